theorem zl_in0 : ∀ w ∈ u_ws RX0 TX0 2, w ∈ zWL := by
  have e : u_ws RX0 TX0 2 = ([223, 225] : List Nat).filterMap (fun i => tables_1[i]?) := by decide +kernel
  have g : (u_ws RX0 TX0 2).all goodWord = true := by decide +kernel
  intro w hw
  have h1 := List.all_eq_true.mp g w hw
  rw [e] at hw
  obtain ⟨i, -, hi⟩ := List.mem_filterMap.mp hw
  exact List.mem_append_left _ (List.mem_filter.mpr ⟨List.mem_of_getElem? hi, h1⟩)
theorem zl_in1 : ∀ w ∈ u_ws RX1 TX1 6, w ∈ zWL := by
  have e : u_ws RX1 TX1 6 = ([285, 287, 289, 291, 293, 295] : List Nat).filterMap (fun i => tables_1[i]?) := by decide +kernel
  have g : (u_ws RX1 TX1 6).all goodWord = true := by decide +kernel
  intro w hw
  have h1 := List.all_eq_true.mp g w hw
  rw [e] at hw
  obtain ⟨i, -, hi⟩ := List.mem_filterMap.mp hw
  exact List.mem_append_left _ (List.mem_filter.mpr ⟨List.mem_of_getElem? hi, h1⟩)
theorem zl_in2 : ∀ w ∈ u_ws RX2 TX2 5, w ∈ zWL := by
  have e : u_ws RX2 TX2 5 = ([321, 323, 325, 327, 329] : List Nat).filterMap (fun i => tables_1[i]?) := by decide +kernel
  have g : (u_ws RX2 TX2 5).all goodWord = true := by decide +kernel
  intro w hw
  have h1 := List.all_eq_true.mp g w hw
  rw [e] at hw
  obtain ⟨i, -, hi⟩ := List.mem_filterMap.mp hw
  exact List.mem_append_left _ (List.mem_filter.mpr ⟨List.mem_of_getElem? hi, h1⟩)
theorem zl_in3 : ∀ w ∈ u_ws RX3 TX3 12, w ∈ zWL := by
  have e : u_ws RX3 TX3 12 = ([146, 148, 150, 152, 154, 156, 158, 160, 162, 164, 166, 168] : List Nat).filterMap (fun i => tables_1[i]?) := by decide +kernel
  have g : (u_ws RX3 TX3 12).all goodWord = true := by decide +kernel
  intro w hw
  have h1 := List.all_eq_true.mp g w hw
  rw [e] at hw
  obtain ⟨i, -, hi⟩ := List.mem_filterMap.mp hw
  exact List.mem_append_left _ (List.mem_filter.mpr ⟨List.mem_of_getElem? hi, h1⟩)
theorem zl_in4 : ∀ w ∈ u_ws RX4 TX4 3, w ∈ zWL := by
  have e : u_ws RX4 TX4 3 = ([302, 304, 306] : List Nat).filterMap (fun i => tables_1[i]?) := by decide +kernel
  have g : (u_ws RX4 TX4 3).all goodWord = true := by decide +kernel
  intro w hw
  have h1 := List.all_eq_true.mp g w hw
  rw [e] at hw
  obtain ⟨i, -, hi⟩ := List.mem_filterMap.mp hw
  exact List.mem_append_left _ (List.mem_filter.mpr ⟨List.mem_of_getElem? hi, h1⟩)
theorem zl_in5 : ∀ w ∈ u_ws RX5 TX5 7, w ∈ zWL := by
  have e : u_ws RX5 TX5 7 = ([239, 241, 243, 245, 247, 249, 251] : List Nat).filterMap (fun i => tables_1[i]?) := by decide +kernel
  have g : (u_ws RX5 TX5 7).all goodWord = true := by decide +kernel
  intro w hw
  have h1 := List.all_eq_true.mp g w hw
  rw [e] at hw
  obtain ⟨i, -, hi⟩ := List.mem_filterMap.mp hw
  exact List.mem_append_left _ (List.mem_filter.mpr ⟨List.mem_of_getElem? hi, h1⟩)
theorem zl_in6 : ∀ w ∈ u_ws RX6 TX6 7, w ∈ zWL := by
  have e : u_ws RX6 TX6 7 = ([199, 201, 203, 205, 207, 209, 211] : List Nat).filterMap (fun i => tables_1[i]?) := by decide +kernel
  have g : (u_ws RX6 TX6 7).all goodWord = true := by decide +kernel
  intro w hw
  have h1 := List.all_eq_true.mp g w hw
  rw [e] at hw
  obtain ⟨i, -, hi⟩ := List.mem_filterMap.mp hw
  exact List.mem_append_left _ (List.mem_filter.mpr ⟨List.mem_of_getElem? hi, h1⟩)
theorem zl_in7 : ∀ w ∈ u_ws RX7 TX7 2, w ∈ zWL := by
  have e : u_ws RX7 TX7 2 = ([40, 42] : List Nat).filterMap (fun i => tables_1[i]?) := by decide +kernel
  have g : (u_ws RX7 TX7 2).all goodWord = true := by decide +kernel
  intro w hw
  have h1 := List.all_eq_true.mp g w hw
  rw [e] at hw
  obtain ⟨i, -, hi⟩ := List.mem_filterMap.mp hw
  exact List.mem_append_left _ (List.mem_filter.mpr ⟨List.mem_of_getElem? hi, h1⟩)
theorem zl_in8 : ∀ w ∈ u_ws RX8 TX8 5, w ∈ zWL := by
  have e : u_ws RX8 TX8 5 = ([120, 122, 124, 126, 128] : List Nat).filterMap (fun i => tables_1[i]?) := by decide +kernel
  have g : (u_ws RX8 TX8 5).all goodWord = true := by decide +kernel
  intro w hw
  have h1 := List.all_eq_true.mp g w hw
  rw [e] at hw
  obtain ⟨i, -, hi⟩ := List.mem_filterMap.mp hw
  exact List.mem_append_left _ (List.mem_filter.mpr ⟨List.mem_of_getElem? hi, h1⟩)
theorem zl_in9 : ∀ w ∈ u_ws RX9 TX9 14, w ∈ zWL := by
  have e : u_ws RX9 TX9 14 = ([391, 393, 395, 397, 399, 401, 403, 405, 407, 409, 411, 413, 415, 417] : List Nat).filterMap (fun i => tables_1[i]?) := by decide +kernel
  have g : (u_ws RX9 TX9 14).all goodWord = true := by decide +kernel
  intro w hw
  have h1 := List.all_eq_true.mp g w hw
  rw [e] at hw
  obtain ⟨i, -, hi⟩ := List.mem_filterMap.mp hw
  exact List.mem_append_left _ (List.mem_filter.mpr ⟨List.mem_of_getElem? hi, h1⟩)
theorem zl_in10 : ∀ w ∈ u_ws RX10 TX10 14, w ∈ zWL := by
  have e : u_ws RX10 TX10 14 = ([434, 436, 438, 440, 442, 444, 446, 448, 450, 452, 454, 456, 458, 460] : List Nat).filterMap (fun i => tables_1[i]?) := by decide +kernel
  have g : (u_ws RX10 TX10 14).all goodWord = true := by decide +kernel
  intro w hw
  have h1 := List.all_eq_true.mp g w hw
  rw [e] at hw
  obtain ⟨i, -, hi⟩ := List.mem_filterMap.mp hw
  exact List.mem_append_left _ (List.mem_filter.mpr ⟨List.mem_of_getElem? hi, h1⟩)
theorem zl_in11 : ∀ w ∈ u_ws RX11 TX11 69, w ∈ zWL := by
  have e : u_ws RX11 TX11 69 = ([1203, 1205, 1207, 1209, 1211, 1213, 1215, 1217, 1219, 1221, 1223, 1225, 1227, 1229, 1231, 1233, 1235, 1237, 1239, 1241, 1243, 1245, 1247, 1249, 1251, 1253, 1255, 1257, 1259, 1261, 1263, 1265, 1267, 1269, 1271, 1273, 1275, 1277, 1279, 1281, 1283, 1285, 1287, 1289, 1291, 1293, 1295, 1297, 1299, 1301, 1303, 1305, 1307, 1309, 1311, 1313, 1315, 1317, 1319, 1321, 1323, 1325, 1327, 1329, 1331, 1333, 1335, 1337, 1339] : List Nat).filterMap (fun i => tables_1[i]?) := by decide +kernel
  have g : (u_ws RX11 TX11 69).all goodWord = true := by decide +kernel
  intro w hw
  have h1 := List.all_eq_true.mp g w hw
  rw [e] at hw
  obtain ⟨i, -, hi⟩ := List.mem_filterMap.mp hw
  exact List.mem_append_left _ (List.mem_filter.mpr ⟨List.mem_of_getElem? hi, h1⟩)
theorem zb_nb (x : Int32) : -128 ≤ (vp_nar .byte x).toInt ∧ (vp_nar .byte x).toInt ≤ 127 := by
  rw [vp_nar_byte, Int8.toInt_toInt32]
  have h1 := Int8.le_toInt x.toInt8
  have h2 := Int8.toInt_lt x.toInt8
  omega
theorem zb_nz {x : Int32} (h : 0 ≤ x.toInt ∧ x.toInt ≤ 1) : vp_nar .boolean x = x := by
  rcases (show x.toInt = 0 ∨ x.toInt = 1 by omega) with q | q
  · rw [show x = 0 from Int32.toInt_inj.mp q]; rfl
  · rw [show x = 1 from Int32.toInt_inj.mp q]; rfl
section ZLINKS
variable {rs : va_W} {cs sl : Nat} {κ : Int} {b : Nat} {d : zD2} {L : List Nat} {kd : Nat → Nat} {A : Nat → Prop} {nL : Nat} {p : Program} {l : Launch} {e : Env} {R : Room} {s : State} {m : MethodId} {args : Array Value} {below : List Frame} {meth : Method} {c : Code} {cc : ByteArray} {Q : State → Prop} {σ : zS} {pc : Nat} {lv : List (Nat × Value)} {st : List Value} {a : Nat}
set_option maxRecDepth 20000 in
theorem zkl_X7_9 : Cond.fieldLink RX7 9 (TX7 0).1 (TX7 0).2.1 (TX7 0).2.2.1 ∈ zWL := zw1 (List.mem_of_getElem? (i := 36) rfl) rfl
set_option maxRecDepth 20000 in
theorem zk_X7_9 : Cond.fieldLink RX7 9 (TX7 0).1 (TX7 0).2.1 (TX7 0).2.2.1 ∈ zWL ∨ ∃ host, Cond.fieldLinkNest RX7 9 (TX7 0).1 (TX7 0).2.1 (TX7 0).2.2.1 host ∈ tables_1 := Or.inl (zw1 (List.mem_of_getElem? (i := 36) rfl) rfl)
theorem fg_X7_9 (X : zX d L kd A nL p s m args c cc RX7) (hI : zI κ b L kd σ) (ha : zT L kd a 7) (hdg : decode cc pc = .ok (.getfield 9, 3)) (k : ∀ y : Nat, σ.2.2 a 0 = some y → zT L kd y 39 → zGc rs cs sl d L kd A nL p l e R s m args below meth c Q σ (pc + 3) lv (.ref y :: st)) : zGc rs cs sl d L kd A nL p l e R s m args below meth c Q σ pc lv (.ref a :: st) := by
  obtain ⟨y, hy, hT⟩ := zi_ref hI ha (show zf _ 7 0 = some 39 from rfl)
  have q := k y hy hT
  exact zg_getr X ha rfl (by decide) rfl (by decide) rfl zl_in7 zk_X7_9 hdg (by rw [hy]; exact q)
set_option maxRecDepth 20000 in
theorem zk_X10_91 : Cond.fieldLink RX10 91 (TX7 0).1 (TX7 0).2.1 (TX7 0).2.2.1 ∈ zWL ∨ ∃ host, Cond.fieldLinkNest RX10 91 (TX7 0).1 (TX7 0).2.1 (TX7 0).2.2.1 host ∈ tables_1 := Or.inr ⟨"SourceDispute", (zt1 (List.mem_of_getElem? (i := 37) rfl))⟩
theorem fg_X10_91 (X : zX d L kd A nL p s m args c cc RX10) (hI : zI κ b L kd σ) (ha : zT L kd a 7) (hdg : decode cc pc = .ok (.getfield 91, 3)) (k : ∀ y : Nat, σ.2.2 a 0 = some y → zT L kd y 39 → zGc rs cs sl d L kd A nL p l e R s m args below meth c Q σ (pc + 3) lv (.ref y :: st)) : zGc rs cs sl d L kd A nL p l e R s m args below meth c Q σ pc lv (.ref a :: st) := by
  obtain ⟨y, hy, hT⟩ := zi_ref hI ha (show zf _ 7 0 = some 39 from rfl)
  have q := k y hy hT
  exact zg_getr X ha rfl (by decide) rfl (by decide) rfl zl_in7 zk_X10_91 hdg (by rw [hy]; exact q)
set_option maxRecDepth 20000 in
theorem zkl_X7_15 : Cond.fieldLink RX7 15 (TX7 1).1 (TX7 1).2.1 (TX7 1).2.2.1 ∈ zWL := zw1 (List.mem_of_getElem? (i := 38) rfl) rfl
set_option maxRecDepth 20000 in
theorem zk_X7_15 : Cond.fieldLink RX7 15 (TX7 1).1 (TX7 1).2.1 (TX7 1).2.2.1 ∈ zWL ∨ ∃ host, Cond.fieldLinkNest RX7 15 (TX7 1).1 (TX7 1).2.1 (TX7 1).2.2.1 host ∈ tables_1 := Or.inl (zw1 (List.mem_of_getElem? (i := 38) rfl) rfl)
theorem fg_X7_15 (X : zX d L kd A nL p s m args c cc RX7) (hI : zI κ b L kd σ) (ha : zT L kd a 7) (hdg : decode cc pc = .ok (.getfield 15, 3)) (k : ∀ v : Int32, v = σ.1 a 1 → κ ≤ v.toInt ∧ v.toInt ≤ κ → zGc rs cs sl d L kd A nL p l e R s m args below meth c Q σ (pc + 3) lv (.int v :: st)) : zGc rs cs sl d L kd A nL p l e R s m args below meth c Q σ pc lv (.ref a :: st) := zg_geti X ha rfl (by decide) rfl (by decide) rfl zl_in7 zk_X7_15 hdg (k _ rfl (zi_get hI ha rfl))
theorem fq_X7_15 (X : zX d L kd A nL p s m args c cc RX7) {v : Int32} (ha : zT L kd a 7) (hdg : decode cc pc = .ok (.putfield 15, 3)) (k : ∀ σ2 : zS, σ2 = (zu σ.1 a 1 v, σ.2.1, σ.2.2) → zGc rs cs sl d L kd A nL p l e R s m args below meth c Q σ2 (pc + 3) lv st) : zGc rs cs sl d L kd A nL p l e R s m args below meth c Q σ pc lv (.int v :: .ref a :: st) := zg_puti (ty := .int) X ha rfl (by decide) rfl (by decide) rfl rfl zl_in7 tyX7_ok nmX7 zk_X7_15 rfl (by decide +kernel) rfl rfl hdg k
set_option maxRecDepth 20000 in
theorem zk_X10_84 : Cond.fieldLink RX10 84 (TX7 1).1 (TX7 1).2.1 (TX7 1).2.2.1 ∈ zWL ∨ ∃ host, Cond.fieldLinkNest RX10 84 (TX7 1).1 (TX7 1).2.1 (TX7 1).2.2.1 host ∈ tables_1 := Or.inr ⟨"SourceDispute", (zt1 (List.mem_of_getElem? (i := 39) rfl))⟩
theorem fg_X10_84 (X : zX d L kd A nL p s m args c cc RX10) (hI : zI κ b L kd σ) (ha : zT L kd a 7) (hdg : decode cc pc = .ok (.getfield 84, 3)) (k : ∀ v : Int32, v = σ.1 a 1 → κ ≤ v.toInt ∧ v.toInt ≤ κ → zGc rs cs sl d L kd A nL p l e R s m args below meth c Q σ (pc + 3) lv (.int v :: st)) : zGc rs cs sl d L kd A nL p l e R s m args below meth c Q σ pc lv (.ref a :: st) := zg_geti X ha rfl (by decide) rfl (by decide) rfl zl_in7 zk_X10_84 hdg (k _ rfl (zi_get hI ha rfl))
theorem fq_X10_84 (X : zX d L kd A nL p s m args c cc RX10) {v : Int32} (ha : zT L kd a 7) (hdg : decode cc pc = .ok (.putfield 84, 3)) (k : ∀ σ2 : zS, σ2 = (zu σ.1 a 1 v, σ.2.1, σ.2.2) → zGc rs cs sl d L kd A nL p l e R s m args below meth c Q σ2 (pc + 3) lv st) : zGc rs cs sl d L kd A nL p l e R s m args below meth c Q σ pc lv (.int v :: .ref a :: st) := zg_puti (ty := .int) X ha rfl (by decide) rfl (by decide) rfl rfl zl_in7 tyX7_ok nmX7 zk_X10_84 rfl (by decide +kernel) rfl rfl hdg k
set_option maxRecDepth 20000 in
theorem zkl_X8_9 : Cond.fieldLink RX8 9 (TX8 0).1 (TX8 0).2.1 (TX8 0).2.2.1 ∈ zWL := zw1 (List.mem_of_getElem? (i := 111) rfl) rfl
set_option maxRecDepth 20000 in
theorem zk_X8_9 : Cond.fieldLink RX8 9 (TX8 0).1 (TX8 0).2.1 (TX8 0).2.2.1 ∈ zWL ∨ ∃ host, Cond.fieldLinkNest RX8 9 (TX8 0).1 (TX8 0).2.1 (TX8 0).2.2.1 host ∈ tables_1 := Or.inl (zw1 (List.mem_of_getElem? (i := 111) rfl) rfl)
theorem fg_X8_9 (X : zX d L kd A nL p s m args c cc RX8) (hI : zI κ b L kd σ) (ha : zT L kd a 8) (hdg : decode cc pc = .ok (.getfield 9, 3)) (k : ∀ y : Nat, σ.2.2 a 0 = some y → zT L kd y 40 → zGc rs cs sl d L kd A nL p l e R s m args below meth c Q σ (pc + 3) lv (.ref y :: st)) : zGc rs cs sl d L kd A nL p l e R s m args below meth c Q σ pc lv (.ref a :: st) := by
  obtain ⟨y, hy, hT⟩ := zi_ref hI ha (show zf _ 8 0 = some 40 from rfl)
  have q := k y hy hT
  exact zg_getr X ha rfl (by decide) rfl (by decide) rfl zl_in8 zk_X8_9 hdg (by rw [hy]; exact q)
set_option maxRecDepth 20000 in
theorem zkl_X8_13 : Cond.fieldLink RX8 13 (TX8 1).1 (TX8 1).2.1 (TX8 1).2.2.1 ∈ zWL := zw1 (List.mem_of_getElem? (i := 112) rfl) rfl
set_option maxRecDepth 20000 in
theorem zk_X8_13 : Cond.fieldLink RX8 13 (TX8 1).1 (TX8 1).2.1 (TX8 1).2.2.1 ∈ zWL ∨ ∃ host, Cond.fieldLinkNest RX8 13 (TX8 1).1 (TX8 1).2.1 (TX8 1).2.2.1 host ∈ tables_1 := Or.inl (zw1 (List.mem_of_getElem? (i := 112) rfl) rfl)
theorem fg_X8_13 (X : zX d L kd A nL p s m args c cc RX8) (hI : zI κ b L kd σ) (ha : zT L kd a 8) (hdg : decode cc pc = .ok (.getfield 13, 3)) (k : ∀ y : Nat, σ.2.2 a 1 = some y → zT L kd y 41 → zGc rs cs sl d L kd A nL p l e R s m args below meth c Q σ (pc + 3) lv (.ref y :: st)) : zGc rs cs sl d L kd A nL p l e R s m args below meth c Q σ pc lv (.ref a :: st) := by
  obtain ⟨y, hy, hT⟩ := zi_ref hI ha (show zf _ 8 1 = some 41 from rfl)
  have q := k y hy hT
  exact zg_getr X ha rfl (by decide) rfl (by decide) rfl zl_in8 zk_X8_13 hdg (by rw [hy]; exact q)
set_option maxRecDepth 20000 in
theorem zk_X3_163 : Cond.fieldLink RX3 163 (TX8 1).1 (TX8 1).2.1 (TX8 1).2.2.1 ∈ zWL ∨ ∃ host, Cond.fieldLinkNest RX3 163 (TX8 1).1 (TX8 1).2.1 (TX8 1).2.2.1 host ∈ tables_1 := Or.inr ⟨"SourceDispute", (zt1 (List.mem_of_getElem? (i := 113) rfl))⟩
theorem fg_X3_163 (X : zX d L kd A nL p s m args c cc RX3) (hI : zI κ b L kd σ) (ha : zT L kd a 8) (hdg : decode cc pc = .ok (.getfield 163, 3)) (k : ∀ y : Nat, σ.2.2 a 1 = some y → zT L kd y 41 → zGc rs cs sl d L kd A nL p l e R s m args below meth c Q σ (pc + 3) lv (.ref y :: st)) : zGc rs cs sl d L kd A nL p l e R s m args below meth c Q σ pc lv (.ref a :: st) := by
  obtain ⟨y, hy, hT⟩ := zi_ref hI ha (show zf _ 8 1 = some 41 from rfl)
  have q := k y hy hT
  exact zg_getr X ha rfl (by decide) rfl (by decide) rfl zl_in8 zk_X3_163 hdg (by rw [hy]; exact q)
set_option maxRecDepth 20000 in
theorem zkl_X8_17 : Cond.fieldLink RX8 17 (TX8 2).1 (TX8 2).2.1 (TX8 2).2.2.1 ∈ zWL := zw1 (List.mem_of_getElem? (i := 114) rfl) rfl
set_option maxRecDepth 20000 in
theorem zk_X8_17 : Cond.fieldLink RX8 17 (TX8 2).1 (TX8 2).2.1 (TX8 2).2.2.1 ∈ zWL ∨ ∃ host, Cond.fieldLinkNest RX8 17 (TX8 2).1 (TX8 2).2.1 (TX8 2).2.2.1 host ∈ tables_1 := Or.inl (zw1 (List.mem_of_getElem? (i := 114) rfl) rfl)
theorem fg_X8_17 (X : zX d L kd A nL p s m args c cc RX8) (hI : zI κ b L kd σ) (ha : zT L kd a 8) (hdg : decode cc pc = .ok (.getfield 17, 3)) (k : ∀ y : Nat, σ.2.2 a 2 = some y → zT L kd y 42 → zGc rs cs sl d L kd A nL p l e R s m args below meth c Q σ (pc + 3) lv (.ref y :: st)) : zGc rs cs sl d L kd A nL p l e R s m args below meth c Q σ pc lv (.ref a :: st) := by
  obtain ⟨y, hy, hT⟩ := zi_ref hI ha (show zf _ 8 2 = some 42 from rfl)
  have q := k y hy hT
  exact zg_getr X ha rfl (by decide) rfl (by decide) rfl zl_in8 zk_X8_17 hdg (by rw [hy]; exact q)
set_option maxRecDepth 20000 in
theorem zk_X3_166 : Cond.fieldLink RX3 166 (TX8 2).1 (TX8 2).2.1 (TX8 2).2.2.1 ∈ zWL ∨ ∃ host, Cond.fieldLinkNest RX3 166 (TX8 2).1 (TX8 2).2.1 (TX8 2).2.2.1 host ∈ tables_1 := Or.inr ⟨"SourceDispute", (zt1 (List.mem_of_getElem? (i := 115) rfl))⟩
theorem fg_X3_166 (X : zX d L kd A nL p s m args c cc RX3) (hI : zI κ b L kd σ) (ha : zT L kd a 8) (hdg : decode cc pc = .ok (.getfield 166, 3)) (k : ∀ y : Nat, σ.2.2 a 2 = some y → zT L kd y 42 → zGc rs cs sl d L kd A nL p l e R s m args below meth c Q σ (pc + 3) lv (.ref y :: st)) : zGc rs cs sl d L kd A nL p l e R s m args below meth c Q σ pc lv (.ref a :: st) := by
  obtain ⟨y, hy, hT⟩ := zi_ref hI ha (show zf _ 8 2 = some 42 from rfl)
  have q := k y hy hT
  exact zg_getr X ha rfl (by decide) rfl (by decide) rfl zl_in8 zk_X3_166 hdg (by rw [hy]; exact q)
set_option maxRecDepth 20000 in
theorem zkl_X8_20 : Cond.fieldLink RX8 20 (TX8 3).1 (TX8 3).2.1 (TX8 3).2.2.1 ∈ zWL := zw1 (List.mem_of_getElem? (i := 116) rfl) rfl
set_option maxRecDepth 20000 in
theorem zk_X8_20 : Cond.fieldLink RX8 20 (TX8 3).1 (TX8 3).2.1 (TX8 3).2.2.1 ∈ zWL ∨ ∃ host, Cond.fieldLinkNest RX8 20 (TX8 3).1 (TX8 3).2.1 (TX8 3).2.2.1 host ∈ tables_1 := Or.inl (zw1 (List.mem_of_getElem? (i := 116) rfl) rfl)
theorem fg_X8_20 (X : zX d L kd A nL p s m args c cc RX8) (hI : zI κ b L kd σ) (ha : zT L kd a 8) (hdg : decode cc pc = .ok (.getfield 20, 3)) (k : ∀ y : Nat, σ.2.2 a 3 = some y → zT L kd y 43 → zGc rs cs sl d L kd A nL p l e R s m args below meth c Q σ (pc + 3) lv (.ref y :: st)) : zGc rs cs sl d L kd A nL p l e R s m args below meth c Q σ pc lv (.ref a :: st) := by
  obtain ⟨y, hy, hT⟩ := zi_ref hI ha (show zf _ 8 3 = some 43 from rfl)
  have q := k y hy hT
  exact zg_getr X ha rfl (by decide) rfl (by decide) rfl zl_in8 zk_X8_20 hdg (by rw [hy]; exact q)
set_option maxRecDepth 20000 in
theorem zk_X3_169 : Cond.fieldLink RX3 169 (TX8 3).1 (TX8 3).2.1 (TX8 3).2.2.1 ∈ zWL ∨ ∃ host, Cond.fieldLinkNest RX3 169 (TX8 3).1 (TX8 3).2.1 (TX8 3).2.2.1 host ∈ tables_1 := Or.inr ⟨"SourceDispute", (zt1 (List.mem_of_getElem? (i := 117) rfl))⟩
theorem fg_X3_169 (X : zX d L kd A nL p s m args c cc RX3) (hI : zI κ b L kd σ) (ha : zT L kd a 8) (hdg : decode cc pc = .ok (.getfield 169, 3)) (k : ∀ y : Nat, σ.2.2 a 3 = some y → zT L kd y 43 → zGc rs cs sl d L kd A nL p l e R s m args below meth c Q σ (pc + 3) lv (.ref y :: st)) : zGc rs cs sl d L kd A nL p l e R s m args below meth c Q σ pc lv (.ref a :: st) := by
  obtain ⟨y, hy, hT⟩ := zi_ref hI ha (show zf _ 8 3 = some 43 from rfl)
  have q := k y hy hT
  exact zg_getr X ha rfl (by decide) rfl (by decide) rfl zl_in8 zk_X3_169 hdg (by rw [hy]; exact q)
set_option maxRecDepth 20000 in
theorem zkl_X8_23 : Cond.fieldLink RX8 23 (TX8 4).1 (TX8 4).2.1 (TX8 4).2.2.1 ∈ zWL := zw1 (List.mem_of_getElem? (i := 118) rfl) rfl
set_option maxRecDepth 20000 in
theorem zk_X8_23 : Cond.fieldLink RX8 23 (TX8 4).1 (TX8 4).2.1 (TX8 4).2.2.1 ∈ zWL ∨ ∃ host, Cond.fieldLinkNest RX8 23 (TX8 4).1 (TX8 4).2.1 (TX8 4).2.2.1 host ∈ tables_1 := Or.inl (zw1 (List.mem_of_getElem? (i := 118) rfl) rfl)
theorem fg_X8_23 (X : zX d L kd A nL p s m args c cc RX8) (hI : zI κ b L kd σ) (ha : zT L kd a 8) (hdg : decode cc pc = .ok (.getfield 23, 3)) (k : ∀ v : Int32, v = σ.1 a 4 → 0 ≤ v.toInt ∧ v.toInt ≤ 402 → zGc rs cs sl d L kd A nL p l e R s m args below meth c Q σ (pc + 3) lv (.int v :: st)) : zGc rs cs sl d L kd A nL p l e R s m args below meth c Q σ pc lv (.ref a :: st) := zg_geti X ha rfl (by decide) rfl (by decide) rfl zl_in8 zk_X8_23 hdg (k _ rfl (zi_get hI ha rfl))
theorem fp_X8_23 (X : zX d L kd A nL p s m args c cc RX8) {v : Int32} (hI : zI κ b L kd σ) (ha : zT L kd a 8) (h : 0 ≤ v.toInt ∧ v.toInt ≤ 402) (hdg : decode cc pc = .ok (.putfield 23, 3)) (k : ∀ σ2 : zS, σ2 = (zu σ.1 a 4 v, σ.2.1, σ.2.2) → zI κ b L kd σ2 → zGc rs cs sl d L kd A nL p l e R s m args below meth c Q σ2 (pc + 3) lv st) : zGc rs cs sl d L kd A nL p l e R s m args below meth c Q σ pc lv (.int v :: .ref a :: st) := zg_puti (ty := .int) X ha rfl (by decide) rfl (by decide) rfl rfl zl_in8 tyX8_ok nmX8 zk_X8_23 rfl (by decide +kernel) rfl rfl hdg (fun σ2 h2 => k σ2 h2 (by rw [h2]; exact zi_puti hI ha rfl h.1 h.2))
set_option maxRecDepth 20000 in
theorem zk_X3_162 : Cond.fieldLink RX3 162 (TX8 4).1 (TX8 4).2.1 (TX8 4).2.2.1 ∈ zWL ∨ ∃ host, Cond.fieldLinkNest RX3 162 (TX8 4).1 (TX8 4).2.1 (TX8 4).2.2.1 host ∈ tables_1 := Or.inr ⟨"SourceDispute", (zt1 (List.mem_of_getElem? (i := 119) rfl))⟩
theorem fg_X3_162 (X : zX d L kd A nL p s m args c cc RX3) (hI : zI κ b L kd σ) (ha : zT L kd a 8) (hdg : decode cc pc = .ok (.getfield 162, 3)) (k : ∀ v : Int32, v = σ.1 a 4 → 0 ≤ v.toInt ∧ v.toInt ≤ 402 → zGc rs cs sl d L kd A nL p l e R s m args below meth c Q σ (pc + 3) lv (.int v :: st)) : zGc rs cs sl d L kd A nL p l e R s m args below meth c Q σ pc lv (.ref a :: st) := zg_geti X ha rfl (by decide) rfl (by decide) rfl zl_in8 zk_X3_162 hdg (k _ rfl (zi_get hI ha rfl))
theorem fp_X3_162 (X : zX d L kd A nL p s m args c cc RX3) {v : Int32} (hI : zI κ b L kd σ) (ha : zT L kd a 8) (h : 0 ≤ v.toInt ∧ v.toInt ≤ 402) (hdg : decode cc pc = .ok (.putfield 162, 3)) (k : ∀ σ2 : zS, σ2 = (zu σ.1 a 4 v, σ.2.1, σ.2.2) → zI κ b L kd σ2 → zGc rs cs sl d L kd A nL p l e R s m args below meth c Q σ2 (pc + 3) lv st) : zGc rs cs sl d L kd A nL p l e R s m args below meth c Q σ pc lv (.int v :: .ref a :: st) := zg_puti (ty := .int) X ha rfl (by decide) rfl (by decide) rfl rfl zl_in8 tyX8_ok nmX8 zk_X3_162 rfl (by decide +kernel) rfl rfl hdg (fun σ2 h2 => k σ2 h2 (by rw [h2]; exact zi_puti hI ha rfl h.1 h.2))
set_option maxRecDepth 20000 in
theorem zkl_X3_12 : Cond.fieldLink RX3 12 (TX3 0).1 (TX3 0).2.1 (TX3 0).2.2.1 ∈ zWL := zw1 (List.mem_of_getElem? (i := 133) rfl) rfl
set_option maxRecDepth 20000 in
theorem zk_X3_12 : Cond.fieldLink RX3 12 (TX3 0).1 (TX3 0).2.1 (TX3 0).2.2.1 ∈ zWL ∨ ∃ host, Cond.fieldLinkNest RX3 12 (TX3 0).1 (TX3 0).2.1 (TX3 0).2.2.1 host ∈ tables_1 := Or.inl (zw1 (List.mem_of_getElem? (i := 133) rfl) rfl)
theorem fg_X3_12 (X : zX d L kd A nL p s m args c cc RX3) (hI : zI κ b L kd σ) (ha : zT L kd a 3) (hdg : decode cc pc = .ok (.getfield 12, 3)) (k : ∀ y : Nat, σ.2.2 a 0 = some y → zT L kd y 8 → zGc rs cs sl d L kd A nL p l e R s m args below meth c Q σ (pc + 3) lv (.ref y :: st)) : zGc rs cs sl d L kd A nL p l e R s m args below meth c Q σ pc lv (.ref a :: st) := by
  obtain ⟨y, hy, hT⟩ := zi_ref hI ha (show zf _ 3 0 = some 8 from rfl)
  have q := k y hy hT
  exact zg_getr X ha rfl (by decide) rfl (by decide) rfl zl_in3 zk_X3_12 hdg (by rw [hy]; exact q)
set_option maxRecDepth 20000 in
theorem zkl_X3_18 : Cond.fieldLink RX3 18 (TX3 1).1 (TX3 1).2.1 (TX3 1).2.2.1 ∈ zWL := zw1 (List.mem_of_getElem? (i := 134) rfl) rfl
set_option maxRecDepth 20000 in
theorem zk_X3_18 : Cond.fieldLink RX3 18 (TX3 1).1 (TX3 1).2.1 (TX3 1).2.2.1 ∈ zWL ∨ ∃ host, Cond.fieldLinkNest RX3 18 (TX3 1).1 (TX3 1).2.1 (TX3 1).2.2.1 host ∈ tables_1 := Or.inl (zw1 (List.mem_of_getElem? (i := 134) rfl) rfl)
theorem fg_X3_18 (X : zX d L kd A nL p s m args c cc RX3) (hI : zI κ 2 L kd σ) (ha : zT L kd a 3) (hdg : decode cc pc = .ok (.getfield 18, 3)) (k : ∀ y : Nat, σ.2.2 a 1 = some y → zT L kd y 9 → zGc rs cs sl d L kd A nL p l e R s m args below meth c Q σ (pc + 3) lv (.ref y :: st)) : zGc rs cs sl d L kd A nL p l e R s m args below meth c Q σ pc lv (.ref a :: st) := by
  obtain ⟨y, hy, hT⟩ := zi_ref hI ha (show zf _ 3 1 = some 9 from rfl)
  have q := k y hy hT
  exact zg_getr X ha rfl (by decide) rfl (by decide) rfl zl_in3 zk_X3_18 hdg (by rw [hy]; exact q)
theorem fp_X3_18 (X : zX d L kd A nL p s m args c cc RX3) {y : Nat} (hI : zI κ 0 L kd σ) (ha : zT L kd a 3) (hy : zT L kd y 9) (hdg : decode cc pc = .ok (.putfield 18, 3)) (k : ∀ σ2 : zS, σ2 = (σ.1, σ.2.1, zu σ.2.2 a 1 (some y)) → zI κ 0 L kd σ2 → zGc rs cs sl d L kd A nL p l e R s m args below meth c Q σ2 (pc + 3) lv st) : zGc rs cs sl d L kd A nL p l e R s m args below meth c Q σ pc lv (.ref y :: .ref a :: st) := zg_putr (v := some y) (ty := .object RX9) X ha rfl (by decide) rfl (by decide) rfl rfl zl_in3 tyX3_ok nmX3 zk_X3_18 rfl (by decide +kernel) rfl rfl hdg (fun σ2 h2 => k σ2 h2 (by rw [h2]; exact zi_putn hI ha rfl))
set_option maxRecDepth 20000 in
theorem zkl_X3_22 : Cond.fieldLink RX3 22 (TX3 2).1 (TX3 2).2.1 (TX3 2).2.2.1 ∈ zWL := zw1 (List.mem_of_getElem? (i := 135) rfl) rfl
set_option maxRecDepth 20000 in
theorem zk_X3_22 : Cond.fieldLink RX3 22 (TX3 2).1 (TX3 2).2.1 (TX3 2).2.2.1 ∈ zWL ∨ ∃ host, Cond.fieldLinkNest RX3 22 (TX3 2).1 (TX3 2).2.1 (TX3 2).2.2.1 host ∈ tables_1 := Or.inl (zw1 (List.mem_of_getElem? (i := 135) rfl) rfl)
theorem fg_X3_22 (X : zX d L kd A nL p s m args c cc RX3) (hI : zI κ b L kd σ) (ha : zT L kd a 3) (hdg : decode cc pc = .ok (.getfield 22, 3)) (k : ∀ v : Int32, v = σ.1 a 2 → (-2147483648) ≤ v.toInt ∧ v.toInt ≤ 2147483647 → zGc rs cs sl d L kd A nL p l e R s m args below meth c Q σ (pc + 3) lv (.int v :: st)) : zGc rs cs sl d L kd A nL p l e R s m args below meth c Q σ pc lv (.ref a :: st) := zg_geti X ha rfl (by decide) rfl (by decide) rfl zl_in3 zk_X3_22 hdg (k _ rfl (zi_get hI ha rfl))
theorem fp_X3_22 (X : zX d L kd A nL p s m args c cc RX3) {v : Int32} (hI : zI κ b L kd σ) (ha : zT L kd a 3) (h : (-2147483648) ≤ v.toInt ∧ v.toInt ≤ 2147483647) (hdg : decode cc pc = .ok (.putfield 22, 3)) (k : ∀ σ2 : zS, σ2 = (zu σ.1 a 2 v, σ.2.1, σ.2.2) → zI κ b L kd σ2 → zGc rs cs sl d L kd A nL p l e R s m args below meth c Q σ2 (pc + 3) lv st) : zGc rs cs sl d L kd A nL p l e R s m args below meth c Q σ pc lv (.int v :: .ref a :: st) := zg_puti (ty := .int) X ha rfl (by decide) rfl (by decide) rfl rfl zl_in3 tyX3_ok nmX3 zk_X3_22 rfl (by decide +kernel) rfl rfl hdg (fun σ2 h2 => k σ2 h2 (by rw [h2]; exact zi_puti hI ha rfl h.1 h.2))
set_option maxRecDepth 20000 in
theorem zkl_X3_26 : Cond.fieldLink RX3 26 (TX3 3).1 (TX3 3).2.1 (TX3 3).2.2.1 ∈ zWL := zw1 (List.mem_of_getElem? (i := 136) rfl) rfl
set_option maxRecDepth 20000 in
theorem zk_X3_26 : Cond.fieldLink RX3 26 (TX3 3).1 (TX3 3).2.1 (TX3 3).2.2.1 ∈ zWL ∨ ∃ host, Cond.fieldLinkNest RX3 26 (TX3 3).1 (TX3 3).2.1 (TX3 3).2.2.1 host ∈ tables_1 := Or.inl (zw1 (List.mem_of_getElem? (i := 136) rfl) rfl)
theorem fg_X3_26 (X : zX d L kd A nL p s m args c cc RX3) (hI : zI κ b L kd σ) (ha : zT L kd a 3) (hdg : decode cc pc = .ok (.getfield 26, 3)) (k : ∀ v : Int32, v = σ.1 a 3 → (-2147483648) ≤ v.toInt ∧ v.toInt ≤ 2147483647 → zGc rs cs sl d L kd A nL p l e R s m args below meth c Q σ (pc + 3) lv (.int v :: st)) : zGc rs cs sl d L kd A nL p l e R s m args below meth c Q σ pc lv (.ref a :: st) := zg_geti X ha rfl (by decide) rfl (by decide) rfl zl_in3 zk_X3_26 hdg (k _ rfl (zi_get hI ha rfl))
theorem fp_X3_26 (X : zX d L kd A nL p s m args c cc RX3) {v : Int32} (hI : zI κ b L kd σ) (ha : zT L kd a 3) (h : (-2147483648) ≤ v.toInt ∧ v.toInt ≤ 2147483647) (hdg : decode cc pc = .ok (.putfield 26, 3)) (k : ∀ σ2 : zS, σ2 = (zu σ.1 a 3 v, σ.2.1, σ.2.2) → zI κ b L kd σ2 → zGc rs cs sl d L kd A nL p l e R s m args below meth c Q σ2 (pc + 3) lv st) : zGc rs cs sl d L kd A nL p l e R s m args below meth c Q σ pc lv (.int v :: .ref a :: st) := zg_puti (ty := .int) X ha rfl (by decide) rfl (by decide) rfl rfl zl_in3 tyX3_ok nmX3 zk_X3_26 rfl (by decide +kernel) rfl rfl hdg (fun σ2 h2 => k σ2 h2 (by rw [h2]; exact zi_puti hI ha rfl h.1 h.2))
set_option maxRecDepth 20000 in
theorem zkl_X3_29 : Cond.fieldLink RX3 29 (TX3 4).1 (TX3 4).2.1 (TX3 4).2.2.1 ∈ zWL := zw1 (List.mem_of_getElem? (i := 137) rfl) rfl
set_option maxRecDepth 20000 in
theorem zk_X3_29 : Cond.fieldLink RX3 29 (TX3 4).1 (TX3 4).2.1 (TX3 4).2.2.1 ∈ zWL ∨ ∃ host, Cond.fieldLinkNest RX3 29 (TX3 4).1 (TX3 4).2.1 (TX3 4).2.2.1 host ∈ tables_1 := Or.inl (zw1 (List.mem_of_getElem? (i := 137) rfl) rfl)
theorem fg_X3_29 (X : zX d L kd A nL p s m args c cc RX3) (ha : zT L kd a 3) (hdg : decode cc pc = .ok (.getfield 29, 3)) (k : ∀ v : Int64, v = σ.2.1 a 4 → zGc rs cs sl d L kd A nL p l e R s m args below meth c Q σ (pc + 3) lv (.long v :: st)) : zGc rs cs sl d L kd A nL p l e R s m args below meth c Q σ pc lv (.ref a :: st) := zg_getl X ha rfl (by decide) rfl (by decide) rfl zl_in3 zk_X3_29 hdg (k _ rfl)
theorem fp_X3_29 (X : zX d L kd A nL p s m args c cc RX3) {v : Int64} (hI : zI κ b L kd σ) (ha : zT L kd a 3) (hdg : decode cc pc = .ok (.putfield 29, 3)) (k : ∀ σ2 : zS, σ2 = (σ.1, zu σ.2.1 a 4 v, σ.2.2) → zI κ b L kd σ2 → zGc rs cs sl d L kd A nL p l e R s m args below meth c Q σ2 (pc + 3) lv st) : zGc rs cs sl d L kd A nL p l e R s m args below meth c Q σ pc lv (.long v :: .ref a :: st) := zg_putl (ty := .long) X ha rfl (by decide) rfl (by decide) rfl rfl zl_in3 tyX3_ok nmX3 zk_X3_29 rfl (by decide +kernel) rfl rfl hdg (fun σ2 h2 => k σ2 h2 (by rw [h2]; exact zi_putl hI))
set_option maxRecDepth 20000 in
theorem zkl_X3_33 : Cond.fieldLink RX3 33 (TX3 5).1 (TX3 5).2.1 (TX3 5).2.2.1 ∈ zWL := zw1 (List.mem_of_getElem? (i := 138) rfl) rfl
set_option maxRecDepth 20000 in
theorem zk_X3_33 : Cond.fieldLink RX3 33 (TX3 5).1 (TX3 5).2.1 (TX3 5).2.2.1 ∈ zWL ∨ ∃ host, Cond.fieldLinkNest RX3 33 (TX3 5).1 (TX3 5).2.1 (TX3 5).2.2.1 host ∈ tables_1 := Or.inl (zw1 (List.mem_of_getElem? (i := 138) rfl) rfl)
theorem fg_X3_33 (X : zX d L kd A nL p s m args c cc RX3) (hI : zI κ b L kd σ) (ha : zT L kd a 3) (hdg : decode cc pc = .ok (.getfield 33, 3)) (k : ∀ v : Int32, v = σ.1 a 5 → (-2147483648) ≤ v.toInt ∧ v.toInt ≤ 2147483647 → zGc rs cs sl d L kd A nL p l e R s m args below meth c Q σ (pc + 3) lv (.int v :: st)) : zGc rs cs sl d L kd A nL p l e R s m args below meth c Q σ pc lv (.ref a :: st) := zg_geti X ha rfl (by decide) rfl (by decide) rfl zl_in3 zk_X3_33 hdg (k _ rfl (zi_get hI ha rfl))
theorem fp_X3_33 (X : zX d L kd A nL p s m args c cc RX3) {v : Int32} (hI : zI κ b L kd σ) (ha : zT L kd a 3) (h : (-2147483648) ≤ v.toInt ∧ v.toInt ≤ 2147483647) (hdg : decode cc pc = .ok (.putfield 33, 3)) (k : ∀ σ2 : zS, σ2 = (zu σ.1 a 5 v, σ.2.1, σ.2.2) → zI κ b L kd σ2 → zGc rs cs sl d L kd A nL p l e R s m args below meth c Q σ2 (pc + 3) lv st) : zGc rs cs sl d L kd A nL p l e R s m args below meth c Q σ pc lv (.int v :: .ref a :: st) := zg_puti (ty := .int) X ha rfl (by decide) rfl (by decide) rfl rfl zl_in3 tyX3_ok nmX3 zk_X3_33 rfl (by decide +kernel) rfl rfl hdg (fun σ2 h2 => k σ2 h2 (by rw [h2]; exact zi_puti hI ha rfl h.1 h.2))
set_option maxRecDepth 20000 in
theorem zkl_X3_36 : Cond.fieldLink RX3 36 (TX3 6).1 (TX3 6).2.1 (TX3 6).2.2.1 ∈ zWL := zw1 (List.mem_of_getElem? (i := 139) rfl) rfl
set_option maxRecDepth 20000 in
theorem zk_X3_36 : Cond.fieldLink RX3 36 (TX3 6).1 (TX3 6).2.1 (TX3 6).2.2.1 ∈ zWL ∨ ∃ host, Cond.fieldLinkNest RX3 36 (TX3 6).1 (TX3 6).2.1 (TX3 6).2.2.1 host ∈ tables_1 := Or.inl (zw1 (List.mem_of_getElem? (i := 139) rfl) rfl)
theorem fg_X3_36 (X : zX d L kd A nL p s m args c cc RX3) (hI : zI κ b L kd σ) (ha : zT L kd a 3) (hdg : decode cc pc = .ok (.getfield 36, 3)) (k : ∀ v : Int32, v = σ.1 a 6 → 0 ≤ v.toInt ∧ v.toInt ≤ 1 → zGc rs cs sl d L kd A nL p l e R s m args below meth c Q σ (pc + 3) lv (.int v :: st)) : zGc rs cs sl d L kd A nL p l e R s m args below meth c Q σ pc lv (.ref a :: st) := zg_geti X ha rfl (by decide) rfl (by decide) rfl zl_in3 zk_X3_36 hdg (k _ rfl (zi_get hI ha rfl))
theorem fp_X3_36 (X : zX d L kd A nL p s m args c cc RX3) {v : Int32} (hI : zI κ b L kd σ) (ha : zT L kd a 3) (h : 0 ≤ v.toInt ∧ v.toInt ≤ 1) (hdg : decode cc pc = .ok (.putfield 36, 3)) (k : ∀ σ2 : zS, σ2 = (zu σ.1 a 6 v, σ.2.1, σ.2.2) → zI κ b L kd σ2 → zGc rs cs sl d L kd A nL p l e R s m args below meth c Q σ2 (pc + 3) lv st) : zGc rs cs sl d L kd A nL p l e R s m args below meth c Q σ pc lv (.int v :: .ref a :: st) := zg_puti (ty := .boolean) X ha rfl (by decide) rfl (by decide) rfl rfl zl_in3 tyX3_ok nmX3 zk_X3_36 rfl (by decide +kernel) (zb_bool h) (zb_boolF h) hdg (fun σ2 h2 => k σ2 h2 (by rw [h2]; exact zi_puti hI ha rfl h.1 h.2))
set_option maxRecDepth 20000 in
theorem zkl_X3_40 : Cond.fieldLink RX3 40 (TX3 7).1 (TX3 7).2.1 (TX3 7).2.2.1 ∈ zWL := zw1 (List.mem_of_getElem? (i := 140) rfl) rfl
set_option maxRecDepth 20000 in
theorem zk_X3_40 : Cond.fieldLink RX3 40 (TX3 7).1 (TX3 7).2.1 (TX3 7).2.2.1 ∈ zWL ∨ ∃ host, Cond.fieldLinkNest RX3 40 (TX3 7).1 (TX3 7).2.1 (TX3 7).2.2.1 host ∈ tables_1 := Or.inl (zw1 (List.mem_of_getElem? (i := 140) rfl) rfl)
theorem fg_X3_40 (X : zX d L kd A nL p s m args c cc RX3) (hI : zI κ b L kd σ) (ha : zT L kd a 3) (hdg : decode cc pc = .ok (.getfield 40, 3)) (k : ∀ v : Int32, v = σ.1 a 7 → 0 ≤ v.toInt ∧ v.toInt ≤ 11 → zGc rs cs sl d L kd A nL p l e R s m args below meth c Q σ (pc + 3) lv (.int v :: st)) : zGc rs cs sl d L kd A nL p l e R s m args below meth c Q σ pc lv (.ref a :: st) := zg_geti X ha rfl (by decide) rfl (by decide) rfl zl_in3 zk_X3_40 hdg (k _ rfl (zi_get hI ha rfl))
theorem fp_X3_40 (X : zX d L kd A nL p s m args c cc RX3) {v : Int32} (hI : zI κ b L kd σ) (ha : zT L kd a 3) (h : 0 ≤ v.toInt ∧ v.toInt ≤ 11) (hdg : decode cc pc = .ok (.putfield 40, 3)) (k : ∀ σ2 : zS, σ2 = (zu σ.1 a 7 v, σ.2.1, σ.2.2) → zI κ b L kd σ2 → zGc rs cs sl d L kd A nL p l e R s m args below meth c Q σ2 (pc + 3) lv st) : zGc rs cs sl d L kd A nL p l e R s m args below meth c Q σ pc lv (.int v :: .ref a :: st) := zg_puti (ty := .int) X ha rfl (by decide) rfl (by decide) rfl rfl zl_in3 tyX3_ok nmX3 zk_X3_40 rfl (by decide +kernel) rfl rfl hdg (fun σ2 h2 => k σ2 h2 (by rw [h2]; exact zi_puti hI ha rfl h.1 h.2))
set_option maxRecDepth 20000 in
theorem zkl_X3_43 : Cond.fieldLink RX3 43 (TX3 8).1 (TX3 8).2.1 (TX3 8).2.2.1 ∈ zWL := zw1 (List.mem_of_getElem? (i := 141) rfl) rfl
set_option maxRecDepth 20000 in
theorem zk_X3_43 : Cond.fieldLink RX3 43 (TX3 8).1 (TX3 8).2.1 (TX3 8).2.2.1 ∈ zWL ∨ ∃ host, Cond.fieldLinkNest RX3 43 (TX3 8).1 (TX3 8).2.1 (TX3 8).2.2.1 host ∈ tables_1 := Or.inl (zw1 (List.mem_of_getElem? (i := 141) rfl) rfl)
theorem fg_X3_43 (X : zX d L kd A nL p s m args c cc RX3) (hI : zI κ b L kd σ) (ha : zT L kd a 3) (hdg : decode cc pc = .ok (.getfield 43, 3)) (k : ∀ v : Int32, v = σ.1 a 8 → (-2147483648) ≤ v.toInt ∧ v.toInt ≤ 2147483647 → zGc rs cs sl d L kd A nL p l e R s m args below meth c Q σ (pc + 3) lv (.int v :: st)) : zGc rs cs sl d L kd A nL p l e R s m args below meth c Q σ pc lv (.ref a :: st) := zg_geti X ha rfl (by decide) rfl (by decide) rfl zl_in3 zk_X3_43 hdg (k _ rfl (zi_get hI ha rfl))
theorem fp_X3_43 (X : zX d L kd A nL p s m args c cc RX3) {v : Int32} (hI : zI κ b L kd σ) (ha : zT L kd a 3) (h : (-2147483648) ≤ v.toInt ∧ v.toInt ≤ 2147483647) (hdg : decode cc pc = .ok (.putfield 43, 3)) (k : ∀ σ2 : zS, σ2 = (zu σ.1 a 8 v, σ.2.1, σ.2.2) → zI κ b L kd σ2 → zGc rs cs sl d L kd A nL p l e R s m args below meth c Q σ2 (pc + 3) lv st) : zGc rs cs sl d L kd A nL p l e R s m args below meth c Q σ pc lv (.int v :: .ref a :: st) := zg_puti (ty := .int) X ha rfl (by decide) rfl (by decide) rfl rfl zl_in3 tyX3_ok nmX3 zk_X3_43 rfl (by decide +kernel) rfl rfl hdg (fun σ2 h2 => k σ2 h2 (by rw [h2]; exact zi_puti hI ha rfl h.1 h.2))
set_option maxRecDepth 20000 in
theorem zkl_X3_46 : Cond.fieldLink RX3 46 (TX3 9).1 (TX3 9).2.1 (TX3 9).2.2.1 ∈ zWL := zw1 (List.mem_of_getElem? (i := 142) rfl) rfl
set_option maxRecDepth 20000 in
theorem zk_X3_46 : Cond.fieldLink RX3 46 (TX3 9).1 (TX3 9).2.1 (TX3 9).2.2.1 ∈ zWL ∨ ∃ host, Cond.fieldLinkNest RX3 46 (TX3 9).1 (TX3 9).2.1 (TX3 9).2.2.1 host ∈ tables_1 := Or.inl (zw1 (List.mem_of_getElem? (i := 142) rfl) rfl)
theorem fg_X3_46 (X : zX d L kd A nL p s m args c cc RX3) (hI : zI κ b L kd σ) (ha : zT L kd a 3) (hdg : decode cc pc = .ok (.getfield 46, 3)) (k : ∀ v : Int32, v = σ.1 a 9 → (-2147483648) ≤ v.toInt ∧ v.toInt ≤ 2147483647 → zGc rs cs sl d L kd A nL p l e R s m args below meth c Q σ (pc + 3) lv (.int v :: st)) : zGc rs cs sl d L kd A nL p l e R s m args below meth c Q σ pc lv (.ref a :: st) := zg_geti X ha rfl (by decide) rfl (by decide) rfl zl_in3 zk_X3_46 hdg (k _ rfl (zi_get hI ha rfl))
theorem fp_X3_46 (X : zX d L kd A nL p s m args c cc RX3) {v : Int32} (hI : zI κ b L kd σ) (ha : zT L kd a 3) (h : (-2147483648) ≤ v.toInt ∧ v.toInt ≤ 2147483647) (hdg : decode cc pc = .ok (.putfield 46, 3)) (k : ∀ σ2 : zS, σ2 = (zu σ.1 a 9 v, σ.2.1, σ.2.2) → zI κ b L kd σ2 → zGc rs cs sl d L kd A nL p l e R s m args below meth c Q σ2 (pc + 3) lv st) : zGc rs cs sl d L kd A nL p l e R s m args below meth c Q σ pc lv (.int v :: .ref a :: st) := zg_puti (ty := .int) X ha rfl (by decide) rfl (by decide) rfl rfl zl_in3 tyX3_ok nmX3 zk_X3_46 rfl (by decide +kernel) rfl rfl hdg (fun σ2 h2 => k σ2 h2 (by rw [h2]; exact zi_puti hI ha rfl h.1 h.2))
set_option maxRecDepth 20000 in
theorem zk_X10_99 : Cond.fieldLink RX10 99 (TX3 9).1 (TX3 9).2.1 (TX3 9).2.2.1 ∈ zWL ∨ ∃ host, Cond.fieldLinkNest RX10 99 (TX3 9).1 (TX3 9).2.1 (TX3 9).2.2.1 host ∈ tables_1 := Or.inr ⟨"SourceDispute", (zt1 (List.mem_of_getElem? (i := 143) rfl))⟩
theorem fg_X10_99 (X : zX d L kd A nL p s m args c cc RX10) (hI : zI κ b L kd σ) (ha : zT L kd a 3) (hdg : decode cc pc = .ok (.getfield 99, 3)) (k : ∀ v : Int32, v = σ.1 a 9 → (-2147483648) ≤ v.toInt ∧ v.toInt ≤ 2147483647 → zGc rs cs sl d L kd A nL p l e R s m args below meth c Q σ (pc + 3) lv (.int v :: st)) : zGc rs cs sl d L kd A nL p l e R s m args below meth c Q σ pc lv (.ref a :: st) := zg_geti X ha rfl (by decide) rfl (by decide) rfl zl_in3 zk_X10_99 hdg (k _ rfl (zi_get hI ha rfl))
theorem fp_X10_99 (X : zX d L kd A nL p s m args c cc RX10) {v : Int32} (hI : zI κ b L kd σ) (ha : zT L kd a 3) (h : (-2147483648) ≤ v.toInt ∧ v.toInt ≤ 2147483647) (hdg : decode cc pc = .ok (.putfield 99, 3)) (k : ∀ σ2 : zS, σ2 = (zu σ.1 a 9 v, σ.2.1, σ.2.2) → zI κ b L kd σ2 → zGc rs cs sl d L kd A nL p l e R s m args below meth c Q σ2 (pc + 3) lv st) : zGc rs cs sl d L kd A nL p l e R s m args below meth c Q σ pc lv (.int v :: .ref a :: st) := zg_puti (ty := .int) X ha rfl (by decide) rfl (by decide) rfl rfl zl_in3 tyX3_ok nmX3 zk_X10_99 rfl (by decide +kernel) rfl rfl hdg (fun σ2 h2 => k σ2 h2 (by rw [h2]; exact zi_puti hI ha rfl h.1 h.2))
set_option maxRecDepth 20000 in
theorem zkl_X3_49 : Cond.fieldLink RX3 49 (TX3 10).1 (TX3 10).2.1 (TX3 10).2.2.1 ∈ zWL := zw1 (List.mem_of_getElem? (i := 144) rfl) rfl
set_option maxRecDepth 20000 in
theorem zk_X3_49 : Cond.fieldLink RX3 49 (TX3 10).1 (TX3 10).2.1 (TX3 10).2.2.1 ∈ zWL ∨ ∃ host, Cond.fieldLinkNest RX3 49 (TX3 10).1 (TX3 10).2.1 (TX3 10).2.2.1 host ∈ tables_1 := Or.inl (zw1 (List.mem_of_getElem? (i := 144) rfl) rfl)
theorem fg_X3_49 (X : zX d L kd A nL p s m args c cc RX3) (hI : zI κ b L kd σ) (ha : zT L kd a 3) (hdg : decode cc pc = .ok (.getfield 49, 3)) (k : ∀ v : Int32, v = σ.1 a 10 → (-2147483648) ≤ v.toInt ∧ v.toInt ≤ 2147483647 → zGc rs cs sl d L kd A nL p l e R s m args below meth c Q σ (pc + 3) lv (.int v :: st)) : zGc rs cs sl d L kd A nL p l e R s m args below meth c Q σ pc lv (.ref a :: st) := zg_geti X ha rfl (by decide) rfl (by decide) rfl zl_in3 zk_X3_49 hdg (k _ rfl (zi_get hI ha rfl))
theorem fp_X3_49 (X : zX d L kd A nL p s m args c cc RX3) {v : Int32} (hI : zI κ b L kd σ) (ha : zT L kd a 3) (h : (-2147483648) ≤ v.toInt ∧ v.toInt ≤ 2147483647) (hdg : decode cc pc = .ok (.putfield 49, 3)) (k : ∀ σ2 : zS, σ2 = (zu σ.1 a 10 v, σ.2.1, σ.2.2) → zI κ b L kd σ2 → zGc rs cs sl d L kd A nL p l e R s m args below meth c Q σ2 (pc + 3) lv st) : zGc rs cs sl d L kd A nL p l e R s m args below meth c Q σ pc lv (.int v :: .ref a :: st) := zg_puti (ty := .int) X ha rfl (by decide) rfl (by decide) rfl rfl zl_in3 tyX3_ok nmX3 zk_X3_49 rfl (by decide +kernel) rfl rfl hdg (fun σ2 h2 => k σ2 h2 (by rw [h2]; exact zi_puti hI ha rfl h.1 h.2))
set_option maxRecDepth 20000 in
theorem zkl_X3_52 : Cond.fieldLink RX3 52 (TX3 11).1 (TX3 11).2.1 (TX3 11).2.2.1 ∈ zWL := zw1 (List.mem_of_getElem? (i := 145) rfl) rfl
set_option maxRecDepth 20000 in
theorem zk_X3_52 : Cond.fieldLink RX3 52 (TX3 11).1 (TX3 11).2.1 (TX3 11).2.2.1 ∈ zWL ∨ ∃ host, Cond.fieldLinkNest RX3 52 (TX3 11).1 (TX3 11).2.1 (TX3 11).2.2.1 host ∈ tables_1 := Or.inl (zw1 (List.mem_of_getElem? (i := 145) rfl) rfl)
theorem fg_X3_52 (X : zX d L kd A nL p s m args c cc RX3) (hI : zI κ b L kd σ) (ha : zT L kd a 3) (hdg : decode cc pc = .ok (.getfield 52, 3)) (k : ∀ v : Int32, v = σ.1 a 11 → (-2147483648) ≤ v.toInt ∧ v.toInt ≤ 2147483647 → zGc rs cs sl d L kd A nL p l e R s m args below meth c Q σ (pc + 3) lv (.int v :: st)) : zGc rs cs sl d L kd A nL p l e R s m args below meth c Q σ pc lv (.ref a :: st) := zg_geti X ha rfl (by decide) rfl (by decide) rfl zl_in3 zk_X3_52 hdg (k _ rfl (zi_get hI ha rfl))
theorem fp_X3_52 (X : zX d L kd A nL p s m args c cc RX3) {v : Int32} (hI : zI κ b L kd σ) (ha : zT L kd a 3) (h : (-2147483648) ≤ v.toInt ∧ v.toInt ≤ 2147483647) (hdg : decode cc pc = .ok (.putfield 52, 3)) (k : ∀ σ2 : zS, σ2 = (zu σ.1 a 11 v, σ.2.1, σ.2.2) → zI κ b L kd σ2 → zGc rs cs sl d L kd A nL p l e R s m args below meth c Q σ2 (pc + 3) lv st) : zGc rs cs sl d L kd A nL p l e R s m args below meth c Q σ pc lv (.int v :: .ref a :: st) := zg_puti (ty := .int) X ha rfl (by decide) rfl (by decide) rfl rfl zl_in3 tyX3_ok nmX3 zk_X3_52 rfl (by decide +kernel) rfl rfl hdg (fun σ2 h2 => k σ2 h2 (by rw [h2]; exact zi_puti hI ha rfl h.1 h.2))
set_option maxRecDepth 20000 in
theorem zkl_X6_9 : Cond.fieldLink RX6 9 (TX6 0).1 (TX6 0).2.1 (TX6 0).2.2.1 ∈ zWL := zw1 (List.mem_of_getElem? (i := 183) rfl) rfl
set_option maxRecDepth 20000 in
theorem zk_X6_9 : Cond.fieldLink RX6 9 (TX6 0).1 (TX6 0).2.1 (TX6 0).2.2.1 ∈ zWL ∨ ∃ host, Cond.fieldLinkNest RX6 9 (TX6 0).1 (TX6 0).2.1 (TX6 0).2.2.1 host ∈ tables_1 := Or.inl (zw1 (List.mem_of_getElem? (i := 183) rfl) rfl)
theorem fg_X6_9 (X : zX d L kd A nL p s m args c cc RX6) (hI : zI κ b L kd σ) (ha : zT L kd a 6) (hdg : decode cc pc = .ok (.getfield 9, 3)) (k : ∀ v : Int32, v = σ.1 a 0 → 0 ≤ v.toInt ∧ v.toInt ≤ 12 → zGc rs cs sl d L kd A nL p l e R s m args below meth c Q σ (pc + 3) lv (.int v :: st)) : zGc rs cs sl d L kd A nL p l e R s m args below meth c Q σ pc lv (.ref a :: st) := zg_geti X ha rfl (by decide) rfl (by decide) rfl zl_in6 zk_X6_9 hdg (k _ rfl (zi_get hI ha rfl))
theorem fp_X6_9 (X : zX d L kd A nL p s m args c cc RX6) {v : Int32} (hI : zI κ b L kd σ) (ha : zT L kd a 6) (h : 0 ≤ v.toInt ∧ v.toInt ≤ 12) (hdg : decode cc pc = .ok (.putfield 9, 3)) (k : ∀ σ2 : zS, σ2 = (zu σ.1 a 0 v, σ.2.1, σ.2.2) → zI κ b L kd σ2 → zGc rs cs sl d L kd A nL p l e R s m args below meth c Q σ2 (pc + 3) lv st) : zGc rs cs sl d L kd A nL p l e R s m args below meth c Q σ pc lv (.int v :: .ref a :: st) := zg_puti (ty := .int) X ha rfl (by decide) rfl (by decide) rfl rfl zl_in6 tyX6_ok nmX6 zk_X6_9 rfl (by decide +kernel) rfl rfl hdg (fun σ2 h2 => k σ2 h2 (by rw [h2]; exact zi_puti hI ha rfl h.1 h.2))
set_option maxRecDepth 20000 in
theorem zk_X2_29 : Cond.fieldLink RX2 29 (TX6 0).1 (TX6 0).2.1 (TX6 0).2.2.1 ∈ zWL ∨ ∃ host, Cond.fieldLinkNest RX2 29 (TX6 0).1 (TX6 0).2.1 (TX6 0).2.2.1 host ∈ tables_1 := Or.inr ⟨"SourceDispute", (zt1 (List.mem_of_getElem? (i := 184) rfl))⟩
theorem fg_X2_29 (X : zX d L kd A nL p s m args c cc RX2) (hI : zI κ b L kd σ) (ha : zT L kd a 6) (hdg : decode cc pc = .ok (.getfield 29, 3)) (k : ∀ v : Int32, v = σ.1 a 0 → 0 ≤ v.toInt ∧ v.toInt ≤ 12 → zGc rs cs sl d L kd A nL p l e R s m args below meth c Q σ (pc + 3) lv (.int v :: st)) : zGc rs cs sl d L kd A nL p l e R s m args below meth c Q σ pc lv (.ref a :: st) := zg_geti X ha rfl (by decide) rfl (by decide) rfl zl_in6 zk_X2_29 hdg (k _ rfl (zi_get hI ha rfl))
theorem fp_X2_29 (X : zX d L kd A nL p s m args c cc RX2) {v : Int32} (hI : zI κ b L kd σ) (ha : zT L kd a 6) (h : 0 ≤ v.toInt ∧ v.toInt ≤ 12) (hdg : decode cc pc = .ok (.putfield 29, 3)) (k : ∀ σ2 : zS, σ2 = (zu σ.1 a 0 v, σ.2.1, σ.2.2) → zI κ b L kd σ2 → zGc rs cs sl d L kd A nL p l e R s m args below meth c Q σ2 (pc + 3) lv st) : zGc rs cs sl d L kd A nL p l e R s m args below meth c Q σ pc lv (.int v :: .ref a :: st) := zg_puti (ty := .int) X ha rfl (by decide) rfl (by decide) rfl rfl zl_in6 tyX6_ok nmX6 zk_X2_29 rfl (by decide +kernel) rfl rfl hdg (fun σ2 h2 => k σ2 h2 (by rw [h2]; exact zi_puti hI ha rfl h.1 h.2))
set_option maxRecDepth 20000 in
theorem zk_X5_64 : Cond.fieldLink RX5 64 (TX6 0).1 (TX6 0).2.1 (TX6 0).2.2.1 ∈ zWL ∨ ∃ host, Cond.fieldLinkNest RX5 64 (TX6 0).1 (TX6 0).2.1 (TX6 0).2.2.1 host ∈ tables_1 := Or.inr ⟨"SourceDispute", (zt1 (List.mem_of_getElem? (i := 185) rfl))⟩
theorem fg_X5_64 (X : zX d L kd A nL p s m args c cc RX5) (hI : zI κ b L kd σ) (ha : zT L kd a 6) (hdg : decode cc pc = .ok (.getfield 64, 3)) (k : ∀ v : Int32, v = σ.1 a 0 → 0 ≤ v.toInt ∧ v.toInt ≤ 12 → zGc rs cs sl d L kd A nL p l e R s m args below meth c Q σ (pc + 3) lv (.int v :: st)) : zGc rs cs sl d L kd A nL p l e R s m args below meth c Q σ pc lv (.ref a :: st) := zg_geti X ha rfl (by decide) rfl (by decide) rfl zl_in6 zk_X5_64 hdg (k _ rfl (zi_get hI ha rfl))
theorem fp_X5_64 (X : zX d L kd A nL p s m args c cc RX5) {v : Int32} (hI : zI κ b L kd σ) (ha : zT L kd a 6) (h : 0 ≤ v.toInt ∧ v.toInt ≤ 12) (hdg : decode cc pc = .ok (.putfield 64, 3)) (k : ∀ σ2 : zS, σ2 = (zu σ.1 a 0 v, σ.2.1, σ.2.2) → zI κ b L kd σ2 → zGc rs cs sl d L kd A nL p l e R s m args below meth c Q σ2 (pc + 3) lv st) : zGc rs cs sl d L kd A nL p l e R s m args below meth c Q σ pc lv (.int v :: .ref a :: st) := zg_puti (ty := .int) X ha rfl (by decide) rfl (by decide) rfl rfl zl_in6 tyX6_ok nmX6 zk_X5_64 rfl (by decide +kernel) rfl rfl hdg (fun σ2 h2 => k σ2 h2 (by rw [h2]; exact zi_puti hI ha rfl h.1 h.2))
set_option maxRecDepth 20000 in
theorem zkl_X6_15 : Cond.fieldLink RX6 15 (TX6 1).1 (TX6 1).2.1 (TX6 1).2.2.1 ∈ zWL := zw1 (List.mem_of_getElem? (i := 186) rfl) rfl
set_option maxRecDepth 20000 in
theorem zk_X6_15 : Cond.fieldLink RX6 15 (TX6 1).1 (TX6 1).2.1 (TX6 1).2.2.1 ∈ zWL ∨ ∃ host, Cond.fieldLinkNest RX6 15 (TX6 1).1 (TX6 1).2.1 (TX6 1).2.2.1 host ∈ tables_1 := Or.inl (zw1 (List.mem_of_getElem? (i := 186) rfl) rfl)
theorem fg_X6_15 (X : zX d L kd A nL p s m args c cc RX6) (hI : zI κ b L kd σ) (ha : zT L kd a 6) (hdg : decode cc pc = .ok (.getfield 15, 3)) (k : ∀ y : Nat, σ.2.2 a 1 = some y → zT L kd y 33 → zGc rs cs sl d L kd A nL p l e R s m args below meth c Q σ (pc + 3) lv (.ref y :: st)) : zGc rs cs sl d L kd A nL p l e R s m args below meth c Q σ pc lv (.ref a :: st) := by
  obtain ⟨y, hy, hT⟩ := zi_ref hI ha (show zf _ 6 1 = some 33 from rfl)
  have q := k y hy hT
  exact zg_getr X ha rfl (by decide) rfl (by decide) rfl zl_in6 zk_X6_15 hdg (by rw [hy]; exact q)
set_option maxRecDepth 20000 in
theorem zkl_X6_19 : Cond.fieldLink RX6 19 (TX6 2).1 (TX6 2).2.1 (TX6 2).2.2.1 ∈ zWL := zw1 (List.mem_of_getElem? (i := 187) rfl) rfl
set_option maxRecDepth 20000 in
theorem zk_X6_19 : Cond.fieldLink RX6 19 (TX6 2).1 (TX6 2).2.1 (TX6 2).2.2.1 ∈ zWL ∨ ∃ host, Cond.fieldLinkNest RX6 19 (TX6 2).1 (TX6 2).2.1 (TX6 2).2.2.1 host ∈ tables_1 := Or.inl (zw1 (List.mem_of_getElem? (i := 187) rfl) rfl)
theorem fg_X6_19 (X : zX d L kd A nL p s m args c cc RX6) (hI : zI κ b L kd σ) (ha : zT L kd a 6) (hdg : decode cc pc = .ok (.getfield 19, 3)) (k : ∀ y : Nat, σ.2.2 a 2 = some y → zT L kd y 34 → zGc rs cs sl d L kd A nL p l e R s m args below meth c Q σ (pc + 3) lv (.ref y :: st)) : zGc rs cs sl d L kd A nL p l e R s m args below meth c Q σ pc lv (.ref a :: st) := by
  obtain ⟨y, hy, hT⟩ := zi_ref hI ha (show zf _ 6 2 = some 34 from rfl)
  have q := k y hy hT
  exact zg_getr X ha rfl (by decide) rfl (by decide) rfl zl_in6 zk_X6_19 hdg (by rw [hy]; exact q)
set_option maxRecDepth 20000 in
theorem zk_X5_82 : Cond.fieldLink RX5 82 (TX6 2).1 (TX6 2).2.1 (TX6 2).2.2.1 ∈ zWL ∨ ∃ host, Cond.fieldLinkNest RX5 82 (TX6 2).1 (TX6 2).2.1 (TX6 2).2.2.1 host ∈ tables_1 := Or.inr ⟨"SourceDispute", (zt1 (List.mem_of_getElem? (i := 188) rfl))⟩
theorem fg_X5_82 (X : zX d L kd A nL p s m args c cc RX5) (hI : zI κ b L kd σ) (ha : zT L kd a 6) (hdg : decode cc pc = .ok (.getfield 82, 3)) (k : ∀ y : Nat, σ.2.2 a 2 = some y → zT L kd y 34 → zGc rs cs sl d L kd A nL p l e R s m args below meth c Q σ (pc + 3) lv (.ref y :: st)) : zGc rs cs sl d L kd A nL p l e R s m args below meth c Q σ pc lv (.ref a :: st) := by
  obtain ⟨y, hy, hT⟩ := zi_ref hI ha (show zf _ 6 2 = some 34 from rfl)
  have q := k y hy hT
  exact zg_getr X ha rfl (by decide) rfl (by decide) rfl zl_in6 zk_X5_82 hdg (by rw [hy]; exact q)
set_option maxRecDepth 20000 in
theorem zkl_X6_22 : Cond.fieldLink RX6 22 (TX6 3).1 (TX6 3).2.1 (TX6 3).2.2.1 ∈ zWL := zw1 (List.mem_of_getElem? (i := 189) rfl) rfl
set_option maxRecDepth 20000 in
theorem zk_X6_22 : Cond.fieldLink RX6 22 (TX6 3).1 (TX6 3).2.1 (TX6 3).2.2.1 ∈ zWL ∨ ∃ host, Cond.fieldLinkNest RX6 22 (TX6 3).1 (TX6 3).2.1 (TX6 3).2.2.1 host ∈ tables_1 := Or.inl (zw1 (List.mem_of_getElem? (i := 189) rfl) rfl)
theorem fg_X6_22 (X : zX d L kd A nL p s m args c cc RX6) (hI : zI κ b L kd σ) (ha : zT L kd a 6) (hdg : decode cc pc = .ok (.getfield 22, 3)) (k : ∀ y : Nat, σ.2.2 a 3 = some y → zT L kd y 35 → zGc rs cs sl d L kd A nL p l e R s m args below meth c Q σ (pc + 3) lv (.ref y :: st)) : zGc rs cs sl d L kd A nL p l e R s m args below meth c Q σ pc lv (.ref a :: st) := by
  obtain ⟨y, hy, hT⟩ := zi_ref hI ha (show zf _ 6 3 = some 35 from rfl)
  have q := k y hy hT
  exact zg_getr X ha rfl (by decide) rfl (by decide) rfl zl_in6 zk_X6_22 hdg (by rw [hy]; exact q)
set_option maxRecDepth 20000 in
theorem zk_X2_46 : Cond.fieldLink RX2 46 (TX6 3).1 (TX6 3).2.1 (TX6 3).2.2.1 ∈ zWL ∨ ∃ host, Cond.fieldLinkNest RX2 46 (TX6 3).1 (TX6 3).2.1 (TX6 3).2.2.1 host ∈ tables_1 := Or.inr ⟨"SourceDispute", (zt1 (List.mem_of_getElem? (i := 190) rfl))⟩
theorem fg_X2_46 (X : zX d L kd A nL p s m args c cc RX2) (hI : zI κ b L kd σ) (ha : zT L kd a 6) (hdg : decode cc pc = .ok (.getfield 46, 3)) (k : ∀ y : Nat, σ.2.2 a 3 = some y → zT L kd y 35 → zGc rs cs sl d L kd A nL p l e R s m args below meth c Q σ (pc + 3) lv (.ref y :: st)) : zGc rs cs sl d L kd A nL p l e R s m args below meth c Q σ pc lv (.ref a :: st) := by
  obtain ⟨y, hy, hT⟩ := zi_ref hI ha (show zf _ 6 3 = some 35 from rfl)
  have q := k y hy hT
  exact zg_getr X ha rfl (by decide) rfl (by decide) rfl zl_in6 zk_X2_46 hdg (by rw [hy]; exact q)
set_option maxRecDepth 20000 in
theorem zk_X10_138 : Cond.fieldLink RX10 138 (TX6 3).1 (TX6 3).2.1 (TX6 3).2.2.1 ∈ zWL ∨ ∃ host, Cond.fieldLinkNest RX10 138 (TX6 3).1 (TX6 3).2.1 (TX6 3).2.2.1 host ∈ tables_1 := Or.inr ⟨"SourceDispute", (zt1 (List.mem_of_getElem? (i := 191) rfl))⟩
theorem fg_X10_138 (X : zX d L kd A nL p s m args c cc RX10) (hI : zI κ b L kd σ) (ha : zT L kd a 6) (hdg : decode cc pc = .ok (.getfield 138, 3)) (k : ∀ y : Nat, σ.2.2 a 3 = some y → zT L kd y 35 → zGc rs cs sl d L kd A nL p l e R s m args below meth c Q σ (pc + 3) lv (.ref y :: st)) : zGc rs cs sl d L kd A nL p l e R s m args below meth c Q σ pc lv (.ref a :: st) := by
  obtain ⟨y, hy, hT⟩ := zi_ref hI ha (show zf _ 6 3 = some 35 from rfl)
  have q := k y hy hT
  exact zg_getr X ha rfl (by decide) rfl (by decide) rfl zl_in6 zk_X10_138 hdg (by rw [hy]; exact q)
set_option maxRecDepth 20000 in
theorem zk_X5_102 : Cond.fieldLink RX5 102 (TX6 3).1 (TX6 3).2.1 (TX6 3).2.2.1 ∈ zWL ∨ ∃ host, Cond.fieldLinkNest RX5 102 (TX6 3).1 (TX6 3).2.1 (TX6 3).2.2.1 host ∈ tables_1 := Or.inr ⟨"SourceDispute", (zt1 (List.mem_of_getElem? (i := 192) rfl))⟩
theorem fg_X5_102 (X : zX d L kd A nL p s m args c cc RX5) (hI : zI κ b L kd σ) (ha : zT L kd a 6) (hdg : decode cc pc = .ok (.getfield 102, 3)) (k : ∀ y : Nat, σ.2.2 a 3 = some y → zT L kd y 35 → zGc rs cs sl d L kd A nL p l e R s m args below meth c Q σ (pc + 3) lv (.ref y :: st)) : zGc rs cs sl d L kd A nL p l e R s m args below meth c Q σ pc lv (.ref a :: st) := by
  obtain ⟨y, hy, hT⟩ := zi_ref hI ha (show zf _ 6 3 = some 35 from rfl)
  have q := k y hy hT
  exact zg_getr X ha rfl (by decide) rfl (by decide) rfl zl_in6 zk_X5_102 hdg (by rw [hy]; exact q)
set_option maxRecDepth 20000 in
theorem zkl_X6_25 : Cond.fieldLink RX6 25 (TX6 4).1 (TX6 4).2.1 (TX6 4).2.2.1 ∈ zWL := zw1 (List.mem_of_getElem? (i := 193) rfl) rfl
set_option maxRecDepth 20000 in
theorem zk_X6_25 : Cond.fieldLink RX6 25 (TX6 4).1 (TX6 4).2.1 (TX6 4).2.2.1 ∈ zWL ∨ ∃ host, Cond.fieldLinkNest RX6 25 (TX6 4).1 (TX6 4).2.1 (TX6 4).2.2.1 host ∈ tables_1 := Or.inl (zw1 (List.mem_of_getElem? (i := 193) rfl) rfl)
theorem fg_X6_25 (X : zX d L kd A nL p s m args c cc RX6) (hI : zI κ b L kd σ) (ha : zT L kd a 6) (hdg : decode cc pc = .ok (.getfield 25, 3)) (k : ∀ y : Nat, σ.2.2 a 4 = some y → zT L kd y 36 → zGc rs cs sl d L kd A nL p l e R s m args below meth c Q σ (pc + 3) lv (.ref y :: st)) : zGc rs cs sl d L kd A nL p l e R s m args below meth c Q σ pc lv (.ref a :: st) := by
  obtain ⟨y, hy, hT⟩ := zi_ref hI ha (show zf _ 6 4 = some 36 from rfl)
  have q := k y hy hT
  exact zg_getr X ha rfl (by decide) rfl (by decide) rfl zl_in6 zk_X6_25 hdg (by rw [hy]; exact q)
set_option maxRecDepth 20000 in
theorem zk_X10_143 : Cond.fieldLink RX10 143 (TX6 4).1 (TX6 4).2.1 (TX6 4).2.2.1 ∈ zWL ∨ ∃ host, Cond.fieldLinkNest RX10 143 (TX6 4).1 (TX6 4).2.1 (TX6 4).2.2.1 host ∈ tables_1 := Or.inr ⟨"SourceDispute", (zt1 (List.mem_of_getElem? (i := 194) rfl))⟩
theorem fg_X10_143 (X : zX d L kd A nL p s m args c cc RX10) (hI : zI κ b L kd σ) (ha : zT L kd a 6) (hdg : decode cc pc = .ok (.getfield 143, 3)) (k : ∀ y : Nat, σ.2.2 a 4 = some y → zT L kd y 36 → zGc rs cs sl d L kd A nL p l e R s m args below meth c Q σ (pc + 3) lv (.ref y :: st)) : zGc rs cs sl d L kd A nL p l e R s m args below meth c Q σ pc lv (.ref a :: st) := by
  obtain ⟨y, hy, hT⟩ := zi_ref hI ha (show zf _ 6 4 = some 36 from rfl)
  have q := k y hy hT
  exact zg_getr X ha rfl (by decide) rfl (by decide) rfl zl_in6 zk_X10_143 hdg (by rw [hy]; exact q)
set_option maxRecDepth 20000 in
theorem zk_X5_118 : Cond.fieldLink RX5 118 (TX6 4).1 (TX6 4).2.1 (TX6 4).2.2.1 ∈ zWL ∨ ∃ host, Cond.fieldLinkNest RX5 118 (TX6 4).1 (TX6 4).2.1 (TX6 4).2.2.1 host ∈ tables_1 := Or.inr ⟨"SourceDispute", (zt1 (List.mem_of_getElem? (i := 195) rfl))⟩
theorem fg_X5_118 (X : zX d L kd A nL p s m args c cc RX5) (hI : zI κ b L kd σ) (ha : zT L kd a 6) (hdg : decode cc pc = .ok (.getfield 118, 3)) (k : ∀ y : Nat, σ.2.2 a 4 = some y → zT L kd y 36 → zGc rs cs sl d L kd A nL p l e R s m args below meth c Q σ (pc + 3) lv (.ref y :: st)) : zGc rs cs sl d L kd A nL p l e R s m args below meth c Q σ pc lv (.ref a :: st) := by
  obtain ⟨y, hy, hT⟩ := zi_ref hI ha (show zf _ 6 4 = some 36 from rfl)
  have q := k y hy hT
  exact zg_getr X ha rfl (by decide) rfl (by decide) rfl zl_in6 zk_X5_118 hdg (by rw [hy]; exact q)
set_option maxRecDepth 20000 in
theorem zkl_X6_28 : Cond.fieldLink RX6 28 (TX6 5).1 (TX6 5).2.1 (TX6 5).2.2.1 ∈ zWL := zw1 (List.mem_of_getElem? (i := 196) rfl) rfl
set_option maxRecDepth 20000 in
theorem zk_X6_28 : Cond.fieldLink RX6 28 (TX6 5).1 (TX6 5).2.1 (TX6 5).2.2.1 ∈ zWL ∨ ∃ host, Cond.fieldLinkNest RX6 28 (TX6 5).1 (TX6 5).2.1 (TX6 5).2.2.1 host ∈ tables_1 := Or.inl (zw1 (List.mem_of_getElem? (i := 196) rfl) rfl)
theorem fg_X6_28 (X : zX d L kd A nL p s m args c cc RX6) (hI : zI κ b L kd σ) (ha : zT L kd a 6) (hdg : decode cc pc = .ok (.getfield 28, 3)) (k : ∀ y : Nat, σ.2.2 a 5 = some y → zT L kd y 37 → zGc rs cs sl d L kd A nL p l e R s m args below meth c Q σ (pc + 3) lv (.ref y :: st)) : zGc rs cs sl d L kd A nL p l e R s m args below meth c Q σ pc lv (.ref a :: st) := by
  obtain ⟨y, hy, hT⟩ := zi_ref hI ha (show zf _ 6 5 = some 37 from rfl)
  have q := k y hy hT
  exact zg_getr X ha rfl (by decide) rfl (by decide) rfl zl_in6 zk_X6_28 hdg (by rw [hy]; exact q)
set_option maxRecDepth 20000 in
theorem zkl_X6_31 : Cond.fieldLink RX6 31 (TX6 6).1 (TX6 6).2.1 (TX6 6).2.2.1 ∈ zWL := zw1 (List.mem_of_getElem? (i := 197) rfl) rfl
set_option maxRecDepth 20000 in
theorem zk_X6_31 : Cond.fieldLink RX6 31 (TX6 6).1 (TX6 6).2.1 (TX6 6).2.2.1 ∈ zWL ∨ ∃ host, Cond.fieldLinkNest RX6 31 (TX6 6).1 (TX6 6).2.1 (TX6 6).2.2.1 host ∈ tables_1 := Or.inl (zw1 (List.mem_of_getElem? (i := 197) rfl) rfl)
theorem fg_X6_31 (X : zX d L kd A nL p s m args c cc RX6) (hI : zI κ b L kd σ) (ha : zT L kd a 6) (hdg : decode cc pc = .ok (.getfield 31, 3)) (k : ∀ y : Nat, σ.2.2 a 6 = some y → zT L kd y 38 → zGc rs cs sl d L kd A nL p l e R s m args below meth c Q σ (pc + 3) lv (.ref y :: st)) : zGc rs cs sl d L kd A nL p l e R s m args below meth c Q σ pc lv (.ref a :: st) := by
  obtain ⟨y, hy, hT⟩ := zi_ref hI ha (show zf _ 6 6 = some 38 from rfl)
  have q := k y hy hT
  exact zg_getr X ha rfl (by decide) rfl (by decide) rfl zl_in6 zk_X6_31 hdg (by rw [hy]; exact q)
set_option maxRecDepth 20000 in
theorem zk_X2_49 : Cond.fieldLink RX2 49 (TX6 6).1 (TX6 6).2.1 (TX6 6).2.2.1 ∈ zWL ∨ ∃ host, Cond.fieldLinkNest RX2 49 (TX6 6).1 (TX6 6).2.1 (TX6 6).2.2.1 host ∈ tables_1 := Or.inr ⟨"SourceDispute", (zt1 (List.mem_of_getElem? (i := 198) rfl))⟩
theorem fg_X2_49 (X : zX d L kd A nL p s m args c cc RX2) (hI : zI κ b L kd σ) (ha : zT L kd a 6) (hdg : decode cc pc = .ok (.getfield 49, 3)) (k : ∀ y : Nat, σ.2.2 a 6 = some y → zT L kd y 38 → zGc rs cs sl d L kd A nL p l e R s m args below meth c Q σ (pc + 3) lv (.ref y :: st)) : zGc rs cs sl d L kd A nL p l e R s m args below meth c Q σ pc lv (.ref a :: st) := by
  obtain ⟨y, hy, hT⟩ := zi_ref hI ha (show zf _ 6 6 = some 38 from rfl)
  have q := k y hy hT
  exact zg_getr X ha rfl (by decide) rfl (by decide) rfl zl_in6 zk_X2_49 hdg (by rw [hy]; exact q)
set_option maxRecDepth 20000 in
theorem zkl_X0_9 : Cond.fieldLink RX0 9 (TX0 0).1 (TX0 0).2.1 (TX0 0).2.2.1 ∈ zWL := zw1 (List.mem_of_getElem? (i := 220) rfl) rfl
set_option maxRecDepth 20000 in
theorem zk_X0_9 : Cond.fieldLink RX0 9 (TX0 0).1 (TX0 0).2.1 (TX0 0).2.2.1 ∈ zWL ∨ ∃ host, Cond.fieldLinkNest RX0 9 (TX0 0).1 (TX0 0).2.1 (TX0 0).2.2.1 host ∈ tables_1 := Or.inl (zw1 (List.mem_of_getElem? (i := 220) rfl) rfl)
theorem fg_X0_9 (X : zX d L kd A nL p s m args c cc RX0) (hI : zI κ b L kd σ) (ha : zT L kd a 0) (hdg : decode cc pc = .ok (.getfield 9, 3)) (k : ∀ y : Nat, σ.2.2 a 0 = some y → zT L kd y 20 → zGc rs cs sl d L kd A nL p l e R s m args below meth c Q σ (pc + 3) lv (.ref y :: st)) : zGc rs cs sl d L kd A nL p l e R s m args below meth c Q σ pc lv (.ref a :: st) := by
  obtain ⟨y, hy, hT⟩ := zi_ref hI ha (show zf _ 0 0 = some 20 from rfl)
  have q := k y hy hT
  exact zg_getr X ha rfl (by decide) rfl (by decide) rfl zl_in0 zk_X0_9 hdg (by rw [hy]; exact q)
set_option maxRecDepth 20000 in
theorem zk_X5_96 : Cond.fieldLink RX5 96 (TX0 0).1 (TX0 0).2.1 (TX0 0).2.2.1 ∈ zWL ∨ ∃ host, Cond.fieldLinkNest RX5 96 (TX0 0).1 (TX0 0).2.1 (TX0 0).2.2.1 host ∈ tables_1 := Or.inr ⟨"SourceDispute", (zt1 (List.mem_of_getElem? (i := 221) rfl))⟩
theorem fg_X5_96 (X : zX d L kd A nL p s m args c cc RX5) (hI : zI κ b L kd σ) (ha : zT L kd a 0) (hdg : decode cc pc = .ok (.getfield 96, 3)) (k : ∀ y : Nat, σ.2.2 a 0 = some y → zT L kd y 20 → zGc rs cs sl d L kd A nL p l e R s m args below meth c Q σ (pc + 3) lv (.ref y :: st)) : zGc rs cs sl d L kd A nL p l e R s m args below meth c Q σ pc lv (.ref a :: st) := by
  obtain ⟨y, hy, hT⟩ := zi_ref hI ha (show zf _ 0 0 = some 20 from rfl)
  have q := k y hy hT
  exact zg_getr X ha rfl (by decide) rfl (by decide) rfl zl_in0 zk_X5_96 hdg (by rw [hy]; exact q)
set_option maxRecDepth 20000 in
theorem zkl_X0_13 : Cond.fieldLink RX0 13 (TX0 1).1 (TX0 1).2.1 (TX0 1).2.2.1 ∈ zWL := zw1 (List.mem_of_getElem? (i := 222) rfl) rfl
set_option maxRecDepth 20000 in
theorem zk_X0_13 : Cond.fieldLink RX0 13 (TX0 1).1 (TX0 1).2.1 (TX0 1).2.2.1 ∈ zWL ∨ ∃ host, Cond.fieldLinkNest RX0 13 (TX0 1).1 (TX0 1).2.1 (TX0 1).2.2.1 host ∈ tables_1 := Or.inl (zw1 (List.mem_of_getElem? (i := 222) rfl) rfl)
theorem fg_X0_13 (X : zX d L kd A nL p s m args c cc RX0) (hI : zI κ b L kd σ) (ha : zT L kd a 0) (hdg : decode cc pc = .ok (.getfield 13, 3)) (k : ∀ y : Nat, σ.2.2 a 1 = some y → zT L kd y 21 → zGc rs cs sl d L kd A nL p l e R s m args below meth c Q σ (pc + 3) lv (.ref y :: st)) : zGc rs cs sl d L kd A nL p l e R s m args below meth c Q σ pc lv (.ref a :: st) := by
  obtain ⟨y, hy, hT⟩ := zi_ref hI ha (show zf _ 0 1 = some 21 from rfl)
  have q := k y hy hT
  exact zg_getr X ha rfl (by decide) rfl (by decide) rfl zl_in0 zk_X0_13 hdg (by rw [hy]; exact q)
set_option maxRecDepth 20000 in
theorem zkl_X5_12 : Cond.fieldLink RX5 12 (TX5 0).1 (TX5 0).2.1 (TX5 0).2.2.1 ∈ zWL := zw1 (List.mem_of_getElem? (i := 228) rfl) rfl
set_option maxRecDepth 20000 in
theorem zk_X5_12 : Cond.fieldLink RX5 12 (TX5 0).1 (TX5 0).2.1 (TX5 0).2.2.1 ∈ zWL ∨ ∃ host, Cond.fieldLinkNest RX5 12 (TX5 0).1 (TX5 0).2.1 (TX5 0).2.2.1 host ∈ tables_1 := Or.inl (zw1 (List.mem_of_getElem? (i := 228) rfl) rfl)
theorem fg_X5_12 (X : zX d L kd A nL p s m args c cc RX5) (hI : zI κ b L kd σ) (ha : zT L kd a 5) (hdg : decode cc pc = .ok (.getfield 12, 3)) (k : ∀ y : Nat, σ.2.2 a 0 = some y → zT L kd y 6 → zGc rs cs sl d L kd A nL p l e R s m args below meth c Q σ (pc + 3) lv (.ref y :: st)) : zGc rs cs sl d L kd A nL p l e R s m args below meth c Q σ pc lv (.ref a :: st) := by
  obtain ⟨y, hy, hT⟩ := zi_ref hI ha (show zf _ 5 0 = some 6 from rfl)
  have q := k y hy hT
  exact zg_getr X ha rfl (by decide) rfl (by decide) rfl zl_in5 zk_X5_12 hdg (by rw [hy]; exact q)
set_option maxRecDepth 20000 in
theorem zk_X10_30 : Cond.fieldLink RX10 30 (TX5 0).1 (TX5 0).2.1 (TX5 0).2.2.1 ∈ zWL ∨ ∃ host, Cond.fieldLinkNest RX10 30 (TX5 0).1 (TX5 0).2.1 (TX5 0).2.2.1 host ∈ tables_1 := Or.inr ⟨"SourceDispute", (zt1 (List.mem_of_getElem? (i := 229) rfl))⟩
theorem fg_X10_30 (X : zX d L kd A nL p s m args c cc RX10) (hI : zI κ b L kd σ) (ha : zT L kd a 5) (hdg : decode cc pc = .ok (.getfield 30, 3)) (k : ∀ y : Nat, σ.2.2 a 0 = some y → zT L kd y 6 → zGc rs cs sl d L kd A nL p l e R s m args below meth c Q σ (pc + 3) lv (.ref y :: st)) : zGc rs cs sl d L kd A nL p l e R s m args below meth c Q σ pc lv (.ref a :: st) := by
  obtain ⟨y, hy, hT⟩ := zi_ref hI ha (show zf _ 5 0 = some 6 from rfl)
  have q := k y hy hT
  exact zg_getr X ha rfl (by decide) rfl (by decide) rfl zl_in5 zk_X10_30 hdg (by rw [hy]; exact q)
set_option maxRecDepth 20000 in
theorem zkl_X5_21 : Cond.fieldLink RX5 21 (TX5 1).1 (TX5 1).2.1 (TX5 1).2.2.1 ∈ zWL := zw1 (List.mem_of_getElem? (i := 230) rfl) rfl
set_option maxRecDepth 20000 in
theorem zk_X5_21 : Cond.fieldLink RX5 21 (TX5 1).1 (TX5 1).2.1 (TX5 1).2.2.1 ∈ zWL ∨ ∃ host, Cond.fieldLinkNest RX5 21 (TX5 1).1 (TX5 1).2.1 (TX5 1).2.2.1 host ∈ tables_1 := Or.inl (zw1 (List.mem_of_getElem? (i := 230) rfl) rfl)
theorem fg_X5_21 (X : zX d L kd A nL p s m args c cc RX5) (hI : zI κ b L kd σ) (ha : zT L kd a 5) (hdg : decode cc pc = .ok (.getfield 21, 3)) (k : ∀ y : Nat, σ.2.2 a 1 = some y → zT L kd y 0 → zGc rs cs sl d L kd A nL p l e R s m args below meth c Q σ (pc + 3) lv (.ref y :: st)) : zGc rs cs sl d L kd A nL p l e R s m args below meth c Q σ pc lv (.ref a :: st) := by
  obtain ⟨y, hy, hT⟩ := zi_ref hI ha (show zf _ 5 1 = some 0 from rfl)
  have q := k y hy hT
  exact zg_getr X ha rfl (by decide) rfl (by decide) rfl zl_in5 zk_X5_21 hdg (by rw [hy]; exact q)
set_option maxRecDepth 20000 in
theorem zkl_X5_25 : Cond.fieldLink RX5 25 (TX5 2).1 (TX5 2).2.1 (TX5 2).2.2.1 ∈ zWL := zw1 (List.mem_of_getElem? (i := 231) rfl) rfl
set_option maxRecDepth 20000 in
theorem zk_X5_25 : Cond.fieldLink RX5 25 (TX5 2).1 (TX5 2).2.1 (TX5 2).2.2.1 ∈ zWL ∨ ∃ host, Cond.fieldLinkNest RX5 25 (TX5 2).1 (TX5 2).2.1 (TX5 2).2.2.1 host ∈ tables_1 := Or.inl (zw1 (List.mem_of_getElem? (i := 231) rfl) rfl)
theorem fg_X5_25 (X : zX d L kd A nL p s m args c cc RX5) (hI : zI κ b L kd σ) (ha : zT L kd a 5) (hdg : decode cc pc = .ok (.getfield 25, 3)) (k : ∀ y : Nat, σ.2.2 a 2 = some y → zT L kd y 30 → zGc rs cs sl d L kd A nL p l e R s m args below meth c Q σ (pc + 3) lv (.ref y :: st)) : zGc rs cs sl d L kd A nL p l e R s m args below meth c Q σ pc lv (.ref a :: st) := by
  obtain ⟨y, hy, hT⟩ := zi_ref hI ha (show zf _ 5 2 = some 30 from rfl)
  have q := k y hy hT
  exact zg_getr X ha rfl (by decide) rfl (by decide) rfl zl_in5 zk_X5_25 hdg (by rw [hy]; exact q)
set_option maxRecDepth 20000 in
theorem zk_X10_155 : Cond.fieldLink RX10 155 (TX5 2).1 (TX5 2).2.1 (TX5 2).2.2.1 ∈ zWL ∨ ∃ host, Cond.fieldLinkNest RX10 155 (TX5 2).1 (TX5 2).2.1 (TX5 2).2.2.1 host ∈ tables_1 := Or.inr ⟨"SourceDispute", (zt1 (List.mem_of_getElem? (i := 232) rfl))⟩
theorem fg_X10_155 (X : zX d L kd A nL p s m args c cc RX10) (hI : zI κ b L kd σ) (ha : zT L kd a 5) (hdg : decode cc pc = .ok (.getfield 155, 3)) (k : ∀ y : Nat, σ.2.2 a 2 = some y → zT L kd y 30 → zGc rs cs sl d L kd A nL p l e R s m args below meth c Q σ (pc + 3) lv (.ref y :: st)) : zGc rs cs sl d L kd A nL p l e R s m args below meth c Q σ pc lv (.ref a :: st) := by
  obtain ⟨y, hy, hT⟩ := zi_ref hI ha (show zf _ 5 2 = some 30 from rfl)
  have q := k y hy hT
  exact zg_getr X ha rfl (by decide) rfl (by decide) rfl zl_in5 zk_X10_155 hdg (by rw [hy]; exact q)
set_option maxRecDepth 20000 in
theorem zkl_X5_29 : Cond.fieldLink RX5 29 (TX5 3).1 (TX5 3).2.1 (TX5 3).2.2.1 ∈ zWL := zw1 (List.mem_of_getElem? (i := 233) rfl) rfl
set_option maxRecDepth 20000 in
theorem zk_X5_29 : Cond.fieldLink RX5 29 (TX5 3).1 (TX5 3).2.1 (TX5 3).2.2.1 ∈ zWL ∨ ∃ host, Cond.fieldLinkNest RX5 29 (TX5 3).1 (TX5 3).2.1 (TX5 3).2.2.1 host ∈ tables_1 := Or.inl (zw1 (List.mem_of_getElem? (i := 233) rfl) rfl)
theorem fg_X5_29 (X : zX d L kd A nL p s m args c cc RX5) (hI : zI κ b L kd σ) (ha : zT L kd a 5) (hdg : decode cc pc = .ok (.getfield 29, 3)) (k : ∀ y : Nat, σ.2.2 a 3 = some y → zT L kd y 31 → zGc rs cs sl d L kd A nL p l e R s m args below meth c Q σ (pc + 3) lv (.ref y :: st)) : zGc rs cs sl d L kd A nL p l e R s m args below meth c Q σ pc lv (.ref a :: st) := by
  obtain ⟨y, hy, hT⟩ := zi_ref hI ha (show zf _ 5 3 = some 31 from rfl)
  have q := k y hy hT
  exact zg_getr X ha rfl (by decide) rfl (by decide) rfl zl_in5 zk_X5_29 hdg (by rw [hy]; exact q)
set_option maxRecDepth 20000 in
theorem zk_X10_135 : Cond.fieldLink RX10 135 (TX5 3).1 (TX5 3).2.1 (TX5 3).2.2.1 ∈ zWL ∨ ∃ host, Cond.fieldLinkNest RX10 135 (TX5 3).1 (TX5 3).2.1 (TX5 3).2.2.1 host ∈ tables_1 := Or.inr ⟨"SourceDispute", (zt1 (List.mem_of_getElem? (i := 234) rfl))⟩
theorem fg_X10_135 (X : zX d L kd A nL p s m args c cc RX10) (hI : zI κ b L kd σ) (ha : zT L kd a 5) (hdg : decode cc pc = .ok (.getfield 135, 3)) (k : ∀ y : Nat, σ.2.2 a 3 = some y → zT L kd y 31 → zGc rs cs sl d L kd A nL p l e R s m args below meth c Q σ (pc + 3) lv (.ref y :: st)) : zGc rs cs sl d L kd A nL p l e R s m args below meth c Q σ pc lv (.ref a :: st) := by
  obtain ⟨y, hy, hT⟩ := zi_ref hI ha (show zf _ 5 3 = some 31 from rfl)
  have q := k y hy hT
  exact zg_getr X ha rfl (by decide) rfl (by decide) rfl zl_in5 zk_X10_135 hdg (by rw [hy]; exact q)
set_option maxRecDepth 20000 in
theorem zkl_X5_32 : Cond.fieldLink RX5 32 (TX5 4).1 (TX5 4).2.1 (TX5 4).2.2.1 ∈ zWL := zw1 (List.mem_of_getElem? (i := 235) rfl) rfl
set_option maxRecDepth 20000 in
theorem zk_X5_32 : Cond.fieldLink RX5 32 (TX5 4).1 (TX5 4).2.1 (TX5 4).2.2.1 ∈ zWL ∨ ∃ host, Cond.fieldLinkNest RX5 32 (TX5 4).1 (TX5 4).2.1 (TX5 4).2.2.1 host ∈ tables_1 := Or.inl (zw1 (List.mem_of_getElem? (i := 235) rfl) rfl)
theorem fg_X5_32 (X : zX d L kd A nL p s m args c cc RX5) (hI : zI κ b L kd σ) (ha : zT L kd a 5) (hdg : decode cc pc = .ok (.getfield 32, 3)) (k : ∀ y : Nat, σ.2.2 a 4 = some y → zT L kd y 32 → zGc rs cs sl d L kd A nL p l e R s m args below meth c Q σ (pc + 3) lv (.ref y :: st)) : zGc rs cs sl d L kd A nL p l e R s m args below meth c Q σ pc lv (.ref a :: st) := by
  obtain ⟨y, hy, hT⟩ := zi_ref hI ha (show zf _ 5 4 = some 32 from rfl)
  have q := k y hy hT
  exact zg_getr X ha rfl (by decide) rfl (by decide) rfl zl_in5 zk_X5_32 hdg (by rw [hy]; exact q)
set_option maxRecDepth 20000 in
theorem zk_X10_244 : Cond.fieldLink RX10 244 (TX5 4).1 (TX5 4).2.1 (TX5 4).2.2.1 ∈ zWL ∨ ∃ host, Cond.fieldLinkNest RX10 244 (TX5 4).1 (TX5 4).2.1 (TX5 4).2.2.1 host ∈ tables_1 := Or.inr ⟨"SourceDispute", (zt1 (List.mem_of_getElem? (i := 236) rfl))⟩
theorem fg_X10_244 (X : zX d L kd A nL p s m args c cc RX10) (hI : zI κ b L kd σ) (ha : zT L kd a 5) (hdg : decode cc pc = .ok (.getfield 244, 3)) (k : ∀ y : Nat, σ.2.2 a 4 = some y → zT L kd y 32 → zGc rs cs sl d L kd A nL p l e R s m args below meth c Q σ (pc + 3) lv (.ref y :: st)) : zGc rs cs sl d L kd A nL p l e R s m args below meth c Q σ pc lv (.ref a :: st) := by
  obtain ⟨y, hy, hT⟩ := zi_ref hI ha (show zf _ 5 4 = some 32 from rfl)
  have q := k y hy hT
  exact zg_getr X ha rfl (by decide) rfl (by decide) rfl zl_in5 zk_X10_244 hdg (by rw [hy]; exact q)
set_option maxRecDepth 20000 in
theorem zkl_X5_35 : Cond.fieldLink RX5 35 (TX5 5).1 (TX5 5).2.1 (TX5 5).2.2.1 ∈ zWL := zw1 (List.mem_of_getElem? (i := 237) rfl) rfl
set_option maxRecDepth 20000 in
theorem zk_X5_35 : Cond.fieldLink RX5 35 (TX5 5).1 (TX5 5).2.1 (TX5 5).2.2.1 ∈ zWL ∨ ∃ host, Cond.fieldLinkNest RX5 35 (TX5 5).1 (TX5 5).2.1 (TX5 5).2.2.1 host ∈ tables_1 := Or.inl (zw1 (List.mem_of_getElem? (i := 237) rfl) rfl)
theorem fg_X5_35 (X : zX d L kd A nL p s m args c cc RX5) (hI : zI κ 1 L kd σ) (ha : zT L kd a 5) (hdg : decode cc pc = .ok (.getfield 35, 3)) (k : ∀ y : Nat, σ.2.2 a 5 = some y → zT L kd y 9 → zGc rs cs sl d L kd A nL p l e R s m args below meth c Q σ (pc + 3) lv (.ref y :: st)) : zGc rs cs sl d L kd A nL p l e R s m args below meth c Q σ pc lv (.ref a :: st) := by
  obtain ⟨y, hy, hT⟩ := zi_ref hI ha (show zf _ 5 5 = some 9 from rfl)
  have q := k y hy hT
  exact zg_getr X ha rfl (by decide) rfl (by decide) rfl zl_in5 zk_X5_35 hdg (by rw [hy]; exact q)
theorem fp_X5_35 (X : zX d L kd A nL p s m args c cc RX5) {y : Nat} (hI : zI κ 0 L kd σ) (ha : zT L kd a 5) (hy : zT L kd y 9) (hdg : decode cc pc = .ok (.putfield 35, 3)) (k : ∀ σ2 : zS, σ2 = (σ.1, σ.2.1, zu σ.2.2 a 5 (some y)) → zI κ 0 L kd σ2 → zGc rs cs sl d L kd A nL p l e R s m args below meth c Q σ2 (pc + 3) lv st) : zGc rs cs sl d L kd A nL p l e R s m args below meth c Q σ pc lv (.ref y :: .ref a :: st) := zg_putr (v := some y) (ty := .object RX9) X ha rfl (by decide) rfl (by decide) rfl rfl zl_in5 tyX5_ok nmX5 zk_X5_35 rfl (by decide +kernel) rfl rfl hdg (fun σ2 h2 => k σ2 h2 (by rw [h2]; exact zi_putn hI ha rfl))
set_option maxRecDepth 20000 in
theorem zkl_X5_39 : Cond.fieldLink RX5 39 (TX5 6).1 (TX5 6).2.1 (TX5 6).2.2.1 ∈ zWL := zw1 (List.mem_of_getElem? (i := 238) rfl) rfl
set_option maxRecDepth 20000 in
theorem zk_X5_39 : Cond.fieldLink RX5 39 (TX5 6).1 (TX5 6).2.1 (TX5 6).2.2.1 ∈ zWL ∨ ∃ host, Cond.fieldLinkNest RX5 39 (TX5 6).1 (TX5 6).2.1 (TX5 6).2.2.1 host ∈ tables_1 := Or.inl (zw1 (List.mem_of_getElem? (i := 238) rfl) rfl)
theorem fg_X5_39 (X : zX d L kd A nL p s m args c cc RX5) (hI : zI κ 1 L kd σ) (ha : zT L kd a 5) (hdg : decode cc pc = .ok (.getfield 39, 3)) (k : ∀ y : Nat, σ.2.2 a 6 = some y → zT L kd y 1 → zGc rs cs sl d L kd A nL p l e R s m args below meth c Q σ (pc + 3) lv (.ref y :: st)) : zGc rs cs sl d L kd A nL p l e R s m args below meth c Q σ pc lv (.ref a :: st) := by
  obtain ⟨y, hy, hT⟩ := zi_ref hI ha (show zf _ 5 6 = some 1 from rfl)
  have q := k y hy hT
  exact zg_getr X ha rfl (by decide) rfl (by decide) rfl zl_in5 zk_X5_39 hdg (by rw [hy]; exact q)
theorem fp_X5_39 (X : zX d L kd A nL p s m args c cc RX5) {y : Nat} (hI : zI κ 0 L kd σ) (ha : zT L kd a 5) (hy : zT L kd y 1) (hdg : decode cc pc = .ok (.putfield 39, 3)) (k : ∀ σ2 : zS, σ2 = (σ.1, σ.2.1, zu σ.2.2 a 6 (some y)) → zI κ 0 L kd σ2 → zGc rs cs sl d L kd A nL p l e R s m args below meth c Q σ2 (pc + 3) lv st) : zGc rs cs sl d L kd A nL p l e R s m args below meth c Q σ pc lv (.ref y :: .ref a :: st) := zg_putr (v := some y) (ty := .object RX1) X ha rfl (by decide) rfl (by decide) rfl rfl zl_in5 tyX5_ok nmX5 zk_X5_39 rfl (by decide +kernel) rfl rfl hdg (fun σ2 h2 => k σ2 h2 (by rw [h2]; exact zi_putn hI ha rfl))
set_option maxRecDepth 20000 in
theorem zkl_X1_9 : Cond.fieldLink RX1 9 (TX1 0).1 (TX1 0).2.1 (TX1 0).2.2.1 ∈ zWL := zw2 (List.mem_of_getElem? (i := 27) rfl) rfl
set_option maxRecDepth 20000 in
theorem zk_X1_9 : Cond.fieldLink RX1 9 (TX1 0).1 (TX1 0).2.1 (TX1 0).2.2.1 ∈ zWL ∨ ∃ host, Cond.fieldLinkNest RX1 9 (TX1 0).1 (TX1 0).2.1 (TX1 0).2.2.1 host ∈ tables_1 := Or.inl (zw2 (List.mem_of_getElem? (i := 27) rfl) rfl)
theorem fg_X1_9 (X : zX d L kd A nL p s m args c cc RX1) (hI : zI κ b L kd σ) (ha : zT L kd a 1) (hdg : decode cc pc = .ok (.getfield 9, 3)) (k : ∀ y : Nat, σ.2.2 a 0 = some y → zT L kd y 22 → zGc rs cs sl d L kd A nL p l e R s m args below meth c Q σ (pc + 3) lv (.ref y :: st)) : zGc rs cs sl d L kd A nL p l e R s m args below meth c Q σ pc lv (.ref a :: st) := by
  obtain ⟨y, hy, hT⟩ := zi_ref hI ha (show zf _ 1 0 = some 22 from rfl)
  have q := k y hy hT
  exact zg_getr X ha rfl (by decide) rfl (by decide) rfl zl_in1 zk_X1_9 hdg (by rw [hy]; exact q)
set_option maxRecDepth 20000 in
theorem zk_X6_48 : Cond.fieldLink RX6 48 (TX1 0).1 (TX1 0).2.1 (TX1 0).2.2.1 ∈ zWL ∨ ∃ host, Cond.fieldLinkNest RX6 48 (TX1 0).1 (TX1 0).2.1 (TX1 0).2.2.1 host ∈ tables_1 := Or.inr ⟨"SourceDispute", (zt2 (List.mem_of_getElem? (i := 28) rfl))⟩
theorem fg_X6_48 (X : zX d L kd A nL p s m args c cc RX6) (hI : zI κ b L kd σ) (ha : zT L kd a 1) (hdg : decode cc pc = .ok (.getfield 48, 3)) (k : ∀ y : Nat, σ.2.2 a 0 = some y → zT L kd y 22 → zGc rs cs sl d L kd A nL p l e R s m args below meth c Q σ (pc + 3) lv (.ref y :: st)) : zGc rs cs sl d L kd A nL p l e R s m args below meth c Q σ pc lv (.ref a :: st) := by
  obtain ⟨y, hy, hT⟩ := zi_ref hI ha (show zf _ 1 0 = some 22 from rfl)
  have q := k y hy hT
  exact zg_getr X ha rfl (by decide) rfl (by decide) rfl zl_in1 zk_X6_48 hdg (by rw [hy]; exact q)
set_option maxRecDepth 20000 in
theorem zk_X5_89 : Cond.fieldLink RX5 89 (TX1 0).1 (TX1 0).2.1 (TX1 0).2.2.1 ∈ zWL ∨ ∃ host, Cond.fieldLinkNest RX5 89 (TX1 0).1 (TX1 0).2.1 (TX1 0).2.2.1 host ∈ tables_1 := Or.inr ⟨"SourceDispute", (zt2 (List.mem_of_getElem? (i := 29) rfl))⟩
theorem fg_X5_89 (X : zX d L kd A nL p s m args c cc RX5) (hI : zI κ b L kd σ) (ha : zT L kd a 1) (hdg : decode cc pc = .ok (.getfield 89, 3)) (k : ∀ y : Nat, σ.2.2 a 0 = some y → zT L kd y 22 → zGc rs cs sl d L kd A nL p l e R s m args below meth c Q σ (pc + 3) lv (.ref y :: st)) : zGc rs cs sl d L kd A nL p l e R s m args below meth c Q σ pc lv (.ref a :: st) := by
  obtain ⟨y, hy, hT⟩ := zi_ref hI ha (show zf _ 1 0 = some 22 from rfl)
  have q := k y hy hT
  exact zg_getr X ha rfl (by decide) rfl (by decide) rfl zl_in1 zk_X5_89 hdg (by rw [hy]; exact q)
set_option maxRecDepth 20000 in
theorem zk_X10_116 : Cond.fieldLink RX10 116 (TX1 0).1 (TX1 0).2.1 (TX1 0).2.2.1 ∈ zWL ∨ ∃ host, Cond.fieldLinkNest RX10 116 (TX1 0).1 (TX1 0).2.1 (TX1 0).2.2.1 host ∈ tables_1 := Or.inr ⟨"SourceDispute", (zt2 (List.mem_of_getElem? (i := 30) rfl))⟩
theorem fg_X10_116 (X : zX d L kd A nL p s m args c cc RX10) (hI : zI κ b L kd σ) (ha : zT L kd a 1) (hdg : decode cc pc = .ok (.getfield 116, 3)) (k : ∀ y : Nat, σ.2.2 a 0 = some y → zT L kd y 22 → zGc rs cs sl d L kd A nL p l e R s m args below meth c Q σ (pc + 3) lv (.ref y :: st)) : zGc rs cs sl d L kd A nL p l e R s m args below meth c Q σ pc lv (.ref a :: st) := by
  obtain ⟨y, hy, hT⟩ := zi_ref hI ha (show zf _ 1 0 = some 22 from rfl)
  have q := k y hy hT
  exact zg_getr X ha rfl (by decide) rfl (by decide) rfl zl_in1 zk_X10_116 hdg (by rw [hy]; exact q)
set_option maxRecDepth 20000 in
theorem zkl_X1_15 : Cond.fieldLink RX1 15 (TX1 1).1 (TX1 1).2.1 (TX1 1).2.2.1 ∈ zWL := zw2 (List.mem_of_getElem? (i := 31) rfl) rfl
set_option maxRecDepth 20000 in
theorem zk_X1_15 : Cond.fieldLink RX1 15 (TX1 1).1 (TX1 1).2.1 (TX1 1).2.2.1 ∈ zWL ∨ ∃ host, Cond.fieldLinkNest RX1 15 (TX1 1).1 (TX1 1).2.1 (TX1 1).2.2.1 host ∈ tables_1 := Or.inl (zw2 (List.mem_of_getElem? (i := 31) rfl) rfl)
theorem fg_X1_15 (X : zX d L kd A nL p s m args c cc RX1) (hI : zI κ b L kd σ) (ha : zT L kd a 1) (hdg : decode cc pc = .ok (.getfield 15, 3)) (k : ∀ y : Nat, σ.2.2 a 1 = some y → zT L kd y 23 → zGc rs cs sl d L kd A nL p l e R s m args below meth c Q σ (pc + 3) lv (.ref y :: st)) : zGc rs cs sl d L kd A nL p l e R s m args below meth c Q σ pc lv (.ref a :: st) := by
  obtain ⟨y, hy, hT⟩ := zi_ref hI ha (show zf _ 1 1 = some 23 from rfl)
  have q := k y hy hT
  exact zg_getr X ha rfl (by decide) rfl (by decide) rfl zl_in1 zk_X1_15 hdg (by rw [hy]; exact q)
set_option maxRecDepth 20000 in
theorem zk_X10_149 : Cond.fieldLink RX10 149 (TX1 1).1 (TX1 1).2.1 (TX1 1).2.2.1 ∈ zWL ∨ ∃ host, Cond.fieldLinkNest RX10 149 (TX1 1).1 (TX1 1).2.1 (TX1 1).2.2.1 host ∈ tables_1 := Or.inr ⟨"SourceDispute", (zt2 (List.mem_of_getElem? (i := 32) rfl))⟩
theorem fg_X10_149 (X : zX d L kd A nL p s m args c cc RX10) (hI : zI κ b L kd σ) (ha : zT L kd a 1) (hdg : decode cc pc = .ok (.getfield 149, 3)) (k : ∀ y : Nat, σ.2.2 a 1 = some y → zT L kd y 23 → zGc rs cs sl d L kd A nL p l e R s m args below meth c Q σ (pc + 3) lv (.ref y :: st)) : zGc rs cs sl d L kd A nL p l e R s m args below meth c Q σ pc lv (.ref a :: st) := by
  obtain ⟨y, hy, hT⟩ := zi_ref hI ha (show zf _ 1 1 = some 23 from rfl)
  have q := k y hy hT
  exact zg_getr X ha rfl (by decide) rfl (by decide) rfl zl_in1 zk_X10_149 hdg (by rw [hy]; exact q)
set_option maxRecDepth 20000 in
theorem zk_X5_115 : Cond.fieldLink RX5 115 (TX1 1).1 (TX1 1).2.1 (TX1 1).2.2.1 ∈ zWL ∨ ∃ host, Cond.fieldLinkNest RX5 115 (TX1 1).1 (TX1 1).2.1 (TX1 1).2.2.1 host ∈ tables_1 := Or.inr ⟨"SourceDispute", (zt2 (List.mem_of_getElem? (i := 33) rfl))⟩
theorem fg_X5_115 (X : zX d L kd A nL p s m args c cc RX5) (hI : zI κ b L kd σ) (ha : zT L kd a 1) (hdg : decode cc pc = .ok (.getfield 115, 3)) (k : ∀ y : Nat, σ.2.2 a 1 = some y → zT L kd y 23 → zGc rs cs sl d L kd A nL p l e R s m args below meth c Q σ (pc + 3) lv (.ref y :: st)) : zGc rs cs sl d L kd A nL p l e R s m args below meth c Q σ pc lv (.ref a :: st) := by
  obtain ⟨y, hy, hT⟩ := zi_ref hI ha (show zf _ 1 1 = some 23 from rfl)
  have q := k y hy hT
  exact zg_getr X ha rfl (by decide) rfl (by decide) rfl zl_in1 zk_X5_115 hdg (by rw [hy]; exact q)
set_option maxRecDepth 20000 in
theorem zkl_X1_18 : Cond.fieldLink RX1 18 (TX1 2).1 (TX1 2).2.1 (TX1 2).2.2.1 ∈ zWL := zw2 (List.mem_of_getElem? (i := 34) rfl) rfl
set_option maxRecDepth 20000 in
theorem zk_X1_18 : Cond.fieldLink RX1 18 (TX1 2).1 (TX1 2).2.1 (TX1 2).2.2.1 ∈ zWL ∨ ∃ host, Cond.fieldLinkNest RX1 18 (TX1 2).1 (TX1 2).2.1 (TX1 2).2.2.1 host ∈ tables_1 := Or.inl (zw2 (List.mem_of_getElem? (i := 34) rfl) rfl)
theorem fg_X1_18 (X : zX d L kd A nL p s m args c cc RX1) (hI : zI κ b L kd σ) (ha : zT L kd a 1) (hdg : decode cc pc = .ok (.getfield 18, 3)) (k : ∀ y : Nat, σ.2.2 a 2 = some y → zT L kd y 24 → zGc rs cs sl d L kd A nL p l e R s m args below meth c Q σ (pc + 3) lv (.ref y :: st)) : zGc rs cs sl d L kd A nL p l e R s m args below meth c Q σ pc lv (.ref a :: st) := by
  obtain ⟨y, hy, hT⟩ := zi_ref hI ha (show zf _ 1 2 = some 24 from rfl)
  have q := k y hy hT
  exact zg_getr X ha rfl (by decide) rfl (by decide) rfl zl_in1 zk_X1_18 hdg (by rw [hy]; exact q)
set_option maxRecDepth 20000 in
theorem zk_X10_152 : Cond.fieldLink RX10 152 (TX1 2).1 (TX1 2).2.1 (TX1 2).2.2.1 ∈ zWL ∨ ∃ host, Cond.fieldLinkNest RX10 152 (TX1 2).1 (TX1 2).2.1 (TX1 2).2.2.1 host ∈ tables_1 := Or.inr ⟨"SourceDispute", (zt2 (List.mem_of_getElem? (i := 35) rfl))⟩
theorem fg_X10_152 (X : zX d L kd A nL p s m args c cc RX10) (hI : zI κ b L kd σ) (ha : zT L kd a 1) (hdg : decode cc pc = .ok (.getfield 152, 3)) (k : ∀ y : Nat, σ.2.2 a 2 = some y → zT L kd y 24 → zGc rs cs sl d L kd A nL p l e R s m args below meth c Q σ (pc + 3) lv (.ref y :: st)) : zGc rs cs sl d L kd A nL p l e R s m args below meth c Q σ pc lv (.ref a :: st) := by
  obtain ⟨y, hy, hT⟩ := zi_ref hI ha (show zf _ 1 2 = some 24 from rfl)
  have q := k y hy hT
  exact zg_getr X ha rfl (by decide) rfl (by decide) rfl zl_in1 zk_X10_152 hdg (by rw [hy]; exact q)
set_option maxRecDepth 20000 in
theorem zkl_X1_21 : Cond.fieldLink RX1 21 (TX1 3).1 (TX1 3).2.1 (TX1 3).2.2.1 ∈ zWL := zw2 (List.mem_of_getElem? (i := 36) rfl) rfl
set_option maxRecDepth 20000 in
theorem zk_X1_21 : Cond.fieldLink RX1 21 (TX1 3).1 (TX1 3).2.1 (TX1 3).2.2.1 ∈ zWL ∨ ∃ host, Cond.fieldLinkNest RX1 21 (TX1 3).1 (TX1 3).2.1 (TX1 3).2.2.1 host ∈ tables_1 := Or.inl (zw2 (List.mem_of_getElem? (i := 36) rfl) rfl)
theorem fg_X1_21 (X : zX d L kd A nL p s m args c cc RX1) (hI : zI κ b L kd σ) (ha : zT L kd a 1) (hdg : decode cc pc = .ok (.getfield 21, 3)) (k : ∀ v : Int32, v = σ.1 a 3 → (-2147483648) ≤ v.toInt ∧ v.toInt ≤ 2147483647 → zGc rs cs sl d L kd A nL p l e R s m args below meth c Q σ (pc + 3) lv (.int v :: st)) : zGc rs cs sl d L kd A nL p l e R s m args below meth c Q σ pc lv (.ref a :: st) := zg_geti X ha rfl (by decide) rfl (by decide) rfl zl_in1 zk_X1_21 hdg (k _ rfl (zi_get hI ha rfl))
theorem fp_X1_21 (X : zX d L kd A nL p s m args c cc RX1) {v : Int32} (hI : zI κ b L kd σ) (ha : zT L kd a 1) (h : (-2147483648) ≤ v.toInt ∧ v.toInt ≤ 2147483647) (hdg : decode cc pc = .ok (.putfield 21, 3)) (k : ∀ σ2 : zS, σ2 = (zu σ.1 a 3 v, σ.2.1, σ.2.2) → zI κ b L kd σ2 → zGc rs cs sl d L kd A nL p l e R s m args below meth c Q σ2 (pc + 3) lv st) : zGc rs cs sl d L kd A nL p l e R s m args below meth c Q σ pc lv (.int v :: .ref a :: st) := zg_puti (ty := .int) X ha rfl (by decide) rfl (by decide) rfl rfl zl_in1 tyX1_ok nmX1 zk_X1_21 rfl (by decide +kernel) rfl rfl hdg (fun σ2 h2 => k σ2 h2 (by rw [h2]; exact zi_puti hI ha rfl h.1 h.2))
set_option maxRecDepth 20000 in
theorem zk_X5_55 : Cond.fieldLink RX5 55 (TX1 3).1 (TX1 3).2.1 (TX1 3).2.2.1 ∈ zWL ∨ ∃ host, Cond.fieldLinkNest RX5 55 (TX1 3).1 (TX1 3).2.1 (TX1 3).2.2.1 host ∈ tables_1 := Or.inr ⟨"SourceDispute", (zt2 (List.mem_of_getElem? (i := 37) rfl))⟩
theorem fg_X5_55 (X : zX d L kd A nL p s m args c cc RX5) (hI : zI κ b L kd σ) (ha : zT L kd a 1) (hdg : decode cc pc = .ok (.getfield 55, 3)) (k : ∀ v : Int32, v = σ.1 a 3 → (-2147483648) ≤ v.toInt ∧ v.toInt ≤ 2147483647 → zGc rs cs sl d L kd A nL p l e R s m args below meth c Q σ (pc + 3) lv (.int v :: st)) : zGc rs cs sl d L kd A nL p l e R s m args below meth c Q σ pc lv (.ref a :: st) := zg_geti X ha rfl (by decide) rfl (by decide) rfl zl_in1 zk_X5_55 hdg (k _ rfl (zi_get hI ha rfl))
theorem fp_X5_55 (X : zX d L kd A nL p s m args c cc RX5) {v : Int32} (hI : zI κ b L kd σ) (ha : zT L kd a 1) (h : (-2147483648) ≤ v.toInt ∧ v.toInt ≤ 2147483647) (hdg : decode cc pc = .ok (.putfield 55, 3)) (k : ∀ σ2 : zS, σ2 = (zu σ.1 a 3 v, σ.2.1, σ.2.2) → zI κ b L kd σ2 → zGc rs cs sl d L kd A nL p l e R s m args below meth c Q σ2 (pc + 3) lv st) : zGc rs cs sl d L kd A nL p l e R s m args below meth c Q σ pc lv (.int v :: .ref a :: st) := zg_puti (ty := .int) X ha rfl (by decide) rfl (by decide) rfl rfl zl_in1 tyX1_ok nmX1 zk_X5_55 rfl (by decide +kernel) rfl rfl hdg (fun σ2 h2 => k σ2 h2 (by rw [h2]; exact zi_puti hI ha rfl h.1 h.2))
set_option maxRecDepth 20000 in
theorem zk_X10_128 : Cond.fieldLink RX10 128 (TX1 3).1 (TX1 3).2.1 (TX1 3).2.2.1 ∈ zWL ∨ ∃ host, Cond.fieldLinkNest RX10 128 (TX1 3).1 (TX1 3).2.1 (TX1 3).2.2.1 host ∈ tables_1 := Or.inr ⟨"SourceDispute", (zt2 (List.mem_of_getElem? (i := 38) rfl))⟩
theorem fg_X10_128 (X : zX d L kd A nL p s m args c cc RX10) (hI : zI κ b L kd σ) (ha : zT L kd a 1) (hdg : decode cc pc = .ok (.getfield 128, 3)) (k : ∀ v : Int32, v = σ.1 a 3 → (-2147483648) ≤ v.toInt ∧ v.toInt ≤ 2147483647 → zGc rs cs sl d L kd A nL p l e R s m args below meth c Q σ (pc + 3) lv (.int v :: st)) : zGc rs cs sl d L kd A nL p l e R s m args below meth c Q σ pc lv (.ref a :: st) := zg_geti X ha rfl (by decide) rfl (by decide) rfl zl_in1 zk_X10_128 hdg (k _ rfl (zi_get hI ha rfl))
theorem fp_X10_128 (X : zX d L kd A nL p s m args c cc RX10) {v : Int32} (hI : zI κ b L kd σ) (ha : zT L kd a 1) (h : (-2147483648) ≤ v.toInt ∧ v.toInt ≤ 2147483647) (hdg : decode cc pc = .ok (.putfield 128, 3)) (k : ∀ σ2 : zS, σ2 = (zu σ.1 a 3 v, σ.2.1, σ.2.2) → zI κ b L kd σ2 → zGc rs cs sl d L kd A nL p l e R s m args below meth c Q σ2 (pc + 3) lv st) : zGc rs cs sl d L kd A nL p l e R s m args below meth c Q σ pc lv (.int v :: .ref a :: st) := zg_puti (ty := .int) X ha rfl (by decide) rfl (by decide) rfl rfl zl_in1 tyX1_ok nmX1 zk_X10_128 rfl (by decide +kernel) rfl rfl hdg (fun σ2 h2 => k σ2 h2 (by rw [h2]; exact zi_puti hI ha rfl h.1 h.2))
set_option maxRecDepth 20000 in
theorem zkl_X1_25 : Cond.fieldLink RX1 25 (TX1 4).1 (TX1 4).2.1 (TX1 4).2.2.1 ∈ zWL := zw2 (List.mem_of_getElem? (i := 39) rfl) rfl
set_option maxRecDepth 20000 in
theorem zk_X1_25 : Cond.fieldLink RX1 25 (TX1 4).1 (TX1 4).2.1 (TX1 4).2.2.1 ∈ zWL ∨ ∃ host, Cond.fieldLinkNest RX1 25 (TX1 4).1 (TX1 4).2.1 (TX1 4).2.2.1 host ∈ tables_1 := Or.inl (zw2 (List.mem_of_getElem? (i := 39) rfl) rfl)
theorem fg_X1_25 (X : zX d L kd A nL p s m args c cc RX1) (hI : zI κ b L kd σ) (ha : zT L kd a 1) (hdg : decode cc pc = .ok (.getfield 25, 3)) (k : ∀ v : Int32, v = σ.1 a 4 → (-2147483648) ≤ v.toInt ∧ v.toInt ≤ 2147483647 → zGc rs cs sl d L kd A nL p l e R s m args below meth c Q σ (pc + 3) lv (.int v :: st)) : zGc rs cs sl d L kd A nL p l e R s m args below meth c Q σ pc lv (.ref a :: st) := zg_geti X ha rfl (by decide) rfl (by decide) rfl zl_in1 zk_X1_25 hdg (k _ rfl (zi_get hI ha rfl))
theorem fp_X1_25 (X : zX d L kd A nL p s m args c cc RX1) {v : Int32} (hI : zI κ b L kd σ) (ha : zT L kd a 1) (h : (-2147483648) ≤ v.toInt ∧ v.toInt ≤ 2147483647) (hdg : decode cc pc = .ok (.putfield 25, 3)) (k : ∀ σ2 : zS, σ2 = (zu σ.1 a 4 v, σ.2.1, σ.2.2) → zI κ b L kd σ2 → zGc rs cs sl d L kd A nL p l e R s m args below meth c Q σ2 (pc + 3) lv st) : zGc rs cs sl d L kd A nL p l e R s m args below meth c Q σ pc lv (.int v :: .ref a :: st) := zg_puti (ty := .int) X ha rfl (by decide) rfl (by decide) rfl rfl zl_in1 tyX1_ok nmX1 zk_X1_25 rfl (by decide +kernel) rfl rfl hdg (fun σ2 h2 => k σ2 h2 (by rw [h2]; exact zi_puti hI ha rfl h.1 h.2))
set_option maxRecDepth 20000 in
theorem zk_X10_178 : Cond.fieldLink RX10 178 (TX1 4).1 (TX1 4).2.1 (TX1 4).2.2.1 ∈ zWL ∨ ∃ host, Cond.fieldLinkNest RX10 178 (TX1 4).1 (TX1 4).2.1 (TX1 4).2.2.1 host ∈ tables_1 := Or.inr ⟨"SourceDispute", (zt2 (List.mem_of_getElem? (i := 40) rfl))⟩
theorem fg_X10_178 (X : zX d L kd A nL p s m args c cc RX10) (hI : zI κ b L kd σ) (ha : zT L kd a 1) (hdg : decode cc pc = .ok (.getfield 178, 3)) (k : ∀ v : Int32, v = σ.1 a 4 → (-2147483648) ≤ v.toInt ∧ v.toInt ≤ 2147483647 → zGc rs cs sl d L kd A nL p l e R s m args below meth c Q σ (pc + 3) lv (.int v :: st)) : zGc rs cs sl d L kd A nL p l e R s m args below meth c Q σ pc lv (.ref a :: st) := zg_geti X ha rfl (by decide) rfl (by decide) rfl zl_in1 zk_X10_178 hdg (k _ rfl (zi_get hI ha rfl))
theorem fp_X10_178 (X : zX d L kd A nL p s m args c cc RX10) {v : Int32} (hI : zI κ b L kd σ) (ha : zT L kd a 1) (h : (-2147483648) ≤ v.toInt ∧ v.toInt ≤ 2147483647) (hdg : decode cc pc = .ok (.putfield 178, 3)) (k : ∀ σ2 : zS, σ2 = (zu σ.1 a 4 v, σ.2.1, σ.2.2) → zI κ b L kd σ2 → zGc rs cs sl d L kd A nL p l e R s m args below meth c Q σ2 (pc + 3) lv st) : zGc rs cs sl d L kd A nL p l e R s m args below meth c Q σ pc lv (.int v :: .ref a :: st) := zg_puti (ty := .int) X ha rfl (by decide) rfl (by decide) rfl rfl zl_in1 tyX1_ok nmX1 zk_X10_178 rfl (by decide +kernel) rfl rfl hdg (fun σ2 h2 => k σ2 h2 (by rw [h2]; exact zi_puti hI ha rfl h.1 h.2))
set_option maxRecDepth 20000 in
theorem zk_X5_153 : Cond.fieldLink RX5 153 (TX1 4).1 (TX1 4).2.1 (TX1 4).2.2.1 ∈ zWL ∨ ∃ host, Cond.fieldLinkNest RX5 153 (TX1 4).1 (TX1 4).2.1 (TX1 4).2.2.1 host ∈ tables_1 := Or.inr ⟨"SourceDispute", (zt2 (List.mem_of_getElem? (i := 41) rfl))⟩
theorem fg_X5_153 (X : zX d L kd A nL p s m args c cc RX5) (hI : zI κ b L kd σ) (ha : zT L kd a 1) (hdg : decode cc pc = .ok (.getfield 153, 3)) (k : ∀ v : Int32, v = σ.1 a 4 → (-2147483648) ≤ v.toInt ∧ v.toInt ≤ 2147483647 → zGc rs cs sl d L kd A nL p l e R s m args below meth c Q σ (pc + 3) lv (.int v :: st)) : zGc rs cs sl d L kd A nL p l e R s m args below meth c Q σ pc lv (.ref a :: st) := zg_geti X ha rfl (by decide) rfl (by decide) rfl zl_in1 zk_X5_153 hdg (k _ rfl (zi_get hI ha rfl))
theorem fp_X5_153 (X : zX d L kd A nL p s m args c cc RX5) {v : Int32} (hI : zI κ b L kd σ) (ha : zT L kd a 1) (h : (-2147483648) ≤ v.toInt ∧ v.toInt ≤ 2147483647) (hdg : decode cc pc = .ok (.putfield 153, 3)) (k : ∀ σ2 : zS, σ2 = (zu σ.1 a 4 v, σ.2.1, σ.2.2) → zI κ b L kd σ2 → zGc rs cs sl d L kd A nL p l e R s m args below meth c Q σ2 (pc + 3) lv st) : zGc rs cs sl d L kd A nL p l e R s m args below meth c Q σ pc lv (.int v :: .ref a :: st) := zg_puti (ty := .int) X ha rfl (by decide) rfl (by decide) rfl rfl zl_in1 tyX1_ok nmX1 zk_X5_153 rfl (by decide +kernel) rfl rfl hdg (fun σ2 h2 => k σ2 h2 (by rw [h2]; exact zi_puti hI ha rfl h.1 h.2))
set_option maxRecDepth 20000 in
theorem zkl_X1_28 : Cond.fieldLink RX1 28 (TX1 5).1 (TX1 5).2.1 (TX1 5).2.2.1 ∈ zWL := zw2 (List.mem_of_getElem? (i := 42) rfl) rfl
set_option maxRecDepth 20000 in
theorem zk_X1_28 : Cond.fieldLink RX1 28 (TX1 5).1 (TX1 5).2.1 (TX1 5).2.2.1 ∈ zWL ∨ ∃ host, Cond.fieldLinkNest RX1 28 (TX1 5).1 (TX1 5).2.1 (TX1 5).2.2.1 host ∈ tables_1 := Or.inl (zw2 (List.mem_of_getElem? (i := 42) rfl) rfl)
theorem fg_X1_28 (X : zX d L kd A nL p s m args c cc RX1) (hI : zI κ b L kd σ) (ha : zT L kd a 1) (hdg : decode cc pc = .ok (.getfield 28, 3)) (k : ∀ v : Int32, v = σ.1 a 5 → 0 ≤ v.toInt ∧ v.toInt ≤ 2 → zGc rs cs sl d L kd A nL p l e R s m args below meth c Q σ (pc + 3) lv (.int v :: st)) : zGc rs cs sl d L kd A nL p l e R s m args below meth c Q σ pc lv (.ref a :: st) := zg_geti X ha rfl (by decide) rfl (by decide) rfl zl_in1 zk_X1_28 hdg (k _ rfl (zi_get hI ha rfl))
theorem fp_X1_28 (X : zX d L kd A nL p s m args c cc RX1) {v : Int32} (hI : zI κ b L kd σ) (ha : zT L kd a 1) (h : 0 ≤ v.toInt ∧ v.toInt ≤ 2) (hdg : decode cc pc = .ok (.putfield 28, 3)) (k : ∀ σ2 : zS, σ2 = (zu σ.1 a 5 v, σ.2.1, σ.2.2) → zI κ b L kd σ2 → zGc rs cs sl d L kd A nL p l e R s m args below meth c Q σ2 (pc + 3) lv st) : zGc rs cs sl d L kd A nL p l e R s m args below meth c Q σ pc lv (.int v :: .ref a :: st) := zg_puti (ty := .int) X ha rfl (by decide) rfl (by decide) rfl rfl zl_in1 tyX1_ok nmX1 zk_X1_28 rfl (by decide +kernel) rfl rfl hdg (fun σ2 h2 => k σ2 h2 (by rw [h2]; exact zi_puti hI ha rfl h.1 h.2))
set_option maxRecDepth 20000 in
theorem zk_X10_185 : Cond.fieldLink RX10 185 (TX1 5).1 (TX1 5).2.1 (TX1 5).2.2.1 ∈ zWL ∨ ∃ host, Cond.fieldLinkNest RX10 185 (TX1 5).1 (TX1 5).2.1 (TX1 5).2.2.1 host ∈ tables_1 := Or.inr ⟨"SourceDispute", (zt2 (List.mem_of_getElem? (i := 43) rfl))⟩
theorem fg_X10_185 (X : zX d L kd A nL p s m args c cc RX10) (hI : zI κ b L kd σ) (ha : zT L kd a 1) (hdg : decode cc pc = .ok (.getfield 185, 3)) (k : ∀ v : Int32, v = σ.1 a 5 → 0 ≤ v.toInt ∧ v.toInt ≤ 2 → zGc rs cs sl d L kd A nL p l e R s m args below meth c Q σ (pc + 3) lv (.int v :: st)) : zGc rs cs sl d L kd A nL p l e R s m args below meth c Q σ pc lv (.ref a :: st) := zg_geti X ha rfl (by decide) rfl (by decide) rfl zl_in1 zk_X10_185 hdg (k _ rfl (zi_get hI ha rfl))
theorem fp_X10_185 (X : zX d L kd A nL p s m args c cc RX10) {v : Int32} (hI : zI κ b L kd σ) (ha : zT L kd a 1) (h : 0 ≤ v.toInt ∧ v.toInt ≤ 2) (hdg : decode cc pc = .ok (.putfield 185, 3)) (k : ∀ σ2 : zS, σ2 = (zu σ.1 a 5 v, σ.2.1, σ.2.2) → zI κ b L kd σ2 → zGc rs cs sl d L kd A nL p l e R s m args below meth c Q σ2 (pc + 3) lv st) : zGc rs cs sl d L kd A nL p l e R s m args below meth c Q σ pc lv (.int v :: .ref a :: st) := zg_puti (ty := .int) X ha rfl (by decide) rfl (by decide) rfl rfl zl_in1 tyX1_ok nmX1 zk_X10_185 rfl (by decide +kernel) rfl rfl hdg (fun σ2 h2 => k σ2 h2 (by rw [h2]; exact zi_puti hI ha rfl h.1 h.2))
set_option maxRecDepth 20000 in
theorem zk_X5_140 : Cond.fieldLink RX5 140 (TX1 5).1 (TX1 5).2.1 (TX1 5).2.2.1 ∈ zWL ∨ ∃ host, Cond.fieldLinkNest RX5 140 (TX1 5).1 (TX1 5).2.1 (TX1 5).2.2.1 host ∈ tables_1 := Or.inr ⟨"SourceDispute", (zt2 (List.mem_of_getElem? (i := 44) rfl))⟩
theorem fg_X5_140 (X : zX d L kd A nL p s m args c cc RX5) (hI : zI κ b L kd σ) (ha : zT L kd a 1) (hdg : decode cc pc = .ok (.getfield 140, 3)) (k : ∀ v : Int32, v = σ.1 a 5 → 0 ≤ v.toInt ∧ v.toInt ≤ 2 → zGc rs cs sl d L kd A nL p l e R s m args below meth c Q σ (pc + 3) lv (.int v :: st)) : zGc rs cs sl d L kd A nL p l e R s m args below meth c Q σ pc lv (.ref a :: st) := zg_geti X ha rfl (by decide) rfl (by decide) rfl zl_in1 zk_X5_140 hdg (k _ rfl (zi_get hI ha rfl))
theorem fp_X5_140 (X : zX d L kd A nL p s m args c cc RX5) {v : Int32} (hI : zI κ b L kd σ) (ha : zT L kd a 1) (h : 0 ≤ v.toInt ∧ v.toInt ≤ 2) (hdg : decode cc pc = .ok (.putfield 140, 3)) (k : ∀ σ2 : zS, σ2 = (zu σ.1 a 5 v, σ.2.1, σ.2.2) → zI κ b L kd σ2 → zGc rs cs sl d L kd A nL p l e R s m args below meth c Q σ2 (pc + 3) lv st) : zGc rs cs sl d L kd A nL p l e R s m args below meth c Q σ pc lv (.int v :: .ref a :: st) := zg_puti (ty := .int) X ha rfl (by decide) rfl (by decide) rfl rfl zl_in1 tyX1_ok nmX1 zk_X5_140 rfl (by decide +kernel) rfl rfl hdg (fun σ2 h2 => k σ2 h2 (by rw [h2]; exact zi_puti hI ha rfl h.1 h.2))
set_option maxRecDepth 20000 in
theorem zkl_X4_11 : Cond.fieldLink RX4 11 (TX4 0).1 (TX4 0).2.1 (TX4 0).2.2.1 ∈ zWL := zw2 (List.mem_of_getElem? (i := 58) rfl) rfl
set_option maxRecDepth 20000 in
theorem zk_X4_11 : Cond.fieldLink RX4 11 (TX4 0).1 (TX4 0).2.1 (TX4 0).2.2.1 ∈ zWL ∨ ∃ host, Cond.fieldLinkNest RX4 11 (TX4 0).1 (TX4 0).2.1 (TX4 0).2.2.1 host ∈ tables_1 := Or.inl (zw2 (List.mem_of_getElem? (i := 58) rfl) rfl)
theorem fg_X4_11 (X : zX d L kd A nL p s m args c cc RX4) (hI : zI κ b L kd σ) (ha : zT L kd a 4) (hdg : decode cc pc = .ok (.getfield 11, 3)) (k : ∀ y : Nat, σ.2.2 a 0 = some y → zT L kd y 29 → zGc rs cs sl d L kd A nL p l e R s m args below meth c Q σ (pc + 3) lv (.ref y :: st)) : zGc rs cs sl d L kd A nL p l e R s m args below meth c Q σ pc lv (.ref a :: st) := by
  obtain ⟨y, hy, hT⟩ := zi_ref hI ha (show zf _ 4 0 = some 29 from rfl)
  have q := k y hy hT
  exact zg_getr X ha rfl (by decide) rfl (by decide) rfl zl_in4 zk_X4_11 hdg (by rw [hy]; exact q)
set_option maxRecDepth 20000 in
theorem zkl_X4_15 : Cond.fieldLink RX4 15 (TX4 1).1 (TX4 1).2.1 (TX4 1).2.2.1 ∈ zWL := zw2 (List.mem_of_getElem? (i := 59) rfl) rfl
set_option maxRecDepth 20000 in
theorem zk_X4_15 : Cond.fieldLink RX4 15 (TX4 1).1 (TX4 1).2.1 (TX4 1).2.2.1 ∈ zWL ∨ ∃ host, Cond.fieldLinkNest RX4 15 (TX4 1).1 (TX4 1).2.1 (TX4 1).2.2.1 host ∈ tables_1 := Or.inl (zw2 (List.mem_of_getElem? (i := 59) rfl) rfl)
theorem fg_X4_15 (X : zX d L kd A nL p s m args c cc RX4) (hI : zI κ b L kd σ) (ha : zT L kd a 4) (hdg : decode cc pc = .ok (.getfield 15, 3)) (k : ∀ v : Int32, v = σ.1 a 1 → 0 ≤ v.toInt ∧ v.toInt ≤ 39 → zGc rs cs sl d L kd A nL p l e R s m args below meth c Q σ (pc + 3) lv (.int v :: st)) : zGc rs cs sl d L kd A nL p l e R s m args below meth c Q σ pc lv (.ref a :: st) := zg_geti X ha rfl (by decide) rfl (by decide) rfl zl_in4 zk_X4_15 hdg (k _ rfl (zi_get hI ha rfl))
theorem fp_X4_15 (X : zX d L kd A nL p s m args c cc RX4) {v : Int32} (hI : zI κ b L kd σ) (ha : zT L kd a 4) (h : 0 ≤ v.toInt ∧ v.toInt ≤ 39) (hdg : decode cc pc = .ok (.putfield 15, 3)) (k : ∀ σ2 : zS, σ2 = (zu σ.1 a 1 v, σ.2.1, σ.2.2) → zI κ b L kd σ2 → zGc rs cs sl d L kd A nL p l e R s m args below meth c Q σ2 (pc + 3) lv st) : zGc rs cs sl d L kd A nL p l e R s m args below meth c Q σ pc lv (.int v :: .ref a :: st) := zg_puti (ty := .int) X ha rfl (by decide) rfl (by decide) rfl rfl zl_in4 tyX4_ok nmX4 zk_X4_15 rfl (by decide +kernel) rfl rfl hdg (fun σ2 h2 => k σ2 h2 (by rw [h2]; exact zi_puti hI ha rfl h.1 h.2))
set_option maxRecDepth 20000 in
theorem zkl_X4_19 : Cond.fieldLink RX4 19 (TX4 2).1 (TX4 2).2.1 (TX4 2).2.2.1 ∈ zWL := zw2 (List.mem_of_getElem? (i := 60) rfl) rfl
set_option maxRecDepth 20000 in
theorem zk_X4_19 : Cond.fieldLink RX4 19 (TX4 2).1 (TX4 2).2.1 (TX4 2).2.2.1 ∈ zWL ∨ ∃ host, Cond.fieldLinkNest RX4 19 (TX4 2).1 (TX4 2).2.1 (TX4 2).2.2.1 host ∈ tables_1 := Or.inl (zw2 (List.mem_of_getElem? (i := 60) rfl) rfl)
theorem fg_X4_19 (X : zX d L kd A nL p s m args c cc RX4) (hI : zI κ b L kd σ) (ha : zT L kd a 4) (hdg : decode cc pc = .ok (.getfield 19, 3)) (k : ∀ v : Int32, v = σ.1 a 2 → 0 ≤ v.toInt ∧ v.toInt ≤ 40 → zGc rs cs sl d L kd A nL p l e R s m args below meth c Q σ (pc + 3) lv (.int v :: st)) : zGc rs cs sl d L kd A nL p l e R s m args below meth c Q σ pc lv (.ref a :: st) := zg_geti X ha rfl (by decide) rfl (by decide) rfl zl_in4 zk_X4_19 hdg (k _ rfl (zi_get hI ha rfl))
theorem fp_X4_19 (X : zX d L kd A nL p s m args c cc RX4) {v : Int32} (hI : zI κ b L kd σ) (ha : zT L kd a 4) (h : 0 ≤ v.toInt ∧ v.toInt ≤ 40) (hdg : decode cc pc = .ok (.putfield 19, 3)) (k : ∀ σ2 : zS, σ2 = (zu σ.1 a 2 v, σ.2.1, σ.2.2) → zI κ b L kd σ2 → zGc rs cs sl d L kd A nL p l e R s m args below meth c Q σ2 (pc + 3) lv st) : zGc rs cs sl d L kd A nL p l e R s m args below meth c Q σ pc lv (.int v :: .ref a :: st) := zg_puti (ty := .int) X ha rfl (by decide) rfl (by decide) rfl rfl zl_in4 tyX4_ok nmX4 zk_X4_19 rfl (by decide +kernel) rfl rfl hdg (fun σ2 h2 => k σ2 h2 (by rw [h2]; exact zi_puti hI ha rfl h.1 h.2))
set_option maxRecDepth 20000 in
theorem zk_X10_107 : Cond.fieldLink RX10 107 (TX4 2).1 (TX4 2).2.1 (TX4 2).2.2.1 ∈ zWL ∨ ∃ host, Cond.fieldLinkNest RX10 107 (TX4 2).1 (TX4 2).2.1 (TX4 2).2.2.1 host ∈ tables_1 := Or.inr ⟨"SourceDispute", (zt2 (List.mem_of_getElem? (i := 61) rfl))⟩
theorem fg_X10_107 (X : zX d L kd A nL p s m args c cc RX10) (hI : zI κ b L kd σ) (ha : zT L kd a 4) (hdg : decode cc pc = .ok (.getfield 107, 3)) (k : ∀ v : Int32, v = σ.1 a 2 → 0 ≤ v.toInt ∧ v.toInt ≤ 40 → zGc rs cs sl d L kd A nL p l e R s m args below meth c Q σ (pc + 3) lv (.int v :: st)) : zGc rs cs sl d L kd A nL p l e R s m args below meth c Q σ pc lv (.ref a :: st) := zg_geti X ha rfl (by decide) rfl (by decide) rfl zl_in4 zk_X10_107 hdg (k _ rfl (zi_get hI ha rfl))
theorem fp_X10_107 (X : zX d L kd A nL p s m args c cc RX10) {v : Int32} (hI : zI κ b L kd σ) (ha : zT L kd a 4) (h : 0 ≤ v.toInt ∧ v.toInt ≤ 40) (hdg : decode cc pc = .ok (.putfield 107, 3)) (k : ∀ σ2 : zS, σ2 = (zu σ.1 a 2 v, σ.2.1, σ.2.2) → zI κ b L kd σ2 → zGc rs cs sl d L kd A nL p l e R s m args below meth c Q σ2 (pc + 3) lv st) : zGc rs cs sl d L kd A nL p l e R s m args below meth c Q σ pc lv (.int v :: .ref a :: st) := zg_puti (ty := .int) X ha rfl (by decide) rfl (by decide) rfl rfl zl_in4 tyX4_ok nmX4 zk_X10_107 rfl (by decide +kernel) rfl rfl hdg (fun σ2 h2 => k σ2 h2 (by rw [h2]; exact zi_puti hI ha rfl h.1 h.2))
set_option maxRecDepth 20000 in
theorem zkl_X2_11 : Cond.fieldLink RX2 11 (TX2 0).1 (TX2 0).2.1 (TX2 0).2.2.1 ∈ zWL := zw2 (List.mem_of_getElem? (i := 75) rfl) rfl
set_option maxRecDepth 20000 in
theorem zk_X2_11 : Cond.fieldLink RX2 11 (TX2 0).1 (TX2 0).2.1 (TX2 0).2.2.1 ∈ zWL ∨ ∃ host, Cond.fieldLinkNest RX2 11 (TX2 0).1 (TX2 0).2.1 (TX2 0).2.2.1 host ∈ tables_1 := Or.inl (zw2 (List.mem_of_getElem? (i := 75) rfl) rfl)
theorem fg_X2_11 (X : zX d L kd A nL p s m args c cc RX2) (hI : zI κ b L kd σ) (ha : zT L kd a 2) (hdg : decode cc pc = .ok (.getfield 11, 3)) (k : ∀ y : Nat, σ.2.2 a 0 = some y → zT L kd y 25 → zGc rs cs sl d L kd A nL p l e R s m args below meth c Q σ (pc + 3) lv (.ref y :: st)) : zGc rs cs sl d L kd A nL p l e R s m args below meth c Q σ pc lv (.ref a :: st) := by
  obtain ⟨y, hy, hT⟩ := zi_ref hI ha (show zf _ 2 0 = some 25 from rfl)
  have q := k y hy hT
  exact zg_getr X ha rfl (by decide) rfl (by decide) rfl zl_in2 zk_X2_11 hdg (by rw [hy]; exact q)
set_option maxRecDepth 20000 in
theorem zkl_X2_15 : Cond.fieldLink RX2 15 (TX2 1).1 (TX2 1).2.1 (TX2 1).2.2.1 ∈ zWL := zw2 (List.mem_of_getElem? (i := 76) rfl) rfl
set_option maxRecDepth 20000 in
theorem zk_X2_15 : Cond.fieldLink RX2 15 (TX2 1).1 (TX2 1).2.1 (TX2 1).2.2.1 ∈ zWL ∨ ∃ host, Cond.fieldLinkNest RX2 15 (TX2 1).1 (TX2 1).2.1 (TX2 1).2.2.1 host ∈ tables_1 := Or.inl (zw2 (List.mem_of_getElem? (i := 76) rfl) rfl)
theorem fg_X2_15 (X : zX d L kd A nL p s m args c cc RX2) (hI : zI κ b L kd σ) (ha : zT L kd a 2) (hdg : decode cc pc = .ok (.getfield 15, 3)) (k : ∀ y : Nat, σ.2.2 a 1 = some y → zT L kd y 26 → zGc rs cs sl d L kd A nL p l e R s m args below meth c Q σ (pc + 3) lv (.ref y :: st)) : zGc rs cs sl d L kd A nL p l e R s m args below meth c Q σ pc lv (.ref a :: st) := by
  obtain ⟨y, hy, hT⟩ := zi_ref hI ha (show zf _ 2 1 = some 26 from rfl)
  have q := k y hy hT
  exact zg_getr X ha rfl (by decide) rfl (by decide) rfl zl_in2 zk_X2_15 hdg (by rw [hy]; exact q)
set_option maxRecDepth 20000 in
theorem zkl_X2_18 : Cond.fieldLink RX2 18 (TX2 2).1 (TX2 2).2.1 (TX2 2).2.2.1 ∈ zWL := zw2 (List.mem_of_getElem? (i := 77) rfl) rfl
set_option maxRecDepth 20000 in
theorem zk_X2_18 : Cond.fieldLink RX2 18 (TX2 2).1 (TX2 2).2.1 (TX2 2).2.2.1 ∈ zWL ∨ ∃ host, Cond.fieldLinkNest RX2 18 (TX2 2).1 (TX2 2).2.1 (TX2 2).2.2.1 host ∈ tables_1 := Or.inl (zw2 (List.mem_of_getElem? (i := 77) rfl) rfl)
theorem fg_X2_18 (X : zX d L kd A nL p s m args c cc RX2) (hI : zI κ b L kd σ) (ha : zT L kd a 2) (hdg : decode cc pc = .ok (.getfield 18, 3)) (k : ∀ y : Nat, σ.2.2 a 2 = some y → zT L kd y 27 → zGc rs cs sl d L kd A nL p l e R s m args below meth c Q σ (pc + 3) lv (.ref y :: st)) : zGc rs cs sl d L kd A nL p l e R s m args below meth c Q σ pc lv (.ref a :: st) := by
  obtain ⟨y, hy, hT⟩ := zi_ref hI ha (show zf _ 2 2 = some 27 from rfl)
  have q := k y hy hT
  exact zg_getr X ha rfl (by decide) rfl (by decide) rfl zl_in2 zk_X2_18 hdg (by rw [hy]; exact q)
set_option maxRecDepth 20000 in
theorem zkl_X2_21 : Cond.fieldLink RX2 21 (TX2 3).1 (TX2 3).2.1 (TX2 3).2.2.1 ∈ zWL := zw2 (List.mem_of_getElem? (i := 78) rfl) rfl
set_option maxRecDepth 20000 in
theorem zk_X2_21 : Cond.fieldLink RX2 21 (TX2 3).1 (TX2 3).2.1 (TX2 3).2.2.1 ∈ zWL ∨ ∃ host, Cond.fieldLinkNest RX2 21 (TX2 3).1 (TX2 3).2.1 (TX2 3).2.2.1 host ∈ tables_1 := Or.inl (zw2 (List.mem_of_getElem? (i := 78) rfl) rfl)
theorem fg_X2_21 (X : zX d L kd A nL p s m args c cc RX2) (hI : zI κ b L kd σ) (ha : zT L kd a 2) (hdg : decode cc pc = .ok (.getfield 21, 3)) (k : ∀ y : Nat, σ.2.2 a 3 = some y → zT L kd y 28 → zGc rs cs sl d L kd A nL p l e R s m args below meth c Q σ (pc + 3) lv (.ref y :: st)) : zGc rs cs sl d L kd A nL p l e R s m args below meth c Q σ pc lv (.ref a :: st) := by
  obtain ⟨y, hy, hT⟩ := zi_ref hI ha (show zf _ 2 3 = some 28 from rfl)
  have q := k y hy hT
  exact zg_getr X ha rfl (by decide) rfl (by decide) rfl zl_in2 zk_X2_21 hdg (by rw [hy]; exact q)
set_option maxRecDepth 20000 in
theorem zkl_X2_25 : Cond.fieldLink RX2 25 (TX2 4).1 (TX2 4).2.1 (TX2 4).2.2.1 ∈ zWL := zw2 (List.mem_of_getElem? (i := 79) rfl) rfl
set_option maxRecDepth 20000 in
theorem zk_X2_25 : Cond.fieldLink RX2 25 (TX2 4).1 (TX2 4).2.1 (TX2 4).2.2.1 ∈ zWL ∨ ∃ host, Cond.fieldLinkNest RX2 25 (TX2 4).1 (TX2 4).2.1 (TX2 4).2.2.1 host ∈ tables_1 := Or.inl (zw2 (List.mem_of_getElem? (i := 79) rfl) rfl)
theorem fg_X2_25 (X : zX d L kd A nL p s m args c cc RX2) (hI : zI κ b L kd σ) (ha : zT L kd a 2) (hdg : decode cc pc = .ok (.getfield 25, 3)) (k : ∀ v : Int32, v = σ.1 a 4 → 0 ≤ v.toInt ∧ v.toInt ≤ 20 → zGc rs cs sl d L kd A nL p l e R s m args below meth c Q σ (pc + 3) lv (.int v :: st)) : zGc rs cs sl d L kd A nL p l e R s m args below meth c Q σ pc lv (.ref a :: st) := zg_geti X ha rfl (by decide) rfl (by decide) rfl zl_in2 zk_X2_25 hdg (k _ rfl (zi_get hI ha rfl))
theorem fp_X2_25 (X : zX d L kd A nL p s m args c cc RX2) {v : Int32} (hI : zI κ b L kd σ) (ha : zT L kd a 2) (h : 0 ≤ v.toInt ∧ v.toInt ≤ 20) (hdg : decode cc pc = .ok (.putfield 25, 3)) (k : ∀ σ2 : zS, σ2 = (zu σ.1 a 4 v, σ.2.1, σ.2.2) → zI κ b L kd σ2 → zGc rs cs sl d L kd A nL p l e R s m args below meth c Q σ2 (pc + 3) lv st) : zGc rs cs sl d L kd A nL p l e R s m args below meth c Q σ pc lv (.int v :: .ref a :: st) := zg_puti (ty := .int) X ha rfl (by decide) rfl (by decide) rfl rfl zl_in2 tyX2_ok nmX2 zk_X2_25 rfl (by decide +kernel) rfl rfl hdg (fun σ2 h2 => k σ2 h2 (by rw [h2]; exact zi_puti hI ha rfl h.1 h.2))
set_option maxRecDepth 20000 in
theorem zk_X10_108 : Cond.fieldLink RX10 108 (TX2 4).1 (TX2 4).2.1 (TX2 4).2.2.1 ∈ zWL ∨ ∃ host, Cond.fieldLinkNest RX10 108 (TX2 4).1 (TX2 4).2.1 (TX2 4).2.2.1 host ∈ tables_1 := Or.inr ⟨"SourceDispute", (zt2 (List.mem_of_getElem? (i := 80) rfl))⟩
theorem fg_X10_108 (X : zX d L kd A nL p s m args c cc RX10) (hI : zI κ b L kd σ) (ha : zT L kd a 2) (hdg : decode cc pc = .ok (.getfield 108, 3)) (k : ∀ v : Int32, v = σ.1 a 4 → 0 ≤ v.toInt ∧ v.toInt ≤ 20 → zGc rs cs sl d L kd A nL p l e R s m args below meth c Q σ (pc + 3) lv (.int v :: st)) : zGc rs cs sl d L kd A nL p l e R s m args below meth c Q σ pc lv (.ref a :: st) := zg_geti X ha rfl (by decide) rfl (by decide) rfl zl_in2 zk_X10_108 hdg (k _ rfl (zi_get hI ha rfl))
theorem fp_X10_108 (X : zX d L kd A nL p s m args c cc RX10) {v : Int32} (hI : zI κ b L kd σ) (ha : zT L kd a 2) (h : 0 ≤ v.toInt ∧ v.toInt ≤ 20) (hdg : decode cc pc = .ok (.putfield 108, 3)) (k : ∀ σ2 : zS, σ2 = (zu σ.1 a 4 v, σ.2.1, σ.2.2) → zI κ b L kd σ2 → zGc rs cs sl d L kd A nL p l e R s m args below meth c Q σ2 (pc + 3) lv st) : zGc rs cs sl d L kd A nL p l e R s m args below meth c Q σ pc lv (.int v :: .ref a :: st) := zg_puti (ty := .int) X ha rfl (by decide) rfl (by decide) rfl rfl zl_in2 tyX2_ok nmX2 zk_X10_108 rfl (by decide +kernel) rfl rfl hdg (fun σ2 h2 => k σ2 h2 (by rw [h2]; exact zi_puti hI ha rfl h.1 h.2))
set_option maxRecDepth 20000 in
theorem zkl_X9_40 : Cond.fieldLink RX9 40 (TX9 0).1 (TX9 0).2.1 (TX9 0).2.2.1 ∈ zWL := zw2 (List.mem_of_getElem? (i := 111) rfl) rfl
set_option maxRecDepth 20000 in
theorem zk_X9_40 : Cond.fieldLink RX9 40 (TX9 0).1 (TX9 0).2.1 (TX9 0).2.2.1 ∈ zWL ∨ ∃ host, Cond.fieldLinkNest RX9 40 (TX9 0).1 (TX9 0).2.1 (TX9 0).2.2.1 host ∈ tables_1 := Or.inl (zw2 (List.mem_of_getElem? (i := 111) rfl) rfl)
theorem fg_X9_40 (X : zX d L kd A nL p s m args c cc RX9) (hI : zI κ b L kd σ) (ha : zT L kd a 9) (hdg : decode cc pc = .ok (.getfield 40, 3)) (k : ∀ v : Int32, v = σ.1 a 0 → 0 ≤ v.toInt ∧ v.toInt ≤ 12 → zGc rs cs sl d L kd A nL p l e R s m args below meth c Q σ (pc + 3) lv (.int v :: st)) : zGc rs cs sl d L kd A nL p l e R s m args below meth c Q σ pc lv (.ref a :: st) := zg_geti X ha rfl (by decide) rfl (by decide) rfl zl_in9 zk_X9_40 hdg (k _ rfl (zi_get hI ha rfl))
theorem fp_X9_40 (X : zX d L kd A nL p s m args c cc RX9) {v : Int32} (hI : zI κ b L kd σ) (ha : zT L kd a 9) (h : 0 ≤ v.toInt ∧ v.toInt ≤ 12) (hdg : decode cc pc = .ok (.putfield 40, 3)) (k : ∀ σ2 : zS, σ2 = (zu σ.1 a 0 v, σ.2.1, σ.2.2) → zI κ b L kd σ2 → zGc rs cs sl d L kd A nL p l e R s m args below meth c Q σ2 (pc + 3) lv st) : zGc rs cs sl d L kd A nL p l e R s m args below meth c Q σ pc lv (.int v :: .ref a :: st) := zg_puti (ty := .int) X ha rfl (by decide) rfl (by decide) rfl rfl zl_in9 tyX9_ok nmX9 zk_X9_40 rfl (by decide +kernel) rfl rfl hdg (fun σ2 h2 => k σ2 h2 (by rw [h2]; exact zi_puti hI ha rfl h.1 h.2))
set_option maxRecDepth 20000 in
theorem zk_X6_34 : Cond.fieldLink RX6 34 (TX9 0).1 (TX9 0).2.1 (TX9 0).2.2.1 ∈ zWL ∨ ∃ host, Cond.fieldLinkNest RX6 34 (TX9 0).1 (TX9 0).2.1 (TX9 0).2.2.1 host ∈ tables_1 := Or.inr ⟨"SourceDispute", (zt2 (List.mem_of_getElem? (i := 112) rfl))⟩
theorem fg_X6_34 (X : zX d L kd A nL p s m args c cc RX6) (hI : zI κ b L kd σ) (ha : zT L kd a 9) (hdg : decode cc pc = .ok (.getfield 34, 3)) (k : ∀ v : Int32, v = σ.1 a 0 → 0 ≤ v.toInt ∧ v.toInt ≤ 12 → zGc rs cs sl d L kd A nL p l e R s m args below meth c Q σ (pc + 3) lv (.int v :: st)) : zGc rs cs sl d L kd A nL p l e R s m args below meth c Q σ pc lv (.ref a :: st) := zg_geti X ha rfl (by decide) rfl (by decide) rfl zl_in9 zk_X6_34 hdg (k _ rfl (zi_get hI ha rfl))
theorem fp_X6_34 (X : zX d L kd A nL p s m args c cc RX6) {v : Int32} (hI : zI κ b L kd σ) (ha : zT L kd a 9) (h : 0 ≤ v.toInt ∧ v.toInt ≤ 12) (hdg : decode cc pc = .ok (.putfield 34, 3)) (k : ∀ σ2 : zS, σ2 = (zu σ.1 a 0 v, σ.2.1, σ.2.2) → zI κ b L kd σ2 → zGc rs cs sl d L kd A nL p l e R s m args below meth c Q σ2 (pc + 3) lv st) : zGc rs cs sl d L kd A nL p l e R s m args below meth c Q σ pc lv (.int v :: .ref a :: st) := zg_puti (ty := .int) X ha rfl (by decide) rfl (by decide) rfl rfl zl_in9 tyX9_ok nmX9 zk_X6_34 rfl (by decide +kernel) rfl rfl hdg (fun σ2 h2 => k σ2 h2 (by rw [h2]; exact zi_puti hI ha rfl h.1 h.2))
set_option maxRecDepth 20000 in
theorem zk_X3_71 : Cond.fieldLink RX3 71 (TX9 0).1 (TX9 0).2.1 (TX9 0).2.2.1 ∈ zWL ∨ ∃ host, Cond.fieldLinkNest RX3 71 (TX9 0).1 (TX9 0).2.1 (TX9 0).2.2.1 host ∈ tables_1 := Or.inr ⟨"SourceDispute", (zt2 (List.mem_of_getElem? (i := 113) rfl))⟩
theorem fg_X3_71 (X : zX d L kd A nL p s m args c cc RX3) (hI : zI κ b L kd σ) (ha : zT L kd a 9) (hdg : decode cc pc = .ok (.getfield 71, 3)) (k : ∀ v : Int32, v = σ.1 a 0 → 0 ≤ v.toInt ∧ v.toInt ≤ 12 → zGc rs cs sl d L kd A nL p l e R s m args below meth c Q σ (pc + 3) lv (.int v :: st)) : zGc rs cs sl d L kd A nL p l e R s m args below meth c Q σ pc lv (.ref a :: st) := zg_geti X ha rfl (by decide) rfl (by decide) rfl zl_in9 zk_X3_71 hdg (k _ rfl (zi_get hI ha rfl))
theorem fp_X3_71 (X : zX d L kd A nL p s m args c cc RX3) {v : Int32} (hI : zI κ b L kd σ) (ha : zT L kd a 9) (h : 0 ≤ v.toInt ∧ v.toInt ≤ 12) (hdg : decode cc pc = .ok (.putfield 71, 3)) (k : ∀ σ2 : zS, σ2 = (zu σ.1 a 0 v, σ.2.1, σ.2.2) → zI κ b L kd σ2 → zGc rs cs sl d L kd A nL p l e R s m args below meth c Q σ2 (pc + 3) lv st) : zGc rs cs sl d L kd A nL p l e R s m args below meth c Q σ pc lv (.int v :: .ref a :: st) := zg_puti (ty := .int) X ha rfl (by decide) rfl (by decide) rfl rfl zl_in9 tyX9_ok nmX9 zk_X3_71 rfl (by decide +kernel) rfl rfl hdg (fun σ2 h2 => k σ2 h2 (by rw [h2]; exact zi_puti hI ha rfl h.1 h.2))
set_option maxRecDepth 20000 in
theorem zk_X10_175 : Cond.fieldLink RX10 175 (TX9 0).1 (TX9 0).2.1 (TX9 0).2.2.1 ∈ zWL ∨ ∃ host, Cond.fieldLinkNest RX10 175 (TX9 0).1 (TX9 0).2.1 (TX9 0).2.2.1 host ∈ tables_1 := Or.inr ⟨"SourceDispute", (zt2 (List.mem_of_getElem? (i := 114) rfl))⟩
theorem fg_X10_175 (X : zX d L kd A nL p s m args c cc RX10) (hI : zI κ b L kd σ) (ha : zT L kd a 9) (hdg : decode cc pc = .ok (.getfield 175, 3)) (k : ∀ v : Int32, v = σ.1 a 0 → 0 ≤ v.toInt ∧ v.toInt ≤ 12 → zGc rs cs sl d L kd A nL p l e R s m args below meth c Q σ (pc + 3) lv (.int v :: st)) : zGc rs cs sl d L kd A nL p l e R s m args below meth c Q σ pc lv (.ref a :: st) := zg_geti X ha rfl (by decide) rfl (by decide) rfl zl_in9 zk_X10_175 hdg (k _ rfl (zi_get hI ha rfl))
theorem fp_X10_175 (X : zX d L kd A nL p s m args c cc RX10) {v : Int32} (hI : zI κ b L kd σ) (ha : zT L kd a 9) (h : 0 ≤ v.toInt ∧ v.toInt ≤ 12) (hdg : decode cc pc = .ok (.putfield 175, 3)) (k : ∀ σ2 : zS, σ2 = (zu σ.1 a 0 v, σ.2.1, σ.2.2) → zI κ b L kd σ2 → zGc rs cs sl d L kd A nL p l e R s m args below meth c Q σ2 (pc + 3) lv st) : zGc rs cs sl d L kd A nL p l e R s m args below meth c Q σ pc lv (.int v :: .ref a :: st) := zg_puti (ty := .int) X ha rfl (by decide) rfl (by decide) rfl rfl zl_in9 tyX9_ok nmX9 zk_X10_175 rfl (by decide +kernel) rfl rfl hdg (fun σ2 h2 => k σ2 h2 (by rw [h2]; exact zi_puti hI ha rfl h.1 h.2))
set_option maxRecDepth 20000 in
theorem zkl_X9_9 : Cond.fieldLink RX9 9 (TX9 1).1 (TX9 1).2.1 (TX9 1).2.2.1 ∈ zWL := zw2 (List.mem_of_getElem? (i := 115) rfl) rfl
set_option maxRecDepth 20000 in
theorem zk_X9_9 : Cond.fieldLink RX9 9 (TX9 1).1 (TX9 1).2.1 (TX9 1).2.2.1 ∈ zWL ∨ ∃ host, Cond.fieldLinkNest RX9 9 (TX9 1).1 (TX9 1).2.1 (TX9 1).2.2.1 host ∈ tables_1 := Or.inl (zw2 (List.mem_of_getElem? (i := 115) rfl) rfl)
theorem fg_X9_9 (X : zX d L kd A nL p s m args c cc RX9) (hI : zI κ b L kd σ) (ha : zT L kd a 9) (hdg : decode cc pc = .ok (.getfield 9, 3)) (k : ∀ y : Nat, σ.2.2 a 1 = some y → zT L kd y 44 → zGc rs cs sl d L kd A nL p l e R s m args below meth c Q σ (pc + 3) lv (.ref y :: st)) : zGc rs cs sl d L kd A nL p l e R s m args below meth c Q σ pc lv (.ref a :: st) := by
  obtain ⟨y, hy, hT⟩ := zi_ref hI ha (show zf _ 9 1 = some 44 from rfl)
  have q := k y hy hT
  exact zg_getr X ha rfl (by decide) rfl (by decide) rfl zl_in9 zk_X9_9 hdg (by rw [hy]; exact q)
set_option maxRecDepth 20000 in
theorem zk_X3_113 : Cond.fieldLink RX3 113 (TX9 1).1 (TX9 1).2.1 (TX9 1).2.2.1 ∈ zWL ∨ ∃ host, Cond.fieldLinkNest RX3 113 (TX9 1).1 (TX9 1).2.1 (TX9 1).2.2.1 host ∈ tables_1 := Or.inr ⟨"SourceDispute", (zt2 (List.mem_of_getElem? (i := 116) rfl))⟩
theorem fg_X3_113 (X : zX d L kd A nL p s m args c cc RX3) (hI : zI κ b L kd σ) (ha : zT L kd a 9) (hdg : decode cc pc = .ok (.getfield 113, 3)) (k : ∀ y : Nat, σ.2.2 a 1 = some y → zT L kd y 44 → zGc rs cs sl d L kd A nL p l e R s m args below meth c Q σ (pc + 3) lv (.ref y :: st)) : zGc rs cs sl d L kd A nL p l e R s m args below meth c Q σ pc lv (.ref a :: st) := by
  obtain ⟨y, hy, hT⟩ := zi_ref hI ha (show zf _ 9 1 = some 44 from rfl)
  have q := k y hy hT
  exact zg_getr X ha rfl (by decide) rfl (by decide) rfl zl_in9 zk_X3_113 hdg (by rw [hy]; exact q)
set_option maxRecDepth 20000 in
theorem zkl_X9_15 : Cond.fieldLink RX9 15 (TX9 2).1 (TX9 2).2.1 (TX9 2).2.2.1 ∈ zWL := zw2 (List.mem_of_getElem? (i := 117) rfl) rfl
set_option maxRecDepth 20000 in
theorem zk_X9_15 : Cond.fieldLink RX9 15 (TX9 2).1 (TX9 2).2.1 (TX9 2).2.2.1 ∈ zWL ∨ ∃ host, Cond.fieldLinkNest RX9 15 (TX9 2).1 (TX9 2).2.1 (TX9 2).2.2.1 host ∈ tables_1 := Or.inl (zw2 (List.mem_of_getElem? (i := 117) rfl) rfl)
theorem fg_X9_15 (X : zX d L kd A nL p s m args c cc RX9) (hI : zI κ b L kd σ) (ha : zT L kd a 9) (hdg : decode cc pc = .ok (.getfield 15, 3)) (k : ∀ y : Nat, σ.2.2 a 2 = some y → zT L kd y 45 → zGc rs cs sl d L kd A nL p l e R s m args below meth c Q σ (pc + 3) lv (.ref y :: st)) : zGc rs cs sl d L kd A nL p l e R s m args below meth c Q σ pc lv (.ref a :: st) := by
  obtain ⟨y, hy, hT⟩ := zi_ref hI ha (show zf _ 9 2 = some 45 from rfl)
  have q := k y hy hT
  exact zg_getr X ha rfl (by decide) rfl (by decide) rfl zl_in9 zk_X9_15 hdg (by rw [hy]; exact q)
set_option maxRecDepth 20000 in
theorem zk_X1_31 : Cond.fieldLink RX1 31 (TX9 2).1 (TX9 2).2.1 (TX9 2).2.2.1 ∈ zWL ∨ ∃ host, Cond.fieldLinkNest RX1 31 (TX9 2).1 (TX9 2).2.1 (TX9 2).2.2.1 host ∈ tables_1 := Or.inr ⟨"SourceDispute", (zt2 (List.mem_of_getElem? (i := 118) rfl))⟩
theorem fg_X1_31 (X : zX d L kd A nL p s m args c cc RX1) (hI : zI κ b L kd σ) (ha : zT L kd a 9) (hdg : decode cc pc = .ok (.getfield 31, 3)) (k : ∀ y : Nat, σ.2.2 a 2 = some y → zT L kd y 45 → zGc rs cs sl d L kd A nL p l e R s m args below meth c Q σ (pc + 3) lv (.ref y :: st)) : zGc rs cs sl d L kd A nL p l e R s m args below meth c Q σ pc lv (.ref a :: st) := by
  obtain ⟨y, hy, hT⟩ := zi_ref hI ha (show zf _ 9 2 = some 45 from rfl)
  have q := k y hy hT
  exact zg_getr X ha rfl (by decide) rfl (by decide) rfl zl_in9 zk_X1_31 hdg (by rw [hy]; exact q)
set_option maxRecDepth 20000 in
theorem zk_X10_215 : Cond.fieldLink RX10 215 (TX9 2).1 (TX9 2).2.1 (TX9 2).2.2.1 ∈ zWL ∨ ∃ host, Cond.fieldLinkNest RX10 215 (TX9 2).1 (TX9 2).2.1 (TX9 2).2.2.1 host ∈ tables_1 := Or.inr ⟨"SourceDispute", (zt2 (List.mem_of_getElem? (i := 119) rfl))⟩
theorem fg_X10_215 (X : zX d L kd A nL p s m args c cc RX10) (hI : zI κ b L kd σ) (ha : zT L kd a 9) (hdg : decode cc pc = .ok (.getfield 215, 3)) (k : ∀ y : Nat, σ.2.2 a 2 = some y → zT L kd y 45 → zGc rs cs sl d L kd A nL p l e R s m args below meth c Q σ (pc + 3) lv (.ref y :: st)) : zGc rs cs sl d L kd A nL p l e R s m args below meth c Q σ pc lv (.ref a :: st) := by
  obtain ⟨y, hy, hT⟩ := zi_ref hI ha (show zf _ 9 2 = some 45 from rfl)
  have q := k y hy hT
  exact zg_getr X ha rfl (by decide) rfl (by decide) rfl zl_in9 zk_X10_215 hdg (by rw [hy]; exact q)
set_option maxRecDepth 20000 in
theorem zkl_X9_19 : Cond.fieldLink RX9 19 (TX9 3).1 (TX9 3).2.1 (TX9 3).2.2.1 ∈ zWL := zw2 (List.mem_of_getElem? (i := 120) rfl) rfl
set_option maxRecDepth 20000 in
theorem zk_X9_19 : Cond.fieldLink RX9 19 (TX9 3).1 (TX9 3).2.1 (TX9 3).2.2.1 ∈ zWL ∨ ∃ host, Cond.fieldLinkNest RX9 19 (TX9 3).1 (TX9 3).2.1 (TX9 3).2.2.1 host ∈ tables_1 := Or.inl (zw2 (List.mem_of_getElem? (i := 120) rfl) rfl)
theorem fg_X9_19 (X : zX d L kd A nL p s m args c cc RX9) (hI : zI κ b L kd σ) (ha : zT L kd a 9) (hdg : decode cc pc = .ok (.getfield 19, 3)) (k : ∀ y : Nat, σ.2.2 a 3 = some y → zT L kd y 46 → zGc rs cs sl d L kd A nL p l e R s m args below meth c Q σ (pc + 3) lv (.ref y :: st)) : zGc rs cs sl d L kd A nL p l e R s m args below meth c Q σ pc lv (.ref a :: st) := by
  obtain ⟨y, hy, hT⟩ := zi_ref hI ha (show zf _ 9 3 = some 46 from rfl)
  have q := k y hy hT
  exact zg_getr X ha rfl (by decide) rfl (by decide) rfl zl_in9 zk_X9_19 hdg (by rw [hy]; exact q)
set_option maxRecDepth 20000 in
theorem zk_X6_37 : Cond.fieldLink RX6 37 (TX9 3).1 (TX9 3).2.1 (TX9 3).2.2.1 ∈ zWL ∨ ∃ host, Cond.fieldLinkNest RX6 37 (TX9 3).1 (TX9 3).2.1 (TX9 3).2.2.1 host ∈ tables_1 := Or.inr ⟨"SourceDispute", (zt2 (List.mem_of_getElem? (i := 121) rfl))⟩
theorem fg_X6_37 (X : zX d L kd A nL p s m args c cc RX6) (hI : zI κ b L kd σ) (ha : zT L kd a 9) (hdg : decode cc pc = .ok (.getfield 37, 3)) (k : ∀ y : Nat, σ.2.2 a 3 = some y → zT L kd y 46 → zGc rs cs sl d L kd A nL p l e R s m args below meth c Q σ (pc + 3) lv (.ref y :: st)) : zGc rs cs sl d L kd A nL p l e R s m args below meth c Q σ pc lv (.ref a :: st) := by
  obtain ⟨y, hy, hT⟩ := zi_ref hI ha (show zf _ 9 3 = some 46 from rfl)
  have q := k y hy hT
  exact zg_getr X ha rfl (by decide) rfl (by decide) rfl zl_in9 zk_X6_37 hdg (by rw [hy]; exact q)
set_option maxRecDepth 20000 in
theorem zk_X10_119 : Cond.fieldLink RX10 119 (TX9 3).1 (TX9 3).2.1 (TX9 3).2.2.1 ∈ zWL ∨ ∃ host, Cond.fieldLinkNest RX10 119 (TX9 3).1 (TX9 3).2.1 (TX9 3).2.2.1 host ∈ tables_1 := Or.inr ⟨"SourceDispute", (zt2 (List.mem_of_getElem? (i := 122) rfl))⟩
theorem fg_X10_119 (X : zX d L kd A nL p s m args c cc RX10) (hI : zI κ b L kd σ) (ha : zT L kd a 9) (hdg : decode cc pc = .ok (.getfield 119, 3)) (k : ∀ y : Nat, σ.2.2 a 3 = some y → zT L kd y 46 → zGc rs cs sl d L kd A nL p l e R s m args below meth c Q σ (pc + 3) lv (.ref y :: st)) : zGc rs cs sl d L kd A nL p l e R s m args below meth c Q σ pc lv (.ref a :: st) := by
  obtain ⟨y, hy, hT⟩ := zi_ref hI ha (show zf _ 9 3 = some 46 from rfl)
  have q := k y hy hT
  exact zg_getr X ha rfl (by decide) rfl (by decide) rfl zl_in9 zk_X10_119 hdg (by rw [hy]; exact q)
set_option maxRecDepth 20000 in
theorem zk_X5_112 : Cond.fieldLink RX5 112 (TX9 3).1 (TX9 3).2.1 (TX9 3).2.2.1 ∈ zWL ∨ ∃ host, Cond.fieldLinkNest RX5 112 (TX9 3).1 (TX9 3).2.1 (TX9 3).2.2.1 host ∈ tables_1 := Or.inr ⟨"SourceDispute", (zt2 (List.mem_of_getElem? (i := 123) rfl))⟩
theorem fg_X5_112 (X : zX d L kd A nL p s m args c cc RX5) (hI : zI κ b L kd σ) (ha : zT L kd a 9) (hdg : decode cc pc = .ok (.getfield 112, 3)) (k : ∀ y : Nat, σ.2.2 a 3 = some y → zT L kd y 46 → zGc rs cs sl d L kd A nL p l e R s m args below meth c Q σ (pc + 3) lv (.ref y :: st)) : zGc rs cs sl d L kd A nL p l e R s m args below meth c Q σ pc lv (.ref a :: st) := by
  obtain ⟨y, hy, hT⟩ := zi_ref hI ha (show zf _ 9 3 = some 46 from rfl)
  have q := k y hy hT
  exact zg_getr X ha rfl (by decide) rfl (by decide) rfl zl_in9 zk_X5_112 hdg (by rw [hy]; exact q)
set_option maxRecDepth 20000 in
theorem zkl_X9_22 : Cond.fieldLink RX9 22 (TX9 4).1 (TX9 4).2.1 (TX9 4).2.2.1 ∈ zWL := zw2 (List.mem_of_getElem? (i := 124) rfl) rfl
set_option maxRecDepth 20000 in
theorem zk_X9_22 : Cond.fieldLink RX9 22 (TX9 4).1 (TX9 4).2.1 (TX9 4).2.2.1 ∈ zWL ∨ ∃ host, Cond.fieldLinkNest RX9 22 (TX9 4).1 (TX9 4).2.1 (TX9 4).2.2.1 host ∈ tables_1 := Or.inl (zw2 (List.mem_of_getElem? (i := 124) rfl) rfl)
theorem fg_X9_22 (X : zX d L kd A nL p s m args c cc RX9) (hI : zI κ b L kd σ) (ha : zT L kd a 9) (hdg : decode cc pc = .ok (.getfield 22, 3)) (k : ∀ y : Nat, σ.2.2 a 4 = some y → zT L kd y 47 → zGc rs cs sl d L kd A nL p l e R s m args below meth c Q σ (pc + 3) lv (.ref y :: st)) : zGc rs cs sl d L kd A nL p l e R s m args below meth c Q σ pc lv (.ref a :: st) := by
  obtain ⟨y, hy, hT⟩ := zi_ref hI ha (show zf _ 9 4 = some 47 from rfl)
  have q := k y hy hT
  exact zg_getr X ha rfl (by decide) rfl (by decide) rfl zl_in9 zk_X9_22 hdg (by rw [hy]; exact q)
set_option maxRecDepth 20000 in
theorem zk_X10_122 : Cond.fieldLink RX10 122 (TX9 4).1 (TX9 4).2.1 (TX9 4).2.2.1 ∈ zWL ∨ ∃ host, Cond.fieldLinkNest RX10 122 (TX9 4).1 (TX9 4).2.1 (TX9 4).2.2.1 host ∈ tables_1 := Or.inr ⟨"SourceDispute", (zt2 (List.mem_of_getElem? (i := 125) rfl))⟩
theorem fg_X10_122 (X : zX d L kd A nL p s m args c cc RX10) (hI : zI κ b L kd σ) (ha : zT L kd a 9) (hdg : decode cc pc = .ok (.getfield 122, 3)) (k : ∀ y : Nat, σ.2.2 a 4 = some y → zT L kd y 47 → zGc rs cs sl d L kd A nL p l e R s m args below meth c Q σ (pc + 3) lv (.ref y :: st)) : zGc rs cs sl d L kd A nL p l e R s m args below meth c Q σ pc lv (.ref a :: st) := by
  obtain ⟨y, hy, hT⟩ := zi_ref hI ha (show zf _ 9 4 = some 47 from rfl)
  have q := k y hy hT
  exact zg_getr X ha rfl (by decide) rfl (by decide) rfl zl_in9 zk_X10_122 hdg (by rw [hy]; exact q)
set_option maxRecDepth 20000 in
theorem zk_X5_99 : Cond.fieldLink RX5 99 (TX9 4).1 (TX9 4).2.1 (TX9 4).2.2.1 ∈ zWL ∨ ∃ host, Cond.fieldLinkNest RX5 99 (TX9 4).1 (TX9 4).2.1 (TX9 4).2.2.1 host ∈ tables_1 := Or.inr ⟨"SourceDispute", (zt2 (List.mem_of_getElem? (i := 126) rfl))⟩
theorem fg_X5_99 (X : zX d L kd A nL p s m args c cc RX5) (hI : zI κ b L kd σ) (ha : zT L kd a 9) (hdg : decode cc pc = .ok (.getfield 99, 3)) (k : ∀ y : Nat, σ.2.2 a 4 = some y → zT L kd y 47 → zGc rs cs sl d L kd A nL p l e R s m args below meth c Q σ (pc + 3) lv (.ref y :: st)) : zGc rs cs sl d L kd A nL p l e R s m args below meth c Q σ pc lv (.ref a :: st) := by
  obtain ⟨y, hy, hT⟩ := zi_ref hI ha (show zf _ 9 4 = some 47 from rfl)
  have q := k y hy hT
  exact zg_getr X ha rfl (by decide) rfl (by decide) rfl zl_in9 zk_X5_99 hdg (by rw [hy]; exact q)
set_option maxRecDepth 20000 in
theorem zkl_X9_25 : Cond.fieldLink RX9 25 (TX9 5).1 (TX9 5).2.1 (TX9 5).2.2.1 ∈ zWL := zw2 (List.mem_of_getElem? (i := 127) rfl) rfl
set_option maxRecDepth 20000 in
theorem zk_X9_25 : Cond.fieldLink RX9 25 (TX9 5).1 (TX9 5).2.1 (TX9 5).2.2.1 ∈ zWL ∨ ∃ host, Cond.fieldLinkNest RX9 25 (TX9 5).1 (TX9 5).2.1 (TX9 5).2.2.1 host ∈ tables_1 := Or.inl (zw2 (List.mem_of_getElem? (i := 127) rfl) rfl)
theorem fg_X9_25 (X : zX d L kd A nL p s m args c cc RX9) (hI : zI κ b L kd σ) (ha : zT L kd a 9) (hdg : decode cc pc = .ok (.getfield 25, 3)) (k : ∀ y : Nat, σ.2.2 a 5 = some y → zT L kd y 48 → zGc rs cs sl d L kd A nL p l e R s m args below meth c Q σ (pc + 3) lv (.ref y :: st)) : zGc rs cs sl d L kd A nL p l e R s m args below meth c Q σ pc lv (.ref a :: st) := by
  obtain ⟨y, hy, hT⟩ := zi_ref hI ha (show zf _ 9 5 = some 48 from rfl)
  have q := k y hy hT
  exact zg_getr X ha rfl (by decide) rfl (by decide) rfl zl_in9 zk_X9_25 hdg (by rw [hy]; exact q)
set_option maxRecDepth 20000 in
theorem zk_X10_125 : Cond.fieldLink RX10 125 (TX9 5).1 (TX9 5).2.1 (TX9 5).2.2.1 ∈ zWL ∨ ∃ host, Cond.fieldLinkNest RX10 125 (TX9 5).1 (TX9 5).2.1 (TX9 5).2.2.1 host ∈ tables_1 := Or.inr ⟨"SourceDispute", (zt2 (List.mem_of_getElem? (i := 128) rfl))⟩
theorem fg_X10_125 (X : zX d L kd A nL p s m args c cc RX10) (hI : zI κ b L kd σ) (ha : zT L kd a 9) (hdg : decode cc pc = .ok (.getfield 125, 3)) (k : ∀ y : Nat, σ.2.2 a 5 = some y → zT L kd y 48 → zGc rs cs sl d L kd A nL p l e R s m args below meth c Q σ (pc + 3) lv (.ref y :: st)) : zGc rs cs sl d L kd A nL p l e R s m args below meth c Q σ pc lv (.ref a :: st) := by
  obtain ⟨y, hy, hT⟩ := zi_ref hI ha (show zf _ 9 5 = some 48 from rfl)
  have q := k y hy hT
  exact zg_getr X ha rfl (by decide) rfl (by decide) rfl zl_in9 zk_X10_125 hdg (by rw [hy]; exact q)
set_option maxRecDepth 20000 in
theorem zk_X5_105 : Cond.fieldLink RX5 105 (TX9 5).1 (TX9 5).2.1 (TX9 5).2.2.1 ∈ zWL ∨ ∃ host, Cond.fieldLinkNest RX5 105 (TX9 5).1 (TX9 5).2.1 (TX9 5).2.2.1 host ∈ tables_1 := Or.inr ⟨"SourceDispute", (zt2 (List.mem_of_getElem? (i := 129) rfl))⟩
theorem fg_X5_105 (X : zX d L kd A nL p s m args c cc RX5) (hI : zI κ b L kd σ) (ha : zT L kd a 9) (hdg : decode cc pc = .ok (.getfield 105, 3)) (k : ∀ y : Nat, σ.2.2 a 5 = some y → zT L kd y 48 → zGc rs cs sl d L kd A nL p l e R s m args below meth c Q σ (pc + 3) lv (.ref y :: st)) : zGc rs cs sl d L kd A nL p l e R s m args below meth c Q σ pc lv (.ref a :: st) := by
  obtain ⟨y, hy, hT⟩ := zi_ref hI ha (show zf _ 9 5 = some 48 from rfl)
  have q := k y hy hT
  exact zg_getr X ha rfl (by decide) rfl (by decide) rfl zl_in9 zk_X5_105 hdg (by rw [hy]; exact q)
set_option maxRecDepth 20000 in
theorem zkl_X9_28 : Cond.fieldLink RX9 28 (TX9 6).1 (TX9 6).2.1 (TX9 6).2.2.1 ∈ zWL := zw2 (List.mem_of_getElem? (i := 130) rfl) rfl
set_option maxRecDepth 20000 in
theorem zk_X9_28 : Cond.fieldLink RX9 28 (TX9 6).1 (TX9 6).2.1 (TX9 6).2.2.1 ∈ zWL ∨ ∃ host, Cond.fieldLinkNest RX9 28 (TX9 6).1 (TX9 6).2.1 (TX9 6).2.2.1 host ∈ tables_1 := Or.inl (zw2 (List.mem_of_getElem? (i := 130) rfl) rfl)
theorem fg_X9_28 (X : zX d L kd A nL p s m args c cc RX9) (hI : zI κ b L kd σ) (ha : zT L kd a 9) (hdg : decode cc pc = .ok (.getfield 28, 3)) (k : ∀ y : Nat, σ.2.2 a 6 = some y → zT L kd y 49 → zGc rs cs sl d L kd A nL p l e R s m args below meth c Q σ (pc + 3) lv (.ref y :: st)) : zGc rs cs sl d L kd A nL p l e R s m args below meth c Q σ pc lv (.ref a :: st) := by
  obtain ⟨y, hy, hT⟩ := zi_ref hI ha (show zf _ 9 6 = some 49 from rfl)
  have q := k y hy hT
  exact zg_getr X ha rfl (by decide) rfl (by decide) rfl zl_in9 zk_X9_28 hdg (by rw [hy]; exact q)
set_option maxRecDepth 20000 in
theorem zk_X0_25 : Cond.fieldLink RX0 25 (TX9 6).1 (TX9 6).2.1 (TX9 6).2.2.1 ∈ zWL ∨ ∃ host, Cond.fieldLinkNest RX0 25 (TX9 6).1 (TX9 6).2.1 (TX9 6).2.2.1 host ∈ tables_1 := Or.inr ⟨"SourceDispute", (zt2 (List.mem_of_getElem? (i := 131) rfl))⟩
theorem fg_X0_25 (X : zX d L kd A nL p s m args c cc RX0) (hI : zI κ b L kd σ) (ha : zT L kd a 9) (hdg : decode cc pc = .ok (.getfield 25, 3)) (k : ∀ y : Nat, σ.2.2 a 6 = some y → zT L kd y 49 → zGc rs cs sl d L kd A nL p l e R s m args below meth c Q σ (pc + 3) lv (.ref y :: st)) : zGc rs cs sl d L kd A nL p l e R s m args below meth c Q σ pc lv (.ref a :: st) := by
  obtain ⟨y, hy, hT⟩ := zi_ref hI ha (show zf _ 9 6 = some 49 from rfl)
  have q := k y hy hT
  exact zg_getr X ha rfl (by decide) rfl (by decide) rfl zl_in9 zk_X0_25 hdg (by rw [hy]; exact q)
set_option maxRecDepth 20000 in
theorem zkl_X9_31 : Cond.fieldLink RX9 31 (TX9 7).1 (TX9 7).2.1 (TX9 7).2.2.1 ∈ zWL := zw2 (List.mem_of_getElem? (i := 132) rfl) rfl
set_option maxRecDepth 20000 in
theorem zk_X9_31 : Cond.fieldLink RX9 31 (TX9 7).1 (TX9 7).2.1 (TX9 7).2.2.1 ∈ zWL ∨ ∃ host, Cond.fieldLinkNest RX9 31 (TX9 7).1 (TX9 7).2.1 (TX9 7).2.2.1 host ∈ tables_1 := Or.inl (zw2 (List.mem_of_getElem? (i := 132) rfl) rfl)
theorem fg_X9_31 (X : zX d L kd A nL p s m args c cc RX9) (hI : zI κ b L kd σ) (ha : zT L kd a 9) (hdg : decode cc pc = .ok (.getfield 31, 3)) (k : ∀ y : Nat, σ.2.2 a 7 = some y → zT L kd y 50 → zGc rs cs sl d L kd A nL p l e R s m args below meth c Q σ (pc + 3) lv (.ref y :: st)) : zGc rs cs sl d L kd A nL p l e R s m args below meth c Q σ pc lv (.ref a :: st) := by
  obtain ⟨y, hy, hT⟩ := zi_ref hI ha (show zf _ 9 7 = some 50 from rfl)
  have q := k y hy hT
  exact zg_getr X ha rfl (by decide) rfl (by decide) rfl zl_in9 zk_X9_31 hdg (by rw [hy]; exact q)
set_option maxRecDepth 20000 in
theorem zk_X0_28 : Cond.fieldLink RX0 28 (TX9 7).1 (TX9 7).2.1 (TX9 7).2.2.1 ∈ zWL ∨ ∃ host, Cond.fieldLinkNest RX0 28 (TX9 7).1 (TX9 7).2.1 (TX9 7).2.2.1 host ∈ tables_1 := Or.inr ⟨"SourceDispute", (zt2 (List.mem_of_getElem? (i := 133) rfl))⟩
theorem fg_X0_28 (X : zX d L kd A nL p s m args c cc RX0) (hI : zI κ b L kd σ) (ha : zT L kd a 9) (hdg : decode cc pc = .ok (.getfield 28, 3)) (k : ∀ y : Nat, σ.2.2 a 7 = some y → zT L kd y 50 → zGc rs cs sl d L kd A nL p l e R s m args below meth c Q σ (pc + 3) lv (.ref y :: st)) : zGc rs cs sl d L kd A nL p l e R s m args below meth c Q σ pc lv (.ref a :: st) := by
  obtain ⟨y, hy, hT⟩ := zi_ref hI ha (show zf _ 9 7 = some 50 from rfl)
  have q := k y hy hT
  exact zg_getr X ha rfl (by decide) rfl (by decide) rfl zl_in9 zk_X0_28 hdg (by rw [hy]; exact q)
set_option maxRecDepth 20000 in
theorem zkl_X9_44 : Cond.fieldLink RX9 44 (TX9 8).1 (TX9 8).2.1 (TX9 8).2.2.1 ∈ zWL := zw2 (List.mem_of_getElem? (i := 134) rfl) rfl
set_option maxRecDepth 20000 in
theorem zk_X9_44 : Cond.fieldLink RX9 44 (TX9 8).1 (TX9 8).2.1 (TX9 8).2.2.1 ∈ zWL ∨ ∃ host, Cond.fieldLinkNest RX9 44 (TX9 8).1 (TX9 8).2.1 (TX9 8).2.2.1 host ∈ tables_1 := Or.inl (zw2 (List.mem_of_getElem? (i := 134) rfl) rfl)
theorem fg_X9_44 (X : zX d L kd A nL p s m args c cc RX9) (hI : zI κ b L kd σ) (ha : zT L kd a 9) (hdg : decode cc pc = .ok (.getfield 44, 3)) (k : ∀ v : Int32, v = σ.1 a 8 → 0 ≤ v.toInt ∧ v.toInt ≤ 420 → zGc rs cs sl d L kd A nL p l e R s m args below meth c Q σ (pc + 3) lv (.int v :: st)) : zGc rs cs sl d L kd A nL p l e R s m args below meth c Q σ pc lv (.ref a :: st) := zg_geti X ha rfl (by decide) rfl (by decide) rfl zl_in9 zk_X9_44 hdg (k _ rfl (zi_get hI ha rfl))
theorem fp_X9_44 (X : zX d L kd A nL p s m args c cc RX9) {v : Int32} (hI : zI κ b L kd σ) (ha : zT L kd a 9) (h : 0 ≤ v.toInt ∧ v.toInt ≤ 420) (hdg : decode cc pc = .ok (.putfield 44, 3)) (k : ∀ σ2 : zS, σ2 = (zu σ.1 a 8 v, σ.2.1, σ.2.2) → zI κ b L kd σ2 → zGc rs cs sl d L kd A nL p l e R s m args below meth c Q σ2 (pc + 3) lv st) : zGc rs cs sl d L kd A nL p l e R s m args below meth c Q σ pc lv (.int v :: .ref a :: st) := zg_puti (ty := .int) X ha rfl (by decide) rfl (by decide) rfl rfl zl_in9 tyX9_ok nmX9 zk_X9_44 rfl (by decide +kernel) rfl rfl hdg (fun σ2 h2 => k σ2 h2 (by rw [h2]; exact zi_puti hI ha rfl h.1 h.2))
set_option maxRecDepth 20000 in
theorem zk_X0_21 : Cond.fieldLink RX0 21 (TX9 8).1 (TX9 8).2.1 (TX9 8).2.2.1 ∈ zWL ∨ ∃ host, Cond.fieldLinkNest RX0 21 (TX9 8).1 (TX9 8).2.1 (TX9 8).2.2.1 host ∈ tables_1 := Or.inr ⟨"SourceDispute", (zt2 (List.mem_of_getElem? (i := 135) rfl))⟩
theorem fg_X0_21 (X : zX d L kd A nL p s m args c cc RX0) (hI : zI κ b L kd σ) (ha : zT L kd a 9) (hdg : decode cc pc = .ok (.getfield 21, 3)) (k : ∀ v : Int32, v = σ.1 a 8 → 0 ≤ v.toInt ∧ v.toInt ≤ 420 → zGc rs cs sl d L kd A nL p l e R s m args below meth c Q σ (pc + 3) lv (.int v :: st)) : zGc rs cs sl d L kd A nL p l e R s m args below meth c Q σ pc lv (.ref a :: st) := zg_geti X ha rfl (by decide) rfl (by decide) rfl zl_in9 zk_X0_21 hdg (k _ rfl (zi_get hI ha rfl))
theorem fp_X0_21 (X : zX d L kd A nL p s m args c cc RX0) {v : Int32} (hI : zI κ b L kd σ) (ha : zT L kd a 9) (h : 0 ≤ v.toInt ∧ v.toInt ≤ 420) (hdg : decode cc pc = .ok (.putfield 21, 3)) (k : ∀ σ2 : zS, σ2 = (zu σ.1 a 8 v, σ.2.1, σ.2.2) → zI κ b L kd σ2 → zGc rs cs sl d L kd A nL p l e R s m args below meth c Q σ2 (pc + 3) lv st) : zGc rs cs sl d L kd A nL p l e R s m args below meth c Q σ pc lv (.int v :: .ref a :: st) := zg_puti (ty := .int) X ha rfl (by decide) rfl (by decide) rfl rfl zl_in9 tyX9_ok nmX9 zk_X0_21 rfl (by decide +kernel) rfl rfl hdg (fun σ2 h2 => k σ2 h2 (by rw [h2]; exact zi_puti hI ha rfl h.1 h.2))
set_option maxRecDepth 20000 in
theorem zk_X3_137 : Cond.fieldLink RX3 137 (TX9 8).1 (TX9 8).2.1 (TX9 8).2.2.1 ∈ zWL ∨ ∃ host, Cond.fieldLinkNest RX3 137 (TX9 8).1 (TX9 8).2.1 (TX9 8).2.2.1 host ∈ tables_1 := Or.inr ⟨"SourceDispute", (zt2 (List.mem_of_getElem? (i := 136) rfl))⟩
theorem fg_X3_137 (X : zX d L kd A nL p s m args c cc RX3) (hI : zI κ b L kd σ) (ha : zT L kd a 9) (hdg : decode cc pc = .ok (.getfield 137, 3)) (k : ∀ v : Int32, v = σ.1 a 8 → 0 ≤ v.toInt ∧ v.toInt ≤ 420 → zGc rs cs sl d L kd A nL p l e R s m args below meth c Q σ (pc + 3) lv (.int v :: st)) : zGc rs cs sl d L kd A nL p l e R s m args below meth c Q σ pc lv (.ref a :: st) := zg_geti X ha rfl (by decide) rfl (by decide) rfl zl_in9 zk_X3_137 hdg (k _ rfl (zi_get hI ha rfl))
theorem fp_X3_137 (X : zX d L kd A nL p s m args c cc RX3) {v : Int32} (hI : zI κ b L kd σ) (ha : zT L kd a 9) (h : 0 ≤ v.toInt ∧ v.toInt ≤ 420) (hdg : decode cc pc = .ok (.putfield 137, 3)) (k : ∀ σ2 : zS, σ2 = (zu σ.1 a 8 v, σ.2.1, σ.2.2) → zI κ b L kd σ2 → zGc rs cs sl d L kd A nL p l e R s m args below meth c Q σ2 (pc + 3) lv st) : zGc rs cs sl d L kd A nL p l e R s m args below meth c Q σ pc lv (.int v :: .ref a :: st) := zg_puti (ty := .int) X ha rfl (by decide) rfl (by decide) rfl rfl zl_in9 tyX9_ok nmX9 zk_X3_137 rfl (by decide +kernel) rfl rfl hdg (fun σ2 h2 => k σ2 h2 (by rw [h2]; exact zi_puti hI ha rfl h.1 h.2))
set_option maxRecDepth 20000 in
theorem zkl_X9_34 : Cond.fieldLink RX9 34 (TX9 9).1 (TX9 9).2.1 (TX9 9).2.2.1 ∈ zWL := zw2 (List.mem_of_getElem? (i := 137) rfl) rfl
set_option maxRecDepth 20000 in
theorem zk_X9_34 : Cond.fieldLink RX9 34 (TX9 9).1 (TX9 9).2.1 (TX9 9).2.2.1 ∈ zWL ∨ ∃ host, Cond.fieldLinkNest RX9 34 (TX9 9).1 (TX9 9).2.1 (TX9 9).2.2.1 host ∈ tables_1 := Or.inl (zw2 (List.mem_of_getElem? (i := 137) rfl) rfl)
theorem fg_X9_34 (X : zX d L kd A nL p s m args c cc RX9) (hI : zI κ b L kd σ) (ha : zT L kd a 9) (hdg : decode cc pc = .ok (.getfield 34, 3)) (k : ∀ y : Nat, σ.2.2 a 9 = some y → zT L kd y 51 → zGc rs cs sl d L kd A nL p l e R s m args below meth c Q σ (pc + 3) lv (.ref y :: st)) : zGc rs cs sl d L kd A nL p l e R s m args below meth c Q σ pc lv (.ref a :: st) := by
  obtain ⟨y, hy, hT⟩ := zi_ref hI ha (show zf _ 9 9 = some 51 from rfl)
  have q := k y hy hT
  exact zg_getr X ha rfl (by decide) rfl (by decide) rfl zl_in9 zk_X9_34 hdg (by rw [hy]; exact q)
set_option maxRecDepth 20000 in
theorem zk_X0_16 : Cond.fieldLink RX0 16 (TX9 9).1 (TX9 9).2.1 (TX9 9).2.2.1 ∈ zWL ∨ ∃ host, Cond.fieldLinkNest RX0 16 (TX9 9).1 (TX9 9).2.1 (TX9 9).2.2.1 host ∈ tables_1 := Or.inr ⟨"SourceDispute", (zt2 (List.mem_of_getElem? (i := 138) rfl))⟩
theorem fg_X0_16 (X : zX d L kd A nL p s m args c cc RX0) (hI : zI κ b L kd σ) (ha : zT L kd a 9) (hdg : decode cc pc = .ok (.getfield 16, 3)) (k : ∀ y : Nat, σ.2.2 a 9 = some y → zT L kd y 51 → zGc rs cs sl d L kd A nL p l e R s m args below meth c Q σ (pc + 3) lv (.ref y :: st)) : zGc rs cs sl d L kd A nL p l e R s m args below meth c Q σ pc lv (.ref a :: st) := by
  obtain ⟨y, hy, hT⟩ := zi_ref hI ha (show zf _ 9 9 = some 51 from rfl)
  have q := k y hy hT
  exact zg_getr X ha rfl (by decide) rfl (by decide) rfl zl_in9 zk_X0_16 hdg (by rw [hy]; exact q)
set_option maxRecDepth 20000 in
theorem zk_X3_152 : Cond.fieldLink RX3 152 (TX9 9).1 (TX9 9).2.1 (TX9 9).2.2.1 ∈ zWL ∨ ∃ host, Cond.fieldLinkNest RX3 152 (TX9 9).1 (TX9 9).2.1 (TX9 9).2.2.1 host ∈ tables_1 := Or.inr ⟨"SourceDispute", (zt2 (List.mem_of_getElem? (i := 139) rfl))⟩
theorem fg_X3_152 (X : zX d L kd A nL p s m args c cc RX3) (hI : zI κ b L kd σ) (ha : zT L kd a 9) (hdg : decode cc pc = .ok (.getfield 152, 3)) (k : ∀ y : Nat, σ.2.2 a 9 = some y → zT L kd y 51 → zGc rs cs sl d L kd A nL p l e R s m args below meth c Q σ (pc + 3) lv (.ref y :: st)) : zGc rs cs sl d L kd A nL p l e R s m args below meth c Q σ pc lv (.ref a :: st) := by
  obtain ⟨y, hy, hT⟩ := zi_ref hI ha (show zf _ 9 9 = some 51 from rfl)
  have q := k y hy hT
  exact zg_getr X ha rfl (by decide) rfl (by decide) rfl zl_in9 zk_X3_152 hdg (by rw [hy]; exact q)
set_option maxRecDepth 20000 in
theorem zkl_X9_56 : Cond.fieldLink RX9 56 (TX9 10).1 (TX9 10).2.1 (TX9 10).2.2.1 ∈ zWL := zw2 (List.mem_of_getElem? (i := 140) rfl) rfl
set_option maxRecDepth 20000 in
theorem zk_X9_56 : Cond.fieldLink RX9 56 (TX9 10).1 (TX9 10).2.1 (TX9 10).2.2.1 ∈ zWL ∨ ∃ host, Cond.fieldLinkNest RX9 56 (TX9 10).1 (TX9 10).2.1 (TX9 10).2.2.1 host ∈ tables_1 := Or.inl (zw2 (List.mem_of_getElem? (i := 140) rfl) rfl)
theorem fg_X9_56 (X : zX d L kd A nL p s m args c cc RX9) (hI : zI κ b L kd σ) (ha : zT L kd a 9) (hdg : decode cc pc = .ok (.getfield 56, 3)) (k : ∀ v : Int32, v = σ.1 a 10 → (-2147483648) ≤ v.toInt ∧ v.toInt ≤ 2147483647 → zGc rs cs sl d L kd A nL p l e R s m args below meth c Q σ (pc + 3) lv (.int v :: st)) : zGc rs cs sl d L kd A nL p l e R s m args below meth c Q σ pc lv (.ref a :: st) := zg_geti X ha rfl (by decide) rfl (by decide) rfl zl_in9 zk_X9_56 hdg (k _ rfl (zi_get hI ha rfl))
theorem fp_X9_56 (X : zX d L kd A nL p s m args c cc RX9) {v : Int32} (hI : zI κ b L kd σ) (ha : zT L kd a 9) (h : (-2147483648) ≤ v.toInt ∧ v.toInt ≤ 2147483647) (hdg : decode cc pc = .ok (.putfield 56, 3)) (k : ∀ σ2 : zS, σ2 = (zu σ.1 a 10 v, σ.2.1, σ.2.2) → zI κ b L kd σ2 → zGc rs cs sl d L kd A nL p l e R s m args below meth c Q σ2 (pc + 3) lv st) : zGc rs cs sl d L kd A nL p l e R s m args below meth c Q σ pc lv (.int v :: .ref a :: st) := zg_puti (ty := .int) X ha rfl (by decide) rfl (by decide) rfl rfl zl_in9 tyX9_ok nmX9 zk_X9_56 rfl (by decide +kernel) rfl rfl hdg (fun σ2 h2 => k σ2 h2 (by rw [h2]; exact zi_puti hI ha rfl h.1 h.2))
set_option maxRecDepth 20000 in
theorem zk_X3_94 : Cond.fieldLink RX3 94 (TX9 10).1 (TX9 10).2.1 (TX9 10).2.2.1 ∈ zWL ∨ ∃ host, Cond.fieldLinkNest RX3 94 (TX9 10).1 (TX9 10).2.1 (TX9 10).2.2.1 host ∈ tables_1 := Or.inr ⟨"SourceDispute", (zt2 (List.mem_of_getElem? (i := 141) rfl))⟩
theorem fg_X3_94 (X : zX d L kd A nL p s m args c cc RX3) (hI : zI κ b L kd σ) (ha : zT L kd a 9) (hdg : decode cc pc = .ok (.getfield 94, 3)) (k : ∀ v : Int32, v = σ.1 a 10 → (-2147483648) ≤ v.toInt ∧ v.toInt ≤ 2147483647 → zGc rs cs sl d L kd A nL p l e R s m args below meth c Q σ (pc + 3) lv (.int v :: st)) : zGc rs cs sl d L kd A nL p l e R s m args below meth c Q σ pc lv (.ref a :: st) := zg_geti X ha rfl (by decide) rfl (by decide) rfl zl_in9 zk_X3_94 hdg (k _ rfl (zi_get hI ha rfl))
theorem fp_X3_94 (X : zX d L kd A nL p s m args c cc RX3) {v : Int32} (hI : zI κ b L kd σ) (ha : zT L kd a 9) (h : (-2147483648) ≤ v.toInt ∧ v.toInt ≤ 2147483647) (hdg : decode cc pc = .ok (.putfield 94, 3)) (k : ∀ σ2 : zS, σ2 = (zu σ.1 a 10 v, σ.2.1, σ.2.2) → zI κ b L kd σ2 → zGc rs cs sl d L kd A nL p l e R s m args below meth c Q σ2 (pc + 3) lv st) : zGc rs cs sl d L kd A nL p l e R s m args below meth c Q σ pc lv (.int v :: .ref a :: st) := zg_puti (ty := .int) X ha rfl (by decide) rfl (by decide) rfl rfl zl_in9 tyX9_ok nmX9 zk_X3_94 rfl (by decide +kernel) rfl rfl hdg (fun σ2 h2 => k σ2 h2 (by rw [h2]; exact zi_puti hI ha rfl h.1 h.2))
set_option maxRecDepth 20000 in
theorem zkl_X9_59 : Cond.fieldLink RX9 59 (TX9 11).1 (TX9 11).2.1 (TX9 11).2.2.1 ∈ zWL := zw2 (List.mem_of_getElem? (i := 142) rfl) rfl
set_option maxRecDepth 20000 in
theorem zk_X9_59 : Cond.fieldLink RX9 59 (TX9 11).1 (TX9 11).2.1 (TX9 11).2.2.1 ∈ zWL ∨ ∃ host, Cond.fieldLinkNest RX9 59 (TX9 11).1 (TX9 11).2.1 (TX9 11).2.2.1 host ∈ tables_1 := Or.inl (zw2 (List.mem_of_getElem? (i := 142) rfl) rfl)
theorem fg_X9_59 (X : zX d L kd A nL p s m args c cc RX9) (hI : zI κ b L kd σ) (ha : zT L kd a 9) (hdg : decode cc pc = .ok (.getfield 59, 3)) (k : ∀ v : Int32, v = σ.1 a 11 → (-2147483648) ≤ v.toInt ∧ v.toInt ≤ 2147483647 → zGc rs cs sl d L kd A nL p l e R s m args below meth c Q σ (pc + 3) lv (.int v :: st)) : zGc rs cs sl d L kd A nL p l e R s m args below meth c Q σ pc lv (.ref a :: st) := zg_geti X ha rfl (by decide) rfl (by decide) rfl zl_in9 zk_X9_59 hdg (k _ rfl (zi_get hI ha rfl))
theorem fp_X9_59 (X : zX d L kd A nL p s m args c cc RX9) {v : Int32} (hI : zI κ b L kd σ) (ha : zT L kd a 9) (h : (-2147483648) ≤ v.toInt ∧ v.toInt ≤ 2147483647) (hdg : decode cc pc = .ok (.putfield 59, 3)) (k : ∀ σ2 : zS, σ2 = (zu σ.1 a 11 v, σ.2.1, σ.2.2) → zI κ b L kd σ2 → zGc rs cs sl d L kd A nL p l e R s m args below meth c Q σ2 (pc + 3) lv st) : zGc rs cs sl d L kd A nL p l e R s m args below meth c Q σ pc lv (.int v :: .ref a :: st) := zg_puti (ty := .int) X ha rfl (by decide) rfl (by decide) rfl rfl zl_in9 tyX9_ok nmX9 zk_X9_59 rfl (by decide +kernel) rfl rfl hdg (fun σ2 h2 => k σ2 h2 (by rw [h2]; exact zi_puti hI ha rfl h.1 h.2))
set_option maxRecDepth 20000 in
theorem zk_X3_97 : Cond.fieldLink RX3 97 (TX9 11).1 (TX9 11).2.1 (TX9 11).2.2.1 ∈ zWL ∨ ∃ host, Cond.fieldLinkNest RX3 97 (TX9 11).1 (TX9 11).2.1 (TX9 11).2.2.1 host ∈ tables_1 := Or.inr ⟨"SourceDispute", (zt2 (List.mem_of_getElem? (i := 143) rfl))⟩
theorem fg_X3_97 (X : zX d L kd A nL p s m args c cc RX3) (hI : zI κ b L kd σ) (ha : zT L kd a 9) (hdg : decode cc pc = .ok (.getfield 97, 3)) (k : ∀ v : Int32, v = σ.1 a 11 → (-2147483648) ≤ v.toInt ∧ v.toInt ≤ 2147483647 → zGc rs cs sl d L kd A nL p l e R s m args below meth c Q σ (pc + 3) lv (.int v :: st)) : zGc rs cs sl d L kd A nL p l e R s m args below meth c Q σ pc lv (.ref a :: st) := zg_geti X ha rfl (by decide) rfl (by decide) rfl zl_in9 zk_X3_97 hdg (k _ rfl (zi_get hI ha rfl))
theorem fp_X3_97 (X : zX d L kd A nL p s m args c cc RX3) {v : Int32} (hI : zI κ b L kd σ) (ha : zT L kd a 9) (h : (-2147483648) ≤ v.toInt ∧ v.toInt ≤ 2147483647) (hdg : decode cc pc = .ok (.putfield 97, 3)) (k : ∀ σ2 : zS, σ2 = (zu σ.1 a 11 v, σ.2.1, σ.2.2) → zI κ b L kd σ2 → zGc rs cs sl d L kd A nL p l e R s m args below meth c Q σ2 (pc + 3) lv st) : zGc rs cs sl d L kd A nL p l e R s m args below meth c Q σ pc lv (.int v :: .ref a :: st) := zg_puti (ty := .int) X ha rfl (by decide) rfl (by decide) rfl rfl zl_in9 tyX9_ok nmX9 zk_X3_97 rfl (by decide +kernel) rfl rfl hdg (fun σ2 h2 => k σ2 h2 (by rw [h2]; exact zi_puti hI ha rfl h.1 h.2))
set_option maxRecDepth 20000 in
theorem zk_X5_162 : Cond.fieldLink RX5 162 (TX9 11).1 (TX9 11).2.1 (TX9 11).2.2.1 ∈ zWL ∨ ∃ host, Cond.fieldLinkNest RX5 162 (TX9 11).1 (TX9 11).2.1 (TX9 11).2.2.1 host ∈ tables_1 := Or.inr ⟨"SourceDispute", (zt2 (List.mem_of_getElem? (i := 144) rfl))⟩
theorem fg_X5_162 (X : zX d L kd A nL p s m args c cc RX5) (hI : zI κ b L kd σ) (ha : zT L kd a 9) (hdg : decode cc pc = .ok (.getfield 162, 3)) (k : ∀ v : Int32, v = σ.1 a 11 → (-2147483648) ≤ v.toInt ∧ v.toInt ≤ 2147483647 → zGc rs cs sl d L kd A nL p l e R s m args below meth c Q σ (pc + 3) lv (.int v :: st)) : zGc rs cs sl d L kd A nL p l e R s m args below meth c Q σ pc lv (.ref a :: st) := zg_geti X ha rfl (by decide) rfl (by decide) rfl zl_in9 zk_X5_162 hdg (k _ rfl (zi_get hI ha rfl))
theorem fp_X5_162 (X : zX d L kd A nL p s m args c cc RX5) {v : Int32} (hI : zI κ b L kd σ) (ha : zT L kd a 9) (h : (-2147483648) ≤ v.toInt ∧ v.toInt ≤ 2147483647) (hdg : decode cc pc = .ok (.putfield 162, 3)) (k : ∀ σ2 : zS, σ2 = (zu σ.1 a 11 v, σ.2.1, σ.2.2) → zI κ b L kd σ2 → zGc rs cs sl d L kd A nL p l e R s m args below meth c Q σ2 (pc + 3) lv st) : zGc rs cs sl d L kd A nL p l e R s m args below meth c Q σ pc lv (.int v :: .ref a :: st) := zg_puti (ty := .int) X ha rfl (by decide) rfl (by decide) rfl rfl zl_in9 tyX9_ok nmX9 zk_X5_162 rfl (by decide +kernel) rfl rfl hdg (fun σ2 h2 => k σ2 h2 (by rw [h2]; exact zi_puti hI ha rfl h.1 h.2))
set_option maxRecDepth 20000 in
theorem zkl_X9_62 : Cond.fieldLink RX9 62 (TX9 12).1 (TX9 12).2.1 (TX9 12).2.2.1 ∈ zWL := zw2 (List.mem_of_getElem? (i := 145) rfl) rfl
set_option maxRecDepth 20000 in
theorem zk_X9_62 : Cond.fieldLink RX9 62 (TX9 12).1 (TX9 12).2.1 (TX9 12).2.2.1 ∈ zWL ∨ ∃ host, Cond.fieldLinkNest RX9 62 (TX9 12).1 (TX9 12).2.1 (TX9 12).2.2.1 host ∈ tables_1 := Or.inl (zw2 (List.mem_of_getElem? (i := 145) rfl) rfl)
theorem fg_X9_62 (X : zX d L kd A nL p s m args c cc RX9) (hI : zI κ b L kd σ) (ha : zT L kd a 9) (hdg : decode cc pc = .ok (.getfield 62, 3)) (k : ∀ v : Int32, v = σ.1 a 12 → (-2147483648) ≤ v.toInt ∧ v.toInt ≤ 2147483647 → zGc rs cs sl d L kd A nL p l e R s m args below meth c Q σ (pc + 3) lv (.int v :: st)) : zGc rs cs sl d L kd A nL p l e R s m args below meth c Q σ pc lv (.ref a :: st) := zg_geti X ha rfl (by decide) rfl (by decide) rfl zl_in9 zk_X9_62 hdg (k _ rfl (zi_get hI ha rfl))
theorem fp_X9_62 (X : zX d L kd A nL p s m args c cc RX9) {v : Int32} (hI : zI κ b L kd σ) (ha : zT L kd a 9) (h : (-2147483648) ≤ v.toInt ∧ v.toInt ≤ 2147483647) (hdg : decode cc pc = .ok (.putfield 62, 3)) (k : ∀ σ2 : zS, σ2 = (zu σ.1 a 12 v, σ.2.1, σ.2.2) → zI κ b L kd σ2 → zGc rs cs sl d L kd A nL p l e R s m args below meth c Q σ2 (pc + 3) lv st) : zGc rs cs sl d L kd A nL p l e R s m args below meth c Q σ pc lv (.int v :: .ref a :: st) := zg_puti (ty := .int) X ha rfl (by decide) rfl (by decide) rfl rfl zl_in9 tyX9_ok nmX9 zk_X9_62 rfl (by decide +kernel) rfl rfl hdg (fun σ2 h2 => k σ2 h2 (by rw [h2]; exact zi_puti hI ha rfl h.1 h.2))
set_option maxRecDepth 20000 in
theorem zk_X3_100 : Cond.fieldLink RX3 100 (TX9 12).1 (TX9 12).2.1 (TX9 12).2.2.1 ∈ zWL ∨ ∃ host, Cond.fieldLinkNest RX3 100 (TX9 12).1 (TX9 12).2.1 (TX9 12).2.2.1 host ∈ tables_1 := Or.inr ⟨"SourceDispute", (zt2 (List.mem_of_getElem? (i := 146) rfl))⟩
theorem fg_X3_100 (X : zX d L kd A nL p s m args c cc RX3) (hI : zI κ b L kd σ) (ha : zT L kd a 9) (hdg : decode cc pc = .ok (.getfield 100, 3)) (k : ∀ v : Int32, v = σ.1 a 12 → (-2147483648) ≤ v.toInt ∧ v.toInt ≤ 2147483647 → zGc rs cs sl d L kd A nL p l e R s m args below meth c Q σ (pc + 3) lv (.int v :: st)) : zGc rs cs sl d L kd A nL p l e R s m args below meth c Q σ pc lv (.ref a :: st) := zg_geti X ha rfl (by decide) rfl (by decide) rfl zl_in9 zk_X3_100 hdg (k _ rfl (zi_get hI ha rfl))
theorem fp_X3_100 (X : zX d L kd A nL p s m args c cc RX3) {v : Int32} (hI : zI κ b L kd σ) (ha : zT L kd a 9) (h : (-2147483648) ≤ v.toInt ∧ v.toInt ≤ 2147483647) (hdg : decode cc pc = .ok (.putfield 100, 3)) (k : ∀ σ2 : zS, σ2 = (zu σ.1 a 12 v, σ.2.1, σ.2.2) → zI κ b L kd σ2 → zGc rs cs sl d L kd A nL p l e R s m args below meth c Q σ2 (pc + 3) lv st) : zGc rs cs sl d L kd A nL p l e R s m args below meth c Q σ pc lv (.int v :: .ref a :: st) := zg_puti (ty := .int) X ha rfl (by decide) rfl (by decide) rfl rfl zl_in9 tyX9_ok nmX9 zk_X3_100 rfl (by decide +kernel) rfl rfl hdg (fun σ2 h2 => k σ2 h2 (by rw [h2]; exact zi_puti hI ha rfl h.1 h.2))
set_option maxRecDepth 20000 in
theorem zk_X5_146 : Cond.fieldLink RX5 146 (TX9 12).1 (TX9 12).2.1 (TX9 12).2.2.1 ∈ zWL ∨ ∃ host, Cond.fieldLinkNest RX5 146 (TX9 12).1 (TX9 12).2.1 (TX9 12).2.2.1 host ∈ tables_1 := Or.inr ⟨"SourceDispute", (zt2 (List.mem_of_getElem? (i := 147) rfl))⟩
theorem fg_X5_146 (X : zX d L kd A nL p s m args c cc RX5) (hI : zI κ b L kd σ) (ha : zT L kd a 9) (hdg : decode cc pc = .ok (.getfield 146, 3)) (k : ∀ v : Int32, v = σ.1 a 12 → (-2147483648) ≤ v.toInt ∧ v.toInt ≤ 2147483647 → zGc rs cs sl d L kd A nL p l e R s m args below meth c Q σ (pc + 3) lv (.int v :: st)) : zGc rs cs sl d L kd A nL p l e R s m args below meth c Q σ pc lv (.ref a :: st) := zg_geti X ha rfl (by decide) rfl (by decide) rfl zl_in9 zk_X5_146 hdg (k _ rfl (zi_get hI ha rfl))
theorem fp_X5_146 (X : zX d L kd A nL p s m args c cc RX5) {v : Int32} (hI : zI κ b L kd σ) (ha : zT L kd a 9) (h : (-2147483648) ≤ v.toInt ∧ v.toInt ≤ 2147483647) (hdg : decode cc pc = .ok (.putfield 146, 3)) (k : ∀ σ2 : zS, σ2 = (zu σ.1 a 12 v, σ.2.1, σ.2.2) → zI κ b L kd σ2 → zGc rs cs sl d L kd A nL p l e R s m args below meth c Q σ2 (pc + 3) lv st) : zGc rs cs sl d L kd A nL p l e R s m args below meth c Q σ pc lv (.int v :: .ref a :: st) := zg_puti (ty := .int) X ha rfl (by decide) rfl (by decide) rfl rfl zl_in9 tyX9_ok nmX9 zk_X5_146 rfl (by decide +kernel) rfl rfl hdg (fun σ2 h2 => k σ2 h2 (by rw [h2]; exact zi_puti hI ha rfl h.1 h.2))
set_option maxRecDepth 20000 in
theorem zkl_X9_65 : Cond.fieldLink RX9 65 (TX9 13).1 (TX9 13).2.1 (TX9 13).2.2.1 ∈ zWL := zw2 (List.mem_of_getElem? (i := 148) rfl) rfl
set_option maxRecDepth 20000 in
theorem zk_X9_65 : Cond.fieldLink RX9 65 (TX9 13).1 (TX9 13).2.1 (TX9 13).2.2.1 ∈ zWL ∨ ∃ host, Cond.fieldLinkNest RX9 65 (TX9 13).1 (TX9 13).2.1 (TX9 13).2.2.1 host ∈ tables_1 := Or.inl (zw2 (List.mem_of_getElem? (i := 148) rfl) rfl)
theorem fg_X9_65 (X : zX d L kd A nL p s m args c cc RX9) (hI : zI κ b L kd σ) (ha : zT L kd a 9) (hdg : decode cc pc = .ok (.getfield 65, 3)) (k : ∀ v : Int32, v = σ.1 a 13 → (-2147483648) ≤ v.toInt ∧ v.toInt ≤ 2147483647 → zGc rs cs sl d L kd A nL p l e R s m args below meth c Q σ (pc + 3) lv (.int v :: st)) : zGc rs cs sl d L kd A nL p l e R s m args below meth c Q σ pc lv (.ref a :: st) := zg_geti X ha rfl (by decide) rfl (by decide) rfl zl_in9 zk_X9_65 hdg (k _ rfl (zi_get hI ha rfl))
theorem fp_X9_65 (X : zX d L kd A nL p s m args c cc RX9) {v : Int32} (hI : zI κ b L kd σ) (ha : zT L kd a 9) (h : (-2147483648) ≤ v.toInt ∧ v.toInt ≤ 2147483647) (hdg : decode cc pc = .ok (.putfield 65, 3)) (k : ∀ σ2 : zS, σ2 = (zu σ.1 a 13 v, σ.2.1, σ.2.2) → zI κ b L kd σ2 → zGc rs cs sl d L kd A nL p l e R s m args below meth c Q σ2 (pc + 3) lv st) : zGc rs cs sl d L kd A nL p l e R s m args below meth c Q σ pc lv (.int v :: .ref a :: st) := zg_puti (ty := .int) X ha rfl (by decide) rfl (by decide) rfl rfl zl_in9 tyX9_ok nmX9 zk_X9_65 rfl (by decide +kernel) rfl rfl hdg (fun σ2 h2 => k σ2 h2 (by rw [h2]; exact zi_puti hI ha rfl h.1 h.2))
set_option maxRecDepth 20000 in
theorem zk_X3_103 : Cond.fieldLink RX3 103 (TX9 13).1 (TX9 13).2.1 (TX9 13).2.2.1 ∈ zWL ∨ ∃ host, Cond.fieldLinkNest RX3 103 (TX9 13).1 (TX9 13).2.1 (TX9 13).2.2.1 host ∈ tables_1 := Or.inr ⟨"SourceDispute", (zt2 (List.mem_of_getElem? (i := 149) rfl))⟩
theorem fg_X3_103 (X : zX d L kd A nL p s m args c cc RX3) (hI : zI κ b L kd σ) (ha : zT L kd a 9) (hdg : decode cc pc = .ok (.getfield 103, 3)) (k : ∀ v : Int32, v = σ.1 a 13 → (-2147483648) ≤ v.toInt ∧ v.toInt ≤ 2147483647 → zGc rs cs sl d L kd A nL p l e R s m args below meth c Q σ (pc + 3) lv (.int v :: st)) : zGc rs cs sl d L kd A nL p l e R s m args below meth c Q σ pc lv (.ref a :: st) := zg_geti X ha rfl (by decide) rfl (by decide) rfl zl_in9 zk_X3_103 hdg (k _ rfl (zi_get hI ha rfl))
theorem fp_X3_103 (X : zX d L kd A nL p s m args c cc RX3) {v : Int32} (hI : zI κ b L kd σ) (ha : zT L kd a 9) (h : (-2147483648) ≤ v.toInt ∧ v.toInt ≤ 2147483647) (hdg : decode cc pc = .ok (.putfield 103, 3)) (k : ∀ σ2 : zS, σ2 = (zu σ.1 a 13 v, σ.2.1, σ.2.2) → zI κ b L kd σ2 → zGc rs cs sl d L kd A nL p l e R s m args below meth c Q σ2 (pc + 3) lv st) : zGc rs cs sl d L kd A nL p l e R s m args below meth c Q σ pc lv (.int v :: .ref a :: st) := zg_puti (ty := .int) X ha rfl (by decide) rfl (by decide) rfl rfl zl_in9 tyX9_ok nmX9 zk_X3_103 rfl (by decide +kernel) rfl rfl hdg (fun σ2 h2 => k σ2 h2 (by rw [h2]; exact zi_puti hI ha rfl h.1 h.2))
set_option maxRecDepth 20000 in
theorem zk_X10_203 : Cond.fieldLink RX10 203 (TX9 13).1 (TX9 13).2.1 (TX9 13).2.2.1 ∈ zWL ∨ ∃ host, Cond.fieldLinkNest RX10 203 (TX9 13).1 (TX9 13).2.1 (TX9 13).2.2.1 host ∈ tables_1 := Or.inr ⟨"SourceDispute", (zt2 (List.mem_of_getElem? (i := 150) rfl))⟩
theorem fg_X10_203 (X : zX d L kd A nL p s m args c cc RX10) (hI : zI κ b L kd σ) (ha : zT L kd a 9) (hdg : decode cc pc = .ok (.getfield 203, 3)) (k : ∀ v : Int32, v = σ.1 a 13 → (-2147483648) ≤ v.toInt ∧ v.toInt ≤ 2147483647 → zGc rs cs sl d L kd A nL p l e R s m args below meth c Q σ (pc + 3) lv (.int v :: st)) : zGc rs cs sl d L kd A nL p l e R s m args below meth c Q σ pc lv (.ref a :: st) := zg_geti X ha rfl (by decide) rfl (by decide) rfl zl_in9 zk_X10_203 hdg (k _ rfl (zi_get hI ha rfl))
theorem fp_X10_203 (X : zX d L kd A nL p s m args c cc RX10) {v : Int32} (hI : zI κ b L kd σ) (ha : zT L kd a 9) (h : (-2147483648) ≤ v.toInt ∧ v.toInt ≤ 2147483647) (hdg : decode cc pc = .ok (.putfield 203, 3)) (k : ∀ σ2 : zS, σ2 = (zu σ.1 a 13 v, σ.2.1, σ.2.2) → zI κ b L kd σ2 → zGc rs cs sl d L kd A nL p l e R s m args below meth c Q σ2 (pc + 3) lv st) : zGc rs cs sl d L kd A nL p l e R s m args below meth c Q σ pc lv (.int v :: .ref a :: st) := zg_puti (ty := .int) X ha rfl (by decide) rfl (by decide) rfl rfl zl_in9 tyX9_ok nmX9 zk_X10_203 rfl (by decide +kernel) rfl rfl hdg (fun σ2 h2 => k σ2 h2 (by rw [h2]; exact zi_puti hI ha rfl h.1 h.2))
set_option maxRecDepth 20000 in
theorem zkl_X10_10 : Cond.fieldLink RX10 10 (TX10 0).1 (TX10 0).2.1 (TX10 0).2.2.1 ∈ zWL := zw2 (List.mem_of_getElem? (i := 180) rfl) rfl
set_option maxRecDepth 20000 in
theorem zk_X10_10 : Cond.fieldLink RX10 10 (TX10 0).1 (TX10 0).2.1 (TX10 0).2.2.1 ∈ zWL ∨ ∃ host, Cond.fieldLinkNest RX10 10 (TX10 0).1 (TX10 0).2.1 (TX10 0).2.2.1 host ∈ tables_1 := Or.inl (zw2 (List.mem_of_getElem? (i := 180) rfl) rfl)
theorem fg_X10_10 (X : zX d L kd A nL p s m args c cc RX10) (hI : zI κ b L kd σ) (ha : zT L kd a 10) (hdg : decode cc pc = .ok (.getfield 10, 3)) (k : ∀ y : Nat, σ.2.2 a 0 = some y → zT L kd y 7 → zGc rs cs sl d L kd A nL p l e R s m args below meth c Q σ (pc + 3) lv (.ref y :: st)) : zGc rs cs sl d L kd A nL p l e R s m args below meth c Q σ pc lv (.ref a :: st) := by
  obtain ⟨y, hy, hT⟩ := zi_ref hI ha (show zf _ 10 0 = some 7 from rfl)
  have q := k y hy hT
  exact zg_getr X ha rfl (by decide) rfl (by decide) rfl zl_in10 zk_X10_10 hdg (by rw [hy]; exact q)
set_option maxRecDepth 20000 in
theorem zkl_X10_19 : Cond.fieldLink RX10 19 (TX10 1).1 (TX10 1).2.1 (TX10 1).2.2.1 ∈ zWL := zw2 (List.mem_of_getElem? (i := 181) rfl) rfl
set_option maxRecDepth 20000 in
theorem zk_X10_19 : Cond.fieldLink RX10 19 (TX10 1).1 (TX10 1).2.1 (TX10 1).2.2.1 ∈ zWL ∨ ∃ host, Cond.fieldLinkNest RX10 19 (TX10 1).1 (TX10 1).2.1 (TX10 1).2.2.1 host ∈ tables_1 := Or.inl (zw2 (List.mem_of_getElem? (i := 181) rfl) rfl)
theorem fg_X10_19 (X : zX d L kd A nL p s m args c cc RX10) (hI : zI κ b L kd σ) (ha : zT L kd a 10) (hdg : decode cc pc = .ok (.getfield 19, 3)) (k : ∀ y : Nat, σ.2.2 a 1 = some y → zT L kd y 3 → zGc rs cs sl d L kd A nL p l e R s m args below meth c Q σ (pc + 3) lv (.ref y :: st)) : zGc rs cs sl d L kd A nL p l e R s m args below meth c Q σ pc lv (.ref a :: st) := by
  obtain ⟨y, hy, hT⟩ := zi_ref hI ha (show zf _ 10 1 = some 3 from rfl)
  have q := k y hy hT
  exact zg_getr X ha rfl (by decide) rfl (by decide) rfl zl_in10 zk_X10_19 hdg (by rw [hy]; exact q)
set_option maxRecDepth 20000 in
theorem zkl_X10_26 : Cond.fieldLink RX10 26 (TX10 2).1 (TX10 2).2.1 (TX10 2).2.2.1 ∈ zWL := zw2 (List.mem_of_getElem? (i := 182) rfl) rfl
set_option maxRecDepth 20000 in
theorem zk_X10_26 : Cond.fieldLink RX10 26 (TX10 2).1 (TX10 2).2.1 (TX10 2).2.2.1 ∈ zWL ∨ ∃ host, Cond.fieldLinkNest RX10 26 (TX10 2).1 (TX10 2).2.1 (TX10 2).2.2.1 host ∈ tables_1 := Or.inl (zw2 (List.mem_of_getElem? (i := 182) rfl) rfl)
theorem fg_X10_26 (X : zX d L kd A nL p s m args c cc RX10) (hI : zI κ b L kd σ) (ha : zT L kd a 10) (hdg : decode cc pc = .ok (.getfield 26, 3)) (k : ∀ y : Nat, σ.2.2 a 2 = some y → zT L kd y 5 → zGc rs cs sl d L kd A nL p l e R s m args below meth c Q σ (pc + 3) lv (.ref y :: st)) : zGc rs cs sl d L kd A nL p l e R s m args below meth c Q σ pc lv (.ref a :: st) := by
  obtain ⟨y, hy, hT⟩ := zi_ref hI ha (show zf _ 10 2 = some 5 from rfl)
  have q := k y hy hT
  exact zg_getr X ha rfl (by decide) rfl (by decide) rfl zl_in10 zk_X10_26 hdg (by rw [hy]; exact q)
set_option maxRecDepth 20000 in
theorem zkl_X10_34 : Cond.fieldLink RX10 34 (TX10 3).1 (TX10 3).2.1 (TX10 3).2.2.1 ∈ zWL := zw2 (List.mem_of_getElem? (i := 183) rfl) rfl
set_option maxRecDepth 20000 in
theorem zk_X10_34 : Cond.fieldLink RX10 34 (TX10 3).1 (TX10 3).2.1 (TX10 3).2.2.1 ∈ zWL ∨ ∃ host, Cond.fieldLinkNest RX10 34 (TX10 3).1 (TX10 3).2.1 (TX10 3).2.2.1 host ∈ tables_1 := Or.inl (zw2 (List.mem_of_getElem? (i := 183) rfl) rfl)
theorem fg_X10_34 (X : zX d L kd A nL p s m args c cc RX10) (hI : zI κ b L kd σ) (ha : zT L kd a 10) (hdg : decode cc pc = .ok (.getfield 34, 3)) (k : ∀ y : Nat, σ.2.2 a 3 = some y → zT L kd y 6 → zGc rs cs sl d L kd A nL p l e R s m args below meth c Q σ (pc + 3) lv (.ref y :: st)) : zGc rs cs sl d L kd A nL p l e R s m args below meth c Q σ pc lv (.ref a :: st) := by
  obtain ⟨y, hy, hT⟩ := zi_ref hI ha (show zf _ 10 3 = some 6 from rfl)
  have q := k y hy hT
  exact zg_getr X ha rfl (by decide) rfl (by decide) rfl zl_in10 zk_X10_34 hdg (by rw [hy]; exact q)
set_option maxRecDepth 20000 in
theorem zkl_X10_38 : Cond.fieldLink RX10 38 (TX10 4).1 (TX10 4).2.1 (TX10 4).2.2.1 ∈ zWL := zw2 (List.mem_of_getElem? (i := 184) rfl) rfl
set_option maxRecDepth 20000 in
theorem zk_X10_38 : Cond.fieldLink RX10 38 (TX10 4).1 (TX10 4).2.1 (TX10 4).2.2.1 ∈ zWL ∨ ∃ host, Cond.fieldLinkNest RX10 38 (TX10 4).1 (TX10 4).2.1 (TX10 4).2.2.1 host ∈ tables_1 := Or.inl (zw2 (List.mem_of_getElem? (i := 184) rfl) rfl)
theorem fg_X10_38 (X : zX d L kd A nL p s m args c cc RX10) (hI : zI κ b L kd σ) (ha : zT L kd a 10) (hdg : decode cc pc = .ok (.getfield 38, 3)) (k : ∀ y : Nat, σ.2.2 a 4 = some y → zT L kd y 4 → zGc rs cs sl d L kd A nL p l e R s m args below meth c Q σ (pc + 3) lv (.ref y :: st)) : zGc rs cs sl d L kd A nL p l e R s m args below meth c Q σ pc lv (.ref a :: st) := by
  obtain ⟨y, hy, hT⟩ := zi_ref hI ha (show zf _ 10 4 = some 4 from rfl)
  have q := k y hy hT
  exact zg_getr X ha rfl (by decide) rfl (by decide) rfl zl_in10 zk_X10_38 hdg (by rw [hy]; exact q)
set_option maxRecDepth 20000 in
theorem zkl_X10_45 : Cond.fieldLink RX10 45 (TX10 5).1 (TX10 5).2.1 (TX10 5).2.2.1 ∈ zWL := zw2 (List.mem_of_getElem? (i := 185) rfl) rfl
set_option maxRecDepth 20000 in
theorem zk_X10_45 : Cond.fieldLink RX10 45 (TX10 5).1 (TX10 5).2.1 (TX10 5).2.2.1 ∈ zWL ∨ ∃ host, Cond.fieldLinkNest RX10 45 (TX10 5).1 (TX10 5).2.1 (TX10 5).2.2.1 host ∈ tables_1 := Or.inl (zw2 (List.mem_of_getElem? (i := 185) rfl) rfl)
theorem fg_X10_45 (X : zX d L kd A nL p s m args c cc RX10) (hI : zI κ b L kd σ) (ha : zT L kd a 10) (hdg : decode cc pc = .ok (.getfield 45, 3)) (k : ∀ y : Nat, σ.2.2 a 5 = some y → zT L kd y 2 → zGc rs cs sl d L kd A nL p l e R s m args below meth c Q σ (pc + 3) lv (.ref y :: st)) : zGc rs cs sl d L kd A nL p l e R s m args below meth c Q σ pc lv (.ref a :: st) := by
  obtain ⟨y, hy, hT⟩ := zi_ref hI ha (show zf _ 10 5 = some 2 from rfl)
  have q := k y hy hT
  exact zg_getr X ha rfl (by decide) rfl (by decide) rfl zl_in10 zk_X10_45 hdg (by rw [hy]; exact q)
set_option maxRecDepth 20000 in
theorem zkl_X10_52 : Cond.fieldLink RX10 52 (TX10 6).1 (TX10 6).2.1 (TX10 6).2.2.1 ∈ zWL := zw2 (List.mem_of_getElem? (i := 186) rfl) rfl
set_option maxRecDepth 20000 in
theorem zk_X10_52 : Cond.fieldLink RX10 52 (TX10 6).1 (TX10 6).2.1 (TX10 6).2.2.1 ∈ zWL ∨ ∃ host, Cond.fieldLinkNest RX10 52 (TX10 6).1 (TX10 6).2.1 (TX10 6).2.2.1 host ∈ tables_1 := Or.inl (zw2 (List.mem_of_getElem? (i := 186) rfl) rfl)
theorem fg_X10_52 (X : zX d L kd A nL p s m args c cc RX10) (hI : zI κ b L kd σ) (ha : zT L kd a 10) (hdg : decode cc pc = .ok (.getfield 52, 3)) (k : ∀ y : Nat, σ.2.2 a 6 = some y → zT L kd y 1 → zGc rs cs sl d L kd A nL p l e R s m args below meth c Q σ (pc + 3) lv (.ref y :: st)) : zGc rs cs sl d L kd A nL p l e R s m args below meth c Q σ pc lv (.ref a :: st) := by
  obtain ⟨y, hy, hT⟩ := zi_ref hI ha (show zf _ 10 6 = some 1 from rfl)
  have q := k y hy hT
  exact zg_getr X ha rfl (by decide) rfl (by decide) rfl zl_in10 zk_X10_52 hdg (by rw [hy]; exact q)
set_option maxRecDepth 20000 in
theorem zkl_X10_56 : Cond.fieldLink RX10 56 (TX10 7).1 (TX10 7).2.1 (TX10 7).2.2.1 ∈ zWL := zw2 (List.mem_of_getElem? (i := 187) rfl) rfl
set_option maxRecDepth 20000 in
theorem zk_X10_56 : Cond.fieldLink RX10 56 (TX10 7).1 (TX10 7).2.1 (TX10 7).2.2.1 ∈ zWL ∨ ∃ host, Cond.fieldLinkNest RX10 56 (TX10 7).1 (TX10 7).2.1 (TX10 7).2.2.1 host ∈ tables_1 := Or.inl (zw2 (List.mem_of_getElem? (i := 187) rfl) rfl)
theorem fg_X10_56 (X : zX d L kd A nL p s m args c cc RX10) (hI : zI κ b L kd σ) (ha : zT L kd a 10) (hdg : decode cc pc = .ok (.getfield 56, 3)) (k : ∀ y : Nat, σ.2.2 a 7 = some y → zT L kd y 1 → zGc rs cs sl d L kd A nL p l e R s m args below meth c Q σ (pc + 3) lv (.ref y :: st)) : zGc rs cs sl d L kd A nL p l e R s m args below meth c Q σ pc lv (.ref a :: st) := by
  obtain ⟨y, hy, hT⟩ := zi_ref hI ha (show zf _ 10 7 = some 1 from rfl)
  have q := k y hy hT
  exact zg_getr X ha rfl (by decide) rfl (by decide) rfl zl_in10 zk_X10_56 hdg (by rw [hy]; exact q)
set_option maxRecDepth 20000 in
theorem zkl_X10_59 : Cond.fieldLink RX10 59 (TX10 8).1 (TX10 8).2.1 (TX10 8).2.2.1 ∈ zWL := zw2 (List.mem_of_getElem? (i := 188) rfl) rfl
set_option maxRecDepth 20000 in
theorem zk_X10_59 : Cond.fieldLink RX10 59 (TX10 8).1 (TX10 8).2.1 (TX10 8).2.2.1 ∈ zWL ∨ ∃ host, Cond.fieldLinkNest RX10 59 (TX10 8).1 (TX10 8).2.1 (TX10 8).2.2.1 host ∈ tables_1 := Or.inl (zw2 (List.mem_of_getElem? (i := 188) rfl) rfl)
theorem fg_X10_59 (X : zX d L kd A nL p s m args c cc RX10) (hI : zI κ b L kd σ) (ha : zT L kd a 10) (hdg : decode cc pc = .ok (.getfield 59, 3)) (k : ∀ y : Nat, σ.2.2 a 8 = some y → zT L kd y 52 → zGc rs cs sl d L kd A nL p l e R s m args below meth c Q σ (pc + 3) lv (.ref y :: st)) : zGc rs cs sl d L kd A nL p l e R s m args below meth c Q σ pc lv (.ref a :: st) := by
  obtain ⟨y, hy, hT⟩ := zi_ref hI ha (show zf _ 10 8 = some 52 from rfl)
  have q := k y hy hT
  exact zg_getr X ha rfl (by decide) rfl (by decide) rfl zl_in10 zk_X10_59 hdg (by rw [hy]; exact q)
set_option maxRecDepth 20000 in
theorem zkl_X10_63 : Cond.fieldLink RX10 63 (TX10 9).1 (TX10 9).2.1 (TX10 9).2.2.1 ∈ zWL := zw2 (List.mem_of_getElem? (i := 189) rfl) rfl
set_option maxRecDepth 20000 in
theorem zk_X10_63 : Cond.fieldLink RX10 63 (TX10 9).1 (TX10 9).2.1 (TX10 9).2.2.1 ∈ zWL ∨ ∃ host, Cond.fieldLinkNest RX10 63 (TX10 9).1 (TX10 9).2.1 (TX10 9).2.2.1 host ∈ tables_1 := Or.inl (zw2 (List.mem_of_getElem? (i := 189) rfl) rfl)
theorem fg_X10_63 (X : zX d L kd A nL p s m args c cc RX10) (hI : zI κ b L kd σ) (ha : zT L kd a 10) (hdg : decode cc pc = .ok (.getfield 63, 3)) (k : ∀ y : Nat, σ.2.2 a 9 = some y → zT L kd y 53 → zGc rs cs sl d L kd A nL p l e R s m args below meth c Q σ (pc + 3) lv (.ref y :: st)) : zGc rs cs sl d L kd A nL p l e R s m args below meth c Q σ pc lv (.ref a :: st) := by
  obtain ⟨y, hy, hT⟩ := zi_ref hI ha (show zf _ 10 9 = some 53 from rfl)
  have q := k y hy hT
  exact zg_getr X ha rfl (by decide) rfl (by decide) rfl zl_in10 zk_X10_63 hdg (by rw [hy]; exact q)
set_option maxRecDepth 20000 in
theorem zkl_X10_70 : Cond.fieldLink RX10 70 (TX10 10).1 (TX10 10).2.1 (TX10 10).2.2.1 ∈ zWL := zw2 (List.mem_of_getElem? (i := 190) rfl) rfl
set_option maxRecDepth 20000 in
theorem zk_X10_70 : Cond.fieldLink RX10 70 (TX10 10).1 (TX10 10).2.1 (TX10 10).2.2.1 ∈ zWL ∨ ∃ host, Cond.fieldLinkNest RX10 70 (TX10 10).1 (TX10 10).2.1 (TX10 10).2.2.1 host ∈ tables_1 := Or.inl (zw2 (List.mem_of_getElem? (i := 190) rfl) rfl)
theorem fg_X10_70 (X : zX d L kd A nL p s m args c cc RX10) (hI : zI κ b L kd σ) (ha : zT L kd a 10) (hdg : decode cc pc = .ok (.getfield 70, 3)) (k : ∀ y : Nat, σ.2.2 a 10 = some y → zT L kd y 9 → zGc rs cs sl d L kd A nL p l e R s m args below meth c Q σ (pc + 3) lv (.ref y :: st)) : zGc rs cs sl d L kd A nL p l e R s m args below meth c Q σ pc lv (.ref a :: st) := by
  obtain ⟨y, hy, hT⟩ := zi_ref hI ha (show zf _ 10 10 = some 9 from rfl)
  have q := k y hy hT
  exact zg_getr X ha rfl (by decide) rfl (by decide) rfl zl_in10 zk_X10_70 hdg (by rw [hy]; exact q)
theorem fp_X10_70 (X : zX d L kd A nL p s m args c cc RX10) {y : Nat} (hI : zI κ b L kd σ) (ha : zT L kd a 10) (hy : zT L kd y 9) (hdg : decode cc pc = .ok (.putfield 70, 3)) (k : ∀ σ2 : zS, σ2 = (σ.1, σ.2.1, zu σ.2.2 a 10 (some y)) → zI κ b L kd σ2 → zGc rs cs sl d L kd A nL p l e R s m args below meth c Q σ2 (pc + 3) lv st) : zGc rs cs sl d L kd A nL p l e R s m args below meth c Q σ pc lv (.ref y :: .ref a :: st) := zg_putr (v := some y) (ty := .object RX9) X ha rfl (by decide) rfl (by decide) rfl rfl zl_in10 tyX10_ok nmX10 zk_X10_70 rfl (by decide +kernel) rfl rfl hdg (fun σ2 h2 => k σ2 h2 (by rw [h2]; exact zi_putr hI ha rfl hy))
set_option maxRecDepth 20000 in
theorem zkl_X10_74 : Cond.fieldLink RX10 74 (TX10 11).1 (TX10 11).2.1 (TX10 11).2.2.1 ∈ zWL := zw2 (List.mem_of_getElem? (i := 191) rfl) rfl
set_option maxRecDepth 20000 in
theorem zk_X10_74 : Cond.fieldLink RX10 74 (TX10 11).1 (TX10 11).2.1 (TX10 11).2.2.1 ∈ zWL ∨ ∃ host, Cond.fieldLinkNest RX10 74 (TX10 11).1 (TX10 11).2.1 (TX10 11).2.2.1 host ∈ tables_1 := Or.inl (zw2 (List.mem_of_getElem? (i := 191) rfl) rfl)
theorem fg_X10_74 (X : zX d L kd A nL p s m args c cc RX10) (hI : zI κ b L kd σ) (ha : zT L kd a 10) (hdg : decode cc pc = .ok (.getfield 74, 3)) (k : ∀ y : Nat, σ.2.2 a 11 = some y → zT L kd y 9 → zGc rs cs sl d L kd A nL p l e R s m args below meth c Q σ (pc + 3) lv (.ref y :: st)) : zGc rs cs sl d L kd A nL p l e R s m args below meth c Q σ pc lv (.ref a :: st) := by
  obtain ⟨y, hy, hT⟩ := zi_ref hI ha (show zf _ 10 11 = some 9 from rfl)
  have q := k y hy hT
  exact zg_getr X ha rfl (by decide) rfl (by decide) rfl zl_in10 zk_X10_74 hdg (by rw [hy]; exact q)
theorem fp_X10_74 (X : zX d L kd A nL p s m args c cc RX10) {y : Nat} (hI : zI κ b L kd σ) (ha : zT L kd a 10) (hy : zT L kd y 9) (hdg : decode cc pc = .ok (.putfield 74, 3)) (k : ∀ σ2 : zS, σ2 = (σ.1, σ.2.1, zu σ.2.2 a 11 (some y)) → zI κ b L kd σ2 → zGc rs cs sl d L kd A nL p l e R s m args below meth c Q σ2 (pc + 3) lv st) : zGc rs cs sl d L kd A nL p l e R s m args below meth c Q σ pc lv (.ref y :: .ref a :: st) := zg_putr (v := some y) (ty := .object RX9) X ha rfl (by decide) rfl (by decide) rfl rfl zl_in10 tyX10_ok nmX10 zk_X10_74 rfl (by decide +kernel) rfl rfl hdg (fun σ2 h2 => k σ2 h2 (by rw [h2]; exact zi_putr hI ha rfl hy))
set_option maxRecDepth 20000 in
theorem zkl_X10_77 : Cond.fieldLink RX10 77 (TX10 12).1 (TX10 12).2.1 (TX10 12).2.2.1 ∈ zWL := zw2 (List.mem_of_getElem? (i := 192) rfl) rfl
set_option maxRecDepth 20000 in
theorem zk_X10_77 : Cond.fieldLink RX10 77 (TX10 12).1 (TX10 12).2.1 (TX10 12).2.2.1 ∈ zWL ∨ ∃ host, Cond.fieldLinkNest RX10 77 (TX10 12).1 (TX10 12).2.1 (TX10 12).2.2.1 host ∈ tables_1 := Or.inl (zw2 (List.mem_of_getElem? (i := 192) rfl) rfl)
theorem fg_X10_77 (X : zX d L kd A nL p s m args c cc RX10) (hI : zI κ b L kd σ) (ha : zT L kd a 10) (hdg : decode cc pc = .ok (.getfield 77, 3)) (k : ∀ v : Int32, v = σ.1 a 12 → (-2147483648) ≤ v.toInt ∧ v.toInt ≤ 2147483647 → zGc rs cs sl d L kd A nL p l e R s m args below meth c Q σ (pc + 3) lv (.int v :: st)) : zGc rs cs sl d L kd A nL p l e R s m args below meth c Q σ pc lv (.ref a :: st) := zg_geti X ha rfl (by decide) rfl (by decide) rfl zl_in10 zk_X10_77 hdg (k _ rfl (zi_get hI ha rfl))
theorem fp_X10_77 (X : zX d L kd A nL p s m args c cc RX10) {v : Int32} (hI : zI κ b L kd σ) (ha : zT L kd a 10) (h : (-2147483648) ≤ v.toInt ∧ v.toInt ≤ 2147483647) (hdg : decode cc pc = .ok (.putfield 77, 3)) (k : ∀ σ2 : zS, σ2 = (zu σ.1 a 12 v, σ.2.1, σ.2.2) → zI κ b L kd σ2 → zGc rs cs sl d L kd A nL p l e R s m args below meth c Q σ2 (pc + 3) lv st) : zGc rs cs sl d L kd A nL p l e R s m args below meth c Q σ pc lv (.int v :: .ref a :: st) := zg_puti (ty := .int) X ha rfl (by decide) rfl (by decide) rfl rfl zl_in10 tyX10_ok nmX10 zk_X10_77 rfl (by decide +kernel) rfl rfl hdg (fun σ2 h2 => k σ2 h2 (by rw [h2]; exact zi_puti hI ha rfl h.1 h.2))
set_option maxRecDepth 20000 in
theorem zkl_X10_81 : Cond.fieldLink RX10 81 (TX10 13).1 (TX10 13).2.1 (TX10 13).2.2.1 ∈ zWL := zw2 (List.mem_of_getElem? (i := 193) rfl) rfl
set_option maxRecDepth 20000 in
theorem zk_X10_81 : Cond.fieldLink RX10 81 (TX10 13).1 (TX10 13).2.1 (TX10 13).2.2.1 ∈ zWL ∨ ∃ host, Cond.fieldLinkNest RX10 81 (TX10 13).1 (TX10 13).2.1 (TX10 13).2.2.1 host ∈ tables_1 := Or.inl (zw2 (List.mem_of_getElem? (i := 193) rfl) rfl)
theorem fg_X10_81 (X : zX d L kd A nL p s m args c cc RX10) (hI : zI κ b L kd σ) (ha : zT L kd a 10) (hdg : decode cc pc = .ok (.getfield 81, 3)) (k : ∀ v : Int32, v = σ.1 a 13 → (-2147483648) ≤ v.toInt ∧ v.toInt ≤ 2147483647 → zGc rs cs sl d L kd A nL p l e R s m args below meth c Q σ (pc + 3) lv (.int v :: st)) : zGc rs cs sl d L kd A nL p l e R s m args below meth c Q σ pc lv (.ref a :: st) := zg_geti X ha rfl (by decide) rfl (by decide) rfl zl_in10 zk_X10_81 hdg (k _ rfl (zi_get hI ha rfl))
theorem fp_X10_81 (X : zX d L kd A nL p s m args c cc RX10) {v : Int32} (hI : zI κ b L kd σ) (ha : zT L kd a 10) (h : (-2147483648) ≤ v.toInt ∧ v.toInt ≤ 2147483647) (hdg : decode cc pc = .ok (.putfield 81, 3)) (k : ∀ σ2 : zS, σ2 = (zu σ.1 a 13 v, σ.2.1, σ.2.2) → zI κ b L kd σ2 → zGc rs cs sl d L kd A nL p l e R s m args below meth c Q σ2 (pc + 3) lv st) : zGc rs cs sl d L kd A nL p l e R s m args below meth c Q σ pc lv (.int v :: .ref a :: st) := zg_puti (ty := .int) X ha rfl (by decide) rfl (by decide) rfl rfl zl_in10 tyX10_ok nmX10 zk_X10_81 rfl (by decide +kernel) rfl rfl hdg (fun σ2 h2 => k σ2 h2 (by rw [h2]; exact zi_puti hI ha rfl h.1 h.2))
set_option maxRecDepth 20000 in
theorem zkl_X11_13 : Cond.fieldLink RX11 13 (TX11 1).1 (TX11 1).2.1 (TX11 1).2.2.1 ∈ zWL := zw5 (List.mem_of_getElem? (i := 175) rfl) rfl
set_option maxRecDepth 20000 in
theorem zk_X11_13 : Cond.fieldLink RX11 13 (TX11 1).1 (TX11 1).2.1 (TX11 1).2.2.1 ∈ zWL ∨ ∃ host, Cond.fieldLinkNest RX11 13 (TX11 1).1 (TX11 1).2.1 (TX11 1).2.2.1 host ∈ tables_1 := Or.inl (zw5 (List.mem_of_getElem? (i := 175) rfl) rfl)
set_option maxRecDepth 20000 in
theorem zkl_X11_169 : Cond.fieldLink RX11 169 (TX11 2).1 (TX11 2).2.1 (TX11 2).2.2.1 ∈ zWL := zw5 (List.mem_of_getElem? (i := 176) rfl) rfl
set_option maxRecDepth 20000 in
theorem zk_X11_169 : Cond.fieldLink RX11 169 (TX11 2).1 (TX11 2).2.1 (TX11 2).2.2.1 ∈ zWL ∨ ∃ host, Cond.fieldLinkNest RX11 169 (TX11 2).1 (TX11 2).2.1 (TX11 2).2.2.1 host ∈ tables_1 := Or.inl (zw5 (List.mem_of_getElem? (i := 176) rfl) rfl)
set_option maxRecDepth 20000 in
theorem zkl_X11_17 : Cond.fieldLink RX11 17 (TX11 3).1 (TX11 3).2.1 (TX11 3).2.2.1 ∈ zWL := zw5 (List.mem_of_getElem? (i := 177) rfl) rfl
set_option maxRecDepth 20000 in
theorem zk_X11_17 : Cond.fieldLink RX11 17 (TX11 3).1 (TX11 3).2.1 (TX11 3).2.2.1 ∈ zWL ∨ ∃ host, Cond.fieldLinkNest RX11 17 (TX11 3).1 (TX11 3).2.1 (TX11 3).2.2.1 host ∈ tables_1 := Or.inl (zw5 (List.mem_of_getElem? (i := 177) rfl) rfl)
set_option maxRecDepth 20000 in
theorem zkl_X11_175 : Cond.fieldLink RX11 175 (TX11 4).1 (TX11 4).2.1 (TX11 4).2.2.1 ∈ zWL := zw5 (List.mem_of_getElem? (i := 178) rfl) rfl
set_option maxRecDepth 20000 in
theorem zk_X11_175 : Cond.fieldLink RX11 175 (TX11 4).1 (TX11 4).2.1 (TX11 4).2.2.1 ∈ zWL ∨ ∃ host, Cond.fieldLinkNest RX11 175 (TX11 4).1 (TX11 4).2.1 (TX11 4).2.2.1 host ∈ tables_1 := Or.inl (zw5 (List.mem_of_getElem? (i := 178) rfl) rfl)
set_option maxRecDepth 20000 in
theorem zkl_X11_20 : Cond.fieldLink RX11 20 (TX11 5).1 (TX11 5).2.1 (TX11 5).2.2.1 ∈ zWL := zw5 (List.mem_of_getElem? (i := 179) rfl) rfl
set_option maxRecDepth 20000 in
theorem zk_X11_20 : Cond.fieldLink RX11 20 (TX11 5).1 (TX11 5).2.1 (TX11 5).2.2.1 ∈ zWL ∨ ∃ host, Cond.fieldLinkNest RX11 20 (TX11 5).1 (TX11 5).2.1 (TX11 5).2.2.1 host ∈ tables_1 := Or.inl (zw5 (List.mem_of_getElem? (i := 179) rfl) rfl)
set_option maxRecDepth 20000 in
theorem zkl_X11_24 : Cond.fieldLink RX11 24 (TX11 6).1 (TX11 6).2.1 (TX11 6).2.2.1 ∈ zWL := zw5 (List.mem_of_getElem? (i := 180) rfl) rfl
set_option maxRecDepth 20000 in
theorem zk_X11_24 : Cond.fieldLink RX11 24 (TX11 6).1 (TX11 6).2.1 (TX11 6).2.2.1 ∈ zWL ∨ ∃ host, Cond.fieldLinkNest RX11 24 (TX11 6).1 (TX11 6).2.1 (TX11 6).2.2.1 host ∈ tables_1 := Or.inl (zw5 (List.mem_of_getElem? (i := 180) rfl) rfl)
set_option maxRecDepth 20000 in
theorem zkl_X11_27 : Cond.fieldLink RX11 27 (TX11 7).1 (TX11 7).2.1 (TX11 7).2.2.1 ∈ zWL := zw5 (List.mem_of_getElem? (i := 181) rfl) rfl
set_option maxRecDepth 20000 in
theorem zk_X11_27 : Cond.fieldLink RX11 27 (TX11 7).1 (TX11 7).2.1 (TX11 7).2.2.1 ∈ zWL ∨ ∃ host, Cond.fieldLinkNest RX11 27 (TX11 7).1 (TX11 7).2.1 (TX11 7).2.2.1 host ∈ tables_1 := Or.inl (zw5 (List.mem_of_getElem? (i := 181) rfl) rfl)
set_option maxRecDepth 20000 in
theorem zkl_X11_30 : Cond.fieldLink RX11 30 (TX11 8).1 (TX11 8).2.1 (TX11 8).2.2.1 ∈ zWL := zw5 (List.mem_of_getElem? (i := 182) rfl) rfl
set_option maxRecDepth 20000 in
theorem zk_X11_30 : Cond.fieldLink RX11 30 (TX11 8).1 (TX11 8).2.1 (TX11 8).2.2.1 ∈ zWL ∨ ∃ host, Cond.fieldLinkNest RX11 30 (TX11 8).1 (TX11 8).2.1 (TX11 8).2.2.1 host ∈ tables_1 := Or.inl (zw5 (List.mem_of_getElem? (i := 182) rfl) rfl)
set_option maxRecDepth 20000 in
theorem zkl_X11_34 : Cond.fieldLink RX11 34 (TX11 9).1 (TX11 9).2.1 (TX11 9).2.2.1 ∈ zWL := zw5 (List.mem_of_getElem? (i := 183) rfl) rfl
set_option maxRecDepth 20000 in
theorem zk_X11_34 : Cond.fieldLink RX11 34 (TX11 9).1 (TX11 9).2.1 (TX11 9).2.2.1 ∈ zWL ∨ ∃ host, Cond.fieldLinkNest RX11 34 (TX11 9).1 (TX11 9).2.1 (TX11 9).2.2.1 host ∈ tables_1 := Or.inl (zw5 (List.mem_of_getElem? (i := 183) rfl) rfl)
set_option maxRecDepth 20000 in
theorem zkl_X11_184 : Cond.fieldLink RX11 184 (TX11 10).1 (TX11 10).2.1 (TX11 10).2.2.1 ∈ zWL := zw5 (List.mem_of_getElem? (i := 184) rfl) rfl
set_option maxRecDepth 20000 in
theorem zk_X11_184 : Cond.fieldLink RX11 184 (TX11 10).1 (TX11 10).2.1 (TX11 10).2.2.1 ∈ zWL ∨ ∃ host, Cond.fieldLinkNest RX11 184 (TX11 10).1 (TX11 10).2.1 (TX11 10).2.2.1 host ∈ tables_1 := Or.inl (zw5 (List.mem_of_getElem? (i := 184) rfl) rfl)
set_option maxRecDepth 20000 in
theorem zkl_X11_209 : Cond.fieldLink RX11 209 (TX11 11).1 (TX11 11).2.1 (TX11 11).2.2.1 ∈ zWL := zw5 (List.mem_of_getElem? (i := 185) rfl) rfl
set_option maxRecDepth 20000 in
theorem zk_X11_209 : Cond.fieldLink RX11 209 (TX11 11).1 (TX11 11).2.1 (TX11 11).2.2.1 ∈ zWL ∨ ∃ host, Cond.fieldLinkNest RX11 209 (TX11 11).1 (TX11 11).2.1 (TX11 11).2.2.1 host ∈ tables_1 := Or.inl (zw5 (List.mem_of_getElem? (i := 185) rfl) rfl)
set_option maxRecDepth 20000 in
theorem zkl_X11_233 : Cond.fieldLink RX11 233 (TX11 12).1 (TX11 12).2.1 (TX11 12).2.2.1 ∈ zWL := zw5 (List.mem_of_getElem? (i := 186) rfl) rfl
set_option maxRecDepth 20000 in
theorem zk_X11_233 : Cond.fieldLink RX11 233 (TX11 12).1 (TX11 12).2.1 (TX11 12).2.2.1 ∈ zWL ∨ ∃ host, Cond.fieldLinkNest RX11 233 (TX11 12).1 (TX11 12).2.1 (TX11 12).2.2.1 host ∈ tables_1 := Or.inl (zw5 (List.mem_of_getElem? (i := 186) rfl) rfl)
set_option maxRecDepth 20000 in
theorem zkl_X11_206 : Cond.fieldLink RX11 206 (TX11 13).1 (TX11 13).2.1 (TX11 13).2.2.1 ∈ zWL := zw5 (List.mem_of_getElem? (i := 187) rfl) rfl
set_option maxRecDepth 20000 in
theorem zk_X11_206 : Cond.fieldLink RX11 206 (TX11 13).1 (TX11 13).2.1 (TX11 13).2.2.1 ∈ zWL ∨ ∃ host, Cond.fieldLinkNest RX11 206 (TX11 13).1 (TX11 13).2.1 (TX11 13).2.2.1 host ∈ tables_1 := Or.inl (zw5 (List.mem_of_getElem? (i := 187) rfl) rfl)
set_option maxRecDepth 20000 in
theorem zkl_X11_212 : Cond.fieldLink RX11 212 (TX11 14).1 (TX11 14).2.1 (TX11 14).2.2.1 ∈ zWL := zw5 (List.mem_of_getElem? (i := 188) rfl) rfl
set_option maxRecDepth 20000 in
theorem zk_X11_212 : Cond.fieldLink RX11 212 (TX11 14).1 (TX11 14).2.1 (TX11 14).2.2.1 ∈ zWL ∨ ∃ host, Cond.fieldLinkNest RX11 212 (TX11 14).1 (TX11 14).2.1 (TX11 14).2.2.1 host ∈ tables_1 := Or.inl (zw5 (List.mem_of_getElem? (i := 188) rfl) rfl)
set_option maxRecDepth 20000 in
theorem zkl_X11_215 : Cond.fieldLink RX11 215 (TX11 15).1 (TX11 15).2.1 (TX11 15).2.2.1 ∈ zWL := zw5 (List.mem_of_getElem? (i := 189) rfl) rfl
set_option maxRecDepth 20000 in
theorem zk_X11_215 : Cond.fieldLink RX11 215 (TX11 15).1 (TX11 15).2.1 (TX11 15).2.2.1 ∈ zWL ∨ ∃ host, Cond.fieldLinkNest RX11 215 (TX11 15).1 (TX11 15).2.1 (TX11 15).2.2.1 host ∈ tables_1 := Or.inl (zw5 (List.mem_of_getElem? (i := 189) rfl) rfl)
set_option maxRecDepth 20000 in
theorem zkl_X11_218 : Cond.fieldLink RX11 218 (TX11 16).1 (TX11 16).2.1 (TX11 16).2.2.1 ∈ zWL := zw5 (List.mem_of_getElem? (i := 190) rfl) rfl
set_option maxRecDepth 20000 in
theorem zk_X11_218 : Cond.fieldLink RX11 218 (TX11 16).1 (TX11 16).2.1 (TX11 16).2.2.1 ∈ zWL ∨ ∃ host, Cond.fieldLinkNest RX11 218 (TX11 16).1 (TX11 16).2.1 (TX11 16).2.2.1 host ∈ tables_1 := Or.inl (zw5 (List.mem_of_getElem? (i := 190) rfl) rfl)
set_option maxRecDepth 20000 in
theorem zkl_X11_37 : Cond.fieldLink RX11 37 (TX11 17).1 (TX11 17).2.1 (TX11 17).2.2.1 ∈ zWL := zw5 (List.mem_of_getElem? (i := 191) rfl) rfl
set_option maxRecDepth 20000 in
theorem zk_X11_37 : Cond.fieldLink RX11 37 (TX11 17).1 (TX11 17).2.1 (TX11 17).2.2.1 ∈ zWL ∨ ∃ host, Cond.fieldLinkNest RX11 37 (TX11 17).1 (TX11 17).2.1 (TX11 17).2.2.1 host ∈ tables_1 := Or.inl (zw5 (List.mem_of_getElem? (i := 191) rfl) rfl)
set_option maxRecDepth 20000 in
theorem zkl_X11_236 : Cond.fieldLink RX11 236 (TX11 18).1 (TX11 18).2.1 (TX11 18).2.2.1 ∈ zWL := zw5 (List.mem_of_getElem? (i := 192) rfl) rfl
set_option maxRecDepth 20000 in
theorem zk_X11_236 : Cond.fieldLink RX11 236 (TX11 18).1 (TX11 18).2.1 (TX11 18).2.2.1 ∈ zWL ∨ ∃ host, Cond.fieldLinkNest RX11 236 (TX11 18).1 (TX11 18).2.1 (TX11 18).2.2.1 host ∈ tables_1 := Or.inl (zw5 (List.mem_of_getElem? (i := 192) rfl) rfl)
set_option maxRecDepth 20000 in
theorem zkl_X11_239 : Cond.fieldLink RX11 239 (TX11 19).1 (TX11 19).2.1 (TX11 19).2.2.1 ∈ zWL := zw5 (List.mem_of_getElem? (i := 193) rfl) rfl
set_option maxRecDepth 20000 in
theorem zk_X11_239 : Cond.fieldLink RX11 239 (TX11 19).1 (TX11 19).2.1 (TX11 19).2.2.1 ∈ zWL ∨ ∃ host, Cond.fieldLinkNest RX11 239 (TX11 19).1 (TX11 19).2.1 (TX11 19).2.2.1 host ∈ tables_1 := Or.inl (zw5 (List.mem_of_getElem? (i := 193) rfl) rfl)
set_option maxRecDepth 20000 in
theorem zkl_X11_40 : Cond.fieldLink RX11 40 (TX11 20).1 (TX11 20).2.1 (TX11 20).2.2.1 ∈ zWL := zw5 (List.mem_of_getElem? (i := 194) rfl) rfl
set_option maxRecDepth 20000 in
theorem zk_X11_40 : Cond.fieldLink RX11 40 (TX11 20).1 (TX11 20).2.1 (TX11 20).2.2.1 ∈ zWL ∨ ∃ host, Cond.fieldLinkNest RX11 40 (TX11 20).1 (TX11 20).2.1 (TX11 20).2.2.1 host ∈ tables_1 := Or.inl (zw5 (List.mem_of_getElem? (i := 194) rfl) rfl)
set_option maxRecDepth 20000 in
theorem zkl_X11_43 : Cond.fieldLink RX11 43 (TX11 21).1 (TX11 21).2.1 (TX11 21).2.2.1 ∈ zWL := zw5 (List.mem_of_getElem? (i := 195) rfl) rfl
set_option maxRecDepth 20000 in
theorem zk_X11_43 : Cond.fieldLink RX11 43 (TX11 21).1 (TX11 21).2.1 (TX11 21).2.2.1 ∈ zWL ∨ ∃ host, Cond.fieldLinkNest RX11 43 (TX11 21).1 (TX11 21).2.1 (TX11 21).2.2.1 host ∈ tables_1 := Or.inl (zw5 (List.mem_of_getElem? (i := 195) rfl) rfl)
set_option maxRecDepth 20000 in
theorem zkl_X11_46 : Cond.fieldLink RX11 46 (TX11 22).1 (TX11 22).2.1 (TX11 22).2.2.1 ∈ zWL := zw5 (List.mem_of_getElem? (i := 196) rfl) rfl
set_option maxRecDepth 20000 in
theorem zk_X11_46 : Cond.fieldLink RX11 46 (TX11 22).1 (TX11 22).2.1 (TX11 22).2.2.1 ∈ zWL ∨ ∃ host, Cond.fieldLinkNest RX11 46 (TX11 22).1 (TX11 22).2.1 (TX11 22).2.2.1 host ∈ tables_1 := Or.inl (zw5 (List.mem_of_getElem? (i := 196) rfl) rfl)
set_option maxRecDepth 20000 in
theorem zkl_X11_49 : Cond.fieldLink RX11 49 (TX11 23).1 (TX11 23).2.1 (TX11 23).2.2.1 ∈ zWL := zw5 (List.mem_of_getElem? (i := 197) rfl) rfl
set_option maxRecDepth 20000 in
theorem zk_X11_49 : Cond.fieldLink RX11 49 (TX11 23).1 (TX11 23).2.1 (TX11 23).2.2.1 ∈ zWL ∨ ∃ host, Cond.fieldLinkNest RX11 49 (TX11 23).1 (TX11 23).2.1 (TX11 23).2.2.1 host ∈ tables_1 := Or.inl (zw5 (List.mem_of_getElem? (i := 197) rfl) rfl)
set_option maxRecDepth 20000 in
theorem zkl_X11_52 : Cond.fieldLink RX11 52 (TX11 24).1 (TX11 24).2.1 (TX11 24).2.2.1 ∈ zWL := zw5 (List.mem_of_getElem? (i := 198) rfl) rfl
set_option maxRecDepth 20000 in
theorem zk_X11_52 : Cond.fieldLink RX11 52 (TX11 24).1 (TX11 24).2.1 (TX11 24).2.2.1 ∈ zWL ∨ ∃ host, Cond.fieldLinkNest RX11 52 (TX11 24).1 (TX11 24).2.1 (TX11 24).2.2.1 host ∈ tables_1 := Or.inl (zw5 (List.mem_of_getElem? (i := 198) rfl) rfl)
set_option maxRecDepth 20000 in
theorem zkl_X11_55 : Cond.fieldLink RX11 55 (TX11 25).1 (TX11 25).2.1 (TX11 25).2.2.1 ∈ zWL := zw5 (List.mem_of_getElem? (i := 199) rfl) rfl
set_option maxRecDepth 20000 in
theorem zk_X11_55 : Cond.fieldLink RX11 55 (TX11 25).1 (TX11 25).2.1 (TX11 25).2.2.1 ∈ zWL ∨ ∃ host, Cond.fieldLinkNest RX11 55 (TX11 25).1 (TX11 25).2.1 (TX11 25).2.2.1 host ∈ tables_1 := Or.inl (zw5 (List.mem_of_getElem? (i := 199) rfl) rfl)
set_option maxRecDepth 20000 in
theorem zkl_X11_58 : Cond.fieldLink RX11 58 (TX11 26).1 (TX11 26).2.1 (TX11 26).2.2.1 ∈ zWL := zw5 (List.mem_of_getElem? (i := 200) rfl) rfl
set_option maxRecDepth 20000 in
theorem zk_X11_58 : Cond.fieldLink RX11 58 (TX11 26).1 (TX11 26).2.1 (TX11 26).2.2.1 ∈ zWL ∨ ∃ host, Cond.fieldLinkNest RX11 58 (TX11 26).1 (TX11 26).2.1 (TX11 26).2.2.1 host ∈ tables_1 := Or.inl (zw5 (List.mem_of_getElem? (i := 200) rfl) rfl)
set_option maxRecDepth 20000 in
theorem zkl_X11_61 : Cond.fieldLink RX11 61 (TX11 27).1 (TX11 27).2.1 (TX11 27).2.2.1 ∈ zWL := zw5 (List.mem_of_getElem? (i := 201) rfl) rfl
set_option maxRecDepth 20000 in
theorem zk_X11_61 : Cond.fieldLink RX11 61 (TX11 27).1 (TX11 27).2.1 (TX11 27).2.2.1 ∈ zWL ∨ ∃ host, Cond.fieldLinkNest RX11 61 (TX11 27).1 (TX11 27).2.1 (TX11 27).2.2.1 host ∈ tables_1 := Or.inl (zw5 (List.mem_of_getElem? (i := 201) rfl) rfl)
set_option maxRecDepth 20000 in
theorem zkl_X11_64 : Cond.fieldLink RX11 64 (TX11 28).1 (TX11 28).2.1 (TX11 28).2.2.1 ∈ zWL := zw5 (List.mem_of_getElem? (i := 202) rfl) rfl
set_option maxRecDepth 20000 in
theorem zk_X11_64 : Cond.fieldLink RX11 64 (TX11 28).1 (TX11 28).2.1 (TX11 28).2.2.1 ∈ zWL ∨ ∃ host, Cond.fieldLinkNest RX11 64 (TX11 28).1 (TX11 28).2.1 (TX11 28).2.2.1 host ∈ tables_1 := Or.inl (zw5 (List.mem_of_getElem? (i := 202) rfl) rfl)
set_option maxRecDepth 20000 in
theorem zkl_X11_67 : Cond.fieldLink RX11 67 (TX11 29).1 (TX11 29).2.1 (TX11 29).2.2.1 ∈ zWL := zw5 (List.mem_of_getElem? (i := 203) rfl) rfl
set_option maxRecDepth 20000 in
theorem zk_X11_67 : Cond.fieldLink RX11 67 (TX11 29).1 (TX11 29).2.1 (TX11 29).2.2.1 ∈ zWL ∨ ∃ host, Cond.fieldLinkNest RX11 67 (TX11 29).1 (TX11 29).2.1 (TX11 29).2.2.1 host ∈ tables_1 := Or.inl (zw5 (List.mem_of_getElem? (i := 203) rfl) rfl)
set_option maxRecDepth 20000 in
theorem zkl_X11_70 : Cond.fieldLink RX11 70 (TX11 30).1 (TX11 30).2.1 (TX11 30).2.2.1 ∈ zWL := zw5 (List.mem_of_getElem? (i := 204) rfl) rfl
set_option maxRecDepth 20000 in
theorem zk_X11_70 : Cond.fieldLink RX11 70 (TX11 30).1 (TX11 30).2.1 (TX11 30).2.2.1 ∈ zWL ∨ ∃ host, Cond.fieldLinkNest RX11 70 (TX11 30).1 (TX11 30).2.1 (TX11 30).2.2.1 host ∈ tables_1 := Or.inl (zw5 (List.mem_of_getElem? (i := 204) rfl) rfl)
set_option maxRecDepth 20000 in
theorem zkl_X11_73 : Cond.fieldLink RX11 73 (TX11 31).1 (TX11 31).2.1 (TX11 31).2.2.1 ∈ zWL := zw5 (List.mem_of_getElem? (i := 205) rfl) rfl
set_option maxRecDepth 20000 in
theorem zk_X11_73 : Cond.fieldLink RX11 73 (TX11 31).1 (TX11 31).2.1 (TX11 31).2.2.1 ∈ zWL ∨ ∃ host, Cond.fieldLinkNest RX11 73 (TX11 31).1 (TX11 31).2.1 (TX11 31).2.2.1 host ∈ tables_1 := Or.inl (zw5 (List.mem_of_getElem? (i := 205) rfl) rfl)
set_option maxRecDepth 20000 in
theorem zkl_X11_242 : Cond.fieldLink RX11 242 (TX11 32).1 (TX11 32).2.1 (TX11 32).2.2.1 ∈ zWL := zw5 (List.mem_of_getElem? (i := 206) rfl) rfl
set_option maxRecDepth 20000 in
theorem zk_X11_242 : Cond.fieldLink RX11 242 (TX11 32).1 (TX11 32).2.1 (TX11 32).2.2.1 ∈ zWL ∨ ∃ host, Cond.fieldLinkNest RX11 242 (TX11 32).1 (TX11 32).2.1 (TX11 32).2.2.1 host ∈ tables_1 := Or.inl (zw5 (List.mem_of_getElem? (i := 206) rfl) rfl)
set_option maxRecDepth 20000 in
theorem zkl_X11_76 : Cond.fieldLink RX11 76 (TX11 33).1 (TX11 33).2.1 (TX11 33).2.2.1 ∈ zWL := zw5 (List.mem_of_getElem? (i := 207) rfl) rfl
set_option maxRecDepth 20000 in
theorem zk_X11_76 : Cond.fieldLink RX11 76 (TX11 33).1 (TX11 33).2.1 (TX11 33).2.2.1 ∈ zWL ∨ ∃ host, Cond.fieldLinkNest RX11 76 (TX11 33).1 (TX11 33).2.1 (TX11 33).2.2.1 host ∈ tables_1 := Or.inl (zw5 (List.mem_of_getElem? (i := 207) rfl) rfl)
set_option maxRecDepth 20000 in
theorem zkl_X11_80 : Cond.fieldLink RX11 80 (TX11 34).1 (TX11 34).2.1 (TX11 34).2.2.1 ∈ zWL := zw5 (List.mem_of_getElem? (i := 208) rfl) rfl
set_option maxRecDepth 20000 in
theorem zk_X11_80 : Cond.fieldLink RX11 80 (TX11 34).1 (TX11 34).2.1 (TX11 34).2.2.1 ∈ zWL ∨ ∃ host, Cond.fieldLinkNest RX11 80 (TX11 34).1 (TX11 34).2.1 (TX11 34).2.2.1 host ∈ tables_1 := Or.inl (zw5 (List.mem_of_getElem? (i := 208) rfl) rfl)
set_option maxRecDepth 20000 in
theorem zkl_X11_83 : Cond.fieldLink RX11 83 (TX11 35).1 (TX11 35).2.1 (TX11 35).2.2.1 ∈ zWL := zw5 (List.mem_of_getElem? (i := 209) rfl) rfl
set_option maxRecDepth 20000 in
theorem zk_X11_83 : Cond.fieldLink RX11 83 (TX11 35).1 (TX11 35).2.1 (TX11 35).2.2.1 ∈ zWL ∨ ∃ host, Cond.fieldLinkNest RX11 83 (TX11 35).1 (TX11 35).2.1 (TX11 35).2.2.1 host ∈ tables_1 := Or.inl (zw5 (List.mem_of_getElem? (i := 209) rfl) rfl)
set_option maxRecDepth 20000 in
theorem zkl_X11_86 : Cond.fieldLink RX11 86 (TX11 36).1 (TX11 36).2.1 (TX11 36).2.2.1 ∈ zWL := zw5 (List.mem_of_getElem? (i := 210) rfl) rfl
set_option maxRecDepth 20000 in
theorem zk_X11_86 : Cond.fieldLink RX11 86 (TX11 36).1 (TX11 36).2.1 (TX11 36).2.2.1 ∈ zWL ∨ ∃ host, Cond.fieldLinkNest RX11 86 (TX11 36).1 (TX11 36).2.1 (TX11 36).2.2.1 host ∈ tables_1 := Or.inl (zw5 (List.mem_of_getElem? (i := 210) rfl) rfl)
set_option maxRecDepth 20000 in
theorem zkl_X11_89 : Cond.fieldLink RX11 89 (TX11 37).1 (TX11 37).2.1 (TX11 37).2.2.1 ∈ zWL := zw5 (List.mem_of_getElem? (i := 211) rfl) rfl
set_option maxRecDepth 20000 in
theorem zk_X11_89 : Cond.fieldLink RX11 89 (TX11 37).1 (TX11 37).2.1 (TX11 37).2.2.1 ∈ zWL ∨ ∃ host, Cond.fieldLinkNest RX11 89 (TX11 37).1 (TX11 37).2.1 (TX11 37).2.2.1 host ∈ tables_1 := Or.inl (zw5 (List.mem_of_getElem? (i := 211) rfl) rfl)
set_option maxRecDepth 20000 in
theorem zkl_X11_245 : Cond.fieldLink RX11 245 (TX11 38).1 (TX11 38).2.1 (TX11 38).2.2.1 ∈ zWL := zw5 (List.mem_of_getElem? (i := 212) rfl) rfl
set_option maxRecDepth 20000 in
theorem zk_X11_245 : Cond.fieldLink RX11 245 (TX11 38).1 (TX11 38).2.1 (TX11 38).2.2.1 ∈ zWL ∨ ∃ host, Cond.fieldLinkNest RX11 245 (TX11 38).1 (TX11 38).2.1 (TX11 38).2.2.1 host ∈ tables_1 := Or.inl (zw5 (List.mem_of_getElem? (i := 212) rfl) rfl)
set_option maxRecDepth 20000 in
theorem zkl_X11_92 : Cond.fieldLink RX11 92 (TX11 39).1 (TX11 39).2.1 (TX11 39).2.2.1 ∈ zWL := zw5 (List.mem_of_getElem? (i := 213) rfl) rfl
set_option maxRecDepth 20000 in
theorem zk_X11_92 : Cond.fieldLink RX11 92 (TX11 39).1 (TX11 39).2.1 (TX11 39).2.2.1 ∈ zWL ∨ ∃ host, Cond.fieldLinkNest RX11 92 (TX11 39).1 (TX11 39).2.1 (TX11 39).2.2.1 host ∈ tables_1 := Or.inl (zw5 (List.mem_of_getElem? (i := 213) rfl) rfl)
set_option maxRecDepth 20000 in
theorem zkl_X11_95 : Cond.fieldLink RX11 95 (TX11 40).1 (TX11 40).2.1 (TX11 40).2.2.1 ∈ zWL := zw5 (List.mem_of_getElem? (i := 214) rfl) rfl
set_option maxRecDepth 20000 in
theorem zk_X11_95 : Cond.fieldLink RX11 95 (TX11 40).1 (TX11 40).2.1 (TX11 40).2.2.1 ∈ zWL ∨ ∃ host, Cond.fieldLinkNest RX11 95 (TX11 40).1 (TX11 40).2.1 (TX11 40).2.2.1 host ∈ tables_1 := Or.inl (zw5 (List.mem_of_getElem? (i := 214) rfl) rfl)
set_option maxRecDepth 20000 in
theorem zkl_X11_248 : Cond.fieldLink RX11 248 (TX11 41).1 (TX11 41).2.1 (TX11 41).2.2.1 ∈ zWL := zw5 (List.mem_of_getElem? (i := 215) rfl) rfl
set_option maxRecDepth 20000 in
theorem zk_X11_248 : Cond.fieldLink RX11 248 (TX11 41).1 (TX11 41).2.1 (TX11 41).2.2.1 ∈ zWL ∨ ∃ host, Cond.fieldLinkNest RX11 248 (TX11 41).1 (TX11 41).2.1 (TX11 41).2.2.1 host ∈ tables_1 := Or.inl (zw5 (List.mem_of_getElem? (i := 215) rfl) rfl)
set_option maxRecDepth 20000 in
theorem zkl_X11_252 : Cond.fieldLink RX11 252 (TX11 42).1 (TX11 42).2.1 (TX11 42).2.2.1 ∈ zWL := zw5 (List.mem_of_getElem? (i := 216) rfl) rfl
set_option maxRecDepth 20000 in
theorem zk_X11_252 : Cond.fieldLink RX11 252 (TX11 42).1 (TX11 42).2.1 (TX11 42).2.2.1 ∈ zWL ∨ ∃ host, Cond.fieldLinkNest RX11 252 (TX11 42).1 (TX11 42).2.1 (TX11 42).2.2.1 host ∈ tables_1 := Or.inl (zw5 (List.mem_of_getElem? (i := 216) rfl) rfl)
set_option maxRecDepth 20000 in
theorem zkl_X11_98 : Cond.fieldLink RX11 98 (TX11 43).1 (TX11 43).2.1 (TX11 43).2.2.1 ∈ zWL := zw5 (List.mem_of_getElem? (i := 217) rfl) rfl
set_option maxRecDepth 20000 in
theorem zk_X11_98 : Cond.fieldLink RX11 98 (TX11 43).1 (TX11 43).2.1 (TX11 43).2.2.1 ∈ zWL ∨ ∃ host, Cond.fieldLinkNest RX11 98 (TX11 43).1 (TX11 43).2.1 (TX11 43).2.2.1 host ∈ tables_1 := Or.inl (zw5 (List.mem_of_getElem? (i := 217) rfl) rfl)
set_option maxRecDepth 20000 in
theorem zkl_X11_297 : Cond.fieldLink RX11 297 (TX11 44).1 (TX11 44).2.1 (TX11 44).2.2.1 ∈ zWL := zw5 (List.mem_of_getElem? (i := 218) rfl) rfl
set_option maxRecDepth 20000 in
theorem zk_X11_297 : Cond.fieldLink RX11 297 (TX11 44).1 (TX11 44).2.1 (TX11 44).2.2.1 ∈ zWL ∨ ∃ host, Cond.fieldLinkNest RX11 297 (TX11 44).1 (TX11 44).2.1 (TX11 44).2.2.1 host ∈ tables_1 := Or.inl (zw5 (List.mem_of_getElem? (i := 218) rfl) rfl)
set_option maxRecDepth 20000 in
theorem zkl_X11_101 : Cond.fieldLink RX11 101 (TX11 45).1 (TX11 45).2.1 (TX11 45).2.2.1 ∈ zWL := zw5 (List.mem_of_getElem? (i := 219) rfl) rfl
set_option maxRecDepth 20000 in
theorem zk_X11_101 : Cond.fieldLink RX11 101 (TX11 45).1 (TX11 45).2.1 (TX11 45).2.2.1 ∈ zWL ∨ ∃ host, Cond.fieldLinkNest RX11 101 (TX11 45).1 (TX11 45).2.1 (TX11 45).2.2.1 host ∈ tables_1 := Or.inl (zw5 (List.mem_of_getElem? (i := 219) rfl) rfl)
set_option maxRecDepth 20000 in
theorem zkl_X11_104 : Cond.fieldLink RX11 104 (TX11 46).1 (TX11 46).2.1 (TX11 46).2.2.1 ∈ zWL := zw5 (List.mem_of_getElem? (i := 220) rfl) rfl
set_option maxRecDepth 20000 in
theorem zk_X11_104 : Cond.fieldLink RX11 104 (TX11 46).1 (TX11 46).2.1 (TX11 46).2.2.1 ∈ zWL ∨ ∃ host, Cond.fieldLinkNest RX11 104 (TX11 46).1 (TX11 46).2.1 (TX11 46).2.2.1 host ∈ tables_1 := Or.inl (zw5 (List.mem_of_getElem? (i := 220) rfl) rfl)
set_option maxRecDepth 20000 in
theorem zkl_X11_310 : Cond.fieldLink RX11 310 (TX11 47).1 (TX11 47).2.1 (TX11 47).2.2.1 ∈ zWL := zw5 (List.mem_of_getElem? (i := 221) rfl) rfl
set_option maxRecDepth 20000 in
theorem zk_X11_310 : Cond.fieldLink RX11 310 (TX11 47).1 (TX11 47).2.1 (TX11 47).2.2.1 ∈ zWL ∨ ∃ host, Cond.fieldLinkNest RX11 310 (TX11 47).1 (TX11 47).2.1 (TX11 47).2.2.1 host ∈ tables_1 := Or.inl (zw5 (List.mem_of_getElem? (i := 221) rfl) rfl)
set_option maxRecDepth 20000 in
theorem zkl_X11_107 : Cond.fieldLink RX11 107 (TX11 48).1 (TX11 48).2.1 (TX11 48).2.2.1 ∈ zWL := zw5 (List.mem_of_getElem? (i := 222) rfl) rfl
set_option maxRecDepth 20000 in
theorem zk_X11_107 : Cond.fieldLink RX11 107 (TX11 48).1 (TX11 48).2.1 (TX11 48).2.2.1 ∈ zWL ∨ ∃ host, Cond.fieldLinkNest RX11 107 (TX11 48).1 (TX11 48).2.1 (TX11 48).2.2.1 host ∈ tables_1 := Or.inl (zw5 (List.mem_of_getElem? (i := 222) rfl) rfl)
set_option maxRecDepth 20000 in
theorem zkl_X11_110 : Cond.fieldLink RX11 110 (TX11 49).1 (TX11 49).2.1 (TX11 49).2.2.1 ∈ zWL := zw5 (List.mem_of_getElem? (i := 223) rfl) rfl
set_option maxRecDepth 20000 in
theorem zk_X11_110 : Cond.fieldLink RX11 110 (TX11 49).1 (TX11 49).2.1 (TX11 49).2.2.1 ∈ zWL ∨ ∃ host, Cond.fieldLinkNest RX11 110 (TX11 49).1 (TX11 49).2.1 (TX11 49).2.2.1 host ∈ tables_1 := Or.inl (zw5 (List.mem_of_getElem? (i := 223) rfl) rfl)
set_option maxRecDepth 20000 in
theorem zkl_X11_320 : Cond.fieldLink RX11 320 (TX11 50).1 (TX11 50).2.1 (TX11 50).2.2.1 ∈ zWL := zw5 (List.mem_of_getElem? (i := 224) rfl) rfl
set_option maxRecDepth 20000 in
theorem zk_X11_320 : Cond.fieldLink RX11 320 (TX11 50).1 (TX11 50).2.1 (TX11 50).2.2.1 ∈ zWL ∨ ∃ host, Cond.fieldLinkNest RX11 320 (TX11 50).1 (TX11 50).2.1 (TX11 50).2.2.1 host ∈ tables_1 := Or.inl (zw5 (List.mem_of_getElem? (i := 224) rfl) rfl)
set_option maxRecDepth 20000 in
theorem zkl_X11_323 : Cond.fieldLink RX11 323 (TX11 51).1 (TX11 51).2.1 (TX11 51).2.2.1 ∈ zWL := zw5 (List.mem_of_getElem? (i := 225) rfl) rfl
set_option maxRecDepth 20000 in
theorem zk_X11_323 : Cond.fieldLink RX11 323 (TX11 51).1 (TX11 51).2.1 (TX11 51).2.2.1 ∈ zWL ∨ ∃ host, Cond.fieldLinkNest RX11 323 (TX11 51).1 (TX11 51).2.1 (TX11 51).2.2.1 host ∈ tables_1 := Or.inl (zw5 (List.mem_of_getElem? (i := 225) rfl) rfl)
set_option maxRecDepth 20000 in
theorem zkl_X11_113 : Cond.fieldLink RX11 113 (TX11 52).1 (TX11 52).2.1 (TX11 52).2.2.1 ∈ zWL := zw5 (List.mem_of_getElem? (i := 226) rfl) rfl
set_option maxRecDepth 20000 in
theorem zk_X11_113 : Cond.fieldLink RX11 113 (TX11 52).1 (TX11 52).2.1 (TX11 52).2.2.1 ∈ zWL ∨ ∃ host, Cond.fieldLinkNest RX11 113 (TX11 52).1 (TX11 52).2.1 (TX11 52).2.2.1 host ∈ tables_1 := Or.inl (zw5 (List.mem_of_getElem? (i := 226) rfl) rfl)
set_option maxRecDepth 20000 in
theorem zkl_X11_116 : Cond.fieldLink RX11 116 (TX11 53).1 (TX11 53).2.1 (TX11 53).2.2.1 ∈ zWL := zw5 (List.mem_of_getElem? (i := 227) rfl) rfl
set_option maxRecDepth 20000 in
theorem zk_X11_116 : Cond.fieldLink RX11 116 (TX11 53).1 (TX11 53).2.1 (TX11 53).2.2.1 ∈ zWL ∨ ∃ host, Cond.fieldLinkNest RX11 116 (TX11 53).1 (TX11 53).2.1 (TX11 53).2.2.1 host ∈ tables_1 := Or.inl (zw5 (List.mem_of_getElem? (i := 227) rfl) rfl)
set_option maxRecDepth 20000 in
theorem zkl_X11_119 : Cond.fieldLink RX11 119 (TX11 54).1 (TX11 54).2.1 (TX11 54).2.2.1 ∈ zWL := zw5 (List.mem_of_getElem? (i := 228) rfl) rfl
set_option maxRecDepth 20000 in
theorem zk_X11_119 : Cond.fieldLink RX11 119 (TX11 54).1 (TX11 54).2.1 (TX11 54).2.2.1 ∈ zWL ∨ ∃ host, Cond.fieldLinkNest RX11 119 (TX11 54).1 (TX11 54).2.1 (TX11 54).2.2.1 host ∈ tables_1 := Or.inl (zw5 (List.mem_of_getElem? (i := 228) rfl) rfl)
set_option maxRecDepth 20000 in
theorem zkl_X11_122 : Cond.fieldLink RX11 122 (TX11 55).1 (TX11 55).2.1 (TX11 55).2.2.1 ∈ zWL := zw5 (List.mem_of_getElem? (i := 229) rfl) rfl
set_option maxRecDepth 20000 in
theorem zk_X11_122 : Cond.fieldLink RX11 122 (TX11 55).1 (TX11 55).2.1 (TX11 55).2.2.1 ∈ zWL ∨ ∃ host, Cond.fieldLinkNest RX11 122 (TX11 55).1 (TX11 55).2.1 (TX11 55).2.2.1 host ∈ tables_1 := Or.inl (zw5 (List.mem_of_getElem? (i := 229) rfl) rfl)
set_option maxRecDepth 20000 in
theorem zkl_X11_377 : Cond.fieldLink RX11 377 (TX11 56).1 (TX11 56).2.1 (TX11 56).2.2.1 ∈ zWL := zw5 (List.mem_of_getElem? (i := 230) rfl) rfl
set_option maxRecDepth 20000 in
theorem zk_X11_377 : Cond.fieldLink RX11 377 (TX11 56).1 (TX11 56).2.1 (TX11 56).2.2.1 ∈ zWL ∨ ∃ host, Cond.fieldLinkNest RX11 377 (TX11 56).1 (TX11 56).2.1 (TX11 56).2.2.1 host ∈ tables_1 := Or.inl (zw5 (List.mem_of_getElem? (i := 230) rfl) rfl)
set_option maxRecDepth 20000 in
theorem zkl_X11_258 : Cond.fieldLink RX11 258 (TX11 57).1 (TX11 57).2.1 (TX11 57).2.2.1 ∈ zWL := zw5 (List.mem_of_getElem? (i := 231) rfl) rfl
set_option maxRecDepth 20000 in
theorem zk_X11_258 : Cond.fieldLink RX11 258 (TX11 57).1 (TX11 57).2.1 (TX11 57).2.2.1 ∈ zWL ∨ ∃ host, Cond.fieldLinkNest RX11 258 (TX11 57).1 (TX11 57).2.1 (TX11 57).2.2.1 host ∈ tables_1 := Or.inl (zw5 (List.mem_of_getElem? (i := 231) rfl) rfl)
set_option maxRecDepth 20000 in
theorem zkl_X11_125 : Cond.fieldLink RX11 125 (TX11 58).1 (TX11 58).2.1 (TX11 58).2.2.1 ∈ zWL := zw5 (List.mem_of_getElem? (i := 232) rfl) rfl
set_option maxRecDepth 20000 in
theorem zk_X11_125 : Cond.fieldLink RX11 125 (TX11 58).1 (TX11 58).2.1 (TX11 58).2.2.1 ∈ zWL ∨ ∃ host, Cond.fieldLinkNest RX11 125 (TX11 58).1 (TX11 58).2.1 (TX11 58).2.2.1 host ∈ tables_1 := Or.inl (zw5 (List.mem_of_getElem? (i := 232) rfl) rfl)
set_option maxRecDepth 20000 in
theorem zkl_X11_128 : Cond.fieldLink RX11 128 (TX11 59).1 (TX11 59).2.1 (TX11 59).2.2.1 ∈ zWL := zw5 (List.mem_of_getElem? (i := 233) rfl) rfl
set_option maxRecDepth 20000 in
theorem zk_X11_128 : Cond.fieldLink RX11 128 (TX11 59).1 (TX11 59).2.1 (TX11 59).2.2.1 ∈ zWL ∨ ∃ host, Cond.fieldLinkNest RX11 128 (TX11 59).1 (TX11 59).2.1 (TX11 59).2.2.1 host ∈ tables_1 := Or.inl (zw5 (List.mem_of_getElem? (i := 233) rfl) rfl)
set_option maxRecDepth 20000 in
theorem zkl_X11_131 : Cond.fieldLink RX11 131 (TX11 60).1 (TX11 60).2.1 (TX11 60).2.2.1 ∈ zWL := zw5 (List.mem_of_getElem? (i := 234) rfl) rfl
set_option maxRecDepth 20000 in
theorem zk_X11_131 : Cond.fieldLink RX11 131 (TX11 60).1 (TX11 60).2.1 (TX11 60).2.2.1 ∈ zWL ∨ ∃ host, Cond.fieldLinkNest RX11 131 (TX11 60).1 (TX11 60).2.1 (TX11 60).2.2.1 host ∈ tables_1 := Or.inl (zw5 (List.mem_of_getElem? (i := 234) rfl) rfl)
set_option maxRecDepth 20000 in
theorem zkl_X11_134 : Cond.fieldLink RX11 134 (TX11 61).1 (TX11 61).2.1 (TX11 61).2.2.1 ∈ zWL := zw5 (List.mem_of_getElem? (i := 235) rfl) rfl
set_option maxRecDepth 20000 in
theorem zk_X11_134 : Cond.fieldLink RX11 134 (TX11 61).1 (TX11 61).2.1 (TX11 61).2.2.1 ∈ zWL ∨ ∃ host, Cond.fieldLinkNest RX11 134 (TX11 61).1 (TX11 61).2.1 (TX11 61).2.2.1 host ∈ tables_1 := Or.inl (zw5 (List.mem_of_getElem? (i := 235) rfl) rfl)
set_option maxRecDepth 20000 in
theorem zkl_X11_261 : Cond.fieldLink RX11 261 (TX11 62).1 (TX11 62).2.1 (TX11 62).2.2.1 ∈ zWL := zw5 (List.mem_of_getElem? (i := 236) rfl) rfl
set_option maxRecDepth 20000 in
theorem zk_X11_261 : Cond.fieldLink RX11 261 (TX11 62).1 (TX11 62).2.1 (TX11 62).2.2.1 ∈ zWL ∨ ∃ host, Cond.fieldLinkNest RX11 261 (TX11 62).1 (TX11 62).2.1 (TX11 62).2.2.1 host ∈ tables_1 := Or.inl (zw5 (List.mem_of_getElem? (i := 236) rfl) rfl)
set_option maxRecDepth 20000 in
theorem zkl_X11_137 : Cond.fieldLink RX11 137 (TX11 63).1 (TX11 63).2.1 (TX11 63).2.2.1 ∈ zWL := zw5 (List.mem_of_getElem? (i := 237) rfl) rfl
set_option maxRecDepth 20000 in
theorem zk_X11_137 : Cond.fieldLink RX11 137 (TX11 63).1 (TX11 63).2.1 (TX11 63).2.2.1 ∈ zWL ∨ ∃ host, Cond.fieldLinkNest RX11 137 (TX11 63).1 (TX11 63).2.1 (TX11 63).2.2.1 host ∈ tables_1 := Or.inl (zw5 (List.mem_of_getElem? (i := 237) rfl) rfl)
set_option maxRecDepth 20000 in
theorem zkl_X11_140 : Cond.fieldLink RX11 140 (TX11 64).1 (TX11 64).2.1 (TX11 64).2.2.1 ∈ zWL := zw5 (List.mem_of_getElem? (i := 238) rfl) rfl
set_option maxRecDepth 20000 in
theorem zk_X11_140 : Cond.fieldLink RX11 140 (TX11 64).1 (TX11 64).2.1 (TX11 64).2.2.1 ∈ zWL ∨ ∃ host, Cond.fieldLinkNest RX11 140 (TX11 64).1 (TX11 64).2.1 (TX11 64).2.2.1 host ∈ tables_1 := Or.inl (zw5 (List.mem_of_getElem? (i := 238) rfl) rfl)
set_option maxRecDepth 20000 in
theorem zkl_X11_143 : Cond.fieldLink RX11 143 (TX11 65).1 (TX11 65).2.1 (TX11 65).2.2.1 ∈ zWL := zw5 (List.mem_of_getElem? (i := 239) rfl) rfl
set_option maxRecDepth 20000 in
theorem zk_X11_143 : Cond.fieldLink RX11 143 (TX11 65).1 (TX11 65).2.1 (TX11 65).2.2.1 ∈ zWL ∨ ∃ host, Cond.fieldLinkNest RX11 143 (TX11 65).1 (TX11 65).2.1 (TX11 65).2.2.1 host ∈ tables_1 := Or.inl (zw5 (List.mem_of_getElem? (i := 239) rfl) rfl)
set_option maxRecDepth 20000 in
theorem zkl_X11_146 : Cond.fieldLink RX11 146 (TX11 66).1 (TX11 66).2.1 (TX11 66).2.2.1 ∈ zWL := zw6 (List.mem_of_getElem? (i := 0) rfl) rfl
set_option maxRecDepth 20000 in
theorem zk_X11_146 : Cond.fieldLink RX11 146 (TX11 66).1 (TX11 66).2.1 (TX11 66).2.2.1 ∈ zWL ∨ ∃ host, Cond.fieldLinkNest RX11 146 (TX11 66).1 (TX11 66).2.1 (TX11 66).2.2.1 host ∈ tables_1 := Or.inl (zw6 (List.mem_of_getElem? (i := 0) rfl) rfl)
set_option maxRecDepth 20000 in
theorem zkl_X11_149 : Cond.fieldLink RX11 149 (TX11 67).1 (TX11 67).2.1 (TX11 67).2.2.1 ∈ zWL := zw6 (List.mem_of_getElem? (i := 1) rfl) rfl
set_option maxRecDepth 20000 in
theorem zk_X11_149 : Cond.fieldLink RX11 149 (TX11 67).1 (TX11 67).2.1 (TX11 67).2.2.1 ∈ zWL ∨ ∃ host, Cond.fieldLinkNest RX11 149 (TX11 67).1 (TX11 67).2.1 (TX11 67).2.2.1 host ∈ tables_1 := Or.inl (zw6 (List.mem_of_getElem? (i := 1) rfl) rfl)
set_option maxRecDepth 20000 in
theorem zkl_X11_152 : Cond.fieldLink RX11 152 (TX11 68).1 (TX11 68).2.1 (TX11 68).2.2.1 ∈ zWL := zw6 (List.mem_of_getElem? (i := 2) rfl) rfl
set_option maxRecDepth 20000 in
theorem zk_X11_152 : Cond.fieldLink RX11 152 (TX11 68).1 (TX11 68).2.1 (TX11 68).2.2.1 ∈ zWL ∨ ∃ host, Cond.fieldLinkNest RX11 152 (TX11 68).1 (TX11 68).2.1 (TX11 68).2.2.1 host ∈ tables_1 := Or.inl (zw6 (List.mem_of_getElem? (i := 2) rfl) rfl)
theorem ag_20 {own : String} (X : zX d L kd A nL p s m args c cc own) {i : Int32} (hI : zI κ b L kd σ) (ha : zT L kd a 20) (h0 : 0 ≤ i.toInt) (h1 : i.toInt < 9) (hdg : decode cc pc = .ok (.iaload, 1)) (kk : ∀ v : Int32, v = σ.1 a i.toNatClampNeg → (-2147483648) ≤ v.toInt ∧ v.toInt ≤ 2147483647 → zGc rs cs sl d L kd A nL p l e R s m args below meth c Q σ (pc + 1) lv (.int v :: st)) : zGc rs cs sl d L kd A nL p l e R s m args below meth c Q σ pc lv (.int i :: .ref a :: st) := zg_iald X ha rfl h0 h1 hdg (kk _ rfl (zi_get hI ha rfl))
theorem as_20 {own : String} (X : zX d L kd A nL p s m args c cc own) {i x : Int32} (hI : zI κ b L kd σ) (ha : zT L kd a 20) (h0 : 0 ≤ i.toInt) (h1 : i.toInt < 9) (hdg : decode cc pc = .ok (.iastore, 1)) (kk : ∀ σ2 : zS, σ2 = (zu σ.1 a i.toNatClampNeg x, σ.2.1, σ.2.2) → zI κ b L kd σ2 → zGc rs cs sl d L kd A nL p l e R s m args below meth c Q σ2 (pc + 1) lv st) : zGc rs cs sl d L kd A nL p l e R s m args below meth c Q σ pc lv (.int x :: .int i :: .ref a :: st) := zg_iast X ha rfl h0 h1 hdg (fun σ2 h2 => kk σ2 h2 (by rw [h2]; exact zi_puti hI ha rfl (zb_rng _).1 (zb_rng _).2))
theorem ag_21 {own : String} (X : zX d L kd A nL p s m args c cc own) {i : Int32} (hI : zI κ b L kd σ) (ha : zT L kd a 21) (h0 : 0 ≤ i.toInt) (h1 : i.toInt < 32) (hdg : decode cc pc = .ok (.iaload, 1)) (kk : ∀ v : Int32, v = σ.1 a i.toNatClampNeg → (-2147483648) ≤ v.toInt ∧ v.toInt ≤ 2147483647 → zGc rs cs sl d L kd A nL p l e R s m args below meth c Q σ (pc + 1) lv (.int v :: st)) : zGc rs cs sl d L kd A nL p l e R s m args below meth c Q σ pc lv (.int i :: .ref a :: st) := zg_iald X ha rfl h0 h1 hdg (kk _ rfl (zi_get hI ha rfl))
theorem as_21 {own : String} (X : zX d L kd A nL p s m args c cc own) {i x : Int32} (hI : zI κ b L kd σ) (ha : zT L kd a 21) (h0 : 0 ≤ i.toInt) (h1 : i.toInt < 32) (hdg : decode cc pc = .ok (.iastore, 1)) (kk : ∀ σ2 : zS, σ2 = (zu σ.1 a i.toNatClampNeg x, σ.2.1, σ.2.2) → zI κ b L kd σ2 → zGc rs cs sl d L kd A nL p l e R s m args below meth c Q σ2 (pc + 1) lv st) : zGc rs cs sl d L kd A nL p l e R s m args below meth c Q σ pc lv (.int x :: .int i :: .ref a :: st) := zg_iast X ha rfl h0 h1 hdg (fun σ2 h2 => kk σ2 h2 (by rw [h2]; exact zi_puti hI ha rfl (zb_rng _).1 (zb_rng _).2))
theorem ag_22 {own : String} (X : zX d L kd A nL p s m args c cc own) {i : Int32} (hI : zI κ b L kd σ) (ha : zT L kd a 22) (h0 : 0 ≤ i.toInt) (h1 : i.toInt < 12) (hdg : decode cc pc = .ok (.iaload, 1)) (kk : ∀ v : Int32, v = σ.1 a i.toNatClampNeg → 0 ≤ v.toInt ∧ v.toInt ≤ 11 → zGc rs cs sl d L kd A nL p l e R s m args below meth c Q σ (pc + 1) lv (.int v :: st)) : zGc rs cs sl d L kd A nL p l e R s m args below meth c Q σ pc lv (.int i :: .ref a :: st) := zg_iald X ha rfl h0 h1 hdg (kk _ rfl (zi_get hI ha rfl))
theorem as_22 {own : String} (X : zX d L kd A nL p s m args c cc own) {i x : Int32} (hI : zI κ b L kd σ) (ha : zT L kd a 22) (h0 : 0 ≤ i.toInt) (h1 : i.toInt < 12) (h : 0 ≤ x.toInt ∧ x.toInt ≤ 11) (hdg : decode cc pc = .ok (.iastore, 1)) (kk : ∀ σ2 : zS, σ2 = (zu σ.1 a i.toNatClampNeg x, σ.2.1, σ.2.2) → zI κ b L kd σ2 → zGc rs cs sl d L kd A nL p l e R s m args below meth c Q σ2 (pc + 1) lv st) : zGc rs cs sl d L kd A nL p l e R s m args below meth c Q σ pc lv (.int x :: .int i :: .ref a :: st) := zg_iast X ha rfl h0 h1 hdg (fun σ2 h2 => kk σ2 h2 (by rw [h2]; exact zi_puti hI ha rfl h.1 h.2))
theorem ag_23 {own : String} (X : zX d L kd A nL p s m args c cc own) {i : Int32} (hI : zI κ b L kd σ) (ha : zT L kd a 23) (h0 : 0 ≤ i.toInt) (h1 : i.toInt < 12) (hdg : decode cc pc = .ok (.iaload, 1)) (kk : ∀ v : Int32, v = σ.1 a i.toNatClampNeg → (-2147483648) ≤ v.toInt ∧ v.toInt ≤ 2147483647 → zGc rs cs sl d L kd A nL p l e R s m args below meth c Q σ (pc + 1) lv (.int v :: st)) : zGc rs cs sl d L kd A nL p l e R s m args below meth c Q σ pc lv (.int i :: .ref a :: st) := zg_iald X ha rfl h0 h1 hdg (kk _ rfl (zi_get hI ha rfl))
theorem as_23 {own : String} (X : zX d L kd A nL p s m args c cc own) {i x : Int32} (hI : zI κ b L kd σ) (ha : zT L kd a 23) (h0 : 0 ≤ i.toInt) (h1 : i.toInt < 12) (hdg : decode cc pc = .ok (.iastore, 1)) (kk : ∀ σ2 : zS, σ2 = (zu σ.1 a i.toNatClampNeg x, σ.2.1, σ.2.2) → zI κ b L kd σ2 → zGc rs cs sl d L kd A nL p l e R s m args below meth c Q σ2 (pc + 1) lv st) : zGc rs cs sl d L kd A nL p l e R s m args below meth c Q σ pc lv (.int x :: .int i :: .ref a :: st) := zg_iast X ha rfl h0 h1 hdg (fun σ2 h2 => kk σ2 h2 (by rw [h2]; exact zi_puti hI ha rfl (zb_rng _).1 (zb_rng _).2))
theorem ag_24 {own : String} (X : zX d L kd A nL p s m args c cc own) {i : Int32} (hI : zI κ b L kd σ) (ha : zT L kd a 24) (h0 : 0 ≤ i.toInt) (h1 : i.toInt < 12) (hdg : decode cc pc = .ok (.iaload, 1)) (kk : ∀ v : Int32, v = σ.1 a i.toNatClampNeg → (-2147483648) ≤ v.toInt ∧ v.toInt ≤ 2147483647 → zGc rs cs sl d L kd A nL p l e R s m args below meth c Q σ (pc + 1) lv (.int v :: st)) : zGc rs cs sl d L kd A nL p l e R s m args below meth c Q σ pc lv (.int i :: .ref a :: st) := zg_iald X ha rfl h0 h1 hdg (kk _ rfl (zi_get hI ha rfl))
theorem as_24 {own : String} (X : zX d L kd A nL p s m args c cc own) {i x : Int32} (hI : zI κ b L kd σ) (ha : zT L kd a 24) (h0 : 0 ≤ i.toInt) (h1 : i.toInt < 12) (hdg : decode cc pc = .ok (.iastore, 1)) (kk : ∀ σ2 : zS, σ2 = (zu σ.1 a i.toNatClampNeg x, σ.2.1, σ.2.2) → zI κ b L kd σ2 → zGc rs cs sl d L kd A nL p l e R s m args below meth c Q σ2 (pc + 1) lv st) : zGc rs cs sl d L kd A nL p l e R s m args below meth c Q σ pc lv (.int x :: .int i :: .ref a :: st) := zg_iast X ha rfl h0 h1 hdg (fun σ2 h2 => kk σ2 h2 (by rw [h2]; exact zi_puti hI ha rfl (zb_rng _).1 (zb_rng _).2))
theorem ag_25 {own : String} (X : zX d L kd A nL p s m args c cc own) {i : Int32} (hI : zI κ b L kd σ) (ha : zT L kd a 25) (h0 : 0 ≤ i.toInt) (h1 : i.toInt < 20) (hdg : decode cc pc = .ok (.iaload, 1)) (kk : ∀ v : Int32, v = σ.1 a i.toNatClampNeg → 0 ≤ v.toInt ∧ v.toInt ≤ 11 → zGc rs cs sl d L kd A nL p l e R s m args below meth c Q σ (pc + 1) lv (.int v :: st)) : zGc rs cs sl d L kd A nL p l e R s m args below meth c Q σ pc lv (.int i :: .ref a :: st) := zg_iald X ha rfl h0 h1 hdg (kk _ rfl (zi_get hI ha rfl))
theorem as_25 {own : String} (X : zX d L kd A nL p s m args c cc own) {i x : Int32} (hI : zI κ b L kd σ) (ha : zT L kd a 25) (h0 : 0 ≤ i.toInt) (h1 : i.toInt < 20) (h : 0 ≤ x.toInt ∧ x.toInt ≤ 11) (hdg : decode cc pc = .ok (.iastore, 1)) (kk : ∀ σ2 : zS, σ2 = (zu σ.1 a i.toNatClampNeg x, σ.2.1, σ.2.2) → zI κ b L kd σ2 → zGc rs cs sl d L kd A nL p l e R s m args below meth c Q σ2 (pc + 1) lv st) : zGc rs cs sl d L kd A nL p l e R s m args below meth c Q σ pc lv (.int x :: .int i :: .ref a :: st) := zg_iast X ha rfl h0 h1 hdg (fun σ2 h2 => kk σ2 h2 (by rw [h2]; exact zi_puti hI ha rfl h.1 h.2))
theorem ag_26 {own : String} (X : zX d L kd A nL p s m args c cc own) {i : Int32} (hI : zI κ b L kd σ) (ha : zT L kd a 26) (h0 : 0 ≤ i.toInt) (h1 : i.toInt < 20) (hdg : decode cc pc = .ok (.iaload, 1)) (kk : ∀ v : Int32, v = σ.1 a i.toNatClampNeg → (-2147483648) ≤ v.toInt ∧ v.toInt ≤ 2147483647 → zGc rs cs sl d L kd A nL p l e R s m args below meth c Q σ (pc + 1) lv (.int v :: st)) : zGc rs cs sl d L kd A nL p l e R s m args below meth c Q σ pc lv (.int i :: .ref a :: st) := zg_iald X ha rfl h0 h1 hdg (kk _ rfl (zi_get hI ha rfl))
theorem as_26 {own : String} (X : zX d L kd A nL p s m args c cc own) {i x : Int32} (hI : zI κ b L kd σ) (ha : zT L kd a 26) (h0 : 0 ≤ i.toInt) (h1 : i.toInt < 20) (hdg : decode cc pc = .ok (.iastore, 1)) (kk : ∀ σ2 : zS, σ2 = (zu σ.1 a i.toNatClampNeg x, σ.2.1, σ.2.2) → zI κ b L kd σ2 → zGc rs cs sl d L kd A nL p l e R s m args below meth c Q σ2 (pc + 1) lv st) : zGc rs cs sl d L kd A nL p l e R s m args below meth c Q σ pc lv (.int x :: .int i :: .ref a :: st) := zg_iast X ha rfl h0 h1 hdg (fun σ2 h2 => kk σ2 h2 (by rw [h2]; exact zi_puti hI ha rfl (zb_rng _).1 (zb_rng _).2))
theorem ag_27 {own : String} (X : zX d L kd A nL p s m args c cc own) {i : Int32} (hI : zI κ b L kd σ) (ha : zT L kd a 27) (h0 : 0 ≤ i.toInt) (h1 : i.toInt < 20) (hdg : decode cc pc = .ok (.iaload, 1)) (kk : ∀ v : Int32, v = σ.1 a i.toNatClampNeg → (-2147483648) ≤ v.toInt ∧ v.toInt ≤ 2147483647 → zGc rs cs sl d L kd A nL p l e R s m args below meth c Q σ (pc + 1) lv (.int v :: st)) : zGc rs cs sl d L kd A nL p l e R s m args below meth c Q σ pc lv (.int i :: .ref a :: st) := zg_iald X ha rfl h0 h1 hdg (kk _ rfl (zi_get hI ha rfl))
theorem as_27 {own : String} (X : zX d L kd A nL p s m args c cc own) {i x : Int32} (hI : zI κ b L kd σ) (ha : zT L kd a 27) (h0 : 0 ≤ i.toInt) (h1 : i.toInt < 20) (hdg : decode cc pc = .ok (.iastore, 1)) (kk : ∀ σ2 : zS, σ2 = (zu σ.1 a i.toNatClampNeg x, σ.2.1, σ.2.2) → zI κ b L kd σ2 → zGc rs cs sl d L kd A nL p l e R s m args below meth c Q σ2 (pc + 1) lv st) : zGc rs cs sl d L kd A nL p l e R s m args below meth c Q σ pc lv (.int x :: .int i :: .ref a :: st) := zg_iast X ha rfl h0 h1 hdg (fun σ2 h2 => kk σ2 h2 (by rw [h2]; exact zi_puti hI ha rfl (zb_rng _).1 (zb_rng _).2))
theorem ag_28 {own : String} (X : zX d L kd A nL p s m args c cc own) {i : Int32} (hI : zI κ b L kd σ) (ha : zT L kd a 28) (h0 : 0 ≤ i.toInt) (h1 : i.toInt < 20) (hdg : decode cc pc = .ok (.baload, 1)) (kk : ∀ v : Int32, v = σ.1 a i.toNatClampNeg → 0 ≤ v.toInt ∧ v.toInt ≤ 1 → zGc rs cs sl d L kd A nL p l e R s m args below meth c Q σ (pc + 1) lv (.int v :: st)) : zGc rs cs sl d L kd A nL p l e R s m args below meth c Q σ pc lv (.int i :: .ref a :: st) := zg_zald X ha rfl h0 h1 hdg (kk _ rfl (zi_get hI ha rfl))
theorem as_28 {own : String} (X : zX d L kd A nL p s m args c cc own) {i x : Int32} (hI : zI κ b L kd σ) (ha : zT L kd a 28) (h0 : 0 ≤ i.toInt) (h1 : i.toInt < 20) (h : 0 ≤ x.toInt ∧ x.toInt ≤ 1) (hdg : decode cc pc = .ok (.bastore, 1)) (kk : ∀ σ2 : zS, σ2 = (zu σ.1 a i.toNatClampNeg (vp_nar .boolean x), σ.2.1, σ.2.2) → zI κ b L kd σ2 → zGc rs cs sl d L kd A nL p l e R s m args below meth c Q σ2 (pc + 1) lv st) : zGc rs cs sl d L kd A nL p l e R s m args below meth c Q σ pc lv (.int x :: .int i :: .ref a :: st) := zg_zast X ha rfl h0 h1 hdg (fun σ2 h2 => kk σ2 h2 (by rw [h2]; exact zi_puti hI ha rfl (by rw [zb_nz h]; exact h.1) (by rw [zb_nz h]; exact h.2)))
theorem ag_29 {own : String} (X : zX d L kd A nL p s m args c cc own) {i : Int32} (hI : zI κ b L kd σ) (ha : zT L kd a 29) (h0 : 0 ≤ i.toInt) (h1 : i.toInt < 40) (hdg : decode cc pc = .ok (.aaload, 1)) (kk : ∀ y : Nat, σ.2.2 a i.toNatClampNeg = some y → zT L kd y 1 → zGc rs cs sl d L kd A nL p l e R s m args below meth c Q σ (pc + 1) lv (.ref y :: st)) : zGc rs cs sl d L kd A nL p l e R s m args below meth c Q σ pc lv (.int i :: .ref a :: st) := by
  obtain ⟨y, hy, hT⟩ := zi_ref (j := i.toNatClampNeg) hI ha (show zf b 29 _ = some 1 from rfl)
  have q := kk y hy hT
  exact zg_aald X ha rfl h0 h1 hdg (by rw [hy]; exact q)
theorem ag_30 {own : String} (X : zX d L kd A nL p s m args c cc own) {i : Int32} (hI : zI κ b L kd σ) (ha : zT L kd a 30) (h0 : 0 ≤ i.toInt) (h1 : i.toInt < 12) (hdg : decode cc pc = .ok (.iaload, 1)) (kk : ∀ v : Int32, v = σ.1 a i.toNatClampNeg → (-2147483648) ≤ v.toInt ∧ v.toInt ≤ 2147483647 → zGc rs cs sl d L kd A nL p l e R s m args below meth c Q σ (pc + 1) lv (.int v :: st)) : zGc rs cs sl d L kd A nL p l e R s m args below meth c Q σ pc lv (.int i :: .ref a :: st) := zg_iald X ha rfl h0 h1 hdg (kk _ rfl (zi_get hI ha rfl))
theorem as_30 {own : String} (X : zX d L kd A nL p s m args c cc own) {i x : Int32} (hI : zI κ b L kd σ) (ha : zT L kd a 30) (h0 : 0 ≤ i.toInt) (h1 : i.toInt < 12) (hdg : decode cc pc = .ok (.iastore, 1)) (kk : ∀ σ2 : zS, σ2 = (zu σ.1 a i.toNatClampNeg x, σ.2.1, σ.2.2) → zI κ b L kd σ2 → zGc rs cs sl d L kd A nL p l e R s m args below meth c Q σ2 (pc + 1) lv st) : zGc rs cs sl d L kd A nL p l e R s m args below meth c Q σ pc lv (.int x :: .int i :: .ref a :: st) := zg_iast X ha rfl h0 h1 hdg (fun σ2 h2 => kk σ2 h2 (by rw [h2]; exact zi_puti hI ha rfl (zb_rng _).1 (zb_rng _).2))
theorem ag_31 {own : String} (X : zX d L kd A nL p s m args c cc own) {i : Int32} (hI : zI κ b L kd σ) (ha : zT L kd a 31) (h0 : 0 ≤ i.toInt) (h1 : i.toInt < 12) (hdg : decode cc pc = .ok (.iaload, 1)) (kk : ∀ v : Int32, v = σ.1 a i.toNatClampNeg → (-2147483648) ≤ v.toInt ∧ v.toInt ≤ 2147483647 → zGc rs cs sl d L kd A nL p l e R s m args below meth c Q σ (pc + 1) lv (.int v :: st)) : zGc rs cs sl d L kd A nL p l e R s m args below meth c Q σ pc lv (.int i :: .ref a :: st) := zg_iald X ha rfl h0 h1 hdg (kk _ rfl (zi_get hI ha rfl))
theorem as_31 {own : String} (X : zX d L kd A nL p s m args c cc own) {i x : Int32} (hI : zI κ b L kd σ) (ha : zT L kd a 31) (h0 : 0 ≤ i.toInt) (h1 : i.toInt < 12) (hdg : decode cc pc = .ok (.iastore, 1)) (kk : ∀ σ2 : zS, σ2 = (zu σ.1 a i.toNatClampNeg x, σ.2.1, σ.2.2) → zI κ b L kd σ2 → zGc rs cs sl d L kd A nL p l e R s m args below meth c Q σ2 (pc + 1) lv st) : zGc rs cs sl d L kd A nL p l e R s m args below meth c Q σ pc lv (.int x :: .int i :: .ref a :: st) := zg_iast X ha rfl h0 h1 hdg (fun σ2 h2 => kk σ2 h2 (by rw [h2]; exact zi_puti hI ha rfl (zb_rng _).1 (zb_rng _).2))
theorem ag_32 {own : String} (X : zX d L kd A nL p s m args c cc own) {i : Int32} (hI : zI κ b L kd σ) (ha : zT L kd a 32) (h0 : 0 ≤ i.toInt) (h1 : i.toInt < 12) (hdg : decode cc pc = .ok (.iaload, 1)) (kk : ∀ v : Int32, v = σ.1 a i.toNatClampNeg → (-2147483648) ≤ v.toInt ∧ v.toInt ≤ 2147483647 → zGc rs cs sl d L kd A nL p l e R s m args below meth c Q σ (pc + 1) lv (.int v :: st)) : zGc rs cs sl d L kd A nL p l e R s m args below meth c Q σ pc lv (.int i :: .ref a :: st) := zg_iald X ha rfl h0 h1 hdg (kk _ rfl (zi_get hI ha rfl))
theorem as_32 {own : String} (X : zX d L kd A nL p s m args c cc own) {i x : Int32} (hI : zI κ b L kd σ) (ha : zT L kd a 32) (h0 : 0 ≤ i.toInt) (h1 : i.toInt < 12) (hdg : decode cc pc = .ok (.iastore, 1)) (kk : ∀ σ2 : zS, σ2 = (zu σ.1 a i.toNatClampNeg x, σ.2.1, σ.2.2) → zI κ b L kd σ2 → zGc rs cs sl d L kd A nL p l e R s m args below meth c Q σ2 (pc + 1) lv st) : zGc rs cs sl d L kd A nL p l e R s m args below meth c Q σ pc lv (.int x :: .int i :: .ref a :: st) := zg_iast X ha rfl h0 h1 hdg (fun σ2 h2 => kk σ2 h2 (by rw [h2]; exact zi_puti hI ha rfl (zb_rng _).1 (zb_rng _).2))
theorem ag_33 {own : String} (X : zX d L kd A nL p s m args c cc own) {i : Int32} (hI : zI κ b L kd σ) (ha : zT L kd a 33) (h0 : 0 ≤ i.toInt) (h1 : i.toInt < 12) (hdg : decode cc pc = .ok (.iaload, 1)) (kk : ∀ v : Int32, v = σ.1 a i.toNatClampNeg → (-2147483648) ≤ v.toInt ∧ v.toInt ≤ 2147483647 → zGc rs cs sl d L kd A nL p l e R s m args below meth c Q σ (pc + 1) lv (.int v :: st)) : zGc rs cs sl d L kd A nL p l e R s m args below meth c Q σ pc lv (.int i :: .ref a :: st) := zg_iald X ha rfl h0 h1 hdg (kk _ rfl (zi_get hI ha rfl))
theorem as_33 {own : String} (X : zX d L kd A nL p s m args c cc own) {i x : Int32} (hI : zI κ b L kd σ) (ha : zT L kd a 33) (h0 : 0 ≤ i.toInt) (h1 : i.toInt < 12) (hdg : decode cc pc = .ok (.iastore, 1)) (kk : ∀ σ2 : zS, σ2 = (zu σ.1 a i.toNatClampNeg x, σ.2.1, σ.2.2) → zI κ b L kd σ2 → zGc rs cs sl d L kd A nL p l e R s m args below meth c Q σ2 (pc + 1) lv st) : zGc rs cs sl d L kd A nL p l e R s m args below meth c Q σ pc lv (.int x :: .int i :: .ref a :: st) := zg_iast X ha rfl h0 h1 hdg (fun σ2 h2 => kk σ2 h2 (by rw [h2]; exact zi_puti hI ha rfl (zb_rng _).1 (zb_rng _).2))
theorem ag_34 {own : String} (X : zX d L kd A nL p s m args c cc own) {i : Int32} (hI : zI κ b L kd σ) (ha : zT L kd a 34) (h0 : 0 ≤ i.toInt) (h1 : i.toInt < 12) (hdg : decode cc pc = .ok (.iaload, 1)) (kk : ∀ v : Int32, v = σ.1 a i.toNatClampNeg → 0 ≤ v.toInt ∧ v.toInt ≤ 11 → zGc rs cs sl d L kd A nL p l e R s m args below meth c Q σ (pc + 1) lv (.int v :: st)) : zGc rs cs sl d L kd A nL p l e R s m args below meth c Q σ pc lv (.int i :: .ref a :: st) := zg_iald X ha rfl h0 h1 hdg (kk _ rfl (zi_get hI ha rfl))
theorem as_34 {own : String} (X : zX d L kd A nL p s m args c cc own) {i x : Int32} (hI : zI κ b L kd σ) (ha : zT L kd a 34) (h0 : 0 ≤ i.toInt) (h1 : i.toInt < 12) (h : 0 ≤ x.toInt ∧ x.toInt ≤ 11) (hdg : decode cc pc = .ok (.iastore, 1)) (kk : ∀ σ2 : zS, σ2 = (zu σ.1 a i.toNatClampNeg x, σ.2.1, σ.2.2) → zI κ b L kd σ2 → zGc rs cs sl d L kd A nL p l e R s m args below meth c Q σ2 (pc + 1) lv st) : zGc rs cs sl d L kd A nL p l e R s m args below meth c Q σ pc lv (.int x :: .int i :: .ref a :: st) := zg_iast X ha rfl h0 h1 hdg (fun σ2 h2 => kk σ2 h2 (by rw [h2]; exact zi_puti hI ha rfl h.1 h.2))
theorem ag_35 {own : String} (X : zX d L kd A nL p s m args c cc own) {i : Int32} (hI : zI κ b L kd σ) (ha : zT L kd a 35) (h0 : 0 ≤ i.toInt) (h1 : i.toInt < 12) (hdg : decode cc pc = .ok (.iaload, 1)) (kk : ∀ v : Int32, v = σ.1 a i.toNatClampNeg → (-2147483648) ≤ v.toInt ∧ v.toInt ≤ 2147483647 → zGc rs cs sl d L kd A nL p l e R s m args below meth c Q σ (pc + 1) lv (.int v :: st)) : zGc rs cs sl d L kd A nL p l e R s m args below meth c Q σ pc lv (.int i :: .ref a :: st) := zg_iald X ha rfl h0 h1 hdg (kk _ rfl (zi_get hI ha rfl))
theorem as_35 {own : String} (X : zX d L kd A nL p s m args c cc own) {i x : Int32} (hI : zI κ b L kd σ) (ha : zT L kd a 35) (h0 : 0 ≤ i.toInt) (h1 : i.toInt < 12) (hdg : decode cc pc = .ok (.iastore, 1)) (kk : ∀ σ2 : zS, σ2 = (zu σ.1 a i.toNatClampNeg x, σ.2.1, σ.2.2) → zI κ b L kd σ2 → zGc rs cs sl d L kd A nL p l e R s m args below meth c Q σ2 (pc + 1) lv st) : zGc rs cs sl d L kd A nL p l e R s m args below meth c Q σ pc lv (.int x :: .int i :: .ref a :: st) := zg_iast X ha rfl h0 h1 hdg (fun σ2 h2 => kk σ2 h2 (by rw [h2]; exact zi_puti hI ha rfl (zb_rng _).1 (zb_rng _).2))
theorem ag_36 {own : String} (X : zX d L kd A nL p s m args c cc own) {i : Int32} (hI : zI κ b L kd σ) (ha : zT L kd a 36) (h0 : 0 ≤ i.toInt) (h1 : i.toInt < 12) (hdg : decode cc pc = .ok (.iaload, 1)) (kk : ∀ v : Int32, v = σ.1 a i.toNatClampNeg → (-2147483648) ≤ v.toInt ∧ v.toInt ≤ 2147483647 → zGc rs cs sl d L kd A nL p l e R s m args below meth c Q σ (pc + 1) lv (.int v :: st)) : zGc rs cs sl d L kd A nL p l e R s m args below meth c Q σ pc lv (.int i :: .ref a :: st) := zg_iald X ha rfl h0 h1 hdg (kk _ rfl (zi_get hI ha rfl))
theorem as_36 {own : String} (X : zX d L kd A nL p s m args c cc own) {i x : Int32} (hI : zI κ b L kd σ) (ha : zT L kd a 36) (h0 : 0 ≤ i.toInt) (h1 : i.toInt < 12) (hdg : decode cc pc = .ok (.iastore, 1)) (kk : ∀ σ2 : zS, σ2 = (zu σ.1 a i.toNatClampNeg x, σ.2.1, σ.2.2) → zI κ b L kd σ2 → zGc rs cs sl d L kd A nL p l e R s m args below meth c Q σ2 (pc + 1) lv st) : zGc rs cs sl d L kd A nL p l e R s m args below meth c Q σ pc lv (.int x :: .int i :: .ref a :: st) := zg_iast X ha rfl h0 h1 hdg (fun σ2 h2 => kk σ2 h2 (by rw [h2]; exact zi_puti hI ha rfl (zb_rng _).1 (zb_rng _).2))
theorem ag_37 {own : String} (X : zX d L kd A nL p s m args c cc own) {i : Int32} (hI : zI κ b L kd σ) (ha : zT L kd a 37) (h0 : 0 ≤ i.toInt) (h1 : i.toInt < 12) (hdg : decode cc pc = .ok (.iaload, 1)) (kk : ∀ v : Int32, v = σ.1 a i.toNatClampNeg → (-2147483648) ≤ v.toInt ∧ v.toInt ≤ 2147483647 → zGc rs cs sl d L kd A nL p l e R s m args below meth c Q σ (pc + 1) lv (.int v :: st)) : zGc rs cs sl d L kd A nL p l e R s m args below meth c Q σ pc lv (.int i :: .ref a :: st) := zg_iald X ha rfl h0 h1 hdg (kk _ rfl (zi_get hI ha rfl))
theorem as_37 {own : String} (X : zX d L kd A nL p s m args c cc own) {i x : Int32} (hI : zI κ b L kd σ) (ha : zT L kd a 37) (h0 : 0 ≤ i.toInt) (h1 : i.toInt < 12) (hdg : decode cc pc = .ok (.iastore, 1)) (kk : ∀ σ2 : zS, σ2 = (zu σ.1 a i.toNatClampNeg x, σ.2.1, σ.2.2) → zI κ b L kd σ2 → zGc rs cs sl d L kd A nL p l e R s m args below meth c Q σ2 (pc + 1) lv st) : zGc rs cs sl d L kd A nL p l e R s m args below meth c Q σ pc lv (.int x :: .int i :: .ref a :: st) := zg_iast X ha rfl h0 h1 hdg (fun σ2 h2 => kk σ2 h2 (by rw [h2]; exact zi_puti hI ha rfl (zb_rng _).1 (zb_rng _).2))
theorem ag_38 {own : String} (X : zX d L kd A nL p s m args c cc own) {i : Int32} (hI : zI κ b L kd σ) (ha : zT L kd a 38) (h0 : 0 ≤ i.toInt) (h1 : i.toInt < 12) (hdg : decode cc pc = .ok (.iaload, 1)) (kk : ∀ v : Int32, v = σ.1 a i.toNatClampNeg → (-2147483648) ≤ v.toInt ∧ v.toInt ≤ 2147483647 → zGc rs cs sl d L kd A nL p l e R s m args below meth c Q σ (pc + 1) lv (.int v :: st)) : zGc rs cs sl d L kd A nL p l e R s m args below meth c Q σ pc lv (.int i :: .ref a :: st) := zg_iald X ha rfl h0 h1 hdg (kk _ rfl (zi_get hI ha rfl))
theorem as_38 {own : String} (X : zX d L kd A nL p s m args c cc own) {i x : Int32} (hI : zI κ b L kd σ) (ha : zT L kd a 38) (h0 : 0 ≤ i.toInt) (h1 : i.toInt < 12) (hdg : decode cc pc = .ok (.iastore, 1)) (kk : ∀ σ2 : zS, σ2 = (zu σ.1 a i.toNatClampNeg x, σ.2.1, σ.2.2) → zI κ b L kd σ2 → zGc rs cs sl d L kd A nL p l e R s m args below meth c Q σ2 (pc + 1) lv st) : zGc rs cs sl d L kd A nL p l e R s m args below meth c Q σ pc lv (.int x :: .int i :: .ref a :: st) := zg_iast X ha rfl h0 h1 hdg (fun σ2 h2 => kk σ2 h2 (by rw [h2]; exact zi_puti hI ha rfl (zb_rng _).1 (zb_rng _).2))
theorem ag_39 {own : String} (X : zX d L kd A nL p s m args c cc own) {i : Int32} (hI : zI κ b L kd σ) (ha : zT L kd a 39) (h0 : 0 ≤ i.toInt) (h1 : i.toInt < 2000) (hdg : decode cc pc = .ok (.baload, 1)) (kk : ∀ v : Int32, v = σ.1 a i.toNatClampNeg → (-128) ≤ v.toInt ∧ v.toInt ≤ 127 → zGc rs cs sl d L kd A nL p l e R s m args below meth c Q σ (pc + 1) lv (.int v :: st)) : zGc rs cs sl d L kd A nL p l e R s m args below meth c Q σ pc lv (.int i :: .ref a :: st) := zg_bald X ha rfl h0 h1 hdg (kk _ rfl (zi_get hI ha rfl))
theorem as_39 {own : String} (X : zX d L kd A nL p s m args c cc own) {i x : Int32} (hI : zI κ b L kd σ) (ha : zT L kd a 39) (h0 : 0 ≤ i.toInt) (h1 : i.toInt < 2000) (hdg : decode cc pc = .ok (.bastore, 1)) (kk : ∀ σ2 : zS, σ2 = (zu σ.1 a i.toNatClampNeg (vp_nar .byte x), σ.2.1, σ.2.2) → zI κ b L kd σ2 → zGc rs cs sl d L kd A nL p l e R s m args below meth c Q σ2 (pc + 1) lv st) : zGc rs cs sl d L kd A nL p l e R s m args below meth c Q σ pc lv (.int x :: .int i :: .ref a :: st) := zg_bast X ha rfl h0 h1 hdg (fun σ2 h2 => kk σ2 h2 (by rw [h2]; exact zi_puti hI ha rfl (zb_nb _).1 (zb_nb _).2))
theorem ag_40 {own : String} (X : zX d L kd A nL p s m args c cc own) {i : Int32} (ha : zT L kd a 40) (h0 : 0 ≤ i.toInt) (h1 : i.toInt < 22) (hdg : decode cc pc = .ok (.laload, 1)) (kk : ∀ v : Int64, v = σ.2.1 a i.toNatClampNeg → zGc rs cs sl d L kd A nL p l e R s m args below meth c Q σ (pc + 1) lv (.long v :: st)) : zGc rs cs sl d L kd A nL p l e R s m args below meth c Q σ pc lv (.int i :: .ref a :: st) := zg_lald X ha rfl h0 h1 hdg (kk _ rfl)
theorem as_40 {own : String} (X : zX d L kd A nL p s m args c cc own) {i : Int32} {x : Int64} (hI : zI κ b L kd σ) (ha : zT L kd a 40) (h0 : 0 ≤ i.toInt) (h1 : i.toInt < 22) (hdg : decode cc pc = .ok (.lastore, 1)) (kk : ∀ σ2 : zS, σ2 = (σ.1, zu σ.2.1 a i.toNatClampNeg x, σ.2.2) → zI κ b L kd σ2 → zGc rs cs sl d L kd A nL p l e R s m args below meth c Q σ2 (pc + 1) lv st) : zGc rs cs sl d L kd A nL p l e R s m args below meth c Q σ pc lv (.long x :: .int i :: .ref a :: st) := zg_last X ha rfl h0 h1 hdg (fun σ2 h2 => kk σ2 h2 (by rw [h2]; exact zi_putl hI))
theorem ag_41 {own : String} (X : zX d L kd A nL p s m args c cc own) {i : Int32} (hI : zI κ b L kd σ) (ha : zT L kd a 41) (h0 : 0 ≤ i.toInt) (h1 : i.toInt < 402) (hdg : decode cc pc = .ok (.iaload, 1)) (kk : ∀ v : Int32, v = σ.1 a i.toNatClampNeg → (-2147483648) ≤ v.toInt ∧ v.toInt ≤ 2147483647 → zGc rs cs sl d L kd A nL p l e R s m args below meth c Q σ (pc + 1) lv (.int v :: st)) : zGc rs cs sl d L kd A nL p l e R s m args below meth c Q σ pc lv (.int i :: .ref a :: st) := zg_iald X ha rfl h0 h1 hdg (kk _ rfl (zi_get hI ha rfl))
theorem as_41 {own : String} (X : zX d L kd A nL p s m args c cc own) {i x : Int32} (hI : zI κ b L kd σ) (ha : zT L kd a 41) (h0 : 0 ≤ i.toInt) (h1 : i.toInt < 402) (hdg : decode cc pc = .ok (.iastore, 1)) (kk : ∀ σ2 : zS, σ2 = (zu σ.1 a i.toNatClampNeg x, σ.2.1, σ.2.2) → zI κ b L kd σ2 → zGc rs cs sl d L kd A nL p l e R s m args below meth c Q σ2 (pc + 1) lv st) : zGc rs cs sl d L kd A nL p l e R s m args below meth c Q σ pc lv (.int x :: .int i :: .ref a :: st) := zg_iast X ha rfl h0 h1 hdg (fun σ2 h2 => kk σ2 h2 (by rw [h2]; exact zi_puti hI ha rfl (zb_rng _).1 (zb_rng _).2))
theorem ag_42 {own : String} (X : zX d L kd A nL p s m args c cc own) {i : Int32} (ha : zT L kd a 42) (h0 : 0 ≤ i.toInt) (h1 : i.toInt < 402) (hdg : decode cc pc = .ok (.laload, 1)) (kk : ∀ v : Int64, v = σ.2.1 a i.toNatClampNeg → zGc rs cs sl d L kd A nL p l e R s m args below meth c Q σ (pc + 1) lv (.long v :: st)) : zGc rs cs sl d L kd A nL p l e R s m args below meth c Q σ pc lv (.int i :: .ref a :: st) := zg_lald X ha rfl h0 h1 hdg (kk _ rfl)
theorem as_42 {own : String} (X : zX d L kd A nL p s m args c cc own) {i : Int32} {x : Int64} (hI : zI κ b L kd σ) (ha : zT L kd a 42) (h0 : 0 ≤ i.toInt) (h1 : i.toInt < 402) (hdg : decode cc pc = .ok (.lastore, 1)) (kk : ∀ σ2 : zS, σ2 = (σ.1, zu σ.2.1 a i.toNatClampNeg x, σ.2.2) → zI κ b L kd σ2 → zGc rs cs sl d L kd A nL p l e R s m args below meth c Q σ2 (pc + 1) lv st) : zGc rs cs sl d L kd A nL p l e R s m args below meth c Q σ pc lv (.long x :: .int i :: .ref a :: st) := zg_last X ha rfl h0 h1 hdg (fun σ2 h2 => kk σ2 h2 (by rw [h2]; exact zi_putl hI))
theorem ag_43 {own : String} (X : zX d L kd A nL p s m args c cc own) {i : Int32} (hI : zI κ b L kd σ) (ha : zT L kd a 43) (h0 : 0 ≤ i.toInt) (h1 : i.toInt < 402) (hdg : decode cc pc = .ok (.iaload, 1)) (kk : ∀ v : Int32, v = σ.1 a i.toNatClampNeg → (-2147483648) ≤ v.toInt ∧ v.toInt ≤ 2147483647 → zGc rs cs sl d L kd A nL p l e R s m args below meth c Q σ (pc + 1) lv (.int v :: st)) : zGc rs cs sl d L kd A nL p l e R s m args below meth c Q σ pc lv (.int i :: .ref a :: st) := zg_iald X ha rfl h0 h1 hdg (kk _ rfl (zi_get hI ha rfl))
theorem as_43 {own : String} (X : zX d L kd A nL p s m args c cc own) {i x : Int32} (hI : zI κ b L kd σ) (ha : zT L kd a 43) (h0 : 0 ≤ i.toInt) (h1 : i.toInt < 402) (hdg : decode cc pc = .ok (.iastore, 1)) (kk : ∀ σ2 : zS, σ2 = (zu σ.1 a i.toNatClampNeg x, σ.2.1, σ.2.2) → zI κ b L kd σ2 → zGc rs cs sl d L kd A nL p l e R s m args below meth c Q σ2 (pc + 1) lv st) : zGc rs cs sl d L kd A nL p l e R s m args below meth c Q σ pc lv (.int x :: .int i :: .ref a :: st) := zg_iast X ha rfl h0 h1 hdg (fun σ2 h2 => kk σ2 h2 (by rw [h2]; exact zi_puti hI ha rfl (zb_rng _).1 (zb_rng _).2))
theorem ag_44 {own : String} (X : zX d L kd A nL p s m args c cc own) {i : Int32} (ha : zT L kd a 44) (h0 : 0 ≤ i.toInt) (h1 : i.toInt < 12) (hdg : decode cc pc = .ok (.laload, 1)) (kk : ∀ v : Int64, v = σ.2.1 a i.toNatClampNeg → zGc rs cs sl d L kd A nL p l e R s m args below meth c Q σ (pc + 1) lv (.long v :: st)) : zGc rs cs sl d L kd A nL p l e R s m args below meth c Q σ pc lv (.int i :: .ref a :: st) := zg_lald X ha rfl h0 h1 hdg (kk _ rfl)
theorem as_44 {own : String} (X : zX d L kd A nL p s m args c cc own) {i : Int32} {x : Int64} (hI : zI κ b L kd σ) (ha : zT L kd a 44) (h0 : 0 ≤ i.toInt) (h1 : i.toInt < 12) (hdg : decode cc pc = .ok (.lastore, 1)) (kk : ∀ σ2 : zS, σ2 = (σ.1, zu σ.2.1 a i.toNatClampNeg x, σ.2.2) → zI κ b L kd σ2 → zGc rs cs sl d L kd A nL p l e R s m args below meth c Q σ2 (pc + 1) lv st) : zGc rs cs sl d L kd A nL p l e R s m args below meth c Q σ pc lv (.long x :: .int i :: .ref a :: st) := zg_last X ha rfl h0 h1 hdg (fun σ2 h2 => kk σ2 h2 (by rw [h2]; exact zi_putl hI))
theorem ag_45 {own : String} (X : zX d L kd A nL p s m args c cc own) {i : Int32} (hI : zI κ b L kd σ) (ha : zT L kd a 45) (h0 : 0 ≤ i.toInt) (h1 : i.toInt < 12) (hdg : decode cc pc = .ok (.iaload, 1)) (kk : ∀ v : Int32, v = σ.1 a i.toNatClampNeg → 0 ≤ v.toInt ∧ v.toInt ≤ 11 → zGc rs cs sl d L kd A nL p l e R s m args below meth c Q σ (pc + 1) lv (.int v :: st)) : zGc rs cs sl d L kd A nL p l e R s m args below meth c Q σ pc lv (.int i :: .ref a :: st) := zg_iald X ha rfl h0 h1 hdg (kk _ rfl (zi_get hI ha rfl))
theorem as_45 {own : String} (X : zX d L kd A nL p s m args c cc own) {i x : Int32} (hI : zI κ b L kd σ) (ha : zT L kd a 45) (h0 : 0 ≤ i.toInt) (h1 : i.toInt < 12) (h : 0 ≤ x.toInt ∧ x.toInt ≤ 11) (hdg : decode cc pc = .ok (.iastore, 1)) (kk : ∀ σ2 : zS, σ2 = (zu σ.1 a i.toNatClampNeg x, σ.2.1, σ.2.2) → zI κ b L kd σ2 → zGc rs cs sl d L kd A nL p l e R s m args below meth c Q σ2 (pc + 1) lv st) : zGc rs cs sl d L kd A nL p l e R s m args below meth c Q σ pc lv (.int x :: .int i :: .ref a :: st) := zg_iast X ha rfl h0 h1 hdg (fun σ2 h2 => kk σ2 h2 (by rw [h2]; exact zi_puti hI ha rfl h.1 h.2))
theorem ag_46 {own : String} (X : zX d L kd A nL p s m args c cc own) {i : Int32} (hI : zI κ b L kd σ) (ha : zT L kd a 46) (h0 : 0 ≤ i.toInt) (h1 : i.toInt < 12) (hdg : decode cc pc = .ok (.iaload, 1)) (kk : ∀ v : Int32, v = σ.1 a i.toNatClampNeg → (-2147483648) ≤ v.toInt ∧ v.toInt ≤ 2147483647 → zGc rs cs sl d L kd A nL p l e R s m args below meth c Q σ (pc + 1) lv (.int v :: st)) : zGc rs cs sl d L kd A nL p l e R s m args below meth c Q σ pc lv (.int i :: .ref a :: st) := zg_iald X ha rfl h0 h1 hdg (kk _ rfl (zi_get hI ha rfl))
theorem as_46 {own : String} (X : zX d L kd A nL p s m args c cc own) {i x : Int32} (hI : zI κ b L kd σ) (ha : zT L kd a 46) (h0 : 0 ≤ i.toInt) (h1 : i.toInt < 12) (hdg : decode cc pc = .ok (.iastore, 1)) (kk : ∀ σ2 : zS, σ2 = (zu σ.1 a i.toNatClampNeg x, σ.2.1, σ.2.2) → zI κ b L kd σ2 → zGc rs cs sl d L kd A nL p l e R s m args below meth c Q σ2 (pc + 1) lv st) : zGc rs cs sl d L kd A nL p l e R s m args below meth c Q σ pc lv (.int x :: .int i :: .ref a :: st) := zg_iast X ha rfl h0 h1 hdg (fun σ2 h2 => kk σ2 h2 (by rw [h2]; exact zi_puti hI ha rfl (zb_rng _).1 (zb_rng _).2))
theorem ag_47 {own : String} (X : zX d L kd A nL p s m args c cc own) {i : Int32} (hI : zI κ b L kd σ) (ha : zT L kd a 47) (h0 : 0 ≤ i.toInt) (h1 : i.toInt < 12) (hdg : decode cc pc = .ok (.iaload, 1)) (kk : ∀ v : Int32, v = σ.1 a i.toNatClampNeg → (-2147483648) ≤ v.toInt ∧ v.toInt ≤ 2147483647 → zGc rs cs sl d L kd A nL p l e R s m args below meth c Q σ (pc + 1) lv (.int v :: st)) : zGc rs cs sl d L kd A nL p l e R s m args below meth c Q σ pc lv (.int i :: .ref a :: st) := zg_iald X ha rfl h0 h1 hdg (kk _ rfl (zi_get hI ha rfl))
theorem as_47 {own : String} (X : zX d L kd A nL p s m args c cc own) {i x : Int32} (hI : zI κ b L kd σ) (ha : zT L kd a 47) (h0 : 0 ≤ i.toInt) (h1 : i.toInt < 12) (hdg : decode cc pc = .ok (.iastore, 1)) (kk : ∀ σ2 : zS, σ2 = (zu σ.1 a i.toNatClampNeg x, σ.2.1, σ.2.2) → zI κ b L kd σ2 → zGc rs cs sl d L kd A nL p l e R s m args below meth c Q σ2 (pc + 1) lv st) : zGc rs cs sl d L kd A nL p l e R s m args below meth c Q σ pc lv (.int x :: .int i :: .ref a :: st) := zg_iast X ha rfl h0 h1 hdg (fun σ2 h2 => kk σ2 h2 (by rw [h2]; exact zi_puti hI ha rfl (zb_rng _).1 (zb_rng _).2))
theorem ag_48 {own : String} (X : zX d L kd A nL p s m args c cc own) {i : Int32} (hI : zI κ b L kd σ) (ha : zT L kd a 48) (h0 : 0 ≤ i.toInt) (h1 : i.toInt < 12) (hdg : decode cc pc = .ok (.iaload, 1)) (kk : ∀ v : Int32, v = σ.1 a i.toNatClampNeg → (-2147483648) ≤ v.toInt ∧ v.toInt ≤ 2147483647 → zGc rs cs sl d L kd A nL p l e R s m args below meth c Q σ (pc + 1) lv (.int v :: st)) : zGc rs cs sl d L kd A nL p l e R s m args below meth c Q σ pc lv (.int i :: .ref a :: st) := zg_iald X ha rfl h0 h1 hdg (kk _ rfl (zi_get hI ha rfl))
theorem as_48 {own : String} (X : zX d L kd A nL p s m args c cc own) {i x : Int32} (hI : zI κ b L kd σ) (ha : zT L kd a 48) (h0 : 0 ≤ i.toInt) (h1 : i.toInt < 12) (hdg : decode cc pc = .ok (.iastore, 1)) (kk : ∀ σ2 : zS, σ2 = (zu σ.1 a i.toNatClampNeg x, σ.2.1, σ.2.2) → zI κ b L kd σ2 → zGc rs cs sl d L kd A nL p l e R s m args below meth c Q σ2 (pc + 1) lv st) : zGc rs cs sl d L kd A nL p l e R s m args below meth c Q σ pc lv (.int x :: .int i :: .ref a :: st) := zg_iast X ha rfl h0 h1 hdg (fun σ2 h2 => kk σ2 h2 (by rw [h2]; exact zi_puti hI ha rfl (zb_rng _).1 (zb_rng _).2))
theorem ag_49 {own : String} (X : zX d L kd A nL p s m args c cc own) {i : Int32} (hI : zI κ b L kd σ) (ha : zT L kd a 49) (h0 : 0 ≤ i.toInt) (h1 : i.toInt < 420) (hdg : decode cc pc = .ok (.iaload, 1)) (kk : ∀ v : Int32, v = σ.1 a i.toNatClampNeg → (-2147483648) ≤ v.toInt ∧ v.toInt ≤ 2147483647 → zGc rs cs sl d L kd A nL p l e R s m args below meth c Q σ (pc + 1) lv (.int v :: st)) : zGc rs cs sl d L kd A nL p l e R s m args below meth c Q σ pc lv (.int i :: .ref a :: st) := zg_iald X ha rfl h0 h1 hdg (kk _ rfl (zi_get hI ha rfl))
theorem as_49 {own : String} (X : zX d L kd A nL p s m args c cc own) {i x : Int32} (hI : zI κ b L kd σ) (ha : zT L kd a 49) (h0 : 0 ≤ i.toInt) (h1 : i.toInt < 420) (hdg : decode cc pc = .ok (.iastore, 1)) (kk : ∀ σ2 : zS, σ2 = (zu σ.1 a i.toNatClampNeg x, σ.2.1, σ.2.2) → zI κ b L kd σ2 → zGc rs cs sl d L kd A nL p l e R s m args below meth c Q σ2 (pc + 1) lv st) : zGc rs cs sl d L kd A nL p l e R s m args below meth c Q σ pc lv (.int x :: .int i :: .ref a :: st) := zg_iast X ha rfl h0 h1 hdg (fun σ2 h2 => kk σ2 h2 (by rw [h2]; exact zi_puti hI ha rfl (zb_rng _).1 (zb_rng _).2))
theorem ag_50 {own : String} (X : zX d L kd A nL p s m args c cc own) {i : Int32} (hI : zI κ b L kd σ) (ha : zT L kd a 50) (h0 : 0 ≤ i.toInt) (h1 : i.toInt < 420) (hdg : decode cc pc = .ok (.iaload, 1)) (kk : ∀ v : Int32, v = σ.1 a i.toNatClampNeg → (-2147483648) ≤ v.toInt ∧ v.toInt ≤ 2147483647 → zGc rs cs sl d L kd A nL p l e R s m args below meth c Q σ (pc + 1) lv (.int v :: st)) : zGc rs cs sl d L kd A nL p l e R s m args below meth c Q σ pc lv (.int i :: .ref a :: st) := zg_iald X ha rfl h0 h1 hdg (kk _ rfl (zi_get hI ha rfl))
theorem as_50 {own : String} (X : zX d L kd A nL p s m args c cc own) {i x : Int32} (hI : zI κ b L kd σ) (ha : zT L kd a 50) (h0 : 0 ≤ i.toInt) (h1 : i.toInt < 420) (hdg : decode cc pc = .ok (.iastore, 1)) (kk : ∀ σ2 : zS, σ2 = (zu σ.1 a i.toNatClampNeg x, σ.2.1, σ.2.2) → zI κ b L kd σ2 → zGc rs cs sl d L kd A nL p l e R s m args below meth c Q σ2 (pc + 1) lv st) : zGc rs cs sl d L kd A nL p l e R s m args below meth c Q σ pc lv (.int x :: .int i :: .ref a :: st) := zg_iast X ha rfl h0 h1 hdg (fun σ2 h2 => kk σ2 h2 (by rw [h2]; exact zi_puti hI ha rfl (zb_rng _).1 (zb_rng _).2))
theorem ag_51 {own : String} (X : zX d L kd A nL p s m args c cc own) {i : Int32} (hI : zI κ b L kd σ) (ha : zT L kd a 51) (h0 : 0 ≤ i.toInt) (h1 : i.toInt < 5) (hdg : decode cc pc = .ok (.iaload, 1)) (kk : ∀ v : Int32, v = σ.1 a i.toNatClampNeg → (-2147483648) ≤ v.toInt ∧ v.toInt ≤ 2147483647 → zGc rs cs sl d L kd A nL p l e R s m args below meth c Q σ (pc + 1) lv (.int v :: st)) : zGc rs cs sl d L kd A nL p l e R s m args below meth c Q σ pc lv (.int i :: .ref a :: st) := zg_iald X ha rfl h0 h1 hdg (kk _ rfl (zi_get hI ha rfl))
theorem as_51 {own : String} (X : zX d L kd A nL p s m args c cc own) {i x : Int32} (hI : zI κ b L kd σ) (ha : zT L kd a 51) (h0 : 0 ≤ i.toInt) (h1 : i.toInt < 5) (hdg : decode cc pc = .ok (.iastore, 1)) (kk : ∀ σ2 : zS, σ2 = (zu σ.1 a i.toNatClampNeg x, σ.2.1, σ.2.2) → zI κ b L kd σ2 → zGc rs cs sl d L kd A nL p l e R s m args below meth c Q σ2 (pc + 1) lv st) : zGc rs cs sl d L kd A nL p l e R s m args below meth c Q σ pc lv (.int x :: .int i :: .ref a :: st) := zg_iast X ha rfl h0 h1 hdg (fun σ2 h2 => kk σ2 h2 (by rw [h2]; exact zi_puti hI ha rfl (zb_rng _).1 (zb_rng _).2))
theorem ag_52 {own : String} (X : zX d L kd A nL p s m args c cc own) {i : Int32} (hI : zI κ b L kd σ) (ha : zT L kd a 52) (h0 : 0 ≤ i.toInt) (h1 : i.toInt < 3) (hdg : decode cc pc = .ok (.aaload, 1)) (kk : ∀ y : Nat, σ.2.2 a i.toNatClampNeg = some y → zT L kd y 1 → zGc rs cs sl d L kd A nL p l e R s m args below meth c Q σ (pc + 1) lv (.ref y :: st)) : zGc rs cs sl d L kd A nL p l e R s m args below meth c Q σ pc lv (.int i :: .ref a :: st) := by
  obtain ⟨y, hy, hT⟩ := zi_ref (j := i.toNatClampNeg) hI ha (show zf b 52 _ = some 1 from rfl)
  have q := kk y hy hT
  exact zg_aald X ha rfl h0 h1 hdg (by rw [hy]; exact q)
theorem ag_53 {own : String} (X : zX d L kd A nL p s m args c cc own) {i : Int32} (hI : zI κ b L kd σ) (ha : zT L kd a 53) (h0 : 0 ≤ i.toInt) (h1 : i.toInt < 12) (hdg : decode cc pc = .ok (.iaload, 1)) (kk : ∀ v : Int32, v = σ.1 a i.toNatClampNeg → (-2147483648) ≤ v.toInt ∧ v.toInt ≤ 2147483647 → zGc rs cs sl d L kd A nL p l e R s m args below meth c Q σ (pc + 1) lv (.int v :: st)) : zGc rs cs sl d L kd A nL p l e R s m args below meth c Q σ pc lv (.int i :: .ref a :: st) := zg_iald X ha rfl h0 h1 hdg (kk _ rfl (zi_get hI ha rfl))
theorem as_53 {own : String} (X : zX d L kd A nL p s m args c cc own) {i x : Int32} (hI : zI κ b L kd σ) (ha : zT L kd a 53) (h0 : 0 ≤ i.toInt) (h1 : i.toInt < 12) (hdg : decode cc pc = .ok (.iastore, 1)) (kk : ∀ σ2 : zS, σ2 = (zu σ.1 a i.toNatClampNeg x, σ.2.1, σ.2.2) → zI κ b L kd σ2 → zGc rs cs sl d L kd A nL p l e R s m args below meth c Q σ2 (pc + 1) lv st) : zGc rs cs sl d L kd A nL p l e R s m args below meth c Q σ pc lv (.int x :: .int i :: .ref a :: st) := zg_iast X ha rfl h0 h1 hdg (fun σ2 h2 => kk σ2 h2 (by rw [h2]; exact zi_puti hI ha rfl (zb_rng _).1 (zb_rng _).2))
end ZLINKS
