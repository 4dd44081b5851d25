theorem dL_law_1277 : decode cL_law 1277 = .ok (.aload_n 1, 1) := by decide +kernel
theorem dL_law_1278 : decode cL_law 1278 = .ok (.aload_n 0, 1) := by decide +kernel
theorem dL_law_1279 : decode cL_law 1279 = .ok (.iload_n 3, 1) := by decide +kernel
theorem dL_law_1280 : decode cL_law 1280 = .ok (.iconst 1, 1) := by decide +kernel
theorem dL_law_1281 : decode cL_law 1281 = .ok (.iadd, 1) := by decide +kernel
theorem dL_law_1282 : decode cL_law 1282 = .ok (.iaload, 1) := by decide +kernel
theorem dL_law_1283 : decode cL_law 1283 = .ok (.aload_n 0, 1) := by decide +kernel
theorem dL_law_1284 : decode cL_law 1284 = .ok (.iload_n 3, 1) := by decide +kernel
theorem dL_law_1285 : decode cL_law 1285 = .ok (.iconst 2, 1) := by decide +kernel
theorem dL_law_1286 : decode cL_law 1286 = .ok (.iadd, 1) := by decide +kernel
theorem dL_law_1287 : decode cL_law 1287 = .ok (.iaload, 1) := by decide +kernel
theorem dL_law_1288 : decode cL_law 1288 = .ok (.aload_n 0, 1) := by decide +kernel
theorem dL_law_1289 : decode cL_law 1289 = .ok (.iload_n 3, 1) := by decide +kernel
theorem dL_law_1290 : decode cL_law 1290 = .ok (.iconst 3, 1) := by decide +kernel
theorem dL_law_1291 : decode cL_law 1291 = .ok (.iadd, 1) := by decide +kernel
theorem dL_law_1292 : decode cL_law 1292 = .ok (.iaload, 1) := by decide +kernel
theorem dL_law_1293 : decode cL_law 1293 = .ok (.aload_n 0, 1) := by decide +kernel
theorem dL_law_1294 : decode cL_law 1294 = .ok (.iload_n 3, 1) := by decide +kernel
theorem dL_law_1295 : decode cL_law 1295 = .ok (.iconst 4, 1) := by decide +kernel
theorem dL_law_1296 : decode cL_law 1296 = .ok (.iadd, 1) := by decide +kernel
theorem dL_law_1297 : decode cL_law 1297 = .ok (.iaload, 1) := by decide +kernel
theorem dL_law_1298 : decode cL_law 1298 = .ok (.aload_n 0, 1) := by decide +kernel
theorem dL_law_1299 : decode cL_law 1299 = .ok (.iload_n 3, 1) := by decide +kernel
theorem dL_law_1300 : decode cL_law 1300 = .ok (.iconst 5, 1) := by decide +kernel
theorem dL_law_1301 : decode cL_law 1301 = .ok (.iadd, 1) := by decide +kernel
theorem dL_law_1302 : decode cL_law 1302 = .ok (.iaload, 1) := by decide +kernel
theorem dL_law_1303 : decode cL_law 1303 = .ok (.invokevirtual 176, 3) := by decide +kernel
theorem dL_law_1306 : decode cL_law 1306 = .ok (.aload_n 2, 1) := by decide +kernel
theorem dL_law_1307 : decode cL_law 1307 = .ok (.aload_n 0, 1) := by decide +kernel
theorem dL_law_1308 : decode cL_law 1308 = .ok (.iload_n 3, 1) := by decide +kernel
theorem dL_law_1309 : decode cL_law 1309 = .ok (.iconst 1, 1) := by decide +kernel
theorem dL_law_1310 : decode cL_law 1310 = .ok (.iadd, 1) := by decide +kernel
theorem dL_law_1311 : decode cL_law 1311 = .ok (.iaload, 1) := by decide +kernel
theorem dL_law_1312 : decode cL_law 1312 = .ok (.aload_n 0, 1) := by decide +kernel
theorem dL_law_1313 : decode cL_law 1313 = .ok (.iload_n 3, 1) := by decide +kernel
theorem dL_law_1314 : decode cL_law 1314 = .ok (.iconst 2, 1) := by decide +kernel
theorem dL_law_1315 : decode cL_law 1315 = .ok (.iadd, 1) := by decide +kernel
theorem dL_law_1316 : decode cL_law 1316 = .ok (.iaload, 1) := by decide +kernel
theorem dL_law_1317 : decode cL_law 1317 = .ok (.aload_n 0, 1) := by decide +kernel
theorem dL_law_1318 : decode cL_law 1318 = .ok (.iload_n 3, 1) := by decide +kernel
theorem dL_law_1319 : decode cL_law 1319 = .ok (.iconst 3, 1) := by decide +kernel
theorem dL_law_1320 : decode cL_law 1320 = .ok (.iadd, 1) := by decide +kernel
theorem dL_law_1321 : decode cL_law 1321 = .ok (.iaload, 1) := by decide +kernel
theorem dL_law_1322 : decode cL_law 1322 = .ok (.aload_n 0, 1) := by decide +kernel
theorem dL_law_1323 : decode cL_law 1323 = .ok (.iload_n 3, 1) := by decide +kernel
theorem dL_law_1324 : decode cL_law 1324 = .ok (.iconst 4, 1) := by decide +kernel
theorem dL_law_1325 : decode cL_law 1325 = .ok (.iadd, 1) := by decide +kernel
theorem dL_law_1326 : decode cL_law 1326 = .ok (.iaload, 1) := by decide +kernel
theorem dL_law_1327 : decode cL_law 1327 = .ok (.aload_n 0, 1) := by decide +kernel
theorem dL_law_1328 : decode cL_law 1328 = .ok (.iload_n 3, 1) := by decide +kernel
theorem dL_law_1329 : decode cL_law 1329 = .ok (.iconst 5, 1) := by decide +kernel
theorem dL_law_1330 : decode cL_law 1330 = .ok (.iadd, 1) := by decide +kernel
theorem dL_law_1331 : decode cL_law 1331 = .ok (.iaload, 1) := by decide +kernel
theorem dL_law_1332 : decode cL_law 1332 = .ok (.invokevirtual 179, 3) := by decide +kernel
theorem dL_law_1335 : decode cL_law 1335 = .ok (.if_icmp .eq 5, 3) := by decide +kernel
set_option maxHeartbeats 8000000 in
set_option maxRecDepth 100000 in
theorem zl_case_38 {p : Program} {e : Env} {s : State} {m : MethodId} {below : List Frame} {meth : Method} {c : Code} (l : Launch) {b : Nat} {xs : Nat → Int32} (C0 : lw_At p s m meth c b 6 xs) (D : va_G) (y : Nat → ClassId) (a0 : Nat) (a1 : Nat) (w2 : Value) (w3 : Value) (w4 : Value) (w5 : Value) (w6 : Value) (w7 : Value) (w8 : Value) (w9 : Value) (a10 : Nat) (w11 : Value) (w12 : Value) (w13 : Value) (w14 : Value) (w15 : Value) (w16 : Value) (w17 : Value) (w18 : Value) (w19 : Value) (w20 : Value) (w21 : Value) (w22 : Value) (w23 : Value) (w24 : Value) (w25 : Value) (w26 : Value) (w27 : Value) (w28 : Value) (w29 : Value) (w30 : Value) (w31 : Value) (w32 : Value) (w33 : Value) (w34 : Value) (w35 : Value) (w36 : Value) (w37 : Value) (w38 : Value) (w39 : Value) (w40 : Value) (w41 : Value) (w42 : Value) (w43 : Value) (w44 : Value) (w45 : Value) (w46 : Value) (w47 : Value) (w48 : Value) (w49 : Value) (w50 : Value) (w51 : Value) (w52 : Value) (w53 : Value) (w54 : Value) (w55 : Value) (w56 : Value) (w57 : Value) (w58 : Value) (w59 : Value) (w60 : Value) (w61 : Value) (w62 : Value) (w63 : Value) (w64 : Value) (w65 : Value) (w66 : Value) (w67 : Value) (w68 : Value) (w69 : Value) (w70 : Value) (w71 : Value) (w72 : Value) (w73 : Value) (w74 : Value) (w75 : Value) (w76 : Value) (w77 : Value) (w78 : Value) (w79 : Value) (w80 : Value) (w81 : Value) (w82 : Value) (a83 : Nat) (w84 : Value) (w85 : Value) (w86 : Value) (a87 : Nat) (a88 : Nat) (a89 : Nat) (a90 : Nat) (a91 : Nat) (a92 : Nat) (w93 : Value) (w94 : Value) (w95 : Value) (w96 : Value) (w97 : Value) (w98 : Value) (w99 : Value) (w100 : Value) (w101 : Value) (w102 : Value) (w103 : Value) (w104 : Value) (hK : zK D y s) (hE : zE y (fun q : Nat => s.heap.size ≤ q) s s.heap) {H : Heap} {locs : List Loc} {ls : Array Slot} (hS : va_S (fun q : Nat => s.heap.size ≤ q) s.heap H locs) (hW : zPD D (fun q : Nat => s.heap.size ≤ q) [(a0, .inr (8, [w2, w3, w4, w5, w6, w7, w8, w9, .ref a10])), (a1, .inr (9, [w11, w12, w13, w14, w15, w16, w17, w18, w19, w20, w21, w22, w23, w24, w25, w26, w27, w28, w29, w30, w31, w32, w33, w34, w35, w36, w37, w38, w39, w40, w41, w42, w43, w44, w45, w46, w47, w48, w49, w50, w51, w52, w53, w54, w55, w56, w57, w58, w59, w60, w61, w62, w63, w64, w65, w66, w67, w68, w69, w70, w71, w72, w73, w74, w75, w76, w77, w78, w79, w80, w81, w82, .ref a83, w84, w85, w86])), (a10, .inl (y 5, 6, .inr (.inr (.inr (.inr (va_up (va_up (va_up (va_up (va_up (va_up (fun _ => none) 0 (some a87)) 1 (some a88)) 2 (some a89)) 3 (some a90)) 4 (some a91)) 5 (some a92))))))), (a83, .inl (y 0, 6, .inl (upd (upd (upd (upd (upd (upd (fun _ => 0) 0 (-1)) 1 (-1)) 2 (-1)) 3 (-1)) 4 (-1)) 5 (-1)))), (a87, .inr (7, [.int (-1), w93, w94])), (a88, .inr (7, [.int (-1), w95, w96])), (a89, .inr (7, [.int (-1), w97, w98])), (a90, .inr (7, [.int (-1), w99, w100])), (a91, .inr (7, [.int (-1), w101, w102])), (a92, .inr (7, [.int (-1), w103, w104]))] H) (hl : lv_has ls 4 [(3, .int 0), (2, .ref a1), (1, .ref a0), (0, .ref b)]) : W p l e room_1 s m #[Value.ref b] below meth c H locs 1000 20000 (lw_Z below #[Value.ref b] s) (F0 m 1277 ls []) := by
  obtain ⟨hx, hb, hr, hml, hown, hts, hX, hbl, hlocks, hgv⟩ := id C0
  have ht : ∀ w ∈ zT, w.before #[Value.ref b] s = true := fun w h => hts w (zgin w h).1
  have hown : s.vm.findClass RL = some m.cls := hown
  have hA : ∀ q : Nat, s.heap.size ≤ q → (fun q : Nat => s.heap.size ≤ q) q := fun _ h => h
  have hbA : ¬ (fun q : Nat => s.heap.size ≤ q) b := Nat.not_le.mpr hbl
  refine lv_aload_n hx hb dL_law_1277 rfl (lv_at hl 2 rfl) ?_
  refine lv_aload_n hx hb dL_law_1278 rfl (lv_at hl 3 rfl) ?_
  refine lv_iload_n hx hb dL_law_1279 rfl (lv_at hl 0 rfl) ?_
  refine lv_iconst (v := 1) hx hb dL_law_1280 (by decide) ?_
  refine lv_iadd hx hb dL_law_1281 ?_
  refine ztop (w := .int 1) (congrArg Value.int (by decide)) ?_
  refine va_sld hx hb hX hbl hbA hS (by unfold vp_in; decide) dL_law_1282 ?_
  refine ztop (w := .int (xs 1)) rfl ?_
  refine lv_aload_n hx hb dL_law_1283 rfl (lv_at hl 3 rfl) ?_
  refine lv_iload_n hx hb dL_law_1284 rfl (lv_at hl 0 rfl) ?_
  refine lv_iconst (v := 2) hx hb dL_law_1285 (by decide) ?_
  refine lv_iadd hx hb dL_law_1286 ?_
  refine ztop (w := .int 2) (congrArg Value.int (by decide)) ?_
  refine va_sld hx hb hX hbl hbA hS (by unfold vp_in; decide) dL_law_1287 ?_
  refine ztop (w := .int (xs 2)) rfl ?_
  refine lv_aload_n hx hb dL_law_1288 rfl (lv_at hl 3 rfl) ?_
  refine lv_iload_n hx hb dL_law_1289 rfl (lv_at hl 0 rfl) ?_
  refine lv_iconst (v := 3) hx hb dL_law_1290 (by decide) ?_
  refine lv_iadd hx hb dL_law_1291 ?_
  refine ztop (w := .int 3) (congrArg Value.int (by decide)) ?_
  refine va_sld hx hb hX hbl hbA hS (by unfold vp_in; decide) dL_law_1292 ?_
  refine ztop (w := .int (xs 3)) rfl ?_
  refine lv_aload_n hx hb dL_law_1293 rfl (lv_at hl 3 rfl) ?_
  refine lv_iload_n hx hb dL_law_1294 rfl (lv_at hl 0 rfl) ?_
  refine lv_iconst (v := 4) hx hb dL_law_1295 (by decide) ?_
  refine lv_iadd hx hb dL_law_1296 ?_
  refine ztop (w := .int 4) (congrArg Value.int (by decide)) ?_
  refine va_sld hx hb hX hbl hbA hS (by unfold vp_in; decide) dL_law_1297 ?_
  refine ztop (w := .int (xs 4)) rfl ?_
  refine lv_aload_n hx hb dL_law_1298 rfl (lv_at hl 3 rfl) ?_
  refine lv_iload_n hx hb dL_law_1299 rfl (lv_at hl 0 rfl) ?_
  refine lv_iconst (v := 5) hx hb dL_law_1300 (by decide) ?_
  refine lv_iadd hx hb dL_law_1301 ?_
  refine ztop (w := .int 5) (congrArg Value.int (by decide)) ?_
  refine va_sld hx hb hX hbl hbA hS (by unfold vp_in; decide) dL_law_1302 ?_
  refine ztop (w := .int (xs 5)) rfl ?_
  refine zgo_i (wr := [(a1, .inr (9, [w11, w12, w13, w14, w15, w16, w17, w18, w19, w20, w21, w22, w23, w24, w25, w26, w27, w28, w29, w30, w31, w32, w33, w34, w35, w36, w37, w38, w39, w40, w41, w42, w43, w44, w45, w46, w47, w48, w49, w50, w51, w52, w53, w54, w55, w56, w57, w58, w59, w60, w61, w62, w63, w64, w65, w66, w67, w68, w69, w70, w71, w72, w73, w74, w75, w76, w77, w78, w79, w80, w81, w82, .ref a83, w84, w85, w86])), (a83, .inl (y 0, 6, .inl (upd (upd (upd (upd (upd (upd (fun _ => 0) 0 (-1)) 1 (-1)) 2 (-1)) 3 (-1)) 4 (-1)) 5 (-1))))]) (zrunV (As := [.int (xs 1), .int (xs 2), .int (xs 3), .int (xs 4), .int (xs 5)]) (rest := []) ⟨hx, hb, hml, hown, ht⟩ (zc_X9_shift_0 l D y a0 (xs 1) (xs 2) (xs 3) (xs 4) (xs 5) w2 w3 w4 w5 w6 w7 w8 w9 a10 a87 a88 a89 a90 a91 a92 w93 w94 w95 w96 w97 w98 w99 w100 w101 w102 w103 w104) (cwV 5 ht (zgV zm_1265 zm_1266 zm_1267 zm_2 zm_1268) rfl rfl rfl (by decide +kernel) ⟨(Nat.le_of_ble_eq_true rfl), (Nat.le_of_ble_eq_true rfl)⟩) hK hE hS hA hW [0, 2, 4, 5, 6, 7, 8, 9] (by decide) rfl 0 rfl rfl rfl rfl hl.1 rfl (Nat.le_of_ble_eq_true rfl) dL_law_1303 (Nat.le_of_ble_eq_true rfl) (Nat.le_of_ble_eq_true rfl)) hS hA hW [0, 2, 4, 5, 6, 7, 8, 9] [1, 3] rfl rfl (by decide) (by decide) (fun r1_ u H locs hw hW hS => ?_)
  have hW : zPD D _ [(a1, .inr (9, [w11, w12, w13, w14, w15, w16, w17, w18, w19, w20, w21, w22, w23, w24, w25, w26, w27, w28, w29, w30, w31, w32, w33, w34, w35, w36, w37, w38, w39, w40, w41, w42, w43, w44, w45, w46, w47, w48, w49, w50, w51, w52, w53, w54, w55, w56, w57, w58, w59, w60, w61, w62, w63, w64, w65, w66, w67, w68, w69, w70, w71, w72, w73, w74, w75, w76, w77, w78, w79, w80, w81, w82, .ref a83, w84, w85, w86])), (a83, .inl (y 0, 6, .inl (upd (upd (upd (upd (upd (upd (fun _ => 0) 0 (-1)) 1 (-1)) 2 (-1)) 3 (-1)) 4 (-1)) 5 (-1))))] H := hW
  have hw : r1_ = (if (xs 1) < 0 then (-1) else (if 5 < (xs 1) then (-1) else (if (xs 3) < 0 then (-1) else (if 5 < (xs 3) then (-1) else (-11))))) := hw
  by_cases c2_ : (xs 1) < 0
  · have b3_ : (-2147483648) ≤ Int32.toInt (xs 1) ∧ Int32.toInt (xs 1) ≤ (-1) := (by have u0 := zbnd (xs 1); have u1 := (zi_lt _ _).mp c2_; have u2 : (0 : Int32).toInt = 0 := (by decide); omega)
    rw [if_pos c2_] at hw
    subst hw
    refine lv_aload_n hx hb dL_law_1306 rfl (lv_at hl 1 rfl) ?_
    refine lv_aload_n hx hb dL_law_1307 rfl (lv_at hl 3 rfl) ?_
    refine lv_iload_n hx hb dL_law_1308 rfl (lv_at hl 0 rfl) ?_
    refine lv_iconst (v := 1) hx hb dL_law_1309 (by decide) ?_
    refine lv_iadd hx hb dL_law_1310 ?_
    refine ztop (w := .int 1) (congrArg Value.int (by decide)) ?_
    refine va_sld hx hb hX hbl hbA hS (by unfold vp_in; decide) dL_law_1311 ?_
    refine ztop (w := .int (xs 1)) rfl ?_
    refine lv_aload_n hx hb dL_law_1312 rfl (lv_at hl 3 rfl) ?_
    refine lv_iload_n hx hb dL_law_1313 rfl (lv_at hl 0 rfl) ?_
    refine lv_iconst (v := 2) hx hb dL_law_1314 (by decide) ?_
    refine lv_iadd hx hb dL_law_1315 ?_
    refine ztop (w := .int 2) (congrArg Value.int (by decide)) ?_
    refine va_sld hx hb hX hbl hbA hS (by unfold vp_in; decide) dL_law_1316 ?_
    refine ztop (w := .int (xs 2)) rfl ?_
    refine lv_aload_n hx hb dL_law_1317 rfl (lv_at hl 3 rfl) ?_
    refine lv_iload_n hx hb dL_law_1318 rfl (lv_at hl 0 rfl) ?_
    refine lv_iconst (v := 3) hx hb dL_law_1319 (by decide) ?_
    refine lv_iadd hx hb dL_law_1320 ?_
    refine ztop (w := .int 3) (congrArg Value.int (by decide)) ?_
    refine va_sld hx hb hX hbl hbA hS (by unfold vp_in; decide) dL_law_1321 ?_
    refine ztop (w := .int (xs 3)) rfl ?_
    refine lv_aload_n hx hb dL_law_1322 rfl (lv_at hl 3 rfl) ?_
    refine lv_iload_n hx hb dL_law_1323 rfl (lv_at hl 0 rfl) ?_
    refine lv_iconst (v := 4) hx hb dL_law_1324 (by decide) ?_
    refine lv_iadd hx hb dL_law_1325 ?_
    refine ztop (w := .int 4) (congrArg Value.int (by decide)) ?_
    refine va_sld hx hb hX hbl hbA hS (by unfold vp_in; decide) dL_law_1326 ?_
    refine ztop (w := .int (xs 4)) rfl ?_
    refine lv_aload_n hx hb dL_law_1327 rfl (lv_at hl 3 rfl) ?_
    refine lv_iload_n hx hb dL_law_1328 rfl (lv_at hl 0 rfl) ?_
    refine lv_iconst (v := 5) hx hb dL_law_1329 (by decide) ?_
    refine lv_iadd hx hb dL_law_1330 ?_
    refine ztop (w := .int 5) (congrArg Value.int (by decide)) ?_
    refine va_sld hx hb hX hbl hbA hS (by unfold vp_in; decide) dL_law_1331 ?_
    refine ztop (w := .int (xs 5)) rfl ?_
    refine zgo_i (wr := []) (zrunV (As := [.int (xs 1), .int (xs 2), .int (xs 3), .int (xs 4), .int (xs 5)]) (rest := [.int (-1)]) ⟨hx, hb, hml, hown, ht⟩ (zc_X10_shift_0 l D y a1 (xs 1) (xs 2) (xs 3) (xs 4) (xs 5) w11 w12 w13 w14 w15 w16 w17 w18 w19 w20 w21 w22 w23 w24 w25 w26 w27 w28 w29 w30 w31 w32 w33 w34 w35 w36 w37 w38 w39 w40 w41 w42 w43 w44 w45 w46 w47 w48 w49 w50 w51 w52 w53 w54 w55 w56 w57 w58 w59 w60 w61 w62 w63 w64 w65 w66 w67 w68 w69 w70 w71 w72 w73 w74 w75 w76 w77 w78 w79 w80 w81 w82 a83 w84 w85 w86) (cwV 5 ht (zgV zm_1274 zm_1275 zm_1276 zm_5 zm_1277) rfl rfl rfl (by decide +kernel) ⟨(Nat.le_of_ble_eq_true rfl), (Nat.le_of_ble_eq_true rfl)⟩) hK hE hS hA hW [0, 1] (by decide) rfl 0 rfl rfl rfl rfl hl.1 rfl (Nat.le_of_ble_eq_true rfl) dL_law_1332 (Nat.le_of_ble_eq_true rfl) (Nat.le_of_ble_eq_true rfl)) hS hA hW [0, 1] [] rfl rfl (by decide) (by decide) (fun r4_ u H locs hw hW hS => ?_)
    have hW : zPD D _ [] H := hW
    have hw : r4_ = (if (xs 1) < 0 then (-1) else (if 5 < (xs 1) then (-1) else (if (xs 3) < 0 then (-1) else (if 5 < (xs 3) then (-1) else (-11))))) := hw
    rw [if_pos c2_] at hw
    subst hw
    refine lv_icmp_eq (tgt := 1340) hx hb dL_law_1335 (by decide) (fun c5_ => ?_) (fun c5_ => absurd (by decide) c5_)
    exact zl_end l C0 hS (lv_sub hl [0, 3] rfl)
  · have b6_ : 0 ≤ Int32.toInt (xs 1) ∧ Int32.toInt (xs 1) ≤ 2147483647 := (by have u0 := zbnd (xs 1); have u1 := (not_congr (zi_lt _ _)).mp c2_; have u2 : (0 : Int32).toInt = 0 := (by decide); omega)
    rw [if_neg c2_] at hw
    by_cases c7_ : 5 < (xs 1)
    · have b8_ : 6 ≤ Int32.toInt (xs 1) ∧ Int32.toInt (xs 1) ≤ 2147483647 := (by have u0 := b6_; have u1 := (zi_lt _ _).mp c7_; have u2 : (5 : Int32).toInt = 5 := (by decide); omega)
      rw [if_pos c7_] at hw
      subst hw
      refine lv_aload_n hx hb dL_law_1306 rfl (lv_at hl 1 rfl) ?_
      refine lv_aload_n hx hb dL_law_1307 rfl (lv_at hl 3 rfl) ?_
      refine lv_iload_n hx hb dL_law_1308 rfl (lv_at hl 0 rfl) ?_
      refine lv_iconst (v := 1) hx hb dL_law_1309 (by decide) ?_
      refine lv_iadd hx hb dL_law_1310 ?_
      refine ztop (w := .int 1) (congrArg Value.int (by decide)) ?_
      refine va_sld hx hb hX hbl hbA hS (by unfold vp_in; decide) dL_law_1311 ?_
      refine ztop (w := .int (xs 1)) rfl ?_
      refine lv_aload_n hx hb dL_law_1312 rfl (lv_at hl 3 rfl) ?_
      refine lv_iload_n hx hb dL_law_1313 rfl (lv_at hl 0 rfl) ?_
      refine lv_iconst (v := 2) hx hb dL_law_1314 (by decide) ?_
      refine lv_iadd hx hb dL_law_1315 ?_
      refine ztop (w := .int 2) (congrArg Value.int (by decide)) ?_
      refine va_sld hx hb hX hbl hbA hS (by unfold vp_in; decide) dL_law_1316 ?_
      refine ztop (w := .int (xs 2)) rfl ?_
      refine lv_aload_n hx hb dL_law_1317 rfl (lv_at hl 3 rfl) ?_
      refine lv_iload_n hx hb dL_law_1318 rfl (lv_at hl 0 rfl) ?_
      refine lv_iconst (v := 3) hx hb dL_law_1319 (by decide) ?_
      refine lv_iadd hx hb dL_law_1320 ?_
      refine ztop (w := .int 3) (congrArg Value.int (by decide)) ?_
      refine va_sld hx hb hX hbl hbA hS (by unfold vp_in; decide) dL_law_1321 ?_
      refine ztop (w := .int (xs 3)) rfl ?_
      refine lv_aload_n hx hb dL_law_1322 rfl (lv_at hl 3 rfl) ?_
      refine lv_iload_n hx hb dL_law_1323 rfl (lv_at hl 0 rfl) ?_
      refine lv_iconst (v := 4) hx hb dL_law_1324 (by decide) ?_
      refine lv_iadd hx hb dL_law_1325 ?_
      refine ztop (w := .int 4) (congrArg Value.int (by decide)) ?_
      refine va_sld hx hb hX hbl hbA hS (by unfold vp_in; decide) dL_law_1326 ?_
      refine ztop (w := .int (xs 4)) rfl ?_
      refine lv_aload_n hx hb dL_law_1327 rfl (lv_at hl 3 rfl) ?_
      refine lv_iload_n hx hb dL_law_1328 rfl (lv_at hl 0 rfl) ?_
      refine lv_iconst (v := 5) hx hb dL_law_1329 (by decide) ?_
      refine lv_iadd hx hb dL_law_1330 ?_
      refine ztop (w := .int 5) (congrArg Value.int (by decide)) ?_
      refine va_sld hx hb hX hbl hbA hS (by unfold vp_in; decide) dL_law_1331 ?_
      refine ztop (w := .int (xs 5)) rfl ?_
      refine zgo_i (wr := []) (zrunV (As := [.int (xs 1), .int (xs 2), .int (xs 3), .int (xs 4), .int (xs 5)]) (rest := [.int (-1)]) ⟨hx, hb, hml, hown, ht⟩ (zc_X10_shift_0 l D y a1 (xs 1) (xs 2) (xs 3) (xs 4) (xs 5) w11 w12 w13 w14 w15 w16 w17 w18 w19 w20 w21 w22 w23 w24 w25 w26 w27 w28 w29 w30 w31 w32 w33 w34 w35 w36 w37 w38 w39 w40 w41 w42 w43 w44 w45 w46 w47 w48 w49 w50 w51 w52 w53 w54 w55 w56 w57 w58 w59 w60 w61 w62 w63 w64 w65 w66 w67 w68 w69 w70 w71 w72 w73 w74 w75 w76 w77 w78 w79 w80 w81 w82 a83 w84 w85 w86) (cwV 5 ht (zgV zm_1274 zm_1275 zm_1276 zm_5 zm_1277) rfl rfl rfl (by decide +kernel) ⟨(Nat.le_of_ble_eq_true rfl), (Nat.le_of_ble_eq_true rfl)⟩) hK hE hS hA hW [0, 1] (by decide) rfl 0 rfl rfl rfl rfl hl.1 rfl (Nat.le_of_ble_eq_true rfl) dL_law_1332 (Nat.le_of_ble_eq_true rfl) (Nat.le_of_ble_eq_true rfl)) hS hA hW [0, 1] [] rfl rfl (by decide) (by decide) (fun r9_ u H locs hw hW hS => ?_)
      have hW : zPD D _ [] H := hW
      have hw : r9_ = (if (xs 1) < 0 then (-1) else (if 5 < (xs 1) then (-1) else (if (xs 3) < 0 then (-1) else (if 5 < (xs 3) then (-1) else (-11))))) := hw
      rw [if_neg c2_] at hw
      rw [if_pos c7_] at hw
      subst hw
      refine lv_icmp_eq (tgt := 1340) hx hb dL_law_1335 (by decide) (fun c10_ => ?_) (fun c10_ => absurd (by decide) c10_)
      exact zl_end l C0 hS (lv_sub hl [0, 3] rfl)
    · have b11_ : 0 ≤ Int32.toInt (xs 1) ∧ Int32.toInt (xs 1) ≤ 5 := (by have u0 := b6_; have u1 := (not_congr (zi_lt _ _)).mp c7_; have u2 : (5 : Int32).toInt = 5 := (by decide); omega)
      rw [if_neg c7_] at hw
      by_cases c12_ : (xs 3) < 0
      · have b13_ : (-2147483648) ≤ Int32.toInt (xs 3) ∧ Int32.toInt (xs 3) ≤ (-1) := (by have u0 := zbnd (xs 3); have u1 := (zi_lt _ _).mp c12_; have u2 : (0 : Int32).toInt = 0 := (by decide); omega)
        rw [if_pos c12_] at hw
        subst hw
        refine lv_aload_n hx hb dL_law_1306 rfl (lv_at hl 1 rfl) ?_
        refine lv_aload_n hx hb dL_law_1307 rfl (lv_at hl 3 rfl) ?_
        refine lv_iload_n hx hb dL_law_1308 rfl (lv_at hl 0 rfl) ?_
        refine lv_iconst (v := 1) hx hb dL_law_1309 (by decide) ?_
        refine lv_iadd hx hb dL_law_1310 ?_
        refine ztop (w := .int 1) (congrArg Value.int (by decide)) ?_
        refine va_sld hx hb hX hbl hbA hS (by unfold vp_in; decide) dL_law_1311 ?_
        refine ztop (w := .int (xs 1)) rfl ?_
        refine lv_aload_n hx hb dL_law_1312 rfl (lv_at hl 3 rfl) ?_
        refine lv_iload_n hx hb dL_law_1313 rfl (lv_at hl 0 rfl) ?_
        refine lv_iconst (v := 2) hx hb dL_law_1314 (by decide) ?_
        refine lv_iadd hx hb dL_law_1315 ?_
        refine ztop (w := .int 2) (congrArg Value.int (by decide)) ?_
        refine va_sld hx hb hX hbl hbA hS (by unfold vp_in; decide) dL_law_1316 ?_
        refine ztop (w := .int (xs 2)) rfl ?_
        refine lv_aload_n hx hb dL_law_1317 rfl (lv_at hl 3 rfl) ?_
        refine lv_iload_n hx hb dL_law_1318 rfl (lv_at hl 0 rfl) ?_
        refine lv_iconst (v := 3) hx hb dL_law_1319 (by decide) ?_
        refine lv_iadd hx hb dL_law_1320 ?_
        refine ztop (w := .int 3) (congrArg Value.int (by decide)) ?_
        refine va_sld hx hb hX hbl hbA hS (by unfold vp_in; decide) dL_law_1321 ?_
        refine ztop (w := .int (xs 3)) rfl ?_
        refine lv_aload_n hx hb dL_law_1322 rfl (lv_at hl 3 rfl) ?_
        refine lv_iload_n hx hb dL_law_1323 rfl (lv_at hl 0 rfl) ?_
        refine lv_iconst (v := 4) hx hb dL_law_1324 (by decide) ?_
        refine lv_iadd hx hb dL_law_1325 ?_
        refine ztop (w := .int 4) (congrArg Value.int (by decide)) ?_
        refine va_sld hx hb hX hbl hbA hS (by unfold vp_in; decide) dL_law_1326 ?_
        refine ztop (w := .int (xs 4)) rfl ?_
        refine lv_aload_n hx hb dL_law_1327 rfl (lv_at hl 3 rfl) ?_
        refine lv_iload_n hx hb dL_law_1328 rfl (lv_at hl 0 rfl) ?_
        refine lv_iconst (v := 5) hx hb dL_law_1329 (by decide) ?_
        refine lv_iadd hx hb dL_law_1330 ?_
        refine ztop (w := .int 5) (congrArg Value.int (by decide)) ?_
        refine va_sld hx hb hX hbl hbA hS (by unfold vp_in; decide) dL_law_1331 ?_
        refine ztop (w := .int (xs 5)) rfl ?_
        refine zgo_i (wr := []) (zrunV (As := [.int (xs 1), .int (xs 2), .int (xs 3), .int (xs 4), .int (xs 5)]) (rest := [.int (-1)]) ⟨hx, hb, hml, hown, ht⟩ (zc_X10_shift_0 l D y a1 (xs 1) (xs 2) (xs 3) (xs 4) (xs 5) w11 w12 w13 w14 w15 w16 w17 w18 w19 w20 w21 w22 w23 w24 w25 w26 w27 w28 w29 w30 w31 w32 w33 w34 w35 w36 w37 w38 w39 w40 w41 w42 w43 w44 w45 w46 w47 w48 w49 w50 w51 w52 w53 w54 w55 w56 w57 w58 w59 w60 w61 w62 w63 w64 w65 w66 w67 w68 w69 w70 w71 w72 w73 w74 w75 w76 w77 w78 w79 w80 w81 w82 a83 w84 w85 w86) (cwV 5 ht (zgV zm_1274 zm_1275 zm_1276 zm_5 zm_1277) rfl rfl rfl (by decide +kernel) ⟨(Nat.le_of_ble_eq_true rfl), (Nat.le_of_ble_eq_true rfl)⟩) hK hE hS hA hW [0, 1] (by decide) rfl 0 rfl rfl rfl rfl hl.1 rfl (Nat.le_of_ble_eq_true rfl) dL_law_1332 (Nat.le_of_ble_eq_true rfl) (Nat.le_of_ble_eq_true rfl)) hS hA hW [0, 1] [] rfl rfl (by decide) (by decide) (fun r14_ u H locs hw hW hS => ?_)
        have hW : zPD D _ [] H := hW
        have hw : r14_ = (if (xs 1) < 0 then (-1) else (if 5 < (xs 1) then (-1) else (if (xs 3) < 0 then (-1) else (if 5 < (xs 3) then (-1) else (-11))))) := hw
        rw [if_neg c2_] at hw
        rw [if_neg c7_] at hw
        rw [if_pos c12_] at hw
        subst hw
        refine lv_icmp_eq (tgt := 1340) hx hb dL_law_1335 (by decide) (fun c15_ => ?_) (fun c15_ => absurd (by decide) c15_)
        exact zl_end l C0 hS (lv_sub hl [0, 3] rfl)
      · have b16_ : 0 ≤ Int32.toInt (xs 3) ∧ Int32.toInt (xs 3) ≤ 2147483647 := (by have u0 := zbnd (xs 3); have u1 := (not_congr (zi_lt _ _)).mp c12_; have u2 : (0 : Int32).toInt = 0 := (by decide); omega)
        rw [if_neg c12_] at hw
        by_cases c17_ : 5 < (xs 3)
        · have b18_ : 6 ≤ Int32.toInt (xs 3) ∧ Int32.toInt (xs 3) ≤ 2147483647 := (by have u0 := b16_; have u1 := (zi_lt _ _).mp c17_; have u2 : (5 : Int32).toInt = 5 := (by decide); omega)
          rw [if_pos c17_] at hw
          subst hw
          refine lv_aload_n hx hb dL_law_1306 rfl (lv_at hl 1 rfl) ?_
          refine lv_aload_n hx hb dL_law_1307 rfl (lv_at hl 3 rfl) ?_
          refine lv_iload_n hx hb dL_law_1308 rfl (lv_at hl 0 rfl) ?_
          refine lv_iconst (v := 1) hx hb dL_law_1309 (by decide) ?_
          refine lv_iadd hx hb dL_law_1310 ?_
          refine ztop (w := .int 1) (congrArg Value.int (by decide)) ?_
          refine va_sld hx hb hX hbl hbA hS (by unfold vp_in; decide) dL_law_1311 ?_
          refine ztop (w := .int (xs 1)) rfl ?_
          refine lv_aload_n hx hb dL_law_1312 rfl (lv_at hl 3 rfl) ?_
          refine lv_iload_n hx hb dL_law_1313 rfl (lv_at hl 0 rfl) ?_
          refine lv_iconst (v := 2) hx hb dL_law_1314 (by decide) ?_
          refine lv_iadd hx hb dL_law_1315 ?_
          refine ztop (w := .int 2) (congrArg Value.int (by decide)) ?_
          refine va_sld hx hb hX hbl hbA hS (by unfold vp_in; decide) dL_law_1316 ?_
          refine ztop (w := .int (xs 2)) rfl ?_
          refine lv_aload_n hx hb dL_law_1317 rfl (lv_at hl 3 rfl) ?_
          refine lv_iload_n hx hb dL_law_1318 rfl (lv_at hl 0 rfl) ?_
          refine lv_iconst (v := 3) hx hb dL_law_1319 (by decide) ?_
          refine lv_iadd hx hb dL_law_1320 ?_
          refine ztop (w := .int 3) (congrArg Value.int (by decide)) ?_
          refine va_sld hx hb hX hbl hbA hS (by unfold vp_in; decide) dL_law_1321 ?_
          refine ztop (w := .int (xs 3)) rfl ?_
          refine lv_aload_n hx hb dL_law_1322 rfl (lv_at hl 3 rfl) ?_
          refine lv_iload_n hx hb dL_law_1323 rfl (lv_at hl 0 rfl) ?_
          refine lv_iconst (v := 4) hx hb dL_law_1324 (by decide) ?_
          refine lv_iadd hx hb dL_law_1325 ?_
          refine ztop (w := .int 4) (congrArg Value.int (by decide)) ?_
          refine va_sld hx hb hX hbl hbA hS (by unfold vp_in; decide) dL_law_1326 ?_
          refine ztop (w := .int (xs 4)) rfl ?_
          refine lv_aload_n hx hb dL_law_1327 rfl (lv_at hl 3 rfl) ?_
          refine lv_iload_n hx hb dL_law_1328 rfl (lv_at hl 0 rfl) ?_
          refine lv_iconst (v := 5) hx hb dL_law_1329 (by decide) ?_
          refine lv_iadd hx hb dL_law_1330 ?_
          refine ztop (w := .int 5) (congrArg Value.int (by decide)) ?_
          refine va_sld hx hb hX hbl hbA hS (by unfold vp_in; decide) dL_law_1331 ?_
          refine ztop (w := .int (xs 5)) rfl ?_
          refine zgo_i (wr := []) (zrunV (As := [.int (xs 1), .int (xs 2), .int (xs 3), .int (xs 4), .int (xs 5)]) (rest := [.int (-1)]) ⟨hx, hb, hml, hown, ht⟩ (zc_X10_shift_0 l D y a1 (xs 1) (xs 2) (xs 3) (xs 4) (xs 5) w11 w12 w13 w14 w15 w16 w17 w18 w19 w20 w21 w22 w23 w24 w25 w26 w27 w28 w29 w30 w31 w32 w33 w34 w35 w36 w37 w38 w39 w40 w41 w42 w43 w44 w45 w46 w47 w48 w49 w50 w51 w52 w53 w54 w55 w56 w57 w58 w59 w60 w61 w62 w63 w64 w65 w66 w67 w68 w69 w70 w71 w72 w73 w74 w75 w76 w77 w78 w79 w80 w81 w82 a83 w84 w85 w86) (cwV 5 ht (zgV zm_1274 zm_1275 zm_1276 zm_5 zm_1277) rfl rfl rfl (by decide +kernel) ⟨(Nat.le_of_ble_eq_true rfl), (Nat.le_of_ble_eq_true rfl)⟩) hK hE hS hA hW [0, 1] (by decide) rfl 0 rfl rfl rfl rfl hl.1 rfl (Nat.le_of_ble_eq_true rfl) dL_law_1332 (Nat.le_of_ble_eq_true rfl) (Nat.le_of_ble_eq_true rfl)) hS hA hW [0, 1] [] rfl rfl (by decide) (by decide) (fun r19_ u H locs hw hW hS => ?_)
          have hW : zPD D _ [] H := hW
          have hw : r19_ = (if (xs 1) < 0 then (-1) else (if 5 < (xs 1) then (-1) else (if (xs 3) < 0 then (-1) else (if 5 < (xs 3) then (-1) else (-11))))) := hw
          rw [if_neg c2_] at hw
          rw [if_neg c7_] at hw
          rw [if_neg c12_] at hw
          rw [if_pos c17_] at hw
          subst hw
          refine lv_icmp_eq (tgt := 1340) hx hb dL_law_1335 (by decide) (fun c20_ => ?_) (fun c20_ => absurd (by decide) c20_)
          exact zl_end l C0 hS (lv_sub hl [0, 3] rfl)
        · have b21_ : 0 ≤ Int32.toInt (xs 3) ∧ Int32.toInt (xs 3) ≤ 5 := (by have u0 := b16_; have u1 := (not_congr (zi_lt _ _)).mp c17_; have u2 : (5 : Int32).toInt = 5 := (by decide); omega)
          rw [if_neg c17_] at hw
          subst hw
          refine lv_aload_n hx hb dL_law_1306 rfl (lv_at hl 1 rfl) ?_
          refine lv_aload_n hx hb dL_law_1307 rfl (lv_at hl 3 rfl) ?_
          refine lv_iload_n hx hb dL_law_1308 rfl (lv_at hl 0 rfl) ?_
          refine lv_iconst (v := 1) hx hb dL_law_1309 (by decide) ?_
          refine lv_iadd hx hb dL_law_1310 ?_
          refine ztop (w := .int 1) (congrArg Value.int (by decide)) ?_
          refine va_sld hx hb hX hbl hbA hS (by unfold vp_in; decide) dL_law_1311 ?_
          refine ztop (w := .int (xs 1)) rfl ?_
          refine lv_aload_n hx hb dL_law_1312 rfl (lv_at hl 3 rfl) ?_
          refine lv_iload_n hx hb dL_law_1313 rfl (lv_at hl 0 rfl) ?_
          refine lv_iconst (v := 2) hx hb dL_law_1314 (by decide) ?_
          refine lv_iadd hx hb dL_law_1315 ?_
          refine ztop (w := .int 2) (congrArg Value.int (by decide)) ?_
          refine va_sld hx hb hX hbl hbA hS (by unfold vp_in; decide) dL_law_1316 ?_
          refine ztop (w := .int (xs 2)) rfl ?_
          refine lv_aload_n hx hb dL_law_1317 rfl (lv_at hl 3 rfl) ?_
          refine lv_iload_n hx hb dL_law_1318 rfl (lv_at hl 0 rfl) ?_
          refine lv_iconst (v := 3) hx hb dL_law_1319 (by decide) ?_
          refine lv_iadd hx hb dL_law_1320 ?_
          refine ztop (w := .int 3) (congrArg Value.int (by decide)) ?_
          refine va_sld hx hb hX hbl hbA hS (by unfold vp_in; decide) dL_law_1321 ?_
          refine ztop (w := .int (xs 3)) rfl ?_
          refine lv_aload_n hx hb dL_law_1322 rfl (lv_at hl 3 rfl) ?_
          refine lv_iload_n hx hb dL_law_1323 rfl (lv_at hl 0 rfl) ?_
          refine lv_iconst (v := 4) hx hb dL_law_1324 (by decide) ?_
          refine lv_iadd hx hb dL_law_1325 ?_
          refine ztop (w := .int 4) (congrArg Value.int (by decide)) ?_
          refine va_sld hx hb hX hbl hbA hS (by unfold vp_in; decide) dL_law_1326 ?_
          refine ztop (w := .int (xs 4)) rfl ?_
          refine lv_aload_n hx hb dL_law_1327 rfl (lv_at hl 3 rfl) ?_
          refine lv_iload_n hx hb dL_law_1328 rfl (lv_at hl 0 rfl) ?_
          refine lv_iconst (v := 5) hx hb dL_law_1329 (by decide) ?_
          refine lv_iadd hx hb dL_law_1330 ?_
          refine ztop (w := .int 5) (congrArg Value.int (by decide)) ?_
          refine va_sld hx hb hX hbl hbA hS (by unfold vp_in; decide) dL_law_1331 ?_
          refine ztop (w := .int (xs 5)) rfl ?_
          refine zgo_i (wr := []) (zrunV (As := [.int (xs 1), .int (xs 2), .int (xs 3), .int (xs 4), .int (xs 5)]) (rest := [.int (-11)]) ⟨hx, hb, hml, hown, ht⟩ (zc_X10_shift_0 l D y a1 (xs 1) (xs 2) (xs 3) (xs 4) (xs 5) w11 w12 w13 w14 w15 w16 w17 w18 w19 w20 w21 w22 w23 w24 w25 w26 w27 w28 w29 w30 w31 w32 w33 w34 w35 w36 w37 w38 w39 w40 w41 w42 w43 w44 w45 w46 w47 w48 w49 w50 w51 w52 w53 w54 w55 w56 w57 w58 w59 w60 w61 w62 w63 w64 w65 w66 w67 w68 w69 w70 w71 w72 w73 w74 w75 w76 w77 w78 w79 w80 w81 w82 a83 w84 w85 w86) (cwV 5 ht (zgV zm_1274 zm_1275 zm_1276 zm_5 zm_1277) rfl rfl rfl (by decide +kernel) ⟨(Nat.le_of_ble_eq_true rfl), (Nat.le_of_ble_eq_true rfl)⟩) hK hE hS hA hW [0, 1] (by decide) rfl 0 rfl rfl rfl rfl hl.1 rfl (Nat.le_of_ble_eq_true rfl) dL_law_1332 (Nat.le_of_ble_eq_true rfl) (Nat.le_of_ble_eq_true rfl)) hS hA hW [0, 1] [] rfl rfl (by decide) (by decide) (fun r22_ u H locs hw hW hS => ?_)
          have hW : zPD D _ [] H := hW
          have hw : r22_ = (if (xs 1) < 0 then (-1) else (if 5 < (xs 1) then (-1) else (if (xs 3) < 0 then (-1) else (if 5 < (xs 3) then (-1) else (-11))))) := hw
          rw [if_neg c2_] at hw
          rw [if_neg c7_] at hw
          rw [if_neg c12_] at hw
          rw [if_neg c17_] at hw
          subst hw
          refine lv_icmp_eq (tgt := 1340) hx hb dL_law_1335 (by decide) (fun c23_ => ?_) (fun c23_ => absurd (by decide) c23_)
          exact zl_end l C0 hS (lv_sub hl [0, 3] rfl)
