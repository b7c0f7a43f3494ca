/-! the law: its commands -/
section LAWC
variable {p : Program} {l : Launch} {e : Env} {s : State} {m : MethodId} {below : List Frame} {meth : Method} {c : Code} {H : Heap} {locs : List Loc} {cells slots : Nat} {QQ : State → Prop} {b L : Nat} {xs : Nat → Int32} {g : va_G} {τ : Nat → ClassId} {A : Nat → Prop} {ls : Array Slot} {x mm oa : Nat} {z : Int64} {w wm : va_W}
set_option maxRecDepth 100000 in
theorem lc_hang (hst : l.stackTraces = false) (C0 : LC p s m meth c b L xs g τ A) {i : Nat} (hi : i + 6 ≤ L) (hj : JW τ x mm w wm) (hP : va_P g vwCl ([outC oa z τ] ++ (w ++ wm)) H) (hD : va_D A ([outC oa z τ] ++ (w ++ wm))) (hS : va_S A s.heap H locs) (hl : lv_has ls 7 [(4, .int (iI (i : Int))), (3, .ref oa), (2, .ref mm), (1, .ref x), (0, .ref b)]) (hc : cells + 1 ≤ 601024 ∧ slots + 6 ≤ 7293034) (kk : lwK p l e s m below meth c cells slots QQ g τ A x mm oa b i) : W p l e room_1 s m #[Value.ref b] below meth c H locs cells slots QQ (F0 m 1317 ls []) := by
  have hx := C0.1.1
  have hb := C0.1.2.1
  obtain ⟨Q, n, B, V, K, t, S, k0, hcw, hmw⟩ := hj
  obtain ⟨w0, hp0, hM⟩ := f_hang l hst g τ x oa z hcw (yI xs (i + 1)) (yI_r xs (i + 1)) (yI xs (i + 2)) (yI_r xs (i + 2))
  have hN := h_hang l g τ hmw (yI xs (i + 1)) (yI_r xs (i + 1)) (yI xs (i + 2)) (yI_r xs (i + 2))
  refine lv_aload_n hx hb dL_law_1317 rfl (lv_at hl 3 rfl) ?_
  refine la_arg (j := 1) C0 (by omega) rfl 4 0 hl rfl rfl hS dL_law_1318 dL_law_1319 dL_law_1321 dL_law_1322 dL_law_1323 ?_
  refine la_arg (j := 2) C0 (by omega) rfl 4 0 hl rfl rfl hS dL_law_1324 dL_law_1325 dL_law_1327 dL_law_1328 dL_law_1329 ?_
  refine lv_aload_n hx hb dL_law_1330 rfl (lv_at hl 1 rfl) ?_
  refine lw_A (P := W3 (kA (aHang Q (yI xs (i + 1)) (yI xs (i + 2))).1 1 0 0) (Wn w0 (kA (aHang Q (yI xs (i + 1)) (yI xs (i + 2))).1 1 0 0) (CW τ x (aHang Q (yI xs (i + 1)) (yI xs (i + 2))).2 (mN n) (rmB n B Q).2 V K t S) (CW τ x Q n B V K t S))) C0 hM hp0 (fun w1 h => h.2.1) gl_L_hang cd_L_hang rfl ⟨rfl, rfl⟩ ⟨Nat.le_of_ble_eq_true rfl, Nat.le_of_ble_eq_true rfl⟩ hP hD hS rfl hl rfl dL_law_1331 dL_law_1334 hc rfl (fun z w9 H locs ls hz hw9 hP hD hS hl => ?_)
  refine lv_aload_n hx hb dL_law_1336 rfl (lv_at hl 3 rfl) ?_
  refine la_arg (j := 1) C0 (by omega) rfl 5 1 hl rfl rfl hS dL_law_1337 dL_law_1338 dL_law_1340 dL_law_1341 dL_law_1342 ?_
  refine la_arg (j := 2) C0 (by omega) rfl 5 1 hl rfl rfl hS dL_law_1343 dL_law_1344 dL_law_1346 dL_law_1347 dL_law_1348 ?_
  refine lw_M (P := fun _ => True) (rest := []) C0 hmw hN gl_X10_hang cd_X10_hang rfl rfl ⟨rfl, rfl⟩ ⟨Nat.le_of_ble_eq_true rfl, Nat.le_of_ble_eq_true rfl⟩ hP hD hS rfl hl rfl (Nat.le_of_ble_eq_true rfl) dL_law_1349 hc (fun r wm9 H locs hr hm0 hm1 hmt hP hD hS => ?_)
  refine lw_C (off := 1059) C0 ⟨dL_law_1352, dL_law_1354, dL_law_1355, dL_law_1358, dL_law_1360, dL_law_1365, dL_law_1367, dL_law_1370, dL_law_1371, dL_law_1372, dL_law_1373, dL_law_1375, dL_law_1376, dL_law_1377, dL_law_1382, by decide⟩ hmt hz hr hw9.1 hP hl rfl rfl rfl rfl rfl hc (fun ls hl => ?_)
  have hl := lv_sub hl [2, 3, 4, 5, 6] rfl
  refine kk z w9 wm9 H locs ls ?_ hP hD hS hl
  by_cases hk : kA (aHang Q (yI xs (i + 1)) (yI xs (i + 2))).1 1 0 0 = 0
  · exact ⟨_, _, _, _, _, _, _, _, hw9.2.2.1 hk, hm0 hk⟩
  · exact ⟨_, _, _, _, _, _, _, _, hw9.2.2.2 hk, hm1 hk⟩

set_option maxRecDepth 100000 in
theorem lc_cut (hst : l.stackTraces = false) (C0 : LC p s m meth c b L xs g τ A) {i : Nat} (hi : i + 6 ≤ L) (hj : JW τ x mm w wm) (hP : va_P g vwCl ([outC oa z τ] ++ (w ++ wm)) H) (hD : va_D A ([outC oa z τ] ++ (w ++ wm))) (hS : va_S A s.heap H locs) (hl : lv_has ls 7 [(4, .int (iI (i : Int))), (3, .ref oa), (2, .ref mm), (1, .ref x), (0, .ref b)]) (hc : cells + 1 ≤ 601024 ∧ slots + 6 ≤ 7293034) (kk : lwK p l e s m below meth c cells slots QQ g τ A x mm oa b i) : W p l e room_1 s m #[Value.ref b] below meth c H locs cells slots QQ (F0 m 1385 ls []) := by
  have hx := C0.1.1
  have hb := C0.1.2.1
  obtain ⟨Q, n, B, V, K, t, S, k0, hcw, hmw⟩ := hj
  obtain ⟨w0, hp0, hM⟩ := f_cut l hst g τ x oa z hcw (yI xs (i + 1)) (yI_r xs (i + 1))
  have hN := h_cut l g τ hmw (yI xs (i + 1)) (yI_r xs (i + 1))
  refine lv_aload_n hx hb dL_law_1385 rfl (lv_at hl 3 rfl) ?_
  refine la_arg (j := 1) C0 (by omega) rfl 4 0 hl rfl rfl hS dL_law_1386 dL_law_1387 dL_law_1389 dL_law_1390 dL_law_1391 ?_
  refine lv_aload_n hx hb dL_law_1392 rfl (lv_at hl 1 rfl) ?_
  refine lw_A (P := W3 (kA (aCut Q (yI xs (i + 1))).1 1 0 2) (Wn w0 (kA (aCut Q (yI xs (i + 1))).1 1 0 2) (CW τ x (aCut Q (yI xs (i + 1))).2 (mN n) (rmB n B Q).2 V K t S) (CW τ x Q n B V K t S))) C0 hM hp0 (fun w1 h => h.2.1) gl_L_cut cd_L_cut rfl ⟨rfl, rfl⟩ ⟨Nat.le_of_ble_eq_true rfl, Nat.le_of_ble_eq_true rfl⟩ hP hD hS rfl hl rfl dL_law_1393 dL_law_1396 hc rfl (fun z w9 H locs ls hz hw9 hP hD hS hl => ?_)
  refine lv_aload_n hx hb dL_law_1398 rfl (lv_at hl 3 rfl) ?_
  refine la_arg (j := 1) C0 (by omega) rfl 5 1 hl rfl rfl hS dL_law_1399 dL_law_1400 dL_law_1402 dL_law_1403 dL_law_1404 ?_
  refine lw_M (P := fun _ => True) (rest := []) C0 hmw hN gl_X10_cut cd_X10_cut rfl rfl ⟨rfl, rfl⟩ ⟨Nat.le_of_ble_eq_true rfl, Nat.le_of_ble_eq_true rfl⟩ hP hD hS rfl hl rfl (Nat.le_of_ble_eq_true rfl) dL_law_1405 hc (fun r wm9 H locs hr hm0 hm1 hmt hP hD hS => ?_)
  refine lw_C (off := 1003) C0 ⟨dL_law_1408, dL_law_1410, dL_law_1411, dL_law_1414, dL_law_1416, dL_law_1421, dL_law_1423, dL_law_1426, dL_law_1427, dL_law_1428, dL_law_1429, dL_law_1431, dL_law_1432, dL_law_1433, dL_law_1438, by decide⟩ hmt hz hr hw9.1 hP hl rfl rfl rfl rfl rfl hc (fun ls hl => ?_)
  have hl := lv_sub hl [2, 3, 4, 5, 6] rfl
  refine kk z w9 wm9 H locs ls ?_ hP hD hS hl
  by_cases hk : kA (aCut Q (yI xs (i + 1))).1 1 0 2 = 0
  · exact ⟨_, _, _, _, _, _, _, _, hw9.2.2.1 hk, hm0 hk⟩
  · exact ⟨_, _, _, _, _, _, _, _, hw9.2.2.2 hk, hm1 hk⟩

set_option maxRecDepth 100000 in
theorem lc_shelve (hst : l.stackTraces = false) (C0 : LC p s m meth c b L xs g τ A) {i : Nat} (hi : i + 6 ≤ L) (hj : JW τ x mm w wm) (hP : va_P g vwCl ([outC oa z τ] ++ (w ++ wm)) H) (hD : va_D A ([outC oa z τ] ++ (w ++ wm))) (hS : va_S A s.heap H locs) (hl : lv_has ls 7 [(4, .int (iI (i : Int))), (3, .ref oa), (2, .ref mm), (1, .ref x), (0, .ref b)]) (hc : cells + 1 ≤ 601024 ∧ slots + 6 ≤ 7293034) (kk : lwK p l e s m below meth c cells slots QQ g τ A x mm oa b i) : W p l e room_1 s m #[Value.ref b] below meth c H locs cells slots QQ (F0 m 1441 ls []) := by
  have hx := C0.1.1
  have hb := C0.1.2.1
  obtain ⟨Q, n, B, V, K, t, S, k0, hcw, hmw⟩ := hj
  obtain ⟨w0, hp0, hM⟩ := f_shelve l hst g τ x oa z hcw (yI xs (i + 1)) (yI_r xs (i + 1)) (yI xs (i + 2)) (yI_r xs (i + 2)) (yI xs (i + 3)) (yI_r xs (i + 3))
  have hN := h_shelve l g τ hmw (yI xs (i + 1)) (yI_r xs (i + 1)) (yI xs (i + 2)) (yI_r xs (i + 2)) (yI xs (i + 3)) (yI_r xs (i + 3))
  refine lv_aload_n hx hb dL_law_1441 rfl (lv_at hl 3 rfl) ?_
  refine la_arg (j := 1) C0 (by omega) rfl 4 0 hl rfl rfl hS dL_law_1442 dL_law_1443 dL_law_1445 dL_law_1446 dL_law_1447 ?_
  refine la_arg (j := 2) C0 (by omega) rfl 4 0 hl rfl rfl hS dL_law_1448 dL_law_1449 dL_law_1451 dL_law_1452 dL_law_1453 ?_
  refine la_arg (j := 3) C0 (by omega) rfl 4 0 hl rfl rfl hS dL_law_1454 dL_law_1455 dL_law_1457 dL_law_1458 dL_law_1459 ?_
  refine lv_aload_n hx hb dL_law_1460 rfl (lv_at hl 1 rfl) ?_
  refine lw_A (P := W3 (kA (aShelve Q (yI xs (i + 1)) (yI xs (i + 2)) (yI xs (i + 3))).1 1 2 3) (Wn w0 (kA (aShelve Q (yI xs (i + 1)) (yI xs (i + 2)) (yI xs (i + 3))).1 1 2 3) (CW τ x (aShelve Q (yI xs (i + 1)) (yI xs (i + 2)) (yI xs (i + 3))).2 (mN n) (rmB n B Q).2 V K t S) (CW τ x Q n B V K t S))) C0 hM hp0 (fun w1 h => h.2.1) gl_L_shelve cd_L_shelve rfl ⟨rfl, rfl⟩ ⟨Nat.le_of_ble_eq_true rfl, Nat.le_of_ble_eq_true rfl⟩ hP hD hS rfl hl rfl dL_law_1461 dL_law_1464 hc rfl (fun z w9 H locs ls hz hw9 hP hD hS hl => ?_)
  refine lv_aload_n hx hb dL_law_1466 rfl (lv_at hl 3 rfl) ?_
  refine la_arg (j := 1) C0 (by omega) rfl 5 1 hl rfl rfl hS dL_law_1467 dL_law_1468 dL_law_1470 dL_law_1471 dL_law_1472 ?_
  refine la_arg (j := 2) C0 (by omega) rfl 5 1 hl rfl rfl hS dL_law_1473 dL_law_1474 dL_law_1476 dL_law_1477 dL_law_1478 ?_
  refine la_arg (j := 3) C0 (by omega) rfl 5 1 hl rfl rfl hS dL_law_1479 dL_law_1480 dL_law_1482 dL_law_1483 dL_law_1484 ?_
  refine lw_M (P := fun _ => True) (rest := []) C0 hmw hN gl_X10_shelve cd_X10_shelve rfl rfl ⟨rfl, rfl⟩ ⟨Nat.le_of_ble_eq_true rfl, Nat.le_of_ble_eq_true rfl⟩ hP hD hS rfl hl rfl (Nat.le_of_ble_eq_true rfl) dL_law_1485 hc (fun r wm9 H locs hr hm0 hm1 hmt hP hD hS => ?_)
  refine lw_C (off := 923) C0 ⟨dL_law_1488, dL_law_1490, dL_law_1491, dL_law_1494, dL_law_1496, dL_law_1501, dL_law_1503, dL_law_1506, dL_law_1507, dL_law_1508, dL_law_1509, dL_law_1511, dL_law_1512, dL_law_1513, dL_law_1518, by decide⟩ hmt hz hr hw9.1 hP hl rfl rfl rfl rfl rfl hc (fun ls hl => ?_)
  have hl := lv_sub hl [2, 3, 4, 5, 6] rfl
  refine kk z w9 wm9 H locs ls ?_ hP hD hS hl
  by_cases hk : kA (aShelve Q (yI xs (i + 1)) (yI xs (i + 2)) (yI xs (i + 3))).1 1 2 3 = 0
  · exact ⟨_, _, _, _, _, _, _, _, hw9.2.2.1 hk, hm0 hk⟩
  · exact ⟨_, _, _, _, _, _, _, _, hw9.2.2.2 hk, hm1 hk⟩

set_option maxRecDepth 100000 in
theorem lc_take (hst : l.stackTraces = false) (C0 : LC p s m meth c b L xs g τ A) {i : Nat} (hi : i + 6 ≤ L) (hj : JW τ x mm w wm) (hP : va_P g vwCl ([outC oa z τ] ++ (w ++ wm)) H) (hD : va_D A ([outC oa z τ] ++ (w ++ wm))) (hS : va_S A s.heap H locs) (hl : lv_has ls 7 [(4, .int (iI (i : Int))), (3, .ref oa), (2, .ref mm), (1, .ref x), (0, .ref b)]) (hc : cells + 1 ≤ 601024 ∧ slots + 6 ≤ 7293034) (kk : lwK p l e s m below meth c cells slots QQ g τ A x mm oa b i) : W p l e room_1 s m #[Value.ref b] below meth c H locs cells slots QQ (F0 m 1521 ls []) := by
  have hx := C0.1.1
  have hb := C0.1.2.1
  obtain ⟨Q, n, B, V, K, t, S, k0, hcw, hmw⟩ := hj
  obtain ⟨w0, hp0, hM⟩ := f_take l hst g τ x oa z hcw (yI xs (i + 1)) (yI_r xs (i + 1))
  have hN := h_take l g τ hmw (yI xs (i + 1)) (yI_r xs (i + 1))
  refine lv_aload_n hx hb dL_law_1521 rfl (lv_at hl 3 rfl) ?_
  refine la_arg (j := 1) C0 (by omega) rfl 4 0 hl rfl rfl hS dL_law_1522 dL_law_1523 dL_law_1525 dL_law_1526 dL_law_1527 ?_
  refine lv_aload_n hx hb dL_law_1528 rfl (lv_at hl 1 rfl) ?_
  refine lw_A (P := W3 (kA (aTake Q (yI xs (i + 1))).1 1 0 2) (Wn w0 (kA (aTake Q (yI xs (i + 1))).1 1 0 2) (CW τ x (aTake Q (yI xs (i + 1))).2 (mN n) (rmB n B Q).2 V K t S) (CW τ x Q n B V K t S))) C0 hM hp0 (fun w1 h => h.2.1) gl_L_take cd_L_take rfl ⟨rfl, rfl⟩ ⟨Nat.le_of_ble_eq_true rfl, Nat.le_of_ble_eq_true rfl⟩ hP hD hS rfl hl rfl dL_law_1529 dL_law_1532 hc rfl (fun z w9 H locs ls hz hw9 hP hD hS hl => ?_)
  refine lv_aload_n hx hb dL_law_1534 rfl (lv_at hl 3 rfl) ?_
  refine la_arg (j := 1) C0 (by omega) rfl 5 1 hl rfl rfl hS dL_law_1535 dL_law_1536 dL_law_1538 dL_law_1539 dL_law_1540 ?_
  refine lw_M (P := fun _ => True) (rest := []) C0 hmw hN gl_X10_take cd_X10_take rfl rfl ⟨rfl, rfl⟩ ⟨Nat.le_of_ble_eq_true rfl, Nat.le_of_ble_eq_true rfl⟩ hP hD hS rfl hl rfl (Nat.le_of_ble_eq_true rfl) dL_law_1541 hc (fun r wm9 H locs hr hm0 hm1 hmt hP hD hS => ?_)
  refine lw_C (off := 867) C0 ⟨dL_law_1544, dL_law_1546, dL_law_1547, dL_law_1550, dL_law_1552, dL_law_1557, dL_law_1559, dL_law_1562, dL_law_1563, dL_law_1564, dL_law_1565, dL_law_1567, dL_law_1568, dL_law_1569, dL_law_1574, by decide⟩ hmt hz hr hw9.1 hP hl rfl rfl rfl rfl rfl hc (fun ls hl => ?_)
  have hl := lv_sub hl [2, 3, 4, 5, 6] rfl
  refine kk z w9 wm9 H locs ls ?_ hP hD hS hl
  by_cases hk : kA (aTake Q (yI xs (i + 1))).1 1 0 2 = 0
  · exact ⟨_, _, _, _, _, _, _, _, hw9.2.2.1 hk, hm0 hk⟩
  · exact ⟨_, _, _, _, _, _, _, _, hw9.2.2.2 hk, hm1 hk⟩

set_option maxRecDepth 100000 in
theorem lc_sort (hst : l.stackTraces = false) (C0 : LC p s m meth c b L xs g τ A) {i : Nat} (hi : i + 6 ≤ L) (hj : JW τ x mm w wm) (hP : va_P g vwCl ([outC oa z τ] ++ (w ++ wm)) H) (hD : va_D A ([outC oa z τ] ++ (w ++ wm))) (hS : va_S A s.heap H locs) (hl : lv_has ls 7 [(4, .int (iI (i : Int))), (3, .ref oa), (2, .ref mm), (1, .ref x), (0, .ref b)]) (hc : cells + 1 ≤ 601024 ∧ slots + 6 ≤ 7293034) (kk : lwK p l e s m below meth c cells slots QQ g τ A x mm oa b i) : W p l e room_1 s m #[Value.ref b] below meth c H locs cells slots QQ (F0 m 1577 ls []) := by
  have hx := C0.1.1
  have hb := C0.1.2.1
  obtain ⟨Q, n, B, V, K, t, S, k0, hcw, hmw⟩ := hj
  obtain ⟨w0, hp0, hM⟩ := f_sort l hst g τ x oa z hcw (yI xs (i + 1)) (yI_r xs (i + 1))
  have hN := h_sort l g τ hmw (yI xs (i + 1)) (yI_r xs (i + 1))
  refine lv_aload_n hx hb dL_law_1577 rfl (lv_at hl 3 rfl) ?_
  refine la_arg (j := 1) C0 (by omega) rfl 4 0 hl rfl rfl hS dL_law_1578 dL_law_1579 dL_law_1581 dL_law_1582 dL_law_1583 ?_
  refine lv_aload_n hx hb dL_law_1584 rfl (lv_at hl 1 rfl) ?_
  refine lw_A (P := W3 (kA (aSrt Q (yI xs (i + 1))).1 1 0 0) (Wn w0 (kA (aSrt Q (yI xs (i + 1))).1 1 0 0) (CW τ x (aSrt Q (yI xs (i + 1))).2 (mN n) (rmB n B Q).2 V K t S) (CW τ x Q n B V K t S))) C0 hM hp0 (fun w1 h => h.2.1) gl_L_sort cd_L_sort rfl ⟨rfl, rfl⟩ ⟨Nat.le_of_ble_eq_true rfl, Nat.le_of_ble_eq_true rfl⟩ hP hD hS rfl hl rfl dL_law_1585 dL_law_1588 hc rfl (fun z w9 H locs ls hz hw9 hP hD hS hl => ?_)
  refine lv_aload_n hx hb dL_law_1590 rfl (lv_at hl 3 rfl) ?_
  refine la_arg (j := 1) C0 (by omega) rfl 5 1 hl rfl rfl hS dL_law_1591 dL_law_1592 dL_law_1594 dL_law_1595 dL_law_1596 ?_
  refine lw_M (P := fun _ => True) (rest := []) C0 hmw hN gl_X10_sort cd_X10_sort rfl rfl ⟨rfl, rfl⟩ ⟨Nat.le_of_ble_eq_true rfl, Nat.le_of_ble_eq_true rfl⟩ hP hD hS rfl hl rfl (Nat.le_of_ble_eq_true rfl) dL_law_1597 hc (fun r wm9 H locs hr hm0 hm1 hmt hP hD hS => ?_)
  refine lw_C (off := 811) C0 ⟨dL_law_1600, dL_law_1602, dL_law_1603, dL_law_1606, dL_law_1608, dL_law_1613, dL_law_1615, dL_law_1618, dL_law_1619, dL_law_1620, dL_law_1621, dL_law_1623, dL_law_1624, dL_law_1625, dL_law_1630, by decide⟩ hmt hz hr hw9.1 hP hl rfl rfl rfl rfl rfl hc (fun ls hl => ?_)
  have hl := lv_sub hl [2, 3, 4, 5, 6] rfl
  refine kk z w9 wm9 H locs ls ?_ hP hD hS hl
  by_cases hk : kA (aSrt Q (yI xs (i + 1))).1 1 0 0 = 0
  · exact ⟨_, _, _, _, _, _, _, _, hw9.2.2.1 hk, hm0 hk⟩
  · exact ⟨_, _, _, _, _, _, _, _, hw9.2.2.2 hk, hm1 hk⟩

set_option maxRecDepth 100000 in
theorem lc_set (hst : l.stackTraces = false) (C0 : LC p s m meth c b L xs g τ A) {i : Nat} (hi : i + 6 ≤ L) (hj : JW τ x mm w wm) (hP : va_P g vwCl ([outC oa z τ] ++ (w ++ wm)) H) (hD : va_D A ([outC oa z τ] ++ (w ++ wm))) (hS : va_S A s.heap H locs) (hl : lv_has ls 7 [(4, .int (iI (i : Int))), (3, .ref oa), (2, .ref mm), (1, .ref x), (0, .ref b)]) (hc : cells + 1 ≤ 601024 ∧ slots + 6 ≤ 7293034) (kk : lwK p l e s m below meth c cells slots QQ g τ A x mm oa b i) : W p l e room_1 s m #[Value.ref b] below meth c H locs cells slots QQ (F0 m 1633 ls []) := by
  have hx := C0.1.1
  have hb := C0.1.2.1
  obtain ⟨Q, n, B, V, K, t, S, k0, hcw, hmw⟩ := hj
  obtain ⟨w0, hp0, hM⟩ := f_set l hst g τ x oa z hcw (yI xs (i + 1)) (yI_r xs (i + 1)) (yI xs (i + 2)) (yI_r xs (i + 2))
  have hN := h_set l g τ hmw (yI xs (i + 1)) (yI_r xs (i + 1)) (yI xs (i + 2)) (yI_r xs (i + 2))
  refine lv_aload_n hx hb dL_law_1633 rfl (lv_at hl 3 rfl) ?_
  refine la_arg (j := 1) C0 (by omega) rfl 4 0 hl rfl rfl hS dL_law_1634 dL_law_1635 dL_law_1637 dL_law_1638 dL_law_1639 ?_
  refine la_arg (j := 2) C0 (by omega) rfl 4 0 hl rfl rfl hS dL_law_1640 dL_law_1641 dL_law_1643 dL_law_1644 dL_law_1645 ?_
  refine lv_aload_n hx hb dL_law_1646 rfl (lv_at hl 1 rfl) ?_
  refine lw_A (P := W3 (kA (aSet Q (yI xs (i + 1)) (yI xs (i + 2))).1 0 1 0) (Wn w0 (kA (aSet Q (yI xs (i + 1)) (yI xs (i + 2))).1 0 1 0) (CW τ x (aSet Q (yI xs (i + 1)) (yI xs (i + 2))).2 (mN n) (rmB n B Q).2 V K t S) (CW τ x Q n B V K t S))) C0 hM hp0 (fun w1 h => h.2.1) gl_L_set cd_L_set rfl ⟨rfl, rfl⟩ ⟨Nat.le_of_ble_eq_true rfl, Nat.le_of_ble_eq_true rfl⟩ hP hD hS rfl hl rfl dL_law_1647 dL_law_1650 hc rfl (fun z w9 H locs ls hz hw9 hP hD hS hl => ?_)
  refine lv_aload_n hx hb dL_law_1652 rfl (lv_at hl 3 rfl) ?_
  refine la_arg (j := 1) C0 (by omega) rfl 5 1 hl rfl rfl hS dL_law_1653 dL_law_1654 dL_law_1656 dL_law_1657 dL_law_1658 ?_
  refine la_arg (j := 2) C0 (by omega) rfl 5 1 hl rfl rfl hS dL_law_1659 dL_law_1660 dL_law_1662 dL_law_1663 dL_law_1664 ?_
  refine lw_M (P := fun _ => True) (rest := []) C0 hmw hN gl_X10_set cd_X10_set rfl rfl ⟨rfl, rfl⟩ ⟨Nat.le_of_ble_eq_true rfl, Nat.le_of_ble_eq_true rfl⟩ hP hD hS rfl hl rfl (Nat.le_of_ble_eq_true rfl) dL_law_1665 hc (fun r wm9 H locs hr hm0 hm1 hmt hP hD hS => ?_)
  refine lw_C (off := 743) C0 ⟨dL_law_1668, dL_law_1670, dL_law_1671, dL_law_1674, dL_law_1676, dL_law_1681, dL_law_1683, dL_law_1686, dL_law_1687, dL_law_1688, dL_law_1689, dL_law_1691, dL_law_1692, dL_law_1693, dL_law_1698, by decide⟩ hmt hz hr hw9.1 hP hl rfl rfl rfl rfl rfl hc (fun ls hl => ?_)
  have hl := lv_sub hl [2, 3, 4, 5, 6] rfl
  refine kk z w9 wm9 H locs ls ?_ hP hD hS hl
  by_cases hk : kA (aSet Q (yI xs (i + 1)) (yI xs (i + 2))).1 0 1 0 = 0
  · exact ⟨_, _, _, _, _, _, _, _, hw9.2.2.1 hk, hm0 hk⟩
  · exact ⟨_, _, _, _, _, _, _, _, hw9.2.2.2 hk, hm1 hk⟩

set_option maxRecDepth 100000 in
theorem lc_undo (hst : l.stackTraces = false) (C0 : LC p s m meth c b L xs g τ A) {i : Nat} (hi : i + 6 ≤ L) (hj : JW τ x mm w wm) (hP : va_P g vwCl ([outC oa z τ] ++ (w ++ wm)) H) (hD : va_D A ([outC oa z τ] ++ (w ++ wm))) (hS : va_S A s.heap H locs) (hl : lv_has ls 7 [(4, .int (iI (i : Int))), (3, .ref oa), (2, .ref mm), (1, .ref x), (0, .ref b)]) (hc : cells + 1 ≤ 601024 ∧ slots + 6 ≤ 7293034) (kk : lwK p l e s m below meth c cells slots QQ g τ A x mm oa b i) : W p l e room_1 s m #[Value.ref b] below meth c H locs cells slots QQ (F0 m 1701 ls []) := by
  have hx := C0.1.1
  have hb := C0.1.2.1
  obtain ⟨Q, n, B, V, K, t, S, k0, hcw, hmw⟩ := hj
  obtain ⟨w0, hp0, hM⟩ := f_undo l hst g τ x oa z hcw 
  have hN := h_undo l g τ hmw 
  refine lv_aload_n hx hb dL_law_1701 rfl (lv_at hl 3 rfl) ?_
  refine lv_aload_n hx hb dL_law_1702 rfl (lv_at hl 1 rfl) ?_
  refine lw_A (P := W3 ((if n = 0 then 1 else 0 : Int)) (Wn w0 ((if n = 0 then 1 else 0 : Int)) (CW τ x (B (n - 1).toNat) (n - 1) B V K t S) (CW τ x Q n B V K t S))) C0 hM hp0 (fun w1 h => h.2.1) gl_L_undo cd_L_undo rfl ⟨rfl, rfl⟩ ⟨Nat.le_of_ble_eq_true rfl, Nat.le_of_ble_eq_true rfl⟩ hP hD hS rfl hl rfl dL_law_1703 dL_law_1706 hc rfl (fun z w9 H locs ls hz hw9 hP hD hS hl => ?_)
  refine lv_aload_n hx hb dL_law_1708 rfl (lv_at hl 3 rfl) ?_
  refine lw_M (P := fun _ => True) (rest := []) C0 hmw hN gl_X10_undo cd_X10_undo rfl rfl ⟨rfl, rfl⟩ ⟨Nat.le_of_ble_eq_true rfl, Nat.le_of_ble_eq_true rfl⟩ hP hD hS rfl hl rfl (Nat.le_of_ble_eq_true rfl) dL_law_1709 hc (fun r wm9 H locs hr hm0 hm1 hmt hP hD hS => ?_)
  refine lw_C (off := 699) C0 ⟨dL_law_1712, dL_law_1714, dL_law_1715, dL_law_1718, dL_law_1720, dL_law_1725, dL_law_1727, dL_law_1730, dL_law_1731, dL_law_1732, dL_law_1733, dL_law_1735, dL_law_1736, dL_law_1737, dL_law_1742, by decide⟩ hmt hz hr hw9.1 hP hl rfl rfl rfl rfl rfl hc (fun ls hl => ?_)
  have hl := lv_sub hl [2, 3, 4, 5, 6] rfl
  refine kk z w9 wm9 H locs ls ?_ hP hD hS hl
  by_cases hk : (if n = 0 then 1 else 0 : Int) = 0
  · exact ⟨_, _, _, _, _, _, _, _, hw9.2.2.1 hk, hm0 hk⟩
  · exact ⟨_, _, _, _, _, _, _, _, hw9.2.2.2 hk, hm1 hk⟩

set_option maxRecDepth 100000 in
theorem lc_older (hst : l.stackTraces = false) (C0 : LC p s m meth c b L xs g τ A) {i : Nat} (hi : i + 6 ≤ L) (hj : JW τ x mm w wm) (hP : va_P g vwCl ([outC oa z τ] ++ (w ++ wm)) H) (hD : va_D A ([outC oa z τ] ++ (w ++ wm))) (hS : va_S A s.heap H locs) (hl : lv_has ls 7 [(4, .int (iI (i : Int))), (3, .ref oa), (2, .ref mm), (1, .ref x), (0, .ref b)]) (hc : cells + 1 ≤ 601024 ∧ slots + 6 ≤ 7293034) (kk : lwK p l e s m below meth c cells slots QQ g τ A x mm oa b i) : W p l e room_1 s m #[Value.ref b] below meth c H locs cells slots QQ (F0 m 1745 ls []) := by
  have hx := C0.1.1
  have hb := C0.1.2.1
  obtain ⟨Q, n, B, V, K, t, S, k0, hcw, hmw⟩ := hj
  obtain ⟨w0, hp0, hM⟩ := f_older l hst g τ x oa z hcw (yI xs (i + 1)) (yI_r xs (i + 1)) (yI xs (i + 2)) (yI_r xs (i + 2))
  have hN := h_older l g τ hmw (yI xs (i + 1)) (yI_r xs (i + 1)) (yI xs (i + 2)) (yI_r xs (i + 2))
  refine lv_aload_n hx hb dL_law_1745 rfl (lv_at hl 3 rfl) ?_
  refine la_arg (j := 1) C0 (by omega) rfl 4 0 hl rfl rfl hS dL_law_1746 dL_law_1747 dL_law_1749 dL_law_1750 dL_law_1751 ?_
  refine la_arg (j := 2) C0 (by omega) rfl 4 0 hl rfl rfl hS dL_law_1752 dL_law_1753 dL_law_1755 dL_law_1756 dL_law_1757 ?_
  refine lv_aload_n hx hb dL_law_1758 rfl (lv_at hl 1 rfl) ?_
  refine lw_A (P := W3 ((pOlder Q (yI xs (i + 1)) (yI xs (i + 2))).1) (Wn w0 ((pOlder Q (yI xs (i + 1)) (yI xs (i + 2))).1) (CW τ x Q n B V K t S) (CW τ x Q n B V K t S))) C0 hM hp0 (fun w1 h => h.2.1) gl_L_older cd_L_older rfl ⟨rfl, rfl⟩ ⟨Nat.le_of_ble_eq_true rfl, Nat.le_of_ble_eq_true rfl⟩ hP hD hS rfl hl rfl dL_law_1759 dL_law_1762 hc rfl (fun z w9 H locs ls hz hw9 hP hD hS hl => ?_)
  refine lv_aload_n hx hb dL_law_1764 rfl (lv_at hl 3 rfl) ?_
  refine la_arg (j := 1) C0 (by omega) rfl 5 1 hl rfl rfl hS dL_law_1765 dL_law_1766 dL_law_1768 dL_law_1769 dL_law_1770 ?_
  refine la_arg (j := 2) C0 (by omega) rfl 5 1 hl rfl rfl hS dL_law_1771 dL_law_1772 dL_law_1774 dL_law_1775 dL_law_1776 ?_
  refine lw_M (P := fun _ => True) (rest := []) C0 hmw hN gl_X10_older cd_X10_older rfl rfl ⟨rfl, rfl⟩ ⟨Nat.le_of_ble_eq_true rfl, Nat.le_of_ble_eq_true rfl⟩ hP hD hS rfl hl rfl (Nat.le_of_ble_eq_true rfl) dL_law_1777 hc (fun r wm9 H locs hr hm0 hm1 hmt hP hD hS => ?_)
  refine lw_C (off := 631) C0 ⟨dL_law_1780, dL_law_1782, dL_law_1783, dL_law_1786, dL_law_1788, dL_law_1793, dL_law_1795, dL_law_1798, dL_law_1799, dL_law_1800, dL_law_1801, dL_law_1803, dL_law_1804, dL_law_1805, dL_law_1810, by decide⟩ hmt hz hr hw9.1 hP hl rfl rfl rfl rfl rfl hc (fun ls hl => ?_)
  have hl := lv_sub hl [2, 3, 4, 5, 6] rfl
  refine kk z w9 wm9 H locs ls ?_ hP hD hS hl
  by_cases hk : (pOlder Q (yI xs (i + 1)) (yI xs (i + 2))).1 = 0
  · exact ⟨_, _, _, _, _, _, _, _, hw9.2.2.1 hk, hm0 hk⟩
  · exact ⟨_, _, _, _, _, _, _, _, hw9.2.2.2 hk, hm1 hk⟩

set_option maxRecDepth 100000 in
theorem lc_decides (hst : l.stackTraces = false) (C0 : LC p s m meth c b L xs g τ A) {i : Nat} (hi : i + 6 ≤ L) (hj : JW τ x mm w wm) (hP : va_P g vwCl ([outC oa z τ] ++ (w ++ wm)) H) (hD : va_D A ([outC oa z τ] ++ (w ++ wm))) (hS : va_S A s.heap H locs) (hl : lv_has ls 7 [(4, .int (iI (i : Int))), (3, .ref oa), (2, .ref mm), (1, .ref x), (0, .ref b)]) (hc : cells + 1 ≤ 601024 ∧ slots + 6 ≤ 7293034) (kk : lwK p l e s m below meth c cells slots QQ g τ A x mm oa b i) : W p l e room_1 s m #[Value.ref b] below meth c H locs cells slots QQ (F0 m 1813 ls []) := by
  have hx := C0.1.1
  have hb := C0.1.2.1
  obtain ⟨Q, n, B, V, K, t, S, k0, hcw, hmw⟩ := hj
  obtain ⟨w0, hp0, hM⟩ := f_decides l hst g τ x oa z hcw (yI xs (i + 1)) (yI_r xs (i + 1))
  have hN := h_decides l g τ hmw (yI xs (i + 1)) (yI_r xs (i + 1))
  refine lv_aload_n hx hb dL_law_1813 rfl (lv_at hl 3 rfl) ?_
  refine la_arg (j := 1) C0 (by omega) rfl 4 0 hl rfl rfl hS dL_law_1814 dL_law_1815 dL_law_1817 dL_law_1818 dL_law_1819 ?_
  refine lv_aload_n hx hb dL_law_1820 rfl (lv_at hl 1 rfl) ?_
  refine lw_A (P := W3 ((pDec Q (yI xs (i + 1))).1) (Wn w0 ((pDec Q (yI xs (i + 1))).1) (CW τ x Q n B V K t S) (CW τ x Q n B V K t S))) C0 hM hp0 (fun w1 h => h.2.1) gl_L_decides cd_L_decides rfl ⟨rfl, rfl⟩ ⟨Nat.le_of_ble_eq_true rfl, Nat.le_of_ble_eq_true rfl⟩ hP hD hS rfl hl rfl dL_law_1821 dL_law_1824 hc rfl (fun z w9 H locs ls hz hw9 hP hD hS hl => ?_)
  refine lv_aload_n hx hb dL_law_1826 rfl (lv_at hl 3 rfl) ?_
  refine la_arg (j := 1) C0 (by omega) rfl 5 1 hl rfl rfl hS dL_law_1827 dL_law_1828 dL_law_1830 dL_law_1831 dL_law_1832 ?_
  refine lw_M (P := fun _ => True) (rest := []) C0 hmw hN gl_X10_decides cd_X10_decides rfl rfl ⟨rfl, rfl⟩ ⟨Nat.le_of_ble_eq_true rfl, Nat.le_of_ble_eq_true rfl⟩ hP hD hS rfl hl rfl (Nat.le_of_ble_eq_true rfl) dL_law_1833 hc (fun r wm9 H locs hr hm0 hm1 hmt hP hD hS => ?_)
  refine lw_C (off := 575) C0 ⟨dL_law_1836, dL_law_1838, dL_law_1839, dL_law_1842, dL_law_1844, dL_law_1849, dL_law_1851, dL_law_1854, dL_law_1855, dL_law_1856, dL_law_1857, dL_law_1859, dL_law_1860, dL_law_1861, dL_law_1866, by decide⟩ hmt hz hr hw9.1 hP hl rfl rfl rfl rfl rfl hc (fun ls hl => ?_)
  have hl := lv_sub hl [2, 3, 4, 5, 6] rfl
  refine kk z w9 wm9 H locs ls ?_ hP hD hS hl
  by_cases hk : (pDec Q (yI xs (i + 1))).1 = 0
  · exact ⟨_, _, _, _, _, _, _, _, hw9.2.2.1 hk, hm0 hk⟩
  · exact ⟨_, _, _, _, _, _, _, _, hw9.2.2.2 hk, hm1 hk⟩

set_option maxRecDepth 100000 in
theorem lc_ifCracked (hst : l.stackTraces = false) (C0 : LC p s m meth c b L xs g τ A) {i : Nat} (hi : i + 6 ≤ L) (hj : JW τ x mm w wm) (hP : va_P g vwCl ([outC oa z τ] ++ (w ++ wm)) H) (hD : va_D A ([outC oa z τ] ++ (w ++ wm))) (hS : va_S A s.heap H locs) (hl : lv_has ls 7 [(4, .int (iI (i : Int))), (3, .ref oa), (2, .ref mm), (1, .ref x), (0, .ref b)]) (hc : cells + 1 ≤ 601024 ∧ slots + 6 ≤ 7293034) (kk : lwK p l e s m below meth c cells slots QQ g τ A x mm oa b i) : W p l e room_1 s m #[Value.ref b] below meth c H locs cells slots QQ (F0 m 1869 ls []) := by
  have hx := C0.1.1
  have hb := C0.1.2.1
  obtain ⟨Q, n, B, V, K, t, S, k0, hcw, hmw⟩ := hj
  obtain ⟨w0, hp0, hM⟩ := f_ifCracked l hst g τ x oa z hcw (yI xs (i + 1)) (yI_r xs (i + 1)) (yI xs (i + 2)) (yI_r xs (i + 2))
  have hN := h_ifCracked l g τ hmw (yI xs (i + 1)) (yI_r xs (i + 1)) (yI xs (i + 2)) (yI_r xs (i + 2))
  refine lv_aload_n hx hb dL_law_1869 rfl (lv_at hl 3 rfl) ?_
  refine la_arg (j := 1) C0 (by omega) rfl 4 0 hl rfl rfl hS dL_law_1870 dL_law_1871 dL_law_1873 dL_law_1874 dL_law_1875 ?_
  refine la_arg (j := 2) C0 (by omega) rfl 4 0 hl rfl rfl hS dL_law_1876 dL_law_1877 dL_law_1879 dL_law_1880 dL_law_1881 ?_
  refine lv_aload_n hx hb dL_law_1882 rfl (lv_at hl 1 rfl) ?_
  refine lw_A (P := W3 (kA (aCrack Q (yI xs (i + 1)) (yI xs (i + 2))).1 1 2 3) (Wn w0 (kA (aCrack Q (yI xs (i + 1)) (yI xs (i + 2))).1 1 2 3) (CW τ x Q n B V K t S) (CW τ x Q n B V K t S))) C0 hM hp0 (fun w1 h => h.2.1) gl_L_ifCracked cd_L_ifCracked rfl ⟨rfl, rfl⟩ ⟨Nat.le_of_ble_eq_true rfl, Nat.le_of_ble_eq_true rfl⟩ hP hD hS rfl hl rfl dL_law_1883 dL_law_1886 hc rfl (fun z w9 H locs ls hz hw9 hP hD hS hl => ?_)
  refine lv_aload_n hx hb dL_law_1888 rfl (lv_at hl 3 rfl) ?_
  refine la_arg (j := 1) C0 (by omega) rfl 5 1 hl rfl rfl hS dL_law_1889 dL_law_1890 dL_law_1892 dL_law_1893 dL_law_1894 ?_
  refine la_arg (j := 2) C0 (by omega) rfl 5 1 hl rfl rfl hS dL_law_1895 dL_law_1896 dL_law_1898 dL_law_1899 dL_law_1900 ?_
  refine lw_M (P := fun _ => True) (rest := []) C0 hmw hN gl_X10_ifCracked cd_X10_ifCracked rfl rfl ⟨rfl, rfl⟩ ⟨Nat.le_of_ble_eq_true rfl, Nat.le_of_ble_eq_true rfl⟩ hP hD hS rfl hl rfl (Nat.le_of_ble_eq_true rfl) dL_law_1901 hc (fun r wm9 H locs hr hm0 hm1 hmt hP hD hS => ?_)
  refine lw_C (off := 507) C0 ⟨dL_law_1904, dL_law_1906, dL_law_1907, dL_law_1910, dL_law_1912, dL_law_1917, dL_law_1919, dL_law_1922, dL_law_1923, dL_law_1924, dL_law_1925, dL_law_1927, dL_law_1928, dL_law_1929, dL_law_1934, by decide⟩ hmt hz hr hw9.1 hP hl rfl rfl rfl rfl rfl hc (fun ls hl => ?_)
  have hl := lv_sub hl [2, 3, 4, 5, 6] rfl
  refine kk z w9 wm9 H locs ls ?_ hP hD hS hl
  by_cases hk : kA (aCrack Q (yI xs (i + 1)) (yI xs (i + 2))).1 1 2 3 = 0
  · exact ⟨_, _, _, _, _, _, _, _, hw9.2.2.1 hk, hm0 hk⟩
  · exact ⟨_, _, _, _, _, _, _, _, hw9.2.2.2 hk, hm1 hk⟩

set_option maxRecDepth 100000 in
theorem lc_ifHung (hst : l.stackTraces = false) (C0 : LC p s m meth c b L xs g τ A) {i : Nat} (hi : i + 6 ≤ L) (hj : JW τ x mm w wm) (hP : va_P g vwCl ([outC oa z τ] ++ (w ++ wm)) H) (hD : va_D A ([outC oa z τ] ++ (w ++ wm))) (hS : va_S A s.heap H locs) (hl : lv_has ls 7 [(4, .int (iI (i : Int))), (3, .ref oa), (2, .ref mm), (1, .ref x), (0, .ref b)]) (hc : cells + 1 ≤ 601024 ∧ slots + 6 ≤ 7293034) (kk : lwK p l e s m below meth c cells slots QQ g τ A x mm oa b i) : W p l e room_1 s m #[Value.ref b] below meth c H locs cells slots QQ (F0 m 1937 ls []) := by
  have hx := C0.1.1
  have hb := C0.1.2.1
  obtain ⟨Q, n, B, V, K, t, S, k0, hcw, hmw⟩ := hj
  obtain ⟨w0, hp0, hM⟩ := f_ifHung l hst g τ x oa z hcw (yI xs (i + 1)) (yI_r xs (i + 1)) (yI xs (i + 2)) (yI_r xs (i + 2))
  have hN := h_ifHung l g τ hmw (yI xs (i + 1)) (yI_r xs (i + 1)) (yI xs (i + 2)) (yI_r xs (i + 2))
  refine lv_aload_n hx hb dL_law_1937 rfl (lv_at hl 3 rfl) ?_
  refine la_arg (j := 1) C0 (by omega) rfl 4 0 hl rfl rfl hS dL_law_1938 dL_law_1939 dL_law_1941 dL_law_1942 dL_law_1943 ?_
  refine la_arg (j := 2) C0 (by omega) rfl 4 0 hl rfl rfl hS dL_law_1944 dL_law_1945 dL_law_1947 dL_law_1948 dL_law_1949 ?_
  refine lv_aload_n hx hb dL_law_1950 rfl (lv_at hl 1 rfl) ?_
  refine lw_A (P := W3 (kA (aHang Q (yI xs (i + 1)) (yI xs (i + 2))).1 1 0 0) (Wn w0 (kA (aHang Q (yI xs (i + 1)) (yI xs (i + 2))).1 1 0 0) (CW τ x Q n B V K t S) (CW τ x Q n B V K t S))) C0 hM hp0 (fun w1 h => h.2.1) gl_L_ifHung cd_L_ifHung rfl ⟨rfl, rfl⟩ ⟨Nat.le_of_ble_eq_true rfl, Nat.le_of_ble_eq_true rfl⟩ hP hD hS rfl hl rfl dL_law_1951 dL_law_1954 hc rfl (fun z w9 H locs ls hz hw9 hP hD hS hl => ?_)
  refine lv_aload_n hx hb dL_law_1956 rfl (lv_at hl 3 rfl) ?_
  refine la_arg (j := 1) C0 (by omega) rfl 5 1 hl rfl rfl hS dL_law_1957 dL_law_1958 dL_law_1960 dL_law_1961 dL_law_1962 ?_
  refine la_arg (j := 2) C0 (by omega) rfl 5 1 hl rfl rfl hS dL_law_1963 dL_law_1964 dL_law_1966 dL_law_1967 dL_law_1968 ?_
  refine lw_M (P := fun _ => True) (rest := []) C0 hmw hN gl_X10_ifHung cd_X10_ifHung rfl rfl ⟨rfl, rfl⟩ ⟨Nat.le_of_ble_eq_true rfl, Nat.le_of_ble_eq_true rfl⟩ hP hD hS rfl hl rfl (Nat.le_of_ble_eq_true rfl) dL_law_1969 hc (fun r wm9 H locs hr hm0 hm1 hmt hP hD hS => ?_)
  refine lw_C (off := 439) C0 ⟨dL_law_1972, dL_law_1974, dL_law_1975, dL_law_1978, dL_law_1980, dL_law_1985, dL_law_1987, dL_law_1990, dL_law_1991, dL_law_1992, dL_law_1993, dL_law_1995, dL_law_1996, dL_law_1997, dL_law_2002, by decide⟩ hmt hz hr hw9.1 hP hl rfl rfl rfl rfl rfl hc (fun ls hl => ?_)
  have hl := lv_sub hl [2, 3, 4, 5, 6] rfl
  refine kk z w9 wm9 H locs ls ?_ hP hD hS hl
  by_cases hk : kA (aHang Q (yI xs (i + 1)) (yI xs (i + 2))).1 1 0 0 = 0
  · exact ⟨_, _, _, _, _, _, _, _, hw9.2.2.1 hk, hm0 hk⟩
  · exact ⟨_, _, _, _, _, _, _, _, hw9.2.2.2 hk, hm1 hk⟩

set_option maxRecDepth 100000 in
theorem lc_inYear (hst : l.stackTraces = false) (C0 : LC p s m meth c b L xs g τ A) {i : Nat} (hi : i + 6 ≤ L) (hj : JW τ x mm w wm) (hP : va_P g vwCl ([outC oa z τ] ++ (w ++ wm)) H) (hD : va_D A ([outC oa z τ] ++ (w ++ wm))) (hS : va_S A s.heap H locs) (hl : lv_has ls 7 [(4, .int (iI (i : Int))), (3, .ref oa), (2, .ref mm), (1, .ref x), (0, .ref b)]) (hc : cells + 1 ≤ 601024 ∧ slots + 6 ≤ 7293034) (kk : lwK p l e s m below meth c cells slots QQ g τ A x mm oa b i) : W p l e room_1 s m #[Value.ref b] below meth c H locs cells slots QQ (F0 m 2005 ls []) := by
  have hx := C0.1.1
  have hb := C0.1.2.1
  obtain ⟨Q, n, B, V, K, t, S, k0, hcw, hmw⟩ := hj
  obtain ⟨w0, hp0, hM⟩ := f_inYear l hst g τ x oa z hcw (yI xs (i + 1)) (yI_r xs (i + 1))
  have hN := h_inYear l g τ hmw (yI xs (i + 1)) (yI_r xs (i + 1))
  refine lv_aload_n hx hb dL_law_2005 rfl (lv_at hl 3 rfl) ?_
  refine la_arg (j := 1) C0 (by omega) rfl 4 0 hl rfl rfl hS dL_law_2006 dL_law_2007 dL_law_2009 dL_law_2010 dL_law_2011 ?_
  refine lv_aload_n hx hb dL_law_2012 rfl (lv_at hl 1 rfl) ?_
  refine lw_A (P := W3 ((pIn Q (yI xs (i + 1))).1) (Wn w0 ((pIn Q (yI xs (i + 1))).1) (CW τ x Q n B V K t S) (CW τ x Q n B V K t S))) C0 hM hp0 (fun w1 h => h.2.1) gl_L_inYear cd_L_inYear rfl ⟨rfl, rfl⟩ ⟨Nat.le_of_ble_eq_true rfl, Nat.le_of_ble_eq_true rfl⟩ hP hD hS rfl hl rfl dL_law_2013 dL_law_2016 hc rfl (fun z w9 H locs ls hz hw9 hP hD hS hl => ?_)
  refine lv_aload_n hx hb dL_law_2018 rfl (lv_at hl 3 rfl) ?_
  refine la_arg (j := 1) C0 (by omega) rfl 5 1 hl rfl rfl hS dL_law_2019 dL_law_2020 dL_law_2022 dL_law_2023 dL_law_2024 ?_
  refine lw_M (P := fun _ => True) (rest := []) C0 hmw hN gl_X10_inYear cd_X10_inYear rfl rfl ⟨rfl, rfl⟩ ⟨Nat.le_of_ble_eq_true rfl, Nat.le_of_ble_eq_true rfl⟩ hP hD hS rfl hl rfl (Nat.le_of_ble_eq_true rfl) dL_law_2025 hc (fun r wm9 H locs hr hm0 hm1 hmt hP hD hS => ?_)
  refine lw_C (off := 383) C0 ⟨dL_law_2028, dL_law_2030, dL_law_2031, dL_law_2034, dL_law_2036, dL_law_2041, dL_law_2043, dL_law_2046, dL_law_2047, dL_law_2048, dL_law_2049, dL_law_2051, dL_law_2052, dL_law_2053, dL_law_2058, by decide⟩ hmt hz hr hw9.1 hP hl rfl rfl rfl rfl rfl hc (fun ls hl => ?_)
  have hl := lv_sub hl [2, 3, 4, 5, 6] rfl
  refine kk z w9 wm9 H locs ls ?_ hP hD hS hl
  by_cases hk : (pIn Q (yI xs (i + 1))).1 = 0
  · exact ⟨_, _, _, _, _, _, _, _, hw9.2.2.1 hk, hm0 hk⟩
  · exact ⟨_, _, _, _, _, _, _, _, hw9.2.2.2 hk, hm1 hk⟩

set_option maxRecDepth 100000 in
theorem lc_leastBubbles (hst : l.stackTraces = false) (C0 : LC p s m meth c b L xs g τ A) {i : Nat} (hi : i + 6 ≤ L) (hj : JW τ x mm w wm) (hP : va_P g vwCl ([outC oa z τ] ++ (w ++ wm)) H) (hD : va_D A ([outC oa z τ] ++ (w ++ wm))) (hS : va_S A s.heap H locs) (hl : lv_has ls 7 [(4, .int (iI (i : Int))), (3, .ref oa), (2, .ref mm), (1, .ref x), (0, .ref b)]) (hc : cells + 1 ≤ 601024 ∧ slots + 6 ≤ 7293034) (kk : lwK p l e s m below meth c cells slots QQ g τ A x mm oa b i) : W p l e room_1 s m #[Value.ref b] below meth c H locs cells slots QQ (F0 m 2061 ls []) := by
  have hx := C0.1.1
  have hb := C0.1.2.1
  obtain ⟨Q, n, B, V, K, t, S, k0, hcw, hmw⟩ := hj
  obtain ⟨w0, hp0, hM⟩ := f_leastBubbles l hst g τ x oa z hcw (yI xs (i + 1)) (yI_r xs (i + 1)) (yI xs (i + 2)) (yI_r xs (i + 2))
  have hN := h_leastBubbles l g τ hmw (yI xs (i + 1)) (yI_r xs (i + 1)) (yI xs (i + 2)) (yI_r xs (i + 2))
  refine lv_aload_n hx hb dL_law_2061 rfl (lv_at hl 3 rfl) ?_
  refine la_arg (j := 1) C0 (by omega) rfl 4 0 hl rfl rfl hS dL_law_2062 dL_law_2063 dL_law_2065 dL_law_2066 dL_law_2067 ?_
  refine la_arg (j := 2) C0 (by omega) rfl 4 0 hl rfl rfl hS dL_law_2068 dL_law_2069 dL_law_2071 dL_law_2072 dL_law_2073 ?_
  refine lv_aload_n hx hb dL_law_2074 rfl (lv_at hl 1 rfl) ?_
  refine lw_A (P := W3 (kLb (yI xs (i + 1)) (yI xs (i + 2))) (Wn w0 (kLb (yI xs (i + 1)) (yI xs (i + 2))) (CW τ x Q n B V K t S) (CW τ x Q n B V K t S))) C0 hM hp0 (fun w1 h => h.2.1) gl_L_leastBubbles cd_L_leastBubbles rfl ⟨rfl, rfl⟩ ⟨Nat.le_of_ble_eq_true rfl, Nat.le_of_ble_eq_true rfl⟩ hP hD hS rfl hl rfl dL_law_2075 dL_law_2078 hc rfl (fun z w9 H locs ls hz hw9 hP hD hS hl => ?_)
  refine lv_aload_n hx hb dL_law_2080 rfl (lv_at hl 3 rfl) ?_
  refine la_arg (j := 1) C0 (by omega) rfl 5 1 hl rfl rfl hS dL_law_2081 dL_law_2082 dL_law_2084 dL_law_2085 dL_law_2086 ?_
  refine la_arg (j := 2) C0 (by omega) rfl 5 1 hl rfl rfl hS dL_law_2087 dL_law_2088 dL_law_2090 dL_law_2091 dL_law_2092 ?_
  refine lw_M (P := fun _ => True) (rest := []) C0 hmw hN gl_X10_leastBubbles cd_X10_leastBubbles rfl rfl ⟨rfl, rfl⟩ ⟨Nat.le_of_ble_eq_true rfl, Nat.le_of_ble_eq_true rfl⟩ hP hD hS rfl hl rfl (Nat.le_of_ble_eq_true rfl) dL_law_2093 hc (fun r wm9 H locs hr hm0 hm1 hmt hP hD hS => ?_)
  refine lw_C (off := 315) C0 ⟨dL_law_2096, dL_law_2098, dL_law_2099, dL_law_2102, dL_law_2104, dL_law_2109, dL_law_2111, dL_law_2114, dL_law_2115, dL_law_2116, dL_law_2117, dL_law_2119, dL_law_2120, dL_law_2121, dL_law_2126, by decide⟩ hmt hz hr hw9.1 hP hl rfl rfl rfl rfl rfl hc (fun ls hl => ?_)
  have hl := lv_sub hl [2, 3, 4, 5, 6] rfl
  refine kk z w9 wm9 H locs ls ?_ hP hD hS hl
  by_cases hk : kLb (yI xs (i + 1)) (yI xs (i + 2)) = 0
  · exact ⟨_, _, _, _, _, _, _, _, hw9.2.2.1 hk, hm0 hk⟩
  · exact ⟨_, _, _, _, _, _, _, _, hw9.2.2.2 hk, hm1 hk⟩

set_option maxRecDepth 100000 in
theorem lc_runScript (hst : l.stackTraces = false) (C0 : LC p s m meth c b L xs g τ A) {i : Nat} (hi : i + 6 ≤ L) (hj : JW τ x mm w wm) (hP : va_P g vwCl ([outC oa z τ] ++ (w ++ wm)) H) (hD : va_D A ([outC oa z τ] ++ (w ++ wm))) (hS : va_S A s.heap H locs) (hl : lv_has ls 7 [(4, .int (iI (i : Int))), (3, .ref oa), (2, .ref mm), (1, .ref x), (0, .ref b)]) (hc : cells + 1 ≤ 601024 ∧ slots + 6 ≤ 7293034) (kk : lwK p l e s m below meth c cells slots QQ g τ A x mm oa b i) : W p l e room_1 s m #[Value.ref b] below meth c H locs cells slots QQ (F0 m 2129 ls []) := by
  have hx := C0.1.1
  have hb := C0.1.2.1
  have hown := C0.1.2.2.2.1
  have hts := C0.1.2.2.2.2
  obtain ⟨Q, n, B, V, K, t, S, k0, hcw, hmw⟩ := hj
  obtain ⟨w0, hp0, hM⟩ := f_runScript l hst g τ x oa z hcw (yI xs (i + 1)) (yI_r xs (i + 1)) (l64 (yI xs (i + 2)) (yI xs (i + 3))).toInt (l64_r (l64 (yI xs (i + 2)) (yI xs (i + 3))))
  have hN := h_runScript l g τ hmw (yI xs (i + 1)) (yI_r xs (i + 1)) (l64 (yI xs (i + 2)) (yI xs (i + 3))).toInt (l64_r (l64 (yI xs (i + 2)) (yI xs (i + 3))))
  refine lv_aload_n hx hb dL_law_2129 rfl (lv_at hl 3 rfl) ?_
  refine la_arg (j := 1) C0 (by omega) rfl 4 0 hl rfl rfl hS dL_law_2130 dL_law_2131 dL_law_2133 dL_law_2134 dL_law_2135 ?_
  refine la_arg (j := 2) C0 (by omega) rfl 4 0 hl rfl rfl hS dL_law_2136 dL_law_2137 dL_law_2139 dL_law_2140 dL_law_2141 ?_
  refine lv_i2l (v := (iI (yI xs (i + 2))).toInt64) hx hb dL_law_2142 rfl ?_
  refine lv_bipush (v := iI 32) hx hb dL_law_2143 (by decide) ?_
  refine lv_lshl (v := (iI (yI xs (i + 2))).toInt64 <<< ((iI 32).toInt64 &&& 63)) hx hb dL_law_2145 rfl ?_
  refine la_arg (j := 3) C0 (by omega) rfl 4 0 hl rfl rfl hS dL_law_2146 dL_law_2147 dL_law_2149 dL_law_2150 dL_law_2151 ?_
  refine lv_i2l (v := (iI (yI xs (i + 3))).toInt64) hx hb dL_law_2152 rfl ?_
  refine lv_ldc2 (v := 4294967295) hx hb hown (hts _ mw_1460) dL_law_2153 ?_
  refine lv_land hx hb dL_law_2156 ?_
  refine lv_lor hx hb dL_law_2157 ?_
  refine cv_l (y := iL (l64 (yI xs (i + 2)) (yI xs (i + 3))).toInt) (l64_eq (yI xs (i + 2)) (yI xs (i + 3))) ?_
  refine lv_aload_n hx hb dL_law_2158 rfl (lv_at hl 1 rfl) ?_
  refine lw_A (P := W3 (kRn (yI xs (i + 1)) (l64 (yI xs (i + 2)) (yI xs (i + 3))).toInt) (Wn w0 (kRn (yI xs (i + 1)) (l64 (yI xs (i + 2)) (yI xs (i + 3))).toInt) (CW τ x Q n B V K t S) (CW τ x Q n B V K t S))) C0 hM hp0 (fun w1 h => h.2.1) gl_L_runScript cd_L_runScript rfl ⟨rfl, rfl⟩ ⟨Nat.le_of_ble_eq_true rfl, Nat.le_of_ble_eq_true rfl⟩ hP hD hS rfl hl rfl dL_law_2159 dL_law_2162 hc rfl (fun z w9 H locs ls hz hw9 hP hD hS hl => ?_)
  refine lv_aload_n hx hb dL_law_2164 rfl (lv_at hl 3 rfl) ?_
  refine la_arg (j := 1) C0 (by omega) rfl 5 1 hl rfl rfl hS dL_law_2165 dL_law_2166 dL_law_2168 dL_law_2169 dL_law_2170 ?_
  refine la_arg (j := 2) C0 (by omega) rfl 5 1 hl rfl rfl hS dL_law_2171 dL_law_2172 dL_law_2174 dL_law_2175 dL_law_2176 ?_
  refine lv_i2l (v := (iI (yI xs (i + 2))).toInt64) hx hb dL_law_2177 rfl ?_
  refine lv_bipush (v := iI 32) hx hb dL_law_2178 (by decide) ?_
  refine lv_lshl (v := (iI (yI xs (i + 2))).toInt64 <<< ((iI 32).toInt64 &&& 63)) hx hb dL_law_2180 rfl ?_
  refine la_arg (j := 3) C0 (by omega) rfl 5 1 hl rfl rfl hS dL_law_2181 dL_law_2182 dL_law_2184 dL_law_2185 dL_law_2186 ?_
  refine lv_i2l (v := (iI (yI xs (i + 3))).toInt64) hx hb dL_law_2187 rfl ?_
  refine lv_ldc2 (v := 4294967295) hx hb hown (hts _ mw_1460) dL_law_2188 ?_
  refine lv_land hx hb dL_law_2191 ?_
  refine lv_lor hx hb dL_law_2192 ?_
  refine cv_l (y := iL (l64 (yI xs (i + 2)) (yI xs (i + 3))).toInt) (l64_eq (yI xs (i + 2)) (yI xs (i + 3))) ?_
  refine lw_M (P := fun _ => True) (rest := []) C0 hmw hN gl_X10_runScript cd_X10_runScript rfl rfl ⟨rfl, rfl⟩ ⟨Nat.le_of_ble_eq_true rfl, Nat.le_of_ble_eq_true rfl⟩ hP hD hS rfl hl rfl (Nat.le_of_ble_eq_true rfl) dL_law_2193 hc (fun r wm9 H locs hr hm0 hm1 hmt hP hD hS => ?_)
  refine lw_C (off := 215) C0 ⟨dL_law_2196, dL_law_2198, dL_law_2199, dL_law_2202, dL_law_2204, dL_law_2209, dL_law_2211, dL_law_2214, dL_law_2215, dL_law_2216, dL_law_2217, dL_law_2219, dL_law_2220, dL_law_2221, dL_law_2226, by decide⟩ hmt hz hr hw9.1 hP hl rfl rfl rfl rfl rfl hc (fun ls hl => ?_)
  have hl := lv_sub hl [2, 3, 4, 5, 6] rfl
  refine kk z w9 wm9 H locs ls ?_ hP hD hS hl
  by_cases hk : kRn (yI xs (i + 1)) (l64 (yI xs (i + 2)) (yI xs (i + 3))).toInt = 0
  · exact ⟨_, _, _, _, _, _, _, _, hw9.2.2.1 hk, hm0 hk⟩
  · exact ⟨_, _, _, _, _, _, _, _, hw9.2.2.2 hk, hm1 hk⟩

set_option maxRecDepth 100000 in
theorem lc_simulate (hst : l.stackTraces = false) (C0 : LC p s m meth c b L xs g τ A) {i : Nat} (hi : i + 6 ≤ L) (hj : JW τ x mm w wm) (hP : va_P g vwCl ([outC oa z τ] ++ (w ++ wm)) H) (hD : va_D A ([outC oa z τ] ++ (w ++ wm))) (hS : va_S A s.heap H locs) (hl : lv_has ls 7 [(4, .int (iI (i : Int))), (3, .ref oa), (2, .ref mm), (1, .ref x), (0, .ref b)]) (hc : cells + 1 ≤ 601024 ∧ slots + 6 ≤ 7293034) (kk : lwK p l e s m below meth c cells slots QQ g τ A x mm oa b i) : W p l e room_1 s m #[Value.ref b] below meth c H locs cells slots QQ (F0 m 2229 ls []) := by
  have hx := C0.1.1
  have hb := C0.1.2.1
  have hown := C0.1.2.2.2.1
  have hts := C0.1.2.2.2.2
  obtain ⟨Q, n, B, V, K, t, S, k0, hcw, hmw⟩ := hj
  obtain ⟨w0, hp0, hM⟩ := f_simulate l hst g τ x oa z hcw (l64 (yI xs (i + 1)) (yI xs (i + 2))) (yI xs (i + 3)) (yI_r xs (i + 3))
  have hN := h_simulate l g τ hmw (l64 (yI xs (i + 1)) (yI xs (i + 2))) (yI xs (i + 3)) (yI_r xs (i + 3))
  refine lv_aload_n hx hb dL_law_2229 rfl (lv_at hl 3 rfl) ?_
  refine la_arg (j := 1) C0 (by omega) rfl 4 0 hl rfl rfl hS dL_law_2230 dL_law_2231 dL_law_2233 dL_law_2234 dL_law_2235 ?_
  refine lv_i2l (v := (iI (yI xs (i + 1))).toInt64) hx hb dL_law_2236 rfl ?_
  refine lv_bipush (v := iI 32) hx hb dL_law_2237 (by decide) ?_
  refine lv_lshl (v := (iI (yI xs (i + 1))).toInt64 <<< ((iI 32).toInt64 &&& 63)) hx hb dL_law_2239 rfl ?_
  refine la_arg (j := 2) C0 (by omega) rfl 4 0 hl rfl rfl hS dL_law_2240 dL_law_2241 dL_law_2243 dL_law_2244 dL_law_2245 ?_
  refine lv_i2l (v := (iI (yI xs (i + 2))).toInt64) hx hb dL_law_2246 rfl ?_
  refine lv_ldc2 (v := 4294967295) hx hb hown (hts _ mw_1460) dL_law_2247 ?_
  refine lv_land hx hb dL_law_2250 ?_
  refine lv_lor hx hb dL_law_2251 ?_
  refine cv_l (y := (l64 (yI xs (i + 1)) (yI xs (i + 2)))) rfl ?_
  refine la_arg (j := 3) C0 (by omega) rfl 4 0 hl rfl rfl hS dL_law_2252 dL_law_2253 dL_law_2255 dL_law_2256 dL_law_2257 ?_
  refine lv_aload_n hx hb dL_law_2258 rfl (lv_at hl 1 rfl) ?_
  refine lw_A (P := W3 (kSm (yI xs (i + 3))) (Wn w0 (kSm (yI xs (i + 3))) (CW τ x Q n B V K t S) (CW τ x Q n B V K t S))) C0 hM hp0 (fun w1 h => h.2.1) gl_L_simulate cd_L_simulate rfl ⟨rfl, rfl⟩ ⟨Nat.le_of_ble_eq_true rfl, Nat.le_of_ble_eq_true rfl⟩ hP hD hS rfl hl rfl dL_law_2259 dL_law_2262 hc rfl (fun z w9 H locs ls hz hw9 hP hD hS hl => ?_)
  refine lv_aload_n hx hb dL_law_2264 rfl (lv_at hl 3 rfl) ?_
  refine la_arg (j := 1) C0 (by omega) rfl 5 1 hl rfl rfl hS dL_law_2265 dL_law_2266 dL_law_2268 dL_law_2269 dL_law_2270 ?_
  refine lv_i2l (v := (iI (yI xs (i + 1))).toInt64) hx hb dL_law_2271 rfl ?_
  refine lv_bipush (v := iI 32) hx hb dL_law_2272 (by decide) ?_
  refine lv_lshl (v := (iI (yI xs (i + 1))).toInt64 <<< ((iI 32).toInt64 &&& 63)) hx hb dL_law_2274 rfl ?_
  refine la_arg (j := 2) C0 (by omega) rfl 5 1 hl rfl rfl hS dL_law_2275 dL_law_2276 dL_law_2278 dL_law_2279 dL_law_2280 ?_
  refine lv_i2l (v := (iI (yI xs (i + 2))).toInt64) hx hb dL_law_2281 rfl ?_
  refine lv_ldc2 (v := 4294967295) hx hb hown (hts _ mw_1460) dL_law_2282 ?_
  refine lv_land hx hb dL_law_2285 ?_
  refine lv_lor hx hb dL_law_2286 ?_
  refine cv_l (y := (l64 (yI xs (i + 1)) (yI xs (i + 2)))) rfl ?_
  refine la_arg (j := 3) C0 (by omega) rfl 5 1 hl rfl rfl hS dL_law_2287 dL_law_2288 dL_law_2290 dL_law_2291 dL_law_2292 ?_
  refine lw_M (P := fun _ => True) (rest := []) C0 hmw hN gl_X10_simulate cd_X10_simulate rfl rfl ⟨rfl, rfl⟩ ⟨Nat.le_of_ble_eq_true rfl, Nat.le_of_ble_eq_true rfl⟩ hP hD hS rfl hl rfl (Nat.le_of_ble_eq_true rfl) dL_law_2293 hc (fun r wm9 H locs hr hm0 hm1 hmt hP hD hS => ?_)
  refine lw_C (off := 115) C0 ⟨dL_law_2296, dL_law_2298, dL_law_2299, dL_law_2302, dL_law_2304, dL_law_2309, dL_law_2311, dL_law_2314, dL_law_2315, dL_law_2316, dL_law_2317, dL_law_2319, dL_law_2320, dL_law_2321, dL_law_2326, by decide⟩ hmt hz hr hw9.1 hP hl rfl rfl rfl rfl rfl hc (fun ls hl => ?_)
  have hl := lv_sub hl [2, 3, 4, 5, 6] rfl
  refine kk z w9 wm9 H locs ls ?_ hP hD hS hl
  by_cases hk : kSm (yI xs (i + 3)) = 0
  · exact ⟨_, _, _, _, _, _, _, _, hw9.2.2.1 hk, hm0 hk⟩
  · exact ⟨_, _, _, _, _, _, _, _, hw9.2.2.2 hk, hm1 hk⟩

set_option maxRecDepth 100000 in
theorem lc_save (hst : l.stackTraces = false) (C0 : LC p s m meth c b L xs g τ A) {i : Nat} (hi : i + 6 ≤ L) (hj : JW τ x mm w wm) (hP : va_P g vwCl ([outC oa z τ] ++ (w ++ wm)) H) (hD : va_D A ([outC oa z τ] ++ (w ++ wm))) (hS : va_S A s.heap H locs) (hl : lv_has ls 7 [(4, .int (iI (i : Int))), (3, .ref oa), (2, .ref mm), (1, .ref x), (0, .ref b)]) (hc : cells + 1 ≤ 601024 ∧ slots + 6 ≤ 7293034) (kk : lwK p l e s m below meth c cells slots QQ g τ A x mm oa b i) : W p l e room_1 s m #[Value.ref b] below meth c H locs cells slots QQ (F0 m 2329 ls []) := by
  have hx := C0.1.1
  have hb := C0.1.2.1
  obtain ⟨Q, n, B, V, K, t, S, k0, hcw, hmw⟩ := hj
  obtain ⟨w0, hp0, hM⟩ := f_save l hst g τ x oa z hcw (yI xs (i + 1)) (yI_r xs (i + 1))
  have hN := h_save l g τ hmw (yI xs (i + 1)) (yI_r xs (i + 1))
  refine lv_aload_n hx hb dL_law_2329 rfl (lv_at hl 3 rfl) ?_
  refine la_arg (j := 1) C0 (by omega) rfl 4 0 hl rfl rfl hS dL_law_2330 dL_law_2331 dL_law_2333 dL_law_2334 dL_law_2335 ?_
  refine lv_aload_n hx hb dL_law_2336 rfl (lv_at hl 1 rfl) ?_
  refine lw_A (P := W3 (kSv (yI xs (i + 1))) (Wn w0 (kSv (yI xs (i + 1))) (CW τ x Q n B (updZ V (yI xs (i + 1)).toNat 1) (upB K (yI xs (i + 1)).toNat Q) t S) (CW τ x Q n B V K t S))) C0 hM hp0 (fun w1 h => h.2.1) gl_L_save cd_L_save rfl ⟨rfl, rfl⟩ ⟨Nat.le_of_ble_eq_true rfl, Nat.le_of_ble_eq_true rfl⟩ hP hD hS rfl hl rfl dL_law_2337 dL_law_2340 hc rfl (fun z w9 H locs ls hz hw9 hP hD hS hl => ?_)
  refine lv_aload_n hx hb dL_law_2342 rfl (lv_at hl 3 rfl) ?_
  refine la_arg (j := 1) C0 (by omega) rfl 5 1 hl rfl rfl hS dL_law_2343 dL_law_2344 dL_law_2346 dL_law_2347 dL_law_2348 ?_
  refine lw_M (P := fun _ => True) (rest := []) C0 hmw hN gl_X10_save cd_X10_save rfl rfl ⟨rfl, rfl⟩ ⟨Nat.le_of_ble_eq_true rfl, Nat.le_of_ble_eq_true rfl⟩ hP hD hS rfl hl rfl (Nat.le_of_ble_eq_true rfl) dL_law_2349 hc (fun r wm9 H locs hr hm0 hm1 hmt hP hD hS => ?_)
  refine lw_C (off := 59) C0 ⟨dL_law_2352, dL_law_2354, dL_law_2355, dL_law_2358, dL_law_2360, dL_law_2365, dL_law_2367, dL_law_2370, dL_law_2371, dL_law_2372, dL_law_2373, dL_law_2375, dL_law_2376, dL_law_2377, dL_law_2382, by decide⟩ hmt hz hr hw9.1 hP hl rfl rfl rfl rfl rfl hc (fun ls hl => ?_)
  have hl := lv_sub hl [2, 3, 4, 5, 6] rfl
  refine kk z w9 wm9 H locs ls ?_ hP hD hS hl
  by_cases hk : kSv (yI xs (i + 1)) = 0
  · exact ⟨_, _, _, _, _, _, _, _, hw9.2.2.1 hk, hm0 hk⟩
  · exact ⟨_, _, _, _, _, _, _, _, hw9.2.2.2 hk, hm1 hk⟩

set_option maxRecDepth 100000 in
theorem lc_restore (hst : l.stackTraces = false) (C0 : LC p s m meth c b L xs g τ A) {i : Nat} (hi : i + 6 ≤ L) (hj : JW τ x mm w wm) (hP : va_P g vwCl ([outC oa z τ] ++ (w ++ wm)) H) (hD : va_D A ([outC oa z τ] ++ (w ++ wm))) (hS : va_S A s.heap H locs) (hl : lv_has ls 7 [(4, .int (iI (i : Int))), (3, .ref oa), (2, .ref mm), (1, .ref x), (0, .ref b)]) (hc : cells + 1 ≤ 601024 ∧ slots + 6 ≤ 7293034) (kk : lwK p l e s m below meth c cells slots QQ g τ A x mm oa b i) : W p l e room_1 s m #[Value.ref b] below meth c H locs cells slots QQ (F0 m 2385 ls []) := by
  have hx := C0.1.1
  have hb := C0.1.2.1
  obtain ⟨Q, n, B, V, K, t, S, k0, hcw, hmw⟩ := hj
  obtain ⟨w0, hp0, hM⟩ := f_restore l hst g τ x oa z hcw (yI xs (i + 1)) (yI_r xs (i + 1))
  have hN := h_restore l g τ hmw (yI xs (i + 1)) (yI_r xs (i + 1))
  refine lv_aload_n hx hb dL_law_2385 rfl (lv_at hl 3 rfl) ?_
  refine la_arg (j := 1) C0 (by omega) rfl 4 0 hl rfl rfl hS dL_law_2386 dL_law_2387 dL_law_2389 dL_law_2390 dL_law_2391 ?_
  refine lv_aload_n hx hb dL_law_2392 rfl (lv_at hl 1 rfl) ?_
  refine lw_A (P := W3 (kRs (yI xs (i + 1)) V) (Wn w0 (kRs (yI xs (i + 1)) V) (CW τ x (K (yI xs (i + 1)).toNat) 0 B V K t S) (CW τ x Q n B V K t S))) C0 hM hp0 (fun w1 h => h.2.1) gl_L_restore cd_L_restore rfl ⟨rfl, rfl⟩ ⟨Nat.le_of_ble_eq_true rfl, Nat.le_of_ble_eq_true rfl⟩ hP hD hS rfl hl rfl dL_law_2393 dL_law_2396 hc rfl (fun z w9 H locs ls hz hw9 hP hD hS hl => ?_)
  refine lv_aload_n hx hb dL_law_2398 rfl (lv_at hl 3 rfl) ?_
  refine la_arg (j := 1) C0 (by omega) rfl 5 1 hl rfl rfl hS dL_law_2399 dL_law_2400 dL_law_2402 dL_law_2403 dL_law_2404 ?_
  refine lw_M (P := fun _ => True) (rest := []) C0 hmw hN gl_X10_restore cd_X10_restore rfl rfl ⟨rfl, rfl⟩ ⟨Nat.le_of_ble_eq_true rfl, Nat.le_of_ble_eq_true rfl⟩ hP hD hS rfl hl rfl (Nat.le_of_ble_eq_true rfl) dL_law_2405 hc (fun r wm9 H locs hr hm0 hm1 hmt hP hD hS => ?_)
  refine lw_C (off := 3) C0 ⟨dL_law_2408, dL_law_2410, dL_law_2411, dL_law_2414, dL_law_2416, dL_law_2421, dL_law_2423, dL_law_2426, dL_law_2427, dL_law_2428, dL_law_2429, dL_law_2431, dL_law_2432, dL_law_2433, dL_law_2438, by decide⟩ hmt hz hr hw9.1 hP hl rfl rfl rfl rfl rfl hc (fun ls hl => ?_)
  have hl := lv_sub hl [2, 3, 4, 5, 6] rfl
  refine kk z w9 wm9 H locs ls ?_ hP hD hS hl
  by_cases hk : kRs (yI xs (i + 1)) V = 0
  · exact ⟨_, _, _, _, _, _, _, _, hw9.2.2.1 hk, hm0 hk⟩
  · exact ⟨_, _, _, _, _, _, _, _, hw9.2.2.2 hk, hm1 hk⟩
end LAWC
