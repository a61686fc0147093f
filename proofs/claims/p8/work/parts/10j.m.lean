theorem fd_X12_1 : zFd RX12 1 12 0 (.int) false "WhoseStreetModel" := zFd.of cl_12 (by decide) (zmem 1370 (by decide +kernel) rfl) rfl rfl rfl
theorem md_X12_lay : zMd yX12_lay cX12_lay 5 1 none := ⟨zmw (zmt_6 _ (List.mem_of_getElem? (i := 32) rfl)) rfl, zmem 127 (by decide +kernel) rfl, by decide, by decide, by decide +kernel, by decide⟩
theorem ml_X12_7 : Cond.methodLink RX12 7 yX12_lay ∈ zB := zmem 1339 (by decide +kernel) rfl
theorem im_X12_lay : Cond.instanceMethod yX12_lay ∈ zB := zmem 1341 (by decide +kernel) rfl
theorem se_X12_lay : Cond.selects yX12_lay.cls yX12_lay yX12_lay ∈ zB := zmem 60 (by decide +kernel) rfl
def f_X12_feed (N : Nat) (v0 : Nat) (v1 : Int64) (v3 : Int64) (v5 : Int64) (h : zH) : Option (Int32 × zH) := (pF h v0 12 0 (.int 0)).bind fun h1 => zif (zob h1 v0 12) <| (f_X12_lay N v0 v1 h1).bind fun h3 => zif (zob h3 v0 12) <| (f_X12_lay N v0 v3 h3).bind fun h5 => zif (zob h5 v0 12) <| (f_X12_lay N v0 v5 h5).bind fun h7 => (gI h7 v0 12 2).bind fun x8 => some (x8, h7)
set_option maxRecDepth 100000 in
set_option maxHeartbeats 4000000 in
theorem k_X12_feed {N : Nat} {v0 : Nat} {v1 : Int64} {v3 : Int64} {v5 : Int64} {h : zH} {r : Int32 × zH} (H : f_X12_feed N v0 v1 v3 v5 h = some r) : zOk 1 0 0 yX12_feed cX12_feed 7 (some .int) [.ref v0, .long v1, .long v3, .long v5] h (some (.int r.1)) r.2 := by
  refine zOk.of (by decide) (Nat.le_of_ble_eq_true rfl) ?_
  unfold f_X12_feed at H
  refine z_aload_n (pc := 0) 0 dX12_feed_0 rfl rfl ?_
  refine z_iconst (pc := 1) (x := 0) dX12_feed_1 zc_iconst_0 ?_
  obtain ⟨h1, eh1, H⟩ := zbind H
  refine z_put (pc := 2) dX12_feed_2 fd_X12_1 rfl rfl eh1 ?_
  refine z_aload_n (pc := 5) 0 dX12_feed_5 rfl rfl ?_
  refine z_lload_n (pc := 6) 1 dX12_feed_6 rfl rfl ?_
  obtain ⟨z2, H⟩ := zifE H
  obtain ⟨h3, eh3, H⟩ := zbind H
  refine z_callV (pc := 7) (mc := 0) (ms := 0) (d' := 0) (mc' := 0) (ms' := 0) (rest := []) [.long v1] dX12_feed_7 md_X12_lay ml_X12_7 im_X12_lay se_X12_lay rfl z2 rfl rfl (Nat.le_of_ble_eq_true rfl) (by omega) (k_X12_lay eh3) ?_
  refine z_aload_n (pc := 10) 0 dX12_feed_10 rfl rfl ?_
  refine z_lload_n (pc := 11) 2 dX12_feed_11 rfl rfl ?_
  obtain ⟨z4, H⟩ := zifE H
  obtain ⟨h5, eh5, H⟩ := zbind H
  refine z_callV (pc := 12) (mc := 0) (ms := 0) (d' := 0) (mc' := 0) (ms' := 0) (rest := []) [.long v3] dX12_feed_12 md_X12_lay ml_X12_7 im_X12_lay se_X12_lay rfl z4 rfl rfl (Nat.le_of_ble_eq_true rfl) (by omega) (k_X12_lay eh5) ?_
  refine z_aload_n (pc := 15) 0 dX12_feed_15 rfl rfl ?_
  refine z_lload (pc := 16) 3 dX12_feed_16 rfl ?_
  obtain ⟨z6, H⟩ := zifE H
  obtain ⟨h7, eh7, H⟩ := zbind H
  refine z_callV (pc := 18) (mc := 0) (ms := 0) (d' := 0) (mc' := 0) (ms' := 0) (rest := []) [.long v5] dX12_feed_18 md_X12_lay ml_X12_7 im_X12_lay se_X12_lay rfl z6 rfl rfl (Nat.le_of_ble_eq_true rfl) (by omega) (k_X12_lay eh7) ?_
  refine z_aload_n (pc := 21) 0 dX12_feed_21 rfl rfl ?_
  obtain ⟨x8, ex8, H⟩ := zbind H
  refine z_getI (pc := 22) dX12_feed_22 fd_X12_11 ex8 ?_
  cases H
  exact z_ireturn rfl dX12_feed_25

theorem zc_sipush_1002 : (Int16.ofInt (1002)).toInt32 = (1002 : Int32) := by decide
theorem zc_bipush_11 : (Int8.ofInt (11)).toInt32 = (11 : Int32) := by decide
theorem zc_bipush_12 : (Int8.ofInt (12)).toInt32 = (12 : Int32) := by decide
theorem zc_bipush_13 : (Int8.ofInt (13)).toInt32 = (13 : Int32) := by decide
theorem zc_bipush_14 : (Int8.ofInt (14)).toInt32 = (14 : Int32) := by decide
theorem zc_bipush_17 : (Int8.ofInt (17)).toInt32 = (17 : Int32) := by decide
theorem zc_bipush_18 : (Int8.ofInt (18)).toInt32 = (18 : Int32) := by decide
theorem zc_sipush_340 : (Int16.ofInt (340)).toInt32 = (340 : Int32) := by decide
theorem zc_sipush_20400 : (Int16.ofInt (20400)).toInt32 = (20400 : Int32) := by decide
theorem zc_sipush_1200 : (Int16.ofInt (1200)).toInt32 = (1200 : Int32) := by decide
theorem zc_bipush_27 : (Int8.ofInt (27)).toInt32 = (27 : Int32) := by decide
theorem zc_bipush_81 : (Int8.ofInt (81)).toInt32 = (81 : Int32) := by decide
theorem zc_sipush_243 : (Int16.ofInt (243)).toInt32 = (243 : Int32) := by decide
theorem zc_sipush_729 : (Int16.ofInt (729)).toInt32 = (729 : Int32) := by decide
theorem zc_sipush_2187 : (Int16.ofInt (2187)).toInt32 = (2187 : Int32) := by decide
theorem ml_X12_18 : Cond.methodLink RX12 18 objectInit ∈ zB := zmem 1348 (by decide +kernel) rfl
theorem fd_X12_24 : zFd RX12 24 12 4 (.array .int) true "WhoseStreetModel" := zFd.of cl_12 (by decide) (zmem 1374 (by decide +kernel) rfl) rfl rfl rfl
theorem fd_X12_27 : zFd RX12 27 12 5 (.array .int) true "WhoseStreetModel" := zFd.of cl_12 (by decide) (zmem 1375 (by decide +kernel) rfl) rfl rfl rfl
theorem fd_X12_30 : zFd RX12 30 12 6 (.array .long) true "WhoseStreetModel" := zFd.of cl_12 (by decide) (zmem 1376 (by decide +kernel) rfl) rfl rfl rfl
theorem kl_X12_34 : Cond.constantLong RX12 34 16633 ∈ zB := zmem 1349 (by decide +kernel) rfl
theorem kl_X12_36 : Cond.constantLong RX12 36 11324832 ∈ zB := zmem 1350 (by decide +kernel) rfl
theorem kl_X12_38 : Cond.constantLong RX12 38 1176170 ∈ zB := zmem 1351 (by decide +kernel) rfl
theorem kl_X12_40 : Cond.constantLong RX12 40 311596924 ∈ zB := zmem 1352 (by decide +kernel) rfl
theorem kl_X12_42 : Cond.constantLong RX12 42 1597408270 ∈ zB := zmem 1353 (by decide +kernel) rfl
theorem kl_X12_44 : Cond.constantLong RX12 44 122589 ∈ zB := zmem 1354 (by decide +kernel) rfl
theorem kl_X12_46 : Cond.constantLong RX12 46 730200 ∈ zB := zmem 1355 (by decide +kernel) rfl
theorem kl_X12_48 : Cond.constantLong RX12 48 1891 ∈ zB := zmem 1356 (by decide +kernel) rfl
theorem kl_X12_50 : Cond.constantLong RX12 50 573 ∈ zB := zmem 1357 (by decide +kernel) rfl
theorem kl_X12_52 : Cond.constantLong RX12 52 19741 ∈ zB := zmem 1358 (by decide +kernel) rfl
theorem kl_X12_54 : Cond.constantLong RX12 54 36426541 ∈ zB := zmem 1359 (by decide +kernel) rfl
theorem kl_X12_56 : Cond.constantLong RX12 56 811933 ∈ zB := zmem 1360 (by decide +kernel) rfl
theorem kl_X12_58 : Cond.constantLong RX12 58 969451 ∈ zB := zmem 1361 (by decide +kernel) rfl
theorem kl_X12_60 : Cond.constantLong RX12 60 18002 ∈ zB := zmem 1362 (by decide +kernel) rfl
theorem kl_X12_62 : Cond.constantLong RX12 62 23270688 ∈ zB := zmem 1363 (by decide +kernel) rfl
theorem kl_X12_64 : Cond.constantLong RX12 64 570026 ∈ zB := zmem 1364 (by decide +kernel) rfl
theorem kl_X12_66 : Cond.constantLong RX12 66 11873910 ∈ zB := zmem 1365 (by decide +kernel) rfl
theorem kl_X12_68 : Cond.constantLong RX12 68 43567804 ∈ zB := zmem 1366 (by decide +kernel) rfl
theorem kl_X12_70 : Cond.constantLong RX12 70 571827392 ∈ zB := zmem 1367 (by decide +kernel) rfl
theorem kl_X12_72 : Cond.constantLong RX12 72 22963959 ∈ zB := zmem 1368 (by decide +kernel) rfl
theorem kl_X12_74 : Cond.constantLong RX12 74 1273225 ∈ zB := zmem 1369 (by decide +kernel) rfl
theorem fd_X12_76 : zFd RX12 76 12 9 (.array .long) true "WhoseStreetModel" := zFd.of cl_12 (by decide) (zmem 1379 (by decide +kernel) rfl) rfl rfl rfl
theorem fd_X12_79 : zFd RX12 79 12 11 (.array .int) true "WhoseStreetModel" := zFd.of cl_12 (by decide) (zmem 1381 (by decide +kernel) rfl) rfl rfl rfl
theorem fd_X12_82 : zFd RX12 82 12 12 (.array .int) true "WhoseStreetModel" := zFd.of cl_12 (by decide) (zmem 1382 (by decide +kernel) rfl) rfl rfl rfl
theorem fd_X12_85 : zFd RX12 85 12 13 (.array .int) true "WhoseStreetModel" := zFd.of cl_12 (by decide) (zmem 1383 (by decide +kernel) rfl) rfl rfl rfl
theorem fd_X12_88 : zFd RX12 88 12 14 (.array .int) true "WhoseStreetModel" := zFd.of cl_12 (by decide) (zmem 1384 (by decide +kernel) rfl) rfl rfl rfl
theorem fd_X12_91 : zFd RX12 91 12 15 (.array .int) true "WhoseStreetModel" := zFd.of cl_12 (by decide) (zmem 1385 (by decide +kernel) rfl) rfl rfl rfl
theorem fd_X12_94 : zFd RX12 94 12 16 (.array .int) true "WhoseStreetModel" := zFd.of cl_12 (by decide) (zmem 1386 (by decide +kernel) rfl) rfl rfl rfl
theorem fd_X12_97 : zFd RX12 97 12 18 (.array .long) true "WhoseStreetModel" := zFd.of cl_12 (by decide) (zmem 1388 (by decide +kernel) rfl) rfl rfl rfl
theorem fd_X12_100 : zFd RX12 100 12 20 (.array .int) true "WhoseStreetModel" := zFd.of cl_12 (by decide) (zmem 1390 (by decide +kernel) rfl) rfl rfl rfl
theorem fd_X12_103 : zFd RX12 103 12 21 (.array .int) true "WhoseStreetModel" := zFd.of cl_12 (by decide) (zmem 1391 (by decide +kernel) rfl) rfl rfl rfl
theorem fd_X12_106 : zFd RX12 106 12 22 (.array .int) true "WhoseStreetModel" := zFd.of cl_12 (by decide) (zmem 1392 (by decide +kernel) rfl) rfl rfl rfl
theorem fd_X12_109 : zFd RX12 109 12 23 (.array .int) true "WhoseStreetModel" := zFd.of cl_12 (by decide) (zmem 1393 (by decide +kernel) rfl) rfl rfl rfl
theorem fd_X12_112 : zFd RX12 112 12 24 (.array .int) true "WhoseStreetModel" := zFd.of cl_12 (by decide) (zmem 1394 (by decide +kernel) rfl) rfl rfl rfl
theorem fd_X12_115 : zFd RX12 115 12 28 (.array .int) true "WhoseStreetModel" := zFd.of cl_12 (by decide) (zmem 1398 (by decide +kernel) rfl) rfl rfl rfl
theorem fd_X12_118 : zFd RX12 118 12 29 (.array .int) true "WhoseStreetModel" := zFd.of cl_12 (by decide) (zmem 1399 (by decide +kernel) rfl) rfl rfl rfl
theorem fd_X12_121 : zFd RX12 121 12 30 (.array .int) true "WhoseStreetModel" := zFd.of cl_12 (by decide) (zmem 1400 (by decide +kernel) rfl) rfl rfl rfl
theorem fd_X12_124 : zFd RX12 124 12 31 (.array .int) true "WhoseStreetModel" := zFd.of cl_12 (by decide) (zmem 1401 (by decide +kernel) rfl) rfl rfl rfl
theorem fd_X12_127 : zFd RX12 127 12 32 (.array .int) true "WhoseStreetModel" := zFd.of cl_12 (by decide) (zmem 1402 (by decide +kernel) rfl) rfl rfl rfl
theorem fd_X12_130 : zFd RX12 130 12 33 (.array .int) true "WhoseStreetModel" := zFd.of cl_12 (by decide) (zmem 1403 (by decide +kernel) rfl) rfl rfl rfl
theorem fd_X12_133 : zFd RX12 133 12 34 (.array .int) true "WhoseStreetModel" := zFd.of cl_12 (by decide) (zmem 1404 (by decide +kernel) rfl) rfl rfl rfl
theorem fd_X12_136 : zFd RX12 136 12 35 (.array .int) true "WhoseStreetModel" := zFd.of cl_12 (by decide) (zmem 1405 (by decide +kernel) rfl) rfl rfl rfl
theorem fd_X12_139 : zFd RX12 139 12 36 (.array .int) true "WhoseStreetModel" := zFd.of cl_12 (by decide) (zmem 1406 (by decide +kernel) rfl) rfl rfl rfl
theorem fd_X12_142 : zFd RX12 142 12 37 (.array .int) true "WhoseStreetModel" := zFd.of cl_12 (by decide) (zmem 1407 (by decide +kernel) rfl) rfl rfl rfl
theorem fd_X12_145 : zFd RX12 145 12 38 (.array .int) true "WhoseStreetModel" := zFd.of cl_12 (by decide) (zmem 1408 (by decide +kernel) rfl) rfl rfl rfl
theorem fd_X12_148 : zFd RX12 148 12 39 (.array .int) true "WhoseStreetModel" := zFd.of cl_12 (by decide) (zmem 1409 (by decide +kernel) rfl) rfl rfl rfl
theorem fd_X12_151 : zFd RX12 151 12 40 (.array .int) true "WhoseStreetModel" := zFd.of cl_12 (by decide) (zmem 1410 (by decide +kernel) rfl) rfl rfl rfl
theorem fd_X12_154 : zFd RX12 154 12 41 (.array .int) true "WhoseStreetModel" := zFd.of cl_12 (by decide) (zmem 1411 (by decide +kernel) rfl) rfl rfl rfl
theorem fd_X12_157 : zFd RX12 157 12 50 (.array .int) true "WhoseStreetModel" := zFd.of cl_12 (by decide) (zmem 1420 (by decide +kernel) rfl) rfl rfl rfl
theorem fd_X12_160 : zFd RX12 160 12 51 (.array .boolean) true "WhoseStreetModel" := zFd.of cl_12 (by decide) (zmem 1421 (by decide +kernel) rfl) rfl rfl rfl
theorem fd_X12_164 : zFd RX12 164 12 52 (.array .int) true "WhoseStreetModel" := zFd.of cl_12 (by decide) (zmem 1422 (by decide +kernel) rfl) rfl rfl rfl
theorem fd_X12_167 : zFd RX12 167 12 53 (.array .int) true "WhoseStreetModel" := zFd.of cl_12 (by decide) (zmem 1423 (by decide +kernel) rfl) rfl rfl rfl
theorem fd_X12_170 : zFd RX12 170 12 54 (.array .int) true "WhoseStreetModel" := zFd.of cl_12 (by decide) (zmem 1424 (by decide +kernel) rfl) rfl rfl rfl
theorem fd_X12_173 : zFd RX12 173 12 55 (.array .int) true "WhoseStreetModel" := zFd.of cl_12 (by decide) (zmem 1425 (by decide +kernel) rfl) rfl rfl rfl
theorem fd_X12_176 : zFd RX12 176 12 56 (.array .boolean) true "WhoseStreetModel" := zFd.of cl_12 (by decide) (zmem 1426 (by decide +kernel) rfl) rfl rfl rfl
theorem fd_X12_179 : zFd RX12 179 12 57 (.array .boolean) true "WhoseStreetModel" := zFd.of cl_12 (by decide) (zmem 1427 (by decide +kernel) rfl) rfl rfl rfl
theorem fd_X12_182 : zFd RX12 182 12 58 (.array .int) true "WhoseStreetModel" := zFd.of cl_12 (by decide) (zmem 1428 (by decide +kernel) rfl) rfl rfl rfl
theorem fd_X12_185 : zFd RX12 185 12 59 (.array .int) true "WhoseStreetModel" := zFd.of cl_12 (by decide) (zmem 1429 (by decide +kernel) rfl) rfl rfl rfl
theorem fd_X12_188 : zFd RX12 188 12 60 (.array .int) true "WhoseStreetModel" := zFd.of cl_12 (by decide) (zmem 1430 (by decide +kernel) rfl) rfl rfl rfl
theorem fd_X12_191 : zFd RX12 191 12 61 (.array .int) true "WhoseStreetModel" := zFd.of cl_12 (by decide) (zmem 1431 (by decide +kernel) rfl) rfl rfl rfl
theorem fd_X12_194 : zFd RX12 194 12 62 (.array .boolean) true "WhoseStreetModel" := zFd.of cl_12 (by decide) (zmem 1432 (by decide +kernel) rfl) rfl rfl rfl
theorem fd_X12_197 : zFd RX12 197 12 66 (.array .int) true "WhoseStreetModel" := zFd.of cl_12 (by decide) (zmem 1436 (by decide +kernel) rfl) rfl rfl rfl
theorem fd_X12_200 : zFd RX12 200 12 68 (.array .int) true "WhoseStreetModel" := zFd.of cl_12 (by decide) (zmem 1438 (by decide +kernel) rfl) rfl rfl rfl
theorem fd_X12_203 : zFd RX12 203 12 69 (.array .int) true "WhoseStreetModel" := zFd.of cl_12 (by decide) (zmem 1439 (by decide +kernel) rfl) rfl rfl rfl
theorem fd_X12_206 : zFd RX12 206 12 70 (.array .int) true "WhoseStreetModel" := zFd.of cl_12 (by decide) (zmem 1440 (by decide +kernel) rfl) rfl rfl rfl
theorem fd_X12_209 : zFd RX12 209 12 71 (.array .int) true "WhoseStreetModel" := zFd.of cl_12 (by decide) (zmem 1441 (by decide +kernel) rfl) rfl rfl rfl
theorem fd_X12_212 : zFd RX12 212 12 72 (.array .boolean) true "WhoseStreetModel" := zFd.of cl_12 (by decide) (zmem 1442 (by decide +kernel) rfl) rfl rfl rfl
theorem fd_X12_215 : zFd RX12 215 12 73 (.array .int) true "WhoseStreetModel" := zFd.of cl_12 (by decide) (zmem 1443 (by decide +kernel) rfl) rfl rfl rfl
theorem fd_X12_218 : zFd RX12 218 12 74 (.array .int) true "WhoseStreetModel" := zFd.of cl_12 (by decide) (zmem 1444 (by decide +kernel) rfl) rfl rfl rfl
theorem fd_X12_221 : zFd RX12 221 12 75 (.array .int) true "WhoseStreetModel" := zFd.of cl_12 (by decide) (zmem 1445 (by decide +kernel) rfl) rfl rfl rfl
theorem fd_X12_224 : zFd RX12 224 12 77 (.array .int) true "WhoseStreetModel" := zFd.of cl_12 (by decide) (zmem 1447 (by decide +kernel) rfl) rfl rfl rfl
theorem fd_X12_227 : zFd RX12 227 12 78 (.array .int) true "WhoseStreetModel" := zFd.of cl_12 (by decide) (zmem 1448 (by decide +kernel) rfl) rfl rfl rfl
theorem fd_X12_230 : zFd RX12 230 12 79 (.array .int) true "WhoseStreetModel" := zFd.of cl_12 (by decide) (zmem 1449 (by decide +kernel) rfl) rfl rfl rfl
theorem fd_X12_233 : zFd RX12 233 12 26 (.int) false "WhoseStreetModel" := zFd.of cl_12 (by decide) (zmem 1396 (by decide +kernel) rfl) rfl rfl rfl
def f_X12_init_L652 (N : Nat) (v0 : Nat) : Nat → Int32 → zH → Option (zH)
  | 0, _, _ => none
  | n + 1, v1, h => if 248 ≤ v1 then (some h) else ((gR h v0 12 70).bind fun r144 => (sI h r144 v1 (-1)).bind fun h145 => f_X12_init_L652 N v0 n (v1 + 1) h145)
set_option maxRecDepth 100000 in
set_option maxHeartbeats 4000000 in
theorem s_X12_init_L652 {d mc ms N : Nat} {vv : Option Value} {hh : zH} {v0 : Nat} (hd0 : 1 ≤ d) : ∀ (n : Nat) (v1 : Int32) (h : zH) (m : zH), f_X12_init_L652 N v0 n v1 h = some m → (zW yX12_init cX12_init 2 none d mc ms 672 [] [] m vv hh) → zW yX12_init cX12_init 2 none d mc ms 652 [(0, .ref v0), (1, .int v1)] [] h vv hh := by
  intro n
  induction n with
  | zero =>
    intro v1 h m H
    cases H
  | succ n ih =>
    intro v1 h m H KE
    unfold f_X12_init_L652 at H
    refine z_iload_n (pc := 652) 1 dX12_init_652 rfl rfl ?_
    refine z_sipush (pc := 653) (x := 248) dX12_init_653 zc_sipush_248 ?_
    refine z_icmp_ge (pc := 656) 672 dX12_init_656 (by decide) (fun c143 => ?_) (fun c143 => ?_)
    · rw [if_pos c143] at H
      cases H
      exact z_sub [] rfl (KE)
    · rw [if_neg c143] at H
      refine z_aload_n (pc := 659) 0 dX12_init_659 rfl rfl ?_
      obtain ⟨r144, er144, H⟩ := zbind H
      refine z_getR (pc := 660) dX12_init_660 fd_X12_206 er144 ?_
      refine z_iload_n (pc := 663) 1 dX12_init_663 rfl rfl ?_
      refine z_iconst (pc := 664) (x := (-1)) dX12_init_664 zc_iconst_m1 ?_
      obtain ⟨h145, eh145, H⟩ := zbind H
      refine z_iastore (pc := 665) dX12_init_665 eh145 ?_
      refine z_iinc (pc := 666) (x' := v1 + 1) (lv' := [(1, .int (v1 + 1)), (0, .ref v0)]) 1 dX12_init_666 rfl (by rfl) (by decide) rfl ?_
      refine z_goto (pc := 669) 652 dX12_init_669 (by decide) ?_
      exact z_sub [1, 0] rfl (ih (v1 + 1) h145 _ H KE)
def f_X12_init (N : Nat) (v0 : Nat) (h : zH) : Option (zH) := zlet (znew h (zblank 0 1000) : zH) fun h1 => (pF h1 v0 12 1 (.ref h.1.1)).bind fun h2 => zlet (znew h2 (zblank 0 1002) : zH) fun h3 => (pF h3 v0 12 4 (.ref h2.1.1)).bind fun h4 => zlet (znew h4 (zblank 0 1002) : zH) fun h5 => (pF h5 v0 12 5 (.ref h4.1.1)).bind fun h6 => zlet (znew h6 (zblank 1 1002) : zH) fun h7 => (pF h7 v0 12 6 (.ref h6.1.1)).bind fun h8 => zlet (znew h8 (zblank 1 21) : zH) fun h9 => (sL h9 h8.1.1 0 16633).bind fun h10 => (sL h10 h8.1.1 1 11324832).bind fun h11 => (sL h11 h8.1.1 2 1176170).bind fun h12 => (sL h12 h8.1.1 3 311596924).bind fun h13 => (sL h13 h8.1.1 4 1597408270).bind fun h14 => (sL h14 h8.1.1 5 122589).bind fun h15 => (sL h15 h8.1.1 6 730200).bind fun h16 => (sL h16 h8.1.1 7 1891).bind fun h17 => (sL h17 h8.1.1 8 573).bind fun h18 => (sL h18 h8.1.1 9 19741).bind fun h19 => (sL h19 h8.1.1 10 36426541).bind fun h20 => (sL h20 h8.1.1 11 811933).bind fun h21 => (sL h21 h8.1.1 12 969451).bind fun h22 => (sL h22 h8.1.1 13 18002).bind fun h23 => (sL h23 h8.1.1 14 23270688).bind fun h24 => (sL h24 h8.1.1 15 570026).bind fun h25 => (sL h25 h8.1.1 16 11873910).bind fun h26 => (sL h26 h8.1.1 17 43567804).bind fun h27 => (sL h27 h8.1.1 18 571827392).bind fun h28 => (sL h28 h8.1.1 19 22963959).bind fun h29 => (sL h29 h8.1.1 20 1273225).bind fun h30 => (pF h30 v0 12 9 (.ref h8.1.1)).bind fun h31 => zlet (znew h31 (zblank 0 17) : zH) fun h32 => (pF h32 v0 12 11 (.ref h31.1.1)).bind fun h33 => zlet (znew h33 (zblank 0 17) : zH) fun h34 => (pF h34 v0 12 12 (.ref h33.1.1)).bind fun h35 => zlet (znew h35 (zblank 0 17) : zH) fun h36 => (pF h36 v0 12 13 (.ref h35.1.1)).bind fun h37 => zlet (znew h37 (zblank 0 340) : zH) fun h38 => (pF h38 v0 12 14 (.ref h37.1.1)).bind fun h39 => zlet (znew h39 (zblank 0 340) : zH) fun h40 => (pF h40 v0 12 15 (.ref h39.1.1)).bind fun h41 => zlet (znew h41 (zblank 0 340) : zH) fun h42 => (pF h42 v0 12 16 (.ref h41.1.1)).bind fun h43 => zlet (znew h43 (zblank 1 8) : zH) fun h44 => (pF h44 v0 12 18 (.ref h43.1.1)).bind fun h45 => zlet (znew h45 (zblank 0 20400) : zH) fun h46 => (pF h46 v0 12 20 (.ref h45.1.1)).bind fun h47 => zlet (znew h47 (zblank 0 20400) : zH) fun h48 => (pF h48 v0 12 21 (.ref h47.1.1)).bind fun h49 => zlet (znew h49 (zblank 0 11) : zH) fun h50 => (pF h50 v0 12 22 (.ref h49.1.1)).bind fun h51 => zlet (znew h51 (zblank 0 8) : zH) fun h52 => (pF h52 v0 12 23 (.ref h51.1.1)).bind fun h53 => zlet (znew h53 (zblank 0 1200) : zH) fun h54 => (pF h54 v0 12 24 (.ref h53.1.1)).bind fun h55 => zlet (znew h55 (zblank 0 40) : zH) fun h56 => (pF h56 v0 12 28 (.ref h55.1.1)).bind fun h57 => zlet (znew h57 (zblank 0 40) : zH) fun h58 => (pF h58 v0 12 29 (.ref h57.1.1)).bind fun h59 => zlet (znew h59 (zblank 0 40) : zH) fun h60 => (pF h60 v0 12 30 (.ref h59.1.1)).bind fun h61 => zlet (znew h61 (zblank 0 40) : zH) fun h62 => (pF h62 v0 12 31 (.ref h61.1.1)).bind fun h63 => zlet (znew h63 (zblank 0 40) : zH) fun h64 => (pF h64 v0 12 32 (.ref h63.1.1)).bind fun h65 => zlet (znew h65 (zblank 0 40) : zH) fun h66 => (pF h66 v0 12 33 (.ref h65.1.1)).bind fun h67 => zlet (znew h67 (zblank 0 40) : zH) fun h68 => (pF h68 v0 12 34 (.ref h67.1.1)).bind fun h69 => zlet (znew h69 (zblank 0 40) : zH) fun h70 => (pF h70 v0 12 35 (.ref h69.1.1)).bind fun h71 => zlet (znew h71 (zblank 0 40) : zH) fun h72 => (pF h72 v0 12 36 (.ref h71.1.1)).bind fun h73 => zlet (znew h73 (zblank 0 40) : zH) fun h74 => (pF h74 v0 12 37 (.ref h73.1.1)).bind fun h75 => zlet (znew h75 (zblank 0 40) : zH) fun h76 => (pF h76 v0 12 38 (.ref h75.1.1)).bind fun h77 => zlet (znew h77 (zblank 0 61) : zH) fun h78 => (pF h78 v0 12 39 (.ref h77.1.1)).bind fun h79 => zlet (znew h79 (zblank 0 61) : zH) fun h80 => (pF h80 v0 12 40 (.ref h79.1.1)).bind fun h81 => zlet (znew h81 (zblank 0 61) : zH) fun h82 => (pF h82 v0 12 41 (.ref h81.1.1)).bind fun h83 => zlet (znew h83 (zblank 0 80) : zH) fun h84 => (pF h84 v0 12 50 (.ref h83.1.1)).bind fun h85 => zlet (znew h85 (zblank 3 80) : zH) fun h86 => (pF h86 v0 12 51 (.ref h85.1.1)).bind fun h87 => zlet (znew h87 (zblank 0 80) : zH) fun h88 => (pF h88 v0 12 52 (.ref h87.1.1)).bind fun h89 => zlet (znew h89 (zblank 0 40) : zH) fun h90 => (pF h90 v0 12 53 (.ref h89.1.1)).bind fun h91 => zlet (znew h91 (zblank 0 128) : zH) fun h92 => (pF h92 v0 12 54 (.ref h91.1.1)).bind fun h93 => zlet (znew h93 (zblank 0 128) : zH) fun h94 => (pF h94 v0 12 55 (.ref h93.1.1)).bind fun h95 => zlet (znew h95 (zblank 3 128) : zH) fun h96 => (pF h96 v0 12 56 (.ref h95.1.1)).bind fun h97 => zlet (znew h97 (zblank 3 4) : zH) fun h98 => (pF h98 v0 12 57 (.ref h97.1.1)).bind fun h99 => zlet (znew h99 (zblank 0 4) : zH) fun h100 => (pF h100 v0 12 58 (.ref h99.1.1)).bind fun h101 => zlet (znew h101 (zblank 0 4) : zH) fun h102 => (pF h102 v0 12 59 (.ref h101.1.1)).bind fun h103 => zlet (znew h103 (zblank 0 4) : zH) fun h104 => (pF h104 v0 12 60 (.ref h103.1.1)).bind fun h105 => zlet (znew h105 (zblank 0 4) : zH) fun h106 => (pF h106 v0 12 61 (.ref h105.1.1)).bind fun h107 => zlet (znew h107 (zblank 3 16) : zH) fun h108 => (pF h108 v0 12 62 (.ref h107.1.1)).bind fun h109 => zlet (znew h109 (zblank 0 4) : zH) fun h110 => (pF h110 v0 12 66 (.ref h109.1.1)).bind fun h111 => zlet (znew h111 (zblank 0 8) : zH) fun h112 => (pF h112 v0 12 68 (.ref h111.1.1)).bind fun h113 => zlet (znew h113 (zblank 0 72) : zH) fun h114 => (pF h114 v0 12 69 (.ref h113.1.1)).bind fun h115 => zlet (znew h115 (zblank 0 248) : zH) fun h116 => (pF h116 v0 12 70 (.ref h115.1.1)).bind fun h117 => zlet (znew h117 (zblank 0 248) : zH) fun h118 => (pF h118 v0 12 71 (.ref h117.1.1)).bind fun h119 => zlet (znew h119 (zblank 3 8) : zH) fun h120 => (pF h120 v0 12 72 (.ref h119.1.1)).bind fun h121 => zlet (znew h121 (zblank 0 8) : zH) fun h122 => (pF h122 v0 12 73 (.ref h121.1.1)).bind fun h123 => zlet (znew h123 (zblank 0 8) : zH) fun h124 => (pF h124 v0 12 74 (.ref h123.1.1)).bind fun h125 => zlet (znew h125 (zblank 0 24) : zH) fun h126 => (pF h126 v0 12 75 (.ref h125.1.1)).bind fun h127 => zlet (znew h127 (zblank 0 8) : zH) fun h128 => (pF h128 v0 12 77 (.ref h127.1.1)).bind fun h129 => zlet (znew h129 (zblank 0 8) : zH) fun h130 => (pF h130 v0 12 78 (.ref h129.1.1)).bind fun h131 => zlet (znew h131 (zblank 0 8) : zH) fun h132 => (sI h132 h131.1.1 0 1).bind fun h133 => (sI h133 h131.1.1 1 3).bind fun h134 => (sI h134 h131.1.1 2 9).bind fun h135 => (sI h135 h131.1.1 3 27).bind fun h136 => (sI h136 h131.1.1 4 81).bind fun h137 => (sI h137 h131.1.1 5 243).bind fun h138 => (sI h138 h131.1.1 6 729).bind fun h139 => (sI h139 h131.1.1 7 2187).bind fun h140 => (pF h140 v0 12 79 (.ref h131.1.1)).bind fun h141 => (pF h141 v0 12 26 (.int (-1))).bind fun h142 => (f_X12_init_L652 N v0 N 0 h142).bind fun m146 => some m146
set_option maxRecDepth 100000 in
set_option maxHeartbeats 4000000 in
theorem k_X12_init {N : Nat} {v0 : Nat} {h : zH} {r : zH} (H : f_X12_init N v0 h = some r) : zOk 1 56 49100 yX12_init cX12_init 2 none [.ref v0] h none r := by
  refine zOk.of (by decide) (Nat.le_of_ble_eq_true rfl) ?_
  unfold f_X12_init at H
  refine z_aload_n (pc := 0) 0 dX12_init_0 rfl rfl ?_
  refine z_objInit (pc := 1) dX12_init_1 ml_X12_18 im_object cd_object (by omega) (Nat.le_of_ble_eq_true rfl) ?_
  refine z_aload_n (pc := 4) 0 dX12_init_4 rfl rfl ?_
  refine z_sipush (pc := 5) (x := 1000) dX12_init_5 zc_sipush_1000 ?_
  refine z_newarray (pc := 8) (mc := 55) (ms := 48100) (N := 1000) 0 (by decide) dX12_init_8 rfl ac_int (by decide) (by decide) (by decide) ?_
  obtain ⟨h1, eh1, H⟩ := zletE H
  refine z_nmH eh1 ?_
  obtain ⟨h2, eh2, H⟩ := zbind H
  refine z_putF (pc := 10) dX12_init_10 fd_X12_14 rfl rfl rfl eh2 ?_
  refine z_aload_n (pc := 13) 0 dX12_init_13 rfl rfl ?_
  refine z_sipush (pc := 14) (x := 1002) dX12_init_14 zc_sipush_1002 ?_
  refine z_newarray (pc := 17) (mc := 54) (ms := 47098) (N := 1002) 0 (by decide) dX12_init_17 rfl ac_int (by decide) (by decide) (by decide) ?_
  obtain ⟨h3, eh3, H⟩ := zletE H
  refine z_nmH eh3 ?_
  obtain ⟨h4, eh4, H⟩ := zbind H
  refine z_putF (pc := 19) dX12_init_19 fd_X12_24 rfl rfl rfl eh4 ?_
  refine z_aload_n (pc := 22) 0 dX12_init_22 rfl rfl ?_
  refine z_sipush (pc := 23) (x := 1002) dX12_init_23 zc_sipush_1002 ?_
  refine z_newarray (pc := 26) (mc := 53) (ms := 46096) (N := 1002) 0 (by decide) dX12_init_26 rfl ac_int (by decide) (by decide) (by decide) ?_
  obtain ⟨h5, eh5, H⟩ := zletE H
  refine z_nmH eh5 ?_
  obtain ⟨h6, eh6, H⟩ := zbind H
  refine z_putF (pc := 28) dX12_init_28 fd_X12_27 rfl rfl rfl eh6 ?_
  refine z_aload_n (pc := 31) 0 dX12_init_31 rfl rfl ?_
  refine z_sipush (pc := 32) (x := 1002) dX12_init_32 zc_sipush_1002 ?_
  refine z_newarray (pc := 35) (mc := 52) (ms := 45094) (N := 1002) 1 (by decide) dX12_init_35 rfl ac_long (by decide) (by decide) (by decide) ?_
  obtain ⟨h7, eh7, H⟩ := zletE H
  refine z_nmH eh7 ?_
  obtain ⟨h8, eh8, H⟩ := zbind H
  refine z_putF (pc := 37) dX12_init_37 fd_X12_30 rfl rfl rfl eh8 ?_
  refine z_aload_n (pc := 40) 0 dX12_init_40 rfl rfl ?_
  refine z_bipush (pc := 41) (x := 21) dX12_init_41 zc_bipush_21 ?_
  refine z_newarray (pc := 43) (mc := 51) (ms := 45073) (N := 21) 1 (by decide) dX12_init_43 rfl ac_long (by decide) (by decide) (by decide) ?_
  obtain ⟨h9, eh9, H⟩ := zletE H
  refine z_nmH eh9 ?_
  refine z_dup (pc := 45) dX12_init_45 rfl ?_
  refine z_iconst (pc := 46) (x := 0) dX12_init_46 zc_iconst_0 ?_
  refine z_ldc2 (pc := 47) (x := 16633) dX12_init_47 kl_X12_34 ?_
  obtain ⟨h10, eh10, H⟩ := zbind H
  refine z_lastore (pc := 50) dX12_init_50 eh10 ?_
  refine z_dup (pc := 51) dX12_init_51 rfl ?_
  refine z_iconst (pc := 52) (x := 1) dX12_init_52 zc_iconst_1 ?_
  refine z_ldc2 (pc := 53) (x := 11324832) dX12_init_53 kl_X12_36 ?_
  obtain ⟨h11, eh11, H⟩ := zbind H
  refine z_lastore (pc := 56) dX12_init_56 eh11 ?_
  refine z_dup (pc := 57) dX12_init_57 rfl ?_
  refine z_iconst (pc := 58) (x := 2) dX12_init_58 zc_iconst_2 ?_
  refine z_ldc2 (pc := 59) (x := 1176170) dX12_init_59 kl_X12_38 ?_
  obtain ⟨h12, eh12, H⟩ := zbind H
  refine z_lastore (pc := 62) dX12_init_62 eh12 ?_
  refine z_dup (pc := 63) dX12_init_63 rfl ?_
  refine z_iconst (pc := 64) (x := 3) dX12_init_64 zc_iconst_3 ?_
  refine z_ldc2 (pc := 65) (x := 311596924) dX12_init_65 kl_X12_40 ?_
  obtain ⟨h13, eh13, H⟩ := zbind H
  refine z_lastore (pc := 68) dX12_init_68 eh13 ?_
  refine z_dup (pc := 69) dX12_init_69 rfl ?_
  refine z_iconst (pc := 70) (x := 4) dX12_init_70 zc_iconst_4 ?_
  refine z_ldc2 (pc := 71) (x := 1597408270) dX12_init_71 kl_X12_42 ?_
  obtain ⟨h14, eh14, H⟩ := zbind H
  refine z_lastore (pc := 74) dX12_init_74 eh14 ?_
  refine z_dup (pc := 75) dX12_init_75 rfl ?_
  refine z_iconst (pc := 76) (x := 5) dX12_init_76 zc_iconst_5 ?_
  refine z_ldc2 (pc := 77) (x := 122589) dX12_init_77 kl_X12_44 ?_
  obtain ⟨h15, eh15, H⟩ := zbind H
  refine z_lastore (pc := 80) dX12_init_80 eh15 ?_
  refine z_dup (pc := 81) dX12_init_81 rfl ?_
  refine z_bipush (pc := 82) (x := 6) dX12_init_82 zc_bipush_6 ?_
  refine z_ldc2 (pc := 84) (x := 730200) dX12_init_84 kl_X12_46 ?_
  obtain ⟨h16, eh16, H⟩ := zbind H
  refine z_lastore (pc := 87) dX12_init_87 eh16 ?_
  refine z_dup (pc := 88) dX12_init_88 rfl ?_
  refine z_bipush (pc := 89) (x := 7) dX12_init_89 zc_bipush_7 ?_
  refine z_ldc2 (pc := 91) (x := 1891) dX12_init_91 kl_X12_48 ?_
  obtain ⟨h17, eh17, H⟩ := zbind H
  refine z_lastore (pc := 94) dX12_init_94 eh17 ?_
  refine z_dup (pc := 95) dX12_init_95 rfl ?_
  refine z_bipush (pc := 96) (x := 8) dX12_init_96 zc_bipush_8 ?_
  refine z_ldc2 (pc := 98) (x := 573) dX12_init_98 kl_X12_50 ?_
  obtain ⟨h18, eh18, H⟩ := zbind H
  refine z_lastore (pc := 101) dX12_init_101 eh18 ?_
  refine z_dup (pc := 102) dX12_init_102 rfl ?_
  refine z_bipush (pc := 103) (x := 9) dX12_init_103 zc_bipush_9 ?_
  refine z_ldc2 (pc := 105) (x := 19741) dX12_init_105 kl_X12_52 ?_
  obtain ⟨h19, eh19, H⟩ := zbind H
  refine z_lastore (pc := 108) dX12_init_108 eh19 ?_
  refine z_dup (pc := 109) dX12_init_109 rfl ?_
  refine z_bipush (pc := 110) (x := 10) dX12_init_110 zc_bipush_10 ?_
  refine z_ldc2 (pc := 112) (x := 36426541) dX12_init_112 kl_X12_54 ?_
  obtain ⟨h20, eh20, H⟩ := zbind H
  refine z_lastore (pc := 115) dX12_init_115 eh20 ?_
  refine z_dup (pc := 116) dX12_init_116 rfl ?_
  refine z_bipush (pc := 117) (x := 11) dX12_init_117 zc_bipush_11 ?_
  refine z_ldc2 (pc := 119) (x := 811933) dX12_init_119 kl_X12_56 ?_
  obtain ⟨h21, eh21, H⟩ := zbind H
  refine z_lastore (pc := 122) dX12_init_122 eh21 ?_
  refine z_dup (pc := 123) dX12_init_123 rfl ?_
  refine z_bipush (pc := 124) (x := 12) dX12_init_124 zc_bipush_12 ?_
  refine z_ldc2 (pc := 126) (x := 969451) dX12_init_126 kl_X12_58 ?_
  obtain ⟨h22, eh22, H⟩ := zbind H
  refine z_lastore (pc := 129) dX12_init_129 eh22 ?_
  refine z_dup (pc := 130) dX12_init_130 rfl ?_
  refine z_bipush (pc := 131) (x := 13) dX12_init_131 zc_bipush_13 ?_
  refine z_ldc2 (pc := 133) (x := 18002) dX12_init_133 kl_X12_60 ?_
  obtain ⟨h23, eh23, H⟩ := zbind H
  refine z_lastore (pc := 136) dX12_init_136 eh23 ?_
  refine z_dup (pc := 137) dX12_init_137 rfl ?_
  refine z_bipush (pc := 138) (x := 14) dX12_init_138 zc_bipush_14 ?_
  refine z_ldc2 (pc := 140) (x := 23270688) dX12_init_140 kl_X12_62 ?_
  obtain ⟨h24, eh24, H⟩ := zbind H
  refine z_lastore (pc := 143) dX12_init_143 eh24 ?_
  refine z_dup (pc := 144) dX12_init_144 rfl ?_
  refine z_bipush (pc := 145) (x := 15) dX12_init_145 zc_bipush_15 ?_
  refine z_ldc2 (pc := 147) (x := 570026) dX12_init_147 kl_X12_64 ?_
  obtain ⟨h25, eh25, H⟩ := zbind H
  refine z_lastore (pc := 150) dX12_init_150 eh25 ?_
  refine z_dup (pc := 151) dX12_init_151 rfl ?_
  refine z_bipush (pc := 152) (x := 16) dX12_init_152 zc_bipush_16 ?_
  refine z_ldc2 (pc := 154) (x := 11873910) dX12_init_154 kl_X12_66 ?_
  obtain ⟨h26, eh26, H⟩ := zbind H
  refine z_lastore (pc := 157) dX12_init_157 eh26 ?_
  refine z_dup (pc := 158) dX12_init_158 rfl ?_
  refine z_bipush (pc := 159) (x := 17) dX12_init_159 zc_bipush_17 ?_
  refine z_ldc2 (pc := 161) (x := 43567804) dX12_init_161 kl_X12_68 ?_
  obtain ⟨h27, eh27, H⟩ := zbind H
  refine z_lastore (pc := 164) dX12_init_164 eh27 ?_
  refine z_dup (pc := 165) dX12_init_165 rfl ?_
  refine z_bipush (pc := 166) (x := 18) dX12_init_166 zc_bipush_18 ?_
  refine z_ldc2 (pc := 168) (x := 571827392) dX12_init_168 kl_X12_70 ?_
  obtain ⟨h28, eh28, H⟩ := zbind H
  refine z_lastore (pc := 171) dX12_init_171 eh28 ?_
  refine z_dup (pc := 172) dX12_init_172 rfl ?_
  refine z_bipush (pc := 173) (x := 19) dX12_init_173 zc_bipush_19 ?_
  refine z_ldc2 (pc := 175) (x := 22963959) dX12_init_175 kl_X12_72 ?_
  obtain ⟨h29, eh29, H⟩ := zbind H
  refine z_lastore (pc := 178) dX12_init_178 eh29 ?_
  refine z_dup (pc := 179) dX12_init_179 rfl ?_
  refine z_bipush (pc := 180) (x := 20) dX12_init_180 zc_bipush_20 ?_
  refine z_ldc2 (pc := 182) (x := 1273225) dX12_init_182 kl_X12_74 ?_
  obtain ⟨h30, eh30, H⟩ := zbind H
  refine z_lastore (pc := 185) dX12_init_185 eh30 ?_
  obtain ⟨h31, eh31, H⟩ := zbind H
  refine z_putF (pc := 186) dX12_init_186 fd_X12_76 rfl rfl rfl eh31 ?_
  refine z_aload_n (pc := 189) 0 dX12_init_189 rfl rfl ?_
  refine z_bipush (pc := 190) (x := 17) dX12_init_190 zc_bipush_17 ?_
  refine z_newarray (pc := 192) (mc := 50) (ms := 45056) (N := 17) 0 (by decide) dX12_init_192 rfl ac_int (by decide) (by decide) (by decide) ?_
  obtain ⟨h32, eh32, H⟩ := zletE H
  refine z_nmH eh32 ?_
  obtain ⟨h33, eh33, H⟩ := zbind H
  refine z_putF (pc := 194) dX12_init_194 fd_X12_79 rfl rfl rfl eh33 ?_
  refine z_aload_n (pc := 197) 0 dX12_init_197 rfl rfl ?_
  refine z_bipush (pc := 198) (x := 17) dX12_init_198 zc_bipush_17 ?_
  refine z_newarray (pc := 200) (mc := 49) (ms := 45039) (N := 17) 0 (by decide) dX12_init_200 rfl ac_int (by decide) (by decide) (by decide) ?_
  obtain ⟨h34, eh34, H⟩ := zletE H
  refine z_nmH eh34 ?_
  obtain ⟨h35, eh35, H⟩ := zbind H
  refine z_putF (pc := 202) dX12_init_202 fd_X12_82 rfl rfl rfl eh35 ?_
  refine z_aload_n (pc := 205) 0 dX12_init_205 rfl rfl ?_
  refine z_bipush (pc := 206) (x := 17) dX12_init_206 zc_bipush_17 ?_
  refine z_newarray (pc := 208) (mc := 48) (ms := 45022) (N := 17) 0 (by decide) dX12_init_208 rfl ac_int (by decide) (by decide) (by decide) ?_
  obtain ⟨h36, eh36, H⟩ := zletE H
  refine z_nmH eh36 ?_
  obtain ⟨h37, eh37, H⟩ := zbind H
  refine z_putF (pc := 210) dX12_init_210 fd_X12_85 rfl rfl rfl eh37 ?_
  refine z_aload_n (pc := 213) 0 dX12_init_213 rfl rfl ?_
  refine z_sipush (pc := 214) (x := 340) dX12_init_214 zc_sipush_340 ?_
  refine z_newarray (pc := 217) (mc := 47) (ms := 44682) (N := 340) 0 (by decide) dX12_init_217 rfl ac_int (by decide) (by decide) (by decide) ?_
  obtain ⟨h38, eh38, H⟩ := zletE H
  refine z_nmH eh38 ?_
  obtain ⟨h39, eh39, H⟩ := zbind H
  refine z_putF (pc := 219) dX12_init_219 fd_X12_88 rfl rfl rfl eh39 ?_
  refine z_aload_n (pc := 222) 0 dX12_init_222 rfl rfl ?_
  refine z_sipush (pc := 223) (x := 340) dX12_init_223 zc_sipush_340 ?_
  refine z_newarray (pc := 226) (mc := 46) (ms := 44342) (N := 340) 0 (by decide) dX12_init_226 rfl ac_int (by decide) (by decide) (by decide) ?_
  obtain ⟨h40, eh40, H⟩ := zletE H
  refine z_nmH eh40 ?_
  obtain ⟨h41, eh41, H⟩ := zbind H
  refine z_putF (pc := 228) dX12_init_228 fd_X12_91 rfl rfl rfl eh41 ?_
  refine z_aload_n (pc := 231) 0 dX12_init_231 rfl rfl ?_
  refine z_sipush (pc := 232) (x := 340) dX12_init_232 zc_sipush_340 ?_
  refine z_newarray (pc := 235) (mc := 45) (ms := 44002) (N := 340) 0 (by decide) dX12_init_235 rfl ac_int (by decide) (by decide) (by decide) ?_
  obtain ⟨h42, eh42, H⟩ := zletE H
  refine z_nmH eh42 ?_
  obtain ⟨h43, eh43, H⟩ := zbind H
  refine z_putF (pc := 237) dX12_init_237 fd_X12_94 rfl rfl rfl eh43 ?_
  refine z_aload_n (pc := 240) 0 dX12_init_240 rfl rfl ?_
  refine z_bipush (pc := 241) (x := 8) dX12_init_241 zc_bipush_8 ?_
  refine z_newarray (pc := 243) (mc := 44) (ms := 43994) (N := 8) 1 (by decide) dX12_init_243 rfl ac_long (by decide) (by decide) (by decide) ?_
  obtain ⟨h44, eh44, H⟩ := zletE H
  refine z_nmH eh44 ?_
  obtain ⟨h45, eh45, H⟩ := zbind H
  refine z_putF (pc := 245) dX12_init_245 fd_X12_97 rfl rfl rfl eh45 ?_
  refine z_aload_n (pc := 248) 0 dX12_init_248 rfl rfl ?_
  refine z_sipush (pc := 249) (x := 20400) dX12_init_249 zc_sipush_20400 ?_
  refine z_newarray (pc := 252) (mc := 43) (ms := 23594) (N := 20400) 0 (by decide) dX12_init_252 rfl ac_int (by decide) (by decide) (by decide) ?_
  obtain ⟨h46, eh46, H⟩ := zletE H
  refine z_nmH eh46 ?_
  obtain ⟨h47, eh47, H⟩ := zbind H
  refine z_putF (pc := 254) dX12_init_254 fd_X12_100 rfl rfl rfl eh47 ?_
  refine z_aload_n (pc := 257) 0 dX12_init_257 rfl rfl ?_
  refine z_sipush (pc := 258) (x := 20400) dX12_init_258 zc_sipush_20400 ?_
  refine z_newarray (pc := 261) (mc := 42) (ms := 3194) (N := 20400) 0 (by decide) dX12_init_261 rfl ac_int (by decide) (by decide) (by decide) ?_
  obtain ⟨h48, eh48, H⟩ := zletE H
  refine z_nmH eh48 ?_
  obtain ⟨h49, eh49, H⟩ := zbind H
  refine z_putF (pc := 263) dX12_init_263 fd_X12_103 rfl rfl rfl eh49 ?_
  refine z_aload_n (pc := 266) 0 dX12_init_266 rfl rfl ?_
  refine z_bipush (pc := 267) (x := 11) dX12_init_267 zc_bipush_11 ?_
  refine z_newarray (pc := 269) (mc := 41) (ms := 3183) (N := 11) 0 (by decide) dX12_init_269 rfl ac_int (by decide) (by decide) (by decide) ?_
  obtain ⟨h50, eh50, H⟩ := zletE H
  refine z_nmH eh50 ?_
  obtain ⟨h51, eh51, H⟩ := zbind H
  refine z_putF (pc := 271) dX12_init_271 fd_X12_106 rfl rfl rfl eh51 ?_
  refine z_aload_n (pc := 274) 0 dX12_init_274 rfl rfl ?_
  refine z_bipush (pc := 275) (x := 8) dX12_init_275 zc_bipush_8 ?_
  refine z_newarray (pc := 277) (mc := 40) (ms := 3175) (N := 8) 0 (by decide) dX12_init_277 rfl ac_int (by decide) (by decide) (by decide) ?_
  obtain ⟨h52, eh52, H⟩ := zletE H
  refine z_nmH eh52 ?_
  obtain ⟨h53, eh53, H⟩ := zbind H
  refine z_putF (pc := 279) dX12_init_279 fd_X12_109 rfl rfl rfl eh53 ?_
  refine z_aload_n (pc := 282) 0 dX12_init_282 rfl rfl ?_
  refine z_sipush (pc := 283) (x := 1200) dX12_init_283 zc_sipush_1200 ?_
  refine z_newarray (pc := 286) (mc := 39) (ms := 1975) (N := 1200) 0 (by decide) dX12_init_286 rfl ac_int (by decide) (by decide) (by decide) ?_
  obtain ⟨h54, eh54, H⟩ := zletE H
  refine z_nmH eh54 ?_
  obtain ⟨h55, eh55, H⟩ := zbind H
  refine z_putF (pc := 288) dX12_init_288 fd_X12_112 rfl rfl rfl eh55 ?_
  refine z_aload_n (pc := 291) 0 dX12_init_291 rfl rfl ?_
  refine z_bipush (pc := 292) (x := 40) dX12_init_292 zc_bipush_40 ?_
  refine z_newarray (pc := 294) (mc := 38) (ms := 1935) (N := 40) 0 (by decide) dX12_init_294 rfl ac_int (by decide) (by decide) (by decide) ?_
  obtain ⟨h56, eh56, H⟩ := zletE H
  refine z_nmH eh56 ?_
  obtain ⟨h57, eh57, H⟩ := zbind H
  refine z_putF (pc := 296) dX12_init_296 fd_X12_115 rfl rfl rfl eh57 ?_
  refine z_aload_n (pc := 299) 0 dX12_init_299 rfl rfl ?_
  refine z_bipush (pc := 300) (x := 40) dX12_init_300 zc_bipush_40 ?_
  refine z_newarray (pc := 302) (mc := 37) (ms := 1895) (N := 40) 0 (by decide) dX12_init_302 rfl ac_int (by decide) (by decide) (by decide) ?_
  obtain ⟨h58, eh58, H⟩ := zletE H
  refine z_nmH eh58 ?_
  obtain ⟨h59, eh59, H⟩ := zbind H
  refine z_putF (pc := 304) dX12_init_304 fd_X12_118 rfl rfl rfl eh59 ?_
  refine z_aload_n (pc := 307) 0 dX12_init_307 rfl rfl ?_
  refine z_bipush (pc := 308) (x := 40) dX12_init_308 zc_bipush_40 ?_
  refine z_newarray (pc := 310) (mc := 36) (ms := 1855) (N := 40) 0 (by decide) dX12_init_310 rfl ac_int (by decide) (by decide) (by decide) ?_
  obtain ⟨h60, eh60, H⟩ := zletE H
  refine z_nmH eh60 ?_
  obtain ⟨h61, eh61, H⟩ := zbind H
  refine z_putF (pc := 312) dX12_init_312 fd_X12_121 rfl rfl rfl eh61 ?_
  refine z_aload_n (pc := 315) 0 dX12_init_315 rfl rfl ?_
  refine z_bipush (pc := 316) (x := 40) dX12_init_316 zc_bipush_40 ?_
  refine z_newarray (pc := 318) (mc := 35) (ms := 1815) (N := 40) 0 (by decide) dX12_init_318 rfl ac_int (by decide) (by decide) (by decide) ?_
  obtain ⟨h62, eh62, H⟩ := zletE H
  refine z_nmH eh62 ?_
  obtain ⟨h63, eh63, H⟩ := zbind H
  refine z_putF (pc := 320) dX12_init_320 fd_X12_124 rfl rfl rfl eh63 ?_
  refine z_aload_n (pc := 323) 0 dX12_init_323 rfl rfl ?_
  refine z_bipush (pc := 324) (x := 40) dX12_init_324 zc_bipush_40 ?_
  refine z_newarray (pc := 326) (mc := 34) (ms := 1775) (N := 40) 0 (by decide) dX12_init_326 rfl ac_int (by decide) (by decide) (by decide) ?_
  obtain ⟨h64, eh64, H⟩ := zletE H
  refine z_nmH eh64 ?_
  obtain ⟨h65, eh65, H⟩ := zbind H
  refine z_putF (pc := 328) dX12_init_328 fd_X12_127 rfl rfl rfl eh65 ?_
  refine z_aload_n (pc := 331) 0 dX12_init_331 rfl rfl ?_
  refine z_bipush (pc := 332) (x := 40) dX12_init_332 zc_bipush_40 ?_
  refine z_newarray (pc := 334) (mc := 33) (ms := 1735) (N := 40) 0 (by decide) dX12_init_334 rfl ac_int (by decide) (by decide) (by decide) ?_
  obtain ⟨h66, eh66, H⟩ := zletE H
  refine z_nmH eh66 ?_
  obtain ⟨h67, eh67, H⟩ := zbind H
  refine z_putF (pc := 336) dX12_init_336 fd_X12_130 rfl rfl rfl eh67 ?_
  refine z_aload_n (pc := 339) 0 dX12_init_339 rfl rfl ?_
  refine z_bipush (pc := 340) (x := 40) dX12_init_340 zc_bipush_40 ?_
  refine z_newarray (pc := 342) (mc := 32) (ms := 1695) (N := 40) 0 (by decide) dX12_init_342 rfl ac_int (by decide) (by decide) (by decide) ?_
  obtain ⟨h68, eh68, H⟩ := zletE H
  refine z_nmH eh68 ?_
  obtain ⟨h69, eh69, H⟩ := zbind H
  refine z_putF (pc := 344) dX12_init_344 fd_X12_133 rfl rfl rfl eh69 ?_
  refine z_aload_n (pc := 347) 0 dX12_init_347 rfl rfl ?_
  refine z_bipush (pc := 348) (x := 40) dX12_init_348 zc_bipush_40 ?_
  refine z_newarray (pc := 350) (mc := 31) (ms := 1655) (N := 40) 0 (by decide) dX12_init_350 rfl ac_int (by decide) (by decide) (by decide) ?_
  obtain ⟨h70, eh70, H⟩ := zletE H
  refine z_nmH eh70 ?_
  obtain ⟨h71, eh71, H⟩ := zbind H
  refine z_putF (pc := 352) dX12_init_352 fd_X12_136 rfl rfl rfl eh71 ?_
  refine z_aload_n (pc := 355) 0 dX12_init_355 rfl rfl ?_
  refine z_bipush (pc := 356) (x := 40) dX12_init_356 zc_bipush_40 ?_
  refine z_newarray (pc := 358) (mc := 30) (ms := 1615) (N := 40) 0 (by decide) dX12_init_358 rfl ac_int (by decide) (by decide) (by decide) ?_
  obtain ⟨h72, eh72, H⟩ := zletE H
  refine z_nmH eh72 ?_
  obtain ⟨h73, eh73, H⟩ := zbind H
  refine z_putF (pc := 360) dX12_init_360 fd_X12_139 rfl rfl rfl eh73 ?_
  refine z_aload_n (pc := 363) 0 dX12_init_363 rfl rfl ?_
  refine z_bipush (pc := 364) (x := 40) dX12_init_364 zc_bipush_40 ?_
  refine z_newarray (pc := 366) (mc := 29) (ms := 1575) (N := 40) 0 (by decide) dX12_init_366 rfl ac_int (by decide) (by decide) (by decide) ?_
  obtain ⟨h74, eh74, H⟩ := zletE H
  refine z_nmH eh74 ?_
  obtain ⟨h75, eh75, H⟩ := zbind H
  refine z_putF (pc := 368) dX12_init_368 fd_X12_142 rfl rfl rfl eh75 ?_
  refine z_aload_n (pc := 371) 0 dX12_init_371 rfl rfl ?_
  refine z_bipush (pc := 372) (x := 40) dX12_init_372 zc_bipush_40 ?_
  refine z_newarray (pc := 374) (mc := 28) (ms := 1535) (N := 40) 0 (by decide) dX12_init_374 rfl ac_int (by decide) (by decide) (by decide) ?_
  obtain ⟨h76, eh76, H⟩ := zletE H
  refine z_nmH eh76 ?_
  obtain ⟨h77, eh77, H⟩ := zbind H
  refine z_putF (pc := 376) dX12_init_376 fd_X12_145 rfl rfl rfl eh77 ?_
  refine z_aload_n (pc := 379) 0 dX12_init_379 rfl rfl ?_
  refine z_bipush (pc := 380) (x := 61) dX12_init_380 zc_bipush_61 ?_
  refine z_newarray (pc := 382) (mc := 27) (ms := 1474) (N := 61) 0 (by decide) dX12_init_382 rfl ac_int (by decide) (by decide) (by decide) ?_
  obtain ⟨h78, eh78, H⟩ := zletE H
  refine z_nmH eh78 ?_
  obtain ⟨h79, eh79, H⟩ := zbind H
  refine z_putF (pc := 384) dX12_init_384 fd_X12_148 rfl rfl rfl eh79 ?_
  refine z_aload_n (pc := 387) 0 dX12_init_387 rfl rfl ?_
  refine z_bipush (pc := 388) (x := 61) dX12_init_388 zc_bipush_61 ?_
  refine z_newarray (pc := 390) (mc := 26) (ms := 1413) (N := 61) 0 (by decide) dX12_init_390 rfl ac_int (by decide) (by decide) (by decide) ?_
  obtain ⟨h80, eh80, H⟩ := zletE H
  refine z_nmH eh80 ?_
  obtain ⟨h81, eh81, H⟩ := zbind H
  refine z_putF (pc := 392) dX12_init_392 fd_X12_151 rfl rfl rfl eh81 ?_
  refine z_aload_n (pc := 395) 0 dX12_init_395 rfl rfl ?_
  refine z_bipush (pc := 396) (x := 61) dX12_init_396 zc_bipush_61 ?_
  refine z_newarray (pc := 398) (mc := 25) (ms := 1352) (N := 61) 0 (by decide) dX12_init_398 rfl ac_int (by decide) (by decide) (by decide) ?_
  obtain ⟨h82, eh82, H⟩ := zletE H
  refine z_nmH eh82 ?_
  obtain ⟨h83, eh83, H⟩ := zbind H
  refine z_putF (pc := 400) dX12_init_400 fd_X12_154 rfl rfl rfl eh83 ?_
  refine z_aload_n (pc := 403) 0 dX12_init_403 rfl rfl ?_
  refine z_bipush (pc := 404) (x := 80) dX12_init_404 zc_bipush_80 ?_
  refine z_newarray (pc := 406) (mc := 24) (ms := 1272) (N := 80) 0 (by decide) dX12_init_406 rfl ac_int (by decide) (by decide) (by decide) ?_
  obtain ⟨h84, eh84, H⟩ := zletE H
  refine z_nmH eh84 ?_
  obtain ⟨h85, eh85, H⟩ := zbind H
  refine z_putF (pc := 408) dX12_init_408 fd_X12_157 rfl rfl rfl eh85 ?_
  refine z_aload_n (pc := 411) 0 dX12_init_411 rfl rfl ?_
  refine z_bipush (pc := 412) (x := 80) dX12_init_412 zc_bipush_80 ?_
  refine z_newarray (pc := 414) (mc := 23) (ms := 1192) (N := 80) 3 (by decide) dX12_init_414 rfl ac_boolean (by decide) (by decide) (by decide) ?_
  obtain ⟨h86, eh86, H⟩ := zletE H
  refine z_nmH eh86 ?_
  obtain ⟨h87, eh87, H⟩ := zbind H
  refine z_putF (pc := 416) dX12_init_416 fd_X12_160 rfl rfl rfl eh87 ?_
  refine z_aload_n (pc := 419) 0 dX12_init_419 rfl rfl ?_
  refine z_bipush (pc := 420) (x := 80) dX12_init_420 zc_bipush_80 ?_
  refine z_newarray (pc := 422) (mc := 22) (ms := 1112) (N := 80) 0 (by decide) dX12_init_422 rfl ac_int (by decide) (by decide) (by decide) ?_
  obtain ⟨h88, eh88, H⟩ := zletE H
  refine z_nmH eh88 ?_
  obtain ⟨h89, eh89, H⟩ := zbind H
  refine z_putF (pc := 424) dX12_init_424 fd_X12_164 rfl rfl rfl eh89 ?_
  refine z_aload_n (pc := 427) 0 dX12_init_427 rfl rfl ?_
  refine z_bipush (pc := 428) (x := 40) dX12_init_428 zc_bipush_40 ?_
  refine z_newarray (pc := 430) (mc := 21) (ms := 1072) (N := 40) 0 (by decide) dX12_init_430 rfl ac_int (by decide) (by decide) (by decide) ?_
  obtain ⟨h90, eh90, H⟩ := zletE H
  refine z_nmH eh90 ?_
  obtain ⟨h91, eh91, H⟩ := zbind H
  refine z_putF (pc := 432) dX12_init_432 fd_X12_167 rfl rfl rfl eh91 ?_
  refine z_aload_n (pc := 435) 0 dX12_init_435 rfl rfl ?_
  refine z_sipush (pc := 436) (x := 128) dX12_init_436 zc_sipush_128 ?_
  refine z_newarray (pc := 439) (mc := 20) (ms := 944) (N := 128) 0 (by decide) dX12_init_439 rfl ac_int (by decide) (by decide) (by decide) ?_
  obtain ⟨h92, eh92, H⟩ := zletE H
  refine z_nmH eh92 ?_
  obtain ⟨h93, eh93, H⟩ := zbind H
  refine z_putF (pc := 441) dX12_init_441 fd_X12_170 rfl rfl rfl eh93 ?_
  refine z_aload_n (pc := 444) 0 dX12_init_444 rfl rfl ?_
  refine z_sipush (pc := 445) (x := 128) dX12_init_445 zc_sipush_128 ?_
  refine z_newarray (pc := 448) (mc := 19) (ms := 816) (N := 128) 0 (by decide) dX12_init_448 rfl ac_int (by decide) (by decide) (by decide) ?_
  obtain ⟨h94, eh94, H⟩ := zletE H
  refine z_nmH eh94 ?_
  obtain ⟨h95, eh95, H⟩ := zbind H
  refine z_putF (pc := 450) dX12_init_450 fd_X12_173 rfl rfl rfl eh95 ?_
  refine z_aload_n (pc := 453) 0 dX12_init_453 rfl rfl ?_
  refine z_sipush (pc := 454) (x := 128) dX12_init_454 zc_sipush_128 ?_
  refine z_newarray (pc := 457) (mc := 18) (ms := 688) (N := 128) 3 (by decide) dX12_init_457 rfl ac_boolean (by decide) (by decide) (by decide) ?_
  obtain ⟨h96, eh96, H⟩ := zletE H
  refine z_nmH eh96 ?_
  obtain ⟨h97, eh97, H⟩ := zbind H
  refine z_putF (pc := 459) dX12_init_459 fd_X12_176 rfl rfl rfl eh97 ?_
  refine z_aload_n (pc := 462) 0 dX12_init_462 rfl rfl ?_
  refine z_iconst (pc := 463) (x := 4) dX12_init_463 zc_iconst_4 ?_
  refine z_newarray (pc := 464) (mc := 17) (ms := 684) (N := 4) 3 (by decide) dX12_init_464 rfl ac_boolean (by decide) (by decide) (by decide) ?_
  obtain ⟨h98, eh98, H⟩ := zletE H
  refine z_nmH eh98 ?_
  obtain ⟨h99, eh99, H⟩ := zbind H
  refine z_putF (pc := 466) dX12_init_466 fd_X12_179 rfl rfl rfl eh99 ?_
  refine z_aload_n (pc := 469) 0 dX12_init_469 rfl rfl ?_
  refine z_iconst (pc := 470) (x := 4) dX12_init_470 zc_iconst_4 ?_
  refine z_newarray (pc := 471) (mc := 16) (ms := 680) (N := 4) 0 (by decide) dX12_init_471 rfl ac_int (by decide) (by decide) (by decide) ?_
  obtain ⟨h100, eh100, H⟩ := zletE H
  refine z_nmH eh100 ?_
  obtain ⟨h101, eh101, H⟩ := zbind H
  refine z_putF (pc := 473) dX12_init_473 fd_X12_182 rfl rfl rfl eh101 ?_
  refine z_aload_n (pc := 476) 0 dX12_init_476 rfl rfl ?_
  refine z_iconst (pc := 477) (x := 4) dX12_init_477 zc_iconst_4 ?_
  refine z_newarray (pc := 478) (mc := 15) (ms := 676) (N := 4) 0 (by decide) dX12_init_478 rfl ac_int (by decide) (by decide) (by decide) ?_
  obtain ⟨h102, eh102, H⟩ := zletE H
  refine z_nmH eh102 ?_
  obtain ⟨h103, eh103, H⟩ := zbind H
  refine z_putF (pc := 480) dX12_init_480 fd_X12_185 rfl rfl rfl eh103 ?_
  refine z_aload_n (pc := 483) 0 dX12_init_483 rfl rfl ?_
  refine z_iconst (pc := 484) (x := 4) dX12_init_484 zc_iconst_4 ?_
  refine z_newarray (pc := 485) (mc := 14) (ms := 672) (N := 4) 0 (by decide) dX12_init_485 rfl ac_int (by decide) (by decide) (by decide) ?_
  obtain ⟨h104, eh104, H⟩ := zletE H
  refine z_nmH eh104 ?_
  obtain ⟨h105, eh105, H⟩ := zbind H
  refine z_putF (pc := 487) dX12_init_487 fd_X12_188 rfl rfl rfl eh105 ?_
  refine z_aload_n (pc := 490) 0 dX12_init_490 rfl rfl ?_
  refine z_iconst (pc := 491) (x := 4) dX12_init_491 zc_iconst_4 ?_
  refine z_newarray (pc := 492) (mc := 13) (ms := 668) (N := 4) 0 (by decide) dX12_init_492 rfl ac_int (by decide) (by decide) (by decide) ?_
  obtain ⟨h106, eh106, H⟩ := zletE H
  refine z_nmH eh106 ?_
  obtain ⟨h107, eh107, H⟩ := zbind H
  refine z_putF (pc := 494) dX12_init_494 fd_X12_191 rfl rfl rfl eh107 ?_
  refine z_aload_n (pc := 497) 0 dX12_init_497 rfl rfl ?_
  refine z_bipush (pc := 498) (x := 16) dX12_init_498 zc_bipush_16 ?_
  refine z_newarray (pc := 500) (mc := 12) (ms := 652) (N := 16) 3 (by decide) dX12_init_500 rfl ac_boolean (by decide) (by decide) (by decide) ?_
  obtain ⟨h108, eh108, H⟩ := zletE H
  refine z_nmH eh108 ?_
  obtain ⟨h109, eh109, H⟩ := zbind H
  refine z_putF (pc := 502) dX12_init_502 fd_X12_194 rfl rfl rfl eh109 ?_
  refine z_aload_n (pc := 505) 0 dX12_init_505 rfl rfl ?_
  refine z_iconst (pc := 506) (x := 4) dX12_init_506 zc_iconst_4 ?_
  refine z_newarray (pc := 507) (mc := 11) (ms := 648) (N := 4) 0 (by decide) dX12_init_507 rfl ac_int (by decide) (by decide) (by decide) ?_
  obtain ⟨h110, eh110, H⟩ := zletE H
  refine z_nmH eh110 ?_
  obtain ⟨h111, eh111, H⟩ := zbind H
  refine z_putF (pc := 509) dX12_init_509 fd_X12_197 rfl rfl rfl eh111 ?_
  refine z_aload_n (pc := 512) 0 dX12_init_512 rfl rfl ?_
  refine z_bipush (pc := 513) (x := 8) dX12_init_513 zc_bipush_8 ?_
  refine z_newarray (pc := 515) (mc := 10) (ms := 640) (N := 8) 0 (by decide) dX12_init_515 rfl ac_int (by decide) (by decide) (by decide) ?_
  obtain ⟨h112, eh112, H⟩ := zletE H
  refine z_nmH eh112 ?_
  obtain ⟨h113, eh113, H⟩ := zbind H
  refine z_putF (pc := 517) dX12_init_517 fd_X12_200 rfl rfl rfl eh113 ?_
  refine z_aload_n (pc := 520) 0 dX12_init_520 rfl rfl ?_
  refine z_bipush (pc := 521) (x := 72) dX12_init_521 zc_bipush_72 ?_
  refine z_newarray (pc := 523) (mc := 9) (ms := 568) (N := 72) 0 (by decide) dX12_init_523 rfl ac_int (by decide) (by decide) (by decide) ?_
  obtain ⟨h114, eh114, H⟩ := zletE H
  refine z_nmH eh114 ?_
  obtain ⟨h115, eh115, H⟩ := zbind H
  refine z_putF (pc := 525) dX12_init_525 fd_X12_203 rfl rfl rfl eh115 ?_
  refine z_aload_n (pc := 528) 0 dX12_init_528 rfl rfl ?_
  refine z_sipush (pc := 529) (x := 248) dX12_init_529 zc_sipush_248 ?_
  refine z_newarray (pc := 532) (mc := 8) (ms := 320) (N := 248) 0 (by decide) dX12_init_532 rfl ac_int (by decide) (by decide) (by decide) ?_
  obtain ⟨h116, eh116, H⟩ := zletE H
  refine z_nmH eh116 ?_
  obtain ⟨h117, eh117, H⟩ := zbind H
  refine z_putF (pc := 534) dX12_init_534 fd_X12_206 rfl rfl rfl eh117 ?_
  refine z_aload_n (pc := 537) 0 dX12_init_537 rfl rfl ?_
  refine z_sipush (pc := 538) (x := 248) dX12_init_538 zc_sipush_248 ?_
  refine z_newarray (pc := 541) (mc := 7) (ms := 72) (N := 248) 0 (by decide) dX12_init_541 rfl ac_int (by decide) (by decide) (by decide) ?_
  obtain ⟨h118, eh118, H⟩ := zletE H
  refine z_nmH eh118 ?_
  obtain ⟨h119, eh119, H⟩ := zbind H
  refine z_putF (pc := 543) dX12_init_543 fd_X12_209 rfl rfl rfl eh119 ?_
  refine z_aload_n (pc := 546) 0 dX12_init_546 rfl rfl ?_
  refine z_bipush (pc := 547) (x := 8) dX12_init_547 zc_bipush_8 ?_
  refine z_newarray (pc := 549) (mc := 6) (ms := 64) (N := 8) 3 (by decide) dX12_init_549 rfl ac_boolean (by decide) (by decide) (by decide) ?_
  obtain ⟨h120, eh120, H⟩ := zletE H
  refine z_nmH eh120 ?_
  obtain ⟨h121, eh121, H⟩ := zbind H
  refine z_putF (pc := 551) dX12_init_551 fd_X12_212 rfl rfl rfl eh121 ?_
  refine z_aload_n (pc := 554) 0 dX12_init_554 rfl rfl ?_
  refine z_bipush (pc := 555) (x := 8) dX12_init_555 zc_bipush_8 ?_
  refine z_newarray (pc := 557) (mc := 5) (ms := 56) (N := 8) 0 (by decide) dX12_init_557 rfl ac_int (by decide) (by decide) (by decide) ?_
  obtain ⟨h122, eh122, H⟩ := zletE H
  refine z_nmH eh122 ?_
  obtain ⟨h123, eh123, H⟩ := zbind H
  refine z_putF (pc := 559) dX12_init_559 fd_X12_215 rfl rfl rfl eh123 ?_
  refine z_aload_n (pc := 562) 0 dX12_init_562 rfl rfl ?_
  refine z_bipush (pc := 563) (x := 8) dX12_init_563 zc_bipush_8 ?_
  refine z_newarray (pc := 565) (mc := 4) (ms := 48) (N := 8) 0 (by decide) dX12_init_565 rfl ac_int (by decide) (by decide) (by decide) ?_
  obtain ⟨h124, eh124, H⟩ := zletE H
  refine z_nmH eh124 ?_
  obtain ⟨h125, eh125, H⟩ := zbind H
  refine z_putF (pc := 567) dX12_init_567 fd_X12_218 rfl rfl rfl eh125 ?_
  refine z_aload_n (pc := 570) 0 dX12_init_570 rfl rfl ?_
  refine z_bipush (pc := 571) (x := 24) dX12_init_571 zc_bipush_24 ?_
  refine z_newarray (pc := 573) (mc := 3) (ms := 24) (N := 24) 0 (by decide) dX12_init_573 rfl ac_int (by decide) (by decide) (by decide) ?_
  obtain ⟨h126, eh126, H⟩ := zletE H
  refine z_nmH eh126 ?_
  obtain ⟨h127, eh127, H⟩ := zbind H
  refine z_putF (pc := 575) dX12_init_575 fd_X12_221 rfl rfl rfl eh127 ?_
  refine z_aload_n (pc := 578) 0 dX12_init_578 rfl rfl ?_
  refine z_bipush (pc := 579) (x := 8) dX12_init_579 zc_bipush_8 ?_
  refine z_newarray (pc := 581) (mc := 2) (ms := 16) (N := 8) 0 (by decide) dX12_init_581 rfl ac_int (by decide) (by decide) (by decide) ?_
  obtain ⟨h128, eh128, H⟩ := zletE H
  refine z_nmH eh128 ?_
  obtain ⟨h129, eh129, H⟩ := zbind H
  refine z_putF (pc := 583) dX12_init_583 fd_X12_224 rfl rfl rfl eh129 ?_
  refine z_aload_n (pc := 586) 0 dX12_init_586 rfl rfl ?_
  refine z_bipush (pc := 587) (x := 8) dX12_init_587 zc_bipush_8 ?_
  refine z_newarray (pc := 589) (mc := 1) (ms := 8) (N := 8) 0 (by decide) dX12_init_589 rfl ac_int (by decide) (by decide) (by decide) ?_
  obtain ⟨h130, eh130, H⟩ := zletE H
  refine z_nmH eh130 ?_
  obtain ⟨h131, eh131, H⟩ := zbind H
  refine z_putF (pc := 591) dX12_init_591 fd_X12_227 rfl rfl rfl eh131 ?_
  refine z_aload_n (pc := 594) 0 dX12_init_594 rfl rfl ?_
  refine z_bipush (pc := 595) (x := 8) dX12_init_595 zc_bipush_8 ?_
  refine z_newarray (pc := 597) (mc := 0) (ms := 0) (N := 8) 0 (by decide) dX12_init_597 rfl ac_int (by decide) (by decide) (by decide) ?_
  obtain ⟨h132, eh132, H⟩ := zletE H
  refine z_nmH eh132 ?_
  refine z_dup (pc := 599) dX12_init_599 rfl ?_
  refine z_iconst (pc := 600) (x := 0) dX12_init_600 zc_iconst_0 ?_
  refine z_iconst (pc := 601) (x := 1) dX12_init_601 zc_iconst_1 ?_
  obtain ⟨h133, eh133, H⟩ := zbind H
  refine z_iastore (pc := 602) dX12_init_602 eh133 ?_
  refine z_dup (pc := 603) dX12_init_603 rfl ?_
  refine z_iconst (pc := 604) (x := 1) dX12_init_604 zc_iconst_1 ?_
  refine z_iconst (pc := 605) (x := 3) dX12_init_605 zc_iconst_3 ?_
  obtain ⟨h134, eh134, H⟩ := zbind H
  refine z_iastore (pc := 606) dX12_init_606 eh134 ?_
  refine z_dup (pc := 607) dX12_init_607 rfl ?_
  refine z_iconst (pc := 608) (x := 2) dX12_init_608 zc_iconst_2 ?_
  refine z_bipush (pc := 609) (x := 9) dX12_init_609 zc_bipush_9 ?_
  obtain ⟨h135, eh135, H⟩ := zbind H
  refine z_iastore (pc := 611) dX12_init_611 eh135 ?_
  refine z_dup (pc := 612) dX12_init_612 rfl ?_
  refine z_iconst (pc := 613) (x := 3) dX12_init_613 zc_iconst_3 ?_
  refine z_bipush (pc := 614) (x := 27) dX12_init_614 zc_bipush_27 ?_
  obtain ⟨h136, eh136, H⟩ := zbind H
  refine z_iastore (pc := 616) dX12_init_616 eh136 ?_
  refine z_dup (pc := 617) dX12_init_617 rfl ?_
  refine z_iconst (pc := 618) (x := 4) dX12_init_618 zc_iconst_4 ?_
  refine z_bipush (pc := 619) (x := 81) dX12_init_619 zc_bipush_81 ?_
  obtain ⟨h137, eh137, H⟩ := zbind H
  refine z_iastore (pc := 621) dX12_init_621 eh137 ?_
  refine z_dup (pc := 622) dX12_init_622 rfl ?_
  refine z_iconst (pc := 623) (x := 5) dX12_init_623 zc_iconst_5 ?_
  refine z_sipush (pc := 624) (x := 243) dX12_init_624 zc_sipush_243 ?_
  obtain ⟨h138, eh138, H⟩ := zbind H
  refine z_iastore (pc := 627) dX12_init_627 eh138 ?_
  refine z_dup (pc := 628) dX12_init_628 rfl ?_
  refine z_bipush (pc := 629) (x := 6) dX12_init_629 zc_bipush_6 ?_
  refine z_sipush (pc := 631) (x := 729) dX12_init_631 zc_sipush_729 ?_
  obtain ⟨h139, eh139, H⟩ := zbind H
  refine z_iastore (pc := 634) dX12_init_634 eh139 ?_
  refine z_dup (pc := 635) dX12_init_635 rfl ?_
  refine z_bipush (pc := 636) (x := 7) dX12_init_636 zc_bipush_7 ?_
  refine z_sipush (pc := 638) (x := 2187) dX12_init_638 zc_sipush_2187 ?_
  obtain ⟨h140, eh140, H⟩ := zbind H
  refine z_iastore (pc := 641) dX12_init_641 eh140 ?_
  obtain ⟨h141, eh141, H⟩ := zbind H
  refine z_putF (pc := 642) dX12_init_642 fd_X12_230 rfl rfl rfl eh141 ?_
  refine z_aload_n (pc := 645) 0 dX12_init_645 rfl rfl ?_
  refine z_iconst (pc := 646) (x := (-1)) dX12_init_646 zc_iconst_m1 ?_
  obtain ⟨h142, eh142, H⟩ := zbind H
  refine z_put (pc := 647) dX12_init_647 fd_X12_233 rfl rfl eh142 ?_
  refine z_iconst (pc := 650) (x := 0) dX12_init_650 zc_iconst_0 ?_
  refine z_istore_n (pc := 651) (lv' := [(1, .int 0), (0, .ref v0)]) dX12_init_651 rfl (by decide) rfl ?_
  obtain ⟨m146, em146, H⟩ := zbind H
  refine z_sub [1, 0] rfl (s_X12_init_L652 (by omega) N 0 h142 _ em146 ?_)
  cases H
  exact z_return rfl dX12_init_672

def p_X12_isLetter (v0 : Int32) : Int32 := if v0 < 97 then (0) else (if 122 < v0 then (0) else (1))
set_option maxRecDepth 100000 in
set_option maxHeartbeats 4000000 in
theorem k_X12_isLetter (v0 : Int32) (h : zH) (r : Int32) (H : p_X12_isLetter v0 = r) : zOk 0 0 0 yX12_isLetter cX12_isLetter 1 (some .boolean) [.int v0] h (some (.int r)) h := by
  refine zOk.of (by decide) (Nat.le_of_ble_eq_true rfl) ?_
  unfold p_X12_isLetter at H
  refine z_iload_n (pc := 0) 0 dX12_isLetter_0 rfl rfl ?_
  refine z_bipush (pc := 1) (x := 97) dX12_isLetter_1 zc_bipush_97 ?_
  refine z_icmp_lt (pc := 3) 16 dX12_isLetter_3 (by decide) (fun c1 => ?_) (fun c1 => ?_)
  · rw [if_pos c1] at H
    refine z_iconst (pc := 16) (x := 0) dX12_isLetter_16 zc_iconst_0 ?_
    subst H
    exact z_zreturn rfl dX12_isLetter_17 (by decide)
  · rw [if_neg c1] at H
    refine z_iload_n (pc := 6) 0 dX12_isLetter_6 rfl rfl ?_
    refine z_bipush (pc := 7) (x := 122) dX12_isLetter_7 zc_bipush_122 ?_
    refine z_icmp_gt (pc := 9) 16 dX12_isLetter_9 (by decide) (fun c2 => ?_) (fun c2 => ?_)
    · rw [if_pos c2] at H
      refine z_iconst (pc := 16) (x := 0) dX12_isLetter_16 zc_iconst_0 ?_
      subst H
      exact z_zreturn rfl dX12_isLetter_17 (by decide)
    · rw [if_neg c2] at H
      refine z_iconst (pc := 12) (x := 1) dX12_isLetter_12 zc_iconst_1 ?_
      refine z_goto (pc := 13) 17 dX12_isLetter_13 (by decide) ?_
      subst H
      exact z_zreturn rfl dX12_isLetter_17 (by decide)

def p_X12_isDigit (v0 : Int32) : Int32 := if v0 < 48 then (0) else (if 57 < v0 then (0) else (1))
set_option maxRecDepth 100000 in
set_option maxHeartbeats 4000000 in
theorem k_X12_isDigit (v0 : Int32) (h : zH) (r : Int32) (H : p_X12_isDigit v0 = r) : zOk 0 0 0 yX12_isDigit cX12_isDigit 1 (some .boolean) [.int v0] h (some (.int r)) h := by
  refine zOk.of (by decide) (Nat.le_of_ble_eq_true rfl) ?_
  unfold p_X12_isDigit at H
  refine z_iload_n (pc := 0) 0 dX12_isDigit_0 rfl rfl ?_
  refine z_bipush (pc := 1) (x := 48) dX12_isDigit_1 zc_bipush_48 ?_
  refine z_icmp_lt (pc := 3) 16 dX12_isDigit_3 (by decide) (fun c1 => ?_) (fun c1 => ?_)
  · rw [if_pos c1] at H
    refine z_iconst (pc := 16) (x := 0) dX12_isDigit_16 zc_iconst_0 ?_
    subst H
    exact z_zreturn rfl dX12_isDigit_17 (by decide)
  · rw [if_neg c1] at H
    refine z_iload_n (pc := 6) 0 dX12_isDigit_6 rfl rfl ?_
    refine z_bipush (pc := 7) (x := 57) dX12_isDigit_7 zc_bipush_57 ?_
    refine z_icmp_gt (pc := 9) 16 dX12_isDigit_9 (by decide) (fun c2 => ?_) (fun c2 => ?_)
    · rw [if_pos c2] at H
      refine z_iconst (pc := 16) (x := 0) dX12_isDigit_16 zc_iconst_0 ?_
      subst H
      exact z_zreturn rfl dX12_isDigit_17 (by decide)
    · rw [if_neg c2] at H
      refine z_iconst (pc := 12) (x := 1) dX12_isDigit_12 zc_iconst_1 ?_
      refine z_goto (pc := 13) 17 dX12_isDigit_13 (by decide) ?_
      subst H
      exact z_zreturn rfl dX12_isDigit_17 (by decide)

theorem zc_bipush_96 : (Int8.ofInt (96)).toInt32 = (96 : Int32) := by decide
theorem md_X12_isLetter : zMd yX12_isLetter cX12_isLetter 1 1 (some .boolean) := ⟨zmw (zmt_7 _ (List.mem_of_getElem? (i := 70) rfl)) rfl, zmem 127 (by decide +kernel) rfl, by decide, by decide, by decide +kernel, by decide⟩
theorem ml_X12_236 : Cond.methodLink RX12 236 yX12_isLetter ∈ zB := zmem 1619 (by decide +kernel) rfl
theorem sm_X12_isLetter : Cond.static yX12_isLetter ∈ zB := zmem 1620 (by decide +kernel) rfl
def p_X12_rank (v0 : Int32) : Int32 := if (p_X12_isLetter v0) = 0 then (v0 - 21) else (v0 - 96)
set_option maxRecDepth 100000 in
set_option maxHeartbeats 4000000 in
theorem k_X12_rank (v0 : Int32) (h : zH) (r : Int32) (H : p_X12_rank v0 = r) : zOk 1 0 0 yX12_rank cX12_rank 1 (some .int) [.int v0] h (some (.int r)) h := by
  refine zOk.of (by decide) (Nat.le_of_ble_eq_true rfl) ?_
  unfold p_X12_rank at H
  refine z_iload_n (pc := 0) 0 dX12_rank_0 rfl rfl ?_
  refine z_callS (pc := 1) (mc := 0) (ms := 0) (d' := 0) (mc' := 0) (ms' := 0) (rest := []) [.int v0] dX12_rank_1 md_X12_isLetter ml_X12_236 sm_X12_isLetter rfl rfl (Nat.le_of_ble_eq_true rfl) (by omega) (k_X12_isLetter v0 h _ rfl) ?_
  refine z_if_eq (pc := 4) 14 dX12_rank_4 (by decide) (fun c1 => ?_) (fun c1 => ?_)
  · rw [if_pos c1] at H
    refine z_iload_n (pc := 14) 0 dX12_rank_14 rfl rfl ?_
    refine z_bipush (pc := 15) (x := 21) dX12_rank_15 zc_bipush_21 ?_
    refine z_isub (pc := 17) dX12_rank_17 ?_
    subst H
    exact z_ireturn rfl dX12_rank_18
  · rw [if_neg c1] at H
    refine z_iload_n (pc := 7) 0 dX12_rank_7 rfl rfl ?_
    refine z_bipush (pc := 8) (x := 96) dX12_rank_8 zc_bipush_96 ?_
    refine z_isub (pc := 10) dX12_rank_10 ?_
    refine z_goto (pc := 11) 18 dX12_rank_11 (by decide) ?_
    subst H
    exact z_ireturn rfl dX12_rank_18

theorem zc_bipush_43 : (Int8.ofInt (43)).toInt32 = (43 : Int32) := by decide
theorem zc_bipush_45 : (Int8.ofInt (45)).toInt32 = (45 : Int32) := by decide
theorem zc_bipush_42 : (Int8.ofInt (42)).toInt32 = (42 : Int32) := by decide
def p_X12_isSignOf (v0 : Int32) : Int32 := if v0 = 40 then (1) else (if v0 = 41 then (1) else (if v0 = 59 then (1) else (if v0 = 61 then (1) else (if v0 = 60 then (1) else (if v0 = 43 then (1) else (if v0 = 45 then (1) else (if v0 = 42 then (1) else (0))))))))
set_option maxRecDepth 100000 in
set_option maxHeartbeats 4000000 in
theorem k_X12_isSignOf (v0 : Int32) (h : zH) (r : Int32) (H : p_X12_isSignOf v0 = r) : zOk 0 0 0 yX12_isSignOf cX12_isSignOf 1 (some .boolean) [.int v0] h (some (.int r)) h := by
  refine zOk.of (by decide) (Nat.le_of_ble_eq_true rfl) ?_
  unfold p_X12_isSignOf at H
  refine z_iload_n (pc := 0) 0 dX12_isSignOf_0 rfl rfl ?_
  refine z_bipush (pc := 1) (x := 40) dX12_isSignOf_1 zc_bipush_40 ?_
  refine z_icmp_eq (pc := 3) 48 dX12_isSignOf_3 (by decide) (fun c1 => ?_) (fun c1 => ?_)
  · rw [if_pos c1] at H
    refine z_iconst (pc := 48) (x := 1) dX12_isSignOf_48 zc_iconst_1 ?_
    refine z_goto (pc := 49) 53 dX12_isSignOf_49 (by decide) ?_
    subst H
    exact z_zreturn rfl dX12_isSignOf_53 (by decide)
  · rw [if_neg c1] at H
    refine z_iload_n (pc := 6) 0 dX12_isSignOf_6 rfl rfl ?_
    refine z_bipush (pc := 7) (x := 41) dX12_isSignOf_7 zc_bipush_41 ?_
    refine z_icmp_eq (pc := 9) 48 dX12_isSignOf_9 (by decide) (fun c2 => ?_) (fun c2 => ?_)
    · rw [if_pos c2] at H
      refine z_iconst (pc := 48) (x := 1) dX12_isSignOf_48 zc_iconst_1 ?_
      refine z_goto (pc := 49) 53 dX12_isSignOf_49 (by decide) ?_
      subst H
      exact z_zreturn rfl dX12_isSignOf_53 (by decide)
    · rw [if_neg c2] at H
      refine z_iload_n (pc := 12) 0 dX12_isSignOf_12 rfl rfl ?_
      refine z_bipush (pc := 13) (x := 59) dX12_isSignOf_13 zc_bipush_59 ?_
      refine z_icmp_eq (pc := 15) 48 dX12_isSignOf_15 (by decide) (fun c3 => ?_) (fun c3 => ?_)
      · rw [if_pos c3] at H
        refine z_iconst (pc := 48) (x := 1) dX12_isSignOf_48 zc_iconst_1 ?_
        refine z_goto (pc := 49) 53 dX12_isSignOf_49 (by decide) ?_
        subst H
        exact z_zreturn rfl dX12_isSignOf_53 (by decide)
      · rw [if_neg c3] at H
        refine z_iload_n (pc := 18) 0 dX12_isSignOf_18 rfl rfl ?_
        refine z_bipush (pc := 19) (x := 61) dX12_isSignOf_19 zc_bipush_61 ?_
        refine z_icmp_eq (pc := 21) 48 dX12_isSignOf_21 (by decide) (fun c4 => ?_) (fun c4 => ?_)
        · rw [if_pos c4] at H
          refine z_iconst (pc := 48) (x := 1) dX12_isSignOf_48 zc_iconst_1 ?_
          refine z_goto (pc := 49) 53 dX12_isSignOf_49 (by decide) ?_
          subst H
          exact z_zreturn rfl dX12_isSignOf_53 (by decide)
        · rw [if_neg c4] at H
          refine z_iload_n (pc := 24) 0 dX12_isSignOf_24 rfl rfl ?_
          refine z_bipush (pc := 25) (x := 60) dX12_isSignOf_25 zc_bipush_60 ?_
          refine z_icmp_eq (pc := 27) 48 dX12_isSignOf_27 (by decide) (fun c5 => ?_) (fun c5 => ?_)
          · rw [if_pos c5] at H
            refine z_iconst (pc := 48) (x := 1) dX12_isSignOf_48 zc_iconst_1 ?_
            refine z_goto (pc := 49) 53 dX12_isSignOf_49 (by decide) ?_
            subst H
            exact z_zreturn rfl dX12_isSignOf_53 (by decide)
          · rw [if_neg c5] at H
            refine z_iload_n (pc := 30) 0 dX12_isSignOf_30 rfl rfl ?_
            refine z_bipush (pc := 31) (x := 43) dX12_isSignOf_31 zc_bipush_43 ?_
            refine z_icmp_eq (pc := 33) 48 dX12_isSignOf_33 (by decide) (fun c6 => ?_) (fun c6 => ?_)
            · rw [if_pos c6] at H
              refine z_iconst (pc := 48) (x := 1) dX12_isSignOf_48 zc_iconst_1 ?_
              refine z_goto (pc := 49) 53 dX12_isSignOf_49 (by decide) ?_
              subst H
              exact z_zreturn rfl dX12_isSignOf_53 (by decide)
            · rw [if_neg c6] at H
              refine z_iload_n (pc := 36) 0 dX12_isSignOf_36 rfl rfl ?_
              refine z_bipush (pc := 37) (x := 45) dX12_isSignOf_37 zc_bipush_45 ?_
              refine z_icmp_eq (pc := 39) 48 dX12_isSignOf_39 (by decide) (fun c7 => ?_) (fun c7 => ?_)
              · rw [if_pos c7] at H
                refine z_iconst (pc := 48) (x := 1) dX12_isSignOf_48 zc_iconst_1 ?_
                refine z_goto (pc := 49) 53 dX12_isSignOf_49 (by decide) ?_
                subst H
                exact z_zreturn rfl dX12_isSignOf_53 (by decide)
              · rw [if_neg c7] at H
                refine z_iload_n (pc := 42) 0 dX12_isSignOf_42 rfl rfl ?_
                refine z_bipush (pc := 43) (x := 42) dX12_isSignOf_43 zc_bipush_42 ?_
                refine z_icmp_ne (pc := 45) 52 dX12_isSignOf_45 (by decide) (fun c8 => ?_) (fun c8 => ?_)
                · rw [if_neg c8] at H
                  refine z_iconst (pc := 52) (x := 0) dX12_isSignOf_52 zc_iconst_0 ?_
                  subst H
                  exact z_zreturn rfl dX12_isSignOf_53 (by decide)
                · rw [if_pos c8] at H
                  refine z_iconst (pc := 48) (x := 1) dX12_isSignOf_48 zc_iconst_1 ?_
                  refine z_goto (pc := 49) 53 dX12_isSignOf_49 (by decide) ?_
                  subst H
                  exact z_zreturn rfl dX12_isSignOf_53 (by decide)

theorem fd_X12_240 : zFd RX12 240 12 3 (.int) false "WhoseStreetModel" := zFd.of cl_12 (by decide) (zmem 1373 (by decide +kernel) rfl) rfl rfl rfl
theorem md_X12_isDigit : zMd yX12_isDigit cX12_isDigit 1 1 (some .boolean) := ⟨zmw (zmt_7 _ (List.mem_of_getElem? (i := 77) rfl)) rfl, zmem 127 (by decide +kernel) rfl, by decide, by decide, by decide +kernel, by decide⟩
theorem ml_X12_249 : Cond.methodLink RX12 249 yX12_isDigit ∈ zB := zmem 1626 (by decide +kernel) rfl
theorem sm_X12_isDigit : Cond.static yX12_isDigit ∈ zB := zmem 1627 (by decide +kernel) rfl
theorem md_X12_isSignOf : zMd yX12_isSignOf cX12_isSignOf 1 1 (some .boolean) := ⟨zmw (zmt_7 _ (List.mem_of_getElem? (i := 82) rfl)) rfl, zmem 127 (by decide +kernel) rfl, by decide, by decide, by decide +kernel, by decide⟩
theorem ml_X12_256 : Cond.methodLink RX12 256 yX12_isSignOf ∈ zB := zmem 1631 (by decide +kernel) rfl
theorem sm_X12_isSignOf : Cond.static yX12_isSignOf ∈ zB := zmem 1632 (by decide +kernel) rfl
theorem kl_X12_252 : Cond.constantLong RX12 252 10 ∈ zB := zmem 1629 (by decide +kernel) rfl
theorem kl_X12_254 : Cond.constantLong RX12 254 48 ∈ zB := zmem 1630 (by decide +kernel) rfl
theorem kl_X12_243 : Cond.constantLong RX12 243 37 ∈ zB := zmem 1622 (by decide +kernel) rfl
theorem md_X12_rank : zMd yX12_rank cX12_rank 1 1 (some .int) := ⟨zmw (zmt_7 _ (List.mem_of_getElem? (i := 74) rfl)) rfl, zmem 127 (by decide +kernel) rfl, by decide, by decide, by decide +kernel, by decide⟩
theorem ml_X12_245 : Cond.methodLink RX12 245 yX12_rank ∈ zB := zmem 1623 (by decide +kernel) rfl
theorem sm_X12_rank : Cond.static yX12_rank ∈ zB := zmem 1624 (by decide +kernel) rfl
theorem fd_X12_259 : zFd RX12 259 12 7 (.int) false "WhoseStreetModel" := zFd.of cl_12 (by decide) (zmem 1377 (by decide +kernel) rfl) rfl rfl rfl
theorem fd_X12_262 : zFd RX12 262 12 8 (.int) false "WhoseStreetModel" := zFd.of cl_12 (by decide) (zmem 1378 (by decide +kernel) rfl) rfl rfl rfl
def f_X12_cutAll_L159 (N : Nat) (v0 : Nat) (v4 : Int32) (h : zH) : Nat → Int32 → Int64 → Option (Int32 × Int64)
  | 0, _, _ => none
  | n + 1, v2, v5 => (gI h v0 12 3).bind fun x20 => if x20 ≤ v2 then (some (v2, v5)) else ((gR h v0 12 1).bind fun r22 => (aI h r22 v2).bind fun x23 => if (p_X12_isDigit x23) = 0 then (some (v2, v5)) else (if 4 ≤ (v2 - v4) then (f_X12_cutAll_L159 N v0 v4 h n (v2 + 1) v5) else ((gR h v0 12 1).bind fun r26 => (aI h r26 v2).bind fun x27 => zlet (((10 * v5) + (x27.toInt64)) - 48 : Int64) fun x28 => f_X12_cutAll_L159 N v0 v4 h n (v2 + 1) x28)))
def f_X12_cutAll_L70 (N : Nat) (v0 : Nat) (v4 : Int32) (h : zH) : Nat → Int32 → Int64 → Option (Int32 × Int64)
  | 0, _, _ => none
  | n + 1, v2, v5 => (gI h v0 12 3).bind fun x34 => if x34 ≤ v2 then (some (v2, v5)) else ((gR h v0 12 1).bind fun r36 => (aI h r36 v2).bind fun x37 => if (p_X12_isLetter x37) = 0 then (some (v2, v5)) else (if 8 ≤ (v2 - v4) then (f_X12_cutAll_L70 N v0 v4 h n (v2 + 1) v5) else ((gR h v0 12 1).bind fun r40 => (aI h r40 v2).bind fun x41 => zlet ((37 * v5) + ((p_X12_rank x41).toInt64) : Int64) fun x42 => f_X12_cutAll_L70 N v0 v4 h n (v2 + 1) x42)))
def f_X12_cutAll_L17 (N : Nat) (v0 : Nat) : Nat → Int32 → Int32 → zH → Option (Int32 × zH)
  | 0, _, _, _ => none
  | n + 1, v1, v2, h => (gI h v0 12 3).bind fun x4 => if x4 ≤ v2 then (some (v1, h)) else ((gR h v0 12 1).bind fun r6 => (aI h r6 v2).bind fun x7 => if x7 = 10 then (f_X12_cutAll_L17 N v0 n v1 (v2 + 1) h) else (if x7 = 32 then (f_X12_cutAll_L17 N v0 n v1 (v2 + 1) h) else ((gR h v0 12 5).bind fun r10 => (sI h r10 v1 v2).bind fun h11 => (if (p_X12_isLetter x7) = 0 then (if (p_X12_isDigit x7) = 0 then (zlet (x7.toInt64 : Int64) fun x15 => (gR h11 v0 12 4).bind fun r16 => if (p_X12_isSignOf x7) = 0 then ((sI h11 r16 v1 4).bind fun h18 => some (v2 + 1, x15, h18)) else ((sI h11 r16 v1 3).bind fun h19 => some (v2 + 1, x15, h19))) else ((f_X12_cutAll_L159 N v0 v2 h11 N v2 0).bind fun m29 => (gR h11 v0 12 4).bind fun r30 => if (m29.1 - v2) ≤ 4 then ((sI h11 r30 v1 2).bind fun h32 => some (m29.1, m29.2, h32)) else ((sI h11 r30 v1 4).bind fun h33 => some (m29.1, m29.2, h33)))) else ((f_X12_cutAll_L70 N v0 v2 h11 N v2 0).bind fun m43 => (gR h11 v0 12 4).bind fun r44 => if (m43.1 - v2) ≤ 8 then ((sI h11 r44 v1 1).bind fun h46 => some (m43.1, m43.2, h46)) else ((sI h11 r44 v1 4).bind fun h47 => some (m43.1, m43.2, h47))) : Option (Int32 × Int64 × zH)).bind fun m12 => (gR m12.2.2 v0 12 6).bind fun r48 => (sL m12.2.2 r48 v1 m12.2.1).bind fun h49 => f_X12_cutAll_L17 N v0 n (v1 + 1) m12.1 h49)))
set_option maxRecDepth 100000 in
set_option maxHeartbeats 4000000 in
theorem s_X12_cutAll_L159 {d mc ms N : Nat} {vv : Option Value} {hh : zH} {v0 : Nat} {v4 : Int32} {v1 : Int32} {h : zH} (hd0 : 2 ≤ d) : ∀ (n : Nat) (v2 : Int32) (v5 : Int64) (m : Int32 × Int64), f_X12_cutAll_L159 N v0 v4 h n v2 v5 = some m → (zW yX12_cutAll cX12_cutAll 7 none d mc ms 218 [(0, .ref v0), (1, .int v1), (2, .int m.1), (4, .int v4), (5, .long m.2)] [] h vv hh) → zW yX12_cutAll cX12_cutAll 7 none d mc ms 159 [(0, .ref v0), (1, .int v1), (2, .int v2), (4, .int v4), (5, .long v5)] [] h vv hh := by
  intro n
  induction n with
  | zero =>
    intro v2 v5 m H
    cases H
  | succ n ih =>
    intro v2 v5 m H KE
    unfold f_X12_cutAll_L159 at H
    refine z_iload_n (pc := 159) 2 dX12_cutAll_159 rfl rfl ?_
    refine z_aload_n (pc := 160) 0 dX12_cutAll_160 rfl rfl ?_
    obtain ⟨x20, ex20, H⟩ := zbind H
    refine z_getI (pc := 161) dX12_cutAll_161 fd_X12_240 ex20 ?_
    refine z_icmp_ge (pc := 164) 218 dX12_cutAll_164 (by decide) (fun c21 => ?_) (fun c21 => ?_)
    · rw [if_pos c21] at H
      cases H
      exact z_sub [0, 1, 2, 3, 4] rfl (KE)
    · rw [if_neg c21] at H
      refine z_aload_n (pc := 167) 0 dX12_cutAll_167 rfl rfl ?_
      obtain ⟨r22, er22, H⟩ := zbind H
      refine z_getR (pc := 168) dX12_cutAll_168 fd_X12_14 er22 ?_
      refine z_iload_n (pc := 171) 2 dX12_cutAll_171 rfl rfl ?_
      obtain ⟨x23, ex23, H⟩ := zbind H
      refine z_iaload (pc := 172) dX12_cutAll_172 ex23 ?_
      refine z_callS (pc := 173) (mc := mc) (ms := ms) (d' := 0) (mc' := 0) (ms' := 0) (rest := []) [.int x23] dX12_cutAll_173 md_X12_isDigit ml_X12_249 sm_X12_isDigit rfl rfl (Nat.le_of_ble_eq_true rfl) (by omega) (k_X12_isDigit x23 h _ rfl) ?_
      refine z_if_eq (pc := 176) 218 dX12_cutAll_176 (by decide) (fun c24 => ?_) (fun c24 => ?_)
      · rw [if_pos c24] at H
        cases H
        exact z_sub [0, 1, 2, 3, 4] rfl (KE)
      · rw [if_neg c24] at H
        refine z_iload_n (pc := 179) 2 dX12_cutAll_179 rfl rfl ?_
        refine z_iload (pc := 180) 3 dX12_cutAll_180 rfl ?_
        refine z_isub (pc := 182) dX12_cutAll_182 ?_
        refine z_iconst (pc := 183) (x := 4) dX12_cutAll_183 zc_iconst_4 ?_
        refine z_icmp_ge (pc := 184) 208 dX12_cutAll_184 (by decide) (fun c25 => ?_) (fun c25 => ?_)
        · rw [if_pos c25] at H
          refine z_lload (pc := 208) 4 dX12_cutAll_208 rfl ?_
          refine z_lstore (pc := 210) (lv' := [(5, .long v5), (0, .ref v0), (1, .int v1), (2, .int v2), (4, .int v4)]) dX12_cutAll_210 (by decide) rfl ?_
          refine z_iinc (pc := 212) (x' := v2 + 1) (lv' := [(2, .int (v2 + 1)), (5, .long v5), (0, .ref v0), (1, .int v1), (4, .int v4)]) 3 dX12_cutAll_212 rfl (by rfl) (by decide) rfl ?_
          refine z_goto (pc := 215) 159 dX12_cutAll_215 (by decide) ?_
          exact z_sub [2, 3, 0, 4, 1] rfl (ih (v2 + 1) v5 _ H KE)
        · rw [if_neg c25] at H
          refine z_ldc2 (pc := 187) (x := 10) dX12_cutAll_187 kl_X12_252 ?_
          refine z_lload (pc := 190) 4 dX12_cutAll_190 rfl ?_
          refine z_lmul (pc := 192) dX12_cutAll_192 ?_
          refine z_aload_n (pc := 193) 0 dX12_cutAll_193 rfl rfl ?_
          obtain ⟨r26, er26, H⟩ := zbind H
          refine z_getR (pc := 194) dX12_cutAll_194 fd_X12_14 er26 ?_
          refine z_iload_n (pc := 197) 2 dX12_cutAll_197 rfl rfl ?_
          obtain ⟨x27, ex27, H⟩ := zbind H
          refine z_iaload (pc := 198) dX12_cutAll_198 ex27 ?_
          refine z_i2l (pc := 199) dX12_cutAll_199 ?_
          refine z_ladd (pc := 200) dX12_cutAll_200 ?_
          refine z_ldc2 (pc := 201) (x := 48) dX12_cutAll_201 kl_X12_254 ?_
          refine z_lsub (pc := 204) dX12_cutAll_204 ?_
          refine z_goto (pc := 205) 210 dX12_cutAll_205 (by decide) ?_
          obtain ⟨x28, ex28, H⟩ := zletE H
          refine z_nmJ ex28 ?_
          refine z_lstore (pc := 210) (lv' := [(5, .long x28), (0, .ref v0), (1, .int v1), (2, .int v2), (4, .int v4)]) dX12_cutAll_210 (by decide) rfl ?_
          refine z_iinc (pc := 212) (x' := v2 + 1) (lv' := [(2, .int (v2 + 1)), (5, .long x28), (0, .ref v0), (1, .int v1), (4, .int v4)]) 3 dX12_cutAll_212 rfl (by rfl) (by decide) rfl ?_
          refine z_goto (pc := 215) 159 dX12_cutAll_215 (by decide) ?_
          exact z_sub [2, 3, 0, 4, 1] rfl (ih (v2 + 1) x28 _ H KE)
set_option maxRecDepth 100000 in
set_option maxHeartbeats 4000000 in
theorem s_X12_cutAll_L70 {d mc ms N : Nat} {vv : Option Value} {hh : zH} {v0 : Nat} {v4 : Int32} {v1 : Int32} {h : zH} (hd0 : 2 ≤ d) : ∀ (n : Nat) (v2 : Int32) (v5 : Int64) (m : Int32 × Int64), f_X12_cutAll_L70 N v0 v4 h n v2 v5 = some m → (zW yX12_cutAll cX12_cutAll 7 none d mc ms 129 [(0, .ref v0), (1, .int v1), (2, .int m.1), (4, .int v4), (5, .long m.2)] [] h vv hh) → zW yX12_cutAll cX12_cutAll 7 none d mc ms 70 [(0, .ref v0), (1, .int v1), (2, .int v2), (4, .int v4), (5, .long v5)] [] h vv hh := by
  intro n
  induction n with
  | zero =>
    intro v2 v5 m H
    cases H
  | succ n ih =>
    intro v2 v5 m H KE
    unfold f_X12_cutAll_L70 at H
    refine z_iload_n (pc := 70) 2 dX12_cutAll_70 rfl rfl ?_
    refine z_aload_n (pc := 71) 0 dX12_cutAll_71 rfl rfl ?_
    obtain ⟨x34, ex34, H⟩ := zbind H
    refine z_getI (pc := 72) dX12_cutAll_72 fd_X12_240 ex34 ?_
    refine z_icmp_ge (pc := 75) 129 dX12_cutAll_75 (by decide) (fun c35 => ?_) (fun c35 => ?_)
    · rw [if_pos c35] at H
      cases H
      exact z_sub [0, 1, 2, 3, 4] rfl (KE)
    · rw [if_neg c35] at H
      refine z_aload_n (pc := 78) 0 dX12_cutAll_78 rfl rfl ?_
      obtain ⟨r36, er36, H⟩ := zbind H
      refine z_getR (pc := 79) dX12_cutAll_79 fd_X12_14 er36 ?_
      refine z_iload_n (pc := 82) 2 dX12_cutAll_82 rfl rfl ?_
      obtain ⟨x37, ex37, H⟩ := zbind H
      refine z_iaload (pc := 83) dX12_cutAll_83 ex37 ?_
      refine z_callS (pc := 84) (mc := mc) (ms := ms) (d' := 0) (mc' := 0) (ms' := 0) (rest := []) [.int x37] dX12_cutAll_84 md_X12_isLetter ml_X12_236 sm_X12_isLetter rfl rfl (Nat.le_of_ble_eq_true rfl) (by omega) (k_X12_isLetter x37 h _ rfl) ?_
      refine z_if_eq (pc := 87) 129 dX12_cutAll_87 (by decide) (fun c38 => ?_) (fun c38 => ?_)
      · rw [if_pos c38] at H
        cases H
        exact z_sub [0, 1, 2, 3, 4] rfl (KE)
      · rw [if_neg c38] at H
        refine z_iload_n (pc := 90) 2 dX12_cutAll_90 rfl rfl ?_
        refine z_iload (pc := 91) 3 dX12_cutAll_91 rfl ?_
        refine z_isub (pc := 93) dX12_cutAll_93 ?_
        refine z_bipush (pc := 94) (x := 8) dX12_cutAll_94 zc_bipush_8 ?_
        refine z_icmp_ge (pc := 96) 119 dX12_cutAll_96 (by decide) (fun c39 => ?_) (fun c39 => ?_)
        · rw [if_pos c39] at H
          refine z_lload (pc := 119) 4 dX12_cutAll_119 rfl ?_
          refine z_lstore (pc := 121) (lv' := [(5, .long v5), (0, .ref v0), (1, .int v1), (2, .int v2), (4, .int v4)]) dX12_cutAll_121 (by decide) rfl ?_
          refine z_iinc (pc := 123) (x' := v2 + 1) (lv' := [(2, .int (v2 + 1)), (5, .long v5), (0, .ref v0), (1, .int v1), (4, .int v4)]) 3 dX12_cutAll_123 rfl (by rfl) (by decide) rfl ?_
          refine z_goto (pc := 126) 70 dX12_cutAll_126 (by decide) ?_
          exact z_sub [2, 3, 0, 4, 1] rfl (ih (v2 + 1) v5 _ H KE)
        · rw [if_neg c39] at H
          refine z_ldc2 (pc := 99) (x := 37) dX12_cutAll_99 kl_X12_243 ?_
          refine z_lload (pc := 102) 4 dX12_cutAll_102 rfl ?_
          refine z_lmul (pc := 104) dX12_cutAll_104 ?_
          refine z_aload_n (pc := 105) 0 dX12_cutAll_105 rfl rfl ?_
          obtain ⟨r40, er40, H⟩ := zbind H
          refine z_getR (pc := 106) dX12_cutAll_106 fd_X12_14 er40 ?_
          refine z_iload_n (pc := 109) 2 dX12_cutAll_109 rfl rfl ?_
          obtain ⟨x41, ex41, H⟩ := zbind H
          refine z_iaload (pc := 110) dX12_cutAll_110 ex41 ?_
          refine z_callS (pc := 111) (mc := mc) (ms := ms) (d' := 1) (mc' := 0) (ms' := 0) (rest := [.long (37 * v5)]) [.int x41] dX12_cutAll_111 md_X12_rank ml_X12_245 sm_X12_rank rfl rfl (Nat.le_of_ble_eq_true rfl) (by omega) (k_X12_rank x41 h _ rfl) ?_
          refine z_i2l (pc := 114) dX12_cutAll_114 ?_
          refine z_ladd (pc := 115) dX12_cutAll_115 ?_
          refine z_goto (pc := 116) 121 dX12_cutAll_116 (by decide) ?_
          obtain ⟨x42, ex42, H⟩ := zletE H
          refine z_nmJ ex42 ?_
          refine z_lstore (pc := 121) (lv' := [(5, .long x42), (0, .ref v0), (1, .int v1), (2, .int v2), (4, .int v4)]) dX12_cutAll_121 (by decide) rfl ?_
          refine z_iinc (pc := 123) (x' := v2 + 1) (lv' := [(2, .int (v2 + 1)), (5, .long x42), (0, .ref v0), (1, .int v1), (4, .int v4)]) 3 dX12_cutAll_123 rfl (by rfl) (by decide) rfl ?_
          refine z_goto (pc := 126) 70 dX12_cutAll_126 (by decide) ?_
          exact z_sub [2, 3, 0, 4, 1] rfl (ih (v2 + 1) x42 _ H KE)
set_option maxRecDepth 100000 in
set_option maxHeartbeats 4000000 in
theorem s_X12_cutAll_L17 {d mc ms N : Nat} {vv : Option Value} {hh : zH} {v0 : Nat} (hd0 : 2 ≤ d) : ∀ (n : Nat) (v1 : Int32) (v2 : Int32) (h : zH) (m : Int32 × zH), f_X12_cutAll_L17 N v0 n v1 v2 h = some m → (zW yX12_cutAll cX12_cutAll 7 none d mc ms 279 [(0, .ref v0), (1, .int m.1)] [] m.2 vv hh) → zW yX12_cutAll cX12_cutAll 7 none d mc ms 17 [(0, .ref v0), (1, .int v1), (2, .int v2)] [] h vv hh := by
  intro n
  induction n with
  | zero =>
    intro v1 v2 h m H
    cases H
  | succ n ih =>
    intro v1 v2 h m H KE
    unfold f_X12_cutAll_L17 at H
    refine z_iload_n (pc := 17) 2 dX12_cutAll_17 rfl rfl ?_
    refine z_aload_n (pc := 18) 0 dX12_cutAll_18 rfl rfl ?_
    obtain ⟨x4, ex4, H⟩ := zbind H
    refine z_getI (pc := 19) dX12_cutAll_19 fd_X12_240 ex4 ?_
    refine z_icmp_ge (pc := 22) 279 dX12_cutAll_22 (by decide) (fun c5 => ?_) (fun c5 => ?_)
    · rw [if_pos c5] at H
      cases H
      exact z_sub [0, 1] rfl (KE)
    · rw [if_neg c5] at H
      refine z_aload_n (pc := 25) 0 dX12_cutAll_25 rfl rfl ?_
      obtain ⟨r6, er6, H⟩ := zbind H
      refine z_getR (pc := 26) dX12_cutAll_26 fd_X12_14 er6 ?_
      refine z_iload_n (pc := 29) 2 dX12_cutAll_29 rfl rfl ?_
      obtain ⟨x7, ex7, H⟩ := zbind H
      refine z_iaload (pc := 30) dX12_cutAll_30 ex7 ?_
      refine z_istore_n (pc := 31) (lv' := [(3, .int x7), (0, .ref v0), (1, .int v1), (2, .int v2)]) dX12_cutAll_31 rfl (by decide) rfl ?_
      refine z_iload_n (pc := 32) 0 dX12_cutAll_32 rfl rfl ?_
      refine z_bipush (pc := 33) (x := 10) dX12_cutAll_33 zc_bipush_10 ?_
      refine z_icmp_eq (pc := 35) 44 dX12_cutAll_35 (by decide) (fun c8 => ?_) (fun c8 => ?_)
      · rw [if_pos c8] at H
        refine z_iinc (pc := 44) (x' := v2 + 1) (lv' := [(2, .int (v2 + 1)), (3, .int x7), (0, .ref v0), (1, .int v1)]) 3 dX12_cutAll_44 rfl (by rfl) (by decide) rfl ?_
        refine z_goto (pc := 47) 17 dX12_cutAll_47 (by decide) ?_
        exact z_sub [2, 3, 0] rfl (ih v1 (v2 + 1) h _ H KE)
      · rw [if_neg c8] at H
        refine z_iload_n (pc := 38) 0 dX12_cutAll_38 rfl rfl ?_
        refine z_bipush (pc := 39) (x := 32) dX12_cutAll_39 zc_bipush_32 ?_
        refine z_icmp_ne (pc := 41) 50 dX12_cutAll_41 (by decide) (fun c9 => ?_) (fun c9 => ?_)
        · rw [if_neg c9] at H
          refine z_iload_n (pc := 50) 3 dX12_cutAll_50 rfl rfl ?_
          refine z_istore (pc := 51) (lv' := [(4, .int v2), (3, .int x7), (0, .ref v0), (1, .int v1), (2, .int v2)]) dX12_cutAll_51 (by decide) rfl ?_
          refine z_lconst (pc := 53) (x := 0) dX12_cutAll_53 (by decide) ?_
          refine z_lstore (pc := 54) (lv' := [(5, .long 0), (4, .int v2), (3, .int x7), (0, .ref v0), (1, .int v1), (2, .int v2)]) dX12_cutAll_54 (by decide) rfl ?_
          refine z_aload_n (pc := 56) 3 dX12_cutAll_56 rfl rfl ?_
          obtain ⟨r10, er10, H⟩ := zbind H
          refine z_getR (pc := 57) dX12_cutAll_57 fd_X12_27 er10 ?_
          refine z_iload_n (pc := 60) 4 dX12_cutAll_60 rfl rfl ?_
          refine z_iload_n (pc := 61) 5 dX12_cutAll_61 rfl rfl ?_
          obtain ⟨h11, eh11, H⟩ := zbind H
          refine z_iastore (pc := 62) dX12_cutAll_62 eh11 ?_
          refine z_iload_n (pc := 63) 2 dX12_cutAll_63 rfl rfl ?_
          refine z_callS (pc := 64) (mc := mc) (ms := ms) (d' := 0) (mc' := 0) (ms' := 0) (rest := []) [.int x7] dX12_cutAll_64 md_X12_isLetter ml_X12_236 sm_X12_isLetter rfl rfl (Nat.le_of_ble_eq_true rfl) (by omega) (k_X12_isLetter x7 h11 _ rfl) ?_
          obtain ⟨m12, em12, H⟩ := zbind H
          have Jm12 : zW yX12_cutAll cX12_cutAll 7 none d mc ms 265 [(0, .ref v0), (1, .int v1), (2, .int m12.1), (5, .long m12.2.1)] [] m12.2.2 vv hh := by
            refine z_aload_n (pc := 265) 0 dX12_cutAll_265 rfl rfl ?_
            obtain ⟨r48, er48, H⟩ := zbind H
            refine z_getR (pc := 266) dX12_cutAll_266 fd_X12_30 er48 ?_
            refine z_iload_n (pc := 269) 1 dX12_cutAll_269 rfl rfl ?_
            refine z_lload (pc := 270) 3 dX12_cutAll_270 rfl ?_
            obtain ⟨h49, eh49, H⟩ := zbind H
            refine z_lastore (pc := 272) dX12_cutAll_272 eh49 ?_
            refine z_iinc (pc := 273) (x' := v1 + 1) (lv' := [(1, .int (v1 + 1)), (0, .ref v0), (2, .int m12.1), (5, .long m12.2.1)]) 1 dX12_cutAll_273 rfl (by rfl) (by decide) rfl ?_
            refine z_goto (pc := 276) 17 dX12_cutAll_276 (by decide) ?_
            exact z_sub [1, 0, 2] rfl (ih (v1 + 1) m12.1 h49 _ H KE)
          refine z_if_eq (pc := 67) 152 dX12_cutAll_67 (by decide) (fun c13 => ?_) (fun c13 => ?_)
          · rw [if_pos c13] at em12
            refine z_iload_n (pc := 152) 2 dX12_cutAll_152 rfl rfl ?_
            refine z_callS (pc := 153) (mc := mc) (ms := ms) (d' := 0) (mc' := 0) (ms' := 0) (rest := []) [.int x7] dX12_cutAll_153 md_X12_isDigit ml_X12_249 sm_X12_isDigit rfl rfl (Nat.le_of_ble_eq_true rfl) (by omega) (k_X12_isDigit x7 h11 _ rfl) ?_
            refine z_if_eq (pc := 156) 240 dX12_cutAll_156 (by decide) (fun c14 => ?_) (fun c14 => ?_)
            · rw [if_pos c14] at em12
              refine z_iload_n (pc := 240) 2 dX12_cutAll_240 rfl rfl ?_
              refine z_i2l (pc := 241) dX12_cutAll_241 ?_
              obtain ⟨x15, ex15, em12⟩ := zletE em12
              refine z_nmJ ex15 ?_
              refine z_lstore (pc := 242) (lv' := [(5, .long x15), (4, .int v2), (3, .int x7), (0, .ref v0), (1, .int v1), (2, .int v2)]) dX12_cutAll_242 (by decide) rfl ?_
              refine z_aload_n (pc := 244) 3 dX12_cutAll_244 rfl rfl ?_
              obtain ⟨r16, er16, em12⟩ := zbind em12
              refine z_getR (pc := 245) dX12_cutAll_245 fd_X12_24 er16 ?_
              refine z_iload_n (pc := 248) 4 dX12_cutAll_248 rfl rfl ?_
              refine z_iload_n (pc := 249) 2 dX12_cutAll_249 rfl rfl ?_
              refine z_callS (pc := 250) (mc := mc) (ms := ms) (d' := 0) (mc' := 0) (ms' := 0) (rest := [.int v1, .ref r16]) [.int x7] dX12_cutAll_250 md_X12_isSignOf ml_X12_256 sm_X12_isSignOf rfl rfl (Nat.le_of_ble_eq_true rfl) (by omega) (k_X12_isSignOf x7 h11 _ rfl) ?_
              refine z_if_eq (pc := 253) 260 dX12_cutAll_253 (by decide) (fun c17 => ?_) (fun c17 => ?_)
              · rw [if_pos c17] at em12
                refine z_iconst (pc := 260) (x := 4) dX12_cutAll_260 zc_iconst_4 ?_
                obtain ⟨h18, eh18, em12⟩ := zbind em12
                refine z_iastore (pc := 261) dX12_cutAll_261 eh18 ?_
                refine z_iinc (pc := 262) (x' := v2 + 1) (lv' := [(2, .int (v2 + 1)), (5, .long x15), (4, .int v2), (3, .int x7), (0, .ref v0), (1, .int v1)]) 5 dX12_cutAll_262 rfl (by rfl) (by decide) rfl ?_
                cases em12
                exact z_sub [4, 5, 0, 1] rfl Jm12
              · rw [if_neg c17] at em12
                refine z_iconst (pc := 256) (x := 3) dX12_cutAll_256 zc_iconst_3 ?_
                refine z_goto (pc := 257) 261 dX12_cutAll_257 (by decide) ?_
                obtain ⟨h19, eh19, em12⟩ := zbind em12
                refine z_iastore (pc := 261) dX12_cutAll_261 eh19 ?_
                refine z_iinc (pc := 262) (x' := v2 + 1) (lv' := [(2, .int (v2 + 1)), (5, .long x15), (4, .int v2), (3, .int x7), (0, .ref v0), (1, .int v1)]) 5 dX12_cutAll_262 rfl (by rfl) (by decide) rfl ?_
                cases em12
                exact z_sub [4, 5, 0, 1] rfl Jm12
            · rw [if_neg c14] at em12
              obtain ⟨m29, em29, em12⟩ := zbind em12
              refine z_sub [3, 4, 5, 1, 0] rfl (s_X12_cutAll_L159 (by omega) N v2 0 _ em29 ?_)
              refine z_aload_n (pc := 218) 0 dX12_cutAll_218 rfl rfl ?_
              obtain ⟨r30, er30, em12⟩ := zbind em12
              refine z_getR (pc := 219) dX12_cutAll_219 fd_X12_24 er30 ?_
              refine z_iload_n (pc := 222) 1 dX12_cutAll_222 rfl rfl ?_
              refine z_iload_n (pc := 223) 2 dX12_cutAll_223 rfl rfl ?_
              refine z_iload (pc := 224) 3 dX12_cutAll_224 rfl ?_
              refine z_isub (pc := 226) dX12_cutAll_226 ?_
              refine z_iconst (pc := 227) (x := 4) dX12_cutAll_227 zc_iconst_4 ?_
              refine z_icmp_le (pc := 228) 235 dX12_cutAll_228 (by decide) (fun c31 => ?_) (fun c31 => ?_)
              · rw [if_pos c31] at em12
                refine z_iconst (pc := 235) (x := 2) dX12_cutAll_235 zc_iconst_2 ?_
                obtain ⟨h32, eh32, em12⟩ := zbind em12
                refine z_iastore (pc := 236) dX12_cutAll_236 eh32 ?_
                refine z_goto (pc := 237) 265 dX12_cutAll_237 (by decide) ?_
                cases em12
                exact z_sub [0, 1, 2, 4] rfl Jm12
              · rw [if_neg c31] at em12
                refine z_iconst (pc := 231) (x := 4) dX12_cutAll_231 zc_iconst_4 ?_
                refine z_goto (pc := 232) 236 dX12_cutAll_232 (by decide) ?_
                obtain ⟨h33, eh33, em12⟩ := zbind em12
                refine z_iastore (pc := 236) dX12_cutAll_236 eh33 ?_
                refine z_goto (pc := 237) 265 dX12_cutAll_237 (by decide) ?_
                cases em12
                exact z_sub [0, 1, 2, 4] rfl Jm12
          · rw [if_neg c13] at em12
            obtain ⟨m43, em43, em12⟩ := zbind em12
            refine z_sub [3, 4, 5, 1, 0] rfl (s_X12_cutAll_L70 (by omega) N v2 0 _ em43 ?_)
            refine z_aload_n (pc := 129) 0 dX12_cutAll_129 rfl rfl ?_
            obtain ⟨r44, er44, em12⟩ := zbind em12
            refine z_getR (pc := 130) dX12_cutAll_130 fd_X12_24 er44 ?_
            refine z_iload_n (pc := 133) 1 dX12_cutAll_133 rfl rfl ?_
            refine z_iload_n (pc := 134) 2 dX12_cutAll_134 rfl rfl ?_
            refine z_iload (pc := 135) 3 dX12_cutAll_135 rfl ?_
            refine z_isub (pc := 137) dX12_cutAll_137 ?_
            refine z_bipush (pc := 138) (x := 8) dX12_cutAll_138 zc_bipush_8 ?_
            refine z_icmp_le (pc := 140) 147 dX12_cutAll_140 (by decide) (fun c45 => ?_) (fun c45 => ?_)
            · rw [if_pos c45] at em12
              refine z_iconst (pc := 147) (x := 1) dX12_cutAll_147 zc_iconst_1 ?_
              obtain ⟨h46, eh46, em12⟩ := zbind em12
              refine z_iastore (pc := 148) dX12_cutAll_148 eh46 ?_
              refine z_goto (pc := 149) 265 dX12_cutAll_149 (by decide) ?_
              cases em12
              exact z_sub [0, 1, 2, 4] rfl Jm12
            · rw [if_neg c45] at em12
              refine z_iconst (pc := 143) (x := 4) dX12_cutAll_143 zc_iconst_4 ?_
              refine z_goto (pc := 144) 148 dX12_cutAll_144 (by decide) ?_
              obtain ⟨h47, eh47, em12⟩ := zbind em12
              refine z_iastore (pc := 148) dX12_cutAll_148 eh47 ?_
              refine z_goto (pc := 149) 265 dX12_cutAll_149 (by decide) ?_
              cases em12
              exact z_sub [0, 1, 2, 4] rfl Jm12
        · rw [if_pos c9] at H
          refine z_iinc (pc := 44) (x' := v2 + 1) (lv' := [(2, .int (v2 + 1)), (3, .int x7), (0, .ref v0), (1, .int v1)]) 3 dX12_cutAll_44 rfl (by rfl) (by decide) rfl ?_
          refine z_goto (pc := 47) 17 dX12_cutAll_47 (by decide) ?_
          exact z_sub [2, 3, 0] rfl (ih v1 (v2 + 1) h _ H KE)
def f_X12_cutAll (N : Nat) (v0 : Nat) (h : zH) : Option (zH) := (gI h v0 12 2).bind fun x1 => (pF h v0 12 3 (.int x1)).bind fun h2 => (pF h2 v0 12 2 (.int 0)).bind fun h3 => (f_X12_cutAll_L17 N v0 N 0 0 h3).bind fun m50 => (gR m50.2 v0 12 4).bind fun r51 => (sI m50.2 r51 m50.1 0).bind fun h52 => (gR h52 v0 12 5).bind fun r53 => (gI h52 v0 12 3).bind fun x54 => (sI h52 r53 m50.1 x54).bind fun h55 => (pF h55 v0 12 7 (.int 0)).bind fun h56 => (pF h56 v0 12 8 (.int 0)).bind fun h57 => some h57
set_option maxRecDepth 100000 in
set_option maxHeartbeats 4000000 in
theorem k_X12_cutAll {N : Nat} {v0 : Nat} {h : zH} {r : zH} (H : f_X12_cutAll N v0 h = some r) : zOk 2 0 0 yX12_cutAll cX12_cutAll 7 none [.ref v0] h none r := by
  refine zOk.of (by decide) (Nat.le_of_ble_eq_true rfl) ?_
  unfold f_X12_cutAll at H
  refine z_aload_n (pc := 0) 0 dX12_cutAll_0 rfl rfl ?_
  refine z_aload_n (pc := 1) 0 dX12_cutAll_1 rfl rfl ?_
  obtain ⟨x1, ex1, H⟩ := zbind H
  refine z_getI (pc := 2) dX12_cutAll_2 fd_X12_11 ex1 ?_
  obtain ⟨h2, eh2, H⟩ := zbind H
  refine z_put (pc := 5) dX12_cutAll_5 fd_X12_240 rfl rfl eh2 ?_
  refine z_aload_n (pc := 8) 0 dX12_cutAll_8 rfl rfl ?_
  refine z_iconst (pc := 9) (x := 0) dX12_cutAll_9 zc_iconst_0 ?_
  obtain ⟨h3, eh3, H⟩ := zbind H
  refine z_put (pc := 10) dX12_cutAll_10 fd_X12_11 rfl rfl eh3 ?_
  refine z_iconst (pc := 13) (x := 0) dX12_cutAll_13 zc_iconst_0 ?_
  refine z_istore_n (pc := 14) (lv' := [(1, .int 0), (0, .ref v0)]) dX12_cutAll_14 rfl (by decide) rfl ?_
  refine z_iconst (pc := 15) (x := 0) dX12_cutAll_15 zc_iconst_0 ?_
  refine z_istore_n (pc := 16) (lv' := [(2, .int 0), (1, .int 0), (0, .ref v0)]) dX12_cutAll_16 rfl (by decide) rfl ?_
  obtain ⟨m50, em50, H⟩ := zbind H
  refine z_sub [2, 1, 0] rfl (s_X12_cutAll_L17 (by omega) N 0 0 h3 _ em50 ?_)
  refine z_aload_n (pc := 279) 0 dX12_cutAll_279 rfl rfl ?_
  obtain ⟨r51, er51, H⟩ := zbind H
  refine z_getR (pc := 280) dX12_cutAll_280 fd_X12_24 er51 ?_
  refine z_iload_n (pc := 283) 1 dX12_cutAll_283 rfl rfl ?_
  refine z_iconst (pc := 284) (x := 0) dX12_cutAll_284 zc_iconst_0 ?_
  obtain ⟨h52, eh52, H⟩ := zbind H
  refine z_iastore (pc := 285) dX12_cutAll_285 eh52 ?_
  refine z_aload_n (pc := 286) 0 dX12_cutAll_286 rfl rfl ?_
  obtain ⟨r53, er53, H⟩ := zbind H
  refine z_getR (pc := 287) dX12_cutAll_287 fd_X12_27 er53 ?_
  refine z_iload_n (pc := 290) 1 dX12_cutAll_290 rfl rfl ?_
  refine z_aload_n (pc := 291) 0 dX12_cutAll_291 rfl rfl ?_
  obtain ⟨x54, ex54, H⟩ := zbind H
  refine z_getI (pc := 292) dX12_cutAll_292 fd_X12_240 ex54 ?_
  obtain ⟨h55, eh55, H⟩ := zbind H
  refine z_iastore (pc := 295) dX12_cutAll_295 eh55 ?_
  refine z_aload_n (pc := 296) 0 dX12_cutAll_296 rfl rfl ?_
  refine z_iconst (pc := 297) (x := 0) dX12_cutAll_297 zc_iconst_0 ?_
  obtain ⟨h56, eh56, H⟩ := zbind H
  refine z_put (pc := 298) dX12_cutAll_298 fd_X12_259 rfl rfl eh56 ?_
  refine z_aload_n (pc := 301) 0 dX12_cutAll_301 rfl rfl ?_
  refine z_iconst (pc := 302) (x := 0) dX12_cutAll_302 zc_iconst_0 ?_
  obtain ⟨h57, eh57, H⟩ := zbind H
  refine z_put (pc := 303) dX12_cutAll_303 fd_X12_262 rfl rfl eh57 ?_
  cases H
  exact z_return rfl dX12_cutAll_306

def f_X12_wrong (N : Nat) (v0 : Nat) (v1 : Int32) (h : zH) : Option (zH) := (gI h v0 12 8).bind fun x1 => if x1 = 0 then ((gR h v0 12 5).bind fun r3 => (gI h v0 12 7).bind fun x4 => (aI h r3 x4).bind fun x5 => (pF h v0 12 8 (.int (v1 + (16 * x5)))).bind fun h6 => some h6) else (some h)
set_option maxRecDepth 100000 in
set_option maxHeartbeats 4000000 in
theorem k_X12_wrong {N : Nat} {v0 : Nat} {v1 : Int32} {h : zH} {r : zH} (H : f_X12_wrong N v0 v1 h = some r) : zOk 0 0 0 yX12_wrong cX12_wrong 2 none [.ref v0, .int v1] h none r := by
  refine zOk.of (by decide) (Nat.le_of_ble_eq_true rfl) ?_
  unfold f_X12_wrong at H
  refine z_aload_n (pc := 0) 0 dX12_wrong_0 rfl rfl ?_
  obtain ⟨x1, ex1, H⟩ := zbind H
  refine z_getI (pc := 1) dX12_wrong_1 fd_X12_262 ex1 ?_
  refine z_if_ne (pc := 4) 25 dX12_wrong_4 (by decide) (fun c2 => ?_) (fun c2 => ?_)
  · rw [if_neg c2] at H
    cases H
    exact z_return rfl dX12_wrong_25
  · rw [if_pos c2] at H
    refine z_aload_n (pc := 7) 0 dX12_wrong_7 rfl rfl ?_
    refine z_iload_n (pc := 8) 1 dX12_wrong_8 rfl rfl ?_
    refine z_bipush (pc := 9) (x := 16) dX12_wrong_9 zc_bipush_16 ?_
    refine z_aload_n (pc := 11) 0 dX12_wrong_11 rfl rfl ?_
    obtain ⟨r3, er3, H⟩ := zbind H
    refine z_getR (pc := 12) dX12_wrong_12 fd_X12_27 er3 ?_
    refine z_aload_n (pc := 15) 0 dX12_wrong_15 rfl rfl ?_
    obtain ⟨x4, ex4, H⟩ := zbind H
    refine z_getI (pc := 16) dX12_wrong_16 fd_X12_259 ex4 ?_
    obtain ⟨x5, ex5, H⟩ := zbind H
    refine z_iaload (pc := 19) dX12_wrong_19 ex5 ?_
    refine z_imul (pc := 20) dX12_wrong_20 ?_
    refine z_iadd (pc := 21) dX12_wrong_21 ?_
    obtain ⟨h6, eh6, H⟩ := zbind H
    refine z_put (pc := 22) dX12_wrong_22 fd_X12_262 rfl rfl eh6 ?_
    cases H
    exact z_return rfl dX12_wrong_25

def f_X12_isSign (N : Nat) (v0 : Nat) (v1 : Int32) (h : zH) : Option (Int32) := (gI h v0 12 8).bind fun x1 => if x1 = 0 then ((gR h v0 12 4).bind fun r3 => (gI h v0 12 7).bind fun x4 => (aI h r3 x4).bind fun x5 => if x5 = 3 then ((gR h v0 12 6).bind fun r7 => (gI h v0 12 7).bind fun x8 => (aL h r7 x8).bind fun x9 => if (lg_cmp x9 (v1.toInt64)) = 0 then (some 1) else (some 0)) else (some 0)) else (some 0)
set_option maxRecDepth 100000 in
set_option maxHeartbeats 4000000 in
theorem k_X12_isSign {N : Nat} {v0 : Nat} {v1 : Int32} {h : zH} {r : Int32} (H : f_X12_isSign N v0 v1 h = some r) : zOk 0 0 0 yX12_isSign cX12_isSign 2 (some .boolean) [.ref v0, .int v1] h (some (.int r)) h := by
  refine zOk.of (by decide) (Nat.le_of_ble_eq_true rfl) ?_
  unfold f_X12_isSign at H
  refine z_aload_n (pc := 0) 0 dX12_isSign_0 rfl rfl ?_
  obtain ⟨x1, ex1, H⟩ := zbind H
  refine z_getI (pc := 1) dX12_isSign_1 fd_X12_262 ex1 ?_
  refine z_if_ne (pc := 4) 39 dX12_isSign_4 (by decide) (fun c2 => ?_) (fun c2 => ?_)
  · rw [if_neg c2] at H
    refine z_iconst (pc := 39) (x := 0) dX12_isSign_39 zc_iconst_0 ?_
    cases H
    exact z_zreturn rfl dX12_isSign_40 (by decide)
  · rw [if_pos c2] at H
    refine z_aload_n (pc := 7) 0 dX12_isSign_7 rfl rfl ?_
    obtain ⟨r3, er3, H⟩ := zbind H
    refine z_getR (pc := 8) dX12_isSign_8 fd_X12_24 er3 ?_
    refine z_aload_n (pc := 11) 0 dX12_isSign_11 rfl rfl ?_
    obtain ⟨x4, ex4, H⟩ := zbind H
    refine z_getI (pc := 12) dX12_isSign_12 fd_X12_259 ex4 ?_
    obtain ⟨x5, ex5, H⟩ := zbind H
    refine z_iaload (pc := 15) dX12_isSign_15 ex5 ?_
    refine z_iconst (pc := 16) (x := 3) dX12_isSign_16 zc_iconst_3 ?_
    refine z_icmp_ne (pc := 17) 39 dX12_isSign_17 (by decide) (fun c6 => ?_) (fun c6 => ?_)
    · rw [if_neg c6] at H
      refine z_iconst (pc := 39) (x := 0) dX12_isSign_39 zc_iconst_0 ?_
      cases H
      exact z_zreturn rfl dX12_isSign_40 (by decide)
    · rw [if_pos c6] at H
      refine z_aload_n (pc := 20) 0 dX12_isSign_20 rfl rfl ?_
      obtain ⟨r7, er7, H⟩ := zbind H
      refine z_getR (pc := 21) dX12_isSign_21 fd_X12_30 er7 ?_
      refine z_aload_n (pc := 24) 0 dX12_isSign_24 rfl rfl ?_
      obtain ⟨x8, ex8, H⟩ := zbind H
      refine z_getI (pc := 25) dX12_isSign_25 fd_X12_259 ex8 ?_
      obtain ⟨x9, ex9, H⟩ := zbind H
      refine z_laload (pc := 28) dX12_isSign_28 ex9 ?_
      refine z_iload_n (pc := 29) 1 dX12_isSign_29 rfl rfl ?_
      refine z_i2l (pc := 30) dX12_isSign_30 ?_
      refine z_lcmp (pc := 31) dX12_isSign_31 ?_
      refine z_if_ne (pc := 32) 39 dX12_isSign_32 (by decide) (fun c10 => ?_) (fun c10 => ?_)
      · rw [if_neg c10] at H
        refine z_iconst (pc := 39) (x := 0) dX12_isSign_39 zc_iconst_0 ?_
        cases H
        exact z_zreturn rfl dX12_isSign_40 (by decide)
      · rw [if_pos c10] at H
        refine z_iconst (pc := 35) (x := 1) dX12_isSign_35 zc_iconst_1 ?_
        refine z_goto (pc := 36) 40 dX12_isSign_36 (by decide) ?_
        cases H
        exact z_zreturn rfl dX12_isSign_40 (by decide)

