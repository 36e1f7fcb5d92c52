/-! the law's calls, case by case -/
def gl_nz (x : Int32) : Int32 := if x = 0 then 0 else 1
theorem gl_bool {SS α : Type} {HH : SS → Heap → Prop} {A : Nat → Prop} {p : Program} {l : Launch} {e : Jvm.Env} {R : Room} {s : State} {m : MethodId} {args : Array Value} {below : List Frame} {meth : Method} {c : Code} {G : gz_G} {nL : Nat} {QQ : α → State → Prop} {ce sl : Nat} {σ : SS} {pc : Nat} {lv : List (Nat × Value)} {st : List Value} {z : Option α} {cc : ByteArray} {own : String} {ret : Option FieldType} {x : Int32} (C : gz_X p s m meth c G cc own nL ret) (d1 : decode cc pc = .ok (.ifCond .eq 7, 3)) (d2 : decode cc (pc + 3) = .ok (.iconst 1, 1)) (d3 : decode cc (pc + 3 + 1) = .ok (.goto 4, 3)) (d4 : decode cc (pc + 7) = .ok (.iconst 0, 1)) (k : gq_W HH A p l e R s m args below meth c nL QQ ce sl σ (pc + 8) lv (.int (gl_nz x) :: st) z) : gq_W HH A p l e R s m args below meth c nL QQ ce sl σ pc lv (.int x :: st) z := by
  have hz : z = if x = 0 then z else z := by split <;> rfl
  rw [hz]
  unfold gl_nz at k
  by_cases hx : x = 0
  · rw [if_pos hx] at k
    have e := gq_if_eq (x := x) (z1 := z) (z2 := none) (tgt := pc + 7) C d1 rfl (gq_iconst C d4 (by decide) k) gq_none
    rw [if_pos hx] at e ⊢
    exact e
  · rw [if_neg hx] at k
    have e := gq_if_eq (x := x) (z1 := none) (z2 := z) (tgt := pc + 7) C d1 rfl gq_none (gq_iconst C d2 (by decide) (gq_goto (tgt := pc + 8) C d3 (by omega) k))
    rw [if_neg hx] at e ⊢
    exact e
theorem ml_RL_13 : Cond.methodLink R_law 13 yX9_feast ∈ lw_tbl := gz_in 399 (by decide +kernel)
theorem ml_RL_17 : Cond.methodLink R_law 17 yX11_feast ∈ lw_tbl := gz_in 1131 (by decide +kernel)
theorem ml_RL_18 : Cond.methodLink R_law 18 yX9_working ∈ lw_tbl := gz_in 431 (by decide +kernel)
theorem ml_RL_22 : Cond.methodLink R_law 22 yX11_working ∈ lw_tbl := gz_in 1146 (by decide +kernel)
theorem ml_RL_23 : Cond.methodLink R_law 23 yX9_after ∈ lw_tbl := gz_in 447 (by decide +kernel)
theorem ml_RL_27 : Cond.methodLink R_law 27 yX11_after ∈ lw_tbl := gz_in 1162 (by decide +kernel)
theorem ml_RL_28 : Cond.methodLink R_law 28 yX9_feed ∈ lw_tbl := gz_in 461 (by decide +kernel)
theorem ml_RL_32 : Cond.methodLink R_law 32 yX11_feed ∈ lw_tbl := gz_in 1174 (by decide +kernel)
theorem ml_RL_33 : Cond.methodLink R_law 33 yX9_form ∈ lw_tbl := gz_in 469 (by decide +kernel)
theorem ml_RL_36 : Cond.methodLink R_law 36 yX11_form ∈ lw_tbl := gz_in 1178 (by decide +kernel)
theorem ml_RL_37 : Cond.methodLink R_law 37 yX9_notice ∈ lw_tbl := gz_in 568 (by decide +kernel)
theorem ml_RL_41 : Cond.methodLink R_law 41 yX11_notice ∈ lw_tbl := gz_in 1312 (by decide +kernel)
theorem ml_RL_42 : Cond.methodLink R_law 42 yX9_fault ∈ lw_tbl := gz_in 608 (by decide +kernel)
theorem ml_RL_46 : Cond.methodLink R_law 46 yX11_fault ∈ lw_tbl := gz_in 1324 (by decide +kernel)
theorem ml_RL_47 : Cond.methodLink R_law 47 yX9_where ∈ lw_tbl := gz_in 612 (by decide +kernel)
theorem ml_RL_50 : Cond.methodLink R_law 50 yX11_where ∈ lw_tbl := gz_in 1328 (by decide +kernel)
theorem ml_RL_51 : Cond.methodLink R_law 51 yX9_lacks ∈ lw_tbl := gz_in 616 (by decide +kernel)
theorem ml_RL_54 : Cond.methodLink R_law 54 yX11_lacks ∈ lw_tbl := gz_in 1332 (by decide +kernel)
theorem ml_RL_55 : Cond.methodLink R_law 55 yX9_field ∈ lw_tbl := gz_in 620 (by decide +kernel)
theorem ml_RL_59 : Cond.methodLink R_law 59 yX11_field ∈ lw_tbl := gz_in 1300 (by decide +kernel)
theorem ml_RL_60 : Cond.methodLink R_law 60 yX9_fields ∈ lw_tbl := gz_in 624 (by decide +kernel)
theorem ml_RL_63 : Cond.methodLink R_law 63 yX11_fields ∈ lw_tbl := gz_in 1308 (by decide +kernel)
theorem ml_RL_64 : Cond.methodLink R_law 64 yX9_value ∈ lw_tbl := gz_in 628 (by decide +kernel)
theorem ml_RL_68 : Cond.methodLink R_law 68 yX11_value ∈ lw_tbl := gz_in 1336 (by decide +kernel)
theorem ml_RL_69 : Cond.methodLink R_law 69 yX9_about ∈ lw_tbl := gz_in 646 (by decide +kernel)
theorem ml_RL_73 : Cond.methodLink R_law 73 yX11_about ∈ lw_tbl := gz_in 1349 (by decide +kernel)
theorem ml_RL_74 : Cond.methodLink R_law 74 yX9_says ∈ lw_tbl := gz_in 650 (by decide +kernel)
theorem ml_RL_77 : Cond.methodLink R_law 77 yX11_says ∈ lw_tbl := gz_in 1353 (by decide +kernel)
theorem ml_RL_78 : Cond.methodLink R_law 78 yX9_corrects ∈ lw_tbl := gz_in 662 (by decide +kernel)
theorem ml_RL_82 : Cond.methodLink R_law 82 yX11_corrects ∈ lw_tbl := gz_in 1358 (by decide +kernel)
theorem ml_RL_85 : Cond.methodLink R_law 85 yX9_renames ∈ lw_tbl := gz_in 666 (by decide +kernel)
theorem ml_RL_89 : Cond.methodLink R_law 89 yX11_renames ∈ lw_tbl := gz_in 1370 (by decide +kernel)
theorem ml_RL_90 : Cond.methodLink R_law 90 yX9_strikes ∈ lw_tbl := gz_in 676 (by decide +kernel)
theorem ml_RL_94 : Cond.methodLink R_law 94 yX11_strikes ∈ lw_tbl := gz_in 1380 (by decide +kernel)
theorem ml_RL_95 : Cond.methodLink R_law 95 yX9_issue ∈ lw_tbl := gz_in 680 (by decide +kernel)
theorem ml_RL_98 : Cond.methodLink R_law 98 yX11_issue ∈ lw_tbl := gz_in 1384 (by decide +kernel)
theorem ml_RL_99 : Cond.methodLink R_law 99 yX9_issued ∈ lw_tbl := gz_in 747 (by decide +kernel)
theorem ml_RL_102 : Cond.methodLink R_law 102 yX11_issued ∈ lw_tbl := gz_in 1396 (by decide +kernel)
theorem ml_RL_103 : Cond.methodLink R_law 103 yX9_printed ∈ lw_tbl := gz_in 751 (by decide +kernel)
theorem ml_RL_106 : Cond.methodLink R_law 106 yX11_printed ∈ lw_tbl := gz_in 1404 (by decide +kernel)
theorem ml_RL_107 : Cond.methodLink R_law 107 yX9_law ∈ lw_tbl := gz_in 755 (by decide +kernel)
theorem ml_RL_110 : Cond.methodLink R_law 110 yX11_law ∈ lw_tbl := gz_in 1408 (by decide +kernel)
theorem ml_RL_111 : Cond.methodLink R_law 111 yX9_source ∈ lw_tbl := gz_in 777 (by decide +kernel)
theorem ml_RL_114 : Cond.methodLink R_law 114 yX11_source ∈ lw_tbl := gz_in 1428 (by decide +kernel)
theorem ml_RL_115 : Cond.methodLink R_law 115 yX9_isVoid ∈ lw_tbl := gz_in 781 (by decide +kernel)
theorem ml_RL_118 : Cond.methodLink R_law 118 yX11_isVoid ∈ lw_tbl := gz_in 1432 (by decide +kernel)
theorem ml_RL_119 : Cond.methodLink R_law 119 yX9_changes ∈ lw_tbl := gz_in 786 (by decide +kernel)
theorem ml_RL_122 : Cond.methodLink R_law 122 yX11_changes ∈ lw_tbl := gz_in 1436 (by decide +kernel)
theorem ml_RL_123 : Cond.methodLink R_law 123 yX9_find ∈ lw_tbl := gz_in 800 (by decide +kernel)
theorem ml_RL_127 : Cond.methodLink R_law 127 yX11_find ∈ lw_tbl := gz_in 1440 (by decide +kernel)
theorem ml_RL_128 : Cond.methodLink R_law 128 yX9_found ∈ lw_tbl := gz_in 824 (by decide +kernel)
theorem ml_RL_131 : Cond.methodLink R_law 131 yX11_found ∈ lw_tbl := gz_in 1448 (by decide +kernel)
theorem ml_RL_132 : Cond.methodLink R_law 132 yX9_struck ∈ lw_tbl := gz_in 828 (by decide +kernel)
theorem ml_RL_135 : Cond.methodLink R_law 135 yX11_struck ∈ lw_tbl := gz_in 1452 (by decide +kernel)
theorem ml_RL_136 : Cond.methodLink R_law 136 yX9_undo ∈ lw_tbl := gz_in 836 (by decide +kernel)
theorem ml_RL_139 : Cond.methodLink R_law 139 yX11_undo ∈ lw_tbl := gz_in 1127 (by decide +kernel)
theorem ml_RL_140 : Cond.methodLink R_law 140 yX9_count ∈ lw_tbl := gz_in 852 (by decide +kernel)
theorem ml_RL_143 : Cond.methodLink R_law 143 yX11_count ∈ lw_tbl := gz_in 1456 (by decide +kernel)
theorem ml_RL_144 : Cond.methodLink R_law 144 yX9_trouble ∈ lw_tbl := gz_in 856 (by decide +kernel)
theorem ml_RL_147 : Cond.methodLink R_law 147 yX11_trouble ∈ lw_tbl := gz_in 1460 (by decide +kernel)
theorem cw_RL_83 : Jvm.Cond.constantLong R_law 83 4294967295 ∈ lw_tbl := gz_in 1464 (by decide +kernel)
theorem mw_X11_about : gz_mw yX11_about cX11_about 3 (some .int) 2 := ⟨gz_in 1352 (by decide +kernel), gz_in 11 (by decide +kernel), by decide, by decide +kernel⟩
theorem mv_X11_about : gz_mv yX11_about := ⟨gz_in 1350 (by decide +kernel), gz_in 1351 (by decide +kernel)⟩
theorem mw_X11_after : gz_mw yX11_after cX11_after 4 (some .int) 3 := ⟨gz_in 1165 (by decide +kernel), gz_in 11 (by decide +kernel), by decide, by decide +kernel⟩
theorem mv_X11_after : gz_mv yX11_after := ⟨gz_in 1163 (by decide +kernel), gz_in 1164 (by decide +kernel)⟩
theorem mw_X11_changes : gz_mw yX11_changes cX11_changes 6 (some .int) 2 := ⟨gz_in 1439 (by decide +kernel), gz_in 11 (by decide +kernel), by decide, by decide +kernel⟩
theorem mv_X11_changes : gz_mv yX11_changes := ⟨gz_in 1437 (by decide +kernel), gz_in 1438 (by decide +kernel)⟩
theorem mw_X11_corrects : gz_mw yX11_corrects cX11_corrects 3 (some .boolean) 2 := ⟨gz_in 1361 (by decide +kernel), gz_in 11 (by decide +kernel), by decide, by decide +kernel⟩
theorem mv_X11_corrects : gz_mv yX11_corrects := ⟨gz_in 1359 (by decide +kernel), gz_in 1360 (by decide +kernel)⟩
theorem mw_X11_count : gz_mw yX11_count cX11_count 2 (some .int) 1 := ⟨gz_in 1459 (by decide +kernel), gz_in 11 (by decide +kernel), by decide, by decide +kernel⟩
theorem mv_X11_count : gz_mv yX11_count := ⟨gz_in 1457 (by decide +kernel), gz_in 1458 (by decide +kernel)⟩
theorem mw_X11_fault : gz_mw yX11_fault cX11_fault 1 (some .int) 0 := ⟨gz_in 1327 (by decide +kernel), gz_in 11 (by decide +kernel), by decide, by decide +kernel⟩
theorem mv_X11_fault : gz_mv yX11_fault := ⟨gz_in 1325 (by decide +kernel), gz_in 1326 (by decide +kernel)⟩
theorem mw_X11_feast : gz_mw yX11_feast cX11_feast 3 (some .boolean) 2 := ⟨gz_in 1134 (by decide +kernel), gz_in 11 (by decide +kernel), by decide, by decide +kernel⟩
theorem mv_X11_feast : gz_mv yX11_feast := ⟨gz_in 1132 (by decide +kernel), gz_in 1133 (by decide +kernel)⟩
theorem mw_X11_feed : gz_mw yX11_feed cX11_feed 8 (some .int) 5 := ⟨gz_in 1177 (by decide +kernel), gz_in 11 (by decide +kernel), by decide, by decide +kernel⟩
theorem mv_X11_feed : gz_mv yX11_feed := ⟨gz_in 1175 (by decide +kernel), gz_in 1176 (by decide +kernel)⟩
theorem mw_X11_field : gz_mw yX11_field cX11_field 5 (some .int) 3 := ⟨gz_in 1303 (by decide +kernel), gz_in 11 (by decide +kernel), by decide, by decide +kernel⟩
theorem mv_X11_field : gz_mv yX11_field := ⟨gz_in 1301 (by decide +kernel), gz_in 1302 (by decide +kernel)⟩
theorem mw_X11_fields : gz_mw yX11_fields cX11_fields 2 (some .int) 1 := ⟨gz_in 1311 (by decide +kernel), gz_in 11 (by decide +kernel), by decide, by decide +kernel⟩
theorem mv_X11_fields : gz_mv yX11_fields := ⟨gz_in 1309 (by decide +kernel), gz_in 1310 (by decide +kernel)⟩
theorem mw_X11_find : gz_mw yX11_find cX11_find 8 (some .int) 2 := ⟨gz_in 1443 (by decide +kernel), gz_in 11 (by decide +kernel), by decide, by decide +kernel⟩
theorem mv_X11_find : gz_mv yX11_find := ⟨gz_in 1441 (by decide +kernel), gz_in 1442 (by decide +kernel)⟩
theorem mv_X11_form : gz_mv yX11_form := ⟨gz_in 1179 (by decide +kernel), gz_in 1180 (by decide +kernel)⟩
theorem mw_X11_found : gz_mw yX11_found cX11_found 2 (some .int) 1 := ⟨gz_in 1451 (by decide +kernel), gz_in 11 (by decide +kernel), by decide, by decide +kernel⟩
theorem mv_X11_found : gz_mv yX11_found := ⟨gz_in 1449 (by decide +kernel), gz_in 1450 (by decide +kernel)⟩
theorem mw_X11_isVoid : gz_mw yX11_isVoid cX11_isVoid 3 (some .int) 2 := ⟨gz_in 1435 (by decide +kernel), gz_in 11 (by decide +kernel), by decide, by decide +kernel⟩
theorem mv_X11_isVoid : gz_mv yX11_isVoid := ⟨gz_in 1433 (by decide +kernel), gz_in 1434 (by decide +kernel)⟩
theorem mw_X11_issue : gz_mw yX11_issue cX11_issue 10 (some .int) 4 := ⟨gz_in 1387 (by decide +kernel), gz_in 11 (by decide +kernel), by decide, by decide +kernel⟩
theorem mv_X11_issue : gz_mv yX11_issue := ⟨gz_in 1385 (by decide +kernel), gz_in 1386 (by decide +kernel)⟩
theorem mw_X11_issued : gz_mw yX11_issued cX11_issued 3 (some .int) 2 := ⟨gz_in 1399 (by decide +kernel), gz_in 11 (by decide +kernel), by decide, by decide +kernel⟩
theorem mv_X11_issued : gz_mv yX11_issued := ⟨gz_in 1397 (by decide +kernel), gz_in 1398 (by decide +kernel)⟩
theorem mw_X11_lacks : gz_mw yX11_lacks cX11_lacks 1 (some .int) 0 := ⟨gz_in 1335 (by decide +kernel), gz_in 11 (by decide +kernel), by decide, by decide +kernel⟩
theorem mv_X11_lacks : gz_mv yX11_lacks := ⟨gz_in 1333 (by decide +kernel), gz_in 1334 (by decide +kernel)⟩
theorem mw_X11_law : gz_mw yX11_law cX11_law 5 (some .int) 3 := ⟨gz_in 1411 (by decide +kernel), gz_in 11 (by decide +kernel), by decide, by decide +kernel⟩
theorem mv_X11_law : gz_mv yX11_law := ⟨gz_in 1409 (by decide +kernel), gz_in 1410 (by decide +kernel)⟩
theorem mv_X11_notice : gz_mv yX11_notice := ⟨gz_in 1313 (by decide +kernel), gz_in 1314 (by decide +kernel)⟩
theorem mw_X11_printed : gz_mw yX11_printed cX11_printed 3 (some .int) 2 := ⟨gz_in 1407 (by decide +kernel), gz_in 11 (by decide +kernel), by decide, by decide +kernel⟩
theorem mv_X11_printed : gz_mv yX11_printed := ⟨gz_in 1405 (by decide +kernel), gz_in 1406 (by decide +kernel)⟩
theorem mw_X11_renames : gz_mw yX11_renames cX11_renames 6 (some .boolean) 3 := ⟨gz_in 1373 (by decide +kernel), gz_in 11 (by decide +kernel), by decide, by decide +kernel⟩
theorem mv_X11_renames : gz_mv yX11_renames := ⟨gz_in 1371 (by decide +kernel), gz_in 1372 (by decide +kernel)⟩
theorem mw_X11_says : gz_mw yX11_says cX11_says 6 (some .int) 4 := ⟨gz_in 1356 (by decide +kernel), gz_in 11 (by decide +kernel), by decide, by decide +kernel⟩
theorem mv_X11_says : gz_mv yX11_says := ⟨gz_in 1354 (by decide +kernel), gz_in 1355 (by decide +kernel)⟩
theorem mw_X11_source : gz_mw yX11_source cX11_source 5 (some .int) 3 := ⟨gz_in 1431 (by decide +kernel), gz_in 11 (by decide +kernel), by decide, by decide +kernel⟩
theorem mv_X11_source : gz_mv yX11_source := ⟨gz_in 1429 (by decide +kernel), gz_in 1430 (by decide +kernel)⟩
theorem mw_X11_strikes : gz_mw yX11_strikes cX11_strikes 4 (some .boolean) 2 := ⟨gz_in 1383 (by decide +kernel), gz_in 11 (by decide +kernel), by decide, by decide +kernel⟩
theorem mv_X11_strikes : gz_mv yX11_strikes := ⟨gz_in 1381 (by decide +kernel), gz_in 1382 (by decide +kernel)⟩
theorem mw_X11_struck : gz_mw yX11_struck cX11_struck 6 (some .int) 2 := ⟨gz_in 1455 (by decide +kernel), gz_in 11 (by decide +kernel), by decide, by decide +kernel⟩
theorem mv_X11_struck : gz_mv yX11_struck := ⟨gz_in 1453 (by decide +kernel), gz_in 1454 (by decide +kernel)⟩
theorem mw_X11_trouble : gz_mw yX11_trouble cX11_trouble 1 (some .int) 0 := ⟨gz_in 1463 (by decide +kernel), gz_in 11 (by decide +kernel), by decide, by decide +kernel⟩
theorem mv_X11_trouble : gz_mv yX11_trouble := ⟨gz_in 1461 (by decide +kernel), gz_in 1462 (by decide +kernel)⟩
theorem mw_X11_undo : gz_mw yX11_undo cX11_undo 2 (some .int) 0 := ⟨gz_in 1130 (by decide +kernel), gz_in 11 (by decide +kernel), by decide, by decide +kernel⟩
theorem mv_X11_undo : gz_mv yX11_undo := ⟨gz_in 1128 (by decide +kernel), gz_in 1129 (by decide +kernel)⟩
theorem mw_X11_value : gz_mw yX11_value cX11_value 3 (some .long) 2 := ⟨gz_in 1339 (by decide +kernel), gz_in 11 (by decide +kernel), by decide, by decide +kernel⟩
theorem mv_X11_value : gz_mv yX11_value := ⟨gz_in 1337 (by decide +kernel), gz_in 1338 (by decide +kernel)⟩
theorem mw_X11_where : gz_mw yX11_where cX11_where 1 (some .int) 0 := ⟨gz_in 1331 (by decide +kernel), gz_in 11 (by decide +kernel), by decide, by decide +kernel⟩
theorem mv_X11_where : gz_mv yX11_where := ⟨gz_in 1329 (by decide +kernel), gz_in 1330 (by decide +kernel)⟩
theorem mw_X11_working : gz_mw yX11_working cX11_working 2 (some .int) 1 := ⟨gz_in 1149 (by decide +kernel), gz_in 11 (by decide +kernel), by decide, by decide +kernel⟩
theorem mv_X11_working : gz_mv yX11_working := ⟨gz_in 1147 (by decide +kernel), gz_in 1148 (by decide +kernel)⟩
theorem mw_X9_about : gz_mw yX9_about cX9_about 4 (some .int) 2 := ⟨gz_in 649 (by decide +kernel), gz_in 1 (by decide +kernel), by decide, by decide +kernel⟩
theorem mv_X9_about : gz_mv yX9_about := ⟨gz_in 647 (by decide +kernel), gz_in 648 (by decide +kernel)⟩
theorem mw_X9_after : gz_mw yX9_after cX9_after 4 (some .int) 3 := ⟨gz_in 450 (by decide +kernel), gz_in 1 (by decide +kernel), by decide, by decide +kernel⟩
theorem mv_X9_after : gz_mv yX9_after := ⟨gz_in 448 (by decide +kernel), gz_in 449 (by decide +kernel)⟩
theorem mw_X9_changes : gz_mw yX9_changes cX9_changes 3 (some .int) 2 := ⟨gz_in 789 (by decide +kernel), gz_in 1 (by decide +kernel), by decide, by decide +kernel⟩
theorem mv_X9_changes : gz_mv yX9_changes := ⟨gz_in 787 (by decide +kernel), gz_in 788 (by decide +kernel)⟩
theorem mw_X9_corrects : gz_mw yX9_corrects cX9_corrects 4 (some .boolean) 2 := ⟨gz_in 665 (by decide +kernel), gz_in 1 (by decide +kernel), by decide, by decide +kernel⟩
theorem mv_X9_corrects : gz_mv yX9_corrects := ⟨gz_in 663 (by decide +kernel), gz_in 664 (by decide +kernel)⟩
theorem mw_X9_count : gz_mw yX9_count cX9_count 2 (some .int) 1 := ⟨gz_in 855 (by decide +kernel), gz_in 1 (by decide +kernel), by decide, by decide +kernel⟩
theorem mv_X9_count : gz_mv yX9_count := ⟨gz_in 853 (by decide +kernel), gz_in 854 (by decide +kernel)⟩
theorem mw_X9_fault : gz_mw yX9_fault cX9_fault 1 (some .int) 0 := ⟨gz_in 611 (by decide +kernel), gz_in 1 (by decide +kernel), by decide, by decide +kernel⟩
theorem mv_X9_fault : gz_mv yX9_fault := ⟨gz_in 609 (by decide +kernel), gz_in 610 (by decide +kernel)⟩
theorem mw_X9_feast : gz_mw yX9_feast cX9_feast 3 (some .boolean) 2 := ⟨gz_in 402 (by decide +kernel), gz_in 1 (by decide +kernel), by decide, by decide +kernel⟩
theorem mv_X9_feast : gz_mv yX9_feast := ⟨gz_in 400 (by decide +kernel), gz_in 401 (by decide +kernel)⟩
theorem mw_X9_feed : gz_mw yX9_feed cX9_feed 6 (some .int) 5 := ⟨gz_in 464 (by decide +kernel), gz_in 1 (by decide +kernel), by decide, by decide +kernel⟩
theorem mv_X9_feed : gz_mv yX9_feed := ⟨gz_in 462 (by decide +kernel), gz_in 463 (by decide +kernel)⟩
theorem mw_X9_field : gz_mw yX9_field cX9_field 6 (some .int) 3 := ⟨gz_in 623 (by decide +kernel), gz_in 1 (by decide +kernel), by decide, by decide +kernel⟩
theorem mv_X9_field : gz_mv yX9_field := ⟨gz_in 621 (by decide +kernel), gz_in 622 (by decide +kernel)⟩
theorem mw_X9_fields : gz_mw yX9_fields cX9_fields 3 (some .int) 1 := ⟨gz_in 627 (by decide +kernel), gz_in 1 (by decide +kernel), by decide, by decide +kernel⟩
theorem mv_X9_fields : gz_mv yX9_fields := ⟨gz_in 625 (by decide +kernel), gz_in 626 (by decide +kernel)⟩
theorem mw_X9_find : gz_mw yX9_find cX9_find 4 (some .int) 2 := ⟨gz_in 803 (by decide +kernel), gz_in 1 (by decide +kernel), by decide, by decide +kernel⟩
theorem mv_X9_find : gz_mv yX9_find := ⟨gz_in 801 (by decide +kernel), gz_in 802 (by decide +kernel)⟩
theorem mw_X9_form : gz_mw yX9_form cX9_form 3 (some .int) 1 := ⟨gz_in 472 (by decide +kernel), gz_in 1 (by decide +kernel), by decide, by decide +kernel⟩
theorem mv_X9_form : gz_mv yX9_form := ⟨gz_in 470 (by decide +kernel), gz_in 471 (by decide +kernel)⟩
theorem mw_X9_found : gz_mw yX9_found cX9_found 2 (some .int) 1 := ⟨gz_in 827 (by decide +kernel), gz_in 1 (by decide +kernel), by decide, by decide +kernel⟩
theorem mv_X9_found : gz_mv yX9_found := ⟨gz_in 825 (by decide +kernel), gz_in 826 (by decide +kernel)⟩
theorem mw_X9_isVoid : gz_mw yX9_isVoid cX9_isVoid 4 (some .int) 2 := ⟨gz_in 784 (by decide +kernel), gz_in 1 (by decide +kernel), by decide, by decide +kernel⟩
theorem mv_X9_isVoid : gz_mv yX9_isVoid := ⟨gz_in 782 (by decide +kernel), gz_in 783 (by decide +kernel)⟩
theorem mw_X9_issue : gz_mw yX9_issue cX9_issue 5 (some .int) 4 := ⟨gz_in 683 (by decide +kernel), gz_in 1 (by decide +kernel), by decide, by decide +kernel⟩
theorem mv_X9_issue : gz_mv yX9_issue := ⟨gz_in 681 (by decide +kernel), gz_in 682 (by decide +kernel)⟩
theorem mw_X9_issued : gz_mw yX9_issued cX9_issued 4 (some .int) 2 := ⟨gz_in 750 (by decide +kernel), gz_in 1 (by decide +kernel), by decide, by decide +kernel⟩
theorem mv_X9_issued : gz_mv yX9_issued := ⟨gz_in 748 (by decide +kernel), gz_in 749 (by decide +kernel)⟩
theorem mw_X9_lacks : gz_mw yX9_lacks cX9_lacks 1 (some .int) 0 := ⟨gz_in 619 (by decide +kernel), gz_in 1 (by decide +kernel), by decide, by decide +kernel⟩
theorem mv_X9_lacks : gz_mv yX9_lacks := ⟨gz_in 617 (by decide +kernel), gz_in 618 (by decide +kernel)⟩
theorem mw_X9_law : gz_mw yX9_law cX9_law 4 (some .int) 3 := ⟨gz_in 758 (by decide +kernel), gz_in 1 (by decide +kernel), by decide, by decide +kernel⟩
theorem mv_X9_law : gz_mv yX9_law := ⟨gz_in 756 (by decide +kernel), gz_in 757 (by decide +kernel)⟩
theorem mw_X9_notice : gz_mw yX9_notice cX9_notice 8 (some .int) 4 := ⟨gz_in 571 (by decide +kernel), gz_in 1 (by decide +kernel), by decide, by decide +kernel⟩
theorem mv_X9_notice : gz_mv yX9_notice := ⟨gz_in 569 (by decide +kernel), gz_in 570 (by decide +kernel)⟩
theorem mw_X9_printed : gz_mw yX9_printed cX9_printed 4 (some .int) 2 := ⟨gz_in 754 (by decide +kernel), gz_in 1 (by decide +kernel), by decide, by decide +kernel⟩
theorem mv_X9_printed : gz_mv yX9_printed := ⟨gz_in 752 (by decide +kernel), gz_in 753 (by decide +kernel)⟩
theorem mw_X9_renames : gz_mw yX9_renames cX9_renames 7 (some .boolean) 3 := ⟨gz_in 669 (by decide +kernel), gz_in 1 (by decide +kernel), by decide, by decide +kernel⟩
theorem mv_X9_renames : gz_mv yX9_renames := ⟨gz_in 667 (by decide +kernel), gz_in 668 (by decide +kernel)⟩
theorem mw_X9_says : gz_mw yX9_says cX9_says 6 (some .int) 4 := ⟨gz_in 653 (by decide +kernel), gz_in 1 (by decide +kernel), by decide, by decide +kernel⟩
theorem mv_X9_says : gz_mv yX9_says := ⟨gz_in 651 (by decide +kernel), gz_in 652 (by decide +kernel)⟩
theorem mw_X9_source : gz_mw yX9_source cX9_source 5 (some .int) 3 := ⟨gz_in 780 (by decide +kernel), gz_in 1 (by decide +kernel), by decide, by decide +kernel⟩
theorem mv_X9_source : gz_mv yX9_source := ⟨gz_in 778 (by decide +kernel), gz_in 779 (by decide +kernel)⟩
theorem mw_X9_strikes : gz_mw yX9_strikes cX9_strikes 5 (some .boolean) 2 := ⟨gz_in 679 (by decide +kernel), gz_in 1 (by decide +kernel), by decide, by decide +kernel⟩
theorem mv_X9_strikes : gz_mv yX9_strikes := ⟨gz_in 677 (by decide +kernel), gz_in 678 (by decide +kernel)⟩
theorem mw_X9_struck : gz_mw yX9_struck cX9_struck 4 (some .int) 2 := ⟨gz_in 831 (by decide +kernel), gz_in 1 (by decide +kernel), by decide, by decide +kernel⟩
theorem mv_X9_struck : gz_mv yX9_struck := ⟨gz_in 829 (by decide +kernel), gz_in 830 (by decide +kernel)⟩
theorem mw_X9_trouble : gz_mw yX9_trouble cX9_trouble 1 (some .int) 0 := ⟨gz_in 859 (by decide +kernel), gz_in 1 (by decide +kernel), by decide, by decide +kernel⟩
theorem mv_X9_trouble : gz_mv yX9_trouble := ⟨gz_in 857 (by decide +kernel), gz_in 858 (by decide +kernel)⟩
theorem mw_X9_undo : gz_mw yX9_undo cX9_undo 1 (some .int) 0 := ⟨gz_in 839 (by decide +kernel), gz_in 1 (by decide +kernel), by decide, by decide +kernel⟩
theorem mv_X9_undo : gz_mv yX9_undo := ⟨gz_in 837 (by decide +kernel), gz_in 838 (by decide +kernel)⟩
theorem mw_X9_value : gz_mw yX9_value cX9_value 5 (some .long) 2 := ⟨gz_in 631 (by decide +kernel), gz_in 1 (by decide +kernel), by decide, by decide +kernel⟩
theorem mv_X9_value : gz_mv yX9_value := ⟨gz_in 629 (by decide +kernel), gz_in 630 (by decide +kernel)⟩
theorem mw_X9_where : gz_mw yX9_where cX9_where 1 (some .int) 0 := ⟨gz_in 615 (by decide +kernel), gz_in 1 (by decide +kernel), by decide, by decide +kernel⟩
theorem mv_X9_where : gz_mv yX9_where := ⟨gz_in 613 (by decide +kernel), gz_in 614 (by decide +kernel)⟩
theorem mw_X9_working : gz_mw yX9_working cX9_working 2 (some .int) 1 := ⟨gz_in 434 (by decide +kernel), gz_in 1 (by decide +kernel), by decide, by decide +kernel⟩
theorem mv_X9_working : gz_mv yX9_working := ⟨gz_in 432 (by decide +kernel), gz_in 433 (by decide +kernel)⟩
theorem mt_X11_form : gz_mt yX11_form (.codeWith yX11_form cX11_form 3 (some .int) [(28, 32, 35, 36)]) 3 1 := gz_mt_with (gz_in 1181 (by decide +kernel)) (gz_in 11 (by decide +kernel)) (by decide) (by decide +kernel)
theorem mt_X11_notice : gz_mt yX11_notice (.codeWith yX11_notice cX11_notice 6 (some .int) [(60, 65, 68, 36)]) 6 4 := gz_mt_with (gz_in 1315 (by decide +kernel)) (gz_in 11 (by decide +kernel)) (by decide) (by decide +kernel)
def f_lawC0 (xs : Nat → Int32) (L : Nat) (i : Int32) (k : gz_S → gz_S → Option Unit) (σx σm : gz_S) : Option Unit :=
  gz_ix (i + 1) L (fun n1 =>
  gz_ix (i + 2) L (fun n2 =>
  gz_call (f_X9_feast (xs n1) (gl_nz (xs n2)) σx) (fun r3 u4 =>
  gz_ix (i + 1) L (fun n5 =>
  gz_ix (i + 2) L (fun n6 =>
  gz_call (f_X11_feast (xs n5) (gl_nz (xs n6)) σm) (fun r7 u8 =>
  if r3 = r7 then k u4 u8 else none))))))
set_option maxHeartbeats 4000000 in
set_option maxRecDepth 100000 in
theorem c_lawC0 {p : Program} {l : Launch} {e : Jvm.Env} {s : State} {m : MethodId} {args : Array Value} {below : List Frame} {meth : Method} {c : Code} {G : gz_G} {QQ : Unit → State → Prop} {bb L ce sl : Nat} {xs : Nat → Int32} {i : Int32} {k : gz_S → gz_S → Option Unit} (C : gz_X p s m meth c G code R_law 4 (some .boolean)) (hX : va_X bb L xs s s.heap) (hbl : bb < s.heap.size) (hbA : ¬ G.1 ≤ bb) (hce : ce + 1 ≤ 601024) (hsl : sl + 60 ≤ 7293034) (hk : ∀ u v, gq_W (gl_H G) (fun q => G.1 ≤ q) p l e room_1 s m args below meth c 4 QQ (ce + 1) (sl + 60) (u, v) 1331 [(0, .ref bb), (1, .ref (gz_ad false G 0 0)), (2, .ref (gz_ad true G 0 0)), (3, .int i)] [] (k u v)) (σx σm : gz_S) : gq_W (gl_H G) (fun q => G.1 ≤ q) p l e room_1 s m args below meth c 4 QQ ce sl (σx, σm) 168 [(0, .ref bb), (1, .ref (gz_ad false G 0 0)), (2, .ref (gz_ad true G 0 0)), (3, .int i)] [] (f_lawC0 xs L i k σx σm) := by
  unfold f_lawC0
  refine gq_aload_n C dL_law_168 1 rfl ?_
  refine gq_aload_n C dL_law_169 0 rfl ?_
  refine gq_iload_n C dL_law_170 3 rfl ?_
  refine gq_iconst C dL_law_171 gk_iconst_1 ?_
  refine gq_iadd C dL_law_172 ?_
  refine gl_sld C hX hbl hbA dL_law_173 (fun n1 => ?_)
  refine gq_aload_n C dL_law_174 0 rfl ?_
  refine gq_iload_n C dL_law_175 3 rfl ?_
  refine gq_iconst C dL_law_176 gk_iconst_2 ?_
  refine gq_iadd C dL_law_177 ?_
  refine gl_sld C hX hbl hbA dL_law_178 (fun n2 => ?_)
  refine gl_bool C dL_law_179 dL_law_182 dL_law_183 dL_law_186 ?_
  refine gl_ki (b := false) (σ := (σx, σm)) (gz_runV (b := false) (t := 0) (i := 0) (ci := 9) (q := (RX9, TX9, 11)) (As := [.int (xs n1), .int (gl_nz (xs n2))]) (rest := []) (mc := 0) (ms := 0) (σ := σx) C dL_law_187 ml_RL_13 mw_X9_feast mv_X9_feast (c_X9_feast l G (xs n1) (gl_nz (xs n2)) σx) (gz_hx0 _) rfl rfl rfl rfl rfl (Nat.le_of_ble_eq_true rfl) ⟨rfl, rfl, Nat.le_of_ble_eq_true rfl, Nat.le_of_ble_eq_true rfl, show _ ≤ 601024 by omega, show _ ≤ 7293034 by omega⟩) (fun r3 u4 => ?_)
  refine gq_stq (σ' := (u4, σm)) rfl ?_
  refine gq_aload_n C dL_law_190 2 rfl ?_
  refine gq_aload_n C dL_law_191 0 rfl ?_
  refine gq_iload_n C dL_law_192 3 rfl ?_
  refine gq_iconst C dL_law_193 gk_iconst_1 ?_
  refine gq_iadd C dL_law_194 ?_
  refine gl_sld C hX hbl hbA dL_law_195 (fun n5 => ?_)
  refine gq_aload_n C dL_law_196 0 rfl ?_
  refine gq_iload_n C dL_law_197 3 rfl ?_
  refine gq_iconst C dL_law_198 gk_iconst_2 ?_
  refine gq_iadd C dL_law_199 ?_
  refine gl_sld C hX hbl hbA dL_law_200 (fun n6 => ?_)
  refine gl_bool C dL_law_201 dL_law_204 dL_law_205 dL_law_208 ?_
  refine gl_ki (b := true) (σ := (u4, σm)) (gz_runV (b := true) (t := 0) (i := 0) (ci := 11) (q := (RX11, TX11, 63)) (As := [.int (xs n5), .int (gl_nz (xs n6))]) (rest := [.int r3]) (mc := 0) (ms := 0) (σ := σm) C dL_law_209 ml_RL_17 mw_X11_feast mv_X11_feast (c_X11_feast l G (xs n5) (gl_nz (xs n6)) σm) (gz_hm0 _) rfl rfl rfl rfl rfl (Nat.le_of_ble_eq_true rfl) ⟨rfl, rfl, Nat.le_of_ble_eq_true rfl, Nat.le_of_ble_eq_true rfl, show _ ≤ 601024 by omega, show _ ≤ 7293034 by omega⟩) (fun r7 u8 => ?_)
  refine gq_stq (σ' := (u4, u8)) rfl ?_
  refine gq_icmp_eq (tgt := 1331) C dL_law_212 (by decide) ?_ ?_
  · exact gq_wid (ce1 := ce + 1) (sl1 := sl + 60) (by omega) (by omega) (hk u4 u8)
  · exact gq_none

def f_lawC1 (xs : Nat → Int32) (L : Nat) (i : Int32) (k : gz_S → gz_S → Option Unit) (σx σm : gz_S) : Option Unit :=
  gz_ix (i + 1) L (fun n1 =>
  gz_call (f_X9_working (xs n1) σx) (fun r2 u3 =>
  gz_ix (i + 1) L (fun n4 =>
  gz_call (f_X11_working (xs n4) σm) (fun r5 u6 =>
  if r2 = r5 then k u3 u6 else none))))
set_option maxHeartbeats 4000000 in
set_option maxRecDepth 100000 in
theorem c_lawC1 {p : Program} {l : Launch} {e : Jvm.Env} {s : State} {m : MethodId} {args : Array Value} {below : List Frame} {meth : Method} {c : Code} {G : gz_G} {QQ : Unit → State → Prop} {bb L ce sl : Nat} {xs : Nat → Int32} {i : Int32} {k : gz_S → gz_S → Option Unit} (C : gz_X p s m meth c G code R_law 4 (some .boolean)) (hX : va_X bb L xs s s.heap) (hbl : bb < s.heap.size) (hbA : ¬ G.1 ≤ bb) (hce : ce + 1 ≤ 601024) (hsl : sl + 60 ≤ 7293034) (hk : ∀ u v, gq_W (gl_H G) (fun q => G.1 ≤ q) p l e room_1 s m args below meth c 4 QQ (ce + 1) (sl + 60) (u, v) 1331 [(0, .ref bb), (1, .ref (gz_ad false G 0 0)), (2, .ref (gz_ad true G 0 0)), (3, .int i)] [] (k u v)) (σx σm : gz_S) : gq_W (gl_H G) (fun q => G.1 ≤ q) p l e room_1 s m args below meth c 4 QQ ce sl (σx, σm) 217 [(0, .ref bb), (1, .ref (gz_ad false G 0 0)), (2, .ref (gz_ad true G 0 0)), (3, .int i)] [] (f_lawC1 xs L i k σx σm) := by
  unfold f_lawC1
  refine gq_aload_n C dL_law_217 1 rfl ?_
  refine gq_aload_n C dL_law_218 0 rfl ?_
  refine gq_iload_n C dL_law_219 3 rfl ?_
  refine gq_iconst C dL_law_220 gk_iconst_1 ?_
  refine gq_iadd C dL_law_221 ?_
  refine gl_sld C hX hbl hbA dL_law_222 (fun n1 => ?_)
  refine gl_ki (b := false) (σ := (σx, σm)) (gz_runV (b := false) (t := 0) (i := 0) (ci := 9) (q := (RX9, TX9, 11)) (As := [.int (xs n1)]) (rest := []) (mc := 0) (ms := 0) (σ := σx) C dL_law_223 ml_RL_18 mw_X9_working mv_X9_working (c_X9_working l G (xs n1) σx) (gz_hx0 _) rfl rfl rfl rfl rfl (Nat.le_of_ble_eq_true rfl) ⟨rfl, rfl, Nat.le_of_ble_eq_true rfl, Nat.le_of_ble_eq_true rfl, show _ ≤ 601024 by omega, show _ ≤ 7293034 by omega⟩) (fun r2 u3 => ?_)
  refine gq_stq (σ' := (u3, σm)) rfl ?_
  refine gq_aload_n C dL_law_226 2 rfl ?_
  refine gq_aload_n C dL_law_227 0 rfl ?_
  refine gq_iload_n C dL_law_228 3 rfl ?_
  refine gq_iconst C dL_law_229 gk_iconst_1 ?_
  refine gq_iadd C dL_law_230 ?_
  refine gl_sld C hX hbl hbA dL_law_231 (fun n4 => ?_)
  refine gl_ki (b := true) (σ := (u3, σm)) (gz_runV (b := true) (t := 0) (i := 0) (ci := 11) (q := (RX11, TX11, 63)) (As := [.int (xs n4)]) (rest := [.int r2]) (mc := 0) (ms := 0) (σ := σm) C dL_law_232 ml_RL_22 mw_X11_working mv_X11_working (c_X11_working l G (xs n4) σm) (gz_hm0 _) rfl rfl rfl rfl rfl (Nat.le_of_ble_eq_true rfl) ⟨rfl, rfl, Nat.le_of_ble_eq_true rfl, Nat.le_of_ble_eq_true rfl, show _ ≤ 601024 by omega, show _ ≤ 7293034 by omega⟩) (fun r5 u6 => ?_)
  refine gq_stq (σ' := (u3, u6)) rfl ?_
  refine gq_icmp_eq (tgt := 1331) C dL_law_235 (by decide) ?_ ?_
  · exact gq_wid (ce1 := ce + 1) (sl1 := sl + 60) (by omega) (by omega) (hk u3 u6)
  · exact gq_none

def f_lawC2 (xs : Nat → Int32) (L : Nat) (i : Int32) (k : gz_S → gz_S → Option Unit) (σx σm : gz_S) : Option Unit :=
  gz_ix (i + 1) L (fun n1 =>
  gz_ix (i + 2) L (fun n2 =>
  gz_ix (i + 3) L (fun n3 =>
  gz_call (f_X9_after (xs n1) (xs n2) (gl_nz (xs n3)) σx) (fun r4 u5 =>
  gz_ix (i + 1) L (fun n6 =>
  gz_ix (i + 2) L (fun n7 =>
  gz_ix (i + 3) L (fun n8 =>
  gz_call (f_X11_after (xs n6) (xs n7) (gl_nz (xs n8)) σm) (fun r9 u10 =>
  if r4 = r9 then k u5 u10 else none))))))))
set_option maxHeartbeats 4000000 in
set_option maxRecDepth 100000 in
theorem c_lawC2 {p : Program} {l : Launch} {e : Jvm.Env} {s : State} {m : MethodId} {args : Array Value} {below : List Frame} {meth : Method} {c : Code} {G : gz_G} {QQ : Unit → State → Prop} {bb L ce sl : Nat} {xs : Nat → Int32} {i : Int32} {k : gz_S → gz_S → Option Unit} (C : gz_X p s m meth c G code R_law 4 (some .boolean)) (hX : va_X bb L xs s s.heap) (hbl : bb < s.heap.size) (hbA : ¬ G.1 ≤ bb) (hce : ce + 1 ≤ 601024) (hsl : sl + 60 ≤ 7293034) (hk : ∀ u v, gq_W (gl_H G) (fun q => G.1 ≤ q) p l e room_1 s m args below meth c 4 QQ (ce + 1) (sl + 60) (u, v) 1331 [(0, .ref bb), (1, .ref (gz_ad false G 0 0)), (2, .ref (gz_ad true G 0 0)), (3, .int i)] [] (k u v)) (σx σm : gz_S) : gq_W (gl_H G) (fun q => G.1 ≤ q) p l e room_1 s m args below meth c 4 QQ ce sl (σx, σm) 240 [(0, .ref bb), (1, .ref (gz_ad false G 0 0)), (2, .ref (gz_ad true G 0 0)), (3, .int i)] [] (f_lawC2 xs L i k σx σm) := by
  unfold f_lawC2
  refine gq_aload_n C dL_law_240 1 rfl ?_
  refine gq_aload_n C dL_law_241 0 rfl ?_
  refine gq_iload_n C dL_law_242 3 rfl ?_
  refine gq_iconst C dL_law_243 gk_iconst_1 ?_
  refine gq_iadd C dL_law_244 ?_
  refine gl_sld C hX hbl hbA dL_law_245 (fun n1 => ?_)
  refine gq_aload_n C dL_law_246 0 rfl ?_
  refine gq_iload_n C dL_law_247 3 rfl ?_
  refine gq_iconst C dL_law_248 gk_iconst_2 ?_
  refine gq_iadd C dL_law_249 ?_
  refine gl_sld C hX hbl hbA dL_law_250 (fun n2 => ?_)
  refine gq_aload_n C dL_law_251 0 rfl ?_
  refine gq_iload_n C dL_law_252 3 rfl ?_
  refine gq_iconst C dL_law_253 gk_iconst_3 ?_
  refine gq_iadd C dL_law_254 ?_
  refine gl_sld C hX hbl hbA dL_law_255 (fun n3 => ?_)
  refine gl_bool C dL_law_256 dL_law_259 dL_law_260 dL_law_263 ?_
  refine gl_ki (b := false) (σ := (σx, σm)) (gz_runV (b := false) (t := 0) (i := 0) (ci := 9) (q := (RX9, TX9, 11)) (As := [.int (xs n1), .int (xs n2), .int (gl_nz (xs n3))]) (rest := []) (mc := 0) (ms := 0) (σ := σx) C dL_law_264 ml_RL_23 mw_X9_after mv_X9_after (c_X9_after l G (xs n1) (xs n2) (gl_nz (xs n3)) σx) (gz_hx0 _) rfl rfl rfl rfl rfl (Nat.le_of_ble_eq_true rfl) ⟨rfl, rfl, Nat.le_of_ble_eq_true rfl, Nat.le_of_ble_eq_true rfl, show _ ≤ 601024 by omega, show _ ≤ 7293034 by omega⟩) (fun r4 u5 => ?_)
  refine gq_stq (σ' := (u5, σm)) rfl ?_
  refine gq_aload_n C dL_law_267 2 rfl ?_
  refine gq_aload_n C dL_law_268 0 rfl ?_
  refine gq_iload_n C dL_law_269 3 rfl ?_
  refine gq_iconst C dL_law_270 gk_iconst_1 ?_
  refine gq_iadd C dL_law_271 ?_
  refine gl_sld C hX hbl hbA dL_law_272 (fun n6 => ?_)
  refine gq_aload_n C dL_law_273 0 rfl ?_
  refine gq_iload_n C dL_law_274 3 rfl ?_
  refine gq_iconst C dL_law_275 gk_iconst_2 ?_
  refine gq_iadd C dL_law_276 ?_
  refine gl_sld C hX hbl hbA dL_law_277 (fun n7 => ?_)
  refine gq_aload_n C dL_law_278 0 rfl ?_
  refine gq_iload_n C dL_law_279 3 rfl ?_
  refine gq_iconst C dL_law_280 gk_iconst_3 ?_
  refine gq_iadd C dL_law_281 ?_
  refine gl_sld C hX hbl hbA dL_law_282 (fun n8 => ?_)
  refine gl_bool C dL_law_283 dL_law_286 dL_law_287 dL_law_290 ?_
  refine gl_ki (b := true) (σ := (u5, σm)) (gz_runV (b := true) (t := 0) (i := 0) (ci := 11) (q := (RX11, TX11, 63)) (As := [.int (xs n6), .int (xs n7), .int (gl_nz (xs n8))]) (rest := [.int r4]) (mc := 0) (ms := 0) (σ := σm) C dL_law_291 ml_RL_27 mw_X11_after mv_X11_after (c_X11_after l G (xs n6) (xs n7) (gl_nz (xs n8)) σm) (gz_hm0 _) rfl rfl rfl rfl rfl (Nat.le_of_ble_eq_true rfl) ⟨rfl, rfl, Nat.le_of_ble_eq_true rfl, Nat.le_of_ble_eq_true rfl, show _ ≤ 601024 by omega, show _ ≤ 7293034 by omega⟩) (fun r9 u10 => ?_)
  refine gq_stq (σ' := (u5, u10)) rfl ?_
  refine gq_icmp_eq (tgt := 1331) C dL_law_294 (by decide) ?_ ?_
  · exact gq_wid (ce1 := ce + 1) (sl1 := sl + 60) (by omega) (by omega) (hk u5 u10)
  · exact gq_none

def f_lawC3 (xs : Nat → Int32) (L : Nat) (i : Int32) (k : gz_S → gz_S → Option Unit) (σx σm : gz_S) : Option Unit :=
  gz_ix (i + 1) L (fun n1 =>
  gz_ix (i + 2) L (fun n2 =>
  gz_ix (i + 3) L (fun n3 =>
  gz_ix (i + 4) L (fun n4 =>
  gz_ix (i + 5) L (fun n5 =>
  gz_call (f_X9_feed (xs n1) (xs n2) (xs n3) (xs n4) (xs n5) σx) (fun r6 u7 =>
  gz_ix (i + 1) L (fun n8 =>
  gz_ix (i + 2) L (fun n9 =>
  gz_ix (i + 3) L (fun n10 =>
  gz_ix (i + 4) L (fun n11 =>
  gz_ix (i + 5) L (fun n12 =>
  gz_call (f_X11_feed (xs n8) (xs n9) (xs n10) (xs n11) (xs n12) σm) (fun r13 u14 =>
  if r6 = r13 then k u7 u14 else none))))))))))))
set_option maxHeartbeats 4000000 in
set_option maxRecDepth 100000 in
theorem c_lawC3 {p : Program} {l : Launch} {e : Jvm.Env} {s : State} {m : MethodId} {args : Array Value} {below : List Frame} {meth : Method} {c : Code} {G : gz_G} {QQ : Unit → State → Prop} {bb L ce sl : Nat} {xs : Nat → Int32} {i : Int32} {k : gz_S → gz_S → Option Unit} (C : gz_X p s m meth c G code R_law 4 (some .boolean)) (hX : va_X bb L xs s s.heap) (hbl : bb < s.heap.size) (hbA : ¬ G.1 ≤ bb) (hce : ce + 1 ≤ 601024) (hsl : sl + 60 ≤ 7293034) (hk : ∀ u v, gq_W (gl_H G) (fun q => G.1 ≤ q) p l e room_1 s m args below meth c 4 QQ (ce + 1) (sl + 60) (u, v) 1331 [(0, .ref bb), (1, .ref (gz_ad false G 0 0)), (2, .ref (gz_ad true G 0 0)), (3, .int i)] [] (k u v)) (σx σm : gz_S) : gq_W (gl_H G) (fun q => G.1 ≤ q) p l e room_1 s m args below meth c 4 QQ ce sl (σx, σm) 299 [(0, .ref bb), (1, .ref (gz_ad false G 0 0)), (2, .ref (gz_ad true G 0 0)), (3, .int i)] [] (f_lawC3 xs L i k σx σm) := by
  unfold f_lawC3
  refine gq_aload_n C dL_law_299 1 rfl ?_
  refine gq_aload_n C dL_law_300 0 rfl ?_
  refine gq_iload_n C dL_law_301 3 rfl ?_
  refine gq_iconst C dL_law_302 gk_iconst_1 ?_
  refine gq_iadd C dL_law_303 ?_
  refine gl_sld C hX hbl hbA dL_law_304 (fun n1 => ?_)
  refine gq_aload_n C dL_law_305 0 rfl ?_
  refine gq_iload_n C dL_law_306 3 rfl ?_
  refine gq_iconst C dL_law_307 gk_iconst_2 ?_
  refine gq_iadd C dL_law_308 ?_
  refine gl_sld C hX hbl hbA dL_law_309 (fun n2 => ?_)
  refine gq_aload_n C dL_law_310 0 rfl ?_
  refine gq_iload_n C dL_law_311 3 rfl ?_
  refine gq_iconst C dL_law_312 gk_iconst_3 ?_
  refine gq_iadd C dL_law_313 ?_
  refine gl_sld C hX hbl hbA dL_law_314 (fun n3 => ?_)
  refine gq_aload_n C dL_law_315 0 rfl ?_
  refine gq_iload_n C dL_law_316 3 rfl ?_
  refine gq_iconst C dL_law_317 gk_iconst_4 ?_
  refine gq_iadd C dL_law_318 ?_
  refine gl_sld C hX hbl hbA dL_law_319 (fun n4 => ?_)
  refine gq_aload_n C dL_law_320 0 rfl ?_
  refine gq_iload_n C dL_law_321 3 rfl ?_
  refine gq_iconst C dL_law_322 gk_iconst_5 ?_
  refine gq_iadd C dL_law_323 ?_
  refine gl_sld C hX hbl hbA dL_law_324 (fun n5 => ?_)
  refine gl_ki (b := false) (σ := (σx, σm)) (gz_runV (b := false) (t := 0) (i := 0) (ci := 9) (q := (RX9, TX9, 11)) (As := [.int (xs n1), .int (xs n2), .int (xs n3), .int (xs n4), .int (xs n5)]) (rest := []) (mc := 0) (ms := 0) (σ := σx) C dL_law_325 ml_RL_28 mw_X9_feed mv_X9_feed (c_X9_feed l G (xs n1) (xs n2) (xs n3) (xs n4) (xs n5) σx) (gz_hx0 _) rfl rfl rfl rfl rfl (Nat.le_of_ble_eq_true rfl) ⟨rfl, rfl, Nat.le_of_ble_eq_true rfl, Nat.le_of_ble_eq_true rfl, show _ ≤ 601024 by omega, show _ ≤ 7293034 by omega⟩) (fun r6 u7 => ?_)
  refine gq_stq (σ' := (u7, σm)) rfl ?_
  refine gq_aload_n C dL_law_328 2 rfl ?_
  refine gq_aload_n C dL_law_329 0 rfl ?_
  refine gq_iload_n C dL_law_330 3 rfl ?_
  refine gq_iconst C dL_law_331 gk_iconst_1 ?_
  refine gq_iadd C dL_law_332 ?_
  refine gl_sld C hX hbl hbA dL_law_333 (fun n8 => ?_)
  refine gq_aload_n C dL_law_334 0 rfl ?_
  refine gq_iload_n C dL_law_335 3 rfl ?_
  refine gq_iconst C dL_law_336 gk_iconst_2 ?_
  refine gq_iadd C dL_law_337 ?_
  refine gl_sld C hX hbl hbA dL_law_338 (fun n9 => ?_)
  refine gq_aload_n C dL_law_339 0 rfl ?_
  refine gq_iload_n C dL_law_340 3 rfl ?_
  refine gq_iconst C dL_law_341 gk_iconst_3 ?_
  refine gq_iadd C dL_law_342 ?_
  refine gl_sld C hX hbl hbA dL_law_343 (fun n10 => ?_)
  refine gq_aload_n C dL_law_344 0 rfl ?_
  refine gq_iload_n C dL_law_345 3 rfl ?_
  refine gq_iconst C dL_law_346 gk_iconst_4 ?_
  refine gq_iadd C dL_law_347 ?_
  refine gl_sld C hX hbl hbA dL_law_348 (fun n11 => ?_)
  refine gq_aload_n C dL_law_349 0 rfl ?_
  refine gq_iload_n C dL_law_350 3 rfl ?_
  refine gq_iconst C dL_law_351 gk_iconst_5 ?_
  refine gq_iadd C dL_law_352 ?_
  refine gl_sld C hX hbl hbA dL_law_353 (fun n12 => ?_)
  refine gl_ki (b := true) (σ := (u7, σm)) (gz_runV (b := true) (t := 0) (i := 0) (ci := 11) (q := (RX11, TX11, 63)) (As := [.int (xs n8), .int (xs n9), .int (xs n10), .int (xs n11), .int (xs n12)]) (rest := [.int r6]) (mc := 0) (ms := 0) (σ := σm) C dL_law_354 ml_RL_32 mw_X11_feed mv_X11_feed (c_X11_feed l G (xs n8) (xs n9) (xs n10) (xs n11) (xs n12) σm) (gz_hm0 _) rfl rfl rfl rfl rfl (Nat.le_of_ble_eq_true rfl) ⟨rfl, rfl, Nat.le_of_ble_eq_true rfl, Nat.le_of_ble_eq_true rfl, show _ ≤ 601024 by omega, show _ ≤ 7293034 by omega⟩) (fun r13 u14 => ?_)
  refine gq_stq (σ' := (u7, u14)) rfl ?_
  refine gq_icmp_eq (tgt := 1331) C dL_law_357 (by decide) ?_ ?_
  · exact gq_wid (ce1 := ce + 1) (sl1 := sl + 60) (by omega) (by omega) (hk u7 u14)
  · exact gq_none

def f_lawC4 (xs : Nat → Int32) (L : Nat) (i : Int32) (k : gz_S → gz_S → Option Unit) (σx σm : gz_S) : Option Unit :=
  gz_ix (i + 1) L (fun n1 =>
  gz_call (f_X9_form (xs n1) σx) (fun r2 u3 =>
  gz_ix (i + 1) L (fun n4 =>
  gz_call (f_X11_form (xs n4) σm) (fun r5 u6 =>
  if r2 = r5 then k u3 u6 else none))))
set_option maxHeartbeats 4000000 in
set_option maxRecDepth 100000 in
theorem c_lawC4 {p : Program} {l : Launch} {e : Jvm.Env} {s : State} {m : MethodId} {args : Array Value} {below : List Frame} {meth : Method} {c : Code} {G : gz_G} {QQ : Unit → State → Prop} {bb L ce sl : Nat} {xs : Nat → Int32} {i : Int32} {k : gz_S → gz_S → Option Unit} (C : gz_X p s m meth c G code R_law 4 (some .boolean)) (hX : va_X bb L xs s s.heap) (hbl : bb < s.heap.size) (hbA : ¬ G.1 ≤ bb) (hce : ce + 1 ≤ 601024) (hsl : sl + 60 ≤ 7293034) (hk : ∀ u v, gq_W (gl_H G) (fun q => G.1 ≤ q) p l e room_1 s m args below meth c 4 QQ (ce + 1) (sl + 60) (u, v) 1331 [(0, .ref bb), (1, .ref (gz_ad false G 0 0)), (2, .ref (gz_ad true G 0 0)), (3, .int i)] [] (k u v)) (σx σm : gz_S) : gq_W (gl_H G) (fun q => G.1 ≤ q) p l e room_1 s m args below meth c 4 QQ ce sl (σx, σm) 362 [(0, .ref bb), (1, .ref (gz_ad false G 0 0)), (2, .ref (gz_ad true G 0 0)), (3, .int i)] [] (f_lawC4 xs L i k σx σm) := by
  unfold f_lawC4
  refine gq_aload_n C dL_law_362 1 rfl ?_
  refine gq_aload_n C dL_law_363 0 rfl ?_
  refine gq_iload_n C dL_law_364 3 rfl ?_
  refine gq_iconst C dL_law_365 gk_iconst_1 ?_
  refine gq_iadd C dL_law_366 ?_
  refine gl_sld C hX hbl hbA dL_law_367 (fun n1 => ?_)
  refine gl_ki (b := false) (σ := (σx, σm)) (gz_runV (b := false) (t := 0) (i := 0) (ci := 9) (q := (RX9, TX9, 11)) (As := [.int (xs n1)]) (rest := []) (mc := 0) (ms := 0) (σ := σx) C dL_law_368 ml_RL_33 mw_X9_form mv_X9_form (c_X9_form l G (xs n1) σx) (gz_hx0 _) rfl rfl rfl rfl rfl (Nat.le_of_ble_eq_true rfl) ⟨rfl, rfl, Nat.le_of_ble_eq_true rfl, Nat.le_of_ble_eq_true rfl, show _ ≤ 601024 by omega, show _ ≤ 7293034 by omega⟩) (fun r2 u3 => ?_)
  refine gq_stq (σ' := (u3, σm)) rfl ?_
  refine gq_aload_n C dL_law_371 2 rfl ?_
  refine gq_aload_n C dL_law_372 0 rfl ?_
  refine gq_iload_n C dL_law_373 3 rfl ?_
  refine gq_iconst C dL_law_374 gk_iconst_1 ?_
  refine gq_iadd C dL_law_375 ?_
  refine gl_sld C hX hbl hbA dL_law_376 (fun n4 => ?_)
  refine gl_kt (b := true) (σ := (u3, σm)) (gz_runVT (b := true) (t := 0) (i := 0) (ci := 11) (q := (RX11, TX11, 63)) (As := [.int (xs n4)]) (rest := [.int r2]) (mc := 0) (ms := 0) (σ := σm) C dL_law_377 ml_RL_36 mt_X11_form mv_X11_form (c_X11_form l G (xs n4) σm) (gz_hm0 _) rfl rfl rfl rfl rfl (Nat.le_of_ble_eq_true rfl) ⟨rfl, rfl, Nat.le_of_ble_eq_true rfl, Nat.le_of_ble_eq_true rfl, show _ ≤ 601024 by omega, show _ ≤ 7293034 by omega⟩) (fun r5 u6 => ?_)
  refine gq_stq (σ' := (u3, u6)) rfl ?_
  refine gq_icmp_eq (tgt := 1331) C dL_law_380 (by decide) ?_ ?_
  · exact gq_wid (ce1 := ce + 1) (sl1 := sl + 60) (by omega) (by omega) (hk u3 u6)
  · exact gq_none

def f_lawC5 (xs : Nat → Int32) (L : Nat) (i : Int32) (k : gz_S → gz_S → Option Unit) (σx σm : gz_S) : Option Unit :=
  gz_ix (i + 1) L (fun n1 =>
  gz_ix (i + 2) L (fun n2 =>
  gz_ix (i + 3) L (fun n3 =>
  gz_ix (i + 4) L (fun n4 =>
  gz_call (f_X9_notice (xs n1) (xs n2) (xs n3) (xs n4) σx) (fun r5 u6 =>
  gz_ix (i + 1) L (fun n7 =>
  gz_ix (i + 2) L (fun n8 =>
  gz_ix (i + 3) L (fun n9 =>
  gz_ix (i + 4) L (fun n10 =>
  gz_call (f_X11_notice (xs n7) (xs n8) (xs n9) (xs n10) σm) (fun r11 u12 =>
  if r5 = r11 then k u6 u12 else none))))))))))
set_option maxHeartbeats 4000000 in
set_option maxRecDepth 100000 in
theorem c_lawC5 {p : Program} {l : Launch} {e : Jvm.Env} {s : State} {m : MethodId} {args : Array Value} {below : List Frame} {meth : Method} {c : Code} {G : gz_G} {QQ : Unit → State → Prop} {bb L ce sl : Nat} {xs : Nat → Int32} {i : Int32} {k : gz_S → gz_S → Option Unit} (C : gz_X p s m meth c G code R_law 4 (some .boolean)) (hX : va_X bb L xs s s.heap) (hbl : bb < s.heap.size) (hbA : ¬ G.1 ≤ bb) (hce : ce + 1 ≤ 601024) (hsl : sl + 60 ≤ 7293034) (hk : ∀ u v, gq_W (gl_H G) (fun q => G.1 ≤ q) p l e room_1 s m args below meth c 4 QQ (ce + 1) (sl + 60) (u, v) 1331 [(0, .ref bb), (1, .ref (gz_ad false G 0 0)), (2, .ref (gz_ad true G 0 0)), (3, .int i)] [] (k u v)) (σx σm : gz_S) : gq_W (gl_H G) (fun q => G.1 ≤ q) p l e room_1 s m args below meth c 4 QQ ce sl (σx, σm) 385 [(0, .ref bb), (1, .ref (gz_ad false G 0 0)), (2, .ref (gz_ad true G 0 0)), (3, .int i)] [] (f_lawC5 xs L i k σx σm) := by
  unfold f_lawC5
  refine gq_aload_n C dL_law_385 1 rfl ?_
  refine gq_aload_n C dL_law_386 0 rfl ?_
  refine gq_iload_n C dL_law_387 3 rfl ?_
  refine gq_iconst C dL_law_388 gk_iconst_1 ?_
  refine gq_iadd C dL_law_389 ?_
  refine gl_sld C hX hbl hbA dL_law_390 (fun n1 => ?_)
  refine gq_aload_n C dL_law_391 0 rfl ?_
  refine gq_iload_n C dL_law_392 3 rfl ?_
  refine gq_iconst C dL_law_393 gk_iconst_2 ?_
  refine gq_iadd C dL_law_394 ?_
  refine gl_sld C hX hbl hbA dL_law_395 (fun n2 => ?_)
  refine gq_aload_n C dL_law_396 0 rfl ?_
  refine gq_iload_n C dL_law_397 3 rfl ?_
  refine gq_iconst C dL_law_398 gk_iconst_3 ?_
  refine gq_iadd C dL_law_399 ?_
  refine gl_sld C hX hbl hbA dL_law_400 (fun n3 => ?_)
  refine gq_aload_n C dL_law_401 0 rfl ?_
  refine gq_iload_n C dL_law_402 3 rfl ?_
  refine gq_iconst C dL_law_403 gk_iconst_4 ?_
  refine gq_iadd C dL_law_404 ?_
  refine gl_sld C hX hbl hbA dL_law_405 (fun n4 => ?_)
  refine gl_ki (b := false) (σ := (σx, σm)) (gz_runV (b := false) (t := 0) (i := 0) (ci := 9) (q := (RX9, TX9, 11)) (As := [.int (xs n1), .int (xs n2), .int (xs n3), .int (xs n4)]) (rest := []) (mc := 0) (ms := 0) (σ := σx) C dL_law_406 ml_RL_37 mw_X9_notice mv_X9_notice (c_X9_notice l G (xs n1) (xs n2) (xs n3) (xs n4) σx) (gz_hx0 _) rfl rfl rfl rfl rfl (Nat.le_of_ble_eq_true rfl) ⟨rfl, rfl, Nat.le_of_ble_eq_true rfl, Nat.le_of_ble_eq_true rfl, show _ ≤ 601024 by omega, show _ ≤ 7293034 by omega⟩) (fun r5 u6 => ?_)
  refine gq_stq (σ' := (u6, σm)) rfl ?_
  refine gq_aload_n C dL_law_409 2 rfl ?_
  refine gq_aload_n C dL_law_410 0 rfl ?_
  refine gq_iload_n C dL_law_411 3 rfl ?_
  refine gq_iconst C dL_law_412 gk_iconst_1 ?_
  refine gq_iadd C dL_law_413 ?_
  refine gl_sld C hX hbl hbA dL_law_414 (fun n7 => ?_)
  refine gq_aload_n C dL_law_415 0 rfl ?_
  refine gq_iload_n C dL_law_416 3 rfl ?_
  refine gq_iconst C dL_law_417 gk_iconst_2 ?_
  refine gq_iadd C dL_law_418 ?_
  refine gl_sld C hX hbl hbA dL_law_419 (fun n8 => ?_)
  refine gq_aload_n C dL_law_420 0 rfl ?_
  refine gq_iload_n C dL_law_421 3 rfl ?_
  refine gq_iconst C dL_law_422 gk_iconst_3 ?_
  refine gq_iadd C dL_law_423 ?_
  refine gl_sld C hX hbl hbA dL_law_424 (fun n9 => ?_)
  refine gq_aload_n C dL_law_425 0 rfl ?_
  refine gq_iload_n C dL_law_426 3 rfl ?_
  refine gq_iconst C dL_law_427 gk_iconst_4 ?_
  refine gq_iadd C dL_law_428 ?_
  refine gl_sld C hX hbl hbA dL_law_429 (fun n10 => ?_)
  refine gl_kt (b := true) (σ := (u6, σm)) (gz_runVT (b := true) (t := 0) (i := 0) (ci := 11) (q := (RX11, TX11, 63)) (As := [.int (xs n7), .int (xs n8), .int (xs n9), .int (xs n10)]) (rest := [.int r5]) (mc := 0) (ms := 0) (σ := σm) C dL_law_430 ml_RL_41 mt_X11_notice mv_X11_notice (c_X11_notice l G (xs n7) (xs n8) (xs n9) (xs n10) σm) (gz_hm0 _) rfl rfl rfl rfl rfl (Nat.le_of_ble_eq_true rfl) ⟨rfl, rfl, Nat.le_of_ble_eq_true rfl, Nat.le_of_ble_eq_true rfl, show _ ≤ 601024 by omega, show _ ≤ 7293034 by omega⟩) (fun r11 u12 => ?_)
  refine gq_stq (σ' := (u6, u12)) rfl ?_
  refine gq_icmp_eq (tgt := 1331) C dL_law_433 (by decide) ?_ ?_
  · exact gq_wid (ce1 := ce + 1) (sl1 := sl + 60) (by omega) (by omega) (hk u6 u12)
  · exact gq_none

def f_lawC6 (xs : Nat → Int32) (L : Nat) (i : Int32) (k : gz_S → gz_S → Option Unit) (σx σm : gz_S) : Option Unit :=
  gz_call (f_X9_fault σx) (fun r1 u2 =>
  gz_call (f_X11_fault σm) (fun r3 u4 =>
  if r1 = r3 then k u2 u4 else none))
set_option maxHeartbeats 4000000 in
set_option maxRecDepth 100000 in
theorem c_lawC6 {p : Program} {l : Launch} {e : Jvm.Env} {s : State} {m : MethodId} {args : Array Value} {below : List Frame} {meth : Method} {c : Code} {G : gz_G} {QQ : Unit → State → Prop} {bb L ce sl : Nat} {xs : Nat → Int32} {i : Int32} {k : gz_S → gz_S → Option Unit} (C : gz_X p s m meth c G code R_law 4 (some .boolean)) (hX : va_X bb L xs s s.heap) (hbl : bb < s.heap.size) (hbA : ¬ G.1 ≤ bb) (hce : ce + 1 ≤ 601024) (hsl : sl + 60 ≤ 7293034) (hk : ∀ u v, gq_W (gl_H G) (fun q => G.1 ≤ q) p l e room_1 s m args below meth c 4 QQ (ce + 1) (sl + 60) (u, v) 1331 [(0, .ref bb), (1, .ref (gz_ad false G 0 0)), (2, .ref (gz_ad true G 0 0)), (3, .int i)] [] (k u v)) (σx σm : gz_S) : gq_W (gl_H G) (fun q => G.1 ≤ q) p l e room_1 s m args below meth c 4 QQ ce sl (σx, σm) 438 [(0, .ref bb), (1, .ref (gz_ad false G 0 0)), (2, .ref (gz_ad true G 0 0)), (3, .int i)] [] (f_lawC6 xs L i k σx σm) := by
  unfold f_lawC6
  refine gq_aload_n C dL_law_438 1 rfl ?_
  refine gl_ki (b := false) (σ := (σx, σm)) (gz_runV (b := false) (t := 0) (i := 0) (ci := 9) (q := (RX9, TX9, 11)) (As := []) (rest := []) (mc := 0) (ms := 0) (σ := σx) C dL_law_439 ml_RL_42 mw_X9_fault mv_X9_fault (c_X9_fault l G σx) (gz_hx0 _) rfl rfl rfl rfl rfl (Nat.le_of_ble_eq_true rfl) ⟨rfl, rfl, Nat.le_of_ble_eq_true rfl, Nat.le_of_ble_eq_true rfl, show _ ≤ 601024 by omega, show _ ≤ 7293034 by omega⟩) (fun r1 u2 => ?_)
  refine gq_stq (σ' := (u2, σm)) rfl ?_
  refine gq_aload_n C dL_law_442 2 rfl ?_
  refine gl_ki (b := true) (σ := (u2, σm)) (gz_runV (b := true) (t := 0) (i := 0) (ci := 11) (q := (RX11, TX11, 63)) (As := []) (rest := [.int r1]) (mc := 0) (ms := 0) (σ := σm) C dL_law_443 ml_RL_46 mw_X11_fault mv_X11_fault (c_X11_fault l G σm) (gz_hm0 _) rfl rfl rfl rfl rfl (Nat.le_of_ble_eq_true rfl) ⟨rfl, rfl, Nat.le_of_ble_eq_true rfl, Nat.le_of_ble_eq_true rfl, show _ ≤ 601024 by omega, show _ ≤ 7293034 by omega⟩) (fun r3 u4 => ?_)
  refine gq_stq (σ' := (u2, u4)) rfl ?_
  refine gq_icmp_eq (tgt := 1331) C dL_law_446 (by decide) ?_ ?_
  · exact gq_wid (ce1 := ce + 1) (sl1 := sl + 60) (by omega) (by omega) (hk u2 u4)
  · exact gq_none

def f_lawC7 (xs : Nat → Int32) (L : Nat) (i : Int32) (k : gz_S → gz_S → Option Unit) (σx σm : gz_S) : Option Unit :=
  gz_call (f_X9_where σx) (fun r1 u2 =>
  gz_call (f_X11_where σm) (fun r3 u4 =>
  if r1 = r3 then k u2 u4 else none))
set_option maxHeartbeats 4000000 in
set_option maxRecDepth 100000 in
theorem c_lawC7 {p : Program} {l : Launch} {e : Jvm.Env} {s : State} {m : MethodId} {args : Array Value} {below : List Frame} {meth : Method} {c : Code} {G : gz_G} {QQ : Unit → State → Prop} {bb L ce sl : Nat} {xs : Nat → Int32} {i : Int32} {k : gz_S → gz_S → Option Unit} (C : gz_X p s m meth c G code R_law 4 (some .boolean)) (hX : va_X bb L xs s s.heap) (hbl : bb < s.heap.size) (hbA : ¬ G.1 ≤ bb) (hce : ce + 1 ≤ 601024) (hsl : sl + 60 ≤ 7293034) (hk : ∀ u v, gq_W (gl_H G) (fun q => G.1 ≤ q) p l e room_1 s m args below meth c 4 QQ (ce + 1) (sl + 60) (u, v) 1331 [(0, .ref bb), (1, .ref (gz_ad false G 0 0)), (2, .ref (gz_ad true G 0 0)), (3, .int i)] [] (k u v)) (σx σm : gz_S) : gq_W (gl_H G) (fun q => G.1 ≤ q) p l e room_1 s m args below meth c 4 QQ ce sl (σx, σm) 451 [(0, .ref bb), (1, .ref (gz_ad false G 0 0)), (2, .ref (gz_ad true G 0 0)), (3, .int i)] [] (f_lawC7 xs L i k σx σm) := by
  unfold f_lawC7
  refine gq_aload_n C dL_law_451 1 rfl ?_
  refine gl_ki (b := false) (σ := (σx, σm)) (gz_runV (b := false) (t := 0) (i := 0) (ci := 9) (q := (RX9, TX9, 11)) (As := []) (rest := []) (mc := 0) (ms := 0) (σ := σx) C dL_law_452 ml_RL_47 mw_X9_where mv_X9_where (c_X9_where l G σx) (gz_hx0 _) rfl rfl rfl rfl rfl (Nat.le_of_ble_eq_true rfl) ⟨rfl, rfl, Nat.le_of_ble_eq_true rfl, Nat.le_of_ble_eq_true rfl, show _ ≤ 601024 by omega, show _ ≤ 7293034 by omega⟩) (fun r1 u2 => ?_)
  refine gq_stq (σ' := (u2, σm)) rfl ?_
  refine gq_aload_n C dL_law_455 2 rfl ?_
  refine gl_ki (b := true) (σ := (u2, σm)) (gz_runV (b := true) (t := 0) (i := 0) (ci := 11) (q := (RX11, TX11, 63)) (As := []) (rest := [.int r1]) (mc := 0) (ms := 0) (σ := σm) C dL_law_456 ml_RL_50 mw_X11_where mv_X11_where (c_X11_where l G σm) (gz_hm0 _) rfl rfl rfl rfl rfl (Nat.le_of_ble_eq_true rfl) ⟨rfl, rfl, Nat.le_of_ble_eq_true rfl, Nat.le_of_ble_eq_true rfl, show _ ≤ 601024 by omega, show _ ≤ 7293034 by omega⟩) (fun r3 u4 => ?_)
  refine gq_stq (σ' := (u2, u4)) rfl ?_
  refine gq_icmp_eq (tgt := 1331) C dL_law_459 (by decide) ?_ ?_
  · exact gq_wid (ce1 := ce + 1) (sl1 := sl + 60) (by omega) (by omega) (hk u2 u4)
  · exact gq_none

def f_lawC8 (xs : Nat → Int32) (L : Nat) (i : Int32) (k : gz_S → gz_S → Option Unit) (σx σm : gz_S) : Option Unit :=
  gz_call (f_X9_lacks σx) (fun r1 u2 =>
  gz_call (f_X11_lacks σm) (fun r3 u4 =>
  if r1 = r3 then k u2 u4 else none))
set_option maxHeartbeats 4000000 in
set_option maxRecDepth 100000 in
theorem c_lawC8 {p : Program} {l : Launch} {e : Jvm.Env} {s : State} {m : MethodId} {args : Array Value} {below : List Frame} {meth : Method} {c : Code} {G : gz_G} {QQ : Unit → State → Prop} {bb L ce sl : Nat} {xs : Nat → Int32} {i : Int32} {k : gz_S → gz_S → Option Unit} (C : gz_X p s m meth c G code R_law 4 (some .boolean)) (hX : va_X bb L xs s s.heap) (hbl : bb < s.heap.size) (hbA : ¬ G.1 ≤ bb) (hce : ce + 1 ≤ 601024) (hsl : sl + 60 ≤ 7293034) (hk : ∀ u v, gq_W (gl_H G) (fun q => G.1 ≤ q) p l e room_1 s m args below meth c 4 QQ (ce + 1) (sl + 60) (u, v) 1331 [(0, .ref bb), (1, .ref (gz_ad false G 0 0)), (2, .ref (gz_ad true G 0 0)), (3, .int i)] [] (k u v)) (σx σm : gz_S) : gq_W (gl_H G) (fun q => G.1 ≤ q) p l e room_1 s m args below meth c 4 QQ ce sl (σx, σm) 464 [(0, .ref bb), (1, .ref (gz_ad false G 0 0)), (2, .ref (gz_ad true G 0 0)), (3, .int i)] [] (f_lawC8 xs L i k σx σm) := by
  unfold f_lawC8
  refine gq_aload_n C dL_law_464 1 rfl ?_
  refine gl_ki (b := false) (σ := (σx, σm)) (gz_runV (b := false) (t := 0) (i := 0) (ci := 9) (q := (RX9, TX9, 11)) (As := []) (rest := []) (mc := 0) (ms := 0) (σ := σx) C dL_law_465 ml_RL_51 mw_X9_lacks mv_X9_lacks (c_X9_lacks l G σx) (gz_hx0 _) rfl rfl rfl rfl rfl (Nat.le_of_ble_eq_true rfl) ⟨rfl, rfl, Nat.le_of_ble_eq_true rfl, Nat.le_of_ble_eq_true rfl, show _ ≤ 601024 by omega, show _ ≤ 7293034 by omega⟩) (fun r1 u2 => ?_)
  refine gq_stq (σ' := (u2, σm)) rfl ?_
  refine gq_aload_n C dL_law_468 2 rfl ?_
  refine gl_ki (b := true) (σ := (u2, σm)) (gz_runV (b := true) (t := 0) (i := 0) (ci := 11) (q := (RX11, TX11, 63)) (As := []) (rest := [.int r1]) (mc := 0) (ms := 0) (σ := σm) C dL_law_469 ml_RL_54 mw_X11_lacks mv_X11_lacks (c_X11_lacks l G σm) (gz_hm0 _) rfl rfl rfl rfl rfl (Nat.le_of_ble_eq_true rfl) ⟨rfl, rfl, Nat.le_of_ble_eq_true rfl, Nat.le_of_ble_eq_true rfl, show _ ≤ 601024 by omega, show _ ≤ 7293034 by omega⟩) (fun r3 u4 => ?_)
  refine gq_stq (σ' := (u2, u4)) rfl ?_
  refine gq_icmp_eq (tgt := 1331) C dL_law_472 (by decide) ?_ ?_
  · exact gq_wid (ce1 := ce + 1) (sl1 := sl + 60) (by omega) (by omega) (hk u2 u4)
  · exact gq_none

def f_lawC9 (xs : Nat → Int32) (L : Nat) (i : Int32) (k : gz_S → gz_S → Option Unit) (σx σm : gz_S) : Option Unit :=
  gz_ix (i + 1) L (fun n1 =>
  gz_ix (i + 2) L (fun n2 =>
  gz_ix (i + 3) L (fun n3 =>
  gz_call (f_X9_field (xs n1) (xs n2) (xs n3) σx) (fun r4 u5 =>
  gz_ix (i + 1) L (fun n6 =>
  gz_ix (i + 2) L (fun n7 =>
  gz_ix (i + 3) L (fun n8 =>
  gz_call (f_X11_field (xs n6) (xs n7) (xs n8) σm) (fun r9 u10 =>
  if r4 = r9 then k u5 u10 else none))))))))
set_option maxHeartbeats 4000000 in
set_option maxRecDepth 100000 in
theorem c_lawC9 {p : Program} {l : Launch} {e : Jvm.Env} {s : State} {m : MethodId} {args : Array Value} {below : List Frame} {meth : Method} {c : Code} {G : gz_G} {QQ : Unit → State → Prop} {bb L ce sl : Nat} {xs : Nat → Int32} {i : Int32} {k : gz_S → gz_S → Option Unit} (C : gz_X p s m meth c G code R_law 4 (some .boolean)) (hX : va_X bb L xs s s.heap) (hbl : bb < s.heap.size) (hbA : ¬ G.1 ≤ bb) (hce : ce + 1 ≤ 601024) (hsl : sl + 60 ≤ 7293034) (hk : ∀ u v, gq_W (gl_H G) (fun q => G.1 ≤ q) p l e room_1 s m args below meth c 4 QQ (ce + 1) (sl + 60) (u, v) 1331 [(0, .ref bb), (1, .ref (gz_ad false G 0 0)), (2, .ref (gz_ad true G 0 0)), (3, .int i)] [] (k u v)) (σx σm : gz_S) : gq_W (gl_H G) (fun q => G.1 ≤ q) p l e room_1 s m args below meth c 4 QQ ce sl (σx, σm) 477 [(0, .ref bb), (1, .ref (gz_ad false G 0 0)), (2, .ref (gz_ad true G 0 0)), (3, .int i)] [] (f_lawC9 xs L i k σx σm) := by
  unfold f_lawC9
  refine gq_aload_n C dL_law_477 1 rfl ?_
  refine gq_aload_n C dL_law_478 0 rfl ?_
  refine gq_iload_n C dL_law_479 3 rfl ?_
  refine gq_iconst C dL_law_480 gk_iconst_1 ?_
  refine gq_iadd C dL_law_481 ?_
  refine gl_sld C hX hbl hbA dL_law_482 (fun n1 => ?_)
  refine gq_aload_n C dL_law_483 0 rfl ?_
  refine gq_iload_n C dL_law_484 3 rfl ?_
  refine gq_iconst C dL_law_485 gk_iconst_2 ?_
  refine gq_iadd C dL_law_486 ?_
  refine gl_sld C hX hbl hbA dL_law_487 (fun n2 => ?_)
  refine gq_aload_n C dL_law_488 0 rfl ?_
  refine gq_iload_n C dL_law_489 3 rfl ?_
  refine gq_iconst C dL_law_490 gk_iconst_3 ?_
  refine gq_iadd C dL_law_491 ?_
  refine gl_sld C hX hbl hbA dL_law_492 (fun n3 => ?_)
  refine gl_ki (b := false) (σ := (σx, σm)) (gz_runV (b := false) (t := 0) (i := 0) (ci := 9) (q := (RX9, TX9, 11)) (As := [.int (xs n1), .int (xs n2), .int (xs n3)]) (rest := []) (mc := 0) (ms := 0) (σ := σx) C dL_law_493 ml_RL_55 mw_X9_field mv_X9_field (c_X9_field l G (xs n1) (xs n2) (xs n3) σx) (gz_hx0 _) rfl rfl rfl rfl rfl (Nat.le_of_ble_eq_true rfl) ⟨rfl, rfl, Nat.le_of_ble_eq_true rfl, Nat.le_of_ble_eq_true rfl, show _ ≤ 601024 by omega, show _ ≤ 7293034 by omega⟩) (fun r4 u5 => ?_)
  refine gq_stq (σ' := (u5, σm)) rfl ?_
  refine gq_aload_n C dL_law_496 2 rfl ?_
  refine gq_aload_n C dL_law_497 0 rfl ?_
  refine gq_iload_n C dL_law_498 3 rfl ?_
  refine gq_iconst C dL_law_499 gk_iconst_1 ?_
  refine gq_iadd C dL_law_500 ?_
  refine gl_sld C hX hbl hbA dL_law_501 (fun n6 => ?_)
  refine gq_aload_n C dL_law_502 0 rfl ?_
  refine gq_iload_n C dL_law_503 3 rfl ?_
  refine gq_iconst C dL_law_504 gk_iconst_2 ?_
  refine gq_iadd C dL_law_505 ?_
  refine gl_sld C hX hbl hbA dL_law_506 (fun n7 => ?_)
  refine gq_aload_n C dL_law_507 0 rfl ?_
  refine gq_iload_n C dL_law_508 3 rfl ?_
  refine gq_iconst C dL_law_509 gk_iconst_3 ?_
  refine gq_iadd C dL_law_510 ?_
  refine gl_sld C hX hbl hbA dL_law_511 (fun n8 => ?_)
  refine gl_ki (b := true) (σ := (u5, σm)) (gz_runV (b := true) (t := 0) (i := 0) (ci := 11) (q := (RX11, TX11, 63)) (As := [.int (xs n6), .int (xs n7), .int (xs n8)]) (rest := [.int r4]) (mc := 0) (ms := 0) (σ := σm) C dL_law_512 ml_RL_59 mw_X11_field mv_X11_field (c_X11_field l G (xs n6) (xs n7) (xs n8) σm) (gz_hm0 _) rfl rfl rfl rfl rfl (Nat.le_of_ble_eq_true rfl) ⟨rfl, rfl, Nat.le_of_ble_eq_true rfl, Nat.le_of_ble_eq_true rfl, show _ ≤ 601024 by omega, show _ ≤ 7293034 by omega⟩) (fun r9 u10 => ?_)
  refine gq_stq (σ' := (u5, u10)) rfl ?_
  refine gq_icmp_eq (tgt := 1331) C dL_law_515 (by decide) ?_ ?_
  · exact gq_wid (ce1 := ce + 1) (sl1 := sl + 60) (by omega) (by omega) (hk u5 u10)
  · exact gq_none

def f_lawC10 (xs : Nat → Int32) (L : Nat) (i : Int32) (k : gz_S → gz_S → Option Unit) (σx σm : gz_S) : Option Unit :=
  gz_ix (i + 1) L (fun n1 =>
  gz_call (f_X9_fields (xs n1) σx) (fun r2 u3 =>
  gz_ix (i + 1) L (fun n4 =>
  gz_call (f_X11_fields (xs n4) σm) (fun r5 u6 =>
  if r2 = r5 then k u3 u6 else none))))
set_option maxHeartbeats 4000000 in
set_option maxRecDepth 100000 in
theorem c_lawC10 {p : Program} {l : Launch} {e : Jvm.Env} {s : State} {m : MethodId} {args : Array Value} {below : List Frame} {meth : Method} {c : Code} {G : gz_G} {QQ : Unit → State → Prop} {bb L ce sl : Nat} {xs : Nat → Int32} {i : Int32} {k : gz_S → gz_S → Option Unit} (C : gz_X p s m meth c G code R_law 4 (some .boolean)) (hX : va_X bb L xs s s.heap) (hbl : bb < s.heap.size) (hbA : ¬ G.1 ≤ bb) (hce : ce + 1 ≤ 601024) (hsl : sl + 60 ≤ 7293034) (hk : ∀ u v, gq_W (gl_H G) (fun q => G.1 ≤ q) p l e room_1 s m args below meth c 4 QQ (ce + 1) (sl + 60) (u, v) 1331 [(0, .ref bb), (1, .ref (gz_ad false G 0 0)), (2, .ref (gz_ad true G 0 0)), (3, .int i)] [] (k u v)) (σx σm : gz_S) : gq_W (gl_H G) (fun q => G.1 ≤ q) p l e room_1 s m args below meth c 4 QQ ce sl (σx, σm) 520 [(0, .ref bb), (1, .ref (gz_ad false G 0 0)), (2, .ref (gz_ad true G 0 0)), (3, .int i)] [] (f_lawC10 xs L i k σx σm) := by
  unfold f_lawC10
  refine gq_aload_n C dL_law_520 1 rfl ?_
  refine gq_aload_n C dL_law_521 0 rfl ?_
  refine gq_iload_n C dL_law_522 3 rfl ?_
  refine gq_iconst C dL_law_523 gk_iconst_1 ?_
  refine gq_iadd C dL_law_524 ?_
  refine gl_sld C hX hbl hbA dL_law_525 (fun n1 => ?_)
  refine gl_ki (b := false) (σ := (σx, σm)) (gz_runV (b := false) (t := 0) (i := 0) (ci := 9) (q := (RX9, TX9, 11)) (As := [.int (xs n1)]) (rest := []) (mc := 0) (ms := 0) (σ := σx) C dL_law_526 ml_RL_60 mw_X9_fields mv_X9_fields (c_X9_fields l G (xs n1) σx) (gz_hx0 _) rfl rfl rfl rfl rfl (Nat.le_of_ble_eq_true rfl) ⟨rfl, rfl, Nat.le_of_ble_eq_true rfl, Nat.le_of_ble_eq_true rfl, show _ ≤ 601024 by omega, show _ ≤ 7293034 by omega⟩) (fun r2 u3 => ?_)
  refine gq_stq (σ' := (u3, σm)) rfl ?_
  refine gq_aload_n C dL_law_529 2 rfl ?_
  refine gq_aload_n C dL_law_530 0 rfl ?_
  refine gq_iload_n C dL_law_531 3 rfl ?_
  refine gq_iconst C dL_law_532 gk_iconst_1 ?_
  refine gq_iadd C dL_law_533 ?_
  refine gl_sld C hX hbl hbA dL_law_534 (fun n4 => ?_)
  refine gl_ki (b := true) (σ := (u3, σm)) (gz_runV (b := true) (t := 0) (i := 0) (ci := 11) (q := (RX11, TX11, 63)) (As := [.int (xs n4)]) (rest := [.int r2]) (mc := 0) (ms := 0) (σ := σm) C dL_law_535 ml_RL_63 mw_X11_fields mv_X11_fields (c_X11_fields l G (xs n4) σm) (gz_hm0 _) rfl rfl rfl rfl rfl (Nat.le_of_ble_eq_true rfl) ⟨rfl, rfl, Nat.le_of_ble_eq_true rfl, Nat.le_of_ble_eq_true rfl, show _ ≤ 601024 by omega, show _ ≤ 7293034 by omega⟩) (fun r5 u6 => ?_)
  refine gq_stq (σ' := (u3, u6)) rfl ?_
  refine gq_icmp_eq (tgt := 1331) C dL_law_538 (by decide) ?_ ?_
  · exact gq_wid (ce1 := ce + 1) (sl1 := sl + 60) (by omega) (by omega) (hk u3 u6)
  · exact gq_none

def f_lawC11 (xs : Nat → Int32) (L : Nat) (i : Int32) (k : gz_S → gz_S → Option Unit) (σx σm : gz_S) : Option Unit :=
  gz_ix (i + 1) L (fun n1 =>
  gz_ix (i + 2) L (fun n2 =>
  gz_call (f_X9_value (xs n1) (xs n2) σx) (fun r3 u4 =>
  gz_ix (i + 1) L (fun n5 =>
  gz_ix (i + 2) L (fun n6 =>
  gz_call (f_X11_value (xs n5) (xs n6) σm) (fun r7 u8 =>
  if (lg_cmp r3 r7) = 0 then k u4 u8 else none))))))
set_option maxHeartbeats 4000000 in
set_option maxRecDepth 100000 in
theorem c_lawC11 {p : Program} {l : Launch} {e : Jvm.Env} {s : State} {m : MethodId} {args : Array Value} {below : List Frame} {meth : Method} {c : Code} {G : gz_G} {QQ : Unit → State → Prop} {bb L ce sl : Nat} {xs : Nat → Int32} {i : Int32} {k : gz_S → gz_S → Option Unit} (C : gz_X p s m meth c G code R_law 4 (some .boolean)) (hX : va_X bb L xs s s.heap) (hbl : bb < s.heap.size) (hbA : ¬ G.1 ≤ bb) (hce : ce + 1 ≤ 601024) (hsl : sl + 60 ≤ 7293034) (hk : ∀ u v, gq_W (gl_H G) (fun q => G.1 ≤ q) p l e room_1 s m args below meth c 4 QQ (ce + 1) (sl + 60) (u, v) 1331 [(0, .ref bb), (1, .ref (gz_ad false G 0 0)), (2, .ref (gz_ad true G 0 0)), (3, .int i)] [] (k u v)) (σx σm : gz_S) : gq_W (gl_H G) (fun q => G.1 ≤ q) p l e room_1 s m args below meth c 4 QQ ce sl (σx, σm) 543 [(0, .ref bb), (1, .ref (gz_ad false G 0 0)), (2, .ref (gz_ad true G 0 0)), (3, .int i)] [] (f_lawC11 xs L i k σx σm) := by
  unfold f_lawC11
  refine gq_aload_n C dL_law_543 1 rfl ?_
  refine gq_aload_n C dL_law_544 0 rfl ?_
  refine gq_iload_n C dL_law_545 3 rfl ?_
  refine gq_iconst C dL_law_546 gk_iconst_1 ?_
  refine gq_iadd C dL_law_547 ?_
  refine gl_sld C hX hbl hbA dL_law_548 (fun n1 => ?_)
  refine gq_aload_n C dL_law_549 0 rfl ?_
  refine gq_iload_n C dL_law_550 3 rfl ?_
  refine gq_iconst C dL_law_551 gk_iconst_2 ?_
  refine gq_iadd C dL_law_552 ?_
  refine gl_sld C hX hbl hbA dL_law_553 (fun n2 => ?_)
  refine gl_kl (b := false) (σ := (σx, σm)) (gz_runV (b := false) (t := 0) (i := 0) (ci := 9) (q := (RX9, TX9, 11)) (As := [.int (xs n1), .int (xs n2)]) (rest := []) (mc := 0) (ms := 0) (σ := σx) C dL_law_554 ml_RL_64 mw_X9_value mv_X9_value (c_X9_value l G (xs n1) (xs n2) σx) (gz_hx0 _) rfl rfl rfl rfl rfl (Nat.le_of_ble_eq_true rfl) ⟨rfl, rfl, Nat.le_of_ble_eq_true rfl, Nat.le_of_ble_eq_true rfl, show _ ≤ 601024 by omega, show _ ≤ 7293034 by omega⟩) (fun r3 u4 => ?_)
  refine gq_stq (σ' := (u4, σm)) rfl ?_
  refine gq_aload_n C dL_law_557 2 rfl ?_
  refine gq_aload_n C dL_law_558 0 rfl ?_
  refine gq_iload_n C dL_law_559 3 rfl ?_
  refine gq_iconst C dL_law_560 gk_iconst_1 ?_
  refine gq_iadd C dL_law_561 ?_
  refine gl_sld C hX hbl hbA dL_law_562 (fun n5 => ?_)
  refine gq_aload_n C dL_law_563 0 rfl ?_
  refine gq_iload_n C dL_law_564 3 rfl ?_
  refine gq_iconst C dL_law_565 gk_iconst_2 ?_
  refine gq_iadd C dL_law_566 ?_
  refine gl_sld C hX hbl hbA dL_law_567 (fun n6 => ?_)
  refine gl_kl (b := true) (σ := (u4, σm)) (gz_runV (b := true) (t := 0) (i := 0) (ci := 11) (q := (RX11, TX11, 63)) (As := [.int (xs n5), .int (xs n6)]) (rest := [.long r3]) (mc := 0) (ms := 0) (σ := σm) C dL_law_568 ml_RL_68 mw_X11_value mv_X11_value (c_X11_value l G (xs n5) (xs n6) σm) (gz_hm0 _) rfl rfl rfl rfl rfl (Nat.le_of_ble_eq_true rfl) ⟨rfl, rfl, Nat.le_of_ble_eq_true rfl, Nat.le_of_ble_eq_true rfl, show _ ≤ 601024 by omega, show _ ≤ 7293034 by omega⟩) (fun r7 u8 => ?_)
  refine gq_stq (σ' := (u4, u8)) rfl ?_
  refine gq_lcmp C dL_law_571 ?_
  refine gq_if_eq (tgt := 1331) C dL_law_572 (by decide) ?_ ?_
  · exact gq_wid (ce1 := ce + 1) (sl1 := sl + 60) (by omega) (by omega) (hk u4 u8)
  · exact gq_none

def f_lawC12 (xs : Nat → Int32) (L : Nat) (i : Int32) (k : gz_S → gz_S → Option Unit) (σx σm : gz_S) : Option Unit :=
  gz_ix (i + 1) L (fun n1 =>
  gz_ix (i + 2) L (fun n2 =>
  gz_call (f_X9_about (xs n1) (xs n2) σx) (fun r3 u4 =>
  gz_ix (i + 1) L (fun n5 =>
  gz_ix (i + 2) L (fun n6 =>
  gz_call (f_X11_about (xs n5) (xs n6) σm) (fun r7 u8 =>
  if r3 = r7 then k u4 u8 else none))))))
set_option maxHeartbeats 4000000 in
set_option maxRecDepth 100000 in
theorem c_lawC12 {p : Program} {l : Launch} {e : Jvm.Env} {s : State} {m : MethodId} {args : Array Value} {below : List Frame} {meth : Method} {c : Code} {G : gz_G} {QQ : Unit → State → Prop} {bb L ce sl : Nat} {xs : Nat → Int32} {i : Int32} {k : gz_S → gz_S → Option Unit} (C : gz_X p s m meth c G code R_law 4 (some .boolean)) (hX : va_X bb L xs s s.heap) (hbl : bb < s.heap.size) (hbA : ¬ G.1 ≤ bb) (hce : ce + 1 ≤ 601024) (hsl : sl + 60 ≤ 7293034) (hk : ∀ u v, gq_W (gl_H G) (fun q => G.1 ≤ q) p l e room_1 s m args below meth c 4 QQ (ce + 1) (sl + 60) (u, v) 1331 [(0, .ref bb), (1, .ref (gz_ad false G 0 0)), (2, .ref (gz_ad true G 0 0)), (3, .int i)] [] (k u v)) (σx σm : gz_S) : gq_W (gl_H G) (fun q => G.1 ≤ q) p l e room_1 s m args below meth c 4 QQ ce sl (σx, σm) 577 [(0, .ref bb), (1, .ref (gz_ad false G 0 0)), (2, .ref (gz_ad true G 0 0)), (3, .int i)] [] (f_lawC12 xs L i k σx σm) := by
  unfold f_lawC12
  refine gq_aload_n C dL_law_577 1 rfl ?_
  refine gq_aload_n C dL_law_578 0 rfl ?_
  refine gq_iload_n C dL_law_579 3 rfl ?_
  refine gq_iconst C dL_law_580 gk_iconst_1 ?_
  refine gq_iadd C dL_law_581 ?_
  refine gl_sld C hX hbl hbA dL_law_582 (fun n1 => ?_)
  refine gq_aload_n C dL_law_583 0 rfl ?_
  refine gq_iload_n C dL_law_584 3 rfl ?_
  refine gq_iconst C dL_law_585 gk_iconst_2 ?_
  refine gq_iadd C dL_law_586 ?_
  refine gl_sld C hX hbl hbA dL_law_587 (fun n2 => ?_)
  refine gl_ki (b := false) (σ := (σx, σm)) (gz_runV (b := false) (t := 0) (i := 0) (ci := 9) (q := (RX9, TX9, 11)) (As := [.int (xs n1), .int (xs n2)]) (rest := []) (mc := 0) (ms := 0) (σ := σx) C dL_law_588 ml_RL_69 mw_X9_about mv_X9_about (c_X9_about l G (xs n1) (xs n2) σx) (gz_hx0 _) rfl rfl rfl rfl rfl (Nat.le_of_ble_eq_true rfl) ⟨rfl, rfl, Nat.le_of_ble_eq_true rfl, Nat.le_of_ble_eq_true rfl, show _ ≤ 601024 by omega, show _ ≤ 7293034 by omega⟩) (fun r3 u4 => ?_)
  refine gq_stq (σ' := (u4, σm)) rfl ?_
  refine gq_aload_n C dL_law_591 2 rfl ?_
  refine gq_aload_n C dL_law_592 0 rfl ?_
  refine gq_iload_n C dL_law_593 3 rfl ?_
  refine gq_iconst C dL_law_594 gk_iconst_1 ?_
  refine gq_iadd C dL_law_595 ?_
  refine gl_sld C hX hbl hbA dL_law_596 (fun n5 => ?_)
  refine gq_aload_n C dL_law_597 0 rfl ?_
  refine gq_iload_n C dL_law_598 3 rfl ?_
  refine gq_iconst C dL_law_599 gk_iconst_2 ?_
  refine gq_iadd C dL_law_600 ?_
  refine gl_sld C hX hbl hbA dL_law_601 (fun n6 => ?_)
  refine gl_ki (b := true) (σ := (u4, σm)) (gz_runV (b := true) (t := 0) (i := 0) (ci := 11) (q := (RX11, TX11, 63)) (As := [.int (xs n5), .int (xs n6)]) (rest := [.int r3]) (mc := 0) (ms := 0) (σ := σm) C dL_law_602 ml_RL_73 mw_X11_about mv_X11_about (c_X11_about l G (xs n5) (xs n6) σm) (gz_hm0 _) rfl rfl rfl rfl rfl (Nat.le_of_ble_eq_true rfl) ⟨rfl, rfl, Nat.le_of_ble_eq_true rfl, Nat.le_of_ble_eq_true rfl, show _ ≤ 601024 by omega, show _ ≤ 7293034 by omega⟩) (fun r7 u8 => ?_)
  refine gq_stq (σ' := (u4, u8)) rfl ?_
  refine gq_icmp_eq (tgt := 1331) C dL_law_605 (by decide) ?_ ?_
  · exact gq_wid (ce1 := ce + 1) (sl1 := sl + 60) (by omega) (by omega) (hk u4 u8)
  · exact gq_none

def f_lawC13 (xs : Nat → Int32) (L : Nat) (i : Int32) (k : gz_S → gz_S → Option Unit) (σx σm : gz_S) : Option Unit :=
  gz_ix (i + 1) L (fun n1 =>
  gz_ix (i + 2) L (fun n2 =>
  gz_ix (i + 3) L (fun n3 =>
  gz_ix (i + 4) L (fun n4 =>
  gz_call (f_X9_says (xs n1) (xs n2) (xs n3) (xs n4) σx) (fun r5 u6 =>
  gz_ix (i + 1) L (fun n7 =>
  gz_ix (i + 2) L (fun n8 =>
  gz_ix (i + 3) L (fun n9 =>
  gz_ix (i + 4) L (fun n10 =>
  gz_call (f_X11_says (xs n7) (xs n8) (xs n9) (xs n10) σm) (fun r11 u12 =>
  if r5 = r11 then k u6 u12 else none))))))))))
set_option maxHeartbeats 4000000 in
set_option maxRecDepth 100000 in
theorem c_lawC13 {p : Program} {l : Launch} {e : Jvm.Env} {s : State} {m : MethodId} {args : Array Value} {below : List Frame} {meth : Method} {c : Code} {G : gz_G} {QQ : Unit → State → Prop} {bb L ce sl : Nat} {xs : Nat → Int32} {i : Int32} {k : gz_S → gz_S → Option Unit} (C : gz_X p s m meth c G code R_law 4 (some .boolean)) (hX : va_X bb L xs s s.heap) (hbl : bb < s.heap.size) (hbA : ¬ G.1 ≤ bb) (hce : ce + 1 ≤ 601024) (hsl : sl + 60 ≤ 7293034) (hk : ∀ u v, gq_W (gl_H G) (fun q => G.1 ≤ q) p l e room_1 s m args below meth c 4 QQ (ce + 1) (sl + 60) (u, v) 1331 [(0, .ref bb), (1, .ref (gz_ad false G 0 0)), (2, .ref (gz_ad true G 0 0)), (3, .int i)] [] (k u v)) (σx σm : gz_S) : gq_W (gl_H G) (fun q => G.1 ≤ q) p l e room_1 s m args below meth c 4 QQ ce sl (σx, σm) 610 [(0, .ref bb), (1, .ref (gz_ad false G 0 0)), (2, .ref (gz_ad true G 0 0)), (3, .int i)] [] (f_lawC13 xs L i k σx σm) := by
  unfold f_lawC13
  refine gq_aload_n C dL_law_610 1 rfl ?_
  refine gq_aload_n C dL_law_611 0 rfl ?_
  refine gq_iload_n C dL_law_612 3 rfl ?_
  refine gq_iconst C dL_law_613 gk_iconst_1 ?_
  refine gq_iadd C dL_law_614 ?_
  refine gl_sld C hX hbl hbA dL_law_615 (fun n1 => ?_)
  refine gq_aload_n C dL_law_616 0 rfl ?_
  refine gq_iload_n C dL_law_617 3 rfl ?_
  refine gq_iconst C dL_law_618 gk_iconst_2 ?_
  refine gq_iadd C dL_law_619 ?_
  refine gl_sld C hX hbl hbA dL_law_620 (fun n2 => ?_)
  refine gq_aload_n C dL_law_621 0 rfl ?_
  refine gq_iload_n C dL_law_622 3 rfl ?_
  refine gq_iconst C dL_law_623 gk_iconst_3 ?_
  refine gq_iadd C dL_law_624 ?_
  refine gl_sld C hX hbl hbA dL_law_625 (fun n3 => ?_)
  refine gq_aload_n C dL_law_626 0 rfl ?_
  refine gq_iload_n C dL_law_627 3 rfl ?_
  refine gq_iconst C dL_law_628 gk_iconst_4 ?_
  refine gq_iadd C dL_law_629 ?_
  refine gl_sld C hX hbl hbA dL_law_630 (fun n4 => ?_)
  refine gl_ki (b := false) (σ := (σx, σm)) (gz_runV (b := false) (t := 0) (i := 0) (ci := 9) (q := (RX9, TX9, 11)) (As := [.int (xs n1), .int (xs n2), .int (xs n3), .int (xs n4)]) (rest := []) (mc := 0) (ms := 0) (σ := σx) C dL_law_631 ml_RL_74 mw_X9_says mv_X9_says (c_X9_says l G (xs n1) (xs n2) (xs n3) (xs n4) σx) (gz_hx0 _) rfl rfl rfl rfl rfl (Nat.le_of_ble_eq_true rfl) ⟨rfl, rfl, Nat.le_of_ble_eq_true rfl, Nat.le_of_ble_eq_true rfl, show _ ≤ 601024 by omega, show _ ≤ 7293034 by omega⟩) (fun r5 u6 => ?_)
  refine gq_stq (σ' := (u6, σm)) rfl ?_
  refine gq_aload_n C dL_law_634 2 rfl ?_
  refine gq_aload_n C dL_law_635 0 rfl ?_
  refine gq_iload_n C dL_law_636 3 rfl ?_
  refine gq_iconst C dL_law_637 gk_iconst_1 ?_
  refine gq_iadd C dL_law_638 ?_
  refine gl_sld C hX hbl hbA dL_law_639 (fun n7 => ?_)
  refine gq_aload_n C dL_law_640 0 rfl ?_
  refine gq_iload_n C dL_law_641 3 rfl ?_
  refine gq_iconst C dL_law_642 gk_iconst_2 ?_
  refine gq_iadd C dL_law_643 ?_
  refine gl_sld C hX hbl hbA dL_law_644 (fun n8 => ?_)
  refine gq_aload_n C dL_law_645 0 rfl ?_
  refine gq_iload_n C dL_law_646 3 rfl ?_
  refine gq_iconst C dL_law_647 gk_iconst_3 ?_
  refine gq_iadd C dL_law_648 ?_
  refine gl_sld C hX hbl hbA dL_law_649 (fun n9 => ?_)
  refine gq_aload_n C dL_law_650 0 rfl ?_
  refine gq_iload_n C dL_law_651 3 rfl ?_
  refine gq_iconst C dL_law_652 gk_iconst_4 ?_
  refine gq_iadd C dL_law_653 ?_
  refine gl_sld C hX hbl hbA dL_law_654 (fun n10 => ?_)
  refine gl_ki (b := true) (σ := (u6, σm)) (gz_runV (b := true) (t := 0) (i := 0) (ci := 11) (q := (RX11, TX11, 63)) (As := [.int (xs n7), .int (xs n8), .int (xs n9), .int (xs n10)]) (rest := [.int r5]) (mc := 0) (ms := 0) (σ := σm) C dL_law_655 ml_RL_77 mw_X11_says mv_X11_says (c_X11_says l G (xs n7) (xs n8) (xs n9) (xs n10) σm) (gz_hm0 _) rfl rfl rfl rfl rfl (Nat.le_of_ble_eq_true rfl) ⟨rfl, rfl, Nat.le_of_ble_eq_true rfl, Nat.le_of_ble_eq_true rfl, show _ ≤ 601024 by omega, show _ ≤ 7293034 by omega⟩) (fun r11 u12 => ?_)
  refine gq_stq (σ' := (u6, u12)) rfl ?_
  refine gq_icmp_eq (tgt := 1331) C dL_law_658 (by decide) ?_ ?_
  · exact gq_wid (ce1 := ce + 1) (sl1 := sl + 60) (by omega) (by omega) (hk u6 u12)
  · exact gq_none

def f_lawC14 (xs : Nat → Int32) (L : Nat) (i : Int32) (k : gz_S → gz_S → Option Unit) (σx σm : gz_S) : Option Unit :=
  gz_ix (i + 1) L (fun n1 =>
  gz_ix (i + 2) L (fun n2 =>
  gz_call (f_X9_corrects (xs n1) (xs n2) σx) (fun r3 u4 =>
  gz_ix (i + 1) L (fun n5 =>
  gz_ix (i + 2) L (fun n6 =>
  gz_call (f_X11_corrects (xs n5) (xs n6) σm) (fun r7 u8 =>
  if r3 = r7 then k u4 u8 else none))))))
set_option maxHeartbeats 4000000 in
set_option maxRecDepth 100000 in
theorem c_lawC14 {p : Program} {l : Launch} {e : Jvm.Env} {s : State} {m : MethodId} {args : Array Value} {below : List Frame} {meth : Method} {c : Code} {G : gz_G} {QQ : Unit → State → Prop} {bb L ce sl : Nat} {xs : Nat → Int32} {i : Int32} {k : gz_S → gz_S → Option Unit} (C : gz_X p s m meth c G code R_law 4 (some .boolean)) (hX : va_X bb L xs s s.heap) (hbl : bb < s.heap.size) (hbA : ¬ G.1 ≤ bb) (hce : ce + 1 ≤ 601024) (hsl : sl + 60 ≤ 7293034) (hk : ∀ u v, gq_W (gl_H G) (fun q => G.1 ≤ q) p l e room_1 s m args below meth c 4 QQ (ce + 1) (sl + 60) (u, v) 1331 [(0, .ref bb), (1, .ref (gz_ad false G 0 0)), (2, .ref (gz_ad true G 0 0)), (3, .int i)] [] (k u v)) (σx σm : gz_S) : gq_W (gl_H G) (fun q => G.1 ≤ q) p l e room_1 s m args below meth c 4 QQ ce sl (σx, σm) 663 [(0, .ref bb), (1, .ref (gz_ad false G 0 0)), (2, .ref (gz_ad true G 0 0)), (3, .int i)] [] (f_lawC14 xs L i k σx σm) := by
  unfold f_lawC14
  refine gq_aload_n C dL_law_663 1 rfl ?_
  refine gq_aload_n C dL_law_664 0 rfl ?_
  refine gq_iload_n C dL_law_665 3 rfl ?_
  refine gq_iconst C dL_law_666 gk_iconst_1 ?_
  refine gq_iadd C dL_law_667 ?_
  refine gl_sld C hX hbl hbA dL_law_668 (fun n1 => ?_)
  refine gq_aload_n C dL_law_669 0 rfl ?_
  refine gq_iload_n C dL_law_670 3 rfl ?_
  refine gq_iconst C dL_law_671 gk_iconst_2 ?_
  refine gq_iadd C dL_law_672 ?_
  refine gl_sld C hX hbl hbA dL_law_673 (fun n2 => ?_)
  refine gl_ki (b := false) (σ := (σx, σm)) (gz_runV (b := false) (t := 0) (i := 0) (ci := 9) (q := (RX9, TX9, 11)) (As := [.int (xs n1), .int (xs n2)]) (rest := []) (mc := 0) (ms := 0) (σ := σx) C dL_law_674 ml_RL_78 mw_X9_corrects mv_X9_corrects (c_X9_corrects l G (xs n1) (xs n2) σx) (gz_hx0 _) rfl rfl rfl rfl rfl (Nat.le_of_ble_eq_true rfl) ⟨rfl, rfl, Nat.le_of_ble_eq_true rfl, Nat.le_of_ble_eq_true rfl, show _ ≤ 601024 by omega, show _ ≤ 7293034 by omega⟩) (fun r3 u4 => ?_)
  refine gq_stq (σ' := (u4, σm)) rfl ?_
  refine gq_aload_n C dL_law_677 2 rfl ?_
  refine gq_aload_n C dL_law_678 0 rfl ?_
  refine gq_iload_n C dL_law_679 3 rfl ?_
  refine gq_iconst C dL_law_680 gk_iconst_1 ?_
  refine gq_iadd C dL_law_681 ?_
  refine gl_sld C hX hbl hbA dL_law_682 (fun n5 => ?_)
  refine gq_aload_n C dL_law_683 0 rfl ?_
  refine gq_iload_n C dL_law_684 3 rfl ?_
  refine gq_iconst C dL_law_685 gk_iconst_2 ?_
  refine gq_iadd C dL_law_686 ?_
  refine gl_sld C hX hbl hbA dL_law_687 (fun n6 => ?_)
  refine gl_ki (b := true) (σ := (u4, σm)) (gz_runV (b := true) (t := 0) (i := 0) (ci := 11) (q := (RX11, TX11, 63)) (As := [.int (xs n5), .int (xs n6)]) (rest := [.int r3]) (mc := 0) (ms := 0) (σ := σm) C dL_law_688 ml_RL_82 mw_X11_corrects mv_X11_corrects (c_X11_corrects l G (xs n5) (xs n6) σm) (gz_hm0 _) rfl rfl rfl rfl rfl (Nat.le_of_ble_eq_true rfl) ⟨rfl, rfl, Nat.le_of_ble_eq_true rfl, Nat.le_of_ble_eq_true rfl, show _ ≤ 601024 by omega, show _ ≤ 7293034 by omega⟩) (fun r7 u8 => ?_)
  refine gq_stq (σ' := (u4, u8)) rfl ?_
  refine gq_icmp_eq (tgt := 1331) C dL_law_691 (by decide) ?_ ?_
  · exact gq_wid (ce1 := ce + 1) (sl1 := sl + 60) (by omega) (by omega) (hk u4 u8)
  · exact gq_none
