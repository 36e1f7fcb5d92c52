theorem gz_uws {ws : List Cond} {ps : List Nat} (h : ws = ps.filterMap (fun i => tables_1[i]?)) (ha : ws.all gz_okw = true) : ∀ w ∈ ws, w ∈ lw_tbl ∧ gz_okw w = true := by
  intro w hw
  refine ⟨?_, List.all_eq_true.mp ha w hw⟩
  rw [h] at hw
  obtain ⟨i, -, hi⟩ := List.mem_filterMap.mp hw
  exact gz_in i hi
theorem gz_u0 : u_ws RX0 TX0 10 = ([344, 346, 348, 350, 352, 354, 356, 358, 360, 362] : List Nat).filterMap (fun i => tables_1[i]?) := by decide +kernel
theorem gz_u1 : u_ws RX1 TX1 6 = ([248, 250, 252, 254, 256, 258] : List Nat).filterMap (fun i => tables_1[i]?) := by decide +kernel
theorem gz_u2 : u_ws RX2 TX2 2 = ([39, 41] : List Nat).filterMap (fun i => tables_1[i]?) := by decide +kernel
theorem gz_u3 : u_ws RX3 TX3 7 = ([128, 130, 132, 134, 136, 138, 140] : List Nat).filterMap (fun i => tables_1[i]?) := by decide +kernel
theorem gz_u4 : u_ws RX4 TX4 2 = ([149, 151] : List Nat).filterMap (fun i => tables_1[i]?) := by decide +kernel
theorem gz_u5 : u_ws RX5 TX5 6 = ([280, 282, 284, 286, 288, 290] : List Nat).filterMap (fun i => tables_1[i]?) := by decide +kernel
theorem gz_u6 : u_ws RX6 TX6 15 = ([207, 209, 211, 213, 215, 217, 219, 221, 223, 225, 227, 229, 231, 233, 235] : List Nat).filterMap (fun i => tables_1[i]?) := by decide +kernel
theorem gz_u7 : u_ws RX7 TX7 7 = ([308, 310, 312, 314, 316, 318, 320] : List Nat).filterMap (fun i => tables_1[i]?) := by decide +kernel
theorem gz_u8 : u_ws RX8 TX8 11 = ([72, 74, 76, 78, 80, 82, 84, 86, 88, 90, 92] : List Nat).filterMap (fun i => tables_1[i]?) := by decide +kernel
theorem gz_u9 : u_ws RX9 TX9 11 = ([376, 378, 380, 382, 384, 386, 388, 390, 392, 394, 396] : List Nat).filterMap (fun i => tables_1[i]?) := by decide +kernel
theorem gz_u10 : u_ws RX10 TX10 8 = ([877, 879, 881, 883, 885, 932, 924, 926] : List Nat).filterMap (fun i => tables_1[i]?) := by decide +kernel
theorem gz_u11 : u_ws RX11 TX11 63 = ([1000, 1002, 1004, 1006, 1008, 1010, 1012, 1014, 1016, 1018, 1020, 1022, 1024, 1026, 1028, 1030, 1032, 1034, 1036, 1038, 1040, 1042, 1044, 1046, 1048, 1050, 1052, 1054, 1056, 1058, 1060, 1062, 1064, 1066, 1068, 1070, 1072, 1074, 1076, 1078, 1080, 1082, 1084, 1086, 1088, 1090, 1092, 1094, 1096, 1098, 1100, 1102, 1104, 1106, 1108, 1110, 1112, 1114, 1116, 1118, 1120, 1122, 1124] : List Nat).filterMap (fun i => tables_1[i]?) := by decide +kernel
theorem gz_cls : ∀ (ci : Nat) (q : vw_C), vwCl[ci]? = some q → (∀ w ∈ u_ws q.1 q.2.1 q.2.2, w ∈ lw_tbl ∧ gz_okw w = true) ∧ (∀ k, k < q.2.2 → parseFieldDescriptor (q.2.1 k).2.2.1 = some (gz_tyc ci k)) ∧ (∀ a, a < q.2.2 → ∀ b, b < q.2.2 → a ≠ b → (q.2.1 a).2.1 ≠ (q.2.1 b).2.1) := by
  intro ci q hq
  match ci, hq with
  | 0, hq => cases hq; exact ⟨gz_uws gz_u0 (by decide +kernel), tyX0_ok, nmX0⟩
  | 1, hq => cases hq; exact ⟨gz_uws gz_u1 (by decide +kernel), tyX1_ok, nmX1⟩
  | 2, hq => cases hq; exact ⟨gz_uws gz_u2 (by decide +kernel), tyX2_ok, nmX2⟩
  | 3, hq => cases hq; exact ⟨gz_uws gz_u3 (by decide +kernel), tyX3_ok, nmX3⟩
  | 4, hq => cases hq; exact ⟨gz_uws gz_u4 (by decide +kernel), tyX4_ok, nmX4⟩
  | 5, hq => cases hq; exact ⟨gz_uws gz_u5 (by decide +kernel), tyX5_ok, nmX5⟩
  | 6, hq => cases hq; exact ⟨gz_uws gz_u6 (by decide +kernel), tyX6_ok, nmX6⟩
  | 7, hq => cases hq; exact ⟨gz_uws gz_u7 (by decide +kernel), tyX7_ok, nmX7⟩
  | 8, hq => cases hq; exact ⟨gz_uws gz_u8 (by decide +kernel), tyX8_ok, nmX8⟩
  | 9, hq => cases hq; exact ⟨gz_uws gz_u9 (by decide +kernel), tyX9_ok, nmX9⟩
  | 10, hq => cases hq; exact ⟨gz_uws gz_u10 (by decide +kernel), tyX10_ok, nmX10⟩
  | 11, hq => cases hq; exact ⟨gz_uws gz_u11 (by decide +kernel), tyX11_ok, nmX11⟩
  | k + 12, hq => simp [vwCl] at hq
