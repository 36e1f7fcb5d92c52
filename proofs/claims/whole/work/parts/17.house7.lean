def f_X9_value (a1 : Int32) (a2 : Int32) (σ : gz_S) : Option (Int64 × gz_S) :=
  gz_call (f_X1_at a1 σ) (fun r2 σ1 =>
  gz_nl r2 61 (some ((-1), σ1)) (fun i3 =>
  gz_call (f_X9_formAt (σ1.1 14 i3 0) σ1) (fun r5 σ4 =>
  gz_nl r5 13 (some ((-1), σ4)) (fun i6 =>
  if a2 < 0 then
  (some ((-1), σ4))
  else
  (if a2 < (σ4.1 6 i6 1) then
  (gz_call (f_X6_waits i3 σ4) (fun r8 σ7 =>
  if r8 = 0 then
  (gz_ix a2 8 (fun n9 =>
  some (σ7.2.1 15 i3 n9, σ7)))
  else
  (gz_then (f_X4_reckon i6 i3 σ7) (fun σ10 =>
  gz_ix a2 8 (fun n11 =>
  some (σ10.2.1 15 i3 n11, σ10))))))
  else
  (some ((-1), σ4)))))))
set_option maxHeartbeats 4000000 in
set_option maxRecDepth 100000 in
theorem c_X9_value (l : Launch) (G : gz_G) (a1 : Int32) (a2 : Int32) (σ : gz_S) : ∀ o, f_X9_value a1 a2 σ = some o → gz_M l false G yX9_value cX9_value 5 (some .long) { frames := 5, cells := 0, slots := 0, locals := 115 } [.ref (gz_ad false G 0 0), .int a1, .int a2] σ (gz_el o) 0 0 := by
  refine gz_enter RX9 rfl (by decide) (Nat.le_of_ble_eq_true rfl) ?_
  intro p e s m args below meth c C
  refine gz_eqs (st' := []) (lv' := [(0, .ref (gz_ad false G 0 0)), (1, .int a1), (2, .int a2)]) rfl rfl ?_
  unfold f_X9_value
  refine gz_aload_n C dX9_value_0 0 rfl ?_
  refine gz_get C (t := 0) (k := 4) (ci := 9) (q := (RX9, TX9, 11)) (v := .ref (gz_ad false G 10 0)) dX9_value_1 fl_RX9_35 (gz_hx0 _) rfl rfl (by decide) rfl ?_
  refine gz_iload_n C dX9_value_4 1 rfl ?_
  refine gz_kr (t := 14) (gz_runV (t := 10) (ci := 1) (q := (RX1, TX1, 6)) (As := [.int a1]) (rest := []) C dX9_value_5 ml_RX9_183 mw_X1_at mv_X1_at (c_X1_at l G a1 σ) (gz_hx10 _) rfl rfl rfl rfl rfl (Nat.le_of_ble_eq_true rfl) ⟨rfl, rfl, Nat.le_of_ble_eq_true rfl, Nat.le_of_ble_eq_true rfl, Nat.le_of_ble_eq_true rfl, Nat.le_of_ble_eq_true rfl⟩) (fun r2 σ1 => ?_)
  refine gz_astoreV_n C (lv' := [(3, gz_rv false G 14 r2), (0, .ref (gz_ad false G 0 0)), (1, .int a1), (2, .int a2)]) dX9_value_8 (by decide) rfl (gz_rv_or _ _ _ _) ?_
  refine gz_aloadV_n C dX9_value_9 0 rfl (gz_rv_or _ _ _ _) ?_
  refine gz_ifnonnull (tgt := 17) C dX9_value_10 (by decide) (fun hr => ?_) (fun i3 hi3 hr => ?_)
  · subst hr
    refine gz_eqs (st' := []) (lv' := [(3, .null), (0, .ref (gz_ad false G 0 0)), (1, .int a1), (2, .int a2)]) rfl rfl ?_
    refine gz_ldc2 C dX9_value_13 cw_RX9_187 ?_
    exact gz_lret C rfl dX9_value_16
  · subst hr
    refine gz_eqs (st' := []) (lv' := [(3, .ref (gz_ad false G 14 i3)), (0, .ref (gz_ad false G 0 0)), (1, .int a1), (2, .int a2)]) rfl rfl ?_
    refine gz_aload_n C dX9_value_17 1 rfl ?_
    refine gz_aload_n C dX9_value_18 0 rfl ?_
    refine gz_getN C (t := 14) (k := 0) (ci := 6) (q := (RX6, TX6, 15)) (v := .int (σ1.1 14 i3 0)) dX9_value_19 fl_RX9_189 (gz_hx14 _ hi3) rfl rfl (by decide) rfl ?_
    refine gz_kr (t := 6) (gz_runV (t := 0) (ci := 9) (q := (RX9, TX9, 11)) (As := [.int (σ1.1 14 i3 0)]) (rest := []) C dX9_value_22 ml_RX9_123 mw_X9_formAt mv_X9_formAt (c_X9_formAt l G (σ1.1 14 i3 0) σ1) (gz_hx0 _) rfl rfl rfl rfl rfl (Nat.le_of_ble_eq_true rfl) ⟨rfl, rfl, Nat.le_of_ble_eq_true rfl, Nat.le_of_ble_eq_true rfl, Nat.le_of_ble_eq_true rfl, Nat.le_of_ble_eq_true rfl⟩) (fun r5 σ4 => ?_)
    refine gz_astoreV C (lv' := [(4, gz_rv false G 6 r5), (3, .ref (gz_ad false G 14 i3)), (0, .ref (gz_ad false G 0 0)), (1, .int a1), (2, .int a2)]) dX9_value_25 (by decide) rfl (gz_rv_or _ _ _ _) ?_
    refine gz_aloadV C dX9_value_27 0 rfl (gz_rv_or _ _ _ _) ?_
    refine gz_ifnull (tgt := 45) C dX9_value_29 (by decide) (fun hr => ?_) (fun i6 hi6 hr => ?_)
    · subst hr
      refine gz_eqs (st' := []) (lv' := [(4, .null), (3, .ref (gz_ad false G 14 i3)), (0, .ref (gz_ad false G 0 0)), (1, .int a1), (2, .int a2)]) rfl rfl ?_
      refine gz_ldc2 C dX9_value_45 cw_RX9_187 ?_
      exact gz_lret C rfl dX9_value_48
    · subst hr
      refine gz_eqs (st' := []) (lv' := [(4, .ref (gz_ad false G 6 i6)), (3, .ref (gz_ad false G 14 i3)), (0, .ref (gz_ad false G 0 0)), (1, .int a1), (2, .int a2)]) rfl rfl ?_
      refine gz_iload_n C dX9_value_32 4 rfl ?_
      refine gz_if_lt (tgt := 45) C dX9_value_33 (by decide) ?_ ?_
      · skip
        refine gz_ldc2 C dX9_value_45 cw_RX9_187 ?_
        exact gz_lret C rfl dX9_value_48
      · skip
        refine gz_iload_n C dX9_value_36 4 rfl ?_
        refine gz_aload C dX9_value_37 0 rfl ?_
        refine gz_getN C (t := 6) (k := 1) (ci := 4) (q := (RX4, TX4, 2)) (v := .int (σ4.1 6 i6 1)) dX9_value_39 fl_RX9_160 (gz_hx6 _ hi6) rfl rfl (by decide) rfl ?_
        refine gz_icmp_lt (tgt := 49) C dX9_value_42 (by decide) ?_ ?_
        · skip
          refine gz_aload_n C dX9_value_49 1 rfl ?_
          refine gz_ki (gz_runV (t := 14) (ci := 6) (q := (RX6, TX6, 15)) (As := []) (rest := []) C dX9_value_50 ml_RX9_192 mw_X6_waits mv_X6_waits (c_X6_waits l G i3 hi3 σ4) (gz_hx14 _ hi3) rfl rfl rfl rfl rfl (Nat.le_of_ble_eq_true rfl) ⟨rfl, rfl, Nat.le_of_ble_eq_true rfl, Nat.le_of_ble_eq_true rfl, Nat.le_of_ble_eq_true rfl, Nat.le_of_ble_eq_true rfl⟩) (fun r8 σ7 => ?_)
          refine gz_if_eq (tgt := 69) C dX9_value_53 (by decide) ?_ ?_
          · skip
            refine gz_aload_n C dX9_value_69 1 rfl ?_
            refine gz_getN C (t := 14) (k := 5) (ci := 6) (q := (RX6, TX6, 15)) (v := .ref (gz_ad false G 15 i3)) dX9_value_70 fl_RX9_137 (gz_hx14 _ hi3) rfl rfl (by decide) rfl ?_
            refine gz_iload_n C dX9_value_73 4 rfl ?_
            refine gz_lald C (t := 15) dX9_value_74 (gz_hx15 _ hi3) rfl (fun n9 hn9 => ?_)
            exact gz_lret C rfl dX9_value_75
          · skip
            refine gz_aload C dX9_value_56 0 rfl ?_
            refine gz_aload_n C dX9_value_58 1 rfl ?_
            refine gz_getN C (t := 14) (k := 5) (ci := 6) (q := (RX6, TX6, 15)) (v := .ref (gz_ad false G 15 i3)) dX9_value_59 fl_RX9_137 (gz_hx14 _ hi3) rfl rfl (by decide) rfl ?_
            refine gz_aload_n C dX9_value_62 2 rfl ?_
            refine gz_get C (t := 0) (k := 0) (ci := 9) (q := (RX9, TX9, 11)) (v := .ref (gz_ad false G 1 0)) dX9_value_63 fl_RX9_12 (gz_hx0 _) rfl rfl (by decide) rfl ?_
            refine gz_kv (gz_runV (t := 6) (ci := 4) (q := (RX4, TX4, 2)) (As := [.ref (gz_ad false G 15 i3), .ref (gz_ad false G 1 0)]) (rest := []) C dX9_value_66 ml_RX9_195 mw_X4_reckon mv_X4_reckon (c_X4_reckon l G i6 i3 hi6 hi3 σ7) (gz_hx6 _ hi6) rfl rfl rfl rfl rfl (Nat.le_of_ble_eq_true rfl) ⟨rfl, rfl, Nat.le_of_ble_eq_true rfl, Nat.le_of_ble_eq_true rfl, Nat.le_of_ble_eq_true rfl, Nat.le_of_ble_eq_true rfl⟩) (fun σ10 => ?_)
            refine gz_aload_n C dX9_value_69 1 rfl ?_
            refine gz_getN C (t := 14) (k := 5) (ci := 6) (q := (RX6, TX6, 15)) (v := .ref (gz_ad false G 15 i3)) dX9_value_70 fl_RX9_137 (gz_hx14 _ hi3) rfl rfl (by decide) rfl ?_
            refine gz_iload_n C dX9_value_73 4 rfl ?_
            refine gz_lald C (t := 15) dX9_value_74 (gz_hx15 _ hi3) rfl (fun n11 hn11 => ?_)
            exact gz_lret C rfl dX9_value_75
        · skip
          refine gz_ldc2 C dX9_value_45 cw_RX9_187 ?_
          exact gz_lret C rfl dX9_value_48

def f_X9_about (a1 : Int32) (a2 : Int32) (σ : gz_S) : Option (Int32 × gz_S) :=
  gz_call (f_X1_at a1 σ) (fun r2 σ1 =>
  gz_nl r2 61 (some ((-1), σ1)) (fun i3 =>
  (if a2 = 0 then
  (some (σ1.1 14 i3 0, σ1))
  else
  (if a2 = 1 then
  (some (σ1.1 14 i3 1, σ1))
  else
  (if a2 = 2 then
  (some (σ1.1 14 i3 2, σ1))
  else
  (if a2 = 3 then
  (some (σ1.1 14 i3 3, σ1))
  else
  (if a2 = 4 then
  (some (σ1.1 14 i3 6, σ1))
  else
  (if a2 = 5 then
  (some (σ1.1 14 i3 10, σ1))
  else
  (if a2 = 6 then
  (if (lg_cmp (σ1.2.1 14 i3 12) 0) = 0 then
  (some (0, σ1))
  else
  (some (1, σ1)))
  else
  (if a2 = 7 then
  (if (lg_cmp (σ1.2.1 14 i3 13) 0) = 0 then
  (some (0, σ1))
  else
  (some (1, σ1)))
  else
  (some ((-1), σ1))))))))))))
set_option maxHeartbeats 4000000 in
set_option maxRecDepth 100000 in
theorem c_X9_about (l : Launch) (G : gz_G) (a1 : Int32) (a2 : Int32) (σ : gz_S) : ∀ o, f_X9_about a1 a2 σ = some o → gz_M l false G yX9_about cX9_about 4 (some .int) { frames := 1, cells := 0, slots := 0, locals := 21 } [.ref (gz_ad false G 0 0), .int a1, .int a2] σ (gz_ei o) 0 0 := by
  refine gz_enter RX9 rfl (by decide) (Nat.le_of_ble_eq_true rfl) ?_
  intro p e s m args below meth c C
  refine gz_eqs (st' := []) (lv' := [(0, .ref (gz_ad false G 0 0)), (1, .int a1), (2, .int a2)]) rfl rfl ?_
  unfold f_X9_about
  refine gz_aload_n C dX9_about_0 0 rfl ?_
  refine gz_get C (t := 0) (k := 4) (ci := 9) (q := (RX9, TX9, 11)) (v := .ref (gz_ad false G 10 0)) dX9_about_1 fl_RX9_35 (gz_hx0 _) rfl rfl (by decide) rfl ?_
  refine gz_iload_n C dX9_about_4 1 rfl ?_
  refine gz_kr (t := 14) (gz_runV (t := 10) (ci := 1) (q := (RX1, TX1, 6)) (As := [.int a1]) (rest := []) C dX9_about_5 ml_RX9_183 mw_X1_at mv_X1_at (c_X1_at l G a1 σ) (gz_hx10 _) rfl rfl rfl rfl rfl (Nat.le_of_ble_eq_true rfl) ⟨rfl, rfl, Nat.le_of_ble_eq_true rfl, Nat.le_of_ble_eq_true rfl, Nat.le_of_ble_eq_true rfl, Nat.le_of_ble_eq_true rfl⟩) (fun r2 σ1 => ?_)
  refine gz_astoreV_n C (lv' := [(3, gz_rv false G 14 r2), (0, .ref (gz_ad false G 0 0)), (1, .int a1), (2, .int a2)]) dX9_about_8 (by decide) rfl (gz_rv_or _ _ _ _) ?_
  refine gz_aloadV_n C dX9_about_9 0 rfl (gz_rv_or _ _ _ _) ?_
  refine gz_ifnonnull (tgt := 15) C dX9_about_10 (by decide) (fun hr => ?_) (fun i3 hi3 hr => ?_)
  · subst hr
    refine gz_eqs (st' := []) (lv' := [(3, .null), (0, .ref (gz_ad false G 0 0)), (1, .int a1), (2, .int a2)]) rfl rfl ?_
    refine gz_iconst C dX9_about_13 gk_iconst_m1 ?_
    exact gz_iret C rfl dX9_about_14
  · subst hr
    refine gz_eqs (st' := []) (lv' := [(3, .ref (gz_ad false G 14 i3)), (0, .ref (gz_ad false G 0 0)), (1, .int a1), (2, .int a2)]) rfl rfl ?_
    refine gz_iload_n C dX9_about_15 3 rfl ?_
    refine gz_case 0 (fun hx0 => ?_) (fun hx0 => ?_)
    · rw [hx0]
      refine gz_tin (tgt := 64) (off := 48) C dX9_about_16 (by decide) (by decide) rfl (by decide) ?_
      refine gz_aload_n C dX9_about_64 0 rfl ?_
      refine gz_getN C (t := 14) (k := 0) (ci := 6) (q := (RX6, TX6, 15)) (v := .int (σ1.1 14 i3 0)) dX9_about_65 fl_RX9_189 (gz_hx14 _ hi3) rfl rfl (by decide) rfl ?_
      exact gz_iret C rfl dX9_about_68
    refine gz_case 1 (fun hx1 => ?_) (fun hx1 => ?_)
    · rw [hx1]
      refine gz_tin (tgt := 69) (off := 53) C dX9_about_16 (by decide) (by decide) rfl (by decide) ?_
      refine gz_aload_n C dX9_about_69 0 rfl ?_
      refine gz_getN C (t := 14) (k := 1) (ci := 6) (q := (RX6, TX6, 15)) (v := .int (σ1.1 14 i3 1)) dX9_about_70 fl_RX9_199 (gz_hx14 _ hi3) rfl rfl (by decide) rfl ?_
      exact gz_iret C rfl dX9_about_73
    refine gz_case 2 (fun hx2 => ?_) (fun hx2 => ?_)
    · rw [hx2]
      refine gz_tin (tgt := 74) (off := 58) C dX9_about_16 (by decide) (by decide) rfl (by decide) ?_
      refine gz_aload_n C dX9_about_74 0 rfl ?_
      refine gz_getN C (t := 14) (k := 2) (ci := 6) (q := (RX6, TX6, 15)) (v := .int (σ1.1 14 i3 2)) dX9_about_75 fl_RX9_202 (gz_hx14 _ hi3) rfl rfl (by decide) rfl ?_
      exact gz_iret C rfl dX9_about_78
    refine gz_case 3 (fun hx3 => ?_) (fun hx3 => ?_)
    · rw [hx3]
      refine gz_tin (tgt := 79) (off := 63) C dX9_about_16 (by decide) (by decide) rfl (by decide) ?_
      refine gz_aload_n C dX9_about_79 0 rfl ?_
      refine gz_getN C (t := 14) (k := 3) (ci := 6) (q := (RX6, TX6, 15)) (v := .int (σ1.1 14 i3 3)) dX9_about_80 fl_RX9_205 (gz_hx14 _ hi3) rfl rfl (by decide) rfl ?_
      exact gz_iret C rfl dX9_about_83
    refine gz_case 4 (fun hx4 => ?_) (fun hx4 => ?_)
    · rw [hx4]
      refine gz_tin (tgt := 84) (off := 68) C dX9_about_16 (by decide) (by decide) rfl (by decide) ?_
      refine gz_aload_n C dX9_about_84 0 rfl ?_
      refine gz_getN C (t := 14) (k := 6) (ci := 6) (q := (RX6, TX6, 15)) (v := .int (σ1.1 14 i3 6)) dX9_about_85 fl_RX9_208 (gz_hx14 _ hi3) rfl rfl (by decide) rfl ?_
      exact gz_iret C rfl dX9_about_88
    refine gz_case 5 (fun hx5 => ?_) (fun hx5 => ?_)
    · rw [hx5]
      refine gz_tin (tgt := 89) (off := 73) C dX9_about_16 (by decide) (by decide) rfl (by decide) ?_
      refine gz_aload_n C dX9_about_89 0 rfl ?_
      refine gz_getN C (t := 14) (k := 10) (ci := 6) (q := (RX6, TX6, 15)) (v := .int (σ1.1 14 i3 10)) dX9_about_90 fl_RX9_211 (gz_hx14 _ hi3) rfl rfl (by decide) rfl ?_
      exact gz_iret C rfl dX9_about_93
    refine gz_case 6 (fun hx6 => ?_) (fun hx6 => ?_)
    · rw [hx6]
      refine gz_tin (tgt := 94) (off := 78) C dX9_about_16 (by decide) (by decide) rfl (by decide) ?_
      refine gz_aload_n C dX9_about_94 0 rfl ?_
      refine gz_getN C (t := 14) (k := 12) (ci := 6) (q := (RX6, TX6, 15)) (v := .long (σ1.2.1 14 i3 12)) dX9_about_95 fl_RX9_214 (gz_hx14 _ hi3) rfl rfl (by decide) rfl ?_
      refine gz_lconst C dX9_about_98 gk_lconst_0 ?_
      refine gz_lcmp C dX9_about_99 ?_
      refine gz_if_eq (tgt := 107) C dX9_about_100 (by decide) ?_ ?_
      · skip
        refine gz_iconst C dX9_about_107 gk_iconst_0 ?_
        exact gz_iret C rfl dX9_about_108
      · skip
        refine gz_iconst C dX9_about_103 gk_iconst_1 ?_
        refine gz_goto (tgt := 108) C dX9_about_104 (by decide) ?_
        exact gz_iret C rfl dX9_about_108
    refine gz_case 7 (fun hx7 => ?_) (fun hx7 => ?_)
    · rw [hx7]
      refine gz_tin (tgt := 109) (off := 93) C dX9_about_16 (by decide) (by decide) rfl (by decide) ?_
      refine gz_aload_n C dX9_about_109 0 rfl ?_
      refine gz_getN C (t := 14) (k := 13) (ci := 6) (q := (RX6, TX6, 15)) (v := .long (σ1.2.1 14 i3 13)) dX9_about_110 fl_RX9_218 (gz_hx14 _ hi3) rfl rfl (by decide) rfl ?_
      refine gz_lconst C dX9_about_113 gk_lconst_0 ?_
      refine gz_lcmp C dX9_about_114 ?_
      refine gz_if_eq (tgt := 122) C dX9_about_115 (by decide) ?_ ?_
      · skip
        refine gz_iconst C dX9_about_122 gk_iconst_0 ?_
        exact gz_iret C rfl dX9_about_123
      · skip
        refine gz_iconst C dX9_about_118 gk_iconst_1 ?_
        refine gz_goto (tgt := 123) C dX9_about_119 (by decide) ?_
        exact gz_iret C rfl dX9_about_123
    refine gz_tout (tgt := 124) C dX9_about_16 (by have q0 := lv_neT hx0 (a := 0) (by decide); have q1 := lv_neT hx1 (a := 1) (by decide); have q2 := lv_neT hx2 (a := 2) (by decide); have q3 := lv_neT hx3 (a := 3) (by decide); have q4 := lv_neT hx4 (a := 4) (by decide); have q5 := lv_neT hx5 (a := 5) (by decide); have q6 := lv_neT hx6 (a := 6) (by decide); have q7 := lv_neT hx7 (a := 7) (by decide); omega) (by decide) ?_
    refine gz_iconst C dX9_about_124 gk_iconst_m1 ?_
    exact gz_iret C rfl dX9_about_125

def f_X9_isKey (a0 : Int32) (σ : gz_S) : Option (Int32 × gz_S) :=
  if a0 < 0 then
  (some ((0 : Int32) &&& 1, σ))
  else
  (if 40 ≤ a0 then
  (some ((0 : Int32) &&& 1, σ))
  else
  (some ((1 : Int32) &&& 1, σ)))
set_option maxHeartbeats 4000000 in
set_option maxRecDepth 100000 in
theorem c_X9_isKey (l : Launch) (G : gz_G) (a0 : Int32) (σ : gz_S) : ∀ o, f_X9_isKey a0 σ = some o → gz_M l false G yX9_isKey cX9_isKey 1 (some .boolean) { frames := 0, cells := 0, slots := 0, locals := 0 } [.int a0] σ (gz_ei o) 0 0 := by
  refine gz_enter RX9 rfl (by decide) (Nat.le_of_ble_eq_true rfl) ?_
  intro p e s m args below meth c C
  refine gz_eqs (st' := []) (lv' := [(0, .int a0)]) rfl rfl ?_
  unfold f_X9_isKey
  refine gz_iload_n C dX9_isKey_0 0 rfl ?_
  refine gz_if_lt (tgt := 14) C dX9_isKey_1 (by decide) ?_ ?_
  · skip
    refine gz_iconst C dX9_isKey_14 gk_iconst_0 ?_
    exact gz_zret C rfl dX9_isKey_15
  · skip
    refine gz_iload_n C dX9_isKey_4 0 rfl ?_
    refine gz_bipush C dX9_isKey_5 gk_bipush_40 ?_
    refine gz_icmp_ge (tgt := 14) C dX9_isKey_7 (by decide) ?_ ?_
    · skip
      refine gz_iconst C dX9_isKey_14 gk_iconst_0 ?_
      exact gz_zret C rfl dX9_isKey_15
    · skip
      refine gz_iconst C dX9_isKey_10 gk_iconst_1 ?_
      refine gz_goto (tgt := 15) C dX9_isKey_11 (by decide) ?_
      exact gz_zret C rfl dX9_isKey_15

def f_X9_says (a1 : Int32) (a2 : Int32) (a3 : Int32) (a4 : Int32) (σ : gz_S) : Option (Int32 × gz_S) :=
  gz_call (f_X1_at a1 σ) (fun r2 σ1 =>
  gz_nl r2 61 (gz_call (f_X9_refused 1 σ1) (fun r5 σ4 =>
  some (r5, σ4))) (fun i3 =>
  gz_call (f_X6_waits i3 σ1) (fun r7 σ6 =>
  if r7 = 0 then
  (gz_call (f_X9_refused 6 σ6) (fun r25 σ24 =>
  some (r25, σ24)))
  else
  (gz_call (f_X9_isKey a2 σ6) (fun r9 σ8 =>
  if r9 = 0 then
  (gz_call (f_X9_refused 2 σ8) (fun r11 σ10 =>
  some (r11, σ10)))
  else
  (if a3 = (-2147483648) then
  (gz_call (f_X9_refused 2 σ8) (fun r13 σ12 =>
  some (r13, σ12)))
  else
  (gz_call (f_X9_isDay a4 σ8) (fun r15 σ14 =>
  if r15 = 0 then
  (gz_call (f_X9_refused 2 σ14) (fun r23 σ22 =>
  some (r23, σ22)))
  else
  (if (σ14.1 14 i3 6) < 4 then
  (gz_then (f_X6_addLaw i3 a2 a3 a4 σ14) (fun σ16 =>
  gz_then (f_X0_push 3 a1 0 0 σ16) (fun σ17 =>
  gz_call (f_X9_accepted (σ17.1 14 i3 6) σ17) (fun r19 σ18 =>
  some (r19, σ18)))))
  else
  (gz_call (f_X9_refused 3 σ14) (fun r21 σ20 =>
  some (r21, σ20))))))))))))
set_option maxHeartbeats 4000000 in
set_option maxRecDepth 100000 in
theorem c_X9_says (l : Launch) (G : gz_G) (a1 : Int32) (a2 : Int32) (a3 : Int32) (a4 : Int32) (σ : gz_S) : ∀ o, f_X9_says a1 a2 a3 a4 σ = some o → gz_M l false G yX9_says cX9_says 6 (some .int) { frames := 2, cells := 0, slots := 0, locals := 47 } [.ref (gz_ad false G 0 0), .int a1, .int a2, .int a3, .int a4] σ (gz_ei o) 0 0 := by
  refine gz_enter RX9 rfl (by decide) (Nat.le_of_ble_eq_true rfl) ?_
  intro p e s m args below meth c C
  refine gz_eqs (st' := []) (lv' := [(0, .ref (gz_ad false G 0 0)), (1, .int a1), (2, .int a2), (3, .int a3), (4, .int a4)]) rfl rfl ?_
  unfold f_X9_says
  refine gz_aload_n C dX9_says_0 0 rfl ?_
  refine gz_get C (t := 0) (k := 4) (ci := 9) (q := (RX9, TX9, 11)) (v := .ref (gz_ad false G 10 0)) dX9_says_1 fl_RX9_35 (gz_hx0 _) rfl rfl (by decide) rfl ?_
  refine gz_iload_n C dX9_says_4 1 rfl ?_
  refine gz_kr (t := 14) (gz_runV (t := 10) (ci := 1) (q := (RX1, TX1, 6)) (As := [.int a1]) (rest := []) C dX9_says_5 ml_RX9_183 mw_X1_at mv_X1_at (c_X1_at l G a1 σ) (gz_hx10 _) rfl rfl rfl rfl rfl (Nat.le_of_ble_eq_true rfl) ⟨rfl, rfl, Nat.le_of_ble_eq_true rfl, Nat.le_of_ble_eq_true rfl, Nat.le_of_ble_eq_true rfl, Nat.le_of_ble_eq_true rfl⟩) (fun r2 σ1 => ?_)
  refine gz_astoreV C (lv' := [(5, gz_rv false G 14 r2), (0, .ref (gz_ad false G 0 0)), (1, .int a1), (2, .int a2), (3, .int a3), (4, .int a4)]) dX9_says_8 (by decide) rfl (gz_rv_or _ _ _ _) ?_
  refine gz_aloadV C dX9_says_10 0 rfl (gz_rv_or _ _ _ _) ?_
  refine gz_ifnonnull (tgt := 21) C dX9_says_12 (by decide) (fun hr => ?_) (fun i3 hi3 hr => ?_)
  · subst hr
    refine gz_eqs (st' := []) (lv' := [(5, .null), (0, .ref (gz_ad false G 0 0)), (1, .int a1), (2, .int a2), (3, .int a3), (4, .int a4)]) rfl rfl ?_
    refine gz_aload_n C dX9_says_15 1 rfl ?_
    refine gz_iconst C dX9_says_16 gk_iconst_1 ?_
    refine gz_ki (gz_runV (t := 0) (ci := 9) (q := (RX9, TX9, 11)) (As := [.int 1]) (rest := []) C dX9_says_17 ml_RX9_89 mw_X9_refused mv_X9_refused (c_X9_refused l G 1 σ1) (gz_hx0 _) rfl rfl rfl rfl rfl (Nat.le_of_ble_eq_true rfl) ⟨rfl, rfl, Nat.le_of_ble_eq_true rfl, Nat.le_of_ble_eq_true rfl, Nat.le_of_ble_eq_true rfl, Nat.le_of_ble_eq_true rfl⟩) (fun r5 σ4 => ?_)
    exact gz_iret C rfl dX9_says_20
  · subst hr
    refine gz_eqs (st' := []) (lv' := [(5, .ref (gz_ad false G 14 i3)), (0, .ref (gz_ad false G 0 0)), (1, .int a1), (2, .int a2), (3, .int a3), (4, .int a4)]) rfl rfl ?_
    refine gz_aload C dX9_says_21 0 rfl ?_
    refine gz_ki (gz_runV (t := 14) (ci := 6) (q := (RX6, TX6, 15)) (As := []) (rest := []) C dX9_says_23 ml_RX9_192 mw_X6_waits mv_X6_waits (c_X6_waits l G i3 hi3 σ1) (gz_hx14 _ hi3) rfl rfl rfl rfl rfl (Nat.le_of_ble_eq_true rfl) ⟨rfl, rfl, Nat.le_of_ble_eq_true rfl, Nat.le_of_ble_eq_true rfl, Nat.le_of_ble_eq_true rfl, Nat.le_of_ble_eq_true rfl⟩) (fun r7 σ6 => ?_)
    refine gz_if_ne (tgt := 36) C dX9_says_26 (by decide) ?_ ?_
    · skip
      refine gz_iload_n C dX9_says_36 3 rfl ?_
      refine gz_ki (gz_runS (As := [.int a2]) (rest := []) C dX9_says_37 ml_RX9_221 mw_X9_isKey ms_X9_isKey (c_X9_isKey l G a2 σ6) rfl rfl (Nat.le_of_ble_eq_true rfl) ⟨rfl, rfl, Nat.le_of_ble_eq_true rfl, Nat.le_of_ble_eq_true rfl, Nat.le_of_ble_eq_true rfl, Nat.le_of_ble_eq_true rfl⟩) (fun r9 σ8 => ?_)
      refine gz_if_eq (tgt := 57) C dX9_says_40 (by decide) ?_ ?_
      · skip
        refine gz_aload_n C dX9_says_57 1 rfl ?_
        refine gz_iconst C dX9_says_58 gk_iconst_2 ?_
        refine gz_ki (gz_runV (t := 0) (ci := 9) (q := (RX9, TX9, 11)) (As := [.int 2]) (rest := []) C dX9_says_59 ml_RX9_89 mw_X9_refused mv_X9_refused (c_X9_refused l G 2 σ8) (gz_hx0 _) rfl rfl rfl rfl rfl (Nat.le_of_ble_eq_true rfl) ⟨rfl, rfl, Nat.le_of_ble_eq_true rfl, Nat.le_of_ble_eq_true rfl, Nat.le_of_ble_eq_true rfl, Nat.le_of_ble_eq_true rfl⟩) (fun r11 σ10 => ?_)
        exact gz_iret C rfl dX9_says_62
      · skip
        refine gz_iload_n C dX9_says_43 4 rfl ?_
        refine gz_ldc C dX9_says_44 cw_RX9_224 ?_
        refine gz_icmp_eq (tgt := 57) C dX9_says_46 (by decide) ?_ ?_
        · skip
          refine gz_aload_n C dX9_says_57 1 rfl ?_
          refine gz_iconst C dX9_says_58 gk_iconst_2 ?_
          refine gz_ki (gz_runV (t := 0) (ci := 9) (q := (RX9, TX9, 11)) (As := [.int 2]) (rest := []) C dX9_says_59 ml_RX9_89 mw_X9_refused mv_X9_refused (c_X9_refused l G 2 σ8) (gz_hx0 _) rfl rfl rfl rfl rfl (Nat.le_of_ble_eq_true rfl) ⟨rfl, rfl, Nat.le_of_ble_eq_true rfl, Nat.le_of_ble_eq_true rfl, Nat.le_of_ble_eq_true rfl, Nat.le_of_ble_eq_true rfl⟩) (fun r13 σ12 => ?_)
          exact gz_iret C rfl dX9_says_62
        · skip
          refine gz_iload C dX9_says_49 5 rfl ?_
          refine gz_ki (gz_runS (As := [.int a4]) (rest := []) C dX9_says_51 ml_RX9_64 mw_X9_isDay ms_X9_isDay (c_X9_isDay l G a4 σ8) rfl rfl (Nat.le_of_ble_eq_true rfl) ⟨rfl, rfl, Nat.le_of_ble_eq_true rfl, Nat.le_of_ble_eq_true rfl, Nat.le_of_ble_eq_true rfl, Nat.le_of_ble_eq_true rfl⟩) (fun r15 σ14 => ?_)
          refine gz_if_ne (tgt := 63) C dX9_says_54 (by decide) ?_ ?_
          · skip
            refine gz_aload C dX9_says_63 0 rfl ?_
            refine gz_getN C (t := 14) (k := 6) (ci := 6) (q := (RX6, TX6, 15)) (v := .int (σ14.1 14 i3 6)) dX9_says_65 fl_RX9_208 (gz_hx14 _ hi3) rfl rfl (by decide) rfl ?_
            refine gz_iconst C dX9_says_68 gk_iconst_4 ?_
            refine gz_icmp_lt (tgt := 78) C dX9_says_69 (by decide) ?_ ?_
            · skip
              refine gz_aload C dX9_says_78 0 rfl ?_
              refine gz_iload_n C dX9_says_80 3 rfl ?_
              refine gz_iload_n C dX9_says_81 4 rfl ?_
              refine gz_iload C dX9_says_82 5 rfl ?_
              refine gz_kv (gz_runV (t := 14) (ci := 6) (q := (RX6, TX6, 15)) (As := [.int a2, .int a3, .int a4]) (rest := []) C dX9_says_84 ml_RX9_225 mw_X6_addLaw mv_X6_addLaw (c_X6_addLaw l G i3 a2 a3 a4 hi3 σ14) (gz_hx14 _ hi3) rfl rfl rfl rfl rfl (Nat.le_of_ble_eq_true rfl) ⟨rfl, rfl, Nat.le_of_ble_eq_true rfl, Nat.le_of_ble_eq_true rfl, Nat.le_of_ble_eq_true rfl, Nat.le_of_ble_eq_true rfl⟩) (fun σ16 => ?_)
              refine gz_aload_n C dX9_says_87 1 rfl ?_
              refine gz_get C (t := 0) (k := 9) (ci := 9) (q := (RX9, TX9, 11)) (v := .ref (gz_ad false G 26 0)) dX9_says_88 fl_RX9_60 (gz_hx0 _) rfl rfl (by decide) rfl ?_
              refine gz_iconst C dX9_says_91 gk_iconst_3 ?_
              refine gz_iload_n C dX9_says_92 2 rfl ?_
              refine gz_lconst C dX9_says_93 gk_lconst_0 ?_
              refine gz_lconst C dX9_says_94 gk_lconst_0 ?_
              refine gz_kv (gz_runV (t := 26) (ci := 0) (q := (RX0, TX0, 10)) (As := [.int 3, .int a1, .long 0, .long 0]) (rest := []) C dX9_says_95 ml_RX9_85 mw_X0_push mv_X0_push (c_X0_push l G 3 a1 0 0 σ16) (gz_hx26 _) rfl rfl rfl rfl rfl (Nat.le_of_ble_eq_true rfl) ⟨rfl, rfl, Nat.le_of_ble_eq_true rfl, Nat.le_of_ble_eq_true rfl, Nat.le_of_ble_eq_true rfl, Nat.le_of_ble_eq_true rfl⟩) (fun σ17 => ?_)
              refine gz_aload_n C dX9_says_98 1 rfl ?_
              refine gz_aload C dX9_says_99 0 rfl ?_
              refine gz_getN C (t := 14) (k := 6) (ci := 6) (q := (RX6, TX6, 15)) (v := .int (σ17.1 14 i3 6)) dX9_says_101 fl_RX9_208 (gz_hx14 _ hi3) rfl rfl (by decide) rfl ?_
              refine gz_ki (gz_runV (t := 0) (ci := 9) (q := (RX9, TX9, 11)) (As := [.int (σ17.1 14 i3 6)]) (rest := []) C dX9_says_104 ml_RX9_96 mw_X9_accepted mv_X9_accepted (c_X9_accepted l G (σ17.1 14 i3 6) σ17) (gz_hx0 _) rfl rfl rfl rfl rfl (Nat.le_of_ble_eq_true rfl) ⟨rfl, rfl, Nat.le_of_ble_eq_true rfl, Nat.le_of_ble_eq_true rfl, Nat.le_of_ble_eq_true rfl, Nat.le_of_ble_eq_true rfl⟩) (fun r19 σ18 => ?_)
              exact gz_iret C rfl dX9_says_107
            · skip
              refine gz_aload_n C dX9_says_72 1 rfl ?_
              refine gz_iconst C dX9_says_73 gk_iconst_3 ?_
              refine gz_ki (gz_runV (t := 0) (ci := 9) (q := (RX9, TX9, 11)) (As := [.int 3]) (rest := []) C dX9_says_74 ml_RX9_89 mw_X9_refused mv_X9_refused (c_X9_refused l G 3 σ14) (gz_hx0 _) rfl rfl rfl rfl rfl (Nat.le_of_ble_eq_true rfl) ⟨rfl, rfl, Nat.le_of_ble_eq_true rfl, Nat.le_of_ble_eq_true rfl, Nat.le_of_ble_eq_true rfl, Nat.le_of_ble_eq_true rfl⟩) (fun r21 σ20 => ?_)
              exact gz_iret C rfl dX9_says_77
          · skip
            refine gz_aload_n C dX9_says_57 1 rfl ?_
            refine gz_iconst C dX9_says_58 gk_iconst_2 ?_
            refine gz_ki (gz_runV (t := 0) (ci := 9) (q := (RX9, TX9, 11)) (As := [.int 2]) (rest := []) C dX9_says_59 ml_RX9_89 mw_X9_refused mv_X9_refused (c_X9_refused l G 2 σ14) (gz_hx0 _) rfl rfl rfl rfl rfl (Nat.le_of_ble_eq_true rfl) ⟨rfl, rfl, Nat.le_of_ble_eq_true rfl, Nat.le_of_ble_eq_true rfl, Nat.le_of_ble_eq_true rfl, Nat.le_of_ble_eq_true rfl⟩) (fun r23 σ22 => ?_)
            exact gz_iret C rfl dX9_says_62
    · skip
      refine gz_aload_n C dX9_says_29 1 rfl ?_
      refine gz_bipush C dX9_says_30 gk_bipush_6 ?_
      refine gz_ki (gz_runV (t := 0) (ci := 9) (q := (RX9, TX9, 11)) (As := [.int 6]) (rest := []) C dX9_says_32 ml_RX9_89 mw_X9_refused mv_X9_refused (c_X9_refused l G 6 σ6) (gz_hx0 _) rfl rfl rfl rfl rfl (Nat.le_of_ble_eq_true rfl) ⟨rfl, rfl, Nat.le_of_ble_eq_true rfl, Nat.le_of_ble_eq_true rfl, Nat.le_of_ble_eq_true rfl, Nat.le_of_ble_eq_true rfl⟩) (fun r25 σ24 => ?_)
      exact gz_iret C rfl dX9_says_35

def f_X9_corrects (a1 : Int32) (a2 : Int32) (σ : gz_S) : Option (Int32 × gz_S) :=
  gz_call (f_X1_at a1 σ) (fun r2 σ1 =>
  gz_nl r2 61 (gz_call (f_X9_refusal 1 σ1) (fun r5 σ4 =>
  some (r5 &&& 1, σ4))) (fun i3 =>
  gz_call (f_X1_at a2 σ1) (fun r7 σ6 =>
  gz_nl r7 61 (gz_call (f_X9_refusal 1 σ6) (fun r10 σ9 =>
  some (r10 &&& 1, σ9))) (fun i8 =>
  gz_call (f_X6_waits i3 σ6) (fun r12 σ11 =>
  if r12 = 0 then
  (gz_call (f_X9_refusal 6 σ11) (fun r20 σ19 =>
  some (r20 &&& 1, σ19)))
  else
  (if a2 < a1 then
  (gz_then (f_X0_push 4 a1 ((σ11.1 14 i3 10 : Int32).toInt64) 0 σ11) (fun σ13 =>
  gz_w (gz_si σ13 14 i3 10 a2) (fun σ14 =>
  gz_call (f_X9_acceptance σ14) (fun r16 σ15 =>
  some (r16 &&& 1, σ15)))))
  else
  (gz_call (f_X9_refusal 2 σ11) (fun r18 σ17 =>
  some (r18 &&& 1, σ17)))))))))
set_option maxHeartbeats 4000000 in
set_option maxRecDepth 100000 in
theorem c_X9_corrects (l : Launch) (G : gz_G) (a1 : Int32) (a2 : Int32) (σ : gz_S) : ∀ o, f_X9_corrects a1 a2 σ = some o → gz_M l false G yX9_corrects cX9_corrects 4 (some .boolean) { frames := 2, cells := 0, slots := 0, locals := 47 } [.ref (gz_ad false G 0 0), .int a1, .int a2] σ (gz_ei o) 0 0 := by
  refine gz_enter RX9 rfl (by decide) (Nat.le_of_ble_eq_true rfl) ?_
  intro p e s m args below meth c C
  refine gz_eqs (st' := []) (lv' := [(0, .ref (gz_ad false G 0 0)), (1, .int a1), (2, .int a2)]) rfl rfl ?_
  unfold f_X9_corrects
  refine gz_aload_n C dX9_corrects_0 0 rfl ?_
  refine gz_get C (t := 0) (k := 4) (ci := 9) (q := (RX9, TX9, 11)) (v := .ref (gz_ad false G 10 0)) dX9_corrects_1 fl_RX9_35 (gz_hx0 _) rfl rfl (by decide) rfl ?_
  refine gz_iload_n C dX9_corrects_4 1 rfl ?_
  refine gz_kr (t := 14) (gz_runV (t := 10) (ci := 1) (q := (RX1, TX1, 6)) (As := [.int a1]) (rest := []) C dX9_corrects_5 ml_RX9_183 mw_X1_at mv_X1_at (c_X1_at l G a1 σ) (gz_hx10 _) rfl rfl rfl rfl rfl (Nat.le_of_ble_eq_true rfl) ⟨rfl, rfl, Nat.le_of_ble_eq_true rfl, Nat.le_of_ble_eq_true rfl, Nat.le_of_ble_eq_true rfl, Nat.le_of_ble_eq_true rfl⟩) (fun r2 σ1 => ?_)
  refine gz_astoreV_n C (lv' := [(3, gz_rv false G 14 r2), (0, .ref (gz_ad false G 0 0)), (1, .int a1), (2, .int a2)]) dX9_corrects_8 (by decide) rfl (gz_rv_or _ _ _ _) ?_
  refine gz_aloadV_n C dX9_corrects_9 0 rfl (gz_rv_or _ _ _ _) ?_
  refine gz_ifnull (tgt := 24) C dX9_corrects_10 (by decide) (fun hr => ?_) (fun i3 hi3 hr => ?_)
  · subst hr
    refine gz_eqs (st' := []) (lv' := [(3, .null), (0, .ref (gz_ad false G 0 0)), (1, .int a1), (2, .int a2)]) rfl rfl ?_
    refine gz_aload_n C dX9_corrects_24 1 rfl ?_
    refine gz_iconst C dX9_corrects_25 gk_iconst_1 ?_
    refine gz_ki (gz_runV (t := 0) (ci := 9) (q := (RX9, TX9, 11)) (As := [.int 1]) (rest := []) C dX9_corrects_26 ml_RX9_68 mw_X9_refusal mv_X9_refusal (c_X9_refusal l G 1 σ1) (gz_hx0 _) rfl rfl rfl rfl rfl (Nat.le_of_ble_eq_true rfl) ⟨rfl, rfl, Nat.le_of_ble_eq_true rfl, Nat.le_of_ble_eq_true rfl, Nat.le_of_ble_eq_true rfl, Nat.le_of_ble_eq_true rfl⟩) (fun r5 σ4 => ?_)
    exact gz_zret C rfl dX9_corrects_29
  · subst hr
    refine gz_eqs (st' := []) (lv' := [(3, .ref (gz_ad false G 14 i3)), (0, .ref (gz_ad false G 0 0)), (1, .int a1), (2, .int a2)]) rfl rfl ?_
    refine gz_aload_n C dX9_corrects_13 1 rfl ?_
    refine gz_get C (t := 0) (k := 4) (ci := 9) (q := (RX9, TX9, 11)) (v := .ref (gz_ad false G 10 0)) dX9_corrects_14 fl_RX9_35 (gz_hx0 _) rfl rfl (by decide) rfl ?_
    refine gz_iload_n C dX9_corrects_17 3 rfl ?_
    refine gz_kr (t := 14) (gz_runV (t := 10) (ci := 1) (q := (RX1, TX1, 6)) (As := [.int a2]) (rest := []) C dX9_corrects_18 ml_RX9_183 mw_X1_at mv_X1_at (c_X1_at l G a2 σ1) (gz_hx10 _) rfl rfl rfl rfl rfl (Nat.le_of_ble_eq_true rfl) ⟨rfl, rfl, Nat.le_of_ble_eq_true rfl, Nat.le_of_ble_eq_true rfl, Nat.le_of_ble_eq_true rfl, Nat.le_of_ble_eq_true rfl⟩) (fun r7 σ6 => ?_)
    refine gz_ifnonnull (tgt := 30) C dX9_corrects_21 (by decide) (fun hr => ?_) (fun i8 hi8 hr => ?_)
    · subst hr
      refine gz_eqs (st' := []) (lv' := [(3, .ref (gz_ad false G 14 i3)), (0, .ref (gz_ad false G 0 0)), (1, .int a1), (2, .int a2)]) rfl rfl ?_
      refine gz_aload_n C dX9_corrects_24 1 rfl ?_
      refine gz_iconst C dX9_corrects_25 gk_iconst_1 ?_
      refine gz_ki (gz_runV (t := 0) (ci := 9) (q := (RX9, TX9, 11)) (As := [.int 1]) (rest := []) C dX9_corrects_26 ml_RX9_68 mw_X9_refusal mv_X9_refusal (c_X9_refusal l G 1 σ6) (gz_hx0 _) rfl rfl rfl rfl rfl (Nat.le_of_ble_eq_true rfl) ⟨rfl, rfl, Nat.le_of_ble_eq_true rfl, Nat.le_of_ble_eq_true rfl, Nat.le_of_ble_eq_true rfl, Nat.le_of_ble_eq_true rfl⟩) (fun r10 σ9 => ?_)
      exact gz_zret C rfl dX9_corrects_29
    · subst hr
      refine gz_eqs (st' := []) (lv' := [(3, .ref (gz_ad false G 14 i3)), (0, .ref (gz_ad false G 0 0)), (1, .int a1), (2, .int a2)]) rfl rfl ?_
      refine gz_aload_n C dX9_corrects_30 0 rfl ?_
      refine gz_ki (gz_runV (t := 14) (ci := 6) (q := (RX6, TX6, 15)) (As := []) (rest := []) C dX9_corrects_31 ml_RX9_192 mw_X6_waits mv_X6_waits (c_X6_waits l G i3 hi3 σ6) (gz_hx14 _ hi3) rfl rfl rfl rfl rfl (Nat.le_of_ble_eq_true rfl) ⟨rfl, rfl, Nat.le_of_ble_eq_true rfl, Nat.le_of_ble_eq_true rfl, Nat.le_of_ble_eq_true rfl, Nat.le_of_ble_eq_true rfl⟩) (fun r12 σ11 => ?_)
      refine gz_if_ne (tgt := 44) C dX9_corrects_34 (by decide) ?_ ?_
      · skip
        refine gz_iload_n C dX9_corrects_44 3 rfl ?_
        refine gz_iload_n C dX9_corrects_45 2 rfl ?_
        refine gz_icmp_lt (tgt := 55) C dX9_corrects_46 (by decide) ?_ ?_
        · skip
          refine gz_aload_n C dX9_corrects_55 1 rfl ?_
          refine gz_get C (t := 0) (k := 9) (ci := 9) (q := (RX9, TX9, 11)) (v := .ref (gz_ad false G 26 0)) dX9_corrects_56 fl_RX9_60 (gz_hx0 _) rfl rfl (by decide) rfl ?_
          refine gz_iconst C dX9_corrects_59 gk_iconst_4 ?_
          refine gz_iload_n C dX9_corrects_60 2 rfl ?_
          refine gz_aload_n C dX9_corrects_61 0 rfl ?_
          refine gz_getN C (t := 14) (k := 10) (ci := 6) (q := (RX6, TX6, 15)) (v := .int (σ11.1 14 i3 10)) dX9_corrects_62 fl_RX9_211 (gz_hx14 _ hi3) rfl rfl (by decide) rfl ?_
          refine gz_i2l C dX9_corrects_65 ?_
          refine gz_lconst C dX9_corrects_66 gk_lconst_0 ?_
          refine gz_kv (gz_runV (t := 26) (ci := 0) (q := (RX0, TX0, 10)) (As := [.int 4, .int a1, .long ((σ11.1 14 i3 10 : Int32).toInt64), .long 0]) (rest := []) C dX9_corrects_67 ml_RX9_85 mw_X0_push mv_X0_push (c_X0_push l G 4 a1 ((σ11.1 14 i3 10 : Int32).toInt64) 0 σ11) (gz_hx26 _) rfl rfl rfl rfl rfl (Nat.le_of_ble_eq_true rfl) ⟨rfl, rfl, Nat.le_of_ble_eq_true rfl, Nat.le_of_ble_eq_true rfl, Nat.le_of_ble_eq_true rfl, Nat.le_of_ble_eq_true rfl⟩) (fun σ13 => ?_)
          refine gz_aload_n C dX9_corrects_70 0 rfl ?_
          refine gz_iload_n C dX9_corrects_71 3 rfl ?_
          refine gz_putIN C (t := 14) (k := 10) (ci := 6) (q := (RX6, TX6, 15)) dX9_corrects_72 fl_RX9_211 (gz_hx14 _ hi3) rfl rfl (by decide) rfl rfl rfl rfl ?_
          refine gz_w_row (fun σ14 => ?_)
          refine gz_aload_n C dX9_corrects_75 1 rfl ?_
          refine gz_ki (gz_runV (t := 0) (ci := 9) (q := (RX9, TX9, 11)) (As := []) (rest := []) C dX9_corrects_76 ml_RX9_74 mw_X9_acceptance mv_X9_acceptance (c_X9_acceptance l G σ14) (gz_hx0 _) rfl rfl rfl rfl rfl (Nat.le_of_ble_eq_true rfl) ⟨rfl, rfl, Nat.le_of_ble_eq_true rfl, Nat.le_of_ble_eq_true rfl, Nat.le_of_ble_eq_true rfl, Nat.le_of_ble_eq_true rfl⟩) (fun r16 σ15 => ?_)
          exact gz_zret C rfl dX9_corrects_79
        · skip
          refine gz_aload_n C dX9_corrects_49 1 rfl ?_
          refine gz_iconst C dX9_corrects_50 gk_iconst_2 ?_
          refine gz_ki (gz_runV (t := 0) (ci := 9) (q := (RX9, TX9, 11)) (As := [.int 2]) (rest := []) C dX9_corrects_51 ml_RX9_68 mw_X9_refusal mv_X9_refusal (c_X9_refusal l G 2 σ11) (gz_hx0 _) rfl rfl rfl rfl rfl (Nat.le_of_ble_eq_true rfl) ⟨rfl, rfl, Nat.le_of_ble_eq_true rfl, Nat.le_of_ble_eq_true rfl, Nat.le_of_ble_eq_true rfl, Nat.le_of_ble_eq_true rfl⟩) (fun r18 σ17 => ?_)
          exact gz_zret C rfl dX9_corrects_54
      · skip
        refine gz_aload_n C dX9_corrects_37 1 rfl ?_
        refine gz_bipush C dX9_corrects_38 gk_bipush_6 ?_
        refine gz_ki (gz_runV (t := 0) (ci := 9) (q := (RX9, TX9, 11)) (As := [.int 6]) (rest := []) C dX9_corrects_40 ml_RX9_68 mw_X9_refusal mv_X9_refusal (c_X9_refusal l G 6 σ11) (gz_hx0 _) rfl rfl rfl rfl rfl (Nat.le_of_ble_eq_true rfl) ⟨rfl, rfl, Nat.le_of_ble_eq_true rfl, Nat.le_of_ble_eq_true rfl, Nat.le_of_ble_eq_true rfl, Nat.le_of_ble_eq_true rfl⟩) (fun r20 σ19 => ?_)
        exact gz_zret C rfl dX9_corrects_43

def f_X9_isWord_L21 : (Int64 → Int32 → gz_S → Option (Int32 × gz_S)) → Int64 → Int32 → gz_S → Option (Int32 × gz_S) := fun rec21 v1 v2 σ3 =>
  if 8 ≤ v2 then
  (some ((1 : Int32) &&& 1, σ3))
  else
  (if (lg_cmp v1 0) ≤ 0 then
  (some ((1 : Int32) &&& 1, σ3))
  else
  (gz_v (v1 &&& 31) (fun v4 =>
  if (lg_cmp v4 1) < 0 then
  (some ((0 : Int32) &&& 1, σ3))
  else
  (if (lg_cmp v4 26) ≤ 0 then
  (gz_v (v1 >>> ((5 : Int32).toInt64 &&& 63)) (fun v5 =>
  rec21 v5 (v2 + 1) σ3))
  else
  (some ((0 : Int32) &&& 1, σ3))))))
def f_X9_isWord (a0 : Int64) (σ : gz_S) : Option (Int32 × gz_S) :=
  if (lg_cmp a0 0) ≤ 0 then
  (some ((0 : Int32) &&& 1, σ))
  else
  (if (lg_cmp a0 1099511627776) < 0 then
  (gz_l2 (f_X9_isWord_L21) gz_fu a0 0 σ)
  else
  (some ((0 : Int32) &&& 1, σ)))
set_option maxHeartbeats 4000000 in
set_option maxRecDepth 100000 in
theorem c_X9_isWord (l : Launch) (G : gz_G) (a0 : Int64) (σ : gz_S) : ∀ o, f_X9_isWord a0 σ = some o → gz_M l false G yX9_isWord cX9_isWord 7 (some .boolean) { frames := 0, cells := 0, slots := 0, locals := 0 } [.long a0] σ (gz_ei o) 0 0 := by
  refine gz_enter RX9 rfl (by decide) (Nat.le_of_ble_eq_true rfl) ?_
  intro p e s m args below meth c C
  refine gz_eqs (st' := []) (lv' := [(0, .long a0)]) rfl rfl ?_
  unfold f_X9_isWord
  refine gz_lload_n C dX9_isWord_0 0 rfl ?_
  refine gz_lconst C dX9_isWord_1 gk_lconst_0 ?_
  refine gz_lcmp C dX9_isWord_2 ?_
  refine gz_if_le (tgt := 14) C dX9_isWord_3 (by decide) ?_ ?_
  · skip
    refine gz_iconst C dX9_isWord_14 gk_iconst_0 ?_
    exact gz_zret C rfl dX9_isWord_15
  · skip
    refine gz_lload_n C dX9_isWord_6 0 rfl ?_
    refine gz_ldc2 C dX9_isWord_7 cw_RX9_318 ?_
    refine gz_lcmp C dX9_isWord_10 ?_
    refine gz_if_lt (tgt := 16) C dX9_isWord_11 (by decide) ?_ ?_
    · skip
      refine gz_lload_n C dX9_isWord_16 0 rfl ?_
      refine gz_lstore_n C (lv' := [(2, .long a0), (0, .long a0)]) dX9_isWord_17 (by decide) rfl ?_
      refine gz_iconst C dX9_isWord_18 gk_iconst_0 ?_
      refine gz_istore C (lv' := [(4, .int 0), (2, .long a0), (0, .long a0)]) dX9_isWord_19 (by decide) rfl ?_
      refine gz_lv (lv' := [(2, .long a0), (4, .int 0)]) [1, 0] rfl ?_
      refine gz_l2_ind (P := fun v1 v2 σ3 x => gz_W false p l e ({ frames := 0, cells := 0, slots := 0, locals := 0 } : Room) s m args below meth c G 7 (gz_Q false G below args s 0 0 gz_ei) 0 0 σ3 21 [(2, .long v1), (4, .int v2)] [] x) (fun _ _ _ => gz_none) (fun rec21 hrec21 v1 v2 σ3 => ?_) gz_fu a0 0 σ
      unfold f_X9_isWord_L21
      refine gz_iload C dX9_isWord_21 1 rfl ?_
      refine gz_bipush C dX9_isWord_23 gk_bipush_8 ?_
      refine gz_icmp_ge (tgt := 69) C dX9_isWord_25 (by decide) ?_ ?_
      · skip
        refine gz_iconst C dX9_isWord_69 gk_iconst_1 ?_
        exact gz_zret C rfl dX9_isWord_70
      · skip
        refine gz_lload_n C dX9_isWord_28 0 rfl ?_
        refine gz_lconst C dX9_isWord_29 gk_lconst_0 ?_
        refine gz_lcmp C dX9_isWord_30 ?_
        refine gz_if_le (tgt := 69) C dX9_isWord_31 (by decide) ?_ ?_
        · skip
          refine gz_iconst C dX9_isWord_69 gk_iconst_1 ?_
          exact gz_zret C rfl dX9_isWord_70
        · skip
          refine gz_lload_n C dX9_isWord_34 0 rfl ?_
          refine gz_ldc2 C dX9_isWord_35 cw_RX9_320 ?_
          refine gz_land C dX9_isWord_38 ?_
          refine gz_topJ (fun v4 => ?_)
          refine gz_lstore C (lv' := [(5, .long v4), (2, .long v1), (4, .int v2)]) dX9_isWord_39 (by decide) rfl ?_
          refine gz_lload C dX9_isWord_41 0 rfl ?_
          refine gz_lconst C dX9_isWord_43 gk_lconst_1 ?_
          refine gz_lcmp C dX9_isWord_44 ?_
          refine gz_if_lt (tgt := 57) C dX9_isWord_45 (by decide) ?_ ?_
          · skip
            refine gz_iconst C dX9_isWord_57 gk_iconst_0 ?_
            exact gz_zret C rfl dX9_isWord_58
          · skip
            refine gz_lload C dX9_isWord_48 0 rfl ?_
            refine gz_ldc2 C dX9_isWord_50 cw_RX9_322 ?_
            refine gz_lcmp C dX9_isWord_53 ?_
            refine gz_if_le (tgt := 59) C dX9_isWord_54 (by decide) ?_ ?_
            · skip
              refine gz_lload_n C dX9_isWord_59 1 rfl ?_
              refine gz_iconst C dX9_isWord_60 gk_iconst_5 ?_
              refine gz_lshr C dX9_isWord_61 ?_
              refine gz_topJ (fun v5 => ?_)
              refine gz_lstore_n C (lv' := [(2, .long v5), (5, .long v4), (4, .int v2)]) dX9_isWord_62 (by decide) rfl ?_
              refine gz_iinc C (q := 2) (v := v2 + 1) (lv' := [(4, .int (v2 + 1)), (2, .long v5), (5, .long v4)]) dX9_isWord_63 rfl rfl (by decide) rfl ?_
              refine gz_goto (tgt := 21) C dX9_isWord_66 (by decide) ?_
              refine gz_lv (lv' := [(2, .long v5), (4, .int (v2 + 1))]) [1, 0] rfl ?_
              exact hrec21 v5 (v2 + 1) σ3
            · skip
              refine gz_iconst C dX9_isWord_57 gk_iconst_0 ?_
              exact gz_zret C rfl dX9_isWord_58
    · skip
      refine gz_iconst C dX9_isWord_14 gk_iconst_0 ?_
      exact gz_zret C rfl dX9_isWord_15

def f_X9_renames (a1 : Int32) (a2 : Int64) (a3 : Int64) (σ : gz_S) : Option (Int32 × gz_S) :=
  gz_call (f_X1_at a1 σ) (fun r2 σ1 =>
  gz_nl r2 61 (gz_call (f_X9_refusal 1 σ1) (fun r5 σ4 =>
  some (r5 &&& 1, σ4))) (fun i3 =>
  gz_call (f_X6_waits i3 σ1) (fun r7 σ6 =>
  if r7 = 0 then
  (gz_call (f_X9_refusal 6 σ6) (fun r24 σ23 =>
  some (r24 &&& 1, σ23)))
  else
  (gz_call (f_X9_isWord a2 σ6) (fun r9 σ8 =>
  if r9 = 0 then
  (gz_call (f_X9_refusal 2 σ8) (fun r11 σ10 =>
  some (r11 &&& 1, σ10)))
  else
  (gz_call (f_X9_isWord a3 σ8) (fun r13 σ12 =>
  if r13 = 0 then
  (gz_call (f_X9_refusal 2 σ12) (fun r15 σ14 =>
  some (r15 &&& 1, σ14)))
  else
  (if (lg_cmp a2 a3) = 0 then
  (gz_call (f_X9_refusal 2 σ12) (fun r22 σ21 =>
  some (r22 &&& 1, σ21)))
  else
  (gz_then (f_X0_push 5 a1 (σ12.2.1 14 i3 11) (σ12.2.1 14 i3 12) σ12) (fun σ16 =>
  gz_w (gz_sj σ16 14 i3 11 a2) (fun σ17 =>
  gz_w (gz_sj σ17 14 i3 12 a3) (fun σ18 =>
  gz_call (f_X9_acceptance σ18) (fun r20 σ19 =>
  some (r20 &&& 1, σ19))))))))))))))
set_option maxHeartbeats 4000000 in
set_option maxRecDepth 100000 in
theorem c_X9_renames (l : Launch) (G : gz_G) (a1 : Int32) (a2 : Int64) (a3 : Int64) (σ : gz_S) : ∀ o, f_X9_renames a1 a2 a3 σ = some o → gz_M l false G yX9_renames cX9_renames 7 (some .boolean) { frames := 2, cells := 0, slots := 0, locals := 47 } [.ref (gz_ad false G 0 0), .int a1, .long a2, .long a3] σ (gz_ei o) 0 0 := by
  refine gz_enter RX9 rfl (by decide) (Nat.le_of_ble_eq_true rfl) ?_
  intro p e s m args below meth c C
  refine gz_eqs (st' := []) (lv' := [(0, .ref (gz_ad false G 0 0)), (1, .int a1), (2, .long a2), (4, .long a3)]) rfl rfl ?_
  unfold f_X9_renames
  refine gz_aload_n C dX9_renames_0 0 rfl ?_
  refine gz_get C (t := 0) (k := 4) (ci := 9) (q := (RX9, TX9, 11)) (v := .ref (gz_ad false G 10 0)) dX9_renames_1 fl_RX9_35 (gz_hx0 _) rfl rfl (by decide) rfl ?_
  refine gz_iload_n C dX9_renames_4 1 rfl ?_
  refine gz_kr (t := 14) (gz_runV (t := 10) (ci := 1) (q := (RX1, TX1, 6)) (As := [.int a1]) (rest := []) C dX9_renames_5 ml_RX9_183 mw_X1_at mv_X1_at (c_X1_at l G a1 σ) (gz_hx10 _) rfl rfl rfl rfl rfl (Nat.le_of_ble_eq_true rfl) ⟨rfl, rfl, Nat.le_of_ble_eq_true rfl, Nat.le_of_ble_eq_true rfl, Nat.le_of_ble_eq_true rfl, Nat.le_of_ble_eq_true rfl⟩) (fun r2 σ1 => ?_)
  refine gz_astoreV C (lv' := [(6, gz_rv false G 14 r2), (0, .ref (gz_ad false G 0 0)), (1, .int a1), (2, .long a2), (4, .long a3)]) dX9_renames_8 (by decide) rfl (gz_rv_or _ _ _ _) ?_
  refine gz_aloadV C dX9_renames_10 0 rfl (gz_rv_or _ _ _ _) ?_
  refine gz_ifnonnull (tgt := 21) C dX9_renames_12 (by decide) (fun hr => ?_) (fun i3 hi3 hr => ?_)
  · subst hr
    refine gz_eqs (st' := []) (lv' := [(6, .null), (0, .ref (gz_ad false G 0 0)), (1, .int a1), (2, .long a2), (4, .long a3)]) rfl rfl ?_
    refine gz_aload_n C dX9_renames_15 1 rfl ?_
    refine gz_iconst C dX9_renames_16 gk_iconst_1 ?_
    refine gz_ki (gz_runV (t := 0) (ci := 9) (q := (RX9, TX9, 11)) (As := [.int 1]) (rest := []) C dX9_renames_17 ml_RX9_68 mw_X9_refusal mv_X9_refusal (c_X9_refusal l G 1 σ1) (gz_hx0 _) rfl rfl rfl rfl rfl (Nat.le_of_ble_eq_true rfl) ⟨rfl, rfl, Nat.le_of_ble_eq_true rfl, Nat.le_of_ble_eq_true rfl, Nat.le_of_ble_eq_true rfl, Nat.le_of_ble_eq_true rfl⟩) (fun r5 σ4 => ?_)
    exact gz_zret C rfl dX9_renames_20
  · subst hr
    refine gz_eqs (st' := []) (lv' := [(6, .ref (gz_ad false G 14 i3)), (0, .ref (gz_ad false G 0 0)), (1, .int a1), (2, .long a2), (4, .long a3)]) rfl rfl ?_
    refine gz_aload C dX9_renames_21 0 rfl ?_
    refine gz_ki (gz_runV (t := 14) (ci := 6) (q := (RX6, TX6, 15)) (As := []) (rest := []) C dX9_renames_23 ml_RX9_192 mw_X6_waits mv_X6_waits (c_X6_waits l G i3 hi3 σ1) (gz_hx14 _ hi3) rfl rfl rfl rfl rfl (Nat.le_of_ble_eq_true rfl) ⟨rfl, rfl, Nat.le_of_ble_eq_true rfl, Nat.le_of_ble_eq_true rfl, Nat.le_of_ble_eq_true rfl, Nat.le_of_ble_eq_true rfl⟩) (fun r7 σ6 => ?_)
    refine gz_if_ne (tgt := 36) C dX9_renames_26 (by decide) ?_ ?_
    · skip
      refine gz_lload_n C dX9_renames_36 3 rfl ?_
      refine gz_ki (gz_runS (As := [.long a2]) (rest := []) C dX9_renames_37 ml_RX9_228 mw_X9_isWord ms_X9_isWord (c_X9_isWord l G a2 σ6) rfl rfl (Nat.le_of_ble_eq_true rfl) ⟨rfl, rfl, Nat.le_of_ble_eq_true rfl, Nat.le_of_ble_eq_true rfl, Nat.le_of_ble_eq_true rfl, Nat.le_of_ble_eq_true rfl⟩) (fun r9 σ8 => ?_)
      refine gz_if_eq (tgt := 58) C dX9_renames_40 (by decide) ?_ ?_
      · skip
        refine gz_aload_n C dX9_renames_58 1 rfl ?_
        refine gz_iconst C dX9_renames_59 gk_iconst_2 ?_
        refine gz_ki (gz_runV (t := 0) (ci := 9) (q := (RX9, TX9, 11)) (As := [.int 2]) (rest := []) C dX9_renames_60 ml_RX9_68 mw_X9_refusal mv_X9_refusal (c_X9_refusal l G 2 σ8) (gz_hx0 _) rfl rfl rfl rfl rfl (Nat.le_of_ble_eq_true rfl) ⟨rfl, rfl, Nat.le_of_ble_eq_true rfl, Nat.le_of_ble_eq_true rfl, Nat.le_of_ble_eq_true rfl, Nat.le_of_ble_eq_true rfl⟩) (fun r11 σ10 => ?_)
        exact gz_zret C rfl dX9_renames_63
      · skip
        refine gz_lload C dX9_renames_43 4 rfl ?_
        refine gz_ki (gz_runS (As := [.long a3]) (rest := []) C dX9_renames_45 ml_RX9_228 mw_X9_isWord ms_X9_isWord (c_X9_isWord l G a3 σ8) rfl rfl (Nat.le_of_ble_eq_true rfl) ⟨rfl, rfl, Nat.le_of_ble_eq_true rfl, Nat.le_of_ble_eq_true rfl, Nat.le_of_ble_eq_true rfl, Nat.le_of_ble_eq_true rfl⟩) (fun r13 σ12 => ?_)
        refine gz_if_eq (tgt := 58) C dX9_renames_48 (by decide) ?_ ?_
        · skip
          refine gz_aload_n C dX9_renames_58 1 rfl ?_
          refine gz_iconst C dX9_renames_59 gk_iconst_2 ?_
          refine gz_ki (gz_runV (t := 0) (ci := 9) (q := (RX9, TX9, 11)) (As := [.int 2]) (rest := []) C dX9_renames_60 ml_RX9_68 mw_X9_refusal mv_X9_refusal (c_X9_refusal l G 2 σ12) (gz_hx0 _) rfl rfl rfl rfl rfl (Nat.le_of_ble_eq_true rfl) ⟨rfl, rfl, Nat.le_of_ble_eq_true rfl, Nat.le_of_ble_eq_true rfl, Nat.le_of_ble_eq_true rfl, Nat.le_of_ble_eq_true rfl⟩) (fun r15 σ14 => ?_)
          exact gz_zret C rfl dX9_renames_63
        · skip
          refine gz_lload_n C dX9_renames_51 3 rfl ?_
          refine gz_lload C dX9_renames_52 4 rfl ?_
          refine gz_lcmp C dX9_renames_54 ?_
          refine gz_if_ne (tgt := 64) C dX9_renames_55 (by decide) ?_ ?_
          · skip
            refine gz_aload_n C dX9_renames_64 1 rfl ?_
            refine gz_get C (t := 0) (k := 9) (ci := 9) (q := (RX9, TX9, 11)) (v := .ref (gz_ad false G 26 0)) dX9_renames_65 fl_RX9_60 (gz_hx0 _) rfl rfl (by decide) rfl ?_
            refine gz_iconst C dX9_renames_68 gk_iconst_5 ?_
            refine gz_iload_n C dX9_renames_69 2 rfl ?_
            refine gz_aload C dX9_renames_70 0 rfl ?_
            refine gz_getN C (t := 14) (k := 11) (ci := 6) (q := (RX6, TX6, 15)) (v := .long (σ12.2.1 14 i3 11)) dX9_renames_72 fl_RX9_232 (gz_hx14 _ hi3) rfl rfl (by decide) rfl ?_
            refine gz_aload C dX9_renames_75 0 rfl ?_
            refine gz_getN C (t := 14) (k := 12) (ci := 6) (q := (RX6, TX6, 15)) (v := .long (σ12.2.1 14 i3 12)) dX9_renames_77 fl_RX9_214 (gz_hx14 _ hi3) rfl rfl (by decide) rfl ?_
            refine gz_kv (gz_runV (t := 26) (ci := 0) (q := (RX0, TX0, 10)) (As := [.int 5, .int a1, .long (σ12.2.1 14 i3 11), .long (σ12.2.1 14 i3 12)]) (rest := []) C dX9_renames_80 ml_RX9_85 mw_X0_push mv_X0_push (c_X0_push l G 5 a1 (σ12.2.1 14 i3 11) (σ12.2.1 14 i3 12) σ12) (gz_hx26 _) rfl rfl rfl rfl rfl (Nat.le_of_ble_eq_true rfl) ⟨rfl, rfl, Nat.le_of_ble_eq_true rfl, Nat.le_of_ble_eq_true rfl, Nat.le_of_ble_eq_true rfl, Nat.le_of_ble_eq_true rfl⟩) (fun σ16 => ?_)
            refine gz_aload C dX9_renames_83 0 rfl ?_
            refine gz_lload_n C dX9_renames_85 3 rfl ?_
            refine gz_putJN C (t := 14) (k := 11) (ci := 6) (q := (RX6, TX6, 15)) dX9_renames_86 fl_RX9_232 (gz_hx14 _ hi3) rfl rfl (by decide) rfl rfl rfl rfl ?_
            refine gz_w_row (fun σ17 => ?_)
            refine gz_aload C dX9_renames_89 0 rfl ?_
            refine gz_lload C dX9_renames_91 4 rfl ?_
            refine gz_putJN C (t := 14) (k := 12) (ci := 6) (q := (RX6, TX6, 15)) dX9_renames_93 fl_RX9_214 (gz_hx14 _ hi3) rfl rfl (by decide) rfl rfl rfl rfl ?_
            refine gz_w_row (fun σ18 => ?_)
            refine gz_aload_n C dX9_renames_96 1 rfl ?_
            refine gz_ki (gz_runV (t := 0) (ci := 9) (q := (RX9, TX9, 11)) (As := []) (rest := []) C dX9_renames_97 ml_RX9_74 mw_X9_acceptance mv_X9_acceptance (c_X9_acceptance l G σ18) (gz_hx0 _) rfl rfl rfl rfl rfl (Nat.le_of_ble_eq_true rfl) ⟨rfl, rfl, Nat.le_of_ble_eq_true rfl, Nat.le_of_ble_eq_true rfl, Nat.le_of_ble_eq_true rfl, Nat.le_of_ble_eq_true rfl⟩) (fun r20 σ19 => ?_)
            exact gz_zret C rfl dX9_renames_100
          · skip
            refine gz_aload_n C dX9_renames_58 1 rfl ?_
            refine gz_iconst C dX9_renames_59 gk_iconst_2 ?_
            refine gz_ki (gz_runV (t := 0) (ci := 9) (q := (RX9, TX9, 11)) (As := [.int 2]) (rest := []) C dX9_renames_60 ml_RX9_68 mw_X9_refusal mv_X9_refusal (c_X9_refusal l G 2 σ12) (gz_hx0 _) rfl rfl rfl rfl rfl (Nat.le_of_ble_eq_true rfl) ⟨rfl, rfl, Nat.le_of_ble_eq_true rfl, Nat.le_of_ble_eq_true rfl, Nat.le_of_ble_eq_true rfl, Nat.le_of_ble_eq_true rfl⟩) (fun r22 σ21 => ?_)
            exact gz_zret C rfl dX9_renames_63
    · skip
      refine gz_aload_n C dX9_renames_29 1 rfl ?_
      refine gz_bipush C dX9_renames_30 gk_bipush_6 ?_
      refine gz_ki (gz_runV (t := 0) (ci := 9) (q := (RX9, TX9, 11)) (As := [.int 6]) (rest := []) C dX9_renames_32 ml_RX9_68 mw_X9_refusal mv_X9_refusal (c_X9_refusal l G 6 σ6) (gz_hx0 _) rfl rfl rfl rfl rfl (Nat.le_of_ble_eq_true rfl) ⟨rfl, rfl, Nat.le_of_ble_eq_true rfl, Nat.le_of_ble_eq_true rfl, Nat.le_of_ble_eq_true rfl, Nat.le_of_ble_eq_true rfl⟩) (fun r24 σ23 => ?_)
      exact gz_zret C rfl dX9_renames_35

def f_X9_strikes (a1 : Int32) (a2 : Int64) (σ : gz_S) : Option (Int32 × gz_S) :=
  gz_call (f_X1_at a1 σ) (fun r2 σ1 =>
  gz_nl r2 61 (gz_call (f_X9_refusal 1 σ1) (fun r5 σ4 =>
  some (r5 &&& 1, σ4))) (fun i3 =>
  gz_call (f_X6_waits i3 σ1) (fun r7 σ6 =>
  if r7 = 0 then
  (gz_call (f_X9_refusal 6 σ6) (fun r17 σ16 =>
  some (r17 &&& 1, σ16)))
  else
  (gz_call (f_X9_isWord a2 σ6) (fun r9 σ8 =>
  if r9 = 0 then
  (gz_call (f_X9_refusal 2 σ8) (fun r15 σ14 =>
  some (r15 &&& 1, σ14)))
  else
  (gz_then (f_X0_push 6 a1 (σ8.2.1 14 i3 13) 0 σ8) (fun σ10 =>
  gz_w (gz_sj σ10 14 i3 13 a2) (fun σ11 =>
  gz_call (f_X9_acceptance σ11) (fun r13 σ12 =>
  some (r13 &&& 1, σ12))))))))))
set_option maxHeartbeats 4000000 in
set_option maxRecDepth 100000 in
theorem c_X9_strikes (l : Launch) (G : gz_G) (a1 : Int32) (a2 : Int64) (σ : gz_S) : ∀ o, f_X9_strikes a1 a2 σ = some o → gz_M l false G yX9_strikes cX9_strikes 5 (some .boolean) { frames := 2, cells := 0, slots := 0, locals := 47 } [.ref (gz_ad false G 0 0), .int a1, .long a2] σ (gz_ei o) 0 0 := by
  refine gz_enter RX9 rfl (by decide) (Nat.le_of_ble_eq_true rfl) ?_
  intro p e s m args below meth c C
  refine gz_eqs (st' := []) (lv' := [(0, .ref (gz_ad false G 0 0)), (1, .int a1), (2, .long a2)]) rfl rfl ?_
  unfold f_X9_strikes
  refine gz_aload_n C dX9_strikes_0 0 rfl ?_
  refine gz_get C (t := 0) (k := 4) (ci := 9) (q := (RX9, TX9, 11)) (v := .ref (gz_ad false G 10 0)) dX9_strikes_1 fl_RX9_35 (gz_hx0 _) rfl rfl (by decide) rfl ?_
  refine gz_iload_n C dX9_strikes_4 1 rfl ?_
  refine gz_kr (t := 14) (gz_runV (t := 10) (ci := 1) (q := (RX1, TX1, 6)) (As := [.int a1]) (rest := []) C dX9_strikes_5 ml_RX9_183 mw_X1_at mv_X1_at (c_X1_at l G a1 σ) (gz_hx10 _) rfl rfl rfl rfl rfl (Nat.le_of_ble_eq_true rfl) ⟨rfl, rfl, Nat.le_of_ble_eq_true rfl, Nat.le_of_ble_eq_true rfl, Nat.le_of_ble_eq_true rfl, Nat.le_of_ble_eq_true rfl⟩) (fun r2 σ1 => ?_)
  refine gz_astoreV C (lv' := [(4, gz_rv false G 14 r2), (0, .ref (gz_ad false G 0 0)), (1, .int a1), (2, .long a2)]) dX9_strikes_8 (by decide) rfl (gz_rv_or _ _ _ _) ?_
  refine gz_aloadV C dX9_strikes_10 0 rfl (gz_rv_or _ _ _ _) ?_
  refine gz_ifnonnull (tgt := 21) C dX9_strikes_12 (by decide) (fun hr => ?_) (fun i3 hi3 hr => ?_)
  · subst hr
    refine gz_eqs (st' := []) (lv' := [(4, .null), (0, .ref (gz_ad false G 0 0)), (1, .int a1), (2, .long a2)]) rfl rfl ?_
    refine gz_aload_n C dX9_strikes_15 1 rfl ?_
    refine gz_iconst C dX9_strikes_16 gk_iconst_1 ?_
    refine gz_ki (gz_runV (t := 0) (ci := 9) (q := (RX9, TX9, 11)) (As := [.int 1]) (rest := []) C dX9_strikes_17 ml_RX9_68 mw_X9_refusal mv_X9_refusal (c_X9_refusal l G 1 σ1) (gz_hx0 _) rfl rfl rfl rfl rfl (Nat.le_of_ble_eq_true rfl) ⟨rfl, rfl, Nat.le_of_ble_eq_true rfl, Nat.le_of_ble_eq_true rfl, Nat.le_of_ble_eq_true rfl, Nat.le_of_ble_eq_true rfl⟩) (fun r5 σ4 => ?_)
    exact gz_zret C rfl dX9_strikes_20
  · subst hr
    refine gz_eqs (st' := []) (lv' := [(4, .ref (gz_ad false G 14 i3)), (0, .ref (gz_ad false G 0 0)), (1, .int a1), (2, .long a2)]) rfl rfl ?_
    refine gz_aload C dX9_strikes_21 0 rfl ?_
    refine gz_ki (gz_runV (t := 14) (ci := 6) (q := (RX6, TX6, 15)) (As := []) (rest := []) C dX9_strikes_23 ml_RX9_192 mw_X6_waits mv_X6_waits (c_X6_waits l G i3 hi3 σ1) (gz_hx14 _ hi3) rfl rfl rfl rfl rfl (Nat.le_of_ble_eq_true rfl) ⟨rfl, rfl, Nat.le_of_ble_eq_true rfl, Nat.le_of_ble_eq_true rfl, Nat.le_of_ble_eq_true rfl, Nat.le_of_ble_eq_true rfl⟩) (fun r7 σ6 => ?_)
    refine gz_if_ne (tgt := 36) C dX9_strikes_26 (by decide) ?_ ?_
    · skip
      refine gz_lload_n C dX9_strikes_36 3 rfl ?_
      refine gz_ki (gz_runS (As := [.long a2]) (rest := []) C dX9_strikes_37 ml_RX9_228 mw_X9_isWord ms_X9_isWord (c_X9_isWord l G a2 σ6) rfl rfl (Nat.le_of_ble_eq_true rfl) ⟨rfl, rfl, Nat.le_of_ble_eq_true rfl, Nat.le_of_ble_eq_true rfl, Nat.le_of_ble_eq_true rfl, Nat.le_of_ble_eq_true rfl⟩) (fun r9 σ8 => ?_)
      refine gz_if_ne (tgt := 49) C dX9_strikes_40 (by decide) ?_ ?_
      · skip
        refine gz_aload_n C dX9_strikes_49 1 rfl ?_
        refine gz_get C (t := 0) (k := 9) (ci := 9) (q := (RX9, TX9, 11)) (v := .ref (gz_ad false G 26 0)) dX9_strikes_50 fl_RX9_60 (gz_hx0 _) rfl rfl (by decide) rfl ?_
        refine gz_bipush C dX9_strikes_53 gk_bipush_6 ?_
        refine gz_iload_n C dX9_strikes_55 2 rfl ?_
        refine gz_aload C dX9_strikes_56 0 rfl ?_
        refine gz_getN C (t := 14) (k := 13) (ci := 6) (q := (RX6, TX6, 15)) (v := .long (σ8.2.1 14 i3 13)) dX9_strikes_58 fl_RX9_218 (gz_hx14 _ hi3) rfl rfl (by decide) rfl ?_
        refine gz_lconst C dX9_strikes_61 gk_lconst_0 ?_
        refine gz_kv (gz_runV (t := 26) (ci := 0) (q := (RX0, TX0, 10)) (As := [.int 6, .int a1, .long (σ8.2.1 14 i3 13), .long 0]) (rest := []) C dX9_strikes_62 ml_RX9_85 mw_X0_push mv_X0_push (c_X0_push l G 6 a1 (σ8.2.1 14 i3 13) 0 σ8) (gz_hx26 _) rfl rfl rfl rfl rfl (Nat.le_of_ble_eq_true rfl) ⟨rfl, rfl, Nat.le_of_ble_eq_true rfl, Nat.le_of_ble_eq_true rfl, Nat.le_of_ble_eq_true rfl, Nat.le_of_ble_eq_true rfl⟩) (fun σ10 => ?_)
        refine gz_aload C dX9_strikes_65 0 rfl ?_
        refine gz_lload_n C dX9_strikes_67 3 rfl ?_
        refine gz_putJN C (t := 14) (k := 13) (ci := 6) (q := (RX6, TX6, 15)) dX9_strikes_68 fl_RX9_218 (gz_hx14 _ hi3) rfl rfl (by decide) rfl rfl rfl rfl ?_
        refine gz_w_row (fun σ11 => ?_)
        refine gz_aload_n C dX9_strikes_71 1 rfl ?_
        refine gz_ki (gz_runV (t := 0) (ci := 9) (q := (RX9, TX9, 11)) (As := []) (rest := []) C dX9_strikes_72 ml_RX9_74 mw_X9_acceptance mv_X9_acceptance (c_X9_acceptance l G σ11) (gz_hx0 _) rfl rfl rfl rfl rfl (Nat.le_of_ble_eq_true rfl) ⟨rfl, rfl, Nat.le_of_ble_eq_true rfl, Nat.le_of_ble_eq_true rfl, Nat.le_of_ble_eq_true rfl, Nat.le_of_ble_eq_true rfl⟩) (fun r13 σ12 => ?_)
        exact gz_zret C rfl dX9_strikes_75
      · skip
        refine gz_aload_n C dX9_strikes_43 1 rfl ?_
        refine gz_iconst C dX9_strikes_44 gk_iconst_2 ?_
        refine gz_ki (gz_runV (t := 0) (ci := 9) (q := (RX9, TX9, 11)) (As := [.int 2]) (rest := []) C dX9_strikes_45 ml_RX9_68 mw_X9_refusal mv_X9_refusal (c_X9_refusal l G 2 σ8) (gz_hx0 _) rfl rfl rfl rfl rfl (Nat.le_of_ble_eq_true rfl) ⟨rfl, rfl, Nat.le_of_ble_eq_true rfl, Nat.le_of_ble_eq_true rfl, Nat.le_of_ble_eq_true rfl, Nat.le_of_ble_eq_true rfl⟩) (fun r15 σ14 => ?_)
        exact gz_zret C rfl dX9_strikes_48
    · skip
      refine gz_aload_n C dX9_strikes_29 1 rfl ?_
      refine gz_bipush C dX9_strikes_30 gk_bipush_6 ?_
      refine gz_ki (gz_runV (t := 0) (ci := 9) (q := (RX9, TX9, 11)) (As := [.int 6]) (rest := []) C dX9_strikes_32 ml_RX9_68 mw_X9_refusal mv_X9_refusal (c_X9_refusal l G 6 σ6) (gz_hx0 _) rfl rfl rfl rfl rfl (Nat.le_of_ble_eq_true rfl) ⟨rfl, rfl, Nat.le_of_ble_eq_true rfl, Nat.le_of_ble_eq_true rfl, Nat.le_of_ble_eq_true rfl, Nat.le_of_ble_eq_true rfl⟩) (fun r17 σ16 => ?_)
      exact gz_zret C rfl dX9_strikes_35

def f_X9_print_J108 (n1 : Nat) (a1 : Int32) : gz_S → Option (gz_S) := fun σ5 =>
  gz_then (f_X1_list (σ5.1 0 0 6) n1 σ5) (fun σ6 =>
  gz_call (f_X1_countWaiting σ6) (fun r8 σ7 =>
  gz_w (gz_si σ7 20 n1 3 r8) (fun σ9 =>
  gz_w (gz_si σ9 0 0 6 ((σ9.1 0 0 6) + 1)) (fun σ10 =>
  gz_w (gz_si σ10 0 0 7 a1) (fun σ11 =>
  gz_then (f_X0_clear σ11) (fun σ12 =>
  some σ12))))))
def f_X9_print_J102 (v13 : Int32) (rec24 : Int32 → gz_S → Option (gz_S)) : gz_S → Option (gz_S) := fun σ20 =>
  rec24 (v13 + 1) σ20
def f_X9_print_J71 (v13 : Int32) (r17 : Option Nat) (a1 : Int32) (rec24 : Int32 → gz_S → Option (gz_S)) : Option Nat → gz_S → Option (gz_S) := fun x18 σ19 =>
  gz_j0 (f_X9_print_J102 v13 rec24) (fun j102 =>
  gz_nl x18 13 (j102 σ19) (fun i21 =>
  gz_nl r17 61 none (fun i22 =>
  gz_then (f_X4_reckon i21 i22 σ19) (fun σ23 =>
  gz_then (f_X6_print i22 (σ23.1 0 0 6) a1 σ23) (fun σ24 =>
  j102 σ24)))))
def f_X9_print_L24 (a1 : Int32) (j108 : gz_S → Option (gz_S)) : (Int32 → gz_S → Option (gz_S)) → Int32 → gz_S → Option (gz_S) := fun rec24 v13 σ14 =>
  if (σ14.1 22 0 3) ≤ v13 then
  (j108 σ14)
  else
  (gz_ix v13 12 (fun n15 =>
  gz_call (f_X1_at (σ14.1 24 0 n15) σ14) (fun r17 σ16 =>
  gz_j1 (f_X9_print_J71 v13 r17 a1 rec24) (fun j71 =>
  gz_nl r17 61 (j71 none σ16) (fun i25 =>
  gz_call (f_X9_formAt (σ16.1 14 i25 0) σ16) (fun r27 σ26 =>
  j71 r27 σ26))))))
def f_X9_print (a1 : Int32) (σ : gz_S) : Option (gz_S) :=
  gz_ix (σ.1 0 0 6) 40 (fun n1 =>
  gz_call (f_X7_pagesNeeded σ) (fun r3 σ2 =>
  gz_then (f_X5_begin n1 a1 r3 σ2) (fun σ4 =>
  gz_j0 (f_X9_print_J108 n1 a1) (fun j108 =>
  gz_l1 (f_X9_print_L24 a1 j108) gz_fu 0 σ4))))
set_option maxHeartbeats 4000000 in
set_option maxRecDepth 100000 in
theorem c_X9_print (l : Launch) (G : gz_G) (a1 : Int32) (σ : gz_S) : ∀ o, f_X9_print a1 σ = some o → gz_M l false G yX9_print cX9_print 6 none { frames := 5, cells := 0, slots := 0, locals := 115 } [.ref (gz_ad false G 0 0), .int a1] σ (gz_eu o) 0 0 := by
  refine gz_enter RX9 rfl (by decide) (Nat.le_of_ble_eq_true rfl) ?_
  intro p e s m args below meth c C
  refine gz_eqs (st' := []) (lv' := [(0, .ref (gz_ad false G 0 0)), (1, .int a1)]) rfl rfl ?_
  unfold f_X9_print
  refine gz_aload_n C dX9_print_0 0 rfl ?_
  refine gz_get C (t := 0) (k := 5) (ci := 9) (q := (RX9, TX9, 11)) (v := .ref (gz_ad false G 19 0)) dX9_print_1 fl_RX9_41 (gz_hx0 _) rfl rfl (by decide) rfl ?_
  refine gz_aload_n C dX9_print_4 0 rfl ?_
  refine gz_get C (t := 0) (k := 6) (ci := 9) (q := (RX9, TX9, 11)) (v := .int (σ.1 0 0 6)) dX9_print_5 fl_RX9_235 (gz_hx0 _) rfl rfl (by decide) rfl ?_
  refine gz_aald6 C (t := 19) dX9_print_8 (gz_hx19 _) rfl (fun n1 hn1 => ?_)
  refine gz_astore_n C (lv' := [(2, .ref (gz_ad false G 20 n1)), (0, .ref (gz_ad false G 0 0)), (1, .int a1)]) dX9_print_9 (by decide) rfl ?_
  refine gz_aload_n C dX9_print_10 0 rfl ?_
  refine gz_iload_n C dX9_print_11 2 rfl ?_
  refine gz_aload_n C dX9_print_12 1 rfl ?_
  refine gz_get C (t := 0) (k := 8) (ci := 9) (q := (RX9, TX9, 11)) (v := .ref (gz_ad false G 22 0)) dX9_print_13 fl_RX9_53 (gz_hx0 _) rfl rfl (by decide) rfl ?_
  refine gz_ki (gz_runV (t := 22) (ci := 7) (q := (RX7, TX7, 7)) (As := []) (rest := [.int a1, .ref (gz_ad false G 20 n1)]) C dX9_print_16 ml_RX9_324 mw_X7_pagesNeeded mv_X7_pagesNeeded (c_X7_pagesNeeded l G σ) (gz_hx22 _) rfl rfl rfl rfl rfl (Nat.le_of_ble_eq_true rfl) ⟨rfl, rfl, Nat.le_of_ble_eq_true rfl, Nat.le_of_ble_eq_true rfl, Nat.le_of_ble_eq_true rfl, Nat.le_of_ble_eq_true rfl⟩) (fun r3 σ2 => ?_)
  refine gz_kv (gz_runV (t := 20) (ci := 5) (q := (RX5, TX5, 6)) (As := [.int a1, .int r3]) (rest := []) C dX9_print_19 ml_RX9_327 mw_X5_begin mv_X5_begin (c_X5_begin l G n1 a1 r3 hn1 σ2) (gz_hx20 _ hn1) rfl rfl rfl rfl rfl (Nat.le_of_ble_eq_true rfl) ⟨rfl, rfl, Nat.le_of_ble_eq_true rfl, Nat.le_of_ble_eq_true rfl, Nat.le_of_ble_eq_true rfl, Nat.le_of_ble_eq_true rfl⟩) (fun σ4 => ?_)
  refine gz_iconst C dX9_print_22 gk_iconst_0 ?_
  refine gz_istore_n C (lv' := [(3, .int 0), (2, .ref (gz_ad false G 20 n1)), (0, .ref (gz_ad false G 0 0)), (1, .int a1)]) dX9_print_23 (by decide) rfl ?_
  refine gz_j0_row (P := fun σ5 x => gz_W false p l e ({ frames := 5, cells := 0, slots := 0, locals := 115 } : Room) s m args below meth c G 6 (gz_Q false G below args s 0 0 gz_eu) 0 0 σ5 108 [(0, .ref (gz_ad false G 0 0)), (1, .int a1), (2, .ref (gz_ad false G 20 n1))] [] x) (fun σ5 => ?_) (fun j108 hj108 => ?_)
  · unfold f_X9_print_J108
    refine gz_aload_n C dX9_print_108 0 rfl ?_
    refine gz_get C (t := 0) (k := 4) (ci := 9) (q := (RX9, TX9, 11)) (v := .ref (gz_ad false G 10 0)) dX9_print_109 fl_RX9_35 (gz_hx0 _) rfl rfl (by decide) rfl ?_
    refine gz_aload_n C dX9_print_112 0 rfl ?_
    refine gz_get C (t := 0) (k := 6) (ci := 9) (q := (RX9, TX9, 11)) (v := .int (σ5.1 0 0 6)) dX9_print_113 fl_RX9_235 (gz_hx0 _) rfl rfl (by decide) rfl ?_
    refine gz_aload_n C dX9_print_116 2 rfl ?_
    refine gz_kv (gz_runV (t := 10) (ci := 1) (q := (RX1, TX1, 6)) (As := [.int (σ5.1 0 0 6), .ref (gz_ad false G 20 n1)]) (rest := []) C dX9_print_117 ml_RX9_333 mw_X1_list mv_X1_list (c_X1_list l G (σ5.1 0 0 6) n1 hn1 σ5) (gz_hx10 _) rfl rfl rfl rfl rfl (Nat.le_of_ble_eq_true rfl) ⟨rfl, rfl, Nat.le_of_ble_eq_true rfl, Nat.le_of_ble_eq_true rfl, Nat.le_of_ble_eq_true rfl, Nat.le_of_ble_eq_true rfl⟩) (fun σ6 => ?_)
    refine gz_aload_n C dX9_print_120 2 rfl ?_
    refine gz_aload_n C dX9_print_121 0 rfl ?_
    refine gz_get C (t := 0) (k := 4) (ci := 9) (q := (RX9, TX9, 11)) (v := .ref (gz_ad false G 10 0)) dX9_print_122 fl_RX9_35 (gz_hx0 _) rfl rfl (by decide) rfl ?_
    refine gz_ki (gz_runV (t := 10) (ci := 1) (q := (RX1, TX1, 6)) (As := []) (rest := [.ref (gz_ad false G 20 n1)]) C dX9_print_125 ml_RX9_314 mw_X1_countWaiting mv_X1_countWaiting (c_X1_countWaiting l G σ6) (gz_hx10 _) rfl rfl rfl rfl rfl (Nat.le_of_ble_eq_true rfl) ⟨rfl, rfl, Nat.le_of_ble_eq_true rfl, Nat.le_of_ble_eq_true rfl, Nat.le_of_ble_eq_true rfl, Nat.le_of_ble_eq_true rfl⟩) (fun r8 σ7 => ?_)
    refine gz_putIN C (t := 20) (k := 3) (ci := 5) (q := (RX5, TX5, 6)) dX9_print_128 fl_RX9_262 (gz_hx20 _ hn1) rfl rfl (by decide) rfl rfl rfl rfl ?_
    refine gz_w_row (fun σ9 => ?_)
    refine gz_aload_n C dX9_print_131 0 rfl ?_
    refine gz_dup C dX9_print_132 rfl ?_
    refine gz_get C (t := 0) (k := 6) (ci := 9) (q := (RX9, TX9, 11)) (v := .int (σ9.1 0 0 6)) dX9_print_133 fl_RX9_235 (gz_hx0 _) rfl rfl (by decide) rfl ?_
    refine gz_iconst C dX9_print_136 gk_iconst_1 ?_
    refine gz_iadd C dX9_print_137 ?_
    refine gz_putI C (t := 0) (k := 6) (ci := 9) (q := (RX9, TX9, 11)) dX9_print_138 fl_RX9_235 (gz_hx0 _) rfl rfl (by decide) rfl rfl rfl rfl ?_
    refine gz_w_row (fun σ10 => ?_)
    refine gz_aload_n C dX9_print_141 0 rfl ?_
    refine gz_iload_n C dX9_print_142 1 rfl ?_
    refine gz_putI C (t := 0) (k := 7) (ci := 9) (q := (RX9, TX9, 11)) dX9_print_143 fl_RX9_46 (gz_hx0 _) rfl rfl (by decide) rfl rfl rfl rfl ?_
    refine gz_w_row (fun σ11 => ?_)
    refine gz_aload_n C dX9_print_146 0 rfl ?_
    refine gz_get C (t := 0) (k := 9) (ci := 9) (q := (RX9, TX9, 11)) (v := .ref (gz_ad false G 26 0)) dX9_print_147 fl_RX9_60 (gz_hx0 _) rfl rfl (by decide) rfl ?_
    refine gz_kv (gz_runV (t := 26) (ci := 0) (q := (RX0, TX0, 10)) (As := []) (rest := []) C dX9_print_150 ml_RX9_337 mw_X0_clear mv_X0_clear (c_X0_clear l G σ11) (gz_hx26 _) rfl rfl rfl rfl rfl (Nat.le_of_ble_eq_true rfl) ⟨rfl, rfl, Nat.le_of_ble_eq_true rfl, Nat.le_of_ble_eq_true rfl, Nat.le_of_ble_eq_true rfl, Nat.le_of_ble_eq_true rfl⟩) (fun σ12 => ?_)
    exact gz_vret C rfl dX9_print_153
  · skip
    refine gz_lv (lv' := [(0, .ref (gz_ad false G 0 0)), (1, .int a1), (2, .ref (gz_ad false G 20 n1)), (3, .int 0)]) [2, 3, 1, 0] rfl ?_
    refine gz_l1_ind (P := fun v13 σ14 x => gz_W false p l e ({ frames := 5, cells := 0, slots := 0, locals := 115 } : Room) s m args below meth c G 6 (gz_Q false G below args s 0 0 gz_eu) 0 0 σ14 24 [(0, .ref (gz_ad false G 0 0)), (1, .int a1), (2, .ref (gz_ad false G 20 n1)), (3, .int v13)] [] x) (fun _ _ => gz_none) (fun rec24 hrec24 v13 σ14 => ?_) gz_fu 0 σ4
    unfold f_X9_print_L24
    refine gz_iload_n C dX9_print_24 3 rfl ?_
    refine gz_aload_n C dX9_print_25 0 rfl ?_
    refine gz_get C (t := 0) (k := 8) (ci := 9) (q := (RX9, TX9, 11)) (v := .ref (gz_ad false G 22 0)) dX9_print_26 fl_RX9_53 (gz_hx0 _) rfl rfl (by decide) rfl ?_
    refine gz_getN C (t := 22) (k := 3) (ci := 7) (q := (RX7, TX7, 7)) (v := .int (σ14.1 22 0 3)) dX9_print_29 fl_RX9_329 (gz_hx22 _) rfl rfl (by decide) rfl ?_
    refine gz_icmp_ge (tgt := 108) C dX9_print_32 (by decide) ?_ ?_
    · skip
      refine gz_lv (lv' := [(0, .ref (gz_ad false G 0 0)), (1, .int a1), (2, .ref (gz_ad false G 20 n1))]) [0, 1, 2] rfl ?_
      exact hj108 σ14
    · skip
      refine gz_aload_n C dX9_print_35 0 rfl ?_
      refine gz_get C (t := 0) (k := 4) (ci := 9) (q := (RX9, TX9, 11)) (v := .ref (gz_ad false G 10 0)) dX9_print_36 fl_RX9_35 (gz_hx0 _) rfl rfl (by decide) rfl ?_
      refine gz_aload_n C dX9_print_39 0 rfl ?_
      refine gz_get C (t := 0) (k := 8) (ci := 9) (q := (RX9, TX9, 11)) (v := .ref (gz_ad false G 22 0)) dX9_print_40 fl_RX9_53 (gz_hx0 _) rfl rfl (by decide) rfl ?_
      refine gz_getN C (t := 22) (k := 1) (ci := 7) (q := (RX7, TX7, 7)) (v := .ref (gz_ad false G 24 0)) dX9_print_43 fl_RX9_330 (gz_hx22 _) rfl rfl (by decide) rfl ?_
      refine gz_iload_n C dX9_print_46 3 rfl ?_
      refine gz_iald C (t := 24) dX9_print_47 (gz_hx24 _) rfl (fun n15 hn15 => ?_)
      refine gz_kr (t := 14) (gz_runV (t := 10) (ci := 1) (q := (RX1, TX1, 6)) (As := [.int (σ14.1 24 0 n15)]) (rest := []) C dX9_print_48 ml_RX9_183 mw_X1_at mv_X1_at (c_X1_at l G (σ14.1 24 0 n15) σ14) (gz_hx10 _) rfl rfl rfl rfl rfl (Nat.le_of_ble_eq_true rfl) ⟨rfl, rfl, Nat.le_of_ble_eq_true rfl, Nat.le_of_ble_eq_true rfl, Nat.le_of_ble_eq_true rfl, Nat.le_of_ble_eq_true rfl⟩) (fun r17 σ16 => ?_)
      refine gz_astoreV C (lv' := [(4, gz_rv false G 14 r17), (0, .ref (gz_ad false G 0 0)), (1, .int a1), (2, .ref (gz_ad false G 20 n1)), (3, .int v13)]) dX9_print_51 (by decide) rfl (gz_rv_or _ _ _ _) ?_
      refine gz_aloadV C dX9_print_53 0 rfl (gz_rv_or _ _ _ _) ?_
      refine gz_j1_row (P := fun x18 σ19 x => gz_W false p l e ({ frames := 5, cells := 0, slots := 0, locals := 115 } : Room) s m args below meth c G 6 (gz_Q false G below args s 0 0 gz_eu) 0 0 σ19 71 [(0, .ref (gz_ad false G 0 0)), (1, .int a1), (2, .ref (gz_ad false G 20 n1)), (3, .int v13), (4, gz_rv false G 14 r17)] [gz_rv false G 6 x18] x) (fun x18 σ19 => ?_) (fun j71 hj71 => ?_)
      · unfold f_X9_print_J71
        refine gz_astoreV C (lv' := [(5, gz_rv false G 6 x18), (0, .ref (gz_ad false G 0 0)), (1, .int a1), (2, .ref (gz_ad false G 20 n1)), (3, .int v13), (4, gz_rv false G 14 r17)]) dX9_print_71 (by decide) (by cases r17 <;> rfl) (gz_rv_or _ _ _ _) ?_
        refine gz_aloadV C dX9_print_73 0 rfl (gz_rv_or _ _ _ _) ?_
        refine gz_j0_row (P := fun σ20 x => gz_W false p l e ({ frames := 5, cells := 0, slots := 0, locals := 115 } : Room) s m args below meth c G 6 (gz_Q false G below args s 0 0 gz_eu) 0 0 σ20 102 [(0, .ref (gz_ad false G 0 0)), (1, .int a1), (2, .ref (gz_ad false G 20 n1)), (3, .int v13)] [] x) (fun σ20 => ?_) (fun j102 hj102 => ?_)
        · unfold f_X9_print_J102
          refine gz_iinc C (q := 3) (v := v13 + 1) (lv' := [(3, .int (v13 + 1)), (0, .ref (gz_ad false G 0 0)), (1, .int a1), (2, .ref (gz_ad false G 20 n1))]) dX9_print_102 rfl rfl (by decide) rfl ?_
          refine gz_goto (tgt := 24) C dX9_print_105 (by decide) ?_
          refine gz_lv (lv' := [(0, .ref (gz_ad false G 0 0)), (1, .int a1), (2, .ref (gz_ad false G 20 n1)), (3, .int (v13 + 1))]) [1, 2, 3, 0] rfl ?_
          exact hrec24 (v13 + 1) σ20
        · skip
          refine gz_ifnull (tgt := 102) C dX9_print_75 (by decide) (fun hr => ?_) (fun i21 hi21 hr => ?_)
          · subst hr
            refine gz_eqs (st' := []) (lv' := [(5, .null), (0, .ref (gz_ad false G 0 0)), (1, .int a1), (2, .ref (gz_ad false G 20 n1)), (3, .int v13), (4, gz_rv false G 14 r17)]) rfl rfl ?_
            refine gz_lv (lv' := [(0, .ref (gz_ad false G 0 0)), (1, .int a1), (2, .ref (gz_ad false G 20 n1)), (3, .int v13)]) [1, 2, 3, 4] rfl ?_
            exact hj102 σ19
          · subst hr
            refine gz_eqs (st' := []) (lv' := [(5, .ref (gz_ad false G 6 i21)), (0, .ref (gz_ad false G 0 0)), (1, .int a1), (2, .ref (gz_ad false G 20 n1)), (3, .int v13), (4, gz_rv false G 14 r17)]) rfl rfl ?_
            refine gz_aload C dX9_print_78 0 rfl ?_
            refine gz_aloadV C dX9_print_80 5 rfl (gz_rv_or _ _ _ _) ?_
            refine gz_nn (fun i22 hi22 hr => ?_)
            subst hr
            refine gz_eqs (st' := [.ref (gz_ad false G 14 i22), .ref (gz_ad false G 6 i21)]) (lv' := [(5, .ref (gz_ad false G 6 i21)), (0, .ref (gz_ad false G 0 0)), (1, .int a1), (2, .ref (gz_ad false G 20 n1)), (3, .int v13), (4, .ref (gz_ad false G 14 i22))]) rfl rfl ?_
            refine gz_getN C (t := 14) (k := 5) (ci := 6) (q := (RX6, TX6, 15)) (v := .ref (gz_ad false G 15 i22)) dX9_print_82 fl_RX9_137 (gz_hx14 _ hi22) rfl rfl (by decide) rfl ?_
            refine gz_aload_n C dX9_print_85 1 rfl ?_
            refine gz_get C (t := 0) (k := 0) (ci := 9) (q := (RX9, TX9, 11)) (v := .ref (gz_ad false G 1 0)) dX9_print_86 fl_RX9_12 (gz_hx0 _) rfl rfl (by decide) rfl ?_
            refine gz_kv (gz_runV (t := 6) (ci := 4) (q := (RX4, TX4, 2)) (As := [.ref (gz_ad false G 15 i22), .ref (gz_ad false G 1 0)]) (rest := []) C dX9_print_89 ml_RX9_195 mw_X4_reckon mv_X4_reckon (c_X4_reckon l G i21 i22 hi21 hi22 σ19) (gz_hx6 _ hi21) rfl rfl rfl rfl rfl (Nat.le_of_ble_eq_true rfl) ⟨rfl, rfl, Nat.le_of_ble_eq_true rfl, Nat.le_of_ble_eq_true rfl, Nat.le_of_ble_eq_true rfl, Nat.le_of_ble_eq_true rfl⟩) (fun σ23 => ?_)
            refine gz_aload C dX9_print_92 5 rfl ?_
            refine gz_aload_n C dX9_print_94 1 rfl ?_
            refine gz_get C (t := 0) (k := 6) (ci := 9) (q := (RX9, TX9, 11)) (v := .int (σ23.1 0 0 6)) dX9_print_95 fl_RX9_235 (gz_hx0 _) rfl rfl (by decide) rfl ?_
            refine gz_iload_n C dX9_print_98 2 rfl ?_
            refine gz_kv (gz_runV (t := 14) (ci := 6) (q := (RX6, TX6, 15)) (As := [.int (σ23.1 0 0 6), .int a1]) (rest := []) C dX9_print_99 ml_RX9_331 mw_X6_print mv_X6_print (c_X6_print l G i22 (σ23.1 0 0 6) a1 hi22 σ23) (gz_hx14 _ hi22) rfl rfl rfl rfl rfl (Nat.le_of_ble_eq_true rfl) ⟨rfl, rfl, Nat.le_of_ble_eq_true rfl, Nat.le_of_ble_eq_true rfl, Nat.le_of_ble_eq_true rfl, Nat.le_of_ble_eq_true rfl⟩) (fun σ24 => ?_)
            refine gz_lv (lv' := [(0, .ref (gz_ad false G 0 0)), (1, .int a1), (2, .ref (gz_ad false G 20 n1)), (3, .int v13)]) [1, 2, 3, 4] rfl ?_
            exact hj102 σ24
      · skip
        refine gz_ifnonnull (tgt := 62) C dX9_print_55 (by decide) (fun hr => ?_) (fun i25 hi25 hr => ?_)
        · subst hr
          refine gz_eqs (st' := []) (lv' := [(4, .null), (0, .ref (gz_ad false G 0 0)), (1, .int a1), (2, .ref (gz_ad false G 20 n1)), (3, .int v13)]) rfl rfl ?_
          refine gz_null C dX9_print_58 ?_
          refine gz_goto (tgt := 71) C dX9_print_59 (by decide) ?_
          refine gz_lv (lv' := [(0, .ref (gz_ad false G 0 0)), (1, .int a1), (2, .ref (gz_ad false G 20 n1)), (3, .int v13), (4, .null)]) [1, 2, 3, 4, 0] rfl ?_
          exact hj71 none σ16
        · subst hr
          refine gz_eqs (st' := []) (lv' := [(4, .ref (gz_ad false G 14 i25)), (0, .ref (gz_ad false G 0 0)), (1, .int a1), (2, .ref (gz_ad false G 20 n1)), (3, .int v13)]) rfl rfl ?_
          refine gz_aload_n C dX9_print_62 1 rfl ?_
          refine gz_aload C dX9_print_63 0 rfl ?_
          refine gz_getN C (t := 14) (k := 0) (ci := 6) (q := (RX6, TX6, 15)) (v := .int (σ16.1 14 i25 0)) dX9_print_65 fl_RX9_189 (gz_hx14 _ hi25) rfl rfl (by decide) rfl ?_
          refine gz_kr (t := 6) (gz_runV (t := 0) (ci := 9) (q := (RX9, TX9, 11)) (As := [.int (σ16.1 14 i25 0)]) (rest := []) C dX9_print_68 ml_RX9_123 mw_X9_formAt mv_X9_formAt (c_X9_formAt l G (σ16.1 14 i25 0) σ16) (gz_hx0 _) rfl rfl rfl rfl rfl (Nat.le_of_ble_eq_true rfl) ⟨rfl, rfl, Nat.le_of_ble_eq_true rfl, Nat.le_of_ble_eq_true rfl, Nat.le_of_ble_eq_true rfl, Nat.le_of_ble_eq_true rfl⟩) (fun r27 σ26 => ?_)
          refine gz_lv (lv' := [(0, .ref (gz_ad false G 0 0)), (1, .int a1), (2, .ref (gz_ad false G 20 n1)), (3, .int v13), (4, .ref (gz_ad false G 14 i25))]) [1, 2, 3, 4, 0] rfl ?_
          exact hj71 r27 σ26

def f_X9_issue (a1 : Int32) (a2 : Int32) (a3 : Int32) (a4 : Int32) (σ : gz_S) : Option (Int32 × gz_S) :=
  gz_call (f_X9_isDay a1 σ) (fun r2 σ1 =>
  if r2 = 0 then
  (gz_call (f_X9_refused 2 σ1) (fun r4 σ3 =>
  some (r4, σ3)))
  else
  (if a1 ≤ (σ1.1 0 0 7) then
  (gz_call (f_X9_refused 2 σ1) (fun r6 σ5 =>
  some (r6, σ5)))
  else
  (if a2 ≤ a1 then
  (gz_call (f_X9_refused 2 σ1) (fun r8 σ7 =>
  some (r8, σ7)))
  else
  (if a2 ≤ 10000 then
  (if a3 < 1 then
  (gz_call (f_X9_refused 2 σ1) (fun r10 σ9 =>
  some (r10, σ9)))
  else
  (if 8 < a3 then
  (gz_call (f_X9_refused 2 σ1) (fun r12 σ11 =>
  some (r12, σ11)))
  else
  (if a4 < 10 then
  (gz_call (f_X9_refused 2 σ1) (fun r14 σ13 =>
  some (r14, σ13)))
  else
  (if a4 ≤ 60 then
  (if (σ1.1 0 0 6) < 40 then
  (gz_then (f_X7_start a3 a4 σ1) (fun σ15 =>
  gz_call (f_X1_takeMust a2 σ15) (fun r17 σ16 =>
  if r17 = 0 then
  (gz_call (f_X9_refused 5 σ16) (fun r23 σ22 =>
  some (r23, σ22)))
  else
  (gz_then (f_X1_takeOthers a2 σ16) (fun σ18 =>
  gz_then (f_X9_print a1 σ18) (fun σ19 =>
  gz_call (f_X9_accepted ((σ19.1 0 0 6) - 1) σ19) (fun r21 σ20 =>
  some (r21, σ20))))))))
  else
  (gz_call (f_X9_refused 3 σ1) (fun r25 σ24 =>
  some (r25, σ24))))
  else
  (gz_call (f_X9_refused 2 σ1) (fun r27 σ26 =>
  some (r27, σ26)))))))
  else
  (gz_call (f_X9_refused 2 σ1) (fun r29 σ28 =>
  some (r29, σ28)))))))
set_option maxHeartbeats 4000000 in
set_option maxRecDepth 100000 in
theorem c_X9_issue (l : Launch) (G : gz_G) (a1 : Int32) (a2 : Int32) (a3 : Int32) (a4 : Int32) (σ : gz_S) : ∀ o, f_X9_issue a1 a2 a3 a4 σ = some o → gz_M l false G yX9_issue cX9_issue 5 (some .int) { frames := 6, cells := 0, slots := 0, locals := 140 } [.ref (gz_ad false G 0 0), .int a1, .int a2, .int a3, .int a4] σ (gz_ei o) 0 0 := by
  refine gz_enter RX9 rfl (by decide) (Nat.le_of_ble_eq_true rfl) ?_
  intro p e s m args below meth c C
  refine gz_eqs (st' := []) (lv' := [(0, .ref (gz_ad false G 0 0)), (1, .int a1), (2, .int a2), (3, .int a3), (4, .int a4)]) rfl rfl ?_
  unfold f_X9_issue
  refine gz_iload_n C dX9_issue_0 1 rfl ?_
  refine gz_ki (gz_runS (As := [.int a1]) (rest := []) C dX9_issue_1 ml_RX9_64 mw_X9_isDay ms_X9_isDay (c_X9_isDay l G a1 σ) rfl rfl (Nat.le_of_ble_eq_true rfl) ⟨rfl, rfl, Nat.le_of_ble_eq_true rfl, Nat.le_of_ble_eq_true rfl, Nat.le_of_ble_eq_true rfl, Nat.le_of_ble_eq_true rfl⟩) (fun r2 σ1 => ?_)
  refine gz_if_eq (tgt := 27) C dX9_issue_4 (by decide) ?_ ?_
  · skip
    refine gz_aload_n C dX9_issue_27 0 rfl ?_
    refine gz_iconst C dX9_issue_28 gk_iconst_2 ?_
    refine gz_ki (gz_runV (t := 0) (ci := 9) (q := (RX9, TX9, 11)) (As := [.int 2]) (rest := []) C dX9_issue_29 ml_RX9_89 mw_X9_refused mv_X9_refused (c_X9_refused l G 2 σ1) (gz_hx0 _) rfl rfl rfl rfl rfl (Nat.le_of_ble_eq_true rfl) ⟨rfl, rfl, Nat.le_of_ble_eq_true rfl, Nat.le_of_ble_eq_true rfl, Nat.le_of_ble_eq_true rfl, Nat.le_of_ble_eq_true rfl⟩) (fun r4 σ3 => ?_)
    exact gz_iret C rfl dX9_issue_32
  · skip
    refine gz_iload_n C dX9_issue_7 1 rfl ?_
    refine gz_aload_n C dX9_issue_8 0 rfl ?_
    refine gz_get C (t := 0) (k := 7) (ci := 9) (q := (RX9, TX9, 11)) (v := .int (σ1.1 0 0 7)) dX9_issue_9 fl_RX9_46 (gz_hx0 _) rfl rfl (by decide) rfl ?_
    refine gz_icmp_le (tgt := 27) C dX9_issue_12 (by decide) ?_ ?_
    · skip
      refine gz_aload_n C dX9_issue_27 0 rfl ?_
      refine gz_iconst C dX9_issue_28 gk_iconst_2 ?_
      refine gz_ki (gz_runV (t := 0) (ci := 9) (q := (RX9, TX9, 11)) (As := [.int 2]) (rest := []) C dX9_issue_29 ml_RX9_89 mw_X9_refused mv_X9_refused (c_X9_refused l G 2 σ1) (gz_hx0 _) rfl rfl rfl rfl rfl (Nat.le_of_ble_eq_true rfl) ⟨rfl, rfl, Nat.le_of_ble_eq_true rfl, Nat.le_of_ble_eq_true rfl, Nat.le_of_ble_eq_true rfl, Nat.le_of_ble_eq_true rfl⟩) (fun r6 σ5 => ?_)
      exact gz_iret C rfl dX9_issue_32
    · skip
      refine gz_iload_n C dX9_issue_15 2 rfl ?_
      refine gz_iload_n C dX9_issue_16 1 rfl ?_
      refine gz_icmp_le (tgt := 27) C dX9_issue_17 (by decide) ?_ ?_
      · skip
        refine gz_aload_n C dX9_issue_27 0 rfl ?_
        refine gz_iconst C dX9_issue_28 gk_iconst_2 ?_
        refine gz_ki (gz_runV (t := 0) (ci := 9) (q := (RX9, TX9, 11)) (As := [.int 2]) (rest := []) C dX9_issue_29 ml_RX9_89 mw_X9_refused mv_X9_refused (c_X9_refused l G 2 σ1) (gz_hx0 _) rfl rfl rfl rfl rfl (Nat.le_of_ble_eq_true rfl) ⟨rfl, rfl, Nat.le_of_ble_eq_true rfl, Nat.le_of_ble_eq_true rfl, Nat.le_of_ble_eq_true rfl, Nat.le_of_ble_eq_true rfl⟩) (fun r8 σ7 => ?_)
        exact gz_iret C rfl dX9_issue_32
      · skip
        refine gz_iload_n C dX9_issue_20 2 rfl ?_
        refine gz_sipush C dX9_issue_21 gk_sipush_10000 ?_
        refine gz_icmp_le (tgt := 33) C dX9_issue_24 (by decide) ?_ ?_
        · skip
          refine gz_iload_n C dX9_issue_33 3 rfl ?_
          refine gz_iconst C dX9_issue_34 gk_iconst_1 ?_
          refine gz_icmp_lt (tgt := 58) C dX9_issue_35 (by decide) ?_ ?_
          · skip
            refine gz_aload_n C dX9_issue_58 0 rfl ?_
            refine gz_iconst C dX9_issue_59 gk_iconst_2 ?_
            refine gz_ki (gz_runV (t := 0) (ci := 9) (q := (RX9, TX9, 11)) (As := [.int 2]) (rest := []) C dX9_issue_60 ml_RX9_89 mw_X9_refused mv_X9_refused (c_X9_refused l G 2 σ1) (gz_hx0 _) rfl rfl rfl rfl rfl (Nat.le_of_ble_eq_true rfl) ⟨rfl, rfl, Nat.le_of_ble_eq_true rfl, Nat.le_of_ble_eq_true rfl, Nat.le_of_ble_eq_true rfl, Nat.le_of_ble_eq_true rfl⟩) (fun r10 σ9 => ?_)
            exact gz_iret C rfl dX9_issue_63
          · skip
            refine gz_iload_n C dX9_issue_38 3 rfl ?_
            refine gz_bipush C dX9_issue_39 gk_bipush_8 ?_
            refine gz_icmp_gt (tgt := 58) C dX9_issue_41 (by decide) ?_ ?_
            · skip
              refine gz_aload_n C dX9_issue_58 0 rfl ?_
              refine gz_iconst C dX9_issue_59 gk_iconst_2 ?_
              refine gz_ki (gz_runV (t := 0) (ci := 9) (q := (RX9, TX9, 11)) (As := [.int 2]) (rest := []) C dX9_issue_60 ml_RX9_89 mw_X9_refused mv_X9_refused (c_X9_refused l G 2 σ1) (gz_hx0 _) rfl rfl rfl rfl rfl (Nat.le_of_ble_eq_true rfl) ⟨rfl, rfl, Nat.le_of_ble_eq_true rfl, Nat.le_of_ble_eq_true rfl, Nat.le_of_ble_eq_true rfl, Nat.le_of_ble_eq_true rfl⟩) (fun r12 σ11 => ?_)
              exact gz_iret C rfl dX9_issue_63
            · skip
              refine gz_iload C dX9_issue_44 4 rfl ?_
              refine gz_bipush C dX9_issue_46 gk_bipush_10 ?_
              refine gz_icmp_lt (tgt := 58) C dX9_issue_48 (by decide) ?_ ?_
              · skip
                refine gz_aload_n C dX9_issue_58 0 rfl ?_
                refine gz_iconst C dX9_issue_59 gk_iconst_2 ?_
                refine gz_ki (gz_runV (t := 0) (ci := 9) (q := (RX9, TX9, 11)) (As := [.int 2]) (rest := []) C dX9_issue_60 ml_RX9_89 mw_X9_refused mv_X9_refused (c_X9_refused l G 2 σ1) (gz_hx0 _) rfl rfl rfl rfl rfl (Nat.le_of_ble_eq_true rfl) ⟨rfl, rfl, Nat.le_of_ble_eq_true rfl, Nat.le_of_ble_eq_true rfl, Nat.le_of_ble_eq_true rfl, Nat.le_of_ble_eq_true rfl⟩) (fun r14 σ13 => ?_)
                exact gz_iret C rfl dX9_issue_63
              · skip
                refine gz_iload C dX9_issue_51 4 rfl ?_
                refine gz_bipush C dX9_issue_53 gk_bipush_60 ?_
                refine gz_icmp_le (tgt := 64) C dX9_issue_55 (by decide) ?_ ?_
                · skip
                  refine gz_aload_n C dX9_issue_64 0 rfl ?_
                  refine gz_get C (t := 0) (k := 6) (ci := 9) (q := (RX9, TX9, 11)) (v := .int (σ1.1 0 0 6)) dX9_issue_65 fl_RX9_235 (gz_hx0 _) rfl rfl (by decide) rfl ?_
                  refine gz_bipush C dX9_issue_68 gk_bipush_40 ?_
                  refine gz_icmp_lt (tgt := 79) C dX9_issue_70 (by decide) ?_ ?_
                  · skip
                    refine gz_aload_n C dX9_issue_79 0 rfl ?_
                    refine gz_get C (t := 0) (k := 8) (ci := 9) (q := (RX9, TX9, 11)) (v := .ref (gz_ad false G 22 0)) dX9_issue_80 fl_RX9_53 (gz_hx0 _) rfl rfl (by decide) rfl ?_
                    refine gz_iload_n C dX9_issue_83 3 rfl ?_
                    refine gz_iload C dX9_issue_84 4 rfl ?_
                    refine gz_kv (gz_runV (t := 22) (ci := 7) (q := (RX7, TX7, 7)) (As := [.int a3, .int a4]) (rest := []) C dX9_issue_86 ml_RX9_238 mw_X7_start mv_X7_start (c_X7_start l G a3 a4 σ1) (gz_hx22 _) rfl rfl rfl rfl rfl (Nat.le_of_ble_eq_true rfl) ⟨rfl, rfl, Nat.le_of_ble_eq_true rfl, Nat.le_of_ble_eq_true rfl, Nat.le_of_ble_eq_true rfl, Nat.le_of_ble_eq_true rfl⟩) (fun σ15 => ?_)
                    refine gz_aload_n C dX9_issue_89 0 rfl ?_
                    refine gz_get C (t := 0) (k := 4) (ci := 9) (q := (RX9, TX9, 11)) (v := .ref (gz_ad false G 10 0)) dX9_issue_90 fl_RX9_35 (gz_hx0 _) rfl rfl (by decide) rfl ?_
                    refine gz_aload_n C dX9_issue_93 0 rfl ?_
                    refine gz_get C (t := 0) (k := 8) (ci := 9) (q := (RX9, TX9, 11)) (v := .ref (gz_ad false G 22 0)) dX9_issue_94 fl_RX9_53 (gz_hx0 _) rfl rfl (by decide) rfl ?_
                    refine gz_iload_n C dX9_issue_97 2 rfl ?_
                    refine gz_ki (gz_runV (t := 10) (ci := 1) (q := (RX1, TX1, 6)) (As := [.ref (gz_ad false G 22 0), .int a2]) (rest := []) C dX9_issue_98 ml_RX9_241 mw_X1_takeMust mv_X1_takeMust (c_X1_takeMust l G a2 σ15) (gz_hx10 _) rfl rfl rfl rfl rfl (Nat.le_of_ble_eq_true rfl) ⟨rfl, rfl, Nat.le_of_ble_eq_true rfl, Nat.le_of_ble_eq_true rfl, Nat.le_of_ble_eq_true rfl, Nat.le_of_ble_eq_true rfl⟩) (fun r17 σ16 => ?_)
                    refine gz_if_ne (tgt := 110) C dX9_issue_101 (by decide) ?_ ?_
                    · skip
                      refine gz_aload_n C dX9_issue_110 0 rfl ?_
                      refine gz_get C (t := 0) (k := 4) (ci := 9) (q := (RX9, TX9, 11)) (v := .ref (gz_ad false G 10 0)) dX9_issue_111 fl_RX9_35 (gz_hx0 _) rfl rfl (by decide) rfl ?_
                      refine gz_aload_n C dX9_issue_114 0 rfl ?_
                      refine gz_get C (t := 0) (k := 8) (ci := 9) (q := (RX9, TX9, 11)) (v := .ref (gz_ad false G 22 0)) dX9_issue_115 fl_RX9_53 (gz_hx0 _) rfl rfl (by decide) rfl ?_
                      refine gz_iload_n C dX9_issue_118 2 rfl ?_
                      refine gz_kv (gz_runV (t := 10) (ci := 1) (q := (RX1, TX1, 6)) (As := [.ref (gz_ad false G 22 0), .int a2]) (rest := []) C dX9_issue_119 ml_RX9_245 mw_X1_takeOthers mv_X1_takeOthers (c_X1_takeOthers l G a2 σ16) (gz_hx10 _) rfl rfl rfl rfl rfl (Nat.le_of_ble_eq_true rfl) ⟨rfl, rfl, Nat.le_of_ble_eq_true rfl, Nat.le_of_ble_eq_true rfl, Nat.le_of_ble_eq_true rfl, Nat.le_of_ble_eq_true rfl⟩) (fun σ18 => ?_)
                      refine gz_aload_n C dX9_issue_122 0 rfl ?_
                      refine gz_iload_n C dX9_issue_123 1 rfl ?_
                      refine gz_kv (gz_runV (t := 0) (ci := 9) (q := (RX9, TX9, 11)) (As := [.int a1]) (rest := []) C dX9_issue_124 ml_RX9_249 mw_X9_print mv_X9_print (c_X9_print l G a1 σ18) (gz_hx0 _) rfl rfl rfl rfl rfl (Nat.le_of_ble_eq_true rfl) ⟨rfl, rfl, Nat.le_of_ble_eq_true rfl, Nat.le_of_ble_eq_true rfl, Nat.le_of_ble_eq_true rfl, Nat.le_of_ble_eq_true rfl⟩) (fun σ19 => ?_)
                      refine gz_aload_n C dX9_issue_127 0 rfl ?_
                      refine gz_aload_n C dX9_issue_128 0 rfl ?_
                      refine gz_get C (t := 0) (k := 6) (ci := 9) (q := (RX9, TX9, 11)) (v := .int (σ19.1 0 0 6)) dX9_issue_129 fl_RX9_235 (gz_hx0 _) rfl rfl (by decide) rfl ?_
                      refine gz_iconst C dX9_issue_132 gk_iconst_1 ?_
                      refine gz_isub C dX9_issue_133 ?_
                      refine gz_ki (gz_runV (t := 0) (ci := 9) (q := (RX9, TX9, 11)) (As := [.int ((σ19.1 0 0 6) - 1)]) (rest := []) C dX9_issue_134 ml_RX9_96 mw_X9_accepted mv_X9_accepted (c_X9_accepted l G ((σ19.1 0 0 6) - 1) σ19) (gz_hx0 _) rfl rfl rfl rfl rfl (Nat.le_of_ble_eq_true rfl) ⟨rfl, rfl, Nat.le_of_ble_eq_true rfl, Nat.le_of_ble_eq_true rfl, Nat.le_of_ble_eq_true rfl, Nat.le_of_ble_eq_true rfl⟩) (fun r21 σ20 => ?_)
                      exact gz_iret C rfl dX9_issue_137
                    · skip
                      refine gz_aload_n C dX9_issue_104 0 rfl ?_
                      refine gz_iconst C dX9_issue_105 gk_iconst_5 ?_
                      refine gz_ki (gz_runV (t := 0) (ci := 9) (q := (RX9, TX9, 11)) (As := [.int 5]) (rest := []) C dX9_issue_106 ml_RX9_89 mw_X9_refused mv_X9_refused (c_X9_refused l G 5 σ16) (gz_hx0 _) rfl rfl rfl rfl rfl (Nat.le_of_ble_eq_true rfl) ⟨rfl, rfl, Nat.le_of_ble_eq_true rfl, Nat.le_of_ble_eq_true rfl, Nat.le_of_ble_eq_true rfl, Nat.le_of_ble_eq_true rfl⟩) (fun r23 σ22 => ?_)
                      exact gz_iret C rfl dX9_issue_109
                  · skip
                    refine gz_aload_n C dX9_issue_73 0 rfl ?_
                    refine gz_iconst C dX9_issue_74 gk_iconst_3 ?_
                    refine gz_ki (gz_runV (t := 0) (ci := 9) (q := (RX9, TX9, 11)) (As := [.int 3]) (rest := []) C dX9_issue_75 ml_RX9_89 mw_X9_refused mv_X9_refused (c_X9_refused l G 3 σ1) (gz_hx0 _) rfl rfl rfl rfl rfl (Nat.le_of_ble_eq_true rfl) ⟨rfl, rfl, Nat.le_of_ble_eq_true rfl, Nat.le_of_ble_eq_true rfl, Nat.le_of_ble_eq_true rfl, Nat.le_of_ble_eq_true rfl⟩) (fun r25 σ24 => ?_)
                    exact gz_iret C rfl dX9_issue_78
                · skip
                  refine gz_aload_n C dX9_issue_58 0 rfl ?_
                  refine gz_iconst C dX9_issue_59 gk_iconst_2 ?_
                  refine gz_ki (gz_runV (t := 0) (ci := 9) (q := (RX9, TX9, 11)) (As := [.int 2]) (rest := []) C dX9_issue_60 ml_RX9_89 mw_X9_refused mv_X9_refused (c_X9_refused l G 2 σ1) (gz_hx0 _) rfl rfl rfl rfl rfl (Nat.le_of_ble_eq_true rfl) ⟨rfl, rfl, Nat.le_of_ble_eq_true rfl, Nat.le_of_ble_eq_true rfl, Nat.le_of_ble_eq_true rfl, Nat.le_of_ble_eq_true rfl⟩) (fun r27 σ26 => ?_)
                  exact gz_iret C rfl dX9_issue_63
        · skip
          refine gz_aload_n C dX9_issue_27 0 rfl ?_
          refine gz_iconst C dX9_issue_28 gk_iconst_2 ?_
          refine gz_ki (gz_runV (t := 0) (ci := 9) (q := (RX9, TX9, 11)) (As := [.int 2]) (rest := []) C dX9_issue_29 ml_RX9_89 mw_X9_refused mv_X9_refused (c_X9_refused l G 2 σ1) (gz_hx0 _) rfl rfl rfl rfl rfl (Nat.le_of_ble_eq_true rfl) ⟨rfl, rfl, Nat.le_of_ble_eq_true rfl, Nat.le_of_ble_eq_true rfl, Nat.le_of_ble_eq_true rfl, Nat.le_of_ble_eq_true rfl⟩) (fun r29 σ28 => ?_)
          exact gz_iret C rfl dX9_issue_32
