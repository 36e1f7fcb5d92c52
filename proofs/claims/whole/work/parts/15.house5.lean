def f_X4_readName (a0 : Nat) (σ : gz_S) : Option (Int32 × gz_S) :=
  if (σ.1 3 0 4) = 1 then
  (gz_call (f_X4_placeOf a0 (σ.2.1 3 0 7) σ) (fun r2 σ1 =>
  if r2 = (-1) then
  (if (σ1.1 6 a0 1) < 8 then
  (gz_ix (σ1.1 6 a0 1) 8 (fun n3 =>
  gz_then (f_X3_begin (8 * a0 + n3) (σ1.2.1 3 0 7) σ1) (fun σ4 =>
  gz_then (f_X8_step σ4) (fun σ5 =>
  gz_call (f_X8_take 58 σ5) (fun r7 σ6 =>
  some (r7 &&& 1, σ6))))))
  else
  (gz_call (f_X8_fail 5 σ1) (fun r9 σ8 =>
  some (r9 &&& 1, σ8))))
  else
  (gz_call (f_X8_fail 3 σ1) (fun r11 σ10 =>
  some (r11 &&& 1, σ10)))))
  else
  (gz_call (f_X8_fail 1 σ) (fun r13 σ12 =>
  some (r13 &&& 1, σ12)))
set_option maxHeartbeats 4000000 in
set_option maxRecDepth 100000 in
theorem c_X4_readName (l : Launch) (G : gz_G) (a0 : Nat) (h0 : a0 < 13) (σ : gz_S) : ∀ o, f_X4_readName a0 σ = some o → gz_M l false G yX4_readName cX4_readName 2 (some .boolean) { frames := 3, cells := 0, slots := 0, locals := 67 } [.ref (gz_ad false G 6 a0), .ref (gz_ad false G 3 0)] σ (gz_ei o) 0 0 := by
  refine gz_enter RX4 rfl (by decide) (Nat.le_of_ble_eq_true rfl) ?_
  intro p e s m args below meth c C
  refine gz_eqs (st' := []) (lv' := [(0, .ref (gz_ad false G 6 a0)), (1, .ref (gz_ad false G 3 0))]) rfl rfl ?_
  unfold f_X4_readName
  refine gz_aload_n C dX4_readName_0 1 rfl ?_
  refine gz_getN C (t := 3) (k := 4) (ci := 8) (q := (RX8, TX8, 11)) (v := .int (σ.1 3 0 4)) dX4_readName_1 fl_RX4_34 (gz_hx3 _) rfl rfl (by decide) rfl ?_
  refine gz_iconst C dX4_readName_4 gk_iconst_1 ?_
  refine gz_icmp_eq (tgt := 14) C dX4_readName_5 (by decide) ?_ ?_
  · skip
    refine gz_aload_n C dX4_readName_14 0 rfl ?_
    refine gz_aload_n C dX4_readName_15 1 rfl ?_
    refine gz_getN C (t := 3) (k := 7) (ci := 8) (q := (RX8, TX8, 11)) (v := .long (σ.2.1 3 0 7)) dX4_readName_16 fl_RX4_46 (gz_hx3 _) rfl rfl (by decide) rfl ?_
    refine gz_ki (gz_runV (t := 6) (ci := 4) (q := (RX4, TX4, 2)) (As := [.long (σ.2.1 3 0 7)]) (rest := []) C dX4_readName_19 ml_RX4_49 mw_X4_placeOf mv_X4_placeOf (c_X4_placeOf l G a0 (σ.2.1 3 0 7) h0 σ) (gz_hx6 _ h0) rfl rfl rfl rfl rfl (Nat.le_of_ble_eq_true rfl) ⟨rfl, rfl, Nat.le_of_ble_eq_true rfl, Nat.le_of_ble_eq_true rfl, Nat.le_of_ble_eq_true rfl, Nat.le_of_ble_eq_true rfl⟩) (fun r2 σ1 => ?_)
    refine gz_iconst C dX4_readName_22 gk_iconst_m1 ?_
    refine gz_icmp_eq (tgt := 32) C dX4_readName_23 (by decide) ?_ ?_
    · skip
      refine gz_aload_n C dX4_readName_32 0 rfl ?_
      refine gz_get C (t := 6) (k := 1) (ci := 4) (q := (RX4, TX4, 2)) (v := .int (σ1.1 6 a0 1)) dX4_readName_33 fl_RX4_18 (gz_hx6 _ h0) rfl rfl (by decide) rfl ?_
      refine gz_bipush C dX4_readName_36 gk_bipush_8 ?_
      refine gz_icmp_lt (tgt := 47) C dX4_readName_38 (by decide) ?_ ?_
      · skip
        refine gz_aload_n C dX4_readName_47 0 rfl ?_
        refine gz_get C (t := 6) (k := 0) (ci := 4) (q := (RX4, TX4, 2)) (v := .ref (gz_ad false G 7 a0)) dX4_readName_48 fl_RX4_11 (gz_hx6 _ h0) rfl rfl (by decide) rfl ?_
        refine gz_aload_n C dX4_readName_51 0 rfl ?_
        refine gz_get C (t := 6) (k := 1) (ci := 4) (q := (RX4, TX4, 2)) (v := .int (σ1.1 6 a0 1)) dX4_readName_52 fl_RX4_18 (gz_hx6 _ h0) rfl rfl (by decide) rfl ?_
        refine gz_aald4 C (t := 7) dX4_readName_55 (gz_hx7 _ h0) rfl (fun n3 hn3 => ?_)
        refine gz_aload_n C dX4_readName_56 1 rfl ?_
        refine gz_getN C (t := 3) (k := 7) (ci := 8) (q := (RX8, TX8, 11)) (v := .long (σ1.2.1 3 0 7)) dX4_readName_57 fl_RX4_46 (gz_hx3 _) rfl rfl (by decide) rfl ?_
        refine gz_kv (gz_runV (t := 8) (ci := 3) (q := (RX3, TX3, 7)) (As := [.long (σ1.2.1 3 0 7)]) (rest := []) C dX4_readName_60 ml_RX4_53 mw_X3_begin mv_X3_begin (c_X3_begin l G (8 * a0 + n3) (σ1.2.1 3 0 7) (gz_h8 h0 hn3) σ1) (gz_hx8 _ (gz_h8 h0 hn3)) rfl rfl rfl rfl rfl (Nat.le_of_ble_eq_true rfl) ⟨rfl, rfl, Nat.le_of_ble_eq_true rfl, Nat.le_of_ble_eq_true rfl, Nat.le_of_ble_eq_true rfl, Nat.le_of_ble_eq_true rfl⟩) (fun σ4 => ?_)
        refine gz_aload_n C dX4_readName_63 1 rfl ?_
        refine gz_kv (gz_runV (t := 3) (ci := 8) (q := (RX8, TX8, 11)) (As := []) (rest := []) C dX4_readName_64 ml_RX4_57 mw_X8_step mv_X8_step (c_X8_step l G σ4) (gz_hx3 _) rfl rfl rfl rfl rfl (Nat.le_of_ble_eq_true rfl) ⟨rfl, rfl, Nat.le_of_ble_eq_true rfl, Nat.le_of_ble_eq_true rfl, Nat.le_of_ble_eq_true rfl, Nat.le_of_ble_eq_true rfl⟩) (fun σ5 => ?_)
        refine gz_aload_n C dX4_readName_67 1 rfl ?_
        refine gz_bipush C dX4_readName_68 gk_bipush_58 ?_
        refine gz_ki (gz_runV (t := 3) (ci := 8) (q := (RX8, TX8, 11)) (As := [.int 58]) (rest := []) C dX4_readName_70 ml_RX4_39 mw_X8_take mv_X8_take (c_X8_take l G 58 σ5) (gz_hx3 _) rfl rfl rfl rfl rfl (Nat.le_of_ble_eq_true rfl) ⟨rfl, rfl, Nat.le_of_ble_eq_true rfl, Nat.le_of_ble_eq_true rfl, Nat.le_of_ble_eq_true rfl, Nat.le_of_ble_eq_true rfl⟩) (fun r7 σ6 => ?_)
        exact gz_zret C rfl dX4_readName_73
      · skip
        refine gz_aload_n C dX4_readName_41 1 rfl ?_
        refine gz_iconst C dX4_readName_42 gk_iconst_5 ?_
        refine gz_ki (gz_runV (t := 3) (ci := 8) (q := (RX8, TX8, 11)) (As := [.int 5]) (rest := []) C dX4_readName_43 ml_RX4_43 mw_X8_fail mv_X8_fail (c_X8_fail l G 5 σ1) (gz_hx3 _) rfl rfl rfl rfl rfl (Nat.le_of_ble_eq_true rfl) ⟨rfl, rfl, Nat.le_of_ble_eq_true rfl, Nat.le_of_ble_eq_true rfl, Nat.le_of_ble_eq_true rfl, Nat.le_of_ble_eq_true rfl⟩) (fun r9 σ8 => ?_)
        exact gz_zret C rfl dX4_readName_46
    · skip
      refine gz_aload_n C dX4_readName_26 1 rfl ?_
      refine gz_iconst C dX4_readName_27 gk_iconst_3 ?_
      refine gz_ki (gz_runV (t := 3) (ci := 8) (q := (RX8, TX8, 11)) (As := [.int 3]) (rest := []) C dX4_readName_28 ml_RX4_43 mw_X8_fail mv_X8_fail (c_X8_fail l G 3 σ1) (gz_hx3 _) rfl rfl rfl rfl rfl (Nat.le_of_ble_eq_true rfl) ⟨rfl, rfl, Nat.le_of_ble_eq_true rfl, Nat.le_of_ble_eq_true rfl, Nat.le_of_ble_eq_true rfl, Nat.le_of_ble_eq_true rfl⟩) (fun r11 σ10 => ?_)
      exact gz_zret C rfl dX4_readName_31
  · skip
    refine gz_aload_n C dX4_readName_8 1 rfl ?_
    refine gz_iconst C dX4_readName_9 gk_iconst_1 ?_
    refine gz_ki (gz_runV (t := 3) (ci := 8) (q := (RX8, TX8, 11)) (As := [.int 1]) (rest := []) C dX4_readName_10 ml_RX4_43 mw_X8_fail mv_X8_fail (c_X8_fail l G 1 σ) (gz_hx3 _) rfl rfl rfl rfl rfl (Nat.le_of_ble_eq_true rfl) ⟨rfl, rfl, Nat.le_of_ble_eq_true rfl, Nat.le_of_ble_eq_true rfl, Nat.le_of_ble_eq_true rfl, Nat.le_of_ble_eq_true rfl⟩) (fun r13 σ12 => ?_)
    exact gz_zret C rfl dX4_readName_13

def f_X4_readAll_L7 (a0 : Nat) : (Int32 → gz_S → Option (Int32 × gz_S)) → Int32 → gz_S → Option (Int32 × gz_S) := fun rec7 v2 σ3 =>
  if 8 < v2 then
  (some ((0 : Int32) &&& 1, σ3))
  else
  (gz_call (f_X4_readName a0 σ3) (fun r5 σ4 =>
  if r5 = 0 then
  (some ((0 : Int32) &&& 1, σ4))
  else
  (gz_ix (σ4.1 6 a0 1) 8 (fun n6 =>
  gz_call (f_X4_readKind a0 (8 * a0 + n6) σ4) (fun r8 σ7 =>
  if r8 = 0 then
  (some ((0 : Int32) &&& 1, σ7))
  else
  (gz_w (gz_si σ7 6 a0 1 ((σ7.1 6 a0 1) + 1)) (fun σ9 =>
  if (σ9.1 3 0 4) = 0 then
  (some ((1 : Int32) &&& 1, σ9))
  else
  (gz_call (f_X8_take 59 σ9) (fun r11 σ10 =>
  if r11 = 0 then
  (some ((0 : Int32) &&& 1, σ10))
  else
  (rec7 (v2 + 1) σ10))))))))))
def f_X4_readAll (a0 : Nat) (σ : gz_S) : Option (Int32 × gz_S) :=
  gz_w (gz_si σ 6 a0 1 0) (fun σ1 =>
  gz_l1 (f_X4_readAll_L7 a0) gz_fu 0 σ1)
set_option maxHeartbeats 4000000 in
set_option maxRecDepth 100000 in
theorem c_X4_readAll (l : Launch) (G : gz_G) (a0 : Nat) (h0 : a0 < 13) (σ : gz_S) : ∀ o, f_X4_readAll a0 σ = some o → gz_M l false G yX4_readAll cX4_readAll 3 (some .boolean) { frames := 5, cells := 0, slots := 0, locals := 114 } [.ref (gz_ad false G 6 a0), .ref (gz_ad false G 3 0)] σ (gz_ei o) 0 0 := by
  refine gz_enter RX4 rfl (by decide) (Nat.le_of_ble_eq_true rfl) ?_
  intro p e s m args below meth c C
  refine gz_eqs (st' := []) (lv' := [(0, .ref (gz_ad false G 6 a0)), (1, .ref (gz_ad false G 3 0))]) rfl rfl ?_
  unfold f_X4_readAll
  refine gz_aload_n C dX4_readAll_0 0 rfl ?_
  refine gz_iconst C dX4_readAll_1 gk_iconst_0 ?_
  refine gz_putI C (t := 6) (k := 1) (ci := 4) (q := (RX4, TX4, 2)) dX4_readAll_2 fl_RX4_18 (gz_hx6 _ h0) rfl rfl (by decide) rfl rfl rfl rfl ?_
  refine gz_w_row (fun σ1 => ?_)
  refine gz_iconst C dX4_readAll_5 gk_iconst_0 ?_
  refine gz_istore_n C (lv' := [(2, .int 0), (0, .ref (gz_ad false G 6 a0)), (1, .ref (gz_ad false G 3 0))]) dX4_readAll_6 (by decide) rfl ?_
  refine gz_lv (lv' := [(0, .ref (gz_ad false G 6 a0)), (1, .ref (gz_ad false G 3 0)), (2, .int 0)]) [1, 2, 0] rfl ?_
  refine gz_l1_ind (P := fun v2 σ3 x => gz_W false p l e ({ frames := 5, cells := 0, slots := 0, locals := 114 } : Room) s m args below meth c G 3 (gz_Q false G below args s 0 0 gz_ei) 0 0 σ3 7 [(0, .ref (gz_ad false G 6 a0)), (1, .ref (gz_ad false G 3 0)), (2, .int v2)] [] x) (fun _ _ => gz_none) (fun rec7 hrec7 v2 σ3 => ?_) gz_fu 0 σ1
  unfold f_X4_readAll_L7
  refine gz_iload_n C dX4_readAll_7 2 rfl ?_
  refine gz_bipush C dX4_readAll_8 gk_bipush_8 ?_
  refine gz_icmp_gt (tgt := 76) C dX4_readAll_10 (by decide) ?_ ?_
  · skip
    refine gz_iconst C dX4_readAll_76 gk_iconst_0 ?_
    exact gz_zret C rfl dX4_readAll_77
  · skip
    refine gz_aload_n C dX4_readAll_13 0 rfl ?_
    refine gz_aload_n C dX4_readAll_14 1 rfl ?_
    refine gz_ki (gz_runV (t := 6) (ci := 4) (q := (RX4, TX4, 2)) (As := [.ref (gz_ad false G 3 0)]) (rest := []) C dX4_readAll_15 ml_RX4_26 mw_X4_readName mv_X4_readName (c_X4_readName l G a0 h0 σ3) (gz_hx6 _ h0) rfl rfl rfl rfl rfl (Nat.le_of_ble_eq_true rfl) ⟨rfl, rfl, Nat.le_of_ble_eq_true rfl, Nat.le_of_ble_eq_true rfl, Nat.le_of_ble_eq_true rfl, Nat.le_of_ble_eq_true rfl⟩) (fun r5 σ4 => ?_)
    refine gz_if_eq (tgt := 38) C dX4_readAll_18 (by decide) ?_ ?_
    · skip
      refine gz_iconst C dX4_readAll_38 gk_iconst_0 ?_
      exact gz_zret C rfl dX4_readAll_39
    · skip
      refine gz_aload_n C dX4_readAll_21 0 rfl ?_
      refine gz_aload_n C dX4_readAll_22 1 rfl ?_
      refine gz_aload_n C dX4_readAll_23 0 rfl ?_
      refine gz_get C (t := 6) (k := 0) (ci := 4) (q := (RX4, TX4, 2)) (v := .ref (gz_ad false G 7 a0)) dX4_readAll_24 fl_RX4_11 (gz_hx6 _ h0) rfl rfl (by decide) rfl ?_
      refine gz_aload_n C dX4_readAll_27 0 rfl ?_
      refine gz_get C (t := 6) (k := 1) (ci := 4) (q := (RX4, TX4, 2)) (v := .int (σ4.1 6 a0 1)) dX4_readAll_28 fl_RX4_18 (gz_hx6 _ h0) rfl rfl (by decide) rfl ?_
      refine gz_aald4 C (t := 7) dX4_readAll_31 (gz_hx7 _ h0) rfl (fun n6 hn6 => ?_)
      refine gz_ki (gz_runV (t := 6) (ci := 4) (q := (RX4, TX4, 2)) (As := [.ref (gz_ad false G 3 0), .ref (gz_ad false G 8 (8 * a0 + n6))]) (rest := []) C dX4_readAll_32 ml_RX4_30 mw_X4_readKind mv_X4_readKind (c_X4_readKind l G a0 (8 * a0 + n6) h0 (gz_h8 h0 hn6) σ4) (gz_hx6 _ h0) rfl rfl rfl rfl rfl (Nat.le_of_ble_eq_true rfl) ⟨rfl, rfl, Nat.le_of_ble_eq_true rfl, Nat.le_of_ble_eq_true rfl, Nat.le_of_ble_eq_true rfl, Nat.le_of_ble_eq_true rfl⟩) (fun r8 σ7 => ?_)
      refine gz_if_ne (tgt := 40) C dX4_readAll_35 (by decide) ?_ ?_
      · skip
        refine gz_aload_n C dX4_readAll_40 0 rfl ?_
        refine gz_dup C dX4_readAll_41 rfl ?_
        refine gz_get C (t := 6) (k := 1) (ci := 4) (q := (RX4, TX4, 2)) (v := .int (σ7.1 6 a0 1)) dX4_readAll_42 fl_RX4_18 (gz_hx6 _ h0) rfl rfl (by decide) rfl ?_
        refine gz_iconst C dX4_readAll_45 gk_iconst_1 ?_
        refine gz_iadd C dX4_readAll_46 ?_
        refine gz_putI C (t := 6) (k := 1) (ci := 4) (q := (RX4, TX4, 2)) dX4_readAll_47 fl_RX4_18 (gz_hx6 _ h0) rfl rfl (by decide) rfl rfl rfl rfl ?_
        refine gz_w_row (fun σ9 => ?_)
        refine gz_aload_n C dX4_readAll_50 1 rfl ?_
        refine gz_getN C (t := 3) (k := 4) (ci := 8) (q := (RX8, TX8, 11)) (v := .int (σ9.1 3 0 4)) dX4_readAll_51 fl_RX4_34 (gz_hx3 _) rfl rfl (by decide) rfl ?_
        refine gz_if_ne (tgt := 59) C dX4_readAll_54 (by decide) ?_ ?_
        · skip
          refine gz_aload_n C dX4_readAll_59 1 rfl ?_
          refine gz_bipush C dX4_readAll_60 gk_bipush_59 ?_
          refine gz_ki (gz_runV (t := 3) (ci := 8) (q := (RX8, TX8, 11)) (As := [.int 59]) (rest := []) C dX4_readAll_62 ml_RX4_39 mw_X8_take mv_X8_take (c_X8_take l G 59 σ9) (gz_hx3 _) rfl rfl rfl rfl rfl (Nat.le_of_ble_eq_true rfl) ⟨rfl, rfl, Nat.le_of_ble_eq_true rfl, Nat.le_of_ble_eq_true rfl, Nat.le_of_ble_eq_true rfl, Nat.le_of_ble_eq_true rfl⟩) (fun r11 σ10 => ?_)
          refine gz_if_ne (tgt := 70) C dX4_readAll_65 (by decide) ?_ ?_
          · skip
            refine gz_iinc C (q := 2) (v := v2 + 1) (lv' := [(2, .int (v2 + 1)), (0, .ref (gz_ad false G 6 a0)), (1, .ref (gz_ad false G 3 0))]) dX4_readAll_70 rfl rfl (by decide) rfl ?_
            refine gz_goto (tgt := 7) C dX4_readAll_73 (by decide) ?_
            refine gz_lv (lv' := [(0, .ref (gz_ad false G 6 a0)), (1, .ref (gz_ad false G 3 0)), (2, .int (v2 + 1))]) [1, 2, 0] rfl ?_
            exact hrec7 (v2 + 1) σ10
          · skip
            refine gz_iconst C dX4_readAll_68 gk_iconst_0 ?_
            exact gz_zret C rfl dX4_readAll_69
        · skip
          refine gz_iconst C dX4_readAll_57 gk_iconst_1 ?_
          exact gz_zret C rfl dX4_readAll_58
      · skip
        refine gz_iconst C dX4_readAll_38 gk_iconst_0 ?_
        exact gz_zret C rfl dX4_readAll_39

def f_X4_isWhole_J56 (v1 : Int32) (rec2 : Int32 → gz_S → Option (Int32 × gz_S)) : gz_S → Option (Int32 × gz_S) := fun σ4 =>
  rec2 (v1 + 1) σ4
def f_X4_isWhole_L2 (a0 : Nat) (a2 : Nat) : (Int32 → gz_S → Option (Int32 × gz_S)) → Int32 → gz_S → Option (Int32 × gz_S) := fun rec2 v1 σ2 =>
  if (σ2.1 6 a0 1) ≤ v1 then
  (some ((1 : Int32) &&& 1, σ2))
  else
  (gz_ix v1 8 (fun n3 =>
  gz_j0 (f_X4_isWhole_J56 v1 rec2) (fun j56 =>
  if (lg_cmp (σ2.2.1 15 a2 n3) (-1)) = 0 then
  (gz_ix v1 8 (fun n5 =>
  if (σ2.1 8 (8 * a0 + n5) 2) = 0 then
  (gz_ix v1 8 (fun n6 =>
  gz_call (f_X3_isSpan (8 * a0 + n6) σ2) (fun r8 σ7 =>
  if r8 = 0 then
  (gz_w (gz_si σ7 3 0 10 v1) (fun σ9 =>
  gz_call (f_X8_fail 6 σ9) (fun r11 σ10 =>
  some (r11 &&& 1, σ10))))
  else
  (j56 σ7))))
  else
  (j56 σ2)))
  else
  (j56 σ2))))
def f_X4_isWhole (a0 : Nat) (a2 : Nat) (σ : gz_S) : Option (Int32 × gz_S) :=
  gz_l1 (f_X4_isWhole_L2 a0 a2) gz_fu 0 σ
set_option maxHeartbeats 4000000 in
set_option maxRecDepth 100000 in
theorem c_X4_isWhole (l : Launch) (G : gz_G) (a0 : Nat) (a2 : Nat) (h0 : a0 < 13) (h2 : a2 < 61) (σ : gz_S) : ∀ o, f_X4_isWhole a0 a2 σ = some o → gz_M l false G yX4_isWhole cX4_isWhole 4 (some .boolean) { frames := 1, cells := 0, slots := 0, locals := 21 } [.ref (gz_ad false G 6 a0), .ref (gz_ad false G 3 0), .ref (gz_ad false G 15 a2)] σ (gz_ei o) 0 0 := by
  refine gz_enter RX4 rfl (by decide) (Nat.le_of_ble_eq_true rfl) ?_
  intro p e s m args below meth c C
  refine gz_eqs (st' := []) (lv' := [(0, .ref (gz_ad false G 6 a0)), (1, .ref (gz_ad false G 3 0)), (2, .ref (gz_ad false G 15 a2))]) rfl rfl ?_
  unfold f_X4_isWhole
  refine gz_iconst C dX4_isWhole_0 gk_iconst_0 ?_
  refine gz_istore_n C (lv' := [(3, .int 0), (0, .ref (gz_ad false G 6 a0)), (1, .ref (gz_ad false G 3 0)), (2, .ref (gz_ad false G 15 a2))]) dX4_isWhole_1 (by decide) rfl ?_
  refine gz_lv (lv' := [(0, .ref (gz_ad false G 6 a0)), (1, .ref (gz_ad false G 3 0)), (2, .ref (gz_ad false G 15 a2)), (3, .int 0)]) [1, 2, 3, 0] rfl ?_
  refine gz_l1_ind (P := fun v1 σ2 x => gz_W false p l e ({ frames := 1, cells := 0, slots := 0, locals := 21 } : Room) s m args below meth c G 4 (gz_Q false G below args s 0 0 gz_ei) 0 0 σ2 2 [(0, .ref (gz_ad false G 6 a0)), (1, .ref (gz_ad false G 3 0)), (2, .ref (gz_ad false G 15 a2)), (3, .int v1)] [] x) (fun _ _ => gz_none) (fun rec2 hrec2 v1 σ2 => ?_) gz_fu 0 σ
  unfold f_X4_isWhole_L2
  refine gz_iload_n C dX4_isWhole_2 3 rfl ?_
  refine gz_aload_n C dX4_isWhole_3 0 rfl ?_
  refine gz_get C (t := 6) (k := 1) (ci := 4) (q := (RX4, TX4, 2)) (v := .int (σ2.1 6 a0 1)) dX4_isWhole_4 fl_RX4_18 (gz_hx6 _ h0) rfl rfl (by decide) rfl ?_
  refine gz_icmp_ge (tgt := 62) C dX4_isWhole_7 (by decide) ?_ ?_
  · skip
    refine gz_iconst C dX4_isWhole_62 gk_iconst_1 ?_
    exact gz_zret C rfl dX4_isWhole_63
  · skip
    refine gz_aload_n C dX4_isWhole_10 2 rfl ?_
    refine gz_iload_n C dX4_isWhole_11 3 rfl ?_
    refine gz_lald C (t := 15) dX4_isWhole_12 (gz_hx15 _ h2) rfl (fun n3 hn3 => ?_)
    refine gz_ldc2 C dX4_isWhole_13 cw_RX4_115 ?_
    refine gz_lcmp C dX4_isWhole_16 ?_
    refine gz_j0_row (P := fun σ4 x => gz_W false p l e ({ frames := 1, cells := 0, slots := 0, locals := 21 } : Room) s m args below meth c G 4 (gz_Q false G below args s 0 0 gz_ei) 0 0 σ4 56 [(0, .ref (gz_ad false G 6 a0)), (1, .ref (gz_ad false G 3 0)), (2, .ref (gz_ad false G 15 a2)), (3, .int v1)] [] x) (fun σ4 => ?_) (fun j56 hj56 => ?_)
    · unfold f_X4_isWhole_J56
      refine gz_iinc C (q := 3) (v := v1 + 1) (lv' := [(3, .int (v1 + 1)), (0, .ref (gz_ad false G 6 a0)), (1, .ref (gz_ad false G 3 0)), (2, .ref (gz_ad false G 15 a2))]) dX4_isWhole_56 rfl rfl (by decide) rfl ?_
      refine gz_goto (tgt := 2) C dX4_isWhole_59 (by decide) ?_
      refine gz_lv (lv' := [(0, .ref (gz_ad false G 6 a0)), (1, .ref (gz_ad false G 3 0)), (2, .ref (gz_ad false G 15 a2)), (3, .int (v1 + 1))]) [1, 2, 3, 0] rfl ?_
      exact hrec2 (v1 + 1) σ4
    · skip
      refine gz_if_ne (tgt := 56) C dX4_isWhole_17 (by decide) ?_ ?_
      · skip
        exact hj56 σ2
      · skip
        refine gz_aload_n C dX4_isWhole_20 0 rfl ?_
        refine gz_get C (t := 6) (k := 0) (ci := 4) (q := (RX4, TX4, 2)) (v := .ref (gz_ad false G 7 a0)) dX4_isWhole_21 fl_RX4_11 (gz_hx6 _ h0) rfl rfl (by decide) rfl ?_
        refine gz_iload_n C dX4_isWhole_24 3 rfl ?_
        refine gz_aald4 C (t := 7) dX4_isWhole_25 (gz_hx7 _ h0) rfl (fun n5 hn5 => ?_)
        refine gz_getN C (t := 8) (k := 2) (ci := 3) (q := (RX3, TX3, 7)) (v := .int (σ2.1 8 (8 * a0 + n5) 2)) dX4_isWhole_26 fl_RX4_82 (gz_hx8 _ (gz_h8 h0 hn5)) rfl rfl (by decide) rfl ?_
        refine gz_if_ne (tgt := 56) C dX4_isWhole_29 (by decide) ?_ ?_
        · skip
          exact hj56 σ2
        · skip
          refine gz_aload_n C dX4_isWhole_32 0 rfl ?_
          refine gz_get C (t := 6) (k := 0) (ci := 4) (q := (RX4, TX4, 2)) (v := .ref (gz_ad false G 7 a0)) dX4_isWhole_33 fl_RX4_11 (gz_hx6 _ h0) rfl rfl (by decide) rfl ?_
          refine gz_iload_n C dX4_isWhole_36 3 rfl ?_
          refine gz_aald4 C (t := 7) dX4_isWhole_37 (gz_hx7 _ h0) rfl (fun n6 hn6 => ?_)
          refine gz_ki (gz_runV (t := 8) (ci := 3) (q := (RX3, TX3, 7)) (As := []) (rest := []) C dX4_isWhole_38 ml_RX4_112 mw_X3_isSpan mv_X3_isSpan (c_X3_isSpan l G (8 * a0 + n6) (gz_h8 h0 hn6) σ2) (gz_hx8 _ (gz_h8 h0 hn6)) rfl rfl rfl rfl rfl (Nat.le_of_ble_eq_true rfl) ⟨rfl, rfl, Nat.le_of_ble_eq_true rfl, Nat.le_of_ble_eq_true rfl, Nat.le_of_ble_eq_true rfl, Nat.le_of_ble_eq_true rfl⟩) (fun r8 σ7 => ?_)
          refine gz_if_ne (tgt := 56) C dX4_isWhole_41 (by decide) ?_ ?_
          · skip
            exact hj56 σ7
          · skip
            refine gz_aload_n C dX4_isWhole_44 1 rfl ?_
            refine gz_iload_n C dX4_isWhole_45 3 rfl ?_
            refine gz_putIN C (t := 3) (k := 10) (ci := 8) (q := (RX8, TX8, 11)) dX4_isWhole_46 fl_RX4_121 (gz_hx3 _) rfl rfl (by decide) rfl rfl rfl rfl ?_
            refine gz_w_row (fun σ9 => ?_)
            refine gz_aload_n C dX4_isWhole_49 1 rfl ?_
            refine gz_bipush C dX4_isWhole_50 gk_bipush_6 ?_
            refine gz_ki (gz_runV (t := 3) (ci := 8) (q := (RX8, TX8, 11)) (As := [.int 6]) (rest := []) C dX4_isWhole_52 ml_RX4_43 mw_X8_fail mv_X8_fail (c_X8_fail l G 6 σ9) (gz_hx3 _) rfl rfl rfl rfl rfl (Nat.le_of_ble_eq_true rfl) ⟨rfl, rfl, Nat.le_of_ble_eq_true rfl, Nat.le_of_ble_eq_true rfl, Nat.le_of_ble_eq_true rfl, Nat.le_of_ble_eq_true rfl⟩) (fun r11 σ10 => ?_)
            exact gz_zret C rfl dX4_isWhole_55

def f_X4_readEntry_J99 (r2 : Int32) (a0 : Nat) (a2 : Nat) : gz_S → Option (Int32 × gz_S) := fun σ12 =>
  gz_ix r2 8 (fun n13 =>
  gz_call (f_X3_valueOf (8 * a0 + n13) σ12) (fun r15 σ14 =>
  gz_ix r2 8 (fun n16 =>
  gz_w (gz_sj σ14 15 a2 n16 r15) (fun σ17 =>
  gz_ix r2 8 (fun n18 =>
  if (lg_cmp (σ17.2.1 15 a2 n18) (-1)) = 0 then
  (gz_call (f_X8_fail 4 σ17) (fun r21 σ20 =>
  some (r21 &&& 1, σ20)))
  else
  (gz_then (f_X8_step σ17) (fun σ19 =>
  some ((1 : Int32) &&& 1, σ19))))))))
def f_X4_readEntry (a0 : Nat) (a2 : Nat) (σ : gz_S) : Option (Int32 × gz_S) :=
  if (σ.1 3 0 4) = 1 then
  (gz_call (f_X4_placeOf a0 (σ.2.1 3 0 7) σ) (fun r2 σ1 =>
  if r2 = (-1) then
  (gz_call (f_X8_fail 2 σ1) (fun r4 σ3 =>
  some (r4 &&& 1, σ3)))
  else
  (gz_ix r2 8 (fun n5 =>
  gz_call (f_X3_isSpan (8 * a0 + n5) σ1) (fun r7 σ6 =>
  if r7 = 0 then
  (gz_ix r2 8 (fun n8 =>
  if (lg_cmp (σ6.2.1 15 a2 n8) (-1)) = 0 then
  (gz_then (f_X8_step σ6) (fun σ9 =>
  gz_call (f_X8_take 61 σ9) (fun r11 σ10 =>
  if r11 = 0 then
  (some ((0 : Int32) &&& 1, σ10))
  else
  (gz_j0 (f_X4_readEntry_J99 r2 a0 a2) (fun j99 =>
  if (σ10.1 3 0 4) = 1 then
  (j99 σ10)
  else
  (if (σ10.1 3 0 4) = 2 then
  (j99 σ10)
  else
  (gz_call (f_X8_fail 1 σ10) (fun r23 σ22 =>
  some (r23 &&& 1, σ22)))))))))
  else
  (gz_call (f_X8_fail 3 σ6) (fun r25 σ24 =>
  some (r25 &&& 1, σ24)))))
  else
  (gz_call (f_X8_fail 2 σ6) (fun r27 σ26 =>
  some (r27 &&& 1, σ26))))))))
  else
  (gz_call (f_X8_fail 1 σ) (fun r29 σ28 =>
  some (r29 &&& 1, σ28)))
set_option maxHeartbeats 4000000 in
set_option maxRecDepth 100000 in
theorem c_X4_readEntry (l : Launch) (G : gz_G) (a0 : Nat) (a2 : Nat) (h0 : a0 < 13) (h2 : a2 < 61) (σ : gz_S) : ∀ o, f_X4_readEntry a0 a2 σ = some o → gz_M l false G yX4_readEntry cX4_readEntry 4 (some .boolean) { frames := 3, cells := 0, slots := 0, locals := 67 } [.ref (gz_ad false G 6 a0), .ref (gz_ad false G 3 0), .ref (gz_ad false G 15 a2)] σ (gz_ei o) 0 0 := by
  refine gz_enter RX4 rfl (by decide) (Nat.le_of_ble_eq_true rfl) ?_
  intro p e s m args below meth c C
  refine gz_eqs (st' := []) (lv' := [(0, .ref (gz_ad false G 6 a0)), (1, .ref (gz_ad false G 3 0)), (2, .ref (gz_ad false G 15 a2))]) rfl rfl ?_
  unfold f_X4_readEntry
  refine gz_aload_n C dX4_readEntry_0 1 rfl ?_
  refine gz_getN C (t := 3) (k := 4) (ci := 8) (q := (RX8, TX8, 11)) (v := .int (σ.1 3 0 4)) dX4_readEntry_1 fl_RX4_34 (gz_hx3 _) rfl rfl (by decide) rfl ?_
  refine gz_iconst C dX4_readEntry_4 gk_iconst_1 ?_
  refine gz_icmp_eq (tgt := 14) C dX4_readEntry_5 (by decide) ?_ ?_
  · skip
    refine gz_aload_n C dX4_readEntry_14 0 rfl ?_
    refine gz_aload_n C dX4_readEntry_15 1 rfl ?_
    refine gz_getN C (t := 3) (k := 7) (ci := 8) (q := (RX8, TX8, 11)) (v := .long (σ.2.1 3 0 7)) dX4_readEntry_16 fl_RX4_46 (gz_hx3 _) rfl rfl (by decide) rfl ?_
    refine gz_ki (gz_runV (t := 6) (ci := 4) (q := (RX4, TX4, 2)) (As := [.long (σ.2.1 3 0 7)]) (rest := []) C dX4_readEntry_19 ml_RX4_49 mw_X4_placeOf mv_X4_placeOf (c_X4_placeOf l G a0 (σ.2.1 3 0 7) h0 σ) (gz_hx6 _ h0) rfl rfl rfl rfl rfl (Nat.le_of_ble_eq_true rfl) ⟨rfl, rfl, Nat.le_of_ble_eq_true rfl, Nat.le_of_ble_eq_true rfl, Nat.le_of_ble_eq_true rfl, Nat.le_of_ble_eq_true rfl⟩) (fun r2 σ1 => ?_)
    refine gz_istore_n C (lv' := [(3, .int r2), (0, .ref (gz_ad false G 6 a0)), (1, .ref (gz_ad false G 3 0)), (2, .ref (gz_ad false G 15 a2))]) dX4_readEntry_22 (by decide) rfl ?_
    refine gz_iload_n C dX4_readEntry_23 0 rfl ?_
    refine gz_iconst C dX4_readEntry_24 gk_iconst_m1 ?_
    refine gz_icmp_eq (tgt := 40) C dX4_readEntry_25 (by decide) ?_ ?_
    · skip
      refine gz_aload_n C dX4_readEntry_40 2 rfl ?_
      refine gz_iconst C dX4_readEntry_41 gk_iconst_2 ?_
      refine gz_ki (gz_runV (t := 3) (ci := 8) (q := (RX8, TX8, 11)) (As := [.int 2]) (rest := []) C dX4_readEntry_42 ml_RX4_43 mw_X8_fail mv_X8_fail (c_X8_fail l G 2 σ1) (gz_hx3 _) rfl rfl rfl rfl rfl (Nat.le_of_ble_eq_true rfl) ⟨rfl, rfl, Nat.le_of_ble_eq_true rfl, Nat.le_of_ble_eq_true rfl, Nat.le_of_ble_eq_true rfl, Nat.le_of_ble_eq_true rfl⟩) (fun r4 σ3 => ?_)
      exact gz_zret C rfl dX4_readEntry_45
    · skip
      refine gz_aload_n C dX4_readEntry_28 1 rfl ?_
      refine gz_get C (t := 6) (k := 0) (ci := 4) (q := (RX4, TX4, 2)) (v := .ref (gz_ad false G 7 a0)) dX4_readEntry_29 fl_RX4_11 (gz_hx6 _ h0) rfl rfl (by decide) rfl ?_
      refine gz_iload_n C dX4_readEntry_32 0 rfl ?_
      refine gz_aald4 C (t := 7) dX4_readEntry_33 (gz_hx7 _ h0) rfl (fun n5 hn5 => ?_)
      refine gz_ki (gz_runV (t := 8) (ci := 3) (q := (RX3, TX3, 7)) (As := []) (rest := []) C dX4_readEntry_34 ml_RX4_112 mw_X3_isSpan mv_X3_isSpan (c_X3_isSpan l G (8 * a0 + n5) (gz_h8 h0 hn5) σ1) (gz_hx8 _ (gz_h8 h0 hn5)) rfl rfl rfl rfl rfl (Nat.le_of_ble_eq_true rfl) ⟨rfl, rfl, Nat.le_of_ble_eq_true rfl, Nat.le_of_ble_eq_true rfl, Nat.le_of_ble_eq_true rfl, Nat.le_of_ble_eq_true rfl⟩) (fun r7 σ6 => ?_)
      refine gz_if_eq (tgt := 46) C dX4_readEntry_37 (by decide) ?_ ?_
      · skip
        refine gz_aload_n C dX4_readEntry_46 3 rfl ?_
        refine gz_iload_n C dX4_readEntry_47 0 rfl ?_
        refine gz_lald C (t := 15) dX4_readEntry_48 (gz_hx15 _ h2) rfl (fun n8 hn8 => ?_)
        refine gz_ldc2 C dX4_readEntry_49 cw_RX4_115 ?_
        refine gz_lcmp C dX4_readEntry_52 ?_
        refine gz_if_eq (tgt := 62) C dX4_readEntry_53 (by decide) ?_ ?_
        · skip
          refine gz_aload_n C dX4_readEntry_62 2 rfl ?_
          refine gz_kv (gz_runV (t := 3) (ci := 8) (q := (RX8, TX8, 11)) (As := []) (rest := []) C dX4_readEntry_63 ml_RX4_57 mw_X8_step mv_X8_step (c_X8_step l G σ6) (gz_hx3 _) rfl rfl rfl rfl rfl (Nat.le_of_ble_eq_true rfl) ⟨rfl, rfl, Nat.le_of_ble_eq_true rfl, Nat.le_of_ble_eq_true rfl, Nat.le_of_ble_eq_true rfl, Nat.le_of_ble_eq_true rfl⟩) (fun σ9 => ?_)
          refine gz_aload_n C dX4_readEntry_66 2 rfl ?_
          refine gz_bipush C dX4_readEntry_67 gk_bipush_61 ?_
          refine gz_ki (gz_runV (t := 3) (ci := 8) (q := (RX8, TX8, 11)) (As := [.int 61]) (rest := []) C dX4_readEntry_69 ml_RX4_39 mw_X8_take mv_X8_take (c_X8_take l G 61 σ9) (gz_hx3 _) rfl rfl rfl rfl rfl (Nat.le_of_ble_eq_true rfl) ⟨rfl, rfl, Nat.le_of_ble_eq_true rfl, Nat.le_of_ble_eq_true rfl, Nat.le_of_ble_eq_true rfl, Nat.le_of_ble_eq_true rfl⟩) (fun r11 σ10 => ?_)
          refine gz_if_ne (tgt := 77) C dX4_readEntry_72 (by decide) ?_ ?_
          · skip
            refine gz_aload_n C dX4_readEntry_77 2 rfl ?_
            refine gz_getN C (t := 3) (k := 4) (ci := 8) (q := (RX8, TX8, 11)) (v := .int (σ10.1 3 0 4)) dX4_readEntry_78 fl_RX4_34 (gz_hx3 _) rfl rfl (by decide) rfl ?_
            refine gz_iconst C dX4_readEntry_81 gk_iconst_1 ?_
            refine gz_j0_row (P := fun σ12 x => gz_W false p l e ({ frames := 3, cells := 0, slots := 0, locals := 67 } : Room) s m args below meth c G 4 (gz_Q false G below args s 0 0 gz_ei) 0 0 σ12 99 [(0, .ref (gz_ad false G 6 a0)), (1, .ref (gz_ad false G 3 0)), (2, .ref (gz_ad false G 15 a2)), (3, .int r2)] [] x) (fun σ12 => ?_) (fun j99 hj99 => ?_)
            · unfold f_X4_readEntry_J99
              refine gz_aload_n C dX4_readEntry_99 2 rfl ?_
              refine gz_iload_n C dX4_readEntry_100 3 rfl ?_
              refine gz_aload_n C dX4_readEntry_101 0 rfl ?_
              refine gz_get C (t := 6) (k := 0) (ci := 4) (q := (RX4, TX4, 2)) (v := .ref (gz_ad false G 7 a0)) dX4_readEntry_102 fl_RX4_11 (gz_hx6 _ h0) rfl rfl (by decide) rfl ?_
              refine gz_iload_n C dX4_readEntry_105 3 rfl ?_
              refine gz_aald4 C (t := 7) dX4_readEntry_106 (gz_hx7 _ h0) rfl (fun n13 hn13 => ?_)
              refine gz_aload_n C dX4_readEntry_107 1 rfl ?_
              refine gz_kl (gz_runV (t := 8) (ci := 3) (q := (RX3, TX3, 7)) (As := [.ref (gz_ad false G 3 0)]) (rest := [.int r2, .ref (gz_ad false G 15 a2)]) C dX4_readEntry_108 ml_RX4_117 mw_X3_valueOf mv_X3_valueOf (c_X3_valueOf l G (8 * a0 + n13) (gz_h8 h0 hn13) σ12) (gz_hx8 _ (gz_h8 h0 hn13)) rfl rfl rfl rfl rfl (Nat.le_of_ble_eq_true rfl) ⟨rfl, rfl, Nat.le_of_ble_eq_true rfl, Nat.le_of_ble_eq_true rfl, Nat.le_of_ble_eq_true rfl, Nat.le_of_ble_eq_true rfl⟩) (fun r15 σ14 => ?_)
              refine gz_last C (t := 15) dX4_readEntry_111 (gz_hx15 _ h2) rfl (fun n16 hn16 => ?_)
              refine gz_w_row (fun σ17 => ?_)
              refine gz_aload_n C dX4_readEntry_112 2 rfl ?_
              refine gz_iload_n C dX4_readEntry_113 3 rfl ?_
              refine gz_lald C (t := 15) dX4_readEntry_114 (gz_hx15 _ h2) rfl (fun n18 hn18 => ?_)
              refine gz_ldc2 C dX4_readEntry_115 cw_RX4_115 ?_
              refine gz_lcmp C dX4_readEntry_118 ?_
              refine gz_if_ne (tgt := 128) C dX4_readEntry_119 (by decide) ?_ ?_
              · skip
                refine gz_aload_n C dX4_readEntry_128 1 rfl ?_
                refine gz_kv (gz_runV (t := 3) (ci := 8) (q := (RX8, TX8, 11)) (As := []) (rest := []) C dX4_readEntry_129 ml_RX4_57 mw_X8_step mv_X8_step (c_X8_step l G σ17) (gz_hx3 _) rfl rfl rfl rfl rfl (Nat.le_of_ble_eq_true rfl) ⟨rfl, rfl, Nat.le_of_ble_eq_true rfl, Nat.le_of_ble_eq_true rfl, Nat.le_of_ble_eq_true rfl, Nat.le_of_ble_eq_true rfl⟩) (fun σ19 => ?_)
                refine gz_iconst C dX4_readEntry_132 gk_iconst_1 ?_
                exact gz_zret C rfl dX4_readEntry_133
              · skip
                refine gz_aload_n C dX4_readEntry_122 1 rfl ?_
                refine gz_iconst C dX4_readEntry_123 gk_iconst_4 ?_
                refine gz_ki (gz_runV (t := 3) (ci := 8) (q := (RX8, TX8, 11)) (As := [.int 4]) (rest := []) C dX4_readEntry_124 ml_RX4_43 mw_X8_fail mv_X8_fail (c_X8_fail l G 4 σ17) (gz_hx3 _) rfl rfl rfl rfl rfl (Nat.le_of_ble_eq_true rfl) ⟨rfl, rfl, Nat.le_of_ble_eq_true rfl, Nat.le_of_ble_eq_true rfl, Nat.le_of_ble_eq_true rfl, Nat.le_of_ble_eq_true rfl⟩) (fun r21 σ20 => ?_)
                exact gz_zret C rfl dX4_readEntry_127
            · skip
              refine gz_icmp_eq (tgt := 99) C dX4_readEntry_82 (by decide) ?_ ?_
              · skip
                refine gz_lv (lv' := [(0, .ref (gz_ad false G 6 a0)), (1, .ref (gz_ad false G 3 0)), (2, .ref (gz_ad false G 15 a2)), (3, .int r2)]) [1, 2, 3, 0] rfl ?_
                exact hj99 σ10
              · skip
                refine gz_aload_n C dX4_readEntry_85 2 rfl ?_
                refine gz_getN C (t := 3) (k := 4) (ci := 8) (q := (RX8, TX8, 11)) (v := .int (σ10.1 3 0 4)) dX4_readEntry_86 fl_RX4_34 (gz_hx3 _) rfl rfl (by decide) rfl ?_
                refine gz_iconst C dX4_readEntry_89 gk_iconst_2 ?_
                refine gz_icmp_eq (tgt := 99) C dX4_readEntry_90 (by decide) ?_ ?_
                · skip
                  refine gz_lv (lv' := [(0, .ref (gz_ad false G 6 a0)), (1, .ref (gz_ad false G 3 0)), (2, .ref (gz_ad false G 15 a2)), (3, .int r2)]) [1, 2, 3, 0] rfl ?_
                  exact hj99 σ10
                · skip
                  refine gz_aload_n C dX4_readEntry_93 2 rfl ?_
                  refine gz_iconst C dX4_readEntry_94 gk_iconst_1 ?_
                  refine gz_ki (gz_runV (t := 3) (ci := 8) (q := (RX8, TX8, 11)) (As := [.int 1]) (rest := []) C dX4_readEntry_95 ml_RX4_43 mw_X8_fail mv_X8_fail (c_X8_fail l G 1 σ10) (gz_hx3 _) rfl rfl rfl rfl rfl (Nat.le_of_ble_eq_true rfl) ⟨rfl, rfl, Nat.le_of_ble_eq_true rfl, Nat.le_of_ble_eq_true rfl, Nat.le_of_ble_eq_true rfl, Nat.le_of_ble_eq_true rfl⟩) (fun r23 σ22 => ?_)
                  exact gz_zret C rfl dX4_readEntry_98
          · skip
            refine gz_iconst C dX4_readEntry_75 gk_iconst_0 ?_
            exact gz_zret C rfl dX4_readEntry_76
        · skip
          refine gz_aload_n C dX4_readEntry_56 2 rfl ?_
          refine gz_iconst C dX4_readEntry_57 gk_iconst_3 ?_
          refine gz_ki (gz_runV (t := 3) (ci := 8) (q := (RX8, TX8, 11)) (As := [.int 3]) (rest := []) C dX4_readEntry_58 ml_RX4_43 mw_X8_fail mv_X8_fail (c_X8_fail l G 3 σ6) (gz_hx3 _) rfl rfl rfl rfl rfl (Nat.le_of_ble_eq_true rfl) ⟨rfl, rfl, Nat.le_of_ble_eq_true rfl, Nat.le_of_ble_eq_true rfl, Nat.le_of_ble_eq_true rfl, Nat.le_of_ble_eq_true rfl⟩) (fun r25 σ24 => ?_)
          exact gz_zret C rfl dX4_readEntry_61
      · skip
        refine gz_aload_n C dX4_readEntry_40 2 rfl ?_
        refine gz_iconst C dX4_readEntry_41 gk_iconst_2 ?_
        refine gz_ki (gz_runV (t := 3) (ci := 8) (q := (RX8, TX8, 11)) (As := [.int 2]) (rest := []) C dX4_readEntry_42 ml_RX4_43 mw_X8_fail mv_X8_fail (c_X8_fail l G 2 σ6) (gz_hx3 _) rfl rfl rfl rfl rfl (Nat.le_of_ble_eq_true rfl) ⟨rfl, rfl, Nat.le_of_ble_eq_true rfl, Nat.le_of_ble_eq_true rfl, Nat.le_of_ble_eq_true rfl, Nat.le_of_ble_eq_true rfl⟩) (fun r27 σ26 => ?_)
        exact gz_zret C rfl dX4_readEntry_45
  · skip
    refine gz_aload_n C dX4_readEntry_8 1 rfl ?_
    refine gz_iconst C dX4_readEntry_9 gk_iconst_1 ?_
    refine gz_ki (gz_runV (t := 3) (ci := 8) (q := (RX8, TX8, 11)) (As := [.int 1]) (rest := []) C dX4_readEntry_10 ml_RX4_43 mw_X8_fail mv_X8_fail (c_X8_fail l G 1 σ) (gz_hx3 _) rfl rfl rfl rfl rfl (Nat.le_of_ble_eq_true rfl) ⟨rfl, rfl, Nat.le_of_ble_eq_true rfl, Nat.le_of_ble_eq_true rfl, Nat.le_of_ble_eq_true rfl, Nat.le_of_ble_eq_true rfl⟩) (fun r29 σ28 => ?_)
    exact gz_zret C rfl dX4_readEntry_13

def f_X4_readNotice_L2 (a0 : Nat) (a2 : Nat) : (Int32 → gz_S → Option (Int32 × gz_S)) → Int32 → gz_S → Option (Int32 × gz_S) := fun rec2 v1 σ2 =>
  if 8 < v1 then
  (some ((0 : Int32) &&& 1, σ2))
  else
  (gz_call (f_X4_readEntry a0 a2 σ2) (fun r4 σ3 =>
  if r4 = 0 then
  (some ((0 : Int32) &&& 1, σ3))
  else
  (if (σ3.1 3 0 4) = 0 then
  (gz_call (f_X4_isWhole a0 a2 σ3) (fun r8 σ7 =>
  some (r8 &&& 1, σ7)))
  else
  (gz_call (f_X8_take 59 σ3) (fun r6 σ5 =>
  if r6 = 0 then
  (some ((0 : Int32) &&& 1, σ5))
  else
  (rec2 (v1 + 1) σ5))))))
def f_X4_readNotice (a0 : Nat) (a2 : Nat) (σ : gz_S) : Option (Int32 × gz_S) :=
  gz_l1 (f_X4_readNotice_L2 a0 a2) gz_fu 0 σ
set_option maxHeartbeats 4000000 in
set_option maxRecDepth 100000 in
theorem c_X4_readNotice (l : Launch) (G : gz_G) (a0 : Nat) (a2 : Nat) (h0 : a0 < 13) (h2 : a2 < 61) (σ : gz_S) : ∀ o, f_X4_readNotice a0 a2 σ = some o → gz_M l false G yX4_readNotice cX4_readNotice 4 (some .boolean) { frames := 4, cells := 0, slots := 0, locals := 90 } [.ref (gz_ad false G 6 a0), .ref (gz_ad false G 3 0), .ref (gz_ad false G 15 a2)] σ (gz_ei o) 0 0 := by
  refine gz_enter RX4 rfl (by decide) (Nat.le_of_ble_eq_true rfl) ?_
  intro p e s m args below meth c C
  refine gz_eqs (st' := []) (lv' := [(0, .ref (gz_ad false G 6 a0)), (1, .ref (gz_ad false G 3 0)), (2, .ref (gz_ad false G 15 a2))]) rfl rfl ?_
  unfold f_X4_readNotice
  refine gz_iconst C dX4_readNotice_0 gk_iconst_0 ?_
  refine gz_istore_n C (lv' := [(3, .int 0), (0, .ref (gz_ad false G 6 a0)), (1, .ref (gz_ad false G 3 0)), (2, .ref (gz_ad false G 15 a2))]) dX4_readNotice_1 (by decide) rfl ?_
  refine gz_lv (lv' := [(0, .ref (gz_ad false G 6 a0)), (1, .ref (gz_ad false G 3 0)), (2, .ref (gz_ad false G 15 a2)), (3, .int 0)]) [1, 2, 3, 0] rfl ?_
  refine gz_l1_ind (P := fun v1 σ2 x => gz_W false p l e ({ frames := 4, cells := 0, slots := 0, locals := 90 } : Room) s m args below meth c G 4 (gz_Q false G below args s 0 0 gz_ei) 0 0 σ2 2 [(0, .ref (gz_ad false G 6 a0)), (1, .ref (gz_ad false G 3 0)), (2, .ref (gz_ad false G 15 a2)), (3, .int v1)] [] x) (fun _ _ => gz_none) (fun rec2 hrec2 v1 σ2 => ?_) gz_fu 0 σ
  unfold f_X4_readNotice_L2
  refine gz_iload_n C dX4_readNotice_2 3 rfl ?_
  refine gz_bipush C dX4_readNotice_3 gk_bipush_8 ?_
  refine gz_icmp_gt (tgt := 50) C dX4_readNotice_5 (by decide) ?_ ?_
  · skip
    refine gz_iconst C dX4_readNotice_50 gk_iconst_0 ?_
    exact gz_zret C rfl dX4_readNotice_51
  · skip
    refine gz_aload_n C dX4_readNotice_8 0 rfl ?_
    refine gz_aload_n C dX4_readNotice_9 1 rfl ?_
    refine gz_aload_n C dX4_readNotice_10 2 rfl ?_
    refine gz_ki (gz_runV (t := 6) (ci := 4) (q := (RX4, TX4, 2)) (As := [.ref (gz_ad false G 3 0), .ref (gz_ad false G 15 a2)]) (rest := []) C dX4_readNotice_11 ml_RX4_105 mw_X4_readEntry mv_X4_readEntry (c_X4_readEntry l G a0 a2 h0 h2 σ2) (gz_hx6 _ h0) rfl rfl rfl rfl rfl (Nat.le_of_ble_eq_true rfl) ⟨rfl, rfl, Nat.le_of_ble_eq_true rfl, Nat.le_of_ble_eq_true rfl, Nat.le_of_ble_eq_true rfl, Nat.le_of_ble_eq_true rfl⟩) (fun r4 σ3 => ?_)
    refine gz_if_ne (tgt := 19) C dX4_readNotice_14 (by decide) ?_ ?_
    · skip
      refine gz_aload_n C dX4_readNotice_19 1 rfl ?_
      refine gz_getN C (t := 3) (k := 4) (ci := 8) (q := (RX8, TX8, 11)) (v := .int (σ3.1 3 0 4)) dX4_readNotice_20 fl_RX4_34 (gz_hx3 _) rfl rfl (by decide) rfl ?_
      refine gz_if_ne (tgt := 33) C dX4_readNotice_23 (by decide) ?_ ?_
      · skip
        refine gz_aload_n C dX4_readNotice_33 1 rfl ?_
        refine gz_bipush C dX4_readNotice_34 gk_bipush_59 ?_
        refine gz_ki (gz_runV (t := 3) (ci := 8) (q := (RX8, TX8, 11)) (As := [.int 59]) (rest := []) C dX4_readNotice_36 ml_RX4_39 mw_X8_take mv_X8_take (c_X8_take l G 59 σ3) (gz_hx3 _) rfl rfl rfl rfl rfl (Nat.le_of_ble_eq_true rfl) ⟨rfl, rfl, Nat.le_of_ble_eq_true rfl, Nat.le_of_ble_eq_true rfl, Nat.le_of_ble_eq_true rfl, Nat.le_of_ble_eq_true rfl⟩) (fun r6 σ5 => ?_)
        refine gz_if_ne (tgt := 44) C dX4_readNotice_39 (by decide) ?_ ?_
        · skip
          refine gz_iinc C (q := 3) (v := v1 + 1) (lv' := [(3, .int (v1 + 1)), (0, .ref (gz_ad false G 6 a0)), (1, .ref (gz_ad false G 3 0)), (2, .ref (gz_ad false G 15 a2))]) dX4_readNotice_44 rfl rfl (by decide) rfl ?_
          refine gz_goto (tgt := 2) C dX4_readNotice_47 (by decide) ?_
          refine gz_lv (lv' := [(0, .ref (gz_ad false G 6 a0)), (1, .ref (gz_ad false G 3 0)), (2, .ref (gz_ad false G 15 a2)), (3, .int (v1 + 1))]) [1, 2, 3, 0] rfl ?_
          exact hrec2 (v1 + 1) σ5
        · skip
          refine gz_iconst C dX4_readNotice_42 gk_iconst_0 ?_
          exact gz_zret C rfl dX4_readNotice_43
      · skip
        refine gz_aload_n C dX4_readNotice_26 0 rfl ?_
        refine gz_aload_n C dX4_readNotice_27 1 rfl ?_
        refine gz_aload_n C dX4_readNotice_28 2 rfl ?_
        refine gz_ki (gz_runV (t := 6) (ci := 4) (q := (RX4, TX4, 2)) (As := [.ref (gz_ad false G 3 0), .ref (gz_ad false G 15 a2)]) (rest := []) C dX4_readNotice_29 ml_RX4_109 mw_X4_isWhole mv_X4_isWhole (c_X4_isWhole l G a0 a2 h0 h2 σ3) (gz_hx6 _ h0) rfl rfl rfl rfl rfl (Nat.le_of_ble_eq_true rfl) ⟨rfl, rfl, Nat.le_of_ble_eq_true rfl, Nat.le_of_ble_eq_true rfl, Nat.le_of_ble_eq_true rfl, Nat.le_of_ble_eq_true rfl⟩) (fun r8 σ7 => ?_)
        exact gz_zret C rfl dX4_readNotice_32
    · skip
      refine gz_iconst C dX4_readNotice_17 gk_iconst_0 ?_
      exact gz_zret C rfl dX4_readNotice_18

def f_X4_reckon_J77 (v1 : Int32) (rec2 : Int32 → gz_S → Option (gz_S)) : gz_S → Option (gz_S) := fun σ6 =>
  rec2 (v1 + 1) σ6
def f_X4_reckon_J76 (a1 : Nat) (j77 : gz_S → Option (gz_S)) : Int32 → Int64 → gz_S → Option (gz_S) := fun x9 x10 σ11 =>
  gz_ix x9 8 (fun n12 =>
  gz_w (gz_sj σ11 15 a1 n12 x10) (fun σ13 =>
  j77 σ13))
def f_X4_reckon_J72 (j76 : Int32 → Int64 → gz_S → Option (gz_S)) : Int32 → Int32 → Int32 → Int32 → gz_S → Option (gz_S) := fun x14 x15 x16 x17 σ18 =>
  gz_call (f_X2_behind x15 x16 x17 σ18) (fun r20 σ19 =>
  j76 x14 ((r20 : Int32).toInt64) σ19)
def f_X4_reckon_L2 (a0 : Nat) (a1 : Nat) : (Int32 → gz_S → Option (gz_S)) → Int32 → gz_S → Option (gz_S) := fun rec2 v1 σ2 =>
  if (σ2.1 6 a0 1) ≤ v1 then
  (some σ2)
  else
  (gz_ix v1 8 (fun n3 =>
  gz_call (f_X3_isSpan (8 * a0 + n3) σ2) (fun r5 σ4 =>
  gz_j0 (f_X4_reckon_J77 v1 rec2) (fun j77 =>
  if r5 = 0 then
  (j77 σ4)
  else
  (gz_ix (σ4.1 8 (8 * a0 + n3) 4) 8 (fun n7 =>
  gz_v ((σ4.2.1 15 a1 n7 : Int64).toInt32) (fun v8 =>
  gz_j2 (f_X4_reckon_J76 a1 j77) (fun j76 =>
  if v8 = (-1) then
  (j76 v1 (-1) σ4)
  else
  (gz_j4 (f_X4_reckon_J72 j76) (fun j72 =>
  if (σ4.1 8 (8 * a0 + n3) 1) = 5 then
  (j72 v1 v8 (σ4.1 8 (8 * a0 + n3) 3) 1 σ4)
  else
  (j72 v1 v8 (σ4.1 8 (8 * a0 + n3) 3) 0 σ4)))))))))))
def f_X4_reckon (a0 : Nat) (a1 : Nat) (σ : gz_S) : Option (gz_S) :=
  gz_l1 (f_X4_reckon_L2 a0 a1) gz_fu 0 σ
set_option maxHeartbeats 4000000 in
set_option maxRecDepth 100000 in
theorem c_X4_reckon (l : Launch) (G : gz_G) (a0 : Nat) (a1 : Nat) (h0 : a0 < 13) (h1 : a1 < 61) (σ : gz_S) : ∀ o, f_X4_reckon a0 a1 σ = some o → gz_M l false G yX4_reckon cX4_reckon 6 none { frames := 4, cells := 0, slots := 0, locals := 90 } [.ref (gz_ad false G 6 a0), .ref (gz_ad false G 15 a1), .ref (gz_ad false G 1 0)] σ (gz_eu o) 0 0 := by
  refine gz_enter RX4 rfl (by decide) (Nat.le_of_ble_eq_true rfl) ?_
  intro p e s m args below meth c C
  refine gz_eqs (st' := []) (lv' := [(0, .ref (gz_ad false G 6 a0)), (1, .ref (gz_ad false G 15 a1)), (2, .ref (gz_ad false G 1 0))]) rfl rfl ?_
  unfold f_X4_reckon
  refine gz_iconst C dX4_reckon_0 gk_iconst_0 ?_
  refine gz_istore_n C (lv' := [(3, .int 0), (0, .ref (gz_ad false G 6 a0)), (1, .ref (gz_ad false G 15 a1)), (2, .ref (gz_ad false G 1 0))]) dX4_reckon_1 (by decide) rfl ?_
  refine gz_lv (lv' := [(0, .ref (gz_ad false G 6 a0)), (1, .ref (gz_ad false G 15 a1)), (2, .ref (gz_ad false G 1 0)), (3, .int 0)]) [1, 2, 3, 0] rfl ?_
  refine gz_l1_ind (P := fun v1 σ2 x => gz_W false p l e ({ frames := 4, cells := 0, slots := 0, locals := 90 } : Room) s m args below meth c G 6 (gz_Q false G below args s 0 0 gz_eu) 0 0 σ2 2 [(0, .ref (gz_ad false G 6 a0)), (1, .ref (gz_ad false G 15 a1)), (2, .ref (gz_ad false G 1 0)), (3, .int v1)] [] x) (fun _ _ => gz_none) (fun rec2 hrec2 v1 σ2 => ?_) gz_fu 0 σ
  unfold f_X4_reckon_L2
  refine gz_iload_n C dX4_reckon_2 3 rfl ?_
  refine gz_aload_n C dX4_reckon_3 0 rfl ?_
  refine gz_get C (t := 6) (k := 1) (ci := 4) (q := (RX4, TX4, 2)) (v := .int (σ2.1 6 a0 1)) dX4_reckon_4 fl_RX4_18 (gz_hx6 _ h0) rfl rfl (by decide) rfl ?_
  refine gz_icmp_ge (tgt := 83) C dX4_reckon_7 (by decide) ?_ ?_
  · skip
    exact gz_vret C rfl dX4_reckon_83
  · skip
    refine gz_aload_n C dX4_reckon_10 0 rfl ?_
    refine gz_get C (t := 6) (k := 0) (ci := 4) (q := (RX4, TX4, 2)) (v := .ref (gz_ad false G 7 a0)) dX4_reckon_11 fl_RX4_11 (gz_hx6 _ h0) rfl rfl (by decide) rfl ?_
    refine gz_iload_n C dX4_reckon_14 3 rfl ?_
    refine gz_aald4 C (t := 7) dX4_reckon_15 (gz_hx7 _ h0) rfl (fun n3 hn3 => ?_)
    refine gz_astore C (lv' := [(4, .ref (gz_ad false G 8 (8 * a0 + n3))), (0, .ref (gz_ad false G 6 a0)), (1, .ref (gz_ad false G 15 a1)), (2, .ref (gz_ad false G 1 0)), (3, .int v1)]) dX4_reckon_16 (by decide) rfl ?_
    refine gz_aload C dX4_reckon_18 0 rfl ?_
    refine gz_ki (gz_runV (t := 8) (ci := 3) (q := (RX3, TX3, 7)) (As := []) (rest := []) C dX4_reckon_20 ml_RX4_112 mw_X3_isSpan mv_X3_isSpan (c_X3_isSpan l G (8 * a0 + n3) (gz_h8 h0 hn3) σ2) (gz_hx8 _ (gz_h8 h0 hn3)) rfl rfl rfl rfl rfl (Nat.le_of_ble_eq_true rfl) ⟨rfl, rfl, Nat.le_of_ble_eq_true rfl, Nat.le_of_ble_eq_true rfl, Nat.le_of_ble_eq_true rfl, Nat.le_of_ble_eq_true rfl⟩) (fun r5 σ4 => ?_)
    refine gz_j0_row (P := fun σ6 x => gz_W false p l e ({ frames := 4, cells := 0, slots := 0, locals := 90 } : Room) s m args below meth c G 6 (gz_Q false G below args s 0 0 gz_eu) 0 0 σ6 77 [(0, .ref (gz_ad false G 6 a0)), (1, .ref (gz_ad false G 15 a1)), (2, .ref (gz_ad false G 1 0)), (3, .int v1)] [] x) (fun σ6 => ?_) (fun j77 hj77 => ?_)
    · unfold f_X4_reckon_J77
      refine gz_iinc C (q := 3) (v := v1 + 1) (lv' := [(3, .int (v1 + 1)), (0, .ref (gz_ad false G 6 a0)), (1, .ref (gz_ad false G 15 a1)), (2, .ref (gz_ad false G 1 0))]) dX4_reckon_77 rfl rfl (by decide) rfl ?_
      refine gz_goto (tgt := 2) C dX4_reckon_80 (by decide) ?_
      refine gz_lv (lv' := [(0, .ref (gz_ad false G 6 a0)), (1, .ref (gz_ad false G 15 a1)), (2, .ref (gz_ad false G 1 0)), (3, .int (v1 + 1))]) [1, 2, 3, 0] rfl ?_
      exact hrec2 (v1 + 1) σ6
    · skip
      refine gz_if_eq (tgt := 77) C dX4_reckon_23 (by decide) ?_ ?_
      · skip
        refine gz_lv (lv' := [(0, .ref (gz_ad false G 6 a0)), (1, .ref (gz_ad false G 15 a1)), (2, .ref (gz_ad false G 1 0)), (3, .int v1)]) [1, 2, 3, 4] rfl ?_
        exact hj77 σ4
      · skip
        refine gz_aload_n C dX4_reckon_26 2 rfl ?_
        refine gz_aload C dX4_reckon_27 0 rfl ?_
        refine gz_getN C (t := 8) (k := 4) (ci := 3) (q := (RX3, TX3, 7)) (v := .int (σ4.1 8 (8 * a0 + n3) 4)) dX4_reckon_29 fl_RX4_102 (gz_hx8 _ (gz_h8 h0 hn3)) rfl rfl (by decide) rfl ?_
        refine gz_lald C (t := 15) dX4_reckon_32 (gz_hx15 _ h1) rfl (fun n7 hn7 => ?_)
        refine gz_l2i C dX4_reckon_33 ?_
        refine gz_topI (fun v8 => ?_)
        refine gz_istore C (lv' := [(5, .int v8), (4, .ref (gz_ad false G 8 (8 * a0 + n3))), (0, .ref (gz_ad false G 6 a0)), (1, .ref (gz_ad false G 15 a1)), (2, .ref (gz_ad false G 1 0)), (3, .int v1)]) dX4_reckon_34 (by decide) rfl ?_
        refine gz_aload_n C dX4_reckon_36 3 rfl ?_
        refine gz_iload_n C dX4_reckon_37 5 rfl ?_
        refine gz_iload C dX4_reckon_38 0 rfl ?_
        refine gz_iconst C dX4_reckon_40 gk_iconst_m1 ?_
        refine gz_j2_row (P := fun x9 x10 σ11 x => gz_W false p l e ({ frames := 4, cells := 0, slots := 0, locals := 90 } : Room) s m args below meth c G 6 (gz_Q false G below args s 0 0 gz_eu) 0 0 σ11 76 [(0, .ref (gz_ad false G 6 a0)), (1, .ref (gz_ad false G 15 a1)), (2, .ref (gz_ad false G 1 0)), (3, .int v1)] [.long x10, .int x9, .ref (gz_ad false G 15 a1)] x) (fun x9 x10 σ11 => ?_) (fun j76 hj76 => ?_)
        · unfold f_X4_reckon_J76
          refine gz_last C (t := 15) dX4_reckon_76 (gz_hx15 _ h1) rfl (fun n12 hn12 => ?_)
          refine gz_w_row (fun σ13 => ?_)
          exact hj77 σ13
        · skip
          refine gz_icmp_ne (tgt := 50) C dX4_reckon_41 (by decide) ?_ ?_
          · skip
            refine gz_aload_n C dX4_reckon_50 4 rfl ?_
            refine gz_iload C dX4_reckon_51 0 rfl ?_
            refine gz_aload C dX4_reckon_53 1 rfl ?_
            refine gz_getN C (t := 8) (k := 3) (ci := 3) (q := (RX3, TX3, 7)) (v := .int (σ4.1 8 (8 * a0 + n3) 3)) dX4_reckon_55 fl_RX4_91 (gz_hx8 _ (gz_h8 h0 hn3)) rfl rfl (by decide) rfl ?_
            refine gz_aload C dX4_reckon_58 1 rfl ?_
            refine gz_getN C (t := 8) (k := 1) (ci := 3) (q := (RX3, TX3, 7)) (v := .int (σ4.1 8 (8 * a0 + n3) 1)) dX4_reckon_60 fl_RX4_75 (gz_hx8 _ (gz_h8 h0 hn3)) rfl rfl (by decide) rfl ?_
            refine gz_iconst C dX4_reckon_63 gk_iconst_5 ?_
            refine gz_j4_row (P := fun x14 x15 x16 x17 σ18 x => gz_W false p l e ({ frames := 4, cells := 0, slots := 0, locals := 90 } : Room) s m args below meth c G 6 (gz_Q false G below args s 0 0 gz_eu) 0 0 σ18 72 [(0, .ref (gz_ad false G 6 a0)), (1, .ref (gz_ad false G 15 a1)), (2, .ref (gz_ad false G 1 0)), (3, .int v1)] [.int x17, .int x16, .int x15, .ref (gz_ad false G 1 0), .int x14, .ref (gz_ad false G 15 a1)] x) (fun x14 x15 x16 x17 σ18 => ?_) (fun j72 hj72 => ?_)
            · unfold f_X4_reckon_J72
              refine gz_ki (gz_runV (t := 1) (ci := 2) (q := (RX2, TX2, 2)) (As := [.int x15, .int x16, .int x17]) (rest := [.int x14, .ref (gz_ad false G 15 a1)]) C dX4_reckon_72 ml_RX4_124 mw_X2_behind mv_X2_behind (c_X2_behind l G x15 x16 x17 σ18) (gz_hx1 _) rfl rfl rfl rfl rfl (Nat.le_of_ble_eq_true rfl) ⟨rfl, rfl, Nat.le_of_ble_eq_true rfl, Nat.le_of_ble_eq_true rfl, Nat.le_of_ble_eq_true rfl, Nat.le_of_ble_eq_true rfl⟩) (fun r20 σ19 => ?_)
              refine gz_i2l C dX4_reckon_75 ?_
              exact hj76 x14 ((r20 : Int32).toInt64) σ19
            · skip
              refine gz_icmp_ne (tgt := 71) C dX4_reckon_64 (by decide) ?_ ?_
              · skip
                refine gz_iconst C dX4_reckon_71 gk_iconst_0 ?_
                refine gz_lv (lv' := [(0, .ref (gz_ad false G 6 a0)), (1, .ref (gz_ad false G 15 a1)), (2, .ref (gz_ad false G 1 0)), (3, .int v1)]) [2, 3, 4, 5] rfl ?_
                exact hj72 v1 v8 (σ4.1 8 (8 * a0 + n3) 3) 0 σ4
              · skip
                refine gz_iconst C dX4_reckon_67 gk_iconst_1 ?_
                refine gz_goto (tgt := 72) C dX4_reckon_68 (by decide) ?_
                refine gz_lv (lv' := [(0, .ref (gz_ad false G 6 a0)), (1, .ref (gz_ad false G 15 a1)), (2, .ref (gz_ad false G 1 0)), (3, .int v1)]) [2, 3, 4, 5] rfl ?_
                exact hj72 v1 v8 (σ4.1 8 (8 * a0 + n3) 3) 1 σ4
          · skip
            refine gz_ldc2 C dX4_reckon_44 cw_RX4_115 ?_
            refine gz_goto (tgt := 76) C dX4_reckon_47 (by decide) ?_
            refine gz_lv (lv' := [(0, .ref (gz_ad false G 6 a0)), (1, .ref (gz_ad false G 15 a1)), (2, .ref (gz_ad false G 1 0)), (3, .int v1)]) [2, 3, 4, 5] rfl ?_
            exact hj76 v1 (-1) σ4

def f_X5_begin (a0 : Nat) (a1 : Int32) (a2 : Int32) (σ : gz_S) : Option (gz_S) :=
  gz_w (gz_si σ 20 a0 0 a1) (fun σ1 =>
  gz_w (gz_si σ1 20 a0 1 a2) (fun σ2 =>
  gz_w (gz_si σ2 20 a0 2 0) (fun σ3 =>
  gz_w (gz_si σ3 20 a0 3 0) (fun σ4 =>
  gz_w (gz_si σ4 20 a0 4 0) (fun σ5 =>
  some σ5)))))
set_option maxHeartbeats 4000000 in
set_option maxRecDepth 100000 in
theorem c_X5_begin (l : Launch) (G : gz_G) (a0 : Nat) (a1 : Int32) (a2 : Int32) (h0 : a0 < 40) (σ : gz_S) : ∀ o, f_X5_begin a0 a1 a2 σ = some o → gz_M l false G yX5_begin cX5_begin 3 none { frames := 0, cells := 0, slots := 0, locals := 0 } [.ref (gz_ad false G 20 a0), .int a1, .int a2] σ (gz_eu o) 0 0 := by
  refine gz_enter RX5 rfl (by decide) (Nat.le_of_ble_eq_true rfl) ?_
  intro p e s m args below meth c C
  refine gz_eqs (st' := []) (lv' := [(0, .ref (gz_ad false G 20 a0)), (1, .int a1), (2, .int a2)]) rfl rfl ?_
  unfold f_X5_begin
  refine gz_aload_n C dX5_begin_0 0 rfl ?_
  refine gz_iload_n C dX5_begin_1 1 rfl ?_
  refine gz_putI C (t := 20) (k := 0) (ci := 5) (q := (RX5, TX5, 6)) dX5_begin_2 fl_RX5_15 (gz_hx20 _ h0) rfl rfl (by decide) rfl rfl rfl rfl ?_
  refine gz_w_row (fun σ1 => ?_)
  refine gz_aload_n C dX5_begin_5 0 rfl ?_
  refine gz_iload_n C dX5_begin_6 2 rfl ?_
  refine gz_putI C (t := 20) (k := 1) (ci := 5) (q := (RX5, TX5, 6)) dX5_begin_7 fl_RX5_19 (gz_hx20 _ h0) rfl rfl (by decide) rfl rfl rfl rfl ?_
  refine gz_w_row (fun σ2 => ?_)
  refine gz_aload_n C dX5_begin_10 0 rfl ?_
  refine gz_iconst C dX5_begin_11 gk_iconst_0 ?_
  refine gz_putI C (t := 20) (k := 2) (ci := 5) (q := (RX5, TX5, 6)) dX5_begin_12 fl_RX5_22 (gz_hx20 _ h0) rfl rfl (by decide) rfl rfl rfl rfl ?_
  refine gz_w_row (fun σ3 => ?_)
  refine gz_aload_n C dX5_begin_15 0 rfl ?_
  refine gz_iconst C dX5_begin_16 gk_iconst_0 ?_
  refine gz_putI C (t := 20) (k := 3) (ci := 5) (q := (RX5, TX5, 6)) dX5_begin_17 fl_RX5_25 (gz_hx20 _ h0) rfl rfl (by decide) rfl rfl rfl rfl ?_
  refine gz_w_row (fun σ4 => ?_)
  refine gz_aload_n C dX5_begin_20 0 rfl ?_
  refine gz_iconst C dX5_begin_21 gk_iconst_0 ?_
  refine gz_putI C (t := 20) (k := 4) (ci := 5) (q := (RX5, TX5, 6)) dX5_begin_22 fl_RX5_28 (gz_hx20 _ h0) rfl rfl (by decide) rfl rfl rfl rfl ?_
  refine gz_w_row (fun σ5 => ?_)
  exact gz_vret C rfl dX5_begin_25

def f_J7_fill_d0a16_L6 (a0 : Nat) (a1 : Int64) : (Int32 → gz_S → Option (gz_S)) → Int32 → gz_S → Option (gz_S) := fun rec6 v1 σ2 =>
  if 8 ≤ v1 then
  (some σ2)
  else
  (gz_ix v1 8 (fun n3 =>
  gz_w (gz_sj σ2 15 a0 n3 a1) (fun σ4 =>
  rec6 (v1 + 1) σ4)))
def f_J7_fill_d0a16 (a0 : Nat) (a1 : Int64) (σ : gz_S) : Option (gz_S) :=
  gz_l1 (f_J7_fill_d0a16_L6 a0 a1) gz_fu 0 σ
set_option maxHeartbeats 4000000 in
set_option maxRecDepth 100000 in
theorem c_J7_fill_d0a16 (l : Launch) (G : gz_G) (a0 : Nat) (a1 : Int64) (h0 : a0 < 61) (σ : gz_S) : ∀ o, f_J7_fill_d0a16 a0 a1 σ = some o → gz_M l false G yJ7_fill_d0a16 cJ7_fill_d0a16 5 none { frames := 0, cells := 0, slots := 0, locals := 0 } [.ref (gz_ad false G 15 a0), .long a1] σ (gz_eu o) 0 0 := by
  refine gz_enterF RJ7 rfl (by decide +kernel) (Nat.le_of_ble_eq_true rfl) ?_
  intro p e s m args below meth c C
  refine gz_eqs (st' := []) (lv' := [(0, .ref (gz_ad false G 15 a0)), (1, .long a1)]) rfl rfl ?_
  unfold f_J7_fill_d0a16
  refine gz_iconst C dJ7_fill_d0a16_0 gk_iconst_0 ?_
  refine gz_istore_n C (lv' := [(3, .int 0), (0, .ref (gz_ad false G 15 a0)), (1, .long a1)]) dJ7_fill_d0a16_1 (by decide) rfl ?_
  refine gz_aload_n C dJ7_fill_d0a16_2 1 rfl ?_
  refine gz_alen C (t := 15) (v := 8) dJ7_fill_d0a16_3 (gz_hx15 _ h0) rfl (by decide) (by decide) ?_
  refine gz_istore C (lv' := [(4, .int 8), (3, .int 0), (0, .ref (gz_ad false G 15 a0)), (1, .long a1)]) dJ7_fill_d0a16_4 (by decide) rfl ?_
  refine gz_lv (lv' := [(0, .ref (gz_ad false G 15 a0)), (1, .long a1), (3, .int 0), (4, .int 8)]) [2, 3, 1, 0] rfl ?_
  refine gz_l1_ind (P := fun v1 σ2 x => gz_W false p l e ({ frames := 0, cells := 0, slots := 0, locals := 0 } : Room) s m args below meth c G 5 (gz_Q false G below args s 0 0 gz_eu) 0 0 σ2 6 [(0, .ref (gz_ad false G 15 a0)), (1, .long a1), (3, .int v1), (4, .int 8)] [] x) (fun _ _ => gz_none) (fun rec6 hrec6 v1 σ2 => ?_) gz_fu 0 σ
  unfold f_J7_fill_d0a16_L6
  refine gz_iload_n C dJ7_fill_d0a16_6 2 rfl ?_
  refine gz_iload C dJ7_fill_d0a16_7 3 rfl ?_
  refine gz_icmp_ge (tgt := 22) C dJ7_fill_d0a16_9 (by decide) ?_ ?_
  · skip
    exact gz_vret C rfl dJ7_fill_d0a16_22
  · skip
    refine gz_aload_n C dJ7_fill_d0a16_12 0 rfl ?_
    refine gz_iload_n C dJ7_fill_d0a16_13 2 rfl ?_
    refine gz_lload_n C dJ7_fill_d0a16_14 1 rfl ?_
    refine gz_last C (t := 15) dJ7_fill_d0a16_15 (gz_hx15 _ h0) rfl (fun n3 hn3 => ?_)
    refine gz_w_row (fun σ4 => ?_)
    refine gz_iinc C (q := 2) (v := v1 + 1) (lv' := [(3, .int (v1 + 1)), (0, .ref (gz_ad false G 15 a0)), (1, .long a1), (4, .int 8)]) dJ7_fill_d0a16_16 rfl rfl (by decide) rfl ?_
    refine gz_goto (tgt := 6) C dJ7_fill_d0a16_19 (by decide) ?_
    refine gz_lv (lv' := [(0, .ref (gz_ad false G 15 a0)), (1, .long a1), (3, .int (v1 + 1)), (4, .int 8)]) [1, 2, 0, 3] rfl ?_
    exact hrec6 (v1 + 1) σ4

def f_X6_begin (a0 : Nat) (a1 : Int32) (a2 : Int32) (a3 : Int32) (σ : gz_S) : Option (gz_S) :=
  gz_w (gz_si σ 14 a0 0 a1) (fun σ1 =>
  gz_w (gz_si σ1 14 a0 1 a2) (fun σ2 =>
  gz_w (gz_si σ2 14 a0 2 a3) (fun σ3 =>
  gz_w (gz_si σ3 14 a0 3 (-1)) (fun σ4 =>
  gz_w (gz_si σ4 14 a0 4 (-1)) (fun σ5 =>
  gz_then (f_J7_fill_d0a16 a0 (-1) σ5) (fun σ6 =>
  gz_w (gz_si σ6 14 a0 6 0) (fun σ7 =>
  gz_w (gz_si σ7 14 a0 10 (-1)) (fun σ8 =>
  gz_w (gz_sj σ8 14 a0 11 0) (fun σ9 =>
  gz_w (gz_sj σ9 14 a0 12 0) (fun σ10 =>
  gz_w (gz_sj σ10 14 a0 13 0) (fun σ11 =>
  gz_w (gz_si σ11 14 a0 14 0) (fun σ12 =>
  some σ12))))))))))))
set_option maxHeartbeats 4000000 in
set_option maxRecDepth 100000 in
theorem c_X6_begin (l : Launch) (G : gz_G) (a0 : Nat) (a1 : Int32) (a2 : Int32) (a3 : Int32) (h0 : a0 < 61) (σ : gz_S) : ∀ o, f_X6_begin a0 a1 a2 a3 σ = some o → gz_M l false G yX6_begin cX6_begin 4 none { frames := 1, cells := 0, slots := 0, locals := 24 } [.ref (gz_ad false G 14 a0), .int a1, .int a2, .int a3] σ (gz_eu o) 0 0 := by
  refine gz_enter RX6 rfl (by decide) (Nat.le_of_ble_eq_true rfl) ?_
  intro p e s m args below meth c C
  refine gz_eqs (st' := []) (lv' := [(0, .ref (gz_ad false G 14 a0)), (1, .int a1), (2, .int a2), (3, .int a3)]) rfl rfl ?_
  unfold f_X6_begin
  refine gz_aload_n C dX6_begin_0 0 rfl ?_
  refine gz_iload_n C dX6_begin_1 1 rfl ?_
  refine gz_putI C (t := 14) (k := 0) (ci := 6) (q := (RX6, TX6, 15)) dX6_begin_2 fl_RX6_25 (gz_hx14 _ h0) rfl rfl (by decide) rfl rfl rfl rfl ?_
  refine gz_w_row (fun σ1 => ?_)
  refine gz_aload_n C dX6_begin_5 0 rfl ?_
  refine gz_iload_n C dX6_begin_6 2 rfl ?_
  refine gz_putI C (t := 14) (k := 1) (ci := 6) (q := (RX6, TX6, 15)) dX6_begin_7 fl_RX6_29 (gz_hx14 _ h0) rfl rfl (by decide) rfl rfl rfl rfl ?_
  refine gz_w_row (fun σ2 => ?_)
  refine gz_aload_n C dX6_begin_10 0 rfl ?_
  refine gz_iload_n C dX6_begin_11 3 rfl ?_
  refine gz_putI C (t := 14) (k := 2) (ci := 6) (q := (RX6, TX6, 15)) dX6_begin_12 fl_RX6_32 (gz_hx14 _ h0) rfl rfl (by decide) rfl rfl rfl rfl ?_
  refine gz_w_row (fun σ3 => ?_)
  refine gz_aload_n C dX6_begin_15 0 rfl ?_
  refine gz_iconst C dX6_begin_16 gk_iconst_m1 ?_
  refine gz_putI C (t := 14) (k := 3) (ci := 6) (q := (RX6, TX6, 15)) dX6_begin_17 fl_RX6_35 (gz_hx14 _ h0) rfl rfl (by decide) rfl rfl rfl rfl ?_
  refine gz_w_row (fun σ4 => ?_)
  refine gz_aload_n C dX6_begin_20 0 rfl ?_
  refine gz_iconst C dX6_begin_21 gk_iconst_m1 ?_
  refine gz_putI C (t := 14) (k := 4) (ci := 6) (q := (RX6, TX6, 15)) dX6_begin_22 fl_RX6_38 (gz_hx14 _ h0) rfl rfl (by decide) rfl rfl rfl rfl ?_
  refine gz_w_row (fun σ5 => ?_)
  refine gz_aload_n C dX6_begin_25 0 rfl ?_
  refine gz_get C (t := 14) (k := 5) (ci := 6) (q := (RX6, TX6, 15)) (v := .ref (gz_ad false G 15 a0)) dX6_begin_26 fl_RX6_9 (gz_hx14 _ h0) rfl rfl (by decide) rfl ?_
  refine gz_ldc2 C dX6_begin_29 cw_RX6_41 ?_
  refine gz_kv (gz_runS (As := [.ref (gz_ad false G 15 a0), .long (-1)]) (rest := []) C dX6_begin_32 ml_RX6_43 mw_J7_fill_d0a16 ms_J7_fill_d0a16 (c_J7_fill_d0a16 l G a0 (-1) h0 σ5) rfl rfl (Nat.le_of_ble_eq_true rfl) ⟨rfl, rfl, Nat.le_of_ble_eq_true rfl, Nat.le_of_ble_eq_true rfl, Nat.le_of_ble_eq_true rfl, Nat.le_of_ble_eq_true rfl⟩) (fun σ6 => ?_)
  refine gz_aload_n C dX6_begin_35 0 rfl ?_
  refine gz_iconst C dX6_begin_36 gk_iconst_0 ?_
  refine gz_putI C (t := 14) (k := 6) (ci := 6) (q := (RX6, TX6, 15)) dX6_begin_37 fl_RX6_49 (gz_hx14 _ h0) rfl rfl (by decide) rfl rfl rfl rfl ?_
  refine gz_w_row (fun σ7 => ?_)
  refine gz_aload_n C dX6_begin_40 0 rfl ?_
  refine gz_iconst C dX6_begin_41 gk_iconst_m1 ?_
  refine gz_putI C (t := 14) (k := 10) (ci := 6) (q := (RX6, TX6, 15)) dX6_begin_42 fl_RX6_52 (gz_hx14 _ h0) rfl rfl (by decide) rfl rfl rfl rfl ?_
  refine gz_w_row (fun σ8 => ?_)
  refine gz_aload_n C dX6_begin_45 0 rfl ?_
  refine gz_lconst C dX6_begin_46 gk_lconst_0 ?_
  refine gz_putJ C (t := 14) (k := 11) (ci := 6) (q := (RX6, TX6, 15)) dX6_begin_47 fl_RX6_55 (gz_hx14 _ h0) rfl rfl (by decide) rfl rfl rfl rfl ?_
  refine gz_w_row (fun σ9 => ?_)
  refine gz_aload_n C dX6_begin_50 0 rfl ?_
  refine gz_lconst C dX6_begin_51 gk_lconst_0 ?_
  refine gz_putJ C (t := 14) (k := 12) (ci := 6) (q := (RX6, TX6, 15)) dX6_begin_52 fl_RX6_59 (gz_hx14 _ h0) rfl rfl (by decide) rfl rfl rfl rfl ?_
  refine gz_w_row (fun σ10 => ?_)
  refine gz_aload_n C dX6_begin_55 0 rfl ?_
  refine gz_lconst C dX6_begin_56 gk_lconst_0 ?_
  refine gz_putJ C (t := 14) (k := 13) (ci := 6) (q := (RX6, TX6, 15)) dX6_begin_57 fl_RX6_62 (gz_hx14 _ h0) rfl rfl (by decide) rfl rfl rfl rfl ?_
  refine gz_w_row (fun σ11 => ?_)
  refine gz_aload_n C dX6_begin_60 0 rfl ?_
  refine gz_iconst C dX6_begin_61 gk_iconst_0 ?_
  refine gz_putI C (t := 14) (k := 14) (ci := 6) (q := (RX6, TX6, 15)) dX6_begin_62 fl_RX6_65 (gz_hx14 _ h0) rfl rfl (by decide) rfl rfl rfl rfl ?_
  refine gz_w_row (fun σ12 => ?_)
  exact gz_vret C rfl dX6_begin_65

def f_X6_addLaw (a0 : Nat) (a1 : Int32) (a2 : Int32) (a3 : Int32) (σ : gz_S) : Option (gz_S) :=
  if 4 ≤ (σ.1 14 a0 6) then
  (some σ)
  else
  (gz_ix (σ.1 14 a0 6) 4 (fun n1 =>
  gz_w (gz_si σ 16 a0 n1 a1) (fun σ2 =>
  gz_ix (σ2.1 14 a0 6) 4 (fun n3 =>
  gz_w (gz_si σ2 17 a0 n3 a2) (fun σ4 =>
  gz_ix (σ4.1 14 a0 6) 4 (fun n5 =>
  gz_w (gz_si σ4 18 a0 n5 a3) (fun σ6 =>
  gz_w (gz_si σ6 14 a0 6 ((σ6.1 14 a0 6) + 1)) (fun σ7 =>
  some σ7))))))))
set_option maxHeartbeats 4000000 in
set_option maxRecDepth 100000 in
theorem c_X6_addLaw (l : Launch) (G : gz_G) (a0 : Nat) (a1 : Int32) (a2 : Int32) (a3 : Int32) (h0 : a0 < 61) (σ : gz_S) : ∀ o, f_X6_addLaw a0 a1 a2 a3 σ = some o → gz_M l false G yX6_addLaw cX6_addLaw 4 none { frames := 0, cells := 0, slots := 0, locals := 0 } [.ref (gz_ad false G 14 a0), .int a1, .int a2, .int a3] σ (gz_eu o) 0 0 := by
  refine gz_enter RX6 rfl (by decide) (Nat.le_of_ble_eq_true rfl) ?_
  intro p e s m args below meth c C
  refine gz_eqs (st' := []) (lv' := [(0, .ref (gz_ad false G 14 a0)), (1, .int a1), (2, .int a2), (3, .int a3)]) rfl rfl ?_
  unfold f_X6_addLaw
  refine gz_aload_n C dX6_addLaw_0 0 rfl ?_
  refine gz_get C (t := 14) (k := 6) (ci := 6) (q := (RX6, TX6, 15)) (v := .int (σ.1 14 a0 6)) dX6_addLaw_1 fl_RX6_49 (gz_hx14 _ h0) rfl rfl (by decide) rfl ?_
  refine gz_iconst C dX6_addLaw_4 gk_iconst_4 ?_
  refine gz_icmp_ge (tgt := 48) C dX6_addLaw_5 (by decide) ?_ ?_
  · skip
    exact gz_vret C rfl dX6_addLaw_48
  · skip
    refine gz_aload_n C dX6_addLaw_8 0 rfl ?_
    refine gz_get C (t := 14) (k := 7) (ci := 6) (q := (RX6, TX6, 15)) (v := .ref (gz_ad false G 16 a0)) dX6_addLaw_9 fl_RX6_15 (gz_hx14 _ h0) rfl rfl (by decide) rfl ?_
    refine gz_aload_n C dX6_addLaw_12 0 rfl ?_
    refine gz_get C (t := 14) (k := 6) (ci := 6) (q := (RX6, TX6, 15)) (v := .int (σ.1 14 a0 6)) dX6_addLaw_13 fl_RX6_49 (gz_hx14 _ h0) rfl rfl (by decide) rfl ?_
    refine gz_iload_n C dX6_addLaw_16 1 rfl ?_
    refine gz_iast C (t := 16) dX6_addLaw_17 (gz_hx16 _ h0) rfl (fun n1 hn1 => ?_)
    refine gz_w_row (fun σ2 => ?_)
    refine gz_aload_n C dX6_addLaw_18 0 rfl ?_
    refine gz_get C (t := 14) (k := 8) (ci := 6) (q := (RX6, TX6, 15)) (v := .ref (gz_ad false G 17 a0)) dX6_addLaw_19 fl_RX6_19 (gz_hx14 _ h0) rfl rfl (by decide) rfl ?_
    refine gz_aload_n C dX6_addLaw_22 0 rfl ?_
    refine gz_get C (t := 14) (k := 6) (ci := 6) (q := (RX6, TX6, 15)) (v := .int (σ2.1 14 a0 6)) dX6_addLaw_23 fl_RX6_49 (gz_hx14 _ h0) rfl rfl (by decide) rfl ?_
    refine gz_iload_n C dX6_addLaw_26 2 rfl ?_
    refine gz_iast C (t := 17) dX6_addLaw_27 (gz_hx17 _ h0) rfl (fun n3 hn3 => ?_)
    refine gz_w_row (fun σ4 => ?_)
    refine gz_aload_n C dX6_addLaw_28 0 rfl ?_
    refine gz_get C (t := 14) (k := 9) (ci := 6) (q := (RX6, TX6, 15)) (v := .ref (gz_ad false G 18 a0)) dX6_addLaw_29 fl_RX6_22 (gz_hx14 _ h0) rfl rfl (by decide) rfl ?_
    refine gz_aload_n C dX6_addLaw_32 0 rfl ?_
    refine gz_get C (t := 14) (k := 6) (ci := 6) (q := (RX6, TX6, 15)) (v := .int (σ4.1 14 a0 6)) dX6_addLaw_33 fl_RX6_49 (gz_hx14 _ h0) rfl rfl (by decide) rfl ?_
    refine gz_iload_n C dX6_addLaw_36 3 rfl ?_
    refine gz_iast C (t := 18) dX6_addLaw_37 (gz_hx18 _ h0) rfl (fun n5 hn5 => ?_)
    refine gz_w_row (fun σ6 => ?_)
    refine gz_aload_n C dX6_addLaw_38 0 rfl ?_
    refine gz_dup C dX6_addLaw_39 rfl ?_
    refine gz_get C (t := 14) (k := 6) (ci := 6) (q := (RX6, TX6, 15)) (v := .int (σ6.1 14 a0 6)) dX6_addLaw_40 fl_RX6_49 (gz_hx14 _ h0) rfl rfl (by decide) rfl ?_
    refine gz_iconst C dX6_addLaw_43 gk_iconst_1 ?_
    refine gz_iadd C dX6_addLaw_44 ?_
    refine gz_putI C (t := 14) (k := 6) (ci := 6) (q := (RX6, TX6, 15)) dX6_addLaw_45 fl_RX6_49 (gz_hx14 _ h0) rfl rfl (by decide) rfl rfl rfl rfl ?_
    refine gz_w_row (fun σ7 => ?_)
    exact gz_vret C rfl dX6_addLaw_48

def f_X6_print (a0 : Nat) (a1 : Int32) (a2 : Int32) (σ : gz_S) : Option (gz_S) :=
  gz_w (gz_si σ 14 a0 3 a1) (fun σ1 =>
  gz_w (gz_si σ1 14 a0 4 a2) (fun σ2 =>
  some σ2))
set_option maxHeartbeats 4000000 in
set_option maxRecDepth 100000 in
theorem c_X6_print (l : Launch) (G : gz_G) (a0 : Nat) (a1 : Int32) (a2 : Int32) (h0 : a0 < 61) (σ : gz_S) : ∀ o, f_X6_print a0 a1 a2 σ = some o → gz_M l false G yX6_print cX6_print 3 none { frames := 0, cells := 0, slots := 0, locals := 0 } [.ref (gz_ad false G 14 a0), .int a1, .int a2] σ (gz_eu o) 0 0 := by
  refine gz_enter RX6 rfl (by decide) (Nat.le_of_ble_eq_true rfl) ?_
  intro p e s m args below meth c C
  refine gz_eqs (st' := []) (lv' := [(0, .ref (gz_ad false G 14 a0)), (1, .int a1), (2, .int a2)]) rfl rfl ?_
  unfold f_X6_print
  refine gz_aload_n C dX6_print_0 0 rfl ?_
  refine gz_iload_n C dX6_print_1 1 rfl ?_
  refine gz_putI C (t := 14) (k := 3) (ci := 6) (q := (RX6, TX6, 15)) dX6_print_2 fl_RX6_35 (gz_hx14 _ h0) rfl rfl (by decide) rfl rfl rfl rfl ?_
  refine gz_w_row (fun σ1 => ?_)
  refine gz_aload_n C dX6_print_5 0 rfl ?_
  refine gz_iload_n C dX6_print_6 2 rfl ?_
  refine gz_putI C (t := 14) (k := 4) (ci := 6) (q := (RX6, TX6, 15)) dX6_print_7 fl_RX6_38 (gz_hx14 _ h0) rfl rfl (by decide) rfl rfl rfl rfl ?_
  refine gz_w_row (fun σ2 => ?_)
  exact gz_vret C rfl dX6_print_10

def f_X7_start (a1 : Int32) (a2 : Int32) (σ : gz_S) : Option (gz_S) :=
  gz_w (gz_si σ 22 0 5 a1) (fun σ1 =>
  gz_w (gz_si σ1 22 0 6 a2) (fun σ2 =>
  gz_w (gz_si σ2 22 0 3 0) (fun σ3 =>
  gz_w (gz_si σ3 22 0 4 0) (fun σ4 =>
  gz_ix (0 : Int32) 4096 (fun n5 =>
  gz_w (gz_si σ4 23 0 n5 a2) (fun σ6 =>
  some σ6))))))
set_option maxHeartbeats 4000000 in
set_option maxRecDepth 100000 in
theorem c_X7_start (l : Launch) (G : gz_G) (a1 : Int32) (a2 : Int32) (σ : gz_S) : ∀ o, f_X7_start a1 a2 σ = some o → gz_M l false G yX7_start cX7_start 3 none { frames := 0, cells := 0, slots := 0, locals := 0 } [.ref (gz_ad false G 22 0), .int a1, .int a2] σ (gz_eu o) 0 0 := by
  refine gz_enter RX7 rfl (by decide) (Nat.le_of_ble_eq_true rfl) ?_
  intro p e s m args below meth c C
  refine gz_eqs (st' := []) (lv' := [(0, .ref (gz_ad false G 22 0)), (1, .int a1), (2, .int a2)]) rfl rfl ?_
  unfold f_X7_start
  refine gz_aload_n C dX7_start_0 0 rfl ?_
  refine gz_iload_n C dX7_start_1 1 rfl ?_
  refine gz_putI C (t := 22) (k := 5) (ci := 7) (q := (RX7, TX7, 7)) dX7_start_2 fl_RX7_21 (gz_hx22 _) rfl rfl (by decide) rfl rfl rfl rfl ?_
  refine gz_w_row (fun σ1 => ?_)
  refine gz_aload_n C dX7_start_5 0 rfl ?_
  refine gz_iload_n C dX7_start_6 2 rfl ?_
  refine gz_putI C (t := 22) (k := 6) (ci := 7) (q := (RX7, TX7, 7)) dX7_start_7 fl_RX7_25 (gz_hx22 _) rfl rfl (by decide) rfl rfl rfl rfl ?_
  refine gz_w_row (fun σ2 => ?_)
  refine gz_aload_n C dX7_start_10 0 rfl ?_
  refine gz_iconst C dX7_start_11 gk_iconst_0 ?_
  refine gz_putI C (t := 22) (k := 3) (ci := 7) (q := (RX7, TX7, 7)) dX7_start_12 fl_RX7_28 (gz_hx22 _) rfl rfl (by decide) rfl rfl rfl rfl ?_
  refine gz_w_row (fun σ3 => ?_)
  refine gz_aload_n C dX7_start_15 0 rfl ?_
  refine gz_iconst C dX7_start_16 gk_iconst_0 ?_
  refine gz_putI C (t := 22) (k := 4) (ci := 7) (q := (RX7, TX7, 7)) dX7_start_17 fl_RX7_31 (gz_hx22 _) rfl rfl (by decide) rfl rfl rfl rfl ?_
  refine gz_w_row (fun σ4 => ?_)
  refine gz_aload_n C dX7_start_20 0 rfl ?_
  refine gz_get C (t := 22) (k := 0) (ci := 7) (q := (RX7, TX7, 7)) (v := .ref (gz_ad false G 23 0)) dX7_start_21 fl_RX7_11 (gz_hx22 _) rfl rfl (by decide) rfl ?_
  refine gz_iconst C dX7_start_24 gk_iconst_0 ?_
  refine gz_iload_n C dX7_start_25 2 rfl ?_
  refine gz_iast C (t := 23) dX7_start_26 (gz_hx23 _) rfl (fun n5 hn5 => ?_)
  refine gz_w_row (fun σ6 => ?_)
  exact gz_vret C rfl dX7_start_27

def f_X7_pagesNeeded (σ : gz_S) : Option (Int32 × gz_S) :=
  gz_ix ((1 <<< ((σ.1 22 0 3) &&& 31)) - 1) 4096 (fun n1 =>
  some ((σ.1 23 0 n1) >>> ((6 : Int32) &&& 31), σ))
set_option maxHeartbeats 4000000 in
set_option maxRecDepth 100000 in
theorem c_X7_pagesNeeded (l : Launch) (G : gz_G) (σ : gz_S) : ∀ o, f_X7_pagesNeeded σ = some o → gz_M l false G yX7_pagesNeeded cX7_pagesNeeded 1 (some .int) { frames := 0, cells := 0, slots := 0, locals := 0 } [.ref (gz_ad false G 22 0)] σ (gz_ei o) 0 0 := by
  refine gz_enter RX7 rfl (by decide) (Nat.le_of_ble_eq_true rfl) ?_
  intro p e s m args below meth c C
  refine gz_eqs (st' := []) (lv' := [(0, .ref (gz_ad false G 22 0))]) rfl rfl ?_
  unfold f_X7_pagesNeeded
  refine gz_aload_n C dX7_pagesNeeded_0 0 rfl ?_
  refine gz_get C (t := 22) (k := 0) (ci := 7) (q := (RX7, TX7, 7)) (v := .ref (gz_ad false G 23 0)) dX7_pagesNeeded_1 fl_RX7_11 (gz_hx22 _) rfl rfl (by decide) rfl ?_
  refine gz_iconst C dX7_pagesNeeded_4 gk_iconst_1 ?_
  refine gz_aload_n C dX7_pagesNeeded_5 0 rfl ?_
  refine gz_get C (t := 22) (k := 3) (ci := 7) (q := (RX7, TX7, 7)) (v := .int (σ.1 22 0 3)) dX7_pagesNeeded_6 fl_RX7_28 (gz_hx22 _) rfl rfl (by decide) rfl ?_
  refine gz_ishl C dX7_pagesNeeded_9 ?_
  refine gz_iconst C dX7_pagesNeeded_10 gk_iconst_1 ?_
  refine gz_isub C dX7_pagesNeeded_11 ?_
  refine gz_iald C (t := 23) dX7_pagesNeeded_12 (gz_hx23 _) rfl (fun n1 hn1 => ?_)
  refine gz_bipush C dX7_pagesNeeded_13 gk_bipush_6 ?_
  refine gz_ishr C dX7_pagesNeeded_15 ?_
  exact gz_iret C rfl dX7_pagesNeeded_16

def f_X8_put_L3 (a1 : Int32) : (Int32 → gz_S → Option (gz_S)) → Int32 → gz_S → Option (gz_S) := fun rec3 v1 σ2 =>
  if v1 < 0 then
  (some σ2)
  else
  (if 400 ≤ (σ2.1 3 0 1) then
  (some σ2)
  else
  (gz_ix (σ2.1 3 0 1) 400 (fun n3 =>
  gz_w (gz_si σ2 4 0 n3 ((a1 >>> (v1 &&& 31) : Int32).toInt8.toInt32 : Int32).toInt8.toInt32) (fun σ4 =>
  gz_w (gz_si σ4 3 0 1 ((σ4.1 3 0 1) + 1)) (fun σ5 =>
  rec3 (v1 + (-8)) σ5)))))
def f_X8_put (a1 : Int32) (σ : gz_S) : Option (gz_S) :=
  gz_l1 (f_X8_put_L3 a1) gz_fu 24 σ
set_option maxHeartbeats 4000000 in
set_option maxRecDepth 100000 in
theorem c_X8_put (l : Launch) (G : gz_G) (a1 : Int32) (σ : gz_S) : ∀ o, f_X8_put a1 σ = some o → gz_M l false G yX8_put cX8_put 3 none { frames := 0, cells := 0, slots := 0, locals := 0 } [.ref (gz_ad false G 3 0), .int a1] σ (gz_eu o) 0 0 := by
  refine gz_enter RX8 rfl (by decide) (Nat.le_of_ble_eq_true rfl) ?_
  intro p e s m args below meth c C
  refine gz_eqs (st' := []) (lv' := [(0, .ref (gz_ad false G 3 0)), (1, .int a1)]) rfl rfl ?_
  unfold f_X8_put
  refine gz_bipush C dX8_put_0 gk_bipush_24 ?_
  refine gz_istore_n C (lv' := [(2, .int 24), (0, .ref (gz_ad false G 3 0)), (1, .int a1)]) dX8_put_2 (by decide) rfl ?_
  refine gz_lv (lv' := [(0, .ref (gz_ad false G 3 0)), (1, .int a1), (2, .int 24)]) [1, 2, 0] rfl ?_
  refine gz_l1_ind (P := fun v1 σ2 x => gz_W false p l e ({ frames := 0, cells := 0, slots := 0, locals := 0 } : Room) s m args below meth c G 3 (gz_Q false G below args s 0 0 gz_eu) 0 0 σ2 3 [(0, .ref (gz_ad false G 3 0)), (1, .int a1), (2, .int v1)] [] x) (fun _ _ => gz_none) (fun rec3 hrec3 v1 σ2 => ?_) gz_fu 24 σ
  unfold f_X8_put_L3
  refine gz_iload_n C dX8_put_3 2 rfl ?_
  refine gz_if_lt (tgt := 46) C dX8_put_4 (by decide) ?_ ?_
  · skip
    exact gz_vret C rfl dX8_put_46
  · skip
    refine gz_aload_n C dX8_put_7 0 rfl ?_
    refine gz_get C (t := 3) (k := 1) (ci := 8) (q := (RX8, TX8, 11)) (v := .int (σ2.1 3 0 1)) dX8_put_8 fl_RX8_15 (gz_hx3 _) rfl rfl (by decide) rfl ?_
    refine gz_sipush C dX8_put_11 gk_sipush_400 ?_
    refine gz_icmp_ge (tgt := 46) C dX8_put_14 (by decide) ?_ ?_
    · skip
      exact gz_vret C rfl dX8_put_46
    · skip
      refine gz_aload_n C dX8_put_17 0 rfl ?_
      refine gz_get C (t := 3) (k := 0) (ci := 8) (q := (RX8, TX8, 11)) (v := .ref (gz_ad false G 4 0)) dX8_put_18 fl_RX8_9 (gz_hx3 _) rfl rfl (by decide) rfl ?_
      refine gz_aload_n C dX8_put_21 0 rfl ?_
      refine gz_get C (t := 3) (k := 1) (ci := 8) (q := (RX8, TX8, 11)) (v := .int (σ2.1 3 0 1)) dX8_put_22 fl_RX8_15 (gz_hx3 _) rfl rfl (by decide) rfl ?_
      refine gz_iload_n C dX8_put_25 1 rfl ?_
      refine gz_iload_n C dX8_put_26 2 rfl ?_
      refine gz_ishr C dX8_put_27 ?_
      refine gz_i2b C dX8_put_28 ?_
      refine gz_bast C (t := 4) dX8_put_29 (gz_hx4 _) rfl (fun n3 hn3 => ?_)
      refine gz_w_row (fun σ4 => ?_)
      refine gz_aload_n C dX8_put_30 0 rfl ?_
      refine gz_dup C dX8_put_31 rfl ?_
      refine gz_get C (t := 3) (k := 1) (ci := 8) (q := (RX8, TX8, 11)) (v := .int (σ4.1 3 0 1)) dX8_put_32 fl_RX8_15 (gz_hx3 _) rfl rfl (by decide) rfl ?_
      refine gz_iconst C dX8_put_35 gk_iconst_1 ?_
      refine gz_iadd C dX8_put_36 ?_
      refine gz_putI C (t := 3) (k := 1) (ci := 8) (q := (RX8, TX8, 11)) dX8_put_37 fl_RX8_15 (gz_hx3 _) rfl rfl (by decide) rfl rfl rfl rfl ?_
      refine gz_w_row (fun σ5 => ?_)
      refine gz_iinc C (q := 2) (v := v1 + (-8)) (lv' := [(2, .int (v1 + (-8))), (0, .ref (gz_ad false G 3 0)), (1, .int a1)]) dX8_put_40 rfl rfl (by decide) rfl ?_
      refine gz_goto (tgt := 3) C dX8_put_43 (by decide) ?_
      refine gz_lv (lv' := [(0, .ref (gz_ad false G 3 0)), (1, .int a1), (2, .int (v1 + (-8)))]) [1, 2, 0] rfl ?_
      exact hrec3 (v1 + (-8)) σ5
