def f_X5_addNotice (a0 : Nat) (a1 : Int32) (a2 : Int32) (σ : gz_S) : Option (gz_S) :=
  if 12 ≤ (σ.1 20 a0 4) then
  (some σ)
  else
  (gz_ix (σ.1 20 a0 4) 12 (fun n1 =>
  gz_w (gz_si σ 21 a0 n1 a1) (fun σ2 =>
  gz_w (gz_si σ2 20 a0 4 ((σ2.1 20 a0 4) + 1)) (fun σ3 =>
  if (σ3.1 20 a0 0) ≤ a2 then
  (gz_w (gz_si σ3 20 a0 2 ((σ3.1 20 a0 2) + 0)) (fun σ4 =>
  some σ4))
  else
  (gz_w (gz_si σ3 20 a0 2 ((σ3.1 20 a0 2) + 1)) (fun σ5 =>
  some σ5))))))
set_option maxHeartbeats 4000000 in
set_option maxRecDepth 100000 in
theorem c_X5_addNotice (l : Launch) (G : gz_G) (a0 : Nat) (a1 : Int32) (a2 : Int32) (h0 : a0 < 40) (σ : gz_S) : ∀ o, f_X5_addNotice a0 a1 a2 σ = some o → gz_M l false G yX5_addNotice cX5_addNotice 3 none { frames := 0, cells := 0, slots := 0, locals := 0 } [.ref (gz_ad false G 20 a0), .int a1, .int a2] σ (gz_eu o) 0 0 := by
  refine gz_enter RX5 rfl (by decide) (Nat.le_of_ble_eq_true rfl) ?_
  intro p e s m args below meth c C
  refine gz_eqs (st' := []) (lv' := [(0, .ref (gz_ad false G 20 a0)), (1, .int a1), (2, .int a2)]) rfl rfl ?_
  unfold f_X5_addNotice
  refine gz_aload_n C dX5_addNotice_0 0 rfl ?_
  refine gz_get C (t := 20) (k := 4) (ci := 5) (q := (RX5, TX5, 6)) (v := .int (σ.1 20 a0 4)) dX5_addNotice_1 fl_RX5_28 (gz_hx20 _ h0) rfl rfl (by decide) rfl ?_
  refine gz_bipush C dX5_addNotice_4 gk_bipush_12 ?_
  refine gz_icmp_ge (tgt := 51) C dX5_addNotice_6 (by decide) ?_ ?_
  · skip
    exact gz_vret C rfl dX5_addNotice_51
  · skip
    refine gz_aload_n C dX5_addNotice_9 0 rfl ?_
    refine gz_get C (t := 20) (k := 5) (ci := 5) (q := (RX5, TX5, 6)) (v := .ref (gz_ad false G 21 a0)) dX5_addNotice_10 fl_RX5_9 (gz_hx20 _ h0) rfl rfl (by decide) rfl ?_
    refine gz_aload_n C dX5_addNotice_13 0 rfl ?_
    refine gz_get C (t := 20) (k := 4) (ci := 5) (q := (RX5, TX5, 6)) (v := .int (σ.1 20 a0 4)) dX5_addNotice_14 fl_RX5_28 (gz_hx20 _ h0) rfl rfl (by decide) rfl ?_
    refine gz_iload_n C dX5_addNotice_17 1 rfl ?_
    refine gz_iast C (t := 21) dX5_addNotice_18 (gz_hx21 _ h0) rfl (fun n1 hn1 => ?_)
    refine gz_w_row (fun σ2 => ?_)
    refine gz_aload_n C dX5_addNotice_19 0 rfl ?_
    refine gz_dup C dX5_addNotice_20 rfl ?_
    refine gz_get C (t := 20) (k := 4) (ci := 5) (q := (RX5, TX5, 6)) (v := .int (σ2.1 20 a0 4)) dX5_addNotice_21 fl_RX5_28 (gz_hx20 _ h0) rfl rfl (by decide) rfl ?_
    refine gz_iconst C dX5_addNotice_24 gk_iconst_1 ?_
    refine gz_iadd C dX5_addNotice_25 ?_
    refine gz_putI C (t := 20) (k := 4) (ci := 5) (q := (RX5, TX5, 6)) dX5_addNotice_26 fl_RX5_28 (gz_hx20 _ h0) rfl rfl (by decide) rfl rfl rfl rfl ?_
    refine gz_w_row (fun σ3 => ?_)
    refine gz_aload_n C dX5_addNotice_29 0 rfl ?_
    refine gz_dup C dX5_addNotice_30 rfl ?_
    refine gz_get C (t := 20) (k := 2) (ci := 5) (q := (RX5, TX5, 6)) (v := .int (σ3.1 20 a0 2)) dX5_addNotice_31 fl_RX5_22 (gz_hx20 _ h0) rfl rfl (by decide) rfl ?_
    refine gz_iload_n C dX5_addNotice_34 2 rfl ?_
    refine gz_aload_n C dX5_addNotice_35 0 rfl ?_
    refine gz_get C (t := 20) (k := 0) (ci := 5) (q := (RX5, TX5, 6)) (v := .int (σ3.1 20 a0 0)) dX5_addNotice_36 fl_RX5_15 (gz_hx20 _ h0) rfl rfl (by decide) rfl ?_
    refine gz_icmp_ge (tgt := 46) C dX5_addNotice_39 (by decide) ?_ ?_
    · skip
      refine gz_iconst C dX5_addNotice_46 gk_iconst_0 ?_
      refine gz_iadd C dX5_addNotice_47 ?_
      refine gz_putI C (t := 20) (k := 2) (ci := 5) (q := (RX5, TX5, 6)) dX5_addNotice_48 fl_RX5_22 (gz_hx20 _ h0) rfl rfl (by decide) rfl rfl rfl rfl ?_
      refine gz_w_row (fun σ4 => ?_)
      exact gz_vret C rfl dX5_addNotice_51
    · skip
      refine gz_iconst C dX5_addNotice_42 gk_iconst_1 ?_
      refine gz_goto (tgt := 47) C dX5_addNotice_43 (by decide) ?_
      refine gz_iadd C dX5_addNotice_47 ?_
      refine gz_putI C (t := 20) (k := 2) (ci := 5) (q := (RX5, TX5, 6)) dX5_addNotice_48 fl_RX5_22 (gz_hx20 _ h0) rfl rfl (by decide) rfl rfl rfl rfl ?_
      refine gz_w_row (fun σ5 => ?_)
      exact gz_vret C rfl dX5_addNotice_51

def f_X1_list_J37 (v1 : Int32) (rec2 : Int32 → gz_S → Option (gz_S)) : gz_S → Option (gz_S) := fun σ4 =>
  rec2 (v1 + 1) σ4
def f_X1_list_L2 (a1 : Int32) (a2 : Nat) : (Int32 → gz_S → Option (gz_S)) → Int32 → gz_S → Option (gz_S) := fun rec2 v1 σ2 =>
  if (σ2.1 10 0 1) ≤ v1 then
  (some σ2)
  else
  (gz_ix v1 61 (fun n3 =>
  gz_j0 (f_X1_list_J37 v1 rec2) (fun j37 =>
  if (σ2.1 14 n3 3) = a1 then
  (gz_ix v1 61 (fun n5 =>
  gz_then (f_X5_addNotice a2 v1 (σ2.1 14 n5 2) σ2) (fun σ6 =>
  j37 σ6)))
  else
  (j37 σ2))))
def f_X1_list (a1 : Int32) (a2 : Nat) (σ : gz_S) : Option (gz_S) :=
  gz_l1 (f_X1_list_L2 a1 a2) gz_fu 0 σ
set_option maxHeartbeats 4000000 in
set_option maxRecDepth 100000 in
theorem c_X1_list (l : Launch) (G : gz_G) (a1 : Int32) (a2 : Nat) (h2 : a2 < 40) (σ : gz_S) : ∀ o, f_X1_list a1 a2 σ = some o → gz_M l false G yX1_list cX1_list 4 none { frames := 1, cells := 0, slots := 0, locals := 22 } [.ref (gz_ad false G 10 0), .int a1, .ref (gz_ad false G 20 a2)] σ (gz_eu o) 0 0 := by
  refine gz_enter RX1 rfl (by decide) (Nat.le_of_ble_eq_true rfl) ?_
  intro p e s m args below meth c C
  refine gz_eqs (st' := []) (lv' := [(0, .ref (gz_ad false G 10 0)), (1, .int a1), (2, .ref (gz_ad false G 20 a2))]) rfl rfl ?_
  unfold f_X1_list
  refine gz_iconst C dX1_list_0 gk_iconst_0 ?_
  refine gz_istore_n C (lv' := [(3, .int 0), (0, .ref (gz_ad false G 10 0)), (1, .int a1), (2, .ref (gz_ad false G 20 a2))]) dX1_list_1 (by decide) rfl ?_
  refine gz_lv (lv' := [(0, .ref (gz_ad false G 10 0)), (1, .int a1), (2, .ref (gz_ad false G 20 a2)), (3, .int 0)]) [1, 2, 3, 0] rfl ?_
  refine gz_l1_ind (P := fun v1 σ2 x => gz_W false p l e ({ frames := 1, cells := 0, slots := 0, locals := 22 } : Room) s m args below meth c G 4 (gz_Q false G below args s 0 0 gz_eu) 0 0 σ2 2 [(0, .ref (gz_ad false G 10 0)), (1, .int a1), (2, .ref (gz_ad false G 20 a2)), (3, .int v1)] [] x) (fun _ _ => gz_none) (fun rec2 hrec2 v1 σ2 => ?_) gz_fu 0 σ
  unfold f_X1_list_L2
  refine gz_iload_n C dX1_list_2 3 rfl ?_
  refine gz_aload_n C dX1_list_3 0 rfl ?_
  refine gz_get C (t := 10) (k := 1) (ci := 1) (q := (RX1, TX1, 6)) (v := .int (σ2.1 10 0 1)) dX1_list_4 fl_RX1_26 (gz_hx10 _) rfl rfl (by decide) rfl ?_
  refine gz_icmp_ge (tgt := 43) C dX1_list_7 (by decide) ?_ ?_
  · skip
    exact gz_vret C rfl dX1_list_43
  · skip
    refine gz_aload_n C dX1_list_10 0 rfl ?_
    refine gz_get C (t := 10) (k := 0) (ci := 1) (q := (RX1, TX1, 6)) (v := .ref (gz_ad false G 11 0)) dX1_list_11 fl_RX1_11 (gz_hx10 _) rfl rfl (by decide) rfl ?_
    refine gz_iload_n C dX1_list_14 3 rfl ?_
    refine gz_aald7 C (t := 11) dX1_list_15 (gz_hx11 _) rfl (fun n3 hn3 => ?_)
    refine gz_getN C (t := 14) (k := 3) (ci := 6) (q := (RX6, TX6, 15)) (v := .int (σ2.1 14 n3 3)) dX1_list_16 fl_RX1_55 (gz_hx14 _ hn3) rfl rfl (by decide) rfl ?_
    refine gz_iload_n C dX1_list_19 1 rfl ?_
    refine gz_j0_row (P := fun σ4 x => gz_W false p l e ({ frames := 1, cells := 0, slots := 0, locals := 22 } : Room) s m args below meth c G 4 (gz_Q false G below args s 0 0 gz_eu) 0 0 σ4 37 [(0, .ref (gz_ad false G 10 0)), (1, .int a1), (2, .ref (gz_ad false G 20 a2)), (3, .int v1)] [] x) (fun σ4 => ?_) (fun j37 hj37 => ?_)
    · unfold f_X1_list_J37
      refine gz_iinc C (q := 3) (v := v1 + 1) (lv' := [(3, .int (v1 + 1)), (0, .ref (gz_ad false G 10 0)), (1, .int a1), (2, .ref (gz_ad false G 20 a2))]) dX1_list_37 rfl rfl (by decide) rfl ?_
      refine gz_goto (tgt := 2) C dX1_list_40 (by decide) ?_
      refine gz_lv (lv' := [(0, .ref (gz_ad false G 10 0)), (1, .int a1), (2, .ref (gz_ad false G 20 a2)), (3, .int (v1 + 1))]) [1, 2, 3, 0] rfl ?_
      exact hrec2 (v1 + 1) σ4
    · skip
      refine gz_icmp_ne (tgt := 37) C dX1_list_20 (by decide) ?_ ?_
      · skip
        exact hj37 σ2
      · skip
        refine gz_aload_n C dX1_list_23 2 rfl ?_
        refine gz_iload_n C dX1_list_24 3 rfl ?_
        refine gz_aload_n C dX1_list_25 0 rfl ?_
        refine gz_get C (t := 10) (k := 0) (ci := 1) (q := (RX1, TX1, 6)) (v := .ref (gz_ad false G 11 0)) dX1_list_26 fl_RX1_11 (gz_hx10 _) rfl rfl (by decide) rfl ?_
        refine gz_iload_n C dX1_list_29 3 rfl ?_
        refine gz_aald7 C (t := 11) dX1_list_30 (gz_hx11 _) rfl (fun n5 hn5 => ?_)
        refine gz_getN C (t := 14) (k := 2) (ci := 6) (q := (RX6, TX6, 15)) (v := .int (σ2.1 14 n5 2)) dX1_list_31 fl_RX1_40 (gz_hx14 _ hn5) rfl rfl (by decide) rfl ?_
        refine gz_kv (gz_runV (t := 20) (ci := 5) (q := (RX5, TX5, 6)) (As := [.int v1, .int (σ2.1 14 n5 2)]) (rest := []) C dX1_list_34 ml_RX1_58 mw_X5_addNotice mv_X5_addNotice (c_X5_addNotice l G a2 v1 (σ2.1 14 n5 2) h2 σ2) (gz_hx20 _ h2) rfl rfl rfl rfl rfl (Nat.le_of_ble_eq_true rfl) ⟨rfl, rfl, Nat.le_of_ble_eq_true rfl, Nat.le_of_ble_eq_true rfl, Nat.le_of_ble_eq_true rfl, Nat.le_of_ble_eq_true rfl⟩) (fun σ6 => ?_)
        exact hj37 σ6

def f_X6_isKnown (a0 : Nat) (a1 : Int32) (σ : gz_S) : Option (Int32 × gz_S) :=
  if (σ.1 14 a0 3) = (-1) then
  (some ((0 : Int32) &&& 1, σ))
  else
  (if a1 < (σ.1 14 a0 4) then
  (some ((0 : Int32) &&& 1, σ))
  else
  (some ((1 : Int32) &&& 1, σ)))
set_option maxHeartbeats 4000000 in
set_option maxRecDepth 100000 in
theorem c_X6_isKnown (l : Launch) (G : gz_G) (a0 : Nat) (a1 : Int32) (h0 : a0 < 61) (σ : gz_S) : ∀ o, f_X6_isKnown a0 a1 σ = some o → gz_M l false G yX6_isKnown cX6_isKnown 2 (some .boolean) { frames := 0, cells := 0, slots := 0, locals := 0 } [.ref (gz_ad false G 14 a0), .int a1] σ (gz_ei o) 0 0 := by
  refine gz_enter RX6 rfl (by decide) (Nat.le_of_ble_eq_true rfl) ?_
  intro p e s m args below meth c C
  refine gz_eqs (st' := []) (lv' := [(0, .ref (gz_ad false G 14 a0)), (1, .int a1)]) rfl rfl ?_
  unfold f_X6_isKnown
  refine gz_aload_n C dX6_isKnown_0 0 rfl ?_
  refine gz_get C (t := 14) (k := 3) (ci := 6) (q := (RX6, TX6, 15)) (v := .int (σ.1 14 a0 3)) dX6_isKnown_1 fl_RX6_35 (gz_hx14 _ h0) rfl rfl (by decide) rfl ?_
  refine gz_iconst C dX6_isKnown_4 gk_iconst_m1 ?_
  refine gz_icmp_eq (tgt := 20) C dX6_isKnown_5 (by decide) ?_ ?_
  · skip
    refine gz_iconst C dX6_isKnown_20 gk_iconst_0 ?_
    exact gz_zret C rfl dX6_isKnown_21
  · skip
    refine gz_aload_n C dX6_isKnown_8 0 rfl ?_
    refine gz_get C (t := 14) (k := 4) (ci := 6) (q := (RX6, TX6, 15)) (v := .int (σ.1 14 a0 4)) dX6_isKnown_9 fl_RX6_38 (gz_hx14 _ h0) rfl rfl (by decide) rfl ?_
    refine gz_iload_n C dX6_isKnown_12 1 rfl ?_
    refine gz_icmp_gt (tgt := 20) C dX6_isKnown_13 (by decide) ?_ ?_
    · skip
      refine gz_iconst C dX6_isKnown_20 gk_iconst_0 ?_
      exact gz_zret C rfl dX6_isKnown_21
    · skip
      refine gz_iconst C dX6_isKnown_16 gk_iconst_1 ?_
      refine gz_goto (tgt := 21) C dX6_isKnown_17 (by decide) ?_
      exact gz_zret C rfl dX6_isKnown_21

def f_X1_markVoid_J80 (v3 : Int32) (rec33 : Int32 → gz_S → Option (gz_S)) : gz_S → Option (gz_S) := fun σ8 =>
  rec33 (v3 + (-1)) σ8
def f_X1_markVoid_L33 (a1 : Int32) : (Int32 → gz_S → Option (gz_S)) → Int32 → gz_S → Option (gz_S) := fun rec33 v3 σ4 =>
  if v3 < 0 then
  (some σ4)
  else
  (gz_ix v3 61 (fun n5 =>
  gz_call (f_X1_at (σ4.1 14 n5 10) σ4) (fun r7 σ6 =>
  gz_j0 (f_X1_markVoid_J80 v3 rec33) (fun j80 =>
  gz_nl r7 61 (j80 σ6) (fun i9 =>
  gz_call (f_X6_isKnown n5 a1 σ6) (fun r11 σ10 =>
  if r11 = 0 then
  (j80 σ10)
  else
  (if (σ10.1 14 n5 14) = 0 then
  (gz_w (gz_si σ10 14 i9 14 1) (fun σ12 =>
  j80 σ12))
  else
  (j80 σ10))))))))
def f_X1_markVoid_J26 (a1 : Int32) : gz_S → Option (gz_S) := fun σ1 =>
  gz_v ((σ1.1 10 0 1) - 1) (fun v2 =>
  gz_l1 (f_X1_markVoid_L33 a1) gz_fu v2 σ1)
def f_X1_markVoid_L2 (j26 : gz_S → Option (gz_S)) : (Int32 → gz_S → Option (gz_S)) → Int32 → gz_S → Option (gz_S) := fun rec2 v13 σ14 =>
  if (σ14.1 10 0 1) ≤ v13 then
  (j26 σ14)
  else
  (gz_ix v13 61 (fun n15 =>
  gz_w (gz_si σ14 14 n15 14 0) (fun σ16 =>
  rec2 (v13 + 1) σ16)))
def f_X1_markVoid (a1 : Int32) (σ : gz_S) : Option (gz_S) :=
  gz_j0 (f_X1_markVoid_J26 a1) (fun j26 =>
  gz_l1 (f_X1_markVoid_L2 j26) gz_fu 0 σ)
set_option maxHeartbeats 4000000 in
set_option maxRecDepth 100000 in
theorem c_X1_markVoid (l : Launch) (G : gz_G) (a1 : Int32) (σ : gz_S) : ∀ o, f_X1_markVoid a1 σ = some o → gz_M l false G yX1_markVoid cX1_markVoid 5 none { frames := 1, cells := 0, slots := 0, locals := 21 } [.ref (gz_ad false G 10 0), .int a1] σ (gz_eu o) 0 0 := by
  refine gz_enter RX1 rfl (by decide) (Nat.le_of_ble_eq_true rfl) ?_
  intro p e s m args below meth c C
  refine gz_eqs (st' := []) (lv' := [(0, .ref (gz_ad false G 10 0)), (1, .int a1)]) rfl rfl ?_
  unfold f_X1_markVoid
  refine gz_iconst C dX1_markVoid_0 gk_iconst_0 ?_
  refine gz_istore_n C (lv' := [(2, .int 0), (0, .ref (gz_ad false G 10 0)), (1, .int a1)]) dX1_markVoid_1 (by decide) rfl ?_
  refine gz_j0_row (P := fun σ1 x => gz_W false p l e ({ frames := 1, cells := 0, slots := 0, locals := 21 } : Room) s m args below meth c G 5 (gz_Q false G below args s 0 0 gz_eu) 0 0 σ1 26 [(0, .ref (gz_ad false G 10 0)), (1, .int a1)] [] x) (fun σ1 => ?_) (fun j26 hj26 => ?_)
  · unfold f_X1_markVoid_J26
    refine gz_aload_n C dX1_markVoid_26 0 rfl ?_
    refine gz_get C (t := 10) (k := 1) (ci := 1) (q := (RX1, TX1, 6)) (v := .int (σ1.1 10 0 1)) dX1_markVoid_27 fl_RX1_26 (gz_hx10 _) rfl rfl (by decide) rfl ?_
    refine gz_iconst C dX1_markVoid_30 gk_iconst_1 ?_
    refine gz_isub C dX1_markVoid_31 ?_
    refine gz_topI (fun v2 => ?_)
    refine gz_istore_n C (lv' := [(2, .int v2), (0, .ref (gz_ad false G 10 0)), (1, .int a1)]) dX1_markVoid_32 (by decide) rfl ?_
    refine gz_lv (lv' := [(0, .ref (gz_ad false G 10 0)), (1, .int a1), (2, .int v2)]) [1, 2, 0] rfl ?_
    refine gz_l1_ind (P := fun v3 σ4 x => gz_W false p l e ({ frames := 1, cells := 0, slots := 0, locals := 21 } : Room) s m args below meth c G 5 (gz_Q false G below args s 0 0 gz_eu) 0 0 σ4 33 [(0, .ref (gz_ad false G 10 0)), (1, .int a1), (2, .int v3)] [] x) (fun _ _ => gz_none) (fun rec33 hrec33 v3 σ4 => ?_) gz_fu v2 σ1
    unfold f_X1_markVoid_L33
    refine gz_iload_n C dX1_markVoid_33 2 rfl ?_
    refine gz_if_lt (tgt := 86) C dX1_markVoid_34 (by decide) ?_ ?_
    · skip
      exact gz_vret C rfl dX1_markVoid_86
    · skip
      refine gz_aload_n C dX1_markVoid_37 0 rfl ?_
      refine gz_get C (t := 10) (k := 0) (ci := 1) (q := (RX1, TX1, 6)) (v := .ref (gz_ad false G 11 0)) dX1_markVoid_38 fl_RX1_11 (gz_hx10 _) rfl rfl (by decide) rfl ?_
      refine gz_iload_n C dX1_markVoid_41 2 rfl ?_
      refine gz_aald7 C (t := 11) dX1_markVoid_42 (gz_hx11 _) rfl (fun n5 hn5 => ?_)
      refine gz_astore_n C (lv' := [(3, .ref (gz_ad false G 14 n5)), (0, .ref (gz_ad false G 10 0)), (1, .int a1), (2, .int v3)]) dX1_markVoid_43 (by decide) rfl ?_
      refine gz_aload_n C dX1_markVoid_44 1 rfl ?_
      refine gz_aload_n C dX1_markVoid_45 0 rfl ?_
      refine gz_getN C (t := 14) (k := 10) (ci := 6) (q := (RX6, TX6, 15)) (v := .int (σ4.1 14 n5 10)) dX1_markVoid_46 fl_RX1_68 (gz_hx14 _ hn5) rfl rfl (by decide) rfl ?_
      refine gz_kr (t := 14) (gz_runV (t := 10) (ci := 1) (q := (RX1, TX1, 6)) (As := [.int (σ4.1 14 n5 10)]) (rest := []) C dX1_markVoid_49 ml_RX1_71 mw_X1_at mv_X1_at (c_X1_at l G (σ4.1 14 n5 10) σ4) (gz_hx10 _) rfl rfl rfl rfl rfl (Nat.le_of_ble_eq_true rfl) ⟨rfl, rfl, Nat.le_of_ble_eq_true rfl, Nat.le_of_ble_eq_true rfl, Nat.le_of_ble_eq_true rfl, Nat.le_of_ble_eq_true rfl⟩) (fun r7 σ6 => ?_)
      refine gz_astoreV C (lv' := [(4, gz_rv false G 14 r7), (3, .ref (gz_ad false G 14 n5)), (0, .ref (gz_ad false G 10 0)), (1, .int a1), (2, .int v3)]) dX1_markVoid_52 (by decide) rfl (gz_rv_or _ _ _ _) ?_
      refine gz_aloadV C dX1_markVoid_54 0 rfl (gz_rv_or _ _ _ _) ?_
      refine gz_j0_row (P := fun σ8 x => gz_W false p l e ({ frames := 1, cells := 0, slots := 0, locals := 21 } : Room) s m args below meth c G 5 (gz_Q false G below args s 0 0 gz_eu) 0 0 σ8 80 [(0, .ref (gz_ad false G 10 0)), (1, .int a1), (2, .int v3)] [] x) (fun σ8 => ?_) (fun j80 hj80 => ?_)
      · unfold f_X1_markVoid_J80
        refine gz_iinc C (q := 2) (v := v3 + (-1)) (lv' := [(2, .int (v3 + (-1))), (0, .ref (gz_ad false G 10 0)), (1, .int a1)]) dX1_markVoid_80 rfl rfl (by decide) rfl ?_
        refine gz_goto (tgt := 33) C dX1_markVoid_83 (by decide) ?_
        refine gz_lv (lv' := [(0, .ref (gz_ad false G 10 0)), (1, .int a1), (2, .int (v3 + (-1)))]) [1, 2, 0] rfl ?_
        exact hrec33 (v3 + (-1)) σ8
      · skip
        refine gz_ifnull (tgt := 80) C dX1_markVoid_56 (by decide) (fun hr => ?_) (fun i9 hi9 hr => ?_)
        · subst hr
          refine gz_eqs (st' := []) (lv' := [(4, .null), (3, .ref (gz_ad false G 14 n5)), (0, .ref (gz_ad false G 10 0)), (1, .int a1), (2, .int v3)]) rfl rfl ?_
          refine gz_lv (lv' := [(0, .ref (gz_ad false G 10 0)), (1, .int a1), (2, .int v3)]) [2, 3, 4] rfl ?_
          exact hj80 σ6
        · subst hr
          refine gz_eqs (st' := []) (lv' := [(4, .ref (gz_ad false G 14 i9)), (3, .ref (gz_ad false G 14 n5)), (0, .ref (gz_ad false G 10 0)), (1, .int a1), (2, .int v3)]) rfl rfl ?_
          refine gz_aload_n C dX1_markVoid_59 1 rfl ?_
          refine gz_iload_n C dX1_markVoid_60 3 rfl ?_
          refine gz_ki (gz_runV (t := 14) (ci := 6) (q := (RX6, TX6, 15)) (As := [.int a1]) (rest := []) C dX1_markVoid_61 ml_RX1_75 mw_X6_isKnown mv_X6_isKnown (c_X6_isKnown l G n5 a1 hn5 σ6) (gz_hx14 _ hn5) rfl rfl rfl rfl rfl (Nat.le_of_ble_eq_true rfl) ⟨rfl, rfl, Nat.le_of_ble_eq_true rfl, Nat.le_of_ble_eq_true rfl, Nat.le_of_ble_eq_true rfl, Nat.le_of_ble_eq_true rfl⟩) (fun r11 σ10 => ?_)
          refine gz_if_eq (tgt := 80) C dX1_markVoid_64 (by decide) ?_ ?_
          · skip
            refine gz_lv (lv' := [(0, .ref (gz_ad false G 10 0)), (1, .int a1), (2, .int v3)]) [2, 3, 4] rfl ?_
            exact hj80 σ10
          · skip
            refine gz_aload_n C dX1_markVoid_67 1 rfl ?_
            refine gz_getN C (t := 14) (k := 14) (ci := 6) (q := (RX6, TX6, 15)) (v := .int (σ10.1 14 n5 14)) dX1_markVoid_68 fl_RX1_64 (gz_hx14 _ hn5) rfl rfl (by decide) rfl ?_
            refine gz_if_ne (tgt := 80) C dX1_markVoid_71 (by decide) ?_ ?_
            · skip
              refine gz_lv (lv' := [(0, .ref (gz_ad false G 10 0)), (1, .int a1), (2, .int v3)]) [2, 3, 4] rfl ?_
              exact hj80 σ10
            · skip
              refine gz_aload C dX1_markVoid_74 0 rfl ?_
              refine gz_iconst C dX1_markVoid_76 gk_iconst_1 ?_
              refine gz_putIN C (t := 14) (k := 14) (ci := 6) (q := (RX6, TX6, 15)) dX1_markVoid_77 fl_RX1_64 (gz_hx14 _ hi9) rfl rfl (by decide) rfl rfl rfl rfl ?_
              refine gz_w_row (fun σ12 => ?_)
              refine gz_lv (lv' := [(0, .ref (gz_ad false G 10 0)), (1, .int a1), (2, .int v3)]) [2, 3, 4] rfl ?_
              exact hj80 σ12
  · skip
    refine gz_lv (lv' := [(0, .ref (gz_ad false G 10 0)), (1, .int a1), (2, .int 0)]) [1, 2, 0] rfl ?_
    refine gz_l1_ind (P := fun v13 σ14 x => gz_W false p l e ({ frames := 1, cells := 0, slots := 0, locals := 21 } : Room) s m args below meth c G 5 (gz_Q false G below args s 0 0 gz_eu) 0 0 σ14 2 [(0, .ref (gz_ad false G 10 0)), (1, .int a1), (2, .int v13)] [] x) (fun _ _ => gz_none) (fun rec2 hrec2 v13 σ14 => ?_) gz_fu 0 σ
    unfold f_X1_markVoid_L2
    refine gz_iload_n C dX1_markVoid_2 2 rfl ?_
    refine gz_aload_n C dX1_markVoid_3 0 rfl ?_
    refine gz_get C (t := 10) (k := 1) (ci := 1) (q := (RX1, TX1, 6)) (v := .int (σ14.1 10 0 1)) dX1_markVoid_4 fl_RX1_26 (gz_hx10 _) rfl rfl (by decide) rfl ?_
    refine gz_icmp_ge (tgt := 26) C dX1_markVoid_7 (by decide) ?_ ?_
    · skip
      refine gz_lv (lv' := [(0, .ref (gz_ad false G 10 0)), (1, .int a1)]) [0, 1] rfl ?_
      exact hj26 σ14
    · skip
      refine gz_aload_n C dX1_markVoid_10 0 rfl ?_
      refine gz_get C (t := 10) (k := 0) (ci := 1) (q := (RX1, TX1, 6)) (v := .ref (gz_ad false G 11 0)) dX1_markVoid_11 fl_RX1_11 (gz_hx10 _) rfl rfl (by decide) rfl ?_
      refine gz_iload_n C dX1_markVoid_14 2 rfl ?_
      refine gz_aald7 C (t := 11) dX1_markVoid_15 (gz_hx11 _) rfl (fun n15 hn15 => ?_)
      refine gz_iconst C dX1_markVoid_16 gk_iconst_0 ?_
      refine gz_putIN C (t := 14) (k := 14) (ci := 6) (q := (RX6, TX6, 15)) dX1_markVoid_17 fl_RX1_64 (gz_hx14 _ hn15) rfl rfl (by decide) rfl rfl rfl rfl ?_
      refine gz_w_row (fun σ16 => ?_)
      refine gz_iinc C (q := 2) (v := v13 + 1) (lv' := [(2, .int (v13 + 1)), (0, .ref (gz_ad false G 10 0)), (1, .int a1)]) dX1_markVoid_20 rfl rfl (by decide) rfl ?_
      refine gz_goto (tgt := 2) C dX1_markVoid_23 (by decide) ?_
      refine gz_lv (lv' := [(0, .ref (gz_ad false G 10 0)), (1, .int a1), (2, .int (v13 + 1))]) [1, 2, 0] rfl ?_
      exact hrec2 (v13 + 1) σ16

def f_X1_lawPlace_J131 (v3 : Int32) (rec9 : Int32 → Int32 → Int32 → gz_S → Option (Int32 × gz_S)) : Int32 → Int32 → gz_S → Option (Int32 × gz_S) := fun v10 v11 σ12 =>
  rec9 v10 v11 (v3 + 1) σ12
def f_X1_lawPlace_J125 (v15 : Int32) (rec54 : Int32 → Int32 → Int32 → gz_S → Option (Int32 × gz_S)) : Int32 → Int32 → gz_S → Option (Int32 × gz_S) := fun v18 v19 σ20 =>
  rec54 v18 v19 (v15 + 1) σ20
def f_X1_lawPlace_L54 (x8 : Int32) (n5 : Nat) (a1 : Int32) (a2 : Int32) (v3 : Int32) (j131 : Int32 → Int32 → gz_S → Option (Int32 × gz_S)) : (Int32 → Int32 → Int32 → gz_S → Option (Int32 × gz_S)) → Int32 → Int32 → Int32 → gz_S → Option (Int32 × gz_S) := fun rec54 v13 v14 v15 σ16 =>
  if x8 = 0 then
  (j131 v13 v14 σ16)
  else
  (if (σ16.1 14 n5 6) ≤ v15 then
  (j131 v13 v14 σ16)
  else
  (gz_ix v15 4 (fun n17 =>
  gz_j2 (f_X1_lawPlace_J125 v15 rec54) (fun j125 =>
  if (σ16.1 16 n5 n17) = a1 then
  (gz_ix v15 4 (fun n21 =>
  if a2 < (σ16.1 18 n5 n21) then
  (j125 v13 v14 σ16)
  else
  (gz_ix v15 4 (fun n22 =>
  if (σ16.1 18 n5 n22) < v14 then
  (j125 v13 v14 σ16)
  else
  (gz_ix v15 4 (fun n23 =>
  gz_v (σ16.1 18 n5 n23) (fun v24 =>
  gz_v ((v3 * 4) + v15) (fun v25 =>
  j125 v25 v24 σ16))))))))
  else
  (j125 v13 v14 σ16)))))
def f_X1_lawPlace_J49 (v3 : Int32) (n5 : Nat) (a1 : Int32) (a2 : Int32) (v1 : Int32) (v2 : Int32) (rec9 : Int32 → Int32 → Int32 → gz_S → Option (Int32 × gz_S)) : Int32 → gz_S → Option (Int32 × gz_S) := fun x8 σ9 =>
  gz_j2 (f_X1_lawPlace_J131 v3 rec9) (fun j131 =>
  gz_l3 (f_X1_lawPlace_L54 x8 n5 a1 a2 v3 j131) gz_fu v1 v2 0 σ9)
def f_X1_lawPlace_J48 (j49 : Int32 → gz_S → Option (Int32 × gz_S)) : gz_S → Option (Int32 × gz_S) := fun σ26 =>
  j49 0 σ26
def f_X1_lawPlace_L9 (a3 : Int32) (a1 : Int32) (a2 : Int32) : (Int32 → Int32 → Int32 → gz_S → Option (Int32 × gz_S)) → Int32 → Int32 → Int32 → gz_S → Option (Int32 × gz_S) := fun rec9 v1 v2 v3 σ4 =>
  if (σ4.1 10 0 1) ≤ v3 then
  (some (v1, σ4))
  else
  (gz_ix v3 61 (fun n5 =>
  gz_call (f_X6_isKnown n5 a3 σ4) (fun r7 σ6 =>
  gz_j1 (f_X1_lawPlace_J49 v3 n5 a1 a2 v1 v2 rec9) (fun j49 =>
  gz_j0 (f_X1_lawPlace_J48 j49) (fun j48 =>
  if r7 = 0 then
  (j48 σ6)
  else
  (if (σ6.1 14 n5 14) = 0 then
  (j49 1 σ6)
  else
  (j48 σ6)))))))
def f_X1_lawPlace (a1 : Int32) (a2 : Int32) (a3 : Int32) (σ : gz_S) : Option (Int32 × gz_S) :=
  gz_l3 (f_X1_lawPlace_L9 a3 a1 a2) gz_fu (-1) (-1) 0 σ
set_option maxHeartbeats 4000000 in
set_option maxRecDepth 100000 in
theorem c_X1_lawPlace (l : Launch) (G : gz_G) (a1 : Int32) (a2 : Int32) (a3 : Int32) (σ : gz_S) : ∀ o, f_X1_lawPlace a1 a2 a3 σ = some o → gz_M l false G yX1_lawPlace cX1_lawPlace 10 (some .int) { frames := 1, cells := 0, slots := 0, locals := 21 } [.ref (gz_ad false G 10 0), .int a1, .int a2, .int a3] σ (gz_ei o) 0 0 := by
  refine gz_enter RX1 rfl (by decide) (Nat.le_of_ble_eq_true rfl) ?_
  intro p e s m args below meth c C
  refine gz_eqs (st' := []) (lv' := [(0, .ref (gz_ad false G 10 0)), (1, .int a1), (2, .int a2), (3, .int a3)]) rfl rfl ?_
  unfold f_X1_lawPlace
  refine gz_iconst C dX1_lawPlace_0 gk_iconst_m1 ?_
  refine gz_istore C (lv' := [(4, .int (-1)), (0, .ref (gz_ad false G 10 0)), (1, .int a1), (2, .int a2), (3, .int a3)]) dX1_lawPlace_1 (by decide) rfl ?_
  refine gz_iconst C dX1_lawPlace_3 gk_iconst_m1 ?_
  refine gz_istore C (lv' := [(5, .int (-1)), (4, .int (-1)), (0, .ref (gz_ad false G 10 0)), (1, .int a1), (2, .int a2), (3, .int a3)]) dX1_lawPlace_4 (by decide) rfl ?_
  refine gz_iconst C dX1_lawPlace_6 gk_iconst_0 ?_
  refine gz_istore C (lv' := [(6, .int 0), (5, .int (-1)), (4, .int (-1)), (0, .ref (gz_ad false G 10 0)), (1, .int a1), (2, .int a2), (3, .int a3)]) dX1_lawPlace_7 (by decide) rfl ?_
  refine gz_lv (lv' := [(0, .ref (gz_ad false G 10 0)), (1, .int a1), (2, .int a2), (3, .int a3), (4, .int (-1)), (5, .int (-1)), (6, .int 0)]) [3, 4, 5, 6, 2, 1, 0] rfl ?_
  refine gz_l3_ind (P := fun v1 v2 v3 σ4 x => gz_W false p l e ({ frames := 1, cells := 0, slots := 0, locals := 21 } : Room) s m args below meth c G 10 (gz_Q false G below args s 0 0 gz_ei) 0 0 σ4 9 [(0, .ref (gz_ad false G 10 0)), (1, .int a1), (2, .int a2), (3, .int a3), (4, .int v1), (5, .int v2), (6, .int v3)] [] x) (fun _ _ _ _ => gz_none) (fun rec9 hrec9 v1 v2 v3 σ4 => ?_) gz_fu (-1) (-1) 0 σ
  unfold f_X1_lawPlace_L9
  refine gz_iload C dX1_lawPlace_9 6 rfl ?_
  refine gz_aload_n C dX1_lawPlace_11 0 rfl ?_
  refine gz_get C (t := 10) (k := 1) (ci := 1) (q := (RX1, TX1, 6)) (v := .int (σ4.1 10 0 1)) dX1_lawPlace_12 fl_RX1_26 (gz_hx10 _) rfl rfl (by decide) rfl ?_
  refine gz_icmp_ge (tgt := 137) C dX1_lawPlace_15 (by decide) ?_ ?_
  · skip
    refine gz_iload C dX1_lawPlace_137 4 rfl ?_
    exact gz_iret C rfl dX1_lawPlace_139
  · skip
    refine gz_aload_n C dX1_lawPlace_18 0 rfl ?_
    refine gz_get C (t := 10) (k := 0) (ci := 1) (q := (RX1, TX1, 6)) (v := .ref (gz_ad false G 11 0)) dX1_lawPlace_19 fl_RX1_11 (gz_hx10 _) rfl rfl (by decide) rfl ?_
    refine gz_iload C dX1_lawPlace_22 6 rfl ?_
    refine gz_aald7 C (t := 11) dX1_lawPlace_24 (gz_hx11 _) rfl (fun n5 hn5 => ?_)
    refine gz_astore C (lv' := [(7, .ref (gz_ad false G 14 n5)), (0, .ref (gz_ad false G 10 0)), (1, .int a1), (2, .int a2), (3, .int a3), (4, .int v1), (5, .int v2), (6, .int v3)]) dX1_lawPlace_25 (by decide) rfl ?_
    refine gz_aload C dX1_lawPlace_27 0 rfl ?_
    refine gz_iload_n C dX1_lawPlace_29 4 rfl ?_
    refine gz_ki (gz_runV (t := 14) (ci := 6) (q := (RX6, TX6, 15)) (As := [.int a3]) (rest := []) C dX1_lawPlace_30 ml_RX1_75 mw_X6_isKnown mv_X6_isKnown (c_X6_isKnown l G n5 a3 hn5 σ4) (gz_hx14 _ hn5) rfl rfl rfl rfl rfl (Nat.le_of_ble_eq_true rfl) ⟨rfl, rfl, Nat.le_of_ble_eq_true rfl, Nat.le_of_ble_eq_true rfl, Nat.le_of_ble_eq_true rfl, Nat.le_of_ble_eq_true rfl⟩) (fun r7 σ6 => ?_)
    refine gz_j1_row (P := fun x8 σ9 x => gz_W false p l e ({ frames := 1, cells := 0, slots := 0, locals := 21 } : Room) s m args below meth c G 10 (gz_Q false G below args s 0 0 gz_ei) 0 0 σ9 49 [(0, .ref (gz_ad false G 10 0)), (1, .int a1), (2, .int a2), (3, .int a3), (4, .int v1), (5, .int v2), (6, .int v3), (7, .ref (gz_ad false G 14 n5))] [.int x8] x) (fun x8 σ9 => ?_) (fun j49 hj49 => ?_)
    · unfold f_X1_lawPlace_J49
      refine gz_istore C (lv' := [(8, .int x8), (0, .ref (gz_ad false G 10 0)), (1, .int a1), (2, .int a2), (3, .int a3), (4, .int v1), (5, .int v2), (6, .int v3), (7, .ref (gz_ad false G 14 n5))]) dX1_lawPlace_49 (by decide) rfl ?_
      refine gz_iconst C dX1_lawPlace_51 gk_iconst_0 ?_
      refine gz_istore C (lv' := [(9, .int 0), (8, .int x8), (0, .ref (gz_ad false G 10 0)), (1, .int a1), (2, .int a2), (3, .int a3), (4, .int v1), (5, .int v2), (6, .int v3), (7, .ref (gz_ad false G 14 n5))]) dX1_lawPlace_52 (by decide) rfl ?_
      refine gz_j2_row (P := fun v10 v11 σ12 x => gz_W false p l e ({ frames := 1, cells := 0, slots := 0, locals := 21 } : Room) s m args below meth c G 10 (gz_Q false G below args s 0 0 gz_ei) 0 0 σ12 131 [(0, .ref (gz_ad false G 10 0)), (1, .int a1), (2, .int a2), (3, .int a3), (4, .int v10), (5, .int v11), (6, .int v3)] [] x) (fun v10 v11 σ12 => ?_) (fun j131 hj131 => ?_)
      · unfold f_X1_lawPlace_J131
        refine gz_iinc C (q := 6) (v := v3 + 1) (lv' := [(6, .int (v3 + 1)), (0, .ref (gz_ad false G 10 0)), (1, .int a1), (2, .int a2), (3, .int a3), (4, .int v10), (5, .int v11)]) dX1_lawPlace_131 rfl rfl (by decide) rfl ?_
        refine gz_goto (tgt := 9) C dX1_lawPlace_134 (by decide) ?_
        refine gz_lv (lv' := [(0, .ref (gz_ad false G 10 0)), (1, .int a1), (2, .int a2), (3, .int a3), (4, .int v10), (5, .int v11), (6, .int (v3 + 1))]) [1, 2, 3, 4, 5, 6, 0] rfl ?_
        exact hrec9 v10 v11 (v3 + 1) σ12
      · skip
        refine gz_lv (lv' := [(0, .ref (gz_ad false G 10 0)), (1, .int a1), (2, .int a2), (3, .int a3), (4, .int v1), (5, .int v2), (6, .int v3), (7, .ref (gz_ad false G 14 n5)), (8, .int x8), (9, .int 0)]) [2, 3, 4, 5, 6, 7, 8, 9, 1, 0] rfl ?_
        refine gz_l3_ind (P := fun v13 v14 v15 σ16 x => gz_W false p l e ({ frames := 1, cells := 0, slots := 0, locals := 21 } : Room) s m args below meth c G 10 (gz_Q false G below args s 0 0 gz_ei) 0 0 σ16 54 [(0, .ref (gz_ad false G 10 0)), (1, .int a1), (2, .int a2), (3, .int a3), (4, .int v13), (5, .int v14), (6, .int v3), (7, .ref (gz_ad false G 14 n5)), (8, .int x8), (9, .int v15)] [] x) (fun _ _ _ _ => gz_none) (fun rec54 hrec54 v13 v14 v15 σ16 => ?_) gz_fu v1 v2 0 σ9
        unfold f_X1_lawPlace_L54
        refine gz_iload C dX1_lawPlace_54 8 rfl ?_
        refine gz_if_eq (tgt := 131) C dX1_lawPlace_56 (by decide) ?_ ?_
        · skip
          refine gz_lv (lv' := [(0, .ref (gz_ad false G 10 0)), (1, .int a1), (2, .int a2), (3, .int a3), (4, .int v13), (5, .int v14), (6, .int v3)]) [0, 1, 2, 3, 4, 5, 6] rfl ?_
          exact hj131 v13 v14 σ16
        · skip
          refine gz_iload C dX1_lawPlace_59 9 rfl ?_
          refine gz_aload C dX1_lawPlace_61 7 rfl ?_
          refine gz_getN C (t := 14) (k := 6) (ci := 6) (q := (RX6, TX6, 15)) (v := .int (σ16.1 14 n5 6)) dX1_lawPlace_63 fl_RX1_79 (gz_hx14 _ hn5) rfl rfl (by decide) rfl ?_
          refine gz_icmp_ge (tgt := 131) C dX1_lawPlace_66 (by decide) ?_ ?_
          · skip
            refine gz_lv (lv' := [(0, .ref (gz_ad false G 10 0)), (1, .int a1), (2, .int a2), (3, .int a3), (4, .int v13), (5, .int v14), (6, .int v3)]) [0, 1, 2, 3, 4, 5, 6] rfl ?_
            exact hj131 v13 v14 σ16
          · skip
            refine gz_aload C dX1_lawPlace_69 7 rfl ?_
            refine gz_getN C (t := 14) (k := 7) (ci := 6) (q := (RX6, TX6, 15)) (v := .ref (gz_ad false G 16 n5)) dX1_lawPlace_71 fl_RX1_82 (gz_hx14 _ hn5) rfl rfl (by decide) rfl ?_
            refine gz_iload C dX1_lawPlace_74 9 rfl ?_
            refine gz_iald C (t := 16) dX1_lawPlace_76 (gz_hx16 _ hn5) rfl (fun n17 hn17 => ?_)
            refine gz_iload_n C dX1_lawPlace_77 1 rfl ?_
            refine gz_j2_row (P := fun v18 v19 σ20 x => gz_W false p l e ({ frames := 1, cells := 0, slots := 0, locals := 21 } : Room) s m args below meth c G 10 (gz_Q false G below args s 0 0 gz_ei) 0 0 σ20 125 [(0, .ref (gz_ad false G 10 0)), (1, .int a1), (2, .int a2), (3, .int a3), (4, .int v18), (5, .int v19), (6, .int v3), (7, .ref (gz_ad false G 14 n5)), (8, .int x8), (9, .int v15)] [] x) (fun v18 v19 σ20 => ?_) (fun j125 hj125 => ?_)
            · unfold f_X1_lawPlace_J125
              refine gz_iinc C (q := 9) (v := v15 + 1) (lv' := [(9, .int (v15 + 1)), (0, .ref (gz_ad false G 10 0)), (1, .int a1), (2, .int a2), (3, .int a3), (4, .int v18), (5, .int v19), (6, .int v3), (7, .ref (gz_ad false G 14 n5)), (8, .int x8)]) dX1_lawPlace_125 rfl rfl (by decide) rfl ?_
              refine gz_goto (tgt := 54) C dX1_lawPlace_128 (by decide) ?_
              refine gz_lv (lv' := [(0, .ref (gz_ad false G 10 0)), (1, .int a1), (2, .int a2), (3, .int a3), (4, .int v18), (5, .int v19), (6, .int v3), (7, .ref (gz_ad false G 14 n5)), (8, .int x8), (9, .int (v15 + 1))]) [1, 2, 3, 4, 5, 6, 7, 8, 9, 0] rfl ?_
              exact hrec54 v18 v19 (v15 + 1) σ20
            · skip
              refine gz_icmp_ne (tgt := 125) C dX1_lawPlace_78 (by decide) ?_ ?_
              · skip
                exact hj125 v13 v14 σ16
              · skip
                refine gz_aload C dX1_lawPlace_81 7 rfl ?_
                refine gz_getN C (t := 14) (k := 9) (ci := 6) (q := (RX6, TX6, 15)) (v := .ref (gz_ad false G 18 n5)) dX1_lawPlace_83 fl_RX1_85 (gz_hx14 _ hn5) rfl rfl (by decide) rfl ?_
                refine gz_iload C dX1_lawPlace_86 9 rfl ?_
                refine gz_iald C (t := 18) dX1_lawPlace_88 (gz_hx18 _ hn5) rfl (fun n21 hn21 => ?_)
                refine gz_iload_n C dX1_lawPlace_89 2 rfl ?_
                refine gz_icmp_gt (tgt := 125) C dX1_lawPlace_90 (by decide) ?_ ?_
                · skip
                  exact hj125 v13 v14 σ16
                · skip
                  refine gz_aload C dX1_lawPlace_93 7 rfl ?_
                  refine gz_getN C (t := 14) (k := 9) (ci := 6) (q := (RX6, TX6, 15)) (v := .ref (gz_ad false G 18 n5)) dX1_lawPlace_95 fl_RX1_85 (gz_hx14 _ hn5) rfl rfl (by decide) rfl ?_
                  refine gz_iload C dX1_lawPlace_98 9 rfl ?_
                  refine gz_iald C (t := 18) dX1_lawPlace_100 (gz_hx18 _ hn5) rfl (fun n22 hn22 => ?_)
                  refine gz_iload C dX1_lawPlace_101 5 rfl ?_
                  refine gz_icmp_lt (tgt := 125) C dX1_lawPlace_103 (by decide) ?_ ?_
                  · skip
                    exact hj125 v13 v14 σ16
                  · skip
                    refine gz_aload C dX1_lawPlace_106 7 rfl ?_
                    refine gz_getN C (t := 14) (k := 9) (ci := 6) (q := (RX6, TX6, 15)) (v := .ref (gz_ad false G 18 n5)) dX1_lawPlace_108 fl_RX1_85 (gz_hx14 _ hn5) rfl rfl (by decide) rfl ?_
                    refine gz_iload C dX1_lawPlace_111 9 rfl ?_
                    refine gz_iald C (t := 18) dX1_lawPlace_113 (gz_hx18 _ hn5) rfl (fun n23 hn23 => ?_)
                    refine gz_topI (fun v24 => ?_)
                    refine gz_istore C (lv' := [(5, .int v24), (0, .ref (gz_ad false G 10 0)), (1, .int a1), (2, .int a2), (3, .int a3), (4, .int v13), (6, .int v3), (7, .ref (gz_ad false G 14 n5)), (8, .int x8), (9, .int v15)]) dX1_lawPlace_114 (by decide) rfl ?_
                    refine gz_iload C dX1_lawPlace_116 6 rfl ?_
                    refine gz_iconst C dX1_lawPlace_118 gk_iconst_4 ?_
                    refine gz_imul C dX1_lawPlace_119 ?_
                    refine gz_iload C dX1_lawPlace_120 9 rfl ?_
                    refine gz_iadd C dX1_lawPlace_122 ?_
                    refine gz_topI (fun v25 => ?_)
                    refine gz_istore C (lv' := [(4, .int v25), (5, .int v24), (0, .ref (gz_ad false G 10 0)), (1, .int a1), (2, .int a2), (3, .int a3), (6, .int v3), (7, .ref (gz_ad false G 14 n5)), (8, .int x8), (9, .int v15)]) dX1_lawPlace_123 (by decide) rfl ?_
                    refine gz_lv (lv' := [(0, .ref (gz_ad false G 10 0)), (1, .int a1), (2, .int a2), (3, .int a3), (4, .int v25), (5, .int v24), (6, .int v3), (7, .ref (gz_ad false G 14 n5)), (8, .int x8), (9, .int v15)]) [2, 3, 4, 5, 0, 1, 6, 7, 8, 9] rfl ?_
                    exact hj125 v25 v24 σ16
    · skip
      refine gz_j0_row (P := fun σ26 x => gz_W false p l e ({ frames := 1, cells := 0, slots := 0, locals := 21 } : Room) s m args below meth c G 10 (gz_Q false G below args s 0 0 gz_ei) 0 0 σ26 48 [(0, .ref (gz_ad false G 10 0)), (1, .int a1), (2, .int a2), (3, .int a3), (4, .int v1), (5, .int v2), (6, .int v3), (7, .ref (gz_ad false G 14 n5))] [] x) (fun σ26 => ?_) (fun j48 hj48 => ?_)
      · unfold f_X1_lawPlace_J48
        refine gz_iconst C dX1_lawPlace_48 gk_iconst_0 ?_
        exact hj49 0 σ26
      · skip
        refine gz_if_eq (tgt := 48) C dX1_lawPlace_33 (by decide) ?_ ?_
        · skip
          refine gz_lv (lv' := [(0, .ref (gz_ad false G 10 0)), (1, .int a1), (2, .int a2), (3, .int a3), (4, .int v1), (5, .int v2), (6, .int v3), (7, .ref (gz_ad false G 14 n5))]) [1, 2, 3, 4, 5, 6, 7, 0] rfl ?_
          exact hj48 σ6
        · skip
          refine gz_aload C dX1_lawPlace_36 0 rfl ?_
          refine gz_getN C (t := 14) (k := 14) (ci := 6) (q := (RX6, TX6, 15)) (v := .int (σ6.1 14 n5 14)) dX1_lawPlace_38 fl_RX1_64 (gz_hx14 _ hn5) rfl rfl (by decide) rfl ?_
          refine gz_if_ne (tgt := 48) C dX1_lawPlace_41 (by decide) ?_ ?_
          · skip
            refine gz_lv (lv' := [(0, .ref (gz_ad false G 10 0)), (1, .int a1), (2, .int a2), (3, .int a3), (4, .int v1), (5, .int v2), (6, .int v3), (7, .ref (gz_ad false G 14 n5))]) [1, 2, 3, 4, 5, 6, 7, 0] rfl ?_
            exact hj48 σ6
          · skip
            refine gz_iconst C dX1_lawPlace_44 gk_iconst_1 ?_
            refine gz_goto (tgt := 49) C dX1_lawPlace_45 (by decide) ?_
            refine gz_lv (lv' := [(0, .ref (gz_ad false G 10 0)), (1, .int a1), (2, .int a2), (3, .int a3), (4, .int v1), (5, .int v2), (6, .int v3), (7, .ref (gz_ad false G 14 n5))]) [1, 2, 3, 4, 5, 6, 7, 0] rfl ?_
            exact hj49 1 σ6

def f_X1_lawValue_J15 (a1 : Int32) : Option Nat → gz_S → Option (Int32 × gz_S) := fun x1 σ2 =>
  gz_nl x1 61 (some ((-2147483648), σ2)) (fun i3 =>
  gz_ix (gz_rem a1 4) 4 (fun n4 =>
  some (σ2.1 17 i3 n4, σ2)))
def f_X1_lawValue (a1 : Int32) (σ : gz_S) : Option (Int32 × gz_S) :=
  gz_j1 (f_X1_lawValue_J15 a1) (fun j15 =>
  if 0 ≤ a1 then
  (gz_call (f_X1_at (a1 / 4) σ) (fun r6 σ5 =>
  j15 r6 σ5))
  else
  (j15 none σ))
set_option maxHeartbeats 4000000 in
set_option maxRecDepth 100000 in
theorem c_X1_lawValue (l : Launch) (G : gz_G) (a1 : Int32) (σ : gz_S) : ∀ o, f_X1_lawValue a1 σ = some o → gz_M l false G yX1_lawValue cX1_lawValue 3 (some .int) { frames := 1, cells := 0, slots := 0, locals := 21 } [.ref (gz_ad false G 10 0), .int a1] σ (gz_ei o) 0 0 := by
  refine gz_enter RX1 rfl (by decide) (Nat.le_of_ble_eq_true rfl) ?_
  intro p e s m args below meth c C
  refine gz_eqs (st' := []) (lv' := [(0, .ref (gz_ad false G 10 0)), (1, .int a1)]) rfl rfl ?_
  unfold f_X1_lawValue
  refine gz_iload_n C dX1_lawValue_0 1 rfl ?_
  refine gz_j1_row (P := fun x1 σ2 x => gz_W false p l e ({ frames := 1, cells := 0, slots := 0, locals := 21 } : Room) s m args below meth c G 3 (gz_Q false G below args s 0 0 gz_ei) 0 0 σ2 15 [(1, .int a1)] [gz_rv false G 14 x1] x) (fun x1 σ2 => ?_) (fun j15 hj15 => ?_)
  · unfold f_X1_lawValue_J15
    refine gz_astoreV_n C (lv' := [(2, gz_rv false G 14 x1), (1, .int a1)]) dX1_lawValue_15 (by decide) rfl (gz_rv_or _ _ _ _) ?_
    refine gz_aloadV_n C dX1_lawValue_16 0 rfl (gz_rv_or _ _ _ _) ?_
    refine gz_ifnonnull (tgt := 25) C dX1_lawValue_17 (by decide) (fun hr => ?_) (fun i3 hi3 hr => ?_)
    · subst hr
      refine gz_eqs (st' := []) (lv' := [(2, .null), (1, .int a1)]) rfl rfl ?_
      refine gz_ldc C dX1_lawValue_20 cw_RX1_88 ?_
      refine gz_goto (tgt := 33) C dX1_lawValue_22 (by decide) ?_
      exact gz_iret C rfl dX1_lawValue_33
    · subst hr
      refine gz_eqs (st' := []) (lv' := [(2, .ref (gz_ad false G 14 i3)), (1, .int a1)]) rfl rfl ?_
      refine gz_aload_n C dX1_lawValue_25 0 rfl ?_
      refine gz_getN C (t := 14) (k := 8) (ci := 6) (q := (RX6, TX6, 15)) (v := .ref (gz_ad false G 17 i3)) dX1_lawValue_26 fl_RX1_89 (gz_hx14 _ hi3) rfl rfl (by decide) rfl ?_
      refine gz_iload_n C dX1_lawValue_29 1 rfl ?_
      refine gz_iconst C dX1_lawValue_30 gk_iconst_4 ?_
      refine gz_irem C dX1_lawValue_31 (by decide) ?_
      refine gz_iald C (t := 17) dX1_lawValue_32 (gz_hx17 _ hi3) rfl (fun n4 hn4 => ?_)
      exact gz_iret C rfl dX1_lawValue_33
  · skip
    refine gz_if_ge (tgt := 8) C dX1_lawValue_1 (by decide) ?_ ?_
    · skip
      refine gz_aload_n C dX1_lawValue_8 0 rfl ?_
      refine gz_iload_n C dX1_lawValue_9 1 rfl ?_
      refine gz_iconst C dX1_lawValue_10 gk_iconst_4 ?_
      refine gz_idiv C dX1_lawValue_11 (by decide) ?_
      refine gz_kr (t := 14) (gz_runV (t := 10) (ci := 1) (q := (RX1, TX1, 6)) (As := [.int (a1 / 4)]) (rest := []) C dX1_lawValue_12 ml_RX1_71 mw_X1_at mv_X1_at (c_X1_at l G (a1 / 4) σ) (gz_hx10 _) rfl rfl rfl rfl rfl (Nat.le_of_ble_eq_true rfl) ⟨rfl, rfl, Nat.le_of_ble_eq_true rfl, Nat.le_of_ble_eq_true rfl, Nat.le_of_ble_eq_true rfl, Nat.le_of_ble_eq_true rfl⟩) (fun r6 σ5 => ?_)
      refine gz_lv (lv' := [(1, .int a1)]) [1] rfl ?_
      exact hj15 r6 σ5
    · skip
      refine gz_null C dX1_lawValue_4 ?_
      refine gz_goto (tgt := 15) C dX1_lawValue_5 (by decide) ?_
      refine gz_lv (lv' := [(1, .int a1)]) [1] rfl ?_
      exact hj15 none σ

def f_X1_lawDay_J15 (a1 : Int32) : Option Nat → gz_S → Option (Int32 × gz_S) := fun x1 σ2 =>
  gz_nl x1 61 (some ((-1), σ2)) (fun i3 =>
  gz_ix (gz_rem a1 4) 4 (fun n4 =>
  some (σ2.1 18 i3 n4, σ2)))
def f_X1_lawDay (a1 : Int32) (σ : gz_S) : Option (Int32 × gz_S) :=
  gz_j1 (f_X1_lawDay_J15 a1) (fun j15 =>
  if 0 ≤ a1 then
  (gz_call (f_X1_at (a1 / 4) σ) (fun r6 σ5 =>
  j15 r6 σ5))
  else
  (j15 none σ))
set_option maxHeartbeats 4000000 in
set_option maxRecDepth 100000 in
theorem c_X1_lawDay (l : Launch) (G : gz_G) (a1 : Int32) (σ : gz_S) : ∀ o, f_X1_lawDay a1 σ = some o → gz_M l false G yX1_lawDay cX1_lawDay 3 (some .int) { frames := 1, cells := 0, slots := 0, locals := 21 } [.ref (gz_ad false G 10 0), .int a1] σ (gz_ei o) 0 0 := by
  refine gz_enter RX1 rfl (by decide) (Nat.le_of_ble_eq_true rfl) ?_
  intro p e s m args below meth c C
  refine gz_eqs (st' := []) (lv' := [(0, .ref (gz_ad false G 10 0)), (1, .int a1)]) rfl rfl ?_
  unfold f_X1_lawDay
  refine gz_iload_n C dX1_lawDay_0 1 rfl ?_
  refine gz_j1_row (P := fun x1 σ2 x => gz_W false p l e ({ frames := 1, cells := 0, slots := 0, locals := 21 } : Room) s m args below meth c G 3 (gz_Q false G below args s 0 0 gz_ei) 0 0 σ2 15 [(1, .int a1)] [gz_rv false G 14 x1] x) (fun x1 σ2 => ?_) (fun j15 hj15 => ?_)
  · unfold f_X1_lawDay_J15
    refine gz_astoreV_n C (lv' := [(2, gz_rv false G 14 x1), (1, .int a1)]) dX1_lawDay_15 (by decide) rfl (gz_rv_or _ _ _ _) ?_
    refine gz_aloadV_n C dX1_lawDay_16 0 rfl (gz_rv_or _ _ _ _) ?_
    refine gz_ifnonnull (tgt := 24) C dX1_lawDay_17 (by decide) (fun hr => ?_) (fun i3 hi3 hr => ?_)
    · subst hr
      refine gz_eqs (st' := []) (lv' := [(2, .null), (1, .int a1)]) rfl rfl ?_
      refine gz_iconst C dX1_lawDay_20 gk_iconst_m1 ?_
      refine gz_goto (tgt := 32) C dX1_lawDay_21 (by decide) ?_
      exact gz_iret C rfl dX1_lawDay_32
    · subst hr
      refine gz_eqs (st' := []) (lv' := [(2, .ref (gz_ad false G 14 i3)), (1, .int a1)]) rfl rfl ?_
      refine gz_aload_n C dX1_lawDay_24 0 rfl ?_
      refine gz_getN C (t := 14) (k := 9) (ci := 6) (q := (RX6, TX6, 15)) (v := .ref (gz_ad false G 18 i3)) dX1_lawDay_25 fl_RX1_85 (gz_hx14 _ hi3) rfl rfl (by decide) rfl ?_
      refine gz_iload_n C dX1_lawDay_28 1 rfl ?_
      refine gz_iconst C dX1_lawDay_29 gk_iconst_4 ?_
      refine gz_irem C dX1_lawDay_30 (by decide) ?_
      refine gz_iald C (t := 18) dX1_lawDay_31 (gz_hx18 _ hi3) rfl (fun n4 hn4 => ?_)
      exact gz_iret C rfl dX1_lawDay_32
  · skip
    refine gz_if_ge (tgt := 8) C dX1_lawDay_1 (by decide) ?_ ?_
    · skip
      refine gz_aload_n C dX1_lawDay_8 0 rfl ?_
      refine gz_iload_n C dX1_lawDay_9 1 rfl ?_
      refine gz_iconst C dX1_lawDay_10 gk_iconst_4 ?_
      refine gz_idiv C dX1_lawDay_11 (by decide) ?_
      refine gz_kr (t := 14) (gz_runV (t := 10) (ci := 1) (q := (RX1, TX1, 6)) (As := [.int (a1 / 4)]) (rest := []) C dX1_lawDay_12 ml_RX1_71 mw_X1_at mv_X1_at (c_X1_at l G (a1 / 4) σ) (gz_hx10 _) rfl rfl rfl rfl rfl (Nat.le_of_ble_eq_true rfl) ⟨rfl, rfl, Nat.le_of_ble_eq_true rfl, Nat.le_of_ble_eq_true rfl, Nat.le_of_ble_eq_true rfl, Nat.le_of_ble_eq_true rfl⟩) (fun r6 σ5 => ?_)
      refine gz_lv (lv' := [(1, .int a1)]) [1] rfl ?_
      exact hj15 r6 σ5
    · skip
      refine gz_null C dX1_lawDay_4 ?_
      refine gz_goto (tgt := 15) C dX1_lawDay_5 (by decide) ?_
      refine gz_lv (lv' := [(1, .int a1)]) [1] rfl ?_
      exact hj15 none σ

def f_X1_countChanges_J67 (r10 : Int32) (v5 : Int32) (rec16 : Int32 → Int32 → Int32 → gz_S → Option (Int32 × gz_S)) : Int32 → Int32 → gz_S → Option (Int32 × gz_S) := fun x15 x16 σ17 =>
  gz_v (x15 + x16) (fun v18 =>
  rec16 v18 r10 (v5 + 1) σ17)
def f_X1_countChanges_L16 (a1 : Int32) (a2 : Int32) : (Int32 → Int32 → Int32 → gz_S → Option (Int32 × gz_S)) → Int32 → Int32 → Int32 → gz_S → Option (Int32 × gz_S) := fun rec16 v3 v4 v5 σ6 =>
  if 240 ≤ v5 then
  (some (v3, σ6))
  else
  (if v4 = (-1) then
  (some (v3, σ6))
  else
  (gz_call (f_X1_lawDay v4 σ6) (fun r8 σ7 =>
  gz_call (f_X1_lawPlace a1 (r8 - 1) a2 σ7) (fun r10 σ9 =>
  gz_call (f_X1_lawValue r10 σ9) (fun r12 σ11 =>
  gz_call (f_X1_lawValue v4 σ11) (fun r14 σ13 =>
  gz_j2 (f_X1_countChanges_J67 r10 v5 rec16) (fun j67 =>
  if r12 = r14 then
  (j67 v3 0 σ13)
  else
  (j67 v3 1 σ13))))))))
def f_X1_countChanges (a1 : Int32) (a2 : Int32) (σ : gz_S) : Option (Int32 × gz_S) :=
  gz_call (f_X1_lawPlace a1 9999 a2 σ) (fun r2 σ1 =>
  gz_l3 (f_X1_countChanges_L16 a1 a2) gz_fu 0 r2 0 σ1)
set_option maxHeartbeats 4000000 in
set_option maxRecDepth 100000 in
theorem c_X1_countChanges (l : Launch) (G : gz_G) (a1 : Int32) (a2 : Int32) (σ : gz_S) : ∀ o, f_X1_countChanges a1 a2 σ = some o → gz_M l false G yX1_countChanges cX1_countChanges 7 (some .int) { frames := 2, cells := 0, slots := 0, locals := 50 } [.ref (gz_ad false G 10 0), .int a1, .int a2] σ (gz_ei o) 0 0 := by
  refine gz_enter RX1 rfl (by decide) (Nat.le_of_ble_eq_true rfl) ?_
  intro p e s m args below meth c C
  refine gz_eqs (st' := []) (lv' := [(0, .ref (gz_ad false G 10 0)), (1, .int a1), (2, .int a2)]) rfl rfl ?_
  unfold f_X1_countChanges
  refine gz_iconst C dX1_countChanges_0 gk_iconst_0 ?_
  refine gz_istore_n C (lv' := [(3, .int 0), (0, .ref (gz_ad false G 10 0)), (1, .int a1), (2, .int a2)]) dX1_countChanges_1 (by decide) rfl ?_
  refine gz_aload_n C dX1_countChanges_2 1 rfl ?_
  refine gz_iload_n C dX1_countChanges_3 2 rfl ?_
  refine gz_sipush C dX1_countChanges_4 gk_sipush_9999 ?_
  refine gz_iload_n C dX1_countChanges_7 3 rfl ?_
  refine gz_ki (gz_runV (t := 10) (ci := 1) (q := (RX1, TX1, 6)) (As := [.int a1, .int 9999, .int a2]) (rest := []) C dX1_countChanges_8 ml_RX1_92 mw_X1_lawPlace mv_X1_lawPlace (c_X1_lawPlace l G a1 9999 a2 σ) (gz_hx10 _) rfl rfl rfl rfl rfl (Nat.le_of_ble_eq_true rfl) ⟨rfl, rfl, Nat.le_of_ble_eq_true rfl, Nat.le_of_ble_eq_true rfl, Nat.le_of_ble_eq_true rfl, Nat.le_of_ble_eq_true rfl⟩) (fun r2 σ1 => ?_)
  refine gz_istore C (lv' := [(4, .int r2), (3, .int 0), (0, .ref (gz_ad false G 10 0)), (1, .int a1), (2, .int a2)]) dX1_countChanges_11 (by decide) rfl ?_
  refine gz_iconst C dX1_countChanges_13 gk_iconst_0 ?_
  refine gz_istore C (lv' := [(5, .int 0), (4, .int r2), (3, .int 0), (0, .ref (gz_ad false G 10 0)), (1, .int a1), (2, .int a2)]) dX1_countChanges_14 (by decide) rfl ?_
  refine gz_lv (lv' := [(0, .ref (gz_ad false G 10 0)), (1, .int a1), (2, .int a2), (3, .int 0), (4, .int r2), (5, .int 0)]) [3, 4, 5, 2, 1, 0] rfl ?_
  refine gz_l3_ind (P := fun v3 v4 v5 σ6 x => gz_W false p l e ({ frames := 2, cells := 0, slots := 0, locals := 50 } : Room) s m args below meth c G 7 (gz_Q false G below args s 0 0 gz_ei) 0 0 σ6 16 [(0, .ref (gz_ad false G 10 0)), (1, .int a1), (2, .int a2), (3, .int v3), (4, .int v4), (5, .int v5)] [] x) (fun _ _ _ _ => gz_none) (fun rec16 hrec16 v3 v4 v5 σ6 => ?_) gz_fu 0 r2 0 σ1
  unfold f_X1_countChanges_L16
  refine gz_iload C dX1_countChanges_16 5 rfl ?_
  refine gz_sipush C dX1_countChanges_18 gk_sipush_240 ?_
  refine gz_icmp_ge (tgt := 79) C dX1_countChanges_21 (by decide) ?_ ?_
  · skip
    refine gz_iload_n C dX1_countChanges_79 3 rfl ?_
    exact gz_iret C rfl dX1_countChanges_80
  · skip
    refine gz_iload C dX1_countChanges_24 4 rfl ?_
    refine gz_iconst C dX1_countChanges_26 gk_iconst_m1 ?_
    refine gz_icmp_eq (tgt := 79) C dX1_countChanges_27 (by decide) ?_ ?_
    · skip
      refine gz_iload_n C dX1_countChanges_79 3 rfl ?_
      exact gz_iret C rfl dX1_countChanges_80
    · skip
      refine gz_aload_n C dX1_countChanges_30 0 rfl ?_
      refine gz_iload_n C dX1_countChanges_31 1 rfl ?_
      refine gz_aload_n C dX1_countChanges_32 0 rfl ?_
      refine gz_iload C dX1_countChanges_33 4 rfl ?_
      refine gz_ki (gz_runV (t := 10) (ci := 1) (q := (RX1, TX1, 6)) (As := [.int v4]) (rest := [.int a1, .ref (gz_ad false G 10 0)]) C dX1_countChanges_35 ml_RX1_96 mw_X1_lawDay mv_X1_lawDay (c_X1_lawDay l G v4 σ6) (gz_hx10 _) rfl rfl rfl rfl rfl (Nat.le_of_ble_eq_true rfl) ⟨rfl, rfl, Nat.le_of_ble_eq_true rfl, Nat.le_of_ble_eq_true rfl, Nat.le_of_ble_eq_true rfl, Nat.le_of_ble_eq_true rfl⟩) (fun r8 σ7 => ?_)
      refine gz_iconst C dX1_countChanges_38 gk_iconst_1 ?_
      refine gz_isub C dX1_countChanges_39 ?_
      refine gz_iload_n C dX1_countChanges_40 2 rfl ?_
      refine gz_ki (gz_runV (t := 10) (ci := 1) (q := (RX1, TX1, 6)) (As := [.int a1, .int (r8 - 1), .int a2]) (rest := []) C dX1_countChanges_41 ml_RX1_92 mw_X1_lawPlace mv_X1_lawPlace (c_X1_lawPlace l G a1 (r8 - 1) a2 σ7) (gz_hx10 _) rfl rfl rfl rfl rfl (Nat.le_of_ble_eq_true rfl) ⟨rfl, rfl, Nat.le_of_ble_eq_true rfl, Nat.le_of_ble_eq_true rfl, Nat.le_of_ble_eq_true rfl, Nat.le_of_ble_eq_true rfl⟩) (fun r10 σ9 => ?_)
      refine gz_istore C (lv' := [(6, .int r10), (0, .ref (gz_ad false G 10 0)), (1, .int a1), (2, .int a2), (3, .int v3), (4, .int v4), (5, .int v5)]) dX1_countChanges_44 (by decide) rfl ?_
      refine gz_iload_n C dX1_countChanges_46 4 rfl ?_
      refine gz_aload_n C dX1_countChanges_47 1 rfl ?_
      refine gz_iload C dX1_countChanges_48 0 rfl ?_
      refine gz_ki (gz_runV (t := 10) (ci := 1) (q := (RX1, TX1, 6)) (As := [.int r10]) (rest := [.int v3]) C dX1_countChanges_50 ml_RX1_100 mw_X1_lawValue mv_X1_lawValue (c_X1_lawValue l G r10 σ9) (gz_hx10 _) rfl rfl rfl rfl rfl (Nat.le_of_ble_eq_true rfl) ⟨rfl, rfl, Nat.le_of_ble_eq_true rfl, Nat.le_of_ble_eq_true rfl, Nat.le_of_ble_eq_true rfl, Nat.le_of_ble_eq_true rfl⟩) (fun r12 σ11 => ?_)
      refine gz_aload_n C dX1_countChanges_53 1 rfl ?_
      refine gz_iload C dX1_countChanges_54 5 rfl ?_
      refine gz_ki (gz_runV (t := 10) (ci := 1) (q := (RX1, TX1, 6)) (As := [.int v4]) (rest := [.int r12, .int v3]) C dX1_countChanges_56 ml_RX1_100 mw_X1_lawValue mv_X1_lawValue (c_X1_lawValue l G v4 σ11) (gz_hx10 _) rfl rfl rfl rfl rfl (Nat.le_of_ble_eq_true rfl) ⟨rfl, rfl, Nat.le_of_ble_eq_true rfl, Nat.le_of_ble_eq_true rfl, Nat.le_of_ble_eq_true rfl, Nat.le_of_ble_eq_true rfl⟩) (fun r14 σ13 => ?_)
      refine gz_j2_row (P := fun x15 x16 σ17 x => gz_W false p l e ({ frames := 2, cells := 0, slots := 0, locals := 50 } : Room) s m args below meth c G 7 (gz_Q false G below args s 0 0 gz_ei) 0 0 σ17 67 [(0, .ref (gz_ad false G 10 0)), (1, .int a1), (2, .int a2), (5, .int v5), (6, .int r10)] [.int x16, .int x15] x) (fun x15 x16 σ17 => ?_) (fun j67 hj67 => ?_)
      · unfold f_X1_countChanges_J67
        refine gz_iadd C dX1_countChanges_67 ?_
        refine gz_topI (fun v18 => ?_)
        refine gz_istore_n C (lv' := [(3, .int v18), (0, .ref (gz_ad false G 10 0)), (1, .int a1), (2, .int a2), (5, .int v5), (6, .int r10)]) dX1_countChanges_68 (by decide) rfl ?_
        refine gz_iload C dX1_countChanges_69 5 rfl ?_
        refine gz_istore C (lv' := [(4, .int r10), (3, .int v18), (0, .ref (gz_ad false G 10 0)), (1, .int a1), (2, .int a2), (5, .int v5), (6, .int r10)]) dX1_countChanges_71 (by decide) rfl ?_
        refine gz_iinc C (q := 5) (v := v5 + 1) (lv' := [(5, .int (v5 + 1)), (4, .int r10), (3, .int v18), (0, .ref (gz_ad false G 10 0)), (1, .int a1), (2, .int a2), (6, .int r10)]) dX1_countChanges_73 rfl rfl (by decide) rfl ?_
        refine gz_goto (tgt := 16) C dX1_countChanges_76 (by decide) ?_
        refine gz_lv (lv' := [(0, .ref (gz_ad false G 10 0)), (1, .int a1), (2, .int a2), (3, .int v18), (4, .int r10), (5, .int (v5 + 1))]) [3, 4, 5, 2, 1, 0] rfl ?_
        exact hrec16 v18 r10 (v5 + 1) σ17
      · skip
        refine gz_icmp_eq (tgt := 66) C dX1_countChanges_59 (by decide) ?_ ?_
        · skip
          refine gz_iconst C dX1_countChanges_66 gk_iconst_0 ?_
          refine gz_lv (lv' := [(0, .ref (gz_ad false G 10 0)), (1, .int a1), (2, .int a2), (5, .int v5), (6, .int r10)]) [1, 2, 3, 6, 0] rfl ?_
          exact hj67 v3 0 σ13
        · skip
          refine gz_iconst C dX1_countChanges_62 gk_iconst_1 ?_
          refine gz_goto (tgt := 67) C dX1_countChanges_63 (by decide) ?_
          refine gz_lv (lv' := [(0, .ref (gz_ad false G 10 0)), (1, .int a1), (2, .int a2), (5, .int v5), (6, .int r10)]) [1, 2, 3, 6, 0] rfl ?_
          exact hj67 v3 1 σ13

def f_X1_isName_L2 (a1 : Int64) : (Int32 → gz_S → Option (Int32 × gz_S)) → Int32 → gz_S → Option (Int32 × gz_S) := fun rec2 v1 σ2 =>
  if (σ2.1 10 0 3) ≤ v1 then
  (some ((0 : Int32) &&& 1, σ2))
  else
  (gz_ix v1 61 (fun n3 =>
  if (lg_cmp (σ2.2.1 12 0 n3) a1) = 0 then
  (some ((1 : Int32) &&& 1, σ2))
  else
  (rec2 (v1 + 1) σ2)))
def f_X1_isName (a1 : Int64) (σ : gz_S) : Option (Int32 × gz_S) :=
  gz_l1 (f_X1_isName_L2 a1) gz_fu 0 σ
set_option maxHeartbeats 4000000 in
set_option maxRecDepth 100000 in
theorem c_X1_isName (l : Launch) (G : gz_G) (a1 : Int64) (σ : gz_S) : ∀ o, f_X1_isName a1 σ = some o → gz_M l false G yX1_isName cX1_isName 4 (some .boolean) { frames := 0, cells := 0, slots := 0, locals := 0 } [.ref (gz_ad false G 10 0), .long a1] σ (gz_ei o) 0 0 := by
  refine gz_enter RX1 rfl (by decide) (Nat.le_of_ble_eq_true rfl) ?_
  intro p e s m args below meth c C
  refine gz_eqs (st' := []) (lv' := [(0, .ref (gz_ad false G 10 0)), (1, .long a1)]) rfl rfl ?_
  unfold f_X1_isName
  refine gz_iconst C dX1_isName_0 gk_iconst_0 ?_
  refine gz_istore_n C (lv' := [(3, .int 0), (0, .ref (gz_ad false G 10 0)), (1, .long a1)]) dX1_isName_1 (by decide) rfl ?_
  refine gz_lv (lv' := [(0, .ref (gz_ad false G 10 0)), (1, .long a1), (3, .int 0)]) [1, 2, 0] rfl ?_
  refine gz_l1_ind (P := fun v1 σ2 x => gz_W false p l e ({ frames := 0, cells := 0, slots := 0, locals := 0 } : Room) s m args below meth c G 4 (gz_Q false G below args s 0 0 gz_ei) 0 0 σ2 2 [(0, .ref (gz_ad false G 10 0)), (1, .long a1), (3, .int v1)] [] x) (fun _ _ => gz_none) (fun rec2 hrec2 v1 σ2 => ?_) gz_fu 0 σ
  unfold f_X1_isName_L2
  refine gz_iload_n C dX1_isName_2 2 rfl ?_
  refine gz_aload_n C dX1_isName_3 0 rfl ?_
  refine gz_get C (t := 10) (k := 3) (ci := 1) (q := (RX1, TX1, 6)) (v := .int (σ2.1 10 0 3)) dX1_isName_4 fl_RX1_103 (gz_hx10 _) rfl rfl (by decide) rfl ?_
  refine gz_icmp_ge (tgt := 29) C dX1_isName_7 (by decide) ?_ ?_
  · skip
    refine gz_iconst C dX1_isName_29 gk_iconst_0 ?_
    exact gz_zret C rfl dX1_isName_30
  · skip
    refine gz_aload_n C dX1_isName_10 0 rfl ?_
    refine gz_get C (t := 10) (k := 2) (ci := 1) (q := (RX1, TX1, 6)) (v := .ref (gz_ad false G 12 0)) dX1_isName_11 fl_RX1_17 (gz_hx10 _) rfl rfl (by decide) rfl ?_
    refine gz_iload_n C dX1_isName_14 2 rfl ?_
    refine gz_lald C (t := 12) dX1_isName_15 (gz_hx12 _) rfl (fun n3 hn3 => ?_)
    refine gz_lload_n C dX1_isName_16 1 rfl ?_
    refine gz_lcmp C dX1_isName_17 ?_
    refine gz_if_ne (tgt := 23) C dX1_isName_18 (by decide) ?_ ?_
    · skip
      refine gz_iinc C (q := 2) (v := v1 + 1) (lv' := [(3, .int (v1 + 1)), (0, .ref (gz_ad false G 10 0)), (1, .long a1)]) dX1_isName_23 rfl rfl (by decide) rfl ?_
      refine gz_goto (tgt := 2) C dX1_isName_26 (by decide) ?_
      refine gz_lv (lv' := [(0, .ref (gz_ad false G 10 0)), (1, .long a1), (3, .int (v1 + 1))]) [1, 2, 0] rfl ?_
      exact hrec2 (v1 + 1) σ2
    · skip
      refine gz_iconst C dX1_isName_21 gk_iconst_1 ?_
      exact gz_zret C rfl dX1_isName_22

def f_X1_addOlderNames_J108 (v1 : Int32) : gz_S → Option (Int32 × gz_S) := fun σ2 =>
  if (σ2.1 10 0 3) ≤ v1 then
  (some ((0 : Int32) &&& 1, σ2))
  else
  (some ((1 : Int32) &&& 1, σ2))
def f_X1_addOlderNames_J102 (v3 : Int32) (rec7 : Int32 → gz_S → Option (Int32 × gz_S)) : gz_S → Option (Int32 × gz_S) := fun σ6 =>
  rec7 (v3 + 1) σ6
def f_X1_addOlderNames_L7 (a1 : Int32) (j108 : gz_S → Option (Int32 × gz_S)) : (Int32 → gz_S → Option (Int32 × gz_S)) → Int32 → gz_S → Option (Int32 × gz_S) := fun rec7 v3 σ4 =>
  if (σ4.1 10 0 1) ≤ v3 then
  (j108 σ4)
  else
  (if 61 ≤ (σ4.1 10 0 3) then
  (j108 σ4)
  else
  (gz_ix v3 61 (fun n5 =>
  gz_j0 (f_X1_addOlderNames_J102 v3 rec7) (fun j102 =>
  if (lg_cmp (σ4.2.1 14 n5 12) 0) = 0 then
  (j102 σ4)
  else
  (gz_call (f_X6_isKnown n5 a1 σ4) (fun r8 σ7 =>
  if r8 = 0 then
  (j102 σ7)
  else
  (gz_call (f_X1_isName (σ7.2.1 14 n5 12) σ7) (fun r10 σ9 =>
  if r10 = 0 then
  (j102 σ9)
  else
  (gz_call (f_X1_isName (σ9.2.1 14 n5 11) σ9) (fun r12 σ11 =>
  if r12 = 0 then
  (gz_ix (σ11.1 10 0 3) 61 (fun n13 =>
  gz_w (gz_sj σ11 12 0 n13 (σ11.2.1 14 n5 11)) (fun σ14 =>
  gz_w (gz_si σ14 10 0 3 ((σ14.1 10 0 3) + 1)) (fun σ15 =>
  j102 σ15))))
  else
  (j102 σ11)))))))))))
def f_X1_addOlderNames (a1 : Int32) (σ : gz_S) : Option (Int32 × gz_S) :=
  gz_v (σ.1 10 0 3) (fun v1 =>
  gz_j0 (f_X1_addOlderNames_J108 v1) (fun j108 =>
  gz_l1 (f_X1_addOlderNames_L7 a1 j108) gz_fu 0 σ))
set_option maxHeartbeats 4000000 in
set_option maxRecDepth 100000 in
theorem c_X1_addOlderNames (l : Launch) (G : gz_G) (a1 : Int32) (σ : gz_S) : ∀ o, f_X1_addOlderNames a1 σ = some o → gz_M l false G yX1_addOlderNames cX1_addOlderNames 5 (some .boolean) { frames := 1, cells := 0, slots := 0, locals := 23 } [.ref (gz_ad false G 10 0), .int a1] σ (gz_ei o) 0 0 := by
  refine gz_enter RX1 rfl (by decide) (Nat.le_of_ble_eq_true rfl) ?_
  intro p e s m args below meth c C
  refine gz_eqs (st' := []) (lv' := [(0, .ref (gz_ad false G 10 0)), (1, .int a1)]) rfl rfl ?_
  unfold f_X1_addOlderNames
  refine gz_aload_n C dX1_addOlderNames_0 0 rfl ?_
  refine gz_get C (t := 10) (k := 3) (ci := 1) (q := (RX1, TX1, 6)) (v := .int (σ.1 10 0 3)) dX1_addOlderNames_1 fl_RX1_103 (gz_hx10 _) rfl rfl (by decide) rfl ?_
  refine gz_topI (fun v1 => ?_)
  refine gz_istore_n C (lv' := [(2, .int v1), (0, .ref (gz_ad false G 10 0)), (1, .int a1)]) dX1_addOlderNames_4 (by decide) rfl ?_
  refine gz_iconst C dX1_addOlderNames_5 gk_iconst_0 ?_
  refine gz_istore_n C (lv' := [(3, .int 0), (2, .int v1), (0, .ref (gz_ad false G 10 0)), (1, .int a1)]) dX1_addOlderNames_6 (by decide) rfl ?_
  refine gz_j0_row (P := fun σ2 x => gz_W false p l e ({ frames := 1, cells := 0, slots := 0, locals := 23 } : Room) s m args below meth c G 5 (gz_Q false G below args s 0 0 gz_ei) 0 0 σ2 108 [(0, .ref (gz_ad false G 10 0)), (2, .int v1)] [] x) (fun σ2 => ?_) (fun j108 hj108 => ?_)
  · unfold f_X1_addOlderNames_J108
    refine gz_aload_n C dX1_addOlderNames_108 0 rfl ?_
    refine gz_get C (t := 10) (k := 3) (ci := 1) (q := (RX1, TX1, 6)) (v := .int (σ2.1 10 0 3)) dX1_addOlderNames_109 fl_RX1_103 (gz_hx10 _) rfl rfl (by decide) rfl ?_
    refine gz_iload_n C dX1_addOlderNames_112 1 rfl ?_
    refine gz_icmp_le (tgt := 120) C dX1_addOlderNames_113 (by decide) ?_ ?_
    · skip
      refine gz_iconst C dX1_addOlderNames_120 gk_iconst_0 ?_
      exact gz_zret C rfl dX1_addOlderNames_121
    · skip
      refine gz_iconst C dX1_addOlderNames_116 gk_iconst_1 ?_
      refine gz_goto (tgt := 121) C dX1_addOlderNames_117 (by decide) ?_
      exact gz_zret C rfl dX1_addOlderNames_121
  · skip
    refine gz_lv (lv' := [(0, .ref (gz_ad false G 10 0)), (1, .int a1), (2, .int v1), (3, .int 0)]) [2, 3, 1, 0] rfl ?_
    refine gz_l1_ind (P := fun v3 σ4 x => gz_W false p l e ({ frames := 1, cells := 0, slots := 0, locals := 23 } : Room) s m args below meth c G 5 (gz_Q false G below args s 0 0 gz_ei) 0 0 σ4 7 [(0, .ref (gz_ad false G 10 0)), (1, .int a1), (2, .int v1), (3, .int v3)] [] x) (fun _ _ => gz_none) (fun rec7 hrec7 v3 σ4 => ?_) gz_fu 0 σ
    unfold f_X1_addOlderNames_L7
    refine gz_iload_n C dX1_addOlderNames_7 3 rfl ?_
    refine gz_aload_n C dX1_addOlderNames_8 0 rfl ?_
    refine gz_get C (t := 10) (k := 1) (ci := 1) (q := (RX1, TX1, 6)) (v := .int (σ4.1 10 0 1)) dX1_addOlderNames_9 fl_RX1_26 (gz_hx10 _) rfl rfl (by decide) rfl ?_
    refine gz_icmp_ge (tgt := 108) C dX1_addOlderNames_12 (by decide) ?_ ?_
    · skip
      refine gz_lv (lv' := [(0, .ref (gz_ad false G 10 0)), (2, .int v1)]) [0, 2] rfl ?_
      exact hj108 σ4
    · skip
      refine gz_aload_n C dX1_addOlderNames_15 0 rfl ?_
      refine gz_get C (t := 10) (k := 3) (ci := 1) (q := (RX1, TX1, 6)) (v := .int (σ4.1 10 0 3)) dX1_addOlderNames_16 fl_RX1_103 (gz_hx10 _) rfl rfl (by decide) rfl ?_
      refine gz_aload_n C dX1_addOlderNames_19 0 rfl ?_
      refine gz_get C (t := 10) (k := 2) (ci := 1) (q := (RX1, TX1, 6)) (v := .ref (gz_ad false G 12 0)) dX1_addOlderNames_20 fl_RX1_17 (gz_hx10 _) rfl rfl (by decide) rfl ?_
      refine gz_alen C (t := 12) (v := 61) dX1_addOlderNames_23 (gz_hx12 _) rfl (by decide) (by decide) ?_
      refine gz_icmp_ge (tgt := 108) C dX1_addOlderNames_24 (by decide) ?_ ?_
      · skip
        refine gz_lv (lv' := [(0, .ref (gz_ad false G 10 0)), (2, .int v1)]) [0, 2] rfl ?_
        exact hj108 σ4
      · skip
        refine gz_aload_n C dX1_addOlderNames_27 0 rfl ?_
        refine gz_get C (t := 10) (k := 0) (ci := 1) (q := (RX1, TX1, 6)) (v := .ref (gz_ad false G 11 0)) dX1_addOlderNames_28 fl_RX1_11 (gz_hx10 _) rfl rfl (by decide) rfl ?_
        refine gz_iload_n C dX1_addOlderNames_31 3 rfl ?_
        refine gz_aald7 C (t := 11) dX1_addOlderNames_32 (gz_hx11 _) rfl (fun n5 hn5 => ?_)
        refine gz_astore C (lv' := [(4, .ref (gz_ad false G 14 n5)), (0, .ref (gz_ad false G 10 0)), (1, .int a1), (2, .int v1), (3, .int v3)]) dX1_addOlderNames_33 (by decide) rfl ?_
        refine gz_aload C dX1_addOlderNames_35 0 rfl ?_
        refine gz_getN C (t := 14) (k := 12) (ci := 6) (q := (RX6, TX6, 15)) (v := .long (σ4.2.1 14 n5 12)) dX1_addOlderNames_37 fl_RX1_109 (gz_hx14 _ hn5) rfl rfl (by decide) rfl ?_
        refine gz_lconst C dX1_addOlderNames_40 gk_lconst_0 ?_
        refine gz_lcmp C dX1_addOlderNames_41 ?_
        refine gz_j0_row (P := fun σ6 x => gz_W false p l e ({ frames := 1, cells := 0, slots := 0, locals := 23 } : Room) s m args below meth c G 5 (gz_Q false G below args s 0 0 gz_ei) 0 0 σ6 102 [(0, .ref (gz_ad false G 10 0)), (1, .int a1), (2, .int v1), (3, .int v3)] [] x) (fun σ6 => ?_) (fun j102 hj102 => ?_)
        · unfold f_X1_addOlderNames_J102
          refine gz_iinc C (q := 3) (v := v3 + 1) (lv' := [(3, .int (v3 + 1)), (0, .ref (gz_ad false G 10 0)), (1, .int a1), (2, .int v1)]) dX1_addOlderNames_102 rfl rfl (by decide) rfl ?_
          refine gz_goto (tgt := 7) C dX1_addOlderNames_105 (by decide) ?_
          refine gz_lv (lv' := [(0, .ref (gz_ad false G 10 0)), (1, .int a1), (2, .int v1), (3, .int (v3 + 1))]) [1, 2, 3, 0] rfl ?_
          exact hrec7 (v3 + 1) σ6
        · skip
          refine gz_if_eq (tgt := 102) C dX1_addOlderNames_42 (by decide) ?_ ?_
          · skip
            refine gz_lv (lv' := [(0, .ref (gz_ad false G 10 0)), (1, .int a1), (2, .int v1), (3, .int v3)]) [1, 2, 3, 4] rfl ?_
            exact hj102 σ4
          · skip
            refine gz_aload C dX1_addOlderNames_45 0 rfl ?_
            refine gz_iload_n C dX1_addOlderNames_47 2 rfl ?_
            refine gz_ki (gz_runV (t := 14) (ci := 6) (q := (RX6, TX6, 15)) (As := [.int a1]) (rest := []) C dX1_addOlderNames_48 ml_RX1_75 mw_X6_isKnown mv_X6_isKnown (c_X6_isKnown l G n5 a1 hn5 σ4) (gz_hx14 _ hn5) rfl rfl rfl rfl rfl (Nat.le_of_ble_eq_true rfl) ⟨rfl, rfl, Nat.le_of_ble_eq_true rfl, Nat.le_of_ble_eq_true rfl, Nat.le_of_ble_eq_true rfl, Nat.le_of_ble_eq_true rfl⟩) (fun r8 σ7 => ?_)
            refine gz_if_eq (tgt := 102) C dX1_addOlderNames_51 (by decide) ?_ ?_
            · skip
              refine gz_lv (lv' := [(0, .ref (gz_ad false G 10 0)), (1, .int a1), (2, .int v1), (3, .int v3)]) [1, 2, 3, 4] rfl ?_
              exact hj102 σ7
            · skip
              refine gz_aload_n C dX1_addOlderNames_54 1 rfl ?_
              refine gz_aload C dX1_addOlderNames_55 0 rfl ?_
              refine gz_getN C (t := 14) (k := 12) (ci := 6) (q := (RX6, TX6, 15)) (v := .long (σ7.2.1 14 n5 12)) dX1_addOlderNames_57 fl_RX1_109 (gz_hx14 _ hn5) rfl rfl (by decide) rfl ?_
              refine gz_ki (gz_runV (t := 10) (ci := 1) (q := (RX1, TX1, 6)) (As := [.long (σ7.2.1 14 n5 12)]) (rest := []) C dX1_addOlderNames_60 ml_RX1_113 mw_X1_isName mv_X1_isName (c_X1_isName l G (σ7.2.1 14 n5 12) σ7) (gz_hx10 _) rfl rfl rfl rfl rfl (Nat.le_of_ble_eq_true rfl) ⟨rfl, rfl, Nat.le_of_ble_eq_true rfl, Nat.le_of_ble_eq_true rfl, Nat.le_of_ble_eq_true rfl, Nat.le_of_ble_eq_true rfl⟩) (fun r10 σ9 => ?_)
              refine gz_if_eq (tgt := 102) C dX1_addOlderNames_63 (by decide) ?_ ?_
              · skip
                refine gz_lv (lv' := [(0, .ref (gz_ad false G 10 0)), (1, .int a1), (2, .int v1), (3, .int v3)]) [1, 2, 3, 4] rfl ?_
                exact hj102 σ9
              · skip
                refine gz_aload_n C dX1_addOlderNames_66 1 rfl ?_
                refine gz_aload C dX1_addOlderNames_67 0 rfl ?_
                refine gz_getN C (t := 14) (k := 11) (ci := 6) (q := (RX6, TX6, 15)) (v := .long (σ9.2.1 14 n5 11)) dX1_addOlderNames_69 fl_RX1_117 (gz_hx14 _ hn5) rfl rfl (by decide) rfl ?_
                refine gz_ki (gz_runV (t := 10) (ci := 1) (q := (RX1, TX1, 6)) (As := [.long (σ9.2.1 14 n5 11)]) (rest := []) C dX1_addOlderNames_72 ml_RX1_113 mw_X1_isName mv_X1_isName (c_X1_isName l G (σ9.2.1 14 n5 11) σ9) (gz_hx10 _) rfl rfl rfl rfl rfl (Nat.le_of_ble_eq_true rfl) ⟨rfl, rfl, Nat.le_of_ble_eq_true rfl, Nat.le_of_ble_eq_true rfl, Nat.le_of_ble_eq_true rfl, Nat.le_of_ble_eq_true rfl⟩) (fun r12 σ11 => ?_)
                refine gz_if_ne (tgt := 102) C dX1_addOlderNames_75 (by decide) ?_ ?_
                · skip
                  refine gz_lv (lv' := [(0, .ref (gz_ad false G 10 0)), (1, .int a1), (2, .int v1), (3, .int v3)]) [1, 2, 3, 4] rfl ?_
                  exact hj102 σ11
                · skip
                  refine gz_aload_n C dX1_addOlderNames_78 1 rfl ?_
                  refine gz_get C (t := 10) (k := 2) (ci := 1) (q := (RX1, TX1, 6)) (v := .ref (gz_ad false G 12 0)) dX1_addOlderNames_79 fl_RX1_17 (gz_hx10 _) rfl rfl (by decide) rfl ?_
                  refine gz_aload_n C dX1_addOlderNames_82 1 rfl ?_
                  refine gz_get C (t := 10) (k := 3) (ci := 1) (q := (RX1, TX1, 6)) (v := .int (σ11.1 10 0 3)) dX1_addOlderNames_83 fl_RX1_103 (gz_hx10 _) rfl rfl (by decide) rfl ?_
                  refine gz_aload C dX1_addOlderNames_86 0 rfl ?_
                  refine gz_getN C (t := 14) (k := 11) (ci := 6) (q := (RX6, TX6, 15)) (v := .long (σ11.2.1 14 n5 11)) dX1_addOlderNames_88 fl_RX1_117 (gz_hx14 _ hn5) rfl rfl (by decide) rfl ?_
                  refine gz_last C (t := 12) dX1_addOlderNames_91 (gz_hx12 _) rfl (fun n13 hn13 => ?_)
                  refine gz_w_row (fun σ14 => ?_)
                  refine gz_aload_n C dX1_addOlderNames_92 1 rfl ?_
                  refine gz_dup C dX1_addOlderNames_93 rfl ?_
                  refine gz_get C (t := 10) (k := 3) (ci := 1) (q := (RX1, TX1, 6)) (v := .int (σ14.1 10 0 3)) dX1_addOlderNames_94 fl_RX1_103 (gz_hx10 _) rfl rfl (by decide) rfl ?_
                  refine gz_iconst C dX1_addOlderNames_97 gk_iconst_1 ?_
                  refine gz_iadd C dX1_addOlderNames_98 ?_
                  refine gz_putI C (t := 10) (k := 3) (ci := 1) (q := (RX1, TX1, 6)) dX1_addOlderNames_99 fl_RX1_103 (gz_hx10 _) rfl rfl (by decide) rfl rfl rfl rfl ?_
                  refine gz_w_row (fun σ15 => ?_)
                  refine gz_lv (lv' := [(0, .ref (gz_ad false G 10 0)), (1, .int a1), (2, .int v1), (3, .int v3)]) [1, 2, 3, 4] rfl ?_
                  exact hj102 σ15

def f_X1_gatherNames_L18 (a2 : Int32) : (Int32 → Int32 → gz_S → Option (gz_S)) → Int32 → Int32 → gz_S → Option (gz_S) := fun rec18 v4 v5 σ6 =>
  if 60 < v5 then
  (some σ6)
  else
  (if v4 = 0 then
  (some σ6)
  else
  (gz_call (f_X1_addOlderNames a2 σ6) (fun r8 σ7 =>
  rec18 r8 (v5 + 1) σ7)))
def f_X1_gatherNames (a1 : Int64) (a2 : Int32) (σ : gz_S) : Option (gz_S) :=
  gz_ix (0 : Int32) 61 (fun n1 =>
  gz_w (gz_sj σ 12 0 n1 a1) (fun σ2 =>
  gz_w (gz_si σ2 10 0 3 1) (fun σ3 =>
  gz_l2 (f_X1_gatherNames_L18 a2) gz_fu 1 0 σ3)))
set_option maxHeartbeats 4000000 in
set_option maxRecDepth 100000 in
theorem c_X1_gatherNames (l : Launch) (G : gz_G) (a1 : Int64) (a2 : Int32) (σ : gz_S) : ∀ o, f_X1_gatherNames a1 a2 σ = some o → gz_M l false G yX1_gatherNames cX1_gatherNames 6 none { frames := 2, cells := 0, slots := 0, locals := 47 } [.ref (gz_ad false G 10 0), .long a1, .int a2] σ (gz_eu o) 0 0 := by
  refine gz_enter RX1 rfl (by decide) (Nat.le_of_ble_eq_true rfl) ?_
  intro p e s m args below meth c C
  refine gz_eqs (st' := []) (lv' := [(0, .ref (gz_ad false G 10 0)), (1, .long a1), (3, .int a2)]) rfl rfl ?_
  unfold f_X1_gatherNames
  refine gz_aload_n C dX1_gatherNames_0 0 rfl ?_
  refine gz_get C (t := 10) (k := 2) (ci := 1) (q := (RX1, TX1, 6)) (v := .ref (gz_ad false G 12 0)) dX1_gatherNames_1 fl_RX1_17 (gz_hx10 _) rfl rfl (by decide) rfl ?_
  refine gz_iconst C dX1_gatherNames_4 gk_iconst_0 ?_
  refine gz_lload_n C dX1_gatherNames_5 1 rfl ?_
  refine gz_last C (t := 12) dX1_gatherNames_6 (gz_hx12 _) rfl (fun n1 hn1 => ?_)
  refine gz_w_row (fun σ2 => ?_)
  refine gz_aload_n C dX1_gatherNames_7 0 rfl ?_
  refine gz_iconst C dX1_gatherNames_8 gk_iconst_1 ?_
  refine gz_putI C (t := 10) (k := 3) (ci := 1) (q := (RX1, TX1, 6)) dX1_gatherNames_9 fl_RX1_103 (gz_hx10 _) rfl rfl (by decide) rfl rfl rfl rfl ?_
  refine gz_w_row (fun σ3 => ?_)
  refine gz_iconst C dX1_gatherNames_12 gk_iconst_1 ?_
  refine gz_istore C (lv' := [(4, .int 1), (0, .ref (gz_ad false G 10 0)), (1, .long a1), (3, .int a2)]) dX1_gatherNames_13 (by decide) rfl ?_
  refine gz_iconst C dX1_gatherNames_15 gk_iconst_0 ?_
  refine gz_istore C (lv' := [(5, .int 0), (4, .int 1), (0, .ref (gz_ad false G 10 0)), (1, .long a1), (3, .int a2)]) dX1_gatherNames_16 (by decide) rfl ?_
  refine gz_lv (lv' := [(0, .ref (gz_ad false G 10 0)), (3, .int a2), (4, .int 1), (5, .int 0)]) [2, 4, 1, 0] rfl ?_
  refine gz_l2_ind (P := fun v4 v5 σ6 x => gz_W false p l e ({ frames := 2, cells := 0, slots := 0, locals := 47 } : Room) s m args below meth c G 6 (gz_Q false G below args s 0 0 gz_eu) 0 0 σ6 18 [(0, .ref (gz_ad false G 10 0)), (3, .int a2), (4, .int v4), (5, .int v5)] [] x) (fun _ _ _ => gz_none) (fun rec18 hrec18 v4 v5 σ6 => ?_) gz_fu 1 0 σ3
  unfold f_X1_gatherNames_L18
  refine gz_iload C dX1_gatherNames_18 3 rfl ?_
  refine gz_bipush C dX1_gatherNames_20 gk_bipush_60 ?_
  refine gz_icmp_gt (tgt := 43) C dX1_gatherNames_22 (by decide) ?_ ?_
  · skip
    exact gz_vret C rfl dX1_gatherNames_43
  · skip
    refine gz_iload C dX1_gatherNames_25 2 rfl ?_
    refine gz_if_eq (tgt := 43) C dX1_gatherNames_27 (by decide) ?_ ?_
    · skip
      exact gz_vret C rfl dX1_gatherNames_43
    · skip
      refine gz_aload_n C dX1_gatherNames_30 0 rfl ?_
      refine gz_iload_n C dX1_gatherNames_31 1 rfl ?_
      refine gz_ki (gz_runV (t := 10) (ci := 1) (q := (RX1, TX1, 6)) (As := [.int a2]) (rest := []) C dX1_gatherNames_32 ml_RX1_106 mw_X1_addOlderNames mv_X1_addOlderNames (c_X1_addOlderNames l G a2 σ6) (gz_hx10 _) rfl rfl rfl rfl rfl (Nat.le_of_ble_eq_true rfl) ⟨rfl, rfl, Nat.le_of_ble_eq_true rfl, Nat.le_of_ble_eq_true rfl, Nat.le_of_ble_eq_true rfl, Nat.le_of_ble_eq_true rfl⟩) (fun r8 σ7 => ?_)
      refine gz_istore C (lv' := [(4, .int r8), (0, .ref (gz_ad false G 10 0)), (3, .int a2), (5, .int v5)]) dX1_gatherNames_35 (by decide) rfl ?_
      refine gz_iinc C (q := 3) (v := v5 + 1) (lv' := [(5, .int (v5 + 1)), (4, .int r8), (0, .ref (gz_ad false G 10 0)), (3, .int a2)]) dX1_gatherNames_37 rfl rfl (by decide) rfl ?_
      refine gz_goto (tgt := 18) C dX1_gatherNames_40 (by decide) ?_
      refine gz_lv (lv' := [(0, .ref (gz_ad false G 10 0)), (3, .int a2), (4, .int r8), (5, .int (v5 + 1))]) [2, 3, 1, 0] rfl ?_
      exact hrec18 r8 (v5 + 1) σ7
