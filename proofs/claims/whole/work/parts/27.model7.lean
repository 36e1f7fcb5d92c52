def f_X11_isIssue (a1 : Int32) (σ : gz_S) : Option (Int32 × gz_S) :=
  if a1 < 0 then
  (some ((0 : Int32) &&& 1, σ))
  else
  (if (σ.1 0 0 30) ≤ a1 then
  (some ((0 : Int32) &&& 1, σ))
  else
  (some ((1 : Int32) &&& 1, σ)))
set_option maxHeartbeats 4000000 in
set_option maxRecDepth 100000 in
theorem c_X11_isIssue (l : Launch) (G : gz_G) (a1 : Int32) (σ : gz_S) : ∀ o, f_X11_isIssue a1 σ = some o → gz_M l true G yX11_isIssue cX11_isIssue 2 (some .boolean) { frames := 0, cells := 0, slots := 0, locals := 0 } [.ref (gz_ad true G 0 0), .int a1] σ (gz_ei o) 0 0 := by
  refine gz_enter RX11 rfl (by decide) (Nat.le_of_ble_eq_true rfl) ?_
  intro p e s m args below meth c C
  refine gz_eqs (st' := []) (lv' := [(0, .ref (gz_ad true G 0 0)), (1, .int a1)]) rfl rfl ?_
  unfold f_X11_isIssue
  refine gz_iload_n C dX11_isIssue_0 1 rfl ?_
  refine gz_if_lt (tgt := 16) C dX11_isIssue_1 (by decide) ?_ ?_
  · skip
    refine gz_iconst C dX11_isIssue_16 gk_iconst_0 ?_
    exact gz_zret C rfl dX11_isIssue_17
  · skip
    refine gz_iload_n C dX11_isIssue_4 1 rfl ?_
    refine gz_aload_n C dX11_isIssue_5 0 rfl ?_
    refine gz_get C (t := 0) (k := 30) (ci := 11) (q := (RX11, TX11, 63)) (v := .int (σ.1 0 0 30)) dX11_isIssue_6 fl_RX11_357 (gz_hm0 _) rfl rfl (by decide) rfl ?_
    refine gz_icmp_ge (tgt := 16) C dX11_isIssue_9 (by decide) ?_ ?_
    · skip
      refine gz_iconst C dX11_isIssue_16 gk_iconst_0 ?_
      exact gz_zret C rfl dX11_isIssue_17
    · skip
      refine gz_iconst C dX11_isIssue_12 gk_iconst_1 ?_
      refine gz_goto (tgt := 17) C dX11_isIssue_13 (by decide) ?_
      exact gz_zret C rfl dX11_isIssue_17

def f_X11_issued (a1 : Int32) (a2 : Int32) (σ : gz_S) : Option (Int32 × gz_S) :=
  gz_w (gz_si σ 0 0 0 0) (fun σ1 =>
  gz_call (f_X11_isIssue a1 σ1) (fun r3 σ2 =>
  if r3 = 0 then
  (some ((-1), σ2))
  else
  (if a2 = 0 then
  (gz_ix a1 40 (fun n4 =>
  some (σ2.1 29 0 n4, σ2)))
  else
  (if a2 = 1 then
  (gz_ix a1 40 (fun n5 =>
  some (σ2.1 30 0 n5, σ2)))
  else
  (if a2 = 2 then
  (gz_ix a1 40 (fun n6 =>
  some (σ2.1 31 0 n6, σ2)))
  else
  (if a2 = 3 then
  (gz_ix a1 40 (fun n7 =>
  some (σ2.1 32 0 n7, σ2)))
  else
  (if a2 = 4 then
  (gz_ix a1 40 (fun n8 =>
  some (σ2.1 33 0 n8, σ2)))
  else
  (some ((-1), σ2)))))))))
set_option maxHeartbeats 4000000 in
set_option maxRecDepth 100000 in
theorem c_X11_issued (l : Launch) (G : gz_G) (a1 : Int32) (a2 : Int32) (σ : gz_S) : ∀ o, f_X11_issued a1 a2 σ = some o → gz_M l true G yX11_issued cX11_issued 3 (some .int) { frames := 1, cells := 0, slots := 0, locals := 21 } [.ref (gz_ad true G 0 0), .int a1, .int a2] σ (gz_ei o) 0 0 := by
  refine gz_enter RX11 rfl (by decide) (Nat.le_of_ble_eq_true rfl) ?_
  intro p e s m args below meth c C
  refine gz_eqs (st' := []) (lv' := [(0, .ref (gz_ad true G 0 0)), (1, .int a1), (2, .int a2)]) rfl rfl ?_
  unfold f_X11_issued
  refine gz_aload_n C dX11_issued_0 0 rfl ?_
  refine gz_iconst C dX11_issued_1 gk_iconst_0 ?_
  refine gz_putI C (t := 0) (k := 0) (ci := 11) (q := (RX11, TX11, 63)) dX11_issued_2 fl_RX11_158 (gz_hm0 _) rfl rfl (by decide) rfl rfl rfl rfl ?_
  refine gz_w_row (fun σ1 => ?_)
  refine gz_aload_n C dX11_issued_5 0 rfl ?_
  refine gz_iload_n C dX11_issued_6 1 rfl ?_
  refine gz_ki (gz_runV (t := 0) (ci := 11) (q := (RX11, TX11, 63)) (As := [.int a1]) (rest := []) C dX11_issued_7 ml_RX11_365 mw_X11_isIssue mv_X11_isIssue (c_X11_isIssue l G a1 σ1) (gz_hm0 _) rfl rfl rfl rfl rfl (Nat.le_of_ble_eq_true rfl) ⟨rfl, rfl, Nat.le_of_ble_eq_true rfl, Nat.le_of_ble_eq_true rfl, Nat.le_of_ble_eq_true rfl, Nat.le_of_ble_eq_true rfl⟩) (fun r3 σ2 => ?_)
  refine gz_if_ne (tgt := 15) C dX11_issued_10 (by decide) ?_ ?_
  · skip
    refine gz_iload_n C dX11_issued_15 2 rfl ?_
    refine gz_case 0 (fun hx0 => ?_) (fun hx0 => ?_)
    · rw [hx0]
      refine gz_tin (tgt := 52) (off := 36) C dX11_issued_16 (by decide) (by decide) rfl (by decide) ?_
      refine gz_aload_n C dX11_issued_52 0 rfl ?_
      refine gz_get C (t := 0) (k := 46) (ci := 11) (q := (RX11, TX11, 63)) (v := .ref (gz_ad true G 29 0)) dX11_issued_53 fl_RX11_113 (gz_hm0 _) rfl rfl (by decide) rfl ?_
      refine gz_iload_n C dX11_issued_56 1 rfl ?_
      refine gz_iald C (t := 29) dX11_issued_57 (gz_hm29 _) rfl (fun n4 hn4 => ?_)
      exact gz_iret C rfl dX11_issued_58
    refine gz_case 1 (fun hx1 => ?_) (fun hx1 => ?_)
    · rw [hx1]
      refine gz_tin (tgt := 59) (off := 43) C dX11_issued_16 (by decide) (by decide) rfl (by decide) ?_
      refine gz_aload_n C dX11_issued_59 0 rfl ?_
      refine gz_get C (t := 0) (k := 47) (ci := 11) (q := (RX11, TX11, 63)) (v := .ref (gz_ad true G 30 0)) dX11_issued_60 fl_RX11_116 (gz_hm0 _) rfl rfl (by decide) rfl ?_
      refine gz_iload_n C dX11_issued_63 1 rfl ?_
      refine gz_iald C (t := 30) dX11_issued_64 (gz_hm30 _) rfl (fun n5 hn5 => ?_)
      exact gz_iret C rfl dX11_issued_65
    refine gz_case 2 (fun hx2 => ?_) (fun hx2 => ?_)
    · rw [hx2]
      refine gz_tin (tgt := 66) (off := 50) C dX11_issued_16 (by decide) (by decide) rfl (by decide) ?_
      refine gz_aload_n C dX11_issued_66 0 rfl ?_
      refine gz_get C (t := 0) (k := 48) (ci := 11) (q := (RX11, TX11, 63)) (v := .ref (gz_ad true G 31 0)) dX11_issued_67 fl_RX11_119 (gz_hm0 _) rfl rfl (by decide) rfl ?_
      refine gz_iload_n C dX11_issued_70 1 rfl ?_
      refine gz_iald C (t := 31) dX11_issued_71 (gz_hm31 _) rfl (fun n6 hn6 => ?_)
      exact gz_iret C rfl dX11_issued_72
    refine gz_case 3 (fun hx3 => ?_) (fun hx3 => ?_)
    · rw [hx3]
      refine gz_tin (tgt := 73) (off := 57) C dX11_issued_16 (by decide) (by decide) rfl (by decide) ?_
      refine gz_aload_n C dX11_issued_73 0 rfl ?_
      refine gz_get C (t := 0) (k := 49) (ci := 11) (q := (RX11, TX11, 63)) (v := .ref (gz_ad true G 32 0)) dX11_issued_74 fl_RX11_122 (gz_hm0 _) rfl rfl (by decide) rfl ?_
      refine gz_iload_n C dX11_issued_77 1 rfl ?_
      refine gz_iald C (t := 32) dX11_issued_78 (gz_hm32 _) rfl (fun n7 hn7 => ?_)
      exact gz_iret C rfl dX11_issued_79
    refine gz_case 4 (fun hx4 => ?_) (fun hx4 => ?_)
    · rw [hx4]
      refine gz_tin (tgt := 80) (off := 64) C dX11_issued_16 (by decide) (by decide) rfl (by decide) ?_
      refine gz_aload_n C dX11_issued_80 0 rfl ?_
      refine gz_get C (t := 0) (k := 50) (ci := 11) (q := (RX11, TX11, 63)) (v := .ref (gz_ad true G 33 0)) dX11_issued_81 fl_RX11_125 (gz_hm0 _) rfl rfl (by decide) rfl ?_
      refine gz_iload_n C dX11_issued_84 1 rfl ?_
      refine gz_iald C (t := 33) dX11_issued_85 (gz_hm33 _) rfl (fun n8 hn8 => ?_)
      exact gz_iret C rfl dX11_issued_86
    refine gz_tout (tgt := 87) C dX11_issued_16 (by have q0 := lv_neT hx0 (a := 0) (by decide); have q1 := lv_neT hx1 (a := 1) (by decide); have q2 := lv_neT hx2 (a := 2) (by decide); have q3 := lv_neT hx3 (a := 3) (by decide); have q4 := lv_neT hx4 (a := 4) (by decide); omega) (by decide) ?_
    refine gz_iconst C dX11_issued_87 gk_iconst_m1 ?_
    exact gz_iret C rfl dX11_issued_88
  · skip
    refine gz_iconst C dX11_issued_13 gk_iconst_m1 ?_
    exact gz_iret C rfl dX11_issued_14

def f_X11_printed (a1 : Int32) (a2 : Int32) (σ : gz_S) : Option (Int32 × gz_S) :=
  gz_w (gz_si σ 0 0 0 0) (fun σ1 =>
  gz_call (f_X11_isIssue a1 σ1) (fun r3 σ2 =>
  if r3 = 0 then
  (some ((-1), σ2))
  else
  (if a2 < 0 then
  (some ((-1), σ2))
  else
  (gz_ix a1 40 (fun n4 =>
  if (σ2.1 30 0 n4) ≤ a2 then
  (some ((-1), σ2))
  else
  (gz_ix ((12 * a1) + a2) 480 (fun n5 =>
  some (σ2.1 34 0 n5, σ2))))))))
set_option maxHeartbeats 4000000 in
set_option maxRecDepth 100000 in
theorem c_X11_printed (l : Launch) (G : gz_G) (a1 : Int32) (a2 : Int32) (σ : gz_S) : ∀ o, f_X11_printed a1 a2 σ = some o → gz_M l true G yX11_printed cX11_printed 3 (some .int) { frames := 1, cells := 0, slots := 0, locals := 21 } [.ref (gz_ad true G 0 0), .int a1, .int a2] σ (gz_ei o) 0 0 := by
  refine gz_enter RX11 rfl (by decide) (Nat.le_of_ble_eq_true rfl) ?_
  intro p e s m args below meth c C
  refine gz_eqs (st' := []) (lv' := [(0, .ref (gz_ad true G 0 0)), (1, .int a1), (2, .int a2)]) rfl rfl ?_
  unfold f_X11_printed
  refine gz_aload_n C dX11_printed_0 0 rfl ?_
  refine gz_iconst C dX11_printed_1 gk_iconst_0 ?_
  refine gz_putI C (t := 0) (k := 0) (ci := 11) (q := (RX11, TX11, 63)) dX11_printed_2 fl_RX11_158 (gz_hm0 _) rfl rfl (by decide) rfl rfl rfl rfl ?_
  refine gz_w_row (fun σ1 => ?_)
  refine gz_aload_n C dX11_printed_5 0 rfl ?_
  refine gz_iload_n C dX11_printed_6 1 rfl ?_
  refine gz_ki (gz_runV (t := 0) (ci := 11) (q := (RX11, TX11, 63)) (As := [.int a1]) (rest := []) C dX11_printed_7 ml_RX11_365 mw_X11_isIssue mv_X11_isIssue (c_X11_isIssue l G a1 σ1) (gz_hm0 _) rfl rfl rfl rfl rfl (Nat.le_of_ble_eq_true rfl) ⟨rfl, rfl, Nat.le_of_ble_eq_true rfl, Nat.le_of_ble_eq_true rfl, Nat.le_of_ble_eq_true rfl, Nat.le_of_ble_eq_true rfl⟩) (fun r3 σ2 => ?_)
  refine gz_if_eq (tgt := 41) C dX11_printed_10 (by decide) ?_ ?_
  · skip
    refine gz_iconst C dX11_printed_41 gk_iconst_m1 ?_
    exact gz_iret C rfl dX11_printed_42
  · skip
    refine gz_iload_n C dX11_printed_13 2 rfl ?_
    refine gz_if_lt (tgt := 41) C dX11_printed_14 (by decide) ?_ ?_
    · skip
      refine gz_iconst C dX11_printed_41 gk_iconst_m1 ?_
      exact gz_iret C rfl dX11_printed_42
    · skip
      refine gz_iload_n C dX11_printed_17 2 rfl ?_
      refine gz_aload_n C dX11_printed_18 0 rfl ?_
      refine gz_get C (t := 0) (k := 47) (ci := 11) (q := (RX11, TX11, 63)) (v := .ref (gz_ad true G 30 0)) dX11_printed_19 fl_RX11_116 (gz_hm0 _) rfl rfl (by decide) rfl ?_
      refine gz_iload_n C dX11_printed_22 1 rfl ?_
      refine gz_iald C (t := 30) dX11_printed_23 (gz_hm30 _) rfl (fun n4 hn4 => ?_)
      refine gz_icmp_ge (tgt := 41) C dX11_printed_24 (by decide) ?_ ?_
      · skip
        refine gz_iconst C dX11_printed_41 gk_iconst_m1 ?_
        exact gz_iret C rfl dX11_printed_42
      · skip
        refine gz_aload_n C dX11_printed_27 0 rfl ?_
        refine gz_get C (t := 0) (k := 51) (ci := 11) (q := (RX11, TX11, 63)) (v := .ref (gz_ad true G 34 0)) dX11_printed_28 fl_RX11_128 (gz_hm0 _) rfl rfl (by decide) rfl ?_
        refine gz_bipush C dX11_printed_31 gk_bipush_12 ?_
        refine gz_iload_n C dX11_printed_33 1 rfl ?_
        refine gz_imul C dX11_printed_34 ?_
        refine gz_iload_n C dX11_printed_35 2 rfl ?_
        refine gz_iadd C dX11_printed_36 ?_
        refine gz_iald C (t := 34) dX11_printed_37 (gz_hm34 _) rfl (fun n5 hn5 => ?_)
        refine gz_goto (tgt := 42) C dX11_printed_38 (by decide) ?_
        exact gz_iret C rfl dX11_printed_42

def f_X11_isKnown (a1 : Int32) (a2 : Int32) (σ : gz_S) : Option (Int32 × gz_S) :=
  gz_ix a1 61 (fun n1 =>
  if (σ.1 18 0 n1) = (-1) then
  (some ((0 : Int32) &&& 1, σ))
  else
  (gz_ix a1 61 (fun n2 =>
  gz_ix (σ.1 18 0 n2) 40 (fun n3 =>
  if a2 < (σ.1 29 0 n3) then
  (some ((0 : Int32) &&& 1, σ))
  else
  (some ((1 : Int32) &&& 1, σ))))))
set_option maxHeartbeats 4000000 in
set_option maxRecDepth 100000 in
theorem c_X11_isKnown (l : Launch) (G : gz_G) (a1 : Int32) (a2 : Int32) (σ : gz_S) : ∀ o, f_X11_isKnown a1 a2 σ = some o → gz_M l true G yX11_isKnown cX11_isKnown 3 (some .boolean) { frames := 0, cells := 0, slots := 0, locals := 0 } [.ref (gz_ad true G 0 0), .int a1, .int a2] σ (gz_ei o) 0 0 := by
  refine gz_enter RX11 rfl (by decide) (Nat.le_of_ble_eq_true rfl) ?_
  intro p e s m args below meth c C
  refine gz_eqs (st' := []) (lv' := [(0, .ref (gz_ad true G 0 0)), (1, .int a1), (2, .int a2)]) rfl rfl ?_
  unfold f_X11_isKnown
  refine gz_aload_n C dX11_isKnown_0 0 rfl ?_
  refine gz_get C (t := 0) (k := 35) (ci := 11) (q := (RX11, TX11, 63)) (v := .ref (gz_ad true G 18 0)) dX11_isKnown_1 fl_RX11_80 (gz_hm0 _) rfl rfl (by decide) rfl ?_
  refine gz_iload_n C dX11_isKnown_4 1 rfl ?_
  refine gz_iald C (t := 18) dX11_isKnown_5 (gz_hm18 _) rfl (fun n1 hn1 => ?_)
  refine gz_iconst C dX11_isKnown_6 gk_iconst_m1 ?_
  refine gz_icmp_eq (tgt := 29) C dX11_isKnown_7 (by decide) ?_ ?_
  · skip
    refine gz_iconst C dX11_isKnown_29 gk_iconst_0 ?_
    exact gz_zret C rfl dX11_isKnown_30
  · skip
    refine gz_aload_n C dX11_isKnown_10 0 rfl ?_
    refine gz_get C (t := 0) (k := 46) (ci := 11) (q := (RX11, TX11, 63)) (v := .ref (gz_ad true G 29 0)) dX11_isKnown_11 fl_RX11_113 (gz_hm0 _) rfl rfl (by decide) rfl ?_
    refine gz_aload_n C dX11_isKnown_14 0 rfl ?_
    refine gz_get C (t := 0) (k := 35) (ci := 11) (q := (RX11, TX11, 63)) (v := .ref (gz_ad true G 18 0)) dX11_isKnown_15 fl_RX11_80 (gz_hm0 _) rfl rfl (by decide) rfl ?_
    refine gz_iload_n C dX11_isKnown_18 1 rfl ?_
    refine gz_iald C (t := 18) dX11_isKnown_19 (gz_hm18 _) rfl (fun n2 hn2 => ?_)
    refine gz_iald C (t := 29) dX11_isKnown_20 (gz_hm29 _) rfl (fun n3 hn3 => ?_)
    refine gz_iload_n C dX11_isKnown_21 2 rfl ?_
    refine gz_icmp_gt (tgt := 29) C dX11_isKnown_22 (by decide) ?_ ?_
    · skip
      refine gz_iconst C dX11_isKnown_29 gk_iconst_0 ?_
      exact gz_zret C rfl dX11_isKnown_30
    · skip
      refine gz_iconst C dX11_isKnown_25 gk_iconst_1 ?_
      refine gz_goto (tgt := 30) C dX11_isKnown_26 (by decide) ?_
      exact gz_zret C rfl dX11_isKnown_30

def f_X11_voids_J74 (v3 : Int32) (rec30 : Int32 → gz_S → Option (gz_S)) : gz_S → Option (gz_S) := fun σ7 =>
  rec30 (v3 + (-1)) σ7
def f_X11_voids_L30 (a1 : Int32) : (Int32 → gz_S → Option (gz_S)) → Int32 → gz_S → Option (gz_S) := fun rec30 v3 σ4 =>
  if v3 < 0 then
  (some σ4)
  else
  (gz_call (f_X11_isKnown v3 a1 σ4) (fun r6 σ5 =>
  gz_j0 (f_X11_voids_J74 v3 rec30) (fun j74 =>
  if r6 = 0 then
  (j74 σ5)
  else
  (gz_ix v3 60 (fun n8 =>
  if (σ5.1 38 0 n8) = 0 then
  (gz_ix v3 61 (fun n9 =>
  if (σ5.1 20 0 n9) = (-1) then
  (j74 σ5)
  else
  (gz_ix v3 61 (fun n10 =>
  gz_ix (σ5.1 20 0 n10) 60 (fun n11 =>
  gz_w (gz_si σ5 38 0 n11 ((1 : Int32) &&& 1)) (fun σ12 =>
  j74 σ12))))))
  else
  (j74 σ5))))))
def f_X11_voids_J23 (a1 : Int32) : gz_S → Option (gz_S) := fun σ1 =>
  gz_v ((σ1.1 0 0 29) - 1) (fun v2 =>
  gz_l1 (f_X11_voids_L30 a1) gz_fu v2 σ1)
def f_X11_voids_L2 (j23 : gz_S → Option (gz_S)) : (Int32 → gz_S → Option (gz_S)) → Int32 → gz_S → Option (gz_S) := fun rec2 v13 σ14 =>
  if (σ14.1 0 0 29) ≤ v13 then
  (j23 σ14)
  else
  (gz_ix v13 60 (fun n15 =>
  gz_w (gz_si σ14 38 0 n15 ((0 : Int32) &&& 1)) (fun σ16 =>
  rec2 (v13 + 1) σ16)))
def f_X11_voids (a1 : Int32) (σ : gz_S) : Option (gz_S) :=
  gz_j0 (f_X11_voids_J23 a1) (fun j23 =>
  gz_l1 (f_X11_voids_L2 j23) gz_fu 0 σ)
set_option maxHeartbeats 4000000 in
set_option maxRecDepth 100000 in
theorem c_X11_voids (l : Launch) (G : gz_G) (a1 : Int32) (σ : gz_S) : ∀ o, f_X11_voids a1 σ = some o → gz_M l true G yX11_voids cX11_voids 3 none { frames := 1, cells := 0, slots := 0, locals := 22 } [.ref (gz_ad true G 0 0), .int a1] σ (gz_eu o) 0 0 := by
  refine gz_enter RX11 rfl (by decide) (Nat.le_of_ble_eq_true rfl) ?_
  intro p e s m args below meth c C
  refine gz_eqs (st' := []) (lv' := [(0, .ref (gz_ad true G 0 0)), (1, .int a1)]) rfl rfl ?_
  unfold f_X11_voids
  refine gz_iconst C dX11_voids_0 gk_iconst_0 ?_
  refine gz_istore_n C (lv' := [(2, .int 0), (0, .ref (gz_ad true G 0 0)), (1, .int a1)]) dX11_voids_1 (by decide) rfl ?_
  refine gz_j0_row (P := fun σ1 x => gz_W true p l e ({ frames := 1, cells := 0, slots := 0, locals := 22 } : Room) s m args below meth c G 3 (gz_Q true G below args s 0 0 gz_eu) 0 0 σ1 23 [(0, .ref (gz_ad true G 0 0)), (1, .int a1)] [] x) (fun σ1 => ?_) (fun j23 hj23 => ?_)
  · unfold f_X11_voids_J23
    refine gz_aload_n C dX11_voids_23 0 rfl ?_
    refine gz_get C (t := 0) (k := 29) (ci := 11) (q := (RX11, TX11, 63)) (v := .int (σ1.1 0 0 29)) dX11_voids_24 fl_RX11_173 (gz_hm0 _) rfl rfl (by decide) rfl ?_
    refine gz_iconst C dX11_voids_27 gk_iconst_1 ?_
    refine gz_isub C dX11_voids_28 ?_
    refine gz_topI (fun v2 => ?_)
    refine gz_istore_n C (lv' := [(2, .int v2), (0, .ref (gz_ad true G 0 0)), (1, .int a1)]) dX11_voids_29 (by decide) rfl ?_
    refine gz_lv (lv' := [(0, .ref (gz_ad true G 0 0)), (1, .int a1), (2, .int v2)]) [1, 2, 0] rfl ?_
    refine gz_l1_ind (P := fun v3 σ4 x => gz_W true p l e ({ frames := 1, cells := 0, slots := 0, locals := 22 } : Room) s m args below meth c G 3 (gz_Q true G below args s 0 0 gz_eu) 0 0 σ4 30 [(0, .ref (gz_ad true G 0 0)), (1, .int a1), (2, .int v3)] [] x) (fun _ _ => gz_none) (fun rec30 hrec30 v3 σ4 => ?_) gz_fu v2 σ1
    unfold f_X11_voids_L30
    refine gz_iload_n C dX11_voids_30 2 rfl ?_
    refine gz_if_lt (tgt := 80) C dX11_voids_31 (by decide) ?_ ?_
    · skip
      exact gz_vret C rfl dX11_voids_80
    · skip
      refine gz_aload_n C dX11_voids_34 0 rfl ?_
      refine gz_iload_n C dX11_voids_35 2 rfl ?_
      refine gz_iload_n C dX11_voids_36 1 rfl ?_
      refine gz_ki (gz_runV (t := 0) (ci := 11) (q := (RX11, TX11, 63)) (As := [.int v3, .int a1]) (rest := []) C dX11_voids_37 ml_RX11_368 mw_X11_isKnown mv_X11_isKnown (c_X11_isKnown l G v3 a1 σ4) (gz_hm0 _) rfl rfl rfl rfl rfl (Nat.le_of_ble_eq_true rfl) ⟨rfl, rfl, Nat.le_of_ble_eq_true rfl, Nat.le_of_ble_eq_true rfl, Nat.le_of_ble_eq_true rfl, Nat.le_of_ble_eq_true rfl⟩) (fun r6 σ5 => ?_)
      refine gz_j0_row (P := fun σ7 x => gz_W true p l e ({ frames := 1, cells := 0, slots := 0, locals := 22 } : Room) s m args below meth c G 3 (gz_Q true G below args s 0 0 gz_eu) 0 0 σ7 74 [(0, .ref (gz_ad true G 0 0)), (1, .int a1), (2, .int v3)] [] x) (fun σ7 => ?_) (fun j74 hj74 => ?_)
      · unfold f_X11_voids_J74
        refine gz_iinc C (q := 2) (v := v3 + (-1)) (lv' := [(2, .int (v3 + (-1))), (0, .ref (gz_ad true G 0 0)), (1, .int a1)]) dX11_voids_74 rfl rfl (by decide) rfl ?_
        refine gz_goto (tgt := 30) C dX11_voids_77 (by decide) ?_
        refine gz_lv (lv' := [(0, .ref (gz_ad true G 0 0)), (1, .int a1), (2, .int (v3 + (-1)))]) [1, 2, 0] rfl ?_
        exact hrec30 (v3 + (-1)) σ7
      · skip
        refine gz_if_eq (tgt := 74) C dX11_voids_40 (by decide) ?_ ?_
        · skip
          exact hj74 σ5
        · skip
          refine gz_aload_n C dX11_voids_43 0 rfl ?_
          refine gz_get C (t := 0) (k := 56) (ci := 11) (q := (RX11, TX11, 63)) (v := .ref (gz_ad true G 38 0)) dX11_voids_44 fl_RX11_140 (gz_hm0 _) rfl rfl (by decide) rfl ?_
          refine gz_iload_n C dX11_voids_47 2 rfl ?_
          refine gz_zald C (t := 38) dX11_voids_48 (gz_hm38 _) rfl (fun n8 hn8 => ?_)
          refine gz_if_ne (tgt := 74) C dX11_voids_49 (by decide) ?_ ?_
          · skip
            exact hj74 σ5
          · skip
            refine gz_aload_n C dX11_voids_52 0 rfl ?_
            refine gz_get C (t := 0) (k := 37) (ci := 11) (q := (RX11, TX11, 63)) (v := .ref (gz_ad true G 20 0)) dX11_voids_53 fl_RX11_86 (gz_hm0 _) rfl rfl (by decide) rfl ?_
            refine gz_iload_n C dX11_voids_56 2 rfl ?_
            refine gz_iald C (t := 20) dX11_voids_57 (gz_hm20 _) rfl (fun n9 hn9 => ?_)
            refine gz_iconst C dX11_voids_58 gk_iconst_m1 ?_
            refine gz_icmp_eq (tgt := 74) C dX11_voids_59 (by decide) ?_ ?_
            · skip
              exact hj74 σ5
            · skip
              refine gz_aload_n C dX11_voids_62 0 rfl ?_
              refine gz_get C (t := 0) (k := 56) (ci := 11) (q := (RX11, TX11, 63)) (v := .ref (gz_ad true G 38 0)) dX11_voids_63 fl_RX11_140 (gz_hm0 _) rfl rfl (by decide) rfl ?_
              refine gz_aload_n C dX11_voids_66 0 rfl ?_
              refine gz_get C (t := 0) (k := 37) (ci := 11) (q := (RX11, TX11, 63)) (v := .ref (gz_ad true G 20 0)) dX11_voids_67 fl_RX11_86 (gz_hm0 _) rfl rfl (by decide) rfl ?_
              refine gz_iload_n C dX11_voids_70 2 rfl ?_
              refine gz_iald C (t := 20) dX11_voids_71 (gz_hm20 _) rfl (fun n10 hn10 => ?_)
              refine gz_iconst C dX11_voids_72 gk_iconst_1 ?_
              refine gz_zast C (t := 38) dX11_voids_73 (gz_hm38 _) rfl (fun n11 hn11 => ?_)
              refine gz_w_row (fun σ12 => ?_)
              exact hj74 σ12
  · skip
    refine gz_lv (lv' := [(0, .ref (gz_ad true G 0 0)), (1, .int a1), (2, .int 0)]) [1, 2, 0] rfl ?_
    refine gz_l1_ind (P := fun v13 σ14 x => gz_W true p l e ({ frames := 1, cells := 0, slots := 0, locals := 22 } : Room) s m args below meth c G 3 (gz_Q true G below args s 0 0 gz_eu) 0 0 σ14 2 [(0, .ref (gz_ad true G 0 0)), (1, .int a1), (2, .int v13)] [] x) (fun _ _ => gz_none) (fun rec2 hrec2 v13 σ14 => ?_) gz_fu 0 σ
    unfold f_X11_voids_L2
    refine gz_iload_n C dX11_voids_2 2 rfl ?_
    refine gz_aload_n C dX11_voids_3 0 rfl ?_
    refine gz_get C (t := 0) (k := 29) (ci := 11) (q := (RX11, TX11, 63)) (v := .int (σ14.1 0 0 29)) dX11_voids_4 fl_RX11_173 (gz_hm0 _) rfl rfl (by decide) rfl ?_
    refine gz_icmp_ge (tgt := 23) C dX11_voids_7 (by decide) ?_ ?_
    · skip
      refine gz_lv (lv' := [(0, .ref (gz_ad true G 0 0)), (1, .int a1)]) [0, 1] rfl ?_
      exact hj23 σ14
    · skip
      refine gz_aload_n C dX11_voids_10 0 rfl ?_
      refine gz_get C (t := 0) (k := 56) (ci := 11) (q := (RX11, TX11, 63)) (v := .ref (gz_ad true G 38 0)) dX11_voids_11 fl_RX11_140 (gz_hm0 _) rfl rfl (by decide) rfl ?_
      refine gz_iload_n C dX11_voids_14 2 rfl ?_
      refine gz_iconst C dX11_voids_15 gk_iconst_0 ?_
      refine gz_zast C (t := 38) dX11_voids_16 (gz_hm38 _) rfl (fun n15 hn15 => ?_)
      refine gz_w_row (fun σ16 => ?_)
      refine gz_iinc C (q := 2) (v := v13 + 1) (lv' := [(2, .int (v13 + 1)), (0, .ref (gz_ad true G 0 0)), (1, .int a1)]) dX11_voids_17 rfl rfl (by decide) rfl ?_
      refine gz_goto (tgt := 2) C dX11_voids_20 (by decide) ?_
      refine gz_lv (lv' := [(0, .ref (gz_ad true G 0 0)), (1, .int a1), (2, .int (v13 + 1))]) [1, 2, 0] rfl ?_
      exact hrec2 (v13 + 1) σ16

def f_X11_lay_J143 (v3 : Int32) (rec29 : Int32 → gz_S → Option (gz_S)) : gz_S → Option (gz_S) := fun σ7 =>
  rec29 (v3 + 1) σ7
def f_X11_lay_J137 (v10 : Int32) (rec63 : Int32 → gz_S → Option (gz_S)) : gz_S → Option (gz_S) := fun σ14 =>
  rec63 (v10 + 1) σ14
def f_X11_lay_L63 (v3 : Int32) (a1 : Int32) (j143 : gz_S → Option (gz_S)) : (Int32 → gz_S → Option (gz_S)) → Int32 → gz_S → Option (gz_S) := fun rec63 v10 σ11 =>
  gz_ix v3 61 (fun n12 =>
  if ((4 * v3) + (σ11.1 19 0 n12)) ≤ v10 then
  (j143 σ11)
  else
  (gz_ix v10 240 (fun n13 =>
  gz_j0 (f_X11_lay_J137 v10 rec63) (fun j137 =>
  if (σ11.1 26 0 n13) = a1 then
  (gz_ix v10 240 (fun n15 =>
  gz_ix v10 240 (fun n16 =>
  gz_ix (σ11.1 28 0 n15) 10000 (fun n17 =>
  gz_w (gz_si σ11 39 0 n17 (σ11.1 27 0 n16)) (fun σ18 =>
  gz_ix v10 240 (fun n19 =>
  gz_ix (σ18.1 28 0 n19) 10000 (fun n20 =>
  gz_w (gz_si σ18 40 0 n20 v3) (fun σ21 =>
  gz_ix v10 240 (fun n22 =>
  gz_ix (σ21.1 28 0 n22) 10000 (fun n23 =>
  gz_w (gz_si σ21 41 0 n23 ((1 : Int32) &&& 1)) (fun σ24 =>
  j137 σ24)))))))))))
  else
  (j137 σ11)))))
def f_X11_lay_L29 (a2 : Int32) (a1 : Int32) : (Int32 → gz_S → Option (gz_S)) → Int32 → gz_S → Option (gz_S) := fun rec29 v3 σ4 =>
  if (σ4.1 0 0 29) ≤ v3 then
  (some σ4)
  else
  (gz_call (f_X11_isKnown v3 a2 σ4) (fun r6 σ5 =>
  gz_j0 (f_X11_lay_J143 v3 rec29) (fun j143 =>
  if r6 = 0 then
  (j143 σ5)
  else
  (gz_ix v3 60 (fun n8 =>
  if (σ5.1 38 0 n8) = 0 then
  (gz_v (4 * v3) (fun v9 =>
  gz_l1 (f_X11_lay_L63 v3 a1 j143) gz_fu v9 σ5))
  else
  (j143 σ5))))))
def f_X11_lay_J27 (a2 : Int32) (a1 : Int32) : gz_S → Option (gz_S) := fun σ2 =>
  gz_l1 (f_X11_lay_L29 a2 a1) gz_fu 0 σ2
def f_X11_lay_L7 (j27 : gz_S → Option (gz_S)) : (Int32 → gz_S → Option (gz_S)) → Int32 → gz_S → Option (gz_S) := fun rec7 v25 σ26 =>
  if 10000 ≤ v25 then
  (j27 σ26)
  else
  (gz_ix v25 10000 (fun n27 =>
  gz_w (gz_si σ26 41 0 n27 ((0 : Int32) &&& 1)) (fun σ28 =>
  rec7 (v25 + 1) σ28)))
def f_X11_lay (a1 : Int32) (a2 : Int32) (σ : gz_S) : Option (gz_S) :=
  gz_then (f_X11_voids a2 σ) (fun σ1 =>
  gz_j0 (f_X11_lay_J27 a2 a1) (fun j27 =>
  gz_l1 (f_X11_lay_L7 j27) gz_fu 0 σ1))
set_option maxHeartbeats 4000000 in
set_option maxRecDepth 100000 in
theorem c_X11_lay (l : Launch) (G : gz_G) (a1 : Int32) (a2 : Int32) (σ : gz_S) : ∀ o, f_X11_lay a1 a2 σ = some o → gz_M l true G yX11_lay cX11_lay 5 none { frames := 2, cells := 0, slots := 0, locals := 44 } [.ref (gz_ad true G 0 0), .int a1, .int a2] σ (gz_eu o) 0 0 := by
  refine gz_enter RX11 rfl (by decide) (Nat.le_of_ble_eq_true rfl) ?_
  intro p e s m args below meth c C
  refine gz_eqs (st' := []) (lv' := [(0, .ref (gz_ad true G 0 0)), (1, .int a1), (2, .int a2)]) rfl rfl ?_
  unfold f_X11_lay
  refine gz_aload_n C dX11_lay_0 0 rfl ?_
  refine gz_iload_n C dX11_lay_1 2 rfl ?_
  refine gz_kv (gz_runV (t := 0) (ci := 11) (q := (RX11, TX11, 63)) (As := [.int a2]) (rest := []) C dX11_lay_2 ml_RX11_372 mw_X11_voids mv_X11_voids (c_X11_voids l G a2 σ) (gz_hm0 _) rfl rfl rfl rfl rfl (Nat.le_of_ble_eq_true rfl) ⟨rfl, rfl, Nat.le_of_ble_eq_true rfl, Nat.le_of_ble_eq_true rfl, Nat.le_of_ble_eq_true rfl, Nat.le_of_ble_eq_true rfl⟩) (fun σ1 => ?_)
  refine gz_iconst C dX11_lay_5 gk_iconst_0 ?_
  refine gz_istore_n C (lv' := [(3, .int 0), (0, .ref (gz_ad true G 0 0)), (1, .int a1), (2, .int a2)]) dX11_lay_6 (by decide) rfl ?_
  refine gz_j0_row (P := fun σ2 x => gz_W true p l e ({ frames := 2, cells := 0, slots := 0, locals := 44 } : Room) s m args below meth c G 5 (gz_Q true G below args s 0 0 gz_eu) 0 0 σ2 27 [(0, .ref (gz_ad true G 0 0)), (1, .int a1), (2, .int a2)] [] x) (fun σ2 => ?_) (fun j27 hj27 => ?_)
  · unfold f_X11_lay_J27
    refine gz_iconst C dX11_lay_27 gk_iconst_0 ?_
    refine gz_istore_n C (lv' := [(3, .int 0), (0, .ref (gz_ad true G 0 0)), (1, .int a1), (2, .int a2)]) dX11_lay_28 (by decide) rfl ?_
    refine gz_lv (lv' := [(0, .ref (gz_ad true G 0 0)), (1, .int a1), (2, .int a2), (3, .int 0)]) [1, 2, 3, 0] rfl ?_
    refine gz_l1_ind (P := fun v3 σ4 x => gz_W true p l e ({ frames := 2, cells := 0, slots := 0, locals := 44 } : Room) s m args below meth c G 5 (gz_Q true G below args s 0 0 gz_eu) 0 0 σ4 29 [(0, .ref (gz_ad true G 0 0)), (1, .int a1), (2, .int a2), (3, .int v3)] [] x) (fun _ _ => gz_none) (fun rec29 hrec29 v3 σ4 => ?_) gz_fu 0 σ2
    unfold f_X11_lay_L29
    refine gz_iload_n C dX11_lay_29 3 rfl ?_
    refine gz_aload_n C dX11_lay_30 0 rfl ?_
    refine gz_get C (t := 0) (k := 29) (ci := 11) (q := (RX11, TX11, 63)) (v := .int (σ4.1 0 0 29)) dX11_lay_31 fl_RX11_173 (gz_hm0 _) rfl rfl (by decide) rfl ?_
    refine gz_icmp_ge (tgt := 149) C dX11_lay_34 (by decide) ?_ ?_
    · skip
      exact gz_vret C rfl dX11_lay_149
    · skip
      refine gz_aload_n C dX11_lay_37 0 rfl ?_
      refine gz_iload_n C dX11_lay_38 3 rfl ?_
      refine gz_iload_n C dX11_lay_39 2 rfl ?_
      refine gz_ki (gz_runV (t := 0) (ci := 11) (q := (RX11, TX11, 63)) (As := [.int v3, .int a2]) (rest := []) C dX11_lay_40 ml_RX11_368 mw_X11_isKnown mv_X11_isKnown (c_X11_isKnown l G v3 a2 σ4) (gz_hm0 _) rfl rfl rfl rfl rfl (Nat.le_of_ble_eq_true rfl) ⟨rfl, rfl, Nat.le_of_ble_eq_true rfl, Nat.le_of_ble_eq_true rfl, Nat.le_of_ble_eq_true rfl, Nat.le_of_ble_eq_true rfl⟩) (fun r6 σ5 => ?_)
      refine gz_j0_row (P := fun σ7 x => gz_W true p l e ({ frames := 2, cells := 0, slots := 0, locals := 44 } : Room) s m args below meth c G 5 (gz_Q true G below args s 0 0 gz_eu) 0 0 σ7 143 [(0, .ref (gz_ad true G 0 0)), (1, .int a1), (2, .int a2), (3, .int v3)] [] x) (fun σ7 => ?_) (fun j143 hj143 => ?_)
      · unfold f_X11_lay_J143
        refine gz_iinc C (q := 3) (v := v3 + 1) (lv' := [(3, .int (v3 + 1)), (0, .ref (gz_ad true G 0 0)), (1, .int a1), (2, .int a2)]) dX11_lay_143 rfl rfl (by decide) rfl ?_
        refine gz_goto (tgt := 29) C dX11_lay_146 (by decide) ?_
        refine gz_lv (lv' := [(0, .ref (gz_ad true G 0 0)), (1, .int a1), (2, .int a2), (3, .int (v3 + 1))]) [1, 2, 3, 0] rfl ?_
        exact hrec29 (v3 + 1) σ7
      · skip
        refine gz_if_eq (tgt := 143) C dX11_lay_43 (by decide) ?_ ?_
        · skip
          exact hj143 σ5
        · skip
          refine gz_aload_n C dX11_lay_46 0 rfl ?_
          refine gz_get C (t := 0) (k := 56) (ci := 11) (q := (RX11, TX11, 63)) (v := .ref (gz_ad true G 38 0)) dX11_lay_47 fl_RX11_140 (gz_hm0 _) rfl rfl (by decide) rfl ?_
          refine gz_iload_n C dX11_lay_50 3 rfl ?_
          refine gz_zald C (t := 38) dX11_lay_51 (gz_hm38 _) rfl (fun n8 hn8 => ?_)
          refine gz_if_eq (tgt := 58) C dX11_lay_52 (by decide) ?_ ?_
          · skip
            refine gz_iconst C dX11_lay_58 gk_iconst_4 ?_
            refine gz_iload_n C dX11_lay_59 3 rfl ?_
            refine gz_imul C dX11_lay_60 ?_
            refine gz_topI (fun v9 => ?_)
            refine gz_istore C (lv' := [(4, .int v9), (0, .ref (gz_ad true G 0 0)), (1, .int a1), (2, .int a2), (3, .int v3)]) dX11_lay_61 (by decide) rfl ?_
            refine gz_lv (lv' := [(0, .ref (gz_ad true G 0 0)), (1, .int a1), (2, .int a2), (3, .int v3), (4, .int v9)]) [1, 2, 3, 4, 0] rfl ?_
            refine gz_l1_ind (P := fun v10 σ11 x => gz_W true p l e ({ frames := 2, cells := 0, slots := 0, locals := 44 } : Room) s m args below meth c G 5 (gz_Q true G below args s 0 0 gz_eu) 0 0 σ11 63 [(0, .ref (gz_ad true G 0 0)), (1, .int a1), (2, .int a2), (3, .int v3), (4, .int v10)] [] x) (fun _ _ => gz_none) (fun rec63 hrec63 v10 σ11 => ?_) gz_fu v9 σ5
            unfold f_X11_lay_L63
            refine gz_iload C dX11_lay_63 4 rfl ?_
            refine gz_iconst C dX11_lay_65 gk_iconst_4 ?_
            refine gz_iload_n C dX11_lay_66 3 rfl ?_
            refine gz_imul C dX11_lay_67 ?_
            refine gz_aload_n C dX11_lay_68 0 rfl ?_
            refine gz_get C (t := 0) (k := 36) (ci := 11) (q := (RX11, TX11, 63)) (v := .ref (gz_ad true G 19 0)) dX11_lay_69 fl_RX11_83 (gz_hm0 _) rfl rfl (by decide) rfl ?_
            refine gz_iload_n C dX11_lay_72 3 rfl ?_
            refine gz_iald C (t := 19) dX11_lay_73 (gz_hm19 _) rfl (fun n12 hn12 => ?_)
            refine gz_iadd C dX11_lay_74 ?_
            refine gz_icmp_ge (tgt := 143) C dX11_lay_75 (by decide) ?_ ?_
            · skip
              refine gz_lv (lv' := [(0, .ref (gz_ad true G 0 0)), (1, .int a1), (2, .int a2), (3, .int v3)]) [0, 1, 2, 3] rfl ?_
              exact hj143 σ11
            · skip
              refine gz_aload_n C dX11_lay_78 0 rfl ?_
              refine gz_get C (t := 0) (k := 43) (ci := 11) (q := (RX11, TX11, 63)) (v := .ref (gz_ad true G 26 0)) dX11_lay_79 fl_RX11_104 (gz_hm0 _) rfl rfl (by decide) rfl ?_
              refine gz_iload C dX11_lay_82 4 rfl ?_
              refine gz_iald C (t := 26) dX11_lay_84 (gz_hm26 _) rfl (fun n13 hn13 => ?_)
              refine gz_iload_n C dX11_lay_85 1 rfl ?_
              refine gz_j0_row (P := fun σ14 x => gz_W true p l e ({ frames := 2, cells := 0, slots := 0, locals := 44 } : Room) s m args below meth c G 5 (gz_Q true G below args s 0 0 gz_eu) 0 0 σ14 137 [(0, .ref (gz_ad true G 0 0)), (1, .int a1), (2, .int a2), (3, .int v3), (4, .int v10)] [] x) (fun σ14 => ?_) (fun j137 hj137 => ?_)
              · unfold f_X11_lay_J137
                refine gz_iinc C (q := 4) (v := v10 + 1) (lv' := [(4, .int (v10 + 1)), (0, .ref (gz_ad true G 0 0)), (1, .int a1), (2, .int a2), (3, .int v3)]) dX11_lay_137 rfl rfl (by decide) rfl ?_
                refine gz_goto (tgt := 63) C dX11_lay_140 (by decide) ?_
                refine gz_lv (lv' := [(0, .ref (gz_ad true G 0 0)), (1, .int a1), (2, .int a2), (3, .int v3), (4, .int (v10 + 1))]) [1, 2, 3, 4, 0] rfl ?_
                exact hrec63 (v10 + 1) σ14
              · skip
                refine gz_icmp_eq (tgt := 92) C dX11_lay_86 (by decide) ?_ ?_
                · skip
                  refine gz_aload_n C dX11_lay_92 0 rfl ?_
                  refine gz_get C (t := 0) (k := 57) (ci := 11) (q := (RX11, TX11, 63)) (v := .ref (gz_ad true G 39 0)) dX11_lay_93 fl_RX11_143 (gz_hm0 _) rfl rfl (by decide) rfl ?_
                  refine gz_aload_n C dX11_lay_96 0 rfl ?_
                  refine gz_get C (t := 0) (k := 45) (ci := 11) (q := (RX11, TX11, 63)) (v := .ref (gz_ad true G 28 0)) dX11_lay_97 fl_RX11_110 (gz_hm0 _) rfl rfl (by decide) rfl ?_
                  refine gz_iload C dX11_lay_100 4 rfl ?_
                  refine gz_iald C (t := 28) dX11_lay_102 (gz_hm28 _) rfl (fun n15 hn15 => ?_)
                  refine gz_aload_n C dX11_lay_103 0 rfl ?_
                  refine gz_get C (t := 0) (k := 44) (ci := 11) (q := (RX11, TX11, 63)) (v := .ref (gz_ad true G 27 0)) dX11_lay_104 fl_RX11_107 (gz_hm0 _) rfl rfl (by decide) rfl ?_
                  refine gz_iload C dX11_lay_107 4 rfl ?_
                  refine gz_iald C (t := 27) dX11_lay_109 (gz_hm27 _) rfl (fun n16 hn16 => ?_)
                  refine gz_iast C (t := 39) dX11_lay_110 (gz_hm39 _) rfl (fun n17 hn17 => ?_)
                  refine gz_w_row (fun σ18 => ?_)
                  refine gz_aload_n C dX11_lay_111 0 rfl ?_
                  refine gz_get C (t := 0) (k := 58) (ci := 11) (q := (RX11, TX11, 63)) (v := .ref (gz_ad true G 40 0)) dX11_lay_112 fl_RX11_146 (gz_hm0 _) rfl rfl (by decide) rfl ?_
                  refine gz_aload_n C dX11_lay_115 0 rfl ?_
                  refine gz_get C (t := 0) (k := 45) (ci := 11) (q := (RX11, TX11, 63)) (v := .ref (gz_ad true G 28 0)) dX11_lay_116 fl_RX11_110 (gz_hm0 _) rfl rfl (by decide) rfl ?_
                  refine gz_iload C dX11_lay_119 4 rfl ?_
                  refine gz_iald C (t := 28) dX11_lay_121 (gz_hm28 _) rfl (fun n19 hn19 => ?_)
                  refine gz_iload_n C dX11_lay_122 3 rfl ?_
                  refine gz_iast C (t := 40) dX11_lay_123 (gz_hm40 _) rfl (fun n20 hn20 => ?_)
                  refine gz_w_row (fun σ21 => ?_)
                  refine gz_aload_n C dX11_lay_124 0 rfl ?_
                  refine gz_get C (t := 0) (k := 59) (ci := 11) (q := (RX11, TX11, 63)) (v := .ref (gz_ad true G 41 0)) dX11_lay_125 fl_RX11_149 (gz_hm0 _) rfl rfl (by decide) rfl ?_
                  refine gz_aload_n C dX11_lay_128 0 rfl ?_
                  refine gz_get C (t := 0) (k := 45) (ci := 11) (q := (RX11, TX11, 63)) (v := .ref (gz_ad true G 28 0)) dX11_lay_129 fl_RX11_110 (gz_hm0 _) rfl rfl (by decide) rfl ?_
                  refine gz_iload C dX11_lay_132 4 rfl ?_
                  refine gz_iald C (t := 28) dX11_lay_134 (gz_hm28 _) rfl (fun n22 hn22 => ?_)
                  refine gz_iconst C dX11_lay_135 gk_iconst_1 ?_
                  refine gz_zast C (t := 41) dX11_lay_136 (gz_hm41 _) rfl (fun n23 hn23 => ?_)
                  refine gz_w_row (fun σ24 => ?_)
                  exact hj137 σ24
                · skip
                  refine gz_goto (tgt := 137) C dX11_lay_89 (by decide) ?_
                  exact hj137 σ11
          · skip
            refine gz_goto (tgt := 143) C dX11_lay_55 (by decide) ?_
            exact hj143 σ5
  · skip
    refine gz_lv (lv' := [(0, .ref (gz_ad true G 0 0)), (1, .int a1), (2, .int a2), (3, .int 0)]) [1, 2, 3, 0] rfl ?_
    refine gz_l1_ind (P := fun v25 σ26 x => gz_W true p l e ({ frames := 2, cells := 0, slots := 0, locals := 44 } : Room) s m args below meth c G 5 (gz_Q true G below args s 0 0 gz_eu) 0 0 σ26 7 [(0, .ref (gz_ad true G 0 0)), (1, .int a1), (2, .int a2), (3, .int v25)] [] x) (fun _ _ => gz_none) (fun rec7 hrec7 v25 σ26 => ?_) gz_fu 0 σ1
    unfold f_X11_lay_L7
    refine gz_iload_n C dX11_lay_7 3 rfl ?_
    refine gz_sipush C dX11_lay_8 gk_sipush_10000 ?_
    refine gz_icmp_ge (tgt := 27) C dX11_lay_11 (by decide) ?_ ?_
    · skip
      refine gz_lv (lv' := [(0, .ref (gz_ad true G 0 0)), (1, .int a1), (2, .int a2)]) [0, 1, 2] rfl ?_
      exact hj27 σ26
    · skip
      refine gz_aload_n C dX11_lay_14 0 rfl ?_
      refine gz_get C (t := 0) (k := 59) (ci := 11) (q := (RX11, TX11, 63)) (v := .ref (gz_ad true G 41 0)) dX11_lay_15 fl_RX11_149 (gz_hm0 _) rfl rfl (by decide) rfl ?_
      refine gz_iload_n C dX11_lay_18 3 rfl ?_
      refine gz_iconst C dX11_lay_19 gk_iconst_0 ?_
      refine gz_zast C (t := 41) dX11_lay_20 (gz_hm41 _) rfl (fun n27 hn27 => ?_)
      refine gz_w_row (fun σ28 => ?_)
      refine gz_iinc C (q := 3) (v := v25 + 1) (lv' := [(3, .int (v25 + 1)), (0, .ref (gz_ad true G 0 0)), (1, .int a1), (2, .int a2)]) dX11_lay_21 rfl rfl (by decide) rfl ?_
      refine gz_goto (tgt := 7) C dX11_lay_24 (by decide) ?_
      refine gz_lv (lv' := [(0, .ref (gz_ad true G 0 0)), (1, .int a1), (2, .int a2), (3, .int (v25 + 1))]) [1, 2, 3, 0] rfl ?_
      exact hrec7 (v25 + 1) σ28

def f_X11_sinceOf_L35 : (Int32 → gz_S → Option (Int32 × gz_S)) → Int32 → gz_S → Option (Int32 × gz_S) := fun rec35 v8 σ9 =>
  if v8 < 0 then
  (some (v8, σ9))
  else
  (gz_ix v8 10000 (fun n10 =>
  if (σ9.1 41 0 n10) = 0 then
  (rec35 (v8 + (-1)) σ9)
  else
  (some (v8, σ9))))
def f_X11_sinceOf (a1 : Int32) (a2 : Int32) (a3 : Int32) (σ : gz_S) : Option (Int32 × gz_S) :=
  gz_call (f_X11_in a1 0 39 σ) (fun r2 σ1 =>
  if r2 = 0 then
  (some ((-1), σ1))
  else
  (gz_call (f_X11_isDay a2 σ1) (fun r4 σ3 =>
  if r4 = 0 then
  (some ((-1), σ3))
  else
  (gz_call (f_X11_isDay a3 σ3) (fun r6 σ5 =>
  if r6 = 0 then
  (some ((-1), σ5))
  else
  (gz_then (f_X11_lay a1 a3 σ5) (fun σ7 =>
  gz_l1 (f_X11_sinceOf_L35) gz_fu a2 σ7)))))))
set_option maxHeartbeats 4000000 in
set_option maxRecDepth 100000 in
theorem c_X11_sinceOf (l : Launch) (G : gz_G) (a1 : Int32) (a2 : Int32) (a3 : Int32) (σ : gz_S) : ∀ o, f_X11_sinceOf a1 a2 a3 σ = some o → gz_M l true G yX11_sinceOf cX11_sinceOf 5 (some .int) { frames := 3, cells := 0, slots := 0, locals := 68 } [.ref (gz_ad true G 0 0), .int a1, .int a2, .int a3] σ (gz_ei o) 0 0 := by
  refine gz_enter RX11 rfl (by decide) (Nat.le_of_ble_eq_true rfl) ?_
  intro p e s m args below meth c C
  refine gz_eqs (st' := []) (lv' := [(0, .ref (gz_ad true G 0 0)), (1, .int a1), (2, .int a2), (3, .int a3)]) rfl rfl ?_
  unfold f_X11_sinceOf
  refine gz_iload_n C dX11_sinceOf_0 1 rfl ?_
  refine gz_iconst C dX11_sinceOf_1 gk_iconst_0 ?_
  refine gz_bipush C dX11_sinceOf_2 gk_bipush_39 ?_
  refine gz_ki (gz_runS (As := [.int a1, .int 0, .int 39]) (rest := []) C dX11_sinceOf_4 ml_RX11_203 mw_X11_in ms_X11_in (c_X11_in l G a1 0 39 σ) rfl rfl (Nat.le_of_ble_eq_true rfl) ⟨rfl, rfl, Nat.le_of_ble_eq_true rfl, Nat.le_of_ble_eq_true rfl, Nat.le_of_ble_eq_true rfl, Nat.le_of_ble_eq_true rfl⟩) (fun r2 σ1 => ?_)
  refine gz_if_eq (tgt := 24) C dX11_sinceOf_7 (by decide) ?_ ?_
  · skip
    refine gz_iconst C dX11_sinceOf_24 gk_iconst_m1 ?_
    exact gz_iret C rfl dX11_sinceOf_25
  · skip
    refine gz_iload_n C dX11_sinceOf_10 2 rfl ?_
    refine gz_ki (gz_runS (As := [.int a2]) (rest := []) C dX11_sinceOf_11 ml_RX11_176 mw_X11_isDay ms_X11_isDay (c_X11_isDay l G a2 σ1) rfl rfl (Nat.le_of_ble_eq_true rfl) ⟨rfl, rfl, Nat.le_of_ble_eq_true rfl, Nat.le_of_ble_eq_true rfl, Nat.le_of_ble_eq_true rfl, Nat.le_of_ble_eq_true rfl⟩) (fun r4 σ3 => ?_)
    refine gz_if_eq (tgt := 24) C dX11_sinceOf_14 (by decide) ?_ ?_
    · skip
      refine gz_iconst C dX11_sinceOf_24 gk_iconst_m1 ?_
      exact gz_iret C rfl dX11_sinceOf_25
    · skip
      refine gz_iload_n C dX11_sinceOf_17 3 rfl ?_
      refine gz_ki (gz_runS (As := [.int a3]) (rest := []) C dX11_sinceOf_18 ml_RX11_176 mw_X11_isDay ms_X11_isDay (c_X11_isDay l G a3 σ3) rfl rfl (Nat.le_of_ble_eq_true rfl) ⟨rfl, rfl, Nat.le_of_ble_eq_true rfl, Nat.le_of_ble_eq_true rfl, Nat.le_of_ble_eq_true rfl, Nat.le_of_ble_eq_true rfl⟩) (fun r6 σ5 => ?_)
      refine gz_if_ne (tgt := 26) C dX11_sinceOf_21 (by decide) ?_ ?_
      · skip
        refine gz_aload_n C dX11_sinceOf_26 0 rfl ?_
        refine gz_iload_n C dX11_sinceOf_27 1 rfl ?_
        refine gz_iload_n C dX11_sinceOf_28 3 rfl ?_
        refine gz_kv (gz_runV (t := 0) (ci := 11) (q := (RX11, TX11, 63)) (As := [.int a1, .int a3]) (rest := []) C dX11_sinceOf_29 ml_RX11_375 mw_X11_lay mv_X11_lay (c_X11_lay l G a1 a3 σ5) (gz_hm0 _) rfl rfl rfl rfl rfl (Nat.le_of_ble_eq_true rfl) ⟨rfl, rfl, Nat.le_of_ble_eq_true rfl, Nat.le_of_ble_eq_true rfl, Nat.le_of_ble_eq_true rfl, Nat.le_of_ble_eq_true rfl⟩) (fun σ7 => ?_)
        refine gz_iload_n C dX11_sinceOf_32 2 rfl ?_
        refine gz_istore C (lv' := [(4, .int a2), (0, .ref (gz_ad true G 0 0)), (1, .int a1), (2, .int a2), (3, .int a3)]) dX11_sinceOf_33 (by decide) rfl ?_
        refine gz_lv (lv' := [(0, .ref (gz_ad true G 0 0)), (4, .int a2)]) [1, 0] rfl ?_
        refine gz_l1_ind (P := fun v8 σ9 x => gz_W true p l e ({ frames := 3, cells := 0, slots := 0, locals := 68 } : Room) s m args below meth c G 5 (gz_Q true G below args s 0 0 gz_ei) 0 0 σ9 35 [(0, .ref (gz_ad true G 0 0)), (4, .int v8)] [] x) (fun _ _ => gz_none) (fun rec35 hrec35 v8 σ9 => ?_) gz_fu a2 σ7
        unfold f_X11_sinceOf_L35
        refine gz_iload C dX11_sinceOf_35 1 rfl ?_
        refine gz_if_lt (tgt := 56) C dX11_sinceOf_37 (by decide) ?_ ?_
        · skip
          refine gz_iload C dX11_sinceOf_56 1 rfl ?_
          exact gz_iret C rfl dX11_sinceOf_58
        · skip
          refine gz_aload_n C dX11_sinceOf_40 0 rfl ?_
          refine gz_get C (t := 0) (k := 59) (ci := 11) (q := (RX11, TX11, 63)) (v := .ref (gz_ad true G 41 0)) dX11_sinceOf_41 fl_RX11_149 (gz_hm0 _) rfl rfl (by decide) rfl ?_
          refine gz_iload C dX11_sinceOf_44 1 rfl ?_
          refine gz_zald C (t := 41) dX11_sinceOf_46 (gz_hm41 _) rfl (fun n10 hn10 => ?_)
          refine gz_if_ne (tgt := 56) C dX11_sinceOf_47 (by decide) ?_ ?_
          · skip
            refine gz_iload C dX11_sinceOf_56 1 rfl ?_
            exact gz_iret C rfl dX11_sinceOf_58
          · skip
            refine gz_iinc C (q := 1) (v := v8 + (-1)) (lv' := [(4, .int (v8 + (-1))), (0, .ref (gz_ad true G 0 0))]) dX11_sinceOf_50 rfl rfl (by decide) rfl ?_
            refine gz_goto (tgt := 35) C dX11_sinceOf_53 (by decide) ?_
            refine gz_lv (lv' := [(0, .ref (gz_ad true G 0 0)), (4, .int (v8 + (-1)))]) [1, 0] rfl ?_
            exact hrec35 (v8 + (-1)) σ9
      · skip
        refine gz_iconst C dX11_sinceOf_24 gk_iconst_m1 ?_
        exact gz_iret C rfl dX11_sinceOf_25

def f_X11_law (a1 : Int32) (a2 : Int32) (a3 : Int32) (σ : gz_S) : Option (Int32 × gz_S) :=
  gz_w (gz_si σ 0 0 0 0) (fun σ1 =>
  gz_call (f_X11_sinceOf a1 a2 a3 σ1) (fun r3 σ2 =>
  if 0 ≤ r3 then
  (gz_ix r3 10000 (fun n4 =>
  some (σ2.1 39 0 n4, σ2)))
  else
  (some ((-2147483648), σ2))))
set_option maxHeartbeats 4000000 in
set_option maxRecDepth 100000 in
theorem c_X11_law (l : Launch) (G : gz_G) (a1 : Int32) (a2 : Int32) (a3 : Int32) (σ : gz_S) : ∀ o, f_X11_law a1 a2 a3 σ = some o → gz_M l true G yX11_law cX11_law 5 (some .int) { frames := 4, cells := 0, slots := 0, locals := 92 } [.ref (gz_ad true G 0 0), .int a1, .int a2, .int a3] σ (gz_ei o) 0 0 := by
  refine gz_enter RX11 rfl (by decide) (Nat.le_of_ble_eq_true rfl) ?_
  intro p e s m args below meth c C
  refine gz_eqs (st' := []) (lv' := [(0, .ref (gz_ad true G 0 0)), (1, .int a1), (2, .int a2), (3, .int a3)]) rfl rfl ?_
  unfold f_X11_law
  refine gz_aload_n C dX11_law_0 0 rfl ?_
  refine gz_iconst C dX11_law_1 gk_iconst_0 ?_
  refine gz_putI C (t := 0) (k := 0) (ci := 11) (q := (RX11, TX11, 63)) dX11_law_2 fl_RX11_158 (gz_hm0 _) rfl rfl (by decide) rfl rfl rfl rfl ?_
  refine gz_w_row (fun σ1 => ?_)
  refine gz_aload_n C dX11_law_5 0 rfl ?_
  refine gz_iload_n C dX11_law_6 1 rfl ?_
  refine gz_iload_n C dX11_law_7 2 rfl ?_
  refine gz_iload_n C dX11_law_8 3 rfl ?_
  refine gz_ki (gz_runV (t := 0) (ci := 11) (q := (RX11, TX11, 63)) (As := [.int a1, .int a2, .int a3]) (rest := []) C dX11_law_9 ml_RX11_378 mw_X11_sinceOf mv_X11_sinceOf (c_X11_sinceOf l G a1 a2 a3 σ1) (gz_hm0 _) rfl rfl rfl rfl rfl (Nat.le_of_ble_eq_true rfl) ⟨rfl, rfl, Nat.le_of_ble_eq_true rfl, Nat.le_of_ble_eq_true rfl, Nat.le_of_ble_eq_true rfl, Nat.le_of_ble_eq_true rfl⟩) (fun r3 σ2 => ?_)
  refine gz_istore C (lv' := [(4, .int r3), (0, .ref (gz_ad true G 0 0)), (1, .int a1), (2, .int a2), (3, .int a3)]) dX11_law_12 (by decide) rfl ?_
  refine gz_iload C dX11_law_14 0 rfl ?_
  refine gz_if_ge (tgt := 25) C dX11_law_16 (by decide) ?_ ?_
  · skip
    refine gz_aload_n C dX11_law_25 1 rfl ?_
    refine gz_get C (t := 0) (k := 57) (ci := 11) (q := (RX11, TX11, 63)) (v := .ref (gz_ad true G 39 0)) dX11_law_26 fl_RX11_143 (gz_hm0 _) rfl rfl (by decide) rfl ?_
    refine gz_iload C dX11_law_29 0 rfl ?_
    refine gz_iald C (t := 39) dX11_law_31 (gz_hm39 _) rfl (fun n4 hn4 => ?_)
    exact gz_iret C rfl dX11_law_32
  · skip
    refine gz_ldcw C dX11_law_19 cw_RX11_336 ?_
    refine gz_goto (tgt := 32) C dX11_law_22 (by decide) ?_
    exact gz_iret C rfl dX11_law_32

def f_X11_source (a1 : Int32) (a2 : Int32) (a3 : Int32) (σ : gz_S) : Option (Int32 × gz_S) :=
  gz_w (gz_si σ 0 0 0 0) (fun σ1 =>
  gz_call (f_X11_sinceOf a1 a2 a3 σ1) (fun r3 σ2 =>
  if 0 ≤ r3 then
  (gz_ix r3 10000 (fun n4 =>
  some (σ2.1 40 0 n4, σ2)))
  else
  (some ((-1), σ2))))
set_option maxHeartbeats 4000000 in
set_option maxRecDepth 100000 in
theorem c_X11_source (l : Launch) (G : gz_G) (a1 : Int32) (a2 : Int32) (a3 : Int32) (σ : gz_S) : ∀ o, f_X11_source a1 a2 a3 σ = some o → gz_M l true G yX11_source cX11_source 5 (some .int) { frames := 4, cells := 0, slots := 0, locals := 92 } [.ref (gz_ad true G 0 0), .int a1, .int a2, .int a3] σ (gz_ei o) 0 0 := by
  refine gz_enter RX11 rfl (by decide) (Nat.le_of_ble_eq_true rfl) ?_
  intro p e s m args below meth c C
  refine gz_eqs (st' := []) (lv' := [(0, .ref (gz_ad true G 0 0)), (1, .int a1), (2, .int a2), (3, .int a3)]) rfl rfl ?_
  unfold f_X11_source
  refine gz_aload_n C dX11_source_0 0 rfl ?_
  refine gz_iconst C dX11_source_1 gk_iconst_0 ?_
  refine gz_putI C (t := 0) (k := 0) (ci := 11) (q := (RX11, TX11, 63)) dX11_source_2 fl_RX11_158 (gz_hm0 _) rfl rfl (by decide) rfl rfl rfl rfl ?_
  refine gz_w_row (fun σ1 => ?_)
  refine gz_aload_n C dX11_source_5 0 rfl ?_
  refine gz_iload_n C dX11_source_6 1 rfl ?_
  refine gz_iload_n C dX11_source_7 2 rfl ?_
  refine gz_iload_n C dX11_source_8 3 rfl ?_
  refine gz_ki (gz_runV (t := 0) (ci := 11) (q := (RX11, TX11, 63)) (As := [.int a1, .int a2, .int a3]) (rest := []) C dX11_source_9 ml_RX11_378 mw_X11_sinceOf mv_X11_sinceOf (c_X11_sinceOf l G a1 a2 a3 σ1) (gz_hm0 _) rfl rfl rfl rfl rfl (Nat.le_of_ble_eq_true rfl) ⟨rfl, rfl, Nat.le_of_ble_eq_true rfl, Nat.le_of_ble_eq_true rfl, Nat.le_of_ble_eq_true rfl, Nat.le_of_ble_eq_true rfl⟩) (fun r3 σ2 => ?_)
  refine gz_istore C (lv' := [(4, .int r3), (0, .ref (gz_ad true G 0 0)), (1, .int a1), (2, .int a2), (3, .int a3)]) dX11_source_12 (by decide) rfl ?_
  refine gz_iload C dX11_source_14 0 rfl ?_
  refine gz_if_ge (tgt := 23) C dX11_source_16 (by decide) ?_ ?_
  · skip
    refine gz_aload_n C dX11_source_23 1 rfl ?_
    refine gz_get C (t := 0) (k := 58) (ci := 11) (q := (RX11, TX11, 63)) (v := .ref (gz_ad true G 40 0)) dX11_source_24 fl_RX11_146 (gz_hm0 _) rfl rfl (by decide) rfl ?_
    refine gz_iload C dX11_source_27 0 rfl ?_
    refine gz_iald C (t := 40) dX11_source_29 (gz_hm40 _) rfl (fun n4 hn4 => ?_)
    exact gz_iret C rfl dX11_source_30
  · skip
    refine gz_iconst C dX11_source_19 gk_iconst_m1 ?_
    refine gz_goto (tgt := 30) C dX11_source_20 (by decide) ?_
    exact gz_iret C rfl dX11_source_30

def f_X11_isVoid (a1 : Int32) (a2 : Int32) (σ : gz_S) : Option (Int32 × gz_S) :=
  gz_w (gz_si σ 0 0 0 0) (fun σ1 =>
  gz_call (f_X11_isNotice a1 σ1) (fun r3 σ2 =>
  if r3 = 0 then
  (some ((-1), σ2))
  else
  (gz_call (f_X11_isDay a2 σ2) (fun r5 σ4 =>
  if r5 = 0 then
  (some ((-1), σ4))
  else
  (gz_call (f_X11_isKnown a1 a2 σ4) (fun r7 σ6 =>
  if r7 = 0 then
  (some ((-1), σ6))
  else
  (gz_then (f_X11_voids a2 σ6) (fun σ8 =>
  gz_ix a1 60 (fun n9 =>
  if (σ8.1 38 0 n9) = 0 then
  (some (0, σ8))
  else
  (some (1, σ8)))))))))))
set_option maxHeartbeats 4000000 in
set_option maxRecDepth 100000 in
theorem c_X11_isVoid (l : Launch) (G : gz_G) (a1 : Int32) (a2 : Int32) (σ : gz_S) : ∀ o, f_X11_isVoid a1 a2 σ = some o → gz_M l true G yX11_isVoid cX11_isVoid 3 (some .int) { frames := 2, cells := 0, slots := 0, locals := 44 } [.ref (gz_ad true G 0 0), .int a1, .int a2] σ (gz_ei o) 0 0 := by
  refine gz_enter RX11 rfl (by decide) (Nat.le_of_ble_eq_true rfl) ?_
  intro p e s m args below meth c C
  refine gz_eqs (st' := []) (lv' := [(0, .ref (gz_ad true G 0 0)), (1, .int a1), (2, .int a2)]) rfl rfl ?_
  unfold f_X11_isVoid
  refine gz_aload_n C dX11_isVoid_0 0 rfl ?_
  refine gz_iconst C dX11_isVoid_1 gk_iconst_0 ?_
  refine gz_putI C (t := 0) (k := 0) (ci := 11) (q := (RX11, TX11, 63)) dX11_isVoid_2 fl_RX11_158 (gz_hm0 _) rfl rfl (by decide) rfl rfl rfl rfl ?_
  refine gz_w_row (fun σ1 => ?_)
  refine gz_aload_n C dX11_isVoid_5 0 rfl ?_
  refine gz_iload_n C dX11_isVoid_6 1 rfl ?_
  refine gz_ki (gz_runV (t := 0) (ci := 11) (q := (RX11, TX11, 63)) (As := [.int a1]) (rest := []) C dX11_isVoid_7 ml_RX11_328 mw_X11_isNotice mv_X11_isNotice (c_X11_isNotice l G a1 σ1) (gz_hm0 _) rfl rfl rfl rfl rfl (Nat.le_of_ble_eq_true rfl) ⟨rfl, rfl, Nat.le_of_ble_eq_true rfl, Nat.le_of_ble_eq_true rfl, Nat.le_of_ble_eq_true rfl, Nat.le_of_ble_eq_true rfl⟩) (fun r3 σ2 => ?_)
  refine gz_if_eq (tgt := 29) C dX11_isVoid_10 (by decide) ?_ ?_
  · skip
    refine gz_iconst C dX11_isVoid_29 gk_iconst_m1 ?_
    exact gz_iret C rfl dX11_isVoid_30
  · skip
    refine gz_iload_n C dX11_isVoid_13 2 rfl ?_
    refine gz_ki (gz_runS (As := [.int a2]) (rest := []) C dX11_isVoid_14 ml_RX11_176 mw_X11_isDay ms_X11_isDay (c_X11_isDay l G a2 σ2) rfl rfl (Nat.le_of_ble_eq_true rfl) ⟨rfl, rfl, Nat.le_of_ble_eq_true rfl, Nat.le_of_ble_eq_true rfl, Nat.le_of_ble_eq_true rfl, Nat.le_of_ble_eq_true rfl⟩) (fun r5 σ4 => ?_)
    refine gz_if_eq (tgt := 29) C dX11_isVoid_17 (by decide) ?_ ?_
    · skip
      refine gz_iconst C dX11_isVoid_29 gk_iconst_m1 ?_
      exact gz_iret C rfl dX11_isVoid_30
    · skip
      refine gz_aload_n C dX11_isVoid_20 0 rfl ?_
      refine gz_iload_n C dX11_isVoid_21 1 rfl ?_
      refine gz_iload_n C dX11_isVoid_22 2 rfl ?_
      refine gz_ki (gz_runV (t := 0) (ci := 11) (q := (RX11, TX11, 63)) (As := [.int a1, .int a2]) (rest := []) C dX11_isVoid_23 ml_RX11_368 mw_X11_isKnown mv_X11_isKnown (c_X11_isKnown l G a1 a2 σ4) (gz_hm0 _) rfl rfl rfl rfl rfl (Nat.le_of_ble_eq_true rfl) ⟨rfl, rfl, Nat.le_of_ble_eq_true rfl, Nat.le_of_ble_eq_true rfl, Nat.le_of_ble_eq_true rfl, Nat.le_of_ble_eq_true rfl⟩) (fun r7 σ6 => ?_)
      refine gz_if_ne (tgt := 31) C dX11_isVoid_26 (by decide) ?_ ?_
      · skip
        refine gz_aload_n C dX11_isVoid_31 0 rfl ?_
        refine gz_iload_n C dX11_isVoid_32 2 rfl ?_
        refine gz_kv (gz_runV (t := 0) (ci := 11) (q := (RX11, TX11, 63)) (As := [.int a2]) (rest := []) C dX11_isVoid_33 ml_RX11_372 mw_X11_voids mv_X11_voids (c_X11_voids l G a2 σ6) (gz_hm0 _) rfl rfl rfl rfl rfl (Nat.le_of_ble_eq_true rfl) ⟨rfl, rfl, Nat.le_of_ble_eq_true rfl, Nat.le_of_ble_eq_true rfl, Nat.le_of_ble_eq_true rfl, Nat.le_of_ble_eq_true rfl⟩) (fun σ8 => ?_)
        refine gz_aload_n C dX11_isVoid_36 0 rfl ?_
        refine gz_get C (t := 0) (k := 56) (ci := 11) (q := (RX11, TX11, 63)) (v := .ref (gz_ad true G 38 0)) dX11_isVoid_37 fl_RX11_140 (gz_hm0 _) rfl rfl (by decide) rfl ?_
        refine gz_iload_n C dX11_isVoid_40 1 rfl ?_
        refine gz_zald C (t := 38) dX11_isVoid_41 (gz_hm38 _) rfl (fun n9 hn9 => ?_)
        refine gz_if_eq (tgt := 49) C dX11_isVoid_42 (by decide) ?_ ?_
        · skip
          refine gz_iconst C dX11_isVoid_49 gk_iconst_0 ?_
          exact gz_iret C rfl dX11_isVoid_50
        · skip
          refine gz_iconst C dX11_isVoid_45 gk_iconst_1 ?_
          refine gz_goto (tgt := 50) C dX11_isVoid_46 (by decide) ?_
          exact gz_iret C rfl dX11_isVoid_50
      · skip
        refine gz_iconst C dX11_isVoid_29 gk_iconst_m1 ?_
        exact gz_iret C rfl dX11_isVoid_30

def f_X11_changes_J83 (v9 : Int32) (rec40 : Int32 → Int32 → Int32 → gz_S → Option (Int32 × gz_S)) : Int32 → Int32 → gz_S → Option (Int32 × gz_S) := fun v12 v13 σ14 =>
  rec40 v12 v13 (v9 + 1) σ14
def f_X11_changes_L40 : (Int32 → Int32 → Int32 → gz_S → Option (Int32 × gz_S)) → Int32 → Int32 → Int32 → gz_S → Option (Int32 × gz_S) := fun rec40 v7 v8 v9 σ10 =>
  if 10000 ≤ v9 then
  (some (v8, σ10))
  else
  (gz_ix v9 10000 (fun n11 =>
  gz_j2 (f_X11_changes_J83 v9 rec40) (fun j83 =>
  if (σ10.1 41 0 n11) = 0 then
  (j83 v7 v8 σ10)
  else
  (gz_ix v9 10000 (fun n15 =>
  if (σ10.1 39 0 n15) = v7 then
  (j83 v7 v8 σ10)
  else
  (gz_ix v9 10000 (fun n16 =>
  gz_v (σ10.1 39 0 n16) (fun v17 =>
  j83 v17 (v8 + 1) σ10))))))))
def f_X11_changes (a1 : Int32) (a2 : Int32) (σ : gz_S) : Option (Int32 × gz_S) :=
  gz_w (gz_si σ 0 0 0 0) (fun σ1 =>
  gz_call (f_X11_in a1 0 39 σ1) (fun r3 σ2 =>
  if r3 = 0 then
  (some ((-1), σ2))
  else
  (gz_call (f_X11_isDay a2 σ2) (fun r5 σ4 =>
  if r5 = 0 then
  (some ((-1), σ4))
  else
  (gz_then (f_X11_lay a1 a2 σ4) (fun σ6 =>
  gz_l3 (f_X11_changes_L40) gz_fu (-2147483648) 0 0 σ6))))))
set_option maxHeartbeats 4000000 in
set_option maxRecDepth 100000 in
theorem c_X11_changes (l : Launch) (G : gz_G) (a1 : Int32) (a2 : Int32) (σ : gz_S) : ∀ o, f_X11_changes a1 a2 σ = some o → gz_M l true G yX11_changes cX11_changes 6 (some .int) { frames := 3, cells := 0, slots := 0, locals := 68 } [.ref (gz_ad true G 0 0), .int a1, .int a2] σ (gz_ei o) 0 0 := by
  refine gz_enter RX11 rfl (by decide) (Nat.le_of_ble_eq_true rfl) ?_
  intro p e s m args below meth c C
  refine gz_eqs (st' := []) (lv' := [(0, .ref (gz_ad true G 0 0)), (1, .int a1), (2, .int a2)]) rfl rfl ?_
  unfold f_X11_changes
  refine gz_aload_n C dX11_changes_0 0 rfl ?_
  refine gz_iconst C dX11_changes_1 gk_iconst_0 ?_
  refine gz_putI C (t := 0) (k := 0) (ci := 11) (q := (RX11, TX11, 63)) dX11_changes_2 fl_RX11_158 (gz_hm0 _) rfl rfl (by decide) rfl rfl rfl rfl ?_
  refine gz_w_row (fun σ1 => ?_)
  refine gz_iload_n C dX11_changes_5 1 rfl ?_
  refine gz_iconst C dX11_changes_6 gk_iconst_0 ?_
  refine gz_bipush C dX11_changes_7 gk_bipush_39 ?_
  refine gz_ki (gz_runS (As := [.int a1, .int 0, .int 39]) (rest := []) C dX11_changes_9 ml_RX11_203 mw_X11_in ms_X11_in (c_X11_in l G a1 0 39 σ1) rfl rfl (Nat.le_of_ble_eq_true rfl) ⟨rfl, rfl, Nat.le_of_ble_eq_true rfl, Nat.le_of_ble_eq_true rfl, Nat.le_of_ble_eq_true rfl, Nat.le_of_ble_eq_true rfl⟩) (fun r3 σ2 => ?_)
  refine gz_if_eq (tgt := 22) C dX11_changes_12 (by decide) ?_ ?_
  · skip
    refine gz_iconst C dX11_changes_22 gk_iconst_m1 ?_
    exact gz_iret C rfl dX11_changes_23
  · skip
    refine gz_iload_n C dX11_changes_15 2 rfl ?_
    refine gz_ki (gz_runS (As := [.int a2]) (rest := []) C dX11_changes_16 ml_RX11_176 mw_X11_isDay ms_X11_isDay (c_X11_isDay l G a2 σ2) rfl rfl (Nat.le_of_ble_eq_true rfl) ⟨rfl, rfl, Nat.le_of_ble_eq_true rfl, Nat.le_of_ble_eq_true rfl, Nat.le_of_ble_eq_true rfl, Nat.le_of_ble_eq_true rfl⟩) (fun r5 σ4 => ?_)
    refine gz_if_ne (tgt := 24) C dX11_changes_19 (by decide) ?_ ?_
    · skip
      refine gz_aload_n C dX11_changes_24 0 rfl ?_
      refine gz_iload_n C dX11_changes_25 1 rfl ?_
      refine gz_iload_n C dX11_changes_26 2 rfl ?_
      refine gz_kv (gz_runV (t := 0) (ci := 11) (q := (RX11, TX11, 63)) (As := [.int a1, .int a2]) (rest := []) C dX11_changes_27 ml_RX11_375 mw_X11_lay mv_X11_lay (c_X11_lay l G a1 a2 σ4) (gz_hm0 _) rfl rfl rfl rfl rfl (Nat.le_of_ble_eq_true rfl) ⟨rfl, rfl, Nat.le_of_ble_eq_true rfl, Nat.le_of_ble_eq_true rfl, Nat.le_of_ble_eq_true rfl, Nat.le_of_ble_eq_true rfl⟩) (fun σ6 => ?_)
      refine gz_ldcw C dX11_changes_30 cw_RX11_336 ?_
      refine gz_istore_n C (lv' := [(3, .int (-2147483648)), (0, .ref (gz_ad true G 0 0)), (1, .int a1), (2, .int a2)]) dX11_changes_33 (by decide) rfl ?_
      refine gz_iconst C dX11_changes_34 gk_iconst_0 ?_
      refine gz_istore C (lv' := [(4, .int 0), (3, .int (-2147483648)), (0, .ref (gz_ad true G 0 0)), (1, .int a1), (2, .int a2)]) dX11_changes_35 (by decide) rfl ?_
      refine gz_iconst C dX11_changes_37 gk_iconst_0 ?_
      refine gz_istore C (lv' := [(5, .int 0), (4, .int 0), (3, .int (-2147483648)), (0, .ref (gz_ad true G 0 0)), (1, .int a1), (2, .int a2)]) dX11_changes_38 (by decide) rfl ?_
      refine gz_lv (lv' := [(0, .ref (gz_ad true G 0 0)), (3, .int (-2147483648)), (4, .int 0), (5, .int 0)]) [3, 2, 1, 0] rfl ?_
      refine gz_l3_ind (P := fun v7 v8 v9 σ10 x => gz_W true p l e ({ frames := 3, cells := 0, slots := 0, locals := 68 } : Room) s m args below meth c G 6 (gz_Q true G below args s 0 0 gz_ei) 0 0 σ10 40 [(0, .ref (gz_ad true G 0 0)), (3, .int v7), (4, .int v8), (5, .int v9)] [] x) (fun _ _ _ _ => gz_none) (fun rec40 hrec40 v7 v8 v9 σ10 => ?_) gz_fu (-2147483648) 0 0 σ6
      unfold f_X11_changes_L40
      refine gz_iload C dX11_changes_40 3 rfl ?_
      refine gz_sipush C dX11_changes_42 gk_sipush_10000 ?_
      refine gz_icmp_ge (tgt := 89) C dX11_changes_45 (by decide) ?_ ?_
      · skip
        refine gz_iload C dX11_changes_89 2 rfl ?_
        exact gz_iret C rfl dX11_changes_91
      · skip
        refine gz_aload_n C dX11_changes_48 0 rfl ?_
        refine gz_get C (t := 0) (k := 59) (ci := 11) (q := (RX11, TX11, 63)) (v := .ref (gz_ad true G 41 0)) dX11_changes_49 fl_RX11_149 (gz_hm0 _) rfl rfl (by decide) rfl ?_
        refine gz_iload C dX11_changes_52 3 rfl ?_
        refine gz_zald C (t := 41) dX11_changes_54 (gz_hm41 _) rfl (fun n11 hn11 => ?_)
        refine gz_j2_row (P := fun v12 v13 σ14 x => gz_W true p l e ({ frames := 3, cells := 0, slots := 0, locals := 68 } : Room) s m args below meth c G 6 (gz_Q true G below args s 0 0 gz_ei) 0 0 σ14 83 [(0, .ref (gz_ad true G 0 0)), (3, .int v12), (4, .int v13), (5, .int v9)] [] x) (fun v12 v13 σ14 => ?_) (fun j83 hj83 => ?_)
        · unfold f_X11_changes_J83
          refine gz_iinc C (q := 3) (v := v9 + 1) (lv' := [(5, .int (v9 + 1)), (0, .ref (gz_ad true G 0 0)), (3, .int v12), (4, .int v13)]) dX11_changes_83 rfl rfl (by decide) rfl ?_
          refine gz_goto (tgt := 40) C dX11_changes_86 (by decide) ?_
          refine gz_lv (lv' := [(0, .ref (gz_ad true G 0 0)), (3, .int v12), (4, .int v13), (5, .int (v9 + 1))]) [1, 2, 3, 0] rfl ?_
          exact hrec40 v12 v13 (v9 + 1) σ14
        · skip
          refine gz_if_eq (tgt := 83) C dX11_changes_55 (by decide) ?_ ?_
          · skip
            exact hj83 v7 v8 σ10
          · skip
            refine gz_aload_n C dX11_changes_58 0 rfl ?_
            refine gz_get C (t := 0) (k := 57) (ci := 11) (q := (RX11, TX11, 63)) (v := .ref (gz_ad true G 39 0)) dX11_changes_59 fl_RX11_143 (gz_hm0 _) rfl rfl (by decide) rfl ?_
            refine gz_iload C dX11_changes_62 3 rfl ?_
            refine gz_iald C (t := 39) dX11_changes_64 (gz_hm39 _) rfl (fun n15 hn15 => ?_)
            refine gz_iload_n C dX11_changes_65 1 rfl ?_
            refine gz_icmp_ne (tgt := 72) C dX11_changes_66 (by decide) ?_ ?_
            · skip
              refine gz_aload_n C dX11_changes_72 0 rfl ?_
              refine gz_get C (t := 0) (k := 57) (ci := 11) (q := (RX11, TX11, 63)) (v := .ref (gz_ad true G 39 0)) dX11_changes_73 fl_RX11_143 (gz_hm0 _) rfl rfl (by decide) rfl ?_
              refine gz_iload C dX11_changes_76 3 rfl ?_
              refine gz_iald C (t := 39) dX11_changes_78 (gz_hm39 _) rfl (fun n16 hn16 => ?_)
              refine gz_topI (fun v17 => ?_)
              refine gz_istore_n C (lv' := [(3, .int v17), (0, .ref (gz_ad true G 0 0)), (4, .int v8), (5, .int v9)]) dX11_changes_79 (by decide) rfl ?_
              refine gz_iinc C (q := 2) (v := v8 + 1) (lv' := [(4, .int (v8 + 1)), (3, .int v17), (0, .ref (gz_ad true G 0 0)), (5, .int v9)]) dX11_changes_80 rfl rfl (by decide) rfl ?_
              refine gz_lv (lv' := [(0, .ref (gz_ad true G 0 0)), (3, .int v17), (4, .int (v8 + 1)), (5, .int v9)]) [2, 1, 0, 3] rfl ?_
              exact hj83 v17 (v8 + 1) σ10
            · skip
              refine gz_goto (tgt := 83) C dX11_changes_69 (by decide) ?_
              exact hj83 v7 v8 σ10
    · skip
      refine gz_iconst C dX11_changes_22 gk_iconst_m1 ?_
      exact gz_iret C rfl dX11_changes_23

def f_X11_isNamed_J108 (v2 : Int32) (rec5 : Int32 → Int32 → gz_S → Option (Int32 × gz_S)) : Int32 → gz_S → Option (Int32 × gz_S) := fun v8 σ9 =>
  rec5 v8 (v2 + 1) σ9
def f_X11_isNamed_J101 (v12 : Int32) (rec63 : Int32 → Int32 → gz_S → Option (Int32 × gz_S)) : Int32 → gz_S → Option (Int32 × gz_S) := fun x14 σ15 =>
  rec63 x14 (v12 + 1) σ15
def f_X11_isNamed_J96 (j101 : Int32 → gz_S → Option (Int32 × gz_S)) : gz_S → Option (Int32 × gz_S) := fun σ16 =>
  j101 1 σ16
def f_X11_isNamed_L63 (a2 : Int32) (a1 : Int32) (v2 : Int32) (j108 : Int32 → gz_S → Option (Int32 × gz_S)) : (Int32 → Int32 → gz_S → Option (Int32 × gz_S)) → Int32 → Int32 → gz_S → Option (Int32 × gz_S) := fun rec63 v11 v12 σ13 =>
  if a2 ≤ v12 then
  (j108 v11 σ13)
  else
  (gz_j1 (f_X11_isNamed_J101 v12 rec63) (fun j101 =>
  gz_j0 (f_X11_isNamed_J96 j101) (fun j96 =>
  if v11 = 0 then
  (gz_ix ((8 * a1) + v2) 488 (fun n17 =>
  gz_ix v12 61 (fun n18 =>
  if (lg_cmp (σ13.2.1 21 0 n17) (σ13.2.1 42 0 n18)) = 0 then
  (j96 σ13)
  else
  (j101 0 σ13))))
  else
  (j96 σ13))))
def f_X11_isNamed_L5 (a1 : Int32) (a2 : Int32) : (Int32 → Int32 → gz_S → Option (Int32 × gz_S)) → Int32 → Int32 → gz_S → Option (Int32 × gz_S) := fun rec5 v1 v2 σ3 =>
  gz_ix a1 61 (fun n4 =>
  gz_ix (σ3.1 15 0 n4) 13 (fun n5 =>
  if (σ3.1 8 0 n5) ≤ v2 then
  (some (v1 &&& 1, σ3))
  else
  (gz_ix a1 61 (fun n6 =>
  gz_ix ((8 * (σ3.1 15 0 n6)) + v2) 104 (fun n7 =>
  gz_j1 (f_X11_isNamed_J108 v2 rec5) (fun j108 =>
  if (σ3.1 9 0 n7) = 2 then
  (gz_ix ((8 * a1) + v2) 488 (fun n10 =>
  if (σ3.1 25 0 n10) = 0 then
  (j108 v1 σ3)
  else
  (gz_l2 (f_X11_isNamed_L63 a2 a1 v2 j108) gz_fu v1 0 σ3)))
  else
  (j108 v1 σ3)))))))
def f_X11_isNamed (a1 : Int32) (a2 : Int32) (σ : gz_S) : Option (Int32 × gz_S) :=
  gz_l2 (f_X11_isNamed_L5 a1 a2) gz_fu 0 0 σ
set_option maxHeartbeats 4000000 in
set_option maxRecDepth 100000 in
theorem c_X11_isNamed (l : Launch) (G : gz_G) (a1 : Int32) (a2 : Int32) (σ : gz_S) : ∀ o, f_X11_isNamed a1 a2 σ = some o → gz_M l true G yX11_isNamed cX11_isNamed 6 (some .boolean) { frames := 0, cells := 0, slots := 0, locals := 0 } [.ref (gz_ad true G 0 0), .int a1, .int a2] σ (gz_ei o) 0 0 := by
  refine gz_enter RX11 rfl (by decide) (Nat.le_of_ble_eq_true rfl) ?_
  intro p e s m args below meth c C
  refine gz_eqs (st' := []) (lv' := [(0, .ref (gz_ad true G 0 0)), (1, .int a1), (2, .int a2)]) rfl rfl ?_
  unfold f_X11_isNamed
  refine gz_iconst C dX11_isNamed_0 gk_iconst_0 ?_
  refine gz_istore_n C (lv' := [(3, .int 0), (0, .ref (gz_ad true G 0 0)), (1, .int a1), (2, .int a2)]) dX11_isNamed_1 (by decide) rfl ?_
  refine gz_iconst C dX11_isNamed_2 gk_iconst_0 ?_
  refine gz_istore C (lv' := [(4, .int 0), (3, .int 0), (0, .ref (gz_ad true G 0 0)), (1, .int a1), (2, .int a2)]) dX11_isNamed_3 (by decide) rfl ?_
  refine gz_lv (lv' := [(0, .ref (gz_ad true G 0 0)), (1, .int a1), (2, .int a2), (3, .int 0), (4, .int 0)]) [2, 3, 4, 1, 0] rfl ?_
  refine gz_l2_ind (P := fun v1 v2 σ3 x => gz_W true p l e ({ frames := 0, cells := 0, slots := 0, locals := 0 } : Room) s m args below meth c G 6 (gz_Q true G below args s 0 0 gz_ei) 0 0 σ3 5 [(0, .ref (gz_ad true G 0 0)), (1, .int a1), (2, .int a2), (3, .int v1), (4, .int v2)] [] x) (fun _ _ _ => gz_none) (fun rec5 hrec5 v1 v2 σ3 => ?_) gz_fu 0 0 σ
  unfold f_X11_isNamed_L5
  refine gz_iload C dX11_isNamed_5 4 rfl ?_
  refine gz_aload_n C dX11_isNamed_7 0 rfl ?_
  refine gz_get C (t := 0) (k := 22) (ci := 11) (q := (RX11, TX11, 63)) (v := .ref (gz_ad true G 8 0)) dX11_isNamed_8 fl_RX11_47 (gz_hm0 _) rfl rfl (by decide) rfl ?_
  refine gz_aload_n C dX11_isNamed_11 0 rfl ?_
  refine gz_get C (t := 0) (k := 32) (ci := 11) (q := (RX11, TX11, 63)) (v := .ref (gz_ad true G 15 0)) dX11_isNamed_12 fl_RX11_71 (gz_hm0 _) rfl rfl (by decide) rfl ?_
  refine gz_iload_n C dX11_isNamed_15 1 rfl ?_
  refine gz_iald C (t := 15) dX11_isNamed_16 (gz_hm15 _) rfl (fun n4 hn4 => ?_)
  refine gz_iald C (t := 8) dX11_isNamed_17 (gz_hm8 _) rfl (fun n5 hn5 => ?_)
  refine gz_icmp_ge (tgt := 114) C dX11_isNamed_18 (by decide) ?_ ?_
  · skip
    refine gz_iload_n C dX11_isNamed_114 3 rfl ?_
    exact gz_zret C rfl dX11_isNamed_115
  · skip
    refine gz_aload_n C dX11_isNamed_21 0 rfl ?_
    refine gz_get C (t := 0) (k := 23) (ci := 11) (q := (RX11, TX11, 63)) (v := .ref (gz_ad true G 9 0)) dX11_isNamed_22 fl_RX11_50 (gz_hm0 _) rfl rfl (by decide) rfl ?_
    refine gz_bipush C dX11_isNamed_25 gk_bipush_8 ?_
    refine gz_aload_n C dX11_isNamed_27 0 rfl ?_
    refine gz_get C (t := 0) (k := 32) (ci := 11) (q := (RX11, TX11, 63)) (v := .ref (gz_ad true G 15 0)) dX11_isNamed_28 fl_RX11_71 (gz_hm0 _) rfl rfl (by decide) rfl ?_
    refine gz_iload_n C dX11_isNamed_31 1 rfl ?_
    refine gz_iald C (t := 15) dX11_isNamed_32 (gz_hm15 _) rfl (fun n6 hn6 => ?_)
    refine gz_imul C dX11_isNamed_33 ?_
    refine gz_iload C dX11_isNamed_34 4 rfl ?_
    refine gz_iadd C dX11_isNamed_36 ?_
    refine gz_iald C (t := 9) dX11_isNamed_37 (gz_hm9 _) rfl (fun n7 hn7 => ?_)
    refine gz_iconst C dX11_isNamed_38 gk_iconst_2 ?_
    refine gz_j1_row (P := fun v8 σ9 x => gz_W true p l e ({ frames := 0, cells := 0, slots := 0, locals := 0 } : Room) s m args below meth c G 6 (gz_Q true G below args s 0 0 gz_ei) 0 0 σ9 108 [(0, .ref (gz_ad true G 0 0)), (1, .int a1), (2, .int a2), (3, .int v8), (4, .int v2)] [] x) (fun v8 σ9 => ?_) (fun j108 hj108 => ?_)
    · unfold f_X11_isNamed_J108
      refine gz_iinc C (q := 4) (v := v2 + 1) (lv' := [(4, .int (v2 + 1)), (0, .ref (gz_ad true G 0 0)), (1, .int a1), (2, .int a2), (3, .int v8)]) dX11_isNamed_108 rfl rfl (by decide) rfl ?_
      refine gz_goto (tgt := 5) C dX11_isNamed_111 (by decide) ?_
      refine gz_lv (lv' := [(0, .ref (gz_ad true G 0 0)), (1, .int a1), (2, .int a2), (3, .int v8), (4, .int (v2 + 1))]) [1, 2, 3, 4, 0] rfl ?_
      exact hrec5 v8 (v2 + 1) σ9
    · skip
      refine gz_icmp_ne (tgt := 108) C dX11_isNamed_39 (by decide) ?_ ?_
      · skip
        exact hj108 v1 σ3
      · skip
        refine gz_aload_n C dX11_isNamed_42 0 rfl ?_
        refine gz_get C (t := 0) (k := 42) (ci := 11) (q := (RX11, TX11, 63)) (v := .ref (gz_ad true G 25 0)) dX11_isNamed_43 fl_RX11_101 (gz_hm0 _) rfl rfl (by decide) rfl ?_
        refine gz_bipush C dX11_isNamed_46 gk_bipush_8 ?_
        refine gz_iload_n C dX11_isNamed_48 1 rfl ?_
        refine gz_imul C dX11_isNamed_49 ?_
        refine gz_iload C dX11_isNamed_50 4 rfl ?_
        refine gz_iadd C dX11_isNamed_52 ?_
        refine gz_zald C (t := 25) dX11_isNamed_53 (gz_hm25 _) rfl (fun n10 hn10 => ?_)
        refine gz_if_ne (tgt := 60) C dX11_isNamed_54 (by decide) ?_ ?_
        · skip
          refine gz_iconst C dX11_isNamed_60 gk_iconst_0 ?_
          refine gz_istore C (lv' := [(5, .int 0), (0, .ref (gz_ad true G 0 0)), (1, .int a1), (2, .int a2), (3, .int v1), (4, .int v2)]) dX11_isNamed_61 (by decide) rfl ?_
          refine gz_lv (lv' := [(0, .ref (gz_ad true G 0 0)), (1, .int a1), (2, .int a2), (3, .int v1), (4, .int v2), (5, .int 0)]) [1, 2, 3, 4, 5, 0] rfl ?_
          refine gz_l2_ind (P := fun v11 v12 σ13 x => gz_W true p l e ({ frames := 0, cells := 0, slots := 0, locals := 0 } : Room) s m args below meth c G 6 (gz_Q true G below args s 0 0 gz_ei) 0 0 σ13 63 [(0, .ref (gz_ad true G 0 0)), (1, .int a1), (2, .int a2), (3, .int v11), (4, .int v2), (5, .int v12)] [] x) (fun _ _ _ => gz_none) (fun rec63 hrec63 v11 v12 σ13 => ?_) gz_fu v1 0 σ3
          unfold f_X11_isNamed_L63
          refine gz_iload C dX11_isNamed_63 5 rfl ?_
          refine gz_iload_n C dX11_isNamed_65 2 rfl ?_
          refine gz_icmp_ge (tgt := 108) C dX11_isNamed_66 (by decide) ?_ ?_
          · skip
            refine gz_lv (lv' := [(0, .ref (gz_ad true G 0 0)), (1, .int a1), (2, .int a2), (3, .int v11), (4, .int v2)]) [0, 1, 2, 3, 4] rfl ?_
            exact hj108 v11 σ13
          · skip
            refine gz_iload_n C dX11_isNamed_69 3 rfl ?_
            refine gz_j1_row (P := fun x14 σ15 x => gz_W true p l e ({ frames := 0, cells := 0, slots := 0, locals := 0 } : Room) s m args below meth c G 6 (gz_Q true G below args s 0 0 gz_ei) 0 0 σ15 101 [(0, .ref (gz_ad true G 0 0)), (1, .int a1), (2, .int a2), (4, .int v2), (5, .int v12)] [.int x14] x) (fun x14 σ15 => ?_) (fun j101 hj101 => ?_)
            · unfold f_X11_isNamed_J101
              refine gz_istore_n C (lv' := [(3, .int x14), (0, .ref (gz_ad true G 0 0)), (1, .int a1), (2, .int a2), (4, .int v2), (5, .int v12)]) dX11_isNamed_101 (by decide) rfl ?_
              refine gz_iinc C (q := 5) (v := v12 + 1) (lv' := [(5, .int (v12 + 1)), (3, .int x14), (0, .ref (gz_ad true G 0 0)), (1, .int a1), (2, .int a2), (4, .int v2)]) dX11_isNamed_102 rfl rfl (by decide) rfl ?_
              refine gz_goto (tgt := 63) C dX11_isNamed_105 (by decide) ?_
              refine gz_lv (lv' := [(0, .ref (gz_ad true G 0 0)), (1, .int a1), (2, .int a2), (3, .int x14), (4, .int v2), (5, .int (v12 + 1))]) [2, 3, 4, 1, 5, 0] rfl ?_
              exact hrec63 x14 (v12 + 1) σ15
            · skip
              refine gz_j0_row (P := fun σ16 x => gz_W true p l e ({ frames := 0, cells := 0, slots := 0, locals := 0 } : Room) s m args below meth c G 6 (gz_Q true G below args s 0 0 gz_ei) 0 0 σ16 96 [(0, .ref (gz_ad true G 0 0)), (1, .int a1), (2, .int a2), (4, .int v2), (5, .int v12)] [] x) (fun σ16 => ?_) (fun j96 hj96 => ?_)
              · unfold f_X11_isNamed_J96
                refine gz_iconst C dX11_isNamed_96 gk_iconst_1 ?_
                refine gz_goto (tgt := 101) C dX11_isNamed_97 (by decide) ?_
                exact hj101 1 σ16
              · skip
                refine gz_if_ne (tgt := 96) C dX11_isNamed_70 (by decide) ?_ ?_
                · skip
                  refine gz_lv (lv' := [(0, .ref (gz_ad true G 0 0)), (1, .int a1), (2, .int a2), (4, .int v2), (5, .int v12)]) [0, 1, 2, 4, 5] rfl ?_
                  exact hj96 σ13
                · skip
                  refine gz_aload_n C dX11_isNamed_73 0 rfl ?_
                  refine gz_get C (t := 0) (k := 38) (ci := 11) (q := (RX11, TX11, 63)) (v := .ref (gz_ad true G 21 0)) dX11_isNamed_74 fl_RX11_89 (gz_hm0 _) rfl rfl (by decide) rfl ?_
                  refine gz_bipush C dX11_isNamed_77 gk_bipush_8 ?_
                  refine gz_iload_n C dX11_isNamed_79 1 rfl ?_
                  refine gz_imul C dX11_isNamed_80 ?_
                  refine gz_iload C dX11_isNamed_81 4 rfl ?_
                  refine gz_iadd C dX11_isNamed_83 ?_
                  refine gz_lald C (t := 21) dX11_isNamed_84 (gz_hm21 _) rfl (fun n17 hn17 => ?_)
                  refine gz_aload_n C dX11_isNamed_85 0 rfl ?_
                  refine gz_get C (t := 0) (k := 60) (ci := 11) (q := (RX11, TX11, 63)) (v := .ref (gz_ad true G 42 0)) dX11_isNamed_86 fl_RX11_152 (gz_hm0 _) rfl rfl (by decide) rfl ?_
                  refine gz_iload C dX11_isNamed_89 5 rfl ?_
                  refine gz_lald C (t := 42) dX11_isNamed_91 (gz_hm42 _) rfl (fun n18 hn18 => ?_)
                  refine gz_lcmp C dX11_isNamed_92 ?_
                  refine gz_if_ne (tgt := 100) C dX11_isNamed_93 (by decide) ?_ ?_
                  · skip
                    refine gz_iconst C dX11_isNamed_100 gk_iconst_0 ?_
                    refine gz_lv (lv' := [(0, .ref (gz_ad true G 0 0)), (1, .int a1), (2, .int a2), (4, .int v2), (5, .int v12)]) [0, 1, 2, 4, 5] rfl ?_
                    exact hj101 0 σ13
                  · skip
                    refine gz_lv (lv' := [(0, .ref (gz_ad true G 0 0)), (1, .int a1), (2, .int a2), (4, .int v2), (5, .int v12)]) [0, 1, 2, 4, 5] rfl ?_
                    exact hj96 σ13
        · skip
          refine gz_goto (tgt := 108) C dX11_isNamed_57 (by decide) ?_
          exact hj108 v1 σ3
