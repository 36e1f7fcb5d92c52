def f_X11_feed_J76 (v2 : Int32) (rec23 : Int32 → gz_S → Option (Int32 × gz_S)) : Int32 → gz_S → Option (Int32 × gz_S) := fun x4 σ5 =>
  gz_ix (σ5.1 0 0 14) 400 (fun n6 =>
  gz_w (gz_si σ5 7 0 n6 ((x4 >>> ((24 - (8 * (gz_rem v2 4))) &&& 31) : Int32).toInt8.toInt32 : Int32).toInt8.toInt32) (fun σ7 =>
  gz_w (gz_si σ7 0 0 14 ((σ7.1 0 0 14) + 1)) (fun σ8 =>
  rec23 (v2 + 1) σ8)))
def f_X11_feed_L23 (a5 : Int32) (a4 : Int32) (a3 : Int32) (a2 : Int32) (a1 : Int32) : (Int32 → gz_S → Option (Int32 × gz_S)) → Int32 → gz_S → Option (Int32 × gz_S) := fun rec23 v2 σ3 =>
  if 20 ≤ v2 then
  (some (σ3.1 0 0 14, σ3))
  else
  (gz_j1 (f_X11_feed_J76 v2 rec23) (fun j76 =>
  if 4 ≤ v2 then
  (if 8 ≤ v2 then
  (if 12 ≤ v2 then
  (if 16 ≤ v2 then
  (j76 a5 σ3)
  else
  (j76 a4 σ3))
  else
  (j76 a3 σ3))
  else
  (j76 a2 σ3))
  else
  (j76 a1 σ3)))
def f_X11_feed (a1 : Int32) (a2 : Int32) (a3 : Int32) (a4 : Int32) (a5 : Int32) (σ : gz_S) : Option (Int32 × gz_S) :=
  gz_w (gz_si σ 0 0 0 0) (fun σ1 =>
  if ((σ1.1 0 0 14) + 20) ≤ 400 then
  (gz_l1 (f_X11_feed_L23 a5 a4 a3 a2 a1) gz_fu 0 σ1)
  else
  (some ((-1), σ1)))
set_option maxHeartbeats 4000000 in
set_option maxRecDepth 100000 in
theorem c_X11_feed (l : Launch) (G : gz_G) (a1 : Int32) (a2 : Int32) (a3 : Int32) (a4 : Int32) (a5 : Int32) (σ : gz_S) : ∀ o, f_X11_feed a1 a2 a3 a4 a5 σ = some o → gz_M l true G yX11_feed cX11_feed 8 (some .int) { frames := 0, cells := 0, slots := 0, locals := 0 } [.ref (gz_ad true G 0 0), .int a1, .int a2, .int a3, .int a4, .int a5] σ (gz_ei o) 0 0 := by
  refine gz_enter RX11 rfl (by decide) (Nat.le_of_ble_eq_true rfl) ?_
  intro p e s m args below meth c C
  refine gz_eqs (st' := []) (lv' := [(0, .ref (gz_ad true G 0 0)), (1, .int a1), (2, .int a2), (3, .int a3), (4, .int a4), (5, .int a5)]) rfl rfl ?_
  unfold f_X11_feed
  refine gz_aload_n C dX11_feed_0 0 rfl ?_
  refine gz_iconst C dX11_feed_1 gk_iconst_0 ?_
  refine gz_putI C (t := 0) (k := 0) (ci := 11) (q := (RX11, TX11, 63)) dX11_feed_2 fl_RX11_158 (gz_hm0 _) rfl rfl (by decide) rfl rfl rfl rfl ?_
  refine gz_w_row (fun σ1 => ?_)
  refine gz_aload_n C dX11_feed_5 0 rfl ?_
  refine gz_get C (t := 0) (k := 14) (ci := 11) (q := (RX11, TX11, 63)) (v := .int (σ1.1 0 0 14)) dX11_feed_6 fl_RX11_264 (gz_hm0 _) rfl rfl (by decide) rfl ?_
  refine gz_bipush C dX11_feed_9 gk_bipush_20 ?_
  refine gz_iadd C dX11_feed_11 ?_
  refine gz_sipush C dX11_feed_12 gk_sipush_400 ?_
  refine gz_icmp_le (tgt := 20) C dX11_feed_15 (by decide) ?_ ?_
  · skip
    refine gz_iconst C dX11_feed_20 gk_iconst_0 ?_
    refine gz_istore C (lv' := [(6, .int 0), (0, .ref (gz_ad true G 0 0)), (1, .int a1), (2, .int a2), (3, .int a3), (4, .int a4), (5, .int a5)]) dX11_feed_21 (by decide) rfl ?_
    refine gz_lv (lv' := [(0, .ref (gz_ad true G 0 0)), (1, .int a1), (2, .int a2), (3, .int a3), (4, .int a4), (5, .int a5), (6, .int 0)]) [1, 2, 3, 4, 5, 6, 0] rfl ?_
    refine gz_l1_ind (P := fun v2 σ3 x => gz_W true p l e ({ frames := 0, cells := 0, slots := 0, locals := 0 } : Room) s m args below meth c G 8 (gz_Q true G below args s 0 0 gz_ei) 0 0 σ3 23 [(0, .ref (gz_ad true G 0 0)), (1, .int a1), (2, .int a2), (3, .int a3), (4, .int a4), (5, .int a5), (6, .int v2)] [] x) (fun _ _ => gz_none) (fun rec23 hrec23 v2 σ3 => ?_) gz_fu 0 σ1
    unfold f_X11_feed_L23
    refine gz_iload C dX11_feed_23 6 rfl ?_
    refine gz_bipush C dX11_feed_25 gk_bipush_20 ?_
    refine gz_icmp_ge (tgt := 117) C dX11_feed_27 (by decide) ?_ ?_
    · skip
      refine gz_aload_n C dX11_feed_117 0 rfl ?_
      refine gz_get C (t := 0) (k := 14) (ci := 11) (q := (RX11, TX11, 63)) (v := .int (σ3.1 0 0 14)) dX11_feed_118 fl_RX11_264 (gz_hm0 _) rfl rfl (by decide) rfl ?_
      exact gz_iret C rfl dX11_feed_121
    · skip
      refine gz_iload C dX11_feed_30 6 rfl ?_
      refine gz_iconst C dX11_feed_32 gk_iconst_4 ?_
      refine gz_j1_row (P := fun x4 σ5 x => gz_W true p l e ({ frames := 0, cells := 0, slots := 0, locals := 0 } : Room) s m args below meth c G 8 (gz_Q true G below args s 0 0 gz_ei) 0 0 σ5 76 [(0, .ref (gz_ad true G 0 0)), (1, .int a1), (2, .int a2), (3, .int a3), (4, .int a4), (5, .int a5), (6, .int v2)] [.int x4] x) (fun x4 σ5 => ?_) (fun j76 hj76 => ?_)
      · unfold f_X11_feed_J76
        refine gz_istore C (lv' := [(7, .int x4), (0, .ref (gz_ad true G 0 0)), (1, .int a1), (2, .int a2), (3, .int a3), (4, .int a4), (5, .int a5), (6, .int v2)]) dX11_feed_76 (by decide) rfl ?_
        refine gz_aload_n C dX11_feed_78 1 rfl ?_
        refine gz_get C (t := 0) (k := 13) (ci := 11) (q := (RX11, TX11, 63)) (v := .ref (gz_ad true G 7 0)) dX11_feed_79 fl_RX11_43 (gz_hm0 _) rfl rfl (by decide) rfl ?_
        refine gz_aload_n C dX11_feed_82 1 rfl ?_
        refine gz_get C (t := 0) (k := 14) (ci := 11) (q := (RX11, TX11, 63)) (v := .int (σ5.1 0 0 14)) dX11_feed_83 fl_RX11_264 (gz_hm0 _) rfl rfl (by decide) rfl ?_
        refine gz_iload C dX11_feed_86 0 rfl ?_
        refine gz_bipush C dX11_feed_88 gk_bipush_24 ?_
        refine gz_bipush C dX11_feed_90 gk_bipush_8 ?_
        refine gz_iload C dX11_feed_92 7 rfl ?_
        refine gz_iconst C dX11_feed_94 gk_iconst_4 ?_
        refine gz_irem C dX11_feed_95 (by decide) ?_
        refine gz_imul C dX11_feed_96 ?_
        refine gz_isub C dX11_feed_97 ?_
        refine gz_ishr C dX11_feed_98 ?_
        refine gz_i2b C dX11_feed_99 ?_
        refine gz_bast C (t := 7) dX11_feed_100 (gz_hm7 _) rfl (fun n6 hn6 => ?_)
        refine gz_w_row (fun σ7 => ?_)
        refine gz_aload_n C dX11_feed_101 1 rfl ?_
        refine gz_dup C dX11_feed_102 rfl ?_
        refine gz_get C (t := 0) (k := 14) (ci := 11) (q := (RX11, TX11, 63)) (v := .int (σ7.1 0 0 14)) dX11_feed_103 fl_RX11_264 (gz_hm0 _) rfl rfl (by decide) rfl ?_
        refine gz_iconst C dX11_feed_106 gk_iconst_1 ?_
        refine gz_iadd C dX11_feed_107 ?_
        refine gz_putI C (t := 0) (k := 14) (ci := 11) (q := (RX11, TX11, 63)) dX11_feed_108 fl_RX11_264 (gz_hm0 _) rfl rfl (by decide) rfl rfl rfl rfl ?_
        refine gz_w_row (fun σ8 => ?_)
        refine gz_iinc C (q := 7) (v := v2 + 1) (lv' := [(6, .int (v2 + 1)), (7, .int x4), (0, .ref (gz_ad true G 0 0)), (1, .int a1), (2, .int a2), (3, .int a3), (4, .int a4), (5, .int a5)]) dX11_feed_111 rfl rfl (by decide) rfl ?_
        refine gz_goto (tgt := 23) C dX11_feed_114 (by decide) ?_
        refine gz_lv (lv' := [(0, .ref (gz_ad true G 0 0)), (1, .int a1), (2, .int a2), (3, .int a3), (4, .int a4), (5, .int a5), (6, .int (v2 + 1))]) [2, 3, 4, 5, 6, 7, 0] rfl ?_
        exact hrec23 (v2 + 1) σ8
      · skip
        refine gz_icmp_ge (tgt := 40) C dX11_feed_33 (by decide) ?_ ?_
        · skip
          refine gz_iload C dX11_feed_40 6 rfl ?_
          refine gz_bipush C dX11_feed_42 gk_bipush_8 ?_
          refine gz_icmp_ge (tgt := 51) C dX11_feed_44 (by decide) ?_ ?_
          · skip
            refine gz_iload C dX11_feed_51 6 rfl ?_
            refine gz_bipush C dX11_feed_53 gk_bipush_12 ?_
            refine gz_icmp_ge (tgt := 62) C dX11_feed_55 (by decide) ?_ ?_
            · skip
              refine gz_iload C dX11_feed_62 6 rfl ?_
              refine gz_bipush C dX11_feed_64 gk_bipush_16 ?_
              refine gz_icmp_ge (tgt := 74) C dX11_feed_66 (by decide) ?_ ?_
              · skip
                refine gz_iload C dX11_feed_74 5 rfl ?_
                exact hj76 a5 σ3
              · skip
                refine gz_iload C dX11_feed_69 4 rfl ?_
                refine gz_goto (tgt := 76) C dX11_feed_71 (by decide) ?_
                exact hj76 a4 σ3
            · skip
              refine gz_iload_n C dX11_feed_58 3 rfl ?_
              refine gz_goto (tgt := 76) C dX11_feed_59 (by decide) ?_
              exact hj76 a3 σ3
          · skip
            refine gz_iload_n C dX11_feed_47 2 rfl ?_
            refine gz_goto (tgt := 76) C dX11_feed_48 (by decide) ?_
            exact hj76 a2 σ3
        · skip
          refine gz_iload_n C dX11_feed_36 1 rfl ?_
          refine gz_goto (tgt := 76) C dX11_feed_37 (by decide) ?_
          exact hj76 a1 σ3
  · skip
    refine gz_iconst C dX11_feed_18 gk_iconst_m1 ?_
    exact gz_iret C rfl dX11_feed_19

def f_X11_wrong (σ : gz_S) : Option (Int32 × gz_S) :=
  gz_w (gz_si σ 0 0 3 (σ.1 6 0 6)) (fun σ1 =>
  gz_w (gz_si σ1 0 0 1 4) (fun σ2 =>
  gz_w (gz_si σ2 0 0 2 (σ2.1 6 0 7)) (fun σ3 =>
  some ((-1), σ3))))
set_option maxHeartbeats 4000000 in
set_option maxRecDepth 100000 in
theorem c_X11_wrong (l : Launch) (G : gz_G) (σ : gz_S) : ∀ o, f_X11_wrong σ = some o → gz_M l true G yX11_wrong cX11_wrong 2 (some .int) { frames := 0, cells := 0, slots := 0, locals := 0 } [.ref (gz_ad true G 0 0), .ref (gz_ad true G 6 0)] σ (gz_ei o) 0 0 := by
  refine gz_enter RX11 rfl (by decide) (Nat.le_of_ble_eq_true rfl) ?_
  intro p e s m args below meth c C
  refine gz_eqs (st' := []) (lv' := [(0, .ref (gz_ad true G 0 0)), (1, .ref (gz_ad true G 6 0))]) rfl rfl ?_
  unfold f_X11_wrong
  refine gz_aload_n C dX11_wrong_0 0 rfl ?_
  refine gz_aload_n C dX11_wrong_1 1 rfl ?_
  refine gz_getN C (t := 6) (k := 6) (ci := 10) (q := (RX10, TX10, 8)) (v := .int (σ.1 6 0 6)) dX11_wrong_2 fl_RX11_211 (gz_hm6 _) rfl rfl (by decide) rfl ?_
  refine gz_putI C (t := 0) (k := 3) (ci := 11) (q := (RX11, TX11, 63)) dX11_wrong_5 fl_RX11_267 (gz_hm0 _) rfl rfl (by decide) rfl rfl rfl rfl ?_
  refine gz_w_row (fun σ1 => ?_)
  refine gz_aload_n C dX11_wrong_8 0 rfl ?_
  refine gz_iconst C dX11_wrong_9 gk_iconst_4 ?_
  refine gz_putI C (t := 0) (k := 1) (ci := 11) (q := (RX11, TX11, 63)) dX11_wrong_10 fl_RX11_161 (gz_hm0 _) rfl rfl (by decide) rfl rfl rfl rfl ?_
  refine gz_w_row (fun σ2 => ?_)
  refine gz_aload_n C dX11_wrong_13 0 rfl ?_
  refine gz_aload_n C dX11_wrong_14 1 rfl ?_
  refine gz_getN C (t := 6) (k := 7) (ci := 10) (q := (RX10, TX10, 8)) (v := .int (σ2.1 6 0 7)) dX11_wrong_15 fl_RX11_213 (gz_hm6 _) rfl rfl (by decide) rfl ?_
  refine gz_putI C (t := 0) (k := 2) (ci := 11) (q := (RX11, TX11, 63)) dX11_wrong_18 fl_RX11_11 (gz_hm0 _) rfl rfl (by decide) rfl rfl rfl rfl ?_
  refine gz_w_row (fun σ3 => ?_)
  refine gz_iconst C dX11_wrong_21 gk_iconst_m1 ?_
  exact gz_iret C rfl dX11_wrong_22

def f_X11_form (a1 : Int32) (σ : gz_S) : Option (Int32 × gz_S) :=
  gz_w (gz_si σ 0 0 0 0) (fun σ1 =>
  if a1 < 0 then
  (gz_call (f_X11_refused 2 σ1) (fun r3 σ2 =>
  some (r3, σ2)))
  else
  (if a1 ≤ (σ1.1 0 0 14) then
  (gz_then (f_X11_start a1 σ1) (fun σ4 =>
  gz_tcatch (f_X11_readForm σ4) (fun r5 σ6 =>
  if (σ6.1 0 0 21) = 12 then
  (gz_call (f_X11_refused 3 σ6) (fun r13 σ12 =>
  some (r13, σ12)))
  else
  (gz_then (f_X11_act 1 (σ6.1 0 0 21) 0 0 σ6) (fun σ8 =>
  gz_w (gz_si σ8 0 0 21 ((σ8.1 0 0 21) + 1)) (fun σ9 =>
  gz_call (f_X11_done ((σ9.1 0 0 21) - 1) σ9) (fun r11 σ10 =>
  some (r11, σ10)))))) (fun σ7 =>
  gz_call (f_X11_wrong σ7) (fun r15 σ14 =>
  some (r15, σ14)))))
  else
  (gz_call (f_X11_refused 2 σ1) (fun r17 σ16 =>
  some (r17, σ16)))))
set_option maxHeartbeats 4000000 in
set_option maxRecDepth 100000 in
theorem c_X11_form (l : Launch) (G : gz_G) (a1 : Int32) (σ : gz_S) : ∀ o, f_X11_form a1 σ = some o → gz_MT l true G yX11_form (.codeWith yX11_form cX11_form 3 (some .int) [(28, 32, 35, 36)]) { frames := 8, cells := 0, slots := 0, locals := 179 } [.ref (gz_ad true G 0 0), .int a1] σ (gz_tn o) 0 0 := by
  refine gz_enterH RX11 rfl (by decide) (Nat.le_of_ble_eq_true rfl) ?_
  intro p e s m args below meth c C hE
  refine gz_eqs (st' := []) (lv' := [(0, .ref (gz_ad true G 0 0)), (1, .int a1)]) rfl rfl ?_
  unfold f_X11_form
  refine gz_aload_n C dX11_form_0 0 rfl ?_
  refine gz_iconst C dX11_form_1 gk_iconst_0 ?_
  refine gz_putI C (t := 0) (k := 0) (ci := 11) (q := (RX11, TX11, 63)) dX11_form_2 fl_RX11_158 (gz_hm0 _) rfl rfl (by decide) rfl rfl rfl rfl ?_
  refine gz_w_row (fun σ1 => ?_)
  refine gz_iload_n C dX11_form_5 1 rfl ?_
  refine gz_if_lt (tgt := 17) C dX11_form_6 (by decide) ?_ ?_
  · skip
    refine gz_aload_n C dX11_form_17 0 rfl ?_
    refine gz_iconst C dX11_form_18 gk_iconst_2 ?_
    refine gz_ki (gz_runV (t := 0) (ci := 11) (q := (RX11, TX11, 63)) (As := [.int 2]) (rest := []) C dX11_form_19 ml_RX11_194 mw_X11_refused mv_X11_refused (c_X11_refused l G 2 σ1) (gz_hm0 _) rfl rfl rfl rfl rfl (Nat.le_of_ble_eq_true rfl) ⟨rfl, rfl, Nat.le_of_ble_eq_true rfl, Nat.le_of_ble_eq_true rfl, Nat.le_of_ble_eq_true rfl, Nat.le_of_ble_eq_true rfl⟩) (fun r3 σ2 => ?_)
    exact gz_iretT C rfl dX11_form_22
  · skip
    refine gz_iload_n C dX11_form_9 1 rfl ?_
    refine gz_aload_n C dX11_form_10 0 rfl ?_
    refine gz_get C (t := 0) (k := 14) (ci := 11) (q := (RX11, TX11, 63)) (v := .int (σ1.1 0 0 14)) dX11_form_11 fl_RX11_264 (gz_hm0 _) rfl rfl (by decide) rfl ?_
    refine gz_icmp_le (tgt := 23) C dX11_form_14 (by decide) ?_ ?_
    · skip
      refine gz_aload_n C dX11_form_23 0 rfl ?_
      refine gz_iload_n C dX11_form_24 1 rfl ?_
      refine gz_kv (gz_runV (t := 0) (ci := 11) (q := (RX11, TX11, 63)) (As := [.int a1]) (rest := []) C dX11_form_25 ml_RX11_308 mw_X11_start mv_X11_start (c_X11_start l G a1 σ1) (gz_hm0 _) rfl rfl rfl rfl rfl (Nat.le_of_ble_eq_true rfl) ⟨rfl, rfl, Nat.le_of_ble_eq_true rfl, Nat.le_of_ble_eq_true rfl, Nat.le_of_ble_eq_true rfl, Nat.le_of_ble_eq_true rfl⟩) (fun σ4 => ?_)
      refine gz_aload_n C dX11_form_28 0 rfl ?_
      refine gz_kc C hE (by decide) (by decide) (by decide) cl_stop (gz_runVT (t := 0) (ci := 11) (q := (RX11, TX11, 63)) (As := []) (rest := []) C dX11_form_29 ml_RX11_311 (gz_mt_code mw_X11_readForm) mv_X11_readForm (c_X11_readForm l G σ4) (gz_hm0 _) rfl rfl rfl rfl rfl (Nat.le_of_ble_eq_true rfl) ⟨rfl, rfl, Nat.le_of_ble_eq_true rfl, Nat.le_of_ble_eq_true rfl, Nat.le_of_ble_eq_true rfl, Nat.le_of_ble_eq_true rfl⟩) (fun r5 σ6 => ?_) (fun σ7 => ?_)
      · refine gz_eqs (st' := []) (lv' := [(0, .ref (gz_ad true G 0 0)), (1, .int a1)]) rfl rfl ?_
        refine gz_goto (tgt := 42) C dX11_form_32 (by decide) ?_
        refine gz_aload_n C dX11_form_42 0 rfl ?_
        refine gz_get C (t := 0) (k := 21) (ci := 11) (q := (RX11, TX11, 63)) (v := .int (σ6.1 0 0 21)) dX11_form_43 fl_RX11_170 (gz_hm0 _) rfl rfl (by decide) rfl ?_
        refine gz_bipush C dX11_form_46 gk_bipush_12 ?_
        refine gz_icmp_ne (tgt := 57) C dX11_form_48 (by decide) ?_ ?_
        · skip
          refine gz_aload_n C dX11_form_57 0 rfl ?_
          refine gz_iconst C dX11_form_58 gk_iconst_1 ?_
          refine gz_aload_n C dX11_form_59 0 rfl ?_
          refine gz_get C (t := 0) (k := 21) (ci := 11) (q := (RX11, TX11, 63)) (v := .int (σ6.1 0 0 21)) dX11_form_60 fl_RX11_170 (gz_hm0 _) rfl rfl (by decide) rfl ?_
          refine gz_lconst C dX11_form_63 gk_lconst_0 ?_
          refine gz_lconst C dX11_form_64 gk_lconst_0 ?_
          refine gz_kv (gz_runV (t := 0) (ci := 11) (q := (RX11, TX11, 63)) (As := [.int 1, .int (σ6.1 0 0 21), .long 0, .long 0]) (rest := []) C dX11_form_65 ml_RX11_183 mw_X11_act mv_X11_act (c_X11_act l G 1 (σ6.1 0 0 21) 0 0 σ6) (gz_hm0 _) rfl rfl rfl rfl rfl (Nat.le_of_ble_eq_true rfl) ⟨rfl, rfl, Nat.le_of_ble_eq_true rfl, Nat.le_of_ble_eq_true rfl, Nat.le_of_ble_eq_true rfl, Nat.le_of_ble_eq_true rfl⟩) (fun σ8 => ?_)
          refine gz_aload_n C dX11_form_68 0 rfl ?_
          refine gz_dup C dX11_form_69 rfl ?_
          refine gz_get C (t := 0) (k := 21) (ci := 11) (q := (RX11, TX11, 63)) (v := .int (σ8.1 0 0 21)) dX11_form_70 fl_RX11_170 (gz_hm0 _) rfl rfl (by decide) rfl ?_
          refine gz_iconst C dX11_form_73 gk_iconst_1 ?_
          refine gz_iadd C dX11_form_74 ?_
          refine gz_putI C (t := 0) (k := 21) (ci := 11) (q := (RX11, TX11, 63)) dX11_form_75 fl_RX11_170 (gz_hm0 _) rfl rfl (by decide) rfl rfl rfl rfl ?_
          refine gz_w_row (fun σ9 => ?_)
          refine gz_aload_n C dX11_form_78 0 rfl ?_
          refine gz_aload_n C dX11_form_79 0 rfl ?_
          refine gz_get C (t := 0) (k := 21) (ci := 11) (q := (RX11, TX11, 63)) (v := .int (σ9.1 0 0 21)) dX11_form_80 fl_RX11_170 (gz_hm0 _) rfl rfl (by decide) rfl ?_
          refine gz_iconst C dX11_form_83 gk_iconst_1 ?_
          refine gz_isub C dX11_form_84 ?_
          refine gz_ki (gz_runV (t := 0) (ci := 11) (q := (RX11, TX11, 63)) (As := [.int ((σ9.1 0 0 21) - 1)]) (rest := []) C dX11_form_85 ml_RX11_190 mw_X11_done mv_X11_done (c_X11_done l G ((σ9.1 0 0 21) - 1) σ9) (gz_hm0 _) rfl rfl rfl rfl rfl (Nat.le_of_ble_eq_true rfl) ⟨rfl, rfl, Nat.le_of_ble_eq_true rfl, Nat.le_of_ble_eq_true rfl, Nat.le_of_ble_eq_true rfl, Nat.le_of_ble_eq_true rfl⟩) (fun r11 σ10 => ?_)
          exact gz_iretT C rfl dX11_form_88
        · skip
          refine gz_aload_n C dX11_form_51 0 rfl ?_
          refine gz_iconst C dX11_form_52 gk_iconst_3 ?_
          refine gz_ki (gz_runV (t := 0) (ci := 11) (q := (RX11, TX11, 63)) (As := [.int 3]) (rest := []) C dX11_form_53 ml_RX11_194 mw_X11_refused mv_X11_refused (c_X11_refused l G 3 σ6) (gz_hm0 _) rfl rfl rfl rfl rfl (Nat.le_of_ble_eq_true rfl) ⟨rfl, rfl, Nat.le_of_ble_eq_true rfl, Nat.le_of_ble_eq_true rfl, Nat.le_of_ble_eq_true rfl, Nat.le_of_ble_eq_true rfl⟩) (fun r13 σ12 => ?_)
          exact gz_iretT C rfl dX11_form_56
      · skip
        refine gz_astore_n C (lv' := [(2, .ref (gz_ad true G 6 0)), (0, .ref (gz_ad true G 0 0)), (1, .int a1)]) dX11_form_35 (by decide) rfl ?_
        refine gz_aload_n C dX11_form_36 1 rfl ?_
        refine gz_aload_n C dX11_form_37 0 rfl ?_
        refine gz_ki (gz_runV (t := 0) (ci := 11) (q := (RX11, TX11, 63)) (As := [.ref (gz_ad true G 6 0)]) (rest := []) C dX11_form_38 ml_RX11_314 mw_X11_wrong mv_X11_wrong (c_X11_wrong l G σ7) (gz_hm0 _) rfl rfl rfl rfl rfl (Nat.le_of_ble_eq_true rfl) ⟨rfl, rfl, Nat.le_of_ble_eq_true rfl, Nat.le_of_ble_eq_true rfl, Nat.le_of_ble_eq_true rfl, Nat.le_of_ble_eq_true rfl⟩) (fun r15 σ14 => ?_)
        exact gz_iretT C rfl dX11_form_41
    · skip
      refine gz_aload_n C dX11_form_17 0 rfl ?_
      refine gz_iconst C dX11_form_18 gk_iconst_2 ?_
      refine gz_ki (gz_runV (t := 0) (ci := 11) (q := (RX11, TX11, 63)) (As := [.int 2]) (rest := []) C dX11_form_19 ml_RX11_194 mw_X11_refused mv_X11_refused (c_X11_refused l G 2 σ1) (gz_hm0 _) rfl rfl rfl rfl rfl (Nat.le_of_ble_eq_true rfl) ⟨rfl, rfl, Nat.le_of_ble_eq_true rfl, Nat.le_of_ble_eq_true rfl, Nat.le_of_ble_eq_true rfl, Nat.le_of_ble_eq_true rfl⟩) (fun r17 σ16 => ?_)
      exact gz_iretT C rfl dX11_form_22

def f_X11_isForm (a1 : Int32) (σ : gz_S) : Option (Int32 × gz_S) :=
  if a1 < 0 then
  (some ((0 : Int32) &&& 1, σ))
  else
  (if (σ.1 0 0 21) ≤ a1 then
  (some ((0 : Int32) &&& 1, σ))
  else
  (some ((1 : Int32) &&& 1, σ)))
set_option maxHeartbeats 4000000 in
set_option maxRecDepth 100000 in
theorem c_X11_isForm (l : Launch) (G : gz_G) (a1 : Int32) (σ : gz_S) : ∀ o, f_X11_isForm a1 σ = some o → gz_M l true G yX11_isForm cX11_isForm 2 (some .boolean) { frames := 0, cells := 0, slots := 0, locals := 0 } [.ref (gz_ad true G 0 0), .int a1] σ (gz_ei o) 0 0 := by
  refine gz_enter RX11 rfl (by decide) (Nat.le_of_ble_eq_true rfl) ?_
  intro p e s m args below meth c C
  refine gz_eqs (st' := []) (lv' := [(0, .ref (gz_ad true G 0 0)), (1, .int a1)]) rfl rfl ?_
  unfold f_X11_isForm
  refine gz_iload_n C dX11_isForm_0 1 rfl ?_
  refine gz_if_lt (tgt := 16) C dX11_isForm_1 (by decide) ?_ ?_
  · skip
    refine gz_iconst C dX11_isForm_16 gk_iconst_0 ?_
    exact gz_zret C rfl dX11_isForm_17
  · skip
    refine gz_iload_n C dX11_isForm_4 1 rfl ?_
    refine gz_aload_n C dX11_isForm_5 0 rfl ?_
    refine gz_get C (t := 0) (k := 21) (ci := 11) (q := (RX11, TX11, 63)) (v := .int (σ.1 0 0 21)) dX11_isForm_6 fl_RX11_170 (gz_hm0 _) rfl rfl (by decide) rfl ?_
    refine gz_icmp_ge (tgt := 16) C dX11_isForm_9 (by decide) ?_ ?_
    · skip
      refine gz_iconst C dX11_isForm_16 gk_iconst_0 ?_
      exact gz_zret C rfl dX11_isForm_17
    · skip
      refine gz_iconst C dX11_isForm_12 gk_iconst_1 ?_
      refine gz_goto (tgt := 17) C dX11_isForm_13 (by decide) ?_
      exact gz_zret C rfl dX11_isForm_17

def f_X11_field (a1 : Int32) (a2 : Int32) (a3 : Int32) (σ : gz_S) : Option (Int32 × gz_S) :=
  gz_w (gz_si σ 0 0 0 0) (fun σ1 =>
  gz_call (f_X11_isForm a1 σ1) (fun r3 σ2 =>
  if r3 = 0 then
  (some ((-1), σ2))
  else
  (if a2 < 0 then
  (some ((-1), σ2))
  else
  (gz_ix a1 13 (fun n4 =>
  if a2 < (σ2.1 8 0 n4) then
  (gz_v ((8 * a1) + a2) (fun v5 =>
  (if a3 = 0 then
  (gz_ix v5 104 (fun n6 =>
  some (σ2.1 9 0 n6, σ2)))
  else
  (if a3 = 1 then
  (gz_ix v5 104 (fun n7 =>
  if (σ2.1 12 0 n7) = 0 then
  (some (0, σ2))
  else
  (some (1, σ2))))
  else
  (if a3 = 2 then
  (gz_ix v5 104 (fun n8 =>
  some (σ2.1 10 0 n8, σ2)))
  else
  (if a3 = 3 then
  (gz_ix v5 104 (fun n9 =>
  some (σ2.1 11 0 n9, σ2)))
  else
  (some ((-1), σ2))))))))
  else
  (some ((-1), σ2)))))))
set_option maxHeartbeats 4000000 in
set_option maxRecDepth 100000 in
theorem c_X11_field (l : Launch) (G : gz_G) (a1 : Int32) (a2 : Int32) (a3 : Int32) (σ : gz_S) : ∀ o, f_X11_field a1 a2 a3 σ = some o → gz_M l true G yX11_field cX11_field 5 (some .int) { frames := 1, cells := 0, slots := 0, locals := 21 } [.ref (gz_ad true G 0 0), .int a1, .int a2, .int a3] σ (gz_ei o) 0 0 := by
  refine gz_enter RX11 rfl (by decide) (Nat.le_of_ble_eq_true rfl) ?_
  intro p e s m args below meth c C
  refine gz_eqs (st' := []) (lv' := [(0, .ref (gz_ad true G 0 0)), (1, .int a1), (2, .int a2), (3, .int a3)]) rfl rfl ?_
  unfold f_X11_field
  refine gz_aload_n C dX11_field_0 0 rfl ?_
  refine gz_iconst C dX11_field_1 gk_iconst_0 ?_
  refine gz_putI C (t := 0) (k := 0) (ci := 11) (q := (RX11, TX11, 63)) dX11_field_2 fl_RX11_158 (gz_hm0 _) rfl rfl (by decide) rfl rfl rfl rfl ?_
  refine gz_w_row (fun σ1 => ?_)
  refine gz_aload_n C dX11_field_5 0 rfl ?_
  refine gz_iload_n C dX11_field_6 1 rfl ?_
  refine gz_ki (gz_runV (t := 0) (ci := 11) (q := (RX11, TX11, 63)) (As := [.int a1]) (rest := []) C dX11_field_7 ml_RX11_318 mw_X11_isForm mv_X11_isForm (c_X11_isForm l G a1 σ1) (gz_hm0 _) rfl rfl rfl rfl rfl (Nat.le_of_ble_eq_true rfl) ⟨rfl, rfl, Nat.le_of_ble_eq_true rfl, Nat.le_of_ble_eq_true rfl, Nat.le_of_ble_eq_true rfl, Nat.le_of_ble_eq_true rfl⟩) (fun r3 σ2 => ?_)
  refine gz_if_eq (tgt := 27) C dX11_field_10 (by decide) ?_ ?_
  · skip
    refine gz_iconst C dX11_field_27 gk_iconst_m1 ?_
    exact gz_iret C rfl dX11_field_28
  · skip
    refine gz_iload_n C dX11_field_13 2 rfl ?_
    refine gz_if_lt (tgt := 27) C dX11_field_14 (by decide) ?_ ?_
    · skip
      refine gz_iconst C dX11_field_27 gk_iconst_m1 ?_
      exact gz_iret C rfl dX11_field_28
    · skip
      refine gz_iload_n C dX11_field_17 2 rfl ?_
      refine gz_aload_n C dX11_field_18 0 rfl ?_
      refine gz_get C (t := 0) (k := 22) (ci := 11) (q := (RX11, TX11, 63)) (v := .ref (gz_ad true G 8 0)) dX11_field_19 fl_RX11_47 (gz_hm0 _) rfl rfl (by decide) rfl ?_
      refine gz_iload_n C dX11_field_22 1 rfl ?_
      refine gz_iald C (t := 8) dX11_field_23 (gz_hm8 _) rfl (fun n4 hn4 => ?_)
      refine gz_icmp_lt (tgt := 29) C dX11_field_24 (by decide) ?_ ?_
      · skip
        refine gz_bipush C dX11_field_29 gk_bipush_8 ?_
        refine gz_iload_n C dX11_field_31 1 rfl ?_
        refine gz_imul C dX11_field_32 ?_
        refine gz_iload_n C dX11_field_33 2 rfl ?_
        refine gz_iadd C dX11_field_34 ?_
        refine gz_topI (fun v5 => ?_)
        refine gz_istore C (lv' := [(4, .int v5), (0, .ref (gz_ad true G 0 0)), (1, .int a1), (2, .int a2), (3, .int a3)]) dX11_field_35 (by decide) rfl ?_
        refine gz_iload_n C dX11_field_37 4 rfl ?_
        refine gz_case 0 (fun hx0 => ?_) (fun hx0 => ?_)
        · rw [hx0]
          refine gz_tin (tgt := 68) (off := 30) C dX11_field_38 (by decide) (by decide) rfl (by decide) ?_
          refine gz_aload_n C dX11_field_68 1 rfl ?_
          refine gz_get C (t := 0) (k := 23) (ci := 11) (q := (RX11, TX11, 63)) (v := .ref (gz_ad true G 9 0)) dX11_field_69 fl_RX11_50 (gz_hm0 _) rfl rfl (by decide) rfl ?_
          refine gz_iload C dX11_field_72 0 rfl ?_
          refine gz_iald C (t := 9) dX11_field_74 (gz_hm9 _) rfl (fun n6 hn6 => ?_)
          exact gz_iret C rfl dX11_field_75
        refine gz_case 1 (fun hx1 => ?_) (fun hx1 => ?_)
        · rw [hx1]
          refine gz_tin (tgt := 76) (off := 38) C dX11_field_38 (by decide) (by decide) rfl (by decide) ?_
          refine gz_aload_n C dX11_field_76 1 rfl ?_
          refine gz_get C (t := 0) (k := 26) (ci := 11) (q := (RX11, TX11, 63)) (v := .ref (gz_ad true G 12 0)) dX11_field_77 fl_RX11_59 (gz_hm0 _) rfl rfl (by decide) rfl ?_
          refine gz_iload C dX11_field_80 0 rfl ?_
          refine gz_zald C (t := 12) dX11_field_82 (gz_hm12 _) rfl (fun n7 hn7 => ?_)
          refine gz_if_eq (tgt := 90) C dX11_field_83 (by decide) ?_ ?_
          · skip
            refine gz_iconst C dX11_field_90 gk_iconst_0 ?_
            exact gz_iret C rfl dX11_field_91
          · skip
            refine gz_iconst C dX11_field_86 gk_iconst_1 ?_
            refine gz_goto (tgt := 91) C dX11_field_87 (by decide) ?_
            exact gz_iret C rfl dX11_field_91
        refine gz_case 2 (fun hx2 => ?_) (fun hx2 => ?_)
        · rw [hx2]
          refine gz_tin (tgt := 92) (off := 54) C dX11_field_38 (by decide) (by decide) rfl (by decide) ?_
          refine gz_aload_n C dX11_field_92 1 rfl ?_
          refine gz_get C (t := 0) (k := 24) (ci := 11) (q := (RX11, TX11, 63)) (v := .ref (gz_ad true G 10 0)) dX11_field_93 fl_RX11_53 (gz_hm0 _) rfl rfl (by decide) rfl ?_
          refine gz_iload C dX11_field_96 0 rfl ?_
          refine gz_iald C (t := 10) dX11_field_98 (gz_hm10 _) rfl (fun n8 hn8 => ?_)
          exact gz_iret C rfl dX11_field_99
        refine gz_case 3 (fun hx3 => ?_) (fun hx3 => ?_)
        · rw [hx3]
          refine gz_tin (tgt := 100) (off := 62) C dX11_field_38 (by decide) (by decide) rfl (by decide) ?_
          refine gz_aload_n C dX11_field_100 1 rfl ?_
          refine gz_get C (t := 0) (k := 25) (ci := 11) (q := (RX11, TX11, 63)) (v := .ref (gz_ad true G 11 0)) dX11_field_101 fl_RX11_56 (gz_hm0 _) rfl rfl (by decide) rfl ?_
          refine gz_iload C dX11_field_104 0 rfl ?_
          refine gz_iald C (t := 11) dX11_field_106 (gz_hm11 _) rfl (fun n9 hn9 => ?_)
          exact gz_iret C rfl dX11_field_107
        refine gz_tout (tgt := 108) C dX11_field_38 (by have q0 := lv_neT hx0 (a := 0) (by decide); have q1 := lv_neT hx1 (a := 1) (by decide); have q2 := lv_neT hx2 (a := 2) (by decide); have q3 := lv_neT hx3 (a := 3) (by decide); omega) (by decide) ?_
        refine gz_iconst C dX11_field_108 gk_iconst_m1 ?_
        exact gz_iret C rfl dX11_field_109
      · skip
        refine gz_iconst C dX11_field_27 gk_iconst_m1 ?_
        exact gz_iret C rfl dX11_field_28

def f_X11_fields (a1 : Int32) (σ : gz_S) : Option (Int32 × gz_S) :=
  gz_w (gz_si σ 0 0 0 0) (fun σ1 =>
  gz_call (f_X11_isForm a1 σ1) (fun r3 σ2 =>
  if r3 = 0 then
  (some ((-1), σ2))
  else
  (gz_ix a1 13 (fun n4 =>
  some (σ2.1 8 0 n4, σ2)))))
set_option maxHeartbeats 4000000 in
set_option maxRecDepth 100000 in
theorem c_X11_fields (l : Launch) (G : gz_G) (a1 : Int32) (σ : gz_S) : ∀ o, f_X11_fields a1 σ = some o → gz_M l true G yX11_fields cX11_fields 2 (some .int) { frames := 1, cells := 0, slots := 0, locals := 21 } [.ref (gz_ad true G 0 0), .int a1] σ (gz_ei o) 0 0 := by
  refine gz_enter RX11 rfl (by decide) (Nat.le_of_ble_eq_true rfl) ?_
  intro p e s m args below meth c C
  refine gz_eqs (st' := []) (lv' := [(0, .ref (gz_ad true G 0 0)), (1, .int a1)]) rfl rfl ?_
  unfold f_X11_fields
  refine gz_aload_n C dX11_fields_0 0 rfl ?_
  refine gz_iconst C dX11_fields_1 gk_iconst_0 ?_
  refine gz_putI C (t := 0) (k := 0) (ci := 11) (q := (RX11, TX11, 63)) dX11_fields_2 fl_RX11_158 (gz_hm0 _) rfl rfl (by decide) rfl rfl rfl rfl ?_
  refine gz_w_row (fun σ1 => ?_)
  refine gz_aload_n C dX11_fields_5 0 rfl ?_
  refine gz_iload_n C dX11_fields_6 1 rfl ?_
  refine gz_ki (gz_runV (t := 0) (ci := 11) (q := (RX11, TX11, 63)) (As := [.int a1]) (rest := []) C dX11_fields_7 ml_RX11_318 mw_X11_isForm mv_X11_isForm (c_X11_isForm l G a1 σ1) (gz_hm0 _) rfl rfl rfl rfl rfl (Nat.le_of_ble_eq_true rfl) ⟨rfl, rfl, Nat.le_of_ble_eq_true rfl, Nat.le_of_ble_eq_true rfl, Nat.le_of_ble_eq_true rfl, Nat.le_of_ble_eq_true rfl⟩) (fun r3 σ2 => ?_)
  refine gz_if_eq (tgt := 22) C dX11_fields_10 (by decide) ?_ ?_
  · skip
    refine gz_iconst C dX11_fields_22 gk_iconst_m1 ?_
    exact gz_iret C rfl dX11_fields_23
  · skip
    refine gz_aload_n C dX11_fields_13 0 rfl ?_
    refine gz_get C (t := 0) (k := 22) (ci := 11) (q := (RX11, TX11, 63)) (v := .ref (gz_ad true G 8 0)) dX11_fields_14 fl_RX11_47 (gz_hm0 _) rfl rfl (by decide) rfl ?_
    refine gz_iload_n C dX11_fields_17 1 rfl ?_
    refine gz_iald C (t := 8) dX11_fields_18 (gz_hm8 _) rfl (fun n4 hn4 => ?_)
    refine gz_goto (tgt := 23) C dX11_fields_19 (by decide) ?_
    exact gz_iret C rfl dX11_fields_23

def f_X11_valueBy_J152 (a1 : Int32) : Int32 → gz_S → Option (Option Int64 × gz_S) := fun v10 σ11 =>
  gz_ix a1 104 (fun n12 =>
  if v10 = (σ11.1 10 0 n12) then
  (gz_call (f_X11_stop 4 (σ11.1 0 0 18) σ11) (fun r14 σ13 =>
  gz_nl r14 1 none (fun i15 =>
  some (none, σ13))))
  else
  (some (some ((v10 : Int32).toInt64), σ11)))
def f_X11_valueBy_L118 (a1 : Int32) (j152 : Int32 → gz_S → Option (Option Int64 × gz_S)) : (Int32 → gz_S → Option (Option Int64 × gz_S)) → Int32 → gz_S → Option (Option Int64 × gz_S) := fun rec118 v16 σ17 =>
  gz_ix a1 104 (fun n18 =>
  if (σ17.1 10 0 n18) ≤ v16 then
  (j152 v16 σ17)
  else
  (gz_ix ((4 * a1) + v16) 416 (fun n19 =>
  if (lg_cmp (σ17.2.1 14 0 n19) (σ17.2.1 0 0 20)) = 0 then
  (j152 v16 σ17)
  else
  (rec118 (v16 + 1) σ17))))
def f_X11_valueBy_J101 (a1 : Int32) : gz_S → Option (Option Int64 × gz_S) := fun σ8 =>
  gz_ix a1 104 (fun n9 =>
  if (σ8.1 9 0 n9) = 3 then
  (gz_j1 (f_X11_valueBy_J152 a1) (fun j152 =>
  gz_l1 (f_X11_valueBy_L118 a1 j152) gz_fu 0 σ8))
  else
  (some (some (σ8.2.1 0 0 20), σ8)))
def f_X11_valueBy_J91 : gz_S → Option (Option Int64 × gz_S) := fun σ21 =>
  gz_call (f_X11_stop 4 (σ21.1 0 0 18) σ21) (fun r23 σ22 =>
  gz_nl r23 1 none (fun i24 =>
  some (none, σ22)))
def f_X11_valueBy_J39 (a1 : Int32) : Int32 → Int32 → gz_S → Option (Option Int64 × gz_S) := fun x4 x5 σ6 =>
  if x4 = x5 then
  (gz_ix a1 104 (fun n7 =>
  gz_j0 (f_X11_valueBy_J101 a1) (fun j101 =>
  if (σ6.1 9 0 n7) = 0 then
  (gz_ix a1 104 (fun n20 =>
  gz_j0 (f_X11_valueBy_J91) (fun j91 =>
  if (lg_cmp (σ6.2.1 0 0 20) ((σ6.1 10 0 n20 : Int32).toInt64)) < 0 then
  (j91 σ6)
  else
  (gz_ix a1 104 (fun n25 =>
  if (lg_cmp (σ6.2.1 0 0 20) ((σ6.1 11 0 n25 : Int32).toInt64)) ≤ 0 then
  (j101 σ6)
  else
  (j91 σ6))))))
  else
  (j101 σ6))))
  else
  (gz_call (f_X11_stop 4 (σ6.1 0 0 18) σ6) (fun r27 σ26 =>
  gz_nl r27 1 none (fun i28 =>
  some (none, σ26))))
def f_X11_valueBy_J24 (a1 : Int32) : Int32 → gz_S → Option (Option Int64 × gz_S) := fun x2 σ3 =>
  gz_j2 (f_X11_valueBy_J39 a1) (fun j39 =>
  if (σ3.1 0 0 17) = 3 then
  (j39 x2 1 σ3)
  else
  (j39 x2 0 σ3))
def f_X11_valueBy_J19 (j24 : Int32 → gz_S → Option (Option Int64 × gz_S)) : gz_S → Option (Option Int64 × gz_S) := fun σ29 =>
  j24 1 σ29
def f_X11_valueBy (a1 : Int32) (σ : gz_S) : Option (Option Int64 × gz_S) :=
  gz_ix a1 104 (fun n1 =>
  gz_j1 (f_X11_valueBy_J24 a1) (fun j24 =>
  gz_j0 (f_X11_valueBy_J19 j24) (fun j19 =>
  if (σ.1 9 0 n1) = 0 then
  (j19 σ)
  else
  (gz_ix a1 104 (fun n30 =>
  if (σ.1 9 0 n30) = 1 then
  (j19 σ)
  else
  (j24 0 σ))))))
set_option maxHeartbeats 4000000 in
set_option maxRecDepth 100000 in
theorem c_X11_valueBy (l : Launch) (G : gz_G) (a1 : Int32) (σ : gz_S) : ∀ o, f_X11_valueBy a1 σ = some o → gz_MT l true G yX11_valueBy (.code yX11_valueBy cX11_valueBy 4 (some .long)) { frames := 1, cells := 0, slots := 0, locals := 22 } [.ref (gz_ad true G 0 0), .int a1] σ ((gz_te G gz_evl) o) 0 0 := by
  refine gz_enterT RX11 rfl (by decide) (Nat.le_of_ble_eq_true rfl) ?_
  intro p e s m args below meth c C hE
  refine gz_eqs (st' := []) (lv' := [(0, .ref (gz_ad true G 0 0)), (1, .int a1)]) rfl rfl ?_
  unfold f_X11_valueBy
  refine gz_aload_n C dX11_valueBy_0 0 rfl ?_
  refine gz_get C (t := 0) (k := 23) (ci := 11) (q := (RX11, TX11, 63)) (v := .ref (gz_ad true G 9 0)) dX11_valueBy_1 fl_RX11_50 (gz_hm0 _) rfl rfl (by decide) rfl ?_
  refine gz_iload_n C dX11_valueBy_4 1 rfl ?_
  refine gz_iald C (t := 9) dX11_valueBy_5 (gz_hm9 _) rfl (fun n1 hn1 => ?_)
  refine gz_j1_row (P := fun x2 σ3 x => gz_W true p l e ({ frames := 1, cells := 0, slots := 0, locals := 22 } : Room) s m args below meth c G 4 (gz_QT true G below args s 0 0 (gz_te G gz_evl)) 0 0 σ3 24 [(0, .ref (gz_ad true G 0 0)), (1, .int a1)] [.int x2] x) (fun x2 σ3 => ?_) (fun j24 hj24 => ?_)
  · unfold f_X11_valueBy_J24
    refine gz_istore_n C (lv' := [(2, .int x2), (0, .ref (gz_ad true G 0 0)), (1, .int a1)]) dX11_valueBy_24 (by decide) rfl ?_
    refine gz_iload_n C dX11_valueBy_25 0 rfl ?_
    refine gz_aload_n C dX11_valueBy_26 1 rfl ?_
    refine gz_get C (t := 0) (k := 17) (ci := 11) (q := (RX11, TX11, 63)) (v := .int (σ3.1 0 0 17)) dX11_valueBy_27 fl_RX11_226 (gz_hm0 _) rfl rfl (by decide) rfl ?_
    refine gz_iconst C dX11_valueBy_30 gk_iconst_3 ?_
    refine gz_j2_row (P := fun x4 x5 σ6 x => gz_W true p l e ({ frames := 1, cells := 0, slots := 0, locals := 22 } : Room) s m args below meth c G 4 (gz_QT true G below args s 0 0 (gz_te G gz_evl)) 0 0 σ6 39 [(0, .ref (gz_ad true G 0 0)), (1, .int a1)] [.int x5, .int x4] x) (fun x4 x5 σ6 => ?_) (fun j39 hj39 => ?_)
    · unfold f_X11_valueBy_J39
      refine gz_icmp_eq (tgt := 52) C dX11_valueBy_39 (by decide) ?_ ?_
      · skip
        refine gz_aload_n C dX11_valueBy_52 0 rfl ?_
        refine gz_get C (t := 0) (k := 23) (ci := 11) (q := (RX11, TX11, 63)) (v := .ref (gz_ad true G 9 0)) dX11_valueBy_53 fl_RX11_50 (gz_hm0 _) rfl rfl (by decide) rfl ?_
        refine gz_iload_n C dX11_valueBy_56 1 rfl ?_
        refine gz_iald C (t := 9) dX11_valueBy_57 (gz_hm9 _) rfl (fun n7 hn7 => ?_)
        refine gz_j0_row (P := fun σ8 x => gz_W true p l e ({ frames := 1, cells := 0, slots := 0, locals := 22 } : Room) s m args below meth c G 4 (gz_QT true G below args s 0 0 (gz_te G gz_evl)) 0 0 σ8 101 [(0, .ref (gz_ad true G 0 0)), (1, .int a1)] [] x) (fun σ8 => ?_) (fun j101 hj101 => ?_)
        · unfold f_X11_valueBy_J101
          refine gz_aload_n C dX11_valueBy_101 0 rfl ?_
          refine gz_get C (t := 0) (k := 23) (ci := 11) (q := (RX11, TX11, 63)) (v := .ref (gz_ad true G 9 0)) dX11_valueBy_102 fl_RX11_50 (gz_hm0 _) rfl rfl (by decide) rfl ?_
          refine gz_iload_n C dX11_valueBy_105 1 rfl ?_
          refine gz_iald C (t := 9) dX11_valueBy_106 (gz_hm9 _) rfl (fun n9 hn9 => ?_)
          refine gz_iconst C dX11_valueBy_107 gk_iconst_3 ?_
          refine gz_icmp_eq (tgt := 116) C dX11_valueBy_108 (by decide) ?_ ?_
          · skip
            refine gz_iconst C dX11_valueBy_116 gk_iconst_0 ?_
            refine gz_istore_n C (lv' := [(3, .int 0), (0, .ref (gz_ad true G 0 0)), (1, .int a1)]) dX11_valueBy_117 (by decide) rfl ?_
            refine gz_j1_row (P := fun v10 σ11 x => gz_W true p l e ({ frames := 1, cells := 0, slots := 0, locals := 22 } : Room) s m args below meth c G 4 (gz_QT true G below args s 0 0 (gz_te G gz_evl)) 0 0 σ11 152 [(0, .ref (gz_ad true G 0 0)), (1, .int a1), (3, .int v10)] [] x) (fun v10 σ11 => ?_) (fun j152 hj152 => ?_)
            · unfold f_X11_valueBy_J152
              refine gz_iload_n C dX11_valueBy_152 2 rfl ?_
              refine gz_aload_n C dX11_valueBy_153 0 rfl ?_
              refine gz_get C (t := 0) (k := 24) (ci := 11) (q := (RX11, TX11, 63)) (v := .ref (gz_ad true G 10 0)) dX11_valueBy_154 fl_RX11_53 (gz_hm0 _) rfl rfl (by decide) rfl ?_
              refine gz_iload_n C dX11_valueBy_157 1 rfl ?_
              refine gz_iald C (t := 10) dX11_valueBy_158 (gz_hm10 _) rfl (fun n12 hn12 => ?_)
              refine gz_icmp_ne (tgt := 172) C dX11_valueBy_159 (by decide) ?_ ?_
              · skip
                refine gz_iload_n C dX11_valueBy_172 2 rfl ?_
                refine gz_i2l C dX11_valueBy_173 ?_
                exact gz_lretT C rfl dX11_valueBy_174
              · skip
                refine gz_aload_n C dX11_valueBy_162 0 rfl ?_
                refine gz_iconst C dX11_valueBy_163 gk_iconst_4 ?_
                refine gz_aload_n C dX11_valueBy_164 0 rfl ?_
                refine gz_get C (t := 0) (k := 18) (ci := 11) (q := (RX11, TX11, 63)) (v := .int (σ11.1 0 0 18)) dX11_valueBy_165 fl_RX11_225 (gz_hm0 _) rfl rfl (by decide) rfl ?_
                refine gz_kr (t := 6) (gz_runV (t := 0) (ci := 11) (q := (RX11, TX11, 63)) (As := [.int 4, .int (σ11.1 0 0 18)]) (rest := []) C dX11_valueBy_168 ml_RX11_249 mw_X11_stop mv_X11_stop (c_X11_stop l G 4 (σ11.1 0 0 18) σ11) (gz_hm0 _) rfl rfl rfl rfl rfl (Nat.le_of_ble_eq_true rfl) ⟨rfl, rfl, Nat.le_of_ble_eq_true rfl, Nat.le_of_ble_eq_true rfl, Nat.le_of_ble_eq_true rfl, Nat.le_of_ble_eq_true rfl⟩) (fun r14 σ13 => ?_)
                refine gz_nn (fun i15 hi15 hr => ?_)
                subst hr
                refine gz_eqs (st' := [.ref (gz_ad true G 6 i15)]) (lv' := [(0, .ref (gz_ad true G 0 0)), (1, .int a1), (3, .int v10)]) rfl rfl ?_
                exact gz_athrow C hE dX11_valueBy_171
            · skip
              refine gz_lv (lv' := [(0, .ref (gz_ad true G 0 0)), (1, .int a1), (3, .int 0)]) [1, 2, 0] rfl ?_
              refine gz_l1_ind (P := fun v16 σ17 x => gz_W true p l e ({ frames := 1, cells := 0, slots := 0, locals := 22 } : Room) s m args below meth c G 4 (gz_QT true G below args s 0 0 (gz_te G gz_evl)) 0 0 σ17 118 [(0, .ref (gz_ad true G 0 0)), (1, .int a1), (3, .int v16)] [] x) (fun _ _ => gz_none) (fun rec118 hrec118 v16 σ17 => ?_) gz_fu 0 σ8
              unfold f_X11_valueBy_L118
              refine gz_iload_n C dX11_valueBy_118 2 rfl ?_
              refine gz_aload_n C dX11_valueBy_119 0 rfl ?_
              refine gz_get C (t := 0) (k := 24) (ci := 11) (q := (RX11, TX11, 63)) (v := .ref (gz_ad true G 10 0)) dX11_valueBy_120 fl_RX11_53 (gz_hm0 _) rfl rfl (by decide) rfl ?_
              refine gz_iload_n C dX11_valueBy_123 1 rfl ?_
              refine gz_iald C (t := 10) dX11_valueBy_124 (gz_hm10 _) rfl (fun n18 hn18 => ?_)
              refine gz_icmp_ge (tgt := 152) C dX11_valueBy_125 (by decide) ?_ ?_
              · skip
                exact hj152 v16 σ17
              · skip
                refine gz_aload_n C dX11_valueBy_128 0 rfl ?_
                refine gz_get C (t := 0) (k := 28) (ci := 11) (q := (RX11, TX11, 63)) (v := .ref (gz_ad true G 14 0)) dX11_valueBy_129 fl_RX11_65 (gz_hm0 _) rfl rfl (by decide) rfl ?_
                refine gz_iconst C dX11_valueBy_132 gk_iconst_4 ?_
                refine gz_iload_n C dX11_valueBy_133 1 rfl ?_
                refine gz_imul C dX11_valueBy_134 ?_
                refine gz_iload_n C dX11_valueBy_135 2 rfl ?_
                refine gz_iadd C dX11_valueBy_136 ?_
                refine gz_lald C (t := 14) dX11_valueBy_137 (gz_hm14 _) rfl (fun n19 hn19 => ?_)
                refine gz_aload_n C dX11_valueBy_138 0 rfl ?_
                refine gz_get C (t := 0) (k := 20) (ci := 11) (q := (RX11, TX11, 63)) (v := .long (σ17.2.1 0 0 20)) dX11_valueBy_139 fl_RX11_232 (gz_hm0 _) rfl rfl (by decide) rfl ?_
                refine gz_lcmp C dX11_valueBy_142 ?_
                refine gz_if_eq (tgt := 152) C dX11_valueBy_143 (by decide) ?_ ?_
                · skip
                  exact hj152 v16 σ17
                · skip
                  refine gz_iinc C (q := 2) (v := v16 + 1) (lv' := [(3, .int (v16 + 1)), (0, .ref (gz_ad true G 0 0)), (1, .int a1)]) dX11_valueBy_146 rfl rfl (by decide) rfl ?_
                  refine gz_goto (tgt := 118) C dX11_valueBy_149 (by decide) ?_
                  refine gz_lv (lv' := [(0, .ref (gz_ad true G 0 0)), (1, .int a1), (3, .int (v16 + 1))]) [1, 2, 0] rfl ?_
                  exact hrec118 (v16 + 1) σ17
          · skip
            refine gz_aload_n C dX11_valueBy_111 0 rfl ?_
            refine gz_get C (t := 0) (k := 20) (ci := 11) (q := (RX11, TX11, 63)) (v := .long (σ8.2.1 0 0 20)) dX11_valueBy_112 fl_RX11_232 (gz_hm0 _) rfl rfl (by decide) rfl ?_
            exact gz_lretT C rfl dX11_valueBy_115
        · skip
          refine gz_if_ne (tgt := 101) C dX11_valueBy_58 (by decide) ?_ ?_
          · skip
            exact hj101 σ6
          · skip
            refine gz_aload_n C dX11_valueBy_61 0 rfl ?_
            refine gz_get C (t := 0) (k := 20) (ci := 11) (q := (RX11, TX11, 63)) (v := .long (σ6.2.1 0 0 20)) dX11_valueBy_62 fl_RX11_232 (gz_hm0 _) rfl rfl (by decide) rfl ?_
            refine gz_aload_n C dX11_valueBy_65 0 rfl ?_
            refine gz_get C (t := 0) (k := 24) (ci := 11) (q := (RX11, TX11, 63)) (v := .ref (gz_ad true G 10 0)) dX11_valueBy_66 fl_RX11_53 (gz_hm0 _) rfl rfl (by decide) rfl ?_
            refine gz_iload_n C dX11_valueBy_69 1 rfl ?_
            refine gz_iald C (t := 10) dX11_valueBy_70 (gz_hm10 _) rfl (fun n20 hn20 => ?_)
            refine gz_i2l C dX11_valueBy_71 ?_
            refine gz_lcmp C dX11_valueBy_72 ?_
            refine gz_j0_row (P := fun σ21 x => gz_W true p l e ({ frames := 1, cells := 0, slots := 0, locals := 22 } : Room) s m args below meth c G 4 (gz_QT true G below args s 0 0 (gz_te G gz_evl)) 0 0 σ21 91 [(0, .ref (gz_ad true G 0 0))] [] x) (fun σ21 => ?_) (fun j91 hj91 => ?_)
            · unfold f_X11_valueBy_J91
              refine gz_aload_n C dX11_valueBy_91 0 rfl ?_
              refine gz_iconst C dX11_valueBy_92 gk_iconst_4 ?_
              refine gz_aload_n C dX11_valueBy_93 0 rfl ?_
              refine gz_get C (t := 0) (k := 18) (ci := 11) (q := (RX11, TX11, 63)) (v := .int (σ21.1 0 0 18)) dX11_valueBy_94 fl_RX11_225 (gz_hm0 _) rfl rfl (by decide) rfl ?_
              refine gz_kr (t := 6) (gz_runV (t := 0) (ci := 11) (q := (RX11, TX11, 63)) (As := [.int 4, .int (σ21.1 0 0 18)]) (rest := []) C dX11_valueBy_97 ml_RX11_249 mw_X11_stop mv_X11_stop (c_X11_stop l G 4 (σ21.1 0 0 18) σ21) (gz_hm0 _) rfl rfl rfl rfl rfl (Nat.le_of_ble_eq_true rfl) ⟨rfl, rfl, Nat.le_of_ble_eq_true rfl, Nat.le_of_ble_eq_true rfl, Nat.le_of_ble_eq_true rfl, Nat.le_of_ble_eq_true rfl⟩) (fun r23 σ22 => ?_)
              refine gz_nn (fun i24 hi24 hr => ?_)
              subst hr
              refine gz_eqs (st' := [.ref (gz_ad true G 6 i24)]) (lv' := [(0, .ref (gz_ad true G 0 0))]) rfl rfl ?_
              exact gz_athrow C hE dX11_valueBy_100
            · skip
              refine gz_if_lt (tgt := 91) C dX11_valueBy_73 (by decide) ?_ ?_
              · skip
                refine gz_lv (lv' := [(0, .ref (gz_ad true G 0 0))]) [0] rfl ?_
                exact hj91 σ6
              · skip
                refine gz_aload_n C dX11_valueBy_76 0 rfl ?_
                refine gz_get C (t := 0) (k := 20) (ci := 11) (q := (RX11, TX11, 63)) (v := .long (σ6.2.1 0 0 20)) dX11_valueBy_77 fl_RX11_232 (gz_hm0 _) rfl rfl (by decide) rfl ?_
                refine gz_aload_n C dX11_valueBy_80 0 rfl ?_
                refine gz_get C (t := 0) (k := 25) (ci := 11) (q := (RX11, TX11, 63)) (v := .ref (gz_ad true G 11 0)) dX11_valueBy_81 fl_RX11_56 (gz_hm0 _) rfl rfl (by decide) rfl ?_
                refine gz_iload_n C dX11_valueBy_84 1 rfl ?_
                refine gz_iald C (t := 11) dX11_valueBy_85 (gz_hm11 _) rfl (fun n25 hn25 => ?_)
                refine gz_i2l C dX11_valueBy_86 ?_
                refine gz_lcmp C dX11_valueBy_87 ?_
                refine gz_if_le (tgt := 101) C dX11_valueBy_88 (by decide) ?_ ?_
                · skip
                  exact hj101 σ6
                · skip
                  refine gz_lv (lv' := [(0, .ref (gz_ad true G 0 0))]) [0] rfl ?_
                  exact hj91 σ6
      · skip
        refine gz_aload_n C dX11_valueBy_42 0 rfl ?_
        refine gz_iconst C dX11_valueBy_43 gk_iconst_4 ?_
        refine gz_aload_n C dX11_valueBy_44 0 rfl ?_
        refine gz_get C (t := 0) (k := 18) (ci := 11) (q := (RX11, TX11, 63)) (v := .int (σ6.1 0 0 18)) dX11_valueBy_45 fl_RX11_225 (gz_hm0 _) rfl rfl (by decide) rfl ?_
        refine gz_kr (t := 6) (gz_runV (t := 0) (ci := 11) (q := (RX11, TX11, 63)) (As := [.int 4, .int (σ6.1 0 0 18)]) (rest := []) C dX11_valueBy_48 ml_RX11_249 mw_X11_stop mv_X11_stop (c_X11_stop l G 4 (σ6.1 0 0 18) σ6) (gz_hm0 _) rfl rfl rfl rfl rfl (Nat.le_of_ble_eq_true rfl) ⟨rfl, rfl, Nat.le_of_ble_eq_true rfl, Nat.le_of_ble_eq_true rfl, Nat.le_of_ble_eq_true rfl, Nat.le_of_ble_eq_true rfl⟩) (fun r27 σ26 => ?_)
        refine gz_nn (fun i28 hi28 hr => ?_)
        subst hr
        refine gz_eqs (st' := [.ref (gz_ad true G 6 i28)]) (lv' := [(0, .ref (gz_ad true G 0 0)), (1, .int a1)]) rfl rfl ?_
        exact gz_athrow C hE dX11_valueBy_51
    · skip
      refine gz_icmp_ne (tgt := 38) C dX11_valueBy_31 (by decide) ?_ ?_
      · skip
        refine gz_iconst C dX11_valueBy_38 gk_iconst_0 ?_
        refine gz_lv (lv' := [(0, .ref (gz_ad true G 0 0)), (1, .int a1)]) [1, 2] rfl ?_
        exact hj39 x2 0 σ3
      · skip
        refine gz_iconst C dX11_valueBy_34 gk_iconst_1 ?_
        refine gz_goto (tgt := 39) C dX11_valueBy_35 (by decide) ?_
        refine gz_lv (lv' := [(0, .ref (gz_ad true G 0 0)), (1, .int a1)]) [1, 2] rfl ?_
        exact hj39 x2 1 σ3
  · skip
    refine gz_j0_row (P := fun σ29 x => gz_W true p l e ({ frames := 1, cells := 0, slots := 0, locals := 22 } : Room) s m args below meth c G 4 (gz_QT true G below args s 0 0 (gz_te G gz_evl)) 0 0 σ29 19 [(0, .ref (gz_ad true G 0 0)), (1, .int a1)] [] x) (fun σ29 => ?_) (fun j19 hj19 => ?_)
    · unfold f_X11_valueBy_J19
      refine gz_iconst C dX11_valueBy_19 gk_iconst_1 ?_
      refine gz_goto (tgt := 24) C dX11_valueBy_20 (by decide) ?_
      exact hj24 1 σ29
    · skip
      refine gz_if_eq (tgt := 19) C dX11_valueBy_6 (by decide) ?_ ?_
      · skip
        exact hj19 σ
      · skip
        refine gz_aload_n C dX11_valueBy_9 0 rfl ?_
        refine gz_get C (t := 0) (k := 23) (ci := 11) (q := (RX11, TX11, 63)) (v := .ref (gz_ad true G 9 0)) dX11_valueBy_10 fl_RX11_50 (gz_hm0 _) rfl rfl (by decide) rfl ?_
        refine gz_iload_n C dX11_valueBy_13 1 rfl ?_
        refine gz_iald C (t := 9) dX11_valueBy_14 (gz_hm9 _) rfl (fun n30 hn30 => ?_)
        refine gz_iconst C dX11_valueBy_15 gk_iconst_1 ?_
        refine gz_icmp_ne (tgt := 23) C dX11_valueBy_16 (by decide) ?_ ?_
        · skip
          refine gz_iconst C dX11_valueBy_23 gk_iconst_0 ?_
          exact hj24 0 σ
        · skip
          exact hj19 σ

def f_X11_readNotice_J272 : Int32 → gz_S → Option (Option Unit × gz_S) := fun v6 σ7 =>
  gz_w (gz_si σ7 0 0 4 v6) (fun σ8 =>
  gz_call (f_X11_stop 6 (σ8.1 0 0 18) σ8) (fun r10 σ9 =>
  gz_nl r10 1 none (fun i11 =>
  some (none, σ9))))
def f_X11_readNotice_J289 (v12 : Int32) (rec212 : Int32 → gz_S → Option (Option Unit × gz_S)) : gz_S → Option (Option Unit × gz_S) := fun σ16 =>
  rec212 (v12 + 1) σ16
def f_X11_readNotice_L212 (a1 : Int32) (v1 : Int32) (j272 : Int32 → gz_S → Option (Option Unit × gz_S)) : (Int32 → gz_S → Option (Option Unit × gz_S)) → Int32 → gz_S → Option (Option Unit × gz_S) := fun rec212 v12 σ13 =>
  gz_ix a1 13 (fun n14 =>
  if (σ13.1 8 0 n14) ≤ v12 then
  (some (some (), σ13))
  else
  (gz_ix ((8 * v1) + v12) 488 (fun n15 =>
  gz_j0 (f_X11_readNotice_J289 v12 rec212) (fun j289 =>
  if (σ13.1 25 0 n15) = 0 then
  (gz_ix ((8 * a1) + v12) 104 (fun n17 =>
  if (σ13.1 12 0 n17) = 0 then
  (gz_ix ((8 * a1) + v12) 104 (fun n18 =>
  if (σ13.1 9 0 n18) < 4 then
  (j272 v12 σ13)
  else
  (j289 σ13)))
  else
  (j289 σ13)))
  else
  (j289 σ13)))))
def f_X11_readNotice_J204 (a1 : Int32) (v1 : Int32) : gz_S → Option (Option Unit × gz_S) := fun σ3 =>
  gz_tcall (f_X11_needSort 1 σ3) (fun r4 σ5 =>
  gz_j1 (f_X11_readNotice_J272) (fun j272 =>
  gz_l1 (f_X11_readNotice_L212 a1 v1 j272) gz_fu 0 σ5))
def f_X11_readNotice_J136 : gz_S → Option (Option Unit × gz_S) := fun σ19 =>
  gz_call (f_X11_stop 1 (σ19.1 0 0 18) σ19) (fun r21 σ20 =>
  gz_nl r21 1 none (fun i22 =>
  some (none, σ20)))
def f_X11_readNotice_J100 : gz_S → Option (Option Unit × gz_S) := fun σ23 =>
  gz_call (f_X11_stop 3 (σ23.1 0 0 18) σ23) (fun r25 σ24 =>
  gz_nl r25 1 none (fun i26 =>
  some (none, σ24)))
def f_X11_readNotice_J75 : gz_S → Option (Option Unit × gz_S) := fun σ27 =>
  gz_call (f_X11_stop 2 (σ27.1 0 0 18) σ27) (fun r29 σ28 =>
  gz_nl r29 1 none (fun i30 =>
  some (none, σ28)))
def f_X11_readNotice_J201 (r51 : Int32) (rec33 : Int32 → gz_S → Option (Option Unit × gz_S)) : gz_S → Option (Option Unit × gz_S) := fun σ52 =>
  rec33 r51 σ52
def f_X11_readNotice_J146 (a1 : Int32) (r36 : Int32) (v1 : Int32) (rec33 : Int32 → gz_S → Option (Option Unit × gz_S)) : gz_S → Option (Option Unit × gz_S) := fun σ42 =>
  gz_tcall (f_X11_valueBy ((8 * a1) + r36) σ42) (fun r43 σ44 =>
  gz_ix ((8 * v1) + r36) 488 (fun n45 =>
  gz_w (gz_sj σ44 21 0 n45 r43) (fun σ46 =>
  gz_ix ((8 * v1) + r36) 488 (fun n47 =>
  gz_w (gz_si σ46 25 0 n47 ((1 : Int32) &&& 1)) (fun σ48 =>
  gz_then (f_X11_next σ48) (fun σ49 =>
  gz_call (f_X11_is 59 σ49) (fun r51 σ50 =>
  gz_j0 (f_X11_readNotice_J201 r51 rec33) (fun j201 =>
  if r51 = 0 then
  (j201 σ50)
  else
  (gz_then (f_X11_next σ50) (fun σ53 =>
  j201 σ53))))))))))
def f_X11_readNotice_L33 (a1 : Int32) (v1 : Int32) (j204 : gz_S → Option (Option Unit × gz_S)) (j75 : gz_S → Option (Option Unit × gz_S)) (j136 : gz_S → Option (Option Unit × gz_S)) (j100 : gz_S → Option (Option Unit × gz_S)) : (Int32 → gz_S → Option (Option Unit × gz_S)) → Int32 → gz_S → Option (Option Unit × gz_S) := fun rec33 v31 σ32 =>
  if v31 = 0 then
  (j204 σ32)
  else
  (gz_tcall (f_X11_needSort 2 σ32) (fun r33 σ34 =>
  gz_call (f_X11_fieldOf a1 (σ34.2.1 0 0 20) σ34) (fun r36 σ35 =>
  if r36 = (-1) then
  (j75 σ35)
  else
  (gz_ix ((8 * a1) + r36) 104 (fun n37 =>
  if (σ35.1 9 0 n37) < 4 then
  (gz_ix ((8 * v1) + r36) 488 (fun n38 =>
  if (σ35.1 25 0 n38) = 0 then
  (gz_then (f_X11_next σ35) (fun σ39 =>
  gz_tcall (f_X11_need 61 σ39) (fun r40 σ41 =>
  gz_j0 (f_X11_readNotice_J146 a1 r36 v1 rec33) (fun j146 =>
  if (σ41.1 0 0 17) = 2 then
  (j146 σ41)
  else
  (if (σ41.1 0 0 17) = 3 then
  (j146 σ41)
  else
  (j136 σ41))))))
  else
  (j100 σ35)))
  else
  (j75 σ35))))))
def f_X11_readNotice_J31 (a1 : Int32) (v1 : Int32) : gz_S → Option (Option Unit × gz_S) := fun σ2 =>
  gz_j0 (f_X11_readNotice_J204 a1 v1) (fun j204 =>
  gz_j0 (f_X11_readNotice_J136) (fun j136 =>
  gz_j0 (f_X11_readNotice_J100) (fun j100 =>
  gz_j0 (f_X11_readNotice_J75) (fun j75 =>
  gz_l1 (f_X11_readNotice_L33 a1 v1 j204 j75 j136 j100) gz_fu 1 σ2))))
def f_X11_readNotice_L7 (v1 : Int32) (j31 : gz_S → Option (Option Unit × gz_S)) : (Int32 → gz_S → Option (Option Unit × gz_S)) → Int32 → gz_S → Option (Option Unit × gz_S) := fun rec7 v54 σ55 =>
  if 8 ≤ v54 then
  (j31 σ55)
  else
  (gz_ix ((8 * v1) + v54) 488 (fun n56 =>
  gz_w (gz_si σ55 25 0 n56 ((0 : Int32) &&& 1)) (fun σ57 =>
  rec7 (v54 + 1) σ57)))
def f_X11_readNotice (a1 : Int32) (σ : gz_S) : Option (Option Unit × gz_S) :=
  gz_v (σ.1 0 0 29) (fun v1 =>
  gz_j0 (f_X11_readNotice_J31 a1 v1) (fun j31 =>
  gz_l1 (f_X11_readNotice_L7 v1 j31) gz_fu 0 σ))
set_option maxHeartbeats 4000000 in
set_option maxRecDepth 100000 in
theorem c_X11_readNotice (l : Launch) (G : gz_G) (a1 : Int32) (σ : gz_S) : ∀ o, f_X11_readNotice a1 σ = some o → gz_MT l true G yX11_readNotice (.code yX11_readNotice cX11_readNotice 5 none) { frames := 3, cells := 0, slots := 0, locals := 64 } [.ref (gz_ad true G 0 0), .int a1] σ ((gz_te G gz_ev0) o) 0 0 := by
  refine gz_enterT RX11 rfl (by decide) (Nat.le_of_ble_eq_true rfl) ?_
  intro p e s m args below meth c C hE
  refine gz_eqs (st' := []) (lv' := [(0, .ref (gz_ad true G 0 0)), (1, .int a1)]) rfl rfl ?_
  unfold f_X11_readNotice
  refine gz_aload_n C dX11_readNotice_0 0 rfl ?_
  refine gz_get C (t := 0) (k := 29) (ci := 11) (q := (RX11, TX11, 63)) (v := .int (σ.1 0 0 29)) dX11_readNotice_1 fl_RX11_173 (gz_hm0 _) rfl rfl (by decide) rfl ?_
  refine gz_topI (fun v1 => ?_)
  refine gz_istore_n C (lv' := [(2, .int v1), (0, .ref (gz_ad true G 0 0)), (1, .int a1)]) dX11_readNotice_4 (by decide) rfl ?_
  refine gz_iconst C dX11_readNotice_5 gk_iconst_0 ?_
  refine gz_istore_n C (lv' := [(3, .int 0), (2, .int v1), (0, .ref (gz_ad true G 0 0)), (1, .int a1)]) dX11_readNotice_6 (by decide) rfl ?_
  refine gz_j0_row (P := fun σ2 x => gz_W true p l e ({ frames := 3, cells := 0, slots := 0, locals := 64 } : Room) s m args below meth c G 5 (gz_QT true G below args s 0 0 (gz_te G gz_ev0)) 0 0 σ2 31 [(0, .ref (gz_ad true G 0 0)), (1, .int a1), (2, .int v1)] [] x) (fun σ2 => ?_) (fun j31 hj31 => ?_)
  · unfold f_X11_readNotice_J31
    refine gz_iconst C dX11_readNotice_31 gk_iconst_1 ?_
    refine gz_istore_n C (lv' := [(3, .int 1), (0, .ref (gz_ad true G 0 0)), (1, .int a1), (2, .int v1)]) dX11_readNotice_32 (by decide) rfl ?_
    refine gz_j0_row (P := fun σ3 x => gz_W true p l e ({ frames := 3, cells := 0, slots := 0, locals := 64 } : Room) s m args below meth c G 5 (gz_QT true G below args s 0 0 (gz_te G gz_ev0)) 0 0 σ3 204 [(0, .ref (gz_ad true G 0 0)), (1, .int a1), (2, .int v1)] [] x) (fun σ3 => ?_) (fun j204 hj204 => ?_)
    · unfold f_X11_readNotice_J204
      refine gz_aload_n C dX11_readNotice_204 0 rfl ?_
      refine gz_iconst C dX11_readNotice_205 gk_iconst_1 ?_
      refine gz_kt C hE (gz_runVT (t := 0) (ci := 11) (q := (RX11, TX11, 63)) (As := [.int 1]) (rest := []) C dX11_readNotice_206 ml_RX11_270 (gz_mt_code mw_X11_needSort) mv_X11_needSort (c_X11_needSort l G 1 σ3) (gz_hm0 _) rfl rfl rfl rfl rfl (Nat.le_of_ble_eq_true rfl) ⟨rfl, rfl, Nat.le_of_ble_eq_true rfl, Nat.le_of_ble_eq_true rfl, Nat.le_of_ble_eq_true rfl, Nat.le_of_ble_eq_true rfl⟩) (fun r4 σ5 => ?_)
      refine gz_eqs (st' := []) (lv' := [(0, .ref (gz_ad true G 0 0)), (1, .int a1), (2, .int v1)]) rfl rfl ?_
      refine gz_iconst C dX11_readNotice_209 gk_iconst_0 ?_
      refine gz_istore C (lv' := [(4, .int 0), (0, .ref (gz_ad true G 0 0)), (1, .int a1), (2, .int v1)]) dX11_readNotice_210 (by decide) rfl ?_
      refine gz_j1_row (P := fun v6 σ7 x => gz_W true p l e ({ frames := 3, cells := 0, slots := 0, locals := 64 } : Room) s m args below meth c G 5 (gz_QT true G below args s 0 0 (gz_te G gz_ev0)) 0 0 σ7 272 [(0, .ref (gz_ad true G 0 0)), (4, .int v6)] [] x) (fun v6 σ7 => ?_) (fun j272 hj272 => ?_)
      · unfold f_X11_readNotice_J272
        refine gz_aload_n C dX11_readNotice_272 0 rfl ?_
        refine gz_iload C dX11_readNotice_273 1 rfl ?_
        refine gz_putI C (t := 0) (k := 4) (ci := 11) (q := (RX11, TX11, 63)) dX11_readNotice_275 fl_RX11_15 (gz_hm0 _) rfl rfl (by decide) rfl rfl rfl rfl ?_
        refine gz_w_row (fun σ8 => ?_)
        refine gz_aload_n C dX11_readNotice_278 0 rfl ?_
        refine gz_bipush C dX11_readNotice_279 gk_bipush_6 ?_
        refine gz_aload_n C dX11_readNotice_281 0 rfl ?_
        refine gz_get C (t := 0) (k := 18) (ci := 11) (q := (RX11, TX11, 63)) (v := .int (σ8.1 0 0 18)) dX11_readNotice_282 fl_RX11_225 (gz_hm0 _) rfl rfl (by decide) rfl ?_
        refine gz_kr (t := 6) (gz_runV (t := 0) (ci := 11) (q := (RX11, TX11, 63)) (As := [.int 6, .int (σ8.1 0 0 18)]) (rest := []) C dX11_readNotice_285 ml_RX11_249 mw_X11_stop mv_X11_stop (c_X11_stop l G 6 (σ8.1 0 0 18) σ8) (gz_hm0 _) rfl rfl rfl rfl rfl (Nat.le_of_ble_eq_true rfl) ⟨rfl, rfl, Nat.le_of_ble_eq_true rfl, Nat.le_of_ble_eq_true rfl, Nat.le_of_ble_eq_true rfl, Nat.le_of_ble_eq_true rfl⟩) (fun r10 σ9 => ?_)
        refine gz_nn (fun i11 hi11 hr => ?_)
        subst hr
        refine gz_eqs (st' := [.ref (gz_ad true G 6 i11)]) (lv' := [(0, .ref (gz_ad true G 0 0)), (4, .int v6)]) rfl rfl ?_
        exact gz_athrow C hE dX11_readNotice_288
      · skip
        refine gz_lv (lv' := [(0, .ref (gz_ad true G 0 0)), (1, .int a1), (2, .int v1), (4, .int 0)]) [1, 2, 3, 0] rfl ?_
        refine gz_l1_ind (P := fun v12 σ13 x => gz_W true p l e ({ frames := 3, cells := 0, slots := 0, locals := 64 } : Room) s m args below meth c G 5 (gz_QT true G below args s 0 0 (gz_te G gz_ev0)) 0 0 σ13 212 [(0, .ref (gz_ad true G 0 0)), (1, .int a1), (2, .int v1), (4, .int v12)] [] x) (fun _ _ => gz_none) (fun rec212 hrec212 v12 σ13 => ?_) gz_fu 0 σ5
        unfold f_X11_readNotice_L212
        refine gz_iload C dX11_readNotice_212 3 rfl ?_
        refine gz_aload_n C dX11_readNotice_214 0 rfl ?_
        refine gz_get C (t := 0) (k := 22) (ci := 11) (q := (RX11, TX11, 63)) (v := .ref (gz_ad true G 8 0)) dX11_readNotice_215 fl_RX11_47 (gz_hm0 _) rfl rfl (by decide) rfl ?_
        refine gz_iload_n C dX11_readNotice_218 1 rfl ?_
        refine gz_iald C (t := 8) dX11_readNotice_219 (gz_hm8 _) rfl (fun n14 hn14 => ?_)
        refine gz_icmp_ge (tgt := 295) C dX11_readNotice_220 (by decide) ?_ ?_
        · skip
          exact gz_vretT C rfl dX11_readNotice_295
        · skip
          refine gz_aload_n C dX11_readNotice_223 0 rfl ?_
          refine gz_get C (t := 0) (k := 42) (ci := 11) (q := (RX11, TX11, 63)) (v := .ref (gz_ad true G 25 0)) dX11_readNotice_224 fl_RX11_101 (gz_hm0 _) rfl rfl (by decide) rfl ?_
          refine gz_bipush C dX11_readNotice_227 gk_bipush_8 ?_
          refine gz_iload_n C dX11_readNotice_229 2 rfl ?_
          refine gz_imul C dX11_readNotice_230 ?_
          refine gz_iload C dX11_readNotice_231 3 rfl ?_
          refine gz_iadd C dX11_readNotice_233 ?_
          refine gz_zald C (t := 25) dX11_readNotice_234 (gz_hm25 _) rfl (fun n15 hn15 => ?_)
          refine gz_j0_row (P := fun σ16 x => gz_W true p l e ({ frames := 3, cells := 0, slots := 0, locals := 64 } : Room) s m args below meth c G 5 (gz_QT true G below args s 0 0 (gz_te G gz_ev0)) 0 0 σ16 289 [(0, .ref (gz_ad true G 0 0)), (1, .int a1), (2, .int v1), (4, .int v12)] [] x) (fun σ16 => ?_) (fun j289 hj289 => ?_)
          · unfold f_X11_readNotice_J289
            refine gz_iinc C (q := 3) (v := v12 + 1) (lv' := [(4, .int (v12 + 1)), (0, .ref (gz_ad true G 0 0)), (1, .int a1), (2, .int v1)]) dX11_readNotice_289 rfl rfl (by decide) rfl ?_
            refine gz_goto (tgt := 212) C dX11_readNotice_292 (by decide) ?_
            refine gz_lv (lv' := [(0, .ref (gz_ad true G 0 0)), (1, .int a1), (2, .int v1), (4, .int (v12 + 1))]) [1, 2, 3, 0] rfl ?_
            exact hrec212 (v12 + 1) σ16
          · skip
            refine gz_if_ne (tgt := 289) C dX11_readNotice_235 (by decide) ?_ ?_
            · skip
              exact hj289 σ13
            · skip
              refine gz_aload_n C dX11_readNotice_238 0 rfl ?_
              refine gz_get C (t := 0) (k := 26) (ci := 11) (q := (RX11, TX11, 63)) (v := .ref (gz_ad true G 12 0)) dX11_readNotice_239 fl_RX11_59 (gz_hm0 _) rfl rfl (by decide) rfl ?_
              refine gz_bipush C dX11_readNotice_242 gk_bipush_8 ?_
              refine gz_iload_n C dX11_readNotice_244 1 rfl ?_
              refine gz_imul C dX11_readNotice_245 ?_
              refine gz_iload C dX11_readNotice_246 3 rfl ?_
              refine gz_iadd C dX11_readNotice_248 ?_
              refine gz_zald C (t := 12) dX11_readNotice_249 (gz_hm12 _) rfl (fun n17 hn17 => ?_)
              refine gz_if_ne (tgt := 289) C dX11_readNotice_250 (by decide) ?_ ?_
              · skip
                exact hj289 σ13
              · skip
                refine gz_aload_n C dX11_readNotice_253 0 rfl ?_
                refine gz_get C (t := 0) (k := 23) (ci := 11) (q := (RX11, TX11, 63)) (v := .ref (gz_ad true G 9 0)) dX11_readNotice_254 fl_RX11_50 (gz_hm0 _) rfl rfl (by decide) rfl ?_
                refine gz_bipush C dX11_readNotice_257 gk_bipush_8 ?_
                refine gz_iload_n C dX11_readNotice_259 1 rfl ?_
                refine gz_imul C dX11_readNotice_260 ?_
                refine gz_iload C dX11_readNotice_261 3 rfl ?_
                refine gz_iadd C dX11_readNotice_263 ?_
                refine gz_iald C (t := 9) dX11_readNotice_264 (gz_hm9 _) rfl (fun n18 hn18 => ?_)
                refine gz_iconst C dX11_readNotice_265 gk_iconst_4 ?_
                refine gz_icmp_lt (tgt := 272) C dX11_readNotice_266 (by decide) ?_ ?_
                · skip
                  refine gz_lv (lv' := [(0, .ref (gz_ad true G 0 0)), (4, .int v12)]) [0, 3] rfl ?_
                  exact hj272 v12 σ13
                · skip
                  refine gz_goto (tgt := 289) C dX11_readNotice_269 (by decide) ?_
                  exact hj289 σ13
    · skip
      refine gz_j0_row (P := fun σ19 x => gz_W true p l e ({ frames := 3, cells := 0, slots := 0, locals := 64 } : Room) s m args below meth c G 5 (gz_QT true G below args s 0 0 (gz_te G gz_ev0)) 0 0 σ19 136 [(0, .ref (gz_ad true G 0 0))] [] x) (fun σ19 => ?_) (fun j136 hj136 => ?_)
      · unfold f_X11_readNotice_J136
        refine gz_aload_n C dX11_readNotice_136 0 rfl ?_
        refine gz_iconst C dX11_readNotice_137 gk_iconst_1 ?_
        refine gz_aload_n C dX11_readNotice_138 0 rfl ?_
        refine gz_get C (t := 0) (k := 18) (ci := 11) (q := (RX11, TX11, 63)) (v := .int (σ19.1 0 0 18)) dX11_readNotice_139 fl_RX11_225 (gz_hm0 _) rfl rfl (by decide) rfl ?_
        refine gz_kr (t := 6) (gz_runV (t := 0) (ci := 11) (q := (RX11, TX11, 63)) (As := [.int 1, .int (σ19.1 0 0 18)]) (rest := []) C dX11_readNotice_142 ml_RX11_249 mw_X11_stop mv_X11_stop (c_X11_stop l G 1 (σ19.1 0 0 18) σ19) (gz_hm0 _) rfl rfl rfl rfl rfl (Nat.le_of_ble_eq_true rfl) ⟨rfl, rfl, Nat.le_of_ble_eq_true rfl, Nat.le_of_ble_eq_true rfl, Nat.le_of_ble_eq_true rfl, Nat.le_of_ble_eq_true rfl⟩) (fun r21 σ20 => ?_)
        refine gz_nn (fun i22 hi22 hr => ?_)
        subst hr
        refine gz_eqs (st' := [.ref (gz_ad true G 6 i22)]) (lv' := [(0, .ref (gz_ad true G 0 0))]) rfl rfl ?_
        exact gz_athrow C hE dX11_readNotice_145
      · skip
        refine gz_j0_row (P := fun σ23 x => gz_W true p l e ({ frames := 3, cells := 0, slots := 0, locals := 64 } : Room) s m args below meth c G 5 (gz_QT true G below args s 0 0 (gz_te G gz_ev0)) 0 0 σ23 100 [(0, .ref (gz_ad true G 0 0))] [] x) (fun σ23 => ?_) (fun j100 hj100 => ?_)
        · unfold f_X11_readNotice_J100
          refine gz_aload_n C dX11_readNotice_100 0 rfl ?_
          refine gz_iconst C dX11_readNotice_101 gk_iconst_3 ?_
          refine gz_aload_n C dX11_readNotice_102 0 rfl ?_
          refine gz_get C (t := 0) (k := 18) (ci := 11) (q := (RX11, TX11, 63)) (v := .int (σ23.1 0 0 18)) dX11_readNotice_103 fl_RX11_225 (gz_hm0 _) rfl rfl (by decide) rfl ?_
          refine gz_kr (t := 6) (gz_runV (t := 0) (ci := 11) (q := (RX11, TX11, 63)) (As := [.int 3, .int (σ23.1 0 0 18)]) (rest := []) C dX11_readNotice_106 ml_RX11_249 mw_X11_stop mv_X11_stop (c_X11_stop l G 3 (σ23.1 0 0 18) σ23) (gz_hm0 _) rfl rfl rfl rfl rfl (Nat.le_of_ble_eq_true rfl) ⟨rfl, rfl, Nat.le_of_ble_eq_true rfl, Nat.le_of_ble_eq_true rfl, Nat.le_of_ble_eq_true rfl, Nat.le_of_ble_eq_true rfl⟩) (fun r25 σ24 => ?_)
          refine gz_nn (fun i26 hi26 hr => ?_)
          subst hr
          refine gz_eqs (st' := [.ref (gz_ad true G 6 i26)]) (lv' := [(0, .ref (gz_ad true G 0 0))]) rfl rfl ?_
          exact gz_athrow C hE dX11_readNotice_109
        · skip
          refine gz_j0_row (P := fun σ27 x => gz_W true p l e ({ frames := 3, cells := 0, slots := 0, locals := 64 } : Room) s m args below meth c G 5 (gz_QT true G below args s 0 0 (gz_te G gz_ev0)) 0 0 σ27 75 [(0, .ref (gz_ad true G 0 0))] [] x) (fun σ27 => ?_) (fun j75 hj75 => ?_)
          · unfold f_X11_readNotice_J75
            refine gz_aload_n C dX11_readNotice_75 0 rfl ?_
            refine gz_iconst C dX11_readNotice_76 gk_iconst_2 ?_
            refine gz_aload_n C dX11_readNotice_77 0 rfl ?_
            refine gz_get C (t := 0) (k := 18) (ci := 11) (q := (RX11, TX11, 63)) (v := .int (σ27.1 0 0 18)) dX11_readNotice_78 fl_RX11_225 (gz_hm0 _) rfl rfl (by decide) rfl ?_
            refine gz_kr (t := 6) (gz_runV (t := 0) (ci := 11) (q := (RX11, TX11, 63)) (As := [.int 2, .int (σ27.1 0 0 18)]) (rest := []) C dX11_readNotice_81 ml_RX11_249 mw_X11_stop mv_X11_stop (c_X11_stop l G 2 (σ27.1 0 0 18) σ27) (gz_hm0 _) rfl rfl rfl rfl rfl (Nat.le_of_ble_eq_true rfl) ⟨rfl, rfl, Nat.le_of_ble_eq_true rfl, Nat.le_of_ble_eq_true rfl, Nat.le_of_ble_eq_true rfl, Nat.le_of_ble_eq_true rfl⟩) (fun r29 σ28 => ?_)
            refine gz_nn (fun i30 hi30 hr => ?_)
            subst hr
            refine gz_eqs (st' := [.ref (gz_ad true G 6 i30)]) (lv' := [(0, .ref (gz_ad true G 0 0))]) rfl rfl ?_
            exact gz_athrow C hE dX11_readNotice_84
          · skip
            refine gz_lv (lv' := [(0, .ref (gz_ad true G 0 0)), (1, .int a1), (2, .int v1), (3, .int 1)]) [1, 2, 3, 0] rfl ?_
            refine gz_l1_ind (P := fun v31 σ32 x => gz_W true p l e ({ frames := 3, cells := 0, slots := 0, locals := 64 } : Room) s m args below meth c G 5 (gz_QT true G below args s 0 0 (gz_te G gz_ev0)) 0 0 σ32 33 [(0, .ref (gz_ad true G 0 0)), (1, .int a1), (2, .int v1), (3, .int v31)] [] x) (fun _ _ => gz_none) (fun rec33 hrec33 v31 σ32 => ?_) gz_fu 1 σ2
            unfold f_X11_readNotice_L33
            refine gz_iload_n C dX11_readNotice_33 3 rfl ?_
            refine gz_if_eq (tgt := 204) C dX11_readNotice_34 (by decide) ?_ ?_
            · skip
              refine gz_lv (lv' := [(0, .ref (gz_ad true G 0 0)), (1, .int a1), (2, .int v1)]) [0, 1, 2] rfl ?_
              exact hj204 σ32
            · skip
              refine gz_aload_n C dX11_readNotice_37 0 rfl ?_
              refine gz_iconst C dX11_readNotice_38 gk_iconst_2 ?_
              refine gz_kt C hE (gz_runVT (t := 0) (ci := 11) (q := (RX11, TX11, 63)) (As := [.int 2]) (rest := []) C dX11_readNotice_39 ml_RX11_270 (gz_mt_code mw_X11_needSort) mv_X11_needSort (c_X11_needSort l G 2 σ32) (gz_hm0 _) rfl rfl rfl rfl rfl (Nat.le_of_ble_eq_true rfl) ⟨rfl, rfl, Nat.le_of_ble_eq_true rfl, Nat.le_of_ble_eq_true rfl, Nat.le_of_ble_eq_true rfl, Nat.le_of_ble_eq_true rfl⟩) (fun r33 σ34 => ?_)
              refine gz_eqs (st' := []) (lv' := [(0, .ref (gz_ad true G 0 0)), (1, .int a1), (2, .int v1), (3, .int v31)]) rfl rfl ?_
              refine gz_aload_n C dX11_readNotice_42 0 rfl ?_
              refine gz_iload_n C dX11_readNotice_43 1 rfl ?_
              refine gz_aload_n C dX11_readNotice_44 0 rfl ?_
              refine gz_get C (t := 0) (k := 20) (ci := 11) (q := (RX11, TX11, 63)) (v := .long (σ34.2.1 0 0 20)) dX11_readNotice_45 fl_RX11_232 (gz_hm0 _) rfl rfl (by decide) rfl ?_
              refine gz_ki (gz_runV (t := 0) (ci := 11) (q := (RX11, TX11, 63)) (As := [.int a1, .long (σ34.2.1 0 0 20)]) (rest := []) C dX11_readNotice_48 ml_RX11_274 mw_X11_fieldOf mv_X11_fieldOf (c_X11_fieldOf l G a1 (σ34.2.1 0 0 20) σ34) (gz_hm0 _) rfl rfl rfl rfl rfl (Nat.le_of_ble_eq_true rfl) ⟨rfl, rfl, Nat.le_of_ble_eq_true rfl, Nat.le_of_ble_eq_true rfl, Nat.le_of_ble_eq_true rfl, Nat.le_of_ble_eq_true rfl⟩) (fun r36 σ35 => ?_)
              refine gz_istore C (lv' := [(4, .int r36), (0, .ref (gz_ad true G 0 0)), (1, .int a1), (2, .int v1), (3, .int v31)]) dX11_readNotice_51 (by decide) rfl ?_
              refine gz_iload C dX11_readNotice_53 0 rfl ?_
              refine gz_iconst C dX11_readNotice_55 gk_iconst_m1 ?_
              refine gz_icmp_eq (tgt := 75) C dX11_readNotice_56 (by decide) ?_ ?_
              · skip
                refine gz_lv (lv' := [(0, .ref (gz_ad true G 0 0))]) [1] rfl ?_
                exact hj75 σ35
              · skip
                refine gz_aload_n C dX11_readNotice_59 1 rfl ?_
                refine gz_get C (t := 0) (k := 23) (ci := 11) (q := (RX11, TX11, 63)) (v := .ref (gz_ad true G 9 0)) dX11_readNotice_60 fl_RX11_50 (gz_hm0 _) rfl rfl (by decide) rfl ?_
                refine gz_bipush C dX11_readNotice_63 gk_bipush_8 ?_
                refine gz_iload_n C dX11_readNotice_65 2 rfl ?_
                refine gz_imul C dX11_readNotice_66 ?_
                refine gz_iload C dX11_readNotice_67 0 rfl ?_
                refine gz_iadd C dX11_readNotice_69 ?_
                refine gz_iald C (t := 9) dX11_readNotice_70 (gz_hm9 _) rfl (fun n37 hn37 => ?_)
                refine gz_iconst C dX11_readNotice_71 gk_iconst_4 ?_
                refine gz_icmp_lt (tgt := 85) C dX11_readNotice_72 (by decide) ?_ ?_
                · skip
                  refine gz_aload_n C dX11_readNotice_85 1 rfl ?_
                  refine gz_get C (t := 0) (k := 42) (ci := 11) (q := (RX11, TX11, 63)) (v := .ref (gz_ad true G 25 0)) dX11_readNotice_86 fl_RX11_101 (gz_hm0 _) rfl rfl (by decide) rfl ?_
                  refine gz_bipush C dX11_readNotice_89 gk_bipush_8 ?_
                  refine gz_iload_n C dX11_readNotice_91 3 rfl ?_
                  refine gz_imul C dX11_readNotice_92 ?_
                  refine gz_iload C dX11_readNotice_93 0 rfl ?_
                  refine gz_iadd C dX11_readNotice_95 ?_
                  refine gz_zald C (t := 25) dX11_readNotice_96 (gz_hm25 _) rfl (fun n38 hn38 => ?_)
                  refine gz_if_eq (tgt := 110) C dX11_readNotice_97 (by decide) ?_ ?_
                  · skip
                    refine gz_aload_n C dX11_readNotice_110 1 rfl ?_
                    refine gz_kv (gz_runV (t := 0) (ci := 11) (q := (RX11, TX11, 63)) (As := []) (rest := []) C dX11_readNotice_111 ml_RX11_252 mw_X11_next mv_X11_next (c_X11_next l G σ35) (gz_hm0 _) rfl rfl rfl rfl rfl (Nat.le_of_ble_eq_true rfl) ⟨rfl, rfl, Nat.le_of_ble_eq_true rfl, Nat.le_of_ble_eq_true rfl, Nat.le_of_ble_eq_true rfl, Nat.le_of_ble_eq_true rfl⟩) (fun σ39 => ?_)
                    refine gz_aload_n C dX11_readNotice_114 1 rfl ?_
                    refine gz_bipush C dX11_readNotice_115 gk_bipush_61 ?_
                    refine gz_kt C hE (gz_runVT (t := 0) (ci := 11) (q := (RX11, TX11, 63)) (As := [.int 61]) (rest := []) C dX11_readNotice_117 ml_RX11_278 (gz_mt_code mw_X11_need) mv_X11_need (c_X11_need l G 61 σ39) (gz_hm0 _) rfl rfl rfl rfl rfl (Nat.le_of_ble_eq_true rfl) ⟨rfl, rfl, Nat.le_of_ble_eq_true rfl, Nat.le_of_ble_eq_true rfl, Nat.le_of_ble_eq_true rfl, Nat.le_of_ble_eq_true rfl⟩) (fun r40 σ41 => ?_)
                    refine gz_eqs (st' := []) (lv' := [(4, .int r36), (0, .ref (gz_ad true G 0 0)), (1, .int a1), (2, .int v1), (3, .int v31)]) rfl rfl ?_
                    refine gz_aload_n C dX11_readNotice_120 1 rfl ?_
                    refine gz_get C (t := 0) (k := 17) (ci := 11) (q := (RX11, TX11, 63)) (v := .int (σ41.1 0 0 17)) dX11_readNotice_121 fl_RX11_226 (gz_hm0 _) rfl rfl (by decide) rfl ?_
                    refine gz_iconst C dX11_readNotice_124 gk_iconst_2 ?_
                    refine gz_j0_row (P := fun σ42 x => gz_W true p l e ({ frames := 3, cells := 0, slots := 0, locals := 64 } : Room) s m args below meth c G 5 (gz_QT true G below args s 0 0 (gz_te G gz_ev0)) 0 0 σ42 146 [(0, .ref (gz_ad true G 0 0)), (1, .int a1), (2, .int v1), (4, .int r36)] [] x) (fun σ42 => ?_) (fun j146 hj146 => ?_)
                    · unfold f_X11_readNotice_J146
                      refine gz_aload_n C dX11_readNotice_146 0 rfl ?_
                      refine gz_get C (t := 0) (k := 38) (ci := 11) (q := (RX11, TX11, 63)) (v := .ref (gz_ad true G 21 0)) dX11_readNotice_147 fl_RX11_89 (gz_hm0 _) rfl rfl (by decide) rfl ?_
                      refine gz_bipush C dX11_readNotice_150 gk_bipush_8 ?_
                      refine gz_iload_n C dX11_readNotice_152 2 rfl ?_
                      refine gz_imul C dX11_readNotice_153 ?_
                      refine gz_iload C dX11_readNotice_154 3 rfl ?_
                      refine gz_iadd C dX11_readNotice_156 ?_
                      refine gz_aload_n C dX11_readNotice_157 0 rfl ?_
                      refine gz_bipush C dX11_readNotice_158 gk_bipush_8 ?_
                      refine gz_iload_n C dX11_readNotice_160 1 rfl ?_
                      refine gz_imul C dX11_readNotice_161 ?_
                      refine gz_iload C dX11_readNotice_162 3 rfl ?_
                      refine gz_iadd C dX11_readNotice_164 ?_
                      refine gz_kt C hE (gz_runVT (t := 0) (ci := 11) (q := (RX11, TX11, 63)) (As := [.int ((8 * a1) + r36)]) (rest := [.int ((8 * v1) + r36), .ref (gz_ad true G 21 0)]) C dX11_readNotice_165 ml_RX11_321 (gz_mt_code mw_X11_valueBy) mv_X11_valueBy (c_X11_valueBy l G ((8 * a1) + r36) σ42) (gz_hm0 _) rfl rfl rfl rfl rfl (Nat.le_of_ble_eq_true rfl) ⟨rfl, rfl, Nat.le_of_ble_eq_true rfl, Nat.le_of_ble_eq_true rfl, Nat.le_of_ble_eq_true rfl, Nat.le_of_ble_eq_true rfl⟩) (fun r43 σ44 => ?_)
                      refine gz_eqs (st' := [.long r43, .int ((8 * v1) + r36), .ref (gz_ad true G 21 0)]) (lv' := [(0, .ref (gz_ad true G 0 0)), (1, .int a1), (2, .int v1), (4, .int r36)]) rfl rfl ?_
                      refine gz_last C (t := 21) dX11_readNotice_168 (gz_hm21 _) rfl (fun n45 hn45 => ?_)
                      refine gz_w_row (fun σ46 => ?_)
                      refine gz_aload_n C dX11_readNotice_169 0 rfl ?_
                      refine gz_get C (t := 0) (k := 42) (ci := 11) (q := (RX11, TX11, 63)) (v := .ref (gz_ad true G 25 0)) dX11_readNotice_170 fl_RX11_101 (gz_hm0 _) rfl rfl (by decide) rfl ?_
                      refine gz_bipush C dX11_readNotice_173 gk_bipush_8 ?_
                      refine gz_iload_n C dX11_readNotice_175 2 rfl ?_
                      refine gz_imul C dX11_readNotice_176 ?_
                      refine gz_iload C dX11_readNotice_177 3 rfl ?_
                      refine gz_iadd C dX11_readNotice_179 ?_
                      refine gz_iconst C dX11_readNotice_180 gk_iconst_1 ?_
                      refine gz_zast C (t := 25) dX11_readNotice_181 (gz_hm25 _) rfl (fun n47 hn47 => ?_)
                      refine gz_w_row (fun σ48 => ?_)
                      refine gz_aload_n C dX11_readNotice_182 0 rfl ?_
                      refine gz_kv (gz_runV (t := 0) (ci := 11) (q := (RX11, TX11, 63)) (As := []) (rest := []) C dX11_readNotice_183 ml_RX11_252 mw_X11_next mv_X11_next (c_X11_next l G σ48) (gz_hm0 _) rfl rfl rfl rfl rfl (Nat.le_of_ble_eq_true rfl) ⟨rfl, rfl, Nat.le_of_ble_eq_true rfl, Nat.le_of_ble_eq_true rfl, Nat.le_of_ble_eq_true rfl, Nat.le_of_ble_eq_true rfl⟩) (fun σ49 => ?_)
                      refine gz_aload_n C dX11_readNotice_186 0 rfl ?_
                      refine gz_bipush C dX11_readNotice_187 gk_bipush_59 ?_
                      refine gz_ki (gz_runV (t := 0) (ci := 11) (q := (RX11, TX11, 63)) (As := [.int 59]) (rest := []) C dX11_readNotice_189 ml_RX11_246 mw_X11_is mv_X11_is (c_X11_is l G 59 σ49) (gz_hm0 _) rfl rfl rfl rfl rfl (Nat.le_of_ble_eq_true rfl) ⟨rfl, rfl, Nat.le_of_ble_eq_true rfl, Nat.le_of_ble_eq_true rfl, Nat.le_of_ble_eq_true rfl, Nat.le_of_ble_eq_true rfl⟩) (fun r51 σ50 => ?_)
                      refine gz_istore_n C (lv' := [(3, .int r51), (0, .ref (gz_ad true G 0 0)), (1, .int a1), (2, .int v1), (4, .int r36)]) dX11_readNotice_192 (by decide) rfl ?_
                      refine gz_iload_n C dX11_readNotice_193 0 rfl ?_
                      refine gz_j0_row (P := fun σ52 x => gz_W true p l e ({ frames := 3, cells := 0, slots := 0, locals := 64 } : Room) s m args below meth c G 5 (gz_QT true G below args s 0 0 (gz_te G gz_ev0)) 0 0 σ52 201 [(0, .ref (gz_ad true G 0 0)), (1, .int a1), (2, .int v1), (3, .int r51)] [] x) (fun σ52 => ?_) (fun j201 hj201 => ?_)
                      · unfold f_X11_readNotice_J201
                        refine gz_goto (tgt := 33) C dX11_readNotice_201 (by decide) ?_
                        exact hrec33 r51 σ52
                      · skip
                        refine gz_if_eq (tgt := 201) C dX11_readNotice_194 (by decide) ?_ ?_
                        · skip
                          refine gz_lv (lv' := [(0, .ref (gz_ad true G 0 0)), (1, .int a1), (2, .int v1), (3, .int r51)]) [1, 2, 3, 0] rfl ?_
                          exact hj201 σ50
                        · skip
                          refine gz_aload_n C dX11_readNotice_197 1 rfl ?_
                          refine gz_kv (gz_runV (t := 0) (ci := 11) (q := (RX11, TX11, 63)) (As := []) (rest := []) C dX11_readNotice_198 ml_RX11_252 mw_X11_next mv_X11_next (c_X11_next l G σ50) (gz_hm0 _) rfl rfl rfl rfl rfl (Nat.le_of_ble_eq_true rfl) ⟨rfl, rfl, Nat.le_of_ble_eq_true rfl, Nat.le_of_ble_eq_true rfl, Nat.le_of_ble_eq_true rfl, Nat.le_of_ble_eq_true rfl⟩) (fun σ53 => ?_)
                          refine gz_lv (lv' := [(0, .ref (gz_ad true G 0 0)), (1, .int a1), (2, .int v1), (3, .int r51)]) [1, 2, 3, 0] rfl ?_
                          exact hj201 σ53
                    · skip
                      refine gz_icmp_eq (tgt := 146) C dX11_readNotice_125 (by decide) ?_ ?_
                      · skip
                        refine gz_lv (lv' := [(0, .ref (gz_ad true G 0 0)), (1, .int a1), (2, .int v1), (4, .int r36)]) [1, 2, 3, 0] rfl ?_
                        exact hj146 σ41
                      · skip
                        refine gz_aload_n C dX11_readNotice_128 1 rfl ?_
                        refine gz_get C (t := 0) (k := 17) (ci := 11) (q := (RX11, TX11, 63)) (v := .int (σ41.1 0 0 17)) dX11_readNotice_129 fl_RX11_226 (gz_hm0 _) rfl rfl (by decide) rfl ?_
                        refine gz_iconst C dX11_readNotice_132 gk_iconst_3 ?_
                        refine gz_icmp_eq (tgt := 146) C dX11_readNotice_133 (by decide) ?_ ?_
                        · skip
                          refine gz_lv (lv' := [(0, .ref (gz_ad true G 0 0)), (1, .int a1), (2, .int v1), (4, .int r36)]) [1, 2, 3, 0] rfl ?_
                          exact hj146 σ41
                        · skip
                          refine gz_lv (lv' := [(0, .ref (gz_ad true G 0 0))]) [1] rfl ?_
                          exact hj136 σ41
                  · skip
                    refine gz_lv (lv' := [(0, .ref (gz_ad true G 0 0))]) [1] rfl ?_
                    exact hj100 σ35
                · skip
                  refine gz_lv (lv' := [(0, .ref (gz_ad true G 0 0))]) [1] rfl ?_
                  exact hj75 σ35
  · skip
    refine gz_lv (lv' := [(0, .ref (gz_ad true G 0 0)), (1, .int a1), (2, .int v1), (3, .int 0)]) [2, 3, 1, 0] rfl ?_
    refine gz_l1_ind (P := fun v54 σ55 x => gz_W true p l e ({ frames := 3, cells := 0, slots := 0, locals := 64 } : Room) s m args below meth c G 5 (gz_QT true G below args s 0 0 (gz_te G gz_ev0)) 0 0 σ55 7 [(0, .ref (gz_ad true G 0 0)), (1, .int a1), (2, .int v1), (3, .int v54)] [] x) (fun _ _ => gz_none) (fun rec7 hrec7 v54 σ55 => ?_) gz_fu 0 σ
    unfold f_X11_readNotice_L7
    refine gz_iload_n C dX11_readNotice_7 3 rfl ?_
    refine gz_bipush C dX11_readNotice_8 gk_bipush_8 ?_
    refine gz_icmp_ge (tgt := 31) C dX11_readNotice_10 (by decide) ?_ ?_
    · skip
      refine gz_lv (lv' := [(0, .ref (gz_ad true G 0 0)), (1, .int a1), (2, .int v1)]) [0, 1, 2] rfl ?_
      exact hj31 σ55
    · skip
      refine gz_aload_n C dX11_readNotice_13 0 rfl ?_
      refine gz_get C (t := 0) (k := 42) (ci := 11) (q := (RX11, TX11, 63)) (v := .ref (gz_ad true G 25 0)) dX11_readNotice_14 fl_RX11_101 (gz_hm0 _) rfl rfl (by decide) rfl ?_
      refine gz_bipush C dX11_readNotice_17 gk_bipush_8 ?_
      refine gz_iload_n C dX11_readNotice_19 2 rfl ?_
      refine gz_imul C dX11_readNotice_20 ?_
      refine gz_iload_n C dX11_readNotice_21 3 rfl ?_
      refine gz_iadd C dX11_readNotice_22 ?_
      refine gz_iconst C dX11_readNotice_23 gk_iconst_0 ?_
      refine gz_zast C (t := 25) dX11_readNotice_24 (gz_hm25 _) rfl (fun n56 hn56 => ?_)
      refine gz_w_row (fun σ57 => ?_)
      refine gz_iinc C (q := 3) (v := v54 + 1) (lv' := [(3, .int (v54 + 1)), (0, .ref (gz_ad true G 0 0)), (1, .int a1), (2, .int v1)]) dX11_readNotice_25 rfl rfl (by decide) rfl ?_
      refine gz_goto (tgt := 7) C dX11_readNotice_28 (by decide) ?_
      refine gz_lv (lv' := [(0, .ref (gz_ad true G 0 0)), (1, .int a1), (2, .int v1), (3, .int (v54 + 1))]) [1, 2, 3, 0] rfl ?_
      exact hrec7 (v54 + 1) σ57
