def f_J9_min_7cf53 (a0 : Int32) (a1 : Int32) (σ : gz_S) : Option (Int32 × gz_S) :=
  if a1 < a0 then
  (some (a1, σ))
  else
  (some (a0, σ))
set_option maxHeartbeats 4000000 in
set_option maxRecDepth 100000 in
theorem c_J9_min_7cf53 (l : Launch) (G : gz_G) (b : Bool) (a0 : Int32) (a1 : Int32) (σ : gz_S) : ∀ o, f_J9_min_7cf53 a0 a1 σ = some o → gz_M l b G yJ9_min_7cf53 cJ9_min_7cf53 2 (some .int) { frames := 0, cells := 0, slots := 0, locals := 0 } [.int a0, .int a1] σ (gz_ei o) 0 0 := by
  refine gz_enterF RJ9 rfl (by decide +kernel) (Nat.le_of_ble_eq_true rfl) ?_
  intro p e s m args below meth c C
  refine gz_eqs (st' := []) (lv' := [(0, .int a0), (1, .int a1)]) rfl rfl ?_
  unfold f_J9_min_7cf53
  refine gz_iload_n C dJ9_min_7cf53_0 0 rfl ?_
  refine gz_iload_n C dJ9_min_7cf53_1 1 rfl ?_
  refine gz_icmp_gt (tgt := 9) C dJ9_min_7cf53_2 (by decide) ?_ ?_
  · skip
    refine gz_iload_n C dJ9_min_7cf53_9 1 rfl ?_
    exact gz_iret C rfl dJ9_min_7cf53_10
  · skip
    refine gz_iload_n C dJ9_min_7cf53_5 0 rfl ?_
    refine gz_goto (tgt := 10) C dJ9_min_7cf53_6 (by decide) ?_
    exact gz_iret C rfl dJ9_min_7cf53_10

def f_X0_push (a1 : Int32) (a2 : Int32) (a3 : Int64) (a4 : Int64) (σ : gz_S) : Option (gz_S) :=
  gz_ix (σ.1 26 0 4) 100 (fun n1 =>
  gz_w (gz_si σ 27 0 n1 a1) (fun σ2 =>
  gz_ix (σ2.1 26 0 4) 100 (fun n3 =>
  gz_w (gz_si σ2 28 0 n3 a2) (fun σ4 =>
  gz_ix (σ4.1 26 0 4) 100 (fun n5 =>
  gz_w (gz_sj σ4 29 0 n5 a3) (fun σ6 =>
  gz_ix (σ6.1 26 0 4) 100 (fun n7 =>
  gz_w (gz_sj σ6 30 0 n7 a4) (fun σ8 =>
  gz_w (gz_si σ8 26 0 4 (gz_rem ((σ8.1 26 0 4) + 1) 100)) (fun σ9 =>
  gz_call (f_J9_min_7cf53 ((σ9.1 26 0 5) + 1) 100 σ9) (fun r11 σ10 =>
  gz_w (gz_si σ10 26 0 5 r11) (fun σ12 =>
  some σ12)))))))))))
set_option maxHeartbeats 4000000 in
set_option maxRecDepth 100000 in
theorem c_X0_push (l : Launch) (G : gz_G) (a1 : Int32) (a2 : Int32) (a3 : Int64) (a4 : Int64) (σ : gz_S) : ∀ o, f_X0_push a1 a2 a3 a4 σ = some o → gz_M l false G yX0_push cX0_push 7 none { frames := 1, cells := 0, slots := 0, locals := 21 } [.ref (gz_ad false G 26 0), .int a1, .int a2, .long a3, .long a4] σ (gz_eu o) 0 0 := by
  refine gz_enter RX0 rfl (by decide) (Nat.le_of_ble_eq_true rfl) ?_
  intro p e s m args below meth c C
  refine gz_eqs (st' := []) (lv' := [(0, .ref (gz_ad false G 26 0)), (1, .int a1), (2, .int a2), (3, .long a3), (5, .long a4)]) rfl rfl ?_
  unfold f_X0_push
  refine gz_aload_n C dX0_push_0 0 rfl ?_
  refine gz_get C (t := 26) (k := 0) (ci := 0) (q := (RX0, TX0, 10)) (v := .ref (gz_ad false G 27 0)) dX0_push_1 fl_RX0_9 (gz_hx26 _) rfl rfl (by decide) rfl ?_
  refine gz_aload_n C dX0_push_4 0 rfl ?_
  refine gz_get C (t := 26) (k := 4) (ci := 0) (q := (RX0, TX0, 10)) (v := .int (σ.1 26 0 4)) dX0_push_5 fl_RX0_25 (gz_hx26 _) rfl rfl (by decide) rfl ?_
  refine gz_iload_n C dX0_push_8 1 rfl ?_
  refine gz_iast C (t := 27) dX0_push_9 (gz_hx27 _) rfl (fun n1 hn1 => ?_)
  refine gz_w_row (fun σ2 => ?_)
  refine gz_aload_n C dX0_push_10 0 rfl ?_
  refine gz_get C (t := 26) (k := 1) (ci := 0) (q := (RX0, TX0, 10)) (v := .ref (gz_ad false G 28 0)) dX0_push_11 fl_RX0_15 (gz_hx26 _) rfl rfl (by decide) rfl ?_
  refine gz_aload_n C dX0_push_14 0 rfl ?_
  refine gz_get C (t := 26) (k := 4) (ci := 0) (q := (RX0, TX0, 10)) (v := .int (σ2.1 26 0 4)) dX0_push_15 fl_RX0_25 (gz_hx26 _) rfl rfl (by decide) rfl ?_
  refine gz_iload_n C dX0_push_18 2 rfl ?_
  refine gz_iast C (t := 28) dX0_push_19 (gz_hx28 _) rfl (fun n3 hn3 => ?_)
  refine gz_w_row (fun σ4 => ?_)
  refine gz_aload_n C dX0_push_20 0 rfl ?_
  refine gz_get C (t := 26) (k := 2) (ci := 0) (q := (RX0, TX0, 10)) (v := .ref (gz_ad false G 29 0)) dX0_push_21 fl_RX0_18 (gz_hx26 _) rfl rfl (by decide) rfl ?_
  refine gz_aload_n C dX0_push_24 0 rfl ?_
  refine gz_get C (t := 26) (k := 4) (ci := 0) (q := (RX0, TX0, 10)) (v := .int (σ4.1 26 0 4)) dX0_push_25 fl_RX0_25 (gz_hx26 _) rfl rfl (by decide) rfl ?_
  refine gz_lload_n C dX0_push_28 3 rfl ?_
  refine gz_last C (t := 29) dX0_push_29 (gz_hx29 _) rfl (fun n5 hn5 => ?_)
  refine gz_w_row (fun σ6 => ?_)
  refine gz_aload_n C dX0_push_30 0 rfl ?_
  refine gz_get C (t := 26) (k := 3) (ci := 0) (q := (RX0, TX0, 10)) (v := .ref (gz_ad false G 30 0)) dX0_push_31 fl_RX0_22 (gz_hx26 _) rfl rfl (by decide) rfl ?_
  refine gz_aload_n C dX0_push_34 0 rfl ?_
  refine gz_get C (t := 26) (k := 4) (ci := 0) (q := (RX0, TX0, 10)) (v := .int (σ6.1 26 0 4)) dX0_push_35 fl_RX0_25 (gz_hx26 _) rfl rfl (by decide) rfl ?_
  refine gz_lload C dX0_push_38 4 rfl ?_
  refine gz_last C (t := 30) dX0_push_40 (gz_hx30 _) rfl (fun n7 hn7 => ?_)
  refine gz_w_row (fun σ8 => ?_)
  refine gz_aload_n C dX0_push_41 0 rfl ?_
  refine gz_aload_n C dX0_push_42 0 rfl ?_
  refine gz_get C (t := 26) (k := 4) (ci := 0) (q := (RX0, TX0, 10)) (v := .int (σ8.1 26 0 4)) dX0_push_43 fl_RX0_25 (gz_hx26 _) rfl rfl (by decide) rfl ?_
  refine gz_iconst C dX0_push_46 gk_iconst_1 ?_
  refine gz_iadd C dX0_push_47 ?_
  refine gz_bipush C dX0_push_48 gk_bipush_100 ?_
  refine gz_irem C dX0_push_50 (by decide) ?_
  refine gz_putI C (t := 26) (k := 4) (ci := 0) (q := (RX0, TX0, 10)) dX0_push_51 fl_RX0_25 (gz_hx26 _) rfl rfl (by decide) rfl rfl rfl rfl ?_
  refine gz_w_row (fun σ9 => ?_)
  refine gz_aload_n C dX0_push_54 0 rfl ?_
  refine gz_aload_n C dX0_push_55 0 rfl ?_
  refine gz_get C (t := 26) (k := 5) (ci := 0) (q := (RX0, TX0, 10)) (v := .int (σ9.1 26 0 5)) dX0_push_56 fl_RX0_29 (gz_hx26 _) rfl rfl (by decide) rfl ?_
  refine gz_iconst C dX0_push_59 gk_iconst_1 ?_
  refine gz_iadd C dX0_push_60 ?_
  refine gz_bipush C dX0_push_61 gk_bipush_100 ?_
  refine gz_ki (gz_runS (As := [.int ((σ9.1 26 0 5) + 1), .int 100]) (rest := [.ref (gz_ad false G 26 0)]) C dX0_push_63 ml_RX0_32 mw_J9_min_7cf53 ms_J9_min_7cf53 (c_J9_min_7cf53 l G false ((σ9.1 26 0 5) + 1) 100 σ9) rfl rfl (Nat.le_of_ble_eq_true rfl) ⟨rfl, rfl, Nat.le_of_ble_eq_true rfl, Nat.le_of_ble_eq_true rfl, Nat.le_of_ble_eq_true rfl, Nat.le_of_ble_eq_true rfl⟩) (fun r11 σ10 => ?_)
  refine gz_putI C (t := 26) (k := 5) (ci := 0) (q := (RX0, TX0, 10)) dX0_push_66 fl_RX0_29 (gz_hx26 _) rfl rfl (by decide) rfl rfl rfl rfl ?_
  refine gz_w_row (fun σ12 => ?_)
  exact gz_vret C rfl dX0_push_69

def f_X0_pop (σ : gz_S) : Option (gz_S) :=
  gz_w (gz_si σ 26 0 4 (gz_rem (((σ.1 26 0 4) + 100) - 1) 100)) (fun σ1 =>
  gz_w (gz_si σ1 26 0 5 ((σ1.1 26 0 5) - 1)) (fun σ2 =>
  gz_ix (σ2.1 26 0 4) 100 (fun n3 =>
  gz_w (gz_si σ2 26 0 6 (σ2.1 27 0 n3)) (fun σ4 =>
  gz_ix (σ4.1 26 0 4) 100 (fun n5 =>
  gz_w (gz_si σ4 26 0 7 (σ4.1 28 0 n5)) (fun σ6 =>
  gz_ix (σ6.1 26 0 4) 100 (fun n7 =>
  gz_w (gz_sj σ6 26 0 8 (σ6.2.1 29 0 n7)) (fun σ8 =>
  gz_ix (σ8.1 26 0 4) 100 (fun n9 =>
  gz_w (gz_sj σ8 26 0 9 (σ8.2.1 30 0 n9)) (fun σ10 =>
  some σ10))))))))))
set_option maxHeartbeats 4000000 in
set_option maxRecDepth 100000 in
theorem c_X0_pop (l : Launch) (G : gz_G) (σ : gz_S) : ∀ o, f_X0_pop σ = some o → gz_M l false G yX0_pop cX0_pop 1 none { frames := 0, cells := 0, slots := 0, locals := 0 } [.ref (gz_ad false G 26 0)] σ (gz_eu o) 0 0 := by
  refine gz_enter RX0 rfl (by decide) (Nat.le_of_ble_eq_true rfl) ?_
  intro p e s m args below meth c C
  refine gz_eqs (st' := []) (lv' := [(0, .ref (gz_ad false G 26 0))]) rfl rfl ?_
  unfold f_X0_pop
  refine gz_aload_n C dX0_pop_0 0 rfl ?_
  refine gz_aload_n C dX0_pop_1 0 rfl ?_
  refine gz_get C (t := 26) (k := 4) (ci := 0) (q := (RX0, TX0, 10)) (v := .int (σ.1 26 0 4)) dX0_pop_2 fl_RX0_25 (gz_hx26 _) rfl rfl (by decide) rfl ?_
  refine gz_bipush C dX0_pop_5 gk_bipush_100 ?_
  refine gz_iadd C dX0_pop_7 ?_
  refine gz_iconst C dX0_pop_8 gk_iconst_1 ?_
  refine gz_isub C dX0_pop_9 ?_
  refine gz_bipush C dX0_pop_10 gk_bipush_100 ?_
  refine gz_irem C dX0_pop_12 (by decide) ?_
  refine gz_putI C (t := 26) (k := 4) (ci := 0) (q := (RX0, TX0, 10)) dX0_pop_13 fl_RX0_25 (gz_hx26 _) rfl rfl (by decide) rfl rfl rfl rfl ?_
  refine gz_w_row (fun σ1 => ?_)
  refine gz_aload_n C dX0_pop_16 0 rfl ?_
  refine gz_dup C dX0_pop_17 rfl ?_
  refine gz_get C (t := 26) (k := 5) (ci := 0) (q := (RX0, TX0, 10)) (v := .int (σ1.1 26 0 5)) dX0_pop_18 fl_RX0_29 (gz_hx26 _) rfl rfl (by decide) rfl ?_
  refine gz_iconst C dX0_pop_21 gk_iconst_1 ?_
  refine gz_isub C dX0_pop_22 ?_
  refine gz_putI C (t := 26) (k := 5) (ci := 0) (q := (RX0, TX0, 10)) dX0_pop_23 fl_RX0_29 (gz_hx26 _) rfl rfl (by decide) rfl rfl rfl rfl ?_
  refine gz_w_row (fun σ2 => ?_)
  refine gz_aload_n C dX0_pop_26 0 rfl ?_
  refine gz_aload_n C dX0_pop_27 0 rfl ?_
  refine gz_get C (t := 26) (k := 0) (ci := 0) (q := (RX0, TX0, 10)) (v := .ref (gz_ad false G 27 0)) dX0_pop_28 fl_RX0_9 (gz_hx26 _) rfl rfl (by decide) rfl ?_
  refine gz_aload_n C dX0_pop_31 0 rfl ?_
  refine gz_get C (t := 26) (k := 4) (ci := 0) (q := (RX0, TX0, 10)) (v := .int (σ2.1 26 0 4)) dX0_pop_32 fl_RX0_25 (gz_hx26 _) rfl rfl (by decide) rfl ?_
  refine gz_iald C (t := 27) dX0_pop_35 (gz_hx27 _) rfl (fun n3 hn3 => ?_)
  refine gz_putI C (t := 26) (k := 6) (ci := 0) (q := (RX0, TX0, 10)) dX0_pop_36 fl_RX0_38 (gz_hx26 _) rfl rfl (by decide) rfl rfl rfl rfl ?_
  refine gz_w_row (fun σ4 => ?_)
  refine gz_aload_n C dX0_pop_39 0 rfl ?_
  refine gz_aload_n C dX0_pop_40 0 rfl ?_
  refine gz_get C (t := 26) (k := 1) (ci := 0) (q := (RX0, TX0, 10)) (v := .ref (gz_ad false G 28 0)) dX0_pop_41 fl_RX0_15 (gz_hx26 _) rfl rfl (by decide) rfl ?_
  refine gz_aload_n C dX0_pop_44 0 rfl ?_
  refine gz_get C (t := 26) (k := 4) (ci := 0) (q := (RX0, TX0, 10)) (v := .int (σ4.1 26 0 4)) dX0_pop_45 fl_RX0_25 (gz_hx26 _) rfl rfl (by decide) rfl ?_
  refine gz_iald C (t := 28) dX0_pop_48 (gz_hx28 _) rfl (fun n5 hn5 => ?_)
  refine gz_putI C (t := 26) (k := 7) (ci := 0) (q := (RX0, TX0, 10)) dX0_pop_49 fl_RX0_41 (gz_hx26 _) rfl rfl (by decide) rfl rfl rfl rfl ?_
  refine gz_w_row (fun σ6 => ?_)
  refine gz_aload_n C dX0_pop_52 0 rfl ?_
  refine gz_aload_n C dX0_pop_53 0 rfl ?_
  refine gz_get C (t := 26) (k := 2) (ci := 0) (q := (RX0, TX0, 10)) (v := .ref (gz_ad false G 29 0)) dX0_pop_54 fl_RX0_18 (gz_hx26 _) rfl rfl (by decide) rfl ?_
  refine gz_aload_n C dX0_pop_57 0 rfl ?_
  refine gz_get C (t := 26) (k := 4) (ci := 0) (q := (RX0, TX0, 10)) (v := .int (σ6.1 26 0 4)) dX0_pop_58 fl_RX0_25 (gz_hx26 _) rfl rfl (by decide) rfl ?_
  refine gz_lald C (t := 29) dX0_pop_61 (gz_hx29 _) rfl (fun n7 hn7 => ?_)
  refine gz_putJ C (t := 26) (k := 8) (ci := 0) (q := (RX0, TX0, 10)) dX0_pop_62 fl_RX0_44 (gz_hx26 _) rfl rfl (by decide) rfl rfl rfl rfl ?_
  refine gz_w_row (fun σ8 => ?_)
  refine gz_aload_n C dX0_pop_65 0 rfl ?_
  refine gz_aload_n C dX0_pop_66 0 rfl ?_
  refine gz_get C (t := 26) (k := 3) (ci := 0) (q := (RX0, TX0, 10)) (v := .ref (gz_ad false G 30 0)) dX0_pop_67 fl_RX0_22 (gz_hx26 _) rfl rfl (by decide) rfl ?_
  refine gz_aload_n C dX0_pop_70 0 rfl ?_
  refine gz_get C (t := 26) (k := 4) (ci := 0) (q := (RX0, TX0, 10)) (v := .int (σ8.1 26 0 4)) dX0_pop_71 fl_RX0_25 (gz_hx26 _) rfl rfl (by decide) rfl ?_
  refine gz_lald C (t := 30) dX0_pop_74 (gz_hx30 _) rfl (fun n9 hn9 => ?_)
  refine gz_putJ C (t := 26) (k := 9) (ci := 0) (q := (RX0, TX0, 10)) dX0_pop_75 fl_RX0_48 (gz_hx26 _) rfl rfl (by decide) rfl rfl rfl rfl ?_
  refine gz_w_row (fun σ10 => ?_)
  exact gz_vret C rfl dX0_pop_78

def f_X0_clear (σ : gz_S) : Option (gz_S) :=
  gz_w (gz_si σ 26 0 4 0) (fun σ1 =>
  gz_w (gz_si σ1 26 0 5 0) (fun σ2 =>
  some σ2))
set_option maxHeartbeats 4000000 in
set_option maxRecDepth 100000 in
theorem c_X0_clear (l : Launch) (G : gz_G) (σ : gz_S) : ∀ o, f_X0_clear σ = some o → gz_M l false G yX0_clear cX0_clear 1 none { frames := 0, cells := 0, slots := 0, locals := 0 } [.ref (gz_ad false G 26 0)] σ (gz_eu o) 0 0 := by
  refine gz_enter RX0 rfl (by decide) (Nat.le_of_ble_eq_true rfl) ?_
  intro p e s m args below meth c C
  refine gz_eqs (st' := []) (lv' := [(0, .ref (gz_ad false G 26 0))]) rfl rfl ?_
  unfold f_X0_clear
  refine gz_aload_n C dX0_clear_0 0 rfl ?_
  refine gz_iconst C dX0_clear_1 gk_iconst_0 ?_
  refine gz_putI C (t := 26) (k := 4) (ci := 0) (q := (RX0, TX0, 10)) dX0_clear_2 fl_RX0_25 (gz_hx26 _) rfl rfl (by decide) rfl rfl rfl rfl ?_
  refine gz_w_row (fun σ1 => ?_)
  refine gz_aload_n C dX0_clear_5 0 rfl ?_
  refine gz_iconst C dX0_clear_6 gk_iconst_0 ?_
  refine gz_putI C (t := 26) (k := 5) (ci := 0) (q := (RX0, TX0, 10)) dX0_clear_7 fl_RX0_29 (gz_hx26 _) rfl rfl (by decide) rfl rfl rfl rfl ?_
  refine gz_w_row (fun σ2 => ?_)
  exact gz_vret C rfl dX0_clear_10

def f_X1_at (a1 : Int32) (σ : gz_S) : Option (Option Nat × gz_S) :=
  if a1 < 0 then
  (some (none, σ))
  else
  (if a1 < (σ.1 10 0 1) then
  (gz_ix a1 61 (fun n1 =>
  some ((some n1), σ)))
  else
  (some (none, σ)))
set_option maxHeartbeats 4000000 in
set_option maxRecDepth 100000 in
theorem c_X1_at (l : Launch) (G : gz_G) (a1 : Int32) (σ : gz_S) : ∀ o, f_X1_at a1 σ = some o → gz_M l false G yX1_at cX1_at 2 (some (.object "GazetteHouse$Notice")) { frames := 0, cells := 0, slots := 0, locals := 0 } [.ref (gz_ad false G 10 0), .int a1] σ ((gz_er false G 14) o) 0 0 := by
  refine gz_enter RX1 rfl (by decide) (Nat.le_of_ble_eq_true rfl) ?_
  intro p e s m args below meth c C
  refine gz_eqs (st' := []) (lv' := [(0, .ref (gz_ad false G 10 0)), (1, .int a1)]) rfl rfl ?_
  unfold f_X1_at
  refine gz_iload_n C dX1_at_0 1 rfl ?_
  refine gz_if_lt (tgt := 12) C dX1_at_1 (by decide) ?_ ?_
  · skip
    refine gz_null C dX1_at_12 ?_
    refine gz_goto (tgt := 22) C dX1_at_13 (by decide) ?_
    exact gz_aret (t := 14) (r := none) C rfl dX1_at_22
  · skip
    refine gz_iload_n C dX1_at_4 1 rfl ?_
    refine gz_aload_n C dX1_at_5 0 rfl ?_
    refine gz_get C (t := 10) (k := 1) (ci := 1) (q := (RX1, TX1, 6)) (v := .int (σ.1 10 0 1)) dX1_at_6 fl_RX1_26 (gz_hx10 _) rfl rfl (by decide) rfl ?_
    refine gz_icmp_lt (tgt := 16) C dX1_at_9 (by decide) ?_ ?_
    · skip
      refine gz_aload_n C dX1_at_16 0 rfl ?_
      refine gz_get C (t := 10) (k := 0) (ci := 1) (q := (RX1, TX1, 6)) (v := .ref (gz_ad false G 11 0)) dX1_at_17 fl_RX1_11 (gz_hx10 _) rfl rfl (by decide) rfl ?_
      refine gz_iload_n C dX1_at_20 1 rfl ?_
      refine gz_aald7 C (t := 11) dX1_at_21 (gz_hx11 _) rfl (fun n1 hn1 => ?_)
      exact gz_aret (t := 14) (r := (some n1)) C rfl dX1_at_22
    · skip
      refine gz_null C dX1_at_12 ?_
      refine gz_goto (tgt := 22) C dX1_at_13 (by decide) ?_
      exact gz_aret (t := 14) (r := none) C rfl dX1_at_22

def f_X1_fresh (σ : gz_S) : Option (Option Nat × gz_S) :=
  gz_call (f_J9_min_7cf53 (σ.1 10 0 1) 60 σ) (fun r2 σ1 =>
  gz_ix r2 61 (fun n3 =>
  some ((some n3), σ1)))
set_option maxHeartbeats 4000000 in
set_option maxRecDepth 100000 in
theorem c_X1_fresh (l : Launch) (G : gz_G) (σ : gz_S) : ∀ o, f_X1_fresh σ = some o → gz_M l false G yX1_fresh cX1_fresh 1 (some (.object "GazetteHouse$Notice")) { frames := 1, cells := 0, slots := 0, locals := 21 } [.ref (gz_ad false G 10 0)] σ ((gz_er false G 14) o) 0 0 := by
  refine gz_enter RX1 rfl (by decide) (Nat.le_of_ble_eq_true rfl) ?_
  intro p e s m args below meth c C
  refine gz_eqs (st' := []) (lv' := [(0, .ref (gz_ad false G 10 0))]) rfl rfl ?_
  unfold f_X1_fresh
  refine gz_aload_n C dX1_fresh_0 0 rfl ?_
  refine gz_get C (t := 10) (k := 0) (ci := 1) (q := (RX1, TX1, 6)) (v := .ref (gz_ad false G 11 0)) dX1_fresh_1 fl_RX1_11 (gz_hx10 _) rfl rfl (by decide) rfl ?_
  refine gz_aload_n C dX1_fresh_4 0 rfl ?_
  refine gz_get C (t := 10) (k := 1) (ci := 1) (q := (RX1, TX1, 6)) (v := .int (σ.1 10 0 1)) dX1_fresh_5 fl_RX1_26 (gz_hx10 _) rfl rfl (by decide) rfl ?_
  refine gz_bipush C dX1_fresh_8 gk_bipush_60 ?_
  refine gz_ki (gz_runS (As := [.int (σ.1 10 0 1), .int 60]) (rest := [.ref (gz_ad false G 11 0)]) C dX1_fresh_10 ml_RX1_30 mw_J9_min_7cf53 ms_J9_min_7cf53 (c_J9_min_7cf53 l G false (σ.1 10 0 1) 60 σ) rfl rfl (Nat.le_of_ble_eq_true rfl) ⟨rfl, rfl, Nat.le_of_ble_eq_true rfl, Nat.le_of_ble_eq_true rfl, Nat.le_of_ble_eq_true rfl, Nat.le_of_ble_eq_true rfl⟩) (fun r2 σ1 => ?_)
  refine gz_aald7 C (t := 11) dX1_fresh_13 (gz_hx11 _) rfl (fun n3 hn3 => ?_)
  exact gz_aret (t := 14) (r := (some n3)) C rfl dX1_fresh_14

def f_X6_waits (a0 : Nat) (σ : gz_S) : Option (Int32 × gz_S) :=
  if (σ.1 14 a0 3) = (-1) then
  (some ((1 : Int32) &&& 1, σ))
  else
  (some ((0 : Int32) &&& 1, σ))
set_option maxHeartbeats 4000000 in
set_option maxRecDepth 100000 in
theorem c_X6_waits (l : Launch) (G : gz_G) (a0 : Nat) (h0 : a0 < 61) (σ : gz_S) : ∀ o, f_X6_waits a0 σ = some o → gz_M l false G yX6_waits cX6_waits 1 (some .boolean) { frames := 0, cells := 0, slots := 0, locals := 0 } [.ref (gz_ad false G 14 a0)] σ (gz_ei o) 0 0 := by
  refine gz_enter RX6 rfl (by decide) (Nat.le_of_ble_eq_true rfl) ?_
  intro p e s m args below meth c C
  refine gz_eqs (st' := []) (lv' := [(0, .ref (gz_ad false G 14 a0))]) rfl rfl ?_
  unfold f_X6_waits
  refine gz_aload_n C dX6_waits_0 0 rfl ?_
  refine gz_get C (t := 14) (k := 3) (ci := 6) (q := (RX6, TX6, 15)) (v := .int (σ.1 14 a0 3)) dX6_waits_1 fl_RX6_35 (gz_hx14 _ h0) rfl rfl (by decide) rfl ?_
  refine gz_iconst C dX6_waits_4 gk_iconst_m1 ?_
  refine gz_icmp_ne (tgt := 12) C dX6_waits_5 (by decide) ?_ ?_
  · skip
    refine gz_iconst C dX6_waits_12 gk_iconst_0 ?_
    exact gz_zret C rfl dX6_waits_13
  · skip
    refine gz_iconst C dX6_waits_8 gk_iconst_1 ?_
    refine gz_goto (tgt := 13) C dX6_waits_9 (by decide) ?_
    exact gz_zret C rfl dX6_waits_13

def f_X1_countWaiting_J30 (v2 : Int32) (rec4 : Int32 → Int32 → gz_S → Option (Int32 × gz_S)) : Int32 → Int32 → gz_S → Option (Int32 × gz_S) := fun x7 x8 σ9 =>
  gz_v (x7 + x8) (fun v10 =>
  rec4 v10 (v2 + 1) σ9)
def f_X1_countWaiting_L4 : (Int32 → Int32 → gz_S → Option (Int32 × gz_S)) → Int32 → Int32 → gz_S → Option (Int32 × gz_S) := fun rec4 v1 v2 σ3 =>
  if (σ3.1 10 0 1) ≤ v2 then
  (some (v1, σ3))
  else
  (gz_ix v2 61 (fun n4 =>
  gz_call (f_X6_waits n4 σ3) (fun r6 σ5 =>
  gz_j2 (f_X1_countWaiting_J30 v2 rec4) (fun j30 =>
  if r6 = 0 then
  (j30 v1 0 σ5)
  else
  (j30 v1 1 σ5)))))
def f_X1_countWaiting (σ : gz_S) : Option (Int32 × gz_S) :=
  gz_l2 (f_X1_countWaiting_L4) gz_fu 0 0 σ
set_option maxHeartbeats 4000000 in
set_option maxRecDepth 100000 in
theorem c_X1_countWaiting (l : Launch) (G : gz_G) (σ : gz_S) : ∀ o, f_X1_countWaiting σ = some o → gz_M l false G yX1_countWaiting cX1_countWaiting 3 (some .int) { frames := 1, cells := 0, slots := 0, locals := 20 } [.ref (gz_ad false G 10 0)] σ (gz_ei o) 0 0 := by
  refine gz_enter RX1 rfl (by decide) (Nat.le_of_ble_eq_true rfl) ?_
  intro p e s m args below meth c C
  refine gz_eqs (st' := []) (lv' := [(0, .ref (gz_ad false G 10 0))]) rfl rfl ?_
  unfold f_X1_countWaiting
  refine gz_iconst C dX1_countWaiting_0 gk_iconst_0 ?_
  refine gz_istore_n C (lv' := [(1, .int 0), (0, .ref (gz_ad false G 10 0))]) dX1_countWaiting_1 (by decide) rfl ?_
  refine gz_iconst C dX1_countWaiting_2 gk_iconst_0 ?_
  refine gz_istore_n C (lv' := [(2, .int 0), (1, .int 0), (0, .ref (gz_ad false G 10 0))]) dX1_countWaiting_3 (by decide) rfl ?_
  refine gz_lv (lv' := [(0, .ref (gz_ad false G 10 0)), (1, .int 0), (2, .int 0)]) [2, 1, 0] rfl ?_
  refine gz_l2_ind (P := fun v1 v2 σ3 x => gz_W false p l e ({ frames := 1, cells := 0, slots := 0, locals := 20 } : Room) s m args below meth c G 3 (gz_Q false G below args s 0 0 gz_ei) 0 0 σ3 4 [(0, .ref (gz_ad false G 10 0)), (1, .int v1), (2, .int v2)] [] x) (fun _ _ _ => gz_none) (fun rec4 hrec4 v1 v2 σ3 => ?_) gz_fu 0 0 σ
  unfold f_X1_countWaiting_L4
  refine gz_iload_n C dX1_countWaiting_4 2 rfl ?_
  refine gz_aload_n C dX1_countWaiting_5 0 rfl ?_
  refine gz_get C (t := 10) (k := 1) (ci := 1) (q := (RX1, TX1, 6)) (v := .int (σ3.1 10 0 1)) dX1_countWaiting_6 fl_RX1_26 (gz_hx10 _) rfl rfl (by decide) rfl ?_
  refine gz_icmp_ge (tgt := 38) C dX1_countWaiting_9 (by decide) ?_ ?_
  · skip
    refine gz_iload_n C dX1_countWaiting_38 1 rfl ?_
    exact gz_iret C rfl dX1_countWaiting_39
  · skip
    refine gz_iload_n C dX1_countWaiting_12 1 rfl ?_
    refine gz_aload_n C dX1_countWaiting_13 0 rfl ?_
    refine gz_get C (t := 10) (k := 0) (ci := 1) (q := (RX1, TX1, 6)) (v := .ref (gz_ad false G 11 0)) dX1_countWaiting_14 fl_RX1_11 (gz_hx10 _) rfl rfl (by decide) rfl ?_
    refine gz_iload_n C dX1_countWaiting_17 2 rfl ?_
    refine gz_aald7 C (t := 11) dX1_countWaiting_18 (gz_hx11 _) rfl (fun n4 hn4 => ?_)
    refine gz_ki (gz_runV (t := 14) (ci := 6) (q := (RX6, TX6, 15)) (As := []) (rest := [.int v1]) C dX1_countWaiting_19 ml_RX1_36 mw_X6_waits mv_X6_waits (c_X6_waits l G n4 hn4 σ3) (gz_hx14 _ hn4) rfl rfl rfl rfl rfl (Nat.le_of_ble_eq_true rfl) ⟨rfl, rfl, Nat.le_of_ble_eq_true rfl, Nat.le_of_ble_eq_true rfl, Nat.le_of_ble_eq_true rfl, Nat.le_of_ble_eq_true rfl⟩) (fun r6 σ5 => ?_)
    refine gz_j2_row (P := fun x7 x8 σ9 x => gz_W false p l e ({ frames := 1, cells := 0, slots := 0, locals := 20 } : Room) s m args below meth c G 3 (gz_Q false G below args s 0 0 gz_ei) 0 0 σ9 30 [(0, .ref (gz_ad false G 10 0)), (2, .int v2)] [.int x8, .int x7] x) (fun x7 x8 σ9 => ?_) (fun j30 hj30 => ?_)
    · unfold f_X1_countWaiting_J30
      refine gz_iadd C dX1_countWaiting_30 ?_
      refine gz_topI (fun v10 => ?_)
      refine gz_istore_n C (lv' := [(1, .int v10), (0, .ref (gz_ad false G 10 0)), (2, .int v2)]) dX1_countWaiting_31 (by decide) rfl ?_
      refine gz_iinc C (q := 2) (v := v2 + 1) (lv' := [(2, .int (v2 + 1)), (1, .int v10), (0, .ref (gz_ad false G 10 0))]) dX1_countWaiting_32 rfl rfl (by decide) rfl ?_
      refine gz_goto (tgt := 4) C dX1_countWaiting_35 (by decide) ?_
      refine gz_lv (lv' := [(0, .ref (gz_ad false G 10 0)), (1, .int v10), (2, .int (v2 + 1))]) [2, 1, 0] rfl ?_
      exact hrec4 v10 (v2 + 1) σ9
    · skip
      refine gz_if_eq (tgt := 29) C dX1_countWaiting_22 (by decide) ?_ ?_
      · skip
        refine gz_iconst C dX1_countWaiting_29 gk_iconst_0 ?_
        refine gz_lv (lv' := [(0, .ref (gz_ad false G 10 0)), (2, .int v2)]) [0, 2] rfl ?_
        exact hj30 v1 0 σ5
      · skip
        refine gz_iconst C dX1_countWaiting_25 gk_iconst_1 ?_
        refine gz_goto (tgt := 30) C dX1_countWaiting_26 (by decide) ?_
        refine gz_lv (lv' := [(0, .ref (gz_ad false G 10 0)), (2, .int v2)]) [0, 2] rfl ?_
        exact hj30 v1 1 σ5

def f_X7_laidOn (a1 : Int32) (a2 : Int32) (σ : gz_S) : Option (Int32 × gz_S) :=
  if (σ.1 22 0 6) < ((a1 &&& 63) + a2) then
  (some ((((a1 >>> ((6 : Int32) &&& 31)) + 1) <<< ((6 : Int32) &&& 31)) + a2, σ))
  else
  (some (a1 + a2, σ))
set_option maxHeartbeats 4000000 in
set_option maxRecDepth 100000 in
theorem c_X7_laidOn (l : Launch) (G : gz_G) (a1 : Int32) (a2 : Int32) (σ : gz_S) : ∀ o, f_X7_laidOn a1 a2 σ = some o → gz_M l false G yX7_laidOn cX7_laidOn 3 (some .int) { frames := 0, cells := 0, slots := 0, locals := 0 } [.ref (gz_ad false G 22 0), .int a1, .int a2] σ (gz_ei o) 0 0 := by
  refine gz_enter RX7 rfl (by decide) (Nat.le_of_ble_eq_true rfl) ?_
  intro p e s m args below meth c C
  refine gz_eqs (st' := []) (lv' := [(0, .ref (gz_ad false G 22 0)), (1, .int a1), (2, .int a2)]) rfl rfl ?_
  unfold f_X7_laidOn
  refine gz_iload_n C dX7_laidOn_0 1 rfl ?_
  refine gz_bipush C dX7_laidOn_1 gk_bipush_63 ?_
  refine gz_iand C dX7_laidOn_3 ?_
  refine gz_iload_n C dX7_laidOn_4 2 rfl ?_
  refine gz_iadd C dX7_laidOn_5 ?_
  refine gz_aload_n C dX7_laidOn_6 0 rfl ?_
  refine gz_get C (t := 22) (k := 6) (ci := 7) (q := (RX7, TX7, 7)) (v := .int (σ.1 22 0 6)) dX7_laidOn_7 fl_RX7_25 (gz_hx22 _) rfl rfl (by decide) rfl ?_
  refine gz_icmp_gt (tgt := 17) C dX7_laidOn_10 (by decide) ?_ ?_
  · skip
    refine gz_iload_n C dX7_laidOn_17 1 rfl ?_
    refine gz_bipush C dX7_laidOn_18 gk_bipush_6 ?_
    refine gz_ishr C dX7_laidOn_20 ?_
    refine gz_iconst C dX7_laidOn_21 gk_iconst_1 ?_
    refine gz_iadd C dX7_laidOn_22 ?_
    refine gz_bipush C dX7_laidOn_23 gk_bipush_6 ?_
    refine gz_ishl C dX7_laidOn_25 ?_
    refine gz_iload_n C dX7_laidOn_26 2 rfl ?_
    refine gz_iadd C dX7_laidOn_27 ?_
    exact gz_iret C rfl dX7_laidOn_28
  · skip
    refine gz_iload_n C dX7_laidOn_13 1 rfl ?_
    refine gz_iload_n C dX7_laidOn_14 2 rfl ?_
    refine gz_iadd C dX7_laidOn_15 ?_
    exact gz_iret C rfl dX7_laidOn_16

def f_X7_bestOf_J52 (v2 : Int32) (rec5 : Int32 → Int32 → gz_S → Option (Int32 × gz_S)) : Int32 → gz_S → Option (Int32 × gz_S) := fun v4 σ5 =>
  rec5 v4 (v2 + 1) σ5
def f_X7_bestOf_L5 (a1 : Int32) : (Int32 → Int32 → gz_S → Option (Int32 × gz_S)) → Int32 → Int32 → gz_S → Option (Int32 × gz_S) := fun rec5 v1 v2 σ3 =>
  if (σ3.1 22 0 3) < v2 then
  (some (v1, σ3))
  else
  (if 12 ≤ v2 then
  (some (v1, σ3))
  else
  (gz_j1 (f_X7_bestOf_J52 v2 rec5) (fun j52 =>
  if ((a1 >>> (v2 &&& 31)) &&& 1) = 0 then
  (j52 v1 σ3)
  else
  (gz_ix (a1 ^^^ (1 <<< (v2 &&& 31))) 4096 (fun n6 =>
  gz_ix v2 12 (fun n7 =>
  gz_call (f_X7_laidOn (σ3.1 23 0 n6) (σ3.1 25 0 n7) σ3) (fun r9 σ8 =>
  gz_call (f_J9_min_7cf53 v1 r9 σ8) (fun r11 σ10 =>
  j52 r11 σ10))))))))
def f_X7_bestOf (a1 : Int32) (σ : gz_S) : Option (Int32 × gz_S) :=
  gz_l2 (f_X7_bestOf_L5 a1) gz_fu 2147483647 0 σ
set_option maxHeartbeats 4000000 in
set_option maxRecDepth 100000 in
theorem c_X7_bestOf (l : Launch) (G : gz_G) (a1 : Int32) (σ : gz_S) : ∀ o, f_X7_bestOf a1 σ = some o → gz_M l false G yX7_bestOf cX7_bestOf 4 (some .int) { frames := 1, cells := 0, slots := 0, locals := 22 } [.ref (gz_ad false G 22 0), .int a1] σ (gz_ei o) 0 0 := by
  refine gz_enter RX7 rfl (by decide) (Nat.le_of_ble_eq_true rfl) ?_
  intro p e s m args below meth c C
  refine gz_eqs (st' := []) (lv' := [(0, .ref (gz_ad false G 22 0)), (1, .int a1)]) rfl rfl ?_
  unfold f_X7_bestOf
  refine gz_ldc C dX7_bestOf_0 cw_RX7_40 ?_
  refine gz_istore_n C (lv' := [(2, .int 2147483647), (0, .ref (gz_ad false G 22 0)), (1, .int a1)]) dX7_bestOf_2 (by decide) rfl ?_
  refine gz_iconst C dX7_bestOf_3 gk_iconst_0 ?_
  refine gz_istore_n C (lv' := [(3, .int 0), (2, .int 2147483647), (0, .ref (gz_ad false G 22 0)), (1, .int a1)]) dX7_bestOf_4 (by decide) rfl ?_
  refine gz_lv (lv' := [(0, .ref (gz_ad false G 22 0)), (1, .int a1), (2, .int 2147483647), (3, .int 0)]) [2, 3, 1, 0] rfl ?_
  refine gz_l2_ind (P := fun v1 v2 σ3 x => gz_W false p l e ({ frames := 1, cells := 0, slots := 0, locals := 22 } : Room) s m args below meth c G 4 (gz_Q false G below args s 0 0 gz_ei) 0 0 σ3 5 [(0, .ref (gz_ad false G 22 0)), (1, .int a1), (2, .int v1), (3, .int v2)] [] x) (fun _ _ _ => gz_none) (fun rec5 hrec5 v1 v2 σ3 => ?_) gz_fu 2147483647 0 σ
  unfold f_X7_bestOf_L5
  refine gz_iload_n C dX7_bestOf_5 3 rfl ?_
  refine gz_aload_n C dX7_bestOf_6 0 rfl ?_
  refine gz_get C (t := 22) (k := 3) (ci := 7) (q := (RX7, TX7, 7)) (v := .int (σ3.1 22 0 3)) dX7_bestOf_7 fl_RX7_28 (gz_hx22 _) rfl rfl (by decide) rfl ?_
  refine gz_icmp_gt (tgt := 58) C dX7_bestOf_10 (by decide) ?_ ?_
  · skip
    refine gz_iload_n C dX7_bestOf_58 2 rfl ?_
    exact gz_iret C rfl dX7_bestOf_59
  · skip
    refine gz_iload_n C dX7_bestOf_13 3 rfl ?_
    refine gz_bipush C dX7_bestOf_14 gk_bipush_12 ?_
    refine gz_icmp_ge (tgt := 58) C dX7_bestOf_16 (by decide) ?_ ?_
    · skip
      refine gz_iload_n C dX7_bestOf_58 2 rfl ?_
      exact gz_iret C rfl dX7_bestOf_59
    · skip
      refine gz_iload_n C dX7_bestOf_19 1 rfl ?_
      refine gz_iload_n C dX7_bestOf_20 3 rfl ?_
      refine gz_ishr C dX7_bestOf_21 ?_
      refine gz_iconst C dX7_bestOf_22 gk_iconst_1 ?_
      refine gz_iand C dX7_bestOf_23 ?_
      refine gz_j1_row (P := fun v4 σ5 x => gz_W false p l e ({ frames := 1, cells := 0, slots := 0, locals := 22 } : Room) s m args below meth c G 4 (gz_Q false G below args s 0 0 gz_ei) 0 0 σ5 52 [(0, .ref (gz_ad false G 22 0)), (1, .int a1), (2, .int v4), (3, .int v2)] [] x) (fun v4 σ5 => ?_) (fun j52 hj52 => ?_)
      · unfold f_X7_bestOf_J52
        refine gz_iinc C (q := 3) (v := v2 + 1) (lv' := [(3, .int (v2 + 1)), (0, .ref (gz_ad false G 22 0)), (1, .int a1), (2, .int v4)]) dX7_bestOf_52 rfl rfl (by decide) rfl ?_
        refine gz_goto (tgt := 5) C dX7_bestOf_55 (by decide) ?_
        refine gz_lv (lv' := [(0, .ref (gz_ad false G 22 0)), (1, .int a1), (2, .int v4), (3, .int (v2 + 1))]) [1, 2, 3, 0] rfl ?_
        exact hrec5 v4 (v2 + 1) σ5
      · skip
        refine gz_if_eq (tgt := 52) C dX7_bestOf_24 (by decide) ?_ ?_
        · skip
          exact hj52 v1 σ3
        · skip
          refine gz_iload_n C dX7_bestOf_27 2 rfl ?_
          refine gz_aload_n C dX7_bestOf_28 0 rfl ?_
          refine gz_aload_n C dX7_bestOf_29 0 rfl ?_
          refine gz_get C (t := 22) (k := 0) (ci := 7) (q := (RX7, TX7, 7)) (v := .ref (gz_ad false G 23 0)) dX7_bestOf_30 fl_RX7_11 (gz_hx22 _) rfl rfl (by decide) rfl ?_
          refine gz_iload_n C dX7_bestOf_33 1 rfl ?_
          refine gz_iconst C dX7_bestOf_34 gk_iconst_1 ?_
          refine gz_iload_n C dX7_bestOf_35 3 rfl ?_
          refine gz_ishl C dX7_bestOf_36 ?_
          refine gz_ixor C dX7_bestOf_37 ?_
          refine gz_iald C (t := 23) dX7_bestOf_38 (gz_hx23 _) rfl (fun n6 hn6 => ?_)
          refine gz_aload_n C dX7_bestOf_39 0 rfl ?_
          refine gz_get C (t := 22) (k := 2) (ci := 7) (q := (RX7, TX7, 7)) (v := .ref (gz_ad false G 25 0)) dX7_bestOf_40 fl_RX7_18 (gz_hx22 _) rfl rfl (by decide) rfl ?_
          refine gz_iload_n C dX7_bestOf_43 3 rfl ?_
          refine gz_iald C (t := 25) dX7_bestOf_44 (gz_hx25 _) rfl (fun n7 hn7 => ?_)
          refine gz_ki (gz_runV (t := 22) (ci := 7) (q := (RX7, TX7, 7)) (As := [.int (σ3.1 23 0 n6), .int (σ3.1 25 0 n7)]) (rest := [.int v1]) C dX7_bestOf_45 ml_RX7_41 mw_X7_laidOn mv_X7_laidOn (c_X7_laidOn l G (σ3.1 23 0 n6) (σ3.1 25 0 n7) σ3) (gz_hx22 _) rfl rfl rfl rfl rfl (Nat.le_of_ble_eq_true rfl) ⟨rfl, rfl, Nat.le_of_ble_eq_true rfl, Nat.le_of_ble_eq_true rfl, Nat.le_of_ble_eq_true rfl, Nat.le_of_ble_eq_true rfl⟩) (fun r9 σ8 => ?_)
          refine gz_ki (gz_runS (As := [.int v1, .int r9]) (rest := []) C dX7_bestOf_48 ml_RX7_45 mw_J9_min_7cf53 ms_J9_min_7cf53 (c_J9_min_7cf53 l G false v1 r9 σ8) rfl rfl (Nat.le_of_ble_eq_true rfl) ⟨rfl, rfl, Nat.le_of_ble_eq_true rfl, Nat.le_of_ble_eq_true rfl, Nat.le_of_ble_eq_true rfl, Nat.le_of_ble_eq_true rfl⟩) (fun r11 σ10 => ?_)
          refine gz_istore_n C (lv' := [(2, .int r11), (0, .ref (gz_ad false G 22 0)), (1, .int a1), (3, .int v2)]) dX7_bestOf_51 (by decide) rfl ?_
          refine gz_lv (lv' := [(0, .ref (gz_ad false G 22 0)), (1, .int a1), (2, .int r11), (3, .int v2)]) [1, 2, 0, 3] rfl ?_
          exact hj52 r11 σ10

def f_X7_take_J84 (v3 : Int32) (a1 : Int32) (a2 : Int32) : gz_S → Option (Int32 × gz_S) := fun σ4 =>
  gz_ix ((2 * v3) - 1) 4096 (fun n5 =>
  if ((σ4.1 23 0 n5) >>> ((6 : Int32) &&& 31)) ≤ (σ4.1 22 0 5) then
  (gz_ix (σ4.1 22 0 3) 12 (fun n6 =>
  gz_w (gz_si σ4 24 0 n6 a1) (fun σ7 =>
  gz_w (gz_si σ7 22 0 4 ((σ7.1 22 0 4) + a2)) (fun σ8 =>
  gz_w (gz_si σ8 22 0 3 ((σ8.1 22 0 3) + 1)) (fun σ9 =>
  some ((1 : Int32) &&& 1, σ9))))))
  else
  (some ((0 : Int32) &&& 1, σ4)))
def f_X7_take_L57 (v3 : Int32) (j84 : gz_S → Option (Int32 × gz_S)) : (Int32 → gz_S → Option (Int32 × gz_S)) → Int32 → gz_S → Option (Int32 × gz_S) := fun rec57 v10 σ11 =>
  if (2 * v3) ≤ v10 then
  (j84 σ11)
  else
  (gz_call (f_X7_bestOf v10 σ11) (fun r13 σ12 =>
  gz_ix v10 4096 (fun n14 =>
  gz_w (gz_si σ12 23 0 n14 r13) (fun σ15 =>
  rec57 (v10 + 1) σ15))))
def f_X7_take (a1 : Int32) (a2 : Int32) (σ : gz_S) : Option (Int32 × gz_S) :=
  if 12 ≤ (σ.1 22 0 3) then
  (some ((0 : Int32) &&& 1, σ))
  else
  (if (σ.1 22 0 6) < a2 then
  (some ((0 : Int32) &&& 1, σ))
  else
  (if ((σ.1 22 0 4) + a2) ≤ ((σ.1 22 0 5) * (σ.1 22 0 6)) then
  (gz_ix (σ.1 22 0 3) 12 (fun n1 =>
  gz_w (gz_si σ 25 0 n1 a2) (fun σ2 =>
  gz_v (1 <<< ((σ2.1 22 0 3) &&& 31)) (fun v3 =>
  gz_j0 (f_X7_take_J84 v3 a1 a2) (fun j84 =>
  gz_l1 (f_X7_take_L57 v3 j84) gz_fu v3 σ2)))))
  else
  (some ((0 : Int32) &&& 1, σ))))
set_option maxHeartbeats 4000000 in
set_option maxRecDepth 100000 in
theorem c_X7_take (l : Launch) (G : gz_G) (a1 : Int32) (a2 : Int32) (σ : gz_S) : ∀ o, f_X7_take a1 a2 σ = some o → gz_M l false G yX7_take cX7_take 5 (some .boolean) { frames := 2, cells := 0, slots := 0, locals := 45 } [.ref (gz_ad false G 22 0), .int a1, .int a2] σ (gz_ei o) 0 0 := by
  refine gz_enter RX7 rfl (by decide) (Nat.le_of_ble_eq_true rfl) ?_
  intro p e s m args below meth c C
  refine gz_eqs (st' := []) (lv' := [(0, .ref (gz_ad false G 22 0)), (1, .int a1), (2, .int a2)]) rfl rfl ?_
  unfold f_X7_take
  refine gz_aload_n C dX7_take_0 0 rfl ?_
  refine gz_get C (t := 22) (k := 3) (ci := 7) (q := (RX7, TX7, 7)) (v := .int (σ.1 22 0 3)) dX7_take_1 fl_RX7_28 (gz_hx22 _) rfl rfl (by decide) rfl ?_
  refine gz_bipush C dX7_take_4 gk_bipush_12 ?_
  refine gz_icmp_ge (tgt := 35) C dX7_take_6 (by decide) ?_ ?_
  · skip
    refine gz_iconst C dX7_take_35 gk_iconst_0 ?_
    exact gz_zret C rfl dX7_take_36
  · skip
    refine gz_iload_n C dX7_take_9 2 rfl ?_
    refine gz_aload_n C dX7_take_10 0 rfl ?_
    refine gz_get C (t := 22) (k := 6) (ci := 7) (q := (RX7, TX7, 7)) (v := .int (σ.1 22 0 6)) dX7_take_11 fl_RX7_25 (gz_hx22 _) rfl rfl (by decide) rfl ?_
    refine gz_icmp_gt (tgt := 35) C dX7_take_14 (by decide) ?_ ?_
    · skip
      refine gz_iconst C dX7_take_35 gk_iconst_0 ?_
      exact gz_zret C rfl dX7_take_36
    · skip
      refine gz_aload_n C dX7_take_17 0 rfl ?_
      refine gz_get C (t := 22) (k := 4) (ci := 7) (q := (RX7, TX7, 7)) (v := .int (σ.1 22 0 4)) dX7_take_18 fl_RX7_31 (gz_hx22 _) rfl rfl (by decide) rfl ?_
      refine gz_iload_n C dX7_take_21 2 rfl ?_
      refine gz_iadd C dX7_take_22 ?_
      refine gz_aload_n C dX7_take_23 0 rfl ?_
      refine gz_get C (t := 22) (k := 5) (ci := 7) (q := (RX7, TX7, 7)) (v := .int (σ.1 22 0 5)) dX7_take_24 fl_RX7_21 (gz_hx22 _) rfl rfl (by decide) rfl ?_
      refine gz_aload_n C dX7_take_27 0 rfl ?_
      refine gz_get C (t := 22) (k := 6) (ci := 7) (q := (RX7, TX7, 7)) (v := .int (σ.1 22 0 6)) dX7_take_28 fl_RX7_25 (gz_hx22 _) rfl rfl (by decide) rfl ?_
      refine gz_imul C dX7_take_31 ?_
      refine gz_icmp_le (tgt := 37) C dX7_take_32 (by decide) ?_ ?_
      · skip
        refine gz_aload_n C dX7_take_37 0 rfl ?_
        refine gz_get C (t := 22) (k := 2) (ci := 7) (q := (RX7, TX7, 7)) (v := .ref (gz_ad false G 25 0)) dX7_take_38 fl_RX7_18 (gz_hx22 _) rfl rfl (by decide) rfl ?_
        refine gz_aload_n C dX7_take_41 0 rfl ?_
        refine gz_get C (t := 22) (k := 3) (ci := 7) (q := (RX7, TX7, 7)) (v := .int (σ.1 22 0 3)) dX7_take_42 fl_RX7_28 (gz_hx22 _) rfl rfl (by decide) rfl ?_
        refine gz_iload_n C dX7_take_45 2 rfl ?_
        refine gz_iast C (t := 25) dX7_take_46 (gz_hx25 _) rfl (fun n1 hn1 => ?_)
        refine gz_w_row (fun σ2 => ?_)
        refine gz_iconst C dX7_take_47 gk_iconst_1 ?_
        refine gz_aload_n C dX7_take_48 0 rfl ?_
        refine gz_get C (t := 22) (k := 3) (ci := 7) (q := (RX7, TX7, 7)) (v := .int (σ2.1 22 0 3)) dX7_take_49 fl_RX7_28 (gz_hx22 _) rfl rfl (by decide) rfl ?_
        refine gz_ishl C dX7_take_52 ?_
        refine gz_topI (fun v3 => ?_)
        refine gz_istore_n C (lv' := [(3, .int v3), (0, .ref (gz_ad false G 22 0)), (1, .int a1), (2, .int a2)]) dX7_take_53 (by decide) rfl ?_
        refine gz_iload_n C dX7_take_54 0 rfl ?_
        refine gz_istore C (lv' := [(4, .int v3), (3, .int v3), (0, .ref (gz_ad false G 22 0)), (1, .int a1), (2, .int a2)]) dX7_take_55 (by decide) rfl ?_
        refine gz_j0_row (P := fun σ4 x => gz_W false p l e ({ frames := 2, cells := 0, slots := 0, locals := 45 } : Room) s m args below meth c G 5 (gz_Q false G below args s 0 0 gz_ei) 0 0 σ4 84 [(0, .ref (gz_ad false G 22 0)), (1, .int a1), (2, .int a2), (3, .int v3)] [] x) (fun σ4 => ?_) (fun j84 hj84 => ?_)
        · unfold f_X7_take_J84
          refine gz_aload_n C dX7_take_84 0 rfl ?_
          refine gz_get C (t := 22) (k := 0) (ci := 7) (q := (RX7, TX7, 7)) (v := .ref (gz_ad false G 23 0)) dX7_take_85 fl_RX7_11 (gz_hx22 _) rfl rfl (by decide) rfl ?_
          refine gz_iconst C dX7_take_88 gk_iconst_2 ?_
          refine gz_iload_n C dX7_take_89 3 rfl ?_
          refine gz_imul C dX7_take_90 ?_
          refine gz_iconst C dX7_take_91 gk_iconst_1 ?_
          refine gz_isub C dX7_take_92 ?_
          refine gz_iald C (t := 23) dX7_take_93 (gz_hx23 _) rfl (fun n5 hn5 => ?_)
          refine gz_bipush C dX7_take_94 gk_bipush_6 ?_
          refine gz_ishr C dX7_take_96 ?_
          refine gz_aload_n C dX7_take_97 0 rfl ?_
          refine gz_get C (t := 22) (k := 5) (ci := 7) (q := (RX7, TX7, 7)) (v := .int (σ4.1 22 0 5)) dX7_take_98 fl_RX7_21 (gz_hx22 _) rfl rfl (by decide) rfl ?_
          refine gz_icmp_le (tgt := 106) C dX7_take_101 (by decide) ?_ ?_
          · skip
            refine gz_aload_n C dX7_take_106 0 rfl ?_
            refine gz_get C (t := 22) (k := 1) (ci := 7) (q := (RX7, TX7, 7)) (v := .ref (gz_ad false G 24 0)) dX7_take_107 fl_RX7_15 (gz_hx22 _) rfl rfl (by decide) rfl ?_
            refine gz_aload_n C dX7_take_110 0 rfl ?_
            refine gz_get C (t := 22) (k := 3) (ci := 7) (q := (RX7, TX7, 7)) (v := .int (σ4.1 22 0 3)) dX7_take_111 fl_RX7_28 (gz_hx22 _) rfl rfl (by decide) rfl ?_
            refine gz_iload_n C dX7_take_114 1 rfl ?_
            refine gz_iast C (t := 24) dX7_take_115 (gz_hx24 _) rfl (fun n6 hn6 => ?_)
            refine gz_w_row (fun σ7 => ?_)
            refine gz_aload_n C dX7_take_116 0 rfl ?_
            refine gz_dup C dX7_take_117 rfl ?_
            refine gz_get C (t := 22) (k := 4) (ci := 7) (q := (RX7, TX7, 7)) (v := .int (σ7.1 22 0 4)) dX7_take_118 fl_RX7_31 (gz_hx22 _) rfl rfl (by decide) rfl ?_
            refine gz_iload_n C dX7_take_121 2 rfl ?_
            refine gz_iadd C dX7_take_122 ?_
            refine gz_putI C (t := 22) (k := 4) (ci := 7) (q := (RX7, TX7, 7)) dX7_take_123 fl_RX7_31 (gz_hx22 _) rfl rfl (by decide) rfl rfl rfl rfl ?_
            refine gz_w_row (fun σ8 => ?_)
            refine gz_aload_n C dX7_take_126 0 rfl ?_
            refine gz_dup C dX7_take_127 rfl ?_
            refine gz_get C (t := 22) (k := 3) (ci := 7) (q := (RX7, TX7, 7)) (v := .int (σ8.1 22 0 3)) dX7_take_128 fl_RX7_28 (gz_hx22 _) rfl rfl (by decide) rfl ?_
            refine gz_iconst C dX7_take_131 gk_iconst_1 ?_
            refine gz_iadd C dX7_take_132 ?_
            refine gz_putI C (t := 22) (k := 3) (ci := 7) (q := (RX7, TX7, 7)) dX7_take_133 fl_RX7_28 (gz_hx22 _) rfl rfl (by decide) rfl rfl rfl rfl ?_
            refine gz_w_row (fun σ9 => ?_)
            refine gz_iconst C dX7_take_136 gk_iconst_1 ?_
            exact gz_zret C rfl dX7_take_137
          · skip
            refine gz_iconst C dX7_take_104 gk_iconst_0 ?_
            exact gz_zret C rfl dX7_take_105
        · skip
          refine gz_lv (lv' := [(0, .ref (gz_ad false G 22 0)), (1, .int a1), (2, .int a2), (3, .int v3), (4, .int v3)]) [2, 3, 4, 1, 0] rfl ?_
          refine gz_l1_ind (P := fun v10 σ11 x => gz_W false p l e ({ frames := 2, cells := 0, slots := 0, locals := 45 } : Room) s m args below meth c G 5 (gz_Q false G below args s 0 0 gz_ei) 0 0 σ11 57 [(0, .ref (gz_ad false G 22 0)), (1, .int a1), (2, .int a2), (3, .int v3), (4, .int v10)] [] x) (fun _ _ => gz_none) (fun rec57 hrec57 v10 σ11 => ?_) gz_fu v3 σ2
          unfold f_X7_take_L57
          refine gz_iload C dX7_take_57 4 rfl ?_
          refine gz_iconst C dX7_take_59 gk_iconst_2 ?_
          refine gz_iload_n C dX7_take_60 3 rfl ?_
          refine gz_imul C dX7_take_61 ?_
          refine gz_icmp_ge (tgt := 84) C dX7_take_62 (by decide) ?_ ?_
          · skip
            refine gz_lv (lv' := [(0, .ref (gz_ad false G 22 0)), (1, .int a1), (2, .int a2), (3, .int v3)]) [0, 1, 2, 3] rfl ?_
            exact hj84 σ11
          · skip
            refine gz_aload_n C dX7_take_65 0 rfl ?_
            refine gz_get C (t := 22) (k := 0) (ci := 7) (q := (RX7, TX7, 7)) (v := .ref (gz_ad false G 23 0)) dX7_take_66 fl_RX7_11 (gz_hx22 _) rfl rfl (by decide) rfl ?_
            refine gz_iload C dX7_take_69 4 rfl ?_
            refine gz_aload_n C dX7_take_71 0 rfl ?_
            refine gz_iload C dX7_take_72 4 rfl ?_
            refine gz_ki (gz_runV (t := 22) (ci := 7) (q := (RX7, TX7, 7)) (As := [.int v10]) (rest := [.int v10, .ref (gz_ad false G 23 0)]) C dX7_take_74 ml_RX7_34 mw_X7_bestOf mv_X7_bestOf (c_X7_bestOf l G v10 σ11) (gz_hx22 _) rfl rfl rfl rfl rfl (Nat.le_of_ble_eq_true rfl) ⟨rfl, rfl, Nat.le_of_ble_eq_true rfl, Nat.le_of_ble_eq_true rfl, Nat.le_of_ble_eq_true rfl, Nat.le_of_ble_eq_true rfl⟩) (fun r13 σ12 => ?_)
            refine gz_iast C (t := 23) dX7_take_77 (gz_hx23 _) rfl (fun n14 hn14 => ?_)
            refine gz_w_row (fun σ15 => ?_)
            refine gz_iinc C (q := 4) (v := v10 + 1) (lv' := [(4, .int (v10 + 1)), (0, .ref (gz_ad false G 22 0)), (1, .int a1), (2, .int a2), (3, .int v3)]) dX7_take_78 rfl rfl (by decide) rfl ?_
            refine gz_goto (tgt := 57) C dX7_take_81 (by decide) ?_
            refine gz_lv (lv' := [(0, .ref (gz_ad false G 22 0)), (1, .int a1), (2, .int a2), (3, .int v3), (4, .int (v10 + 1))]) [1, 2, 3, 4, 0] rfl ?_
            exact hrec57 (v10 + 1) σ15
      · skip
        refine gz_iconst C dX7_take_35 gk_iconst_0 ?_
        exact gz_zret C rfl dX7_take_36

def f_X1_takeMust_J50 (v1 : Int32) (rec2 : Int32 → gz_S → Option (Int32 × gz_S)) : gz_S → Option (Int32 × gz_S) := fun σ6 =>
  rec2 (v1 + 1) σ6
def f_X1_takeMust_L2 (a2 : Int32) : (Int32 → gz_S → Option (Int32 × gz_S)) → Int32 → gz_S → Option (Int32 × gz_S) := fun rec2 v1 σ2 =>
  if (σ2.1 10 0 1) ≤ v1 then
  (some ((1 : Int32) &&& 1, σ2))
  else
  (gz_ix v1 61 (fun n3 =>
  gz_call (f_X6_waits n3 σ2) (fun r5 σ4 =>
  gz_j0 (f_X1_takeMust_J50 v1 rec2) (fun j50 =>
  if r5 = 0 then
  (j50 σ4)
  else
  (if a2 ≤ (σ4.1 14 n3 2) then
  (j50 σ4)
  else
  (gz_call (f_X7_take v1 (σ4.1 14 n3 1) σ4) (fun r8 σ7 =>
  if r8 = 0 then
  (some ((0 : Int32) &&& 1, σ7))
  else
  (j50 σ7))))))))
def f_X1_takeMust (a2 : Int32) (σ : gz_S) : Option (Int32 × gz_S) :=
  gz_l1 (f_X1_takeMust_L2 a2) gz_fu 0 σ
set_option maxHeartbeats 4000000 in
set_option maxRecDepth 100000 in
theorem c_X1_takeMust (l : Launch) (G : gz_G) (a2 : Int32) (σ : gz_S) : ∀ o, f_X1_takeMust a2 σ = some o → gz_M l false G yX1_takeMust cX1_takeMust 5 (some .boolean) { frames := 3, cells := 0, slots := 0, locals := 69 } [.ref (gz_ad false G 10 0), .ref (gz_ad false G 22 0), .int a2] σ (gz_ei o) 0 0 := by
  refine gz_enter RX1 rfl (by decide) (Nat.le_of_ble_eq_true rfl) ?_
  intro p e s m args below meth c C
  refine gz_eqs (st' := []) (lv' := [(0, .ref (gz_ad false G 10 0)), (1, .ref (gz_ad false G 22 0)), (2, .int a2)]) rfl rfl ?_
  unfold f_X1_takeMust
  refine gz_iconst C dX1_takeMust_0 gk_iconst_0 ?_
  refine gz_istore_n C (lv' := [(3, .int 0), (0, .ref (gz_ad false G 10 0)), (1, .ref (gz_ad false G 22 0)), (2, .int a2)]) dX1_takeMust_1 (by decide) rfl ?_
  refine gz_lv (lv' := [(0, .ref (gz_ad false G 10 0)), (1, .ref (gz_ad false G 22 0)), (2, .int a2), (3, .int 0)]) [1, 2, 3, 0] rfl ?_
  refine gz_l1_ind (P := fun v1 σ2 x => gz_W false p l e ({ frames := 3, cells := 0, slots := 0, locals := 69 } : Room) s m args below meth c G 5 (gz_Q false G below args s 0 0 gz_ei) 0 0 σ2 2 [(0, .ref (gz_ad false G 10 0)), (1, .ref (gz_ad false G 22 0)), (2, .int a2), (3, .int v1)] [] x) (fun _ _ => gz_none) (fun rec2 hrec2 v1 σ2 => ?_) gz_fu 0 σ
  unfold f_X1_takeMust_L2
  refine gz_iload_n C dX1_takeMust_2 3 rfl ?_
  refine gz_aload_n C dX1_takeMust_3 0 rfl ?_
  refine gz_get C (t := 10) (k := 1) (ci := 1) (q := (RX1, TX1, 6)) (v := .int (σ2.1 10 0 1)) dX1_takeMust_4 fl_RX1_26 (gz_hx10 _) rfl rfl (by decide) rfl ?_
  refine gz_icmp_ge (tgt := 56) C dX1_takeMust_7 (by decide) ?_ ?_
  · skip
    refine gz_iconst C dX1_takeMust_56 gk_iconst_1 ?_
    exact gz_zret C rfl dX1_takeMust_57
  · skip
    refine gz_aload_n C dX1_takeMust_10 0 rfl ?_
    refine gz_get C (t := 10) (k := 0) (ci := 1) (q := (RX1, TX1, 6)) (v := .ref (gz_ad false G 11 0)) dX1_takeMust_11 fl_RX1_11 (gz_hx10 _) rfl rfl (by decide) rfl ?_
    refine gz_iload_n C dX1_takeMust_14 3 rfl ?_
    refine gz_aald7 C (t := 11) dX1_takeMust_15 (gz_hx11 _) rfl (fun n3 hn3 => ?_)
    refine gz_astore C (lv' := [(4, .ref (gz_ad false G 14 n3)), (0, .ref (gz_ad false G 10 0)), (1, .ref (gz_ad false G 22 0)), (2, .int a2), (3, .int v1)]) dX1_takeMust_16 (by decide) rfl ?_
    refine gz_aload C dX1_takeMust_18 0 rfl ?_
    refine gz_ki (gz_runV (t := 14) (ci := 6) (q := (RX6, TX6, 15)) (As := []) (rest := []) C dX1_takeMust_20 ml_RX1_36 mw_X6_waits mv_X6_waits (c_X6_waits l G n3 hn3 σ2) (gz_hx14 _ hn3) rfl rfl rfl rfl rfl (Nat.le_of_ble_eq_true rfl) ⟨rfl, rfl, Nat.le_of_ble_eq_true rfl, Nat.le_of_ble_eq_true rfl, Nat.le_of_ble_eq_true rfl, Nat.le_of_ble_eq_true rfl⟩) (fun r5 σ4 => ?_)
    refine gz_j0_row (P := fun σ6 x => gz_W false p l e ({ frames := 3, cells := 0, slots := 0, locals := 69 } : Room) s m args below meth c G 5 (gz_Q false G below args s 0 0 gz_ei) 0 0 σ6 50 [(0, .ref (gz_ad false G 10 0)), (1, .ref (gz_ad false G 22 0)), (2, .int a2), (3, .int v1)] [] x) (fun σ6 => ?_) (fun j50 hj50 => ?_)
    · unfold f_X1_takeMust_J50
      refine gz_iinc C (q := 3) (v := v1 + 1) (lv' := [(3, .int (v1 + 1)), (0, .ref (gz_ad false G 10 0)), (1, .ref (gz_ad false G 22 0)), (2, .int a2)]) dX1_takeMust_50 rfl rfl (by decide) rfl ?_
      refine gz_goto (tgt := 2) C dX1_takeMust_53 (by decide) ?_
      refine gz_lv (lv' := [(0, .ref (gz_ad false G 10 0)), (1, .ref (gz_ad false G 22 0)), (2, .int a2), (3, .int (v1 + 1))]) [1, 2, 3, 0] rfl ?_
      exact hrec2 (v1 + 1) σ6
    · skip
      refine gz_if_eq (tgt := 50) C dX1_takeMust_23 (by decide) ?_ ?_
      · skip
        refine gz_lv (lv' := [(0, .ref (gz_ad false G 10 0)), (1, .ref (gz_ad false G 22 0)), (2, .int a2), (3, .int v1)]) [1, 2, 3, 4] rfl ?_
        exact hj50 σ4
      · skip
        refine gz_aload C dX1_takeMust_26 0 rfl ?_
        refine gz_getN C (t := 14) (k := 2) (ci := 6) (q := (RX6, TX6, 15)) (v := .int (σ4.1 14 n3 2)) dX1_takeMust_28 fl_RX1_40 (gz_hx14 _ hn3) rfl rfl (by decide) rfl ?_
        refine gz_iload_n C dX1_takeMust_31 3 rfl ?_
        refine gz_icmp_ge (tgt := 50) C dX1_takeMust_32 (by decide) ?_ ?_
        · skip
          refine gz_lv (lv' := [(0, .ref (gz_ad false G 10 0)), (1, .ref (gz_ad false G 22 0)), (2, .int a2), (3, .int v1)]) [1, 2, 3, 4] rfl ?_
          exact hj50 σ4
        · skip
          refine gz_aload_n C dX1_takeMust_35 2 rfl ?_
          refine gz_iload_n C dX1_takeMust_36 4 rfl ?_
          refine gz_aload C dX1_takeMust_37 0 rfl ?_
          refine gz_getN C (t := 14) (k := 1) (ci := 6) (q := (RX6, TX6, 15)) (v := .int (σ4.1 14 n3 1)) dX1_takeMust_39 fl_RX1_43 (gz_hx14 _ hn3) rfl rfl (by decide) rfl ?_
          refine gz_ki (gz_runV (t := 22) (ci := 7) (q := (RX7, TX7, 7)) (As := [.int v1, .int (σ4.1 14 n3 1)]) (rest := []) C dX1_takeMust_42 ml_RX1_46 mw_X7_take mv_X7_take (c_X7_take l G v1 (σ4.1 14 n3 1) σ4) (gz_hx22 _) rfl rfl rfl rfl rfl (Nat.le_of_ble_eq_true rfl) ⟨rfl, rfl, Nat.le_of_ble_eq_true rfl, Nat.le_of_ble_eq_true rfl, Nat.le_of_ble_eq_true rfl, Nat.le_of_ble_eq_true rfl⟩) (fun r8 σ7 => ?_)
          refine gz_if_ne (tgt := 50) C dX1_takeMust_45 (by decide) ?_ ?_
          · skip
            refine gz_lv (lv' := [(0, .ref (gz_ad false G 10 0)), (1, .ref (gz_ad false G 22 0)), (2, .int a2), (3, .int v1)]) [1, 2, 3, 4] rfl ?_
            exact hj50 σ7
          · skip
            refine gz_iconst C dX1_takeMust_48 gk_iconst_0 ?_
            exact gz_zret C rfl dX1_takeMust_49

def f_X1_nextOther_J126 (v4 : Int32) (rec27 : Int32 → Int32 → gz_S → Option (Int32 × gz_S)) : Int32 → gz_S → Option (Int32 × gz_S) := fun v11 σ12 =>
  rec27 v11 (v4 + 1) σ12
def f_X1_nextOther_J122 (v4 : Int32) (j126 : Int32 → gz_S → Option (Int32 × gz_S)) : gz_S → Option (Int32 × gz_S) := fun σ13 =>
  j126 v4 σ13
def f_X1_nextOther_J74 (n6 : Nat) (v4 : Int32) (v3 : Int32) (a2 : Int32) (rec27 : Int32 → Int32 → gz_S → Option (Int32 × gz_S)) : Int32 → gz_S → Option (Int32 × gz_S) := fun x7 σ8 =>
  gz_call (f_X6_waits n6 σ8) (fun r10 σ9 =>
  gz_j1 (f_X1_nextOther_J126 v4 rec27) (fun j126 =>
  if r10 = 0 then
  (j126 v3 σ9)
  else
  (if (σ9.1 14 n6 2) < a2 then
  (j126 v3 σ9)
  else
  (if x7 = 0 then
  (j126 v3 σ9)
  else
  (gz_j0 (f_X1_nextOther_J122 v4 j126) (fun j122 =>
  if v3 = (-1) then
  (j122 σ9)
  else
  (gz_ix v3 61 (fun n14 =>
  if (σ9.1 14 n14 2) ≤ (σ9.1 14 n6 2) then
  (j126 v3 σ9)
  else
  (j122 σ9)))))))))
def f_X1_nextOther_J69 (j74 : Int32 → gz_S → Option (Int32 × gz_S)) : gz_S → Option (Int32 × gz_S) := fun σ15 =>
  j74 1 σ15
def f_X1_nextOther_J73 (j74 : Int32 → gz_S → Option (Int32 × gz_S)) : gz_S → Option (Int32 × gz_S) := fun σ16 =>
  j74 0 σ16
def f_X1_nextOther_L27 (a2 : Int32) (x1 : Int32) (a1 : Int32) : (Int32 → Int32 → gz_S → Option (Int32 × gz_S)) → Int32 → Int32 → gz_S → Option (Int32 × gz_S) := fun rec27 v3 v4 σ5 =>
  if (σ5.1 10 0 1) ≤ v4 then
  (some (v3, σ5))
  else
  (gz_ix v4 61 (fun n6 =>
  gz_j1 (f_X1_nextOther_J74 n6 v4 v3 a2 rec27) (fun j74 =>
  gz_j0 (f_X1_nextOther_J69 j74) (fun j69 =>
  if x1 < (σ5.1 14 n6 2) then
  (j69 σ5)
  else
  (gz_j0 (f_X1_nextOther_J73 j74) (fun j73 =>
  if (σ5.1 14 n6 2) = x1 then
  (if v4 ≤ a1 then
  (j73 σ5)
  else
  (j69 σ5))
  else
  (j73 σ5)))))))
def f_X1_nextOther_J20 (a2 : Int32) (a1 : Int32) : Int32 → gz_S → Option (Int32 × gz_S) := fun x1 σ2 =>
  gz_l2 (f_X1_nextOther_L27 a2 x1 a1) gz_fu (-1) 0 σ2
def f_X1_nextOther (a1 : Int32) (a2 : Int32) (σ : gz_S) : Option (Int32 × gz_S) :=
  gz_j1 (f_X1_nextOther_J20 a2 a1) (fun j20 =>
  if a1 = (-1) then
  (j20 (a2 - 1) σ)
  else
  (gz_ix a1 61 (fun n17 =>
  j20 (σ.1 14 n17 2) σ)))
set_option maxHeartbeats 4000000 in
set_option maxRecDepth 100000 in
theorem c_X1_nextOther (l : Launch) (G : gz_G) (a1 : Int32) (a2 : Int32) (σ : gz_S) : ∀ o, f_X1_nextOther a1 a2 σ = some o → gz_M l false G yX1_nextOther cX1_nextOther 8 (some .int) { frames := 1, cells := 0, slots := 0, locals := 20 } [.ref (gz_ad false G 10 0), .int a1, .int a2] σ (gz_ei o) 0 0 := by
  refine gz_enter RX1 rfl (by decide) (Nat.le_of_ble_eq_true rfl) ?_
  intro p e s m args below meth c C
  refine gz_eqs (st' := []) (lv' := [(0, .ref (gz_ad false G 10 0)), (1, .int a1), (2, .int a2)]) rfl rfl ?_
  unfold f_X1_nextOther
  refine gz_iload_n C dX1_nextOther_0 1 rfl ?_
  refine gz_iconst C dX1_nextOther_1 gk_iconst_m1 ?_
  refine gz_j1_row (P := fun x1 σ2 x => gz_W false p l e ({ frames := 1, cells := 0, slots := 0, locals := 20 } : Room) s m args below meth c G 8 (gz_Q false G below args s 0 0 gz_ei) 0 0 σ2 20 [(0, .ref (gz_ad false G 10 0)), (1, .int a1), (2, .int a2)] [.int x1] x) (fun x1 σ2 => ?_) (fun j20 hj20 => ?_)
  · unfold f_X1_nextOther_J20
    refine gz_istore_n C (lv' := [(3, .int x1), (0, .ref (gz_ad false G 10 0)), (1, .int a1), (2, .int a2)]) dX1_nextOther_20 (by decide) rfl ?_
    refine gz_iconst C dX1_nextOther_21 gk_iconst_m1 ?_
    refine gz_istore C (lv' := [(4, .int (-1)), (3, .int x1), (0, .ref (gz_ad false G 10 0)), (1, .int a1), (2, .int a2)]) dX1_nextOther_22 (by decide) rfl ?_
    refine gz_iconst C dX1_nextOther_24 gk_iconst_0 ?_
    refine gz_istore C (lv' := [(5, .int 0), (4, .int (-1)), (3, .int x1), (0, .ref (gz_ad false G 10 0)), (1, .int a1), (2, .int a2)]) dX1_nextOther_25 (by decide) rfl ?_
    refine gz_lv (lv' := [(0, .ref (gz_ad false G 10 0)), (1, .int a1), (2, .int a2), (3, .int x1), (4, .int (-1)), (5, .int 0)]) [3, 4, 5, 2, 1, 0] rfl ?_
    refine gz_l2_ind (P := fun v3 v4 σ5 x => gz_W false p l e ({ frames := 1, cells := 0, slots := 0, locals := 20 } : Room) s m args below meth c G 8 (gz_Q false G below args s 0 0 gz_ei) 0 0 σ5 27 [(0, .ref (gz_ad false G 10 0)), (1, .int a1), (2, .int a2), (3, .int x1), (4, .int v3), (5, .int v4)] [] x) (fun _ _ _ => gz_none) (fun rec27 hrec27 v3 v4 σ5 => ?_) gz_fu (-1) 0 σ2
    unfold f_X1_nextOther_L27
    refine gz_iload C dX1_nextOther_27 5 rfl ?_
    refine gz_aload_n C dX1_nextOther_29 0 rfl ?_
    refine gz_get C (t := 10) (k := 1) (ci := 1) (q := (RX1, TX1, 6)) (v := .int (σ5.1 10 0 1)) dX1_nextOther_30 fl_RX1_26 (gz_hx10 _) rfl rfl (by decide) rfl ?_
    refine gz_icmp_ge (tgt := 132) C dX1_nextOther_33 (by decide) ?_ ?_
    · skip
      refine gz_iload C dX1_nextOther_132 4 rfl ?_
      exact gz_iret C rfl dX1_nextOther_134
    · skip
      refine gz_aload_n C dX1_nextOther_36 0 rfl ?_
      refine gz_get C (t := 10) (k := 0) (ci := 1) (q := (RX1, TX1, 6)) (v := .ref (gz_ad false G 11 0)) dX1_nextOther_37 fl_RX1_11 (gz_hx10 _) rfl rfl (by decide) rfl ?_
      refine gz_iload C dX1_nextOther_40 5 rfl ?_
      refine gz_aald7 C (t := 11) dX1_nextOther_42 (gz_hx11 _) rfl (fun n6 hn6 => ?_)
      refine gz_astore C (lv' := [(6, .ref (gz_ad false G 14 n6)), (0, .ref (gz_ad false G 10 0)), (1, .int a1), (2, .int a2), (3, .int x1), (4, .int v3), (5, .int v4)]) dX1_nextOther_43 (by decide) rfl ?_
      refine gz_aload C dX1_nextOther_45 0 rfl ?_
      refine gz_getN C (t := 14) (k := 2) (ci := 6) (q := (RX6, TX6, 15)) (v := .int (σ5.1 14 n6 2)) dX1_nextOther_47 fl_RX1_40 (gz_hx14 _ hn6) rfl rfl (by decide) rfl ?_
      refine gz_iload_n C dX1_nextOther_50 4 rfl ?_
      refine gz_j1_row (P := fun x7 σ8 x => gz_W false p l e ({ frames := 1, cells := 0, slots := 0, locals := 20 } : Room) s m args below meth c G 8 (gz_Q false G below args s 0 0 gz_ei) 0 0 σ8 74 [(0, .ref (gz_ad false G 10 0)), (1, .int a1), (2, .int a2), (3, .int x1), (4, .int v3), (5, .int v4), (6, .ref (gz_ad false G 14 n6))] [.int x7] x) (fun x7 σ8 => ?_) (fun j74 hj74 => ?_)
      · unfold f_X1_nextOther_J74
        refine gz_istore C (lv' := [(7, .int x7), (0, .ref (gz_ad false G 10 0)), (1, .int a1), (2, .int a2), (3, .int x1), (4, .int v3), (5, .int v4), (6, .ref (gz_ad false G 14 n6))]) dX1_nextOther_74 (by decide) rfl ?_
        refine gz_aload C dX1_nextOther_76 7 rfl ?_
        refine gz_ki (gz_runV (t := 14) (ci := 6) (q := (RX6, TX6, 15)) (As := []) (rest := []) C dX1_nextOther_78 ml_RX1_36 mw_X6_waits mv_X6_waits (c_X6_waits l G n6 hn6 σ8) (gz_hx14 _ hn6) rfl rfl rfl rfl rfl (Nat.le_of_ble_eq_true rfl) ⟨rfl, rfl, Nat.le_of_ble_eq_true rfl, Nat.le_of_ble_eq_true rfl, Nat.le_of_ble_eq_true rfl, Nat.le_of_ble_eq_true rfl⟩) (fun r10 σ9 => ?_)
        refine gz_j1_row (P := fun v11 σ12 x => gz_W false p l e ({ frames := 1, cells := 0, slots := 0, locals := 20 } : Room) s m args below meth c G 8 (gz_Q false G below args s 0 0 gz_ei) 0 0 σ12 126 [(0, .ref (gz_ad false G 10 0)), (1, .int a1), (2, .int a2), (3, .int x1), (4, .int v11), (5, .int v4)] [] x) (fun v11 σ12 => ?_) (fun j126 hj126 => ?_)
        · unfold f_X1_nextOther_J126
          refine gz_iinc C (q := 5) (v := v4 + 1) (lv' := [(5, .int (v4 + 1)), (0, .ref (gz_ad false G 10 0)), (1, .int a1), (2, .int a2), (3, .int x1), (4, .int v11)]) dX1_nextOther_126 rfl rfl (by decide) rfl ?_
          refine gz_goto (tgt := 27) C dX1_nextOther_129 (by decide) ?_
          refine gz_lv (lv' := [(0, .ref (gz_ad false G 10 0)), (1, .int a1), (2, .int a2), (3, .int x1), (4, .int v11), (5, .int (v4 + 1))]) [1, 2, 3, 4, 5, 0] rfl ?_
          exact hrec27 v11 (v4 + 1) σ12
        · skip
          refine gz_if_eq (tgt := 126) C dX1_nextOther_81 (by decide) ?_ ?_
          · skip
            refine gz_lv (lv' := [(0, .ref (gz_ad false G 10 0)), (1, .int a1), (2, .int a2), (3, .int x1), (4, .int v3), (5, .int v4)]) [1, 2, 3, 4, 5, 6] rfl ?_
            exact hj126 v3 σ9
          · skip
            refine gz_aload C dX1_nextOther_84 7 rfl ?_
            refine gz_getN C (t := 14) (k := 2) (ci := 6) (q := (RX6, TX6, 15)) (v := .int (σ9.1 14 n6 2)) dX1_nextOther_86 fl_RX1_40 (gz_hx14 _ hn6) rfl rfl (by decide) rfl ?_
            refine gz_iload_n C dX1_nextOther_89 3 rfl ?_
            refine gz_icmp_lt (tgt := 126) C dX1_nextOther_90 (by decide) ?_ ?_
            · skip
              refine gz_lv (lv' := [(0, .ref (gz_ad false G 10 0)), (1, .int a1), (2, .int a2), (3, .int x1), (4, .int v3), (5, .int v4)]) [1, 2, 3, 4, 5, 6] rfl ?_
              exact hj126 v3 σ9
            · skip
              refine gz_iload C dX1_nextOther_93 0 rfl ?_
              refine gz_if_eq (tgt := 126) C dX1_nextOther_95 (by decide) ?_ ?_
              · skip
                refine gz_lv (lv' := [(0, .ref (gz_ad false G 10 0)), (1, .int a1), (2, .int a2), (3, .int x1), (4, .int v3), (5, .int v4)]) [1, 2, 3, 4, 5, 6] rfl ?_
                exact hj126 v3 σ9
              · skip
                refine gz_iload C dX1_nextOther_98 5 rfl ?_
                refine gz_iconst C dX1_nextOther_100 gk_iconst_m1 ?_
                refine gz_j0_row (P := fun σ13 x => gz_W false p l e ({ frames := 1, cells := 0, slots := 0, locals := 20 } : Room) s m args below meth c G 8 (gz_Q false G below args s 0 0 gz_ei) 0 0 σ13 122 [(0, .ref (gz_ad false G 10 0)), (1, .int a1), (2, .int a2), (3, .int x1), (5, .int v4)] [] x) (fun σ13 => ?_) (fun j122 hj122 => ?_)
                · unfold f_X1_nextOther_J122
                  refine gz_iload C dX1_nextOther_122 4 rfl ?_
                  refine gz_istore C (lv' := [(4, .int v4), (0, .ref (gz_ad false G 10 0)), (1, .int a1), (2, .int a2), (3, .int x1), (5, .int v4)]) dX1_nextOther_124 (by decide) rfl ?_
                  refine gz_lv (lv' := [(0, .ref (gz_ad false G 10 0)), (1, .int a1), (2, .int a2), (3, .int x1), (4, .int v4), (5, .int v4)]) [1, 2, 3, 4, 0, 5] rfl ?_
                  exact hj126 v4 σ13
                · skip
                  refine gz_icmp_eq (tgt := 122) C dX1_nextOther_101 (by decide) ?_ ?_
                  · skip
                    refine gz_lv (lv' := [(0, .ref (gz_ad false G 10 0)), (1, .int a1), (2, .int a2), (3, .int x1), (5, .int v4)]) [1, 2, 3, 4, 6] rfl ?_
                    exact hj122 σ9
                  · skip
                    refine gz_aload C dX1_nextOther_104 7 rfl ?_
                    refine gz_getN C (t := 14) (k := 2) (ci := 6) (q := (RX6, TX6, 15)) (v := .int (σ9.1 14 n6 2)) dX1_nextOther_106 fl_RX1_40 (gz_hx14 _ hn6) rfl rfl (by decide) rfl ?_
                    refine gz_aload_n C dX1_nextOther_109 1 rfl ?_
                    refine gz_get C (t := 10) (k := 0) (ci := 1) (q := (RX1, TX1, 6)) (v := .ref (gz_ad false G 11 0)) dX1_nextOther_110 fl_RX1_11 (gz_hx10 _) rfl rfl (by decide) rfl ?_
                    refine gz_iload C dX1_nextOther_113 5 rfl ?_
                    refine gz_aald7 C (t := 11) dX1_nextOther_115 (gz_hx11 _) rfl (fun n14 hn14 => ?_)
                    refine gz_getN C (t := 14) (k := 2) (ci := 6) (q := (RX6, TX6, 15)) (v := .int (σ9.1 14 n14 2)) dX1_nextOther_116 fl_RX1_40 (gz_hx14 _ hn14) rfl rfl (by decide) rfl ?_
                    refine gz_icmp_ge (tgt := 126) C dX1_nextOther_119 (by decide) ?_ ?_
                    · skip
                      refine gz_lv (lv' := [(0, .ref (gz_ad false G 10 0)), (1, .int a1), (2, .int a2), (3, .int x1), (4, .int v3), (5, .int v4)]) [1, 2, 3, 4, 5, 6] rfl ?_
                      exact hj126 v3 σ9
                    · skip
                      refine gz_lv (lv' := [(0, .ref (gz_ad false G 10 0)), (1, .int a1), (2, .int a2), (3, .int x1), (5, .int v4)]) [1, 2, 3, 4, 6] rfl ?_
                      exact hj122 σ9
      · skip
        refine gz_j0_row (P := fun σ15 x => gz_W false p l e ({ frames := 1, cells := 0, slots := 0, locals := 20 } : Room) s m args below meth c G 8 (gz_Q false G below args s 0 0 gz_ei) 0 0 σ15 69 [(0, .ref (gz_ad false G 10 0)), (1, .int a1), (2, .int a2), (3, .int x1), (4, .int v3), (5, .int v4), (6, .ref (gz_ad false G 14 n6))] [] x) (fun σ15 => ?_) (fun j69 hj69 => ?_)
        · unfold f_X1_nextOther_J69
          refine gz_iconst C dX1_nextOther_69 gk_iconst_1 ?_
          refine gz_goto (tgt := 74) C dX1_nextOther_70 (by decide) ?_
          exact hj74 1 σ15
        · skip
          refine gz_icmp_gt (tgt := 69) C dX1_nextOther_51 (by decide) ?_ ?_
          · skip
            refine gz_lv (lv' := [(0, .ref (gz_ad false G 10 0)), (1, .int a1), (2, .int a2), (3, .int x1), (4, .int v3), (5, .int v4), (6, .ref (gz_ad false G 14 n6))]) [1, 2, 3, 4, 5, 6, 0] rfl ?_
            exact hj69 σ5
          · skip
            refine gz_aload C dX1_nextOther_54 0 rfl ?_
            refine gz_getN C (t := 14) (k := 2) (ci := 6) (q := (RX6, TX6, 15)) (v := .int (σ5.1 14 n6 2)) dX1_nextOther_56 fl_RX1_40 (gz_hx14 _ hn6) rfl rfl (by decide) rfl ?_
            refine gz_iload_n C dX1_nextOther_59 4 rfl ?_
            refine gz_j0_row (P := fun σ16 x => gz_W false p l e ({ frames := 1, cells := 0, slots := 0, locals := 20 } : Room) s m args below meth c G 8 (gz_Q false G below args s 0 0 gz_ei) 0 0 σ16 73 [(0, .ref (gz_ad false G 10 0)), (1, .int a1), (2, .int a2), (3, .int x1), (4, .int v3), (5, .int v4), (6, .ref (gz_ad false G 14 n6))] [] x) (fun σ16 => ?_) (fun j73 hj73 => ?_)
            · unfold f_X1_nextOther_J73
              refine gz_iconst C dX1_nextOther_73 gk_iconst_0 ?_
              exact hj74 0 σ16
            · skip
              refine gz_icmp_ne (tgt := 73) C dX1_nextOther_60 (by decide) ?_ ?_
              · skip
                refine gz_lv (lv' := [(0, .ref (gz_ad false G 10 0)), (1, .int a1), (2, .int a2), (3, .int x1), (4, .int v3), (5, .int v4), (6, .ref (gz_ad false G 14 n6))]) [1, 2, 3, 4, 5, 6, 0] rfl ?_
                exact hj73 σ5
              · skip
                refine gz_iload C dX1_nextOther_63 6 rfl ?_
                refine gz_iload_n C dX1_nextOther_65 2 rfl ?_
                refine gz_icmp_le (tgt := 73) C dX1_nextOther_66 (by decide) ?_ ?_
                · skip
                  refine gz_lv (lv' := [(0, .ref (gz_ad false G 10 0)), (1, .int a1), (2, .int a2), (3, .int x1), (4, .int v3), (5, .int v4), (6, .ref (gz_ad false G 14 n6))]) [1, 2, 3, 4, 5, 6, 0] rfl ?_
                  exact hj73 σ5
                · skip
                  refine gz_lv (lv' := [(0, .ref (gz_ad false G 10 0)), (1, .int a1), (2, .int a2), (3, .int x1), (4, .int v3), (5, .int v4), (6, .ref (gz_ad false G 14 n6))]) [1, 2, 3, 4, 5, 6, 0] rfl ?_
                  exact hj69 σ5
  · skip
    refine gz_icmp_ne (tgt := 11) C dX1_nextOther_2 (by decide) ?_ ?_
    · skip
      refine gz_aload_n C dX1_nextOther_11 0 rfl ?_
      refine gz_get C (t := 10) (k := 0) (ci := 1) (q := (RX1, TX1, 6)) (v := .ref (gz_ad false G 11 0)) dX1_nextOther_12 fl_RX1_11 (gz_hx10 _) rfl rfl (by decide) rfl ?_
      refine gz_iload_n C dX1_nextOther_15 1 rfl ?_
      refine gz_aald7 C (t := 11) dX1_nextOther_16 (gz_hx11 _) rfl (fun n17 hn17 => ?_)
      refine gz_getN C (t := 14) (k := 2) (ci := 6) (q := (RX6, TX6, 15)) (v := .int (σ.1 14 n17 2)) dX1_nextOther_17 fl_RX1_40 (gz_hx14 _ hn17) rfl rfl (by decide) rfl ?_
      exact hj20 (σ.1 14 n17 2) σ
    · skip
      refine gz_iload_n C dX1_nextOther_5 2 rfl ?_
      refine gz_iconst C dX1_nextOther_6 gk_iconst_1 ?_
      refine gz_isub C dX1_nextOther_7 ?_
      refine gz_goto (tgt := 20) C dX1_nextOther_8 (by decide) ?_
      exact hj20 (a2 - 1) σ

def f_X1_takeOthers_L5 (a2 : Int32) : (Int32 → Int32 → gz_S → Option (gz_S)) → Int32 → Int32 → gz_S → Option (gz_S) := fun rec5 v1 v2 σ3 =>
  if (σ3.1 10 0 1) ≤ v2 then
  (some σ3)
  else
  (gz_call (f_X1_nextOther v1 a2 σ3) (fun r5 σ4 =>
  if r5 = (-1) then
  (some σ4)
  else
  (gz_ix r5 61 (fun n6 =>
  gz_call (f_X7_take r5 (σ4.1 14 n6 1) σ4) (fun r8 σ7 =>
  rec5 r5 (v2 + 1) σ7)))))
def f_X1_takeOthers (a2 : Int32) (σ : gz_S) : Option (gz_S) :=
  gz_l2 (f_X1_takeOthers_L5 a2) gz_fu (-1) 0 σ
set_option maxHeartbeats 4000000 in
set_option maxRecDepth 100000 in
theorem c_X1_takeOthers (l : Launch) (G : gz_G) (a2 : Int32) (σ : gz_S) : ∀ o, f_X1_takeOthers a2 σ = some o → gz_M l false G yX1_takeOthers cX1_takeOthers 5 none { frames := 3, cells := 0, slots := 0, locals := 69 } [.ref (gz_ad false G 10 0), .ref (gz_ad false G 22 0), .int a2] σ (gz_eu o) 0 0 := by
  refine gz_enter RX1 rfl (by decide) (Nat.le_of_ble_eq_true rfl) ?_
  intro p e s m args below meth c C
  refine gz_eqs (st' := []) (lv' := [(0, .ref (gz_ad false G 10 0)), (1, .ref (gz_ad false G 22 0)), (2, .int a2)]) rfl rfl ?_
  unfold f_X1_takeOthers
  refine gz_iconst C dX1_takeOthers_0 gk_iconst_m1 ?_
  refine gz_istore_n C (lv' := [(3, .int (-1)), (0, .ref (gz_ad false G 10 0)), (1, .ref (gz_ad false G 22 0)), (2, .int a2)]) dX1_takeOthers_1 (by decide) rfl ?_
  refine gz_iconst C dX1_takeOthers_2 gk_iconst_0 ?_
  refine gz_istore C (lv' := [(4, .int 0), (3, .int (-1)), (0, .ref (gz_ad false G 10 0)), (1, .ref (gz_ad false G 22 0)), (2, .int a2)]) dX1_takeOthers_3 (by decide) rfl ?_
  refine gz_lv (lv' := [(0, .ref (gz_ad false G 10 0)), (1, .ref (gz_ad false G 22 0)), (2, .int a2), (3, .int (-1)), (4, .int 0)]) [2, 3, 4, 1, 0] rfl ?_
  refine gz_l2_ind (P := fun v1 v2 σ3 x => gz_W false p l e ({ frames := 3, cells := 0, slots := 0, locals := 69 } : Room) s m args below meth c G 5 (gz_Q false G below args s 0 0 gz_eu) 0 0 σ3 5 [(0, .ref (gz_ad false G 10 0)), (1, .ref (gz_ad false G 22 0)), (2, .int a2), (3, .int v1), (4, .int v2)] [] x) (fun _ _ _ => gz_none) (fun rec5 hrec5 v1 v2 σ3 => ?_) gz_fu (-1) 0 σ
  unfold f_X1_takeOthers_L5
  refine gz_iload C dX1_takeOthers_5 4 rfl ?_
  refine gz_aload_n C dX1_takeOthers_7 0 rfl ?_
  refine gz_get C (t := 10) (k := 1) (ci := 1) (q := (RX1, TX1, 6)) (v := .int (σ3.1 10 0 1)) dX1_takeOthers_8 fl_RX1_26 (gz_hx10 _) rfl rfl (by decide) rfl ?_
  refine gz_icmp_ge (tgt := 48) C dX1_takeOthers_11 (by decide) ?_ ?_
  · skip
    exact gz_vret C rfl dX1_takeOthers_48
  · skip
    refine gz_aload_n C dX1_takeOthers_14 0 rfl ?_
    refine gz_iload_n C dX1_takeOthers_15 3 rfl ?_
    refine gz_iload_n C dX1_takeOthers_16 2 rfl ?_
    refine gz_ki (gz_runV (t := 10) (ci := 1) (q := (RX1, TX1, 6)) (As := [.int v1, .int a2]) (rest := []) C dX1_takeOthers_17 ml_RX1_52 mw_X1_nextOther mv_X1_nextOther (c_X1_nextOther l G v1 a2 σ3) (gz_hx10 _) rfl rfl rfl rfl rfl (Nat.le_of_ble_eq_true rfl) ⟨rfl, rfl, Nat.le_of_ble_eq_true rfl, Nat.le_of_ble_eq_true rfl, Nat.le_of_ble_eq_true rfl, Nat.le_of_ble_eq_true rfl⟩) (fun r5 σ4 => ?_)
    refine gz_istore_n C (lv' := [(3, .int r5), (0, .ref (gz_ad false G 10 0)), (1, .ref (gz_ad false G 22 0)), (2, .int a2), (4, .int v2)]) dX1_takeOthers_20 (by decide) rfl ?_
    refine gz_iload_n C dX1_takeOthers_21 0 rfl ?_
    refine gz_iconst C dX1_takeOthers_22 gk_iconst_m1 ?_
    refine gz_icmp_ne (tgt := 27) C dX1_takeOthers_23 (by decide) ?_ ?_
    · skip
      refine gz_aload_n C dX1_takeOthers_27 2 rfl ?_
      refine gz_iload_n C dX1_takeOthers_28 0 rfl ?_
      refine gz_aload_n C dX1_takeOthers_29 1 rfl ?_
      refine gz_get C (t := 10) (k := 0) (ci := 1) (q := (RX1, TX1, 6)) (v := .ref (gz_ad false G 11 0)) dX1_takeOthers_30 fl_RX1_11 (gz_hx10 _) rfl rfl (by decide) rfl ?_
      refine gz_iload_n C dX1_takeOthers_33 0 rfl ?_
      refine gz_aald7 C (t := 11) dX1_takeOthers_34 (gz_hx11 _) rfl (fun n6 hn6 => ?_)
      refine gz_getN C (t := 14) (k := 1) (ci := 6) (q := (RX6, TX6, 15)) (v := .int (σ4.1 14 n6 1)) dX1_takeOthers_35 fl_RX1_43 (gz_hx14 _ hn6) rfl rfl (by decide) rfl ?_
      refine gz_ki (gz_runV (t := 22) (ci := 7) (q := (RX7, TX7, 7)) (As := [.int r5, .int (σ4.1 14 n6 1)]) (rest := []) C dX1_takeOthers_38 ml_RX1_46 mw_X7_take mv_X7_take (c_X7_take l G r5 (σ4.1 14 n6 1) σ4) (gz_hx22 _) rfl rfl rfl rfl rfl (Nat.le_of_ble_eq_true rfl) ⟨rfl, rfl, Nat.le_of_ble_eq_true rfl, Nat.le_of_ble_eq_true rfl, Nat.le_of_ble_eq_true rfl, Nat.le_of_ble_eq_true rfl⟩) (fun r8 σ7 => ?_)
      refine gz_pop C dX1_takeOthers_41 rfl ?_
      refine gz_iinc C (q := 4) (v := v2 + 1) (lv' := [(4, .int (v2 + 1)), (3, .int r5), (0, .ref (gz_ad false G 10 0)), (1, .ref (gz_ad false G 22 0)), (2, .int a2)]) dX1_takeOthers_42 rfl rfl (by decide) rfl ?_
      refine gz_goto (tgt := 5) C dX1_takeOthers_45 (by decide) ?_
      refine gz_lv (lv' := [(0, .ref (gz_ad false G 10 0)), (1, .ref (gz_ad false G 22 0)), (2, .int a2), (3, .int r5), (4, .int (v2 + 1))]) [2, 3, 4, 1, 0] rfl ?_
      exact hrec5 r5 (v2 + 1) σ7
    · skip
      exact gz_vret C rfl dX1_takeOthers_26
