def f_X11_refused (a1 : Int32) (σ : gz_S) : Option (Int32 × gz_S) :=
  gz_w (gz_si σ 0 0 1 a1) (fun σ1 =>
  gz_w (gz_si σ1 0 0 2 (-1)) (fun σ2 =>
  some ((-1), σ2)))
set_option maxHeartbeats 4000000 in
set_option maxRecDepth 100000 in
theorem c_X11_refused (l : Launch) (G : gz_G) (a1 : Int32) (σ : gz_S) : ∀ o, f_X11_refused a1 σ = some o → gz_M l true G yX11_refused cX11_refused 2 (some .int) { frames := 0, cells := 0, slots := 0, locals := 0 } [.ref (gz_ad true G 0 0), .int a1] σ (gz_ei o) 0 0 := by
  refine gz_enter RX11 rfl (by decide) (Nat.le_of_ble_eq_true rfl) ?_
  intro p e s m args below meth c C
  refine gz_eqs (st' := []) (lv' := [(0, .ref (gz_ad true G 0 0)), (1, .int a1)]) rfl rfl ?_
  unfold f_X11_refused
  refine gz_aload_n C dX11_refused_0 0 rfl ?_
  refine gz_iload_n C dX11_refused_1 1 rfl ?_
  refine gz_putI C (t := 0) (k := 1) (ci := 11) (q := (RX11, TX11, 63)) dX11_refused_2 fl_RX11_161 (gz_hm0 _) rfl rfl (by decide) rfl rfl rfl rfl ?_
  refine gz_w_row (fun σ1 => ?_)
  refine gz_aload_n C dX11_refused_5 0 rfl ?_
  refine gz_iconst C dX11_refused_6 gk_iconst_m1 ?_
  refine gz_putI C (t := 0) (k := 2) (ci := 11) (q := (RX11, TX11, 63)) dX11_refused_7 fl_RX11_11 (gz_hm0 _) rfl rfl (by decide) rfl rfl rfl rfl ?_
  refine gz_w_row (fun σ2 => ?_)
  refine gz_iconst C dX11_refused_10 gk_iconst_m1 ?_
  exact gz_iret C rfl dX11_refused_11

def f_X11_denied (a1 : Int32) (σ : gz_S) : Option (Int32 × gz_S) :=
  gz_w (gz_si σ 0 0 1 a1) (fun σ1 =>
  gz_w (gz_si σ1 0 0 2 (-1)) (fun σ2 =>
  some ((0 : Int32) &&& 1, σ2)))
set_option maxHeartbeats 4000000 in
set_option maxRecDepth 100000 in
theorem c_X11_denied (l : Launch) (G : gz_G) (a1 : Int32) (σ : gz_S) : ∀ o, f_X11_denied a1 σ = some o → gz_M l true G yX11_denied cX11_denied 2 (some .boolean) { frames := 0, cells := 0, slots := 0, locals := 0 } [.ref (gz_ad true G 0 0), .int a1] σ (gz_ei o) 0 0 := by
  refine gz_enter RX11 rfl (by decide) (Nat.le_of_ble_eq_true rfl) ?_
  intro p e s m args below meth c C
  refine gz_eqs (st' := []) (lv' := [(0, .ref (gz_ad true G 0 0)), (1, .int a1)]) rfl rfl ?_
  unfold f_X11_denied
  refine gz_aload_n C dX11_denied_0 0 rfl ?_
  refine gz_iload_n C dX11_denied_1 1 rfl ?_
  refine gz_putI C (t := 0) (k := 1) (ci := 11) (q := (RX11, TX11, 63)) dX11_denied_2 fl_RX11_161 (gz_hm0 _) rfl rfl (by decide) rfl rfl rfl rfl ?_
  refine gz_w_row (fun σ1 => ?_)
  refine gz_aload_n C dX11_denied_5 0 rfl ?_
  refine gz_iconst C dX11_denied_6 gk_iconst_m1 ?_
  refine gz_putI C (t := 0) (k := 2) (ci := 11) (q := (RX11, TX11, 63)) dX11_denied_7 fl_RX11_11 (gz_hm0 _) rfl rfl (by decide) rfl rfl rfl rfl ?_
  refine gz_w_row (fun σ2 => ?_)
  refine gz_iconst C dX11_denied_10 gk_iconst_0 ?_
  exact gz_zret C rfl dX11_denied_11

def f_X11_done (a1 : Int32) (σ : gz_S) : Option (Int32 × gz_S) :=
  gz_w (gz_si σ 0 0 1 0) (fun σ1 =>
  gz_w (gz_si σ1 0 0 2 (-1)) (fun σ2 =>
  some (a1, σ2)))
set_option maxHeartbeats 4000000 in
set_option maxRecDepth 100000 in
theorem c_X11_done (l : Launch) (G : gz_G) (a1 : Int32) (σ : gz_S) : ∀ o, f_X11_done a1 σ = some o → gz_M l true G yX11_done cX11_done 2 (some .int) { frames := 0, cells := 0, slots := 0, locals := 0 } [.ref (gz_ad true G 0 0), .int a1] σ (gz_ei o) 0 0 := by
  refine gz_enter RX11 rfl (by decide) (Nat.le_of_ble_eq_true rfl) ?_
  intro p e s m args below meth c C
  refine gz_eqs (st' := []) (lv' := [(0, .ref (gz_ad true G 0 0)), (1, .int a1)]) rfl rfl ?_
  unfold f_X11_done
  refine gz_aload_n C dX11_done_0 0 rfl ?_
  refine gz_iconst C dX11_done_1 gk_iconst_0 ?_
  refine gz_putI C (t := 0) (k := 1) (ci := 11) (q := (RX11, TX11, 63)) dX11_done_2 fl_RX11_161 (gz_hm0 _) rfl rfl (by decide) rfl rfl rfl rfl ?_
  refine gz_w_row (fun σ1 => ?_)
  refine gz_aload_n C dX11_done_5 0 rfl ?_
  refine gz_iconst C dX11_done_6 gk_iconst_m1 ?_
  refine gz_putI C (t := 0) (k := 2) (ci := 11) (q := (RX11, TX11, 63)) dX11_done_7 fl_RX11_11 (gz_hm0 _) rfl rfl (by decide) rfl rfl rfl rfl ?_
  refine gz_w_row (fun σ2 => ?_)
  refine gz_iload_n C dX11_done_10 1 rfl ?_
  exact gz_iret C rfl dX11_done_11

def f_X11_in (a0 : Int32) (a1 : Int32) (a2 : Int32) (σ : gz_S) : Option (Int32 × gz_S) :=
  if a0 < a1 then
  (some ((0 : Int32) &&& 1, σ))
  else
  (if a2 < a0 then
  (some ((0 : Int32) &&& 1, σ))
  else
  (some ((1 : Int32) &&& 1, σ)))
set_option maxHeartbeats 4000000 in
set_option maxRecDepth 100000 in
theorem c_X11_in (l : Launch) (G : gz_G) (a0 : Int32) (a1 : Int32) (a2 : Int32) (σ : gz_S) : ∀ o, f_X11_in a0 a1 a2 σ = some o → gz_M l true G yX11_in cX11_in 3 (some .boolean) { frames := 0, cells := 0, slots := 0, locals := 0 } [.int a0, .int a1, .int a2] σ (gz_ei o) 0 0 := by
  refine gz_enter RX11 rfl (by decide) (Nat.le_of_ble_eq_true rfl) ?_
  intro p e s m args below meth c C
  refine gz_eqs (st' := []) (lv' := [(0, .int a0), (1, .int a1), (2, .int a2)]) rfl rfl ?_
  unfold f_X11_in
  refine gz_iload_n C dX11_in_0 0 rfl ?_
  refine gz_iload_n C dX11_in_1 1 rfl ?_
  refine gz_icmp_lt (tgt := 14) C dX11_in_2 (by decide) ?_ ?_
  · skip
    refine gz_iconst C dX11_in_14 gk_iconst_0 ?_
    exact gz_zret C rfl dX11_in_15
  · skip
    refine gz_iload_n C dX11_in_5 0 rfl ?_
    refine gz_iload_n C dX11_in_6 2 rfl ?_
    refine gz_icmp_gt (tgt := 14) C dX11_in_7 (by decide) ?_ ?_
    · skip
      refine gz_iconst C dX11_in_14 gk_iconst_0 ?_
      exact gz_zret C rfl dX11_in_15
    · skip
      refine gz_iconst C dX11_in_10 gk_iconst_1 ?_
      refine gz_goto (tgt := 15) C dX11_in_11 (by decide) ?_
      exact gz_zret C rfl dX11_in_15

def f_X11_act_J99 (a1 : Int32) (a2 : Int32) (a3 : Int64) (a4 : Int64) : gz_S → Option (gz_S) := fun σ1 =>
  gz_ix (σ1.1 0 0 9) 100 (fun n2 =>
  gz_w (gz_si σ1 1 0 n2 a1) (fun σ3 =>
  gz_ix (σ3.1 0 0 9) 100 (fun n4 =>
  gz_w (gz_si σ3 2 0 n4 a2) (fun σ5 =>
  gz_ix (σ5.1 0 0 9) 100 (fun n6 =>
  gz_w (gz_sj σ5 3 0 n6 a3) (fun σ7 =>
  gz_ix (σ7.1 0 0 9) 100 (fun n8 =>
  gz_w (gz_sj σ7 4 0 n8 a4) (fun σ9 =>
  gz_w (gz_si σ9 0 0 9 ((σ9.1 0 0 9) + 1)) (fun σ10 =>
  some σ10)))))))))
def f_X11_act_J89 (j99 : gz_S → Option (gz_S)) : gz_S → Option (gz_S) := fun σ11 =>
  gz_w (gz_si σ11 0 0 9 ((σ11.1 0 0 9) - 1)) (fun σ12 =>
  j99 σ12)
def f_X11_act_L12 (j89 : gz_S → Option (gz_S)) : (Int32 → gz_S → Option (gz_S)) → Int32 → gz_S → Option (gz_S) := fun rec12 v13 σ14 =>
  if 100 ≤ v13 then
  (j89 σ14)
  else
  (gz_ix v13 100 (fun n15 =>
  gz_ix (v13 - 1) 100 (fun n16 =>
  gz_w (gz_si σ14 1 0 n16 (σ14.1 1 0 n15)) (fun σ17 =>
  gz_ix v13 100 (fun n18 =>
  gz_ix (v13 - 1) 100 (fun n19 =>
  gz_w (gz_si σ17 2 0 n19 (σ17.1 2 0 n18)) (fun σ20 =>
  gz_ix v13 100 (fun n21 =>
  gz_ix (v13 - 1) 100 (fun n22 =>
  gz_w (gz_sj σ20 3 0 n22 (σ20.2.1 3 0 n21)) (fun σ23 =>
  gz_ix v13 100 (fun n24 =>
  gz_ix (v13 - 1) 100 (fun n25 =>
  gz_w (gz_sj σ23 4 0 n25 (σ23.2.1 4 0 n24)) (fun σ26 =>
  rec12 (v13 + 1) σ26)))))))))))))
def f_X11_act (a1 : Int32) (a2 : Int32) (a3 : Int64) (a4 : Int64) (σ : gz_S) : Option (gz_S) :=
  gz_j0 (f_X11_act_J99 a1 a2 a3 a4) (fun j99 =>
  if (σ.1 0 0 9) = 100 then
  (gz_j0 (f_X11_act_J89 j99) (fun j89 =>
  gz_l1 (f_X11_act_L12 j89) gz_fu 1 σ))
  else
  (j99 σ))
set_option maxHeartbeats 4000000 in
set_option maxRecDepth 100000 in
theorem c_X11_act (l : Launch) (G : gz_G) (a1 : Int32) (a2 : Int32) (a3 : Int64) (a4 : Int64) (σ : gz_S) : ∀ o, f_X11_act a1 a2 a3 a4 σ = some o → gz_M l true G yX11_act cX11_act 8 none { frames := 0, cells := 0, slots := 0, locals := 0 } [.ref (gz_ad true G 0 0), .int a1, .int a2, .long a3, .long a4] σ (gz_eu o) 0 0 := by
  refine gz_enter RX11 rfl (by decide) (Nat.le_of_ble_eq_true rfl) ?_
  intro p e s m args below meth c C
  refine gz_eqs (st' := []) (lv' := [(0, .ref (gz_ad true G 0 0)), (1, .int a1), (2, .int a2), (3, .long a3), (5, .long a4)]) rfl rfl ?_
  unfold f_X11_act
  refine gz_aload_n C dX11_act_0 0 rfl ?_
  refine gz_get C (t := 0) (k := 9) (ci := 11) (q := (RX11, TX11, 63)) (v := .int (σ.1 0 0 9)) dX11_act_1 fl_RX11_164 (gz_hm0 _) rfl rfl (by decide) rfl ?_
  refine gz_bipush C dX11_act_4 gk_bipush_100 ?_
  refine gz_j0_row (P := fun σ1 x => gz_W true p l e ({ frames := 0, cells := 0, slots := 0, locals := 0 } : Room) s m args below meth c G 8 (gz_Q true G below args s 0 0 gz_eu) 0 0 σ1 99 [(0, .ref (gz_ad true G 0 0)), (1, .int a1), (2, .int a2), (3, .long a3), (5, .long a4)] [] x) (fun σ1 => ?_) (fun j99 hj99 => ?_)
  · unfold f_X11_act_J99
    refine gz_aload_n C dX11_act_99 0 rfl ?_
    refine gz_get C (t := 0) (k := 5) (ci := 11) (q := (RX11, TX11, 63)) (v := .ref (gz_ad true G 1 0)) dX11_act_100 fl_RX11_18 (gz_hm0 _) rfl rfl (by decide) rfl ?_
    refine gz_aload_n C dX11_act_103 0 rfl ?_
    refine gz_get C (t := 0) (k := 9) (ci := 11) (q := (RX11, TX11, 63)) (v := .int (σ1.1 0 0 9)) dX11_act_104 fl_RX11_164 (gz_hm0 _) rfl rfl (by decide) rfl ?_
    refine gz_iload_n C dX11_act_107 1 rfl ?_
    refine gz_iast C (t := 1) dX11_act_108 (gz_hm1 _) rfl (fun n2 hn2 => ?_)
    refine gz_w_row (fun σ3 => ?_)
    refine gz_aload_n C dX11_act_109 0 rfl ?_
    refine gz_get C (t := 0) (k := 6) (ci := 11) (q := (RX11, TX11, 63)) (v := .ref (gz_ad true G 2 0)) dX11_act_110 fl_RX11_22 (gz_hm0 _) rfl rfl (by decide) rfl ?_
    refine gz_aload_n C dX11_act_113 0 rfl ?_
    refine gz_get C (t := 0) (k := 9) (ci := 11) (q := (RX11, TX11, 63)) (v := .int (σ3.1 0 0 9)) dX11_act_114 fl_RX11_164 (gz_hm0 _) rfl rfl (by decide) rfl ?_
    refine gz_iload_n C dX11_act_117 2 rfl ?_
    refine gz_iast C (t := 2) dX11_act_118 (gz_hm2 _) rfl (fun n4 hn4 => ?_)
    refine gz_w_row (fun σ5 => ?_)
    refine gz_aload_n C dX11_act_119 0 rfl ?_
    refine gz_get C (t := 0) (k := 7) (ci := 11) (q := (RX11, TX11, 63)) (v := .ref (gz_ad true G 3 0)) dX11_act_120 fl_RX11_25 (gz_hm0 _) rfl rfl (by decide) rfl ?_
    refine gz_aload_n C dX11_act_123 0 rfl ?_
    refine gz_get C (t := 0) (k := 9) (ci := 11) (q := (RX11, TX11, 63)) (v := .int (σ5.1 0 0 9)) dX11_act_124 fl_RX11_164 (gz_hm0 _) rfl rfl (by decide) rfl ?_
    refine gz_lload_n C dX11_act_127 3 rfl ?_
    refine gz_last C (t := 3) dX11_act_128 (gz_hm3 _) rfl (fun n6 hn6 => ?_)
    refine gz_w_row (fun σ7 => ?_)
    refine gz_aload_n C dX11_act_129 0 rfl ?_
    refine gz_get C (t := 0) (k := 8) (ci := 11) (q := (RX11, TX11, 63)) (v := .ref (gz_ad true G 4 0)) dX11_act_130 fl_RX11_29 (gz_hm0 _) rfl rfl (by decide) rfl ?_
    refine gz_aload_n C dX11_act_133 0 rfl ?_
    refine gz_get C (t := 0) (k := 9) (ci := 11) (q := (RX11, TX11, 63)) (v := .int (σ7.1 0 0 9)) dX11_act_134 fl_RX11_164 (gz_hm0 _) rfl rfl (by decide) rfl ?_
    refine gz_lload C dX11_act_137 4 rfl ?_
    refine gz_last C (t := 4) dX11_act_139 (gz_hm4 _) rfl (fun n8 hn8 => ?_)
    refine gz_w_row (fun σ9 => ?_)
    refine gz_aload_n C dX11_act_140 0 rfl ?_
    refine gz_dup C dX11_act_141 rfl ?_
    refine gz_get C (t := 0) (k := 9) (ci := 11) (q := (RX11, TX11, 63)) (v := .int (σ9.1 0 0 9)) dX11_act_142 fl_RX11_164 (gz_hm0 _) rfl rfl (by decide) rfl ?_
    refine gz_iconst C dX11_act_145 gk_iconst_1 ?_
    refine gz_iadd C dX11_act_146 ?_
    refine gz_putI C (t := 0) (k := 9) (ci := 11) (q := (RX11, TX11, 63)) dX11_act_147 fl_RX11_164 (gz_hm0 _) rfl rfl (by decide) rfl rfl rfl rfl ?_
    refine gz_w_row (fun σ10 => ?_)
    exact gz_vret C rfl dX11_act_150
  · skip
    refine gz_icmp_ne (tgt := 99) C dX11_act_6 (by decide) ?_ ?_
    · skip
      exact hj99 σ
    · skip
      refine gz_iconst C dX11_act_9 gk_iconst_1 ?_
      refine gz_istore C (lv' := [(7, .int 1), (0, .ref (gz_ad true G 0 0)), (1, .int a1), (2, .int a2), (3, .long a3), (5, .long a4)]) dX11_act_10 (by decide) rfl ?_
      refine gz_j0_row (P := fun σ11 x => gz_W true p l e ({ frames := 0, cells := 0, slots := 0, locals := 0 } : Room) s m args below meth c G 8 (gz_Q true G below args s 0 0 gz_eu) 0 0 σ11 89 [(0, .ref (gz_ad true G 0 0)), (1, .int a1), (2, .int a2), (3, .long a3), (5, .long a4)] [] x) (fun σ11 => ?_) (fun j89 hj89 => ?_)
      · unfold f_X11_act_J89
        refine gz_aload_n C dX11_act_89 0 rfl ?_
        refine gz_dup C dX11_act_90 rfl ?_
        refine gz_get C (t := 0) (k := 9) (ci := 11) (q := (RX11, TX11, 63)) (v := .int (σ11.1 0 0 9)) dX11_act_91 fl_RX11_164 (gz_hm0 _) rfl rfl (by decide) rfl ?_
        refine gz_iconst C dX11_act_94 gk_iconst_1 ?_
        refine gz_isub C dX11_act_95 ?_
        refine gz_putI C (t := 0) (k := 9) (ci := 11) (q := (RX11, TX11, 63)) dX11_act_96 fl_RX11_164 (gz_hm0 _) rfl rfl (by decide) rfl rfl rfl rfl ?_
        refine gz_w_row (fun σ12 => ?_)
        exact hj99 σ12
      · skip
        refine gz_lv (lv' := [(0, .ref (gz_ad true G 0 0)), (1, .int a1), (2, .int a2), (3, .long a3), (5, .long a4), (7, .int 1)]) [1, 2, 3, 4, 5, 0] rfl ?_
        refine gz_l1_ind (P := fun v13 σ14 x => gz_W true p l e ({ frames := 0, cells := 0, slots := 0, locals := 0 } : Room) s m args below meth c G 8 (gz_Q true G below args s 0 0 gz_eu) 0 0 σ14 12 [(0, .ref (gz_ad true G 0 0)), (1, .int a1), (2, .int a2), (3, .long a3), (5, .long a4), (7, .int v13)] [] x) (fun _ _ => gz_none) (fun rec12 hrec12 v13 σ14 => ?_) gz_fu 1 σ
        unfold f_X11_act_L12
        refine gz_iload C dX11_act_12 5 rfl ?_
        refine gz_bipush C dX11_act_14 gk_bipush_100 ?_
        refine gz_icmp_ge (tgt := 89) C dX11_act_16 (by decide) ?_ ?_
        · skip
          refine gz_lv (lv' := [(0, .ref (gz_ad true G 0 0)), (1, .int a1), (2, .int a2), (3, .long a3), (5, .long a4)]) [0, 1, 2, 3, 4] rfl ?_
          exact hj89 σ14
        · skip
          refine gz_aload_n C dX11_act_19 0 rfl ?_
          refine gz_get C (t := 0) (k := 5) (ci := 11) (q := (RX11, TX11, 63)) (v := .ref (gz_ad true G 1 0)) dX11_act_20 fl_RX11_18 (gz_hm0 _) rfl rfl (by decide) rfl ?_
          refine gz_iload C dX11_act_23 5 rfl ?_
          refine gz_iconst C dX11_act_25 gk_iconst_1 ?_
          refine gz_isub C dX11_act_26 ?_
          refine gz_aload_n C dX11_act_27 0 rfl ?_
          refine gz_get C (t := 0) (k := 5) (ci := 11) (q := (RX11, TX11, 63)) (v := .ref (gz_ad true G 1 0)) dX11_act_28 fl_RX11_18 (gz_hm0 _) rfl rfl (by decide) rfl ?_
          refine gz_iload C dX11_act_31 5 rfl ?_
          refine gz_iald C (t := 1) dX11_act_33 (gz_hm1 _) rfl (fun n15 hn15 => ?_)
          refine gz_iast C (t := 1) dX11_act_34 (gz_hm1 _) rfl (fun n16 hn16 => ?_)
          refine gz_w_row (fun σ17 => ?_)
          refine gz_aload_n C dX11_act_35 0 rfl ?_
          refine gz_get C (t := 0) (k := 6) (ci := 11) (q := (RX11, TX11, 63)) (v := .ref (gz_ad true G 2 0)) dX11_act_36 fl_RX11_22 (gz_hm0 _) rfl rfl (by decide) rfl ?_
          refine gz_iload C dX11_act_39 5 rfl ?_
          refine gz_iconst C dX11_act_41 gk_iconst_1 ?_
          refine gz_isub C dX11_act_42 ?_
          refine gz_aload_n C dX11_act_43 0 rfl ?_
          refine gz_get C (t := 0) (k := 6) (ci := 11) (q := (RX11, TX11, 63)) (v := .ref (gz_ad true G 2 0)) dX11_act_44 fl_RX11_22 (gz_hm0 _) rfl rfl (by decide) rfl ?_
          refine gz_iload C dX11_act_47 5 rfl ?_
          refine gz_iald C (t := 2) dX11_act_49 (gz_hm2 _) rfl (fun n18 hn18 => ?_)
          refine gz_iast C (t := 2) dX11_act_50 (gz_hm2 _) rfl (fun n19 hn19 => ?_)
          refine gz_w_row (fun σ20 => ?_)
          refine gz_aload_n C dX11_act_51 0 rfl ?_
          refine gz_get C (t := 0) (k := 7) (ci := 11) (q := (RX11, TX11, 63)) (v := .ref (gz_ad true G 3 0)) dX11_act_52 fl_RX11_25 (gz_hm0 _) rfl rfl (by decide) rfl ?_
          refine gz_iload C dX11_act_55 5 rfl ?_
          refine gz_iconst C dX11_act_57 gk_iconst_1 ?_
          refine gz_isub C dX11_act_58 ?_
          refine gz_aload_n C dX11_act_59 0 rfl ?_
          refine gz_get C (t := 0) (k := 7) (ci := 11) (q := (RX11, TX11, 63)) (v := .ref (gz_ad true G 3 0)) dX11_act_60 fl_RX11_25 (gz_hm0 _) rfl rfl (by decide) rfl ?_
          refine gz_iload C dX11_act_63 5 rfl ?_
          refine gz_lald C (t := 3) dX11_act_65 (gz_hm3 _) rfl (fun n21 hn21 => ?_)
          refine gz_last C (t := 3) dX11_act_66 (gz_hm3 _) rfl (fun n22 hn22 => ?_)
          refine gz_w_row (fun σ23 => ?_)
          refine gz_aload_n C dX11_act_67 0 rfl ?_
          refine gz_get C (t := 0) (k := 8) (ci := 11) (q := (RX11, TX11, 63)) (v := .ref (gz_ad true G 4 0)) dX11_act_68 fl_RX11_29 (gz_hm0 _) rfl rfl (by decide) rfl ?_
          refine gz_iload C dX11_act_71 5 rfl ?_
          refine gz_iconst C dX11_act_73 gk_iconst_1 ?_
          refine gz_isub C dX11_act_74 ?_
          refine gz_aload_n C dX11_act_75 0 rfl ?_
          refine gz_get C (t := 0) (k := 8) (ci := 11) (q := (RX11, TX11, 63)) (v := .ref (gz_ad true G 4 0)) dX11_act_76 fl_RX11_29 (gz_hm0 _) rfl rfl (by decide) rfl ?_
          refine gz_iload C dX11_act_79 5 rfl ?_
          refine gz_lald C (t := 4) dX11_act_81 (gz_hm4 _) rfl (fun n24 hn24 => ?_)
          refine gz_last C (t := 4) dX11_act_82 (gz_hm4 _) rfl (fun n25 hn25 => ?_)
          refine gz_w_row (fun σ26 => ?_)
          refine gz_iinc C (q := 5) (v := v13 + 1) (lv' := [(7, .int (v13 + 1)), (0, .ref (gz_ad true G 0 0)), (1, .int a1), (2, .int a2), (3, .long a3), (5, .long a4)]) dX11_act_83 rfl rfl (by decide) rfl ?_
          refine gz_goto (tgt := 12) C dX11_act_86 (by decide) ?_
          refine gz_lv (lv' := [(0, .ref (gz_ad true G 0 0)), (1, .int a1), (2, .int a2), (3, .long a3), (5, .long a4), (7, .int (v13 + 1))]) [1, 2, 3, 4, 5, 0] rfl ?_
          exact hrec12 (v13 + 1) σ26

def f_X11_undo_J104 (v4 : Int32) : Int32 → Int32 → gz_S → Option (Int32 × gz_S) := fun x7 x8 σ9 =>
  gz_ix x7 10000 (fun n10 =>
  gz_w (gz_si σ9 5 0 n10 (x8 &&& 1)) (fun σ11 =>
  gz_ix v4 10000 (fun n12 =>
  if (σ11.1 5 0 n12) = 0 then
  (gz_w (gz_si σ11 0 0 11 ((σ11.1 0 0 11) + (-1))) (fun σ13 =>
  some (1, σ13)))
  else
  (gz_w (gz_si σ11 0 0 11 ((σ11.1 0 0 11) + 1)) (fun σ14 =>
  some (1, σ14))))))
def f_X11_undo (σ : gz_S) : Option (Int32 × gz_S) :=
  gz_w (gz_si σ 0 0 0 0) (fun σ1 =>
  if (σ1.1 0 0 9) = 0 then
  (some (0, σ1))
  else
  (gz_w (gz_si σ1 0 0 9 ((σ1.1 0 0 9) - 1)) (fun σ2 =>
  gz_ix (σ2.1 0 0 9) 100 (fun n3 =>
  gz_v (σ2.1 2 0 n3) (fun v4 =>
  gz_ix (σ2.1 0 0 9) 100 (fun n5 =>
  (if (σ2.1 1 0 n5) = 0 then
  (gz_ix (σ2.1 0 0 9) 100 (fun n6 =>
  gz_j2 (f_X11_undo_J104 v4) (fun j104 =>
  if (lg_cmp (σ2.2.1 3 0 n6) 1) = 0 then
  (j104 v4 1 σ2)
  else
  (j104 v4 0 σ2))))
  else
  (if (σ2.1 1 0 n5) = 1 then
  (gz_w (gz_si σ2 0 0 21 ((σ2.1 0 0 21) - 1)) (fun σ15 =>
  some (1, σ15)))
  else
  (if (σ2.1 1 0 n5) = 2 then
  (gz_w (gz_si σ2 0 0 29 ((σ2.1 0 0 29) - 1)) (fun σ16 =>
  some (1, σ16)))
  else
  (if (σ2.1 1 0 n5) = 3 then
  (gz_ix v4 61 (fun n17 =>
  gz_ix v4 61 (fun n18 =>
  gz_w (gz_si σ2 19 0 n18 ((σ2.1 19 0 n17) - 1)) (fun σ19 =>
  some (1, σ19)))))
  else
  (if (σ2.1 1 0 n5) = 4 then
  (gz_ix (σ2.1 0 0 9) 100 (fun n20 =>
  gz_ix v4 61 (fun n21 =>
  gz_w (gz_si σ2 20 0 n21 ((σ2.2.1 3 0 n20 : Int64).toInt32)) (fun σ22 =>
  some (1, σ22)))))
  else
  (if (σ2.1 1 0 n5) = 5 then
  (gz_ix (σ2.1 0 0 9) 100 (fun n23 =>
  gz_ix v4 61 (fun n24 =>
  gz_w (gz_sj σ2 22 0 n24 (σ2.2.1 3 0 n23)) (fun σ25 =>
  gz_ix (σ25.1 0 0 9) 100 (fun n26 =>
  gz_ix v4 61 (fun n27 =>
  gz_w (gz_sj σ25 23 0 n27 (σ25.2.1 4 0 n26)) (fun σ28 =>
  some (1, σ28))))))))
  else
  (gz_ix (σ2.1 0 0 9) 100 (fun n29 =>
  gz_ix v4 61 (fun n30 =>
  gz_w (gz_sj σ2 24 0 n30 (σ2.2.1 3 0 n29)) (fun σ31 =>
  some (1, σ31)))))))))))))))))
set_option maxHeartbeats 4000000 in
set_option maxRecDepth 100000 in
theorem c_X11_undo (l : Launch) (G : gz_G) (σ : gz_S) : ∀ o, f_X11_undo σ = some o → gz_M l true G yX11_undo cX11_undo 2 (some .int) { frames := 0, cells := 0, slots := 0, locals := 0 } [.ref (gz_ad true G 0 0)] σ (gz_ei o) 0 0 := by
  refine gz_enter RX11 rfl (by decide) (Nat.le_of_ble_eq_true rfl) ?_
  intro p e s m args below meth c C
  refine gz_eqs (st' := []) (lv' := [(0, .ref (gz_ad true G 0 0))]) rfl rfl ?_
  unfold f_X11_undo
  refine gz_aload_n C dX11_undo_0 0 rfl ?_
  refine gz_iconst C dX11_undo_1 gk_iconst_0 ?_
  refine gz_putI C (t := 0) (k := 0) (ci := 11) (q := (RX11, TX11, 63)) dX11_undo_2 fl_RX11_158 (gz_hm0 _) rfl rfl (by decide) rfl rfl rfl rfl ?_
  refine gz_w_row (fun σ1 => ?_)
  refine gz_aload_n C dX11_undo_5 0 rfl ?_
  refine gz_get C (t := 0) (k := 9) (ci := 11) (q := (RX11, TX11, 63)) (v := .int (σ1.1 0 0 9)) dX11_undo_6 fl_RX11_164 (gz_hm0 _) rfl rfl (by decide) rfl ?_
  refine gz_if_ne (tgt := 14) C dX11_undo_9 (by decide) ?_ ?_
  · skip
    refine gz_aload_n C dX11_undo_14 0 rfl ?_
    refine gz_dup C dX11_undo_15 rfl ?_
    refine gz_get C (t := 0) (k := 9) (ci := 11) (q := (RX11, TX11, 63)) (v := .int (σ1.1 0 0 9)) dX11_undo_16 fl_RX11_164 (gz_hm0 _) rfl rfl (by decide) rfl ?_
    refine gz_iconst C dX11_undo_19 gk_iconst_1 ?_
    refine gz_isub C dX11_undo_20 ?_
    refine gz_putI C (t := 0) (k := 9) (ci := 11) (q := (RX11, TX11, 63)) dX11_undo_21 fl_RX11_164 (gz_hm0 _) rfl rfl (by decide) rfl rfl rfl rfl ?_
    refine gz_w_row (fun σ2 => ?_)
    refine gz_aload_n C dX11_undo_24 0 rfl ?_
    refine gz_get C (t := 0) (k := 6) (ci := 11) (q := (RX11, TX11, 63)) (v := .ref (gz_ad true G 2 0)) dX11_undo_25 fl_RX11_22 (gz_hm0 _) rfl rfl (by decide) rfl ?_
    refine gz_aload_n C dX11_undo_28 0 rfl ?_
    refine gz_get C (t := 0) (k := 9) (ci := 11) (q := (RX11, TX11, 63)) (v := .int (σ2.1 0 0 9)) dX11_undo_29 fl_RX11_164 (gz_hm0 _) rfl rfl (by decide) rfl ?_
    refine gz_iald C (t := 2) dX11_undo_32 (gz_hm2 _) rfl (fun n3 hn3 => ?_)
    refine gz_topI (fun v4 => ?_)
    refine gz_istore_n C (lv' := [(1, .int v4), (0, .ref (gz_ad true G 0 0))]) dX11_undo_33 (by decide) rfl ?_
    refine gz_aload_n C dX11_undo_34 1 rfl ?_
    refine gz_get C (t := 0) (k := 5) (ci := 11) (q := (RX11, TX11, 63)) (v := .ref (gz_ad true G 1 0)) dX11_undo_35 fl_RX11_18 (gz_hm0 _) rfl rfl (by decide) rfl ?_
    refine gz_aload_n C dX11_undo_38 1 rfl ?_
    refine gz_get C (t := 0) (k := 9) (ci := 11) (q := (RX11, TX11, 63)) (v := .int (σ2.1 0 0 9)) dX11_undo_39 fl_RX11_164 (gz_hm0 _) rfl rfl (by decide) rfl ?_
    refine gz_iald C (t := 1) dX11_undo_42 (gz_hm1 _) rfl (fun n5 hn5 => ?_)
    refine gz_case 0 (fun hx0 => ?_) (fun hx0 => ?_)
    · rw [hx0]
      refine gz_tin (tgt := 80) (off := 37) C dX11_undo_43 (by decide) (by decide) rfl (by decide) ?_
      refine gz_aload_n C dX11_undo_80 1 rfl ?_
      refine gz_get C (t := 0) (k := 10) (ci := 11) (q := (RX11, TX11, 63)) (v := .ref (gz_ad true G 5 0)) dX11_undo_81 fl_RX11_32 (gz_hm0 _) rfl rfl (by decide) rfl ?_
      refine gz_iload_n C dX11_undo_84 0 rfl ?_
      refine gz_aload_n C dX11_undo_85 1 rfl ?_
      refine gz_get C (t := 0) (k := 7) (ci := 11) (q := (RX11, TX11, 63)) (v := .ref (gz_ad true G 3 0)) dX11_undo_86 fl_RX11_25 (gz_hm0 _) rfl rfl (by decide) rfl ?_
      refine gz_aload_n C dX11_undo_89 1 rfl ?_
      refine gz_get C (t := 0) (k := 9) (ci := 11) (q := (RX11, TX11, 63)) (v := .int (σ2.1 0 0 9)) dX11_undo_90 fl_RX11_164 (gz_hm0 _) rfl rfl (by decide) rfl ?_
      refine gz_lald C (t := 3) dX11_undo_93 (gz_hm3 _) rfl (fun n6 hn6 => ?_)
      refine gz_lconst C dX11_undo_94 gk_lconst_1 ?_
      refine gz_lcmp C dX11_undo_95 ?_
      refine gz_j2_row (P := fun x7 x8 σ9 x => gz_W true p l e ({ frames := 0, cells := 0, slots := 0, locals := 0 } : Room) s m args below meth c G 2 (gz_Q true G below args s 0 0 gz_ei) 0 0 σ9 104 [(0, .ref (gz_ad true G 0 0)), (1, .int v4)] [.int x8, .int x7, .ref (gz_ad true G 5 0)] x) (fun x7 x8 σ9 => ?_) (fun j104 hj104 => ?_)
      · unfold f_X11_undo_J104
        refine gz_zast C (t := 5) dX11_undo_104 (gz_hm5 _) rfl (fun n10 hn10 => ?_)
        refine gz_w_row (fun σ11 => ?_)
        refine gz_aload_n C dX11_undo_105 0 rfl ?_
        refine gz_dup C dX11_undo_106 rfl ?_
        refine gz_get C (t := 0) (k := 11) (ci := 11) (q := (RX11, TX11, 63)) (v := .int (σ11.1 0 0 11)) dX11_undo_107 fl_RX11_167 (gz_hm0 _) rfl rfl (by decide) rfl ?_
        refine gz_aload_n C dX11_undo_110 0 rfl ?_
        refine gz_get C (t := 0) (k := 10) (ci := 11) (q := (RX11, TX11, 63)) (v := .ref (gz_ad true G 5 0)) dX11_undo_111 fl_RX11_32 (gz_hm0 _) rfl rfl (by decide) rfl ?_
        refine gz_iload_n C dX11_undo_114 1 rfl ?_
        refine gz_zald C (t := 5) dX11_undo_115 (gz_hm5 _) rfl (fun n12 hn12 => ?_)
        refine gz_if_eq (tgt := 123) C dX11_undo_116 (by decide) ?_ ?_
        · skip
          refine gz_iconst C dX11_undo_123 gk_iconst_m1 ?_
          refine gz_iadd C dX11_undo_124 ?_
          refine gz_putI C (t := 0) (k := 11) (ci := 11) (q := (RX11, TX11, 63)) dX11_undo_125 fl_RX11_167 (gz_hm0 _) rfl rfl (by decide) rfl rfl rfl rfl ?_
          refine gz_w_row (fun σ13 => ?_)
          refine gz_goto (tgt := 237) C dX11_undo_128 (by decide) ?_
          refine gz_iconst C dX11_undo_237 gk_iconst_1 ?_
          exact gz_iret C rfl dX11_undo_238
        · skip
          refine gz_iconst C dX11_undo_119 gk_iconst_1 ?_
          refine gz_goto (tgt := 124) C dX11_undo_120 (by decide) ?_
          refine gz_iadd C dX11_undo_124 ?_
          refine gz_putI C (t := 0) (k := 11) (ci := 11) (q := (RX11, TX11, 63)) dX11_undo_125 fl_RX11_167 (gz_hm0 _) rfl rfl (by decide) rfl rfl rfl rfl ?_
          refine gz_w_row (fun σ14 => ?_)
          refine gz_goto (tgt := 237) C dX11_undo_128 (by decide) ?_
          refine gz_iconst C dX11_undo_237 gk_iconst_1 ?_
          exact gz_iret C rfl dX11_undo_238
      · skip
        refine gz_if_ne (tgt := 103) C dX11_undo_96 (by decide) ?_ ?_
        · skip
          refine gz_iconst C dX11_undo_103 gk_iconst_0 ?_
          refine gz_lv (lv' := [(0, .ref (gz_ad true G 0 0)), (1, .int v4)]) [1, 0] rfl ?_
          exact hj104 v4 0 σ2
        · skip
          refine gz_iconst C dX11_undo_99 gk_iconst_1 ?_
          refine gz_goto (tgt := 104) C dX11_undo_100 (by decide) ?_
          refine gz_lv (lv' := [(0, .ref (gz_ad true G 0 0)), (1, .int v4)]) [1, 0] rfl ?_
          exact hj104 v4 1 σ2
    refine gz_case 1 (fun hx1 => ?_) (fun hx1 => ?_)
    · rw [hx1]
      refine gz_tin (tgt := 131) (off := 88) C dX11_undo_43 (by decide) (by decide) rfl (by decide) ?_
      refine gz_aload_n C dX11_undo_131 1 rfl ?_
      refine gz_dup C dX11_undo_132 rfl ?_
      refine gz_get C (t := 0) (k := 21) (ci := 11) (q := (RX11, TX11, 63)) (v := .int (σ2.1 0 0 21)) dX11_undo_133 fl_RX11_170 (gz_hm0 _) rfl rfl (by decide) rfl ?_
      refine gz_iconst C dX11_undo_136 gk_iconst_1 ?_
      refine gz_isub C dX11_undo_137 ?_
      refine gz_putI C (t := 0) (k := 21) (ci := 11) (q := (RX11, TX11, 63)) dX11_undo_138 fl_RX11_170 (gz_hm0 _) rfl rfl (by decide) rfl rfl rfl rfl ?_
      refine gz_w_row (fun σ15 => ?_)
      refine gz_goto (tgt := 237) C dX11_undo_141 (by decide) ?_
      refine gz_iconst C dX11_undo_237 gk_iconst_1 ?_
      exact gz_iret C rfl dX11_undo_238
    refine gz_case 2 (fun hx2 => ?_) (fun hx2 => ?_)
    · rw [hx2]
      refine gz_tin (tgt := 144) (off := 101) C dX11_undo_43 (by decide) (by decide) rfl (by decide) ?_
      refine gz_aload_n C dX11_undo_144 1 rfl ?_
      refine gz_dup C dX11_undo_145 rfl ?_
      refine gz_get C (t := 0) (k := 29) (ci := 11) (q := (RX11, TX11, 63)) (v := .int (σ2.1 0 0 29)) dX11_undo_146 fl_RX11_173 (gz_hm0 _) rfl rfl (by decide) rfl ?_
      refine gz_iconst C dX11_undo_149 gk_iconst_1 ?_
      refine gz_isub C dX11_undo_150 ?_
      refine gz_putI C (t := 0) (k := 29) (ci := 11) (q := (RX11, TX11, 63)) dX11_undo_151 fl_RX11_173 (gz_hm0 _) rfl rfl (by decide) rfl rfl rfl rfl ?_
      refine gz_w_row (fun σ16 => ?_)
      refine gz_goto (tgt := 237) C dX11_undo_154 (by decide) ?_
      refine gz_iconst C dX11_undo_237 gk_iconst_1 ?_
      exact gz_iret C rfl dX11_undo_238
    refine gz_case 3 (fun hx3 => ?_) (fun hx3 => ?_)
    · rw [hx3]
      refine gz_tin (tgt := 157) (off := 114) C dX11_undo_43 (by decide) (by decide) rfl (by decide) ?_
      refine gz_aload_n C dX11_undo_157 1 rfl ?_
      refine gz_get C (t := 0) (k := 36) (ci := 11) (q := (RX11, TX11, 63)) (v := .ref (gz_ad true G 19 0)) dX11_undo_158 fl_RX11_83 (gz_hm0 _) rfl rfl (by decide) rfl ?_
      refine gz_iload_n C dX11_undo_161 0 rfl ?_
      refine gz_dup2 C dX11_undo_162 rfl rfl ?_
      refine gz_iald C (t := 19) dX11_undo_163 (gz_hm19 _) rfl (fun n17 hn17 => ?_)
      refine gz_iconst C dX11_undo_164 gk_iconst_1 ?_
      refine gz_isub C dX11_undo_165 ?_
      refine gz_iast C (t := 19) dX11_undo_166 (gz_hm19 _) rfl (fun n18 hn18 => ?_)
      refine gz_w_row (fun σ19 => ?_)
      refine gz_goto (tgt := 237) C dX11_undo_167 (by decide) ?_
      refine gz_iconst C dX11_undo_237 gk_iconst_1 ?_
      exact gz_iret C rfl dX11_undo_238
    refine gz_case 4 (fun hx4 => ?_) (fun hx4 => ?_)
    · rw [hx4]
      refine gz_tin (tgt := 170) (off := 127) C dX11_undo_43 (by decide) (by decide) rfl (by decide) ?_
      refine gz_aload_n C dX11_undo_170 1 rfl ?_
      refine gz_get C (t := 0) (k := 37) (ci := 11) (q := (RX11, TX11, 63)) (v := .ref (gz_ad true G 20 0)) dX11_undo_171 fl_RX11_86 (gz_hm0 _) rfl rfl (by decide) rfl ?_
      refine gz_iload_n C dX11_undo_174 0 rfl ?_
      refine gz_aload_n C dX11_undo_175 1 rfl ?_
      refine gz_get C (t := 0) (k := 7) (ci := 11) (q := (RX11, TX11, 63)) (v := .ref (gz_ad true G 3 0)) dX11_undo_176 fl_RX11_25 (gz_hm0 _) rfl rfl (by decide) rfl ?_
      refine gz_aload_n C dX11_undo_179 1 rfl ?_
      refine gz_get C (t := 0) (k := 9) (ci := 11) (q := (RX11, TX11, 63)) (v := .int (σ2.1 0 0 9)) dX11_undo_180 fl_RX11_164 (gz_hm0 _) rfl rfl (by decide) rfl ?_
      refine gz_lald C (t := 3) dX11_undo_183 (gz_hm3 _) rfl (fun n20 hn20 => ?_)
      refine gz_l2i C dX11_undo_184 ?_
      refine gz_iast C (t := 20) dX11_undo_185 (gz_hm20 _) rfl (fun n21 hn21 => ?_)
      refine gz_w_row (fun σ22 => ?_)
      refine gz_goto (tgt := 237) C dX11_undo_186 (by decide) ?_
      refine gz_iconst C dX11_undo_237 gk_iconst_1 ?_
      exact gz_iret C rfl dX11_undo_238
    refine gz_case 5 (fun hx5 => ?_) (fun hx5 => ?_)
    · rw [hx5]
      refine gz_tin (tgt := 189) (off := 146) C dX11_undo_43 (by decide) (by decide) rfl (by decide) ?_
      refine gz_aload_n C dX11_undo_189 1 rfl ?_
      refine gz_get C (t := 0) (k := 39) (ci := 11) (q := (RX11, TX11, 63)) (v := .ref (gz_ad true G 22 0)) dX11_undo_190 fl_RX11_92 (gz_hm0 _) rfl rfl (by decide) rfl ?_
      refine gz_iload_n C dX11_undo_193 0 rfl ?_
      refine gz_aload_n C dX11_undo_194 1 rfl ?_
      refine gz_get C (t := 0) (k := 7) (ci := 11) (q := (RX11, TX11, 63)) (v := .ref (gz_ad true G 3 0)) dX11_undo_195 fl_RX11_25 (gz_hm0 _) rfl rfl (by decide) rfl ?_
      refine gz_aload_n C dX11_undo_198 1 rfl ?_
      refine gz_get C (t := 0) (k := 9) (ci := 11) (q := (RX11, TX11, 63)) (v := .int (σ2.1 0 0 9)) dX11_undo_199 fl_RX11_164 (gz_hm0 _) rfl rfl (by decide) rfl ?_
      refine gz_lald C (t := 3) dX11_undo_202 (gz_hm3 _) rfl (fun n23 hn23 => ?_)
      refine gz_last C (t := 22) dX11_undo_203 (gz_hm22 _) rfl (fun n24 hn24 => ?_)
      refine gz_w_row (fun σ25 => ?_)
      refine gz_aload_n C dX11_undo_204 1 rfl ?_
      refine gz_get C (t := 0) (k := 40) (ci := 11) (q := (RX11, TX11, 63)) (v := .ref (gz_ad true G 23 0)) dX11_undo_205 fl_RX11_95 (gz_hm0 _) rfl rfl (by decide) rfl ?_
      refine gz_iload_n C dX11_undo_208 0 rfl ?_
      refine gz_aload_n C dX11_undo_209 1 rfl ?_
      refine gz_get C (t := 0) (k := 8) (ci := 11) (q := (RX11, TX11, 63)) (v := .ref (gz_ad true G 4 0)) dX11_undo_210 fl_RX11_29 (gz_hm0 _) rfl rfl (by decide) rfl ?_
      refine gz_aload_n C dX11_undo_213 1 rfl ?_
      refine gz_get C (t := 0) (k := 9) (ci := 11) (q := (RX11, TX11, 63)) (v := .int (σ25.1 0 0 9)) dX11_undo_214 fl_RX11_164 (gz_hm0 _) rfl rfl (by decide) rfl ?_
      refine gz_lald C (t := 4) dX11_undo_217 (gz_hm4 _) rfl (fun n26 hn26 => ?_)
      refine gz_last C (t := 23) dX11_undo_218 (gz_hm23 _) rfl (fun n27 hn27 => ?_)
      refine gz_w_row (fun σ28 => ?_)
      refine gz_goto (tgt := 237) C dX11_undo_219 (by decide) ?_
      refine gz_iconst C dX11_undo_237 gk_iconst_1 ?_
      exact gz_iret C rfl dX11_undo_238
    refine gz_tout (tgt := 222) C dX11_undo_43 (by have q0 := lv_neT hx0 (a := 0) (by decide); have q1 := lv_neT hx1 (a := 1) (by decide); have q2 := lv_neT hx2 (a := 2) (by decide); have q3 := lv_neT hx3 (a := 3) (by decide); have q4 := lv_neT hx4 (a := 4) (by decide); have q5 := lv_neT hx5 (a := 5) (by decide); omega) (by decide) ?_
    refine gz_aload_n C dX11_undo_222 1 rfl ?_
    refine gz_get C (t := 0) (k := 41) (ci := 11) (q := (RX11, TX11, 63)) (v := .ref (gz_ad true G 24 0)) dX11_undo_223 fl_RX11_98 (gz_hm0 _) rfl rfl (by decide) rfl ?_
    refine gz_iload_n C dX11_undo_226 0 rfl ?_
    refine gz_aload_n C dX11_undo_227 1 rfl ?_
    refine gz_get C (t := 0) (k := 7) (ci := 11) (q := (RX11, TX11, 63)) (v := .ref (gz_ad true G 3 0)) dX11_undo_228 fl_RX11_25 (gz_hm0 _) rfl rfl (by decide) rfl ?_
    refine gz_aload_n C dX11_undo_231 1 rfl ?_
    refine gz_get C (t := 0) (k := 9) (ci := 11) (q := (RX11, TX11, 63)) (v := .int (σ2.1 0 0 9)) dX11_undo_232 fl_RX11_164 (gz_hm0 _) rfl rfl (by decide) rfl ?_
    refine gz_lald C (t := 3) dX11_undo_235 (gz_hm3 _) rfl (fun n29 hn29 => ?_)
    refine gz_last C (t := 24) dX11_undo_236 (gz_hm24 _) rfl (fun n30 hn30 => ?_)
    refine gz_w_row (fun σ31 => ?_)
    refine gz_iconst C dX11_undo_237 gk_iconst_1 ?_
    exact gz_iret C rfl dX11_undo_238
  · skip
    refine gz_iconst C dX11_undo_12 gk_iconst_0 ?_
    exact gz_iret C rfl dX11_undo_13

def f_X11_isDay (a0 : Int32) (σ : gz_S) : Option (Int32 × gz_S) :=
  if a0 < 0 then
  (some ((0 : Int32) &&& 1, σ))
  else
  (if 10000 ≤ a0 then
  (some ((0 : Int32) &&& 1, σ))
  else
  (some ((1 : Int32) &&& 1, σ)))
set_option maxHeartbeats 4000000 in
set_option maxRecDepth 100000 in
theorem c_X11_isDay (l : Launch) (G : gz_G) (a0 : Int32) (σ : gz_S) : ∀ o, f_X11_isDay a0 σ = some o → gz_M l true G yX11_isDay cX11_isDay 1 (some .boolean) { frames := 0, cells := 0, slots := 0, locals := 0 } [.int a0] σ (gz_ei o) 0 0 := by
  refine gz_enter RX11 rfl (by decide) (Nat.le_of_ble_eq_true rfl) ?_
  intro p e s m args below meth c C
  refine gz_eqs (st' := []) (lv' := [(0, .int a0)]) rfl rfl ?_
  unfold f_X11_isDay
  refine gz_iload_n C dX11_isDay_0 0 rfl ?_
  refine gz_if_lt (tgt := 15) C dX11_isDay_1 (by decide) ?_ ?_
  · skip
    refine gz_iconst C dX11_isDay_15 gk_iconst_0 ?_
    exact gz_zret C rfl dX11_isDay_16
  · skip
    refine gz_iload_n C dX11_isDay_4 0 rfl ?_
    refine gz_sipush C dX11_isDay_5 gk_sipush_10000 ?_
    refine gz_icmp_ge (tgt := 15) C dX11_isDay_8 (by decide) ?_ ?_
    · skip
      refine gz_iconst C dX11_isDay_15 gk_iconst_0 ?_
      exact gz_zret C rfl dX11_isDay_16
    · skip
      refine gz_iconst C dX11_isDay_11 gk_iconst_1 ?_
      refine gz_goto (tgt := 16) C dX11_isDay_12 (by decide) ?_
      exact gz_zret C rfl dX11_isDay_16

def f_X11_isWorking (a1 : Int32) (σ : gz_S) : Option (Int32 × gz_S) :=
  if 5 ≤ (gz_rem a1 7) then
  (some ((0 : Int32) &&& 1, σ))
  else
  (gz_ix a1 10000 (fun n1 =>
  if (σ.1 5 0 n1) = 0 then
  (some ((1 : Int32) &&& 1, σ))
  else
  (some ((0 : Int32) &&& 1, σ))))
set_option maxHeartbeats 4000000 in
set_option maxRecDepth 100000 in
theorem c_X11_isWorking (l : Launch) (G : gz_G) (a1 : Int32) (σ : gz_S) : ∀ o, f_X11_isWorking a1 σ = some o → gz_M l true G yX11_isWorking cX11_isWorking 2 (some .boolean) { frames := 0, cells := 0, slots := 0, locals := 0 } [.ref (gz_ad true G 0 0), .int a1] σ (gz_ei o) 0 0 := by
  refine gz_enter RX11 rfl (by decide) (Nat.le_of_ble_eq_true rfl) ?_
  intro p e s m args below meth c C
  refine gz_eqs (st' := []) (lv' := [(0, .ref (gz_ad true G 0 0)), (1, .int a1)]) rfl rfl ?_
  unfold f_X11_isWorking
  refine gz_iload_n C dX11_isWorking_0 1 rfl ?_
  refine gz_bipush C dX11_isWorking_1 gk_bipush_7 ?_
  refine gz_irem C dX11_isWorking_3 (by decide) ?_
  refine gz_iconst C dX11_isWorking_4 gk_iconst_5 ?_
  refine gz_icmp_ge (tgt := 21) C dX11_isWorking_5 (by decide) ?_ ?_
  · skip
    refine gz_iconst C dX11_isWorking_21 gk_iconst_0 ?_
    exact gz_zret C rfl dX11_isWorking_22
  · skip
    refine gz_aload_n C dX11_isWorking_8 0 rfl ?_
    refine gz_get C (t := 0) (k := 10) (ci := 11) (q := (RX11, TX11, 63)) (v := .ref (gz_ad true G 5 0)) dX11_isWorking_9 fl_RX11_32 (gz_hm0 _) rfl rfl (by decide) rfl ?_
    refine gz_iload_n C dX11_isWorking_12 1 rfl ?_
    refine gz_zald C (t := 5) dX11_isWorking_13 (gz_hm5 _) rfl (fun n1 hn1 => ?_)
    refine gz_if_ne (tgt := 21) C dX11_isWorking_14 (by decide) ?_ ?_
    · skip
      refine gz_iconst C dX11_isWorking_21 gk_iconst_0 ?_
      exact gz_zret C rfl dX11_isWorking_22
    · skip
      refine gz_iconst C dX11_isWorking_17 gk_iconst_1 ?_
      refine gz_goto (tgt := 22) C dX11_isWorking_18 (by decide) ?_
      exact gz_zret C rfl dX11_isWorking_22

def f_X11_feast_J80 (a1 : Int32) (a2 : Int32) : Int32 → Int32 → Int64 → gz_S → Option (Int32 × gz_S) := fun x8 x9 x10 σ11 =>
  gz_then (f_X11_act x8 x9 x10 0 σ11) (fun σ12 =>
  gz_ix a1 10000 (fun n13 =>
  gz_w (gz_si σ12 5 0 n13 (a2 &&& 1)) (fun σ14 =>
  if a2 = 0 then
  (gz_w (gz_si σ14 0 0 11 ((σ14.1 0 0 11) + (-1))) (fun σ15 =>
  some ((1 : Int32) &&& 1, σ15)))
  else
  (gz_w (gz_si σ14 0 0 11 ((σ14.1 0 0 11) + 1)) (fun σ16 =>
  some ((1 : Int32) &&& 1, σ16))))))
def f_X11_feast_J46 (a1 : Int32) (a2 : Int32) : gz_S → Option (Int32 × gz_S) := fun σ4 =>
  gz_w (gz_si σ4 0 0 1 0) (fun σ5 =>
  gz_w (gz_si σ5 0 0 2 (-1)) (fun σ6 =>
  gz_ix a1 10000 (fun n7 =>
  if (σ6.1 5 0 n7) = a2 then
  (some ((1 : Int32) &&& 1, σ6))
  else
  (gz_j3 (f_X11_feast_J80 a1 a2) (fun j80 =>
  if a2 = 0 then
  (j80 0 a1 1 σ6)
  else
  (j80 0 a1 0 σ6))))))
def f_X11_feast (a1 : Int32) (a2 : Int32) (σ : gz_S) : Option (Int32 × gz_S) :=
  gz_w (gz_si σ 0 0 0 0) (fun σ1 =>
  gz_call (f_X11_isDay a1 σ1) (fun r3 σ2 =>
  if r3 = 0 then
  (gz_call (f_X11_denied 2 σ2) (fun r21 σ20 =>
  some (r21 &&& 1, σ20)))
  else
  (gz_j0 (f_X11_feast_J46 a1 a2) (fun j46 =>
  if a2 = 0 then
  (j46 σ2)
  else
  (gz_ix a1 10000 (fun n17 =>
  if (σ2.1 5 0 n17) = 0 then
  (if (σ2.1 0 0 11) = 60 then
  (gz_call (f_X11_denied 3 σ2) (fun r19 σ18 =>
  some (r19 &&& 1, σ18)))
  else
  (j46 σ2))
  else
  (j46 σ2)))))))
set_option maxHeartbeats 4000000 in
set_option maxRecDepth 100000 in
theorem c_X11_feast (l : Launch) (G : gz_G) (a1 : Int32) (a2 : Int32) (σ : gz_S) : ∀ o, f_X11_feast a1 a2 σ = some o → gz_M l true G yX11_feast cX11_feast 3 (some .boolean) { frames := 1, cells := 0, slots := 0, locals := 27 } [.ref (gz_ad true G 0 0), .int a1, .int a2] σ (gz_ei o) 0 0 := by
  refine gz_enter RX11 rfl (by decide) (Nat.le_of_ble_eq_true rfl) ?_
  intro p e s m args below meth c C
  refine gz_eqs (st' := []) (lv' := [(0, .ref (gz_ad true G 0 0)), (1, .int a1), (2, .int a2)]) rfl rfl ?_
  unfold f_X11_feast
  refine gz_aload_n C dX11_feast_0 0 rfl ?_
  refine gz_iconst C dX11_feast_1 gk_iconst_0 ?_
  refine gz_putI C (t := 0) (k := 0) (ci := 11) (q := (RX11, TX11, 63)) dX11_feast_2 fl_RX11_158 (gz_hm0 _) rfl rfl (by decide) rfl rfl rfl rfl ?_
  refine gz_w_row (fun σ1 => ?_)
  refine gz_iload_n C dX11_feast_5 1 rfl ?_
  refine gz_ki (gz_runS (As := [.int a1]) (rest := []) C dX11_feast_6 ml_RX11_176 mw_X11_isDay ms_X11_isDay (c_X11_isDay l G a1 σ1) rfl rfl (Nat.le_of_ble_eq_true rfl) ⟨rfl, rfl, Nat.le_of_ble_eq_true rfl, Nat.le_of_ble_eq_true rfl, Nat.le_of_ble_eq_true rfl, Nat.le_of_ble_eq_true rfl⟩) (fun r3 σ2 => ?_)
  refine gz_if_ne (tgt := 18) C dX11_feast_9 (by decide) ?_ ?_
  · skip
    refine gz_iload_n C dX11_feast_18 2 rfl ?_
    refine gz_j0_row (P := fun σ4 x => gz_W true p l e ({ frames := 1, cells := 0, slots := 0, locals := 27 } : Room) s m args below meth c G 3 (gz_Q true G below args s 0 0 gz_ei) 0 0 σ4 46 [(0, .ref (gz_ad true G 0 0)), (1, .int a1), (2, .int a2)] [] x) (fun σ4 => ?_) (fun j46 hj46 => ?_)
    · unfold f_X11_feast_J46
      refine gz_aload_n C dX11_feast_46 0 rfl ?_
      refine gz_iconst C dX11_feast_47 gk_iconst_0 ?_
      refine gz_putI C (t := 0) (k := 1) (ci := 11) (q := (RX11, TX11, 63)) dX11_feast_48 fl_RX11_161 (gz_hm0 _) rfl rfl (by decide) rfl rfl rfl rfl ?_
      refine gz_w_row (fun σ5 => ?_)
      refine gz_aload_n C dX11_feast_51 0 rfl ?_
      refine gz_iconst C dX11_feast_52 gk_iconst_m1 ?_
      refine gz_putI C (t := 0) (k := 2) (ci := 11) (q := (RX11, TX11, 63)) dX11_feast_53 fl_RX11_11 (gz_hm0 _) rfl rfl (by decide) rfl rfl rfl rfl ?_
      refine gz_w_row (fun σ6 => ?_)
      refine gz_aload_n C dX11_feast_56 0 rfl ?_
      refine gz_get C (t := 0) (k := 10) (ci := 11) (q := (RX11, TX11, 63)) (v := .ref (gz_ad true G 5 0)) dX11_feast_57 fl_RX11_32 (gz_hm0 _) rfl rfl (by decide) rfl ?_
      refine gz_iload_n C dX11_feast_60 1 rfl ?_
      refine gz_zald C (t := 5) dX11_feast_61 (gz_hm5 _) rfl (fun n7 hn7 => ?_)
      refine gz_iload_n C dX11_feast_62 2 rfl ?_
      refine gz_icmp_ne (tgt := 68) C dX11_feast_63 (by decide) ?_ ?_
      · skip
        refine gz_aload_n C dX11_feast_68 0 rfl ?_
        refine gz_iconst C dX11_feast_69 gk_iconst_0 ?_
        refine gz_iload_n C dX11_feast_70 1 rfl ?_
        refine gz_iload_n C dX11_feast_71 2 rfl ?_
        refine gz_j3_row (P := fun x8 x9 x10 σ11 x => gz_W true p l e ({ frames := 1, cells := 0, slots := 0, locals := 27 } : Room) s m args below meth c G 3 (gz_Q true G below args s 0 0 gz_ei) 0 0 σ11 80 [(0, .ref (gz_ad true G 0 0)), (1, .int a1), (2, .int a2)] [.long x10, .int x9, .int x8, .ref (gz_ad true G 0 0)] x) (fun x8 x9 x10 σ11 => ?_) (fun j80 hj80 => ?_)
        · unfold f_X11_feast_J80
          refine gz_lconst C dX11_feast_80 gk_lconst_0 ?_
          refine gz_kv (gz_runV (t := 0) (ci := 11) (q := (RX11, TX11, 63)) (As := [.int x8, .int x9, .long x10, .long 0]) (rest := []) C dX11_feast_81 ml_RX11_183 mw_X11_act mv_X11_act (c_X11_act l G x8 x9 x10 0 σ11) (gz_hm0 _) rfl rfl rfl rfl rfl (Nat.le_of_ble_eq_true rfl) ⟨rfl, rfl, Nat.le_of_ble_eq_true rfl, Nat.le_of_ble_eq_true rfl, Nat.le_of_ble_eq_true rfl, Nat.le_of_ble_eq_true rfl⟩) (fun σ12 => ?_)
          refine gz_aload_n C dX11_feast_84 0 rfl ?_
          refine gz_get C (t := 0) (k := 10) (ci := 11) (q := (RX11, TX11, 63)) (v := .ref (gz_ad true G 5 0)) dX11_feast_85 fl_RX11_32 (gz_hm0 _) rfl rfl (by decide) rfl ?_
          refine gz_iload_n C dX11_feast_88 1 rfl ?_
          refine gz_iload_n C dX11_feast_89 2 rfl ?_
          refine gz_zast C (t := 5) dX11_feast_90 (gz_hm5 _) rfl (fun n13 hn13 => ?_)
          refine gz_w_row (fun σ14 => ?_)
          refine gz_aload_n C dX11_feast_91 0 rfl ?_
          refine gz_dup C dX11_feast_92 rfl ?_
          refine gz_get C (t := 0) (k := 11) (ci := 11) (q := (RX11, TX11, 63)) (v := .int (σ14.1 0 0 11)) dX11_feast_93 fl_RX11_167 (gz_hm0 _) rfl rfl (by decide) rfl ?_
          refine gz_iload_n C dX11_feast_96 2 rfl ?_
          refine gz_if_eq (tgt := 104) C dX11_feast_97 (by decide) ?_ ?_
          · skip
            refine gz_iconst C dX11_feast_104 gk_iconst_m1 ?_
            refine gz_iadd C dX11_feast_105 ?_
            refine gz_putI C (t := 0) (k := 11) (ci := 11) (q := (RX11, TX11, 63)) dX11_feast_106 fl_RX11_167 (gz_hm0 _) rfl rfl (by decide) rfl rfl rfl rfl ?_
            refine gz_w_row (fun σ15 => ?_)
            refine gz_iconst C dX11_feast_109 gk_iconst_1 ?_
            exact gz_zret C rfl dX11_feast_110
          · skip
            refine gz_iconst C dX11_feast_100 gk_iconst_1 ?_
            refine gz_goto (tgt := 105) C dX11_feast_101 (by decide) ?_
            refine gz_iadd C dX11_feast_105 ?_
            refine gz_putI C (t := 0) (k := 11) (ci := 11) (q := (RX11, TX11, 63)) dX11_feast_106 fl_RX11_167 (gz_hm0 _) rfl rfl (by decide) rfl rfl rfl rfl ?_
            refine gz_w_row (fun σ16 => ?_)
            refine gz_iconst C dX11_feast_109 gk_iconst_1 ?_
            exact gz_zret C rfl dX11_feast_110
        · skip
          refine gz_if_eq (tgt := 79) C dX11_feast_72 (by decide) ?_ ?_
          · skip
            refine gz_lconst C dX11_feast_79 gk_lconst_1 ?_
            exact hj80 0 a1 1 σ6
          · skip
            refine gz_lconst C dX11_feast_75 gk_lconst_0 ?_
            refine gz_goto (tgt := 80) C dX11_feast_76 (by decide) ?_
            exact hj80 0 a1 0 σ6
      · skip
        refine gz_iconst C dX11_feast_66 gk_iconst_1 ?_
        exact gz_zret C rfl dX11_feast_67
    · skip
      refine gz_if_eq (tgt := 46) C dX11_feast_19 (by decide) ?_ ?_
      · skip
        exact hj46 σ2
      · skip
        refine gz_aload_n C dX11_feast_22 0 rfl ?_
        refine gz_get C (t := 0) (k := 10) (ci := 11) (q := (RX11, TX11, 63)) (v := .ref (gz_ad true G 5 0)) dX11_feast_23 fl_RX11_32 (gz_hm0 _) rfl rfl (by decide) rfl ?_
        refine gz_iload_n C dX11_feast_26 1 rfl ?_
        refine gz_zald C (t := 5) dX11_feast_27 (gz_hm5 _) rfl (fun n17 hn17 => ?_)
        refine gz_if_ne (tgt := 46) C dX11_feast_28 (by decide) ?_ ?_
        · skip
          exact hj46 σ2
        · skip
          refine gz_aload_n C dX11_feast_31 0 rfl ?_
          refine gz_get C (t := 0) (k := 11) (ci := 11) (q := (RX11, TX11, 63)) (v := .int (σ2.1 0 0 11)) dX11_feast_32 fl_RX11_167 (gz_hm0 _) rfl rfl (by decide) rfl ?_
          refine gz_bipush C dX11_feast_35 gk_bipush_60 ?_
          refine gz_icmp_ne (tgt := 46) C dX11_feast_37 (by decide) ?_ ?_
          · skip
            exact hj46 σ2
          · skip
            refine gz_aload_n C dX11_feast_40 0 rfl ?_
            refine gz_iconst C dX11_feast_41 gk_iconst_3 ?_
            refine gz_ki (gz_runV (t := 0) (ci := 11) (q := (RX11, TX11, 63)) (As := [.int 3]) (rest := []) C dX11_feast_42 ml_RX11_180 mw_X11_denied mv_X11_denied (c_X11_denied l G 3 σ2) (gz_hm0 _) rfl rfl rfl rfl rfl (Nat.le_of_ble_eq_true rfl) ⟨rfl, rfl, Nat.le_of_ble_eq_true rfl, Nat.le_of_ble_eq_true rfl, Nat.le_of_ble_eq_true rfl, Nat.le_of_ble_eq_true rfl⟩) (fun r19 σ18 => ?_)
            exact gz_zret C rfl dX11_feast_45
  · skip
    refine gz_aload_n C dX11_feast_12 0 rfl ?_
    refine gz_iconst C dX11_feast_13 gk_iconst_2 ?_
    refine gz_ki (gz_runV (t := 0) (ci := 11) (q := (RX11, TX11, 63)) (As := [.int 2]) (rest := []) C dX11_feast_14 ml_RX11_180 mw_X11_denied mv_X11_denied (c_X11_denied l G 2 σ2) (gz_hm0 _) rfl rfl rfl rfl rfl (Nat.le_of_ble_eq_true rfl) ⟨rfl, rfl, Nat.le_of_ble_eq_true rfl, Nat.le_of_ble_eq_true rfl, Nat.le_of_ble_eq_true rfl, Nat.le_of_ble_eq_true rfl⟩) (fun r21 σ20 => ?_)
    exact gz_zret C rfl dX11_feast_17

def f_X11_working (a1 : Int32) (σ : gz_S) : Option (Int32 × gz_S) :=
  gz_w (gz_si σ 0 0 0 0) (fun σ1 =>
  gz_call (f_X11_isDay a1 σ1) (fun r3 σ2 =>
  if r3 = 0 then
  (gz_call (f_X11_refused 2 σ2) (fun r5 σ4 =>
  some (r5, σ4)))
  else
  (gz_call (f_X11_isWorking a1 σ2) (fun r7 σ6 =>
  if r7 = 0 then
  (gz_call (f_X11_done 0 σ6) (fun r9 σ8 =>
  some (r9, σ8)))
  else
  (gz_call (f_X11_done 1 σ6) (fun r11 σ10 =>
  some (r11, σ10)))))))
set_option maxHeartbeats 4000000 in
set_option maxRecDepth 100000 in
theorem c_X11_working (l : Launch) (G : gz_G) (a1 : Int32) (σ : gz_S) : ∀ o, f_X11_working a1 σ = some o → gz_M l true G yX11_working cX11_working 2 (some .int) { frames := 1, cells := 0, slots := 0, locals := 21 } [.ref (gz_ad true G 0 0), .int a1] σ (gz_ei o) 0 0 := by
  refine gz_enter RX11 rfl (by decide) (Nat.le_of_ble_eq_true rfl) ?_
  intro p e s m args below meth c C
  refine gz_eqs (st' := []) (lv' := [(0, .ref (gz_ad true G 0 0)), (1, .int a1)]) rfl rfl ?_
  unfold f_X11_working
  refine gz_aload_n C dX11_working_0 0 rfl ?_
  refine gz_iconst C dX11_working_1 gk_iconst_0 ?_
  refine gz_putI C (t := 0) (k := 0) (ci := 11) (q := (RX11, TX11, 63)) dX11_working_2 fl_RX11_158 (gz_hm0 _) rfl rfl (by decide) rfl rfl rfl rfl ?_
  refine gz_w_row (fun σ1 => ?_)
  refine gz_iload_n C dX11_working_5 1 rfl ?_
  refine gz_ki (gz_runS (As := [.int a1]) (rest := []) C dX11_working_6 ml_RX11_176 mw_X11_isDay ms_X11_isDay (c_X11_isDay l G a1 σ1) rfl rfl (Nat.le_of_ble_eq_true rfl) ⟨rfl, rfl, Nat.le_of_ble_eq_true rfl, Nat.le_of_ble_eq_true rfl, Nat.le_of_ble_eq_true rfl, Nat.le_of_ble_eq_true rfl⟩) (fun r3 σ2 => ?_)
  refine gz_if_eq (tgt := 32) C dX11_working_9 (by decide) ?_ ?_
  · skip
    refine gz_aload_n C dX11_working_32 0 rfl ?_
    refine gz_iconst C dX11_working_33 gk_iconst_2 ?_
    refine gz_ki (gz_runV (t := 0) (ci := 11) (q := (RX11, TX11, 63)) (As := [.int 2]) (rest := []) C dX11_working_34 ml_RX11_194 mw_X11_refused mv_X11_refused (c_X11_refused l G 2 σ2) (gz_hm0 _) rfl rfl rfl rfl rfl (Nat.le_of_ble_eq_true rfl) ⟨rfl, rfl, Nat.le_of_ble_eq_true rfl, Nat.le_of_ble_eq_true rfl, Nat.le_of_ble_eq_true rfl, Nat.le_of_ble_eq_true rfl⟩) (fun r5 σ4 => ?_)
    exact gz_iret C rfl dX11_working_37
  · skip
    refine gz_aload_n C dX11_working_12 0 rfl ?_
    refine gz_aload_n C dX11_working_13 0 rfl ?_
    refine gz_iload_n C dX11_working_14 1 rfl ?_
    refine gz_ki (gz_runV (t := 0) (ci := 11) (q := (RX11, TX11, 63)) (As := [.int a1]) (rest := [.ref (gz_ad true G 0 0)]) C dX11_working_15 ml_RX11_187 mw_X11_isWorking mv_X11_isWorking (c_X11_isWorking l G a1 σ2) (gz_hm0 _) rfl rfl rfl rfl rfl (Nat.le_of_ble_eq_true rfl) ⟨rfl, rfl, Nat.le_of_ble_eq_true rfl, Nat.le_of_ble_eq_true rfl, Nat.le_of_ble_eq_true rfl, Nat.le_of_ble_eq_true rfl⟩) (fun r7 σ6 => ?_)
    refine gz_if_eq (tgt := 25) C dX11_working_18 (by decide) ?_ ?_
    · skip
      refine gz_iconst C dX11_working_25 gk_iconst_0 ?_
      refine gz_ki (gz_runV (t := 0) (ci := 11) (q := (RX11, TX11, 63)) (As := [.int 0]) (rest := []) C dX11_working_26 ml_RX11_190 mw_X11_done mv_X11_done (c_X11_done l G 0 σ6) (gz_hm0 _) rfl rfl rfl rfl rfl (Nat.le_of_ble_eq_true rfl) ⟨rfl, rfl, Nat.le_of_ble_eq_true rfl, Nat.le_of_ble_eq_true rfl, Nat.le_of_ble_eq_true rfl, Nat.le_of_ble_eq_true rfl⟩) (fun r9 σ8 => ?_)
      refine gz_goto (tgt := 37) C dX11_working_29 (by decide) ?_
      exact gz_iret C rfl dX11_working_37
    · skip
      refine gz_iconst C dX11_working_21 gk_iconst_1 ?_
      refine gz_goto (tgt := 26) C dX11_working_22 (by decide) ?_
      refine gz_ki (gz_runV (t := 0) (ci := 11) (q := (RX11, TX11, 63)) (As := [.int 1]) (rest := []) C dX11_working_26 ml_RX11_190 mw_X11_done mv_X11_done (c_X11_done l G 1 σ6) (gz_hm0 _) rfl rfl rfl rfl rfl (Nat.le_of_ble_eq_true rfl) ⟨rfl, rfl, Nat.le_of_ble_eq_true rfl, Nat.le_of_ble_eq_true rfl, Nat.le_of_ble_eq_true rfl, Nat.le_of_ble_eq_true rfl⟩) (fun r11 σ10 => ?_)
      refine gz_goto (tgt := 37) C dX11_working_29 (by decide) ?_
      exact gz_iret C rfl dX11_working_37

def f_X11_spanOf_J98 (v2 : Int32) (rec59 : Int32 → Int32 → gz_S → Option (Int32 × gz_S)) : Int32 → gz_S → Option (Int32 × gz_S) := fun v8 σ9 =>
  rec59 v8 (v2 + (-1)) σ9
def f_X11_spanOf_L75 (j98 : Int32 → gz_S → Option (Int32 × gz_S)) : (Int32 → gz_S → Option (Int32 × gz_S)) → Int32 → gz_S → Option (Int32 × gz_S) := fun rec75 v10 σ11 =>
  if 10000 ≤ v10 then
  (j98 v10 σ11)
  else
  (gz_call (f_X11_isWorking v10 σ11) (fun r13 σ12 =>
  if r13 = 0 then
  (rec75 (v10 + 1) σ12)
  else
  (j98 v10 σ12)))
def f_X11_spanOf_L59 : (Int32 → Int32 → gz_S → Option (Int32 × gz_S)) → Int32 → Int32 → gz_S → Option (Int32 × gz_S) := fun rec59 v1 v2 σ3 =>
  if v2 ≤ 0 then
  (gz_call (f_J9_min_7cf53 v1 10000 σ3) (fun r5 σ4 =>
  some (r5, σ4)))
  else
  (if 10000 ≤ v1 then
  (gz_call (f_J9_min_7cf53 v1 10000 σ3) (fun r7 σ6 =>
  some (r7, σ6)))
  else
  (gz_j1 (f_X11_spanOf_J98 v2 rec59) (fun j98 =>
  gz_l1 (f_X11_spanOf_L75 j98) gz_fu (v1 + 1) σ3)))
def f_X11_spanOf_L24 : (Int32 → gz_S → Option (Int32 × gz_S)) → Int32 → gz_S → Option (Int32 × gz_S) := fun rec24 v15 σ16 =>
  if 10000 ≤ v15 then
  (gz_call (f_J9_min_7cf53 v15 10000 σ16) (fun r18 σ17 =>
  some (r18, σ17)))
  else
  (gz_call (f_X11_isWorking v15 σ16) (fun r20 σ19 =>
  if r20 = 0 then
  (rec24 (v15 + 1) σ19)
  else
  (gz_call (f_J9_min_7cf53 v15 10000 σ19) (fun r22 σ21 =>
  some (r22, σ21)))))
def f_X11_spanOf (a1 : Int32) (a2 : Int32) (a3 : Int32) (σ : gz_S) : Option (Int32 × gz_S) :=
  if a1 < 10000 then
  (if a3 = 0 then
  (gz_v (a1 + a2) (fun v14 =>
  gz_l1 (f_X11_spanOf_L24) gz_fu v14 σ))
  else
  (gz_l2 (f_X11_spanOf_L59) gz_fu a1 a2 σ))
  else
  (some (10000, σ))
set_option maxHeartbeats 4000000 in
set_option maxRecDepth 100000 in
theorem c_X11_spanOf (l : Launch) (G : gz_G) (a1 : Int32) (a2 : Int32) (a3 : Int32) (σ : gz_S) : ∀ o, f_X11_spanOf a1 a2 a3 σ = some o → gz_M l true G yX11_spanOf cX11_spanOf 6 (some .int) { frames := 1, cells := 0, slots := 0, locals := 21 } [.ref (gz_ad true G 0 0), .int a1, .int a2, .int a3] σ (gz_ei o) 0 0 := by
  refine gz_enter RX11 rfl (by decide) (Nat.le_of_ble_eq_true rfl) ?_
  intro p e s m args below meth c C
  refine gz_eqs (st' := []) (lv' := [(0, .ref (gz_ad true G 0 0)), (1, .int a1), (2, .int a2), (3, .int a3)]) rfl rfl ?_
  unfold f_X11_spanOf
  refine gz_iload_n C dX11_spanOf_0 1 rfl ?_
  refine gz_sipush C dX11_spanOf_1 gk_sipush_10000 ?_
  refine gz_icmp_lt (tgt := 11) C dX11_spanOf_4 (by decide) ?_ ?_
  · skip
    refine gz_iload_n C dX11_spanOf_11 1 rfl ?_
    refine gz_istore C (lv' := [(4, .int a1), (0, .ref (gz_ad true G 0 0)), (1, .int a1), (2, .int a2), (3, .int a3)]) dX11_spanOf_12 (by decide) rfl ?_
    refine gz_iload_n C dX11_spanOf_14 4 rfl ?_
    refine gz_if_ne (tgt := 56) C dX11_spanOf_15 (by decide) ?_ ?_
    · skip
      refine gz_iload_n C dX11_spanOf_56 3 rfl ?_
      refine gz_istore C (lv' := [(5, .int a2), (4, .int a1), (0, .ref (gz_ad true G 0 0)), (1, .int a1), (2, .int a2), (3, .int a3)]) dX11_spanOf_57 (by decide) rfl ?_
      refine gz_lv (lv' := [(0, .ref (gz_ad true G 0 0)), (4, .int a1), (5, .int a2)]) [2, 1, 0] rfl ?_
      refine gz_l2_ind (P := fun v1 v2 σ3 x => gz_W true p l e ({ frames := 1, cells := 0, slots := 0, locals := 21 } : Room) s m args below meth c G 6 (gz_Q true G below args s 0 0 gz_ei) 0 0 σ3 59 [(0, .ref (gz_ad true G 0 0)), (4, .int v1), (5, .int v2)] [] x) (fun _ _ _ => gz_none) (fun rec59 hrec59 v1 v2 σ3 => ?_) gz_fu a1 a2 σ
      unfold f_X11_spanOf_L59
      refine gz_iload C dX11_spanOf_59 2 rfl ?_
      refine gz_if_le (tgt := 104) C dX11_spanOf_61 (by decide) ?_ ?_
      · skip
        refine gz_iload C dX11_spanOf_104 1 rfl ?_
        refine gz_sipush C dX11_spanOf_106 gk_sipush_10000 ?_
        refine gz_ki (gz_runS (As := [.int v1, .int 10000]) (rest := []) C dX11_spanOf_109 ml_RX11_197 mw_J9_min_7cf53 ms_J9_min_7cf53 (c_J9_min_7cf53 l G true v1 10000 σ3) rfl rfl (Nat.le_of_ble_eq_true rfl) ⟨rfl, rfl, Nat.le_of_ble_eq_true rfl, Nat.le_of_ble_eq_true rfl, Nat.le_of_ble_eq_true rfl, Nat.le_of_ble_eq_true rfl⟩) (fun r5 σ4 => ?_)
        exact gz_iret C rfl dX11_spanOf_112
      · skip
        refine gz_iload C dX11_spanOf_64 1 rfl ?_
        refine gz_sipush C dX11_spanOf_66 gk_sipush_10000 ?_
        refine gz_icmp_ge (tgt := 104) C dX11_spanOf_69 (by decide) ?_ ?_
        · skip
          refine gz_iload C dX11_spanOf_104 1 rfl ?_
          refine gz_sipush C dX11_spanOf_106 gk_sipush_10000 ?_
          refine gz_ki (gz_runS (As := [.int v1, .int 10000]) (rest := []) C dX11_spanOf_109 ml_RX11_197 mw_J9_min_7cf53 ms_J9_min_7cf53 (c_J9_min_7cf53 l G true v1 10000 σ3) rfl rfl (Nat.le_of_ble_eq_true rfl) ⟨rfl, rfl, Nat.le_of_ble_eq_true rfl, Nat.le_of_ble_eq_true rfl, Nat.le_of_ble_eq_true rfl, Nat.le_of_ble_eq_true rfl⟩) (fun r7 σ6 => ?_)
          exact gz_iret C rfl dX11_spanOf_112
        · skip
          refine gz_iinc C (q := 1) (v := v1 + 1) (lv' := [(4, .int (v1 + 1)), (0, .ref (gz_ad true G 0 0)), (5, .int v2)]) dX11_spanOf_72 rfl rfl (by decide) rfl ?_
          refine gz_j1_row (P := fun v8 σ9 x => gz_W true p l e ({ frames := 1, cells := 0, slots := 0, locals := 21 } : Room) s m args below meth c G 6 (gz_Q true G below args s 0 0 gz_ei) 0 0 σ9 98 [(0, .ref (gz_ad true G 0 0)), (4, .int v8), (5, .int v2)] [] x) (fun v8 σ9 => ?_) (fun j98 hj98 => ?_)
          · unfold f_X11_spanOf_J98
            refine gz_iinc C (q := 2) (v := v2 + (-1)) (lv' := [(5, .int (v2 + (-1))), (0, .ref (gz_ad true G 0 0)), (4, .int v8)]) dX11_spanOf_98 rfl rfl (by decide) rfl ?_
            refine gz_goto (tgt := 59) C dX11_spanOf_101 (by decide) ?_
            refine gz_lv (lv' := [(0, .ref (gz_ad true G 0 0)), (4, .int v8), (5, .int (v2 + (-1)))]) [1, 2, 0] rfl ?_
            exact hrec59 v8 (v2 + (-1)) σ9
          · skip
            refine gz_lv (lv' := [(0, .ref (gz_ad true G 0 0)), (4, .int (v1 + 1)), (5, .int v2)]) [1, 0, 2] rfl ?_
            refine gz_l1_ind (P := fun v10 σ11 x => gz_W true p l e ({ frames := 1, cells := 0, slots := 0, locals := 21 } : Room) s m args below meth c G 6 (gz_Q true G below args s 0 0 gz_ei) 0 0 σ11 75 [(0, .ref (gz_ad true G 0 0)), (4, .int v10), (5, .int v2)] [] x) (fun _ _ => gz_none) (fun rec75 hrec75 v10 σ11 => ?_) gz_fu (v1 + 1) σ3
            unfold f_X11_spanOf_L75
            refine gz_iload C dX11_spanOf_75 1 rfl ?_
            refine gz_sipush C dX11_spanOf_77 gk_sipush_10000 ?_
            refine gz_icmp_ge (tgt := 98) C dX11_spanOf_80 (by decide) ?_ ?_
            · skip
              exact hj98 v10 σ11
            · skip
              refine gz_aload_n C dX11_spanOf_83 0 rfl ?_
              refine gz_iload C dX11_spanOf_84 1 rfl ?_
              refine gz_ki (gz_runV (t := 0) (ci := 11) (q := (RX11, TX11, 63)) (As := [.int v10]) (rest := []) C dX11_spanOf_86 ml_RX11_187 mw_X11_isWorking mv_X11_isWorking (c_X11_isWorking l G v10 σ11) (gz_hm0 _) rfl rfl rfl rfl rfl (Nat.le_of_ble_eq_true rfl) ⟨rfl, rfl, Nat.le_of_ble_eq_true rfl, Nat.le_of_ble_eq_true rfl, Nat.le_of_ble_eq_true rfl, Nat.le_of_ble_eq_true rfl⟩) (fun r13 σ12 => ?_)
              refine gz_if_ne (tgt := 98) C dX11_spanOf_89 (by decide) ?_ ?_
              · skip
                exact hj98 v10 σ12
              · skip
                refine gz_iinc C (q := 1) (v := v10 + 1) (lv' := [(4, .int (v10 + 1)), (0, .ref (gz_ad true G 0 0)), (5, .int v2)]) dX11_spanOf_92 rfl rfl (by decide) rfl ?_
                refine gz_goto (tgt := 75) C dX11_spanOf_95 (by decide) ?_
                refine gz_lv (lv' := [(0, .ref (gz_ad true G 0 0)), (4, .int (v10 + 1)), (5, .int v2)]) [1, 0, 2] rfl ?_
                exact hrec75 (v10 + 1) σ12
    · skip
      refine gz_iload C dX11_spanOf_18 0 rfl ?_
      refine gz_iload_n C dX11_spanOf_20 3 rfl ?_
      refine gz_iadd C dX11_spanOf_21 ?_
      refine gz_topI (fun v14 => ?_)
      refine gz_istore C (lv' := [(4, .int v14), (0, .ref (gz_ad true G 0 0)), (1, .int a1), (2, .int a2), (3, .int a3)]) dX11_spanOf_22 (by decide) rfl ?_
      refine gz_lv (lv' := [(0, .ref (gz_ad true G 0 0)), (4, .int v14)]) [1, 0] rfl ?_
      refine gz_l1_ind (P := fun v15 σ16 x => gz_W true p l e ({ frames := 1, cells := 0, slots := 0, locals := 21 } : Room) s m args below meth c G 6 (gz_Q true G below args s 0 0 gz_ei) 0 0 σ16 24 [(0, .ref (gz_ad true G 0 0)), (4, .int v15)] [] x) (fun _ _ => gz_none) (fun rec24 hrec24 v15 σ16 => ?_) gz_fu v14 σ
      unfold f_X11_spanOf_L24
      refine gz_iload C dX11_spanOf_24 1 rfl ?_
      refine gz_sipush C dX11_spanOf_26 gk_sipush_10000 ?_
      refine gz_icmp_ge (tgt := 47) C dX11_spanOf_29 (by decide) ?_ ?_
      · skip
        refine gz_iload C dX11_spanOf_47 1 rfl ?_
        refine gz_sipush C dX11_spanOf_49 gk_sipush_10000 ?_
        refine gz_ki (gz_runS (As := [.int v15, .int 10000]) (rest := []) C dX11_spanOf_52 ml_RX11_197 mw_J9_min_7cf53 ms_J9_min_7cf53 (c_J9_min_7cf53 l G true v15 10000 σ16) rfl rfl (Nat.le_of_ble_eq_true rfl) ⟨rfl, rfl, Nat.le_of_ble_eq_true rfl, Nat.le_of_ble_eq_true rfl, Nat.le_of_ble_eq_true rfl, Nat.le_of_ble_eq_true rfl⟩) (fun r18 σ17 => ?_)
        exact gz_iret C rfl dX11_spanOf_55
      · skip
        refine gz_aload_n C dX11_spanOf_32 0 rfl ?_
        refine gz_iload C dX11_spanOf_33 1 rfl ?_
        refine gz_ki (gz_runV (t := 0) (ci := 11) (q := (RX11, TX11, 63)) (As := [.int v15]) (rest := []) C dX11_spanOf_35 ml_RX11_187 mw_X11_isWorking mv_X11_isWorking (c_X11_isWorking l G v15 σ16) (gz_hm0 _) rfl rfl rfl rfl rfl (Nat.le_of_ble_eq_true rfl) ⟨rfl, rfl, Nat.le_of_ble_eq_true rfl, Nat.le_of_ble_eq_true rfl, Nat.le_of_ble_eq_true rfl, Nat.le_of_ble_eq_true rfl⟩) (fun r20 σ19 => ?_)
        refine gz_if_ne (tgt := 47) C dX11_spanOf_38 (by decide) ?_ ?_
        · skip
          refine gz_iload C dX11_spanOf_47 1 rfl ?_
          refine gz_sipush C dX11_spanOf_49 gk_sipush_10000 ?_
          refine gz_ki (gz_runS (As := [.int v15, .int 10000]) (rest := []) C dX11_spanOf_52 ml_RX11_197 mw_J9_min_7cf53 ms_J9_min_7cf53 (c_J9_min_7cf53 l G true v15 10000 σ19) rfl rfl (Nat.le_of_ble_eq_true rfl) ⟨rfl, rfl, Nat.le_of_ble_eq_true rfl, Nat.le_of_ble_eq_true rfl, Nat.le_of_ble_eq_true rfl, Nat.le_of_ble_eq_true rfl⟩) (fun r22 σ21 => ?_)
          exact gz_iret C rfl dX11_spanOf_55
        · skip
          refine gz_iinc C (q := 1) (v := v15 + 1) (lv' := [(4, .int (v15 + 1)), (0, .ref (gz_ad true G 0 0))]) dX11_spanOf_41 rfl rfl (by decide) rfl ?_
          refine gz_goto (tgt := 24) C dX11_spanOf_44 (by decide) ?_
          refine gz_lv (lv' := [(0, .ref (gz_ad true G 0 0)), (4, .int (v15 + 1))]) [1, 0] rfl ?_
          exact hrec24 (v15 + 1) σ19
  · skip
    refine gz_sipush C dX11_spanOf_7 gk_sipush_10000 ?_
    exact gz_iret C rfl dX11_spanOf_10
