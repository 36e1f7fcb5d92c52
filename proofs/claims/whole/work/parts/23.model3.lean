def f_X11_fieldOf_J37 (a1 : Int32) : Int32 → gz_S → Option (Int32 × gz_S) := fun v1 σ2 =>
  gz_ix a1 13 (fun n3 =>
  if (σ2.1 8 0 n3) ≤ v1 then
  (some ((-1), σ2))
  else
  (some (v1, σ2)))
def f_X11_fieldOf_L3 (a1 : Int32) (a2 : Int64) (j37 : Int32 → gz_S → Option (Int32 × gz_S)) : (Int32 → gz_S → Option (Int32 × gz_S)) → Int32 → gz_S → Option (Int32 × gz_S) := fun rec3 v4 σ5 =>
  gz_ix a1 13 (fun n6 =>
  if (σ5.1 8 0 n6) ≤ v4 then
  (j37 v4 σ5)
  else
  (gz_ix ((8 * a1) + v4) 104 (fun n7 =>
  if (lg_cmp (σ5.2.1 13 0 n7) a2) = 0 then
  (j37 v4 σ5)
  else
  (rec3 (v4 + 1) σ5))))
def f_X11_fieldOf (a1 : Int32) (a2 : Int64) (σ : gz_S) : Option (Int32 × gz_S) :=
  gz_j1 (f_X11_fieldOf_J37 a1) (fun j37 =>
  gz_l1 (f_X11_fieldOf_L3 a1 a2 j37) gz_fu 0 σ)
set_option maxHeartbeats 4000000 in
set_option maxRecDepth 100000 in
theorem c_X11_fieldOf (l : Launch) (G : gz_G) (a1 : Int32) (a2 : Int64) (σ : gz_S) : ∀ o, f_X11_fieldOf a1 a2 σ = some o → gz_M l true G yX11_fieldOf cX11_fieldOf 5 (some .int) { frames := 0, cells := 0, slots := 0, locals := 0 } [.ref (gz_ad true G 0 0), .int a1, .long a2] σ (gz_ei o) 0 0 := by
  refine gz_enter RX11 rfl (by decide) (Nat.le_of_ble_eq_true rfl) ?_
  intro p e s m args below meth c C
  refine gz_eqs (st' := []) (lv' := [(0, .ref (gz_ad true G 0 0)), (1, .int a1), (2, .long a2)]) rfl rfl ?_
  unfold f_X11_fieldOf
  refine gz_iconst C dX11_fieldOf_0 gk_iconst_0 ?_
  refine gz_istore C (lv' := [(4, .int 0), (0, .ref (gz_ad true G 0 0)), (1, .int a1), (2, .long a2)]) dX11_fieldOf_1 (by decide) rfl ?_
  refine gz_j1_row (P := fun v1 σ2 x => gz_W true p l e ({ frames := 0, cells := 0, slots := 0, locals := 0 } : Room) s m args below meth c G 5 (gz_Q true G below args s 0 0 gz_ei) 0 0 σ2 37 [(0, .ref (gz_ad true G 0 0)), (1, .int a1), (4, .int v1)] [] x) (fun v1 σ2 => ?_) (fun j37 hj37 => ?_)
  · unfold f_X11_fieldOf_J37
    refine gz_iload C dX11_fieldOf_37 2 rfl ?_
    refine gz_aload_n C dX11_fieldOf_39 0 rfl ?_
    refine gz_get C (t := 0) (k := 22) (ci := 11) (q := (RX11, TX11, 63)) (v := .ref (gz_ad true G 8 0)) dX11_fieldOf_40 fl_RX11_47 (gz_hm0 _) rfl rfl (by decide) rfl ?_
    refine gz_iload_n C dX11_fieldOf_43 1 rfl ?_
    refine gz_iald C (t := 8) dX11_fieldOf_44 (gz_hm8 _) rfl (fun n3 hn3 => ?_)
    refine gz_icmp_ge (tgt := 53) C dX11_fieldOf_45 (by decide) ?_ ?_
    · skip
      refine gz_iconst C dX11_fieldOf_53 gk_iconst_m1 ?_
      exact gz_iret C rfl dX11_fieldOf_54
    · skip
      refine gz_iload C dX11_fieldOf_48 2 rfl ?_
      refine gz_goto (tgt := 54) C dX11_fieldOf_50 (by decide) ?_
      exact gz_iret C rfl dX11_fieldOf_54
  · skip
    refine gz_lv (lv' := [(0, .ref (gz_ad true G 0 0)), (1, .int a1), (2, .long a2), (4, .int 0)]) [1, 2, 3, 0] rfl ?_
    refine gz_l1_ind (P := fun v4 σ5 x => gz_W true p l e ({ frames := 0, cells := 0, slots := 0, locals := 0 } : Room) s m args below meth c G 5 (gz_Q true G below args s 0 0 gz_ei) 0 0 σ5 3 [(0, .ref (gz_ad true G 0 0)), (1, .int a1), (2, .long a2), (4, .int v4)] [] x) (fun _ _ => gz_none) (fun rec3 hrec3 v4 σ5 => ?_) gz_fu 0 σ
    unfold f_X11_fieldOf_L3
    refine gz_iload C dX11_fieldOf_3 3 rfl ?_
    refine gz_aload_n C dX11_fieldOf_5 0 rfl ?_
    refine gz_get C (t := 0) (k := 22) (ci := 11) (q := (RX11, TX11, 63)) (v := .ref (gz_ad true G 8 0)) dX11_fieldOf_6 fl_RX11_47 (gz_hm0 _) rfl rfl (by decide) rfl ?_
    refine gz_iload_n C dX11_fieldOf_9 1 rfl ?_
    refine gz_iald C (t := 8) dX11_fieldOf_10 (gz_hm8 _) rfl (fun n6 hn6 => ?_)
    refine gz_icmp_ge (tgt := 37) C dX11_fieldOf_11 (by decide) ?_ ?_
    · skip
      refine gz_lv (lv' := [(0, .ref (gz_ad true G 0 0)), (1, .int a1), (4, .int v4)]) [0, 1, 3] rfl ?_
      exact hj37 v4 σ5
    · skip
      refine gz_aload_n C dX11_fieldOf_14 0 rfl ?_
      refine gz_get C (t := 0) (k := 27) (ci := 11) (q := (RX11, TX11, 63)) (v := .ref (gz_ad true G 13 0)) dX11_fieldOf_15 fl_RX11_62 (gz_hm0 _) rfl rfl (by decide) rfl ?_
      refine gz_bipush C dX11_fieldOf_18 gk_bipush_8 ?_
      refine gz_iload_n C dX11_fieldOf_20 1 rfl ?_
      refine gz_imul C dX11_fieldOf_21 ?_
      refine gz_iload C dX11_fieldOf_22 3 rfl ?_
      refine gz_iadd C dX11_fieldOf_24 ?_
      refine gz_lald C (t := 13) dX11_fieldOf_25 (gz_hm13 _) rfl (fun n7 hn7 => ?_)
      refine gz_lload_n C dX11_fieldOf_26 2 rfl ?_
      refine gz_lcmp C dX11_fieldOf_27 ?_
      refine gz_if_eq (tgt := 37) C dX11_fieldOf_28 (by decide) ?_ ?_
      · skip
        refine gz_lv (lv' := [(0, .ref (gz_ad true G 0 0)), (1, .int a1), (4, .int v4)]) [0, 1, 3] rfl ?_
        exact hj37 v4 σ5
      · skip
        refine gz_iinc C (q := 3) (v := v4 + 1) (lv' := [(4, .int (v4 + 1)), (0, .ref (gz_ad true G 0 0)), (1, .int a1), (2, .long a2)]) dX11_fieldOf_31 rfl rfl (by decide) rfl ?_
        refine gz_goto (tgt := 3) C dX11_fieldOf_34 (by decide) ?_
        refine gz_lv (lv' := [(0, .ref (gz_ad true G 0 0)), (1, .int a1), (2, .long a2), (4, .int (v4 + 1))]) [1, 2, 3, 0] rfl ?_
        exact hrec3 (v4 + 1) σ5

def f_X11_start (a1 : Int32) (σ : gz_S) : Option (gz_S) :=
  gz_w (gz_si σ 0 0 15 a1) (fun σ1 =>
  gz_w (gz_si σ1 0 0 14 0) (fun σ2 =>
  gz_w (gz_si σ2 0 0 16 0) (fun σ3 =>
  gz_w (gz_si σ3 0 0 3 0) (fun σ4 =>
  gz_w (gz_si σ4 0 0 4 (-1)) (fun σ5 =>
  gz_then (f_X11_next σ5) (fun σ6 =>
  some σ6))))))
set_option maxHeartbeats 4000000 in
set_option maxRecDepth 100000 in
theorem c_X11_start (l : Launch) (G : gz_G) (a1 : Int32) (σ : gz_S) : ∀ o, f_X11_start a1 σ = some o → gz_M l true G yX11_start cX11_start 2 none { frames := 2, cells := 0, slots := 0, locals := 43 } [.ref (gz_ad true G 0 0), .int a1] σ (gz_eu o) 0 0 := by
  refine gz_enter RX11 rfl (by decide) (Nat.le_of_ble_eq_true rfl) ?_
  intro p e s m args below meth c C
  refine gz_eqs (st' := []) (lv' := [(0, .ref (gz_ad true G 0 0)), (1, .int a1)]) rfl rfl ?_
  unfold f_X11_start
  refine gz_aload_n C dX11_start_0 0 rfl ?_
  refine gz_iload_n C dX11_start_1 1 rfl ?_
  refine gz_putI C (t := 0) (k := 15) (ci := 11) (q := (RX11, TX11, 63)) dX11_start_2 fl_RX11_216 (gz_hm0 _) rfl rfl (by decide) rfl rfl rfl rfl ?_
  refine gz_w_row (fun σ1 => ?_)
  refine gz_aload_n C dX11_start_5 0 rfl ?_
  refine gz_iconst C dX11_start_6 gk_iconst_0 ?_
  refine gz_putI C (t := 0) (k := 14) (ci := 11) (q := (RX11, TX11, 63)) dX11_start_7 fl_RX11_264 (gz_hm0 _) rfl rfl (by decide) rfl rfl rfl rfl ?_
  refine gz_w_row (fun σ2 => ?_)
  refine gz_aload_n C dX11_start_10 0 rfl ?_
  refine gz_iconst C dX11_start_11 gk_iconst_0 ?_
  refine gz_putI C (t := 0) (k := 16) (ci := 11) (q := (RX11, TX11, 63)) dX11_start_12 fl_RX11_219 (gz_hm0 _) rfl rfl (by decide) rfl rfl rfl rfl ?_
  refine gz_w_row (fun σ3 => ?_)
  refine gz_aload_n C dX11_start_15 0 rfl ?_
  refine gz_iconst C dX11_start_16 gk_iconst_0 ?_
  refine gz_putI C (t := 0) (k := 3) (ci := 11) (q := (RX11, TX11, 63)) dX11_start_17 fl_RX11_267 (gz_hm0 _) rfl rfl (by decide) rfl rfl rfl rfl ?_
  refine gz_w_row (fun σ4 => ?_)
  refine gz_aload_n C dX11_start_20 0 rfl ?_
  refine gz_iconst C dX11_start_21 gk_iconst_m1 ?_
  refine gz_putI C (t := 0) (k := 4) (ci := 11) (q := (RX11, TX11, 63)) dX11_start_22 fl_RX11_15 (gz_hm0 _) rfl rfl (by decide) rfl rfl rfl rfl ?_
  refine gz_w_row (fun σ5 => ?_)
  refine gz_aload_n C dX11_start_25 0 rfl ?_
  refine gz_kv (gz_runV (t := 0) (ci := 11) (q := (RX11, TX11, 63)) (As := []) (rest := []) C dX11_start_26 ml_RX11_252 mw_X11_next mv_X11_next (c_X11_next l G σ5) (gz_hm0 _) rfl rfl rfl rfl rfl (Nat.le_of_ble_eq_true rfl) ⟨rfl, rfl, Nat.le_of_ble_eq_true rfl, Nat.le_of_ble_eq_true rfl, Nat.le_of_ble_eq_true rfl, Nat.le_of_ble_eq_true rfl⟩) (fun σ6 => ?_)
  exact gz_vret C rfl dX11_start_29

def f_X11_readChoices_J67 : gz_S → Option (Option Unit × gz_S) := fun σ1 =>
  gz_call (f_X11_stop 5 (σ1.1 0 0 18) σ1) (fun r3 σ2 =>
  gz_nl r3 1 none (fun i4 =>
  some (none, σ2)))
def f_X11_readChoices_J41 : gz_S → Option (Option Unit × gz_S) := fun σ5 =>
  gz_call (f_X11_stop 3 (σ5.1 0 0 18) σ5) (fun r7 σ6 =>
  gz_nl r7 1 none (fun i8 =>
  some (none, σ6)))
def f_X11_readChoices_J57 (a1 : Int32) (j67 : gz_S → Option (Option Unit × gz_S)) (rec2 : Int32 → gz_S → Option (Option Unit × gz_S)) : gz_S → Option (Option Unit × gz_S) := fun σ13 =>
  gz_ix a1 104 (fun n14 =>
  if (σ13.1 10 0 n14) = 4 then
  (j67 σ13)
  else
  (gz_ix a1 104 (fun n15 =>
  gz_ix ((4 * a1) + (σ13.1 10 0 n15)) 416 (fun n16 =>
  gz_w (gz_sj σ13 14 0 n16 (σ13.2.1 0 0 20)) (fun σ17 =>
  gz_ix a1 104 (fun n18 =>
  gz_ix a1 104 (fun n19 =>
  gz_w (gz_si σ17 10 0 n19 ((σ17.1 10 0 n18) + 1)) (fun σ20 =>
  gz_then (f_X11_next σ20) (fun σ21 =>
  gz_call (f_X11_is 47 σ21) (fun r23 σ22 =>
  if r23 = 0 then
  (rec2 r23 σ22)
  else
  (gz_then (f_X11_next σ22) (fun σ24 =>
  rec2 r23 σ24))))))))))))
def f_X11_readChoices_L13 (a1 : Int32) (j57 : gz_S → Option (Option Unit × gz_S)) (j41 : gz_S → Option (Option Unit × gz_S)) : (Int32 → gz_S → Option (Option Unit × gz_S)) → Int32 → gz_S → Option (Option Unit × gz_S) := fun rec13 v25 σ26 =>
  gz_ix a1 104 (fun n27 =>
  if (σ26.1 10 0 n27) ≤ v25 then
  (j57 σ26)
  else
  (gz_ix ((4 * a1) + v25) 416 (fun n28 =>
  if (lg_cmp (σ26.2.1 14 0 n28) (σ26.2.1 0 0 20)) = 0 then
  (j41 σ26)
  else
  (rec13 (v25 + 1) σ26))))
def f_X11_readChoices_L2 (a1 : Int32) (j67 : gz_S → Option (Option Unit × gz_S)) (j41 : gz_S → Option (Option Unit × gz_S)) : (Int32 → gz_S → Option (Option Unit × gz_S)) → Int32 → gz_S → Option (Option Unit × gz_S) := fun rec2 v9 σ10 =>
  if v9 = 0 then
  (some (some (), σ10))
  else
  (gz_tcall (f_X11_needSort 2 σ10) (fun r11 σ12 =>
  gz_j0 (f_X11_readChoices_J57 a1 j67 rec2) (fun j57 =>
  gz_l1 (f_X11_readChoices_L13 a1 j57 j41) gz_fu 0 σ12)))
def f_X11_readChoices (a1 : Int32) (σ : gz_S) : Option (Option Unit × gz_S) :=
  gz_j0 (f_X11_readChoices_J67) (fun j67 =>
  gz_j0 (f_X11_readChoices_J41) (fun j41 =>
  gz_l1 (f_X11_readChoices_L2 a1 j67 j41) gz_fu 1 σ))
set_option maxHeartbeats 4000000 in
set_option maxRecDepth 100000 in
theorem c_X11_readChoices (l : Launch) (G : gz_G) (a1 : Int32) (σ : gz_S) : ∀ o, f_X11_readChoices a1 σ = some o → gz_MT l true G yX11_readChoices (.code yX11_readChoices cX11_readChoices 4 none) { frames := 2, cells := 0, slots := 0, locals := 43 } [.ref (gz_ad true G 0 0), .int a1] σ ((gz_te G gz_ev0) o) 0 0 := by
  refine gz_enterT RX11 rfl (by decide) (Nat.le_of_ble_eq_true rfl) ?_
  intro p e s m args below meth c C hE
  refine gz_eqs (st' := []) (lv' := [(0, .ref (gz_ad true G 0 0)), (1, .int a1)]) rfl rfl ?_
  unfold f_X11_readChoices
  refine gz_iconst C dX11_readChoices_0 gk_iconst_1 ?_
  refine gz_istore_n C (lv' := [(2, .int 1), (0, .ref (gz_ad true G 0 0)), (1, .int a1)]) dX11_readChoices_1 (by decide) rfl ?_
  refine gz_j0_row (P := fun σ1 x => gz_W true p l e ({ frames := 2, cells := 0, slots := 0, locals := 43 } : Room) s m args below meth c G 4 (gz_QT true G below args s 0 0 (gz_te G gz_ev0)) 0 0 σ1 67 [(0, .ref (gz_ad true G 0 0))] [] x) (fun σ1 => ?_) (fun j67 hj67 => ?_)
  · unfold f_X11_readChoices_J67
    refine gz_aload_n C dX11_readChoices_67 0 rfl ?_
    refine gz_iconst C dX11_readChoices_68 gk_iconst_5 ?_
    refine gz_aload_n C dX11_readChoices_69 0 rfl ?_
    refine gz_get C (t := 0) (k := 18) (ci := 11) (q := (RX11, TX11, 63)) (v := .int (σ1.1 0 0 18)) dX11_readChoices_70 fl_RX11_225 (gz_hm0 _) rfl rfl (by decide) rfl ?_
    refine gz_kr (t := 6) (gz_runV (t := 0) (ci := 11) (q := (RX11, TX11, 63)) (As := [.int 5, .int (σ1.1 0 0 18)]) (rest := []) C dX11_readChoices_73 ml_RX11_249 mw_X11_stop mv_X11_stop (c_X11_stop l G 5 (σ1.1 0 0 18) σ1) (gz_hm0 _) rfl rfl rfl rfl rfl (Nat.le_of_ble_eq_true rfl) ⟨rfl, rfl, Nat.le_of_ble_eq_true rfl, Nat.le_of_ble_eq_true rfl, Nat.le_of_ble_eq_true rfl, Nat.le_of_ble_eq_true rfl⟩) (fun r3 σ2 => ?_)
    refine gz_nn (fun i4 hi4 hr => ?_)
    subst hr
    refine gz_eqs (st' := [.ref (gz_ad true G 6 i4)]) (lv' := [(0, .ref (gz_ad true G 0 0))]) rfl rfl ?_
    exact gz_athrow C hE dX11_readChoices_76
  · skip
    refine gz_j0_row (P := fun σ5 x => gz_W true p l e ({ frames := 2, cells := 0, slots := 0, locals := 43 } : Room) s m args below meth c G 4 (gz_QT true G below args s 0 0 (gz_te G gz_ev0)) 0 0 σ5 41 [(0, .ref (gz_ad true G 0 0))] [] x) (fun σ5 => ?_) (fun j41 hj41 => ?_)
    · unfold f_X11_readChoices_J41
      refine gz_aload_n C dX11_readChoices_41 0 rfl ?_
      refine gz_iconst C dX11_readChoices_42 gk_iconst_3 ?_
      refine gz_aload_n C dX11_readChoices_43 0 rfl ?_
      refine gz_get C (t := 0) (k := 18) (ci := 11) (q := (RX11, TX11, 63)) (v := .int (σ5.1 0 0 18)) dX11_readChoices_44 fl_RX11_225 (gz_hm0 _) rfl rfl (by decide) rfl ?_
      refine gz_kr (t := 6) (gz_runV (t := 0) (ci := 11) (q := (RX11, TX11, 63)) (As := [.int 3, .int (σ5.1 0 0 18)]) (rest := []) C dX11_readChoices_47 ml_RX11_249 mw_X11_stop mv_X11_stop (c_X11_stop l G 3 (σ5.1 0 0 18) σ5) (gz_hm0 _) rfl rfl rfl rfl rfl (Nat.le_of_ble_eq_true rfl) ⟨rfl, rfl, Nat.le_of_ble_eq_true rfl, Nat.le_of_ble_eq_true rfl, Nat.le_of_ble_eq_true rfl, Nat.le_of_ble_eq_true rfl⟩) (fun r7 σ6 => ?_)
      refine gz_nn (fun i8 hi8 hr => ?_)
      subst hr
      refine gz_eqs (st' := [.ref (gz_ad true G 6 i8)]) (lv' := [(0, .ref (gz_ad true G 0 0))]) rfl rfl ?_
      exact gz_athrow C hE dX11_readChoices_50
    · skip
      refine gz_lv (lv' := [(0, .ref (gz_ad true G 0 0)), (1, .int a1), (2, .int 1)]) [1, 2, 0] rfl ?_
      refine gz_l1_ind (P := fun v9 σ10 x => gz_W true p l e ({ frames := 2, cells := 0, slots := 0, locals := 43 } : Room) s m args below meth c G 4 (gz_QT true G below args s 0 0 (gz_te G gz_ev0)) 0 0 σ10 2 [(0, .ref (gz_ad true G 0 0)), (1, .int a1), (2, .int v9)] [] x) (fun _ _ => gz_none) (fun rec2 hrec2 v9 σ10 => ?_) gz_fu 1 σ
      unfold f_X11_readChoices_L2
      refine gz_iload_n C dX11_readChoices_2 2 rfl ?_
      refine gz_if_eq (tgt := 128) C dX11_readChoices_3 (by decide) ?_ ?_
      · skip
        exact gz_vretT C rfl dX11_readChoices_128
      · skip
        refine gz_aload_n C dX11_readChoices_6 0 rfl ?_
        refine gz_iconst C dX11_readChoices_7 gk_iconst_2 ?_
        refine gz_kt C hE (gz_runVT (t := 0) (ci := 11) (q := (RX11, TX11, 63)) (As := [.int 2]) (rest := []) C dX11_readChoices_8 ml_RX11_270 (gz_mt_code mw_X11_needSort) mv_X11_needSort (c_X11_needSort l G 2 σ10) (gz_hm0 _) rfl rfl rfl rfl rfl (Nat.le_of_ble_eq_true rfl) ⟨rfl, rfl, Nat.le_of_ble_eq_true rfl, Nat.le_of_ble_eq_true rfl, Nat.le_of_ble_eq_true rfl, Nat.le_of_ble_eq_true rfl⟩) (fun r11 σ12 => ?_)
        refine gz_eqs (st' := []) (lv' := [(0, .ref (gz_ad true G 0 0)), (1, .int a1), (2, .int v9)]) rfl rfl ?_
        refine gz_iconst C dX11_readChoices_11 gk_iconst_0 ?_
        refine gz_istore_n C (lv' := [(3, .int 0), (0, .ref (gz_ad true G 0 0)), (1, .int a1), (2, .int v9)]) dX11_readChoices_12 (by decide) rfl ?_
        refine gz_j0_row (P := fun σ13 x => gz_W true p l e ({ frames := 2, cells := 0, slots := 0, locals := 43 } : Room) s m args below meth c G 4 (gz_QT true G below args s 0 0 (gz_te G gz_ev0)) 0 0 σ13 57 [(0, .ref (gz_ad true G 0 0)), (1, .int a1)] [] x) (fun σ13 => ?_) (fun j57 hj57 => ?_)
        · unfold f_X11_readChoices_J57
          refine gz_aload_n C dX11_readChoices_57 0 rfl ?_
          refine gz_get C (t := 0) (k := 24) (ci := 11) (q := (RX11, TX11, 63)) (v := .ref (gz_ad true G 10 0)) dX11_readChoices_58 fl_RX11_53 (gz_hm0 _) rfl rfl (by decide) rfl ?_
          refine gz_iload_n C dX11_readChoices_61 1 rfl ?_
          refine gz_iald C (t := 10) dX11_readChoices_62 (gz_hm10 _) rfl (fun n14 hn14 => ?_)
          refine gz_iconst C dX11_readChoices_63 gk_iconst_4 ?_
          refine gz_icmp_ne (tgt := 77) C dX11_readChoices_64 (by decide) ?_ ?_
          · skip
            refine gz_aload_n C dX11_readChoices_77 0 rfl ?_
            refine gz_get C (t := 0) (k := 28) (ci := 11) (q := (RX11, TX11, 63)) (v := .ref (gz_ad true G 14 0)) dX11_readChoices_78 fl_RX11_65 (gz_hm0 _) rfl rfl (by decide) rfl ?_
            refine gz_iconst C dX11_readChoices_81 gk_iconst_4 ?_
            refine gz_iload_n C dX11_readChoices_82 1 rfl ?_
            refine gz_imul C dX11_readChoices_83 ?_
            refine gz_aload_n C dX11_readChoices_84 0 rfl ?_
            refine gz_get C (t := 0) (k := 24) (ci := 11) (q := (RX11, TX11, 63)) (v := .ref (gz_ad true G 10 0)) dX11_readChoices_85 fl_RX11_53 (gz_hm0 _) rfl rfl (by decide) rfl ?_
            refine gz_iload_n C dX11_readChoices_88 1 rfl ?_
            refine gz_iald C (t := 10) dX11_readChoices_89 (gz_hm10 _) rfl (fun n15 hn15 => ?_)
            refine gz_iadd C dX11_readChoices_90 ?_
            refine gz_aload_n C dX11_readChoices_91 0 rfl ?_
            refine gz_get C (t := 0) (k := 20) (ci := 11) (q := (RX11, TX11, 63)) (v := .long (σ13.2.1 0 0 20)) dX11_readChoices_92 fl_RX11_232 (gz_hm0 _) rfl rfl (by decide) rfl ?_
            refine gz_last C (t := 14) dX11_readChoices_95 (gz_hm14 _) rfl (fun n16 hn16 => ?_)
            refine gz_w_row (fun σ17 => ?_)
            refine gz_aload_n C dX11_readChoices_96 0 rfl ?_
            refine gz_get C (t := 0) (k := 24) (ci := 11) (q := (RX11, TX11, 63)) (v := .ref (gz_ad true G 10 0)) dX11_readChoices_97 fl_RX11_53 (gz_hm0 _) rfl rfl (by decide) rfl ?_
            refine gz_iload_n C dX11_readChoices_100 1 rfl ?_
            refine gz_dup2 C dX11_readChoices_101 rfl rfl ?_
            refine gz_iald C (t := 10) dX11_readChoices_102 (gz_hm10 _) rfl (fun n18 hn18 => ?_)
            refine gz_iconst C dX11_readChoices_103 gk_iconst_1 ?_
            refine gz_iadd C dX11_readChoices_104 ?_
            refine gz_iast C (t := 10) dX11_readChoices_105 (gz_hm10 _) rfl (fun n19 hn19 => ?_)
            refine gz_w_row (fun σ20 => ?_)
            refine gz_aload_n C dX11_readChoices_106 0 rfl ?_
            refine gz_kv (gz_runV (t := 0) (ci := 11) (q := (RX11, TX11, 63)) (As := []) (rest := []) C dX11_readChoices_107 ml_RX11_252 mw_X11_next mv_X11_next (c_X11_next l G σ20) (gz_hm0 _) rfl rfl rfl rfl rfl (Nat.le_of_ble_eq_true rfl) ⟨rfl, rfl, Nat.le_of_ble_eq_true rfl, Nat.le_of_ble_eq_true rfl, Nat.le_of_ble_eq_true rfl, Nat.le_of_ble_eq_true rfl⟩) (fun σ21 => ?_)
            refine gz_aload_n C dX11_readChoices_110 0 rfl ?_
            refine gz_bipush C dX11_readChoices_111 gk_bipush_47 ?_
            refine gz_ki (gz_runV (t := 0) (ci := 11) (q := (RX11, TX11, 63)) (As := [.int 47]) (rest := []) C dX11_readChoices_113 ml_RX11_246 mw_X11_is mv_X11_is (c_X11_is l G 47 σ21) (gz_hm0 _) rfl rfl rfl rfl rfl (Nat.le_of_ble_eq_true rfl) ⟨rfl, rfl, Nat.le_of_ble_eq_true rfl, Nat.le_of_ble_eq_true rfl, Nat.le_of_ble_eq_true rfl, Nat.le_of_ble_eq_true rfl⟩) (fun r23 σ22 => ?_)
            refine gz_istore_n C (lv' := [(2, .int r23), (0, .ref (gz_ad true G 0 0)), (1, .int a1)]) dX11_readChoices_116 (by decide) rfl ?_
            refine gz_iload_n C dX11_readChoices_117 0 rfl ?_
            refine gz_if_eq (tgt := 2) C dX11_readChoices_118 (by decide) ?_ ?_
            · skip
              refine gz_lv (lv' := [(0, .ref (gz_ad true G 0 0)), (1, .int a1), (2, .int r23)]) [1, 2, 0] rfl ?_
              exact hrec2 r23 σ22
            · skip
              refine gz_aload_n C dX11_readChoices_121 1 rfl ?_
              refine gz_kv (gz_runV (t := 0) (ci := 11) (q := (RX11, TX11, 63)) (As := []) (rest := []) C dX11_readChoices_122 ml_RX11_252 mw_X11_next mv_X11_next (c_X11_next l G σ22) (gz_hm0 _) rfl rfl rfl rfl rfl (Nat.le_of_ble_eq_true rfl) ⟨rfl, rfl, Nat.le_of_ble_eq_true rfl, Nat.le_of_ble_eq_true rfl, Nat.le_of_ble_eq_true rfl, Nat.le_of_ble_eq_true rfl⟩) (fun σ24 => ?_)
              refine gz_goto (tgt := 2) C dX11_readChoices_125 (by decide) ?_
              refine gz_lv (lv' := [(0, .ref (gz_ad true G 0 0)), (1, .int a1), (2, .int r23)]) [1, 2, 0] rfl ?_
              exact hrec2 r23 σ24
          · skip
            refine gz_lv (lv' := [(0, .ref (gz_ad true G 0 0))]) [0] rfl ?_
            exact hj67 σ13
        · skip
          refine gz_lv (lv' := [(0, .ref (gz_ad true G 0 0)), (1, .int a1), (3, .int 0)]) [1, 2, 0] rfl ?_
          refine gz_l1_ind (P := fun v25 σ26 x => gz_W true p l e ({ frames := 2, cells := 0, slots := 0, locals := 43 } : Room) s m args below meth c G 4 (gz_QT true G below args s 0 0 (gz_te G gz_ev0)) 0 0 σ26 13 [(0, .ref (gz_ad true G 0 0)), (1, .int a1), (3, .int v25)] [] x) (fun _ _ => gz_none) (fun rec13 hrec13 v25 σ26 => ?_) gz_fu 0 σ12
          unfold f_X11_readChoices_L13
          refine gz_iload_n C dX11_readChoices_13 2 rfl ?_
          refine gz_aload_n C dX11_readChoices_14 0 rfl ?_
          refine gz_get C (t := 0) (k := 24) (ci := 11) (q := (RX11, TX11, 63)) (v := .ref (gz_ad true G 10 0)) dX11_readChoices_15 fl_RX11_53 (gz_hm0 _) rfl rfl (by decide) rfl ?_
          refine gz_iload_n C dX11_readChoices_18 1 rfl ?_
          refine gz_iald C (t := 10) dX11_readChoices_19 (gz_hm10 _) rfl (fun n27 hn27 => ?_)
          refine gz_icmp_ge (tgt := 57) C dX11_readChoices_20 (by decide) ?_ ?_
          · skip
            refine gz_lv (lv' := [(0, .ref (gz_ad true G 0 0)), (1, .int a1)]) [0, 1] rfl ?_
            exact hj57 σ26
          · skip
            refine gz_aload_n C dX11_readChoices_23 0 rfl ?_
            refine gz_get C (t := 0) (k := 28) (ci := 11) (q := (RX11, TX11, 63)) (v := .ref (gz_ad true G 14 0)) dX11_readChoices_24 fl_RX11_65 (gz_hm0 _) rfl rfl (by decide) rfl ?_
            refine gz_iconst C dX11_readChoices_27 gk_iconst_4 ?_
            refine gz_iload_n C dX11_readChoices_28 1 rfl ?_
            refine gz_imul C dX11_readChoices_29 ?_
            refine gz_iload_n C dX11_readChoices_30 2 rfl ?_
            refine gz_iadd C dX11_readChoices_31 ?_
            refine gz_lald C (t := 14) dX11_readChoices_32 (gz_hm14 _) rfl (fun n28 hn28 => ?_)
            refine gz_aload_n C dX11_readChoices_33 0 rfl ?_
            refine gz_get C (t := 0) (k := 20) (ci := 11) (q := (RX11, TX11, 63)) (v := .long (σ26.2.1 0 0 20)) dX11_readChoices_34 fl_RX11_232 (gz_hm0 _) rfl rfl (by decide) rfl ?_
            refine gz_lcmp C dX11_readChoices_37 ?_
            refine gz_if_ne (tgt := 51) C dX11_readChoices_38 (by decide) ?_ ?_
            · skip
              refine gz_iinc C (q := 2) (v := v25 + 1) (lv' := [(3, .int (v25 + 1)), (0, .ref (gz_ad true G 0 0)), (1, .int a1)]) dX11_readChoices_51 rfl rfl (by decide) rfl ?_
              refine gz_goto (tgt := 13) C dX11_readChoices_54 (by decide) ?_
              refine gz_lv (lv' := [(0, .ref (gz_ad true G 0 0)), (1, .int a1), (3, .int (v25 + 1))]) [1, 2, 0] rfl ?_
              exact hrec13 (v25 + 1) σ26
            · skip
              refine gz_lv (lv' := [(0, .ref (gz_ad true G 0 0))]) [0] rfl ?_
              exact hj41 σ26

def f_X11_readSpan_J142 : gz_S → Option (Option Unit × gz_S) := fun σ23 =>
  gz_call (f_X11_stop 2 (σ23.1 0 0 18) σ23) (fun r25 σ24 =>
  gz_nl r25 1 none (fun i26 =>
  some (none, σ24)))
def f_X11_readSpan_J87 (a1 : Int32) (a2 : Int32) : Int32 → Int32 → gz_S → Option (Option Unit × gz_S) := fun x13 x14 σ15 =>
  gz_ix x13 104 (fun n16 =>
  gz_w (gz_si σ15 9 0 n16 x14) (fun σ17 =>
  gz_then (f_X11_next σ17) (fun σ18 =>
  gz_tcall (f_X11_needSort 2 σ18) (fun r19 σ20 =>
  gz_call (f_X11_fieldOf a1 (σ20.2.1 0 0 20) σ20) (fun r22 σ21 =>
  gz_j0 (f_X11_readSpan_J142) (fun j142 =>
  if r22 = (-1) then
  (j142 σ21)
  else
  (gz_ix ((8 * a1) + r22) 104 (fun n27 =>
  if (σ21.1 9 0 n27) = 1 then
  (gz_ix a2 104 (fun n28 =>
  gz_w (gz_si σ21 11 0 n28 r22) (fun σ29 =>
  gz_then (f_X11_next σ29) (fun σ30 =>
  some (some (), σ30)))))
  else
  (gz_ix ((8 * a1) + r22) 104 (fun n31 =>
  if 4 ≤ (σ21.1 9 0 n31) then
  (gz_ix a2 104 (fun n32 =>
  gz_w (gz_si σ21 11 0 n32 r22) (fun σ33 =>
  gz_then (f_X11_next σ33) (fun σ34 =>
  some (some (), σ34)))))
  else
  (j142 σ21)))))))))))
def f_X11_readSpan_J63 (a1 : Int32) (a2 : Int32) : gz_S → Option (Option Unit × gz_S) := fun σ10 =>
  gz_call (f_X11_word 5 σ10) (fun r12 σ11 =>
  gz_j2 (f_X11_readSpan_J87 a1 a2) (fun j87 =>
  if (lg_cmp (σ10.2.1 0 0 20) r12) = 0 then
  (j87 a2 4 σ11)
  else
  (j87 a2 5 σ11)))
def f_X11_readSpan (a1 : Int32) (a2 : Int32) (σ : gz_S) : Option (Option Unit × gz_S) :=
  gz_tcall (f_X11_needSort 3 σ) (fun r1 σ2 =>
  gz_ix a2 104 (fun n3 =>
  gz_w (gz_si σ2 10 0 n3 ((σ2.2.1 0 0 20 : Int64).toInt32)) (fun σ4 =>
  gz_then (f_X11_next σ4) (fun σ5 =>
  gz_tcall (f_X11_needSort 2 σ5) (fun r6 σ7 =>
  gz_call (f_X11_word 5 σ7) (fun r9 σ8 =>
  gz_j0 (f_X11_readSpan_J63 a1 a2) (fun j63 =>
  if (lg_cmp (σ7.2.1 0 0 20) r9) = 0 then
  (j63 σ8)
  else
  (gz_call (f_X11_word 6 σ8) (fun r36 σ35 =>
  if (lg_cmp (σ8.2.1 0 0 20) r36) = 0 then
  (j63 σ35)
  else
  (gz_call (f_X11_stop 1 (σ35.1 0 0 18) σ35) (fun r38 σ37 =>
  gz_nl r38 1 none (fun i39 =>
  some (none, σ37)))))))))))))
set_option maxHeartbeats 4000000 in
set_option maxRecDepth 100000 in
theorem c_X11_readSpan (l : Launch) (G : gz_G) (a1 : Int32) (a2 : Int32) (σ : gz_S) : ∀ o, f_X11_readSpan a1 a2 σ = some o → gz_MT l true G yX11_readSpan (.code yX11_readSpan cX11_readSpan 4 none) { frames := 5, cells := 0, slots := 0, locals := 108 } [.ref (gz_ad true G 0 0), .int a1, .int a2] σ ((gz_te G gz_ev0) o) 0 0 := by
  refine gz_enterT RX11 rfl (by decide) (Nat.le_of_ble_eq_true rfl) ?_
  intro p e s m args below meth c C hE
  refine gz_eqs (st' := []) (lv' := [(0, .ref (gz_ad true G 0 0)), (1, .int a1), (2, .int a2)]) rfl rfl ?_
  unfold f_X11_readSpan
  refine gz_aload_n C dX11_readSpan_0 0 rfl ?_
  refine gz_iconst C dX11_readSpan_1 gk_iconst_3 ?_
  refine gz_kt C hE (gz_runVT (t := 0) (ci := 11) (q := (RX11, TX11, 63)) (As := [.int 3]) (rest := []) C dX11_readSpan_2 ml_RX11_270 (gz_mt_code mw_X11_needSort) mv_X11_needSort (c_X11_needSort l G 3 σ) (gz_hm0 _) rfl rfl rfl rfl rfl (Nat.le_of_ble_eq_true rfl) ⟨rfl, rfl, Nat.le_of_ble_eq_true rfl, Nat.le_of_ble_eq_true rfl, Nat.le_of_ble_eq_true rfl, Nat.le_of_ble_eq_true rfl⟩) (fun r1 σ2 => ?_)
  refine gz_eqs (st' := []) (lv' := [(0, .ref (gz_ad true G 0 0)), (1, .int a1), (2, .int a2)]) rfl rfl ?_
  refine gz_aload_n C dX11_readSpan_5 0 rfl ?_
  refine gz_get C (t := 0) (k := 24) (ci := 11) (q := (RX11, TX11, 63)) (v := .ref (gz_ad true G 10 0)) dX11_readSpan_6 fl_RX11_53 (gz_hm0 _) rfl rfl (by decide) rfl ?_
  refine gz_iload_n C dX11_readSpan_9 2 rfl ?_
  refine gz_aload_n C dX11_readSpan_10 0 rfl ?_
  refine gz_get C (t := 0) (k := 20) (ci := 11) (q := (RX11, TX11, 63)) (v := .long (σ2.2.1 0 0 20)) dX11_readSpan_11 fl_RX11_232 (gz_hm0 _) rfl rfl (by decide) rfl ?_
  refine gz_l2i C dX11_readSpan_14 ?_
  refine gz_iast C (t := 10) dX11_readSpan_15 (gz_hm10 _) rfl (fun n3 hn3 => ?_)
  refine gz_w_row (fun σ4 => ?_)
  refine gz_aload_n C dX11_readSpan_16 0 rfl ?_
  refine gz_kv (gz_runV (t := 0) (ci := 11) (q := (RX11, TX11, 63)) (As := []) (rest := []) C dX11_readSpan_17 ml_RX11_252 mw_X11_next mv_X11_next (c_X11_next l G σ4) (gz_hm0 _) rfl rfl rfl rfl rfl (Nat.le_of_ble_eq_true rfl) ⟨rfl, rfl, Nat.le_of_ble_eq_true rfl, Nat.le_of_ble_eq_true rfl, Nat.le_of_ble_eq_true rfl, Nat.le_of_ble_eq_true rfl⟩) (fun σ5 => ?_)
  refine gz_aload_n C dX11_readSpan_20 0 rfl ?_
  refine gz_iconst C dX11_readSpan_21 gk_iconst_2 ?_
  refine gz_kt C hE (gz_runVT (t := 0) (ci := 11) (q := (RX11, TX11, 63)) (As := [.int 2]) (rest := []) C dX11_readSpan_22 ml_RX11_270 (gz_mt_code mw_X11_needSort) mv_X11_needSort (c_X11_needSort l G 2 σ5) (gz_hm0 _) rfl rfl rfl rfl rfl (Nat.le_of_ble_eq_true rfl) ⟨rfl, rfl, Nat.le_of_ble_eq_true rfl, Nat.le_of_ble_eq_true rfl, Nat.le_of_ble_eq_true rfl, Nat.le_of_ble_eq_true rfl⟩) (fun r6 σ7 => ?_)
  refine gz_eqs (st' := []) (lv' := [(0, .ref (gz_ad true G 0 0)), (1, .int a1), (2, .int a2)]) rfl rfl ?_
  refine gz_aload_n C dX11_readSpan_25 0 rfl ?_
  refine gz_get C (t := 0) (k := 20) (ci := 11) (q := (RX11, TX11, 63)) (v := .long (σ7.2.1 0 0 20)) dX11_readSpan_26 fl_RX11_232 (gz_hm0 _) rfl rfl (by decide) rfl ?_
  refine gz_ldcS C 5 (by decide) rfl dX11_readSpan_29 ?_
  refine gz_kl (gz_runS (As := [.ref (G.2.2.2.2.1 5)]) (rest := [.long (σ7.2.1 0 0 20)]) C dX11_readSpan_32 ml_RX11_287 mw_X11_word ms_X11_word (c_X11_word l G 5 (by decide) σ7) rfl rfl (Nat.le_of_ble_eq_true rfl) ⟨rfl, rfl, Nat.le_of_ble_eq_true rfl, Nat.le_of_ble_eq_true rfl, Nat.le_of_ble_eq_true rfl, Nat.le_of_ble_eq_true rfl⟩) (fun r9 σ8 => ?_)
  refine gz_lcmp C dX11_readSpan_35 ?_
  refine gz_j0_row (P := fun σ10 x => gz_W true p l e ({ frames := 5, cells := 0, slots := 0, locals := 108 } : Room) s m args below meth c G 4 (gz_QT true G below args s 0 0 (gz_te G gz_ev0)) 0 0 σ10 63 [(0, .ref (gz_ad true G 0 0)), (1, .int a1), (2, .int a2)] [] x) (fun σ10 => ?_) (fun j63 hj63 => ?_)
  · unfold f_X11_readSpan_J63
    refine gz_aload_n C dX11_readSpan_63 0 rfl ?_
    refine gz_get C (t := 0) (k := 23) (ci := 11) (q := (RX11, TX11, 63)) (v := .ref (gz_ad true G 9 0)) dX11_readSpan_64 fl_RX11_50 (gz_hm0 _) rfl rfl (by decide) rfl ?_
    refine gz_iload_n C dX11_readSpan_67 2 rfl ?_
    refine gz_aload_n C dX11_readSpan_68 0 rfl ?_
    refine gz_get C (t := 0) (k := 20) (ci := 11) (q := (RX11, TX11, 63)) (v := .long (σ10.2.1 0 0 20)) dX11_readSpan_69 fl_RX11_232 (gz_hm0 _) rfl rfl (by decide) rfl ?_
    refine gz_ldcS C 5 (by decide) rfl dX11_readSpan_72 ?_
    refine gz_kl (gz_runS (As := [.ref (G.2.2.2.2.1 5)]) (rest := [.long (σ10.2.1 0 0 20), .int a2, .ref (gz_ad true G 9 0)]) C dX11_readSpan_75 ml_RX11_287 mw_X11_word ms_X11_word (c_X11_word l G 5 (by decide) σ10) rfl rfl (Nat.le_of_ble_eq_true rfl) ⟨rfl, rfl, Nat.le_of_ble_eq_true rfl, Nat.le_of_ble_eq_true rfl, Nat.le_of_ble_eq_true rfl, Nat.le_of_ble_eq_true rfl⟩) (fun r12 σ11 => ?_)
    refine gz_lcmp C dX11_readSpan_78 ?_
    refine gz_j2_row (P := fun x13 x14 σ15 x => gz_W true p l e ({ frames := 5, cells := 0, slots := 0, locals := 108 } : Room) s m args below meth c G 4 (gz_QT true G below args s 0 0 (gz_te G gz_ev0)) 0 0 σ15 87 [(0, .ref (gz_ad true G 0 0)), (1, .int a1), (2, .int a2)] [.int x14, .int x13, .ref (gz_ad true G 9 0)] x) (fun x13 x14 σ15 => ?_) (fun j87 hj87 => ?_)
    · unfold f_X11_readSpan_J87
      refine gz_iast C (t := 9) dX11_readSpan_87 (gz_hm9 _) rfl (fun n16 hn16 => ?_)
      refine gz_w_row (fun σ17 => ?_)
      refine gz_aload_n C dX11_readSpan_88 0 rfl ?_
      refine gz_kv (gz_runV (t := 0) (ci := 11) (q := (RX11, TX11, 63)) (As := []) (rest := []) C dX11_readSpan_89 ml_RX11_252 mw_X11_next mv_X11_next (c_X11_next l G σ17) (gz_hm0 _) rfl rfl rfl rfl rfl (Nat.le_of_ble_eq_true rfl) ⟨rfl, rfl, Nat.le_of_ble_eq_true rfl, Nat.le_of_ble_eq_true rfl, Nat.le_of_ble_eq_true rfl, Nat.le_of_ble_eq_true rfl⟩) (fun σ18 => ?_)
      refine gz_aload_n C dX11_readSpan_92 0 rfl ?_
      refine gz_iconst C dX11_readSpan_93 gk_iconst_2 ?_
      refine gz_kt C hE (gz_runVT (t := 0) (ci := 11) (q := (RX11, TX11, 63)) (As := [.int 2]) (rest := []) C dX11_readSpan_94 ml_RX11_270 (gz_mt_code mw_X11_needSort) mv_X11_needSort (c_X11_needSort l G 2 σ18) (gz_hm0 _) rfl rfl rfl rfl rfl (Nat.le_of_ble_eq_true rfl) ⟨rfl, rfl, Nat.le_of_ble_eq_true rfl, Nat.le_of_ble_eq_true rfl, Nat.le_of_ble_eq_true rfl, Nat.le_of_ble_eq_true rfl⟩) (fun r19 σ20 => ?_)
      refine gz_eqs (st' := []) (lv' := [(0, .ref (gz_ad true G 0 0)), (1, .int a1), (2, .int a2)]) rfl rfl ?_
      refine gz_aload_n C dX11_readSpan_97 0 rfl ?_
      refine gz_iload_n C dX11_readSpan_98 1 rfl ?_
      refine gz_aload_n C dX11_readSpan_99 0 rfl ?_
      refine gz_get C (t := 0) (k := 20) (ci := 11) (q := (RX11, TX11, 63)) (v := .long (σ20.2.1 0 0 20)) dX11_readSpan_100 fl_RX11_232 (gz_hm0 _) rfl rfl (by decide) rfl ?_
      refine gz_ki (gz_runV (t := 0) (ci := 11) (q := (RX11, TX11, 63)) (As := [.int a1, .long (σ20.2.1 0 0 20)]) (rest := []) C dX11_readSpan_103 ml_RX11_274 mw_X11_fieldOf mv_X11_fieldOf (c_X11_fieldOf l G a1 (σ20.2.1 0 0 20) σ20) (gz_hm0 _) rfl rfl rfl rfl rfl (Nat.le_of_ble_eq_true rfl) ⟨rfl, rfl, Nat.le_of_ble_eq_true rfl, Nat.le_of_ble_eq_true rfl, Nat.le_of_ble_eq_true rfl, Nat.le_of_ble_eq_true rfl⟩) (fun r22 σ21 => ?_)
      refine gz_istore_n C (lv' := [(3, .int r22), (0, .ref (gz_ad true G 0 0)), (1, .int a1), (2, .int a2)]) dX11_readSpan_106 (by decide) rfl ?_
      refine gz_iload_n C dX11_readSpan_107 0 rfl ?_
      refine gz_iconst C dX11_readSpan_108 gk_iconst_m1 ?_
      refine gz_j0_row (P := fun σ23 x => gz_W true p l e ({ frames := 5, cells := 0, slots := 0, locals := 108 } : Room) s m args below meth c G 4 (gz_QT true G below args s 0 0 (gz_te G gz_ev0)) 0 0 σ23 142 [(0, .ref (gz_ad true G 0 0))] [] x) (fun σ23 => ?_) (fun j142 hj142 => ?_)
      · unfold f_X11_readSpan_J142
        refine gz_aload_n C dX11_readSpan_142 0 rfl ?_
        refine gz_iconst C dX11_readSpan_143 gk_iconst_2 ?_
        refine gz_aload_n C dX11_readSpan_144 0 rfl ?_
        refine gz_get C (t := 0) (k := 18) (ci := 11) (q := (RX11, TX11, 63)) (v := .int (σ23.1 0 0 18)) dX11_readSpan_145 fl_RX11_225 (gz_hm0 _) rfl rfl (by decide) rfl ?_
        refine gz_kr (t := 6) (gz_runV (t := 0) (ci := 11) (q := (RX11, TX11, 63)) (As := [.int 2, .int (σ23.1 0 0 18)]) (rest := []) C dX11_readSpan_148 ml_RX11_249 mw_X11_stop mv_X11_stop (c_X11_stop l G 2 (σ23.1 0 0 18) σ23) (gz_hm0 _) rfl rfl rfl rfl rfl (Nat.le_of_ble_eq_true rfl) ⟨rfl, rfl, Nat.le_of_ble_eq_true rfl, Nat.le_of_ble_eq_true rfl, Nat.le_of_ble_eq_true rfl, Nat.le_of_ble_eq_true rfl⟩) (fun r25 σ24 => ?_)
        refine gz_nn (fun i26 hi26 hr => ?_)
        subst hr
        refine gz_eqs (st' := [.ref (gz_ad true G 6 i26)]) (lv' := [(0, .ref (gz_ad true G 0 0))]) rfl rfl ?_
        exact gz_athrow C hE dX11_readSpan_151
      · skip
        refine gz_icmp_eq (tgt := 142) C dX11_readSpan_109 (by decide) ?_ ?_
        · skip
          refine gz_lv (lv' := [(0, .ref (gz_ad true G 0 0))]) [1] rfl ?_
          exact hj142 σ21
        · skip
          refine gz_aload_n C dX11_readSpan_112 1 rfl ?_
          refine gz_get C (t := 0) (k := 23) (ci := 11) (q := (RX11, TX11, 63)) (v := .ref (gz_ad true G 9 0)) dX11_readSpan_113 fl_RX11_50 (gz_hm0 _) rfl rfl (by decide) rfl ?_
          refine gz_bipush C dX11_readSpan_116 gk_bipush_8 ?_
          refine gz_iload_n C dX11_readSpan_118 2 rfl ?_
          refine gz_imul C dX11_readSpan_119 ?_
          refine gz_iload_n C dX11_readSpan_120 0 rfl ?_
          refine gz_iadd C dX11_readSpan_121 ?_
          refine gz_iald C (t := 9) dX11_readSpan_122 (gz_hm9 _) rfl (fun n27 hn27 => ?_)
          refine gz_iconst C dX11_readSpan_123 gk_iconst_1 ?_
          refine gz_icmp_eq (tgt := 152) C dX11_readSpan_124 (by decide) ?_ ?_
          · skip
            refine gz_aload_n C dX11_readSpan_152 1 rfl ?_
            refine gz_get C (t := 0) (k := 25) (ci := 11) (q := (RX11, TX11, 63)) (v := .ref (gz_ad true G 11 0)) dX11_readSpan_153 fl_RX11_56 (gz_hm0 _) rfl rfl (by decide) rfl ?_
            refine gz_iload_n C dX11_readSpan_156 3 rfl ?_
            refine gz_iload_n C dX11_readSpan_157 0 rfl ?_
            refine gz_iast C (t := 11) dX11_readSpan_158 (gz_hm11 _) rfl (fun n28 hn28 => ?_)
            refine gz_w_row (fun σ29 => ?_)
            refine gz_aload_n C dX11_readSpan_159 1 rfl ?_
            refine gz_kv (gz_runV (t := 0) (ci := 11) (q := (RX11, TX11, 63)) (As := []) (rest := []) C dX11_readSpan_160 ml_RX11_252 mw_X11_next mv_X11_next (c_X11_next l G σ29) (gz_hm0 _) rfl rfl rfl rfl rfl (Nat.le_of_ble_eq_true rfl) ⟨rfl, rfl, Nat.le_of_ble_eq_true rfl, Nat.le_of_ble_eq_true rfl, Nat.le_of_ble_eq_true rfl, Nat.le_of_ble_eq_true rfl⟩) (fun σ30 => ?_)
            exact gz_vretT C rfl dX11_readSpan_163
          · skip
            refine gz_aload_n C dX11_readSpan_127 1 rfl ?_
            refine gz_get C (t := 0) (k := 23) (ci := 11) (q := (RX11, TX11, 63)) (v := .ref (gz_ad true G 9 0)) dX11_readSpan_128 fl_RX11_50 (gz_hm0 _) rfl rfl (by decide) rfl ?_
            refine gz_bipush C dX11_readSpan_131 gk_bipush_8 ?_
            refine gz_iload_n C dX11_readSpan_133 2 rfl ?_
            refine gz_imul C dX11_readSpan_134 ?_
            refine gz_iload_n C dX11_readSpan_135 0 rfl ?_
            refine gz_iadd C dX11_readSpan_136 ?_
            refine gz_iald C (t := 9) dX11_readSpan_137 (gz_hm9 _) rfl (fun n31 hn31 => ?_)
            refine gz_iconst C dX11_readSpan_138 gk_iconst_4 ?_
            refine gz_icmp_ge (tgt := 152) C dX11_readSpan_139 (by decide) ?_ ?_
            · skip
              refine gz_aload_n C dX11_readSpan_152 1 rfl ?_
              refine gz_get C (t := 0) (k := 25) (ci := 11) (q := (RX11, TX11, 63)) (v := .ref (gz_ad true G 11 0)) dX11_readSpan_153 fl_RX11_56 (gz_hm0 _) rfl rfl (by decide) rfl ?_
              refine gz_iload_n C dX11_readSpan_156 3 rfl ?_
              refine gz_iload_n C dX11_readSpan_157 0 rfl ?_
              refine gz_iast C (t := 11) dX11_readSpan_158 (gz_hm11 _) rfl (fun n32 hn32 => ?_)
              refine gz_w_row (fun σ33 => ?_)
              refine gz_aload_n C dX11_readSpan_159 1 rfl ?_
              refine gz_kv (gz_runV (t := 0) (ci := 11) (q := (RX11, TX11, 63)) (As := []) (rest := []) C dX11_readSpan_160 ml_RX11_252 mw_X11_next mv_X11_next (c_X11_next l G σ33) (gz_hm0 _) rfl rfl rfl rfl rfl (Nat.le_of_ble_eq_true rfl) ⟨rfl, rfl, Nat.le_of_ble_eq_true rfl, Nat.le_of_ble_eq_true rfl, Nat.le_of_ble_eq_true rfl, Nat.le_of_ble_eq_true rfl⟩) (fun σ34 => ?_)
              exact gz_vretT C rfl dX11_readSpan_163
            · skip
              refine gz_lv (lv' := [(0, .ref (gz_ad true G 0 0))]) [1] rfl ?_
              exact hj142 σ21
    · skip
      refine gz_if_ne (tgt := 86) C dX11_readSpan_79 (by decide) ?_ ?_
      · skip
        refine gz_iconst C dX11_readSpan_86 gk_iconst_5 ?_
        exact hj87 a2 5 σ11
      · skip
        refine gz_iconst C dX11_readSpan_82 gk_iconst_4 ?_
        refine gz_goto (tgt := 87) C dX11_readSpan_83 (by decide) ?_
        exact hj87 a2 4 σ11
  · skip
    refine gz_if_eq (tgt := 63) C dX11_readSpan_36 (by decide) ?_ ?_
    · skip
      exact hj63 σ8
    · skip
      refine gz_aload_n C dX11_readSpan_39 0 rfl ?_
      refine gz_get C (t := 0) (k := 20) (ci := 11) (q := (RX11, TX11, 63)) (v := .long (σ8.2.1 0 0 20)) dX11_readSpan_40 fl_RX11_232 (gz_hm0 _) rfl rfl (by decide) rfl ?_
      refine gz_ldcS C 6 (by decide) rfl dX11_readSpan_43 ?_
      refine gz_kl (gz_runS (As := [.ref (G.2.2.2.2.1 6)]) (rest := [.long (σ8.2.1 0 0 20)]) C dX11_readSpan_46 ml_RX11_287 mw_X11_word ms_X11_word (c_X11_word l G 6 (by decide) σ8) rfl rfl (Nat.le_of_ble_eq_true rfl) ⟨rfl, rfl, Nat.le_of_ble_eq_true rfl, Nat.le_of_ble_eq_true rfl, Nat.le_of_ble_eq_true rfl, Nat.le_of_ble_eq_true rfl⟩) (fun r36 σ35 => ?_)
      refine gz_lcmp C dX11_readSpan_49 ?_
      refine gz_if_eq (tgt := 63) C dX11_readSpan_50 (by decide) ?_ ?_
      · skip
        exact hj63 σ35
      · skip
        refine gz_aload_n C dX11_readSpan_53 0 rfl ?_
        refine gz_iconst C dX11_readSpan_54 gk_iconst_1 ?_
        refine gz_aload_n C dX11_readSpan_55 0 rfl ?_
        refine gz_get C (t := 0) (k := 18) (ci := 11) (q := (RX11, TX11, 63)) (v := .int (σ35.1 0 0 18)) dX11_readSpan_56 fl_RX11_225 (gz_hm0 _) rfl rfl (by decide) rfl ?_
        refine gz_kr (t := 6) (gz_runV (t := 0) (ci := 11) (q := (RX11, TX11, 63)) (As := [.int 1, .int (σ35.1 0 0 18)]) (rest := []) C dX11_readSpan_59 ml_RX11_249 mw_X11_stop mv_X11_stop (c_X11_stop l G 1 (σ35.1 0 0 18) σ35) (gz_hm0 _) rfl rfl rfl rfl rfl (Nat.le_of_ble_eq_true rfl) ⟨rfl, rfl, Nat.le_of_ble_eq_true rfl, Nat.le_of_ble_eq_true rfl, Nat.le_of_ble_eq_true rfl, Nat.le_of_ble_eq_true rfl⟩) (fun r38 σ37 => ?_)
        refine gz_nn (fun i39 hi39 hr => ?_)
        subst hr
        refine gz_eqs (st' := [.ref (gz_ad true G 6 i39)]) (lv' := [(0, .ref (gz_ad true G 0 0)), (1, .int a1), (2, .int a2)]) rfl rfl ?_
        exact gz_athrow C hE dX11_readSpan_62

def f_X11_readKind_J70 (v3 : Int64) (a2 : Int32) (a1 : Int32) : Int32 → gz_S → Option (Option Unit × gz_S) := fun x6 σ7 =>
  if x6 = 0 then
  (gz_call (f_X11_stop 1 (σ7.1 0 0 18) σ7) (fun r47 σ46 =>
  gz_nl r47 1 none (fun i48 =>
  some (none, σ46))))
  else
  (gz_then (f_X11_next σ7) (fun σ8 =>
  gz_call (f_X11_word 0 σ8) (fun r10 σ9 =>
  if (lg_cmp v3 r10) = 0 then
  (gz_ix a2 104 (fun n27 =>
  gz_w (gz_si σ9 9 0 n27 0) (fun σ28 =>
  gz_tcall (f_X11_needSort 3 σ28) (fun r29 σ30 =>
  gz_ix a2 104 (fun n31 =>
  gz_w (gz_si σ30 10 0 n31 ((σ30.2.1 0 0 20 : Int64).toInt32)) (fun σ32 =>
  gz_then (f_X11_next σ32) (fun σ33 =>
  gz_tcall (f_X11_needSort 4 σ33) (fun r34 σ35 =>
  gz_then (f_X11_next σ35) (fun σ36 =>
  gz_tcall (f_X11_needSort 3 σ36) (fun r37 σ38 =>
  gz_ix a2 104 (fun n39 =>
  if 0 ≤ (lg_cmp (σ38.2.1 0 0 20) ((σ38.1 10 0 n39 : Int32).toInt64)) then
  (gz_ix a2 104 (fun n40 =>
  gz_w (gz_si σ38 11 0 n40 ((σ38.2.1 0 0 20 : Int64).toInt32)) (fun σ41 =>
  gz_then (f_X11_next σ41) (fun σ42 =>
  some (some (), σ42)))))
  else
  (gz_call (f_X11_stop 4 (σ38.1 0 0 18) σ38) (fun r44 σ43 =>
  gz_nl r44 1 none (fun i45 =>
  some (none, σ43)))))))))))))))
  else
  (gz_call (f_X11_word 3 σ9) (fun r12 σ11 =>
  if (lg_cmp v3 r12) = 0 then
  (gz_ix a2 104 (fun n23 =>
  gz_w (gz_si σ11 9 0 n23 3) (fun σ24 =>
  gz_tcall (f_X11_readChoices a2 σ24) (fun r25 σ26 =>
  some (some (), σ26)))))
  else
  (gz_call (f_X11_word 4 σ11) (fun r14 σ13 =>
  if (lg_cmp v3 r14) = 0 then
  (gz_tcall (f_X11_readSpan a1 a2 σ13) (fun r21 σ22 =>
  some (some (), σ22)))
  else
  (gz_call (f_X11_word 1 σ13) (fun r16 σ15 =>
  if (lg_cmp v3 r16) = 0 then
  (gz_ix a2 104 (fun n19 =>
  gz_w (gz_si σ15 9 0 n19 1) (fun σ20 =>
  some (some (), σ20))))
  else
  (gz_ix a2 104 (fun n17 =>
  gz_w (gz_si σ15 9 0 n17 2) (fun σ18 =>
  some (some (), σ18)))))))))))))
def f_X11_readKind_J65 (j70 : Int32 → gz_S → Option (Option Unit × gz_S)) : gz_S → Option (Option Unit × gz_S) := fun σ49 =>
  j70 1 σ49
def f_X11_readKind (a1 : Int32) (a2 : Int32) (σ : gz_S) : Option (Option Unit × gz_S) :=
  gz_tcall (f_X11_needSort 2 σ) (fun r1 σ2 =>
  gz_v (σ2.2.1 0 0 20) (fun v3 =>
  gz_call (f_X11_word 0 σ2) (fun r5 σ4 =>
  gz_j1 (f_X11_readKind_J70 v3 a2 a1) (fun j70 =>
  gz_j0 (f_X11_readKind_J65 j70) (fun j65 =>
  if (lg_cmp v3 r5) = 0 then
  (j65 σ4)
  else
  (gz_call (f_X11_word 1 σ4) (fun r51 σ50 =>
  if (lg_cmp v3 r51) = 0 then
  (j65 σ50)
  else
  (gz_call (f_X11_word 2 σ50) (fun r53 σ52 =>
  if (lg_cmp v3 r53) = 0 then
  (j65 σ52)
  else
  (gz_call (f_X11_word 3 σ52) (fun r55 σ54 =>
  if (lg_cmp v3 r55) = 0 then
  (j65 σ54)
  else
  (gz_call (f_X11_word 4 σ54) (fun r57 σ56 =>
  if (lg_cmp v3 r57) = 0 then
  (j65 σ56)
  else
  (j70 0 σ56))))))))))))))
set_option maxHeartbeats 4000000 in
set_option maxRecDepth 100000 in
theorem c_X11_readKind (l : Launch) (G : gz_G) (a1 : Int32) (a2 : Int32) (σ : gz_S) : ∀ o, f_X11_readKind a1 a2 σ = some o → gz_MT l true G yX11_readKind (.code yX11_readKind cX11_readKind 6 none) { frames := 6, cells := 0, slots := 0, locals := 131 } [.ref (gz_ad true G 0 0), .int a1, .int a2] σ ((gz_te G gz_ev0) o) 0 0 := by
  refine gz_enterT RX11 rfl (by decide) (Nat.le_of_ble_eq_true rfl) ?_
  intro p e s m args below meth c C hE
  refine gz_eqs (st' := []) (lv' := [(0, .ref (gz_ad true G 0 0)), (1, .int a1), (2, .int a2)]) rfl rfl ?_
  unfold f_X11_readKind
  refine gz_aload_n C dX11_readKind_0 0 rfl ?_
  refine gz_iconst C dX11_readKind_1 gk_iconst_2 ?_
  refine gz_kt C hE (gz_runVT (t := 0) (ci := 11) (q := (RX11, TX11, 63)) (As := [.int 2]) (rest := []) C dX11_readKind_2 ml_RX11_270 (gz_mt_code mw_X11_needSort) mv_X11_needSort (c_X11_needSort l G 2 σ) (gz_hm0 _) rfl rfl rfl rfl rfl (Nat.le_of_ble_eq_true rfl) ⟨rfl, rfl, Nat.le_of_ble_eq_true rfl, Nat.le_of_ble_eq_true rfl, Nat.le_of_ble_eq_true rfl, Nat.le_of_ble_eq_true rfl⟩) (fun r1 σ2 => ?_)
  refine gz_eqs (st' := []) (lv' := [(0, .ref (gz_ad true G 0 0)), (1, .int a1), (2, .int a2)]) rfl rfl ?_
  refine gz_aload_n C dX11_readKind_5 0 rfl ?_
  refine gz_get C (t := 0) (k := 20) (ci := 11) (q := (RX11, TX11, 63)) (v := .long (σ2.2.1 0 0 20)) dX11_readKind_6 fl_RX11_232 (gz_hm0 _) rfl rfl (by decide) rfl ?_
  refine gz_topJ (fun v3 => ?_)
  refine gz_lstore_n C (lv' := [(3, .long v3), (0, .ref (gz_ad true G 0 0)), (1, .int a1), (2, .int a2)]) dX11_readKind_9 (by decide) rfl ?_
  refine gz_lload_n C dX11_readKind_10 0 rfl ?_
  refine gz_ldcS C 0 (by decide) rfl dX11_readKind_11 ?_
  refine gz_kl (gz_runS (As := [.ref (G.2.2.2.2.1 0)]) (rest := [.long v3]) C dX11_readKind_14 ml_RX11_287 mw_X11_word ms_X11_word (c_X11_word l G 0 (by decide) σ2) rfl rfl (Nat.le_of_ble_eq_true rfl) ⟨rfl, rfl, Nat.le_of_ble_eq_true rfl, Nat.le_of_ble_eq_true rfl, Nat.le_of_ble_eq_true rfl, Nat.le_of_ble_eq_true rfl⟩) (fun r5 σ4 => ?_)
  refine gz_lcmp C dX11_readKind_17 ?_
  refine gz_j1_row (P := fun x6 σ7 x => gz_W true p l e ({ frames := 6, cells := 0, slots := 0, locals := 131 } : Room) s m args below meth c G 6 (gz_QT true G below args s 0 0 (gz_te G gz_ev0)) 0 0 σ7 70 [(0, .ref (gz_ad true G 0 0)), (1, .int a1), (2, .int a2), (3, .long v3)] [.int x6] x) (fun x6 σ7 => ?_) (fun j70 hj70 => ?_)
  · unfold f_X11_readKind_J70
    refine gz_istore C (lv' := [(5, .int x6), (0, .ref (gz_ad true G 0 0)), (1, .int a1), (2, .int a2), (3, .long v3)]) dX11_readKind_70 (by decide) rfl ?_
    refine gz_iload C dX11_readKind_72 0 rfl ?_
    refine gz_if_ne (tgt := 87) C dX11_readKind_74 (by decide) ?_ ?_
    · skip
      refine gz_aload_n C dX11_readKind_87 1 rfl ?_
      refine gz_kv (gz_runV (t := 0) (ci := 11) (q := (RX11, TX11, 63)) (As := []) (rest := []) C dX11_readKind_88 ml_RX11_252 mw_X11_next mv_X11_next (c_X11_next l G σ7) (gz_hm0 _) rfl rfl rfl rfl rfl (Nat.le_of_ble_eq_true rfl) ⟨rfl, rfl, Nat.le_of_ble_eq_true rfl, Nat.le_of_ble_eq_true rfl, Nat.le_of_ble_eq_true rfl, Nat.le_of_ble_eq_true rfl⟩) (fun σ8 => ?_)
      refine gz_lload_n C dX11_readKind_91 4 rfl ?_
      refine gz_ldcS C 0 (by decide) rfl dX11_readKind_92 ?_
      refine gz_kl (gz_runS (As := [.ref (G.2.2.2.2.1 0)]) (rest := [.long v3]) C dX11_readKind_95 ml_RX11_287 mw_X11_word ms_X11_word (c_X11_word l G 0 (by decide) σ8) rfl rfl (Nat.le_of_ble_eq_true rfl) ⟨rfl, rfl, Nat.le_of_ble_eq_true rfl, Nat.le_of_ble_eq_true rfl, Nat.le_of_ble_eq_true rfl, Nat.le_of_ble_eq_true rfl⟩) (fun r10 σ9 => ?_)
      refine gz_lcmp C dX11_readKind_98 ?_
      refine gz_if_ne (tgt := 186) C dX11_readKind_99 (by decide) ?_ ?_
      · skip
        refine gz_lload_n C dX11_readKind_186 4 rfl ?_
        refine gz_ldcS C 3 (by decide) rfl dX11_readKind_187 ?_
        refine gz_kl (gz_runS (As := [.ref (G.2.2.2.2.1 3)]) (rest := [.long v3]) C dX11_readKind_190 ml_RX11_287 mw_X11_word ms_X11_word (c_X11_word l G 3 (by decide) σ9) rfl rfl (Nat.le_of_ble_eq_true rfl) ⟨rfl, rfl, Nat.le_of_ble_eq_true rfl, Nat.le_of_ble_eq_true rfl, Nat.le_of_ble_eq_true rfl, Nat.le_of_ble_eq_true rfl⟩) (fun r12 σ11 => ?_)
        refine gz_lcmp C dX11_readKind_193 ?_
        refine gz_if_ne (tgt := 212) C dX11_readKind_194 (by decide) ?_ ?_
        · skip
          refine gz_lload_n C dX11_readKind_212 4 rfl ?_
          refine gz_ldcS C 4 (by decide) rfl dX11_readKind_213 ?_
          refine gz_kl (gz_runS (As := [.ref (G.2.2.2.2.1 4)]) (rest := [.long v3]) C dX11_readKind_216 ml_RX11_287 mw_X11_word ms_X11_word (c_X11_word l G 4 (by decide) σ11) rfl rfl (Nat.le_of_ble_eq_true rfl) ⟨rfl, rfl, Nat.le_of_ble_eq_true rfl, Nat.le_of_ble_eq_true rfl, Nat.le_of_ble_eq_true rfl, Nat.le_of_ble_eq_true rfl⟩) (fun r14 σ13 => ?_)
          refine gz_lcmp C dX11_readKind_219 ?_
          refine gz_if_ne (tgt := 232) C dX11_readKind_220 (by decide) ?_ ?_
          · skip
            refine gz_aload_n C dX11_readKind_232 1 rfl ?_
            refine gz_get C (t := 0) (k := 23) (ci := 11) (q := (RX11, TX11, 63)) (v := .ref (gz_ad true G 9 0)) dX11_readKind_233 fl_RX11_50 (gz_hm0 _) rfl rfl (by decide) rfl ?_
            refine gz_iload_n C dX11_readKind_236 3 rfl ?_
            refine gz_lload_n C dX11_readKind_237 4 rfl ?_
            refine gz_ldcS C 1 (by decide) rfl dX11_readKind_238 ?_
            refine gz_kl (gz_runS (As := [.ref (G.2.2.2.2.1 1)]) (rest := [.long v3, .int a2, .ref (gz_ad true G 9 0)]) C dX11_readKind_241 ml_RX11_287 mw_X11_word ms_X11_word (c_X11_word l G 1 (by decide) σ13) rfl rfl (Nat.le_of_ble_eq_true rfl) ⟨rfl, rfl, Nat.le_of_ble_eq_true rfl, Nat.le_of_ble_eq_true rfl, Nat.le_of_ble_eq_true rfl, Nat.le_of_ble_eq_true rfl⟩) (fun r16 σ15 => ?_)
            refine gz_lcmp C dX11_readKind_244 ?_
            refine gz_if_ne (tgt := 252) C dX11_readKind_245 (by decide) ?_ ?_
            · skip
              refine gz_iconst C dX11_readKind_252 gk_iconst_2 ?_
              refine gz_iast C (t := 9) dX11_readKind_253 (gz_hm9 _) rfl (fun n17 hn17 => ?_)
              refine gz_w_row (fun σ18 => ?_)
              exact gz_vretT C rfl dX11_readKind_254
            · skip
              refine gz_iconst C dX11_readKind_248 gk_iconst_1 ?_
              refine gz_goto (tgt := 253) C dX11_readKind_249 (by decide) ?_
              refine gz_iast C (t := 9) dX11_readKind_253 (gz_hm9 _) rfl (fun n19 hn19 => ?_)
              refine gz_w_row (fun σ20 => ?_)
              exact gz_vretT C rfl dX11_readKind_254
          · skip
            refine gz_aload_n C dX11_readKind_223 1 rfl ?_
            refine gz_iload_n C dX11_readKind_224 2 rfl ?_
            refine gz_iload_n C dX11_readKind_225 3 rfl ?_
            refine gz_kt C hE (gz_runVT (t := 0) (ci := 11) (q := (RX11, TX11, 63)) (As := [.int a1, .int a2]) (rest := []) C dX11_readKind_226 ml_RX11_301 (gz_mt_code mw_X11_readSpan) mv_X11_readSpan (c_X11_readSpan l G a1 a2 σ13) (gz_hm0 _) rfl rfl rfl rfl rfl (Nat.le_of_ble_eq_true rfl) ⟨rfl, rfl, Nat.le_of_ble_eq_true rfl, Nat.le_of_ble_eq_true rfl, Nat.le_of_ble_eq_true rfl, Nat.le_of_ble_eq_true rfl⟩) (fun r21 σ22 => ?_)
            refine gz_eqs (st' := []) (lv' := [(5, .int x6), (0, .ref (gz_ad true G 0 0)), (1, .int a1), (2, .int a2), (3, .long v3)]) rfl rfl ?_
            refine gz_goto (tgt := 254) C dX11_readKind_229 (by decide) ?_
            exact gz_vretT C rfl dX11_readKind_254
        · skip
          refine gz_aload_n C dX11_readKind_197 1 rfl ?_
          refine gz_get C (t := 0) (k := 23) (ci := 11) (q := (RX11, TX11, 63)) (v := .ref (gz_ad true G 9 0)) dX11_readKind_198 fl_RX11_50 (gz_hm0 _) rfl rfl (by decide) rfl ?_
          refine gz_iload_n C dX11_readKind_201 3 rfl ?_
          refine gz_iconst C dX11_readKind_202 gk_iconst_3 ?_
          refine gz_iast C (t := 9) dX11_readKind_203 (gz_hm9 _) rfl (fun n23 hn23 => ?_)
          refine gz_w_row (fun σ24 => ?_)
          refine gz_aload_n C dX11_readKind_204 1 rfl ?_
          refine gz_iload_n C dX11_readKind_205 3 rfl ?_
          refine gz_kt C hE (gz_runVT (t := 0) (ci := 11) (q := (RX11, TX11, 63)) (As := [.int a2]) (rest := []) C dX11_readKind_206 ml_RX11_298 (gz_mt_code mw_X11_readChoices) mv_X11_readChoices (c_X11_readChoices l G a2 σ24) (gz_hm0 _) rfl rfl rfl rfl rfl (Nat.le_of_ble_eq_true rfl) ⟨rfl, rfl, Nat.le_of_ble_eq_true rfl, Nat.le_of_ble_eq_true rfl, Nat.le_of_ble_eq_true rfl, Nat.le_of_ble_eq_true rfl⟩) (fun r25 σ26 => ?_)
          refine gz_eqs (st' := []) (lv' := [(5, .int x6), (0, .ref (gz_ad true G 0 0)), (1, .int a1), (2, .int a2), (3, .long v3)]) rfl rfl ?_
          refine gz_goto (tgt := 254) C dX11_readKind_209 (by decide) ?_
          exact gz_vretT C rfl dX11_readKind_254
      · skip
        refine gz_aload_n C dX11_readKind_102 1 rfl ?_
        refine gz_get C (t := 0) (k := 23) (ci := 11) (q := (RX11, TX11, 63)) (v := .ref (gz_ad true G 9 0)) dX11_readKind_103 fl_RX11_50 (gz_hm0 _) rfl rfl (by decide) rfl ?_
        refine gz_iload_n C dX11_readKind_106 3 rfl ?_
        refine gz_iconst C dX11_readKind_107 gk_iconst_0 ?_
        refine gz_iast C (t := 9) dX11_readKind_108 (gz_hm9 _) rfl (fun n27 hn27 => ?_)
        refine gz_w_row (fun σ28 => ?_)
        refine gz_aload_n C dX11_readKind_109 1 rfl ?_
        refine gz_iconst C dX11_readKind_110 gk_iconst_3 ?_
        refine gz_kt C hE (gz_runVT (t := 0) (ci := 11) (q := (RX11, TX11, 63)) (As := [.int 3]) (rest := []) C dX11_readKind_111 ml_RX11_270 (gz_mt_code mw_X11_needSort) mv_X11_needSort (c_X11_needSort l G 3 σ28) (gz_hm0 _) rfl rfl rfl rfl rfl (Nat.le_of_ble_eq_true rfl) ⟨rfl, rfl, Nat.le_of_ble_eq_true rfl, Nat.le_of_ble_eq_true rfl, Nat.le_of_ble_eq_true rfl, Nat.le_of_ble_eq_true rfl⟩) (fun r29 σ30 => ?_)
        refine gz_eqs (st' := []) (lv' := [(5, .int x6), (0, .ref (gz_ad true G 0 0)), (1, .int a1), (2, .int a2), (3, .long v3)]) rfl rfl ?_
        refine gz_aload_n C dX11_readKind_114 1 rfl ?_
        refine gz_get C (t := 0) (k := 24) (ci := 11) (q := (RX11, TX11, 63)) (v := .ref (gz_ad true G 10 0)) dX11_readKind_115 fl_RX11_53 (gz_hm0 _) rfl rfl (by decide) rfl ?_
        refine gz_iload_n C dX11_readKind_118 3 rfl ?_
        refine gz_aload_n C dX11_readKind_119 1 rfl ?_
        refine gz_get C (t := 0) (k := 20) (ci := 11) (q := (RX11, TX11, 63)) (v := .long (σ30.2.1 0 0 20)) dX11_readKind_120 fl_RX11_232 (gz_hm0 _) rfl rfl (by decide) rfl ?_
        refine gz_l2i C dX11_readKind_123 ?_
        refine gz_iast C (t := 10) dX11_readKind_124 (gz_hm10 _) rfl (fun n31 hn31 => ?_)
        refine gz_w_row (fun σ32 => ?_)
        refine gz_aload_n C dX11_readKind_125 1 rfl ?_
        refine gz_kv (gz_runV (t := 0) (ci := 11) (q := (RX11, TX11, 63)) (As := []) (rest := []) C dX11_readKind_126 ml_RX11_252 mw_X11_next mv_X11_next (c_X11_next l G σ32) (gz_hm0 _) rfl rfl rfl rfl rfl (Nat.le_of_ble_eq_true rfl) ⟨rfl, rfl, Nat.le_of_ble_eq_true rfl, Nat.le_of_ble_eq_true rfl, Nat.le_of_ble_eq_true rfl, Nat.le_of_ble_eq_true rfl⟩) (fun σ33 => ?_)
        refine gz_aload_n C dX11_readKind_129 1 rfl ?_
        refine gz_iconst C dX11_readKind_130 gk_iconst_4 ?_
        refine gz_kt C hE (gz_runVT (t := 0) (ci := 11) (q := (RX11, TX11, 63)) (As := [.int 4]) (rest := []) C dX11_readKind_131 ml_RX11_270 (gz_mt_code mw_X11_needSort) mv_X11_needSort (c_X11_needSort l G 4 σ33) (gz_hm0 _) rfl rfl rfl rfl rfl (Nat.le_of_ble_eq_true rfl) ⟨rfl, rfl, Nat.le_of_ble_eq_true rfl, Nat.le_of_ble_eq_true rfl, Nat.le_of_ble_eq_true rfl, Nat.le_of_ble_eq_true rfl⟩) (fun r34 σ35 => ?_)
        refine gz_eqs (st' := []) (lv' := [(5, .int x6), (0, .ref (gz_ad true G 0 0)), (1, .int a1), (2, .int a2), (3, .long v3)]) rfl rfl ?_
        refine gz_aload_n C dX11_readKind_134 1 rfl ?_
        refine gz_kv (gz_runV (t := 0) (ci := 11) (q := (RX11, TX11, 63)) (As := []) (rest := []) C dX11_readKind_135 ml_RX11_252 mw_X11_next mv_X11_next (c_X11_next l G σ35) (gz_hm0 _) rfl rfl rfl rfl rfl (Nat.le_of_ble_eq_true rfl) ⟨rfl, rfl, Nat.le_of_ble_eq_true rfl, Nat.le_of_ble_eq_true rfl, Nat.le_of_ble_eq_true rfl, Nat.le_of_ble_eq_true rfl⟩) (fun σ36 => ?_)
        refine gz_aload_n C dX11_readKind_138 1 rfl ?_
        refine gz_iconst C dX11_readKind_139 gk_iconst_3 ?_
        refine gz_kt C hE (gz_runVT (t := 0) (ci := 11) (q := (RX11, TX11, 63)) (As := [.int 3]) (rest := []) C dX11_readKind_140 ml_RX11_270 (gz_mt_code mw_X11_needSort) mv_X11_needSort (c_X11_needSort l G 3 σ36) (gz_hm0 _) rfl rfl rfl rfl rfl (Nat.le_of_ble_eq_true rfl) ⟨rfl, rfl, Nat.le_of_ble_eq_true rfl, Nat.le_of_ble_eq_true rfl, Nat.le_of_ble_eq_true rfl, Nat.le_of_ble_eq_true rfl⟩) (fun r37 σ38 => ?_)
        refine gz_eqs (st' := []) (lv' := [(5, .int x6), (0, .ref (gz_ad true G 0 0)), (1, .int a1), (2, .int a2), (3, .long v3)]) rfl rfl ?_
        refine gz_aload_n C dX11_readKind_143 1 rfl ?_
        refine gz_get C (t := 0) (k := 20) (ci := 11) (q := (RX11, TX11, 63)) (v := .long (σ38.2.1 0 0 20)) dX11_readKind_144 fl_RX11_232 (gz_hm0 _) rfl rfl (by decide) rfl ?_
        refine gz_aload_n C dX11_readKind_147 1 rfl ?_
        refine gz_get C (t := 0) (k := 24) (ci := 11) (q := (RX11, TX11, 63)) (v := .ref (gz_ad true G 10 0)) dX11_readKind_148 fl_RX11_53 (gz_hm0 _) rfl rfl (by decide) rfl ?_
        refine gz_iload_n C dX11_readKind_151 3 rfl ?_
        refine gz_iald C (t := 10) dX11_readKind_152 (gz_hm10 _) rfl (fun n39 hn39 => ?_)
        refine gz_i2l C dX11_readKind_153 ?_
        refine gz_lcmp C dX11_readKind_154 ?_
        refine gz_if_ge (tgt := 168) C dX11_readKind_155 (by decide) ?_ ?_
        · skip
          refine gz_aload_n C dX11_readKind_168 1 rfl ?_
          refine gz_get C (t := 0) (k := 25) (ci := 11) (q := (RX11, TX11, 63)) (v := .ref (gz_ad true G 11 0)) dX11_readKind_169 fl_RX11_56 (gz_hm0 _) rfl rfl (by decide) rfl ?_
          refine gz_iload_n C dX11_readKind_172 3 rfl ?_
          refine gz_aload_n C dX11_readKind_173 1 rfl ?_
          refine gz_get C (t := 0) (k := 20) (ci := 11) (q := (RX11, TX11, 63)) (v := .long (σ38.2.1 0 0 20)) dX11_readKind_174 fl_RX11_232 (gz_hm0 _) rfl rfl (by decide) rfl ?_
          refine gz_l2i C dX11_readKind_177 ?_
          refine gz_iast C (t := 11) dX11_readKind_178 (gz_hm11 _) rfl (fun n40 hn40 => ?_)
          refine gz_w_row (fun σ41 => ?_)
          refine gz_aload_n C dX11_readKind_179 1 rfl ?_
          refine gz_kv (gz_runV (t := 0) (ci := 11) (q := (RX11, TX11, 63)) (As := []) (rest := []) C dX11_readKind_180 ml_RX11_252 mw_X11_next mv_X11_next (c_X11_next l G σ41) (gz_hm0 _) rfl rfl rfl rfl rfl (Nat.le_of_ble_eq_true rfl) ⟨rfl, rfl, Nat.le_of_ble_eq_true rfl, Nat.le_of_ble_eq_true rfl, Nat.le_of_ble_eq_true rfl, Nat.le_of_ble_eq_true rfl⟩) (fun σ42 => ?_)
          refine gz_goto (tgt := 254) C dX11_readKind_183 (by decide) ?_
          exact gz_vretT C rfl dX11_readKind_254
        · skip
          refine gz_aload_n C dX11_readKind_158 1 rfl ?_
          refine gz_iconst C dX11_readKind_159 gk_iconst_4 ?_
          refine gz_aload_n C dX11_readKind_160 1 rfl ?_
          refine gz_get C (t := 0) (k := 18) (ci := 11) (q := (RX11, TX11, 63)) (v := .int (σ38.1 0 0 18)) dX11_readKind_161 fl_RX11_225 (gz_hm0 _) rfl rfl (by decide) rfl ?_
          refine gz_kr (t := 6) (gz_runV (t := 0) (ci := 11) (q := (RX11, TX11, 63)) (As := [.int 4, .int (σ38.1 0 0 18)]) (rest := []) C dX11_readKind_164 ml_RX11_249 mw_X11_stop mv_X11_stop (c_X11_stop l G 4 (σ38.1 0 0 18) σ38) (gz_hm0 _) rfl rfl rfl rfl rfl (Nat.le_of_ble_eq_true rfl) ⟨rfl, rfl, Nat.le_of_ble_eq_true rfl, Nat.le_of_ble_eq_true rfl, Nat.le_of_ble_eq_true rfl, Nat.le_of_ble_eq_true rfl⟩) (fun r44 σ43 => ?_)
          refine gz_nn (fun i45 hi45 hr => ?_)
          subst hr
          refine gz_eqs (st' := [.ref (gz_ad true G 6 i45)]) (lv' := [(5, .int x6), (0, .ref (gz_ad true G 0 0)), (1, .int a1), (2, .int a2), (3, .long v3)]) rfl rfl ?_
          exact gz_athrow C hE dX11_readKind_167
    · skip
      refine gz_aload_n C dX11_readKind_77 1 rfl ?_
      refine gz_iconst C dX11_readKind_78 gk_iconst_1 ?_
      refine gz_aload_n C dX11_readKind_79 1 rfl ?_
      refine gz_get C (t := 0) (k := 18) (ci := 11) (q := (RX11, TX11, 63)) (v := .int (σ7.1 0 0 18)) dX11_readKind_80 fl_RX11_225 (gz_hm0 _) rfl rfl (by decide) rfl ?_
      refine gz_kr (t := 6) (gz_runV (t := 0) (ci := 11) (q := (RX11, TX11, 63)) (As := [.int 1, .int (σ7.1 0 0 18)]) (rest := []) C dX11_readKind_83 ml_RX11_249 mw_X11_stop mv_X11_stop (c_X11_stop l G 1 (σ7.1 0 0 18) σ7) (gz_hm0 _) rfl rfl rfl rfl rfl (Nat.le_of_ble_eq_true rfl) ⟨rfl, rfl, Nat.le_of_ble_eq_true rfl, Nat.le_of_ble_eq_true rfl, Nat.le_of_ble_eq_true rfl, Nat.le_of_ble_eq_true rfl⟩) (fun r47 σ46 => ?_)
      refine gz_nn (fun i48 hi48 hr => ?_)
      subst hr
      refine gz_eqs (st' := [.ref (gz_ad true G 6 i48)]) (lv' := [(5, .int x6), (0, .ref (gz_ad true G 0 0)), (1, .int a1), (2, .int a2), (3, .long v3)]) rfl rfl ?_
      exact gz_athrow C hE dX11_readKind_86
  · skip
    refine gz_j0_row (P := fun σ49 x => gz_W true p l e ({ frames := 6, cells := 0, slots := 0, locals := 131 } : Room) s m args below meth c G 6 (gz_QT true G below args s 0 0 (gz_te G gz_ev0)) 0 0 σ49 65 [(0, .ref (gz_ad true G 0 0)), (1, .int a1), (2, .int a2), (3, .long v3)] [] x) (fun σ49 => ?_) (fun j65 hj65 => ?_)
    · unfold f_X11_readKind_J65
      refine gz_iconst C dX11_readKind_65 gk_iconst_1 ?_
      refine gz_goto (tgt := 70) C dX11_readKind_66 (by decide) ?_
      exact hj70 1 σ49
    · skip
      refine gz_if_eq (tgt := 65) C dX11_readKind_18 (by decide) ?_ ?_
      · skip
        refine gz_lv (lv' := [(0, .ref (gz_ad true G 0 0)), (1, .int a1), (2, .int a2), (3, .long v3)]) [1, 2, 3, 0] rfl ?_
        exact hj65 σ4
      · skip
        refine gz_lload_n C dX11_readKind_21 0 rfl ?_
        refine gz_ldcS C 1 (by decide) rfl dX11_readKind_22 ?_
        refine gz_kl (gz_runS (As := [.ref (G.2.2.2.2.1 1)]) (rest := [.long v3]) C dX11_readKind_25 ml_RX11_287 mw_X11_word ms_X11_word (c_X11_word l G 1 (by decide) σ4) rfl rfl (Nat.le_of_ble_eq_true rfl) ⟨rfl, rfl, Nat.le_of_ble_eq_true rfl, Nat.le_of_ble_eq_true rfl, Nat.le_of_ble_eq_true rfl, Nat.le_of_ble_eq_true rfl⟩) (fun r51 σ50 => ?_)
        refine gz_lcmp C dX11_readKind_28 ?_
        refine gz_if_eq (tgt := 65) C dX11_readKind_29 (by decide) ?_ ?_
        · skip
          refine gz_lv (lv' := [(0, .ref (gz_ad true G 0 0)), (1, .int a1), (2, .int a2), (3, .long v3)]) [1, 2, 3, 0] rfl ?_
          exact hj65 σ50
        · skip
          refine gz_lload_n C dX11_readKind_32 0 rfl ?_
          refine gz_ldcS C 2 (by decide) rfl dX11_readKind_33 ?_
          refine gz_kl (gz_runS (As := [.ref (G.2.2.2.2.1 2)]) (rest := [.long v3]) C dX11_readKind_36 ml_RX11_287 mw_X11_word ms_X11_word (c_X11_word l G 2 (by decide) σ50) rfl rfl (Nat.le_of_ble_eq_true rfl) ⟨rfl, rfl, Nat.le_of_ble_eq_true rfl, Nat.le_of_ble_eq_true rfl, Nat.le_of_ble_eq_true rfl, Nat.le_of_ble_eq_true rfl⟩) (fun r53 σ52 => ?_)
          refine gz_lcmp C dX11_readKind_39 ?_
          refine gz_if_eq (tgt := 65) C dX11_readKind_40 (by decide) ?_ ?_
          · skip
            refine gz_lv (lv' := [(0, .ref (gz_ad true G 0 0)), (1, .int a1), (2, .int a2), (3, .long v3)]) [1, 2, 3, 0] rfl ?_
            exact hj65 σ52
          · skip
            refine gz_lload_n C dX11_readKind_43 0 rfl ?_
            refine gz_ldcS C 3 (by decide) rfl dX11_readKind_44 ?_
            refine gz_kl (gz_runS (As := [.ref (G.2.2.2.2.1 3)]) (rest := [.long v3]) C dX11_readKind_47 ml_RX11_287 mw_X11_word ms_X11_word (c_X11_word l G 3 (by decide) σ52) rfl rfl (Nat.le_of_ble_eq_true rfl) ⟨rfl, rfl, Nat.le_of_ble_eq_true rfl, Nat.le_of_ble_eq_true rfl, Nat.le_of_ble_eq_true rfl, Nat.le_of_ble_eq_true rfl⟩) (fun r55 σ54 => ?_)
            refine gz_lcmp C dX11_readKind_50 ?_
            refine gz_if_eq (tgt := 65) C dX11_readKind_51 (by decide) ?_ ?_
            · skip
              refine gz_lv (lv' := [(0, .ref (gz_ad true G 0 0)), (1, .int a1), (2, .int a2), (3, .long v3)]) [1, 2, 3, 0] rfl ?_
              exact hj65 σ54
            · skip
              refine gz_lload_n C dX11_readKind_54 0 rfl ?_
              refine gz_ldcS C 4 (by decide) rfl dX11_readKind_55 ?_
              refine gz_kl (gz_runS (As := [.ref (G.2.2.2.2.1 4)]) (rest := [.long v3]) C dX11_readKind_58 ml_RX11_287 mw_X11_word ms_X11_word (c_X11_word l G 4 (by decide) σ54) rfl rfl (Nat.le_of_ble_eq_true rfl) ⟨rfl, rfl, Nat.le_of_ble_eq_true rfl, Nat.le_of_ble_eq_true rfl, Nat.le_of_ble_eq_true rfl, Nat.le_of_ble_eq_true rfl⟩) (fun r57 σ56 => ?_)
              refine gz_lcmp C dX11_readKind_61 ?_
              refine gz_if_ne (tgt := 69) C dX11_readKind_62 (by decide) ?_ ?_
              · skip
                refine gz_iconst C dX11_readKind_69 gk_iconst_0 ?_
                refine gz_lv (lv' := [(0, .ref (gz_ad true G 0 0)), (1, .int a1), (2, .int a2), (3, .long v3)]) [1, 2, 3, 0] rfl ?_
                exact hj70 0 σ56
              · skip
                refine gz_lv (lv' := [(0, .ref (gz_ad true G 0 0)), (1, .int a1), (2, .int a2), (3, .long v3)]) [1, 2, 3, 0] rfl ?_
                exact hj65 σ56

def f_X11_readForm_J57 : gz_S → Option (Option Unit × gz_S) := fun σ4 =>
  gz_call (f_X11_stop 5 (σ4.1 0 0 18) σ4) (fun r6 σ5 =>
  gz_nl r6 1 none (fun i7 =>
  some (none, σ5)))
def f_X11_readForm_J36 : gz_S → Option (Option Unit × gz_S) := fun σ8 =>
  gz_call (f_X11_stop 3 (σ8.1 0 0 18) σ8) (fun r10 σ9 =>
  gz_nl r10 1 none (fun i11 =>
  some (none, σ9)))
def f_X11_readForm_J181 (r42 : Int32) (rec14 : Int32 → gz_S → Option (Option Unit × gz_S)) : gz_S → Option (Option Unit × gz_S) := fun σ43 =>
  rec14 r42 σ43
def f_X11_readForm_J156 (v1 : Int32) (rec14 : Int32 → gz_S → Option (Option Unit × gz_S)) : gz_S → Option (Option Unit × gz_S) := fun σ37 =>
  gz_ix v1 13 (fun n38 =>
  gz_ix v1 13 (fun n39 =>
  gz_w (gz_si σ37 8 0 n39 ((σ37.1 8 0 n38) + 1)) (fun σ40 =>
  gz_call (f_X11_is 59 σ40) (fun r42 σ41 =>
  gz_j0 (f_X11_readForm_J181 r42 rec14) (fun j181 =>
  if r42 = 0 then
  (j181 σ41)
  else
  (gz_then (f_X11_next σ41) (fun σ44 =>
  j181 σ44)))))))
def f_X11_readForm_L14 (v1 : Int32) (j57 : gz_S → Option (Option Unit × gz_S)) (j36 : gz_S → Option (Option Unit × gz_S)) : (Int32 → gz_S → Option (Option Unit × gz_S)) → Int32 → gz_S → Option (Option Unit × gz_S) := fun rec14 v12 σ13 =>
  if v12 = 0 then
  (gz_tcall (f_X11_needSort 1 σ13) (fun r14 σ15 =>
  some (some (), σ15)))
  else
  (gz_tcall (f_X11_needSort 2 σ13) (fun r16 σ17 =>
  gz_call (f_X11_fieldOf v1 (σ17.2.1 0 0 20) σ17) (fun r19 σ18 =>
  if r19 = (-1) then
  (gz_ix v1 13 (fun n20 =>
  if (σ18.1 8 0 n20) = 8 then
  (j57 σ18)
  else
  (gz_ix v1 13 (fun n21 =>
  gz_v ((8 * v1) + (σ18.1 8 0 n21)) (fun v22 =>
  gz_ix v22 104 (fun n23 =>
  gz_w (gz_sj σ18 13 0 n23 (σ18.2.1 0 0 20)) (fun σ24 =>
  gz_ix v22 104 (fun n25 =>
  gz_w (gz_si σ24 10 0 n25 0) (fun σ26 =>
  gz_ix v22 104 (fun n27 =>
  gz_w (gz_si σ26 11 0 n27 0) (fun σ28 =>
  gz_ix v22 104 (fun n29 =>
  gz_w (gz_si σ28 12 0 n29 ((0 : Int32) &&& 1)) (fun σ30 =>
  gz_then (f_X11_next σ30) (fun σ31 =>
  gz_tcall (f_X11_need 58 σ31) (fun r32 σ33 =>
  gz_tcall (f_X11_readKind v1 v22 σ33) (fun r34 σ35 =>
  gz_ix v22 104 (fun n36 =>
  gz_j0 (f_X11_readForm_J156 v1 rec14) (fun j156 =>
  if 4 ≤ (σ35.1 9 0 n36) then
  (j156 σ35)
  else
  (gz_call (f_X11_is 63 σ35) (fun r46 σ45 =>
  if r46 = 0 then
  (j156 σ45)
  else
  (gz_ix v22 104 (fun n47 =>
  gz_w (gz_si σ45 12 0 n47 ((1 : Int32) &&& 1)) (fun σ48 =>
  gz_then (f_X11_next σ48) (fun σ49 =>
  j156 σ49))))))))))))))))))))))))
  else
  (j36 σ18))))
def f_X11_readForm (σ : gz_S) : Option (Option Unit × gz_S) :=
  gz_v (σ.1 0 0 21) (fun v1 =>
  gz_ix v1 13 (fun n2 =>
  gz_w (gz_si σ 8 0 n2 0) (fun σ3 =>
  gz_j0 (f_X11_readForm_J57) (fun j57 =>
  gz_j0 (f_X11_readForm_J36) (fun j36 =>
  gz_l1 (f_X11_readForm_L14 v1 j57 j36) gz_fu 1 σ3)))))
set_option maxHeartbeats 4000000 in
set_option maxRecDepth 100000 in
theorem c_X11_readForm (l : Launch) (G : gz_G) (σ : gz_S) : ∀ o, f_X11_readForm σ = some o → gz_MT l true G yX11_readForm (.code yX11_readForm cX11_readForm 4 none) { frames := 7, cells := 0, slots := 0, locals := 156 } [.ref (gz_ad true G 0 0)] σ ((gz_te G gz_ev0) o) 0 0 := by
  refine gz_enterT RX11 rfl (by decide) (Nat.le_of_ble_eq_true rfl) ?_
  intro p e s m args below meth c C hE
  refine gz_eqs (st' := []) (lv' := [(0, .ref (gz_ad true G 0 0))]) rfl rfl ?_
  unfold f_X11_readForm
  refine gz_aload_n C dX11_readForm_0 0 rfl ?_
  refine gz_get C (t := 0) (k := 21) (ci := 11) (q := (RX11, TX11, 63)) (v := .int (σ.1 0 0 21)) dX11_readForm_1 fl_RX11_170 (gz_hm0 _) rfl rfl (by decide) rfl ?_
  refine gz_topI (fun v1 => ?_)
  refine gz_istore_n C (lv' := [(1, .int v1), (0, .ref (gz_ad true G 0 0))]) dX11_readForm_4 (by decide) rfl ?_
  refine gz_aload_n C dX11_readForm_5 1 rfl ?_
  refine gz_get C (t := 0) (k := 22) (ci := 11) (q := (RX11, TX11, 63)) (v := .ref (gz_ad true G 8 0)) dX11_readForm_6 fl_RX11_47 (gz_hm0 _) rfl rfl (by decide) rfl ?_
  refine gz_iload_n C dX11_readForm_9 0 rfl ?_
  refine gz_iconst C dX11_readForm_10 gk_iconst_0 ?_
  refine gz_iast C (t := 8) dX11_readForm_11 (gz_hm8 _) rfl (fun n2 hn2 => ?_)
  refine gz_w_row (fun σ3 => ?_)
  refine gz_iconst C dX11_readForm_12 gk_iconst_1 ?_
  refine gz_istore_n C (lv' := [(2, .int 1), (1, .int v1), (0, .ref (gz_ad true G 0 0))]) dX11_readForm_13 (by decide) rfl ?_
  refine gz_j0_row (P := fun σ4 x => gz_W true p l e ({ frames := 7, cells := 0, slots := 0, locals := 156 } : Room) s m args below meth c G 4 (gz_QT true G below args s 0 0 (gz_te G gz_ev0)) 0 0 σ4 57 [(0, .ref (gz_ad true G 0 0))] [] x) (fun σ4 => ?_) (fun j57 hj57 => ?_)
  · unfold f_X11_readForm_J57
    refine gz_aload_n C dX11_readForm_57 0 rfl ?_
    refine gz_iconst C dX11_readForm_58 gk_iconst_5 ?_
    refine gz_aload_n C dX11_readForm_59 0 rfl ?_
    refine gz_get C (t := 0) (k := 18) (ci := 11) (q := (RX11, TX11, 63)) (v := .int (σ4.1 0 0 18)) dX11_readForm_60 fl_RX11_225 (gz_hm0 _) rfl rfl (by decide) rfl ?_
    refine gz_kr (t := 6) (gz_runV (t := 0) (ci := 11) (q := (RX11, TX11, 63)) (As := [.int 5, .int (σ4.1 0 0 18)]) (rest := []) C dX11_readForm_63 ml_RX11_249 mw_X11_stop mv_X11_stop (c_X11_stop l G 5 (σ4.1 0 0 18) σ4) (gz_hm0 _) rfl rfl rfl rfl rfl (Nat.le_of_ble_eq_true rfl) ⟨rfl, rfl, Nat.le_of_ble_eq_true rfl, Nat.le_of_ble_eq_true rfl, Nat.le_of_ble_eq_true rfl, Nat.le_of_ble_eq_true rfl⟩) (fun r6 σ5 => ?_)
    refine gz_nn (fun i7 hi7 hr => ?_)
    subst hr
    refine gz_eqs (st' := [.ref (gz_ad true G 6 i7)]) (lv' := [(0, .ref (gz_ad true G 0 0))]) rfl rfl ?_
    exact gz_athrow C hE dX11_readForm_66
  · skip
    refine gz_j0_row (P := fun σ8 x => gz_W true p l e ({ frames := 7, cells := 0, slots := 0, locals := 156 } : Room) s m args below meth c G 4 (gz_QT true G below args s 0 0 (gz_te G gz_ev0)) 0 0 σ8 36 [(0, .ref (gz_ad true G 0 0))] [] x) (fun σ8 => ?_) (fun j36 hj36 => ?_)
    · unfold f_X11_readForm_J36
      refine gz_aload_n C dX11_readForm_36 0 rfl ?_
      refine gz_iconst C dX11_readForm_37 gk_iconst_3 ?_
      refine gz_aload_n C dX11_readForm_38 0 rfl ?_
      refine gz_get C (t := 0) (k := 18) (ci := 11) (q := (RX11, TX11, 63)) (v := .int (σ8.1 0 0 18)) dX11_readForm_39 fl_RX11_225 (gz_hm0 _) rfl rfl (by decide) rfl ?_
      refine gz_kr (t := 6) (gz_runV (t := 0) (ci := 11) (q := (RX11, TX11, 63)) (As := [.int 3, .int (σ8.1 0 0 18)]) (rest := []) C dX11_readForm_42 ml_RX11_249 mw_X11_stop mv_X11_stop (c_X11_stop l G 3 (σ8.1 0 0 18) σ8) (gz_hm0 _) rfl rfl rfl rfl rfl (Nat.le_of_ble_eq_true rfl) ⟨rfl, rfl, Nat.le_of_ble_eq_true rfl, Nat.le_of_ble_eq_true rfl, Nat.le_of_ble_eq_true rfl, Nat.le_of_ble_eq_true rfl⟩) (fun r10 σ9 => ?_)
      refine gz_nn (fun i11 hi11 hr => ?_)
      subst hr
      refine gz_eqs (st' := [.ref (gz_ad true G 6 i11)]) (lv' := [(0, .ref (gz_ad true G 0 0))]) rfl rfl ?_
      exact gz_athrow C hE dX11_readForm_45
    · skip
      refine gz_lv (lv' := [(0, .ref (gz_ad true G 0 0)), (1, .int v1), (2, .int 1)]) [2, 1, 0] rfl ?_
      refine gz_l1_ind (P := fun v12 σ13 x => gz_W true p l e ({ frames := 7, cells := 0, slots := 0, locals := 156 } : Room) s m args below meth c G 4 (gz_QT true G below args s 0 0 (gz_te G gz_ev0)) 0 0 σ13 14 [(0, .ref (gz_ad true G 0 0)), (1, .int v1), (2, .int v12)] [] x) (fun _ _ => gz_none) (fun rec14 hrec14 v12 σ13 => ?_) gz_fu 1 σ3
      unfold f_X11_readForm_L14
      refine gz_iload_n C dX11_readForm_14 2 rfl ?_
      refine gz_if_eq (tgt := 184) C dX11_readForm_15 (by decide) ?_ ?_
      · skip
        refine gz_aload_n C dX11_readForm_184 0 rfl ?_
        refine gz_iconst C dX11_readForm_185 gk_iconst_1 ?_
        refine gz_kt C hE (gz_runVT (t := 0) (ci := 11) (q := (RX11, TX11, 63)) (As := [.int 1]) (rest := []) C dX11_readForm_186 ml_RX11_270 (gz_mt_code mw_X11_needSort) mv_X11_needSort (c_X11_needSort l G 1 σ13) (gz_hm0 _) rfl rfl rfl rfl rfl (Nat.le_of_ble_eq_true rfl) ⟨rfl, rfl, Nat.le_of_ble_eq_true rfl, Nat.le_of_ble_eq_true rfl, Nat.le_of_ble_eq_true rfl, Nat.le_of_ble_eq_true rfl⟩) (fun r14 σ15 => ?_)
        refine gz_eqs (st' := []) (lv' := [(0, .ref (gz_ad true G 0 0)), (1, .int v1), (2, .int v12)]) rfl rfl ?_
        exact gz_vretT C rfl dX11_readForm_189
      · skip
        refine gz_aload_n C dX11_readForm_18 0 rfl ?_
        refine gz_iconst C dX11_readForm_19 gk_iconst_2 ?_
        refine gz_kt C hE (gz_runVT (t := 0) (ci := 11) (q := (RX11, TX11, 63)) (As := [.int 2]) (rest := []) C dX11_readForm_20 ml_RX11_270 (gz_mt_code mw_X11_needSort) mv_X11_needSort (c_X11_needSort l G 2 σ13) (gz_hm0 _) rfl rfl rfl rfl rfl (Nat.le_of_ble_eq_true rfl) ⟨rfl, rfl, Nat.le_of_ble_eq_true rfl, Nat.le_of_ble_eq_true rfl, Nat.le_of_ble_eq_true rfl, Nat.le_of_ble_eq_true rfl⟩) (fun r16 σ17 => ?_)
        refine gz_eqs (st' := []) (lv' := [(0, .ref (gz_ad true G 0 0)), (1, .int v1), (2, .int v12)]) rfl rfl ?_
        refine gz_aload_n C dX11_readForm_23 0 rfl ?_
        refine gz_iload_n C dX11_readForm_24 1 rfl ?_
        refine gz_aload_n C dX11_readForm_25 0 rfl ?_
        refine gz_get C (t := 0) (k := 20) (ci := 11) (q := (RX11, TX11, 63)) (v := .long (σ17.2.1 0 0 20)) dX11_readForm_26 fl_RX11_232 (gz_hm0 _) rfl rfl (by decide) rfl ?_
        refine gz_ki (gz_runV (t := 0) (ci := 11) (q := (RX11, TX11, 63)) (As := [.int v1, .long (σ17.2.1 0 0 20)]) (rest := []) C dX11_readForm_29 ml_RX11_274 mw_X11_fieldOf mv_X11_fieldOf (c_X11_fieldOf l G v1 (σ17.2.1 0 0 20) σ17) (gz_hm0 _) rfl rfl rfl rfl rfl (Nat.le_of_ble_eq_true rfl) ⟨rfl, rfl, Nat.le_of_ble_eq_true rfl, Nat.le_of_ble_eq_true rfl, Nat.le_of_ble_eq_true rfl, Nat.le_of_ble_eq_true rfl⟩) (fun r19 σ18 => ?_)
        refine gz_iconst C dX11_readForm_32 gk_iconst_m1 ?_
        refine gz_icmp_eq (tgt := 46) C dX11_readForm_33 (by decide) ?_ ?_
        · skip
          refine gz_aload_n C dX11_readForm_46 0 rfl ?_
          refine gz_get C (t := 0) (k := 22) (ci := 11) (q := (RX11, TX11, 63)) (v := .ref (gz_ad true G 8 0)) dX11_readForm_47 fl_RX11_47 (gz_hm0 _) rfl rfl (by decide) rfl ?_
          refine gz_iload_n C dX11_readForm_50 1 rfl ?_
          refine gz_iald C (t := 8) dX11_readForm_51 (gz_hm8 _) rfl (fun n20 hn20 => ?_)
          refine gz_bipush C dX11_readForm_52 gk_bipush_8 ?_
          refine gz_icmp_ne (tgt := 67) C dX11_readForm_54 (by decide) ?_ ?_
          · skip
            refine gz_bipush C dX11_readForm_67 gk_bipush_8 ?_
            refine gz_iload_n C dX11_readForm_69 1 rfl ?_
            refine gz_imul C dX11_readForm_70 ?_
            refine gz_aload_n C dX11_readForm_71 0 rfl ?_
            refine gz_get C (t := 0) (k := 22) (ci := 11) (q := (RX11, TX11, 63)) (v := .ref (gz_ad true G 8 0)) dX11_readForm_72 fl_RX11_47 (gz_hm0 _) rfl rfl (by decide) rfl ?_
            refine gz_iload_n C dX11_readForm_75 1 rfl ?_
            refine gz_iald C (t := 8) dX11_readForm_76 (gz_hm8 _) rfl (fun n21 hn21 => ?_)
            refine gz_iadd C dX11_readForm_77 ?_
            refine gz_topI (fun v22 => ?_)
            refine gz_istore_n C (lv' := [(3, .int v22), (0, .ref (gz_ad true G 0 0)), (1, .int v1), (2, .int v12)]) dX11_readForm_78 (by decide) rfl ?_
            refine gz_aload_n C dX11_readForm_79 1 rfl ?_
            refine gz_get C (t := 0) (k := 27) (ci := 11) (q := (RX11, TX11, 63)) (v := .ref (gz_ad true G 13 0)) dX11_readForm_80 fl_RX11_62 (gz_hm0 _) rfl rfl (by decide) rfl ?_
            refine gz_iload_n C dX11_readForm_83 0 rfl ?_
            refine gz_aload_n C dX11_readForm_84 1 rfl ?_
            refine gz_get C (t := 0) (k := 20) (ci := 11) (q := (RX11, TX11, 63)) (v := .long (σ18.2.1 0 0 20)) dX11_readForm_85 fl_RX11_232 (gz_hm0 _) rfl rfl (by decide) rfl ?_
            refine gz_last C (t := 13) dX11_readForm_88 (gz_hm13 _) rfl (fun n23 hn23 => ?_)
            refine gz_w_row (fun σ24 => ?_)
            refine gz_aload_n C dX11_readForm_89 1 rfl ?_
            refine gz_get C (t := 0) (k := 24) (ci := 11) (q := (RX11, TX11, 63)) (v := .ref (gz_ad true G 10 0)) dX11_readForm_90 fl_RX11_53 (gz_hm0 _) rfl rfl (by decide) rfl ?_
            refine gz_iload_n C dX11_readForm_93 0 rfl ?_
            refine gz_iconst C dX11_readForm_94 gk_iconst_0 ?_
            refine gz_iast C (t := 10) dX11_readForm_95 (gz_hm10 _) rfl (fun n25 hn25 => ?_)
            refine gz_w_row (fun σ26 => ?_)
            refine gz_aload_n C dX11_readForm_96 1 rfl ?_
            refine gz_get C (t := 0) (k := 25) (ci := 11) (q := (RX11, TX11, 63)) (v := .ref (gz_ad true G 11 0)) dX11_readForm_97 fl_RX11_56 (gz_hm0 _) rfl rfl (by decide) rfl ?_
            refine gz_iload_n C dX11_readForm_100 0 rfl ?_
            refine gz_iconst C dX11_readForm_101 gk_iconst_0 ?_
            refine gz_iast C (t := 11) dX11_readForm_102 (gz_hm11 _) rfl (fun n27 hn27 => ?_)
            refine gz_w_row (fun σ28 => ?_)
            refine gz_aload_n C dX11_readForm_103 1 rfl ?_
            refine gz_get C (t := 0) (k := 26) (ci := 11) (q := (RX11, TX11, 63)) (v := .ref (gz_ad true G 12 0)) dX11_readForm_104 fl_RX11_59 (gz_hm0 _) rfl rfl (by decide) rfl ?_
            refine gz_iload_n C dX11_readForm_107 0 rfl ?_
            refine gz_iconst C dX11_readForm_108 gk_iconst_0 ?_
            refine gz_zast C (t := 12) dX11_readForm_109 (gz_hm12 _) rfl (fun n29 hn29 => ?_)
            refine gz_w_row (fun σ30 => ?_)
            refine gz_aload_n C dX11_readForm_110 1 rfl ?_
            refine gz_kv (gz_runV (t := 0) (ci := 11) (q := (RX11, TX11, 63)) (As := []) (rest := []) C dX11_readForm_111 ml_RX11_252 mw_X11_next mv_X11_next (c_X11_next l G σ30) (gz_hm0 _) rfl rfl rfl rfl rfl (Nat.le_of_ble_eq_true rfl) ⟨rfl, rfl, Nat.le_of_ble_eq_true rfl, Nat.le_of_ble_eq_true rfl, Nat.le_of_ble_eq_true rfl, Nat.le_of_ble_eq_true rfl⟩) (fun σ31 => ?_)
            refine gz_aload_n C dX11_readForm_114 1 rfl ?_
            refine gz_bipush C dX11_readForm_115 gk_bipush_58 ?_
            refine gz_kt C hE (gz_runVT (t := 0) (ci := 11) (q := (RX11, TX11, 63)) (As := [.int 58]) (rest := []) C dX11_readForm_117 ml_RX11_278 (gz_mt_code mw_X11_need) mv_X11_need (c_X11_need l G 58 σ31) (gz_hm0 _) rfl rfl rfl rfl rfl (Nat.le_of_ble_eq_true rfl) ⟨rfl, rfl, Nat.le_of_ble_eq_true rfl, Nat.le_of_ble_eq_true rfl, Nat.le_of_ble_eq_true rfl, Nat.le_of_ble_eq_true rfl⟩) (fun r32 σ33 => ?_)
            refine gz_eqs (st' := []) (lv' := [(3, .int v22), (0, .ref (gz_ad true G 0 0)), (1, .int v1), (2, .int v12)]) rfl rfl ?_
            refine gz_aload_n C dX11_readForm_120 1 rfl ?_
            refine gz_iload_n C dX11_readForm_121 2 rfl ?_
            refine gz_iload_n C dX11_readForm_122 0 rfl ?_
            refine gz_kt C hE (gz_runVT (t := 0) (ci := 11) (q := (RX11, TX11, 63)) (As := [.int v1, .int v22]) (rest := []) C dX11_readForm_123 ml_RX11_281 (gz_mt_code mw_X11_readKind) mv_X11_readKind (c_X11_readKind l G v1 v22 σ33) (gz_hm0 _) rfl rfl rfl rfl rfl (Nat.le_of_ble_eq_true rfl) ⟨rfl, rfl, Nat.le_of_ble_eq_true rfl, Nat.le_of_ble_eq_true rfl, Nat.le_of_ble_eq_true rfl, Nat.le_of_ble_eq_true rfl⟩) (fun r34 σ35 => ?_)
            refine gz_eqs (st' := []) (lv' := [(3, .int v22), (0, .ref (gz_ad true G 0 0)), (1, .int v1), (2, .int v12)]) rfl rfl ?_
            refine gz_aload_n C dX11_readForm_126 1 rfl ?_
            refine gz_get C (t := 0) (k := 23) (ci := 11) (q := (RX11, TX11, 63)) (v := .ref (gz_ad true G 9 0)) dX11_readForm_127 fl_RX11_50 (gz_hm0 _) rfl rfl (by decide) rfl ?_
            refine gz_iload_n C dX11_readForm_130 0 rfl ?_
            refine gz_iald C (t := 9) dX11_readForm_131 (gz_hm9 _) rfl (fun n36 hn36 => ?_)
            refine gz_iconst C dX11_readForm_132 gk_iconst_4 ?_
            refine gz_j0_row (P := fun σ37 x => gz_W true p l e ({ frames := 7, cells := 0, slots := 0, locals := 156 } : Room) s m args below meth c G 4 (gz_QT true G below args s 0 0 (gz_te G gz_ev0)) 0 0 σ37 156 [(0, .ref (gz_ad true G 0 0)), (1, .int v1)] [] x) (fun σ37 => ?_) (fun j156 hj156 => ?_)
            · unfold f_X11_readForm_J156
              refine gz_aload_n C dX11_readForm_156 0 rfl ?_
              refine gz_get C (t := 0) (k := 22) (ci := 11) (q := (RX11, TX11, 63)) (v := .ref (gz_ad true G 8 0)) dX11_readForm_157 fl_RX11_47 (gz_hm0 _) rfl rfl (by decide) rfl ?_
              refine gz_iload_n C dX11_readForm_160 1 rfl ?_
              refine gz_dup2 C dX11_readForm_161 rfl rfl ?_
              refine gz_iald C (t := 8) dX11_readForm_162 (gz_hm8 _) rfl (fun n38 hn38 => ?_)
              refine gz_iconst C dX11_readForm_163 gk_iconst_1 ?_
              refine gz_iadd C dX11_readForm_164 ?_
              refine gz_iast C (t := 8) dX11_readForm_165 (gz_hm8 _) rfl (fun n39 hn39 => ?_)
              refine gz_w_row (fun σ40 => ?_)
              refine gz_aload_n C dX11_readForm_166 0 rfl ?_
              refine gz_bipush C dX11_readForm_167 gk_bipush_59 ?_
              refine gz_ki (gz_runV (t := 0) (ci := 11) (q := (RX11, TX11, 63)) (As := [.int 59]) (rest := []) C dX11_readForm_169 ml_RX11_246 mw_X11_is mv_X11_is (c_X11_is l G 59 σ40) (gz_hm0 _) rfl rfl rfl rfl rfl (Nat.le_of_ble_eq_true rfl) ⟨rfl, rfl, Nat.le_of_ble_eq_true rfl, Nat.le_of_ble_eq_true rfl, Nat.le_of_ble_eq_true rfl, Nat.le_of_ble_eq_true rfl⟩) (fun r42 σ41 => ?_)
              refine gz_istore_n C (lv' := [(2, .int r42), (0, .ref (gz_ad true G 0 0)), (1, .int v1)]) dX11_readForm_172 (by decide) rfl ?_
              refine gz_iload_n C dX11_readForm_173 0 rfl ?_
              refine gz_j0_row (P := fun σ43 x => gz_W true p l e ({ frames := 7, cells := 0, slots := 0, locals := 156 } : Room) s m args below meth c G 4 (gz_QT true G below args s 0 0 (gz_te G gz_ev0)) 0 0 σ43 181 [(0, .ref (gz_ad true G 0 0)), (1, .int v1), (2, .int r42)] [] x) (fun σ43 => ?_) (fun j181 hj181 => ?_)
              · unfold f_X11_readForm_J181
                refine gz_goto (tgt := 14) C dX11_readForm_181 (by decide) ?_
                exact hrec14 r42 σ43
              · skip
                refine gz_if_eq (tgt := 181) C dX11_readForm_174 (by decide) ?_ ?_
                · skip
                  refine gz_lv (lv' := [(0, .ref (gz_ad true G 0 0)), (1, .int v1), (2, .int r42)]) [1, 2, 0] rfl ?_
                  exact hj181 σ41
                · skip
                  refine gz_aload_n C dX11_readForm_177 1 rfl ?_
                  refine gz_kv (gz_runV (t := 0) (ci := 11) (q := (RX11, TX11, 63)) (As := []) (rest := []) C dX11_readForm_178 ml_RX11_252 mw_X11_next mv_X11_next (c_X11_next l G σ41) (gz_hm0 _) rfl rfl rfl rfl rfl (Nat.le_of_ble_eq_true rfl) ⟨rfl, rfl, Nat.le_of_ble_eq_true rfl, Nat.le_of_ble_eq_true rfl, Nat.le_of_ble_eq_true rfl, Nat.le_of_ble_eq_true rfl⟩) (fun σ44 => ?_)
                  refine gz_lv (lv' := [(0, .ref (gz_ad true G 0 0)), (1, .int v1), (2, .int r42)]) [1, 2, 0] rfl ?_
                  exact hj181 σ44
            · skip
              refine gz_icmp_ge (tgt := 156) C dX11_readForm_133 (by decide) ?_ ?_
              · skip
                refine gz_lv (lv' := [(0, .ref (gz_ad true G 0 0)), (1, .int v1)]) [1, 2] rfl ?_
                exact hj156 σ35
              · skip
                refine gz_aload_n C dX11_readForm_136 1 rfl ?_
                refine gz_bipush C dX11_readForm_137 gk_bipush_63 ?_
                refine gz_ki (gz_runV (t := 0) (ci := 11) (q := (RX11, TX11, 63)) (As := [.int 63]) (rest := []) C dX11_readForm_139 ml_RX11_246 mw_X11_is mv_X11_is (c_X11_is l G 63 σ35) (gz_hm0 _) rfl rfl rfl rfl rfl (Nat.le_of_ble_eq_true rfl) ⟨rfl, rfl, Nat.le_of_ble_eq_true rfl, Nat.le_of_ble_eq_true rfl, Nat.le_of_ble_eq_true rfl, Nat.le_of_ble_eq_true rfl⟩) (fun r46 σ45 => ?_)
                refine gz_if_eq (tgt := 156) C dX11_readForm_142 (by decide) ?_ ?_
                · skip
                  refine gz_lv (lv' := [(0, .ref (gz_ad true G 0 0)), (1, .int v1)]) [1, 2] rfl ?_
                  exact hj156 σ45
                · skip
                  refine gz_aload_n C dX11_readForm_145 1 rfl ?_
                  refine gz_get C (t := 0) (k := 26) (ci := 11) (q := (RX11, TX11, 63)) (v := .ref (gz_ad true G 12 0)) dX11_readForm_146 fl_RX11_59 (gz_hm0 _) rfl rfl (by decide) rfl ?_
                  refine gz_iload_n C dX11_readForm_149 0 rfl ?_
                  refine gz_iconst C dX11_readForm_150 gk_iconst_1 ?_
                  refine gz_zast C (t := 12) dX11_readForm_151 (gz_hm12 _) rfl (fun n47 hn47 => ?_)
                  refine gz_w_row (fun σ48 => ?_)
                  refine gz_aload_n C dX11_readForm_152 1 rfl ?_
                  refine gz_kv (gz_runV (t := 0) (ci := 11) (q := (RX11, TX11, 63)) (As := []) (rest := []) C dX11_readForm_153 ml_RX11_252 mw_X11_next mv_X11_next (c_X11_next l G σ48) (gz_hm0 _) rfl rfl rfl rfl rfl (Nat.le_of_ble_eq_true rfl) ⟨rfl, rfl, Nat.le_of_ble_eq_true rfl, Nat.le_of_ble_eq_true rfl, Nat.le_of_ble_eq_true rfl, Nat.le_of_ble_eq_true rfl⟩) (fun σ49 => ?_)
                  refine gz_lv (lv' := [(0, .ref (gz_ad true G 0 0)), (1, .int v1)]) [1, 2] rfl ?_
                  exact hj156 σ49
          · skip
            refine gz_lv (lv' := [(0, .ref (gz_ad true G 0 0))]) [0] rfl ?_
            exact hj57 σ18
        · skip
          refine gz_lv (lv' := [(0, .ref (gz_ad true G 0 0))]) [0] rfl ?_
          exact hj36 σ18
