def f_X11_granted (σ : gz_S) : Option (Int32 × gz_S) :=
  gz_w (gz_si σ 0 0 1 0) (fun σ1 =>
  gz_w (gz_si σ1 0 0 2 (-1)) (fun σ2 =>
  some ((1 : Int32) &&& 1, σ2)))
set_option maxHeartbeats 4000000 in
set_option maxRecDepth 100000 in
theorem c_X11_granted (l : Launch) (G : gz_G) (σ : gz_S) : ∀ o, f_X11_granted σ = some o → gz_M l true G yX11_granted cX11_granted 1 (some .boolean) { frames := 0, cells := 0, slots := 0, locals := 0 } [.ref (gz_ad true G 0 0)] σ (gz_ei o) 0 0 := by
  refine gz_enter RX11 rfl (by decide) (Nat.le_of_ble_eq_true rfl) ?_
  intro p e s m args below meth c C
  refine gz_eqs (st' := []) (lv' := [(0, .ref (gz_ad true G 0 0))]) rfl rfl ?_
  unfold f_X11_granted
  refine gz_aload_n C dX11_granted_0 0 rfl ?_
  refine gz_iconst C dX11_granted_1 gk_iconst_0 ?_
  refine gz_putI C (t := 0) (k := 1) (ci := 11) (q := (RX11, TX11, 63)) dX11_granted_2 fl_RX11_161 (gz_hm0 _) rfl rfl (by decide) rfl rfl rfl rfl ?_
  refine gz_w_row (fun σ1 => ?_)
  refine gz_aload_n C dX11_granted_5 0 rfl ?_
  refine gz_iconst C dX11_granted_6 gk_iconst_m1 ?_
  refine gz_putI C (t := 0) (k := 2) (ci := 11) (q := (RX11, TX11, 63)) dX11_granted_7 fl_RX11_11 (gz_hm0 _) rfl rfl (by decide) rfl rfl rfl rfl ?_
  refine gz_w_row (fun σ2 => ?_)
  refine gz_iconst C dX11_granted_10 gk_iconst_1 ?_
  exact gz_zret C rfl dX11_granted_11

def f_X11_corrects (a1 : Int32) (a2 : Int32) (σ : gz_S) : Option (Int32 × gz_S) :=
  gz_w (gz_si σ 0 0 0 0) (fun σ1 =>
  gz_call (f_X11_isNotice a2 σ1) (fun r3 σ2 =>
  if r3 = 0 then
  (gz_call (f_X11_denied 1 σ2) (fun r15 σ14 =>
  some (r15 &&& 1, σ14)))
  else
  (gz_call (f_X11_waits a1 σ2) (fun r5 σ4 =>
  if r5 = 0 then
  (some ((0 : Int32) &&& 1, σ4))
  else
  (if a2 < a1 then
  (gz_ix a1 61 (fun n6 =>
  gz_then (f_X11_act 4 a1 ((σ4.1 20 0 n6 : Int32).toInt64) 0 σ4) (fun σ7 =>
  gz_ix a1 61 (fun n8 =>
  gz_w (gz_si σ7 20 0 n8 a2) (fun σ9 =>
  gz_call (f_X11_granted σ9) (fun r11 σ10 =>
  some (r11 &&& 1, σ10)))))))
  else
  (gz_call (f_X11_denied 2 σ4) (fun r13 σ12 =>
  some (r13 &&& 1, σ12))))))))
set_option maxHeartbeats 4000000 in
set_option maxRecDepth 100000 in
theorem c_X11_corrects (l : Launch) (G : gz_G) (a1 : Int32) (a2 : Int32) (σ : gz_S) : ∀ o, f_X11_corrects a1 a2 σ = some o → gz_M l true G yX11_corrects cX11_corrects 3 (some .boolean) { frames := 2, cells := 0, slots := 0, locals := 42 } [.ref (gz_ad true G 0 0), .int a1, .int a2] σ (gz_ei o) 0 0 := by
  refine gz_enter RX11 rfl (by decide) (Nat.le_of_ble_eq_true rfl) ?_
  intro p e s m args below meth c C
  refine gz_eqs (st' := []) (lv' := [(0, .ref (gz_ad true G 0 0)), (1, .int a1), (2, .int a2)]) rfl rfl ?_
  unfold f_X11_corrects
  refine gz_aload_n C dX11_corrects_0 0 rfl ?_
  refine gz_iconst C dX11_corrects_1 gk_iconst_0 ?_
  refine gz_putI C (t := 0) (k := 0) (ci := 11) (q := (RX11, TX11, 63)) dX11_corrects_2 fl_RX11_158 (gz_hm0 _) rfl rfl (by decide) rfl rfl rfl rfl ?_
  refine gz_w_row (fun σ1 => ?_)
  refine gz_aload_n C dX11_corrects_5 0 rfl ?_
  refine gz_iload_n C dX11_corrects_6 2 rfl ?_
  refine gz_ki (gz_runV (t := 0) (ci := 11) (q := (RX11, TX11, 63)) (As := [.int a2]) (rest := []) C dX11_corrects_7 ml_RX11_328 mw_X11_isNotice mv_X11_isNotice (c_X11_isNotice l G a2 σ1) (gz_hm0 _) rfl rfl rfl rfl rfl (Nat.le_of_ble_eq_true rfl) ⟨rfl, rfl, Nat.le_of_ble_eq_true rfl, Nat.le_of_ble_eq_true rfl, Nat.le_of_ble_eq_true rfl, Nat.le_of_ble_eq_true rfl⟩) (fun r3 σ2 => ?_)
  refine gz_if_ne (tgt := 19) C dX11_corrects_10 (by decide) ?_ ?_
  · skip
    refine gz_aload_n C dX11_corrects_19 0 rfl ?_
    refine gz_iload_n C dX11_corrects_20 1 rfl ?_
    refine gz_ki (gz_runV (t := 0) (ci := 11) (q := (RX11, TX11, 63)) (As := [.int a1]) (rest := []) C dX11_corrects_21 ml_RX11_337 mw_X11_waits mv_X11_waits (c_X11_waits l G a1 σ2) (gz_hm0 _) rfl rfl rfl rfl rfl (Nat.le_of_ble_eq_true rfl) ⟨rfl, rfl, Nat.le_of_ble_eq_true rfl, Nat.le_of_ble_eq_true rfl, Nat.le_of_ble_eq_true rfl, Nat.le_of_ble_eq_true rfl⟩) (fun r5 σ4 => ?_)
    refine gz_if_ne (tgt := 29) C dX11_corrects_24 (by decide) ?_ ?_
    · skip
      refine gz_iload_n C dX11_corrects_29 2 rfl ?_
      refine gz_iload_n C dX11_corrects_30 1 rfl ?_
      refine gz_icmp_lt (tgt := 40) C dX11_corrects_31 (by decide) ?_ ?_
      · skip
        refine gz_aload_n C dX11_corrects_40 0 rfl ?_
        refine gz_iconst C dX11_corrects_41 gk_iconst_4 ?_
        refine gz_iload_n C dX11_corrects_42 1 rfl ?_
        refine gz_aload_n C dX11_corrects_43 0 rfl ?_
        refine gz_get C (t := 0) (k := 37) (ci := 11) (q := (RX11, TX11, 63)) (v := .ref (gz_ad true G 20 0)) dX11_corrects_44 fl_RX11_86 (gz_hm0 _) rfl rfl (by decide) rfl ?_
        refine gz_iload_n C dX11_corrects_47 1 rfl ?_
        refine gz_iald C (t := 20) dX11_corrects_48 (gz_hm20 _) rfl (fun n6 hn6 => ?_)
        refine gz_i2l C dX11_corrects_49 ?_
        refine gz_lconst C dX11_corrects_50 gk_lconst_0 ?_
        refine gz_kv (gz_runV (t := 0) (ci := 11) (q := (RX11, TX11, 63)) (As := [.int 4, .int a1, .long ((σ4.1 20 0 n6 : Int32).toInt64), .long 0]) (rest := []) C dX11_corrects_51 ml_RX11_183 mw_X11_act mv_X11_act (c_X11_act l G 4 a1 ((σ4.1 20 0 n6 : Int32).toInt64) 0 σ4) (gz_hm0 _) rfl rfl rfl rfl rfl (Nat.le_of_ble_eq_true rfl) ⟨rfl, rfl, Nat.le_of_ble_eq_true rfl, Nat.le_of_ble_eq_true rfl, Nat.le_of_ble_eq_true rfl, Nat.le_of_ble_eq_true rfl⟩) (fun σ7 => ?_)
        refine gz_aload_n C dX11_corrects_54 0 rfl ?_
        refine gz_get C (t := 0) (k := 37) (ci := 11) (q := (RX11, TX11, 63)) (v := .ref (gz_ad true G 20 0)) dX11_corrects_55 fl_RX11_86 (gz_hm0 _) rfl rfl (by decide) rfl ?_
        refine gz_iload_n C dX11_corrects_58 1 rfl ?_
        refine gz_iload_n C dX11_corrects_59 2 rfl ?_
        refine gz_iast C (t := 20) dX11_corrects_60 (gz_hm20 _) rfl (fun n8 hn8 => ?_)
        refine gz_w_row (fun σ9 => ?_)
        refine gz_aload_n C dX11_corrects_61 0 rfl ?_
        refine gz_ki (gz_runV (t := 0) (ci := 11) (q := (RX11, TX11, 63)) (As := []) (rest := []) C dX11_corrects_62 ml_RX11_340 mw_X11_granted mv_X11_granted (c_X11_granted l G σ9) (gz_hm0 _) rfl rfl rfl rfl rfl (Nat.le_of_ble_eq_true rfl) ⟨rfl, rfl, Nat.le_of_ble_eq_true rfl, Nat.le_of_ble_eq_true rfl, Nat.le_of_ble_eq_true rfl, Nat.le_of_ble_eq_true rfl⟩) (fun r11 σ10 => ?_)
        exact gz_zret C rfl dX11_corrects_65
      · skip
        refine gz_aload_n C dX11_corrects_34 0 rfl ?_
        refine gz_iconst C dX11_corrects_35 gk_iconst_2 ?_
        refine gz_ki (gz_runV (t := 0) (ci := 11) (q := (RX11, TX11, 63)) (As := [.int 2]) (rest := []) C dX11_corrects_36 ml_RX11_180 mw_X11_denied mv_X11_denied (c_X11_denied l G 2 σ4) (gz_hm0 _) rfl rfl rfl rfl rfl (Nat.le_of_ble_eq_true rfl) ⟨rfl, rfl, Nat.le_of_ble_eq_true rfl, Nat.le_of_ble_eq_true rfl, Nat.le_of_ble_eq_true rfl, Nat.le_of_ble_eq_true rfl⟩) (fun r13 σ12 => ?_)
        exact gz_zret C rfl dX11_corrects_39
    · skip
      refine gz_iconst C dX11_corrects_27 gk_iconst_0 ?_
      exact gz_zret C rfl dX11_corrects_28
  · skip
    refine gz_aload_n C dX11_corrects_13 0 rfl ?_
    refine gz_iconst C dX11_corrects_14 gk_iconst_1 ?_
    refine gz_ki (gz_runV (t := 0) (ci := 11) (q := (RX11, TX11, 63)) (As := [.int 1]) (rest := []) C dX11_corrects_15 ml_RX11_180 mw_X11_denied mv_X11_denied (c_X11_denied l G 1 σ2) (gz_hm0 _) rfl rfl rfl rfl rfl (Nat.le_of_ble_eq_true rfl) ⟨rfl, rfl, Nat.le_of_ble_eq_true rfl, Nat.le_of_ble_eq_true rfl, Nat.le_of_ble_eq_true rfl, Nat.le_of_ble_eq_true rfl⟩) (fun r15 σ14 => ?_)
    exact gz_zret C rfl dX11_corrects_18

def f_X11_isWord_J57 (v2 : Int64) (rec20 : Int32 → Int64 → gz_S → Option (Int32 × gz_S)) : Int32 → gz_S → Option (Int32 × gz_S) := fun x4 σ5 =>
  gz_v (v2 >>> ((5 : Int32).toInt64 &&& 63)) (fun v6 =>
  rec20 x4 v6 σ5)
def f_X11_isWord_J56 (j57 : Int32 → gz_S → Option (Int32 × gz_S)) : gz_S → Option (Int32 × gz_S) := fun σ7 =>
  j57 0 σ7
def f_X11_isWord_L20 : (Int32 → Int64 → gz_S → Option (Int32 × gz_S)) → Int32 → Int64 → gz_S → Option (Int32 × gz_S) := fun rec20 v1 v2 σ3 =>
  if (lg_cmp v2 0) ≤ 0 then
  (some (v1 &&& 1, σ3))
  else
  (gz_j1 (f_X11_isWord_J57 v2 rec20) (fun j57 =>
  gz_j0 (f_X11_isWord_J56 j57) (fun j56 =>
  if v1 = 0 then
  (j56 σ3)
  else
  (if (lg_cmp (v2 &&& 31) 0) ≤ 0 then
  (j56 σ3)
  else
  (if 0 ≤ (lg_cmp (v2 &&& 31) 27) then
  (j56 σ3)
  else
  (j57 1 σ3))))))
def f_X11_isWord (a0 : Int64) (σ : gz_S) : Option (Int32 × gz_S) :=
  if (lg_cmp a0 0) ≤ 0 then
  (some ((0 : Int32) &&& 1, σ))
  else
  (if (lg_cmp a0 1099511627776) < 0 then
  (gz_l2 (f_X11_isWord_L20) gz_fu 1 a0 σ)
  else
  (some ((0 : Int32) &&& 1, σ)))
set_option maxHeartbeats 4000000 in
set_option maxRecDepth 100000 in
theorem c_X11_isWord (l : Launch) (G : gz_G) (a0 : Int64) (σ : gz_S) : ∀ o, f_X11_isWord a0 σ = some o → gz_M l true G yX11_isWord cX11_isWord 5 (some .boolean) { frames := 0, cells := 0, slots := 0, locals := 0 } [.long a0] σ (gz_ei o) 0 0 := by
  refine gz_enter RX11 rfl (by decide) (Nat.le_of_ble_eq_true rfl) ?_
  intro p e s m args below meth c C
  refine gz_eqs (st' := []) (lv' := [(0, .long a0)]) rfl rfl ?_
  unfold f_X11_isWord
  refine gz_lload_n C dX11_isWord_0 0 rfl ?_
  refine gz_lconst C dX11_isWord_1 gk_lconst_0 ?_
  refine gz_lcmp C dX11_isWord_2 ?_
  refine gz_if_le (tgt := 14) C dX11_isWord_3 (by decide) ?_ ?_
  · skip
    refine gz_iconst C dX11_isWord_14 gk_iconst_0 ?_
    exact gz_zret C rfl dX11_isWord_15
  · skip
    refine gz_lload_n C dX11_isWord_6 0 rfl ?_
    refine gz_ldc2 C dX11_isWord_7 cw_RX11_344 ?_
    refine gz_lcmp C dX11_isWord_10 ?_
    refine gz_if_lt (tgt := 16) C dX11_isWord_11 (by decide) ?_ ?_
    · skip
      refine gz_iconst C dX11_isWord_16 gk_iconst_1 ?_
      refine gz_istore_n C (lv' := [(2, .int 1), (0, .long a0)]) dX11_isWord_17 (by decide) rfl ?_
      refine gz_lload_n C dX11_isWord_18 1 rfl ?_
      refine gz_lstore_n C (lv' := [(3, .long a0), (2, .int 1), (0, .long a0)]) dX11_isWord_19 (by decide) rfl ?_
      refine gz_lv (lv' := [(2, .int 1), (3, .long a0)]) [1, 0] rfl ?_
      refine gz_l2_ind (P := fun v1 v2 σ3 x => gz_W true p l e ({ frames := 0, cells := 0, slots := 0, locals := 0 } : Room) s m args below meth c G 5 (gz_Q true G below args s 0 0 gz_ei) 0 0 σ3 20 [(2, .int v1), (3, .long v2)] [] x) (fun _ _ _ => gz_none) (fun rec20 hrec20 v1 v2 σ3 => ?_) gz_fu 1 a0 σ
      unfold f_X11_isWord_L20
      refine gz_lload_n C dX11_isWord_20 1 rfl ?_
      refine gz_lconst C dX11_isWord_21 gk_lconst_0 ?_
      refine gz_lcmp C dX11_isWord_22 ?_
      refine gz_if_le (tgt := 65) C dX11_isWord_23 (by decide) ?_ ?_
      · skip
        refine gz_iload_n C dX11_isWord_65 0 rfl ?_
        exact gz_zret C rfl dX11_isWord_66
      · skip
        refine gz_iload_n C dX11_isWord_26 0 rfl ?_
        refine gz_j1_row (P := fun x4 σ5 x => gz_W true p l e ({ frames := 0, cells := 0, slots := 0, locals := 0 } : Room) s m args below meth c G 5 (gz_Q true G below args s 0 0 gz_ei) 0 0 σ5 57 [(3, .long v2)] [.int x4] x) (fun x4 σ5 => ?_) (fun j57 hj57 => ?_)
        · unfold f_X11_isWord_J57
          refine gz_istore_n C (lv' := [(2, .int x4), (3, .long v2)]) dX11_isWord_57 (by decide) rfl ?_
          refine gz_lload_n C dX11_isWord_58 1 rfl ?_
          refine gz_iconst C dX11_isWord_59 gk_iconst_5 ?_
          refine gz_lshr C dX11_isWord_60 ?_
          refine gz_topJ (fun v6 => ?_)
          refine gz_lstore_n C (lv' := [(3, .long v6), (2, .int x4)]) dX11_isWord_61 (by decide) rfl ?_
          refine gz_goto (tgt := 20) C dX11_isWord_62 (by decide) ?_
          refine gz_lv (lv' := [(2, .int x4), (3, .long v6)]) [1, 0] rfl ?_
          exact hrec20 x4 v6 σ5
        · skip
          refine gz_j0_row (P := fun σ7 x => gz_W true p l e ({ frames := 0, cells := 0, slots := 0, locals := 0 } : Room) s m args below meth c G 5 (gz_Q true G below args s 0 0 gz_ei) 0 0 σ7 56 [(3, .long v2)] [] x) (fun σ7 => ?_) (fun j56 hj56 => ?_)
          · unfold f_X11_isWord_J56
            refine gz_iconst C dX11_isWord_56 gk_iconst_0 ?_
            exact hj57 0 σ7
          · skip
            refine gz_if_eq (tgt := 56) C dX11_isWord_27 (by decide) ?_ ?_
            · skip
              refine gz_lv (lv' := [(3, .long v2)]) [1] rfl ?_
              exact hj56 σ3
            · skip
              refine gz_lload_n C dX11_isWord_30 1 rfl ?_
              refine gz_ldc2 C dX11_isWord_31 cw_RX11_346 ?_
              refine gz_land C dX11_isWord_34 ?_
              refine gz_lconst C dX11_isWord_35 gk_lconst_0 ?_
              refine gz_lcmp C dX11_isWord_36 ?_
              refine gz_if_le (tgt := 56) C dX11_isWord_37 (by decide) ?_ ?_
              · skip
                refine gz_lv (lv' := [(3, .long v2)]) [1] rfl ?_
                exact hj56 σ3
              · skip
                refine gz_lload_n C dX11_isWord_40 1 rfl ?_
                refine gz_ldc2 C dX11_isWord_41 cw_RX11_346 ?_
                refine gz_land C dX11_isWord_44 ?_
                refine gz_ldc2 C dX11_isWord_45 cw_RX11_348 ?_
                refine gz_lcmp C dX11_isWord_48 ?_
                refine gz_if_ge (tgt := 56) C dX11_isWord_49 (by decide) ?_ ?_
                · skip
                  refine gz_lv (lv' := [(3, .long v2)]) [1] rfl ?_
                  exact hj56 σ3
                · skip
                  refine gz_iconst C dX11_isWord_52 gk_iconst_1 ?_
                  refine gz_goto (tgt := 57) C dX11_isWord_53 (by decide) ?_
                  refine gz_lv (lv' := [(3, .long v2)]) [1] rfl ?_
                  exact hj57 1 σ3
    · skip
      refine gz_iconst C dX11_isWord_14 gk_iconst_0 ?_
      exact gz_zret C rfl dX11_isWord_15

def f_X11_renames (a1 : Int32) (a2 : Int64) (a3 : Int64) (σ : gz_S) : Option (Int32 × gz_S) :=
  gz_w (gz_si σ 0 0 0 0) (fun σ1 =>
  gz_call (f_X11_waits a1 σ1) (fun r3 σ2 =>
  if r3 = 0 then
  (some ((0 : Int32) &&& 1, σ2))
  else
  (gz_call (f_X11_isWord a2 σ2) (fun r5 σ4 =>
  if r5 = 0 then
  (gz_call (f_X11_denied 2 σ4) (fun r7 σ6 =>
  some (r7 &&& 1, σ6)))
  else
  (gz_call (f_X11_isWord a3 σ4) (fun r9 σ8 =>
  if r9 = 0 then
  (gz_call (f_X11_denied 2 σ8) (fun r11 σ10 =>
  some (r11 &&& 1, σ10)))
  else
  (if (lg_cmp a2 a3) = 0 then
  (gz_call (f_X11_denied 2 σ8) (fun r22 σ21 =>
  some (r22 &&& 1, σ21)))
  else
  (gz_ix a1 61 (fun n12 =>
  gz_ix a1 61 (fun n13 =>
  gz_then (f_X11_act 5 a1 (σ8.2.1 22 0 n12) (σ8.2.1 23 0 n13) σ8) (fun σ14 =>
  gz_ix a1 61 (fun n15 =>
  gz_w (gz_sj σ14 22 0 n15 a2) (fun σ16 =>
  gz_ix a1 61 (fun n17 =>
  gz_w (gz_sj σ16 23 0 n17 a3) (fun σ18 =>
  gz_call (f_X11_granted σ18) (fun r20 σ19 =>
  some (r20 &&& 1, σ19)))))))))))))))))
set_option maxHeartbeats 4000000 in
set_option maxRecDepth 100000 in
theorem c_X11_renames (l : Launch) (G : gz_G) (a1 : Int32) (a2 : Int64) (a3 : Int64) (σ : gz_S) : ∀ o, f_X11_renames a1 a2 a3 σ = some o → gz_M l true G yX11_renames cX11_renames 6 (some .boolean) { frames := 2, cells := 0, slots := 0, locals := 42 } [.ref (gz_ad true G 0 0), .int a1, .long a2, .long a3] σ (gz_ei o) 0 0 := by
  refine gz_enter RX11 rfl (by decide) (Nat.le_of_ble_eq_true rfl) ?_
  intro p e s m args below meth c C
  refine gz_eqs (st' := []) (lv' := [(0, .ref (gz_ad true G 0 0)), (1, .int a1), (2, .long a2), (4, .long a3)]) rfl rfl ?_
  unfold f_X11_renames
  refine gz_aload_n C dX11_renames_0 0 rfl ?_
  refine gz_iconst C dX11_renames_1 gk_iconst_0 ?_
  refine gz_putI C (t := 0) (k := 0) (ci := 11) (q := (RX11, TX11, 63)) dX11_renames_2 fl_RX11_158 (gz_hm0 _) rfl rfl (by decide) rfl rfl rfl rfl ?_
  refine gz_w_row (fun σ1 => ?_)
  refine gz_aload_n C dX11_renames_5 0 rfl ?_
  refine gz_iload_n C dX11_renames_6 1 rfl ?_
  refine gz_ki (gz_runV (t := 0) (ci := 11) (q := (RX11, TX11, 63)) (As := [.int a1]) (rest := []) C dX11_renames_7 ml_RX11_337 mw_X11_waits mv_X11_waits (c_X11_waits l G a1 σ1) (gz_hm0 _) rfl rfl rfl rfl rfl (Nat.le_of_ble_eq_true rfl) ⟨rfl, rfl, Nat.le_of_ble_eq_true rfl, Nat.le_of_ble_eq_true rfl, Nat.le_of_ble_eq_true rfl, Nat.le_of_ble_eq_true rfl⟩) (fun r3 σ2 => ?_)
  refine gz_if_ne (tgt := 15) C dX11_renames_10 (by decide) ?_ ?_
  · skip
    refine gz_lload_n C dX11_renames_15 2 rfl ?_
    refine gz_ki (gz_runS (As := [.long a2]) (rest := []) C dX11_renames_16 ml_RX11_350 mw_X11_isWord ms_X11_isWord (c_X11_isWord l G a2 σ2) rfl rfl (Nat.le_of_ble_eq_true rfl) ⟨rfl, rfl, Nat.le_of_ble_eq_true rfl, Nat.le_of_ble_eq_true rfl, Nat.le_of_ble_eq_true rfl, Nat.le_of_ble_eq_true rfl⟩) (fun r5 σ4 => ?_)
    refine gz_if_eq (tgt := 37) C dX11_renames_19 (by decide) ?_ ?_
    · skip
      refine gz_aload_n C dX11_renames_37 0 rfl ?_
      refine gz_iconst C dX11_renames_38 gk_iconst_2 ?_
      refine gz_ki (gz_runV (t := 0) (ci := 11) (q := (RX11, TX11, 63)) (As := [.int 2]) (rest := []) C dX11_renames_39 ml_RX11_180 mw_X11_denied mv_X11_denied (c_X11_denied l G 2 σ4) (gz_hm0 _) rfl rfl rfl rfl rfl (Nat.le_of_ble_eq_true rfl) ⟨rfl, rfl, Nat.le_of_ble_eq_true rfl, Nat.le_of_ble_eq_true rfl, Nat.le_of_ble_eq_true rfl, Nat.le_of_ble_eq_true rfl⟩) (fun r7 σ6 => ?_)
      exact gz_zret C rfl dX11_renames_42
    · skip
      refine gz_lload C dX11_renames_22 3 rfl ?_
      refine gz_ki (gz_runS (As := [.long a3]) (rest := []) C dX11_renames_24 ml_RX11_350 mw_X11_isWord ms_X11_isWord (c_X11_isWord l G a3 σ4) rfl rfl (Nat.le_of_ble_eq_true rfl) ⟨rfl, rfl, Nat.le_of_ble_eq_true rfl, Nat.le_of_ble_eq_true rfl, Nat.le_of_ble_eq_true rfl, Nat.le_of_ble_eq_true rfl⟩) (fun r9 σ8 => ?_)
      refine gz_if_eq (tgt := 37) C dX11_renames_27 (by decide) ?_ ?_
      · skip
        refine gz_aload_n C dX11_renames_37 0 rfl ?_
        refine gz_iconst C dX11_renames_38 gk_iconst_2 ?_
        refine gz_ki (gz_runV (t := 0) (ci := 11) (q := (RX11, TX11, 63)) (As := [.int 2]) (rest := []) C dX11_renames_39 ml_RX11_180 mw_X11_denied mv_X11_denied (c_X11_denied l G 2 σ8) (gz_hm0 _) rfl rfl rfl rfl rfl (Nat.le_of_ble_eq_true rfl) ⟨rfl, rfl, Nat.le_of_ble_eq_true rfl, Nat.le_of_ble_eq_true rfl, Nat.le_of_ble_eq_true rfl, Nat.le_of_ble_eq_true rfl⟩) (fun r11 σ10 => ?_)
        exact gz_zret C rfl dX11_renames_42
      · skip
        refine gz_lload_n C dX11_renames_30 2 rfl ?_
        refine gz_lload C dX11_renames_31 3 rfl ?_
        refine gz_lcmp C dX11_renames_33 ?_
        refine gz_if_ne (tgt := 43) C dX11_renames_34 (by decide) ?_ ?_
        · skip
          refine gz_aload_n C dX11_renames_43 0 rfl ?_
          refine gz_iconst C dX11_renames_44 gk_iconst_5 ?_
          refine gz_iload_n C dX11_renames_45 1 rfl ?_
          refine gz_aload_n C dX11_renames_46 0 rfl ?_
          refine gz_get C (t := 0) (k := 39) (ci := 11) (q := (RX11, TX11, 63)) (v := .ref (gz_ad true G 22 0)) dX11_renames_47 fl_RX11_92 (gz_hm0 _) rfl rfl (by decide) rfl ?_
          refine gz_iload_n C dX11_renames_50 1 rfl ?_
          refine gz_lald C (t := 22) dX11_renames_51 (gz_hm22 _) rfl (fun n12 hn12 => ?_)
          refine gz_aload_n C dX11_renames_52 0 rfl ?_
          refine gz_get C (t := 0) (k := 40) (ci := 11) (q := (RX11, TX11, 63)) (v := .ref (gz_ad true G 23 0)) dX11_renames_53 fl_RX11_95 (gz_hm0 _) rfl rfl (by decide) rfl ?_
          refine gz_iload_n C dX11_renames_56 1 rfl ?_
          refine gz_lald C (t := 23) dX11_renames_57 (gz_hm23 _) rfl (fun n13 hn13 => ?_)
          refine gz_kv (gz_runV (t := 0) (ci := 11) (q := (RX11, TX11, 63)) (As := [.int 5, .int a1, .long (σ8.2.1 22 0 n12), .long (σ8.2.1 23 0 n13)]) (rest := []) C dX11_renames_58 ml_RX11_183 mw_X11_act mv_X11_act (c_X11_act l G 5 a1 (σ8.2.1 22 0 n12) (σ8.2.1 23 0 n13) σ8) (gz_hm0 _) rfl rfl rfl rfl rfl (Nat.le_of_ble_eq_true rfl) ⟨rfl, rfl, Nat.le_of_ble_eq_true rfl, Nat.le_of_ble_eq_true rfl, Nat.le_of_ble_eq_true rfl, Nat.le_of_ble_eq_true rfl⟩) (fun σ14 => ?_)
          refine gz_aload_n C dX11_renames_61 0 rfl ?_
          refine gz_get C (t := 0) (k := 39) (ci := 11) (q := (RX11, TX11, 63)) (v := .ref (gz_ad true G 22 0)) dX11_renames_62 fl_RX11_92 (gz_hm0 _) rfl rfl (by decide) rfl ?_
          refine gz_iload_n C dX11_renames_65 1 rfl ?_
          refine gz_lload_n C dX11_renames_66 2 rfl ?_
          refine gz_last C (t := 22) dX11_renames_67 (gz_hm22 _) rfl (fun n15 hn15 => ?_)
          refine gz_w_row (fun σ16 => ?_)
          refine gz_aload_n C dX11_renames_68 0 rfl ?_
          refine gz_get C (t := 0) (k := 40) (ci := 11) (q := (RX11, TX11, 63)) (v := .ref (gz_ad true G 23 0)) dX11_renames_69 fl_RX11_95 (gz_hm0 _) rfl rfl (by decide) rfl ?_
          refine gz_iload_n C dX11_renames_72 1 rfl ?_
          refine gz_lload C dX11_renames_73 3 rfl ?_
          refine gz_last C (t := 23) dX11_renames_75 (gz_hm23 _) rfl (fun n17 hn17 => ?_)
          refine gz_w_row (fun σ18 => ?_)
          refine gz_aload_n C dX11_renames_76 0 rfl ?_
          refine gz_ki (gz_runV (t := 0) (ci := 11) (q := (RX11, TX11, 63)) (As := []) (rest := []) C dX11_renames_77 ml_RX11_340 mw_X11_granted mv_X11_granted (c_X11_granted l G σ18) (gz_hm0 _) rfl rfl rfl rfl rfl (Nat.le_of_ble_eq_true rfl) ⟨rfl, rfl, Nat.le_of_ble_eq_true rfl, Nat.le_of_ble_eq_true rfl, Nat.le_of_ble_eq_true rfl, Nat.le_of_ble_eq_true rfl⟩) (fun r20 σ19 => ?_)
          exact gz_zret C rfl dX11_renames_80
        · skip
          refine gz_aload_n C dX11_renames_37 0 rfl ?_
          refine gz_iconst C dX11_renames_38 gk_iconst_2 ?_
          refine gz_ki (gz_runV (t := 0) (ci := 11) (q := (RX11, TX11, 63)) (As := [.int 2]) (rest := []) C dX11_renames_39 ml_RX11_180 mw_X11_denied mv_X11_denied (c_X11_denied l G 2 σ8) (gz_hm0 _) rfl rfl rfl rfl rfl (Nat.le_of_ble_eq_true rfl) ⟨rfl, rfl, Nat.le_of_ble_eq_true rfl, Nat.le_of_ble_eq_true rfl, Nat.le_of_ble_eq_true rfl, Nat.le_of_ble_eq_true rfl⟩) (fun r22 σ21 => ?_)
          exact gz_zret C rfl dX11_renames_42
  · skip
    refine gz_iconst C dX11_renames_13 gk_iconst_0 ?_
    exact gz_zret C rfl dX11_renames_14

def f_X11_strikes (a1 : Int32) (a2 : Int64) (σ : gz_S) : Option (Int32 × gz_S) :=
  gz_w (gz_si σ 0 0 0 0) (fun σ1 =>
  gz_call (f_X11_waits a1 σ1) (fun r3 σ2 =>
  if r3 = 0 then
  (some ((0 : Int32) &&& 1, σ2))
  else
  (gz_call (f_X11_isWord a2 σ2) (fun r5 σ4 =>
  if r5 = 0 then
  (gz_call (f_X11_denied 2 σ4) (fun r13 σ12 =>
  some (r13 &&& 1, σ12)))
  else
  (gz_ix a1 61 (fun n6 =>
  gz_then (f_X11_act 6 a1 (σ4.2.1 24 0 n6) 0 σ4) (fun σ7 =>
  gz_ix a1 61 (fun n8 =>
  gz_w (gz_sj σ7 24 0 n8 a2) (fun σ9 =>
  gz_call (f_X11_granted σ9) (fun r11 σ10 =>
  some (r11 &&& 1, σ10)))))))))))
set_option maxHeartbeats 4000000 in
set_option maxRecDepth 100000 in
theorem c_X11_strikes (l : Launch) (G : gz_G) (a1 : Int32) (a2 : Int64) (σ : gz_S) : ∀ o, f_X11_strikes a1 a2 σ = some o → gz_M l true G yX11_strikes cX11_strikes 4 (some .boolean) { frames := 2, cells := 0, slots := 0, locals := 42 } [.ref (gz_ad true G 0 0), .int a1, .long a2] σ (gz_ei o) 0 0 := by
  refine gz_enter RX11 rfl (by decide) (Nat.le_of_ble_eq_true rfl) ?_
  intro p e s m args below meth c C
  refine gz_eqs (st' := []) (lv' := [(0, .ref (gz_ad true G 0 0)), (1, .int a1), (2, .long a2)]) rfl rfl ?_
  unfold f_X11_strikes
  refine gz_aload_n C dX11_strikes_0 0 rfl ?_
  refine gz_iconst C dX11_strikes_1 gk_iconst_0 ?_
  refine gz_putI C (t := 0) (k := 0) (ci := 11) (q := (RX11, TX11, 63)) dX11_strikes_2 fl_RX11_158 (gz_hm0 _) rfl rfl (by decide) rfl rfl rfl rfl ?_
  refine gz_w_row (fun σ1 => ?_)
  refine gz_aload_n C dX11_strikes_5 0 rfl ?_
  refine gz_iload_n C dX11_strikes_6 1 rfl ?_
  refine gz_ki (gz_runV (t := 0) (ci := 11) (q := (RX11, TX11, 63)) (As := [.int a1]) (rest := []) C dX11_strikes_7 ml_RX11_337 mw_X11_waits mv_X11_waits (c_X11_waits l G a1 σ1) (gz_hm0 _) rfl rfl rfl rfl rfl (Nat.le_of_ble_eq_true rfl) ⟨rfl, rfl, Nat.le_of_ble_eq_true rfl, Nat.le_of_ble_eq_true rfl, Nat.le_of_ble_eq_true rfl, Nat.le_of_ble_eq_true rfl⟩) (fun r3 σ2 => ?_)
  refine gz_if_ne (tgt := 15) C dX11_strikes_10 (by decide) ?_ ?_
  · skip
    refine gz_lload_n C dX11_strikes_15 2 rfl ?_
    refine gz_ki (gz_runS (As := [.long a2]) (rest := []) C dX11_strikes_16 ml_RX11_350 mw_X11_isWord ms_X11_isWord (c_X11_isWord l G a2 σ2) rfl rfl (Nat.le_of_ble_eq_true rfl) ⟨rfl, rfl, Nat.le_of_ble_eq_true rfl, Nat.le_of_ble_eq_true rfl, Nat.le_of_ble_eq_true rfl, Nat.le_of_ble_eq_true rfl⟩) (fun r5 σ4 => ?_)
    refine gz_if_ne (tgt := 28) C dX11_strikes_19 (by decide) ?_ ?_
    · skip
      refine gz_aload_n C dX11_strikes_28 0 rfl ?_
      refine gz_bipush C dX11_strikes_29 gk_bipush_6 ?_
      refine gz_iload_n C dX11_strikes_31 1 rfl ?_
      refine gz_aload_n C dX11_strikes_32 0 rfl ?_
      refine gz_get C (t := 0) (k := 41) (ci := 11) (q := (RX11, TX11, 63)) (v := .ref (gz_ad true G 24 0)) dX11_strikes_33 fl_RX11_98 (gz_hm0 _) rfl rfl (by decide) rfl ?_
      refine gz_iload_n C dX11_strikes_36 1 rfl ?_
      refine gz_lald C (t := 24) dX11_strikes_37 (gz_hm24 _) rfl (fun n6 hn6 => ?_)
      refine gz_lconst C dX11_strikes_38 gk_lconst_0 ?_
      refine gz_kv (gz_runV (t := 0) (ci := 11) (q := (RX11, TX11, 63)) (As := [.int 6, .int a1, .long (σ4.2.1 24 0 n6), .long 0]) (rest := []) C dX11_strikes_39 ml_RX11_183 mw_X11_act mv_X11_act (c_X11_act l G 6 a1 (σ4.2.1 24 0 n6) 0 σ4) (gz_hm0 _) rfl rfl rfl rfl rfl (Nat.le_of_ble_eq_true rfl) ⟨rfl, rfl, Nat.le_of_ble_eq_true rfl, Nat.le_of_ble_eq_true rfl, Nat.le_of_ble_eq_true rfl, Nat.le_of_ble_eq_true rfl⟩) (fun σ7 => ?_)
      refine gz_aload_n C dX11_strikes_42 0 rfl ?_
      refine gz_get C (t := 0) (k := 41) (ci := 11) (q := (RX11, TX11, 63)) (v := .ref (gz_ad true G 24 0)) dX11_strikes_43 fl_RX11_98 (gz_hm0 _) rfl rfl (by decide) rfl ?_
      refine gz_iload_n C dX11_strikes_46 1 rfl ?_
      refine gz_lload_n C dX11_strikes_47 2 rfl ?_
      refine gz_last C (t := 24) dX11_strikes_48 (gz_hm24 _) rfl (fun n8 hn8 => ?_)
      refine gz_w_row (fun σ9 => ?_)
      refine gz_aload_n C dX11_strikes_49 0 rfl ?_
      refine gz_ki (gz_runV (t := 0) (ci := 11) (q := (RX11, TX11, 63)) (As := []) (rest := []) C dX11_strikes_50 ml_RX11_340 mw_X11_granted mv_X11_granted (c_X11_granted l G σ9) (gz_hm0 _) rfl rfl rfl rfl rfl (Nat.le_of_ble_eq_true rfl) ⟨rfl, rfl, Nat.le_of_ble_eq_true rfl, Nat.le_of_ble_eq_true rfl, Nat.le_of_ble_eq_true rfl, Nat.le_of_ble_eq_true rfl⟩) (fun r11 σ10 => ?_)
      exact gz_zret C rfl dX11_strikes_53
    · skip
      refine gz_aload_n C dX11_strikes_22 0 rfl ?_
      refine gz_iconst C dX11_strikes_23 gk_iconst_2 ?_
      refine gz_ki (gz_runV (t := 0) (ci := 11) (q := (RX11, TX11, 63)) (As := [.int 2]) (rest := []) C dX11_strikes_24 ml_RX11_180 mw_X11_denied mv_X11_denied (c_X11_denied l G 2 σ4) (gz_hm0 _) rfl rfl rfl rfl rfl (Nat.le_of_ble_eq_true rfl) ⟨rfl, rfl, Nat.le_of_ble_eq_true rfl, Nat.le_of_ble_eq_true rfl, Nat.le_of_ble_eq_true rfl, Nat.le_of_ble_eq_true rfl⟩) (fun r13 σ12 => ?_)
      exact gz_zret C rfl dX11_strikes_27
  · skip
    refine gz_iconst C dX11_strikes_13 gk_iconst_0 ?_
    exact gz_zret C rfl dX11_strikes_14

def f_X11_packs_J254 (v4 : Int32) (a2 : Int32) : gz_S → Option (Int32 × gz_S) := fun σ5 =>
  gz_ix ((2 * v4) - 1) 4096 (fun n6 =>
  if (σ5.1 36 0 n6) ≤ a2 then
  (gz_w (gz_si σ5 0 0 55 ((σ5.1 0 0 55) + 1)) (fun σ7 =>
  some ((1 : Int32) &&& 1, σ7)))
  else
  (some ((0 : Int32) &&& 1, σ5)))
def f_X11_packs_J248 (v8 : Int32) (rec43 : Int32 → gz_S → Option (Int32 × gz_S)) : gz_S → Option (Int32 × gz_S) := fun σ14 =>
  rec43 (v8 + 1) σ14
def f_X11_packs_J242 (v15 : Int32) (rec72 : Int32 → gz_S → Option (Int32 × gz_S)) : gz_S → Option (Int32 × gz_S) := fun σ17 =>
  rec72 (v15 + 1) σ17
def f_X11_packs_J224 (v8 : Int32) (v25 : Int32) (v30 : Int32) (j242 : gz_S → Option (Int32 × gz_S)) : gz_S → Option (Int32 × gz_S) := fun σ32 =>
  gz_ix v8 4096 (fun n33 =>
  gz_w (gz_si σ32 36 0 n33 v25) (fun σ34 =>
  gz_ix v8 4096 (fun n35 =>
  gz_w (gz_si σ34 37 0 n35 v30) (fun σ36 =>
  j242 σ36))))
def f_X11_packs_J173 (v15 : Int32) (v8 : Int32) (v25 : Int32) (j242 : gz_S → Option (Int32 × gz_S)) : Int32 → gz_S → Option (Int32 × gz_S) := fun x26 σ27 =>
  gz_ix v15 12 (fun n28 =>
  gz_ix (σ27.1 35 0 n28) 61 (fun n29 =>
  gz_v (x26 - (σ27.1 16 0 n29)) (fun v30 =>
  gz_ix v8 4096 (fun n31 =>
  gz_j0 (f_X11_packs_J224 v8 v25 v30 j242) (fun j224 =>
  if v25 < (σ27.1 36 0 n31) then
  (j224 σ27)
  else
  (gz_ix v8 4096 (fun n37 =>
  if v25 = (σ27.1 36 0 n37) then
  (gz_ix v8 4096 (fun n38 =>
  if v30 ≤ (σ27.1 37 0 n38) then
  (j242 σ27)
  else
  (j224 σ27)))
  else
  (j242 σ27))))))))
def f_X11_packs_J154 (v15 : Int32) (v8 : Int32) (x19 : Int32) (a3 : Int32) (v18 : Int32) (j242 : gz_S → Option (Int32 × gz_S)) : Int32 → Int32 → gz_S → Option (Int32 × gz_S) := fun x22 x23 σ24 =>
  gz_v (x22 + x23) (fun v25 =>
  gz_j1 (f_X11_packs_J173 v15 v8 v25 j242) (fun j173 =>
  if x19 = 0 then
  (j173 a3 σ24)
  else
  (gz_ix v18 4096 (fun n39 =>
  j173 (σ24.1 37 0 n39) σ24))))
def f_X11_packs_J135 (v18 : Int32) (v15 : Int32) (v8 : Int32) (a3 : Int32) (j242 : gz_S → Option (Int32 × gz_S)) : Int32 → gz_S → Option (Int32 × gz_S) := fun x19 σ20 =>
  gz_ix v18 4096 (fun n21 =>
  gz_j2 (f_X11_packs_J154 v15 v8 x19 a3 v18 j242) (fun j154 =>
  if x19 = 0 then
  (j154 (σ20.1 36 0 n21) 1 σ20)
  else
  (j154 (σ20.1 36 0 n21) 0 σ20)))
def f_X11_packs_J134 (j135 : Int32 → gz_S → Option (Int32 × gz_S)) : gz_S → Option (Int32 × gz_S) := fun σ40 =>
  j135 0 σ40
def f_X11_packs_L72 (v8 : Int32) (a3 : Int32) (j248 : gz_S → Option (Int32 × gz_S)) : (Int32 → gz_S → Option (Int32 × gz_S)) → Int32 → gz_S → Option (Int32 × gz_S) := fun rec72 v15 σ16 =>
  if (σ16.1 0 0 55) < v15 then
  (j248 σ16)
  else
  (gz_j0 (f_X11_packs_J242 v15 rec72) (fun j242 =>
  if ((v8 >>> (v15 &&& 31)) &&& 1) = 0 then
  (j242 σ16)
  else
  (gz_v (v8 - (1 <<< (v15 &&& 31))) (fun v18 =>
  gz_j1 (f_X11_packs_J135 v18 v15 v8 a3 j242) (fun j135 =>
  gz_j0 (f_X11_packs_J134 j135) (fun j134 =>
  if v18 = 0 then
  (j134 σ16)
  else
  (gz_ix v18 4096 (fun n41 =>
  gz_ix v15 12 (fun n42 =>
  gz_ix (σ16.1 35 0 n42) 61 (fun n43 =>
  if (σ16.1 37 0 n41) < (σ16.1 16 0 n43) then
  (j134 σ16)
  else
  (j135 1 σ16)))))))))))
def f_X11_packs_L43 (v4 : Int32) (a3 : Int32) (j254 : gz_S → Option (Int32 × gz_S)) : (Int32 → gz_S → Option (Int32 × gz_S)) → Int32 → gz_S → Option (Int32 × gz_S) := fun rec43 v8 σ9 =>
  if (2 * v4) ≤ v8 then
  (j254 σ9)
  else
  (gz_ix v8 4096 (fun n10 =>
  gz_w (gz_si σ9 36 0 n10 13) (fun σ11 =>
  gz_ix v8 4096 (fun n12 =>
  gz_w (gz_si σ11 37 0 n12 0) (fun σ13 =>
  gz_j0 (f_X11_packs_J248 v8 rec43) (fun j248 =>
  gz_l1 (f_X11_packs_L72 v8 a3 j248) gz_fu 0 σ13))))))
def f_X11_packs (a1 : Int32) (a2 : Int32) (a3 : Int32) (σ : gz_S) : Option (Int32 × gz_S) :=
  if (σ.1 0 0 55) = 12 then
  (some ((0 : Int32) &&& 1, σ))
  else
  (gz_ix a1 61 (fun n1 =>
  if (σ.1 16 0 n1) ≤ a3 then
  (gz_ix (σ.1 0 0 55) 12 (fun n2 =>
  gz_w (gz_si σ 35 0 n2 a1) (fun σ3 =>
  gz_v (1 <<< ((σ3.1 0 0 55) &&& 31)) (fun v4 =>
  gz_j0 (f_X11_packs_J254 v4 a2) (fun j254 =>
  gz_l1 (f_X11_packs_L43 v4 a3 j254) gz_fu v4 σ3)))))
  else
  (some ((0 : Int32) &&& 1, σ))))
set_option maxHeartbeats 4000000 in
set_option maxRecDepth 100000 in
theorem c_X11_packs (l : Launch) (G : gz_G) (a1 : Int32) (a2 : Int32) (a3 : Int32) (σ : gz_S) : ∀ o, f_X11_packs a1 a2 a3 σ = some o → gz_M l true G yX11_packs cX11_packs 11 (some .boolean) { frames := 0, cells := 0, slots := 0, locals := 0 } [.ref (gz_ad true G 0 0), .int a1, .int a2, .int a3] σ (gz_ei o) 0 0 := by
  refine gz_enter RX11 rfl (by decide) (Nat.le_of_ble_eq_true rfl) ?_
  intro p e s m args below meth c C
  refine gz_eqs (st' := []) (lv' := [(0, .ref (gz_ad true G 0 0)), (1, .int a1), (2, .int a2), (3, .int a3)]) rfl rfl ?_
  unfold f_X11_packs
  refine gz_aload_n C dX11_packs_0 0 rfl ?_
  refine gz_get C (t := 0) (k := 55) (ci := 11) (q := (RX11, TX11, 63)) (v := .int (σ.1 0 0 55)) dX11_packs_1 fl_RX11_354 (gz_hm0 _) rfl rfl (by decide) rfl ?_
  refine gz_bipush C dX11_packs_4 gk_bipush_12 ?_
  refine gz_icmp_eq (tgt := 19) C dX11_packs_6 (by decide) ?_ ?_
  · skip
    refine gz_iconst C dX11_packs_19 gk_iconst_0 ?_
    exact gz_zret C rfl dX11_packs_20
  · skip
    refine gz_aload_n C dX11_packs_9 0 rfl ?_
    refine gz_get C (t := 0) (k := 33) (ci := 11) (q := (RX11, TX11, 63)) (v := .ref (gz_ad true G 16 0)) dX11_packs_10 fl_RX11_74 (gz_hm0 _) rfl rfl (by decide) rfl ?_
    refine gz_iload_n C dX11_packs_13 1 rfl ?_
    refine gz_iald C (t := 16) dX11_packs_14 (gz_hm16 _) rfl (fun n1 hn1 => ?_)
    refine gz_iload_n C dX11_packs_15 3 rfl ?_
    refine gz_icmp_le (tgt := 21) C dX11_packs_16 (by decide) ?_ ?_
    · skip
      refine gz_aload_n C dX11_packs_21 0 rfl ?_
      refine gz_get C (t := 0) (k := 52) (ci := 11) (q := (RX11, TX11, 63)) (v := .ref (gz_ad true G 35 0)) dX11_packs_22 fl_RX11_131 (gz_hm0 _) rfl rfl (by decide) rfl ?_
      refine gz_aload_n C dX11_packs_25 0 rfl ?_
      refine gz_get C (t := 0) (k := 55) (ci := 11) (q := (RX11, TX11, 63)) (v := .int (σ.1 0 0 55)) dX11_packs_26 fl_RX11_354 (gz_hm0 _) rfl rfl (by decide) rfl ?_
      refine gz_iload_n C dX11_packs_29 1 rfl ?_
      refine gz_iast C (t := 35) dX11_packs_30 (gz_hm35 _) rfl (fun n2 hn2 => ?_)
      refine gz_w_row (fun σ3 => ?_)
      refine gz_iconst C dX11_packs_31 gk_iconst_1 ?_
      refine gz_aload_n C dX11_packs_32 0 rfl ?_
      refine gz_get C (t := 0) (k := 55) (ci := 11) (q := (RX11, TX11, 63)) (v := .int (σ3.1 0 0 55)) dX11_packs_33 fl_RX11_354 (gz_hm0 _) rfl rfl (by decide) rfl ?_
      refine gz_ishl C dX11_packs_36 ?_
      refine gz_topI (fun v4 => ?_)
      refine gz_istore C (lv' := [(4, .int v4), (0, .ref (gz_ad true G 0 0)), (1, .int a1), (2, .int a2), (3, .int a3)]) dX11_packs_37 (by decide) rfl ?_
      refine gz_iload C dX11_packs_39 0 rfl ?_
      refine gz_istore C (lv' := [(5, .int v4), (4, .int v4), (0, .ref (gz_ad true G 0 0)), (1, .int a1), (2, .int a2), (3, .int a3)]) dX11_packs_41 (by decide) rfl ?_
      refine gz_j0_row (P := fun σ5 x => gz_W true p l e ({ frames := 0, cells := 0, slots := 0, locals := 0 } : Room) s m args below meth c G 11 (gz_Q true G below args s 0 0 gz_ei) 0 0 σ5 254 [(0, .ref (gz_ad true G 0 0)), (2, .int a2), (4, .int v4)] [] x) (fun σ5 => ?_) (fun j254 hj254 => ?_)
      · unfold f_X11_packs_J254
        refine gz_aload_n C dX11_packs_254 0 rfl ?_
        refine gz_get C (t := 0) (k := 53) (ci := 11) (q := (RX11, TX11, 63)) (v := .ref (gz_ad true G 36 0)) dX11_packs_255 fl_RX11_134 (gz_hm0 _) rfl rfl (by decide) rfl ?_
        refine gz_iconst C dX11_packs_258 gk_iconst_2 ?_
        refine gz_iload C dX11_packs_259 2 rfl ?_
        refine gz_imul C dX11_packs_261 ?_
        refine gz_iconst C dX11_packs_262 gk_iconst_1 ?_
        refine gz_isub C dX11_packs_263 ?_
        refine gz_iald C (t := 36) dX11_packs_264 (gz_hm36 _) rfl (fun n6 hn6 => ?_)
        refine gz_iload_n C dX11_packs_265 1 rfl ?_
        refine gz_icmp_le (tgt := 271) C dX11_packs_266 (by decide) ?_ ?_
        · skip
          refine gz_aload_n C dX11_packs_271 0 rfl ?_
          refine gz_dup C dX11_packs_272 rfl ?_
          refine gz_get C (t := 0) (k := 55) (ci := 11) (q := (RX11, TX11, 63)) (v := .int (σ5.1 0 0 55)) dX11_packs_273 fl_RX11_354 (gz_hm0 _) rfl rfl (by decide) rfl ?_
          refine gz_iconst C dX11_packs_276 gk_iconst_1 ?_
          refine gz_iadd C dX11_packs_277 ?_
          refine gz_putI C (t := 0) (k := 55) (ci := 11) (q := (RX11, TX11, 63)) dX11_packs_278 fl_RX11_354 (gz_hm0 _) rfl rfl (by decide) rfl rfl rfl rfl ?_
          refine gz_w_row (fun σ7 => ?_)
          refine gz_iconst C dX11_packs_281 gk_iconst_1 ?_
          exact gz_zret C rfl dX11_packs_282
        · skip
          refine gz_iconst C dX11_packs_269 gk_iconst_0 ?_
          exact gz_zret C rfl dX11_packs_270
      · skip
        refine gz_lv (lv' := [(0, .ref (gz_ad true G 0 0)), (2, .int a2), (3, .int a3), (4, .int v4), (5, .int v4)]) [2, 4, 5, 1, 0] rfl ?_
        refine gz_l1_ind (P := fun v8 σ9 x => gz_W true p l e ({ frames := 0, cells := 0, slots := 0, locals := 0 } : Room) s m args below meth c G 11 (gz_Q true G below args s 0 0 gz_ei) 0 0 σ9 43 [(0, .ref (gz_ad true G 0 0)), (2, .int a2), (3, .int a3), (4, .int v4), (5, .int v8)] [] x) (fun _ _ => gz_none) (fun rec43 hrec43 v8 σ9 => ?_) gz_fu v4 σ3
        unfold f_X11_packs_L43
        refine gz_iload C dX11_packs_43 4 rfl ?_
        refine gz_iconst C dX11_packs_45 gk_iconst_2 ?_
        refine gz_iload C dX11_packs_46 3 rfl ?_
        refine gz_imul C dX11_packs_48 ?_
        refine gz_icmp_ge (tgt := 254) C dX11_packs_49 (by decide) ?_ ?_
        · skip
          refine gz_lv (lv' := [(0, .ref (gz_ad true G 0 0)), (2, .int a2), (4, .int v4)]) [0, 1, 3] rfl ?_
          exact hj254 σ9
        · skip
          refine gz_aload_n C dX11_packs_52 0 rfl ?_
          refine gz_get C (t := 0) (k := 53) (ci := 11) (q := (RX11, TX11, 63)) (v := .ref (gz_ad true G 36 0)) dX11_packs_53 fl_RX11_134 (gz_hm0 _) rfl rfl (by decide) rfl ?_
          refine gz_iload C dX11_packs_56 4 rfl ?_
          refine gz_bipush C dX11_packs_58 gk_bipush_13 ?_
          refine gz_iast C (t := 36) dX11_packs_60 (gz_hm36 _) rfl (fun n10 hn10 => ?_)
          refine gz_w_row (fun σ11 => ?_)
          refine gz_aload_n C dX11_packs_61 0 rfl ?_
          refine gz_get C (t := 0) (k := 54) (ci := 11) (q := (RX11, TX11, 63)) (v := .ref (gz_ad true G 37 0)) dX11_packs_62 fl_RX11_137 (gz_hm0 _) rfl rfl (by decide) rfl ?_
          refine gz_iload C dX11_packs_65 4 rfl ?_
          refine gz_iconst C dX11_packs_67 gk_iconst_0 ?_
          refine gz_iast C (t := 37) dX11_packs_68 (gz_hm37 _) rfl (fun n12 hn12 => ?_)
          refine gz_w_row (fun σ13 => ?_)
          refine gz_iconst C dX11_packs_69 gk_iconst_0 ?_
          refine gz_istore C (lv' := [(6, .int 0), (0, .ref (gz_ad true G 0 0)), (2, .int a2), (3, .int a3), (4, .int v4), (5, .int v8)]) dX11_packs_70 (by decide) rfl ?_
          refine gz_j0_row (P := fun σ14 x => gz_W true p l e ({ frames := 0, cells := 0, slots := 0, locals := 0 } : Room) s m args below meth c G 11 (gz_Q true G below args s 0 0 gz_ei) 0 0 σ14 248 [(0, .ref (gz_ad true G 0 0)), (2, .int a2), (3, .int a3), (4, .int v4), (5, .int v8)] [] x) (fun σ14 => ?_) (fun j248 hj248 => ?_)
          · unfold f_X11_packs_J248
            refine gz_iinc C (q := 4) (v := v8 + 1) (lv' := [(5, .int (v8 + 1)), (0, .ref (gz_ad true G 0 0)), (2, .int a2), (3, .int a3), (4, .int v4)]) dX11_packs_248 rfl rfl (by decide) rfl ?_
            refine gz_goto (tgt := 43) C dX11_packs_251 (by decide) ?_
            refine gz_lv (lv' := [(0, .ref (gz_ad true G 0 0)), (2, .int a2), (3, .int a3), (4, .int v4), (5, .int (v8 + 1))]) [1, 2, 3, 4, 0] rfl ?_
            exact hrec43 (v8 + 1) σ14
          · skip
            refine gz_lv (lv' := [(0, .ref (gz_ad true G 0 0)), (2, .int a2), (3, .int a3), (4, .int v4), (5, .int v8), (6, .int 0)]) [1, 2, 3, 4, 5, 0] rfl ?_
            refine gz_l1_ind (P := fun v15 σ16 x => gz_W true p l e ({ frames := 0, cells := 0, slots := 0, locals := 0 } : Room) s m args below meth c G 11 (gz_Q true G below args s 0 0 gz_ei) 0 0 σ16 72 [(0, .ref (gz_ad true G 0 0)), (2, .int a2), (3, .int a3), (4, .int v4), (5, .int v8), (6, .int v15)] [] x) (fun _ _ => gz_none) (fun rec72 hrec72 v15 σ16 => ?_) gz_fu 0 σ13
            unfold f_X11_packs_L72
            refine gz_iload C dX11_packs_72 5 rfl ?_
            refine gz_aload_n C dX11_packs_74 0 rfl ?_
            refine gz_get C (t := 0) (k := 55) (ci := 11) (q := (RX11, TX11, 63)) (v := .int (σ16.1 0 0 55)) dX11_packs_75 fl_RX11_354 (gz_hm0 _) rfl rfl (by decide) rfl ?_
            refine gz_icmp_gt (tgt := 248) C dX11_packs_78 (by decide) ?_ ?_
            · skip
              refine gz_lv (lv' := [(0, .ref (gz_ad true G 0 0)), (2, .int a2), (3, .int a3), (4, .int v4), (5, .int v8)]) [0, 1, 2, 3, 4] rfl ?_
              exact hj248 σ16
            · skip
              refine gz_iload C dX11_packs_81 4 rfl ?_
              refine gz_iload C dX11_packs_83 5 rfl ?_
              refine gz_ishr C dX11_packs_85 ?_
              refine gz_iconst C dX11_packs_86 gk_iconst_1 ?_
              refine gz_iand C dX11_packs_87 ?_
              refine gz_j0_row (P := fun σ17 x => gz_W true p l e ({ frames := 0, cells := 0, slots := 0, locals := 0 } : Room) s m args below meth c G 11 (gz_Q true G below args s 0 0 gz_ei) 0 0 σ17 242 [(0, .ref (gz_ad true G 0 0)), (2, .int a2), (3, .int a3), (4, .int v4), (5, .int v8), (6, .int v15)] [] x) (fun σ17 => ?_) (fun j242 hj242 => ?_)
              · unfold f_X11_packs_J242
                refine gz_iinc C (q := 5) (v := v15 + 1) (lv' := [(6, .int (v15 + 1)), (0, .ref (gz_ad true G 0 0)), (2, .int a2), (3, .int a3), (4, .int v4), (5, .int v8)]) dX11_packs_242 rfl rfl (by decide) rfl ?_
                refine gz_goto (tgt := 72) C dX11_packs_245 (by decide) ?_
                refine gz_lv (lv' := [(0, .ref (gz_ad true G 0 0)), (2, .int a2), (3, .int a3), (4, .int v4), (5, .int v8), (6, .int (v15 + 1))]) [1, 2, 3, 4, 5, 0] rfl ?_
                exact hrec72 (v15 + 1) σ17
              · skip
                refine gz_if_ne (tgt := 94) C dX11_packs_88 (by decide) ?_ ?_
                · skip
                  refine gz_iload C dX11_packs_94 4 rfl ?_
                  refine gz_iconst C dX11_packs_96 gk_iconst_1 ?_
                  refine gz_iload C dX11_packs_97 5 rfl ?_
                  refine gz_ishl C dX11_packs_99 ?_
                  refine gz_isub C dX11_packs_100 ?_
                  refine gz_topI (fun v18 => ?_)
                  refine gz_istore C (lv' := [(7, .int v18), (0, .ref (gz_ad true G 0 0)), (2, .int a2), (3, .int a3), (4, .int v4), (5, .int v8), (6, .int v15)]) dX11_packs_101 (by decide) rfl ?_
                  refine gz_iload C dX11_packs_103 0 rfl ?_
                  refine gz_j1_row (P := fun x19 σ20 x => gz_W true p l e ({ frames := 0, cells := 0, slots := 0, locals := 0 } : Room) s m args below meth c G 11 (gz_Q true G below args s 0 0 gz_ei) 0 0 σ20 135 [(0, .ref (gz_ad true G 0 0)), (2, .int a2), (3, .int a3), (4, .int v4), (5, .int v8), (6, .int v15), (7, .int v18)] [.int x19] x) (fun x19 σ20 => ?_) (fun j135 hj135 => ?_)
                  · unfold f_X11_packs_J135
                    refine gz_istore C (lv' := [(8, .int x19), (0, .ref (gz_ad true G 0 0)), (2, .int a2), (3, .int a3), (4, .int v4), (5, .int v8), (6, .int v15), (7, .int v18)]) dX11_packs_135 (by decide) rfl ?_
                    refine gz_aload_n C dX11_packs_137 1 rfl ?_
                    refine gz_get C (t := 0) (k := 53) (ci := 11) (q := (RX11, TX11, 63)) (v := .ref (gz_ad true G 36 0)) dX11_packs_138 fl_RX11_134 (gz_hm0 _) rfl rfl (by decide) rfl ?_
                    refine gz_iload C dX11_packs_141 7 rfl ?_
                    refine gz_iald C (t := 36) dX11_packs_143 (gz_hm36 _) rfl (fun n21 hn21 => ?_)
                    refine gz_iload C dX11_packs_144 0 rfl ?_
                    refine gz_j2_row (P := fun x22 x23 σ24 x => gz_W true p l e ({ frames := 0, cells := 0, slots := 0, locals := 0 } : Room) s m args below meth c G 11 (gz_Q true G below args s 0 0 gz_ei) 0 0 σ24 154 [(0, .ref (gz_ad true G 0 0)), (2, .int a2), (3, .int a3), (4, .int v4), (5, .int v8), (6, .int v15), (7, .int v18), (8, .int x19)] [.int x23, .int x22] x) (fun x22 x23 σ24 => ?_) (fun j154 hj154 => ?_)
                    · unfold f_X11_packs_J154
                      refine gz_iadd C dX11_packs_154 ?_
                      refine gz_topI (fun v25 => ?_)
                      refine gz_istore C (lv' := [(9, .int v25), (0, .ref (gz_ad true G 0 0)), (2, .int a2), (3, .int a3), (4, .int v4), (5, .int v8), (6, .int v15), (7, .int v18), (8, .int x19)]) dX11_packs_155 (by decide) rfl ?_
                      refine gz_iload C dX11_packs_157 8 rfl ?_
                      refine gz_j1_row (P := fun x26 σ27 x => gz_W true p l e ({ frames := 0, cells := 0, slots := 0, locals := 0 } : Room) s m args below meth c G 11 (gz_Q true G below args s 0 0 gz_ei) 0 0 σ27 173 [(0, .ref (gz_ad true G 0 0)), (2, .int a2), (3, .int a3), (4, .int v4), (5, .int v8), (6, .int v15), (9, .int v25)] [.int x26] x) (fun x26 σ27 => ?_) (fun j173 hj173 => ?_)
                      · unfold f_X11_packs_J173
                        refine gz_aload_n C dX11_packs_173 0 rfl ?_
                        refine gz_get C (t := 0) (k := 33) (ci := 11) (q := (RX11, TX11, 63)) (v := .ref (gz_ad true G 16 0)) dX11_packs_174 fl_RX11_74 (gz_hm0 _) rfl rfl (by decide) rfl ?_
                        refine gz_aload_n C dX11_packs_177 0 rfl ?_
                        refine gz_get C (t := 0) (k := 52) (ci := 11) (q := (RX11, TX11, 63)) (v := .ref (gz_ad true G 35 0)) dX11_packs_178 fl_RX11_131 (gz_hm0 _) rfl rfl (by decide) rfl ?_
                        refine gz_iload C dX11_packs_181 5 rfl ?_
                        refine gz_iald C (t := 35) dX11_packs_183 (gz_hm35 _) rfl (fun n28 hn28 => ?_)
                        refine gz_iald C (t := 16) dX11_packs_184 (gz_hm16 _) rfl (fun n29 hn29 => ?_)
                        refine gz_isub C dX11_packs_185 ?_
                        refine gz_topI (fun v30 => ?_)
                        refine gz_istore C (lv' := [(10, .int v30), (0, .ref (gz_ad true G 0 0)), (2, .int a2), (3, .int a3), (4, .int v4), (5, .int v8), (6, .int v15), (9, .int v25)]) dX11_packs_186 (by decide) rfl ?_
                        refine gz_iload C dX11_packs_188 7 rfl ?_
                        refine gz_aload_n C dX11_packs_190 1 rfl ?_
                        refine gz_get C (t := 0) (k := 53) (ci := 11) (q := (RX11, TX11, 63)) (v := .ref (gz_ad true G 36 0)) dX11_packs_191 fl_RX11_134 (gz_hm0 _) rfl rfl (by decide) rfl ?_
                        refine gz_iload C dX11_packs_194 5 rfl ?_
                        refine gz_iald C (t := 36) dX11_packs_196 (gz_hm36 _) rfl (fun n31 hn31 => ?_)
                        refine gz_j0_row (P := fun σ32 x => gz_W true p l e ({ frames := 0, cells := 0, slots := 0, locals := 0 } : Room) s m args below meth c G 11 (gz_Q true G below args s 0 0 gz_ei) 0 0 σ32 224 [(0, .ref (gz_ad true G 0 0)), (2, .int a2), (3, .int a3), (4, .int v4), (5, .int v8), (6, .int v15), (9, .int v25), (10, .int v30)] [] x) (fun σ32 => ?_) (fun j224 hj224 => ?_)
                        · unfold f_X11_packs_J224
                          refine gz_aload_n C dX11_packs_224 0 rfl ?_
                          refine gz_get C (t := 0) (k := 53) (ci := 11) (q := (RX11, TX11, 63)) (v := .ref (gz_ad true G 36 0)) dX11_packs_225 fl_RX11_134 (gz_hm0 _) rfl rfl (by decide) rfl ?_
                          refine gz_iload C dX11_packs_228 4 rfl ?_
                          refine gz_iload C dX11_packs_230 6 rfl ?_
                          refine gz_iast C (t := 36) dX11_packs_232 (gz_hm36 _) rfl (fun n33 hn33 => ?_)
                          refine gz_w_row (fun σ34 => ?_)
                          refine gz_aload_n C dX11_packs_233 0 rfl ?_
                          refine gz_get C (t := 0) (k := 54) (ci := 11) (q := (RX11, TX11, 63)) (v := .ref (gz_ad true G 37 0)) dX11_packs_234 fl_RX11_137 (gz_hm0 _) rfl rfl (by decide) rfl ?_
                          refine gz_iload C dX11_packs_237 4 rfl ?_
                          refine gz_iload C dX11_packs_239 7 rfl ?_
                          refine gz_iast C (t := 37) dX11_packs_241 (gz_hm37 _) rfl (fun n35 hn35 => ?_)
                          refine gz_w_row (fun σ36 => ?_)
                          refine gz_lv (lv' := [(0, .ref (gz_ad true G 0 0)), (2, .int a2), (3, .int a3), (4, .int v4), (5, .int v8), (6, .int v15)]) [0, 1, 2, 3, 4, 5] rfl ?_
                          exact hj242 σ36
                        · skip
                          refine gz_icmp_lt (tgt := 224) C dX11_packs_197 (by decide) ?_ ?_
                          · skip
                            refine gz_lv (lv' := [(0, .ref (gz_ad true G 0 0)), (2, .int a2), (3, .int a3), (4, .int v4), (5, .int v8), (6, .int v15), (9, .int v25), (10, .int v30)]) [1, 2, 3, 4, 5, 6, 7, 0] rfl ?_
                            exact hj224 σ27
                          · skip
                            refine gz_iload C dX11_packs_200 7 rfl ?_
                            refine gz_aload_n C dX11_packs_202 1 rfl ?_
                            refine gz_get C (t := 0) (k := 53) (ci := 11) (q := (RX11, TX11, 63)) (v := .ref (gz_ad true G 36 0)) dX11_packs_203 fl_RX11_134 (gz_hm0 _) rfl rfl (by decide) rfl ?_
                            refine gz_iload C dX11_packs_206 5 rfl ?_
                            refine gz_iald C (t := 36) dX11_packs_208 (gz_hm36 _) rfl (fun n37 hn37 => ?_)
                            refine gz_icmp_ne (tgt := 242) C dX11_packs_209 (by decide) ?_ ?_
                            · skip
                              refine gz_lv (lv' := [(0, .ref (gz_ad true G 0 0)), (2, .int a2), (3, .int a3), (4, .int v4), (5, .int v8), (6, .int v15)]) [1, 2, 3, 4, 5, 6] rfl ?_
                              exact hj242 σ27
                            · skip
                              refine gz_iload C dX11_packs_212 0 rfl ?_
                              refine gz_aload_n C dX11_packs_214 1 rfl ?_
                              refine gz_get C (t := 0) (k := 54) (ci := 11) (q := (RX11, TX11, 63)) (v := .ref (gz_ad true G 37 0)) dX11_packs_215 fl_RX11_137 (gz_hm0 _) rfl rfl (by decide) rfl ?_
                              refine gz_iload C dX11_packs_218 5 rfl ?_
                              refine gz_iald C (t := 37) dX11_packs_220 (gz_hm37 _) rfl (fun n38 hn38 => ?_)
                              refine gz_icmp_le (tgt := 242) C dX11_packs_221 (by decide) ?_ ?_
                              · skip
                                refine gz_lv (lv' := [(0, .ref (gz_ad true G 0 0)), (2, .int a2), (3, .int a3), (4, .int v4), (5, .int v8), (6, .int v15)]) [1, 2, 3, 4, 5, 6] rfl ?_
                                exact hj242 σ27
                              · skip
                                refine gz_lv (lv' := [(0, .ref (gz_ad true G 0 0)), (2, .int a2), (3, .int a3), (4, .int v4), (5, .int v8), (6, .int v15), (9, .int v25), (10, .int v30)]) [1, 2, 3, 4, 5, 6, 7, 0] rfl ?_
                                exact hj224 σ27
                      · skip
                        refine gz_if_eq (tgt := 172) C dX11_packs_159 (by decide) ?_ ?_
                        · skip
                          refine gz_iload_n C dX11_packs_172 3 rfl ?_
                          refine gz_lv (lv' := [(0, .ref (gz_ad true G 0 0)), (2, .int a2), (3, .int a3), (4, .int v4), (5, .int v8), (6, .int v15), (9, .int v25)]) [1, 2, 3, 4, 5, 6, 0] rfl ?_
                          exact hj173 a3 σ24
                        · skip
                          refine gz_aload_n C dX11_packs_162 1 rfl ?_
                          refine gz_get C (t := 0) (k := 54) (ci := 11) (q := (RX11, TX11, 63)) (v := .ref (gz_ad true G 37 0)) dX11_packs_163 fl_RX11_137 (gz_hm0 _) rfl rfl (by decide) rfl ?_
                          refine gz_iload C dX11_packs_166 7 rfl ?_
                          refine gz_iald C (t := 37) dX11_packs_168 (gz_hm37 _) rfl (fun n39 hn39 => ?_)
                          refine gz_goto (tgt := 173) C dX11_packs_169 (by decide) ?_
                          refine gz_lv (lv' := [(0, .ref (gz_ad true G 0 0)), (2, .int a2), (3, .int a3), (4, .int v4), (5, .int v8), (6, .int v15), (9, .int v25)]) [1, 2, 3, 4, 5, 6, 0] rfl ?_
                          exact hj173 (σ24.1 37 0 n39) σ24
                    · skip
                      refine gz_if_eq (tgt := 153) C dX11_packs_146 (by decide) ?_ ?_
                      · skip
                        refine gz_iconst C dX11_packs_153 gk_iconst_1 ?_
                        refine gz_lv (lv' := [(0, .ref (gz_ad true G 0 0)), (2, .int a2), (3, .int a3), (4, .int v4), (5, .int v8), (6, .int v15), (7, .int v18), (8, .int x19)]) [1, 2, 3, 4, 5, 6, 7, 0] rfl ?_
                        exact hj154 (σ20.1 36 0 n21) 1 σ20
                      · skip
                        refine gz_iconst C dX11_packs_149 gk_iconst_0 ?_
                        refine gz_goto (tgt := 154) C dX11_packs_150 (by decide) ?_
                        refine gz_lv (lv' := [(0, .ref (gz_ad true G 0 0)), (2, .int a2), (3, .int a3), (4, .int v4), (5, .int v8), (6, .int v15), (7, .int v18), (8, .int x19)]) [1, 2, 3, 4, 5, 6, 7, 0] rfl ?_
                        exact hj154 (σ20.1 36 0 n21) 0 σ20
                  · skip
                    refine gz_j0_row (P := fun σ40 x => gz_W true p l e ({ frames := 0, cells := 0, slots := 0, locals := 0 } : Room) s m args below meth c G 11 (gz_Q true G below args s 0 0 gz_ei) 0 0 σ40 134 [(0, .ref (gz_ad true G 0 0)), (2, .int a2), (3, .int a3), (4, .int v4), (5, .int v8), (6, .int v15), (7, .int v18)] [] x) (fun σ40 => ?_) (fun j134 hj134 => ?_)
                    · unfold f_X11_packs_J134
                      refine gz_iconst C dX11_packs_134 gk_iconst_0 ?_
                      exact hj135 0 σ40
                    · skip
                      refine gz_if_eq (tgt := 134) C dX11_packs_105 (by decide) ?_ ?_
                      · skip
                        refine gz_lv (lv' := [(0, .ref (gz_ad true G 0 0)), (2, .int a2), (3, .int a3), (4, .int v4), (5, .int v8), (6, .int v15), (7, .int v18)]) [1, 2, 3, 4, 5, 6, 0] rfl ?_
                        exact hj134 σ16
                      · skip
                        refine gz_aload_n C dX11_packs_108 1 rfl ?_
                        refine gz_get C (t := 0) (k := 54) (ci := 11) (q := (RX11, TX11, 63)) (v := .ref (gz_ad true G 37 0)) dX11_packs_109 fl_RX11_137 (gz_hm0 _) rfl rfl (by decide) rfl ?_
                        refine gz_iload C dX11_packs_112 0 rfl ?_
                        refine gz_iald C (t := 37) dX11_packs_114 (gz_hm37 _) rfl (fun n41 hn41 => ?_)
                        refine gz_aload_n C dX11_packs_115 1 rfl ?_
                        refine gz_get C (t := 0) (k := 33) (ci := 11) (q := (RX11, TX11, 63)) (v := .ref (gz_ad true G 16 0)) dX11_packs_116 fl_RX11_74 (gz_hm0 _) rfl rfl (by decide) rfl ?_
                        refine gz_aload_n C dX11_packs_119 1 rfl ?_
                        refine gz_get C (t := 0) (k := 52) (ci := 11) (q := (RX11, TX11, 63)) (v := .ref (gz_ad true G 35 0)) dX11_packs_120 fl_RX11_131 (gz_hm0 _) rfl rfl (by decide) rfl ?_
                        refine gz_iload C dX11_packs_123 6 rfl ?_
                        refine gz_iald C (t := 35) dX11_packs_125 (gz_hm35 _) rfl (fun n42 hn42 => ?_)
                        refine gz_iald C (t := 16) dX11_packs_126 (gz_hm16 _) rfl (fun n43 hn43 => ?_)
                        refine gz_icmp_lt (tgt := 134) C dX11_packs_127 (by decide) ?_ ?_
                        · skip
                          refine gz_lv (lv' := [(0, .ref (gz_ad true G 0 0)), (2, .int a2), (3, .int a3), (4, .int v4), (5, .int v8), (6, .int v15), (7, .int v18)]) [1, 2, 3, 4, 5, 6, 0] rfl ?_
                          exact hj134 σ16
                        · skip
                          refine gz_iconst C dX11_packs_130 gk_iconst_1 ?_
                          refine gz_goto (tgt := 135) C dX11_packs_131 (by decide) ?_
                          refine gz_lv (lv' := [(0, .ref (gz_ad true G 0 0)), (2, .int a2), (3, .int a3), (4, .int v4), (5, .int v8), (6, .int v15), (7, .int v18)]) [1, 2, 3, 4, 5, 6, 0] rfl ?_
                          exact hj135 1 σ16
                · skip
                  refine gz_goto (tgt := 242) C dX11_packs_91 (by decide) ?_
                  exact hj242 σ16
    · skip
      refine gz_iconst C dX11_packs_19 gk_iconst_0 ?_
      exact gz_zret C rfl dX11_packs_20

def f_X11_waiting_J28 (v2 : Int32) (rec4 : Int32 → Int32 → gz_S → Option (Int32 × gz_S)) : Int32 → Int32 → gz_S → Option (Int32 × gz_S) := fun x5 x6 σ7 =>
  gz_v (x5 + x6) (fun v8 =>
  rec4 v8 (v2 + 1) σ7)
def f_X11_waiting_L4 : (Int32 → Int32 → gz_S → Option (Int32 × gz_S)) → Int32 → Int32 → gz_S → Option (Int32 × gz_S) := fun rec4 v1 v2 σ3 =>
  if (σ3.1 0 0 29) ≤ v2 then
  (some (v1, σ3))
  else
  (gz_ix v2 61 (fun n4 =>
  gz_j2 (f_X11_waiting_J28 v2 rec4) (fun j28 =>
  if (σ3.1 18 0 n4) = (-1) then
  (j28 v1 1 σ3)
  else
  (j28 v1 0 σ3))))
def f_X11_waiting (σ : gz_S) : Option (Int32 × gz_S) :=
  gz_l2 (f_X11_waiting_L4) gz_fu 0 0 σ
set_option maxHeartbeats 4000000 in
set_option maxRecDepth 100000 in
theorem c_X11_waiting (l : Launch) (G : gz_G) (σ : gz_S) : ∀ o, f_X11_waiting σ = some o → gz_M l true G yX11_waiting cX11_waiting 3 (some .int) { frames := 0, cells := 0, slots := 0, locals := 0 } [.ref (gz_ad true G 0 0)] σ (gz_ei o) 0 0 := by
  refine gz_enter RX11 rfl (by decide) (Nat.le_of_ble_eq_true rfl) ?_
  intro p e s m args below meth c C
  refine gz_eqs (st' := []) (lv' := [(0, .ref (gz_ad true G 0 0))]) rfl rfl ?_
  unfold f_X11_waiting
  refine gz_iconst C dX11_waiting_0 gk_iconst_0 ?_
  refine gz_istore_n C (lv' := [(1, .int 0), (0, .ref (gz_ad true G 0 0))]) dX11_waiting_1 (by decide) rfl ?_
  refine gz_iconst C dX11_waiting_2 gk_iconst_0 ?_
  refine gz_istore_n C (lv' := [(2, .int 0), (1, .int 0), (0, .ref (gz_ad true G 0 0))]) dX11_waiting_3 (by decide) rfl ?_
  refine gz_lv (lv' := [(0, .ref (gz_ad true G 0 0)), (1, .int 0), (2, .int 0)]) [2, 1, 0] rfl ?_
  refine gz_l2_ind (P := fun v1 v2 σ3 x => gz_W true p l e ({ frames := 0, cells := 0, slots := 0, locals := 0 } : Room) s m args below meth c G 3 (gz_Q true G below args s 0 0 gz_ei) 0 0 σ3 4 [(0, .ref (gz_ad true G 0 0)), (1, .int v1), (2, .int v2)] [] x) (fun _ _ _ => gz_none) (fun rec4 hrec4 v1 v2 σ3 => ?_) gz_fu 0 0 σ
  unfold f_X11_waiting_L4
  refine gz_iload_n C dX11_waiting_4 2 rfl ?_
  refine gz_aload_n C dX11_waiting_5 0 rfl ?_
  refine gz_get C (t := 0) (k := 29) (ci := 11) (q := (RX11, TX11, 63)) (v := .int (σ3.1 0 0 29)) dX11_waiting_6 fl_RX11_173 (gz_hm0 _) rfl rfl (by decide) rfl ?_
  refine gz_icmp_ge (tgt := 36) C dX11_waiting_9 (by decide) ?_ ?_
  · skip
    refine gz_iload_n C dX11_waiting_36 1 rfl ?_
    exact gz_iret C rfl dX11_waiting_37
  · skip
    refine gz_iload_n C dX11_waiting_12 1 rfl ?_
    refine gz_aload_n C dX11_waiting_13 0 rfl ?_
    refine gz_get C (t := 0) (k := 35) (ci := 11) (q := (RX11, TX11, 63)) (v := .ref (gz_ad true G 18 0)) dX11_waiting_14 fl_RX11_80 (gz_hm0 _) rfl rfl (by decide) rfl ?_
    refine gz_iload_n C dX11_waiting_17 2 rfl ?_
    refine gz_iald C (t := 18) dX11_waiting_18 (gz_hm18 _) rfl (fun n4 hn4 => ?_)
    refine gz_iconst C dX11_waiting_19 gk_iconst_m1 ?_
    refine gz_j2_row (P := fun x5 x6 σ7 x => gz_W true p l e ({ frames := 0, cells := 0, slots := 0, locals := 0 } : Room) s m args below meth c G 3 (gz_Q true G below args s 0 0 gz_ei) 0 0 σ7 28 [(0, .ref (gz_ad true G 0 0)), (2, .int v2)] [.int x6, .int x5] x) (fun x5 x6 σ7 => ?_) (fun j28 hj28 => ?_)
    · unfold f_X11_waiting_J28
      refine gz_iadd C dX11_waiting_28 ?_
      refine gz_topI (fun v8 => ?_)
      refine gz_istore_n C (lv' := [(1, .int v8), (0, .ref (gz_ad true G 0 0)), (2, .int v2)]) dX11_waiting_29 (by decide) rfl ?_
      refine gz_iinc C (q := 2) (v := v2 + 1) (lv' := [(2, .int (v2 + 1)), (1, .int v8), (0, .ref (gz_ad true G 0 0))]) dX11_waiting_30 rfl rfl (by decide) rfl ?_
      refine gz_goto (tgt := 4) C dX11_waiting_33 (by decide) ?_
      refine gz_lv (lv' := [(0, .ref (gz_ad true G 0 0)), (1, .int v8), (2, .int (v2 + 1))]) [2, 1, 0] rfl ?_
      exact hrec4 v8 (v2 + 1) σ7
    · skip
      refine gz_icmp_ne (tgt := 27) C dX11_waiting_20 (by decide) ?_ ?_
      · skip
        refine gz_iconst C dX11_waiting_27 gk_iconst_0 ?_
        refine gz_lv (lv' := [(0, .ref (gz_ad true G 0 0)), (2, .int v2)]) [0, 2] rfl ?_
        exact hj28 v1 0 σ3
      · skip
        refine gz_iconst C dX11_waiting_23 gk_iconst_1 ?_
        refine gz_goto (tgt := 28) C dX11_waiting_24 (by decide) ?_
        refine gz_lv (lv' := [(0, .ref (gz_ad true G 0 0)), (2, .int v2)]) [0, 2] rfl ?_
        exact hj28 v1 1 σ3

def f_X11_isIssue (a1 : Int32) (σ : gz_S) : Option (Int32 × gz_S) :=
  if a1 < 0 then
  (some ((0 : Int32) &&& 1, σ))
  else
  (if (σ.1 0 0 30) ≤ a1 then
  (some ((0 : Int32) &&& 1, σ))
  else
  (some ((1 : Int32) &&& 1, σ)))
set_option maxHeartbeats 4000000 in
set_option maxRecDepth 100000 in
theorem c_X11_isIssue (l : Launch) (G : gz_G) (a1 : Int32) (σ : gz_S) : ∀ o, f_X11_isIssue a1 σ = some o → gz_M l true G yX11_isIssue cX11_isIssue 2 (some .boolean) { frames := 0, cells := 0, slots := 0, locals := 0 } [.ref (gz_ad true G 0 0), .int a1] σ (gz_ei o) 0 0 := by
  refine gz_enter RX11 rfl (by decide) (Nat.le_of_ble_eq_true rfl) ?_
  intro p e s m args below meth c C
  refine gz_eqs (st' := []) (lv' := [(0, .ref (gz_ad true G 0 0)), (1, .int a1)]) rfl rfl ?_
  unfold f_X11_isIssue
  refine gz_iload_n C dX11_isIssue_0 1 rfl ?_
  refine gz_if_lt (tgt := 16) C dX11_isIssue_1 (by decide) ?_ ?_
  · skip
    refine gz_iconst C dX11_isIssue_16 gk_iconst_0 ?_
    exact gz_zret C rfl dX11_isIssue_17
  · skip
    refine gz_iload_n C dX11_isIssue_4 1 rfl ?_
    refine gz_aload_n C dX11_isIssue_5 0 rfl ?_
    refine gz_get C (t := 0) (k := 30) (ci := 11) (q := (RX11, TX11, 63)) (v := .int (σ.1 0 0 30)) dX11_isIssue_6 fl_RX11_357 (gz_hm0 _) rfl rfl (by decide) rfl ?_
    refine gz_icmp_ge (tgt := 16) C dX11_isIssue_9 (by decide) ?_ ?_
    · skip
      refine gz_iconst C dX11_isIssue_16 gk_iconst_0 ?_
      exact gz_zret C rfl dX11_isIssue_17
    · skip
      refine gz_iconst C dX11_isIssue_12 gk_iconst_1 ?_
      refine gz_goto (tgt := 17) C dX11_isIssue_13 (by decide) ?_
      exact gz_zret C rfl dX11_isIssue_17

def f_X11_issued (a1 : Int32) (a2 : Int32) (σ : gz_S) : Option (Int32 × gz_S) :=
  gz_w (gz_si σ 0 0 0 0) (fun σ1 =>
  gz_call (f_X11_isIssue a1 σ1) (fun r3 σ2 =>
  if r3 = 0 then
  (some ((-1), σ2))
  else
  (if a2 = 0 then
  (gz_ix a1 40 (fun n4 =>
  some (σ2.1 29 0 n4, σ2)))
  else
  (if a2 = 1 then
  (gz_ix a1 40 (fun n5 =>
  some (σ2.1 30 0 n5, σ2)))
  else
  (if a2 = 2 then
  (gz_ix a1 40 (fun n6 =>
  some (σ2.1 31 0 n6, σ2)))
  else
  (if a2 = 3 then
  (gz_ix a1 40 (fun n7 =>
  some (σ2.1 32 0 n7, σ2)))
  else
  (if a2 = 4 then
  (gz_ix a1 40 (fun n8 =>
  some (σ2.1 33 0 n8, σ2)))
  else
  (some ((-1), σ2)))))))))
set_option maxHeartbeats 4000000 in
set_option maxRecDepth 100000 in
theorem c_X11_issued (l : Launch) (G : gz_G) (a1 : Int32) (a2 : Int32) (σ : gz_S) : ∀ o, f_X11_issued a1 a2 σ = some o → gz_M l true G yX11_issued cX11_issued 3 (some .int) { frames := 1, cells := 0, slots := 0, locals := 21 } [.ref (gz_ad true G 0 0), .int a1, .int a2] σ (gz_ei o) 0 0 := by
  refine gz_enter RX11 rfl (by decide) (Nat.le_of_ble_eq_true rfl) ?_
  intro p e s m args below meth c C
  refine gz_eqs (st' := []) (lv' := [(0, .ref (gz_ad true G 0 0)), (1, .int a1), (2, .int a2)]) rfl rfl ?_
  unfold f_X11_issued
  refine gz_aload_n C dX11_issued_0 0 rfl ?_
  refine gz_iconst C dX11_issued_1 gk_iconst_0 ?_
  refine gz_putI C (t := 0) (k := 0) (ci := 11) (q := (RX11, TX11, 63)) dX11_issued_2 fl_RX11_158 (gz_hm0 _) rfl rfl (by decide) rfl rfl rfl rfl ?_
  refine gz_w_row (fun σ1 => ?_)
  refine gz_aload_n C dX11_issued_5 0 rfl ?_
  refine gz_iload_n C dX11_issued_6 1 rfl ?_
  refine gz_ki (gz_runV (t := 0) (ci := 11) (q := (RX11, TX11, 63)) (As := [.int a1]) (rest := []) C dX11_issued_7 ml_RX11_365 mw_X11_isIssue mv_X11_isIssue (c_X11_isIssue l G a1 σ1) (gz_hm0 _) rfl rfl rfl rfl rfl (Nat.le_of_ble_eq_true rfl) ⟨rfl, rfl, Nat.le_of_ble_eq_true rfl, Nat.le_of_ble_eq_true rfl, Nat.le_of_ble_eq_true rfl, Nat.le_of_ble_eq_true rfl⟩) (fun r3 σ2 => ?_)
  refine gz_if_ne (tgt := 15) C dX11_issued_10 (by decide) ?_ ?_
  · skip
    refine gz_iload_n C dX11_issued_15 2 rfl ?_
    refine gz_case 0 (fun hx0 => ?_) (fun hx0 => ?_)
    · rw [hx0]
      refine gz_tin (tgt := 52) (off := 36) C dX11_issued_16 (by decide) (by decide) rfl (by decide) ?_
      refine gz_aload_n C dX11_issued_52 0 rfl ?_
      refine gz_get C (t := 0) (k := 46) (ci := 11) (q := (RX11, TX11, 63)) (v := .ref (gz_ad true G 29 0)) dX11_issued_53 fl_RX11_113 (gz_hm0 _) rfl rfl (by decide) rfl ?_
      refine gz_iload_n C dX11_issued_56 1 rfl ?_
      refine gz_iald C (t := 29) dX11_issued_57 (gz_hm29 _) rfl (fun n4 hn4 => ?_)
      exact gz_iret C rfl dX11_issued_58
    refine gz_case 1 (fun hx1 => ?_) (fun hx1 => ?_)
    · rw [hx1]
      refine gz_tin (tgt := 59) (off := 43) C dX11_issued_16 (by decide) (by decide) rfl (by decide) ?_
      refine gz_aload_n C dX11_issued_59 0 rfl ?_
      refine gz_get C (t := 0) (k := 47) (ci := 11) (q := (RX11, TX11, 63)) (v := .ref (gz_ad true G 30 0)) dX11_issued_60 fl_RX11_116 (gz_hm0 _) rfl rfl (by decide) rfl ?_
      refine gz_iload_n C dX11_issued_63 1 rfl ?_
      refine gz_iald C (t := 30) dX11_issued_64 (gz_hm30 _) rfl (fun n5 hn5 => ?_)
      exact gz_iret C rfl dX11_issued_65
    refine gz_case 2 (fun hx2 => ?_) (fun hx2 => ?_)
    · rw [hx2]
      refine gz_tin (tgt := 66) (off := 50) C dX11_issued_16 (by decide) (by decide) rfl (by decide) ?_
      refine gz_aload_n C dX11_issued_66 0 rfl ?_
      refine gz_get C (t := 0) (k := 48) (ci := 11) (q := (RX11, TX11, 63)) (v := .ref (gz_ad true G 31 0)) dX11_issued_67 fl_RX11_119 (gz_hm0 _) rfl rfl (by decide) rfl ?_
      refine gz_iload_n C dX11_issued_70 1 rfl ?_
      refine gz_iald C (t := 31) dX11_issued_71 (gz_hm31 _) rfl (fun n6 hn6 => ?_)
      exact gz_iret C rfl dX11_issued_72
    refine gz_case 3 (fun hx3 => ?_) (fun hx3 => ?_)
    · rw [hx3]
      refine gz_tin (tgt := 73) (off := 57) C dX11_issued_16 (by decide) (by decide) rfl (by decide) ?_
      refine gz_aload_n C dX11_issued_73 0 rfl ?_
      refine gz_get C (t := 0) (k := 49) (ci := 11) (q := (RX11, TX11, 63)) (v := .ref (gz_ad true G 32 0)) dX11_issued_74 fl_RX11_122 (gz_hm0 _) rfl rfl (by decide) rfl ?_
      refine gz_iload_n C dX11_issued_77 1 rfl ?_
      refine gz_iald C (t := 32) dX11_issued_78 (gz_hm32 _) rfl (fun n7 hn7 => ?_)
      exact gz_iret C rfl dX11_issued_79
    refine gz_case 4 (fun hx4 => ?_) (fun hx4 => ?_)
    · rw [hx4]
      refine gz_tin (tgt := 80) (off := 64) C dX11_issued_16 (by decide) (by decide) rfl (by decide) ?_
      refine gz_aload_n C dX11_issued_80 0 rfl ?_
      refine gz_get C (t := 0) (k := 50) (ci := 11) (q := (RX11, TX11, 63)) (v := .ref (gz_ad true G 33 0)) dX11_issued_81 fl_RX11_125 (gz_hm0 _) rfl rfl (by decide) rfl ?_
      refine gz_iload_n C dX11_issued_84 1 rfl ?_
      refine gz_iald C (t := 33) dX11_issued_85 (gz_hm33 _) rfl (fun n8 hn8 => ?_)
      exact gz_iret C rfl dX11_issued_86
    refine gz_tout (tgt := 87) C dX11_issued_16 (by have q0 := lv_neT hx0 (a := 0) (by decide); have q1 := lv_neT hx1 (a := 1) (by decide); have q2 := lv_neT hx2 (a := 2) (by decide); have q3 := lv_neT hx3 (a := 3) (by decide); have q4 := lv_neT hx4 (a := 4) (by decide); omega) (by decide) ?_
    refine gz_iconst C dX11_issued_87 gk_iconst_m1 ?_
    exact gz_iret C rfl dX11_issued_88
  · skip
    refine gz_iconst C dX11_issued_13 gk_iconst_m1 ?_
    exact gz_iret C rfl dX11_issued_14
