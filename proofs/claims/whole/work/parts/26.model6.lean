def f_X11_granted (σ : gz_S) : Option (Int32 × gz_S) :=
  gz_w (gz_si σ 0 0 1 0) (fun σ1 =>
  gz_w (gz_si σ1 0 0 2 (-1)) (fun σ2 =>
  some ((1 : Int32) &&& 1, σ2)))
set_option maxHeartbeats 4000000 in
set_option maxRecDepth 100000 in
theorem c_X11_granted (l : Launch) (G : gz_G) (σ : gz_S) : ∀ o, f_X11_granted σ = some o → gz_M l true G yX11_granted cX11_granted 1 (some .boolean) { frames := 0, cells := 0, slots := 0, locals := 0 } [.ref (gz_ad true G 0 0)] σ (gz_ei o) 0 0 := by
  refine gz_enter RX11 rfl (by decide) (Nat.le_of_ble_eq_true rfl) ?_
  intro p e s m args below meth c C
  refine gz_eqs (st' := []) (lv' := [(0, .ref (gz_ad true G 0 0))]) rfl rfl ?_
  unfold f_X11_granted
  refine gz_aload_n C dX11_granted_0 0 rfl ?_
  refine gz_iconst C dX11_granted_1 gk_iconst_0 ?_
  refine gz_putI C (t := 0) (k := 1) (ci := 11) (q := (RX11, TX11, 63)) dX11_granted_2 fl_RX11_161 (gz_hm0 _) rfl rfl (by decide) rfl rfl rfl rfl ?_
  refine gz_w_row (fun σ1 => ?_)
  refine gz_aload_n C dX11_granted_5 0 rfl ?_
  refine gz_iconst C dX11_granted_6 gk_iconst_m1 ?_
  refine gz_putI C (t := 0) (k := 2) (ci := 11) (q := (RX11, TX11, 63)) dX11_granted_7 fl_RX11_11 (gz_hm0 _) rfl rfl (by decide) rfl rfl rfl rfl ?_
  refine gz_w_row (fun σ2 => ?_)
  refine gz_iconst C dX11_granted_10 gk_iconst_1 ?_
  exact gz_zret C rfl dX11_granted_11

def f_X11_corrects (a1 : Int32) (a2 : Int32) (σ : gz_S) : Option (Int32 × gz_S) :=
  gz_w (gz_si σ 0 0 0 0) (fun σ1 =>
  gz_call (f_X11_isNotice a2 σ1) (fun r3 σ2 =>
  if r3 = 0 then
  (gz_call (f_X11_denied 1 σ2) (fun r15 σ14 =>
  some (r15 &&& 1, σ14)))
  else
  (gz_call (f_X11_waits a1 σ2) (fun r5 σ4 =>
  if r5 = 0 then
  (some ((0 : Int32) &&& 1, σ4))
  else
  (if a2 < a1 then
  (gz_ix a1 61 (fun n6 =>
  gz_then (f_X11_act 4 a1 ((σ4.1 20 0 n6 : Int32).toInt64) 0 σ4) (fun σ7 =>
  gz_ix a1 61 (fun n8 =>
  gz_w (gz_si σ7 20 0 n8 a2) (fun σ9 =>
  gz_call (f_X11_granted σ9) (fun r11 σ10 =>
  some (r11 &&& 1, σ10)))))))
  else
  (gz_call (f_X11_denied 2 σ4) (fun r13 σ12 =>
  some (r13 &&& 1, σ12))))))))
set_option maxHeartbeats 4000000 in
set_option maxRecDepth 100000 in
theorem c_X11_corrects (l : Launch) (G : gz_G) (a1 : Int32) (a2 : Int32) (σ : gz_S) : ∀ o, f_X11_corrects a1 a2 σ = some o → gz_M l true G yX11_corrects cX11_corrects 3 (some .boolean) { frames := 2, cells := 0, slots := 0, locals := 42 } [.ref (gz_ad true G 0 0), .int a1, .int a2] σ (gz_ei o) 0 0 := by
  refine gz_enter RX11 rfl (by decide) (Nat.le_of_ble_eq_true rfl) ?_
  intro p e s m args below meth c C
  refine gz_eqs (st' := []) (lv' := [(0, .ref (gz_ad true G 0 0)), (1, .int a1), (2, .int a2)]) rfl rfl ?_
  unfold f_X11_corrects
  refine gz_aload_n C dX11_corrects_0 0 rfl ?_
  refine gz_iconst C dX11_corrects_1 gk_iconst_0 ?_
  refine gz_putI C (t := 0) (k := 0) (ci := 11) (q := (RX11, TX11, 63)) dX11_corrects_2 fl_RX11_158 (gz_hm0 _) rfl rfl (by decide) rfl rfl rfl rfl ?_
  refine gz_w_row (fun σ1 => ?_)
  refine gz_aload_n C dX11_corrects_5 0 rfl ?_
  refine gz_iload_n C dX11_corrects_6 2 rfl ?_
  refine gz_ki (gz_runV (t := 0) (ci := 11) (q := (RX11, TX11, 63)) (As := [.int a2]) (rest := []) C dX11_corrects_7 ml_RX11_328 mw_X11_isNotice mv_X11_isNotice (c_X11_isNotice l G a2 σ1) (gz_hm0 _) rfl rfl rfl rfl rfl (Nat.le_of_ble_eq_true rfl) ⟨rfl, rfl, Nat.le_of_ble_eq_true rfl, Nat.le_of_ble_eq_true rfl, Nat.le_of_ble_eq_true rfl, Nat.le_of_ble_eq_true rfl⟩) (fun r3 σ2 => ?_)
  refine gz_if_ne (tgt := 19) C dX11_corrects_10 (by decide) ?_ ?_
  · skip
    refine gz_aload_n C dX11_corrects_19 0 rfl ?_
    refine gz_iload_n C dX11_corrects_20 1 rfl ?_
    refine gz_ki (gz_runV (t := 0) (ci := 11) (q := (RX11, TX11, 63)) (As := [.int a1]) (rest := []) C dX11_corrects_21 ml_RX11_337 mw_X11_waits mv_X11_waits (c_X11_waits l G a1 σ2) (gz_hm0 _) rfl rfl rfl rfl rfl (Nat.le_of_ble_eq_true rfl) ⟨rfl, rfl, Nat.le_of_ble_eq_true rfl, Nat.le_of_ble_eq_true rfl, Nat.le_of_ble_eq_true rfl, Nat.le_of_ble_eq_true rfl⟩) (fun r5 σ4 => ?_)
    refine gz_if_ne (tgt := 29) C dX11_corrects_24 (by decide) ?_ ?_
    · skip
      refine gz_iload_n C dX11_corrects_29 2 rfl ?_
      refine gz_iload_n C dX11_corrects_30 1 rfl ?_
      refine gz_icmp_lt (tgt := 40) C dX11_corrects_31 (by decide) ?_ ?_
      · skip
        refine gz_aload_n C dX11_corrects_40 0 rfl ?_
        refine gz_iconst C dX11_corrects_41 gk_iconst_4 ?_
        refine gz_iload_n C dX11_corrects_42 1 rfl ?_
        refine gz_aload_n C dX11_corrects_43 0 rfl ?_
        refine gz_get C (t := 0) (k := 37) (ci := 11) (q := (RX11, TX11, 63)) (v := .ref (gz_ad true G 20 0)) dX11_corrects_44 fl_RX11_86 (gz_hm0 _) rfl rfl (by decide) rfl ?_
        refine gz_iload_n C dX11_corrects_47 1 rfl ?_
        refine gz_iald C (t := 20) dX11_corrects_48 (gz_hm20 _) rfl (fun n6 hn6 => ?_)
        refine gz_i2l C dX11_corrects_49 ?_
        refine gz_lconst C dX11_corrects_50 gk_lconst_0 ?_
        refine gz_kv (gz_runV (t := 0) (ci := 11) (q := (RX11, TX11, 63)) (As := [.int 4, .int a1, .long ((σ4.1 20 0 n6 : Int32).toInt64), .long 0]) (rest := []) C dX11_corrects_51 ml_RX11_183 mw_X11_act mv_X11_act (c_X11_act l G 4 a1 ((σ4.1 20 0 n6 : Int32).toInt64) 0 σ4) (gz_hm0 _) rfl rfl rfl rfl rfl (Nat.le_of_ble_eq_true rfl) ⟨rfl, rfl, Nat.le_of_ble_eq_true rfl, Nat.le_of_ble_eq_true rfl, Nat.le_of_ble_eq_true rfl, Nat.le_of_ble_eq_true rfl⟩) (fun σ7 => ?_)
        refine gz_aload_n C dX11_corrects_54 0 rfl ?_
        refine gz_get C (t := 0) (k := 37) (ci := 11) (q := (RX11, TX11, 63)) (v := .ref (gz_ad true G 20 0)) dX11_corrects_55 fl_RX11_86 (gz_hm0 _) rfl rfl (by decide) rfl ?_
        refine gz_iload_n C dX11_corrects_58 1 rfl ?_
        refine gz_iload_n C dX11_corrects_59 2 rfl ?_
        refine gz_iast C (t := 20) dX11_corrects_60 (gz_hm20 _) rfl (fun n8 hn8 => ?_)
        refine gz_w_row (fun σ9 => ?_)
        refine gz_aload_n C dX11_corrects_61 0 rfl ?_
        refine gz_ki (gz_runV (t := 0) (ci := 11) (q := (RX11, TX11, 63)) (As := []) (rest := []) C dX11_corrects_62 ml_RX11_340 mw_X11_granted mv_X11_granted (c_X11_granted l G σ9) (gz_hm0 _) rfl rfl rfl rfl rfl (Nat.le_of_ble_eq_true rfl) ⟨rfl, rfl, Nat.le_of_ble_eq_true rfl, Nat.le_of_ble_eq_true rfl, Nat.le_of_ble_eq_true rfl, Nat.le_of_ble_eq_true rfl⟩) (fun r11 σ10 => ?_)
        exact gz_zret C rfl dX11_corrects_65
      · skip
        refine gz_aload_n C dX11_corrects_34 0 rfl ?_
        refine gz_iconst C dX11_corrects_35 gk_iconst_2 ?_
        refine gz_ki (gz_runV (t := 0) (ci := 11) (q := (RX11, TX11, 63)) (As := [.int 2]) (rest := []) C dX11_corrects_36 ml_RX11_180 mw_X11_denied mv_X11_denied (c_X11_denied l G 2 σ4) (gz_hm0 _) rfl rfl rfl rfl rfl (Nat.le_of_ble_eq_true rfl) ⟨rfl, rfl, Nat.le_of_ble_eq_true rfl, Nat.le_of_ble_eq_true rfl, Nat.le_of_ble_eq_true rfl, Nat.le_of_ble_eq_true rfl⟩) (fun r13 σ12 => ?_)
        exact gz_zret C rfl dX11_corrects_39
    · skip
      refine gz_iconst C dX11_corrects_27 gk_iconst_0 ?_
      exact gz_zret C rfl dX11_corrects_28
  · skip
    refine gz_aload_n C dX11_corrects_13 0 rfl ?_
    refine gz_iconst C dX11_corrects_14 gk_iconst_1 ?_
    refine gz_ki (gz_runV (t := 0) (ci := 11) (q := (RX11, TX11, 63)) (As := [.int 1]) (rest := []) C dX11_corrects_15 ml_RX11_180 mw_X11_denied mv_X11_denied (c_X11_denied l G 1 σ2) (gz_hm0 _) rfl rfl rfl rfl rfl (Nat.le_of_ble_eq_true rfl) ⟨rfl, rfl, Nat.le_of_ble_eq_true rfl, Nat.le_of_ble_eq_true rfl, Nat.le_of_ble_eq_true rfl, Nat.le_of_ble_eq_true rfl⟩) (fun r15 σ14 => ?_)
    exact gz_zret C rfl dX11_corrects_18

def f_X11_isWord_J57 (v2 : Int64) (rec20 : Int32 → Int64 → gz_S → Option (Int32 × gz_S)) : Int32 → gz_S → Option (Int32 × gz_S) := fun x4 σ5 =>
  gz_v (v2 >>> ((5 : Int32).toInt64 &&& 63)) (fun v6 =>
  rec20 x4 v6 σ5)
def f_X11_isWord_J56 (j57 : Int32 → gz_S → Option (Int32 × gz_S)) : gz_S → Option (Int32 × gz_S) := fun σ7 =>
  j57 0 σ7
def f_X11_isWord_L20 : (Int32 → Int64 → gz_S → Option (Int32 × gz_S)) → Int32 → Int64 → gz_S → Option (Int32 × gz_S) := fun rec20 v1 v2 σ3 =>
  if (lg_cmp v2 0) ≤ 0 then
  (some (v1 &&& 1, σ3))
  else
  (gz_j1 (f_X11_isWord_J57 v2 rec20) (fun j57 =>
  gz_j0 (f_X11_isWord_J56 j57) (fun j56 =>
  if v1 = 0 then
  (j56 σ3)
  else
  (if (lg_cmp (v2 &&& 31) 0) ≤ 0 then
  (j56 σ3)
  else
  (if 0 ≤ (lg_cmp (v2 &&& 31) 27) then
  (j56 σ3)
  else
  (j57 1 σ3))))))
def f_X11_isWord (a0 : Int64) (σ : gz_S) : Option (Int32 × gz_S) :=
  if (lg_cmp a0 0) ≤ 0 then
  (some ((0 : Int32) &&& 1, σ))
  else
  (if (lg_cmp a0 1099511627776) < 0 then
  (gz_l2 (f_X11_isWord_L20) gz_fu 1 a0 σ)
  else
  (some ((0 : Int32) &&& 1, σ)))
set_option maxHeartbeats 4000000 in
set_option maxRecDepth 100000 in
theorem c_X11_isWord (l : Launch) (G : gz_G) (a0 : Int64) (σ : gz_S) : ∀ o, f_X11_isWord a0 σ = some o → gz_M l true G yX11_isWord cX11_isWord 5 (some .boolean) { frames := 0, cells := 0, slots := 0, locals := 0 } [.long a0] σ (gz_ei o) 0 0 := by
  refine gz_enter RX11 rfl (by decide) (Nat.le_of_ble_eq_true rfl) ?_
  intro p e s m args below meth c C
  refine gz_eqs (st' := []) (lv' := [(0, .long a0)]) rfl rfl ?_
  unfold f_X11_isWord
  refine gz_lload_n C dX11_isWord_0 0 rfl ?_
  refine gz_lconst C dX11_isWord_1 gk_lconst_0 ?_
  refine gz_lcmp C dX11_isWord_2 ?_
  refine gz_if_le (tgt := 14) C dX11_isWord_3 (by decide) ?_ ?_
  · skip
    refine gz_iconst C dX11_isWord_14 gk_iconst_0 ?_
    exact gz_zret C rfl dX11_isWord_15
  · skip
    refine gz_lload_n C dX11_isWord_6 0 rfl ?_
    refine gz_ldc2 C dX11_isWord_7 cw_RX11_344 ?_
    refine gz_lcmp C dX11_isWord_10 ?_
    refine gz_if_lt (tgt := 16) C dX11_isWord_11 (by decide) ?_ ?_
    · skip
      refine gz_iconst C dX11_isWord_16 gk_iconst_1 ?_
      refine gz_istore_n C (lv' := [(2, .int 1), (0, .long a0)]) dX11_isWord_17 (by decide) rfl ?_
      refine gz_lload_n C dX11_isWord_18 1 rfl ?_
      refine gz_lstore_n C (lv' := [(3, .long a0), (2, .int 1), (0, .long a0)]) dX11_isWord_19 (by decide) rfl ?_
      refine gz_lv (lv' := [(2, .int 1), (3, .long a0)]) [1, 0] rfl ?_
      refine gz_l2_ind (P := fun v1 v2 σ3 x => gz_W true p l e ({ frames := 0, cells := 0, slots := 0, locals := 0 } : Room) s m args below meth c G 5 (gz_Q true G below args s 0 0 gz_ei) 0 0 σ3 20 [(2, .int v1), (3, .long v2)] [] x) (fun _ _ _ => gz_none) (fun rec20 hrec20 v1 v2 σ3 => ?_) gz_fu 1 a0 σ
      unfold f_X11_isWord_L20
      refine gz_lload_n C dX11_isWord_20 1 rfl ?_
      refine gz_lconst C dX11_isWord_21 gk_lconst_0 ?_
      refine gz_lcmp C dX11_isWord_22 ?_
      refine gz_if_le (tgt := 65) C dX11_isWord_23 (by decide) ?_ ?_
      · skip
        refine gz_iload_n C dX11_isWord_65 0 rfl ?_
        exact gz_zret C rfl dX11_isWord_66
      · skip
        refine gz_iload_n C dX11_isWord_26 0 rfl ?_
        refine gz_j1_row (P := fun x4 σ5 x => gz_W true p l e ({ frames := 0, cells := 0, slots := 0, locals := 0 } : Room) s m args below meth c G 5 (gz_Q true G below args s 0 0 gz_ei) 0 0 σ5 57 [(3, .long v2)] [.int x4] x) (fun x4 σ5 => ?_) (fun j57 hj57 => ?_)
        · unfold f_X11_isWord_J57
          refine gz_istore_n C (lv' := [(2, .int x4), (3, .long v2)]) dX11_isWord_57 (by decide) rfl ?_
          refine gz_lload_n C dX11_isWord_58 1 rfl ?_
          refine gz_iconst C dX11_isWord_59 gk_iconst_5 ?_
          refine gz_lshr C dX11_isWord_60 ?_
          refine gz_topJ (fun v6 => ?_)
          refine gz_lstore_n C (lv' := [(3, .long v6), (2, .int x4)]) dX11_isWord_61 (by decide) rfl ?_
          refine gz_goto (tgt := 20) C dX11_isWord_62 (by decide) ?_
          refine gz_lv (lv' := [(2, .int x4), (3, .long v6)]) [1, 0] rfl ?_
          exact hrec20 x4 v6 σ5
        · skip
          refine gz_j0_row (P := fun σ7 x => gz_W true p l e ({ frames := 0, cells := 0, slots := 0, locals := 0 } : Room) s m args below meth c G 5 (gz_Q true G below args s 0 0 gz_ei) 0 0 σ7 56 [(3, .long v2)] [] x) (fun σ7 => ?_) (fun j56 hj56 => ?_)
          · unfold f_X11_isWord_J56
            refine gz_iconst C dX11_isWord_56 gk_iconst_0 ?_
            exact hj57 0 σ7
          · skip
            refine gz_if_eq (tgt := 56) C dX11_isWord_27 (by decide) ?_ ?_
            · skip
              refine gz_lv (lv' := [(3, .long v2)]) [1] rfl ?_
              exact hj56 σ3
            · skip
              refine gz_lload_n C dX11_isWord_30 1 rfl ?_
              refine gz_ldc2 C dX11_isWord_31 cw_RX11_346 ?_
              refine gz_land C dX11_isWord_34 ?_
              refine gz_lconst C dX11_isWord_35 gk_lconst_0 ?_
              refine gz_lcmp C dX11_isWord_36 ?_
              refine gz_if_le (tgt := 56) C dX11_isWord_37 (by decide) ?_ ?_
              · skip
                refine gz_lv (lv' := [(3, .long v2)]) [1] rfl ?_
                exact hj56 σ3
              · skip
                refine gz_lload_n C dX11_isWord_40 1 rfl ?_
                refine gz_ldc2 C dX11_isWord_41 cw_RX11_346 ?_
                refine gz_land C dX11_isWord_44 ?_
                refine gz_ldc2 C dX11_isWord_45 cw_RX11_348 ?_
                refine gz_lcmp C dX11_isWord_48 ?_
                refine gz_if_ge (tgt := 56) C dX11_isWord_49 (by decide) ?_ ?_
                · skip
                  refine gz_lv (lv' := [(3, .long v2)]) [1] rfl ?_
                  exact hj56 σ3
                · skip
                  refine gz_iconst C dX11_isWord_52 gk_iconst_1 ?_
                  refine gz_goto (tgt := 57) C dX11_isWord_53 (by decide) ?_
                  refine gz_lv (lv' := [(3, .long v2)]) [1] rfl ?_
                  exact hj57 1 σ3
    · skip
      refine gz_iconst C dX11_isWord_14 gk_iconst_0 ?_
      exact gz_zret C rfl dX11_isWord_15

def f_X11_renames (a1 : Int32) (a2 : Int64) (a3 : Int64) (σ : gz_S) : Option (Int32 × gz_S) :=
  gz_w (gz_si σ 0 0 0 0) (fun σ1 =>
  gz_call (f_X11_waits a1 σ1) (fun r3 σ2 =>
  if r3 = 0 then
  (some ((0 : Int32) &&& 1, σ2))
  else
  (gz_call (f_X11_isWord a2 σ2) (fun r5 σ4 =>
  if r5 = 0 then
  (gz_call (f_X11_denied 2 σ4) (fun r7 σ6 =>
  some (r7 &&& 1, σ6)))
  else
  (gz_call (f_X11_isWord a3 σ4) (fun r9 σ8 =>
  if r9 = 0 then
  (gz_call (f_X11_denied 2 σ8) (fun r11 σ10 =>
  some (r11 &&& 1, σ10)))
  else
  (if (lg_cmp a2 a3) = 0 then
  (gz_call (f_X11_denied 2 σ8) (fun r22 σ21 =>
  some (r22 &&& 1, σ21)))
  else
  (gz_ix a1 61 (fun n12 =>
  gz_ix a1 61 (fun n13 =>
  gz_then (f_X11_act 5 a1 (σ8.2.1 22 0 n12) (σ8.2.1 23 0 n13) σ8) (fun σ14 =>
  gz_ix a1 61 (fun n15 =>
  gz_w (gz_sj σ14 22 0 n15 a2) (fun σ16 =>
  gz_ix a1 61 (fun n17 =>
  gz_w (gz_sj σ16 23 0 n17 a3) (fun σ18 =>
  gz_call (f_X11_granted σ18) (fun r20 σ19 =>
  some (r20 &&& 1, σ19)))))))))))))))))
set_option maxHeartbeats 4000000 in
set_option maxRecDepth 100000 in
theorem c_X11_renames (l : Launch) (G : gz_G) (a1 : Int32) (a2 : Int64) (a3 : Int64) (σ : gz_S) : ∀ o, f_X11_renames a1 a2 a3 σ = some o → gz_M l true G yX11_renames cX11_renames 6 (some .boolean) { frames := 2, cells := 0, slots := 0, locals := 42 } [.ref (gz_ad true G 0 0), .int a1, .long a2, .long a3] σ (gz_ei o) 0 0 := by
  refine gz_enter RX11 rfl (by decide) (Nat.le_of_ble_eq_true rfl) ?_
  intro p e s m args below meth c C
  refine gz_eqs (st' := []) (lv' := [(0, .ref (gz_ad true G 0 0)), (1, .int a1), (2, .long a2), (4, .long a3)]) rfl rfl ?_
  unfold f_X11_renames
  refine gz_aload_n C dX11_renames_0 0 rfl ?_
  refine gz_iconst C dX11_renames_1 gk_iconst_0 ?_
  refine gz_putI C (t := 0) (k := 0) (ci := 11) (q := (RX11, TX11, 63)) dX11_renames_2 fl_RX11_158 (gz_hm0 _) rfl rfl (by decide) rfl rfl rfl rfl ?_
  refine gz_w_row (fun σ1 => ?_)
  refine gz_aload_n C dX11_renames_5 0 rfl ?_
  refine gz_iload_n C dX11_renames_6 1 rfl ?_
  refine gz_ki (gz_runV (t := 0) (ci := 11) (q := (RX11, TX11, 63)) (As := [.int a1]) (rest := []) C dX11_renames_7 ml_RX11_337 mw_X11_waits mv_X11_waits (c_X11_waits l G a1 σ1) (gz_hm0 _) rfl rfl rfl rfl rfl (Nat.le_of_ble_eq_true rfl) ⟨rfl, rfl, Nat.le_of_ble_eq_true rfl, Nat.le_of_ble_eq_true rfl, Nat.le_of_ble_eq_true rfl, Nat.le_of_ble_eq_true rfl⟩) (fun r3 σ2 => ?_)
  refine gz_if_ne (tgt := 15) C dX11_renames_10 (by decide) ?_ ?_
  · skip
    refine gz_lload_n C dX11_renames_15 2 rfl ?_
    refine gz_ki (gz_runS (As := [.long a2]) (rest := []) C dX11_renames_16 ml_RX11_350 mw_X11_isWord ms_X11_isWord (c_X11_isWord l G a2 σ2) rfl rfl (Nat.le_of_ble_eq_true rfl) ⟨rfl, rfl, Nat.le_of_ble_eq_true rfl, Nat.le_of_ble_eq_true rfl, Nat.le_of_ble_eq_true rfl, Nat.le_of_ble_eq_true rfl⟩) (fun r5 σ4 => ?_)
    refine gz_if_eq (tgt := 37) C dX11_renames_19 (by decide) ?_ ?_
    · skip
      refine gz_aload_n C dX11_renames_37 0 rfl ?_
      refine gz_iconst C dX11_renames_38 gk_iconst_2 ?_
      refine gz_ki (gz_runV (t := 0) (ci := 11) (q := (RX11, TX11, 63)) (As := [.int 2]) (rest := []) C dX11_renames_39 ml_RX11_180 mw_X11_denied mv_X11_denied (c_X11_denied l G 2 σ4) (gz_hm0 _) rfl rfl rfl rfl rfl (Nat.le_of_ble_eq_true rfl) ⟨rfl, rfl, Nat.le_of_ble_eq_true rfl, Nat.le_of_ble_eq_true rfl, Nat.le_of_ble_eq_true rfl, Nat.le_of_ble_eq_true rfl⟩) (fun r7 σ6 => ?_)
      exact gz_zret C rfl dX11_renames_42
    · skip
      refine gz_lload C dX11_renames_22 3 rfl ?_
      refine gz_ki (gz_runS (As := [.long a3]) (rest := []) C dX11_renames_24 ml_RX11_350 mw_X11_isWord ms_X11_isWord (c_X11_isWord l G a3 σ4) rfl rfl (Nat.le_of_ble_eq_true rfl) ⟨rfl, rfl, Nat.le_of_ble_eq_true rfl, Nat.le_of_ble_eq_true rfl, Nat.le_of_ble_eq_true rfl, Nat.le_of_ble_eq_true rfl⟩) (fun r9 σ8 => ?_)
      refine gz_if_eq (tgt := 37) C dX11_renames_27 (by decide) ?_ ?_
      · skip
        refine gz_aload_n C dX11_renames_37 0 rfl ?_
        refine gz_iconst C dX11_renames_38 gk_iconst_2 ?_
        refine gz_ki (gz_runV (t := 0) (ci := 11) (q := (RX11, TX11, 63)) (As := [.int 2]) (rest := []) C dX11_renames_39 ml_RX11_180 mw_X11_denied mv_X11_denied (c_X11_denied l G 2 σ8) (gz_hm0 _) rfl rfl rfl rfl rfl (Nat.le_of_ble_eq_true rfl) ⟨rfl, rfl, Nat.le_of_ble_eq_true rfl, Nat.le_of_ble_eq_true rfl, Nat.le_of_ble_eq_true rfl, Nat.le_of_ble_eq_true rfl⟩) (fun r11 σ10 => ?_)
        exact gz_zret C rfl dX11_renames_42
      · skip
        refine gz_lload_n C dX11_renames_30 2 rfl ?_
        refine gz_lload C dX11_renames_31 3 rfl ?_
        refine gz_lcmp C dX11_renames_33 ?_
        refine gz_if_ne (tgt := 43) C dX11_renames_34 (by decide) ?_ ?_
        · skip
          refine gz_aload_n C dX11_renames_43 0 rfl ?_
          refine gz_iconst C dX11_renames_44 gk_iconst_5 ?_
          refine gz_iload_n C dX11_renames_45 1 rfl ?_
          refine gz_aload_n C dX11_renames_46 0 rfl ?_
          refine gz_get C (t := 0) (k := 39) (ci := 11) (q := (RX11, TX11, 63)) (v := .ref (gz_ad true G 22 0)) dX11_renames_47 fl_RX11_92 (gz_hm0 _) rfl rfl (by decide) rfl ?_
          refine gz_iload_n C dX11_renames_50 1 rfl ?_
          refine gz_lald C (t := 22) dX11_renames_51 (gz_hm22 _) rfl (fun n12 hn12 => ?_)
          refine gz_aload_n C dX11_renames_52 0 rfl ?_
          refine gz_get C (t := 0) (k := 40) (ci := 11) (q := (RX11, TX11, 63)) (v := .ref (gz_ad true G 23 0)) dX11_renames_53 fl_RX11_95 (gz_hm0 _) rfl rfl (by decide) rfl ?_
          refine gz_iload_n C dX11_renames_56 1 rfl ?_
          refine gz_lald C (t := 23) dX11_renames_57 (gz_hm23 _) rfl (fun n13 hn13 => ?_)
          refine gz_kv (gz_runV (t := 0) (ci := 11) (q := (RX11, TX11, 63)) (As := [.int 5, .int a1, .long (σ8.2.1 22 0 n12), .long (σ8.2.1 23 0 n13)]) (rest := []) C dX11_renames_58 ml_RX11_183 mw_X11_act mv_X11_act (c_X11_act l G 5 a1 (σ8.2.1 22 0 n12) (σ8.2.1 23 0 n13) σ8) (gz_hm0 _) rfl rfl rfl rfl rfl (Nat.le_of_ble_eq_true rfl) ⟨rfl, rfl, Nat.le_of_ble_eq_true rfl, Nat.le_of_ble_eq_true rfl, Nat.le_of_ble_eq_true rfl, Nat.le_of_ble_eq_true rfl⟩) (fun σ14 => ?_)
          refine gz_aload_n C dX11_renames_61 0 rfl ?_
          refine gz_get C (t := 0) (k := 39) (ci := 11) (q := (RX11, TX11, 63)) (v := .ref (gz_ad true G 22 0)) dX11_renames_62 fl_RX11_92 (gz_hm0 _) rfl rfl (by decide) rfl ?_
          refine gz_iload_n C dX11_renames_65 1 rfl ?_
          refine gz_lload_n C dX11_renames_66 2 rfl ?_
          refine gz_last C (t := 22) dX11_renames_67 (gz_hm22 _) rfl (fun n15 hn15 => ?_)
          refine gz_w_row (fun σ16 => ?_)
          refine gz_aload_n C dX11_renames_68 0 rfl ?_
          refine gz_get C (t := 0) (k := 40) (ci := 11) (q := (RX11, TX11, 63)) (v := .ref (gz_ad true G 23 0)) dX11_renames_69 fl_RX11_95 (gz_hm0 _) rfl rfl (by decide) rfl ?_
          refine gz_iload_n C dX11_renames_72 1 rfl ?_
          refine gz_lload C dX11_renames_73 3 rfl ?_
          refine gz_last C (t := 23) dX11_renames_75 (gz_hm23 _) rfl (fun n17 hn17 => ?_)
          refine gz_w_row (fun σ18 => ?_)
          refine gz_aload_n C dX11_renames_76 0 rfl ?_
          refine gz_ki (gz_runV (t := 0) (ci := 11) (q := (RX11, TX11, 63)) (As := []) (rest := []) C dX11_renames_77 ml_RX11_340 mw_X11_granted mv_X11_granted (c_X11_granted l G σ18) (gz_hm0 _) rfl rfl rfl rfl rfl (Nat.le_of_ble_eq_true rfl) ⟨rfl, rfl, Nat.le_of_ble_eq_true rfl, Nat.le_of_ble_eq_true rfl, Nat.le_of_ble_eq_true rfl, Nat.le_of_ble_eq_true rfl⟩) (fun r20 σ19 => ?_)
          exact gz_zret C rfl dX11_renames_80
        · skip
          refine gz_aload_n C dX11_renames_37 0 rfl ?_
          refine gz_iconst C dX11_renames_38 gk_iconst_2 ?_
          refine gz_ki (gz_runV (t := 0) (ci := 11) (q := (RX11, TX11, 63)) (As := [.int 2]) (rest := []) C dX11_renames_39 ml_RX11_180 mw_X11_denied mv_X11_denied (c_X11_denied l G 2 σ8) (gz_hm0 _) rfl rfl rfl rfl rfl (Nat.le_of_ble_eq_true rfl) ⟨rfl, rfl, Nat.le_of_ble_eq_true rfl, Nat.le_of_ble_eq_true rfl, Nat.le_of_ble_eq_true rfl, Nat.le_of_ble_eq_true rfl⟩) (fun r22 σ21 => ?_)
          exact gz_zret C rfl dX11_renames_42
  · skip
    refine gz_iconst C dX11_renames_13 gk_iconst_0 ?_
    exact gz_zret C rfl dX11_renames_14

def f_X11_strikes (a1 : Int32) (a2 : Int64) (σ : gz_S) : Option (Int32 × gz_S) :=
  gz_w (gz_si σ 0 0 0 0) (fun σ1 =>
  gz_call (f_X11_waits a1 σ1) (fun r3 σ2 =>
  if r3 = 0 then
  (some ((0 : Int32) &&& 1, σ2))
  else
  (gz_call (f_X11_isWord a2 σ2) (fun r5 σ4 =>
  if r5 = 0 then
  (gz_call (f_X11_denied 2 σ4) (fun r13 σ12 =>
  some (r13 &&& 1, σ12)))
  else
  (gz_ix a1 61 (fun n6 =>
  gz_then (f_X11_act 6 a1 (σ4.2.1 24 0 n6) 0 σ4) (fun σ7 =>
  gz_ix a1 61 (fun n8 =>
  gz_w (gz_sj σ7 24 0 n8 a2) (fun σ9 =>
  gz_call (f_X11_granted σ9) (fun r11 σ10 =>
  some (r11 &&& 1, σ10)))))))))))
set_option maxHeartbeats 4000000 in
set_option maxRecDepth 100000 in
theorem c_X11_strikes (l : Launch) (G : gz_G) (a1 : Int32) (a2 : Int64) (σ : gz_S) : ∀ o, f_X11_strikes a1 a2 σ = some o → gz_M l true G yX11_strikes cX11_strikes 4 (some .boolean) { frames := 2, cells := 0, slots := 0, locals := 42 } [.ref (gz_ad true G 0 0), .int a1, .long a2] σ (gz_ei o) 0 0 := by
  refine gz_enter RX11 rfl (by decide) (Nat.le_of_ble_eq_true rfl) ?_
  intro p e s m args below meth c C
  refine gz_eqs (st' := []) (lv' := [(0, .ref (gz_ad true G 0 0)), (1, .int a1), (2, .long a2)]) rfl rfl ?_
  unfold f_X11_strikes
  refine gz_aload_n C dX11_strikes_0 0 rfl ?_
  refine gz_iconst C dX11_strikes_1 gk_iconst_0 ?_
  refine gz_putI C (t := 0) (k := 0) (ci := 11) (q := (RX11, TX11, 63)) dX11_strikes_2 fl_RX11_158 (gz_hm0 _) rfl rfl (by decide) rfl rfl rfl rfl ?_
  refine gz_w_row (fun σ1 => ?_)
  refine gz_aload_n C dX11_strikes_5 0 rfl ?_
  refine gz_iload_n C dX11_strikes_6 1 rfl ?_
  refine gz_ki (gz_runV (t := 0) (ci := 11) (q := (RX11, TX11, 63)) (As := [.int a1]) (rest := []) C dX11_strikes_7 ml_RX11_337 mw_X11_waits mv_X11_waits (c_X11_waits l G a1 σ1) (gz_hm0 _) rfl rfl rfl rfl rfl (Nat.le_of_ble_eq_true rfl) ⟨rfl, rfl, Nat.le_of_ble_eq_true rfl, Nat.le_of_ble_eq_true rfl, Nat.le_of_ble_eq_true rfl, Nat.le_of_ble_eq_true rfl⟩) (fun r3 σ2 => ?_)
  refine gz_if_ne (tgt := 15) C dX11_strikes_10 (by decide) ?_ ?_
  · skip
    refine gz_lload_n C dX11_strikes_15 2 rfl ?_
    refine gz_ki (gz_runS (As := [.long a2]) (rest := []) C dX11_strikes_16 ml_RX11_350 mw_X11_isWord ms_X11_isWord (c_X11_isWord l G a2 σ2) rfl rfl (Nat.le_of_ble_eq_true rfl) ⟨rfl, rfl, Nat.le_of_ble_eq_true rfl, Nat.le_of_ble_eq_true rfl, Nat.le_of_ble_eq_true rfl, Nat.le_of_ble_eq_true rfl⟩) (fun r5 σ4 => ?_)
    refine gz_if_ne (tgt := 28) C dX11_strikes_19 (by decide) ?_ ?_
    · skip
      refine gz_aload_n C dX11_strikes_28 0 rfl ?_
      refine gz_bipush C dX11_strikes_29 gk_bipush_6 ?_
      refine gz_iload_n C dX11_strikes_31 1 rfl ?_
      refine gz_aload_n C dX11_strikes_32 0 rfl ?_
      refine gz_get C (t := 0) (k := 41) (ci := 11) (q := (RX11, TX11, 63)) (v := .ref (gz_ad true G 24 0)) dX11_strikes_33 fl_RX11_98 (gz_hm0 _) rfl rfl (by decide) rfl ?_
      refine gz_iload_n C dX11_strikes_36 1 rfl ?_
      refine gz_lald C (t := 24) dX11_strikes_37 (gz_hm24 _) rfl (fun n6 hn6 => ?_)
      refine gz_lconst C dX11_strikes_38 gk_lconst_0 ?_
      refine gz_kv (gz_runV (t := 0) (ci := 11) (q := (RX11, TX11, 63)) (As := [.int 6, .int a1, .long (σ4.2.1 24 0 n6), .long 0]) (rest := []) C dX11_strikes_39 ml_RX11_183 mw_X11_act mv_X11_act (c_X11_act l G 6 a1 (σ4.2.1 24 0 n6) 0 σ4) (gz_hm0 _) rfl rfl rfl rfl rfl (Nat.le_of_ble_eq_true rfl) ⟨rfl, rfl, Nat.le_of_ble_eq_true rfl, Nat.le_of_ble_eq_true rfl, Nat.le_of_ble_eq_true rfl, Nat.le_of_ble_eq_true rfl⟩) (fun σ7 => ?_)
      refine gz_aload_n C dX11_strikes_42 0 rfl ?_
      refine gz_get C (t := 0) (k := 41) (ci := 11) (q := (RX11, TX11, 63)) (v := .ref (gz_ad true G 24 0)) dX11_strikes_43 fl_RX11_98 (gz_hm0 _) rfl rfl (by decide) rfl ?_
      refine gz_iload_n C dX11_strikes_46 1 rfl ?_
      refine gz_lload_n C dX11_strikes_47 2 rfl ?_
      refine gz_last C (t := 24) dX11_strikes_48 (gz_hm24 _) rfl (fun n8 hn8 => ?_)
      refine gz_w_row (fun σ9 => ?_)
      refine gz_aload_n C dX11_strikes_49 0 rfl ?_
      refine gz_ki (gz_runV (t := 0) (ci := 11) (q := (RX11, TX11, 63)) (As := []) (rest := []) C dX11_strikes_50 ml_RX11_340 mw_X11_granted mv_X11_granted (c_X11_granted l G σ9) (gz_hm0 _) rfl rfl rfl rfl rfl (Nat.le_of_ble_eq_true rfl) ⟨rfl, rfl, Nat.le_of_ble_eq_true rfl, Nat.le_of_ble_eq_true rfl, Nat.le_of_ble_eq_true rfl, Nat.le_of_ble_eq_true rfl⟩) (fun r11 σ10 => ?_)
      exact gz_zret C rfl dX11_strikes_53
    · skip
      refine gz_aload_n C dX11_strikes_22 0 rfl ?_
      refine gz_iconst C dX11_strikes_23 gk_iconst_2 ?_
      refine gz_ki (gz_runV (t := 0) (ci := 11) (q := (RX11, TX11, 63)) (As := [.int 2]) (rest := []) C dX11_strikes_24 ml_RX11_180 mw_X11_denied mv_X11_denied (c_X11_denied l G 2 σ4) (gz_hm0 _) rfl rfl rfl rfl rfl (Nat.le_of_ble_eq_true rfl) ⟨rfl, rfl, Nat.le_of_ble_eq_true rfl, Nat.le_of_ble_eq_true rfl, Nat.le_of_ble_eq_true rfl, Nat.le_of_ble_eq_true rfl⟩) (fun r13 σ12 => ?_)
      exact gz_zret C rfl dX11_strikes_27
  · skip
    refine gz_iconst C dX11_strikes_13 gk_iconst_0 ?_
    exact gz_zret C rfl dX11_strikes_14

def f_X11_packs_J254 (v4 : Int32) (a2 : Int32) : gz_S → Option (Int32 × gz_S) := fun σ5 =>
  gz_ix ((2 * v4) - 1) 4096 (fun n6 =>
  if (σ5.1 36 0 n6) ≤ a2 then
  (gz_w (gz_si σ5 0 0 55 ((σ5.1 0 0 55) + 1)) (fun σ7 =>
  some ((1 : Int32) &&& 1, σ7)))
  else
  (some ((0 : Int32) &&& 1, σ5)))
def f_X11_packs_J248 (v8 : Int32) (rec43 : Int32 → gz_S → Option (Int32 × gz_S)) : gz_S → Option (Int32 × gz_S) := fun σ14 =>
  rec43 (v8 + 1) σ14
def f_X11_packs_J242 (v15 : Int32) (rec72 : Int32 → gz_S → Option (Int32 × gz_S)) : gz_S → Option (Int32 × gz_S) := fun σ17 =>
  rec72 (v15 + 1) σ17
def f_X11_packs_J224 (v8 : Int32) (v25 : Int32) (v30 : Int32) (j242 : gz_S → Option (Int32 × gz_S)) : gz_S → Option (Int32 × gz_S) := fun σ32 =>
  gz_ix v8 4096 (fun n33 =>
  gz_w (gz_si σ32 36 0 n33 v25) (fun σ34 =>
  gz_ix v8 4096 (fun n35 =>
  gz_w (gz_si σ34 37 0 n35 v30) (fun σ36 =>
  j242 σ36))))
def f_X11_packs_J173 (v15 : Int32) (v8 : Int32) (v25 : Int32) (j242 : gz_S → Option (Int32 × gz_S)) : Int32 → gz_S → Option (Int32 × gz_S) := fun x26 σ27 =>
  gz_ix v15 12 (fun n28 =>
  gz_ix (σ27.1 35 0 n28) 61 (fun n29 =>
  gz_v (x26 - (σ27.1 16 0 n29)) (fun v30 =>
  gz_ix v8 4096 (fun n31 =>
  gz_j0 (f_X11_packs_J224 v8 v25 v30 j242) (fun j224 =>
  if v25 < (σ27.1 36 0 n31) then
  (j224 σ27)
  else
  (gz_ix v8 4096 (fun n37 =>
  if v25 = (σ27.1 36 0 n37) then
  (gz_ix v8 4096 (fun n38 =>
  if v30 ≤ (σ27.1 37 0 n38) then
  (j242 σ27)
  else
  (j224 σ27)))
  else
  (j242 σ27))))))))
def f_X11_packs_J154 (v15 : Int32) (v8 : Int32) (x19 : Int32) (a3 : Int32) (v18 : Int32) (j242 : gz_S → Option (Int32 × gz_S)) : Int32 → Int32 → gz_S → Option (Int32 × gz_S) := fun x22 x23 σ24 =>
  gz_v (x22 + x23) (fun v25 =>
  gz_j1 (f_X11_packs_J173 v15 v8 v25 j242) (fun j173 =>
  if x19 = 0 then
  (j173 a3 σ24)
  else
  (gz_ix v18 4096 (fun n39 =>
  j173 (σ24.1 37 0 n39) σ24))))
def f_X11_packs_J135 (v18 : Int32) (v15 : Int32) (v8 : Int32) (a3 : Int32) (j242 : gz_S → Option (Int32 × gz_S)) : Int32 → gz_S → Option (Int32 × gz_S) := fun x19 σ20 =>
  gz_ix v18 4096 (fun n21 =>
  gz_j2 (f_X11_packs_J154 v15 v8 x19 a3 v18 j242) (fun j154 =>
  if x19 = 0 then
  (j154 (σ20.1 36 0 n21) 1 σ20)
  else
  (j154 (σ20.1 36 0 n21) 0 σ20)))
def f_X11_packs_J134 (j135 : Int32 → gz_S → Option (Int32 × gz_S)) : gz_S → Option (Int32 × gz_S) := fun σ40 =>
  j135 0 σ40
def f_X11_packs_L72 (v8 : Int32) (a3 : Int32) (j248 : gz_S → Option (Int32 × gz_S)) : (Int32 → gz_S → Option (Int32 × gz_S)) → Int32 → gz_S → Option (Int32 × gz_S) := fun rec72 v15 σ16 =>
  if (σ16.1 0 0 55) < v15 then
  (j248 σ16)
  else
  (gz_j0 (f_X11_packs_J242 v15 rec72) (fun j242 =>
  if ((v8 >>> (v15 &&& 31)) &&& 1) = 0 then
  (j242 σ16)
  else
  (gz_v (v8 - (1 <<< (v15 &&& 31))) (fun v18 =>
  gz_j1 (f_X11_packs_J135 v18 v15 v8 a3 j242) (fun j135 =>
  gz_j0 (f_X11_packs_J134 j135) (fun j134 =>
  if v18 = 0 then
  (j134 σ16)
  else
  (gz_ix v18 4096 (fun n41 =>
  gz_ix v15 12 (fun n42 =>
  gz_ix (σ16.1 35 0 n42) 61 (fun n43 =>
  if (σ16.1 37 0 n41) < (σ16.1 16 0 n43) then
  (j134 σ16)
  else
  (j135 1 σ16)))))))))))
def f_X11_packs_L43 (v4 : Int32) (a3 : Int32) (j254 : gz_S → Option (Int32 × gz_S)) : (Int32 → gz_S → Option (Int32 × gz_S)) → Int32 → gz_S → Option (Int32 × gz_S) := fun rec43 v8 σ9 =>
  if (2 * v4) ≤ v8 then
  (j254 σ9)
  else
  (gz_ix v8 4096 (fun n10 =>
  gz_w (gz_si σ9 36 0 n10 13) (fun σ11 =>
  gz_ix v8 4096 (fun n12 =>
  gz_w (gz_si σ11 37 0 n12 0) (fun σ13 =>
  gz_j0 (f_X11_packs_J248 v8 rec43) (fun j248 =>
  gz_l1 (f_X11_packs_L72 v8 a3 j248) gz_fu 0 σ13))))))
def f_X11_packs (a1 : Int32) (a2 : Int32) (a3 : Int32) (σ : gz_S) : Option (Int32 × gz_S) :=
  if (σ.1 0 0 55) = 12 then
  (some ((0 : Int32) &&& 1, σ))
  else
  (gz_ix a1 61 (fun n1 =>
  if (σ.1 16 0 n1) ≤ a3 then
  (gz_ix (σ.1 0 0 55) 12 (fun n2 =>
  gz_w (gz_si σ 35 0 n2 a1) (fun σ3 =>
  gz_v (1 <<< ((σ3.1 0 0 55) &&& 31)) (fun v4 =>
  gz_j0 (f_X11_packs_J254 v4 a2) (fun j254 =>
  gz_l1 (f_X11_packs_L43 v4 a3 j254) gz_fu v4 σ3)))))
  else
  (some ((0 : Int32) &&& 1, σ))))
set_option maxHeartbeats 4000000 in
set_option maxRecDepth 100000 in
theorem c_X11_packs (l : Launch) (G : gz_G) (a1 : Int32) (a2 : Int32) (a3 : Int32) (σ : gz_S) : ∀ o, f_X11_packs a1 a2 a3 σ = some o → gz_M l true G yX11_packs cX11_packs 11 (some .boolean) { frames := 0, cells := 0, slots := 0, locals := 0 } [.ref (gz_ad true G 0 0), .int a1, .int a2, .int a3] σ (gz_ei o) 0 0 := by
  refine gz_enter RX11 rfl (by decide) (Nat.le_of_ble_eq_true rfl) ?_
  intro p e s m args below meth c C
  refine gz_eqs (st' := []) (lv' := [(0, .ref (gz_ad true G 0 0)), (1, .int a1), (2, .int a2), (3, .int a3)]) rfl rfl ?_
  unfold f_X11_packs
  refine gz_aload_n C dX11_packs_0 0 rfl ?_
  refine gz_get C (t := 0) (k := 55) (ci := 11) (q := (RX11, TX11, 63)) (v := .int (σ.1 0 0 55)) dX11_packs_1 fl_RX11_354 (gz_hm0 _) rfl rfl (by decide) rfl ?_
  refine gz_bipush C dX11_packs_4 gk_bipush_12 ?_
  refine gz_icmp_eq (tgt := 19) C dX11_packs_6 (by decide) ?_ ?_
  · skip
    refine gz_iconst C dX11_packs_19 gk_iconst_0 ?_
    exact gz_zret C rfl dX11_packs_20
  · skip
    refine gz_aload_n C dX11_packs_9 0 rfl ?_
    refine gz_get C (t := 0) (k := 33) (ci := 11) (q := (RX11, TX11, 63)) (v := .ref (gz_ad true G 16 0)) dX11_packs_10 fl_RX11_74 (gz_hm0 _) rfl rfl (by decide) rfl ?_
    refine gz_iload_n C dX11_packs_13 1 rfl ?_
    refine gz_iald C (t := 16) dX11_packs_14 (gz_hm16 _) rfl (fun n1 hn1 => ?_)
    refine gz_iload_n C dX11_packs_15 3 rfl ?_
    refine gz_icmp_le (tgt := 21) C dX11_packs_16 (by decide) ?_ ?_
    · skip
      refine gz_aload_n C dX11_packs_21 0 rfl ?_
      refine gz_get C (t := 0) (k := 52) (ci := 11) (q := (RX11, TX11, 63)) (v := .ref (gz_ad true G 35 0)) dX11_packs_22 fl_RX11_131 (gz_hm0 _) rfl rfl (by decide) rfl ?_
      refine gz_aload_n C dX11_packs_25 0 rfl ?_
      refine gz_get C (t := 0) (k := 55) (ci := 11) (q := (RX11, TX11, 63)) (v := .int (σ.1 0 0 55)) dX11_packs_26 fl_RX11_354 (gz_hm0 _) rfl rfl (by decide) rfl ?_
      refine gz_iload_n C dX11_packs_29 1 rfl ?_
      refine gz_iast C (t := 35) dX11_packs_30 (gz_hm35 _) rfl (fun n2 hn2 => ?_)
      refine gz_w_row (fun σ3 => ?_)
      refine gz_iconst C dX11_packs_31 gk_iconst_1 ?_
      refine gz_aload_n C dX11_packs_32 0 rfl ?_
      refine gz_get C (t := 0) (k := 55) (ci := 11) (q := (RX11, TX11, 63)) (v := .int (σ3.1 0 0 55)) dX11_packs_33 fl_RX11_354 (gz_hm0 _) rfl rfl (by decide) rfl ?_
      refine gz_ishl C dX11_packs_36 ?_
      refine gz_topI (fun v4 => ?_)
      refine gz_istore C (lv' := [(4, .int v4), (0, .ref (gz_ad true G 0 0)), (1, .int a1), (2, .int a2), (3, .int a3)]) dX11_packs_37 (by decide) rfl ?_
      refine gz_iload C dX11_packs_39 0 rfl ?_
      refine gz_istore C (lv' := [(5, .int v4), (4, .int v4), (0, .ref (gz_ad true G 0 0)), (1, .int a1), (2, .int a2), (3, .int a3)]) dX11_packs_41 (by decide) rfl ?_
      refine gz_j0_row (P := fun σ5 x => gz_W true p l e ({ frames := 0, cells := 0, slots := 0, locals := 0 } : Room) s m args below meth c G 11 (gz_Q true G below args s 0 0 gz_ei) 0 0 σ5 254 [(0, .ref (gz_ad true G 0 0)), (2, .int a2), (4, .int v4)] [] x) (fun σ5 => ?_) (fun j254 hj254 => ?_)
      · unfold f_X11_packs_J254
        refine gz_aload_n C dX11_packs_254 0 rfl ?_
        refine gz_get C (t := 0) (k := 53) (ci := 11) (q := (RX11, TX11, 63)) (v := .ref (gz_ad true G 36 0)) dX11_packs_255 fl_RX11_134 (gz_hm0 _) rfl rfl (by decide) rfl ?_
        refine gz_iconst C dX11_packs_258 gk_iconst_2 ?_
        refine gz_iload C dX11_packs_259 2 rfl ?_
        refine gz_imul C dX11_packs_261 ?_
        refine gz_iconst C dX11_packs_262 gk_iconst_1 ?_
        refine gz_isub C dX11_packs_263 ?_
        refine gz_iald C (t := 36) dX11_packs_264 (gz_hm36 _) rfl (fun n6 hn6 => ?_)
        refine gz_iload_n C dX11_packs_265 1 rfl ?_
        refine gz_icmp_le (tgt := 271) C dX11_packs_266 (by decide) ?_ ?_
        · skip
          refine gz_aload_n C dX11_packs_271 0 rfl ?_
          refine gz_dup C dX11_packs_272 rfl ?_
          refine gz_get C (t := 0) (k := 55) (ci := 11) (q := (RX11, TX11, 63)) (v := .int (σ5.1 0 0 55)) dX11_packs_273 fl_RX11_354 (gz_hm0 _) rfl rfl (by decide) rfl ?_
          refine gz_iconst C dX11_packs_276 gk_iconst_1 ?_
          refine gz_iadd C dX11_packs_277 ?_
          refine gz_putI C (t := 0) (k := 55) (ci := 11) (q := (RX11, TX11, 63)) dX11_packs_278 fl_RX11_354 (gz_hm0 _) rfl rfl (by decide) rfl rfl rfl rfl ?_
          refine gz_w_row (fun σ7 => ?_)
          refine gz_iconst C dX11_packs_281 gk_iconst_1 ?_
          exact gz_zret C rfl dX11_packs_282
        · skip
          refine gz_iconst C dX11_packs_269 gk_iconst_0 ?_
          exact gz_zret C rfl dX11_packs_270
      · skip
        refine gz_lv (lv' := [(0, .ref (gz_ad true G 0 0)), (2, .int a2), (3, .int a3), (4, .int v4), (5, .int v4)]) [2, 4, 5, 1, 0] rfl ?_
        refine gz_l1_ind (P := fun v8 σ9 x => gz_W true p l e ({ frames := 0, cells := 0, slots := 0, locals := 0 } : Room) s m args below meth c G 11 (gz_Q true G below args s 0 0 gz_ei) 0 0 σ9 43 [(0, .ref (gz_ad true G 0 0)), (2, .int a2), (3, .int a3), (4, .int v4), (5, .int v8)] [] x) (fun _ _ => gz_none) (fun rec43 hrec43 v8 σ9 => ?_) gz_fu v4 σ3
        unfold f_X11_packs_L43
        refine gz_iload C dX11_packs_43 4 rfl ?_
        refine gz_iconst C dX11_packs_45 gk_iconst_2 ?_
        refine gz_iload C dX11_packs_46 3 rfl ?_
        refine gz_imul C dX11_packs_48 ?_
        refine gz_icmp_ge (tgt := 254) C dX11_packs_49 (by decide) ?_ ?_
        · skip
          refine gz_lv (lv' := [(0, .ref (gz_ad true G 0 0)), (2, .int a2), (4, .int v4)]) [0, 1, 3] rfl ?_
          exact hj254 σ9
        · skip
          refine gz_aload_n C dX11_packs_52 0 rfl ?_
          refine gz_get C (t := 0) (k := 53) (ci := 11) (q := (RX11, TX11, 63)) (v := .ref (gz_ad true G 36 0)) dX11_packs_53 fl_RX11_134 (gz_hm0 _) rfl rfl (by decide) rfl ?_
          refine gz_iload C dX11_packs_56 4 rfl ?_
          refine gz_bipush C dX11_packs_58 gk_bipush_13 ?_
          refine gz_iast C (t := 36) dX11_packs_60 (gz_hm36 _) rfl (fun n10 hn10 => ?_)
          refine gz_w_row (fun σ11 => ?_)
          refine gz_aload_n C dX11_packs_61 0 rfl ?_
          refine gz_get C (t := 0) (k := 54) (ci := 11) (q := (RX11, TX11, 63)) (v := .ref (gz_ad true G 37 0)) dX11_packs_62 fl_RX11_137 (gz_hm0 _) rfl rfl (by decide) rfl ?_
          refine gz_iload C dX11_packs_65 4 rfl ?_
          refine gz_iconst C dX11_packs_67 gk_iconst_0 ?_
          refine gz_iast C (t := 37) dX11_packs_68 (gz_hm37 _) rfl (fun n12 hn12 => ?_)
          refine gz_w_row (fun σ13 => ?_)
          refine gz_iconst C dX11_packs_69 gk_iconst_0 ?_
          refine gz_istore C (lv' := [(6, .int 0), (0, .ref (gz_ad true G 0 0)), (2, .int a2), (3, .int a3), (4, .int v4), (5, .int v8)]) dX11_packs_70 (by decide) rfl ?_
          refine gz_j0_row (P := fun σ14 x => gz_W true p l e ({ frames := 0, cells := 0, slots := 0, locals := 0 } : Room) s m args below meth c G 11 (gz_Q true G below args s 0 0 gz_ei) 0 0 σ14 248 [(0, .ref (gz_ad true G 0 0)), (2, .int a2), (3, .int a3), (4, .int v4), (5, .int v8)] [] x) (fun σ14 => ?_) (fun j248 hj248 => ?_)
          · unfold f_X11_packs_J248
            refine gz_iinc C (q := 4) (v := v8 + 1) (lv' := [(5, .int (v8 + 1)), (0, .ref (gz_ad true G 0 0)), (2, .int a2), (3, .int a3), (4, .int v4)]) dX11_packs_248 rfl rfl (by decide) rfl ?_
            refine gz_goto (tgt := 43) C dX11_packs_251 (by decide) ?_
            refine gz_lv (lv' := [(0, .ref (gz_ad true G 0 0)), (2, .int a2), (3, .int a3), (4, .int v4), (5, .int (v8 + 1))]) [1, 2, 3, 4, 0] rfl ?_
            exact hrec43 (v8 + 1) σ14
          · skip
            refine gz_lv (lv' := [(0, .ref (gz_ad true G 0 0)), (2, .int a2), (3, .int a3), (4, .int v4), (5, .int v8), (6, .int 0)]) [1, 2, 3, 4, 5, 0] rfl ?_
            refine gz_l1_ind (P := fun v15 σ16 x => gz_W true p l e ({ frames := 0, cells := 0, slots := 0, locals := 0 } : Room) s m args below meth c G 11 (gz_Q true G below args s 0 0 gz_ei) 0 0 σ16 72 [(0, .ref (gz_ad true G 0 0)), (2, .int a2), (3, .int a3), (4, .int v4), (5, .int v8), (6, .int v15)] [] x) (fun _ _ => gz_none) (fun rec72 hrec72 v15 σ16 => ?_) gz_fu 0 σ13
            unfold f_X11_packs_L72
            refine gz_iload C dX11_packs_72 5 rfl ?_
            refine gz_aload_n C dX11_packs_74 0 rfl ?_
            refine gz_get C (t := 0) (k := 55) (ci := 11) (q := (RX11, TX11, 63)) (v := .int (σ16.1 0 0 55)) dX11_packs_75 fl_RX11_354 (gz_hm0 _) rfl rfl (by decide) rfl ?_
            refine gz_icmp_gt (tgt := 248) C dX11_packs_78 (by decide) ?_ ?_
            · skip
              refine gz_lv (lv' := [(0, .ref (gz_ad true G 0 0)), (2, .int a2), (3, .int a3), (4, .int v4), (5, .int v8)]) [0, 1, 2, 3, 4] rfl ?_
              exact hj248 σ16
            · skip
              refine gz_iload C dX11_packs_81 4 rfl ?_
              refine gz_iload C dX11_packs_83 5 rfl ?_
              refine gz_ishr C dX11_packs_85 ?_
              refine gz_iconst C dX11_packs_86 gk_iconst_1 ?_
              refine gz_iand C dX11_packs_87 ?_
              refine gz_j0_row (P := fun σ17 x => gz_W true p l e ({ frames := 0, cells := 0, slots := 0, locals := 0 } : Room) s m args below meth c G 11 (gz_Q true G below args s 0 0 gz_ei) 0 0 σ17 242 [(0, .ref (gz_ad true G 0 0)), (2, .int a2), (3, .int a3), (4, .int v4), (5, .int v8), (6, .int v15)] [] x) (fun σ17 => ?_) (fun j242 hj242 => ?_)
              · unfold f_X11_packs_J242
                refine gz_iinc C (q := 5) (v := v15 + 1) (lv' := [(6, .int (v15 + 1)), (0, .ref (gz_ad true G 0 0)), (2, .int a2), (3, .int a3), (4, .int v4), (5, .int v8)]) dX11_packs_242 rfl rfl (by decide) rfl ?_
                refine gz_goto (tgt := 72) C dX11_packs_245 (by decide) ?_
                refine gz_lv (lv' := [(0, .ref (gz_ad true G 0 0)), (2, .int a2), (3, .int a3), (4, .int v4), (5, .int v8), (6, .int (v15 + 1))]) [1, 2, 3, 4, 5, 0] rfl ?_
                exact hrec72 (v15 + 1) σ17
              · skip
                refine gz_if_ne (tgt := 94) C dX11_packs_88 (by decide) ?_ ?_
                · skip
                  refine gz_iload C dX11_packs_94 4 rfl ?_
                  refine gz_iconst C dX11_packs_96 gk_iconst_1 ?_
                  refine gz_iload C dX11_packs_97 5 rfl ?_
                  refine gz_ishl C dX11_packs_99 ?_
                  refine gz_isub C dX11_packs_100 ?_
                  refine gz_topI (fun v18 => ?_)
                  refine gz_istore C (lv' := [(7, .int v18), (0, .ref (gz_ad true G 0 0)), (2, .int a2), (3, .int a3), (4, .int v4), (5, .int v8), (6, .int v15)]) dX11_packs_101 (by decide) rfl ?_
                  refine gz_iload C dX11_packs_103 0 rfl ?_
                  refine gz_j1_row (P := fun x19 σ20 x => gz_W true p l e ({ frames := 0, cells := 0, slots := 0, locals := 0 } : Room) s m args below meth c G 11 (gz_Q true G below args s 0 0 gz_ei) 0 0 σ20 135 [(0, .ref (gz_ad true G 0 0)), (2, .int a2), (3, .int a3), (4, .int v4), (5, .int v8), (6, .int v15), (7, .int v18)] [.int x19] x) (fun x19 σ20 => ?_) (fun j135 hj135 => ?_)
                  · unfold f_X11_packs_J135
                    refine gz_istore C (lv' := [(8, .int x19), (0, .ref (gz_ad true G 0 0)), (2, .int a2), (3, .int a3), (4, .int v4), (5, .int v8), (6, .int v15), (7, .int v18)]) dX11_packs_135 (by decide) rfl ?_
                    refine gz_aload_n C dX11_packs_137 1 rfl ?_
                    refine gz_get C (t := 0) (k := 53) (ci := 11) (q := (RX11, TX11, 63)) (v := .ref (gz_ad true G 36 0)) dX11_packs_138 fl_RX11_134 (gz_hm0 _) rfl rfl (by decide) rfl ?_
                    refine gz_iload C dX11_packs_141 7 rfl ?_
                    refine gz_iald C (t := 36) dX11_packs_143 (gz_hm36 _) rfl (fun n21 hn21 => ?_)
                    refine gz_iload C dX11_packs_144 0 rfl ?_
                    refine gz_j2_row (P := fun x22 x23 σ24 x => gz_W true p l e ({ frames := 0, cells := 0, slots := 0, locals := 0 } : Room) s m args below meth c G 11 (gz_Q true G below args s 0 0 gz_ei) 0 0 σ24 154 [(0, .ref (gz_ad true G 0 0)), (2, .int a2), (3, .int a3), (4, .int v4), (5, .int v8), (6, .int v15), (7, .int v18), (8, .int x19)] [.int x23, .int x22] x) (fun x22 x23 σ24 => ?_) (fun j154 hj154 => ?_)
                    · unfold f_X11_packs_J154
                      refine gz_iadd C dX11_packs_154 ?_
                      refine gz_topI (fun v25 => ?_)
                      refine gz_istore C (lv' := [(9, .int v25), (0, .ref (gz_ad true G 0 0)), (2, .int a2), (3, .int a3), (4, .int v4), (5, .int v8), (6, .int v15), (7, .int v18), (8, .int x19)]) dX11_packs_155 (by decide) rfl ?_
                      refine gz_iload C dX11_packs_157 8 rfl ?_
                      refine gz_j1_row (P := fun x26 σ27 x => gz_W true p l e ({ frames := 0, cells := 0, slots := 0, locals := 0 } : Room) s m args below meth c G 11 (gz_Q true G below args s 0 0 gz_ei) 0 0 σ27 173 [(0, .ref (gz_ad true G 0 0)), (2, .int a2), (3, .int a3), (4, .int v4), (5, .int v8), (6, .int v15), (9, .int v25)] [.int x26] x) (fun x26 σ27 => ?_) (fun j173 hj173 => ?_)
                      · unfold f_X11_packs_J173
                        refine gz_aload_n C dX11_packs_173 0 rfl ?_
                        refine gz_get C (t := 0) (k := 33) (ci := 11) (q := (RX11, TX11, 63)) (v := .ref (gz_ad true G 16 0)) dX11_packs_174 fl_RX11_74 (gz_hm0 _) rfl rfl (by decide) rfl ?_
                        refine gz_aload_n C dX11_packs_177 0 rfl ?_
                        refine gz_get C (t := 0) (k := 52) (ci := 11) (q := (RX11, TX11, 63)) (v := .ref (gz_ad true G 35 0)) dX11_packs_178 fl_RX11_131 (gz_hm0 _) rfl rfl (by decide) rfl ?_
                        refine gz_iload C dX11_packs_181 5 rfl ?_
                        refine gz_iald C (t := 35) dX11_packs_183 (gz_hm35 _) rfl (fun n28 hn28 => ?_)
                        refine gz_iald C (t := 16) dX11_packs_184 (gz_hm16 _) rfl (fun n29 hn29 => ?_)
                        refine gz_isub C dX11_packs_185 ?_
                        refine gz_topI (fun v30 => ?_)
                        refine gz_istore C (lv' := [(10, .int v30), (0, .ref (gz_ad true G 0 0)), (2, .int a2), (3, .int a3), (4, .int v4), (5, .int v8), (6, .int v15), (9, .int v25)]) dX11_packs_186 (by decide) rfl ?_
                        refine gz_iload C dX11_packs_188 7 rfl ?_
                        refine gz_aload_n C dX11_packs_190 1 rfl ?_
                        refine gz_get C (t := 0) (k := 53) (ci := 11) (q := (RX11, TX11, 63)) (v := .ref (gz_ad true G 36 0)) dX11_packs_191 fl_RX11_134 (gz_hm0 _) rfl rfl (by decide) rfl ?_
                        refine gz_iload C dX11_packs_194 5 rfl ?_
                        refine gz_iald C (t := 36) dX11_packs_196 (gz_hm36 _) rfl (fun n31 hn31 => ?_)
                        refine gz_j0_row (P := fun σ32 x => gz_W true p l e ({ frames := 0, cells := 0, slots := 0, locals := 0 } : Room) s m args below meth c G 11 (gz_Q true G below args s 0 0 gz_ei) 0 0 σ32 224 [(0, .ref (gz_ad true G 0 0)), (2, .int a2), (3, .int a3), (4, .int v4), (5, .int v8), (6, .int v15), (9, .int v25), (10, .int v30)] [] x) (fun σ32 => ?_) (fun j224 hj224 => ?_)
                        · unfold f_X11_packs_J224
                          refine gz_aload_n C dX11_packs_224 0 rfl ?_
                          refine gz_get C (t := 0) (k := 53) (ci := 11) (q := (RX11, TX11, 63)) (v := .ref (gz_ad true G 36 0)) dX11_packs_225 fl_RX11_134 (gz_hm0 _) rfl rfl (by decide) rfl ?_
                          refine gz_iload C dX11_packs_228 4 rfl ?_
                          refine gz_iload C dX11_packs_230 6 rfl ?_
                          refine gz_iast C (t := 36) dX11_packs_232 (gz_hm36 _) rfl (fun n33 hn33 => ?_)
                          refine gz_w_row (fun σ34 => ?_)
                          refine gz_aload_n C dX11_packs_233 0 rfl ?_
                          refine gz_get C (t := 0) (k := 54) (ci := 11) (q := (RX11, TX11, 63)) (v := .ref (gz_ad true G 37 0)) dX11_packs_234 fl_RX11_137 (gz_hm0 _) rfl rfl (by decide) rfl ?_
                          refine gz_iload C dX11_packs_237 4 rfl ?_
                          refine gz_iload C dX11_packs_239 7 rfl ?_
                          refine gz_iast C (t := 37) dX11_packs_241 (gz_hm37 _) rfl (fun n35 hn35 => ?_)
                          refine gz_w_row (fun σ36 => ?_)
                          refine gz_lv (lv' := [(0, .ref (gz_ad true G 0 0)), (2, .int a2), (3, .int a3), (4, .int v4), (5, .int v8), (6, .int v15)]) [0, 1, 2, 3, 4, 5] rfl ?_
                          exact hj242 σ36
                        · skip
                          refine gz_icmp_lt (tgt := 224) C dX11_packs_197 (by decide) ?_ ?_
                          · skip
                            refine gz_lv (lv' := [(0, .ref (gz_ad true G 0 0)), (2, .int a2), (3, .int a3), (4, .int v4), (5, .int v8), (6, .int v15), (9, .int v25), (10, .int v30)]) [1, 2, 3, 4, 5, 6, 7, 0] rfl ?_
                            exact hj224 σ27
                          · skip
                            refine gz_iload C dX11_packs_200 7 rfl ?_
                            refine gz_aload_n C dX11_packs_202 1 rfl ?_
                            refine gz_get C (t := 0) (k := 53) (ci := 11) (q := (RX11, TX11, 63)) (v := .ref (gz_ad true G 36 0)) dX11_packs_203 fl_RX11_134 (gz_hm0 _) rfl rfl (by decide) rfl ?_
                            refine gz_iload C dX11_packs_206 5 rfl ?_
                            refine gz_iald C (t := 36) dX11_packs_208 (gz_hm36 _) rfl (fun n37 hn37 => ?_)
                            refine gz_icmp_ne (tgt := 242) C dX11_packs_209 (by decide) ?_ ?_
                            · skip
                              refine gz_lv (lv' := [(0, .ref (gz_ad true G 0 0)), (2, .int a2), (3, .int a3), (4, .int v4), (5, .int v8), (6, .int v15)]) [1, 2, 3, 4, 5, 6] rfl ?_
                              exact hj242 σ27
                            · skip
                              refine gz_iload C dX11_packs_212 0 rfl ?_
                              refine gz_aload_n C dX11_packs_214 1 rfl ?_
                              refine gz_get C (t := 0) (k := 54) (ci := 11) (q := (RX11, TX11, 63)) (v := .ref (gz_ad true G 37 0)) dX11_packs_215 fl_RX11_137 (gz_hm0 _) rfl rfl (by decide) rfl ?_
                              refine gz_iload C dX11_packs_218 5 rfl ?_
                              refine gz_iald C (t := 37) dX11_packs_220 (gz_hm37 _) rfl (fun n38 hn38 => ?_)
                              refine gz_icmp_le (tgt := 242) C dX11_packs_221 (by decide) ?_ ?_
                              · skip
                                refine gz_lv (lv' := [(0, .ref (gz_ad true G 0 0)), (2, .int a2), (3, .int a3), (4, .int v4), (5, .int v8), (6, .int v15)]) [1, 2, 3, 4, 5, 6] rfl ?_
                                exact hj242 σ27
                              · skip
                                refine gz_lv (lv' := [(0, .ref (gz_ad true G 0 0)), (2, .int a2), (3, .int a3), (4, .int v4), (5, .int v8), (6, .int v15), (9, .int v25), (10, .int v30)]) [1, 2, 3, 4, 5, 6, 7, 0] rfl ?_
                                exact hj224 σ27
                      · skip
                        refine gz_if_eq (tgt := 172) C dX11_packs_159 (by decide) ?_ ?_
                        · skip
                          refine gz_iload_n C dX11_packs_172 3 rfl ?_
                          refine gz_lv (lv' := [(0, .ref (gz_ad true G 0 0)), (2, .int a2), (3, .int a3), (4, .int v4), (5, .int v8), (6, .int v15), (9, .int v25)]) [1, 2, 3, 4, 5, 6, 0] rfl ?_
                          exact hj173 a3 σ24
                        · skip
                          refine gz_aload_n C dX11_packs_162 1 rfl ?_
                          refine gz_get C (t := 0) (k := 54) (ci := 11) (q := (RX11, TX11, 63)) (v := .ref (gz_ad true G 37 0)) dX11_packs_163 fl_RX11_137 (gz_hm0 _) rfl rfl (by decide) rfl ?_
                          refine gz_iload C dX11_packs_166 7 rfl ?_
                          refine gz_iald C (t := 37) dX11_packs_168 (gz_hm37 _) rfl (fun n39 hn39 => ?_)
                          refine gz_goto (tgt := 173) C dX11_packs_169 (by decide) ?_
                          refine gz_lv (lv' := [(0, .ref (gz_ad true G 0 0)), (2, .int a2), (3, .int a3), (4, .int v4), (5, .int v8), (6, .int v15), (9, .int v25)]) [1, 2, 3, 4, 5, 6, 0] rfl ?_
                          exact hj173 (σ24.1 37 0 n39) σ24
                    · skip
                      refine gz_if_eq (tgt := 153) C dX11_packs_146 (by decide) ?_ ?_
                      · skip
                        refine gz_iconst C dX11_packs_153 gk_iconst_1 ?_
                        refine gz_lv (lv' := [(0, .ref (gz_ad true G 0 0)), (2, .int a2), (3, .int a3), (4, .int v4), (5, .int v8), (6, .int v15), (7, .int v18), (8, .int x19)]) [1, 2, 3, 4, 5, 6, 7, 0] rfl ?_
                        exact hj154 (σ20.1 36 0 n21) 1 σ20
                      · skip
                        refine gz_iconst C dX11_packs_149 gk_iconst_0 ?_
                        refine gz_goto (tgt := 154) C dX11_packs_150 (by decide) ?_
                        refine gz_lv (lv' := [(0, .ref (gz_ad true G 0 0)), (2, .int a2), (3, .int a3), (4, .int v4), (5, .int v8), (6, .int v15), (7, .int v18), (8, .int x19)]) [1, 2, 3, 4, 5, 6, 7, 0] rfl ?_
                        exact hj154 (σ20.1 36 0 n21) 0 σ20
                  · skip
                    refine gz_j0_row (P := fun σ40 x => gz_W true p l e ({ frames := 0, cells := 0, slots := 0, locals := 0 } : Room) s m args below meth c G 11 (gz_Q true G below args s 0 0 gz_ei) 0 0 σ40 134 [(0, .ref (gz_ad true G 0 0)), (2, .int a2), (3, .int a3), (4, .int v4), (5, .int v8), (6, .int v15), (7, .int v18)] [] x) (fun σ40 => ?_) (fun j134 hj134 => ?_)
                    · unfold f_X11_packs_J134
                      refine gz_iconst C dX11_packs_134 gk_iconst_0 ?_
                      exact hj135 0 σ40
                    · skip
                      refine gz_if_eq (tgt := 134) C dX11_packs_105 (by decide) ?_ ?_
                      · skip
                        refine gz_lv (lv' := [(0, .ref (gz_ad true G 0 0)), (2, .int a2), (3, .int a3), (4, .int v4), (5, .int v8), (6, .int v15), (7, .int v18)]) [1, 2, 3, 4, 5, 6, 0] rfl ?_
                        exact hj134 σ16
                      · skip
                        refine gz_aload_n C dX11_packs_108 1 rfl ?_
                        refine gz_get C (t := 0) (k := 54) (ci := 11) (q := (RX11, TX11, 63)) (v := .ref (gz_ad true G 37 0)) dX11_packs_109 fl_RX11_137 (gz_hm0 _) rfl rfl (by decide) rfl ?_
                        refine gz_iload C dX11_packs_112 0 rfl ?_
                        refine gz_iald C (t := 37) dX11_packs_114 (gz_hm37 _) rfl (fun n41 hn41 => ?_)
                        refine gz_aload_n C dX11_packs_115 1 rfl ?_
                        refine gz_get C (t := 0) (k := 33) (ci := 11) (q := (RX11, TX11, 63)) (v := .ref (gz_ad true G 16 0)) dX11_packs_116 fl_RX11_74 (gz_hm0 _) rfl rfl (by decide) rfl ?_
                        refine gz_aload_n C dX11_packs_119 1 rfl ?_
                        refine gz_get C (t := 0) (k := 52) (ci := 11) (q := (RX11, TX11, 63)) (v := .ref (gz_ad true G 35 0)) dX11_packs_120 fl_RX11_131 (gz_hm0 _) rfl rfl (by decide) rfl ?_
                        refine gz_iload C dX11_packs_123 6 rfl ?_
                        refine gz_iald C (t := 35) dX11_packs_125 (gz_hm35 _) rfl (fun n42 hn42 => ?_)
                        refine gz_iald C (t := 16) dX11_packs_126 (gz_hm16 _) rfl (fun n43 hn43 => ?_)
                        refine gz_icmp_lt (tgt := 134) C dX11_packs_127 (by decide) ?_ ?_
                        · skip
                          refine gz_lv (lv' := [(0, .ref (gz_ad true G 0 0)), (2, .int a2), (3, .int a3), (4, .int v4), (5, .int v8), (6, .int v15), (7, .int v18)]) [1, 2, 3, 4, 5, 6, 0] rfl ?_
                          exact hj134 σ16
                        · skip
                          refine gz_iconst C dX11_packs_130 gk_iconst_1 ?_
                          refine gz_goto (tgt := 135) C dX11_packs_131 (by decide) ?_
                          refine gz_lv (lv' := [(0, .ref (gz_ad true G 0 0)), (2, .int a2), (3, .int a3), (4, .int v4), (5, .int v8), (6, .int v15), (7, .int v18)]) [1, 2, 3, 4, 5, 6, 0] rfl ?_
                          exact hj135 1 σ16
                · skip
                  refine gz_goto (tgt := 242) C dX11_packs_91 (by decide) ?_
                  exact hj242 σ16
    · skip
      refine gz_iconst C dX11_packs_19 gk_iconst_0 ?_
      exact gz_zret C rfl dX11_packs_20

def f_X11_waiting_J28 (v2 : Int32) (rec4 : Int32 → Int32 → gz_S → Option (Int32 × gz_S)) : Int32 → Int32 → gz_S → Option (Int32 × gz_S) := fun x5 x6 σ7 =>
  gz_v (x5 + x6) (fun v8 =>
  rec4 v8 (v2 + 1) σ7)
def f_X11_waiting_L4 : (Int32 → Int32 → gz_S → Option (Int32 × gz_S)) → Int32 → Int32 → gz_S → Option (Int32 × gz_S) := fun rec4 v1 v2 σ3 =>
  if (σ3.1 0 0 29) ≤ v2 then
  (some (v1, σ3))
  else
  (gz_ix v2 61 (fun n4 =>
  gz_j2 (f_X11_waiting_J28 v2 rec4) (fun j28 =>
  if (σ3.1 18 0 n4) = (-1) then
  (j28 v1 1 σ3)
  else
  (j28 v1 0 σ3))))
def f_X11_waiting (σ : gz_S) : Option (Int32 × gz_S) :=
  gz_l2 (f_X11_waiting_L4) gz_fu 0 0 σ
set_option maxHeartbeats 4000000 in
set_option maxRecDepth 100000 in
theorem c_X11_waiting (l : Launch) (G : gz_G) (σ : gz_S) : ∀ o, f_X11_waiting σ = some o → gz_M l true G yX11_waiting cX11_waiting 3 (some .int) { frames := 0, cells := 0, slots := 0, locals := 0 } [.ref (gz_ad true G 0 0)] σ (gz_ei o) 0 0 := by
  refine gz_enter RX11 rfl (by decide) (Nat.le_of_ble_eq_true rfl) ?_
  intro p e s m args below meth c C
  refine gz_eqs (st' := []) (lv' := [(0, .ref (gz_ad true G 0 0))]) rfl rfl ?_
  unfold f_X11_waiting
  refine gz_iconst C dX11_waiting_0 gk_iconst_0 ?_
  refine gz_istore_n C (lv' := [(1, .int 0), (0, .ref (gz_ad true G 0 0))]) dX11_waiting_1 (by decide) rfl ?_
  refine gz_iconst C dX11_waiting_2 gk_iconst_0 ?_
  refine gz_istore_n C (lv' := [(2, .int 0), (1, .int 0), (0, .ref (gz_ad true G 0 0))]) dX11_waiting_3 (by decide) rfl ?_
  refine gz_lv (lv' := [(0, .ref (gz_ad true G 0 0)), (1, .int 0), (2, .int 0)]) [2, 1, 0] rfl ?_
  refine gz_l2_ind (P := fun v1 v2 σ3 x => gz_W true p l e ({ frames := 0, cells := 0, slots := 0, locals := 0 } : Room) s m args below meth c G 3 (gz_Q true G below args s 0 0 gz_ei) 0 0 σ3 4 [(0, .ref (gz_ad true G 0 0)), (1, .int v1), (2, .int v2)] [] x) (fun _ _ _ => gz_none) (fun rec4 hrec4 v1 v2 σ3 => ?_) gz_fu 0 0 σ
  unfold f_X11_waiting_L4
  refine gz_iload_n C dX11_waiting_4 2 rfl ?_
  refine gz_aload_n C dX11_waiting_5 0 rfl ?_
  refine gz_get C (t := 0) (k := 29) (ci := 11) (q := (RX11, TX11, 63)) (v := .int (σ3.1 0 0 29)) dX11_waiting_6 fl_RX11_173 (gz_hm0 _) rfl rfl (by decide) rfl ?_
  refine gz_icmp_ge (tgt := 36) C dX11_waiting_9 (by decide) ?_ ?_
  · skip
    refine gz_iload_n C dX11_waiting_36 1 rfl ?_
    exact gz_iret C rfl dX11_waiting_37
  · skip
    refine gz_iload_n C dX11_waiting_12 1 rfl ?_
    refine gz_aload_n C dX11_waiting_13 0 rfl ?_
    refine gz_get C (t := 0) (k := 35) (ci := 11) (q := (RX11, TX11, 63)) (v := .ref (gz_ad true G 18 0)) dX11_waiting_14 fl_RX11_80 (gz_hm0 _) rfl rfl (by decide) rfl ?_
    refine gz_iload_n C dX11_waiting_17 2 rfl ?_
    refine gz_iald C (t := 18) dX11_waiting_18 (gz_hm18 _) rfl (fun n4 hn4 => ?_)
    refine gz_iconst C dX11_waiting_19 gk_iconst_m1 ?_
    refine gz_j2_row (P := fun x5 x6 σ7 x => gz_W true p l e ({ frames := 0, cells := 0, slots := 0, locals := 0 } : Room) s m args below meth c G 3 (gz_Q true G below args s 0 0 gz_ei) 0 0 σ7 28 [(0, .ref (gz_ad true G 0 0)), (2, .int v2)] [.int x6, .int x5] x) (fun x5 x6 σ7 => ?_) (fun j28 hj28 => ?_)
    · unfold f_X11_waiting_J28
      refine gz_iadd C dX11_waiting_28 ?_
      refine gz_topI (fun v8 => ?_)
      refine gz_istore_n C (lv' := [(1, .int v8), (0, .ref (gz_ad true G 0 0)), (2, .int v2)]) dX11_waiting_29 (by decide) rfl ?_
      refine gz_iinc C (q := 2) (v := v2 + 1) (lv' := [(2, .int (v2 + 1)), (1, .int v8), (0, .ref (gz_ad true G 0 0))]) dX11_waiting_30 rfl rfl (by decide) rfl ?_
      refine gz_goto (tgt := 4) C dX11_waiting_33 (by decide) ?_
      refine gz_lv (lv' := [(0, .ref (gz_ad true G 0 0)), (1, .int v8), (2, .int (v2 + 1))]) [2, 1, 0] rfl ?_
      exact hrec4 v8 (v2 + 1) σ7
    · skip
      refine gz_icmp_ne (tgt := 27) C dX11_waiting_20 (by decide) ?_ ?_
      · skip
        refine gz_iconst C dX11_waiting_27 gk_iconst_0 ?_
        refine gz_lv (lv' := [(0, .ref (gz_ad true G 0 0)), (2, .int v2)]) [0, 2] rfl ?_
        exact hj28 v1 0 σ3
      · skip
        refine gz_iconst C dX11_waiting_23 gk_iconst_1 ?_
        refine gz_goto (tgt := 28) C dX11_waiting_24 (by decide) ?_
        refine gz_lv (lv' := [(0, .ref (gz_ad true G 0 0)), (2, .int v2)]) [0, 2] rfl ?_
        exact hj28 v1 1 σ3

def f_X11_issue_J480 (v27 : Int32) : gz_S → Option (Int32 × gz_S) := fun σ40 =>
  gz_call (f_X11_waiting σ40) (fun r42 σ41 =>
  gz_ix v27 40 (fun n43 =>
  gz_w (gz_si σ41 33 0 n43 r42) (fun σ44 =>
  gz_w (gz_si σ44 0 0 9 0) (fun σ45 =>
  gz_call (f_X11_done v27 σ45) (fun r47 σ46 =>
  some (r47, σ46))))))
def f_X11_issue_J474 (v49 : Int32) (rec432 : Int32 → Int32 → gz_S → Option (Int32 × gz_S)) : Int32 → gz_S → Option (Int32 × gz_S) := fun v52 σ53 =>
  rec432 v52 (v49 + 1) σ53
def f_X11_issue_L432 (v27 : Int32) (j480 : gz_S → Option (Int32 × gz_S)) : (Int32 → Int32 → gz_S → Option (Int32 × gz_S)) → Int32 → Int32 → gz_S → Option (Int32 × gz_S) := fun rec432 v48 v49 σ50 =>
  if (σ50.1 0 0 29) ≤ v49 then
  (j480 σ50)
  else
  (gz_ix v49 61 (fun n51 =>
  gz_j1 (f_X11_issue_J474 v49 rec432) (fun j474 =>
  if (σ50.1 18 0 n51) = v27 then
  (gz_ix ((12 * v27) + v48) 480 (fun n54 =>
  gz_w (gz_si σ50 34 0 n54 v49) (fun σ55 =>
  j474 (v48 + 1) σ55)))
  else
  (j474 v48 σ50))))
def f_X11_issue_J426 (v27 : Int32) : gz_S → Option (Int32 × gz_S) := fun σ39 =>
  gz_j0 (f_X11_issue_J480 v27) (fun j480 =>
  gz_l2 (f_X11_issue_L432 v27 j480) gz_fu 0 0 σ39)
def f_X11_issue_J418 (v56 : Int32) (rec361 : Int32 → gz_S → Option (Int32 × gz_S)) : Int32 → Int32 → Int32 → gz_S → Option (Int32 × gz_S) := fun x65 x66 x67 σ68 =>
  gz_ix x65 40 (fun n69 =>
  gz_w (gz_si σ68 32 0 n69 (x66 + x67)) (fun σ70 =>
  rec361 (v56 + 1) σ70))
def f_X11_issue_L361 (v27 : Int32) (a1 : Int32) (j426 : gz_S → Option (Int32 × gz_S)) : (Int32 → gz_S → Option (Int32 × gz_S)) → Int32 → gz_S → Option (Int32 × gz_S) := fun rec361 v56 σ57 =>
  if (σ57.1 0 0 55) ≤ v56 then
  (j426 σ57)
  else
  (gz_ix v56 12 (fun n58 =>
  gz_v (σ57.1 35 0 n58) (fun v59 =>
  gz_then (f_X11_spans v59 σ57) (fun σ60 =>
  gz_ix v59 61 (fun n61 =>
  gz_w (gz_si σ60 18 0 n61 v27) (fun σ62 =>
  gz_ix v27 40 (fun n63 =>
  gz_ix v59 61 (fun n64 =>
  gz_j3 (f_X11_issue_J418 v56 rec361) (fun j418 =>
  if a1 ≤ (σ62.1 17 0 n64) then
  (j418 v27 (σ62.1 32 0 n63) 0 σ62)
  else
  (j418 v27 (σ62.1 32 0 n63) 1 σ62))))))))))
def f_X11_issue_J290 (a1 : Int32) : gz_S → Option (Int32 × gz_S) := fun σ26 =>
  gz_v (σ26.1 0 0 30) (fun v27 =>
  gz_w (gz_si σ26 0 0 30 ((σ26.1 0 0 30) + 1)) (fun σ28 =>
  gz_w (gz_si σ28 0 0 31 a1) (fun σ29 =>
  gz_ix v27 40 (fun n30 =>
  gz_w (gz_si σ29 29 0 n30 a1) (fun σ31 =>
  gz_ix v27 40 (fun n32 =>
  gz_w (gz_si σ31 30 0 n32 (σ31.1 0 0 55)) (fun σ33 =>
  gz_ix ((1 <<< ((σ33.1 0 0 55) &&& 31)) - 1) 4096 (fun n34 =>
  gz_ix v27 40 (fun n35 =>
  gz_w (gz_si σ33 31 0 n35 (σ33.1 36 0 n34)) (fun σ36 =>
  gz_ix v27 40 (fun n37 =>
  gz_w (gz_si σ36 32 0 n37 0) (fun σ38 =>
  gz_j0 (f_X11_issue_J426 v27) (fun j426 =>
  gz_l1 (f_X11_issue_L361 v27 a1 j426) gz_fu 0 σ38)))))))))))))
def f_X11_issue_J260 (t23 : Nat) (v73 : Int32) (a3 : Int32) (a4 : Int32) (rec188 : Int32 → gz_S → Option (Int32 × gz_S)) : Int32 → gz_S → Option (Int32 × gz_S) := fun x75 σ76 =>
  if x75 = 0 then
  (rec188 x75 σ76)
  else
  (gz_tg t23 σ76 (gz_ix v73 60 (fun n78 =>
  gz_w (gz_si σ76 44 t23 n78 ((1 : Int32) &&& 1)) (fun σ79 =>
  gz_call (f_X11_packs v73 a3 a4 σ79) (fun r81 σ80 =>
  rec188 x75 σ80)))))
def f_X11_issue_J249 (t23 : Nat) (a3 : Int32) (a4 : Int32) (rec188 : Int32 → gz_S → Option (Int32 × gz_S)) : Int32 → gz_S → Option (Int32 × gz_S) := fun v73 σ74 =>
  gz_j1 (f_X11_issue_J260 t23 v73 a3 a4 rec188) (fun j260 =>
  if v73 = (-1) then
  (j260 0 σ74)
  else
  (j260 1 σ74))
def f_X11_issue_J243 (v83 : Int32) (rec199 : Int32 → Int32 → gz_S → Option (Int32 × gz_S)) : Int32 → gz_S → Option (Int32 × gz_S) := fun v87 σ88 =>
  rec199 v87 (v83 + 1) σ88
def f_X11_issue_J239 (v83 : Int32) (j243 : Int32 → gz_S → Option (Int32 × gz_S)) : gz_S → Option (Int32 × gz_S) := fun σ89 =>
  j243 v83 σ89
def f_X11_issue_L199 (t23 : Nat) (j249 : Int32 → gz_S → Option (Int32 × gz_S)) : (Int32 → Int32 → gz_S → Option (Int32 × gz_S)) → Int32 → Int32 → gz_S → Option (Int32 × gz_S) := fun rec199 v82 v83 σ84 =>
  if (σ84.1 0 0 29) ≤ v83 then
  (j249 v82 σ84)
  else
  (gz_tg t23 σ84 (gz_ix v83 60 (fun n86 =>
  gz_j1 (f_X11_issue_J243 v83 rec199) (fun j243 =>
  if (σ84.1 44 t23 n86) = 0 then
  (gz_j0 (f_X11_issue_J239 v83 j243) (fun j239 =>
  if v82 = (-1) then
  (j239 σ84)
  else
  (gz_ix v83 61 (fun n90 =>
  gz_ix v82 61 (fun n91 =>
  if (σ84.1 17 0 n91) ≤ (σ84.1 17 0 n90) then
  (j243 v82 σ84)
  else
  (j239 σ84))))))
  else
  (j243 v82 σ84)))))
def f_X11_issue_L188 (t23 : Nat) (a3 : Int32) (a4 : Int32) (j290 : gz_S → Option (Int32 × gz_S)) : (Int32 → gz_S → Option (Int32 × gz_S)) → Int32 → gz_S → Option (Int32 × gz_S) := fun rec188 v71 σ72 =>
  if v71 = 0 then
  (j290 σ72)
  else
  (gz_j1 (f_X11_issue_J249 t23 a3 a4 rec188) (fun j249 =>
  gz_l2 (f_X11_issue_L199 t23 j249) gz_fu (-1) 0 σ72))
def f_X11_issue_J185 (a1 : Int32) (t23 : Nat) (a3 : Int32) (a4 : Int32) : gz_S → Option (Int32 × gz_S) := fun σ25 =>
  gz_j0 (f_X11_issue_J290 a1) (fun j290 =>
  gz_l1 (f_X11_issue_L188 t23 a3 a4 j290) gz_fu 1 σ25)
def f_X11_issue_J179 (v92 : Int32) (rec103 : Int32 → gz_S → Option (Int32 × gz_S)) : gz_S → Option (Int32 × gz_S) := fun σ103 =>
  rec103 (v92 + 1) σ103
def f_X11_issue_J132 (t23 : Nat) (v92 : Int32) (a2 : Int32) (a3 : Int32) (a4 : Int32) (rec103 : Int32 → gz_S → Option (Int32 × gz_S)) : Int32 → Int32 → gz_S → Option (Int32 × gz_S) := fun x95 x96 σ97 =>
  gz_tg t23 σ97 (gz_ix x95 60 (fun n99 =>
  gz_w (gz_si σ97 44 t23 n99 (x96 &&& 1)) (fun σ100 =>
  gz_tg t23 σ100 (gz_ix v92 60 (fun n102 =>
  gz_j0 (f_X11_issue_J179 v92 rec103) (fun j179 =>
  if (σ100.1 44 t23 n102) = 0 then
  (gz_ix v92 61 (fun n104 =>
  if (σ100.1 17 0 n104) < a2 then
  (gz_tg t23 σ100 (gz_ix v92 60 (fun n106 =>
  gz_w (gz_si σ100 44 t23 n106 ((1 : Int32) &&& 1)) (fun σ107 =>
  gz_call (f_X11_packs v92 a3 a4 σ107) (fun r109 σ108 =>
  if r109 = 0 then
  (gz_call (f_X11_refused 5 σ108) (fun r111 σ110 =>
  some (r111, σ110)))
  else
  (j179 σ108))))))
  else
  (j179 σ100)))
  else
  (j179 σ100)))))))
def f_X11_issue_L103 (t23 : Nat) (a2 : Int32) (a3 : Int32) (a4 : Int32) (j185 : gz_S → Option (Int32 × gz_S)) : (Int32 → gz_S → Option (Int32 × gz_S)) → Int32 → gz_S → Option (Int32 × gz_S) := fun rec103 v92 σ93 =>
  if (σ93.1 0 0 29) ≤ v92 then
  (j185 σ93)
  else
  (gz_ix v92 61 (fun n94 =>
  gz_j2 (f_X11_issue_J132 t23 v92 a2 a3 a4 rec103) (fun j132 =>
  if (σ93.1 18 0 n94) = (-1) then
  (j132 v92 0 σ93)
  else
  (j132 v92 1 σ93))))
def f_X11_issue (a1 : Int32) (a2 : Int32) (a3 : Int32) (a4 : Int32) (σ : gz_S) : Option (Int32 × gz_S) :=
  gz_w (gz_si σ 0 0 0 0) (fun σ1 =>
  gz_call (f_X11_isDay a1 σ1) (fun r3 σ2 =>
  if r3 = 0 then
  (gz_call (f_X11_refused 2 σ2) (fun r5 σ4 =>
  some (r5, σ4)))
  else
  (if a1 ≤ (σ2.1 0 0 31) then
  (gz_call (f_X11_refused 2 σ2) (fun r7 σ6 =>
  some (r7, σ6)))
  else
  (if a2 ≤ a1 then
  (gz_call (f_X11_refused 2 σ2) (fun r9 σ8 =>
  some (r9, σ8)))
  else
  (if 10000 < a2 then
  (gz_call (f_X11_refused 2 σ2) (fun r11 σ10 =>
  some (r11, σ10)))
  else
  (gz_call (f_X11_in a3 1 8 σ2) (fun r13 σ12 =>
  if r13 = 0 then
  (gz_call (f_X11_refused 2 σ12) (fun r15 σ14 =>
  some (r15, σ14)))
  else
  (gz_call (f_X11_in a4 10 60 σ12) (fun r17 σ16 =>
  if r17 = 0 then
  (gz_call (f_X11_refused 2 σ16) (fun r115 σ114 =>
  some (r115, σ114)))
  else
  (if (σ16.1 0 0 30) = 40 then
  (gz_call (f_X11_refused 3 σ16) (fun r113 σ112 =>
  some (r113, σ112)))
  else
  (gz_w (gz_si σ16 0 0 55 0) (fun σ18 =>
  gz_ix (0 : Int32) 4096 (fun n19 =>
  gz_w (gz_si σ18 36 0 n19 0) (fun σ20 =>
  gz_ix (0 : Int32) 4096 (fun n21 =>
  gz_w (gz_si σ20 37 0 n21 0) (fun σ22 =>
  gz_v σ22.2.2 (fun t23 =>
  gz_w (gz_nt σ22) (fun σ24 =>
  gz_j0 (f_X11_issue_J185 a1 t23 a3 a4) (fun j185 =>
  gz_l1 (f_X11_issue_L103 t23 a2 a3 a4 j185) gz_fu 0 σ24)))))))))))))))))))
set_option maxHeartbeats 4000000 in
set_option maxRecDepth 100000 in
theorem c_X11_issue (l : Launch) (G : gz_G) (a1 : Int32) (a2 : Int32) (a3 : Int32) (a4 : Int32) (σ : gz_S) : ∀ o, f_X11_issue a1 a2 a3 a4 σ = some o → gz_M l true G yX11_issue cX11_issue 10 (some .int) { frames := 3, cells := 1, slots := 60, locals := 71 } [.ref (gz_ad true G 0 0), .int a1, .int a2, .int a3, .int a4] σ (gz_ei o) 1 60 := by
  refine gz_enter RX11 rfl (by decide) (Nat.le_of_ble_eq_true rfl) ?_
  intro p e s m args below meth c C
  refine gz_eqs (st' := []) (lv' := [(0, .ref (gz_ad true G 0 0)), (1, .int a1), (2, .int a2), (3, .int a3), (4, .int a4)]) rfl rfl ?_
  unfold f_X11_issue
  refine gz_aload_n C dX11_issue_0 0 rfl ?_
  refine gz_iconst C dX11_issue_1 gk_iconst_0 ?_
  refine gz_putI C (t := 0) (k := 0) (ci := 11) (q := (RX11, TX11, 63)) dX11_issue_2 fl_RX11_158 (gz_hm0 _) rfl rfl (by decide) rfl rfl rfl rfl ?_
  refine gz_w_row (fun σ1 => ?_)
  refine gz_iload_n C dX11_issue_5 1 rfl ?_
  refine gz_ki (gz_runS (As := [.int a1]) (rest := []) C dX11_issue_6 ml_RX11_176 mw_X11_isDay ms_X11_isDay (c_X11_isDay l G a1 σ1) rfl rfl (Nat.le_of_ble_eq_true rfl) ⟨rfl, rfl, Nat.le_of_ble_eq_true rfl, Nat.le_of_ble_eq_true rfl, Nat.le_of_ble_eq_true rfl, Nat.le_of_ble_eq_true rfl⟩) (fun r3 σ2 => ?_)
  refine gz_if_eq (tgt := 54) C dX11_issue_9 (by decide) ?_ ?_
  · skip
    refine gz_aload_n C dX11_issue_54 0 rfl ?_
    refine gz_iconst C dX11_issue_55 gk_iconst_2 ?_
    refine gz_ki (gz_runV (t := 0) (ci := 11) (q := (RX11, TX11, 63)) (As := [.int 2]) (rest := []) C dX11_issue_56 ml_RX11_194 mw_X11_refused mv_X11_refused (c_X11_refused l G 2 σ2) (gz_hm0 _) rfl rfl rfl rfl rfl (Nat.le_of_ble_eq_true rfl) ⟨rfl, rfl, Nat.le_of_ble_eq_true rfl, Nat.le_of_ble_eq_true rfl, Nat.le_of_ble_eq_true rfl, Nat.le_of_ble_eq_true rfl⟩) (fun r5 σ4 => ?_)
    refine gz_wid (ce1 := 1) (sl1 := 60) (Nat.zero_le _) (Nat.zero_le _) ?_
    exact gz_iret C rfl dX11_issue_59
  · skip
    refine gz_iload_n C dX11_issue_12 1 rfl ?_
    refine gz_aload_n C dX11_issue_13 0 rfl ?_
    refine gz_get C (t := 0) (k := 31) (ci := 11) (q := (RX11, TX11, 63)) (v := .int (σ2.1 0 0 31)) dX11_issue_14 fl_RX11_68 (gz_hm0 _) rfl rfl (by decide) rfl ?_
    refine gz_icmp_le (tgt := 54) C dX11_issue_17 (by decide) ?_ ?_
    · skip
      refine gz_aload_n C dX11_issue_54 0 rfl ?_
      refine gz_iconst C dX11_issue_55 gk_iconst_2 ?_
      refine gz_ki (gz_runV (t := 0) (ci := 11) (q := (RX11, TX11, 63)) (As := [.int 2]) (rest := []) C dX11_issue_56 ml_RX11_194 mw_X11_refused mv_X11_refused (c_X11_refused l G 2 σ2) (gz_hm0 _) rfl rfl rfl rfl rfl (Nat.le_of_ble_eq_true rfl) ⟨rfl, rfl, Nat.le_of_ble_eq_true rfl, Nat.le_of_ble_eq_true rfl, Nat.le_of_ble_eq_true rfl, Nat.le_of_ble_eq_true rfl⟩) (fun r7 σ6 => ?_)
      refine gz_wid (ce1 := 1) (sl1 := 60) (Nat.zero_le _) (Nat.zero_le _) ?_
      exact gz_iret C rfl dX11_issue_59
    · skip
      refine gz_iload_n C dX11_issue_20 2 rfl ?_
      refine gz_iload_n C dX11_issue_21 1 rfl ?_
      refine gz_icmp_le (tgt := 54) C dX11_issue_22 (by decide) ?_ ?_
      · skip
        refine gz_aload_n C dX11_issue_54 0 rfl ?_
        refine gz_iconst C dX11_issue_55 gk_iconst_2 ?_
        refine gz_ki (gz_runV (t := 0) (ci := 11) (q := (RX11, TX11, 63)) (As := [.int 2]) (rest := []) C dX11_issue_56 ml_RX11_194 mw_X11_refused mv_X11_refused (c_X11_refused l G 2 σ2) (gz_hm0 _) rfl rfl rfl rfl rfl (Nat.le_of_ble_eq_true rfl) ⟨rfl, rfl, Nat.le_of_ble_eq_true rfl, Nat.le_of_ble_eq_true rfl, Nat.le_of_ble_eq_true rfl, Nat.le_of_ble_eq_true rfl⟩) (fun r9 σ8 => ?_)
        refine gz_wid (ce1 := 1) (sl1 := 60) (Nat.zero_le _) (Nat.zero_le _) ?_
        exact gz_iret C rfl dX11_issue_59
      · skip
        refine gz_iload_n C dX11_issue_25 2 rfl ?_
        refine gz_sipush C dX11_issue_26 gk_sipush_10000 ?_
        refine gz_icmp_gt (tgt := 54) C dX11_issue_29 (by decide) ?_ ?_
        · skip
          refine gz_aload_n C dX11_issue_54 0 rfl ?_
          refine gz_iconst C dX11_issue_55 gk_iconst_2 ?_
          refine gz_ki (gz_runV (t := 0) (ci := 11) (q := (RX11, TX11, 63)) (As := [.int 2]) (rest := []) C dX11_issue_56 ml_RX11_194 mw_X11_refused mv_X11_refused (c_X11_refused l G 2 σ2) (gz_hm0 _) rfl rfl rfl rfl rfl (Nat.le_of_ble_eq_true rfl) ⟨rfl, rfl, Nat.le_of_ble_eq_true rfl, Nat.le_of_ble_eq_true rfl, Nat.le_of_ble_eq_true rfl, Nat.le_of_ble_eq_true rfl⟩) (fun r11 σ10 => ?_)
          refine gz_wid (ce1 := 1) (sl1 := 60) (Nat.zero_le _) (Nat.zero_le _) ?_
          exact gz_iret C rfl dX11_issue_59
        · skip
          refine gz_iload_n C dX11_issue_32 3 rfl ?_
          refine gz_iconst C dX11_issue_33 gk_iconst_1 ?_
          refine gz_bipush C dX11_issue_34 gk_bipush_8 ?_
          refine gz_ki (gz_runS (As := [.int a3, .int 1, .int 8]) (rest := []) C dX11_issue_36 ml_RX11_203 mw_X11_in ms_X11_in (c_X11_in l G a3 1 8 σ2) rfl rfl (Nat.le_of_ble_eq_true rfl) ⟨rfl, rfl, Nat.le_of_ble_eq_true rfl, Nat.le_of_ble_eq_true rfl, Nat.le_of_ble_eq_true rfl, Nat.le_of_ble_eq_true rfl⟩) (fun r13 σ12 => ?_)
          refine gz_if_eq (tgt := 54) C dX11_issue_39 (by decide) ?_ ?_
          · skip
            refine gz_aload_n C dX11_issue_54 0 rfl ?_
            refine gz_iconst C dX11_issue_55 gk_iconst_2 ?_
            refine gz_ki (gz_runV (t := 0) (ci := 11) (q := (RX11, TX11, 63)) (As := [.int 2]) (rest := []) C dX11_issue_56 ml_RX11_194 mw_X11_refused mv_X11_refused (c_X11_refused l G 2 σ12) (gz_hm0 _) rfl rfl rfl rfl rfl (Nat.le_of_ble_eq_true rfl) ⟨rfl, rfl, Nat.le_of_ble_eq_true rfl, Nat.le_of_ble_eq_true rfl, Nat.le_of_ble_eq_true rfl, Nat.le_of_ble_eq_true rfl⟩) (fun r15 σ14 => ?_)
            refine gz_wid (ce1 := 1) (sl1 := 60) (Nat.zero_le _) (Nat.zero_le _) ?_
            exact gz_iret C rfl dX11_issue_59
          · skip
            refine gz_iload C dX11_issue_42 4 rfl ?_
            refine gz_bipush C dX11_issue_44 gk_bipush_10 ?_
            refine gz_bipush C dX11_issue_46 gk_bipush_60 ?_
            refine gz_ki (gz_runS (As := [.int a4, .int 10, .int 60]) (rest := []) C dX11_issue_48 ml_RX11_203 mw_X11_in ms_X11_in (c_X11_in l G a4 10 60 σ12) rfl rfl (Nat.le_of_ble_eq_true rfl) ⟨rfl, rfl, Nat.le_of_ble_eq_true rfl, Nat.le_of_ble_eq_true rfl, Nat.le_of_ble_eq_true rfl, Nat.le_of_ble_eq_true rfl⟩) (fun r17 σ16 => ?_)
            refine gz_if_ne (tgt := 60) C dX11_issue_51 (by decide) ?_ ?_
            · skip
              refine gz_aload_n C dX11_issue_60 0 rfl ?_
              refine gz_get C (t := 0) (k := 30) (ci := 11) (q := (RX11, TX11, 63)) (v := .int (σ16.1 0 0 30)) dX11_issue_61 fl_RX11_357 (gz_hm0 _) rfl rfl (by decide) rfl ?_
              refine gz_bipush C dX11_issue_64 gk_bipush_40 ?_
              refine gz_icmp_ne (tgt := 75) C dX11_issue_66 (by decide) ?_ ?_
              · skip
                refine gz_aload_n C dX11_issue_75 0 rfl ?_
                refine gz_iconst C dX11_issue_76 gk_iconst_0 ?_
                refine gz_putI C (t := 0) (k := 55) (ci := 11) (q := (RX11, TX11, 63)) dX11_issue_77 fl_RX11_354 (gz_hm0 _) rfl rfl (by decide) rfl rfl rfl rfl ?_
                refine gz_w_row (fun σ18 => ?_)
                refine gz_aload_n C dX11_issue_80 0 rfl ?_
                refine gz_get C (t := 0) (k := 53) (ci := 11) (q := (RX11, TX11, 63)) (v := .ref (gz_ad true G 36 0)) dX11_issue_81 fl_RX11_134 (gz_hm0 _) rfl rfl (by decide) rfl ?_
                refine gz_iconst C dX11_issue_84 gk_iconst_0 ?_
                refine gz_iconst C dX11_issue_85 gk_iconst_0 ?_
                refine gz_iast C (t := 36) dX11_issue_86 (gz_hm36 _) rfl (fun n19 hn19 => ?_)
                refine gz_w_row (fun σ20 => ?_)
                refine gz_aload_n C dX11_issue_87 0 rfl ?_
                refine gz_get C (t := 0) (k := 54) (ci := 11) (q := (RX11, TX11, 63)) (v := .ref (gz_ad true G 37 0)) dX11_issue_88 fl_RX11_137 (gz_hm0 _) rfl rfl (by decide) rfl ?_
                refine gz_iconst C dX11_issue_91 gk_iconst_0 ?_
                refine gz_iconst C dX11_issue_92 gk_iconst_0 ?_
                refine gz_iast C (t := 37) dX11_issue_93 (gz_hm37 _) rfl (fun n21 hn21 => ?_)
                refine gz_w_row (fun σ22 => ?_)
                refine gz_bipush C dX11_issue_94 gk_bipush_60 ?_
                refine gz_newT C dX11_issue_96 (gz_in 936 (by decide +kernel)) (Nat.le_of_ble_eq_true rfl) (Nat.le_of_ble_eq_true rfl) (fun t23 => ?_)
                refine gz_w_row (fun σ24 => ?_)
                refine gz_astore C (lv' := [(5, .ref (gz_ad true G 44 t23)), (0, .ref (gz_ad true G 0 0)), (1, .int a1), (2, .int a2), (3, .int a3), (4, .int a4)]) dX11_issue_98 (by decide) rfl ?_
                refine gz_iconst C dX11_issue_100 gk_iconst_0 ?_
                refine gz_istore C (lv' := [(6, .int 0), (5, .ref (gz_ad true G 44 t23)), (0, .ref (gz_ad true G 0 0)), (1, .int a1), (2, .int a2), (3, .int a3), (4, .int a4)]) dX11_issue_101 (by decide) rfl ?_
                refine gz_j0_row (P := fun σ25 x => gz_W true p l e ({ frames := 3, cells := 1, slots := 60, locals := 71 } : Room) s m args below meth c G 10 (gz_Q true G below args s 1 60 gz_ei) 1 60 σ25 185 [(0, .ref (gz_ad true G 0 0)), (1, .int a1), (3, .int a3), (4, .int a4), (5, .ref (gz_ad true G 44 t23))] [] x) (fun σ25 => ?_) (fun j185 hj185 => ?_)
                · unfold f_X11_issue_J185
                  refine gz_iconst C dX11_issue_185 gk_iconst_1 ?_
                  refine gz_istore C (lv' := [(6, .int 1), (0, .ref (gz_ad true G 0 0)), (1, .int a1), (3, .int a3), (4, .int a4), (5, .ref (gz_ad true G 44 t23))]) dX11_issue_186 (by decide) rfl ?_
                  refine gz_j0_row (P := fun σ26 x => gz_W true p l e ({ frames := 3, cells := 1, slots := 60, locals := 71 } : Room) s m args below meth c G 10 (gz_Q true G below args s 1 60 gz_ei) 1 60 σ26 290 [(0, .ref (gz_ad true G 0 0)), (1, .int a1)] [] x) (fun σ26 => ?_) (fun j290 hj290 => ?_)
                  · unfold f_X11_issue_J290
                    refine gz_aload_n C dX11_issue_290 0 rfl ?_
                    refine gz_get C (t := 0) (k := 30) (ci := 11) (q := (RX11, TX11, 63)) (v := .int (σ26.1 0 0 30)) dX11_issue_291 fl_RX11_357 (gz_hm0 _) rfl rfl (by decide) rfl ?_
                    refine gz_topI (fun v27 => ?_)
                    refine gz_istore C (lv' := [(7, .int v27), (0, .ref (gz_ad true G 0 0)), (1, .int a1)]) dX11_issue_294 (by decide) rfl ?_
                    refine gz_aload_n C dX11_issue_296 1 rfl ?_
                    refine gz_dup C dX11_issue_297 rfl ?_
                    refine gz_get C (t := 0) (k := 30) (ci := 11) (q := (RX11, TX11, 63)) (v := .int (σ26.1 0 0 30)) dX11_issue_298 fl_RX11_357 (gz_hm0 _) rfl rfl (by decide) rfl ?_
                    refine gz_iconst C dX11_issue_301 gk_iconst_1 ?_
                    refine gz_iadd C dX11_issue_302 ?_
                    refine gz_putI C (t := 0) (k := 30) (ci := 11) (q := (RX11, TX11, 63)) dX11_issue_303 fl_RX11_357 (gz_hm0 _) rfl rfl (by decide) rfl rfl rfl rfl ?_
                    refine gz_w_row (fun σ28 => ?_)
                    refine gz_aload_n C dX11_issue_306 1 rfl ?_
                    refine gz_iload_n C dX11_issue_307 2 rfl ?_
                    refine gz_putI C (t := 0) (k := 31) (ci := 11) (q := (RX11, TX11, 63)) dX11_issue_308 fl_RX11_68 (gz_hm0 _) rfl rfl (by decide) rfl rfl rfl rfl ?_
                    refine gz_w_row (fun σ29 => ?_)
                    refine gz_aload_n C dX11_issue_311 1 rfl ?_
                    refine gz_get C (t := 0) (k := 46) (ci := 11) (q := (RX11, TX11, 63)) (v := .ref (gz_ad true G 29 0)) dX11_issue_312 fl_RX11_113 (gz_hm0 _) rfl rfl (by decide) rfl ?_
                    refine gz_iload C dX11_issue_315 0 rfl ?_
                    refine gz_iload_n C dX11_issue_317 2 rfl ?_
                    refine gz_iast C (t := 29) dX11_issue_318 (gz_hm29 _) rfl (fun n30 hn30 => ?_)
                    refine gz_w_row (fun σ31 => ?_)
                    refine gz_aload_n C dX11_issue_319 1 rfl ?_
                    refine gz_get C (t := 0) (k := 47) (ci := 11) (q := (RX11, TX11, 63)) (v := .ref (gz_ad true G 30 0)) dX11_issue_320 fl_RX11_116 (gz_hm0 _) rfl rfl (by decide) rfl ?_
                    refine gz_iload C dX11_issue_323 0 rfl ?_
                    refine gz_aload_n C dX11_issue_325 1 rfl ?_
                    refine gz_get C (t := 0) (k := 55) (ci := 11) (q := (RX11, TX11, 63)) (v := .int (σ31.1 0 0 55)) dX11_issue_326 fl_RX11_354 (gz_hm0 _) rfl rfl (by decide) rfl ?_
                    refine gz_iast C (t := 30) dX11_issue_329 (gz_hm30 _) rfl (fun n32 hn32 => ?_)
                    refine gz_w_row (fun σ33 => ?_)
                    refine gz_aload_n C dX11_issue_330 1 rfl ?_
                    refine gz_get C (t := 0) (k := 48) (ci := 11) (q := (RX11, TX11, 63)) (v := .ref (gz_ad true G 31 0)) dX11_issue_331 fl_RX11_119 (gz_hm0 _) rfl rfl (by decide) rfl ?_
                    refine gz_iload C dX11_issue_334 0 rfl ?_
                    refine gz_aload_n C dX11_issue_336 1 rfl ?_
                    refine gz_get C (t := 0) (k := 53) (ci := 11) (q := (RX11, TX11, 63)) (v := .ref (gz_ad true G 36 0)) dX11_issue_337 fl_RX11_134 (gz_hm0 _) rfl rfl (by decide) rfl ?_
                    refine gz_iconst C dX11_issue_340 gk_iconst_1 ?_
                    refine gz_aload_n C dX11_issue_341 1 rfl ?_
                    refine gz_get C (t := 0) (k := 55) (ci := 11) (q := (RX11, TX11, 63)) (v := .int (σ33.1 0 0 55)) dX11_issue_342 fl_RX11_354 (gz_hm0 _) rfl rfl (by decide) rfl ?_
                    refine gz_ishl C dX11_issue_345 ?_
                    refine gz_iconst C dX11_issue_346 gk_iconst_1 ?_
                    refine gz_isub C dX11_issue_347 ?_
                    refine gz_iald C (t := 36) dX11_issue_348 (gz_hm36 _) rfl (fun n34 hn34 => ?_)
                    refine gz_iast C (t := 31) dX11_issue_349 (gz_hm31 _) rfl (fun n35 hn35 => ?_)
                    refine gz_w_row (fun σ36 => ?_)
                    refine gz_aload_n C dX11_issue_350 1 rfl ?_
                    refine gz_get C (t := 0) (k := 49) (ci := 11) (q := (RX11, TX11, 63)) (v := .ref (gz_ad true G 32 0)) dX11_issue_351 fl_RX11_122 (gz_hm0 _) rfl rfl (by decide) rfl ?_
                    refine gz_iload C dX11_issue_354 0 rfl ?_
                    refine gz_iconst C dX11_issue_356 gk_iconst_0 ?_
                    refine gz_iast C (t := 32) dX11_issue_357 (gz_hm32 _) rfl (fun n37 hn37 => ?_)
                    refine gz_w_row (fun σ38 => ?_)
                    refine gz_iconst C dX11_issue_358 gk_iconst_0 ?_
                    refine gz_istore C (lv' := [(8, .int 0), (7, .int v27), (0, .ref (gz_ad true G 0 0)), (1, .int a1)]) dX11_issue_359 (by decide) rfl ?_
                    refine gz_j0_row (P := fun σ39 x => gz_W true p l e ({ frames := 3, cells := 1, slots := 60, locals := 71 } : Room) s m args below meth c G 10 (gz_Q true G below args s 1 60 gz_ei) 1 60 σ39 426 [(0, .ref (gz_ad true G 0 0)), (7, .int v27)] [] x) (fun σ39 => ?_) (fun j426 hj426 => ?_)
                    · unfold f_X11_issue_J426
                      refine gz_iconst C dX11_issue_426 gk_iconst_0 ?_
                      refine gz_istore C (lv' := [(8, .int 0), (0, .ref (gz_ad true G 0 0)), (7, .int v27)]) dX11_issue_427 (by decide) rfl ?_
                      refine gz_iconst C dX11_issue_429 gk_iconst_0 ?_
                      refine gz_istore C (lv' := [(9, .int 0), (8, .int 0), (0, .ref (gz_ad true G 0 0)), (7, .int v27)]) dX11_issue_430 (by decide) rfl ?_
                      refine gz_j0_row (P := fun σ40 x => gz_W true p l e ({ frames := 3, cells := 1, slots := 60, locals := 71 } : Room) s m args below meth c G 10 (gz_Q true G below args s 1 60 gz_ei) 1 60 σ40 480 [(0, .ref (gz_ad true G 0 0)), (7, .int v27)] [] x) (fun σ40 => ?_) (fun j480 hj480 => ?_)
                      · unfold f_X11_issue_J480
                        refine gz_aload_n C dX11_issue_480 0 rfl ?_
                        refine gz_get C (t := 0) (k := 50) (ci := 11) (q := (RX11, TX11, 63)) (v := .ref (gz_ad true G 33 0)) dX11_issue_481 fl_RX11_125 (gz_hm0 _) rfl rfl (by decide) rfl ?_
                        refine gz_iload C dX11_issue_484 1 rfl ?_
                        refine gz_aload_n C dX11_issue_486 0 rfl ?_
                        refine gz_ki (gz_runV (t := 0) (ci := 11) (q := (RX11, TX11, 63)) (As := []) (rest := [.int v27, .ref (gz_ad true G 33 0)]) C dX11_issue_487 ml_RX11_362 mw_X11_waiting mv_X11_waiting (c_X11_waiting l G σ40) (gz_hm0 _) rfl rfl rfl rfl rfl (Nat.le_of_ble_eq_true rfl) ⟨rfl, rfl, Nat.le_of_ble_eq_true rfl, Nat.le_of_ble_eq_true rfl, Nat.le_of_ble_eq_true rfl, Nat.le_of_ble_eq_true rfl⟩) (fun r42 σ41 => ?_)
                        refine gz_iast C (t := 33) dX11_issue_490 (gz_hm33 _) rfl (fun n43 hn43 => ?_)
                        refine gz_w_row (fun σ44 => ?_)
                        refine gz_aload_n C dX11_issue_491 0 rfl ?_
                        refine gz_iconst C dX11_issue_492 gk_iconst_0 ?_
                        refine gz_putI C (t := 0) (k := 9) (ci := 11) (q := (RX11, TX11, 63)) dX11_issue_493 fl_RX11_164 (gz_hm0 _) rfl rfl (by decide) rfl rfl rfl rfl ?_
                        refine gz_w_row (fun σ45 => ?_)
                        refine gz_aload_n C dX11_issue_496 0 rfl ?_
                        refine gz_iload C dX11_issue_497 1 rfl ?_
                        refine gz_ki (gz_runV (t := 0) (ci := 11) (q := (RX11, TX11, 63)) (As := [.int v27]) (rest := []) C dX11_issue_499 ml_RX11_190 mw_X11_done mv_X11_done (c_X11_done l G v27 σ45) (gz_hm0 _) rfl rfl rfl rfl rfl (Nat.le_of_ble_eq_true rfl) ⟨rfl, rfl, Nat.le_of_ble_eq_true rfl, Nat.le_of_ble_eq_true rfl, Nat.le_of_ble_eq_true rfl, Nat.le_of_ble_eq_true rfl⟩) (fun r47 σ46 => ?_)
                        exact gz_iret C rfl dX11_issue_502
                      · skip
                        refine gz_lv (lv' := [(0, .ref (gz_ad true G 0 0)), (7, .int v27), (8, .int 0), (9, .int 0)]) [2, 3, 1, 0] rfl ?_
                        refine gz_l2_ind (P := fun v48 v49 σ50 x => gz_W true p l e ({ frames := 3, cells := 1, slots := 60, locals := 71 } : Room) s m args below meth c G 10 (gz_Q true G below args s 1 60 gz_ei) 1 60 σ50 432 [(0, .ref (gz_ad true G 0 0)), (7, .int v27), (8, .int v48), (9, .int v49)] [] x) (fun _ _ _ => gz_none) (fun rec432 hrec432 v48 v49 σ50 => ?_) gz_fu 0 0 σ39
                        unfold f_X11_issue_L432
                        refine gz_iload C dX11_issue_432 3 rfl ?_
                        refine gz_aload_n C dX11_issue_434 0 rfl ?_
                        refine gz_get C (t := 0) (k := 29) (ci := 11) (q := (RX11, TX11, 63)) (v := .int (σ50.1 0 0 29)) dX11_issue_435 fl_RX11_173 (gz_hm0 _) rfl rfl (by decide) rfl ?_
                        refine gz_icmp_ge (tgt := 480) C dX11_issue_438 (by decide) ?_ ?_
                        · skip
                          refine gz_lv (lv' := [(0, .ref (gz_ad true G 0 0)), (7, .int v27)]) [0, 1] rfl ?_
                          exact hj480 σ50
                        · skip
                          refine gz_aload_n C dX11_issue_441 0 rfl ?_
                          refine gz_get C (t := 0) (k := 35) (ci := 11) (q := (RX11, TX11, 63)) (v := .ref (gz_ad true G 18 0)) dX11_issue_442 fl_RX11_80 (gz_hm0 _) rfl rfl (by decide) rfl ?_
                          refine gz_iload C dX11_issue_445 3 rfl ?_
                          refine gz_iald C (t := 18) dX11_issue_447 (gz_hm18 _) rfl (fun n51 hn51 => ?_)
                          refine gz_iload C dX11_issue_448 1 rfl ?_
                          refine gz_j1_row (P := fun v52 σ53 x => gz_W true p l e ({ frames := 3, cells := 1, slots := 60, locals := 71 } : Room) s m args below meth c G 10 (gz_Q true G below args s 1 60 gz_ei) 1 60 σ53 474 [(0, .ref (gz_ad true G 0 0)), (7, .int v27), (8, .int v52), (9, .int v49)] [] x) (fun v52 σ53 => ?_) (fun j474 hj474 => ?_)
                          · unfold f_X11_issue_J474
                            refine gz_iinc C (q := 3) (v := v49 + 1) (lv' := [(9, .int (v49 + 1)), (0, .ref (gz_ad true G 0 0)), (7, .int v27), (8, .int v52)]) dX11_issue_474 rfl rfl (by decide) rfl ?_
                            refine gz_goto (tgt := 432) C dX11_issue_477 (by decide) ?_
                            refine gz_lv (lv' := [(0, .ref (gz_ad true G 0 0)), (7, .int v27), (8, .int v52), (9, .int (v49 + 1))]) [1, 2, 3, 0] rfl ?_
                            exact hrec432 v52 (v49 + 1) σ53
                          · skip
                            refine gz_icmp_eq (tgt := 456) C dX11_issue_450 (by decide) ?_ ?_
                            · skip
                              refine gz_aload_n C dX11_issue_456 0 rfl ?_
                              refine gz_get C (t := 0) (k := 51) (ci := 11) (q := (RX11, TX11, 63)) (v := .ref (gz_ad true G 34 0)) dX11_issue_457 fl_RX11_128 (gz_hm0 _) rfl rfl (by decide) rfl ?_
                              refine gz_bipush C dX11_issue_460 gk_bipush_12 ?_
                              refine gz_iload C dX11_issue_462 1 rfl ?_
                              refine gz_imul C dX11_issue_464 ?_
                              refine gz_iload C dX11_issue_465 2 rfl ?_
                              refine gz_iadd C dX11_issue_467 ?_
                              refine gz_iload C dX11_issue_468 3 rfl ?_
                              refine gz_iast C (t := 34) dX11_issue_470 (gz_hm34 _) rfl (fun n54 hn54 => ?_)
                              refine gz_w_row (fun σ55 => ?_)
                              refine gz_iinc C (q := 2) (v := v48 + 1) (lv' := [(8, .int (v48 + 1)), (0, .ref (gz_ad true G 0 0)), (7, .int v27), (9, .int v49)]) dX11_issue_471 rfl rfl (by decide) rfl ?_
                              refine gz_lv (lv' := [(0, .ref (gz_ad true G 0 0)), (7, .int v27), (8, .int (v48 + 1)), (9, .int v49)]) [1, 2, 0, 3] rfl ?_
                              exact hj474 (v48 + 1) σ55
                            · skip
                              refine gz_goto (tgt := 474) C dX11_issue_453 (by decide) ?_
                              exact hj474 v48 σ50
                    · skip
                      refine gz_lv (lv' := [(0, .ref (gz_ad true G 0 0)), (1, .int a1), (7, .int v27), (8, .int 0)]) [2, 3, 1, 0] rfl ?_
                      refine gz_l1_ind (P := fun v56 σ57 x => gz_W true p l e ({ frames := 3, cells := 1, slots := 60, locals := 71 } : Room) s m args below meth c G 10 (gz_Q true G below args s 1 60 gz_ei) 1 60 σ57 361 [(0, .ref (gz_ad true G 0 0)), (1, .int a1), (7, .int v27), (8, .int v56)] [] x) (fun _ _ => gz_none) (fun rec361 hrec361 v56 σ57 => ?_) gz_fu 0 σ38
                      unfold f_X11_issue_L361
                      refine gz_iload C dX11_issue_361 3 rfl ?_
                      refine gz_aload_n C dX11_issue_363 0 rfl ?_
                      refine gz_get C (t := 0) (k := 55) (ci := 11) (q := (RX11, TX11, 63)) (v := .int (σ57.1 0 0 55)) dX11_issue_364 fl_RX11_354 (gz_hm0 _) rfl rfl (by decide) rfl ?_
                      refine gz_icmp_ge (tgt := 426) C dX11_issue_367 (by decide) ?_ ?_
                      · skip
                        refine gz_lv (lv' := [(0, .ref (gz_ad true G 0 0)), (7, .int v27)]) [0, 2] rfl ?_
                        exact hj426 σ57
                      · skip
                        refine gz_aload_n C dX11_issue_370 0 rfl ?_
                        refine gz_get C (t := 0) (k := 52) (ci := 11) (q := (RX11, TX11, 63)) (v := .ref (gz_ad true G 35 0)) dX11_issue_371 fl_RX11_131 (gz_hm0 _) rfl rfl (by decide) rfl ?_
                        refine gz_iload C dX11_issue_374 3 rfl ?_
                        refine gz_iald C (t := 35) dX11_issue_376 (gz_hm35 _) rfl (fun n58 hn58 => ?_)
                        refine gz_topI (fun v59 => ?_)
                        refine gz_istore C (lv' := [(9, .int v59), (0, .ref (gz_ad true G 0 0)), (1, .int a1), (7, .int v27), (8, .int v56)]) dX11_issue_377 (by decide) rfl ?_
                        refine gz_aload_n C dX11_issue_379 1 rfl ?_
                        refine gz_iload C dX11_issue_380 0 rfl ?_
                        refine gz_kv (gz_runV (t := 0) (ci := 11) (q := (RX11, TX11, 63)) (As := [.int v59]) (rest := []) C dX11_issue_382 ml_RX11_333 mw_X11_spans mv_X11_spans (c_X11_spans l G v59 σ57) (gz_hm0 _) rfl rfl rfl rfl rfl (Nat.le_of_ble_eq_true rfl) ⟨rfl, rfl, Nat.le_of_ble_eq_true rfl, Nat.le_of_ble_eq_true rfl, Nat.le_of_ble_eq_true rfl, Nat.le_of_ble_eq_true rfl⟩) (fun σ60 => ?_)
                        refine gz_aload_n C dX11_issue_385 1 rfl ?_
                        refine gz_get C (t := 0) (k := 35) (ci := 11) (q := (RX11, TX11, 63)) (v := .ref (gz_ad true G 18 0)) dX11_issue_386 fl_RX11_80 (gz_hm0 _) rfl rfl (by decide) rfl ?_
                        refine gz_iload C dX11_issue_389 0 rfl ?_
                        refine gz_iload C dX11_issue_391 3 rfl ?_
                        refine gz_iast C (t := 18) dX11_issue_393 (gz_hm18 _) rfl (fun n61 hn61 => ?_)
                        refine gz_w_row (fun σ62 => ?_)
                        refine gz_aload_n C dX11_issue_394 1 rfl ?_
                        refine gz_get C (t := 0) (k := 49) (ci := 11) (q := (RX11, TX11, 63)) (v := .ref (gz_ad true G 32 0)) dX11_issue_395 fl_RX11_122 (gz_hm0 _) rfl rfl (by decide) rfl ?_
                        refine gz_iload C dX11_issue_398 3 rfl ?_
                        refine gz_dup2 C dX11_issue_400 rfl rfl ?_
                        refine gz_iald C (t := 32) dX11_issue_401 (gz_hm32 _) rfl (fun n63 hn63 => ?_)
                        refine gz_aload_n C dX11_issue_402 1 rfl ?_
                        refine gz_get C (t := 0) (k := 34) (ci := 11) (q := (RX11, TX11, 63)) (v := .ref (gz_ad true G 17 0)) dX11_issue_403 fl_RX11_77 (gz_hm0 _) rfl rfl (by decide) rfl ?_
                        refine gz_iload C dX11_issue_406 0 rfl ?_
                        refine gz_iald C (t := 17) dX11_issue_408 (gz_hm17 _) rfl (fun n64 hn64 => ?_)
                        refine gz_iload_n C dX11_issue_409 2 rfl ?_
                        refine gz_j3_row (P := fun x65 x66 x67 σ68 x => gz_W true p l e ({ frames := 3, cells := 1, slots := 60, locals := 71 } : Room) s m args below meth c G 10 (gz_Q true G below args s 1 60 gz_ei) 1 60 σ68 418 [(0, .ref (gz_ad true G 0 0)), (1, .int a1), (7, .int v27), (8, .int v56)] [.int x67, .int x66, .int x65, .ref (gz_ad true G 32 0)] x) (fun x65 x66 x67 σ68 => ?_) (fun j418 hj418 => ?_)
                        · unfold f_X11_issue_J418
                          refine gz_iadd C dX11_issue_418 ?_
                          refine gz_iast C (t := 32) dX11_issue_419 (gz_hm32 _) rfl (fun n69 hn69 => ?_)
                          refine gz_w_row (fun σ70 => ?_)
                          refine gz_iinc C (q := 3) (v := v56 + 1) (lv' := [(8, .int (v56 + 1)), (0, .ref (gz_ad true G 0 0)), (1, .int a1), (7, .int v27)]) dX11_issue_420 rfl rfl (by decide) rfl ?_
                          refine gz_goto (tgt := 361) C dX11_issue_423 (by decide) ?_
                          refine gz_lv (lv' := [(0, .ref (gz_ad true G 0 0)), (1, .int a1), (7, .int v27), (8, .int (v56 + 1))]) [1, 2, 3, 0] rfl ?_
                          exact hrec361 (v56 + 1) σ70
                        · skip
                          refine gz_icmp_ge (tgt := 417) C dX11_issue_410 (by decide) ?_ ?_
                          · skip
                            refine gz_iconst C dX11_issue_417 gk_iconst_0 ?_
                            refine gz_lv (lv' := [(0, .ref (gz_ad true G 0 0)), (1, .int a1), (7, .int v27), (8, .int v56)]) [1, 2, 3, 4] rfl ?_
                            exact hj418 v27 (σ62.1 32 0 n63) 0 σ62
                          · skip
                            refine gz_iconst C dX11_issue_413 gk_iconst_1 ?_
                            refine gz_goto (tgt := 418) C dX11_issue_414 (by decide) ?_
                            refine gz_lv (lv' := [(0, .ref (gz_ad true G 0 0)), (1, .int a1), (7, .int v27), (8, .int v56)]) [1, 2, 3, 4] rfl ?_
                            exact hj418 v27 (σ62.1 32 0 n63) 1 σ62
                  · skip
                    refine gz_lv (lv' := [(0, .ref (gz_ad true G 0 0)), (1, .int a1), (3, .int a3), (4, .int a4), (5, .ref (gz_ad true G 44 t23)), (6, .int 1)]) [1, 2, 3, 4, 5, 0] rfl ?_
                    refine gz_l1_ind (P := fun v71 σ72 x => gz_W true p l e ({ frames := 3, cells := 1, slots := 60, locals := 71 } : Room) s m args below meth c G 10 (gz_Q true G below args s 1 60 gz_ei) 1 60 σ72 188 [(0, .ref (gz_ad true G 0 0)), (1, .int a1), (3, .int a3), (4, .int a4), (5, .ref (gz_ad true G 44 t23)), (6, .int v71)] [] x) (fun _ _ => gz_none) (fun rec188 hrec188 v71 σ72 => ?_) gz_fu 1 σ25
                    unfold f_X11_issue_L188
                    refine gz_iload C dX11_issue_188 5 rfl ?_
                    refine gz_if_eq (tgt := 290) C dX11_issue_190 (by decide) ?_ ?_
                    · skip
                      refine gz_lv (lv' := [(0, .ref (gz_ad true G 0 0)), (1, .int a1)]) [0, 1] rfl ?_
                      exact hj290 σ72
                    · skip
                      refine gz_iconst C dX11_issue_193 gk_iconst_m1 ?_
                      refine gz_istore C (lv' := [(7, .int (-1)), (0, .ref (gz_ad true G 0 0)), (1, .int a1), (3, .int a3), (4, .int a4), (5, .ref (gz_ad true G 44 t23)), (6, .int v71)]) dX11_issue_194 (by decide) rfl ?_
                      refine gz_iconst C dX11_issue_196 gk_iconst_0 ?_
                      refine gz_istore C (lv' := [(8, .int 0), (7, .int (-1)), (0, .ref (gz_ad true G 0 0)), (1, .int a1), (3, .int a3), (4, .int a4), (5, .ref (gz_ad true G 44 t23)), (6, .int v71)]) dX11_issue_197 (by decide) rfl ?_
                      refine gz_j1_row (P := fun v73 σ74 x => gz_W true p l e ({ frames := 3, cells := 1, slots := 60, locals := 71 } : Room) s m args below meth c G 10 (gz_Q true G below args s 1 60 gz_ei) 1 60 σ74 249 [(0, .ref (gz_ad true G 0 0)), (1, .int a1), (3, .int a3), (4, .int a4), (5, .ref (gz_ad true G 44 t23)), (7, .int v73)] [] x) (fun v73 σ74 => ?_) (fun j249 hj249 => ?_)
                      · unfold f_X11_issue_J249
                        refine gz_iload C dX11_issue_249 5 rfl ?_
                        refine gz_iconst C dX11_issue_251 gk_iconst_m1 ?_
                        refine gz_j1_row (P := fun x75 σ76 x => gz_W true p l e ({ frames := 3, cells := 1, slots := 60, locals := 71 } : Room) s m args below meth c G 10 (gz_Q true G below args s 1 60 gz_ei) 1 60 σ76 260 [(0, .ref (gz_ad true G 0 0)), (1, .int a1), (3, .int a3), (4, .int a4), (5, .ref (gz_ad true G 44 t23)), (7, .int v73)] [.int x75] x) (fun x75 σ76 => ?_) (fun j260 hj260 => ?_)
                        · unfold f_X11_issue_J260
                          refine gz_istore C (lv' := [(6, .int x75), (0, .ref (gz_ad true G 0 0)), (1, .int a1), (3, .int a3), (4, .int a4), (5, .ref (gz_ad true G 44 t23)), (7, .int v73)]) dX11_issue_260 (by decide) rfl ?_
                          refine gz_iload C dX11_issue_262 0 rfl ?_
                          refine gz_if_ne (tgt := 270) C dX11_issue_264 (by decide) ?_ ?_
                          · skip
                            refine gz_aload C dX11_issue_270 5 rfl ?_
                            refine gz_iload C dX11_issue_272 6 rfl ?_
                            refine gz_iconst C dX11_issue_274 gk_iconst_1 ?_
                            refine gz_tg_row (fun hg77 => ?_)
                            refine gz_zast C (t := 44) dX11_issue_275 (gz_hm44 hg77) rfl (fun n78 hn78 => ?_)
                            refine gz_w_row (fun σ79 => ?_)
                            refine gz_aload_n C dX11_issue_276 1 rfl ?_
                            refine gz_iload C dX11_issue_277 6 rfl ?_
                            refine gz_iload_n C dX11_issue_279 3 rfl ?_
                            refine gz_iload C dX11_issue_280 4 rfl ?_
                            refine gz_ki (gz_runV (t := 0) (ci := 11) (q := (RX11, TX11, 63)) (As := [.int v73, .int a3, .int a4]) (rest := []) C dX11_issue_282 ml_RX11_360 mw_X11_packs mv_X11_packs (c_X11_packs l G v73 a3 a4 σ79) (gz_hm0 _) rfl rfl rfl rfl rfl (Nat.le_of_ble_eq_true rfl) ⟨rfl, rfl, Nat.le_of_ble_eq_true rfl, Nat.le_of_ble_eq_true rfl, Nat.le_of_ble_eq_true rfl, Nat.le_of_ble_eq_true rfl⟩) (fun r81 σ80 => ?_)
                            refine gz_istore C (lv' := [(8, .int r81), (6, .int x75), (0, .ref (gz_ad true G 0 0)), (1, .int a1), (3, .int a3), (4, .int a4), (5, .ref (gz_ad true G 44 t23)), (7, .int v73)]) dX11_issue_285 (by decide) rfl ?_
                            refine gz_goto (tgt := 188) C dX11_issue_287 (by decide) ?_
                            refine gz_lv (lv' := [(0, .ref (gz_ad true G 0 0)), (1, .int a1), (3, .int a3), (4, .int a4), (5, .ref (gz_ad true G 44 t23)), (6, .int x75)]) [2, 3, 4, 5, 6, 1] rfl ?_
                            exact hrec188 x75 σ80
                          · skip
                            refine gz_goto (tgt := 188) C dX11_issue_267 (by decide) ?_
                            refine gz_lv (lv' := [(0, .ref (gz_ad true G 0 0)), (1, .int a1), (3, .int a3), (4, .int a4), (5, .ref (gz_ad true G 44 t23)), (6, .int x75)]) [1, 2, 3, 4, 5, 0] rfl ?_
                            exact hrec188 x75 σ76
                        · skip
                          refine gz_icmp_eq (tgt := 259) C dX11_issue_252 (by decide) ?_ ?_
                          · skip
                            refine gz_iconst C dX11_issue_259 gk_iconst_0 ?_
                            exact hj260 0 σ74
                          · skip
                            refine gz_iconst C dX11_issue_255 gk_iconst_1 ?_
                            refine gz_goto (tgt := 260) C dX11_issue_256 (by decide) ?_
                            exact hj260 1 σ74
                      · skip
                        refine gz_lv (lv' := [(0, .ref (gz_ad true G 0 0)), (1, .int a1), (3, .int a3), (4, .int a4), (5, .ref (gz_ad true G 44 t23)), (7, .int (-1)), (8, .int 0)]) [2, 3, 4, 5, 6, 1, 0] rfl ?_
                        refine gz_l2_ind (P := fun v82 v83 σ84 x => gz_W true p l e ({ frames := 3, cells := 1, slots := 60, locals := 71 } : Room) s m args below meth c G 10 (gz_Q true G below args s 1 60 gz_ei) 1 60 σ84 199 [(0, .ref (gz_ad true G 0 0)), (1, .int a1), (3, .int a3), (4, .int a4), (5, .ref (gz_ad true G 44 t23)), (7, .int v82), (8, .int v83)] [] x) (fun _ _ _ => gz_none) (fun rec199 hrec199 v82 v83 σ84 => ?_) gz_fu (-1) 0 σ72
                        unfold f_X11_issue_L199
                        refine gz_iload C dX11_issue_199 6 rfl ?_
                        refine gz_aload_n C dX11_issue_201 0 rfl ?_
                        refine gz_get C (t := 0) (k := 29) (ci := 11) (q := (RX11, TX11, 63)) (v := .int (σ84.1 0 0 29)) dX11_issue_202 fl_RX11_173 (gz_hm0 _) rfl rfl (by decide) rfl ?_
                        refine gz_icmp_ge (tgt := 249) C dX11_issue_205 (by decide) ?_ ?_
                        · skip
                          refine gz_lv (lv' := [(0, .ref (gz_ad true G 0 0)), (1, .int a1), (3, .int a3), (4, .int a4), (5, .ref (gz_ad true G 44 t23)), (7, .int v82)]) [0, 1, 2, 3, 4, 5] rfl ?_
                          exact hj249 v82 σ84
                        · skip
                          refine gz_aload C dX11_issue_208 4 rfl ?_
                          refine gz_iload C dX11_issue_210 6 rfl ?_
                          refine gz_tg_row (fun hg85 => ?_)
                          refine gz_zald C (t := 44) dX11_issue_212 (gz_hm44 hg85) rfl (fun n86 hn86 => ?_)
                          refine gz_j1_row (P := fun v87 σ88 x => gz_W true p l e ({ frames := 3, cells := 1, slots := 60, locals := 71 } : Room) s m args below meth c G 10 (gz_Q true G below args s 1 60 gz_ei) 1 60 σ88 243 [(0, .ref (gz_ad true G 0 0)), (1, .int a1), (3, .int a3), (4, .int a4), (5, .ref (gz_ad true G 44 t23)), (7, .int v87), (8, .int v83)] [] x) (fun v87 σ88 => ?_) (fun j243 hj243 => ?_)
                          · unfold f_X11_issue_J243
                            refine gz_iinc C (q := 6) (v := v83 + 1) (lv' := [(8, .int (v83 + 1)), (0, .ref (gz_ad true G 0 0)), (1, .int a1), (3, .int a3), (4, .int a4), (5, .ref (gz_ad true G 44 t23)), (7, .int v87)]) dX11_issue_243 rfl rfl (by decide) rfl ?_
                            refine gz_goto (tgt := 199) C dX11_issue_246 (by decide) ?_
                            refine gz_lv (lv' := [(0, .ref (gz_ad true G 0 0)), (1, .int a1), (3, .int a3), (4, .int a4), (5, .ref (gz_ad true G 44 t23)), (7, .int v87), (8, .int (v83 + 1))]) [1, 2, 3, 4, 5, 6, 0] rfl ?_
                            exact hrec199 v87 (v83 + 1) σ88
                          · skip
                            refine gz_if_ne (tgt := 243) C dX11_issue_213 (by decide) ?_ ?_
                            · skip
                              exact hj243 v82 σ84
                            · skip
                              refine gz_iload C dX11_issue_216 5 rfl ?_
                              refine gz_iconst C dX11_issue_218 gk_iconst_m1 ?_
                              refine gz_j0_row (P := fun σ89 x => gz_W true p l e ({ frames := 3, cells := 1, slots := 60, locals := 71 } : Room) s m args below meth c G 10 (gz_Q true G below args s 1 60 gz_ei) 1 60 σ89 239 [(0, .ref (gz_ad true G 0 0)), (1, .int a1), (3, .int a3), (4, .int a4), (5, .ref (gz_ad true G 44 t23)), (8, .int v83)] [] x) (fun σ89 => ?_) (fun j239 hj239 => ?_)
                              · unfold f_X11_issue_J239
                                refine gz_iload C dX11_issue_239 5 rfl ?_
                                refine gz_istore C (lv' := [(7, .int v83), (0, .ref (gz_ad true G 0 0)), (1, .int a1), (3, .int a3), (4, .int a4), (5, .ref (gz_ad true G 44 t23)), (8, .int v83)]) dX11_issue_241 (by decide) rfl ?_
                                refine gz_lv (lv' := [(0, .ref (gz_ad true G 0 0)), (1, .int a1), (3, .int a3), (4, .int a4), (5, .ref (gz_ad true G 44 t23)), (7, .int v83), (8, .int v83)]) [1, 2, 3, 4, 5, 0, 6] rfl ?_
                                exact hj243 v83 σ89
                              · skip
                                refine gz_icmp_eq (tgt := 239) C dX11_issue_219 (by decide) ?_ ?_
                                · skip
                                  refine gz_lv (lv' := [(0, .ref (gz_ad true G 0 0)), (1, .int a1), (3, .int a3), (4, .int a4), (5, .ref (gz_ad true G 44 t23)), (8, .int v83)]) [0, 1, 2, 3, 4, 6] rfl ?_
                                  exact hj239 σ84
                                · skip
                                  refine gz_aload_n C dX11_issue_222 0 rfl ?_
                                  refine gz_get C (t := 0) (k := 34) (ci := 11) (q := (RX11, TX11, 63)) (v := .ref (gz_ad true G 17 0)) dX11_issue_223 fl_RX11_77 (gz_hm0 _) rfl rfl (by decide) rfl ?_
                                  refine gz_iload C dX11_issue_226 6 rfl ?_
                                  refine gz_iald C (t := 17) dX11_issue_228 (gz_hm17 _) rfl (fun n90 hn90 => ?_)
                                  refine gz_aload_n C dX11_issue_229 0 rfl ?_
                                  refine gz_get C (t := 0) (k := 34) (ci := 11) (q := (RX11, TX11, 63)) (v := .ref (gz_ad true G 17 0)) dX11_issue_230 fl_RX11_77 (gz_hm0 _) rfl rfl (by decide) rfl ?_
                                  refine gz_iload C dX11_issue_233 5 rfl ?_
                                  refine gz_iald C (t := 17) dX11_issue_235 (gz_hm17 _) rfl (fun n91 hn91 => ?_)
                                  refine gz_icmp_ge (tgt := 243) C dX11_issue_236 (by decide) ?_ ?_
                                  · skip
                                    exact hj243 v82 σ84
                                  · skip
                                    refine gz_lv (lv' := [(0, .ref (gz_ad true G 0 0)), (1, .int a1), (3, .int a3), (4, .int a4), (5, .ref (gz_ad true G 44 t23)), (8, .int v83)]) [0, 1, 2, 3, 4, 6] rfl ?_
                                    exact hj239 σ84
                · skip
                  refine gz_lv (lv' := [(0, .ref (gz_ad true G 0 0)), (1, .int a1), (2, .int a2), (3, .int a3), (4, .int a4), (5, .ref (gz_ad true G 44 t23)), (6, .int 0)]) [2, 3, 4, 5, 6, 1, 0] rfl ?_
                  refine gz_l1_ind (P := fun v92 σ93 x => gz_W true p l e ({ frames := 3, cells := 1, slots := 60, locals := 71 } : Room) s m args below meth c G 10 (gz_Q true G below args s 1 60 gz_ei) 1 60 σ93 103 [(0, .ref (gz_ad true G 0 0)), (1, .int a1), (2, .int a2), (3, .int a3), (4, .int a4), (5, .ref (gz_ad true G 44 t23)), (6, .int v92)] [] x) (fun _ _ => gz_none) (fun rec103 hrec103 v92 σ93 => ?_) gz_fu 0 σ24
                  unfold f_X11_issue_L103
                  refine gz_iload C dX11_issue_103 6 rfl ?_
                  refine gz_aload_n C dX11_issue_105 0 rfl ?_
                  refine gz_get C (t := 0) (k := 29) (ci := 11) (q := (RX11, TX11, 63)) (v := .int (σ93.1 0 0 29)) dX11_issue_106 fl_RX11_173 (gz_hm0 _) rfl rfl (by decide) rfl ?_
                  refine gz_icmp_ge (tgt := 185) C dX11_issue_109 (by decide) ?_ ?_
                  · skip
                    refine gz_lv (lv' := [(0, .ref (gz_ad true G 0 0)), (1, .int a1), (3, .int a3), (4, .int a4), (5, .ref (gz_ad true G 44 t23))]) [0, 1, 3, 4, 5] rfl ?_
                    exact hj185 σ93
                  · skip
                    refine gz_aload C dX11_issue_112 5 rfl ?_
                    refine gz_iload C dX11_issue_114 6 rfl ?_
                    refine gz_aload_n C dX11_issue_116 0 rfl ?_
                    refine gz_get C (t := 0) (k := 35) (ci := 11) (q := (RX11, TX11, 63)) (v := .ref (gz_ad true G 18 0)) dX11_issue_117 fl_RX11_80 (gz_hm0 _) rfl rfl (by decide) rfl ?_
                    refine gz_iload C dX11_issue_120 6 rfl ?_
                    refine gz_iald C (t := 18) dX11_issue_122 (gz_hm18 _) rfl (fun n94 hn94 => ?_)
                    refine gz_iconst C dX11_issue_123 gk_iconst_m1 ?_
                    refine gz_j2_row (P := fun x95 x96 σ97 x => gz_W true p l e ({ frames := 3, cells := 1, slots := 60, locals := 71 } : Room) s m args below meth c G 10 (gz_Q true G below args s 1 60 gz_ei) 1 60 σ97 132 [(0, .ref (gz_ad true G 0 0)), (1, .int a1), (2, .int a2), (3, .int a3), (4, .int a4), (5, .ref (gz_ad true G 44 t23)), (6, .int v92)] [.int x96, .int x95, .ref (gz_ad true G 44 t23)] x) (fun x95 x96 σ97 => ?_) (fun j132 hj132 => ?_)
                    · unfold f_X11_issue_J132
                      refine gz_tg_row (fun hg98 => ?_)
                      refine gz_zast C (t := 44) dX11_issue_132 (gz_hm44 hg98) rfl (fun n99 hn99 => ?_)
                      refine gz_w_row (fun σ100 => ?_)
                      refine gz_aload C dX11_issue_133 5 rfl ?_
                      refine gz_iload C dX11_issue_135 6 rfl ?_
                      refine gz_tg_row (fun hg101 => ?_)
                      refine gz_zald C (t := 44) dX11_issue_137 (gz_hm44 hg101) rfl (fun n102 hn102 => ?_)
                      refine gz_j0_row (P := fun σ103 x => gz_W true p l e ({ frames := 3, cells := 1, slots := 60, locals := 71 } : Room) s m args below meth c G 10 (gz_Q true G below args s 1 60 gz_ei) 1 60 σ103 179 [(0, .ref (gz_ad true G 0 0)), (1, .int a1), (2, .int a2), (3, .int a3), (4, .int a4), (5, .ref (gz_ad true G 44 t23)), (6, .int v92)] [] x) (fun σ103 => ?_) (fun j179 hj179 => ?_)
                      · unfold f_X11_issue_J179
                        refine gz_iinc C (q := 6) (v := v92 + 1) (lv' := [(6, .int (v92 + 1)), (0, .ref (gz_ad true G 0 0)), (1, .int a1), (2, .int a2), (3, .int a3), (4, .int a4), (5, .ref (gz_ad true G 44 t23))]) dX11_issue_179 rfl rfl (by decide) rfl ?_
                        refine gz_goto (tgt := 103) C dX11_issue_182 (by decide) ?_
                        refine gz_lv (lv' := [(0, .ref (gz_ad true G 0 0)), (1, .int a1), (2, .int a2), (3, .int a3), (4, .int a4), (5, .ref (gz_ad true G 44 t23)), (6, .int (v92 + 1))]) [1, 2, 3, 4, 5, 6, 0] rfl ?_
                        exact hrec103 (v92 + 1) σ103
                      · skip
                        refine gz_if_ne (tgt := 179) C dX11_issue_138 (by decide) ?_ ?_
                        · skip
                          exact hj179 σ100
                        · skip
                          refine gz_aload_n C dX11_issue_141 0 rfl ?_
                          refine gz_get C (t := 0) (k := 34) (ci := 11) (q := (RX11, TX11, 63)) (v := .ref (gz_ad true G 17 0)) dX11_issue_142 fl_RX11_77 (gz_hm0 _) rfl rfl (by decide) rfl ?_
                          refine gz_iload C dX11_issue_145 6 rfl ?_
                          refine gz_iald C (t := 17) dX11_issue_147 (gz_hm17 _) rfl (fun n104 hn104 => ?_)
                          refine gz_iload_n C dX11_issue_148 2 rfl ?_
                          refine gz_icmp_lt (tgt := 155) C dX11_issue_149 (by decide) ?_ ?_
                          · skip
                            refine gz_aload C dX11_issue_155 5 rfl ?_
                            refine gz_iload C dX11_issue_157 6 rfl ?_
                            refine gz_iconst C dX11_issue_159 gk_iconst_1 ?_
                            refine gz_tg_row (fun hg105 => ?_)
                            refine gz_zast C (t := 44) dX11_issue_160 (gz_hm44 hg105) rfl (fun n106 hn106 => ?_)
                            refine gz_w_row (fun σ107 => ?_)
                            refine gz_aload_n C dX11_issue_161 0 rfl ?_
                            refine gz_iload C dX11_issue_162 6 rfl ?_
                            refine gz_iload_n C dX11_issue_164 3 rfl ?_
                            refine gz_iload C dX11_issue_165 4 rfl ?_
                            refine gz_ki (gz_runV (t := 0) (ci := 11) (q := (RX11, TX11, 63)) (As := [.int v92, .int a3, .int a4]) (rest := []) C dX11_issue_167 ml_RX11_360 mw_X11_packs mv_X11_packs (c_X11_packs l G v92 a3 a4 σ107) (gz_hm0 _) rfl rfl rfl rfl rfl (Nat.le_of_ble_eq_true rfl) ⟨rfl, rfl, Nat.le_of_ble_eq_true rfl, Nat.le_of_ble_eq_true rfl, Nat.le_of_ble_eq_true rfl, Nat.le_of_ble_eq_true rfl⟩) (fun r109 σ108 => ?_)
                            refine gz_if_ne (tgt := 179) C dX11_issue_170 (by decide) ?_ ?_
                            · skip
                              exact hj179 σ108
                            · skip
                              refine gz_aload_n C dX11_issue_173 0 rfl ?_
                              refine gz_iconst C dX11_issue_174 gk_iconst_5 ?_
                              refine gz_ki (gz_runV (t := 0) (ci := 11) (q := (RX11, TX11, 63)) (As := [.int 5]) (rest := []) C dX11_issue_175 ml_RX11_194 mw_X11_refused mv_X11_refused (c_X11_refused l G 5 σ108) (gz_hm0 _) rfl rfl rfl rfl rfl (Nat.le_of_ble_eq_true rfl) ⟨rfl, rfl, Nat.le_of_ble_eq_true rfl, Nat.le_of_ble_eq_true rfl, Nat.le_of_ble_eq_true rfl, Nat.le_of_ble_eq_true rfl⟩) (fun r111 σ110 => ?_)
                              exact gz_iret C rfl dX11_issue_178
                          · skip
                            refine gz_goto (tgt := 179) C dX11_issue_152 (by decide) ?_
                            exact hj179 σ100
                    · skip
                      refine gz_icmp_eq (tgt := 131) C dX11_issue_124 (by decide) ?_ ?_
                      · skip
                        refine gz_iconst C dX11_issue_131 gk_iconst_0 ?_
                        exact hj132 v92 0 σ93
                      · skip
                        refine gz_iconst C dX11_issue_127 gk_iconst_1 ?_
                        refine gz_goto (tgt := 132) C dX11_issue_128 (by decide) ?_
                        exact hj132 v92 1 σ93
              · skip
                refine gz_aload_n C dX11_issue_69 0 rfl ?_
                refine gz_iconst C dX11_issue_70 gk_iconst_3 ?_
                refine gz_ki (gz_runV (t := 0) (ci := 11) (q := (RX11, TX11, 63)) (As := [.int 3]) (rest := []) C dX11_issue_71 ml_RX11_194 mw_X11_refused mv_X11_refused (c_X11_refused l G 3 σ16) (gz_hm0 _) rfl rfl rfl rfl rfl (Nat.le_of_ble_eq_true rfl) ⟨rfl, rfl, Nat.le_of_ble_eq_true rfl, Nat.le_of_ble_eq_true rfl, Nat.le_of_ble_eq_true rfl, Nat.le_of_ble_eq_true rfl⟩) (fun r113 σ112 => ?_)
                refine gz_wid (ce1 := 1) (sl1 := 60) (Nat.zero_le _) (Nat.zero_le _) ?_
                exact gz_iret C rfl dX11_issue_74
            · skip
              refine gz_aload_n C dX11_issue_54 0 rfl ?_
              refine gz_iconst C dX11_issue_55 gk_iconst_2 ?_
              refine gz_ki (gz_runV (t := 0) (ci := 11) (q := (RX11, TX11, 63)) (As := [.int 2]) (rest := []) C dX11_issue_56 ml_RX11_194 mw_X11_refused mv_X11_refused (c_X11_refused l G 2 σ16) (gz_hm0 _) rfl rfl rfl rfl rfl (Nat.le_of_ble_eq_true rfl) ⟨rfl, rfl, Nat.le_of_ble_eq_true rfl, Nat.le_of_ble_eq_true rfl, Nat.le_of_ble_eq_true rfl, Nat.le_of_ble_eq_true rfl⟩) (fun r115 σ114 => ?_)
              refine gz_wid (ce1 := 1) (sl1 := 60) (Nat.zero_le _) (Nat.zero_le _) ?_
              exact gz_iret C rfl dX11_issue_59
