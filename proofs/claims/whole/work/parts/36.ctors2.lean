def f_X3_init (a : Nat) (σ : gy_S) : Option gy_S :=
  gy_nw (σ.1 + 1) (.inr (1, 4)) σ (fun b1 u2 =>
  gy_pt a (3, 7) 5 (b1 + 2) u2 (fun u3 =>
  gy_en (σ.1 + 1) u3))
set_option maxHeartbeats 4000000 in
set_option maxRecDepth 100000 in
theorem c_X3_init (l : Launch) (G : gz_G) (a : Nat) (σ : gy_S) : ∀ o, f_X3_init a σ = some o → gy_M l G yX3_init cX3_init 1 { frames := 1, cells := 1, slots := 10000 * 1, locals := 12 } [.ref (G.1 + a)] σ o 1 (10000 * 1) := by
  refine gy_enter RX3 rfl rfl (by decide +kernel) (Nat.le_of_ble_eq_true rfl) ?_
  intro p e s m args below meth c C hZ hI
  refine gq_eqs (st' := []) (lv' := [(0, .ref (G.1 + a))]) rfl rfl ?_
  unfold f_X3_init
  refine gq_aload_n C dX3_init_0 0 rfl ?_
  refine gy_oin C dX3_init_1 ml_RX3_3 gy_oi1 gy_oi2 (Nat.le_of_ble_eq_true rfl) (Nat.le_of_ble_eq_true rfl) ?_
  refine gq_aload_n C dX3_init_4 0 rfl ?_
  refine gq_iconst C dX3_init_5 gk_iconst_4 ?_
  refine gy_newa (ek := 1) (len := 4) C dX3_init_6 gya_long (by decide) rfl (fun _ _ => rfl) (by decide) (by decide) (by decide) (by decide) (Nat.le_refl _) gy_hls (fun b1 u2 => ?_)
  refine gy_put C hI (a := a) (k := 5) (ci := 3) (code := b1 + 2) (q := (RX3, TX3, 7)) dX3_init_8 fl_RX3_9 rfl (by decide) (by decide) rfl rfl rfl rfl (fun u3 => ?_)
  exact gy_vret C rfl rfl rfl dX3_init_11

def f_X4_init_L15 (a : Nat) (σ : gy_S) : (Int32 → gy_S → Option gy_S) → Int32 → gy_S → Option gy_S := fun rec6 i4 u5 =>
  gy_gt a (4, 2) 0 u5 (fun x7 =>
  gy_al x7 (4, 8) u5 (
  if 8 ≤ i4 then
  (gy_en (σ.1 + 17) u5)
  else
  (gy_gt a (4, 2) 0 u5 (fun x8 =>
  gy_nw (σ.1 + 17) (.inl (3, 7)) u5 (fun b9 u10 =>
  gy_cl (σ.1 + 17) 1 u10 (f_X3_init b9 u10) (fun u11 =>
  gy_as x8 (4, 8) i4 b9 (3, 7) u11 (fun u12 =>
  rec6 (i4 + 1) u12)))))))
def f_X4_init (a : Nat) (σ : gy_S) : Option gy_S :=
  gy_nw (σ.1 + 17) (.inr (4, 8)) σ (fun b1 u2 =>
  gy_pt a (4, 2) 0 (b1 + 2) u2 (fun u3 =>
  gy_l (f_X4_init_L15 a σ) gz_fu 0 u3))
set_option maxHeartbeats 4000000 in
set_option maxRecDepth 100000 in
theorem c_X4_init (l : Launch) (G : gz_G) (a : Nat) (σ : gy_S) : ∀ o, f_X4_init a σ = some o → gy_M l G yX4_init cX4_init 2 { frames := 2, cells := 17, slots := 10000 * 17, locals := 32 } [.ref (G.1 + a)] σ o 17 (10000 * 17) := by
  refine gy_enter RX4 rfl rfl (by decide +kernel) (Nat.le_of_ble_eq_true rfl) ?_
  intro p e s m args below meth c C hZ hI
  refine gq_eqs (st' := []) (lv' := [(0, .ref (G.1 + a))]) rfl rfl ?_
  unfold f_X4_init
  refine gq_aload_n C dX4_init_0 0 rfl ?_
  refine gy_oin C dX4_init_1 ml_RX4_3 gy_oi1 gy_oi2 (Nat.le_of_ble_eq_true rfl) (Nat.le_of_ble_eq_true rfl) ?_
  refine gq_aload_n C dX4_init_4 0 rfl ?_
  refine gq_bipush C dX4_init_5 gk_bipush_8 ?_
  refine gy_anew (ek := 4) (len := 8) C dX4_init_7 ck_RX4_9 hZ (by decide) (by decide) rfl (by decide) (by decide) (by decide) (Nat.le_refl _) gy_hls (fun b1 u2 => ?_)
  refine gy_put C hI (a := a) (k := 0) (ci := 4) (code := b1 + 2) (q := (RX4, TX4, 2)) dX4_init_10 fl_RX4_11 rfl (by decide) (by decide) rfl rfl rfl rfl (fun u3 => ?_)
  refine gq_iconst C dX4_init_13 gk_iconst_0 ?_
  refine gq_istore_n C (lv' := [(1, .int 0), (0, .ref (G.1 + a))]) dX4_init_14 (by decide) rfl ?_
  refine gy_l_ind (P := fun i4 u5 x => gy_W σ.1 p l e ({ frames := 2, cells := 17, slots := 10000 * 17, locals := 32 } : Room) s m args below meth c G 2 (gy_Q G below args s 17 (10000 * 17)) u5 15 [(1, .int i4), (0, .ref (G.1 + a))] [] x) (fun _ _ => gq_none) (fun rec6 hrec6 i4 u5 => ?_) gz_fu 0 u3
  unfold f_X4_init_L15
  refine gq_iload_n C dX4_init_15 0 rfl ?_
  refine gq_aload_n C dX4_init_16 1 rfl ?_
  refine gy_get C (k := 0) (ci := 4) (q := (RX4, TX4, 2)) dX4_init_17 fl_RX4_11 rfl (by decide) (by decide) (fun x7 => ?_)
  refine gy_alen C (ek := 4) (len := 8) (v := 8) dX4_init_20 (by decide) (by decide) ?_
  refine gq_icmp_ge (tgt := 43) C dX4_init_21 (by decide) ?_ ?_
  · skip
    exact gy_vret C rfl rfl rfl dX4_init_43
  · skip
    refine gq_aload_n C dX4_init_24 1 rfl ?_
    refine gy_get C (k := 0) (ci := 4) (q := (RX4, TX4, 2)) dX4_init_25 fl_RX4_11 rfl (by decide) (by decide) (fun x8 => ?_)
    refine gq_iload_n C dX4_init_28 0 rfl ?_
    refine gy_new (ci := 3) (q := (RX3, TX3, 7)) C dX4_init_29 ck_RX4_9 cin_3 cii_3 rfl (by decide) (Nat.le_refl _) gy_hls (fun b9 u10 => ?_)
    refine gq_dup C dX4_init_32 rfl ?_
    refine gy_callN C hZ dX4_init_33 ml_RX4_17 mw_X3_init rfl mi_X3_init (c_X3_init l G b9 u10) rfl rfl (Nat.le_of_ble_eq_true rfl) ⟨rfl, rfl, Nat.le_of_ble_eq_true rfl, Nat.le_of_ble_eq_true rfl, Nat.le_refl _, gy_hls, rfl⟩ (fun u11 => ?_)
    refine gy_aast C (ek := 4) (len := 8) (ci := 3) (q := (RX3, TX3, 7)) dX4_init_36 (by decide) rfl rfl (fun u12 => ?_)
    refine gq_iinc C (q := 0) (v := i4 + 1) (lv' := [(1, .int (i4 + 1)), (0, .ref (G.1 + a))]) dX4_init_37 rfl rfl (by decide) rfl ?_
    refine gq_goto (tgt := 15) C dX4_init_40 (by decide) ?_
    exact hrec6 (i4 + 1) u12

def f_X2_init (a : Nat) (σ : gy_S) : Option gy_S :=
  gy_nw (σ.1 + 1) (.inr (1, 157)) σ (fun b1 u2 =>
  gy_pt a (2, 2) 0 (b1 + 2) u2 (fun u3 =>
  gy_en (σ.1 + 1) u3))
set_option maxHeartbeats 4000000 in
set_option maxRecDepth 100000 in
theorem c_X2_init (l : Launch) (G : gz_G) (a : Nat) (σ : gy_S) : ∀ o, f_X2_init a σ = some o → gy_M l G yX2_init cX2_init 1 { frames := 1, cells := 1, slots := 10000 * 1, locals := 12 } [.ref (G.1 + a)] σ o 1 (10000 * 1) := by
  refine gy_enter RX2 rfl rfl (by decide +kernel) (Nat.le_of_ble_eq_true rfl) ?_
  intro p e s m args below meth c C hZ hI
  refine gq_eqs (st' := []) (lv' := [(0, .ref (G.1 + a))]) rfl rfl ?_
  unfold f_X2_init
  refine gq_aload_n C dX2_init_0 0 rfl ?_
  refine gy_oin C dX2_init_1 ml_RX2_3 gy_oi1 gy_oi2 (Nat.le_of_ble_eq_true rfl) (Nat.le_of_ble_eq_true rfl) ?_
  refine gq_aload_n C dX2_init_4 0 rfl ?_
  refine gq_sipush C dX2_init_5 gk_sipush_157 ?_
  refine gy_newa (ek := 1) (len := 157) C dX2_init_8 gya_long (by decide) rfl (fun _ _ => rfl) (by decide) (by decide) (by decide) (by decide) (Nat.le_refl _) gy_hls (fun b1 u2 => ?_)
  refine gy_put C hI (a := a) (k := 0) (ci := 2) (code := b1 + 2) (q := (RX2, TX2, 2)) dX2_init_10 fl_RX2_9 rfl (by decide) (by decide) rfl rfl rfl rfl (fun u3 => ?_)
  exact gy_vret C rfl rfl rfl dX2_init_13

def f_X8_init (a : Nat) (σ : gy_S) : Option gy_S :=
  gy_nw (σ.1 + 1) (.inr (2, 400)) σ (fun b1 u2 =>
  gy_pt a (8, 11) 0 (b1 + 2) u2 (fun u3 =>
  gy_en (σ.1 + 1) u3))
set_option maxHeartbeats 4000000 in
set_option maxRecDepth 100000 in
theorem c_X8_init (l : Launch) (G : gz_G) (a : Nat) (σ : gy_S) : ∀ o, f_X8_init a σ = some o → gy_M l G yX8_init cX8_init 1 { frames := 1, cells := 1, slots := 10000 * 1, locals := 12 } [.ref (G.1 + a)] σ o 1 (10000 * 1) := by
  refine gy_enter RX8 rfl rfl (by decide +kernel) (Nat.le_of_ble_eq_true rfl) ?_
  intro p e s m args below meth c C hZ hI
  refine gq_eqs (st' := []) (lv' := [(0, .ref (G.1 + a))]) rfl rfl ?_
  unfold f_X8_init
  refine gq_aload_n C dX8_init_0 0 rfl ?_
  refine gy_oin C dX8_init_1 ml_RX8_3 gy_oi1 gy_oi2 (Nat.le_of_ble_eq_true rfl) (Nat.le_of_ble_eq_true rfl) ?_
  refine gq_aload_n C dX8_init_4 0 rfl ?_
  refine gq_sipush C dX8_init_5 gk_sipush_400 ?_
  refine gy_newa (ek := 2) (len := 400) C dX8_init_8 gya_byte (by decide) rfl (fun _ _ => rfl) (by decide) (by decide) (by decide) (by decide) (Nat.le_refl _) gy_hls (fun b1 u2 => ?_)
  refine gy_put C hI (a := a) (k := 0) (ci := 8) (code := b1 + 2) (q := (RX8, TX8, 11)) dX8_init_10 fl_RX8_9 rfl (by decide) (by decide) rfl rfl rfl rfl (fun u3 => ?_)
  exact gy_vret C rfl rfl rfl dX8_init_13

def f_X6_init (a : Nat) (σ : gy_S) : Option gy_S :=
  gy_nw (σ.1 + 4) (.inr (1, 8)) σ (fun b1 u2 =>
  gy_pt a (6, 15) 5 (b1 + 2) u2 (fun u3 =>
  gy_nw (σ.1 + 4) (.inr (0, 4)) u3 (fun b4 u5 =>
  gy_pt a (6, 15) 7 (b4 + 2) u5 (fun u6 =>
  gy_nw (σ.1 + 4) (.inr (0, 4)) u6 (fun b7 u8 =>
  gy_pt a (6, 15) 8 (b7 + 2) u8 (fun u9 =>
  gy_nw (σ.1 + 4) (.inr (0, 4)) u9 (fun b10 u11 =>
  gy_pt a (6, 15) 9 (b10 + 2) u11 (fun u12 =>
  gy_en (σ.1 + 4) u12))))))))
set_option maxHeartbeats 4000000 in
set_option maxRecDepth 100000 in
theorem c_X6_init (l : Launch) (G : gz_G) (a : Nat) (σ : gy_S) : ∀ o, f_X6_init a σ = some o → gy_M l G yX6_init cX6_init 1 { frames := 1, cells := 4, slots := 10000 * 4, locals := 12 } [.ref (G.1 + a)] σ o 4 (10000 * 4) := by
  refine gy_enter RX6 rfl rfl (by decide +kernel) (Nat.le_of_ble_eq_true rfl) ?_
  intro p e s m args below meth c C hZ hI
  refine gq_eqs (st' := []) (lv' := [(0, .ref (G.1 + a))]) rfl rfl ?_
  unfold f_X6_init
  refine gq_aload_n C dX6_init_0 0 rfl ?_
  refine gy_oin C dX6_init_1 ml_RX6_3 gy_oi1 gy_oi2 (Nat.le_of_ble_eq_true rfl) (Nat.le_of_ble_eq_true rfl) ?_
  refine gq_aload_n C dX6_init_4 0 rfl ?_
  refine gq_bipush C dX6_init_5 gk_bipush_8 ?_
  refine gy_newa (ek := 1) (len := 8) C dX6_init_7 gya_long (by decide) rfl (fun _ _ => rfl) (by decide) (by decide) (by decide) (by decide) (Nat.le_refl _) gy_hls (fun b1 u2 => ?_)
  refine gy_put C hI (a := a) (k := 5) (ci := 6) (code := b1 + 2) (q := (RX6, TX6, 15)) dX6_init_9 fl_RX6_9 rfl (by decide) (by decide) rfl rfl rfl rfl (fun u3 => ?_)
  refine gq_aload_n C dX6_init_12 0 rfl ?_
  refine gq_iconst C dX6_init_13 gk_iconst_4 ?_
  refine gy_newa (ek := 0) (len := 4) C dX6_init_14 gya_int (by decide) rfl (fun _ _ => rfl) (by decide) (by decide) (by decide) (by decide) (Nat.le_refl _) gy_hls (fun b4 u5 => ?_)
  refine gy_put C hI (a := a) (k := 7) (ci := 6) (code := b4 + 2) (q := (RX6, TX6, 15)) dX6_init_16 fl_RX6_15 rfl (by decide) (by decide) rfl rfl rfl rfl (fun u6 => ?_)
  refine gq_aload_n C dX6_init_19 0 rfl ?_
  refine gq_iconst C dX6_init_20 gk_iconst_4 ?_
  refine gy_newa (ek := 0) (len := 4) C dX6_init_21 gya_int (by decide) rfl (fun _ _ => rfl) (by decide) (by decide) (by decide) (by decide) (Nat.le_refl _) gy_hls (fun b7 u8 => ?_)
  refine gy_put C hI (a := a) (k := 8) (ci := 6) (code := b7 + 2) (q := (RX6, TX6, 15)) dX6_init_23 fl_RX6_19 rfl (by decide) (by decide) rfl rfl rfl rfl (fun u9 => ?_)
  refine gq_aload_n C dX6_init_26 0 rfl ?_
  refine gq_iconst C dX6_init_27 gk_iconst_4 ?_
  refine gy_newa (ek := 0) (len := 4) C dX6_init_28 gya_int (by decide) rfl (fun _ _ => rfl) (by decide) (by decide) (by decide) (by decide) (Nat.le_refl _) gy_hls (fun b10 u11 => ?_)
  refine gy_put C hI (a := a) (k := 9) (ci := 6) (code := b10 + 2) (q := (RX6, TX6, 15)) dX6_init_30 fl_RX6_22 rfl (by decide) (by decide) rfl rfl rfl rfl (fun u12 => ?_)
  exact gy_vret C rfl rfl rfl dX6_init_33

def f_X1_init_L31 (a : Nat) (σ : gy_S) : (Int32 → gy_S → Option gy_S) → Int32 → gy_S → Option gy_S := fun rec12 i10 u11 =>
  gy_gt a (1, 6) 0 u11 (fun x13 =>
  gy_al x13 (7, 61) u11 (
  if 61 ≤ i10 then
  (gy_en (σ.1 + 308) u11)
  else
  (gy_gt a (1, 6) 0 u11 (fun x14 =>
  gy_nw (σ.1 + 308) (.inl (6, 15)) u11 (fun b15 u16 =>
  gy_cl (σ.1 + 308) 4 u16 (f_X6_init b15 u16) (fun u17 =>
  gy_as x14 (7, 61) i10 b15 (6, 15) u17 (fun u18 =>
  rec12 (i10 + 1) u18)))))))
def f_X1_init (a : Nat) (σ : gy_S) : Option gy_S :=
  gy_nw (σ.1 + 308) (.inr (7, 61)) σ (fun b1 u2 =>
  gy_pt a (1, 6) 0 (b1 + 2) u2 (fun u3 =>
  gy_nw (σ.1 + 308) (.inr (1, 61)) u3 (fun b4 u5 =>
  gy_pt a (1, 6) 2 (b4 + 2) u5 (fun u6 =>
  gy_nw (σ.1 + 308) (.inr (0, 60)) u6 (fun b7 u8 =>
  gy_pt a (1, 6) 4 (b7 + 2) u8 (fun u9 =>
  gy_l (f_X1_init_L31 a σ) gz_fu 0 u9))))))
set_option maxHeartbeats 4000000 in
set_option maxRecDepth 100000 in
theorem c_X1_init (l : Launch) (G : gz_G) (a : Nat) (σ : gy_S) : ∀ o, f_X1_init a σ = some o → gy_M l G yX1_init cX1_init 2 { frames := 2, cells := 308, slots := 10000 * 308, locals := 32 } [.ref (G.1 + a)] σ o 308 (10000 * 308) := by
  refine gy_enter RX1 rfl rfl (by decide +kernel) (Nat.le_of_ble_eq_true rfl) ?_
  intro p e s m args below meth c C hZ hI
  refine gq_eqs (st' := []) (lv' := [(0, .ref (G.1 + a))]) rfl rfl ?_
  unfold f_X1_init
  refine gq_aload_n C dX1_init_0 0 rfl ?_
  refine gy_oin C dX1_init_1 ml_RX1_3 gy_oi1 gy_oi2 (Nat.le_of_ble_eq_true rfl) (Nat.le_of_ble_eq_true rfl) ?_
  refine gq_aload_n C dX1_init_4 0 rfl ?_
  refine gq_bipush C dX1_init_5 gk_bipush_61 ?_
  refine gy_anew (ek := 7) (len := 61) C dX1_init_7 ck_RX1_9 hZ (by decide) (by decide) rfl (by decide) (by decide) (by decide) (Nat.le_refl _) gy_hls (fun b1 u2 => ?_)
  refine gy_put C hI (a := a) (k := 0) (ci := 1) (code := b1 + 2) (q := (RX1, TX1, 6)) dX1_init_10 fl_RX1_11 rfl (by decide) (by decide) rfl rfl rfl rfl (fun u3 => ?_)
  refine gq_aload_n C dX1_init_13 0 rfl ?_
  refine gq_bipush C dX1_init_14 gk_bipush_61 ?_
  refine gy_newa (ek := 1) (len := 61) C dX1_init_16 gya_long (by decide) rfl (fun _ _ => rfl) (by decide) (by decide) (by decide) (by decide) (Nat.le_refl _) gy_hls (fun b4 u5 => ?_)
  refine gy_put C hI (a := a) (k := 2) (ci := 1) (code := b4 + 2) (q := (RX1, TX1, 6)) dX1_init_18 fl_RX1_17 rfl (by decide) (by decide) rfl rfl rfl rfl (fun u6 => ?_)
  refine gq_aload_n C dX1_init_21 0 rfl ?_
  refine gq_bipush C dX1_init_22 gk_bipush_60 ?_
  refine gy_newa (ek := 0) (len := 60) C dX1_init_24 gya_int (by decide) rfl (fun _ _ => rfl) (by decide) (by decide) (by decide) (by decide) (Nat.le_refl _) gy_hls (fun b7 u8 => ?_)
  refine gy_put C hI (a := a) (k := 4) (ci := 1) (code := b7 + 2) (q := (RX1, TX1, 6)) dX1_init_26 fl_RX1_21 rfl (by decide) (by decide) rfl rfl rfl rfl (fun u9 => ?_)
  refine gq_iconst C dX1_init_29 gk_iconst_0 ?_
  refine gq_istore_n C (lv' := [(1, .int 0), (0, .ref (G.1 + a))]) dX1_init_30 (by decide) rfl ?_
  refine gy_l_ind (P := fun i10 u11 x => gy_W σ.1 p l e ({ frames := 2, cells := 308, slots := 10000 * 308, locals := 32 } : Room) s m args below meth c G 2 (gy_Q G below args s 308 (10000 * 308)) u11 31 [(1, .int i10), (0, .ref (G.1 + a))] [] x) (fun _ _ => gq_none) (fun rec12 hrec12 i10 u11 => ?_) gz_fu 0 u9
  unfold f_X1_init_L31
  refine gq_iload_n C dX1_init_31 0 rfl ?_
  refine gq_aload_n C dX1_init_32 1 rfl ?_
  refine gy_get C (k := 0) (ci := 1) (q := (RX1, TX1, 6)) dX1_init_33 fl_RX1_11 rfl (by decide) (by decide) (fun x13 => ?_)
  refine gy_alen C (ek := 7) (len := 61) (v := 61) dX1_init_36 (by decide) (by decide) ?_
  refine gq_icmp_ge (tgt := 59) C dX1_init_37 (by decide) ?_ ?_
  · skip
    exact gy_vret C rfl rfl rfl dX1_init_59
  · skip
    refine gq_aload_n C dX1_init_40 1 rfl ?_
    refine gy_get C (k := 0) (ci := 1) (q := (RX1, TX1, 6)) dX1_init_41 fl_RX1_11 rfl (by decide) (by decide) (fun x14 => ?_)
    refine gq_iload_n C dX1_init_44 0 rfl ?_
    refine gy_new (ci := 6) (q := (RX6, TX6, 15)) C dX1_init_45 ck_RX1_9 cin_6 cii_6 rfl (by decide) (Nat.le_refl _) gy_hls (fun b15 u16 => ?_)
    refine gq_dup C dX1_init_48 rfl ?_
    refine gy_callN C hZ dX1_init_49 ml_RX1_25 mw_X6_init rfl mi_X6_init (c_X6_init l G b15 u16) rfl rfl (Nat.le_of_ble_eq_true rfl) ⟨rfl, rfl, Nat.le_of_ble_eq_true rfl, Nat.le_of_ble_eq_true rfl, Nat.le_refl _, gy_hls, rfl⟩ (fun u17 => ?_)
    refine gy_aast C (ek := 7) (len := 61) (ci := 6) (q := (RX6, TX6, 15)) dX1_init_52 (by decide) rfl rfl (fun u18 => ?_)
    refine gq_iinc C (q := 0) (v := i10 + 1) (lv' := [(1, .int (i10 + 1)), (0, .ref (G.1 + a))]) dX1_init_53 rfl rfl (by decide) rfl ?_
    refine gq_goto (tgt := 31) C dX1_init_56 (by decide) ?_
    exact hrec12 (i10 + 1) u18

def f_X5_init (a : Nat) (σ : gy_S) : Option gy_S :=
  gy_nw (σ.1 + 1) (.inr (0, 12)) σ (fun b1 u2 =>
  gy_pt a (5, 6) 5 (b1 + 2) u2 (fun u3 =>
  gy_en (σ.1 + 1) u3))
set_option maxHeartbeats 4000000 in
set_option maxRecDepth 100000 in
theorem c_X5_init (l : Launch) (G : gz_G) (a : Nat) (σ : gy_S) : ∀ o, f_X5_init a σ = some o → gy_M l G yX5_init cX5_init 1 { frames := 1, cells := 1, slots := 10000 * 1, locals := 12 } [.ref (G.1 + a)] σ o 1 (10000 * 1) := by
  refine gy_enter RX5 rfl rfl (by decide +kernel) (Nat.le_of_ble_eq_true rfl) ?_
  intro p e s m args below meth c C hZ hI
  refine gq_eqs (st' := []) (lv' := [(0, .ref (G.1 + a))]) rfl rfl ?_
  unfold f_X5_init
  refine gq_aload_n C dX5_init_0 0 rfl ?_
  refine gy_oin C dX5_init_1 ml_RX5_3 gy_oi1 gy_oi2 (Nat.le_of_ble_eq_true rfl) (Nat.le_of_ble_eq_true rfl) ?_
  refine gq_aload_n C dX5_init_4 0 rfl ?_
  refine gq_bipush C dX5_init_5 gk_bipush_12 ?_
  refine gy_newa (ek := 0) (len := 12) C dX5_init_7 gya_int (by decide) rfl (fun _ _ => rfl) (by decide) (by decide) (by decide) (by decide) (Nat.le_refl _) gy_hls (fun b1 u2 => ?_)
  refine gy_put C hI (a := a) (k := 5) (ci := 5) (code := b1 + 2) (q := (RX5, TX5, 6)) dX5_init_9 fl_RX5_9 rfl (by decide) (by decide) rfl rfl rfl rfl (fun u3 => ?_)
  exact gy_vret C rfl rfl rfl dX5_init_12

def f_X7_init (a : Nat) (σ : gy_S) : Option gy_S :=
  gy_nw (σ.1 + 3) (.inr (0, 4096)) σ (fun b1 u2 =>
  gy_pt a (7, 7) 0 (b1 + 2) u2 (fun u3 =>
  gy_nw (σ.1 + 3) (.inr (0, 12)) u3 (fun b4 u5 =>
  gy_pt a (7, 7) 1 (b4 + 2) u5 (fun u6 =>
  gy_nw (σ.1 + 3) (.inr (0, 12)) u6 (fun b7 u8 =>
  gy_pt a (7, 7) 2 (b7 + 2) u8 (fun u9 =>
  gy_en (σ.1 + 3) u9))))))
set_option maxHeartbeats 4000000 in
set_option maxRecDepth 100000 in
theorem c_X7_init (l : Launch) (G : gz_G) (a : Nat) (σ : gy_S) : ∀ o, f_X7_init a σ = some o → gy_M l G yX7_init cX7_init 1 { frames := 1, cells := 3, slots := 10000 * 3, locals := 12 } [.ref (G.1 + a)] σ o 3 (10000 * 3) := by
  refine gy_enter RX7 rfl rfl (by decide +kernel) (Nat.le_of_ble_eq_true rfl) ?_
  intro p e s m args below meth c C hZ hI
  refine gq_eqs (st' := []) (lv' := [(0, .ref (G.1 + a))]) rfl rfl ?_
  unfold f_X7_init
  refine gq_aload_n C dX7_init_0 0 rfl ?_
  refine gy_oin C dX7_init_1 ml_RX7_5 gy_oi1 gy_oi2 (Nat.le_of_ble_eq_true rfl) (Nat.le_of_ble_eq_true rfl) ?_
  refine gq_aload_n C dX7_init_4 0 rfl ?_
  refine gq_sipush C dX7_init_5 gk_sipush_4096 ?_
  refine gy_newa (ek := 0) (len := 4096) C dX7_init_8 gya_int (by decide) rfl (fun _ _ => rfl) (by decide) (by decide) (by decide) (by decide) (Nat.le_refl _) gy_hls (fun b1 u2 => ?_)
  refine gy_put C hI (a := a) (k := 0) (ci := 7) (code := b1 + 2) (q := (RX7, TX7, 7)) dX7_init_10 fl_RX7_11 rfl (by decide) (by decide) rfl rfl rfl rfl (fun u3 => ?_)
  refine gq_aload_n C dX7_init_13 0 rfl ?_
  refine gq_bipush C dX7_init_14 gk_bipush_12 ?_
  refine gy_newa (ek := 0) (len := 12) C dX7_init_16 gya_int (by decide) rfl (fun _ _ => rfl) (by decide) (by decide) (by decide) (by decide) (Nat.le_refl _) gy_hls (fun b4 u5 => ?_)
  refine gy_put C hI (a := a) (k := 1) (ci := 7) (code := b4 + 2) (q := (RX7, TX7, 7)) dX7_init_18 fl_RX7_15 rfl (by decide) (by decide) rfl rfl rfl rfl (fun u6 => ?_)
  refine gq_aload_n C dX7_init_21 0 rfl ?_
  refine gq_bipush C dX7_init_22 gk_bipush_12 ?_
  refine gy_newa (ek := 0) (len := 12) C dX7_init_24 gya_int (by decide) rfl (fun _ _ => rfl) (by decide) (by decide) (by decide) (by decide) (Nat.le_refl _) gy_hls (fun b7 u8 => ?_)
  refine gy_put C hI (a := a) (k := 2) (ci := 7) (code := b7 + 2) (q := (RX7, TX7, 7)) dX7_init_26 fl_RX7_18 rfl (by decide) (by decide) rfl rfl rfl rfl (fun u9 => ?_)
  exact gy_vret C rfl rfl rfl dX7_init_29

def f_X0_init (a : Nat) (σ : gy_S) : Option gy_S :=
  gy_nw (σ.1 + 4) (.inr (0, 100)) σ (fun b1 u2 =>
  gy_pt a (0, 10) 0 (b1 + 2) u2 (fun u3 =>
  gy_nw (σ.1 + 4) (.inr (0, 100)) u3 (fun b4 u5 =>
  gy_pt a (0, 10) 1 (b4 + 2) u5 (fun u6 =>
  gy_nw (σ.1 + 4) (.inr (1, 100)) u6 (fun b7 u8 =>
  gy_pt a (0, 10) 2 (b7 + 2) u8 (fun u9 =>
  gy_nw (σ.1 + 4) (.inr (1, 100)) u9 (fun b10 u11 =>
  gy_pt a (0, 10) 3 (b10 + 2) u11 (fun u12 =>
  gy_en (σ.1 + 4) u12))))))))
set_option maxHeartbeats 4000000 in
set_option maxRecDepth 100000 in
theorem c_X0_init (l : Launch) (G : gz_G) (a : Nat) (σ : gy_S) : ∀ o, f_X0_init a σ = some o → gy_M l G yX0_init cX0_init 1 { frames := 1, cells := 4, slots := 10000 * 4, locals := 12 } [.ref (G.1 + a)] σ o 4 (10000 * 4) := by
  refine gy_enter RX0 rfl rfl (by decide +kernel) (Nat.le_of_ble_eq_true rfl) ?_
  intro p e s m args below meth c C hZ hI
  refine gq_eqs (st' := []) (lv' := [(0, .ref (G.1 + a))]) rfl rfl ?_
  unfold f_X0_init
  refine gq_aload_n C dX0_init_0 0 rfl ?_
  refine gy_oin C dX0_init_1 ml_RX0_3 gy_oi1 gy_oi2 (Nat.le_of_ble_eq_true rfl) (Nat.le_of_ble_eq_true rfl) ?_
  refine gq_aload_n C dX0_init_4 0 rfl ?_
  refine gq_bipush C dX0_init_5 gk_bipush_100 ?_
  refine gy_newa (ek := 0) (len := 100) C dX0_init_7 gya_int (by decide) rfl (fun _ _ => rfl) (by decide) (by decide) (by decide) (by decide) (Nat.le_refl _) gy_hls (fun b1 u2 => ?_)
  refine gy_put C hI (a := a) (k := 0) (ci := 0) (code := b1 + 2) (q := (RX0, TX0, 10)) dX0_init_9 fl_RX0_9 rfl (by decide) (by decide) rfl rfl rfl rfl (fun u3 => ?_)
  refine gq_aload_n C dX0_init_12 0 rfl ?_
  refine gq_bipush C dX0_init_13 gk_bipush_100 ?_
  refine gy_newa (ek := 0) (len := 100) C dX0_init_15 gya_int (by decide) rfl (fun _ _ => rfl) (by decide) (by decide) (by decide) (by decide) (Nat.le_refl _) gy_hls (fun b4 u5 => ?_)
  refine gy_put C hI (a := a) (k := 1) (ci := 0) (code := b4 + 2) (q := (RX0, TX0, 10)) dX0_init_17 fl_RX0_15 rfl (by decide) (by decide) rfl rfl rfl rfl (fun u6 => ?_)
  refine gq_aload_n C dX0_init_20 0 rfl ?_
  refine gq_bipush C dX0_init_21 gk_bipush_100 ?_
  refine gy_newa (ek := 1) (len := 100) C dX0_init_23 gya_long (by decide) rfl (fun _ _ => rfl) (by decide) (by decide) (by decide) (by decide) (Nat.le_refl _) gy_hls (fun b7 u8 => ?_)
  refine gy_put C hI (a := a) (k := 2) (ci := 0) (code := b7 + 2) (q := (RX0, TX0, 10)) dX0_init_25 fl_RX0_18 rfl (by decide) (by decide) rfl rfl rfl rfl (fun u9 => ?_)
  refine gq_aload_n C dX0_init_28 0 rfl ?_
  refine gq_bipush C dX0_init_29 gk_bipush_100 ?_
  refine gy_newa (ek := 1) (len := 100) C dX0_init_31 gya_long (by decide) rfl (fun _ _ => rfl) (by decide) (by decide) (by decide) (by decide) (Nat.le_refl _) gy_hls (fun b10 u11 => ?_)
  refine gy_put C hI (a := a) (k := 3) (ci := 0) (code := b10 + 2) (q := (RX0, TX0, 10)) dX0_init_33 fl_RX0_22 rfl (by decide) (by decide) rfl rfl rfl rfl (fun u12 => ?_)
  exact gy_vret C rfl rfl rfl dX0_init_36

def f_X9_init_L87 (a : Nat) (σ : gy_S) : (Int32 → gy_S → Option gy_S) → Int32 → gy_S → Option gy_S := fun rec25 i23 u24 =>
  gy_gt a (9, 11) 5 u24 (fun x26 =>
  gy_al x26 (6, 40) u24 (
  if 40 ≤ i23 then
  (gy_pt a (9, 11) 7 (1) u24 (fun u27 =>
  gy_nw (σ.1 + 638) (.inl (7, 7)) u27 (fun b28 u29 =>
  gy_cl (σ.1 + 638) 3 u29 (f_X7_init b28 u29) (fun u30 =>
  gy_pt a (9, 11) 8 (b28 + 2) u30 (fun u31 =>
  gy_nw (σ.1 + 638) (.inl (0, 10)) u31 (fun b32 u33 =>
  gy_cl (σ.1 + 638) 4 u33 (f_X0_init b32 u33) (fun u34 =>
  gy_pt a (9, 11) 9 (b32 + 2) u34 (fun u35 =>
  gy_en (σ.1 + 638) u35))))))))
  else
  (gy_gt a (9, 11) 5 u24 (fun x36 =>
  gy_nw (σ.1 + 638) (.inl (5, 6)) u24 (fun b37 u38 =>
  gy_cl (σ.1 + 638) 1 u38 (f_X5_init b37 u38) (fun u39 =>
  gy_as x36 (6, 40) i23 b37 (5, 6) u39 (fun u40 =>
  rec25 (i23 + 1) u40)))))))
def f_X9_init_L37 (a : Nat) (σ : gy_S) : (Int32 → gy_S → Option gy_S) → Int32 → gy_S → Option gy_S := fun rec14 i12 u13 =>
  gy_gt a (9, 11) 2 u13 (fun x15 =>
  gy_al x15 (5, 13) u13 (
  if 13 ≤ i12 then
  (gy_nw (σ.1 + 638) (.inl (1, 6)) u13 (fun b16 u17 =>
  gy_cl (σ.1 + 638) 308 u17 (f_X1_init b16 u17) (fun u18 =>
  gy_pt a (9, 11) 4 (b16 + 2) u18 (fun u19 =>
  gy_nw (σ.1 + 638) (.inr (6, 40)) u19 (fun b20 u21 =>
  gy_pt a (9, 11) 5 (b20 + 2) u21 (fun u22 =>
  gy_l (f_X9_init_L87 a σ) gz_fu 0 u22))))))
  else
  (gy_gt a (9, 11) 2 u13 (fun x41 =>
  gy_nw (σ.1 + 638) (.inl (4, 2)) u13 (fun b42 u43 =>
  gy_cl (σ.1 + 638) 17 u43 (f_X4_init b42 u43) (fun u44 =>
  gy_as x41 (5, 13) i12 b42 (4, 2) u44 (fun u45 =>
  rec14 (i12 + 1) u45)))))))
def f_X9_init (a : Nat) (σ : gy_S) : Option gy_S :=
  gy_nw (σ.1 + 638) (.inl (2, 2)) σ (fun b1 u2 =>
  gy_cl (σ.1 + 638) 1 u2 (f_X2_init b1 u2) (fun u3 =>
  gy_pt a (9, 11) 0 (b1 + 2) u3 (fun u4 =>
  gy_nw (σ.1 + 638) (.inl (8, 11)) u4 (fun b5 u6 =>
  gy_cl (σ.1 + 638) 1 u6 (f_X8_init b5 u6) (fun u7 =>
  gy_pt a (9, 11) 1 (b5 + 2) u7 (fun u8 =>
  gy_nw (σ.1 + 638) (.inr (5, 13)) u8 (fun b9 u10 =>
  gy_pt a (9, 11) 2 (b9 + 2) u10 (fun u11 =>
  gy_l (f_X9_init_L37 a σ) gz_fu 0 u11))))))))
set_option maxHeartbeats 4000000 in
set_option maxRecDepth 100000 in
theorem c_X9_init (l : Launch) (G : gz_G) (a : Nat) (σ : gy_S) : ∀ o, f_X9_init a σ = some o → gy_M l G yX9_init cX9_init 2 { frames := 3, cells := 638, slots := 10000 * 638, locals := 53 } [.ref (G.1 + a)] σ o 638 (10000 * 638) := by
  refine gy_enter RX9 rfl rfl (by decide +kernel) (Nat.le_of_ble_eq_true rfl) ?_
  intro p e s m args below meth c C hZ hI
  refine gq_eqs (st' := []) (lv' := [(0, .ref (G.1 + a))]) rfl rfl ?_
  unfold f_X9_init
  refine gq_aload_n C dX9_init_0 0 rfl ?_
  refine gy_oin C dX9_init_1 ml_RX9_3 gy_oi1 gy_oi2 (Nat.le_of_ble_eq_true rfl) (Nat.le_of_ble_eq_true rfl) ?_
  refine gq_aload_n C dX9_init_4 0 rfl ?_
  refine gy_new (ci := 2) (q := (RX2, TX2, 2)) C dX9_init_5 ck_RX9_9 cin_2 cii_2 rfl (by decide) (Nat.le_refl _) gy_hls (fun b1 u2 => ?_)
  refine gq_dup C dX9_init_8 rfl ?_
  refine gy_callN C hZ dX9_init_9 ml_RX9_11 mw_X2_init rfl mi_X2_init (c_X2_init l G b1 u2) rfl rfl (Nat.le_of_ble_eq_true rfl) ⟨rfl, rfl, Nat.le_of_ble_eq_true rfl, Nat.le_of_ble_eq_true rfl, Nat.le_refl _, gy_hls, rfl⟩ (fun u3 => ?_)
  refine gy_put C hI (a := a) (k := 0) (ci := 9) (code := b1 + 2) (q := (RX9, TX9, 11)) dX9_init_12 fl_RX9_12 rfl (by decide) (by decide) rfl rfl rfl rfl (fun u4 => ?_)
  refine gq_aload_n C dX9_init_15 0 rfl ?_
  refine gy_new (ci := 8) (q := (RX8, TX8, 11)) C dX9_init_16 ck_RX9_18 cin_8 cii_8 rfl (by decide) (Nat.le_refl _) gy_hls (fun b5 u6 => ?_)
  refine gq_dup C dX9_init_19 rfl ?_
  refine gy_callN C hZ dX9_init_20 ml_RX9_20 mw_X8_init rfl mi_X8_init (c_X8_init l G b5 u6) rfl rfl (Nat.le_of_ble_eq_true rfl) ⟨rfl, rfl, Nat.le_of_ble_eq_true rfl, Nat.le_of_ble_eq_true rfl, Nat.le_refl _, gy_hls, rfl⟩ (fun u7 => ?_)
  refine gy_put C hI (a := a) (k := 1) (ci := 9) (code := b5 + 2) (q := (RX9, TX9, 11)) dX9_init_23 fl_RX9_21 rfl (by decide) (by decide) rfl rfl rfl rfl (fun u8 => ?_)
  refine gq_aload_n C dX9_init_26 0 rfl ?_
  refine gq_bipush C dX9_init_27 gk_bipush_13 ?_
  refine gy_anew (ek := 5) (len := 13) C dX9_init_29 ck_RX9_25 hZ (by decide) (by decide) rfl (by decide) (by decide) (by decide) (Nat.le_refl _) gy_hls (fun b9 u10 => ?_)
  refine gy_put C hI (a := a) (k := 2) (ci := 9) (code := b9 + 2) (q := (RX9, TX9, 11)) dX9_init_32 fl_RX9_27 rfl (by decide) (by decide) rfl rfl rfl rfl (fun u11 => ?_)
  refine gq_iconst C dX9_init_35 gk_iconst_0 ?_
  refine gq_istore_n C (lv' := [(1, .int 0), (0, .ref (G.1 + a))]) dX9_init_36 (by decide) rfl ?_
  refine gy_l_ind (P := fun i12 u13 x => gy_W σ.1 p l e ({ frames := 3, cells := 638, slots := 10000 * 638, locals := 53 } : Room) s m args below meth c G 2 (gy_Q G below args s 638 (10000 * 638)) u13 37 [(1, .int i12), (0, .ref (G.1 + a))] [] x) (fun _ _ => gq_none) (fun rec14 hrec14 i12 u13 => ?_) gz_fu 0 u11
  unfold f_X9_init_L37
  refine gq_iload_n C dX9_init_37 0 rfl ?_
  refine gq_aload_n C dX9_init_38 1 rfl ?_
  refine gy_get C (k := 2) (ci := 9) (q := (RX9, TX9, 11)) dX9_init_39 fl_RX9_27 rfl (by decide) (by decide) (fun x15 => ?_)
  refine gy_alen C (ek := 5) (len := 13) (v := 13) dX9_init_42 (by decide) (by decide) ?_
  refine gq_icmp_ge (tgt := 65) C dX9_init_43 (by decide) ?_ ?_
  · skip
    refine gq_aload_n C dX9_init_65 1 rfl ?_
    refine gy_new (ci := 1) (q := (RX1, TX1, 6)) C dX9_init_66 ck_RX9_32 cin_1 cii_1 rfl (by decide) (Nat.le_refl _) gy_hls (fun b16 u17 => ?_)
    refine gq_dup C dX9_init_69 rfl ?_
    refine gy_call C hZ dX9_init_70 ml_RX9_34 mw_X1_init rfl mi_X1_init (c_X1_init l G b16 u17) rfl rfl (Nat.le_of_ble_eq_true rfl) ⟨rfl, rfl, Nat.le_of_ble_eq_true rfl, Nat.le_of_ble_eq_true rfl, Nat.le_refl _, gy_hls, rfl⟩ (fun u18 => ?_)
    refine gy_put C hI (a := a) (k := 4) (ci := 9) (code := b16 + 2) (q := (RX9, TX9, 11)) dX9_init_73 fl_RX9_35 rfl (by decide) (by decide) rfl rfl rfl rfl (fun u19 => ?_)
    refine gq_aload_n C dX9_init_76 1 rfl ?_
    refine gq_bipush C dX9_init_77 gk_bipush_40 ?_
    refine gy_anew (ek := 6) (len := 40) C dX9_init_79 ck_RX9_39 hZ (by decide) (by decide) rfl (by decide) (by decide) (by decide) (Nat.le_refl _) gy_hls (fun b20 u21 => ?_)
    refine gy_put C hI (a := a) (k := 5) (ci := 9) (code := b20 + 2) (q := (RX9, TX9, 11)) dX9_init_82 fl_RX9_41 rfl (by decide) (by decide) rfl rfl rfl rfl (fun u22 => ?_)
    refine gq_iconst C dX9_init_85 gk_iconst_0 ?_
    refine gq_istore_n C (lv' := [(1, .int 0), (0, .ref (G.1 + a))]) dX9_init_86 (by decide) rfl ?_
    refine gy_l_ind (P := fun i23 u24 x => gy_W σ.1 p l e ({ frames := 3, cells := 638, slots := 10000 * 638, locals := 53 } : Room) s m args below meth c G 2 (gy_Q G below args s 638 (10000 * 638)) u24 87 [(1, .int i23), (0, .ref (G.1 + a))] [] x) (fun _ _ => gq_none) (fun rec25 hrec25 i23 u24 => ?_) gz_fu 0 u22
    unfold f_X9_init_L87
    refine gq_iload_n C dX9_init_87 0 rfl ?_
    refine gq_aload_n C dX9_init_88 1 rfl ?_
    refine gy_get C (k := 5) (ci := 9) (q := (RX9, TX9, 11)) dX9_init_89 fl_RX9_41 rfl (by decide) (by decide) (fun x26 => ?_)
    refine gy_alen C (ek := 6) (len := 40) (v := 40) dX9_init_92 (by decide) (by decide) ?_
    refine gq_icmp_ge (tgt := 115) C dX9_init_93 (by decide) ?_ ?_
    · skip
      refine gq_aload_n C dX9_init_115 1 rfl ?_
      refine gq_iconst C dX9_init_116 gk_iconst_m1 ?_
      refine gy_put C hI (a := a) (k := 7) (ci := 9) (code := 1) (q := (RX9, TX9, 11)) dX9_init_117 fl_RX9_46 rfl (by decide) (by decide) rfl rfl rfl rfl (fun u27 => ?_)
      refine gq_aload_n C dX9_init_120 1 rfl ?_
      refine gy_new (ci := 7) (q := (RX7, TX7, 7)) C dX9_init_121 ck_RX9_50 cin_7 cii_7 rfl (by decide) (Nat.le_refl _) gy_hls (fun b28 u29 => ?_)
      refine gq_dup C dX9_init_124 rfl ?_
      refine gy_callN C hZ dX9_init_125 ml_RX9_52 mw_X7_init rfl mi_X7_init (c_X7_init l G b28 u29) rfl rfl (Nat.le_of_ble_eq_true rfl) ⟨rfl, rfl, Nat.le_of_ble_eq_true rfl, Nat.le_of_ble_eq_true rfl, Nat.le_refl _, gy_hls, rfl⟩ (fun u30 => ?_)
      refine gy_put C hI (a := a) (k := 8) (ci := 9) (code := b28 + 2) (q := (RX9, TX9, 11)) dX9_init_128 fl_RX9_53 rfl (by decide) (by decide) rfl rfl rfl rfl (fun u31 => ?_)
      refine gq_aload_n C dX9_init_131 1 rfl ?_
      refine gy_new (ci := 0) (q := (RX0, TX0, 10)) C dX9_init_132 ck_RX9_57 cin_0 cii_0 rfl (by decide) (Nat.le_refl _) gy_hls (fun b32 u33 => ?_)
      refine gq_dup C dX9_init_135 rfl ?_
      refine gy_callN C hZ dX9_init_136 ml_RX9_59 mw_X0_init rfl mi_X0_init (c_X0_init l G b32 u33) rfl rfl (Nat.le_of_ble_eq_true rfl) ⟨rfl, rfl, Nat.le_of_ble_eq_true rfl, Nat.le_of_ble_eq_true rfl, Nat.le_refl _, gy_hls, rfl⟩ (fun u34 => ?_)
      refine gy_put C hI (a := a) (k := 9) (ci := 9) (code := b32 + 2) (q := (RX9, TX9, 11)) dX9_init_139 fl_RX9_60 rfl (by decide) (by decide) rfl rfl rfl rfl (fun u35 => ?_)
      exact gy_vret C rfl rfl rfl dX9_init_142
    · skip
      refine gq_aload_n C dX9_init_96 1 rfl ?_
      refine gy_get C (k := 5) (ci := 9) (q := (RX9, TX9, 11)) dX9_init_97 fl_RX9_41 rfl (by decide) (by decide) (fun x36 => ?_)
      refine gq_iload_n C dX9_init_100 0 rfl ?_
      refine gy_new (ci := 5) (q := (RX5, TX5, 6)) C dX9_init_101 ck_RX9_39 cin_5 cii_5 rfl (by decide) (Nat.le_refl _) gy_hls (fun b37 u38 => ?_)
      refine gq_dup C dX9_init_104 rfl ?_
      refine gy_callN C hZ dX9_init_105 ml_RX9_45 mw_X5_init rfl mi_X5_init (c_X5_init l G b37 u38) rfl rfl (Nat.le_of_ble_eq_true rfl) ⟨rfl, rfl, Nat.le_of_ble_eq_true rfl, Nat.le_of_ble_eq_true rfl, Nat.le_refl _, gy_hls, rfl⟩ (fun u39 => ?_)
      refine gy_aast C (ek := 6) (len := 40) (ci := 5) (q := (RX5, TX5, 6)) dX9_init_108 (by decide) rfl rfl (fun u40 => ?_)
      refine gq_iinc C (q := 0) (v := i23 + 1) (lv' := [(1, .int (i23 + 1)), (0, .ref (G.1 + a))]) dX9_init_109 rfl rfl (by decide) rfl ?_
      refine gq_goto (tgt := 87) C dX9_init_112 (by decide) ?_
      exact hrec25 (i23 + 1) u40
  · skip
    refine gq_aload_n C dX9_init_46 1 rfl ?_
    refine gy_get C (k := 2) (ci := 9) (q := (RX9, TX9, 11)) dX9_init_47 fl_RX9_27 rfl (by decide) (by decide) (fun x41 => ?_)
    refine gq_iload_n C dX9_init_50 0 rfl ?_
    refine gy_new (ci := 4) (q := (RX4, TX4, 2)) C dX9_init_51 ck_RX9_25 cin_4 cii_4 rfl (by decide) (Nat.le_refl _) gy_hls (fun b42 u43 => ?_)
    refine gq_dup C dX9_init_54 rfl ?_
    refine gy_call C hZ dX9_init_55 ml_RX9_31 mw_X4_init rfl mi_X4_init (c_X4_init l G b42 u43) rfl rfl (Nat.le_of_ble_eq_true rfl) ⟨rfl, rfl, Nat.le_of_ble_eq_true rfl, Nat.le_of_ble_eq_true rfl, Nat.le_refl _, gy_hls, rfl⟩ (fun u44 => ?_)
    refine gy_aast C (ek := 5) (len := 13) (ci := 4) (q := (RX4, TX4, 2)) dX9_init_58 (by decide) rfl rfl (fun u45 => ?_)
    refine gq_iinc C (q := 0) (v := i12 + 1) (lv' := [(1, .int (i12 + 1)), (0, .ref (G.1 + a))]) dX9_init_59 rfl rfl (by decide) rfl ?_
    refine gq_goto (tgt := 37) C dX9_init_62 (by decide) ?_
    exact hrec14 (i12 + 1) u45

def f_X11_init (a : Nat) (σ : gy_S) : Option gy_S :=
  gy_pt a (11, 63) 2 (1) σ (fun u1 =>
  gy_pt a (11, 63) 4 (1) u1 (fun u2 =>
  gy_nw (σ.1 + 43) (.inr (0, 100)) u2 (fun b3 u4 =>
  gy_pt a (11, 63) 5 (b3 + 2) u4 (fun u5 =>
  gy_nw (σ.1 + 43) (.inr (0, 100)) u5 (fun b6 u7 =>
  gy_pt a (11, 63) 6 (b6 + 2) u7 (fun u8 =>
  gy_nw (σ.1 + 43) (.inr (1, 100)) u8 (fun b9 u10 =>
  gy_pt a (11, 63) 7 (b9 + 2) u10 (fun u11 =>
  gy_nw (σ.1 + 43) (.inr (1, 100)) u11 (fun b12 u13 =>
  gy_pt a (11, 63) 8 (b12 + 2) u13 (fun u14 =>
  gy_nw (σ.1 + 43) (.inr (3, 10000)) u14 (fun b15 u16 =>
  gy_pt a (11, 63) 10 (b15 + 2) u16 (fun u17 =>
  gy_nw (σ.1 + 43) (.inl (10, 8)) u17 (fun b18 u19 =>
  gy_cl (σ.1 + 43) 0 u19 (f_X10_init b18 u19) (fun u20 =>
  gy_pt a (11, 63) 12 (b18 + 2) u20 (fun u21 =>
  gy_nw (σ.1 + 43) (.inr (2, 400)) u21 (fun b22 u23 =>
  gy_pt a (11, 63) 13 (b22 + 2) u23 (fun u24 =>
  gy_nw (σ.1 + 43) (.inr (0, 13)) u24 (fun b25 u26 =>
  gy_pt a (11, 63) 22 (b25 + 2) u26 (fun u27 =>
  gy_nw (σ.1 + 43) (.inr (0, 104)) u27 (fun b28 u29 =>
  gy_pt a (11, 63) 23 (b28 + 2) u29 (fun u30 =>
  gy_nw (σ.1 + 43) (.inr (0, 104)) u30 (fun b31 u32 =>
  gy_pt a (11, 63) 24 (b31 + 2) u32 (fun u33 =>
  gy_nw (σ.1 + 43) (.inr (0, 104)) u33 (fun b34 u35 =>
  gy_pt a (11, 63) 25 (b34 + 2) u35 (fun u36 =>
  gy_nw (σ.1 + 43) (.inr (3, 104)) u36 (fun b37 u38 =>
  gy_pt a (11, 63) 26 (b37 + 2) u38 (fun u39 =>
  gy_nw (σ.1 + 43) (.inr (1, 104)) u39 (fun b40 u41 =>
  gy_pt a (11, 63) 27 (b40 + 2) u41 (fun u42 =>
  gy_nw (σ.1 + 43) (.inr (1, 416)) u42 (fun b43 u44 =>
  gy_pt a (11, 63) 28 (b43 + 2) u44 (fun u45 =>
  gy_pt a (11, 63) 31 (1) u45 (fun u46 =>
  gy_nw (σ.1 + 43) (.inr (0, 61)) u46 (fun b47 u48 =>
  gy_pt a (11, 63) 32 (b47 + 2) u48 (fun u49 =>
  gy_nw (σ.1 + 43) (.inr (0, 61)) u49 (fun b50 u51 =>
  gy_pt a (11, 63) 33 (b50 + 2) u51 (fun u52 =>
  gy_nw (σ.1 + 43) (.inr (0, 61)) u52 (fun b53 u54 =>
  gy_pt a (11, 63) 34 (b53 + 2) u54 (fun u55 =>
  gy_nw (σ.1 + 43) (.inr (0, 61)) u55 (fun b56 u57 =>
  gy_pt a (11, 63) 35 (b56 + 2) u57 (fun u58 =>
  gy_nw (σ.1 + 43) (.inr (0, 61)) u58 (fun b59 u60 =>
  gy_pt a (11, 63) 36 (b59 + 2) u60 (fun u61 =>
  gy_nw (σ.1 + 43) (.inr (0, 61)) u61 (fun b62 u63 =>
  gy_pt a (11, 63) 37 (b62 + 2) u63 (fun u64 =>
  gy_nw (σ.1 + 43) (.inr (1, 488)) u64 (fun b65 u66 =>
  gy_pt a (11, 63) 38 (b65 + 2) u66 (fun u67 =>
  gy_nw (σ.1 + 43) (.inr (1, 61)) u67 (fun b68 u69 =>
  gy_pt a (11, 63) 39 (b68 + 2) u69 (fun u70 =>
  gy_nw (σ.1 + 43) (.inr (1, 61)) u70 (fun b71 u72 =>
  gy_pt a (11, 63) 40 (b71 + 2) u72 (fun u73 =>
  gy_nw (σ.1 + 43) (.inr (1, 61)) u73 (fun b74 u75 =>
  gy_pt a (11, 63) 41 (b74 + 2) u75 (fun u76 =>
  gy_nw (σ.1 + 43) (.inr (3, 488)) u76 (fun b77 u78 =>
  gy_pt a (11, 63) 42 (b77 + 2) u78 (fun u79 =>
  gy_nw (σ.1 + 43) (.inr (0, 240)) u79 (fun b80 u81 =>
  gy_pt a (11, 63) 43 (b80 + 2) u81 (fun u82 =>
  gy_nw (σ.1 + 43) (.inr (0, 240)) u82 (fun b83 u84 =>
  gy_pt a (11, 63) 44 (b83 + 2) u84 (fun u85 =>
  gy_nw (σ.1 + 43) (.inr (0, 240)) u85 (fun b86 u87 =>
  gy_pt a (11, 63) 45 (b86 + 2) u87 (fun u88 =>
  gy_nw (σ.1 + 43) (.inr (0, 40)) u88 (fun b89 u90 =>
  gy_pt a (11, 63) 46 (b89 + 2) u90 (fun u91 =>
  gy_nw (σ.1 + 43) (.inr (0, 40)) u91 (fun b92 u93 =>
  gy_pt a (11, 63) 47 (b92 + 2) u93 (fun u94 =>
  gy_nw (σ.1 + 43) (.inr (0, 40)) u94 (fun b95 u96 =>
  gy_pt a (11, 63) 48 (b95 + 2) u96 (fun u97 =>
  gy_nw (σ.1 + 43) (.inr (0, 40)) u97 (fun b98 u99 =>
  gy_pt a (11, 63) 49 (b98 + 2) u99 (fun u100 =>
  gy_nw (σ.1 + 43) (.inr (0, 40)) u100 (fun b101 u102 =>
  gy_pt a (11, 63) 50 (b101 + 2) u102 (fun u103 =>
  gy_nw (σ.1 + 43) (.inr (0, 480)) u103 (fun b104 u105 =>
  gy_pt a (11, 63) 51 (b104 + 2) u105 (fun u106 =>
  gy_nw (σ.1 + 43) (.inr (0, 12)) u106 (fun b107 u108 =>
  gy_pt a (11, 63) 52 (b107 + 2) u108 (fun u109 =>
  gy_nw (σ.1 + 43) (.inr (0, 4096)) u109 (fun b110 u111 =>
  gy_pt a (11, 63) 53 (b110 + 2) u111 (fun u112 =>
  gy_nw (σ.1 + 43) (.inr (0, 4096)) u112 (fun b113 u114 =>
  gy_pt a (11, 63) 54 (b113 + 2) u114 (fun u115 =>
  gy_nw (σ.1 + 43) (.inr (3, 60)) u115 (fun b116 u117 =>
  gy_pt a (11, 63) 56 (b116 + 2) u117 (fun u118 =>
  gy_nw (σ.1 + 43) (.inr (0, 10000)) u118 (fun b119 u120 =>
  gy_pt a (11, 63) 57 (b119 + 2) u120 (fun u121 =>
  gy_nw (σ.1 + 43) (.inr (0, 10000)) u121 (fun b122 u123 =>
  gy_pt a (11, 63) 58 (b122 + 2) u123 (fun u124 =>
  gy_nw (σ.1 + 43) (.inr (3, 10000)) u124 (fun b125 u126 =>
  gy_pt a (11, 63) 59 (b125 + 2) u126 (fun u127 =>
  gy_nw (σ.1 + 43) (.inr (1, 61)) u127 (fun b128 u129 =>
  gy_pt a (11, 63) 60 (b128 + 2) u129 (fun u130 =>
  gy_nw (σ.1 + 43) (.inr (0, 60)) u130 (fun b131 u132 =>
  gy_pt a (11, 63) 61 (b131 + 2) u132 (fun u133 =>
  gy_en (σ.1 + 43) u133))))))))))))))))))))))))))))))))))))))))))))))))))))))))))))))))))))))))))))))))))))))))))
set_option maxHeartbeats 4000000 in
set_option maxRecDepth 100000 in
theorem c_X11_init (l : Launch) (G : gz_G) (a : Nat) (σ : gy_S) : ∀ o, f_X11_init a σ = some o → gy_M l G yX11_init cX11_init 1 { frames := 5, cells := 43, slots := 10000 * 43, locals := 104 } [.ref (G.1 + a)] σ o 43 (10000 * 43) := by
  refine gy_enter RX11 rfl rfl (by decide +kernel) (Nat.le_of_ble_eq_true rfl) ?_
  intro p e s m args below meth c C hZ hI
  refine gq_eqs (st' := []) (lv' := [(0, .ref (G.1 + a))]) rfl rfl ?_
  unfold f_X11_init
  refine gq_aload_n C dX11_init_0 0 rfl ?_
  refine gy_oin C dX11_init_1 ml_RX11_3 gy_oi1 gy_oi2 (Nat.le_of_ble_eq_true rfl) (Nat.le_of_ble_eq_true rfl) ?_
  refine gq_aload_n C dX11_init_4 0 rfl ?_
  refine gq_iconst C dX11_init_5 gk_iconst_m1 ?_
  refine gy_put C hI (a := a) (k := 2) (ci := 11) (code := 1) (q := (RX11, TX11, 63)) dX11_init_6 fl_RX11_11 rfl (by decide) (by decide) rfl rfl rfl rfl (fun u1 => ?_)
  refine gq_aload_n C dX11_init_9 0 rfl ?_
  refine gq_iconst C dX11_init_10 gk_iconst_m1 ?_
  refine gy_put C hI (a := a) (k := 4) (ci := 11) (code := 1) (q := (RX11, TX11, 63)) dX11_init_11 fl_RX11_15 rfl (by decide) (by decide) rfl rfl rfl rfl (fun u2 => ?_)
  refine gq_aload_n C dX11_init_14 0 rfl ?_
  refine gq_bipush C dX11_init_15 gk_bipush_100 ?_
  refine gy_newa (ek := 0) (len := 100) C dX11_init_17 gya_int (by decide) rfl (fun _ _ => rfl) (by decide) (by decide) (by decide) (by decide) (Nat.le_refl _) gy_hls (fun b3 u4 => ?_)
  refine gy_put C hI (a := a) (k := 5) (ci := 11) (code := b3 + 2) (q := (RX11, TX11, 63)) dX11_init_19 fl_RX11_18 rfl (by decide) (by decide) rfl rfl rfl rfl (fun u5 => ?_)
  refine gq_aload_n C dX11_init_22 0 rfl ?_
  refine gq_bipush C dX11_init_23 gk_bipush_100 ?_
  refine gy_newa (ek := 0) (len := 100) C dX11_init_25 gya_int (by decide) rfl (fun _ _ => rfl) (by decide) (by decide) (by decide) (by decide) (Nat.le_refl _) gy_hls (fun b6 u7 => ?_)
  refine gy_put C hI (a := a) (k := 6) (ci := 11) (code := b6 + 2) (q := (RX11, TX11, 63)) dX11_init_27 fl_RX11_22 rfl (by decide) (by decide) rfl rfl rfl rfl (fun u8 => ?_)
  refine gq_aload_n C dX11_init_30 0 rfl ?_
  refine gq_bipush C dX11_init_31 gk_bipush_100 ?_
  refine gy_newa (ek := 1) (len := 100) C dX11_init_33 gya_long (by decide) rfl (fun _ _ => rfl) (by decide) (by decide) (by decide) (by decide) (Nat.le_refl _) gy_hls (fun b9 u10 => ?_)
  refine gy_put C hI (a := a) (k := 7) (ci := 11) (code := b9 + 2) (q := (RX11, TX11, 63)) dX11_init_35 fl_RX11_25 rfl (by decide) (by decide) rfl rfl rfl rfl (fun u11 => ?_)
  refine gq_aload_n C dX11_init_38 0 rfl ?_
  refine gq_bipush C dX11_init_39 gk_bipush_100 ?_
  refine gy_newa (ek := 1) (len := 100) C dX11_init_41 gya_long (by decide) rfl (fun _ _ => rfl) (by decide) (by decide) (by decide) (by decide) (Nat.le_refl _) gy_hls (fun b12 u13 => ?_)
  refine gy_put C hI (a := a) (k := 8) (ci := 11) (code := b12 + 2) (q := (RX11, TX11, 63)) dX11_init_43 fl_RX11_29 rfl (by decide) (by decide) rfl rfl rfl rfl (fun u14 => ?_)
  refine gq_aload_n C dX11_init_46 0 rfl ?_
  refine gq_sipush C dX11_init_47 gk_sipush_10000 ?_
  refine gy_newa (ek := 3) (len := 10000) C dX11_init_50 gya_boolean (by decide) rfl (fun _ _ => rfl) (by decide) (by decide) (by decide) (by decide) (Nat.le_refl _) gy_hls (fun b15 u16 => ?_)
  refine gy_put C hI (a := a) (k := 10) (ci := 11) (code := b15 + 2) (q := (RX11, TX11, 63)) dX11_init_52 fl_RX11_32 rfl (by decide) (by decide) rfl rfl rfl rfl (fun u17 => ?_)
  refine gq_aload_n C dX11_init_55 0 rfl ?_
  refine gy_new (ci := 10) (q := (RX10, TX10, 8)) C dX11_init_56 ck_RX11_36 cin_10 cii_10 rfl (by decide) (Nat.le_refl _) gy_hls (fun b18 u19 => ?_)
  refine gq_dup C dX11_init_59 rfl ?_
  refine gy_call C hZ dX11_init_60 ml_RX11_38 mw_X10_init rfl mi_X10_init (c_X10_init l G b18 u19) rfl rfl (Nat.le_of_ble_eq_true rfl) ⟨rfl, rfl, Nat.le_of_ble_eq_true rfl, Nat.le_of_ble_eq_true rfl, Nat.le_refl _, gy_hls, rfl⟩ (fun u20 => ?_)
  refine gy_put C hI (a := a) (k := 12) (ci := 11) (code := b18 + 2) (q := (RX11, TX11, 63)) dX11_init_63 fl_RX11_39 rfl (by decide) (by decide) rfl rfl rfl rfl (fun u21 => ?_)
  refine gq_aload_n C dX11_init_66 0 rfl ?_
  refine gq_sipush C dX11_init_67 gk_sipush_400 ?_
  refine gy_newa (ek := 2) (len := 400) C dX11_init_70 gya_byte (by decide) rfl (fun _ _ => rfl) (by decide) (by decide) (by decide) (by decide) (Nat.le_refl _) gy_hls (fun b22 u23 => ?_)
  refine gy_put C hI (a := a) (k := 13) (ci := 11) (code := b22 + 2) (q := (RX11, TX11, 63)) dX11_init_72 fl_RX11_43 rfl (by decide) (by decide) rfl rfl rfl rfl (fun u24 => ?_)
  refine gq_aload_n C dX11_init_75 0 rfl ?_
  refine gq_bipush C dX11_init_76 gk_bipush_13 ?_
  refine gy_newa (ek := 0) (len := 13) C dX11_init_78 gya_int (by decide) rfl (fun _ _ => rfl) (by decide) (by decide) (by decide) (by decide) (Nat.le_refl _) gy_hls (fun b25 u26 => ?_)
  refine gy_put C hI (a := a) (k := 22) (ci := 11) (code := b25 + 2) (q := (RX11, TX11, 63)) dX11_init_80 fl_RX11_47 rfl (by decide) (by decide) rfl rfl rfl rfl (fun u27 => ?_)
  refine gq_aload_n C dX11_init_83 0 rfl ?_
  refine gq_bipush C dX11_init_84 gk_bipush_104 ?_
  refine gy_newa (ek := 0) (len := 104) C dX11_init_86 gya_int (by decide) rfl (fun _ _ => rfl) (by decide) (by decide) (by decide) (by decide) (Nat.le_refl _) gy_hls (fun b28 u29 => ?_)
  refine gy_put C hI (a := a) (k := 23) (ci := 11) (code := b28 + 2) (q := (RX11, TX11, 63)) dX11_init_88 fl_RX11_50 rfl (by decide) (by decide) rfl rfl rfl rfl (fun u30 => ?_)
  refine gq_aload_n C dX11_init_91 0 rfl ?_
  refine gq_bipush C dX11_init_92 gk_bipush_104 ?_
  refine gy_newa (ek := 0) (len := 104) C dX11_init_94 gya_int (by decide) rfl (fun _ _ => rfl) (by decide) (by decide) (by decide) (by decide) (Nat.le_refl _) gy_hls (fun b31 u32 => ?_)
  refine gy_put C hI (a := a) (k := 24) (ci := 11) (code := b31 + 2) (q := (RX11, TX11, 63)) dX11_init_96 fl_RX11_53 rfl (by decide) (by decide) rfl rfl rfl rfl (fun u33 => ?_)
  refine gq_aload_n C dX11_init_99 0 rfl ?_
  refine gq_bipush C dX11_init_100 gk_bipush_104 ?_
  refine gy_newa (ek := 0) (len := 104) C dX11_init_102 gya_int (by decide) rfl (fun _ _ => rfl) (by decide) (by decide) (by decide) (by decide) (Nat.le_refl _) gy_hls (fun b34 u35 => ?_)
  refine gy_put C hI (a := a) (k := 25) (ci := 11) (code := b34 + 2) (q := (RX11, TX11, 63)) dX11_init_104 fl_RX11_56 rfl (by decide) (by decide) rfl rfl rfl rfl (fun u36 => ?_)
  refine gq_aload_n C dX11_init_107 0 rfl ?_
  refine gq_bipush C dX11_init_108 gk_bipush_104 ?_
  refine gy_newa (ek := 3) (len := 104) C dX11_init_110 gya_boolean (by decide) rfl (fun _ _ => rfl) (by decide) (by decide) (by decide) (by decide) (Nat.le_refl _) gy_hls (fun b37 u38 => ?_)
  refine gy_put C hI (a := a) (k := 26) (ci := 11) (code := b37 + 2) (q := (RX11, TX11, 63)) dX11_init_112 fl_RX11_59 rfl (by decide) (by decide) rfl rfl rfl rfl (fun u39 => ?_)
  refine gq_aload_n C dX11_init_115 0 rfl ?_
  refine gq_bipush C dX11_init_116 gk_bipush_104 ?_
  refine gy_newa (ek := 1) (len := 104) C dX11_init_118 gya_long (by decide) rfl (fun _ _ => rfl) (by decide) (by decide) (by decide) (by decide) (Nat.le_refl _) gy_hls (fun b40 u41 => ?_)
  refine gy_put C hI (a := a) (k := 27) (ci := 11) (code := b40 + 2) (q := (RX11, TX11, 63)) dX11_init_120 fl_RX11_62 rfl (by decide) (by decide) rfl rfl rfl rfl (fun u42 => ?_)
  refine gq_aload_n C dX11_init_123 0 rfl ?_
  refine gq_sipush C dX11_init_124 gk_sipush_416 ?_
  refine gy_newa (ek := 1) (len := 416) C dX11_init_127 gya_long (by decide) rfl (fun _ _ => rfl) (by decide) (by decide) (by decide) (by decide) (Nat.le_refl _) gy_hls (fun b43 u44 => ?_)
  refine gy_put C hI (a := a) (k := 28) (ci := 11) (code := b43 + 2) (q := (RX11, TX11, 63)) dX11_init_129 fl_RX11_65 rfl (by decide) (by decide) rfl rfl rfl rfl (fun u45 => ?_)
  refine gq_aload_n C dX11_init_132 0 rfl ?_
  refine gq_iconst C dX11_init_133 gk_iconst_m1 ?_
  refine gy_put C hI (a := a) (k := 31) (ci := 11) (code := 1) (q := (RX11, TX11, 63)) dX11_init_134 fl_RX11_68 rfl (by decide) (by decide) rfl rfl rfl rfl (fun u46 => ?_)
  refine gq_aload_n C dX11_init_137 0 rfl ?_
  refine gq_bipush C dX11_init_138 gk_bipush_61 ?_
  refine gy_newa (ek := 0) (len := 61) C dX11_init_140 gya_int (by decide) rfl (fun _ _ => rfl) (by decide) (by decide) (by decide) (by decide) (Nat.le_refl _) gy_hls (fun b47 u48 => ?_)
  refine gy_put C hI (a := a) (k := 32) (ci := 11) (code := b47 + 2) (q := (RX11, TX11, 63)) dX11_init_142 fl_RX11_71 rfl (by decide) (by decide) rfl rfl rfl rfl (fun u49 => ?_)
  refine gq_aload_n C dX11_init_145 0 rfl ?_
  refine gq_bipush C dX11_init_146 gk_bipush_61 ?_
  refine gy_newa (ek := 0) (len := 61) C dX11_init_148 gya_int (by decide) rfl (fun _ _ => rfl) (by decide) (by decide) (by decide) (by decide) (Nat.le_refl _) gy_hls (fun b50 u51 => ?_)
  refine gy_put C hI (a := a) (k := 33) (ci := 11) (code := b50 + 2) (q := (RX11, TX11, 63)) dX11_init_150 fl_RX11_74 rfl (by decide) (by decide) rfl rfl rfl rfl (fun u52 => ?_)
  refine gq_aload_n C dX11_init_153 0 rfl ?_
  refine gq_bipush C dX11_init_154 gk_bipush_61 ?_
  refine gy_newa (ek := 0) (len := 61) C dX11_init_156 gya_int (by decide) rfl (fun _ _ => rfl) (by decide) (by decide) (by decide) (by decide) (Nat.le_refl _) gy_hls (fun b53 u54 => ?_)
  refine gy_put C hI (a := a) (k := 34) (ci := 11) (code := b53 + 2) (q := (RX11, TX11, 63)) dX11_init_158 fl_RX11_77 rfl (by decide) (by decide) rfl rfl rfl rfl (fun u55 => ?_)
  refine gq_aload_n C dX11_init_161 0 rfl ?_
  refine gq_bipush C dX11_init_162 gk_bipush_61 ?_
  refine gy_newa (ek := 0) (len := 61) C dX11_init_164 gya_int (by decide) rfl (fun _ _ => rfl) (by decide) (by decide) (by decide) (by decide) (Nat.le_refl _) gy_hls (fun b56 u57 => ?_)
  refine gy_put C hI (a := a) (k := 35) (ci := 11) (code := b56 + 2) (q := (RX11, TX11, 63)) dX11_init_166 fl_RX11_80 rfl (by decide) (by decide) rfl rfl rfl rfl (fun u58 => ?_)
  refine gq_aload_n C dX11_init_169 0 rfl ?_
  refine gq_bipush C dX11_init_170 gk_bipush_61 ?_
  refine gy_newa (ek := 0) (len := 61) C dX11_init_172 gya_int (by decide) rfl (fun _ _ => rfl) (by decide) (by decide) (by decide) (by decide) (Nat.le_refl _) gy_hls (fun b59 u60 => ?_)
  refine gy_put C hI (a := a) (k := 36) (ci := 11) (code := b59 + 2) (q := (RX11, TX11, 63)) dX11_init_174 fl_RX11_83 rfl (by decide) (by decide) rfl rfl rfl rfl (fun u61 => ?_)
  refine gq_aload_n C dX11_init_177 0 rfl ?_
  refine gq_bipush C dX11_init_178 gk_bipush_61 ?_
  refine gy_newa (ek := 0) (len := 61) C dX11_init_180 gya_int (by decide) rfl (fun _ _ => rfl) (by decide) (by decide) (by decide) (by decide) (Nat.le_refl _) gy_hls (fun b62 u63 => ?_)
  refine gy_put C hI (a := a) (k := 37) (ci := 11) (code := b62 + 2) (q := (RX11, TX11, 63)) dX11_init_182 fl_RX11_86 rfl (by decide) (by decide) rfl rfl rfl rfl (fun u64 => ?_)
  refine gq_aload_n C dX11_init_185 0 rfl ?_
  refine gq_sipush C dX11_init_186 gk_sipush_488 ?_
  refine gy_newa (ek := 1) (len := 488) C dX11_init_189 gya_long (by decide) rfl (fun _ _ => rfl) (by decide) (by decide) (by decide) (by decide) (Nat.le_refl _) gy_hls (fun b65 u66 => ?_)
  refine gy_put C hI (a := a) (k := 38) (ci := 11) (code := b65 + 2) (q := (RX11, TX11, 63)) dX11_init_191 fl_RX11_89 rfl (by decide) (by decide) rfl rfl rfl rfl (fun u67 => ?_)
  refine gq_aload_n C dX11_init_194 0 rfl ?_
  refine gq_bipush C dX11_init_195 gk_bipush_61 ?_
  refine gy_newa (ek := 1) (len := 61) C dX11_init_197 gya_long (by decide) rfl (fun _ _ => rfl) (by decide) (by decide) (by decide) (by decide) (Nat.le_refl _) gy_hls (fun b68 u69 => ?_)
  refine gy_put C hI (a := a) (k := 39) (ci := 11) (code := b68 + 2) (q := (RX11, TX11, 63)) dX11_init_199 fl_RX11_92 rfl (by decide) (by decide) rfl rfl rfl rfl (fun u70 => ?_)
  refine gq_aload_n C dX11_init_202 0 rfl ?_
  refine gq_bipush C dX11_init_203 gk_bipush_61 ?_
  refine gy_newa (ek := 1) (len := 61) C dX11_init_205 gya_long (by decide) rfl (fun _ _ => rfl) (by decide) (by decide) (by decide) (by decide) (Nat.le_refl _) gy_hls (fun b71 u72 => ?_)
  refine gy_put C hI (a := a) (k := 40) (ci := 11) (code := b71 + 2) (q := (RX11, TX11, 63)) dX11_init_207 fl_RX11_95 rfl (by decide) (by decide) rfl rfl rfl rfl (fun u73 => ?_)
  refine gq_aload_n C dX11_init_210 0 rfl ?_
  refine gq_bipush C dX11_init_211 gk_bipush_61 ?_
  refine gy_newa (ek := 1) (len := 61) C dX11_init_213 gya_long (by decide) rfl (fun _ _ => rfl) (by decide) (by decide) (by decide) (by decide) (Nat.le_refl _) gy_hls (fun b74 u75 => ?_)
  refine gy_put C hI (a := a) (k := 41) (ci := 11) (code := b74 + 2) (q := (RX11, TX11, 63)) dX11_init_215 fl_RX11_98 rfl (by decide) (by decide) rfl rfl rfl rfl (fun u76 => ?_)
  refine gq_aload_n C dX11_init_218 0 rfl ?_
  refine gq_sipush C dX11_init_219 gk_sipush_488 ?_
  refine gy_newa (ek := 3) (len := 488) C dX11_init_222 gya_boolean (by decide) rfl (fun _ _ => rfl) (by decide) (by decide) (by decide) (by decide) (Nat.le_refl _) gy_hls (fun b77 u78 => ?_)
  refine gy_put C hI (a := a) (k := 42) (ci := 11) (code := b77 + 2) (q := (RX11, TX11, 63)) dX11_init_224 fl_RX11_101 rfl (by decide) (by decide) rfl rfl rfl rfl (fun u79 => ?_)
  refine gq_aload_n C dX11_init_227 0 rfl ?_
  refine gq_sipush C dX11_init_228 gk_sipush_240 ?_
  refine gy_newa (ek := 0) (len := 240) C dX11_init_231 gya_int (by decide) rfl (fun _ _ => rfl) (by decide) (by decide) (by decide) (by decide) (Nat.le_refl _) gy_hls (fun b80 u81 => ?_)
  refine gy_put C hI (a := a) (k := 43) (ci := 11) (code := b80 + 2) (q := (RX11, TX11, 63)) dX11_init_233 fl_RX11_104 rfl (by decide) (by decide) rfl rfl rfl rfl (fun u82 => ?_)
  refine gq_aload_n C dX11_init_236 0 rfl ?_
  refine gq_sipush C dX11_init_237 gk_sipush_240 ?_
  refine gy_newa (ek := 0) (len := 240) C dX11_init_240 gya_int (by decide) rfl (fun _ _ => rfl) (by decide) (by decide) (by decide) (by decide) (Nat.le_refl _) gy_hls (fun b83 u84 => ?_)
  refine gy_put C hI (a := a) (k := 44) (ci := 11) (code := b83 + 2) (q := (RX11, TX11, 63)) dX11_init_242 fl_RX11_107 rfl (by decide) (by decide) rfl rfl rfl rfl (fun u85 => ?_)
  refine gq_aload_n C dX11_init_245 0 rfl ?_
  refine gq_sipush C dX11_init_246 gk_sipush_240 ?_
  refine gy_newa (ek := 0) (len := 240) C dX11_init_249 gya_int (by decide) rfl (fun _ _ => rfl) (by decide) (by decide) (by decide) (by decide) (Nat.le_refl _) gy_hls (fun b86 u87 => ?_)
  refine gy_put C hI (a := a) (k := 45) (ci := 11) (code := b86 + 2) (q := (RX11, TX11, 63)) dX11_init_251 fl_RX11_110 rfl (by decide) (by decide) rfl rfl rfl rfl (fun u88 => ?_)
  refine gq_aload_n C dX11_init_254 0 rfl ?_
  refine gq_bipush C dX11_init_255 gk_bipush_40 ?_
  refine gy_newa (ek := 0) (len := 40) C dX11_init_257 gya_int (by decide) rfl (fun _ _ => rfl) (by decide) (by decide) (by decide) (by decide) (Nat.le_refl _) gy_hls (fun b89 u90 => ?_)
  refine gy_put C hI (a := a) (k := 46) (ci := 11) (code := b89 + 2) (q := (RX11, TX11, 63)) dX11_init_259 fl_RX11_113 rfl (by decide) (by decide) rfl rfl rfl rfl (fun u91 => ?_)
  refine gq_aload_n C dX11_init_262 0 rfl ?_
  refine gq_bipush C dX11_init_263 gk_bipush_40 ?_
  refine gy_newa (ek := 0) (len := 40) C dX11_init_265 gya_int (by decide) rfl (fun _ _ => rfl) (by decide) (by decide) (by decide) (by decide) (Nat.le_refl _) gy_hls (fun b92 u93 => ?_)
  refine gy_put C hI (a := a) (k := 47) (ci := 11) (code := b92 + 2) (q := (RX11, TX11, 63)) dX11_init_267 fl_RX11_116 rfl (by decide) (by decide) rfl rfl rfl rfl (fun u94 => ?_)
  refine gq_aload_n C dX11_init_270 0 rfl ?_
  refine gq_bipush C dX11_init_271 gk_bipush_40 ?_
  refine gy_newa (ek := 0) (len := 40) C dX11_init_273 gya_int (by decide) rfl (fun _ _ => rfl) (by decide) (by decide) (by decide) (by decide) (Nat.le_refl _) gy_hls (fun b95 u96 => ?_)
  refine gy_put C hI (a := a) (k := 48) (ci := 11) (code := b95 + 2) (q := (RX11, TX11, 63)) dX11_init_275 fl_RX11_119 rfl (by decide) (by decide) rfl rfl rfl rfl (fun u97 => ?_)
  refine gq_aload_n C dX11_init_278 0 rfl ?_
  refine gq_bipush C dX11_init_279 gk_bipush_40 ?_
  refine gy_newa (ek := 0) (len := 40) C dX11_init_281 gya_int (by decide) rfl (fun _ _ => rfl) (by decide) (by decide) (by decide) (by decide) (Nat.le_refl _) gy_hls (fun b98 u99 => ?_)
  refine gy_put C hI (a := a) (k := 49) (ci := 11) (code := b98 + 2) (q := (RX11, TX11, 63)) dX11_init_283 fl_RX11_122 rfl (by decide) (by decide) rfl rfl rfl rfl (fun u100 => ?_)
  refine gq_aload_n C dX11_init_286 0 rfl ?_
  refine gq_bipush C dX11_init_287 gk_bipush_40 ?_
  refine gy_newa (ek := 0) (len := 40) C dX11_init_289 gya_int (by decide) rfl (fun _ _ => rfl) (by decide) (by decide) (by decide) (by decide) (Nat.le_refl _) gy_hls (fun b101 u102 => ?_)
  refine gy_put C hI (a := a) (k := 50) (ci := 11) (code := b101 + 2) (q := (RX11, TX11, 63)) dX11_init_291 fl_RX11_125 rfl (by decide) (by decide) rfl rfl rfl rfl (fun u103 => ?_)
  refine gq_aload_n C dX11_init_294 0 rfl ?_
  refine gq_sipush C dX11_init_295 gk_sipush_480 ?_
  refine gy_newa (ek := 0) (len := 480) C dX11_init_298 gya_int (by decide) rfl (fun _ _ => rfl) (by decide) (by decide) (by decide) (by decide) (Nat.le_refl _) gy_hls (fun b104 u105 => ?_)
  refine gy_put C hI (a := a) (k := 51) (ci := 11) (code := b104 + 2) (q := (RX11, TX11, 63)) dX11_init_300 fl_RX11_128 rfl (by decide) (by decide) rfl rfl rfl rfl (fun u106 => ?_)
  refine gq_aload_n C dX11_init_303 0 rfl ?_
  refine gq_bipush C dX11_init_304 gk_bipush_12 ?_
  refine gy_newa (ek := 0) (len := 12) C dX11_init_306 gya_int (by decide) rfl (fun _ _ => rfl) (by decide) (by decide) (by decide) (by decide) (Nat.le_refl _) gy_hls (fun b107 u108 => ?_)
  refine gy_put C hI (a := a) (k := 52) (ci := 11) (code := b107 + 2) (q := (RX11, TX11, 63)) dX11_init_308 fl_RX11_131 rfl (by decide) (by decide) rfl rfl rfl rfl (fun u109 => ?_)
  refine gq_aload_n C dX11_init_311 0 rfl ?_
  refine gq_sipush C dX11_init_312 gk_sipush_4096 ?_
  refine gy_newa (ek := 0) (len := 4096) C dX11_init_315 gya_int (by decide) rfl (fun _ _ => rfl) (by decide) (by decide) (by decide) (by decide) (Nat.le_refl _) gy_hls (fun b110 u111 => ?_)
  refine gy_put C hI (a := a) (k := 53) (ci := 11) (code := b110 + 2) (q := (RX11, TX11, 63)) dX11_init_317 fl_RX11_134 rfl (by decide) (by decide) rfl rfl rfl rfl (fun u112 => ?_)
  refine gq_aload_n C dX11_init_320 0 rfl ?_
  refine gq_sipush C dX11_init_321 gk_sipush_4096 ?_
  refine gy_newa (ek := 0) (len := 4096) C dX11_init_324 gya_int (by decide) rfl (fun _ _ => rfl) (by decide) (by decide) (by decide) (by decide) (Nat.le_refl _) gy_hls (fun b113 u114 => ?_)
  refine gy_put C hI (a := a) (k := 54) (ci := 11) (code := b113 + 2) (q := (RX11, TX11, 63)) dX11_init_326 fl_RX11_137 rfl (by decide) (by decide) rfl rfl rfl rfl (fun u115 => ?_)
  refine gq_aload_n C dX11_init_329 0 rfl ?_
  refine gq_bipush C dX11_init_330 gk_bipush_60 ?_
  refine gy_newa (ek := 3) (len := 60) C dX11_init_332 gya_boolean (by decide) rfl (fun _ _ => rfl) (by decide) (by decide) (by decide) (by decide) (Nat.le_refl _) gy_hls (fun b116 u117 => ?_)
  refine gy_put C hI (a := a) (k := 56) (ci := 11) (code := b116 + 2) (q := (RX11, TX11, 63)) dX11_init_334 fl_RX11_140 rfl (by decide) (by decide) rfl rfl rfl rfl (fun u118 => ?_)
  refine gq_aload_n C dX11_init_337 0 rfl ?_
  refine gq_sipush C dX11_init_338 gk_sipush_10000 ?_
  refine gy_newa (ek := 0) (len := 10000) C dX11_init_341 gya_int (by decide) rfl (fun _ _ => rfl) (by decide) (by decide) (by decide) (by decide) (Nat.le_refl _) gy_hls (fun b119 u120 => ?_)
  refine gy_put C hI (a := a) (k := 57) (ci := 11) (code := b119 + 2) (q := (RX11, TX11, 63)) dX11_init_343 fl_RX11_143 rfl (by decide) (by decide) rfl rfl rfl rfl (fun u121 => ?_)
  refine gq_aload_n C dX11_init_346 0 rfl ?_
  refine gq_sipush C dX11_init_347 gk_sipush_10000 ?_
  refine gy_newa (ek := 0) (len := 10000) C dX11_init_350 gya_int (by decide) rfl (fun _ _ => rfl) (by decide) (by decide) (by decide) (by decide) (Nat.le_refl _) gy_hls (fun b122 u123 => ?_)
  refine gy_put C hI (a := a) (k := 58) (ci := 11) (code := b122 + 2) (q := (RX11, TX11, 63)) dX11_init_352 fl_RX11_146 rfl (by decide) (by decide) rfl rfl rfl rfl (fun u124 => ?_)
  refine gq_aload_n C dX11_init_355 0 rfl ?_
  refine gq_sipush C dX11_init_356 gk_sipush_10000 ?_
  refine gy_newa (ek := 3) (len := 10000) C dX11_init_359 gya_boolean (by decide) rfl (fun _ _ => rfl) (by decide) (by decide) (by decide) (by decide) (Nat.le_refl _) gy_hls (fun b125 u126 => ?_)
  refine gy_put C hI (a := a) (k := 59) (ci := 11) (code := b125 + 2) (q := (RX11, TX11, 63)) dX11_init_361 fl_RX11_149 rfl (by decide) (by decide) rfl rfl rfl rfl (fun u127 => ?_)
  refine gq_aload_n C dX11_init_364 0 rfl ?_
  refine gq_bipush C dX11_init_365 gk_bipush_61 ?_
  refine gy_newa (ek := 1) (len := 61) C dX11_init_367 gya_long (by decide) rfl (fun _ _ => rfl) (by decide) (by decide) (by decide) (by decide) (Nat.le_refl _) gy_hls (fun b128 u129 => ?_)
  refine gy_put C hI (a := a) (k := 60) (ci := 11) (code := b128 + 2) (q := (RX11, TX11, 63)) dX11_init_369 fl_RX11_152 rfl (by decide) (by decide) rfl rfl rfl rfl (fun u130 => ?_)
  refine gq_aload_n C dX11_init_372 0 rfl ?_
  refine gq_bipush C dX11_init_373 gk_bipush_60 ?_
  refine gy_newa (ek := 0) (len := 60) C dX11_init_375 gya_int (by decide) rfl (fun _ _ => rfl) (by decide) (by decide) (by decide) (by decide) (Nat.le_refl _) gy_hls (fun b131 u132 => ?_)
  refine gy_put C hI (a := a) (k := 61) (ci := 11) (code := b131 + 2) (q := (RX11, TX11, 63)) dX11_init_377 fl_RX11_155 rfl (by decide) (by decide) rfl rfl rfl rfl (fun u133 => ?_)
  exact gy_vret C rfl rfl rfl dX11_init_380
