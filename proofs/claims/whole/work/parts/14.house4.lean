def f_X8_step_J52 : gz_S → Option (gz_S) := fun σ1 =>
  gz_w (gz_si σ1 3 0 5 (σ1.1 3 0 3)) (fun σ2 =>
  gz_call (f_X8_readRun 97 122 32 96 σ2) (fun r4 σ3 =>
  gz_w (gz_sj σ3 3 0 7 r4) (fun σ5 =>
  if (σ5.1 3 0 3) ≤ (σ5.1 3 0 5) then
  (gz_call (f_X8_readRun 48 57 10 48 σ5) (fun r7 σ6 =>
  gz_w (gz_si σ6 3 0 6 ((r7 : Int64).toInt32)) (fun σ8 =>
  if (σ8.1 3 0 3) ≤ (σ8.1 3 0 5) then
  (gz_call (f_X8_readSign σ8) (fun r10 σ9 =>
  gz_w (gz_si σ9 3 0 4 r10) (fun σ11 =>
  some σ11)))
  else
  (if 4 < ((σ8.1 3 0 3) - (σ8.1 3 0 5)) then
  (gz_w (gz_si σ8 3 0 4 4) (fun σ12 =>
  some σ12))
  else
  (gz_w (gz_si σ8 3 0 4 2) (fun σ13 =>
  some σ13))))))
  else
  (if 8 < ((σ5.1 3 0 3) - (σ5.1 3 0 5)) then
  (gz_w (gz_si σ5 3 0 4 4) (fun σ14 =>
  some σ14))
  else
  (gz_w (gz_si σ5 3 0 4 1) (fun σ15 =>
  some σ15))))))
def f_X8_step_J39 (rec0 : gz_S → Option (gz_S)) : gz_S → Option (gz_S) := fun σ18 =>
  gz_w (gz_si σ18 3 0 3 ((σ18.1 3 0 3) + 1)) (fun σ19 =>
  rec0 σ19)
def f_X8_step_L0 (j52 : gz_S → Option (gz_S)) : (gz_S → Option (gz_S)) → gz_S → Option (gz_S) := fun rec0 σ16 =>
  if (σ16.1 3 0 2) ≤ (σ16.1 3 0 3) then
  (j52 σ16)
  else
  (gz_ix (σ16.1 3 0 3) 400 (fun n17 =>
  gz_j0 (f_X8_step_J39 rec0) (fun j39 =>
  if (σ16.1 4 0 n17) = 32 then
  (j39 σ16)
  else
  (gz_ix (σ16.1 3 0 3) 400 (fun n20 =>
  if (σ16.1 4 0 n20) = 10 then
  (j39 σ16)
  else
  (j52 σ16))))))
def f_X8_step (σ : gz_S) : Option (gz_S) :=
  gz_j0 (f_X8_step_J52) (fun j52 =>
  gz_l0 (f_X8_step_L0 j52) gz_fu σ)
set_option maxHeartbeats 4000000 in
set_option maxRecDepth 100000 in
theorem c_X8_step (l : Launch) (G : gz_G) (σ : gz_S) : ∀ o, f_X8_step σ = some o → gz_M l false G yX8_step cX8_step 1 none { frames := 1, cells := 0, slots := 0, locals := 26 } [.ref (gz_ad false G 3 0)] σ (gz_eu o) 0 0 := by
  refine gz_enter RX8 rfl (by decide) (Nat.le_of_ble_eq_true rfl) ?_
  intro p e s m args below meth c C
  refine gz_eqs (st' := []) (lv' := [(0, .ref (gz_ad false G 3 0))]) rfl rfl ?_
  unfold f_X8_step
  refine gz_j0_row (P := fun σ1 x => gz_W false p l e ({ frames := 1, cells := 0, slots := 0, locals := 26 } : Room) s m args below meth c G 1 (gz_Q false G below args s 0 0 gz_eu) 0 0 σ1 52 [(0, .ref (gz_ad false G 3 0))] [] x) (fun σ1 => ?_) (fun j52 hj52 => ?_)
  · unfold f_X8_step_J52
    refine gz_aload_n C dX8_step_52 0 rfl ?_
    refine gz_aload_n C dX8_step_53 0 rfl ?_
    refine gz_get C (t := 3) (k := 3) (ci := 8) (q := (RX8, TX8, 11)) (v := .int (σ1.1 3 0 3)) dX8_step_54 fl_RX8_31 (gz_hx3 _) rfl rfl (by decide) rfl ?_
    refine gz_putI C (t := 3) (k := 5) (ci := 8) (q := (RX8, TX8, 11)) dX8_step_57 fl_RX8_40 (gz_hx3 _) rfl rfl (by decide) rfl rfl rfl rfl ?_
    refine gz_w_row (fun σ2 => ?_)
    refine gz_aload_n C dX8_step_60 0 rfl ?_
    refine gz_aload_n C dX8_step_61 0 rfl ?_
    refine gz_bipush C dX8_step_62 gk_bipush_97 ?_
    refine gz_bipush C dX8_step_64 gk_bipush_122 ?_
    refine gz_bipush C dX8_step_66 gk_bipush_32 ?_
    refine gz_bipush C dX8_step_68 gk_bipush_96 ?_
    refine gz_kl (gz_runV (t := 3) (ci := 8) (q := (RX8, TX8, 11)) (As := [.int 97, .int 122, .int 32, .int 96]) (rest := [.ref (gz_ad false G 3 0)]) C dX8_step_70 ml_RX8_53 mw_X8_readRun mv_X8_readRun (c_X8_readRun l G 97 122 32 96 σ2) (gz_hx3 _) rfl rfl rfl rfl rfl (Nat.le_of_ble_eq_true rfl) ⟨rfl, rfl, Nat.le_of_ble_eq_true rfl, Nat.le_of_ble_eq_true rfl, Nat.le_of_ble_eq_true rfl, Nat.le_of_ble_eq_true rfl⟩) (fun r4 σ3 => ?_)
    refine gz_putJ C (t := 3) (k := 7) (ci := 8) (q := (RX8, TX8, 11)) dX8_step_73 fl_RX8_57 (gz_hx3 _) rfl rfl (by decide) rfl rfl rfl rfl ?_
    refine gz_w_row (fun σ5 => ?_)
    refine gz_aload_n C dX8_step_76 0 rfl ?_
    refine gz_get C (t := 3) (k := 3) (ci := 8) (q := (RX8, TX8, 11)) (v := .int (σ5.1 3 0 3)) dX8_step_77 fl_RX8_31 (gz_hx3 _) rfl rfl (by decide) rfl ?_
    refine gz_aload_n C dX8_step_80 0 rfl ?_
    refine gz_get C (t := 3) (k := 5) (ci := 8) (q := (RX8, TX8, 11)) (v := .int (σ5.1 3 0 5)) dX8_step_81 fl_RX8_40 (gz_hx3 _) rfl rfl (by decide) rfl ?_
    refine gz_icmp_le (tgt := 111) C dX8_step_84 (by decide) ?_ ?_
    · skip
      refine gz_aload_n C dX8_step_111 0 rfl ?_
      refine gz_aload_n C dX8_step_112 0 rfl ?_
      refine gz_bipush C dX8_step_113 gk_bipush_48 ?_
      refine gz_bipush C dX8_step_115 gk_bipush_57 ?_
      refine gz_bipush C dX8_step_117 gk_bipush_10 ?_
      refine gz_bipush C dX8_step_119 gk_bipush_48 ?_
      refine gz_kl (gz_runV (t := 3) (ci := 8) (q := (RX8, TX8, 11)) (As := [.int 48, .int 57, .int 10, .int 48]) (rest := [.ref (gz_ad false G 3 0)]) C dX8_step_121 ml_RX8_53 mw_X8_readRun mv_X8_readRun (c_X8_readRun l G 48 57 10 48 σ5) (gz_hx3 _) rfl rfl rfl rfl rfl (Nat.le_of_ble_eq_true rfl) ⟨rfl, rfl, Nat.le_of_ble_eq_true rfl, Nat.le_of_ble_eq_true rfl, Nat.le_of_ble_eq_true rfl, Nat.le_of_ble_eq_true rfl⟩) (fun r7 σ6 => ?_)
      refine gz_l2i C dX8_step_124 ?_
      refine gz_putI C (t := 3) (k := 6) (ci := 8) (q := (RX8, TX8, 11)) dX8_step_125 fl_RX8_61 (gz_hx3 _) rfl rfl (by decide) rfl rfl rfl rfl ?_
      refine gz_w_row (fun σ8 => ?_)
      refine gz_aload_n C dX8_step_128 0 rfl ?_
      refine gz_get C (t := 3) (k := 3) (ci := 8) (q := (RX8, TX8, 11)) (v := .int (σ8.1 3 0 3)) dX8_step_129 fl_RX8_31 (gz_hx3 _) rfl rfl (by decide) rfl ?_
      refine gz_aload_n C dX8_step_132 0 rfl ?_
      refine gz_get C (t := 3) (k := 5) (ci := 8) (q := (RX8, TX8, 11)) (v := .int (σ8.1 3 0 5)) dX8_step_133 fl_RX8_40 (gz_hx3 _) rfl rfl (by decide) rfl ?_
      refine gz_icmp_le (tgt := 162) C dX8_step_136 (by decide) ?_ ?_
      · skip
        refine gz_aload_n C dX8_step_162 0 rfl ?_
        refine gz_aload_n C dX8_step_163 0 rfl ?_
        refine gz_ki (gz_runV (t := 3) (ci := 8) (q := (RX8, TX8, 11)) (As := []) (rest := [.ref (gz_ad false G 3 0)]) C dX8_step_164 ml_RX8_64 mw_X8_readSign mv_X8_readSign (c_X8_readSign l G σ8) (gz_hx3 _) rfl rfl rfl rfl rfl (Nat.le_of_ble_eq_true rfl) ⟨rfl, rfl, Nat.le_of_ble_eq_true rfl, Nat.le_of_ble_eq_true rfl, Nat.le_of_ble_eq_true rfl, Nat.le_of_ble_eq_true rfl⟩) (fun r10 σ9 => ?_)
        refine gz_putI C (t := 3) (k := 4) (ci := 8) (q := (RX8, TX8, 11)) dX8_step_167 fl_RX8_46 (gz_hx3 _) rfl rfl (by decide) rfl rfl rfl rfl ?_
        refine gz_w_row (fun σ11 => ?_)
        exact gz_vret C rfl dX8_step_170
      · skip
        refine gz_aload_n C dX8_step_139 0 rfl ?_
        refine gz_aload_n C dX8_step_140 0 rfl ?_
        refine gz_get C (t := 3) (k := 3) (ci := 8) (q := (RX8, TX8, 11)) (v := .int (σ8.1 3 0 3)) dX8_step_141 fl_RX8_31 (gz_hx3 _) rfl rfl (by decide) rfl ?_
        refine gz_aload_n C dX8_step_144 0 rfl ?_
        refine gz_get C (t := 3) (k := 5) (ci := 8) (q := (RX8, TX8, 11)) (v := .int (σ8.1 3 0 5)) dX8_step_145 fl_RX8_40 (gz_hx3 _) rfl rfl (by decide) rfl ?_
        refine gz_isub C dX8_step_148 ?_
        refine gz_iconst C dX8_step_149 gk_iconst_4 ?_
        refine gz_icmp_gt (tgt := 157) C dX8_step_150 (by decide) ?_ ?_
        · skip
          refine gz_iconst C dX8_step_157 gk_iconst_4 ?_
          refine gz_putI C (t := 3) (k := 4) (ci := 8) (q := (RX8, TX8, 11)) dX8_step_158 fl_RX8_46 (gz_hx3 _) rfl rfl (by decide) rfl rfl rfl rfl ?_
          refine gz_w_row (fun σ12 => ?_)
          exact gz_vret C rfl dX8_step_161
        · skip
          refine gz_iconst C dX8_step_153 gk_iconst_2 ?_
          refine gz_goto (tgt := 158) C dX8_step_154 (by decide) ?_
          refine gz_putI C (t := 3) (k := 4) (ci := 8) (q := (RX8, TX8, 11)) dX8_step_158 fl_RX8_46 (gz_hx3 _) rfl rfl (by decide) rfl rfl rfl rfl ?_
          refine gz_w_row (fun σ13 => ?_)
          exact gz_vret C rfl dX8_step_161
    · skip
      refine gz_aload_n C dX8_step_87 0 rfl ?_
      refine gz_aload_n C dX8_step_88 0 rfl ?_
      refine gz_get C (t := 3) (k := 3) (ci := 8) (q := (RX8, TX8, 11)) (v := .int (σ5.1 3 0 3)) dX8_step_89 fl_RX8_31 (gz_hx3 _) rfl rfl (by decide) rfl ?_
      refine gz_aload_n C dX8_step_92 0 rfl ?_
      refine gz_get C (t := 3) (k := 5) (ci := 8) (q := (RX8, TX8, 11)) (v := .int (σ5.1 3 0 5)) dX8_step_93 fl_RX8_40 (gz_hx3 _) rfl rfl (by decide) rfl ?_
      refine gz_isub C dX8_step_96 ?_
      refine gz_bipush C dX8_step_97 gk_bipush_8 ?_
      refine gz_icmp_gt (tgt := 106) C dX8_step_99 (by decide) ?_ ?_
      · skip
        refine gz_iconst C dX8_step_106 gk_iconst_4 ?_
        refine gz_putI C (t := 3) (k := 4) (ci := 8) (q := (RX8, TX8, 11)) dX8_step_107 fl_RX8_46 (gz_hx3 _) rfl rfl (by decide) rfl rfl rfl rfl ?_
        refine gz_w_row (fun σ14 => ?_)
        exact gz_vret C rfl dX8_step_110
      · skip
        refine gz_iconst C dX8_step_102 gk_iconst_1 ?_
        refine gz_goto (tgt := 107) C dX8_step_103 (by decide) ?_
        refine gz_putI C (t := 3) (k := 4) (ci := 8) (q := (RX8, TX8, 11)) dX8_step_107 fl_RX8_46 (gz_hx3 _) rfl rfl (by decide) rfl rfl rfl rfl ?_
        refine gz_w_row (fun σ15 => ?_)
        exact gz_vret C rfl dX8_step_110
  · skip
    refine gz_l0_ind (P := fun σ16 x => gz_W false p l e ({ frames := 1, cells := 0, slots := 0, locals := 26 } : Room) s m args below meth c G 1 (gz_Q false G below args s 0 0 gz_eu) 0 0 σ16 0 [(0, .ref (gz_ad false G 3 0))] [] x) (fun _ => gz_none) (fun rec0 hrec0 σ16 => ?_) gz_fu σ
    unfold f_X8_step_L0
    refine gz_aload_n C dX8_step_0 0 rfl ?_
    refine gz_get C (t := 3) (k := 3) (ci := 8) (q := (RX8, TX8, 11)) (v := .int (σ16.1 3 0 3)) dX8_step_1 fl_RX8_31 (gz_hx3 _) rfl rfl (by decide) rfl ?_
    refine gz_aload_n C dX8_step_4 0 rfl ?_
    refine gz_get C (t := 3) (k := 2) (ci := 8) (q := (RX8, TX8, 11)) (v := .int (σ16.1 3 0 2)) dX8_step_5 fl_RX8_28 (gz_hx3 _) rfl rfl (by decide) rfl ?_
    refine gz_icmp_ge (tgt := 52) C dX8_step_8 (by decide) ?_ ?_
    · skip
      exact hj52 σ16
    · skip
      refine gz_aload_n C dX8_step_11 0 rfl ?_
      refine gz_get C (t := 3) (k := 0) (ci := 8) (q := (RX8, TX8, 11)) (v := .ref (gz_ad false G 4 0)) dX8_step_12 fl_RX8_9 (gz_hx3 _) rfl rfl (by decide) rfl ?_
      refine gz_aload_n C dX8_step_15 0 rfl ?_
      refine gz_get C (t := 3) (k := 3) (ci := 8) (q := (RX8, TX8, 11)) (v := .int (σ16.1 3 0 3)) dX8_step_16 fl_RX8_31 (gz_hx3 _) rfl rfl (by decide) rfl ?_
      refine gz_bald C (t := 4) dX8_step_19 (gz_hx4 _) rfl (fun n17 hn17 => ?_)
      refine gz_bipush C dX8_step_20 gk_bipush_32 ?_
      refine gz_j0_row (P := fun σ18 x => gz_W false p l e ({ frames := 1, cells := 0, slots := 0, locals := 26 } : Room) s m args below meth c G 1 (gz_Q false G below args s 0 0 gz_eu) 0 0 σ18 39 [(0, .ref (gz_ad false G 3 0))] [] x) (fun σ18 => ?_) (fun j39 hj39 => ?_)
      · unfold f_X8_step_J39
        refine gz_aload_n C dX8_step_39 0 rfl ?_
        refine gz_dup C dX8_step_40 rfl ?_
        refine gz_get C (t := 3) (k := 3) (ci := 8) (q := (RX8, TX8, 11)) (v := .int (σ18.1 3 0 3)) dX8_step_41 fl_RX8_31 (gz_hx3 _) rfl rfl (by decide) rfl ?_
        refine gz_iconst C dX8_step_44 gk_iconst_1 ?_
        refine gz_iadd C dX8_step_45 ?_
        refine gz_putI C (t := 3) (k := 3) (ci := 8) (q := (RX8, TX8, 11)) dX8_step_46 fl_RX8_31 (gz_hx3 _) rfl rfl (by decide) rfl rfl rfl rfl ?_
        refine gz_w_row (fun σ19 => ?_)
        refine gz_goto (tgt := 0) C dX8_step_49 (by decide) ?_
        exact hrec0 σ19
      · skip
        refine gz_icmp_eq (tgt := 39) C dX8_step_22 (by decide) ?_ ?_
        · skip
          exact hj39 σ16
        · skip
          refine gz_aload_n C dX8_step_25 0 rfl ?_
          refine gz_get C (t := 3) (k := 0) (ci := 8) (q := (RX8, TX8, 11)) (v := .ref (gz_ad false G 4 0)) dX8_step_26 fl_RX8_9 (gz_hx3 _) rfl rfl (by decide) rfl ?_
          refine gz_aload_n C dX8_step_29 0 rfl ?_
          refine gz_get C (t := 3) (k := 3) (ci := 8) (q := (RX8, TX8, 11)) (v := .int (σ16.1 3 0 3)) dX8_step_30 fl_RX8_31 (gz_hx3 _) rfl rfl (by decide) rfl ?_
          refine gz_bald C (t := 4) dX8_step_33 (gz_hx4 _) rfl (fun n20 hn20 => ?_)
          refine gz_bipush C dX8_step_34 gk_bipush_10 ?_
          refine gz_icmp_ne (tgt := 52) C dX8_step_36 (by decide) ?_ ?_
          · skip
            exact hj52 σ16
          · skip
            exact hj39 σ16

def f_X8_take (a1 : Int32) (σ : gz_S) : Option (Int32 × gz_S) :=
  if (σ.1 3 0 4) = a1 then
  (gz_then (f_X8_step σ) (fun σ1 =>
  some ((1 : Int32) &&& 1, σ1)))
  else
  (gz_call (f_X8_fail 1 σ) (fun r3 σ2 =>
  some (r3 &&& 1, σ2)))
set_option maxHeartbeats 4000000 in
set_option maxRecDepth 100000 in
theorem c_X8_take (l : Launch) (G : gz_G) (a1 : Int32) (σ : gz_S) : ∀ o, f_X8_take a1 σ = some o → gz_M l false G yX8_take cX8_take 2 (some .boolean) { frames := 2, cells := 0, slots := 0, locals := 46 } [.ref (gz_ad false G 3 0), .int a1] σ (gz_ei o) 0 0 := by
  refine gz_enter RX8 rfl (by decide) (Nat.le_of_ble_eq_true rfl) ?_
  intro p e s m args below meth c C
  refine gz_eqs (st' := []) (lv' := [(0, .ref (gz_ad false G 3 0)), (1, .int a1)]) rfl rfl ?_
  unfold f_X8_take
  refine gz_aload_n C dX8_take_0 0 rfl ?_
  refine gz_get C (t := 3) (k := 4) (ci := 8) (q := (RX8, TX8, 11)) (v := .int (σ.1 3 0 4)) dX8_take_1 fl_RX8_46 (gz_hx3 _) rfl rfl (by decide) rfl ?_
  refine gz_iload_n C dX8_take_4 1 rfl ?_
  refine gz_icmp_eq (tgt := 14) C dX8_take_5 (by decide) ?_ ?_
  · skip
    refine gz_aload_n C dX8_take_14 0 rfl ?_
    refine gz_kv (gz_runV (t := 3) (ci := 8) (q := (RX8, TX8, 11)) (As := []) (rest := []) C dX8_take_15 ml_RX8_37 mw_X8_step mv_X8_step (c_X8_step l G σ) (gz_hx3 _) rfl rfl rfl rfl rfl (Nat.le_of_ble_eq_true rfl) ⟨rfl, rfl, Nat.le_of_ble_eq_true rfl, Nat.le_of_ble_eq_true rfl, Nat.le_of_ble_eq_true rfl, Nat.le_of_ble_eq_true rfl⟩) (fun σ1 => ?_)
    refine gz_iconst C dX8_take_18 gk_iconst_1 ?_
    exact gz_zret C rfl dX8_take_19
  · skip
    refine gz_aload_n C dX8_take_8 0 rfl ?_
    refine gz_iconst C dX8_take_9 gk_iconst_1 ?_
    refine gz_ki (gz_runV (t := 3) (ci := 8) (q := (RX8, TX8, 11)) (As := [.int 1]) (rest := []) C dX8_take_10 ml_RX8_49 mw_X8_fail mv_X8_fail (c_X8_fail l G 1 σ) (gz_hx3 _) rfl rfl rfl rfl rfl (Nat.le_of_ble_eq_true rfl) ⟨rfl, rfl, Nat.le_of_ble_eq_true rfl, Nat.le_of_ble_eq_true rfl, Nat.le_of_ble_eq_true rfl, Nat.le_of_ble_eq_true rfl⟩) (fun r3 σ2 => ?_)
    exact gz_zret C rfl dX8_take_13

def f_X3_readLimits (a0 : Nat) (σ : gz_S) : Option (Int32 × gz_S) :=
  gz_w (gz_si σ 8 a0 3 (σ.1 3 0 6)) (fun σ1 =>
  gz_call (f_X8_take 2 σ1) (fun r3 σ2 =>
  if r3 = 0 then
  (some ((0 : Int32) &&& 1, σ2))
  else
  (gz_call (f_X8_take 3 σ2) (fun r5 σ4 =>
  if r5 = 0 then
  (some ((0 : Int32) &&& 1, σ4))
  else
  (gz_w (gz_si σ4 8 a0 4 (σ4.1 3 0 6)) (fun σ6 =>
  if (σ6.1 3 0 4) = 2 then
  (if (σ6.1 8 a0 3) ≤ (σ6.1 8 a0 4) then
  (gz_call (f_X8_take 2 σ6) (fun r10 σ9 =>
  some (r10 &&& 1, σ9)))
  else
  (gz_call (f_X8_fail 4 σ6) (fun r12 σ11 =>
  some (r12 &&& 1, σ11))))
  else
  (gz_call (f_X8_take 2 σ6) (fun r8 σ7 =>
  some (r8 &&& 1, σ7)))))))))
set_option maxHeartbeats 4000000 in
set_option maxRecDepth 100000 in
theorem c_X3_readLimits (l : Launch) (G : gz_G) (a0 : Nat) (h0 : a0 < 104) (σ : gz_S) : ∀ o, f_X3_readLimits a0 σ = some o → gz_M l false G yX3_readLimits cX3_readLimits 2 (some .boolean) { frames := 3, cells := 0, slots := 0, locals := 67 } [.ref (gz_ad false G 8 a0), .ref (gz_ad false G 3 0)] σ (gz_ei o) 0 0 := by
  refine gz_enter RX3 rfl (by decide) (Nat.le_of_ble_eq_true rfl) ?_
  intro p e s m args below meth c C
  refine gz_eqs (st' := []) (lv' := [(0, .ref (gz_ad false G 8 a0)), (1, .ref (gz_ad false G 3 0))]) rfl rfl ?_
  unfold f_X3_readLimits
  refine gz_aload_n C dX3_readLimits_0 0 rfl ?_
  refine gz_aload_n C dX3_readLimits_1 1 rfl ?_
  refine gz_getN C (t := 3) (k := 6) (ci := 8) (q := (RX8, TX8, 11)) (v := .int (σ.1 3 0 6)) dX3_readLimits_2 fl_RX3_40 (gz_hx3 _) rfl rfl (by decide) rfl ?_
  refine gz_putI C (t := 8) (k := 3) (ci := 3) (q := (RX3, TX3, 7)) dX3_readLimits_5 fl_RX3_27 (gz_hx8 _ h0) rfl rfl (by decide) rfl rfl rfl rfl ?_
  refine gz_w_row (fun σ1 => ?_)
  refine gz_aload_n C dX3_readLimits_8 1 rfl ?_
  refine gz_iconst C dX3_readLimits_9 gk_iconst_2 ?_
  refine gz_ki (gz_runV (t := 3) (ci := 8) (q := (RX8, TX8, 11)) (As := [.int 2]) (rest := []) C dX3_readLimits_10 ml_RX3_45 mw_X8_take mv_X8_take (c_X8_take l G 2 σ1) (gz_hx3 _) rfl rfl rfl rfl rfl (Nat.le_of_ble_eq_true rfl) ⟨rfl, rfl, Nat.le_of_ble_eq_true rfl, Nat.le_of_ble_eq_true rfl, Nat.le_of_ble_eq_true rfl, Nat.le_of_ble_eq_true rfl⟩) (fun r3 σ2 => ?_)
  refine gz_if_eq (tgt := 24) C dX3_readLimits_13 (by decide) ?_ ?_
  · skip
    refine gz_iconst C dX3_readLimits_24 gk_iconst_0 ?_
    exact gz_zret C rfl dX3_readLimits_25
  · skip
    refine gz_aload_n C dX3_readLimits_16 1 rfl ?_
    refine gz_iconst C dX3_readLimits_17 gk_iconst_3 ?_
    refine gz_ki (gz_runV (t := 3) (ci := 8) (q := (RX8, TX8, 11)) (As := [.int 3]) (rest := []) C dX3_readLimits_18 ml_RX3_45 mw_X8_take mv_X8_take (c_X8_take l G 3 σ2) (gz_hx3 _) rfl rfl rfl rfl rfl (Nat.le_of_ble_eq_true rfl) ⟨rfl, rfl, Nat.le_of_ble_eq_true rfl, Nat.le_of_ble_eq_true rfl, Nat.le_of_ble_eq_true rfl, Nat.le_of_ble_eq_true rfl⟩) (fun r5 σ4 => ?_)
    refine gz_if_ne (tgt := 26) C dX3_readLimits_21 (by decide) ?_ ?_
    · skip
      refine gz_aload_n C dX3_readLimits_26 0 rfl ?_
      refine gz_aload_n C dX3_readLimits_27 1 rfl ?_
      refine gz_getN C (t := 3) (k := 6) (ci := 8) (q := (RX8, TX8, 11)) (v := .int (σ4.1 3 0 6)) dX3_readLimits_28 fl_RX3_40 (gz_hx3 _) rfl rfl (by decide) rfl ?_
      refine gz_putI C (t := 8) (k := 4) (ci := 3) (q := (RX3, TX3, 7)) dX3_readLimits_31 fl_RX3_30 (gz_hx8 _ h0) rfl rfl (by decide) rfl rfl rfl rfl ?_
      refine gz_w_row (fun σ6 => ?_)
      refine gz_aload_n C dX3_readLimits_34 1 rfl ?_
      refine gz_getN C (t := 3) (k := 4) (ci := 8) (q := (RX8, TX8, 11)) (v := .int (σ6.1 3 0 4)) dX3_readLimits_35 fl_RX3_49 (gz_hx3 _) rfl rfl (by decide) rfl ?_
      refine gz_iconst C dX3_readLimits_38 gk_iconst_2 ?_
      refine gz_icmp_ne (tgt := 59) C dX3_readLimits_39 (by decide) ?_ ?_
      · skip
        refine gz_aload_n C dX3_readLimits_59 1 rfl ?_
        refine gz_iconst C dX3_readLimits_60 gk_iconst_2 ?_
        refine gz_ki (gz_runV (t := 3) (ci := 8) (q := (RX8, TX8, 11)) (As := [.int 2]) (rest := []) C dX3_readLimits_61 ml_RX3_45 mw_X8_take mv_X8_take (c_X8_take l G 2 σ6) (gz_hx3 _) rfl rfl rfl rfl rfl (Nat.le_of_ble_eq_true rfl) ⟨rfl, rfl, Nat.le_of_ble_eq_true rfl, Nat.le_of_ble_eq_true rfl, Nat.le_of_ble_eq_true rfl, Nat.le_of_ble_eq_true rfl⟩) (fun r8 σ7 => ?_)
        exact gz_zret C rfl dX3_readLimits_64
      · skip
        refine gz_aload_n C dX3_readLimits_42 0 rfl ?_
        refine gz_get C (t := 8) (k := 4) (ci := 3) (q := (RX3, TX3, 7)) (v := .int (σ6.1 8 a0 4)) dX3_readLimits_43 fl_RX3_30 (gz_hx8 _ h0) rfl rfl (by decide) rfl ?_
        refine gz_aload_n C dX3_readLimits_46 0 rfl ?_
        refine gz_get C (t := 8) (k := 3) (ci := 3) (q := (RX3, TX3, 7)) (v := .int (σ6.1 8 a0 3)) dX3_readLimits_47 fl_RX3_27 (gz_hx8 _ h0) rfl rfl (by decide) rfl ?_
        refine gz_icmp_ge (tgt := 59) C dX3_readLimits_50 (by decide) ?_ ?_
        · skip
          refine gz_aload_n C dX3_readLimits_59 1 rfl ?_
          refine gz_iconst C dX3_readLimits_60 gk_iconst_2 ?_
          refine gz_ki (gz_runV (t := 3) (ci := 8) (q := (RX8, TX8, 11)) (As := [.int 2]) (rest := []) C dX3_readLimits_61 ml_RX3_45 mw_X8_take mv_X8_take (c_X8_take l G 2 σ6) (gz_hx3 _) rfl rfl rfl rfl rfl (Nat.le_of_ble_eq_true rfl) ⟨rfl, rfl, Nat.le_of_ble_eq_true rfl, Nat.le_of_ble_eq_true rfl, Nat.le_of_ble_eq_true rfl, Nat.le_of_ble_eq_true rfl⟩) (fun r10 σ9 => ?_)
          exact gz_zret C rfl dX3_readLimits_64
        · skip
          refine gz_aload_n C dX3_readLimits_53 1 rfl ?_
          refine gz_iconst C dX3_readLimits_54 gk_iconst_4 ?_
          refine gz_ki (gz_runV (t := 3) (ci := 8) (q := (RX8, TX8, 11)) (As := [.int 4]) (rest := []) C dX3_readLimits_55 ml_RX3_50 mw_X8_fail mv_X8_fail (c_X8_fail l G 4 σ6) (gz_hx3 _) rfl rfl rfl rfl rfl (Nat.le_of_ble_eq_true rfl) ⟨rfl, rfl, Nat.le_of_ble_eq_true rfl, Nat.le_of_ble_eq_true rfl, Nat.le_of_ble_eq_true rfl, Nat.le_of_ble_eq_true rfl⟩) (fun r12 σ11 => ?_)
          exact gz_zret C rfl dX3_readLimits_58
    · skip
      refine gz_iconst C dX3_readLimits_24 gk_iconst_0 ?_
      exact gz_zret C rfl dX3_readLimits_25

def f_X3_readOneWord (a0 : Nat) (σ : gz_S) : Option (Int32 × gz_S) :=
  if (σ.1 3 0 4) = 1 then
  (gz_call (f_X3_placeOf a0 (σ.2.1 3 0 7) σ) (fun r2 σ1 =>
  if r2 = (-1) then
  (if (σ1.1 8 a0 6) < 4 then
  (gz_ix (σ1.1 8 a0 6) 4 (fun n3 =>
  gz_w (gz_sj σ1 9 a0 n3 (σ1.2.1 3 0 7)) (fun σ4 =>
  gz_w (gz_si σ4 8 a0 6 ((σ4.1 8 a0 6) + 1)) (fun σ5 =>
  gz_then (f_X8_step σ5) (fun σ6 =>
  some ((1 : Int32) &&& 1, σ6))))))
  else
  (gz_call (f_X8_fail 5 σ1) (fun r8 σ7 =>
  some (r8 &&& 1, σ7))))
  else
  (gz_call (f_X8_fail 3 σ1) (fun r10 σ9 =>
  some (r10 &&& 1, σ9)))))
  else
  (gz_call (f_X8_fail 1 σ) (fun r12 σ11 =>
  some (r12 &&& 1, σ11)))
set_option maxHeartbeats 4000000 in
set_option maxRecDepth 100000 in
theorem c_X3_readOneWord (l : Launch) (G : gz_G) (a0 : Nat) (h0 : a0 < 104) (σ : gz_S) : ∀ o, f_X3_readOneWord a0 σ = some o → gz_M l false G yX3_readOneWord cX3_readOneWord 2 (some .boolean) { frames := 2, cells := 0, slots := 0, locals := 46 } [.ref (gz_ad false G 8 a0), .ref (gz_ad false G 3 0)] σ (gz_ei o) 0 0 := by
  refine gz_enter RX3 rfl (by decide) (Nat.le_of_ble_eq_true rfl) ?_
  intro p e s m args below meth c C
  refine gz_eqs (st' := []) (lv' := [(0, .ref (gz_ad false G 8 a0)), (1, .ref (gz_ad false G 3 0))]) rfl rfl ?_
  unfold f_X3_readOneWord
  refine gz_aload_n C dX3_readOneWord_0 1 rfl ?_
  refine gz_getN C (t := 3) (k := 4) (ci := 8) (q := (RX8, TX8, 11)) (v := .int (σ.1 3 0 4)) dX3_readOneWord_1 fl_RX3_49 (gz_hx3 _) rfl rfl (by decide) rfl ?_
  refine gz_iconst C dX3_readOneWord_4 gk_iconst_1 ?_
  refine gz_icmp_eq (tgt := 14) C dX3_readOneWord_5 (by decide) ?_ ?_
  · skip
    refine gz_aload_n C dX3_readOneWord_14 0 rfl ?_
    refine gz_aload_n C dX3_readOneWord_15 1 rfl ?_
    refine gz_getN C (t := 3) (k := 7) (ci := 8) (q := (RX8, TX8, 11)) (v := .long (σ.2.1 3 0 7)) dX3_readOneWord_16 fl_RX3_60 (gz_hx3 _) rfl rfl (by decide) rfl ?_
    refine gz_ki (gz_runV (t := 8) (ci := 3) (q := (RX3, TX3, 7)) (As := [.long (σ.2.1 3 0 7)]) (rest := []) C dX3_readOneWord_19 ml_RX3_63 mw_X3_placeOf mv_X3_placeOf (c_X3_placeOf l G a0 (σ.2.1 3 0 7) h0 σ) (gz_hx8 _ h0) rfl rfl rfl rfl rfl (Nat.le_of_ble_eq_true rfl) ⟨rfl, rfl, Nat.le_of_ble_eq_true rfl, Nat.le_of_ble_eq_true rfl, Nat.le_of_ble_eq_true rfl, Nat.le_of_ble_eq_true rfl⟩) (fun r2 σ1 => ?_)
    refine gz_iconst C dX3_readOneWord_22 gk_iconst_m1 ?_
    refine gz_icmp_eq (tgt := 32) C dX3_readOneWord_23 (by decide) ?_ ?_
    · skip
      refine gz_aload_n C dX3_readOneWord_32 0 rfl ?_
      refine gz_get C (t := 8) (k := 6) (ci := 3) (q := (RX3, TX3, 7)) (v := .int (σ1.1 8 a0 6)) dX3_readOneWord_33 fl_RX3_33 (gz_hx8 _ h0) rfl rfl (by decide) rfl ?_
      refine gz_iconst C dX3_readOneWord_36 gk_iconst_4 ?_
      refine gz_icmp_lt (tgt := 46) C dX3_readOneWord_37 (by decide) ?_ ?_
      · skip
        refine gz_aload_n C dX3_readOneWord_46 0 rfl ?_
        refine gz_get C (t := 8) (k := 5) (ci := 3) (q := (RX3, TX3, 7)) (v := .ref (gz_ad false G 9 a0)) dX3_readOneWord_47 fl_RX3_9 (gz_hx8 _ h0) rfl rfl (by decide) rfl ?_
        refine gz_aload_n C dX3_readOneWord_50 0 rfl ?_
        refine gz_get C (t := 8) (k := 6) (ci := 3) (q := (RX3, TX3, 7)) (v := .int (σ1.1 8 a0 6)) dX3_readOneWord_51 fl_RX3_33 (gz_hx8 _ h0) rfl rfl (by decide) rfl ?_
        refine gz_aload_n C dX3_readOneWord_54 1 rfl ?_
        refine gz_getN C (t := 3) (k := 7) (ci := 8) (q := (RX8, TX8, 11)) (v := .long (σ1.2.1 3 0 7)) dX3_readOneWord_55 fl_RX3_60 (gz_hx3 _) rfl rfl (by decide) rfl ?_
        refine gz_last C (t := 9) dX3_readOneWord_58 (gz_hx9 _ h0) rfl (fun n3 hn3 => ?_)
        refine gz_w_row (fun σ4 => ?_)
        refine gz_aload_n C dX3_readOneWord_59 0 rfl ?_
        refine gz_dup C dX3_readOneWord_60 rfl ?_
        refine gz_get C (t := 8) (k := 6) (ci := 3) (q := (RX3, TX3, 7)) (v := .int (σ4.1 8 a0 6)) dX3_readOneWord_61 fl_RX3_33 (gz_hx8 _ h0) rfl rfl (by decide) rfl ?_
        refine gz_iconst C dX3_readOneWord_64 gk_iconst_1 ?_
        refine gz_iadd C dX3_readOneWord_65 ?_
        refine gz_putI C (t := 8) (k := 6) (ci := 3) (q := (RX3, TX3, 7)) dX3_readOneWord_66 fl_RX3_33 (gz_hx8 _ h0) rfl rfl (by decide) rfl rfl rfl rfl ?_
        refine gz_w_row (fun σ5 => ?_)
        refine gz_aload_n C dX3_readOneWord_69 1 rfl ?_
        refine gz_kv (gz_runV (t := 3) (ci := 8) (q := (RX8, TX8, 11)) (As := []) (rest := []) C dX3_readOneWord_70 ml_RX3_57 mw_X8_step mv_X8_step (c_X8_step l G σ5) (gz_hx3 _) rfl rfl rfl rfl rfl (Nat.le_of_ble_eq_true rfl) ⟨rfl, rfl, Nat.le_of_ble_eq_true rfl, Nat.le_of_ble_eq_true rfl, Nat.le_of_ble_eq_true rfl, Nat.le_of_ble_eq_true rfl⟩) (fun σ6 => ?_)
        refine gz_iconst C dX3_readOneWord_73 gk_iconst_1 ?_
        exact gz_zret C rfl dX3_readOneWord_74
      · skip
        refine gz_aload_n C dX3_readOneWord_40 1 rfl ?_
        refine gz_iconst C dX3_readOneWord_41 gk_iconst_5 ?_
        refine gz_ki (gz_runV (t := 3) (ci := 8) (q := (RX8, TX8, 11)) (As := [.int 5]) (rest := []) C dX3_readOneWord_42 ml_RX3_50 mw_X8_fail mv_X8_fail (c_X8_fail l G 5 σ1) (gz_hx3 _) rfl rfl rfl rfl rfl (Nat.le_of_ble_eq_true rfl) ⟨rfl, rfl, Nat.le_of_ble_eq_true rfl, Nat.le_of_ble_eq_true rfl, Nat.le_of_ble_eq_true rfl, Nat.le_of_ble_eq_true rfl⟩) (fun r8 σ7 => ?_)
        exact gz_zret C rfl dX3_readOneWord_45
    · skip
      refine gz_aload_n C dX3_readOneWord_26 1 rfl ?_
      refine gz_iconst C dX3_readOneWord_27 gk_iconst_3 ?_
      refine gz_ki (gz_runV (t := 3) (ci := 8) (q := (RX8, TX8, 11)) (As := [.int 3]) (rest := []) C dX3_readOneWord_28 ml_RX3_50 mw_X8_fail mv_X8_fail (c_X8_fail l G 3 σ1) (gz_hx3 _) rfl rfl rfl rfl rfl (Nat.le_of_ble_eq_true rfl) ⟨rfl, rfl, Nat.le_of_ble_eq_true rfl, Nat.le_of_ble_eq_true rfl, Nat.le_of_ble_eq_true rfl, Nat.le_of_ble_eq_true rfl⟩) (fun r10 σ9 => ?_)
      exact gz_zret C rfl dX3_readOneWord_31
  · skip
    refine gz_aload_n C dX3_readOneWord_8 1 rfl ?_
    refine gz_iconst C dX3_readOneWord_9 gk_iconst_1 ?_
    refine gz_ki (gz_runV (t := 3) (ci := 8) (q := (RX8, TX8, 11)) (As := [.int 1]) (rest := []) C dX3_readOneWord_10 ml_RX3_50 mw_X8_fail mv_X8_fail (c_X8_fail l G 1 σ) (gz_hx3 _) rfl rfl rfl rfl rfl (Nat.le_of_ble_eq_true rfl) ⟨rfl, rfl, Nat.le_of_ble_eq_true rfl, Nat.le_of_ble_eq_true rfl, Nat.le_of_ble_eq_true rfl, Nat.le_of_ble_eq_true rfl⟩) (fun r12 σ11 => ?_)
    exact gz_zret C rfl dX3_readOneWord_13

def f_X3_readWords_L2 (a0 : Nat) : (Int32 → gz_S → Option (Int32 × gz_S)) → Int32 → gz_S → Option (Int32 × gz_S) := fun rec2 v1 σ2 =>
  if 4 < v1 then
  (some ((0 : Int32) &&& 1, σ2))
  else
  (gz_call (f_X3_readOneWord a0 σ2) (fun r4 σ3 =>
  if r4 = 0 then
  (some ((0 : Int32) &&& 1, σ3))
  else
  (if (σ3.1 3 0 4) = 47 then
  (gz_then (f_X8_step σ3) (fun σ5 =>
  rec2 (v1 + 1) σ5))
  else
  (some ((1 : Int32) &&& 1, σ3)))))
def f_X3_readWords (a0 : Nat) (σ : gz_S) : Option (Int32 × gz_S) :=
  gz_l1 (f_X3_readWords_L2 a0) gz_fu 0 σ
set_option maxHeartbeats 4000000 in
set_option maxRecDepth 100000 in
theorem c_X3_readWords (l : Launch) (G : gz_G) (a0 : Nat) (h0 : a0 < 104) (σ : gz_S) : ∀ o, f_X3_readWords a0 σ = some o → gz_M l false G yX3_readWords cX3_readWords 3 (some .boolean) { frames := 3, cells := 0, slots := 0, locals := 67 } [.ref (gz_ad false G 8 a0), .ref (gz_ad false G 3 0)] σ (gz_ei o) 0 0 := by
  refine gz_enter RX3 rfl (by decide) (Nat.le_of_ble_eq_true rfl) ?_
  intro p e s m args below meth c C
  refine gz_eqs (st' := []) (lv' := [(0, .ref (gz_ad false G 8 a0)), (1, .ref (gz_ad false G 3 0))]) rfl rfl ?_
  unfold f_X3_readWords
  refine gz_iconst C dX3_readWords_0 gk_iconst_0 ?_
  refine gz_istore_n C (lv' := [(2, .int 0), (0, .ref (gz_ad false G 8 a0)), (1, .ref (gz_ad false G 3 0))]) dX3_readWords_1 (by decide) rfl ?_
  refine gz_lv (lv' := [(0, .ref (gz_ad false G 8 a0)), (1, .ref (gz_ad false G 3 0)), (2, .int 0)]) [1, 2, 0] rfl ?_
  refine gz_l1_ind (P := fun v1 σ2 x => gz_W false p l e ({ frames := 3, cells := 0, slots := 0, locals := 67 } : Room) s m args below meth c G 3 (gz_Q false G below args s 0 0 gz_ei) 0 0 σ2 2 [(0, .ref (gz_ad false G 8 a0)), (1, .ref (gz_ad false G 3 0)), (2, .int v1)] [] x) (fun _ _ => gz_none) (fun rec2 hrec2 v1 σ2 => ?_) gz_fu 0 σ
  unfold f_X3_readWords_L2
  refine gz_iload_n C dX3_readWords_2 2 rfl ?_
  refine gz_iconst C dX3_readWords_3 gk_iconst_4 ?_
  refine gz_icmp_gt (tgt := 38) C dX3_readWords_4 (by decide) ?_ ?_
  · skip
    refine gz_iconst C dX3_readWords_38 gk_iconst_0 ?_
    exact gz_zret C rfl dX3_readWords_39
  · skip
    refine gz_aload_n C dX3_readWords_7 0 rfl ?_
    refine gz_aload_n C dX3_readWords_8 1 rfl ?_
    refine gz_ki (gz_runV (t := 8) (ci := 3) (q := (RX3, TX3, 7)) (As := [.ref (gz_ad false G 3 0)]) (rest := []) C dX3_readWords_9 ml_RX3_53 mw_X3_readOneWord mv_X3_readOneWord (c_X3_readOneWord l G a0 h0 σ2) (gz_hx8 _ h0) rfl rfl rfl rfl rfl (Nat.le_of_ble_eq_true rfl) ⟨rfl, rfl, Nat.le_of_ble_eq_true rfl, Nat.le_of_ble_eq_true rfl, Nat.le_of_ble_eq_true rfl, Nat.le_of_ble_eq_true rfl⟩) (fun r4 σ3 => ?_)
    refine gz_if_ne (tgt := 17) C dX3_readWords_12 (by decide) ?_ ?_
    · skip
      refine gz_aload_n C dX3_readWords_17 1 rfl ?_
      refine gz_getN C (t := 3) (k := 4) (ci := 8) (q := (RX8, TX8, 11)) (v := .int (σ3.1 3 0 4)) dX3_readWords_18 fl_RX3_49 (gz_hx3 _) rfl rfl (by decide) rfl ?_
      refine gz_bipush C dX3_readWords_21 gk_bipush_47 ?_
      refine gz_icmp_eq (tgt := 28) C dX3_readWords_23 (by decide) ?_ ?_
      · skip
        refine gz_aload_n C dX3_readWords_28 1 rfl ?_
        refine gz_kv (gz_runV (t := 3) (ci := 8) (q := (RX8, TX8, 11)) (As := []) (rest := []) C dX3_readWords_29 ml_RX3_57 mw_X8_step mv_X8_step (c_X8_step l G σ3) (gz_hx3 _) rfl rfl rfl rfl rfl (Nat.le_of_ble_eq_true rfl) ⟨rfl, rfl, Nat.le_of_ble_eq_true rfl, Nat.le_of_ble_eq_true rfl, Nat.le_of_ble_eq_true rfl, Nat.le_of_ble_eq_true rfl⟩) (fun σ5 => ?_)
        refine gz_iinc C (q := 2) (v := v1 + 1) (lv' := [(2, .int (v1 + 1)), (0, .ref (gz_ad false G 8 a0)), (1, .ref (gz_ad false G 3 0))]) dX3_readWords_32 rfl rfl (by decide) rfl ?_
        refine gz_goto (tgt := 2) C dX3_readWords_35 (by decide) ?_
        refine gz_lv (lv' := [(0, .ref (gz_ad false G 8 a0)), (1, .ref (gz_ad false G 3 0)), (2, .int (v1 + 1))]) [1, 2, 0] rfl ?_
        exact hrec2 (v1 + 1) σ5
      · skip
        refine gz_iconst C dX3_readWords_26 gk_iconst_1 ?_
        exact gz_zret C rfl dX3_readWords_27
    · skip
      refine gz_iconst C dX3_readWords_15 gk_iconst_0 ?_
      exact gz_zret C rfl dX3_readWords_16

def f_X3_valueOf (a0 : Nat) (σ : gz_S) : Option (Int64 × gz_S) :=
  if (σ.1 8 a0 1) = 0 then
  (if (σ.1 3 0 4) = 2 then
  (if (σ.1 3 0 6) < (σ.1 8 a0 3) then
  (some ((-1), σ))
  else
  (if (σ.1 8 a0 4) < (σ.1 3 0 6) then
  (some ((-1), σ))
  else
  (some ((σ.1 3 0 6 : Int32).toInt64, σ))))
  else
  (some ((-1), σ)))
  else
  (if (σ.1 8 a0 1) = 1 then
  (if (σ.1 3 0 4) = 2 then
  (some ((σ.1 3 0 6 : Int32).toInt64, σ))
  else
  (some ((-1), σ)))
  else
  (if (σ.1 3 0 4) = 1 then
  (if (σ.1 8 a0 1) = 2 then
  (some (σ.2.1 3 0 7, σ))
  else
  (if (σ.1 8 a0 1) = 3 then
  (gz_call (f_X3_placeOf a0 (σ.2.1 3 0 7) σ) (fun r2 σ1 =>
  some ((r2 : Int32).toInt64, σ1)))
  else
  (some ((-1), σ))))
  else
  (some ((-1), σ))))
set_option maxHeartbeats 4000000 in
set_option maxRecDepth 100000 in
theorem c_X3_valueOf (l : Launch) (G : gz_G) (a0 : Nat) (h0 : a0 < 104) (σ : gz_S) : ∀ o, f_X3_valueOf a0 σ = some o → gz_M l false G yX3_valueOf cX3_valueOf 2 (some .long) { frames := 1, cells := 0, slots := 0, locals := 23 } [.ref (gz_ad false G 8 a0), .ref (gz_ad false G 3 0)] σ (gz_el o) 0 0 := by
  refine gz_enter RX3 rfl (by decide) (Nat.le_of_ble_eq_true rfl) ?_
  intro p e s m args below meth c C
  refine gz_eqs (st' := []) (lv' := [(0, .ref (gz_ad false G 8 a0)), (1, .ref (gz_ad false G 3 0))]) rfl rfl ?_
  unfold f_X3_valueOf
  refine gz_aload_n C dX3_valueOf_0 0 rfl ?_
  refine gz_get C (t := 8) (k := 1) (ci := 3) (q := (RX3, TX3, 7)) (v := .int (σ.1 8 a0 1)) dX3_valueOf_1 fl_RX3_19 (gz_hx8 _ h0) rfl rfl (by decide) rfl ?_
  refine gz_if_ne (tgt := 49) C dX3_valueOf_4 (by decide) ?_ ?_
  · skip
    refine gz_aload_n C dX3_valueOf_49 0 rfl ?_
    refine gz_get C (t := 8) (k := 1) (ci := 3) (q := (RX3, TX3, 7)) (v := .int (σ.1 8 a0 1)) dX3_valueOf_50 fl_RX3_19 (gz_hx8 _ h0) rfl rfl (by decide) rfl ?_
    refine gz_iconst C dX3_valueOf_53 gk_iconst_1 ?_
    refine gz_icmp_ne (tgt := 77) C dX3_valueOf_54 (by decide) ?_ ?_
    · skip
      refine gz_aload_n C dX3_valueOf_77 1 rfl ?_
      refine gz_getN C (t := 3) (k := 4) (ci := 8) (q := (RX8, TX8, 11)) (v := .int (σ.1 3 0 4)) dX3_valueOf_78 fl_RX3_49 (gz_hx3 _) rfl rfl (by decide) rfl ?_
      refine gz_iconst C dX3_valueOf_81 gk_iconst_1 ?_
      refine gz_icmp_eq (tgt := 89) C dX3_valueOf_82 (by decide) ?_ ?_
      · skip
        refine gz_aload_n C dX3_valueOf_89 0 rfl ?_
        refine gz_get C (t := 8) (k := 1) (ci := 3) (q := (RX3, TX3, 7)) (v := .int (σ.1 8 a0 1)) dX3_valueOf_90 fl_RX3_19 (gz_hx8 _ h0) rfl rfl (by decide) rfl ?_
        refine gz_iconst C dX3_valueOf_93 gk_iconst_2 ?_
        refine gz_icmp_ne (tgt := 102) C dX3_valueOf_94 (by decide) ?_ ?_
        · skip
          refine gz_aload_n C dX3_valueOf_102 0 rfl ?_
          refine gz_get C (t := 8) (k := 1) (ci := 3) (q := (RX3, TX3, 7)) (v := .int (σ.1 8 a0 1)) dX3_valueOf_103 fl_RX3_19 (gz_hx8 _ h0) rfl rfl (by decide) rfl ?_
          refine gz_iconst C dX3_valueOf_106 gk_iconst_3 ?_
          refine gz_icmp_ne (tgt := 122) C dX3_valueOf_107 (by decide) ?_ ?_
          · skip
            refine gz_ldc2 C dX3_valueOf_122 cw_RX3_67 ?_
            exact gz_lret C rfl dX3_valueOf_125
          · skip
            refine gz_aload_n C dX3_valueOf_110 0 rfl ?_
            refine gz_aload_n C dX3_valueOf_111 1 rfl ?_
            refine gz_getN C (t := 3) (k := 7) (ci := 8) (q := (RX8, TX8, 11)) (v := .long (σ.2.1 3 0 7)) dX3_valueOf_112 fl_RX3_60 (gz_hx3 _) rfl rfl (by decide) rfl ?_
            refine gz_ki (gz_runV (t := 8) (ci := 3) (q := (RX3, TX3, 7)) (As := [.long (σ.2.1 3 0 7)]) (rest := []) C dX3_valueOf_115 ml_RX3_63 mw_X3_placeOf mv_X3_placeOf (c_X3_placeOf l G a0 (σ.2.1 3 0 7) h0 σ) (gz_hx8 _ h0) rfl rfl rfl rfl rfl (Nat.le_of_ble_eq_true rfl) ⟨rfl, rfl, Nat.le_of_ble_eq_true rfl, Nat.le_of_ble_eq_true rfl, Nat.le_of_ble_eq_true rfl, Nat.le_of_ble_eq_true rfl⟩) (fun r2 σ1 => ?_)
            refine gz_i2l C dX3_valueOf_118 ?_
            refine gz_goto (tgt := 125) C dX3_valueOf_119 (by decide) ?_
            exact gz_lret C rfl dX3_valueOf_125
        · skip
          refine gz_aload_n C dX3_valueOf_97 1 rfl ?_
          refine gz_getN C (t := 3) (k := 7) (ci := 8) (q := (RX8, TX8, 11)) (v := .long (σ.2.1 3 0 7)) dX3_valueOf_98 fl_RX3_60 (gz_hx3 _) rfl rfl (by decide) rfl ?_
          exact gz_lret C rfl dX3_valueOf_101
      · skip
        refine gz_ldc2 C dX3_valueOf_85 cw_RX3_67 ?_
        exact gz_lret C rfl dX3_valueOf_88
    · skip
      refine gz_aload_n C dX3_valueOf_57 1 rfl ?_
      refine gz_getN C (t := 3) (k := 4) (ci := 8) (q := (RX8, TX8, 11)) (v := .int (σ.1 3 0 4)) dX3_valueOf_58 fl_RX3_49 (gz_hx3 _) rfl rfl (by decide) rfl ?_
      refine gz_iconst C dX3_valueOf_61 gk_iconst_2 ?_
      refine gz_icmp_ne (tgt := 73) C dX3_valueOf_62 (by decide) ?_ ?_
      · skip
        refine gz_ldc2 C dX3_valueOf_73 cw_RX3_67 ?_
        exact gz_lret C rfl dX3_valueOf_76
      · skip
        refine gz_aload_n C dX3_valueOf_65 1 rfl ?_
        refine gz_getN C (t := 3) (k := 6) (ci := 8) (q := (RX8, TX8, 11)) (v := .int (σ.1 3 0 6)) dX3_valueOf_66 fl_RX3_40 (gz_hx3 _) rfl rfl (by decide) rfl ?_
        refine gz_i2l C dX3_valueOf_69 ?_
        refine gz_goto (tgt := 76) C dX3_valueOf_70 (by decide) ?_
        exact gz_lret C rfl dX3_valueOf_76
  · skip
    refine gz_aload_n C dX3_valueOf_7 1 rfl ?_
    refine gz_getN C (t := 3) (k := 4) (ci := 8) (q := (RX8, TX8, 11)) (v := .int (σ.1 3 0 4)) dX3_valueOf_8 fl_RX3_49 (gz_hx3 _) rfl rfl (by decide) rfl ?_
    refine gz_iconst C dX3_valueOf_11 gk_iconst_2 ?_
    refine gz_icmp_ne (tgt := 45) C dX3_valueOf_12 (by decide) ?_ ?_
    · skip
      refine gz_ldc2 C dX3_valueOf_45 cw_RX3_67 ?_
      exact gz_lret C rfl dX3_valueOf_48
    · skip
      refine gz_aload_n C dX3_valueOf_15 1 rfl ?_
      refine gz_getN C (t := 3) (k := 6) (ci := 8) (q := (RX8, TX8, 11)) (v := .int (σ.1 3 0 6)) dX3_valueOf_16 fl_RX3_40 (gz_hx3 _) rfl rfl (by decide) rfl ?_
      refine gz_aload_n C dX3_valueOf_19 0 rfl ?_
      refine gz_get C (t := 8) (k := 3) (ci := 3) (q := (RX3, TX3, 7)) (v := .int (σ.1 8 a0 3)) dX3_valueOf_20 fl_RX3_27 (gz_hx8 _ h0) rfl rfl (by decide) rfl ?_
      refine gz_icmp_lt (tgt := 45) C dX3_valueOf_23 (by decide) ?_ ?_
      · skip
        refine gz_ldc2 C dX3_valueOf_45 cw_RX3_67 ?_
        exact gz_lret C rfl dX3_valueOf_48
      · skip
        refine gz_aload_n C dX3_valueOf_26 1 rfl ?_
        refine gz_getN C (t := 3) (k := 6) (ci := 8) (q := (RX8, TX8, 11)) (v := .int (σ.1 3 0 6)) dX3_valueOf_27 fl_RX3_40 (gz_hx3 _) rfl rfl (by decide) rfl ?_
        refine gz_aload_n C dX3_valueOf_30 0 rfl ?_
        refine gz_get C (t := 8) (k := 4) (ci := 3) (q := (RX3, TX3, 7)) (v := .int (σ.1 8 a0 4)) dX3_valueOf_31 fl_RX3_30 (gz_hx8 _ h0) rfl rfl (by decide) rfl ?_
        refine gz_icmp_gt (tgt := 45) C dX3_valueOf_34 (by decide) ?_ ?_
        · skip
          refine gz_ldc2 C dX3_valueOf_45 cw_RX3_67 ?_
          exact gz_lret C rfl dX3_valueOf_48
        · skip
          refine gz_aload_n C dX3_valueOf_37 1 rfl ?_
          refine gz_getN C (t := 3) (k := 6) (ci := 8) (q := (RX8, TX8, 11)) (v := .int (σ.1 3 0 6)) dX3_valueOf_38 fl_RX3_40 (gz_hx3 _) rfl rfl (by decide) rfl ?_
          refine gz_i2l C dX3_valueOf_41 ?_
          refine gz_goto (tgt := 48) C dX3_valueOf_42 (by decide) ?_
          exact gz_lret C rfl dX3_valueOf_48

def f_X4_placeOf_L2 (a0 : Nat) (a1 : Int64) : (Int32 → gz_S → Option (Int32 × gz_S)) → Int32 → gz_S → Option (Int32 × gz_S) := fun rec2 v1 σ2 =>
  if (σ2.1 6 a0 1) ≤ v1 then
  (some ((-1), σ2))
  else
  (gz_ix v1 8 (fun n3 =>
  if (lg_cmp (σ2.2.1 8 (8 * a0 + n3) 0) a1) = 0 then
  (some (v1, σ2))
  else
  (rec2 (v1 + 1) σ2)))
def f_X4_placeOf (a0 : Nat) (a1 : Int64) (σ : gz_S) : Option (Int32 × gz_S) :=
  gz_l1 (f_X4_placeOf_L2 a0 a1) gz_fu 0 σ
set_option maxHeartbeats 4000000 in
set_option maxRecDepth 100000 in
theorem c_X4_placeOf (l : Launch) (G : gz_G) (a0 : Nat) (a1 : Int64) (h0 : a0 < 13) (σ : gz_S) : ∀ o, f_X4_placeOf a0 a1 σ = some o → gz_M l false G yX4_placeOf cX4_placeOf 4 (some .int) { frames := 0, cells := 0, slots := 0, locals := 0 } [.ref (gz_ad false G 6 a0), .long a1] σ (gz_ei o) 0 0 := by
  refine gz_enter RX4 rfl (by decide) (Nat.le_of_ble_eq_true rfl) ?_
  intro p e s m args below meth c C
  refine gz_eqs (st' := []) (lv' := [(0, .ref (gz_ad false G 6 a0)), (1, .long a1)]) rfl rfl ?_
  unfold f_X4_placeOf
  refine gz_iconst C dX4_placeOf_0 gk_iconst_0 ?_
  refine gz_istore_n C (lv' := [(3, .int 0), (0, .ref (gz_ad false G 6 a0)), (1, .long a1)]) dX4_placeOf_1 (by decide) rfl ?_
  refine gz_lv (lv' := [(0, .ref (gz_ad false G 6 a0)), (1, .long a1), (3, .int 0)]) [1, 2, 0] rfl ?_
  refine gz_l1_ind (P := fun v1 σ2 x => gz_W false p l e ({ frames := 0, cells := 0, slots := 0, locals := 0 } : Room) s m args below meth c G 4 (gz_Q false G below args s 0 0 gz_ei) 0 0 σ2 2 [(0, .ref (gz_ad false G 6 a0)), (1, .long a1), (3, .int v1)] [] x) (fun _ _ => gz_none) (fun rec2 hrec2 v1 σ2 => ?_) gz_fu 0 σ
  unfold f_X4_placeOf_L2
  refine gz_iload_n C dX4_placeOf_2 2 rfl ?_
  refine gz_aload_n C dX4_placeOf_3 0 rfl ?_
  refine gz_get C (t := 6) (k := 1) (ci := 4) (q := (RX4, TX4, 2)) (v := .int (σ2.1 6 a0 1)) dX4_placeOf_4 fl_RX4_18 (gz_hx6 _ h0) rfl rfl (by decide) rfl ?_
  refine gz_icmp_ge (tgt := 32) C dX4_placeOf_7 (by decide) ?_ ?_
  · skip
    refine gz_iconst C dX4_placeOf_32 gk_iconst_m1 ?_
    exact gz_iret C rfl dX4_placeOf_33
  · skip
    refine gz_aload_n C dX4_placeOf_10 0 rfl ?_
    refine gz_get C (t := 6) (k := 0) (ci := 4) (q := (RX4, TX4, 2)) (v := .ref (gz_ad false G 7 a0)) dX4_placeOf_11 fl_RX4_11 (gz_hx6 _ h0) rfl rfl (by decide) rfl ?_
    refine gz_iload_n C dX4_placeOf_14 2 rfl ?_
    refine gz_aald4 C (t := 7) dX4_placeOf_15 (gz_hx7 _ h0) rfl (fun n3 hn3 => ?_)
    refine gz_getN C (t := 8) (k := 0) (ci := 3) (q := (RX3, TX3, 7)) (v := .long (σ2.2.1 8 (8 * a0 + n3) 0)) dX4_placeOf_16 fl_RX4_22 (gz_hx8 _ (gz_h8 h0 hn3)) rfl rfl (by decide) rfl ?_
    refine gz_lload_n C dX4_placeOf_19 1 rfl ?_
    refine gz_lcmp C dX4_placeOf_20 ?_
    refine gz_if_ne (tgt := 26) C dX4_placeOf_21 (by decide) ?_ ?_
    · skip
      refine gz_iinc C (q := 2) (v := v1 + 1) (lv' := [(3, .int (v1 + 1)), (0, .ref (gz_ad false G 6 a0)), (1, .long a1)]) dX4_placeOf_26 rfl rfl (by decide) rfl ?_
      refine gz_goto (tgt := 2) C dX4_placeOf_29 (by decide) ?_
      refine gz_lv (lv' := [(0, .ref (gz_ad false G 6 a0)), (1, .long a1), (3, .int (v1 + 1))]) [1, 2, 0] rfl ?_
      exact hrec2 (v1 + 1) σ2
    · skip
      refine gz_iload_n C dX4_placeOf_24 2 rfl ?_
      exact gz_iret C rfl dX4_placeOf_25

def f_X4_isKind (a0 : Int64) (σ : gz_S) : Option (Int32 × gz_S) :=
  if (lg_cmp a0 15021) = 0 then
  (some ((1 : Int32) &&& 1, σ))
  else
  (if (lg_cmp a0 4153) = 0 then
  (some ((1 : Int32) &&& 1, σ))
  else
  (if (lg_cmp a0 769604) = 0 then
  (some ((1 : Int32) &&& 1, σ))
  else
  (if (lg_cmp a0 15813) = 0 then
  (some ((1 : Int32) &&& 1, σ))
  else
  (if (lg_cmp a0 639022) = 0 then
  (some ((1 : Int32) &&& 1, σ))
  else
  (some ((0 : Int32) &&& 1, σ))))))
set_option maxHeartbeats 4000000 in
set_option maxRecDepth 100000 in
theorem c_X4_isKind (l : Launch) (G : gz_G) (a0 : Int64) (σ : gz_S) : ∀ o, f_X4_isKind a0 σ = some o → gz_M l false G yX4_isKind cX4_isKind 2 (some .boolean) { frames := 0, cells := 0, slots := 0, locals := 0 } [.long a0] σ (gz_ei o) 0 0 := by
  refine gz_enter RX4 rfl (by decide) (Nat.le_of_ble_eq_true rfl) ?_
  intro p e s m args below meth c C
  refine gz_eqs (st' := []) (lv' := [(0, .long a0)]) rfl rfl ?_
  unfold f_X4_isKind
  refine gz_lload_n C dX4_isKind_0 0 rfl ?_
  refine gz_ldc2 C dX4_isKind_1 cw_RX4_69 ?_
  refine gz_lcmp C dX4_isKind_4 ?_
  refine gz_if_eq (tgt := 40) C dX4_isKind_5 (by decide) ?_ ?_
  · skip
    refine gz_iconst C dX4_isKind_40 gk_iconst_1 ?_
    refine gz_goto (tgt := 45) C dX4_isKind_41 (by decide) ?_
    exact gz_zret C rfl dX4_isKind_45
  · skip
    refine gz_lload_n C dX4_isKind_8 0 rfl ?_
    refine gz_ldc2 C dX4_isKind_9 cw_RX4_71 ?_
    refine gz_lcmp C dX4_isKind_12 ?_
    refine gz_if_eq (tgt := 40) C dX4_isKind_13 (by decide) ?_ ?_
    · skip
      refine gz_iconst C dX4_isKind_40 gk_iconst_1 ?_
      refine gz_goto (tgt := 45) C dX4_isKind_41 (by decide) ?_
      exact gz_zret C rfl dX4_isKind_45
    · skip
      refine gz_lload_n C dX4_isKind_16 0 rfl ?_
      refine gz_ldc2 C dX4_isKind_17 cw_RX4_73 ?_
      refine gz_lcmp C dX4_isKind_20 ?_
      refine gz_if_eq (tgt := 40) C dX4_isKind_21 (by decide) ?_ ?_
      · skip
        refine gz_iconst C dX4_isKind_40 gk_iconst_1 ?_
        refine gz_goto (tgt := 45) C dX4_isKind_41 (by decide) ?_
        exact gz_zret C rfl dX4_isKind_45
      · skip
        refine gz_lload_n C dX4_isKind_24 0 rfl ?_
        refine gz_ldc2 C dX4_isKind_25 cw_RX4_86 ?_
        refine gz_lcmp C dX4_isKind_28 ?_
        refine gz_if_eq (tgt := 40) C dX4_isKind_29 (by decide) ?_ ?_
        · skip
          refine gz_iconst C dX4_isKind_40 gk_iconst_1 ?_
          refine gz_goto (tgt := 45) C dX4_isKind_41 (by decide) ?_
          exact gz_zret C rfl dX4_isKind_45
        · skip
          refine gz_lload_n C dX4_isKind_32 0 rfl ?_
          refine gz_ldc2 C dX4_isKind_33 cw_RX4_64 ?_
          refine gz_lcmp C dX4_isKind_36 ?_
          refine gz_if_ne (tgt := 44) C dX4_isKind_37 (by decide) ?_ ?_
          · skip
            refine gz_iconst C dX4_isKind_44 gk_iconst_0 ?_
            exact gz_zret C rfl dX4_isKind_45
          · skip
            refine gz_iconst C dX4_isKind_40 gk_iconst_1 ?_
            refine gz_goto (tgt := 45) C dX4_isKind_41 (by decide) ?_
            exact gz_zret C rfl dX4_isKind_45

def f_X4_readSpan_J71 (a2 : Nat) (a0 : Nat) : Int32 → gz_S → Option (Int32 × gz_S) := fun x7 σ8 =>
  gz_w (gz_si σ8 8 a2 1 x7) (fun σ9 =>
  gz_then (f_X8_step σ9) (fun σ10 =>
  if (σ10.1 3 0 4) = 1 then
  (gz_call (f_X4_placeOf a0 (σ10.2.1 3 0 7) σ10) (fun r12 σ11 =>
  if r12 = (-1) then
  (gz_call (f_X8_fail 2 σ11) (fun r14 σ13 =>
  some (r14 &&& 1, σ13)))
  else
  (gz_ix r12 8 (fun n15 =>
  gz_call (f_X3_hasDay (8 * a0 + n15) σ11) (fun r17 σ16 =>
  if r17 = 0 then
  (gz_call (f_X8_fail 2 σ16) (fun r21 σ20 =>
  some (r21 &&& 1, σ20)))
  else
  (gz_w (gz_si σ16 8 a2 4 r12) (fun σ18 =>
  gz_then (f_X8_step σ18) (fun σ19 =>
  some ((1 : Int32) &&& 1, σ19)))))))))
  else
  (gz_call (f_X8_fail 1 σ10) (fun r23 σ22 =>
  some (r23 &&& 1, σ22)))))
def f_X4_readSpan_J54 (a2 : Nat) (a0 : Nat) : gz_S → Option (Int32 × gz_S) := fun σ6 =>
  gz_j1 (f_X4_readSpan_J71 a2 a0) (fun j71 =>
  if (lg_cmp (σ6.2.1 3 0 7) 132915) = 0 then
  (j71 4 σ6)
  else
  (j71 5 σ6))
def f_X4_readSpan (a0 : Nat) (a2 : Nat) (σ : gz_S) : Option (Int32 × gz_S) :=
  gz_w (gz_si σ 8 a2 3 (σ.1 3 0 6)) (fun σ1 =>
  gz_call (f_X8_take 2 σ1) (fun r3 σ2 =>
  if r3 = 0 then
  (some ((0 : Int32) &&& 1, σ2))
  else
  (if (σ2.1 3 0 4) = 1 then
  (gz_j0 (f_X4_readSpan_J54 a2 a0) (fun j54 =>
  if (lg_cmp (σ2.2.1 3 0 7) 132915) = 0 then
  (j54 σ2)
  else
  (if (lg_cmp (σ2.2.1 3 0 7) 769611) = 0 then
  (j54 σ2)
  else
  (gz_call (f_X8_fail 1 σ2) (fun r25 σ24 =>
  some (r25 &&& 1, σ24))))))
  else
  (gz_call (f_X8_fail 1 σ2) (fun r5 σ4 =>
  some (r5 &&& 1, σ4))))))
set_option maxHeartbeats 4000000 in
set_option maxRecDepth 100000 in
theorem c_X4_readSpan (l : Launch) (G : gz_G) (a0 : Nat) (a2 : Nat) (h0 : a0 < 13) (h2 : a2 < 104) (σ : gz_S) : ∀ o, f_X4_readSpan a0 a2 σ = some o → gz_M l false G yX4_readSpan cX4_readSpan 4 (some .boolean) { frames := 3, cells := 0, slots := 0, locals := 67 } [.ref (gz_ad false G 6 a0), .ref (gz_ad false G 3 0), .ref (gz_ad false G 8 a2)] σ (gz_ei o) 0 0 := by
  refine gz_enter RX4 rfl (by decide) (Nat.le_of_ble_eq_true rfl) ?_
  intro p e s m args below meth c C
  refine gz_eqs (st' := []) (lv' := [(0, .ref (gz_ad false G 6 a0)), (1, .ref (gz_ad false G 3 0)), (2, .ref (gz_ad false G 8 a2))]) rfl rfl ?_
  unfold f_X4_readSpan
  refine gz_aload_n C dX4_readSpan_0 2 rfl ?_
  refine gz_aload_n C dX4_readSpan_1 1 rfl ?_
  refine gz_getN C (t := 3) (k := 6) (ci := 8) (q := (RX8, TX8, 11)) (v := .int (σ.1 3 0 6)) dX4_readSpan_2 fl_RX4_88 (gz_hx3 _) rfl rfl (by decide) rfl ?_
  refine gz_putIN C (t := 8) (k := 3) (ci := 3) (q := (RX3, TX3, 7)) dX4_readSpan_5 fl_RX4_91 (gz_hx8 _ h2) rfl rfl (by decide) rfl rfl rfl rfl ?_
  refine gz_w_row (fun σ1 => ?_)
  refine gz_aload_n C dX4_readSpan_8 1 rfl ?_
  refine gz_iconst C dX4_readSpan_9 gk_iconst_2 ?_
  refine gz_ki (gz_runV (t := 3) (ci := 8) (q := (RX8, TX8, 11)) (As := [.int 2]) (rest := []) C dX4_readSpan_10 ml_RX4_39 mw_X8_take mv_X8_take (c_X8_take l G 2 σ1) (gz_hx3 _) rfl rfl rfl rfl rfl (Nat.le_of_ble_eq_true rfl) ⟨rfl, rfl, Nat.le_of_ble_eq_true rfl, Nat.le_of_ble_eq_true rfl, Nat.le_of_ble_eq_true rfl, Nat.le_of_ble_eq_true rfl⟩) (fun r3 σ2 => ?_)
  refine gz_if_ne (tgt := 18) C dX4_readSpan_13 (by decide) ?_ ?_
  · skip
    refine gz_aload_n C dX4_readSpan_18 1 rfl ?_
    refine gz_getN C (t := 3) (k := 4) (ci := 8) (q := (RX8, TX8, 11)) (v := .int (σ2.1 3 0 4)) dX4_readSpan_19 fl_RX4_34 (gz_hx3 _) rfl rfl (by decide) rfl ?_
    refine gz_iconst C dX4_readSpan_22 gk_iconst_1 ?_
    refine gz_icmp_ne (tgt := 48) C dX4_readSpan_23 (by decide) ?_ ?_
    · skip
      refine gz_aload_n C dX4_readSpan_48 1 rfl ?_
      refine gz_iconst C dX4_readSpan_49 gk_iconst_1 ?_
      refine gz_ki (gz_runV (t := 3) (ci := 8) (q := (RX8, TX8, 11)) (As := [.int 1]) (rest := []) C dX4_readSpan_50 ml_RX4_43 mw_X8_fail mv_X8_fail (c_X8_fail l G 1 σ2) (gz_hx3 _) rfl rfl rfl rfl rfl (Nat.le_of_ble_eq_true rfl) ⟨rfl, rfl, Nat.le_of_ble_eq_true rfl, Nat.le_of_ble_eq_true rfl, Nat.le_of_ble_eq_true rfl, Nat.le_of_ble_eq_true rfl⟩) (fun r5 σ4 => ?_)
      exact gz_zret C rfl dX4_readSpan_53
    · skip
      refine gz_aload_n C dX4_readSpan_26 1 rfl ?_
      refine gz_getN C (t := 3) (k := 7) (ci := 8) (q := (RX8, TX8, 11)) (v := .long (σ2.2.1 3 0 7)) dX4_readSpan_27 fl_RX4_46 (gz_hx3 _) rfl rfl (by decide) rfl ?_
      refine gz_ldc2 C dX4_readSpan_30 cw_RX4_94 ?_
      refine gz_lcmp C dX4_readSpan_33 ?_
      refine gz_j0_row (P := fun σ6 x => gz_W false p l e ({ frames := 3, cells := 0, slots := 0, locals := 67 } : Room) s m args below meth c G 4 (gz_Q false G below args s 0 0 gz_ei) 0 0 σ6 54 [(0, .ref (gz_ad false G 6 a0)), (1, .ref (gz_ad false G 3 0)), (2, .ref (gz_ad false G 8 a2))] [] x) (fun σ6 => ?_) (fun j54 hj54 => ?_)
      · unfold f_X4_readSpan_J54
        refine gz_aload_n C dX4_readSpan_54 2 rfl ?_
        refine gz_aload_n C dX4_readSpan_55 1 rfl ?_
        refine gz_getN C (t := 3) (k := 7) (ci := 8) (q := (RX8, TX8, 11)) (v := .long (σ6.2.1 3 0 7)) dX4_readSpan_56 fl_RX4_46 (gz_hx3 _) rfl rfl (by decide) rfl ?_
        refine gz_ldc2 C dX4_readSpan_59 cw_RX4_94 ?_
        refine gz_lcmp C dX4_readSpan_62 ?_
        refine gz_j1_row (P := fun x7 σ8 x => gz_W false p l e ({ frames := 3, cells := 0, slots := 0, locals := 67 } : Room) s m args below meth c G 4 (gz_Q false G below args s 0 0 gz_ei) 0 0 σ8 71 [(0, .ref (gz_ad false G 6 a0)), (1, .ref (gz_ad false G 3 0)), (2, .ref (gz_ad false G 8 a2))] [.int x7, .ref (gz_ad false G 8 a2)] x) (fun x7 σ8 => ?_) (fun j71 hj71 => ?_)
        · unfold f_X4_readSpan_J71
          refine gz_putIN C (t := 8) (k := 1) (ci := 3) (q := (RX3, TX3, 7)) dX4_readSpan_71 fl_RX4_75 (gz_hx8 _ h2) rfl rfl (by decide) rfl rfl rfl rfl ?_
          refine gz_w_row (fun σ9 => ?_)
          refine gz_aload_n C dX4_readSpan_74 1 rfl ?_
          refine gz_kv (gz_runV (t := 3) (ci := 8) (q := (RX8, TX8, 11)) (As := []) (rest := []) C dX4_readSpan_75 ml_RX4_57 mw_X8_step mv_X8_step (c_X8_step l G σ9) (gz_hx3 _) rfl rfl rfl rfl rfl (Nat.le_of_ble_eq_true rfl) ⟨rfl, rfl, Nat.le_of_ble_eq_true rfl, Nat.le_of_ble_eq_true rfl, Nat.le_of_ble_eq_true rfl, Nat.le_of_ble_eq_true rfl⟩) (fun σ10 => ?_)
          refine gz_aload_n C dX4_readSpan_78 1 rfl ?_
          refine gz_getN C (t := 3) (k := 4) (ci := 8) (q := (RX8, TX8, 11)) (v := .int (σ10.1 3 0 4)) dX4_readSpan_79 fl_RX4_34 (gz_hx3 _) rfl rfl (by decide) rfl ?_
          refine gz_iconst C dX4_readSpan_82 gk_iconst_1 ?_
          refine gz_icmp_eq (tgt := 92) C dX4_readSpan_83 (by decide) ?_ ?_
          · skip
            refine gz_aload_n C dX4_readSpan_92 0 rfl ?_
            refine gz_aload_n C dX4_readSpan_93 1 rfl ?_
            refine gz_getN C (t := 3) (k := 7) (ci := 8) (q := (RX8, TX8, 11)) (v := .long (σ10.2.1 3 0 7)) dX4_readSpan_94 fl_RX4_46 (gz_hx3 _) rfl rfl (by decide) rfl ?_
            refine gz_ki (gz_runV (t := 6) (ci := 4) (q := (RX4, TX4, 2)) (As := [.long (σ10.2.1 3 0 7)]) (rest := []) C dX4_readSpan_97 ml_RX4_49 mw_X4_placeOf mv_X4_placeOf (c_X4_placeOf l G a0 (σ10.2.1 3 0 7) h0 σ10) (gz_hx6 _ h0) rfl rfl rfl rfl rfl (Nat.le_of_ble_eq_true rfl) ⟨rfl, rfl, Nat.le_of_ble_eq_true rfl, Nat.le_of_ble_eq_true rfl, Nat.le_of_ble_eq_true rfl, Nat.le_of_ble_eq_true rfl⟩) (fun r12 σ11 => ?_)
            refine gz_istore_n C (lv' := [(3, .int r12), (0, .ref (gz_ad false G 6 a0)), (1, .ref (gz_ad false G 3 0)), (2, .ref (gz_ad false G 8 a2))]) dX4_readSpan_100 (by decide) rfl ?_
            refine gz_iload_n C dX4_readSpan_101 0 rfl ?_
            refine gz_iconst C dX4_readSpan_102 gk_iconst_m1 ?_
            refine gz_icmp_eq (tgt := 118) C dX4_readSpan_103 (by decide) ?_ ?_
            · skip
              refine gz_aload_n C dX4_readSpan_118 2 rfl ?_
              refine gz_iconst C dX4_readSpan_119 gk_iconst_2 ?_
              refine gz_ki (gz_runV (t := 3) (ci := 8) (q := (RX8, TX8, 11)) (As := [.int 2]) (rest := []) C dX4_readSpan_120 ml_RX4_43 mw_X8_fail mv_X8_fail (c_X8_fail l G 2 σ11) (gz_hx3 _) rfl rfl rfl rfl rfl (Nat.le_of_ble_eq_true rfl) ⟨rfl, rfl, Nat.le_of_ble_eq_true rfl, Nat.le_of_ble_eq_true rfl, Nat.le_of_ble_eq_true rfl, Nat.le_of_ble_eq_true rfl⟩) (fun r14 σ13 => ?_)
              exact gz_zret C rfl dX4_readSpan_123
            · skip
              refine gz_aload_n C dX4_readSpan_106 1 rfl ?_
              refine gz_get C (t := 6) (k := 0) (ci := 4) (q := (RX4, TX4, 2)) (v := .ref (gz_ad false G 7 a0)) dX4_readSpan_107 fl_RX4_11 (gz_hx6 _ h0) rfl rfl (by decide) rfl ?_
              refine gz_iload_n C dX4_readSpan_110 0 rfl ?_
              refine gz_aald4 C (t := 7) dX4_readSpan_111 (gz_hx7 _ h0) rfl (fun n15 hn15 => ?_)
              refine gz_ki (gz_runV (t := 8) (ci := 3) (q := (RX3, TX3, 7)) (As := []) (rest := []) C dX4_readSpan_112 ml_RX4_98 mw_X3_hasDay mv_X3_hasDay (c_X3_hasDay l G (8 * a0 + n15) (gz_h8 h0 hn15) σ11) (gz_hx8 _ (gz_h8 h0 hn15)) rfl rfl rfl rfl rfl (Nat.le_of_ble_eq_true rfl) ⟨rfl, rfl, Nat.le_of_ble_eq_true rfl, Nat.le_of_ble_eq_true rfl, Nat.le_of_ble_eq_true rfl, Nat.le_of_ble_eq_true rfl⟩) (fun r17 σ16 => ?_)
              refine gz_if_ne (tgt := 124) C dX4_readSpan_115 (by decide) ?_ ?_
              · skip
                refine gz_aload_n C dX4_readSpan_124 3 rfl ?_
                refine gz_iload_n C dX4_readSpan_125 0 rfl ?_
                refine gz_putIN C (t := 8) (k := 4) (ci := 3) (q := (RX3, TX3, 7)) dX4_readSpan_126 fl_RX4_102 (gz_hx8 _ h2) rfl rfl (by decide) rfl rfl rfl rfl ?_
                refine gz_w_row (fun σ18 => ?_)
                refine gz_aload_n C dX4_readSpan_129 2 rfl ?_
                refine gz_kv (gz_runV (t := 3) (ci := 8) (q := (RX8, TX8, 11)) (As := []) (rest := []) C dX4_readSpan_130 ml_RX4_57 mw_X8_step mv_X8_step (c_X8_step l G σ18) (gz_hx3 _) rfl rfl rfl rfl rfl (Nat.le_of_ble_eq_true rfl) ⟨rfl, rfl, Nat.le_of_ble_eq_true rfl, Nat.le_of_ble_eq_true rfl, Nat.le_of_ble_eq_true rfl, Nat.le_of_ble_eq_true rfl⟩) (fun σ19 => ?_)
                refine gz_iconst C dX4_readSpan_133 gk_iconst_1 ?_
                exact gz_zret C rfl dX4_readSpan_134
              · skip
                refine gz_aload_n C dX4_readSpan_118 2 rfl ?_
                refine gz_iconst C dX4_readSpan_119 gk_iconst_2 ?_
                refine gz_ki (gz_runV (t := 3) (ci := 8) (q := (RX8, TX8, 11)) (As := [.int 2]) (rest := []) C dX4_readSpan_120 ml_RX4_43 mw_X8_fail mv_X8_fail (c_X8_fail l G 2 σ16) (gz_hx3 _) rfl rfl rfl rfl rfl (Nat.le_of_ble_eq_true rfl) ⟨rfl, rfl, Nat.le_of_ble_eq_true rfl, Nat.le_of_ble_eq_true rfl, Nat.le_of_ble_eq_true rfl, Nat.le_of_ble_eq_true rfl⟩) (fun r21 σ20 => ?_)
                exact gz_zret C rfl dX4_readSpan_123
          · skip
            refine gz_aload_n C dX4_readSpan_86 1 rfl ?_
            refine gz_iconst C dX4_readSpan_87 gk_iconst_1 ?_
            refine gz_ki (gz_runV (t := 3) (ci := 8) (q := (RX8, TX8, 11)) (As := [.int 1]) (rest := []) C dX4_readSpan_88 ml_RX4_43 mw_X8_fail mv_X8_fail (c_X8_fail l G 1 σ10) (gz_hx3 _) rfl rfl rfl rfl rfl (Nat.le_of_ble_eq_true rfl) ⟨rfl, rfl, Nat.le_of_ble_eq_true rfl, Nat.le_of_ble_eq_true rfl, Nat.le_of_ble_eq_true rfl, Nat.le_of_ble_eq_true rfl⟩) (fun r23 σ22 => ?_)
            exact gz_zret C rfl dX4_readSpan_91
        · skip
          refine gz_if_ne (tgt := 70) C dX4_readSpan_63 (by decide) ?_ ?_
          · skip
            refine gz_iconst C dX4_readSpan_70 gk_iconst_5 ?_
            exact hj71 5 σ6
          · skip
            refine gz_iconst C dX4_readSpan_66 gk_iconst_4 ?_
            refine gz_goto (tgt := 71) C dX4_readSpan_67 (by decide) ?_
            exact hj71 4 σ6
      · skip
        refine gz_if_eq (tgt := 54) C dX4_readSpan_34 (by decide) ?_ ?_
        · skip
          exact hj54 σ2
        · skip
          refine gz_aload_n C dX4_readSpan_37 1 rfl ?_
          refine gz_getN C (t := 3) (k := 7) (ci := 8) (q := (RX8, TX8, 11)) (v := .long (σ2.2.1 3 0 7)) dX4_readSpan_38 fl_RX4_46 (gz_hx3 _) rfl rfl (by decide) rfl ?_
          refine gz_ldc2 C dX4_readSpan_41 cw_RX4_96 ?_
          refine gz_lcmp C dX4_readSpan_44 ?_
          refine gz_if_eq (tgt := 54) C dX4_readSpan_45 (by decide) ?_ ?_
          · skip
            exact hj54 σ2
          · skip
            refine gz_aload_n C dX4_readSpan_48 1 rfl ?_
            refine gz_iconst C dX4_readSpan_49 gk_iconst_1 ?_
            refine gz_ki (gz_runV (t := 3) (ci := 8) (q := (RX8, TX8, 11)) (As := [.int 1]) (rest := []) C dX4_readSpan_50 ml_RX4_43 mw_X8_fail mv_X8_fail (c_X8_fail l G 1 σ2) (gz_hx3 _) rfl rfl rfl rfl rfl (Nat.le_of_ble_eq_true rfl) ⟨rfl, rfl, Nat.le_of_ble_eq_true rfl, Nat.le_of_ble_eq_true rfl, Nat.le_of_ble_eq_true rfl, Nat.le_of_ble_eq_true rfl⟩) (fun r25 σ24 => ?_)
            exact gz_zret C rfl dX4_readSpan_53
  · skip
    refine gz_iconst C dX4_readSpan_16 gk_iconst_0 ?_
    exact gz_zret C rfl dX4_readSpan_17

def f_X4_readKind_J119 (a2 : Nat) : gz_S → Option (Int32 × gz_S) := fun σ11 =>
  if (σ11.1 3 0 4) = 63 then
  (gz_w (gz_si σ11 8 a2 2 1) (fun σ12 =>
  gz_then (f_X8_step σ12) (fun σ13 =>
  some ((1 : Int32) &&& 1, σ13))))
  else
  (some ((1 : Int32) &&& 1, σ11))
def f_X4_readKind_J101 (a2 : Nat) : gz_S → Option (Int32 × gz_S) := fun σ10 =>
  gz_j0 (f_X4_readKind_J119 a2) (fun j119 =>
  if (σ10.1 8 a2 1) = 3 then
  (gz_call (f_X3_readWords a2 σ10) (fun r15 σ14 =>
  if r15 = 0 then
  (some ((0 : Int32) &&& 1, σ14))
  else
  (j119 σ14)))
  else
  (j119 σ10))
def f_X4_readKind_J83 (a2 : Nat) : Int32 → gz_S → Option (Int32 × gz_S) := fun x7 σ8 =>
  gz_w (gz_si σ8 8 a2 1 x7) (fun σ9 =>
  gz_j0 (f_X4_readKind_J101 a2) (fun j101 =>
  if (σ9.1 8 a2 1) = 0 then
  (gz_call (f_X3_readLimits a2 σ9) (fun r17 σ16 =>
  if r17 = 0 then
  (some ((0 : Int32) &&& 1, σ16))
  else
  (j101 σ16)))
  else
  (j101 σ9)))
def f_X4_readKind (a0 : Nat) (a2 : Nat) (σ : gz_S) : Option (Int32 × gz_S) :=
  gz_v (σ.2.1 3 0 7) (fun v1 =>
  if (σ.1 3 0 4) = 1 then
  (gz_call (f_X4_isKind v1 σ) (fun r5 σ4 =>
  if r5 = 0 then
  (gz_call (f_X8_fail 1 σ4) (fun r21 σ20 =>
  some (r21 &&& 1, σ20)))
  else
  (gz_then (f_X8_step σ4) (fun σ6 =>
  if (lg_cmp v1 639022) = 0 then
  (gz_call (f_X4_readSpan a0 a2 σ6) (fun r19 σ18 =>
  some (r19 &&& 1, σ18)))
  else
  (gz_j1 (f_X4_readKind_J83 a2) (fun j83 =>
  if (lg_cmp v1 15021) = 0 then
  (j83 0 σ6)
  else
  (if (lg_cmp v1 4153) = 0 then
  (j83 1 σ6)
  else
  (if (lg_cmp v1 769604) = 0 then
  (j83 2 σ6)
  else
  (j83 3 σ6)))))))))
  else
  (gz_call (f_X8_fail 1 σ) (fun r3 σ2 =>
  some (r3 &&& 1, σ2))))
set_option maxHeartbeats 4000000 in
set_option maxRecDepth 100000 in
theorem c_X4_readKind (l : Launch) (G : gz_G) (a0 : Nat) (a2 : Nat) (h0 : a0 < 13) (h2 : a2 < 104) (σ : gz_S) : ∀ o, f_X4_readKind a0 a2 σ = some o → gz_M l false G yX4_readKind cX4_readKind 5 (some .boolean) { frames := 4, cells := 0, slots := 0, locals := 90 } [.ref (gz_ad false G 6 a0), .ref (gz_ad false G 3 0), .ref (gz_ad false G 8 a2)] σ (gz_ei o) 0 0 := by
  refine gz_enter RX4 rfl (by decide) (Nat.le_of_ble_eq_true rfl) ?_
  intro p e s m args below meth c C
  refine gz_eqs (st' := []) (lv' := [(0, .ref (gz_ad false G 6 a0)), (1, .ref (gz_ad false G 3 0)), (2, .ref (gz_ad false G 8 a2))]) rfl rfl ?_
  unfold f_X4_readKind
  refine gz_aload_n C dX4_readKind_0 1 rfl ?_
  refine gz_getN C (t := 3) (k := 7) (ci := 8) (q := (RX8, TX8, 11)) (v := .long (σ.2.1 3 0 7)) dX4_readKind_1 fl_RX4_46 (gz_hx3 _) rfl rfl (by decide) rfl ?_
  refine gz_topJ (fun v1 => ?_)
  refine gz_lstore_n C (lv' := [(3, .long v1), (0, .ref (gz_ad false G 6 a0)), (1, .ref (gz_ad false G 3 0)), (2, .ref (gz_ad false G 8 a2))]) dX4_readKind_4 (by decide) rfl ?_
  refine gz_aload_n C dX4_readKind_5 2 rfl ?_
  refine gz_getN C (t := 3) (k := 4) (ci := 8) (q := (RX8, TX8, 11)) (v := .int (σ.1 3 0 4)) dX4_readKind_6 fl_RX4_34 (gz_hx3 _) rfl rfl (by decide) rfl ?_
  refine gz_iconst C dX4_readKind_9 gk_iconst_1 ?_
  refine gz_icmp_ne (tgt := 20) C dX4_readKind_10 (by decide) ?_ ?_
  · skip
    refine gz_aload_n C dX4_readKind_20 2 rfl ?_
    refine gz_iconst C dX4_readKind_21 gk_iconst_1 ?_
    refine gz_ki (gz_runV (t := 3) (ci := 8) (q := (RX8, TX8, 11)) (As := [.int 1]) (rest := []) C dX4_readKind_22 ml_RX4_43 mw_X8_fail mv_X8_fail (c_X8_fail l G 1 σ) (gz_hx3 _) rfl rfl rfl rfl rfl (Nat.le_of_ble_eq_true rfl) ⟨rfl, rfl, Nat.le_of_ble_eq_true rfl, Nat.le_of_ble_eq_true rfl, Nat.le_of_ble_eq_true rfl, Nat.le_of_ble_eq_true rfl⟩) (fun r3 σ2 => ?_)
    exact gz_zret C rfl dX4_readKind_25
  · skip
    refine gz_lload_n C dX4_readKind_13 0 rfl ?_
    refine gz_ki (gz_runS (As := [.long v1]) (rest := []) C dX4_readKind_14 ml_RX4_60 mw_X4_isKind ms_X4_isKind (c_X4_isKind l G v1 σ) rfl rfl (Nat.le_of_ble_eq_true rfl) ⟨rfl, rfl, Nat.le_of_ble_eq_true rfl, Nat.le_of_ble_eq_true rfl, Nat.le_of_ble_eq_true rfl, Nat.le_of_ble_eq_true rfl⟩) (fun r5 σ4 => ?_)
    refine gz_if_ne (tgt := 26) C dX4_readKind_17 (by decide) ?_ ?_
    · skip
      refine gz_aload_n C dX4_readKind_26 2 rfl ?_
      refine gz_kv (gz_runV (t := 3) (ci := 8) (q := (RX8, TX8, 11)) (As := []) (rest := []) C dX4_readKind_27 ml_RX4_57 mw_X8_step mv_X8_step (c_X8_step l G σ4) (gz_hx3 _) rfl rfl rfl rfl rfl (Nat.le_of_ble_eq_true rfl) ⟨rfl, rfl, Nat.le_of_ble_eq_true rfl, Nat.le_of_ble_eq_true rfl, Nat.le_of_ble_eq_true rfl, Nat.le_of_ble_eq_true rfl⟩) (fun σ6 => ?_)
      refine gz_lload_n C dX4_readKind_30 0 rfl ?_
      refine gz_ldc2 C dX4_readKind_31 cw_RX4_64 ?_
      refine gz_lcmp C dX4_readKind_34 ?_
      refine gz_if_ne (tgt := 45) C dX4_readKind_35 (by decide) ?_ ?_
      · skip
        refine gz_aload_n C dX4_readKind_45 3 rfl ?_
        refine gz_lload_n C dX4_readKind_46 0 rfl ?_
        refine gz_ldc2 C dX4_readKind_47 cw_RX4_69 ?_
        refine gz_lcmp C dX4_readKind_50 ?_
        refine gz_j1_row (P := fun x7 σ8 x => gz_W false p l e ({ frames := 4, cells := 0, slots := 0, locals := 90 } : Room) s m args below meth c G 5 (gz_Q false G below args s 0 0 gz_ei) 0 0 σ8 83 [(1, .ref (gz_ad false G 3 0)), (2, .ref (gz_ad false G 8 a2))] [.int x7, .ref (gz_ad false G 8 a2)] x) (fun x7 σ8 => ?_) (fun j83 hj83 => ?_)
        · unfold f_X4_readKind_J83
          refine gz_putIN C (t := 8) (k := 1) (ci := 3) (q := (RX3, TX3, 7)) dX4_readKind_83 fl_RX4_75 (gz_hx8 _ h2) rfl rfl (by decide) rfl rfl rfl rfl ?_
          refine gz_w_row (fun σ9 => ?_)
          refine gz_aload_n C dX4_readKind_86 1 rfl ?_
          refine gz_getN C (t := 8) (k := 1) (ci := 3) (q := (RX3, TX3, 7)) (v := .int (σ9.1 8 a2 1)) dX4_readKind_87 fl_RX4_75 (gz_hx8 _ h2) rfl rfl (by decide) rfl ?_
          refine gz_j0_row (P := fun σ10 x => gz_W false p l e ({ frames := 4, cells := 0, slots := 0, locals := 90 } : Room) s m args below meth c G 5 (gz_Q false G below args s 0 0 gz_ei) 0 0 σ10 101 [(1, .ref (gz_ad false G 3 0)), (2, .ref (gz_ad false G 8 a2))] [] x) (fun σ10 => ?_) (fun j101 hj101 => ?_)
          · unfold f_X4_readKind_J101
            refine gz_aload_n C dX4_readKind_101 1 rfl ?_
            refine gz_getN C (t := 8) (k := 1) (ci := 3) (q := (RX3, TX3, 7)) (v := .int (σ10.1 8 a2 1)) dX4_readKind_102 fl_RX4_75 (gz_hx8 _ h2) rfl rfl (by decide) rfl ?_
            refine gz_iconst C dX4_readKind_105 gk_iconst_3 ?_
            refine gz_j0_row (P := fun σ11 x => gz_W false p l e ({ frames := 4, cells := 0, slots := 0, locals := 90 } : Room) s m args below meth c G 5 (gz_Q false G below args s 0 0 gz_ei) 0 0 σ11 119 [(1, .ref (gz_ad false G 3 0)), (2, .ref (gz_ad false G 8 a2))] [] x) (fun σ11 => ?_) (fun j119 hj119 => ?_)
            · unfold f_X4_readKind_J119
              refine gz_aload_n C dX4_readKind_119 0 rfl ?_
              refine gz_getN C (t := 3) (k := 4) (ci := 8) (q := (RX8, TX8, 11)) (v := .int (σ11.1 3 0 4)) dX4_readKind_120 fl_RX4_34 (gz_hx3 _) rfl rfl (by decide) rfl ?_
              refine gz_bipush C dX4_readKind_123 gk_bipush_63 ?_
              refine gz_icmp_ne (tgt := 137) C dX4_readKind_125 (by decide) ?_ ?_
              · skip
                refine gz_iconst C dX4_readKind_137 gk_iconst_1 ?_
                exact gz_zret C rfl dX4_readKind_138
              · skip
                refine gz_aload_n C dX4_readKind_128 1 rfl ?_
                refine gz_iconst C dX4_readKind_129 gk_iconst_1 ?_
                refine gz_putIN C (t := 8) (k := 2) (ci := 3) (q := (RX3, TX3, 7)) dX4_readKind_130 fl_RX4_82 (gz_hx8 _ h2) rfl rfl (by decide) rfl rfl rfl rfl ?_
                refine gz_w_row (fun σ12 => ?_)
                refine gz_aload_n C dX4_readKind_133 0 rfl ?_
                refine gz_kv (gz_runV (t := 3) (ci := 8) (q := (RX8, TX8, 11)) (As := []) (rest := []) C dX4_readKind_134 ml_RX4_57 mw_X8_step mv_X8_step (c_X8_step l G σ12) (gz_hx3 _) rfl rfl rfl rfl rfl (Nat.le_of_ble_eq_true rfl) ⟨rfl, rfl, Nat.le_of_ble_eq_true rfl, Nat.le_of_ble_eq_true rfl, Nat.le_of_ble_eq_true rfl, Nat.le_of_ble_eq_true rfl⟩) (fun σ13 => ?_)
                refine gz_iconst C dX4_readKind_137 gk_iconst_1 ?_
                exact gz_zret C rfl dX4_readKind_138
            · skip
              refine gz_icmp_ne (tgt := 119) C dX4_readKind_106 (by decide) ?_ ?_
              · skip
                exact hj119 σ10
              · skip
                refine gz_aload_n C dX4_readKind_109 1 rfl ?_
                refine gz_aload_n C dX4_readKind_110 0 rfl ?_
                refine gz_ki (gz_runV (t := 8) (ci := 3) (q := (RX3, TX3, 7)) (As := [.ref (gz_ad false G 3 0)]) (rest := []) C dX4_readKind_111 ml_RX4_79 mw_X3_readWords mv_X3_readWords (c_X3_readWords l G a2 h2 σ10) (gz_hx8 _ h2) rfl rfl rfl rfl rfl (Nat.le_of_ble_eq_true rfl) ⟨rfl, rfl, Nat.le_of_ble_eq_true rfl, Nat.le_of_ble_eq_true rfl, Nat.le_of_ble_eq_true rfl, Nat.le_of_ble_eq_true rfl⟩) (fun r15 σ14 => ?_)
                refine gz_if_ne (tgt := 119) C dX4_readKind_114 (by decide) ?_ ?_
                · skip
                  exact hj119 σ14
                · skip
                  refine gz_iconst C dX4_readKind_117 gk_iconst_0 ?_
                  exact gz_zret C rfl dX4_readKind_118
          · skip
            refine gz_if_ne (tgt := 101) C dX4_readKind_90 (by decide) ?_ ?_
            · skip
              exact hj101 σ9
            · skip
              refine gz_aload_n C dX4_readKind_93 1 rfl ?_
              refine gz_aload_n C dX4_readKind_94 0 rfl ?_
              refine gz_ki (gz_runV (t := 8) (ci := 3) (q := (RX3, TX3, 7)) (As := [.ref (gz_ad false G 3 0)]) (rest := []) C dX4_readKind_95 ml_RX4_76 mw_X3_readLimits mv_X3_readLimits (c_X3_readLimits l G a2 h2 σ9) (gz_hx8 _ h2) rfl rfl rfl rfl rfl (Nat.le_of_ble_eq_true rfl) ⟨rfl, rfl, Nat.le_of_ble_eq_true rfl, Nat.le_of_ble_eq_true rfl, Nat.le_of_ble_eq_true rfl, Nat.le_of_ble_eq_true rfl⟩) (fun r17 σ16 => ?_)
              refine gz_if_eq (tgt := 117) C dX4_readKind_98 (by decide) ?_ ?_
              · skip
                refine gz_iconst C dX4_readKind_117 gk_iconst_0 ?_
                exact gz_zret C rfl dX4_readKind_118
              · skip
                exact hj101 σ16
        · skip
          refine gz_if_ne (tgt := 58) C dX4_readKind_51 (by decide) ?_ ?_
          · skip
            refine gz_lload_n C dX4_readKind_58 0 rfl ?_
            refine gz_ldc2 C dX4_readKind_59 cw_RX4_71 ?_
            refine gz_lcmp C dX4_readKind_62 ?_
            refine gz_if_ne (tgt := 70) C dX4_readKind_63 (by decide) ?_ ?_
            · skip
              refine gz_lload_n C dX4_readKind_70 0 rfl ?_
              refine gz_ldc2 C dX4_readKind_71 cw_RX4_73 ?_
              refine gz_lcmp C dX4_readKind_74 ?_
              refine gz_if_ne (tgt := 82) C dX4_readKind_75 (by decide) ?_ ?_
              · skip
                refine gz_iconst C dX4_readKind_82 gk_iconst_3 ?_
                refine gz_lv (lv' := [(1, .ref (gz_ad false G 3 0)), (2, .ref (gz_ad false G 8 a2))]) [2, 3] rfl ?_
                exact hj83 3 σ6
              · skip
                refine gz_iconst C dX4_readKind_78 gk_iconst_2 ?_
                refine gz_goto (tgt := 83) C dX4_readKind_79 (by decide) ?_
                refine gz_lv (lv' := [(1, .ref (gz_ad false G 3 0)), (2, .ref (gz_ad false G 8 a2))]) [2, 3] rfl ?_
                exact hj83 2 σ6
            · skip
              refine gz_iconst C dX4_readKind_66 gk_iconst_1 ?_
              refine gz_goto (tgt := 83) C dX4_readKind_67 (by decide) ?_
              refine gz_lv (lv' := [(1, .ref (gz_ad false G 3 0)), (2, .ref (gz_ad false G 8 a2))]) [2, 3] rfl ?_
              exact hj83 1 σ6
          · skip
            refine gz_iconst C dX4_readKind_54 gk_iconst_0 ?_
            refine gz_goto (tgt := 83) C dX4_readKind_55 (by decide) ?_
            refine gz_lv (lv' := [(1, .ref (gz_ad false G 3 0)), (2, .ref (gz_ad false G 8 a2))]) [2, 3] rfl ?_
            exact hj83 0 σ6
      · skip
        refine gz_aload_n C dX4_readKind_38 1 rfl ?_
        refine gz_aload_n C dX4_readKind_39 2 rfl ?_
        refine gz_aload_n C dX4_readKind_40 3 rfl ?_
        refine gz_ki (gz_runV (t := 6) (ci := 4) (q := (RX4, TX4, 2)) (As := [.ref (gz_ad false G 3 0), .ref (gz_ad false G 8 a2)]) (rest := []) C dX4_readKind_41 ml_RX4_66 mw_X4_readSpan mv_X4_readSpan (c_X4_readSpan l G a0 a2 h0 h2 σ6) (gz_hx6 _ h0) rfl rfl rfl rfl rfl (Nat.le_of_ble_eq_true rfl) ⟨rfl, rfl, Nat.le_of_ble_eq_true rfl, Nat.le_of_ble_eq_true rfl, Nat.le_of_ble_eq_true rfl, Nat.le_of_ble_eq_true rfl⟩) (fun r19 σ18 => ?_)
        exact gz_zret C rfl dX4_readKind_44
    · skip
      refine gz_aload_n C dX4_readKind_20 2 rfl ?_
      refine gz_iconst C dX4_readKind_21 gk_iconst_1 ?_
      refine gz_ki (gz_runV (t := 3) (ci := 8) (q := (RX8, TX8, 11)) (As := [.int 1]) (rest := []) C dX4_readKind_22 ml_RX4_43 mw_X8_fail mv_X8_fail (c_X8_fail l G 1 σ4) (gz_hx3 _) rfl rfl rfl rfl rfl (Nat.le_of_ble_eq_true rfl) ⟨rfl, rfl, Nat.le_of_ble_eq_true rfl, Nat.le_of_ble_eq_true rfl, Nat.le_of_ble_eq_true rfl, Nat.le_of_ble_eq_true rfl⟩) (fun r21 σ20 => ?_)
      exact gz_zret C rfl dX4_readKind_25
