def f_X8_holds (a1 : Int32) (σ : gz_S) : Option (Int32 × gz_S) :=
  if a1 < 0 then
  (some ((0 : Int32) &&& 1, σ))
  else
  (if (σ.1 3 0 1) < a1 then
  (some ((0 : Int32) &&& 1, σ))
  else
  (some ((1 : Int32) &&& 1, σ)))
set_option maxHeartbeats 4000000 in
set_option maxRecDepth 100000 in
theorem c_X8_holds (l : Launch) (G : gz_G) (a1 : Int32) (σ : gz_S) : ∀ o, f_X8_holds a1 σ = some o → gz_M l false G yX8_holds cX8_holds 2 (some .boolean) { frames := 0, cells := 0, slots := 0, locals := 0 } [.ref (gz_ad false G 3 0), .int a1] σ (gz_ei o) 0 0 := by
  refine gz_enter RX8 rfl (by decide) (Nat.le_of_ble_eq_true rfl) ?_
  intro p e s m args below meth c C
  refine gz_eqs (st' := []) (lv' := [(0, .ref (gz_ad false G 3 0)), (1, .int a1)]) rfl rfl ?_
  unfold f_X8_holds
  refine gz_iload_n C dX8_holds_0 1 rfl ?_
  refine gz_if_lt (tgt := 16) C dX8_holds_1 (by decide) ?_ ?_
  · skip
    refine gz_iconst C dX8_holds_16 gk_iconst_0 ?_
    exact gz_zret C rfl dX8_holds_17
  · skip
    refine gz_iload_n C dX8_holds_4 1 rfl ?_
    refine gz_aload_n C dX8_holds_5 0 rfl ?_
    refine gz_get C (t := 3) (k := 1) (ci := 8) (q := (RX8, TX8, 11)) (v := .int (σ.1 3 0 1)) dX8_holds_6 fl_RX8_15 (gz_hx3 _) rfl rfl (by decide) rfl ?_
    refine gz_icmp_gt (tgt := 16) C dX8_holds_9 (by decide) ?_ ?_
    · skip
      refine gz_iconst C dX8_holds_16 gk_iconst_0 ?_
      exact gz_zret C rfl dX8_holds_17
    · skip
      refine gz_iconst C dX8_holds_12 gk_iconst_1 ?_
      refine gz_goto (tgt := 17) C dX8_holds_13 (by decide) ?_
      exact gz_zret C rfl dX8_holds_17

def f_J9_max_7cf53 (a0 : Int32) (a1 : Int32) (σ : gz_S) : Option (Int32 × gz_S) :=
  if a0 < a1 then
  (some (a1, σ))
  else
  (some (a0, σ))
set_option maxHeartbeats 4000000 in
set_option maxRecDepth 100000 in
theorem c_J9_max_7cf53 (l : Launch) (G : gz_G) (b : Bool) (a0 : Int32) (a1 : Int32) (σ : gz_S) : ∀ o, f_J9_max_7cf53 a0 a1 σ = some o → gz_M l b G yJ9_max_7cf53 cJ9_max_7cf53 2 (some .int) { frames := 0, cells := 0, slots := 0, locals := 0 } [.int a0, .int a1] σ (gz_ei o) 0 0 := by
  refine gz_enterF RJ9 rfl (by decide +kernel) (Nat.le_of_ble_eq_true rfl) ?_
  intro p e s m args below meth c C
  refine gz_eqs (st' := []) (lv' := [(0, .int a0), (1, .int a1)]) rfl rfl ?_
  unfold f_J9_max_7cf53
  refine gz_iload_n C dJ9_max_7cf53_0 0 rfl ?_
  refine gz_iload_n C dJ9_max_7cf53_1 1 rfl ?_
  refine gz_icmp_lt (tgt := 9) C dJ9_max_7cf53_2 (by decide) ?_ ?_
  · skip
    refine gz_iload_n C dJ9_max_7cf53_9 1 rfl ?_
    exact gz_iret C rfl dJ9_max_7cf53_10
  · skip
    refine gz_iload_n C dJ9_max_7cf53_5 0 rfl ?_
    refine gz_goto (tgt := 10) C dJ9_max_7cf53_6 (by decide) ?_
    exact gz_iret C rfl dJ9_max_7cf53_10

def f_X8_start (a1 : Int32) (σ : gz_S) : Option (gz_S) :=
  gz_call (f_J9_min_7cf53 a1 (σ.1 3 0 1) σ) (fun r2 σ1 =>
  gz_call (f_J9_max_7cf53 0 r2 σ1) (fun r4 σ3 =>
  gz_w (gz_si σ3 3 0 2 r4) (fun σ5 =>
  gz_w (gz_si σ5 3 0 3 0) (fun σ6 =>
  gz_w (gz_si σ6 3 0 8 0) (fun σ7 =>
  gz_then (f_X8_step σ7) (fun σ8 =>
  some σ8))))))
set_option maxHeartbeats 4000000 in
set_option maxRecDepth 100000 in
theorem c_X8_start (l : Launch) (G : gz_G) (a1 : Int32) (σ : gz_S) : ∀ o, f_X8_start a1 σ = some o → gz_M l false G yX8_start cX8_start 2 none { frames := 2, cells := 0, slots := 0, locals := 46 } [.ref (gz_ad false G 3 0), .int a1] σ (gz_eu o) 0 0 := by
  refine gz_enter RX8 rfl (by decide) (Nat.le_of_ble_eq_true rfl) ?_
  intro p e s m args below meth c C
  refine gz_eqs (st' := []) (lv' := [(0, .ref (gz_ad false G 3 0)), (1, .int a1)]) rfl rfl ?_
  unfold f_X8_start
  refine gz_aload_n C dX8_start_0 0 rfl ?_
  refine gz_iconst C dX8_start_1 gk_iconst_0 ?_
  refine gz_iload_n C dX8_start_2 1 rfl ?_
  refine gz_aload_n C dX8_start_3 0 rfl ?_
  refine gz_get C (t := 3) (k := 1) (ci := 8) (q := (RX8, TX8, 11)) (v := .int (σ.1 3 0 1)) dX8_start_4 fl_RX8_15 (gz_hx3 _) rfl rfl (by decide) rfl ?_
  refine gz_ki (gz_runS (As := [.int a1, .int (σ.1 3 0 1)]) (rest := [.int 0, .ref (gz_ad false G 3 0)]) C dX8_start_7 ml_RX8_19 mw_J9_min_7cf53 ms_J9_min_7cf53 (c_J9_min_7cf53 l G false a1 (σ.1 3 0 1) σ) rfl rfl (Nat.le_of_ble_eq_true rfl) ⟨rfl, rfl, Nat.le_of_ble_eq_true rfl, Nat.le_of_ble_eq_true rfl, Nat.le_of_ble_eq_true rfl, Nat.le_of_ble_eq_true rfl⟩) (fun r2 σ1 => ?_)
  refine gz_ki (gz_runS (As := [.int 0, .int r2]) (rest := [.ref (gz_ad false G 3 0)]) C dX8_start_10 ml_RX8_25 mw_J9_max_7cf53 ms_J9_max_7cf53 (c_J9_max_7cf53 l G false 0 r2 σ1) rfl rfl (Nat.le_of_ble_eq_true rfl) ⟨rfl, rfl, Nat.le_of_ble_eq_true rfl, Nat.le_of_ble_eq_true rfl, Nat.le_of_ble_eq_true rfl, Nat.le_of_ble_eq_true rfl⟩) (fun r4 σ3 => ?_)
  refine gz_putI C (t := 3) (k := 2) (ci := 8) (q := (RX8, TX8, 11)) dX8_start_13 fl_RX8_28 (gz_hx3 _) rfl rfl (by decide) rfl rfl rfl rfl ?_
  refine gz_w_row (fun σ5 => ?_)
  refine gz_aload_n C dX8_start_16 0 rfl ?_
  refine gz_iconst C dX8_start_17 gk_iconst_0 ?_
  refine gz_putI C (t := 3) (k := 3) (ci := 8) (q := (RX8, TX8, 11)) dX8_start_18 fl_RX8_31 (gz_hx3 _) rfl rfl (by decide) rfl rfl rfl rfl ?_
  refine gz_w_row (fun σ6 => ?_)
  refine gz_aload_n C dX8_start_21 0 rfl ?_
  refine gz_iconst C dX8_start_22 gk_iconst_0 ?_
  refine gz_putI C (t := 3) (k := 8) (ci := 8) (q := (RX8, TX8, 11)) dX8_start_23 fl_RX8_34 (gz_hx3 _) rfl rfl (by decide) rfl rfl rfl rfl ?_
  refine gz_w_row (fun σ7 => ?_)
  refine gz_aload_n C dX8_start_26 0 rfl ?_
  refine gz_kv (gz_runV (t := 3) (ci := 8) (q := (RX8, TX8, 11)) (As := []) (rest := []) C dX8_start_27 ml_RX8_37 mw_X8_step mv_X8_step (c_X8_step l G σ7) (gz_hx3 _) rfl rfl rfl rfl rfl (Nat.le_of_ble_eq_true rfl) ⟨rfl, rfl, Nat.le_of_ble_eq_true rfl, Nat.le_of_ble_eq_true rfl, Nat.le_of_ble_eq_true rfl, Nat.le_of_ble_eq_true rfl⟩) (fun σ8 => ?_)
  exact gz_vret C rfl dX8_start_30

def f_X9_acceptance (σ : gz_S) : Option (Int32 × gz_S) :=
  gz_w (gz_si σ 0 0 10 0) (fun σ1 =>
  some ((1 : Int32) &&& 1, σ1))
set_option maxHeartbeats 4000000 in
set_option maxRecDepth 100000 in
theorem c_X9_acceptance (l : Launch) (G : gz_G) (σ : gz_S) : ∀ o, f_X9_acceptance σ = some o → gz_M l false G yX9_acceptance cX9_acceptance 1 (some .boolean) { frames := 0, cells := 0, slots := 0, locals := 0 } [.ref (gz_ad false G 0 0)] σ (gz_ei o) 0 0 := by
  refine gz_enter RX9 rfl (by decide) (Nat.le_of_ble_eq_true rfl) ?_
  intro p e s m args below meth c C
  refine gz_eqs (st' := []) (lv' := [(0, .ref (gz_ad false G 0 0))]) rfl rfl ?_
  unfold f_X9_acceptance
  refine gz_aload_n C dX9_acceptance_0 0 rfl ?_
  refine gz_iconst C dX9_acceptance_1 gk_iconst_0 ?_
  refine gz_putI C (t := 0) (k := 10) (ci := 9) (q := (RX9, TX9, 11)) dX9_acceptance_2 fl_RX9_151 (gz_hx0 _) rfl rfl (by decide) rfl rfl rfl rfl ?_
  refine gz_w_row (fun σ1 => ?_)
  refine gz_iconst C dX9_acceptance_5 gk_iconst_1 ?_
  exact gz_zret C rfl dX9_acceptance_6

def f_X9_refusal (a1 : Int32) (σ : gz_S) : Option (Int32 × gz_S) :=
  gz_w (gz_si σ 0 0 10 a1) (fun σ1 =>
  some ((0 : Int32) &&& 1, σ1))
set_option maxHeartbeats 4000000 in
set_option maxRecDepth 100000 in
theorem c_X9_refusal (l : Launch) (G : gz_G) (a1 : Int32) (σ : gz_S) : ∀ o, f_X9_refusal a1 σ = some o → gz_M l false G yX9_refusal cX9_refusal 2 (some .boolean) { frames := 0, cells := 0, slots := 0, locals := 0 } [.ref (gz_ad false G 0 0), .int a1] σ (gz_ei o) 0 0 := by
  refine gz_enter RX9 rfl (by decide) (Nat.le_of_ble_eq_true rfl) ?_
  intro p e s m args below meth c C
  refine gz_eqs (st' := []) (lv' := [(0, .ref (gz_ad false G 0 0)), (1, .int a1)]) rfl rfl ?_
  unfold f_X9_refusal
  refine gz_aload_n C dX9_refusal_0 0 rfl ?_
  refine gz_iload_n C dX9_refusal_1 1 rfl ?_
  refine gz_putI C (t := 0) (k := 10) (ci := 9) (q := (RX9, TX9, 11)) dX9_refusal_2 fl_RX9_151 (gz_hx0 _) rfl rfl (by decide) rfl rfl rfl rfl ?_
  refine gz_w_row (fun σ1 => ?_)
  refine gz_iconst C dX9_refusal_5 gk_iconst_0 ?_
  exact gz_zret C rfl dX9_refusal_6

def f_X9_feast_J52 (a1 : Int32) (a2 : Int32) : gz_S → Option (Int32 × gz_S) := fun σ5 =>
  gz_then (f_X2_setFeast a1 a2 σ5) (fun σ6 =>
  if a2 = 0 then
  (gz_then (f_X0_push 0 a1 0 0 σ6) (fun σ7 =>
  gz_call (f_X9_acceptance σ7) (fun r9 σ8 =>
  some (r9 &&& 1, σ8))))
  else
  (gz_then (f_X0_push 0 a1 1 0 σ6) (fun σ10 =>
  gz_call (f_X9_acceptance σ10) (fun r12 σ11 =>
  some (r12 &&& 1, σ11)))))
def f_X9_feast (a1 : Int32) (a2 : Int32) (σ : gz_S) : Option (Int32 × gz_S) :=
  gz_call (f_X9_isDay a1 σ) (fun r2 σ1 =>
  if r2 = 0 then
  (gz_call (f_X9_refusal 2 σ1) (fun r18 σ17 =>
  some (r18 &&& 1, σ17)))
  else
  (gz_call (f_X2_isFeast a1 σ1) (fun r4 σ3 =>
  if r4 = a2 then
  (gz_call (f_X9_acceptance σ3) (fun r16 σ15 =>
  some (r16 &&& 1, σ15)))
  else
  (gz_j0 (f_X9_feast_J52 a1 a2) (fun j52 =>
  if a2 = 0 then
  (j52 σ3)
  else
  (if (σ3.1 1 0 1) < 60 then
  (j52 σ3)
  else
  (gz_call (f_X9_refusal 3 σ3) (fun r14 σ13 =>
  some (r14 &&& 1, σ13)))))))))
set_option maxHeartbeats 4000000 in
set_option maxRecDepth 100000 in
theorem c_X9_feast (l : Launch) (G : gz_G) (a1 : Int32) (a2 : Int32) (σ : gz_S) : ∀ o, f_X9_feast a1 a2 σ = some o → gz_M l false G yX9_feast cX9_feast 3 (some .boolean) { frames := 2, cells := 0, slots := 0, locals := 47 } [.ref (gz_ad false G 0 0), .int a1, .int a2] σ (gz_ei o) 0 0 := by
  refine gz_enter RX9 rfl (by decide) (Nat.le_of_ble_eq_true rfl) ?_
  intro p e s m args below meth c C
  refine gz_eqs (st' := []) (lv' := [(0, .ref (gz_ad false G 0 0)), (1, .int a1), (2, .int a2)]) rfl rfl ?_
  unfold f_X9_feast
  refine gz_iload_n C dX9_feast_0 1 rfl ?_
  refine gz_ki (gz_runS (As := [.int a1]) (rest := []) C dX9_feast_1 ml_RX9_64 mw_X9_isDay ms_X9_isDay (c_X9_isDay l G a1 σ) rfl rfl (Nat.le_of_ble_eq_true rfl) ⟨rfl, rfl, Nat.le_of_ble_eq_true rfl, Nat.le_of_ble_eq_true rfl, Nat.le_of_ble_eq_true rfl, Nat.le_of_ble_eq_true rfl⟩) (fun r2 σ1 => ?_)
  refine gz_if_ne (tgt := 13) C dX9_feast_4 (by decide) ?_ ?_
  · skip
    refine gz_aload_n C dX9_feast_13 0 rfl ?_
    refine gz_get C (t := 0) (k := 0) (ci := 9) (q := (RX9, TX9, 11)) (v := .ref (gz_ad false G 1 0)) dX9_feast_14 fl_RX9_12 (gz_hx0 _) rfl rfl (by decide) rfl ?_
    refine gz_iload_n C dX9_feast_17 1 rfl ?_
    refine gz_ki (gz_runV (t := 1) (ci := 2) (q := (RX2, TX2, 2)) (As := [.int a1]) (rest := []) C dX9_feast_18 ml_RX9_71 mw_X2_isFeast mv_X2_isFeast (c_X2_isFeast l G a1 σ1) (gz_hx1 _) rfl rfl rfl rfl rfl (Nat.le_of_ble_eq_true rfl) ⟨rfl, rfl, Nat.le_of_ble_eq_true rfl, Nat.le_of_ble_eq_true rfl, Nat.le_of_ble_eq_true rfl, Nat.le_of_ble_eq_true rfl⟩) (fun r4 σ3 => ?_)
    refine gz_iload_n C dX9_feast_21 2 rfl ?_
    refine gz_icmp_ne (tgt := 30) C dX9_feast_22 (by decide) ?_ ?_
    · skip
      refine gz_iload_n C dX9_feast_30 2 rfl ?_
      refine gz_j0_row (P := fun σ5 x => gz_W false p l e ({ frames := 2, cells := 0, slots := 0, locals := 47 } : Room) s m args below meth c G 3 (gz_Q false G below args s 0 0 gz_ei) 0 0 σ5 52 [(0, .ref (gz_ad false G 0 0)), (1, .int a1), (2, .int a2)] [] x) (fun σ5 => ?_) (fun j52 hj52 => ?_)
      · unfold f_X9_feast_J52
        refine gz_aload_n C dX9_feast_52 0 rfl ?_
        refine gz_get C (t := 0) (k := 0) (ci := 9) (q := (RX9, TX9, 11)) (v := .ref (gz_ad false G 1 0)) dX9_feast_53 fl_RX9_12 (gz_hx0 _) rfl rfl (by decide) rfl ?_
        refine gz_iload_n C dX9_feast_56 1 rfl ?_
        refine gz_iload_n C dX9_feast_57 2 rfl ?_
        refine gz_kv (gz_runV (t := 1) (ci := 2) (q := (RX2, TX2, 2)) (As := [.int a1, .int a2]) (rest := []) C dX9_feast_58 ml_RX9_81 mw_X2_setFeast mv_X2_setFeast (c_X2_setFeast l G a1 a2 σ5) (gz_hx1 _) rfl rfl rfl rfl rfl (Nat.le_of_ble_eq_true rfl) ⟨rfl, rfl, Nat.le_of_ble_eq_true rfl, Nat.le_of_ble_eq_true rfl, Nat.le_of_ble_eq_true rfl, Nat.le_of_ble_eq_true rfl⟩) (fun σ6 => ?_)
        refine gz_aload_n C dX9_feast_61 0 rfl ?_
        refine gz_get C (t := 0) (k := 9) (ci := 9) (q := (RX9, TX9, 11)) (v := .ref (gz_ad false G 26 0)) dX9_feast_62 fl_RX9_60 (gz_hx0 _) rfl rfl (by decide) rfl ?_
        refine gz_iconst C dX9_feast_65 gk_iconst_0 ?_
        refine gz_iload_n C dX9_feast_66 1 rfl ?_
        refine gz_iload_n C dX9_feast_67 2 rfl ?_
        refine gz_if_eq (tgt := 75) C dX9_feast_68 (by decide) ?_ ?_
        · skip
          refine gz_lconst C dX9_feast_75 gk_lconst_0 ?_
          refine gz_lconst C dX9_feast_76 gk_lconst_0 ?_
          refine gz_kv (gz_runV (t := 26) (ci := 0) (q := (RX0, TX0, 10)) (As := [.int 0, .int a1, .long 0, .long 0]) (rest := []) C dX9_feast_77 ml_RX9_85 mw_X0_push mv_X0_push (c_X0_push l G 0 a1 0 0 σ6) (gz_hx26 _) rfl rfl rfl rfl rfl (Nat.le_of_ble_eq_true rfl) ⟨rfl, rfl, Nat.le_of_ble_eq_true rfl, Nat.le_of_ble_eq_true rfl, Nat.le_of_ble_eq_true rfl, Nat.le_of_ble_eq_true rfl⟩) (fun σ7 => ?_)
          refine gz_aload_n C dX9_feast_80 0 rfl ?_
          refine gz_ki (gz_runV (t := 0) (ci := 9) (q := (RX9, TX9, 11)) (As := []) (rest := []) C dX9_feast_81 ml_RX9_74 mw_X9_acceptance mv_X9_acceptance (c_X9_acceptance l G σ7) (gz_hx0 _) rfl rfl rfl rfl rfl (Nat.le_of_ble_eq_true rfl) ⟨rfl, rfl, Nat.le_of_ble_eq_true rfl, Nat.le_of_ble_eq_true rfl, Nat.le_of_ble_eq_true rfl, Nat.le_of_ble_eq_true rfl⟩) (fun r9 σ8 => ?_)
          exact gz_zret C rfl dX9_feast_84
        · skip
          refine gz_lconst C dX9_feast_71 gk_lconst_1 ?_
          refine gz_goto (tgt := 76) C dX9_feast_72 (by decide) ?_
          refine gz_lconst C dX9_feast_76 gk_lconst_0 ?_
          refine gz_kv (gz_runV (t := 26) (ci := 0) (q := (RX0, TX0, 10)) (As := [.int 0, .int a1, .long 1, .long 0]) (rest := []) C dX9_feast_77 ml_RX9_85 mw_X0_push mv_X0_push (c_X0_push l G 0 a1 1 0 σ6) (gz_hx26 _) rfl rfl rfl rfl rfl (Nat.le_of_ble_eq_true rfl) ⟨rfl, rfl, Nat.le_of_ble_eq_true rfl, Nat.le_of_ble_eq_true rfl, Nat.le_of_ble_eq_true rfl, Nat.le_of_ble_eq_true rfl⟩) (fun σ10 => ?_)
          refine gz_aload_n C dX9_feast_80 0 rfl ?_
          refine gz_ki (gz_runV (t := 0) (ci := 9) (q := (RX9, TX9, 11)) (As := []) (rest := []) C dX9_feast_81 ml_RX9_74 mw_X9_acceptance mv_X9_acceptance (c_X9_acceptance l G σ10) (gz_hx0 _) rfl rfl rfl rfl rfl (Nat.le_of_ble_eq_true rfl) ⟨rfl, rfl, Nat.le_of_ble_eq_true rfl, Nat.le_of_ble_eq_true rfl, Nat.le_of_ble_eq_true rfl, Nat.le_of_ble_eq_true rfl⟩) (fun r12 σ11 => ?_)
          exact gz_zret C rfl dX9_feast_84
      · skip
        refine gz_if_eq (tgt := 52) C dX9_feast_31 (by decide) ?_ ?_
        · skip
          exact hj52 σ3
        · skip
          refine gz_aload_n C dX9_feast_34 0 rfl ?_
          refine gz_get C (t := 0) (k := 0) (ci := 9) (q := (RX9, TX9, 11)) (v := .ref (gz_ad false G 1 0)) dX9_feast_35 fl_RX9_12 (gz_hx0 _) rfl rfl (by decide) rfl ?_
          refine gz_getN C (t := 1) (k := 1) (ci := 2) (q := (RX2, TX2, 2)) (v := .int (σ3.1 1 0 1)) dX9_feast_38 fl_RX9_78 (gz_hx1 _) rfl rfl (by decide) rfl ?_
          refine gz_bipush C dX9_feast_41 gk_bipush_60 ?_
          refine gz_icmp_lt (tgt := 52) C dX9_feast_43 (by decide) ?_ ?_
          · skip
            exact hj52 σ3
          · skip
            refine gz_aload_n C dX9_feast_46 0 rfl ?_
            refine gz_iconst C dX9_feast_47 gk_iconst_3 ?_
            refine gz_ki (gz_runV (t := 0) (ci := 9) (q := (RX9, TX9, 11)) (As := [.int 3]) (rest := []) C dX9_feast_48 ml_RX9_68 mw_X9_refusal mv_X9_refusal (c_X9_refusal l G 3 σ3) (gz_hx0 _) rfl rfl rfl rfl rfl (Nat.le_of_ble_eq_true rfl) ⟨rfl, rfl, Nat.le_of_ble_eq_true rfl, Nat.le_of_ble_eq_true rfl, Nat.le_of_ble_eq_true rfl, Nat.le_of_ble_eq_true rfl⟩) (fun r14 σ13 => ?_)
            exact gz_zret C rfl dX9_feast_51
    · skip
      refine gz_aload_n C dX9_feast_25 0 rfl ?_
      refine gz_ki (gz_runV (t := 0) (ci := 9) (q := (RX9, TX9, 11)) (As := []) (rest := []) C dX9_feast_26 ml_RX9_74 mw_X9_acceptance mv_X9_acceptance (c_X9_acceptance l G σ3) (gz_hx0 _) rfl rfl rfl rfl rfl (Nat.le_of_ble_eq_true rfl) ⟨rfl, rfl, Nat.le_of_ble_eq_true rfl, Nat.le_of_ble_eq_true rfl, Nat.le_of_ble_eq_true rfl, Nat.le_of_ble_eq_true rfl⟩) (fun r16 σ15 => ?_)
      exact gz_zret C rfl dX9_feast_29
  · skip
    refine gz_aload_n C dX9_feast_7 0 rfl ?_
    refine gz_iconst C dX9_feast_8 gk_iconst_2 ?_
    refine gz_ki (gz_runV (t := 0) (ci := 9) (q := (RX9, TX9, 11)) (As := [.int 2]) (rest := []) C dX9_feast_9 ml_RX9_68 mw_X9_refusal mv_X9_refusal (c_X9_refusal l G 2 σ1) (gz_hx0 _) rfl rfl rfl rfl rfl (Nat.le_of_ble_eq_true rfl) ⟨rfl, rfl, Nat.le_of_ble_eq_true rfl, Nat.le_of_ble_eq_true rfl, Nat.le_of_ble_eq_true rfl, Nat.le_of_ble_eq_true rfl⟩) (fun r18 σ17 => ?_)
    exact gz_zret C rfl dX9_feast_12

def f_X9_accepted (a1 : Int32) (σ : gz_S) : Option (Int32 × gz_S) :=
  gz_w (gz_si σ 0 0 10 0) (fun σ1 =>
  some (a1, σ1))
set_option maxHeartbeats 4000000 in
set_option maxRecDepth 100000 in
theorem c_X9_accepted (l : Launch) (G : gz_G) (a1 : Int32) (σ : gz_S) : ∀ o, f_X9_accepted a1 σ = some o → gz_M l false G yX9_accepted cX9_accepted 2 (some .int) { frames := 0, cells := 0, slots := 0, locals := 0 } [.ref (gz_ad false G 0 0), .int a1] σ (gz_ei o) 0 0 := by
  refine gz_enter RX9 rfl (by decide) (Nat.le_of_ble_eq_true rfl) ?_
  intro p e s m args below meth c C
  refine gz_eqs (st' := []) (lv' := [(0, .ref (gz_ad false G 0 0)), (1, .int a1)]) rfl rfl ?_
  unfold f_X9_accepted
  refine gz_aload_n C dX9_accepted_0 0 rfl ?_
  refine gz_iconst C dX9_accepted_1 gk_iconst_0 ?_
  refine gz_putI C (t := 0) (k := 10) (ci := 9) (q := (RX9, TX9, 11)) dX9_accepted_2 fl_RX9_151 (gz_hx0 _) rfl rfl (by decide) rfl rfl rfl rfl ?_
  refine gz_w_row (fun σ1 => ?_)
  refine gz_iload_n C dX9_accepted_5 1 rfl ?_
  exact gz_iret C rfl dX9_accepted_6

def f_X9_refused (a1 : Int32) (σ : gz_S) : Option (Int32 × gz_S) :=
  gz_w (gz_si σ 0 0 10 a1) (fun σ1 =>
  some ((-1), σ1))
set_option maxHeartbeats 4000000 in
set_option maxRecDepth 100000 in
theorem c_X9_refused (l : Launch) (G : gz_G) (a1 : Int32) (σ : gz_S) : ∀ o, f_X9_refused a1 σ = some o → gz_M l false G yX9_refused cX9_refused 2 (some .int) { frames := 0, cells := 0, slots := 0, locals := 0 } [.ref (gz_ad false G 0 0), .int a1] σ (gz_ei o) 0 0 := by
  refine gz_enter RX9 rfl (by decide) (Nat.le_of_ble_eq_true rfl) ?_
  intro p e s m args below meth c C
  refine gz_eqs (st' := []) (lv' := [(0, .ref (gz_ad false G 0 0)), (1, .int a1)]) rfl rfl ?_
  unfold f_X9_refused
  refine gz_aload_n C dX9_refused_0 0 rfl ?_
  refine gz_iload_n C dX9_refused_1 1 rfl ?_
  refine gz_putI C (t := 0) (k := 10) (ci := 9) (q := (RX9, TX9, 11)) dX9_refused_2 fl_RX9_151 (gz_hx0 _) rfl rfl (by decide) rfl rfl rfl rfl ?_
  refine gz_w_row (fun σ1 => ?_)
  refine gz_iconst C dX9_refused_5 gk_iconst_m1 ?_
  exact gz_iret C rfl dX9_refused_6

def f_X9_working (a1 : Int32) (σ : gz_S) : Option (Int32 × gz_S) :=
  gz_call (f_X9_isDay a1 σ) (fun r2 σ1 =>
  if r2 = 0 then
  (gz_call (f_X9_refused 2 σ1) (fun r10 σ9 =>
  some (r10, σ9)))
  else
  (gz_call (f_X2_isWorking a1 σ1) (fun r4 σ3 =>
  if r4 = 0 then
  (gz_call (f_X9_accepted 0 σ3) (fun r6 σ5 =>
  some (r6, σ5)))
  else
  (gz_call (f_X9_accepted 1 σ3) (fun r8 σ7 =>
  some (r8, σ7))))))
set_option maxHeartbeats 4000000 in
set_option maxRecDepth 100000 in
theorem c_X9_working (l : Launch) (G : gz_G) (a1 : Int32) (σ : gz_S) : ∀ o, f_X9_working a1 σ = some o → gz_M l false G yX9_working cX9_working 2 (some .int) { frames := 2, cells := 0, slots := 0, locals := 43 } [.ref (gz_ad false G 0 0), .int a1] σ (gz_ei o) 0 0 := by
  refine gz_enter RX9 rfl (by decide) (Nat.le_of_ble_eq_true rfl) ?_
  intro p e s m args below meth c C
  refine gz_eqs (st' := []) (lv' := [(0, .ref (gz_ad false G 0 0)), (1, .int a1)]) rfl rfl ?_
  unfold f_X9_working
  refine gz_iload_n C dX9_working_0 1 rfl ?_
  refine gz_ki (gz_runS (As := [.int a1]) (rest := []) C dX9_working_1 ml_RX9_64 mw_X9_isDay ms_X9_isDay (c_X9_isDay l G a1 σ) rfl rfl (Nat.le_of_ble_eq_true rfl) ⟨rfl, rfl, Nat.le_of_ble_eq_true rfl, Nat.le_of_ble_eq_true rfl, Nat.le_of_ble_eq_true rfl, Nat.le_of_ble_eq_true rfl⟩) (fun r2 σ1 => ?_)
  refine gz_if_ne (tgt := 13) C dX9_working_4 (by decide) ?_ ?_
  · skip
    refine gz_aload_n C dX9_working_13 0 rfl ?_
    refine gz_aload_n C dX9_working_14 0 rfl ?_
    refine gz_get C (t := 0) (k := 0) (ci := 9) (q := (RX9, TX9, 11)) (v := .ref (gz_ad false G 1 0)) dX9_working_15 fl_RX9_12 (gz_hx0 _) rfl rfl (by decide) rfl ?_
    refine gz_iload_n C dX9_working_18 1 rfl ?_
    refine gz_ki (gz_runV (t := 1) (ci := 2) (q := (RX2, TX2, 2)) (As := [.int a1]) (rest := [.ref (gz_ad false G 0 0)]) C dX9_working_19 ml_RX9_93 mw_X2_isWorking mv_X2_isWorking (c_X2_isWorking l G a1 σ1) (gz_hx1 _) rfl rfl rfl rfl rfl (Nat.le_of_ble_eq_true rfl) ⟨rfl, rfl, Nat.le_of_ble_eq_true rfl, Nat.le_of_ble_eq_true rfl, Nat.le_of_ble_eq_true rfl, Nat.le_of_ble_eq_true rfl⟩) (fun r4 σ3 => ?_)
    refine gz_if_eq (tgt := 29) C dX9_working_22 (by decide) ?_ ?_
    · skip
      refine gz_iconst C dX9_working_29 gk_iconst_0 ?_
      refine gz_ki (gz_runV (t := 0) (ci := 9) (q := (RX9, TX9, 11)) (As := [.int 0]) (rest := []) C dX9_working_30 ml_RX9_96 mw_X9_accepted mv_X9_accepted (c_X9_accepted l G 0 σ3) (gz_hx0 _) rfl rfl rfl rfl rfl (Nat.le_of_ble_eq_true rfl) ⟨rfl, rfl, Nat.le_of_ble_eq_true rfl, Nat.le_of_ble_eq_true rfl, Nat.le_of_ble_eq_true rfl, Nat.le_of_ble_eq_true rfl⟩) (fun r6 σ5 => ?_)
      exact gz_iret C rfl dX9_working_33
    · skip
      refine gz_iconst C dX9_working_25 gk_iconst_1 ?_
      refine gz_goto (tgt := 30) C dX9_working_26 (by decide) ?_
      refine gz_ki (gz_runV (t := 0) (ci := 9) (q := (RX9, TX9, 11)) (As := [.int 1]) (rest := []) C dX9_working_30 ml_RX9_96 mw_X9_accepted mv_X9_accepted (c_X9_accepted l G 1 σ3) (gz_hx0 _) rfl rfl rfl rfl rfl (Nat.le_of_ble_eq_true rfl) ⟨rfl, rfl, Nat.le_of_ble_eq_true rfl, Nat.le_of_ble_eq_true rfl, Nat.le_of_ble_eq_true rfl, Nat.le_of_ble_eq_true rfl⟩) (fun r8 σ7 => ?_)
      exact gz_iret C rfl dX9_working_33
  · skip
    refine gz_aload_n C dX9_working_7 0 rfl ?_
    refine gz_iconst C dX9_working_8 gk_iconst_2 ?_
    refine gz_ki (gz_runV (t := 0) (ci := 9) (q := (RX9, TX9, 11)) (As := [.int 2]) (rest := []) C dX9_working_9 ml_RX9_89 mw_X9_refused mv_X9_refused (c_X9_refused l G 2 σ1) (gz_hx0 _) rfl rfl rfl rfl rfl (Nat.le_of_ble_eq_true rfl) ⟨rfl, rfl, Nat.le_of_ble_eq_true rfl, Nat.le_of_ble_eq_true rfl, Nat.le_of_ble_eq_true rfl, Nat.le_of_ble_eq_true rfl⟩) (fun r10 σ9 => ?_)
    exact gz_iret C rfl dX9_working_12

def f_X9_after (a1 : Int32) (a2 : Int32) (a3 : Int32) (σ : gz_S) : Option (Int32 × gz_S) :=
  gz_call (f_X9_isDay a1 σ) (fun r2 σ1 =>
  if r2 = 0 then
  (gz_call (f_X9_refused 2 σ1) (fun r4 σ3 =>
  some (r4, σ3)))
  else
  (if a2 < 0 then
  (gz_call (f_X9_refused 2 σ1) (fun r6 σ5 =>
  some (r6, σ5)))
  else
  (if a2 ≤ 9999 then
  (gz_call (f_X2_behind a1 a2 a3 σ1) (fun r8 σ7 =>
  gz_call (f_X9_accepted r8 σ7) (fun r10 σ9 =>
  some (r10, σ9))))
  else
  (gz_call (f_X9_refused 2 σ1) (fun r12 σ11 =>
  some (r12, σ11))))))
set_option maxHeartbeats 4000000 in
set_option maxRecDepth 100000 in
theorem c_X9_after (l : Launch) (G : gz_G) (a1 : Int32) (a2 : Int32) (a3 : Int32) (σ : gz_S) : ∀ o, f_X9_after a1 a2 a3 σ = some o → gz_M l false G yX9_after cX9_after 4 (some .int) { frames := 4, cells := 0, slots := 0, locals := 90 } [.ref (gz_ad false G 0 0), .int a1, .int a2, .int a3] σ (gz_ei o) 0 0 := by
  refine gz_enter RX9 rfl (by decide) (Nat.le_of_ble_eq_true rfl) ?_
  intro p e s m args below meth c C
  refine gz_eqs (st' := []) (lv' := [(0, .ref (gz_ad false G 0 0)), (1, .int a1), (2, .int a2), (3, .int a3)]) rfl rfl ?_
  unfold f_X9_after
  refine gz_iload_n C dX9_after_0 1 rfl ?_
  refine gz_ki (gz_runS (As := [.int a1]) (rest := []) C dX9_after_1 ml_RX9_64 mw_X9_isDay ms_X9_isDay (c_X9_isDay l G a1 σ) rfl rfl (Nat.le_of_ble_eq_true rfl) ⟨rfl, rfl, Nat.le_of_ble_eq_true rfl, Nat.le_of_ble_eq_true rfl, Nat.le_of_ble_eq_true rfl, Nat.le_of_ble_eq_true rfl⟩) (fun r2 σ1 => ?_)
  refine gz_if_eq (tgt := 18) C dX9_after_4 (by decide) ?_ ?_
  · skip
    refine gz_aload_n C dX9_after_18 0 rfl ?_
    refine gz_iconst C dX9_after_19 gk_iconst_2 ?_
    refine gz_ki (gz_runV (t := 0) (ci := 9) (q := (RX9, TX9, 11)) (As := [.int 2]) (rest := []) C dX9_after_20 ml_RX9_89 mw_X9_refused mv_X9_refused (c_X9_refused l G 2 σ1) (gz_hx0 _) rfl rfl rfl rfl rfl (Nat.le_of_ble_eq_true rfl) ⟨rfl, rfl, Nat.le_of_ble_eq_true rfl, Nat.le_of_ble_eq_true rfl, Nat.le_of_ble_eq_true rfl, Nat.le_of_ble_eq_true rfl⟩) (fun r4 σ3 => ?_)
    exact gz_iret C rfl dX9_after_23
  · skip
    refine gz_iload_n C dX9_after_7 2 rfl ?_
    refine gz_if_lt (tgt := 18) C dX9_after_8 (by decide) ?_ ?_
    · skip
      refine gz_aload_n C dX9_after_18 0 rfl ?_
      refine gz_iconst C dX9_after_19 gk_iconst_2 ?_
      refine gz_ki (gz_runV (t := 0) (ci := 9) (q := (RX9, TX9, 11)) (As := [.int 2]) (rest := []) C dX9_after_20 ml_RX9_89 mw_X9_refused mv_X9_refused (c_X9_refused l G 2 σ1) (gz_hx0 _) rfl rfl rfl rfl rfl (Nat.le_of_ble_eq_true rfl) ⟨rfl, rfl, Nat.le_of_ble_eq_true rfl, Nat.le_of_ble_eq_true rfl, Nat.le_of_ble_eq_true rfl, Nat.le_of_ble_eq_true rfl⟩) (fun r6 σ5 => ?_)
      exact gz_iret C rfl dX9_after_23
    · skip
      refine gz_iload_n C dX9_after_11 2 rfl ?_
      refine gz_sipush C dX9_after_12 gk_sipush_9999 ?_
      refine gz_icmp_le (tgt := 24) C dX9_after_15 (by decide) ?_ ?_
      · skip
        refine gz_aload_n C dX9_after_24 0 rfl ?_
        refine gz_aload_n C dX9_after_25 0 rfl ?_
        refine gz_get C (t := 0) (k := 0) (ci := 9) (q := (RX9, TX9, 11)) (v := .ref (gz_ad false G 1 0)) dX9_after_26 fl_RX9_12 (gz_hx0 _) rfl rfl (by decide) rfl ?_
        refine gz_iload_n C dX9_after_29 1 rfl ?_
        refine gz_iload_n C dX9_after_30 2 rfl ?_
        refine gz_iload_n C dX9_after_31 3 rfl ?_
        refine gz_ki (gz_runV (t := 1) (ci := 2) (q := (RX2, TX2, 2)) (As := [.int a1, .int a2, .int a3]) (rest := [.ref (gz_ad false G 0 0)]) C dX9_after_32 ml_RX9_99 mw_X2_behind mv_X2_behind (c_X2_behind l G a1 a2 a3 σ1) (gz_hx1 _) rfl rfl rfl rfl rfl (Nat.le_of_ble_eq_true rfl) ⟨rfl, rfl, Nat.le_of_ble_eq_true rfl, Nat.le_of_ble_eq_true rfl, Nat.le_of_ble_eq_true rfl, Nat.le_of_ble_eq_true rfl⟩) (fun r8 σ7 => ?_)
        refine gz_ki (gz_runV (t := 0) (ci := 9) (q := (RX9, TX9, 11)) (As := [.int r8]) (rest := []) C dX9_after_35 ml_RX9_96 mw_X9_accepted mv_X9_accepted (c_X9_accepted l G r8 σ7) (gz_hx0 _) rfl rfl rfl rfl rfl (Nat.le_of_ble_eq_true rfl) ⟨rfl, rfl, Nat.le_of_ble_eq_true rfl, Nat.le_of_ble_eq_true rfl, Nat.le_of_ble_eq_true rfl, Nat.le_of_ble_eq_true rfl⟩) (fun r10 σ9 => ?_)
        exact gz_iret C rfl dX9_after_38
      · skip
        refine gz_aload_n C dX9_after_18 0 rfl ?_
        refine gz_iconst C dX9_after_19 gk_iconst_2 ?_
        refine gz_ki (gz_runV (t := 0) (ci := 9) (q := (RX9, TX9, 11)) (As := [.int 2]) (rest := []) C dX9_after_20 ml_RX9_89 mw_X9_refused mv_X9_refused (c_X9_refused l G 2 σ1) (gz_hx0 _) rfl rfl rfl rfl rfl (Nat.le_of_ble_eq_true rfl) ⟨rfl, rfl, Nat.le_of_ble_eq_true rfl, Nat.le_of_ble_eq_true rfl, Nat.le_of_ble_eq_true rfl, Nat.le_of_ble_eq_true rfl⟩) (fun r12 σ11 => ?_)
        exact gz_iret C rfl dX9_after_23

def f_X9_feed (a1 : Int32) (a2 : Int32) (a3 : Int32) (a4 : Int32) (a5 : Int32) (σ : gz_S) : Option (Int32 × gz_S) :=
  if ((σ.1 3 0 1) + 20) ≤ 400 then
  (gz_then (f_X8_put a1 σ) (fun σ1 =>
  gz_then (f_X8_put a2 σ1) (fun σ2 =>
  gz_then (f_X8_put a3 σ2) (fun σ3 =>
  gz_then (f_X8_put a4 σ3) (fun σ4 =>
  gz_then (f_X8_put a5 σ4) (fun σ5 =>
  some (σ5.1 3 0 1, σ5)))))))
  else
  (some ((-1), σ))
set_option maxHeartbeats 4000000 in
set_option maxRecDepth 100000 in
theorem c_X9_feed (l : Launch) (G : gz_G) (a1 : Int32) (a2 : Int32) (a3 : Int32) (a4 : Int32) (a5 : Int32) (σ : gz_S) : ∀ o, f_X9_feed a1 a2 a3 a4 a5 σ = some o → gz_M l false G yX9_feed cX9_feed 6 (some .int) { frames := 1, cells := 0, slots := 0, locals := 22 } [.ref (gz_ad false G 0 0), .int a1, .int a2, .int a3, .int a4, .int a5] σ (gz_ei o) 0 0 := by
  refine gz_enter RX9 rfl (by decide) (Nat.le_of_ble_eq_true rfl) ?_
  intro p e s m args below meth c C
  refine gz_eqs (st' := []) (lv' := [(0, .ref (gz_ad false G 0 0)), (1, .int a1), (2, .int a2), (3, .int a3), (4, .int a4), (5, .int a5)]) rfl rfl ?_
  unfold f_X9_feed
  refine gz_aload_n C dX9_feed_0 0 rfl ?_
  refine gz_get C (t := 0) (k := 1) (ci := 9) (q := (RX9, TX9, 11)) (v := .ref (gz_ad false G 3 0)) dX9_feed_1 fl_RX9_21 (gz_hx0 _) rfl rfl (by decide) rfl ?_
  refine gz_getN C (t := 3) (k := 1) (ci := 8) (q := (RX8, TX8, 11)) (v := .int (σ.1 3 0 1)) dX9_feed_4 fl_RX9_103 (gz_hx3 _) rfl rfl (by decide) rfl ?_
  refine gz_bipush C dX9_feed_7 gk_bipush_20 ?_
  refine gz_iadd C dX9_feed_9 ?_
  refine gz_sipush C dX9_feed_10 gk_sipush_400 ?_
  refine gz_icmp_le (tgt := 18) C dX9_feed_13 (by decide) ?_ ?_
  · skip
    refine gz_aload_n C dX9_feed_18 0 rfl ?_
    refine gz_get C (t := 0) (k := 1) (ci := 9) (q := (RX9, TX9, 11)) (v := .ref (gz_ad false G 3 0)) dX9_feed_19 fl_RX9_21 (gz_hx0 _) rfl rfl (by decide) rfl ?_
    refine gz_iload_n C dX9_feed_22 1 rfl ?_
    refine gz_kv (gz_runV (t := 3) (ci := 8) (q := (RX8, TX8, 11)) (As := [.int a1]) (rest := []) C dX9_feed_23 ml_RX9_106 mw_X8_put mv_X8_put (c_X8_put l G a1 σ) (gz_hx3 _) rfl rfl rfl rfl rfl (Nat.le_of_ble_eq_true rfl) ⟨rfl, rfl, Nat.le_of_ble_eq_true rfl, Nat.le_of_ble_eq_true rfl, Nat.le_of_ble_eq_true rfl, Nat.le_of_ble_eq_true rfl⟩) (fun σ1 => ?_)
    refine gz_aload_n C dX9_feed_26 0 rfl ?_
    refine gz_get C (t := 0) (k := 1) (ci := 9) (q := (RX9, TX9, 11)) (v := .ref (gz_ad false G 3 0)) dX9_feed_27 fl_RX9_21 (gz_hx0 _) rfl rfl (by decide) rfl ?_
    refine gz_iload_n C dX9_feed_30 2 rfl ?_
    refine gz_kv (gz_runV (t := 3) (ci := 8) (q := (RX8, TX8, 11)) (As := [.int a2]) (rest := []) C dX9_feed_31 ml_RX9_106 mw_X8_put mv_X8_put (c_X8_put l G a2 σ1) (gz_hx3 _) rfl rfl rfl rfl rfl (Nat.le_of_ble_eq_true rfl) ⟨rfl, rfl, Nat.le_of_ble_eq_true rfl, Nat.le_of_ble_eq_true rfl, Nat.le_of_ble_eq_true rfl, Nat.le_of_ble_eq_true rfl⟩) (fun σ2 => ?_)
    refine gz_aload_n C dX9_feed_34 0 rfl ?_
    refine gz_get C (t := 0) (k := 1) (ci := 9) (q := (RX9, TX9, 11)) (v := .ref (gz_ad false G 3 0)) dX9_feed_35 fl_RX9_21 (gz_hx0 _) rfl rfl (by decide) rfl ?_
    refine gz_iload_n C dX9_feed_38 3 rfl ?_
    refine gz_kv (gz_runV (t := 3) (ci := 8) (q := (RX8, TX8, 11)) (As := [.int a3]) (rest := []) C dX9_feed_39 ml_RX9_106 mw_X8_put mv_X8_put (c_X8_put l G a3 σ2) (gz_hx3 _) rfl rfl rfl rfl rfl (Nat.le_of_ble_eq_true rfl) ⟨rfl, rfl, Nat.le_of_ble_eq_true rfl, Nat.le_of_ble_eq_true rfl, Nat.le_of_ble_eq_true rfl, Nat.le_of_ble_eq_true rfl⟩) (fun σ3 => ?_)
    refine gz_aload_n C dX9_feed_42 0 rfl ?_
    refine gz_get C (t := 0) (k := 1) (ci := 9) (q := (RX9, TX9, 11)) (v := .ref (gz_ad false G 3 0)) dX9_feed_43 fl_RX9_21 (gz_hx0 _) rfl rfl (by decide) rfl ?_
    refine gz_iload C dX9_feed_46 4 rfl ?_
    refine gz_kv (gz_runV (t := 3) (ci := 8) (q := (RX8, TX8, 11)) (As := [.int a4]) (rest := []) C dX9_feed_48 ml_RX9_106 mw_X8_put mv_X8_put (c_X8_put l G a4 σ3) (gz_hx3 _) rfl rfl rfl rfl rfl (Nat.le_of_ble_eq_true rfl) ⟨rfl, rfl, Nat.le_of_ble_eq_true rfl, Nat.le_of_ble_eq_true rfl, Nat.le_of_ble_eq_true rfl, Nat.le_of_ble_eq_true rfl⟩) (fun σ4 => ?_)
    refine gz_aload_n C dX9_feed_51 0 rfl ?_
    refine gz_get C (t := 0) (k := 1) (ci := 9) (q := (RX9, TX9, 11)) (v := .ref (gz_ad false G 3 0)) dX9_feed_52 fl_RX9_21 (gz_hx0 _) rfl rfl (by decide) rfl ?_
    refine gz_iload C dX9_feed_55 5 rfl ?_
    refine gz_kv (gz_runV (t := 3) (ci := 8) (q := (RX8, TX8, 11)) (As := [.int a5]) (rest := []) C dX9_feed_57 ml_RX9_106 mw_X8_put mv_X8_put (c_X8_put l G a5 σ4) (gz_hx3 _) rfl rfl rfl rfl rfl (Nat.le_of_ble_eq_true rfl) ⟨rfl, rfl, Nat.le_of_ble_eq_true rfl, Nat.le_of_ble_eq_true rfl, Nat.le_of_ble_eq_true rfl, Nat.le_of_ble_eq_true rfl⟩) (fun σ5 => ?_)
    refine gz_aload_n C dX9_feed_60 0 rfl ?_
    refine gz_get C (t := 0) (k := 1) (ci := 9) (q := (RX9, TX9, 11)) (v := .ref (gz_ad false G 3 0)) dX9_feed_61 fl_RX9_21 (gz_hx0 _) rfl rfl (by decide) rfl ?_
    refine gz_getN C (t := 3) (k := 1) (ci := 8) (q := (RX8, TX8, 11)) (v := .int (σ5.1 3 0 1)) dX9_feed_64 fl_RX9_103 (gz_hx3 _) rfl rfl (by decide) rfl ?_
    exact gz_iret C rfl dX9_feed_67
  · skip
    refine gz_iconst C dX9_feed_16 gk_iconst_m1 ?_
    exact gz_iret C rfl dX9_feed_17

def f_X9_form (a1 : Int32) (σ : gz_S) : Option (Int32 × gz_S) :=
  gz_call (f_X8_holds a1 σ) (fun r2 σ1 =>
  if r2 = 0 then
  (gz_call (f_X9_refused 2 σ1) (fun r17 σ16 =>
  some (r17, σ16)))
  else
  (gz_then (f_X8_start a1 σ1) (fun σ3 =>
  gz_ix (σ3.1 0 0 3) 13 (fun n4 =>
  gz_call (f_X4_readAll n4 σ3) (fun r6 σ5 =>
  gz_w (gz_si σ5 3 0 1 0) (fun σ7 =>
  if r6 = 0 then
  (gz_call (f_X9_refused 4 σ7) (fun r15 σ14 =>
  some (r15, σ14)))
  else
  (if (σ7.1 0 0 3) < 12 then
  (gz_then (f_X0_push 1 (σ7.1 0 0 3) 0 0 σ7) (fun σ8 =>
  gz_w (gz_si σ8 0 0 3 ((σ8.1 0 0 3) + 1)) (fun σ9 =>
  gz_call (f_X9_accepted ((σ9.1 0 0 3) - 1) σ9) (fun r11 σ10 =>
  some (r11, σ10)))))
  else
  (gz_call (f_X9_refused 3 σ7) (fun r13 σ12 =>
  some (r13, σ12))))))))))
set_option maxHeartbeats 4000000 in
set_option maxRecDepth 100000 in
theorem c_X9_form (l : Launch) (G : gz_G) (a1 : Int32) (σ : gz_S) : ∀ o, f_X9_form a1 σ = some o → gz_M l false G yX9_form cX9_form 3 (some .int) { frames := 6, cells := 0, slots := 0, locals := 136 } [.ref (gz_ad false G 0 0), .int a1] σ (gz_ei o) 0 0 := by
  refine gz_enter RX9 rfl (by decide) (Nat.le_of_ble_eq_true rfl) ?_
  intro p e s m args below meth c C
  refine gz_eqs (st' := []) (lv' := [(0, .ref (gz_ad false G 0 0)), (1, .int a1)]) rfl rfl ?_
  unfold f_X9_form
  refine gz_aload_n C dX9_form_0 0 rfl ?_
  refine gz_get C (t := 0) (k := 1) (ci := 9) (q := (RX9, TX9, 11)) (v := .ref (gz_ad false G 3 0)) dX9_form_1 fl_RX9_21 (gz_hx0 _) rfl rfl (by decide) rfl ?_
  refine gz_iload_n C dX9_form_4 1 rfl ?_
  refine gz_ki (gz_runV (t := 3) (ci := 8) (q := (RX8, TX8, 11)) (As := [.int a1]) (rest := []) C dX9_form_5 ml_RX9_110 mw_X8_holds mv_X8_holds (c_X8_holds l G a1 σ) (gz_hx3 _) rfl rfl rfl rfl rfl (Nat.le_of_ble_eq_true rfl) ⟨rfl, rfl, Nat.le_of_ble_eq_true rfl, Nat.le_of_ble_eq_true rfl, Nat.le_of_ble_eq_true rfl, Nat.le_of_ble_eq_true rfl⟩) (fun r2 σ1 => ?_)
  refine gz_if_ne (tgt := 17) C dX9_form_8 (by decide) ?_ ?_
  · skip
    refine gz_aload_n C dX9_form_17 0 rfl ?_
    refine gz_get C (t := 0) (k := 1) (ci := 9) (q := (RX9, TX9, 11)) (v := .ref (gz_ad false G 3 0)) dX9_form_18 fl_RX9_21 (gz_hx0 _) rfl rfl (by decide) rfl ?_
    refine gz_iload_n C dX9_form_21 1 rfl ?_
    refine gz_kv (gz_runV (t := 3) (ci := 8) (q := (RX8, TX8, 11)) (As := [.int a1]) (rest := []) C dX9_form_22 ml_RX9_113 mw_X8_start mv_X8_start (c_X8_start l G a1 σ1) (gz_hx3 _) rfl rfl rfl rfl rfl (Nat.le_of_ble_eq_true rfl) ⟨rfl, rfl, Nat.le_of_ble_eq_true rfl, Nat.le_of_ble_eq_true rfl, Nat.le_of_ble_eq_true rfl, Nat.le_of_ble_eq_true rfl⟩) (fun σ3 => ?_)
    refine gz_aload_n C dX9_form_25 0 rfl ?_
    refine gz_get C (t := 0) (k := 2) (ci := 9) (q := (RX9, TX9, 11)) (v := .ref (gz_ad false G 5 0)) dX9_form_26 fl_RX9_27 (gz_hx0 _) rfl rfl (by decide) rfl ?_
    refine gz_aload_n C dX9_form_29 0 rfl ?_
    refine gz_get C (t := 0) (k := 3) (ci := 9) (q := (RX9, TX9, 11)) (v := .int (σ3.1 0 0 3)) dX9_form_30 fl_RX9_116 (gz_hx0 _) rfl rfl (by decide) rfl ?_
    refine gz_aald5 C (t := 5) dX9_form_33 (gz_hx5 _) rfl (fun n4 hn4 => ?_)
    refine gz_aload_n C dX9_form_34 0 rfl ?_
    refine gz_get C (t := 0) (k := 1) (ci := 9) (q := (RX9, TX9, 11)) (v := .ref (gz_ad false G 3 0)) dX9_form_35 fl_RX9_21 (gz_hx0 _) rfl rfl (by decide) rfl ?_
    refine gz_ki (gz_runV (t := 6) (ci := 4) (q := (RX4, TX4, 2)) (As := [.ref (gz_ad false G 3 0)]) (rest := []) C dX9_form_38 ml_RX9_119 mw_X4_readAll mv_X4_readAll (c_X4_readAll l G n4 hn4 σ3) (gz_hx6 _ hn4) rfl rfl rfl rfl rfl (Nat.le_of_ble_eq_true rfl) ⟨rfl, rfl, Nat.le_of_ble_eq_true rfl, Nat.le_of_ble_eq_true rfl, Nat.le_of_ble_eq_true rfl, Nat.le_of_ble_eq_true rfl⟩) (fun r6 σ5 => ?_)
    refine gz_istore_n C (lv' := [(2, .int r6), (0, .ref (gz_ad false G 0 0)), (1, .int a1)]) dX9_form_41 (by decide) rfl ?_
    refine gz_aload_n C dX9_form_42 1 rfl ?_
    refine gz_get C (t := 0) (k := 1) (ci := 9) (q := (RX9, TX9, 11)) (v := .ref (gz_ad false G 3 0)) dX9_form_43 fl_RX9_21 (gz_hx0 _) rfl rfl (by decide) rfl ?_
    refine gz_iconst C dX9_form_46 gk_iconst_0 ?_
    refine gz_putIN C (t := 3) (k := 1) (ci := 8) (q := (RX8, TX8, 11)) dX9_form_47 fl_RX9_103 (gz_hx3 _) rfl rfl (by decide) rfl rfl rfl rfl ?_
    refine gz_w_row (fun σ7 => ?_)
    refine gz_iload_n C dX9_form_50 0 rfl ?_
    refine gz_if_ne (tgt := 60) C dX9_form_51 (by decide) ?_ ?_
    · skip
      refine gz_aload_n C dX9_form_60 1 rfl ?_
      refine gz_get C (t := 0) (k := 3) (ci := 9) (q := (RX9, TX9, 11)) (v := .int (σ7.1 0 0 3)) dX9_form_61 fl_RX9_116 (gz_hx0 _) rfl rfl (by decide) rfl ?_
      refine gz_bipush C dX9_form_64 gk_bipush_12 ?_
      refine gz_icmp_lt (tgt := 75) C dX9_form_66 (by decide) ?_ ?_
      · skip
        refine gz_aload_n C dX9_form_75 1 rfl ?_
        refine gz_get C (t := 0) (k := 9) (ci := 9) (q := (RX9, TX9, 11)) (v := .ref (gz_ad false G 26 0)) dX9_form_76 fl_RX9_60 (gz_hx0 _) rfl rfl (by decide) rfl ?_
        refine gz_iconst C dX9_form_79 gk_iconst_1 ?_
        refine gz_aload_n C dX9_form_80 1 rfl ?_
        refine gz_get C (t := 0) (k := 3) (ci := 9) (q := (RX9, TX9, 11)) (v := .int (σ7.1 0 0 3)) dX9_form_81 fl_RX9_116 (gz_hx0 _) rfl rfl (by decide) rfl ?_
        refine gz_lconst C dX9_form_84 gk_lconst_0 ?_
        refine gz_lconst C dX9_form_85 gk_lconst_0 ?_
        refine gz_kv (gz_runV (t := 26) (ci := 0) (q := (RX0, TX0, 10)) (As := [.int 1, .int (σ7.1 0 0 3), .long 0, .long 0]) (rest := []) C dX9_form_86 ml_RX9_85 mw_X0_push mv_X0_push (c_X0_push l G 1 (σ7.1 0 0 3) 0 0 σ7) (gz_hx26 _) rfl rfl rfl rfl rfl (Nat.le_of_ble_eq_true rfl) ⟨rfl, rfl, Nat.le_of_ble_eq_true rfl, Nat.le_of_ble_eq_true rfl, Nat.le_of_ble_eq_true rfl, Nat.le_of_ble_eq_true rfl⟩) (fun σ8 => ?_)
        refine gz_aload_n C dX9_form_89 1 rfl ?_
        refine gz_dup C dX9_form_90 rfl ?_
        refine gz_get C (t := 0) (k := 3) (ci := 9) (q := (RX9, TX9, 11)) (v := .int (σ8.1 0 0 3)) dX9_form_91 fl_RX9_116 (gz_hx0 _) rfl rfl (by decide) rfl ?_
        refine gz_iconst C dX9_form_94 gk_iconst_1 ?_
        refine gz_iadd C dX9_form_95 ?_
        refine gz_putI C (t := 0) (k := 3) (ci := 9) (q := (RX9, TX9, 11)) dX9_form_96 fl_RX9_116 (gz_hx0 _) rfl rfl (by decide) rfl rfl rfl rfl ?_
        refine gz_w_row (fun σ9 => ?_)
        refine gz_aload_n C dX9_form_99 1 rfl ?_
        refine gz_aload_n C dX9_form_100 1 rfl ?_
        refine gz_get C (t := 0) (k := 3) (ci := 9) (q := (RX9, TX9, 11)) (v := .int (σ9.1 0 0 3)) dX9_form_101 fl_RX9_116 (gz_hx0 _) rfl rfl (by decide) rfl ?_
        refine gz_iconst C dX9_form_104 gk_iconst_1 ?_
        refine gz_isub C dX9_form_105 ?_
        refine gz_ki (gz_runV (t := 0) (ci := 9) (q := (RX9, TX9, 11)) (As := [.int ((σ9.1 0 0 3) - 1)]) (rest := []) C dX9_form_106 ml_RX9_96 mw_X9_accepted mv_X9_accepted (c_X9_accepted l G ((σ9.1 0 0 3) - 1) σ9) (gz_hx0 _) rfl rfl rfl rfl rfl (Nat.le_of_ble_eq_true rfl) ⟨rfl, rfl, Nat.le_of_ble_eq_true rfl, Nat.le_of_ble_eq_true rfl, Nat.le_of_ble_eq_true rfl, Nat.le_of_ble_eq_true rfl⟩) (fun r11 σ10 => ?_)
        exact gz_iret C rfl dX9_form_109
      · skip
        refine gz_aload_n C dX9_form_69 1 rfl ?_
        refine gz_iconst C dX9_form_70 gk_iconst_3 ?_
        refine gz_ki (gz_runV (t := 0) (ci := 9) (q := (RX9, TX9, 11)) (As := [.int 3]) (rest := []) C dX9_form_71 ml_RX9_89 mw_X9_refused mv_X9_refused (c_X9_refused l G 3 σ7) (gz_hx0 _) rfl rfl rfl rfl rfl (Nat.le_of_ble_eq_true rfl) ⟨rfl, rfl, Nat.le_of_ble_eq_true rfl, Nat.le_of_ble_eq_true rfl, Nat.le_of_ble_eq_true rfl, Nat.le_of_ble_eq_true rfl⟩) (fun r13 σ12 => ?_)
        exact gz_iret C rfl dX9_form_74
    · skip
      refine gz_aload_n C dX9_form_54 1 rfl ?_
      refine gz_iconst C dX9_form_55 gk_iconst_4 ?_
      refine gz_ki (gz_runV (t := 0) (ci := 9) (q := (RX9, TX9, 11)) (As := [.int 4]) (rest := []) C dX9_form_56 ml_RX9_89 mw_X9_refused mv_X9_refused (c_X9_refused l G 4 σ7) (gz_hx0 _) rfl rfl rfl rfl rfl (Nat.le_of_ble_eq_true rfl) ⟨rfl, rfl, Nat.le_of_ble_eq_true rfl, Nat.le_of_ble_eq_true rfl, Nat.le_of_ble_eq_true rfl, Nat.le_of_ble_eq_true rfl⟩) (fun r15 σ14 => ?_)
      exact gz_iret C rfl dX9_form_59
  · skip
    refine gz_aload_n C dX9_form_11 0 rfl ?_
    refine gz_iconst C dX9_form_12 gk_iconst_2 ?_
    refine gz_ki (gz_runV (t := 0) (ci := 9) (q := (RX9, TX9, 11)) (As := [.int 2]) (rest := []) C dX9_form_13 ml_RX9_89 mw_X9_refused mv_X9_refused (c_X9_refused l G 2 σ1) (gz_hx0 _) rfl rfl rfl rfl rfl (Nat.le_of_ble_eq_true rfl) ⟨rfl, rfl, Nat.le_of_ble_eq_true rfl, Nat.le_of_ble_eq_true rfl, Nat.le_of_ble_eq_true rfl, Nat.le_of_ble_eq_true rfl⟩) (fun r17 σ16 => ?_)
    exact gz_iret C rfl dX9_form_16

def f_X9_formAt (a1 : Int32) (σ : gz_S) : Option (Option Nat × gz_S) :=
  if a1 < 0 then
  (some (none, σ))
  else
  (if a1 < (σ.1 0 0 3) then
  (gz_ix a1 13 (fun n1 =>
  some ((some n1), σ)))
  else
  (some (none, σ)))
set_option maxHeartbeats 4000000 in
set_option maxRecDepth 100000 in
theorem c_X9_formAt (l : Launch) (G : gz_G) (a1 : Int32) (σ : gz_S) : ∀ o, f_X9_formAt a1 σ = some o → gz_M l false G yX9_formAt cX9_formAt 2 (some (.object "GazetteHouse$Form")) { frames := 0, cells := 0, slots := 0, locals := 0 } [.ref (gz_ad false G 0 0), .int a1] σ ((gz_er false G 6) o) 0 0 := by
  refine gz_enter RX9 rfl (by decide) (Nat.le_of_ble_eq_true rfl) ?_
  intro p e s m args below meth c C
  refine gz_eqs (st' := []) (lv' := [(0, .ref (gz_ad false G 0 0)), (1, .int a1)]) rfl rfl ?_
  unfold f_X9_formAt
  refine gz_iload_n C dX9_formAt_0 1 rfl ?_
  refine gz_if_lt (tgt := 12) C dX9_formAt_1 (by decide) ?_ ?_
  · skip
    refine gz_null C dX9_formAt_12 ?_
    refine gz_goto (tgt := 22) C dX9_formAt_13 (by decide) ?_
    exact gz_aret (t := 6) (r := none) C rfl dX9_formAt_22
  · skip
    refine gz_iload_n C dX9_formAt_4 1 rfl ?_
    refine gz_aload_n C dX9_formAt_5 0 rfl ?_
    refine gz_get C (t := 0) (k := 3) (ci := 9) (q := (RX9, TX9, 11)) (v := .int (σ.1 0 0 3)) dX9_formAt_6 fl_RX9_116 (gz_hx0 _) rfl rfl (by decide) rfl ?_
    refine gz_icmp_lt (tgt := 16) C dX9_formAt_9 (by decide) ?_ ?_
    · skip
      refine gz_aload_n C dX9_formAt_16 0 rfl ?_
      refine gz_get C (t := 0) (k := 2) (ci := 9) (q := (RX9, TX9, 11)) (v := .ref (gz_ad false G 5 0)) dX9_formAt_17 fl_RX9_27 (gz_hx0 _) rfl rfl (by decide) rfl ?_
      refine gz_iload_n C dX9_formAt_20 1 rfl ?_
      refine gz_aald5 C (t := 5) dX9_formAt_21 (gz_hx5 _) rfl (fun n1 hn1 => ?_)
      exact gz_aret (t := 6) (r := (some n1)) C rfl dX9_formAt_22
    · skip
      refine gz_null C dX9_formAt_12 ?_
      refine gz_goto (tgt := 22) C dX9_formAt_13 (by decide) ?_
      exact gz_aret (t := 6) (r := none) C rfl dX9_formAt_22

def f_X9_notice (a1 : Int32) (a2 : Int32) (a3 : Int32) (a4 : Int32) (σ : gz_S) : Option (Int32 × gz_S) :=
  gz_call (f_X9_formAt a1 σ) (fun r2 σ1 =>
  gz_nl r2 13 (gz_call (f_X9_refused 1 σ1) (fun r5 σ4 =>
  some (r5, σ4))) (fun i3 =>
  gz_call (f_X8_holds a2 σ1) (fun r7 σ6 =>
  if r7 = 0 then
  (gz_call (f_X9_refused 2 σ6) (fun r9 σ8 =>
  some (r9, σ8)))
  else
  (if a3 < 1 then
  (gz_call (f_X9_refused 2 σ6) (fun r11 σ10 =>
  some (r11, σ10)))
  else
  (if 60 < a3 then
  (gz_call (f_X9_refused 2 σ6) (fun r13 σ12 =>
  some (r13, σ12)))
  else
  (gz_call (f_X9_isDay a4 σ6) (fun r15 σ14 =>
  if r15 = 0 then
  (gz_call (f_X9_refused 2 σ14) (fun r33 σ32 =>
  some (r33, σ32)))
  else
  (gz_call (f_X1_fresh σ14) (fun r17 σ16 =>
  gz_nl r17 61 none (fun i18 =>
  gz_then (f_X6_begin i18 a1 a3 a4 σ16) (fun σ19 =>
  gz_then (f_X8_start a2 σ19) (fun σ20 =>
  gz_call (f_X4_readNotice i3 i18 σ20) (fun r22 σ21 =>
  gz_w (gz_si σ21 3 0 1 0) (fun σ23 =>
  if r22 = 0 then
  (gz_call (f_X9_refused 4 σ23) (fun r31 σ30 =>
  some (r31, σ30)))
  else
  (if (σ23.1 10 0 1) < 60 then
  (gz_then (f_X0_push 2 (σ23.1 10 0 1) 0 0 σ23) (fun σ24 =>
  gz_w (gz_si σ24 10 0 1 ((σ24.1 10 0 1) + 1)) (fun σ25 =>
  gz_call (f_X9_accepted ((σ25.1 10 0 1) - 1) σ25) (fun r27 σ26 =>
  some (r27, σ26)))))
  else
  (gz_call (f_X9_refused 3 σ23) (fun r29 σ28 =>
  some (r29, σ28))))))))))))))))))
set_option maxHeartbeats 4000000 in
set_option maxRecDepth 100000 in
theorem c_X9_notice (l : Launch) (G : gz_G) (a1 : Int32) (a2 : Int32) (a3 : Int32) (a4 : Int32) (σ : gz_S) : ∀ o, f_X9_notice a1 a2 a3 a4 σ = some o → gz_M l false G yX9_notice cX9_notice 8 (some .int) { frames := 5, cells := 0, slots := 0, locals := 113 } [.ref (gz_ad false G 0 0), .int a1, .int a2, .int a3, .int a4] σ (gz_ei o) 0 0 := by
  refine gz_enter RX9 rfl (by decide) (Nat.le_of_ble_eq_true rfl) ?_
  intro p e s m args below meth c C
  refine gz_eqs (st' := []) (lv' := [(0, .ref (gz_ad false G 0 0)), (1, .int a1), (2, .int a2), (3, .int a3), (4, .int a4)]) rfl rfl ?_
  unfold f_X9_notice
  refine gz_aload_n C dX9_notice_0 0 rfl ?_
  refine gz_iload_n C dX9_notice_1 1 rfl ?_
  refine gz_kr (t := 6) (gz_runV (t := 0) (ci := 9) (q := (RX9, TX9, 11)) (As := [.int a1]) (rest := []) C dX9_notice_2 ml_RX9_123 mw_X9_formAt mv_X9_formAt (c_X9_formAt l G a1 σ) (gz_hx0 _) rfl rfl rfl rfl rfl (Nat.le_of_ble_eq_true rfl) ⟨rfl, rfl, Nat.le_of_ble_eq_true rfl, Nat.le_of_ble_eq_true rfl, Nat.le_of_ble_eq_true rfl, Nat.le_of_ble_eq_true rfl⟩) (fun r2 σ1 => ?_)
  refine gz_astoreV C (lv' := [(5, gz_rv false G 6 r2), (0, .ref (gz_ad false G 0 0)), (1, .int a1), (2, .int a2), (3, .int a3), (4, .int a4)]) dX9_notice_5 (by decide) rfl (gz_rv_or _ _ _ _) ?_
  refine gz_aloadV C dX9_notice_7 0 rfl (gz_rv_or _ _ _ _) ?_
  refine gz_ifnonnull (tgt := 18) C dX9_notice_9 (by decide) (fun hr => ?_) (fun i3 hi3 hr => ?_)
  · subst hr
    refine gz_eqs (st' := []) (lv' := [(5, .null), (0, .ref (gz_ad false G 0 0)), (1, .int a1), (2, .int a2), (3, .int a3), (4, .int a4)]) rfl rfl ?_
    refine gz_aload_n C dX9_notice_12 1 rfl ?_
    refine gz_iconst C dX9_notice_13 gk_iconst_1 ?_
    refine gz_ki (gz_runV (t := 0) (ci := 9) (q := (RX9, TX9, 11)) (As := [.int 1]) (rest := []) C dX9_notice_14 ml_RX9_89 mw_X9_refused mv_X9_refused (c_X9_refused l G 1 σ1) (gz_hx0 _) rfl rfl rfl rfl rfl (Nat.le_of_ble_eq_true rfl) ⟨rfl, rfl, Nat.le_of_ble_eq_true rfl, Nat.le_of_ble_eq_true rfl, Nat.le_of_ble_eq_true rfl, Nat.le_of_ble_eq_true rfl⟩) (fun r5 σ4 => ?_)
    exact gz_iret C rfl dX9_notice_17
  · subst hr
    refine gz_eqs (st' := []) (lv' := [(5, .ref (gz_ad false G 6 i3)), (0, .ref (gz_ad false G 0 0)), (1, .int a1), (2, .int a2), (3, .int a3), (4, .int a4)]) rfl rfl ?_
    refine gz_aload_n C dX9_notice_18 1 rfl ?_
    refine gz_get C (t := 0) (k := 1) (ci := 9) (q := (RX9, TX9, 11)) (v := .ref (gz_ad false G 3 0)) dX9_notice_19 fl_RX9_21 (gz_hx0 _) rfl rfl (by decide) rfl ?_
    refine gz_iload_n C dX9_notice_22 3 rfl ?_
    refine gz_ki (gz_runV (t := 3) (ci := 8) (q := (RX8, TX8, 11)) (As := [.int a2]) (rest := []) C dX9_notice_23 ml_RX9_110 mw_X8_holds mv_X8_holds (c_X8_holds l G a2 σ1) (gz_hx3 _) rfl rfl rfl rfl rfl (Nat.le_of_ble_eq_true rfl) ⟨rfl, rfl, Nat.le_of_ble_eq_true rfl, Nat.le_of_ble_eq_true rfl, Nat.le_of_ble_eq_true rfl, Nat.le_of_ble_eq_true rfl⟩) (fun r7 σ6 => ?_)
    refine gz_if_eq (tgt := 48) C dX9_notice_26 (by decide) ?_ ?_
    · skip
      refine gz_aload_n C dX9_notice_48 1 rfl ?_
      refine gz_iconst C dX9_notice_49 gk_iconst_2 ?_
      refine gz_ki (gz_runV (t := 0) (ci := 9) (q := (RX9, TX9, 11)) (As := [.int 2]) (rest := []) C dX9_notice_50 ml_RX9_89 mw_X9_refused mv_X9_refused (c_X9_refused l G 2 σ6) (gz_hx0 _) rfl rfl rfl rfl rfl (Nat.le_of_ble_eq_true rfl) ⟨rfl, rfl, Nat.le_of_ble_eq_true rfl, Nat.le_of_ble_eq_true rfl, Nat.le_of_ble_eq_true rfl, Nat.le_of_ble_eq_true rfl⟩) (fun r9 σ8 => ?_)
      exact gz_iret C rfl dX9_notice_53
    · skip
      refine gz_iload_n C dX9_notice_29 4 rfl ?_
      refine gz_iconst C dX9_notice_30 gk_iconst_1 ?_
      refine gz_icmp_lt (tgt := 48) C dX9_notice_31 (by decide) ?_ ?_
      · skip
        refine gz_aload_n C dX9_notice_48 1 rfl ?_
        refine gz_iconst C dX9_notice_49 gk_iconst_2 ?_
        refine gz_ki (gz_runV (t := 0) (ci := 9) (q := (RX9, TX9, 11)) (As := [.int 2]) (rest := []) C dX9_notice_50 ml_RX9_89 mw_X9_refused mv_X9_refused (c_X9_refused l G 2 σ6) (gz_hx0 _) rfl rfl rfl rfl rfl (Nat.le_of_ble_eq_true rfl) ⟨rfl, rfl, Nat.le_of_ble_eq_true rfl, Nat.le_of_ble_eq_true rfl, Nat.le_of_ble_eq_true rfl, Nat.le_of_ble_eq_true rfl⟩) (fun r11 σ10 => ?_)
        exact gz_iret C rfl dX9_notice_53
      · skip
        refine gz_iload_n C dX9_notice_34 4 rfl ?_
        refine gz_bipush C dX9_notice_35 gk_bipush_60 ?_
        refine gz_icmp_gt (tgt := 48) C dX9_notice_37 (by decide) ?_ ?_
        · skip
          refine gz_aload_n C dX9_notice_48 1 rfl ?_
          refine gz_iconst C dX9_notice_49 gk_iconst_2 ?_
          refine gz_ki (gz_runV (t := 0) (ci := 9) (q := (RX9, TX9, 11)) (As := [.int 2]) (rest := []) C dX9_notice_50 ml_RX9_89 mw_X9_refused mv_X9_refused (c_X9_refused l G 2 σ6) (gz_hx0 _) rfl rfl rfl rfl rfl (Nat.le_of_ble_eq_true rfl) ⟨rfl, rfl, Nat.le_of_ble_eq_true rfl, Nat.le_of_ble_eq_true rfl, Nat.le_of_ble_eq_true rfl, Nat.le_of_ble_eq_true rfl⟩) (fun r13 σ12 => ?_)
          exact gz_iret C rfl dX9_notice_53
        · skip
          refine gz_iload C dX9_notice_40 5 rfl ?_
          refine gz_ki (gz_runS (As := [.int a4]) (rest := []) C dX9_notice_42 ml_RX9_64 mw_X9_isDay ms_X9_isDay (c_X9_isDay l G a4 σ6) rfl rfl (Nat.le_of_ble_eq_true rfl) ⟨rfl, rfl, Nat.le_of_ble_eq_true rfl, Nat.le_of_ble_eq_true rfl, Nat.le_of_ble_eq_true rfl, Nat.le_of_ble_eq_true rfl⟩) (fun r15 σ14 => ?_)
          refine gz_if_ne (tgt := 54) C dX9_notice_45 (by decide) ?_ ?_
          · skip
            refine gz_aload_n C dX9_notice_54 1 rfl ?_
            refine gz_get C (t := 0) (k := 4) (ci := 9) (q := (RX9, TX9, 11)) (v := .ref (gz_ad false G 10 0)) dX9_notice_55 fl_RX9_35 (gz_hx0 _) rfl rfl (by decide) rfl ?_
            refine gz_kr (t := 14) (gz_runV (t := 10) (ci := 1) (q := (RX1, TX1, 6)) (As := []) (rest := []) C dX9_notice_58 ml_RX9_127 mw_X1_fresh mv_X1_fresh (c_X1_fresh l G σ14) (gz_hx10 _) rfl rfl rfl rfl rfl (Nat.le_of_ble_eq_true rfl) ⟨rfl, rfl, Nat.le_of_ble_eq_true rfl, Nat.le_of_ble_eq_true rfl, Nat.le_of_ble_eq_true rfl, Nat.le_of_ble_eq_true rfl⟩) (fun r17 σ16 => ?_)
            refine gz_nn (fun i18 hi18 hr => ?_)
            subst hr
            refine gz_eqs (st' := [.ref (gz_ad false G 14 i18)]) (lv' := [(5, .ref (gz_ad false G 6 i3)), (0, .ref (gz_ad false G 0 0)), (1, .int a1), (2, .int a2), (3, .int a3), (4, .int a4)]) rfl rfl ?_
            refine gz_astore C (lv' := [(6, .ref (gz_ad false G 14 i18)), (5, .ref (gz_ad false G 6 i3)), (0, .ref (gz_ad false G 0 0)), (1, .int a1), (2, .int a2), (3, .int a3), (4, .int a4)]) dX9_notice_61 (by decide) rfl ?_
            refine gz_aload C dX9_notice_63 0 rfl ?_
            refine gz_iload_n C dX9_notice_65 3 rfl ?_
            refine gz_iload_n C dX9_notice_66 5 rfl ?_
            refine gz_iload C dX9_notice_67 6 rfl ?_
            refine gz_kv (gz_runV (t := 14) (ci := 6) (q := (RX6, TX6, 15)) (As := [.int a1, .int a3, .int a4]) (rest := []) C dX9_notice_69 ml_RX9_131 mw_X6_begin mv_X6_begin (c_X6_begin l G i18 a1 a3 a4 hi18 σ16) (gz_hx14 _ hi18) rfl rfl rfl rfl rfl (Nat.le_of_ble_eq_true rfl) ⟨rfl, rfl, Nat.le_of_ble_eq_true rfl, Nat.le_of_ble_eq_true rfl, Nat.le_of_ble_eq_true rfl, Nat.le_of_ble_eq_true rfl⟩) (fun σ19 => ?_)
            refine gz_aload_n C dX9_notice_72 2 rfl ?_
            refine gz_get C (t := 0) (k := 1) (ci := 9) (q := (RX9, TX9, 11)) (v := .ref (gz_ad false G 3 0)) dX9_notice_73 fl_RX9_21 (gz_hx0 _) rfl rfl (by decide) rfl ?_
            refine gz_iload_n C dX9_notice_76 4 rfl ?_
            refine gz_kv (gz_runV (t := 3) (ci := 8) (q := (RX8, TX8, 11)) (As := [.int a2]) (rest := []) C dX9_notice_77 ml_RX9_113 mw_X8_start mv_X8_start (c_X8_start l G a2 σ19) (gz_hx3 _) rfl rfl rfl rfl rfl (Nat.le_of_ble_eq_true rfl) ⟨rfl, rfl, Nat.le_of_ble_eq_true rfl, Nat.le_of_ble_eq_true rfl, Nat.le_of_ble_eq_true rfl, Nat.le_of_ble_eq_true rfl⟩) (fun σ20 => ?_)
            refine gz_aload C dX9_notice_80 1 rfl ?_
            refine gz_aload_n C dX9_notice_82 2 rfl ?_
            refine gz_get C (t := 0) (k := 1) (ci := 9) (q := (RX9, TX9, 11)) (v := .ref (gz_ad false G 3 0)) dX9_notice_83 fl_RX9_21 (gz_hx0 _) rfl rfl (by decide) rfl ?_
            refine gz_aload C dX9_notice_86 0 rfl ?_
            refine gz_getN C (t := 14) (k := 5) (ci := 6) (q := (RX6, TX6, 15)) (v := .ref (gz_ad false G 15 i18)) dX9_notice_88 fl_RX9_137 (gz_hx14 _ hi18) rfl rfl (by decide) rfl ?_
            refine gz_ki (gz_runV (t := 6) (ci := 4) (q := (RX4, TX4, 2)) (As := [.ref (gz_ad false G 3 0), .ref (gz_ad false G 15 i18)]) (rest := []) C dX9_notice_91 ml_RX9_141 mw_X4_readNotice mv_X4_readNotice (c_X4_readNotice l G i3 i18 hi3 hi18 σ20) (gz_hx6 _ hi3) rfl rfl rfl rfl rfl (Nat.le_of_ble_eq_true rfl) ⟨rfl, rfl, Nat.le_of_ble_eq_true rfl, Nat.le_of_ble_eq_true rfl, Nat.le_of_ble_eq_true rfl, Nat.le_of_ble_eq_true rfl⟩) (fun r22 σ21 => ?_)
            refine gz_istore C (lv' := [(7, .int r22), (6, .ref (gz_ad false G 14 i18)), (5, .ref (gz_ad false G 6 i3)), (0, .ref (gz_ad false G 0 0)), (1, .int a1), (2, .int a2), (3, .int a3), (4, .int a4)]) dX9_notice_94 (by decide) rfl ?_
            refine gz_aload_n C dX9_notice_96 3 rfl ?_
            refine gz_get C (t := 0) (k := 1) (ci := 9) (q := (RX9, TX9, 11)) (v := .ref (gz_ad false G 3 0)) dX9_notice_97 fl_RX9_21 (gz_hx0 _) rfl rfl (by decide) rfl ?_
            refine gz_iconst C dX9_notice_100 gk_iconst_0 ?_
            refine gz_putIN C (t := 3) (k := 1) (ci := 8) (q := (RX8, TX8, 11)) dX9_notice_101 fl_RX9_103 (gz_hx3 _) rfl rfl (by decide) rfl rfl rfl rfl ?_
            refine gz_w_row (fun σ23 => ?_)
            refine gz_iload C dX9_notice_104 0 rfl ?_
            refine gz_if_ne (tgt := 115) C dX9_notice_106 (by decide) ?_ ?_
            · skip
              refine gz_aload_n C dX9_notice_115 3 rfl ?_
              refine gz_get C (t := 0) (k := 4) (ci := 9) (q := (RX9, TX9, 11)) (v := .ref (gz_ad false G 10 0)) dX9_notice_116 fl_RX9_35 (gz_hx0 _) rfl rfl (by decide) rfl ?_
              refine gz_getN C (t := 10) (k := 1) (ci := 1) (q := (RX1, TX1, 6)) (v := .int (σ23.1 10 0 1)) dX9_notice_119 fl_RX9_145 (gz_hx10 _) rfl rfl (by decide) rfl ?_
              refine gz_bipush C dX9_notice_122 gk_bipush_60 ?_
              refine gz_icmp_lt (tgt := 133) C dX9_notice_124 (by decide) ?_ ?_
              · skip
                refine gz_aload_n C dX9_notice_133 3 rfl ?_
                refine gz_get C (t := 0) (k := 9) (ci := 9) (q := (RX9, TX9, 11)) (v := .ref (gz_ad false G 26 0)) dX9_notice_134 fl_RX9_60 (gz_hx0 _) rfl rfl (by decide) rfl ?_
                refine gz_iconst C dX9_notice_137 gk_iconst_2 ?_
                refine gz_aload_n C dX9_notice_138 3 rfl ?_
                refine gz_get C (t := 0) (k := 4) (ci := 9) (q := (RX9, TX9, 11)) (v := .ref (gz_ad false G 10 0)) dX9_notice_139 fl_RX9_35 (gz_hx0 _) rfl rfl (by decide) rfl ?_
                refine gz_getN C (t := 10) (k := 1) (ci := 1) (q := (RX1, TX1, 6)) (v := .int (σ23.1 10 0 1)) dX9_notice_142 fl_RX9_145 (gz_hx10 _) rfl rfl (by decide) rfl ?_
                refine gz_lconst C dX9_notice_145 gk_lconst_0 ?_
                refine gz_lconst C dX9_notice_146 gk_lconst_0 ?_
                refine gz_kv (gz_runV (t := 26) (ci := 0) (q := (RX0, TX0, 10)) (As := [.int 2, .int (σ23.1 10 0 1), .long 0, .long 0]) (rest := []) C dX9_notice_147 ml_RX9_85 mw_X0_push mv_X0_push (c_X0_push l G 2 (σ23.1 10 0 1) 0 0 σ23) (gz_hx26 _) rfl rfl rfl rfl rfl (Nat.le_of_ble_eq_true rfl) ⟨rfl, rfl, Nat.le_of_ble_eq_true rfl, Nat.le_of_ble_eq_true rfl, Nat.le_of_ble_eq_true rfl, Nat.le_of_ble_eq_true rfl⟩) (fun σ24 => ?_)
                refine gz_aload_n C dX9_notice_150 3 rfl ?_
                refine gz_get C (t := 0) (k := 4) (ci := 9) (q := (RX9, TX9, 11)) (v := .ref (gz_ad false G 10 0)) dX9_notice_151 fl_RX9_35 (gz_hx0 _) rfl rfl (by decide) rfl ?_
                refine gz_dup C dX9_notice_154 rfl ?_
                refine gz_getN C (t := 10) (k := 1) (ci := 1) (q := (RX1, TX1, 6)) (v := .int (σ24.1 10 0 1)) dX9_notice_155 fl_RX9_145 (gz_hx10 _) rfl rfl (by decide) rfl ?_
                refine gz_iconst C dX9_notice_158 gk_iconst_1 ?_
                refine gz_iadd C dX9_notice_159 ?_
                refine gz_putIN C (t := 10) (k := 1) (ci := 1) (q := (RX1, TX1, 6)) dX9_notice_160 fl_RX9_145 (gz_hx10 _) rfl rfl (by decide) rfl rfl rfl rfl ?_
                refine gz_w_row (fun σ25 => ?_)
                refine gz_aload_n C dX9_notice_163 3 rfl ?_
                refine gz_aload_n C dX9_notice_164 3 rfl ?_
                refine gz_get C (t := 0) (k := 4) (ci := 9) (q := (RX9, TX9, 11)) (v := .ref (gz_ad false G 10 0)) dX9_notice_165 fl_RX9_35 (gz_hx0 _) rfl rfl (by decide) rfl ?_
                refine gz_getN C (t := 10) (k := 1) (ci := 1) (q := (RX1, TX1, 6)) (v := .int (σ25.1 10 0 1)) dX9_notice_168 fl_RX9_145 (gz_hx10 _) rfl rfl (by decide) rfl ?_
                refine gz_iconst C dX9_notice_171 gk_iconst_1 ?_
                refine gz_isub C dX9_notice_172 ?_
                refine gz_ki (gz_runV (t := 0) (ci := 9) (q := (RX9, TX9, 11)) (As := [.int ((σ25.1 10 0 1) - 1)]) (rest := []) C dX9_notice_173 ml_RX9_96 mw_X9_accepted mv_X9_accepted (c_X9_accepted l G ((σ25.1 10 0 1) - 1) σ25) (gz_hx0 _) rfl rfl rfl rfl rfl (Nat.le_of_ble_eq_true rfl) ⟨rfl, rfl, Nat.le_of_ble_eq_true rfl, Nat.le_of_ble_eq_true rfl, Nat.le_of_ble_eq_true rfl, Nat.le_of_ble_eq_true rfl⟩) (fun r27 σ26 => ?_)
                exact gz_iret C rfl dX9_notice_176
              · skip
                refine gz_aload_n C dX9_notice_127 3 rfl ?_
                refine gz_iconst C dX9_notice_128 gk_iconst_3 ?_
                refine gz_ki (gz_runV (t := 0) (ci := 9) (q := (RX9, TX9, 11)) (As := [.int 3]) (rest := []) C dX9_notice_129 ml_RX9_89 mw_X9_refused mv_X9_refused (c_X9_refused l G 3 σ23) (gz_hx0 _) rfl rfl rfl rfl rfl (Nat.le_of_ble_eq_true rfl) ⟨rfl, rfl, Nat.le_of_ble_eq_true rfl, Nat.le_of_ble_eq_true rfl, Nat.le_of_ble_eq_true rfl, Nat.le_of_ble_eq_true rfl⟩) (fun r29 σ28 => ?_)
                exact gz_iret C rfl dX9_notice_132
            · skip
              refine gz_aload_n C dX9_notice_109 3 rfl ?_
              refine gz_iconst C dX9_notice_110 gk_iconst_4 ?_
              refine gz_ki (gz_runV (t := 0) (ci := 9) (q := (RX9, TX9, 11)) (As := [.int 4]) (rest := []) C dX9_notice_111 ml_RX9_89 mw_X9_refused mv_X9_refused (c_X9_refused l G 4 σ23) (gz_hx0 _) rfl rfl rfl rfl rfl (Nat.le_of_ble_eq_true rfl) ⟨rfl, rfl, Nat.le_of_ble_eq_true rfl, Nat.le_of_ble_eq_true rfl, Nat.le_of_ble_eq_true rfl, Nat.le_of_ble_eq_true rfl⟩) (fun r31 σ30 => ?_)
              exact gz_iret C rfl dX9_notice_114
          · skip
            refine gz_aload_n C dX9_notice_48 1 rfl ?_
            refine gz_iconst C dX9_notice_49 gk_iconst_2 ?_
            refine gz_ki (gz_runV (t := 0) (ci := 9) (q := (RX9, TX9, 11)) (As := [.int 2]) (rest := []) C dX9_notice_50 ml_RX9_89 mw_X9_refused mv_X9_refused (c_X9_refused l G 2 σ14) (gz_hx0 _) rfl rfl rfl rfl rfl (Nat.le_of_ble_eq_true rfl) ⟨rfl, rfl, Nat.le_of_ble_eq_true rfl, Nat.le_of_ble_eq_true rfl, Nat.le_of_ble_eq_true rfl, Nat.le_of_ble_eq_true rfl⟩) (fun r33 σ32 => ?_)
            exact gz_iret C rfl dX9_notice_53

def f_X9_fault (σ : gz_S) : Option (Int32 × gz_S) :=
  some (σ.1 3 0 8, σ)
set_option maxHeartbeats 4000000 in
set_option maxRecDepth 100000 in
theorem c_X9_fault (l : Launch) (G : gz_G) (σ : gz_S) : ∀ o, f_X9_fault σ = some o → gz_M l false G yX9_fault cX9_fault 1 (some .int) { frames := 0, cells := 0, slots := 0, locals := 0 } [.ref (gz_ad false G 0 0)] σ (gz_ei o) 0 0 := by
  refine gz_enter RX9 rfl (by decide) (Nat.le_of_ble_eq_true rfl) ?_
  intro p e s m args below meth c C
  refine gz_eqs (st' := []) (lv' := [(0, .ref (gz_ad false G 0 0))]) rfl rfl ?_
  unfold f_X9_fault
  refine gz_aload_n C dX9_fault_0 0 rfl ?_
  refine gz_get C (t := 0) (k := 1) (ci := 9) (q := (RX9, TX9, 11)) (v := .ref (gz_ad false G 3 0)) dX9_fault_1 fl_RX9_21 (gz_hx0 _) rfl rfl (by decide) rfl ?_
  refine gz_getN C (t := 3) (k := 8) (ci := 8) (q := (RX8, TX8, 11)) (v := .int (σ.1 3 0 8)) dX9_fault_4 fl_RX9_148 (gz_hx3 _) rfl rfl (by decide) rfl ?_
  exact gz_iret C rfl dX9_fault_7

def f_X9_where (σ : gz_S) : Option (Int32 × gz_S) :=
  if (σ.1 0 0 10) = 4 then
  (some (σ.1 3 0 9, σ))
  else
  (some ((-1), σ))
set_option maxHeartbeats 4000000 in
set_option maxRecDepth 100000 in
theorem c_X9_where (l : Launch) (G : gz_G) (σ : gz_S) : ∀ o, f_X9_where σ = some o → gz_M l false G yX9_where cX9_where 1 (some .int) { frames := 0, cells := 0, slots := 0, locals := 0 } [.ref (gz_ad false G 0 0)] σ (gz_ei o) 0 0 := by
  refine gz_enter RX9 rfl (by decide) (Nat.le_of_ble_eq_true rfl) ?_
  intro p e s m args below meth c C
  refine gz_eqs (st' := []) (lv' := [(0, .ref (gz_ad false G 0 0))]) rfl rfl ?_
  unfold f_X9_where
  refine gz_aload_n C dX9_where_0 0 rfl ?_
  refine gz_get C (t := 0) (k := 10) (ci := 9) (q := (RX9, TX9, 11)) (v := .int (σ.1 0 0 10)) dX9_where_1 fl_RX9_151 (gz_hx0 _) rfl rfl (by decide) rfl ?_
  refine gz_iconst C dX9_where_4 gk_iconst_4 ?_
  refine gz_icmp_ne (tgt := 18) C dX9_where_5 (by decide) ?_ ?_
  · skip
    refine gz_iconst C dX9_where_18 gk_iconst_m1 ?_
    exact gz_iret C rfl dX9_where_19
  · skip
    refine gz_aload_n C dX9_where_8 0 rfl ?_
    refine gz_get C (t := 0) (k := 1) (ci := 9) (q := (RX9, TX9, 11)) (v := .ref (gz_ad false G 3 0)) dX9_where_9 fl_RX9_21 (gz_hx0 _) rfl rfl (by decide) rfl ?_
    refine gz_getN C (t := 3) (k := 9) (ci := 8) (q := (RX8, TX8, 11)) (v := .int (σ.1 3 0 9)) dX9_where_12 fl_RX9_154 (gz_hx3 _) rfl rfl (by decide) rfl ?_
    refine gz_goto (tgt := 19) C dX9_where_15 (by decide) ?_
    exact gz_iret C rfl dX9_where_19

def f_X9_lacks (σ : gz_S) : Option (Int32 × gz_S) :=
  if (σ.1 3 0 8) = 6 then
  (some (σ.1 3 0 10, σ))
  else
  (some ((-1), σ))
set_option maxHeartbeats 4000000 in
set_option maxRecDepth 100000 in
theorem c_X9_lacks (l : Launch) (G : gz_G) (σ : gz_S) : ∀ o, f_X9_lacks σ = some o → gz_M l false G yX9_lacks cX9_lacks 1 (some .int) { frames := 0, cells := 0, slots := 0, locals := 0 } [.ref (gz_ad false G 0 0)] σ (gz_ei o) 0 0 := by
  refine gz_enter RX9 rfl (by decide) (Nat.le_of_ble_eq_true rfl) ?_
  intro p e s m args below meth c C
  refine gz_eqs (st' := []) (lv' := [(0, .ref (gz_ad false G 0 0))]) rfl rfl ?_
  unfold f_X9_lacks
  refine gz_aload_n C dX9_lacks_0 0 rfl ?_
  refine gz_get C (t := 0) (k := 1) (ci := 9) (q := (RX9, TX9, 11)) (v := .ref (gz_ad false G 3 0)) dX9_lacks_1 fl_RX9_21 (gz_hx0 _) rfl rfl (by decide) rfl ?_
  refine gz_getN C (t := 3) (k := 8) (ci := 8) (q := (RX8, TX8, 11)) (v := .int (σ.1 3 0 8)) dX9_lacks_4 fl_RX9_148 (gz_hx3 _) rfl rfl (by decide) rfl ?_
  refine gz_bipush C dX9_lacks_7 gk_bipush_6 ?_
  refine gz_icmp_ne (tgt := 22) C dX9_lacks_9 (by decide) ?_ ?_
  · skip
    refine gz_iconst C dX9_lacks_22 gk_iconst_m1 ?_
    exact gz_iret C rfl dX9_lacks_23
  · skip
    refine gz_aload_n C dX9_lacks_12 0 rfl ?_
    refine gz_get C (t := 0) (k := 1) (ci := 9) (q := (RX9, TX9, 11)) (v := .ref (gz_ad false G 3 0)) dX9_lacks_13 fl_RX9_21 (gz_hx0 _) rfl rfl (by decide) rfl ?_
    refine gz_getN C (t := 3) (k := 10) (ci := 8) (q := (RX8, TX8, 11)) (v := .int (σ.1 3 0 10)) dX9_lacks_16 fl_RX9_157 (gz_hx3 _) rfl rfl (by decide) rfl ?_
    refine gz_goto (tgt := 23) C dX9_lacks_19 (by decide) ?_
    exact gz_iret C rfl dX9_lacks_23

def f_X9_field (a1 : Int32) (a2 : Int32) (a3 : Int32) (σ : gz_S) : Option (Int32 × gz_S) :=
  gz_call (f_X9_formAt a1 σ) (fun r2 σ1 =>
  gz_nl r2 13 (some ((-1), σ1)) (fun i3 =>
  if a2 < 0 then
  (some ((-1), σ1))
  else
  (if a2 < (σ1.1 6 i3 1) then
  (gz_ix a2 8 (fun n4 =>
  (if a3 = 0 then
  (some (σ1.1 8 (8 * i3 + n4) 1, σ1))
  else
  (if a3 = 1 then
  (if (σ1.1 8 (8 * i3 + n4) 2) = 0 then
  (some (0, σ1))
  else
  (some (1, σ1)))
  else
  (if a3 = 2 then
  (if (σ1.1 8 (8 * i3 + n4) 1) = 3 then
  (some (σ1.1 8 (8 * i3 + n4) 6, σ1))
  else
  (some (σ1.1 8 (8 * i3 + n4) 3, σ1)))
  else
  (if a3 = 3 then
  (some (σ1.1 8 (8 * i3 + n4) 4, σ1))
  else
  (some ((-1), σ1))))))))
  else
  (some ((-1), σ1)))))
set_option maxHeartbeats 4000000 in
set_option maxRecDepth 100000 in
theorem c_X9_field (l : Launch) (G : gz_G) (a1 : Int32) (a2 : Int32) (a3 : Int32) (σ : gz_S) : ∀ o, f_X9_field a1 a2 a3 σ = some o → gz_M l false G yX9_field cX9_field 6 (some .int) { frames := 1, cells := 0, slots := 0, locals := 21 } [.ref (gz_ad false G 0 0), .int a1, .int a2, .int a3] σ (gz_ei o) 0 0 := by
  refine gz_enter RX9 rfl (by decide) (Nat.le_of_ble_eq_true rfl) ?_
  intro p e s m args below meth c C
  refine gz_eqs (st' := []) (lv' := [(0, .ref (gz_ad false G 0 0)), (1, .int a1), (2, .int a2), (3, .int a3)]) rfl rfl ?_
  unfold f_X9_field
  refine gz_aload_n C dX9_field_0 0 rfl ?_
  refine gz_iload_n C dX9_field_1 1 rfl ?_
  refine gz_kr (t := 6) (gz_runV (t := 0) (ci := 9) (q := (RX9, TX9, 11)) (As := [.int a1]) (rest := []) C dX9_field_2 ml_RX9_123 mw_X9_formAt mv_X9_formAt (c_X9_formAt l G a1 σ) (gz_hx0 _) rfl rfl rfl rfl rfl (Nat.le_of_ble_eq_true rfl) ⟨rfl, rfl, Nat.le_of_ble_eq_true rfl, Nat.le_of_ble_eq_true rfl, Nat.le_of_ble_eq_true rfl, Nat.le_of_ble_eq_true rfl⟩) (fun r2 σ1 => ?_)
  refine gz_astoreV C (lv' := [(4, gz_rv false G 6 r2), (0, .ref (gz_ad false G 0 0)), (1, .int a1), (2, .int a2), (3, .int a3)]) dX9_field_5 (by decide) rfl (gz_rv_or _ _ _ _) ?_
  refine gz_aloadV C dX9_field_7 0 rfl (gz_rv_or _ _ _ _) ?_
  refine gz_ifnull (tgt := 25) C dX9_field_9 (by decide) (fun hr => ?_) (fun i3 hi3 hr => ?_)
  · subst hr
    refine gz_eqs (st' := []) (lv' := [(4, .null), (0, .ref (gz_ad false G 0 0)), (1, .int a1), (2, .int a2), (3, .int a3)]) rfl rfl ?_
    refine gz_iconst C dX9_field_25 gk_iconst_m1 ?_
    exact gz_iret C rfl dX9_field_26
  · subst hr
    refine gz_eqs (st' := []) (lv' := [(4, .ref (gz_ad false G 6 i3)), (0, .ref (gz_ad false G 0 0)), (1, .int a1), (2, .int a2), (3, .int a3)]) rfl rfl ?_
    refine gz_iload_n C dX9_field_12 3 rfl ?_
    refine gz_if_lt (tgt := 25) C dX9_field_13 (by decide) ?_ ?_
    · skip
      refine gz_iconst C dX9_field_25 gk_iconst_m1 ?_
      exact gz_iret C rfl dX9_field_26
    · skip
      refine gz_iload_n C dX9_field_16 3 rfl ?_
      refine gz_aload C dX9_field_17 0 rfl ?_
      refine gz_getN C (t := 6) (k := 1) (ci := 4) (q := (RX4, TX4, 2)) (v := .int (σ1.1 6 i3 1)) dX9_field_19 fl_RX9_160 (gz_hx6 _ hi3) rfl rfl (by decide) rfl ?_
      refine gz_icmp_lt (tgt := 27) C dX9_field_22 (by decide) ?_ ?_
      · skip
        refine gz_aload C dX9_field_27 0 rfl ?_
        refine gz_getN C (t := 6) (k := 0) (ci := 4) (q := (RX4, TX4, 2)) (v := .ref (gz_ad false G 7 i3)) dX9_field_29 fl_RX9_161 (gz_hx6 _ hi3) rfl rfl (by decide) rfl ?_
        refine gz_iload_n C dX9_field_32 3 rfl ?_
        refine gz_aald4 C (t := 7) dX9_field_33 (gz_hx7 _ hi3) rfl (fun n4 hn4 => ?_)
        refine gz_astore C (lv' := [(5, .ref (gz_ad false G 8 (8 * i3 + n4))), (4, .ref (gz_ad false G 6 i3)), (0, .ref (gz_ad false G 0 0)), (1, .int a1), (2, .int a2), (3, .int a3)]) dX9_field_34 (by decide) rfl ?_
        refine gz_iload_n C dX9_field_36 5 rfl ?_
        refine gz_case 0 (fun hx0 => ?_) (fun hx0 => ?_)
        · rw [hx0]
          refine gz_tin (tgt := 68) (off := 31) C dX9_field_37 (by decide) (by decide) rfl (by decide) ?_
          refine gz_aload C dX9_field_68 0 rfl ?_
          refine gz_getN C (t := 8) (k := 1) (ci := 3) (q := (RX3, TX3, 7)) (v := .int (σ1.1 8 (8 * i3 + n4) 1)) dX9_field_70 fl_RX9_165 (gz_hx8 _ (gz_h8 hi3 hn4)) rfl rfl (by decide) rfl ?_
          exact gz_iret C rfl dX9_field_73
        refine gz_case 1 (fun hx1 => ?_) (fun hx1 => ?_)
        · rw [hx1]
          refine gz_tin (tgt := 74) (off := 37) C dX9_field_37 (by decide) (by decide) rfl (by decide) ?_
          refine gz_aload C dX9_field_74 0 rfl ?_
          refine gz_getN C (t := 8) (k := 2) (ci := 3) (q := (RX3, TX3, 7)) (v := .int (σ1.1 8 (8 * i3 + n4) 2)) dX9_field_76 fl_RX9_170 (gz_hx8 _ (gz_h8 hi3 hn4)) rfl rfl (by decide) rfl ?_
          refine gz_if_eq (tgt := 86) C dX9_field_79 (by decide) ?_ ?_
          · skip
            refine gz_iconst C dX9_field_86 gk_iconst_0 ?_
            exact gz_iret C rfl dX9_field_87
          · skip
            refine gz_iconst C dX9_field_82 gk_iconst_1 ?_
            refine gz_goto (tgt := 87) C dX9_field_83 (by decide) ?_
            exact gz_iret C rfl dX9_field_87
        refine gz_case 2 (fun hx2 => ?_) (fun hx2 => ?_)
        · rw [hx2]
          refine gz_tin (tgt := 88) (off := 51) C dX9_field_37 (by decide) (by decide) rfl (by decide) ?_
          refine gz_aload C dX9_field_88 0 rfl ?_
          refine gz_getN C (t := 8) (k := 1) (ci := 3) (q := (RX3, TX3, 7)) (v := .int (σ1.1 8 (8 * i3 + n4) 1)) dX9_field_90 fl_RX9_165 (gz_hx8 _ (gz_h8 hi3 hn4)) rfl rfl (by decide) rfl ?_
          refine gz_iconst C dX9_field_93 gk_iconst_3 ?_
          refine gz_icmp_ne (tgt := 105) C dX9_field_94 (by decide) ?_ ?_
          · skip
            refine gz_aload C dX9_field_105 0 rfl ?_
            refine gz_getN C (t := 8) (k := 3) (ci := 3) (q := (RX3, TX3, 7)) (v := .int (σ1.1 8 (8 * i3 + n4) 3)) dX9_field_107 fl_RX9_177 (gz_hx8 _ (gz_h8 hi3 hn4)) rfl rfl (by decide) rfl ?_
            exact gz_iret C rfl dX9_field_110
          · skip
            refine gz_aload C dX9_field_97 0 rfl ?_
            refine gz_getN C (t := 8) (k := 6) (ci := 3) (q := (RX3, TX3, 7)) (v := .int (σ1.1 8 (8 * i3 + n4) 6)) dX9_field_99 fl_RX9_174 (gz_hx8 _ (gz_h8 hi3 hn4)) rfl rfl (by decide) rfl ?_
            refine gz_goto (tgt := 110) C dX9_field_102 (by decide) ?_
            exact gz_iret C rfl dX9_field_110
        refine gz_case 3 (fun hx3 => ?_) (fun hx3 => ?_)
        · rw [hx3]
          refine gz_tin (tgt := 111) (off := 74) C dX9_field_37 (by decide) (by decide) rfl (by decide) ?_
          refine gz_aload C dX9_field_111 0 rfl ?_
          refine gz_getN C (t := 8) (k := 4) (ci := 3) (q := (RX3, TX3, 7)) (v := .int (σ1.1 8 (8 * i3 + n4) 4)) dX9_field_113 fl_RX9_180 (gz_hx8 _ (gz_h8 hi3 hn4)) rfl rfl (by decide) rfl ?_
          exact gz_iret C rfl dX9_field_116
        refine gz_tout (tgt := 117) C dX9_field_37 (by have q0 := lv_neT hx0 (a := 0) (by decide); have q1 := lv_neT hx1 (a := 1) (by decide); have q2 := lv_neT hx2 (a := 2) (by decide); have q3 := lv_neT hx3 (a := 3) (by decide); omega) (by decide) ?_
        refine gz_iconst C dX9_field_117 gk_iconst_m1 ?_
        exact gz_iret C rfl dX9_field_118
      · skip
        refine gz_iconst C dX9_field_25 gk_iconst_m1 ?_
        exact gz_iret C rfl dX9_field_26

def f_X9_fields (a1 : Int32) (σ : gz_S) : Option (Int32 × gz_S) :=
  gz_call (f_X9_formAt a1 σ) (fun r2 σ1 =>
  gz_nl r2 13 (some ((-1), σ1)) (fun i3 =>
  some (σ1.1 6 i3 1, σ1)))
set_option maxHeartbeats 4000000 in
set_option maxRecDepth 100000 in
theorem c_X9_fields (l : Launch) (G : gz_G) (a1 : Int32) (σ : gz_S) : ∀ o, f_X9_fields a1 σ = some o → gz_M l false G yX9_fields cX9_fields 3 (some .int) { frames := 1, cells := 0, slots := 0, locals := 21 } [.ref (gz_ad false G 0 0), .int a1] σ (gz_ei o) 0 0 := by
  refine gz_enter RX9 rfl (by decide) (Nat.le_of_ble_eq_true rfl) ?_
  intro p e s m args below meth c C
  refine gz_eqs (st' := []) (lv' := [(0, .ref (gz_ad false G 0 0)), (1, .int a1)]) rfl rfl ?_
  unfold f_X9_fields
  refine gz_aload_n C dX9_fields_0 0 rfl ?_
  refine gz_iload_n C dX9_fields_1 1 rfl ?_
  refine gz_kr (t := 6) (gz_runV (t := 0) (ci := 9) (q := (RX9, TX9, 11)) (As := [.int a1]) (rest := []) C dX9_fields_2 ml_RX9_123 mw_X9_formAt mv_X9_formAt (c_X9_formAt l G a1 σ) (gz_hx0 _) rfl rfl rfl rfl rfl (Nat.le_of_ble_eq_true rfl) ⟨rfl, rfl, Nat.le_of_ble_eq_true rfl, Nat.le_of_ble_eq_true rfl, Nat.le_of_ble_eq_true rfl, Nat.le_of_ble_eq_true rfl⟩) (fun r2 σ1 => ?_)
  refine gz_astoreV_n C (lv' := [(2, gz_rv false G 6 r2), (0, .ref (gz_ad false G 0 0)), (1, .int a1)]) dX9_fields_5 (by decide) rfl (gz_rv_or _ _ _ _) ?_
  refine gz_aloadV_n C dX9_fields_6 0 rfl (gz_rv_or _ _ _ _) ?_
  refine gz_ifnonnull (tgt := 14) C dX9_fields_7 (by decide) (fun hr => ?_) (fun i3 hi3 hr => ?_)
  · subst hr
    refine gz_eqs (st' := []) (lv' := [(2, .null), (0, .ref (gz_ad false G 0 0)), (1, .int a1)]) rfl rfl ?_
    refine gz_iconst C dX9_fields_10 gk_iconst_m1 ?_
    refine gz_goto (tgt := 18) C dX9_fields_11 (by decide) ?_
    exact gz_iret C rfl dX9_fields_18
  · subst hr
    refine gz_eqs (st' := []) (lv' := [(2, .ref (gz_ad false G 6 i3)), (0, .ref (gz_ad false G 0 0)), (1, .int a1)]) rfl rfl ?_
    refine gz_aload_n C dX9_fields_14 0 rfl ?_
    refine gz_getN C (t := 6) (k := 1) (ci := 4) (q := (RX4, TX4, 2)) (v := .int (σ1.1 6 i3 1)) dX9_fields_15 fl_RX9_160 (gz_hx6 _ hi3) rfl rfl (by decide) rfl ?_
    exact gz_iret C rfl dX9_fields_18
