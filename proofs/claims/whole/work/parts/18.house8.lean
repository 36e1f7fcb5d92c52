def f_X9_issued (a1 : Int32) (a2 : Int32) (σ : gz_S) : Option (Int32 × gz_S) :=
  if a1 < 0 then
  (some ((-1), σ))
  else
  (if a1 < (σ.1 0 0 6) then
  (gz_ix a1 40 (fun n1 =>
  (if a2 = 0 then
  (some (σ.1 20 n1 0, σ))
  else
  (if a2 = 1 then
  (some (σ.1 20 n1 4, σ))
  else
  (if a2 = 2 then
  (some (σ.1 20 n1 1, σ))
  else
  (if a2 = 3 then
  (some (σ.1 20 n1 2, σ))
  else
  (if a2 = 4 then
  (some (σ.1 20 n1 3, σ))
  else
  (some ((-1), σ)))))))))
  else
  (some ((-1), σ)))
set_option maxHeartbeats 4000000 in
set_option maxRecDepth 100000 in
theorem c_X9_issued (l : Launch) (G : gz_G) (a1 : Int32) (a2 : Int32) (σ : gz_S) : ∀ o, f_X9_issued a1 a2 σ = some o → gz_M l false G yX9_issued cX9_issued 4 (some .int) { frames := 0, cells := 0, slots := 0, locals := 0 } [.ref (gz_ad false G 0 0), .int a1, .int a2] σ (gz_ei o) 0 0 := by
  refine gz_enter RX9 rfl (by decide) (Nat.le_of_ble_eq_true rfl) ?_
  intro p e s m args below meth c C
  refine gz_eqs (st' := []) (lv' := [(0, .ref (gz_ad false G 0 0)), (1, .int a1), (2, .int a2)]) rfl rfl ?_
  unfold f_X9_issued
  refine gz_iload_n C dX9_issued_0 1 rfl ?_
  refine gz_if_lt (tgt := 12) C dX9_issued_1 (by decide) ?_ ?_
  · skip
    refine gz_iconst C dX9_issued_12 gk_iconst_m1 ?_
    exact gz_iret C rfl dX9_issued_13
  · skip
    refine gz_iload_n C dX9_issued_4 1 rfl ?_
    refine gz_aload_n C dX9_issued_5 0 rfl ?_
    refine gz_get C (t := 0) (k := 6) (ci := 9) (q := (RX9, TX9, 11)) (v := .int (σ.1 0 0 6)) dX9_issued_6 fl_RX9_235 (gz_hx0 _) rfl rfl (by decide) rfl ?_
    refine gz_icmp_lt (tgt := 14) C dX9_issued_9 (by decide) ?_ ?_
    · skip
      refine gz_aload_n C dX9_issued_14 0 rfl ?_
      refine gz_get C (t := 0) (k := 5) (ci := 9) (q := (RX9, TX9, 11)) (v := .ref (gz_ad false G 19 0)) dX9_issued_15 fl_RX9_41 (gz_hx0 _) rfl rfl (by decide) rfl ?_
      refine gz_iload_n C dX9_issued_18 1 rfl ?_
      refine gz_aald6 C (t := 19) dX9_issued_19 (gz_hx19 _) rfl (fun n1 hn1 => ?_)
      refine gz_astore_n C (lv' := [(3, .ref (gz_ad false G 20 n1)), (0, .ref (gz_ad false G 0 0)), (1, .int a1), (2, .int a2)]) dX9_issued_20 (by decide) rfl ?_
      refine gz_iload_n C dX9_issued_21 3 rfl ?_
      refine gz_case 0 (fun hx0 => ?_) (fun hx0 => ?_)
      · rw [hx0]
        refine gz_tin (tgt := 56) (off := 34) C dX9_issued_22 (by decide) (by decide) rfl (by decide) ?_
        refine gz_aload_n C dX9_issued_56 0 rfl ?_
        refine gz_getN C (t := 20) (k := 0) (ci := 5) (q := (RX5, TX5, 6)) (v := .int (σ.1 20 n1 0)) dX9_issued_57 fl_RX9_252 (gz_hx20 _ hn1) rfl rfl (by decide) rfl ?_
        exact gz_iret C rfl dX9_issued_60
      refine gz_case 1 (fun hx1 => ?_) (fun hx1 => ?_)
      · rw [hx1]
        refine gz_tin (tgt := 61) (off := 39) C dX9_issued_22 (by decide) (by decide) rfl (by decide) ?_
        refine gz_aload_n C dX9_issued_61 0 rfl ?_
        refine gz_getN C (t := 20) (k := 4) (ci := 5) (q := (RX5, TX5, 6)) (v := .int (σ.1 20 n1 4)) dX9_issued_62 fl_RX9_255 (gz_hx20 _ hn1) rfl rfl (by decide) rfl ?_
        exact gz_iret C rfl dX9_issued_65
      refine gz_case 2 (fun hx2 => ?_) (fun hx2 => ?_)
      · rw [hx2]
        refine gz_tin (tgt := 66) (off := 44) C dX9_issued_22 (by decide) (by decide) rfl (by decide) ?_
        refine gz_aload_n C dX9_issued_66 0 rfl ?_
        refine gz_getN C (t := 20) (k := 1) (ci := 5) (q := (RX5, TX5, 6)) (v := .int (σ.1 20 n1 1)) dX9_issued_67 fl_RX9_256 (gz_hx20 _ hn1) rfl rfl (by decide) rfl ?_
        exact gz_iret C rfl dX9_issued_70
      refine gz_case 3 (fun hx3 => ?_) (fun hx3 => ?_)
      · rw [hx3]
        refine gz_tin (tgt := 71) (off := 49) C dX9_issued_22 (by decide) (by decide) rfl (by decide) ?_
        refine gz_aload_n C dX9_issued_71 0 rfl ?_
        refine gz_getN C (t := 20) (k := 2) (ci := 5) (q := (RX5, TX5, 6)) (v := .int (σ.1 20 n1 2)) dX9_issued_72 fl_RX9_259 (gz_hx20 _ hn1) rfl rfl (by decide) rfl ?_
        exact gz_iret C rfl dX9_issued_75
      refine gz_case 4 (fun hx4 => ?_) (fun hx4 => ?_)
      · rw [hx4]
        refine gz_tin (tgt := 76) (off := 54) C dX9_issued_22 (by decide) (by decide) rfl (by decide) ?_
        refine gz_aload_n C dX9_issued_76 0 rfl ?_
        refine gz_getN C (t := 20) (k := 3) (ci := 5) (q := (RX5, TX5, 6)) (v := .int (σ.1 20 n1 3)) dX9_issued_77 fl_RX9_262 (gz_hx20 _ hn1) rfl rfl (by decide) rfl ?_
        exact gz_iret C rfl dX9_issued_80
      refine gz_tout (tgt := 81) C dX9_issued_22 (by have q0 := lv_neT hx0 (a := 0) (by decide); have q1 := lv_neT hx1 (a := 1) (by decide); have q2 := lv_neT hx2 (a := 2) (by decide); have q3 := lv_neT hx3 (a := 3) (by decide); have q4 := lv_neT hx4 (a := 4) (by decide); omega) (by decide) ?_
      refine gz_iconst C dX9_issued_81 gk_iconst_m1 ?_
      exact gz_iret C rfl dX9_issued_82
    · skip
      refine gz_iconst C dX9_issued_12 gk_iconst_m1 ?_
      exact gz_iret C rfl dX9_issued_13

def f_X9_printed (a1 : Int32) (a2 : Int32) (σ : gz_S) : Option (Int32 × gz_S) :=
  if a1 < 0 then
  (some ((-1), σ))
  else
  (if a1 < (σ.1 0 0 6) then
  (gz_ix a1 40 (fun n1 =>
  if a2 < 0 then
  (some ((-1), σ))
  else
  (if a2 < (σ.1 20 n1 4) then
  (gz_ix a2 12 (fun n2 =>
  some (σ.1 21 n1 n2, σ)))
  else
  (some ((-1), σ)))))
  else
  (some ((-1), σ)))
set_option maxHeartbeats 4000000 in
set_option maxRecDepth 100000 in
theorem c_X9_printed (l : Launch) (G : gz_G) (a1 : Int32) (a2 : Int32) (σ : gz_S) : ∀ o, f_X9_printed a1 a2 σ = some o → gz_M l false G yX9_printed cX9_printed 4 (some .int) { frames := 0, cells := 0, slots := 0, locals := 0 } [.ref (gz_ad false G 0 0), .int a1, .int a2] σ (gz_ei o) 0 0 := by
  refine gz_enter RX9 rfl (by decide) (Nat.le_of_ble_eq_true rfl) ?_
  intro p e s m args below meth c C
  refine gz_eqs (st' := []) (lv' := [(0, .ref (gz_ad false G 0 0)), (1, .int a1), (2, .int a2)]) rfl rfl ?_
  unfold f_X9_printed
  refine gz_iload_n C dX9_printed_0 1 rfl ?_
  refine gz_if_lt (tgt := 12) C dX9_printed_1 (by decide) ?_ ?_
  · skip
    refine gz_iconst C dX9_printed_12 gk_iconst_m1 ?_
    exact gz_iret C rfl dX9_printed_13
  · skip
    refine gz_iload_n C dX9_printed_4 1 rfl ?_
    refine gz_aload_n C dX9_printed_5 0 rfl ?_
    refine gz_get C (t := 0) (k := 6) (ci := 9) (q := (RX9, TX9, 11)) (v := .int (σ.1 0 0 6)) dX9_printed_6 fl_RX9_235 (gz_hx0 _) rfl rfl (by decide) rfl ?_
    refine gz_icmp_lt (tgt := 14) C dX9_printed_9 (by decide) ?_ ?_
    · skip
      refine gz_aload_n C dX9_printed_14 0 rfl ?_
      refine gz_get C (t := 0) (k := 5) (ci := 9) (q := (RX9, TX9, 11)) (v := .ref (gz_ad false G 19 0)) dX9_printed_15 fl_RX9_41 (gz_hx0 _) rfl rfl (by decide) rfl ?_
      refine gz_iload_n C dX9_printed_18 1 rfl ?_
      refine gz_aald6 C (t := 19) dX9_printed_19 (gz_hx19 _) rfl (fun n1 hn1 => ?_)
      refine gz_astore_n C (lv' := [(3, .ref (gz_ad false G 20 n1)), (0, .ref (gz_ad false G 0 0)), (1, .int a1), (2, .int a2)]) dX9_printed_20 (by decide) rfl ?_
      refine gz_iload_n C dX9_printed_21 3 rfl ?_
      refine gz_if_lt (tgt := 33) C dX9_printed_22 (by decide) ?_ ?_
      · skip
        refine gz_iconst C dX9_printed_33 gk_iconst_m1 ?_
        refine gz_goto (tgt := 43) C dX9_printed_34 (by decide) ?_
        exact gz_iret C rfl dX9_printed_43
      · skip
        refine gz_iload_n C dX9_printed_25 3 rfl ?_
        refine gz_aload_n C dX9_printed_26 0 rfl ?_
        refine gz_getN C (t := 20) (k := 4) (ci := 5) (q := (RX5, TX5, 6)) (v := .int (σ.1 20 n1 4)) dX9_printed_27 fl_RX9_255 (gz_hx20 _ hn1) rfl rfl (by decide) rfl ?_
        refine gz_icmp_lt (tgt := 37) C dX9_printed_30 (by decide) ?_ ?_
        · skip
          refine gz_aload_n C dX9_printed_37 0 rfl ?_
          refine gz_getN C (t := 20) (k := 5) (ci := 5) (q := (RX5, TX5, 6)) (v := .ref (gz_ad false G 21 n1)) dX9_printed_38 fl_RX9_265 (gz_hx20 _ hn1) rfl rfl (by decide) rfl ?_
          refine gz_iload_n C dX9_printed_41 3 rfl ?_
          refine gz_iald C (t := 21) dX9_printed_42 (gz_hx21 _ hn1) rfl (fun n2 hn2 => ?_)
          exact gz_iret C rfl dX9_printed_43
        · skip
          refine gz_iconst C dX9_printed_33 gk_iconst_m1 ?_
          refine gz_goto (tgt := 43) C dX9_printed_34 (by decide) ?_
          exact gz_iret C rfl dX9_printed_43
    · skip
      refine gz_iconst C dX9_printed_12 gk_iconst_m1 ?_
      exact gz_iret C rfl dX9_printed_13

def f_X9_law (a1 : Int32) (a2 : Int32) (a3 : Int32) (σ : gz_S) : Option (Int32 × gz_S) :=
  gz_call (f_X9_isKey a1 σ) (fun r2 σ1 =>
  if r2 = 0 then
  (some ((-2147483648), σ1))
  else
  (gz_call (f_X9_isDay a2 σ1) (fun r4 σ3 =>
  if r4 = 0 then
  (some ((-2147483648), σ3))
  else
  (gz_call (f_X9_isDay a3 σ3) (fun r6 σ5 =>
  if r6 = 0 then
  (some ((-2147483648), σ5))
  else
  (gz_then (f_X1_markVoid a3 σ5) (fun σ7 =>
  gz_call (f_X1_lawPlace a1 a2 a3 σ7) (fun r9 σ8 =>
  gz_call (f_X1_lawValue r9 σ8) (fun r11 σ10 =>
  some (r11, σ10))))))))))
set_option maxHeartbeats 4000000 in
set_option maxRecDepth 100000 in
theorem c_X9_law (l : Launch) (G : gz_G) (a1 : Int32) (a2 : Int32) (a3 : Int32) (σ : gz_S) : ∀ o, f_X9_law a1 a2 a3 σ = some o → gz_M l false G yX9_law cX9_law 4 (some .int) { frames := 2, cells := 0, slots := 0, locals := 50 } [.ref (gz_ad false G 0 0), .int a1, .int a2, .int a3] σ (gz_ei o) 0 0 := by
  refine gz_enter RX9 rfl (by decide) (Nat.le_of_ble_eq_true rfl) ?_
  intro p e s m args below meth c C
  refine gz_eqs (st' := []) (lv' := [(0, .ref (gz_ad false G 0 0)), (1, .int a1), (2, .int a2), (3, .int a3)]) rfl rfl ?_
  unfold f_X9_law
  refine gz_iload_n C dX9_law_0 1 rfl ?_
  refine gz_ki (gz_runS (As := [.int a1]) (rest := []) C dX9_law_1 ml_RX9_221 mw_X9_isKey ms_X9_isKey (c_X9_isKey l G a1 σ) rfl rfl (Nat.le_of_ble_eq_true rfl) ⟨rfl, rfl, Nat.le_of_ble_eq_true rfl, Nat.le_of_ble_eq_true rfl, Nat.le_of_ble_eq_true rfl, Nat.le_of_ble_eq_true rfl⟩) (fun r2 σ1 => ?_)
  refine gz_if_eq (tgt := 21) C dX9_law_4 (by decide) ?_ ?_
  · skip
    refine gz_ldc C dX9_law_21 cw_RX9_224 ?_
    exact gz_iret C rfl dX9_law_23
  · skip
    refine gz_iload_n C dX9_law_7 2 rfl ?_
    refine gz_ki (gz_runS (As := [.int a2]) (rest := []) C dX9_law_8 ml_RX9_64 mw_X9_isDay ms_X9_isDay (c_X9_isDay l G a2 σ1) rfl rfl (Nat.le_of_ble_eq_true rfl) ⟨rfl, rfl, Nat.le_of_ble_eq_true rfl, Nat.le_of_ble_eq_true rfl, Nat.le_of_ble_eq_true rfl, Nat.le_of_ble_eq_true rfl⟩) (fun r4 σ3 => ?_)
    refine gz_if_eq (tgt := 21) C dX9_law_11 (by decide) ?_ ?_
    · skip
      refine gz_ldc C dX9_law_21 cw_RX9_224 ?_
      exact gz_iret C rfl dX9_law_23
    · skip
      refine gz_iload_n C dX9_law_14 3 rfl ?_
      refine gz_ki (gz_runS (As := [.int a3]) (rest := []) C dX9_law_15 ml_RX9_64 mw_X9_isDay ms_X9_isDay (c_X9_isDay l G a3 σ3) rfl rfl (Nat.le_of_ble_eq_true rfl) ⟨rfl, rfl, Nat.le_of_ble_eq_true rfl, Nat.le_of_ble_eq_true rfl, Nat.le_of_ble_eq_true rfl, Nat.le_of_ble_eq_true rfl⟩) (fun r6 σ5 => ?_)
      refine gz_if_ne (tgt := 24) C dX9_law_18 (by decide) ?_ ?_
      · skip
        refine gz_aload_n C dX9_law_24 0 rfl ?_
        refine gz_get C (t := 0) (k := 4) (ci := 9) (q := (RX9, TX9, 11)) (v := .ref (gz_ad false G 10 0)) dX9_law_25 fl_RX9_35 (gz_hx0 _) rfl rfl (by decide) rfl ?_
        refine gz_iload_n C dX9_law_28 3 rfl ?_
        refine gz_kv (gz_runV (t := 10) (ci := 1) (q := (RX1, TX1, 6)) (As := [.int a3]) (rest := []) C dX9_law_29 ml_RX9_269 mw_X1_markVoid mv_X1_markVoid (c_X1_markVoid l G a3 σ5) (gz_hx10 _) rfl rfl rfl rfl rfl (Nat.le_of_ble_eq_true rfl) ⟨rfl, rfl, Nat.le_of_ble_eq_true rfl, Nat.le_of_ble_eq_true rfl, Nat.le_of_ble_eq_true rfl, Nat.le_of_ble_eq_true rfl⟩) (fun σ7 => ?_)
        refine gz_aload_n C dX9_law_32 0 rfl ?_
        refine gz_get C (t := 0) (k := 4) (ci := 9) (q := (RX9, TX9, 11)) (v := .ref (gz_ad false G 10 0)) dX9_law_33 fl_RX9_35 (gz_hx0 _) rfl rfl (by decide) rfl ?_
        refine gz_aload_n C dX9_law_36 0 rfl ?_
        refine gz_get C (t := 0) (k := 4) (ci := 9) (q := (RX9, TX9, 11)) (v := .ref (gz_ad false G 10 0)) dX9_law_37 fl_RX9_35 (gz_hx0 _) rfl rfl (by decide) rfl ?_
        refine gz_iload_n C dX9_law_40 1 rfl ?_
        refine gz_iload_n C dX9_law_41 2 rfl ?_
        refine gz_iload_n C dX9_law_42 3 rfl ?_
        refine gz_ki (gz_runV (t := 10) (ci := 1) (q := (RX1, TX1, 6)) (As := [.int a1, .int a2, .int a3]) (rest := [.ref (gz_ad false G 10 0)]) C dX9_law_43 ml_RX9_272 mw_X1_lawPlace mv_X1_lawPlace (c_X1_lawPlace l G a1 a2 a3 σ7) (gz_hx10 _) rfl rfl rfl rfl rfl (Nat.le_of_ble_eq_true rfl) ⟨rfl, rfl, Nat.le_of_ble_eq_true rfl, Nat.le_of_ble_eq_true rfl, Nat.le_of_ble_eq_true rfl, Nat.le_of_ble_eq_true rfl⟩) (fun r9 σ8 => ?_)
        refine gz_ki (gz_runV (t := 10) (ci := 1) (q := (RX1, TX1, 6)) (As := [.int r9]) (rest := []) C dX9_law_46 ml_RX9_276 mw_X1_lawValue mv_X1_lawValue (c_X1_lawValue l G r9 σ8) (gz_hx10 _) rfl rfl rfl rfl rfl (Nat.le_of_ble_eq_true rfl) ⟨rfl, rfl, Nat.le_of_ble_eq_true rfl, Nat.le_of_ble_eq_true rfl, Nat.le_of_ble_eq_true rfl, Nat.le_of_ble_eq_true rfl⟩) (fun r11 σ10 => ?_)
        exact gz_iret C rfl dX9_law_49
      · skip
        refine gz_ldc C dX9_law_21 cw_RX9_224 ?_
        exact gz_iret C rfl dX9_law_23

def f_X9_source (a1 : Int32) (a2 : Int32) (a3 : Int32) (σ : gz_S) : Option (Int32 × gz_S) :=
  gz_call (f_X9_isKey a1 σ) (fun r2 σ1 =>
  if r2 = 0 then
  (some ((-1), σ1))
  else
  (gz_call (f_X9_isDay a2 σ1) (fun r4 σ3 =>
  if r4 = 0 then
  (some ((-1), σ3))
  else
  (gz_call (f_X9_isDay a3 σ3) (fun r6 σ5 =>
  if r6 = 0 then
  (some ((-1), σ5))
  else
  (gz_then (f_X1_markVoid a3 σ5) (fun σ7 =>
  gz_call (f_X1_lawPlace a1 a2 a3 σ7) (fun r9 σ8 =>
  if r9 = (-1) then
  (some ((-1), σ8))
  else
  (some (r9 / 4, σ8))))))))))
set_option maxHeartbeats 4000000 in
set_option maxRecDepth 100000 in
theorem c_X9_source (l : Launch) (G : gz_G) (a1 : Int32) (a2 : Int32) (a3 : Int32) (σ : gz_S) : ∀ o, f_X9_source a1 a2 a3 σ = some o → gz_M l false G yX9_source cX9_source 5 (some .int) { frames := 2, cells := 0, slots := 0, locals := 50 } [.ref (gz_ad false G 0 0), .int a1, .int a2, .int a3] σ (gz_ei o) 0 0 := by
  refine gz_enter RX9 rfl (by decide) (Nat.le_of_ble_eq_true rfl) ?_
  intro p e s m args below meth c C
  refine gz_eqs (st' := []) (lv' := [(0, .ref (gz_ad false G 0 0)), (1, .int a1), (2, .int a2), (3, .int a3)]) rfl rfl ?_
  unfold f_X9_source
  refine gz_iload_n C dX9_source_0 1 rfl ?_
  refine gz_ki (gz_runS (As := [.int a1]) (rest := []) C dX9_source_1 ml_RX9_221 mw_X9_isKey ms_X9_isKey (c_X9_isKey l G a1 σ) rfl rfl (Nat.le_of_ble_eq_true rfl) ⟨rfl, rfl, Nat.le_of_ble_eq_true rfl, Nat.le_of_ble_eq_true rfl, Nat.le_of_ble_eq_true rfl, Nat.le_of_ble_eq_true rfl⟩) (fun r2 σ1 => ?_)
  refine gz_if_eq (tgt := 21) C dX9_source_4 (by decide) ?_ ?_
  · skip
    refine gz_iconst C dX9_source_21 gk_iconst_m1 ?_
    exact gz_iret C rfl dX9_source_22
  · skip
    refine gz_iload_n C dX9_source_7 2 rfl ?_
    refine gz_ki (gz_runS (As := [.int a2]) (rest := []) C dX9_source_8 ml_RX9_64 mw_X9_isDay ms_X9_isDay (c_X9_isDay l G a2 σ1) rfl rfl (Nat.le_of_ble_eq_true rfl) ⟨rfl, rfl, Nat.le_of_ble_eq_true rfl, Nat.le_of_ble_eq_true rfl, Nat.le_of_ble_eq_true rfl, Nat.le_of_ble_eq_true rfl⟩) (fun r4 σ3 => ?_)
    refine gz_if_eq (tgt := 21) C dX9_source_11 (by decide) ?_ ?_
    · skip
      refine gz_iconst C dX9_source_21 gk_iconst_m1 ?_
      exact gz_iret C rfl dX9_source_22
    · skip
      refine gz_iload_n C dX9_source_14 3 rfl ?_
      refine gz_ki (gz_runS (As := [.int a3]) (rest := []) C dX9_source_15 ml_RX9_64 mw_X9_isDay ms_X9_isDay (c_X9_isDay l G a3 σ3) rfl rfl (Nat.le_of_ble_eq_true rfl) ⟨rfl, rfl, Nat.le_of_ble_eq_true rfl, Nat.le_of_ble_eq_true rfl, Nat.le_of_ble_eq_true rfl, Nat.le_of_ble_eq_true rfl⟩) (fun r6 σ5 => ?_)
      refine gz_if_ne (tgt := 23) C dX9_source_18 (by decide) ?_ ?_
      · skip
        refine gz_aload_n C dX9_source_23 0 rfl ?_
        refine gz_get C (t := 0) (k := 4) (ci := 9) (q := (RX9, TX9, 11)) (v := .ref (gz_ad false G 10 0)) dX9_source_24 fl_RX9_35 (gz_hx0 _) rfl rfl (by decide) rfl ?_
        refine gz_iload_n C dX9_source_27 3 rfl ?_
        refine gz_kv (gz_runV (t := 10) (ci := 1) (q := (RX1, TX1, 6)) (As := [.int a3]) (rest := []) C dX9_source_28 ml_RX9_269 mw_X1_markVoid mv_X1_markVoid (c_X1_markVoid l G a3 σ5) (gz_hx10 _) rfl rfl rfl rfl rfl (Nat.le_of_ble_eq_true rfl) ⟨rfl, rfl, Nat.le_of_ble_eq_true rfl, Nat.le_of_ble_eq_true rfl, Nat.le_of_ble_eq_true rfl, Nat.le_of_ble_eq_true rfl⟩) (fun σ7 => ?_)
        refine gz_aload_n C dX9_source_31 0 rfl ?_
        refine gz_get C (t := 0) (k := 4) (ci := 9) (q := (RX9, TX9, 11)) (v := .ref (gz_ad false G 10 0)) dX9_source_32 fl_RX9_35 (gz_hx0 _) rfl rfl (by decide) rfl ?_
        refine gz_iload_n C dX9_source_35 1 rfl ?_
        refine gz_iload_n C dX9_source_36 2 rfl ?_
        refine gz_iload_n C dX9_source_37 3 rfl ?_
        refine gz_ki (gz_runV (t := 10) (ci := 1) (q := (RX1, TX1, 6)) (As := [.int a1, .int a2, .int a3]) (rest := []) C dX9_source_38 ml_RX9_272 mw_X1_lawPlace mv_X1_lawPlace (c_X1_lawPlace l G a1 a2 a3 σ7) (gz_hx10 _) rfl rfl rfl rfl rfl (Nat.le_of_ble_eq_true rfl) ⟨rfl, rfl, Nat.le_of_ble_eq_true rfl, Nat.le_of_ble_eq_true rfl, Nat.le_of_ble_eq_true rfl, Nat.le_of_ble_eq_true rfl⟩) (fun r9 σ8 => ?_)
        refine gz_istore C (lv' := [(4, .int r9), (0, .ref (gz_ad false G 0 0)), (1, .int a1), (2, .int a2), (3, .int a3)]) dX9_source_41 (by decide) rfl ?_
        refine gz_iload C dX9_source_43 0 rfl ?_
        refine gz_iconst C dX9_source_45 gk_iconst_m1 ?_
        refine gz_icmp_ne (tgt := 53) C dX9_source_46 (by decide) ?_ ?_
        · skip
          refine gz_iload C dX9_source_53 0 rfl ?_
          refine gz_iconst C dX9_source_55 gk_iconst_4 ?_
          refine gz_idiv C dX9_source_56 (by decide) ?_
          exact gz_iret C rfl dX9_source_57
        · skip
          refine gz_iconst C dX9_source_49 gk_iconst_m1 ?_
          refine gz_goto (tgt := 57) C dX9_source_50 (by decide) ?_
          exact gz_iret C rfl dX9_source_57
      · skip
        refine gz_iconst C dX9_source_21 gk_iconst_m1 ?_
        exact gz_iret C rfl dX9_source_22

def f_X9_isVoid (a1 : Int32) (a2 : Int32) (σ : gz_S) : Option (Int32 × gz_S) :=
  gz_call (f_X1_at a1 σ) (fun r2 σ1 =>
  gz_nl r2 61 (some ((-1), σ1)) (fun i3 =>
  gz_call (f_X9_isDay a2 σ1) (fun r5 σ4 =>
  if r5 = 0 then
  (some ((-1), σ4))
  else
  (gz_call (f_X6_isKnown i3 a2 σ4) (fun r7 σ6 =>
  if r7 = 0 then
  (some ((-1), σ6))
  else
  (gz_then (f_X1_markVoid a2 σ6) (fun σ8 =>
  if (σ8.1 14 i3 14) = 0 then
  (some (0, σ8))
  else
  (some (1, σ8)))))))))
set_option maxHeartbeats 4000000 in
set_option maxRecDepth 100000 in
theorem c_X9_isVoid (l : Launch) (G : gz_G) (a1 : Int32) (a2 : Int32) (σ : gz_S) : ∀ o, f_X9_isVoid a1 a2 σ = some o → gz_M l false G yX9_isVoid cX9_isVoid 4 (some .int) { frames := 2, cells := 0, slots := 0, locals := 45 } [.ref (gz_ad false G 0 0), .int a1, .int a2] σ (gz_ei o) 0 0 := by
  refine gz_enter RX9 rfl (by decide) (Nat.le_of_ble_eq_true rfl) ?_
  intro p e s m args below meth c C
  refine gz_eqs (st' := []) (lv' := [(0, .ref (gz_ad false G 0 0)), (1, .int a1), (2, .int a2)]) rfl rfl ?_
  unfold f_X9_isVoid
  refine gz_aload_n C dX9_isVoid_0 0 rfl ?_
  refine gz_get C (t := 0) (k := 4) (ci := 9) (q := (RX9, TX9, 11)) (v := .ref (gz_ad false G 10 0)) dX9_isVoid_1 fl_RX9_35 (gz_hx0 _) rfl rfl (by decide) rfl ?_
  refine gz_iload_n C dX9_isVoid_4 1 rfl ?_
  refine gz_kr (t := 14) (gz_runV (t := 10) (ci := 1) (q := (RX1, TX1, 6)) (As := [.int a1]) (rest := []) C dX9_isVoid_5 ml_RX9_183 mw_X1_at mv_X1_at (c_X1_at l G a1 σ) (gz_hx10 _) rfl rfl rfl rfl rfl (Nat.le_of_ble_eq_true rfl) ⟨rfl, rfl, Nat.le_of_ble_eq_true rfl, Nat.le_of_ble_eq_true rfl, Nat.le_of_ble_eq_true rfl, Nat.le_of_ble_eq_true rfl⟩) (fun r2 σ1 => ?_)
  refine gz_astoreV_n C (lv' := [(3, gz_rv false G 14 r2), (0, .ref (gz_ad false G 0 0)), (1, .int a1), (2, .int a2)]) dX9_isVoid_8 (by decide) rfl (gz_rv_or _ _ _ _) ?_
  refine gz_aloadV_n C dX9_isVoid_9 0 rfl (gz_rv_or _ _ _ _) ?_
  refine gz_ifnull (tgt := 28) C dX9_isVoid_10 (by decide) (fun hr => ?_) (fun i3 hi3 hr => ?_)
  · subst hr
    refine gz_eqs (st' := []) (lv' := [(3, .null), (0, .ref (gz_ad false G 0 0)), (1, .int a1), (2, .int a2)]) rfl rfl ?_
    refine gz_iconst C dX9_isVoid_28 gk_iconst_m1 ?_
    exact gz_iret C rfl dX9_isVoid_29
  · subst hr
    refine gz_eqs (st' := []) (lv' := [(3, .ref (gz_ad false G 14 i3)), (0, .ref (gz_ad false G 0 0)), (1, .int a1), (2, .int a2)]) rfl rfl ?_
    refine gz_iload_n C dX9_isVoid_13 3 rfl ?_
    refine gz_ki (gz_runS (As := [.int a2]) (rest := []) C dX9_isVoid_14 ml_RX9_64 mw_X9_isDay ms_X9_isDay (c_X9_isDay l G a2 σ1) rfl rfl (Nat.le_of_ble_eq_true rfl) ⟨rfl, rfl, Nat.le_of_ble_eq_true rfl, Nat.le_of_ble_eq_true rfl, Nat.le_of_ble_eq_true rfl, Nat.le_of_ble_eq_true rfl⟩) (fun r5 σ4 => ?_)
    refine gz_if_eq (tgt := 28) C dX9_isVoid_17 (by decide) ?_ ?_
    · skip
      refine gz_iconst C dX9_isVoid_28 gk_iconst_m1 ?_
      exact gz_iret C rfl dX9_isVoid_29
    · skip
      refine gz_aload_n C dX9_isVoid_20 0 rfl ?_
      refine gz_iload_n C dX9_isVoid_21 3 rfl ?_
      refine gz_ki (gz_runV (t := 14) (ci := 6) (q := (RX6, TX6, 15)) (As := [.int a2]) (rest := []) C dX9_isVoid_22 ml_RX9_279 mw_X6_isKnown mv_X6_isKnown (c_X6_isKnown l G i3 a2 hi3 σ4) (gz_hx14 _ hi3) rfl rfl rfl rfl rfl (Nat.le_of_ble_eq_true rfl) ⟨rfl, rfl, Nat.le_of_ble_eq_true rfl, Nat.le_of_ble_eq_true rfl, Nat.le_of_ble_eq_true rfl, Nat.le_of_ble_eq_true rfl⟩) (fun r7 σ6 => ?_)
      refine gz_if_ne (tgt := 30) C dX9_isVoid_25 (by decide) ?_ ?_
      · skip
        refine gz_aload_n C dX9_isVoid_30 1 rfl ?_
        refine gz_get C (t := 0) (k := 4) (ci := 9) (q := (RX9, TX9, 11)) (v := .ref (gz_ad false G 10 0)) dX9_isVoid_31 fl_RX9_35 (gz_hx0 _) rfl rfl (by decide) rfl ?_
        refine gz_iload_n C dX9_isVoid_34 3 rfl ?_
        refine gz_kv (gz_runV (t := 10) (ci := 1) (q := (RX1, TX1, 6)) (As := [.int a2]) (rest := []) C dX9_isVoid_35 ml_RX9_269 mw_X1_markVoid mv_X1_markVoid (c_X1_markVoid l G a2 σ6) (gz_hx10 _) rfl rfl rfl rfl rfl (Nat.le_of_ble_eq_true rfl) ⟨rfl, rfl, Nat.le_of_ble_eq_true rfl, Nat.le_of_ble_eq_true rfl, Nat.le_of_ble_eq_true rfl, Nat.le_of_ble_eq_true rfl⟩) (fun σ8 => ?_)
        refine gz_aload_n C dX9_isVoid_38 0 rfl ?_
        refine gz_getN C (t := 14) (k := 14) (ci := 6) (q := (RX6, TX6, 15)) (v := .int (σ8.1 14 i3 14)) dX9_isVoid_39 fl_RX9_282 (gz_hx14 _ hi3) rfl rfl (by decide) rfl ?_
        refine gz_if_eq (tgt := 49) C dX9_isVoid_42 (by decide) ?_ ?_
        · skip
          refine gz_iconst C dX9_isVoid_49 gk_iconst_0 ?_
          exact gz_iret C rfl dX9_isVoid_50
        · skip
          refine gz_iconst C dX9_isVoid_45 gk_iconst_1 ?_
          refine gz_goto (tgt := 50) C dX9_isVoid_46 (by decide) ?_
          exact gz_iret C rfl dX9_isVoid_50
      · skip
        refine gz_iconst C dX9_isVoid_28 gk_iconst_m1 ?_
        exact gz_iret C rfl dX9_isVoid_29

def f_X9_changes (a1 : Int32) (a2 : Int32) (σ : gz_S) : Option (Int32 × gz_S) :=
  gz_call (f_X9_isKey a1 σ) (fun r2 σ1 =>
  if r2 = 0 then
  (some ((-1), σ1))
  else
  (gz_call (f_X9_isDay a2 σ1) (fun r4 σ3 =>
  if r4 = 0 then
  (some ((-1), σ3))
  else
  (gz_then (f_X1_markVoid a2 σ3) (fun σ5 =>
  gz_call (f_X1_countChanges a1 a2 σ5) (fun r7 σ6 =>
  some (r7, σ6)))))))
set_option maxHeartbeats 4000000 in
set_option maxRecDepth 100000 in
theorem c_X9_changes (l : Launch) (G : gz_G) (a1 : Int32) (a2 : Int32) (σ : gz_S) : ∀ o, f_X9_changes a1 a2 σ = some o → gz_M l false G yX9_changes cX9_changes 3 (some .int) { frames := 3, cells := 0, slots := 0, locals := 76 } [.ref (gz_ad false G 0 0), .int a1, .int a2] σ (gz_ei o) 0 0 := by
  refine gz_enter RX9 rfl (by decide) (Nat.le_of_ble_eq_true rfl) ?_
  intro p e s m args below meth c C
  refine gz_eqs (st' := []) (lv' := [(0, .ref (gz_ad false G 0 0)), (1, .int a1), (2, .int a2)]) rfl rfl ?_
  unfold f_X9_changes
  refine gz_iload_n C dX9_changes_0 1 rfl ?_
  refine gz_ki (gz_runS (As := [.int a1]) (rest := []) C dX9_changes_1 ml_RX9_221 mw_X9_isKey ms_X9_isKey (c_X9_isKey l G a1 σ) rfl rfl (Nat.le_of_ble_eq_true rfl) ⟨rfl, rfl, Nat.le_of_ble_eq_true rfl, Nat.le_of_ble_eq_true rfl, Nat.le_of_ble_eq_true rfl, Nat.le_of_ble_eq_true rfl⟩) (fun r2 σ1 => ?_)
  refine gz_if_eq (tgt := 14) C dX9_changes_4 (by decide) ?_ ?_
  · skip
    refine gz_iconst C dX9_changes_14 gk_iconst_m1 ?_
    exact gz_iret C rfl dX9_changes_15
  · skip
    refine gz_iload_n C dX9_changes_7 2 rfl ?_
    refine gz_ki (gz_runS (As := [.int a2]) (rest := []) C dX9_changes_8 ml_RX9_64 mw_X9_isDay ms_X9_isDay (c_X9_isDay l G a2 σ1) rfl rfl (Nat.le_of_ble_eq_true rfl) ⟨rfl, rfl, Nat.le_of_ble_eq_true rfl, Nat.le_of_ble_eq_true rfl, Nat.le_of_ble_eq_true rfl, Nat.le_of_ble_eq_true rfl⟩) (fun r4 σ3 => ?_)
    refine gz_if_ne (tgt := 16) C dX9_changes_11 (by decide) ?_ ?_
    · skip
      refine gz_aload_n C dX9_changes_16 0 rfl ?_
      refine gz_get C (t := 0) (k := 4) (ci := 9) (q := (RX9, TX9, 11)) (v := .ref (gz_ad false G 10 0)) dX9_changes_17 fl_RX9_35 (gz_hx0 _) rfl rfl (by decide) rfl ?_
      refine gz_iload_n C dX9_changes_20 2 rfl ?_
      refine gz_kv (gz_runV (t := 10) (ci := 1) (q := (RX1, TX1, 6)) (As := [.int a2]) (rest := []) C dX9_changes_21 ml_RX9_269 mw_X1_markVoid mv_X1_markVoid (c_X1_markVoid l G a2 σ3) (gz_hx10 _) rfl rfl rfl rfl rfl (Nat.le_of_ble_eq_true rfl) ⟨rfl, rfl, Nat.le_of_ble_eq_true rfl, Nat.le_of_ble_eq_true rfl, Nat.le_of_ble_eq_true rfl, Nat.le_of_ble_eq_true rfl⟩) (fun σ5 => ?_)
      refine gz_aload_n C dX9_changes_24 0 rfl ?_
      refine gz_get C (t := 0) (k := 4) (ci := 9) (q := (RX9, TX9, 11)) (v := .ref (gz_ad false G 10 0)) dX9_changes_25 fl_RX9_35 (gz_hx0 _) rfl rfl (by decide) rfl ?_
      refine gz_iload_n C dX9_changes_28 1 rfl ?_
      refine gz_iload_n C dX9_changes_29 2 rfl ?_
      refine gz_ki (gz_runV (t := 10) (ci := 1) (q := (RX1, TX1, 6)) (As := [.int a1, .int a2]) (rest := []) C dX9_changes_30 ml_RX9_285 mw_X1_countChanges mv_X1_countChanges (c_X1_countChanges l G a1 a2 σ5) (gz_hx10 _) rfl rfl rfl rfl rfl (Nat.le_of_ble_eq_true rfl) ⟨rfl, rfl, Nat.le_of_ble_eq_true rfl, Nat.le_of_ble_eq_true rfl, Nat.le_of_ble_eq_true rfl, Nat.le_of_ble_eq_true rfl⟩) (fun r7 σ6 => ?_)
      exact gz_iret C rfl dX9_changes_33
    · skip
      refine gz_iconst C dX9_changes_14 gk_iconst_m1 ?_
      exact gz_iret C rfl dX9_changes_15

def f_X9_find (a1 : Int64) (a2 : Int32) (σ : gz_S) : Option (Int32 × gz_S) :=
  gz_call (f_X9_isWord a1 σ) (fun r2 σ1 =>
  if r2 = 0 then
  (some ((-1), σ1))
  else
  (gz_call (f_X9_isDay a2 σ1) (fun r4 σ3 =>
  if r4 = 0 then
  (some ((-1), σ3))
  else
  (gz_then (f_X1_gatherNames a1 a2 σ3) (fun σ5 =>
  gz_then (f_X1_search a2 σ5) (fun σ6 =>
  some (σ6.1 10 0 5, σ6)))))))
set_option maxHeartbeats 4000000 in
set_option maxRecDepth 100000 in
theorem c_X9_find (l : Launch) (G : gz_G) (a1 : Int64) (a2 : Int32) (σ : gz_S) : ∀ o, f_X9_find a1 a2 σ = some o → gz_M l false G yX9_find cX9_find 4 (some .int) { frames := 3, cells := 0, slots := 0, locals := 72 } [.ref (gz_ad false G 0 0), .long a1, .int a2] σ (gz_ei o) 0 0 := by
  refine gz_enter RX9 rfl (by decide) (Nat.le_of_ble_eq_true rfl) ?_
  intro p e s m args below meth c C
  refine gz_eqs (st' := []) (lv' := [(0, .ref (gz_ad false G 0 0)), (1, .long a1), (3, .int a2)]) rfl rfl ?_
  unfold f_X9_find
  refine gz_lload_n C dX9_find_0 1 rfl ?_
  refine gz_ki (gz_runS (As := [.long a1]) (rest := []) C dX9_find_1 ml_RX9_228 mw_X9_isWord ms_X9_isWord (c_X9_isWord l G a1 σ) rfl rfl (Nat.le_of_ble_eq_true rfl) ⟨rfl, rfl, Nat.le_of_ble_eq_true rfl, Nat.le_of_ble_eq_true rfl, Nat.le_of_ble_eq_true rfl, Nat.le_of_ble_eq_true rfl⟩) (fun r2 σ1 => ?_)
  refine gz_if_eq (tgt := 14) C dX9_find_4 (by decide) ?_ ?_
  · skip
    refine gz_iconst C dX9_find_14 gk_iconst_m1 ?_
    exact gz_iret C rfl dX9_find_15
  · skip
    refine gz_iload_n C dX9_find_7 2 rfl ?_
    refine gz_ki (gz_runS (As := [.int a2]) (rest := []) C dX9_find_8 ml_RX9_64 mw_X9_isDay ms_X9_isDay (c_X9_isDay l G a2 σ1) rfl rfl (Nat.le_of_ble_eq_true rfl) ⟨rfl, rfl, Nat.le_of_ble_eq_true rfl, Nat.le_of_ble_eq_true rfl, Nat.le_of_ble_eq_true rfl, Nat.le_of_ble_eq_true rfl⟩) (fun r4 σ3 => ?_)
    refine gz_if_ne (tgt := 16) C dX9_find_11 (by decide) ?_ ?_
    · skip
      refine gz_aload_n C dX9_find_16 0 rfl ?_
      refine gz_get C (t := 0) (k := 4) (ci := 9) (q := (RX9, TX9, 11)) (v := .ref (gz_ad false G 10 0)) dX9_find_17 fl_RX9_35 (gz_hx0 _) rfl rfl (by decide) rfl ?_
      refine gz_lload_n C dX9_find_20 1 rfl ?_
      refine gz_iload_n C dX9_find_21 2 rfl ?_
      refine gz_kv (gz_runV (t := 10) (ci := 1) (q := (RX1, TX1, 6)) (As := [.long a1, .int a2]) (rest := []) C dX9_find_22 ml_RX9_289 mw_X1_gatherNames mv_X1_gatherNames (c_X1_gatherNames l G a1 a2 σ3) (gz_hx10 _) rfl rfl rfl rfl rfl (Nat.le_of_ble_eq_true rfl) ⟨rfl, rfl, Nat.le_of_ble_eq_true rfl, Nat.le_of_ble_eq_true rfl, Nat.le_of_ble_eq_true rfl, Nat.le_of_ble_eq_true rfl⟩) (fun σ5 => ?_)
      refine gz_aload_n C dX9_find_25 0 rfl ?_
      refine gz_get C (t := 0) (k := 4) (ci := 9) (q := (RX9, TX9, 11)) (v := .ref (gz_ad false G 10 0)) dX9_find_26 fl_RX9_35 (gz_hx0 _) rfl rfl (by decide) rfl ?_
      refine gz_aload_n C dX9_find_29 0 rfl ?_
      refine gz_get C (t := 0) (k := 2) (ci := 9) (q := (RX9, TX9, 11)) (v := .ref (gz_ad false G 5 0)) dX9_find_30 fl_RX9_27 (gz_hx0 _) rfl rfl (by decide) rfl ?_
      refine gz_iload_n C dX9_find_33 2 rfl ?_
      refine gz_kv (gz_runV (t := 10) (ci := 1) (q := (RX1, TX1, 6)) (As := [.ref (gz_ad false G 5 0), .int a2]) (rest := []) C dX9_find_34 ml_RX9_293 mw_X1_search mv_X1_search (c_X1_search l G a2 σ5) (gz_hx10 _) rfl rfl rfl rfl rfl (Nat.le_of_ble_eq_true rfl) ⟨rfl, rfl, Nat.le_of_ble_eq_true rfl, Nat.le_of_ble_eq_true rfl, Nat.le_of_ble_eq_true rfl, Nat.le_of_ble_eq_true rfl⟩) (fun σ6 => ?_)
      refine gz_aload_n C dX9_find_37 0 rfl ?_
      refine gz_get C (t := 0) (k := 4) (ci := 9) (q := (RX9, TX9, 11)) (v := .ref (gz_ad false G 10 0)) dX9_find_38 fl_RX9_35 (gz_hx0 _) rfl rfl (by decide) rfl ?_
      refine gz_getN C (t := 10) (k := 5) (ci := 1) (q := (RX1, TX1, 6)) (v := .int (σ6.1 10 0 5)) dX9_find_41 fl_RX9_297 (gz_hx10 _) rfl rfl (by decide) rfl ?_
      exact gz_iret C rfl dX9_find_44
    · skip
      refine gz_iconst C dX9_find_14 gk_iconst_m1 ?_
      exact gz_iret C rfl dX9_find_15

def f_X9_found (a1 : Int32) (σ : gz_S) : Option (Int32 × gz_S) :=
  if a1 < 0 then
  (some ((-1), σ))
  else
  (if a1 < (σ.1 10 0 5) then
  (gz_ix a1 60 (fun n1 =>
  some (σ.1 13 0 n1, σ)))
  else
  (some ((-1), σ)))
set_option maxHeartbeats 4000000 in
set_option maxRecDepth 100000 in
theorem c_X9_found (l : Launch) (G : gz_G) (a1 : Int32) (σ : gz_S) : ∀ o, f_X9_found a1 σ = some o → gz_M l false G yX9_found cX9_found 2 (some .int) { frames := 0, cells := 0, slots := 0, locals := 0 } [.ref (gz_ad false G 0 0), .int a1] σ (gz_ei o) 0 0 := by
  refine gz_enter RX9 rfl (by decide) (Nat.le_of_ble_eq_true rfl) ?_
  intro p e s m args below meth c C
  refine gz_eqs (st' := []) (lv' := [(0, .ref (gz_ad false G 0 0)), (1, .int a1)]) rfl rfl ?_
  unfold f_X9_found
  refine gz_iload_n C dX9_found_0 1 rfl ?_
  refine gz_if_lt (tgt := 15) C dX9_found_1 (by decide) ?_ ?_
  · skip
    refine gz_iconst C dX9_found_15 gk_iconst_m1 ?_
    refine gz_goto (tgt := 28) C dX9_found_16 (by decide) ?_
    exact gz_iret C rfl dX9_found_28
  · skip
    refine gz_iload_n C dX9_found_4 1 rfl ?_
    refine gz_aload_n C dX9_found_5 0 rfl ?_
    refine gz_get C (t := 0) (k := 4) (ci := 9) (q := (RX9, TX9, 11)) (v := .ref (gz_ad false G 10 0)) dX9_found_6 fl_RX9_35 (gz_hx0 _) rfl rfl (by decide) rfl ?_
    refine gz_getN C (t := 10) (k := 5) (ci := 1) (q := (RX1, TX1, 6)) (v := .int (σ.1 10 0 5)) dX9_found_9 fl_RX9_297 (gz_hx10 _) rfl rfl (by decide) rfl ?_
    refine gz_icmp_lt (tgt := 19) C dX9_found_12 (by decide) ?_ ?_
    · skip
      refine gz_aload_n C dX9_found_19 0 rfl ?_
      refine gz_get C (t := 0) (k := 4) (ci := 9) (q := (RX9, TX9, 11)) (v := .ref (gz_ad false G 10 0)) dX9_found_20 fl_RX9_35 (gz_hx0 _) rfl rfl (by decide) rfl ?_
      refine gz_getN C (t := 10) (k := 4) (ci := 1) (q := (RX1, TX1, 6)) (v := .ref (gz_ad false G 13 0)) dX9_found_23 fl_RX9_300 (gz_hx10 _) rfl rfl (by decide) rfl ?_
      refine gz_iload_n C dX9_found_26 1 rfl ?_
      refine gz_iald C (t := 13) dX9_found_27 (gz_hx13 _) rfl (fun n1 hn1 => ?_)
      exact gz_iret C rfl dX9_found_28
    · skip
      refine gz_iconst C dX9_found_15 gk_iconst_m1 ?_
      refine gz_goto (tgt := 28) C dX9_found_16 (by decide) ?_
      exact gz_iret C rfl dX9_found_28

def f_X9_struck (a1 : Int64) (a2 : Int32) (σ : gz_S) : Option (Int32 × gz_S) :=
  gz_call (f_X9_isWord a1 σ) (fun r2 σ1 =>
  if r2 = 0 then
  (some ((-1), σ1))
  else
  (gz_call (f_X9_isDay a2 σ1) (fun r4 σ3 =>
  if r4 = 0 then
  (some ((-1), σ3))
  else
  (gz_call (f_X1_isStruck a1 a2 σ3) (fun r6 σ5 =>
  if r6 = 0 then
  (some (0, σ5))
  else
  (some (1, σ5)))))))
set_option maxHeartbeats 4000000 in
set_option maxRecDepth 100000 in
theorem c_X9_struck (l : Launch) (G : gz_G) (a1 : Int64) (a2 : Int32) (σ : gz_S) : ∀ o, f_X9_struck a1 a2 σ = some o → gz_M l false G yX9_struck cX9_struck 4 (some .int) { frames := 2, cells := 0, slots := 0, locals := 45 } [.ref (gz_ad false G 0 0), .long a1, .int a2] σ (gz_ei o) 0 0 := by
  refine gz_enter RX9 rfl (by decide) (Nat.le_of_ble_eq_true rfl) ?_
  intro p e s m args below meth c C
  refine gz_eqs (st' := []) (lv' := [(0, .ref (gz_ad false G 0 0)), (1, .long a1), (3, .int a2)]) rfl rfl ?_
  unfold f_X9_struck
  refine gz_lload_n C dX9_struck_0 1 rfl ?_
  refine gz_ki (gz_runS (As := [.long a1]) (rest := []) C dX9_struck_1 ml_RX9_228 mw_X9_isWord ms_X9_isWord (c_X9_isWord l G a1 σ) rfl rfl (Nat.le_of_ble_eq_true rfl) ⟨rfl, rfl, Nat.le_of_ble_eq_true rfl, Nat.le_of_ble_eq_true rfl, Nat.le_of_ble_eq_true rfl, Nat.le_of_ble_eq_true rfl⟩) (fun r2 σ1 => ?_)
  refine gz_if_eq (tgt := 14) C dX9_struck_4 (by decide) ?_ ?_
  · skip
    refine gz_iconst C dX9_struck_14 gk_iconst_m1 ?_
    exact gz_iret C rfl dX9_struck_15
  · skip
    refine gz_iload_n C dX9_struck_7 2 rfl ?_
    refine gz_ki (gz_runS (As := [.int a2]) (rest := []) C dX9_struck_8 ml_RX9_64 mw_X9_isDay ms_X9_isDay (c_X9_isDay l G a2 σ1) rfl rfl (Nat.le_of_ble_eq_true rfl) ⟨rfl, rfl, Nat.le_of_ble_eq_true rfl, Nat.le_of_ble_eq_true rfl, Nat.le_of_ble_eq_true rfl, Nat.le_of_ble_eq_true rfl⟩) (fun r4 σ3 => ?_)
    refine gz_if_ne (tgt := 16) C dX9_struck_11 (by decide) ?_ ?_
    · skip
      refine gz_aload_n C dX9_struck_16 0 rfl ?_
      refine gz_get C (t := 0) (k := 4) (ci := 9) (q := (RX9, TX9, 11)) (v := .ref (gz_ad false G 10 0)) dX9_struck_17 fl_RX9_35 (gz_hx0 _) rfl rfl (by decide) rfl ?_
      refine gz_lload_n C dX9_struck_20 1 rfl ?_
      refine gz_iload_n C dX9_struck_21 2 rfl ?_
      refine gz_ki (gz_runV (t := 10) (ci := 1) (q := (RX1, TX1, 6)) (As := [.long a1, .int a2]) (rest := []) C dX9_struck_22 ml_RX9_303 mw_X1_isStruck mv_X1_isStruck (c_X1_isStruck l G a1 a2 σ3) (gz_hx10 _) rfl rfl rfl rfl rfl (Nat.le_of_ble_eq_true rfl) ⟨rfl, rfl, Nat.le_of_ble_eq_true rfl, Nat.le_of_ble_eq_true rfl, Nat.le_of_ble_eq_true rfl, Nat.le_of_ble_eq_true rfl⟩) (fun r6 σ5 => ?_)
      refine gz_if_eq (tgt := 32) C dX9_struck_25 (by decide) ?_ ?_
      · skip
        refine gz_iconst C dX9_struck_32 gk_iconst_0 ?_
        exact gz_iret C rfl dX9_struck_33
      · skip
        refine gz_iconst C dX9_struck_28 gk_iconst_1 ?_
        refine gz_goto (tgt := 33) C dX9_struck_29 (by decide) ?_
        exact gz_iret C rfl dX9_struck_33
    · skip
      refine gz_iconst C dX9_struck_14 gk_iconst_m1 ?_
      exact gz_iret C rfl dX9_struck_15

def f_X9_takeBackSaying (a1 : Option Nat) (σ : gz_S) : Option (gz_S) :=
  gz_nl a1 61 (some σ) (fun i1 =>
  if (σ.1 26 0 6) = 3 then
  (gz_w (gz_si σ 14 i1 6 ((σ.1 14 i1 6) - 1)) (fun σ6 =>
  some σ6))
  else
  (if (σ.1 26 0 6) = 4 then
  (gz_w (gz_si σ 14 i1 10 ((σ.2.1 26 0 8 : Int64).toInt32)) (fun σ5 =>
  some σ5))
  else
  (if (σ.1 26 0 6) = 5 then
  (gz_w (gz_sj σ 14 i1 11 (σ.2.1 26 0 8)) (fun σ3 =>
  gz_w (gz_sj σ3 14 i1 12 (σ3.2.1 26 0 9)) (fun σ4 =>
  some σ4)))
  else
  (if (σ.1 26 0 6) = 6 then
  (gz_w (gz_sj σ 14 i1 13 (σ.2.1 26 0 8)) (fun σ2 =>
  some σ2))
  else
  (some σ)))))
set_option maxHeartbeats 4000000 in
set_option maxRecDepth 100000 in
theorem c_X9_takeBackSaying (l : Launch) (G : gz_G) (a1 : Option Nat) (σ : gz_S) : ∀ o, f_X9_takeBackSaying a1 σ = some o → gz_M l false G yX9_takeBackSaying cX9_takeBackSaying 2 none { frames := 0, cells := 0, slots := 0, locals := 0 } [.ref (gz_ad false G 0 0), gz_rv false G 14 a1] σ (gz_eu o) 0 0 := by
  refine gz_enter RX9 rfl (by decide) (by cases a1 <;> exact Nat.le_of_ble_eq_true rfl) ?_
  intro p e s m args below meth c C
  refine gz_eqs (st' := []) (lv' := [(0, .ref (gz_ad false G 0 0)), (1, gz_rv false G 14 a1)]) rfl rfl ?_
  unfold f_X9_takeBackSaying
  refine gz_aloadV_n C dX9_takeBackSaying_0 1 rfl (gz_rv_or _ _ _ _) ?_
  refine gz_ifnonnull (tgt := 5) C dX9_takeBackSaying_1 (by decide) (fun hr => ?_) (fun i1 hi1 hr => ?_)
  · subst hr
    refine gz_eqs (st' := []) (lv' := [(0, .ref (gz_ad false G 0 0)), (1, .null)]) rfl rfl ?_
    exact gz_vret C rfl dX9_takeBackSaying_4
  · subst hr
    refine gz_eqs (st' := []) (lv' := [(0, .ref (gz_ad false G 0 0)), (1, .ref (gz_ad false G 14 i1))]) rfl rfl ?_
    refine gz_aload_n C dX9_takeBackSaying_5 0 rfl ?_
    refine gz_get C (t := 0) (k := 9) (ci := 9) (q := (RX9, TX9, 11)) (v := .ref (gz_ad false G 26 0)) dX9_takeBackSaying_6 fl_RX9_60 (gz_hx0 _) rfl rfl (by decide) rfl ?_
    refine gz_getN C (t := 26) (k := 6) (ci := 0) (q := (RX0, TX0, 10)) (v := .int (σ.1 26 0 6)) dX9_takeBackSaying_9 fl_RX9_340 (gz_hx26 _) rfl rfl (by decide) rfl ?_
    refine gz_iconst C dX9_takeBackSaying_12 gk_iconst_3 ?_
    refine gz_icmp_ne (tgt := 29) C dX9_takeBackSaying_13 (by decide) ?_ ?_
    · skip
      refine gz_aload_n C dX9_takeBackSaying_29 0 rfl ?_
      refine gz_get C (t := 0) (k := 9) (ci := 9) (q := (RX9, TX9, 11)) (v := .ref (gz_ad false G 26 0)) dX9_takeBackSaying_30 fl_RX9_60 (gz_hx0 _) rfl rfl (by decide) rfl ?_
      refine gz_getN C (t := 26) (k := 6) (ci := 0) (q := (RX0, TX0, 10)) (v := .int (σ.1 26 0 6)) dX9_takeBackSaying_33 fl_RX9_340 (gz_hx26 _) rfl rfl (by decide) rfl ?_
      refine gz_iconst C dX9_takeBackSaying_36 gk_iconst_4 ?_
      refine gz_icmp_ne (tgt := 55) C dX9_takeBackSaying_37 (by decide) ?_ ?_
      · skip
        refine gz_aload_n C dX9_takeBackSaying_55 0 rfl ?_
        refine gz_get C (t := 0) (k := 9) (ci := 9) (q := (RX9, TX9, 11)) (v := .ref (gz_ad false G 26 0)) dX9_takeBackSaying_56 fl_RX9_60 (gz_hx0 _) rfl rfl (by decide) rfl ?_
        refine gz_getN C (t := 26) (k := 6) (ci := 0) (q := (RX0, TX0, 10)) (v := .int (σ.1 26 0 6)) dX9_takeBackSaying_59 fl_RX9_340 (gz_hx26 _) rfl rfl (by decide) rfl ?_
        refine gz_iconst C dX9_takeBackSaying_62 gk_iconst_5 ?_
        refine gz_icmp_ne (tgt := 91) C dX9_takeBackSaying_63 (by decide) ?_ ?_
        · skip
          refine gz_aload_n C dX9_takeBackSaying_91 0 rfl ?_
          refine gz_get C (t := 0) (k := 9) (ci := 9) (q := (RX9, TX9, 11)) (v := .ref (gz_ad false G 26 0)) dX9_takeBackSaying_92 fl_RX9_60 (gz_hx0 _) rfl rfl (by decide) rfl ?_
          refine gz_getN C (t := 26) (k := 6) (ci := 0) (q := (RX0, TX0, 10)) (v := .int (σ.1 26 0 6)) dX9_takeBackSaying_95 fl_RX9_340 (gz_hx26 _) rfl rfl (by decide) rfl ?_
          refine gz_bipush C dX9_takeBackSaying_98 gk_bipush_6 ?_
          refine gz_icmp_ne (tgt := 114) C dX9_takeBackSaying_100 (by decide) ?_ ?_
          · skip
            exact gz_vret C rfl dX9_takeBackSaying_114
          · skip
            refine gz_aload_n C dX9_takeBackSaying_103 1 rfl ?_
            refine gz_aload_n C dX9_takeBackSaying_104 0 rfl ?_
            refine gz_get C (t := 0) (k := 9) (ci := 9) (q := (RX9, TX9, 11)) (v := .ref (gz_ad false G 26 0)) dX9_takeBackSaying_105 fl_RX9_60 (gz_hx0 _) rfl rfl (by decide) rfl ?_
            refine gz_getN C (t := 26) (k := 8) (ci := 0) (q := (RX0, TX0, 10)) (v := .long (σ.2.1 26 0 8)) dX9_takeBackSaying_108 fl_RX9_344 (gz_hx26 _) rfl rfl (by decide) rfl ?_
            refine gz_putJN C (t := 14) (k := 13) (ci := 6) (q := (RX6, TX6, 15)) dX9_takeBackSaying_111 fl_RX9_218 (gz_hx14 _ hi1) rfl rfl (by decide) rfl rfl rfl rfl ?_
            refine gz_w_row (fun σ2 => ?_)
            exact gz_vret C rfl dX9_takeBackSaying_114
        · skip
          refine gz_aload_n C dX9_takeBackSaying_66 1 rfl ?_
          refine gz_aload_n C dX9_takeBackSaying_67 0 rfl ?_
          refine gz_get C (t := 0) (k := 9) (ci := 9) (q := (RX9, TX9, 11)) (v := .ref (gz_ad false G 26 0)) dX9_takeBackSaying_68 fl_RX9_60 (gz_hx0 _) rfl rfl (by decide) rfl ?_
          refine gz_getN C (t := 26) (k := 8) (ci := 0) (q := (RX0, TX0, 10)) (v := .long (σ.2.1 26 0 8)) dX9_takeBackSaying_71 fl_RX9_344 (gz_hx26 _) rfl rfl (by decide) rfl ?_
          refine gz_putJN C (t := 14) (k := 11) (ci := 6) (q := (RX6, TX6, 15)) dX9_takeBackSaying_74 fl_RX9_232 (gz_hx14 _ hi1) rfl rfl (by decide) rfl rfl rfl rfl ?_
          refine gz_w_row (fun σ3 => ?_)
          refine gz_aload_n C dX9_takeBackSaying_77 1 rfl ?_
          refine gz_aload_n C dX9_takeBackSaying_78 0 rfl ?_
          refine gz_get C (t := 0) (k := 9) (ci := 9) (q := (RX9, TX9, 11)) (v := .ref (gz_ad false G 26 0)) dX9_takeBackSaying_79 fl_RX9_60 (gz_hx0 _) rfl rfl (by decide) rfl ?_
          refine gz_getN C (t := 26) (k := 9) (ci := 0) (q := (RX0, TX0, 10)) (v := .long (σ3.2.1 26 0 9)) dX9_takeBackSaying_82 fl_RX9_351 (gz_hx26 _) rfl rfl (by decide) rfl ?_
          refine gz_putJN C (t := 14) (k := 12) (ci := 6) (q := (RX6, TX6, 15)) dX9_takeBackSaying_85 fl_RX9_214 (gz_hx14 _ hi1) rfl rfl (by decide) rfl rfl rfl rfl ?_
          refine gz_w_row (fun σ4 => ?_)
          refine gz_goto (tgt := 114) C dX9_takeBackSaying_88 (by decide) ?_
          exact gz_vret C rfl dX9_takeBackSaying_114
      · skip
        refine gz_aload_n C dX9_takeBackSaying_40 1 rfl ?_
        refine gz_aload_n C dX9_takeBackSaying_41 0 rfl ?_
        refine gz_get C (t := 0) (k := 9) (ci := 9) (q := (RX9, TX9, 11)) (v := .ref (gz_ad false G 26 0)) dX9_takeBackSaying_42 fl_RX9_60 (gz_hx0 _) rfl rfl (by decide) rfl ?_
        refine gz_getN C (t := 26) (k := 8) (ci := 0) (q := (RX0, TX0, 10)) (v := .long (σ.2.1 26 0 8)) dX9_takeBackSaying_45 fl_RX9_344 (gz_hx26 _) rfl rfl (by decide) rfl ?_
        refine gz_l2i C dX9_takeBackSaying_48 ?_
        refine gz_putIN C (t := 14) (k := 10) (ci := 6) (q := (RX6, TX6, 15)) dX9_takeBackSaying_49 fl_RX9_211 (gz_hx14 _ hi1) rfl rfl (by decide) rfl rfl rfl rfl ?_
        refine gz_w_row (fun σ5 => ?_)
        refine gz_goto (tgt := 114) C dX9_takeBackSaying_52 (by decide) ?_
        exact gz_vret C rfl dX9_takeBackSaying_114
    · skip
      refine gz_aload_n C dX9_takeBackSaying_16 1 rfl ?_
      refine gz_dup C dX9_takeBackSaying_17 rfl ?_
      refine gz_getN C (t := 14) (k := 6) (ci := 6) (q := (RX6, TX6, 15)) (v := .int (σ.1 14 i1 6)) dX9_takeBackSaying_18 fl_RX9_208 (gz_hx14 _ hi1) rfl rfl (by decide) rfl ?_
      refine gz_iconst C dX9_takeBackSaying_21 gk_iconst_1 ?_
      refine gz_isub C dX9_takeBackSaying_22 ?_
      refine gz_putIN C (t := 14) (k := 6) (ci := 6) (q := (RX6, TX6, 15)) dX9_takeBackSaying_23 fl_RX9_208 (gz_hx14 _ hi1) rfl rfl (by decide) rfl rfl rfl rfl ?_
      refine gz_w_row (fun σ6 => ?_)
      refine gz_goto (tgt := 114) C dX9_takeBackSaying_26 (by decide) ?_
      exact gz_vret C rfl dX9_takeBackSaying_114

def f_X9_takeBack (σ : gz_S) : Option (gz_S) :=
  if (σ.1 26 0 6) = 0 then
  (if (lg_cmp (σ.2.1 26 0 8) 0) = 0 then
  (gz_then (f_X2_setFeast (σ.1 26 0 7) 1 σ) (fun σ7 =>
  some σ7))
  else
  (gz_then (f_X2_setFeast (σ.1 26 0 7) 0 σ) (fun σ6 =>
  some σ6)))
  else
  (if (σ.1 26 0 6) = 1 then
  (gz_w (gz_si σ 0 0 3 (σ.1 26 0 7)) (fun σ5 =>
  some σ5))
  else
  (if (σ.1 26 0 6) = 2 then
  (gz_w (gz_si σ 10 0 1 (σ.1 26 0 7)) (fun σ4 =>
  some σ4))
  else
  (gz_call (f_X1_at (σ.1 26 0 7) σ) (fun r2 σ1 =>
  gz_then (f_X9_takeBackSaying r2 σ1) (fun σ3 =>
  some σ3)))))
set_option maxHeartbeats 4000000 in
set_option maxRecDepth 100000 in
theorem c_X9_takeBack (l : Launch) (G : gz_G) (σ : gz_S) : ∀ o, f_X9_takeBack σ = some o → gz_M l false G yX9_takeBack cX9_takeBack 1 none { frames := 2, cells := 0, slots := 0, locals := 44 } [.ref (gz_ad false G 0 0)] σ (gz_eu o) 0 0 := by
  refine gz_enter RX9 rfl (by decide) (Nat.le_of_ble_eq_true rfl) ?_
  intro p e s m args below meth c C
  refine gz_eqs (st' := []) (lv' := [(0, .ref (gz_ad false G 0 0))]) rfl rfl ?_
  unfold f_X9_takeBack
  refine gz_aload_n C dX9_takeBack_0 0 rfl ?_
  refine gz_get C (t := 0) (k := 9) (ci := 9) (q := (RX9, TX9, 11)) (v := .ref (gz_ad false G 26 0)) dX9_takeBack_1 fl_RX9_60 (gz_hx0 _) rfl rfl (by decide) rfl ?_
  refine gz_getN C (t := 26) (k := 6) (ci := 0) (q := (RX0, TX0, 10)) (v := .int (σ.1 26 0 6)) dX9_takeBack_4 fl_RX9_340 (gz_hx26 _) rfl rfl (by decide) rfl ?_
  refine gz_if_ne (tgt := 44) C dX9_takeBack_7 (by decide) ?_ ?_
  · skip
    refine gz_aload_n C dX9_takeBack_44 0 rfl ?_
    refine gz_get C (t := 0) (k := 9) (ci := 9) (q := (RX9, TX9, 11)) (v := .ref (gz_ad false G 26 0)) dX9_takeBack_45 fl_RX9_60 (gz_hx0 _) rfl rfl (by decide) rfl ?_
    refine gz_getN C (t := 26) (k := 6) (ci := 0) (q := (RX0, TX0, 10)) (v := .int (σ.1 26 0 6)) dX9_takeBack_48 fl_RX9_340 (gz_hx26 _) rfl rfl (by decide) rfl ?_
    refine gz_iconst C dX9_takeBack_51 gk_iconst_1 ?_
    refine gz_icmp_ne (tgt := 69) C dX9_takeBack_52 (by decide) ?_ ?_
    · skip
      refine gz_aload_n C dX9_takeBack_69 0 rfl ?_
      refine gz_get C (t := 0) (k := 9) (ci := 9) (q := (RX9, TX9, 11)) (v := .ref (gz_ad false G 26 0)) dX9_takeBack_70 fl_RX9_60 (gz_hx0 _) rfl rfl (by decide) rfl ?_
      refine gz_getN C (t := 26) (k := 6) (ci := 0) (q := (RX0, TX0, 10)) (v := .int (σ.1 26 0 6)) dX9_takeBack_73 fl_RX9_340 (gz_hx26 _) rfl rfl (by decide) rfl ?_
      refine gz_iconst C dX9_takeBack_76 gk_iconst_2 ?_
      refine gz_icmp_ne (tgt := 97) C dX9_takeBack_77 (by decide) ?_ ?_
      · skip
        refine gz_aload_n C dX9_takeBack_97 0 rfl ?_
        refine gz_aload_n C dX9_takeBack_98 0 rfl ?_
        refine gz_get C (t := 0) (k := 4) (ci := 9) (q := (RX9, TX9, 11)) (v := .ref (gz_ad false G 10 0)) dX9_takeBack_99 fl_RX9_35 (gz_hx0 _) rfl rfl (by decide) rfl ?_
        refine gz_aload_n C dX9_takeBack_102 0 rfl ?_
        refine gz_get C (t := 0) (k := 9) (ci := 9) (q := (RX9, TX9, 11)) (v := .ref (gz_ad false G 26 0)) dX9_takeBack_103 fl_RX9_60 (gz_hx0 _) rfl rfl (by decide) rfl ?_
        refine gz_getN C (t := 26) (k := 7) (ci := 0) (q := (RX0, TX0, 10)) (v := .int (σ.1 26 0 7)) dX9_takeBack_106 fl_RX9_341 (gz_hx26 _) rfl rfl (by decide) rfl ?_
        refine gz_kr (t := 14) (gz_runV (t := 10) (ci := 1) (q := (RX1, TX1, 6)) (As := [.int (σ.1 26 0 7)]) (rest := [.ref (gz_ad false G 0 0)]) C dX9_takeBack_109 ml_RX9_183 mw_X1_at mv_X1_at (c_X1_at l G (σ.1 26 0 7) σ) (gz_hx10 _) rfl rfl rfl rfl rfl (Nat.le_of_ble_eq_true rfl) ⟨rfl, rfl, Nat.le_of_ble_eq_true rfl, Nat.le_of_ble_eq_true rfl, Nat.le_of_ble_eq_true rfl, Nat.le_of_ble_eq_true rfl⟩) (fun r2 σ1 => ?_)
        refine gz_kv (gz_runV (t := 0) (ci := 9) (q := (RX9, TX9, 11)) (As := [gz_rv false G 14 r2]) (rest := []) C dX9_takeBack_112 ml_RX9_347 mw_X9_takeBackSaying mv_X9_takeBackSaying (c_X9_takeBackSaying l G r2 σ1) (gz_hx0 _) rfl rfl rfl rfl rfl (Nat.le_of_ble_eq_true rfl) ⟨rfl, rfl, Nat.le_of_ble_eq_true rfl, Nat.le_of_ble_eq_true rfl, Nat.le_of_ble_eq_true rfl, Nat.le_of_ble_eq_true rfl⟩) (fun σ3 => ?_)
        exact gz_vret C rfl dX9_takeBack_115
      · skip
        refine gz_aload_n C dX9_takeBack_80 0 rfl ?_
        refine gz_get C (t := 0) (k := 4) (ci := 9) (q := (RX9, TX9, 11)) (v := .ref (gz_ad false G 10 0)) dX9_takeBack_81 fl_RX9_35 (gz_hx0 _) rfl rfl (by decide) rfl ?_
        refine gz_aload_n C dX9_takeBack_84 0 rfl ?_
        refine gz_get C (t := 0) (k := 9) (ci := 9) (q := (RX9, TX9, 11)) (v := .ref (gz_ad false G 26 0)) dX9_takeBack_85 fl_RX9_60 (gz_hx0 _) rfl rfl (by decide) rfl ?_
        refine gz_getN C (t := 26) (k := 7) (ci := 0) (q := (RX0, TX0, 10)) (v := .int (σ.1 26 0 7)) dX9_takeBack_88 fl_RX9_341 (gz_hx26 _) rfl rfl (by decide) rfl ?_
        refine gz_putIN C (t := 10) (k := 1) (ci := 1) (q := (RX1, TX1, 6)) dX9_takeBack_91 fl_RX9_145 (gz_hx10 _) rfl rfl (by decide) rfl rfl rfl rfl ?_
        refine gz_w_row (fun σ4 => ?_)
        refine gz_goto (tgt := 115) C dX9_takeBack_94 (by decide) ?_
        exact gz_vret C rfl dX9_takeBack_115
    · skip
      refine gz_aload_n C dX9_takeBack_55 0 rfl ?_
      refine gz_aload_n C dX9_takeBack_56 0 rfl ?_
      refine gz_get C (t := 0) (k := 9) (ci := 9) (q := (RX9, TX9, 11)) (v := .ref (gz_ad false G 26 0)) dX9_takeBack_57 fl_RX9_60 (gz_hx0 _) rfl rfl (by decide) rfl ?_
      refine gz_getN C (t := 26) (k := 7) (ci := 0) (q := (RX0, TX0, 10)) (v := .int (σ.1 26 0 7)) dX9_takeBack_60 fl_RX9_341 (gz_hx26 _) rfl rfl (by decide) rfl ?_
      refine gz_putI C (t := 0) (k := 3) (ci := 9) (q := (RX9, TX9, 11)) dX9_takeBack_63 fl_RX9_116 (gz_hx0 _) rfl rfl (by decide) rfl rfl rfl rfl ?_
      refine gz_w_row (fun σ5 => ?_)
      refine gz_goto (tgt := 115) C dX9_takeBack_66 (by decide) ?_
      exact gz_vret C rfl dX9_takeBack_115
  · skip
    refine gz_aload_n C dX9_takeBack_10 0 rfl ?_
    refine gz_get C (t := 0) (k := 0) (ci := 9) (q := (RX9, TX9, 11)) (v := .ref (gz_ad false G 1 0)) dX9_takeBack_11 fl_RX9_12 (gz_hx0 _) rfl rfl (by decide) rfl ?_
    refine gz_aload_n C dX9_takeBack_14 0 rfl ?_
    refine gz_get C (t := 0) (k := 9) (ci := 9) (q := (RX9, TX9, 11)) (v := .ref (gz_ad false G 26 0)) dX9_takeBack_15 fl_RX9_60 (gz_hx0 _) rfl rfl (by decide) rfl ?_
    refine gz_getN C (t := 26) (k := 7) (ci := 0) (q := (RX0, TX0, 10)) (v := .int (σ.1 26 0 7)) dX9_takeBack_18 fl_RX9_341 (gz_hx26 _) rfl rfl (by decide) rfl ?_
    refine gz_aload_n C dX9_takeBack_21 0 rfl ?_
    refine gz_get C (t := 0) (k := 9) (ci := 9) (q := (RX9, TX9, 11)) (v := .ref (gz_ad false G 26 0)) dX9_takeBack_22 fl_RX9_60 (gz_hx0 _) rfl rfl (by decide) rfl ?_
    refine gz_getN C (t := 26) (k := 8) (ci := 0) (q := (RX0, TX0, 10)) (v := .long (σ.2.1 26 0 8)) dX9_takeBack_25 fl_RX9_344 (gz_hx26 _) rfl rfl (by decide) rfl ?_
    refine gz_lconst C dX9_takeBack_28 gk_lconst_0 ?_
    refine gz_lcmp C dX9_takeBack_29 ?_
    refine gz_if_ne (tgt := 37) C dX9_takeBack_30 (by decide) ?_ ?_
    · skip
      refine gz_iconst C dX9_takeBack_37 gk_iconst_0 ?_
      refine gz_kv (gz_runV (t := 1) (ci := 2) (q := (RX2, TX2, 2)) (As := [.int (σ.1 26 0 7), .int 0]) (rest := []) C dX9_takeBack_38 ml_RX9_81 mw_X2_setFeast mv_X2_setFeast (c_X2_setFeast l G (σ.1 26 0 7) 0 σ) (gz_hx1 _) rfl rfl rfl rfl rfl (Nat.le_of_ble_eq_true rfl) ⟨rfl, rfl, Nat.le_of_ble_eq_true rfl, Nat.le_of_ble_eq_true rfl, Nat.le_of_ble_eq_true rfl, Nat.le_of_ble_eq_true rfl⟩) (fun σ6 => ?_)
      refine gz_goto (tgt := 115) C dX9_takeBack_41 (by decide) ?_
      exact gz_vret C rfl dX9_takeBack_115
    · skip
      refine gz_iconst C dX9_takeBack_33 gk_iconst_1 ?_
      refine gz_goto (tgt := 38) C dX9_takeBack_34 (by decide) ?_
      refine gz_kv (gz_runV (t := 1) (ci := 2) (q := (RX2, TX2, 2)) (As := [.int (σ.1 26 0 7), .int 1]) (rest := []) C dX9_takeBack_38 ml_RX9_81 mw_X2_setFeast mv_X2_setFeast (c_X2_setFeast l G (σ.1 26 0 7) 1 σ) (gz_hx1 _) rfl rfl rfl rfl rfl (Nat.le_of_ble_eq_true rfl) ⟨rfl, rfl, Nat.le_of_ble_eq_true rfl, Nat.le_of_ble_eq_true rfl, Nat.le_of_ble_eq_true rfl, Nat.le_of_ble_eq_true rfl⟩) (fun σ7 => ?_)
      refine gz_goto (tgt := 115) C dX9_takeBack_41 (by decide) ?_
      exact gz_vret C rfl dX9_takeBack_115

def f_X9_undo (σ : gz_S) : Option (Int32 × gz_S) :=
  if (σ.1 26 0 5) = 0 then
  (some (0, σ))
  else
  (gz_then (f_X0_pop σ) (fun σ1 =>
  gz_then (f_X9_takeBack σ1) (fun σ2 =>
  some (1, σ2))))
set_option maxHeartbeats 4000000 in
set_option maxRecDepth 100000 in
theorem c_X9_undo (l : Launch) (G : gz_G) (σ : gz_S) : ∀ o, f_X9_undo σ = some o → gz_M l false G yX9_undo cX9_undo 1 (some .int) { frames := 3, cells := 0, slots := 0, locals := 64 } [.ref (gz_ad false G 0 0)] σ (gz_ei o) 0 0 := by
  refine gz_enter RX9 rfl (by decide) (Nat.le_of_ble_eq_true rfl) ?_
  intro p e s m args below meth c C
  refine gz_eqs (st' := []) (lv' := [(0, .ref (gz_ad false G 0 0))]) rfl rfl ?_
  unfold f_X9_undo
  refine gz_aload_n C dX9_undo_0 0 rfl ?_
  refine gz_get C (t := 0) (k := 9) (ci := 9) (q := (RX9, TX9, 11)) (v := .ref (gz_ad false G 26 0)) dX9_undo_1 fl_RX9_60 (gz_hx0 _) rfl rfl (by decide) rfl ?_
  refine gz_getN C (t := 26) (k := 5) (ci := 0) (q := (RX0, TX0, 10)) (v := .int (σ.1 26 0 5)) dX9_undo_4 fl_RX9_307 (gz_hx26 _) rfl rfl (by decide) rfl ?_
  refine gz_if_ne (tgt := 12) C dX9_undo_7 (by decide) ?_ ?_
  · skip
    refine gz_aload_n C dX9_undo_12 0 rfl ?_
    refine gz_get C (t := 0) (k := 9) (ci := 9) (q := (RX9, TX9, 11)) (v := .ref (gz_ad false G 26 0)) dX9_undo_13 fl_RX9_60 (gz_hx0 _) rfl rfl (by decide) rfl ?_
    refine gz_kv (gz_runV (t := 26) (ci := 0) (q := (RX0, TX0, 10)) (As := []) (rest := []) C dX9_undo_16 ml_RX9_308 mw_X0_pop mv_X0_pop (c_X0_pop l G σ) (gz_hx26 _) rfl rfl rfl rfl rfl (Nat.le_of_ble_eq_true rfl) ⟨rfl, rfl, Nat.le_of_ble_eq_true rfl, Nat.le_of_ble_eq_true rfl, Nat.le_of_ble_eq_true rfl, Nat.le_of_ble_eq_true rfl⟩) (fun σ1 => ?_)
    refine gz_aload_n C dX9_undo_19 0 rfl ?_
    refine gz_kv (gz_runV (t := 0) (ci := 9) (q := (RX9, TX9, 11)) (As := []) (rest := []) C dX9_undo_20 ml_RX9_311 mw_X9_takeBack mv_X9_takeBack (c_X9_takeBack l G σ1) (gz_hx0 _) rfl rfl rfl rfl rfl (Nat.le_of_ble_eq_true rfl) ⟨rfl, rfl, Nat.le_of_ble_eq_true rfl, Nat.le_of_ble_eq_true rfl, Nat.le_of_ble_eq_true rfl, Nat.le_of_ble_eq_true rfl⟩) (fun σ2 => ?_)
    refine gz_iconst C dX9_undo_23 gk_iconst_1 ?_
    exact gz_iret C rfl dX9_undo_24
  · skip
    refine gz_iconst C dX9_undo_10 gk_iconst_0 ?_
    exact gz_iret C rfl dX9_undo_11

def f_X9_count (a1 : Int32) (σ : gz_S) : Option (Int32 × gz_S) :=
  (if a1 = 0 then
  (some (σ.1 1 0 1, σ))
  else
  (if a1 = 1 then
  (some (σ.1 0 0 3, σ))
  else
  (if a1 = 2 then
  (some (σ.1 10 0 1, σ))
  else
  (if a1 = 3 then
  (some (σ.1 0 0 6, σ))
  else
  (if a1 = 4 then
  (gz_call (f_X1_countWaiting σ) (fun r2 σ1 =>
  some (r2, σ1)))
  else
  (if a1 = 5 then
  (some (σ.1 26 0 5, σ))
  else
  (if a1 = 6 then
  (some (σ.1 3 0 1, σ))
  else
  (some ((-1), σ)))))))))
set_option maxHeartbeats 4000000 in
set_option maxRecDepth 100000 in
theorem c_X9_count (l : Launch) (G : gz_G) (a1 : Int32) (σ : gz_S) : ∀ o, f_X9_count a1 σ = some o → gz_M l false G yX9_count cX9_count 2 (some .int) { frames := 2, cells := 0, slots := 0, locals := 42 } [.ref (gz_ad false G 0 0), .int a1] σ (gz_ei o) 0 0 := by
  refine gz_enter RX9 rfl (by decide) (Nat.le_of_ble_eq_true rfl) ?_
  intro p e s m args below meth c C
  refine gz_eqs (st' := []) (lv' := [(0, .ref (gz_ad false G 0 0)), (1, .int a1)]) rfl rfl ?_
  unfold f_X9_count
  refine gz_iload_n C dX9_count_0 1 rfl ?_
  refine gz_case 0 (fun hx0 => ?_) (fun hx0 => ?_)
  · rw [hx0]
    refine gz_tin (tgt := 44) (off := 43) C dX9_count_1 (by decide) (by decide) rfl (by decide) ?_
    refine gz_aload_n C dX9_count_44 0 rfl ?_
    refine gz_get C (t := 0) (k := 0) (ci := 9) (q := (RX9, TX9, 11)) (v := .ref (gz_ad false G 1 0)) dX9_count_45 fl_RX9_12 (gz_hx0 _) rfl rfl (by decide) rfl ?_
    refine gz_getN C (t := 1) (k := 1) (ci := 2) (q := (RX2, TX2, 2)) (v := .int (σ.1 1 0 1)) dX9_count_48 fl_RX9_78 (gz_hx1 _) rfl rfl (by decide) rfl ?_
    exact gz_iret C rfl dX9_count_51
  refine gz_case 1 (fun hx1 => ?_) (fun hx1 => ?_)
  · rw [hx1]
    refine gz_tin (tgt := 52) (off := 51) C dX9_count_1 (by decide) (by decide) rfl (by decide) ?_
    refine gz_aload_n C dX9_count_52 0 rfl ?_
    refine gz_get C (t := 0) (k := 3) (ci := 9) (q := (RX9, TX9, 11)) (v := .int (σ.1 0 0 3)) dX9_count_53 fl_RX9_116 (gz_hx0 _) rfl rfl (by decide) rfl ?_
    exact gz_iret C rfl dX9_count_56
  refine gz_case 2 (fun hx2 => ?_) (fun hx2 => ?_)
  · rw [hx2]
    refine gz_tin (tgt := 57) (off := 56) C dX9_count_1 (by decide) (by decide) rfl (by decide) ?_
    refine gz_aload_n C dX9_count_57 0 rfl ?_
    refine gz_get C (t := 0) (k := 4) (ci := 9) (q := (RX9, TX9, 11)) (v := .ref (gz_ad false G 10 0)) dX9_count_58 fl_RX9_35 (gz_hx0 _) rfl rfl (by decide) rfl ?_
    refine gz_getN C (t := 10) (k := 1) (ci := 1) (q := (RX1, TX1, 6)) (v := .int (σ.1 10 0 1)) dX9_count_61 fl_RX9_145 (gz_hx10 _) rfl rfl (by decide) rfl ?_
    exact gz_iret C rfl dX9_count_64
  refine gz_case 3 (fun hx3 => ?_) (fun hx3 => ?_)
  · rw [hx3]
    refine gz_tin (tgt := 65) (off := 64) C dX9_count_1 (by decide) (by decide) rfl (by decide) ?_
    refine gz_aload_n C dX9_count_65 0 rfl ?_
    refine gz_get C (t := 0) (k := 6) (ci := 9) (q := (RX9, TX9, 11)) (v := .int (σ.1 0 0 6)) dX9_count_66 fl_RX9_235 (gz_hx0 _) rfl rfl (by decide) rfl ?_
    exact gz_iret C rfl dX9_count_69
  refine gz_case 4 (fun hx4 => ?_) (fun hx4 => ?_)
  · rw [hx4]
    refine gz_tin (tgt := 70) (off := 69) C dX9_count_1 (by decide) (by decide) rfl (by decide) ?_
    refine gz_aload_n C dX9_count_70 0 rfl ?_
    refine gz_get C (t := 0) (k := 4) (ci := 9) (q := (RX9, TX9, 11)) (v := .ref (gz_ad false G 10 0)) dX9_count_71 fl_RX9_35 (gz_hx0 _) rfl rfl (by decide) rfl ?_
    refine gz_ki (gz_runV (t := 10) (ci := 1) (q := (RX1, TX1, 6)) (As := []) (rest := []) C dX9_count_74 ml_RX9_314 mw_X1_countWaiting mv_X1_countWaiting (c_X1_countWaiting l G σ) (gz_hx10 _) rfl rfl rfl rfl rfl (Nat.le_of_ble_eq_true rfl) ⟨rfl, rfl, Nat.le_of_ble_eq_true rfl, Nat.le_of_ble_eq_true rfl, Nat.le_of_ble_eq_true rfl, Nat.le_of_ble_eq_true rfl⟩) (fun r2 σ1 => ?_)
    exact gz_iret C rfl dX9_count_77
  refine gz_case 5 (fun hx5 => ?_) (fun hx5 => ?_)
  · rw [hx5]
    refine gz_tin (tgt := 78) (off := 77) C dX9_count_1 (by decide) (by decide) rfl (by decide) ?_
    refine gz_aload_n C dX9_count_78 0 rfl ?_
    refine gz_get C (t := 0) (k := 9) (ci := 9) (q := (RX9, TX9, 11)) (v := .ref (gz_ad false G 26 0)) dX9_count_79 fl_RX9_60 (gz_hx0 _) rfl rfl (by decide) rfl ?_
    refine gz_getN C (t := 26) (k := 5) (ci := 0) (q := (RX0, TX0, 10)) (v := .int (σ.1 26 0 5)) dX9_count_82 fl_RX9_307 (gz_hx26 _) rfl rfl (by decide) rfl ?_
    exact gz_iret C rfl dX9_count_85
  refine gz_case 6 (fun hx6 => ?_) (fun hx6 => ?_)
  · rw [hx6]
    refine gz_tin (tgt := 86) (off := 85) C dX9_count_1 (by decide) (by decide) rfl (by decide) ?_
    refine gz_aload_n C dX9_count_86 0 rfl ?_
    refine gz_get C (t := 0) (k := 1) (ci := 9) (q := (RX9, TX9, 11)) (v := .ref (gz_ad false G 3 0)) dX9_count_87 fl_RX9_21 (gz_hx0 _) rfl rfl (by decide) rfl ?_
    refine gz_getN C (t := 3) (k := 1) (ci := 8) (q := (RX8, TX8, 11)) (v := .int (σ.1 3 0 1)) dX9_count_90 fl_RX9_103 (gz_hx3 _) rfl rfl (by decide) rfl ?_
    exact gz_iret C rfl dX9_count_93
  refine gz_tout (tgt := 94) C dX9_count_1 (by have q0 := lv_neT hx0 (a := 0) (by decide); have q1 := lv_neT hx1 (a := 1) (by decide); have q2 := lv_neT hx2 (a := 2) (by decide); have q3 := lv_neT hx3 (a := 3) (by decide); have q4 := lv_neT hx4 (a := 4) (by decide); have q5 := lv_neT hx5 (a := 5) (by decide); have q6 := lv_neT hx6 (a := 6) (by decide); omega) (by decide) ?_
  refine gz_iconst C dX9_count_94 gk_iconst_m1 ?_
  exact gz_iret C rfl dX9_count_95

def f_X9_trouble (σ : gz_S) : Option (Int32 × gz_S) :=
  some (σ.1 0 0 10, σ)
set_option maxHeartbeats 4000000 in
set_option maxRecDepth 100000 in
theorem c_X9_trouble (l : Launch) (G : gz_G) (σ : gz_S) : ∀ o, f_X9_trouble σ = some o → gz_M l false G yX9_trouble cX9_trouble 1 (some .int) { frames := 0, cells := 0, slots := 0, locals := 0 } [.ref (gz_ad false G 0 0)] σ (gz_ei o) 0 0 := by
  refine gz_enter RX9 rfl (by decide) (Nat.le_of_ble_eq_true rfl) ?_
  intro p e s m args below meth c C
  refine gz_eqs (st' := []) (lv' := [(0, .ref (gz_ad false G 0 0))]) rfl rfl ?_
  unfold f_X9_trouble
  refine gz_aload_n C dX9_trouble_0 0 rfl ?_
  refine gz_get C (t := 0) (k := 10) (ci := 9) (q := (RX9, TX9, 11)) (v := .int (σ.1 0 0 10)) dX9_trouble_1 fl_RX9_151 (gz_hx0 _) rfl rfl (by decide) rfl ?_
  exact gz_iret C rfl dX9_trouble_4
