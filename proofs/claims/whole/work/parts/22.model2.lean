def f_X11_after (a1 : Int32) (a2 : Int32) (a3 : Int32) (σ : gz_S) : Option (Int32 × gz_S) :=
  gz_w (gz_si σ 0 0 0 0) (fun σ1 =>
  gz_call (f_X11_isDay a1 σ1) (fun r3 σ2 =>
  if r3 = 0 then
  (gz_call (f_X11_refused 2 σ2) (fun r5 σ4 =>
  some (r5, σ4)))
  else
  (gz_call (f_X11_in a2 0 9999 σ2) (fun r7 σ6 =>
  if r7 = 0 then
  (gz_call (f_X11_refused 2 σ6) (fun r9 σ8 =>
  some (r9, σ8)))
  else
  (gz_call (f_X11_spanOf a1 a2 a3 σ6) (fun r11 σ10 =>
  gz_call (f_X11_done r11 σ10) (fun r13 σ12 =>
  some (r13, σ12))))))))
set_option maxHeartbeats 4000000 in
set_option maxRecDepth 100000 in
theorem c_X11_after (l : Launch) (G : gz_G) (a1 : Int32) (a2 : Int32) (a3 : Int32) (σ : gz_S) : ∀ o, f_X11_after a1 a2 a3 σ = some o → gz_M l true G yX11_after cX11_after 4 (some .int) { frames := 2, cells := 0, slots := 0, locals := 46 } [.ref (gz_ad true G 0 0), .int a1, .int a2, .int a3] σ (gz_ei o) 0 0 := by
  refine gz_enter RX11 rfl (by decide) (Nat.le_of_ble_eq_true rfl) ?_
  intro p e s m args below meth c C
  refine gz_eqs (st' := []) (lv' := [(0, .ref (gz_ad true G 0 0)), (1, .int a1), (2, .int a2), (3, .int a3)]) rfl rfl ?_
  unfold f_X11_after
  refine gz_aload_n C dX11_after_0 0 rfl ?_
  refine gz_iconst C dX11_after_1 gk_iconst_0 ?_
  refine gz_putI C (t := 0) (k := 0) (ci := 11) (q := (RX11, TX11, 63)) dX11_after_2 fl_RX11_158 (gz_hm0 _) rfl rfl (by decide) rfl rfl rfl rfl ?_
  refine gz_w_row (fun σ1 => ?_)
  refine gz_iload_n C dX11_after_5 1 rfl ?_
  refine gz_ki (gz_runS (As := [.int a1]) (rest := []) C dX11_after_6 ml_RX11_176 mw_X11_isDay ms_X11_isDay (c_X11_isDay l G a1 σ1) rfl rfl (Nat.le_of_ble_eq_true rfl) ⟨rfl, rfl, Nat.le_of_ble_eq_true rfl, Nat.le_of_ble_eq_true rfl, Nat.le_of_ble_eq_true rfl, Nat.le_of_ble_eq_true rfl⟩) (fun r3 σ2 => ?_)
  refine gz_if_eq (tgt := 37) C dX11_after_9 (by decide) ?_ ?_
  · skip
    refine gz_aload_n C dX11_after_37 0 rfl ?_
    refine gz_iconst C dX11_after_38 gk_iconst_2 ?_
    refine gz_ki (gz_runV (t := 0) (ci := 11) (q := (RX11, TX11, 63)) (As := [.int 2]) (rest := []) C dX11_after_39 ml_RX11_194 mw_X11_refused mv_X11_refused (c_X11_refused l G 2 σ2) (gz_hm0 _) rfl rfl rfl rfl rfl (Nat.le_of_ble_eq_true rfl) ⟨rfl, rfl, Nat.le_of_ble_eq_true rfl, Nat.le_of_ble_eq_true rfl, Nat.le_of_ble_eq_true rfl, Nat.le_of_ble_eq_true rfl⟩) (fun r5 σ4 => ?_)
    exact gz_iret C rfl dX11_after_42
  · skip
    refine gz_iload_n C dX11_after_12 2 rfl ?_
    refine gz_iconst C dX11_after_13 gk_iconst_0 ?_
    refine gz_sipush C dX11_after_14 gk_sipush_9999 ?_
    refine gz_ki (gz_runS (As := [.int a2, .int 0, .int 9999]) (rest := []) C dX11_after_17 ml_RX11_203 mw_X11_in ms_X11_in (c_X11_in l G a2 0 9999 σ2) rfl rfl (Nat.le_of_ble_eq_true rfl) ⟨rfl, rfl, Nat.le_of_ble_eq_true rfl, Nat.le_of_ble_eq_true rfl, Nat.le_of_ble_eq_true rfl, Nat.le_of_ble_eq_true rfl⟩) (fun r7 σ6 => ?_)
    refine gz_if_eq (tgt := 37) C dX11_after_20 (by decide) ?_ ?_
    · skip
      refine gz_aload_n C dX11_after_37 0 rfl ?_
      refine gz_iconst C dX11_after_38 gk_iconst_2 ?_
      refine gz_ki (gz_runV (t := 0) (ci := 11) (q := (RX11, TX11, 63)) (As := [.int 2]) (rest := []) C dX11_after_39 ml_RX11_194 mw_X11_refused mv_X11_refused (c_X11_refused l G 2 σ6) (gz_hm0 _) rfl rfl rfl rfl rfl (Nat.le_of_ble_eq_true rfl) ⟨rfl, rfl, Nat.le_of_ble_eq_true rfl, Nat.le_of_ble_eq_true rfl, Nat.le_of_ble_eq_true rfl, Nat.le_of_ble_eq_true rfl⟩) (fun r9 σ8 => ?_)
      exact gz_iret C rfl dX11_after_42
    · skip
      refine gz_aload_n C dX11_after_23 0 rfl ?_
      refine gz_aload_n C dX11_after_24 0 rfl ?_
      refine gz_iload_n C dX11_after_25 1 rfl ?_
      refine gz_iload_n C dX11_after_26 2 rfl ?_
      refine gz_iload_n C dX11_after_27 3 rfl ?_
      refine gz_ki (gz_runV (t := 0) (ci := 11) (q := (RX11, TX11, 63)) (As := [.int a1, .int a2, .int a3]) (rest := [.ref (gz_ad true G 0 0)]) C dX11_after_28 ml_RX11_207 mw_X11_spanOf mv_X11_spanOf (c_X11_spanOf l G a1 a2 a3 σ6) (gz_hm0 _) rfl rfl rfl rfl rfl (Nat.le_of_ble_eq_true rfl) ⟨rfl, rfl, Nat.le_of_ble_eq_true rfl, Nat.le_of_ble_eq_true rfl, Nat.le_of_ble_eq_true rfl, Nat.le_of_ble_eq_true rfl⟩) (fun r11 σ10 => ?_)
      refine gz_ki (gz_runV (t := 0) (ci := 11) (q := (RX11, TX11, 63)) (As := [.int r11]) (rest := []) C dX11_after_31 ml_RX11_190 mw_X11_done mv_X11_done (c_X11_done l G r11 σ10) (gz_hm0 _) rfl rfl rfl rfl rfl (Nat.le_of_ble_eq_true rfl) ⟨rfl, rfl, Nat.le_of_ble_eq_true rfl, Nat.le_of_ble_eq_true rfl, Nat.le_of_ble_eq_true rfl, Nat.le_of_ble_eq_true rfl⟩) (fun r13 σ12 => ?_)
      refine gz_goto (tgt := 42) C dX11_after_34 (by decide) ?_
      exact gz_iret C rfl dX11_after_42

def f_X11_stop (a1 : Int32) (a2 : Int32) (σ : gz_S) : Option (Option Nat × gz_S) :=
  gz_w (gz_si σ 6 0 6 a1) (fun σ1 =>
  gz_w (gz_si σ1 6 0 7 a2) (fun σ2 =>
  some ((some 0), σ2)))
set_option maxHeartbeats 4000000 in
set_option maxRecDepth 100000 in
theorem c_X11_stop (l : Launch) (G : gz_G) (a1 : Int32) (a2 : Int32) (σ : gz_S) : ∀ o, f_X11_stop a1 a2 σ = some o → gz_M l true G yX11_stop cX11_stop 3 (some (.object "GazetteHouseModel$Stop")) { frames := 0, cells := 0, slots := 0, locals := 0 } [.ref (gz_ad true G 0 0), .int a1, .int a2] σ ((gz_er true G 6) o) 0 0 := by
  refine gz_enter RX11 rfl (by decide) (Nat.le_of_ble_eq_true rfl) ?_
  intro p e s m args below meth c C
  refine gz_eqs (st' := []) (lv' := [(0, .ref (gz_ad true G 0 0)), (1, .int a1), (2, .int a2)]) rfl rfl ?_
  unfold f_X11_stop
  refine gz_aload_n C dX11_stop_0 0 rfl ?_
  refine gz_get C (t := 0) (k := 12) (ci := 11) (q := (RX11, TX11, 63)) (v := .ref (gz_ad true G 6 0)) dX11_stop_1 fl_RX11_39 (gz_hm0 _) rfl rfl (by decide) rfl ?_
  refine gz_iload_n C dX11_stop_4 1 rfl ?_
  refine gz_putIN C (t := 6) (k := 6) (ci := 10) (q := (RX10, TX10, 8)) dX11_stop_5 fl_RX11_211 (gz_hm6 _) rfl rfl (by decide) rfl rfl rfl rfl ?_
  refine gz_w_row (fun σ1 => ?_)
  refine gz_aload_n C dX11_stop_8 0 rfl ?_
  refine gz_get C (t := 0) (k := 12) (ci := 11) (q := (RX11, TX11, 63)) (v := .ref (gz_ad true G 6 0)) dX11_stop_9 fl_RX11_39 (gz_hm0 _) rfl rfl (by decide) rfl ?_
  refine gz_iload_n C dX11_stop_12 2 rfl ?_
  refine gz_putIN C (t := 6) (k := 7) (ci := 10) (q := (RX10, TX10, 8)) dX11_stop_13 fl_RX11_213 (gz_hm6 _) rfl rfl (by decide) rfl rfl rfl rfl ?_
  refine gz_w_row (fun σ2 => ?_)
  refine gz_aload_n C dX11_stop_16 0 rfl ?_
  refine gz_get C (t := 0) (k := 12) (ci := 11) (q := (RX11, TX11, 63)) (v := .ref (gz_ad true G 6 0)) dX11_stop_17 fl_RX11_39 (gz_hm0 _) rfl rfl (by decide) rfl ?_
  exact gz_aret (t := 6) (r := (some 0)) C rfl dX11_stop_20

def f_X11_byteAt (a1 : Int32) (σ : gz_S) : Option (Int32 × gz_S) :=
  if (σ.1 0 0 15) ≤ a1 then
  (some ((-1), σ))
  else
  (gz_ix a1 400 (fun n1 =>
  some ((σ.1 7 0 n1) &&& 255, σ)))
set_option maxHeartbeats 4000000 in
set_option maxRecDepth 100000 in
theorem c_X11_byteAt (l : Launch) (G : gz_G) (a1 : Int32) (σ : gz_S) : ∀ o, f_X11_byteAt a1 σ = some o → gz_M l true G yX11_byteAt cX11_byteAt 2 (some .int) { frames := 0, cells := 0, slots := 0, locals := 0 } [.ref (gz_ad true G 0 0), .int a1] σ (gz_ei o) 0 0 := by
  refine gz_enter RX11 rfl (by decide) (Nat.le_of_ble_eq_true rfl) ?_
  intro p e s m args below meth c C
  refine gz_eqs (st' := []) (lv' := [(0, .ref (gz_ad true G 0 0)), (1, .int a1)]) rfl rfl ?_
  unfold f_X11_byteAt
  refine gz_iload_n C dX11_byteAt_0 1 rfl ?_
  refine gz_aload_n C dX11_byteAt_1 0 rfl ?_
  refine gz_get C (t := 0) (k := 15) (ci := 11) (q := (RX11, TX11, 63)) (v := .int (σ.1 0 0 15)) dX11_byteAt_2 fl_RX11_216 (gz_hm0 _) rfl rfl (by decide) rfl ?_
  refine gz_icmp_ge (tgt := 21) C dX11_byteAt_5 (by decide) ?_ ?_
  · skip
    refine gz_iconst C dX11_byteAt_21 gk_iconst_m1 ?_
    exact gz_iret C rfl dX11_byteAt_22
  · skip
    refine gz_aload_n C dX11_byteAt_8 0 rfl ?_
    refine gz_get C (t := 0) (k := 13) (ci := 11) (q := (RX11, TX11, 63)) (v := .ref (gz_ad true G 7 0)) dX11_byteAt_9 fl_RX11_43 (gz_hm0 _) rfl rfl (by decide) rfl ?_
    refine gz_iload_n C dX11_byteAt_12 1 rfl ?_
    refine gz_bald C (t := 7) dX11_byteAt_13 (gz_hm7 _) rfl (fun n1 hn1 => ?_)
    refine gz_sipush C dX11_byteAt_14 gk_sipush_255 ?_
    refine gz_iand C dX11_byteAt_17 ?_
    refine gz_goto (tgt := 22) C dX11_byteAt_18 (by decide) ?_
    exact gz_iret C rfl dX11_byteAt_22

def f_X11_isLetter (a0 : Int32) (σ : gz_S) : Option (Int32 × gz_S) :=
  if a0 < 97 then
  (some ((0 : Int32) &&& 1, σ))
  else
  (if 122 < a0 then
  (some ((0 : Int32) &&& 1, σ))
  else
  (some ((1 : Int32) &&& 1, σ)))
set_option maxHeartbeats 4000000 in
set_option maxRecDepth 100000 in
theorem c_X11_isLetter (l : Launch) (G : gz_G) (a0 : Int32) (σ : gz_S) : ∀ o, f_X11_isLetter a0 σ = some o → gz_M l true G yX11_isLetter cX11_isLetter 1 (some .boolean) { frames := 0, cells := 0, slots := 0, locals := 0 } [.int a0] σ (gz_ei o) 0 0 := by
  refine gz_enter RX11 rfl (by decide) (Nat.le_of_ble_eq_true rfl) ?_
  intro p e s m args below meth c C
  refine gz_eqs (st' := []) (lv' := [(0, .int a0)]) rfl rfl ?_
  unfold f_X11_isLetter
  refine gz_iload_n C dX11_isLetter_0 0 rfl ?_
  refine gz_bipush C dX11_isLetter_1 gk_bipush_97 ?_
  refine gz_icmp_lt (tgt := 16) C dX11_isLetter_3 (by decide) ?_ ?_
  · skip
    refine gz_iconst C dX11_isLetter_16 gk_iconst_0 ?_
    exact gz_zret C rfl dX11_isLetter_17
  · skip
    refine gz_iload_n C dX11_isLetter_6 0 rfl ?_
    refine gz_bipush C dX11_isLetter_7 gk_bipush_122 ?_
    refine gz_icmp_gt (tgt := 16) C dX11_isLetter_9 (by decide) ?_ ?_
    · skip
      refine gz_iconst C dX11_isLetter_16 gk_iconst_0 ?_
      exact gz_zret C rfl dX11_isLetter_17
    · skip
      refine gz_iconst C dX11_isLetter_12 gk_iconst_1 ?_
      refine gz_goto (tgt := 17) C dX11_isLetter_13 (by decide) ?_
      exact gz_zret C rfl dX11_isLetter_17

def f_X11_isDigit (a0 : Int32) (σ : gz_S) : Option (Int32 × gz_S) :=
  if a0 < 48 then
  (some ((0 : Int32) &&& 1, σ))
  else
  (if 57 < a0 then
  (some ((0 : Int32) &&& 1, σ))
  else
  (some ((1 : Int32) &&& 1, σ)))
set_option maxHeartbeats 4000000 in
set_option maxRecDepth 100000 in
theorem c_X11_isDigit (l : Launch) (G : gz_G) (a0 : Int32) (σ : gz_S) : ∀ o, f_X11_isDigit a0 σ = some o → gz_M l true G yX11_isDigit cX11_isDigit 1 (some .boolean) { frames := 0, cells := 0, slots := 0, locals := 0 } [.int a0] σ (gz_ei o) 0 0 := by
  refine gz_enter RX11 rfl (by decide) (Nat.le_of_ble_eq_true rfl) ?_
  intro p e s m args below meth c C
  refine gz_eqs (st' := []) (lv' := [(0, .int a0)]) rfl rfl ?_
  unfold f_X11_isDigit
  refine gz_iload_n C dX11_isDigit_0 0 rfl ?_
  refine gz_bipush C dX11_isDigit_1 gk_bipush_48 ?_
  refine gz_icmp_lt (tgt := 16) C dX11_isDigit_3 (by decide) ?_ ?_
  · skip
    refine gz_iconst C dX11_isDigit_16 gk_iconst_0 ?_
    exact gz_zret C rfl dX11_isDigit_17
  · skip
    refine gz_iload_n C dX11_isDigit_6 0 rfl ?_
    refine gz_bipush C dX11_isDigit_7 gk_bipush_57 ?_
    refine gz_icmp_gt (tgt := 16) C dX11_isDigit_9 (by decide) ?_ ?_
    · skip
      refine gz_iconst C dX11_isDigit_16 gk_iconst_0 ?_
      exact gz_zret C rfl dX11_isDigit_17
    · skip
      refine gz_iconst C dX11_isDigit_12 gk_iconst_1 ?_
      refine gz_goto (tgt := 17) C dX11_isDigit_13 (by decide) ?_
      exact gz_zret C rfl dX11_isDigit_17

def f_X11_next_J327 (r6 : Int32) : gz_S → Option (gz_S) := fun σ13 =>
  gz_w (gz_si σ13 0 0 17 5) (fun σ14 =>
  gz_w (gz_si σ14 0 0 19 r6) (fun σ15 =>
  gz_w (gz_si σ15 0 0 16 ((σ15.1 0 0 16) + 1)) (fun σ16 =>
  some σ16)))
def f_X11_next_J297 (r6 : Int32) : gz_S → Option (gz_S) := fun σ12 =>
  gz_j0 (f_X11_next_J327 r6) (fun j327 =>
  if r6 = 58 then
  (j327 σ12)
  else
  (if r6 = 59 then
  (j327 σ12)
  else
  (if r6 = 63 then
  (j327 σ12)
  else
  (if r6 = 47 then
  (j327 σ12)
  else
  (if r6 = 61 then
  (j327 σ12)
  else
  (some σ12))))))
def f_X11_next_J241 : Int32 → gz_S → Option (gz_S) := fun v21 σ22 =>
  if v21 ≤ 4 then
  (gz_w (gz_si σ22 0 0 17 3) (fun σ23 =>
  some σ23))
  else
  (gz_w (gz_si σ22 0 0 17 0) (fun σ24 =>
  some σ24))
def f_X11_next_J225 (v25 : Int32) (rec181 : Int32 → gz_S → Option (gz_S)) : gz_S → Option (gz_S) := fun σ31 =>
  gz_w (gz_si σ31 0 0 16 ((σ31.1 0 0 16) + 1)) (fun σ32 =>
  rec181 (v25 + 1) σ32)
def f_X11_next_L181 (j241 : Int32 → gz_S → Option (gz_S)) : (Int32 → gz_S → Option (gz_S)) → Int32 → gz_S → Option (gz_S) := fun rec181 v25 σ26 =>
  gz_call (f_X11_byteAt (σ26.1 0 0 16) σ26) (fun r28 σ27 =>
  gz_call (f_X11_isDigit r28 σ27) (fun r30 σ29 =>
  if r30 = 0 then
  (j241 v25 σ29)
  else
  (gz_j0 (f_X11_next_J225 v25 rec181) (fun j225 =>
  if 4 ≤ v25 then
  (j225 σ29)
  else
  (gz_call (f_X11_byteAt (σ29.1 0 0 16) σ29) (fun r34 σ33 =>
  gz_w (gz_sj σ33 0 0 20 ((10 * (σ29.2.1 0 0 20)) + ((r34 - 48 : Int32).toInt64))) (fun σ35 =>
  j225 σ35)))))))
def f_X11_next_J156 : Int32 → gz_S → Option (gz_S) := fun v36 σ37 =>
  if v36 ≤ 8 then
  (gz_w (gz_si σ37 0 0 17 2) (fun σ38 =>
  some σ38))
  else
  (gz_w (gz_si σ37 0 0 17 0) (fun σ39 =>
  some σ39))
def f_X11_next_J140 (v40 : Int32) (rec93 : Int32 → gz_S → Option (gz_S)) : gz_S → Option (gz_S) := fun σ46 =>
  gz_w (gz_si σ46 0 0 16 ((σ46.1 0 0 16) + 1)) (fun σ47 =>
  rec93 (v40 + 1) σ47)
def f_X11_next_L93 (j156 : Int32 → gz_S → Option (gz_S)) : (Int32 → gz_S → Option (gz_S)) → Int32 → gz_S → Option (gz_S) := fun rec93 v40 σ41 =>
  gz_call (f_X11_byteAt (σ41.1 0 0 16) σ41) (fun r43 σ42 =>
  gz_call (f_X11_isLetter r43 σ42) (fun r45 σ44 =>
  if r45 = 0 then
  (j156 v40 σ44)
  else
  (gz_j0 (f_X11_next_J140 v40 rec93) (fun j140 =>
  if 8 ≤ v40 then
  (j140 σ44)
  else
  (gz_call (f_X11_byteAt (σ44.1 0 0 16) σ44) (fun r49 σ48 =>
  gz_w (gz_sj σ48 0 0 20 ((32 * (σ44.2.1 0 0 20)) + (((r49 - 97) + 1 : Int32).toInt64))) (fun σ50 =>
  j140 σ50)))))))
def f_X11_next_J39 : gz_S → Option (gz_S) := fun σ1 =>
  gz_w (gz_si σ1 0 0 18 (σ1.1 0 0 16)) (fun σ2 =>
  gz_w (gz_si σ2 0 0 17 0) (fun σ3 =>
  gz_w (gz_si σ3 0 0 19 0) (fun σ4 =>
  gz_call (f_X11_byteAt (σ4.1 0 0 16) σ4) (fun r6 σ5 =>
  gz_w (gz_sj σ5 0 0 20 0) (fun σ7 =>
  if r6 = (-1) then
  (gz_w (gz_si σ7 0 0 17 1) (fun σ51 =>
  some σ51))
  else
  (gz_call (f_X11_isLetter r6 σ7) (fun r9 σ8 =>
  if r9 = 0 then
  (gz_call (f_X11_isDigit r6 σ8) (fun r11 σ10 =>
  if r11 = 0 then
  (gz_j0 (f_X11_next_J297 r6) (fun j297 =>
  if r6 = 46 then
  (gz_call (f_X11_byteAt ((σ10.1 0 0 16) + 1) σ10) (fun r18 σ17 =>
  if r18 = 46 then
  (gz_w (gz_si σ17 0 0 17 4) (fun σ19 =>
  gz_w (gz_si σ19 0 0 16 ((σ19.1 0 0 16) + 2)) (fun σ20 =>
  some σ20)))
  else
  (j297 σ17)))
  else
  (j297 σ10)))
  else
  (gz_j1 (f_X11_next_J241) (fun j241 =>
  gz_l1 (f_X11_next_L181 j241) gz_fu 0 σ10))))
  else
  (gz_j1 (f_X11_next_J156) (fun j156 =>
  gz_l1 (f_X11_next_L93 j156) gz_fu 0 σ8)))))))))
def f_X11_next_J26 (rec0 : gz_S → Option (gz_S)) : gz_S → Option (gz_S) := fun σ55 =>
  gz_w (gz_si σ55 0 0 16 ((σ55.1 0 0 16) + 1)) (fun σ56 =>
  rec0 σ56)
def f_X11_next_L0 (j39 : gz_S → Option (gz_S)) : (gz_S → Option (gz_S)) → gz_S → Option (gz_S) := fun rec0 σ52 =>
  gz_call (f_X11_byteAt (σ52.1 0 0 16) σ52) (fun r54 σ53 =>
  gz_j0 (f_X11_next_J26 rec0) (fun j26 =>
  if r54 = 32 then
  (j26 σ53)
  else
  (gz_call (f_X11_byteAt (σ53.1 0 0 16) σ53) (fun r58 σ57 =>
  if r58 = 10 then
  (j26 σ57)
  else
  (j39 σ57)))))
def f_X11_next (σ : gz_S) : Option (gz_S) :=
  gz_j0 (f_X11_next_J39) (fun j39 =>
  gz_l0 (f_X11_next_L0 j39) gz_fu σ)
set_option maxHeartbeats 4000000 in
set_option maxRecDepth 100000 in
theorem c_X11_next (l : Launch) (G : gz_G) (σ : gz_S) : ∀ o, f_X11_next σ = some o → gz_M l true G yX11_next cX11_next 3 none { frames := 1, cells := 0, slots := 0, locals := 21 } [.ref (gz_ad true G 0 0)] σ (gz_eu o) 0 0 := by
  refine gz_enter RX11 rfl (by decide) (Nat.le_of_ble_eq_true rfl) ?_
  intro p e s m args below meth c C
  refine gz_eqs (st' := []) (lv' := [(0, .ref (gz_ad true G 0 0))]) rfl rfl ?_
  unfold f_X11_next
  refine gz_j0_row (P := fun σ1 x => gz_W true p l e ({ frames := 1, cells := 0, slots := 0, locals := 21 } : Room) s m args below meth c G 3 (gz_Q true G below args s 0 0 gz_eu) 0 0 σ1 39 [(0, .ref (gz_ad true G 0 0))] [] x) (fun σ1 => ?_) (fun j39 hj39 => ?_)
  · unfold f_X11_next_J39
    refine gz_aload_n C dX11_next_39 0 rfl ?_
    refine gz_aload_n C dX11_next_40 0 rfl ?_
    refine gz_get C (t := 0) (k := 16) (ci := 11) (q := (RX11, TX11, 63)) (v := .int (σ1.1 0 0 16)) dX11_next_41 fl_RX11_219 (gz_hm0 _) rfl rfl (by decide) rfl ?_
    refine gz_putI C (t := 0) (k := 18) (ci := 11) (q := (RX11, TX11, 63)) dX11_next_44 fl_RX11_225 (gz_hm0 _) rfl rfl (by decide) rfl rfl rfl rfl ?_
    refine gz_w_row (fun σ2 => ?_)
    refine gz_aload_n C dX11_next_47 0 rfl ?_
    refine gz_iconst C dX11_next_48 gk_iconst_0 ?_
    refine gz_putI C (t := 0) (k := 17) (ci := 11) (q := (RX11, TX11, 63)) dX11_next_49 fl_RX11_226 (gz_hm0 _) rfl rfl (by decide) rfl rfl rfl rfl ?_
    refine gz_w_row (fun σ3 => ?_)
    refine gz_aload_n C dX11_next_52 0 rfl ?_
    refine gz_iconst C dX11_next_53 gk_iconst_0 ?_
    refine gz_putI C (t := 0) (k := 19) (ci := 11) (q := (RX11, TX11, 63)) dX11_next_54 fl_RX11_229 (gz_hm0 _) rfl rfl (by decide) rfl rfl rfl rfl ?_
    refine gz_w_row (fun σ4 => ?_)
    refine gz_aload_n C dX11_next_57 0 rfl ?_
    refine gz_aload_n C dX11_next_58 0 rfl ?_
    refine gz_get C (t := 0) (k := 16) (ci := 11) (q := (RX11, TX11, 63)) (v := .int (σ4.1 0 0 16)) dX11_next_59 fl_RX11_219 (gz_hm0 _) rfl rfl (by decide) rfl ?_
    refine gz_ki (gz_runV (t := 0) (ci := 11) (q := (RX11, TX11, 63)) (As := [.int (σ4.1 0 0 16)]) (rest := []) C dX11_next_62 ml_RX11_222 mw_X11_byteAt mv_X11_byteAt (c_X11_byteAt l G (σ4.1 0 0 16) σ4) (gz_hm0 _) rfl rfl rfl rfl rfl (Nat.le_of_ble_eq_true rfl) ⟨rfl, rfl, Nat.le_of_ble_eq_true rfl, Nat.le_of_ble_eq_true rfl, Nat.le_of_ble_eq_true rfl, Nat.le_of_ble_eq_true rfl⟩) (fun r6 σ5 => ?_)
    refine gz_istore_n C (lv' := [(1, .int r6), (0, .ref (gz_ad true G 0 0))]) dX11_next_65 (by decide) rfl ?_
    refine gz_iconst C dX11_next_66 gk_iconst_0 ?_
    refine gz_istore_n C (lv' := [(2, .int 0), (1, .int r6), (0, .ref (gz_ad true G 0 0))]) dX11_next_67 (by decide) rfl ?_
    refine gz_aload_n C dX11_next_68 2 rfl ?_
    refine gz_lconst C dX11_next_69 gk_lconst_0 ?_
    refine gz_putJ C (t := 0) (k := 20) (ci := 11) (q := (RX11, TX11, 63)) dX11_next_70 fl_RX11_232 (gz_hm0 _) rfl rfl (by decide) rfl rfl rfl rfl ?_
    refine gz_w_row (fun σ7 => ?_)
    refine gz_iload_n C dX11_next_73 1 rfl ?_
    refine gz_iconst C dX11_next_74 gk_iconst_m1 ?_
    refine gz_icmp_ne (tgt := 86) C dX11_next_75 (by decide) ?_ ?_
    · skip
      refine gz_iload_n C dX11_next_86 1 rfl ?_
      refine gz_ki (gz_runS (As := [.int r6]) (rest := []) C dX11_next_87 ml_RX11_236 mw_X11_isLetter ms_X11_isLetter (c_X11_isLetter l G r6 σ7) rfl rfl (Nat.le_of_ble_eq_true rfl) ⟨rfl, rfl, Nat.le_of_ble_eq_true rfl, Nat.le_of_ble_eq_true rfl, Nat.le_of_ble_eq_true rfl, Nat.le_of_ble_eq_true rfl⟩) (fun r9 σ8 => ?_)
      refine gz_if_eq (tgt := 174) C dX11_next_90 (by decide) ?_ ?_
      · skip
        refine gz_iload_n C dX11_next_174 1 rfl ?_
        refine gz_ki (gz_runS (As := [.int r6]) (rest := []) C dX11_next_175 ml_RX11_241 mw_X11_isDigit ms_X11_isDigit (c_X11_isDigit l G r6 σ8) rfl rfl (Nat.le_of_ble_eq_true rfl) ⟨rfl, rfl, Nat.le_of_ble_eq_true rfl, Nat.le_of_ble_eq_true rfl, Nat.le_of_ble_eq_true rfl, Nat.le_of_ble_eq_true rfl⟩) (fun r11 σ10 => ?_)
        refine gz_if_eq (tgt := 258) C dX11_next_178 (by decide) ?_ ?_
        · skip
          refine gz_iload_n C dX11_next_258 1 rfl ?_
          refine gz_bipush C dX11_next_259 gk_bipush_46 ?_
          refine gz_j0_row (P := fun σ12 x => gz_W true p l e ({ frames := 1, cells := 0, slots := 0, locals := 21 } : Room) s m args below meth c G 3 (gz_Q true G below args s 0 0 gz_eu) 0 0 σ12 297 [(0, .ref (gz_ad true G 0 0)), (1, .int r6)] [] x) (fun σ12 => ?_) (fun j297 hj297 => ?_)
          · unfold f_X11_next_J297
            refine gz_iload_n C dX11_next_297 1 rfl ?_
            refine gz_bipush C dX11_next_298 gk_bipush_58 ?_
            refine gz_j0_row (P := fun σ13 x => gz_W true p l e ({ frames := 1, cells := 0, slots := 0, locals := 21 } : Room) s m args below meth c G 3 (gz_Q true G below args s 0 0 gz_eu) 0 0 σ13 327 [(0, .ref (gz_ad true G 0 0)), (1, .int r6)] [] x) (fun σ13 => ?_) (fun j327 hj327 => ?_)
            · unfold f_X11_next_J327
              refine gz_aload_n C dX11_next_327 0 rfl ?_
              refine gz_iconst C dX11_next_328 gk_iconst_5 ?_
              refine gz_putI C (t := 0) (k := 17) (ci := 11) (q := (RX11, TX11, 63)) dX11_next_329 fl_RX11_226 (gz_hm0 _) rfl rfl (by decide) rfl rfl rfl rfl ?_
              refine gz_w_row (fun σ14 => ?_)
              refine gz_aload_n C dX11_next_332 0 rfl ?_
              refine gz_iload_n C dX11_next_333 1 rfl ?_
              refine gz_putI C (t := 0) (k := 19) (ci := 11) (q := (RX11, TX11, 63)) dX11_next_334 fl_RX11_229 (gz_hm0 _) rfl rfl (by decide) rfl rfl rfl rfl ?_
              refine gz_w_row (fun σ15 => ?_)
              refine gz_aload_n C dX11_next_337 0 rfl ?_
              refine gz_dup C dX11_next_338 rfl ?_
              refine gz_get C (t := 0) (k := 16) (ci := 11) (q := (RX11, TX11, 63)) (v := .int (σ15.1 0 0 16)) dX11_next_339 fl_RX11_219 (gz_hm0 _) rfl rfl (by decide) rfl ?_
              refine gz_iconst C dX11_next_342 gk_iconst_1 ?_
              refine gz_iadd C dX11_next_343 ?_
              refine gz_putI C (t := 0) (k := 16) (ci := 11) (q := (RX11, TX11, 63)) dX11_next_344 fl_RX11_219 (gz_hm0 _) rfl rfl (by decide) rfl rfl rfl rfl ?_
              refine gz_w_row (fun σ16 => ?_)
              exact gz_vret C rfl dX11_next_347
            · skip
              refine gz_icmp_eq (tgt := 327) C dX11_next_300 (by decide) ?_ ?_
              · skip
                exact hj327 σ12
              · skip
                refine gz_iload_n C dX11_next_303 1 rfl ?_
                refine gz_bipush C dX11_next_304 gk_bipush_59 ?_
                refine gz_icmp_eq (tgt := 327) C dX11_next_306 (by decide) ?_ ?_
                · skip
                  exact hj327 σ12
                · skip
                  refine gz_iload_n C dX11_next_309 1 rfl ?_
                  refine gz_bipush C dX11_next_310 gk_bipush_63 ?_
                  refine gz_icmp_eq (tgt := 327) C dX11_next_312 (by decide) ?_ ?_
                  · skip
                    exact hj327 σ12
                  · skip
                    refine gz_iload_n C dX11_next_315 1 rfl ?_
                    refine gz_bipush C dX11_next_316 gk_bipush_47 ?_
                    refine gz_icmp_eq (tgt := 327) C dX11_next_318 (by decide) ?_ ?_
                    · skip
                      exact hj327 σ12
                    · skip
                      refine gz_iload_n C dX11_next_321 1 rfl ?_
                      refine gz_bipush C dX11_next_322 gk_bipush_61 ?_
                      refine gz_icmp_ne (tgt := 347) C dX11_next_324 (by decide) ?_ ?_
                      · skip
                        exact gz_vret C rfl dX11_next_347
                      · skip
                        exact hj327 σ12
          · skip
            refine gz_icmp_ne (tgt := 297) C dX11_next_261 (by decide) ?_ ?_
            · skip
              refine gz_lv (lv' := [(0, .ref (gz_ad true G 0 0)), (1, .int r6)]) [2, 1] rfl ?_
              exact hj297 σ10
            · skip
              refine gz_aload_n C dX11_next_264 2 rfl ?_
              refine gz_aload_n C dX11_next_265 2 rfl ?_
              refine gz_get C (t := 0) (k := 16) (ci := 11) (q := (RX11, TX11, 63)) (v := .int (σ10.1 0 0 16)) dX11_next_266 fl_RX11_219 (gz_hm0 _) rfl rfl (by decide) rfl ?_
              refine gz_iconst C dX11_next_269 gk_iconst_1 ?_
              refine gz_iadd C dX11_next_270 ?_
              refine gz_ki (gz_runV (t := 0) (ci := 11) (q := (RX11, TX11, 63)) (As := [.int ((σ10.1 0 0 16) + 1)]) (rest := []) C dX11_next_271 ml_RX11_222 mw_X11_byteAt mv_X11_byteAt (c_X11_byteAt l G ((σ10.1 0 0 16) + 1) σ10) (gz_hm0 _) rfl rfl rfl rfl rfl (Nat.le_of_ble_eq_true rfl) ⟨rfl, rfl, Nat.le_of_ble_eq_true rfl, Nat.le_of_ble_eq_true rfl, Nat.le_of_ble_eq_true rfl, Nat.le_of_ble_eq_true rfl⟩) (fun r18 σ17 => ?_)
              refine gz_bipush C dX11_next_274 gk_bipush_46 ?_
              refine gz_icmp_ne (tgt := 297) C dX11_next_276 (by decide) ?_ ?_
              · skip
                refine gz_lv (lv' := [(0, .ref (gz_ad true G 0 0)), (1, .int r6)]) [2, 1] rfl ?_
                exact hj297 σ17
              · skip
                refine gz_aload_n C dX11_next_279 2 rfl ?_
                refine gz_iconst C dX11_next_280 gk_iconst_4 ?_
                refine gz_putI C (t := 0) (k := 17) (ci := 11) (q := (RX11, TX11, 63)) dX11_next_281 fl_RX11_226 (gz_hm0 _) rfl rfl (by decide) rfl rfl rfl rfl ?_
                refine gz_w_row (fun σ19 => ?_)
                refine gz_aload_n C dX11_next_284 2 rfl ?_
                refine gz_dup C dX11_next_285 rfl ?_
                refine gz_get C (t := 0) (k := 16) (ci := 11) (q := (RX11, TX11, 63)) (v := .int (σ19.1 0 0 16)) dX11_next_286 fl_RX11_219 (gz_hm0 _) rfl rfl (by decide) rfl ?_
                refine gz_iconst C dX11_next_289 gk_iconst_2 ?_
                refine gz_iadd C dX11_next_290 ?_
                refine gz_putI C (t := 0) (k := 16) (ci := 11) (q := (RX11, TX11, 63)) dX11_next_291 fl_RX11_219 (gz_hm0 _) rfl rfl (by decide) rfl rfl rfl rfl ?_
                refine gz_w_row (fun σ20 => ?_)
                refine gz_goto (tgt := 347) C dX11_next_294 (by decide) ?_
                exact gz_vret C rfl dX11_next_347
        · skip
          refine gz_j1_row (P := fun v21 σ22 x => gz_W true p l e ({ frames := 1, cells := 0, slots := 0, locals := 21 } : Room) s m args below meth c G 3 (gz_Q true G below args s 0 0 gz_eu) 0 0 σ22 241 [(0, .ref (gz_ad true G 0 0)), (2, .int v21)] [] x) (fun v21 σ22 => ?_) (fun j241 hj241 => ?_)
          · unfold f_X11_next_J241
            refine gz_aload_n C dX11_next_241 0 rfl ?_
            refine gz_iload_n C dX11_next_242 1 rfl ?_
            refine gz_iconst C dX11_next_243 gk_iconst_4 ?_
            refine gz_icmp_le (tgt := 251) C dX11_next_244 (by decide) ?_ ?_
            · skip
              refine gz_iconst C dX11_next_251 gk_iconst_3 ?_
              refine gz_putI C (t := 0) (k := 17) (ci := 11) (q := (RX11, TX11, 63)) dX11_next_252 fl_RX11_226 (gz_hm0 _) rfl rfl (by decide) rfl rfl rfl rfl ?_
              refine gz_w_row (fun σ23 => ?_)
              refine gz_goto (tgt := 347) C dX11_next_255 (by decide) ?_
              exact gz_vret C rfl dX11_next_347
            · skip
              refine gz_iconst C dX11_next_247 gk_iconst_0 ?_
              refine gz_goto (tgt := 252) C dX11_next_248 (by decide) ?_
              refine gz_putI C (t := 0) (k := 17) (ci := 11) (q := (RX11, TX11, 63)) dX11_next_252 fl_RX11_226 (gz_hm0 _) rfl rfl (by decide) rfl rfl rfl rfl ?_
              refine gz_w_row (fun σ24 => ?_)
              refine gz_goto (tgt := 347) C dX11_next_255 (by decide) ?_
              exact gz_vret C rfl dX11_next_347
          · skip
            refine gz_lv (lv' := [(0, .ref (gz_ad true G 0 0)), (2, .int 0)]) [2, 0] rfl ?_
            refine gz_l1_ind (P := fun v25 σ26 x => gz_W true p l e ({ frames := 1, cells := 0, slots := 0, locals := 21 } : Room) s m args below meth c G 3 (gz_Q true G below args s 0 0 gz_eu) 0 0 σ26 181 [(0, .ref (gz_ad true G 0 0)), (2, .int v25)] [] x) (fun _ _ => gz_none) (fun rec181 hrec181 v25 σ26 => ?_) gz_fu 0 σ10
            unfold f_X11_next_L181
            refine gz_aload_n C dX11_next_181 0 rfl ?_
            refine gz_aload_n C dX11_next_182 0 rfl ?_
            refine gz_get C (t := 0) (k := 16) (ci := 11) (q := (RX11, TX11, 63)) (v := .int (σ26.1 0 0 16)) dX11_next_183 fl_RX11_219 (gz_hm0 _) rfl rfl (by decide) rfl ?_
            refine gz_ki (gz_runV (t := 0) (ci := 11) (q := (RX11, TX11, 63)) (As := [.int (σ26.1 0 0 16)]) (rest := []) C dX11_next_186 ml_RX11_222 mw_X11_byteAt mv_X11_byteAt (c_X11_byteAt l G (σ26.1 0 0 16) σ26) (gz_hm0 _) rfl rfl rfl rfl rfl (Nat.le_of_ble_eq_true rfl) ⟨rfl, rfl, Nat.le_of_ble_eq_true rfl, Nat.le_of_ble_eq_true rfl, Nat.le_of_ble_eq_true rfl, Nat.le_of_ble_eq_true rfl⟩) (fun r28 σ27 => ?_)
            refine gz_ki (gz_runS (As := [.int r28]) (rest := []) C dX11_next_189 ml_RX11_241 mw_X11_isDigit ms_X11_isDigit (c_X11_isDigit l G r28 σ27) rfl rfl (Nat.le_of_ble_eq_true rfl) ⟨rfl, rfl, Nat.le_of_ble_eq_true rfl, Nat.le_of_ble_eq_true rfl, Nat.le_of_ble_eq_true rfl, Nat.le_of_ble_eq_true rfl⟩) (fun r30 σ29 => ?_)
            refine gz_if_eq (tgt := 241) C dX11_next_192 (by decide) ?_ ?_
            · skip
              exact hj241 v25 σ29
            · skip
              refine gz_iload_n C dX11_next_195 1 rfl ?_
              refine gz_iconst C dX11_next_196 gk_iconst_4 ?_
              refine gz_j0_row (P := fun σ31 x => gz_W true p l e ({ frames := 1, cells := 0, slots := 0, locals := 21 } : Room) s m args below meth c G 3 (gz_Q true G below args s 0 0 gz_eu) 0 0 σ31 225 [(0, .ref (gz_ad true G 0 0)), (2, .int v25)] [] x) (fun σ31 => ?_) (fun j225 hj225 => ?_)
              · unfold f_X11_next_J225
                refine gz_iinc C (q := 1) (v := v25 + 1) (lv' := [(2, .int (v25 + 1)), (0, .ref (gz_ad true G 0 0))]) dX11_next_225 rfl rfl (by decide) rfl ?_
                refine gz_aload_n C dX11_next_228 1 rfl ?_
                refine gz_dup C dX11_next_229 rfl ?_
                refine gz_get C (t := 0) (k := 16) (ci := 11) (q := (RX11, TX11, 63)) (v := .int (σ31.1 0 0 16)) dX11_next_230 fl_RX11_219 (gz_hm0 _) rfl rfl (by decide) rfl ?_
                refine gz_iconst C dX11_next_233 gk_iconst_1 ?_
                refine gz_iadd C dX11_next_234 ?_
                refine gz_putI C (t := 0) (k := 16) (ci := 11) (q := (RX11, TX11, 63)) dX11_next_235 fl_RX11_219 (gz_hm0 _) rfl rfl (by decide) rfl rfl rfl rfl ?_
                refine gz_w_row (fun σ32 => ?_)
                refine gz_goto (tgt := 181) C dX11_next_238 (by decide) ?_
                refine gz_lv (lv' := [(0, .ref (gz_ad true G 0 0)), (2, .int (v25 + 1))]) [1, 0] rfl ?_
                exact hrec181 (v25 + 1) σ32
              · skip
                refine gz_icmp_ge (tgt := 225) C dX11_next_197 (by decide) ?_ ?_
                · skip
                  exact hj225 σ29
                · skip
                  refine gz_aload_n C dX11_next_200 0 rfl ?_
                  refine gz_ldc2 C dX11_next_201 cw_RX11_244 ?_
                  refine gz_aload_n C dX11_next_204 0 rfl ?_
                  refine gz_get C (t := 0) (k := 20) (ci := 11) (q := (RX11, TX11, 63)) (v := .long (σ29.2.1 0 0 20)) dX11_next_205 fl_RX11_232 (gz_hm0 _) rfl rfl (by decide) rfl ?_
                  refine gz_lmul C dX11_next_208 ?_
                  refine gz_aload_n C dX11_next_209 0 rfl ?_
                  refine gz_aload_n C dX11_next_210 0 rfl ?_
                  refine gz_get C (t := 0) (k := 16) (ci := 11) (q := (RX11, TX11, 63)) (v := .int (σ29.1 0 0 16)) dX11_next_211 fl_RX11_219 (gz_hm0 _) rfl rfl (by decide) rfl ?_
                  refine gz_ki (gz_runV (t := 0) (ci := 11) (q := (RX11, TX11, 63)) (As := [.int (σ29.1 0 0 16)]) (rest := [.long (10 * (σ29.2.1 0 0 20)), .ref (gz_ad true G 0 0)]) C dX11_next_214 ml_RX11_222 mw_X11_byteAt mv_X11_byteAt (c_X11_byteAt l G (σ29.1 0 0 16) σ29) (gz_hm0 _) rfl rfl rfl rfl rfl (Nat.le_of_ble_eq_true rfl) ⟨rfl, rfl, Nat.le_of_ble_eq_true rfl, Nat.le_of_ble_eq_true rfl, Nat.le_of_ble_eq_true rfl, Nat.le_of_ble_eq_true rfl⟩) (fun r34 σ33 => ?_)
                  refine gz_bipush C dX11_next_217 gk_bipush_48 ?_
                  refine gz_isub C dX11_next_219 ?_
                  refine gz_i2l C dX11_next_220 ?_
                  refine gz_ladd C dX11_next_221 ?_
                  refine gz_putJ C (t := 0) (k := 20) (ci := 11) (q := (RX11, TX11, 63)) dX11_next_222 fl_RX11_232 (gz_hm0 _) rfl rfl (by decide) rfl rfl rfl rfl ?_
                  refine gz_w_row (fun σ35 => ?_)
                  exact hj225 σ35
      · skip
        refine gz_j1_row (P := fun v36 σ37 x => gz_W true p l e ({ frames := 1, cells := 0, slots := 0, locals := 21 } : Room) s m args below meth c G 3 (gz_Q true G below args s 0 0 gz_eu) 0 0 σ37 156 [(0, .ref (gz_ad true G 0 0)), (2, .int v36)] [] x) (fun v36 σ37 => ?_) (fun j156 hj156 => ?_)
        · unfold f_X11_next_J156
          refine gz_aload_n C dX11_next_156 0 rfl ?_
          refine gz_iload_n C dX11_next_157 1 rfl ?_
          refine gz_bipush C dX11_next_158 gk_bipush_8 ?_
          refine gz_icmp_le (tgt := 167) C dX11_next_160 (by decide) ?_ ?_
          · skip
            refine gz_iconst C dX11_next_167 gk_iconst_2 ?_
            refine gz_putI C (t := 0) (k := 17) (ci := 11) (q := (RX11, TX11, 63)) dX11_next_168 fl_RX11_226 (gz_hm0 _) rfl rfl (by decide) rfl rfl rfl rfl ?_
            refine gz_w_row (fun σ38 => ?_)
            refine gz_goto (tgt := 347) C dX11_next_171 (by decide) ?_
            exact gz_vret C rfl dX11_next_347
          · skip
            refine gz_iconst C dX11_next_163 gk_iconst_0 ?_
            refine gz_goto (tgt := 168) C dX11_next_164 (by decide) ?_
            refine gz_putI C (t := 0) (k := 17) (ci := 11) (q := (RX11, TX11, 63)) dX11_next_168 fl_RX11_226 (gz_hm0 _) rfl rfl (by decide) rfl rfl rfl rfl ?_
            refine gz_w_row (fun σ39 => ?_)
            refine gz_goto (tgt := 347) C dX11_next_171 (by decide) ?_
            exact gz_vret C rfl dX11_next_347
        · skip
          refine gz_lv (lv' := [(0, .ref (gz_ad true G 0 0)), (2, .int 0)]) [2, 0] rfl ?_
          refine gz_l1_ind (P := fun v40 σ41 x => gz_W true p l e ({ frames := 1, cells := 0, slots := 0, locals := 21 } : Room) s m args below meth c G 3 (gz_Q true G below args s 0 0 gz_eu) 0 0 σ41 93 [(0, .ref (gz_ad true G 0 0)), (2, .int v40)] [] x) (fun _ _ => gz_none) (fun rec93 hrec93 v40 σ41 => ?_) gz_fu 0 σ8
          unfold f_X11_next_L93
          refine gz_aload_n C dX11_next_93 0 rfl ?_
          refine gz_aload_n C dX11_next_94 0 rfl ?_
          refine gz_get C (t := 0) (k := 16) (ci := 11) (q := (RX11, TX11, 63)) (v := .int (σ41.1 0 0 16)) dX11_next_95 fl_RX11_219 (gz_hm0 _) rfl rfl (by decide) rfl ?_
          refine gz_ki (gz_runV (t := 0) (ci := 11) (q := (RX11, TX11, 63)) (As := [.int (σ41.1 0 0 16)]) (rest := []) C dX11_next_98 ml_RX11_222 mw_X11_byteAt mv_X11_byteAt (c_X11_byteAt l G (σ41.1 0 0 16) σ41) (gz_hm0 _) rfl rfl rfl rfl rfl (Nat.le_of_ble_eq_true rfl) ⟨rfl, rfl, Nat.le_of_ble_eq_true rfl, Nat.le_of_ble_eq_true rfl, Nat.le_of_ble_eq_true rfl, Nat.le_of_ble_eq_true rfl⟩) (fun r43 σ42 => ?_)
          refine gz_ki (gz_runS (As := [.int r43]) (rest := []) C dX11_next_101 ml_RX11_236 mw_X11_isLetter ms_X11_isLetter (c_X11_isLetter l G r43 σ42) rfl rfl (Nat.le_of_ble_eq_true rfl) ⟨rfl, rfl, Nat.le_of_ble_eq_true rfl, Nat.le_of_ble_eq_true rfl, Nat.le_of_ble_eq_true rfl, Nat.le_of_ble_eq_true rfl⟩) (fun r45 σ44 => ?_)
          refine gz_if_eq (tgt := 156) C dX11_next_104 (by decide) ?_ ?_
          · skip
            exact hj156 v40 σ44
          · skip
            refine gz_iload_n C dX11_next_107 1 rfl ?_
            refine gz_bipush C dX11_next_108 gk_bipush_8 ?_
            refine gz_j0_row (P := fun σ46 x => gz_W true p l e ({ frames := 1, cells := 0, slots := 0, locals := 21 } : Room) s m args below meth c G 3 (gz_Q true G below args s 0 0 gz_eu) 0 0 σ46 140 [(0, .ref (gz_ad true G 0 0)), (2, .int v40)] [] x) (fun σ46 => ?_) (fun j140 hj140 => ?_)
            · unfold f_X11_next_J140
              refine gz_iinc C (q := 1) (v := v40 + 1) (lv' := [(2, .int (v40 + 1)), (0, .ref (gz_ad true G 0 0))]) dX11_next_140 rfl rfl (by decide) rfl ?_
              refine gz_aload_n C dX11_next_143 1 rfl ?_
              refine gz_dup C dX11_next_144 rfl ?_
              refine gz_get C (t := 0) (k := 16) (ci := 11) (q := (RX11, TX11, 63)) (v := .int (σ46.1 0 0 16)) dX11_next_145 fl_RX11_219 (gz_hm0 _) rfl rfl (by decide) rfl ?_
              refine gz_iconst C dX11_next_148 gk_iconst_1 ?_
              refine gz_iadd C dX11_next_149 ?_
              refine gz_putI C (t := 0) (k := 16) (ci := 11) (q := (RX11, TX11, 63)) dX11_next_150 fl_RX11_219 (gz_hm0 _) rfl rfl (by decide) rfl rfl rfl rfl ?_
              refine gz_w_row (fun σ47 => ?_)
              refine gz_goto (tgt := 93) C dX11_next_153 (by decide) ?_
              refine gz_lv (lv' := [(0, .ref (gz_ad true G 0 0)), (2, .int (v40 + 1))]) [1, 0] rfl ?_
              exact hrec93 (v40 + 1) σ47
            · skip
              refine gz_icmp_ge (tgt := 140) C dX11_next_110 (by decide) ?_ ?_
              · skip
                exact hj140 σ44
              · skip
                refine gz_aload_n C dX11_next_113 0 rfl ?_
                refine gz_ldc2 C dX11_next_114 cw_RX11_239 ?_
                refine gz_aload_n C dX11_next_117 0 rfl ?_
                refine gz_get C (t := 0) (k := 20) (ci := 11) (q := (RX11, TX11, 63)) (v := .long (σ44.2.1 0 0 20)) dX11_next_118 fl_RX11_232 (gz_hm0 _) rfl rfl (by decide) rfl ?_
                refine gz_lmul C dX11_next_121 ?_
                refine gz_aload_n C dX11_next_122 0 rfl ?_
                refine gz_aload_n C dX11_next_123 0 rfl ?_
                refine gz_get C (t := 0) (k := 16) (ci := 11) (q := (RX11, TX11, 63)) (v := .int (σ44.1 0 0 16)) dX11_next_124 fl_RX11_219 (gz_hm0 _) rfl rfl (by decide) rfl ?_
                refine gz_ki (gz_runV (t := 0) (ci := 11) (q := (RX11, TX11, 63)) (As := [.int (σ44.1 0 0 16)]) (rest := [.long (32 * (σ44.2.1 0 0 20)), .ref (gz_ad true G 0 0)]) C dX11_next_127 ml_RX11_222 mw_X11_byteAt mv_X11_byteAt (c_X11_byteAt l G (σ44.1 0 0 16) σ44) (gz_hm0 _) rfl rfl rfl rfl rfl (Nat.le_of_ble_eq_true rfl) ⟨rfl, rfl, Nat.le_of_ble_eq_true rfl, Nat.le_of_ble_eq_true rfl, Nat.le_of_ble_eq_true rfl, Nat.le_of_ble_eq_true rfl⟩) (fun r49 σ48 => ?_)
                refine gz_bipush C dX11_next_130 gk_bipush_97 ?_
                refine gz_isub C dX11_next_132 ?_
                refine gz_iconst C dX11_next_133 gk_iconst_1 ?_
                refine gz_iadd C dX11_next_134 ?_
                refine gz_i2l C dX11_next_135 ?_
                refine gz_ladd C dX11_next_136 ?_
                refine gz_putJ C (t := 0) (k := 20) (ci := 11) (q := (RX11, TX11, 63)) dX11_next_137 fl_RX11_232 (gz_hm0 _) rfl rfl (by decide) rfl rfl rfl rfl ?_
                refine gz_w_row (fun σ50 => ?_)
                exact hj140 σ50
    · skip
      refine gz_aload_n C dX11_next_78 2 rfl ?_
      refine gz_iconst C dX11_next_79 gk_iconst_1 ?_
      refine gz_putI C (t := 0) (k := 17) (ci := 11) (q := (RX11, TX11, 63)) dX11_next_80 fl_RX11_226 (gz_hm0 _) rfl rfl (by decide) rfl rfl rfl rfl ?_
      refine gz_w_row (fun σ51 => ?_)
      refine gz_goto (tgt := 347) C dX11_next_83 (by decide) ?_
      exact gz_vret C rfl dX11_next_347
  · skip
    refine gz_l0_ind (P := fun σ52 x => gz_W true p l e ({ frames := 1, cells := 0, slots := 0, locals := 21 } : Room) s m args below meth c G 3 (gz_Q true G below args s 0 0 gz_eu) 0 0 σ52 0 [(0, .ref (gz_ad true G 0 0))] [] x) (fun _ => gz_none) (fun rec0 hrec0 σ52 => ?_) gz_fu σ
    unfold f_X11_next_L0
    refine gz_aload_n C dX11_next_0 0 rfl ?_
    refine gz_aload_n C dX11_next_1 0 rfl ?_
    refine gz_get C (t := 0) (k := 16) (ci := 11) (q := (RX11, TX11, 63)) (v := .int (σ52.1 0 0 16)) dX11_next_2 fl_RX11_219 (gz_hm0 _) rfl rfl (by decide) rfl ?_
    refine gz_ki (gz_runV (t := 0) (ci := 11) (q := (RX11, TX11, 63)) (As := [.int (σ52.1 0 0 16)]) (rest := []) C dX11_next_5 ml_RX11_222 mw_X11_byteAt mv_X11_byteAt (c_X11_byteAt l G (σ52.1 0 0 16) σ52) (gz_hm0 _) rfl rfl rfl rfl rfl (Nat.le_of_ble_eq_true rfl) ⟨rfl, rfl, Nat.le_of_ble_eq_true rfl, Nat.le_of_ble_eq_true rfl, Nat.le_of_ble_eq_true rfl, Nat.le_of_ble_eq_true rfl⟩) (fun r54 σ53 => ?_)
    refine gz_bipush C dX11_next_8 gk_bipush_32 ?_
    refine gz_j0_row (P := fun σ55 x => gz_W true p l e ({ frames := 1, cells := 0, slots := 0, locals := 21 } : Room) s m args below meth c G 3 (gz_Q true G below args s 0 0 gz_eu) 0 0 σ55 26 [(0, .ref (gz_ad true G 0 0))] [] x) (fun σ55 => ?_) (fun j26 hj26 => ?_)
    · unfold f_X11_next_J26
      refine gz_aload_n C dX11_next_26 0 rfl ?_
      refine gz_dup C dX11_next_27 rfl ?_
      refine gz_get C (t := 0) (k := 16) (ci := 11) (q := (RX11, TX11, 63)) (v := .int (σ55.1 0 0 16)) dX11_next_28 fl_RX11_219 (gz_hm0 _) rfl rfl (by decide) rfl ?_
      refine gz_iconst C dX11_next_31 gk_iconst_1 ?_
      refine gz_iadd C dX11_next_32 ?_
      refine gz_putI C (t := 0) (k := 16) (ci := 11) (q := (RX11, TX11, 63)) dX11_next_33 fl_RX11_219 (gz_hm0 _) rfl rfl (by decide) rfl rfl rfl rfl ?_
      refine gz_w_row (fun σ56 => ?_)
      refine gz_goto (tgt := 0) C dX11_next_36 (by decide) ?_
      exact hrec0 σ56
    · skip
      refine gz_icmp_eq (tgt := 26) C dX11_next_10 (by decide) ?_ ?_
      · skip
        exact hj26 σ53
      · skip
        refine gz_aload_n C dX11_next_13 0 rfl ?_
        refine gz_aload_n C dX11_next_14 0 rfl ?_
        refine gz_get C (t := 0) (k := 16) (ci := 11) (q := (RX11, TX11, 63)) (v := .int (σ53.1 0 0 16)) dX11_next_15 fl_RX11_219 (gz_hm0 _) rfl rfl (by decide) rfl ?_
        refine gz_ki (gz_runV (t := 0) (ci := 11) (q := (RX11, TX11, 63)) (As := [.int (σ53.1 0 0 16)]) (rest := []) C dX11_next_18 ml_RX11_222 mw_X11_byteAt mv_X11_byteAt (c_X11_byteAt l G (σ53.1 0 0 16) σ53) (gz_hm0 _) rfl rfl rfl rfl rfl (Nat.le_of_ble_eq_true rfl) ⟨rfl, rfl, Nat.le_of_ble_eq_true rfl, Nat.le_of_ble_eq_true rfl, Nat.le_of_ble_eq_true rfl, Nat.le_of_ble_eq_true rfl⟩) (fun r58 σ57 => ?_)
        refine gz_bipush C dX11_next_21 gk_bipush_10 ?_
        refine gz_icmp_ne (tgt := 39) C dX11_next_23 (by decide) ?_ ?_
        · skip
          exact hj39 σ57
        · skip
          exact hj26 σ57

def f_X11_is (a1 : Int32) (σ : gz_S) : Option (Int32 × gz_S) :=
  if (σ.1 0 0 17) = 5 then
  (if (σ.1 0 0 19) = a1 then
  (some ((1 : Int32) &&& 1, σ))
  else
  (some ((0 : Int32) &&& 1, σ)))
  else
  (some ((0 : Int32) &&& 1, σ))
set_option maxHeartbeats 4000000 in
set_option maxRecDepth 100000 in
theorem c_X11_is (l : Launch) (G : gz_G) (a1 : Int32) (σ : gz_S) : ∀ o, f_X11_is a1 σ = some o → gz_M l true G yX11_is cX11_is 2 (some .boolean) { frames := 0, cells := 0, slots := 0, locals := 0 } [.ref (gz_ad true G 0 0), .int a1] σ (gz_ei o) 0 0 := by
  refine gz_enter RX11 rfl (by decide) (Nat.le_of_ble_eq_true rfl) ?_
  intro p e s m args below meth c C
  refine gz_eqs (st' := []) (lv' := [(0, .ref (gz_ad true G 0 0)), (1, .int a1)]) rfl rfl ?_
  unfold f_X11_is
  refine gz_aload_n C dX11_is_0 0 rfl ?_
  refine gz_get C (t := 0) (k := 17) (ci := 11) (q := (RX11, TX11, 63)) (v := .int (σ.1 0 0 17)) dX11_is_1 fl_RX11_226 (gz_hm0 _) rfl rfl (by decide) rfl ?_
  refine gz_iconst C dX11_is_4 gk_iconst_5 ?_
  refine gz_icmp_ne (tgt := 20) C dX11_is_5 (by decide) ?_ ?_
  · skip
    refine gz_iconst C dX11_is_20 gk_iconst_0 ?_
    exact gz_zret C rfl dX11_is_21
  · skip
    refine gz_aload_n C dX11_is_8 0 rfl ?_
    refine gz_get C (t := 0) (k := 19) (ci := 11) (q := (RX11, TX11, 63)) (v := .int (σ.1 0 0 19)) dX11_is_9 fl_RX11_229 (gz_hm0 _) rfl rfl (by decide) rfl ?_
    refine gz_iload_n C dX11_is_12 1 rfl ?_
    refine gz_icmp_ne (tgt := 20) C dX11_is_13 (by decide) ?_ ?_
    · skip
      refine gz_iconst C dX11_is_20 gk_iconst_0 ?_
      exact gz_zret C rfl dX11_is_21
    · skip
      refine gz_iconst C dX11_is_16 gk_iconst_1 ?_
      refine gz_goto (tgt := 21) C dX11_is_17 (by decide) ?_
      exact gz_zret C rfl dX11_is_21

def f_X11_need (a1 : Int32) (σ : gz_S) : Option (Option Unit × gz_S) :=
  gz_call (f_X11_is a1 σ) (fun r2 σ1 =>
  if r2 = 0 then
  (gz_call (f_X11_stop 1 (σ1.1 0 0 18) σ1) (fun r5 σ4 =>
  gz_nl r5 1 none (fun i6 =>
  some (none, σ4))))
  else
  (gz_then (f_X11_next σ1) (fun σ3 =>
  some (some (), σ3))))
set_option maxHeartbeats 4000000 in
set_option maxRecDepth 100000 in
theorem c_X11_need (l : Launch) (G : gz_G) (a1 : Int32) (σ : gz_S) : ∀ o, f_X11_need a1 σ = some o → gz_MT l true G yX11_need (.code yX11_need cX11_need 2 none) { frames := 2, cells := 0, slots := 0, locals := 43 } [.ref (gz_ad true G 0 0), .int a1] σ ((gz_te G gz_ev0) o) 0 0 := by
  refine gz_enterT RX11 rfl (by decide) (Nat.le_of_ble_eq_true rfl) ?_
  intro p e s m args below meth c C hE
  refine gz_eqs (st' := []) (lv' := [(0, .ref (gz_ad true G 0 0)), (1, .int a1)]) rfl rfl ?_
  unfold f_X11_need
  refine gz_aload_n C dX11_need_0 0 rfl ?_
  refine gz_iload_n C dX11_need_1 1 rfl ?_
  refine gz_ki (gz_runV (t := 0) (ci := 11) (q := (RX11, TX11, 63)) (As := [.int a1]) (rest := []) C dX11_need_2 ml_RX11_246 mw_X11_is mv_X11_is (c_X11_is l G a1 σ) (gz_hm0 _) rfl rfl rfl rfl rfl (Nat.le_of_ble_eq_true rfl) ⟨rfl, rfl, Nat.le_of_ble_eq_true rfl, Nat.le_of_ble_eq_true rfl, Nat.le_of_ble_eq_true rfl, Nat.le_of_ble_eq_true rfl⟩) (fun r2 σ1 => ?_)
  refine gz_if_ne (tgt := 18) C dX11_need_5 (by decide) ?_ ?_
  · skip
    refine gz_aload_n C dX11_need_18 0 rfl ?_
    refine gz_kv (gz_runV (t := 0) (ci := 11) (q := (RX11, TX11, 63)) (As := []) (rest := []) C dX11_need_19 ml_RX11_252 mw_X11_next mv_X11_next (c_X11_next l G σ1) (gz_hm0 _) rfl rfl rfl rfl rfl (Nat.le_of_ble_eq_true rfl) ⟨rfl, rfl, Nat.le_of_ble_eq_true rfl, Nat.le_of_ble_eq_true rfl, Nat.le_of_ble_eq_true rfl, Nat.le_of_ble_eq_true rfl⟩) (fun σ3 => ?_)
    exact gz_vretT C rfl dX11_need_22
  · skip
    refine gz_aload_n C dX11_need_8 0 rfl ?_
    refine gz_iconst C dX11_need_9 gk_iconst_1 ?_
    refine gz_aload_n C dX11_need_10 0 rfl ?_
    refine gz_get C (t := 0) (k := 18) (ci := 11) (q := (RX11, TX11, 63)) (v := .int (σ1.1 0 0 18)) dX11_need_11 fl_RX11_225 (gz_hm0 _) rfl rfl (by decide) rfl ?_
    refine gz_kr (t := 6) (gz_runV (t := 0) (ci := 11) (q := (RX11, TX11, 63)) (As := [.int 1, .int (σ1.1 0 0 18)]) (rest := []) C dX11_need_14 ml_RX11_249 mw_X11_stop mv_X11_stop (c_X11_stop l G 1 (σ1.1 0 0 18) σ1) (gz_hm0 _) rfl rfl rfl rfl rfl (Nat.le_of_ble_eq_true rfl) ⟨rfl, rfl, Nat.le_of_ble_eq_true rfl, Nat.le_of_ble_eq_true rfl, Nat.le_of_ble_eq_true rfl, Nat.le_of_ble_eq_true rfl⟩) (fun r5 σ4 => ?_)
    refine gz_nn (fun i6 hi6 hr => ?_)
    subst hr
    refine gz_eqs (st' := [.ref (gz_ad true G 6 i6)]) (lv' := [(0, .ref (gz_ad true G 0 0)), (1, .int a1)]) rfl rfl ?_
    exact gz_athrow C hE dX11_need_17

def f_X11_needSort (a1 : Int32) (σ : gz_S) : Option (Option Unit × gz_S) :=
  if (σ.1 0 0 17) = a1 then
  (some (some (), σ))
  else
  (gz_call (f_X11_stop 1 (σ.1 0 0 18) σ) (fun r2 σ1 =>
  gz_nl r2 1 none (fun i3 =>
  some (none, σ1))))
set_option maxHeartbeats 4000000 in
set_option maxRecDepth 100000 in
theorem c_X11_needSort (l : Launch) (G : gz_G) (a1 : Int32) (σ : gz_S) : ∀ o, f_X11_needSort a1 σ = some o → gz_MT l true G yX11_needSort (.code yX11_needSort cX11_needSort 2 none) { frames := 1, cells := 0, slots := 0, locals := 22 } [.ref (gz_ad true G 0 0), .int a1] σ ((gz_te G gz_ev0) o) 0 0 := by
  refine gz_enterT RX11 rfl (by decide) (Nat.le_of_ble_eq_true rfl) ?_
  intro p e s m args below meth c C hE
  refine gz_eqs (st' := []) (lv' := [(0, .ref (gz_ad true G 0 0)), (1, .int a1)]) rfl rfl ?_
  unfold f_X11_needSort
  refine gz_aload_n C dX11_needSort_0 0 rfl ?_
  refine gz_get C (t := 0) (k := 17) (ci := 11) (q := (RX11, TX11, 63)) (v := .int (σ.1 0 0 17)) dX11_needSort_1 fl_RX11_226 (gz_hm0 _) rfl rfl (by decide) rfl ?_
  refine gz_iload_n C dX11_needSort_4 1 rfl ?_
  refine gz_icmp_eq (tgt := 18) C dX11_needSort_5 (by decide) ?_ ?_
  · skip
    exact gz_vretT C rfl dX11_needSort_18
  · skip
    refine gz_aload_n C dX11_needSort_8 0 rfl ?_
    refine gz_iconst C dX11_needSort_9 gk_iconst_1 ?_
    refine gz_aload_n C dX11_needSort_10 0 rfl ?_
    refine gz_get C (t := 0) (k := 18) (ci := 11) (q := (RX11, TX11, 63)) (v := .int (σ.1 0 0 18)) dX11_needSort_11 fl_RX11_225 (gz_hm0 _) rfl rfl (by decide) rfl ?_
    refine gz_kr (t := 6) (gz_runV (t := 0) (ci := 11) (q := (RX11, TX11, 63)) (As := [.int 1, .int (σ.1 0 0 18)]) (rest := []) C dX11_needSort_14 ml_RX11_249 mw_X11_stop mv_X11_stop (c_X11_stop l G 1 (σ.1 0 0 18) σ) (gz_hm0 _) rfl rfl rfl rfl rfl (Nat.le_of_ble_eq_true rfl) ⟨rfl, rfl, Nat.le_of_ble_eq_true rfl, Nat.le_of_ble_eq_true rfl, Nat.le_of_ble_eq_true rfl, Nat.le_of_ble_eq_true rfl⟩) (fun r2 σ1 => ?_)
    refine gz_nn (fun i3 hi3 hr => ?_)
    subst hr
    refine gz_eqs (st' := [.ref (gz_ad true G 6 i3)]) (lv' := [(0, .ref (gz_ad true G 0 0)), (1, .int a1)]) rfl rfl ?_
    exact gz_athrow C hE dX11_needSort_17

def f_J0_isLatin1_aae02 (a0 : Nat) (σ : gz_S) : Option (Int32 × gz_S) :=
  if (1 : Int32) = 0 then
  (some ((0 : Int32) &&& 1, σ))
  else
  (if (0 : Int32) = 0 then
  (some ((1 : Int32) &&& 1, σ))
  else
  (some ((0 : Int32) &&& 1, σ)))
set_option maxHeartbeats 4000000 in
set_option maxRecDepth 100000 in
theorem c_J0_isLatin1_aae02 (l : Launch) (G : gz_G) (a0 : Nat) (h0 : a0 < 7) (σ : gz_S) : ∀ o, f_J0_isLatin1_aae02 a0 σ = some o → gz_M l true G yJ0_isLatin1_aae02 cJ0_isLatin1_aae02 1 (some .boolean) { frames := 0, cells := 0, slots := 0, locals := 0 } [.ref (G.2.2.2.2.1 a0)] σ (gz_ei o) 0 0 := by
  refine gz_enterF RJ0 rfl (by decide +kernel) (Nat.le_of_ble_eq_true rfl) ?_
  intro p e s m args below meth c C
  refine gz_eqs (st' := []) (lv' := [(0, .ref (G.2.2.2.2.1 a0))]) rfl rfl ?_
  unfold f_J0_isLatin1_aae02
  refine gz_getCS C fl_RJ0_38 dJ0_isLatin1_aae02_0 ?_
  refine gz_if_eq (tgt := 17) C dJ0_isLatin1_aae02_3 (by decide) ?_ ?_
  · skip
    refine gz_iconst C dJ0_isLatin1_aae02_17 gk_iconst_0 ?_
    exact gz_zret C rfl dJ0_isLatin1_aae02_18
  · skip
    refine gz_aload_n C dJ0_isLatin1_aae02_6 0 rfl ?_
    refine gz_sgetC C h0 fl_RJ0_15 dJ0_isLatin1_aae02_7 ?_
    refine gz_if_ne (tgt := 17) C dJ0_isLatin1_aae02_10 (by decide) ?_ ?_
    · skip
      refine gz_iconst C dJ0_isLatin1_aae02_17 gk_iconst_0 ?_
      exact gz_zret C rfl dJ0_isLatin1_aae02_18
    · skip
      refine gz_iconst C dJ0_isLatin1_aae02_13 gk_iconst_1 ?_
      refine gz_goto (tgt := 18) C dJ0_isLatin1_aae02_14 (by decide) ?_
      exact gz_zret C rfl dJ0_isLatin1_aae02_18

def f_J3_checkIndex_8e157 (a0 : Int32) (a1 : Int32) (σ : gz_S) : Option (Int32 × gz_S) :=
  if a0 < 0 then
  (none)
  else
  (if a0 < a1 then
  (some (a0, σ))
  else
  (none))
set_option maxHeartbeats 4000000 in
set_option maxRecDepth 100000 in
theorem c_J3_checkIndex_8e157 (l : Launch) (G : gz_G) (a0 : Int32) (a1 : Int32) (w2 : Value) (h2 : w2 = .null ∨ ∃ a, w2 = .ref a) (σ : gz_S) : ∀ o, f_J3_checkIndex_8e157 a0 a1 σ = some o → gz_M l true G yJ3_checkIndex_8e157 cJ3_checkIndex_8e157 3 (some .int) { frames := 0, cells := 0, slots := 0, locals := 0 } [.int a0, .int a1, w2] σ (gz_ei o) 0 0 := by
  refine gz_enterF RJ3 rfl (by decide +kernel) (by rcases h2 with rfl | ⟨a, rfl⟩ <;> exact Nat.le_of_ble_eq_true rfl) ?_
  intro p e s m args below meth c C
  refine gz_eqs (st' := []) (lv' := [(0, .int a0), (1, .int a1), (2, w2)]) rfl rfl ?_
  unfold f_J3_checkIndex_8e157
  refine gz_iload_n C dJ3_checkIndex_8e157_0 0 rfl ?_
  refine gz_if_lt (tgt := 9) C dJ3_checkIndex_8e157_1 (by decide) ?_ ?_
  · skip
    exact gz_none
  · skip
    refine gz_iload_n C dJ3_checkIndex_8e157_4 0 rfl ?_
    refine gz_iload_n C dJ3_checkIndex_8e157_5 1 rfl ?_
    refine gz_icmp_lt (tgt := 16) C dJ3_checkIndex_8e157_6 (by decide) ?_ ?_
    · skip
      refine gz_iload_n C dJ3_checkIndex_8e157_16 0 rfl ?_
      exact gz_iret C rfl dJ3_checkIndex_8e157_17
    · skip
      exact gz_none

def f_J0_checkIndex_df160 (a0 : Int32) (a1 : Int32) (σ : gz_S) : Option (gz_S) :=
  gz_call (f_J3_checkIndex_8e157 a0 a1 σ) (fun r3 σ2 =>
  some σ2)
set_option maxHeartbeats 4000000 in
set_option maxRecDepth 100000 in
theorem c_J0_checkIndex_df160 (l : Launch) (G : gz_G) (a0 : Int32) (a1 : Int32) (σ : gz_S) : ∀ o, f_J0_checkIndex_df160 a0 a1 σ = some o → gz_M l true G yJ0_checkIndex_df160 cJ0_checkIndex_df160 2 none { frames := 1, cells := 0, slots := 0, locals := 22 } [.int a0, .int a1] σ (gz_eu o) 0 0 := by
  refine gz_enterF RJ0 rfl (by decide +kernel) (Nat.le_of_ble_eq_true rfl) ?_
  intro p e s m args below meth c C
  refine gz_eqs (st' := []) (lv' := [(0, .int a0), (1, .int a1)]) rfl rfl ?_
  unfold f_J0_checkIndex_df160
  refine gz_iload_n C dJ0_checkIndex_df160_0 0 rfl ?_
  refine gz_iload_n C dJ0_checkIndex_df160_1 1 rfl ?_
  refine gz_getPF C fl_RJ0_1053 dJ0_checkIndex_df160_2 (fun w1 hw1 => ?_)
  refine gz_ki (gz_runS (As := [.int a0, .int a1, w1]) (rest := []) C dJ0_checkIndex_df160_5 ml_RJ0_1059 mw_J3_checkIndex_8e157 ms_J3_checkIndex_8e157 (c_J3_checkIndex_8e157 l G a0 a1 w1 hw1 σ) rfl rfl (Nat.le_of_ble_eq_true rfl) ⟨rfl, rfl, Nat.le_of_ble_eq_true rfl, Nat.le_of_ble_eq_true rfl, Nat.le_of_ble_eq_true rfl, Nat.le_of_ble_eq_true rfl⟩) (fun r3 σ2 => ?_)
  refine gz_pop C dJ0_checkIndex_df160_8 rfl ?_
  exact gz_vret C rfl dJ0_checkIndex_df160_9

def f_J1_charAt_3b067 (a0 : Nat) (a1 : Int32) (σ : gz_S) : Option (Int32 × gz_S) :=
  gz_then (f_J0_checkIndex_df160 a1 (Int32.ofNat (gz_sl a0)) σ) (fun σ1 =>
  gz_ix a1 (gz_sl a0) (fun n2 =>
  some (((((gz_sb a0 n2) &&& 255 : Int32).toUInt32 % 65536).toInt32 : Int32).toUInt32.toUInt16.toUInt32.toInt32, σ1)))
set_option maxHeartbeats 4000000 in
set_option maxRecDepth 100000 in
theorem c_J1_charAt_3b067 (l : Launch) (G : gz_G) (a0 : Nat) (a1 : Int32) (h0 : a0 < 7) (σ : gz_S) : ∀ o, f_J1_charAt_3b067 a0 a1 σ = some o → gz_M l true G yJ1_charAt_3b067 cJ1_charAt_3b067 2 (some .char) { frames := 2, cells := 0, slots := 0, locals := 43 } [.ref (G.2.2.2.2.2 a0), .int a1] σ (gz_ei o) 0 0 := by
  refine gz_enterF RJ1 rfl (by decide +kernel) (Nat.le_of_ble_eq_true rfl) ?_
  intro p e s m args below meth c C
  refine gz_eqs (st' := []) (lv' := [(0, .ref (G.2.2.2.2.2 a0)), (1, .int a1)]) rfl rfl ?_
  unfold f_J1_charAt_3b067
  refine gz_iload_n C dJ1_charAt_3b067_0 1 rfl ?_
  refine gz_aload_n C dJ1_charAt_3b067_1 0 rfl ?_
  refine gz_salen C h0 dJ1_charAt_3b067_2 ?_
  refine gz_kv (gz_runS (As := [.int a1, .int (Int32.ofNat (gz_sl a0))]) (rest := []) C dJ1_charAt_3b067_3 ml_RJ1_9 mw_J0_checkIndex_df160 ms_J0_checkIndex_df160 (c_J0_checkIndex_df160 l G a1 (Int32.ofNat (gz_sl a0)) σ) rfl rfl (Nat.le_of_ble_eq_true rfl) ⟨rfl, rfl, Nat.le_of_ble_eq_true rfl, Nat.le_of_ble_eq_true rfl, Nat.le_of_ble_eq_true rfl, Nat.le_of_ble_eq_true rfl⟩) (fun σ1 => ?_)
  refine gz_aload_n C dJ1_charAt_3b067_6 0 rfl ?_
  refine gz_iload_n C dJ1_charAt_3b067_7 1 rfl ?_
  refine gz_sbald C h0 dJ1_charAt_3b067_8 (fun n2 => ?_)
  refine gz_sipush C dJ1_charAt_3b067_9 gk_sipush_255 ?_
  refine gz_iand C dJ1_charAt_3b067_12 ?_
  refine gz_i2c C dJ1_charAt_3b067_13 ?_
  exact gz_nret C rfl rfl dJ1_charAt_3b067_14

def f_J0_charAt_5068e (a0 : Nat) (a1 : Int32) (σ : gz_S) : Option (Int32 × gz_S) :=
  gz_call (f_J0_isLatin1_aae02 a0 σ) (fun r2 σ1 =>
  if r2 = 0 then
  (none)
  else
  (gz_call (f_J1_charAt_3b067 a0 a1 σ1) (fun r4 σ3 =>
  some ((r4 : Int32).toUInt32.toUInt16.toUInt32.toInt32, σ3))))
set_option maxHeartbeats 4000000 in
set_option maxRecDepth 100000 in
theorem c_J0_charAt_5068e (l : Launch) (G : gz_G) (a0 : Nat) (a1 : Int32) (h0 : a0 < 7) (σ : gz_S) : ∀ o, f_J0_charAt_5068e a0 a1 σ = some o → gz_M l true G yJ0_charAt_5068e cJ0_charAt_5068e 2 (some .char) { frames := 3, cells := 0, slots := 0, locals := 64 } [.ref (G.2.2.2.2.1 a0), .int a1] σ (gz_ei o) 0 0 := by
  refine gz_enterF RJ0 rfl (by decide +kernel) (Nat.le_of_ble_eq_true rfl) ?_
  intro p e s m args below meth c C
  refine gz_eqs (st' := []) (lv' := [(0, .ref (G.2.2.2.2.1 a0)), (1, .int a1)]) rfl rfl ?_
  unfold f_J0_charAt_5068e
  refine gz_aload_n C dJ0_charAt_5068e_0 0 rfl ?_
  refine gz_ki (gz_runVS (i := a0) (As := []) (rest := []) C dJ0_charAt_5068e_1 ml_RJ0_492 mw_J0_isLatin1_aae02 mv_J0_isLatin1_aae02 (c_J0_isLatin1_aae02 l G a0 h0 σ) h0 rfl rfl rfl (Nat.le_of_ble_eq_true rfl) ⟨rfl, rfl, Nat.le_of_ble_eq_true rfl, Nat.le_of_ble_eq_true rfl, Nat.le_of_ble_eq_true rfl, Nat.le_of_ble_eq_true rfl⟩) (fun r2 σ1 => ?_)
  refine gz_if_eq (tgt := 16) C dJ0_charAt_5068e_4 (by decide) ?_ ?_
  · skip
    exact gz_none
  · skip
    refine gz_aload_n C dJ0_charAt_5068e_7 0 rfl ?_
    refine gz_sgetV C h0 fl_RJ0_9 dJ0_charAt_5068e_8 ?_
    refine gz_iload_n C dJ0_charAt_5068e_11 1 rfl ?_
    refine gz_ki (gz_runS (As := [.ref (G.2.2.2.2.2 a0), .int a1]) (rest := []) C dJ0_charAt_5068e_12 ml_RJ0_495 mw_J1_charAt_3b067 ms_J1_charAt_3b067 (c_J1_charAt_3b067 l G a0 a1 h0 σ1) rfl rfl (Nat.le_of_ble_eq_true rfl) ⟨rfl, rfl, Nat.le_of_ble_eq_true rfl, Nat.le_of_ble_eq_true rfl, Nat.le_of_ble_eq_true rfl, Nat.le_of_ble_eq_true rfl⟩) (fun r4 σ3 => ?_)
    exact gz_nret C rfl rfl dJ0_charAt_5068e_15

def f_J0_coder_7d493 (a0 : Nat) (σ : gz_S) : Option (Int32 × gz_S) :=
  if (1 : Int32) = 0 then
  (some ((1 : Int32).toInt8.toInt32, σ))
  else
  (some ((0 : Int32).toInt8.toInt32, σ))
set_option maxHeartbeats 4000000 in
set_option maxRecDepth 100000 in
theorem c_J0_coder_7d493 (l : Launch) (G : gz_G) (a0 : Nat) (h0 : a0 < 7) (σ : gz_S) : ∀ o, f_J0_coder_7d493 a0 σ = some o → gz_M l true G yJ0_coder_7d493 cJ0_coder_7d493 1 (some .byte) { frames := 0, cells := 0, slots := 0, locals := 0 } [.ref (G.2.2.2.2.1 a0)] σ (gz_ei o) 0 0 := by
  refine gz_enterF RJ0 rfl (by decide +kernel) (Nat.le_of_ble_eq_true rfl) ?_
  intro p e s m args below meth c C
  refine gz_eqs (st' := []) (lv' := [(0, .ref (G.2.2.2.2.1 a0))]) rfl rfl ?_
  unfold f_J0_coder_7d493
  refine gz_getCS C fl_RJ0_38 dJ0_coder_7d493_0 ?_
  refine gz_if_eq (tgt := 13) C dJ0_coder_7d493_3 (by decide) ?_ ?_
  · skip
    refine gz_iconst C dJ0_coder_7d493_13 gk_iconst_1 ?_
    exact gz_nret C rfl rfl dJ0_coder_7d493_14
  · skip
    refine gz_aload_n C dJ0_coder_7d493_6 0 rfl ?_
    refine gz_sgetC C h0 fl_RJ0_15 dJ0_coder_7d493_7 ?_
    refine gz_goto (tgt := 14) C dJ0_coder_7d493_10 (by decide) ?_
    exact gz_nret C rfl rfl dJ0_coder_7d493_14

def f_J0_length_8abf5 (a0 : Nat) (σ : gz_S) : Option (Int32 × gz_S) :=
  gz_call (f_J0_coder_7d493 a0 σ) (fun r2 σ1 =>
  some ((Int32.ofNat (gz_sl a0)) >>> (r2 &&& 31), σ1))
set_option maxHeartbeats 4000000 in
set_option maxRecDepth 100000 in
theorem c_J0_length_8abf5 (l : Launch) (G : gz_G) (a0 : Nat) (h0 : a0 < 7) (σ : gz_S) : ∀ o, f_J0_length_8abf5 a0 σ = some o → gz_M l true G yJ0_length_8abf5 cJ0_length_8abf5 1 (some .int) { frames := 1, cells := 0, slots := 0, locals := 20 } [.ref (G.2.2.2.2.1 a0)] σ (gz_ei o) 0 0 := by
  refine gz_enterF RJ0 rfl (by decide +kernel) (Nat.le_of_ble_eq_true rfl) ?_
  intro p e s m args below meth c C
  refine gz_eqs (st' := []) (lv' := [(0, .ref (G.2.2.2.2.1 a0))]) rfl rfl ?_
  unfold f_J0_length_8abf5
  refine gz_aload_n C dJ0_length_8abf5_0 0 rfl ?_
  refine gz_sgetV C h0 fl_RJ0_9 dJ0_length_8abf5_1 ?_
  refine gz_salen C h0 dJ0_length_8abf5_4 ?_
  refine gz_aload_n C dJ0_length_8abf5_5 0 rfl ?_
  refine gz_ki (gz_runVS (i := a0) (As := []) (rest := [.int (Int32.ofNat (gz_sl a0))]) C dJ0_length_8abf5_6 ml_RJ0_335 mw_J0_coder_7d493 mv_J0_coder_7d493 (c_J0_coder_7d493 l G a0 h0 σ) h0 rfl rfl rfl (Nat.le_of_ble_eq_true rfl) ⟨rfl, rfl, Nat.le_of_ble_eq_true rfl, Nat.le_of_ble_eq_true rfl, Nat.le_of_ble_eq_true rfl, Nat.le_of_ble_eq_true rfl⟩) (fun r2 σ1 => ?_)
  refine gz_ishr C dJ0_length_8abf5_9 ?_
  exact gz_iret C rfl dJ0_length_8abf5_10

def f_X11_word_L4 (a0 : Nat) : (Int64 → Int32 → gz_S → Option (Int64 × gz_S)) → Int64 → Int32 → gz_S → Option (Int64 × gz_S) := fun rec4 v1 v2 σ3 =>
  gz_call (f_J0_length_8abf5 a0 σ3) (fun r5 σ4 =>
  if r5 ≤ v2 then
  (some (v1, σ4))
  else
  (gz_call (f_J0_charAt_5068e a0 v2 σ4) (fun r7 σ6 =>
  gz_v ((32 * v1) + (((r7 - 97) + 1 : Int32).toInt64)) (fun v8 =>
  rec4 v8 (v2 + 1) σ6))))
def f_X11_word (a0 : Nat) (σ : gz_S) : Option (Int64 × gz_S) :=
  gz_l2 (f_X11_word_L4 a0) gz_fu 0 0 σ
set_option maxHeartbeats 4000000 in
set_option maxRecDepth 100000 in
theorem c_X11_word (l : Launch) (G : gz_G) (a0 : Nat) (h0 : a0 < 7) (σ : gz_S) : ∀ o, f_X11_word a0 σ = some o → gz_M l true G yX11_word cX11_word 4 (some .long) { frames := 4, cells := 0, slots := 0, locals := 85 } [.ref (G.2.2.2.2.1 a0)] σ (gz_el o) 0 0 := by
  refine gz_enter RX11 rfl (by decide) (Nat.le_of_ble_eq_true rfl) ?_
  intro p e s m args below meth c C
  refine gz_eqs (st' := []) (lv' := [(0, .ref (G.2.2.2.2.1 a0))]) rfl rfl ?_
  unfold f_X11_word
  refine gz_lconst C dX11_word_0 gk_lconst_0 ?_
  refine gz_lstore_n C (lv' := [(1, .long 0), (0, .ref (G.2.2.2.2.1 a0))]) dX11_word_1 (by decide) rfl ?_
  refine gz_iconst C dX11_word_2 gk_iconst_0 ?_
  refine gz_istore_n C (lv' := [(3, .int 0), (1, .long 0), (0, .ref (G.2.2.2.2.1 a0))]) dX11_word_3 (by decide) rfl ?_
  refine gz_lv (lv' := [(0, .ref (G.2.2.2.2.1 a0)), (1, .long 0), (3, .int 0)]) [2, 1, 0] rfl ?_
  refine gz_l2_ind (P := fun v1 v2 σ3 x => gz_W true p l e ({ frames := 4, cells := 0, slots := 0, locals := 85 } : Room) s m args below meth c G 4 (gz_Q true G below args s 0 0 gz_el) 0 0 σ3 4 [(0, .ref (G.2.2.2.2.1 a0)), (1, .long v1), (3, .int v2)] [] x) (fun _ _ _ => gz_none) (fun rec4 hrec4 v1 v2 σ3 => ?_) gz_fu 0 0 σ
  unfold f_X11_word_L4
  refine gz_iload_n C dX11_word_4 2 rfl ?_
  refine gz_aload_n C dX11_word_5 0 rfl ?_
  refine gz_ki (gz_runVS (i := a0) (As := []) (rest := [.int v2]) C dX11_word_6 ml_RX11_255 mw_J0_length_8abf5 mv_J0_length_8abf5 (c_J0_length_8abf5 l G a0 h0 σ3) h0 rfl rfl rfl (Nat.le_of_ble_eq_true rfl) ⟨rfl, rfl, Nat.le_of_ble_eq_true rfl, Nat.le_of_ble_eq_true rfl, Nat.le_of_ble_eq_true rfl, Nat.le_of_ble_eq_true rfl⟩) (fun r5 σ4 => ?_)
  refine gz_icmp_ge (tgt := 36) C dX11_word_9 (by decide) ?_ ?_
  · skip
    refine gz_lload_n C dX11_word_36 1 rfl ?_
    exact gz_lret C rfl dX11_word_37
  · skip
    refine gz_ldc2 C dX11_word_12 cw_RX11_239 ?_
    refine gz_lload_n C dX11_word_15 1 rfl ?_
    refine gz_lmul C dX11_word_16 ?_
    refine gz_aload_n C dX11_word_17 0 rfl ?_
    refine gz_iload_n C dX11_word_18 2 rfl ?_
    refine gz_ki (gz_runVS (i := a0) (As := [.int v2]) (rest := [.long (32 * v1)]) C dX11_word_19 ml_RX11_260 mw_J0_charAt_5068e mv_J0_charAt_5068e (c_J0_charAt_5068e l G a0 v2 h0 σ4) h0 rfl rfl rfl (Nat.le_of_ble_eq_true rfl) ⟨rfl, rfl, Nat.le_of_ble_eq_true rfl, Nat.le_of_ble_eq_true rfl, Nat.le_of_ble_eq_true rfl, Nat.le_of_ble_eq_true rfl⟩) (fun r7 σ6 => ?_)
    refine gz_bipush C dX11_word_22 gk_bipush_97 ?_
    refine gz_isub C dX11_word_24 ?_
    refine gz_iconst C dX11_word_25 gk_iconst_1 ?_
    refine gz_iadd C dX11_word_26 ?_
    refine gz_i2l C dX11_word_27 ?_
    refine gz_ladd C dX11_word_28 ?_
    refine gz_topJ (fun v8 => ?_)
    refine gz_lstore_n C (lv' := [(1, .long v8), (0, .ref (G.2.2.2.2.1 a0)), (3, .int v2)]) dX11_word_29 (by decide) rfl ?_
    refine gz_iinc C (q := 2) (v := v2 + 1) (lv' := [(3, .int (v2 + 1)), (1, .long v8), (0, .ref (G.2.2.2.2.1 a0))]) dX11_word_30 rfl rfl (by decide) rfl ?_
    refine gz_goto (tgt := 4) C dX11_word_33 (by decide) ?_
    refine gz_lv (lv' := [(0, .ref (G.2.2.2.2.1 a0)), (1, .long v8), (3, .int (v2 + 1))]) [2, 1, 0] rfl ?_
    exact hrec4 v8 (v2 + 1) σ6
