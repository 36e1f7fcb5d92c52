def f_X11_find_J231 (v11 : Int32) (rec177 : Int32 → gz_S → Option (Int32 × gz_S)) : gz_S → Option (Int32 × gz_S) := fun σ15 =>
  rec177 (v11 + 1) σ15
def f_X11_find_L177 (a2 : Int32) (v8 : Int32) : (Int32 → gz_S → Option (Int32 × gz_S)) → Int32 → gz_S → Option (Int32 × gz_S) := fun rec177 v11 σ12 =>
  if (σ12.1 0 0 29) ≤ v11 then
  (some (σ12.1 0 0 62, σ12))
  else
  (gz_call (f_X11_isKnown v11 a2 σ12) (fun r14 σ13 =>
  gz_j0 (f_X11_find_J231 v11 rec177) (fun j231 =>
  if r14 = 0 then
  (j231 σ13)
  else
  (gz_call (f_X11_isNamed v11 v8 σ13) (fun r17 σ16 =>
  if r17 = 0 then
  (j231 σ16)
  else
  (gz_ix (σ16.1 0 0 62) 60 (fun n18 =>
  gz_w (gz_si σ16 43 0 n18 v11) (fun σ19 =>
  gz_w (gz_si σ19 0 0 62 ((σ19.1 0 0 62) + 1)) (fun σ20 =>
  j231 σ20)))))))))
def f_X11_find_J169 (a2 : Int32) : Int32 → gz_S → Option (Int32 × gz_S) := fun v8 σ9 =>
  gz_w (gz_si σ9 0 0 62 0) (fun σ10 =>
  gz_l1 (f_X11_find_L177 a2 v8) gz_fu 0 σ10)
def f_X11_find_J163 (v22 : Int32) (rec34 : Int32 → Int32 → gz_S → Option (Int32 × gz_S)) : Int32 → gz_S → Option (Int32 × gz_S) := fun v24 σ25 =>
  rec34 v24 (v22 + 1) σ25
def f_X11_find_J157 (v27 : Int32) (rec44 : Int32 → Int32 → gz_S → Option (Int32 × gz_S)) : Int32 → gz_S → Option (Int32 × gz_S) := fun v30 σ31 =>
  rec44 v30 (v27 + 1) σ31
def f_X11_find_J130 (v26 : Int32) (v27 : Int32) (j157 : Int32 → gz_S → Option (Int32 × gz_S)) : Int32 → gz_S → Option (Int32 × gz_S) := fun v36 σ37 =>
  if v26 ≤ v36 then
  (gz_ix v27 61 (fun n38 =>
  gz_ix v26 61 (fun n39 =>
  gz_w (gz_sj σ37 42 0 n39 (σ37.2.1 22 0 n38)) (fun σ40 =>
  j157 (v26 + 1) σ40))))
  else
  (j157 v26 σ37)
def f_X11_find_L99 (v26 : Int32) (v27 : Int32) (j130 : Int32 → gz_S → Option (Int32 × gz_S)) : (Int32 → gz_S → Option (Int32 × gz_S)) → Int32 → gz_S → Option (Int32 × gz_S) := fun rec99 v41 σ42 =>
  if v26 ≤ v41 then
  (j130 v41 σ42)
  else
  (gz_ix v41 61 (fun n43 =>
  gz_ix v27 61 (fun n44 =>
  if (lg_cmp (σ42.2.1 42 0 n43) (σ42.2.1 22 0 n44)) = 0 then
  (j130 v41 σ42)
  else
  (rec99 (v41 + 1) σ42))))
def f_X11_find_L44 (a2 : Int32) (v22 : Int32) (j163 : Int32 → gz_S → Option (Int32 × gz_S)) : (Int32 → Int32 → gz_S → Option (Int32 × gz_S)) → Int32 → Int32 → gz_S → Option (Int32 × gz_S) := fun rec44 v26 v27 σ28 =>
  if (σ28.1 0 0 29) ≤ v27 then
  (j163 v26 σ28)
  else
  (gz_ix v27 61 (fun n29 =>
  gz_j1 (f_X11_find_J157 v27 rec44) (fun j157 =>
  if (lg_cmp (σ28.2.1 22 0 n29) 0) = 0 then
  (j157 v26 σ28)
  else
  (gz_call (f_X11_isKnown v27 a2 σ28) (fun r33 σ32 =>
  if r33 = 0 then
  (j157 v26 σ32)
  else
  (gz_ix v27 61 (fun n34 =>
  gz_ix v22 61 (fun n35 =>
  if (lg_cmp (σ32.2.1 23 0 n34) (σ32.2.1 42 0 n35)) = 0 then
  (gz_j1 (f_X11_find_J130 v26 v27 j157) (fun j130 =>
  gz_l1 (f_X11_find_L99 v26 v27 j130) gz_fu 0 σ32))
  else
  (j157 v26 σ32)))))))))
def f_X11_find_L34 (a2 : Int32) (j169 : Int32 → gz_S → Option (Int32 × gz_S)) : (Int32 → Int32 → gz_S → Option (Int32 × gz_S)) → Int32 → Int32 → gz_S → Option (Int32 × gz_S) := fun rec34 v21 v22 σ23 =>
  if v21 ≤ v22 then
  (j169 v21 σ23)
  else
  (gz_j1 (f_X11_find_J163 v22 rec34) (fun j163 =>
  gz_l2 (f_X11_find_L44 a2 v22 j163) gz_fu v21 0 σ23))
def f_X11_find (a1 : Int64) (a2 : Int32) (σ : gz_S) : Option (Int32 × gz_S) :=
  gz_w (gz_si σ 0 0 0 0) (fun σ1 =>
  gz_call (f_X11_isWord a1 σ1) (fun r3 σ2 =>
  if r3 = 0 then
  (some ((-1), σ2))
  else
  (gz_call (f_X11_isDay a2 σ2) (fun r5 σ4 =>
  if r5 = 0 then
  (some ((-1), σ4))
  else
  (gz_ix (0 : Int32) 61 (fun n6 =>
  gz_w (gz_sj σ4 42 0 n6 a1) (fun σ7 =>
  gz_j1 (f_X11_find_J169 a2) (fun j169 =>
  gz_l2 (f_X11_find_L34 a2 j169) gz_fu 1 0 σ7))))))))
set_option maxHeartbeats 4000000 in
set_option maxRecDepth 100000 in
theorem c_X11_find (l : Launch) (G : gz_G) (a1 : Int64) (a2 : Int32) (σ : gz_S) : ∀ o, f_X11_find a1 a2 σ = some o → gz_M l true G yX11_find cX11_find 8 (some .int) { frames := 1, cells := 0, slots := 0, locals := 25 } [.ref (gz_ad true G 0 0), .long a1, .int a2] σ (gz_ei o) 0 0 := by
  refine gz_enter RX11 rfl (by decide) (Nat.le_of_ble_eq_true rfl) ?_
  intro p e s m args below meth c C
  refine gz_eqs (st' := []) (lv' := [(0, .ref (gz_ad true G 0 0)), (1, .long a1), (3, .int a2)]) rfl rfl ?_
  unfold f_X11_find
  refine gz_aload_n C dX11_find_0 0 rfl ?_
  refine gz_iconst C dX11_find_1 gk_iconst_0 ?_
  refine gz_putI C (t := 0) (k := 0) (ci := 11) (q := (RX11, TX11, 63)) dX11_find_2 fl_RX11_158 (gz_hm0 _) rfl rfl (by decide) rfl rfl rfl rfl ?_
  refine gz_w_row (fun σ1 => ?_)
  refine gz_lload_n C dX11_find_5 1 rfl ?_
  refine gz_ki (gz_runS (As := [.long a1]) (rest := []) C dX11_find_6 ml_RX11_350 mw_X11_isWord ms_X11_isWord (c_X11_isWord l G a1 σ1) rfl rfl (Nat.le_of_ble_eq_true rfl) ⟨rfl, rfl, Nat.le_of_ble_eq_true rfl, Nat.le_of_ble_eq_true rfl, Nat.le_of_ble_eq_true rfl, Nat.le_of_ble_eq_true rfl⟩) (fun r3 σ2 => ?_)
  refine gz_if_eq (tgt := 19) C dX11_find_9 (by decide) ?_ ?_
  · skip
    refine gz_iconst C dX11_find_19 gk_iconst_m1 ?_
    exact gz_iret C rfl dX11_find_20
  · skip
    refine gz_iload_n C dX11_find_12 2 rfl ?_
    refine gz_ki (gz_runS (As := [.int a2]) (rest := []) C dX11_find_13 ml_RX11_176 mw_X11_isDay ms_X11_isDay (c_X11_isDay l G a2 σ2) rfl rfl (Nat.le_of_ble_eq_true rfl) ⟨rfl, rfl, Nat.le_of_ble_eq_true rfl, Nat.le_of_ble_eq_true rfl, Nat.le_of_ble_eq_true rfl, Nat.le_of_ble_eq_true rfl⟩) (fun r5 σ4 => ?_)
    refine gz_if_ne (tgt := 21) C dX11_find_16 (by decide) ?_ ?_
    · skip
      refine gz_iconst C dX11_find_21 gk_iconst_1 ?_
      refine gz_istore C (lv' := [(4, .int 1), (0, .ref (gz_ad true G 0 0)), (1, .long a1), (3, .int a2)]) dX11_find_22 (by decide) rfl ?_
      refine gz_aload_n C dX11_find_24 1 rfl ?_
      refine gz_get C (t := 0) (k := 60) (ci := 11) (q := (RX11, TX11, 63)) (v := .ref (gz_ad true G 42 0)) dX11_find_25 fl_RX11_152 (gz_hm0 _) rfl rfl (by decide) rfl ?_
      refine gz_iconst C dX11_find_28 gk_iconst_0 ?_
      refine gz_lload_n C dX11_find_29 2 rfl ?_
      refine gz_last C (t := 42) dX11_find_30 (gz_hm42 _) rfl (fun n6 hn6 => ?_)
      refine gz_w_row (fun σ7 => ?_)
      refine gz_iconst C dX11_find_31 gk_iconst_0 ?_
      refine gz_istore C (lv' := [(5, .int 0), (4, .int 1), (0, .ref (gz_ad true G 0 0)), (1, .long a1), (3, .int a2)]) dX11_find_32 (by decide) rfl ?_
      refine gz_j1_row (P := fun v8 σ9 x => gz_W true p l e ({ frames := 1, cells := 0, slots := 0, locals := 25 } : Room) s m args below meth c G 8 (gz_Q true G below args s 0 0 gz_ei) 0 0 σ9 169 [(0, .ref (gz_ad true G 0 0)), (3, .int a2), (4, .int v8)] [] x) (fun v8 σ9 => ?_) (fun j169 hj169 => ?_)
      · unfold f_X11_find_J169
        refine gz_aload_n C dX11_find_169 0 rfl ?_
        refine gz_iconst C dX11_find_170 gk_iconst_0 ?_
        refine gz_putI C (t := 0) (k := 62) (ci := 11) (q := (RX11, TX11, 63)) dX11_find_171 fl_RX11_382 (gz_hm0 _) rfl rfl (by decide) rfl rfl rfl rfl ?_
        refine gz_w_row (fun σ10 => ?_)
        refine gz_iconst C dX11_find_174 gk_iconst_0 ?_
        refine gz_istore C (lv' := [(5, .int 0), (0, .ref (gz_ad true G 0 0)), (3, .int a2), (4, .int v8)]) dX11_find_175 (by decide) rfl ?_
        refine gz_lv (lv' := [(0, .ref (gz_ad true G 0 0)), (3, .int a2), (4, .int v8), (5, .int 0)]) [1, 2, 3, 0] rfl ?_
        refine gz_l1_ind (P := fun v11 σ12 x => gz_W true p l e ({ frames := 1, cells := 0, slots := 0, locals := 25 } : Room) s m args below meth c G 8 (gz_Q true G below args s 0 0 gz_ei) 0 0 σ12 177 [(0, .ref (gz_ad true G 0 0)), (3, .int a2), (4, .int v8), (5, .int v11)] [] x) (fun _ _ => gz_none) (fun rec177 hrec177 v11 σ12 => ?_) gz_fu 0 σ10
        unfold f_X11_find_L177
        refine gz_iload C dX11_find_177 3 rfl ?_
        refine gz_aload_n C dX11_find_179 0 rfl ?_
        refine gz_get C (t := 0) (k := 29) (ci := 11) (q := (RX11, TX11, 63)) (v := .int (σ12.1 0 0 29)) dX11_find_180 fl_RX11_173 (gz_hm0 _) rfl rfl (by decide) rfl ?_
        refine gz_icmp_ge (tgt := 237) C dX11_find_183 (by decide) ?_ ?_
        · skip
          refine gz_aload_n C dX11_find_237 0 rfl ?_
          refine gz_get C (t := 0) (k := 62) (ci := 11) (q := (RX11, TX11, 63)) (v := .int (σ12.1 0 0 62)) dX11_find_238 fl_RX11_382 (gz_hm0 _) rfl rfl (by decide) rfl ?_
          exact gz_iret C rfl dX11_find_241
        · skip
          refine gz_aload_n C dX11_find_186 0 rfl ?_
          refine gz_iload C dX11_find_187 3 rfl ?_
          refine gz_iload_n C dX11_find_189 1 rfl ?_
          refine gz_ki (gz_runV (t := 0) (ci := 11) (q := (RX11, TX11, 63)) (As := [.int v11, .int a2]) (rest := []) C dX11_find_190 ml_RX11_368 mw_X11_isKnown mv_X11_isKnown (c_X11_isKnown l G v11 a2 σ12) (gz_hm0 _) rfl rfl rfl rfl rfl (Nat.le_of_ble_eq_true rfl) ⟨rfl, rfl, Nat.le_of_ble_eq_true rfl, Nat.le_of_ble_eq_true rfl, Nat.le_of_ble_eq_true rfl, Nat.le_of_ble_eq_true rfl⟩) (fun r14 σ13 => ?_)
          refine gz_j0_row (P := fun σ15 x => gz_W true p l e ({ frames := 1, cells := 0, slots := 0, locals := 25 } : Room) s m args below meth c G 8 (gz_Q true G below args s 0 0 gz_ei) 0 0 σ15 231 [(0, .ref (gz_ad true G 0 0)), (3, .int a2), (4, .int v8), (5, .int v11)] [] x) (fun σ15 => ?_) (fun j231 hj231 => ?_)
          · unfold f_X11_find_J231
            refine gz_iinc C (q := 3) (v := v11 + 1) (lv' := [(5, .int (v11 + 1)), (0, .ref (gz_ad true G 0 0)), (3, .int a2), (4, .int v8)]) dX11_find_231 rfl rfl (by decide) rfl ?_
            refine gz_goto (tgt := 177) C dX11_find_234 (by decide) ?_
            refine gz_lv (lv' := [(0, .ref (gz_ad true G 0 0)), (3, .int a2), (4, .int v8), (5, .int (v11 + 1))]) [1, 2, 3, 0] rfl ?_
            exact hrec177 (v11 + 1) σ15
          · skip
            refine gz_if_eq (tgt := 231) C dX11_find_193 (by decide) ?_ ?_
            · skip
              exact hj231 σ13
            · skip
              refine gz_aload_n C dX11_find_196 0 rfl ?_
              refine gz_iload C dX11_find_197 3 rfl ?_
              refine gz_iload C dX11_find_199 2 rfl ?_
              refine gz_ki (gz_runV (t := 0) (ci := 11) (q := (RX11, TX11, 63)) (As := [.int v11, .int v8]) (rest := []) C dX11_find_201 ml_RX11_385 mw_X11_isNamed mv_X11_isNamed (c_X11_isNamed l G v11 v8 σ13) (gz_hm0 _) rfl rfl rfl rfl rfl (Nat.le_of_ble_eq_true rfl) ⟨rfl, rfl, Nat.le_of_ble_eq_true rfl, Nat.le_of_ble_eq_true rfl, Nat.le_of_ble_eq_true rfl, Nat.le_of_ble_eq_true rfl⟩) (fun r17 σ16 => ?_)
              refine gz_if_ne (tgt := 210) C dX11_find_204 (by decide) ?_ ?_
              · skip
                refine gz_aload_n C dX11_find_210 0 rfl ?_
                refine gz_get C (t := 0) (k := 61) (ci := 11) (q := (RX11, TX11, 63)) (v := .ref (gz_ad true G 43 0)) dX11_find_211 fl_RX11_155 (gz_hm0 _) rfl rfl (by decide) rfl ?_
                refine gz_aload_n C dX11_find_214 0 rfl ?_
                refine gz_get C (t := 0) (k := 62) (ci := 11) (q := (RX11, TX11, 63)) (v := .int (σ16.1 0 0 62)) dX11_find_215 fl_RX11_382 (gz_hm0 _) rfl rfl (by decide) rfl ?_
                refine gz_iload C dX11_find_218 3 rfl ?_
                refine gz_iast C (t := 43) dX11_find_220 (gz_hm43 _) rfl (fun n18 hn18 => ?_)
                refine gz_w_row (fun σ19 => ?_)
                refine gz_aload_n C dX11_find_221 0 rfl ?_
                refine gz_dup C dX11_find_222 rfl ?_
                refine gz_get C (t := 0) (k := 62) (ci := 11) (q := (RX11, TX11, 63)) (v := .int (σ19.1 0 0 62)) dX11_find_223 fl_RX11_382 (gz_hm0 _) rfl rfl (by decide) rfl ?_
                refine gz_iconst C dX11_find_226 gk_iconst_1 ?_
                refine gz_iadd C dX11_find_227 ?_
                refine gz_putI C (t := 0) (k := 62) (ci := 11) (q := (RX11, TX11, 63)) dX11_find_228 fl_RX11_382 (gz_hm0 _) rfl rfl (by decide) rfl rfl rfl rfl ?_
                refine gz_w_row (fun σ20 => ?_)
                exact hj231 σ20
              · skip
                refine gz_goto (tgt := 231) C dX11_find_207 (by decide) ?_
                exact hj231 σ16
      · skip
        refine gz_lv (lv' := [(0, .ref (gz_ad true G 0 0)), (3, .int a2), (4, .int 1), (5, .int 0)]) [2, 4, 1, 0] rfl ?_
        refine gz_l2_ind (P := fun v21 v22 σ23 x => gz_W true p l e ({ frames := 1, cells := 0, slots := 0, locals := 25 } : Room) s m args below meth c G 8 (gz_Q true G below args s 0 0 gz_ei) 0 0 σ23 34 [(0, .ref (gz_ad true G 0 0)), (3, .int a2), (4, .int v21), (5, .int v22)] [] x) (fun _ _ _ => gz_none) (fun rec34 hrec34 v21 v22 σ23 => ?_) gz_fu 1 0 σ7
        unfold f_X11_find_L34
        refine gz_iload C dX11_find_34 3 rfl ?_
        refine gz_iload C dX11_find_36 2 rfl ?_
        refine gz_icmp_ge (tgt := 169) C dX11_find_38 (by decide) ?_ ?_
        · skip
          refine gz_lv (lv' := [(0, .ref (gz_ad true G 0 0)), (3, .int a2), (4, .int v21)]) [0, 1, 2] rfl ?_
          exact hj169 v21 σ23
        · skip
          refine gz_iconst C dX11_find_41 gk_iconst_0 ?_
          refine gz_istore C (lv' := [(6, .int 0), (0, .ref (gz_ad true G 0 0)), (3, .int a2), (4, .int v21), (5, .int v22)]) dX11_find_42 (by decide) rfl ?_
          refine gz_j1_row (P := fun v24 σ25 x => gz_W true p l e ({ frames := 1, cells := 0, slots := 0, locals := 25 } : Room) s m args below meth c G 8 (gz_Q true G below args s 0 0 gz_ei) 0 0 σ25 163 [(0, .ref (gz_ad true G 0 0)), (3, .int a2), (4, .int v24), (5, .int v22)] [] x) (fun v24 σ25 => ?_) (fun j163 hj163 => ?_)
          · unfold f_X11_find_J163
            refine gz_iinc C (q := 3) (v := v22 + 1) (lv' := [(5, .int (v22 + 1)), (0, .ref (gz_ad true G 0 0)), (3, .int a2), (4, .int v24)]) dX11_find_163 rfl rfl (by decide) rfl ?_
            refine gz_goto (tgt := 34) C dX11_find_166 (by decide) ?_
            refine gz_lv (lv' := [(0, .ref (gz_ad true G 0 0)), (3, .int a2), (4, .int v24), (5, .int (v22 + 1))]) [1, 2, 3, 0] rfl ?_
            exact hrec34 v24 (v22 + 1) σ25
          · skip
            refine gz_lv (lv' := [(0, .ref (gz_ad true G 0 0)), (3, .int a2), (4, .int v21), (5, .int v22), (6, .int 0)]) [1, 2, 3, 4, 0] rfl ?_
            refine gz_l2_ind (P := fun v26 v27 σ28 x => gz_W true p l e ({ frames := 1, cells := 0, slots := 0, locals := 25 } : Room) s m args below meth c G 8 (gz_Q true G below args s 0 0 gz_ei) 0 0 σ28 44 [(0, .ref (gz_ad true G 0 0)), (3, .int a2), (4, .int v26), (5, .int v22), (6, .int v27)] [] x) (fun _ _ _ => gz_none) (fun rec44 hrec44 v26 v27 σ28 => ?_) gz_fu v21 0 σ23
            unfold f_X11_find_L44
            refine gz_iload C dX11_find_44 4 rfl ?_
            refine gz_aload_n C dX11_find_46 0 rfl ?_
            refine gz_get C (t := 0) (k := 29) (ci := 11) (q := (RX11, TX11, 63)) (v := .int (σ28.1 0 0 29)) dX11_find_47 fl_RX11_173 (gz_hm0 _) rfl rfl (by decide) rfl ?_
            refine gz_icmp_ge (tgt := 163) C dX11_find_50 (by decide) ?_ ?_
            · skip
              refine gz_lv (lv' := [(0, .ref (gz_ad true G 0 0)), (3, .int a2), (4, .int v26), (5, .int v22)]) [0, 1, 2, 3] rfl ?_
              exact hj163 v26 σ28
            · skip
              refine gz_aload_n C dX11_find_53 0 rfl ?_
              refine gz_get C (t := 0) (k := 39) (ci := 11) (q := (RX11, TX11, 63)) (v := .ref (gz_ad true G 22 0)) dX11_find_54 fl_RX11_92 (gz_hm0 _) rfl rfl (by decide) rfl ?_
              refine gz_iload C dX11_find_57 4 rfl ?_
              refine gz_lald C (t := 22) dX11_find_59 (gz_hm22 _) rfl (fun n29 hn29 => ?_)
              refine gz_lconst C dX11_find_60 gk_lconst_0 ?_
              refine gz_lcmp C dX11_find_61 ?_
              refine gz_j1_row (P := fun v30 σ31 x => gz_W true p l e ({ frames := 1, cells := 0, slots := 0, locals := 25 } : Room) s m args below meth c G 8 (gz_Q true G below args s 0 0 gz_ei) 0 0 σ31 157 [(0, .ref (gz_ad true G 0 0)), (3, .int a2), (4, .int v30), (5, .int v22), (6, .int v27)] [] x) (fun v30 σ31 => ?_) (fun j157 hj157 => ?_)
              · unfold f_X11_find_J157
                refine gz_iinc C (q := 4) (v := v27 + 1) (lv' := [(6, .int (v27 + 1)), (0, .ref (gz_ad true G 0 0)), (3, .int a2), (4, .int v30), (5, .int v22)]) dX11_find_157 rfl rfl (by decide) rfl ?_
                refine gz_goto (tgt := 44) C dX11_find_160 (by decide) ?_
                refine gz_lv (lv' := [(0, .ref (gz_ad true G 0 0)), (3, .int a2), (4, .int v30), (5, .int v22), (6, .int (v27 + 1))]) [1, 2, 3, 4, 0] rfl ?_
                exact hrec44 v30 (v27 + 1) σ31
              · skip
                refine gz_if_eq (tgt := 157) C dX11_find_62 (by decide) ?_ ?_
                · skip
                  exact hj157 v26 σ28
                · skip
                  refine gz_aload_n C dX11_find_65 0 rfl ?_
                  refine gz_iload C dX11_find_66 4 rfl ?_
                  refine gz_iload_n C dX11_find_68 1 rfl ?_
                  refine gz_ki (gz_runV (t := 0) (ci := 11) (q := (RX11, TX11, 63)) (As := [.int v27, .int a2]) (rest := []) C dX11_find_69 ml_RX11_368 mw_X11_isKnown mv_X11_isKnown (c_X11_isKnown l G v27 a2 σ28) (gz_hm0 _) rfl rfl rfl rfl rfl (Nat.le_of_ble_eq_true rfl) ⟨rfl, rfl, Nat.le_of_ble_eq_true rfl, Nat.le_of_ble_eq_true rfl, Nat.le_of_ble_eq_true rfl, Nat.le_of_ble_eq_true rfl⟩) (fun r33 σ32 => ?_)
                  refine gz_if_eq (tgt := 157) C dX11_find_72 (by decide) ?_ ?_
                  · skip
                    exact hj157 v26 σ32
                  · skip
                    refine gz_aload_n C dX11_find_75 0 rfl ?_
                    refine gz_get C (t := 0) (k := 40) (ci := 11) (q := (RX11, TX11, 63)) (v := .ref (gz_ad true G 23 0)) dX11_find_76 fl_RX11_95 (gz_hm0 _) rfl rfl (by decide) rfl ?_
                    refine gz_iload C dX11_find_79 4 rfl ?_
                    refine gz_lald C (t := 23) dX11_find_81 (gz_hm23 _) rfl (fun n34 hn34 => ?_)
                    refine gz_aload_n C dX11_find_82 0 rfl ?_
                    refine gz_get C (t := 0) (k := 60) (ci := 11) (q := (RX11, TX11, 63)) (v := .ref (gz_ad true G 42 0)) dX11_find_83 fl_RX11_152 (gz_hm0 _) rfl rfl (by decide) rfl ?_
                    refine gz_iload C dX11_find_86 3 rfl ?_
                    refine gz_lald C (t := 42) dX11_find_88 (gz_hm42 _) rfl (fun n35 hn35 => ?_)
                    refine gz_lcmp C dX11_find_89 ?_
                    refine gz_if_eq (tgt := 96) C dX11_find_90 (by decide) ?_ ?_
                    · skip
                      refine gz_iconst C dX11_find_96 gk_iconst_0 ?_
                      refine gz_istore C (lv' := [(7, .int 0), (0, .ref (gz_ad true G 0 0)), (3, .int a2), (4, .int v26), (5, .int v22), (6, .int v27)]) dX11_find_97 (by decide) rfl ?_
                      refine gz_j1_row (P := fun v36 σ37 x => gz_W true p l e ({ frames := 1, cells := 0, slots := 0, locals := 25 } : Room) s m args below meth c G 8 (gz_Q true G below args s 0 0 gz_ei) 0 0 σ37 130 [(0, .ref (gz_ad true G 0 0)), (3, .int a2), (4, .int v26), (5, .int v22), (6, .int v27), (7, .int v36)] [] x) (fun v36 σ37 => ?_) (fun j130 hj130 => ?_)
                      · unfold f_X11_find_J130
                        refine gz_iload C dX11_find_130 5 rfl ?_
                        refine gz_iload C dX11_find_132 2 rfl ?_
                        refine gz_icmp_ge (tgt := 140) C dX11_find_134 (by decide) ?_ ?_
                        · skip
                          refine gz_aload_n C dX11_find_140 0 rfl ?_
                          refine gz_get C (t := 0) (k := 60) (ci := 11) (q := (RX11, TX11, 63)) (v := .ref (gz_ad true G 42 0)) dX11_find_141 fl_RX11_152 (gz_hm0 _) rfl rfl (by decide) rfl ?_
                          refine gz_iload C dX11_find_144 2 rfl ?_
                          refine gz_aload_n C dX11_find_146 0 rfl ?_
                          refine gz_get C (t := 0) (k := 39) (ci := 11) (q := (RX11, TX11, 63)) (v := .ref (gz_ad true G 22 0)) dX11_find_147 fl_RX11_92 (gz_hm0 _) rfl rfl (by decide) rfl ?_
                          refine gz_iload C dX11_find_150 4 rfl ?_
                          refine gz_lald C (t := 22) dX11_find_152 (gz_hm22 _) rfl (fun n38 hn38 => ?_)
                          refine gz_last C (t := 42) dX11_find_153 (gz_hm42 _) rfl (fun n39 hn39 => ?_)
                          refine gz_w_row (fun σ40 => ?_)
                          refine gz_iinc C (q := 2) (v := v26 + 1) (lv' := [(4, .int (v26 + 1)), (0, .ref (gz_ad true G 0 0)), (3, .int a2), (5, .int v22), (6, .int v27), (7, .int v36)]) dX11_find_154 rfl rfl (by decide) rfl ?_
                          refine gz_lv (lv' := [(0, .ref (gz_ad true G 0 0)), (3, .int a2), (4, .int (v26 + 1)), (5, .int v22), (6, .int v27)]) [1, 2, 0, 3, 4] rfl ?_
                          exact hj157 (v26 + 1) σ40
                        · skip
                          refine gz_goto (tgt := 157) C dX11_find_137 (by decide) ?_
                          refine gz_lv (lv' := [(0, .ref (gz_ad true G 0 0)), (3, .int a2), (4, .int v26), (5, .int v22), (6, .int v27)]) [0, 1, 2, 3, 4] rfl ?_
                          exact hj157 v26 σ37
                      · skip
                        refine gz_lv (lv' := [(0, .ref (gz_ad true G 0 0)), (3, .int a2), (4, .int v26), (5, .int v22), (6, .int v27), (7, .int 0)]) [1, 2, 3, 4, 5, 0] rfl ?_
                        refine gz_l1_ind (P := fun v41 σ42 x => gz_W true p l e ({ frames := 1, cells := 0, slots := 0, locals := 25 } : Room) s m args below meth c G 8 (gz_Q true G below args s 0 0 gz_ei) 0 0 σ42 99 [(0, .ref (gz_ad true G 0 0)), (3, .int a2), (4, .int v26), (5, .int v22), (6, .int v27), (7, .int v41)] [] x) (fun _ _ => gz_none) (fun rec99 hrec99 v41 σ42 => ?_) gz_fu 0 σ32
                        unfold f_X11_find_L99
                        refine gz_iload C dX11_find_99 5 rfl ?_
                        refine gz_iload C dX11_find_101 2 rfl ?_
                        refine gz_icmp_ge (tgt := 130) C dX11_find_103 (by decide) ?_ ?_
                        · skip
                          exact hj130 v41 σ42
                        · skip
                          refine gz_aload_n C dX11_find_106 0 rfl ?_
                          refine gz_get C (t := 0) (k := 60) (ci := 11) (q := (RX11, TX11, 63)) (v := .ref (gz_ad true G 42 0)) dX11_find_107 fl_RX11_152 (gz_hm0 _) rfl rfl (by decide) rfl ?_
                          refine gz_iload C dX11_find_110 5 rfl ?_
                          refine gz_lald C (t := 42) dX11_find_112 (gz_hm42 _) rfl (fun n43 hn43 => ?_)
                          refine gz_aload_n C dX11_find_113 0 rfl ?_
                          refine gz_get C (t := 0) (k := 39) (ci := 11) (q := (RX11, TX11, 63)) (v := .ref (gz_ad true G 22 0)) dX11_find_114 fl_RX11_92 (gz_hm0 _) rfl rfl (by decide) rfl ?_
                          refine gz_iload C dX11_find_117 4 rfl ?_
                          refine gz_lald C (t := 22) dX11_find_119 (gz_hm22 _) rfl (fun n44 hn44 => ?_)
                          refine gz_lcmp C dX11_find_120 ?_
                          refine gz_if_eq (tgt := 130) C dX11_find_121 (by decide) ?_ ?_
                          · skip
                            exact hj130 v41 σ42
                          · skip
                            refine gz_iinc C (q := 5) (v := v41 + 1) (lv' := [(7, .int (v41 + 1)), (0, .ref (gz_ad true G 0 0)), (3, .int a2), (4, .int v26), (5, .int v22), (6, .int v27)]) dX11_find_124 rfl rfl (by decide) rfl ?_
                            refine gz_goto (tgt := 99) C dX11_find_127 (by decide) ?_
                            refine gz_lv (lv' := [(0, .ref (gz_ad true G 0 0)), (3, .int a2), (4, .int v26), (5, .int v22), (6, .int v27), (7, .int (v41 + 1))]) [1, 2, 3, 4, 5, 0] rfl ?_
                            exact hrec99 (v41 + 1) σ42
                    · skip
                      refine gz_goto (tgt := 157) C dX11_find_93 (by decide) ?_
                      exact hj157 v26 σ32
    · skip
      refine gz_iconst C dX11_find_19 gk_iconst_m1 ?_
      exact gz_iret C rfl dX11_find_20

def f_X11_found (a1 : Int32) (σ : gz_S) : Option (Int32 × gz_S) :=
  gz_w (gz_si σ 0 0 0 0) (fun σ1 =>
  if a1 < 0 then
  (some ((-1), σ1))
  else
  (if (σ1.1 0 0 62) ≤ a1 then
  (some ((-1), σ1))
  else
  (gz_ix a1 60 (fun n2 =>
  some (σ1.1 43 0 n2, σ1)))))
set_option maxHeartbeats 4000000 in
set_option maxRecDepth 100000 in
theorem c_X11_found (l : Launch) (G : gz_G) (a1 : Int32) (σ : gz_S) : ∀ o, f_X11_found a1 σ = some o → gz_M l true G yX11_found cX11_found 2 (some .int) { frames := 0, cells := 0, slots := 0, locals := 0 } [.ref (gz_ad true G 0 0), .int a1] σ (gz_ei o) 0 0 := by
  refine gz_enter RX11 rfl (by decide) (Nat.le_of_ble_eq_true rfl) ?_
  intro p e s m args below meth c C
  refine gz_eqs (st' := []) (lv' := [(0, .ref (gz_ad true G 0 0)), (1, .int a1)]) rfl rfl ?_
  unfold f_X11_found
  refine gz_aload_n C dX11_found_0 0 rfl ?_
  refine gz_iconst C dX11_found_1 gk_iconst_0 ?_
  refine gz_putI C (t := 0) (k := 0) (ci := 11) (q := (RX11, TX11, 63)) dX11_found_2 fl_RX11_158 (gz_hm0 _) rfl rfl (by decide) rfl rfl rfl rfl ?_
  refine gz_w_row (fun σ1 => ?_)
  refine gz_iload_n C dX11_found_5 1 rfl ?_
  refine gz_if_lt (tgt := 26) C dX11_found_6 (by decide) ?_ ?_
  · skip
    refine gz_iconst C dX11_found_26 gk_iconst_m1 ?_
    exact gz_iret C rfl dX11_found_27
  · skip
    refine gz_iload_n C dX11_found_9 1 rfl ?_
    refine gz_aload_n C dX11_found_10 0 rfl ?_
    refine gz_get C (t := 0) (k := 62) (ci := 11) (q := (RX11, TX11, 63)) (v := .int (σ1.1 0 0 62)) dX11_found_11 fl_RX11_382 (gz_hm0 _) rfl rfl (by decide) rfl ?_
    refine gz_icmp_ge (tgt := 26) C dX11_found_14 (by decide) ?_ ?_
    · skip
      refine gz_iconst C dX11_found_26 gk_iconst_m1 ?_
      exact gz_iret C rfl dX11_found_27
    · skip
      refine gz_aload_n C dX11_found_17 0 rfl ?_
      refine gz_get C (t := 0) (k := 61) (ci := 11) (q := (RX11, TX11, 63)) (v := .ref (gz_ad true G 43 0)) dX11_found_18 fl_RX11_155 (gz_hm0 _) rfl rfl (by decide) rfl ?_
      refine gz_iload_n C dX11_found_21 1 rfl ?_
      refine gz_iald C (t := 43) dX11_found_22 (gz_hm43 _) rfl (fun n2 hn2 => ?_)
      refine gz_goto (tgt := 27) C dX11_found_23 (by decide) ?_
      exact gz_iret C rfl dX11_found_27

def f_X11_struck_J76 : Int32 → gz_S → Option (Int32 × gz_S) := fun v6 σ7 =>
  if v6 = 0 then
  (some (0, σ7))
  else
  (some (1, σ7))
def f_X11_struck_J68 (v9 : Int32) (rec27 : Int32 → Int32 → gz_S → Option (Int32 × gz_S)) : Int32 → gz_S → Option (Int32 × gz_S) := fun x11 σ12 =>
  rec27 x11 (v9 + 1) σ12
def f_X11_struck_J63 (j68 : Int32 → gz_S → Option (Int32 × gz_S)) : gz_S → Option (Int32 × gz_S) := fun σ13 =>
  j68 1 σ13
def f_X11_struck_J67 (j68 : Int32 → gz_S → Option (Int32 × gz_S)) : gz_S → Option (Int32 × gz_S) := fun σ15 =>
  j68 0 σ15
def f_X11_struck_L27 (a1 : Int64) (a2 : Int32) (j76 : Int32 → gz_S → Option (Int32 × gz_S)) : (Int32 → Int32 → gz_S → Option (Int32 × gz_S)) → Int32 → Int32 → gz_S → Option (Int32 × gz_S) := fun rec27 v8 v9 σ10 =>
  if (σ10.1 0 0 29) ≤ v9 then
  (j76 v8 σ10)
  else
  (gz_j1 (f_X11_struck_J68 v9 rec27) (fun j68 =>
  gz_j0 (f_X11_struck_J63 j68) (fun j63 =>
  if v8 = 0 then
  (gz_ix v9 61 (fun n14 =>
  gz_j0 (f_X11_struck_J67 j68) (fun j67 =>
  if (lg_cmp (σ10.2.1 24 0 n14) a1) = 0 then
  (gz_call (f_X11_isKnown v9 a2 σ10) (fun r17 σ16 =>
  if r17 = 0 then
  (j67 σ16)
  else
  (j63 σ16)))
  else
  (j67 σ10))))
  else
  (j63 σ10))))
def f_X11_struck (a1 : Int64) (a2 : Int32) (σ : gz_S) : Option (Int32 × gz_S) :=
  gz_w (gz_si σ 0 0 0 0) (fun σ1 =>
  gz_call (f_X11_isWord a1 σ1) (fun r3 σ2 =>
  if r3 = 0 then
  (some ((-1), σ2))
  else
  (gz_call (f_X11_isDay a2 σ2) (fun r5 σ4 =>
  if r5 = 0 then
  (some ((-1), σ4))
  else
  (gz_j1 (f_X11_struck_J76) (fun j76 =>
  gz_l2 (f_X11_struck_L27 a1 a2 j76) gz_fu 0 0 σ4))))))
set_option maxHeartbeats 4000000 in
set_option maxRecDepth 100000 in
theorem c_X11_struck (l : Launch) (G : gz_G) (a1 : Int64) (a2 : Int32) (σ : gz_S) : ∀ o, f_X11_struck a1 a2 σ = some o → gz_M l true G yX11_struck cX11_struck 6 (some .int) { frames := 1, cells := 0, slots := 0, locals := 24 } [.ref (gz_ad true G 0 0), .long a1, .int a2] σ (gz_ei o) 0 0 := by
  refine gz_enter RX11 rfl (by decide) (Nat.le_of_ble_eq_true rfl) ?_
  intro p e s m args below meth c C
  refine gz_eqs (st' := []) (lv' := [(0, .ref (gz_ad true G 0 0)), (1, .long a1), (3, .int a2)]) rfl rfl ?_
  unfold f_X11_struck
  refine gz_aload_n C dX11_struck_0 0 rfl ?_
  refine gz_iconst C dX11_struck_1 gk_iconst_0 ?_
  refine gz_putI C (t := 0) (k := 0) (ci := 11) (q := (RX11, TX11, 63)) dX11_struck_2 fl_RX11_158 (gz_hm0 _) rfl rfl (by decide) rfl rfl rfl rfl ?_
  refine gz_w_row (fun σ1 => ?_)
  refine gz_lload_n C dX11_struck_5 1 rfl ?_
  refine gz_ki (gz_runS (As := [.long a1]) (rest := []) C dX11_struck_6 ml_RX11_350 mw_X11_isWord ms_X11_isWord (c_X11_isWord l G a1 σ1) rfl rfl (Nat.le_of_ble_eq_true rfl) ⟨rfl, rfl, Nat.le_of_ble_eq_true rfl, Nat.le_of_ble_eq_true rfl, Nat.le_of_ble_eq_true rfl, Nat.le_of_ble_eq_true rfl⟩) (fun r3 σ2 => ?_)
  refine gz_if_eq (tgt := 19) C dX11_struck_9 (by decide) ?_ ?_
  · skip
    refine gz_iconst C dX11_struck_19 gk_iconst_m1 ?_
    exact gz_iret C rfl dX11_struck_20
  · skip
    refine gz_iload_n C dX11_struck_12 2 rfl ?_
    refine gz_ki (gz_runS (As := [.int a2]) (rest := []) C dX11_struck_13 ml_RX11_176 mw_X11_isDay ms_X11_isDay (c_X11_isDay l G a2 σ2) rfl rfl (Nat.le_of_ble_eq_true rfl) ⟨rfl, rfl, Nat.le_of_ble_eq_true rfl, Nat.le_of_ble_eq_true rfl, Nat.le_of_ble_eq_true rfl, Nat.le_of_ble_eq_true rfl⟩) (fun r5 σ4 => ?_)
    refine gz_if_ne (tgt := 21) C dX11_struck_16 (by decide) ?_ ?_
    · skip
      refine gz_iconst C dX11_struck_21 gk_iconst_0 ?_
      refine gz_istore C (lv' := [(4, .int 0), (0, .ref (gz_ad true G 0 0)), (1, .long a1), (3, .int a2)]) dX11_struck_22 (by decide) rfl ?_
      refine gz_iconst C dX11_struck_24 gk_iconst_0 ?_
      refine gz_istore C (lv' := [(5, .int 0), (4, .int 0), (0, .ref (gz_ad true G 0 0)), (1, .long a1), (3, .int a2)]) dX11_struck_25 (by decide) rfl ?_
      refine gz_j1_row (P := fun v6 σ7 x => gz_W true p l e ({ frames := 1, cells := 0, slots := 0, locals := 24 } : Room) s m args below meth c G 6 (gz_Q true G below args s 0 0 gz_ei) 0 0 σ7 76 [(4, .int v6)] [] x) (fun v6 σ7 => ?_) (fun j76 hj76 => ?_)
      · unfold f_X11_struck_J76
        refine gz_iload C dX11_struck_76 0 rfl ?_
        refine gz_if_eq (tgt := 85) C dX11_struck_78 (by decide) ?_ ?_
        · skip
          refine gz_iconst C dX11_struck_85 gk_iconst_0 ?_
          exact gz_iret C rfl dX11_struck_86
        · skip
          refine gz_iconst C dX11_struck_81 gk_iconst_1 ?_
          refine gz_goto (tgt := 86) C dX11_struck_82 (by decide) ?_
          exact gz_iret C rfl dX11_struck_86
      · skip
        refine gz_lv (lv' := [(0, .ref (gz_ad true G 0 0)), (1, .long a1), (3, .int a2), (4, .int 0), (5, .int 0)]) [2, 3, 4, 1, 0] rfl ?_
        refine gz_l2_ind (P := fun v8 v9 σ10 x => gz_W true p l e ({ frames := 1, cells := 0, slots := 0, locals := 24 } : Room) s m args below meth c G 6 (gz_Q true G below args s 0 0 gz_ei) 0 0 σ10 27 [(0, .ref (gz_ad true G 0 0)), (1, .long a1), (3, .int a2), (4, .int v8), (5, .int v9)] [] x) (fun _ _ _ => gz_none) (fun rec27 hrec27 v8 v9 σ10 => ?_) gz_fu 0 0 σ4
        unfold f_X11_struck_L27
        refine gz_iload C dX11_struck_27 4 rfl ?_
        refine gz_aload_n C dX11_struck_29 0 rfl ?_
        refine gz_get C (t := 0) (k := 29) (ci := 11) (q := (RX11, TX11, 63)) (v := .int (σ10.1 0 0 29)) dX11_struck_30 fl_RX11_173 (gz_hm0 _) rfl rfl (by decide) rfl ?_
        refine gz_icmp_ge (tgt := 76) C dX11_struck_33 (by decide) ?_ ?_
        · skip
          refine gz_lv (lv' := [(4, .int v8)]) [3] rfl ?_
          exact hj76 v8 σ10
        · skip
          refine gz_iload C dX11_struck_36 3 rfl ?_
          refine gz_j1_row (P := fun x11 σ12 x => gz_W true p l e ({ frames := 1, cells := 0, slots := 0, locals := 24 } : Room) s m args below meth c G 6 (gz_Q true G below args s 0 0 gz_ei) 0 0 σ12 68 [(0, .ref (gz_ad true G 0 0)), (1, .long a1), (3, .int a2), (5, .int v9)] [.int x11] x) (fun x11 σ12 => ?_) (fun j68 hj68 => ?_)
          · unfold f_X11_struck_J68
            refine gz_istore C (lv' := [(4, .int x11), (0, .ref (gz_ad true G 0 0)), (1, .long a1), (3, .int a2), (5, .int v9)]) dX11_struck_68 (by decide) rfl ?_
            refine gz_iinc C (q := 4) (v := v9 + 1) (lv' := [(5, .int (v9 + 1)), (4, .int x11), (0, .ref (gz_ad true G 0 0)), (1, .long a1), (3, .int a2)]) dX11_struck_70 rfl rfl (by decide) rfl ?_
            refine gz_goto (tgt := 27) C dX11_struck_73 (by decide) ?_
            refine gz_lv (lv' := [(0, .ref (gz_ad true G 0 0)), (1, .long a1), (3, .int a2), (4, .int x11), (5, .int (v9 + 1))]) [2, 3, 4, 1, 0] rfl ?_
            exact hrec27 x11 (v9 + 1) σ12
          · skip
            refine gz_j0_row (P := fun σ13 x => gz_W true p l e ({ frames := 1, cells := 0, slots := 0, locals := 24 } : Room) s m args below meth c G 6 (gz_Q true G below args s 0 0 gz_ei) 0 0 σ13 63 [(0, .ref (gz_ad true G 0 0)), (1, .long a1), (3, .int a2), (5, .int v9)] [] x) (fun σ13 => ?_) (fun j63 hj63 => ?_)
            · unfold f_X11_struck_J63
              refine gz_iconst C dX11_struck_63 gk_iconst_1 ?_
              refine gz_goto (tgt := 68) C dX11_struck_64 (by decide) ?_
              exact hj68 1 σ13
            · skip
              refine gz_if_ne (tgt := 63) C dX11_struck_38 (by decide) ?_ ?_
              · skip
                refine gz_lv (lv' := [(0, .ref (gz_ad true G 0 0)), (1, .long a1), (3, .int a2), (5, .int v9)]) [0, 1, 2, 4] rfl ?_
                exact hj63 σ10
              · skip
                refine gz_aload_n C dX11_struck_41 0 rfl ?_
                refine gz_get C (t := 0) (k := 41) (ci := 11) (q := (RX11, TX11, 63)) (v := .ref (gz_ad true G 24 0)) dX11_struck_42 fl_RX11_98 (gz_hm0 _) rfl rfl (by decide) rfl ?_
                refine gz_iload C dX11_struck_45 4 rfl ?_
                refine gz_lald C (t := 24) dX11_struck_47 (gz_hm24 _) rfl (fun n14 hn14 => ?_)
                refine gz_lload_n C dX11_struck_48 1 rfl ?_
                refine gz_lcmp C dX11_struck_49 ?_
                refine gz_j0_row (P := fun σ15 x => gz_W true p l e ({ frames := 1, cells := 0, slots := 0, locals := 24 } : Room) s m args below meth c G 6 (gz_Q true G below args s 0 0 gz_ei) 0 0 σ15 67 [(0, .ref (gz_ad true G 0 0)), (1, .long a1), (3, .int a2), (5, .int v9)] [] x) (fun σ15 => ?_) (fun j67 hj67 => ?_)
                · unfold f_X11_struck_J67
                  refine gz_iconst C dX11_struck_67 gk_iconst_0 ?_
                  exact hj68 0 σ15
                · skip
                  refine gz_if_ne (tgt := 67) C dX11_struck_50 (by decide) ?_ ?_
                  · skip
                    refine gz_lv (lv' := [(0, .ref (gz_ad true G 0 0)), (1, .long a1), (3, .int a2), (5, .int v9)]) [0, 1, 2, 4] rfl ?_
                    exact hj67 σ10
                  · skip
                    refine gz_aload_n C dX11_struck_53 0 rfl ?_
                    refine gz_iload C dX11_struck_54 4 rfl ?_
                    refine gz_iload_n C dX11_struck_56 2 rfl ?_
                    refine gz_ki (gz_runV (t := 0) (ci := 11) (q := (RX11, TX11, 63)) (As := [.int v9, .int a2]) (rest := []) C dX11_struck_57 ml_RX11_368 mw_X11_isKnown mv_X11_isKnown (c_X11_isKnown l G v9 a2 σ10) (gz_hm0 _) rfl rfl rfl rfl rfl (Nat.le_of_ble_eq_true rfl) ⟨rfl, rfl, Nat.le_of_ble_eq_true rfl, Nat.le_of_ble_eq_true rfl, Nat.le_of_ble_eq_true rfl, Nat.le_of_ble_eq_true rfl⟩) (fun r17 σ16 => ?_)
                    refine gz_if_eq (tgt := 67) C dX11_struck_60 (by decide) ?_ ?_
                    · skip
                      refine gz_lv (lv' := [(0, .ref (gz_ad true G 0 0)), (1, .long a1), (3, .int a2), (5, .int v9)]) [0, 1, 2, 4] rfl ?_
                      exact hj67 σ16
                    · skip
                      refine gz_lv (lv' := [(0, .ref (gz_ad true G 0 0)), (1, .long a1), (3, .int a2), (5, .int v9)]) [0, 1, 2, 4] rfl ?_
                      exact hj63 σ16
    · skip
      refine gz_iconst C dX11_struck_19 gk_iconst_m1 ?_
      exact gz_iret C rfl dX11_struck_20

def f_X11_count (a1 : Int32) (σ : gz_S) : Option (Int32 × gz_S) :=
  gz_w (gz_si σ 0 0 0 0) (fun σ1 =>
  (if a1 = 0 then
  (some (σ1.1 0 0 11, σ1))
  else
  (if a1 = 1 then
  (some (σ1.1 0 0 21, σ1))
  else
  (if a1 = 2 then
  (some (σ1.1 0 0 29, σ1))
  else
  (if a1 = 3 then
  (some (σ1.1 0 0 30, σ1))
  else
  (if a1 = 4 then
  (gz_call (f_X11_waiting σ1) (fun r3 σ2 =>
  some (r3, σ2)))
  else
  (if a1 = 5 then
  (some (σ1.1 0 0 9, σ1))
  else
  (if a1 = 6 then
  (some (σ1.1 0 0 14, σ1))
  else
  (some ((-1), σ1))))))))))
set_option maxHeartbeats 4000000 in
set_option maxRecDepth 100000 in
theorem c_X11_count (l : Launch) (G : gz_G) (a1 : Int32) (σ : gz_S) : ∀ o, f_X11_count a1 σ = some o → gz_M l true G yX11_count cX11_count 2 (some .int) { frames := 1, cells := 0, slots := 0, locals := 22 } [.ref (gz_ad true G 0 0), .int a1] σ (gz_ei o) 0 0 := by
  refine gz_enter RX11 rfl (by decide) (Nat.le_of_ble_eq_true rfl) ?_
  intro p e s m args below meth c C
  refine gz_eqs (st' := []) (lv' := [(0, .ref (gz_ad true G 0 0)), (1, .int a1)]) rfl rfl ?_
  unfold f_X11_count
  refine gz_aload_n C dX11_count_0 0 rfl ?_
  refine gz_iconst C dX11_count_1 gk_iconst_0 ?_
  refine gz_putI C (t := 0) (k := 0) (ci := 11) (q := (RX11, TX11, 63)) dX11_count_2 fl_RX11_158 (gz_hm0 _) rfl rfl (by decide) rfl rfl rfl rfl ?_
  refine gz_w_row (fun σ1 => ?_)
  refine gz_iload_n C dX11_count_5 1 rfl ?_
  refine gz_case 0 (fun hx0 => ?_) (fun hx0 => ?_)
  · rw [hx0]
    refine gz_tin (tgt := 48) (off := 42) C dX11_count_6 (by decide) (by decide) rfl (by decide) ?_
    refine gz_aload_n C dX11_count_48 0 rfl ?_
    refine gz_get C (t := 0) (k := 11) (ci := 11) (q := (RX11, TX11, 63)) (v := .int (σ1.1 0 0 11)) dX11_count_49 fl_RX11_167 (gz_hm0 _) rfl rfl (by decide) rfl ?_
    exact gz_iret C rfl dX11_count_52
  refine gz_case 1 (fun hx1 => ?_) (fun hx1 => ?_)
  · rw [hx1]
    refine gz_tin (tgt := 53) (off := 47) C dX11_count_6 (by decide) (by decide) rfl (by decide) ?_
    refine gz_aload_n C dX11_count_53 0 rfl ?_
    refine gz_get C (t := 0) (k := 21) (ci := 11) (q := (RX11, TX11, 63)) (v := .int (σ1.1 0 0 21)) dX11_count_54 fl_RX11_170 (gz_hm0 _) rfl rfl (by decide) rfl ?_
    exact gz_iret C rfl dX11_count_57
  refine gz_case 2 (fun hx2 => ?_) (fun hx2 => ?_)
  · rw [hx2]
    refine gz_tin (tgt := 58) (off := 52) C dX11_count_6 (by decide) (by decide) rfl (by decide) ?_
    refine gz_aload_n C dX11_count_58 0 rfl ?_
    refine gz_get C (t := 0) (k := 29) (ci := 11) (q := (RX11, TX11, 63)) (v := .int (σ1.1 0 0 29)) dX11_count_59 fl_RX11_173 (gz_hm0 _) rfl rfl (by decide) rfl ?_
    exact gz_iret C rfl dX11_count_62
  refine gz_case 3 (fun hx3 => ?_) (fun hx3 => ?_)
  · rw [hx3]
    refine gz_tin (tgt := 63) (off := 57) C dX11_count_6 (by decide) (by decide) rfl (by decide) ?_
    refine gz_aload_n C dX11_count_63 0 rfl ?_
    refine gz_get C (t := 0) (k := 30) (ci := 11) (q := (RX11, TX11, 63)) (v := .int (σ1.1 0 0 30)) dX11_count_64 fl_RX11_357 (gz_hm0 _) rfl rfl (by decide) rfl ?_
    exact gz_iret C rfl dX11_count_67
  refine gz_case 4 (fun hx4 => ?_) (fun hx4 => ?_)
  · rw [hx4]
    refine gz_tin (tgt := 68) (off := 62) C dX11_count_6 (by decide) (by decide) rfl (by decide) ?_
    refine gz_aload_n C dX11_count_68 0 rfl ?_
    refine gz_ki (gz_runV (t := 0) (ci := 11) (q := (RX11, TX11, 63)) (As := []) (rest := []) C dX11_count_69 ml_RX11_362 mw_X11_waiting mv_X11_waiting (c_X11_waiting l G σ1) (gz_hm0 _) rfl rfl rfl rfl rfl (Nat.le_of_ble_eq_true rfl) ⟨rfl, rfl, Nat.le_of_ble_eq_true rfl, Nat.le_of_ble_eq_true rfl, Nat.le_of_ble_eq_true rfl, Nat.le_of_ble_eq_true rfl⟩) (fun r3 σ2 => ?_)
    exact gz_iret C rfl dX11_count_72
  refine gz_case 5 (fun hx5 => ?_) (fun hx5 => ?_)
  · rw [hx5]
    refine gz_tin (tgt := 73) (off := 67) C dX11_count_6 (by decide) (by decide) rfl (by decide) ?_
    refine gz_aload_n C dX11_count_73 0 rfl ?_
    refine gz_get C (t := 0) (k := 9) (ci := 11) (q := (RX11, TX11, 63)) (v := .int (σ1.1 0 0 9)) dX11_count_74 fl_RX11_164 (gz_hm0 _) rfl rfl (by decide) rfl ?_
    exact gz_iret C rfl dX11_count_77
  refine gz_case 6 (fun hx6 => ?_) (fun hx6 => ?_)
  · rw [hx6]
    refine gz_tin (tgt := 78) (off := 72) C dX11_count_6 (by decide) (by decide) rfl (by decide) ?_
    refine gz_aload_n C dX11_count_78 0 rfl ?_
    refine gz_get C (t := 0) (k := 14) (ci := 11) (q := (RX11, TX11, 63)) (v := .int (σ1.1 0 0 14)) dX11_count_79 fl_RX11_264 (gz_hm0 _) rfl rfl (by decide) rfl ?_
    exact gz_iret C rfl dX11_count_82
  refine gz_tout (tgt := 83) C dX11_count_6 (by have q0 := lv_neT hx0 (a := 0) (by decide); have q1 := lv_neT hx1 (a := 1) (by decide); have q2 := lv_neT hx2 (a := 2) (by decide); have q3 := lv_neT hx3 (a := 3) (by decide); have q4 := lv_neT hx4 (a := 4) (by decide); have q5 := lv_neT hx5 (a := 5) (by decide); have q6 := lv_neT hx6 (a := 6) (by decide); omega) (by decide) ?_
  refine gz_iconst C dX11_count_83 gk_iconst_m1 ?_
  exact gz_iret C rfl dX11_count_84

def f_X11_trouble (σ : gz_S) : Option (Int32 × gz_S) :=
  gz_w (gz_si σ 0 0 0 0) (fun σ1 =>
  some (σ1.1 0 0 1, σ1))
set_option maxHeartbeats 4000000 in
set_option maxRecDepth 100000 in
theorem c_X11_trouble (l : Launch) (G : gz_G) (σ : gz_S) : ∀ o, f_X11_trouble σ = some o → gz_M l true G yX11_trouble cX11_trouble 1 (some .int) { frames := 0, cells := 0, slots := 0, locals := 0 } [.ref (gz_ad true G 0 0)] σ (gz_ei o) 0 0 := by
  refine gz_enter RX11 rfl (by decide) (Nat.le_of_ble_eq_true rfl) ?_
  intro p e s m args below meth c C
  refine gz_eqs (st' := []) (lv' := [(0, .ref (gz_ad true G 0 0))]) rfl rfl ?_
  unfold f_X11_trouble
  refine gz_aload_n C dX11_trouble_0 0 rfl ?_
  refine gz_iconst C dX11_trouble_1 gk_iconst_0 ?_
  refine gz_putI C (t := 0) (k := 0) (ci := 11) (q := (RX11, TX11, 63)) dX11_trouble_2 fl_RX11_158 (gz_hm0 _) rfl rfl (by decide) rfl rfl rfl rfl ?_
  refine gz_w_row (fun σ1 => ?_)
  refine gz_aload_n C dX11_trouble_5 0 rfl ?_
  refine gz_get C (t := 0) (k := 1) (ci := 11) (q := (RX11, TX11, 63)) (v := .int (σ1.1 0 0 1)) dX11_trouble_6 fl_RX11_161 (gz_hm0 _) rfl rfl (by decide) rfl ?_
  exact gz_iret C rfl dX11_trouble_9
