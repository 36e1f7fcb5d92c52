def f_X1_hasName_J38 (v1 : Int32) (rec2 : Int32 → gz_S → Option (Int32 × gz_S)) : gz_S → Option (Int32 × gz_S) := fun σ4 =>
  rec2 (v1 + 1) σ4
def f_X1_hasName_L2 (a2 : Nat) (a1 : Nat) : (Int32 → gz_S → Option (Int32 × gz_S)) → Int32 → gz_S → Option (Int32 × gz_S) := fun rec2 v1 σ2 =>
  if (σ2.1 6 a2 1) ≤ v1 then
  (some ((0 : Int32) &&& 1, σ2))
  else
  (gz_ix v1 8 (fun n3 =>
  gz_j0 (f_X1_hasName_J38 v1 rec2) (fun j38 =>
  if (σ2.1 8 (8 * a2 + n3) 1) = 2 then
  (gz_ix v1 8 (fun n5 =>
  gz_call (f_X1_isName (σ2.2.1 15 a1 n5) σ2) (fun r7 σ6 =>
  if r7 = 0 then
  (j38 σ6)
  else
  (some ((1 : Int32) &&& 1, σ6)))))
  else
  (j38 σ2))))
def f_X1_hasName (a1 : Nat) (a2 : Nat) (σ : gz_S) : Option (Int32 × gz_S) :=
  gz_l1 (f_X1_hasName_L2 a2 a1) gz_fu 0 σ
set_option maxHeartbeats 4000000 in
set_option maxRecDepth 100000 in
theorem c_X1_hasName (l : Launch) (G : gz_G) (a1 : Nat) (a2 : Nat) (h1 : a1 < 61) (h2 : a2 < 13) (σ : gz_S) : ∀ o, f_X1_hasName a1 a2 σ = some o → gz_M l false G yX1_hasName cX1_hasName 4 (some .boolean) { frames := 1, cells := 0, slots := 0, locals := 23 } [.ref (gz_ad false G 10 0), .ref (gz_ad false G 14 a1), .ref (gz_ad false G 6 a2)] σ (gz_ei o) 0 0 := by
  refine gz_enter RX1 rfl (by decide) (Nat.le_of_ble_eq_true rfl) ?_
  intro p e s m args below meth c C
  refine gz_eqs (st' := []) (lv' := [(0, .ref (gz_ad false G 10 0)), (1, .ref (gz_ad false G 14 a1)), (2, .ref (gz_ad false G 6 a2))]) rfl rfl ?_
  unfold f_X1_hasName
  refine gz_iconst C dX1_hasName_0 gk_iconst_0 ?_
  refine gz_istore_n C (lv' := [(3, .int 0), (0, .ref (gz_ad false G 10 0)), (1, .ref (gz_ad false G 14 a1)), (2, .ref (gz_ad false G 6 a2))]) dX1_hasName_1 (by decide) rfl ?_
  refine gz_lv (lv' := [(0, .ref (gz_ad false G 10 0)), (1, .ref (gz_ad false G 14 a1)), (2, .ref (gz_ad false G 6 a2)), (3, .int 0)]) [1, 2, 3, 0] rfl ?_
  refine gz_l1_ind (P := fun v1 σ2 x => gz_W false p l e ({ frames := 1, cells := 0, slots := 0, locals := 23 } : Room) s m args below meth c G 4 (gz_Q false G below args s 0 0 gz_ei) 0 0 σ2 2 [(0, .ref (gz_ad false G 10 0)), (1, .ref (gz_ad false G 14 a1)), (2, .ref (gz_ad false G 6 a2)), (3, .int v1)] [] x) (fun _ _ => gz_none) (fun rec2 hrec2 v1 σ2 => ?_) gz_fu 0 σ
  unfold f_X1_hasName_L2
  refine gz_iload_n C dX1_hasName_2 3 rfl ?_
  refine gz_aload_n C dX1_hasName_3 2 rfl ?_
  refine gz_getN C (t := 6) (k := 1) (ci := 4) (q := (RX4, TX4, 2)) (v := .int (σ2.1 6 a2 1)) dX1_hasName_4 fl_RX1_130 (gz_hx6 _ h2) rfl rfl (by decide) rfl ?_
  refine gz_icmp_ge (tgt := 44) C dX1_hasName_7 (by decide) ?_ ?_
  · skip
    refine gz_iconst C dX1_hasName_44 gk_iconst_0 ?_
    exact gz_zret C rfl dX1_hasName_45
  · skip
    refine gz_aload_n C dX1_hasName_10 2 rfl ?_
    refine gz_getN C (t := 6) (k := 0) (ci := 4) (q := (RX4, TX4, 2)) (v := .ref (gz_ad false G 7 a2)) dX1_hasName_11 fl_RX1_133 (gz_hx6 _ h2) rfl rfl (by decide) rfl ?_
    refine gz_iload_n C dX1_hasName_14 3 rfl ?_
    refine gz_aald4 C (t := 7) dX1_hasName_15 (gz_hx7 _ h2) rfl (fun n3 hn3 => ?_)
    refine gz_getN C (t := 8) (k := 1) (ci := 3) (q := (RX3, TX3, 7)) (v := .int (σ2.1 8 (8 * a2 + n3) 1)) dX1_hasName_16 fl_RX1_137 (gz_hx8 _ (gz_h8 h2 hn3)) rfl rfl (by decide) rfl ?_
    refine gz_iconst C dX1_hasName_19 gk_iconst_2 ?_
    refine gz_j0_row (P := fun σ4 x => gz_W false p l e ({ frames := 1, cells := 0, slots := 0, locals := 23 } : Room) s m args below meth c G 4 (gz_Q false G below args s 0 0 gz_ei) 0 0 σ4 38 [(0, .ref (gz_ad false G 10 0)), (1, .ref (gz_ad false G 14 a1)), (2, .ref (gz_ad false G 6 a2)), (3, .int v1)] [] x) (fun σ4 => ?_) (fun j38 hj38 => ?_)
    · unfold f_X1_hasName_J38
      refine gz_iinc C (q := 3) (v := v1 + 1) (lv' := [(3, .int (v1 + 1)), (0, .ref (gz_ad false G 10 0)), (1, .ref (gz_ad false G 14 a1)), (2, .ref (gz_ad false G 6 a2))]) dX1_hasName_38 rfl rfl (by decide) rfl ?_
      refine gz_goto (tgt := 2) C dX1_hasName_41 (by decide) ?_
      refine gz_lv (lv' := [(0, .ref (gz_ad false G 10 0)), (1, .ref (gz_ad false G 14 a1)), (2, .ref (gz_ad false G 6 a2)), (3, .int (v1 + 1))]) [1, 2, 3, 0] rfl ?_
      exact hrec2 (v1 + 1) σ4
    · skip
      refine gz_icmp_ne (tgt := 38) C dX1_hasName_20 (by decide) ?_ ?_
      · skip
        exact hj38 σ2
      · skip
        refine gz_aload_n C dX1_hasName_23 0 rfl ?_
        refine gz_aload_n C dX1_hasName_24 1 rfl ?_
        refine gz_getN C (t := 14) (k := 5) (ci := 6) (q := (RX6, TX6, 15)) (v := .ref (gz_ad false G 15 a1)) dX1_hasName_25 fl_RX1_142 (gz_hx14 _ h1) rfl rfl (by decide) rfl ?_
        refine gz_iload_n C dX1_hasName_28 3 rfl ?_
        refine gz_lald C (t := 15) dX1_hasName_29 (gz_hx15 _ h1) rfl (fun n5 hn5 => ?_)
        refine gz_ki (gz_runV (t := 10) (ci := 1) (q := (RX1, TX1, 6)) (As := [.long (σ2.2.1 15 a1 n5)]) (rest := []) C dX1_hasName_30 ml_RX1_113 mw_X1_isName mv_X1_isName (c_X1_isName l G (σ2.2.1 15 a1 n5) σ2) (gz_hx10 _) rfl rfl rfl rfl rfl (Nat.le_of_ble_eq_true rfl) ⟨rfl, rfl, Nat.le_of_ble_eq_true rfl, Nat.le_of_ble_eq_true rfl, Nat.le_of_ble_eq_true rfl, Nat.le_of_ble_eq_true rfl⟩) (fun r7 σ6 => ?_)
        refine gz_if_eq (tgt := 38) C dX1_hasName_33 (by decide) ?_ ?_
        · skip
          exact hj38 σ6
        · skip
          refine gz_iconst C dX1_hasName_36 gk_iconst_1 ?_
          exact gz_zret C rfl dX1_hasName_37

def f_X1_search_J90 (v2 : Int32) (rec7 : Int32 → gz_S → Option (gz_S)) : gz_S → Option (gz_S) := fun σ7 =>
  rec7 (v2 + 1) σ7
def f_X1_search_L7 (a2 : Int32) : (Int32 → gz_S → Option (gz_S)) → Int32 → gz_S → Option (gz_S) := fun rec7 v2 σ3 =>
  if (σ3.1 10 0 1) ≤ v2 then
  (some σ3)
  else
  (if 60 ≤ (σ3.1 10 0 5) then
  (some σ3)
  else
  (gz_ix v2 61 (fun n4 =>
  gz_call (f_X6_isKnown n4 a2 σ3) (fun r6 σ5 =>
  gz_j0 (f_X1_search_J90 v2 rec7) (fun j90 =>
  if r6 = 0 then
  (j90 σ5)
  else
  (if 13 ≤ (σ5.1 14 n4 0) then
  (j90 σ5)
  else
  (gz_ix (σ5.1 14 n4 0) 13 (fun n8 =>
  gz_call (f_X1_hasName n4 n8 σ5) (fun r10 σ9 =>
  if r10 = 0 then
  (j90 σ9)
  else
  (gz_ix (σ9.1 10 0 5) 60 (fun n11 =>
  gz_w (gz_si σ9 13 0 n11 v2) (fun σ12 =>
  gz_w (gz_si σ12 10 0 5 ((σ12.1 10 0 5) + 1)) (fun σ13 =>
  j90 σ13)))))))))))))
def f_X1_search (a2 : Int32) (σ : gz_S) : Option (gz_S) :=
  gz_w (gz_si σ 10 0 5 0) (fun σ1 =>
  gz_l1 (f_X1_search_L7 a2) gz_fu 0 σ1)
set_option maxHeartbeats 4000000 in
set_option maxRecDepth 100000 in
theorem c_X1_search (l : Launch) (G : gz_G) (a2 : Int32) (σ : gz_S) : ∀ o, f_X1_search a2 σ = some o → gz_M l false G yX1_search cX1_search 5 none { frames := 2, cells := 0, slots := 0, locals := 46 } [.ref (gz_ad false G 10 0), .ref (gz_ad false G 5 0), .int a2] σ (gz_eu o) 0 0 := by
  refine gz_enter RX1 rfl (by decide) (Nat.le_of_ble_eq_true rfl) ?_
  intro p e s m args below meth c C
  refine gz_eqs (st' := []) (lv' := [(0, .ref (gz_ad false G 10 0)), (1, .ref (gz_ad false G 5 0)), (2, .int a2)]) rfl rfl ?_
  unfold f_X1_search
  refine gz_aload_n C dX1_search_0 0 rfl ?_
  refine gz_iconst C dX1_search_1 gk_iconst_0 ?_
  refine gz_putI C (t := 10) (k := 5) (ci := 1) (q := (RX1, TX1, 6)) dX1_search_2 fl_RX1_120 (gz_hx10 _) rfl rfl (by decide) rfl rfl rfl rfl ?_
  refine gz_w_row (fun σ1 => ?_)
  refine gz_iconst C dX1_search_5 gk_iconst_0 ?_
  refine gz_istore_n C (lv' := [(3, .int 0), (0, .ref (gz_ad false G 10 0)), (1, .ref (gz_ad false G 5 0)), (2, .int a2)]) dX1_search_6 (by decide) rfl ?_
  refine gz_lv (lv' := [(0, .ref (gz_ad false G 10 0)), (1, .ref (gz_ad false G 5 0)), (2, .int a2), (3, .int 0)]) [1, 2, 3, 0] rfl ?_
  refine gz_l1_ind (P := fun v2 σ3 x => gz_W false p l e ({ frames := 2, cells := 0, slots := 0, locals := 46 } : Room) s m args below meth c G 5 (gz_Q false G below args s 0 0 gz_eu) 0 0 σ3 7 [(0, .ref (gz_ad false G 10 0)), (1, .ref (gz_ad false G 5 0)), (2, .int a2), (3, .int v2)] [] x) (fun _ _ => gz_none) (fun rec7 hrec7 v2 σ3 => ?_) gz_fu 0 σ1
  unfold f_X1_search_L7
  refine gz_iload_n C dX1_search_7 3 rfl ?_
  refine gz_aload_n C dX1_search_8 0 rfl ?_
  refine gz_get C (t := 10) (k := 1) (ci := 1) (q := (RX1, TX1, 6)) (v := .int (σ3.1 10 0 1)) dX1_search_9 fl_RX1_26 (gz_hx10 _) rfl rfl (by decide) rfl ?_
  refine gz_icmp_ge (tgt := 96) C dX1_search_12 (by decide) ?_ ?_
  · skip
    exact gz_vret C rfl dX1_search_96
  · skip
    refine gz_aload_n C dX1_search_15 0 rfl ?_
    refine gz_get C (t := 10) (k := 5) (ci := 1) (q := (RX1, TX1, 6)) (v := .int (σ3.1 10 0 5)) dX1_search_16 fl_RX1_120 (gz_hx10 _) rfl rfl (by decide) rfl ?_
    refine gz_aload_n C dX1_search_19 0 rfl ?_
    refine gz_get C (t := 10) (k := 4) (ci := 1) (q := (RX1, TX1, 6)) (v := .ref (gz_ad false G 13 0)) dX1_search_20 fl_RX1_21 (gz_hx10 _) rfl rfl (by decide) rfl ?_
    refine gz_alen C (t := 13) (v := 60) dX1_search_23 (gz_hx13 _) rfl (by decide) (by decide) ?_
    refine gz_icmp_ge (tgt := 96) C dX1_search_24 (by decide) ?_ ?_
    · skip
      exact gz_vret C rfl dX1_search_96
    · skip
      refine gz_aload_n C dX1_search_27 0 rfl ?_
      refine gz_get C (t := 10) (k := 0) (ci := 1) (q := (RX1, TX1, 6)) (v := .ref (gz_ad false G 11 0)) dX1_search_28 fl_RX1_11 (gz_hx10 _) rfl rfl (by decide) rfl ?_
      refine gz_iload_n C dX1_search_31 3 rfl ?_
      refine gz_aald7 C (t := 11) dX1_search_32 (gz_hx11 _) rfl (fun n4 hn4 => ?_)
      refine gz_astore C (lv' := [(4, .ref (gz_ad false G 14 n4)), (0, .ref (gz_ad false G 10 0)), (1, .ref (gz_ad false G 5 0)), (2, .int a2), (3, .int v2)]) dX1_search_33 (by decide) rfl ?_
      refine gz_aload C dX1_search_35 0 rfl ?_
      refine gz_iload_n C dX1_search_37 3 rfl ?_
      refine gz_ki (gz_runV (t := 14) (ci := 6) (q := (RX6, TX6, 15)) (As := [.int a2]) (rest := []) C dX1_search_38 ml_RX1_75 mw_X6_isKnown mv_X6_isKnown (c_X6_isKnown l G n4 a2 hn4 σ3) (gz_hx14 _ hn4) rfl rfl rfl rfl rfl (Nat.le_of_ble_eq_true rfl) ⟨rfl, rfl, Nat.le_of_ble_eq_true rfl, Nat.le_of_ble_eq_true rfl, Nat.le_of_ble_eq_true rfl, Nat.le_of_ble_eq_true rfl⟩) (fun r6 σ5 => ?_)
      refine gz_j0_row (P := fun σ7 x => gz_W false p l e ({ frames := 2, cells := 0, slots := 0, locals := 46 } : Room) s m args below meth c G 5 (gz_Q false G below args s 0 0 gz_eu) 0 0 σ7 90 [(0, .ref (gz_ad false G 10 0)), (1, .ref (gz_ad false G 5 0)), (2, .int a2), (3, .int v2)] [] x) (fun σ7 => ?_) (fun j90 hj90 => ?_)
      · unfold f_X1_search_J90
        refine gz_iinc C (q := 3) (v := v2 + 1) (lv' := [(3, .int (v2 + 1)), (0, .ref (gz_ad false G 10 0)), (1, .ref (gz_ad false G 5 0)), (2, .int a2)]) dX1_search_90 rfl rfl (by decide) rfl ?_
        refine gz_goto (tgt := 7) C dX1_search_93 (by decide) ?_
        refine gz_lv (lv' := [(0, .ref (gz_ad false G 10 0)), (1, .ref (gz_ad false G 5 0)), (2, .int a2), (3, .int (v2 + 1))]) [1, 2, 3, 0] rfl ?_
        exact hrec7 (v2 + 1) σ7
      · skip
        refine gz_if_eq (tgt := 90) C dX1_search_41 (by decide) ?_ ?_
        · skip
          refine gz_lv (lv' := [(0, .ref (gz_ad false G 10 0)), (1, .ref (gz_ad false G 5 0)), (2, .int a2), (3, .int v2)]) [1, 2, 3, 4] rfl ?_
          exact hj90 σ5
        · skip
          refine gz_aload C dX1_search_44 0 rfl ?_
          refine gz_getN C (t := 14) (k := 0) (ci := 6) (q := (RX6, TX6, 15)) (v := .int (σ5.1 14 n4 0)) dX1_search_46 fl_RX1_123 (gz_hx14 _ hn4) rfl rfl (by decide) rfl ?_
          refine gz_aload_n C dX1_search_49 2 rfl ?_
          refine gz_alen C (t := 5) (v := 13) dX1_search_50 (gz_hx5 _) rfl (by decide) (by decide) ?_
          refine gz_icmp_ge (tgt := 90) C dX1_search_51 (by decide) ?_ ?_
          · skip
            refine gz_lv (lv' := [(0, .ref (gz_ad false G 10 0)), (1, .ref (gz_ad false G 5 0)), (2, .int a2), (3, .int v2)]) [1, 2, 3, 4] rfl ?_
            exact hj90 σ5
          · skip
            refine gz_aload_n C dX1_search_54 1 rfl ?_
            refine gz_aload C dX1_search_55 0 rfl ?_
            refine gz_aload_n C dX1_search_57 2 rfl ?_
            refine gz_aload C dX1_search_58 0 rfl ?_
            refine gz_getN C (t := 14) (k := 0) (ci := 6) (q := (RX6, TX6, 15)) (v := .int (σ5.1 14 n4 0)) dX1_search_60 fl_RX1_123 (gz_hx14 _ hn4) rfl rfl (by decide) rfl ?_
            refine gz_aald5 C (t := 5) dX1_search_63 (gz_hx5 _) rfl (fun n8 hn8 => ?_)
            refine gz_ki (gz_runV (t := 10) (ci := 1) (q := (RX1, TX1, 6)) (As := [.ref (gz_ad false G 14 n4), .ref (gz_ad false G 6 n8)]) (rest := []) C dX1_search_64 ml_RX1_126 mw_X1_hasName mv_X1_hasName (c_X1_hasName l G n4 n8 hn4 hn8 σ5) (gz_hx10 _) rfl rfl rfl rfl rfl (Nat.le_of_ble_eq_true rfl) ⟨rfl, rfl, Nat.le_of_ble_eq_true rfl, Nat.le_of_ble_eq_true rfl, Nat.le_of_ble_eq_true rfl, Nat.le_of_ble_eq_true rfl⟩) (fun r10 σ9 => ?_)
            refine gz_if_eq (tgt := 90) C dX1_search_67 (by decide) ?_ ?_
            · skip
              refine gz_lv (lv' := [(0, .ref (gz_ad false G 10 0)), (1, .ref (gz_ad false G 5 0)), (2, .int a2), (3, .int v2)]) [1, 2, 3, 4] rfl ?_
              exact hj90 σ9
            · skip
              refine gz_aload_n C dX1_search_70 1 rfl ?_
              refine gz_get C (t := 10) (k := 4) (ci := 1) (q := (RX1, TX1, 6)) (v := .ref (gz_ad false G 13 0)) dX1_search_71 fl_RX1_21 (gz_hx10 _) rfl rfl (by decide) rfl ?_
              refine gz_aload_n C dX1_search_74 1 rfl ?_
              refine gz_get C (t := 10) (k := 5) (ci := 1) (q := (RX1, TX1, 6)) (v := .int (σ9.1 10 0 5)) dX1_search_75 fl_RX1_120 (gz_hx10 _) rfl rfl (by decide) rfl ?_
              refine gz_iload_n C dX1_search_78 4 rfl ?_
              refine gz_iast C (t := 13) dX1_search_79 (gz_hx13 _) rfl (fun n11 hn11 => ?_)
              refine gz_w_row (fun σ12 => ?_)
              refine gz_aload_n C dX1_search_80 1 rfl ?_
              refine gz_dup C dX1_search_81 rfl ?_
              refine gz_get C (t := 10) (k := 5) (ci := 1) (q := (RX1, TX1, 6)) (v := .int (σ12.1 10 0 5)) dX1_search_82 fl_RX1_120 (gz_hx10 _) rfl rfl (by decide) rfl ?_
              refine gz_iconst C dX1_search_85 gk_iconst_1 ?_
              refine gz_iadd C dX1_search_86 ?_
              refine gz_putI C (t := 10) (k := 5) (ci := 1) (q := (RX1, TX1, 6)) dX1_search_87 fl_RX1_120 (gz_hx10 _) rfl rfl (by decide) rfl rfl rfl rfl ?_
              refine gz_w_row (fun σ13 => ?_)
              refine gz_lv (lv' := [(0, .ref (gz_ad false G 10 0)), (1, .ref (gz_ad false G 5 0)), (2, .int a2), (3, .int v2)]) [1, 2, 3, 4] rfl ?_
              exact hj90 σ13

def f_X1_isStruck_J43 (v1 : Int32) (rec3 : Int32 → gz_S → Option (Int32 × gz_S)) : gz_S → Option (Int32 × gz_S) := fun σ4 =>
  rec3 (v1 + 1) σ4
def f_X1_isStruck_L3 (a1 : Int64) (a2 : Int32) : (Int32 → gz_S → Option (Int32 × gz_S)) → Int32 → gz_S → Option (Int32 × gz_S) := fun rec3 v1 σ2 =>
  if (σ2.1 10 0 1) ≤ v1 then
  (some ((0 : Int32) &&& 1, σ2))
  else
  (gz_ix v1 61 (fun n3 =>
  gz_j0 (f_X1_isStruck_J43 v1 rec3) (fun j43 =>
  if (lg_cmp (σ2.2.1 14 n3 13) a1) = 0 then
  (gz_ix v1 61 (fun n5 =>
  gz_call (f_X6_isKnown n5 a2 σ2) (fun r7 σ6 =>
  if r7 = 0 then
  (j43 σ6)
  else
  (some ((1 : Int32) &&& 1, σ6)))))
  else
  (j43 σ2))))
def f_X1_isStruck (a1 : Int64) (a2 : Int32) (σ : gz_S) : Option (Int32 × gz_S) :=
  gz_l1 (f_X1_isStruck_L3 a1 a2) gz_fu 0 σ
set_option maxHeartbeats 4000000 in
set_option maxRecDepth 100000 in
theorem c_X1_isStruck (l : Launch) (G : gz_G) (a1 : Int64) (a2 : Int32) (σ : gz_S) : ∀ o, f_X1_isStruck a1 a2 σ = some o → gz_M l false G yX1_isStruck cX1_isStruck 5 (some .boolean) { frames := 1, cells := 0, slots := 0, locals := 21 } [.ref (gz_ad false G 10 0), .long a1, .int a2] σ (gz_ei o) 0 0 := by
  refine gz_enter RX1 rfl (by decide) (Nat.le_of_ble_eq_true rfl) ?_
  intro p e s m args below meth c C
  refine gz_eqs (st' := []) (lv' := [(0, .ref (gz_ad false G 10 0)), (1, .long a1), (3, .int a2)]) rfl rfl ?_
  unfold f_X1_isStruck
  refine gz_iconst C dX1_isStruck_0 gk_iconst_0 ?_
  refine gz_istore C (lv' := [(4, .int 0), (0, .ref (gz_ad false G 10 0)), (1, .long a1), (3, .int a2)]) dX1_isStruck_1 (by decide) rfl ?_
  refine gz_lv (lv' := [(0, .ref (gz_ad false G 10 0)), (1, .long a1), (3, .int a2), (4, .int 0)]) [1, 2, 3, 0] rfl ?_
  refine gz_l1_ind (P := fun v1 σ2 x => gz_W false p l e ({ frames := 1, cells := 0, slots := 0, locals := 21 } : Room) s m args below meth c G 5 (gz_Q false G below args s 0 0 gz_ei) 0 0 σ2 3 [(0, .ref (gz_ad false G 10 0)), (1, .long a1), (3, .int a2), (4, .int v1)] [] x) (fun _ _ => gz_none) (fun rec3 hrec3 v1 σ2 => ?_) gz_fu 0 σ
  unfold f_X1_isStruck_L3
  refine gz_iload C dX1_isStruck_3 3 rfl ?_
  refine gz_aload_n C dX1_isStruck_5 0 rfl ?_
  refine gz_get C (t := 10) (k := 1) (ci := 1) (q := (RX1, TX1, 6)) (v := .int (σ2.1 10 0 1)) dX1_isStruck_6 fl_RX1_26 (gz_hx10 _) rfl rfl (by decide) rfl ?_
  refine gz_icmp_ge (tgt := 49) C dX1_isStruck_9 (by decide) ?_ ?_
  · skip
    refine gz_iconst C dX1_isStruck_49 gk_iconst_0 ?_
    exact gz_zret C rfl dX1_isStruck_50
  · skip
    refine gz_aload_n C dX1_isStruck_12 0 rfl ?_
    refine gz_get C (t := 10) (k := 0) (ci := 1) (q := (RX1, TX1, 6)) (v := .ref (gz_ad false G 11 0)) dX1_isStruck_13 fl_RX1_11 (gz_hx10 _) rfl rfl (by decide) rfl ?_
    refine gz_iload C dX1_isStruck_16 3 rfl ?_
    refine gz_aald7 C (t := 11) dX1_isStruck_18 (gz_hx11 _) rfl (fun n3 hn3 => ?_)
    refine gz_getN C (t := 14) (k := 13) (ci := 6) (q := (RX6, TX6, 15)) (v := .long (σ2.2.1 14 n3 13)) dX1_isStruck_19 fl_RX1_145 (gz_hx14 _ hn3) rfl rfl (by decide) rfl ?_
    refine gz_lload_n C dX1_isStruck_22 1 rfl ?_
    refine gz_lcmp C dX1_isStruck_23 ?_
    refine gz_j0_row (P := fun σ4 x => gz_W false p l e ({ frames := 1, cells := 0, slots := 0, locals := 21 } : Room) s m args below meth c G 5 (gz_Q false G below args s 0 0 gz_ei) 0 0 σ4 43 [(0, .ref (gz_ad false G 10 0)), (1, .long a1), (3, .int a2), (4, .int v1)] [] x) (fun σ4 => ?_) (fun j43 hj43 => ?_)
    · unfold f_X1_isStruck_J43
      refine gz_iinc C (q := 3) (v := v1 + 1) (lv' := [(4, .int (v1 + 1)), (0, .ref (gz_ad false G 10 0)), (1, .long a1), (3, .int a2)]) dX1_isStruck_43 rfl rfl (by decide) rfl ?_
      refine gz_goto (tgt := 3) C dX1_isStruck_46 (by decide) ?_
      refine gz_lv (lv' := [(0, .ref (gz_ad false G 10 0)), (1, .long a1), (3, .int a2), (4, .int (v1 + 1))]) [1, 2, 3, 0] rfl ?_
      exact hrec3 (v1 + 1) σ4
    · skip
      refine gz_if_ne (tgt := 43) C dX1_isStruck_24 (by decide) ?_ ?_
      · skip
        exact hj43 σ2
      · skip
        refine gz_aload_n C dX1_isStruck_27 0 rfl ?_
        refine gz_get C (t := 10) (k := 0) (ci := 1) (q := (RX1, TX1, 6)) (v := .ref (gz_ad false G 11 0)) dX1_isStruck_28 fl_RX1_11 (gz_hx10 _) rfl rfl (by decide) rfl ?_
        refine gz_iload C dX1_isStruck_31 3 rfl ?_
        refine gz_aald7 C (t := 11) dX1_isStruck_33 (gz_hx11 _) rfl (fun n5 hn5 => ?_)
        refine gz_iload_n C dX1_isStruck_34 2 rfl ?_
        refine gz_ki (gz_runV (t := 14) (ci := 6) (q := (RX6, TX6, 15)) (As := [.int a2]) (rest := []) C dX1_isStruck_35 ml_RX1_75 mw_X6_isKnown mv_X6_isKnown (c_X6_isKnown l G n5 a2 hn5 σ2) (gz_hx14 _ hn5) rfl rfl rfl rfl rfl (Nat.le_of_ble_eq_true rfl) ⟨rfl, rfl, Nat.le_of_ble_eq_true rfl, Nat.le_of_ble_eq_true rfl, Nat.le_of_ble_eq_true rfl, Nat.le_of_ble_eq_true rfl⟩) (fun r7 σ6 => ?_)
        refine gz_if_eq (tgt := 43) C dX1_isStruck_38 (by decide) ?_ ?_
        · skip
          exact hj43 σ6
        · skip
          refine gz_iconst C dX1_isStruck_41 gk_iconst_1 ?_
          exact gz_zret C rfl dX1_isStruck_42

def f_X2_isFeast (a1 : Int32) (σ : gz_S) : Option (Int32 × gz_S) :=
  gz_v (a1 >>> ((6 : Int32) &&& 31)) (fun v1 =>
  if v1 < 0 then
  (some ((0 : Int32) &&& 1, σ))
  else
  (if 157 ≤ v1 then
  (some ((0 : Int32) &&& 1, σ))
  else
  (gz_ix v1 157 (fun n2 =>
  if (lg_cmp ((((σ.2.1 2 0 n2).toUInt64 >>> ((a1 &&& 63 : Int32).toInt64.toUInt64 &&& Int64.toUInt64 63)).toInt64) &&& 1) 0) = 0 then
  (some ((0 : Int32) &&& 1, σ))
  else
  (some ((1 : Int32) &&& 1, σ))))))
set_option maxHeartbeats 4000000 in
set_option maxRecDepth 100000 in
theorem c_X2_isFeast (l : Launch) (G : gz_G) (a1 : Int32) (σ : gz_S) : ∀ o, f_X2_isFeast a1 σ = some o → gz_M l false G yX2_isFeast cX2_isFeast 3 (some .boolean) { frames := 0, cells := 0, slots := 0, locals := 0 } [.ref (gz_ad false G 1 0), .int a1] σ (gz_ei o) 0 0 := by
  refine gz_enter RX2 rfl (by decide) (Nat.le_of_ble_eq_true rfl) ?_
  intro p e s m args below meth c C
  refine gz_eqs (st' := []) (lv' := [(0, .ref (gz_ad false G 1 0)), (1, .int a1)]) rfl rfl ?_
  unfold f_X2_isFeast
  refine gz_iload_n C dX2_isFeast_0 1 rfl ?_
  refine gz_bipush C dX2_isFeast_1 gk_bipush_6 ?_
  refine gz_ishr C dX2_isFeast_3 ?_
  refine gz_topI (fun v1 => ?_)
  refine gz_istore_n C (lv' := [(2, .int v1), (0, .ref (gz_ad false G 1 0)), (1, .int a1)]) dX2_isFeast_4 (by decide) rfl ?_
  refine gz_iload_n C dX2_isFeast_5 0 rfl ?_
  refine gz_if_lt (tgt := 40) C dX2_isFeast_6 (by decide) ?_ ?_
  · skip
    refine gz_iconst C dX2_isFeast_40 gk_iconst_0 ?_
    exact gz_zret C rfl dX2_isFeast_41
  · skip
    refine gz_iload_n C dX2_isFeast_9 0 rfl ?_
    refine gz_aload_n C dX2_isFeast_10 1 rfl ?_
    refine gz_get C (t := 1) (k := 0) (ci := 2) (q := (RX2, TX2, 2)) (v := .ref (gz_ad false G 2 0)) dX2_isFeast_11 fl_RX2_9 (gz_hx1 _) rfl rfl (by decide) rfl ?_
    refine gz_alen C (t := 2) (v := 157) dX2_isFeast_14 (gz_hx2 _) rfl (by decide) (by decide) ?_
    refine gz_icmp_ge (tgt := 40) C dX2_isFeast_15 (by decide) ?_ ?_
    · skip
      refine gz_iconst C dX2_isFeast_40 gk_iconst_0 ?_
      exact gz_zret C rfl dX2_isFeast_41
    · skip
      refine gz_aload_n C dX2_isFeast_18 1 rfl ?_
      refine gz_get C (t := 1) (k := 0) (ci := 2) (q := (RX2, TX2, 2)) (v := .ref (gz_ad false G 2 0)) dX2_isFeast_19 fl_RX2_9 (gz_hx1 _) rfl rfl (by decide) rfl ?_
      refine gz_iload_n C dX2_isFeast_22 0 rfl ?_
      refine gz_lald C (t := 2) dX2_isFeast_23 (gz_hx2 _) rfl (fun n2 hn2 => ?_)
      refine gz_iload_n C dX2_isFeast_24 2 rfl ?_
      refine gz_bipush C dX2_isFeast_25 gk_bipush_63 ?_
      refine gz_iand C dX2_isFeast_27 ?_
      refine gz_lushr C dX2_isFeast_28 ?_
      refine gz_lconst C dX2_isFeast_29 gk_lconst_1 ?_
      refine gz_land C dX2_isFeast_30 ?_
      refine gz_lconst C dX2_isFeast_31 gk_lconst_0 ?_
      refine gz_lcmp C dX2_isFeast_32 ?_
      refine gz_if_eq (tgt := 40) C dX2_isFeast_33 (by decide) ?_ ?_
      · skip
        refine gz_iconst C dX2_isFeast_40 gk_iconst_0 ?_
        exact gz_zret C rfl dX2_isFeast_41
      · skip
        refine gz_iconst C dX2_isFeast_36 gk_iconst_1 ?_
        refine gz_goto (tgt := 41) C dX2_isFeast_37 (by decide) ?_
        exact gz_zret C rfl dX2_isFeast_41

def f_X9_isDay (a0 : Int32) (σ : gz_S) : Option (Int32 × gz_S) :=
  if a0 < 0 then
  (some ((0 : Int32) &&& 1, σ))
  else
  (if 9999 < a0 then
  (some ((0 : Int32) &&& 1, σ))
  else
  (some ((1 : Int32) &&& 1, σ)))
set_option maxHeartbeats 4000000 in
set_option maxRecDepth 100000 in
theorem c_X9_isDay (l : Launch) (G : gz_G) (a0 : Int32) (σ : gz_S) : ∀ o, f_X9_isDay a0 σ = some o → gz_M l false G yX9_isDay cX9_isDay 1 (some .boolean) { frames := 0, cells := 0, slots := 0, locals := 0 } [.int a0] σ (gz_ei o) 0 0 := by
  refine gz_enter RX9 rfl (by decide) (Nat.le_of_ble_eq_true rfl) ?_
  intro p e s m args below meth c C
  refine gz_eqs (st' := []) (lv' := [(0, .int a0)]) rfl rfl ?_
  unfold f_X9_isDay
  refine gz_iload_n C dX9_isDay_0 0 rfl ?_
  refine gz_if_lt (tgt := 15) C dX9_isDay_1 (by decide) ?_ ?_
  · skip
    refine gz_iconst C dX9_isDay_15 gk_iconst_0 ?_
    exact gz_zret C rfl dX9_isDay_16
  · skip
    refine gz_iload_n C dX9_isDay_4 0 rfl ?_
    refine gz_sipush C dX9_isDay_5 gk_sipush_9999 ?_
    refine gz_icmp_gt (tgt := 15) C dX9_isDay_8 (by decide) ?_ ?_
    · skip
      refine gz_iconst C dX9_isDay_15 gk_iconst_0 ?_
      exact gz_zret C rfl dX9_isDay_16
    · skip
      refine gz_iconst C dX9_isDay_11 gk_iconst_1 ?_
      refine gz_goto (tgt := 16) C dX9_isDay_12 (by decide) ?_
      exact gz_zret C rfl dX9_isDay_16

def f_X2_setFeast (a1 : Int32) (a2 : Int32) (σ : gz_S) : Option (gz_S) :=
  gz_call (f_X9_isDay a1 σ) (fun r2 σ1 =>
  if r2 = 0 then
  (some σ1)
  else
  (gz_call (f_X2_isFeast a1 σ1) (fun r4 σ3 =>
  if r4 = a2 then
  (some σ3)
  else
  (gz_ix (a1 >>> ((6 : Int32) &&& 31)) 157 (fun n5 =>
  gz_ix (a1 >>> ((6 : Int32) &&& 31)) 157 (fun n6 =>
  gz_w (gz_sj σ3 2 0 n6 ((σ3.2.1 2 0 n5) ^^^ (1 <<< ((a1 &&& 63 : Int32).toInt64 &&& 63)))) (fun σ7 =>
  if a2 = 0 then
  (gz_w (gz_si σ7 1 0 1 ((σ7.1 1 0 1) + (-1))) (fun σ8 =>
  some σ8))
  else
  (gz_w (gz_si σ7 1 0 1 ((σ7.1 1 0 1) + 1)) (fun σ9 =>
  some σ9)))))))))
set_option maxHeartbeats 4000000 in
set_option maxRecDepth 100000 in
theorem c_X2_setFeast (l : Launch) (G : gz_G) (a1 : Int32) (a2 : Int32) (σ : gz_S) : ∀ o, f_X2_setFeast a1 a2 σ = some o → gz_M l false G yX2_setFeast cX2_setFeast 3 none { frames := 1, cells := 0, slots := 0, locals := 22 } [.ref (gz_ad false G 1 0), .int a1, .int a2] σ (gz_eu o) 0 0 := by
  refine gz_enter RX2 rfl (by decide) (Nat.le_of_ble_eq_true rfl) ?_
  intro p e s m args below meth c C
  refine gz_eqs (st' := []) (lv' := [(0, .ref (gz_ad false G 1 0)), (1, .int a1), (2, .int a2)]) rfl rfl ?_
  unfold f_X2_setFeast
  refine gz_iload_n C dX2_setFeast_0 1 rfl ?_
  refine gz_ki (gz_runSN (As := [.int a1]) (rest := []) C dX2_setFeast_1 ml_RX2_15 mw_X9_isDay ms_X9_isDay (c_X9_isDay l G a1 σ) rfl rfl (Nat.le_of_ble_eq_true rfl) ⟨rfl, rfl, Nat.le_of_ble_eq_true rfl, Nat.le_of_ble_eq_true rfl, Nat.le_of_ble_eq_true rfl, Nat.le_of_ble_eq_true rfl⟩) (fun r2 σ1 => ?_)
  refine gz_if_eq (tgt := 16) C dX2_setFeast_4 (by decide) ?_ ?_
  · skip
    exact gz_vret C rfl dX2_setFeast_16
  · skip
    refine gz_aload_n C dX2_setFeast_7 0 rfl ?_
    refine gz_iload_n C dX2_setFeast_8 1 rfl ?_
    refine gz_ki (gz_runV (t := 1) (ci := 2) (q := (RX2, TX2, 2)) (As := [.int a1]) (rest := []) C dX2_setFeast_9 ml_RX2_19 mw_X2_isFeast mv_X2_isFeast (c_X2_isFeast l G a1 σ1) (gz_hx1 _) rfl rfl rfl rfl rfl (Nat.le_of_ble_eq_true rfl) ⟨rfl, rfl, Nat.le_of_ble_eq_true rfl, Nat.le_of_ble_eq_true rfl, Nat.le_of_ble_eq_true rfl, Nat.le_of_ble_eq_true rfl⟩) (fun r4 σ3 => ?_)
    refine gz_iload_n C dX2_setFeast_12 2 rfl ?_
    refine gz_icmp_ne (tgt := 17) C dX2_setFeast_13 (by decide) ?_ ?_
    · skip
      refine gz_aload_n C dX2_setFeast_17 0 rfl ?_
      refine gz_get C (t := 1) (k := 0) (ci := 2) (q := (RX2, TX2, 2)) (v := .ref (gz_ad false G 2 0)) dX2_setFeast_18 fl_RX2_9 (gz_hx1 _) rfl rfl (by decide) rfl ?_
      refine gz_iload_n C dX2_setFeast_21 1 rfl ?_
      refine gz_bipush C dX2_setFeast_22 gk_bipush_6 ?_
      refine gz_ishr C dX2_setFeast_24 ?_
      refine gz_dup2 C dX2_setFeast_25 rfl rfl ?_
      refine gz_lald C (t := 2) dX2_setFeast_26 (gz_hx2 _) rfl (fun n5 hn5 => ?_)
      refine gz_lconst C dX2_setFeast_27 gk_lconst_1 ?_
      refine gz_iload_n C dX2_setFeast_28 1 rfl ?_
      refine gz_bipush C dX2_setFeast_29 gk_bipush_63 ?_
      refine gz_iand C dX2_setFeast_31 ?_
      refine gz_lshl C dX2_setFeast_32 ?_
      refine gz_lxor C dX2_setFeast_33 ?_
      refine gz_last C (t := 2) dX2_setFeast_34 (gz_hx2 _) rfl (fun n6 hn6 => ?_)
      refine gz_w_row (fun σ7 => ?_)
      refine gz_aload_n C dX2_setFeast_35 0 rfl ?_
      refine gz_dup C dX2_setFeast_36 rfl ?_
      refine gz_get C (t := 1) (k := 1) (ci := 2) (q := (RX2, TX2, 2)) (v := .int (σ7.1 1 0 1)) dX2_setFeast_37 fl_RX2_22 (gz_hx1 _) rfl rfl (by decide) rfl ?_
      refine gz_iload_n C dX2_setFeast_40 2 rfl ?_
      refine gz_if_eq (tgt := 48) C dX2_setFeast_41 (by decide) ?_ ?_
      · skip
        refine gz_iconst C dX2_setFeast_48 gk_iconst_m1 ?_
        refine gz_iadd C dX2_setFeast_49 ?_
        refine gz_putI C (t := 1) (k := 1) (ci := 2) (q := (RX2, TX2, 2)) dX2_setFeast_50 fl_RX2_22 (gz_hx1 _) rfl rfl (by decide) rfl rfl rfl rfl ?_
        refine gz_w_row (fun σ8 => ?_)
        exact gz_vret C rfl dX2_setFeast_53
      · skip
        refine gz_iconst C dX2_setFeast_44 gk_iconst_1 ?_
        refine gz_goto (tgt := 49) C dX2_setFeast_45 (by decide) ?_
        refine gz_iadd C dX2_setFeast_49 ?_
        refine gz_putI C (t := 1) (k := 1) (ci := 2) (q := (RX2, TX2, 2)) dX2_setFeast_50 fl_RX2_22 (gz_hx1 _) rfl rfl (by decide) rfl rfl rfl rfl ?_
        refine gz_w_row (fun σ9 => ?_)
        exact gz_vret C rfl dX2_setFeast_53
    · skip
      exact gz_vret C rfl dX2_setFeast_16

def f_X2_isWorking (a1 : Int32) (σ : gz_S) : Option (Int32 × gz_S) :=
  if 5 ≤ (gz_rem a1 7) then
  (some ((0 : Int32) &&& 1, σ))
  else
  (gz_call (f_X2_isFeast a1 σ) (fun r2 σ1 =>
  if r2 = 0 then
  (some ((1 : Int32) &&& 1, σ1))
  else
  (some ((0 : Int32) &&& 1, σ1))))
set_option maxHeartbeats 4000000 in
set_option maxRecDepth 100000 in
theorem c_X2_isWorking (l : Launch) (G : gz_G) (a1 : Int32) (σ : gz_S) : ∀ o, f_X2_isWorking a1 σ = some o → gz_M l false G yX2_isWorking cX2_isWorking 2 (some .boolean) { frames := 1, cells := 0, slots := 0, locals := 22 } [.ref (gz_ad false G 1 0), .int a1] σ (gz_ei o) 0 0 := by
  refine gz_enter RX2 rfl (by decide) (Nat.le_of_ble_eq_true rfl) ?_
  intro p e s m args below meth c C
  refine gz_eqs (st' := []) (lv' := [(0, .ref (gz_ad false G 1 0)), (1, .int a1)]) rfl rfl ?_
  unfold f_X2_isWorking
  refine gz_iload_n C dX2_isWorking_0 1 rfl ?_
  refine gz_bipush C dX2_isWorking_1 gk_bipush_7 ?_
  refine gz_irem C dX2_isWorking_3 (by decide) ?_
  refine gz_iconst C dX2_isWorking_4 gk_iconst_5 ?_
  refine gz_icmp_ge (tgt := 20) C dX2_isWorking_5 (by decide) ?_ ?_
  · skip
    refine gz_iconst C dX2_isWorking_20 gk_iconst_0 ?_
    exact gz_zret C rfl dX2_isWorking_21
  · skip
    refine gz_aload_n C dX2_isWorking_8 0 rfl ?_
    refine gz_iload_n C dX2_isWorking_9 1 rfl ?_
    refine gz_ki (gz_runV (t := 1) (ci := 2) (q := (RX2, TX2, 2)) (As := [.int a1]) (rest := []) C dX2_isWorking_10 ml_RX2_19 mw_X2_isFeast mv_X2_isFeast (c_X2_isFeast l G a1 σ) (gz_hx1 _) rfl rfl rfl rfl rfl (Nat.le_of_ble_eq_true rfl) ⟨rfl, rfl, Nat.le_of_ble_eq_true rfl, Nat.le_of_ble_eq_true rfl, Nat.le_of_ble_eq_true rfl, Nat.le_of_ble_eq_true rfl⟩) (fun r2 σ1 => ?_)
    refine gz_if_ne (tgt := 20) C dX2_isWorking_13 (by decide) ?_ ?_
    · skip
      refine gz_iconst C dX2_isWorking_20 gk_iconst_0 ?_
      exact gz_zret C rfl dX2_isWorking_21
    · skip
      refine gz_iconst C dX2_isWorking_16 gk_iconst_1 ?_
      refine gz_goto (tgt := 21) C dX2_isWorking_17 (by decide) ?_
      exact gz_zret C rfl dX2_isWorking_21

def f_X2_workingFrom_L2 : (Int32 → gz_S → Option (Int32 × gz_S)) → Int32 → gz_S → Option (Int32 × gz_S) := fun rec2 v1 σ2 =>
  if 10000 ≤ v1 then
  (some (v1, σ2))
  else
  (gz_call (f_X2_isWorking v1 σ2) (fun r4 σ3 =>
  if r4 = 0 then
  (rec2 (v1 + 1) σ3)
  else
  (some (v1, σ3))))
def f_X2_workingFrom (a1 : Int32) (σ : gz_S) : Option (Int32 × gz_S) :=
  gz_l1 (f_X2_workingFrom_L2) gz_fu a1 σ
set_option maxHeartbeats 4000000 in
set_option maxRecDepth 100000 in
theorem c_X2_workingFrom (l : Launch) (G : gz_G) (a1 : Int32) (σ : gz_S) : ∀ o, f_X2_workingFrom a1 σ = some o → gz_M l false G yX2_workingFrom cX2_workingFrom 3 (some .int) { frames := 2, cells := 0, slots := 0, locals := 43 } [.ref (gz_ad false G 1 0), .int a1] σ (gz_ei o) 0 0 := by
  refine gz_enter RX2 rfl (by decide) (Nat.le_of_ble_eq_true rfl) ?_
  intro p e s m args below meth c C
  refine gz_eqs (st' := []) (lv' := [(0, .ref (gz_ad false G 1 0)), (1, .int a1)]) rfl rfl ?_
  unfold f_X2_workingFrom
  refine gz_iload_n C dX2_workingFrom_0 1 rfl ?_
  refine gz_istore_n C (lv' := [(2, .int a1), (0, .ref (gz_ad false G 1 0)), (1, .int a1)]) dX2_workingFrom_1 (by decide) rfl ?_
  refine gz_lv (lv' := [(0, .ref (gz_ad false G 1 0)), (2, .int a1)]) [1, 0] rfl ?_
  refine gz_l1_ind (P := fun v1 σ2 x => gz_W false p l e ({ frames := 2, cells := 0, slots := 0, locals := 43 } : Room) s m args below meth c G 3 (gz_Q false G below args s 0 0 gz_ei) 0 0 σ2 2 [(0, .ref (gz_ad false G 1 0)), (2, .int v1)] [] x) (fun _ _ => gz_none) (fun rec2 hrec2 v1 σ2 => ?_) gz_fu a1 σ
  unfold f_X2_workingFrom_L2
  refine gz_iload_n C dX2_workingFrom_2 1 rfl ?_
  refine gz_sipush C dX2_workingFrom_3 gk_sipush_10000 ?_
  refine gz_icmp_ge (tgt := 23) C dX2_workingFrom_6 (by decide) ?_ ?_
  · skip
    refine gz_iload_n C dX2_workingFrom_23 1 rfl ?_
    exact gz_iret C rfl dX2_workingFrom_24
  · skip
    refine gz_aload_n C dX2_workingFrom_9 0 rfl ?_
    refine gz_iload_n C dX2_workingFrom_10 1 rfl ?_
    refine gz_ki (gz_runV (t := 1) (ci := 2) (q := (RX2, TX2, 2)) (As := [.int v1]) (rest := []) C dX2_workingFrom_11 ml_RX2_36 mw_X2_isWorking mv_X2_isWorking (c_X2_isWorking l G v1 σ2) (gz_hx1 _) rfl rfl rfl rfl rfl (Nat.le_of_ble_eq_true rfl) ⟨rfl, rfl, Nat.le_of_ble_eq_true rfl, Nat.le_of_ble_eq_true rfl, Nat.le_of_ble_eq_true rfl, Nat.le_of_ble_eq_true rfl⟩) (fun r4 σ3 => ?_)
    refine gz_if_ne (tgt := 23) C dX2_workingFrom_14 (by decide) ?_ ?_
    · skip
      refine gz_iload_n C dX2_workingFrom_23 1 rfl ?_
      exact gz_iret C rfl dX2_workingFrom_24
    · skip
      refine gz_iinc C (q := 1) (v := v1 + 1) (lv' := [(2, .int (v1 + 1)), (0, .ref (gz_ad false G 1 0))]) dX2_workingFrom_17 rfl rfl (by decide) rfl ?_
      refine gz_goto (tgt := 2) C dX2_workingFrom_20 (by decide) ?_
      refine gz_lv (lv' := [(0, .ref (gz_ad false G 1 0)), (2, .int (v1 + 1))]) [1, 0] rfl ?_
      exact hrec2 (v1 + 1) σ3

def f_X2_behind_L24 : (Int32 → Int32 → gz_S → Option (Int32 × gz_S)) → Int32 → Int32 → gz_S → Option (Int32 × gz_S) := fun rec24 v1 v2 σ3 =>
  if v2 ≤ 0 then
  (some (v1, σ3))
  else
  (if 10000 ≤ v1 then
  (some (v1, σ3))
  else
  (gz_call (f_X2_workingFrom (v1 + 1) σ3) (fun r5 σ4 =>
  rec24 r5 (v2 + (-1)) σ4)))
def f_X2_behind (a1 : Int32) (a2 : Int32) (a3 : Int32) (σ : gz_S) : Option (Int32 × gz_S) :=
  if a3 = 0 then
  (gz_call (f_J9_min_7cf53 (a1 + a2) 10000 σ) (fun r7 σ6 =>
  gz_call (f_X2_workingFrom r7 σ6) (fun r9 σ8 =>
  some (r9, σ8))))
  else
  (gz_l2 (f_X2_behind_L24) gz_fu a1 a2 σ)
set_option maxHeartbeats 4000000 in
set_option maxRecDepth 100000 in
theorem c_X2_behind (l : Launch) (G : gz_G) (a1 : Int32) (a2 : Int32) (a3 : Int32) (σ : gz_S) : ∀ o, f_X2_behind a1 a2 a3 σ = some o → gz_M l false G yX2_behind cX2_behind 6 (some .int) { frames := 3, cells := 0, slots := 0, locals := 65 } [.ref (gz_ad false G 1 0), .int a1, .int a2, .int a3] σ (gz_ei o) 0 0 := by
  refine gz_enter RX2 rfl (by decide) (Nat.le_of_ble_eq_true rfl) ?_
  intro p e s m args below meth c C
  refine gz_eqs (st' := []) (lv' := [(0, .ref (gz_ad false G 1 0)), (1, .int a1), (2, .int a2), (3, .int a3)]) rfl rfl ?_
  unfold f_X2_behind
  refine gz_iload_n C dX2_behind_0 3 rfl ?_
  refine gz_if_ne (tgt := 18) C dX2_behind_1 (by decide) ?_ ?_
  · skip
    refine gz_iload_n C dX2_behind_18 1 rfl ?_
    refine gz_istore C (lv' := [(4, .int a1), (0, .ref (gz_ad false G 1 0)), (1, .int a1), (2, .int a2), (3, .int a3)]) dX2_behind_19 (by decide) rfl ?_
    refine gz_iload_n C dX2_behind_21 3 rfl ?_
    refine gz_istore C (lv' := [(5, .int a2), (4, .int a1), (0, .ref (gz_ad false G 1 0)), (1, .int a1), (2, .int a2), (3, .int a3)]) dX2_behind_22 (by decide) rfl ?_
    refine gz_lv (lv' := [(0, .ref (gz_ad false G 1 0)), (4, .int a1), (5, .int a2)]) [2, 1, 0] rfl ?_
    refine gz_l2_ind (P := fun v1 v2 σ3 x => gz_W false p l e ({ frames := 3, cells := 0, slots := 0, locals := 65 } : Room) s m args below meth c G 6 (gz_Q false G below args s 0 0 gz_ei) 0 0 σ3 24 [(0, .ref (gz_ad false G 1 0)), (4, .int v1), (5, .int v2)] [] x) (fun _ _ _ => gz_none) (fun rec24 hrec24 v1 v2 σ3 => ?_) gz_fu a1 a2 σ
    unfold f_X2_behind_L24
    refine gz_iload C dX2_behind_24 2 rfl ?_
    refine gz_if_le (tgt := 53) C dX2_behind_26 (by decide) ?_ ?_
    · skip
      refine gz_iload C dX2_behind_53 1 rfl ?_
      exact gz_iret C rfl dX2_behind_55
    · skip
      refine gz_iload C dX2_behind_29 1 rfl ?_
      refine gz_sipush C dX2_behind_31 gk_sipush_10000 ?_
      refine gz_icmp_ge (tgt := 53) C dX2_behind_34 (by decide) ?_ ?_
      · skip
        refine gz_iload C dX2_behind_53 1 rfl ?_
        exact gz_iret C rfl dX2_behind_55
      · skip
        refine gz_aload_n C dX2_behind_37 0 rfl ?_
        refine gz_iload C dX2_behind_38 1 rfl ?_
        refine gz_iconst C dX2_behind_40 gk_iconst_1 ?_
        refine gz_iadd C dX2_behind_41 ?_
        refine gz_ki (gz_runV (t := 1) (ci := 2) (q := (RX2, TX2, 2)) (As := [.int (v1 + 1)]) (rest := []) C dX2_behind_42 ml_RX2_32 mw_X2_workingFrom mv_X2_workingFrom (c_X2_workingFrom l G (v1 + 1) σ3) (gz_hx1 _) rfl rfl rfl rfl rfl (Nat.le_of_ble_eq_true rfl) ⟨rfl, rfl, Nat.le_of_ble_eq_true rfl, Nat.le_of_ble_eq_true rfl, Nat.le_of_ble_eq_true rfl, Nat.le_of_ble_eq_true rfl⟩) (fun r5 σ4 => ?_)
        refine gz_istore C (lv' := [(4, .int r5), (0, .ref (gz_ad false G 1 0)), (5, .int v2)]) dX2_behind_45 (by decide) rfl ?_
        refine gz_iinc C (q := 2) (v := v2 + (-1)) (lv' := [(5, .int (v2 + (-1))), (4, .int r5), (0, .ref (gz_ad false G 1 0))]) dX2_behind_47 rfl rfl (by decide) rfl ?_
        refine gz_goto (tgt := 24) C dX2_behind_50 (by decide) ?_
        refine gz_lv (lv' := [(0, .ref (gz_ad false G 1 0)), (4, .int r5), (5, .int (v2 + (-1)))]) [2, 1, 0] rfl ?_
        exact hrec24 r5 (v2 + (-1)) σ4
  · skip
    refine gz_aload_n C dX2_behind_4 0 rfl ?_
    refine gz_iload_n C dX2_behind_5 1 rfl ?_
    refine gz_iload_n C dX2_behind_6 2 rfl ?_
    refine gz_iadd C dX2_behind_7 ?_
    refine gz_sipush C dX2_behind_8 gk_sipush_10000 ?_
    refine gz_ki (gz_runS (As := [.int (a1 + a2), .int 10000]) (rest := [.ref (gz_ad false G 1 0)]) C dX2_behind_11 ml_RX2_26 mw_J9_min_7cf53 ms_J9_min_7cf53 (c_J9_min_7cf53 l G false (a1 + a2) 10000 σ) rfl rfl (Nat.le_of_ble_eq_true rfl) ⟨rfl, rfl, Nat.le_of_ble_eq_true rfl, Nat.le_of_ble_eq_true rfl, Nat.le_of_ble_eq_true rfl, Nat.le_of_ble_eq_true rfl⟩) (fun r7 σ6 => ?_)
    refine gz_ki (gz_runV (t := 1) (ci := 2) (q := (RX2, TX2, 2)) (As := [.int r7]) (rest := []) C dX2_behind_14 ml_RX2_32 mw_X2_workingFrom mv_X2_workingFrom (c_X2_workingFrom l G r7 σ6) (gz_hx1 _) rfl rfl rfl rfl rfl (Nat.le_of_ble_eq_true rfl) ⟨rfl, rfl, Nat.le_of_ble_eq_true rfl, Nat.le_of_ble_eq_true rfl, Nat.le_of_ble_eq_true rfl, Nat.le_of_ble_eq_true rfl⟩) (fun r9 σ8 => ?_)
    exact gz_iret C rfl dX2_behind_17

def f_X3_begin (a0 : Nat) (a1 : Int64) (σ : gz_S) : Option (gz_S) :=
  gz_w (gz_sj σ 8 a0 0 a1) (fun σ1 =>
  gz_w (gz_si σ1 8 a0 1 0) (fun σ2 =>
  gz_w (gz_si σ2 8 a0 2 0) (fun σ3 =>
  gz_w (gz_si σ3 8 a0 3 0) (fun σ4 =>
  gz_w (gz_si σ4 8 a0 4 0) (fun σ5 =>
  gz_w (gz_si σ5 8 a0 6 0) (fun σ6 =>
  some σ6))))))
set_option maxHeartbeats 4000000 in
set_option maxRecDepth 100000 in
theorem c_X3_begin (l : Launch) (G : gz_G) (a0 : Nat) (a1 : Int64) (h0 : a0 < 104) (σ : gz_S) : ∀ o, f_X3_begin a0 a1 σ = some o → gz_M l false G yX3_begin cX3_begin 3 none { frames := 0, cells := 0, slots := 0, locals := 0 } [.ref (gz_ad false G 8 a0), .long a1] σ (gz_eu o) 0 0 := by
  refine gz_enter RX3 rfl (by decide) (Nat.le_of_ble_eq_true rfl) ?_
  intro p e s m args below meth c C
  refine gz_eqs (st' := []) (lv' := [(0, .ref (gz_ad false G 8 a0)), (1, .long a1)]) rfl rfl ?_
  unfold f_X3_begin
  refine gz_aload_n C dX3_begin_0 0 rfl ?_
  refine gz_lload_n C dX3_begin_1 1 rfl ?_
  refine gz_putJ C (t := 8) (k := 0) (ci := 3) (q := (RX3, TX3, 7)) dX3_begin_2 fl_RX3_15 (gz_hx8 _ h0) rfl rfl (by decide) rfl rfl rfl rfl ?_
  refine gz_w_row (fun σ1 => ?_)
  refine gz_aload_n C dX3_begin_5 0 rfl ?_
  refine gz_iconst C dX3_begin_6 gk_iconst_0 ?_
  refine gz_putI C (t := 8) (k := 1) (ci := 3) (q := (RX3, TX3, 7)) dX3_begin_7 fl_RX3_19 (gz_hx8 _ h0) rfl rfl (by decide) rfl rfl rfl rfl ?_
  refine gz_w_row (fun σ2 => ?_)
  refine gz_aload_n C dX3_begin_10 0 rfl ?_
  refine gz_iconst C dX3_begin_11 gk_iconst_0 ?_
  refine gz_putI C (t := 8) (k := 2) (ci := 3) (q := (RX3, TX3, 7)) dX3_begin_12 fl_RX3_23 (gz_hx8 _ h0) rfl rfl (by decide) rfl rfl rfl rfl ?_
  refine gz_w_row (fun σ3 => ?_)
  refine gz_aload_n C dX3_begin_15 0 rfl ?_
  refine gz_iconst C dX3_begin_16 gk_iconst_0 ?_
  refine gz_putI C (t := 8) (k := 3) (ci := 3) (q := (RX3, TX3, 7)) dX3_begin_17 fl_RX3_27 (gz_hx8 _ h0) rfl rfl (by decide) rfl rfl rfl rfl ?_
  refine gz_w_row (fun σ4 => ?_)
  refine gz_aload_n C dX3_begin_20 0 rfl ?_
  refine gz_iconst C dX3_begin_21 gk_iconst_0 ?_
  refine gz_putI C (t := 8) (k := 4) (ci := 3) (q := (RX3, TX3, 7)) dX3_begin_22 fl_RX3_30 (gz_hx8 _ h0) rfl rfl (by decide) rfl rfl rfl rfl ?_
  refine gz_w_row (fun σ5 => ?_)
  refine gz_aload_n C dX3_begin_25 0 rfl ?_
  refine gz_iconst C dX3_begin_26 gk_iconst_0 ?_
  refine gz_putI C (t := 8) (k := 6) (ci := 3) (q := (RX3, TX3, 7)) dX3_begin_27 fl_RX3_33 (gz_hx8 _ h0) rfl rfl (by decide) rfl rfl rfl rfl ?_
  refine gz_w_row (fun σ6 => ?_)
  exact gz_vret C rfl dX3_begin_30

def f_X3_isSpan (a0 : Nat) (σ : gz_S) : Option (Int32 × gz_S) :=
  if (σ.1 8 a0 1) = 4 then
  (some ((1 : Int32) &&& 1, σ))
  else
  (if (σ.1 8 a0 1) = 5 then
  (some ((1 : Int32) &&& 1, σ))
  else
  (some ((0 : Int32) &&& 1, σ)))
set_option maxHeartbeats 4000000 in
set_option maxRecDepth 100000 in
theorem c_X3_isSpan (l : Launch) (G : gz_G) (a0 : Nat) (h0 : a0 < 104) (σ : gz_S) : ∀ o, f_X3_isSpan a0 σ = some o → gz_M l false G yX3_isSpan cX3_isSpan 1 (some .boolean) { frames := 0, cells := 0, slots := 0, locals := 0 } [.ref (gz_ad false G 8 a0)] σ (gz_ei o) 0 0 := by
  refine gz_enter RX3 rfl (by decide) (Nat.le_of_ble_eq_true rfl) ?_
  intro p e s m args below meth c C
  refine gz_eqs (st' := []) (lv' := [(0, .ref (gz_ad false G 8 a0))]) rfl rfl ?_
  unfold f_X3_isSpan
  refine gz_aload_n C dX3_isSpan_0 0 rfl ?_
  refine gz_get C (t := 8) (k := 1) (ci := 3) (q := (RX3, TX3, 7)) (v := .int (σ.1 8 a0 1)) dX3_isSpan_1 fl_RX3_19 (gz_hx8 _ h0) rfl rfl (by decide) rfl ?_
  refine gz_iconst C dX3_isSpan_4 gk_iconst_4 ?_
  refine gz_icmp_eq (tgt := 16) C dX3_isSpan_5 (by decide) ?_ ?_
  · skip
    refine gz_iconst C dX3_isSpan_16 gk_iconst_1 ?_
    refine gz_goto (tgt := 21) C dX3_isSpan_17 (by decide) ?_
    exact gz_zret C rfl dX3_isSpan_21
  · skip
    refine gz_aload_n C dX3_isSpan_8 0 rfl ?_
    refine gz_get C (t := 8) (k := 1) (ci := 3) (q := (RX3, TX3, 7)) (v := .int (σ.1 8 a0 1)) dX3_isSpan_9 fl_RX3_19 (gz_hx8 _ h0) rfl rfl (by decide) rfl ?_
    refine gz_iconst C dX3_isSpan_12 gk_iconst_5 ?_
    refine gz_icmp_ne (tgt := 20) C dX3_isSpan_13 (by decide) ?_ ?_
    · skip
      refine gz_iconst C dX3_isSpan_20 gk_iconst_0 ?_
      exact gz_zret C rfl dX3_isSpan_21
    · skip
      refine gz_iconst C dX3_isSpan_16 gk_iconst_1 ?_
      refine gz_goto (tgt := 21) C dX3_isSpan_17 (by decide) ?_
      exact gz_zret C rfl dX3_isSpan_21

def f_X3_hasDay (a0 : Nat) (σ : gz_S) : Option (Int32 × gz_S) :=
  if (σ.1 8 a0 1) = 1 then
  (some ((1 : Int32) &&& 1, σ))
  else
  (gz_call (f_X3_isSpan a0 σ) (fun r2 σ1 =>
  if r2 = 0 then
  (some ((0 : Int32) &&& 1, σ1))
  else
  (some ((1 : Int32) &&& 1, σ1))))
set_option maxHeartbeats 4000000 in
set_option maxRecDepth 100000 in
theorem c_X3_hasDay (l : Launch) (G : gz_G) (a0 : Nat) (h0 : a0 < 104) (σ : gz_S) : ∀ o, f_X3_hasDay a0 σ = some o → gz_M l false G yX3_hasDay cX3_hasDay 1 (some .boolean) { frames := 1, cells := 0, slots := 0, locals := 20 } [.ref (gz_ad false G 8 a0)] σ (gz_ei o) 0 0 := by
  refine gz_enter RX3 rfl (by decide) (Nat.le_of_ble_eq_true rfl) ?_
  intro p e s m args below meth c C
  refine gz_eqs (st' := []) (lv' := [(0, .ref (gz_ad false G 8 a0))]) rfl rfl ?_
  unfold f_X3_hasDay
  refine gz_aload_n C dX3_hasDay_0 0 rfl ?_
  refine gz_get C (t := 8) (k := 1) (ci := 3) (q := (RX3, TX3, 7)) (v := .int (σ.1 8 a0 1)) dX3_hasDay_1 fl_RX3_19 (gz_hx8 _ h0) rfl rfl (by decide) rfl ?_
  refine gz_iconst C dX3_hasDay_4 gk_iconst_1 ?_
  refine gz_icmp_eq (tgt := 15) C dX3_hasDay_5 (by decide) ?_ ?_
  · skip
    refine gz_iconst C dX3_hasDay_15 gk_iconst_1 ?_
    refine gz_goto (tgt := 20) C dX3_hasDay_16 (by decide) ?_
    exact gz_zret C rfl dX3_hasDay_20
  · skip
    refine gz_aload_n C dX3_hasDay_8 0 rfl ?_
    refine gz_ki (gz_runV (t := 8) (ci := 3) (q := (RX3, TX3, 7)) (As := []) (rest := []) C dX3_hasDay_9 ml_RX3_36 mw_X3_isSpan mv_X3_isSpan (c_X3_isSpan l G a0 h0 σ) (gz_hx8 _ h0) rfl rfl rfl rfl rfl (Nat.le_of_ble_eq_true rfl) ⟨rfl, rfl, Nat.le_of_ble_eq_true rfl, Nat.le_of_ble_eq_true rfl, Nat.le_of_ble_eq_true rfl, Nat.le_of_ble_eq_true rfl⟩) (fun r2 σ1 => ?_)
    refine gz_if_eq (tgt := 19) C dX3_hasDay_12 (by decide) ?_ ?_
    · skip
      refine gz_iconst C dX3_hasDay_19 gk_iconst_0 ?_
      exact gz_zret C rfl dX3_hasDay_20
    · skip
      refine gz_iconst C dX3_hasDay_15 gk_iconst_1 ?_
      refine gz_goto (tgt := 20) C dX3_hasDay_16 (by decide) ?_
      exact gz_zret C rfl dX3_hasDay_20

def f_X3_placeOf_L2 (a0 : Nat) (a1 : Int64) : (Int32 → gz_S → Option (Int32 × gz_S)) → Int32 → gz_S → Option (Int32 × gz_S) := fun rec2 v1 σ2 =>
  if (σ2.1 8 a0 6) ≤ v1 then
  (some ((-1), σ2))
  else
  (gz_ix v1 4 (fun n3 =>
  if (lg_cmp (σ2.2.1 9 a0 n3) a1) = 0 then
  (some (v1, σ2))
  else
  (rec2 (v1 + 1) σ2)))
def f_X3_placeOf (a0 : Nat) (a1 : Int64) (σ : gz_S) : Option (Int32 × gz_S) :=
  gz_l1 (f_X3_placeOf_L2 a0 a1) gz_fu 0 σ
set_option maxHeartbeats 4000000 in
set_option maxRecDepth 100000 in
theorem c_X3_placeOf (l : Launch) (G : gz_G) (a0 : Nat) (a1 : Int64) (h0 : a0 < 104) (σ : gz_S) : ∀ o, f_X3_placeOf a0 a1 σ = some o → gz_M l false G yX3_placeOf cX3_placeOf 4 (some .int) { frames := 0, cells := 0, slots := 0, locals := 0 } [.ref (gz_ad false G 8 a0), .long a1] σ (gz_ei o) 0 0 := by
  refine gz_enter RX3 rfl (by decide) (Nat.le_of_ble_eq_true rfl) ?_
  intro p e s m args below meth c C
  refine gz_eqs (st' := []) (lv' := [(0, .ref (gz_ad false G 8 a0)), (1, .long a1)]) rfl rfl ?_
  unfold f_X3_placeOf
  refine gz_iconst C dX3_placeOf_0 gk_iconst_0 ?_
  refine gz_istore_n C (lv' := [(3, .int 0), (0, .ref (gz_ad false G 8 a0)), (1, .long a1)]) dX3_placeOf_1 (by decide) rfl ?_
  refine gz_lv (lv' := [(0, .ref (gz_ad false G 8 a0)), (1, .long a1), (3, .int 0)]) [1, 2, 0] rfl ?_
  refine gz_l1_ind (P := fun v1 σ2 x => gz_W false p l e ({ frames := 0, cells := 0, slots := 0, locals := 0 } : Room) s m args below meth c G 4 (gz_Q false G below args s 0 0 gz_ei) 0 0 σ2 2 [(0, .ref (gz_ad false G 8 a0)), (1, .long a1), (3, .int v1)] [] x) (fun _ _ => gz_none) (fun rec2 hrec2 v1 σ2 => ?_) gz_fu 0 σ
  unfold f_X3_placeOf_L2
  refine gz_iload_n C dX3_placeOf_2 2 rfl ?_
  refine gz_aload_n C dX3_placeOf_3 0 rfl ?_
  refine gz_get C (t := 8) (k := 6) (ci := 3) (q := (RX3, TX3, 7)) (v := .int (σ2.1 8 a0 6)) dX3_placeOf_4 fl_RX3_33 (gz_hx8 _ h0) rfl rfl (by decide) rfl ?_
  refine gz_icmp_ge (tgt := 29) C dX3_placeOf_7 (by decide) ?_ ?_
  · skip
    refine gz_iconst C dX3_placeOf_29 gk_iconst_m1 ?_
    exact gz_iret C rfl dX3_placeOf_30
  · skip
    refine gz_aload_n C dX3_placeOf_10 0 rfl ?_
    refine gz_get C (t := 8) (k := 5) (ci := 3) (q := (RX3, TX3, 7)) (v := .ref (gz_ad false G 9 a0)) dX3_placeOf_11 fl_RX3_9 (gz_hx8 _ h0) rfl rfl (by decide) rfl ?_
    refine gz_iload_n C dX3_placeOf_14 2 rfl ?_
    refine gz_lald C (t := 9) dX3_placeOf_15 (gz_hx9 _ h0) rfl (fun n3 hn3 => ?_)
    refine gz_lload_n C dX3_placeOf_16 1 rfl ?_
    refine gz_lcmp C dX3_placeOf_17 ?_
    refine gz_if_ne (tgt := 23) C dX3_placeOf_18 (by decide) ?_ ?_
    · skip
      refine gz_iinc C (q := 2) (v := v1 + 1) (lv' := [(3, .int (v1 + 1)), (0, .ref (gz_ad false G 8 a0)), (1, .long a1)]) dX3_placeOf_23 rfl rfl (by decide) rfl ?_
      refine gz_goto (tgt := 2) C dX3_placeOf_26 (by decide) ?_
      refine gz_lv (lv' := [(0, .ref (gz_ad false G 8 a0)), (1, .long a1), (3, .int (v1 + 1))]) [1, 2, 0] rfl ?_
      exact hrec2 (v1 + 1) σ2
    · skip
      refine gz_iload_n C dX3_placeOf_21 2 rfl ?_
      exact gz_iret C rfl dX3_placeOf_22

def f_X8_fail (a1 : Int32) (σ : gz_S) : Option (Int32 × gz_S) :=
  gz_w (gz_si σ 3 0 8 a1) (fun σ1 =>
  gz_w (gz_si σ1 3 0 9 (σ1.1 3 0 5)) (fun σ2 =>
  some ((0 : Int32) &&& 1, σ2)))
set_option maxHeartbeats 4000000 in
set_option maxRecDepth 100000 in
theorem c_X8_fail (l : Launch) (G : gz_G) (a1 : Int32) (σ : gz_S) : ∀ o, f_X8_fail a1 σ = some o → gz_M l false G yX8_fail cX8_fail 2 (some .boolean) { frames := 0, cells := 0, slots := 0, locals := 0 } [.ref (gz_ad false G 3 0), .int a1] σ (gz_ei o) 0 0 := by
  refine gz_enter RX8 rfl (by decide) (Nat.le_of_ble_eq_true rfl) ?_
  intro p e s m args below meth c C
  refine gz_eqs (st' := []) (lv' := [(0, .ref (gz_ad false G 3 0)), (1, .int a1)]) rfl rfl ?_
  unfold f_X8_fail
  refine gz_aload_n C dX8_fail_0 0 rfl ?_
  refine gz_iload_n C dX8_fail_1 1 rfl ?_
  refine gz_putI C (t := 3) (k := 8) (ci := 8) (q := (RX8, TX8, 11)) dX8_fail_2 fl_RX8_34 (gz_hx3 _) rfl rfl (by decide) rfl rfl rfl rfl ?_
  refine gz_w_row (fun σ1 => ?_)
  refine gz_aload_n C dX8_fail_5 0 rfl ?_
  refine gz_aload_n C dX8_fail_6 0 rfl ?_
  refine gz_get C (t := 3) (k := 5) (ci := 8) (q := (RX8, TX8, 11)) (v := .int (σ1.1 3 0 5)) dX8_fail_7 fl_RX8_40 (gz_hx3 _) rfl rfl (by decide) rfl ?_
  refine gz_putI C (t := 3) (k := 9) (ci := 8) (q := (RX8, TX8, 11)) dX8_fail_10 fl_RX8_43 (gz_hx3 _) rfl rfl (by decide) rfl rfl rfl rfl ?_
  refine gz_w_row (fun σ2 => ?_)
  refine gz_iconst C dX8_fail_13 gk_iconst_0 ?_
  exact gz_zret C rfl dX8_fail_14

def f_X8_readRun_L3 (a1 : Int32) (a2 : Int32) (a3 : Int32) (a4 : Int32) : (Int64 → gz_S → Option (Int64 × gz_S)) → Int64 → gz_S → Option (Int64 × gz_S) := fun rec3 v1 σ2 =>
  if (σ2.1 3 0 2) ≤ (σ2.1 3 0 3) then
  (some (v1, σ2))
  else
  (gz_ix (σ2.1 3 0 3) 400 (fun n3 =>
  if (σ2.1 4 0 n3) < a1 then
  (some (v1, σ2))
  else
  (gz_ix (σ2.1 3 0 3) 400 (fun n4 =>
  if a2 < (σ2.1 4 0 n4) then
  (some (v1, σ2))
  else
  (gz_ix (σ2.1 3 0 3) 400 (fun n5 =>
  gz_v (((v1 * ((a3 : Int32).toInt64)) + ((σ2.1 4 0 n5 : Int32).toInt64)) - ((a4 : Int32).toInt64)) (fun v6 =>
  gz_w (gz_si σ2 3 0 3 ((σ2.1 3 0 3) + 1)) (fun σ7 =>
  rec3 v6 σ7))))))))
def f_X8_readRun (a1 : Int32) (a2 : Int32) (a3 : Int32) (a4 : Int32) (σ : gz_S) : Option (Int64 × gz_S) :=
  gz_l1 (f_X8_readRun_L3 a1 a2 a3 a4) gz_fu 0 σ
set_option maxHeartbeats 4000000 in
set_option maxRecDepth 100000 in
theorem c_X8_readRun (l : Launch) (G : gz_G) (a1 : Int32) (a2 : Int32) (a3 : Int32) (a4 : Int32) (σ : gz_S) : ∀ o, f_X8_readRun a1 a2 a3 a4 σ = some o → gz_M l false G yX8_readRun cX8_readRun 7 (some .long) { frames := 0, cells := 0, slots := 0, locals := 0 } [.ref (gz_ad false G 3 0), .int a1, .int a2, .int a3, .int a4] σ (gz_el o) 0 0 := by
  refine gz_enter RX8 rfl (by decide) (Nat.le_of_ble_eq_true rfl) ?_
  intro p e s m args below meth c C
  refine gz_eqs (st' := []) (lv' := [(0, .ref (gz_ad false G 3 0)), (1, .int a1), (2, .int a2), (3, .int a3), (4, .int a4)]) rfl rfl ?_
  unfold f_X8_readRun
  refine gz_lconst C dX8_readRun_0 gk_lconst_0 ?_
  refine gz_lstore C (lv' := [(5, .long 0), (0, .ref (gz_ad false G 3 0)), (1, .int a1), (2, .int a2), (3, .int a3), (4, .int a4)]) dX8_readRun_1 (by decide) rfl ?_
  refine gz_lv (lv' := [(0, .ref (gz_ad false G 3 0)), (1, .int a1), (2, .int a2), (3, .int a3), (4, .int a4), (5, .long 0)]) [1, 2, 3, 4, 5, 0] rfl ?_
  refine gz_l1_ind (P := fun v1 σ2 x => gz_W false p l e ({ frames := 0, cells := 0, slots := 0, locals := 0 } : Room) s m args below meth c G 7 (gz_Q false G below args s 0 0 gz_el) 0 0 σ2 3 [(0, .ref (gz_ad false G 3 0)), (1, .int a1), (2, .int a2), (3, .int a3), (4, .int a4), (5, .long v1)] [] x) (fun _ _ => gz_none) (fun rec3 hrec3 v1 σ2 => ?_) gz_fu 0 σ
  unfold f_X8_readRun_L3
  refine gz_aload_n C dX8_readRun_3 0 rfl ?_
  refine gz_get C (t := 3) (k := 3) (ci := 8) (q := (RX8, TX8, 11)) (v := .int (σ2.1 3 0 3)) dX8_readRun_4 fl_RX8_31 (gz_hx3 _) rfl rfl (by decide) rfl ?_
  refine gz_aload_n C dX8_readRun_7 0 rfl ?_
  refine gz_get C (t := 3) (k := 2) (ci := 8) (q := (RX8, TX8, 11)) (v := .int (σ2.1 3 0 2)) dX8_readRun_8 fl_RX8_28 (gz_hx3 _) rfl rfl (by decide) rfl ?_
  refine gz_icmp_ge (tgt := 75) C dX8_readRun_11 (by decide) ?_ ?_
  · skip
    refine gz_lload C dX8_readRun_75 5 rfl ?_
    exact gz_lret C rfl dX8_readRun_77
  · skip
    refine gz_aload_n C dX8_readRun_14 0 rfl ?_
    refine gz_get C (t := 3) (k := 0) (ci := 8) (q := (RX8, TX8, 11)) (v := .ref (gz_ad false G 4 0)) dX8_readRun_15 fl_RX8_9 (gz_hx3 _) rfl rfl (by decide) rfl ?_
    refine gz_aload_n C dX8_readRun_18 0 rfl ?_
    refine gz_get C (t := 3) (k := 3) (ci := 8) (q := (RX8, TX8, 11)) (v := .int (σ2.1 3 0 3)) dX8_readRun_19 fl_RX8_31 (gz_hx3 _) rfl rfl (by decide) rfl ?_
    refine gz_bald C (t := 4) dX8_readRun_22 (gz_hx4 _) rfl (fun n3 hn3 => ?_)
    refine gz_iload_n C dX8_readRun_23 1 rfl ?_
    refine gz_icmp_lt (tgt := 75) C dX8_readRun_24 (by decide) ?_ ?_
    · skip
      refine gz_lload C dX8_readRun_75 5 rfl ?_
      exact gz_lret C rfl dX8_readRun_77
    · skip
      refine gz_aload_n C dX8_readRun_27 0 rfl ?_
      refine gz_get C (t := 3) (k := 0) (ci := 8) (q := (RX8, TX8, 11)) (v := .ref (gz_ad false G 4 0)) dX8_readRun_28 fl_RX8_9 (gz_hx3 _) rfl rfl (by decide) rfl ?_
      refine gz_aload_n C dX8_readRun_31 0 rfl ?_
      refine gz_get C (t := 3) (k := 3) (ci := 8) (q := (RX8, TX8, 11)) (v := .int (σ2.1 3 0 3)) dX8_readRun_32 fl_RX8_31 (gz_hx3 _) rfl rfl (by decide) rfl ?_
      refine gz_bald C (t := 4) dX8_readRun_35 (gz_hx4 _) rfl (fun n4 hn4 => ?_)
      refine gz_iload_n C dX8_readRun_36 2 rfl ?_
      refine gz_icmp_gt (tgt := 75) C dX8_readRun_37 (by decide) ?_ ?_
      · skip
        refine gz_lload C dX8_readRun_75 5 rfl ?_
        exact gz_lret C rfl dX8_readRun_77
      · skip
        refine gz_lload C dX8_readRun_40 5 rfl ?_
        refine gz_iload_n C dX8_readRun_42 3 rfl ?_
        refine gz_i2l C dX8_readRun_43 ?_
        refine gz_lmul C dX8_readRun_44 ?_
        refine gz_aload_n C dX8_readRun_45 0 rfl ?_
        refine gz_get C (t := 3) (k := 0) (ci := 8) (q := (RX8, TX8, 11)) (v := .ref (gz_ad false G 4 0)) dX8_readRun_46 fl_RX8_9 (gz_hx3 _) rfl rfl (by decide) rfl ?_
        refine gz_aload_n C dX8_readRun_49 0 rfl ?_
        refine gz_get C (t := 3) (k := 3) (ci := 8) (q := (RX8, TX8, 11)) (v := .int (σ2.1 3 0 3)) dX8_readRun_50 fl_RX8_31 (gz_hx3 _) rfl rfl (by decide) rfl ?_
        refine gz_bald C (t := 4) dX8_readRun_53 (gz_hx4 _) rfl (fun n5 hn5 => ?_)
        refine gz_i2l C dX8_readRun_54 ?_
        refine gz_ladd C dX8_readRun_55 ?_
        refine gz_iload C dX8_readRun_56 4 rfl ?_
        refine gz_i2l C dX8_readRun_58 ?_
        refine gz_lsub C dX8_readRun_59 ?_
        refine gz_topJ (fun v6 => ?_)
        refine gz_lstore C (lv' := [(5, .long v6), (0, .ref (gz_ad false G 3 0)), (1, .int a1), (2, .int a2), (3, .int a3), (4, .int a4)]) dX8_readRun_60 (by decide) rfl ?_
        refine gz_aload_n C dX8_readRun_62 1 rfl ?_
        refine gz_dup C dX8_readRun_63 rfl ?_
        refine gz_get C (t := 3) (k := 3) (ci := 8) (q := (RX8, TX8, 11)) (v := .int (σ2.1 3 0 3)) dX8_readRun_64 fl_RX8_31 (gz_hx3 _) rfl rfl (by decide) rfl ?_
        refine gz_iconst C dX8_readRun_67 gk_iconst_1 ?_
        refine gz_iadd C dX8_readRun_68 ?_
        refine gz_putI C (t := 3) (k := 3) (ci := 8) (q := (RX8, TX8, 11)) dX8_readRun_69 fl_RX8_31 (gz_hx3 _) rfl rfl (by decide) rfl rfl rfl rfl ?_
        refine gz_w_row (fun σ7 => ?_)
        refine gz_goto (tgt := 3) C dX8_readRun_72 (by decide) ?_
        refine gz_lv (lv' := [(0, .ref (gz_ad false G 3 0)), (1, .int a1), (2, .int a2), (3, .int a3), (4, .int a4), (5, .long v6)]) [1, 2, 3, 4, 5, 0] rfl ?_
        exact hrec3 v6 σ7

def f_X8_readSign (σ : gz_S) : Option (Int32 × gz_S) :=
  if (σ.1 3 0 3) < (σ.1 3 0 2) then
  (gz_ix (σ.1 3 0 3) 400 (fun n1 =>
  gz_v (σ.1 4 0 n1) (fun v2 =>
  gz_w (gz_si σ 3 0 3 ((σ.1 3 0 3) + 1)) (fun σ3 =>
  if v2 = 58 then
  (some (v2, σ3))
  else
  (if v2 = 59 then
  (some (v2, σ3))
  else
  (if v2 = 63 then
  (some (v2, σ3))
  else
  (if v2 = 47 then
  (some (v2, σ3))
  else
  (if v2 = 61 then
  (some (v2, σ3))
  else
  (if v2 = 46 then
  (if (σ3.1 3 0 2) ≤ (σ3.1 3 0 3) then
  (some (4, σ3))
  else
  (gz_ix (σ3.1 3 0 3) 400 (fun n4 =>
  if (σ3.1 4 0 n4) = 46 then
  (gz_w (gz_si σ3 3 0 3 ((σ3.1 3 0 3) + 1)) (fun σ5 =>
  some (3, σ5)))
  else
  (some (4, σ3)))))
  else
  (some (4, σ3)))))))))))
  else
  (some (0, σ))
set_option maxHeartbeats 4000000 in
set_option maxRecDepth 100000 in
theorem c_X8_readSign (l : Launch) (G : gz_G) (σ : gz_S) : ∀ o, f_X8_readSign σ = some o → gz_M l false G yX8_readSign cX8_readSign 2 (some .int) { frames := 0, cells := 0, slots := 0, locals := 0 } [.ref (gz_ad false G 3 0)] σ (gz_ei o) 0 0 := by
  refine gz_enter RX8 rfl (by decide) (Nat.le_of_ble_eq_true rfl) ?_
  intro p e s m args below meth c C
  refine gz_eqs (st' := []) (lv' := [(0, .ref (gz_ad false G 3 0))]) rfl rfl ?_
  unfold f_X8_readSign
  refine gz_aload_n C dX8_readSign_0 0 rfl ?_
  refine gz_get C (t := 3) (k := 3) (ci := 8) (q := (RX8, TX8, 11)) (v := .int (σ.1 3 0 3)) dX8_readSign_1 fl_RX8_31 (gz_hx3 _) rfl rfl (by decide) rfl ?_
  refine gz_aload_n C dX8_readSign_4 0 rfl ?_
  refine gz_get C (t := 3) (k := 2) (ci := 8) (q := (RX8, TX8, 11)) (v := .int (σ.1 3 0 2)) dX8_readSign_5 fl_RX8_28 (gz_hx3 _) rfl rfl (by decide) rfl ?_
  refine gz_icmp_lt (tgt := 13) C dX8_readSign_8 (by decide) ?_ ?_
  · skip
    refine gz_aload_n C dX8_readSign_13 0 rfl ?_
    refine gz_get C (t := 3) (k := 0) (ci := 8) (q := (RX8, TX8, 11)) (v := .ref (gz_ad false G 4 0)) dX8_readSign_14 fl_RX8_9 (gz_hx3 _) rfl rfl (by decide) rfl ?_
    refine gz_aload_n C dX8_readSign_17 0 rfl ?_
    refine gz_get C (t := 3) (k := 3) (ci := 8) (q := (RX8, TX8, 11)) (v := .int (σ.1 3 0 3)) dX8_readSign_18 fl_RX8_31 (gz_hx3 _) rfl rfl (by decide) rfl ?_
    refine gz_bald C (t := 4) dX8_readSign_21 (gz_hx4 _) rfl (fun n1 hn1 => ?_)
    refine gz_topI (fun v2 => ?_)
    refine gz_istore_n C (lv' := [(1, .int v2), (0, .ref (gz_ad false G 3 0))]) dX8_readSign_22 (by decide) rfl ?_
    refine gz_aload_n C dX8_readSign_23 1 rfl ?_
    refine gz_dup C dX8_readSign_24 rfl ?_
    refine gz_get C (t := 3) (k := 3) (ci := 8) (q := (RX8, TX8, 11)) (v := .int (σ.1 3 0 3)) dX8_readSign_25 fl_RX8_31 (gz_hx3 _) rfl rfl (by decide) rfl ?_
    refine gz_iconst C dX8_readSign_28 gk_iconst_1 ?_
    refine gz_iadd C dX8_readSign_29 ?_
    refine gz_putI C (t := 3) (k := 3) (ci := 8) (q := (RX8, TX8, 11)) dX8_readSign_30 fl_RX8_31 (gz_hx3 _) rfl rfl (by decide) rfl rfl rfl rfl ?_
    refine gz_w_row (fun σ3 => ?_)
    refine gz_iload_n C dX8_readSign_33 0 rfl ?_
    refine gz_bipush C dX8_readSign_34 gk_bipush_58 ?_
    refine gz_icmp_eq (tgt := 63) C dX8_readSign_36 (by decide) ?_ ?_
    · skip
      refine gz_iload_n C dX8_readSign_63 0 rfl ?_
      exact gz_iret C rfl dX8_readSign_64
    · skip
      refine gz_iload_n C dX8_readSign_39 0 rfl ?_
      refine gz_bipush C dX8_readSign_40 gk_bipush_59 ?_
      refine gz_icmp_eq (tgt := 63) C dX8_readSign_42 (by decide) ?_ ?_
      · skip
        refine gz_iload_n C dX8_readSign_63 0 rfl ?_
        exact gz_iret C rfl dX8_readSign_64
      · skip
        refine gz_iload_n C dX8_readSign_45 0 rfl ?_
        refine gz_bipush C dX8_readSign_46 gk_bipush_63 ?_
        refine gz_icmp_eq (tgt := 63) C dX8_readSign_48 (by decide) ?_ ?_
        · skip
          refine gz_iload_n C dX8_readSign_63 0 rfl ?_
          exact gz_iret C rfl dX8_readSign_64
        · skip
          refine gz_iload_n C dX8_readSign_51 0 rfl ?_
          refine gz_bipush C dX8_readSign_52 gk_bipush_47 ?_
          refine gz_icmp_eq (tgt := 63) C dX8_readSign_54 (by decide) ?_ ?_
          · skip
            refine gz_iload_n C dX8_readSign_63 0 rfl ?_
            exact gz_iret C rfl dX8_readSign_64
          · skip
            refine gz_iload_n C dX8_readSign_57 0 rfl ?_
            refine gz_bipush C dX8_readSign_58 gk_bipush_61 ?_
            refine gz_icmp_ne (tgt := 65) C dX8_readSign_60 (by decide) ?_ ?_
            · skip
              refine gz_iload_n C dX8_readSign_65 0 rfl ?_
              refine gz_bipush C dX8_readSign_66 gk_bipush_46 ?_
              refine gz_icmp_ne (tgt := 108) C dX8_readSign_68 (by decide) ?_ ?_
              · skip
                refine gz_iconst C dX8_readSign_108 gk_iconst_4 ?_
                exact gz_iret C rfl dX8_readSign_109
              · skip
                refine gz_aload_n C dX8_readSign_71 1 rfl ?_
                refine gz_get C (t := 3) (k := 3) (ci := 8) (q := (RX8, TX8, 11)) (v := .int (σ3.1 3 0 3)) dX8_readSign_72 fl_RX8_31 (gz_hx3 _) rfl rfl (by decide) rfl ?_
                refine gz_aload_n C dX8_readSign_75 1 rfl ?_
                refine gz_get C (t := 3) (k := 2) (ci := 8) (q := (RX8, TX8, 11)) (v := .int (σ3.1 3 0 2)) dX8_readSign_76 fl_RX8_28 (gz_hx3 _) rfl rfl (by decide) rfl ?_
                refine gz_icmp_ge (tgt := 108) C dX8_readSign_79 (by decide) ?_ ?_
                · skip
                  refine gz_iconst C dX8_readSign_108 gk_iconst_4 ?_
                  exact gz_iret C rfl dX8_readSign_109
                · skip
                  refine gz_aload_n C dX8_readSign_82 1 rfl ?_
                  refine gz_get C (t := 3) (k := 0) (ci := 8) (q := (RX8, TX8, 11)) (v := .ref (gz_ad false G 4 0)) dX8_readSign_83 fl_RX8_9 (gz_hx3 _) rfl rfl (by decide) rfl ?_
                  refine gz_aload_n C dX8_readSign_86 1 rfl ?_
                  refine gz_get C (t := 3) (k := 3) (ci := 8) (q := (RX8, TX8, 11)) (v := .int (σ3.1 3 0 3)) dX8_readSign_87 fl_RX8_31 (gz_hx3 _) rfl rfl (by decide) rfl ?_
                  refine gz_bald C (t := 4) dX8_readSign_90 (gz_hx4 _) rfl (fun n4 hn4 => ?_)
                  refine gz_bipush C dX8_readSign_91 gk_bipush_46 ?_
                  refine gz_icmp_ne (tgt := 108) C dX8_readSign_93 (by decide) ?_ ?_
                  · skip
                    refine gz_iconst C dX8_readSign_108 gk_iconst_4 ?_
                    exact gz_iret C rfl dX8_readSign_109
                  · skip
                    refine gz_aload_n C dX8_readSign_96 1 rfl ?_
                    refine gz_dup C dX8_readSign_97 rfl ?_
                    refine gz_get C (t := 3) (k := 3) (ci := 8) (q := (RX8, TX8, 11)) (v := .int (σ3.1 3 0 3)) dX8_readSign_98 fl_RX8_31 (gz_hx3 _) rfl rfl (by decide) rfl ?_
                    refine gz_iconst C dX8_readSign_101 gk_iconst_1 ?_
                    refine gz_iadd C dX8_readSign_102 ?_
                    refine gz_putI C (t := 3) (k := 3) (ci := 8) (q := (RX8, TX8, 11)) dX8_readSign_103 fl_RX8_31 (gz_hx3 _) rfl rfl (by decide) rfl rfl rfl rfl ?_
                    refine gz_w_row (fun σ5 => ?_)
                    refine gz_iconst C dX8_readSign_106 gk_iconst_3 ?_
                    exact gz_iret C rfl dX8_readSign_107
            · skip
              refine gz_iload_n C dX8_readSign_63 0 rfl ?_
              exact gz_iret C rfl dX8_readSign_64
  · skip
    refine gz_iconst C dX8_readSign_11 gk_iconst_0 ?_
    exact gz_iret C rfl dX8_readSign_12
