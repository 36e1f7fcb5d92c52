theorem gz_hx0 (n : Nat) : 0 < gz_ct false n 0 := Nat.zero_lt_one
theorem gz_hx1 (n : Nat) : 0 < gz_ct false n 1 := Nat.zero_lt_one
theorem gz_hx2 (n : Nat) : 0 < gz_ct false n 2 := Nat.zero_lt_one
theorem gz_hx3 (n : Nat) : 0 < gz_ct false n 3 := Nat.zero_lt_one
theorem gz_hx4 (n : Nat) : 0 < gz_ct false n 4 := Nat.zero_lt_one
theorem gz_hx5 (n : Nat) : 0 < gz_ct false n 5 := Nat.zero_lt_one
theorem gz_hx6 (n : Nat) {i : Nat} (h : i < 13) : i < gz_ct false n 6 := h
theorem gz_hx7 (n : Nat) {i : Nat} (h : i < 13) : i < gz_ct false n 7 := h
theorem gz_hx8 (n : Nat) {i : Nat} (h : i < 104) : i < gz_ct false n 8 := h
theorem gz_hx9 (n : Nat) {i : Nat} (h : i < 104) : i < gz_ct false n 9 := h
theorem gz_hx10 (n : Nat) : 0 < gz_ct false n 10 := Nat.zero_lt_one
theorem gz_hx11 (n : Nat) : 0 < gz_ct false n 11 := Nat.zero_lt_one
theorem gz_hx12 (n : Nat) : 0 < gz_ct false n 12 := Nat.zero_lt_one
theorem gz_hx13 (n : Nat) : 0 < gz_ct false n 13 := Nat.zero_lt_one
theorem gz_hx14 (n : Nat) {i : Nat} (h : i < 61) : i < gz_ct false n 14 := h
theorem gz_hx15 (n : Nat) {i : Nat} (h : i < 61) : i < gz_ct false n 15 := h
theorem gz_hx16 (n : Nat) {i : Nat} (h : i < 61) : i < gz_ct false n 16 := h
theorem gz_hx17 (n : Nat) {i : Nat} (h : i < 61) : i < gz_ct false n 17 := h
theorem gz_hx18 (n : Nat) {i : Nat} (h : i < 61) : i < gz_ct false n 18 := h
theorem gz_hx19 (n : Nat) : 0 < gz_ct false n 19 := Nat.zero_lt_one
theorem gz_hx20 (n : Nat) {i : Nat} (h : i < 40) : i < gz_ct false n 20 := h
theorem gz_hx21 (n : Nat) {i : Nat} (h : i < 40) : i < gz_ct false n 21 := h
theorem gz_hx22 (n : Nat) : 0 < gz_ct false n 22 := Nat.zero_lt_one
theorem gz_hx23 (n : Nat) : 0 < gz_ct false n 23 := Nat.zero_lt_one
theorem gz_hx24 (n : Nat) : 0 < gz_ct false n 24 := Nat.zero_lt_one
theorem gz_hx25 (n : Nat) : 0 < gz_ct false n 25 := Nat.zero_lt_one
theorem gz_hx26 (n : Nat) : 0 < gz_ct false n 26 := Nat.zero_lt_one
theorem gz_hx27 (n : Nat) : 0 < gz_ct false n 27 := Nat.zero_lt_one
theorem gz_hx28 (n : Nat) : 0 < gz_ct false n 28 := Nat.zero_lt_one
theorem gz_hx29 (n : Nat) : 0 < gz_ct false n 29 := Nat.zero_lt_one
theorem gz_hx30 (n : Nat) : 0 < gz_ct false n 30 := Nat.zero_lt_one
theorem gz_hm0 (n : Nat) : 0 < gz_ct true n 0 := Nat.zero_lt_one
theorem gz_hm1 (n : Nat) : 0 < gz_ct true n 1 := Nat.zero_lt_one
theorem gz_hm2 (n : Nat) : 0 < gz_ct true n 2 := Nat.zero_lt_one
theorem gz_hm3 (n : Nat) : 0 < gz_ct true n 3 := Nat.zero_lt_one
theorem gz_hm4 (n : Nat) : 0 < gz_ct true n 4 := Nat.zero_lt_one
theorem gz_hm5 (n : Nat) : 0 < gz_ct true n 5 := Nat.zero_lt_one
theorem gz_hm6 (n : Nat) : 0 < gz_ct true n 6 := Nat.zero_lt_one
theorem gz_hm7 (n : Nat) : 0 < gz_ct true n 7 := Nat.zero_lt_one
theorem gz_hm8 (n : Nat) : 0 < gz_ct true n 8 := Nat.zero_lt_one
theorem gz_hm9 (n : Nat) : 0 < gz_ct true n 9 := Nat.zero_lt_one
theorem gz_hm10 (n : Nat) : 0 < gz_ct true n 10 := Nat.zero_lt_one
theorem gz_hm11 (n : Nat) : 0 < gz_ct true n 11 := Nat.zero_lt_one
theorem gz_hm12 (n : Nat) : 0 < gz_ct true n 12 := Nat.zero_lt_one
theorem gz_hm13 (n : Nat) : 0 < gz_ct true n 13 := Nat.zero_lt_one
theorem gz_hm14 (n : Nat) : 0 < gz_ct true n 14 := Nat.zero_lt_one
theorem gz_hm15 (n : Nat) : 0 < gz_ct true n 15 := Nat.zero_lt_one
theorem gz_hm16 (n : Nat) : 0 < gz_ct true n 16 := Nat.zero_lt_one
theorem gz_hm17 (n : Nat) : 0 < gz_ct true n 17 := Nat.zero_lt_one
theorem gz_hm18 (n : Nat) : 0 < gz_ct true n 18 := Nat.zero_lt_one
theorem gz_hm19 (n : Nat) : 0 < gz_ct true n 19 := Nat.zero_lt_one
theorem gz_hm20 (n : Nat) : 0 < gz_ct true n 20 := Nat.zero_lt_one
theorem gz_hm21 (n : Nat) : 0 < gz_ct true n 21 := Nat.zero_lt_one
theorem gz_hm22 (n : Nat) : 0 < gz_ct true n 22 := Nat.zero_lt_one
theorem gz_hm23 (n : Nat) : 0 < gz_ct true n 23 := Nat.zero_lt_one
theorem gz_hm24 (n : Nat) : 0 < gz_ct true n 24 := Nat.zero_lt_one
theorem gz_hm25 (n : Nat) : 0 < gz_ct true n 25 := Nat.zero_lt_one
theorem gz_hm26 (n : Nat) : 0 < gz_ct true n 26 := Nat.zero_lt_one
theorem gz_hm27 (n : Nat) : 0 < gz_ct true n 27 := Nat.zero_lt_one
theorem gz_hm28 (n : Nat) : 0 < gz_ct true n 28 := Nat.zero_lt_one
theorem gz_hm29 (n : Nat) : 0 < gz_ct true n 29 := Nat.zero_lt_one
theorem gz_hm30 (n : Nat) : 0 < gz_ct true n 30 := Nat.zero_lt_one
theorem gz_hm31 (n : Nat) : 0 < gz_ct true n 31 := Nat.zero_lt_one
theorem gz_hm32 (n : Nat) : 0 < gz_ct true n 32 := Nat.zero_lt_one
theorem gz_hm33 (n : Nat) : 0 < gz_ct true n 33 := Nat.zero_lt_one
theorem gz_hm34 (n : Nat) : 0 < gz_ct true n 34 := Nat.zero_lt_one
theorem gz_hm35 (n : Nat) : 0 < gz_ct true n 35 := Nat.zero_lt_one
theorem gz_hm36 (n : Nat) : 0 < gz_ct true n 36 := Nat.zero_lt_one
theorem gz_hm37 (n : Nat) : 0 < gz_ct true n 37 := Nat.zero_lt_one
theorem gz_hm38 (n : Nat) : 0 < gz_ct true n 38 := Nat.zero_lt_one
theorem gz_hm39 (n : Nat) : 0 < gz_ct true n 39 := Nat.zero_lt_one
theorem gz_hm40 (n : Nat) : 0 < gz_ct true n 40 := Nat.zero_lt_one
theorem gz_hm41 (n : Nat) : 0 < gz_ct true n 41 := Nat.zero_lt_one
theorem gz_hm42 (n : Nat) : 0 < gz_ct true n 42 := Nat.zero_lt_one
theorem gz_hm43 (n : Nat) : 0 < gz_ct true n 43 := Nat.zero_lt_one
theorem gz_h8 {f j : Nat} (hf : f < 13) (hj : j < 8) : 8 * f + j < 104 := by omega
theorem gk_bipush_100 : (Int8.ofInt 100).toInt32 = 100 := by decide
theorem gk_iconst_0 : Int32.ofInt 0 = 0 := by decide
theorem gk_iconst_1 : Int32.ofInt 1 = 1 := by decide
theorem gk_iconst_m1 : Int32.ofInt (-1) = (-1) := by decide
theorem fl_RX0_9 : Cond.fieldLink RX0 9 (TX0 0).1 (TX0 0).2.1 (TX0 0).2.2.1 ∈ lw_tbl := gz_in 329 (by decide +kernel)
theorem fl_RX0_15 : Cond.fieldLink RX0 15 (TX0 1).1 (TX0 1).2.1 (TX0 1).2.2.1 ∈ lw_tbl := gz_in 330 (by decide +kernel)
theorem fl_RX0_18 : Cond.fieldLink RX0 18 (TX0 2).1 (TX0 2).2.1 (TX0 2).2.2.1 ∈ lw_tbl := gz_in 331 (by decide +kernel)
theorem fl_RX0_22 : Cond.fieldLink RX0 22 (TX0 3).1 (TX0 3).2.1 (TX0 3).2.2.1 ∈ lw_tbl := gz_in 332 (by decide +kernel)
theorem fl_RX0_25 : Cond.fieldLink RX0 25 (TX0 4).1 (TX0 4).2.1 (TX0 4).2.2.1 ∈ lw_tbl := gz_in 333 (by decide +kernel)
theorem fl_RX0_29 : Cond.fieldLink RX0 29 (TX0 5).1 (TX0 5).2.1 (TX0 5).2.2.1 ∈ lw_tbl := gz_in 334 (by decide +kernel)
theorem fl_RX1_11 : Cond.fieldLink RX1 11 (TX1 0).1 (TX1 0).2.1 (TX1 0).2.2.1 ∈ lw_tbl := gz_in 239 (by decide +kernel)
theorem fl_RX1_26 : Cond.fieldLink RX1 26 (TX1 1).1 (TX1 1).2.1 (TX1 1).2.2.1 ∈ lw_tbl := gz_in 240 (by decide +kernel)
theorem fl_RX6_35 : Cond.fieldLink RX6 35 (TX6 3).1 (TX6 3).2.1 (TX6 3).2.2.1 ∈ lw_tbl := gz_in 176 (by decide +kernel)
theorem ml_RX0_32 : Cond.methodLink RX0 32 yJ9_min_7cf53 ∈ lw_tbl := gz_in 428 (by decide +kernel)
theorem ml_RX1_36 : Cond.methodLink RX1 36 yX6_waits ∈ lw_tbl := gz_in 692 (by decide +kernel)
theorem mw_J9_min_7cf53 : gz_mw yJ9_min_7cf53 cJ9_min_7cf53 2 (some .int) 2 := ⟨gz_in 430 (by decide +kernel), gz_in 16 (by decide +kernel), by decide, by decide +kernel⟩
theorem ms_J9_min_7cf53 : Cond.static yJ9_min_7cf53 ∈ lw_tbl := gz_in 429 (by decide +kernel)
theorem mw_X6_waits : gz_mw yX6_waits cX6_waits 1 (some .boolean) 0 := ⟨gz_in 640 (by decide +kernel), gz_in 7 (by decide +kernel), by decide, by decide +kernel⟩
theorem mv_X6_waits : gz_mv yX6_waits := ⟨gz_in 638 (by decide +kernel), gz_in 639 (by decide +kernel)⟩

def f_J9_min_7cf53 (a0 : Int32) (a1 : Int32) (σ : gz_S) : Option (Int32 × gz_S) :=
  if a1 < a0 then
  (some (a1, σ))
  else
  (some (a0, σ))
set_option maxHeartbeats 4000000 in
set_option maxRecDepth 100000 in
theorem c_J9_min_7cf53 (l : Launch) (G : gz_G) (b : Bool) (a0 : Int32) (a1 : Int32) (σ : gz_S) : ∀ o, f_J9_min_7cf53 a0 a1 σ = some o → gz_M l b G yJ9_min_7cf53 cJ9_min_7cf53 2 (some .int) { frames := 0, cells := 0, slots := 0, locals := 0 } [.int a0, .int a1] σ (gz_ei o) 0 0 := by
  refine gz_enterF RJ9 rfl (by decide +kernel) (Nat.le_of_ble_eq_true rfl) ?_
  intro p e s m args below meth c C
  refine gz_eqs (st' := []) (lv' := [(0, .int a0), (1, .int a1)]) rfl rfl ?_
  unfold f_J9_min_7cf53
  refine gz_iload_n C dJ9_min_7cf53_0 0 rfl ?_
  refine gz_iload_n C dJ9_min_7cf53_1 1 rfl ?_
  refine gz_icmp_gt (tgt := 9) C dJ9_min_7cf53_2 (by decide) ?_ ?_
  · skip
    refine gz_iload_n C dJ9_min_7cf53_9 1 rfl ?_
    exact gz_iret C rfl dJ9_min_7cf53_10
  · skip
    refine gz_iload_n C dJ9_min_7cf53_5 0 rfl ?_
    refine gz_goto (tgt := 10) C dJ9_min_7cf53_6 (by decide) ?_
    exact gz_iret C rfl dJ9_min_7cf53_10

def f_X6_waits (a0 : Nat) (σ : gz_S) : Option (Int32 × gz_S) :=
  if (σ.1 14 a0 3) = (-1) then
  (some ((1 : Int32) &&& 1, σ))
  else
  (some ((0 : Int32) &&& 1, σ))
set_option maxHeartbeats 4000000 in
set_option maxRecDepth 100000 in
theorem c_X6_waits (l : Launch) (G : gz_G) (a0 : Nat) (h0 : a0 < 61) (σ : gz_S) : ∀ o, f_X6_waits a0 σ = some o → gz_M l false G yX6_waits cX6_waits 1 (some .boolean) { frames := 0, cells := 0, slots := 0, locals := 0 } [.ref (gz_ad false G 14 a0)] σ (gz_ei o) 0 0 := by
  refine gz_enter RX6 rfl (by decide) (Nat.le_of_ble_eq_true rfl) ?_
  intro p e s m args below meth c C
  refine gz_eqs (st' := []) (lv' := [(0, .ref (gz_ad false G 14 a0))]) rfl rfl ?_
  unfold f_X6_waits
  refine gz_aload_n C dX6_waits_0 0 rfl ?_
  refine gz_get C (t := 14) (k := 3) (ci := 6) (q := (RX6, TX6, 15)) (v := .int (σ.1 14 a0 3)) dX6_waits_1 fl_RX6_35 (gz_hx14 _ h0) rfl rfl (by decide) rfl ?_
  refine gz_iconst C dX6_waits_4 gk_iconst_m1 ?_
  refine gz_icmp_ne (tgt := 12) C dX6_waits_5 (by decide) ?_ ?_
  · skip
    refine gz_iconst C dX6_waits_12 gk_iconst_0 ?_
    exact gz_zret C rfl dX6_waits_13
  · skip
    refine gz_iconst C dX6_waits_8 gk_iconst_1 ?_
    refine gz_goto (tgt := 13) C dX6_waits_9 (by decide) ?_
    exact gz_zret C rfl dX6_waits_13

def f_X1_at (a1 : Int32) (σ : gz_S) : Option (Option Nat × gz_S) :=
  if a1 < 0 then
  (some (none, σ))
  else
  (if a1 < (σ.1 10 0 1) then
  (gz_ix a1 61 (fun n1 =>
  some ((some n1), σ)))
  else
  (some (none, σ)))
set_option maxHeartbeats 4000000 in
set_option maxRecDepth 100000 in
theorem c_X1_at (l : Launch) (G : gz_G) (a1 : Int32) (σ : gz_S) : ∀ o, f_X1_at a1 σ = some o → gz_M l false G yX1_at cX1_at 2 (some (.object "GazetteHouse$Notice")) { frames := 0, cells := 0, slots := 0, locals := 0 } [.ref (gz_ad false G 10 0), .int a1] σ (gz_er false G 14 o) 0 0 := by
  refine gz_enter RX1 rfl (by decide) (Nat.le_of_ble_eq_true rfl) ?_
  intro p e s m args below meth c C
  refine gz_eqs (st' := []) (lv' := [(0, .ref (gz_ad false G 10 0)), (1, .int a1)]) rfl rfl ?_
  unfold f_X1_at
  refine gz_iload_n C dX1_at_0 1 rfl ?_
  refine gz_if_lt (tgt := 12) C dX1_at_1 (by decide) ?_ ?_
  · skip
    refine gz_null C dX1_at_12 ?_
    refine gz_goto (tgt := 22) C dX1_at_13 (by decide) ?_
    exact gz_aret (t := 14) (r := none) C rfl dX1_at_22
  · skip
    refine gz_iload_n C dX1_at_4 1 rfl ?_
    refine gz_aload_n C dX1_at_5 0 rfl ?_
    refine gz_get C (t := 10) (k := 1) (ci := 1) (q := (RX1, TX1, 6)) (v := .int (σ.1 10 0 1)) dX1_at_6 fl_RX1_26 (gz_hx10 _) rfl rfl (by decide) rfl ?_
    refine gz_icmp_lt (tgt := 16) C dX1_at_9 (by decide) ?_ ?_
    · skip
      refine gz_aload_n C dX1_at_16 0 rfl ?_
      refine gz_get C (t := 10) (k := 0) (ci := 1) (q := (RX1, TX1, 6)) (v := .ref (gz_ad false G 11 0)) dX1_at_17 fl_RX1_11 (gz_hx10 _) rfl rfl (by decide) rfl ?_
      refine gz_iload_n C dX1_at_20 1 rfl ?_
      refine gz_aald7 C (t := 11) dX1_at_21 (gz_hx11 _) rfl (fun n1 hn1 => ?_)
      exact gz_aret (t := 14) (r := (some n1)) C rfl dX1_at_22
    · skip
      refine gz_null C dX1_at_12 ?_
      refine gz_goto (tgt := 22) C dX1_at_13 (by decide) ?_
      exact gz_aret (t := 14) (r := none) C rfl dX1_at_22

def f_X1_countWaiting_J30 (v2 : Int32) (rec4 : Int32 → Int32 → gz_S → Option (Int32 × gz_S)) : Int32 → Int32 → gz_S → Option (Int32 × gz_S) := fun x7 x8 σ9 =>
  gz_v (x7 + x8) (fun v10 =>
  rec4 v10 (v2 + 1) σ9)
def f_X1_countWaiting_L4 : (Int32 → Int32 → gz_S → Option (Int32 × gz_S)) → Int32 → Int32 → gz_S → Option (Int32 × gz_S) := fun rec4 v1 v2 σ3 =>
  if (σ3.1 10 0 1) ≤ v2 then
  (some (v1, σ3))
  else
  (gz_ix v2 61 (fun n4 =>
  gz_call (f_X6_waits n4 σ3) (fun r6 σ5 =>
  gz_j2 (f_X1_countWaiting_J30 v2 rec4) (fun j30 =>
  if r6 = 0 then
  (j30 v1 0 σ5)
  else
  (j30 v1 1 σ5)))))
def f_X1_countWaiting (σ : gz_S) : Option (Int32 × gz_S) :=
  gz_l2 (f_X1_countWaiting_L4) gz_fu 0 0 σ
set_option maxHeartbeats 4000000 in
set_option maxRecDepth 100000 in
theorem c_X1_countWaiting (l : Launch) (G : gz_G) (σ : gz_S) : ∀ o, f_X1_countWaiting σ = some o → gz_M l false G yX1_countWaiting cX1_countWaiting 3 (some .int) { frames := 1, cells := 0, slots := 0, locals := 20 } [.ref (gz_ad false G 10 0)] σ (gz_ei o) 0 0 := by
  refine gz_enter RX1 rfl (by decide) (Nat.le_of_ble_eq_true rfl) ?_
  intro p e s m args below meth c C
  refine gz_eqs (st' := []) (lv' := [(0, .ref (gz_ad false G 10 0))]) rfl rfl ?_
  unfold f_X1_countWaiting
  refine gz_iconst C dX1_countWaiting_0 gk_iconst_0 ?_
  refine gz_istore_n C (lv' := [(1, .int 0), (0, .ref (gz_ad false G 10 0))]) dX1_countWaiting_1 (by decide) rfl ?_
  refine gz_iconst C dX1_countWaiting_2 gk_iconst_0 ?_
  refine gz_istore_n C (lv' := [(2, .int 0), (1, .int 0), (0, .ref (gz_ad false G 10 0))]) dX1_countWaiting_3 (by decide) rfl ?_
  refine gz_lv (lv' := [(0, .ref (gz_ad false G 10 0)), (1, .int 0), (2, .int 0)]) [2, 1, 0] rfl ?_
  refine gz_l2_ind (P := fun v1 v2 σ3 x => gz_W false p l e ({ frames := 1, cells := 0, slots := 0, locals := 20 } : Room) s m args below meth c G 3 (gz_Q false G below args s 0 0 gz_ei) 0 0 σ3 4 [(0, .ref (gz_ad false G 10 0)), (1, .int v1), (2, .int v2)] [] x) (fun _ _ _ => gz_none) (fun rec4 hrec4 v1 v2 σ3 => ?_) gz_fu 0 0 σ
  unfold f_X1_countWaiting_L4
  refine gz_iload_n C dX1_countWaiting_4 2 rfl ?_
  refine gz_aload_n C dX1_countWaiting_5 0 rfl ?_
  refine gz_get C (t := 10) (k := 1) (ci := 1) (q := (RX1, TX1, 6)) (v := .int (σ3.1 10 0 1)) dX1_countWaiting_6 fl_RX1_26 (gz_hx10 _) rfl rfl (by decide) rfl ?_
  refine gz_icmp_ge (tgt := 38) C dX1_countWaiting_9 (by decide) ?_ ?_
  · skip
    refine gz_iload_n C dX1_countWaiting_38 1 rfl ?_
    exact gz_iret C rfl dX1_countWaiting_39
  · skip
    refine gz_iload_n C dX1_countWaiting_12 1 rfl ?_
    refine gz_aload_n C dX1_countWaiting_13 0 rfl ?_
    refine gz_get C (t := 10) (k := 0) (ci := 1) (q := (RX1, TX1, 6)) (v := .ref (gz_ad false G 11 0)) dX1_countWaiting_14 fl_RX1_11 (gz_hx10 _) rfl rfl (by decide) rfl ?_
    refine gz_iload_n C dX1_countWaiting_17 2 rfl ?_
    refine gz_aald7 C (t := 11) dX1_countWaiting_18 (gz_hx11 _) rfl (fun n4 hn4 => ?_)
    refine gz_ki (gz_runV (t := 14) (ci := 6) (q := (RX6, TX6, 15)) (As := []) (rest := [.int v1]) C dX1_countWaiting_19 ml_RX1_36 mw_X6_waits mv_X6_waits (c_X6_waits l G n4 hn4 σ3) (gz_hx14 _ hn4) rfl rfl rfl rfl rfl (Nat.le_of_ble_eq_true rfl) ⟨rfl, rfl, Nat.le_of_ble_eq_true rfl, Nat.le_of_ble_eq_true rfl, Nat.le_of_ble_eq_true rfl, Nat.le_of_ble_eq_true rfl⟩) (fun r6 σ5 => ?_)
    refine gz_j2_row (P := fun x7 x8 σ9 x => gz_W false p l e ({ frames := 1, cells := 0, slots := 0, locals := 20 } : Room) s m args below meth c G 3 (gz_Q false G below args s 0 0 gz_ei) 0 0 σ9 30 [(0, .ref (gz_ad false G 10 0)), (2, .int v2)] [.int x8, .int x7] x) (fun x7 x8 σ9 => ?_) (fun j30 hj30 => ?_)
    · unfold f_X1_countWaiting_J30
      refine gz_iadd C dX1_countWaiting_30 ?_
      refine gz_topI (fun v10 => ?_)
      refine gz_istore_n C (lv' := [(1, .int v10), (0, .ref (gz_ad false G 10 0)), (2, .int v2)]) dX1_countWaiting_31 (by decide) rfl ?_
      refine gz_iinc C (q := 2) (v := v2 + 1) (lv' := [(2, .int (v2 + 1)), (1, .int v10), (0, .ref (gz_ad false G 10 0))]) dX1_countWaiting_32 rfl rfl (by decide) rfl ?_
      refine gz_goto (tgt := 4) C dX1_countWaiting_35 (by decide) ?_
      refine gz_lv (lv' := [(0, .ref (gz_ad false G 10 0)), (1, .int v10), (2, .int (v2 + 1))]) [2, 1, 0] rfl ?_
      exact hrec4 v10 (v2 + 1) σ9
    · skip
      refine gz_if_eq (tgt := 29) C dX1_countWaiting_22 (by decide) ?_ ?_
      · skip
        refine gz_iconst C dX1_countWaiting_29 gk_iconst_0 ?_
        refine gz_lv (lv' := [(0, .ref (gz_ad false G 10 0)), (2, .int v2)]) [0, 2] rfl ?_
        exact hj30 v1 0 σ5
      · skip
        refine gz_iconst C dX1_countWaiting_25 gk_iconst_1 ?_
        refine gz_goto (tgt := 30) C dX1_countWaiting_26 (by decide) ?_
        refine gz_lv (lv' := [(0, .ref (gz_ad false G 10 0)), (2, .int v2)]) [0, 2] rfl ?_
        exact hj30 v1 1 σ5

def f_X0_push (a1 : Int32) (a2 : Int32) (a3 : Int64) (a4 : Int64) (σ : gz_S) : Option (gz_S) :=
  gz_ix (σ.1 26 0 4) 100 (fun n1 =>
  gz_w (gz_si σ 27 0 n1 a1) (fun σ2 =>
  gz_ix (σ2.1 26 0 4) 100 (fun n3 =>
  gz_w (gz_si σ2 28 0 n3 a2) (fun σ4 =>
  gz_ix (σ4.1 26 0 4) 100 (fun n5 =>
  gz_w (gz_sj σ4 29 0 n5 a3) (fun σ6 =>
  gz_ix (σ6.1 26 0 4) 100 (fun n7 =>
  gz_w (gz_sj σ6 30 0 n7 a4) (fun σ8 =>
  gz_w (gz_si σ8 26 0 4 (gz_rem ((σ8.1 26 0 4) + 1) 100)) (fun σ9 =>
  gz_call (f_J9_min_7cf53 ((σ9.1 26 0 5) + 1) 100 σ9) (fun r11 σ10 =>
  gz_w (gz_si σ10 26 0 5 r11) (fun σ12 =>
  some σ12)))))))))))
set_option maxHeartbeats 4000000 in
set_option maxRecDepth 100000 in
theorem c_X0_push (l : Launch) (G : gz_G) (a1 : Int32) (a2 : Int32) (a3 : Int64) (a4 : Int64) (σ : gz_S) : ∀ o, f_X0_push a1 a2 a3 a4 σ = some o → gz_M l false G yX0_push cX0_push 7 none { frames := 1, cells := 0, slots := 0, locals := 21 } [.ref (gz_ad false G 26 0), .int a1, .int a2, .long a3, .long a4] σ (gz_eu o) 0 0 := by
  refine gz_enter RX0 rfl (by decide) (Nat.le_of_ble_eq_true rfl) ?_
  intro p e s m args below meth c C
  refine gz_eqs (st' := []) (lv' := [(0, .ref (gz_ad false G 26 0)), (1, .int a1), (2, .int a2), (3, .long a3), (5, .long a4)]) rfl rfl ?_
  unfold f_X0_push
  refine gz_aload_n C dX0_push_0 0 rfl ?_
  refine gz_get C (t := 26) (k := 0) (ci := 0) (q := (RX0, TX0, 10)) (v := .ref (gz_ad false G 27 0)) dX0_push_1 fl_RX0_9 (gz_hx26 _) rfl rfl (by decide) rfl ?_
  refine gz_aload_n C dX0_push_4 0 rfl ?_
  refine gz_get C (t := 26) (k := 4) (ci := 0) (q := (RX0, TX0, 10)) (v := .int (σ.1 26 0 4)) dX0_push_5 fl_RX0_25 (gz_hx26 _) rfl rfl (by decide) rfl ?_
  refine gz_iload_n C dX0_push_8 1 rfl ?_
  refine gz_iast C (t := 27) dX0_push_9 (gz_hx27 _) rfl (fun n1 hn1 => ?_)
  refine gz_w_row (fun σ2 => ?_)
  refine gz_aload_n C dX0_push_10 0 rfl ?_
  refine gz_get C (t := 26) (k := 1) (ci := 0) (q := (RX0, TX0, 10)) (v := .ref (gz_ad false G 28 0)) dX0_push_11 fl_RX0_15 (gz_hx26 _) rfl rfl (by decide) rfl ?_
  refine gz_aload_n C dX0_push_14 0 rfl ?_
  refine gz_get C (t := 26) (k := 4) (ci := 0) (q := (RX0, TX0, 10)) (v := .int (σ2.1 26 0 4)) dX0_push_15 fl_RX0_25 (gz_hx26 _) rfl rfl (by decide) rfl ?_
  refine gz_iload_n C dX0_push_18 2 rfl ?_
  refine gz_iast C (t := 28) dX0_push_19 (gz_hx28 _) rfl (fun n3 hn3 => ?_)
  refine gz_w_row (fun σ4 => ?_)
  refine gz_aload_n C dX0_push_20 0 rfl ?_
  refine gz_get C (t := 26) (k := 2) (ci := 0) (q := (RX0, TX0, 10)) (v := .ref (gz_ad false G 29 0)) dX0_push_21 fl_RX0_18 (gz_hx26 _) rfl rfl (by decide) rfl ?_
  refine gz_aload_n C dX0_push_24 0 rfl ?_
  refine gz_get C (t := 26) (k := 4) (ci := 0) (q := (RX0, TX0, 10)) (v := .int (σ4.1 26 0 4)) dX0_push_25 fl_RX0_25 (gz_hx26 _) rfl rfl (by decide) rfl ?_
  refine gz_lload_n C dX0_push_28 3 rfl ?_
  refine gz_last C (t := 29) dX0_push_29 (gz_hx29 _) rfl (fun n5 hn5 => ?_)
  refine gz_w_row (fun σ6 => ?_)
  refine gz_aload_n C dX0_push_30 0 rfl ?_
  refine gz_get C (t := 26) (k := 3) (ci := 0) (q := (RX0, TX0, 10)) (v := .ref (gz_ad false G 30 0)) dX0_push_31 fl_RX0_22 (gz_hx26 _) rfl rfl (by decide) rfl ?_
  refine gz_aload_n C dX0_push_34 0 rfl ?_
  refine gz_get C (t := 26) (k := 4) (ci := 0) (q := (RX0, TX0, 10)) (v := .int (σ6.1 26 0 4)) dX0_push_35 fl_RX0_25 (gz_hx26 _) rfl rfl (by decide) rfl ?_
  refine gz_lload C dX0_push_38 4 rfl ?_
  refine gz_last C (t := 30) dX0_push_40 (gz_hx30 _) rfl (fun n7 hn7 => ?_)
  refine gz_w_row (fun σ8 => ?_)
  refine gz_aload_n C dX0_push_41 0 rfl ?_
  refine gz_aload_n C dX0_push_42 0 rfl ?_
  refine gz_get C (t := 26) (k := 4) (ci := 0) (q := (RX0, TX0, 10)) (v := .int (σ8.1 26 0 4)) dX0_push_43 fl_RX0_25 (gz_hx26 _) rfl rfl (by decide) rfl ?_
  refine gz_iconst C dX0_push_46 gk_iconst_1 ?_
  refine gz_iadd C dX0_push_47 ?_
  refine gz_bipush C dX0_push_48 gk_bipush_100 ?_
  refine gz_irem C dX0_push_50 (by decide) ?_
  refine gz_putI C (t := 26) (k := 4) (ci := 0) (q := (RX0, TX0, 10)) dX0_push_51 fl_RX0_25 (gz_hx26 _) rfl rfl (by decide) rfl rfl rfl rfl ?_
  refine gz_w_row (fun σ9 => ?_)
  refine gz_aload_n C dX0_push_54 0 rfl ?_
  refine gz_aload_n C dX0_push_55 0 rfl ?_
  refine gz_get C (t := 26) (k := 5) (ci := 0) (q := (RX0, TX0, 10)) (v := .int (σ9.1 26 0 5)) dX0_push_56 fl_RX0_29 (gz_hx26 _) rfl rfl (by decide) rfl ?_
  refine gz_iconst C dX0_push_59 gk_iconst_1 ?_
  refine gz_iadd C dX0_push_60 ?_
  refine gz_bipush C dX0_push_61 gk_bipush_100 ?_
  refine gz_ki (gz_runS (As := [.int ((σ9.1 26 0 5) + 1), .int 100]) (rest := [.ref (gz_ad false G 26 0)]) C dX0_push_63 ml_RX0_32 mw_J9_min_7cf53 ms_J9_min_7cf53 (c_J9_min_7cf53 l G false ((σ9.1 26 0 5) + 1) 100 σ9) rfl rfl (Nat.le_of_ble_eq_true rfl) ⟨rfl, rfl, Nat.le_of_ble_eq_true rfl, Nat.le_of_ble_eq_true rfl, Nat.le_of_ble_eq_true rfl, Nat.le_of_ble_eq_true rfl⟩) (fun r11 σ10 => ?_)
  refine gz_putI C (t := 26) (k := 5) (ci := 0) (q := (RX0, TX0, 10)) dX0_push_66 fl_RX0_29 (gz_hx26 _) rfl rfl (by decide) rfl rfl rfl rfl ?_
  refine gz_w_row (fun σ12 => ?_)
  exact gz_vret C rfl dX0_push_69

