theorem gy_hls {n k : Nat} : 10000 * (n + k - n) ≤ 10000 * k := by rw [Nat.add_sub_cancel_left]; exact Nat.le_refl _
theorem gy_oi1 : Cond.instanceMethod Lib.objectInit ∈ lw_tbl := gz_in 28 (by decide +kernel)
theorem gy_oi2 : Cond.code Lib.objectInit ⟨#[0xb1]⟩ 1 none ∈ lw_tbl := gz_in 29 (by decide +kernel)
theorem ml_RX3_3 : Cond.methodLink RX3 3 Lib.objectInit ∈ lw_tbl := gz_in 109 (by decide +kernel)
theorem gya_long : Cond.arrayClass (newarray.typeOf .long) ∈ lw_tbl := gz_in 44 (by decide +kernel)
theorem ml_RX4_3 : Cond.methodLink RX4 3 Lib.objectInit ∈ lw_tbl := gz_in 102 (by decide +kernel)
theorem ck_RX4_9 : Cond.classLink RX4 9 RX3 ∈ lw_tbl := gz_in 103 (by decide +kernel)
theorem cin_3 : Cond.instantiable RX3 7 ∈ lw_tbl := gz_in 105 (by decide +kernel)
theorem cii_3 : Cond.initialized RX3 ∈ lw_tbl := gz_in 5 (by decide +kernel)
theorem mw_X3_init : gz_mw yX3_init cX3_init 1 none 0 := ⟨gz_in 108 (by decide +kernel), gz_in 5 (by decide +kernel), by decide, by decide +kernel⟩
theorem mi_X3_init : Cond.instanceMethod yX3_init ∈ lw_tbl := gz_in 107 (by decide +kernel)
theorem ml_RX4_17 : Cond.methodLinkNest RX4 17 yX3_init "GazetteHouse" ∈ lw_tbl := gz_in 106 (by decide +kernel)
theorem ml_RX2_3 : Cond.methodLink RX2 3 Lib.objectInit ∈ lw_tbl := gz_in 35 (by decide +kernel)
theorem gk_sipush_157 : (Int16.ofInt 157).toInt32 = 157 := by decide
theorem ml_RX8_3 : Cond.methodLink RX8 3 Lib.objectInit ∈ lw_tbl := gz_in 50 (by decide +kernel)
theorem gya_byte : Cond.arrayClass (newarray.typeOf .byte) ∈ lw_tbl := gz_in 95 (by decide +kernel)
theorem ml_RX6_3 : Cond.methodLink RX6 3 Lib.objectInit ∈ lw_tbl := gz_in 166 (by decide +kernel)
theorem gya_int : Cond.arrayClass (newarray.typeOf .int) ∈ lw_tbl := gz_in 238 (by decide +kernel)
theorem ml_RX1_3 : Cond.methodLink RX1 3 Lib.objectInit ∈ lw_tbl := gz_in 159 (by decide +kernel)
theorem ck_RX1_9 : Cond.classLink RX1 9 RX6 ∈ lw_tbl := gz_in 160 (by decide +kernel)
theorem cin_6 : Cond.instantiable RX6 15 ∈ lw_tbl := gz_in 162 (by decide +kernel)
theorem cii_6 : Cond.initialized RX6 ∈ lw_tbl := gz_in 7 (by decide +kernel)
theorem mw_X6_init : gz_mw yX6_init cX6_init 1 none 0 := ⟨gz_in 165 (by decide +kernel), gz_in 7 (by decide +kernel), by decide, by decide +kernel⟩
theorem mi_X6_init : Cond.instanceMethod yX6_init ∈ lw_tbl := gz_in 164 (by decide +kernel)
theorem ml_RX1_25 : Cond.methodLinkNest RX1 25 yX6_init "GazetteHouse" ∈ lw_tbl := gz_in 163 (by decide +kernel)
theorem ml_RX5_3 : Cond.methodLink RX5 3 Lib.objectInit ∈ lw_tbl := gz_in 267 (by decide +kernel)
theorem ml_RX7_5 : Cond.methodLink RX7 5 Lib.objectInit ∈ lw_tbl := gz_in 298 (by decide +kernel)
theorem gk_sipush_4096 : (Int16.ofInt 4096).toInt32 = 4096 := by decide
theorem ml_RX0_3 : Cond.methodLink RX0 3 Lib.objectInit ∈ lw_tbl := gz_in 328 (by decide +kernel)
theorem ml_RX9_3 : Cond.methodLink RX9 3 Lib.objectInit ∈ lw_tbl := gz_in 27 (by decide +kernel)
theorem ck_RX9_9 : Cond.classLink RX9 9 RX2 ∈ lw_tbl := gz_in 30 (by decide +kernel)
theorem cin_2 : Cond.instantiable RX2 2 ∈ lw_tbl := gz_in 31 (by decide +kernel)
theorem cii_2 : Cond.initialized RX2 ∈ lw_tbl := gz_in 2 (by decide +kernel)
theorem mw_X2_init : gz_mw yX2_init cX2_init 1 none 0 := ⟨gz_in 34 (by decide +kernel), gz_in 2 (by decide +kernel), by decide, by decide +kernel⟩
theorem mi_X2_init : Cond.instanceMethod yX2_init ∈ lw_tbl := gz_in 33 (by decide +kernel)
theorem ml_RX9_11 : Cond.methodLinkNest RX9 11 yX2_init "GazetteHouse" ∈ lw_tbl := gz_in 32 (by decide +kernel)
theorem ck_RX9_18 : Cond.classLink RX9 18 RX8 ∈ lw_tbl := gz_in 45 (by decide +kernel)
theorem cin_8 : Cond.instantiable RX8 11 ∈ lw_tbl := gz_in 46 (by decide +kernel)
theorem cii_8 : Cond.initialized RX8 ∈ lw_tbl := gz_in 3 (by decide +kernel)
theorem mw_X8_init : gz_mw yX8_init cX8_init 1 none 0 := ⟨gz_in 49 (by decide +kernel), gz_in 3 (by decide +kernel), by decide, by decide +kernel⟩
theorem mi_X8_init : Cond.instanceMethod yX8_init ∈ lw_tbl := gz_in 48 (by decide +kernel)
theorem ml_RX9_20 : Cond.methodLinkNest RX9 20 yX8_init "GazetteHouse" ∈ lw_tbl := gz_in 47 (by decide +kernel)
theorem ck_RX9_25 : Cond.classLink RX9 25 RX4 ∈ lw_tbl := gz_in 96 (by decide +kernel)
theorem ck_RX9_32 : Cond.classLink RX9 32 RX1 ∈ lw_tbl := gz_in 154 (by decide +kernel)
theorem cin_1 : Cond.instantiable RX1 6 ∈ lw_tbl := gz_in 155 (by decide +kernel)
theorem cii_1 : Cond.initialized RX1 ∈ lw_tbl := gz_in 6 (by decide +kernel)
theorem mw_X1_init : gz_mw yX1_init cX1_init 2 none 0 := ⟨gz_in 158 (by decide +kernel), gz_in 6 (by decide +kernel), by decide, by decide +kernel⟩
theorem mi_X1_init : Cond.instanceMethod yX1_init ∈ lw_tbl := gz_in 157 (by decide +kernel)
theorem ml_RX9_34 : Cond.methodLink RX9 34 yX1_init ∈ lw_tbl := gz_in 156 (by decide +kernel)
theorem ck_RX9_39 : Cond.classLink RX9 39 RX5 ∈ lw_tbl := gz_in 261 (by decide +kernel)
theorem ck_RX9_50 : Cond.classLink RX9 50 RX7 ∈ lw_tbl := gz_in 293 (by decide +kernel)
theorem cin_7 : Cond.instantiable RX7 7 ∈ lw_tbl := gz_in 294 (by decide +kernel)
theorem cii_7 : Cond.initialized RX7 ∈ lw_tbl := gz_in 9 (by decide +kernel)
theorem mw_X7_init : gz_mw yX7_init cX7_init 1 none 0 := ⟨gz_in 297 (by decide +kernel), gz_in 9 (by decide +kernel), by decide, by decide +kernel⟩
theorem mi_X7_init : Cond.instanceMethod yX7_init ∈ lw_tbl := gz_in 296 (by decide +kernel)
theorem ml_RX9_52 : Cond.methodLinkNest RX9 52 yX7_init "GazetteHouse" ∈ lw_tbl := gz_in 295 (by decide +kernel)
theorem ck_RX9_57 : Cond.classLink RX9 57 RX0 ∈ lw_tbl := gz_in 323 (by decide +kernel)
theorem cin_0 : Cond.instantiable RX0 10 ∈ lw_tbl := gz_in 324 (by decide +kernel)
theorem cii_0 : Cond.initialized RX0 ∈ lw_tbl := gz_in 10 (by decide +kernel)
theorem mw_X0_init : gz_mw yX0_init cX0_init 1 none 0 := ⟨gz_in 327 (by decide +kernel), gz_in 10 (by decide +kernel), by decide, by decide +kernel⟩
theorem mi_X0_init : Cond.instanceMethod yX0_init ∈ lw_tbl := gz_in 326 (by decide +kernel)
theorem ml_RX9_59 : Cond.methodLinkNest RX9 59 yX0_init "GazetteHouse" ∈ lw_tbl := gz_in 325 (by decide +kernel)
theorem cin_5 : Cond.instantiable RX5 6 ∈ lw_tbl := gz_in 263 (by decide +kernel)
theorem cii_5 : Cond.initialized RX5 ∈ lw_tbl := gz_in 8 (by decide +kernel)
theorem mw_X5_init : gz_mw yX5_init cX5_init 1 none 0 := ⟨gz_in 266 (by decide +kernel), gz_in 8 (by decide +kernel), by decide, by decide +kernel⟩
theorem mi_X5_init : Cond.instanceMethod yX5_init ∈ lw_tbl := gz_in 265 (by decide +kernel)
theorem ml_RX9_45 : Cond.methodLinkNest RX9 45 yX5_init "GazetteHouse" ∈ lw_tbl := gz_in 264 (by decide +kernel)
theorem cin_4 : Cond.instantiable RX4 2 ∈ lw_tbl := gz_in 98 (by decide +kernel)
theorem cii_4 : Cond.initialized RX4 ∈ lw_tbl := gz_in 4 (by decide +kernel)
theorem mw_X4_init : gz_mw yX4_init cX4_init 2 none 0 := ⟨gz_in 101 (by decide +kernel), gz_in 4 (by decide +kernel), by decide, by decide +kernel⟩
theorem mi_X4_init : Cond.instanceMethod yX4_init ∈ lw_tbl := gz_in 100 (by decide +kernel)
theorem ml_RX9_31 : Cond.methodLink RX9 31 yX4_init ∈ lw_tbl := gz_in 99 (by decide +kernel)
theorem ml_RX11_3 : Cond.methodLink RX11 3 Lib.objectInit ∈ lw_tbl := gz_in 865 (by decide +kernel)
theorem gya_boolean : Cond.arrayClass (newarray.typeOf .boolean) ∈ lw_tbl := gz_in 936 (by decide +kernel)
theorem ck_RX11_36 : Cond.classLink RX11 36 RX10 ∈ lw_tbl := gz_in 866 (by decide +kernel)
theorem cin_10 : Cond.instantiable RX10 8 ∈ lw_tbl := gz_in 867 (by decide +kernel)
theorem cii_10 : Cond.initialized RX10 ∈ lw_tbl := gz_in 15 (by decide +kernel)
theorem mw_X10_init : gz_mw yX10_init cX10_init 1 none 0 := ⟨gz_in 907 (by decide +kernel), gz_in 15 (by decide +kernel), by decide, by decide +kernel⟩
theorem mi_X10_init : Cond.instanceMethod yX10_init ∈ lw_tbl := gz_in 906 (by decide +kernel)
theorem ml_RX11_38 : Cond.methodLink RX11 38 yX10_init ∈ lw_tbl := gz_in 905 (by decide +kernel)
theorem gk_bipush_104 : (Int8.ofInt 104).toInt32 = 104 := by decide
theorem gk_sipush_416 : (Int16.ofInt 416).toInt32 = 416 := by decide
theorem gk_sipush_488 : (Int16.ofInt 488).toInt32 = 488 := by decide
theorem gk_sipush_480 : (Int16.ofInt 480).toInt32 = 480 := by decide
/-! Throwable's constructor: four fields are written for a while, and come back to null -/
def yT0 : MethodName := ⟨"java/lang/RuntimeException", "<init>", "(Ljava/lang/String;Ljava/lang/Throwable;ZZ)V"⟩
def yT1 : MethodName := ⟨"java/lang/Exception", "<init>", "(Ljava/lang/String;Ljava/lang/Throwable;ZZ)V"⟩
def yT2 : MethodName := ⟨"java/lang/Throwable", "<init>", "(Ljava/lang/String;Ljava/lang/Throwable;ZZ)V"⟩
theorem dT0_0 : decode prog_16_method_5_code 0 = .ok (.aload_n 0, 1) := by decide +kernel
theorem dT0_1 : decode prog_16_method_5_code 1 = .ok (.aload_n 1, 1) := by decide +kernel
theorem dT0_2 : decode prog_16_method_5_code 2 = .ok (.aload_n 2, 1) := by decide +kernel
theorem dT0_3 : decode prog_16_method_5_code 3 = .ok (.iload_n 3, 1) := by decide +kernel
theorem dT0_4 : decode prog_16_method_5_code 4 = .ok (.iload 4, 2) := by decide +kernel
theorem dT0_6 : decode prog_16_method_5_code 6 = .ok (.invokespecial 16, 3) := by decide +kernel
theorem dT0_9 : decode prog_16_method_5_code 9 = .ok (.return_, 1) := by decide +kernel
theorem dT1_0 : decode prog_14_method_5_code 0 = .ok (.aload_n 0, 1) := by decide +kernel
theorem dT1_1 : decode prog_14_method_5_code 1 = .ok (.aload_n 1, 1) := by decide +kernel
theorem dT1_2 : decode prog_14_method_5_code 2 = .ok (.aload_n 2, 1) := by decide +kernel
theorem dT1_3 : decode prog_14_method_5_code 3 = .ok (.iload_n 3, 1) := by decide +kernel
theorem dT1_4 : decode prog_14_method_5_code 4 = .ok (.iload 4, 2) := by decide +kernel
theorem dT1_6 : decode prog_14_method_5_code 6 = .ok (.invokespecial 16, 3) := by decide +kernel
theorem dT1_9 : decode prog_14_method_5_code 9 = .ok (.return_, 1) := by decide +kernel
theorem dT2_0 : decode prog_20_method_5_code 0 = .ok (.aload_n 0, 1) := by decide +kernel
theorem dT2_1 : decode prog_20_method_5_code 1 = .ok (.invokespecial 1, 3) := by decide +kernel
theorem dT2_4 : decode prog_20_method_5_code 4 = .ok (.aload_n 0, 1) := by decide +kernel
theorem dT2_5 : decode prog_20_method_5_code 5 = .ok (.aload_n 0, 1) := by decide +kernel
theorem dT2_6 : decode prog_20_method_5_code 6 = .ok (.putfield 7, 3) := by decide +kernel
theorem dT2_9 : decode prog_20_method_5_code 9 = .ok (.aload_n 0, 1) := by decide +kernel
theorem dT2_10 : decode prog_20_method_5_code 10 = .ok (.getstatic 13, 3) := by decide +kernel
theorem dT2_13 : decode prog_20_method_5_code 13 = .ok (.putfield 17, 3) := by decide +kernel
theorem dT2_16 : decode prog_20_method_5_code 16 = .ok (.aload_n 0, 1) := by decide +kernel
theorem dT2_17 : decode prog_20_method_5_code 17 = .ok (.getstatic 20, 3) := by decide +kernel
theorem dT2_20 : decode prog_20_method_5_code 20 = .ok (.putfield 24, 3) := by decide +kernel
theorem dT2_23 : decode prog_20_method_5_code 23 = .ok (.iload 4, 2) := by decide +kernel
theorem dT2_25 : decode prog_20_method_5_code 25 = .ok (.ifCond .eq 11, 3) := by decide +kernel
theorem dT2_36 : decode prog_20_method_5_code 36 = .ok (.aload_n 0, 1) := by decide +kernel
theorem dT2_37 : decode prog_20_method_5_code 37 = .ok (.aconst_null, 1) := by decide +kernel
theorem dT2_38 : decode prog_20_method_5_code 38 = .ok (.putfield 17, 3) := by decide +kernel
theorem dT2_41 : decode prog_20_method_5_code 41 = .ok (.aload_n 0, 1) := by decide +kernel
theorem dT2_42 : decode prog_20_method_5_code 42 = .ok (.aload_n 1, 1) := by decide +kernel
theorem dT2_43 : decode prog_20_method_5_code 43 = .ok (.putfield 31, 3) := by decide +kernel
theorem dT2_46 : decode prog_20_method_5_code 46 = .ok (.aload_n 0, 1) := by decide +kernel
theorem dT2_47 : decode prog_20_method_5_code 47 = .ok (.aload_n 2, 1) := by decide +kernel
theorem dT2_48 : decode prog_20_method_5_code 48 = .ok (.putfield 7, 3) := by decide +kernel
theorem dT2_51 : decode prog_20_method_5_code 51 = .ok (.iload_n 3, 1) := by decide +kernel
theorem dT2_52 : decode prog_20_method_5_code 52 = .ok (.ifCond .ne 8, 3) := by decide +kernel
theorem dT2_55 : decode prog_20_method_5_code 55 = .ok (.aload_n 0, 1) := by decide +kernel
theorem dT2_56 : decode prog_20_method_5_code 56 = .ok (.aconst_null, 1) := by decide +kernel
theorem dT2_57 : decode prog_20_method_5_code 57 = .ok (.putfield 24, 3) := by decide +kernel
theorem dT2_60 : decode prog_20_method_5_code 60 = .ok (.return_, 1) := by decide +kernel
theorem flT_7 : Cond.fieldLink "java/lang/Throwable" 7 (TX10 0).1 (TX10 0).2.1 (TX10 0).2.2.1 ∈ lw_tbl := gz_in 921 (by decide +kernel)
theorem flT_17 : Cond.fieldLink "java/lang/Throwable" 17 (TX10 1).1 (TX10 1).2.1 (TX10 1).2.2.1 ∈ lw_tbl := gz_in 922 (by decide +kernel)
theorem flT_24 : Cond.fieldLink "java/lang/Throwable" 24 (TX10 2).1 (TX10 2).2.1 (TX10 2).2.2.1 ∈ lw_tbl := gz_in 923 (by decide +kernel)
theorem flT_31 : Cond.fieldLink "java/lang/Throwable" 31 (TX10 3).1 (TX10 3).2.1 (TX10 3).2.2.1 ∈ lw_tbl := gz_in 920 (by decide +kernel)
theorem flT_13 : Cond.fieldLink "java/lang/Throwable" 13 "java/lang/Throwable" "UNASSIGNED_STACK" "[Ljava/lang/StackTraceElement;" ∈ lw_tbl := gz_in 892 (by decide +kernel)
theorem flT_20 : Cond.fieldLink "java/lang/Throwable" 20 "java/lang/Throwable" "SUPPRESSED_SENTINEL" "Ljava/util/List;" ∈ lw_tbl := gz_in 894 (by decide +kernel)
theorem mlT_1 : Cond.methodLink "java/lang/Throwable" 1 Lib.objectInit ∈ lw_tbl := gz_in 891 (by decide +kernel)
theorem mlT0_16 : Cond.methodLink "java/lang/RuntimeException" 16 yT1 ∈ lw_tbl := gz_in 911 (by decide +kernel)
theorem mlT1_16 : Cond.methodLink "java/lang/Exception" 16 yT2 ∈ lw_tbl := gz_in 914 (by decide +kernel)
theorem ml_RX10_1 : Cond.methodLink RX10 1 yT0 ∈ lw_tbl := gz_in 908 (by decide +kernel)
theorem mw_T0 : gz_mw yT0 prog_16_method_5_code 5 none 4 := ⟨gz_in 910 (by decide +kernel), gz_in 14 (by decide +kernel), by decide, by decide +kernel⟩
theorem mi_T0 : Cond.instanceMethod yT0 ∈ lw_tbl := gz_in 909 (by decide +kernel)
theorem mw_T1 : gz_mw yT1 prog_14_method_5_code 5 none 4 := ⟨gz_in 913 (by decide +kernel), gz_in 13 (by decide +kernel), by decide, by decide +kernel⟩
theorem mi_T1 : Cond.instanceMethod yT1 ∈ lw_tbl := gz_in 912 (by decide +kernel)
theorem mw_T2 : gz_mw yT2 prog_20_method_5_code 5 none 4 := ⟨gz_in 916 (by decide +kernel), gz_in 12 (by decide +kernel), by decide, by decide +kernel⟩
theorem mi_T2 : Cond.instanceMethod yT2 ∈ lw_tbl := gz_in 915 (by decide +kernel)
def gy_HX (G : gz_G) (ρ : gy_S) (X : Nat → Value) (H : Heap) : Prop := H.size = G.1 + ρ.1 ∧ (∀ k, k < ρ.1 → k ≠ 645 → gy_ce G ρ k H) ∧ t_OB (G.1 + 645) (G.2.1 10) 8 (G.2.2.1 10) H X
section GX
variable {p : Program} {l : Launch} {e : Env} {R : Room} {s : State} {m : MethodId} {args : Array Value} {below : List Frame} {meth : Method} {c : Code} {G : gz_G} {nL : Nat} {α : Type} {QQ : α → State → Prop} {ce sl : Nat} {ρ : gy_S} {X : Nat → Value} {pc : Nat} {lv : List (Nat × Value)} {st : List Value} {z : Option α} {cc : ByteArray} {own : String} {ret : Option FieldType}
abbrev gx_W (p : Program) (l : Launch) (e : Env) (R : Room) (s : State) (m : MethodId) (args : Array Value) (below : List Frame) (meth : Method) (c : Code) (G : gz_G) (nL : Nat) {α : Type} (QQ : α → State → Prop) (ρ : gy_S) (X : Nat → Value) (pc : Nat) (lv : List (Nat × Value)) (st : List Value) (z : Option α) : Prop := gq_W (gy_HX G ρ) (fun q => G.1 ≤ q) p l e R s m args below meth c nL QQ 0 0 X pc lv st z
theorem gx_put (C : gz_X p s m meth c G cc own nL ret) {k index : Nat} {v : Value} (d : decode cc pc = .ok (.putfield index, 3)) (hlk : Cond.fieldLink own index (TX10 k).1 (TX10 k).2.1 (TX10 k).2.2.1 ∈ lw_tbl) (hk : k < 8) (hfin : (TX10 k).2.2.2 = false) (hv : narrow (gz_tyc 10 k) v = v ∧ fits (gz_tyc 10 k) v = true) (kk : gx_W p l e R s m args below meth c G nL QQ ρ (updV X k v) (pc + 3) lv st z) : gx_W p l e R s m args below meth c G nL QQ ρ X pc lv (v :: .ref (G.1 + 645) :: st) z := by
  intro o ho H locs ls hH hS hl
  have hq : vwCl[10]? = some (RX10, TX10, 8) := rfl
  have hcl := gz_cls 10 _ hq
  have hap := va_apart (own := own) (args := args) (D := (G.2.1, G.2.2.1)) (tys := []) (gz_lays (args := args) C hq) (fun _ h => h) (gz_tyc 10) hcl.2.1 hcl.2.2 (cl := vwCl) ⟨C.2.2.2.2.2.2.1, fun _ _ h => by simp at h⟩ hq
  obtain ⟨cell, q1, q2, q3, q4⟩ := hH.2.2
  obtain ⟨hSl, hfc, kC, hkC, hkind⟩ := C.2.2.2.2.2.2.1 10 _ hq
  obtain ⟨cf, kf, fi, f', hif, hsl⟩ := hSl k hk
  have hlay := gz_lays (args := args) C hq _ (u_in_lay hk)
  unfold u_lay at hlay
  rw [if_neg (by show ¬ (TX10 k).2.2.2 = true; rw [hfin]; decide)] at hlay
  have hst := (u_facts hfc hkC (u_lays (gz_lays (args := args) C hq) (fun _ h => h) hk) hif).1
  have h6 := u_store hfc hkC hkind hlay hif (hcl.2.1 k hk) hv.1 hv.2
  refine W.putK C.1 C.2.1 (f := f') ⟨C.2.2.2.1, C.word hlk rfl, ⟨_, _, _, hif⟩, hst⟩ (by rw [q2]; exact h6) q1 q3 (by rw [hsl]; exact k2_hasslot (q4 k hk)) rfl rfl d fun H' e1 e2 e3 => ?_
  rw [hsl] at e1
  refine kk o ho H' _ ls ⟨by rw [e2]; exact hH.1, fun k' h1 h2 => (hH.2.1 k' h1 h2).keep (e3 (G.1 + k') (fun q => h2 (Nat.add_left_cancel q))) rfl, ⟨_, e1, q2, q3, t_set q4 hap hk v⟩⟩ (hS.put e2 e3 (Nat.le_add_right _ _)) hl
theorem gx_gets {index : Nat} {K f d0 : String} (C : gz_X p s m meth c G cc own nL ret) (hz : va_Zq K f d0 (fun q => G.1 ≤ q) s s.heap) (hlk : Cond.fieldLink own index K f d0 ∈ lw_tbl) (d : decode cc pc = .ok (.getstatic index, 3)) (k : ∀ v, (v = .null ∨ ∃ a, v = .ref a) → gx_W p l e R s m args below meth c G nL QQ ρ X (pc + 3) lv (v :: st) z) : gx_W p l e R s m args below meth c G nL QQ ρ X pc lv st z := by
  intro o h H locs ls hH hS hl
  rcases hz with hz | ⟨t, hz⟩
  · exact va_gets C.1 C.2.1 hz hS C.2.2.2.1 (C.word hlk rfl) (fun _ hx => hx) d (k _ (Or.inl rfl) o h H locs ls hH hS hl)
  · exact va_gets C.1 C.2.1 hz hS C.2.2.2.1 (C.word hlk rfl) (fun _ hx => hx) d (k _ (Or.inr ⟨t, rfl⟩) o h H locs ls hH hS hl)
theorem gx_oin (C : gz_X p s m meth c G cc own nL ret) {a index : Nat} (d : decode cc pc = .ok (.invokespecial index, 3)) (hlk : Cond.methodLink own index Lib.objectInit ∈ lw_tbl) (hin : Cond.instanceMethod Lib.objectInit ∈ lw_tbl) (hco : Cond.code Lib.objectInit ⟨#[0xb1]⟩ 1 none ∈ lw_tbl) (hf : 1 ≤ R.frames) (hlo : 12 ≤ R.locals) (kk : gx_W p l e R s m args below meth c G nL QQ ρ X (pc + 3) lv [] z) : gx_W p l e R s m args below meth c G nL QQ ρ X pc lv [.ref a] z := by
  intro o ho H locs ls hH hS hl
  exact W.objInit C.1 C.2.1 C.2.2.2.1 (C.word hlk rfl) (C.word hin rfl) (C.word hco rfl) (g := F0 m pc ls [.ref a]) rfl (by rw [C.2.2.1]; exact hl.1) rfl d hf (by simpa [F0, JFrame.monitorRoom] using hlo) (kk o ho H locs ls hH hS hl)
theorem gx_eq0 (C : gz_X p s m meth c G cc own nL ret) {off : Int} {tgt : Nat} (d : decode cc pc = .ok (.ifCond .eq off, 3)) (ht : (pc : Int) + off = (tgt : Int)) (k : gx_W p l e R s m args below meth c G nL QQ ρ X tgt lv st z) : gx_W p l e R s m args below meth c G nL QQ ρ X pc lv (.int 0 :: st) z := by
  have e := gq_if_eq (x := 0) (z1 := z) (z2 := none) C d ht k gq_none
  rw [if_pos rfl] at e
  exact e
theorem gx_ne0 (C : gz_X p s m meth c G cc own nL ret) {off : Int} {tgt : Nat} (d : decode cc pc = .ok (.ifCond .ne off, 3)) (ht : (pc : Int) + off = (tgt : Int)) (k : gx_W p l e R s m args below meth c G nL QQ ρ X (pc + 3) lv st z) : gx_W p l e R s m args below meth c G nL QQ ρ X pc lv (.int 0 :: st) z := by
  have e := gq_if_ne (x := 0) (z1 := none) (z2 := z) C d ht gq_none k
  rw [if_pos rfl] at e
  exact e
theorem gx_back {H : Heap} (hH : gy_HX G ρ X H) (hb : ρ.2 < 2 ^ (64 * 645)) (hX : ∀ j, j < 8 → X j = gy_df 645 j) : gy_H G ρ H := by
  refine ⟨hH.1, fun k hk => ?_⟩
  by_cases e : k = 645
  · subst e
    have h1 := gy_fresh (G := G) (ρ := (645, ρ.2)) hb ρ.1
    unfold gy_ce
    have h2 : gy_ck 645 = .inl (10, 8) := by decide +kernel
    rw [h2]
    have h3 : gy_v G ρ 645 = gy_df 645 := h1
    rw [h3]
    exact t_OB.to hH.2.2 (fun j hj => hX j hj)
  · exact hH.2.1 k hk e
theorem gx_forth {H : Heap} (hH : gy_H G ρ H) (hn : 645 < ρ.1) (hb : ρ.2 < 2 ^ (64 * 645)) : gy_HX G ρ (gy_df 645) H := by
  refine ⟨hH.1, fun k hk _ => hH.2 k hk, ?_⟩
  have h := hH.2 645 hn
  have h1 : gy_v G ρ 645 = gy_df 645 := gy_fresh (G := G) (ρ := (645, ρ.2)) hb ρ.1
  have h2 : gy_ck 645 = .inl (10, 8) := by decide +kernel
  unfold gy_ce at h
  rw [h2, h1] at h
  exact h
theorem gx_vret (C : gz_X p s m meth c G cc own nL ret) (hr : ret = none) (hb : ρ.2 < 2 ^ (64 * 645)) (hX : ∀ j, j < 8 → X j = gy_df 645 j) (d : decode cc pc = .ok (.return_, 1)) : gx_W p l e R s m args below meth c G nL (gy_Q G below args s 0 0) ρ X pc lv [] (some ρ) := by
  intro o ho H locs ls hH hS hl
  cases ho
  exact W.vret C.1 C.2.1 (C.2.2.2.2.1.trans hr) (fun t ht hW => ⟨rfl, by rw [ht]; exact gx_back hH hb hX, hS.F ht⟩) hS.2.2 d (hlocks := C.2.2.2.2.2.1)
end GX
def f_T (σ : gy_S) : Option gy_S := if 645 < σ.1 ∧ σ.2 < 2 ^ (64 * 645) then some σ else none
theorem gx_ref {k : Nat} (hk : k < 5) {v : Value} (hv : v = .null ∨ ∃ a, v = .ref a) : narrow (gz_tyc 10 k) v = v ∧ fits (gz_tyc 10 k) v = true := by
  have h : k = 0 ∨ k = 1 ∨ k = 2 ∨ k = 3 ∨ k = 4 := by omega
  rcases h with rfl | rfl | rfl | rfl | rfl <;> rcases hv with rfl | ⟨a, rfl⟩ <;> exact ⟨rfl, rfl⟩
theorem gx_end (X : Nat → Value) (v1 v2 v3 v4 : Value) (hX : ∀ j, j < 8 → X j = gy_df 645 j) : ∀ j, j < 8 → updV (updV (updV (updV (updV (updV (updV X 0 v1) 1 v2) 2 v3) 1 .null) 3 .null) 0 .null) 2 .null j = gy_df 645 j := by
  intro j hj
  have e : ∀ k, k < 5 → gy_df 645 k = .null := by
    intro k hk
    have h : k = 0 ∨ k = 1 ∨ k = 2 ∨ k = 3 ∨ k = 4 := by omega
    rcases h with rfl | rfl | rfl | rfl | rfl <;> rfl
  by_cases h4 : j < 4
  · rw [e j (by omega)]
    have h : j = 0 ∨ j = 1 ∨ j = 2 ∨ j = 3 := by omega
    rcases h with rfl | rfl | rfl | rfl <;> simp [updV]
  · rw [← hX j hj]
    have h0 : j ≠ 0 := by omega
    have h1 : j ≠ 1 := by omega
    have h2 : j ≠ 2 := by omega
    have h3 : j ≠ 3 := by omega
    simp [updV, h0, h1, h2, h3]
theorem c_T2 (l : Launch) (G : gz_G) (σ : gy_S) : ∀ o, f_T σ = some o → gy_M l G yT2 prog_20_method_5_code 5 { frames := 1, cells := 0, slots := 10000 * 0, locals := 12 } [.ref (G.1 + 645), .null, .null, .int 0, .int 0] σ o 0 (10000 * 0) := by
  refine gy_enter "java/lang/Throwable" rfl rfl (by decide +kernel) (Nat.le_of_ble_eq_true rfl) ?_
  intro p e s m args below meth c C hZ hI
  intro o ho H locs ls hH hS hl
  unfold f_T at ho
  split at ho
  · rename_i hg
    rw [Nat.sub_self]
    refine (?_ : gx_W p l e _ s m args below meth c G 5 (gy_Q G below args s 0 0) σ (gy_df 645) 0 [(0, .ref (G.1 + 645)), (1, .null), (2, .null), (3, .int 0), (4, .int 0)] [] (some σ)) o ho H locs ls (gx_forth hH.1 hg.1 hg.2) hS hl
    refine gq_aload_n C dT2_0 0 rfl ?_
    refine gx_oin C dT2_1 mlT_1 gy_oi1 gy_oi2 (Nat.le_of_ble_eq_true rfl) (Nat.le_of_ble_eq_true rfl) ?_
    refine gq_aload_n C dT2_4 0 rfl ?_
    refine gq_aload_n C dT2_5 0 rfl ?_
    refine gx_put (k := 0) C dT2_6 flT_7 (by decide) rfl (gx_ref (by decide) (Or.inr ⟨_, rfl⟩)) ?_
    refine gq_aload_n C dT2_9 0 rfl ?_
    refine gx_gets C hZ.1 flT_13 dT2_10 (fun w1 hw1 => ?_)
    refine gx_put (k := 1) C dT2_13 flT_17 (by decide) rfl (gx_ref (by decide) hw1) ?_
    refine gq_aload_n C dT2_16 0 rfl ?_
    refine gx_gets C hZ.2.1 flT_20 dT2_17 (fun w2 hw2 => ?_)
    refine gx_put (k := 2) C dT2_20 flT_24 (by decide) rfl (gx_ref (by decide) hw2) ?_
    refine gq_iload C dT2_23 4 rfl ?_
    refine gx_eq0 (tgt := 36) C dT2_25 (by decide) ?_
    refine gq_aload_n C dT2_36 0 rfl ?_
    refine gq_null C dT2_37 ?_
    refine gx_put (k := 1) C dT2_38 flT_17 (by decide) rfl (gx_ref (by decide) (Or.inl rfl)) ?_
    refine gq_aload_n C dT2_41 0 rfl ?_
    refine gq_aloadV_n C dT2_42 1 rfl (Or.inl rfl) ?_
    refine gx_put (k := 3) C dT2_43 flT_31 (by decide) rfl (gx_ref (by decide) (Or.inl rfl)) ?_
    refine gq_aload_n C dT2_46 0 rfl ?_
    refine gq_aloadV_n C dT2_47 2 rfl (Or.inl rfl) ?_
    refine gx_put (k := 0) C dT2_48 flT_7 (by decide) rfl (gx_ref (by decide) (Or.inl rfl)) ?_
    refine gq_iload_n C dT2_51 3 rfl ?_
    refine gx_ne0 (tgt := 60) C dT2_52 (by decide) ?_
    refine gq_aload_n C dT2_55 0 rfl ?_
    refine gq_null C dT2_56 ?_
    refine gx_put (k := 2) C dT2_57 flT_24 (by decide) rfl (gx_ref (by decide) (Or.inl rfl)) ?_
    exact gx_vret C rfl hg.2 (gx_end _ _ _ _ .null (fun _ _ => rfl)) dT2_60
  · cases ho
def f_T1 (σ : gy_S) : Option gy_S := gy_cl (σ.1 + 0) 0 σ (f_T σ) (fun u => gy_en (σ.1 + 0) u)
theorem c_T1 (l : Launch) (G : gz_G) (σ : gy_S) : ∀ o, f_T1 σ = some o → gy_M l G yT1 prog_14_method_5_code 5 { frames := 2, cells := 0, slots := 10000 * 0, locals := 36 } [.ref (G.1 + 645), .null, .null, .int 0, .int 0] σ o 0 (10000 * 0) := by
  refine gy_enter "java/lang/Exception" rfl rfl (by decide +kernel) (Nat.le_of_ble_eq_true rfl) ?_
  intro p e s m args below meth c C hZ hI
  refine gq_eqs (st' := []) (lv' := [(0, .ref (G.1 + 645)), (1, .null), (2, .null), (3, .int 0), (4, .int 0)]) rfl rfl ?_
  unfold f_T1
  refine gq_aload_n C dT1_0 0 rfl ?_
  refine gq_aloadV_n C dT1_1 1 rfl (Or.inl rfl) ?_
  refine gq_aloadV_n C dT1_2 2 rfl (Or.inl rfl) ?_
  refine gq_iload_n C dT1_3 3 rfl ?_
  refine gq_iload C dT1_4 4 rfl ?_
  refine gy_call (As := [.null, .null, .int 0, .int 0]) (rest := []) C hZ dT1_6 mlT1_16 mw_T2 rfl mi_T2 (c_T2 l G σ) rfl rfl (Nat.le_of_ble_eq_true rfl) ⟨rfl, rfl, Nat.le_of_ble_eq_true rfl, Nat.le_of_ble_eq_true rfl, Nat.le_refl _, gy_hls, rfl⟩ (fun u => ?_)
  exact gy_vret C rfl rfl rfl dT1_9
def f_T0 (σ : gy_S) : Option gy_S := gy_cl (σ.1 + 0) 0 σ (f_T1 σ) (fun u => gy_en (σ.1 + 0) u)
theorem c_T0 (l : Launch) (G : gz_G) (σ : gy_S) : ∀ o, f_T0 σ = some o → gy_M l G yT0 prog_16_method_5_code 5 { frames := 3, cells := 0, slots := 10000 * 0, locals := 60 } [.ref (G.1 + 645), .null, .null, .int 0, .int 0] σ o 0 (10000 * 0) := by
  refine gy_enter "java/lang/RuntimeException" rfl rfl (by decide +kernel) (Nat.le_of_ble_eq_true rfl) ?_
  intro p e s m args below meth c C hZ hI
  refine gq_eqs (st' := []) (lv' := [(0, .ref (G.1 + 645)), (1, .null), (2, .null), (3, .int 0), (4, .int 0)]) rfl rfl ?_
  unfold f_T0
  refine gq_aload_n C dT0_0 0 rfl ?_
  refine gq_aloadV_n C dT0_1 1 rfl (Or.inl rfl) ?_
  refine gq_aloadV_n C dT0_2 2 rfl (Or.inl rfl) ?_
  refine gq_iload_n C dT0_3 3 rfl ?_
  refine gq_iload C dT0_4 4 rfl ?_
  refine gy_call (As := [.null, .null, .int 0, .int 0]) (rest := []) C hZ dT0_6 mlT0_16 mw_T1 rfl mi_T1 (c_T1 l G σ) rfl rfl (Nat.le_of_ble_eq_true rfl) ⟨rfl, rfl, Nat.le_of_ble_eq_true rfl, Nat.le_of_ble_eq_true rfl, Nat.le_refl _, gy_hls, rfl⟩ (fun u => ?_)
  exact gy_vret C rfl rfl rfl dT0_9
def f_X10_init (a : Nat) (σ : gy_S) : Option gy_S := if a = 645 then gy_cl (σ.1 + 0) 0 σ (f_T0 σ) (fun u => gy_en (σ.1 + 0) u) else none
theorem c_X10_init (l : Launch) (G : gz_G) (a : Nat) (σ : gy_S) : ∀ o, f_X10_init a σ = some o → gy_M l G yX10_init cX10_init 1 { frames := 4, cells := 0, slots := 10000 * 0, locals := 84 } [.ref (G.1 + a)] σ o 0 (10000 * 0) := by
  by_cases ha : a = 645
  · subst ha
    refine gy_enter RX10 rfl rfl (by decide +kernel) (Nat.le_of_ble_eq_true rfl) ?_
    intro p e s m args below meth c C hZ hI
    refine gq_eqs (st' := []) (lv' := [(0, .ref (G.1 + 645))]) rfl rfl ?_
    unfold f_X10_init
    rw [if_pos rfl]
    refine gq_aload_n C dX10_init_0 0 rfl ?_
    refine gq_null C dX10_init_1 ?_
    refine gq_null C dX10_init_2 ?_
    refine gq_iconst C dX10_init_3 gk_iconst_0 ?_
    refine gq_iconst C dX10_init_4 gk_iconst_0 ?_
    refine gy_call (As := [.null, .null, .int 0, .int 0]) (rest := []) C hZ dX10_init_5 ml_RX10_1 mw_T0 rfl mi_T0 (c_T0 l G σ) rfl rfl (Nat.le_of_ble_eq_true rfl) ⟨rfl, rfl, Nat.le_of_ble_eq_true rfl, Nat.le_of_ble_eq_true rfl, Nat.le_refl _, gy_hls, rfl⟩ (fun u => ?_)
    exact gy_vret C rfl rfl rfl dX10_init_8
  · intro o ho
    unfold f_X10_init at ho
    rw [if_neg ha] at ho
    cases ho
