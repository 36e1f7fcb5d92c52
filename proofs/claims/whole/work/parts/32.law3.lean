theorem gk_bipush_31 : (Int8.ofInt 31).toInt32 = 31 := by decide
def f_lawB (xs : Nat → Int32) (L : Nat) (i : Int32) (k : gz_S → gz_S → Option Unit) (σx σm : gz_S) : Option Unit :=
  gz_ix i L (fun n0 =>
  (if xs n0 &&& 31 = 0 then f_lawC0 xs L i k σx σm else
  (if xs n0 &&& 31 = 1 then f_lawC1 xs L i k σx σm else
  (if xs n0 &&& 31 = 2 then f_lawC2 xs L i k σx σm else
  (if xs n0 &&& 31 = 3 then f_lawC3 xs L i k σx σm else
  (if xs n0 &&& 31 = 4 then f_lawC4 xs L i k σx σm else
  (if xs n0 &&& 31 = 5 then f_lawC5 xs L i k σx σm else
  (if xs n0 &&& 31 = 6 then f_lawC6 xs L i k σx σm else
  (if xs n0 &&& 31 = 7 then f_lawC7 xs L i k σx σm else
  (if xs n0 &&& 31 = 8 then f_lawC8 xs L i k σx σm else
  (if xs n0 &&& 31 = 9 then f_lawC9 xs L i k σx σm else
  (if xs n0 &&& 31 = 10 then f_lawC10 xs L i k σx σm else
  (if xs n0 &&& 31 = 11 then f_lawC11 xs L i k σx σm else
  (if xs n0 &&& 31 = 12 then f_lawC12 xs L i k σx σm else
  (if xs n0 &&& 31 = 13 then f_lawC13 xs L i k σx σm else
  (if xs n0 &&& 31 = 14 then f_lawC14 xs L i k σx σm else
  (if xs n0 &&& 31 = 15 then f_lawC15 xs L i k σx σm else
  (if xs n0 &&& 31 = 16 then f_lawC16 xs L i k σx σm else
  (if xs n0 &&& 31 = 17 then f_lawC17 xs L i k σx σm else
  (if xs n0 &&& 31 = 18 then f_lawC18 xs L i k σx σm else
  (if xs n0 &&& 31 = 19 then f_lawC19 xs L i k σx σm else
  (if xs n0 &&& 31 = 20 then f_lawC20 xs L i k σx σm else
  (if xs n0 &&& 31 = 21 then f_lawC21 xs L i k σx σm else
  (if xs n0 &&& 31 = 22 then f_lawC22 xs L i k σx σm else
  (if xs n0 &&& 31 = 23 then f_lawC23 xs L i k σx σm else
  (if xs n0 &&& 31 = 24 then f_lawC24 xs L i k σx σm else
  (if xs n0 &&& 31 = 25 then f_lawC25 xs L i k σx σm else
  (if xs n0 &&& 31 = 26 then f_lawC26 xs L i k σx σm else
  (if xs n0 &&& 31 = 27 then f_lawC27 xs L i k σx σm else
  (if xs n0 &&& 31 = 28 then f_lawC28 xs L i k σx σm else
  (if xs n0 &&& 31 = 29 then f_lawC29 xs L i k σx σm else
  k σx σm)))))))))))))))))))))))))))))))
def f_lawL (xs : Nat → Int32) (L : Nat) : Nat → Int32 → gz_S → gz_S → Option Unit
  | 0, i, _, _ => if Int32.ofNat L - 6 < i then some () else none
  | n + 1, i, σx, σm => if Int32.ofNat L - 6 < i then some () else f_lawB xs L i (fun u v => f_lawL xs L n (i + 6) u v) σx σm
set_option maxHeartbeats 4000000 in
set_option maxRecDepth 100000 in
theorem c_lawB {p : Program} {l : Launch} {e : Jvm.Env} {s : State} {m : MethodId} {args : Array Value} {below : List Frame} {meth : Method} {c : Code} {G : gz_G} {QQ : Unit → State → Prop} {bb L ce sl : Nat} {xs : Nat → Int32} {i : Int32} {k : gz_S → gz_S → Option Unit} (C : gz_X p s m meth c G code R_law 4 (some .boolean)) (hX : va_X bb L xs s s.heap) (hbl : bb < s.heap.size) (hbA : ¬ G.1 ≤ bb) (hce : ce + 1 ≤ 601024) (hsl : sl + 60 ≤ 7293034) (hk : ∀ u v, gq_W (gl_H G) (fun q => G.1 ≤ q) p l e room_1 s m args below meth c 4 QQ (ce + 1) (sl + 60) (u, v) 1331 [(0, .ref bb), (1, .ref (gz_ad false G 0 0)), (2, .ref (gz_ad true G 0 0)), (3, .int i)] [] (k u v)) (σx σm : gz_S) : gq_W (gl_H G) (fun q => G.1 ≤ q) p l e room_1 s m args below meth c 4 QQ ce sl (σx, σm) 27 [(0, .ref bb), (1, .ref (gz_ad false G 0 0)), (2, .ref (gz_ad true G 0 0)), (3, .int i)] [] (f_lawB xs L i k σx σm) := by
    unfold f_lawB
    refine gq_aload_n C dL_law_27 0 rfl ?_
    refine gq_iload_n C dL_law_28 3 rfl ?_
    refine gl_sld C hX hbl hbA dL_law_29 (fun n0 => ?_)
    refine gq_bipush C dL_law_30 gk_bipush_31 ?_
    refine gq_iand C dL_law_32 ?_
    refine gq_case 0 (fun hx0 => ?_) (fun hx0 => ?_)
    · rw [hx0]
      refine gq_tin (tgt := 168) (off := 135) C dL_law_33 (by decide) (by decide) rfl (by decide) ?_
      exact c_lawC0 C hX hbl hbA hce hsl hk σx σm
    refine gq_case 1 (fun hx1 => ?_) (fun hx1 => ?_)
    · rw [hx1]
      refine gq_tin (tgt := 217) (off := 184) C dL_law_33 (by decide) (by decide) rfl (by decide) ?_
      exact c_lawC1 C hX hbl hbA hce hsl hk σx σm
    refine gq_case 2 (fun hx2 => ?_) (fun hx2 => ?_)
    · rw [hx2]
      refine gq_tin (tgt := 240) (off := 207) C dL_law_33 (by decide) (by decide) rfl (by decide) ?_
      exact c_lawC2 C hX hbl hbA hce hsl hk σx σm
    refine gq_case 3 (fun hx3 => ?_) (fun hx3 => ?_)
    · rw [hx3]
      refine gq_tin (tgt := 299) (off := 266) C dL_law_33 (by decide) (by decide) rfl (by decide) ?_
      exact c_lawC3 C hX hbl hbA hce hsl hk σx σm
    refine gq_case 4 (fun hx4 => ?_) (fun hx4 => ?_)
    · rw [hx4]
      refine gq_tin (tgt := 362) (off := 329) C dL_law_33 (by decide) (by decide) rfl (by decide) ?_
      exact c_lawC4 C hX hbl hbA hce hsl hk σx σm
    refine gq_case 5 (fun hx5 => ?_) (fun hx5 => ?_)
    · rw [hx5]
      refine gq_tin (tgt := 385) (off := 352) C dL_law_33 (by decide) (by decide) rfl (by decide) ?_
      exact c_lawC5 C hX hbl hbA hce hsl hk σx σm
    refine gq_case 6 (fun hx6 => ?_) (fun hx6 => ?_)
    · rw [hx6]
      refine gq_tin (tgt := 438) (off := 405) C dL_law_33 (by decide) (by decide) rfl (by decide) ?_
      exact c_lawC6 C hX hbl hbA hce hsl hk σx σm
    refine gq_case 7 (fun hx7 => ?_) (fun hx7 => ?_)
    · rw [hx7]
      refine gq_tin (tgt := 451) (off := 418) C dL_law_33 (by decide) (by decide) rfl (by decide) ?_
      exact c_lawC7 C hX hbl hbA hce hsl hk σx σm
    refine gq_case 8 (fun hx8 => ?_) (fun hx8 => ?_)
    · rw [hx8]
      refine gq_tin (tgt := 464) (off := 431) C dL_law_33 (by decide) (by decide) rfl (by decide) ?_
      exact c_lawC8 C hX hbl hbA hce hsl hk σx σm
    refine gq_case 9 (fun hx9 => ?_) (fun hx9 => ?_)
    · rw [hx9]
      refine gq_tin (tgt := 477) (off := 444) C dL_law_33 (by decide) (by decide) rfl (by decide) ?_
      exact c_lawC9 C hX hbl hbA hce hsl hk σx σm
    refine gq_case 10 (fun hx10 => ?_) (fun hx10 => ?_)
    · rw [hx10]
      refine gq_tin (tgt := 520) (off := 487) C dL_law_33 (by decide) (by decide) rfl (by decide) ?_
      exact c_lawC10 C hX hbl hbA hce hsl hk σx σm
    refine gq_case 11 (fun hx11 => ?_) (fun hx11 => ?_)
    · rw [hx11]
      refine gq_tin (tgt := 543) (off := 510) C dL_law_33 (by decide) (by decide) rfl (by decide) ?_
      exact c_lawC11 C hX hbl hbA hce hsl hk σx σm
    refine gq_case 12 (fun hx12 => ?_) (fun hx12 => ?_)
    · rw [hx12]
      refine gq_tin (tgt := 577) (off := 544) C dL_law_33 (by decide) (by decide) rfl (by decide) ?_
      exact c_lawC12 C hX hbl hbA hce hsl hk σx σm
    refine gq_case 13 (fun hx13 => ?_) (fun hx13 => ?_)
    · rw [hx13]
      refine gq_tin (tgt := 610) (off := 577) C dL_law_33 (by decide) (by decide) rfl (by decide) ?_
      exact c_lawC13 C hX hbl hbA hce hsl hk σx σm
    refine gq_case 14 (fun hx14 => ?_) (fun hx14 => ?_)
    · rw [hx14]
      refine gq_tin (tgt := 663) (off := 630) C dL_law_33 (by decide) (by decide) rfl (by decide) ?_
      exact c_lawC14 C hX hbl hbA hce hsl hk σx σm
    refine gq_case 15 (fun hx15 => ?_) (fun hx15 => ?_)
    · rw [hx15]
      refine gq_tin (tgt := 696) (off := 663) C dL_law_33 (by decide) (by decide) rfl (by decide) ?_
      exact c_lawC15 C hX hbl hbA hce hsl hk σx σm
    refine gq_case 16 (fun hx16 => ?_) (fun hx16 => ?_)
    · rw [hx16]
      refine gq_tin (tgt := 799) (off := 766) C dL_law_33 (by decide) (by decide) rfl (by decide) ?_
      exact c_lawC16 C hX hbl hbA hce hsl hk σx σm
    refine gq_case 17 (fun hx17 => ?_) (fun hx17 => ?_)
    · rw [hx17]
      refine gq_tin (tgt := 862) (off := 829) C dL_law_33 (by decide) (by decide) rfl (by decide) ?_
      exact c_lawC17 C hX hbl hbA hce hsl hk σx σm
    refine gq_case 18 (fun hx18 => ?_) (fun hx18 => ?_)
    · rw [hx18]
      refine gq_tin (tgt := 915) (off := 882) C dL_law_33 (by decide) (by decide) rfl (by decide) ?_
      exact c_lawC18 C hX hbl hbA hce hsl hk σx σm
    refine gq_case 19 (fun hx19 => ?_) (fun hx19 => ?_)
    · rw [hx19]
      refine gq_tin (tgt := 948) (off := 915) C dL_law_33 (by decide) (by decide) rfl (by decide) ?_
      exact c_lawC19 C hX hbl hbA hce hsl hk σx σm
    refine gq_case 20 (fun hx20 => ?_) (fun hx20 => ?_)
    · rw [hx20]
      refine gq_tin (tgt := 981) (off := 948) C dL_law_33 (by decide) (by decide) rfl (by decide) ?_
      exact c_lawC20 C hX hbl hbA hce hsl hk σx σm
    refine gq_case 21 (fun hx21 => ?_) (fun hx21 => ?_)
    · rw [hx21]
      refine gq_tin (tgt := 1024) (off := 991) C dL_law_33 (by decide) (by decide) rfl (by decide) ?_
      exact c_lawC21 C hX hbl hbA hce hsl hk σx σm
    refine gq_case 22 (fun hx22 => ?_) (fun hx22 => ?_)
    · rw [hx22]
      refine gq_tin (tgt := 1067) (off := 1034) C dL_law_33 (by decide) (by decide) rfl (by decide) ?_
      exact c_lawC22 C hX hbl hbA hce hsl hk σx σm
    refine gq_case 23 (fun hx23 => ?_) (fun hx23 => ?_)
    · rw [hx23]
      refine gq_tin (tgt := 1100) (off := 1067) C dL_law_33 (by decide) (by decide) rfl (by decide) ?_
      exact c_lawC23 C hX hbl hbA hce hsl hk σx σm
    refine gq_case 24 (fun hx24 => ?_) (fun hx24 => ?_)
    · rw [hx24]
      refine gq_tin (tgt := 1133) (off := 1100) C dL_law_33 (by decide) (by decide) rfl (by decide) ?_
      exact c_lawC24 C hX hbl hbA hce hsl hk σx σm
    refine gq_case 25 (fun hx25 => ?_) (fun hx25 => ?_)
    · rw [hx25]
      refine gq_tin (tgt := 1196) (off := 1163) C dL_law_33 (by decide) (by decide) rfl (by decide) ?_
      exact c_lawC25 C hX hbl hbA hce hsl hk σx σm
    refine gq_case 26 (fun hx26 => ?_) (fun hx26 => ?_)
    · rw [hx26]
      refine gq_tin (tgt := 1219) (off := 1186) C dL_law_33 (by decide) (by decide) rfl (by decide) ?_
      exact c_lawC26 C hX hbl hbA hce hsl hk σx σm
    refine gq_case 27 (fun hx27 => ?_) (fun hx27 => ?_)
    · rw [hx27]
      refine gq_tin (tgt := 1282) (off := 1249) C dL_law_33 (by decide) (by decide) rfl (by decide) ?_
      exact c_lawC27 C hX hbl hbA hce hsl hk σx σm
    refine gq_case 28 (fun hx28 => ?_) (fun hx28 => ?_)
    · rw [hx28]
      refine gq_tin (tgt := 1295) (off := 1262) C dL_law_33 (by decide) (by decide) rfl (by decide) ?_
      exact c_lawC28 C hX hbl hbA hce hsl hk σx σm
    refine gq_case 29 (fun hx29 => ?_) (fun hx29 => ?_)
    · rw [hx29]
      refine gq_tin (tgt := 1318) (off := 1285) C dL_law_33 (by decide) (by decide) rfl (by decide) ?_
      exact c_lawC29 C hX hbl hbA hce hsl hk σx σm
    refine gq_tout (tgt := 1331) C dL_law_33 (by have q0 := lv_neT hx0 (a := 0) (by decide); have q1 := lv_neT hx1 (a := 1) (by decide); have q2 := lv_neT hx2 (a := 2) (by decide); have q3 := lv_neT hx3 (a := 3) (by decide); have q4 := lv_neT hx4 (a := 4) (by decide); have q5 := lv_neT hx5 (a := 5) (by decide); have q6 := lv_neT hx6 (a := 6) (by decide); have q7 := lv_neT hx7 (a := 7) (by decide); have q8 := lv_neT hx8 (a := 8) (by decide); have q9 := lv_neT hx9 (a := 9) (by decide); have q10 := lv_neT hx10 (a := 10) (by decide); have q11 := lv_neT hx11 (a := 11) (by decide); have q12 := lv_neT hx12 (a := 12) (by decide); have q13 := lv_neT hx13 (a := 13) (by decide); have q14 := lv_neT hx14 (a := 14) (by decide); have q15 := lv_neT hx15 (a := 15) (by decide); have q16 := lv_neT hx16 (a := 16) (by decide); have q17 := lv_neT hx17 (a := 17) (by decide); have q18 := lv_neT hx18 (a := 18) (by decide); have q19 := lv_neT hx19 (a := 19) (by decide); have q20 := lv_neT hx20 (a := 20) (by decide); have q21 := lv_neT hx21 (a := 21) (by decide); have q22 := lv_neT hx22 (a := 22) (by decide); have q23 := lv_neT hx23 (a := 23) (by decide); have q24 := lv_neT hx24 (a := 24) (by decide); have q25 := lv_neT hx25 (a := 25) (by decide); have q26 := lv_neT hx26 (a := 26) (by decide); have q27 := lv_neT hx27 (a := 27) (by decide); have q28 := lv_neT hx28 (a := 28) (by decide); have q29 := lv_neT hx29 (a := 29) (by decide); omega) (by decide) ?_
    exact gq_wid (ce1 := ce + 1) (sl1 := sl + 60) (by omega) (by omega) (hk σx σm)

theorem c_lawL {p : Program} {l : Launch} {e : Jvm.Env} {s : State} {m : MethodId} {args : Array Value} {below : List Frame} {meth : Method} {c : Code} {G : gz_G} {QQ : Unit → State → Prop} {bb L  : Nat} {xs : Nat → Int32} (C : gz_X p s m meth c G code R_law 4 (some .boolean)) (hX : va_X bb L xs s s.heap) (hbl : bb < s.heap.size) (hbA : ¬ G.1 ≤ bb) (hQ : QQ () = lw_Z below #[Value.ref bb] s) (ha : args = #[Value.ref bb]) (hG : G.1 = s.heap.size) : ∀ (n ce sl : Nat) (i : Int32) (σx σm : gz_S), ce + n + 1 ≤ 601024 → sl + 60 * n + 60 ≤ 7293034 → gq_W (gl_H G) (fun q => G.1 ≤ q) p l e room_1 s m args below meth c 4 QQ ce sl (σx, σm) 18 [(0, .ref bb), (1, .ref (gz_ad false G 0 0)), (2, .ref (gz_ad true G 0 0)), (3, .int i)] [] (f_lawL xs L n i σx σm) := by
  intro n
  induction n with
  | zero =>
    intro ce sl i σx σm hce hsl
    unfold f_lawL
    refine gq_iload_n C dL_law_18 3 rfl ?_
    refine gq_aload_n C dL_law_19 0 rfl ?_
    refine gl_slen C hX hbl hbA dL_law_20 ?_
    refine gq_bipush C dL_law_21 gk_bipush_6 ?_
    refine gq_isub C dL_law_23 ?_
    refine gq_icmp_gt (tgt := 1337) C dL_law_24 (by decide) ?_ ?_
    · refine gq_iconst C dL_law_1337 gk_iconst_1 ?_
      exact gl_end C hQ ha rfl rfl hG (by omega) (by omega) dL_law_1338
    · exact gq_none
  | succ n ih =>
    intro ce sl i σx σm hce hsl
    unfold f_lawL
    refine gq_iload_n C dL_law_18 3 rfl ?_
    refine gq_aload_n C dL_law_19 0 rfl ?_
    refine gl_slen C hX hbl hbA dL_law_20 ?_
    refine gq_bipush C dL_law_21 gk_bipush_6 ?_
    refine gq_isub C dL_law_23 ?_
    refine gq_icmp_gt (tgt := 1337) C dL_law_24 (by decide) ?_ ?_
    · refine gq_iconst C dL_law_1337 gk_iconst_1 ?_
      exact gl_end C hQ ha rfl rfl hG (by omega) (by omega) dL_law_1338
    · refine c_lawB C hX hbl hbA (by omega) (by omega) (fun u v => ?_) σx σm
      refine gq_iinc C (q := 3) (v := i + 6) (lv' := [(3, .int (i + 6)), (0, .ref bb), (1, .ref (gz_ad false G 0 0)), (2, .ref (gz_ad true G 0 0))]) dL_law_1331 rfl rfl (by decide) rfl ?_
      refine gq_goto (tgt := 18) C dL_law_1334 (by decide) ?_
      refine gq_lv (lv' := [(0, .ref bb), (1, .ref (gz_ad false G 0 0)), (2, .ref (gz_ad true G 0 0)), (3, .int (i + 6))]) [1, 2, 3, 0] rfl ?_
      exact ih (ce + 1) (sl + 60) (i + 6) u v (by omega) (by omega)

