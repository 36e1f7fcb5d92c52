def f_X11_notice (a1 : Int32) (a2 : Int32) (a3 : Int32) (a4 : Int32) (σ : gz_S) : Option (Int32 × gz_S) :=
  gz_w (gz_si σ 0 0 0 0) (fun σ1 =>
  gz_call (f_X11_isForm a1 σ1) (fun r3 σ2 =>
  if r3 = 0 then
  (gz_call (f_X11_refused 1 σ2) (fun r47 σ46 =>
  some (r47, σ46)))
  else
  (if a2 < 0 then
  (gz_call (f_X11_refused 2 σ2) (fun r5 σ4 =>
  some (r5, σ4)))
  else
  (if (σ2.1 0 0 14) < a2 then
  (gz_call (f_X11_refused 2 σ2) (fun r7 σ6 =>
  some (r7, σ6)))
  else
  (gz_call (f_X11_in a3 1 60 σ2) (fun r9 σ8 =>
  if r9 = 0 then
  (gz_call (f_X11_refused 2 σ8) (fun r11 σ10 =>
  some (r11, σ10)))
  else
  (gz_call (f_X11_isDay a4 σ8) (fun r13 σ12 =>
  if r13 = 0 then
  (gz_call (f_X11_refused 2 σ12) (fun r45 σ44 =>
  some (r45, σ44)))
  else
  (gz_then (f_X11_start a2 σ12) (fun σ14 =>
  gz_tcatch (f_X11_readNotice a1 σ14) (fun r15 σ16 =>
  if (σ16.1 0 0 29) = 60 then
  (gz_call (f_X11_refused 3 σ16) (fun r41 σ40 =>
  some (r41, σ40)))
  else
  (gz_ix (σ16.1 0 0 29) 61 (fun n18 =>
  gz_w (gz_si σ16 15 0 n18 a1) (fun σ19 =>
  gz_ix (σ19.1 0 0 29) 61 (fun n20 =>
  gz_w (gz_si σ19 16 0 n20 a3) (fun σ21 =>
  gz_ix (σ21.1 0 0 29) 61 (fun n22 =>
  gz_w (gz_si σ21 17 0 n22 a4) (fun σ23 =>
  gz_ix (σ23.1 0 0 29) 61 (fun n24 =>
  gz_w (gz_si σ23 18 0 n24 (-1)) (fun σ25 =>
  gz_ix (σ25.1 0 0 29) 61 (fun n26 =>
  gz_w (gz_si σ25 19 0 n26 0) (fun σ27 =>
  gz_ix (σ27.1 0 0 29) 61 (fun n28 =>
  gz_w (gz_si σ27 20 0 n28 (-1)) (fun σ29 =>
  gz_ix (σ29.1 0 0 29) 61 (fun n30 =>
  gz_w (gz_sj σ29 22 0 n30 0) (fun σ31 =>
  gz_ix (σ31.1 0 0 29) 61 (fun n32 =>
  gz_w (gz_sj σ31 23 0 n32 0) (fun σ33 =>
  gz_ix (σ33.1 0 0 29) 61 (fun n34 =>
  gz_w (gz_sj σ33 24 0 n34 0) (fun σ35 =>
  gz_then (f_X11_act 2 (σ35.1 0 0 29) 0 0 σ35) (fun σ36 =>
  gz_w (gz_si σ36 0 0 29 ((σ36.1 0 0 29) + 1)) (fun σ37 =>
  gz_call (f_X11_done ((σ37.1 0 0 29) - 1) σ37) (fun r39 σ38 =>
  some (r39, σ38)))))))))))))))))))))))) (fun σ17 =>
  gz_call (f_X11_wrong σ17) (fun r43 σ42 =>
  some (r43, σ42)))))))))))))
set_option maxHeartbeats 4000000 in
set_option maxRecDepth 100000 in
theorem c_X11_notice (l : Launch) (G : gz_G) (a1 : Int32) (a2 : Int32) (a3 : Int32) (a4 : Int32) (σ : gz_S) : ∀ o, f_X11_notice a1 a2 a3 a4 σ = some o → gz_MT l true G yX11_notice (.codeWith yX11_notice cX11_notice 6 (some .int) [(60, 65, 68, 36)]) { frames := 4, cells := 0, slots := 0, locals := 88 } [.ref (gz_ad true G 0 0), .int a1, .int a2, .int a3, .int a4] σ (gz_tn o) 0 0 := by
  refine gz_enterH RX11 rfl (by decide) (Nat.le_of_ble_eq_true rfl) ?_
  intro p e s m args below meth c C hE
  refine gz_eqs (st' := []) (lv' := [(0, .ref (gz_ad true G 0 0)), (1, .int a1), (2, .int a2), (3, .int a3), (4, .int a4)]) rfl rfl ?_
  unfold f_X11_notice
  refine gz_aload_n C dX11_notice_0 0 rfl ?_
  refine gz_iconst C dX11_notice_1 gk_iconst_0 ?_
  refine gz_putI C (t := 0) (k := 0) (ci := 11) (q := (RX11, TX11, 63)) dX11_notice_2 fl_RX11_158 (gz_hm0 _) rfl rfl (by decide) rfl rfl rfl rfl ?_
  refine gz_w_row (fun σ1 => ?_)
  refine gz_aload_n C dX11_notice_5 0 rfl ?_
  refine gz_iload_n C dX11_notice_6 1 rfl ?_
  refine gz_ki (gz_runV (t := 0) (ci := 11) (q := (RX11, TX11, 63)) (As := [.int a1]) (rest := []) C dX11_notice_7 ml_RX11_318 mw_X11_isForm mv_X11_isForm (c_X11_isForm l G a1 σ1) (gz_hm0 _) rfl rfl rfl rfl rfl (Nat.le_of_ble_eq_true rfl) ⟨rfl, rfl, Nat.le_of_ble_eq_true rfl, Nat.le_of_ble_eq_true rfl, Nat.le_of_ble_eq_true rfl, Nat.le_of_ble_eq_true rfl⟩) (fun r3 σ2 => ?_)
  refine gz_if_ne (tgt := 19) C dX11_notice_10 (by decide) ?_ ?_
  · skip
    refine gz_iload_n C dX11_notice_19 2 rfl ?_
    refine gz_if_lt (tgt := 49) C dX11_notice_20 (by decide) ?_ ?_
    · skip
      refine gz_aload_n C dX11_notice_49 0 rfl ?_
      refine gz_iconst C dX11_notice_50 gk_iconst_2 ?_
      refine gz_ki (gz_runV (t := 0) (ci := 11) (q := (RX11, TX11, 63)) (As := [.int 2]) (rest := []) C dX11_notice_51 ml_RX11_194 mw_X11_refused mv_X11_refused (c_X11_refused l G 2 σ2) (gz_hm0 _) rfl rfl rfl rfl rfl (Nat.le_of_ble_eq_true rfl) ⟨rfl, rfl, Nat.le_of_ble_eq_true rfl, Nat.le_of_ble_eq_true rfl, Nat.le_of_ble_eq_true rfl, Nat.le_of_ble_eq_true rfl⟩) (fun r5 σ4 => ?_)
      exact gz_iretT C rfl dX11_notice_54
    · skip
      refine gz_iload_n C dX11_notice_23 2 rfl ?_
      refine gz_aload_n C dX11_notice_24 0 rfl ?_
      refine gz_get C (t := 0) (k := 14) (ci := 11) (q := (RX11, TX11, 63)) (v := .int (σ2.1 0 0 14)) dX11_notice_25 fl_RX11_264 (gz_hm0 _) rfl rfl (by decide) rfl ?_
      refine gz_icmp_gt (tgt := 49) C dX11_notice_28 (by decide) ?_ ?_
      · skip
        refine gz_aload_n C dX11_notice_49 0 rfl ?_
        refine gz_iconst C dX11_notice_50 gk_iconst_2 ?_
        refine gz_ki (gz_runV (t := 0) (ci := 11) (q := (RX11, TX11, 63)) (As := [.int 2]) (rest := []) C dX11_notice_51 ml_RX11_194 mw_X11_refused mv_X11_refused (c_X11_refused l G 2 σ2) (gz_hm0 _) rfl rfl rfl rfl rfl (Nat.le_of_ble_eq_true rfl) ⟨rfl, rfl, Nat.le_of_ble_eq_true rfl, Nat.le_of_ble_eq_true rfl, Nat.le_of_ble_eq_true rfl, Nat.le_of_ble_eq_true rfl⟩) (fun r7 σ6 => ?_)
        exact gz_iretT C rfl dX11_notice_54
      · skip
        refine gz_iload_n C dX11_notice_31 3 rfl ?_
        refine gz_iconst C dX11_notice_32 gk_iconst_1 ?_
        refine gz_bipush C dX11_notice_33 gk_bipush_60 ?_
        refine gz_ki (gz_runS (As := [.int a3, .int 1, .int 60]) (rest := []) C dX11_notice_35 ml_RX11_203 mw_X11_in ms_X11_in (c_X11_in l G a3 1 60 σ2) rfl rfl (Nat.le_of_ble_eq_true rfl) ⟨rfl, rfl, Nat.le_of_ble_eq_true rfl, Nat.le_of_ble_eq_true rfl, Nat.le_of_ble_eq_true rfl, Nat.le_of_ble_eq_true rfl⟩) (fun r9 σ8 => ?_)
        refine gz_if_eq (tgt := 49) C dX11_notice_38 (by decide) ?_ ?_
        · skip
          refine gz_aload_n C dX11_notice_49 0 rfl ?_
          refine gz_iconst C dX11_notice_50 gk_iconst_2 ?_
          refine gz_ki (gz_runV (t := 0) (ci := 11) (q := (RX11, TX11, 63)) (As := [.int 2]) (rest := []) C dX11_notice_51 ml_RX11_194 mw_X11_refused mv_X11_refused (c_X11_refused l G 2 σ8) (gz_hm0 _) rfl rfl rfl rfl rfl (Nat.le_of_ble_eq_true rfl) ⟨rfl, rfl, Nat.le_of_ble_eq_true rfl, Nat.le_of_ble_eq_true rfl, Nat.le_of_ble_eq_true rfl, Nat.le_of_ble_eq_true rfl⟩) (fun r11 σ10 => ?_)
          exact gz_iretT C rfl dX11_notice_54
        · skip
          refine gz_iload C dX11_notice_41 4 rfl ?_
          refine gz_ki (gz_runS (As := [.int a4]) (rest := []) C dX11_notice_43 ml_RX11_176 mw_X11_isDay ms_X11_isDay (c_X11_isDay l G a4 σ8) rfl rfl (Nat.le_of_ble_eq_true rfl) ⟨rfl, rfl, Nat.le_of_ble_eq_true rfl, Nat.le_of_ble_eq_true rfl, Nat.le_of_ble_eq_true rfl, Nat.le_of_ble_eq_true rfl⟩) (fun r13 σ12 => ?_)
          refine gz_if_ne (tgt := 55) C dX11_notice_46 (by decide) ?_ ?_
          · skip
            refine gz_aload_n C dX11_notice_55 0 rfl ?_
            refine gz_iload_n C dX11_notice_56 2 rfl ?_
            refine gz_kv (gz_runV (t := 0) (ci := 11) (q := (RX11, TX11, 63)) (As := [.int a2]) (rest := []) C dX11_notice_57 ml_RX11_308 mw_X11_start mv_X11_start (c_X11_start l G a2 σ12) (gz_hm0 _) rfl rfl rfl rfl rfl (Nat.le_of_ble_eq_true rfl) ⟨rfl, rfl, Nat.le_of_ble_eq_true rfl, Nat.le_of_ble_eq_true rfl, Nat.le_of_ble_eq_true rfl, Nat.le_of_ble_eq_true rfl⟩) (fun σ14 => ?_)
            refine gz_aload_n C dX11_notice_60 0 rfl ?_
            refine gz_iload_n C dX11_notice_61 1 rfl ?_
            refine gz_kc C hE (by decide) (by decide) (by decide) cl_stop (gz_runVT (t := 0) (ci := 11) (q := (RX11, TX11, 63)) (As := [.int a1]) (rest := []) C dX11_notice_62 ml_RX11_325 (gz_mt_code mw_X11_readNotice) mv_X11_readNotice (c_X11_readNotice l G a1 σ14) (gz_hm0 _) rfl rfl rfl rfl rfl (Nat.le_of_ble_eq_true rfl) ⟨rfl, rfl, Nat.le_of_ble_eq_true rfl, Nat.le_of_ble_eq_true rfl, Nat.le_of_ble_eq_true rfl, Nat.le_of_ble_eq_true rfl⟩) (fun r15 σ16 => ?_) (fun σ17 => ?_)
            · refine gz_eqs (st' := []) (lv' := [(0, .ref (gz_ad true G 0 0)), (1, .int a1), (2, .int a2), (3, .int a3), (4, .int a4)]) rfl rfl ?_
              refine gz_goto (tgt := 77) C dX11_notice_65 (by decide) ?_
              refine gz_aload_n C dX11_notice_77 0 rfl ?_
              refine gz_get C (t := 0) (k := 29) (ci := 11) (q := (RX11, TX11, 63)) (v := .int (σ16.1 0 0 29)) dX11_notice_78 fl_RX11_173 (gz_hm0 _) rfl rfl (by decide) rfl ?_
              refine gz_bipush C dX11_notice_81 gk_bipush_60 ?_
              refine gz_icmp_ne (tgt := 92) C dX11_notice_83 (by decide) ?_ ?_
              · skip
                refine gz_aload_n C dX11_notice_92 0 rfl ?_
                refine gz_get C (t := 0) (k := 32) (ci := 11) (q := (RX11, TX11, 63)) (v := .ref (gz_ad true G 15 0)) dX11_notice_93 fl_RX11_71 (gz_hm0 _) rfl rfl (by decide) rfl ?_
                refine gz_aload_n C dX11_notice_96 0 rfl ?_
                refine gz_get C (t := 0) (k := 29) (ci := 11) (q := (RX11, TX11, 63)) (v := .int (σ16.1 0 0 29)) dX11_notice_97 fl_RX11_173 (gz_hm0 _) rfl rfl (by decide) rfl ?_
                refine gz_iload_n C dX11_notice_100 1 rfl ?_
                refine gz_iast C (t := 15) dX11_notice_101 (gz_hm15 _) rfl (fun n18 hn18 => ?_)
                refine gz_w_row (fun σ19 => ?_)
                refine gz_aload_n C dX11_notice_102 0 rfl ?_
                refine gz_get C (t := 0) (k := 33) (ci := 11) (q := (RX11, TX11, 63)) (v := .ref (gz_ad true G 16 0)) dX11_notice_103 fl_RX11_74 (gz_hm0 _) rfl rfl (by decide) rfl ?_
                refine gz_aload_n C dX11_notice_106 0 rfl ?_
                refine gz_get C (t := 0) (k := 29) (ci := 11) (q := (RX11, TX11, 63)) (v := .int (σ19.1 0 0 29)) dX11_notice_107 fl_RX11_173 (gz_hm0 _) rfl rfl (by decide) rfl ?_
                refine gz_iload_n C dX11_notice_110 3 rfl ?_
                refine gz_iast C (t := 16) dX11_notice_111 (gz_hm16 _) rfl (fun n20 hn20 => ?_)
                refine gz_w_row (fun σ21 => ?_)
                refine gz_aload_n C dX11_notice_112 0 rfl ?_
                refine gz_get C (t := 0) (k := 34) (ci := 11) (q := (RX11, TX11, 63)) (v := .ref (gz_ad true G 17 0)) dX11_notice_113 fl_RX11_77 (gz_hm0 _) rfl rfl (by decide) rfl ?_
                refine gz_aload_n C dX11_notice_116 0 rfl ?_
                refine gz_get C (t := 0) (k := 29) (ci := 11) (q := (RX11, TX11, 63)) (v := .int (σ21.1 0 0 29)) dX11_notice_117 fl_RX11_173 (gz_hm0 _) rfl rfl (by decide) rfl ?_
                refine gz_iload C dX11_notice_120 4 rfl ?_
                refine gz_iast C (t := 17) dX11_notice_122 (gz_hm17 _) rfl (fun n22 hn22 => ?_)
                refine gz_w_row (fun σ23 => ?_)
                refine gz_aload_n C dX11_notice_123 0 rfl ?_
                refine gz_get C (t := 0) (k := 35) (ci := 11) (q := (RX11, TX11, 63)) (v := .ref (gz_ad true G 18 0)) dX11_notice_124 fl_RX11_80 (gz_hm0 _) rfl rfl (by decide) rfl ?_
                refine gz_aload_n C dX11_notice_127 0 rfl ?_
                refine gz_get C (t := 0) (k := 29) (ci := 11) (q := (RX11, TX11, 63)) (v := .int (σ23.1 0 0 29)) dX11_notice_128 fl_RX11_173 (gz_hm0 _) rfl rfl (by decide) rfl ?_
                refine gz_iconst C dX11_notice_131 gk_iconst_m1 ?_
                refine gz_iast C (t := 18) dX11_notice_132 (gz_hm18 _) rfl (fun n24 hn24 => ?_)
                refine gz_w_row (fun σ25 => ?_)
                refine gz_aload_n C dX11_notice_133 0 rfl ?_
                refine gz_get C (t := 0) (k := 36) (ci := 11) (q := (RX11, TX11, 63)) (v := .ref (gz_ad true G 19 0)) dX11_notice_134 fl_RX11_83 (gz_hm0 _) rfl rfl (by decide) rfl ?_
                refine gz_aload_n C dX11_notice_137 0 rfl ?_
                refine gz_get C (t := 0) (k := 29) (ci := 11) (q := (RX11, TX11, 63)) (v := .int (σ25.1 0 0 29)) dX11_notice_138 fl_RX11_173 (gz_hm0 _) rfl rfl (by decide) rfl ?_
                refine gz_iconst C dX11_notice_141 gk_iconst_0 ?_
                refine gz_iast C (t := 19) dX11_notice_142 (gz_hm19 _) rfl (fun n26 hn26 => ?_)
                refine gz_w_row (fun σ27 => ?_)
                refine gz_aload_n C dX11_notice_143 0 rfl ?_
                refine gz_get C (t := 0) (k := 37) (ci := 11) (q := (RX11, TX11, 63)) (v := .ref (gz_ad true G 20 0)) dX11_notice_144 fl_RX11_86 (gz_hm0 _) rfl rfl (by decide) rfl ?_
                refine gz_aload_n C dX11_notice_147 0 rfl ?_
                refine gz_get C (t := 0) (k := 29) (ci := 11) (q := (RX11, TX11, 63)) (v := .int (σ27.1 0 0 29)) dX11_notice_148 fl_RX11_173 (gz_hm0 _) rfl rfl (by decide) rfl ?_
                refine gz_iconst C dX11_notice_151 gk_iconst_m1 ?_
                refine gz_iast C (t := 20) dX11_notice_152 (gz_hm20 _) rfl (fun n28 hn28 => ?_)
                refine gz_w_row (fun σ29 => ?_)
                refine gz_aload_n C dX11_notice_153 0 rfl ?_
                refine gz_get C (t := 0) (k := 39) (ci := 11) (q := (RX11, TX11, 63)) (v := .ref (gz_ad true G 22 0)) dX11_notice_154 fl_RX11_92 (gz_hm0 _) rfl rfl (by decide) rfl ?_
                refine gz_aload_n C dX11_notice_157 0 rfl ?_
                refine gz_get C (t := 0) (k := 29) (ci := 11) (q := (RX11, TX11, 63)) (v := .int (σ29.1 0 0 29)) dX11_notice_158 fl_RX11_173 (gz_hm0 _) rfl rfl (by decide) rfl ?_
                refine gz_lconst C dX11_notice_161 gk_lconst_0 ?_
                refine gz_last C (t := 22) dX11_notice_162 (gz_hm22 _) rfl (fun n30 hn30 => ?_)
                refine gz_w_row (fun σ31 => ?_)
                refine gz_aload_n C dX11_notice_163 0 rfl ?_
                refine gz_get C (t := 0) (k := 40) (ci := 11) (q := (RX11, TX11, 63)) (v := .ref (gz_ad true G 23 0)) dX11_notice_164 fl_RX11_95 (gz_hm0 _) rfl rfl (by decide) rfl ?_
                refine gz_aload_n C dX11_notice_167 0 rfl ?_
                refine gz_get C (t := 0) (k := 29) (ci := 11) (q := (RX11, TX11, 63)) (v := .int (σ31.1 0 0 29)) dX11_notice_168 fl_RX11_173 (gz_hm0 _) rfl rfl (by decide) rfl ?_
                refine gz_lconst C dX11_notice_171 gk_lconst_0 ?_
                refine gz_last C (t := 23) dX11_notice_172 (gz_hm23 _) rfl (fun n32 hn32 => ?_)
                refine gz_w_row (fun σ33 => ?_)
                refine gz_aload_n C dX11_notice_173 0 rfl ?_
                refine gz_get C (t := 0) (k := 41) (ci := 11) (q := (RX11, TX11, 63)) (v := .ref (gz_ad true G 24 0)) dX11_notice_174 fl_RX11_98 (gz_hm0 _) rfl rfl (by decide) rfl ?_
                refine gz_aload_n C dX11_notice_177 0 rfl ?_
                refine gz_get C (t := 0) (k := 29) (ci := 11) (q := (RX11, TX11, 63)) (v := .int (σ33.1 0 0 29)) dX11_notice_178 fl_RX11_173 (gz_hm0 _) rfl rfl (by decide) rfl ?_
                refine gz_lconst C dX11_notice_181 gk_lconst_0 ?_
                refine gz_last C (t := 24) dX11_notice_182 (gz_hm24 _) rfl (fun n34 hn34 => ?_)
                refine gz_w_row (fun σ35 => ?_)
                refine gz_aload_n C dX11_notice_183 0 rfl ?_
                refine gz_iconst C dX11_notice_184 gk_iconst_2 ?_
                refine gz_aload_n C dX11_notice_185 0 rfl ?_
                refine gz_get C (t := 0) (k := 29) (ci := 11) (q := (RX11, TX11, 63)) (v := .int (σ35.1 0 0 29)) dX11_notice_186 fl_RX11_173 (gz_hm0 _) rfl rfl (by decide) rfl ?_
                refine gz_lconst C dX11_notice_189 gk_lconst_0 ?_
                refine gz_lconst C dX11_notice_190 gk_lconst_0 ?_
                refine gz_kv (gz_runV (t := 0) (ci := 11) (q := (RX11, TX11, 63)) (As := [.int 2, .int (σ35.1 0 0 29), .long 0, .long 0]) (rest := []) C dX11_notice_191 ml_RX11_183 mw_X11_act mv_X11_act (c_X11_act l G 2 (σ35.1 0 0 29) 0 0 σ35) (gz_hm0 _) rfl rfl rfl rfl rfl (Nat.le_of_ble_eq_true rfl) ⟨rfl, rfl, Nat.le_of_ble_eq_true rfl, Nat.le_of_ble_eq_true rfl, Nat.le_of_ble_eq_true rfl, Nat.le_of_ble_eq_true rfl⟩) (fun σ36 => ?_)
                refine gz_aload_n C dX11_notice_194 0 rfl ?_
                refine gz_dup C dX11_notice_195 rfl ?_
                refine gz_get C (t := 0) (k := 29) (ci := 11) (q := (RX11, TX11, 63)) (v := .int (σ36.1 0 0 29)) dX11_notice_196 fl_RX11_173 (gz_hm0 _) rfl rfl (by decide) rfl ?_
                refine gz_iconst C dX11_notice_199 gk_iconst_1 ?_
                refine gz_iadd C dX11_notice_200 ?_
                refine gz_putI C (t := 0) (k := 29) (ci := 11) (q := (RX11, TX11, 63)) dX11_notice_201 fl_RX11_173 (gz_hm0 _) rfl rfl (by decide) rfl rfl rfl rfl ?_
                refine gz_w_row (fun σ37 => ?_)
                refine gz_aload_n C dX11_notice_204 0 rfl ?_
                refine gz_aload_n C dX11_notice_205 0 rfl ?_
                refine gz_get C (t := 0) (k := 29) (ci := 11) (q := (RX11, TX11, 63)) (v := .int (σ37.1 0 0 29)) dX11_notice_206 fl_RX11_173 (gz_hm0 _) rfl rfl (by decide) rfl ?_
                refine gz_iconst C dX11_notice_209 gk_iconst_1 ?_
                refine gz_isub C dX11_notice_210 ?_
                refine gz_ki (gz_runV (t := 0) (ci := 11) (q := (RX11, TX11, 63)) (As := [.int ((σ37.1 0 0 29) - 1)]) (rest := []) C dX11_notice_211 ml_RX11_190 mw_X11_done mv_X11_done (c_X11_done l G ((σ37.1 0 0 29) - 1) σ37) (gz_hm0 _) rfl rfl rfl rfl rfl (Nat.le_of_ble_eq_true rfl) ⟨rfl, rfl, Nat.le_of_ble_eq_true rfl, Nat.le_of_ble_eq_true rfl, Nat.le_of_ble_eq_true rfl, Nat.le_of_ble_eq_true rfl⟩) (fun r39 σ38 => ?_)
                exact gz_iretT C rfl dX11_notice_214
              · skip
                refine gz_aload_n C dX11_notice_86 0 rfl ?_
                refine gz_iconst C dX11_notice_87 gk_iconst_3 ?_
                refine gz_ki (gz_runV (t := 0) (ci := 11) (q := (RX11, TX11, 63)) (As := [.int 3]) (rest := []) C dX11_notice_88 ml_RX11_194 mw_X11_refused mv_X11_refused (c_X11_refused l G 3 σ16) (gz_hm0 _) rfl rfl rfl rfl rfl (Nat.le_of_ble_eq_true rfl) ⟨rfl, rfl, Nat.le_of_ble_eq_true rfl, Nat.le_of_ble_eq_true rfl, Nat.le_of_ble_eq_true rfl, Nat.le_of_ble_eq_true rfl⟩) (fun r41 σ40 => ?_)
                exact gz_iretT C rfl dX11_notice_91
            · skip
              refine gz_astore C (lv' := [(5, .ref (gz_ad true G 6 0)), (0, .ref (gz_ad true G 0 0)), (1, .int a1), (2, .int a2), (3, .int a3), (4, .int a4)]) dX11_notice_68 (by decide) rfl ?_
              refine gz_aload_n C dX11_notice_70 1 rfl ?_
              refine gz_aload C dX11_notice_71 0 rfl ?_
              refine gz_ki (gz_runV (t := 0) (ci := 11) (q := (RX11, TX11, 63)) (As := [.ref (gz_ad true G 6 0)]) (rest := []) C dX11_notice_73 ml_RX11_314 mw_X11_wrong mv_X11_wrong (c_X11_wrong l G σ17) (gz_hm0 _) rfl rfl rfl rfl rfl (Nat.le_of_ble_eq_true rfl) ⟨rfl, rfl, Nat.le_of_ble_eq_true rfl, Nat.le_of_ble_eq_true rfl, Nat.le_of_ble_eq_true rfl, Nat.le_of_ble_eq_true rfl⟩) (fun r43 σ42 => ?_)
              exact gz_iretT C rfl dX11_notice_76
          · skip
            refine gz_aload_n C dX11_notice_49 0 rfl ?_
            refine gz_iconst C dX11_notice_50 gk_iconst_2 ?_
            refine gz_ki (gz_runV (t := 0) (ci := 11) (q := (RX11, TX11, 63)) (As := [.int 2]) (rest := []) C dX11_notice_51 ml_RX11_194 mw_X11_refused mv_X11_refused (c_X11_refused l G 2 σ12) (gz_hm0 _) rfl rfl rfl rfl rfl (Nat.le_of_ble_eq_true rfl) ⟨rfl, rfl, Nat.le_of_ble_eq_true rfl, Nat.le_of_ble_eq_true rfl, Nat.le_of_ble_eq_true rfl, Nat.le_of_ble_eq_true rfl⟩) (fun r45 σ44 => ?_)
            exact gz_iretT C rfl dX11_notice_54
  · skip
    refine gz_aload_n C dX11_notice_13 0 rfl ?_
    refine gz_iconst C dX11_notice_14 gk_iconst_1 ?_
    refine gz_ki (gz_runV (t := 0) (ci := 11) (q := (RX11, TX11, 63)) (As := [.int 1]) (rest := []) C dX11_notice_15 ml_RX11_194 mw_X11_refused mv_X11_refused (c_X11_refused l G 1 σ2) (gz_hm0 _) rfl rfl rfl rfl rfl (Nat.le_of_ble_eq_true rfl) ⟨rfl, rfl, Nat.le_of_ble_eq_true rfl, Nat.le_of_ble_eq_true rfl, Nat.le_of_ble_eq_true rfl, Nat.le_of_ble_eq_true rfl⟩) (fun r47 σ46 => ?_)
    exact gz_iretT C rfl dX11_notice_18

def f_X11_fault (σ : gz_S) : Option (Int32 × gz_S) :=
  gz_w (gz_si σ 0 0 0 0) (fun σ1 =>
  some (σ1.1 0 0 3, σ1))
set_option maxHeartbeats 4000000 in
set_option maxRecDepth 100000 in
theorem c_X11_fault (l : Launch) (G : gz_G) (σ : gz_S) : ∀ o, f_X11_fault σ = some o → gz_M l true G yX11_fault cX11_fault 1 (some .int) { frames := 0, cells := 0, slots := 0, locals := 0 } [.ref (gz_ad true G 0 0)] σ (gz_ei o) 0 0 := by
  refine gz_enter RX11 rfl (by decide) (Nat.le_of_ble_eq_true rfl) ?_
  intro p e s m args below meth c C
  refine gz_eqs (st' := []) (lv' := [(0, .ref (gz_ad true G 0 0))]) rfl rfl ?_
  unfold f_X11_fault
  refine gz_aload_n C dX11_fault_0 0 rfl ?_
  refine gz_iconst C dX11_fault_1 gk_iconst_0 ?_
  refine gz_putI C (t := 0) (k := 0) (ci := 11) (q := (RX11, TX11, 63)) dX11_fault_2 fl_RX11_158 (gz_hm0 _) rfl rfl (by decide) rfl rfl rfl rfl ?_
  refine gz_w_row (fun σ1 => ?_)
  refine gz_aload_n C dX11_fault_5 0 rfl ?_
  refine gz_get C (t := 0) (k := 3) (ci := 11) (q := (RX11, TX11, 63)) (v := .int (σ1.1 0 0 3)) dX11_fault_6 fl_RX11_267 (gz_hm0 _) rfl rfl (by decide) rfl ?_
  exact gz_iret C rfl dX11_fault_9

def f_X11_where (σ : gz_S) : Option (Int32 × gz_S) :=
  gz_w (gz_si σ 0 0 0 0) (fun σ1 =>
  some (σ1.1 0 0 2, σ1))
set_option maxHeartbeats 4000000 in
set_option maxRecDepth 100000 in
theorem c_X11_where (l : Launch) (G : gz_G) (σ : gz_S) : ∀ o, f_X11_where σ = some o → gz_M l true G yX11_where cX11_where 1 (some .int) { frames := 0, cells := 0, slots := 0, locals := 0 } [.ref (gz_ad true G 0 0)] σ (gz_ei o) 0 0 := by
  refine gz_enter RX11 rfl (by decide) (Nat.le_of_ble_eq_true rfl) ?_
  intro p e s m args below meth c C
  refine gz_eqs (st' := []) (lv' := [(0, .ref (gz_ad true G 0 0))]) rfl rfl ?_
  unfold f_X11_where
  refine gz_aload_n C dX11_where_0 0 rfl ?_
  refine gz_iconst C dX11_where_1 gk_iconst_0 ?_
  refine gz_putI C (t := 0) (k := 0) (ci := 11) (q := (RX11, TX11, 63)) dX11_where_2 fl_RX11_158 (gz_hm0 _) rfl rfl (by decide) rfl rfl rfl rfl ?_
  refine gz_w_row (fun σ1 => ?_)
  refine gz_aload_n C dX11_where_5 0 rfl ?_
  refine gz_get C (t := 0) (k := 2) (ci := 11) (q := (RX11, TX11, 63)) (v := .int (σ1.1 0 0 2)) dX11_where_6 fl_RX11_11 (gz_hm0 _) rfl rfl (by decide) rfl ?_
  exact gz_iret C rfl dX11_where_9

def f_X11_lacks (σ : gz_S) : Option (Int32 × gz_S) :=
  gz_w (gz_si σ 0 0 0 0) (fun σ1 =>
  some (σ1.1 0 0 4, σ1))
set_option maxHeartbeats 4000000 in
set_option maxRecDepth 100000 in
theorem c_X11_lacks (l : Launch) (G : gz_G) (σ : gz_S) : ∀ o, f_X11_lacks σ = some o → gz_M l true G yX11_lacks cX11_lacks 1 (some .int) { frames := 0, cells := 0, slots := 0, locals := 0 } [.ref (gz_ad true G 0 0)] σ (gz_ei o) 0 0 := by
  refine gz_enter RX11 rfl (by decide) (Nat.le_of_ble_eq_true rfl) ?_
  intro p e s m args below meth c C
  refine gz_eqs (st' := []) (lv' := [(0, .ref (gz_ad true G 0 0))]) rfl rfl ?_
  unfold f_X11_lacks
  refine gz_aload_n C dX11_lacks_0 0 rfl ?_
  refine gz_iconst C dX11_lacks_1 gk_iconst_0 ?_
  refine gz_putI C (t := 0) (k := 0) (ci := 11) (q := (RX11, TX11, 63)) dX11_lacks_2 fl_RX11_158 (gz_hm0 _) rfl rfl (by decide) rfl rfl rfl rfl ?_
  refine gz_w_row (fun σ1 => ?_)
  refine gz_aload_n C dX11_lacks_5 0 rfl ?_
  refine gz_get C (t := 0) (k := 4) (ci := 11) (q := (RX11, TX11, 63)) (v := .int (σ1.1 0 0 4)) dX11_lacks_6 fl_RX11_15 (gz_hm0 _) rfl rfl (by decide) rfl ?_
  exact gz_iret C rfl dX11_lacks_9

def f_X11_isNotice (a1 : Int32) (σ : gz_S) : Option (Int32 × gz_S) :=
  if a1 < 0 then
  (some ((0 : Int32) &&& 1, σ))
  else
  (if (σ.1 0 0 29) ≤ a1 then
  (some ((0 : Int32) &&& 1, σ))
  else
  (some ((1 : Int32) &&& 1, σ)))
set_option maxHeartbeats 4000000 in
set_option maxRecDepth 100000 in
theorem c_X11_isNotice (l : Launch) (G : gz_G) (a1 : Int32) (σ : gz_S) : ∀ o, f_X11_isNotice a1 σ = some o → gz_M l true G yX11_isNotice cX11_isNotice 2 (some .boolean) { frames := 0, cells := 0, slots := 0, locals := 0 } [.ref (gz_ad true G 0 0), .int a1] σ (gz_ei o) 0 0 := by
  refine gz_enter RX11 rfl (by decide) (Nat.le_of_ble_eq_true rfl) ?_
  intro p e s m args below meth c C
  refine gz_eqs (st' := []) (lv' := [(0, .ref (gz_ad true G 0 0)), (1, .int a1)]) rfl rfl ?_
  unfold f_X11_isNotice
  refine gz_iload_n C dX11_isNotice_0 1 rfl ?_
  refine gz_if_lt (tgt := 16) C dX11_isNotice_1 (by decide) ?_ ?_
  · skip
    refine gz_iconst C dX11_isNotice_16 gk_iconst_0 ?_
    exact gz_zret C rfl dX11_isNotice_17
  · skip
    refine gz_iload_n C dX11_isNotice_4 1 rfl ?_
    refine gz_aload_n C dX11_isNotice_5 0 rfl ?_
    refine gz_get C (t := 0) (k := 29) (ci := 11) (q := (RX11, TX11, 63)) (v := .int (σ.1 0 0 29)) dX11_isNotice_6 fl_RX11_173 (gz_hm0 _) rfl rfl (by decide) rfl ?_
    refine gz_icmp_ge (tgt := 16) C dX11_isNotice_9 (by decide) ?_ ?_
    · skip
      refine gz_iconst C dX11_isNotice_16 gk_iconst_0 ?_
      exact gz_zret C rfl dX11_isNotice_17
    · skip
      refine gz_iconst C dX11_isNotice_12 gk_iconst_1 ?_
      refine gz_goto (tgt := 17) C dX11_isNotice_13 (by decide) ?_
      exact gz_zret C rfl dX11_isNotice_17

def f_X11_spans_J130 (v3 : Int32) (rec9 : Int32 → gz_S → Option (gz_S)) : gz_S → Option (gz_S) := fun σ8 =>
  rec9 (v3 + 1) σ8
def f_X11_spans_J125 (j130 : gz_S → Option (gz_S)) : Int32 → Int32 → Int32 → Int32 → gz_S → Option (gz_S) := fun x18 x19 x20 x21 σ22 =>
  gz_call (f_X11_spanOf x19 x20 x21 σ22) (fun r24 σ23 =>
  gz_ix x18 488 (fun n25 =>
  gz_w (gz_sj σ23 21 0 n25 ((r24 : Int32).toInt64)) (fun σ26 =>
  j130 σ26)))
def f_X11_spans_L9 (v2 : Int32) (a1 : Int32) : (Int32 → gz_S → Option (gz_S)) → Int32 → gz_S → Option (gz_S) := fun rec9 v3 σ4 =>
  gz_ix v2 13 (fun n5 =>
  if (σ4.1 8 0 n5) ≤ v3 then
  (some σ4)
  else
  (gz_v ((8 * v2) + v3) (fun v6 =>
  gz_ix v6 104 (fun n7 =>
  gz_j0 (f_X11_spans_J130 v3 rec9) (fun j130 =>
  if 4 ≤ (σ4.1 9 0 n7) then
  (gz_ix v6 104 (fun n9 =>
  gz_v ((8 * a1) + (σ4.1 11 0 n9)) (fun v10 =>
  gz_ix v10 488 (fun n11 =>
  gz_ix ((8 * a1) + v3) 488 (fun n12 =>
  gz_w (gz_si σ4 25 0 n12 ((σ4.1 25 0 n11) &&& 1)) (fun σ13 =>
  gz_ix v10 488 (fun n14 =>
  if (σ13.1 25 0 n14) = 0 then
  (j130 σ13)
  else
  (gz_ix v10 488 (fun n15 =>
  gz_ix v6 104 (fun n16 =>
  gz_ix v6 104 (fun n17 =>
  gz_j4 (f_X11_spans_J125 j130) (fun j125 =>
  if (σ13.1 9 0 n17) = 5 then
  (j125 ((8 * a1) + v3) ((σ13.2.1 21 0 n15 : Int64).toInt32) (σ13.1 10 0 n16) 1 σ13)
  else
  (j125 ((8 * a1) + v3) ((σ13.2.1 21 0 n15 : Int64).toInt32) (σ13.1 10 0 n16) 0 σ13)))))))))))))
  else
  (j130 σ4))))))
def f_X11_spans (a1 : Int32) (σ : gz_S) : Option (gz_S) :=
  gz_ix a1 61 (fun n1 =>
  gz_v (σ.1 15 0 n1) (fun v2 =>
  gz_l1 (f_X11_spans_L9 v2 a1) gz_fu 0 σ))
set_option maxHeartbeats 4000000 in
set_option maxRecDepth 100000 in
theorem c_X11_spans (l : Launch) (G : gz_G) (a1 : Int32) (σ : gz_S) : ∀ o, f_X11_spans a1 σ = some o → gz_M l true G yX11_spans cX11_spans 6 none { frames := 2, cells := 0, slots := 0, locals := 46 } [.ref (gz_ad true G 0 0), .int a1] σ (gz_eu o) 0 0 := by
  refine gz_enter RX11 rfl (by decide) (Nat.le_of_ble_eq_true rfl) ?_
  intro p e s m args below meth c C
  refine gz_eqs (st' := []) (lv' := [(0, .ref (gz_ad true G 0 0)), (1, .int a1)]) rfl rfl ?_
  unfold f_X11_spans
  refine gz_aload_n C dX11_spans_0 0 rfl ?_
  refine gz_get C (t := 0) (k := 32) (ci := 11) (q := (RX11, TX11, 63)) (v := .ref (gz_ad true G 15 0)) dX11_spans_1 fl_RX11_71 (gz_hm0 _) rfl rfl (by decide) rfl ?_
  refine gz_iload_n C dX11_spans_4 1 rfl ?_
  refine gz_iald C (t := 15) dX11_spans_5 (gz_hm15 _) rfl (fun n1 hn1 => ?_)
  refine gz_topI (fun v2 => ?_)
  refine gz_istore_n C (lv' := [(2, .int v2), (0, .ref (gz_ad true G 0 0)), (1, .int a1)]) dX11_spans_6 (by decide) rfl ?_
  refine gz_iconst C dX11_spans_7 gk_iconst_0 ?_
  refine gz_istore_n C (lv' := [(3, .int 0), (2, .int v2), (0, .ref (gz_ad true G 0 0)), (1, .int a1)]) dX11_spans_8 (by decide) rfl ?_
  refine gz_lv (lv' := [(0, .ref (gz_ad true G 0 0)), (1, .int a1), (2, .int v2), (3, .int 0)]) [2, 3, 1, 0] rfl ?_
  refine gz_l1_ind (P := fun v3 σ4 x => gz_W true p l e ({ frames := 2, cells := 0, slots := 0, locals := 46 } : Room) s m args below meth c G 6 (gz_Q true G below args s 0 0 gz_eu) 0 0 σ4 9 [(0, .ref (gz_ad true G 0 0)), (1, .int a1), (2, .int v2), (3, .int v3)] [] x) (fun _ _ => gz_none) (fun rec9 hrec9 v3 σ4 => ?_) gz_fu 0 σ
  unfold f_X11_spans_L9
  refine gz_iload_n C dX11_spans_9 3 rfl ?_
  refine gz_aload_n C dX11_spans_10 0 rfl ?_
  refine gz_get C (t := 0) (k := 22) (ci := 11) (q := (RX11, TX11, 63)) (v := .ref (gz_ad true G 8 0)) dX11_spans_11 fl_RX11_47 (gz_hm0 _) rfl rfl (by decide) rfl ?_
  refine gz_iload_n C dX11_spans_14 2 rfl ?_
  refine gz_iald C (t := 8) dX11_spans_15 (gz_hm8 _) rfl (fun n5 hn5 => ?_)
  refine gz_icmp_ge (tgt := 136) C dX11_spans_16 (by decide) ?_ ?_
  · skip
    exact gz_vret C rfl dX11_spans_136
  · skip
    refine gz_bipush C dX11_spans_19 gk_bipush_8 ?_
    refine gz_iload_n C dX11_spans_21 2 rfl ?_
    refine gz_imul C dX11_spans_22 ?_
    refine gz_iload_n C dX11_spans_23 3 rfl ?_
    refine gz_iadd C dX11_spans_24 ?_
    refine gz_topI (fun v6 => ?_)
    refine gz_istore C (lv' := [(4, .int v6), (0, .ref (gz_ad true G 0 0)), (1, .int a1), (2, .int v2), (3, .int v3)]) dX11_spans_25 (by decide) rfl ?_
    refine gz_aload_n C dX11_spans_27 1 rfl ?_
    refine gz_get C (t := 0) (k := 23) (ci := 11) (q := (RX11, TX11, 63)) (v := .ref (gz_ad true G 9 0)) dX11_spans_28 fl_RX11_50 (gz_hm0 _) rfl rfl (by decide) rfl ?_
    refine gz_iload C dX11_spans_31 0 rfl ?_
    refine gz_iald C (t := 9) dX11_spans_33 (gz_hm9 _) rfl (fun n7 hn7 => ?_)
    refine gz_iconst C dX11_spans_34 gk_iconst_4 ?_
    refine gz_j0_row (P := fun σ8 x => gz_W true p l e ({ frames := 2, cells := 0, slots := 0, locals := 46 } : Room) s m args below meth c G 6 (gz_Q true G below args s 0 0 gz_eu) 0 0 σ8 130 [(0, .ref (gz_ad true G 0 0)), (1, .int a1), (2, .int v2), (3, .int v3)] [] x) (fun σ8 => ?_) (fun j130 hj130 => ?_)
    · unfold f_X11_spans_J130
      refine gz_iinc C (q := 3) (v := v3 + 1) (lv' := [(3, .int (v3 + 1)), (0, .ref (gz_ad true G 0 0)), (1, .int a1), (2, .int v2)]) dX11_spans_130 rfl rfl (by decide) rfl ?_
      refine gz_goto (tgt := 9) C dX11_spans_133 (by decide) ?_
      refine gz_lv (lv' := [(0, .ref (gz_ad true G 0 0)), (1, .int a1), (2, .int v2), (3, .int (v3 + 1))]) [1, 2, 3, 0] rfl ?_
      exact hrec9 (v3 + 1) σ8
    · skip
      refine gz_icmp_ge (tgt := 41) C dX11_spans_35 (by decide) ?_ ?_
      · skip
        refine gz_bipush C dX11_spans_41 gk_bipush_8 ?_
        refine gz_iload_n C dX11_spans_43 2 rfl ?_
        refine gz_imul C dX11_spans_44 ?_
        refine gz_aload_n C dX11_spans_45 1 rfl ?_
        refine gz_get C (t := 0) (k := 25) (ci := 11) (q := (RX11, TX11, 63)) (v := .ref (gz_ad true G 11 0)) dX11_spans_46 fl_RX11_56 (gz_hm0 _) rfl rfl (by decide) rfl ?_
        refine gz_iload C dX11_spans_49 0 rfl ?_
        refine gz_iald C (t := 11) dX11_spans_51 (gz_hm11 _) rfl (fun n9 hn9 => ?_)
        refine gz_iadd C dX11_spans_52 ?_
        refine gz_topI (fun v10 => ?_)
        refine gz_istore C (lv' := [(5, .int v10), (4, .int v6), (0, .ref (gz_ad true G 0 0)), (1, .int a1), (2, .int v2), (3, .int v3)]) dX11_spans_53 (by decide) rfl ?_
        refine gz_aload_n C dX11_spans_55 2 rfl ?_
        refine gz_get C (t := 0) (k := 42) (ci := 11) (q := (RX11, TX11, 63)) (v := .ref (gz_ad true G 25 0)) dX11_spans_56 fl_RX11_101 (gz_hm0 _) rfl rfl (by decide) rfl ?_
        refine gz_bipush C dX11_spans_59 gk_bipush_8 ?_
        refine gz_iload_n C dX11_spans_61 3 rfl ?_
        refine gz_imul C dX11_spans_62 ?_
        refine gz_iload_n C dX11_spans_63 5 rfl ?_
        refine gz_iadd C dX11_spans_64 ?_
        refine gz_aload_n C dX11_spans_65 2 rfl ?_
        refine gz_get C (t := 0) (k := 42) (ci := 11) (q := (RX11, TX11, 63)) (v := .ref (gz_ad true G 25 0)) dX11_spans_66 fl_RX11_101 (gz_hm0 _) rfl rfl (by decide) rfl ?_
        refine gz_iload C dX11_spans_69 0 rfl ?_
        refine gz_zald C (t := 25) dX11_spans_71 (gz_hm25 _) rfl (fun n11 hn11 => ?_)
        refine gz_zast C (t := 25) dX11_spans_72 (gz_hm25 _) rfl (fun n12 hn12 => ?_)
        refine gz_w_row (fun σ13 => ?_)
        refine gz_aload_n C dX11_spans_73 2 rfl ?_
        refine gz_get C (t := 0) (k := 42) (ci := 11) (q := (RX11, TX11, 63)) (v := .ref (gz_ad true G 25 0)) dX11_spans_74 fl_RX11_101 (gz_hm0 _) rfl rfl (by decide) rfl ?_
        refine gz_iload C dX11_spans_77 0 rfl ?_
        refine gz_zald C (t := 25) dX11_spans_79 (gz_hm25 _) rfl (fun n14 hn14 => ?_)
        refine gz_if_eq (tgt := 130) C dX11_spans_80 (by decide) ?_ ?_
        · skip
          refine gz_lv (lv' := [(0, .ref (gz_ad true G 0 0)), (1, .int a1), (2, .int v2), (3, .int v3)]) [2, 3, 4, 5] rfl ?_
          exact hj130 σ13
        · skip
          refine gz_aload_n C dX11_spans_83 2 rfl ?_
          refine gz_get C (t := 0) (k := 38) (ci := 11) (q := (RX11, TX11, 63)) (v := .ref (gz_ad true G 21 0)) dX11_spans_84 fl_RX11_89 (gz_hm0 _) rfl rfl (by decide) rfl ?_
          refine gz_bipush C dX11_spans_87 gk_bipush_8 ?_
          refine gz_iload_n C dX11_spans_89 3 rfl ?_
          refine gz_imul C dX11_spans_90 ?_
          refine gz_iload_n C dX11_spans_91 5 rfl ?_
          refine gz_iadd C dX11_spans_92 ?_
          refine gz_aload_n C dX11_spans_93 2 rfl ?_
          refine gz_aload_n C dX11_spans_94 2 rfl ?_
          refine gz_get C (t := 0) (k := 38) (ci := 11) (q := (RX11, TX11, 63)) (v := .ref (gz_ad true G 21 0)) dX11_spans_95 fl_RX11_89 (gz_hm0 _) rfl rfl (by decide) rfl ?_
          refine gz_iload C dX11_spans_98 0 rfl ?_
          refine gz_lald C (t := 21) dX11_spans_100 (gz_hm21 _) rfl (fun n15 hn15 => ?_)
          refine gz_l2i C dX11_spans_101 ?_
          refine gz_aload_n C dX11_spans_102 2 rfl ?_
          refine gz_get C (t := 0) (k := 24) (ci := 11) (q := (RX11, TX11, 63)) (v := .ref (gz_ad true G 10 0)) dX11_spans_103 fl_RX11_53 (gz_hm0 _) rfl rfl (by decide) rfl ?_
          refine gz_iload C dX11_spans_106 1 rfl ?_
          refine gz_iald C (t := 10) dX11_spans_108 (gz_hm10 _) rfl (fun n16 hn16 => ?_)
          refine gz_aload_n C dX11_spans_109 2 rfl ?_
          refine gz_get C (t := 0) (k := 23) (ci := 11) (q := (RX11, TX11, 63)) (v := .ref (gz_ad true G 9 0)) dX11_spans_110 fl_RX11_50 (gz_hm0 _) rfl rfl (by decide) rfl ?_
          refine gz_iload C dX11_spans_113 1 rfl ?_
          refine gz_iald C (t := 9) dX11_spans_115 (gz_hm9 _) rfl (fun n17 hn17 => ?_)
          refine gz_iconst C dX11_spans_116 gk_iconst_5 ?_
          refine gz_j4_row (P := fun x18 x19 x20 x21 σ22 x => gz_W true p l e ({ frames := 2, cells := 0, slots := 0, locals := 46 } : Room) s m args below meth c G 6 (gz_Q true G below args s 0 0 gz_eu) 0 0 σ22 125 [(0, .ref (gz_ad true G 0 0)), (1, .int a1), (2, .int v2), (3, .int v3)] [.int x21, .int x20, .int x19, .ref (gz_ad true G 0 0), .int x18, .ref (gz_ad true G 21 0)] x) (fun x18 x19 x20 x21 σ22 => ?_) (fun j125 hj125 => ?_)
          · unfold f_X11_spans_J125
            refine gz_ki (gz_runV (t := 0) (ci := 11) (q := (RX11, TX11, 63)) (As := [.int x19, .int x20, .int x21]) (rest := [.int x18, .ref (gz_ad true G 21 0)]) C dX11_spans_125 ml_RX11_207 mw_X11_spanOf mv_X11_spanOf (c_X11_spanOf l G x19 x20 x21 σ22) (gz_hm0 _) rfl rfl rfl rfl rfl (Nat.le_of_ble_eq_true rfl) ⟨rfl, rfl, Nat.le_of_ble_eq_true rfl, Nat.le_of_ble_eq_true rfl, Nat.le_of_ble_eq_true rfl, Nat.le_of_ble_eq_true rfl⟩) (fun r24 σ23 => ?_)
            refine gz_i2l C dX11_spans_128 ?_
            refine gz_last C (t := 21) dX11_spans_129 (gz_hm21 _) rfl (fun n25 hn25 => ?_)
            refine gz_w_row (fun σ26 => ?_)
            exact hj130 σ26
          · skip
            refine gz_icmp_ne (tgt := 124) C dX11_spans_117 (by decide) ?_ ?_
            · skip
              refine gz_iconst C dX11_spans_124 gk_iconst_0 ?_
              refine gz_lv (lv' := [(0, .ref (gz_ad true G 0 0)), (1, .int a1), (2, .int v2), (3, .int v3)]) [2, 3, 4, 5] rfl ?_
              exact hj125 ((8 * a1) + v3) ((σ13.2.1 21 0 n15 : Int64).toInt32) (σ13.1 10 0 n16) 0 σ13
            · skip
              refine gz_iconst C dX11_spans_120 gk_iconst_1 ?_
              refine gz_goto (tgt := 125) C dX11_spans_121 (by decide) ?_
              refine gz_lv (lv' := [(0, .ref (gz_ad true G 0 0)), (1, .int a1), (2, .int v2), (3, .int v3)]) [2, 3, 4, 5] rfl ?_
              exact hj125 ((8 * a1) + v3) ((σ13.2.1 21 0 n15 : Int64).toInt32) (σ13.1 10 0 n16) 1 σ13
      · skip
        refine gz_goto (tgt := 130) C dX11_spans_38 (by decide) ?_
        refine gz_lv (lv' := [(0, .ref (gz_ad true G 0 0)), (1, .int a1), (2, .int v2), (3, .int v3)]) [1, 2, 3, 4] rfl ?_
        exact hj130 σ4

def f_X11_value_J51 (a1 : Int32) (a2 : Int32) : gz_S → Option (Int64 × gz_S) := fun σ7 =>
  gz_ix ((8 * a1) + a2) 488 (fun n8 =>
  if (σ7.1 25 0 n8) = 0 then
  (some ((-1), σ7))
  else
  (gz_ix ((8 * a1) + a2) 488 (fun n9 =>
  some (σ7.2.1 21 0 n9, σ7))))
def f_X11_value (a1 : Int32) (a2 : Int32) (σ : gz_S) : Option (Int64 × gz_S) :=
  gz_w (gz_si σ 0 0 0 0) (fun σ1 =>
  gz_call (f_X11_isNotice a1 σ1) (fun r3 σ2 =>
  if r3 = 0 then
  (some ((-1), σ2))
  else
  (if a2 < 0 then
  (some ((-1), σ2))
  else
  (gz_ix a1 61 (fun n4 =>
  gz_ix (σ2.1 15 0 n4) 13 (fun n5 =>
  if a2 < (σ2.1 8 0 n5) then
  (gz_ix a1 61 (fun n6 =>
  gz_j0 (f_X11_value_J51 a1 a2) (fun j51 =>
  if (σ2.1 18 0 n6) = (-1) then
  (gz_then (f_X11_spans a1 σ2) (fun σ10 =>
  j51 σ10))
  else
  (j51 σ2))))
  else
  (some ((-1), σ2))))))))
set_option maxHeartbeats 4000000 in
set_option maxRecDepth 100000 in
theorem c_X11_value (l : Launch) (G : gz_G) (a1 : Int32) (a2 : Int32) (σ : gz_S) : ∀ o, f_X11_value a1 a2 σ = some o → gz_M l true G yX11_value cX11_value 3 (some .long) { frames := 3, cells := 0, slots := 0, locals := 71 } [.ref (gz_ad true G 0 0), .int a1, .int a2] σ (gz_el o) 0 0 := by
  refine gz_enter RX11 rfl (by decide) (Nat.le_of_ble_eq_true rfl) ?_
  intro p e s m args below meth c C
  refine gz_eqs (st' := []) (lv' := [(0, .ref (gz_ad true G 0 0)), (1, .int a1), (2, .int a2)]) rfl rfl ?_
  unfold f_X11_value
  refine gz_aload_n C dX11_value_0 0 rfl ?_
  refine gz_iconst C dX11_value_1 gk_iconst_0 ?_
  refine gz_putI C (t := 0) (k := 0) (ci := 11) (q := (RX11, TX11, 63)) dX11_value_2 fl_RX11_158 (gz_hm0 _) rfl rfl (by decide) rfl rfl rfl rfl ?_
  refine gz_w_row (fun σ1 => ?_)
  refine gz_aload_n C dX11_value_5 0 rfl ?_
  refine gz_iload_n C dX11_value_6 1 rfl ?_
  refine gz_ki (gz_runV (t := 0) (ci := 11) (q := (RX11, TX11, 63)) (As := [.int a1]) (rest := []) C dX11_value_7 ml_RX11_328 mw_X11_isNotice mv_X11_isNotice (c_X11_isNotice l G a1 σ1) (gz_hm0 _) rfl rfl rfl rfl rfl (Nat.le_of_ble_eq_true rfl) ⟨rfl, rfl, Nat.le_of_ble_eq_true rfl, Nat.le_of_ble_eq_true rfl, Nat.le_of_ble_eq_true rfl, Nat.le_of_ble_eq_true rfl⟩) (fun r3 σ2 => ?_)
  refine gz_if_eq (tgt := 32) C dX11_value_10 (by decide) ?_ ?_
  · skip
    refine gz_ldc2 C dX11_value_32 cw_RX11_331 ?_
    exact gz_lret C rfl dX11_value_35
  · skip
    refine gz_iload_n C dX11_value_13 2 rfl ?_
    refine gz_if_lt (tgt := 32) C dX11_value_14 (by decide) ?_ ?_
    · skip
      refine gz_ldc2 C dX11_value_32 cw_RX11_331 ?_
      exact gz_lret C rfl dX11_value_35
    · skip
      refine gz_iload_n C dX11_value_17 2 rfl ?_
      refine gz_aload_n C dX11_value_18 0 rfl ?_
      refine gz_get C (t := 0) (k := 22) (ci := 11) (q := (RX11, TX11, 63)) (v := .ref (gz_ad true G 8 0)) dX11_value_19 fl_RX11_47 (gz_hm0 _) rfl rfl (by decide) rfl ?_
      refine gz_aload_n C dX11_value_22 0 rfl ?_
      refine gz_get C (t := 0) (k := 32) (ci := 11) (q := (RX11, TX11, 63)) (v := .ref (gz_ad true G 15 0)) dX11_value_23 fl_RX11_71 (gz_hm0 _) rfl rfl (by decide) rfl ?_
      refine gz_iload_n C dX11_value_26 1 rfl ?_
      refine gz_iald C (t := 15) dX11_value_27 (gz_hm15 _) rfl (fun n4 hn4 => ?_)
      refine gz_iald C (t := 8) dX11_value_28 (gz_hm8 _) rfl (fun n5 hn5 => ?_)
      refine gz_icmp_lt (tgt := 36) C dX11_value_29 (by decide) ?_ ?_
      · skip
        refine gz_aload_n C dX11_value_36 0 rfl ?_
        refine gz_get C (t := 0) (k := 35) (ci := 11) (q := (RX11, TX11, 63)) (v := .ref (gz_ad true G 18 0)) dX11_value_37 fl_RX11_80 (gz_hm0 _) rfl rfl (by decide) rfl ?_
        refine gz_iload_n C dX11_value_40 1 rfl ?_
        refine gz_iald C (t := 18) dX11_value_41 (gz_hm18 _) rfl (fun n6 hn6 => ?_)
        refine gz_iconst C dX11_value_42 gk_iconst_m1 ?_
        refine gz_j0_row (P := fun σ7 x => gz_W true p l e ({ frames := 3, cells := 0, slots := 0, locals := 71 } : Room) s m args below meth c G 3 (gz_Q true G below args s 0 0 gz_el) 0 0 σ7 51 [(0, .ref (gz_ad true G 0 0)), (1, .int a1), (2, .int a2)] [] x) (fun σ7 => ?_) (fun j51 hj51 => ?_)
        · unfold f_X11_value_J51
          refine gz_aload_n C dX11_value_51 0 rfl ?_
          refine gz_get C (t := 0) (k := 42) (ci := 11) (q := (RX11, TX11, 63)) (v := .ref (gz_ad true G 25 0)) dX11_value_52 fl_RX11_101 (gz_hm0 _) rfl rfl (by decide) rfl ?_
          refine gz_bipush C dX11_value_55 gk_bipush_8 ?_
          refine gz_iload_n C dX11_value_57 1 rfl ?_
          refine gz_imul C dX11_value_58 ?_
          refine gz_iload_n C dX11_value_59 2 rfl ?_
          refine gz_iadd C dX11_value_60 ?_
          refine gz_zald C (t := 25) dX11_value_61 (gz_hm25 _) rfl (fun n8 hn8 => ?_)
          refine gz_if_eq (tgt := 79) C dX11_value_62 (by decide) ?_ ?_
          · skip
            refine gz_ldc2 C dX11_value_79 cw_RX11_331 ?_
            exact gz_lret C rfl dX11_value_82
          · skip
            refine gz_aload_n C dX11_value_65 0 rfl ?_
            refine gz_get C (t := 0) (k := 38) (ci := 11) (q := (RX11, TX11, 63)) (v := .ref (gz_ad true G 21 0)) dX11_value_66 fl_RX11_89 (gz_hm0 _) rfl rfl (by decide) rfl ?_
            refine gz_bipush C dX11_value_69 gk_bipush_8 ?_
            refine gz_iload_n C dX11_value_71 1 rfl ?_
            refine gz_imul C dX11_value_72 ?_
            refine gz_iload_n C dX11_value_73 2 rfl ?_
            refine gz_iadd C dX11_value_74 ?_
            refine gz_lald C (t := 21) dX11_value_75 (gz_hm21 _) rfl (fun n9 hn9 => ?_)
            refine gz_goto (tgt := 82) C dX11_value_76 (by decide) ?_
            exact gz_lret C rfl dX11_value_82
        · skip
          refine gz_icmp_ne (tgt := 51) C dX11_value_43 (by decide) ?_ ?_
          · skip
            exact hj51 σ2
          · skip
            refine gz_aload_n C dX11_value_46 0 rfl ?_
            refine gz_iload_n C dX11_value_47 1 rfl ?_
            refine gz_kv (gz_runV (t := 0) (ci := 11) (q := (RX11, TX11, 63)) (As := [.int a1]) (rest := []) C dX11_value_48 ml_RX11_333 mw_X11_spans mv_X11_spans (c_X11_spans l G a1 σ2) (gz_hm0 _) rfl rfl rfl rfl rfl (Nat.le_of_ble_eq_true rfl) ⟨rfl, rfl, Nat.le_of_ble_eq_true rfl, Nat.le_of_ble_eq_true rfl, Nat.le_of_ble_eq_true rfl, Nat.le_of_ble_eq_true rfl⟩) (fun σ10 => ?_)
            exact hj51 σ10
      · skip
        refine gz_ldc2 C dX11_value_32 cw_RX11_331 ?_
        exact gz_lret C rfl dX11_value_35

def f_X11_about (a1 : Int32) (a2 : Int32) (σ : gz_S) : Option (Int32 × gz_S) :=
  gz_w (gz_si σ 0 0 0 0) (fun σ1 =>
  gz_call (f_X11_isNotice a1 σ1) (fun r3 σ2 =>
  if r3 = 0 then
  (some ((-1), σ2))
  else
  (if a2 = 0 then
  (gz_ix a1 61 (fun n4 =>
  some (σ2.1 15 0 n4, σ2)))
  else
  (if a2 = 1 then
  (gz_ix a1 61 (fun n5 =>
  some (σ2.1 16 0 n5, σ2)))
  else
  (if a2 = 2 then
  (gz_ix a1 61 (fun n6 =>
  some (σ2.1 17 0 n6, σ2)))
  else
  (if a2 = 3 then
  (gz_ix a1 61 (fun n7 =>
  some (σ2.1 18 0 n7, σ2)))
  else
  (if a2 = 4 then
  (gz_ix a1 61 (fun n8 =>
  some (σ2.1 19 0 n8, σ2)))
  else
  (if a2 = 5 then
  (gz_ix a1 61 (fun n9 =>
  some (σ2.1 20 0 n9, σ2)))
  else
  (if a2 = 6 then
  (gz_ix a1 61 (fun n10 =>
  if (lg_cmp (σ2.2.1 22 0 n10) 0) = 0 then
  (some (0, σ2))
  else
  (some (1, σ2))))
  else
  (if a2 = 7 then
  (gz_ix a1 61 (fun n11 =>
  if (lg_cmp (σ2.2.1 24 0 n11) 0) = 0 then
  (some (0, σ2))
  else
  (some (1, σ2))))
  else
  (some ((-1), σ2))))))))))))
set_option maxHeartbeats 4000000 in
set_option maxRecDepth 100000 in
theorem c_X11_about (l : Launch) (G : gz_G) (a1 : Int32) (a2 : Int32) (σ : gz_S) : ∀ o, f_X11_about a1 a2 σ = some o → gz_M l true G yX11_about cX11_about 3 (some .int) { frames := 1, cells := 0, slots := 0, locals := 21 } [.ref (gz_ad true G 0 0), .int a1, .int a2] σ (gz_ei o) 0 0 := by
  refine gz_enter RX11 rfl (by decide) (Nat.le_of_ble_eq_true rfl) ?_
  intro p e s m args below meth c C
  refine gz_eqs (st' := []) (lv' := [(0, .ref (gz_ad true G 0 0)), (1, .int a1), (2, .int a2)]) rfl rfl ?_
  unfold f_X11_about
  refine gz_aload_n C dX11_about_0 0 rfl ?_
  refine gz_iconst C dX11_about_1 gk_iconst_0 ?_
  refine gz_putI C (t := 0) (k := 0) (ci := 11) (q := (RX11, TX11, 63)) dX11_about_2 fl_RX11_158 (gz_hm0 _) rfl rfl (by decide) rfl rfl rfl rfl ?_
  refine gz_w_row (fun σ1 => ?_)
  refine gz_aload_n C dX11_about_5 0 rfl ?_
  refine gz_iload_n C dX11_about_6 1 rfl ?_
  refine gz_ki (gz_runV (t := 0) (ci := 11) (q := (RX11, TX11, 63)) (As := [.int a1]) (rest := []) C dX11_about_7 ml_RX11_328 mw_X11_isNotice mv_X11_isNotice (c_X11_isNotice l G a1 σ1) (gz_hm0 _) rfl rfl rfl rfl rfl (Nat.le_of_ble_eq_true rfl) ⟨rfl, rfl, Nat.le_of_ble_eq_true rfl, Nat.le_of_ble_eq_true rfl, Nat.le_of_ble_eq_true rfl, Nat.le_of_ble_eq_true rfl⟩) (fun r3 σ2 => ?_)
  refine gz_if_ne (tgt := 15) C dX11_about_10 (by decide) ?_ ?_
  · skip
    refine gz_iload_n C dX11_about_15 2 rfl ?_
    refine gz_case 0 (fun hx0 => ?_) (fun hx0 => ?_)
    · rw [hx0]
      refine gz_tin (tgt := 64) (off := 48) C dX11_about_16 (by decide) (by decide) rfl (by decide) ?_
      refine gz_aload_n C dX11_about_64 0 rfl ?_
      refine gz_get C (t := 0) (k := 32) (ci := 11) (q := (RX11, TX11, 63)) (v := .ref (gz_ad true G 15 0)) dX11_about_65 fl_RX11_71 (gz_hm0 _) rfl rfl (by decide) rfl ?_
      refine gz_iload_n C dX11_about_68 1 rfl ?_
      refine gz_iald C (t := 15) dX11_about_69 (gz_hm15 _) rfl (fun n4 hn4 => ?_)
      exact gz_iret C rfl dX11_about_70
    refine gz_case 1 (fun hx1 => ?_) (fun hx1 => ?_)
    · rw [hx1]
      refine gz_tin (tgt := 71) (off := 55) C dX11_about_16 (by decide) (by decide) rfl (by decide) ?_
      refine gz_aload_n C dX11_about_71 0 rfl ?_
      refine gz_get C (t := 0) (k := 33) (ci := 11) (q := (RX11, TX11, 63)) (v := .ref (gz_ad true G 16 0)) dX11_about_72 fl_RX11_74 (gz_hm0 _) rfl rfl (by decide) rfl ?_
      refine gz_iload_n C dX11_about_75 1 rfl ?_
      refine gz_iald C (t := 16) dX11_about_76 (gz_hm16 _) rfl (fun n5 hn5 => ?_)
      exact gz_iret C rfl dX11_about_77
    refine gz_case 2 (fun hx2 => ?_) (fun hx2 => ?_)
    · rw [hx2]
      refine gz_tin (tgt := 78) (off := 62) C dX11_about_16 (by decide) (by decide) rfl (by decide) ?_
      refine gz_aload_n C dX11_about_78 0 rfl ?_
      refine gz_get C (t := 0) (k := 34) (ci := 11) (q := (RX11, TX11, 63)) (v := .ref (gz_ad true G 17 0)) dX11_about_79 fl_RX11_77 (gz_hm0 _) rfl rfl (by decide) rfl ?_
      refine gz_iload_n C dX11_about_82 1 rfl ?_
      refine gz_iald C (t := 17) dX11_about_83 (gz_hm17 _) rfl (fun n6 hn6 => ?_)
      exact gz_iret C rfl dX11_about_84
    refine gz_case 3 (fun hx3 => ?_) (fun hx3 => ?_)
    · rw [hx3]
      refine gz_tin (tgt := 85) (off := 69) C dX11_about_16 (by decide) (by decide) rfl (by decide) ?_
      refine gz_aload_n C dX11_about_85 0 rfl ?_
      refine gz_get C (t := 0) (k := 35) (ci := 11) (q := (RX11, TX11, 63)) (v := .ref (gz_ad true G 18 0)) dX11_about_86 fl_RX11_80 (gz_hm0 _) rfl rfl (by decide) rfl ?_
      refine gz_iload_n C dX11_about_89 1 rfl ?_
      refine gz_iald C (t := 18) dX11_about_90 (gz_hm18 _) rfl (fun n7 hn7 => ?_)
      exact gz_iret C rfl dX11_about_91
    refine gz_case 4 (fun hx4 => ?_) (fun hx4 => ?_)
    · rw [hx4]
      refine gz_tin (tgt := 92) (off := 76) C dX11_about_16 (by decide) (by decide) rfl (by decide) ?_
      refine gz_aload_n C dX11_about_92 0 rfl ?_
      refine gz_get C (t := 0) (k := 36) (ci := 11) (q := (RX11, TX11, 63)) (v := .ref (gz_ad true G 19 0)) dX11_about_93 fl_RX11_83 (gz_hm0 _) rfl rfl (by decide) rfl ?_
      refine gz_iload_n C dX11_about_96 1 rfl ?_
      refine gz_iald C (t := 19) dX11_about_97 (gz_hm19 _) rfl (fun n8 hn8 => ?_)
      exact gz_iret C rfl dX11_about_98
    refine gz_case 5 (fun hx5 => ?_) (fun hx5 => ?_)
    · rw [hx5]
      refine gz_tin (tgt := 99) (off := 83) C dX11_about_16 (by decide) (by decide) rfl (by decide) ?_
      refine gz_aload_n C dX11_about_99 0 rfl ?_
      refine gz_get C (t := 0) (k := 37) (ci := 11) (q := (RX11, TX11, 63)) (v := .ref (gz_ad true G 20 0)) dX11_about_100 fl_RX11_86 (gz_hm0 _) rfl rfl (by decide) rfl ?_
      refine gz_iload_n C dX11_about_103 1 rfl ?_
      refine gz_iald C (t := 20) dX11_about_104 (gz_hm20 _) rfl (fun n9 hn9 => ?_)
      exact gz_iret C rfl dX11_about_105
    refine gz_case 6 (fun hx6 => ?_) (fun hx6 => ?_)
    · rw [hx6]
      refine gz_tin (tgt := 106) (off := 90) C dX11_about_16 (by decide) (by decide) rfl (by decide) ?_
      refine gz_aload_n C dX11_about_106 0 rfl ?_
      refine gz_get C (t := 0) (k := 39) (ci := 11) (q := (RX11, TX11, 63)) (v := .ref (gz_ad true G 22 0)) dX11_about_107 fl_RX11_92 (gz_hm0 _) rfl rfl (by decide) rfl ?_
      refine gz_iload_n C dX11_about_110 1 rfl ?_
      refine gz_lald C (t := 22) dX11_about_111 (gz_hm22 _) rfl (fun n10 hn10 => ?_)
      refine gz_lconst C dX11_about_112 gk_lconst_0 ?_
      refine gz_lcmp C dX11_about_113 ?_
      refine gz_if_eq (tgt := 121) C dX11_about_114 (by decide) ?_ ?_
      · skip
        refine gz_iconst C dX11_about_121 gk_iconst_0 ?_
        exact gz_iret C rfl dX11_about_122
      · skip
        refine gz_iconst C dX11_about_117 gk_iconst_1 ?_
        refine gz_goto (tgt := 122) C dX11_about_118 (by decide) ?_
        exact gz_iret C rfl dX11_about_122
    refine gz_case 7 (fun hx7 => ?_) (fun hx7 => ?_)
    · rw [hx7]
      refine gz_tin (tgt := 123) (off := 107) C dX11_about_16 (by decide) (by decide) rfl (by decide) ?_
      refine gz_aload_n C dX11_about_123 0 rfl ?_
      refine gz_get C (t := 0) (k := 41) (ci := 11) (q := (RX11, TX11, 63)) (v := .ref (gz_ad true G 24 0)) dX11_about_124 fl_RX11_98 (gz_hm0 _) rfl rfl (by decide) rfl ?_
      refine gz_iload_n C dX11_about_127 1 rfl ?_
      refine gz_lald C (t := 24) dX11_about_128 (gz_hm24 _) rfl (fun n11 hn11 => ?_)
      refine gz_lconst C dX11_about_129 gk_lconst_0 ?_
      refine gz_lcmp C dX11_about_130 ?_
      refine gz_if_eq (tgt := 138) C dX11_about_131 (by decide) ?_ ?_
      · skip
        refine gz_iconst C dX11_about_138 gk_iconst_0 ?_
        exact gz_iret C rfl dX11_about_139
      · skip
        refine gz_iconst C dX11_about_134 gk_iconst_1 ?_
        refine gz_goto (tgt := 139) C dX11_about_135 (by decide) ?_
        exact gz_iret C rfl dX11_about_139
    refine gz_tout (tgt := 140) C dX11_about_16 (by have q0 := lv_neT hx0 (a := 0) (by decide); have q1 := lv_neT hx1 (a := 1) (by decide); have q2 := lv_neT hx2 (a := 2) (by decide); have q3 := lv_neT hx3 (a := 3) (by decide); have q4 := lv_neT hx4 (a := 4) (by decide); have q5 := lv_neT hx5 (a := 5) (by decide); have q6 := lv_neT hx6 (a := 6) (by decide); have q7 := lv_neT hx7 (a := 7) (by decide); omega) (by decide) ?_
    refine gz_iconst C dX11_about_140 gk_iconst_m1 ?_
    exact gz_iret C rfl dX11_about_141
  · skip
    refine gz_iconst C dX11_about_13 gk_iconst_m1 ?_
    exact gz_iret C rfl dX11_about_14

def f_X11_says (a1 : Int32) (a2 : Int32) (a3 : Int32) (a4 : Int32) (σ : gz_S) : Option (Int32 × gz_S) :=
  gz_w (gz_si σ 0 0 0 0) (fun σ1 =>
  gz_call (f_X11_isNotice a1 σ1) (fun r3 σ2 =>
  if r3 = 0 then
  (gz_call (f_X11_refused 1 σ2) (fun r36 σ35 =>
  some (r36, σ35)))
  else
  (gz_ix a1 61 (fun n4 =>
  if (σ2.1 18 0 n4) = (-1) then
  (gz_call (f_X11_in a2 0 39 σ2) (fun r6 σ5 =>
  if r6 = 0 then
  (gz_call (f_X11_refused 2 σ5) (fun r8 σ7 =>
  some (r8, σ7)))
  else
  (if a3 = (-2147483648) then
  (gz_call (f_X11_refused 2 σ5) (fun r10 σ9 =>
  some (r10, σ9)))
  else
  (gz_call (f_X11_isDay a4 σ5) (fun r12 σ11 =>
  if r12 = 0 then
  (gz_call (f_X11_refused 2 σ11) (fun r32 σ31 =>
  some (r32, σ31)))
  else
  (gz_ix a1 61 (fun n13 =>
  if (σ11.1 19 0 n13) = 4 then
  (gz_call (f_X11_refused 3 σ11) (fun r30 σ29 =>
  some (r30, σ29)))
  else
  (gz_ix a1 61 (fun n14 =>
  gz_v ((4 * a1) + (σ11.1 19 0 n14)) (fun v15 =>
  gz_ix v15 240 (fun n16 =>
  gz_w (gz_si σ11 26 0 n16 a2) (fun σ17 =>
  gz_ix v15 240 (fun n18 =>
  gz_w (gz_si σ17 27 0 n18 a3) (fun σ19 =>
  gz_ix v15 240 (fun n20 =>
  gz_w (gz_si σ19 28 0 n20 a4) (fun σ21 =>
  gz_then (f_X11_act 3 a1 0 0 σ21) (fun σ22 =>
  gz_ix a1 61 (fun n23 =>
  gz_ix a1 61 (fun n24 =>
  gz_w (gz_si σ22 19 0 n24 ((σ22.1 19 0 n23) + 1)) (fun σ25 =>
  gz_ix a1 61 (fun n26 =>
  gz_call (f_X11_done (σ25.1 19 0 n26) σ25) (fun r28 σ27 =>
  some (r28, σ27)))))))))))))))))))))))
  else
  (gz_call (f_X11_refused 6 σ2) (fun r34 σ33 =>
  some (r34, σ33)))))))
set_option maxHeartbeats 4000000 in
set_option maxRecDepth 100000 in
theorem c_X11_says (l : Launch) (G : gz_G) (a1 : Int32) (a2 : Int32) (a3 : Int32) (a4 : Int32) (σ : gz_S) : ∀ o, f_X11_says a1 a2 a3 a4 σ = some o → gz_M l true G yX11_says cX11_says 6 (some .int) { frames := 1, cells := 0, slots := 0, locals := 27 } [.ref (gz_ad true G 0 0), .int a1, .int a2, .int a3, .int a4] σ (gz_ei o) 0 0 := by
  refine gz_enter RX11 rfl (by decide) (Nat.le_of_ble_eq_true rfl) ?_
  intro p e s m args below meth c C
  refine gz_eqs (st' := []) (lv' := [(0, .ref (gz_ad true G 0 0)), (1, .int a1), (2, .int a2), (3, .int a3), (4, .int a4)]) rfl rfl ?_
  unfold f_X11_says
  refine gz_aload_n C dX11_says_0 0 rfl ?_
  refine gz_iconst C dX11_says_1 gk_iconst_0 ?_
  refine gz_putI C (t := 0) (k := 0) (ci := 11) (q := (RX11, TX11, 63)) dX11_says_2 fl_RX11_158 (gz_hm0 _) rfl rfl (by decide) rfl rfl rfl rfl ?_
  refine gz_w_row (fun σ1 => ?_)
  refine gz_aload_n C dX11_says_5 0 rfl ?_
  refine gz_iload_n C dX11_says_6 1 rfl ?_
  refine gz_ki (gz_runV (t := 0) (ci := 11) (q := (RX11, TX11, 63)) (As := [.int a1]) (rest := []) C dX11_says_7 ml_RX11_328 mw_X11_isNotice mv_X11_isNotice (c_X11_isNotice l G a1 σ1) (gz_hm0 _) rfl rfl rfl rfl rfl (Nat.le_of_ble_eq_true rfl) ⟨rfl, rfl, Nat.le_of_ble_eq_true rfl, Nat.le_of_ble_eq_true rfl, Nat.le_of_ble_eq_true rfl, Nat.le_of_ble_eq_true rfl⟩) (fun r3 σ2 => ?_)
  refine gz_if_ne (tgt := 19) C dX11_says_10 (by decide) ?_ ?_
  · skip
    refine gz_aload_n C dX11_says_19 0 rfl ?_
    refine gz_get C (t := 0) (k := 35) (ci := 11) (q := (RX11, TX11, 63)) (v := .ref (gz_ad true G 18 0)) dX11_says_20 fl_RX11_80 (gz_hm0 _) rfl rfl (by decide) rfl ?_
    refine gz_iload_n C dX11_says_23 1 rfl ?_
    refine gz_iald C (t := 18) dX11_says_24 (gz_hm18 _) rfl (fun n4 hn4 => ?_)
    refine gz_iconst C dX11_says_25 gk_iconst_m1 ?_
    refine gz_icmp_eq (tgt := 36) C dX11_says_26 (by decide) ?_ ?_
    · skip
      refine gz_iload_n C dX11_says_36 2 rfl ?_
      refine gz_iconst C dX11_says_37 gk_iconst_0 ?_
      refine gz_bipush C dX11_says_38 gk_bipush_39 ?_
      refine gz_ki (gz_runS (As := [.int a2, .int 0, .int 39]) (rest := []) C dX11_says_40 ml_RX11_203 mw_X11_in ms_X11_in (c_X11_in l G a2 0 39 σ2) rfl rfl (Nat.le_of_ble_eq_true rfl) ⟨rfl, rfl, Nat.le_of_ble_eq_true rfl, Nat.le_of_ble_eq_true rfl, Nat.le_of_ble_eq_true rfl, Nat.le_of_ble_eq_true rfl⟩) (fun r6 σ5 => ?_)
      refine gz_if_eq (tgt := 61) C dX11_says_43 (by decide) ?_ ?_
      · skip
        refine gz_aload_n C dX11_says_61 0 rfl ?_
        refine gz_iconst C dX11_says_62 gk_iconst_2 ?_
        refine gz_ki (gz_runV (t := 0) (ci := 11) (q := (RX11, TX11, 63)) (As := [.int 2]) (rest := []) C dX11_says_63 ml_RX11_194 mw_X11_refused mv_X11_refused (c_X11_refused l G 2 σ5) (gz_hm0 _) rfl rfl rfl rfl rfl (Nat.le_of_ble_eq_true rfl) ⟨rfl, rfl, Nat.le_of_ble_eq_true rfl, Nat.le_of_ble_eq_true rfl, Nat.le_of_ble_eq_true rfl, Nat.le_of_ble_eq_true rfl⟩) (fun r8 σ7 => ?_)
        exact gz_iret C rfl dX11_says_66
      · skip
        refine gz_iload_n C dX11_says_46 3 rfl ?_
        refine gz_ldcw C dX11_says_47 cw_RX11_336 ?_
        refine gz_icmp_eq (tgt := 61) C dX11_says_50 (by decide) ?_ ?_
        · skip
          refine gz_aload_n C dX11_says_61 0 rfl ?_
          refine gz_iconst C dX11_says_62 gk_iconst_2 ?_
          refine gz_ki (gz_runV (t := 0) (ci := 11) (q := (RX11, TX11, 63)) (As := [.int 2]) (rest := []) C dX11_says_63 ml_RX11_194 mw_X11_refused mv_X11_refused (c_X11_refused l G 2 σ5) (gz_hm0 _) rfl rfl rfl rfl rfl (Nat.le_of_ble_eq_true rfl) ⟨rfl, rfl, Nat.le_of_ble_eq_true rfl, Nat.le_of_ble_eq_true rfl, Nat.le_of_ble_eq_true rfl, Nat.le_of_ble_eq_true rfl⟩) (fun r10 σ9 => ?_)
          exact gz_iret C rfl dX11_says_66
        · skip
          refine gz_iload C dX11_says_53 4 rfl ?_
          refine gz_ki (gz_runS (As := [.int a4]) (rest := []) C dX11_says_55 ml_RX11_176 mw_X11_isDay ms_X11_isDay (c_X11_isDay l G a4 σ5) rfl rfl (Nat.le_of_ble_eq_true rfl) ⟨rfl, rfl, Nat.le_of_ble_eq_true rfl, Nat.le_of_ble_eq_true rfl, Nat.le_of_ble_eq_true rfl, Nat.le_of_ble_eq_true rfl⟩) (fun r12 σ11 => ?_)
          refine gz_if_ne (tgt := 67) C dX11_says_58 (by decide) ?_ ?_
          · skip
            refine gz_aload_n C dX11_says_67 0 rfl ?_
            refine gz_get C (t := 0) (k := 36) (ci := 11) (q := (RX11, TX11, 63)) (v := .ref (gz_ad true G 19 0)) dX11_says_68 fl_RX11_83 (gz_hm0 _) rfl rfl (by decide) rfl ?_
            refine gz_iload_n C dX11_says_71 1 rfl ?_
            refine gz_iald C (t := 19) dX11_says_72 (gz_hm19 _) rfl (fun n13 hn13 => ?_)
            refine gz_iconst C dX11_says_73 gk_iconst_4 ?_
            refine gz_icmp_ne (tgt := 83) C dX11_says_74 (by decide) ?_ ?_
            · skip
              refine gz_iconst C dX11_says_83 gk_iconst_4 ?_
              refine gz_iload_n C dX11_says_84 1 rfl ?_
              refine gz_imul C dX11_says_85 ?_
              refine gz_aload_n C dX11_says_86 0 rfl ?_
              refine gz_get C (t := 0) (k := 36) (ci := 11) (q := (RX11, TX11, 63)) (v := .ref (gz_ad true G 19 0)) dX11_says_87 fl_RX11_83 (gz_hm0 _) rfl rfl (by decide) rfl ?_
              refine gz_iload_n C dX11_says_90 1 rfl ?_
              refine gz_iald C (t := 19) dX11_says_91 (gz_hm19 _) rfl (fun n14 hn14 => ?_)
              refine gz_iadd C dX11_says_92 ?_
              refine gz_topI (fun v15 => ?_)
              refine gz_istore C (lv' := [(5, .int v15), (0, .ref (gz_ad true G 0 0)), (1, .int a1), (2, .int a2), (3, .int a3), (4, .int a4)]) dX11_says_93 (by decide) rfl ?_
              refine gz_aload_n C dX11_says_95 1 rfl ?_
              refine gz_get C (t := 0) (k := 43) (ci := 11) (q := (RX11, TX11, 63)) (v := .ref (gz_ad true G 26 0)) dX11_says_96 fl_RX11_104 (gz_hm0 _) rfl rfl (by decide) rfl ?_
              refine gz_iload C dX11_says_99 0 rfl ?_
              refine gz_iload_n C dX11_says_101 3 rfl ?_
              refine gz_iast C (t := 26) dX11_says_102 (gz_hm26 _) rfl (fun n16 hn16 => ?_)
              refine gz_w_row (fun σ17 => ?_)
              refine gz_aload_n C dX11_says_103 1 rfl ?_
              refine gz_get C (t := 0) (k := 44) (ci := 11) (q := (RX11, TX11, 63)) (v := .ref (gz_ad true G 27 0)) dX11_says_104 fl_RX11_107 (gz_hm0 _) rfl rfl (by decide) rfl ?_
              refine gz_iload C dX11_says_107 0 rfl ?_
              refine gz_iload_n C dX11_says_109 4 rfl ?_
              refine gz_iast C (t := 27) dX11_says_110 (gz_hm27 _) rfl (fun n18 hn18 => ?_)
              refine gz_w_row (fun σ19 => ?_)
              refine gz_aload_n C dX11_says_111 1 rfl ?_
              refine gz_get C (t := 0) (k := 45) (ci := 11) (q := (RX11, TX11, 63)) (v := .ref (gz_ad true G 28 0)) dX11_says_112 fl_RX11_110 (gz_hm0 _) rfl rfl (by decide) rfl ?_
              refine gz_iload C dX11_says_115 0 rfl ?_
              refine gz_iload C dX11_says_117 5 rfl ?_
              refine gz_iast C (t := 28) dX11_says_119 (gz_hm28 _) rfl (fun n20 hn20 => ?_)
              refine gz_w_row (fun σ21 => ?_)
              refine gz_aload_n C dX11_says_120 1 rfl ?_
              refine gz_iconst C dX11_says_121 gk_iconst_3 ?_
              refine gz_iload_n C dX11_says_122 2 rfl ?_
              refine gz_lconst C dX11_says_123 gk_lconst_0 ?_
              refine gz_lconst C dX11_says_124 gk_lconst_0 ?_
              refine gz_kv (gz_runV (t := 0) (ci := 11) (q := (RX11, TX11, 63)) (As := [.int 3, .int a1, .long 0, .long 0]) (rest := []) C dX11_says_125 ml_RX11_183 mw_X11_act mv_X11_act (c_X11_act l G 3 a1 0 0 σ21) (gz_hm0 _) rfl rfl rfl rfl rfl (Nat.le_of_ble_eq_true rfl) ⟨rfl, rfl, Nat.le_of_ble_eq_true rfl, Nat.le_of_ble_eq_true rfl, Nat.le_of_ble_eq_true rfl, Nat.le_of_ble_eq_true rfl⟩) (fun σ22 => ?_)
              refine gz_aload_n C dX11_says_128 1 rfl ?_
              refine gz_get C (t := 0) (k := 36) (ci := 11) (q := (RX11, TX11, 63)) (v := .ref (gz_ad true G 19 0)) dX11_says_129 fl_RX11_83 (gz_hm0 _) rfl rfl (by decide) rfl ?_
              refine gz_iload_n C dX11_says_132 2 rfl ?_
              refine gz_dup2 C dX11_says_133 rfl rfl ?_
              refine gz_iald C (t := 19) dX11_says_134 (gz_hm19 _) rfl (fun n23 hn23 => ?_)
              refine gz_iconst C dX11_says_135 gk_iconst_1 ?_
              refine gz_iadd C dX11_says_136 ?_
              refine gz_iast C (t := 19) dX11_says_137 (gz_hm19 _) rfl (fun n24 hn24 => ?_)
              refine gz_w_row (fun σ25 => ?_)
              refine gz_aload_n C dX11_says_138 1 rfl ?_
              refine gz_aload_n C dX11_says_139 1 rfl ?_
              refine gz_get C (t := 0) (k := 36) (ci := 11) (q := (RX11, TX11, 63)) (v := .ref (gz_ad true G 19 0)) dX11_says_140 fl_RX11_83 (gz_hm0 _) rfl rfl (by decide) rfl ?_
              refine gz_iload_n C dX11_says_143 2 rfl ?_
              refine gz_iald C (t := 19) dX11_says_144 (gz_hm19 _) rfl (fun n26 hn26 => ?_)
              refine gz_ki (gz_runV (t := 0) (ci := 11) (q := (RX11, TX11, 63)) (As := [.int (σ25.1 19 0 n26)]) (rest := []) C dX11_says_145 ml_RX11_190 mw_X11_done mv_X11_done (c_X11_done l G (σ25.1 19 0 n26) σ25) (gz_hm0 _) rfl rfl rfl rfl rfl (Nat.le_of_ble_eq_true rfl) ⟨rfl, rfl, Nat.le_of_ble_eq_true rfl, Nat.le_of_ble_eq_true rfl, Nat.le_of_ble_eq_true rfl, Nat.le_of_ble_eq_true rfl⟩) (fun r28 σ27 => ?_)
              exact gz_iret C rfl dX11_says_148
            · skip
              refine gz_aload_n C dX11_says_77 0 rfl ?_
              refine gz_iconst C dX11_says_78 gk_iconst_3 ?_
              refine gz_ki (gz_runV (t := 0) (ci := 11) (q := (RX11, TX11, 63)) (As := [.int 3]) (rest := []) C dX11_says_79 ml_RX11_194 mw_X11_refused mv_X11_refused (c_X11_refused l G 3 σ11) (gz_hm0 _) rfl rfl rfl rfl rfl (Nat.le_of_ble_eq_true rfl) ⟨rfl, rfl, Nat.le_of_ble_eq_true rfl, Nat.le_of_ble_eq_true rfl, Nat.le_of_ble_eq_true rfl, Nat.le_of_ble_eq_true rfl⟩) (fun r30 σ29 => ?_)
              exact gz_iret C rfl dX11_says_82
          · skip
            refine gz_aload_n C dX11_says_61 0 rfl ?_
            refine gz_iconst C dX11_says_62 gk_iconst_2 ?_
            refine gz_ki (gz_runV (t := 0) (ci := 11) (q := (RX11, TX11, 63)) (As := [.int 2]) (rest := []) C dX11_says_63 ml_RX11_194 mw_X11_refused mv_X11_refused (c_X11_refused l G 2 σ11) (gz_hm0 _) rfl rfl rfl rfl rfl (Nat.le_of_ble_eq_true rfl) ⟨rfl, rfl, Nat.le_of_ble_eq_true rfl, Nat.le_of_ble_eq_true rfl, Nat.le_of_ble_eq_true rfl, Nat.le_of_ble_eq_true rfl⟩) (fun r32 σ31 => ?_)
            exact gz_iret C rfl dX11_says_66
    · skip
      refine gz_aload_n C dX11_says_29 0 rfl ?_
      refine gz_bipush C dX11_says_30 gk_bipush_6 ?_
      refine gz_ki (gz_runV (t := 0) (ci := 11) (q := (RX11, TX11, 63)) (As := [.int 6]) (rest := []) C dX11_says_32 ml_RX11_194 mw_X11_refused mv_X11_refused (c_X11_refused l G 6 σ2) (gz_hm0 _) rfl rfl rfl rfl rfl (Nat.le_of_ble_eq_true rfl) ⟨rfl, rfl, Nat.le_of_ble_eq_true rfl, Nat.le_of_ble_eq_true rfl, Nat.le_of_ble_eq_true rfl, Nat.le_of_ble_eq_true rfl⟩) (fun r34 σ33 => ?_)
      exact gz_iret C rfl dX11_says_35
  · skip
    refine gz_aload_n C dX11_says_13 0 rfl ?_
    refine gz_iconst C dX11_says_14 gk_iconst_1 ?_
    refine gz_ki (gz_runV (t := 0) (ci := 11) (q := (RX11, TX11, 63)) (As := [.int 1]) (rest := []) C dX11_says_15 ml_RX11_194 mw_X11_refused mv_X11_refused (c_X11_refused l G 1 σ2) (gz_hm0 _) rfl rfl rfl rfl rfl (Nat.le_of_ble_eq_true rfl) ⟨rfl, rfl, Nat.le_of_ble_eq_true rfl, Nat.le_of_ble_eq_true rfl, Nat.le_of_ble_eq_true rfl, Nat.le_of_ble_eq_true rfl⟩) (fun r36 σ35 => ?_)
    exact gz_iret C rfl dX11_says_18

def f_X11_waits (a1 : Int32) (σ : gz_S) : Option (Int32 × gz_S) :=
  gz_call (f_X11_isNotice a1 σ) (fun r2 σ1 =>
  if r2 = 0 then
  (gz_call (f_X11_denied 1 σ1) (fun r7 σ6 =>
  some (r7 &&& 1, σ6)))
  else
  (gz_ix a1 61 (fun n3 =>
  if (σ1.1 18 0 n3) = (-1) then
  (some ((1 : Int32) &&& 1, σ1))
  else
  (gz_call (f_X11_denied 6 σ1) (fun r5 σ4 =>
  if r5 = 0 then
  (some ((0 : Int32) &&& 1, σ4))
  else
  (some ((1 : Int32) &&& 1, σ4)))))))
set_option maxHeartbeats 4000000 in
set_option maxRecDepth 100000 in
theorem c_X11_waits (l : Launch) (G : gz_G) (a1 : Int32) (σ : gz_S) : ∀ o, f_X11_waits a1 σ = some o → gz_M l true G yX11_waits cX11_waits 2 (some .boolean) { frames := 1, cells := 0, slots := 0, locals := 21 } [.ref (gz_ad true G 0 0), .int a1] σ (gz_ei o) 0 0 := by
  refine gz_enter RX11 rfl (by decide) (Nat.le_of_ble_eq_true rfl) ?_
  intro p e s m args below meth c C
  refine gz_eqs (st' := []) (lv' := [(0, .ref (gz_ad true G 0 0)), (1, .int a1)]) rfl rfl ?_
  unfold f_X11_waits
  refine gz_aload_n C dX11_waits_0 0 rfl ?_
  refine gz_iload_n C dX11_waits_1 1 rfl ?_
  refine gz_ki (gz_runV (t := 0) (ci := 11) (q := (RX11, TX11, 63)) (As := [.int a1]) (rest := []) C dX11_waits_2 ml_RX11_328 mw_X11_isNotice mv_X11_isNotice (c_X11_isNotice l G a1 σ) (gz_hm0 _) rfl rfl rfl rfl rfl (Nat.le_of_ble_eq_true rfl) ⟨rfl, rfl, Nat.le_of_ble_eq_true rfl, Nat.le_of_ble_eq_true rfl, Nat.le_of_ble_eq_true rfl, Nat.le_of_ble_eq_true rfl⟩) (fun r2 σ1 => ?_)
  refine gz_if_ne (tgt := 14) C dX11_waits_5 (by decide) ?_ ?_
  · skip
    refine gz_aload_n C dX11_waits_14 0 rfl ?_
    refine gz_get C (t := 0) (k := 35) (ci := 11) (q := (RX11, TX11, 63)) (v := .ref (gz_ad true G 18 0)) dX11_waits_15 fl_RX11_80 (gz_hm0 _) rfl rfl (by decide) rfl ?_
    refine gz_iload_n C dX11_waits_18 1 rfl ?_
    refine gz_iald C (t := 18) dX11_waits_19 (gz_hm18 _) rfl (fun n3 hn3 => ?_)
    refine gz_iconst C dX11_waits_20 gk_iconst_m1 ?_
    refine gz_icmp_eq (tgt := 33) C dX11_waits_21 (by decide) ?_ ?_
    · skip
      refine gz_iconst C dX11_waits_33 gk_iconst_1 ?_
      refine gz_goto (tgt := 38) C dX11_waits_34 (by decide) ?_
      exact gz_zret C rfl dX11_waits_38
    · skip
      refine gz_aload_n C dX11_waits_24 0 rfl ?_
      refine gz_bipush C dX11_waits_25 gk_bipush_6 ?_
      refine gz_ki (gz_runV (t := 0) (ci := 11) (q := (RX11, TX11, 63)) (As := [.int 6]) (rest := []) C dX11_waits_27 ml_RX11_180 mw_X11_denied mv_X11_denied (c_X11_denied l G 6 σ1) (gz_hm0 _) rfl rfl rfl rfl rfl (Nat.le_of_ble_eq_true rfl) ⟨rfl, rfl, Nat.le_of_ble_eq_true rfl, Nat.le_of_ble_eq_true rfl, Nat.le_of_ble_eq_true rfl, Nat.le_of_ble_eq_true rfl⟩) (fun r5 σ4 => ?_)
      refine gz_if_eq (tgt := 37) C dX11_waits_30 (by decide) ?_ ?_
      · skip
        refine gz_iconst C dX11_waits_37 gk_iconst_0 ?_
        exact gz_zret C rfl dX11_waits_38
      · skip
        refine gz_iconst C dX11_waits_33 gk_iconst_1 ?_
        refine gz_goto (tgt := 38) C dX11_waits_34 (by decide) ?_
        exact gz_zret C rfl dX11_waits_38
  · skip
    refine gz_aload_n C dX11_waits_8 0 rfl ?_
    refine gz_iconst C dX11_waits_9 gk_iconst_1 ?_
    refine gz_ki (gz_runV (t := 0) (ci := 11) (q := (RX11, TX11, 63)) (As := [.int 1]) (rest := []) C dX11_waits_10 ml_RX11_180 mw_X11_denied mv_X11_denied (c_X11_denied l G 1 σ1) (gz_hm0 _) rfl rfl rfl rfl rfl (Nat.le_of_ble_eq_true rfl) ⟨rfl, rfl, Nat.le_of_ble_eq_true rfl, Nat.le_of_ble_eq_true rfl, Nat.le_of_ble_eq_true rfl, Nat.le_of_ble_eq_true rfl⟩) (fun r7 σ6 => ?_)
    exact gz_zret C rfl dX11_waits_13
