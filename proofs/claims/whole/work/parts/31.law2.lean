def f_lawC15 (xs : Nat → Int32) (L : Nat) (i : Int32) (k : gz_S → gz_S → Option Unit) (σx σm : gz_S) : Option Unit :=
  gz_ix (i + 1) L (fun n1 =>
  gz_ix (i + 2) L (fun n2 =>
  gz_ix (i + 3) L (fun n3 =>
  gz_ix (i + 4) L (fun n4 =>
  gz_ix (i + 5) L (fun n5 =>
  gz_call (f_X9_renames (xs n1) ((((xs n2 : Int32).toInt64) <<< ((32 : Int32).toInt64 &&& 63)) ||| (((xs n3 : Int32).toInt64) &&& 4294967295)) ((((xs n4 : Int32).toInt64) <<< ((32 : Int32).toInt64 &&& 63)) ||| (((xs n5 : Int32).toInt64) &&& 4294967295)) σx) (fun r6 u7 =>
  gz_ix (i + 1) L (fun n8 =>
  gz_ix (i + 2) L (fun n9 =>
  gz_ix (i + 3) L (fun n10 =>
  gz_ix (i + 4) L (fun n11 =>
  gz_ix (i + 5) L (fun n12 =>
  gz_call (f_X11_renames (xs n8) ((((xs n9 : Int32).toInt64) <<< ((32 : Int32).toInt64 &&& 63)) ||| (((xs n10 : Int32).toInt64) &&& 4294967295)) ((((xs n11 : Int32).toInt64) <<< ((32 : Int32).toInt64 &&& 63)) ||| (((xs n12 : Int32).toInt64) &&& 4294967295)) σm) (fun r13 u14 =>
  if r6 = r13 then k u7 u14 else none))))))))))))
set_option maxHeartbeats 4000000 in
set_option maxRecDepth 100000 in
theorem c_lawC15 {p : Program} {l : Launch} {e : Jvm.Env} {s : State} {m : MethodId} {args : Array Value} {below : List Frame} {meth : Method} {c : Code} {G : gz_G} {QQ : Unit → State → Prop} {bb L ce sl : Nat} {xs : Nat → Int32} {i : Int32} {k : gz_S → gz_S → Option Unit} (C : gz_X p s m meth c G code R_law 4 (some .boolean)) (hX : va_X bb L xs s s.heap) (hbl : bb < s.heap.size) (hbA : ¬ G.1 ≤ bb) (hce : ce + 1 ≤ 601024) (hsl : sl + 60 ≤ 7293034) (hk : ∀ u v, gq_W (gl_H G) (fun q => G.1 ≤ q) p l e room_1 s m args below meth c 4 QQ (ce + 1) (sl + 60) (u, v) 1331 [(0, .ref bb), (1, .ref (gz_ad false G 0 0)), (2, .ref (gz_ad true G 0 0)), (3, .int i)] [] (k u v)) (σx σm : gz_S) : gq_W (gl_H G) (fun q => G.1 ≤ q) p l e room_1 s m args below meth c 4 QQ ce sl (σx, σm) 696 [(0, .ref bb), (1, .ref (gz_ad false G 0 0)), (2, .ref (gz_ad true G 0 0)), (3, .int i)] [] (f_lawC15 xs L i k σx σm) := by
  unfold f_lawC15
  refine gq_aload_n C dL_law_696 1 rfl ?_
  refine gq_aload_n C dL_law_697 0 rfl ?_
  refine gq_iload_n C dL_law_698 3 rfl ?_
  refine gq_iconst C dL_law_699 gk_iconst_1 ?_
  refine gq_iadd C dL_law_700 ?_
  refine gl_sld C hX hbl hbA dL_law_701 (fun n1 => ?_)
  refine gq_aload_n C dL_law_702 0 rfl ?_
  refine gq_iload_n C dL_law_703 3 rfl ?_
  refine gq_iconst C dL_law_704 gk_iconst_2 ?_
  refine gq_iadd C dL_law_705 ?_
  refine gl_sld C hX hbl hbA dL_law_706 (fun n2 => ?_)
  refine gq_i2l C dL_law_707 ?_
  refine gq_bipush C dL_law_708 gk_bipush_32 ?_
  refine gq_lshl C dL_law_710 ?_
  refine gq_aload_n C dL_law_711 0 rfl ?_
  refine gq_iload_n C dL_law_712 3 rfl ?_
  refine gq_iconst C dL_law_713 gk_iconst_3 ?_
  refine gq_iadd C dL_law_714 ?_
  refine gl_sld C hX hbl hbA dL_law_715 (fun n3 => ?_)
  refine gq_i2l C dL_law_716 ?_
  refine gq_ldc2 C dL_law_717 cw_RL_83 ?_
  refine gq_land C dL_law_720 ?_
  refine gq_lor C dL_law_721 ?_
  refine gq_aload_n C dL_law_722 0 rfl ?_
  refine gq_iload_n C dL_law_723 3 rfl ?_
  refine gq_iconst C dL_law_724 gk_iconst_4 ?_
  refine gq_iadd C dL_law_725 ?_
  refine gl_sld C hX hbl hbA dL_law_726 (fun n4 => ?_)
  refine gq_i2l C dL_law_727 ?_
  refine gq_bipush C dL_law_728 gk_bipush_32 ?_
  refine gq_lshl C dL_law_730 ?_
  refine gq_aload_n C dL_law_731 0 rfl ?_
  refine gq_iload_n C dL_law_732 3 rfl ?_
  refine gq_iconst C dL_law_733 gk_iconst_5 ?_
  refine gq_iadd C dL_law_734 ?_
  refine gl_sld C hX hbl hbA dL_law_735 (fun n5 => ?_)
  refine gq_i2l C dL_law_736 ?_
  refine gq_ldc2 C dL_law_737 cw_RL_83 ?_
  refine gq_land C dL_law_740 ?_
  refine gq_lor C dL_law_741 ?_
  refine gl_ki (b := false) (σ := (σx, σm)) (gz_runV (b := false) (t := 0) (i := 0) (ci := 9) (q := (RX9, TX9, 11)) (As := [.int (xs n1), .long ((((xs n2 : Int32).toInt64) <<< ((32 : Int32).toInt64 &&& 63)) ||| (((xs n3 : Int32).toInt64) &&& 4294967295)), .long ((((xs n4 : Int32).toInt64) <<< ((32 : Int32).toInt64 &&& 63)) ||| (((xs n5 : Int32).toInt64) &&& 4294967295))]) (rest := []) (mc := 0) (ms := 0) (σ := σx) C dL_law_742 ml_RL_85 mw_X9_renames mv_X9_renames (c_X9_renames l G (xs n1) ((((xs n2 : Int32).toInt64) <<< ((32 : Int32).toInt64 &&& 63)) ||| (((xs n3 : Int32).toInt64) &&& 4294967295)) ((((xs n4 : Int32).toInt64) <<< ((32 : Int32).toInt64 &&& 63)) ||| (((xs n5 : Int32).toInt64) &&& 4294967295)) σx) (gz_hx0 _) rfl rfl rfl rfl rfl (Nat.le_of_ble_eq_true rfl) ⟨rfl, rfl, Nat.le_of_ble_eq_true rfl, Nat.le_of_ble_eq_true rfl, show _ ≤ 601024 by omega, show _ ≤ 7293034 by omega⟩) (fun r6 u7 => ?_)
  refine gq_stq (σ' := (u7, σm)) rfl ?_
  refine gq_aload_n C dL_law_745 2 rfl ?_
  refine gq_aload_n C dL_law_746 0 rfl ?_
  refine gq_iload_n C dL_law_747 3 rfl ?_
  refine gq_iconst C dL_law_748 gk_iconst_1 ?_
  refine gq_iadd C dL_law_749 ?_
  refine gl_sld C hX hbl hbA dL_law_750 (fun n8 => ?_)
  refine gq_aload_n C dL_law_751 0 rfl ?_
  refine gq_iload_n C dL_law_752 3 rfl ?_
  refine gq_iconst C dL_law_753 gk_iconst_2 ?_
  refine gq_iadd C dL_law_754 ?_
  refine gl_sld C hX hbl hbA dL_law_755 (fun n9 => ?_)
  refine gq_i2l C dL_law_756 ?_
  refine gq_bipush C dL_law_757 gk_bipush_32 ?_
  refine gq_lshl C dL_law_759 ?_
  refine gq_aload_n C dL_law_760 0 rfl ?_
  refine gq_iload_n C dL_law_761 3 rfl ?_
  refine gq_iconst C dL_law_762 gk_iconst_3 ?_
  refine gq_iadd C dL_law_763 ?_
  refine gl_sld C hX hbl hbA dL_law_764 (fun n10 => ?_)
  refine gq_i2l C dL_law_765 ?_
  refine gq_ldc2 C dL_law_766 cw_RL_83 ?_
  refine gq_land C dL_law_769 ?_
  refine gq_lor C dL_law_770 ?_
  refine gq_aload_n C dL_law_771 0 rfl ?_
  refine gq_iload_n C dL_law_772 3 rfl ?_
  refine gq_iconst C dL_law_773 gk_iconst_4 ?_
  refine gq_iadd C dL_law_774 ?_
  refine gl_sld C hX hbl hbA dL_law_775 (fun n11 => ?_)
  refine gq_i2l C dL_law_776 ?_
  refine gq_bipush C dL_law_777 gk_bipush_32 ?_
  refine gq_lshl C dL_law_779 ?_
  refine gq_aload_n C dL_law_780 0 rfl ?_
  refine gq_iload_n C dL_law_781 3 rfl ?_
  refine gq_iconst C dL_law_782 gk_iconst_5 ?_
  refine gq_iadd C dL_law_783 ?_
  refine gl_sld C hX hbl hbA dL_law_784 (fun n12 => ?_)
  refine gq_i2l C dL_law_785 ?_
  refine gq_ldc2 C dL_law_786 cw_RL_83 ?_
  refine gq_land C dL_law_789 ?_
  refine gq_lor C dL_law_790 ?_
  refine gl_ki (b := true) (σ := (u7, σm)) (gz_runV (b := true) (t := 0) (i := 0) (ci := 11) (q := (RX11, TX11, 63)) (As := [.int (xs n8), .long ((((xs n9 : Int32).toInt64) <<< ((32 : Int32).toInt64 &&& 63)) ||| (((xs n10 : Int32).toInt64) &&& 4294967295)), .long ((((xs n11 : Int32).toInt64) <<< ((32 : Int32).toInt64 &&& 63)) ||| (((xs n12 : Int32).toInt64) &&& 4294967295))]) (rest := [.int r6]) (mc := 0) (ms := 0) (σ := σm) C dL_law_791 ml_RL_89 mw_X11_renames mv_X11_renames (c_X11_renames l G (xs n8) ((((xs n9 : Int32).toInt64) <<< ((32 : Int32).toInt64 &&& 63)) ||| (((xs n10 : Int32).toInt64) &&& 4294967295)) ((((xs n11 : Int32).toInt64) <<< ((32 : Int32).toInt64 &&& 63)) ||| (((xs n12 : Int32).toInt64) &&& 4294967295)) σm) (gz_hm0 _) rfl rfl rfl rfl rfl (Nat.le_of_ble_eq_true rfl) ⟨rfl, rfl, Nat.le_of_ble_eq_true rfl, Nat.le_of_ble_eq_true rfl, show _ ≤ 601024 by omega, show _ ≤ 7293034 by omega⟩) (fun r13 u14 => ?_)
  refine gq_stq (σ' := (u7, u14)) rfl ?_
  refine gq_icmp_eq (tgt := 1331) C dL_law_794 (by decide) ?_ ?_
  · exact gq_wid (ce1 := ce + 1) (sl1 := sl + 60) (by omega) (by omega) (hk u7 u14)
  · exact gq_none

def f_lawC16 (xs : Nat → Int32) (L : Nat) (i : Int32) (k : gz_S → gz_S → Option Unit) (σx σm : gz_S) : Option Unit :=
  gz_ix (i + 1) L (fun n1 =>
  gz_ix (i + 2) L (fun n2 =>
  gz_ix (i + 3) L (fun n3 =>
  gz_call (f_X9_strikes (xs n1) ((((xs n2 : Int32).toInt64) <<< ((32 : Int32).toInt64 &&& 63)) ||| (((xs n3 : Int32).toInt64) &&& 4294967295)) σx) (fun r4 u5 =>
  gz_ix (i + 1) L (fun n6 =>
  gz_ix (i + 2) L (fun n7 =>
  gz_ix (i + 3) L (fun n8 =>
  gz_call (f_X11_strikes (xs n6) ((((xs n7 : Int32).toInt64) <<< ((32 : Int32).toInt64 &&& 63)) ||| (((xs n8 : Int32).toInt64) &&& 4294967295)) σm) (fun r9 u10 =>
  if r4 = r9 then k u5 u10 else none))))))))
set_option maxHeartbeats 4000000 in
set_option maxRecDepth 100000 in
theorem c_lawC16 {p : Program} {l : Launch} {e : Jvm.Env} {s : State} {m : MethodId} {args : Array Value} {below : List Frame} {meth : Method} {c : Code} {G : gz_G} {QQ : Unit → State → Prop} {bb L ce sl : Nat} {xs : Nat → Int32} {i : Int32} {k : gz_S → gz_S → Option Unit} (C : gz_X p s m meth c G code R_law 4 (some .boolean)) (hX : va_X bb L xs s s.heap) (hbl : bb < s.heap.size) (hbA : ¬ G.1 ≤ bb) (hce : ce + 1 ≤ 601024) (hsl : sl + 60 ≤ 7293034) (hk : ∀ u v, gq_W (gl_H G) (fun q => G.1 ≤ q) p l e room_1 s m args below meth c 4 QQ (ce + 1) (sl + 60) (u, v) 1331 [(0, .ref bb), (1, .ref (gz_ad false G 0 0)), (2, .ref (gz_ad true G 0 0)), (3, .int i)] [] (k u v)) (σx σm : gz_S) : gq_W (gl_H G) (fun q => G.1 ≤ q) p l e room_1 s m args below meth c 4 QQ ce sl (σx, σm) 799 [(0, .ref bb), (1, .ref (gz_ad false G 0 0)), (2, .ref (gz_ad true G 0 0)), (3, .int i)] [] (f_lawC16 xs L i k σx σm) := by
  unfold f_lawC16
  refine gq_aload_n C dL_law_799 1 rfl ?_
  refine gq_aload_n C dL_law_800 0 rfl ?_
  refine gq_iload_n C dL_law_801 3 rfl ?_
  refine gq_iconst C dL_law_802 gk_iconst_1 ?_
  refine gq_iadd C dL_law_803 ?_
  refine gl_sld C hX hbl hbA dL_law_804 (fun n1 => ?_)
  refine gq_aload_n C dL_law_805 0 rfl ?_
  refine gq_iload_n C dL_law_806 3 rfl ?_
  refine gq_iconst C dL_law_807 gk_iconst_2 ?_
  refine gq_iadd C dL_law_808 ?_
  refine gl_sld C hX hbl hbA dL_law_809 (fun n2 => ?_)
  refine gq_i2l C dL_law_810 ?_
  refine gq_bipush C dL_law_811 gk_bipush_32 ?_
  refine gq_lshl C dL_law_813 ?_
  refine gq_aload_n C dL_law_814 0 rfl ?_
  refine gq_iload_n C dL_law_815 3 rfl ?_
  refine gq_iconst C dL_law_816 gk_iconst_3 ?_
  refine gq_iadd C dL_law_817 ?_
  refine gl_sld C hX hbl hbA dL_law_818 (fun n3 => ?_)
  refine gq_i2l C dL_law_819 ?_
  refine gq_ldc2 C dL_law_820 cw_RL_83 ?_
  refine gq_land C dL_law_823 ?_
  refine gq_lor C dL_law_824 ?_
  refine gl_ki (b := false) (σ := (σx, σm)) (gz_runV (b := false) (t := 0) (i := 0) (ci := 9) (q := (RX9, TX9, 11)) (As := [.int (xs n1), .long ((((xs n2 : Int32).toInt64) <<< ((32 : Int32).toInt64 &&& 63)) ||| (((xs n3 : Int32).toInt64) &&& 4294967295))]) (rest := []) (mc := 0) (ms := 0) (σ := σx) C dL_law_825 ml_RL_90 mw_X9_strikes mv_X9_strikes (c_X9_strikes l G (xs n1) ((((xs n2 : Int32).toInt64) <<< ((32 : Int32).toInt64 &&& 63)) ||| (((xs n3 : Int32).toInt64) &&& 4294967295)) σx) (gz_hx0 _) rfl rfl rfl rfl rfl (Nat.le_of_ble_eq_true rfl) ⟨rfl, rfl, Nat.le_of_ble_eq_true rfl, Nat.le_of_ble_eq_true rfl, show _ ≤ 601024 by omega, show _ ≤ 7293034 by omega⟩) (fun r4 u5 => ?_)
  refine gq_stq (σ' := (u5, σm)) rfl ?_
  refine gq_aload_n C dL_law_828 2 rfl ?_
  refine gq_aload_n C dL_law_829 0 rfl ?_
  refine gq_iload_n C dL_law_830 3 rfl ?_
  refine gq_iconst C dL_law_831 gk_iconst_1 ?_
  refine gq_iadd C dL_law_832 ?_
  refine gl_sld C hX hbl hbA dL_law_833 (fun n6 => ?_)
  refine gq_aload_n C dL_law_834 0 rfl ?_
  refine gq_iload_n C dL_law_835 3 rfl ?_
  refine gq_iconst C dL_law_836 gk_iconst_2 ?_
  refine gq_iadd C dL_law_837 ?_
  refine gl_sld C hX hbl hbA dL_law_838 (fun n7 => ?_)
  refine gq_i2l C dL_law_839 ?_
  refine gq_bipush C dL_law_840 gk_bipush_32 ?_
  refine gq_lshl C dL_law_842 ?_
  refine gq_aload_n C dL_law_843 0 rfl ?_
  refine gq_iload_n C dL_law_844 3 rfl ?_
  refine gq_iconst C dL_law_845 gk_iconst_3 ?_
  refine gq_iadd C dL_law_846 ?_
  refine gl_sld C hX hbl hbA dL_law_847 (fun n8 => ?_)
  refine gq_i2l C dL_law_848 ?_
  refine gq_ldc2 C dL_law_849 cw_RL_83 ?_
  refine gq_land C dL_law_852 ?_
  refine gq_lor C dL_law_853 ?_
  refine gl_ki (b := true) (σ := (u5, σm)) (gz_runV (b := true) (t := 0) (i := 0) (ci := 11) (q := (RX11, TX11, 63)) (As := [.int (xs n6), .long ((((xs n7 : Int32).toInt64) <<< ((32 : Int32).toInt64 &&& 63)) ||| (((xs n8 : Int32).toInt64) &&& 4294967295))]) (rest := [.int r4]) (mc := 0) (ms := 0) (σ := σm) C dL_law_854 ml_RL_94 mw_X11_strikes mv_X11_strikes (c_X11_strikes l G (xs n6) ((((xs n7 : Int32).toInt64) <<< ((32 : Int32).toInt64 &&& 63)) ||| (((xs n8 : Int32).toInt64) &&& 4294967295)) σm) (gz_hm0 _) rfl rfl rfl rfl rfl (Nat.le_of_ble_eq_true rfl) ⟨rfl, rfl, Nat.le_of_ble_eq_true rfl, Nat.le_of_ble_eq_true rfl, show _ ≤ 601024 by omega, show _ ≤ 7293034 by omega⟩) (fun r9 u10 => ?_)
  refine gq_stq (σ' := (u5, u10)) rfl ?_
  refine gq_icmp_eq (tgt := 1331) C dL_law_857 (by decide) ?_ ?_
  · exact gq_wid (ce1 := ce + 1) (sl1 := sl + 60) (by omega) (by omega) (hk u5 u10)
  · exact gq_none

def f_lawC17 (xs : Nat → Int32) (L : Nat) (i : Int32) (k : gz_S → gz_S → Option Unit) (σx σm : gz_S) : Option Unit :=
  gz_ix (i + 1) L (fun n1 =>
  gz_ix (i + 2) L (fun n2 =>
  gz_ix (i + 3) L (fun n3 =>
  gz_ix (i + 4) L (fun n4 =>
  gz_call (f_X9_issue (xs n1) (xs n2) (xs n3) (xs n4) σx) (fun r5 u6 =>
  gz_ix (i + 1) L (fun n7 =>
  gz_ix (i + 2) L (fun n8 =>
  gz_ix (i + 3) L (fun n9 =>
  gz_ix (i + 4) L (fun n10 =>
  gz_call (f_X11_issue (xs n7) (xs n8) (xs n9) (xs n10) σm) (fun r11 u12 =>
  if r5 = r11 then k u6 u12 else none))))))))))
set_option maxHeartbeats 4000000 in
set_option maxRecDepth 100000 in
theorem c_lawC17 {p : Program} {l : Launch} {e : Jvm.Env} {s : State} {m : MethodId} {args : Array Value} {below : List Frame} {meth : Method} {c : Code} {G : gz_G} {QQ : Unit → State → Prop} {bb L ce sl : Nat} {xs : Nat → Int32} {i : Int32} {k : gz_S → gz_S → Option Unit} (C : gz_X p s m meth c G code R_law 4 (some .boolean)) (hX : va_X bb L xs s s.heap) (hbl : bb < s.heap.size) (hbA : ¬ G.1 ≤ bb) (hce : ce + 1 ≤ 601024) (hsl : sl + 60 ≤ 7293034) (hk : ∀ u v, gq_W (gl_H G) (fun q => G.1 ≤ q) p l e room_1 s m args below meth c 4 QQ (ce + 1) (sl + 60) (u, v) 1331 [(0, .ref bb), (1, .ref (gz_ad false G 0 0)), (2, .ref (gz_ad true G 0 0)), (3, .int i)] [] (k u v)) (σx σm : gz_S) : gq_W (gl_H G) (fun q => G.1 ≤ q) p l e room_1 s m args below meth c 4 QQ ce sl (σx, σm) 862 [(0, .ref bb), (1, .ref (gz_ad false G 0 0)), (2, .ref (gz_ad true G 0 0)), (3, .int i)] [] (f_lawC17 xs L i k σx σm) := by
  unfold f_lawC17
  refine gq_aload_n C dL_law_862 1 rfl ?_
  refine gq_aload_n C dL_law_863 0 rfl ?_
  refine gq_iload_n C dL_law_864 3 rfl ?_
  refine gq_iconst C dL_law_865 gk_iconst_1 ?_
  refine gq_iadd C dL_law_866 ?_
  refine gl_sld C hX hbl hbA dL_law_867 (fun n1 => ?_)
  refine gq_aload_n C dL_law_868 0 rfl ?_
  refine gq_iload_n C dL_law_869 3 rfl ?_
  refine gq_iconst C dL_law_870 gk_iconst_2 ?_
  refine gq_iadd C dL_law_871 ?_
  refine gl_sld C hX hbl hbA dL_law_872 (fun n2 => ?_)
  refine gq_aload_n C dL_law_873 0 rfl ?_
  refine gq_iload_n C dL_law_874 3 rfl ?_
  refine gq_iconst C dL_law_875 gk_iconst_3 ?_
  refine gq_iadd C dL_law_876 ?_
  refine gl_sld C hX hbl hbA dL_law_877 (fun n3 => ?_)
  refine gq_aload_n C dL_law_878 0 rfl ?_
  refine gq_iload_n C dL_law_879 3 rfl ?_
  refine gq_iconst C dL_law_880 gk_iconst_4 ?_
  refine gq_iadd C dL_law_881 ?_
  refine gl_sld C hX hbl hbA dL_law_882 (fun n4 => ?_)
  refine gl_ki (b := false) (σ := (σx, σm)) (gz_runV (b := false) (t := 0) (i := 0) (ci := 9) (q := (RX9, TX9, 11)) (As := [.int (xs n1), .int (xs n2), .int (xs n3), .int (xs n4)]) (rest := []) (mc := 0) (ms := 0) (σ := σx) C dL_law_883 ml_RL_95 mw_X9_issue mv_X9_issue (c_X9_issue l G (xs n1) (xs n2) (xs n3) (xs n4) σx) (gz_hx0 _) rfl rfl rfl rfl rfl (Nat.le_of_ble_eq_true rfl) ⟨rfl, rfl, Nat.le_of_ble_eq_true rfl, Nat.le_of_ble_eq_true rfl, show _ ≤ 601024 by omega, show _ ≤ 7293034 by omega⟩) (fun r5 u6 => ?_)
  refine gq_stq (σ' := (u6, σm)) rfl ?_
  refine gq_aload_n C dL_law_886 2 rfl ?_
  refine gq_aload_n C dL_law_887 0 rfl ?_
  refine gq_iload_n C dL_law_888 3 rfl ?_
  refine gq_iconst C dL_law_889 gk_iconst_1 ?_
  refine gq_iadd C dL_law_890 ?_
  refine gl_sld C hX hbl hbA dL_law_891 (fun n7 => ?_)
  refine gq_aload_n C dL_law_892 0 rfl ?_
  refine gq_iload_n C dL_law_893 3 rfl ?_
  refine gq_iconst C dL_law_894 gk_iconst_2 ?_
  refine gq_iadd C dL_law_895 ?_
  refine gl_sld C hX hbl hbA dL_law_896 (fun n8 => ?_)
  refine gq_aload_n C dL_law_897 0 rfl ?_
  refine gq_iload_n C dL_law_898 3 rfl ?_
  refine gq_iconst C dL_law_899 gk_iconst_3 ?_
  refine gq_iadd C dL_law_900 ?_
  refine gl_sld C hX hbl hbA dL_law_901 (fun n9 => ?_)
  refine gq_aload_n C dL_law_902 0 rfl ?_
  refine gq_iload_n C dL_law_903 3 rfl ?_
  refine gq_iconst C dL_law_904 gk_iconst_4 ?_
  refine gq_iadd C dL_law_905 ?_
  refine gl_sld C hX hbl hbA dL_law_906 (fun n10 => ?_)
  refine gl_ki (b := true) (σ := (u6, σm)) (gz_runV (b := true) (t := 0) (i := 0) (ci := 11) (q := (RX11, TX11, 63)) (As := [.int (xs n7), .int (xs n8), .int (xs n9), .int (xs n10)]) (rest := [.int r5]) (mc := 1) (ms := 60) (σ := σm) C dL_law_907 ml_RL_98 mw_X11_issue mv_X11_issue (c_X11_issue l G (xs n7) (xs n8) (xs n9) (xs n10) σm) (gz_hm0 _) rfl rfl rfl rfl rfl (Nat.le_of_ble_eq_true rfl) ⟨rfl, rfl, Nat.le_of_ble_eq_true rfl, Nat.le_of_ble_eq_true rfl, show _ ≤ 601024 by omega, show _ ≤ 7293034 by omega⟩) (fun r11 u12 => ?_)
  refine gq_stq (σ' := (u6, u12)) rfl ?_
  refine gq_icmp_eq (tgt := 1331) C dL_law_910 (by decide) ?_ ?_
  · exact gq_wid (ce1 := ce + 1) (sl1 := sl + 60) (by omega) (by omega) (hk u6 u12)
  · exact gq_none

def f_lawC18 (xs : Nat → Int32) (L : Nat) (i : Int32) (k : gz_S → gz_S → Option Unit) (σx σm : gz_S) : Option Unit :=
  gz_ix (i + 1) L (fun n1 =>
  gz_ix (i + 2) L (fun n2 =>
  gz_call (f_X9_issued (xs n1) (xs n2) σx) (fun r3 u4 =>
  gz_ix (i + 1) L (fun n5 =>
  gz_ix (i + 2) L (fun n6 =>
  gz_call (f_X11_issued (xs n5) (xs n6) σm) (fun r7 u8 =>
  if r3 = r7 then k u4 u8 else none))))))
set_option maxHeartbeats 4000000 in
set_option maxRecDepth 100000 in
theorem c_lawC18 {p : Program} {l : Launch} {e : Jvm.Env} {s : State} {m : MethodId} {args : Array Value} {below : List Frame} {meth : Method} {c : Code} {G : gz_G} {QQ : Unit → State → Prop} {bb L ce sl : Nat} {xs : Nat → Int32} {i : Int32} {k : gz_S → gz_S → Option Unit} (C : gz_X p s m meth c G code R_law 4 (some .boolean)) (hX : va_X bb L xs s s.heap) (hbl : bb < s.heap.size) (hbA : ¬ G.1 ≤ bb) (hce : ce + 1 ≤ 601024) (hsl : sl + 60 ≤ 7293034) (hk : ∀ u v, gq_W (gl_H G) (fun q => G.1 ≤ q) p l e room_1 s m args below meth c 4 QQ (ce + 1) (sl + 60) (u, v) 1331 [(0, .ref bb), (1, .ref (gz_ad false G 0 0)), (2, .ref (gz_ad true G 0 0)), (3, .int i)] [] (k u v)) (σx σm : gz_S) : gq_W (gl_H G) (fun q => G.1 ≤ q) p l e room_1 s m args below meth c 4 QQ ce sl (σx, σm) 915 [(0, .ref bb), (1, .ref (gz_ad false G 0 0)), (2, .ref (gz_ad true G 0 0)), (3, .int i)] [] (f_lawC18 xs L i k σx σm) := by
  unfold f_lawC18
  refine gq_aload_n C dL_law_915 1 rfl ?_
  refine gq_aload_n C dL_law_916 0 rfl ?_
  refine gq_iload_n C dL_law_917 3 rfl ?_
  refine gq_iconst C dL_law_918 gk_iconst_1 ?_
  refine gq_iadd C dL_law_919 ?_
  refine gl_sld C hX hbl hbA dL_law_920 (fun n1 => ?_)
  refine gq_aload_n C dL_law_921 0 rfl ?_
  refine gq_iload_n C dL_law_922 3 rfl ?_
  refine gq_iconst C dL_law_923 gk_iconst_2 ?_
  refine gq_iadd C dL_law_924 ?_
  refine gl_sld C hX hbl hbA dL_law_925 (fun n2 => ?_)
  refine gl_ki (b := false) (σ := (σx, σm)) (gz_runV (b := false) (t := 0) (i := 0) (ci := 9) (q := (RX9, TX9, 11)) (As := [.int (xs n1), .int (xs n2)]) (rest := []) (mc := 0) (ms := 0) (σ := σx) C dL_law_926 ml_RL_99 mw_X9_issued mv_X9_issued (c_X9_issued l G (xs n1) (xs n2) σx) (gz_hx0 _) rfl rfl rfl rfl rfl (Nat.le_of_ble_eq_true rfl) ⟨rfl, rfl, Nat.le_of_ble_eq_true rfl, Nat.le_of_ble_eq_true rfl, show _ ≤ 601024 by omega, show _ ≤ 7293034 by omega⟩) (fun r3 u4 => ?_)
  refine gq_stq (σ' := (u4, σm)) rfl ?_
  refine gq_aload_n C dL_law_929 2 rfl ?_
  refine gq_aload_n C dL_law_930 0 rfl ?_
  refine gq_iload_n C dL_law_931 3 rfl ?_
  refine gq_iconst C dL_law_932 gk_iconst_1 ?_
  refine gq_iadd C dL_law_933 ?_
  refine gl_sld C hX hbl hbA dL_law_934 (fun n5 => ?_)
  refine gq_aload_n C dL_law_935 0 rfl ?_
  refine gq_iload_n C dL_law_936 3 rfl ?_
  refine gq_iconst C dL_law_937 gk_iconst_2 ?_
  refine gq_iadd C dL_law_938 ?_
  refine gl_sld C hX hbl hbA dL_law_939 (fun n6 => ?_)
  refine gl_ki (b := true) (σ := (u4, σm)) (gz_runV (b := true) (t := 0) (i := 0) (ci := 11) (q := (RX11, TX11, 63)) (As := [.int (xs n5), .int (xs n6)]) (rest := [.int r3]) (mc := 0) (ms := 0) (σ := σm) C dL_law_940 ml_RL_102 mw_X11_issued mv_X11_issued (c_X11_issued l G (xs n5) (xs n6) σm) (gz_hm0 _) rfl rfl rfl rfl rfl (Nat.le_of_ble_eq_true rfl) ⟨rfl, rfl, Nat.le_of_ble_eq_true rfl, Nat.le_of_ble_eq_true rfl, show _ ≤ 601024 by omega, show _ ≤ 7293034 by omega⟩) (fun r7 u8 => ?_)
  refine gq_stq (σ' := (u4, u8)) rfl ?_
  refine gq_icmp_eq (tgt := 1331) C dL_law_943 (by decide) ?_ ?_
  · exact gq_wid (ce1 := ce + 1) (sl1 := sl + 60) (by omega) (by omega) (hk u4 u8)
  · exact gq_none

def f_lawC19 (xs : Nat → Int32) (L : Nat) (i : Int32) (k : gz_S → gz_S → Option Unit) (σx σm : gz_S) : Option Unit :=
  gz_ix (i + 1) L (fun n1 =>
  gz_ix (i + 2) L (fun n2 =>
  gz_call (f_X9_printed (xs n1) (xs n2) σx) (fun r3 u4 =>
  gz_ix (i + 1) L (fun n5 =>
  gz_ix (i + 2) L (fun n6 =>
  gz_call (f_X11_printed (xs n5) (xs n6) σm) (fun r7 u8 =>
  if r3 = r7 then k u4 u8 else none))))))
set_option maxHeartbeats 4000000 in
set_option maxRecDepth 100000 in
theorem c_lawC19 {p : Program} {l : Launch} {e : Jvm.Env} {s : State} {m : MethodId} {args : Array Value} {below : List Frame} {meth : Method} {c : Code} {G : gz_G} {QQ : Unit → State → Prop} {bb L ce sl : Nat} {xs : Nat → Int32} {i : Int32} {k : gz_S → gz_S → Option Unit} (C : gz_X p s m meth c G code R_law 4 (some .boolean)) (hX : va_X bb L xs s s.heap) (hbl : bb < s.heap.size) (hbA : ¬ G.1 ≤ bb) (hce : ce + 1 ≤ 601024) (hsl : sl + 60 ≤ 7293034) (hk : ∀ u v, gq_W (gl_H G) (fun q => G.1 ≤ q) p l e room_1 s m args below meth c 4 QQ (ce + 1) (sl + 60) (u, v) 1331 [(0, .ref bb), (1, .ref (gz_ad false G 0 0)), (2, .ref (gz_ad true G 0 0)), (3, .int i)] [] (k u v)) (σx σm : gz_S) : gq_W (gl_H G) (fun q => G.1 ≤ q) p l e room_1 s m args below meth c 4 QQ ce sl (σx, σm) 948 [(0, .ref bb), (1, .ref (gz_ad false G 0 0)), (2, .ref (gz_ad true G 0 0)), (3, .int i)] [] (f_lawC19 xs L i k σx σm) := by
  unfold f_lawC19
  refine gq_aload_n C dL_law_948 1 rfl ?_
  refine gq_aload_n C dL_law_949 0 rfl ?_
  refine gq_iload_n C dL_law_950 3 rfl ?_
  refine gq_iconst C dL_law_951 gk_iconst_1 ?_
  refine gq_iadd C dL_law_952 ?_
  refine gl_sld C hX hbl hbA dL_law_953 (fun n1 => ?_)
  refine gq_aload_n C dL_law_954 0 rfl ?_
  refine gq_iload_n C dL_law_955 3 rfl ?_
  refine gq_iconst C dL_law_956 gk_iconst_2 ?_
  refine gq_iadd C dL_law_957 ?_
  refine gl_sld C hX hbl hbA dL_law_958 (fun n2 => ?_)
  refine gl_ki (b := false) (σ := (σx, σm)) (gz_runV (b := false) (t := 0) (i := 0) (ci := 9) (q := (RX9, TX9, 11)) (As := [.int (xs n1), .int (xs n2)]) (rest := []) (mc := 0) (ms := 0) (σ := σx) C dL_law_959 ml_RL_103 mw_X9_printed mv_X9_printed (c_X9_printed l G (xs n1) (xs n2) σx) (gz_hx0 _) rfl rfl rfl rfl rfl (Nat.le_of_ble_eq_true rfl) ⟨rfl, rfl, Nat.le_of_ble_eq_true rfl, Nat.le_of_ble_eq_true rfl, show _ ≤ 601024 by omega, show _ ≤ 7293034 by omega⟩) (fun r3 u4 => ?_)
  refine gq_stq (σ' := (u4, σm)) rfl ?_
  refine gq_aload_n C dL_law_962 2 rfl ?_
  refine gq_aload_n C dL_law_963 0 rfl ?_
  refine gq_iload_n C dL_law_964 3 rfl ?_
  refine gq_iconst C dL_law_965 gk_iconst_1 ?_
  refine gq_iadd C dL_law_966 ?_
  refine gl_sld C hX hbl hbA dL_law_967 (fun n5 => ?_)
  refine gq_aload_n C dL_law_968 0 rfl ?_
  refine gq_iload_n C dL_law_969 3 rfl ?_
  refine gq_iconst C dL_law_970 gk_iconst_2 ?_
  refine gq_iadd C dL_law_971 ?_
  refine gl_sld C hX hbl hbA dL_law_972 (fun n6 => ?_)
  refine gl_ki (b := true) (σ := (u4, σm)) (gz_runV (b := true) (t := 0) (i := 0) (ci := 11) (q := (RX11, TX11, 63)) (As := [.int (xs n5), .int (xs n6)]) (rest := [.int r3]) (mc := 0) (ms := 0) (σ := σm) C dL_law_973 ml_RL_106 mw_X11_printed mv_X11_printed (c_X11_printed l G (xs n5) (xs n6) σm) (gz_hm0 _) rfl rfl rfl rfl rfl (Nat.le_of_ble_eq_true rfl) ⟨rfl, rfl, Nat.le_of_ble_eq_true rfl, Nat.le_of_ble_eq_true rfl, show _ ≤ 601024 by omega, show _ ≤ 7293034 by omega⟩) (fun r7 u8 => ?_)
  refine gq_stq (σ' := (u4, u8)) rfl ?_
  refine gq_icmp_eq (tgt := 1331) C dL_law_976 (by decide) ?_ ?_
  · exact gq_wid (ce1 := ce + 1) (sl1 := sl + 60) (by omega) (by omega) (hk u4 u8)
  · exact gq_none

def f_lawC20 (xs : Nat → Int32) (L : Nat) (i : Int32) (k : gz_S → gz_S → Option Unit) (σx σm : gz_S) : Option Unit :=
  gz_ix (i + 1) L (fun n1 =>
  gz_ix (i + 2) L (fun n2 =>
  gz_ix (i + 3) L (fun n3 =>
  gz_call (f_X9_law (xs n1) (xs n2) (xs n3) σx) (fun r4 u5 =>
  gz_ix (i + 1) L (fun n6 =>
  gz_ix (i + 2) L (fun n7 =>
  gz_ix (i + 3) L (fun n8 =>
  gz_call (f_X11_law (xs n6) (xs n7) (xs n8) σm) (fun r9 u10 =>
  if r4 = r9 then k u5 u10 else none))))))))
set_option maxHeartbeats 4000000 in
set_option maxRecDepth 100000 in
theorem c_lawC20 {p : Program} {l : Launch} {e : Jvm.Env} {s : State} {m : MethodId} {args : Array Value} {below : List Frame} {meth : Method} {c : Code} {G : gz_G} {QQ : Unit → State → Prop} {bb L ce sl : Nat} {xs : Nat → Int32} {i : Int32} {k : gz_S → gz_S → Option Unit} (C : gz_X p s m meth c G code R_law 4 (some .boolean)) (hX : va_X bb L xs s s.heap) (hbl : bb < s.heap.size) (hbA : ¬ G.1 ≤ bb) (hce : ce + 1 ≤ 601024) (hsl : sl + 60 ≤ 7293034) (hk : ∀ u v, gq_W (gl_H G) (fun q => G.1 ≤ q) p l e room_1 s m args below meth c 4 QQ (ce + 1) (sl + 60) (u, v) 1331 [(0, .ref bb), (1, .ref (gz_ad false G 0 0)), (2, .ref (gz_ad true G 0 0)), (3, .int i)] [] (k u v)) (σx σm : gz_S) : gq_W (gl_H G) (fun q => G.1 ≤ q) p l e room_1 s m args below meth c 4 QQ ce sl (σx, σm) 981 [(0, .ref bb), (1, .ref (gz_ad false G 0 0)), (2, .ref (gz_ad true G 0 0)), (3, .int i)] [] (f_lawC20 xs L i k σx σm) := by
  unfold f_lawC20
  refine gq_aload_n C dL_law_981 1 rfl ?_
  refine gq_aload_n C dL_law_982 0 rfl ?_
  refine gq_iload_n C dL_law_983 3 rfl ?_
  refine gq_iconst C dL_law_984 gk_iconst_1 ?_
  refine gq_iadd C dL_law_985 ?_
  refine gl_sld C hX hbl hbA dL_law_986 (fun n1 => ?_)
  refine gq_aload_n C dL_law_987 0 rfl ?_
  refine gq_iload_n C dL_law_988 3 rfl ?_
  refine gq_iconst C dL_law_989 gk_iconst_2 ?_
  refine gq_iadd C dL_law_990 ?_
  refine gl_sld C hX hbl hbA dL_law_991 (fun n2 => ?_)
  refine gq_aload_n C dL_law_992 0 rfl ?_
  refine gq_iload_n C dL_law_993 3 rfl ?_
  refine gq_iconst C dL_law_994 gk_iconst_3 ?_
  refine gq_iadd C dL_law_995 ?_
  refine gl_sld C hX hbl hbA dL_law_996 (fun n3 => ?_)
  refine gl_ki (b := false) (σ := (σx, σm)) (gz_runV (b := false) (t := 0) (i := 0) (ci := 9) (q := (RX9, TX9, 11)) (As := [.int (xs n1), .int (xs n2), .int (xs n3)]) (rest := []) (mc := 0) (ms := 0) (σ := σx) C dL_law_997 ml_RL_107 mw_X9_law mv_X9_law (c_X9_law l G (xs n1) (xs n2) (xs n3) σx) (gz_hx0 _) rfl rfl rfl rfl rfl (Nat.le_of_ble_eq_true rfl) ⟨rfl, rfl, Nat.le_of_ble_eq_true rfl, Nat.le_of_ble_eq_true rfl, show _ ≤ 601024 by omega, show _ ≤ 7293034 by omega⟩) (fun r4 u5 => ?_)
  refine gq_stq (σ' := (u5, σm)) rfl ?_
  refine gq_aload_n C dL_law_1000 2 rfl ?_
  refine gq_aload_n C dL_law_1001 0 rfl ?_
  refine gq_iload_n C dL_law_1002 3 rfl ?_
  refine gq_iconst C dL_law_1003 gk_iconst_1 ?_
  refine gq_iadd C dL_law_1004 ?_
  refine gl_sld C hX hbl hbA dL_law_1005 (fun n6 => ?_)
  refine gq_aload_n C dL_law_1006 0 rfl ?_
  refine gq_iload_n C dL_law_1007 3 rfl ?_
  refine gq_iconst C dL_law_1008 gk_iconst_2 ?_
  refine gq_iadd C dL_law_1009 ?_
  refine gl_sld C hX hbl hbA dL_law_1010 (fun n7 => ?_)
  refine gq_aload_n C dL_law_1011 0 rfl ?_
  refine gq_iload_n C dL_law_1012 3 rfl ?_
  refine gq_iconst C dL_law_1013 gk_iconst_3 ?_
  refine gq_iadd C dL_law_1014 ?_
  refine gl_sld C hX hbl hbA dL_law_1015 (fun n8 => ?_)
  refine gl_ki (b := true) (σ := (u5, σm)) (gz_runV (b := true) (t := 0) (i := 0) (ci := 11) (q := (RX11, TX11, 63)) (As := [.int (xs n6), .int (xs n7), .int (xs n8)]) (rest := [.int r4]) (mc := 0) (ms := 0) (σ := σm) C dL_law_1016 ml_RL_110 mw_X11_law mv_X11_law (c_X11_law l G (xs n6) (xs n7) (xs n8) σm) (gz_hm0 _) rfl rfl rfl rfl rfl (Nat.le_of_ble_eq_true rfl) ⟨rfl, rfl, Nat.le_of_ble_eq_true rfl, Nat.le_of_ble_eq_true rfl, show _ ≤ 601024 by omega, show _ ≤ 7293034 by omega⟩) (fun r9 u10 => ?_)
  refine gq_stq (σ' := (u5, u10)) rfl ?_
  refine gq_icmp_eq (tgt := 1331) C dL_law_1019 (by decide) ?_ ?_
  · exact gq_wid (ce1 := ce + 1) (sl1 := sl + 60) (by omega) (by omega) (hk u5 u10)
  · exact gq_none

def f_lawC21 (xs : Nat → Int32) (L : Nat) (i : Int32) (k : gz_S → gz_S → Option Unit) (σx σm : gz_S) : Option Unit :=
  gz_ix (i + 1) L (fun n1 =>
  gz_ix (i + 2) L (fun n2 =>
  gz_ix (i + 3) L (fun n3 =>
  gz_call (f_X9_source (xs n1) (xs n2) (xs n3) σx) (fun r4 u5 =>
  gz_ix (i + 1) L (fun n6 =>
  gz_ix (i + 2) L (fun n7 =>
  gz_ix (i + 3) L (fun n8 =>
  gz_call (f_X11_source (xs n6) (xs n7) (xs n8) σm) (fun r9 u10 =>
  if r4 = r9 then k u5 u10 else none))))))))
set_option maxHeartbeats 4000000 in
set_option maxRecDepth 100000 in
theorem c_lawC21 {p : Program} {l : Launch} {e : Jvm.Env} {s : State} {m : MethodId} {args : Array Value} {below : List Frame} {meth : Method} {c : Code} {G : gz_G} {QQ : Unit → State → Prop} {bb L ce sl : Nat} {xs : Nat → Int32} {i : Int32} {k : gz_S → gz_S → Option Unit} (C : gz_X p s m meth c G code R_law 4 (some .boolean)) (hX : va_X bb L xs s s.heap) (hbl : bb < s.heap.size) (hbA : ¬ G.1 ≤ bb) (hce : ce + 1 ≤ 601024) (hsl : sl + 60 ≤ 7293034) (hk : ∀ u v, gq_W (gl_H G) (fun q => G.1 ≤ q) p l e room_1 s m args below meth c 4 QQ (ce + 1) (sl + 60) (u, v) 1331 [(0, .ref bb), (1, .ref (gz_ad false G 0 0)), (2, .ref (gz_ad true G 0 0)), (3, .int i)] [] (k u v)) (σx σm : gz_S) : gq_W (gl_H G) (fun q => G.1 ≤ q) p l e room_1 s m args below meth c 4 QQ ce sl (σx, σm) 1024 [(0, .ref bb), (1, .ref (gz_ad false G 0 0)), (2, .ref (gz_ad true G 0 0)), (3, .int i)] [] (f_lawC21 xs L i k σx σm) := by
  unfold f_lawC21
  refine gq_aload_n C dL_law_1024 1 rfl ?_
  refine gq_aload_n C dL_law_1025 0 rfl ?_
  refine gq_iload_n C dL_law_1026 3 rfl ?_
  refine gq_iconst C dL_law_1027 gk_iconst_1 ?_
  refine gq_iadd C dL_law_1028 ?_
  refine gl_sld C hX hbl hbA dL_law_1029 (fun n1 => ?_)
  refine gq_aload_n C dL_law_1030 0 rfl ?_
  refine gq_iload_n C dL_law_1031 3 rfl ?_
  refine gq_iconst C dL_law_1032 gk_iconst_2 ?_
  refine gq_iadd C dL_law_1033 ?_
  refine gl_sld C hX hbl hbA dL_law_1034 (fun n2 => ?_)
  refine gq_aload_n C dL_law_1035 0 rfl ?_
  refine gq_iload_n C dL_law_1036 3 rfl ?_
  refine gq_iconst C dL_law_1037 gk_iconst_3 ?_
  refine gq_iadd C dL_law_1038 ?_
  refine gl_sld C hX hbl hbA dL_law_1039 (fun n3 => ?_)
  refine gl_ki (b := false) (σ := (σx, σm)) (gz_runV (b := false) (t := 0) (i := 0) (ci := 9) (q := (RX9, TX9, 11)) (As := [.int (xs n1), .int (xs n2), .int (xs n3)]) (rest := []) (mc := 0) (ms := 0) (σ := σx) C dL_law_1040 ml_RL_111 mw_X9_source mv_X9_source (c_X9_source l G (xs n1) (xs n2) (xs n3) σx) (gz_hx0 _) rfl rfl rfl rfl rfl (Nat.le_of_ble_eq_true rfl) ⟨rfl, rfl, Nat.le_of_ble_eq_true rfl, Nat.le_of_ble_eq_true rfl, show _ ≤ 601024 by omega, show _ ≤ 7293034 by omega⟩) (fun r4 u5 => ?_)
  refine gq_stq (σ' := (u5, σm)) rfl ?_
  refine gq_aload_n C dL_law_1043 2 rfl ?_
  refine gq_aload_n C dL_law_1044 0 rfl ?_
  refine gq_iload_n C dL_law_1045 3 rfl ?_
  refine gq_iconst C dL_law_1046 gk_iconst_1 ?_
  refine gq_iadd C dL_law_1047 ?_
  refine gl_sld C hX hbl hbA dL_law_1048 (fun n6 => ?_)
  refine gq_aload_n C dL_law_1049 0 rfl ?_
  refine gq_iload_n C dL_law_1050 3 rfl ?_
  refine gq_iconst C dL_law_1051 gk_iconst_2 ?_
  refine gq_iadd C dL_law_1052 ?_
  refine gl_sld C hX hbl hbA dL_law_1053 (fun n7 => ?_)
  refine gq_aload_n C dL_law_1054 0 rfl ?_
  refine gq_iload_n C dL_law_1055 3 rfl ?_
  refine gq_iconst C dL_law_1056 gk_iconst_3 ?_
  refine gq_iadd C dL_law_1057 ?_
  refine gl_sld C hX hbl hbA dL_law_1058 (fun n8 => ?_)
  refine gl_ki (b := true) (σ := (u5, σm)) (gz_runV (b := true) (t := 0) (i := 0) (ci := 11) (q := (RX11, TX11, 63)) (As := [.int (xs n6), .int (xs n7), .int (xs n8)]) (rest := [.int r4]) (mc := 0) (ms := 0) (σ := σm) C dL_law_1059 ml_RL_114 mw_X11_source mv_X11_source (c_X11_source l G (xs n6) (xs n7) (xs n8) σm) (gz_hm0 _) rfl rfl rfl rfl rfl (Nat.le_of_ble_eq_true rfl) ⟨rfl, rfl, Nat.le_of_ble_eq_true rfl, Nat.le_of_ble_eq_true rfl, show _ ≤ 601024 by omega, show _ ≤ 7293034 by omega⟩) (fun r9 u10 => ?_)
  refine gq_stq (σ' := (u5, u10)) rfl ?_
  refine gq_icmp_eq (tgt := 1331) C dL_law_1062 (by decide) ?_ ?_
  · exact gq_wid (ce1 := ce + 1) (sl1 := sl + 60) (by omega) (by omega) (hk u5 u10)
  · exact gq_none

def f_lawC22 (xs : Nat → Int32) (L : Nat) (i : Int32) (k : gz_S → gz_S → Option Unit) (σx σm : gz_S) : Option Unit :=
  gz_ix (i + 1) L (fun n1 =>
  gz_ix (i + 2) L (fun n2 =>
  gz_call (f_X9_isVoid (xs n1) (xs n2) σx) (fun r3 u4 =>
  gz_ix (i + 1) L (fun n5 =>
  gz_ix (i + 2) L (fun n6 =>
  gz_call (f_X11_isVoid (xs n5) (xs n6) σm) (fun r7 u8 =>
  if r3 = r7 then k u4 u8 else none))))))
set_option maxHeartbeats 4000000 in
set_option maxRecDepth 100000 in
theorem c_lawC22 {p : Program} {l : Launch} {e : Jvm.Env} {s : State} {m : MethodId} {args : Array Value} {below : List Frame} {meth : Method} {c : Code} {G : gz_G} {QQ : Unit → State → Prop} {bb L ce sl : Nat} {xs : Nat → Int32} {i : Int32} {k : gz_S → gz_S → Option Unit} (C : gz_X p s m meth c G code R_law 4 (some .boolean)) (hX : va_X bb L xs s s.heap) (hbl : bb < s.heap.size) (hbA : ¬ G.1 ≤ bb) (hce : ce + 1 ≤ 601024) (hsl : sl + 60 ≤ 7293034) (hk : ∀ u v, gq_W (gl_H G) (fun q => G.1 ≤ q) p l e room_1 s m args below meth c 4 QQ (ce + 1) (sl + 60) (u, v) 1331 [(0, .ref bb), (1, .ref (gz_ad false G 0 0)), (2, .ref (gz_ad true G 0 0)), (3, .int i)] [] (k u v)) (σx σm : gz_S) : gq_W (gl_H G) (fun q => G.1 ≤ q) p l e room_1 s m args below meth c 4 QQ ce sl (σx, σm) 1067 [(0, .ref bb), (1, .ref (gz_ad false G 0 0)), (2, .ref (gz_ad true G 0 0)), (3, .int i)] [] (f_lawC22 xs L i k σx σm) := by
  unfold f_lawC22
  refine gq_aload_n C dL_law_1067 1 rfl ?_
  refine gq_aload_n C dL_law_1068 0 rfl ?_
  refine gq_iload_n C dL_law_1069 3 rfl ?_
  refine gq_iconst C dL_law_1070 gk_iconst_1 ?_
  refine gq_iadd C dL_law_1071 ?_
  refine gl_sld C hX hbl hbA dL_law_1072 (fun n1 => ?_)
  refine gq_aload_n C dL_law_1073 0 rfl ?_
  refine gq_iload_n C dL_law_1074 3 rfl ?_
  refine gq_iconst C dL_law_1075 gk_iconst_2 ?_
  refine gq_iadd C dL_law_1076 ?_
  refine gl_sld C hX hbl hbA dL_law_1077 (fun n2 => ?_)
  refine gl_ki (b := false) (σ := (σx, σm)) (gz_runV (b := false) (t := 0) (i := 0) (ci := 9) (q := (RX9, TX9, 11)) (As := [.int (xs n1), .int (xs n2)]) (rest := []) (mc := 0) (ms := 0) (σ := σx) C dL_law_1078 ml_RL_115 mw_X9_isVoid mv_X9_isVoid (c_X9_isVoid l G (xs n1) (xs n2) σx) (gz_hx0 _) rfl rfl rfl rfl rfl (Nat.le_of_ble_eq_true rfl) ⟨rfl, rfl, Nat.le_of_ble_eq_true rfl, Nat.le_of_ble_eq_true rfl, show _ ≤ 601024 by omega, show _ ≤ 7293034 by omega⟩) (fun r3 u4 => ?_)
  refine gq_stq (σ' := (u4, σm)) rfl ?_
  refine gq_aload_n C dL_law_1081 2 rfl ?_
  refine gq_aload_n C dL_law_1082 0 rfl ?_
  refine gq_iload_n C dL_law_1083 3 rfl ?_
  refine gq_iconst C dL_law_1084 gk_iconst_1 ?_
  refine gq_iadd C dL_law_1085 ?_
  refine gl_sld C hX hbl hbA dL_law_1086 (fun n5 => ?_)
  refine gq_aload_n C dL_law_1087 0 rfl ?_
  refine gq_iload_n C dL_law_1088 3 rfl ?_
  refine gq_iconst C dL_law_1089 gk_iconst_2 ?_
  refine gq_iadd C dL_law_1090 ?_
  refine gl_sld C hX hbl hbA dL_law_1091 (fun n6 => ?_)
  refine gl_ki (b := true) (σ := (u4, σm)) (gz_runV (b := true) (t := 0) (i := 0) (ci := 11) (q := (RX11, TX11, 63)) (As := [.int (xs n5), .int (xs n6)]) (rest := [.int r3]) (mc := 0) (ms := 0) (σ := σm) C dL_law_1092 ml_RL_118 mw_X11_isVoid mv_X11_isVoid (c_X11_isVoid l G (xs n5) (xs n6) σm) (gz_hm0 _) rfl rfl rfl rfl rfl (Nat.le_of_ble_eq_true rfl) ⟨rfl, rfl, Nat.le_of_ble_eq_true rfl, Nat.le_of_ble_eq_true rfl, show _ ≤ 601024 by omega, show _ ≤ 7293034 by omega⟩) (fun r7 u8 => ?_)
  refine gq_stq (σ' := (u4, u8)) rfl ?_
  refine gq_icmp_eq (tgt := 1331) C dL_law_1095 (by decide) ?_ ?_
  · exact gq_wid (ce1 := ce + 1) (sl1 := sl + 60) (by omega) (by omega) (hk u4 u8)
  · exact gq_none

def f_lawC23 (xs : Nat → Int32) (L : Nat) (i : Int32) (k : gz_S → gz_S → Option Unit) (σx σm : gz_S) : Option Unit :=
  gz_ix (i + 1) L (fun n1 =>
  gz_ix (i + 2) L (fun n2 =>
  gz_call (f_X9_changes (xs n1) (xs n2) σx) (fun r3 u4 =>
  gz_ix (i + 1) L (fun n5 =>
  gz_ix (i + 2) L (fun n6 =>
  gz_call (f_X11_changes (xs n5) (xs n6) σm) (fun r7 u8 =>
  if r3 = r7 then k u4 u8 else none))))))
set_option maxHeartbeats 4000000 in
set_option maxRecDepth 100000 in
theorem c_lawC23 {p : Program} {l : Launch} {e : Jvm.Env} {s : State} {m : MethodId} {args : Array Value} {below : List Frame} {meth : Method} {c : Code} {G : gz_G} {QQ : Unit → State → Prop} {bb L ce sl : Nat} {xs : Nat → Int32} {i : Int32} {k : gz_S → gz_S → Option Unit} (C : gz_X p s m meth c G code R_law 4 (some .boolean)) (hX : va_X bb L xs s s.heap) (hbl : bb < s.heap.size) (hbA : ¬ G.1 ≤ bb) (hce : ce + 1 ≤ 601024) (hsl : sl + 60 ≤ 7293034) (hk : ∀ u v, gq_W (gl_H G) (fun q => G.1 ≤ q) p l e room_1 s m args below meth c 4 QQ (ce + 1) (sl + 60) (u, v) 1331 [(0, .ref bb), (1, .ref (gz_ad false G 0 0)), (2, .ref (gz_ad true G 0 0)), (3, .int i)] [] (k u v)) (σx σm : gz_S) : gq_W (gl_H G) (fun q => G.1 ≤ q) p l e room_1 s m args below meth c 4 QQ ce sl (σx, σm) 1100 [(0, .ref bb), (1, .ref (gz_ad false G 0 0)), (2, .ref (gz_ad true G 0 0)), (3, .int i)] [] (f_lawC23 xs L i k σx σm) := by
  unfold f_lawC23
  refine gq_aload_n C dL_law_1100 1 rfl ?_
  refine gq_aload_n C dL_law_1101 0 rfl ?_
  refine gq_iload_n C dL_law_1102 3 rfl ?_
  refine gq_iconst C dL_law_1103 gk_iconst_1 ?_
  refine gq_iadd C dL_law_1104 ?_
  refine gl_sld C hX hbl hbA dL_law_1105 (fun n1 => ?_)
  refine gq_aload_n C dL_law_1106 0 rfl ?_
  refine gq_iload_n C dL_law_1107 3 rfl ?_
  refine gq_iconst C dL_law_1108 gk_iconst_2 ?_
  refine gq_iadd C dL_law_1109 ?_
  refine gl_sld C hX hbl hbA dL_law_1110 (fun n2 => ?_)
  refine gl_ki (b := false) (σ := (σx, σm)) (gz_runV (b := false) (t := 0) (i := 0) (ci := 9) (q := (RX9, TX9, 11)) (As := [.int (xs n1), .int (xs n2)]) (rest := []) (mc := 0) (ms := 0) (σ := σx) C dL_law_1111 ml_RL_119 mw_X9_changes mv_X9_changes (c_X9_changes l G (xs n1) (xs n2) σx) (gz_hx0 _) rfl rfl rfl rfl rfl (Nat.le_of_ble_eq_true rfl) ⟨rfl, rfl, Nat.le_of_ble_eq_true rfl, Nat.le_of_ble_eq_true rfl, show _ ≤ 601024 by omega, show _ ≤ 7293034 by omega⟩) (fun r3 u4 => ?_)
  refine gq_stq (σ' := (u4, σm)) rfl ?_
  refine gq_aload_n C dL_law_1114 2 rfl ?_
  refine gq_aload_n C dL_law_1115 0 rfl ?_
  refine gq_iload_n C dL_law_1116 3 rfl ?_
  refine gq_iconst C dL_law_1117 gk_iconst_1 ?_
  refine gq_iadd C dL_law_1118 ?_
  refine gl_sld C hX hbl hbA dL_law_1119 (fun n5 => ?_)
  refine gq_aload_n C dL_law_1120 0 rfl ?_
  refine gq_iload_n C dL_law_1121 3 rfl ?_
  refine gq_iconst C dL_law_1122 gk_iconst_2 ?_
  refine gq_iadd C dL_law_1123 ?_
  refine gl_sld C hX hbl hbA dL_law_1124 (fun n6 => ?_)
  refine gl_ki (b := true) (σ := (u4, σm)) (gz_runV (b := true) (t := 0) (i := 0) (ci := 11) (q := (RX11, TX11, 63)) (As := [.int (xs n5), .int (xs n6)]) (rest := [.int r3]) (mc := 0) (ms := 0) (σ := σm) C dL_law_1125 ml_RL_122 mw_X11_changes mv_X11_changes (c_X11_changes l G (xs n5) (xs n6) σm) (gz_hm0 _) rfl rfl rfl rfl rfl (Nat.le_of_ble_eq_true rfl) ⟨rfl, rfl, Nat.le_of_ble_eq_true rfl, Nat.le_of_ble_eq_true rfl, show _ ≤ 601024 by omega, show _ ≤ 7293034 by omega⟩) (fun r7 u8 => ?_)
  refine gq_stq (σ' := (u4, u8)) rfl ?_
  refine gq_icmp_eq (tgt := 1331) C dL_law_1128 (by decide) ?_ ?_
  · exact gq_wid (ce1 := ce + 1) (sl1 := sl + 60) (by omega) (by omega) (hk u4 u8)
  · exact gq_none

def f_lawC24 (xs : Nat → Int32) (L : Nat) (i : Int32) (k : gz_S → gz_S → Option Unit) (σx σm : gz_S) : Option Unit :=
  gz_ix (i + 1) L (fun n1 =>
  gz_ix (i + 2) L (fun n2 =>
  gz_ix (i + 3) L (fun n3 =>
  gz_call (f_X9_find ((((xs n1 : Int32).toInt64) <<< ((32 : Int32).toInt64 &&& 63)) ||| (((xs n2 : Int32).toInt64) &&& 4294967295)) (xs n3) σx) (fun r4 u5 =>
  gz_ix (i + 1) L (fun n6 =>
  gz_ix (i + 2) L (fun n7 =>
  gz_ix (i + 3) L (fun n8 =>
  gz_call (f_X11_find ((((xs n6 : Int32).toInt64) <<< ((32 : Int32).toInt64 &&& 63)) ||| (((xs n7 : Int32).toInt64) &&& 4294967295)) (xs n8) σm) (fun r9 u10 =>
  if r4 = r9 then k u5 u10 else none))))))))
set_option maxHeartbeats 4000000 in
set_option maxRecDepth 100000 in
theorem c_lawC24 {p : Program} {l : Launch} {e : Jvm.Env} {s : State} {m : MethodId} {args : Array Value} {below : List Frame} {meth : Method} {c : Code} {G : gz_G} {QQ : Unit → State → Prop} {bb L ce sl : Nat} {xs : Nat → Int32} {i : Int32} {k : gz_S → gz_S → Option Unit} (C : gz_X p s m meth c G code R_law 4 (some .boolean)) (hX : va_X bb L xs s s.heap) (hbl : bb < s.heap.size) (hbA : ¬ G.1 ≤ bb) (hce : ce + 1 ≤ 601024) (hsl : sl + 60 ≤ 7293034) (hk : ∀ u v, gq_W (gl_H G) (fun q => G.1 ≤ q) p l e room_1 s m args below meth c 4 QQ (ce + 1) (sl + 60) (u, v) 1331 [(0, .ref bb), (1, .ref (gz_ad false G 0 0)), (2, .ref (gz_ad true G 0 0)), (3, .int i)] [] (k u v)) (σx σm : gz_S) : gq_W (gl_H G) (fun q => G.1 ≤ q) p l e room_1 s m args below meth c 4 QQ ce sl (σx, σm) 1133 [(0, .ref bb), (1, .ref (gz_ad false G 0 0)), (2, .ref (gz_ad true G 0 0)), (3, .int i)] [] (f_lawC24 xs L i k σx σm) := by
  unfold f_lawC24
  refine gq_aload_n C dL_law_1133 1 rfl ?_
  refine gq_aload_n C dL_law_1134 0 rfl ?_
  refine gq_iload_n C dL_law_1135 3 rfl ?_
  refine gq_iconst C dL_law_1136 gk_iconst_1 ?_
  refine gq_iadd C dL_law_1137 ?_
  refine gl_sld C hX hbl hbA dL_law_1138 (fun n1 => ?_)
  refine gq_i2l C dL_law_1139 ?_
  refine gq_bipush C dL_law_1140 gk_bipush_32 ?_
  refine gq_lshl C dL_law_1142 ?_
  refine gq_aload_n C dL_law_1143 0 rfl ?_
  refine gq_iload_n C dL_law_1144 3 rfl ?_
  refine gq_iconst C dL_law_1145 gk_iconst_2 ?_
  refine gq_iadd C dL_law_1146 ?_
  refine gl_sld C hX hbl hbA dL_law_1147 (fun n2 => ?_)
  refine gq_i2l C dL_law_1148 ?_
  refine gq_ldc2 C dL_law_1149 cw_RL_83 ?_
  refine gq_land C dL_law_1152 ?_
  refine gq_lor C dL_law_1153 ?_
  refine gq_aload_n C dL_law_1154 0 rfl ?_
  refine gq_iload_n C dL_law_1155 3 rfl ?_
  refine gq_iconst C dL_law_1156 gk_iconst_3 ?_
  refine gq_iadd C dL_law_1157 ?_
  refine gl_sld C hX hbl hbA dL_law_1158 (fun n3 => ?_)
  refine gl_ki (b := false) (σ := (σx, σm)) (gz_runV (b := false) (t := 0) (i := 0) (ci := 9) (q := (RX9, TX9, 11)) (As := [.long ((((xs n1 : Int32).toInt64) <<< ((32 : Int32).toInt64 &&& 63)) ||| (((xs n2 : Int32).toInt64) &&& 4294967295)), .int (xs n3)]) (rest := []) (mc := 0) (ms := 0) (σ := σx) C dL_law_1159 ml_RL_123 mw_X9_find mv_X9_find (c_X9_find l G ((((xs n1 : Int32).toInt64) <<< ((32 : Int32).toInt64 &&& 63)) ||| (((xs n2 : Int32).toInt64) &&& 4294967295)) (xs n3) σx) (gz_hx0 _) rfl rfl rfl rfl rfl (Nat.le_of_ble_eq_true rfl) ⟨rfl, rfl, Nat.le_of_ble_eq_true rfl, Nat.le_of_ble_eq_true rfl, show _ ≤ 601024 by omega, show _ ≤ 7293034 by omega⟩) (fun r4 u5 => ?_)
  refine gq_stq (σ' := (u5, σm)) rfl ?_
  refine gq_aload_n C dL_law_1162 2 rfl ?_
  refine gq_aload_n C dL_law_1163 0 rfl ?_
  refine gq_iload_n C dL_law_1164 3 rfl ?_
  refine gq_iconst C dL_law_1165 gk_iconst_1 ?_
  refine gq_iadd C dL_law_1166 ?_
  refine gl_sld C hX hbl hbA dL_law_1167 (fun n6 => ?_)
  refine gq_i2l C dL_law_1168 ?_
  refine gq_bipush C dL_law_1169 gk_bipush_32 ?_
  refine gq_lshl C dL_law_1171 ?_
  refine gq_aload_n C dL_law_1172 0 rfl ?_
  refine gq_iload_n C dL_law_1173 3 rfl ?_
  refine gq_iconst C dL_law_1174 gk_iconst_2 ?_
  refine gq_iadd C dL_law_1175 ?_
  refine gl_sld C hX hbl hbA dL_law_1176 (fun n7 => ?_)
  refine gq_i2l C dL_law_1177 ?_
  refine gq_ldc2 C dL_law_1178 cw_RL_83 ?_
  refine gq_land C dL_law_1181 ?_
  refine gq_lor C dL_law_1182 ?_
  refine gq_aload_n C dL_law_1183 0 rfl ?_
  refine gq_iload_n C dL_law_1184 3 rfl ?_
  refine gq_iconst C dL_law_1185 gk_iconst_3 ?_
  refine gq_iadd C dL_law_1186 ?_
  refine gl_sld C hX hbl hbA dL_law_1187 (fun n8 => ?_)
  refine gl_ki (b := true) (σ := (u5, σm)) (gz_runV (b := true) (t := 0) (i := 0) (ci := 11) (q := (RX11, TX11, 63)) (As := [.long ((((xs n6 : Int32).toInt64) <<< ((32 : Int32).toInt64 &&& 63)) ||| (((xs n7 : Int32).toInt64) &&& 4294967295)), .int (xs n8)]) (rest := [.int r4]) (mc := 0) (ms := 0) (σ := σm) C dL_law_1188 ml_RL_127 mw_X11_find mv_X11_find (c_X11_find l G ((((xs n6 : Int32).toInt64) <<< ((32 : Int32).toInt64 &&& 63)) ||| (((xs n7 : Int32).toInt64) &&& 4294967295)) (xs n8) σm) (gz_hm0 _) rfl rfl rfl rfl rfl (Nat.le_of_ble_eq_true rfl) ⟨rfl, rfl, Nat.le_of_ble_eq_true rfl, Nat.le_of_ble_eq_true rfl, show _ ≤ 601024 by omega, show _ ≤ 7293034 by omega⟩) (fun r9 u10 => ?_)
  refine gq_stq (σ' := (u5, u10)) rfl ?_
  refine gq_icmp_eq (tgt := 1331) C dL_law_1191 (by decide) ?_ ?_
  · exact gq_wid (ce1 := ce + 1) (sl1 := sl + 60) (by omega) (by omega) (hk u5 u10)
  · exact gq_none

def f_lawC25 (xs : Nat → Int32) (L : Nat) (i : Int32) (k : gz_S → gz_S → Option Unit) (σx σm : gz_S) : Option Unit :=
  gz_ix (i + 1) L (fun n1 =>
  gz_call (f_X9_found (xs n1) σx) (fun r2 u3 =>
  gz_ix (i + 1) L (fun n4 =>
  gz_call (f_X11_found (xs n4) σm) (fun r5 u6 =>
  if r2 = r5 then k u3 u6 else none))))
set_option maxHeartbeats 4000000 in
set_option maxRecDepth 100000 in
theorem c_lawC25 {p : Program} {l : Launch} {e : Jvm.Env} {s : State} {m : MethodId} {args : Array Value} {below : List Frame} {meth : Method} {c : Code} {G : gz_G} {QQ : Unit → State → Prop} {bb L ce sl : Nat} {xs : Nat → Int32} {i : Int32} {k : gz_S → gz_S → Option Unit} (C : gz_X p s m meth c G code R_law 4 (some .boolean)) (hX : va_X bb L xs s s.heap) (hbl : bb < s.heap.size) (hbA : ¬ G.1 ≤ bb) (hce : ce + 1 ≤ 601024) (hsl : sl + 60 ≤ 7293034) (hk : ∀ u v, gq_W (gl_H G) (fun q => G.1 ≤ q) p l e room_1 s m args below meth c 4 QQ (ce + 1) (sl + 60) (u, v) 1331 [(0, .ref bb), (1, .ref (gz_ad false G 0 0)), (2, .ref (gz_ad true G 0 0)), (3, .int i)] [] (k u v)) (σx σm : gz_S) : gq_W (gl_H G) (fun q => G.1 ≤ q) p l e room_1 s m args below meth c 4 QQ ce sl (σx, σm) 1196 [(0, .ref bb), (1, .ref (gz_ad false G 0 0)), (2, .ref (gz_ad true G 0 0)), (3, .int i)] [] (f_lawC25 xs L i k σx σm) := by
  unfold f_lawC25
  refine gq_aload_n C dL_law_1196 1 rfl ?_
  refine gq_aload_n C dL_law_1197 0 rfl ?_
  refine gq_iload_n C dL_law_1198 3 rfl ?_
  refine gq_iconst C dL_law_1199 gk_iconst_1 ?_
  refine gq_iadd C dL_law_1200 ?_
  refine gl_sld C hX hbl hbA dL_law_1201 (fun n1 => ?_)
  refine gl_ki (b := false) (σ := (σx, σm)) (gz_runV (b := false) (t := 0) (i := 0) (ci := 9) (q := (RX9, TX9, 11)) (As := [.int (xs n1)]) (rest := []) (mc := 0) (ms := 0) (σ := σx) C dL_law_1202 ml_RL_128 mw_X9_found mv_X9_found (c_X9_found l G (xs n1) σx) (gz_hx0 _) rfl rfl rfl rfl rfl (Nat.le_of_ble_eq_true rfl) ⟨rfl, rfl, Nat.le_of_ble_eq_true rfl, Nat.le_of_ble_eq_true rfl, show _ ≤ 601024 by omega, show _ ≤ 7293034 by omega⟩) (fun r2 u3 => ?_)
  refine gq_stq (σ' := (u3, σm)) rfl ?_
  refine gq_aload_n C dL_law_1205 2 rfl ?_
  refine gq_aload_n C dL_law_1206 0 rfl ?_
  refine gq_iload_n C dL_law_1207 3 rfl ?_
  refine gq_iconst C dL_law_1208 gk_iconst_1 ?_
  refine gq_iadd C dL_law_1209 ?_
  refine gl_sld C hX hbl hbA dL_law_1210 (fun n4 => ?_)
  refine gl_ki (b := true) (σ := (u3, σm)) (gz_runV (b := true) (t := 0) (i := 0) (ci := 11) (q := (RX11, TX11, 63)) (As := [.int (xs n4)]) (rest := [.int r2]) (mc := 0) (ms := 0) (σ := σm) C dL_law_1211 ml_RL_131 mw_X11_found mv_X11_found (c_X11_found l G (xs n4) σm) (gz_hm0 _) rfl rfl rfl rfl rfl (Nat.le_of_ble_eq_true rfl) ⟨rfl, rfl, Nat.le_of_ble_eq_true rfl, Nat.le_of_ble_eq_true rfl, show _ ≤ 601024 by omega, show _ ≤ 7293034 by omega⟩) (fun r5 u6 => ?_)
  refine gq_stq (σ' := (u3, u6)) rfl ?_
  refine gq_icmp_eq (tgt := 1331) C dL_law_1214 (by decide) ?_ ?_
  · exact gq_wid (ce1 := ce + 1) (sl1 := sl + 60) (by omega) (by omega) (hk u3 u6)
  · exact gq_none

def f_lawC26 (xs : Nat → Int32) (L : Nat) (i : Int32) (k : gz_S → gz_S → Option Unit) (σx σm : gz_S) : Option Unit :=
  gz_ix (i + 1) L (fun n1 =>
  gz_ix (i + 2) L (fun n2 =>
  gz_ix (i + 3) L (fun n3 =>
  gz_call (f_X9_struck ((((xs n1 : Int32).toInt64) <<< ((32 : Int32).toInt64 &&& 63)) ||| (((xs n2 : Int32).toInt64) &&& 4294967295)) (xs n3) σx) (fun r4 u5 =>
  gz_ix (i + 1) L (fun n6 =>
  gz_ix (i + 2) L (fun n7 =>
  gz_ix (i + 3) L (fun n8 =>
  gz_call (f_X11_struck ((((xs n6 : Int32).toInt64) <<< ((32 : Int32).toInt64 &&& 63)) ||| (((xs n7 : Int32).toInt64) &&& 4294967295)) (xs n8) σm) (fun r9 u10 =>
  if r4 = r9 then k u5 u10 else none))))))))
set_option maxHeartbeats 4000000 in
set_option maxRecDepth 100000 in
theorem c_lawC26 {p : Program} {l : Launch} {e : Jvm.Env} {s : State} {m : MethodId} {args : Array Value} {below : List Frame} {meth : Method} {c : Code} {G : gz_G} {QQ : Unit → State → Prop} {bb L ce sl : Nat} {xs : Nat → Int32} {i : Int32} {k : gz_S → gz_S → Option Unit} (C : gz_X p s m meth c G code R_law 4 (some .boolean)) (hX : va_X bb L xs s s.heap) (hbl : bb < s.heap.size) (hbA : ¬ G.1 ≤ bb) (hce : ce + 1 ≤ 601024) (hsl : sl + 60 ≤ 7293034) (hk : ∀ u v, gq_W (gl_H G) (fun q => G.1 ≤ q) p l e room_1 s m args below meth c 4 QQ (ce + 1) (sl + 60) (u, v) 1331 [(0, .ref bb), (1, .ref (gz_ad false G 0 0)), (2, .ref (gz_ad true G 0 0)), (3, .int i)] [] (k u v)) (σx σm : gz_S) : gq_W (gl_H G) (fun q => G.1 ≤ q) p l e room_1 s m args below meth c 4 QQ ce sl (σx, σm) 1219 [(0, .ref bb), (1, .ref (gz_ad false G 0 0)), (2, .ref (gz_ad true G 0 0)), (3, .int i)] [] (f_lawC26 xs L i k σx σm) := by
  unfold f_lawC26
  refine gq_aload_n C dL_law_1219 1 rfl ?_
  refine gq_aload_n C dL_law_1220 0 rfl ?_
  refine gq_iload_n C dL_law_1221 3 rfl ?_
  refine gq_iconst C dL_law_1222 gk_iconst_1 ?_
  refine gq_iadd C dL_law_1223 ?_
  refine gl_sld C hX hbl hbA dL_law_1224 (fun n1 => ?_)
  refine gq_i2l C dL_law_1225 ?_
  refine gq_bipush C dL_law_1226 gk_bipush_32 ?_
  refine gq_lshl C dL_law_1228 ?_
  refine gq_aload_n C dL_law_1229 0 rfl ?_
  refine gq_iload_n C dL_law_1230 3 rfl ?_
  refine gq_iconst C dL_law_1231 gk_iconst_2 ?_
  refine gq_iadd C dL_law_1232 ?_
  refine gl_sld C hX hbl hbA dL_law_1233 (fun n2 => ?_)
  refine gq_i2l C dL_law_1234 ?_
  refine gq_ldc2 C dL_law_1235 cw_RL_83 ?_
  refine gq_land C dL_law_1238 ?_
  refine gq_lor C dL_law_1239 ?_
  refine gq_aload_n C dL_law_1240 0 rfl ?_
  refine gq_iload_n C dL_law_1241 3 rfl ?_
  refine gq_iconst C dL_law_1242 gk_iconst_3 ?_
  refine gq_iadd C dL_law_1243 ?_
  refine gl_sld C hX hbl hbA dL_law_1244 (fun n3 => ?_)
  refine gl_ki (b := false) (σ := (σx, σm)) (gz_runV (b := false) (t := 0) (i := 0) (ci := 9) (q := (RX9, TX9, 11)) (As := [.long ((((xs n1 : Int32).toInt64) <<< ((32 : Int32).toInt64 &&& 63)) ||| (((xs n2 : Int32).toInt64) &&& 4294967295)), .int (xs n3)]) (rest := []) (mc := 0) (ms := 0) (σ := σx) C dL_law_1245 ml_RL_132 mw_X9_struck mv_X9_struck (c_X9_struck l G ((((xs n1 : Int32).toInt64) <<< ((32 : Int32).toInt64 &&& 63)) ||| (((xs n2 : Int32).toInt64) &&& 4294967295)) (xs n3) σx) (gz_hx0 _) rfl rfl rfl rfl rfl (Nat.le_of_ble_eq_true rfl) ⟨rfl, rfl, Nat.le_of_ble_eq_true rfl, Nat.le_of_ble_eq_true rfl, show _ ≤ 601024 by omega, show _ ≤ 7293034 by omega⟩) (fun r4 u5 => ?_)
  refine gq_stq (σ' := (u5, σm)) rfl ?_
  refine gq_aload_n C dL_law_1248 2 rfl ?_
  refine gq_aload_n C dL_law_1249 0 rfl ?_
  refine gq_iload_n C dL_law_1250 3 rfl ?_
  refine gq_iconst C dL_law_1251 gk_iconst_1 ?_
  refine gq_iadd C dL_law_1252 ?_
  refine gl_sld C hX hbl hbA dL_law_1253 (fun n6 => ?_)
  refine gq_i2l C dL_law_1254 ?_
  refine gq_bipush C dL_law_1255 gk_bipush_32 ?_
  refine gq_lshl C dL_law_1257 ?_
  refine gq_aload_n C dL_law_1258 0 rfl ?_
  refine gq_iload_n C dL_law_1259 3 rfl ?_
  refine gq_iconst C dL_law_1260 gk_iconst_2 ?_
  refine gq_iadd C dL_law_1261 ?_
  refine gl_sld C hX hbl hbA dL_law_1262 (fun n7 => ?_)
  refine gq_i2l C dL_law_1263 ?_
  refine gq_ldc2 C dL_law_1264 cw_RL_83 ?_
  refine gq_land C dL_law_1267 ?_
  refine gq_lor C dL_law_1268 ?_
  refine gq_aload_n C dL_law_1269 0 rfl ?_
  refine gq_iload_n C dL_law_1270 3 rfl ?_
  refine gq_iconst C dL_law_1271 gk_iconst_3 ?_
  refine gq_iadd C dL_law_1272 ?_
  refine gl_sld C hX hbl hbA dL_law_1273 (fun n8 => ?_)
  refine gl_ki (b := true) (σ := (u5, σm)) (gz_runV (b := true) (t := 0) (i := 0) (ci := 11) (q := (RX11, TX11, 63)) (As := [.long ((((xs n6 : Int32).toInt64) <<< ((32 : Int32).toInt64 &&& 63)) ||| (((xs n7 : Int32).toInt64) &&& 4294967295)), .int (xs n8)]) (rest := [.int r4]) (mc := 0) (ms := 0) (σ := σm) C dL_law_1274 ml_RL_135 mw_X11_struck mv_X11_struck (c_X11_struck l G ((((xs n6 : Int32).toInt64) <<< ((32 : Int32).toInt64 &&& 63)) ||| (((xs n7 : Int32).toInt64) &&& 4294967295)) (xs n8) σm) (gz_hm0 _) rfl rfl rfl rfl rfl (Nat.le_of_ble_eq_true rfl) ⟨rfl, rfl, Nat.le_of_ble_eq_true rfl, Nat.le_of_ble_eq_true rfl, show _ ≤ 601024 by omega, show _ ≤ 7293034 by omega⟩) (fun r9 u10 => ?_)
  refine gq_stq (σ' := (u5, u10)) rfl ?_
  refine gq_icmp_eq (tgt := 1331) C dL_law_1277 (by decide) ?_ ?_
  · exact gq_wid (ce1 := ce + 1) (sl1 := sl + 60) (by omega) (by omega) (hk u5 u10)
  · exact gq_none

def f_lawC27 (xs : Nat → Int32) (L : Nat) (i : Int32) (k : gz_S → gz_S → Option Unit) (σx σm : gz_S) : Option Unit :=
  gz_call (f_X9_undo σx) (fun r1 u2 =>
  gz_call (f_X11_undo σm) (fun r3 u4 =>
  if r1 = r3 then k u2 u4 else none))
set_option maxHeartbeats 4000000 in
set_option maxRecDepth 100000 in
theorem c_lawC27 {p : Program} {l : Launch} {e : Jvm.Env} {s : State} {m : MethodId} {args : Array Value} {below : List Frame} {meth : Method} {c : Code} {G : gz_G} {QQ : Unit → State → Prop} {bb L ce sl : Nat} {xs : Nat → Int32} {i : Int32} {k : gz_S → gz_S → Option Unit} (C : gz_X p s m meth c G code R_law 4 (some .boolean)) (hX : va_X bb L xs s s.heap) (hbl : bb < s.heap.size) (hbA : ¬ G.1 ≤ bb) (hce : ce + 1 ≤ 601024) (hsl : sl + 60 ≤ 7293034) (hk : ∀ u v, gq_W (gl_H G) (fun q => G.1 ≤ q) p l e room_1 s m args below meth c 4 QQ (ce + 1) (sl + 60) (u, v) 1331 [(0, .ref bb), (1, .ref (gz_ad false G 0 0)), (2, .ref (gz_ad true G 0 0)), (3, .int i)] [] (k u v)) (σx σm : gz_S) : gq_W (gl_H G) (fun q => G.1 ≤ q) p l e room_1 s m args below meth c 4 QQ ce sl (σx, σm) 1282 [(0, .ref bb), (1, .ref (gz_ad false G 0 0)), (2, .ref (gz_ad true G 0 0)), (3, .int i)] [] (f_lawC27 xs L i k σx σm) := by
  unfold f_lawC27
  refine gq_aload_n C dL_law_1282 1 rfl ?_
  refine gl_ki (b := false) (σ := (σx, σm)) (gz_runV (b := false) (t := 0) (i := 0) (ci := 9) (q := (RX9, TX9, 11)) (As := []) (rest := []) (mc := 0) (ms := 0) (σ := σx) C dL_law_1283 ml_RL_136 mw_X9_undo mv_X9_undo (c_X9_undo l G σx) (gz_hx0 _) rfl rfl rfl rfl rfl (Nat.le_of_ble_eq_true rfl) ⟨rfl, rfl, Nat.le_of_ble_eq_true rfl, Nat.le_of_ble_eq_true rfl, show _ ≤ 601024 by omega, show _ ≤ 7293034 by omega⟩) (fun r1 u2 => ?_)
  refine gq_stq (σ' := (u2, σm)) rfl ?_
  refine gq_aload_n C dL_law_1286 2 rfl ?_
  refine gl_ki (b := true) (σ := (u2, σm)) (gz_runV (b := true) (t := 0) (i := 0) (ci := 11) (q := (RX11, TX11, 63)) (As := []) (rest := [.int r1]) (mc := 0) (ms := 0) (σ := σm) C dL_law_1287 ml_RL_139 mw_X11_undo mv_X11_undo (c_X11_undo l G σm) (gz_hm0 _) rfl rfl rfl rfl rfl (Nat.le_of_ble_eq_true rfl) ⟨rfl, rfl, Nat.le_of_ble_eq_true rfl, Nat.le_of_ble_eq_true rfl, show _ ≤ 601024 by omega, show _ ≤ 7293034 by omega⟩) (fun r3 u4 => ?_)
  refine gq_stq (σ' := (u2, u4)) rfl ?_
  refine gq_icmp_eq (tgt := 1331) C dL_law_1290 (by decide) ?_ ?_
  · exact gq_wid (ce1 := ce + 1) (sl1 := sl + 60) (by omega) (by omega) (hk u2 u4)
  · exact gq_none

def f_lawC28 (xs : Nat → Int32) (L : Nat) (i : Int32) (k : gz_S → gz_S → Option Unit) (σx σm : gz_S) : Option Unit :=
  gz_ix (i + 1) L (fun n1 =>
  gz_call (f_X9_count (xs n1) σx) (fun r2 u3 =>
  gz_ix (i + 1) L (fun n4 =>
  gz_call (f_X11_count (xs n4) σm) (fun r5 u6 =>
  if r2 = r5 then k u3 u6 else none))))
set_option maxHeartbeats 4000000 in
set_option maxRecDepth 100000 in
theorem c_lawC28 {p : Program} {l : Launch} {e : Jvm.Env} {s : State} {m : MethodId} {args : Array Value} {below : List Frame} {meth : Method} {c : Code} {G : gz_G} {QQ : Unit → State → Prop} {bb L ce sl : Nat} {xs : Nat → Int32} {i : Int32} {k : gz_S → gz_S → Option Unit} (C : gz_X p s m meth c G code R_law 4 (some .boolean)) (hX : va_X bb L xs s s.heap) (hbl : bb < s.heap.size) (hbA : ¬ G.1 ≤ bb) (hce : ce + 1 ≤ 601024) (hsl : sl + 60 ≤ 7293034) (hk : ∀ u v, gq_W (gl_H G) (fun q => G.1 ≤ q) p l e room_1 s m args below meth c 4 QQ (ce + 1) (sl + 60) (u, v) 1331 [(0, .ref bb), (1, .ref (gz_ad false G 0 0)), (2, .ref (gz_ad true G 0 0)), (3, .int i)] [] (k u v)) (σx σm : gz_S) : gq_W (gl_H G) (fun q => G.1 ≤ q) p l e room_1 s m args below meth c 4 QQ ce sl (σx, σm) 1295 [(0, .ref bb), (1, .ref (gz_ad false G 0 0)), (2, .ref (gz_ad true G 0 0)), (3, .int i)] [] (f_lawC28 xs L i k σx σm) := by
  unfold f_lawC28
  refine gq_aload_n C dL_law_1295 1 rfl ?_
  refine gq_aload_n C dL_law_1296 0 rfl ?_
  refine gq_iload_n C dL_law_1297 3 rfl ?_
  refine gq_iconst C dL_law_1298 gk_iconst_1 ?_
  refine gq_iadd C dL_law_1299 ?_
  refine gl_sld C hX hbl hbA dL_law_1300 (fun n1 => ?_)
  refine gl_ki (b := false) (σ := (σx, σm)) (gz_runV (b := false) (t := 0) (i := 0) (ci := 9) (q := (RX9, TX9, 11)) (As := [.int (xs n1)]) (rest := []) (mc := 0) (ms := 0) (σ := σx) C dL_law_1301 ml_RL_140 mw_X9_count mv_X9_count (c_X9_count l G (xs n1) σx) (gz_hx0 _) rfl rfl rfl rfl rfl (Nat.le_of_ble_eq_true rfl) ⟨rfl, rfl, Nat.le_of_ble_eq_true rfl, Nat.le_of_ble_eq_true rfl, show _ ≤ 601024 by omega, show _ ≤ 7293034 by omega⟩) (fun r2 u3 => ?_)
  refine gq_stq (σ' := (u3, σm)) rfl ?_
  refine gq_aload_n C dL_law_1304 2 rfl ?_
  refine gq_aload_n C dL_law_1305 0 rfl ?_
  refine gq_iload_n C dL_law_1306 3 rfl ?_
  refine gq_iconst C dL_law_1307 gk_iconst_1 ?_
  refine gq_iadd C dL_law_1308 ?_
  refine gl_sld C hX hbl hbA dL_law_1309 (fun n4 => ?_)
  refine gl_ki (b := true) (σ := (u3, σm)) (gz_runV (b := true) (t := 0) (i := 0) (ci := 11) (q := (RX11, TX11, 63)) (As := [.int (xs n4)]) (rest := [.int r2]) (mc := 0) (ms := 0) (σ := σm) C dL_law_1310 ml_RL_143 mw_X11_count mv_X11_count (c_X11_count l G (xs n4) σm) (gz_hm0 _) rfl rfl rfl rfl rfl (Nat.le_of_ble_eq_true rfl) ⟨rfl, rfl, Nat.le_of_ble_eq_true rfl, Nat.le_of_ble_eq_true rfl, show _ ≤ 601024 by omega, show _ ≤ 7293034 by omega⟩) (fun r5 u6 => ?_)
  refine gq_stq (σ' := (u3, u6)) rfl ?_
  refine gq_icmp_eq (tgt := 1331) C dL_law_1313 (by decide) ?_ ?_
  · exact gq_wid (ce1 := ce + 1) (sl1 := sl + 60) (by omega) (by omega) (hk u3 u6)
  · exact gq_none

def f_lawC29 (xs : Nat → Int32) (L : Nat) (i : Int32) (k : gz_S → gz_S → Option Unit) (σx σm : gz_S) : Option Unit :=
  gz_call (f_X9_trouble σx) (fun r1 u2 =>
  gz_call (f_X11_trouble σm) (fun r3 u4 =>
  if r1 = r3 then k u2 u4 else none))
set_option maxHeartbeats 4000000 in
set_option maxRecDepth 100000 in
theorem c_lawC29 {p : Program} {l : Launch} {e : Jvm.Env} {s : State} {m : MethodId} {args : Array Value} {below : List Frame} {meth : Method} {c : Code} {G : gz_G} {QQ : Unit → State → Prop} {bb L ce sl : Nat} {xs : Nat → Int32} {i : Int32} {k : gz_S → gz_S → Option Unit} (C : gz_X p s m meth c G code R_law 4 (some .boolean)) (hX : va_X bb L xs s s.heap) (hbl : bb < s.heap.size) (hbA : ¬ G.1 ≤ bb) (hce : ce + 1 ≤ 601024) (hsl : sl + 60 ≤ 7293034) (hk : ∀ u v, gq_W (gl_H G) (fun q => G.1 ≤ q) p l e room_1 s m args below meth c 4 QQ (ce + 1) (sl + 60) (u, v) 1331 [(0, .ref bb), (1, .ref (gz_ad false G 0 0)), (2, .ref (gz_ad true G 0 0)), (3, .int i)] [] (k u v)) (σx σm : gz_S) : gq_W (gl_H G) (fun q => G.1 ≤ q) p l e room_1 s m args below meth c 4 QQ ce sl (σx, σm) 1318 [(0, .ref bb), (1, .ref (gz_ad false G 0 0)), (2, .ref (gz_ad true G 0 0)), (3, .int i)] [] (f_lawC29 xs L i k σx σm) := by
  unfold f_lawC29
  refine gq_aload_n C dL_law_1318 1 rfl ?_
  refine gl_ki (b := false) (σ := (σx, σm)) (gz_runV (b := false) (t := 0) (i := 0) (ci := 9) (q := (RX9, TX9, 11)) (As := []) (rest := []) (mc := 0) (ms := 0) (σ := σx) C dL_law_1319 ml_RL_144 mw_X9_trouble mv_X9_trouble (c_X9_trouble l G σx) (gz_hx0 _) rfl rfl rfl rfl rfl (Nat.le_of_ble_eq_true rfl) ⟨rfl, rfl, Nat.le_of_ble_eq_true rfl, Nat.le_of_ble_eq_true rfl, show _ ≤ 601024 by omega, show _ ≤ 7293034 by omega⟩) (fun r1 u2 => ?_)
  refine gq_stq (σ' := (u2, σm)) rfl ?_
  refine gq_aload_n C dL_law_1322 2 rfl ?_
  refine gl_ki (b := true) (σ := (u2, σm)) (gz_runV (b := true) (t := 0) (i := 0) (ci := 11) (q := (RX11, TX11, 63)) (As := []) (rest := [.int r1]) (mc := 0) (ms := 0) (σ := σm) C dL_law_1323 ml_RL_147 mw_X11_trouble mv_X11_trouble (c_X11_trouble l G σm) (gz_hm0 _) rfl rfl rfl rfl rfl (Nat.le_of_ble_eq_true rfl) ⟨rfl, rfl, Nat.le_of_ble_eq_true rfl, Nat.le_of_ble_eq_true rfl, show _ ≤ 601024 by omega, show _ ≤ 7293034 by omega⟩) (fun r3 u4 => ?_)
  refine gq_stq (σ' := (u2, u4)) rfl ?_
  refine gq_icmp_eq (tgt := 1331) C dL_law_1326 (by decide) ?_ ?_
  · exact gq_wid (ce1 := ce + 1) (sl1 := sl + 60) (by omega) (by omega) (hk u2 u4)
  · exact gq_none
