/-! a form, field by field -/
def gMayI (a : Int32) (σ35 : gz_S) (j : gz_S → Option (Option Unit × gz_S)) : Option (Option Unit × gz_S) :=
  gz_ix a 104 (fun n36 =>
  if 4 ≤ (σ35.1 9 0 n36) then
  (j σ35)
  else
  (gz_call (f_X11_is 63 σ35) (fun r46 σ45 =>
  if r46 = 0 then
  (j σ45)
  else
  (gz_ix a 104 (fun n47 =>
  gz_w (gz_si σ45 12 0 n47 ((1 : Int32) &&& 1)) (fun σ48 =>
  gz_then (f_X11_next σ48) (fun σ49 =>
  j σ49)))))))
def gNam (v1 : Int32) (σ13 : gz_S) (j : Int32 → gz_S → Option (Option Unit × gz_S)) : Option (Option Unit × gz_S) :=
  gz_tcall (f_X11_needSort 2 σ13) (fun r16 σ17 =>
  gz_call (f_X11_fieldOf v1 (σ17.2.1 0 0 20) σ17) (fun r19 σ18 =>
  if r19 = (-1) then
  (gz_ix v1 13 (fun n20 =>
  if (σ18.1 8 0 n20) = 8 then
  (f_X11_readForm_J57 σ18)
  else
  (gz_ix v1 13 (fun n21 =>
  gz_v ((8 * v1) + (σ18.1 8 0 n21)) (fun v22 =>
  gz_ix v22 104 (fun n23 =>
  gz_w (gz_sj σ18 13 0 n23 (σ18.2.1 0 0 20)) (fun σ24 =>
  gz_ix v22 104 (fun n25 =>
  gz_w (gz_si σ24 10 0 n25 0) (fun σ26 =>
  gz_ix v22 104 (fun n27 =>
  gz_w (gz_si σ26 11 0 n27 0) (fun σ28 =>
  gz_ix v22 104 (fun n29 =>
  gz_w (gz_si σ28 12 0 n29 ((0 : Int32) &&& 1)) (fun σ30 =>
  gz_then (f_X11_next σ30) (fun σ31 =>
  gz_tcall (f_X11_need 58 σ31) (fun r32 σ33 =>
  j v22 σ33)))))))))))))))
  else
  (f_X11_readForm_J36 σ18)))
theorem m_body (P : Nat) (rec : Int32 → gz_S → Option (Option Unit × gz_S)) (σ : gz_S) : f_X11_readForm_L14 (nI P) f_X11_readForm_J57 f_X11_readForm_J36 rec 1 σ = gNam (nI P) σ (fun v22 σ33 => gz_tcall (f_X11_readKind (nI P) v22 σ33) (fun r34 σ35 => gMayI v22 σ35 (f_X11_readForm_J156 (nI P) rec))) := by
  unfold f_X11_readForm_L14 gNam gMayI
  rw [if_neg (by decide)]
  rfl
theorem g_name {e P s i : Nat} {b : Nat → Nat} {gx gm : gz_S} (hP : P < 13) (hs : s < 8) (hi : i = 8 * P + s) (hF : gFs e b gx gm) (hp : gPv P s gx gm) : ∃ gx' gm', gfr (gix i) gx gx' ∧ gfr (gim i) gm gm' ∧ ((f_X4_readName P gx = some (1, gx') ∧ (∀ j, gNam (nI P) gm j = j (nI i) gm') ∧ gFs e b gx' gm' ∧ gPv P s gx' gm' ∧ gx'.2.1 8 i 0 = gm'.2.1 13 0 i ∧ gx'.1 8 i 2 = 0 ∧ gx'.1 8 i 3 = 0 ∧ gx'.1 8 i 4 = 0 ∧ gx'.1 8 i 6 = 0 ∧ gm'.1 10 0 i = 0 ∧ gm'.1 11 0 i = 0 ∧ gm'.1 12 0 i = 0) ∨ (f_X4_readName P gx = some (0, gx') ∧ (∀ j, gNam (nI P) gm j = some (none, gm')) ∧ gFl gx' gm')) := by
  have hi104 : i < 104 := by omega
  unfold f_X4_readName gNam
  rcases hF.2.2.1.w with ⟨t1, t2, ha, u, hu, v1, v2⟩ | ⟨t1, t2⟩
  · rw [if_pos t1, m_ns t2, v1]
    simp only [gz_tcall_s, v2]
    rw [x_placeOf (nm := fun k => gm.2.1 13 0 (8 * P + k)) hp.1 hp.2.1 (fun k hk => (hp.kd hk).1), gz_call_e, m_fieldOf (nm := fun k => gm.2.1 13 0 (8 * P + k)) hP hp.1 hp.2.2.1 (fun k hk => rfl)]
    simp only [gz_call_e]
    rcases gfi_or (fun k => gm.2.1 13 0 (8 * P + k)) s (lN u) with ⟨r1, -⟩ | ⟨bb, hbb, r1, -⟩
    · rw [r1, if_pos rfl, hp.2.1, if_pos ((gn_lt 8 (a := s)).mpr hs), gz_ix_nI hs (by decide), v1]
      simp only [if_pos (show (-1 : Int32) = -1 from rfl), gz_ix_nI hP (show 13 < 2 ^ 31 by decide), hp.2.2.1, if_neg (show ¬ nI s = 8 from fun q => by have := (gn_eq 8 (a := s)).mp q; omega), gn_8, gz_v_e, gz_w_e, ← hi, gz_ix_nI hi104 (show 104 < 2 ^ 31 by decide), v2]
      unfold f_X3_begin
      simp only [gz_w_e, gz_then_e]
      have f1 : gfr (gix i) gx (gz_si (gz_si (gz_si (gz_si (gz_si (gz_sj gx 8 i 0 (lN u)) 8 i 1 0) 8 i 2 0) 8 i 3 0) 8 i 4 0) 8 i 6 0) := (((((gfr.rf.sj (gix_t (Or.inl rfl))).si (gix_t (Or.inl rfl))).si (gix_t (Or.inl rfl))).si (gix_t (Or.inl rfl))).si (gix_t (Or.inl rfl))).si (gix_t (Or.inl rfl))
      have f2 : gfr (gim i) gm (gz_si (gz_si (gz_si (gz_sj gm 13 0 i (lN u)) 10 0 i 0) 11 0 i 0) 12 0 i ((0 : Int32) &&& 1)) := (((gfr.rf.sj (gim_t (by omega))).si (gim_t (by omega))).si (gim_t (by omega))).si (gim_t (by omega))
      have hF1 : gFs e b (gz_si (gz_si (gz_si (gz_si (gz_si (gz_sj gx 8 i 0 (lN u)) 8 i 1 0) 8 i 2 0) 8 i 3 0) 8 i 4 0) 8 i 6 0) (gz_si (gz_si (gz_si (gz_sj gm 13 0 i (lN u)) 10 0 i 0) 11 0 i 0) 12 0 i ((0 : Int32) &&& 1)) := hF.gm ((((((gfr.rf.sj rfl).si rfl).si rfl).si rfl).si rfl).si rfl) ((((gfr.rf.sj rfl).si rfl).si rfl).si rfl)
      have ha1 : gAt e (gz_si (gz_si (gz_si (gz_si (gz_si (gz_sj gx 8 i 0 (lN u)) 8 i 1 0) 8 i 2 0) 8 i 3 0) 8 i 4 0) 8 i 6 0) (gz_si (gz_si (gz_si (gz_sj gm 13 0 i (lN u)) 10 0 i 0) 11 0 i 0) 12 0 i ((0 : Int32) &&& 1)) := ha
      have z0 : (gz_si (gz_si (gz_si (gz_si (gz_si (gz_sj gx 8 i 0 (lN u)) 8 i 1 0) 8 i 2 0) 8 i 3 0) 8 i 4 0) 8 i 6 0).2.1 8 i 0 = lN u := by
        simp only [gz_si_2]
        rw [gz_sj_21, if_pos ⟨rfl, rfl, rfl⟩]
      have z2 : (gz_si (gz_si (gz_si (gz_si (gz_si (gz_sj gx 8 i 0 (lN u)) 8 i 1 0) 8 i 2 0) 8 i 3 0) 8 i 4 0) 8 i 6 0).1 8 i 2 = 0 := by
        simp only [gz_si_1]
        simp
      have z3 : (gz_si (gz_si (gz_si (gz_si (gz_si (gz_sj gx 8 i 0 (lN u)) 8 i 1 0) 8 i 2 0) 8 i 3 0) 8 i 4 0) 8 i 6 0).1 8 i 3 = 0 := by
        simp only [gz_si_1]
        simp
      have z4 : (gz_si (gz_si (gz_si (gz_si (gz_si (gz_sj gx 8 i 0 (lN u)) 8 i 1 0) 8 i 2 0) 8 i 3 0) 8 i 4 0) 8 i 6 0).1 8 i 4 = 0 := by
        simp only [gz_si_1]
        simp
      have z6 : (gz_si (gz_si (gz_si (gz_si (gz_si (gz_sj gx 8 i 0 (lN u)) 8 i 1 0) 8 i 2 0) 8 i 3 0) 8 i 4 0) 8 i 6 0).1 8 i 6 = 0 := by
        simp only [gz_si_1]
        simp
      have y13 : (gz_si (gz_si (gz_si (gz_sj gm 13 0 i (lN u)) 10 0 i 0) 11 0 i 0) 12 0 i ((0 : Int32) &&& 1)).2.1 13 0 i = lN u := by
        simp only [gz_si_2]
        rw [gz_sj_21, if_pos ⟨rfl, rfl, rfl⟩]
      have y10 : (gz_si (gz_si (gz_si (gz_sj gm 13 0 i (lN u)) 10 0 i 0) 11 0 i 0) 12 0 i ((0 : Int32) &&& 1)).1 10 0 i = 0 := by
        simp only [gz_si_1]
        simp
      have y11 : (gz_si (gz_si (gz_si (gz_sj gm 13 0 i (lN u)) 10 0 i 0) 11 0 i 0) 12 0 i ((0 : Int32) &&& 1)).1 11 0 i = 0 := by
        simp only [gz_si_1]
        simp
      have y12 : (gz_si (gz_si (gz_si (gz_sj gm 13 0 i (lN u)) 10 0 i 0) 11 0 i 0) 12 0 i ((0 : Int32) &&& 1)).1 12 0 i = 0 := by
        rw [gz_si_1, if_pos ⟨rfl, rfl, rfl⟩]
        rfl
      generalize gz_si (gz_si (gz_si (gz_si (gz_si (gz_sj gx 8 i 0 (lN u)) 8 i 1 0) 8 i 2 0) 8 i 3 0) 8 i 4 0) 8 i 6 0 = gx1 at f1 hF1 ha1 z0 z2 z3 z4 z6 ⊢
      generalize gz_si (gz_si (gz_si (gz_sj gm 13 0 i (lN u)) 10 0 i 0) 11 0 i 0) 12 0 i ((0 : Int32) &&& 1) = gm1 at f2 hF1 ha1 y13 y10 y11 y12 ⊢
      obtain ⟨gx2, gm2, e1, e2, g1, g2, hF2⟩ := g_next hF1 ha1
      rw [e1, gz_then_e, e2]
      simp only [gz_then_e]
      have f1' := f1.tr (g1.w gtx_w)
      have f2' := f2.tr (g2.w gtm_w)
      rcases hF2.2.2.1.s 58 (by unfold gsg; omega) with ⟨q1, q2, ha2, q3⟩ | ⟨q1, q2⟩
      · obtain ⟨gx3, gm3, e3, e4, g3, g4, hF3⟩ := g_next hF2 ha2
        rw [x_take_y (e := e) (b := b) (show gx2.1 3 0 4 = 58 from q1) e3, gz_call_e, m_need_y (c := 58) q2 e4]
        simp only [gz_tcall_s]
        have f1'' := f1'.tr (g3.w gtx_w)
        have f2'' := f2'.tr (g4.w gtm_w)
        refine ⟨gx3, gm3, f1'', f2'', Or.inl ⟨rfl, fun _ => rfl, hF3, hp.fr (i := i) (by omega) f1'' f2'', ?_, ((g3 8 i 2 rfl).1).trans (((g1 8 i 2 rfl).1).trans z2), ((g3 8 i 3 rfl).1).trans (((g1 8 i 3 rfl).1).trans z3), ((g3 8 i 4 rfl).1).trans (((g1 8 i 4 rfl).1).trans z4), ((g3 8 i 6 rfl).1).trans (((g1 8 i 6 rfl).1).trans z6), ((g4 10 0 i rfl).1).trans (((g2 10 0 i rfl).1).trans y10), ((g4 11 0 i rfl).1).trans (((g2 11 0 i rfl).1).trans y11), ((g4 12 0 i rfl).1).trans (((g2 12 0 i rfl).1).trans y12)⟩⟩
        rw [(g3 8 i 0 rfl).2, (g4 13 0 i rfl).2, (g1 8 i 0 rfl).2, (g2 13 0 i rfl).2, z0, y13]
      · rw [x_take_n (show gx2.1 3 0 4 ≠ 58 from q1), gz_call_e, m_need_n (c := 58) q2]
        simp only [gz_tcall_n]
        exact ⟨_, _, f1'.tr (gfa_fr rfl rfl), f2'.tr (gst_fr rfl rfl), Or.inr ⟨rfl, fun _ => rfl, hF2.fl (by decide)⟩⟩
    · rw [r1, if_neg (gn_ne1 (by omega)), x_fail, gz_call_e]
      simp only [if_neg (show ¬ nI bb = -1 from gn_ne1 (by omega))]
      exact ⟨_, _, gfa_fr rfl rfl, gst_fr rfl rfl, Or.inr ⟨rfl, fun _ => rfl, hF.fl (c := 3) (by decide)⟩⟩
  · rw [if_neg t1, x_fail, gz_call_e, m_nsn t2]
    simp only [gz_tcall_n]
    exact ⟨_, _, gfa_fr rfl rfl, gst_fr rfl rfl, Or.inr ⟨rfl, fun _ => rfl, hF.fl (by decide)⟩⟩
def gpFx (P t i k : Nat) : Bool := (Nat.beq t 3 && (Nat.ble 3 k && Nat.ble k 9)) || (Nat.beq t 6 && decide (i = P)) || ((Nat.beq t 8 || Nat.beq t 9) && decide (i / 8 = P))
def gpFm (P t _ k : Nat) : Bool := (Nat.beq t 0 && (Nat.ble 16 k && Nat.ble k 20)) || Nat.beq t 6 || (Nat.beq t 8 && decide (k = P)) || ((Nat.ble 9 t && Nat.ble t 13) && decide (k / 8 = P)) || (Nat.beq t 14 && decide (k / 32 = P))
theorem gix_F {P i : Nat} (hi : i / 8 = P) : ∀ t i' k, gpFx P t i' k = false → gix i t i' k = false := by
  intro t i' k h
  unfold gpFx at h
  unfold gix
  simp only [gbq, gbl, Bool.or_eq_false_iff, Bool.and_eq_false_iff, decide_eq_false_iff_not] at h ⊢
  omega
theorem gim_F {P i : Nat} (hi : i / 8 = P) : ∀ t i' k, gpFm P t i' k = false → gim i t i' k = false := by
  intro t i' k h
  unfold gpFm at h
  unfold gim
  simp only [gbq, gbl, Bool.or_eq_false_iff, Bool.and_eq_false_iff, decide_eq_false_iff_not] at h ⊢
  omega
theorem gtx_F {P : Nat} : ∀ t i' k, gpFx P t i' k = false → gtx t i' k = false := by
  intro t i' k h
  unfold gpFx at h
  unfold gtx
  simp only [gbq, gbl, Bool.or_eq_false_iff, Bool.and_eq_false_iff, decide_eq_false_iff_not] at h ⊢
  omega
theorem gtm_F {P : Nat} : ∀ t i' k, gpFm P t i' k = false → gtm t i' k = false := by
  intro t i' k h
  unfold gpFm at h
  unfold gtm
  simp only [gbq, gbl, Bool.or_eq_false_iff, Bool.and_eq_false_iff, decide_eq_false_iff_not] at h ⊢
  omega
theorem g_fields {e P : Nat} {b : Nat → Nat} (hP : P < 13) : ∀ c s gx gm fx fm, s + c = 8 → c < fx → c + 1 < fm → gFs e b gx gm → gPv P s gx gm → gPP (gpFx P) (gpFm P) (fun gx' gm' => gx'.1 3 0 8 = 0 ∧ gm'.1 0 0 4 = -1 ∧ ∃ s', gPv P s' gx' gm') gx gm (gz_l1 (f_X4_readAll_L7 P) fx (nI s) gx) (gz_l1 (f_X11_readForm_L14 (nI P) f_X11_readForm_J57 f_X11_readForm_J36) fm 1 gm) := by
  intro c
  induction c with
  | zero =>
    intro s gx gm fx fm hc hfx hfm hF hp
    obtain ⟨fx, rfl⟩ : ∃ q, fx = q + 1 := ⟨fx - 1, by omega⟩
    obtain ⟨fm, rfl⟩ : ∃ q, fm = q + 1 := ⟨fm - 1, by omega⟩
    have hs : s = 8 := by omega
    subst hs
    rw [gz_l1_s, gz_l1_s, m_body]
    unfold f_X4_readAll_L7 f_X4_readName gNam
    rw [if_neg (show ¬ (8 : Int32) < nI 8 by decide)]
    rcases hF.2.2.1.w with ⟨t1, t2, ha, u, hu, v1, v2⟩ | ⟨t1, t2⟩
    · rw [if_pos t1, m_ns t2, v1, gz_tcall_s, v2]
      rw [x_placeOf (nm := fun k => gm.2.1 13 0 (8 * P + k)) hp.1 hp.2.1 (fun k hk => (hp.kd hk).1), gz_call_e, m_fieldOf (nm := fun k => gm.2.1 13 0 (8 * P + k)) hP hp.1 hp.2.2.1 (fun k hk => rfl), gz_call_e]
      rcases gfi_or (fun k => gm.2.1 13 0 (8 * P + k)) 8 (lN u) with ⟨r1, -⟩ | ⟨bb, hbb, r1, -⟩
      · rw [r1, if_pos rfl, if_pos rfl, hp.2.1, if_neg (by decide), x_fail, gz_call_e, gz_call_e, if_pos (by decide), gz_ix_nI hP (by decide), hp.2.2.1, if_pos (by decide)]
        exact ⟨gfa gx 5, gst gm 5, gfa_fr rfl rfl, gst_fr rfl rfl, Or.inr ⟨rfl, rfl, hF.fl (by decide)⟩⟩
      · rw [r1, if_neg (gn_ne1 (by omega)), if_neg (gn_ne1 (by omega)), x_fail, gz_call_e, gz_call_e, if_pos (by decide)]
        exact ⟨gfa gx 3, gst gm 3, gfa_fr rfl rfl, gst_fr rfl rfl, Or.inr ⟨rfl, rfl, hF.fl (by decide)⟩⟩
    · rw [if_neg t1, x_fail, gz_call_e, gz_call_e, if_pos (by decide), m_nsn t2, gz_tcall_n]
      exact ⟨gfa gx 1, gst gm 1, gfa_fr rfl rfl, gst_fr rfl rfl, Or.inr ⟨rfl, rfl, hF.fl (by decide)⟩⟩
  | succ c ih =>
    intro s gx gm fx fm hc hfx hfm hF hp
    obtain ⟨fx, rfl⟩ : ∃ q, fx = q + 1 := ⟨fx - 1, by omega⟩
    obtain ⟨fm, rfl⟩ : ∃ q, fm = q + 2 := ⟨fm - 2, by omega⟩
    have hs : s < 8 := by omega
    have hd : (8 * P + s) / 8 = P := by omega
    have ih' := fun gx gm => ih (s + 1) gx gm fx (fm + 1) (by omega) (by omega) (by omega)
    have hz : ∀ g, gz_l1 (f_X11_readForm_L14 (nI P) f_X11_readForm_J57 f_X11_readForm_J36) (fm + 1) 0 g = gz_tcall (f_X11_needSort 1 g) (fun r14 σ15 => some (some (), σ15)) := fun g => by
      rw [gz_l1_s]
      unfold f_X11_readForm_L14
      rw [if_pos rfl]
    rw [gz_l1_s, gz_l1_s, m_body]
    generalize gz_l1 (f_X4_readAll_L7 P) fx = rx at ih' ⊢
    generalize gz_l1 (f_X11_readForm_L14 (nI P) f_X11_readForm_J57 f_X11_readForm_J36) (fm + 1) = rm at ih' hz ⊢
    unfold f_X4_readAll_L7
    rw [if_neg (fun q => by have := (gn_gt 8 (a := s)).mp q; omega)]
    obtain ⟨gx1, gm1, f1, f2, hor⟩ := g_name (i := 8 * P + s) hP hs rfl hF hp
    have F1 := f1.w (gix_F hd)
    have F2 := f2.w (gim_F hd)
    rcases hor with ⟨X, Y, hF1, hp1, a0, a2, a3, a4, a6, b10, b11, b12⟩ | ⟨X, Y, hfl⟩
    · rw [X, gz_call_e, if_neg (by decide), Y, hp1.2.1, gz_ix_nI hs (by decide)]
      obtain ⟨gx2, gm2, f3, f4, hor2⟩ := g_kind hP hs rfl hF1 hp1 a0 a2 a3 a4 a6 b10 b11 b12
      have F3 := F1.tr (f3.w (gix_F hd))
      have F4 := F2.tr (f4.w (gim_F hd))
      rcases hor2 with ⟨X2, Y2, hF2, hfd⟩ | ⟨X2, Y2, hfl⟩
      · have Y2' := Y2 (f_X11_readForm_J156 (nI P) rm)
        rw [X2, gz_call_e, if_neg (by decide), gz_w_e, show gz_tcall (f_X11_readKind (nI P) (nI (8 * P + s)) gm1) (fun r34 σ35 => gMayI (nI (8 * P + s)) σ35 (f_X11_readForm_J156 (nI P) rm)) = _ from Y2']
        have hp2 := hp1.fr (i := 8 * P + s) (by omega) f3 f4
        unfold f_X11_readForm_J156
        rw [gz_ix_nI hP (by decide), gz_ix_nI hP (by decide), gz_w_e, hp2.2.1, hp2.2.2.1, nI_1]
        have q6 : gpFx P 6 P 1 = true := by
          unfold gpFx
          simp [gbq]
        have q8 : gpFm P 8 0 P = true := by
          unfold gpFm
          simp [gbq]
        have F5 : gfr (gpFx P) gx (gz_si gx2 6 P 1 (nI (s + 1))) := F3.si q6
        have F6 : gfr (gpFm P) gm (gz_si gm2 8 0 P (nI (s + 1))) := F4.si q8
        have hF3 : gFs e b (gz_si gx2 6 P 1 (nI (s + 1))) (gz_si gm2 8 0 P (nI (s + 1))) := by
          have h1 := hF2.gm (gx' := gx2) (gm' := gz_si gm2 8 0 P (nI (s + 1))) gfr.rf (gfr.rf.si rfl)
          exact h1
        have hp3 : gPv P (s + 1) (gz_si gx2 6 P 1 (nI (s + 1))) (gz_si gm2 8 0 P (nI (s + 1))) := by
          refine ⟨by omega, ?_, ?_, fun k hk => ?_⟩
          · rw [gz_si_1, if_pos ⟨rfl, rfl, rfl⟩]
          · rw [gz_si_1, if_pos ⟨rfl, rfl, rfl⟩]
          · by_cases ek : k = s
            · subst ek
              exact hfd
            · exact hp2.2.2.2 k (by omega)
        generalize gz_si gx2 6 P 1 (nI (s + 1)) = gx3 at F5 hF3 hp3 ⊢
        generalize gz_si gm2 8 0 P (nI (s + 1)) = gm3 at F6 hF3 hp3 ⊢
        rcases hF3.2.2.1.s 59 (by unfold gsg; omega) with ⟨q1, q2, ha2, q3⟩ | ⟨q1, q2⟩
        · obtain ⟨gx4, gm4, e3, e4, g3, g4, hF4⟩ := g_next hF3 ha2
          have q2' : f_X11_is 59 gm3 = some (1, gm3) := q2
          have q1' : gx3.1 3 0 4 = 59 := q1
          rw [if_neg (show ¬ gx3.1 3 0 4 = 0 by rw [q1']; decide), x_take_y (e := e) (b := b) q1' e3, gz_call_e, if_neg (by decide), q2', gz_call_e, gz_j0_e, if_neg (by decide), e4, gz_then_e]
          unfold f_X11_readForm_J181
          have F7 := F5.tr (g3.w gtx_F)
          have F8 := F6.tr (g4.w gtm_F)
          have hp4 : gPv P (s + 1) gx4 gm4 := hp3.fr (i := 8 * P + (s + 1)) (by omega) (g3.w gtx_w) (g4.w gtm_w)
          exact (ih' gx4 gm4 hF4 hp4).tr F7 F8
        · have q2' : f_X11_is 59 gm3 = some (0, gm3) := q2
          rw [q2', gz_call_e, gz_j0_e, if_pos rfl]
          unfold f_X11_readForm_J181
          rw [hz]
          rcases hF3.2.2.1.e with ⟨k1, k2⟩ | ⟨k1, k2⟩
          · rw [if_pos k1, m_ns k2, gz_tcall_s]
            exact ⟨gx3, gm3, F5, F6, Or.inl ⟨rfl, rfl, hF3.2.2.2.2, hF3.2.2.2.1, s + 1, hp3⟩⟩
          · rw [if_neg k1, x_take_n (show gx3.1 3 0 4 ≠ 59 from q1), gz_call_e, if_pos rfl, m_nsn k2, gz_tcall_n]
            exact ⟨_, _, F5.tr (gfa_fr rfl rfl), F6.tr (gst_fr rfl rfl), Or.inr ⟨rfl, rfl, hF3.fl (by decide)⟩⟩
      · have Y2' := Y2 (f_X11_readForm_J156 (nI P) rm)
        rw [X2, gz_call_e, if_pos rfl, show gz_tcall (f_X11_readKind (nI P) (nI (8 * P + s)) gm1) (fun r34 σ35 => gMayI (nI (8 * P + s)) σ35 (f_X11_readForm_J156 (nI P) rm)) = _ from Y2']
        exact ⟨gx2, gm2, F3, F4, Or.inr ⟨rfl, rfl, hfl⟩⟩
    · rw [X, gz_call_e, if_pos rfl, Y]
      exact ⟨gx1, gm1, F1, F2, Or.inr ⟨rfl, rfl, hfl⟩⟩
