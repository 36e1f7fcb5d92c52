/-! feast, working, after -/
theorem g_upd2 {fe fe' : Nat → Int32} {d : Nat} {v w : Int32} (h : fe d = w) (h' : ∀ j, fe' j = if j = d then v else fe j) : upd fe' d w = fe := by
  funext j
  unfold upd
  split
  · rename_i e
    rw [e, h]
  · rename_i e
    rw [h', if_neg e]
theorem x_setFeast {d : Nat} (hd : d < 10000) {b : Int32} {σ : gz_S} (hne : gb (σ.2.1 2 0) d ≠ b) : f_X2_setFeast (nI d) b σ = some (gz_si (gz_sj σ 2 0 (d / 64) ((σ.2.1 2 0 (d / 64)) ^^^ (1 <<< ((nI d &&& 63 : Int32).toInt64 &&& 63)))) 1 0 1 (σ.1 1 0 1 + (if b = 0 then -1 else 1))) := by
  unfold f_X2_setFeast
  rw [x_isDay hd, gz_call_e, if_neg (by decide), x_isFeast hd, gz_call_e, if_neg hne, g_shr6 hd, gz_ix_nI (show d / 64 < 157 by omega) (by decide), gz_ix_nI (show d / 64 < 157 by omega) (by decide), gz_w_e]
  split
  · rw [gz_w_e]
    rfl
  · rw [gz_w_e]
    rfl
set_option maxHeartbeats 1000000 in
theorem s_feast {σx σm : gz_S} (h : gR σx σm) (a : Int32) {b : Int32} (hb : b = 0 ∨ b = 1) : gQ (f_X9_feast a b σx) (f_X11_feast a b σm) := by
  obtain ⟨F, P, N, I, fo, la, L, h⟩ := h
  unfold f_X9_feast f_X11_feast
  rw [gz_w_e]
  replace h := h.th 0
  generalize gz_si σm 0 0 0 0 = σm at h ⊢
  have hR : gR σx σm := ⟨F, P, N, I, fo, la, L, h⟩
  rcases g_isDay a with ⟨d, hd, rfl⟩ | ⟨e1, e2⟩
  · obtain ⟨hc, hF, f1, f2, C, hC, f3⟩ := h.1
    have hcd := hc d hd
    rw [x_isDay hd, gz_call_e, if_neg (show ¬ (1 : Int32) = 0 by decide), x_isFeast hd, gz_call_e, hcd.1, m_isDay hd, gz_call_e, if_neg (show ¬ (1 : Int32) = 0 by decide), gz_j0_e, gz_j0_e, f1, f2, gz_ix_nI hd (by decide)]
    have hJ46 : f_X11_feast_J46 (nI d) b σm = if σm.1 5 0 d = b then some ((1 : Int32) &&& 1, gz_si (gz_si σm 0 0 1 0) 0 0 2 (-1)) else f_X11_feast_J80 (nI d) b 0 (nI d) (if b = 0 then 1 else 0) (gz_si (gz_si σm 0 0 1 0) 0 0 2 (-1)) := by
      unfold f_X11_feast_J46
      rw [gz_w_e, gz_w_e, gz_ix_nI hd (by decide), gz_j3_e]
      show (if σm.1 5 0 d = b then _ else _) = _
      split
      · rfl
      · split <;> rfl
    by_cases hfb : σm.1 5 0 d = b
    · rw [if_pos hfb]
      have hm : (if b = 0 then f_X11_feast_J46 (nI d) b σm else if σm.1 5 0 d = 0 then (if nI F = 60 then gz_call (f_X11_denied 3 σm) fun r19 σ18 => some (r19 &&& 1, σ18) else f_X11_feast_J46 (nI d) b σm) else f_X11_feast_J46 (nI d) b σm) = some ((1 : Int32) &&& 1, gz_si (gz_si σm 0 0 1 0) 0 0 2 (-1)) := by
        rw [hJ46, if_pos hfb, hfb]
        rcases hb with rfl | rfl
        · rw [if_pos rfl]
        · rw [if_neg (by decide), if_neg (by decide)]
      rw [hm]
      exact gQ_mk rfl rfl (gR.tr hR (by decide))
    · rw [if_neg hfb]
      by_cases hfull : b = 1 ∧ F = 60
      · obtain ⟨rfl, rfl⟩ := hfull
        have z : σm.1 5 0 d = 0 := by
          rcases hcd.2 with z | z
          · exact z
          · exact absurd z hfb
        rw [if_neg (by decide), if_neg (by decide), if_neg (by decide), if_pos z, if_pos (by decide)]
        exact gQ_mk rfl rfl (gR.tr hR (by decide))
      · -- it changes
        have hx : (if b = 0 then f_X9_feast_J52 (nI d) b σx else if nI F < 60 then f_X9_feast_J52 (nI d) b σx else gz_call (f_X9_refusal 3 σx) fun r14 σ13 => some (r14 &&& 1, σ13)) = f_X9_feast_J52 (nI d) b σx := by
          rcases hb with rfl | rfl
          · rw [if_pos rfl]
          · have : F < 60 := by
              have : F ≠ 60 := fun q => hfull ⟨rfl, q⟩
              omega
            rw [if_neg (by decide), if_pos ((gn_lt 60).mpr this)]
        have hm : (if b = 0 then f_X11_feast_J46 (nI d) b σm else if σm.1 5 0 d = 0 then (if nI F = 60 then gz_call (f_X11_denied 3 σm) fun r19 σ18 => some (r19 &&& 1, σ18) else f_X11_feast_J46 (nI d) b σm) else f_X11_feast_J46 (nI d) b σm) = f_X11_feast_J46 (nI d) b σm := by
          rcases hb with rfl | rfl
          · rw [if_pos rfl]
          · have : F ≠ 60 := fun q => hfull ⟨rfl, q⟩
            rw [if_neg (by decide), if_neg (c := nI F = 60) (fun q => this ((gn_eq 60).mp q))]
            split <;> rfl
        rw [hx, hm, hJ46, if_neg hfb]
        unfold f_X9_feast_J52 f_X11_feast_J80
        rw [x_setFeast hd (by rw [hcd.1]; exact hfb), gz_then_e]
        generalize hσx1 : gz_si (gz_sj σx 2 0 (d / 64) ((σx.2.1 2 0 (d / 64)) ^^^ (1 <<< ((nI d &&& 63 : Int32).toInt64 &&& 63)))) 1 0 1 (σx.1 1 0 1 + (if b = 0 then -1 else 1)) = σx1
        have hA : rActs L (σx1.1 27 0) (σx1.1 28 0) (σx1.2.1 29 0) (σx1.2.1 30 0) (σx1.1 26 0 4) (σx1.1 26 0 5) ((gz_si (gz_si σm 0 0 1 0) 0 0 2 (-1)).1 1 0) ((gz_si (gz_si σm 0 0 1 0) 0 0 2 (-1)).1 2 0) ((gz_si (gz_si σm 0 0 1 0) 0 0 2 (-1)).2.1 3 0) ((gz_si (gz_si σm 0 0 1 0) 0 0 2 (-1)).2.1 4 0) ((gz_si (gz_si σm 0 0 1 0) 0 0 2 (-1)).1 0 0 9) := by
          subst hσx1
          exact h.2.2.2.2.2.2.2.2.2.1
        obtain ⟨gx, gm, ep, ea, hA'⟩ := g_push ((0 : Int32), nI d, (if b = 0 then (1 : Int64) else 0), (0 : Int64)) hA
        have ep' : (if b = 0 then gz_then (f_X0_push 0 (nI d) 0 0 σx1) (fun σ7 => gz_call (f_X9_acceptance σ7) (fun r9 σ8 => some (r9 &&& 1, σ8))) else gz_then (f_X0_push 0 (nI d) 1 0 σx1) (fun σ10 => gz_call (f_X9_acceptance σ10) (fun r12 σ11 => some (r12 &&& 1, σ11)))) = some ((1 : Int32) &&& 1 &&& 1, gz_si (gov gpx σx1 gx) 0 0 10 0) := by
          rcases hb with rfl | rfl
          · rw [if_pos rfl]
            have e : f_X0_push 0 (nI d) 0 0 σx1 = some (gov gpx σx1 gx) := ep
            rw [e, gz_then_e]
            rfl
          · rw [if_neg (by decide)]
            have e : f_X0_push 0 (nI d) 1 0 σx1 = some (gov gpx σx1 gx) := ep
            rw [e, gz_then_e]
            rfl
        rw [ep']
        have ea' : f_X11_act 0 (nI d) (if b = 0 then 1 else 0) 0 (gz_si (gz_si σm 0 0 1 0) 0 0 2 (-1)) = some (gov gpm (gz_si (gz_si σm 0 0 1 0) 0 0 2 (-1)) gm) := ea
        rw [ea', gz_then_e, gz_ix_nI hd (by decide), gz_w_e]
        -- the new calendar
        have hmw : ∀ g : gz_S, (if b = 0 then gz_w (gz_si (gz_si g 5 0 d (b &&& 1)) 0 0 11 ((gz_si g 5 0 d (b &&& 1)).1 0 0 11 + -1)) (fun σ15 => some ((1 : Int32) &&& 1, σ15)) else gz_w (gz_si (gz_si g 5 0 d (b &&& 1)) 0 0 11 ((gz_si g 5 0 d (b &&& 1)).1 0 0 11 + 1)) (fun σ16 => some ((1 : Int32) &&& 1, σ16))) = some ((1 : Int32) &&& 1, gz_si (gz_si g 5 0 d b) 0 0 11 (g.1 0 0 11 + (if b = 0 then -1 else 1))) := by
          intro g
          rcases hb with rfl | rfl
          · rw [if_pos rfl, if_pos rfl, gz_w_e]
            rfl
          · rw [if_neg (by decide), if_neg (by decide), gz_w_e]
            rfl
        rw [hmw]
        have hcn := (gs_cn_set (w := fun j => decide (σm.1 5 0 j = 1)) (w' := fun j => decide ((if j = d then b else σm.1 5 0 j) = 1)) (d := d) (fun j hj => by simp only [if_neg hj]) C 0).1 (by omega) (by omega)
        simp only [if_true] at hcn
        rw [← f3] at hcn
        obtain ⟨F', hF', hFF, hFn, hFc⟩ : ∃ F', F' ≤ 60 ∧ (nI F + (if b = 0 then -1 else 1) = nI F') ∧ (F' = gs_cn (fun j => decide ((if j = d then b else σm.1 5 0 j) = 1)) C 0) ∧ ((b = 0 ∧ σm.1 5 0 d = 1 ∧ F = F' + 1) ∨ (b = 1 ∧ σm.1 5 0 d = 0 ∧ F' = F + 1)) := by
          rcases hb with rfl | rfl
          · have z : σm.1 5 0 d = 1 := by
              rcases hcd.2 with z | z
              · exact absurd z hfb
              · exact z
            simp only [z, decide_true, if_true] at hcn
            have : (if decide ((0 : Int32) = 1) = true then 1 else 0) = 0 := by decide
            rw [this] at hcn
            refine ⟨F - 1, by omega, ?_, by omega, Or.inl ⟨rfl, z, by omega⟩⟩
            rw [if_pos rfl, show F = (F - 1) + 1 by omega]
            exact pk_m1 (F - 1)
          · have z : σm.1 5 0 d = 0 := by
              rcases hcd.2 with z | z
              · exact z
              · exact absurd z hfb
            simp only [z, decide_true, if_true] at hcn
            have : (if decide ((0 : Int32) = 1) = true then 1 else 0) = 0 := by decide
            rw [this] at hcn
            have hne : F ≠ 60 := fun q => hfull ⟨rfl, q⟩
            refine ⟨F + 1, by omega, ?_, by omega, Or.inr ⟨rfl, z, rfl⟩⟩
            rw [if_neg (by decide)]
            exact nI_1 F
        refine gQ_mk rfl rfl ⟨F', P, N, I, fo, la, _, ?_, ?_, ?_, ?_, ?_, ?_, ?_, ?_, ?_, hA', ?_, ?_⟩
        · subst hσx1
          refine ⟨fun d' hd' => ?_, hF', ?_, ?_, C, hC, hFn.trans ?_⟩
          · have g := gb_set (A := σx.2.1 2 0) (A' := (gz_si (gov gpx (gz_si (gz_sj σx 2 0 (d / 64) ((σx.2.1 2 0 (d / 64)) ^^^ (1 <<< ((nI d &&& 63 : Int32).toInt64 &&& 63)))) 1 0 1 (σx.1 1 0 1 + (if b = 0 then -1 else 1))) gx) 0 0 10 0).2.1 2 0) hd (fun j => by
              show (if 2 = 2 ∧ 0 = 0 ∧ j = d / 64 then _ else _) = _
              simp) d' hd'
            rw [g, hcd.1, (hc d' hd').1]
            show _ = (if 5 = 5 ∧ 0 = 0 ∧ d' = d then b else σm.1 5 0 d') ∧ ((if 5 = 5 ∧ 0 = 0 ∧ d' = d then b else σm.1 5 0 d') = 0 ∨ (if 5 = 5 ∧ 0 = 0 ∧ d' = d then b else σm.1 5 0 d') = 1)
            simp only [true_and]
            by_cases hdd : d' = d
            · subst hdd
              simp only [if_true]
              refine ⟨?_, hb⟩
              rcases hFc with ⟨rfl, z, -⟩ | ⟨rfl, z, -⟩
              · rw [z]; rfl
              · rw [z]; rfl
            · simp only [if_neg hdd]
              exact ⟨trivial, (hc d' hd').2⟩
          · show σx.1 1 0 1 + (if b = 0 then -1 else 1) = nI F'
            rw [f1]
            exact hFF
          · show σm.1 0 0 11 + (if b = 0 then -1 else 1) = nI F'
            rw [f2]
            exact hFF
          · refine gs_cn_congr C 0 (fun j _ _ => ?_)
            show decide ((if j = d then b else σm.1 5 0 j) = 1) = decide ((if 5 = 5 ∧ 0 = 0 ∧ j = d then b else σm.1 5 0 j) = 1)
            simp only [true_and]
        · subst hσx1; exact ⟨rfl, h.2.1.2.1, rfl, h.2.1.2.2.2⟩
        · subst hσx1; exact h.2.2.1
        · subst hσx1; exact h.2.2.2.1
        · subst hσx1; exact h.2.2.2.2.1
        · subst hσx1; exact h.2.2.2.2.2.1
        · subst hσx1; exact h.2.2.2.2.2.2.1
        · subst hσx1; exact h.2.2.2.2.2.2.2.1
        · subst hσx1; exact h.2.2.2.2.2.2.2.2.1
        · subst hσx1; exact h.2.2.2.2.2.2.2.2.2.2.1
        · have hIL := h.2.2.2.2.2.2.2.2.2.2.2
          have hB := hIL.B
          refine gIL.take _ 100 ⟨⟨hF', hB.2⟩, ?_⟩
          rcases hFc with ⟨rfl, z, hFe⟩ | ⟨rfl, z, hFe⟩
          · refine Or.inl ⟨rfl, d, hd, rfl, rfl, ?_, ?_⟩
            · show (if 5 = 5 ∧ 0 = 0 ∧ d = d then (0 : Int32) else σm.1 5 0 d) = 0
              simp
            · rw [← hFe]
              have e : upd ((gz_si (gz_si (gov gpm (gz_si (gz_si σm 0 0 1 0) 0 0 2 (-1)) gm) 5 0 d 0) 0 0 11 ((gov gpm (gz_si (gz_si σm 0 0 1 0) 0 0 2 (-1)) gm).1 0 0 11 + (if (0 : Int32) = 0 then -1 else 1))).1 5 0) d 1 = σm.1 5 0 := g_upd2 z (fun j => by
                show (if 5 = 5 ∧ 0 = 0 ∧ j = d then (0 : Int32) else σm.1 5 0 j) = if j = d then 0 else σm.1 5 0 j
                simp only [true_and])
              rw [e]
              exact hIL
          · refine Or.inr (Or.inl ⟨rfl, d, F, hd, rfl, rfl, ?_, hFe, ?_⟩)
            · show (if 5 = 5 ∧ 0 = 0 ∧ d = d then (1 : Int32) else σm.1 5 0 d) = 1
              simp
            · have e : upd ((gz_si (gz_si (gov gpm (gz_si (gz_si σm 0 0 1 0) 0 0 2 (-1)) gm) 5 0 d 1) 0 0 11 ((gov gpm (gz_si (gz_si σm 0 0 1 0) 0 0 2 (-1)) gm).1 0 0 11 + (if (1 : Int32) = 0 then -1 else 1))).1 5 0) d 0 = σm.1 5 0 := g_upd2 z (fun j => by
                show (if 5 = 5 ∧ 0 = 0 ∧ j = d then (1 : Int32) else σm.1 5 0 j) = if j = d then 1 else σm.1 5 0 j
                simp only [true_and])
              rw [e]
              exact hIL
  · rw [e1, e2, gz_call_e, gz_call_e, if_pos rfl, if_pos rfl]
    exact gQ_mk rfl rfl (gR.tr hR (by decide))
theorem s_working {σx σm : gz_S} (h : gR σx σm) (a : Int32) : gQ (f_X9_working a σx) (f_X11_working a σm) := by
  obtain ⟨F, P, N, I, fo, la, L, h⟩ := h
  unfold f_X9_working f_X11_working
  rw [gz_w_e]
  replace h := h.th 0
  generalize gz_si σm 0 0 0 0 = σm at h ⊢
  have hR : gR σx σm := ⟨F, P, N, I, fo, la, L, h⟩
  rcases g_isDay a with ⟨d, hd, rfl⟩ | ⟨e1, e2⟩
  · rw [x_isDay hd, gz_call_e, if_neg (show ¬ (1 : Int32) = 0 by decide), m_isDay hd, gz_call_e, if_neg (show ¬ (1 : Int32) = 0 by decide), x_isWorking (fe := σm.1 5 0) (fun d hd => (h.1.1 d hd).1) hd, gz_call_e, m_isWorking hd, gz_call_e]
    cases wk (σm.1 5 0) d
    · exact gQ_mk rfl rfl (gR.tr hR (by decide))
    · exact gQ_mk rfl rfl (gR.tr hR (by decide))
  · rw [e1, e2, gz_call_e, gz_call_e, if_pos rfl, if_pos rfl]
    exact gQ_mk rfl rfl (gR.tr hR (by decide))
theorem s_after {σx σm : gz_S} (h : gR σx σm) (a n b : Int32) : gQ (f_X9_after a n b σx) (f_X11_after a n b σm) := by
  obtain ⟨F, P, N, I, fo, la, L, h⟩ := h
  unfold f_X9_after f_X11_after
  rw [gz_w_e]
  replace h := h.th 0
  generalize gz_si σm 0 0 0 0 = σm at h ⊢
  have hR : gR σx σm := ⟨F, P, N, I, fo, la, L, h⟩
  rcases g_isDay a with ⟨d, hd, rfl⟩ | ⟨e1, e2⟩
  · rw [x_isDay hd, gz_call_e, if_neg (show ¬ (1 : Int32) = 0 by decide), m_isDay hd, gz_call_e, if_neg (show ¬ (1 : Int32) = 0 by decide)]
    unfold f_X11_in
    have c1 : (9999 : Int32).toInt = 9999 := by decide
    have c3 : (nI 10000).toInt = 10000 := by decide
    have c0 : (0 : Int32).toInt = 0 := by decide
    rcases g_ixc n (c := 10000) (by decide) with h | ⟨h1, h2, h3⟩ | ⟨k, hk, rfl, h1, h2, h3⟩
    · rw [if_pos h, if_pos h, gz_call_e, if_pos (by decide)]
      exact gQ_mk rfl rfl (gR.tr hR (by decide))
    · have h4 : ¬ n ≤ 9999 := fun q => by
        have q1 := Int32.le_iff_toInt_le.mp q
        have q2 := Int32.le_iff_toInt_le.mp h2
        omega
      have h5 : 9999 < n := Int32.lt_iff_toInt_lt.mpr (by
        have q2 := Int32.le_iff_toInt_le.mp h2
        omega)
      rw [if_neg h1, if_neg h4, if_neg h1, if_pos h5, gz_call_e, if_pos (by decide)]
      exact gQ_mk rfl rfl (gR.tr hR (by decide))
    · have h4 : nI k ≤ 9999 := (gn_le 9999).mpr (by omega)
      rw [if_neg h1, if_pos h4, if_neg h1, if_neg (g_nlt h4), gz_call_e, if_neg (by decide), x_behind (fe := σm.1 5 0) (fun d hd => (h.1.1 d hd).1) (by omega) (by omega), gz_call_e, m_spanOf (by omega) (by omega), gz_call_e]
      exact gQ_mk rfl rfl (gR.tr hR (by decide))
  · rw [e1, e2, gz_call_e, gz_call_e, if_pos rfl, if_pos rfl]
    exact gQ_mk rfl rfl (gR.tr hR (by decide))
