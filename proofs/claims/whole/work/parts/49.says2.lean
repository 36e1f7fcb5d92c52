/-! corrects, renames, strikes -/
theorem m_waits0 {a : Int32} {σ : gz_S} (h : f_X11_isNotice a σ = some (0, σ)) : f_X11_waits a σ = some (0, gz_si (gz_si σ 0 0 1 1) 0 0 2 (-1)) := by
  unfold f_X11_waits
  rw [h, gz_call_e, if_pos rfl]
  unfold f_X11_denied
  rw [gz_w_e, gz_w_e, gz_call_e]
  exact congrArg (fun v => some (v, gz_si (gz_si σ 0 0 1 1) 0 0 2 (-1))) (show (0 : Int32) &&& 1 &&& 1 = 0 by decide)
set_option maxHeartbeats 1000000 in
theorem s_corrects {σx σm : gz_S} (h : gR σx σm) (a b : Int32) : gQ (f_X9_corrects a b σx) (f_X11_corrects a b σm) := by
  obtain ⟨F, P, N, I, fo, la, L, h⟩ := h
  unfold f_X9_corrects f_X11_corrects
  rw [gz_w_e]
  replace h := h.th 0
  generalize gz_si σm 0 0 0 0 = σm at h ⊢
  have hR : gR σx σm := ⟨F, P, N, I, fo, la, L, h⟩
  obtain ⟨n1, n2⟩ := h.2.2.2.2.1
  have hB := h.2.2.2.2.2.2.2.2.2.2.2.B
  have hN60 := hB.2.2.1
  rcases g_note b hB.2.2.1 with ⟨o, ho, rfl, b1, b2⟩ | ⟨hb0, b1, b2⟩
  · rw [b2 _ n2, gz_call_e, if_neg (show ¬ (1 : Int32) = 0 by decide)]
    rcases g_note a hB.2.2.1 with ⟨n, hn, rfl, e1, e2⟩ | ⟨-, e1, e2⟩
    · rw [e1 _ n1, gz_call_e, gz_nl_some (show n < 61 by omega), b1 _ n1, gz_call_e, gz_nl_some (show o < 61 by omega), x_waits, gz_call_e, m_waits hB.2.2.1 hn n2]
      obtain ⟨a0, a0', ⟨l, l1, l2, a1, a1'⟩, ⟨d, d1, a2, a2'⟩, a3, a3', a4, a4', a5, a5', a6, a7, a8, a9⟩ := h.2.2.2.2.2.1 n hn
      rw [a3]
      by_cases hw : σm.1 18 0 n = -1
      · rw [if_pos hw, if_neg (show ¬ (1 : Int32) = 0 by decide), if_pos hw, gz_call_e, if_neg (show ¬ (1 : Int32) = 0 by decide)]
        by_cases hlt : o < n
        · rw [if_pos (nI_lt hlt (by omega)), if_pos (nI_lt hlt (by omega)), gz_ix_nI (show n < 61 by omega) (by decide), a5]
          obtain ⟨gx, gm, ep, ea, hA'⟩ := g_push (L := L) (σx := σx) (σm := σm) ((4 : Int32), nI n, (σm.1 20 0 n).toInt64, (0 : Int64)) h.2.2.2.2.2.2.2.2.2.1
          have ep' : f_X0_push 4 (nI n) (σm.1 20 0 n).toInt64 0 σx = some (gov gpx σx gx) := ep
          have ea' : f_X11_act 4 (nI n) (σm.1 20 0 n).toInt64 0 σm = some (gov gpm σm gm) := ea
          rw [ep', gz_then_e, ea', gz_then_e, gz_w_e, gz_ix_nI (show n < 61 by omega) (by decide), gz_w_e]
          refine gQ_mk rfl rfl ⟨F, P, N, I, fo, la, _, h.1, ⟨rfl, h.2.1.2.1, rfl, h.2.1.2.2.2⟩, h.2.2.1, h.2.2.2.1, h.2.2.2.2.1, ?_, h.2.2.2.2.2.2.1, h.2.2.2.2.2.2.2.1, h.2.2.2.2.2.2.2.2.1, hA', h.2.2.2.2.2.2.2.2.2.2.1, ?_⟩
          · refine rNA (σx' := gz_si (gz_si (gov gpx σx gx) 14 n 10 (nI o)) 0 0 10 0) (σm' := gz_si (gz_si (gz_si (gov gpm σm gm) 20 0 n (nI o)) 0 0 1 0) 0 0 2 (-1)) (la' := la) n h.2.2.2.2.2.1 (fun j hj k => ⟨?_, rfl⟩) (fun j hj => ⟨rfl, rfl, rfl, rfl, rfl, ?_, rfl, rfl, rfl⟩) (fun _ _ => rfl) (fun j hj => ⟨rfl, rfl⟩) (fun j hj _ => hj) (fun _ => ?_)
            · show (if 14 = 14 ∧ j = n ∧ k = 10 then _ else σx.1 14 j k) = _
              exact if_neg (fun q => hj q.2.1)
            · show (if 20 = 20 ∧ 0 = 0 ∧ j = n then _ else σm.1 20 0 j) = _
              exact if_neg (fun q => hj q.2.2)
            · have e14 : ∀ k, k ≠ 10 → (gz_si (gz_si (gov gpx σx gx) 14 n 10 (nI o)) 0 0 10 0).1 14 n k = σx.1 14 n k := fun k hk => by
                show (if 14 = 14 ∧ n = n ∧ k = 10 then _ else σx.1 14 n k) = _
                exact if_neg (fun q => hk q.2.2)
              have e10 : (gz_si (gz_si (gov gpx σx gx) 14 n 10 (nI o)) 0 0 10 0).1 14 n 10 = nI o := by
                show (if 14 = 14 ∧ n = n ∧ 10 = 10 then _ else _) = _
                exact if_pos ⟨rfl, rfl, rfl⟩
              have e20 : (gz_si (gz_si (gz_si (gov gpm σm gm) 20 0 n (nI o)) 0 0 1 0) 0 0 2 (-1)).1 20 0 n = nI o := by
                show (if 20 = 20 ∧ 0 = 0 ∧ n = n then _ else _) = _
                exact if_pos ⟨rfl, rfl, rfl⟩
              unfold rNoteA
              rw [e14 0 (by decide), e14 1 (by decide), e14 2 (by decide), e14 3 (by decide), e14 4 (by decide), e14 6 (by decide), e10, e20]
              exact ⟨a0, a0', ⟨l, l1, l2, a1, a1'⟩, ⟨d, d1, a2, a2'⟩, a3, a3', a4, a4', rfl, Or.inr ⟨o, hlt, rfl⟩, a6, a7, a8, a9⟩
          · refine gIL.take _ 100 ⟨hB, Or.inr (Or.inr (Or.inr (Or.inr (Or.inr (Or.inl ⟨rfl, n, hn, rfl, ?_, h.2.2.2.2.2.2.2.2.2.2.2⟩)))))⟩
            show ((σm.1 20 0 n).toInt64.toInt32 = -1 ∨ ∃ j, j < n ∧ (σm.1 20 0 n).toInt64.toInt32 = nI j)
            rw [Int32.toInt32_toInt64]
            exact a5'
        · rw [if_neg (nI_nlt (by omega) (by omega)), if_neg (nI_nlt (by omega) (by omega))]
          exact gQ_mk rfl rfl (gR.tr hR (by decide))
      · rw [if_neg hw, if_pos rfl, if_neg hw, gz_call_e, if_pos rfl]
        exact gQ_mk rfl rfl (gR.tr hR (by decide))
    · rw [e1 _ n1, gz_call_e, gz_nl_none]
      rw [m_waits0 (e2 _ n2), gz_call_e, if_pos rfl]
      exact gQ_mk rfl rfl (gR.tr hR (by decide))
  · rw [b2 _ n2, gz_call_e, if_pos rfl]
    rcases g_note a hB.2.2.1 with ⟨n, hn, rfl, e1, e2⟩ | ⟨-, e1, e2⟩
    · rw [e1 _ n1, gz_call_e, gz_nl_some (show n < 61 by omega), b1 _ n1, gz_call_e, gz_nl_none]
      exact gQ_mk rfl rfl (gR.tr hR (by decide))
    · rw [e1 _ n1, gz_call_e, gz_nl_none]
      exact gQ_mk rfl rfl (gR.tr hR (by decide))
set_option maxHeartbeats 1000000 in
theorem s_renames {σx σm : gz_S} (h : gR σx σm) (a : Int32) (u w : Int64) : gQ (f_X9_renames a u w σx) (f_X11_renames a u w σm) := by
  obtain ⟨F, P, N, I, fo, la, L, h⟩ := h
  unfold f_X9_renames f_X11_renames
  rw [gz_w_e]
  replace h := h.th 0
  generalize gz_si σm 0 0 0 0 = σm at h ⊢
  have hR : gR σx σm := ⟨F, P, N, I, fo, la, L, h⟩
  obtain ⟨n1, n2⟩ := h.2.2.2.2.1
  have hB := h.2.2.2.2.2.2.2.2.2.2.2.B
  have hN60 := hB.2.2.1
  rcases g_note a hB.2.2.1 with ⟨n, hn, rfl, e1, e2⟩ | ⟨-, e1, e2⟩
  · rw [e1 _ n1, gz_call_e, gz_nl_some (show n < 61 by omega), x_waits, gz_call_e, m_waits hB.2.2.1 hn n2]
    obtain ⟨a0, a0', ⟨l, l1, l2, a1, a1'⟩, ⟨d, d1, a2, a2'⟩, a3, a3', a4, a4', a5, a5', a6, a7, a8, a9⟩ := h.2.2.2.2.2.1 n hn
    rw [a3]
    by_cases hw : σm.1 18 0 n = -1
    · rw [if_pos hw, if_neg (show ¬ (1 : Int32) = 0 by decide), if_pos hw, gz_call_e, if_neg (show ¬ (1 : Int32) = 0 by decide), x_isWord, gz_call_e, m_isWord, gz_call_e]
      by_cases hu : gWord u = true
      · rw [if_pos hu, if_neg (show ¬ (1 : Int32) = 0 by decide), if_neg (show ¬ (1 : Int32) = 0 by decide), x_isWord, gz_call_e, m_isWord, gz_call_e]
        by_cases hv : gWord w = true
        · rw [if_pos hv, if_neg (show ¬ (1 : Int32) = 0 by decide), if_neg (show ¬ (1 : Int32) = 0 by decide)]
          by_cases huv : lg_cmp u w = 0
          · rw [if_pos huv, if_pos huv]
            exact gQ_mk rfl rfl (gR.tr hR (by decide))
          · rw [if_neg huv, if_neg huv]
            simp only [gz_ix_nI (show n < 61 by omega) (show 61 < 2 ^ 31 by decide)]
            rw [a6, a7]
            obtain ⟨gx, gm, ep, ea, hA'⟩ := g_push (L := L) (σx := σx) (σm := σm) ((5 : Int32), nI n, σm.2.1 22 0 n, σm.2.1 23 0 n) h.2.2.2.2.2.2.2.2.2.1
            have ep' : f_X0_push 5 (nI n) (σm.2.1 22 0 n) (σm.2.1 23 0 n) σx = some (gov gpx σx gx) := ep
            have ea' : f_X11_act 5 (nI n) (σm.2.1 22 0 n) (σm.2.1 23 0 n) σm = some (gov gpm σm gm) := ea
            rw [ep', gz_then_e, ea', gz_then_e, gz_w_e, gz_w_e, gz_w_e, gz_w_e]
            refine gQ_mk rfl rfl ⟨F, P, N, I, fo, la, _, h.1, ⟨rfl, h.2.1.2.1, rfl, h.2.1.2.2.2⟩, h.2.2.1, h.2.2.2.1, h.2.2.2.2.1, ?_, h.2.2.2.2.2.2.1, h.2.2.2.2.2.2.2.1, h.2.2.2.2.2.2.2.2.1, hA', h.2.2.2.2.2.2.2.2.2.2.1, ?_⟩
            · refine rNA (σx' := gz_si (gz_sj (gz_sj (gov gpx σx gx) 14 n 11 u) 14 n 12 w) 0 0 10 0) (σm' := gz_si (gz_si (gz_sj (gz_sj (gov gpm σm gm) 22 0 n u) 23 0 n w) 0 0 1 0) 0 0 2 (-1)) (la' := la) n h.2.2.2.2.2.1 (fun j hj k => ⟨rfl, ?_⟩) (fun j hj => ⟨rfl, rfl, rfl, rfl, rfl, rfl, ?_, ?_, rfl⟩) (fun _ _ => rfl) (fun j hj => ⟨rfl, rfl⟩) (fun j hj _ => hj) (fun _ => ?_)
              · show (if 14 = 14 ∧ j = n ∧ k = 12 then _ else (if 14 = 14 ∧ j = n ∧ k = 11 then _ else σx.2.1 14 j k)) = _
                rw [if_neg (fun q => hj q.2.1), if_neg (fun q => hj q.2.1)]
              · show (if 22 = 22 ∧ 0 = 0 ∧ j = n then _ else σm.2.1 22 0 j) = _
                exact if_neg (fun q => hj q.2.2)
              · show (if 23 = 23 ∧ 0 = 0 ∧ j = n then _ else σm.2.1 23 0 j) = _
                exact if_neg (fun q => hj q.2.2)
              · have e11 : (gz_si (gz_sj (gz_sj (gov gpx σx gx) 14 n 11 u) 14 n 12 w) 0 0 10 0).2.1 14 n 11 = u := by
                  show (if 14 = 14 ∧ n = n ∧ 11 = 12 then _ else (if 14 = 14 ∧ n = n ∧ 11 = 11 then _ else _)) = _
                  simp
                have e12 : (gz_si (gz_sj (gz_sj (gov gpx σx gx) 14 n 11 u) 14 n 12 w) 0 0 10 0).2.1 14 n 12 = w := by
                  show (if 14 = 14 ∧ n = n ∧ 12 = 12 then _ else _) = _
                  simp
                have e13 : (gz_si (gz_sj (gz_sj (gov gpx σx gx) 14 n 11 u) 14 n 12 w) 0 0 10 0).2.1 14 n 13 = σx.2.1 14 n 13 := by
                  show (if 14 = 14 ∧ n = n ∧ 13 = 12 then _ else (if 14 = 14 ∧ n = n ∧ 13 = 11 then _ else σx.2.1 14 n 13)) = _
                  simp
                have e22 : (gz_si (gz_si (gz_sj (gz_sj (gov gpm σm gm) 22 0 n u) 23 0 n w) 0 0 1 0) 0 0 2 (-1)).2.1 22 0 n = u := by
                  show (if 22 = 22 ∧ 0 = 0 ∧ n = n then _ else _) = _
                  simp
                have e23 : (gz_si (gz_si (gz_sj (gz_sj (gov gpm σm gm) 22 0 n u) 23 0 n w) 0 0 1 0) 0 0 2 (-1)).2.1 23 0 n = w := by
                  show (if 23 = 23 ∧ 0 = 0 ∧ n = n then _ else _) = _
                  simp
                unfold rNoteA
                rw [e11, e12, e13, e22, e23]
                exact ⟨a0, a0', ⟨l, l1, l2, a1, a1'⟩, ⟨d, d1, a2, a2'⟩, a3, a3', a4, a4', a5, a5', rfl, rfl, ⟨⟨fun q => absurd q (gWord_ne hu), fun q => absurd q (gWord_ne hv)⟩, gWord_n1 hu⟩, a9⟩
            · exact gIL.take _ 100 ⟨hB, Or.inr (Or.inr (Or.inr (Or.inr (Or.inr (Or.inr (Or.inl ⟨rfl, n, hn, rfl, a8, h.2.2.2.2.2.2.2.2.2.2.2⟩))))))⟩
        · rw [if_neg hv, if_pos rfl, if_pos rfl]
          exact gQ_mk rfl rfl (gR.tr hR (by decide))
      · rw [if_neg hu, if_pos rfl, if_pos rfl]
        exact gQ_mk rfl rfl (gR.tr hR (by decide))
    · rw [if_neg hw, if_pos rfl, if_neg hw, gz_call_e, if_pos rfl]
      exact gQ_mk rfl rfl (gR.tr hR (by decide))
  · rw [e1 _ n1, gz_call_e, gz_nl_none]
    rw [m_waits0 (e2 _ n2), gz_call_e, if_pos rfl]
    exact gQ_mk rfl rfl (gR.tr hR (by decide))
set_option maxHeartbeats 1000000 in
theorem s_strikes {σx σm : gz_S} (h : gR σx σm) (a : Int32) (u : Int64) : gQ (f_X9_strikes a u σx) (f_X11_strikes a u σm) := by
  obtain ⟨F, P, N, I, fo, la, L, h⟩ := h
  unfold f_X9_strikes f_X11_strikes
  rw [gz_w_e]
  replace h := h.th 0
  generalize gz_si σm 0 0 0 0 = σm at h ⊢
  have hR : gR σx σm := ⟨F, P, N, I, fo, la, L, h⟩
  obtain ⟨n1, n2⟩ := h.2.2.2.2.1
  have hB := h.2.2.2.2.2.2.2.2.2.2.2.B
  have hN60 := hB.2.2.1
  rcases g_note a hB.2.2.1 with ⟨n, hn, rfl, e1, e2⟩ | ⟨-, e1, e2⟩
  · rw [e1 _ n1, gz_call_e, gz_nl_some (show n < 61 by omega), x_waits, gz_call_e, m_waits hB.2.2.1 hn n2]
    obtain ⟨a0, a0', ⟨l, l1, l2, a1, a1'⟩, ⟨d, d1, a2, a2'⟩, a3, a3', a4, a4', a5, a5', a6, a7, a8, a9⟩ := h.2.2.2.2.2.1 n hn
    rw [a3]
    by_cases hw : σm.1 18 0 n = -1
    · rw [if_pos hw, if_neg (show ¬ (1 : Int32) = 0 by decide), if_pos hw, gz_call_e, if_neg (show ¬ (1 : Int32) = 0 by decide), x_isWord, gz_call_e, m_isWord, gz_call_e]
      by_cases hu : gWord u = true
      · rw [if_pos hu, if_neg (show ¬ (1 : Int32) = 0 by decide), if_neg (show ¬ (1 : Int32) = 0 by decide)]
        simp only [gz_ix_nI (show n < 61 by omega) (show 61 < 2 ^ 31 by decide)]
        rw [a9]
        obtain ⟨gx, gm, ep, ea, hA'⟩ := g_push (L := L) (σx := σx) (σm := σm) ((6 : Int32), nI n, σm.2.1 24 0 n, (0 : Int64)) h.2.2.2.2.2.2.2.2.2.1
        have ep' : f_X0_push 6 (nI n) (σm.2.1 24 0 n) 0 σx = some (gov gpx σx gx) := ep
        have ea' : f_X11_act 6 (nI n) (σm.2.1 24 0 n) 0 σm = some (gov gpm σm gm) := ea
        rw [ep', gz_then_e, ea', gz_then_e, gz_w_e, gz_w_e]
        refine gQ_mk rfl rfl ⟨F, P, N, I, fo, la, _, h.1, ⟨rfl, h.2.1.2.1, rfl, h.2.1.2.2.2⟩, h.2.2.1, h.2.2.2.1, h.2.2.2.2.1, ?_, h.2.2.2.2.2.2.1, h.2.2.2.2.2.2.2.1, h.2.2.2.2.2.2.2.2.1, hA', h.2.2.2.2.2.2.2.2.2.2.1, ?_⟩
        · refine rNA (σx' := gz_si (gz_sj (gov gpx σx gx) 14 n 13 u) 0 0 10 0) (σm' := gz_si (gz_si (gz_sj (gov gpm σm gm) 24 0 n u) 0 0 1 0) 0 0 2 (-1)) (la' := la) n h.2.2.2.2.2.1 (fun j hj k => ⟨rfl, ?_⟩) (fun j hj => ⟨rfl, rfl, rfl, rfl, rfl, rfl, rfl, rfl, ?_⟩) (fun _ _ => rfl) (fun j hj => ⟨rfl, rfl⟩) (fun j hj _ => hj) (fun _ => ?_)
          · show (if 14 = 14 ∧ j = n ∧ k = 13 then _ else σx.2.1 14 j k) = _
            exact if_neg (fun q => hj q.2.1)
          · show (if 24 = 24 ∧ 0 = 0 ∧ j = n then _ else σm.2.1 24 0 j) = _
            exact if_neg (fun q => hj q.2.2)
          · have e11 : (gz_si (gz_sj (gov gpx σx gx) 14 n 13 u) 0 0 10 0).2.1 14 n 11 = σx.2.1 14 n 11 := by
              show (if 14 = 14 ∧ n = n ∧ 11 = 13 then _ else σx.2.1 14 n 11) = _
              simp
            have e12 : (gz_si (gz_sj (gov gpx σx gx) 14 n 13 u) 0 0 10 0).2.1 14 n 12 = σx.2.1 14 n 12 := by
              show (if 14 = 14 ∧ n = n ∧ 12 = 13 then _ else σx.2.1 14 n 12) = _
              simp
            have e13 : (gz_si (gz_sj (gov gpx σx gx) 14 n 13 u) 0 0 10 0).2.1 14 n 13 = u := by
              show (if 14 = 14 ∧ n = n ∧ 13 = 13 then _ else _) = _
              simp
            have e24 : (gz_si (gz_si (gz_sj (gov gpm σm gm) 24 0 n u) 0 0 1 0) 0 0 2 (-1)).2.1 24 0 n = u := by
              show (if 24 = 24 ∧ 0 = 0 ∧ n = n then _ else _) = _
              simp
            unfold rNoteA
            rw [e11, e12, e13, e24]
            exact ⟨a0, a0', ⟨l, l1, l2, a1, a1'⟩, ⟨d, d1, a2, a2'⟩, a3, a3', a4, a4', a5, a5', a6, a7, a8, rfl⟩
        · exact gIL.take _ 100 ⟨hB, Or.inr (Or.inr (Or.inr (Or.inr (Or.inr (Or.inr (Or.inr ⟨rfl, n, hn, rfl, h.2.2.2.2.2.2.2.2.2.2.2⟩))))))⟩
      · rw [if_neg hu, if_pos rfl, if_pos rfl]
        exact gQ_mk rfl rfl (gR.tr hR (by decide))
    · rw [if_neg hw, if_pos rfl, if_neg hw, gz_call_e, if_pos rfl]
      exact gQ_mk rfl rfl (gR.tr hR (by decide))
  · rw [e1 _ n1, gz_call_e, gz_nl_none]
    rw [m_waits0 (e2 _ n2), gz_call_e, if_pos rfl]
    exact gQ_mk rfl rfl (gR.tr hR (by decide))
