/-! undo -/
theorem rCal_set {F d : Nat} {xb xb' : Nat → Int64} {xc mc b : Int32} {mf mf' : Nat → Int32} (h : rCal F xb xc mf mc) (hd : d < 10000) (hb : b = 0 ∨ b = 1) (hne : mf d ≠ b) (hx : ∀ j, xb' j = if j = d / 64 then xb (d / 64) ^^^ (1 <<< ((nI d &&& 63 : Int32).toInt64 &&& 63)) else xb j) (hm : ∀ j, mf' j = if j = d then b else mf j) {F' : Nat} (hF : (b = 0 ∧ F = F' + 1) ∨ (b = 1 ∧ F' = F + 1)) (hF' : F' ≤ 60) {xc' mc' : Int32} (hxc : xc' = xc + (if b = 0 then -1 else 1)) (hmc : mc' = mc + (if b = 0 then -1 else 1)) : rCal F' xb' xc' mf' mc' := by
  obtain ⟨hc, hF0, f1, f2, C, hC, f3⟩ := h
  have hnum : nI F + (if b = 0 then -1 else 1) = nI F' := by
    rcases hF with ⟨rfl, rfl⟩ | ⟨rfl, rfl⟩
    · rw [if_pos rfl]
      exact pk_m1 F'
    · rw [if_neg (by decide)]
      exact nI_1 F
  refine ⟨fun d' hd' => ?_, hF', by rw [hxc, f1]; exact hnum, by rw [hmc, f2]; exact hnum, C, hC, ?_⟩
  · rw [gb_set hd hx d' hd', (hc d hd).1, (hc d' hd').1, hm]
    by_cases e : d' = d
    · subst e
      simp only [if_true]
      refine ⟨?_, hb⟩
      rcases hb with rfl | rfl
      · rw [if_neg hne]
      · rcases (hc d' hd).2 with z | z
        · rw [if_pos z]
        · exact absurd z hne
    · simp only [if_neg e]
      exact ⟨trivial, (hc d' hd').2⟩
  · have hcn := (gs_cn_set (w := fun j => decide (mf j = 1)) (w' := fun j => decide (mf' j = 1)) (d := d) (fun j hj => by simp only [hm, if_neg hj]) C 0).1 (by omega) (by omega)
    rw [← f3] at hcn
    generalize gs_cn (fun j => decide (mf' j = 1)) C 0 = cnt at hcn ⊢
    simp only [hm d, if_true] at hcn
    rcases hF with ⟨rfl, rfl⟩ | ⟨rfl, rfl⟩
    · have z : mf d = 1 := by
        rcases (hc d hd).2 with z | z
        · exact absurd z hne
        · exact z
      rw [z] at hcn
      simp at hcn
      omega
    · have z : mf d = 0 := by
        rcases (hc d hd).2 with z | z
        · exact z
        · exact absurd z hne
      rw [z] at hcn
      simp at hcn
      omega
theorem x_pop {L : List gA} {a : gA} {σx σm : gz_S} (h : rActs (a :: L) (σx.1 27 0) (σx.1 28 0) (σx.2.1 29 0) (σx.2.1 30 0) (σx.1 26 0 4) (σx.1 26 0 5) (σm.1 1 0) (σm.1 2 0) (σm.2.1 3 0) (σm.2.1 4 0) (σm.1 0 0 9)) :
    ∃ gx, f_X0_pop σx = some (gov gpx σx gx) ∧ gx.1 26 0 6 = a.1 ∧ gx.1 26 0 7 = a.2.1 ∧ gx.2.1 26 0 8 = gbef a.1 a.2.2.1 ∧ gx.2.1 26 0 9 = a.2.2.2 ∧ L.length < 100 ∧ σm.1 0 0 9 = nI (L.length + 1) ∧ σm.1 1 0 L.length = a.1 ∧ σm.1 2 0 L.length = a.2.1 ∧ σm.2.1 3 0 L.length = a.2.2.1 ∧ σm.2.1 4 0 L.length = a.2.2.2 ∧ rActs L (gx.1 27 0) (gx.1 28 0) (gx.2.1 29 0) (gx.2.1 30 0) (gx.1 26 0 4) (gx.1 26 0 5) (σm.1 1 0) (σm.1 2 0) (σm.2.1 3 0) (σm.2.1 4 0) (nI L.length) := by
  obtain ⟨hL, hxs, hms, q, hq, hxn, hk⟩ := h
  rw [List.length_cons] at hL hxs hms
  have hrem : gz_rem (nI q + 100 - 1) 100 = nI ((q + 99) % 100) := by
    rw [show nI q + (100 : Int32) = nI (q + 100) from nI_add q 100, show q + 100 = (q + 99) + 1 by omega, nI_pred]
    exact gn_rem 100
  have hq' : (q + 99) % 100 < 100 := Nat.mod_lt _ (by decide)
  obtain ⟨⟨a1, a2, a3, a4⟩, b1, b2, b3, b4⟩ := hk 0 a rfl
  rw [List.length_cons] at a1 a2 a3 a4
  rw [Nat.sub_zero] at b1 b2 b3 b4
  have hE : f_X0_pop σx = some (gz_sj (gz_sj (gz_si (gz_si (gz_si (gz_si σx 26 0 4 (nI ((q + 99) % 100))) 26 0 5 (nI L.length)) 26 0 6 a.1) 26 0 7 a.2.1) 26 0 8 (gbef a.1 a.2.2.1)) 26 0 9 a.2.2.2) := by
    unfold f_X0_pop
    simp only [hxn, hrem, gz_w_e, gz_si_1, gz_si_2, gz_sj_1, gz_sj_21, Nat.reduceEqDiff, false_and, and_false, true_and, if_false, if_true, hxs, nI_pred, gz_ix_nI hq' (show 100 < 2 ^ 31 by decide), b1, b2, b3, b4]
  refine ⟨_, hE.trans (congrArg some (gov_eq ((((((gfr.rf.si rfl).si rfl).si rfl).si rfl).sj rfl).sj rfl))), rfl, rfl, rfl, rfl, by omega, hms, a1, a2, a3, a4, ?_⟩
  refine ⟨by omega, rfl, rfl, (q + 99) % 100, hq', rfl, fun k b hb => ?_⟩
  have hkl : k < L.length := (List.getElem?_eq_some_iff.mp hb).1
  have := hk (k + 1) b (by simpa using hb)
  rw [List.length_cons, show L.length + 1 - 1 - (k + 1) = L.length - 1 - k by omega, show (q + 99 - (k + 1)) % 100 = ((q + 99) % 100 + 99 - k) % 100 by omega] at this
  exact this
theorem u_feast {F F' P N I : Nat} {fo la : Nat → Nat} {a : gA} {L : List gA} {σx σm gx : gz_S} {d : Nat} {b V1 V2 : Int32} {W1 : Int64} (h : rAll F P N I fo la (a :: L) σx σm) (hA' : rActs L (gx.1 27 0) (gx.1 28 0) (gx.2.1 29 0) (gx.2.1 30 0) (gx.1 26 0 4) (gx.1 26 0 5) (σm.1 1 0) (σm.1 2 0) (σm.2.1 3 0) (σm.2.1 4 0) (nI L.length)) (hd : d < 10000) (hb : b = 0 ∨ b = 1) (hne : σm.1 5 0 d ≠ b) (hF : (b = 0 ∧ F = F' + 1) ∨ (b = 1 ∧ F' = F + 1)) (hW : W1 = σx.2.1 2 0 (d / 64) ^^^ (1 <<< ((nI d &&& 63 : Int32).toInt64 &&& 63))) (hV1 : V1 = σx.1 1 0 1 + (if b = 0 then -1 else 1)) (hV2 : V2 = σm.1 0 0 11 + (if b = 0 then -1 else 1)) (hI : gIL L F' (upd (σm.1 5 0) d b) P N fo la) : gR (gz_si (gz_sj (gov gpx σx gx) 2 0 (d / 64) W1) 1 0 1 V1) (gz_si (gz_si (gz_si σm 0 0 9 (nI L.length)) 5 0 d b) 0 0 11 V2) := by
  refine ⟨F', P, N, I, fo, la, L, ?_, h.2.1, h.2.2.1, h.2.2.2.1, h.2.2.2.2.1, h.2.2.2.2.2.1, h.2.2.2.2.2.2.1, h.2.2.2.2.2.2.2.1, h.2.2.2.2.2.2.2.2.1, hA', h.2.2.2.2.2.2.2.2.2.2.1, ?_⟩
  · refine rCal_set h.1 hd hb hne (fun j => ?_) (fun j => ?_) hF hI.B.1 (xc' := _) (mc' := _) hV1 hV2
    · show (if 2 = 2 ∧ 0 = 0 ∧ j = d / 64 then W1 else σx.2.1 2 0 j) = _
      simp only [true_and]
      rw [hW]
    · show (if 5 = 5 ∧ 0 = 0 ∧ j = d then b else σm.1 5 0 j) = _
      simp only [true_and]
  · have e5 : upd (σm.1 5 0) d b = (gz_si (gz_si (gz_si σm 0 0 9 (nI L.length)) 5 0 d b) 0 0 11 V2).1 5 0 := by
      funext j
      show (if j = d then b else σm.1 5 0 j) = (if 5 = 5 ∧ 0 = 0 ∧ j = d then b else σm.1 5 0 j)
      simp only [true_and]
    rw [← e5]
    exact hI
theorem u_j104 {d : Nat} (hd : d < 10000) {b : Int32} (hb : b = 0 ∨ b = 1) (σ : gz_S) : f_X11_undo_J104 (nI d) (nI d) b σ = some (1, gz_si (gz_si σ 5 0 d b) 0 0 11 (σ.1 0 0 11 + (if b = 0 then -1 else 1))) := by
  unfold f_X11_undo_J104
  rw [gz_ix_nI hd (by decide), gz_w_e, gz_ix_nI hd (by decide)]
  rcases hb with rfl | rfl
  · rw [if_pos (show (gz_si σ 5 0 d (0 &&& 1)).1 5 0 d = 0 by rw [gz_si_1, if_pos (by exact ⟨rfl, rfl, rfl⟩)]; decide), gz_w_e, if_pos rfl, show (0 : Int32) &&& 1 = 0 by decide]
    rfl
  · rw [if_neg (show ¬ (gz_si σ 5 0 d (1 &&& 1)).1 5 0 d = 0 by rw [gz_si_1, if_pos (by exact ⟨rfl, rfl, rfl⟩)]; decide), gz_w_e, if_neg (by decide), show (1 : Int32) &&& 1 = 1 by decide]
    rfl
set_option maxHeartbeats 2000000 in
theorem s_undo {σx σm : gz_S} (h : gR σx σm) : gQ (f_X9_undo σx) (f_X11_undo σm) := by
  obtain ⟨F, P, N, I, fo, la, L, h⟩ := h
  unfold f_X9_undo f_X11_undo
  rw [gz_w_e]
  replace h := h.th 0
  generalize gz_si σm 0 0 0 0 = σm at h ⊢
  have hR : gR σx σm := ⟨F, P, N, I, fo, la, L, h⟩
  have hacts := h.2.2.2.2.2.2.2.2.2.1
  have hB := h.2.2.2.2.2.2.2.2.2.2.2.B
  have hN60 := hB.2.2.1
  cases L with
  | nil =>
    have e1 : σx.1 26 0 5 = 0 := hacts.2.1
    have e2 : σm.1 0 0 9 = 0 := hacts.2.2.1
    rw [if_pos e1, if_pos e2]
    exact gQ_mk rfl rfl hR
  | cons a L =>
    have hIL := h.2.2.2.2.2.2.2.2.2.2.2
    have hxs := hacts.2.1
    have hlen := hacts.1
    obtain ⟨gx, ep, p6, p7, p8, p9, hl100, m9, m1, m2, m3, m4, hA'⟩ := x_pop hacts
    rw [List.length_cons] at hxs
    rw [hxs, m9, if_neg (nI_ne0 (by omega) (by omega)), if_neg (nI_ne0 (by omega) (by omega)), ep, gz_then_e, gz_w_e, nI_pred]
    have k9 : (gz_si σm 0 0 9 (nI L.length)).1 0 0 9 = nI L.length := rfl
    have k1 : (gz_si σm 0 0 9 (nI L.length)).1 1 0 L.length = a.1 := m1
    have k2 : (gz_si σm 0 0 9 (nI L.length)).1 2 0 L.length = a.2.1 := m2
    have k3 : (gz_si σm 0 0 9 (nI L.length)).2.1 3 0 L.length = a.2.2.1 := m3
    have k4 : (gz_si σm 0 0 9 (nI L.length)).2.1 4 0 L.length = a.2.2.2 := m4
    have x6 : (gov gpx σx gx).1 26 0 6 = a.1 := p6
    have x7 : (gov gpx σx gx).1 26 0 7 = a.2.1 := p7
    have x8 : (gov gpx σx gx).2.1 26 0 8 = gbef a.1 a.2.2.1 := p8
    have x9 : (gov gpx σx gx).2.1 26 0 9 = a.2.2.2 := p9
    simp only [k9, gz_ix_nI hl100 (show 100 < 2 ^ 31 by decide), k1, k2, k3, gz_v_e]
    unfold f_X9_takeBack
    rw [x6, x7, x8]
    obtain ⟨hc, hF0, f1, f2, -⟩ := h.1
    rcases hIL.2 with ⟨e, d, h1, h2, h3, h4, h5⟩ | ⟨e, d, F', h1, h2, h3, h4, h5, h6⟩ | ⟨e, P', h1, h2, h3⟩ | ⟨e, N', h1, h2, h3⟩ | ⟨e, n, c, h1, h2, h3, h4⟩ | ⟨e, n, h1, h2, h3, h4⟩ | ⟨e, n, h1, h2, h3, h4⟩ | ⟨e, n, h1, h2, h3⟩
    · -- a feast was taken away: it comes back
      rw [e, h2, h3, if_pos rfl, if_pos (by decide), if_pos rfl, gz_j2_e, if_pos (by decide), x_setFeast h1 (by show gb (σx.2.1 2 0) d ≠ 1; rw [(hc d h1).1, h4]; decide), gz_then_e, gz_then_e, u_j104 h1 (Or.inr rfl)]
      exact gQ_mk rfl rfl (u_feast h hA' h1 (Or.inr rfl) (by rw [h4]; decide) (Or.inr ⟨rfl, rfl⟩) rfl rfl rfl h5)
    · rw [e, h2, h3, if_pos rfl, if_neg (by decide), if_pos rfl, gz_j2_e, if_neg (by decide), x_setFeast h1 (by show gb (σx.2.1 2 0) d ≠ 0; rw [(hc d h1).1, h4]; decide), gz_then_e, gz_then_e, u_j104 h1 (Or.inl rfl)]
      exact gQ_mk rfl rfl (u_feast h hA' h1 (Or.inl rfl) (by rw [h4]; decide) (Or.inl ⟨rfl, h5⟩) rfl rfl rfl h6)
    · rw [e, h2, if_neg (by decide), if_pos rfl, if_neg (by decide), if_pos rfl, gz_w_e, gz_w_e, gz_then_e]
      obtain ⟨p1, p2, p3⟩ := h.2.2.2.1
      have e21 : (gz_si σm 0 0 9 (nI L.length)).1 0 0 21 - 1 = nI P' := by
        show σm.1 0 0 21 - 1 = nI P'
        rw [p2, h1, nI_pred]
      rw [e21]
      exact gQ_mk rfl rfl ⟨F, P', N, I, fo, la, L, h.1, h.2.1, h.2.2.1, ⟨rfl, rfl, fun f hf => p3 f (by omega)⟩, h.2.2.2.2.1, h.2.2.2.2.2.1, h.2.2.2.2.2.2.1, h.2.2.2.2.2.2.2.1, h.2.2.2.2.2.2.2.2.1, hA', h.2.2.2.2.2.2.2.2.2.2.1, h3⟩
    · rw [e, h2, if_neg (by decide), if_neg (by decide), if_pos rfl, if_neg (by decide), if_neg (by decide), if_pos rfl, gz_w_e, gz_w_e, gz_then_e]
      have e29 : (gz_si σm 0 0 9 (nI L.length)).1 0 0 29 - 1 = nI N' := by
        show σm.1 0 0 29 - 1 = nI N'
        rw [h.2.2.2.2.1.2, h1, nI_pred]
      rw [e29]
      exact gQ_mk rfl rfl ⟨F, P, N', I, fo, la, L, h.1, h.2.1, h.2.2.1, h.2.2.2.1, ⟨rfl, rfl⟩, fun n hn => h.2.2.2.2.2.1 n (by omega), fun n hn => h.2.2.2.2.2.2.1 n (by omega), fun n hn => h.2.2.2.2.2.2.2.1 n (by omega), h.2.2.2.2.2.2.2.2.1, hA', h.2.2.2.2.2.2.2.2.2.2.1, h3⟩
    · have hat : f_X1_at (nI n) (gov gpx σx gx) = some (some n, gov gpx σx gx) := by
        rcases g_note (nI n) hN60 with ⟨k, hk, ek, e1, -⟩ | ⟨e1, -⟩
        · have : n = k := (nI_eq (by omega) (by omega)).mp ek
          subst this
          exact e1 _ h.2.2.2.2.1.1
        · exact absurd rfl (e1 n h1)
      rw [e, h2, if_neg (by decide), if_neg (by decide), if_neg (by decide), if_neg (by decide), if_neg (by decide), if_neg (by decide), if_pos rfl, hat, gz_call_e]
      unfold f_X9_takeBackSaying
      rw [gz_nl_some (show n < 61 by omega), x6, e, if_pos rfl, gz_w_e, gz_then_e, gz_then_e]
      simp only [gz_ix_nI (show n < 61 by omega) (show 61 < 2 ^ 31 by decide), gz_w_e]
      obtain ⟨a0, a0', ⟨l, l1, l2, a1, a1'⟩, ⟨d, d1, a2, a2'⟩, a3, a3', a4, a4', a5, a5', a6, a7, a8, a9⟩ := h.2.2.2.2.2.1 n h1
      have y1 : (gov gpx σx gx).1 14 n 6 - 1 = nI c := by
        show σx.1 14 n 6 - 1 = _
        rw [a4, h3, nI_pred]
      have y2 : (gz_si σm 0 0 9 (nI L.length)).1 19 0 n - 1 = nI c := by
        show σm.1 19 0 n - 1 = _
        rw [a4', h3, nI_pred]
      rw [y1, y2]
      refine gQ_mk rfl rfl ⟨F, P, N, I, fo, gun la n c, L, h.1, h.2.1, h.2.2.1, h.2.2.2.1, h.2.2.2.2.1, ?_, ?_, h.2.2.2.2.2.2.2.1, h.2.2.2.2.2.2.2.2.1, hA', h.2.2.2.2.2.2.2.2.2.2.1, h4⟩
      · refine rNA (σx' := gz_si (gov gpx σx gx) 14 n 6 (nI c)) (σm' := gz_si (gz_si σm 0 0 9 (nI L.length)) 19 0 n (nI c)) (la' := gun la n c) n h.2.2.2.2.2.1 (fun j hj k => ⟨?_, rfl⟩) (fun j hj => ⟨rfl, rfl, rfl, rfl, ?_, rfl, rfl, rfl, rfl⟩) (fun _ _ => rfl) (fun j hj => ⟨rfl, gun_ne _ hj⟩) (fun j hj _ => hj) (fun _ => ?_)
        · show (if 14 = 14 ∧ j = n ∧ k = 6 then _ else σx.1 14 j k) = _
          exact if_neg (fun q => hj q.2.1)
        · show (if 19 = 19 ∧ 0 = 0 ∧ j = n then _ else σm.1 19 0 j) = _
          exact if_neg (fun q => hj q.2.2)
        · have e14 : ∀ k, k ≠ 6 → (gz_si (gov gpx σx gx) 14 n 6 (nI c)).1 14 n k = σx.1 14 n k := fun k hk => by
            show (if 14 = 14 ∧ n = n ∧ k = 6 then _ else σx.1 14 n k) = _
            exact if_neg (fun q => hk q.2.2)
          unfold rNoteA
          rw [e14 0 (by decide), e14 1 (by decide), e14 2 (by decide), e14 3 (by decide), e14 4 (by decide), e14 10 (by decide), gun_e]
          refine ⟨a0, a0', ⟨l, l1, l2, a1, a1'⟩, ⟨d, d1, a2, a2'⟩, a3, a3', ?_, ?_, a5, a5', a6, a7, a8, a9⟩
          · show (if 14 = 14 ∧ n = n ∧ 6 = 6 then _ else _) = _
            exact if_pos ⟨rfl, rfl, rfl⟩
          · show (if 19 = 19 ∧ 0 = 0 ∧ n = n then _ else _) = _
            exact if_pos ⟨rfl, rfl, rfl⟩
      · intro j hj i hi
        refine h.2.2.2.2.2.2.1 j hj i ?_
        by_cases e : j = n
        · subst e
          rw [gun_e] at hi
          omega
        · rw [gun_ne _ e] at hi
          exact hi
    · have hat : f_X1_at (nI n) (gov gpx σx gx) = some (some n, gov gpx σx gx) := by
        rcases g_note (nI n) hN60 with ⟨k, hk, ek, e1, -⟩ | ⟨e1, -⟩
        · have : n = k := (nI_eq (by omega) (by omega)).mp ek
          subst this
          exact e1 _ h.2.2.2.2.1.1
        · exact absurd rfl (e1 n h1)
      rw [e, h2, if_neg (by decide), if_neg (by decide), if_neg (by decide), if_neg (by decide), if_neg (by decide), if_neg (by decide), if_neg (by decide), if_pos rfl, hat, gz_call_e]
      unfold f_X9_takeBackSaying
      rw [gz_nl_some (show n < 61 by omega), x6, e, if_neg (by decide), if_pos rfl, gz_w_e, gz_then_e, gz_then_e, x8, e]
      simp only [gz_ix_nI (show n < 61 by omega) (show 61 < 2 ^ 31 by decide), gz_w_e]
      have hbf : gbef 4 a.2.2.1 = a.2.2.1 := rfl
      rw [hbf]
      obtain ⟨a0, a0', ⟨l, l1, l2, a1, a1'⟩, ⟨d, d1, a2, a2'⟩, a3, a3', a4, a4', a5, a5', a6, a7, a8, a9⟩ := h.2.2.2.2.2.1 n h1
      refine gQ_mk rfl rfl ⟨F, P, N, I, fo, la, L, h.1, h.2.1, h.2.2.1, h.2.2.2.1, h.2.2.2.2.1, ?_, h.2.2.2.2.2.2.1, h.2.2.2.2.2.2.2.1, h.2.2.2.2.2.2.2.2.1, hA', h.2.2.2.2.2.2.2.2.2.2.1, h4⟩
      refine rNA (σx' := gz_si (gov gpx σx gx) 14 n 10 a.2.2.1.toInt32) (σm' := gz_si (gz_si σm 0 0 9 (nI L.length)) 20 0 n a.2.2.1.toInt32) (la' := la) n h.2.2.2.2.2.1 (fun j hj k => ⟨?_, rfl⟩) (fun j hj => ⟨rfl, rfl, rfl, rfl, rfl, ?_, rfl, rfl, rfl⟩) (fun _ _ => rfl) (fun j hj => ⟨rfl, rfl⟩) (fun j hj _ => hj) (fun _ => ?_)
      · show (if 14 = 14 ∧ j = n ∧ k = 10 then _ else σx.1 14 j k) = _
        exact if_neg (fun q => hj q.2.1)
      · show (if 20 = 20 ∧ 0 = 0 ∧ j = n then _ else σm.1 20 0 j) = _
        exact if_neg (fun q => hj q.2.2)
      · have e14 : ∀ k, k ≠ 10 → (gz_si (gov gpx σx gx) 14 n 10 a.2.2.1.toInt32).1 14 n k = σx.1 14 n k := fun k hk => by
          show (if 14 = 14 ∧ n = n ∧ k = 10 then _ else σx.1 14 n k) = _
          exact if_neg (fun q => hk q.2.2)
        have e10 : (gz_si (gov gpx σx gx) 14 n 10 a.2.2.1.toInt32).1 14 n 10 = a.2.2.1.toInt32 := by
          show (if 14 = 14 ∧ n = n ∧ 10 = 10 then _ else _) = _
          exact if_pos ⟨rfl, rfl, rfl⟩
        have e20 : (gz_si (gz_si σm 0 0 9 (nI L.length)) 20 0 n a.2.2.1.toInt32).1 20 0 n = a.2.2.1.toInt32 := by
          show (if 20 = 20 ∧ 0 = 0 ∧ n = n then _ else _) = _
          exact if_pos ⟨rfl, rfl, rfl⟩
        unfold rNoteA
        rw [e14 0 (by decide), e14 1 (by decide), e14 2 (by decide), e14 3 (by decide), e14 4 (by decide), e14 6 (by decide), e10, e20]
        exact ⟨a0, a0', ⟨l, l1, l2, a1, a1'⟩, ⟨d, d1, a2, a2'⟩, a3, a3', a4, a4', rfl, h3, a6, a7, a8, a9⟩
    · have hat : f_X1_at (nI n) (gov gpx σx gx) = some (some n, gov gpx σx gx) := by
        rcases g_note (nI n) hN60 with ⟨k, hk, ek, e1, -⟩ | ⟨e1, -⟩
        · have : n = k := (nI_eq (by omega) (by omega)).mp ek
          subst this
          exact e1 _ h.2.2.2.2.1.1
        · exact absurd rfl (e1 n h1)
      rw [e, h2, if_neg (by decide), if_neg (by decide), if_neg (by decide), if_neg (by decide), if_neg (by decide), if_neg (by decide), if_neg (by decide), if_neg (by decide), if_pos rfl, hat, gz_call_e]
      unfold f_X9_takeBackSaying
      have x9' : ∀ u : Int64, (gz_sj (gov gpx σx gx) 14 n 11 u).2.1 26 0 9 = a.2.2.2 := fun _ => p9
      have k9' : ∀ u : Int64, (gz_sj (gz_si σm 0 0 9 (nI L.length)) 22 0 n u).1 0 0 9 = nI L.length := fun _ => rfl
      have k4' : ∀ u : Int64, (gz_sj (gz_si σm 0 0 9 (nI L.length)) 22 0 n u).2.1 4 0 L.length = a.2.2.2 := fun _ => m4
      rw [gz_nl_some (show n < 61 by omega), x6, e, if_neg (by decide), if_neg (by decide), if_pos rfl, gz_w_e, gz_w_e, gz_then_e, gz_then_e, x9', x8, e]
      simp only [gz_ix_nI (show n < 61 by omega) (show 61 < 2 ^ 31 by decide), gz_w_e, k9', gz_ix_nI hl100 (show 100 < 2 ^ 31 by decide), k4']
      have hbf : gbef 5 a.2.2.1 = a.2.2.1 := rfl
      rw [hbf]
      generalize hu : a.2.2.1 = u at h3 ⊢
      generalize hw : a.2.2.2 = w at h3 ⊢
      obtain ⟨a0, a0', ⟨l, l1, l2, a1, a1'⟩, ⟨d, d1, a2, a2'⟩, a3, a3', a4, a4', a5, a5', a6, a7, a8, a9⟩ := h.2.2.2.2.2.1 n h1
      refine gQ_mk rfl rfl ⟨F, P, N, I, fo, la, L, h.1, h.2.1, h.2.2.1, h.2.2.2.1, h.2.2.2.2.1, ?_, h.2.2.2.2.2.2.1, h.2.2.2.2.2.2.2.1, h.2.2.2.2.2.2.2.2.1, hA', h.2.2.2.2.2.2.2.2.2.2.1, h4⟩
      refine rNA (σx' := gz_sj (gz_sj (gov gpx σx gx) 14 n 11 u) 14 n 12 w) (σm' := gz_sj (gz_sj (gz_si σm 0 0 9 (nI L.length)) 22 0 n u) 23 0 n w) (la' := la) n h.2.2.2.2.2.1 (fun j hj k => ⟨rfl, ?_⟩) (fun j hj => ⟨rfl, rfl, rfl, rfl, rfl, rfl, ?_, ?_, rfl⟩) (fun _ _ => rfl) (fun j hj => ⟨rfl, rfl⟩) (fun j hj _ => hj) (fun _ => ?_)
      · show (if 14 = 14 ∧ j = n ∧ k = 12 then _ else (if 14 = 14 ∧ j = n ∧ k = 11 then _ else σx.2.1 14 j k)) = _
        rw [if_neg (fun q => hj q.2.1), if_neg (fun q => hj q.2.1)]
      · show (if 22 = 22 ∧ 0 = 0 ∧ j = n then _ else σm.2.1 22 0 j) = _
        exact if_neg (fun q => hj q.2.2)
      · show (if 23 = 23 ∧ 0 = 0 ∧ j = n then _ else σm.2.1 23 0 j) = _
        exact if_neg (fun q => hj q.2.2)
      · have e11 : (gz_sj (gz_sj (gov gpx σx gx) 14 n 11 u) 14 n 12 w).2.1 14 n 11 = u := by
          show (if 14 = 14 ∧ n = n ∧ 11 = 12 then _ else (if 14 = 14 ∧ n = n ∧ 11 = 11 then _ else _)) = _
          simp
        have e12 : (gz_sj (gz_sj (gov gpx σx gx) 14 n 11 u) 14 n 12 w).2.1 14 n 12 = w := by
          show (if 14 = 14 ∧ n = n ∧ 12 = 12 then _ else _) = _
          simp
        have e13 : (gz_sj (gz_sj (gov gpx σx gx) 14 n 11 u) 14 n 12 w).2.1 14 n 13 = σx.2.1 14 n 13 := by
          show (if 14 = 14 ∧ n = n ∧ 13 = 12 then _ else (if 14 = 14 ∧ n = n ∧ 13 = 11 then _ else σx.2.1 14 n 13)) = _
          simp
        have e22 : (gz_sj (gz_sj (gz_si σm 0 0 9 (nI L.length)) 22 0 n u) 23 0 n w).2.1 22 0 n = u := by
          show (if 22 = 22 ∧ 0 = 0 ∧ n = n then _ else _) = _
          simp
        have e23 : (gz_sj (gz_sj (gz_si σm 0 0 9 (nI L.length)) 22 0 n u) 23 0 n w).2.1 23 0 n = w := by
          show (if 23 = 23 ∧ 0 = 0 ∧ n = n then _ else _) = _
          simp
        unfold rNoteA
        rw [e11, e12, e13, e22, e23]
        exact ⟨a0, a0', ⟨l, l1, l2, a1, a1'⟩, ⟨d, d1, a2, a2'⟩, a3, a3', a4, a4', a5, a5', rfl, rfl, h3, a9⟩
    · have hat : f_X1_at (nI n) (gov gpx σx gx) = some (some n, gov gpx σx gx) := by
        rcases g_note (nI n) hN60 with ⟨k, hk, ek, e1, -⟩ | ⟨e1, -⟩
        · have : n = k := (nI_eq (by omega) (by omega)).mp ek
          subst this
          exact e1 _ h.2.2.2.2.1.1
        · exact absurd rfl (e1 n h1)
      rw [e, h2, if_neg (by decide), if_neg (by decide), if_neg (by decide), if_neg (by decide), if_neg (by decide), if_neg (by decide), if_neg (by decide), if_neg (by decide), if_neg (by decide), hat, gz_call_e]
      unfold f_X9_takeBackSaying
      rw [gz_nl_some (show n < 61 by omega), x6, e, if_neg (by decide), if_neg (by decide), if_neg (by decide), if_pos rfl, gz_w_e, gz_then_e, gz_then_e, x8, e]
      simp only [gz_ix_nI (show n < 61 by omega) (show 61 < 2 ^ 31 by decide), gz_w_e]
      have hbf : gbef 6 a.2.2.1 = a.2.2.1 := rfl
      rw [hbf]
      generalize hu : a.2.2.1 = u at ⊢
      obtain ⟨a0, a0', ⟨l, l1, l2, a1, a1'⟩, ⟨d, d1, a2, a2'⟩, a3, a3', a4, a4', a5, a5', a6, a7, a8, a9⟩ := h.2.2.2.2.2.1 n h1
      refine gQ_mk rfl rfl ⟨F, P, N, I, fo, la, L, h.1, h.2.1, h.2.2.1, h.2.2.2.1, h.2.2.2.2.1, ?_, h.2.2.2.2.2.2.1, h.2.2.2.2.2.2.2.1, h.2.2.2.2.2.2.2.2.1, hA', h.2.2.2.2.2.2.2.2.2.2.1, h3⟩
      refine rNA (σx' := gz_sj (gov gpx σx gx) 14 n 13 u) (σm' := gz_sj (gz_si σm 0 0 9 (nI L.length)) 24 0 n u) (la' := la) n h.2.2.2.2.2.1 (fun j hj k => ⟨rfl, ?_⟩) (fun j hj => ⟨rfl, rfl, rfl, rfl, rfl, rfl, rfl, rfl, ?_⟩) (fun _ _ => rfl) (fun j hj => ⟨rfl, rfl⟩) (fun j hj _ => hj) (fun _ => ?_)
      · show (if 14 = 14 ∧ j = n ∧ k = 13 then _ else σx.2.1 14 j k) = _
        exact if_neg (fun q => hj q.2.1)
      · show (if 24 = 24 ∧ 0 = 0 ∧ j = n then _ else σm.2.1 24 0 j) = _
        exact if_neg (fun q => hj q.2.2)
      · have e11 : (gz_sj (gov gpx σx gx) 14 n 13 u).2.1 14 n 11 = σx.2.1 14 n 11 := by
          show (if 14 = 14 ∧ n = n ∧ 11 = 13 then _ else σx.2.1 14 n 11) = _
          simp
        have e12 : (gz_sj (gov gpx σx gx) 14 n 13 u).2.1 14 n 12 = σx.2.1 14 n 12 := by
          show (if 14 = 14 ∧ n = n ∧ 12 = 13 then _ else σx.2.1 14 n 12) = _
          simp
        have e13 : (gz_sj (gov gpx σx gx) 14 n 13 u).2.1 14 n 13 = u := by
          show (if 14 = 14 ∧ n = n ∧ 13 = 13 then _ else _) = _
          simp
        have e24 : (gz_sj (gz_si σm 0 0 9 (nI L.length)) 24 0 n u).2.1 24 0 n = u := by
          show (if 24 = 24 ∧ 0 = 0 ∧ n = n then _ else _) = _
          simp
        unfold rNoteA
        rw [e11, e12, e13, e24]
        exact ⟨a0, a0', ⟨l, l1, l2, a1, a1'⟩, ⟨d, d1, a2, a2'⟩, a3, a3', a4, a4', a5, a5', a6, a7, a8, rfl⟩
