/-! issues: the list, and all of it -/
theorem gs_cn_up {w : Nat → Bool} {n : Nat} : ∀ m, gs_cn w n 0 ≤ gs_cn w (n + m) 0 := by
  intro m
  induction m with
  | zero => exact Nat.le_refl _
  | succ m ih =>
    rw [show n + (m + 1) = (n + m) + 1 by omega, gs_cn_last]
    omega
def gli (I t i k : Nat) : Bool := ((Nat.beq t 20 && (Nat.beq k 2 || Nat.beq k 4)) || Nat.beq t 21) && decide (i = I)
theorem x_list {N I d c : Nat} {du : Nat → Nat} {gx : gz_S} (hN : N ≤ 60) (hd : d < 10000) (hc : c ≤ 12) (h1 : gx.1 10 0 1 = nI N) (hdu : ∀ n, n < N → du n < 10000 ∧ gx.1 14 n 2 = nI (du n)) (h0 : gx.1 20 I 0 = nI d) (h4 : gx.1 20 I 4 = 0) (h2 : gx.1 20 I 2 = 0) (hcn : gs_cn (fun n => decide (gx.1 14 n 3 = nI I)) N 0 = c) : ∃ g, f_X1_list (nI I) I gx = some g ∧ gfr (gli I) gx g ∧ g.1 20 I 4 = nI c ∧ g.1 20 I 2 = nI (gs_cn (fun n => decide (gx.1 14 n 3 = nI I) && decide (du n < d)) N 0) ∧ ∀ j, j < c → g.1 21 I j = gfl (fun n => decide (gx.1 14 n 3 = nI I)) N j := by
  have p20 : ∀ k, k = 2 ∨ k = 4 → gli I 20 I k = true := fun k hk => by
    unfold gli
    rcases hk with rfl | rfl <;> simp [gbq]
  have p21 : ∀ k, gli I 21 I k = true := fun k => by
    unfold gli
    simp [gbq]
  have key : gp (gz_l1 (f_X1_list_L2 (nI I) I) gz_fu 0 gx) (fun g => gfr (gli I) gx g ∧ g.1 20 I 4 = nI (gs_cn (fun n => decide (gx.1 14 n 3 = nI I)) N 0) ∧ g.1 20 I 2 = nI (gs_cn (fun n => decide (gx.1 14 n 3 = nI I) && decide (du n < d)) N 0) ∧ ∀ j, j < gs_cn (fun n => decide (gx.1 14 n 3 = nI I)) N 0 → g.1 21 I j = gfl (fun n => decide (gx.1 14 n 3 = nI I)) N j) := by
    refine gp_l1 (fun v g m => ∃ n, v = nI n ∧ n ≤ N ∧ m = N - n ∧ gfr (gli I) gx g ∧ g.1 20 I 4 = nI (gs_cn (fun n => decide (gx.1 14 n 3 = nI I)) n 0) ∧ g.1 20 I 2 = nI (gs_cn (fun n => decide (gx.1 14 n 3 = nI I) && decide (du n < d)) n 0) ∧ ∀ j, j < gs_cn (fun n => decide (gx.1 14 n 3 = nI I)) n 0 → g.1 21 I j = gfl (fun n => decide (gx.1 14 n 3 = nI I)) n j) ?_ gz_fu N 0 gx (by show N < 20000; omega) ⟨0, rfl, by omega, by omega, gfr.rf, h4, h2, fun j hj => absurd hj (Nat.not_lt_zero _)⟩
    rintro rec m v g ⟨n, rfl, hn, rfl, hf, g4, g2, gl⟩ ih
    unfold f_X1_list_L2
    rw [(hf 10 0 1 rfl).1, h1]
    by_cases he : n = N
    · subst he
      exact gp_pos (nI_le (Nat.le_refl _) (by omega)) ⟨_, rfl, hf, g4, g2, gl⟩
    · have hnN : n < N := by omega
      refine gp_neg (nI_ge hnN (by omega)) ?_
      rw [gz_ix_nI (show n < 61 by omega) (by decide), gz_j0_e, (hf 14 n 3 rfl).1]
      unfold f_X1_list_J37
      rw [nI_1]
      have ec := gs_cn_last (fun n => decide (gx.1 14 n 3 = nI I)) n 0
      have el := gs_cn_last (fun n => decide (gx.1 14 n 3 = nI I) && decide (du n < d)) n 0
      rw [Nat.zero_add] at ec el
      by_cases hP : gx.1 14 n 3 = nI I
      · refine gp_pos hP ?_
        have hPd : decide (gx.1 14 n 3 = nI I) = true := by simpa using hP
        simp only [hPd, if_true, Bool.true_and, decide_eq_true_eq] at ec el
        have hup := gs_cn_up (w := fun n => decide (gx.1 14 n 3 = nI I)) (n := n + 1) (N - (n + 1))
        rw [show n + 1 + (N - (n + 1)) = N by omega] at hup
        have hcnt : gs_cn (fun n => decide (gx.1 14 n 3 = nI I)) n 0 < 12 := by omega
        have egl : gfl (fun n => decide (gx.1 14 n 3 = nI I)) (n + 1) = (fun j => if j = gs_cn (fun n => decide (gx.1 14 n 3 = nI I)) n 0 then nI n else gfl (fun n => decide (gx.1 14 n 3 = nI I)) n j) := if_pos hPd
        rw [gz_ix_nI (show n < 61 by omega) (by decide), (hf 14 n 2 rfl).1, (hdu n hnN).2]
        unfold f_X5_addNotice
        rw [g4, if_neg (fun q => by have := (gn_ge 12 (a := gs_cn (fun n => decide (gx.1 14 n 3 = nI I)) n 0)).mp q; omega), gz_ix_nI hcnt (by decide), gz_w_e]
        have y4 : (gz_si g 21 I (gs_cn (fun n => decide (gx.1 14 n 3 = nI I)) n 0) (nI n)).1 20 I 4 = nI (gs_cn (fun n => decide (gx.1 14 n 3 = nI I)) n 0) := g4
        rw [y4, nI_1, gz_w_e]
        have y0 : (gz_si (gz_si g 21 I (gs_cn (fun n => decide (gx.1 14 n 3 = nI I)) n 0) (nI n)) 20 I 4 (nI (gs_cn (fun n => decide (gx.1 14 n 3 = nI I)) n 0 + 1))).1 20 I 0 = nI d := by
          rw [gz_si_1, if_neg (fun q => by have := q.2.2; omega)]
          exact ((hf 20 I 0 (by unfold gli; simp [gbq])).1).trans h0
        have y2 : (gz_si (gz_si g 21 I (gs_cn (fun n => decide (gx.1 14 n 3 = nI I)) n 0) (nI n)) 20 I 4 (nI (gs_cn (fun n => decide (gx.1 14 n 3 = nI I)) n 0 + 1))).1 20 I 2 = nI (gs_cn (fun n => decide (gx.1 14 n 3 = nI I) && decide (du n < d)) n 0) := by
          rw [gz_si_1, if_neg (fun q => by have := q.2.2; omega)]
          exact g2
        rw [y0, y2]
        have fin : ∀ v : Nat, v = (if du n < d then 1 else 0) → gp (gz_then (gz_w (gz_si (gz_si (gz_si g 21 I (gs_cn (fun n => decide (gx.1 14 n 3 = nI I)) n 0) (nI n)) 20 I 4 (nI (gs_cn (fun n => decide (gx.1 14 n 3 = nI I)) n 0 + 1))) 20 I 2 (nI (gs_cn (fun n => decide (gx.1 14 n 3 = nI I) && decide (du n < d)) n 0 + v))) (fun σ4 => some σ4)) (fun σ6 => rec (nI (n + 1)) σ6)) (fun g => gfr (gli I) gx g ∧ g.1 20 I 4 = nI (gs_cn (fun n => decide (gx.1 14 n 3 = nI I)) N 0) ∧ g.1 20 I 2 = nI (gs_cn (fun n => decide (gx.1 14 n 3 = nI I) && decide (du n < d)) N 0) ∧ ∀ j, j < gs_cn (fun n => decide (gx.1 14 n 3 = nI I)) N 0 → g.1 21 I j = gfl (fun n => decide (gx.1 14 n 3 = nI I)) N j) := by
          intro v hv
          rw [gz_w_e, gz_then_e]
          refine ih _ _ (N - (n + 1)) (by omega) ⟨n + 1, rfl, by omega, rfl, ((hf.si (p21 _)).si (p20 4 (Or.inr rfl))).si (p20 2 (Or.inl rfl)), ?_, ?_, ?_⟩
          · rw [gz_si_1, if_neg (fun q => by have := q.2.2; omega), gz_si_1, if_pos ⟨rfl, rfl, rfl⟩, ec]
          · rw [gz_si_1, if_pos ⟨rfl, rfl, rfl⟩, el, ← hv]
          · rw [ec, egl]
            intro j hj
            show (if 21 = 21 ∧ I = I ∧ j = gs_cn (fun n => decide (gx.1 14 n 3 = nI I)) n 0 then nI n else g.1 21 I j) = if j = gs_cn (fun n => decide (gx.1 14 n 3 = nI I)) n 0 then nI n else gfl (fun n => decide (gx.1 14 n 3 = nI I)) n j
            by_cases ej : j = gs_cn (fun n => decide (gx.1 14 n 3 = nI I)) n 0
            · rw [if_pos ⟨rfl, rfl, ej⟩, if_pos ej]
            · rw [if_neg (fun q => ej q.2.2), if_neg ej]
              exact gl j (by omega)
        have hdn := (hdu n hnN).1
        by_cases hdd : d ≤ du n
        · rw [if_pos (nI_le hdd (by omega)), nI_z]
          exact fin 0 (by rw [if_neg (by omega)])
        · rw [if_neg (nI_ge (by omega) (by omega)), nI_1]
          exact fin 1 (by rw [if_pos (by omega)])
      · have hPd : decide (gx.1 14 n 3 = nI I) = false := by simpa using hP
        simp only [hPd, Bool.false_eq_true, if_false, Bool.false_and, Nat.add_zero] at ec el
        have egl : gfl (fun n => decide (gx.1 14 n 3 = nI I)) (n + 1) = gfl (fun n => decide (gx.1 14 n 3 = nI I)) n := if_neg (show ¬ decide (gx.1 14 n 3 = nI I) = true by rw [hPd]; decide)
        refine gp_neg hP (ih _ _ (N - (n + 1)) (by omega) ⟨n + 1, rfl, by omega, rfl, hf, by rw [ec]; exact g4, by rw [el]; exact g2, by rw [ec, egl]; exact gl⟩)
  obtain ⟨g, e, k1, k2, k3, k4⟩ := key
  rw [hcn] at k2 k4
  exact ⟨g, e, k1, k2, k3, k4⟩
def glj (I t _ k : Nat) : Bool := Nat.beq t 34 && decide (k / 12 = I)
theorem m_listI {N I c : Nat} {gm : gz_S} {J : gz_S → Option (Int32 × gz_S)} (hN : N ≤ 60) (hI : I < 40) (hc : c ≤ 12) (h1 : gm.1 0 0 29 = nI N) (hcn : gs_cn (fun n => decide (gm.1 18 0 n = nI I)) N 0 = c) : ∃ g, gz_l2 (f_X11_issue_L432 (nI I) J) gz_fu 0 0 gm = J g ∧ gfr (glj I) gm g ∧ ∀ j, j < c → g.1 34 0 (12 * I + j) = gfl (fun n => decide (gm.1 18 0 n = nI I)) N j := by
  have key : ∀ r n g fuel, n + r = N → r < fuel → gfr (glj I) gm g → (∀ j, j < gs_cn (fun n => decide (gm.1 18 0 n = nI I)) n 0 → g.1 34 0 (12 * I + j) = gfl (fun n => decide (gm.1 18 0 n = nI I)) n j) → ∃ g', gz_l2 (f_X11_issue_L432 (nI I) J) fuel (nI (gs_cn (fun n => decide (gm.1 18 0 n = nI I)) n 0)) (nI n) g = J g' ∧ gfr (glj I) gm g' ∧ ∀ j, j < gs_cn (fun n => decide (gm.1 18 0 n = nI I)) N 0 → g'.1 34 0 (12 * I + j) = gfl (fun n => decide (gm.1 18 0 n = nI I)) N j := by
    intro r
    induction r with
    | zero =>
      intro n g fuel hr hf hg hl
      obtain ⟨fuel, rfl⟩ : ∃ q, fuel = q + 1 := ⟨fuel - 1, by omega⟩
      have : n = N := by omega
      subst this
      refine ⟨g, ?_, hg, hl⟩
      rw [gz_l2_s]
      unfold f_X11_issue_L432
      rw [(hg 0 0 29 rfl).1, h1, if_pos (nI_le (Nat.le_refl _) (by omega))]
    | succ r ih =>
      intro n g fuel hr hf hg hl
      obtain ⟨fuel, rfl⟩ : ∃ q, fuel = q + 1 := ⟨fuel - 1, by omega⟩
      have hn : n < N := by omega
      have ih' := fun g => ih (n + 1) g fuel (by omega) (by omega)
      rw [gz_l2_s]
      generalize gz_l2 (f_X11_issue_L432 (nI I) J) fuel = rc at ih' ⊢
      unfold f_X11_issue_L432
      rw [(hg 0 0 29 rfl).1, h1, if_neg (nI_ge hn (by omega)), gz_ix_nI (show n < 61 by omega) (by decide), gz_j1_e, (hg 18 0 n rfl).1]
      unfold f_X11_issue_J474
      rw [nI_1]
      have ec := gs_cn_last (fun n => decide (gm.1 18 0 n = nI I)) n 0
      rw [Nat.zero_add] at ec
      by_cases hP : gm.1 18 0 n = nI I
      · have hPd : decide (gm.1 18 0 n = nI I) = true := by simpa using hP
        simp only [hPd, if_true] at ec
        have hup := gs_cn_up (w := fun n => decide (gm.1 18 0 n = nI I)) (n := n + 1) (N - (n + 1))
        rw [show n + 1 + (N - (n + 1)) = N by omega] at hup
        have hcnt : gs_cn (fun n => decide (gm.1 18 0 n = nI I)) n 0 < 12 := by omega
        have egl : gfl (fun n => decide (gm.1 18 0 n = nI I)) (n + 1) = (fun j => if j = gs_cn (fun n => decide (gm.1 18 0 n = nI I)) n 0 then nI n else gfl (fun n => decide (gm.1 18 0 n = nI I)) n j) := if_pos hPd
        rw [if_pos hP, show (12 : Int32) * nI I + nI (gs_cn (fun n => decide (gm.1 18 0 n = nI I)) n 0) = nI (12 * I + gs_cn (fun n => decide (gm.1 18 0 n = nI I)) n 0) from by rw [show (12 : Int32) * nI I = nI (12 * I) from pk_mul 12 I, nI_add], gz_ix_nI (show 12 * I + gs_cn (fun n => decide (gm.1 18 0 n = nI I)) n 0 < 480 by omega) (by decide), gz_w_e, nI_1, ← ec]
        refine ih' _ (hg.si ?_) ?_
        · unfold glj
          have : (12 * I + gs_cn (fun n => decide (gm.1 18 0 n = nI I)) n 0) / 12 = I := by omega
          simp [gbq, this]
        · rw [ec, egl]
          intro j hj
          show (if 34 = 34 ∧ 0 = 0 ∧ 12 * I + j = 12 * I + gs_cn (fun n => decide (gm.1 18 0 n = nI I)) n 0 then nI n else g.1 34 0 (12 * I + j)) = if j = gs_cn (fun n => decide (gm.1 18 0 n = nI I)) n 0 then nI n else gfl (fun n => decide (gm.1 18 0 n = nI I)) n j
          by_cases ej : j = gs_cn (fun n => decide (gm.1 18 0 n = nI I)) n 0
          · rw [if_pos ⟨rfl, rfl, by omega⟩, if_pos ej]
          · rw [if_neg (fun q => ej (by omega)), if_neg ej]
            exact hl j (by omega)
      · have hPd : decide (gm.1 18 0 n = nI I) = false := by simpa using hP
        simp only [hPd, Bool.false_eq_true, if_false, Nat.add_zero] at ec
        have egl : gfl (fun n => decide (gm.1 18 0 n = nI I)) (n + 1) = gfl (fun n => decide (gm.1 18 0 n = nI I)) n := if_neg (show ¬ decide (gm.1 18 0 n = nI I) = true by rw [hPd]; decide)
        rw [if_neg hP, nI_1]
        have hq := ih' g hg (by rw [ec, egl]; exact hl)
        rw [ec] at hq
        exact hq
  obtain ⟨g, e1, e2, e3⟩ := key N 0 gm gz_fu (by omega) (by show N < 20000; omega) gfr.rf (fun j hj => absurd hj (Nat.not_lt_zero _))
  rw [hcn] at e3
  exact ⟨g, e1, e2, e3⟩
def gIX (I t i k : Nat) : Bool := (Nat.ble 22 t && Nat.ble t 25) || (Nat.beq t 14 && (Nat.beq k 3 || Nat.beq k 4)) || Nat.beq t 15 || ((Nat.beq t 20 || Nat.beq t 21) && decide (i = I)) || (Nat.beq t 0 && (Nat.beq k 6 || Nat.beq k 7 || Nat.beq k 10)) || Nat.beq t 26
def gIM (I t _ k : Nat) : Bool := (Nat.ble 35 t && Nat.ble t 37) || Nat.beq t 44 || Nat.beq t 18 || Nat.beq t 21 || Nat.beq t 25 || ((Nat.ble 29 t && Nat.ble t 33) && decide (k = I)) || (Nat.beq t 34 && decide (k / 12 = I)) || (Nat.beq t 0 && (Nat.beq k 55 || Nat.beq k 30 || Nat.beq k 31 || Nat.beq k 9 || Nat.beq k 1 || Nat.beq k 2))
theorem gIX_1 {I : Nat} : ∀ t i k, gIX I t i k = false → ghx t i k = false ∧ glx t i k = false ∧ gli I t i k = false := by
  intro t i k h
  unfold gIX at h
  unfold ghx glx gli
  simp only [gbq, gbl, Bool.or_eq_false_iff, Bool.and_eq_false_iff, decide_eq_false_iff_not] at h ⊢
  omega
theorem gIM_1 {I : Nat} : ∀ t i k, gIM I t i k = false → gmz t i k = false ∧ glm I t i k = false ∧ glj I t i k = false := by
  intro t i k h
  unfold gIM at h
  unfold gmz glm glj
  simp only [gbq, gbl, Bool.or_eq_false_iff, Bool.and_eq_false_iff, decide_eq_false_iff_not] at h ⊢
  omega
theorem g_issue_new {F P N I c d : Nat} {fo la : Nat → Nat} {L : List gA} {σx σm X M : gz_S} (h : rAll F P N I fo la L σx σm) (hI : I < 40) (hc : c ≤ 12) (hd : d < 10000) (FX : gfr (gIX I) σx X) (FM : gfr (gIM I) σm M)
    (hpr : ∀ n, n < N → X.1 14 n 3 = M.1 18 0 n ∧ ((M.1 18 0 n = nI I ∧ X.1 14 n 4 = nI d) ∨ (M.1 18 0 n = σm.1 18 0 n ∧ X.1 14 n 4 = σx.1 14 n 4))) (hV : ∀ n, n < N → rNoteV n fo (X.2.1 15) (M.1 8 0) (M.1 9 0) (M.2.1 21 0) (M.1 25 0))
    (i0 : X.1 20 I 0 = nI d) (i0' : M.1 29 0 I = nI d) (i1 : X.1 20 I 1 = M.1 31 0 I) (i2 : X.1 20 I 2 = M.1 32 0 I) (i3 : X.1 20 I 3 = M.1 33 0 I) (i4 : X.1 20 I 4 = nI c) (i4' : M.1 30 0 I = nI c) (il : ∀ j, j < c → X.1 21 I j = M.1 34 0 (12 * I + j))
    (z6 : X.1 0 0 6 = nI (I + 1)) (z30 : M.1 0 0 30 = nI (I + 1)) (z7 : X.1 0 0 7 = nI d) (z31 : M.1 0 0 31 = nI d) (z10 : X.1 0 0 10 = 0) (z1 : M.1 0 0 1 = 0) (z2 : M.1 0 0 2 = -1) (zq : X.1 26 0 4 = 0) (zs : X.1 26 0 5 = 0) (z9 : M.1 0 0 9 = 0) : rAll F P N (I + 1) fo la [] X M := by
  have hB := h.2.2.2.2.2.2.2.2.2.2.2.B
  have ex := gov_eq FX
  have em := gov_eq FM
  have pX : ∀ i, i ≠ I → ∀ t, t = 20 ∨ t = 21 → ∀ k, gIX I t i k = false := by
    intro i hi t ht k
    unfold gIX
    rcases ht with rfl | rfl <;> simp [gbq, gbl, hi]
  have pM : ∀ i, i ≠ I → ∀ t, 29 ≤ t ∧ t ≤ 33 → gIM I t 0 i = false := by
    intro i hi t ht
    unfold gIM
    have a1 : ¬ t = 44 := by omega
    have a2 : ¬ t = 18 := by omega
    have a3 : ¬ t = 21 := by omega
    have a4 : ¬ t = 25 := by omega
    have a5 : ¬ t = 34 := by omega
    have a6 : ¬ t = 0 := by omega
    have a7 : ¬ 35 ≤ t := by omega
    simp [gbq, gbl, hi, a1, a2, a3, a4, a5, a6, a7]
  refine ⟨?_, ⟨?_, ?_, ?_, ?_⟩, ?_, ?_, ?_, fun n hn => ?_, ?_, hV, ⟨by omega, z6, z30, z7.trans z31.symm, fun i hi => ?_⟩, ⟨by simp, by rw [zs]; rfl, by rw [z9]; rfl, 0, by omega, by rw [zq]; rfl, fun k a hk => by simp at hk⟩, ?_, hB⟩
  · rw [ex, em]
    exact h.1
  · rw [z10, z1]
  · rw [(FX 3 0 8 rfl).1, (FM 0 0 3 rfl).1]
    exact h.2.1.2.1
  · rw [z2, z1]
    rfl
  · rw [(FM 0 0 4 rfl).1, (FM 0 0 3 rfl).1, (FX 3 0 10 rfl).1]
    exact h.2.1.2.2.2
  · rw [ex, em]
    exact h.2.2.1
  · rw [ex, em]
    exact h.2.2.2.1
  · rw [ex, em]
    exact h.2.2.2.2.1
  · obtain ⟨a0, a0', a1, a2, a3, a3', a4, a4', a5, a5', a6, a7, a8, a9⟩ := h.2.2.2.2.2.1 n hn
    obtain ⟨q3, q4⟩ := hpr n hn
    unfold rNoteA
    rw [(FX 14 n 0 rfl).1, (FX 14 n 1 rfl).1, (FX 14 n 2 rfl).1, (FX 14 n 6 rfl).1, (FX 14 n 10 rfl).1, (FX 14 n 11 rfl).2, (FX 14 n 12 rfl).2, (FX 14 n 13 rfl).2, (FM 15 0 n rfl).1, (FM 16 0 n rfl).1, (FM 17 0 n rfl).1, (FM 19 0 n rfl).1, (FM 20 0 n rfl).1, (FM 22 0 n rfl).2, (FM 23 0 n rfl).2, (FM 24 0 n rfl).2]
    refine ⟨a0, a0', a1, a2, q3, ?_, a4, a4', a5, a5', a6, a7, a8, a9⟩
    rcases q4 with ⟨b1, b2⟩ | ⟨b1, b2⟩
    · exact Or.inr ⟨I, by omega, b1, b2.trans i0'.symm⟩
    · rw [b1, b2]
      rcases a3' with e | ⟨i, e1, e2, e3⟩
      · exact Or.inl e
      · exact Or.inr ⟨i, by omega, e2, by rw [(FM 29 0 i (pM i (by omega) 29 (by omega))).1]; exact e3⟩
  · rw [ex, em]
    exact h.2.2.2.2.2.2.1
  · by_cases e : i = I
    · subst e
      exact ⟨i0.trans i0'.symm, i1, i2, i3, ⟨d, hd, i0'⟩, c, hc, i4, i4', il⟩
    · obtain ⟨b0, b1, b2, b3, b4, cc, b5, b6, b7, b8⟩ := h.2.2.2.2.2.2.2.2.1.2.2.2.2 i (by omega)
      unfold rIssue
      rw [(FX 20 i 0 (pX i e 20 (Or.inl rfl) 0)).1, (FX 20 i 1 (pX i e 20 (Or.inl rfl) 1)).1, (FX 20 i 2 (pX i e 20 (Or.inl rfl) 2)).1, (FX 20 i 3 (pX i e 20 (Or.inl rfl) 3)).1, (FX 20 i 4 (pX i e 20 (Or.inl rfl) 4)).1, (FM 29 0 i (pM i e 29 (by omega))).1, (FM 30 0 i (pM i e 30 (by omega))).1, (FM 31 0 i (pM i e 31 (by omega))).1, (FM 32 0 i (pM i e 32 (by omega))).1, (FM 33 0 i (pM i e 33 (by omega))).1]
      refine ⟨b0, b1, b2, b3, b4, cc, b5, b6, b7, fun j hj => ?_⟩
      rw [(FX 21 i j (pX i e 21 (Or.inr rfl) j)).1, (FM 34 0 (12 * i + j) (by
        unfold gIM
        have : ¬ (12 * i + j) / 12 = I := by omega
        simp [gbq, gbl, this])).1]
      exact b8 j hj
  · rw [ex, em]
    exact h.2.2.2.2.2.2.2.2.2.2.1
