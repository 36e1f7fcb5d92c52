/-! issues: printed -/
def glx (t _ k : Nat) : Bool := (Nat.beq t 14 && (Nat.beq k 3 || Nat.beq k 4)) || Nat.beq t 15
def glm (I t _ k : Nat) : Bool := Nat.beq t 18 || Nat.beq t 21 || Nat.beq t 25 || (Nat.beq t 32 && decide (k = I))
theorem gprx_l {n : Nat} : ∀ t i k, glx t i k = false → gprx n t i k = false := by
  intro t i k h
  unfold glx at h
  unfold gprx
  simp only [gbq, gbl, Bool.or_eq_false_iff, Bool.and_eq_false_iff, decide_eq_false_iff_not] at h ⊢
  omega
theorem gprm_l {n I : Nat} : ∀ t i k, glm I t i k = false → gprm n t i k = false := by
  intro t i k h
  unfold glm at h
  unfold gprm
  simp only [gbq, gbl, Bool.or_eq_false_iff, Bool.and_eq_false_iff, decide_eq_false_iff_not] at h ⊢
  omega
theorem rV_sp {N n : Nat} {fo : Nat → Nat} {gx gm gx1 gm1 : gz_S} (h : ∀ j, j < N → rNoteV j fo (gx.2.1 15) (gm.1 8 0) (gm.1 9 0) (gm.2.1 21 0) (gm.1 25 0)) (fx : gfr (gprx n) gx gx1) (fm : gfr (gprm n) gm gm1) (hn : rNoteV n fo (gx1.2.1 15) (gm.1 8 0) (gm.1 9 0) (gm1.2.1 21 0) (gm1.1 25 0)) : ∀ j, j < N → rNoteV j fo (gx1.2.1 15) (gm1.1 8 0) (gm1.1 9 0) (gm1.2.1 21 0) (gm1.1 25 0) := by
  intro j hj
  have e8 : gm1.1 8 0 = gm.1 8 0 := funext fun a => (fm 8 0 a rfl).1
  have e9 : gm1.1 9 0 = gm.1 9 0 := funext fun a => (fm 9 0 a rfl).1
  rw [e8, e9]
  by_cases e : j = n
  · subst e
    exact hn
  · refine (h j hj).cg rfl (fun k hk => (fx 15 j k ?_).2) (fun k hk => (fm 21 0 _ ?_).2) (fun k hk => (fm 25 0 _ ?_).1)
    · unfold gprx
      simp [e]
    · unfold gprm
      have : ¬ (8 * j + k) / 8 = n := by omega
      simp [this]
    · unfold gprm
      have : ¬ (8 * j + k) / 8 = n := by omega
      simp [this]
def gPr (N I d k : Nat) (fo du pk : Nat → Nat) (σx σm gx gm : gz_S) : Prop :=
  gfr glx σx gx ∧ gfr (glm I) σm gm ∧ (∀ n, n < N → rNoteV n fo (gx.2.1 15) (gm.1 8 0) (gm.1 9 0) (gm.2.1 21 0) (gm.1 25 0)) ∧ (∀ n, n < N → ((∃ j, j < k ∧ pk j = n) ∧ gx.1 14 n 3 = nI I ∧ gx.1 14 n 4 = nI d ∧ gm.1 18 0 n = nI I) ∨ ((∀ j, j < k → pk j ≠ n) ∧ gx.1 14 n 3 = σx.1 14 n 3 ∧ gx.1 14 n 4 = σx.1 14 n 4 ∧ gm.1 18 0 n = σm.1 18 0 n)) ∧ gs_cn (fun n => decide (gm.1 18 0 n = nI I)) N 0 = k ∧ gm.1 32 0 I = nI (gs_cn (fun n => decide (gm.1 18 0 n = nI I) && decide (du n < d)) N 0)
theorem g_print {P N I c d : Nat} {fo du pk : Nat → Nat} {σx σm : gz_S} {jx : gz_S → Option gz_S} {jm : gz_S → Option (Int32 × gz_S)} (hP : P ≤ 12) (hN : N ≤ 60) (hI : I < 40) (hc : c ≤ 12) (hd : d < 10000)
    (hcal : ∀ e, e < 10000 → gb (σx.2.1 2 0) e = σm.1 5 0 e) (hform : ∀ f, f < P → rForm (σx.1 6) (σx.1 8) (σx.2.1 8) (σx.2.1 9) (σm.1 8 0) (σm.1 9 0) (σm.1 10 0) (σm.1 11 0) (σm.1 12 0) (σm.2.1 13 0) (σm.2.1 14 0) f) (hfo : ∀ n, n < N → fo n < P ∧ σx.1 14 n 0 = nI (fo n) ∧ σm.1 15 0 n = nI (fo n))
    (x1 : σx.1 10 0 1 = nI N) (x3 : σx.1 0 0 3 = nI P) (x6 : σx.1 0 0 6 = nI I) (x22 : σx.1 22 0 3 = nI c) (x24 : ∀ k, k < c → σx.1 24 0 k = nI (pk k)) (m55 : σm.1 0 0 55 = nI c) (m35 : ∀ k, k < c → σm.1 35 0 k = nI (pk k)) (hdu : ∀ n, n < N → du n < 10000 ∧ σm.1 17 0 n = nI (du n)) (hpk : ∀ k, k < c → pk k < N ∧ σm.1 18 0 (pk k) = -1) (hds : ∀ i j, i < j → j < c → pk i ≠ pk j) : ∀ r k gx gm fx fm, k + r = c → r < fx → r < fm → gPr N I d k fo du pk σx σm gx gm → ∃ gx' gm', gPr N I d c fo du pk σx σm gx' gm' ∧ gz_l1 (f_X9_print_L24 (nI d) jx) fx (nI k) gx = jx gx' ∧ gz_l1 (f_X11_issue_L361 (nI I) (nI d) jm) fm (nI k) gm = jm gm' := by
  intro r
  induction r with
  | zero =>
    intro k gx gm fx fm hr hfx hfm hp
    obtain ⟨fx, rfl⟩ : ∃ q, fx = q + 1 := ⟨fx - 1, by omega⟩
    obtain ⟨fm, rfl⟩ : ∃ q, fm = q + 1 := ⟨fm - 1, by omega⟩
    have : k = c := by omega
    subst this
    refine ⟨gx, gm, hp, ?_, ?_⟩
    · rw [gz_l1_s]
      unfold f_X9_print_L24
      rw [(hp.1 22 0 3 rfl).1, x22, if_pos (nI_le (Nat.le_refl _) (by omega))]
    · rw [gz_l1_s]
      unfold f_X11_issue_L361
      rw [(hp.2.1 0 0 55 rfl).1, m55, if_pos (nI_le (Nat.le_refl _) (by omega))]
  | succ r ih =>
    intro k gx gm fx fm hr hfx hfm hp
    obtain ⟨fx, rfl⟩ : ∃ q, fx = q + 1 := ⟨fx - 1, by omega⟩
    obtain ⟨fm, rfl⟩ : ∃ q, fm = q + 1 := ⟨fm - 1, by omega⟩
    have hk : k < c := by omega
    have ih' := fun gx gm => ih (k + 1) gx gm fx fm (by omega) (by omega) (by omega)
    obtain ⟨hx, hm, hV, hpr, hcn, hlt⟩ := hp
    obtain ⟨hn, hw18⟩ := hpk k hk
    obtain ⟨hf, hf1, hf2⟩ := hfo (pk k) hn
    obtain ⟨hd1, hd2⟩ := hdu (pk k) hn
    have hnot : ∀ j, j < k → pk j ≠ pk k := fun j hj => hds j k hj hk
    obtain ⟨-, p3, p4, p18⟩ : (∀ j, j < k → pk j ≠ pk k) ∧ gx.1 14 (pk k) 3 = σx.1 14 (pk k) 3 ∧ gx.1 14 (pk k) 4 = σx.1 14 (pk k) 4 ∧ gm.1 18 0 (pk k) = σm.1 18 0 (pk k) := by
      rcases hpr (pk k) hn with ⟨⟨j, j1, j2⟩, -⟩ | q
      · exact absurd j2 (hnot j j1)
      · exact q
    rw [hw18] at p18
    rw [gz_l1_s, gz_l1_s]
    generalize gz_l1 (f_X9_print_L24 (nI d) jx) fx = rx at ih' ⊢
    generalize gz_l1 (f_X11_issue_L361 (nI I) (nI d) jm) fm = rm at ih' ⊢
    unfold f_X9_print_L24 f_X11_issue_L361
    rw [(hx 22 0 3 rfl).1, x22, if_neg (nI_ge hk (by omega)), gz_ix_nI (show k < 12 by omega) (by decide), (hx 24 0 k rfl).1, x24 k hk, (hm 0 0 55 rfl).1, m55, if_neg (nI_ge hk (by omega)), gz_ix_nI (show k < 12 by omega) (by decide), (hm 35 0 k rfl).1, m35 k hk, gz_v_e]
    have hat : f_X1_at (nI (pk k)) gx = some (some (pk k), gx) := by
      rcases g_note (nI (pk k)) hN with ⟨j, hj, ej, e1, -⟩ | ⟨e1, -⟩
      · have : pk k = j := (nI_eq (by omega) (by omega)).mp ej
        rw [← this] at e1
        exact e1 gx (((hx 10 0 1 rfl).1).trans x1)
      · exact absurd rfl (e1 (pk k) hn)
    have hfa : f_X9_formAt (nI (fo (pk k))) gx = some (some (fo (pk k)), gx) := by
      rcases g_form (nI (fo (pk k))) hP with ⟨j, hj, ej, e1, -⟩ | ⟨e1, e2⟩
      · have : fo (pk k) = j := (nI_eq (by omega) (by omega)).mp ej
        rw [← this] at e1
        exact e1 gx (((hx 0 0 3 rfl).1).trans x3)
      · exfalso
        have := e1 gx (((hx 0 0 3 rfl).1).trans x3)
        unfold f_X9_formAt at this
        rw [if_neg (nI_pos (by omega)), ((hx 0 0 3 rfl).1).trans x3, if_pos (nI_lt hf (by omega)), gz_ix_nI (show fo (pk k) < 13 by omega) (by decide)] at this
        cases this
    rw [hat, gz_call_e, gz_j1_e, gz_nl_some (show pk k < 61 by omega), (hx 14 (pk k) 0 rfl).1, hf1, hfa, gz_call_e]
    unfold f_X9_print_J71
    rw [gz_j0_e, gz_nl_some (show fo (pk k) < 13 by omega), gz_nl_some (show pk k < 61 by omega)]
    have y6 : gx.1 6 = σx.1 6 := funext fun i => funext fun j => (hx 6 i j rfl).1
    have y8 : gx.1 8 = σx.1 8 := funext fun i => funext fun j => (hx 8 i j rfl).1
    have y82 : gx.2.1 8 = σx.2.1 8 := funext fun i => funext fun j => (hx 8 i j rfl).2
    have y92 : gx.2.1 9 = σx.2.1 9 := funext fun i => funext fun j => (hx 9 i j rfl).2
    have z8 : gm.1 8 0 = σm.1 8 0 := funext fun j => (hm 8 0 j rfl).1
    have z9 : gm.1 9 0 = σm.1 9 0 := funext fun j => (hm 9 0 j rfl).1
    have z10 : gm.1 10 0 = σm.1 10 0 := funext fun j => (hm 10 0 j rfl).1
    have z11 : gm.1 11 0 = σm.1 11 0 := funext fun j => (hm 11 0 j rfl).1
    have z12 : gm.1 12 0 = σm.1 12 0 := funext fun j => (hm 12 0 j rfl).1
    have z13 : gm.2.1 13 0 = σm.2.1 13 0 := funext fun j => (hm 13 0 j rfl).2
    have z14 : gm.2.1 14 0 = σm.2.1 14 0 := funext fun j => (hm 14 0 j rfl).2
    have hform1 : rForm (gx.1 6) (gx.1 8) (gx.2.1 8) (gx.2.1 9) (gm.1 8 0) (gm.1 9 0) (gm.1 10 0) (gm.1 11 0) (gm.1 12 0) (gm.2.1 13 0) (gm.2.1 14 0) (fo (pk k)) := by
      rw [y6, y8, y82, y92, z8, z9, z10, z11, z12, z13, z14]
      exact hform _ hf
    obtain ⟨gx1, gm1, e1, e2, f1, f2, hv1⟩ := g_spans0 (n := pk k) (fo := fo) (σx := gx) (σm := gm) (by omega) (by omega) hform1 (hV _ hn) (fun e he => by
      have q2 : gx.2.1 2 0 = σx.2.1 2 0 := funext fun j => (hx 2 0 j rfl).2
      rw [q2, (hm 5 0 e rfl).1]
      exact hcal e he) (((hm 15 0 _ rfl).1).trans hf2)
    have hV1 := rV_sp hV f1 f2 hv1
    rw [e1, gz_then_e, e2, gz_then_e]
    unfold f_X6_print
    rw [gz_w_e, gz_w_e, gz_then_e, gz_ix_nI (show pk k < 61 by omega) (by decide), gz_w_e, gz_ix_nI hI (by decide), gz_ix_nI (show pk k < 61 by omega) (by decide), gz_j3_e]
    have w6 : gx1.1 0 0 6 = nI I := ((f1 0 0 6 rfl).1).trans (((hx 0 0 6 rfl).1).trans x6)
    have w17 : (gz_si gm1 18 0 (pk k) (nI I)).1 17 0 (pk k) = nI (du (pk k)) := ((f2 17 0 _ rfl).1).trans (((hm 17 0 _ rfl).1).trans hd2)
    have w32 : (gz_si gm1 18 0 (pk k) (nI I)).1 32 0 I = nI (gs_cn (fun n => decide (gm.1 18 0 n = nI I) && decide (du n < d)) N 0) := ((f2 32 0 I rfl).1).trans hlt
    rw [w6, w17, w32]
    unfold f_X9_print_J102 f_X11_issue_J418
    simp only [gz_ix_nI hI (show 40 < 2 ^ 31 by decide), gz_w_e, nI_1]
    have hne1 : ¬ (-1 : Int32) = nI I := fun q => gn_ne1 (show I < 2 ^ 31 by omega) q.symm
    have e18 : ∀ j, gm1.1 18 0 j = gm.1 18 0 j := fun j => (f2 18 0 j rfl).1
    -- the new states
    have main : ∀ v : Nat, v = (if du (pk k) < d then 1 else 0) → ∃ gx' gm', gPr N I d c fo du pk σx σm gx' gm' ∧ rx (nI (k + 1)) (gz_si (gz_si gx1 14 (pk k) 3 (nI I)) 14 (pk k) 4 (nI d)) = jx gx' ∧ rm (nI (k + 1)) (gz_si (gz_si gm1 18 0 (pk k) (nI I)) 32 0 I (nI (gs_cn (fun n => decide (gm.1 18 0 n = nI I) && decide (du n < d)) N 0) + nI v)) = jm gm' := by
      intro v hv
      have c18 : ∀ j, (gz_si (gz_si gm1 18 0 (pk k) (nI I)) 32 0 I (nI (gs_cn (fun n => decide (gm.1 18 0 n = nI I) && decide (du n < d)) N 0) + nI v)).1 18 0 j = if j = pk k then nI I else gm.1 18 0 j := fun j => by
        show (if 18 = 18 ∧ 0 = 0 ∧ j = pk k then nI I else gm1.1 18 0 j) = _
        rw [e18]
        by_cases e : j = pk k
        · rw [if_pos ⟨rfl, rfl, e⟩, if_pos e]
        · rw [if_neg (fun q => e q.2.2), if_neg e]
      refine ih' _ _ ⟨?_, ?_, hV1, fun n hn' => ?_, ?_, ?_⟩
      · exact ((hx.tr (f1.w gprx_l)).si rfl).si rfl
      · refine ((hm.tr (f2.w gprm_l)).si rfl).si ?_
        unfold glm
        simp [gbq]
      · have c3 : (gz_si (gz_si gx1 14 (pk k) 3 (nI I)) 14 (pk k) 4 (nI d)).1 14 n 3 = if n = pk k then nI I else gx.1 14 n 3 := by
          rw [gz_si_1, if_neg (fun q => by have := q.2.2; omega), gz_si_1, (f1 14 n 3 rfl).1]
          by_cases e : n = pk k
          · rw [if_pos ⟨rfl, e, rfl⟩, if_pos e]
          · rw [if_neg (fun q => e q.2.1), if_neg e]
        have c4 : (gz_si (gz_si gx1 14 (pk k) 3 (nI I)) 14 (pk k) 4 (nI d)).1 14 n 4 = if n = pk k then nI d else gx.1 14 n 4 := by
          rw [gz_si_1, gz_si_1, (f1 14 n 4 rfl).1]
          by_cases e : n = pk k
          · rw [if_pos ⟨rfl, e, rfl⟩, if_pos e]
          · rw [if_neg (fun q => e q.2.1), if_neg e, if_neg (fun q => e q.2.1)]
        rw [c3, c4, c18]
        by_cases e : n = pk k
        · rw [if_pos e, if_pos e, if_pos e]
          exact Or.inl ⟨⟨k, by omega, e.symm⟩, rfl, rfl, rfl⟩
        · rw [if_neg e, if_neg e, if_neg e]
          rcases hpr n hn' with ⟨⟨j, j1, j2⟩, q⟩ | ⟨q1, q2⟩
          · exact Or.inl ⟨⟨j, by omega, j2⟩, q⟩
          · refine Or.inr ⟨fun j hj => ?_, q2⟩
            by_cases ej : j = k
            · subst ej
              exact fun z => e z.symm
            · exact q1 j (by omega)
      · have hs := (gs_cn_set (w := fun n => decide (gm.1 18 0 n = nI I)) (w' := fun n => decide ((gz_si (gz_si gm1 18 0 (pk k) (nI I)) 32 0 I (nI (gs_cn (fun n => decide (gm.1 18 0 n = nI I) && decide (du n < d)) N 0) + nI v)).1 18 0 n = nI I)) (d := pk k) (fun j hj => by rw [c18, if_neg hj]) N 0).1 (by omega) (by omega)
        have a1 : decide ((gz_si (gz_si gm1 18 0 (pk k) (nI I)) 32 0 I (nI (gs_cn (fun n => decide (gm.1 18 0 n = nI I) && decide (du n < d)) N 0) + nI v)).1 18 0 (pk k) = nI I) = true := by
          rw [c18, if_pos rfl]
          simp
        have a2 : decide (gm.1 18 0 (pk k) = nI I) = false := by
          rw [p18]
          simpa using hne1
        rw [a1, a2] at hs
        simp only [if_true, Bool.false_eq_true, if_false] at hs
        omega
      · rw [gz_si_1, if_pos ⟨rfl, rfl, rfl⟩, nI_add]
        congr 1
        have hs := (gs_cn_set (w := fun n => decide (gm.1 18 0 n = nI I) && decide (du n < d)) (w' := fun n => decide ((gz_si (gz_si gm1 18 0 (pk k) (nI I)) 32 0 I (nI (gs_cn (fun n => decide (gm.1 18 0 n = nI I) && decide (du n < d)) N 0) + nI v)).1 18 0 n = nI I) && decide (du n < d)) (d := pk k) (fun j hj => by rw [c18, if_neg hj]) N 0).1 (by omega) (by omega)
        have a1 : (decide ((gz_si (gz_si gm1 18 0 (pk k) (nI I)) 32 0 I (nI (gs_cn (fun n => decide (gm.1 18 0 n = nI I) && decide (du n < d)) N 0) + nI v)).1 18 0 (pk k) = nI I) && decide (du (pk k) < d)) = decide (du (pk k) < d) := by
          rw [c18, if_pos rfl]
          simp
        have a2 : (decide (gm.1 18 0 (pk k) = nI I) && decide (du (pk k) < d)) = false := by
          rw [p18]
          simp [hne1]
        rw [a1, a2] at hs
        simp only [Bool.false_eq_true, if_false, decide_eq_true_eq] at hs
        rw [← hv, Nat.add_zero] at hs
        exact hs.symm
    by_cases hdd : d ≤ du (pk k)
    · rw [if_pos (nI_le hdd (by omega))]
      exact main 0 (by rw [if_neg (by omega)])
    · rw [if_neg (nI_ge (by omega) (by omega))]
      have hm1 := main 1 (by rw [if_pos (by omega)])
      rw [nI_add] at hm1
      exact hm1
