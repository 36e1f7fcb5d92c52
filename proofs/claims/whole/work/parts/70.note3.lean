/-! notices: the whole of one -/
theorem g_whole {e f s N : Nat} {b : Nat → Nat} {gx gm : gz_S} (hf : f < 13) (hN : N < 61) (hF : gFs e b gx gm) (hp : gPv f s gx gm) (hV : gVv N f gx gm) : gPP (gnx N) (gnm N) (fun gx' gm' => gx'.1 3 0 8 = 0 ∧ gm'.1 0 0 4 = -1 ∧ gVv N f gx' gm') gx gm (f_X4_isWhole f N gx) (gz_l1 (f_X11_readNotice_L212 (nI f) (nI N) f_X11_readNotice_J272) gz_fu 0 gm) := by
  have hs8 := hp.1
  have hX := gs_sc (F := f_X4_isWhole_L2 f N) (fun k => decide (gm.1 25 0 (8 * N + k) = 0) && (decide (gm.1 12 0 (8 * f + k) = 0) && decide (gm.1 9 0 (8 * f + k) < 4))) s (fun d => if d < s then some (0, gfa (gz_si gx 3 0 10 (nI d)) 6) else some (1, gx)) gx (fun rec k hk => ?_) (fun rec => ?_) gz_fu 0 (by omega) (by show s - 0 < 20000; omega)
  · have hM := gs_sc (F := f_X11_readNotice_L212 (nI f) (nI N) f_X11_readNotice_J272) (fun k => decide (gm.1 25 0 (8 * N + k) = 0) && (decide (gm.1 12 0 (8 * f + k) = 0) && decide (gm.1 9 0 (8 * f + k) < 4))) s (fun d => if d < s then some (none, gst (gz_si gm 0 0 4 (nI d)) 6) else some (some (), gm)) gm (fun rec k hk => ?_) (fun rec => ?_) gz_fu 0 (by omega) (by show s - 0 < 20000; omega)
    · rw [show gz_l1 (f_X11_readNotice_L212 (nI f) (nI N) f_X11_readNotice_J272) gz_fu 0 gm = _ from hM, show f_X4_isWhole f N gx = _ from hX]
      generalize gs_ff (fun k => decide (gm.1 25 0 (8 * N + k) = 0) && (decide (gm.1 12 0 (8 * f + k) = 0) && decide (gm.1 9 0 (8 * f + k) < 4))) s 0 = d
      by_cases hd : d < s
      · simp only [if_pos hd]
        refine ⟨_, _, (gfr.rf.si rfl).tr (gfa_fr rfl rfl), (gfr.rf.si rfl).tr (gst_fr rfl rfl), Or.inr ⟨rfl, rfl, rfl, ?_, Or.inr ⟨rfl, rfl⟩⟩⟩
        obtain ⟨q, -, q1, q2⟩ := hF.2.2.1.1
        show gx.1 3 0 5 = gm.1 0 0 18
        rw [q1, q2]
      · simp only [if_neg hd]
        exact ⟨gx, gm, gfr.rf, gfr.rf, Or.inl ⟨rfl, rfl, hF.2.2.2.2, hF.2.2.2.1, hV⟩⟩
    · unfold f_X11_readNotice_L212
      obtain ⟨-, kd, hkd, c1, c2⟩ := hp.kd hk
      rw [gz_ix_nI hf (by decide), hp.2.2.1, if_neg (nI_ge hk (by omega)), gn_8, gz_ix_nI (show 8 * N + k < 488 by omega) (by decide), gz_j0_e, gn_8, gz_ix_nI (show 8 * f + k < 104 by omega) (by decide), gz_ix_nI (show 8 * f + k < 104 by omega) (by decide)]
      unfold f_X11_readNotice_J289
      rw [nI_1, if_pos hk]
      by_cases h1 : gm.1 25 0 (8 * N + k) = 0
      · rw [if_pos h1]
        by_cases h2 : gm.1 12 0 (8 * f + k) = 0
        · rw [if_pos h2]
          by_cases h3 : gm.1 9 0 (8 * f + k) < 4
          · rw [if_pos h3, if_pos (by simp [h1, h2, h3])]
            rfl
          · rw [if_neg h3, if_neg (by simp [h3])]
        · rw [if_neg h2, if_neg (by simp [h2])]
      · rw [if_neg h1, if_neg (by simp [h1])]
    · unfold f_X11_readNotice_L212
      rw [gz_ix_nI hf (by decide), hp.2.2.1, if_pos (nI_le (Nat.le_refl _) (by omega)), if_neg (Nat.lt_irrefl _)]
  · unfold f_X4_isWhole_L2
    obtain ⟨q0, q1, q2, q3, q4, kd, q5, q6, q7, q8, q9⟩ := hp.2.2.2 k hk
    rw [hp.2.1, if_neg (nI_ge hk (by omega)), gz_ix_nI (show k < 8 by omega) (by decide), gz_j0_e, gz_ix_nI (show k < 8 by omega) (by decide), gz_ix_nI (show k < 8 by omega) (by decide), x_isSpan q5 (q1.trans q6), gz_call_e, gz_w_e, x_fail, gz_call_e, q2]
    unfold f_X4_isWhole_J56
    rw [nI_1, if_pos hk]
    have hlt : gm.1 9 0 (8 * f + k) < 4 ↔ ¬ 4 ≤ kd := by
      rw [q6, gn_lt 4]
      omega
    rcases hV k (by omega) with ⟨d1, d2⟩ | ⟨d1, d2, d3, -⟩
    · rw [d2, if_pos (by decide)]
      by_cases h2 : gm.1 12 0 (8 * f + k) = 0
      · rw [if_pos h2]
        by_cases h4 : 4 ≤ kd
        · rw [if_pos h4, if_neg (by decide), if_neg (by simp [hlt, h4])]
        · rw [if_neg h4, if_pos rfl, if_pos (by simp [d1, h2, hlt, h4])]
          rfl
      · rw [if_neg h2, if_neg (by simp [h2])]
    · rw [d2, if_neg (fun q => d3 ((lg_cmp_eq _ _).mp q)), if_neg (by simp [d1])]
  · unfold f_X4_isWhole_L2
    rw [hp.2.1, if_pos (nI_le (Nat.le_refl _) (by omega)), if_neg (Nat.lt_irrefl _)]
    rfl
theorem g_entries {e f s N : Nat} {b : Nat → Nat} (hf : f < 13) (hN : N < 61) : ∀ c v gx gm fx fm, v + c = 8 → c < fx → c + 1 < fm → gFs e b gx gm → gPv f s gx gm → gVv N f gx gm → gcs N gm = v → gPP (gnx N) (gnm N) (fun gx' gm' => gx'.1 3 0 8 = 0 ∧ gm'.1 0 0 4 = -1 ∧ gVv N f gx' gm') gx gm (gz_l1 (f_X4_readNotice_L2 f N) fx (nI v) gx) (gz_l1 (f_X11_readNotice_L33 (nI f) (nI N) (f_X11_readNotice_J204 (nI f) (nI N)) f_X11_readNotice_J75 f_X11_readNotice_J136 f_X11_readNotice_J100) fm 1 gm) := by
  intro c
  induction c with
  | zero =>
    intro v gx gm fx fm hc hfx hfm hF hp hV hcs
    obtain ⟨fx, rfl⟩ : ∃ q, fx = q + 1 := ⟨fx - 1, by omega⟩
    obtain ⟨fm, rfl⟩ : ∃ q, fm = q + 1 := ⟨fm - 1, by omega⟩
    rw [gz_l1_s, gz_l1_s, m_entry]
    unfold f_X4_readNotice_L2
    rw [if_neg (fun q => by have := (gn_gt 8 (a := v)).mp q; omega)]
    obtain ⟨gx1, gm1, f1, f2, hor⟩ := g_entry hf hN hF hp hV
    rcases hor with ⟨X, Y, hF1, hV1, hc1⟩ | ⟨X, Y, hfl⟩
    · have : gcs N gm1 ≤ 8 := gs_cn_le _ 8 0
      omega
    · rw [X, gz_call_e, if_pos rfl, Y]
      exact ⟨gx1, gm1, f1, f2, Or.inr ⟨rfl, rfl, hfl⟩⟩
  | succ c ih =>
    intro v gx gm fx fm hc hfx hfm hF hp hV hcs
    obtain ⟨fx, rfl⟩ : ∃ q, fx = q + 1 := ⟨fx - 1, by omega⟩
    obtain ⟨fm, rfl⟩ : ∃ q, fm = q + 2 := ⟨fm - 2, by omega⟩
    have ih' := fun gx gm => ih (v + 1) gx gm fx (fm + 1) (by omega) (by omega) (by omega)
    have hz : ∀ g, gz_l1 (f_X11_readNotice_L33 (nI f) (nI N) (f_X11_readNotice_J204 (nI f) (nI N)) f_X11_readNotice_J75 f_X11_readNotice_J136 f_X11_readNotice_J100) (fm + 1) 0 g = f_X11_readNotice_J204 (nI f) (nI N) g := fun g => by
      rw [gz_l1_s]
      unfold f_X11_readNotice_L33
      rw [if_pos rfl]
    rw [gz_l1_s, gz_l1_s, m_entry]
    generalize gz_l1 (f_X4_readNotice_L2 f N) fx = rx at ih' ⊢
    generalize gz_l1 (f_X11_readNotice_L33 (nI f) (nI N) (f_X11_readNotice_J204 (nI f) (nI N)) f_X11_readNotice_J75 f_X11_readNotice_J136 f_X11_readNotice_J100) (fm + 1) = rm at ih' hz ⊢
    unfold f_X4_readNotice_L2
    rw [if_neg (fun q => by have := (gn_gt 8 (a := v)).mp q; omega)]
    obtain ⟨gx1, gm1, f1, f2, hor⟩ := g_entry hf hN hF hp hV
    rcases hor with ⟨X, Y, hF1, hV1, hc1⟩ | ⟨X, Y, hfl⟩
    · rw [X, gz_call_e, if_neg (by decide), Y]
      have hp1 := hp.frn f1 f2
      rcases hF1.2.2.1.s 59 (by unfold gsg; omega) with ⟨q1, q2, ha2, q3⟩ | ⟨q1, q2⟩
      · obtain ⟨gx2, gm2, e3, e4, g3, g4, hF2⟩ := g_next hF1 ha2
        have q2' : f_X11_is 59 gm1 = some (1, gm1) := q2
        have q1' : gx1.1 3 0 4 = 59 := q1
        rw [if_neg (show ¬ gx1.1 3 0 4 = 0 by rw [q1']; decide), x_take_y (e := e) (b := b) q1' e3, gz_call_e, if_neg (by decide), q2', gz_call_e, gz_j0_e, if_neg (by decide), e4, gz_then_e, nI_1]
        unfold f_X11_readNotice_J201
        have F3 := f1.tr (g3.w gtx_n)
        have F4 := f2.tr (g4.w gtm_n)
        exact (ih' gx2 gm2 hF2 (hp.frn F3 F4) (hV1.tk g3 g4) (by rw [gcs_tk g4]; omega)).tr F3 F4
      · have q2' : f_X11_is 59 gm1 = some (0, gm1) := q2
        rw [q2', gz_call_e, gz_j0_e, if_pos rfl]
        unfold f_X11_readNotice_J201
        rw [hz]
        unfold f_X11_readNotice_J204
        rcases hF1.2.2.1.e with ⟨k1, k2⟩ | ⟨k1, k2⟩
        · rw [if_pos k1, m_ns k2, gz_tcall_s, gz_j1_e]
          obtain ⟨gx2, gm2, g1, g2, hor⟩ := g_whole hf hN hF1 hp1 hV1
          rcases hor with ⟨X2, Y2, hq⟩ | ⟨X2, Y2, hfl⟩
          · rw [X2, Y2, gz_call_e]
            exact ⟨gx2, gm2, f1.tr g1, f2.tr g2, Or.inl ⟨rfl, rfl, hq⟩⟩
          · rw [X2, Y2, gz_call_e]
            exact ⟨gx2, gm2, f1.tr g1, f2.tr g2, Or.inr ⟨rfl, rfl, hfl⟩⟩
        · rw [if_neg k1, x_take_n (show gx1.1 3 0 4 ≠ 59 from q1), gz_call_e, if_pos rfl, m_nsn k2, gz_tcall_n]
          exact ⟨_, _, f1.tr (gfa_fr rfl rfl), f2.tr (gst_fr rfl rfl), Or.inr ⟨rfl, rfl, hF1.fl (c := 1) (by decide)⟩⟩
    · rw [X, gz_call_e, if_pos rfl, Y]
      exact ⟨gx1, gm1, f1, f2, Or.inr ⟨rfl, rfl, hfl⟩⟩
/-! the fresh notice -/
def gb15 (N t i _ : Nat) : Bool := Nat.beq t 15 && decide (i = N)
def gb14 (N t i _ : Nat) : Bool := (Nat.beq t 14 || Nat.beq t 15) && decide (i = N)
theorem gb15_w {N : Nat} : ∀ t i' k, gb14 N t i' k = false → gb15 N t i' k = false := by
  intro t i' k h
  unfold gb14 at h
  unfold gb15
  simp only [gbq, gbl, Bool.or_eq_false_iff, Bool.and_eq_false_iff, decide_eq_false_iff_not] at h ⊢
  omega
theorem x_fill {n : Nat} {v : Int64} (σ : gz_S) : ∃ g, f_J7_fill_d0a16 n v σ = some g ∧ gfr (gb15 n) σ g ∧ ∀ k, k < 8 → g.2.1 15 n k = v := by
  have hp : ∀ k, gb15 n 15 n k = true := fun k => by
    unfold gb15
    simp [gbq]
  have : gp (gz_l1 (f_J7_fill_d0a16_L6 n v) gz_fu 0 σ) (fun g => gfr (gb15 n) σ g ∧ ∀ k, k < 8 → g.2.1 15 n k = v) := by
    refine gp_l1 (fun w g m => ∃ i, w = nI i ∧ i ≤ 8 ∧ m = 8 - i ∧ gfr (gb15 n) σ g ∧ ∀ k, k < i → g.2.1 15 n k = v) ?_ gz_fu 8 0 σ (by show 8 < 20000; omega) ⟨0, rfl, by omega, by omega, gfr.rf, fun k hk => by omega⟩
    rintro rec m w g ⟨i, rfl, hi, rfl, hf, hk⟩ ih
    unfold f_J7_fill_d0a16_L6
    by_cases he : i = 8
    · subst he
      exact gp_pos (by decide) ⟨_, rfl, hf, hk⟩
    · refine gp_neg (fun q => by have := (gn_ge 8 (a := i)).mp q; omega) ?_
      rw [gz_ix_nI (show i < 8 by omega) (by decide), gz_w_e, nI_1]
      refine ih _ _ (8 - (i + 1)) (by omega) ⟨i + 1, rfl, by omega, rfl, hf.sj (hp i), fun k hk' => ?_⟩
      rw [gz_sj_21]
      by_cases ek : k = i
      · rw [if_pos ⟨rfl, rfl, ek⟩]
      · rw [if_neg (fun q => ek q.2.2)]
        exact hk k (by omega)
  exact this
theorem x_begin {n : Nat} {a1 a2 a3 : Int32} (σ : gz_S) : ∃ g, f_X6_begin n a1 a2 a3 σ = some g ∧ gfr (gb14 n) σ g ∧ g.1 14 n 0 = a1 ∧ g.1 14 n 1 = a2 ∧ g.1 14 n 2 = a3 ∧ g.1 14 n 3 = -1 ∧ g.1 14 n 6 = 0 ∧ g.1 14 n 10 = -1 ∧ g.2.1 14 n 11 = 0 ∧ g.2.1 14 n 12 = 0 ∧ g.2.1 14 n 13 = 0 ∧ ∀ k, k < 8 → g.2.1 15 n k = -1 := by
  have hp : ∀ k, gb14 n 14 n k = true := fun k => by
    unfold gb14
    simp [gbq]
  unfold f_X6_begin
  rw [gz_w_e, gz_w_e, gz_w_e, gz_w_e, gz_w_e]
  have f1 : gfr (gb14 n) σ (gz_si (gz_si (gz_si (gz_si (gz_si σ 14 n 0 a1) 14 n 1 a2) 14 n 2 a3) 14 n 3 (-1)) 14 n 4 (-1)) := ((((gfr.rf.si (hp _)).si (hp _)).si (hp _)).si (hp _)).si (hp _)
  have a0 : (gz_si (gz_si (gz_si (gz_si (gz_si σ 14 n 0 a1) 14 n 1 a2) 14 n 2 a3) 14 n 3 (-1)) 14 n 4 (-1)).1 14 n 0 = a1 := by
    simp only [gz_si_1]
    simp
  have a1' : (gz_si (gz_si (gz_si (gz_si (gz_si σ 14 n 0 a1) 14 n 1 a2) 14 n 2 a3) 14 n 3 (-1)) 14 n 4 (-1)).1 14 n 1 = a2 := by
    simp only [gz_si_1]
    simp
  have a2' : (gz_si (gz_si (gz_si (gz_si (gz_si σ 14 n 0 a1) 14 n 1 a2) 14 n 2 a3) 14 n 3 (-1)) 14 n 4 (-1)).1 14 n 2 = a3 := by
    simp only [gz_si_1]
    simp
  have a3' : (gz_si (gz_si (gz_si (gz_si (gz_si σ 14 n 0 a1) 14 n 1 a2) 14 n 2 a3) 14 n 3 (-1)) 14 n 4 (-1)).1 14 n 3 = -1 := by
    simp only [gz_si_1]
    simp
  generalize gz_si (gz_si (gz_si (gz_si (gz_si σ 14 n 0 a1) 14 n 1 a2) 14 n 2 a3) 14 n 3 (-1)) 14 n 4 (-1) = g1 at f1 a0 a1' a2' a3' ⊢
  obtain ⟨g2, e2, f2, h2⟩ := x_fill (n := n) (v := -1) g1
  rw [e2, gz_then_e, gz_w_e, gz_w_e, gz_w_e, gz_w_e, gz_w_e, gz_w_e]
  have q : ∀ k, gb15 n 14 n k = false := fun k => rfl
  refine ⟨_, rfl, (((((((f1.tr (f2.w gb15_w)).si (hp _)).si (hp _)).sj (hp _)).sj (hp _)).sj (hp _)).si (hp _)), ?_, ?_, ?_, ?_, ?_, ?_, ?_, ?_, ?_, ?_⟩
  · simp only [gz_si_1, gz_sj_1]
    simp
    exact ((f2 14 n 0 (q 0)).1).trans a0
  · simp only [gz_si_1, gz_sj_1]
    simp
    exact ((f2 14 n 1 (q 1)).1).trans a1'
  · simp only [gz_si_1, gz_sj_1]
    simp
    exact ((f2 14 n 2 (q 2)).1).trans a2'
  · simp only [gz_si_1, gz_sj_1]
    simp
    exact ((f2 14 n 3 (q 3)).1).trans a3'
  · simp only [gz_si_1, gz_sj_1]
    simp
  · simp only [gz_si_1, gz_sj_1]
    simp
  · simp only [gz_si_2, gz_sj_21]
    simp
  · simp only [gz_si_2, gz_sj_21]
    simp
  · simp only [gz_si_2, gz_sj_21]
    simp
  · intro k hk
    simp only [gz_si_2, gz_sj_21]
    simp
    exact h2 k hk
def gb25 (N t _ k : Nat) : Bool := Nat.beq t 25 && decide (k / 8 = N)
theorem m_clear {N : Nat} (hN : N < 61) {σ : gz_S} {j : gz_S → Option (Option Unit × gz_S)} {Q : Option Unit × gz_S → Prop} (hj : ∀ g, gfr (gb25 N) σ g → (∀ k, k < 8 → g.1 25 0 (8 * N + k) = 0) → gp (j g) Q) : gp (gz_l1 (f_X11_readNotice_L7 (nI N) j) gz_fu 0 σ) Q := by
  refine gp_l1 (fun w g m => ∃ i, w = nI i ∧ i ≤ 8 ∧ m = 8 - i ∧ gfr (gb25 N) σ g ∧ ∀ k, k < i → g.1 25 0 (8 * N + k) = 0) ?_ gz_fu 8 0 σ (by show 8 < 20000; omega) ⟨0, rfl, by omega, by omega, gfr.rf, fun k hk => by omega⟩
  rintro rec m w g ⟨i, rfl, hi, rfl, hf, hk⟩ ih
  unfold f_X11_readNotice_L7
  by_cases he : i = 8
  · subst he
    exact gp_pos (by decide) (hj g hf hk)
  · refine gp_neg (fun q => by have := (gn_ge 8 (a := i)).mp q; omega) ?_
    rw [gn_8, gz_ix_nI (show 8 * N + i < 488 by omega) (by decide), gz_w_e, nI_1]
    refine ih _ _ (8 - (i + 1)) (by omega) ⟨i + 1, rfl, by omega, rfl, hf.si ?_, fun k hk' => ?_⟩
    · unfold gb25
      have : (8 * N + i) / 8 = N := by omega
      simp [gbq, this]
    · rw [gz_si_1]
      by_cases ek : k = i
      · rw [if_pos ⟨rfl, rfl, by omega⟩]
        rfl
      · rw [if_neg (fun q => by have := q.2.2; omega)]
        exact hk k (by omega)
