/-! one step of each -/
theorem x_readSign {e p : Nat} {b : Nat → Nat} {σ : gz_S} (hE : gEx e b σ) (hp : p ≤ e) (h3 : σ.1 3 0 3 = nI p) : gp (f_X8_readSign σ) (fun q => gfr gp3 σ q.2 ∧ ((p = e ∧ q.1 = 0 ∧ q.2.1 3 0 3 = nI p) ∨ (p < e ∧ gsg (b p) ∧ q.1 = nI (b p) ∧ q.2.1 3 0 3 = nI (p + 1)) ∨ (p + 1 < e ∧ b p = 46 ∧ b (p + 1) = 46 ∧ q.1 = 3 ∧ q.2.1 3 0 3 = nI (p + 2)) ∨ (p < e ∧ ¬ gsg (b p) ∧ ¬ (b p = 46 ∧ p + 1 < e ∧ b (p + 1) = 46) ∧ q.1 = 4))) := by
  have he := hE.1
  unfold f_X8_readSign
  rw [h3, hE.2.1]
  by_cases hpe : p < e
  · refine gp_pos (nI_lt hpe (by omega)) ?_
    have hb := hE.2.2 p (by omega)
    rw [gz_ix_nI (show p < 400 by omega) (by decide), gz_v_e, gz_w_e, nI_1]
    have hs : ∀ c, gsg c → b p = c → gp (some (σ.1 4 0 p, gz_si σ 3 0 3 (nI (p + 1)))) (fun q => gfr gp3 σ q.2 ∧ ((p = e ∧ q.1 = 0 ∧ q.2.1 3 0 3 = nI p) ∨ (p < e ∧ gsg (b p) ∧ q.1 = nI (b p) ∧ q.2.1 3 0 3 = nI (p + 1)) ∨ (p + 1 < e ∧ b p = 46 ∧ b (p + 1) = 46 ∧ q.1 = 3 ∧ q.2.1 3 0 3 = nI (p + 2)) ∨ (p < e ∧ ¬ gsg (b p) ∧ ¬ (b p = 46 ∧ p + 1 < e ∧ b (p + 1) = 46) ∧ q.1 = 4))) := by
      intro c hc hbc
      refine ⟨_, rfl, gfr.rf.si rfl, Or.inr (Or.inl ⟨hpe, by rw [hbc]; exact hc, ?_, ?_⟩)⟩
      · rcases hb.2 with ⟨-, q⟩ | ⟨q, -⟩
        · exact q
        · unfold gsg at hc
          omega
      · rw [gz_si_1, if_pos ⟨rfl, rfl, rfl⟩]
    by_cases h58 : b p = 58
    · exact gp_pos ((hb.eq 58).mpr h58) (hs 58 (Or.inl rfl) h58)
    refine gp_neg (fun q => h58 ((hb.eq 58).mp q)) ?_
    by_cases h59 : b p = 59
    · exact gp_pos ((hb.eq 59).mpr h59) (hs 59 (Or.inr (Or.inl rfl)) h59)
    refine gp_neg (fun q => h59 ((hb.eq 59).mp q)) ?_
    by_cases h63 : b p = 63
    · exact gp_pos ((hb.eq 63).mpr h63) (hs 63 (Or.inr (Or.inr (Or.inl rfl))) h63)
    refine gp_neg (fun q => h63 ((hb.eq 63).mp q)) ?_
    by_cases h47 : b p = 47
    · exact gp_pos ((hb.eq 47).mpr h47) (hs 47 (Or.inr (Or.inr (Or.inr (Or.inl rfl)))) h47)
    refine gp_neg (fun q => h47 ((hb.eq 47).mp q)) ?_
    by_cases h61 : b p = 61
    · exact gp_pos ((hb.eq 61).mpr h61) (hs 61 (Or.inr (Or.inr (Or.inr (Or.inr rfl)))) h61)
    refine gp_neg (fun q => h61 ((hb.eq 61).mp q)) ?_
    have hns : ¬ gsg (b p) := by
      unfold gsg
      omega
    by_cases h46 : b p = 46
    · refine gp_pos ((hb.eq 46).mpr h46) ?_
      have e2 : (gz_si σ 3 0 3 (nI (p + 1))).1 3 0 2 = nI e := hE.2.1
      have e3 : (gz_si σ 3 0 3 (nI (p + 1))).1 3 0 3 = nI (p + 1) := by rw [gz_si_1, if_pos ⟨rfl, rfl, rfl⟩]
      rw [e2, e3]
      by_cases hp1 : p + 1 < e
      · refine gp_neg (nI_ge hp1 (by omega)) ?_
        have hb1 := hE.2.2 (p + 1) (by omega)
        rw [gz_ix_nI (show p + 1 < 400 by omega) (by decide)]
        by_cases h46' : b (p + 1) = 46
        · refine gp_pos ((hb1.eq 46).mpr h46') ?_
          rw [gz_w_e, nI_1]
          refine ⟨_, rfl, (gfr.rf.si rfl).si rfl, Or.inr (Or.inr (Or.inl ⟨hp1, h46, h46', rfl, ?_⟩))⟩
          rw [gz_si_1, if_pos ⟨rfl, rfl, rfl⟩]
        · exact gp_neg (fun q => h46' ((hb1.eq 46).mp q)) ⟨_, rfl, gfr.rf.si rfl, Or.inr (Or.inr (Or.inr ⟨hpe, hns, fun q => h46' q.2.2, rfl⟩))⟩
      · exact gp_pos (nI_le (by omega) (by omega)) ⟨_, rfl, gfr.rf.si rfl, Or.inr (Or.inr (Or.inr ⟨hpe, hns, fun q => hp1 q.2.1, rfl⟩))⟩
    · exact gp_neg (fun q => h46 ((hb.eq 46).mp q)) ⟨_, rfl, gfr.rf.si rfl, Or.inr (Or.inr (Or.inr ⟨hpe, hns, fun q => h46 q.1, rfl⟩))⟩
  · have : p = e := by omega
    subst this
    exact gp_neg (nI_nlt (by omega) (by omega)) ⟨_, rfl, gfr.rf, Or.inl ⟨rfl, rfl, h3⟩⟩
/-- what the house's step comes to, at its token's place -/
def gSx (e p : Nat) (b : Nat → Nat) (T : Nat → Int32) (g : gz_S) : Prop := g.1 3 0 5 = nI p ∧
  ((p < e ∧ 97 ≤ b p ∧ b p ≤ 122 ∧ ((gs_ff (gnr b 97 122) e p - p ≤ 8 ∧ g.1 3 0 4 = 1 ∧ g.1 3 0 3 = nI (gs_ff (gnr b 97 122) e p) ∧ g.2.1 3 0 7 = gV T 32 96 p (gs_ff (gnr b 97 122) e p - p)) ∨ (8 < gs_ff (gnr b 97 122) e p - p ∧ g.1 3 0 4 = 4))) ∨
  (p < e ∧ 48 ≤ b p ∧ b p ≤ 57 ∧ ((gs_ff (gnr b 48 57) e p - p ≤ 4 ∧ g.1 3 0 4 = 2 ∧ g.1 3 0 3 = nI (gs_ff (gnr b 48 57) e p) ∧ g.1 3 0 6 = (gV T 10 48 p (gs_ff (gnr b 48 57) e p - p)).toInt32) ∨ (4 < gs_ff (gnr b 48 57) e p - p ∧ g.1 3 0 4 = 4))) ∨
  (p = e ∧ g.1 3 0 4 = 0 ∧ g.1 3 0 3 = nI p) ∨
  (p < e ∧ gsg (b p) ∧ g.1 3 0 4 = nI (b p) ∧ g.1 3 0 3 = nI (p + 1)) ∨
  (p + 1 < e ∧ b p = 46 ∧ b (p + 1) = 46 ∧ g.1 3 0 4 = 3 ∧ g.1 3 0 3 = nI (p + 2)) ∨
  (p < e ∧ ¬ (97 ≤ b p ∧ b p ≤ 122) ∧ ¬ (48 ≤ b p ∧ b p ≤ 57) ∧ ¬ gsg (b p) ∧ ¬ (b p = 46 ∧ p + 1 < e ∧ b (p + 1) = 46) ∧ g.1 3 0 4 = 4))
theorem x_J52 {e p : Nat} {b : Nat → Nat} {σ : gz_S} (hE : gEx e b σ) (hp : p ≤ e) (h3 : σ.1 3 0 3 = nI p) : gp (f_X8_step_J52 σ) (fun g => gfr gtx σ g ∧ gSx e p b (σ.1 4 0) g) := by
  have he := hE.1
  unfold f_X8_step_J52
  rw [gz_w_e, h3]
  have f1 : gfr gtx σ (gz_si σ 3 0 5 (nI p)) := gfr.rf.si rfl
  have p1 : (gz_si σ 3 0 5 (nI p)).1 3 0 5 = nI p := rfl
  have a1 : (gz_si σ 3 0 5 (nI p)).1 3 0 3 = nI p := h3
  have t1 : (gz_si σ 3 0 5 (nI p)).1 4 0 = σ.1 4 0 := rfl
  have E1 := hE.fr f1 rfl (fun _ => rfl)
  generalize gz_si σ 3 0 5 (nI p) = g1 at f1 p1 a1 t1 E1 ⊢
  obtain ⟨⟨V1, g2⟩, e2, f2, a2, v2⟩ := x_run 97 122 (a3 := 32) (a4 := 96) E1 hp a1
  have e2' : f_X8_readRun 97 122 32 96 g1 = some (V1, g2) := e2
  rw [e2', gz_call_e, gz_w_e]
  have p2 : g2.1 3 0 5 = nI p := ((f2 3 0 5 rfl).1).trans p1
  have f2' : gfr gtx σ g2 := f1.tr (f2.w gp3_w)
  have f3 : gfr gtx σ (gz_sj g2 3 0 7 V1) := f2'.sj rfl
  have p3 : (gz_sj g2 3 0 7 V1).1 3 0 5 = nI p := p2
  have a3 : (gz_sj g2 3 0 7 V1).1 3 0 3 = nI (gs_ff (gnr b 97 122) e p) := a2
  have w3 : (gz_sj g2 3 0 7 V1).2.1 3 0 7 = V1 := by rw [gz_sj_21, if_pos ⟨rfl, rfl, rfl⟩]
  generalize gz_sj g2 3 0 7 V1 = g3 at f3 p3 a3 w3 ⊢
  have hr := gs_ff_le (w := gnr b 97 122) (e := e) (d := p) hp
  rw [a3, p3]
  rw [t1] at v2
  have v2' : V1 = gV (σ.1 4 0) 32 96 p (gs_ff (gnr b 97 122) e p - p) := v2
  by_cases hL : p < e ∧ 97 ≤ b p ∧ b p ≤ 122
  · obtain ⟨r1, r2, r3⟩ := g_run_pos hL.1 hL.2.1 hL.2.2
    refine gp_neg (nI_ge r1 (by omega)) ?_
    rw [show nI (gs_ff (gnr b 97 122) e p) - nI p = nI (gs_ff (gnr b 97 122) e p - p) from by
      conv => lhs; rw [show gs_ff (gnr b 97 122) e p = (gs_ff (gnr b 97 122) e p - p) + p by omega, ← nI_add]
      exact Int32.add_sub_cancel _ _]
    by_cases h8 : 8 < gs_ff (gnr b 97 122) e p - p
    · refine gp_pos ((gn_gt 8 (a := gs_ff (gnr b 97 122) e p - p)).mpr h8) ?_
      rw [gz_w_e]
      refine ⟨_, rfl, f3.si rfl, p3, Or.inl ⟨hL.1, hL.2.1, hL.2.2, Or.inr ⟨h8, ?_⟩⟩⟩
      rw [gz_si_1, if_pos ⟨rfl, rfl, rfl⟩]
    · refine gp_neg (fun q => h8 ((gn_gt 8 (a := gs_ff (gnr b 97 122) e p - p)).mp q)) ?_
      rw [gz_w_e]
      refine ⟨_, rfl, f3.si rfl, p3, Or.inl ⟨hL.1, hL.2.1, hL.2.2, Or.inl ⟨by omega, ?_, a3, w3.trans v2'⟩⟩⟩
      rw [gz_si_1, if_pos ⟨rfl, rfl, rfl⟩]
  · have hr0 : gs_ff (gnr b 97 122) e p = p := g_run_no hp (fun h1 h2 => hL ⟨h1, h2⟩)
    rw [hr0] at a3 ⊢
    refine gp_pos (nI_le (Nat.le_refl _) (by omega)) ?_
    have E3 := hE.fr f3 rfl (fun _ => rfl)
    have t3 : g3.1 4 0 = σ.1 4 0 := funext fun k => (f3 4 0 k rfl).1
    obtain ⟨⟨V4, g4⟩, e4, f4, a4, v4⟩ := x_run 48 57 (a3 := 10) (a4 := 48) E3 hp a3
    have e4' : f_X8_readRun 48 57 10 48 g3 = some (V4, g4) := e4
    rw [e4', gz_call_e, gz_w_e]
    have f4' : gfr gtx σ g4 := f3.tr (f4.w gp3_w)
    have f5 : gfr gtx σ (gz_si g4 3 0 6 (V4.toInt32)) := f4'.si rfl
    have p5 : (gz_si g4 3 0 6 (V4.toInt32)).1 3 0 5 = nI p := ((f4 3 0 5 rfl).1).trans p3
    have a5 : (gz_si g4 3 0 6 (V4.toInt32)).1 3 0 3 = nI (gs_ff (gnr b 48 57) e p) := a4
    have n5 : (gz_si g4 3 0 6 (V4.toInt32)).1 3 0 6 = V4.toInt32 := by rw [gz_si_1, if_pos ⟨rfl, rfl, rfl⟩]
    generalize gz_si g4 3 0 6 (V4.toInt32) = g5 at f5 p5 a5 n5 ⊢
    rw [a5, p5]
    rw [t3] at v4
    have v4' : V4 = gV (σ.1 4 0) 10 48 p (gs_ff (gnr b 48 57) e p - p) := v4
    have hr2 := gs_ff_le (w := gnr b 48 57) (e := e) (d := p) hp
    by_cases hD : p < e ∧ 48 ≤ b p ∧ b p ≤ 57
    · obtain ⟨r1, r2, r3⟩ := g_run_pos hD.1 hD.2.1 hD.2.2
      refine gp_neg (nI_ge r1 (by omega)) ?_
      rw [show nI (gs_ff (gnr b 48 57) e p) - nI p = nI (gs_ff (gnr b 48 57) e p - p) from by
        conv => lhs; rw [show gs_ff (gnr b 48 57) e p = (gs_ff (gnr b 48 57) e p - p) + p by omega, ← nI_add]
        exact Int32.add_sub_cancel _ _]
      by_cases h8 : 4 < gs_ff (gnr b 48 57) e p - p
      · refine gp_pos ((gn_gt 4 (a := gs_ff (gnr b 48 57) e p - p)).mpr h8) ?_
        rw [gz_w_e]
        refine ⟨_, rfl, f5.si rfl, p5, Or.inr (Or.inl ⟨hD.1, hD.2.1, hD.2.2, Or.inr ⟨h8, ?_⟩⟩)⟩
        rw [gz_si_1, if_pos ⟨rfl, rfl, rfl⟩]
      · refine gp_neg (fun q => h8 ((gn_gt 4 (a := gs_ff (gnr b 48 57) e p - p)).mp q)) ?_
        rw [gz_w_e]
        refine ⟨_, rfl, f5.si rfl, p5, Or.inr (Or.inl ⟨hD.1, hD.2.1, hD.2.2, Or.inl ⟨by omega, ?_, a5, n5.trans (by rw [v4'])⟩⟩)⟩
        rw [gz_si_1, if_pos ⟨rfl, rfl, rfl⟩]
    · have hr0 : gs_ff (gnr b 48 57) e p = p := g_run_no hp (fun h1 h2 => hD ⟨h1, h2⟩)
      rw [hr0] at a5 ⊢
      refine gp_pos (nI_le (Nat.le_refl _) (by omega)) ?_
      have E5 := hE.fr f5 rfl (fun _ => rfl)
      obtain ⟨⟨r6, g6⟩, e6, f6, hor⟩ := x_readSign E5 hp a5
      rw [e6, gz_call_e, gz_w_e]
      have f6' : gfr gtx σ g6 := f5.tr (f6.w gp3_w)
      have k6 : (gz_si g6 3 0 4 r6).1 3 0 4 = r6 := by rw [gz_si_1, if_pos ⟨rfl, rfl, rfl⟩]
      refine ⟨_, rfl, f6'.si rfl, ((f6 3 0 5 rfl).1).trans p5, Or.inr (Or.inr ?_)⟩
      rw [k6]
      rcases hor with ⟨q1, q2, q3⟩ | ⟨q1, q2, q3, q4⟩ | ⟨q1, q2, q3, q4, q5⟩ | ⟨q1, q2, q3, q4⟩
      · exact Or.inl ⟨q1, q2, q3⟩
      · exact Or.inr (Or.inl ⟨q1, q2, q3, q4⟩)
      · exact Or.inr (Or.inr (Or.inl ⟨q1, q2, q3, q4, q5⟩))
      · exact Or.inr (Or.inr (Or.inr ⟨q1, fun q => hL ⟨q1, q⟩, fun q => hD ⟨q1, q⟩, q2, q3, q4⟩))
def gSm (e p : Nat) (b : Nat → Nat) (T : Nat → Int32) (g : gz_S) : Prop := g.1 0 0 18 = nI p ∧
  ((p < e ∧ 97 ≤ b p ∧ b p ≤ 122 ∧ ((gs_ff (gnr b 97 122) e p - p ≤ 8 ∧ g.1 0 0 17 = 2 ∧ g.1 0 0 16 = nI (gs_ff (gnr b 97 122) e p) ∧ g.2.1 0 0 20 = gV T 32 96 p (gs_ff (gnr b 97 122) e p - p)) ∨ (8 < gs_ff (gnr b 97 122) e p - p ∧ g.1 0 0 17 = 0))) ∨
  (p < e ∧ 48 ≤ b p ∧ b p ≤ 57 ∧ ((gs_ff (gnr b 48 57) e p - p ≤ 4 ∧ g.1 0 0 17 = 3 ∧ g.1 0 0 16 = nI (gs_ff (gnr b 48 57) e p) ∧ g.2.1 0 0 20 = gV T 10 48 p (gs_ff (gnr b 48 57) e p - p)) ∨ (4 < gs_ff (gnr b 48 57) e p - p ∧ g.1 0 0 17 = 0))) ∨
  (p = e ∧ g.1 0 0 17 = 1 ∧ g.1 0 0 16 = nI p) ∨
  (p < e ∧ gsg (b p) ∧ g.1 0 0 17 = 5 ∧ g.1 0 0 19 = nI (b p) ∧ g.1 0 0 16 = nI (p + 1)) ∨
  (p + 1 < e ∧ b p = 46 ∧ b (p + 1) = 46 ∧ g.1 0 0 17 = 4 ∧ g.1 0 0 16 = nI (p + 2)) ∨
  (p < e ∧ ¬ (97 ≤ b p ∧ b p ≤ 122) ∧ ¬ (48 ≤ b p ∧ b p ≤ 57) ∧ ¬ gsg (b p) ∧ ¬ (b p = 46 ∧ p + 1 < e ∧ b (p + 1) = 46) ∧ g.1 0 0 17 = 0))
theorem m_J39 {e p : Nat} {b : Nat → Nat} {T : Nat → Int32} {σ : gz_S} (hE : gEm e b σ) (hT : ∀ k, k < 400 → gBy (T k) (b k)) (hp : p ≤ e) (h3 : σ.1 0 0 16 = nI p) : gp (f_X11_next_J39 σ) (fun g => gfr gtm σ g ∧ gSm e p b T g) := by
  have he := hE.1
  unfold f_X11_next_J39
  rw [gz_w_e, gz_w_e, gz_w_e, h3]
  have f1 : gfr gtm σ (gz_si (gz_si (gz_si σ 0 0 18 (nI p)) 0 0 17 0) 0 0 19 0) := ((gfr.rf.si rfl).si rfl).si rfl
  have p1 : (gz_si (gz_si (gz_si σ 0 0 18 (nI p)) 0 0 17 0) 0 0 19 0).1 0 0 18 = nI p := rfl
  have a1 : (gz_si (gz_si (gz_si σ 0 0 18 (nI p)) 0 0 17 0) 0 0 19 0).1 0 0 16 = nI p := h3
  have k1 : (gz_si (gz_si (gz_si σ 0 0 18 (nI p)) 0 0 17 0) 0 0 19 0).1 0 0 17 = 0 := rfl
  generalize gz_si (gz_si (gz_si σ 0 0 18 (nI p)) 0 0 17 0) 0 0 19 0 = g1 at f1 p1 a1 k1 ⊢
  have E1 := hE.fr f1 rfl (fun _ => rfl)
  rw [a1, m_byteAt E1 (by omega), gz_call_e, gz_w_e]
  have f2 : gfr gtm σ (gz_sj g1 0 0 20 0) := f1.sj rfl
  have p2 : (gz_sj g1 0 0 20 0).1 0 0 18 = nI p := p1
  have a2 : (gz_sj g1 0 0 20 0).1 0 0 16 = nI p := a1
  have k2 : (gz_sj g1 0 0 20 0).1 0 0 17 = 0 := k1
  have v2 : (gz_sj g1 0 0 20 0).2.1 0 0 20 = 0 := rfl
  generalize gz_sj g1 0 0 20 0 = g2 at f2 p2 a2 k2 v2 ⊢
  have E2 := hE.fr f2 rfl (fun _ => rfl)
  by_cases hpe : p < e
  · rw [if_pos hpe]
    have hb := (E2.2.2 p (by omega)).1
    refine gp_neg (gn_ne1 (by omega)) ?_
    rw [m_isLetter hb, gz_call_e]
    by_cases hL : 97 ≤ b p ∧ b p ≤ 122
    · rw [if_pos hL]
      refine gp_neg (by decide) ?_
      rw [gz_j1_e]
      obtain ⟨r1, r2, r3⟩ := g_run_pos hpe hL.1 hL.2
      refine m_letters E2 hT hp a2 v2 (fun g hf ga gv => ?_)
      unfold f_X11_next_J156
      have hf' : gfr gtm σ g := f2.tr (hf.w gp16_w)
      have gp18 : g.1 0 0 18 = nI p := ((hf 0 0 18 rfl).1).trans p2
      by_cases h8 : gs_ff (gnr b 97 122) e p - p ≤ 8
      · refine gp_pos ((gn_le 8 (a := gs_ff (gnr b 97 122) e p - p)).mpr h8) ?_
        rw [gz_w_e]
        refine ⟨_, rfl, hf'.si rfl, gp18, Or.inl ⟨hpe, hL.1, hL.2, Or.inl ⟨h8, ?_, ga, ?_⟩⟩⟩
        · rw [gz_si_1, if_pos ⟨rfl, rfl, rfl⟩]
        · rw [Nat.min_eq_left h8] at gv
          exact gv
      · refine gp_neg (fun q => h8 ((gn_le 8 (a := gs_ff (gnr b 97 122) e p - p)).mp q)) ?_
        rw [gz_w_e]
        refine ⟨_, rfl, hf'.si rfl, gp18, Or.inl ⟨hpe, hL.1, hL.2, Or.inr ⟨by omega, ?_⟩⟩⟩
        rw [gz_si_1, if_pos ⟨rfl, rfl, rfl⟩]
    · rw [if_neg hL]
      refine gp_pos rfl ?_
      rw [m_isDigit hb, gz_call_e]
      by_cases hD : 48 ≤ b p ∧ b p ≤ 57
      · rw [if_pos hD]
        refine gp_neg (by decide) ?_
        rw [gz_j1_e]
        obtain ⟨r1, r2, r3⟩ := g_run_pos hpe hD.1 hD.2
        refine m_digits E2 hT hp a2 v2 (fun g hf ga gv => ?_)
        unfold f_X11_next_J241
        have hf' : gfr gtm σ g := f2.tr (hf.w gp16_w)
        have gp18 : g.1 0 0 18 = nI p := ((hf 0 0 18 rfl).1).trans p2
        by_cases h8 : gs_ff (gnr b 48 57) e p - p ≤ 4
        · refine gp_pos ((gn_le 4 (a := gs_ff (gnr b 48 57) e p - p)).mpr h8) ?_
          rw [gz_w_e]
          refine ⟨_, rfl, hf'.si rfl, gp18, Or.inr (Or.inl ⟨hpe, hD.1, hD.2, Or.inl ⟨h8, ?_, ga, ?_⟩⟩)⟩
          · rw [gz_si_1, if_pos ⟨rfl, rfl, rfl⟩]
          · rw [Nat.min_eq_left h8] at gv
            exact gv
        · refine gp_neg (fun q => h8 ((gn_le 4 (a := gs_ff (gnr b 48 57) e p - p)).mp q)) ?_
          rw [gz_w_e]
          refine ⟨_, rfl, hf'.si rfl, gp18, Or.inr (Or.inl ⟨hpe, hD.1, hD.2, Or.inr ⟨by omega, ?_⟩⟩)⟩
          rw [gz_si_1, if_pos ⟨rfl, rfl, rfl⟩]
      · rw [if_neg hD]
        refine gp_pos rfl ?_
        rw [gz_j0_e]
        have hJ : ¬ (b p = 46 ∧ p + 1 < e ∧ b (p + 1) = 46) → gp (f_X11_next_J297 (nI (b p)) g2) (fun g => gfr gtm σ g ∧ gSm e p b T g) := by
          intro hnd
          unfold f_X11_next_J297
          rw [gz_j0_e]
          have hs : gsg (b p) → gp (f_X11_next_J327 (nI (b p)) g2) (fun g => gfr gtm σ g ∧ gSm e p b T g) := by
            intro hs
            unfold f_X11_next_J327
            rw [gz_w_e, gz_w_e, gz_w_e]
            refine ⟨_, rfl, ((f2.si rfl).si rfl).si rfl, p2, Or.inr (Or.inr (Or.inr (Or.inl ⟨hpe, hs, rfl, rfl, ?_⟩)))⟩
            rw [gz_si_1, if_pos ⟨rfl, rfl, rfl⟩]
            show g2.1 0 0 16 + 1 = _
            rw [a2, nI_1]
          by_cases h58 : b p = 58
          · exact gp_pos ((gn_eq 58 (a := b p)).mpr h58) (hs (Or.inl h58))
          refine gp_neg (fun q => h58 ((gn_eq 58 (a := b p)).mp q)) ?_
          by_cases h59 : b p = 59
          · exact gp_pos ((gn_eq 59 (a := b p)).mpr h59) (hs (Or.inr (Or.inl h59)))
          refine gp_neg (fun q => h59 ((gn_eq 59 (a := b p)).mp q)) ?_
          by_cases h63 : b p = 63
          · exact gp_pos ((gn_eq 63 (a := b p)).mpr h63) (hs (Or.inr (Or.inr (Or.inl h63))))
          refine gp_neg (fun q => h63 ((gn_eq 63 (a := b p)).mp q)) ?_
          by_cases h47 : b p = 47
          · exact gp_pos ((gn_eq 47 (a := b p)).mpr h47) (hs (Or.inr (Or.inr (Or.inr (Or.inl h47)))))
          refine gp_neg (fun q => h47 ((gn_eq 47 (a := b p)).mp q)) ?_
          by_cases h61 : b p = 61
          · exact gp_pos ((gn_eq 61 (a := b p)).mpr h61) (hs (Or.inr (Or.inr (Or.inr (Or.inr h61)))))
          refine gp_neg (fun q => h61 ((gn_eq 61 (a := b p)).mp q)) ?_
          exact ⟨_, rfl, f2, p2, Or.inr (Or.inr (Or.inr (Or.inr (Or.inr ⟨hpe, hL, hD, by unfold gsg; omega, hnd, k2⟩))))⟩
        by_cases h46 : b p = 46
        · refine gp_pos ((gn_eq 46 (a := b p)).mpr h46) ?_
          rw [a2, nI_1, m_byteAt E2 (by omega), gz_call_e]
          by_cases hp1 : p + 1 < e
          · rw [if_pos hp1]
            have hb1 := (E2.2.2 (p + 1) (by omega)).1
            by_cases h46' : b (p + 1) = 46
            · refine gp_pos ((gn_eq 46 (a := b (p + 1))).mpr h46') ?_
              rw [gz_w_e, gz_w_e]
              refine ⟨_, rfl, (f2.si rfl).si rfl, p2, Or.inr (Or.inr (Or.inr (Or.inr (Or.inl ⟨hp1, h46, h46', rfl, ?_⟩))))⟩
              rw [gz_si_1, if_pos ⟨rfl, rfl, rfl⟩]
              show g2.1 0 0 16 + 2 = _
              rw [a2]
              exact nI_add p 2
            · exact gp_neg (fun q => h46' ((gn_eq 46 (a := b (p + 1))).mp q)) (hJ (fun q => h46' q.2.2))
          · rw [if_neg hp1]
            exact gp_neg (by decide) (hJ (fun q => hp1 q.2.1))
        · exact gp_neg (fun q => h46 ((gn_eq 46 (a := b p)).mp q)) (hJ (fun q => h46 q.1))
  · rw [if_neg hpe]
    have : p = e := by omega
    subst this
    refine gp_pos rfl ?_
    rw [gz_w_e]
    refine ⟨_, rfl, f2.si rfl, p2, Or.inr (Or.inr (Or.inl ⟨rfl, ?_, a2⟩))⟩
    rw [gz_si_1, if_pos ⟨rfl, rfl, rfl⟩]
theorem g_step {e p : Nat} {b : Nat → Nat} {gx gm : gz_S} (hx : gEx e b gx) (hm : gEm e b gm) (hp : p ≤ e) (h1 : gx.1 3 0 3 = nI p) (h2 : gm.1 0 0 16 = nI p) : ∃ gx' gm', f_X8_step gx = some gx' ∧ f_X11_next gm = some gm' ∧ gfr gtx gx gx' ∧ gfr gtm gm gm' ∧ gTk e gx' gm' := by
  have he := hx.1
  have hp0 := gs_ff_le (w := gsp b) (e := e) (d := p) hp
  have hX : gp (f_X8_step gx) (fun g => gfr gtx gx g ∧ gSx e (gs_ff (gsp b) e p) b (gx.1 4 0) g) := by
    unfold f_X8_step
    rw [gz_j0_e]
    refine x_skip hx hp h1 (fun g hf ga => ?_)
    have := x_J52 (hx.fr hf rfl (fun _ => rfl)) hp0.2 ga
    have t : g.1 4 0 = gx.1 4 0 := funext fun k => (hf 4 0 k rfl).1
    rw [t] at this
    exact gp_mono this (fun o q => ⟨(hf.w gp3_w).tr q.1, q.2⟩)
  have hM : gp (f_X11_next gm) (fun g => gfr gtm gm g ∧ gSm e (gs_ff (gsp b) e p) b (gx.1 4 0) g) := by
    unfold f_X11_next
    rw [gz_j0_e]
    refine m_skip hm hp h2 (fun g hf ga => ?_)
    have := m_J39 (T := gx.1 4 0) (hm.fr hf rfl (fun _ => rfl)) hx.2.2 hp0.2 ga
    exact gp_mono this (fun o q => ⟨(hf.w gp16_w).tr q.1, q.2⟩)
  generalize gs_ff (gsp b) e p = p0 at hp0 hX hM
  obtain ⟨gx', ex, fx, px, sx⟩ := hX
  obtain ⟨gm', em, fm, pm, sm⟩ := hM
  refine ⟨gx', gm', ex, em, fx, fm, ⟨p0, hp0.2, px, pm⟩, ?_⟩
  rcases sx with ⟨a1, a2, a3, a4⟩ | ⟨a1, a2, a3, a4⟩ | ⟨a1, a2, a3⟩ | ⟨a1, a2, a3, a4⟩ | ⟨a1, a2, a3, a4, a5⟩ | ⟨a1, a2, a3, a4, a5, a6⟩
  · rcases sm with ⟨b1, b2, b3, b4⟩ | ⟨b1, b2, b3, b4⟩ | ⟨b1, b2, b3⟩ | ⟨b1, b2, b3, b4, b5⟩ | ⟨b1, b2, b3, b4, b5⟩ | ⟨b1, b2, b3, b4, b5, b6⟩
    · obtain ⟨r1, r2, r3⟩ := g_run_pos a1 a2 a3
      rcases a4 with ⟨a5, a6, a7, a8⟩ | ⟨a5, a6⟩
      · rcases b4 with ⟨b5, b6, b7, b8⟩ | ⟨b5, b6⟩
        · obtain ⟨k, hk, ek⟩ := gV_lN 32 97 96 (T := gx.1 4 0) (p := p0) (a3 := 32) (a4 := 96) (by omega) (by decide) (by decide) (gs_ff (gnr b 97 122) e p0 - p0) (fun j hj => by
            have hj2 := r3 (p0 + j) (by omega) (by omega)
            have hby := hx.2.2 (p0 + j) (by omega)
            rcases hby.2 with ⟨-, q⟩ | ⟨q, -⟩
            · exact ⟨b (p0 + j) - 96, by omega, by rw [q, show b (p0 + j) - 96 + 96 = b (p0 + j) by omega], by omega⟩
            · omega) a5
          refine Or.inr ⟨⟨_, r2, a7, b7⟩, Or.inr (Or.inl ⟨a6, b6, k, ?_, by rw [a8, ek], by rw [b8, ek]⟩)⟩
          have : (32 : Nat) ^ (gs_ff (gnr b 97 122) e p0 - p0) ≤ 32 ^ 8 := Nat.pow_le_pow_right (by omega) a5
          have e8 : (32 : Nat) ^ 8 = 1099511627776 := by decide
          omega
        · omega
      · rcases b4 with ⟨b5, b6, b7, b8⟩ | ⟨b5, b6⟩
        · omega
        · exact Or.inl ⟨a6, b6⟩
    · omega
    · omega
    · unfold gsg at b2
      omega
    · omega
    · exact absurd ⟨a2, a3⟩ b2
  · rcases sm with ⟨b1, b2, b3, b4⟩ | ⟨b1, b2, b3, b4⟩ | ⟨b1, b2, b3⟩ | ⟨b1, b2, b3, b4, b5⟩ | ⟨b1, b2, b3, b4, b5⟩ | ⟨b1, b2, b3, b4, b5, b6⟩
    · omega
    · obtain ⟨r1, r2, r3⟩ := g_run_pos a1 a2 a3
      rcases a4 with ⟨a5, a6, a7, a8⟩ | ⟨a5, a6⟩
      · rcases b4 with ⟨b5, b6, b7, b8⟩ | ⟨b5, b6⟩
        · obtain ⟨k, hk, ek⟩ := gV_lN 10 48 48 (T := gx.1 4 0) (p := p0) (a3 := 10) (a4 := 48) (by omega) (by decide) (by decide) (gs_ff (gnr b 48 57) e p0 - p0) (fun j hj => by
            have hj2 := r3 (p0 + j) (by omega) (by omega)
            have hby := hx.2.2 (p0 + j) (by omega)
            rcases hby.2 with ⟨-, q⟩ | ⟨q, -⟩
            · exact ⟨b (p0 + j) - 48, by omega, by rw [q, show b (p0 + j) - 48 + 48 = b (p0 + j) by omega], by omega⟩
            · omega) (by omega)
          have hk4 : k < 10000 := by
            have : (10 : Nat) ^ (gs_ff (gnr b 48 57) e p0 - p0) ≤ 10 ^ 4 := Nat.pow_le_pow_right (by omega) a5
            omega
          exact Or.inr ⟨⟨_, r2, a7, b7⟩, Or.inr (Or.inr (Or.inl ⟨a6, b6, k, by omega, by rw [a8, ek, gl_32 (by omega)], by rw [b8, ek]⟩))⟩
        · omega
      · rcases b4 with ⟨b5, b6, b7, b8⟩ | ⟨b5, b6⟩
        · omega
        · exact Or.inl ⟨a6, b6⟩
    · omega
    · unfold gsg at b2
      omega
    · omega
    · exact absurd ⟨a2, a3⟩ b3
  · rcases sm with ⟨b1, b2, b3, b4⟩ | ⟨b1, b2, b3, b4⟩ | ⟨b1, b2, b3⟩ | ⟨b1, b2, b3, b4, b5⟩ | ⟨b1, b2, b3, b4, b5⟩ | ⟨b1, b2, b3, b4, b5, b6⟩
    · omega
    · omega
    · exact Or.inr ⟨⟨p0, hp0.2, a3, b3⟩, Or.inl ⟨a2, b2⟩⟩
    · omega
    · omega
    · omega
  · rcases sm with ⟨b1, b2, b3, b4⟩ | ⟨b1, b2, b3, b4⟩ | ⟨b1, b2, b3⟩ | ⟨b1, b2, b3, b4, b5⟩ | ⟨b1, b2, b3, b4, b5⟩ | ⟨b1, b2, b3, b4, b5, b6⟩
    · unfold gsg at a2
      omega
    · unfold gsg at a2
      omega
    · omega
    · exact Or.inr ⟨⟨p0 + 1, by omega, a4, b5⟩, Or.inr (Or.inr (Or.inr (Or.inr ⟨b p0, a2, a3, b3, b4⟩)))⟩
    · unfold gsg at a2
      omega
    · exact absurd a2 b4
  · rcases sm with ⟨b1, b2, b3, b4⟩ | ⟨b1, b2, b3, b4⟩ | ⟨b1, b2, b3⟩ | ⟨b1, b2, b3, b4, b5⟩ | ⟨b1, b2, b3, b4, b5⟩ | ⟨b1, b2, b3, b4, b5, b6⟩
    · omega
    · omega
    · omega
    · unfold gsg at b2
      omega
    · exact Or.inr ⟨⟨p0 + 2, by omega, a5, b5⟩, Or.inr (Or.inr (Or.inr (Or.inl ⟨a4, b4⟩)))⟩
    · exact absurd ⟨a2, a1, a3⟩ b5
  · rcases sm with ⟨b1, b2, b3, b4⟩ | ⟨b1, b2, b3, b4⟩ | ⟨b1, b2, b3⟩ | ⟨b1, b2, b3, b4, b5⟩ | ⟨b1, b2, b3, b4, b5⟩ | ⟨b1, b2, b3, b4, b5, b6⟩
    · exact absurd ⟨b2, b3⟩ a2
    · exact absurd ⟨b2, b3⟩ a3
    · omega
    · exact absurd b2 a4
    · exact absurd ⟨b2, b1, b3⟩ a5
    · exact Or.inl ⟨a6, b6⟩
