/-! tokens -/
theorem m_letters {j : Int32 → gz_S → Option gz_S} {Q : gz_S → Prop} {e p : Nat} {b : Nat → Nat} {T : Nat → Int32} {σ : gz_S} (hE : gEm e b σ) (hT : ∀ k, k < 400 → gBy (T k) (b k)) (hp : p ≤ e) (h3 : σ.1 0 0 16 = nI p) (h0 : σ.2.1 0 0 20 = 0) (hj : ∀ g, gfr gp16 σ g → g.1 0 0 16 = nI (gs_ff (gnr b 97 122) e p) → g.2.1 0 0 20 = gV T 32 96 p (min (gs_ff (gnr b 97 122) e p - p) 8) → gp (j (nI (gs_ff (gnr b 97 122) e p - p)) g) Q) : gp (gz_l1 (f_X11_next_L93 j) gz_fu 0 σ) Q := by
  have he := hE.1
  refine gp_l1 (fun v g m => ∃ k, p ≤ k ∧ k ≤ e ∧ m = e - k ∧ gfr gp16 σ g ∧ g.1 0 0 16 = nI k ∧ v = nI (k - p) ∧ g.2.1 0 0 20 = gV T 32 96 p (min (k - p) 8) ∧ gs_ff (gnr b 97 122) e k = gs_ff (gnr b 97 122) e p) ?_ gz_fu (e - p) 0 σ (by show e - p < 20000; omega) ⟨p, Nat.le_refl _, hp, rfl, gfr.rf, h3, by rw [Nat.sub_self]; rfl, by rw [Nat.sub_self]; exact h0, rfl⟩
  rintro rec m v g ⟨k, hpk, hk, rfl, hf, g3, rfl, gv, hs⟩ ih
  have hEg := hE.fr hf rfl (fun _ => rfl)
  unfold f_X11_next_L93
  rw [g3, m_byteAt hEg (by omega), gz_call_e]
  by_cases hke : k < e
  · rw [if_pos hke]
    have hb := (hEg.2.2 k (by omega)).1
    rw [m_isLetter hb, gz_call_e]
    by_cases hL : 97 ≤ b k ∧ b k ≤ 122
    · rw [if_pos hL]
      refine gp_neg (by decide) ?_
      have hw : gnr b 97 122 k = false := by
        unfold gnr
        simp only [Bool.not_eq_false', Bool.and_eq_true, decide_eq_true_eq]
        omega
      rw [gs_ff_s hke, if_neg (by rw [hw]; decide)] at hs
      rw [gz_j0_e]
      have hTk : T k = nI (b k) := by
        rcases (hT k (by omega)).2 with ⟨-, q⟩ | ⟨q, -⟩
        · exact q
        · omega
      unfold f_X11_next_J140
      by_cases h8 : 8 ≤ k - p
      · refine gp_pos ((gn_ge 8 (a := k - p)).mpr h8) ?_
        rw [gz_w_e, nI_1]
        refine ih _ _ (e - (k + 1)) (by omega) ⟨k + 1, by omega, by omega, rfl, hf.si rfl, ?_, by rw [show k + 1 - p = k - p + 1 by omega], ?_, hs⟩
        · rw [gz_si_1, if_pos ⟨rfl, rfl, rfl⟩, g3, nI_1]
        · show g.2.1 0 0 20 = _
          rw [gv, show min (k - p) 8 = min (k + 1 - p) 8 by omega]
      · refine gp_neg (fun q => h8 ((gn_ge 8 (a := k - p)).mp q)) ?_
        rw [g3, m_byteAt hEg (by omega), gz_call_e, if_pos hke, gz_w_e, gz_w_e, nI_1]
        refine ih _ _ (e - (k + 1)) (by omega) ⟨k + 1, by omega, by omega, rfl, (hf.sj rfl).si rfl, ?_, by rw [show k + 1 - p = k - p + 1 by omega], ?_, hs⟩
        · rw [gz_si_1, if_pos ⟨rfl, rfl, rfl⟩]
          show g.1 0 0 16 + 1 = _
          rw [g3, nI_1]
        · rw [gz_si_2, gz_sj_21, if_pos ⟨rfl, rfl, rfl⟩, gv, show min (k - p) 8 = k - p by omega, show min (k + 1 - p) 8 = (k - p) + 1 by omega]
          show _ = gV T 32 96 p (k - p) * (32 : Int32).toInt64 + (T (p + (k - p))).toInt64 - (96 : Int32).toInt64
          rw [show p + (k - p) = k by omega]
          exact gV_word hL.1 hL.2 hTk
    · rw [if_neg hL]
      have hw : gnr b 97 122 k = true := by
        unfold gnr
        simp only [Bool.not_eq_true', Bool.and_eq_false_iff, decide_eq_false_iff_not]
        omega
      have hend : gs_ff (gnr b 97 122) e p = k := by rw [← hs, gs_ff_s hke, if_pos hw]
      refine gp_pos rfl ?_
      have := hj g hf (by rw [hend]; exact g3) (by rw [hend]; exact gv)
      rw [hend] at this
      exact this
  · rw [if_neg hke, m_isLetterN, gz_call_e]
    have : k = e := by omega
    subst this
    have hend : gs_ff (gnr b 97 122) k p = k := by rw [← hs, gs_ff_e]
    refine gp_pos rfl ?_
    have := hj g hf (by rw [hend]; exact g3) (by rw [hend]; exact gv)
    rw [hend] at this
    exact this
theorem m_digits {j : Int32 → gz_S → Option gz_S} {Q : gz_S → Prop} {e p : Nat} {b : Nat → Nat} {T : Nat → Int32} {σ : gz_S} (hE : gEm e b σ) (hT : ∀ k, k < 400 → gBy (T k) (b k)) (hp : p ≤ e) (h3 : σ.1 0 0 16 = nI p) (h0 : σ.2.1 0 0 20 = 0) (hj : ∀ g, gfr gp16 σ g → g.1 0 0 16 = nI (gs_ff (gnr b 48 57) e p) → g.2.1 0 0 20 = gV T 10 48 p (min (gs_ff (gnr b 48 57) e p - p) 4) → gp (j (nI (gs_ff (gnr b 48 57) e p - p)) g) Q) : gp (gz_l1 (f_X11_next_L181 j) gz_fu 0 σ) Q := by
  have he := hE.1
  refine gp_l1 (fun v g m => ∃ k, p ≤ k ∧ k ≤ e ∧ m = e - k ∧ gfr gp16 σ g ∧ g.1 0 0 16 = nI k ∧ v = nI (k - p) ∧ g.2.1 0 0 20 = gV T 10 48 p (min (k - p) 4) ∧ gs_ff (gnr b 48 57) e k = gs_ff (gnr b 48 57) e p) ?_ gz_fu (e - p) 0 σ (by show e - p < 20000; omega) ⟨p, Nat.le_refl _, hp, rfl, gfr.rf, h3, by rw [Nat.sub_self]; rfl, by rw [Nat.sub_self]; exact h0, rfl⟩
  rintro rec m v g ⟨k, hpk, hk, rfl, hf, g3, rfl, gv, hs⟩ ih
  have hEg := hE.fr hf rfl (fun _ => rfl)
  unfold f_X11_next_L181
  rw [g3, m_byteAt hEg (by omega), gz_call_e]
  by_cases hke : k < e
  · rw [if_pos hke]
    have hb := (hEg.2.2 k (by omega)).1
    rw [m_isDigit hb, gz_call_e]
    by_cases hL : 48 ≤ b k ∧ b k ≤ 57
    · rw [if_pos hL]
      refine gp_neg (by decide) ?_
      have hw : gnr b 48 57 k = false := by
        unfold gnr
        simp only [Bool.not_eq_false', Bool.and_eq_true, decide_eq_true_eq]
        omega
      rw [gs_ff_s hke, if_neg (by rw [hw]; decide)] at hs
      rw [gz_j0_e]
      have hTk : T k = nI (b k) := by
        rcases (hT k (by omega)).2 with ⟨-, q⟩ | ⟨q, -⟩
        · exact q
        · omega
      unfold f_X11_next_J225
      by_cases h8 : 4 ≤ k - p
      · refine gp_pos ((gn_ge 4 (a := k - p)).mpr h8) ?_
        rw [gz_w_e, nI_1]
        refine ih _ _ (e - (k + 1)) (by omega) ⟨k + 1, by omega, by omega, rfl, hf.si rfl, ?_, by rw [show k + 1 - p = k - p + 1 by omega], ?_, hs⟩
        · rw [gz_si_1, if_pos ⟨rfl, rfl, rfl⟩, g3, nI_1]
        · show g.2.1 0 0 20 = _
          rw [gv, show min (k - p) 4 = min (k + 1 - p) 4 by omega]
      · refine gp_neg (fun q => h8 ((gn_ge 4 (a := k - p)).mp q)) ?_
        rw [g3, m_byteAt hEg (by omega), gz_call_e, if_pos hke, gz_w_e, gz_w_e, nI_1]
        refine ih _ _ (e - (k + 1)) (by omega) ⟨k + 1, by omega, by omega, rfl, (hf.sj rfl).si rfl, ?_, by rw [show k + 1 - p = k - p + 1 by omega], ?_, hs⟩
        · rw [gz_si_1, if_pos ⟨rfl, rfl, rfl⟩]
          show g.1 0 0 16 + 1 = _
          rw [g3, nI_1]
        · rw [gz_si_2, gz_sj_21, if_pos ⟨rfl, rfl, rfl⟩, gv, show min (k - p) 4 = k - p by omega, show min (k + 1 - p) 4 = (k - p) + 1 by omega]
          show _ = gV T 10 48 p (k - p) * (10 : Int32).toInt64 + (T (p + (k - p))).toInt64 - (48 : Int32).toInt64
          rw [show p + (k - p) = k by omega]
          exact gV_num hL.1 hL.2 hTk
    · rw [if_neg hL]
      have hw : gnr b 48 57 k = true := by
        unfold gnr
        simp only [Bool.not_eq_true', Bool.and_eq_false_iff, decide_eq_false_iff_not]
        omega
      have hend : gs_ff (gnr b 48 57) e p = k := by rw [← hs, gs_ff_s hke, if_pos hw]
      refine gp_pos rfl ?_
      have := hj g hf (by rw [hend]; exact g3) (by rw [hend]; exact gv)
      rw [hend] at this
      exact this
  · rw [if_neg hke, m_isDigitN, gz_call_e]
    have : k = e := by omega
    subst this
    have hend : gs_ff (gnr b 48 57) k p = k := by rw [← hs, gs_ff_e]
    refine gp_pos rfl ?_
    have := hj g hf (by rw [hend]; exact g3) (by rw [hend]; exact gv)
    rw [hend] at this
    exact this
def gtx (t _ k : Nat) : Bool := Nat.beq t 3 && (Nat.ble 3 k && Nat.ble k 7)
def gtm (t _ k : Nat) : Bool := Nat.beq t 0 && (Nat.ble 16 k && Nat.ble k 20)
def gsg (c : Nat) : Prop := c = 58 ∨ c = 59 ∨ c = 63 ∨ c = 47 ∨ c = 61
/-- the two tokens are one -/
def gTk (e : Nat) (σx σm : gz_S) : Prop := (∃ q, q ≤ e ∧ σx.1 3 0 5 = nI q ∧ σm.1 0 0 18 = nI q) ∧
  ((σx.1 3 0 4 = 4 ∧ σm.1 0 0 17 = 0) ∨
  ((∃ p, p ≤ e ∧ σx.1 3 0 3 = nI p ∧ σm.1 0 0 16 = nI p) ∧ (
    (σx.1 3 0 4 = 0 ∧ σm.1 0 0 17 = 1) ∨
    (σx.1 3 0 4 = 1 ∧ σm.1 0 0 17 = 2 ∧ ∃ k, k < 1099511627776 ∧ σx.2.1 3 0 7 = lN k ∧ σm.2.1 0 0 20 = lN k) ∨
    (σx.1 3 0 4 = 2 ∧ σm.1 0 0 17 = 3 ∧ ∃ v, v ≤ 9999 ∧ σx.1 3 0 6 = nI v ∧ σm.2.1 0 0 20 = lN v) ∨
    (σx.1 3 0 4 = 3 ∧ σm.1 0 0 17 = 4) ∨
    (∃ c, gsg c ∧ σx.1 3 0 4 = nI c ∧ σm.1 0 0 17 = 5 ∧ σm.1 0 0 19 = nI c))))
theorem gfr.w {p p' : Nat → Nat → Nat → Bool} {σ g : gz_S} (h : gfr p σ g) (hp : ∀ t i k, p' t i k = false → p t i k = false) : gfr p' σ g := fun t i k hq => h t i k (hp t i k hq)
theorem gp3_w : ∀ t i k, gtx t i k = false → gp3 t i k = false := by
  intro t i k h
  unfold gtx at h
  unfold gp3
  cases h3 : Nat.beq t 3 with
  | false => rfl
  | true =>
    rw [h3] at h
    cases hk : Nat.beq k 3 with
    | false => rfl
    | true =>
      have : k = 3 := Nat.eq_of_beq_eq_true hk
      subst this
      cases h
theorem gp16_w : ∀ t i k, gtm t i k = false → gp16 t i k = false := by
  intro t i k h
  unfold gtm at h
  unfold gp16
  cases h3 : Nat.beq t 0 with
  | false => rfl
  | true =>
    rw [h3] at h
    cases hk : Nat.beq k 16 with
    | true =>
      have : k = 16 := Nat.eq_of_beq_eq_true hk
      subst this
      cases h
    | false =>
      cases hk2 : Nat.beq k 20 with
      | true =>
        have : k = 20 := Nat.eq_of_beq_eq_true hk2
        subst this
        cases h
      | false => rfl
theorem g_run_pos {b : Nat → Nat} {lo hi e p : Nat} (hp : p < e) (h1 : lo ≤ b p) (h2 : b p ≤ hi) : p < gs_ff (gnr b lo hi) e p ∧ gs_ff (gnr b lo hi) e p ≤ e ∧ ∀ j, p ≤ j → j < gs_ff (gnr b lo hi) e p → lo ≤ b j ∧ b j ≤ hi := by
  have hle := gs_ff_le (w := gnr b lo hi) (e := e) (d := p + 1) (by omega)
  have hs := (gs_ff_spec (w := gnr b lo hi) (e := e) (d := p) (by omega)).2
  have hw : gnr b lo hi p = false := by
    unfold gnr
    simp only [Bool.not_eq_false', Bool.and_eq_true, decide_eq_true_eq]
    exact ⟨h1, h2⟩
  have he := gs_ff_s (w := gnr b lo hi) hp
  rw [if_neg (by rw [hw]; decide)] at he
  refine ⟨by omega, by omega, fun j hj1 hj2 => ?_⟩
  have := hs j hj1 hj2
  unfold gnr at this
  simp only [Bool.not_eq_false', Bool.and_eq_true, decide_eq_true_eq] at this
  exact this
theorem g_run_no {b : Nat → Nat} {lo hi e p : Nat} (hp : p ≤ e) (h : p < e → ¬ (lo ≤ b p ∧ b p ≤ hi)) : gs_ff (gnr b lo hi) e p = p := by
  by_cases he : p = e
  · subst he
    exact gs_ff_e _ _
  · rw [gs_ff_s (by omega), if_pos]
    unfold gnr
    have := h (by omega)
    simp only [Bool.not_eq_true', Bool.and_eq_false_iff, decide_eq_false_iff_not]
    omega
