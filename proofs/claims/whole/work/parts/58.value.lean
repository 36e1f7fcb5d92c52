/-! spans reckoned; values -/
theorem gl_64 {v : Nat} (h : v < 2 ^ 31) : (nI v).toInt64 = lN v := by
  apply Int64.toInt_inj.mp
  rw [Int32.toInt_toInt64, nI_toInt h, pk_lT (by omega)]
theorem gl_32 {v : Nat} (h : v < 2 ^ 31) : (lN v).toInt32 = nI v := by
  rw [← gl_64 h, lg_l2i_i2l]
def gprx (n t i _ : Nat) : Bool := Nat.beq t 15 && decide (i = n)
def gprm (n t _ k : Nat) : Bool := (Nat.beq t 21 || Nat.beq t 25) && decide (k / 8 = n)
theorem x_isSpan {i kd : Nat} {σ : gz_S} (hk : kd ≤ 5) (h : σ.1 8 i 1 = nI kd) : f_X3_isSpan i σ = some (if 4 ≤ kd then 1 else 0, σ) := by
  unfold f_X3_isSpan
  rw [h]
  by_cases h4 : kd = 4
  · subst h4
    rfl
  · by_cases h5 : kd = 5
    · subst h5
      rfl
    · rw [if_neg (fun q => h4 ((gn_eq 4 (a := kd)).mp q)), if_neg (fun q => h5 ((gn_eq 5 (a := kd)).mp q)), if_neg (by omega)]
      rfl
theorem g_spans0 {n : Nat} {fo : Nat → Nat} {σx σm : gz_S} (hN : n < 61) (hP : fo n < 13) (hform : rForm (σx.1 6) (σx.1 8) (σx.2.1 8) (σx.2.1 9) (σm.1 8 0) (σm.1 9 0) (σm.1 10 0) (σm.1 11 0) (σm.1 12 0) (σm.2.1 13 0) (σm.2.1 14 0) (fo n)) (hV : rNoteV n fo (σx.2.1 15) (σm.1 8 0) (σm.1 9 0) (σm.2.1 21 0) (σm.1 25 0)) (hcal : ∀ d, d < 10000 → gb (σx.2.1 2 0) d = σm.1 5 0 d) (hfo : σm.1 15 0 n = nI (fo n)) : ∃ gx gm, f_X4_reckon (fo n) n σx = some gx ∧ f_X11_spans (nI n) σm = some gm ∧ gfr (gprx n) σx gx ∧ gfr (gprm n) σm gm ∧ rNoteV n fo (gx.2.1 15) (σm.1 8 0) (σm.1 9 0) (gm.2.1 21 0) (gm.1 25 0) := by
  obtain ⟨s, hs, s1, s2, hk⟩ := hform
  have key : ∀ c k gx gm fx fm, s = k + c → c < fx → c < fm → gfr (gprx n) σx gx → gfr (gprm n) σm gm → rNoteV n fo (gx.2.1 15) (σm.1 8 0) (σm.1 9 0) (gm.2.1 21 0) (gm.1 25 0) → ∃ gx' gm', gz_l1 (f_X4_reckon_L2 (fo n) n) fx (nI k) gx = some gx' ∧ gz_l1 (f_X11_spans_L9 (nI (fo n)) (nI n)) fm (nI k) gm = some gm' ∧ gfr (gprx n) σx gx' ∧ gfr (gprm n) σm gm' ∧ rNoteV n fo (gx'.2.1 15) (σm.1 8 0) (σm.1 9 0) (gm'.2.1 21 0) (gm'.1 25 0) := by
    intro c
    induction c with
    | zero =>
      intro k gx gm fx fm hc hfx hfm hx hm hv
      obtain ⟨fx, rfl⟩ : ∃ q, fx = q + 1 := ⟨fx - 1, by omega⟩
      obtain ⟨fm, rfl⟩ : ∃ q, fm = q + 1 := ⟨fm - 1, by omega⟩
      refine ⟨gx, gm, ?_, ?_, hx, hm, hv⟩
      · show f_X4_reckon_L2 (fo n) n _ (nI k) gx = _
        unfold f_X4_reckon_L2
        rw [(hx 6 (fo n) 1 rfl).1, s1, if_pos (nI_le (by omega) (by omega))]
      · show f_X11_spans_L9 (nI (fo n)) (nI n) _ (nI k) gm = _
        unfold f_X11_spans_L9
        rw [gz_ix_nI (show fo n < 13 by omega) (by decide), (hm 8 0 (fo n) rfl).1, s2, if_pos (nI_le (by omega) (by omega))]
    | succ c ih =>
      intro k gx gm fx fm hc hfx hfm hx hm hv
      obtain ⟨fx, rfl⟩ : ∃ q, fx = q + 1 := ⟨fx - 1, by omega⟩
      obtain ⟨fm, rfl⟩ : ∃ q, fm = q + 1 := ⟨fm - 1, by omega⟩
      have hks : k < s := by omega
      obtain ⟨q0, q1, q2, q3, q4, kd, q5, q6, q7, q8, q9⟩ := hk k hks
      have ih' := fun gx gm => ih (k + 1) gx gm fx fm (by omega) (by omega) (by omega)
      show ∃ gx' gm', f_X4_reckon_L2 (fo n) n (gz_l1 (f_X4_reckon_L2 (fo n) n) fx) (nI k) gx = some gx' ∧ f_X11_spans_L9 (nI (fo n)) (nI n) (gz_l1 (f_X11_spans_L9 (nI (fo n)) (nI n)) fm) (nI k) gm = some gm' ∧ _
      generalize gz_l1 (f_X4_reckon_L2 (fo n) n) fx = rx at ih' ⊢
      generalize gz_l1 (f_X11_spans_L9 (nI (fo n)) (nI n)) fm = rm at ih' ⊢
      unfold f_X4_reckon_L2 f_X11_spans_L9
      have x8 : ∀ j, gx.1 8 (8 * fo n + k) j = σx.1 8 (8 * fo n + k) j := fun j => (hx 8 (8 * fo n + k) j rfl).1
      rw [(hx 6 (fo n) 1 rfl).1, s1, if_neg (nI_ge hks (by omega)), gz_ix_nI (show k < 8 by omega) (by decide), x_isSpan (kd := kd) q5 (by rw [x8, q1, q6]), gz_call_e, gz_j0_e, gz_ix_nI (show fo n < 13 by omega) (by decide), (hm 8 0 (fo n) rfl).1, s2, if_neg (nI_ge hks (by omega)), gz_v_e, gn_8]
      simp only [gz_ix_nI (show 8 * fo n + k < 104 by omega) (show 104 < 2 ^ 31 by decide), gz_j0_e, (hm 9 0 (8 * fo n + k) rfl).1, (hm 11 0 (8 * fo n + k) rfl).1, q6, gz_v_e]
      have hJx : ∀ g, f_X4_reckon_J77 (nI k) rx g = rx (nI (k + 1)) g := fun g => by
        unfold f_X4_reckon_J77
        rw [nI_1]
      have hJm : ∀ g, f_X11_spans_J130 (nI k) rm g = rm (nI (k + 1)) g := fun g => by
        unfold f_X11_spans_J130
        rw [nI_1]
      by_cases h4 : 4 ≤ kd
      · obtain ⟨b, v, kb, b1, b2, b3, b4, b5, b6⟩ := q9 h4
        have b5' : σm.1 9 0 (8 * fo n + b) = nI kb := by
          rw [show 8 * fo n + k - k + b = 8 * fo n + b by omega] at b5
          exact b5
        rw [if_pos h4, if_neg (show ¬ (1 : Int32) = 0 by decide), if_pos ((gn_ge 4 (a := kd)).mpr h4), x8, q4, b3, gz_ix_nI (show b < 8 by omega) (by decide), gz_j2_e, x8, q1, q6, x8, q8 (by omega), b4]
        simp only [gz_ix_nI (show 8 * n + b < 488 by omega) (show 488 < 2 ^ 31 by decide), gz_ix_nI (show 8 * n + k < 488 by omega) (show 488 < 2 ^ 31 by decide), gn_8, gz_w_e, gz_j4_e]
        have e25 : ∀ y, (gz_si gm 25 0 (8 * n + k) y).1 25 0 (8 * n + b) = gm.1 25 0 (8 * n + b) := fun y => by
          show (if 25 = 25 ∧ 0 = 0 ∧ 8 * n + b = 8 * n + k then _ else _) = _
          exact if_neg (fun q => by omega)
        have e9 : ∀ y, (gz_si gm 25 0 (8 * n + k) y).1 9 0 (8 * fo n + k) = nI kd := fun y => ((hm 9 0 (8 * fo n + k) rfl).1).trans q6
        have e10 : ∀ y, (gz_si gm 25 0 (8 * n + k) y).1 10 0 (8 * fo n + k) = nI v := fun y => ((hm 10 0 (8 * fo n + k) rfl).1).trans b4
        have e21 : ∀ y, (gz_si gm 25 0 (8 * n + k) y).2.1 21 0 (8 * n + b) = gm.2.1 21 0 (8 * n + b) := fun y => rfl
        rw [e25]
        simp only [e9, e10, e21, hJm]
        unfold f_X4_reckon_J76
        simp only [gz_ix_nI (show k < 8 by omega) (show 8 < 2 ^ 31 by decide), gz_w_e, hJx]
        have hpx : gprx n 15 n k = true := by
          show (true && decide (n = n)) = true
          simp
        have hpm : ∀ t, (t = 21 ∨ t = 25) → gprm n t 0 (8 * n + k) = true := by
          intro t ht
          have e : (8 * n + k) / 8 = n := by omega
          unfold gprm
          rcases ht with rfl | rfl
          · simp [e]
          · simp [e]
        have fin : ∀ (gx' gm' : gz_S), gfr (gprx n) σx gx' → gfr (gprm n) σm gm' → (∀ j, j ≠ k → gx'.2.1 15 n j = gx.2.1 15 n j) → (∀ j, j ≠ 8 * n + k → gm'.2.1 21 0 j = gm.2.1 21 0 j ∧ gm'.1 25 0 j = gm.1 25 0 j) → ((gm'.1 25 0 (8 * n + k) = 0 ∧ gx'.2.1 15 n k = -1) ∨ (gm'.1 25 0 (8 * n + k) = 1 ∧ ∃ r, r ≤ 10000 ∧ gx'.2.1 15 n k = lN r ∧ gm'.2.1 21 0 (8 * n + k) = lN r)) → ∃ gx'' gm'', rx (nI (k + 1)) gx' = some gx'' ∧ rm (nI (k + 1)) gm' = some gm'' ∧ gfr (gprx n) σx gx'' ∧ gfr (gprm n) σm gm'' ∧ rNoteV n fo (gx''.2.1 15) (σm.1 8 0) (σm.1 9 0) (gm''.2.1 21 0) (gm''.1 25 0) := by
          intro gx' gm' f1 f2 o1 o2 hor
          refine ih' gx' gm' f1 f2 (fun j hj => ?_)
          by_cases ej : j = k
          · subst ej
            rcases hor with ⟨a1, a2⟩ | ⟨a1, r, a2, a3, a4⟩
            · exact Or.inl ⟨a1, a2⟩
            · refine Or.inr ⟨a1, a3.trans a4.symm, ?_, fun _ _ _ _ _ _ _ => ⟨r, a2, a4⟩⟩
              rw [a4]
              intro q
              have := congrArg Int64.toInt q
              rw [pk_lT (by omega)] at this
              have e : (-1 : Int64).toInt = -1 := by decide
              omega
          · rw [o1 j ej, (o2 (8 * n + j) (by omega)).1, (o2 (8 * n + j) (by omega)).2]
            exact hv j hj
        rcases hv b (by omega) with ⟨c1, c2⟩ | ⟨c1, c2, c3, c4⟩
        · rw [c1, c2, if_pos rfl, if_pos (by decide)]
          refine fin _ _ (hx.sj hpx) (hm.si (hpm 25 (Or.inr rfl))) (fun j hj => ?_) (fun j hj => ⟨rfl, ?_⟩) (Or.inl ⟨?_, ?_⟩)
          · show (if 15 = 15 ∧ n = n ∧ j = k then _ else _) = _
            exact if_neg (fun q => hj q.2.2)
          · show (if 25 = 25 ∧ 0 = 0 ∧ j = 8 * n + k then _ else _) = _
            exact if_neg (fun q => hj q.2.2)
          · show (if 25 = 25 ∧ 0 = 0 ∧ 8 * n + k = 8 * n + k then (0 : Int32) &&& 1 else _) = _
            rw [if_pos ⟨rfl, rfl, rfl⟩]
            rfl
          · show (if 15 = 15 ∧ n = n ∧ k = k then (-1 : Int64) else _) = _
            rw [if_pos ⟨rfl, rfl, rfl⟩]
        · obtain ⟨vv, hvv, ev⟩ := c4 s kb s2 hs (by omega) b5' b6
          have hgb : ∀ d, d < 10000 → gb (gx.2.1 2 0) d = σm.1 5 0 d := fun d hd => by
            have e2 : gx.2.1 2 0 = σx.2.1 2 0 := funext fun j => (hx 2 0 j rfl).2
            rw [e2]
            exact hcal d hd
          have hr : ∀ bb : Int32, gs_sp (wk (σm.1 5 0)) vv v bb ≤ 10000 := fun bb => gs_sp_le hvv
          have hmsp : ∀ (bb : Int32) (y : Int32), f_X11_spanOf (nI vv) (nI v) bb (gz_si gm 25 0 (8 * n + k) y) = some (nI (gs_sp (wk (σm.1 5 0)) vv v bb), gz_si gm 25 0 (8 * n + k) y) := fun bb y => by
            have e := m_spanOf (b := bb) (σ := gz_si gm 25 0 (8 * n + k) y) (show vv ≤ 10000 by omega) (show v ≤ 9999 by omega)
            have e5 : (gz_si gm 25 0 (8 * n + k) y).1 5 0 = σm.1 5 0 := funext fun j => (hm 5 0 j rfl).1
            rw [e5] at e
            exact e
          rw [c1, c2, ev, if_neg (show ¬ (1 : Int32) = 0 by decide), gl_32 (by omega), if_neg (gn_ne1 (by omega))]
          unfold f_X4_reckon_J72 f_X11_spans_J125
          rw [x_behind hgb hvv b2, x_behind hgb hvv b2, hmsp, hmsp]
          simp only [gz_call_e, gz_ix_nI (show k < 8 by omega) (show 8 < 2 ^ 31 by decide), gz_ix_nI (show 8 * n + k < 488 by omega) (show 488 < 2 ^ 31 by decide), gz_w_e, hJx, hJm]
          have both : ∀ bb : Int32, ∃ gx'' gm'', rx (nI (k + 1)) (gz_sj gx 15 n k (nI (gs_sp (wk (σm.1 5 0)) vv v bb)).toInt64) = some gx'' ∧ rm (nI (k + 1)) (gz_sj (gz_si gm 25 0 (8 * n + k) ((1 : Int32) &&& 1)) 21 0 (8 * n + k) (nI (gs_sp (wk (σm.1 5 0)) vv v bb)).toInt64) = some gm'' ∧ gfr (gprx n) σx gx'' ∧ gfr (gprm n) σm gm'' ∧ rNoteV n fo (gx''.2.1 15) (σm.1 8 0) (σm.1 9 0) (gm''.2.1 21 0) (gm''.1 25 0) := by
            intro bb
            have hrb := hr bb
            rw [gl_64 (by omega)]
            refine fin _ _ (hx.sj hpx) ((hm.si (hpm 25 (Or.inr rfl))).sj (hpm 21 (Or.inl rfl))) (fun j hj => ?_) (fun j hj => ⟨?_, ?_⟩) (Or.inr ⟨?_, _, hrb, ?_, ?_⟩)
            · show (if 15 = 15 ∧ n = n ∧ j = k then _ else _) = _
              exact if_neg (fun q => hj q.2.2)
            · show (if 21 = 21 ∧ 0 = 0 ∧ j = 8 * n + k then _ else _) = _
              exact if_neg (fun q => hj q.2.2)
            · show (if 25 = 25 ∧ 0 = 0 ∧ j = 8 * n + k then _ else _) = _
              exact if_neg (fun q => hj q.2.2)
            · show (if 25 = 25 ∧ 0 = 0 ∧ 8 * n + k = 8 * n + k then (1 : Int32) &&& 1 else _) = _
              rw [if_pos ⟨rfl, rfl, rfl⟩]
              rfl
            · show (if 15 = 15 ∧ n = n ∧ k = k then _ else _) = _
              rw [if_pos ⟨rfl, rfl, rfl⟩]
            · show (if 21 = 21 ∧ 0 = 0 ∧ 8 * n + k = 8 * n + k then _ else _) = _
              rw [if_pos ⟨rfl, rfl, rfl⟩]
          by_cases h5 : nI kd = 5
          · rw [if_pos h5, if_pos h5]
            exact both 1
          · rw [if_neg h5, if_neg h5]
            exact both 0
      · rw [if_neg h4, if_pos rfl, if_neg (fun q => h4 ((gn_ge 4 (a := kd)).mp q)), hJx, hJm]
        exact ih' gx gm hx hm hv
  obtain ⟨gx, gm, ex, em, fx, fm, hv⟩ := key s 0 σx σm gz_fu gz_fu (by omega) (by show s < 20000; omega) (by show s < 20000; omega) gfr.rf gfr.rf hV
  refine ⟨gx, gm, ex, ?_, fx, fm, hv⟩
  unfold f_X11_spans
  rw [gz_ix_nI (show n < 61 by omega) (by decide), gz_v_e, hfo]
  exact em
theorem g_spans {F P N I : Nat} {fo la : Nat → Nat} {L : List gA} {σx σm : gz_S} (h : rAll F P N I fo la L σx σm) {n : Nat} (hn : n < N) : ∃ gx gm, f_X4_reckon (fo n) n σx = some (gov (gprx n) σx gx) ∧ f_X11_spans (nI n) σm = some (gov (gprm n) σm gm) ∧ rAll F P N I fo la L (gov (gprx n) σx gx) (gov (gprm n) σm gm) := by
  have hB := h.2.2.2.2.2.2.2.2.2.2.2.B
  have hN := hB.2.2.1
  have hf := (hB.2.2.2 n hn).1
  have hP := hB.2.1
  obtain ⟨gx, gm, ex, em, fx, fm, hv⟩ := g_spans0 (σx := σx) (σm := σm) (by omega) (by omega) (h.2.2.2.1.2.2 (fo n) hf) (h.2.2.2.2.2.2.2.1 n hn) (fun d hd => (h.1.1 d hd).1) (h.2.2.2.2.2.1 n hn).2.1
  have ex' := gov_eq fx
  have em' := gov_eq fm
  refine ⟨gx, gm, ?_, ?_, ?_⟩
  · rw [← ex']
    exact ex
  · rw [← em']
    exact em
  · refine ⟨h.1, h.2.1, h.2.2.1, h.2.2.2.1, h.2.2.2.2.1, h.2.2.2.2.2.1, h.2.2.2.2.2.2.1, fun j hj => ?_, h.2.2.2.2.2.2.2.2.1, h.2.2.2.2.2.2.2.2.2.1, h.2.2.2.2.2.2.2.2.2.2.1, h.2.2.2.2.2.2.2.2.2.2.2⟩
    by_cases e : j = n
    · subst e
      rw [← ex', ← em']
      have e8 : gm.1 8 0 = σm.1 8 0 := funext fun a => (fm 8 0 a rfl).1
      have e9 : gm.1 9 0 = σm.1 9 0 := funext fun a => (fm 9 0 a rfl).1
      rw [e8, e9]
      exact hv
    · intro k hk
      rw [← ex', ← em']
      have e8 : gm.1 8 0 = σm.1 8 0 := funext fun a => (fm 8 0 a rfl).1
      have e9 : gm.1 9 0 = σm.1 9 0 := funext fun a => (fm 9 0 a rfl).1
      have p1 : gprx n 15 j k = false := by
        show (true && decide (j = n)) = false
        simp [e]
      have p2 : ∀ t, (t = 21 ∨ t = 25) → gprm n t 0 (8 * j + k) = false := by
        intro t ht
        have e' : ¬ (8 * j + k) / 8 = n := by omega
        unfold gprm
        simp [e']
      rw [e8, e9, (fx 15 j k p1).2, (fm 21 0 (8 * j + k) (p2 21 (Or.inl rfl))).2, (fm 25 0 (8 * j + k) (p2 25 (Or.inr rfl))).1]
      exact h.2.2.2.2.2.2.2.1 j hj k hk
theorem s_value {σx σm : gz_S} (h : gR σx σm) (a b : Int32) : gQ (f_X9_value a b σx) (f_X11_value a b σm) := by
  obtain ⟨F, P, N, I, fo, la, L, h⟩ := h
  unfold f_X9_value f_X11_value
  rw [gz_w_e]
  replace h := h.th 0
  generalize gz_si σm 0 0 0 0 = σm at h ⊢
  have hR : gR σx σm := ⟨F, P, N, I, fo, la, L, h⟩
  obtain ⟨n1, n2⟩ := h.2.2.2.2.1
  have hB := h.2.2.2.2.2.2.2.2.2.2.2.B
  have hN := hB.2.2.1
  rcases g_note a hN with ⟨n, hn, rfl, e1, e2⟩ | ⟨-, e1, e2⟩
  · rw [e1 _ n1, e2 _ n2, gz_call_e, gz_call_e, if_neg (show ¬ (1 : Int32) = 0 by decide), gz_nl_some (show n < 61 by omega)]
    have hf := (hB.2.2.2 n hn).1
    have hP := hB.2.1
    obtain ⟨a0, a0', -, -, a3, -⟩ := h.2.2.2.2.2.1 n hn
    obtain ⟨s, hs, s1, s2, hk⟩ := h.2.2.2.1.2.2 (fo n) hf
    rw [a0]
    rcases g_form (nI (fo n)) hP with ⟨f, hf', ef, f1, -⟩ | ⟨f1, f2⟩
    · have : fo n = f := (nI_eq (by omega) (by omega)).mp ef
      subst this
      rw [f1 _ h.2.2.2.1.1, gz_call_e, gz_nl_some (show fo n < 13 by omega), s1]
      simp only [gz_ix_nI (show n < 61 by omega) (show 61 < 2 ^ 31 by decide)]
      rw [show σm.1 15 0 n = nI (fo n) from a0', gz_ix_nI (show fo n < 13 by omega) (by decide), show σm.1 8 0 (fo n) = nI s from s2]
      rcases g_ixc b (c := s) (by omega) with h' | ⟨h1, h2, h3⟩ | ⟨k, hkk, rfl, h1, h2, h3⟩
      · rw [if_pos h', if_pos h']
        exact gQ_mk rfl rfl hR
      · rw [if_neg h1, if_neg h1, if_neg h3, if_neg h3]
        exact gQ_mk rfl rfl hR
      · rw [if_neg h1, if_neg h1, if_pos h2, if_pos h2, x_waits, gz_call_e, gz_j0_e, a3]
        have hfin : ∀ gx gm, rAll F P N I fo la L gx gm → gQ (gz_ix (nI k) 8 (fun n9 => some (gx.2.1 15 n n9, gx))) (f_X11_value_J51 (nI n) (nI k) gm) := by
          intro gx gm hr
          unfold f_X11_value_J51
          rw [gn_8, gz_ix_nI (show k < 8 by omega) (by decide), gz_ix_nI (show 8 * n + k < 488 by omega) (by decide)]
          rcases hr.2.2.2.2.2.2.2.1 n hn k (by omega) with ⟨c1, c2⟩ | ⟨c1, c2, -⟩
          · rw [c1, c2, if_pos rfl]
            exact gQ_mk rfl rfl ⟨F, P, N, I, fo, la, L, hr⟩
          · rw [c1, c2, if_neg (show ¬ (1 : Int32) = 0 by decide), gz_ix_nI (show 8 * n + k < 488 by omega) (by decide)]
            exact gQ_mk rfl rfl ⟨F, P, N, I, fo, la, L, hr⟩
        by_cases hw : σm.1 18 0 n = -1
        · rw [if_pos hw, if_neg (show ¬ (1 : Int32) = 0 by decide), if_pos hw]
          obtain ⟨gx, gm, ex, em, hr⟩ := g_spans h hn
          rw [ex, em, gz_then_e, gz_then_e]
          exact hfin _ _ hr
        · rw [if_neg hw, if_pos rfl, if_neg hw]
          exact hfin _ _ h
    · exfalso
      have := f1 σx h.2.2.2.1.1
      unfold f_X9_formAt at this
      rw [if_neg (nI_pos (by omega)), h.2.2.2.1.1, if_pos (nI_lt hf (by omega)), gz_ix_nI (show fo n < 13 by omega) (by decide)] at this
      cases this
  · rw [e1 _ n1, e2 _ n2, gz_call_e, gz_call_e, if_pos rfl, gz_nl_none]
    exact gQ_mk rfl rfl hR
