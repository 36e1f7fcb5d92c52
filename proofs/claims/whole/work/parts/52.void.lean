/-! which notices are void -/
def gvd (kn : Nat → Bool) (c : Nat → Int32) (N : Nat) : Nat → Nat → Int32
  | 0 => fun _ => 0
  | m + 1 => if kn (N - (m + 1)) = true ∧ gvd kn c N m (N - (m + 1)) = 0 ∧ c (N - (m + 1)) ≠ -1 then upd (gvd kn c N m) (c (N - (m + 1))).toInt.toNat 1 else gvd kn c N m
theorem gvd_s (kn : Nat → Bool) (c : Nat → Int32) (N m : Nat) : gvd kn c N (m + 1) = if kn (N - (m + 1)) = true ∧ gvd kn c N m (N - (m + 1)) = 0 ∧ c (N - (m + 1)) ≠ -1 then upd (gvd kn c N m) (c (N - (m + 1))).toInt.toNat 1 else gvd kn c N m := rfl
def gpvx (t _ k : Nat) : Bool := Nat.beq t 14 && Nat.beq k 14
def gpvm (t _ _ : Nat) : Bool := Nat.beq t 38
theorem x_voids2 {N : Nat} (hN : N ≤ 60) {kn : Int32} {σ : gz_S} {w : Nat → Bool} {c : Nat → Int32} (h1 : σ.1 10 0 1 = nI N) (hk : ∀ n, n < N → ∀ g, gfr gpvx σ g → f_X6_isKnown n kn g = some (if w n = true then 1 else 0, g)) (hc : ∀ n, n < N → σ.1 14 n 10 = c n ∧ (c n = -1 ∨ ∃ j, j < n ∧ c n = nI j)) (h0 : ∀ n, n < N → σ.1 14 n 14 = 0) : gp (gz_l1 (f_X1_markVoid_L33 kn) gz_fu (nI N - 1) σ) (fun g => gfr gpvx σ g ∧ ∀ n, n < N → g.1 14 n 14 = gvd w c N N n) := by
  refine gp_l1 (fun v g m => ∃ k, k ≤ N ∧ v = nI (N - k) - 1 ∧ m = N - k ∧ gfr gpvx σ g ∧ ∀ n, n < N → g.1 14 n 14 = gvd w c N k n) ?_ gz_fu N _ σ (by show N < 20000; omega) ⟨0, by omega, by rw [Nat.sub_zero], by rw [Nat.sub_zero], gfr.rf, h0⟩
  rintro rec m v g ⟨k, hkN, rfl, rfl, hf, hv⟩ ih
  unfold f_X1_markVoid_L33
  by_cases he : k = N
  · subst he
    rw [Nat.sub_self]
    exact gp_pos (by decide) ⟨_, rfl, hf, hv⟩
  · have hi : N - k = (N - (k + 1)) + 1 := by omega
    rw [hi, nI_pred]
    generalize hie : N - (k + 1) = i at hi ⊢
    have hiN : i < N := by omega
    refine gp_neg (nI_pos (by omega)) ?_
    rw [gz_ix_nI (show i < 61 by omega) (by decide)]
    have g10 : g.1 14 i 10 = c i := ((hf 14 i 10 rfl).1).trans (hc i hiN).1
    have g1 : g.1 10 0 1 = nI N := ((hf 10 0 1 rfl).1).trans h1
    have hJ : ∀ g', gfr gpvx σ g' → (∀ n, n < N → g'.1 14 n 14 = gvd w c N (k + 1) n) → gp (f_X1_markVoid_J80 (nI i) rec g') (fun g => gfr gpvx σ g ∧ ∀ n, n < N → g.1 14 n 14 = gvd w c N N n) := by
      intro g' hf' hv'
      unfold f_X1_markVoid_J80
      refine ih _ _ i (by omega) ⟨k + 1, by omega, ?_, by omega, hf', hv'⟩
      rw [hie]
      exact (Int32.sub_eq_add_neg (nI i) 1).symm
    have hs := gvd_s w c N k
    rw [hie] at hs
    rcases (hc i hiN).2 with ec | ⟨j, hj, ec⟩
    · have hat : f_X1_at (-1) g = some (none, g) := by
        unfold f_X1_at
        rw [if_pos (by decide)]
      rw [g10, ec, hat, gz_call_e, gz_j0_e, gz_nl_none]
      refine hJ g hf (fun n hn => ?_)
      rw [hv n hn, hs, if_neg (fun q => q.2.2 ec)]
    · have hat : f_X1_at (nI j) g = some (some j, g) := by
        unfold f_X1_at
        rw [if_neg (nI_pos (by omega)), g1, if_pos (nI_lt (by omega) (by omega)), gz_ix_nI (show j < 61 by omega) (by decide)]
      rw [g10, ec, hat, gz_call_e, gz_j0_e, gz_nl_some (show j < 61 by omega), hk i hiN g hf, gz_call_e]
      have hne : c i ≠ -1 := by rw [ec]; exact gn_ne1 (by omega)
      by_cases hw : w i = true
      · rw [if_pos hw]
        refine gp_neg (by decide) ?_
        by_cases hz : g.1 14 i 14 = 0
        · refine gp_pos hz ?_
          rw [gz_w_e]
          refine hJ _ (hf.si rfl) (fun n hn => ?_)
          rw [hs, if_pos ⟨hw, by rw [← hv i hiN]; exact hz, hne⟩, ec, gz_nI_tn (by omega)]
          show (if 14 = 14 ∧ n = j ∧ 14 = 14 then (1 : Int32) else g.1 14 n 14) = if n = j then 1 else gvd w c N k n
          simp only [true_and, and_true]
          rw [hv n hn]
        · refine gp_neg hz (hJ g hf (fun n hn => ?_))
          rw [hv n hn, hs, if_neg (fun q => hz (by rw [hv i hiN]; exact q.2.1))]
      · rw [if_neg hw]
        refine gp_pos rfl (hJ g hf (fun n hn => ?_))
        rw [hv n hn, hs, if_neg (fun q => hw q.1)]
theorem x_markVoid {N : Nat} (hN : N ≤ 60) {kn : Int32} {σ : gz_S} {w : Nat → Bool} {c : Nat → Int32} (h1 : σ.1 10 0 1 = nI N) (hk : ∀ n, n < N → ∀ g, gfr gpvx σ g → f_X6_isKnown n kn g = some (if w n = true then 1 else 0, g)) (hc : ∀ n, n < N → σ.1 14 n 10 = c n ∧ (c n = -1 ∨ ∃ j, j < n ∧ c n = nI j)) : gp (f_X1_markVoid kn σ) (fun g => gfr gpvx σ g ∧ ∀ n, n < N → g.1 14 n 14 = gvd w c N N n) := by
  unfold f_X1_markVoid
  rw [gz_j0_e]
  refine gp_l1 (fun v g m => ∃ i, v = nI i ∧ i ≤ N ∧ m = N - i ∧ gfr gpvx σ g ∧ ∀ n, n < i → g.1 14 n 14 = 0) ?_ gz_fu N 0 σ (by show N < 20000; omega) ⟨0, rfl, by omega, by omega, gfr.rf, fun n hn => by omega⟩
  rintro rec m v g ⟨i, rfl, hi, rfl, hf, hz⟩ ih
  unfold f_X1_markVoid_L2
  have g1 : g.1 10 0 1 = nI N := ((hf 10 0 1 rfl).1).trans h1
  rw [g1]
  by_cases he : i = N
  · subst he
    refine gp_pos (nI_le (Nat.le_refl _) (by omega)) ?_
    unfold f_X1_markVoid_J26
    rw [g1, gz_v_e]
    refine gp_mono (x_voids2 hN g1 (fun n hn g' hf' => hk n hn g' (hf.tr hf')) (fun n hn => ⟨((hf 14 n 10 rfl).1).trans (hc n hn).1, (hc n hn).2⟩) hz) (fun g' q => ⟨hf.tr q.1, q.2⟩)
  · refine gp_neg (nI_ge (by omega) (by omega)) ?_
    rw [gz_ix_nI (show i < 61 by omega) (by decide), gz_w_e, nI_1]
    refine ih _ _ (N - (i + 1)) (by omega) ⟨i + 1, rfl, by omega, rfl, hf.si rfl, fun n hn => ?_⟩
    show (if 14 = 14 ∧ n = i ∧ 14 = 14 then (0 : Int32) else g.1 14 n 14) = 0
    by_cases e : n = i
    · rw [if_pos ⟨rfl, e, rfl⟩]
    · rw [if_neg (fun q => e q.2.1)]
      exact hz n (by omega)
theorem m_voids2 {N : Nat} (hN : N ≤ 60) {kn : Int32} {σ : gz_S} {w : Nat → Bool} {c : Nat → Int32} (hk : ∀ n, n < N → ∀ g, gfr gpvm σ g → f_X11_isKnown (nI n) kn g = some (if w n = true then 1 else 0, g)) (hc : ∀ n, n < N → σ.1 20 0 n = c n ∧ (c n = -1 ∨ ∃ j, j < n ∧ c n = nI j)) (h0 : ∀ n, n < N → σ.1 38 0 n = 0) : gp (gz_l1 (f_X11_voids_L30 kn) gz_fu (nI N - 1) σ) (fun g => gfr gpvm σ g ∧ ∀ n, n < N → g.1 38 0 n = gvd w c N N n) := by
  refine gp_l1 (fun v g m => ∃ k, k ≤ N ∧ v = nI (N - k) - 1 ∧ m = N - k ∧ gfr gpvm σ g ∧ ∀ n, n < N → g.1 38 0 n = gvd w c N k n) ?_ gz_fu N _ σ (by show N < 20000; omega) ⟨0, by omega, by rw [Nat.sub_zero], by rw [Nat.sub_zero], gfr.rf, h0⟩
  rintro rec m v g ⟨k, hkN, rfl, rfl, hf, hv⟩ ih
  unfold f_X11_voids_L30
  by_cases he : k = N
  · subst he
    rw [Nat.sub_self]
    exact gp_pos (by decide) ⟨_, rfl, hf, hv⟩
  · have hi : N - k = (N - (k + 1)) + 1 := by omega
    rw [hi, nI_pred]
    generalize hie : N - (k + 1) = i at hi ⊢
    have hiN : i < N := by omega
    refine gp_neg (nI_pos (by omega)) ?_
    rw [hk i hiN g hf, gz_call_e, gz_j0_e]
    have g10 : g.1 20 0 i = c i := ((hf 20 0 i rfl).1).trans (hc i hiN).1
    have hJ : ∀ g', gfr gpvm σ g' → (∀ n, n < N → g'.1 38 0 n = gvd w c N (k + 1) n) → gp (f_X11_voids_J74 (nI i) rec g') (fun g => gfr gpvm σ g ∧ ∀ n, n < N → g.1 38 0 n = gvd w c N N n) := by
      intro g' hf' hv'
      unfold f_X11_voids_J74
      refine ih _ _ i (by omega) ⟨k + 1, by omega, ?_, by omega, hf', hv'⟩
      rw [hie]
      exact (Int32.sub_eq_add_neg (nI i) 1).symm
    have hs := gvd_s w c N k
    rw [hie] at hs
    by_cases hw : w i = true
    · rw [if_pos hw]
      refine gp_neg (by decide) ?_
      rw [gz_ix_nI (show i < 60 by omega) (by decide)]
      by_cases hz : g.1 38 0 i = 0
      · refine gp_pos hz ?_
        rw [gz_ix_nI (show i < 61 by omega) (by decide), gz_ix_nI (show i < 61 by omega) (by decide), g10]
        rcases (hc i hiN).2 with ec | ⟨j, hj, ec⟩
        · refine gp_pos ec (hJ g hf (fun n hn => ?_))
          rw [hv n hn, hs, if_neg (fun q => q.2.2 ec)]
        · have hne : c i ≠ -1 := by rw [ec]; exact gn_ne1 (by omega)
          refine gp_neg hne ?_
          rw [ec, gz_ix_nI (show j < 60 by omega) (by decide), gz_w_e]
          refine hJ _ (hf.si rfl) (fun n hn => ?_)
          rw [hs, if_pos ⟨hw, by rw [← hv i hiN]; exact hz, hne⟩, ec, gz_nI_tn (by omega)]
          show (if 38 = 38 ∧ 0 = 0 ∧ n = j then ((1 : Int32) &&& 1) else g.1 38 0 n) = if n = j then 1 else gvd w c N k n
          simp only [true_and]
          rw [hv n hn, show (1 : Int32) &&& 1 = 1 by decide]
      · refine gp_neg hz (hJ g hf (fun n hn => ?_))
        rw [hv n hn, hs, if_neg (fun q => hz (by rw [hv i hiN]; exact q.2.1))]
    · rw [if_neg hw]
      refine gp_pos rfl (hJ g hf (fun n hn => ?_))
      rw [hv n hn, hs, if_neg (fun q => hw q.1)]
theorem m_voids {N : Nat} (hN : N ≤ 60) {kn : Int32} {σ : gz_S} {w : Nat → Bool} {c : Nat → Int32} (h1 : σ.1 0 0 29 = nI N) (hk : ∀ n, n < N → ∀ g, gfr gpvm σ g → f_X11_isKnown (nI n) kn g = some (if w n = true then 1 else 0, g)) (hc : ∀ n, n < N → σ.1 20 0 n = c n ∧ (c n = -1 ∨ ∃ j, j < n ∧ c n = nI j)) : gp (f_X11_voids kn σ) (fun g => gfr gpvm σ g ∧ ∀ n, n < N → g.1 38 0 n = gvd w c N N n) := by
  unfold f_X11_voids
  rw [gz_j0_e]
  refine gp_l1 (fun v g m => ∃ i, v = nI i ∧ i ≤ N ∧ m = N - i ∧ gfr gpvm σ g ∧ ∀ n, n < i → g.1 38 0 n = 0) ?_ gz_fu N 0 σ (by show N < 20000; omega) ⟨0, rfl, by omega, by omega, gfr.rf, fun n hn => by omega⟩
  rintro rec m v g ⟨i, rfl, hi, rfl, hf, hz⟩ ih
  unfold f_X11_voids_L2
  have g1 : g.1 0 0 29 = nI N := ((hf 0 0 29 rfl).1).trans h1
  rw [g1]
  by_cases he : i = N
  · subst he
    refine gp_pos (nI_le (Nat.le_refl _) (by omega)) ?_
    unfold f_X11_voids_J23
    rw [g1, gz_v_e]
    refine gp_mono (m_voids2 hN (fun n hn g' hf' => hk n hn g' (hf.tr hf')) (fun n hn => ⟨((hf 20 0 n rfl).1).trans (hc n hn).1, (hc n hn).2⟩) hz) (fun g' q => ⟨hf.tr q.1, q.2⟩)
  · refine gp_neg (nI_ge (by omega) (by omega)) ?_
    rw [gz_ix_nI (show i < 60 by omega) (by decide), gz_w_e, nI_1]
    refine ih _ _ (N - (i + 1)) (by omega) ⟨i + 1, rfl, by omega, rfl, hf.si rfl, fun n hn => ?_⟩
    show (if 38 = 38 ∧ 0 = 0 ∧ n = i then ((0 : Int32) &&& 1) else g.1 38 0 n) = 0
    by_cases e : n = i
    · rw [if_pos ⟨rfl, rfl, e⟩]
      rfl
    · rw [if_neg (fun q => e q.2.2)]
      exact hz n (by omega)
/-- both, side by side -/
theorem g_voids {F P N I : Nat} {fo la : Nat → Nat} {L : List gA} {σx σm : gz_S} (h : rAll F P N I fo la L σx σm) (kn : Int32) : ∃ gx gm, f_X1_markVoid kn σx = some (gov gpvx σx gx) ∧ f_X11_voids kn σm = some (gov gpvm σm gm) ∧ (∀ n, n < N → gx.1 14 n 14 = gvd (gkn (σm.1 18 0) (σm.1 29 0) kn) (σm.1 20 0) N N n ∧ gm.1 38 0 n = gvd (gkn (σm.1 18 0) (σm.1 29 0) kn) (σm.1 20 0) N N n) ∧ rAll F P N I fo la L (gov gpvx σx gx) (gov gpvm σm gm) := by
  have hN := h.2.2.2.2.2.2.2.2.2.2.2.B.2.2.1
  obtain ⟨n1, n2⟩ := h.2.2.2.2.1
  obtain ⟨gx, ex, fx, vx⟩ := x_markVoid (w := gkn (σm.1 18 0) (σm.1 29 0) kn) (c := σm.1 20 0) (kn := kn) hN n1 (fun n hn g hf => by
    have hk := rKn h hn
    exact x_isKnown hk.1 (((hf 14 n 3 rfl).1).trans hk.2.1) (by
      rcases hk.2.2 with e | ⟨i, i1, i2, i3⟩
      · exact Or.inl e
      · exact Or.inr ⟨i, i1, i2, ((hf 14 n 4 rfl).1).trans i3⟩)) (fun n hn => by
    obtain ⟨a0, a0', -, -, a3, a3', -, -, a5, a5', -⟩ := h.2.2.2.2.2.1 n hn
    exact ⟨a5, a5'⟩)
  obtain ⟨gm, em, fm, vm⟩ := m_voids (w := gkn (σm.1 18 0) (σm.1 29 0) kn) (c := σm.1 20 0) (kn := kn) hN n2 (fun n hn g hf => by
    have hk := rKn h hn
    have e := m_isKnown (n := n) (I := I) (kn := kn) (σ := g) hk.1 (by omega) (by rw [(hf 18 0 n rfl).1]; exact rKn' h hn)
    rw [e]
    have e18 : g.1 18 0 = σm.1 18 0 := funext fun k => (hf 18 0 k rfl).1
    have e29 : g.1 29 0 = σm.1 29 0 := funext fun k => (hf 29 0 k rfl).1
    rw [e18, e29]) (fun n hn => by
    obtain ⟨a0, a0', -, -, a3, a3', -, -, a5, a5', -⟩ := h.2.2.2.2.2.1 n hn
    exact ⟨rfl, a5'⟩)
  refine ⟨gx, gm, by rw [ex]; exact congrArg some (gov_eq fx), by rw [em]; exact congrArg some (gov_eq fm), fun n hn => ⟨vx n hn, vm n hn⟩, ?_⟩
  refine ⟨h.1, h.2.1, h.2.2.1, h.2.2.2.1, h.2.2.2.2.1, fun n hn => ?_, h.2.2.2.2.2.2⟩
  exact h.2.2.2.2.2.1 n hn
theorem s_isVoid {σx σm : gz_S} (h : gR σx σm) (a kn : Int32) : gQ (f_X9_isVoid a kn σx) (f_X11_isVoid a kn σm) := by
  obtain ⟨F, P, N, I, fo, la, L, h⟩ := h
  unfold f_X9_isVoid f_X11_isVoid
  rw [gz_w_e]
  replace h := h.th 0
  generalize gz_si σm 0 0 0 0 = σm at h ⊢
  have hR : gR σx σm := ⟨F, P, N, I, fo, la, L, h⟩
  obtain ⟨n1, n2⟩ := h.2.2.2.2.1
  have hB := h.2.2.2.2.2.2.2.2.2.2.2.B
  have hN60 := hB.2.2.1
  rcases g_note a hB.2.2.1 with ⟨n, hn, rfl, e1, e2⟩ | ⟨-, e1, e2⟩
  · rw [e1 _ n1, gz_call_e, gz_nl_some (show n < 61 by omega), e2 _ n2, gz_call_e, if_neg (show ¬ (1 : Int32) = 0 by decide)]
    rcases g_isDay kn with ⟨d, hd, rfl⟩ | ⟨e1, e2⟩
    · have hk := rKn h hn
      rw [x_isDay hd, gz_call_e, if_neg (show ¬ (1 : Int32) = 0 by decide), m_isDay hd, gz_call_e, if_neg (show ¬ (1 : Int32) = 0 by decide), x_isKnown hk.1 hk.2.1 hk.2.2, gz_call_e, m_isKnown hk.1 (by omega) (rKn' h hn), gz_call_e]
      by_cases hw : gkn (σm.1 18 0) (σm.1 29 0) (nI d) n = true
      · rw [if_pos hw, if_neg (show ¬ (1 : Int32) = 0 by decide), if_neg (show ¬ (1 : Int32) = 0 by decide)]
        obtain ⟨gx, gm, ex, em, hv, h'⟩ := g_voids h (nI d)
        rw [ex, gz_then_e, em, gz_then_e, gz_ix_nI (show n < 60 by omega) (by decide)]
        have v1 : (gov gpvx σx gx).1 14 n 14 = gvd (gkn (σm.1 18 0) (σm.1 29 0) (nI d)) (σm.1 20 0) N N n := (hv n hn).1
        have v2 : (gov gpvm σm gm).1 38 0 n = gvd (gkn (σm.1 18 0) (σm.1 29 0) (nI d)) (σm.1 20 0) N N n := (hv n hn).2
        rw [v1, v2]
        split
        · exact gQ_mk rfl rfl ⟨F, P, N, I, fo, la, L, h'⟩
        · exact gQ_mk rfl rfl ⟨F, P, N, I, fo, la, L, h'⟩
      · rw [if_neg hw, if_pos rfl, if_pos rfl]
        exact gQ_mk rfl rfl hR
    · rw [e1, gz_call_e, if_pos rfl, e2, gz_call_e, if_pos rfl]
      exact gQ_mk rfl rfl hR
  · rw [e1 _ n1, gz_call_e, gz_nl_none, e2 _ n2, gz_call_e, if_pos rfl]
    exact gQ_mk rfl rfl hR
