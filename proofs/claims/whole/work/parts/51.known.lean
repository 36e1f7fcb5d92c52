/-! what is known on a day; struck words; the tape -/
def gkn (m18 m29 : Nat → Int32) (kn : Int32) (n : Nat) : Bool := decide (m18 n ≠ -1) && decide (¬ kn < m29 (m18 n).toInt.toNat)
theorem gz_nI_tn {i : Nat} (h : i < 2 ^ 31) : (nI i).toInt.toNat = i := by rw [nI_toInt h]; rfl
theorem x_isKnown {n I : Nat} {kn : Int32} {σ : gz_S} {m18 m29 : Nat → Int32} (hI : I ≤ 40) (h3 : σ.1 14 n 3 = m18 n) (h4 : m18 n = -1 ∨ ∃ i, i < I ∧ m18 n = nI i ∧ σ.1 14 n 4 = m29 i) : f_X6_isKnown n kn σ = some (if gkn m18 m29 kn n = true then 1 else 0, σ) := by
  unfold f_X6_isKnown gkn
  rw [h3]
  rcases h4 with e | ⟨i, hi, e, e4⟩
  · rw [if_pos e, e]
    rfl
  · have hne : ¬ m18 n = -1 := by rw [e]; exact gn_ne1 (by omega)
    rw [if_neg hne, e4, e, gz_nI_tn (by omega)]
    by_cases hk : kn < m29 i
    · rw [if_pos hk]
      simp [hk]
    · rw [if_neg hk]
      have : ¬ nI i = -1 := gn_ne1 (by omega)
      simp [hk, this]
theorem m_isKnown {n I : Nat} {kn : Int32} {σ : gz_S} (hI : I ≤ 40) (hn : n < 61) (h4 : σ.1 18 0 n = -1 ∨ ∃ i, i < I ∧ σ.1 18 0 n = nI i) : f_X11_isKnown (nI n) kn σ = some (if gkn (σ.1 18 0) (σ.1 29 0) kn n = true then 1 else 0, σ) := by
  unfold f_X11_isKnown gkn
  rw [gz_ix_nI hn (by decide)]
  rcases h4 with e | ⟨i, hi, e⟩
  · rw [if_pos e, e]
    rfl
  · have hne : ¬ σ.1 18 0 n = -1 := by rw [e]; exact gn_ne1 (by omega)
    rw [if_neg hne, gz_ix_nI hn (by decide), e, gz_ix_nI (show i < 40 by omega) (by decide), gz_nI_tn (by omega)]
    by_cases hk : kn < σ.1 29 0 i
    · rw [if_pos hk]
      simp [hk]
    · rw [if_neg hk]
      have : ¬ nI i = -1 := gn_ne1 (by omega)
      simp [hk, this]
/-- a loop that asks whether w holds somewhere from i on -/
theorem gs_or {α : Type} {F : (Int32 → Int32 → gz_S → Option α) → Int32 → Int32 → gz_S → Option α} (w : Nat → Bool) (N : Nat) (k : Int32 → Option α) (σ : gz_S) (h1 : ∀ rec (v : Int32) i, i < N → (v = 0 ∨ v = 1) → F rec v (nI i) σ = rec (if v = 0 then (if w i = true then 1 else 0) else 1) (nI (i + 1)) σ) (he : ∀ rec v, (v = 0 ∨ v = 1) → F rec v (nI N) σ = k v) : ∀ n i v, i ≤ N → N - i < n → (v = 0 ∨ v = 1) → gz_l2 F n v (nI i) σ = k (if v = 0 then (if gs_ff w N i < N then 1 else 0) else 1) := by
  intro n
  induction n with
  | zero => intro i v _ h; omega
  | succ n ih =>
    intro i v hi hn hv
    show F (gz_l2 F n) v (nI i) σ = _
    by_cases h : i = N
    · subst h
      rw [he _ v hv, gs_ff_e, if_neg (Nat.lt_irrefl _)]
      rcases hv with rfl | rfl <;> rfl
    · rw [h1 _ v i (by omega) hv, ih (i + 1) _ (by omega) (by omega) (by
        rcases hv with rfl | rfl
        · rw [if_pos rfl]; split
          · exact Or.inr rfl
          · exact Or.inl rfl
        · exact Or.inr (if_neg (by decide))), gs_ff_s (show i < N by omega)]
      rcases hv with rfl | rfl
      · simp only [if_true]
        by_cases hw : w i = true
        · rw [if_pos hw, if_pos hw, if_neg (by decide), if_pos (by omega)]
        · rw [if_neg hw, if_neg hw, if_pos rfl]
      · rfl
theorem rKn {F P N I : Nat} {fo la : Nat → Nat} {L : List gA} {σx σm : gz_S} (h : rAll F P N I fo la L σx σm) {n : Nat} (hn : n < N) : I ≤ 40 ∧ σx.1 14 n 3 = σm.1 18 0 n ∧ (σm.1 18 0 n = -1 ∨ ∃ i, i < I ∧ σm.1 18 0 n = nI i ∧ σx.1 14 n 4 = σm.1 29 0 i) := by
  obtain ⟨a0, a0', -, -, a3, a3', -⟩ := h.2.2.2.2.2.1 n hn
  exact ⟨h.2.2.2.2.2.2.2.2.1.1, a3, a3'⟩
theorem rKn' {F P N I : Nat} {fo la : Nat → Nat} {L : List gA} {σx σm : gz_S} (h : rAll F P N I fo la L σx σm) {n : Nat} (hn : n < N) : σm.1 18 0 n = -1 ∨ ∃ i, i < I ∧ σm.1 18 0 n = nI i := by
  rcases (rKn h hn).2.2 with e | ⟨i, h1, h2, -⟩
  · exact Or.inl e
  · exact Or.inr ⟨i, h1, h2⟩
theorem s_struck {σx σm : gz_S} (h : gR σx σm) (u : Int64) (kn : Int32) : gQ (f_X9_struck u kn σx) (f_X11_struck u kn σm) := by
  obtain ⟨F, P, N, I, fo, la, L, h⟩ := h
  unfold f_X9_struck f_X11_struck
  rw [gz_w_e]
  replace h := h.th 0
  generalize gz_si σm 0 0 0 0 = σm at h ⊢
  have hR : gR σx σm := ⟨F, P, N, I, fo, la, L, h⟩
  obtain ⟨n1, n2⟩ := h.2.2.2.2.1
  have hB := h.2.2.2.2.2.2.2.2.2.2.2.B
  have hN60 := hB.2.2.1
  rw [x_isWord, gz_call_e, m_isWord, gz_call_e]
  by_cases hu : gWord u = true
  · rw [if_pos hu, if_neg (show ¬ (1 : Int32) = 0 by decide), if_neg (show ¬ (1 : Int32) = 0 by decide)]
    rcases g_isDay kn with ⟨d, hd, rfl⟩ | ⟨e1, e2⟩
    · rw [x_isDay hd, gz_call_e, if_neg (show ¬ (1 : Int32) = 0 by decide), m_isDay hd, gz_call_e, if_neg (show ¬ (1 : Int32) = 0 by decide), gz_j1_e]
      have eX : f_X1_isStruck u (nI d) σx = some (if gs_ff (fun n => decide (σm.2.1 24 0 n = u) && gkn (σm.1 18 0) (σm.1 29 0) (nI d) n) N 0 < N then 1 else 0, σx) := by
        unfold f_X1_isStruck
        refine (gs_sc (fun n => decide (σm.2.1 24 0 n = u) && gkn (σm.1 18 0) (σm.1 29 0) (nI d) n) N (fun n => some (if n < N then 1 else 0, σx)) σx (fun rec n hn => ?_) (fun rec => ?_) gz_fu 0 (by omega) (by show N - 0 < 20000; omega))
        · unfold f_X1_isStruck_L3
          have hk := rKn h hn
          rw [n1, if_neg (nI_ge hn (by omega)), gz_ix_nI (show n < 61 by omega) (by decide), gz_j0_e, (h.2.2.2.2.2.1 n hn).2.2.2.2.2.2.2.2.2.2.2.2.2, gz_ix_nI (show n < 61 by omega) (by decide), x_isKnown hk.1 hk.2.1 hk.2.2, gz_call_e]
          unfold f_X1_isStruck_J43
          rw [nI_1]
          by_cases hw : σm.2.1 24 0 n = u
          · rw [if_pos ((lg_cmp_eq _ _).mpr hw)]
            cases hg : gkn (σm.1 18 0) (σm.1 29 0) (nI d) n
            · simp [hw]
            · simp [hw, hn]
          · rw [if_neg (fun q => hw ((lg_cmp_eq _ _).mp q))]
            simp [hw]
        · unfold f_X1_isStruck_L3
          rw [n1, if_pos (nI_le (Nat.le_refl _) (by omega)), if_neg (Nat.lt_irrefl _)]
          rfl
      have eM := gs_or (F := f_X11_struck_L27 u (nI d) f_X11_struck_J76) (fun n => decide (σm.2.1 24 0 n = u) && gkn (σm.1 18 0) (σm.1 29 0) (nI d) n) N (fun v => f_X11_struck_J76 v σm) σm (fun rec v i hi hv => ?_) (fun rec v hv => ?_) gz_fu 0 0 (by omega) (by show N - 0 < 20000; omega) (Or.inl rfl)
      · have eM' : gz_l2 (f_X11_struck_L27 u (nI d) f_X11_struck_J76) gz_fu 0 0 σm = _ := eM
        rw [eM', eX, gz_call_e, if_pos rfl]
        unfold f_X11_struck_J76
        split
        · rw [if_neg (by decide), if_neg (by decide)]
          exact gQ_mk rfl rfl hR
        · rw [if_pos rfl, if_pos rfl]
          exact gQ_mk rfl rfl hR
      · unfold f_X11_struck_L27
        rw [n2, if_neg (nI_ge hi (by omega)), gz_j1_e, gz_j0_e, gz_ix_nI (show i < 61 by omega) (by decide), gz_j0_e, m_isKnown (rKn h hi).1 (by omega) (rKn' h hi), gz_call_e]
        unfold f_X11_struck_J63 f_X11_struck_J67 f_X11_struck_J68
        rw [nI_1]
        rcases hv with rfl | rfl
        · rw [if_pos rfl, if_pos rfl]
          by_cases hw : σm.2.1 24 0 i = u
          · rw [if_pos ((lg_cmp_eq _ _).mpr hw)]
            cases hg : gkn (σm.1 18 0) (σm.1 29 0) (nI d) i
            · simp
            · simp [hw]
          · rw [if_neg (fun q => hw ((lg_cmp_eq _ _).mp q))]
            simp [hw]
        · rw [if_neg (by decide), if_neg (by decide)]
      · unfold f_X11_struck_L27
        rw [n2, if_pos (nI_le (Nat.le_refl _) (by omega))]
    · rw [e1, gz_call_e, if_pos rfl, e2, gz_call_e, if_pos rfl]
      exact gQ_mk rfl rfl hR
  · rw [if_neg hu, if_pos rfl, if_pos rfl]
    exact gQ_mk rfl rfl hR
/-! feed -/
def gby (a : Int32) (r : Nat) : Int32 := ((a >>> ((24 - (8 * nI r)) &&& 31) : Int32).toInt8.toInt32 : Int32).toInt8.toInt32
theorem gby_b (a : Int32) (r : Nat) : (gby a r).toInt8.toInt32 = gby a r := by
  unfold gby
  simp
def gpt (t _ k : Nat) : Bool := Nat.beq t 4 || (Nat.beq t 3 && Nat.beq k 1)
def gpu (t _ k : Nat) : Bool := Nat.beq t 7 || (Nat.beq t 0 && Nat.beq k 14)
theorem gz_l1_s {A1 α : Type} (F : (A1 → gz_S → Option α) → A1 → gz_S → Option α) (n : Nat) (v : A1) (σ : gz_S) : gz_l1 F (n + 1) v σ = F (gz_l1 F n) v σ := Eq.trans rfl rfl
theorem x_put {a : Int32} {σ : gz_S} {T : Nat} (hT : T + 4 ≤ 400) (h : σ.1 3 0 1 = nI T) : ∃ g, f_X8_put a σ = some g ∧ gfr gpt σ g ∧ g.1 3 0 1 = nI (T + 4) ∧ ∀ j, g.1 4 0 j = if T ≤ j ∧ j < T + 4 then gby a (j - T) else σ.1 4 0 j := by
  have step : ∀ (rec : Int32 → gz_S → Option gz_S) (r : Nat) (v : Int32) (σ : gz_S) (T : Nat), T < 400 → σ.1 3 0 1 = nI T → v = 24 - 8 * nI r → ¬ v < 0 → f_X8_put_L3 a rec v σ = rec (v + -8) (gz_si (gz_si σ 4 0 T (gby a r)) 3 0 1 (nI (T + 1))) := by
    intro rec r v σ T hT h hv h0
    unfold f_X8_put_L3
    rw [if_neg h0, h, if_neg (fun q => by have := (gn_ge 400).mp q; omega), gz_ix_nI hT (by decide), gz_w_e, gz_w_e]
    have e : (gz_si σ 4 0 T ((a >>> (v &&& 31) : Int32).toInt8.toInt32 : Int32).toInt8.toInt32).1 3 0 1 = nI T := h
    rw [e, nI_1, hv]
    rfl
  have eu : f_X8_put a σ = some (gz_si (gz_si (gz_si (gz_si (gz_si (gz_si (gz_si (gz_si σ 4 0 T (gby a 0)) 3 0 1 (nI (T + 1))) 4 0 (T + 1) (gby a 1)) 3 0 1 (nI (T + 1 + 1))) 4 0 (T + 1 + 1) (gby a 2)) 3 0 1 (nI (T + 1 + 1 + 1))) 4 0 (T + 1 + 1 + 1) (gby a 3)) 3 0 1 (nI (T + 1 + 1 + 1 + 1))) := by
    unfold f_X8_put
    rw [show gz_fu = 19995 + 1 + 1 + 1 + 1 + 1 from rfl]
    rw [gz_l1_s, step _ 0 24 σ T (by omega) h (by decide) (by decide)]
    rw [gz_l1_s, step _ 1 _ _ (T + 1) (by omega) rfl (by decide) (by decide)]
    rw [gz_l1_s, step _ 2 _ _ (T + 1 + 1) (by omega) rfl (by decide) (by decide)]
    rw [gz_l1_s, step _ 3 _ _ (T + 1 + 1 + 1) (by omega) rfl (by decide) (by decide)]
    rw [gz_l1_s]
    unfold f_X8_put_L3
    rw [if_pos (by decide)]
  refine ⟨_, eu, ?_, ?_, fun j => ?_⟩
  · exact (((((((gfr.rf.si rfl).si rfl).si rfl).si rfl).si rfl).si rfl).si rfl).si rfl
  · rfl
  · simp only [gz_si_1, Nat.reduceEqDiff, false_and, if_false, true_and]
    by_cases h3 : j = T + 1 + 1 + 1
    · rw [if_pos h3, if_pos (by omega), show j - T = 3 by omega]
    rw [if_neg h3]
    by_cases h2 : j = T + 1 + 1
    · rw [if_pos h2, if_pos (by omega), show j - T = 2 by omega]
    rw [if_neg h2]
    by_cases h1 : j = T + 1
    · rw [if_pos h1, if_pos (by omega), show j - T = 1 by omega]
    rw [if_neg h1]
    by_cases h0 : j = T
    · rw [if_pos h0, if_pos (by omega), show j - T = 0 by omega]
    rw [if_neg h0, if_neg (by omega)]
def gfb (a b c d e : Int32) (k : Nat) : Int32 := gby (if k < 4 then a else if k < 8 then b else if k < 12 then c else if k < 16 then d else e) (k % 4)
theorem x_feed {a b c d e : Int32} {σ : gz_S} {T : Nat} (hT : T + 20 ≤ 400) (h : σ.1 3 0 1 = nI T) : ∃ g, f_X9_feed a b c d e σ = some (nI (T + 20), g) ∧ gfr gpt σ g ∧ g.1 3 0 1 = nI (T + 20) ∧ ∀ j, g.1 4 0 j = if T ≤ j ∧ j < T + 20 then gfb a b c d e (j - T) else σ.1 4 0 j := by
  obtain ⟨g1, e1, f1, t1, j1⟩ := x_put (a := a) (σ := σ) (T := T) (by omega) h
  obtain ⟨g2, e2, f2, t2, j2⟩ := x_put (a := b) (σ := g1) (T := T + 4) (by omega) t1
  obtain ⟨g3, e3, f3, t3, j3⟩ := x_put (a := c) (σ := g2) (T := T + 4 + 4) (by omega) t2
  obtain ⟨g4, e4, f4, t4, j4⟩ := x_put (a := d) (σ := g3) (T := T + 4 + 4 + 4) (by omega) t3
  obtain ⟨g5, e5, f5, t5, j5⟩ := x_put (a := e) (σ := g4) (T := T + 4 + 4 + 4 + 4) (by omega) t4
  refine ⟨g5, ?_, (((f1.tr f2).tr f3).tr f4).tr f5, t5, fun j => ?_⟩
  · unfold f_X9_feed
    rw [h, show nI T + (20 : Int32) = nI (T + 20) from nI_add T 20, if_pos ((gn_le 400).mpr (by omega)), e1, gz_then_e, e2, gz_then_e, e3, gz_then_e, e4, gz_then_e, e5, gz_then_e, t5]
  · rw [j5, j4, j3, j2, j1]
    unfold gfb
    by_cases h5 : T + 4 + 4 + 4 + 4 ≤ j ∧ j < T + 4 + 4 + 4 + 4 + 4
    · rw [if_pos h5, if_pos (by omega), if_neg (by omega), if_neg (by omega), if_neg (by omega), if_neg (by omega)]
      congr 1
      omega
    rw [if_neg h5]
    by_cases h4 : T + 4 + 4 + 4 ≤ j ∧ j < T + 4 + 4 + 4 + 4
    · rw [if_pos h4, if_pos (by omega), if_neg (by omega), if_neg (by omega), if_neg (by omega), if_pos (by omega)]
      congr 1
      omega
    rw [if_neg h4]
    by_cases h3 : T + 4 + 4 ≤ j ∧ j < T + 4 + 4 + 4
    · rw [if_pos h3, if_pos (by omega), if_neg (by omega), if_neg (by omega), if_pos (by omega)]
      congr 1
      omega
    rw [if_neg h3]
    by_cases h2 : T + 4 ≤ j ∧ j < T + 4 + 4
    · rw [if_pos h2, if_pos (by omega), if_neg (by omega), if_pos (by omega)]
      congr 1
      omega
    rw [if_neg h2]
    by_cases h1 : T ≤ j ∧ j < T + 4
    · rw [if_pos h1, if_pos (by omega), if_pos (by omega)]
      congr 1
      omega
    rw [if_neg h1, if_neg (by omega)]
theorem m_feed {a b c d e : Int32} {σ : gz_S} {T : Nat} (hT : T + 20 ≤ 400) (h : σ.1 0 0 14 = nI T) : gp (gz_l1 (f_X11_feed_L23 e d c b a) gz_fu 0 σ) (fun o => o.1 = nI (T + 20) ∧ gfr gpu σ o.2 ∧ o.2.1 0 0 14 = nI (T + 20) ∧ ∀ j, o.2.1 7 0 j = if T ≤ j ∧ j < T + 20 then gfb a b c d e (j - T) else σ.1 7 0 j) := by
  refine gp_l1 (fun v g m => ∃ i, v = nI i ∧ i ≤ 20 ∧ m = 20 - i ∧ gfr gpu σ g ∧ g.1 0 0 14 = nI (T + i) ∧ ∀ j, g.1 7 0 j = if T ≤ j ∧ j < T + i then gfb a b c d e (j - T) else σ.1 7 0 j) ?_ gz_fu 20 0 σ (by decide) ⟨0, rfl, by decide, rfl, gfr.rf, h, fun j => by rw [if_neg (by omega)]⟩
  rintro rec m v g ⟨i, rfl, h1, rfl, hf, h14, hj⟩ ih
  unfold f_X11_feed_L23
  by_cases he : i = 20
  · subst he
    refine gp_pos (by decide) ⟨_, rfl, h14, hf, h14, hj⟩
  · refine gp_neg (fun q => by have := (gn_ge 20).mp q; omega) ?_
    rw [gz_j1_e]
    have hJ : ∀ x : Int32, gfb a b c d e i = gby x (i % 4) → gp (f_X11_feed_J76 (nI i) rec x g) (fun o => o.1 = nI (T + 20) ∧ gfr gpu σ o.2 ∧ o.2.1 0 0 14 = nI (T + 20) ∧ ∀ j, o.2.1 7 0 j = if T ≤ j ∧ j < T + 20 then gfb a b c d e (j - T) else σ.1 7 0 j) := by
      intro x hx
      unfold f_X11_feed_J76
      rw [h14, gz_ix_nI (show T + i < 400 by omega) (by decide), gz_w_e, gz_w_e]
      have e14 : ∀ y : Int32, (gz_si g 7 0 (T + i) y).1 0 0 14 = nI (T + i) := fun _ => h14
      rw [e14, nI_1, nI_1, show gz_rem (nI i) 4 = nI (i % 4) from gn_rem 4]
      refine ih _ _ (20 - (i + 1)) (by omega) ⟨i + 1, rfl, by omega, rfl, (hf.si rfl).si rfl, by rw [show T + (i + 1) = T + i + 1 by omega]; rfl, fun j => ?_⟩
      show (if 7 = 7 ∧ 0 = 0 ∧ j = T + i then _ else g.1 7 0 j) = _
      simp only [true_and]
      by_cases hji : j = T + i
      · rw [if_pos hji, if_pos (by omega), show j - T = i by omega, hx]
        rfl
      · rw [if_neg hji, hj]
        by_cases hr : T ≤ j ∧ j < T + i
        · rw [if_pos hr, if_pos (by omega)]
        · rw [if_neg hr, if_neg (by omega)]
    unfold gfb at hJ
    by_cases h4 : 4 ≤ i
    · refine gp_pos ((gn_ge 4).mpr h4) ?_
      by_cases h8 : 8 ≤ i
      · refine gp_pos ((gn_ge 8).mpr h8) ?_
        by_cases h12 : 12 ≤ i
        · refine gp_pos ((gn_ge 12).mpr h12) ?_
          by_cases h16 : 16 ≤ i
          · refine gp_pos ((gn_ge 16).mpr h16) (hJ e ?_)
            rw [if_neg (by omega), if_neg (by omega), if_neg (by omega), if_neg (by omega)]
          · refine gp_neg (fun q => h16 ((gn_ge 16).mp q)) (hJ d ?_)
            rw [if_neg (by omega), if_neg (by omega), if_neg (by omega), if_pos (by omega)]
        · refine gp_neg (fun q => h12 ((gn_ge 12).mp q)) (hJ c ?_)
          rw [if_neg (by omega), if_neg (by omega), if_pos (by omega)]
      · refine gp_neg (fun q => h8 ((gn_ge 8).mp q)) (hJ b ?_)
        rw [if_neg (by omega), if_pos (by omega)]
    · refine gp_neg (fun q => h4 ((gn_ge 4).mp q)) (hJ a ?_)
      rw [if_pos (by omega)]
theorem s_feed {σx σm : gz_S} (h : gR σx σm) (a b c d e : Int32) : gQ (f_X9_feed a b c d e σx) (f_X11_feed a b c d e σm) := by
  obtain ⟨F, P, N, I, fo, la, L, h⟩ := h
  unfold f_X11_feed
  rw [gz_w_e]
  replace h := h.th 0
  generalize gz_si σm 0 0 0 0 = σm at h ⊢
  have hR : gR σx σm := ⟨F, P, N, I, fo, la, L, h⟩
  obtain ⟨ht, T, hT, t1, t2⟩ := h.2.2.1
  rw [t2, show nI T + (20 : Int32) = nI (T + 20) from nI_add T 20]
  by_cases h20 : T + 20 ≤ 400
  · rw [if_pos ((gn_le 400).mpr h20)]
    obtain ⟨gx, ex, fx, x1, xj⟩ := x_feed (a := a) (b := b) (c := c) (d := d) (e := e) h20 t1
    obtain ⟨⟨r, gm⟩, em, rm, fm, m1, mj⟩ := m_feed (a := a) (b := b) (c := c) (d := d) (e := e) h20 t2
    rw [ex, em]
    simp only at rm fm m1 mj
    have hx' := gov_eq fx
    have hm' := gov_eq fm
    rw [hx'] at x1 xj
    rw [hm'] at m1 mj
    rw [rm, hx', hm']
    refine gQ_mk rfl rfl ⟨F, P, N, I, fo, la, L, h.1, h.2.1, ⟨fun k => ?_, T + 20, h20, x1, m1⟩, h.2.2.2.1, h.2.2.2.2.1, h.2.2.2.2.2.1, h.2.2.2.2.2.2.1, h.2.2.2.2.2.2.2.1, h.2.2.2.2.2.2.2.2.1, h.2.2.2.2.2.2.2.2.2.1, h.2.2.2.2.2.2.2.2.2.2.1, h.2.2.2.2.2.2.2.2.2.2.2⟩
    rw [xj, mj]
    split
    · exact ⟨rfl, gby_b _ _⟩
    · exact ht k
  · rw [if_neg (fun q => h20 ((gn_le 400).mp q))]
    unfold f_X9_feed
    rw [t1, show nI T + (20 : Int32) = nI (T + 20) from nI_add T 20, if_neg (fun q => h20 ((gn_le 400).mp q))]
    exact gQ_mk rfl rfl hR
