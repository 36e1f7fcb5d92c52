/-! laws: the reference's table of days -/
def gply (t _ _ : Nat) : Bool := Nat.ble 38 t && Nat.ble t 41
def gplz (t _ _ : Nat) : Bool := Nat.ble 39 t && Nat.ble t 41
def gTab (C : Nat → Bool) (dy : Nat → Nat) (m27 : Nat → Int32) (q : Nat) (g : gz_S) : Prop := ∀ d, d < 10000 → g.1 41 0 d = (if (gla C dy d q).isSome = true then 1 else 0) ∧ ∀ p, gla C dy d q = some p → g.1 39 0 d = m27 p ∧ g.1 40 0 d = nI (p / 4)
theorem gTab.skip {C : Nat → Bool} {dy : Nat → Nat} {m27 : Nat → Int32} {q : Nat} {g : gz_S} (h : gTab C dy m27 q g) (n : Nat) (hn : ∀ p, q ≤ p → p < q + n → C p = false) : gTab C dy m27 (q + n) g := by
  intro d hd
  rw [gla_skip n hn]
  exact h d hd
theorem m_lay1 {N : Nat} (hN : N ≤ 60) {key kn : Int32} {σ : gz_S} {w : Nat → Bool} {la : Nat → Nat} (h1 : σ.1 0 0 29 = nI N) (hk : ∀ n, n < N → ∀ g, gfr gplz σ g → f_X11_isKnown (nI n) kn g = some (if w n = true then 1 else 0, g)) (hla : ∀ n, n < N → la n ≤ 4 ∧ σ.1 19 0 n = nI (la n)) (hL : ∀ n, n < N → ∀ j, j < la n → ∃ d, d < 10000 ∧ σ.1 28 0 (4 * n + j) = nI d) (h0 : ∀ d, d < 10000 → σ.1 41 0 d = 0) : gp (gz_l1 (f_X11_lay_L29 kn key) gz_fu 0 σ) (fun g => gfr gplz σ g ∧ gTab (gC N (fun n => w n && decide (σ.1 38 0 n = 0)) la (σ.1 26 0) key) (gdy (σ.1 28 0)) (σ.1 27 0) (4 * N) g) := by
  generalize hCC : gC N (fun n => w n && decide (σ.1 38 0 n = 0)) la (σ.1 26 0) key = C
  have hoff : ∀ n j, j < 4 → (4 * n + j) / 4 = n ∧ (4 * n + j) % 4 = j := fun n j hj => by omega
  have hCno : ∀ n, n < N → (w n && decide (σ.1 38 0 n = 0)) = false → ∀ p, 4 * n ≤ p → p < 4 * n + 4 → C p = false := by
    intro n hn hz p p1 p2
    rw [← hCC]
    unfold gC
    have e : p / 4 = n := by omega
    rw [e]
    simp only [hz]
    simp
  have hCla : ∀ n, n < N → ∀ p, 4 * n + la n ≤ p → p < 4 * n + 4 → C p = false := by
    intro n hn p p1 p2
    rw [← hCC]
    unfold gC
    have e : p / 4 = n := by omega
    have e2 : ¬ p % 4 < la (p / 4) := by rw [e]; omega
    simp [e2]
  refine gp_l1 (fun v g m => ∃ n, v = nI n ∧ n ≤ N ∧ m = N - n ∧ gfr gplz σ g ∧ gTab C (gdy (σ.1 28 0)) (σ.1 27 0) (4 * n) g) ?_ gz_fu N 0 σ (by show N < 20000; omega) ⟨0, rfl, by omega, by omega, gfr.rf, fun d hd => ⟨h0 d hd, fun p hp => by cases hp⟩⟩
  rintro rec m v g ⟨n, rfl, hn, rfl, hf, ht⟩ ih
  unfold f_X11_lay_L29
  have g1 : g.1 0 0 29 = nI N := ((hf 0 0 29 rfl).1).trans h1
  rw [g1]
  by_cases he : n = N
  · subst he
    exact gp_pos (nI_le (Nat.le_refl _) (by omega)) ⟨_, rfl, hf, ht⟩
  · have hnN : n < N := by omega
    refine gp_neg (nI_ge hnN (by omega)) ?_
    rw [hk n hnN g hf, gz_call_e, gz_j0_e]
    have hJ : ∀ g', gfr gplz σ g' → gTab C (gdy (σ.1 28 0)) (σ.1 27 0) (4 * (n + 1)) g' → gp (f_X11_lay_J143 (nI n) rec g') (fun g => gfr gplz σ g ∧ gTab C (gdy (σ.1 28 0)) (σ.1 27 0) (4 * N) g) := by
      intro g' hf' ht'
      unfold f_X11_lay_J143
      rw [nI_1]
      exact ih _ _ (N - (n + 1)) (by omega) ⟨n + 1, rfl, by omega, rfl, hf', ht'⟩
    have hno : (w n && decide (σ.1 38 0 n = 0)) = false → gp (f_X11_lay_J143 (nI n) rec g) (fun g => gfr gplz σ g ∧ gTab C (gdy (σ.1 28 0)) (σ.1 27 0) (4 * N) g) := by
      intro hz
      exact hJ g hf (by
        have := ht.skip 4 (hCno n hnN hz)
        rw [show 4 * n + 4 = 4 * (n + 1) by omega] at this
        exact this)
    by_cases hw : w n = true
    · rw [if_pos hw]
      refine gp_neg (by decide) ?_
      rw [gz_ix_nI (show n < 60 by omega) (by decide), (hf 38 0 n rfl).1]
      by_cases hz : σ.1 38 0 n = 0
      · refine gp_pos hz ?_
        rw [gz_v_e, show (4 : Int32) * nI n = nI (4 * n) from pk_mul 4 n]
        have hl4 := (hla n hnN).1
        refine gp_l1 (fun v g' m => ∃ j, v = nI (4 * n + j) ∧ j ≤ la n ∧ m = la n - j ∧ gfr gplz σ g' ∧ gTab C (gdy (σ.1 28 0)) (σ.1 27 0) (4 * n + j) g') ?_ gz_fu (la n) _ g (by show la n < 20000; omega) ⟨0, rfl, by omega, by omega, hf, ht⟩
        rintro rec2 m2 v2 g' ⟨j, rfl, hj, rfl, hf', ht'⟩ ih2
        unfold f_X11_lay_L63
        rw [gz_ix_nI (show n < 61 by omega) (by decide), show (4 : Int32) * nI n = nI (4 * n) from pk_mul 4 n, (hf' 19 0 n rfl).1, (hla n hnN).2, nI_add]
        by_cases hej : j = la n
        · subst hej
          refine gp_pos (nI_le (Nat.le_refl _) (by omega)) (hJ g' hf' ?_)
          have := ht'.skip (4 - la n) (fun p p1 p2 => hCla n hnN p p1 (by omega))
          rw [show 4 * n + la n + (4 - la n) = 4 * (n + 1) by omega] at this
          exact this
        · refine gp_neg (nI_ge (by omega) (by omega)) ?_
          rw [gz_ix_nI (show 4 * n + j < 240 by omega) (by decide), gz_j0_e, (hf' 26 0 (4 * n + j) rfl).1]
          obtain ⟨d, hd, k3⟩ := hL n hnN j (by omega)
          have hdy : gdy (σ.1 28 0) (4 * n + j) = d := by
            unfold gdy
            rw [k3, gz_nI_tn (by omega)]
          have hCp : C (4 * n + j) = decide (σ.1 26 0 (4 * n + j) = key) := by
            rw [← hCC]
            unfold gC
            rw [(hoff n j (by omega)).1, (hoff n j (by omega)).2]
            simp only [hw, hz]
            simp [hnN, show j < la n by omega]
          have hJ2 : ∀ g'', gfr gplz σ g'' → gTab C (gdy (σ.1 28 0)) (σ.1 27 0) (4 * n + (j + 1)) g'' → gp (f_X11_lay_J137 (nI (4 * n + j)) rec2 g'') (fun g => gfr gplz σ g ∧ gTab C (gdy (σ.1 28 0)) (σ.1 27 0) (4 * N) g) := by
            intro g'' hf'' ht''
            unfold f_X11_lay_J137
            rw [nI_1, show 4 * n + j + 1 = 4 * n + (j + 1) by omega]
            exact ih2 _ _ (la n - (j + 1)) (by omega) ⟨j + 1, rfl, by omega, rfl, hf'', ht''⟩
          by_cases hkey : σ.1 26 0 (4 * n + j) = key
          · refine gp_pos hkey ?_
            have e28 : g'.1 28 0 (4 * n + j) = nI d := ((hf' 28 0 (4 * n + j) rfl).1).trans k3
            have e28a : ∀ y : Int32, (gz_si g' 39 0 d y).1 28 0 (4 * n + j) = nI d := fun _ => e28
            have e28b : ∀ y z : Int32, (gz_si (gz_si g' 39 0 d y) 40 0 d z).1 28 0 (4 * n + j) = nI d := fun _ _ => e28
            simp only [gz_ix_nI (show 4 * n + j < 240 by omega) (show 240 < 2 ^ 31 by decide), e28, gz_ix_nI hd (show 10000 < 2 ^ 31 by decide), gz_w_e, e28a, e28b]
            refine hJ2 _ (((hf'.si rfl).si rfl).si rfl) (fun d' hd' => ?_)
            have hg : gla C (gdy (σ.1 28 0)) d' (4 * n + (j + 1)) = if d = d' then some (4 * n + j) else gla C (gdy (σ.1 28 0)) d' (4 * n + j) := by
              show (if C (4 * n + j) = true ∧ gdy (σ.1 28 0) (4 * n + j) = d' then some (4 * n + j) else gla C (gdy (σ.1 28 0)) d' (4 * n + j)) = _
              rw [hdy, hCp]
              simp [hkey]
            rw [hg]
            show (if 41 = 41 ∧ 0 = 0 ∧ d' = d then ((1 : Int32) &&& 1) else g'.1 41 0 d') = _ ∧ ∀ p, _ → (if 39 = 39 ∧ 0 = 0 ∧ d' = d then g'.1 27 0 (4 * n + j) else g'.1 39 0 d') = _ ∧ (if 40 = 40 ∧ 0 = 0 ∧ d' = d then nI n else g'.1 40 0 d') = _
            simp only [true_and]
            by_cases hdd : d' = d
            · subst hdd
              simp only [if_true, Option.isSome_some]
              refine ⟨by decide, fun p hp => ?_⟩
              cases hp
              exact ⟨(hf' 27 0 (4 * n + j) rfl).1, by rw [(hoff n j (by omega)).1]⟩
            · simp only [if_neg hdd, if_neg (Ne.symm hdd)]
              exact ht' d' hd'
          · refine gp_neg hkey (hJ2 g' hf' ?_)
            have := ht'.skip 1 (fun p p1 p2 => by
              rw [show p = 4 * n + j by omega, hCp]
              simp [hkey])
            exact this
      · exact gp_neg hz (hno (by simp [hz]))
    · rw [if_neg hw]
      exact gp_pos rfl (hno (by simp [hw]))
theorem m_lay2 {N : Nat} (hN : N ≤ 60) {key kn : Int32} {σ : gz_S} {w : Nat → Bool} {la : Nat → Nat} (h1 : σ.1 0 0 29 = nI N) (hk : ∀ n, n < N → ∀ g, gfr gplz σ g → f_X11_isKnown (nI n) kn g = some (if w n = true then 1 else 0, g)) (hla : ∀ n, n < N → la n ≤ 4 ∧ σ.1 19 0 n = nI (la n)) (hL : ∀ n, n < N → ∀ j, j < la n → ∃ d, d < 10000 ∧ σ.1 28 0 (4 * n + j) = nI d) : gp (gz_l1 (f_X11_lay_L7 (f_X11_lay_J27 kn key)) gz_fu 0 σ) (fun g => gfr gplz σ g ∧ gTab (gC N (fun n => w n && decide (σ.1 38 0 n = 0)) la (σ.1 26 0) key) (gdy (σ.1 28 0)) (σ.1 27 0) (4 * N) g) := by
  refine gp_l1 (fun v g m => ∃ i, v = nI i ∧ i ≤ 10000 ∧ m = 10000 - i ∧ gfr gplz σ g ∧ ∀ d, d < i → g.1 41 0 d = 0) ?_ gz_fu 10000 0 σ (by decide) ⟨0, rfl, by omega, by omega, gfr.rf, fun d hd => by omega⟩
  rintro rec m v g ⟨i, rfl, hi, rfl, hf, hz⟩ ih
  unfold f_X11_lay_L7
  by_cases he : i = 10000
  · subst he
    refine gp_pos (by decide) ?_
    unfold f_X11_lay_J27
    have e38 : g.1 38 0 = σ.1 38 0 := funext fun k => (hf 38 0 k rfl).1
    have e26 : g.1 26 0 = σ.1 26 0 := funext fun k => (hf 26 0 k rfl).1
    have e27 : g.1 27 0 = σ.1 27 0 := funext fun k => (hf 27 0 k rfl).1
    have e28 : g.1 28 0 = σ.1 28 0 := funext fun k => (hf 28 0 k rfl).1
    have := m_lay1 (key := key) (kn := kn) (σ := g) (w := w) (la := la) hN (((hf 0 0 29 rfl).1).trans h1) (fun n hn g' hf' => hk n hn g' (hf.tr hf')) (fun n hn => ⟨(hla n hn).1, ((hf 19 0 n rfl).1).trans (hla n hn).2⟩) (fun n hn j hj => by rw [e28]; exact hL n hn j hj) hz
    rw [e38, e26, e27, e28] at this
    exact gp_mono this (fun g' q => ⟨hf.tr q.1, q.2⟩)
  · refine gp_neg (fun q => by have := (gn_ge 10000).mp q; omega) ?_
    rw [gz_ix_nI (show i < 10000 by omega) (by decide), gz_w_e, nI_1]
    refine ih _ _ (10000 - (i + 1)) (by omega) ⟨i + 1, rfl, by omega, rfl, hf.si rfl, fun d hd => ?_⟩
    show (if 41 = 41 ∧ 0 = 0 ∧ d = i then ((0 : Int32) &&& 1) else g.1 41 0 d) = 0
    by_cases e : d = i
    · rw [if_pos ⟨rfl, rfl, e⟩]
      rfl
    · rw [if_neg (fun q => e q.2.2)]
      exact hz d (by omega)
/-- the two tables, side by side: house after markVoid, reference after lay -/
theorem g_lay {F P N I : Nat} {fo la : Nat → Nat} {L : List gA} {σx σm : gz_S} (h : rAll F P N I fo la L σx σm) (key kn : Int32) : ∃ gx gm C, f_X1_markVoid kn σx = some (gov gpvx σx gx) ∧ f_X11_lay key kn σm = some (gov gply σm gm) ∧ rAll F P N I fo la L (gov gpvx σx gx) (gov gply σm gm) ∧ gTab C (gdy (σm.1 28 0)) (σm.1 27 0) (4 * N) (gov gply σm gm) ∧ (∀ E, E ≤ 10000 → f_X1_lawPlace key (nI E - 1) kn (gov gpvx σx gx) = some (genc (gbs C (gdy (σm.1 28 0)) E (4 * N)), gov gpvx σx gx)) ∧ ∀ p, C p = true → ∃ n j, n < N ∧ j < la n ∧ p = 4 * n + j := by
  have hB := h.2.2.2.2.2.2.2.2.2.2.2.B
  have hN := hB.2.2.1
  obtain ⟨n1, n2⟩ := h.2.2.2.2.1
  obtain ⟨gx, gm0, ex, em, hv, h'⟩ := g_voids h kn
  have hm2 : ∀ n, n < N → (gov gpvm σm gm0).1 38 0 n = gvd (gkn (σm.1 18 0) (σm.1 29 0) kn) (σm.1 20 0) N N n := fun n hn => (hv n hn).2
  have hx2 : ∀ n, n < N → (gov gpvx σx gx).1 14 n 14 = gvd (gkn (σm.1 18 0) (σm.1 29 0) kn) (σm.1 20 0) N N n := fun n hn => (hv n hn).1
  have hlay := m_lay2 (N := N) (key := key) (kn := kn) (σ := gov gpvm σm gm0) (w := gkn (σm.1 18 0) (σm.1 29 0) kn) (la := la) hN h'.2.2.2.2.1.2 (fun n hn g hf => by
      have hk := rKn h hn
      have e := m_isKnown (n := n) (I := I) (kn := kn) (σ := g) hk.1 (by omega) (by rw [(hf 18 0 n rfl).1]; exact rKn' h hn)
      rw [e]
      have e18 : g.1 18 0 = σm.1 18 0 := funext fun k => (hf 18 0 k rfl).1
      have e29 : g.1 29 0 = σm.1 29 0 := funext fun k => (hf 29 0 k rfl).1
      rw [e18, e29]) (fun n hn => ⟨(hB.2.2.2 n hn).2, by
      obtain ⟨-, -, -, -, -, -, -, a4', -⟩ := h.2.2.2.2.2.1 n hn
      exact a4'⟩) (fun n hn j hj => by
      obtain ⟨-, -, -, d, hd, -, e⟩ := h.2.2.2.2.2.2.1 n hn j hj
      exact ⟨d, hd, e⟩)
  obtain ⟨gm, eg, fg, tg⟩ := hlay
  have hfr : gfr gply σm gm := fun t i k hp => by
    have h1 : gplz t i k = false := by
      unfold gply at hp
      unfold gplz
      cases h38 : Nat.ble 39 t with
      | false => rfl
      | true =>
        have : Nat.ble 38 t = true := Nat.ble_eq_true_of_le (by have := Nat.le_of_ble_eq_true h38; omega)
        rw [this] at hp
        exact hp
    have h2 : gpvm t i k = false := by
      unfold gply at hp
      unfold gpvm
      cases hb : Nat.beq t 38 with
      | false => rfl
      | true =>
        have : t = 38 := Nat.eq_of_beq_eq_true hb
        subst this
        cases hp
    have q1 := fg t i k h1
    have q2 : (gov gpvm σm gm0).1 t i k = σm.1 t i k ∧ (gov gpvm σm gm0).2.1 t i k = σm.2.1 t i k := by
      unfold gov
      simp only [h2, cond_false, and_self]
    exact ⟨q1.1.trans q2.1, q1.2.trans q2.2⟩
  have e2 := gov_eq hfr
  have hCeq : gC N (fun n => gkn (σm.1 18 0) (σm.1 29 0) kn n && decide ((gov gpvm σm gm0).1 38 0 n = 0)) la (σm.1 26 0) key = gC N (fun n => gkn (σm.1 18 0) (σm.1 29 0) kn n && decide ((gov gpvx σx gx).1 14 n 14 = 0)) la (σm.1 26 0) key := by
    funext p
    unfold gC
    by_cases hp : p / 4 < N
    · simp only [hm2 _ hp, hx2 _ hp]
    · simp [hp]
  refine ⟨gx, gm, gC N (fun n => gkn (σm.1 18 0) (σm.1 29 0) kn n && decide ((gov gpvm σm gm0).1 38 0 n = 0)) la (σm.1 26 0) key, ex, ?_, ?_, ?_, fun E hE => ?_, fun p hp => ?_⟩
  · unfold f_X11_lay
    rw [em, gz_then_e, gz_j0_e, eg, ← e2]
  · exact ⟨h'.1, h'.2.1, h'.2.2.1, h'.2.2.2.1, h'.2.2.2.2.1, h'.2.2.2.2.2.1, h'.2.2.2.2.2.2.1, h'.2.2.2.2.2.2.2.1, h'.2.2.2.2.2.2.2.2.1, h'.2.2.2.2.2.2.2.2.2.1, h'.2.2.2.2.2.2.2.2.2.2.1, h'.2.2.2.2.2.2.2.2.2.2.2⟩
  · rw [← e2]
    exact tg
  · rw [hCeq]
    refine x_lawPlace hN hE h'.2.2.2.2.1.1 (fun n hn => ?_) (fun n hn => ⟨(hB.2.2.2 n hn).2, ?_⟩) (fun n hn j hj => ?_)
    · have hk := rKn h' hn
      exact x_isKnown hk.1 hk.2.1 hk.2.2
    · obtain ⟨-, -, -, -, -, -, a4, -⟩ := h'.2.2.2.2.2.1 n hn
      exact a4
    · obtain ⟨k1, k2, k3, k4⟩ := h'.2.2.2.2.2.2.1 n hn j hj
      exact ⟨k1, k4⟩
  · unfold gC at hp
    simp only [Bool.and_eq_true, decide_eq_true_eq] at hp
    exact ⟨p / 4, p % 4, hp.1.1.1, hp.1.2, by omega⟩
