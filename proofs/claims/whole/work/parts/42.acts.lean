/-! a state in which some cells are another's -/
def gov (p : Nat → Nat → Nat → Bool) (σ g : gz_S) : gz_S := (fun t i k => cond (p t i k) (g.1 t i k) (σ.1 t i k), fun t i k => cond (p t i k) (g.2.1 t i k) (σ.2.1 t i k), g.2.2)
def gfr (p : Nat → Nat → Nat → Bool) (σ g : gz_S) : Prop := ∀ t i k, p t i k = false → g.1 t i k = σ.1 t i k ∧ g.2.1 t i k = σ.2.1 t i k
theorem gov_eq {p : Nat → Nat → Nat → Bool} {σ g : gz_S} (h : gfr p σ g) : g = gov p σ g := by
  obtain ⟨g1, g2, g3⟩ := g
  unfold gov
  refine Prod.ext ?_ (Prod.ext ?_ rfl)
  · funext t i k
    show g1 t i k = cond (p t i k) (g1 t i k) (σ.1 t i k)
    cases hp : p t i k with
    | true => rfl
    | false => exact (h t i k hp).1
  · funext t i k
    show g2 t i k = cond (p t i k) (g2 t i k) (σ.2.1 t i k)
    cases hp : p t i k with
    | true => rfl
    | false => exact (h t i k hp).2
theorem gfr.rf {p : Nat → Nat → Nat → Bool} {σ : gz_S} : gfr p σ σ := fun _ _ _ _ => ⟨rfl, rfl⟩
theorem gfr.si {p : Nat → Nat → Nat → Bool} {σ g : gz_S} (h : gfr p σ g) {t i k : Nat} {v : Int32} (hp : p t i k = true) : gfr p σ (gz_si g t i k v) := by
  intro t' i' k' h'
  rw [gz_si_1, gz_si_2]
  rw [if_neg (fun e => by obtain ⟨rfl, rfl, rfl⟩ := e; rw [hp] at h'; cases h')]
  exact h t' i' k' h'
theorem gfr.sj {p : Nat → Nat → Nat → Bool} {σ g : gz_S} (h : gfr p σ g) {t i k : Nat} {v : Int64} (hp : p t i k = true) : gfr p σ (gz_sj g t i k v) := by
  intro t' i' k' h'
  rw [gz_sj_1, gz_sj_21]
  rw [if_neg (fun e => by obtain ⟨rfl, rfl, rfl⟩ := e; rw [hp] at h'; cases h')]
  exact h t' i' k' h'
theorem gfr.tr {p : Nat → Nat → Nat → Bool} {σ g k : gz_S} (h : gfr p σ g) (h2 : gfr p g k) : gfr p σ k := fun t i j hp => ⟨((h2 t i j hp).1).trans (h t i j hp).1, ((h2 t i j hp).2).trans (h t i j hp).2⟩
/-! the acts -/
def gpm (t _ k : Nat) : Bool := (Nat.ble 1 t && Nat.ble t 4) || (Nat.beq t 0 && Nat.beq k 9)
def gpx (t _ _ : Nat) : Bool := Nat.ble 26 t && Nat.ble t 30
theorem gm_act_loop {k : gz_S → Option gz_S} {Q : gz_S → Prop} (σ : gz_S) (hk : ∀ g, gfr gpm σ g → g.1 0 0 9 = σ.1 0 0 9 → (∀ j, j < 99 → g.1 1 0 j = σ.1 1 0 (j + 1) ∧ g.1 2 0 j = σ.1 2 0 (j + 1) ∧ g.2.1 3 0 j = σ.2.1 3 0 (j + 1) ∧ g.2.1 4 0 j = σ.2.1 4 0 (j + 1)) → gp (k g) Q) : gp (gz_l1 (f_X11_act_L12 k) gz_fu 1 σ) Q := by
  refine gp_l1 (fun v g m => ∃ i, v = nI i ∧ 1 ≤ i ∧ i ≤ 100 ∧ m = 100 - i ∧ gfr gpm σ g ∧ g.1 0 0 9 = σ.1 0 0 9 ∧ ∀ j, (g.1 1 0 j = if j + 1 < i then σ.1 1 0 (j + 1) else σ.1 1 0 j) ∧ (g.1 2 0 j = if j + 1 < i then σ.1 2 0 (j + 1) else σ.1 2 0 j) ∧ (g.2.1 3 0 j = if j + 1 < i then σ.2.1 3 0 (j + 1) else σ.2.1 3 0 j) ∧ (g.2.1 4 0 j = if j + 1 < i then σ.2.1 4 0 (j + 1) else σ.2.1 4 0 j)) ?_ gz_fu 99 1 σ (by decide) ⟨1, rfl, by decide, by decide, by decide, gfr.rf, rfl, fun j => ?_⟩
  · rintro rec m v g ⟨i, rfl, h1, h2, rfl, hf, h9, hj⟩ ih
    unfold f_X11_act_L12
    by_cases he : i = 100
    · subst he
      refine gp_pos (by decide) (hk g hf h9 (fun j hjl => ?_))
      have := hj j
      rw [if_pos (by omega), if_pos (by omega), if_pos (by omega), if_pos (by omega)] at this
      exact this
    · have hi : i < 100 := by omega
      refine gp_neg (by show ¬ (nI 100 ≤ nI i); rw [nI_leI (by decide) (by omega)]; omega) ?_
      obtain ⟨i', rfl⟩ : ∃ i', i = i' + 1 := ⟨i - 1, by omega⟩
      have hp : nI (i' + 1) - 1 = nI i' := nI_pred i'
      simp only [hp, gz_ix_nI (show i' + 1 < 100 by omega) (by decide), gz_ix_nI (show i' < 100 by omega) (by decide), gz_w_e]
      rw [nI_1]
      refine ih _ _ (100 - (i' + 1 + 1)) (by omega) ⟨i' + 1 + 1, rfl, by omega, by omega, rfl, ?_, ?_, fun j => ?_⟩
      · exact (((hf.si rfl).si rfl).sj rfl).sj rfl
      · exact h9
      · simp only [gz_si_1, gz_si_2, gz_sj_1, gz_sj_21, true_and, Nat.reduceEqDiff, false_and, if_false]
        have hj1 := hj j
        have hj2 := hj (i' + 1)
        rw [if_neg (by omega), if_neg (by omega), if_neg (by omega), if_neg (by omega)] at hj2
        by_cases hji : j = i'
        · subst hji
          simp only [if_true, if_pos (show j + 1 < j + 1 + 1 by omega)]
          exact hj2
        · simp only [if_neg hji]
          by_cases hlt : j + 1 < i' + 1
          · simp only [if_pos hlt, if_pos (show j + 1 < i' + 1 + 1 by omega)] at hj1 ⊢
            exact hj1
          · simp only [if_neg hlt, if_neg (show ¬ j + 1 < i' + 1 + 1 by omega)] at hj1 ⊢
            exact hj1
  · simp
theorem g_pushX {n q : Nat} {σx : gz_S} (a : gA) (hL : n ≤ 100) (hxs : σx.1 26 0 5 = nI n) (hq : q < 100) (hxn : σx.1 26 0 4 = nI q) : ∃ gx, f_X0_push a.1 a.2.1 (gbef a.1 a.2.2.1) a.2.2.2 σx = some gx ∧ gfr gpx σx gx ∧ (∀ j, gx.1 27 0 j = if j = q then a.1 else σx.1 27 0 j) ∧ (∀ j, gx.1 28 0 j = if j = q then a.2.1 else σx.1 28 0 j) ∧ (∀ j, gx.2.1 29 0 j = if j = q then gbef a.1 a.2.2.1 else σx.2.1 29 0 j) ∧ (∀ j, gx.2.1 30 0 j = if j = q then a.2.2.2 else σx.2.1 30 0 j) ∧ gx.1 26 0 4 = nI ((q + 1) % 100) ∧ gx.1 26 0 5 = nI (min 100 (n + 1)) := by
  unfold f_X0_push
  have hmin : ∀ σ : gz_S, f_J9_min_7cf53 (nI n + 1) 100 σ = some (nI (min 100 (n + 1)), σ) := by
    intro σ
    unfold f_J9_min_7cf53
    rw [nI_1]
    by_cases h1 : 100 < n + 1
    · rw [if_pos ((gn_gt 100).mpr h1), Nat.min_eq_left (by omega)]
      rfl
    · rw [if_neg (fun h => h1 ((gn_gt 100).mp h)), Nat.min_eq_right (by omega)]
  simp only [hxn, gz_ix_nI hq (by decide), gz_w_e, gz_si_1, gz_si_2, gz_sj_1, gz_sj_21, Nat.reduceEqDiff, false_and, if_false, true_and, and_true, and_false, if_true, hxs, nI_1]
  rw [show ∀ σ : gz_S, f_J9_min_7cf53 (nI (n + 1)) 100 σ = some (nI (min 100 (n + 1)), σ) from fun σ => by rw [← nI_1]; exact hmin σ]
  refine ⟨_, rfl, ?_, ?_, ?_, ?_, ?_, ?_, ?_⟩
  · exact (((((gfr.rf.si rfl).si rfl).sj rfl).sj rfl).si rfl).si rfl
  · intro j; simp [gz_si_1, gz_sj_1]
  · intro j; simp [gz_si_1, gz_sj_1]
  · intro j; simp [gz_si_2, gz_sj_21]
  · intro j; simp [gz_si_2, gz_sj_21]
  · simp only [gz_si_1, gz_sj_1, Nat.reduceEqDiff, and_false, if_false, true_and, if_true]
    exact gn_rem 100
  · simp [gz_si_1]
theorem g_actM {n : Nat} {σm : gz_S} (a : gA) (hL : n ≤ 100) (hms : σm.1 0 0 9 = nI n) : ∃ gm, f_X11_act a.1 a.2.1 a.2.2.1 a.2.2.2 σm = some gm ∧ gfr gpm σm gm ∧ gm.1 0 0 9 = nI (min 100 (n + 1)) ∧ (gm.1 1 0 (min 100 (n + 1) - 1) = a.1 ∧ gm.1 2 0 (min 100 (n + 1) - 1) = a.2.1 ∧ gm.2.1 3 0 (min 100 (n + 1) - 1) = a.2.2.1 ∧ gm.2.1 4 0 (min 100 (n + 1) - 1) = a.2.2.2) ∧ ∀ j, j + 1 < min 100 (n + 1) → gm.1 1 0 j = σm.1 1 0 (j + (n + 1 - min 100 (n + 1))) ∧ gm.1 2 0 j = σm.1 2 0 (j + (n + 1 - min 100 (n + 1))) ∧ gm.2.1 3 0 j = σm.2.1 3 0 (j + (n + 1 - min 100 (n + 1))) ∧ gm.2.1 4 0 j = σm.2.1 4 0 (j + (n + 1 - min 100 (n + 1))) := by
  have hJ : ∀ g : gz_S, ∀ c, c < 100 → g.1 0 0 9 = nI c → f_X11_act_J99 a.1 a.2.1 a.2.2.1 a.2.2.2 g = some (gz_si (gz_sj (gz_sj (gz_si (gz_si g 1 0 c a.1) 2 0 c a.2.1) 3 0 c a.2.2.1) 4 0 c a.2.2.2) 0 0 9 (nI (c + 1))) := by
    intro g c hc hg
    unfold f_X11_act_J99
    simp only [hg, gz_ix_nI hc (by decide), gz_w_e, gz_si_1, gz_si_2, gz_sj_1, gz_sj_21, Nat.reduceEqDiff, false_and, if_false, nI_1]
  show gp (f_X11_act a.1 a.2.1 a.2.2.1 a.2.2.2 σm) _
  unfold f_X11_act
  simp only [gz_j0_e]
  by_cases h100 : n = 100
  · refine gp_pos (by rw [hms, h100]; rfl) ?_
    refine gm_act_loop σm (fun g hf h9 hj => ?_)
    unfold f_X11_act_J89
    have hg : (gz_si g 0 0 9 (g.1 0 0 9 - 1)).1 0 0 9 = nI 99 := by
      rw [gz_si_1, if_pos ⟨rfl, rfl, rfl⟩, h9, hms, h100]
      decide
    rw [gz_w_e, hJ _ 99 (by decide) hg]
    have hmn : min 100 (n + 1) = 100 := by omega
    rw [hmn, h100]
    refine ⟨_, rfl, ?_, ?_, ⟨?_, ?_, ?_, ?_⟩, fun j hj1 => ?_⟩
    · exact ((((((hf.si rfl).si rfl).si rfl).sj rfl).sj rfl).si rfl)
    · rfl
    · simp [gz_si_1, gz_sj_1]
    · simp [gz_si_1, gz_sj_1]
    · simp [gz_si_2, gz_sj_21]
    · simp [gz_si_2, gz_sj_21]
    · have := hj j (by omega)
      have hne : j ≠ 99 := by omega
      simp only [gz_si_1, gz_si_2, gz_sj_1, gz_sj_21, Nat.reduceEqDiff, false_and, if_false, hne, and_false]
      exact this
  · have hlt : n < 100 := by omega
    refine gp_neg (by rw [hms]; exact fun h => h100 ((nI_eq (by omega) (by decide)).mp h)) ?_
    rw [hJ σm n hlt hms]
    have hmn : min 100 (n + 1) = n + 1 := by omega
    rw [hmn]
    refine ⟨_, rfl, ?_, ?_, ⟨?_, ?_, ?_, ?_⟩, fun j hj1 => ?_⟩
    · exact (((((gfr.rf.si rfl).si rfl).sj rfl).sj rfl).si rfl)
    · rfl
    · simp [gz_si_1, gz_sj_1]
    · simp [gz_si_1, gz_sj_1]
    · simp [gz_si_2, gz_sj_21]
    · simp [gz_si_2, gz_sj_21]
    · have hne : j ≠ n := by omega
      simp [gz_si_1, gz_si_2, gz_sj_1, gz_sj_21, hne]
theorem g_push {L : List gA} {σx σm : gz_S} (a : gA) (h : rActs L (σx.1 27 0) (σx.1 28 0) (σx.2.1 29 0) (σx.2.1 30 0) (σx.1 26 0 4) (σx.1 26 0 5) (σm.1 1 0) (σm.1 2 0) (σm.2.1 3 0) (σm.2.1 4 0) (σm.1 0 0 9)) :
    ∃ gx gm, f_X0_push a.1 a.2.1 (gbef a.1 a.2.2.1) a.2.2.2 σx = some (gov gpx σx gx) ∧ f_X11_act a.1 a.2.1 a.2.2.1 a.2.2.2 σm = some (gov gpm σm gm) ∧ rActs ((a :: L).take 100) (gx.1 27 0) (gx.1 28 0) (gx.2.1 29 0) (gx.2.1 30 0) (gx.1 26 0 4) (gx.1 26 0 5) (gm.1 1 0) (gm.1 2 0) (gm.2.1 3 0) (gm.2.1 4 0) (gm.1 0 0 9) := by
  obtain ⟨hL, hxs, hms, q, hq, hxn, hk⟩ := h
  have hln : ((a :: L).take 100).length = min 100 (L.length + 1) := by rw [List.length_take, List.length_cons]
  obtain ⟨gx, ex, fx, x1, x2, x3, x4, x5, x6⟩ := g_pushX a hL hxs hq hxn
  obtain ⟨gm, em, fm, m9, ⟨m1, m2, m3, m4⟩, mj⟩ := g_actM a hL hms
  refine ⟨gx, gm, by rw [ex]; exact congrArg some (gov_eq fx), by rw [em]; exact congrArg some (gov_eq fm), ?_⟩
  refine ⟨by rw [hln]; omega, by rw [hln]; exact x6, by rw [hln]; exact m9, (q + 1) % 100, by omega, x5, fun k b hb => ?_⟩
  rw [hln]
  have hk100 : k < min 100 (L.length + 1) := by
    have := (List.getElem?_eq_some_iff.mp hb).1
    rw [hln] at this
    exact this
  have hb2 : (a :: L)[k]? = some b := by
    rw [List.getElem?_take] at hb
    split at hb
    · exact hb
    · cases hb
  cases k with
  | zero =>
    have hab : a = b := by simpa using hb2
    subst hab
    have e1 : ((q + 1) % 100 + 99 - 0) % 100 = q := by omega
    rw [e1]
    refine ⟨⟨m1, m2, m3, m4⟩, ?_, ?_, ?_, ?_⟩
    · rw [x1, if_pos rfl]
    · rw [x2, if_pos rfl]
    · rw [x3, if_pos rfl]
    · rw [x4, if_pos rfl]
  | succ k =>
    have hb3 : L[k]? = some b := by simpa using hb2
    have hkL : k < L.length := (List.getElem?_eq_some_iff.mp hb3).1
    obtain ⟨⟨a1, a2, a3, a4⟩, b1, b2, b3, b4⟩ := hk k b hb3
    have e1 : ((q + 1) % 100 + 99 - (k + 1)) % 100 = (q + 99 - k) % 100 := by omega
    have e2 : (q + 99 - k) % 100 ≠ q := by omega
    rw [e1]
    have hj := mj (min 100 (L.length + 1) - 1 - (k + 1)) (by omega)
    rw [show min 100 (L.length + 1) - 1 - (k + 1) + (L.length + 1 - min 100 (L.length + 1)) = L.length - 1 - k by omega] at hj
    refine ⟨⟨hj.1.trans a1, hj.2.1.trans a2, hj.2.2.1.trans a3, hj.2.2.2.trans a4⟩, ?_, ?_, ?_, ?_⟩
    · rw [x1, if_neg e2]; exact b1
    · rw [x2, if_neg e2]; exact b2
    · rw [x3, if_neg e2]; exact b3
    · rw [x4, if_neg e2]; exact b4
