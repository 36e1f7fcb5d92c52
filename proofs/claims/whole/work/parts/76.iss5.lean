/-! issues: those that must, and the others -/
def gmz (t _ k : Nat) : Bool := (Nat.ble 35 t && Nat.ble t 37) || (Nat.beq t 0 && Nat.beq k 55) || Nat.beq t 44
theorem gmx_z : ∀ t i k, gmz t i k = false → gmx t i k = false := by
  intro t i k h
  unfold gmz at h
  unfold gmx
  simp only [gbq, gbl, Bool.or_eq_false_iff, Bool.and_eq_false_iff, decide_eq_false_iff_not] at h ⊢
  omega
theorem gNo.fr {N : Nat} {du ls : Nat → Nat} {wt : Nat → Bool} {gx gm gx' gm' : gz_S} (h : gNo N du ls wt gx gm) (hx : gfr ghx gx gx') (hm : gfr gmz gm gm') : gNo N du ls wt gx' gm' := by
  refine ⟨((hx 10 0 1 rfl).1).trans h.1, ((hm 0 0 29 rfl).1).trans h.2.1, fun n hn => ?_⟩
  rw [(hx 14 n 3 rfl).1, (hx 14 n 2 rfl).1, (hx 14 n 1 rfl).1, (hm 18 0 n rfl).1, (hm 17 0 n rfl).1, (hm 16 0 n rfl).1]
  exact h.2.2 n hn
def gBo (c w pg : Nat) (pk : Nat → Nat) (gx gm : gz_S) : Prop := ∃ ln T, gHp c w pg ln T pk gx ∧ gMp c w ln pk gm
def gPd (c : Nat) (pk : Nat → Nat) (ok : Nat → Prop) : Prop := (∀ k, k < c → ok (pk k)) ∧ ∀ i j, i < j → j < c → pk i ≠ pk j
theorem gPd.w {c : Nat} {pk : Nat → Nat} {ok ok' : Nat → Prop} (h : gPd c pk ok) (hw : ∀ m, ok m → ok' m) : gPd c pk ok' := ⟨fun k hk => hw _ (h.1 k hk), h.2⟩
theorem gPd.add {c n : Nat} {pk : Nat → Nat} {ok ok' : Nat → Prop} (h : gPd c pk ok) (hw : ∀ m, ok m → ok' m) (hn : ok' n) (hno : ¬ ok n) : gPd (c + 1) (gun pk c n) ok' := by
  constructor
  · intro k hk
    by_cases e : k = c
    · subst e
      rw [gun_e]
      exact hn
    · rw [gun_ne _ e]
      exact hw _ (h.1 k (by omega))
  · intro i j hij hj
    rw [gun_ne _ (by omega)]
    by_cases e : j = c
    · subst e
      rw [gun_e]
      intro q
      exact hno (q ▸ h.1 i (by omega))
    · rw [gun_ne _ e]
      exact h.2 i j hij (by omega)
theorem g_must {N nx w pg t : Nat} {du ls : Nat → Nat} {wt : Nat → Bool} {J : gz_S → Option (Int32 × gz_S)} (hN : N ≤ 60) (hnx : nx ≤ 10000) (hw : w ≤ 60) (hpg : pg ≤ 8) : ∀ r n c pk gx gm fx fm, n + r = N → r < fx → r < fm → gNo N du ls wt gx gm → t < gm.2.2 → gBo c w pg pk gx gm → gPd c pk (fun m => m < n ∧ wt m = true ∧ du m < nx) → (∀ m, m < n → gm.1 44 t m = if wt m = true ∧ ¬ du m < nx then 0 else 1) → ∃ gx' gm', gfr ghx gx gx' ∧ gfr gmz gm gm' ∧ gm'.2.2 = gm.2.2 ∧ ((∃ c' pk', gz_l1 (f_X1_takeMust_L2 (nI nx)) fx (nI n) gx = some (1, gx') ∧ gz_l1 (f_X11_issue_L103 t (nI nx) (nI pg) (nI w) J) fm (nI n) gm = J gm' ∧ gBo c' w pg pk' gx' gm' ∧ gPd c' pk' (fun m => m < N ∧ wt m = true ∧ du m < nx) ∧ ∀ m, m < N → gm'.1 44 t m = if wt m = true ∧ ¬ du m < nx then 0 else 1) ∨ (gz_l1 (f_X1_takeMust_L2 (nI nx)) fx (nI n) gx = some (0, gx') ∧ gz_l1 (f_X11_issue_L103 t (nI nx) (nI pg) (nI w) J) fm (nI n) gm = gz_call (f_X11_refused 5 gm') (fun r111 σ110 => some (r111, σ110)))) := by
  intro r
  induction r with
  | zero =>
    intro n c pk gx gm fx fm hr hfx hfm hNo ht hB hP hT
    obtain ⟨fx, rfl⟩ : ∃ q, fx = q + 1 := ⟨fx - 1, by omega⟩
    obtain ⟨fm, rfl⟩ : ∃ q, fm = q + 1 := ⟨fm - 1, by omega⟩
    have : n = N := by omega
    subst this
    refine ⟨gx, gm, gfr.rf, gfr.rf, rfl, Or.inl ⟨c, pk, ?_, ?_, hB, hP, hT⟩⟩
    · rw [gz_l1_s]
      unfold f_X1_takeMust_L2
      rw [hNo.1, if_pos (nI_le (Nat.le_refl _) (by omega))]
      rfl
    · rw [gz_l1_s]
      unfold f_X11_issue_L103
      rw [hNo.2.1, if_pos (nI_le (Nat.le_refl _) (by omega))]
  | succ r ih =>
    intro n c pk gx gm fx fm hr hfx hfm hNo ht hB hP hT
    obtain ⟨fx, rfl⟩ : ∃ q, fx = q + 1 := ⟨fx - 1, by omega⟩
    obtain ⟨fm, rfl⟩ : ∃ q, fm = q + 1 := ⟨fm - 1, by omega⟩
    have hn : n < N := by omega
    have ih' := fun c pk gx gm => ih (n + 1) c pk gx gm fx fm (by omega) (by omega) (by omega)
    rw [gz_l1_s, gz_l1_s]
    generalize gz_l1 (f_X1_takeMust_L2 (nI nx)) fx = rx at ih' ⊢
    generalize gz_l1 (f_X11_issue_L103 t (nI nx) (nI pg) (nI w) J) fm = rm at ih' ⊢
    obtain ⟨⟨w1, w2⟩, ⟨d1, d2, d3⟩, hl, l1, l2⟩ := hNo.2.2 n hn
    unfold f_X1_takeMust_L2 f_X11_issue_L103
    rw [hNo.1, if_neg (nI_ge hn (by omega)), gz_ix_nI (show n < 61 by omega) (by decide), x_waits, gz_call_e, gz_j0_e, w1, d2, l1, hNo.2.1, if_neg (nI_ge hn (by omega)), gz_ix_nI (show n < 61 by omega) (by decide), gz_j2_e]
    have hJx : ∀ g, f_X1_takeMust_J50 (nI n) rx g = rx (nI (n + 1)) g := fun g => by
      unfold f_X1_takeMust_J50
      rw [nI_1]
    have hJm : ∀ g, f_X11_issue_J179 (nI n) rm g = rm (nI (n + 1)) g := fun g => by
      unfold f_X11_issue_J179
      rw [nI_1]
    simp only [hJx]
    -- the row of what was tried, one longer
    have hrow : ∀ (v : Int32) (gm' : gz_S), v = (if wt n = true ∧ ¬ du n < nx then 0 else 1) → (∀ m, gm'.1 44 t m = if m = n then v else gm.1 44 t m) → ∀ m, m < n + 1 → gm'.1 44 t m = if wt m = true ∧ ¬ du m < nx then 0 else 1 := by
      intro v gm' hv hrw m hm
      rw [hrw m]
      by_cases e : m = n
      · subst e
        rw [if_pos rfl, hv]
      · rw [if_neg e]
        exact hT m (by omega)
    have hgo : ∀ (c : Nat) (pk : Nat → Nat) (gx1 gm1 : gz_S), gfr ghx gx gx1 → gfr gmz gm gm1 → gm1.2.2 = gm.2.2 → gBo c w pg pk gx1 gm1 → gPd c pk (fun m => m < n + 1 ∧ wt m = true ∧ du m < nx) → (∀ m, m < n + 1 → gm1.1 44 t m = if wt m = true ∧ ¬ du m < nx then 0 else 1) → ∃ gx' gm', gfr ghx gx gx' ∧ gfr gmz gm gm' ∧ gm'.2.2 = gm.2.2 ∧ ((∃ c' pk', rx (nI (n + 1)) gx1 = some (1, gx') ∧ rm (nI (n + 1)) gm1 = J gm' ∧ gBo c' w pg pk' gx' gm' ∧ gPd c' pk' (fun m => m < N ∧ wt m = true ∧ du m < nx) ∧ ∀ m, m < N → gm'.1 44 t m = if wt m = true ∧ ¬ du m < nx then 0 else 1) ∨ (rx (nI (n + 1)) gx1 = some (0, gx') ∧ rm (nI (n + 1)) gm1 = gz_call (f_X11_refused 5 gm') (fun r111 σ110 => some (r111, σ110)))) := by
      intro c pk gx1 gm1 a1 a2 a3 a4 a5 a6
      obtain ⟨gx', gm', b1, b2, b3, b4⟩ := ih' c pk gx1 gm1 (hNo.fr a1 a2) (by rw [a3]; exact ht) a4 a5 a6
      exact ⟨gx', gm', a1.tr b1, a2.tr b2, b3.trans a3, b4⟩
    have hPw : gPd c pk (fun m => m < n + 1 ∧ wt m = true ∧ du m < nx) := hP.w (fun m q => ⟨by omega, q.2⟩)
    cases hwt : wt n with
    | false =>
      have hne : ¬ gm.1 18 0 n = -1 := fun q => by rw [w2.mpr q] at hwt; cases hwt
      rw [if_neg hne, if_pos rfl, if_neg hne]
      unfold f_X11_issue_J132 gz_tg
      rw [if_pos ht, gz_ix_nI (show n < 60 by omega) (by decide), gz_w_e, if_pos (show t < (gz_si gm 44 t n ((1 : Int32) &&& 1)).2.2 from ht), gz_ix_nI (show n < 60 by omega) (by decide), gz_j0_e]
      have e1 : (gz_si gm 44 t n ((1 : Int32) &&& 1)).1 44 t n = 1 := by
        rw [gz_si_1, if_pos ⟨rfl, rfl, rfl⟩]
        decide
      rw [e1, if_neg (by decide), hJm]
      exact hgo c pk gx _ gfr.rf (gfr.rf.si rfl) rfl hB hPw (hrow 1 _ (by rw [if_neg (fun q => by rw [hwt] at q; cases q.1)]) (fun m => by
        rw [gz_si_1]
        by_cases e : m = n
        · rw [if_pos ⟨rfl, rfl, e⟩, if_pos e]
          decide
        · rw [if_neg (fun q => e q.2.2), if_neg e]))
    | true =>
      have heq := w2.mp hwt
      rw [if_pos heq, if_neg (show ¬ (1 : Int32) = 0 by decide), if_pos heq]
      unfold f_X11_issue_J132 gz_tg
      rw [if_pos ht, gz_ix_nI (show n < 60 by omega) (by decide), gz_w_e, if_pos (show t < (gz_si gm 44 t n ((0 : Int32) &&& 1)).2.2 from ht), gz_ix_nI (show n < 60 by omega) (by decide), gz_j0_e]
      have e1 : (gz_si gm 44 t n ((0 : Int32) &&& 1)).1 44 t n = 0 := by
        rw [gz_si_1, if_pos ⟨rfl, rfl, rfl⟩]
        rfl
      have e17 : (gz_si gm 44 t n ((0 : Int32) &&& 1)).1 17 0 n = nI (du n) := d3
      rw [e1, if_pos rfl, gz_ix_nI (show n < 61 by omega) (by decide), e17]
      by_cases hd : du n < nx
      · rw [if_neg (nI_ge hd (by omega)), if_pos (nI_lt hd (by omega)), if_pos (show t < (gz_si gm 44 t n ((0 : Int32) &&& 1)).2.2 from ht), gz_ix_nI (show n < 60 by omega) (by decide), gz_w_e]
        have hr1 : ∀ m, (gz_si (gz_si gm 44 t n ((0 : Int32) &&& 1)) 44 t n ((1 : Int32) &&& 1)).1 44 t m = if m = n then 1 else gm.1 44 t m := fun m => by
          rw [gz_si_1, gz_si_1]
          by_cases e : m = n
          · rw [if_pos ⟨rfl, rfl, e⟩, if_pos e]
            decide
          · rw [if_neg (fun q => e q.2.2), if_neg (fun q => e q.2.2), if_neg e]
        have f1 : gfr gmz gm (gz_si (gz_si gm 44 t n ((0 : Int32) &&& 1)) 44 t n ((1 : Int32) &&& 1)) := (gfr.rf.si rfl).si rfl
        have h16 : (gz_si (gz_si gm 44 t n ((0 : Int32) &&& 1)) 44 t n ((1 : Int32) &&& 1)).1 16 0 n = nI (ls n) := l2
        have h22 : (gz_si (gz_si gm 44 t n ((0 : Int32) &&& 1)) 44 t n ((1 : Int32) &&& 1)).2.2 = gm.2.2 := rfl
        obtain ⟨ln, T, hH, hM⟩ := hB
        have hM1 : gMp c w ln pk (gz_si (gz_si gm 44 t n ((0 : Int32) &&& 1)) 44 t n ((1 : Int32) &&& 1)) := hM
        generalize gz_si (gz_si gm 44 t n ((0 : Int32) &&& 1)) 44 t n ((1 : Int32) &&& 1) = gm1 at hr1 f1 h16 h22 hM1 ⊢
        obtain ⟨gx2, gm2, k1, k2, k3, hor⟩ := g_pack hw hpg hl (show n < 61 by omega) h16 hH hM1
        have hrow2 : ∀ m, m < n + 1 → gm2.1 44 t m = if wt m = true ∧ ¬ du m < nx then 0 else 1 := hrow 1 gm2 (by rw [if_neg (fun q => q.2 hd)]) (fun m => by rw [(k2 44 t m rfl).1]; exact hr1 m)
        rcases hor with ⟨X, Y, c12, T', hH', hM'⟩ | ⟨X, Y, hH', hM'⟩
        · rw [X, Y, gz_call_e, gz_call_e, if_neg (by decide), if_neg (by decide), hJm]
          exact hgo (c + 1) (gun pk c n) gx2 gm2 k1 (f1.tr (k2.w gmx_z)) (k3.trans h22) ⟨_, T', hH', hM'⟩ (hP.add (fun m q => ⟨by omega, q.2⟩) ⟨by omega, hwt, hd⟩ (fun q => by omega)) hrow2
        · rw [X, Y, gz_call_e, gz_call_e, if_pos rfl, if_pos rfl]
          exact ⟨gx2, gm2, k1, f1.tr (k2.w gmx_z), k3.trans h22, Or.inr ⟨rfl, rfl⟩⟩
      · rw [if_pos (nI_le (by omega) (by omega)), if_neg (nI_nlt (by omega) (by omega)), hJm]
        exact hgo c pk gx _ gfr.rf (gfr.rf.si rfl) rfl hB hPw (hrow 0 _ (by rw [if_pos ⟨hwt, hd⟩]) (fun m => by
          rw [gz_si_1]
          by_cases e : m = n
          · rw [if_pos ⟨rfl, rfl, e⟩, if_pos e]
            rfl
          · rw [if_neg (fun q => e q.2.2), if_neg e]))
def gKy (du : Nat → Nat) (n : Nat) : Nat := du n * 64 + n
def gSo (nx : Nat) (du : Nat → Nat) (wt : Nat → Bool) (B n : Nat) : Bool := wt n && (!decide (du n < nx) && decide (B ≤ gKy du n))
theorem x_next {N nx B : Nat} {du ls : Nat → Nat} {wt : Nat → Bool} {v1 : Int32} {gx gm : gz_S} (hN : N ≤ 60) (hnx : 1 ≤ nx ∧ nx ≤ 10000) (h : gNo N du ls wt gx gm) (hv : (v1 = -1 ∧ B = 0) ∨ ∃ p, p < N ∧ v1 = nI p ∧ B = gKy du p + 1) : f_X1_nextOther v1 (nI nx) gx = some (genc (gmf (gSo nx du wt B) du N), gx) := by
  unfold f_X1_nextOther
  rw [gz_j1_e]
  unfold f_X1_nextOther_J20
  rcases hv with ⟨rfl, rfl⟩ | ⟨p, hp, rfl, rfl⟩
  · rw [if_pos rfl]
    have := x_nextL (x1 := nI nx - 1) (a1 := -1) (fl := fun n => decide (nI nx - 1 < nI (du n) ∨ (nI (du n) = nI nx - 1 ∧ ¬ nI n ≤ -1))) hN hnx.2 h (fun n hn => by simp) N 0 gz_fu (by omega) (by show N < 20000; omega)
    have e : gmf (gSo nx du wt 0) du N = gmf (fun n => wt n && (!decide (du n < nx) && decide (nI nx - 1 < nI (du n) ∨ (nI (du n) = nI nx - 1 ∧ ¬ nI n ≤ -1)))) du N := by
      refine gmf_cg N (fun n hn => ?_)
      unfold gSo
      by_cases hd : du n < nx
      · simp [hd]
      · have hdd := (h.2.2 n hn).2.1.1
        have hlt : nI nx - 1 < nI (du n) := (gE_lt hnx.2 hdd).mpr (by omega)
        simp [hd, hlt]
    rw [e]
    exact this
  · rw [if_neg (gn_ne1 (by omega)), gz_ix_nI (show p < 61 by omega) (by decide), (h.2.2 p hp).2.1.2.1]
    have := x_nextL (x1 := nI (du p)) (a1 := nI p) (fl := fun n => decide (nI (du p) < nI (du n) ∨ (nI (du n) = nI (du p) ∧ ¬ nI n ≤ nI p))) hN hnx.2 h (fun n hn => by simp) N 0 gz_fu (by omega) (by show N < 20000; omega)
    have e : gmf (gSo nx du wt (gKy du p + 1)) du N = gmf (fun n => wt n && (!decide (du n < nx) && decide (nI (du p) < nI (du n) ∨ (nI (du n) = nI (du p) ∧ ¬ nI n ≤ nI p)))) du N := by
      refine gmf_cg N (fun n hn => ?_)
      unfold gSo
      have hdd := (h.2.2 n hn).2.1.1
      have hdp := (h.2.2 p hp).2.1.1
      have : (gKy du p + 1 ≤ gKy du n) ↔ (nI (du p) < nI (du n) ∨ (nI (du n) = nI (du p) ∧ ¬ nI n ≤ nI p)) := by
        rw [nI_ltI (by omega) (by omega), nI_eq (by omega) (by omega), nI_leI (by omega) (by omega)]
        unfold gKy
        omega
      rw [decide_eq_decide.mpr this]
    rw [e]
    exact this
theorem g_others {N nx w pg t : Nat} {du ls : Nat → Nat} {wt : Nat → Bool} {J : gz_S → Option (Int32 × gz_S)} (hN : N ≤ 60) (hnx : 1 ≤ nx ∧ nx ≤ 10000) (hw : w ≤ 60) (hpg : pg ≤ 8) : ∀ q i B v1 c pk gx gm fx fm, gs_cn (gSo nx du wt B) N 0 = q → i + q ≤ N → q < fx → q + 1 < fm → gNo N du ls wt gx gm → t < gm.2.2 → gBo c w pg pk gx gm → gPd c pk (fun m => m < N ∧ wt m = true ∧ (du m < nx ∨ gKy du m < B)) → (∀ m, m < N → (gm.1 44 t m = 0 ↔ gSo nx du wt B m = true)) → ((v1 = -1 ∧ B = 0) ∨ ∃ p, p < N ∧ v1 = nI p ∧ B = gKy du p + 1) → ∃ gx' gm' c' pk', gz_l2 (f_X1_takeOthers_L5 (nI nx)) fx v1 (nI i) gx = some gx' ∧ gz_l1 (f_X11_issue_L188 t (nI pg) (nI w) J) fm 1 gm = J gm' ∧ gfr ghx gx gx' ∧ gfr gmz gm gm' ∧ gBo c' w pg pk' gx' gm' ∧ gPd c' pk' (fun m => m < N ∧ wt m = true) := by
  intro q
  induction q with
  | zero =>
    intro i B v1 c pk gx gm fx fm hq hi hfx hfm hNo ht hB hP hT hv
    obtain ⟨fx, rfl⟩ : ∃ q, fx = q + 1 := ⟨fx - 1, by omega⟩
    obtain ⟨fm, rfl⟩ : ∃ q, fm = q + 2 := ⟨fm - 2, by omega⟩
    have hall : ∀ m, m < N → gSo nx du wt B m = false := by
      intro m hm
      cases hS : gSo nx du wt B m with
      | false => rfl
      | true =>
        have h1 := (gs_cn_more (w := fun _ => false) (w' := gSo nx du wt B) (d := m) (fun j hj => by cases hj) rfl hS N 0).2 (by omega) (by omega)
        omega
    have hnone : ∀ k, k ≤ N → gmf (gSo nx du wt B) du k = none := by
      intro k hk
      cases hg : gmf (gSo nx du wt B) du k with
      | none => rfl
      | some m =>
        have := gmf_some k m hg
        rw [hall m (by omega)] at this
        cases this.1
    have hS : gmf (fun n => decide (gm.1 44 t n = 0)) du N = none := by
      rw [← hnone N (Nat.le_refl _)]
      refine gmf_cg N (fun n hn => ?_)
      rw [hall n hn]
      have : ¬ gm.1 44 t n = 0 := fun z => by
        have := (hT n hn).mp z
        rw [hall n hn] at this
        cases this
      simp [this]
    refine ⟨gx, gm, c, pk, ?_, ?_, gfr.rf, gfr.rf, hB, hP.w (fun m q => ⟨q.1, q.2.1⟩)⟩
    · rw [gz_l2_s]
      unfold f_X1_takeOthers_L5
      rw [hNo.1]
      by_cases hiN : N ≤ i
      · rw [if_pos (nI_le hiN (by omega))]
      · rw [if_neg (nI_ge (by omega) (by omega)), x_next hN hnx hNo hv, gz_call_e, hnone N (Nat.le_refl _), if_pos (show genc none = -1 from rfl)]
    · rw [gz_l1_s]
      unfold f_X11_issue_L188
      rw [if_neg (by decide), gz_j1_e]
      have hb := m_bestL (J := f_X11_issue_J249 t (nI pg) (nI w) (gz_l1 (f_X11_issue_L188 t (nI pg) (nI w) J) (fm + 1))) hN hNo ht N 0 gz_fu (by omega) (by show N < 20000; omega)
      have hb' : gz_l2 (f_X11_issue_L199 t (f_X11_issue_J249 t (nI pg) (nI w) (gz_l1 (f_X11_issue_L188 t (nI pg) (nI w) J) (fm + 1)))) gz_fu (-1) 0 gm = _ := hb
      show gz_l2 (f_X11_issue_L199 t (f_X11_issue_J249 t (nI pg) (nI w) (gz_l1 (f_X11_issue_L188 t (nI pg) (nI w) J) (fm + 1)))) gz_fu (-1) 0 gm = _
      rw [hb', hS]
      unfold f_X11_issue_J249
      rw [gz_j1_e, if_pos (show genc none = -1 from rfl)]
      unfold f_X11_issue_J260
      rw [if_pos rfl, gz_l1_s]
      unfold f_X11_issue_L188
      rw [if_pos rfl]
  | succ q ih =>
    intro i B v1 c pk gx gm fx fm hq hi hfx hfm hNo ht hB hP hT hv
    obtain ⟨fx, rfl⟩ : ∃ q, fx = q + 1 := ⟨fx - 1, by omega⟩
    obtain ⟨fm, rfl⟩ : ∃ q, fm = q + 1 := ⟨fm - 1, by omega⟩
    have ih' := fun B v1 c pk gx gm => ih (i + 1) B v1 c pk gx gm fx fm
    have hSeq : gmf (fun n => decide (gm.1 44 t n = 0)) du N = gmf (gSo nx du wt B) du N := by
      refine gmf_cg N (fun n hn => ?_)
      cases hS : gSo nx du wt B n with
      | true =>
        simp [(hT n hn).mpr hS]
      | false =>
        have : ¬ gm.1 44 t n = 0 := fun z => by
          have := (hT n hn).mp z
          rw [hS] at this
          cases this
        simp [this]
    have hb := m_bestL (J := f_X11_issue_J249 t (nI pg) (nI w) (gz_l1 (f_X11_issue_L188 t (nI pg) (nI w) J) fm)) hN hNo ht N 0 gz_fu (by omega) (by show N < 20000; omega)
    have hb' : gz_l2 (f_X11_issue_L199 t (f_X11_issue_J249 t (nI pg) (nI w) (gz_l1 (f_X11_issue_L188 t (nI pg) (nI w) J) fm))) gz_fu (-1) 0 gm = _ := hb
    rw [hSeq] at hb'
    cases hg : gmf (gSo nx du wt B) du N with
    | none =>
      exfalso
      have := gs_cn_false (w := gSo nx du wt B) N 0 (fun j _ hj => gmf_none N hg j (by omega))
      omega
    | some m =>
      obtain ⟨hSm, hmN, hmin⟩ := gmf_some N m hg
      rw [hg] at hb'
      obtain ⟨-, ⟨d1, d2, d3⟩, hl, l1, l2⟩ := hNo.2.2 m hmN
      have hSm' : wt m = true ∧ ¬ du m < nx ∧ B ≤ gKy du m := by
        unfold gSo at hSm
        simpa using hSm
      -- the set without m
      have hset : ∀ j, j < N → gSo nx du wt (gKy du m + 1) j = (gSo nx du wt B j && decide (j ≠ m)) := by
        intro j hj
        by_cases e : j = m
        · subst e
          unfold gSo
          have : ¬ gKy du j + 1 ≤ gKy du j := by omega
          simp [this]
        · cases hS : gSo nx du wt B j with
          | true =>
            have h1 := hmin j hj hS
            unfold gSo at hS ⊢
            simp only [Bool.and_eq_true, Bool.not_eq_true', decide_eq_false_iff_not, decide_eq_true_eq] at hS
            have : gKy du m + 1 ≤ gKy du j := by
              unfold gKy
              omega
            simp [hS.1, hS.2.1, this, e]
          | false =>
            unfold gSo at hS ⊢
            cases hw1 : wt j with
            | false => simp
            | true =>
              rw [hw1] at hS
              by_cases hd1 : du j < nx
              · simp [hd1]
              · have h2 : ¬ B ≤ gKy du j := by simpa [hd1] using hS
                have h3 : ¬ gKy du m + 1 ≤ gKy du j := by omega
                simp [h3]
      have hcn : gs_cn (gSo nx du wt (gKy du m + 1)) N 0 = q := by
        rw [gs_cn_congr (w := fun j => gSo nx du wt B j && decide (j ≠ m)) N 0 (fun j _ hj => hset j (by omega))]
        have h1 := (gs_cn_set (w := gSo nx du wt B) (w' := fun j => gSo nx du wt B j && decide (j ≠ m)) (d := m) (fun j hj => by simp [hj]) N 0).1 (by omega) (by omega)
        have h2 : (gSo nx du wt B m && decide (m ≠ m)) = false := by simp
        rw [h2, hSm] at h1
        simp only [if_true, Bool.false_eq_true, if_false] at h1
        omega
      rw [gz_l2_s, gz_l1_s]
      generalize gz_l2 (f_X1_takeOthers_L5 (nI nx)) fx = rx at ih' ⊢
      generalize gz_l1 (f_X11_issue_L188 t (nI pg) (nI w) J) fm = rm at ih' hb' ⊢
      have hX : ∀ rx, f_X1_takeOthers_L5 (nI nx) rx v1 (nI i) gx = gz_call (f_X7_take (nI m) (nI (ls m)) gx) (fun r8 σ7 => rx (nI m) (nI (i + 1)) σ7) := by
        intro rx
        unfold f_X1_takeOthers_L5
        rw [hNo.1, if_neg (nI_ge (show i < N by omega) (by omega)), x_next hN hnx hNo hv, gz_call_e, hg, if_neg (show ¬ genc (some m) = -1 from gn_ne1 (by omega)), show genc (some m) = nI m from rfl, gz_ix_nI (show m < 61 by omega) (by decide), l1, nI_1]
      have hY : f_X11_issue_L188 t (nI pg) (nI w) J rm 1 gm = gz_call (f_X11_packs (nI m) (nI pg) (nI w) (gz_si gm 44 t m ((1 : Int32) &&& 1))) (fun r81 σ80 => rm 1 σ80) := by
        unfold f_X11_issue_L188
        rw [if_neg (by decide), gz_j1_e, hb']
        unfold f_X11_issue_J249
        rw [gz_j1_e, if_neg (show ¬ genc (some m) = -1 from gn_ne1 (by omega))]
        unfold f_X11_issue_J260 gz_tg
        rw [if_neg (by decide), if_pos ht, show genc (some m) = nI m from rfl, gz_ix_nI (show m < 60 by omega) (by decide), gz_w_e]
      rw [hX, hY]
      obtain ⟨ln, T, hH, hM⟩ := hB
      have hM1 : gMp c w ln pk (gz_si gm 44 t m ((1 : Int32) &&& 1)) := hM
      have h16 : (gz_si gm 44 t m ((1 : Int32) &&& 1)).1 16 0 m = nI (ls m) := l2
      have f1 : gfr gmz gm (gz_si gm 44 t m ((1 : Int32) &&& 1)) := gfr.rf.si rfl
      have h22 : (gz_si gm 44 t m ((1 : Int32) &&& 1)).2.2 = gm.2.2 := rfl
      have hr1 : ∀ j, (gz_si gm 44 t m ((1 : Int32) &&& 1)).1 44 t j = if j = m then 1 else gm.1 44 t j := fun j => by
        rw [gz_si_1]
        by_cases e : j = m
        · rw [if_pos ⟨rfl, rfl, e⟩, if_pos e]
          decide
        · rw [if_neg (fun q => e q.2.2), if_neg e]
      generalize gz_si gm 44 t m ((1 : Int32) &&& 1) = gm1 at hM1 h16 f1 h22 hr1 ⊢
      obtain ⟨gx2, gm2, k1, k2, k3, hor⟩ := g_pack hw hpg hl (show m < 61 by omega) h16 hH hM1
      have F2 : gfr gmz gm gm2 := f1.tr (k2.w gmx_z)
      have hT2 : ∀ j, j < N → (gm2.1 44 t j = 0 ↔ gSo nx du wt (gKy du m + 1) j = true) := by
        intro j hj
        rw [(k2 44 t j rfl).1, hr1 j, hset j hj]
        by_cases e : j = m
        · rw [if_pos e]
          simp [e]
        · rw [if_neg e, hT j hj]
          simp [e]
      have fin : ∀ c pk, gBo c w pg pk gx2 gm2 → gPd c pk (fun j => j < N ∧ wt j = true ∧ (du j < nx ∨ gKy du j < gKy du m + 1)) → ∃ gx' gm' c' pk', rx (nI m) (nI (i + 1)) gx2 = some gx' ∧ rm 1 gm2 = J gm' ∧ gfr ghx gx gx' ∧ gfr gmz gm gm' ∧ gBo c' w pg pk' gx' gm' ∧ gPd c' pk' (fun m => m < N ∧ wt m = true) := by
        intro c pk b1 b2
        obtain ⟨gx', gm', c', pk', a1, a2, a3, a4, a5, a6⟩ := ih' (gKy du m + 1) (nI m) c pk gx2 gm2 hcn (by omega) (by omega) (by omega) (hNo.fr k1 F2) (by rw [k3, h22]; exact ht) b1 b2 hT2 (Or.inr ⟨m, hmN, rfl, rfl⟩)
        exact ⟨gx', gm', c', pk', a1, a2, k1.tr a3, F2.tr a4, a5, a6⟩
      rcases hor with ⟨X, Y, c12, T', hH', hM'⟩ | ⟨X, Y, hH', hM'⟩
      · rw [X, Y, gz_call_e, gz_call_e]
        exact fin (c + 1) (gun pk c m) ⟨_, T', hH', hM'⟩ (hP.add (fun j z => ⟨z.1, z.2.1, by omega⟩) ⟨hmN, hSm'.1, Or.inr (by omega)⟩ (fun z => by omega))
      · rw [X, Y, gz_call_e, gz_call_e]
        exact fin c pk ⟨_, _, hH', hM'⟩ (hP.w (fun j z => ⟨z.1, z.2.1, by omega⟩))
