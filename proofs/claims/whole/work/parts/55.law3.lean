/-! law, source, changes -/
def gval (m27 : Nat → Int32) (x : Option Nat) : Int32 := match x with
  | none => -2147483648
  | some p => m27 p
theorem gn_back (a : Nat) : nI (a + 1) - 1 = nI a := nI_pred a
theorem m_since {C : Nat → Bool} {dy : Nat → Nat} {m27 : Nat → Int32} {q : Nat} {g : gz_S} (ht : gTab C dy m27 q g) : ∀ E fuel, E ≤ 10000 → E < fuel → gz_l1 f_X11_sinceOf_L35 fuel (nI E - 1) g = some (gencd dy (gbs C dy E q), g) := by
  intro E
  induction E with
  | zero =>
    intro fuel _ hf
    obtain ⟨fuel, rfl⟩ : ∃ k, fuel = k + 1 := ⟨fuel - 1, by omega⟩
    show f_X11_sinceOf_L35 _ (nI 0 - 1) g = _
    unfold f_X11_sinceOf_L35
    rw [if_pos (by decide), gbs_0]
    rfl
  | succ E ih =>
    intro fuel hE hf
    obtain ⟨fuel, rfl⟩ : ∃ k, fuel = k + 1 := ⟨fuel - 1, by omega⟩
    show f_X11_sinceOf_L35 (gz_l1 f_X11_sinceOf_L35 fuel) (nI (E + 1) - 1) g = _
    have ih' := ih fuel (by omega) (by omega)
    generalize gz_l1 f_X11_sinceOf_L35 fuel = rc at ih' ⊢
    unfold f_X11_sinceOf_L35
    rw [gn_back, if_neg (nI_pos (by omega)), gz_ix_nI (show E < 10000 by omega) (by decide), (ht E (by omega)).1, gbs_day]
    cases hx : gla C dy E q with
    | none =>
      rw [if_pos (show (if (none : Option Nat).isSome = true then (1 : Int32) else 0) = 0 from rfl), ← Int32.sub_eq_add_neg]
      exact ih'
    | some p =>
      rw [if_neg (show ¬ (if (some p).isSome = true then (1 : Int32) else 0) = 0 from (by decide : ¬ (1 : Int32) = 0))]
      show _ = some (nI (dy p), g)
      rw [(gla_some hx).2.1]
theorem x_lawValue {N : Nat} (hN : N ≤ 60) {σ : gz_S} (h1 : σ.1 10 0 1 = nI N) {m27 : Nat → Int32} {x : Option Nat} (hx : ∀ p, x = some p → ∃ n j, n < N ∧ j < 4 ∧ p = 4 * n + j ∧ σ.1 17 n j = m27 p) : f_X1_lawValue (genc x) σ = some (gval m27 x, σ) := by
  unfold f_X1_lawValue
  rw [gz_j1_e]
  unfold f_X1_lawValue_J15
  cases x with
  | none =>
    show (if (0 : Int32) ≤ -1 then _ else _) = _
    rw [if_neg (by decide), gz_nl_none]
    rfl
  | some p =>
    obtain ⟨n, j, hn, hj, rfl, e⟩ := hx p rfl
    show (if (0 : Int32) ≤ nI (4 * n + j) then _ else _) = _
    rw [if_pos ((gn_ge 0).mpr (by omega))]
    show gz_call (f_X1_at (nI (4 * n + j) / 4) σ) _ = _
    rw [show nI (4 * n + j) / 4 = nI n from by
      have := gn_div 4 (a := 4 * n + j)
      rw [show (4 * n + j) / 4 = n by omega] at this
      exact this]
    rcases g_note (nI n) hN with ⟨n', hn', e', e1, -⟩ | ⟨e1, -, -⟩
    · have : n = n' := (nI_eq (by omega) (by omega)).mp e'
      subst this
      rw [e1 σ h1, gz_call_e, gz_nl_some (by omega)]
      show gz_ix (gz_rem (nI (4 * n + j)) 4) 4 _ = _
      rw [show gz_rem (nI (4 * n + j)) 4 = nI ((4 * n + j) % 4) from gn_rem 4, show (4 * n + j) % 4 = j by omega, gz_ix_nI hj (by decide), e]
      rfl
    · exact absurd rfl (e1 n hn)
theorem x_lawDay {N : Nat} (hN : N ≤ 60) {σ : gz_S} (h1 : σ.1 10 0 1 = nI N) {d : Nat} {p : Nat} (hx : ∃ n j, n < N ∧ j < 4 ∧ p = 4 * n + j ∧ σ.1 18 n j = nI d) : f_X1_lawDay (nI p) σ = some (nI d, σ) := by
  unfold f_X1_lawDay
  rw [gz_j1_e]
  unfold f_X1_lawDay_J15
  obtain ⟨n, j, hn, hj, rfl, e⟩ := hx
  rw [if_pos ((gn_ge 0).mpr (by omega))]
  rw [show nI (4 * n + j) / 4 = nI n from by
      have := gn_div 4 (a := 4 * n + j)
      rw [show (4 * n + j) / 4 = n by omega] at this
      exact this]
  rcases g_note (nI n) hN with ⟨n', hn', e', e1, -⟩ | ⟨e1, -, -⟩
  · have : n = n' := (nI_eq (by omega) (by omega)).mp e'
    subst this
    rw [e1 σ h1, gz_call_e, gz_nl_some (by omega)]
    rw [show gz_rem (nI (4 * n + j)) 4 = nI ((4 * n + j) % 4) from gn_rem 4, show (4 * n + j) % 4 = j by omega, gz_ix_nI hj (by decide), e]
  · exact absurd rfl (e1 n hn)
theorem s_law {σx σm : gz_S} (h : gR σx σm) (a b c : Int32) : gQ (f_X9_law a b c σx) (f_X11_law a b c σm) := by
  obtain ⟨F, P, N, I, fo, la, L, h⟩ := h
  unfold f_X9_law f_X11_law
  rw [gz_w_e]
  replace h := h.th 0
  generalize gz_si σm 0 0 0 0 = σm at h ⊢
  have hR : gR σx σm := ⟨F, P, N, I, fo, la, L, h⟩
  unfold f_X11_sinceOf
  rcases x_isKey a with ⟨k, hk, rfl, k1, k2⟩ | ⟨k1, k2⟩
  · rw [k1, gz_call_e, if_neg (show ¬ (1 : Int32) = 0 by decide), k2, gz_call_e, if_neg (show ¬ (1 : Int32) = 0 by decide)]
    rcases g_isDay b with ⟨d, hd, rfl⟩ | ⟨e1, e2⟩
    · rw [x_isDay hd, gz_call_e, if_neg (show ¬ (1 : Int32) = 0 by decide), m_isDay hd, gz_call_e, if_neg (show ¬ (1 : Int32) = 0 by decide)]
      rcases g_isDay c with ⟨e, he, rfl⟩ | ⟨e1, e2⟩
      · rw [x_isDay he, gz_call_e, if_neg (show ¬ (1 : Int32) = 0 by decide), m_isDay he, gz_call_e, if_neg (show ¬ (1 : Int32) = 0 by decide)]
        obtain ⟨gx, gm, C, ex, em, hr, ht, hp, hC⟩ := g_lay h (nI k) (nI e)
        have hB := hr.2.2.2.2.2.2.2.2.2.2.2.B
        have hsin := m_since ht (d + 1) gz_fu (by omega) (by show d + 1 < 20000; omega)
        have hpl := hp (d + 1) (by omega)
        rw [gn_back] at hsin hpl
        rw [ex, em, gz_then_e, gz_then_e, hpl, gz_call_e, hsin, gz_call_e]
        have hv := x_lawValue (m27 := σm.1 27 0) (x := gbs C (gdy (σm.1 28 0)) (d + 1) (4 * N)) hB.2.2.1 hr.2.2.2.2.1.1 (fun p hp => by
          obtain ⟨n, j, hn, hj, e⟩ := hC p (gbs_some hp).1
          have hl := hr.2.2.2.2.2.2.1 n hn j hj
          refine ⟨n, j, hn, by have := (hB.2.2.2 n hn).2; omega, e, ?_⟩
          rw [e]
          exact hl.2.1)
        rw [hv, gz_call_e]
        cases hx : gbs C (gdy (σm.1 28 0)) (d + 1) (4 * N) with
        | none =>
          rw [if_neg (show ¬ (0 : Int32) ≤ gencd (gdy (σm.1 28 0)) none from (by decide : ¬ (0 : Int32) ≤ -1))]
          exact gQ_mk rfl rfl ⟨F, P, N, I, fo, la, L, hr⟩
        | some p =>
          have hs := gbs_some hx
          have hlt := hs.2.1
          rw [if_pos (show (0 : Int32) ≤ gencd (gdy (σm.1 28 0)) (some p) from (gn_ge 0 (a := gdy (σm.1 28 0) p)).mpr (by omega))]
          show gQ _ (gz_ix (nI (gdy (σm.1 28 0) p)) 10000 _)
          rw [gz_ix_nI (show gdy (σm.1 28 0) p < 10000 by omega) (by decide)]
          have := (ht _ (show gdy (σm.1 28 0) p < 10000 by omega)).2 p (gbs_back _ hx)
          rw [this.1]
          exact gQ_mk rfl rfl ⟨F, P, N, I, fo, la, L, hr⟩
      · rw [e1, gz_call_e, if_pos rfl, e2, gz_call_e, if_pos rfl, gz_call_e, if_neg (by decide)]
        exact gQ_mk rfl rfl hR
    · rw [e1, gz_call_e, if_pos rfl, e2, gz_call_e, if_pos rfl, gz_call_e, if_neg (by decide)]
      exact gQ_mk rfl rfl hR
  · rw [k1, gz_call_e, if_pos rfl, k2, gz_call_e, if_pos rfl, gz_call_e, if_neg (by decide)]
    exact gQ_mk rfl rfl hR
theorem s_source {σx σm : gz_S} (h : gR σx σm) (a b c : Int32) : gQ (f_X9_source a b c σx) (f_X11_source a b c σm) := by
  obtain ⟨F, P, N, I, fo, la, L, h⟩ := h
  unfold f_X9_source f_X11_source
  rw [gz_w_e]
  replace h := h.th 0
  generalize gz_si σm 0 0 0 0 = σm at h ⊢
  have hR : gR σx σm := ⟨F, P, N, I, fo, la, L, h⟩
  unfold f_X11_sinceOf
  rcases x_isKey a with ⟨k, hk, rfl, k1, k2⟩ | ⟨k1, k2⟩
  · rw [k1, gz_call_e, if_neg (show ¬ (1 : Int32) = 0 by decide), k2, gz_call_e, if_neg (show ¬ (1 : Int32) = 0 by decide)]
    rcases g_isDay b with ⟨d, hd, rfl⟩ | ⟨e1, e2⟩
    · rw [x_isDay hd, gz_call_e, if_neg (show ¬ (1 : Int32) = 0 by decide), m_isDay hd, gz_call_e, if_neg (show ¬ (1 : Int32) = 0 by decide)]
      rcases g_isDay c with ⟨e, he, rfl⟩ | ⟨e1, e2⟩
      · rw [x_isDay he, gz_call_e, if_neg (show ¬ (1 : Int32) = 0 by decide), m_isDay he, gz_call_e, if_neg (show ¬ (1 : Int32) = 0 by decide)]
        obtain ⟨gx, gm, C, ex, em, hr, ht, hp, hC⟩ := g_lay h (nI k) (nI e)
        have hB := hr.2.2.2.2.2.2.2.2.2.2.2.B
        have hsin := m_since ht (d + 1) gz_fu (by omega) (by show d + 1 < 20000; omega)
        have hpl := hp (d + 1) (by omega)
        rw [gn_back] at hsin hpl
        rw [ex, em, gz_then_e, gz_then_e, hpl, gz_call_e, hsin, gz_call_e]
        cases hx : gbs C (gdy (σm.1 28 0)) (d + 1) (4 * N) with
        | none =>
          rw [if_neg (show ¬ (0 : Int32) ≤ gencd (gdy (σm.1 28 0)) none from (by decide : ¬ (0 : Int32) ≤ -1)), if_pos (show genc none = -1 from rfl)]
          exact gQ_mk rfl rfl ⟨F, P, N, I, fo, la, L, hr⟩
        | some p =>
          have hs := gbs_some hx
          have hlt := hs.2.1
          have hp240 : p < 240 := by have := hs.2.2; have := hB.2.2.1; omega
          rw [if_pos (show (0 : Int32) ≤ gencd (gdy (σm.1 28 0)) (some p) from (gn_ge 0 (a := gdy (σm.1 28 0) p)).mpr (by omega)), if_neg (show ¬ genc (some p) = -1 from gn_ne1 (by omega))]
          show gQ _ (gz_ix (nI (gdy (σm.1 28 0) p)) 10000 _)
          rw [gz_ix_nI (show gdy (σm.1 28 0) p < 10000 by omega) (by decide)]
          have := (ht _ (show gdy (σm.1 28 0) p < 10000 by omega)).2 p (gbs_back _ hx)
          rw [this.2]
          refine gQ_mk (r := nI (p / 4)) ?_ rfl ⟨F, P, N, I, fo, la, L, hr⟩
          show some (nI p / 4, _) = _
          rw [show nI p / 4 = nI (p / 4) from gn_div 4]
      · rw [e1, gz_call_e, if_pos rfl, e2, gz_call_e, if_pos rfl, gz_call_e, if_neg (by decide)]
        exact gQ_mk rfl rfl hR
    · rw [e1, gz_call_e, if_pos rfl, e2, gz_call_e, if_pos rfl, gz_call_e, if_neg (by decide)]
      exact gQ_mk rfl rfl hR
  · rw [k1, gz_call_e, if_pos rfl, k2, gz_call_e, if_pos rfl, gz_call_e, if_neg (by decide)]
    exact gQ_mk rfl rfl hR
/-! changes -/
def gct (C : Nat → Bool) (dy : Nat → Nat) (m27 : Nat → Int32) (q : Nat) : Nat → Nat
  | 0 => 0
  | d + 1 => gct C dy m27 q d + (match gla C dy d q with
    | none => 0
    | some p => if m27 p = gval m27 (gbs C dy d q) then 0 else 1)
theorem gs_cn_last (w : Nat → Bool) : ∀ n i, gs_cn w (n + 1) i = gs_cn w n i + (if w (i + n) = true then 1 else 0) := by
  intro n
  induction n with
  | zero => intro i; show (if w i = true then 1 else 0) + 0 = 0 + _; rw [Nat.add_zero, Nat.add_zero, Nat.zero_add]
  | succ n ih =>
    intro i
    show (if w i = true then 1 else 0) + gs_cn w (n + 1) (i + 1) = ((if w i = true then 1 else 0) + gs_cn w n (i + 1)) + _
    rw [ih (i + 1), show i + 1 + n = i + (n + 1) by omega]
    omega
theorem gct_gap {C : Nat → Bool} {dy : Nat → Nat} {m27 : Nat → Int32} {q d : Nat} : ∀ n, (∀ j, d ≤ j → j < d + n → gla C dy j q = none) → gct C dy m27 q (d + n) = gct C dy m27 q d ∧ gs_cn (fun d => (gla C dy d q).isSome) (d + n) 0 = gs_cn (fun d => (gla C dy d q).isSome) d 0 := by
  intro n
  induction n with
  | zero => intro _; exact ⟨rfl, rfl⟩
  | succ n ih =>
    intro h
    have i := ih (fun j h1 h2 => h j h1 (by omega))
    have hn := h (d + n) (by omega) (by omega)
    constructor
    · show gct C dy m27 q (d + n) + (match gla C dy (d + n) q with
        | none => 0
        | some p => if m27 p = gval m27 (gbs C dy (d + n) q) then 0 else 1) = _
      rw [hn, i.1]
      rfl
    · rw [show d + (n + 1) = (d + n) + 1 by omega, gs_cn_last, i.2, Nat.zero_add]
      simp only [hn]
      rfl
theorem x_changes {N : Nat} (hN : N ≤ 60) {key kn : Int32} {σ : gz_S} {C : Nat → Bool} {dy : Nat → Nat} {m27 : Nat → Int32} (h1 : σ.1 10 0 1 = nI N) (hp : ∀ E, E ≤ 10000 → f_X1_lawPlace key (nI E - 1) kn σ = some (genc (gbs C dy E (4 * N)), σ)) (hC : ∀ p, C p = true → dy p < 10000 ∧ ∃ n j, n < N ∧ j < 4 ∧ p = 4 * n + j ∧ σ.1 17 n j = m27 p ∧ σ.1 18 n j = nI (dy p)) : ∀ m E, E ≤ m → E ≤ 10000 → ∀ i c fuel, i + gs_cn (fun d => (gla C dy d (4 * N)).isSome) E 0 ≤ 240 → 240 - i < fuel → gz_l3 (f_X1_countChanges_L16 key kn) fuel (nI c) (genc (gbs C dy E (4 * N))) (nI i) σ = some (nI (c + gct C dy m27 (4 * N) E), σ) := by
  intro m
  induction m with
  | zero =>
    intro E hEm hE i c fuel hi hf
    obtain ⟨fuel, rfl⟩ : ∃ k, fuel = k + 1 := ⟨fuel - 1, by omega⟩
    show f_X1_countChanges_L16 key kn _ (nI c) _ (nI i) σ = _
    unfold f_X1_countChanges_L16
    have : E = 0 := by omega
    subst this
    rw [gbs_0]
    split
    · rfl
    · rw [if_pos (show genc none = -1 from rfl)]
      rfl
  | succ m ih =>
    intro E hEm hE i c fuel hi hf
    obtain ⟨fuel, rfl⟩ : ∃ k, fuel = k + 1 := ⟨fuel - 1, by omega⟩
    show f_X1_countChanges_L16 key kn (gz_l3 (f_X1_countChanges_L16 key kn) fuel) (nI c) _ (nI i) σ = _
    cases hx : gbs C dy E (4 * N) with
    | none =>
      unfold f_X1_countChanges_L16
      have h0 : gct C dy m27 (4 * N) E = 0 := by
        have := (gct_gap (C := C) (dy := dy) (m27 := m27) (q := 4 * N) (d := 0) E (fun j _ hj => gbs_none hx j (by omega))).1
        rw [Nat.zero_add] at this
        exact this
      rw [h0]
      split
      · rfl
      · rw [if_pos (show genc none = -1 from rfl)]
        rfl
    | some p =>
      obtain ⟨hCp, hpE, hpq⟩ := gbs_some hx
      obtain ⟨hd4, hpl⟩ := hC p hCp
      have hgap := gct_gap (C := C) (dy := dy) (m27 := m27) (q := 4 * N) (d := dy p + 1) (E - (dy p + 1)) (fun j h1 h2 => gbs_gap hx j (by omega) (by omega))
      rw [show dy p + 1 + (E - (dy p + 1)) = E by omega] at hgap
      have hb := gbs_back _ hx
      have hc1 : gct C dy m27 (4 * N) E = gct C dy m27 (4 * N) (dy p) + (if m27 p = gval m27 (gbs C dy (dy p) (4 * N)) then 0 else 1) := by
        rw [hgap.1]
        show gct C dy m27 (4 * N) (dy p) + (match gla C dy (dy p) (4 * N) with
          | none => 0
          | some p' => if m27 p' = gval m27 (gbs C dy (dy p) (4 * N)) then 0 else 1) = _
        rw [hb]
      have hc2 : gs_cn (fun d => (gla C dy d (4 * N)).isSome) E 0 = gs_cn (fun d => (gla C dy d (4 * N)).isSome) (dy p) 0 + 1 := by
        rw [hgap.2, gs_cn_last, Nat.zero_add]
        simp only [hb]
        rfl
      have hpv : ∀ p', gbs C dy (dy p) (4 * N) = some p' → ∃ n j, n < N ∧ j < 4 ∧ p' = 4 * n + j ∧ σ.1 17 n j = m27 p' := fun p' h' => by
        obtain ⟨-, n, j, a1, a2, a3, a4, -⟩ := hC p' (gbs_some h').1
        exact ⟨n, j, a1, a2, a3, a4⟩
      have v1 := x_lawValue (m27 := m27) (x := gbs C dy (dy p) (4 * N)) hN h1 hpv
      have v2 := x_lawValue (m27 := m27) (x := some p) hN h1 (fun p' h' => by
        cases h'
        obtain ⟨n, j, a1, a2, a3, a4, -⟩ := hpl
        exact ⟨n, j, a1, a2, a3, a4⟩)
      have v3 := x_lawDay (d := dy p) (p := p) hN h1 (by
        obtain ⟨n, j, a1, a2, a3, -, a4⟩ := hpl
        exact ⟨n, j, a1, a2, a3, a4⟩)
      have ih' := fun c => ih (dy p) (by omega) (by omega) (i + 1) c fuel (by omega) (by omega)
      generalize gz_l3 (f_X1_countChanges_L16 key kn) fuel = rc at ih' ⊢
      unfold f_X1_countChanges_L16
      rw [if_neg (fun q => by have := (gn_ge 240 (a := i)).mp q; omega), if_neg (show ¬ genc (some p) = -1 from gn_ne1 (by omega)), show genc (some p) = nI p from rfl, v3, gz_call_e, hp (dy p) (by omega), gz_call_e, v1, gz_call_e, show nI p = genc (some p) from rfl, v2, gz_call_e, gz_j2_e]
      unfold f_X1_countChanges_J67
      rw [gz_v_e, gz_v_e, nI_1]
      rw [show gval m27 (some p) = m27 p from rfl]
      rw [hc1]
      by_cases hv : m27 p = gval m27 (gbs C dy (dy p) (4 * N))
      · rw [if_pos hv.symm, if_pos hv, nI_z, ih', Nat.add_zero]
      · rw [if_neg (fun q => hv q.symm), if_neg hv, nI_1, ih']
        rw [show c + 1 + gct C dy m27 (4 * N) (dy p) = c + (gct C dy m27 (4 * N) (dy p) + 1) by omega]
theorem m_changes {C : Nat → Bool} {dy : Nat → Nat} {m27 : Nat → Int32} {q : Nat} {g : gz_S} (ht : gTab C dy m27 q g) : ∀ n d fuel, d + n = 10000 → n < fuel → gz_l3 f_X11_changes_L40 fuel (gval m27 (gbs C dy d q)) (nI (gct C dy m27 q d)) (nI d) g = some (nI (gct C dy m27 q 10000), g) := by
  intro n
  induction n with
  | zero =>
    intro d fuel hd hf
    obtain ⟨fuel, rfl⟩ : ∃ k, fuel = k + 1 := ⟨fuel - 1, by omega⟩
    show f_X11_changes_L40 _ _ _ (nI d) g = _
    unfold f_X11_changes_L40
    rw [if_pos ((gn_ge 10000).mpr (by omega)), show d = 10000 by omega]
  | succ n ih =>
    intro d fuel hd hf
    obtain ⟨fuel, rfl⟩ : ∃ k, fuel = k + 1 := ⟨fuel - 1, by omega⟩
    show f_X11_changes_L40 (gz_l3 f_X11_changes_L40 fuel) _ _ (nI d) g = _
    have ih' := ih (d + 1) fuel (by omega) (by omega)
    generalize gz_l3 f_X11_changes_L40 fuel = rc at ih' ⊢
    unfold f_X11_changes_L40
    rw [if_neg (fun q => by have := (gn_ge 10000 (a := d)).mp q; omega)]
    simp only [gz_ix_nI (show d < 10000 by omega) (show 10000 < 2 ^ 31 by decide), gz_j2_e, gz_v_e]
    unfold f_X11_changes_J83
    rw [nI_1, nI_1]
    have hs : gct C dy m27 q (d + 1) = gct C dy m27 q d + (match gla C dy d q with
      | none => 0
      | some p => if m27 p = gval m27 (gbs C dy d q) then 0 else 1) := rfl
    rw [hs, gbs_day] at ih'
    have ht' := ht d (by omega)
    rw [ht'.1]
    cases hx : gla C dy d q with
    | none =>
      rw [hx] at ih'
      rw [if_pos (show (if (none : Option Nat).isSome = true then (1 : Int32) else 0) = 0 from rfl)]
      exact ih'
    | some p =>
      rw [hx] at ih'
      rw [if_neg (show ¬ (if (some p).isSome = true then (1 : Int32) else 0) = 0 from (by decide : ¬ (1 : Int32) = 0)), (ht'.2 p hx).1]
      simp only at ih'
      by_cases hv : m27 p = gval m27 (gbs C dy d q)
      · rw [if_pos hv] at ih' ⊢
        rw [← hv]
        exact ih'
      · rw [if_neg hv] at ih' ⊢
        exact ih'
theorem s_changes {σx σm : gz_S} (h : gR σx σm) (a b : Int32) : gQ (f_X9_changes a b σx) (f_X11_changes a b σm) := by
  obtain ⟨F, P, N, I, fo, la, L, h⟩ := h
  unfold f_X9_changes f_X11_changes
  rw [gz_w_e]
  replace h := h.th 0
  generalize gz_si σm 0 0 0 0 = σm at h ⊢
  have hR : gR σx σm := ⟨F, P, N, I, fo, la, L, h⟩
  rcases x_isKey a with ⟨k, hk, rfl, k1, k2⟩ | ⟨k1, k2⟩
  · rw [k1, gz_call_e, if_neg (show ¬ (1 : Int32) = 0 by decide), k2, gz_call_e, if_neg (show ¬ (1 : Int32) = 0 by decide)]
    rcases g_isDay b with ⟨d, hd, rfl⟩ | ⟨e1, e2⟩
    · rw [x_isDay hd, gz_call_e, if_neg (show ¬ (1 : Int32) = 0 by decide), m_isDay hd, gz_call_e, if_neg (show ¬ (1 : Int32) = 0 by decide)]
      obtain ⟨gx, gm, C, ex, em, hr, ht, hp, hC⟩ := g_lay h (nI k) (nI d)
      have hB := hr.2.2.2.2.2.2.2.2.2.2.2.B
      have hN := hB.2.2.1
      rw [ex, em, gz_then_e, gz_then_e]
      unfold f_X1_countChanges
      have hpl := hp 10000 (by omega)
      rw [show nI 10000 - 1 = 9999 by decide] at hpl
      rw [hpl, gz_call_e]
      have hc1 := gla_count (C := C) (dy := gdy (σm.1 28 0)) 10000 (4 * N)
      have hx := x_changes (m27 := σm.1 27 0) hN hr.2.2.2.2.1.1 hp (fun p hCp => by
        obtain ⟨n, j, hn, hj, rfl⟩ := hC p hCp
        obtain ⟨l1, l2, l3, dd, l4, l5, l6⟩ := hr.2.2.2.2.2.2.1 n hn j hj
        have l6' : σm.1 28 0 (4 * n + j) = nI dd := l6
        have hdy : gdy (σm.1 28 0) (4 * n + j) = dd := by
          unfold gdy
          rw [l6', gz_nI_tn (by omega)]
        rw [hdy]
        exact ⟨l4, n, j, hn, by have := (hB.2.2.2 n hn).2; omega, rfl, l2, l5⟩) 10000 10000 (Nat.le_refl _) (Nat.le_refl _) 0 0 gz_fu (by rw [Nat.zero_add]; exact Nat.le_trans hc1 (by omega)) (by show 240 - 0 < 20000; omega)
      have hm := m_changes ht 10000 0 gz_fu (by omega) (by show 10000 < 20000; omega)
      rw [gbs_0, show gval (σm.1 27 0) none = -2147483648 from rfl, show gct C (gdy (σm.1 28 0)) (σm.1 27 0) (4 * N) 0 = 0 from rfl, show nI 0 = 0 from rfl] at hm
      rw [Nat.zero_add, show nI 0 = 0 from rfl] at hx
      rw [hx, gz_call_e, hm]
      exact gQ_mk rfl rfl ⟨F, P, N, I, fo, la, L, hr⟩
    · rw [e1, gz_call_e, if_pos rfl, e2, gz_call_e, if_pos rfl]
      exact gQ_mk rfl rfl hR
  · rw [k1, gz_call_e, if_pos rfl, k2, gz_call_e, if_pos rfl]
    exact gQ_mk rfl rfl hR
