/-! calls that only tell -/
theorem rAll.th {F P N I : Nat} {fo la : Nat → Nat} {L : List gA} {σx σm : gz_S} (h : rAll F P N I fo la L σx σm) (v : Int32) : rAll F P N I fo la L σx (gz_si σm 0 0 0 v) := h
theorem rAll.tr {F P N I : Nat} {fo la : Nat → Nat} {L : List gA} {σx σm : gz_S} (h : rAll F P N I fo la L σx σm) {w : Int32} (hw : w ≠ 4) : rAll F P N I fo la L (gz_si σx 0 0 10 w) (gz_si (gz_si σm 0 0 1 w) 0 0 2 (-1)) := by
  obtain ⟨h1, h2, h3⟩ := h
  exact ⟨h1, ⟨rfl, h2.2.1, (if_neg hw).symm, h2.2.2.2⟩, h3⟩
theorem gR.th {σx σm : gz_S} (h : gR σx σm) : gR σx (gz_si σm 0 0 0 0) := by
  obtain ⟨F, P, N, I, fo, la, L, h⟩ := h
  exact ⟨F, P, N, I, fo, la, L, h.th 0⟩
theorem gR.tr {σx σm : gz_S} (h : gR σx σm) {w : Int32} (hw : w ≠ 4) : gR (gz_si σx 0 0 10 w) (gz_si (gz_si σm 0 0 1 w) 0 0 2 (-1)) := by
  obtain ⟨F, P, N, I, fo, la, L, h⟩ := h
  exact ⟨F, P, N, I, fo, la, L, h.tr hw⟩
theorem gQ_mk {β : Type} {x y : Option (β × gz_S)} {r : β} {σx σm : gz_S} (hx : x = some (r, σx)) (hy : y = some (r, σm)) (h : gR σx σm) : gQ x y := ⟨_, hx, _, hy, rfl, h⟩
theorem g_nlt {a b : Int32} (h : b ≤ a) : ¬ a < b := fun q => by
  have h1 := Int32.le_iff_toInt_le.mp h
  have h2 := Int32.lt_iff_toInt_lt.mp q
  omega
theorem g_nle {a b : Int32} (h : a < b) : ¬ b ≤ a := fun q => g_nlt q h
theorem g_not0 {a : Int32} {n : Nat} (hn : n < 2 ^ 31) (h : nI n ≤ a) : ¬ a < 0 := fun q => by
  have h1 := Int32.le_iff_toInt_le.mp h
  have h2 := Int32.lt_iff_toInt_lt.mp q
  rw [nI_toInt hn] at h1
  have c0 : (0 : Int32).toInt = 0 := by decide
  omega
/-- a number is a place below c, or it isn't -/
theorem g_ixc (a : Int32) {c : Nat} (hc : c < 2 ^ 31) : a < 0 ∨ (¬ a < 0 ∧ nI c ≤ a ∧ ¬ a < nI c) ∨ ∃ j, j < c ∧ a = nI j ∧ ¬ a < 0 ∧ a < nI c ∧ ¬ nI c ≤ a := by
  rcases pk_ix a hc with h | h | ⟨j, hj, rfl⟩
  · exact Or.inl h
  · exact Or.inr (Or.inl ⟨g_not0 hc h, h, g_nlt h⟩)
  · exact Or.inr (Or.inr ⟨j, hj, rfl, nI_pos (by omega), nI_lt hj hc, nI_ge hj hc⟩)
theorem g_note (a : Int32) {N : Nat} (hN : N ≤ 60) : (∃ n, n < N ∧ a = nI n ∧ (∀ σ : gz_S, σ.1 10 0 1 = nI N → f_X1_at a σ = some (some n, σ)) ∧ ∀ σ : gz_S, σ.1 0 0 29 = nI N → f_X11_isNotice a σ = some (1, σ)) ∨ ((∀ n, n < N → a ≠ nI n) ∧ (∀ σ : gz_S, σ.1 10 0 1 = nI N → f_X1_at a σ = some (none, σ)) ∧ ∀ σ : gz_S, σ.1 0 0 29 = nI N → f_X11_isNotice a σ = some (0, σ)) := by
  rcases g_ixc a (c := N) (by omega) with h | ⟨h1, h2, h3⟩ | ⟨n, hn, rfl, h1, h2, h3⟩
  · refine Or.inr ⟨fun n hn e => ?_, fun σ hs => ?_, fun σ hs => ?_⟩
    · subst e
      exact nI_pos (by omega) h
    · unfold f_X1_at
      rw [if_pos h]
    · unfold f_X11_isNotice
      rw [if_pos h]
      rfl
  · refine Or.inr ⟨fun n hn e => ?_, fun σ hs => ?_, fun σ hs => ?_⟩
    · subst e
      exact h3 (nI_lt hn (by omega))
    · unfold f_X1_at
      rw [if_neg h1, hs, if_neg h3]
    · unfold f_X11_isNotice
      rw [if_neg h1, hs, if_pos h2]
      rfl
  · refine Or.inl ⟨n, hn, rfl, fun σ hs => ?_, fun σ hs => ?_⟩
    · unfold f_X1_at
      rw [if_neg h1, hs, if_pos h2, gz_ix_nI (show n < 61 by omega) (by decide)]
    · unfold f_X11_isNotice
      rw [if_neg h1, hs, if_neg h3]
      rfl
theorem g_form (a : Int32) {P : Nat} (hP : P ≤ 12) : (∃ n, n < P ∧ a = nI n ∧ (∀ σ : gz_S, σ.1 0 0 3 = nI P → f_X9_formAt a σ = some (some n, σ)) ∧ ∀ σ : gz_S, σ.1 0 0 21 = nI P → f_X11_isForm a σ = some (1, σ)) ∨ ((∀ σ : gz_S, σ.1 0 0 3 = nI P → f_X9_formAt a σ = some (none, σ)) ∧ ∀ σ : gz_S, σ.1 0 0 21 = nI P → f_X11_isForm a σ = some (0, σ)) := by
  rcases g_ixc a (c := P) (by omega) with h | ⟨h1, h2, h3⟩ | ⟨n, hn, rfl, h1, h2, h3⟩
  · refine Or.inr ⟨fun σ hs => ?_, fun σ hs => ?_⟩
    · unfold f_X9_formAt
      rw [if_pos h]
    · unfold f_X11_isForm
      rw [if_pos h]
      rfl
  · refine Or.inr ⟨fun σ hs => ?_, fun σ hs => ?_⟩
    · unfold f_X9_formAt
      rw [if_neg h1, hs, if_neg h3]
    · unfold f_X11_isForm
      rw [if_neg h1, hs, if_pos h2]
      rfl
  · refine Or.inl ⟨n, hn, rfl, fun σ hs => ?_, fun σ hs => ?_⟩
    · unfold f_X9_formAt
      rw [if_neg h1, hs, if_pos h2, gz_ix_nI (show n < 13 by omega) (by decide)]
    · unfold f_X11_isForm
      rw [if_neg h1, hs, if_neg h3]
      rfl
theorem s_fault {σx σm : gz_S} (h : gR σx σm) : gQ (f_X9_fault σx) (f_X11_fault σm) := by
  obtain ⟨F, P, N, I, fo, la, L, h⟩ := h
  refine gQ_mk rfl ?_ ⟨F, P, N, I, fo, la, L, h.th 0⟩
  unfold f_X11_fault
  rw [gz_w_e, h.2.1.2.1]
  rfl
theorem s_trouble {σx σm : gz_S} (h : gR σx σm) : gQ (f_X9_trouble σx) (f_X11_trouble σm) := by
  obtain ⟨F, P, N, I, fo, la, L, h⟩ := h
  refine gQ_mk rfl ?_ ⟨F, P, N, I, fo, la, L, h.th 0⟩
  unfold f_X11_trouble
  rw [gz_w_e, h.2.1.1]
  rfl
theorem s_where {σx σm : gz_S} (h : gR σx σm) : gQ (f_X9_where σx) (f_X11_where σm) := by
  obtain ⟨F, P, N, I, fo, la, L, h⟩ := h
  have h2 := h.2.1
  refine gQ_mk (r := σm.1 0 0 2) ?_ rfl ⟨F, P, N, I, fo, la, L, h.th 0⟩
  unfold f_X9_where
  rw [h2.2.2.1, h2.1]
  split <;> rfl
theorem s_lacks {σx σm : gz_S} (h : gR σx σm) : gQ (f_X9_lacks σx) (f_X11_lacks σm) := by
  obtain ⟨F, P, N, I, fo, la, L, h⟩ := h
  have h2 := h.2.1
  refine gQ_mk (r := σm.1 0 0 4) ?_ rfl ⟨F, P, N, I, fo, la, L, h.th 0⟩
  unfold f_X9_lacks
  rw [h2.2.2.2, h2.2.1]
  split <;> rfl
theorem s_fields {σx σm : gz_S} (h : gR σx σm) (a : Int32) : gQ (f_X9_fields a σx) (f_X11_fields a σm) := by
  obtain ⟨F, P, N, I, fo, la, L, h⟩ := h
  unfold f_X9_fields f_X11_fields
  rw [gz_w_e]
  replace h := h.th 0
  generalize gz_si σm 0 0 0 0 = σm at h ⊢
  have hR : gR σx σm := ⟨F, P, N, I, fo, la, L, h⟩
  have hP := h.2.2.2.2.2.2.2.2.2.2.2.B.2.1
  obtain ⟨hf1, hf2, hf3⟩ := h.2.2.2.1
  rcases g_form a hP with ⟨n, hn, rfl, e1, e2⟩ | ⟨e1, e2⟩
  · rw [e1 _ hf1, e2 _ hf2, gz_call_e, gz_call_e, if_neg (by decide), gz_ix_nI (show n < 13 by omega) (by decide)]
    obtain ⟨s, hs, s1, s2, -⟩ := hf3 n hn
    refine gQ_mk (r := nI s) ?_ ?_ hR
    · show (if n < 13 then some (σx.1 6 n 1, σx) else none) = _
      rw [if_pos (by omega), s1]
    · show some (σm.1 8 0 n, _) = _
      rw [s2]
  · rw [e1 _ hf1, e2 _ hf2, gz_call_e, gz_call_e, if_pos rfl]
    exact gQ_mk (r := -1) rfl rfl hR
theorem s_field {σx σm : gz_S} (h : gR σx σm) (a b w : Int32) : gQ (f_X9_field a b w σx) (f_X11_field a b w σm) := by
  obtain ⟨F, P, N, I, fo, la, L, h⟩ := h
  unfold f_X9_field f_X11_field
  rw [gz_w_e]
  replace h := h.th 0
  generalize gz_si σm 0 0 0 0 = σm at h ⊢
  have hR : gR σx σm := ⟨F, P, N, I, fo, la, L, h⟩
  have hP := h.2.2.2.2.2.2.2.2.2.2.2.B.2.1
  obtain ⟨hf1, hf2, hf3⟩ := h.2.2.2.1
  rcases g_form a hP with ⟨n, hn, rfl, e1, e2⟩ | ⟨e1, e2⟩
  · obtain ⟨s, hs, s1, s2, hk⟩ := hf3 n hn
    have s1' : σm.1 8 0 n = nI s := s2
    rw [e1 _ hf1, e2 _ hf2, gz_call_e, gz_call_e, if_neg (by decide), gz_ix_nI (show n < 13 by omega) (by decide), s1']
    show gQ (if n < 13 then _ else none) _
    rw [if_pos (by omega), s1]
    rcases g_ixc b (c := s) (by omega) with h | ⟨h1, h2, h3⟩ | ⟨k, hkk, rfl, h1, h2, h3⟩
    · rw [if_pos h, if_pos h]
      exact gQ_mk rfl rfl hR
    · rw [if_neg h1, if_neg h1, if_neg h3, if_neg h3]
      exact gQ_mk rfl rfl hR
    · rw [if_neg h1, if_neg h1, if_pos h2, if_pos h2, gz_ix_nI (show k < 8 by omega) (by decide), gz_v_e, show (8 : Int32) * nI n + nI k = nI (8 * n + k) from by rw [show (8 : Int32) * nI n = nI (8 * n) from pk_mul 8 n, nI_add]]
      simp only [gz_ix_nI (show 8 * n + k < 104 by omega) (show 104 < 2 ^ 31 by decide)]
      obtain ⟨q0, q1, q2, q3, q4, kd, q5, q6, q7, q8, -⟩ := hk k hkk
      by_cases w0 : w = 0
      · rw [if_pos w0, if_pos w0]
        exact gQ_mk rfl (by rw [q1]) hR
      rw [if_neg w0, if_neg w0]
      by_cases w1 : w = 1
      · rw [if_pos w1, if_pos w1, q2]
        rcases q3 with q3 | q3
        · rw [if_pos q3, if_pos q3]
          exact gQ_mk rfl rfl hR
        · rw [if_neg (by rw [q3]; decide), if_neg (show ¬ σm.1 12 0 (8 * n + k) = 0 from by show ¬ σm.1 12 0 (8 * n + k) = 0; rw [q3]; decide)]
          exact gQ_mk rfl rfl hR
      rw [if_neg w1, if_neg w1]
      by_cases w2 : w = 2
      · rw [if_pos w2, if_pos w2, q1, q6]
        by_cases k3 : kd = 3
        · rw [if_pos ((gn_eq 3).mpr k3)]
          obtain ⟨v, v1, v2, v3, -⟩ := q7 k3
          exact gQ_mk (by rw [v2]) (by show some (σm.1 10 0 (8 * n + k), _) = _; rw [v3]) hR
        · rw [if_neg (fun q => k3 ((gn_eq 3).mp q))]
          exact gQ_mk rfl (by rw [q8 k3]) hR
      rw [if_neg w2, if_neg w2]
      by_cases w3 : w = 3
      · rw [if_pos w3, if_pos w3]
        exact gQ_mk rfl (by rw [q4]) hR
      rw [if_neg w3, if_neg w3]
      exact gQ_mk rfl rfl hR
  · rw [e1 _ hf1, e2 _ hf2, gz_call_e, gz_call_e, if_pos rfl]
    exact gQ_mk (r := -1) rfl rfl hR
theorem s_found {σx σm : gz_S} (h : gR σx σm) (a : Int32) : gQ (f_X9_found a σx) (f_X11_found a σm) := by
  obtain ⟨F, P, N, I, fo, la, L, h⟩ := h
  unfold f_X9_found f_X11_found
  rw [gz_w_e]
  replace h := h.th 0
  generalize gz_si σm 0 0 0 0 = σm at h ⊢
  have hR : gR σx σm := ⟨F, P, N, I, fo, la, L, h⟩
  obtain ⟨c, hc, c1, c2, c3⟩ := h.2.2.2.2.2.2.2.2.2.2.1
  have c2' : σm.1 0 0 62 = nI c := c2
  rw [c1, c2']
  rcases g_ixc a (c := c) (by omega) with h | ⟨h1, h2, h3⟩ | ⟨k, hkk, rfl, h1, h2, h3⟩
  · rw [if_pos h, if_pos h]
    exact gQ_mk rfl rfl hR
  · rw [if_neg h1, if_neg h1, if_neg h3, if_pos h2]
    exact gQ_mk rfl rfl hR
  · rw [if_neg h1, if_neg h1, if_pos h2, if_neg h3, gz_ix_nI (show k < 60 by omega) (by decide), gz_ix_nI (show k < 60 by omega) (by decide)]
    exact gQ_mk rfl (by rw [c3 k hkk]) hR
theorem m_isIssue (a : Int32) {I : Nat} (hI : I ≤ 40) {σm : gz_S} (hs : σm.1 0 0 30 = nI I) : f_X11_isIssue a σm = some (if a < 0 then 0 else if nI I ≤ a then 0 else 1, σm) := by
  unfold f_X11_isIssue
  rw [hs]
  split
  · rfl
  · split <;> rfl
theorem s_issued {σx σm : gz_S} (h : gR σx σm) (a w : Int32) : gQ (f_X9_issued a w σx) (f_X11_issued a w σm) := by
  obtain ⟨F, P, N, I, fo, la, L, h⟩ := h
  unfold f_X9_issued f_X11_issued
  rw [gz_w_e]
  replace h := h.th 0
  generalize gz_si σm 0 0 0 0 = σm at h ⊢
  have hR : gR σx σm := ⟨F, P, N, I, fo, la, L, h⟩
  obtain ⟨hI, i1, i2, i3, i4⟩ := h.2.2.2.2.2.2.2.2.1
  rw [i1, m_isIssue a hI i2, gz_call_e]
  rcases g_ixc a (c := I) (by omega) with h | ⟨h1, h2, h3⟩ | ⟨k, hkk, rfl, h1, h2, h3⟩
  · rw [if_pos h, if_pos h, if_pos rfl]
    exact gQ_mk rfl rfl hR
  · rw [if_neg h1, if_neg h3, if_neg h1, if_pos h2, if_pos rfl]
    exact gQ_mk rfl rfl hR
  · obtain ⟨a0, a1, a2, a3, -, c, hc, a4, a5, -⟩ := i4 k hkk
    rw [if_neg h1, if_pos h2, if_neg h1, if_neg h3, if_neg (by decide)]
    simp only [gz_ix_nI (show k < 40 by omega) (show 40 < 2 ^ 31 by decide)]
    by_cases w0 : w = 0
    · rw [if_pos w0, if_pos w0]
      exact gQ_mk rfl (by rw [a0]) hR
    rw [if_neg w0, if_neg w0]
    by_cases w1 : w = 1
    · rw [if_pos w1, if_pos w1]
      exact gQ_mk rfl (by rw [a4]; show some (σm.1 30 0 k, _) = _; rw [a5]) hR
    rw [if_neg w1, if_neg w1]
    by_cases w2 : w = 2
    · rw [if_pos w2, if_pos w2]
      exact gQ_mk rfl (by rw [a1]) hR
    rw [if_neg w2, if_neg w2]
    by_cases w3 : w = 3
    · rw [if_pos w3, if_pos w3]
      exact gQ_mk rfl (by rw [a2]) hR
    rw [if_neg w3, if_neg w3]
    by_cases w4 : w = 4
    · rw [if_pos w4, if_pos w4]
      exact gQ_mk rfl (by rw [a3]) hR
    rw [if_neg w4, if_neg w4]
    exact gQ_mk rfl rfl hR
theorem s_printed {σx σm : gz_S} (h : gR σx σm) (a b : Int32) : gQ (f_X9_printed a b σx) (f_X11_printed a b σm) := by
  obtain ⟨F, P, N, I, fo, la, L, h⟩ := h
  unfold f_X9_printed f_X11_printed
  rw [gz_w_e]
  replace h := h.th 0
  generalize gz_si σm 0 0 0 0 = σm at h ⊢
  have hR : gR σx σm := ⟨F, P, N, I, fo, la, L, h⟩
  obtain ⟨hI, i1, i2, i3, i4⟩ := h.2.2.2.2.2.2.2.2.1
  rw [i1, m_isIssue a hI i2, gz_call_e]
  rcases g_ixc a (c := I) (by omega) with h | ⟨h1, h2, h3⟩ | ⟨k, hkk, rfl, h1, h2, h3⟩
  · rw [if_pos h, if_pos h, if_pos rfl]
    exact gQ_mk rfl rfl hR
  · rw [if_neg h1, if_neg h3, if_neg h1, if_pos h2, if_pos rfl]
    exact gQ_mk rfl rfl hR
  · obtain ⟨a0, a1, a2, a3, -, c, hc, a4, a5, a6⟩ := i4 k hkk
    rw [if_neg h1, if_pos h2, if_neg h1, if_neg h3, if_neg (by decide), gz_ix_nI (show k < 40 by omega) (by decide), gz_ix_nI (show k < 40 by omega) (by decide), a4, show σm.1 30 0 k = nI c from a5]
    rcases g_ixc b (c := c) (by omega) with h | ⟨h1, h2, h3⟩ | ⟨j, hj, rfl, h1, h2, h3⟩
    · rw [if_pos h, if_pos h]
      exact gQ_mk rfl rfl hR
    · rw [if_neg h1, if_neg h1, if_neg h3, if_pos h2]
      exact gQ_mk rfl rfl hR
    · rw [if_neg h1, if_neg h1, if_pos h2, if_neg h3, gz_ix_nI (show j < 12 by omega) (by decide), show (12 : Int32) * nI k + nI j = nI (12 * k + j) from by rw [show (12 : Int32) * nI k = nI (12 * k) from pk_mul 12 k, nI_add], gz_ix_nI (show 12 * k + j < 480 by omega) (by decide)]
      exact gQ_mk rfl (by rw [a6 j hj]) hR
theorem g_cmp0 (x : Int64) : (lg_cmp x 0 = 0) ↔ x = 0 := by
  unfold lg_cmp
  constructor
  · intro h
    split at h
    · exact absurd h (by decide)
    · split at h
      · assumption
      · exact absurd h (by decide)
  · intro h
    subst h
    decide
theorem s_about {σx σm : gz_S} (h : gR σx σm) (a w : Int32) : gQ (f_X9_about a w σx) (f_X11_about a w σm) := by
  obtain ⟨F, P, N, I, fo, la, L, h⟩ := h
  unfold f_X9_about f_X11_about
  rw [gz_w_e]
  replace h := h.th 0
  generalize gz_si σm 0 0 0 0 = σm at h ⊢
  have hR : gR σx σm := ⟨F, P, N, I, fo, la, L, h⟩
  have hN := h.2.2.2.2.2.2.2.2.2.2.2.B.2.2.1
  obtain ⟨n1, n2⟩ := h.2.2.2.2.1
  rcases g_note a hN with ⟨n, hn, rfl, e1, e2⟩ | ⟨-, e1, e2⟩
  · rw [e1 _ n1, e2 _ n2, gz_call_e, gz_call_e, if_neg (by decide)]
    show gQ (if n < 61 then _ else none) _
    rw [if_pos (by omega)]
    obtain ⟨a0, a0', ⟨l, -, -, a1, a1'⟩, ⟨d, -, a2, a2'⟩, a3, -, a4, a4', a5, -, a6, a7, a8, a9⟩ := h.2.2.2.2.2.1 n hn
    simp only [gz_ix_nI (show n < 61 by omega) (show 61 < 2 ^ 31 by decide)]
    by_cases w0 : w = 0
    · rw [if_pos w0, if_pos w0]
      exact gQ_mk rfl (by rw [a0]; show some (σm.1 15 0 n, _) = _; rw [a0']) hR
    rw [if_neg w0, if_neg w0]
    by_cases w1 : w = 1
    · rw [if_pos w1, if_pos w1]
      exact gQ_mk rfl (by rw [a1]; show some (σm.1 16 0 n, _) = _; rw [a1']) hR
    rw [if_neg w1, if_neg w1]
    by_cases w2 : w = 2
    · rw [if_pos w2, if_pos w2]
      exact gQ_mk rfl (by rw [a2]; show some (σm.1 17 0 n, _) = _; rw [a2']) hR
    rw [if_neg w2, if_neg w2]
    by_cases w3 : w = 3
    · rw [if_pos w3, if_pos w3]
      exact gQ_mk rfl (by rw [a3]) hR
    rw [if_neg w3, if_neg w3]
    by_cases w4 : w = 4
    · rw [if_pos w4, if_pos w4]
      exact gQ_mk rfl (by rw [a4]; show some (σm.1 19 0 n, _) = _; rw [a4']) hR
    rw [if_neg w4, if_neg w4]
    by_cases w5 : w = 5
    · rw [if_pos w5, if_pos w5]
      exact gQ_mk rfl (by rw [a5]) hR
    rw [if_neg w5, if_neg w5]
    by_cases w6 : w = 6
    · rw [if_pos w6, if_pos w6, a7]
      by_cases z : σm.2.1 23 0 n = 0
      · rw [if_pos ((g_cmp0 _).mpr z), if_pos ((g_cmp0 _).mpr (show σm.2.1 22 0 n = 0 from a8.1.mpr z))]
        exact gQ_mk rfl rfl hR
      · rw [if_neg (fun q => z ((g_cmp0 _).mp q)), if_neg (fun q => z (a8.1.mp ((g_cmp0 _).mp q)))]
        exact gQ_mk rfl rfl hR
    rw [if_neg w6, if_neg w6]
    by_cases w7 : w = 7
    · rw [if_pos w7, if_pos w7, a9]
      show gQ _ (if lg_cmp (σm.2.1 24 0 n) 0 = 0 then _ else _)
      split
      · exact gQ_mk rfl rfl hR
      · exact gQ_mk rfl rfl hR
    rw [if_neg w7, if_neg w7]
    exact gQ_mk rfl rfl hR
  · rw [e1 _ n1, e2 _ n2, gz_call_e, gz_call_e, if_pos rfl]
    exact gQ_mk (r := -1) rfl rfl hR
/-! counting -/
theorem nI_z (a : Nat) : nI a + 0 = nI a := nI_add a 0
theorem gs_cl {α : Type} {F : (Int32 → Int32 → gz_S → Option α) → Int32 → Int32 → gz_S → Option α} (w : Nat → Bool) (N : Nat) (k : Nat → Option α) (σ : gz_S) (h1 : ∀ rec c i, i < N → F rec (nI c) (nI i) σ = rec (nI (c + if w i = true then 1 else 0)) (nI (i + 1)) σ) (he : ∀ rec c, F rec (nI c) (nI N) σ = k c) : ∀ n i c, i ≤ N → N - i < n → gz_l2 F n (nI c) (nI i) σ = k (c + gs_cn w (N - i) i) := by
  intro n
  induction n with
  | zero => intro i c _ h; omega
  | succ n ih =>
    intro i c hi hn
    show F (gz_l2 F n) (nI c) (nI i) σ = _
    by_cases h : i = N
    · subst h
      rw [he, Nat.sub_self]
      rfl
    · rw [h1 _ c i (by omega), ih (i + 1) _ (by omega) (by omega)]
      congr 1
      rw [show N - i = (N - (i + 1)) + 1 by omega]
      show _ = c + ((if w i = true then 1 else 0) + gs_cn w (N - (i + 1)) (i + 1))
      omega
def gwait (m18 : Nat → Int32) (n : Nat) : Bool := decide (m18 n = -1)
theorem x_waits {n : Nat} {σ : gz_S} : f_X6_waits n σ = some (if σ.1 14 n 3 = -1 then 1 else 0, σ) := by
  unfold f_X6_waits
  split <;> rfl
theorem x_waiting {N : Nat} (hN : N ≤ 60) {σ : gz_S} {m18 : Nat → Int32} (h : σ.1 10 0 1 = nI N) (h3 : ∀ n, n < N → σ.1 14 n 3 = m18 n) : f_X1_countWaiting σ = some (nI (gs_cn (gwait m18) N 0), σ) := by
  unfold f_X1_countWaiting
  have := gs_cl (F := f_X1_countWaiting_L4) (gwait m18) N (fun c => some (nI c, σ)) σ (fun rec c i hi => ?_) (fun rec c => ?_) gz_fu 0 0 (by omega) (by show N - 0 < 20000; omega)
  · rw [Nat.zero_add, Nat.sub_zero] at this
    exact this
  · unfold f_X1_countWaiting_L4
    rw [h, if_neg (nI_ge hi (by omega)), gz_ix_nI (show i < 61 by omega) (by decide), x_waits, gz_call_e, gz_j2_e, h3 i hi]
    unfold f_X1_countWaiting_J30 gwait
    by_cases z : m18 i = -1
    · simp only [z, if_true, decide_true, gz_v_e, nI_1]
      try rfl
    · simp only [z, if_false, decide_false, gz_v_e, nI_1, nI_z, if_true, Bool.false_eq_true, Nat.add_zero]
  · unfold f_X1_countWaiting_L4
    rw [h, if_pos (nI_le (Nat.le_refl _) (by omega))]
theorem m_waiting {N : Nat} (hN : N ≤ 60) {σ : gz_S} (h : σ.1 0 0 29 = nI N) : f_X11_waiting σ = some (nI (gs_cn (gwait (σ.1 18 0)) N 0), σ) := by
  unfold f_X11_waiting
  have := gs_cl (F := f_X11_waiting_L4) (gwait (σ.1 18 0)) N (fun c => some (nI c, σ)) σ (fun rec c i hi => ?_) (fun rec c => ?_) gz_fu 0 0 (by omega) (by show N - 0 < 20000; omega)
  · rw [Nat.zero_add, Nat.sub_zero] at this
    exact this
  · unfold f_X11_waiting_L4
    rw [h, if_neg (nI_ge hi (by omega)), gz_ix_nI (show i < 61 by omega) (by decide), gz_j2_e]
    unfold f_X11_waiting_J28 gwait
    by_cases z : σ.1 18 0 i = -1
    · simp only [z, if_true, decide_true, gz_v_e, nI_1]
      try rfl
    · simp only [z, if_false, decide_false, gz_v_e, nI_1, nI_z, if_true, Bool.false_eq_true, Nat.add_zero]
  · unfold f_X11_waiting_L4
    rw [h, if_pos (nI_le (Nat.le_refl _) (by omega))]
theorem s_count {σx σm : gz_S} (h : gR σx σm) (w : Int32) : gQ (f_X9_count w σx) (f_X11_count w σm) := by
  obtain ⟨F, P, N, I, fo, la, L, h⟩ := h
  unfold f_X9_count f_X11_count
  rw [gz_w_e]
  replace h := h.th 0
  generalize gz_si σm 0 0 0 0 = σm at h ⊢
  have hR : gR σx σm := ⟨F, P, N, I, fo, la, L, h⟩
  have hN := h.2.2.2.2.2.2.2.2.2.2.2.B.2.2.1
  obtain ⟨n1, n2⟩ := h.2.2.2.2.1
  obtain ⟨-, -, f1, f2, -⟩ := h.1
  obtain ⟨-, T, -, t1, t2⟩ := h.2.2.1
  obtain ⟨p1, p2, -⟩ := h.2.2.2.1
  obtain ⟨-, i1, i2, -⟩ := h.2.2.2.2.2.2.2.2.1
  obtain ⟨-, l1, l2, -⟩ := h.2.2.2.2.2.2.2.2.2.1
  by_cases w0 : w = 0
  · rw [if_pos w0, if_pos w0]
    exact gQ_mk rfl (by rw [f1]; show some (σm.1 0 0 11, _) = _; rw [f2]) hR
  rw [if_neg w0, if_neg w0]
  by_cases w1 : w = 1
  · rw [if_pos w1, if_pos w1]
    exact gQ_mk rfl (by rw [p1]; show some (σm.1 0 0 21, _) = _; rw [p2]) hR
  rw [if_neg w1, if_neg w1]
  by_cases w2 : w = 2
  · rw [if_pos w2, if_pos w2]
    exact gQ_mk rfl (by rw [n1]; show some (σm.1 0 0 29, _) = _; rw [n2]) hR
  rw [if_neg w2, if_neg w2]
  by_cases w3 : w = 3
  · rw [if_pos w3, if_pos w3]
    exact gQ_mk rfl (by rw [i1]; show some (σm.1 0 0 30, _) = _; rw [i2]) hR
  rw [if_neg w3, if_neg w3]
  by_cases w4 : w = 4
  · rw [if_pos w4, if_pos w4, x_waiting hN n1 (m18 := σm.1 18 0) (fun n hn => (h.2.2.2.2.2.1 n hn).2.2.2.2.1), m_waiting hN n2, gz_call_e, gz_call_e]
    exact gQ_mk rfl rfl hR
  rw [if_neg w4, if_neg w4]
  by_cases w5 : w = 5
  · rw [if_pos w5, if_pos w5]
    exact gQ_mk rfl (by rw [l1]; show some (σm.1 0 0 9, _) = _; rw [l2]) hR
  rw [if_neg w5, if_neg w5]
  by_cases w6 : w = 6
  · rw [if_pos w6, if_pos w6]
    exact gQ_mk rfl (by rw [t1]; show some (σm.1 0 0 14, _) = _; rw [t2]) hR
  rw [if_neg w6, if_neg w6]
  exact gQ_mk rfl rfl hR
