/-! reading: what every piece of it needs -/
def gix (i t i' k : Nat) : Bool := (Nat.beq t 3 && (Nat.ble 3 k && Nat.ble k 9)) || ((Nat.beq t 8 || Nat.beq t 9) && decide (i' = i))
def gim (i t _ k : Nat) : Bool := (Nat.beq t 0 && (Nat.ble 16 k && Nat.ble k 20)) || Nat.beq t 6 || ((Nat.ble 9 t && Nat.ble t 13) && decide (k = i)) || (Nat.beq t 14 && decide (k / 4 = i))
theorem gtx_w {i : Nat} : ∀ t i' k, gix i t i' k = false → gtx t i' k = false := by
  intro t i' k h
  unfold gix at h
  unfold gtx
  rw [Bool.or_eq_false_iff] at h
  cases h3 : Nat.beq t 3 with
  | false => rfl
  | true =>
    rw [h3] at h
    have h1 := h.1
    rw [Bool.true_and] at h1 ⊢
    cases hk : Nat.ble 3 k with
    | false => rfl
    | true =>
      rw [hk, Bool.true_and] at h1
      rw [Bool.true_and]
      cases hk7 : Nat.ble k 7 with
      | false => rfl
      | true =>
        have : Nat.ble k 9 = true := Nat.ble_eq_true_of_le (by have := Nat.le_of_ble_eq_true hk7; omega)
        rw [this] at h1
        cases h1
theorem gtm_w {i : Nat} : ∀ t i' k, gim i t i' k = false → gtm t i' k = false := by
  intro t i' k h
  unfold gim at h
  unfold gtm
  simp only [Bool.or_eq_false_iff] at h
  exact h.1.1.1
/-- both stand before the same token, on the same text -/
def gFs (e : Nat) (b : Nat → Nat) (gx gm : gz_S) : Prop := gEx e b gx ∧ gEm e b gm ∧ gTk e gx gm ∧ gm.1 0 0 4 = -1 ∧ gx.1 3 0 8 = 0
def gAt (e : Nat) (gx gm : gz_S) : Prop := ∃ p, p ≤ e ∧ gx.1 3 0 3 = nI p ∧ gm.1 0 0 16 = nI p
theorem gTk.w {e : Nat} {gx gm : gz_S} (h : gTk e gx gm) : (gx.1 3 0 4 = 1 ∧ gm.1 0 0 17 = 2 ∧ gAt e gx gm ∧ ∃ k, k < 1099511627776 ∧ gx.2.1 3 0 7 = lN k ∧ gm.2.1 0 0 20 = lN k) ∨ (gx.1 3 0 4 ≠ 1 ∧ gm.1 0 0 17 ≠ 2) := by
  rcases h.2 with ⟨h1, h2⟩ | ⟨ha, ⟨h1, h2⟩ | ⟨h1, h2, h3⟩ | ⟨h1, h2, h3⟩ | ⟨h1, h2⟩ | ⟨c, hc, h1, h2, h3⟩⟩
  · exact Or.inr (by rw [h1, h2]; decide)
  · exact Or.inr (by rw [h1, h2]; decide)
  · exact Or.inl ⟨h1, h2, ha, h3⟩
  · exact Or.inr (by rw [h1, h2]; decide)
  · exact Or.inr (by rw [h1, h2]; decide)
  · refine Or.inr ⟨?_, by rw [h2]; decide⟩
    rw [h1]
    rcases hc with rfl | rfl | rfl | rfl | rfl <;> decide
theorem gTk.n {e : Nat} {gx gm : gz_S} (h : gTk e gx gm) : (gx.1 3 0 4 = 2 ∧ gm.1 0 0 17 = 3 ∧ gAt e gx gm ∧ ∃ v, v ≤ 9999 ∧ gx.1 3 0 6 = nI v ∧ gm.2.1 0 0 20 = lN v) ∨ (gx.1 3 0 4 ≠ 2 ∧ gm.1 0 0 17 ≠ 3) := by
  rcases h.2 with ⟨h1, h2⟩ | ⟨ha, ⟨h1, h2⟩ | ⟨h1, h2, h3⟩ | ⟨h1, h2, h3⟩ | ⟨h1, h2⟩ | ⟨c, hc, h1, h2, h3⟩⟩
  · exact Or.inr (by rw [h1, h2]; decide)
  · exact Or.inr (by rw [h1, h2]; decide)
  · exact Or.inr (by rw [h1, h2]; decide)
  · exact Or.inl ⟨h1, h2, ha, h3⟩
  · exact Or.inr (by rw [h1, h2]; decide)
  · refine Or.inr ⟨?_, by rw [h2]; decide⟩
    rw [h1]
    rcases hc with rfl | rfl | rfl | rfl | rfl <;> decide
theorem gTk.d {e : Nat} {gx gm : gz_S} (h : gTk e gx gm) : (gx.1 3 0 4 = 3 ∧ gm.1 0 0 17 = 4 ∧ gAt e gx gm) ∨ (gx.1 3 0 4 ≠ 3 ∧ gm.1 0 0 17 ≠ 4) := by
  rcases h.2 with ⟨h1, h2⟩ | ⟨ha, ⟨h1, h2⟩ | ⟨h1, h2, h3⟩ | ⟨h1, h2, h3⟩ | ⟨h1, h2⟩ | ⟨c, hc, h1, h2, h3⟩⟩
  · exact Or.inr (by rw [h1, h2]; decide)
  · exact Or.inr (by rw [h1, h2]; decide)
  · exact Or.inr (by rw [h1, h2]; decide)
  · exact Or.inr (by rw [h1, h2]; decide)
  · exact Or.inl ⟨h1, h2, ha⟩
  · refine Or.inr ⟨?_, by rw [h2]; decide⟩
    rw [h1]
    rcases hc with rfl | rfl | rfl | rfl | rfl <;> decide
theorem gTk.e {e : Nat} {gx gm : gz_S} (h : gTk e gx gm) : (gx.1 3 0 4 = 0 ∧ gm.1 0 0 17 = 1) ∨ (gx.1 3 0 4 ≠ 0 ∧ gm.1 0 0 17 ≠ 1) := by
  rcases h.2 with ⟨h1, h2⟩ | ⟨ha, ⟨h1, h2⟩ | ⟨h1, h2, h3⟩ | ⟨h1, h2, h3⟩ | ⟨h1, h2⟩ | ⟨c, hc, h1, h2, h3⟩⟩
  · exact Or.inr (by rw [h1, h2]; decide)
  · exact Or.inl ⟨h1, h2⟩
  · exact Or.inr (by rw [h1, h2]; decide)
  · exact Or.inr (by rw [h1, h2]; decide)
  · exact Or.inr (by rw [h1, h2]; decide)
  · refine Or.inr ⟨?_, by rw [h2]; decide⟩
    rw [h1]
    rcases hc with rfl | rfl | rfl | rfl | rfl <;> decide
theorem gTk.s (c : Nat) {e : Nat} {gx gm : gz_S} (h : gTk e gx gm) (hc : gsg c) : (gx.1 3 0 4 = OfNat.ofNat c ∧ f_X11_is (OfNat.ofNat c) gm = some (1, gm) ∧ gAt e gx gm ∧ gm.1 0 0 17 ≠ 1) ∨ (gx.1 3 0 4 ≠ OfNat.ofNat c ∧ f_X11_is (OfNat.ofNat c) gm = some (0, gm)) := by
  have hc5 : 5 ≤ c ∧ c < 100 := by
    unfold gsg at hc
    omega
  have hno : ∀ k : Nat, k < 5 → gx.1 3 0 4 = nI k → gm.1 0 0 17 ≠ 5 → (gx.1 3 0 4 ≠ OfNat.ofNat c ∧ f_X11_is (OfNat.ofNat c) gm = some (0, gm)) := by
    intro k hk h1 h2
    constructor
    · rw [h1]
      intro q
      have := (gn_eq c (a := k) (by omega) (by omega)).mp q
      omega
    · unfold f_X11_is
      rw [if_neg h2]
      rfl
  rcases h.2 with ⟨h1, h2⟩ | ⟨ha, ⟨h1, h2⟩ | ⟨h1, h2, h3⟩ | ⟨h1, h2, h3⟩ | ⟨h1, h2⟩ | ⟨d, hd, h1, h2, h3⟩⟩
  · exact Or.inr (hno 4 (by omega) h1 (by rw [h2]; decide))
  · exact Or.inr (hno 0 (by omega) h1 (by rw [h2]; decide))
  · exact Or.inr (hno 1 (by omega) h1 (by rw [h2]; decide))
  · exact Or.inr (hno 2 (by omega) h1 (by rw [h2]; decide))
  · exact Or.inr (hno 3 (by omega) h1 (by rw [h2]; decide))
  · have hd5 : d < 100 := by
      unfold gsg at hd
      omega
    by_cases hdc : d = c
    · subst hdc
      refine Or.inl ⟨h1, ?_, ha, by rw [h2]; decide⟩
      unfold f_X11_is
      rw [if_pos h2, if_pos (show gm.1 0 0 19 = OfNat.ofNat d from h3)]
      rfl
    · refine Or.inr ⟨?_, ?_⟩
      · rw [h1]
        intro q
        exact hdc ((gn_eq c (a := d) (by omega) (by omega)).mp q)
      · unfold f_X11_is
        rw [if_pos h2, h3, if_neg (fun q => hdc ((gn_eq c (a := d) (by omega) (by omega)).mp q))]
        rfl
def gfa (gx : gz_S) (c : Int32) : gz_S := gz_si (gz_si gx 3 0 8 c) 3 0 9 (gx.1 3 0 5)
def gst (gm : gz_S) (c : Int32) : gz_S := gz_si (gz_si gm 6 0 6 c) 6 0 7 (gm.1 0 0 18)
theorem x_fail (c : Int32) (σ : gz_S) : f_X8_fail c σ = some (0, gfa σ c) := rfl
theorem m_stop {α : Type} (c : Int32) (σ : gz_S) : (gz_call (f_X11_stop c (σ.1 0 0 18) σ) (fun r5 σ4 => gz_nl r5 1 none (fun _ => some ((none : Option α), σ4)))) = some (none, gst σ c) := rfl
theorem m_ns {s : Int32} {σ : gz_S} (h : σ.1 0 0 17 = s) : f_X11_needSort s σ = some (some (), σ) := if_pos h
theorem m_nsn {s : Int32} {σ : gz_S} (h : σ.1 0 0 17 ≠ s) : f_X11_needSort s σ = some (none, gst σ 1) := if_neg h
theorem gz_tcall_s {γ δ : Type} (r : γ) (u : gz_S) (f : γ → gz_S → Option (Option δ × gz_S)) : gz_tcall (some (some r, u)) f = f r u := Eq.trans rfl rfl
theorem gz_tcall_n {γ δ : Type} (u : gz_S) (f : γ → gz_S → Option (Option δ × gz_S)) : gz_tcall (some (none, u)) f = some (none, u) := Eq.trans rfl rfl
/-- the two have found the same fault -/
def gFl (gx gm : gz_S) : Prop := gx.1 3 0 8 = gm.1 6 0 6 ∧ gx.1 3 0 9 = gm.1 6 0 7 ∧ ((gm.1 6 0 6 ≠ 6 ∧ gm.1 0 0 4 = -1) ∨ (gm.1 6 0 6 = 6 ∧ gx.1 3 0 10 = gm.1 0 0 4))
theorem gFs.fl {e : Nat} {b : Nat → Nat} {gx gm : gz_S} (h : gFs e b gx gm) {c : Int32} (hc : c ≠ 6) : gFl (gfa gx c) (gst gm c) := by
  obtain ⟨q, -, q1, q2⟩ := h.2.2.1.1
  refine ⟨rfl, ?_, Or.inl ⟨hc, h.2.2.2.1⟩⟩
  show gx.1 3 0 5 = gm.1 0 0 18
  rw [q1, q2]
theorem g_next {e : Nat} {b : Nat → Nat} {gx gm : gz_S} (h : gFs e b gx gm) (ha : gAt e gx gm) : ∃ gx' gm', f_X8_step gx = some gx' ∧ f_X11_next gm = some gm' ∧ gfr gtx gx gx' ∧ gfr gtm gm gm' ∧ gFs e b gx' gm' := by
  obtain ⟨p, hp, p1, p2⟩ := ha
  obtain ⟨gx', gm', e1, e2, f1, f2, ht⟩ := g_step h.1 h.2.1 hp p1 p2
  exact ⟨gx', gm', e1, e2, f1, f2, h.1.fr f1 rfl (fun _ => rfl), h.2.1.fr f2 rfl (fun _ => rfl), ht, ((f2 0 0 4 rfl).1).trans h.2.2.2.1, ((f1 3 0 8 rfl).1).trans h.2.2.2.2⟩
theorem gFs.gm {e : Nat} {b : Nat → Nat} {gx gm gx' gm' : gz_S} (h : gFs e b gx gm) (hx : gfr (fun t _ _ => Nat.ble 8 t) gx gx') (hm : gfr (fun t _ _ => Nat.ble 8 t) gm gm') : gFs e b gx' gm' := by
  refine ⟨h.1.fr hx rfl (fun _ => rfl), h.2.1.fr hm rfl (fun _ => rfl), ?_, ((hm 0 0 4 rfl).1).trans h.2.2.2.1, ((hx 3 0 8 rfl).1).trans h.2.2.2.2⟩
  have ht := h.2.2.1
  unfold gTk at ht ⊢
  rw [(hx 3 0 5 rfl).1, (hx 3 0 4 rfl).1, (hx 3 0 3 rfl).1, (hx 3 0 6 rfl).1, (hx 3 0 7 rfl).2, (hm 0 0 18 rfl).1, (hm 0 0 17 rfl).1, (hm 0 0 16 rfl).1, (hm 0 0 19 rfl).1, (hm 0 0 20 rfl).2]
  exact ht
theorem x_take_y {e : Nat} {b : Nat → Nat} {c : Int32} {gx gx' : gz_S} (h : gx.1 3 0 4 = c) (hs : f_X8_step gx = some gx') : f_X8_take c gx = some (1, gx') := by
  unfold f_X8_take
  rw [if_pos h, hs, gz_then_e]
  rfl
theorem x_take_n {c : Int32} {gx : gz_S} (h : gx.1 3 0 4 ≠ c) : f_X8_take c gx = some (0, gfa gx 1) := by
  unfold f_X8_take
  rw [if_neg h, x_fail, gz_call_e]
  rfl
theorem m_need_y {c : Int32} {gm gm' : gz_S} (h : f_X11_is c gm = some (1, gm)) (hs : f_X11_next gm = some gm') : f_X11_need c gm = some (some (), gm') := by
  unfold f_X11_need
  rw [h, gz_call_e, if_neg (by decide), hs, gz_then_e]
theorem m_need_n {c : Int32} {gm : gz_S} (h : f_X11_is c gm = some (0, gm)) : f_X11_need c gm = some (none, gst gm 1) := by
  unfold f_X11_need
  rw [h, gz_call_e, if_pos rfl, m_stop]
/-! looking a name up -/
def gfi (nm : Nat → Int64) (s : Nat) (u : Int64) : Int32 := if gs_ff (fun k => decide (nm k = u)) s 0 < s then nI (gs_ff (fun k => decide (nm k = u)) s 0) else -1
theorem gfi_or (nm : Nat → Int64) (s : Nat) (u : Int64) : (gfi nm s u = -1 ∧ ∀ k, k < s → nm k ≠ u) ∨ ∃ k, k < s ∧ gfi nm s u = nI k ∧ nm k = u := by
  unfold gfi
  have h1 := gs_ff_spec (w := fun k => decide (nm k = u)) (e := s) (d := 0) (by omega)
  by_cases h : gs_ff (fun k => decide (nm k = u)) s 0 < s
  · rw [if_pos h]
    exact Or.inr ⟨_, h, rfl, by simpa using h1.1 h⟩
  · rw [if_neg h]
    refine Or.inl ⟨rfl, fun k hk e => ?_⟩
    have := h1.2 k (by omega) (by omega)
    simp [e] at this
theorem x_placeOf {P s : Nat} (hs : s ≤ 8) {nm : Nat → Int64} {u : Int64} {σ : gz_S} (h1 : σ.1 6 P 1 = nI s) (hn : ∀ k, k < s → σ.2.1 8 (8 * P + k) 0 = nm k) : f_X4_placeOf P u σ = some (gfi nm s u, σ) := by
  unfold f_X4_placeOf
  have := gs_sc (F := f_X4_placeOf_L2 P u) (fun k => decide (nm k = u)) s (fun d => some (if d < s then nI d else -1, σ)) σ (fun rec d hd => ?_) (fun rec => ?_) gz_fu 0 (by omega) (by show s - 0 < 20000; omega)
  · exact this
  · unfold f_X4_placeOf_L2
    rw [h1, if_neg (nI_ge hd (by omega)), gz_ix_nI (show d < 8 by omega) (by decide), nI_1, hn d hd]
    by_cases e : nm d = u
    · rw [if_pos ((lg_cmp_eq _ _).mpr e), if_pos (by simpa using e), if_pos hd]
    · rw [if_neg (fun q => e ((lg_cmp_eq _ _).mp q)), if_neg (by simpa using e)]
  · unfold f_X4_placeOf_L2
    rw [h1, if_pos (nI_le (Nat.le_refl _) (by omega)), if_neg (Nat.lt_irrefl _)]
theorem m_fieldOf {P s : Nat} (hP : P < 13) (hs : s ≤ 8) {nm : Nat → Int64} {u : Int64} {σ : gz_S} (h1 : σ.1 8 0 P = nI s) (hn : ∀ k, k < s → σ.2.1 13 0 (8 * P + k) = nm k) : f_X11_fieldOf (nI P) u σ = some (gfi nm s u, σ) := by
  unfold f_X11_fieldOf
  rw [gz_j1_e]
  have := gs_sc (F := f_X11_fieldOf_L3 (nI P) u (f_X11_fieldOf_J37 (nI P))) (fun k => decide (nm k = u)) s (fun d => some (if d < s then nI d else -1, σ)) σ (fun rec d hd => ?_) (fun rec => ?_) gz_fu 0 (by omega) (by show s - 0 < 20000; omega)
  · exact this
  · unfold f_X11_fieldOf_L3 f_X11_fieldOf_J37
    rw [gz_ix_nI hP (by decide), h1, if_neg (nI_ge hd (by omega)), gn_8, gz_ix_nI (show 8 * P + d < 104 by omega) (by decide), nI_1, hn d hd, gz_ix_nI hP (by decide), h1, if_neg (nI_ge hd (by omega))]
    by_cases e : nm d = u
    · rw [if_pos ((lg_cmp_eq _ _).mpr e), if_pos (by simpa using e), if_pos hd]
    · rw [if_neg (fun q => e ((lg_cmp_eq _ _).mp q)), if_neg (by simpa using e)]
  · unfold f_X11_fieldOf_L3 f_X11_fieldOf_J37
    rw [gz_ix_nI hP (by decide), h1, if_pos (nI_le (Nat.le_refl _) (by omega)), gz_ix_nI hP (by decide), h1, if_pos (nI_le (Nat.le_refl _) (by omega)), if_neg (Nat.lt_irrefl _)]
theorem x_placeOf3 {i w : Nat} (hw : w ≤ 4) {nm : Nat → Int64} {u : Int64} {σ : gz_S} (h1 : σ.1 8 i 6 = nI w) (hn : ∀ k, k < w → σ.2.1 9 i k = nm k) : f_X3_placeOf i u σ = some (gfi nm w u, σ) := by
  unfold f_X3_placeOf
  have := gs_sc (F := f_X3_placeOf_L2 i u) (fun k => decide (nm k = u)) w (fun d => some (if d < w then nI d else -1, σ)) σ (fun rec d hd => ?_) (fun rec => ?_) gz_fu 0 (by omega) (by show w - 0 < 20000; omega)
  · exact this
  · unfold f_X3_placeOf_L2
    rw [h1, if_neg (nI_ge hd (by omega)), gz_ix_nI (show d < 4 by omega) (by decide), nI_1, hn d hd]
    by_cases e : nm d = u
    · rw [if_pos ((lg_cmp_eq _ _).mpr e), if_pos (by simpa using e), if_pos hd]
    · rw [if_neg (fun q => e ((lg_cmp_eq _ _).mp q)), if_neg (by simpa using e)]
  · unfold f_X3_placeOf_L2
    rw [h1, if_pos (nI_le (Nat.le_refl _) (by omega)), if_neg (Nat.lt_irrefl _)]
/-! the reference's words -/
theorem gz_l2_s {A1 A2 α : Type} (F : (A1 → A2 → gz_S → Option α) → A1 → A2 → gz_S → Option α) (n : Nat) (v : A1) (w : A2) (σ : gz_S) : gz_l2 F (n + 1) v w σ = F (gz_l2 F n) v w σ := Eq.trans rfl rfl
theorem m_len0 (σ : gz_S) : f_J0_length_8abf5 0 σ = some (3, σ) := by
  unfold f_J0_length_8abf5 f_J0_coder_7d493
  rw [if_neg (by decide), gz_call_e]
  have e : (Int32.ofNat (gz_sl 0)) >>> ((0 : Int32).toInt8.toInt32 &&& 31) = 3 := by decide
  rw [e]
theorem m_ch0_0 (σ : gz_S) : f_J0_charAt_5068e 0 0 σ = some (110, σ) := rfl
theorem m_ch0_1 (σ : gz_S) : f_J0_charAt_5068e 0 1 σ = some (117, σ) := rfl
theorem m_ch0_2 (σ : gz_S) : f_J0_charAt_5068e 0 2 σ = some (109, σ) := rfl
theorem m_word0 (σ : gz_S) : f_X11_word 0 σ = some (15021, σ) := by
  unfold f_X11_word
  rw [show gz_fu = 19996 + 1 + 1 + 1 + 1 from rfl]
  have s0 : ∀ rec v, f_X11_word_L4 0 rec v 0 σ = rec (32 * v + 14) 1 σ := fun rec v => by
    unfold f_X11_word_L4
    rw [m_len0, gz_call_e, if_neg (by decide), m_ch0_0, gz_call_e, gz_v_e]
    rfl
  have s1 : ∀ rec v, f_X11_word_L4 0 rec v 1 σ = rec (32 * v + 21) 2 σ := fun rec v => by
    unfold f_X11_word_L4
    rw [m_len0, gz_call_e, if_neg (by decide), m_ch0_1, gz_call_e, gz_v_e]
    rfl
  have s2 : ∀ rec v, f_X11_word_L4 0 rec v 2 σ = rec (32 * v + 13) 3 σ := fun rec v => by
    unfold f_X11_word_L4
    rw [m_len0, gz_call_e, if_neg (by decide), m_ch0_2, gz_call_e, gz_v_e]
    rfl
  have s3 : ∀ rec v, f_X11_word_L4 0 rec v 3 σ = some (v, σ) := fun rec v => by
    unfold f_X11_word_L4
    rw [m_len0, gz_call_e, if_pos (by decide)]
  rw [gz_l2_s, s0]
  rw [gz_l2_s, s1]
  rw [gz_l2_s, s2]
  rw [gz_l2_s, s3]
  rfl
theorem m_len1 (σ : gz_S) : f_J0_length_8abf5 1 σ = some (3, σ) := by
  unfold f_J0_length_8abf5 f_J0_coder_7d493
  rw [if_neg (by decide), gz_call_e]
  have e : (Int32.ofNat (gz_sl 1)) >>> ((0 : Int32).toInt8.toInt32 &&& 31) = 3 := by decide
  rw [e]
theorem m_ch1_0 (σ : gz_S) : f_J0_charAt_5068e 1 0 σ = some (100, σ) := rfl
theorem m_ch1_1 (σ : gz_S) : f_J0_charAt_5068e 1 1 σ = some (97, σ) := rfl
theorem m_ch1_2 (σ : gz_S) : f_J0_charAt_5068e 1 2 σ = some (121, σ) := rfl
theorem m_word1 (σ : gz_S) : f_X11_word 1 σ = some (4153, σ) := by
  unfold f_X11_word
  rw [show gz_fu = 19996 + 1 + 1 + 1 + 1 from rfl]
  have s0 : ∀ rec v, f_X11_word_L4 1 rec v 0 σ = rec (32 * v + 4) 1 σ := fun rec v => by
    unfold f_X11_word_L4
    rw [m_len1, gz_call_e, if_neg (by decide), m_ch1_0, gz_call_e, gz_v_e]
    rfl
  have s1 : ∀ rec v, f_X11_word_L4 1 rec v 1 σ = rec (32 * v + 1) 2 σ := fun rec v => by
    unfold f_X11_word_L4
    rw [m_len1, gz_call_e, if_neg (by decide), m_ch1_1, gz_call_e, gz_v_e]
    rfl
  have s2 : ∀ rec v, f_X11_word_L4 1 rec v 2 σ = rec (32 * v + 25) 3 σ := fun rec v => by
    unfold f_X11_word_L4
    rw [m_len1, gz_call_e, if_neg (by decide), m_ch1_2, gz_call_e, gz_v_e]
    rfl
  have s3 : ∀ rec v, f_X11_word_L4 1 rec v 3 σ = some (v, σ) := fun rec v => by
    unfold f_X11_word_L4
    rw [m_len1, gz_call_e, if_pos (by decide)]
  rw [gz_l2_s, s0]
  rw [gz_l2_s, s1]
  rw [gz_l2_s, s2]
  rw [gz_l2_s, s3]
  rfl
theorem m_len2 (σ : gz_S) : f_J0_length_8abf5 2 σ = some (4, σ) := by
  unfold f_J0_length_8abf5 f_J0_coder_7d493
  rw [if_neg (by decide), gz_call_e]
  have e : (Int32.ofNat (gz_sl 2)) >>> ((0 : Int32).toInt8.toInt32 &&& 31) = 4 := by decide
  rw [e]
theorem m_ch2_0 (σ : gz_S) : f_J0_charAt_5068e 2 0 σ = some (119, σ) := rfl
theorem m_ch2_1 (σ : gz_S) : f_J0_charAt_5068e 2 1 σ = some (111, σ) := rfl
theorem m_ch2_2 (σ : gz_S) : f_J0_charAt_5068e 2 2 σ = some (114, σ) := rfl
theorem m_ch2_3 (σ : gz_S) : f_J0_charAt_5068e 2 3 σ = some (100, σ) := rfl
theorem m_word2 (σ : gz_S) : f_X11_word 2 σ = some (769604, σ) := by
  unfold f_X11_word
  rw [show gz_fu = 19995 + 1 + 1 + 1 + 1 + 1 from rfl]
  have s0 : ∀ rec v, f_X11_word_L4 2 rec v 0 σ = rec (32 * v + 23) 1 σ := fun rec v => by
    unfold f_X11_word_L4
    rw [m_len2, gz_call_e, if_neg (by decide), m_ch2_0, gz_call_e, gz_v_e]
    rfl
  have s1 : ∀ rec v, f_X11_word_L4 2 rec v 1 σ = rec (32 * v + 15) 2 σ := fun rec v => by
    unfold f_X11_word_L4
    rw [m_len2, gz_call_e, if_neg (by decide), m_ch2_1, gz_call_e, gz_v_e]
    rfl
  have s2 : ∀ rec v, f_X11_word_L4 2 rec v 2 σ = rec (32 * v + 18) 3 σ := fun rec v => by
    unfold f_X11_word_L4
    rw [m_len2, gz_call_e, if_neg (by decide), m_ch2_2, gz_call_e, gz_v_e]
    rfl
  have s3 : ∀ rec v, f_X11_word_L4 2 rec v 3 σ = rec (32 * v + 4) 4 σ := fun rec v => by
    unfold f_X11_word_L4
    rw [m_len2, gz_call_e, if_neg (by decide), m_ch2_3, gz_call_e, gz_v_e]
    rfl
  have s4 : ∀ rec v, f_X11_word_L4 2 rec v 4 σ = some (v, σ) := fun rec v => by
    unfold f_X11_word_L4
    rw [m_len2, gz_call_e, if_pos (by decide)]
  rw [gz_l2_s, s0]
  rw [gz_l2_s, s1]
  rw [gz_l2_s, s2]
  rw [gz_l2_s, s3]
  rw [gz_l2_s, s4]
  rfl
theorem m_len3 (σ : gz_S) : f_J0_length_8abf5 3 σ = some (3, σ) := by
  unfold f_J0_length_8abf5 f_J0_coder_7d493
  rw [if_neg (by decide), gz_call_e]
  have e : (Int32.ofNat (gz_sl 3)) >>> ((0 : Int32).toInt8.toInt32 &&& 31) = 3 := by decide
  rw [e]
theorem m_ch3_0 (σ : gz_S) : f_J0_charAt_5068e 3 0 σ = some (111, σ) := rfl
theorem m_ch3_1 (σ : gz_S) : f_J0_charAt_5068e 3 1 σ = some (110, σ) := rfl
theorem m_ch3_2 (σ : gz_S) : f_J0_charAt_5068e 3 2 σ = some (101, σ) := rfl
theorem m_word3 (σ : gz_S) : f_X11_word 3 σ = some (15813, σ) := by
  unfold f_X11_word
  rw [show gz_fu = 19996 + 1 + 1 + 1 + 1 from rfl]
  have s0 : ∀ rec v, f_X11_word_L4 3 rec v 0 σ = rec (32 * v + 15) 1 σ := fun rec v => by
    unfold f_X11_word_L4
    rw [m_len3, gz_call_e, if_neg (by decide), m_ch3_0, gz_call_e, gz_v_e]
    rfl
  have s1 : ∀ rec v, f_X11_word_L4 3 rec v 1 σ = rec (32 * v + 14) 2 σ := fun rec v => by
    unfold f_X11_word_L4
    rw [m_len3, gz_call_e, if_neg (by decide), m_ch3_1, gz_call_e, gz_v_e]
    rfl
  have s2 : ∀ rec v, f_X11_word_L4 3 rec v 2 σ = rec (32 * v + 5) 3 σ := fun rec v => by
    unfold f_X11_word_L4
    rw [m_len3, gz_call_e, if_neg (by decide), m_ch3_2, gz_call_e, gz_v_e]
    rfl
  have s3 : ∀ rec v, f_X11_word_L4 3 rec v 3 σ = some (v, σ) := fun rec v => by
    unfold f_X11_word_L4
    rw [m_len3, gz_call_e, if_pos (by decide)]
  rw [gz_l2_s, s0]
  rw [gz_l2_s, s1]
  rw [gz_l2_s, s2]
  rw [gz_l2_s, s3]
  rfl
theorem m_len4 (σ : gz_S) : f_J0_length_8abf5 4 σ = some (4, σ) := by
  unfold f_J0_length_8abf5 f_J0_coder_7d493
  rw [if_neg (by decide), gz_call_e]
  have e : (Int32.ofNat (gz_sl 4)) >>> ((0 : Int32).toInt8.toInt32 &&& 31) = 4 := by decide
  rw [e]
theorem m_ch4_0 (σ : gz_S) : f_J0_charAt_5068e 4 0 σ = some (115, σ) := rfl
theorem m_ch4_1 (σ : gz_S) : f_J0_charAt_5068e 4 1 σ = some (112, σ) := rfl
theorem m_ch4_2 (σ : gz_S) : f_J0_charAt_5068e 4 2 σ = some (97, σ) := rfl
theorem m_ch4_3 (σ : gz_S) : f_J0_charAt_5068e 4 3 σ = some (110, σ) := rfl
theorem m_word4 (σ : gz_S) : f_X11_word 4 σ = some (639022, σ) := by
  unfold f_X11_word
  rw [show gz_fu = 19995 + 1 + 1 + 1 + 1 + 1 from rfl]
  have s0 : ∀ rec v, f_X11_word_L4 4 rec v 0 σ = rec (32 * v + 19) 1 σ := fun rec v => by
    unfold f_X11_word_L4
    rw [m_len4, gz_call_e, if_neg (by decide), m_ch4_0, gz_call_e, gz_v_e]
    rfl
  have s1 : ∀ rec v, f_X11_word_L4 4 rec v 1 σ = rec (32 * v + 16) 2 σ := fun rec v => by
    unfold f_X11_word_L4
    rw [m_len4, gz_call_e, if_neg (by decide), m_ch4_1, gz_call_e, gz_v_e]
    rfl
  have s2 : ∀ rec v, f_X11_word_L4 4 rec v 2 σ = rec (32 * v + 1) 3 σ := fun rec v => by
    unfold f_X11_word_L4
    rw [m_len4, gz_call_e, if_neg (by decide), m_ch4_2, gz_call_e, gz_v_e]
    rfl
  have s3 : ∀ rec v, f_X11_word_L4 4 rec v 3 σ = rec (32 * v + 14) 4 σ := fun rec v => by
    unfold f_X11_word_L4
    rw [m_len4, gz_call_e, if_neg (by decide), m_ch4_3, gz_call_e, gz_v_e]
    rfl
  have s4 : ∀ rec v, f_X11_word_L4 4 rec v 4 σ = some (v, σ) := fun rec v => by
    unfold f_X11_word_L4
    rw [m_len4, gz_call_e, if_pos (by decide)]
  rw [gz_l2_s, s0]
  rw [gz_l2_s, s1]
  rw [gz_l2_s, s2]
  rw [gz_l2_s, s3]
  rw [gz_l2_s, s4]
  rfl
theorem m_len5 (σ : gz_S) : f_J0_length_8abf5 5 σ = some (4, σ) := by
  unfold f_J0_length_8abf5 f_J0_coder_7d493
  rw [if_neg (by decide), gz_call_e]
  have e : (Int32.ofNat (gz_sl 5)) >>> ((0 : Int32).toInt8.toInt32 &&& 31) = 4 := by decide
  rw [e]
theorem m_ch5_0 (σ : gz_S) : f_J0_charAt_5068e 5 0 σ = some (100, σ) := rfl
theorem m_ch5_1 (σ : gz_S) : f_J0_charAt_5068e 5 1 σ = some (97, σ) := rfl
theorem m_ch5_2 (σ : gz_S) : f_J0_charAt_5068e 5 2 σ = some (121, σ) := rfl
theorem m_ch5_3 (σ : gz_S) : f_J0_charAt_5068e 5 3 σ = some (115, σ) := rfl
theorem m_word5 (σ : gz_S) : f_X11_word 5 σ = some (132915, σ) := by
  unfold f_X11_word
  rw [show gz_fu = 19995 + 1 + 1 + 1 + 1 + 1 from rfl]
  have s0 : ∀ rec v, f_X11_word_L4 5 rec v 0 σ = rec (32 * v + 4) 1 σ := fun rec v => by
    unfold f_X11_word_L4
    rw [m_len5, gz_call_e, if_neg (by decide), m_ch5_0, gz_call_e, gz_v_e]
    rfl
  have s1 : ∀ rec v, f_X11_word_L4 5 rec v 1 σ = rec (32 * v + 1) 2 σ := fun rec v => by
    unfold f_X11_word_L4
    rw [m_len5, gz_call_e, if_neg (by decide), m_ch5_1, gz_call_e, gz_v_e]
    rfl
  have s2 : ∀ rec v, f_X11_word_L4 5 rec v 2 σ = rec (32 * v + 25) 3 σ := fun rec v => by
    unfold f_X11_word_L4
    rw [m_len5, gz_call_e, if_neg (by decide), m_ch5_2, gz_call_e, gz_v_e]
    rfl
  have s3 : ∀ rec v, f_X11_word_L4 5 rec v 3 σ = rec (32 * v + 19) 4 σ := fun rec v => by
    unfold f_X11_word_L4
    rw [m_len5, gz_call_e, if_neg (by decide), m_ch5_3, gz_call_e, gz_v_e]
    rfl
  have s4 : ∀ rec v, f_X11_word_L4 5 rec v 4 σ = some (v, σ) := fun rec v => by
    unfold f_X11_word_L4
    rw [m_len5, gz_call_e, if_pos (by decide)]
  rw [gz_l2_s, s0]
  rw [gz_l2_s, s1]
  rw [gz_l2_s, s2]
  rw [gz_l2_s, s3]
  rw [gz_l2_s, s4]
  rfl
theorem m_len6 (σ : gz_S) : f_J0_length_8abf5 6 σ = some (4, σ) := by
  unfold f_J0_length_8abf5 f_J0_coder_7d493
  rw [if_neg (by decide), gz_call_e]
  have e : (Int32.ofNat (gz_sl 6)) >>> ((0 : Int32).toInt8.toInt32 &&& 31) = 4 := by decide
  rw [e]
theorem m_ch6_0 (σ : gz_S) : f_J0_charAt_5068e 6 0 σ = some (119, σ) := rfl
theorem m_ch6_1 (σ : gz_S) : f_J0_charAt_5068e 6 1 σ = some (111, σ) := rfl
theorem m_ch6_2 (σ : gz_S) : f_J0_charAt_5068e 6 2 σ = some (114, σ) := rfl
theorem m_ch6_3 (σ : gz_S) : f_J0_charAt_5068e 6 3 σ = some (107, σ) := rfl
theorem m_word6 (σ : gz_S) : f_X11_word 6 σ = some (769611, σ) := by
  unfold f_X11_word
  rw [show gz_fu = 19995 + 1 + 1 + 1 + 1 + 1 from rfl]
  have s0 : ∀ rec v, f_X11_word_L4 6 rec v 0 σ = rec (32 * v + 23) 1 σ := fun rec v => by
    unfold f_X11_word_L4
    rw [m_len6, gz_call_e, if_neg (by decide), m_ch6_0, gz_call_e, gz_v_e]
    rfl
  have s1 : ∀ rec v, f_X11_word_L4 6 rec v 1 σ = rec (32 * v + 15) 2 σ := fun rec v => by
    unfold f_X11_word_L4
    rw [m_len6, gz_call_e, if_neg (by decide), m_ch6_1, gz_call_e, gz_v_e]
    rfl
  have s2 : ∀ rec v, f_X11_word_L4 6 rec v 2 σ = rec (32 * v + 18) 3 σ := fun rec v => by
    unfold f_X11_word_L4
    rw [m_len6, gz_call_e, if_neg (by decide), m_ch6_2, gz_call_e, gz_v_e]
    rfl
  have s3 : ∀ rec v, f_X11_word_L4 6 rec v 3 σ = rec (32 * v + 11) 4 σ := fun rec v => by
    unfold f_X11_word_L4
    rw [m_len6, gz_call_e, if_neg (by decide), m_ch6_3, gz_call_e, gz_v_e]
    rfl
  have s4 : ∀ rec v, f_X11_word_L4 6 rec v 4 σ = some (v, σ) := fun rec v => by
    unfold f_X11_word_L4
    rw [m_len6, gz_call_e, if_pos (by decide)]
  rw [gz_l2_s, s0]
  rw [gz_l2_s, s1]
  rw [gz_l2_s, s2]
  rw [gz_l2_s, s3]
  rw [gz_l2_s, s4]
  rfl
