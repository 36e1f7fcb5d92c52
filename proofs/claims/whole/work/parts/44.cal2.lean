/-! the calendar: working days, spans -/
theorem g_isDay (a : Int32) : (∃ d, d < 10000 ∧ a = nI d) ∨ ((∀ σ, f_X9_isDay a σ = some (0, σ)) ∧ ∀ σ, f_X11_isDay a σ = some (0, σ)) := by
  have c1 : (9999 : Int32).toInt = 9999 := by decide
  have c2 : (10000 : Int32).toInt = 10000 := by decide
  have c3 : (nI 10000).toInt = 10000 := by decide
  have c0 : (0 : Int32).toInt = 0 := by decide
  rcases pk_ix a (n := 10000) (by decide) with h | h | h
  · refine Or.inr ⟨fun σ => ?_, fun σ => ?_⟩
    · unfold f_X9_isDay
      rw [if_pos h]
      rfl
    · unfold f_X11_isDay
      rw [if_pos h]
      rfl
  · have h' := Int32.le_iff_toInt_le.mp h
    rw [c3] at h'
    have hn : ¬ a < 0 := fun q => by
      have := Int32.lt_iff_toInt_lt.mp q
      omega
    refine Or.inr ⟨fun σ => ?_, fun σ => ?_⟩
    · unfold f_X9_isDay
      rw [if_neg hn, if_pos (Int32.lt_iff_toInt_lt.mpr (by omega))]
      rfl
    · unfold f_X11_isDay
      rw [if_neg hn, if_pos (Int32.le_iff_toInt_le.mpr (by omega))]
      rfl
  · exact Or.inl h
theorem x_isDay {d : Nat} (hd : d < 10000) (σ : gz_S) : f_X9_isDay (nI d) σ = some (1, σ) := by
  unfold f_X9_isDay
  rw [if_neg (nI_pos (by omega)), if_neg (fun h => by have := (gn_gt 9999).mp h; omega)]
  rfl
theorem m_isDay {d : Nat} (hd : d < 10000) (σ : gz_S) : f_X11_isDay (nI d) σ = some (1, σ) := by
  unfold f_X11_isDay
  rw [if_neg (nI_pos (by omega)), if_neg (fun h => by have := (gn_ge 10000).mp h; omega)]
  rfl
theorem gb_01 (A : Nat → Int64) (d : Nat) : gb A d = 0 ∨ gb A d = 1 := by
  unfold gb
  split
  · exact Or.inl rfl
  · exact Or.inr rfl
theorem x_isFeast {d : Nat} (hd : d < 10000) (σ : gz_S) : f_X2_isFeast (nI d) σ = some (gb (σ.2.1 2 0) d, σ) := by
  unfold f_X2_isFeast
  rw [gz_v_e, g_shr6 hd]
  rw [if_neg (nI_pos (by omega)), if_neg (fun h => by have := (gn_ge 157).mp h; omega), gz_ix_nI (show d / 64 < 157 by omega) (by decide)]
  unfold gb
  split <;> rfl
/-- a working day -/
def wk (fe : Nat → Int32) (d : Nat) : Bool := decide (d % 7 < 5) && decide (fe d = 0)
theorem x_isWorking {d : Nat} {σ : gz_S} {fe : Nat → Int32} (hf : ∀ d, d < 10000 → gb (σ.2.1 2 0) d = fe d) (hd : d < 10000) : f_X2_isWorking (nI d) σ = some (if wk fe d = true then 1 else 0, σ) := by
  unfold f_X2_isWorking
  rw [show gz_rem (nI d) 7 = nI (d % 7) from gn_rem 7, x_isFeast hd, hf d hd, gz_call_e]
  unfold wk
  by_cases h5 : d % 7 < 5
  · rw [if_neg (fun h => by have := (gn_ge 5).mp h; omega)]
    by_cases h0 : fe d = 0
    · simp [h5, h0]
    · simp [h5, h0]
  · rw [if_pos ((gn_ge 5).mpr (by omega))]
    simp [h5]
theorem m_isWorking {d : Nat} {σ : gz_S} (hd : d < 10000) : f_X11_isWorking (nI d) σ = some (if wk (σ.1 5 0) d = true then 1 else 0, σ) := by
  unfold f_X11_isWorking
  rw [show gz_rem (nI d) 7 = nI (d % 7) from gn_rem 7, gz_ix_nI hd (by decide)]
  unfold wk
  by_cases h5 : d % 7 < 5
  · rw [if_neg (fun h => by have := (gn_ge 5).mp h; omega)]
    by_cases h0 : σ.1 5 0 d = 0
    · simp [h5, h0]
    · simp [h5, h0]
  · rw [if_pos ((gn_ge 5).mpr (by omega))]
    simp [h5]
theorem x_workingFrom {d : Nat} {σ : gz_S} {fe : Nat → Int32} (hf : ∀ d, d < 10000 → gb (σ.2.1 2 0) d = fe d) (hd : d ≤ 10000) : f_X2_workingFrom (nI d) σ = some (nI (gs_ff (wk fe) 10000 d), σ) := by
  unfold f_X2_workingFrom
  refine gs_sc (wk fe) 10000 (fun d => some (nI d, σ)) σ (fun rec d hd => ?_) (fun rec => ?_) gz_fu d hd (by show 10000 - d < 20000; omega)
  · unfold f_X2_workingFrom_L2
    rw [if_neg (fun h => by have := (gn_ge 10000).mp h; omega), x_isWorking hf hd, gz_call_e, nI_1]
    cases wk fe d <;> rfl
  · unfold f_X2_workingFrom_L2
    rw [if_pos (by decide)]
/-- n working days behind day d -/
def gs_wk (w : Nat → Bool) : Nat → Nat → Nat
  | 0, d => d
  | n + 1, d => if 10000 ≤ d then d else gs_wk w n (gs_ff w 10000 (d + 1))
def gs_sp (w : Nat → Bool) (d n : Nat) (work : Int32) : Nat := if work = 0 then gs_ff w 10000 (min (d + n) 10000) else gs_wk w n d
theorem gs_wk_le {w : Nat → Bool} : ∀ n {d : Nat}, d ≤ 10000 → gs_wk w n d ≤ 10000 := by
  intro n
  induction n with
  | zero => intro d h; exact h
  | succ n ih =>
    intro d h
    unfold gs_wk
    split
    · exact h
    · exact ih (gs_ff_le (by omega)).2
theorem gs_sp_le {w : Nat → Bool} {d n : Nat} {work : Int32} (h : d ≤ 10000) : gs_sp w d n work ≤ 10000 := by
  unfold gs_sp
  split
  · exact (gs_ff_le (by omega)).2
  · exact gs_wk_le n h
theorem x_min (b : Nat) {a : Nat} {σ : gz_S} (ha : a < 2 ^ 31 := by omega) (hb : b < 2 ^ 31 := by decide) : f_J9_min_7cf53 (nI a) (OfNat.ofNat b) σ = some (nI (min a b), σ) := by
  unfold f_J9_min_7cf53
  by_cases h : b < a
  · rw [if_pos ((gn_gt b ha hb).mpr h), Nat.min_eq_right (by omega)]
    rfl
  · rw [if_neg (fun q => h ((gn_gt b ha hb).mp q)), Nat.min_eq_left (by omega)]
theorem x_behind {d n : Nat} {b : Int32} {σ : gz_S} {fe : Nat → Int32} (hf : ∀ d, d < 10000 → gb (σ.2.1 2 0) d = fe d) (hd : d ≤ 10000) (hn : n ≤ 9999) : f_X2_behind (nI d) (nI n) b σ = some (nI (gs_sp (wk fe) d n b), σ) := by
  unfold f_X2_behind gs_sp
  by_cases hb : b = 0
  · rw [if_pos hb, if_pos hb, nI_add, x_min 10000, gz_call_e, x_workingFrom hf (by omega), gz_call_e]
  · rw [if_neg hb, if_neg hb]
    have key : ∀ n fuel d, n < fuel → n ≤ 9999 → d ≤ 10000 → gz_l2 f_X2_behind_L24 fuel (nI d) (nI n) σ = some (nI (gs_wk (wk fe) n d), σ) := by
      intro n
      induction n with
      | zero =>
        intro fuel d hf hn hd
        obtain ⟨fuel, rfl⟩ : ∃ k, fuel = k + 1 := ⟨fuel - 1, by omega⟩
        show f_X2_behind_L24 _ (nI d) (nI 0) σ = _
        unfold f_X2_behind_L24
        rw [if_pos (by decide)]
        rfl
      | succ n ih =>
        intro fuel d hfu hn hd
        obtain ⟨fuel, rfl⟩ : ∃ k, fuel = k + 1 := ⟨fuel - 1, by omega⟩
        show f_X2_behind_L24 (gz_l2 f_X2_behind_L24 fuel) (nI d) (nI (n + 1)) σ = _
        unfold f_X2_behind_L24 gs_wk
        rw [if_neg (fun h => by have := (gn_le 0).mp h; omega)]
        by_cases h : 10000 ≤ d
        · rw [if_pos ((gn_ge 10000).mpr h), if_pos h]
        · rw [if_neg (fun q => h ((gn_ge 10000).mp q)), if_neg h, nI_1, x_workingFrom hf (by omega), gz_call_e, pk_m1]
          exact ih fuel _ (by omega) (by omega) (gs_ff_le (by omega)).2
    exact key n gz_fu d (by show n < 20000; omega) hn hd
theorem m_spanOf {d n : Nat} {b : Int32} {σ : gz_S} (hd : d ≤ 10000) (hn : n ≤ 9999) : f_X11_spanOf (nI d) (nI n) b σ = some (nI (gs_sp (wk (σ.1 5 0)) d n b), σ) := by
  unfold f_X11_spanOf
  have hend : ∀ d, d ≤ 10000 → gz_call (f_J9_min_7cf53 (nI d) 10000 σ) (fun r18 σ17 => some (r18, σ17)) = some (nI d, σ) := fun d hd => by
    rw [x_min 10000, gz_call_e, Nat.min_eq_left hd]
  by_cases hlt : d < 10000
  · rw [if_pos ((gn_lt 10000).mpr hlt)]
    unfold gs_sp
    by_cases hb : b = 0
    · rw [if_pos hb, if_pos hb, gz_v_e, nI_add]
      by_cases hs : d + n ≤ 10000
      · rw [Nat.min_eq_left hs]
        refine gs_sc (wk (σ.1 5 0)) 10000 (fun d => some (nI d, σ)) σ (fun rec d hd => ?_) (fun rec => ?_) gz_fu (d + n) hs (by show 10000 - (d + n) < 20000; omega)
        · unfold f_X11_spanOf_L24
          rw [if_neg (fun h => by have := (gn_ge 10000).mp h; omega), m_isWorking hd, gz_call_e, nI_1, hend d (by omega)]
          cases wk (σ.1 5 0) d <;> rfl
        · unfold f_X11_spanOf_L24
          rw [if_pos (by decide)]
          exact hend 10000 (by decide)
      · rw [Nat.min_eq_right (by omega), gs_ff_e]
        show f_X11_spanOf_L24 (gz_l1 f_X11_spanOf_L24 19999) (nI (d + n)) σ = _
        unfold f_X11_spanOf_L24
        rw [if_pos ((gn_ge 10000).mpr (by omega)), x_min 10000, gz_call_e, Nat.min_eq_right (by omega)]
    · rw [if_neg hb, if_neg hb]
      have key : ∀ n fuel d, n < fuel → n ≤ 9999 → d ≤ 10000 → gz_l2 f_X11_spanOf_L59 fuel (nI d) (nI n) σ = some (nI (gs_wk (wk (σ.1 5 0)) n d), σ) := by
        intro n
        induction n with
        | zero =>
          intro fuel d hf hn hd
          obtain ⟨fuel, rfl⟩ : ∃ k, fuel = k + 1 := ⟨fuel - 1, by omega⟩
          show f_X11_spanOf_L59 _ (nI d) (nI 0) σ = _
          unfold f_X11_spanOf_L59
          rw [if_pos (by decide)]
          exact hend d hd
        | succ n ih =>
          intro fuel d hfu hn hd
          obtain ⟨fuel, rfl⟩ : ∃ k, fuel = k + 1 := ⟨fuel - 1, by omega⟩
          show f_X11_spanOf_L59 (gz_l2 f_X11_spanOf_L59 fuel) (nI d) (nI (n + 1)) σ = _
          have ih' := ih fuel
          generalize gz_l2 f_X11_spanOf_L59 fuel = rc at ih' ⊢
          unfold f_X11_spanOf_L59 gs_wk
          rw [if_neg (fun h => by have := (gn_le 0).mp h; omega)]
          by_cases h : 10000 ≤ d
          · rw [if_pos ((gn_ge 10000).mpr h), if_pos h]
            exact hend d hd
          · rw [if_neg (fun q => h ((gn_ge 10000).mp q)), if_neg h, nI_1, gz_j1_e]
            have e := gs_sc (F := f_X11_spanOf_L75 (f_X11_spanOf_J98 (nI (n + 1)) rc)) (wk (σ.1 5 0)) 10000 (fun d => f_X11_spanOf_J98 (nI (n + 1)) rc (nI d) σ) σ (fun rec d hd => ?_) (fun rec => ?_) gz_fu (d + 1) (by omega) (by show 10000 - (d + 1) < 20000; omega)
            · rw [e]
              unfold f_X11_spanOf_J98
              rw [pk_m1]
              exact ih' _ (by omega) (by omega) (gs_ff_le (by omega)).2
            · unfold f_X11_spanOf_L75
              rw [if_neg (fun h => by have := (gn_ge 10000).mp h; omega), m_isWorking hd, gz_call_e, nI_1]
              cases wk (σ.1 5 0) d <;> rfl
            · unfold f_X11_spanOf_L75
              rw [if_pos (by decide)]
      exact key n gz_fu d (by show n < 20000; omega) hn hd
  · have : d = 10000 := by omega
    subst this
    rw [if_neg (by decide)]
    unfold gs_sp
    by_cases hb : b = 0
    · rw [if_pos hb, Nat.min_eq_right (by omega), gs_ff_e]
      rfl
    · rw [if_neg hb]
      cases n with
      | zero => rfl
      | succ n => rfl
