/-! words of letters -/
theorem lN_bvn {k : Nat} (h : k < 2 ^ 63) : (lN k).toBitVec.toNat = k := by
  show (BitVec.ofNat 64 k).toNat = k
  rw [BitVec.toNat_ofNat]
  omega
theorem lN_and31 {k : Nat} (h : k < 2 ^ 63) : lN k &&& 31 = lN (k % 32) := by
  apply Int64.toBitVec_inj.mp
  apply BitVec.eq_of_toNat_eq
  show ((BitVec.ofNat 64 k) &&& 31#64).toNat = (BitVec.ofNat 64 (k % 32)).toNat
  rw [BitVec.toNat_and, BitVec.toNat_ofNat, BitVec.toNat_ofNat, BitVec.toNat_ofNat, Nat.mod_eq_of_lt (show k < 2 ^ 64 by omega), Nat.mod_eq_of_lt (show 31 < 2 ^ 64 by decide), Nat.mod_eq_of_lt (show k % 32 < 2 ^ 64 by omega)]
  exact Nat.and_two_pow_sub_one_eq_mod k 5
theorem lN_shr5 {k : Nat} (h : k < 2 ^ 63) : lN k >>> ((5 : Int32).toInt64 &&& 63) = lN (k / 32) := by
  apply Int64.toInt_inj.mp
  rw [pk_lT (by omega)]
  have e : (lN k >>> ((5 : Int32).toInt64 &&& 63)).toInt = ((lN k).toBitVec.sshiftRight 5).toInt := rfl
  rw [e, BitVec.toInt_sshiftRight]
  have e2 : (lN k).toBitVec.toInt = (k : Int) := pk_lT h
  rw [e2]
  show ((k : Int) >>> 5) = _
  rw [Int.shiftRight_eq_div_pow]
  omega
theorem gc_le (b : Nat) {a : Nat} (ha : a < 2 ^ 63 := by omega) (hb : b < 2 ^ 63 := by decide) : (lg_cmp (lN a) (OfNat.ofNat b : Int64) ≤ 0) ↔ a ≤ b := (lg_cmp_le _ _).trans (pk_lLE ha hb)
theorem gc_lt (b : Nat) {a : Nat} (ha : a < 2 ^ 63 := by omega) (hb : b < 2 ^ 63 := by decide) : (lg_cmp (lN a) (OfNat.ofNat b : Int64) < 0) ↔ a < b := (lg_cmp_lt _ _).trans (pk_lLT ha hb)
theorem gc_ge (b : Nat) {a : Nat} (ha : a < 2 ^ 63 := by omega) (hb : b < 2 ^ 63 := by decide) : (0 ≤ lg_cmp (lN a) (OfNat.ofNat b : Int64)) ↔ b ≤ a := (lg_cmp_ge _ _).trans (pk_lLE hb ha)
def gsw : Nat → Nat → Bool
  | 0, _ => true
  | n + 1, k => if k = 0 then true else decide (1 ≤ k % 32) && decide (k % 32 ≤ 26) && gsw n (k / 32)
def gWord (w : Int64) : Bool := decide (0 < w) && decide (w < 1099511627776) && gsw 8 w.toInt.toNat
theorem gWord_ne {w : Int64} (h : gWord w = true) : w ≠ 0 := by
  rintro rfl
  exact absurd h (by decide)
theorem gWord_n1 {w : Int64} (h : gWord w = true) : w ≠ -1 := by
  rintro rfl
  exact absurd h (by decide)
theorem x_isWord (w : Int64) (σ : gz_S) : f_X9_isWord w σ = some (if gWord w = true then 1 else 0, σ) := by
  unfold f_X9_isWord gWord
  by_cases h0 : 0 < w
  · rw [if_neg (fun q => by
      have := (lg_cmp_le w 0).mp q
      have h1 := Int64.lt_iff_toInt_lt.mp h0
      have h2 := Int64.le_iff_toInt_le.mp this
      omega)]
    by_cases h1 : w < 1099511627776
    · rw [if_pos ((lg_cmp_lt w _).mpr h1)]
      obtain ⟨k, hk, rfl⟩ := pk_lOf (x := w) (fun q => by
        have h1 := Int64.lt_iff_toInt_lt.mp h0
        have h2 := Int64.lt_iff_toInt_lt.mp q
        omega)
      have hk40 : k < 2 ^ 40 := (pk_lLT (b := 1099511627776) hk (by decide)).mp h1
      have key : ∀ n i fuel k, n + i = 8 → n < fuel → k < 2 ^ (5 * n) → gz_l2 f_X9_isWord_L21 fuel (lN k) (nI i) σ = some (if gsw n k = true then 1 else 0, σ) := by
        intro n
        induction n with
        | zero =>
          intro i fuel k hi hf hk
          obtain ⟨fuel, rfl⟩ : ∃ q, fuel = q + 1 := ⟨fuel - 1, by omega⟩
          have : i = 8 := by omega
          subst this
          show f_X9_isWord_L21 _ (lN k) (nI 8) σ = _
          unfold f_X9_isWord_L21
          rw [if_pos (by decide)]
          rfl
        | succ n ih =>
          intro i fuel k hi hf hk
          obtain ⟨fuel, rfl⟩ : ∃ q, fuel = q + 1 := ⟨fuel - 1, by omega⟩
          have hk63 : k < 2 ^ 63 := Nat.lt_of_lt_of_le hk (Nat.pow_le_pow_right (by decide) (by omega))
          show f_X9_isWord_L21 (gz_l2 f_X9_isWord_L21 fuel) (lN k) (nI i) σ = _
          have ih' := ih (i + 1) fuel (k / 32) (by omega) (by omega) (by
            rw [show 5 * (n + 1) = 5 * n + 5 by omega, Nat.pow_add] at hk
            omega)
          generalize gz_l2 f_X9_isWord_L21 fuel = rc at ih' ⊢
          unfold f_X9_isWord_L21 gsw
          rw [if_neg (fun q => by have := (gn_ge 8).mp q; omega)]
          by_cases hk0 : k = 0
          · subst hk0
            rw [if_pos (by decide), if_pos rfl]
            rfl
          · rw [if_neg (fun q => by
              have := (lg_cmp_le _ _).mp q
              have := (pk_lLE (b := 0) hk63 (by decide)).mp this
              omega), if_neg hk0, gz_v_e, lN_and31 hk63]
            by_cases hl : 1 ≤ k % 32
            · rw [if_neg (fun q => by
                have := (lg_cmp_lt _ _).mp q
                have := (pk_lLT (b := 1) (by omega) (by decide)).mp this
                omega)]
              by_cases hu : k % 32 ≤ 26
              · rw [if_pos ((gc_le 26).mpr hu), gz_v_e, lN_shr5 hk63, nI_1, ih']
                simp [hl, hu]
              · rw [if_neg (fun q => by
                  have := (lg_cmp_le _ _).mp q
                  have := (pk_lLE (b := 26) (by omega) (by decide)).mp this
                  omega)]
                simp [hu]
            · rw [if_pos ((gc_lt 1).mpr (by omega))]
              simp [hl]
      have e := key 8 0 gz_fu k rfl (by decide) hk40
      have e' : gz_l2 f_X9_isWord_L21 gz_fu (lN k) 0 σ = some (if gsw 8 k = true then 1 else 0, σ) := e
      rw [e', pk_lT hk]
      simp [h0, h1]
    · rw [if_neg (fun q => h1 ((lg_cmp_lt w _).mp q))]
      simp [h1]
  · rw [if_pos ((lg_cmp_le w 0).mpr (by
      apply Int64.le_iff_toInt_le.mpr
      have h1 : ¬ (0 : Int64).toInt < w.toInt := fun q => h0 (Int64.lt_iff_toInt_lt.mpr q)
      omega))]
    simp [h0]
theorem m_isWord (w : Int64) (σ : gz_S) : f_X11_isWord w σ = some (if gWord w = true then 1 else 0, σ) := by
  unfold f_X11_isWord gWord
  by_cases h0 : 0 < w
  · rw [if_neg (fun q => by
      have := (lg_cmp_le w 0).mp q
      have h1 := Int64.lt_iff_toInt_lt.mp h0
      have h2 := Int64.le_iff_toInt_le.mp this
      omega)]
    by_cases h1 : w < 1099511627776
    · rw [if_pos ((lg_cmp_lt w _).mpr h1)]
      obtain ⟨k, hk, rfl⟩ := pk_lOf (x := w) (fun q => by
        have h1 := Int64.lt_iff_toInt_lt.mp h0
        have h2 := Int64.lt_iff_toInt_lt.mp q
        omega)
      have hk40 : k < 2 ^ 40 := (pk_lLT (b := 1099511627776) hk (by decide)).mp h1
      have key : ∀ n fuel k (g : Int32), (g = 0 ∨ g = 1) → n < fuel → k < 2 ^ (5 * n) → n ≤ 8 → gz_l2 f_X11_isWord_L20 fuel g (lN k) σ = some (if g = 1 ∧ gsw n k = true then 1 else 0, σ) := by
        intro n
        induction n with
        | zero =>
          intro fuel k g hg hf hk _
          obtain ⟨fuel, rfl⟩ : ∃ q, fuel = q + 1 := ⟨fuel - 1, by omega⟩
          have : k = 0 := by simp at hk; exact hk
          subst this
          show f_X11_isWord_L20 _ g (lN 0) σ = _
          unfold f_X11_isWord_L20
          rw [if_pos (by decide)]
          rcases hg with rfl | rfl <;> rfl
        | succ n ih =>
          intro fuel k g hg hf hk h8
          obtain ⟨fuel, rfl⟩ : ∃ q, fuel = q + 1 := ⟨fuel - 1, by omega⟩
          have hk63 : k < 2 ^ 63 := Nat.lt_of_lt_of_le hk (Nat.pow_le_pow_right (by decide) (by omega))
          show f_X11_isWord_L20 (gz_l2 f_X11_isWord_L20 fuel) g (lN k) σ = _
          have ih' := fun g hg => ih fuel (k / 32) g hg (by omega) (by
            rw [show 5 * (n + 1) = 5 * n + 5 by omega, Nat.pow_add] at hk
            omega) (by omega)
          generalize gz_l2 f_X11_isWord_L20 fuel = rc at ih' ⊢
          unfold f_X11_isWord_L20 gsw
          by_cases hk0 : k = 0
          · subst hk0
            rw [if_pos (by decide)]
            rcases hg with rfl | rfl <;> rfl
          · rw [if_neg (fun q => by
              have := (lg_cmp_le _ _).mp q
              have := (pk_lLE (b := 0) hk63 (by decide)).mp this
              omega), gz_j1_e, gz_j0_e, if_neg hk0, lN_and31 hk63]
            unfold f_X11_isWord_J56 f_X11_isWord_J57
            rw [gz_v_e, gz_v_e, lN_shr5 hk63, ih' 0 (Or.inl rfl), ih' 1 (Or.inr rfl)]
            rcases hg with rfl | rfl
            · rw [if_pos rfl]
              simp
            · rw [if_neg (by decide)]
              by_cases hl : 1 ≤ k % 32
              · rw [if_neg (fun q => by
                  have := (lg_cmp_le _ _).mp q
                  have := (pk_lLE (b := 0) (by omega) (by decide)).mp this
                  omega)]
                by_cases hu : k % 32 ≤ 26
                · rw [if_neg (fun q => by
                    have := (lg_cmp_ge _ _).mp q
                    have := (pk_lLE (a := 27) (by decide) (by omega)).mp this
                    omega)]
                  simp [hl, hu]
                · rw [if_pos ((gc_ge 27).mpr (by omega))]
                  simp [hu]
              · rw [if_pos ((gc_le 0).mpr (by omega))]
                simp [hl]
      have e := key 8 gz_fu k 1 (Or.inr rfl) (by decide) hk40 (by decide)
      rw [e, pk_lT hk]
      simp [h0, h1]
    · rw [if_neg (fun q => h1 ((lg_cmp_lt w _).mp q))]
      simp [h1]
  · rw [if_pos ((lg_cmp_le w 0).mpr (by
      apply Int64.le_iff_toInt_le.mpr
      have h1 : ¬ (0 : Int64).toInt < w.toInt := fun q => h0 (Int64.lt_iff_toInt_lt.mpr q)
      omega))]
    simp [h0]
