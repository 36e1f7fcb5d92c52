/-! the calendar: bits -/
theorem g_and63 {d : Nat} (hd : d < 10000) : (nI d &&& 63 : Int32) = nI (d % 64) := pk_andN (by omega) 6 (by decide)
theorem g_shr6 {d : Nat} (hd : d < 10000) : nI d >>> ((6 : Int32) &&& 31) = nI (d / 64) := pk_shrN (by omega) _ 6 (by decide)
theorem g_lN_bv {k : Nat} : (lN k).toBitVec = BitVec.ofNat 64 k := rfl
theorem gb_e {A : Nat → Int64} {d : Nat} (hd : d < 10000) : gb A d = if (A (d / 64)).toBitVec.getLsbD (d % 64) = true then 1 else 0 := by
  unfold gb
  rw [g_and63 hd, nI_l (by omega)]
  have hs : ((lN (d % 64)).toUInt64 &&& Int64.toUInt64 63).toBitVec % 64 = BitVec.ofNat 64 (d % 64) := by
    apply BitVec.eq_of_toNat_eq
    have h1 : ((lN (d % 64)).toUInt64 &&& Int64.toUInt64 63).toBitVec = BitVec.ofNat 64 (d % 64) &&& 63#64 := rfl
    rw [h1]
    have h2 : d % 64 < 64 := Nat.mod_lt _ (by decide)
    have h3 : (d % 64) &&& 63 = d % 64 := by
      have := Nat.and_two_pow_sub_one_eq_mod (d % 64) 6
      simp at this
      rw [this]
    simp only [BitVec.toNat_umod, BitVec.toNat_and, BitVec.toNat_ofNat]
    rw [Nat.mod_eq_of_lt (show d % 64 < 2 ^ 64 by omega), Nat.mod_eq_of_lt (show 63 < 2 ^ 64 by decide), h3]
    show d % 64 % 64 = _
    omega
  have hX : ((((A (d / 64)).toUInt64 >>> ((lN (d % 64)).toUInt64 &&& Int64.toUInt64 63)).toInt64) &&& 1 = 0) ↔ (A (d / 64)).toBitVec.getLsbD (d % 64) = false := by
    rw [← Int64.toBitVec_inj]
    have e : ((((A (d / 64)).toUInt64 >>> ((lN (d % 64)).toUInt64 &&& Int64.toUInt64 63)).toInt64) &&& 1).toBitVec = ((A (d / 64)).toBitVec >>> (((lN (d % 64)).toUInt64 &&& Int64.toUInt64 63).toBitVec % 64)) &&& 1#64 := rfl
    rw [e, hs]
    have e0 : (0 : Int64).toBitVec = 0#64 := rfl
    rw [e0]
    have e1 : ∀ x : BitVec 64, (x &&& 1#64 = 0#64) ↔ x.getLsbD 0 = false := by
      intro x
      constructor
      · intro h
        have := congrArg (fun y => y.getLsbD 0) h
        simpa using this
      · intro h
        apply BitVec.eq_of_getLsbD_eq
        intro i hi
        by_cases h0 : i = 0
        · subst h0
          rw [BitVec.getLsbD_and, h]
          simp
        · simp [BitVec.getLsbD_one, h0]
    rw [e1]
    rw [BitVec.ushiftRight_eq', BitVec.getLsbD_ushiftRight]
    have : (BitVec.ofNat 64 (d % 64)).toNat = d % 64 := by
      rw [BitVec.toNat_ofNat]
      omega
    rw [this]
    simp
  have hc : ∀ x : Int64, (lg_cmp x 0 = 0) ↔ x = 0 := by
    intro x
    unfold lg_cmp
    constructor
    · intro h
      split at h
      · exact absurd h (by decide)
      · split at h
        · assumption
        · exact absurd h (by decide)
    · intro h
      subst h
      decide
  by_cases hb : (A (d / 64)).toBitVec.getLsbD (d % 64) = true
  · rw [if_pos hb, if_neg]
    intro h
    have := hX.mp ((hc _).mp h)
    rw [hb] at this
    cases this
  · rw [if_neg hb, if_pos ((hc _).mpr (hX.mpr (by simpa using hb)))]
theorem gb_set {A A' : Nat → Int64} {d : Nat} (hd : d < 10000) (hA : ∀ j, A' j = if j = d / 64 then A (d / 64) ^^^ (1 <<< ((nI d &&& 63 : Int32).toInt64 &&& 63)) else A j) : ∀ d', d' < 10000 → gb A' d' = if d' = d then (if gb A d = 0 then 1 else 0) else gb A d' := by
  intro d' hd'
  have hs : (A (d / 64) ^^^ (1 <<< ((nI d &&& 63 : Int32).toInt64 &&& 63))).toBitVec = (A (d / 64)).toBitVec ^^^ (1#64 <<< (d % 64)) := by
    rw [g_and63 hd, nI_l (by omega)]
    have e : (A (d / 64) ^^^ (1 <<< (lN (d % 64) &&& 63))).toBitVec = (A (d / 64)).toBitVec ^^^ (1#64 <<< ((BitVec.ofNat 64 (d % 64) &&& 63#64).smod 64)) := rfl
    rw [e]
    have h2 : d % 64 < 64 := Nat.mod_lt _ (by decide)
    have h3 : ∀ k, k < 64 → (BitVec.ofNat 64 k &&& 63#64).smod 64 = BitVec.ofNat 64 k := by decide +kernel
    rw [h3 _ h2, BitVec.shiftLeft_eq']
    have : (BitVec.ofNat 64 (d % 64)).toNat = d % 64 := by
      rw [BitVec.toNat_ofNat]
      omega
    rw [this]
  rw [gb_e hd, gb_e hd', gb_e hd']
  rw [hA]
  by_cases hc : d' / 64 = d / 64
  · rw [if_pos hc, hs, BitVec.getLsbD_xor, BitVec.getLsbD_shiftLeft]
    have h1 : d' % 64 < 64 := Nat.mod_lt _ (by decide)
    by_cases hdd : d' = d
    · subst hdd
      simp [h1]
    · have hne : d' % 64 ≠ d % 64 := by omega
      have : (decide (d' % 64 < 64) && !decide (d' % 64 < d % 64) && (1#64).getLsbD (d' % 64 - d % 64)) = false := by
        by_cases hlt : d' % 64 < d % 64
        · simp [hlt]
        · have : d' % 64 - d % 64 ≠ 0 := by omega
          simp [BitVec.getLsbD_one, this]
      rw [this, Bool.xor_false, if_neg hdd, hc]
  · rw [if_neg hc]
    have hdd : d' ≠ d := fun h => hc (by rw [h])
    rw [if_neg hdd]
