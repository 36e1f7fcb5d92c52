/-! issues: bits and tables -/
theorem g_xs : ∀ a, a < 64 → ∀ b, b < 64 → ∀ k, k < 12 → (64 * a + b).testBit k = true → (64 * a + b) ^^^ 2 ^ k = 64 * a + b - 2 ^ k ∧ 2 ^ k ≤ 64 * a + b := by decide
theorem g_xor {s k : Nat} (hs : s < 4096) (hk : k < 12) (h : s.testBit k = true) : s ^^^ 2 ^ k = s - 2 ^ k ∧ 2 ^ k ≤ s := by
  have := g_xs (s / 64) (by omega) (s % 64) (by omega) k hk
  rw [show 64 * (s / 64) + s % 64 = s by omega] at this
  exact this h
theorem g_bsub {s k : Nat} (hs : s < 4096) (hk : k < 12) (h : s.testBit k = true) (j : Nat) : (s - 2 ^ k).testBit j = (s.testBit j && decide (j ≠ k)) := by
  rw [← (g_xor hs hk h).1, Nat.testBit_xor, Nat.testBit_two_pow]
  by_cases e : k = j
  · subst e
    rw [h]
    simp
  · have e' : j ≠ k := fun q => e q.symm
    simp [e, e']
theorem g_2k : ∀ k, k < 12 → (1 : Int32) <<< (nI k &&& 31) = nI (2 ^ k) ∧ ((nI k &&& 31).toBitVec.smod 32).toNat = k ∧ 2 ^ k < 4096 := by decide
theorem g_bit {s k : Nat} (hs : s < 4096) (hk : k < 12) : ((nI s >>> (nI k &&& 31)) &&& 1 = 0) ↔ s.testBit k = false := by
  have h1 := (g_2k k hk).2.1
  have hd : s / 2 ^ k ≤ s := Nat.div_le_self _ _
  rw [pk_shrN (by omega) _ k h1, pk_andN (n := s / 2 ^ k) (by omega) 1 (by decide), Nat.testBit_eq_decide_div_mod_eq]
  have h2 : s / 2 ^ k % 2 ^ 1 < 2 := Nat.mod_lt _ (by decide)
  rw [show (0 : Int32) = nI 0 from rfl, nI_eq (by omega) (by omega)]
  simp only [Nat.pow_one] at h2 ⊢
  constructor
  · intro q
    simp [q]
  · intro q
    have : ¬ s / 2 ^ k % 2 = 1 := by simpa using q
    omega
theorem g_nxor {s t : Nat} (hs : s < 4096) (ht : t < 4096) : nI s ^^^ nI t = nI (s ^^^ t) := by
  have hx : s ^^^ t < 2 ^ 12 := Nat.xor_lt_two_pow (by omega) (by omega)
  apply Int32.toBitVec_inj.mp
  apply BitVec.eq_of_toNat_eq
  rw [Int32.toBitVec_xor, BitVec.toNat_xor]
  have e : ∀ n, n < 4096 → (nI n).toBitVec.toNat = n := fun n hn => by
    show (BitVec.ofNat 32 n).toNat = n
    rw [BitVec.toNat_ofNat]
    exact Nat.mod_eq_of_lt (by omega)
  rw [e s hs, e t ht, e _ (by omega)]
/-- lines laid on a page -/
def gld (w a l : Nat) : Nat := if w < a % 64 + l then (a / 64 + 1) * 64 + l else a + l
def gMin (c w : Nat) (ln T : Nat → Nat) (s m : Nat) : Prop := (∃ k, k < c ∧ s.testBit k = true ∧ m = gld w (T (s - 2 ^ k)) (ln k)) ∧ ∀ k, k < c → s.testBit k = true → m ≤ gld w (T (s - 2 ^ k)) (ln k)
def gTb (c w : Nat) (ln T : Nat → Nat) : Prop := T 0 = w ∧ ∀ s, 0 < s → s < 2 ^ c → gMin c w ln T s (T s)
theorem g_c12 {c : Nat} (h : c ≤ 12) : 2 ^ c ≤ 4096 := Nat.pow_le_pow_right (by decide : 0 < 2) h
theorem gTb.uniq {c w : Nat} {ln T T' : Nat → Nat} (hc : c ≤ 12) (h : gTb c w ln T) (h' : gTb c w ln T') : ∀ s, s < 2 ^ c → T s = T' s := by
  intro s
  induction s using Nat.strongRecOn with
  | ind s ih =>
    intro hs
    have h4 := g_c12 hc
    by_cases h0 : s = 0
    · subst h0
      rw [h.1, h'.1]
    · obtain ⟨⟨k, k1, k2, k3⟩, k4⟩ := h.2 s (by omega) hs
      obtain ⟨⟨j, j1, j2, j3⟩, j4⟩ := h'.2 s (by omega) hs
      have hp : ∀ i, i < c → s.testBit i = true → T (s - 2 ^ i) = T' (s - 2 ^ i) := fun i hi hb => by
        have := (g_xor (by omega) (by omega : i < 12) hb).2
        have h2 : 0 < 2 ^ i := Nat.two_pow_pos i
        exact ih _ (by omega) (by omega)
      have e1 := j4 k k1 k2
      have e2 := k4 j j1 j2
      rw [← hp k k1 k2, ← k3] at e1
      rw [hp j j1 j2, ← j3] at e2
      omega
theorem gTb.ext {c w : Nat} {ln ln' T : Nat → Nat} (hc : c ≤ 12) (h : gTb c w ln T) (hl : ∀ k, k < c → ln' k = ln k) : gTb c w ln' T := by
  refine ⟨h.1, fun s h0 hs => ?_⟩
  obtain ⟨⟨k, k1, k2, k3⟩, k4⟩ := h.2 s h0 hs
  exact ⟨⟨k, k1, k2, by rw [hl k k1]; exact k3⟩, fun j j1 j2 => by rw [hl j j1]; exact k4 j j1 j2⟩
theorem g_hi {s c : Nat} (h : s < 2 ^ c) : s.testBit c = false := Nat.testBit_lt_two_pow h
theorem gMin.up {c w : Nat} {ln T : Nat → Nat} {s m : Nat} (h : gMin c w ln T s m) (hs : s < 2 ^ c) : gMin (c + 1) w ln T s m := by
  obtain ⟨⟨k, k1, k2, k3⟩, k4⟩ := h
  refine ⟨⟨k, by omega, k2, k3⟩, fun j j1 j2 => ?_⟩
  by_cases e : j = c
  · subst e
    rw [g_hi hs] at j2
    cases j2
  · exact k4 j (by omega) j2
/-- the lines of a set -/
def gtt (ln : Nat → Nat) : Nat → Nat → Nat
  | 0, _ => 0
  | n + 1, s => gtt ln n s + (if s.testBit n = true then ln n else 0)
theorem gtt_eq {ln : Nat → Nat} {s s' : Nat} : ∀ n, (∀ j, j < n → s'.testBit j = s.testBit j) → gtt ln n s' = gtt ln n s := by
  intro n
  induction n with
  | zero => intro _; rfl
  | succ n ih =>
    intro h
    show gtt ln n s' + _ = gtt ln n s + _
    rw [ih (fun j hj => h j (by omega)), h n (by omega)]
theorem gtt_sub {ln : Nat → Nat} {s k : Nat} (hs : s < 4096) (hk : k < 12) (h : s.testBit k = true) : ∀ n, k < n → gtt ln n s = gtt ln n (s - 2 ^ k) + ln k := by
  intro n
  induction n with
  | zero => intro h; omega
  | succ n ih =>
    intro hkn
    show gtt ln n s + _ = (gtt ln n (s - 2 ^ k) + _) + ln k
    rw [g_bsub hs hk h n]
    by_cases e : n = k
    · subst e
      have : gtt ln n (s - 2 ^ n) = gtt ln n s := gtt_eq n (fun j hj => by
        rw [g_bsub hs hk h j]
        have : j ≠ n := by omega
        simp [this])
      rw [this, h]
      simp
    · rw [ih (by omega)]
      simp only [e, ne_eq, not_false_eq_true, decide_true, Bool.and_true]
      omega
def gsm' (ln : Nat → Nat) : Nat → Nat
  | 0 => 0
  | n + 1 => gsm' ln n + ln n
theorem gtt_full {ln : Nat → Nat} {c : Nat} : ∀ n, n ≤ c → gtt ln n (2 ^ c - 1) = gsm' ln n := by
  intro n
  induction n with
  | zero => intro _; rfl
  | succ n ih =>
    intro h
    show gtt ln n (2 ^ c - 1) + _ = gsm' ln n + ln n
    rw [ih (by omega), Nat.testBit_two_pow_sub_one, if_pos (by simpa using (show n < c by omega))]
theorem gsm'_cg {ln ln' : Nat → Nat} : ∀ n, (∀ k, k < n → ln' k = ln k) → gsm' ln' n = gsm' ln n := by
  intro n
  induction n with
  | zero => intro _; rfl
  | succ n ih =>
    intro h
    show gsm' ln' n + ln' n = gsm' ln n + ln n
    rw [ih (fun k hk => h k (by omega)), h n (by omega)]
theorem gtt_0 {ln : Nat → Nat} : ∀ n, gtt ln n 0 = 0 := by
  intro n
  induction n with
  | zero => rfl
  | succ n ih =>
    show gtt ln n 0 + _ = 0
    rw [ih, Nat.zero_testBit]
    rfl
/-- pages must bear the lines -/
theorem gTb.vol {c w : Nat} {ln T : Nat → Nat} (hc : c ≤ 12) (hw : w < 64) (h : gTb c w ln T) (hl : ∀ k, k < c → 1 ≤ ln k ∧ ln k ≤ w) : ∀ s, s < 2 ^ c → T s % 64 ≤ w ∧ gtt ln c s + w ≤ (T s / 64) * w + T s % 64 := by
  intro s
  induction s using Nat.strongRecOn with
  | ind s ih =>
    intro hs
    have h4 := g_c12 hc
    by_cases h0 : s = 0
    · subst h0
      rw [h.1, gtt_0, Nat.mod_eq_of_lt hw]
      omega
    · obtain ⟨⟨k, k1, k2, k3⟩, -⟩ := h.2 s (by omega) hs
      have h5 := (g_xor (by omega) (by omega : k < 12) k2).2
      have h2 : 0 < 2 ^ k := Nat.two_pow_pos k
      obtain ⟨i1, i2⟩ := ih (s - 2 ^ k) (by omega) (by omega)
      rw [gtt_sub (by omega) (by omega : k < 12) k2 c k1, k3]
      have hlk := hl k k1
      generalize T (s - 2 ^ k) = a at i1 i2 ⊢
      generalize ln k = l at hlk ⊢
      generalize gtt ln c (s - 2 ^ k) = t at i2 ⊢
      unfold gld
      by_cases hf : w < a % 64 + l
      · rw [if_pos hf]
        have e1 : ((a / 64 + 1) * 64 + l) % 64 = l := by omega
        have e2 : ((a / 64 + 1) * 64 + l) / 64 = a / 64 + 1 := by omega
        rw [e1, e2, Nat.succ_mul]
        omega
      · rw [if_neg hf]
        have e1 : (a + l) % 64 = a % 64 + l := by omega
        have e2 : (a + l) / 64 = a / 64 := by omega
        rw [e1, e2]
        omega
theorem gld_le {w a l c : Nat} (hw : w ≤ 60) (hl : l ≤ w) (ha : a ≤ c * 64 + 60) : gld w a l ≤ (c + 1) * 64 + 60 := by
  unfold gld
  split
  · omega
  · omega
