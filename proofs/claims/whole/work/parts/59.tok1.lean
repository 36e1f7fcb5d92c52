/-! bytes -/
def gBy (x : Int32) (n : Nat) : Prop := n < 256 ∧ ((n < 128 ∧ x = nI n) ∨ (128 ≤ n ∧ x.toInt < 0))
set_option maxRecDepth 100000 in
theorem gBy_all : ∀ n, n < 256 → ((Int8.ofNat n).toInt32 &&& 255 = nI n) ∧ ((n < 128 ∧ (Int8.ofNat n).toInt32 = nI n) ∨ (128 ≤ n ∧ (Int8.ofNat n).toInt32.toInt < 0)) := by decide
theorem g_byte {x : Int32} (h : x.toInt8.toInt32 = x) : ∃ n, gBy x n ∧ x &&& 255 = nI n := by
  have h1 : x.toInt8 = Int8.ofNat x.toInt8.toBitVec.toNat := by
    apply Int8.toBitVec_inj.mp
    apply BitVec.eq_of_toNat_eq
    show _ = (BitVec.ofNat 8 x.toInt8.toBitVec.toNat).toNat
    rw [BitVec.toNat_ofNat]
    exact (Nat.mod_eq_of_lt x.toInt8.toBitVec.isLt).symm
  have hn : x.toInt8.toBitVec.toNat < 256 := x.toInt8.toBitVec.isLt
  have := gBy_all _ hn
  rw [← h1, h] at this
  exact ⟨_, ⟨hn, this.2⟩, this.1⟩
theorem gBy.eq (c : Nat) {x : Int32} {n : Nat} (h : gBy x n) (hc : c < 128 := by decide) : (x = (OfNat.ofNat c : Int32)) ↔ n = c := by
  rcases h.2 with ⟨h1, rfl⟩ | ⟨h1, h2⟩
  · exact gn_eq c (by omega) (by omega)
  · constructor
    · rintro rfl
      have : (nI c).toInt < 0 := h2
      rw [nI_toInt (by omega)] at this
      omega
    · intro e
      omega
theorem gBy.lt (c : Nat) {x : Int32} {n : Nat} (h : gBy x n) (hc : c < 128 := by decide) : (x < (OfNat.ofNat c : Int32)) ↔ (n < c ∨ 128 ≤ n) := by
  rcases h.2 with ⟨h1, rfl⟩ | ⟨h1, h2⟩
  · rw [gn_lt c (by omega) (by omega)]
    omega
  · constructor
    · intro _
      omega
    · intro _
      apply Int32.lt_iff_toInt_lt.mpr
      show x.toInt < (nI c).toInt
      rw [nI_toInt (by omega)]
      omega
theorem gBy.gt (c : Nat) {x : Int32} {n : Nat} (h : gBy x n) (hc : c < 128 := by decide) : ((OfNat.ofNat c : Int32) < x) ↔ (c < n ∧ n < 128) := by
  rcases h.2 with ⟨h1, rfl⟩ | ⟨h1, h2⟩
  · rw [gn_gt c (by omega) (by omega)]
    omega
  · constructor
    · intro q
      have := Int32.lt_iff_toInt_lt.mp q
      have e : (OfNat.ofNat c : Int32).toInt = (c : Int) := nI_toInt (by omega)
      omega
    · intro _
      omega
def gEx (e : Nat) (b : Nat → Nat) (σ : gz_S) : Prop := e ≤ 400 ∧ σ.1 3 0 2 = nI e ∧ ∀ k, k < 400 → gBy (σ.1 4 0 k) (b k)
def gEm (e : Nat) (b : Nat → Nat) (σ : gz_S) : Prop := e ≤ 400 ∧ σ.1 0 0 15 = nI e ∧ ∀ k, k < 400 → b k < 256 ∧ σ.1 7 0 k &&& 255 = nI (b k)
def gp3 (t _ k : Nat) : Bool := Nat.beq t 3 && Nat.beq k 3
def gp16 (t _ k : Nat) : Bool := Nat.beq t 0 && (Nat.beq k 16 || Nat.beq k 20)
def gsp (b : Nat → Nat) (k : Nat) : Bool := !(decide (b k = 32) || decide (b k = 10))
def gnr (b : Nat → Nat) (lo hi k : Nat) : Bool := !(decide (lo ≤ b k) && decide (b k ≤ hi))
theorem gEx.fr {e : Nat} {b : Nat → Nat} {p : Nat → Nat → Nat → Bool} {σ g : gz_S} (h : gEx e b σ) (hf : gfr p σ g) (h2 : p 3 0 2 = false) (h4 : ∀ k, p 4 0 k = false) : gEx e b g := ⟨h.1, ((hf 3 0 2 h2).1).trans h.2.1, fun k hk => by rw [(hf 4 0 k (h4 k)).1]; exact h.2.2 k hk⟩
theorem gEm.fr {e : Nat} {b : Nat → Nat} {p : Nat → Nat → Nat → Bool} {σ g : gz_S} (h : gEm e b σ) (hf : gfr p σ g) (h2 : p 0 0 15 = false) (h4 : ∀ k, p 7 0 k = false) : gEm e b g := ⟨h.1, ((hf 0 0 15 h2).1).trans h.2.1, fun k hk => by rw [(hf 7 0 k (h4 k)).1]; exact h.2.2 k hk⟩
theorem m_byteAt {e k : Nat} {b : Nat → Nat} {σ : gz_S} (h : gEm e b σ) (hk : k < 1000) : f_X11_byteAt (nI k) σ = some (if k < e then nI (b k) else -1, σ) := by
  have he := h.1
  unfold f_X11_byteAt
  rw [h.2.1]
  by_cases hke : k < e
  · rw [if_neg (nI_ge hke (by omega)), if_pos hke, gz_ix_nI (show k < 400 by omega) (by decide), (h.2.2 k (by omega)).2]
  · rw [if_pos (nI_le (by omega) (by omega)), if_neg hke]
theorem m_isLetter {n : Nat} {σ : gz_S} (hn : n < 256) : f_X11_isLetter (nI n) σ = some (if 97 ≤ n ∧ n ≤ 122 then 1 else 0, σ) := by
  unfold f_X11_isLetter
  by_cases h1 : n < 97
  · rw [if_pos ((gn_lt 97 (a := n)).mpr h1), if_neg (by omega)]
    rfl
  · rw [if_neg (fun q => h1 ((gn_lt 97 (a := n)).mp q))]
    by_cases h2 : 122 < n
    · rw [if_pos ((gn_gt 122 (a := n)).mpr h2), if_neg (by omega)]
      rfl
    · rw [if_neg (fun q => h2 ((gn_gt 122 (a := n)).mp q)), if_pos (by omega)]
      rfl
theorem m_isDigit {n : Nat} {σ : gz_S} (hn : n < 256) : f_X11_isDigit (nI n) σ = some (if 48 ≤ n ∧ n ≤ 57 then 1 else 0, σ) := by
  unfold f_X11_isDigit
  by_cases h1 : n < 48
  · rw [if_pos ((gn_lt 48 (a := n)).mpr h1), if_neg (by omega)]
    rfl
  · rw [if_neg (fun q => h1 ((gn_lt 48 (a := n)).mp q))]
    by_cases h2 : 57 < n
    · rw [if_pos ((gn_gt 57 (a := n)).mpr h2), if_neg (by omega)]
      rfl
    · rw [if_neg (fun q => h2 ((gn_gt 57 (a := n)).mp q)), if_pos (by omega)]
      rfl
theorem m_isLetterN {σ : gz_S} : f_X11_isLetter (-1) σ = some (0, σ) := by
  unfold f_X11_isLetter
  rw [if_pos (by decide)]
  rfl
theorem m_isDigitN {σ : gz_S} : f_X11_isDigit (-1) σ = some (0, σ) := by
  unfold f_X11_isDigit
  rw [if_pos (by decide)]
  rfl
theorem x_skip {j : gz_S → Option gz_S} {Q : gz_S → Prop} {e p : Nat} {b : Nat → Nat} {σ : gz_S} (hE : gEx e b σ) (hp : p ≤ e) (h3 : σ.1 3 0 3 = nI p) (hj : ∀ g, gfr gp3 σ g → g.1 3 0 3 = nI (gs_ff (gsp b) e p) → gp (j g) Q) : gp (gz_l0 (f_X8_step_L0 j) gz_fu σ) Q := by
  have he := hE.1
  refine gp_l0 (fun g m => ∃ k, k ≤ e ∧ m = e - k ∧ gfr gp3 σ g ∧ g.1 3 0 3 = nI k ∧ gs_ff (gsp b) e k = gs_ff (gsp b) e p) ?_ gz_fu (e - p) σ (by show e - p < 20000; omega) ⟨p, hp, rfl, gfr.rf, h3, rfl⟩
  rintro rec m g ⟨k, hk, rfl, hf, g3, hs⟩ ih
  have hEg := hE.fr hf rfl (fun _ => rfl)
  unfold f_X8_step_L0
  rw [hEg.2.1, g3]
  by_cases hke : k < e
  · refine gp_neg (nI_ge hke (by omega)) ?_
    have hb := hEg.2.2 k (by omega)
    rw [gz_ix_nI (show k < 400 by omega) (by decide), gz_j0_e, gz_ix_nI (show k < 400 by omega) (by decide)]
    have hJ : gsp b k = false → gp (f_X8_step_J39 rec g) Q := by
      intro hw
      unfold f_X8_step_J39
      rw [gz_w_e]
      refine ih _ (e - (k + 1)) (by omega) ⟨k + 1, by omega, rfl, hf.si rfl, ?_, ?_⟩
      · rw [gz_si_1, if_pos ⟨rfl, rfl, rfl⟩, g3, nI_1]
      · rw [gs_ff_s hke, if_neg (by rw [hw]; decide)] at hs
        exact hs
    by_cases h32 : b k = 32
    · exact gp_pos ((hb.eq 32).mpr h32) (hJ (by unfold gsp; simp [h32]))
    · refine gp_neg (fun q => h32 ((hb.eq 32).mp q)) ?_
      by_cases h10 : b k = 10
      · exact gp_pos ((hb.eq 10).mpr h10) (hJ (by unfold gsp; simp [h10]))
      · refine gp_neg (fun q => h10 ((hb.eq 10).mp q)) (hj g hf ?_)
        rw [g3, ← hs, gs_ff_s hke, if_pos (by unfold gsp; simp [h32, h10])]
  · refine gp_pos (nI_le (by omega) (by omega)) (hj g hf ?_)
    have : k = e := by omega
    subst this
    rw [g3, ← hs, gs_ff_e]
theorem m_skip {j : gz_S → Option gz_S} {Q : gz_S → Prop} {e p : Nat} {b : Nat → Nat} {σ : gz_S} (hE : gEm e b σ) (hp : p ≤ e) (h3 : σ.1 0 0 16 = nI p) (hj : ∀ g, gfr gp16 σ g → g.1 0 0 16 = nI (gs_ff (gsp b) e p) → gp (j g) Q) : gp (gz_l0 (f_X11_next_L0 j) gz_fu σ) Q := by
  have he := hE.1
  refine gp_l0 (fun g m => ∃ k, k ≤ e ∧ m = e - k ∧ gfr gp16 σ g ∧ g.1 0 0 16 = nI k ∧ gs_ff (gsp b) e k = gs_ff (gsp b) e p) ?_ gz_fu (e - p) σ (by show e - p < 20000; omega) ⟨p, hp, rfl, gfr.rf, h3, rfl⟩
  rintro rec m g ⟨k, hk, rfl, hf, g3, hs⟩ ih
  have hEg := hE.fr hf rfl (fun _ => rfl)
  unfold f_X11_next_L0
  rw [g3, m_byteAt hEg (by omega), gz_call_e, gz_j0_e, g3, m_byteAt hEg (by omega), gz_call_e]
  by_cases hke : k < e
  · rw [if_pos hke]
    have hb := (hEg.2.2 k (by omega)).1
    have hJ : gsp b k = false → gp (f_X11_next_J26 rec g) Q := by
      intro hw
      unfold f_X11_next_J26
      rw [gz_w_e]
      refine ih _ (e - (k + 1)) (by omega) ⟨k + 1, by omega, rfl, hf.si rfl, ?_, ?_⟩
      · rw [gz_si_1, if_pos ⟨rfl, rfl, rfl⟩, g3, nI_1]
      · rw [gs_ff_s hke, if_neg (by rw [hw]; decide)] at hs
        exact hs
    by_cases h32 : b k = 32
    · exact gp_pos ((gn_eq 32 (a := b k)).mpr h32) (hJ (by unfold gsp; simp [h32]))
    · refine gp_neg (fun q => h32 ((gn_eq 32 (a := b k)).mp q)) ?_
      by_cases h10 : b k = 10
      · exact gp_pos ((gn_eq 10 (a := b k)).mpr h10) (hJ (by unfold gsp; simp [h10]))
      · refine gp_neg (fun q => h10 ((gn_eq 10 (a := b k)).mp q)) (hj g hf ?_)
        rw [g3, ← hs, gs_ff_s hke, if_pos (by unfold gsp; simp [h32, h10])]
  · rw [if_neg hke]
    refine gp_neg (by decide) (gp_neg (by decide) (hj g hf ?_))
    have : k = e := by omega
    subst this
    rw [g3, ← hs, gs_ff_e]
/-! runs of letters or digits -/
def gV (T : Nat → Int32) (a3 a4 : Int32) (p : Nat) : Nat → Int64
  | 0 => 0
  | n + 1 => gV T a3 a4 p n * a3.toInt64 + (T (p + n)).toInt64 - a4.toInt64
theorem x_run (lo hi : Nat) {a3 a4 : Int32} {e p : Nat} {b : Nat → Nat} {σ : gz_S} (hE : gEx e b σ) (hp : p ≤ e) (h3 : σ.1 3 0 3 = nI p) (hlo : lo < 128 := by decide) (hhi : hi < 128 := by decide) : gp (f_X8_readRun (OfNat.ofNat lo) (OfNat.ofNat hi) a3 a4 σ) (fun q => gfr gp3 σ q.2 ∧ q.2.1 3 0 3 = nI (gs_ff (gnr b lo hi) e p) ∧ q.1 = gV (σ.1 4 0) a3 a4 p (gs_ff (gnr b lo hi) e p - p)) := by
  have he := hE.1
  unfold f_X8_readRun
  refine gp_l1 (fun v g m => ∃ k, p ≤ k ∧ k ≤ e ∧ m = e - k ∧ gfr gp3 σ g ∧ g.1 3 0 3 = nI k ∧ v = gV (σ.1 4 0) a3 a4 p (k - p) ∧ gs_ff (gnr b lo hi) e k = gs_ff (gnr b lo hi) e p) ?_ gz_fu (e - p) 0 σ (by show e - p < 20000; omega) ⟨p, Nat.le_refl _, hp, rfl, gfr.rf, h3, by rw [Nat.sub_self]; rfl, rfl⟩
  rintro rec m v g ⟨k, hpk, hk, rfl, hf, g3, rfl, hs⟩ ih
  have hEg := hE.fr hf rfl (fun _ => rfl)
  unfold f_X8_readRun_L3
  rw [hEg.2.1, g3]
  by_cases hke : k < e
  · refine gp_neg (nI_ge hke (by omega)) ?_
    have hb := hEg.2.2 k (by omega)
    simp only [gz_ix_nI (show k < 400 by omega) (show 400 < 2 ^ 31 by decide)]
    have hend : gnr b lo hi k = true → gs_ff (gnr b lo hi) e p = k := by
      intro hw
      rw [← hs, gs_ff_s hke, if_pos hw]
    by_cases h1 : b k < lo ∨ 128 ≤ b k
    · have hw : gnr b lo hi k = true := by
        unfold gnr
        have : ¬ (lo ≤ b k ∧ b k ≤ hi) := by omega
        simp only [Bool.not_eq_true', Bool.and_eq_false_iff, decide_eq_false_iff_not]
        omega
      refine gp_pos ((hb.lt lo hlo).mpr h1) ⟨_, rfl, hf, ?_, ?_⟩
      · rw [hend hw]
        exact g3
      · rw [hend hw]
    · refine gp_neg (fun q => h1 ((hb.lt lo hlo).mp q)) ?_
      by_cases h2 : hi < b k ∧ b k < 128
      · have hw : gnr b lo hi k = true := by
          unfold gnr
          simp only [Bool.not_eq_true', Bool.and_eq_false_iff, decide_eq_false_iff_not]
          omega
        refine gp_pos ((hb.gt hi hhi).mpr h2) ⟨_, rfl, hf, ?_, ?_⟩
        · rw [hend hw]
          exact g3
        · rw [hend hw]
      · refine gp_neg (fun q => h2 ((hb.gt hi hhi).mp q)) ?_
        have hw : gnr b lo hi k = false := by
          unfold gnr
          simp only [Bool.not_eq_false', Bool.and_eq_true, decide_eq_true_eq]
          omega
        rw [gz_v_e, gz_w_e]
        refine ih _ _ (e - (k + 1)) (by omega) ⟨k + 1, by omega, by omega, rfl, hf.si rfl, ?_, ?_, ?_⟩
        · rw [gz_si_1, if_pos ⟨rfl, rfl, rfl⟩, nI_1]
        · rw [show k + 1 - p = (k - p) + 1 by omega]
          show _ = gV (σ.1 4 0) a3 a4 p (k - p) * a3.toInt64 + (σ.1 4 0 (p + (k - p))).toInt64 - a4.toInt64
          rw [show p + (k - p) = k by omega, (hf 4 0 k rfl).1]
        · rw [gs_ff_s hke, if_neg (by rw [hw]; decide)] at hs
          exact hs
  · have : k = e := by omega
    subst this
    have hend : gs_ff (gnr b lo hi) k p = k := by rw [← hs, gs_ff_e]
    refine gp_pos (nI_le (by omega) (by omega)) ⟨_, rfl, hf, ?_, ?_⟩
    · rw [hend]
      exact g3
    · rw [hend]
theorem gV_word {V : Int64} {x : Int32} {n : Nat} (h1 : 97 ≤ n) (h2 : n ≤ 122) (hx : x = nI n) : 32 * V + ((nI n - 97) + 1 : Int32).toInt64 = V * (32 : Int32).toInt64 + x.toInt64 - (96 : Int32).toInt64 := by
  obtain ⟨m, rfl⟩ : ∃ m, n = m + 97 := ⟨n - 97, by omega⟩
  have e1 : nI (m + 97) - 97 = nI m := by
    rw [← nI_add]
    exact Int32.add_sub_cancel _ _
  rw [hx, e1, nI_1, gl_64 (by omega), gl_64 (by omega), show (32 : Int32).toInt64 = 32 from by decide, show (96 : Int32).toInt64 = lN 96 from by decide]
  have e2 : lN (m + 97) = lN (m + 1) + lN 96 := by
    rw [show m + 97 = (m + 1) + 96 by omega]
    exact Int64.ofNat_add _ _
  rw [e2, ← Int64.add_assoc, Int64.add_sub_cancel, Int64.mul_comm]
theorem gV_num {V : Int64} {x : Int32} {n : Nat} (h1 : 48 ≤ n) (h2 : n ≤ 57) (hx : x = nI n) : 10 * V + (nI n - 48 : Int32).toInt64 = V * (10 : Int32).toInt64 + x.toInt64 - (48 : Int32).toInt64 := by
  obtain ⟨m, rfl⟩ : ∃ m, n = m + 48 := ⟨n - 48, by omega⟩
  have e1 : nI (m + 48) - 48 = nI m := by
    rw [← nI_add]
    exact Int32.add_sub_cancel _ _
  rw [hx, e1, gl_64 (by omega), gl_64 (by omega), show (10 : Int32).toInt64 = 10 from by decide, show (48 : Int32).toInt64 = lN 48 from by decide]
  have e2 : lN (m + 48) = lN m + lN 48 := Int64.ofNat_add _ _
  rw [e2, ← Int64.add_assoc, Int64.add_sub_cancel, Int64.mul_comm]
theorem gV_lN (B lo z : Nat) {T : Nat → Int32} {p : Nat} (hB : B ≤ 32) {a3 a4 : Int32} (h3 : a3.toInt64 = lN B) (h4 : a4.toInt64 = lN z) : ∀ n, (∀ j, j < n → ∃ d, d < B ∧ T (p + j) = nI (d + z) ∧ d + z < 256) → n ≤ 8 → ∃ k, k < B ^ n ∧ gV T a3 a4 p n = lN k := by
  intro n
  induction n with
  | zero => intro _ _; exact ⟨0, by simp, rfl⟩
  | succ n ih =>
    intro h hn
    obtain ⟨k, hk, e⟩ := ih (fun j hj => h j (by omega)) (by omega)
    obtain ⟨d, hd, e2, hdz⟩ := h n (by omega)
    refine ⟨k * B + d, ?_, ?_⟩
    · rw [Nat.pow_succ]
      have : (k + 1) * B ≤ B ^ n * B := Nat.mul_le_mul_right _ hk
      rw [Nat.succ_mul] at this
      omega
    · show gV T a3 a4 p n * a3.toInt64 + (T (p + n)).toInt64 - a4.toInt64 = _
      rw [e, e2, h3, h4, gl_64 (by omega)]
      have e3 : lN (d + z) = lN d + lN z := Int64.ofNat_add _ _
      have e4 : lN (k * B + d) = lN (k * B) + lN d := Int64.ofNat_add _ _
      have e5 : lN (k * B) = lN k * lN B := Int64.ofNat_mul _ _
      rw [e3, ← Int64.add_assoc, Int64.add_sub_cancel, e4, e5]
