/-! issues: the reference packs -/
theorem gn_sub {a b : Nat} (h : b ≤ a) : nI a - nI b = nI (a - b) := by
  conv => lhs; rw [show a = (a - b) + b by omega, ← nI_add]
  exact Int32.add_sub_cancel _ _
def gnT (w : Nat) (fw lf : Nat → Nat) (s : Nat) : Nat := fw s * 64 + (w - lf s)
def gm1 (s t _ k : Nat) : Bool := (Nat.beq t 36 || Nat.beq t 37) && decide (k = s)
theorem gm1_t {s t : Nat} (h : t = 36 ∨ t = 37) : gm1 s t 0 s = true := by
  unfold gm1
  rcases h with rfl | rfl <;> simp [gbq]
theorem gm1_f {s t k : Nat} (h : k ≠ s) : gm1 s t 0 k = false := by
  unfold gm1
  simp [h]
theorem g_cand {w fo lo l : Nat} (hw : w ≤ 60) (hlo : lo ≤ w) (hl : 1 ≤ l ∧ l ≤ w) : (l ≤ lo → gld w (fo * 64 + (w - lo)) l = fo * 64 + (w - (lo - l))) ∧ (lo < l → gld w (fo * 64 + (w - lo)) l = (fo + 1) * 64 + (w - (w - l))) := by
  have e1 : (fo * 64 + (w - lo)) % 64 = w - lo := by omega
  have e2 : (fo * 64 + (w - lo)) / 64 = fo := by omega
  unfold gld
  rw [e1, e2]
  constructor
  · intro h
    rw [if_neg (by omega)]
    omega
  · intro h
    rw [if_pos (by omega)]
    omega
theorem m_row {c w s : Nat} {ln pk fw lf : Nat → Nat} {j : gz_S → Option (Int32 × gz_S)} {Q : Int32 × gz_S → Prop} {σ : gz_S} (hc : c < 12) (hw : w ≤ 60) (hs1 : 2 ^ c ≤ s) (hs2 : s < 2 ^ (c + 1)) (h55 : σ.1 0 0 55 = nI c) (hk : ∀ k, k ≤ c → σ.1 35 0 k = nI (pk k) ∧ pk k < 61 ∧ σ.1 16 0 (pk k) = nI (ln k) ∧ 1 ≤ ln k ∧ ln k ≤ w) (hT : ∀ s', s' < s → σ.1 36 0 s' = nI (fw s') ∧ σ.1 37 0 s' = nI (lf s') ∧ lf s' ≤ w ∧ fw s' ≤ c + 1) (hT2 : ∀ s', s' < 2 ^ c → fw s' ≤ c) (h0 : gnT w fw lf 0 = w) (h36 : σ.1 36 0 s = 13) (h37 : σ.1 37 0 s = 0) (hj : ∀ g p l, gfr (gm1 s) σ g → g.2.2 = σ.2.2 → g.1 36 0 s = nI p → g.1 37 0 s = nI l → l ≤ w → p ≤ c + 1 → gMin (c + 1) w ln (gnT w fw lf) s (p * 64 + (w - l)) → gp (j g) Q) : gp (gz_l1 (f_X11_packs_L72 (nI s) (nI w) j) gz_fu 0 σ) Q := by
  have hs4 : s < 4096 := Nat.lt_of_lt_of_le hs2 (g_c12 (by omega))
  have hbc : s.testBit c = true := by
    rw [Nat.testBit_eq_decide_div_mod_eq]
    have hpow : 2 ^ (c + 1) = 2 * 2 ^ c := by rw [Nat.pow_succ, Nat.mul_comm]
    have : s / 2 ^ c = 1 := by
      apply Nat.div_eq_of_lt_le
      · omega
      · omega
    rw [this]
    decide
  have hlf0 : lf 0 = 0 := by
    have hp0 : 0 < 2 ^ c := Nat.two_pow_pos c
    have h3 := (hT 0 (by omega)).2.2.1
    unfold gnT at h0
    omega
  refine gp_l1 (fun v g m => ∃ k p l, v = nI k ∧ k ≤ c + 1 ∧ m = c + 1 - k ∧ gfr (gm1 s) σ g ∧ g.2.2 = σ.2.2 ∧ g.1 36 0 s = nI p ∧ g.1 37 0 s = nI l ∧ l ≤ w ∧ p ≤ 13 ∧ (∀ i, i < k → s.testBit i = true → p * 64 + (w - l) ≤ gld w (gnT w fw lf (s - 2 ^ i)) (ln i)) ∧ ((p = 13 ∧ l = 0) ∨ ∃ i, i < k ∧ s.testBit i = true ∧ p * 64 + (w - l) = gld w (gnT w fw lf (s - 2 ^ i)) (ln i))) ?_ gz_fu (c + 1) 0 σ (by show c + 1 < 20000; omega) ⟨0, 13, 0, rfl, by omega, by omega, gfr.rf, rfl, h36, h37, by omega, by omega, fun i hi => by omega, Or.inl ⟨rfl, rfl⟩⟩
  rintro rec m v g ⟨k, p, l, rfl, hkc, rfl, hf, h22, g36, g37, hl, hp, hle, hor⟩ ih
  have g55 : g.1 0 0 55 = nI c := ((hf 0 0 55 rfl).1).trans h55
  unfold f_X11_packs_L72
  rw [g55]
  by_cases hke : k = c + 1
  · subst hke
    refine gp_pos (nI_lt (by omega) (by omega)) ?_
    have h1 := hle c (by omega) hbc
    have h2k : 0 < 2 ^ c := Nat.two_pow_pos c
    have h2 : gnT w fw lf (s - 2 ^ c) ≤ c * 64 + 60 := by
      have hpow : 2 ^ (c + 1) = 2 * 2 ^ c := by rw [Nat.pow_succ, Nat.mul_comm]
      have := hT2 (s - 2 ^ c) (by omega)
      unfold gnT
      omega
    have h3 := gld_le (w := w) (a := gnT w fw lf (s - 2 ^ c)) (l := ln c) (c := c) hw (hk c (Nat.le_refl _)).2.2.2.2 h2
    rcases hor with ⟨q1, q2⟩ | ⟨i, i1, i2, i3⟩
    · subst q1
      omega
    · exact hj g p l hf h22 g36 g37 hl (by omega) ⟨⟨i, i1, i2, i3⟩, hle⟩
  · refine gp_neg (nI_nlt (show k ≤ c by omega) (by omega)) ?_
    rw [gz_j0_e]
    have hJ : ∀ g' p' l', gfr (gm1 s) σ g' → g'.2.2 = σ.2.2 → g'.1 36 0 s = nI p' → g'.1 37 0 s = nI l' → l' ≤ w → p' ≤ 13 → (∀ i, i < k + 1 → s.testBit i = true → p' * 64 + (w - l') ≤ gld w (gnT w fw lf (s - 2 ^ i)) (ln i)) → ((p' = 13 ∧ l' = 0) ∨ ∃ i, i < k + 1 ∧ s.testBit i = true ∧ p' * 64 + (w - l') = gld w (gnT w fw lf (s - 2 ^ i)) (ln i)) → gp (f_X11_packs_J242 (nI k) rec g') Q := by
      intro g' p' l' a1 a2 a3 a4 a5 a6 a7 a8
      unfold f_X11_packs_J242
      rw [nI_1]
      exact ih _ _ (c + 1 - (k + 1)) (by omega) ⟨k + 1, p', l', rfl, by omega, rfl, a1, a2, a3, a4, a5, a6, a7, a8⟩
    cases htb : s.testBit k with
    | false =>
      refine gp_pos ((g_bit hs4 (by omega)).mpr htb) (hJ g p l hf h22 g36 g37 hl hp (fun i hi hb => ?_) ?_)
      · by_cases e : i = k
        · subst e
          rw [htb] at hb
          cases hb
        · exact hle i (by omega) hb
      · rcases hor with q | ⟨i, i1, i2, i3⟩
        · exact Or.inl q
        · exact Or.inr ⟨i, by omega, i2, i3⟩
    | true =>
      refine gp_neg (fun q => by have := (g_bit hs4 (by omega : k < 12)).mp q; rw [htb] at this; cases this) ?_
      obtain ⟨-, x2⟩ := g_xor hs4 (by omega : k < 12) htb
      obtain ⟨p1, -, p3⟩ := g_2k k (by omega)
      have h2k : 0 < 2 ^ k := Nat.two_pow_pos k
      obtain ⟨t1, t2, t3, t4⟩ := hT (s - 2 ^ k) (by omega)
      have u1 : g.1 36 0 (s - 2 ^ k) = nI (fw (s - 2 ^ k)) := ((hf 36 0 _ (gm1_f (by omega))).1).trans t1
      have u2 : g.1 37 0 (s - 2 ^ k) = nI (lf (s - 2 ^ k)) := ((hf 37 0 _ (gm1_f (by omega))).1).trans t2
      obtain ⟨l1, l2, l3, l4, l5⟩ := hk k (by omega)
      have v1 : g.1 35 0 k = nI (pk k) := ((hf 35 0 k rfl).1).trans l1
      have v2 : g.1 16 0 (pk k) = nI (ln k) := ((hf 16 0 _ rfl).1).trans l3
      rw [p1, gn_sub x2, gz_v_e, gz_j1_e, gz_j0_e]
      have hcd := g_cand (w := w) (fo := fw (s - 2 ^ k)) (lo := lf (s - 2 ^ k)) (l := ln k) hw t3 ⟨l4, l5⟩
      -- the new pair (P, L) against the old one
      have fin : ∀ P L, L ≤ w → P ≤ 13 → gld w (gnT w fw lf (s - 2 ^ k)) (ln k) = P * 64 + (w - L) → gp (gz_ix (nI s) 4096 (fun n31 => gz_j0 (f_X11_packs_J224 (nI s) (nI P) (nI L) (f_X11_packs_J242 (nI k) rec)) (fun j224 => if nI P < (g.1 36 0 n31) then (j224 g) else (gz_ix (nI s) 4096 (fun n37 => if nI P = (g.1 36 0 n37) then (gz_ix (nI s) 4096 (fun n38 => if nI L ≤ (g.1 37 0 n38) then (f_X11_packs_J242 (nI k) rec g) else (j224 g))) else (f_X11_packs_J242 (nI k) rec g)))))) Q := by
        intro P L hL hP hg
        simp only [gz_ix_nI hs4 (show 4096 < 2 ^ 31 by decide), gz_j0_e, g36, g37]
        have hkeep : p * 64 + (w - l) ≤ P * 64 + (w - L) → gp (f_X11_packs_J242 (nI k) rec g) Q := fun hlE => hJ g p l hf h22 g36 g37 hl hp (fun i hi hb => by
            by_cases e : i = k
            · subst e
              rw [hg]
              exact hlE
            · exact hle i (by omega) hb) (by
            rcases hor with q | ⟨i, i1, i2, i3⟩
            · exact Or.inl q
            · exact Or.inr ⟨i, by omega, i2, i3⟩)
        have hset : P * 64 + (w - L) ≤ p * 64 + (w - l) → gp (f_X11_packs_J224 (nI s) (nI P) (nI L) (f_X11_packs_J242 (nI k) rec) g) Q := fun hlE => by
          unfold f_X11_packs_J224
          rw [gz_ix_nI hs4 (by decide), gz_w_e, gz_ix_nI hs4 (by decide), gz_w_e]
          refine hJ _ P L ((hf.si (gm1_t (Or.inl rfl))).si (gm1_t (Or.inr rfl))) h22 ?_ ?_ hL hP (fun i hi hb => ?_) (Or.inr ⟨k, by omega, htb, hg.symm⟩)
          · show (if 36 = 36 ∧ 0 = 0 ∧ s = s then nI P else _) = _
            rw [if_pos ⟨rfl, rfl, rfl⟩]
          · rw [gz_si_1, if_pos ⟨rfl, rfl, rfl⟩]
          · by_cases e : i = k
            · subst e
              rw [hg]
              exact Nat.le_refl _
            · have := hle i (by omega) hb
              omega
        by_cases c1 : P < p
        · exact gp_pos (nI_lt c1 (by omega)) (hset (by omega))
        · refine gp_neg (nI_nlt (by omega) (by omega)) ?_
          by_cases c2 : P = p
          · refine gp_pos (by rw [c2]) ?_
            by_cases c3 : L ≤ l
            · exact gp_pos (nI_le c3 (by omega)) (hkeep (by omega))
            · exact gp_neg (nI_ge (by omega) (by omega)) (hset (by omega))
          · exact gp_neg (fun q => c2 ((nI_eq (by omega) (by omega)).mp q)) (hkeep (by omega))
      have hno : lf (s - 2 ^ k) < ln k → gp (f_X11_packs_J134 (f_X11_packs_J135 (nI (s - 2 ^ k)) (nI k) (nI s) (nI w) (f_X11_packs_J242 (nI k) rec)) g) Q := by
        intro hlt
        unfold f_X11_packs_J134 f_X11_packs_J135
        rw [gz_ix_nI (show s - 2 ^ k < 4096 by omega) (by decide), gz_j2_e, if_pos rfl]
        unfold f_X11_packs_J154
        rw [gz_v_e, gz_j1_e, if_pos rfl]
        unfold f_X11_packs_J173
        rw [gz_ix_nI (show k < 12 by omega) (by decide), v1, gz_ix_nI l2 (by decide), v2, gn_sub l5, gz_v_e, u1, nI_1]
        exact fin (fw (s - 2 ^ k) + 1) (w - ln k) (by omega) (by omega) (hcd.2 hlt)
      have hyes : ln k ≤ lf (s - 2 ^ k) → gp (f_X11_packs_J135 (nI (s - 2 ^ k)) (nI k) (nI s) (nI w) (f_X11_packs_J242 (nI k) rec) 1 g) Q := by
        intro hge
        unfold f_X11_packs_J135
        rw [gz_ix_nI (show s - 2 ^ k < 4096 by omega) (by decide), gz_j2_e, if_neg (by decide)]
        unfold f_X11_packs_J154
        rw [gz_v_e, gz_j1_e, if_neg (by decide), gz_ix_nI (show s - 2 ^ k < 4096 by omega) (by decide)]
        unfold f_X11_packs_J173
        rw [gz_ix_nI (show k < 12 by omega) (by decide), v1, gz_ix_nI l2 (by decide), v2, u2, gn_sub hge, gz_v_e, u1, nI_z]
        exact fin (fw (s - 2 ^ k)) (lf (s - 2 ^ k) - ln k) (by omega) (by omega) (hcd.1 hge)
      by_cases hz : s - 2 ^ k = 0
      · refine gp_pos (by rw [hz]; rfl) (hno ?_)
        rw [hz, hlf0]
        exact l4
      · refine gp_neg (fun q => hz ((gn_eq 0 (a := s - 2 ^ k)).mp q)) ?_
        rw [gz_ix_nI (show s - 2 ^ k < 4096 by omega) (by decide), gz_ix_nI (show k < 12 by omega) (by decide), v1, gz_ix_nI l2 (by decide), u2, v2]
        by_cases hlt : lf (s - 2 ^ k) < ln k
        · exact gp_pos (nI_lt hlt (by omega)) (hno hlt)
        · exact gp_neg (nI_nlt (by omega) (by omega)) (hyes (by omega))
def gmx (t _ k : Nat) : Bool := (Nat.ble 35 t && Nat.ble t 37) || (Nat.beq t 0 && Nat.beq k 55)
theorem gm1_w {s : Nat} : ∀ t i k, gmx t i k = false → gm1 s t i k = false := by
  intro t i k h
  unfold gmx at h
  unfold gm1
  simp only [gbq, gbl, Bool.or_eq_false_iff, Bool.and_eq_false_iff, decide_eq_false_iff_not] at h ⊢
  omega
def gMp (c w : Nat) (ln pk : Nat → Nat) (gm : gz_S) : Prop := c ≤ 12 ∧ gm.1 0 0 55 = nI c ∧ (∀ k, k < c → gm.1 35 0 k = nI (pk k) ∧ pk k < 61 ∧ gm.1 16 0 (pk k) = nI (ln k) ∧ 1 ≤ ln k ∧ ln k ≤ w) ∧ ∃ fw lf, (∀ s, s < 2 ^ c → gm.1 36 0 s = nI (fw s) ∧ gm.1 37 0 s = nI (lf s) ∧ lf s ≤ w ∧ fw s ≤ c) ∧ gTb c w ln (gnT w fw lf)
theorem m_packs {c w pg l n : Nat} {ln pk : Nat → Nat} {gm : gz_S} (hw : w ≤ 60) (hpg : pg ≤ 8) (hl : 1 ≤ l ∧ l ≤ 60) (hn : n < 61) (h16 : gm.1 16 0 n = nI l) (h : gMp c w ln pk gm) : ∃ r gm', f_X11_packs (nI n) (nI pg) (nI w) gm = some (r, gm') ∧ gfr gmx gm gm' ∧ gm'.2.2 = gm.2.2 ∧ ((r = 1 ∧ c < 12 ∧ l ≤ w ∧ ∃ T', gTb (c + 1) w (gun ln c l) T' ∧ T' (2 ^ (c + 1) - 1) / 64 ≤ pg ∧ gMp (c + 1) w (gun ln c l) (gun pk c n) gm') ∨ (r = 0 ∧ gMp c w ln pk gm' ∧ (c = 12 ∨ w < l ∨ ∃ T', gTb (c + 1) w (gun ln c l) T' ∧ pg < T' (2 ^ (c + 1) - 1) / 64))) := by
  obtain ⟨hc, h55, hk, fw, lf, hT, hb⟩ := h
  unfold f_X11_packs
  rw [h55]
  by_cases hc12 : c = 12
  · rw [if_pos ((gn_eq 12 (a := c)).mpr hc12)]
    exact ⟨0, gm, rfl, gfr.rf, rfl, Or.inr ⟨rfl, ⟨hc, h55, hk, fw, lf, hT, hb⟩, Or.inl hc12⟩⟩
  rw [if_neg (fun q => hc12 ((gn_eq 12 (a := c)).mp q)), gz_ix_nI hn (by decide), h16]
  by_cases hwl : w < l
  · rw [if_neg (nI_ge hwl (by omega))]
    exact ⟨0, gm, rfl, gfr.rf, rfl, Or.inr ⟨rfl, ⟨hc, h55, hk, fw, lf, hT, hb⟩, Or.inr (Or.inl hwl)⟩⟩
  rw [if_pos (nI_le (by omega) (by omega)), gz_ix_nI (show c < 12 by omega) (by decide), gz_w_e]
  obtain ⟨p1, -, p3⟩ := g_2k c (by omega)
  have e55 : (gz_si gm 35 0 c (nI n)).1 0 0 55 = nI c := h55
  rw [e55, p1, gz_v_e, gz_j0_e]
  have hpow : 2 ^ (c + 1) = 2 * 2 ^ c := by rw [Nat.pow_succ, Nat.mul_comm]
  have hpos : 0 < 2 ^ c := Nat.two_pow_pos c
  have e2v : (2 : Int32) * nI (2 ^ c) = nI (2 ^ (c + 1)) := by rw [hpow]; exact pk_mul 2 (2 ^ c)
  have hpl : 2 ^ (c + 1) ≤ 4096 := g_c12 (by omega)
  have hkc : ∀ k, k ≤ c → (gz_si gm 35 0 c (nI n)).1 35 0 k = nI (gun pk c n k) ∧ gun pk c n k < 61 ∧ (gz_si gm 35 0 c (nI n)).1 16 0 (gun pk c n k) = nI (gun ln c l k) ∧ 1 ≤ gun ln c l k ∧ gun ln c l k ≤ w := by
    intro k hk'
    show (if 35 = 35 ∧ 0 = 0 ∧ k = c then nI n else gm.1 35 0 k) = _ ∧ _ ∧ gm.1 16 0 (gun pk c n k) = _ ∧ _
    by_cases e : k = c
    · subst e
      rw [if_pos ⟨rfl, rfl, rfl⟩, gun_e, gun_e]
      exact ⟨rfl, hn, h16, hl.1, by omega⟩
    · rw [if_neg (fun q => e q.2.2), gun_ne _ e, gun_ne _ e]
      exact hk k (by omega)
  have hmain : gp (gz_l1 (f_X11_packs_L43 (nI (2 ^ c)) (nI w) (f_X11_packs_J254 (nI (2 ^ c)) (nI pg))) gz_fu (nI (2 ^ c)) (gz_si gm 35 0 c (nI n))) (fun q => gfr gmx gm q.2 ∧ q.2.2.2 = gm.2.2 ∧ ((q.1 = 1 ∧ c < 12 ∧ l ≤ w ∧ ∃ T', gTb (c + 1) w (gun ln c l) T' ∧ T' (2 ^ (c + 1) - 1) / 64 ≤ pg ∧ gMp (c + 1) w (gun ln c l) (gun pk c n) q.2) ∨ (q.1 = 0 ∧ gMp c w ln pk q.2 ∧ (c = 12 ∨ w < l ∨ ∃ T', gTb (c + 1) w (gun ln c l) T' ∧ pg < T' (2 ^ (c + 1) - 1) / 64)))) := by
    refine gp_l1 (fun v g m => ∃ s fw' lf', v = nI s ∧ 2 ^ c ≤ s ∧ s ≤ 2 ^ (c + 1) ∧ m = 2 ^ (c + 1) - s ∧ gfr gmx gm g ∧ g.2.2 = gm.2.2 ∧ g.1 0 0 55 = nI c ∧ (∀ k, k ≤ c → g.1 35 0 k = nI (gun pk c n k)) ∧ (∀ s', s' < s → g.1 36 0 s' = nI (fw' s') ∧ g.1 37 0 s' = nI (lf' s') ∧ lf' s' ≤ w ∧ fw' s' ≤ c + 1) ∧ (∀ s', s' < 2 ^ c → fw' s' = fw s' ∧ lf' s' = lf s') ∧ ∀ s', 0 < s' → s' < s → gMin (c + 1) w (gun ln c l) (gnT w fw' lf') s' (gnT w fw' lf' s')) ?_ gz_fu (2 ^ (c + 1) - 2 ^ c) (nI (2 ^ c)) _ (by show 2 ^ (c + 1) - 2 ^ c < 20000; omega) ⟨2 ^ c, fw, lf, rfl, Nat.le_refl _, by omega, rfl, gfr.rf.si rfl, rfl, h55, fun k hk' => (hkc k hk').1, fun s' hs' => by have := hT s' hs'; exact ⟨this.1, this.2.1, this.2.2.1, by omega⟩, fun s' _ => ⟨rfl, rfl⟩, fun s' h0 hs' => ?_⟩
    · rintro rec m v g ⟨s, fw', lf', rfl, s1, s2, rfl, hf, h22, g55, gk, gT, gc, gM⟩ ih
      unfold f_X11_packs_L43
      rw [e2v]
      have hT0 : gnT w fw' lf' 0 = w := by
        unfold gnT
        rw [(gc 0 hpos).1, (gc 0 hpos).2]
        exact hb.1
      by_cases hse : s = 2 ^ (c + 1)
      · subst hse
        refine gp_pos (nI_le (Nat.le_refl _) (by omega)) ?_
        have hTb' : gTb (c + 1) w (gun ln c l) (gnT w fw' lf') := ⟨hT0, gM⟩
        unfold f_X11_packs_J254
        have e2m : nI (2 ^ (c + 1)) - 1 = nI (2 ^ (c + 1) - 1) := by
          obtain ⟨z, hz⟩ : ∃ z, 2 ^ (c + 1) = z + 1 := ⟨2 ^ (c + 1) - 1, by omega⟩
          rw [hz, gn_back]
          rfl
        obtain ⟨v1, v2, v3, v4⟩ := gT (2 ^ (c + 1) - 1) (by omega)
        have hdiv : gnT w fw' lf' (2 ^ (c + 1) - 1) / 64 = fw' (2 ^ (c + 1) - 1) := by
          unfold gnT
          omega
        rw [e2v, e2m, gz_ix_nI (show 2 ^ (c + 1) - 1 < 4096 by omega) (by decide), v1]
        by_cases hfit : fw' (2 ^ (c + 1) - 1) ≤ pg
        · refine gp_pos (nI_le hfit (by omega)) ?_
          rw [g55, nI_1, gz_w_e]
          refine ⟨_, rfl, hf.si rfl, h22, Or.inl ⟨rfl, by omega, by omega, _, hTb', by rw [hdiv]; exact hfit, by omega, rfl, fun k hk' => ?_, fw', lf', gT, hTb'⟩⟩
          obtain ⟨-, a2, a3, a4, a5⟩ := hkc k (by omega)
          exact ⟨gk k (by omega), a2, ((hf 16 0 _ rfl).1).trans a3, a4, a5⟩
        · refine gp_neg (nI_ge (by omega) (by omega)) ⟨_, rfl, hf, h22, Or.inr ⟨rfl, ⟨hc, g55, fun k hk' => ?_, fw, lf, fun s' hs' => ?_, hb⟩, Or.inr (Or.inr ⟨_, hTb', by rw [hdiv]; omega⟩)⟩⟩
          · obtain ⟨a1, a2, a3, a4, a5⟩ := hk k hk'
            refine ⟨?_, a2, ((hf 16 0 _ rfl).1).trans a3, a4, a5⟩
            rw [gk k (by omega), gun_ne _ (by omega)]
          · obtain ⟨b1, b2, b3, b4⟩ := gT s' (by omega)
            rw [b1, b2, (gc s' hs').1, (gc s' hs').2]
            exact ⟨rfl, rfl, (hT s' hs').2.2.1, (hT s' hs').2.2.2⟩
      · refine gp_neg (nI_ge (by omega) (by omega)) ?_
        rw [gz_ix_nI (show s < 4096 by omega) (by decide), gz_w_e, gz_ix_nI (show s < 4096 by omega) (by decide), gz_w_e, gz_j0_e]
        have hfs : gfr (gm1 s) g (gz_si (gz_si g 36 0 s 13) 37 0 s 0) := (gfr.rf.si (gm1_t (Or.inl rfl))).si (gm1_t (Or.inr rfl))
        refine m_row (c := c) (w := w) (s := s) (ln := gun ln c l) (pk := gun pk c n) (fw := fw') (lf := lf') (by omega) hw s1 (by omega) g55 (fun k hk' => ?_) (fun s' hs' => ?_) (fun s' hs' => by rw [(gc s' hs').1]; exact (hT s' hs').2.2.2) hT0 ?_ ?_ (fun g' p l' k1 k2 k3 k4 k5 k6 k7 => ?_)
        · obtain ⟨-, a2, a3, a4, a5⟩ := hkc k hk'
          exact ⟨gk k hk', a2, ((hf 16 0 _ rfl).1).trans a3, a4, a5⟩
        · rw [(hfs 36 0 s' (gm1_f (by omega))).1, (hfs 37 0 s' (gm1_f (by omega))).1]
          exact gT s' hs'
        · show (if 36 = 36 ∧ 0 = 0 ∧ s = s then (13 : Int32) else _) = _
          rw [if_pos ⟨rfl, rfl, rfl⟩]
        · rw [gz_si_1, if_pos ⟨rfl, rfl, rfl⟩]
        · unfold f_X11_packs_J248
          rw [nI_1]
          have hfg : gfr gmx gm g' := (hf.tr (hfs.w gm1_w)).tr (k1.w gm1_w)
          have hcg : ∀ s' k, s' ≤ s → 0 < s' → s'.testBit k = true → gnT w (gun fw' s p) (gun lf' s l') (s' - 2 ^ k) = gnT w fw' lf' (s' - 2 ^ k) := fun s' k a1 a2 _ => by
            have : 0 < 2 ^ k := Nat.two_pow_pos k
            unfold gnT
            rw [gun_ne _ (by omega), gun_ne _ (by omega)]
          refine ih _ _ (2 ^ (c + 1) - (s + 1)) (by omega) ⟨s + 1, gun fw' s p, gun lf' s l', rfl, by omega, by omega, rfl, hfg, k2.trans h22, ((k1 0 0 55 rfl).1).trans g55, fun k hk' => ((k1 35 0 k rfl).1).trans (gk k hk'), fun s' hs' => ?_, fun s' hs' => ?_, fun s' a0 hs' => ?_⟩
          · by_cases e : s' = s
            · subst e
              rw [gun_e, gun_e]
              exact ⟨k3, k4, k5, k6⟩
            · rw [gun_ne _ e, gun_ne _ e, (k1 36 0 s' (gm1_f e)).1, (k1 37 0 s' (gm1_f e)).1, (hfs 36 0 s' (gm1_f e)).1, (hfs 37 0 s' (gm1_f e)).1]
              exact gT s' (by omega)
          · rw [gun_ne _ (by omega), gun_ne _ (by omega)]
            exact gc s' hs'
          · by_cases e : s' = s
            · subst e
              obtain ⟨⟨k, q1, q2, q3⟩, q4⟩ := k7
              have hv : gnT w (gun fw' s' p) (gun lf' s' l') s' = p * 64 + (w - l') := by
                unfold gnT
                rw [gun_e, gun_e]
              rw [hv]
              exact ⟨⟨k, q1, q2, by rw [hcg s' k (Nat.le_refl _) a0 q2]; exact q3⟩, fun i i1 i2 => by rw [hcg s' i (Nat.le_refl _) a0 i2]; exact q4 i i1 i2⟩
            · obtain ⟨⟨k, q1, q2, q3⟩, q4⟩ := gM s' a0 (by omega)
              have hv : gnT w (gun fw' s p) (gun lf' s l') s' = gnT w fw' lf' s' := by
                unfold gnT
                rw [gun_ne _ e, gun_ne _ e]
              rw [hv]
              exact ⟨⟨k, q1, q2, by rw [hcg s' k (by omega) a0 q2]; exact q3⟩, fun i i1 i2 => by rw [hcg s' i (by omega) a0 i2]; exact q4 i i1 i2⟩
    · obtain ⟨⟨k, k1, k2, k3⟩, k4⟩ := hb.2 s' h0 hs'
      exact gMin.up ⟨⟨k, k1, k2, by rw [gun_ne _ (by omega)]; exact k3⟩, fun i i1 i2 => by rw [gun_ne _ (by omega)]; exact k4 i i1 i2⟩ hs'
  obtain ⟨q, eq, hq1, hq2, hq3⟩ := hmain
  exact ⟨q.1, q.2, eq, hq1, hq2, hq3⟩
/-- one more to pack: both take it, or neither -/
theorem g_pack {c w pg l n : Nat} {ln T pk : Nat → Nat} {gx gm : gz_S} (hw : w ≤ 60) (hpg : pg ≤ 8) (hl : 1 ≤ l ∧ l ≤ 60) (hn : n < 61) (h16 : gm.1 16 0 n = nI l) (hH : gHp c w pg ln T pk gx) (hM : gMp c w ln pk gm) : ∃ gx' gm', gfr ghx gx gx' ∧ gfr gmx gm gm' ∧ gm'.2.2 = gm.2.2 ∧ ((f_X7_take (nI n) (nI l) gx = some (1, gx') ∧ f_X11_packs (nI n) (nI pg) (nI w) gm = some (1, gm') ∧ c < 12 ∧ ∃ T', gHp (c + 1) w pg (gun ln c l) T' (gun pk c n) gx' ∧ gMp (c + 1) w (gun ln c l) (gun pk c n) gm') ∨ (f_X7_take (nI n) (nI l) gx = some (0, gx') ∧ f_X11_packs (nI n) (nI pg) (nI w) gm = some (0, gm') ∧ gHp c w pg ln T pk gx' ∧ gMp c w ln pk gm')) := by
  have hc := hH.1
  have hlk : ∀ k, k < c → 1 ≤ ln k ∧ ln k ≤ w := fun k hk => ⟨(hH.2.2.2.2.2.1 k hk).2.1, (hH.2.2.2.2.2.1 k hk).2.2.1⟩
  obtain ⟨r, gx', e1, f1, h1⟩ := x_take (n := n) hw hpg hl hH
  obtain ⟨r', gm', e2, f2, f22, h2⟩ := m_packs (n := n) hw hpg hl hn h16 hM
  refine ⟨gx', gm', f1, f2, f22, ?_⟩
  rcases h1 with ⟨rfl, c1, l1, T1, b1, p1, H1⟩ | ⟨rfl, H1, q1⟩
  · rcases h2 with ⟨rfl, c2, l2, T2, b2, p2, M2⟩ | ⟨rfl, M2, q2⟩
    · exact Or.inl ⟨e1, e2, c1, T1, H1, M2⟩
    · exfalso
      rcases q2 with q | q | ⟨T2, b2, p2⟩
      · omega
      · omega
      · have := gTb.uniq (by omega) b1 b2 (2 ^ (c + 1) - 1) (by have := Nat.two_pow_pos (c + 1); omega)
        rw [this] at p1
        omega
  · rcases h2 with ⟨rfl, c2, l2, T2, b2, p2, M2⟩ | ⟨rfl, M2, q2⟩
    · exfalso
      rcases q1 with q | q | q | ⟨T1, b1, p1⟩
      · omega
      · omega
      · have hv := gTb.vol (by omega) (by omega) b2 (fun k hk => by
          by_cases e : k = c
          · subst e
            rw [gun_e]
            omega
          · rw [gun_ne _ e]
            exact hlk k (by omega)) (2 ^ (c + 1) - 1) (by have := Nat.two_pow_pos (c + 1); omega)
        rw [gtt_full (c + 1) (Nat.le_refl _)] at hv
        have hs : gsm' (gun ln c l) (c + 1) = gsm' ln c + l := by
          show gsm' (gun ln c l) c + gun ln c l c = _
          rw [gun_e, gsm'_cg c (fun k hk => gun_ne ln (show k ≠ c by omega))]
        rw [hs] at hv
        have hm : (T2 (2 ^ (c + 1) - 1) / 64) * w ≤ pg * w := Nat.mul_le_mul_right w p2
        omega
      · have := gTb.uniq (by omega) b1 b2 (2 ^ (c + 1) - 1) (by have := Nat.two_pow_pos (c + 1); omega)
        rw [this] at p1
        omega
    · exact Or.inr ⟨e1, e2, H1, M2⟩
