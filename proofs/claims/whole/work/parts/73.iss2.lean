/-! issues: the house packs -/
theorem x_laidOn {w a l : Nat} {σ : gz_S} (hw : w ≤ 60) (hl : l ≤ 60) (ha : a < 2 ^ 20) (h6 : σ.1 22 0 6 = nI w) : f_X7_laidOn (nI a) (nI l) σ = some (nI (gld w a l), σ) := by
  unfold f_X7_laidOn gld
  rw [h6, show nI a &&& 63 = nI (a % 64) from pk_andN (n := a) (by omega) 6 (by decide), nI_add, show nI a >>> ((6 : Int32) &&& 31) = nI (a / 64) from pk_shrN (by omega) _ 6 (by decide), nI_1, show nI (a / 64 + 1) <<< ((6 : Int32) &&& 31) = nI ((a / 64 + 1) * 64) from pk_shlN _ 6 (by decide) (by omega), nI_add, nI_add]
  by_cases h : w < a % 64 + l
  · rw [if_pos (nI_lt h (by omega)), if_pos h]
  · rw [if_neg (nI_nlt (by omega) (by omega)), if_neg h]
theorem x_minN {a b : Nat} {σ : gz_S} (ha : a < 2 ^ 31) (hb : b < 2 ^ 31) : f_J9_min_7cf53 (nI a) (nI b) σ = some (nI (min a b), σ) := x_min b (a := a) (σ := σ) ha hb
def gInv (k w : Nat) (ln T : Nat → Nat) (s m : Nat) : Prop := (m = 2147483647 ∧ ∀ j, j < k → s.testBit j = false) ∨ gMin k w ln T s m
theorem x_bestOf {c w s : Nat} {ln T : Nat → Nat} {σ : gz_S} (hc : c < 12) (hw : w ≤ 60) (hs : s < 4096) (h3 : σ.1 22 0 3 = nI c) (h6 : σ.1 22 0 6 = nI w) (hT : ∀ k, k ≤ c → s.testBit k = true → σ.1 23 0 (s - 2 ^ k) = nI (T (s - 2 ^ k)) ∧ T (s - 2 ^ k) ≤ (c + 1) * 64 + 60) (hl : ∀ k, k ≤ c → σ.1 25 0 k = nI (ln k) ∧ ln k ≤ w) (hb : s.testBit c = true) : ∃ m, f_X7_bestOf (nI s) σ = some (nI m, σ) ∧ gMin (c + 1) w ln T s m := by
  have key : ∀ n k fuel m, k + n = c + 1 → n < fuel → m < 2 ^ 31 → gInv k w ln T s m → ∃ m', gz_l2 (f_X7_bestOf_L5 (nI s)) fuel (nI m) (nI k) σ = some (nI m', σ) ∧ gInv (c + 1) w ln T s m' := by
    intro n
    induction n with
    | zero =>
      intro k fuel m hk hf hm hI
      obtain ⟨fuel, rfl⟩ : ∃ q, fuel = q + 1 := ⟨fuel - 1, by omega⟩
      have : k = c + 1 := by omega
      subst this
      refine ⟨m, ?_, hI⟩
      rw [gz_l2_s]
      unfold f_X7_bestOf_L5
      rw [h3, if_pos (nI_lt (by omega) (by omega))]
    | succ n ih =>
      intro k fuel m hk hf hm hI
      obtain ⟨fuel, rfl⟩ : ∃ q, fuel = q + 1 := ⟨fuel - 1, by omega⟩
      have ih' := fun m => ih (k + 1) fuel m (by omega) (by omega)
      rw [gz_l2_s]
      generalize gz_l2 (f_X7_bestOf_L5 (nI s)) fuel = rc at ih' ⊢
      unfold f_X7_bestOf_L5 f_X7_bestOf_J52
      rw [h3, if_neg (nI_nlt (show k ≤ c by omega) (by omega)), if_neg (fun q => by have := (gn_ge 12 (a := k)).mp q; omega), gz_j1_e, nI_1]
      cases htb : s.testBit k with
      | false =>
        rw [if_pos ((g_bit hs (by omega)).mpr htb)]
        refine ih' m hm ?_
        rcases hI with ⟨q1, q2⟩ | ⟨⟨j, j1, j2, j3⟩, q2⟩
        · exact Or.inl ⟨q1, fun j hj => by
            by_cases e : j = k
            · subst e
              exact htb
            · exact q2 j (by omega)⟩
        · exact Or.inr ⟨⟨j, by omega, j2, j3⟩, fun j hj hb => by
            by_cases e : j = k
            · subst e
              rw [htb] at hb
              cases hb
            · exact q2 j (by omega) hb⟩
      | true =>
        rw [if_neg (fun q => by have := (g_bit hs (by omega : k < 12)).mp q; rw [htb] at this; cases this)]
        obtain ⟨x1, x2⟩ := g_xor hs (by omega : k < 12) htb
        obtain ⟨p1, -, p3⟩ := g_2k k (by omega)
        have h2k : 0 < 2 ^ k := Nat.two_pow_pos k
        obtain ⟨t1, t2⟩ := hT k (by omega) htb
        obtain ⟨l1, l2⟩ := hl k (by omega)
        have hgl := gld_le (w := w) (a := T (s - 2 ^ k)) (l := ln k) (c := c + 1) hw l2 t2
        rw [p1, g_nxor hs p3, x1, gz_ix_nI (show s - 2 ^ k < 4096 by omega) (by decide), gz_ix_nI (show k < 12 by omega) (by decide), t1, l1, x_laidOn hw (by omega) (by omega) h6, gz_call_e, x_minN hm (by omega), gz_call_e]
        refine ih' _ (by omega) (Or.inr ?_)
        rcases hI with ⟨q1, q2⟩ | ⟨⟨j, j1, j2, j3⟩, q2⟩
        · refine ⟨⟨k, by omega, htb, by omega⟩, fun j hj hb => ?_⟩
          by_cases e : j = k
          · subst e
            omega
          · rw [q2 j (by omega)] at hb
            cases hb
        · by_cases hle : m ≤ gld w (T (s - 2 ^ k)) (ln k)
          · rw [Nat.min_eq_left hle]
            refine ⟨⟨j, by omega, j2, j3⟩, fun i hi hb => ?_⟩
            by_cases e : i = k
            · subst e
              exact hle
            · exact q2 i (by omega) hb
          · rw [Nat.min_eq_right (by omega)]
            refine ⟨⟨k, by omega, htb, rfl⟩, fun i hi hb => ?_⟩
            by_cases e : i = k
            · subst e
              exact Nat.le_refl _
            · have := q2 i (by omega) hb
              omega
  obtain ⟨m, e, hI⟩ := key (c + 1) 0 gz_fu 2147483647 (by omega) (by show c + 1 < 20000; omega) (by decide) (Or.inl ⟨rfl, fun j hj => by omega⟩)
  refine ⟨m, e, ?_⟩
  rcases hI with ⟨-, q2⟩ | q
  · rw [q2 c (by omega)] at hb
    cases hb
  · exact q
def ghx (t _ _ : Nat) : Bool := Nat.ble 22 t && Nat.ble t 25
/-- what the house has packed -/
def gHp (c w pg : Nat) (ln T pk : Nat → Nat) (gx : gz_S) : Prop := c ≤ 12 ∧ gx.1 22 0 3 = nI c ∧ gx.1 22 0 4 = nI (gsm' ln c) ∧ gx.1 22 0 5 = nI pg ∧ gx.1 22 0 6 = nI w ∧ (∀ k, k < c → gx.1 25 0 k = nI (ln k) ∧ 1 ≤ ln k ∧ ln k ≤ w ∧ gx.1 24 0 k = nI (pk k)) ∧ gTb c w ln T ∧ ∀ s, s < 2 ^ c → gx.1 23 0 s = nI (T s) ∧ T s ≤ c * 64 + 60
theorem gsm'_le {ln : Nat → Nat} {w : Nat} : ∀ n, (∀ k, k < n → ln k ≤ w) → gsm' ln n ≤ n * w := by
  intro n
  induction n with
  | zero => intro _; exact Nat.zero_le _
  | succ n ih =>
    intro h
    show gsm' ln n + ln n ≤ (n + 1) * w
    have := ih (fun k hk => h k (by omega))
    have := h n (by omega)
    rw [Nat.succ_mul]
    omega
theorem x_take {c w pg l n : Nat} {ln T pk : Nat → Nat} {gx : gz_S} (hw : w ≤ 60) (hpg : pg ≤ 8) (hl : 1 ≤ l ∧ l ≤ 60) (h : gHp c w pg ln T pk gx) : ∃ r gx', f_X7_take (nI n) (nI l) gx = some (r, gx') ∧ gfr ghx gx gx' ∧ ((r = 1 ∧ c < 12 ∧ l ≤ w ∧ ∃ T', gTb (c + 1) w (gun ln c l) T' ∧ T' (2 ^ (c + 1) - 1) / 64 ≤ pg ∧ gHp (c + 1) w pg (gun ln c l) T' (gun pk c n) gx') ∨ (r = 0 ∧ gHp c w pg ln T pk gx' ∧ (c = 12 ∨ w < l ∨ pg * w < gsm' ln c + l ∨ ∃ T', gTb (c + 1) w (gun ln c l) T' ∧ pg < T' (2 ^ (c + 1) - 1) / 64))) := by
  obtain ⟨hc, h3, h4, h5, h6, hk, hT, hs⟩ := h
  have hsum := gsm'_le (ln := ln) (w := w) c (fun k hk' => (hk k hk').2.2.1)
  have hsum2 : gsm' ln c ≤ 720 := Nat.le_trans hsum (Nat.le_trans (Nat.mul_le_mul hc hw) (by decide))
  have hpw : pg * w ≤ 480 := Nat.le_trans (Nat.mul_le_mul hpg hw) (by decide)
  unfold f_X7_take
  rw [h3]
  by_cases hc12 : c = 12
  · rw [if_pos ((gn_ge 12 (a := c)).mpr (by omega))]
    exact ⟨0, gx, rfl, gfr.rf, Or.inr ⟨rfl, ⟨hc, h3, h4, h5, h6, hk, hT, hs⟩, Or.inl hc12⟩⟩
  rw [if_neg (fun q => by have := (gn_ge 12 (a := c)).mp q; omega), h6]
  by_cases hwl : w < l
  · rw [if_pos (nI_lt hwl (by omega))]
    exact ⟨0, gx, rfl, gfr.rf, Or.inr ⟨rfl, ⟨hc, h3, h4, h5, h6, hk, hT, hs⟩, Or.inr (Or.inl hwl)⟩⟩
  rw [if_neg (nI_nlt (by omega) (by omega)), h4, h5, nI_add, show nI pg * nI w = nI (pg * w) from pk_mul pg w]
  by_cases hvol : pg * w < gsm' ln c + l
  · rw [if_neg (nI_ge hvol (by omega))]
    exact ⟨0, gx, rfl, gfr.rf, Or.inr ⟨rfl, ⟨hc, h3, h4, h5, h6, hk, hT, hs⟩, Or.inr (Or.inr (Or.inl hvol))⟩⟩
  rw [if_pos (nI_le (by omega) (by omega)), gz_ix_nI (show c < 12 by omega) (by decide), gz_w_e]
  obtain ⟨p1, -, p3⟩ := g_2k c (by omega)
  have e3 : (gz_si gx 25 0 c (nI l)).1 22 0 3 = nI c := h3
  rw [e3, p1, gz_v_e, gz_j0_e]
  have hpow : 2 ^ (c + 1) = 2 * 2 ^ c := by rw [Nat.pow_succ, Nat.mul_comm]
  have hpos : 0 < 2 ^ c := Nat.two_pow_pos c
  have e2v : (2 : Int32) * nI (2 ^ c) = nI (2 ^ (c + 1)) := by rw [hpow]; exact pk_mul 2 (2 ^ c)
  have hpl : 2 ^ (c + 1) ≤ 4096 := g_c12 (by omega)
  have hmain : gp (gz_l1 (f_X7_take_L57 (nI (2 ^ c)) (f_X7_take_J84 (nI (2 ^ c)) (nI n) (nI l))) gz_fu (nI (2 ^ c)) (gz_si gx 25 0 c (nI l))) (fun q => gfr ghx gx q.2 ∧ ((q.1 = 1 ∧ c < 12 ∧ l ≤ w ∧ ∃ T', gTb (c + 1) w (gun ln c l) T' ∧ T' (2 ^ (c + 1) - 1) / 64 ≤ pg ∧ gHp (c + 1) w pg (gun ln c l) T' (gun pk c n) q.2) ∨ (q.1 = 0 ∧ gHp c w pg ln T pk q.2 ∧ (c = 12 ∨ w < l ∨ pg * w < gsm' ln c + l ∨ ∃ T', gTb (c + 1) w (gun ln c l) T' ∧ pg < T' (2 ^ (c + 1) - 1) / 64)))) := by
    refine gp_l1 (fun v g m => ∃ j T', v = nI j ∧ 2 ^ c ≤ j ∧ j ≤ 2 ^ (c + 1) ∧ m = 2 ^ (c + 1) - j ∧ gfr ghx gx g ∧ g.1 22 0 3 = nI c ∧ g.1 22 0 4 = nI (gsm' ln c) ∧ g.1 22 0 5 = nI pg ∧ g.1 22 0 6 = nI w ∧ (∀ k, k < c → g.1 25 0 k = nI (ln k) ∧ g.1 24 0 k = nI (pk k)) ∧ g.1 25 0 c = nI l ∧ T' 0 = w ∧ (∀ s, 0 < s → s < j → gMin (c + 1) w (gun ln c l) T' s (T' s)) ∧ (∀ s, s < 2 ^ c → T' s = T s) ∧ ∀ s, s < j → g.1 23 0 s = nI (T' s) ∧ T' s ≤ (c + 1) * 64 + 60) ?_ gz_fu (2 ^ (c + 1) - 2 ^ c) (nI (2 ^ c)) _ (by show 2 ^ (c + 1) - 2 ^ c < 20000; omega) ⟨2 ^ c, T, rfl, Nat.le_refl _, by omega, rfl, gfr.rf.si rfl, h3, h4, h5, h6, fun k hkc => ⟨?_, (hk k hkc).2.2.2⟩, ?_, hT.1, fun s s0 ss => ?_, fun s _ => rfl, fun s ss => ⟨(hs s ss).1, by have := (hs s ss).2; omega⟩⟩
    · rintro rec m v g ⟨j, T', rfl, j1, j2, rfl, hf, g3, g4, g5, g6, gk, gc, T0, Tm, Tc, Tv⟩ ih
      unfold f_X7_take_L57
      rw [e2v]
      by_cases hj : j = 2 ^ (c + 1)
      · subst hj
        refine gp_pos (nI_le (Nat.le_refl _) (by omega)) ?_
        have hTb' : gTb (c + 1) w (gun ln c l) T' := ⟨T0, Tm⟩
        unfold f_X7_take_J84
        have e2m : nI (2 ^ (c + 1)) - 1 = nI (2 ^ (c + 1) - 1) := by
          obtain ⟨z, hz⟩ : ∃ z, 2 ^ (c + 1) = z + 1 := ⟨2 ^ (c + 1) - 1, by omega⟩
          rw [hz, gn_back]
          rfl
        obtain ⟨v1, v2⟩ := Tv (2 ^ (c + 1) - 1) (by omega)
        have hT12 : (c + 1) * 64 + 60 ≤ 828 := by omega
        rw [e2v, e2m, gz_ix_nI (show 2 ^ (c + 1) - 1 < 4096 by omega) (by decide), v1, show nI (T' (2 ^ (c + 1) - 1)) >>> ((6 : Int32) &&& 31) = nI (T' (2 ^ (c + 1) - 1) / 64) from pk_shrN (by omega) _ 6 (by decide), g5]
        by_cases hfit : T' (2 ^ (c + 1) - 1) / 64 ≤ pg
        · refine gp_pos (nI_le hfit (by omega)) ?_
          rw [g3, gz_ix_nI (show c < 12 by omega) (by decide), gz_w_e]
          have y4 : (gz_si g 24 0 c (nI n)).1 22 0 4 = nI (gsm' ln c) := g4
          rw [y4, nI_add, gz_w_e]
          have y3 : (gz_si (gz_si g 24 0 c (nI n)) 22 0 4 (nI (gsm' ln c + l))).1 22 0 3 = nI c := g3
          rw [y3, nI_1, gz_w_e]
          refine ⟨_, rfl, ((hf.si rfl).si rfl).si rfl, Or.inl ⟨rfl, by omega, by omega, T', hTb', hfit, by omega, ?_, ?_, g5, g6, fun k hkc => ?_, hTb', fun s ss => Tv s ss⟩⟩
          · rfl
          · show nI (gsm' ln c + l) = nI (gsm' (gun ln c l) (c + 1))
            show _ = nI (gsm' (gun ln c l) c + gun ln c l c)
            rw [gun_e, gsm'_cg c (fun k hk => gun_ne ln (show k ≠ c by omega))]
          · have hc24 : (gz_si (gz_si (gz_si g 24 0 c (nI n)) 22 0 4 (nI (gsm' ln c + l))) 22 0 3 (nI (c + 1))).1 24 0 k = if k = c then nI n else g.1 24 0 k := by
              show (if 24 = 24 ∧ 0 = 0 ∧ k = c then nI n else g.1 24 0 k) = _
              simp only [true_and]
            have hc25 : (gz_si (gz_si (gz_si g 24 0 c (nI n)) 22 0 4 (nI (gsm' ln c + l))) 22 0 3 (nI (c + 1))).1 25 0 k = g.1 25 0 k := rfl
            rw [hc24, hc25]
            by_cases e : k = c
            · subst e
              rw [if_pos rfl, gun_e, gun_e]
              exact ⟨gc, hl.1, by omega, rfl⟩
            · rw [if_neg e, gun_ne _ e, gun_ne _ e]
              exact ⟨(gk k (by omega)).1, (hk k (by omega)).2.1, (hk k (by omega)).2.2.1, (gk k (by omega)).2⟩
        · refine gp_neg (nI_ge (by omega) (by omega)) ⟨_, rfl, hf, Or.inr ⟨rfl, ⟨hc, g3, g4, g5, g6, fun k hkc => ⟨(gk k hkc).1, (hk k hkc).2.1, (hk k hkc).2.2.1, (gk k hkc).2⟩, hT, fun s ss => ?_⟩, Or.inr (Or.inr (Or.inr ⟨T', hTb', by omega⟩))⟩⟩
          rw [(Tv s (by omega)).1, Tc s ss]
          exact ⟨rfl, (hs s ss).2⟩
      · refine gp_neg (nI_ge (by omega) (by omega)) ?_
        have hjc : j.testBit c = true := by
          rw [Nat.testBit_eq_decide_div_mod_eq]
          have : j / 2 ^ c = 1 := by
            apply Nat.div_eq_of_lt_le
            · omega
            · omega
          rw [this]
          decide
        obtain ⟨m, em, hm⟩ := x_bestOf (c := c) (w := w) (s := j) (ln := gun ln c l) (T := T') (σ := g) (by omega) hw (by omega) g3 g6 (fun k hkc hb => by
          have hx := (g_xor (by omega) (by omega : k < 12) hb).2
          have : 0 < 2 ^ k := Nat.two_pow_pos k
          exact Tv (j - 2 ^ k) (by omega)) (fun k hkc => by
          by_cases e : k = c
          · subst e
            rw [gun_e]
            exact ⟨gc, by omega⟩
          · rw [gun_ne _ e]
            exact ⟨(gk k (by omega)).1, (hk k (by omega)).2.2.1⟩) hjc
        rw [em, gz_call_e, gz_ix_nI (show j < 4096 by omega) (by decide), gz_w_e, nI_1]
        have hmle : m ≤ (c + 1) * 64 + 60 := by
          have h1 := hm.2 c (by omega) hjc
          have h2 := gld_le (w := w) (a := T' (j - 2 ^ c)) (l := gun ln c l c) (c := c) hw (by rw [gun_e]; omega) (by
            rw [Tc (j - 2 ^ c) (by omega)]
            exact (hs _ (by omega)).2)
          omega
        have hcg : ∀ s k, s ≤ j → 0 < s → k < c + 1 → s.testBit k = true → (fun i => if i = j then m else T' i) (s - 2 ^ k) = T' (s - 2 ^ k) := fun s k s1 s2 _ hb => by
          have : 0 < 2 ^ k := Nat.two_pow_pos k
          exact if_neg (by omega)
        refine ih _ _ (2 ^ (c + 1) - (j + 1)) (by omega) ⟨j + 1, fun i => if i = j then m else T' i, rfl, by omega, by omega, rfl, hf.si rfl, g3, g4, g5, g6, gk, gc, ?_, fun s s0 ss => ?_, fun s ss => ?_, fun s ss => ?_⟩
        · show (if 0 = j then m else T' 0) = w
          rw [if_neg (by omega), T0]
        · by_cases e : s = j
          · subst e
            obtain ⟨⟨k, k1, k2, k3⟩, k4⟩ := hm
            show gMin _ _ _ _ _ (if s = s then m else T' s)
            rw [if_pos rfl]
            exact ⟨⟨k, k1, k2, by rw [hcg s k (Nat.le_refl _) s0 k1 k2]; exact k3⟩, fun i i1 i2 => by rw [hcg s i (Nat.le_refl _) s0 i1 i2]; exact k4 i i1 i2⟩
          · obtain ⟨⟨k, k1, k2, k3⟩, k4⟩ := Tm s s0 (by omega)
            show gMin _ _ _ _ _ (if s = j then m else T' s)
            rw [if_neg e]
            exact ⟨⟨k, k1, k2, by rw [hcg s k (by omega) s0 k1 k2]; exact k3⟩, fun i i1 i2 => by rw [hcg s i (by omega) s0 i1 i2]; exact k4 i i1 i2⟩
        · show (if s = j then m else T' s) = T s
          rw [if_neg (by omega)]
          exact Tc s ss
        · show (if 23 = 23 ∧ 0 = 0 ∧ s = j then nI m else g.1 23 0 s) = nI (if s = j then m else T' s) ∧ (if s = j then m else T' s) ≤ _
          by_cases e : s = j
          · rw [if_pos ⟨rfl, rfl, e⟩, if_pos e]
            exact ⟨rfl, hmle⟩
          · rw [if_neg (fun q => e q.2.2), if_neg e]
            exact Tv s (by omega)
    · rw [gz_si_1, if_neg (fun q => by have := q.2.2; omega)]
      exact (hk k hkc).1
    · rw [gz_si_1, if_pos ⟨rfl, rfl, rfl⟩]
    · have := hT.2 s s0 ss
      obtain ⟨⟨k, k1, k2, k3⟩, k4⟩ := this
      refine gMin.up ⟨⟨k, k1, k2, by rw [gun_ne _ (by omega)]; exact k3⟩, fun i i1 i2 => by rw [gun_ne _ (by omega)]; exact k4 i i1 i2⟩ ss
  obtain ⟨q, eq, hq⟩ := hmain
  exact ⟨q.1, q.2, eq, hq⟩
