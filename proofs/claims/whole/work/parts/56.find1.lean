/-! names found by older names -/
theorem gn_8 (n k : Nat) : (8 : Int32) * nI n + nI k = nI (8 * n + k) := by
  rw [show (8 : Int32) * nI n = nI (8 * n) from pk_mul 8 n, nI_add]
theorem gs_ff_congr {w w' : Nat → Bool} {e : Nat} : ∀ d, d ≤ e → (∀ j, d ≤ j → j < e → w' j = w j) → gs_ff w' e d = gs_ff w e d := by
  have h : ∀ n d, e - d = n → d ≤ e → (∀ j, d ≤ j → j < e → w' j = w j) → gs_ff w' e d = gs_ff w e d := by
    intro n
    induction n with
    | zero =>
      intro d h1 h2 _
      have : d = e := by omega
      subst this
      rw [gs_ff_e, gs_ff_e]
    | succ n ih =>
      intro d h1 h2 h3
      rw [gs_ff_s (w := w') (e := e) (d := d) (by omega), gs_ff_s (w := w) (e := e) (d := d) (by omega), h3 d (Nat.le_refl _) (by omega), ih (d + 1) (by omega) (by omega) (fun j k1 k2 => h3 j (by omega) k2)]
  intro d
  exact h _ d rfl
theorem gs_ff_lt {w : Nat → Bool} {e d : Nat} (hd : d ≤ e) : gs_ff w e d < e ↔ ∃ j, d ≤ j ∧ j < e ∧ w j = true := by
  have h1 := gs_ff_spec (w := w) hd
  have h2 := gs_ff_le (w := w) hd
  constructor
  · intro h
    exact ⟨_, h2.1, h, h1.1 h⟩
  · rintro ⟨j, a, b, c⟩
    by_cases hlt : gs_ff w e d < e
    · exact hlt
    · have := h1.2 j a (by omega)
      rw [c] at this
      cases this
def gmb (A : Nat → Int64) (c : Nat) (u : Int64) : Bool := decide (gs_ff (fun i => decide (A i = u)) c 0 < c)
theorem gmb_iff {A : Nat → Int64} {c : Nat} {u : Int64} : gmb A c u = true ↔ ∃ i, i < c ∧ A i = u := by
  unfold gmb
  rw [decide_eq_true_eq, gs_ff_lt (Nat.zero_le _)]
  constructor
  · rintro ⟨j, -, h1, h2⟩
    exact ⟨j, h1, by simpa using h2⟩
  · rintro ⟨j, h1, h2⟩
    exact ⟨j, Nat.zero_le _, h1, by simpa using h2⟩
theorem gs_cn_more {w w' : Nat → Bool} {d : Nat} (h : ∀ j, w j = true → w' j = true) (h0 : w d = false) (h1 : w' d = true) : ∀ n i, (gs_cn w n i ≤ gs_cn w' n i) ∧ (i ≤ d → d < i + n → gs_cn w n i + 1 ≤ gs_cn w' n i) := by
  intro n
  induction n with
  | zero => intro i; exact ⟨Nat.le_refl _, fun a b => by omega⟩
  | succ n ih =>
    intro i
    have hi := ih (i + 1)
    have hs : (if w i = true then 1 else 0) ≤ (if w' i = true then 1 else 0) := by
      by_cases e : w i = true
      · rw [if_pos e, if_pos (h i e)]
        exact Nat.le_refl 1
      · rw [if_neg e]
        omega
    constructor
    · show (if w i = true then 1 else 0) + gs_cn w n (i + 1) ≤ (if w' i = true then 1 else 0) + gs_cn w' n (i + 1)
      have := hi.1
      omega
    · intro a b
      show (if w i = true then 1 else 0) + gs_cn w n (i + 1) + 1 ≤ (if w' i = true then 1 else 0) + gs_cn w' n (i + 1)
      by_cases e : i = d
      · subst e
        rw [h0, h1]
        have := hi.1
        rw [if_neg (by decide), if_pos rfl]
        omega
      · have := hi.2 (by omega) (by omega)
        omega
theorem gs_cn_all {w : Nat → Bool} {d n : Nat} (hd : d < n) (h : n ≤ gs_cn w n 0) : w d = true := by
  cases h0 : w d with
  | true => rfl
  | false =>
    have h1 := (gs_cn_more (w := w) (w' := fun _ => true) (d := d) (fun _ _ => rfl) h0 rfl n 0).2 (by omega) (by omega)
    have h2 := gs_cn_le (fun _ => true) n 0
    omega
/-- what comes to be found, from u on -/
def gRch (N : Nat) (ac : Nat → Bool) (o nw : Nat → Int64) (u w : Int64) : Prop := ∀ S : Int64 → Prop, S u → (∀ n, n < N → ac n = true → S (nw n) → S (o n)) → S w
def gJn (N : Nat) (ac : Nat → Bool) (o nw : Nat → Int64) (u : Int64) (A : Nat → Int64) (c : Nat) : Prop := 1 ≤ c ∧ A 0 = u ∧ (∀ i, i < c → gRch N ac o nw u (A i)) ∧ c ≤ 1 + gs_cn (fun n => gmb A c (o n)) N 0
def gCl (N : Nat) (ac : Nat → Bool) (o nw : Nat → Int64) (A : Nat → Int64) (c : Nat) : Prop := ∀ n, n < N → ac n = true → gmb A c (nw n) = true → gmb A c (o n) = true
theorem gJn.le {N : Nat} {ac : Nat → Bool} {o nw : Nat → Int64} {u : Int64} {A : Nat → Int64} {c : Nat} (h : gJn N ac o nw u A c) : c ≤ N + 1 := by
  have := gs_cn_le (fun n => gmb A c (o n)) N 0
  have := h.2.2.2
  omega
theorem gJn.fin {N : Nat} {ac : Nat → Bool} {o nw : Nat → Int64} {u : Int64} {A : Nat → Int64} {c : Nat} (h : gJn N ac o nw u A c) (hc : gCl N ac o nw A c) (w : Int64) : gmb A c w = true ↔ gRch N ac o nw u w := by
  constructor
  · intro hw
    obtain ⟨i, hi, e⟩ := gmb_iff.mp hw
    rw [← e]
    exact h.2.2.1 i hi
  · intro hw
    exact hw (fun w => gmb A c w = true) (gmb_iff.mpr ⟨0, h.1, h.2.1⟩) hc
theorem gJn.full {N : Nat} {ac : Nat → Bool} {o nw : Nat → Int64} {u : Int64} {A : Nat → Int64} {c : Nat} (h : gJn N ac o nw u A c) (hc : N + 1 ≤ c) : gCl N ac o nw A c := by
  intro n hn _ _
  have := h.2.2.2
  exact gs_cn_all (w := fun n => gmb A c (o n)) hn (by omega)
theorem gmb_add {A A' : Nat → Int64} {c : Nat} {v w : Int64} (hA : ∀ j, j < c → A' j = A j) (h : gmb A c w = true) : gmb A' (c + 1) w = true := by
  obtain ⟨i, hi, e⟩ := gmb_iff.mp h
  exact gmb_iff.mpr ⟨i, by omega, by rw [hA i hi]; exact e⟩
theorem gJn.add {N : Nat} {ac : Nat → Bool} {o nw : Nat → Int64} {u : Int64} {A A' : Nat → Int64} {c n : Nat} (h : gJn N ac o nw u A c) (hn : n < N) (ha : ac n = true) (h1 : gmb A c (nw n) = true) (h2 : gmb A c (o n) = false) (hA : ∀ j, j < c → A' j = A j) (hA' : A' c = o n) : c ≤ N ∧ gJn N ac o nw u A' (c + 1) := by
  have hmore := (gs_cn_more (w := fun n => gmb A c (o n)) (w' := fun n => gmb A' (c + 1) (o n)) (d := n) (fun j hj => gmb_add (v := o n) hA hj) h2 (gmb_iff.mpr ⟨c, by omega, hA'⟩) N 0).2 (by omega) (by omega)
  have hle := gs_cn_le (fun n => gmb A' (c + 1) (o n)) N 0
  have h4 := h.2.2.2
  have h1' := h.1
  refine ⟨by omega, by omega, by rw [hA 0 (by omega)]; exact h.2.1, fun i hi => ?_, by omega⟩
  by_cases e : i = c
  · subst e
    rw [hA']
    intro S s0 s1
    obtain ⟨j, hj, ej⟩ := gmb_iff.mp h1
    have := h.2.2.1 j hj S s0 s1
    rw [ej] at this
    exact s1 n hn ha this
  · rw [hA i (by omega)]
    exact h.2.2.1 i (by omega)
theorem gJn.start {N : Nat} {ac : Nat → Bool} {o nw : Nat → Int64} {u : Int64} {A : Nat → Int64} (h : A 0 = u) : gJn N ac o nw u A 1 := ⟨by omega, h, fun i hi => by
  have : i = 0 := by omega
  subst this
  intro S s0 _
  rw [h]
  exact s0, by omega⟩
def gpf (t _ k : Nat) : Bool := (Nat.ble 12 t && Nat.ble t 13) || (Nat.beq t 10 && (Nat.beq k 3 || Nat.beq k 5))
theorem x_isName {c : Nat} (hc : c ≤ 61) {σ : gz_S} (h3 : σ.1 10 0 3 = nI c) (u : Int64) : f_X1_isName u σ = some (if gmb (σ.2.1 12 0) c u = true then 1 else 0, σ) := by
  unfold f_X1_isName
  have := gs_sc (F := f_X1_isName_L2 u) (fun i => decide (σ.2.1 12 0 i = u)) c (fun d => some (if d < c then 1 else 0, σ)) σ (fun rec d hd => ?_) (fun rec => ?_) gz_fu 0 (by omega) (by show c - 0 < 20000; omega)
  · rw [show (0 : Int32) = nI 0 from rfl, this]
    unfold gmb
    simp only [decide_eq_true_eq]
    rfl
  · unfold f_X1_isName_L2
    rw [h3, if_neg (nI_ge hd (by omega)), gz_ix_nI (show d < 61 by omega) (by decide), nI_1]
    by_cases e : σ.2.1 12 0 d = u
    · rw [if_pos ((lg_cmp_eq _ _).mpr e), if_pos (by simpa using e), if_pos hd]
      rfl
    · rw [if_neg (fun q => e ((lg_cmp_eq _ _).mp q)), if_neg (by simpa using e)]
  · unfold f_X1_isName_L2
    rw [h3, if_pos (nI_le (Nat.le_refl _) (by omega)), if_neg (Nat.lt_irrefl _)]
    rfl
theorem x_addOlder {N : Nat} (hN : N ≤ 60) {w : Nat → Bool} {o nw : Nat → Int64} {u : Int64} {kn : Int32} {σ : gz_S} {c : Nat} (h1 : σ.1 10 0 1 = nI N) (hk : ∀ n, n < N → ∀ g, gfr gpf σ g → f_X6_isKnown n kn g = some (if w n = true then 1 else 0, g)) (ho : ∀ n, n < N → σ.2.1 14 n 11 = o n ∧ σ.2.1 14 n 12 = nw n ∧ (o n = 0 ↔ nw n = 0)) (h3 : σ.1 10 0 3 = nI c) (hJ : gJn N (fun n => w n && decide (o n ≠ 0)) o nw u (σ.2.1 12 0) c) : gp (f_X1_addOlderNames kn σ) (fun q => gfr gpf σ q.2 ∧ ∃ c', q.2.1 10 0 3 = nI c' ∧ gJn N (fun n => w n && decide (o n ≠ 0)) o nw u (q.2.2.1 12 0) c' ∧ ((q.1 = 0 ∧ gCl N (fun n => w n && decide (o n ≠ 0)) o nw (q.2.2.1 12 0) c') ∨ (q.1 = 1 ∧ c < c'))) := by
  unfold f_X1_addOlderNames
  rw [gz_v_e, gz_j0_e]
  refine gp_l1 (fun v g m => ∃ n c', v = nI n ∧ n ≤ N ∧ m = N - n ∧ gfr gpf σ g ∧ g.1 10 0 3 = nI c' ∧ c ≤ c' ∧ gJn N (fun n => w n && decide (o n ≠ 0)) o nw u (g.2.1 12 0) c' ∧ (c' = c → ∀ j, j < n → (w j && decide (o j ≠ 0)) = true → gmb (g.2.1 12 0) c' (nw j) = true → gmb (g.2.1 12 0) c' (o j) = true)) ?_ gz_fu N 0 σ (by show N < 20000; omega) ⟨0, c, rfl, by omega, by omega, gfr.rf, h3, Nat.le_refl _, hJ, fun _ j hj => by omega⟩
  rintro rec m v g ⟨n, c', rfl, hn, rfl, hf, g3, hcc, hJ', hcl⟩ ih
  have hc' := hJ'.le
  have hend : gCl N (fun n => w n && decide (o n ≠ 0)) o nw (g.2.1 12 0) c' ∨ c' ≠ c → gp (f_X1_addOlderNames_J108 (σ.1 10 0 3) g) (fun q => gfr gpf σ q.2 ∧ ∃ c', q.2.1 10 0 3 = nI c' ∧ gJn N (fun n => w n && decide (o n ≠ 0)) o nw u (q.2.2.1 12 0) c' ∧ ((q.1 = 0 ∧ gCl N (fun n => w n && decide (o n ≠ 0)) o nw (q.2.2.1 12 0) c') ∨ (q.1 = 1 ∧ c < c'))) := by
    intro hor
    unfold f_X1_addOlderNames_J108
    rw [g3, h3]
    by_cases e : c' ≤ c
    · refine gp_pos (nI_le e (by omega)) ⟨_, rfl, hf, c', g3, hJ', Or.inl ⟨rfl, ?_⟩⟩
      rcases hor with q | q
      · exact q
      · exact absurd (show c' = c by omega) q
    · exact gp_neg (nI_ge (by omega) (by omega)) ⟨_, rfl, hf, c', g3, hJ', Or.inr ⟨rfl, by omega⟩⟩
  unfold f_X1_addOlderNames_L7
  have g1 : g.1 10 0 1 = nI N := ((hf 10 0 1 rfl).1).trans h1
  rw [g1]
  by_cases he : n = N
  · subst he
    refine gp_pos (nI_le (Nat.le_refl _) (by omega)) (hend ?_)
    by_cases e : c' = c
    · exact Or.inl (fun j hj ha hb => hcl e j hj ha hb)
    · exact Or.inr e
  · have hnN : n < N := by omega
    refine gp_neg (nI_ge hnN (by omega)) ?_
    rw [g3]
    by_cases hfull : 61 ≤ c'
    · exact gp_pos ((gn_ge 61 (a := c')).mpr hfull) (hend (Or.inl (hJ'.full (by omega))))
    · refine gp_neg (fun q => hfull ((gn_ge 61 (a := c')).mp q)) ?_
      rw [gz_ix_nI (show n < 61 by omega) (by decide), gz_j0_e]
      have e11 : g.2.1 14 n 11 = o n := ((hf 14 n 11 rfl).2).trans (ho n hnN).1
      have e12 : g.2.1 14 n 12 = nw n := ((hf 14 n 12 rfl).2).trans (ho n hnN).2.1
      have hJ102 : ((w n && decide (o n ≠ 0)) = true → gmb (g.2.1 12 0) c' (nw n) = true → gmb (g.2.1 12 0) c' (o n) = true) → gp (f_X1_addOlderNames_J102 (nI n) rec g) (fun q => gfr gpf σ q.2 ∧ ∃ c', q.2.1 10 0 3 = nI c' ∧ gJn N (fun n => w n && decide (o n ≠ 0)) o nw u (q.2.2.1 12 0) c' ∧ ((q.1 = 0 ∧ gCl N (fun n => w n && decide (o n ≠ 0)) o nw (q.2.2.1 12 0) c') ∨ (q.1 = 1 ∧ c < c'))) := by
        intro hx
        unfold f_X1_addOlderNames_J102
        rw [nI_1]
        refine ih _ _ (N - (n + 1)) (by omega) ⟨n + 1, c', rfl, by omega, rfl, hf, g3, hcc, hJ', fun e j hj ha hb => ?_⟩
        by_cases ej : j = n
        · subst ej
          exact hx ha hb
        · exact hcl e j (by omega) ha hb
      rw [e12]
      by_cases hz : nw n = 0
      · refine gp_pos ((lg_cmp_eq _ _).mpr hz) (hJ102 (fun ha => ?_))
        have := (ho n hnN).2.2.mpr hz
        rw [this] at ha
        simp at ha
      · refine gp_neg (fun q => hz ((lg_cmp_eq _ _).mp q)) ?_
        rw [hk n hnN g hf, gz_call_e]
        by_cases hw : w n = true
        · rw [if_pos hw]
          refine gp_neg (by decide) ?_
          rw [e12, x_isName (show c' ≤ 61 by omega) g3, gz_call_e]
          by_cases hm : gmb (g.2.1 12 0) c' (nw n) = true
          · rw [if_pos hm]
            refine gp_neg (by decide) ?_
            rw [e11, x_isName (show c' ≤ 61 by omega) g3, gz_call_e]
            have hac : (fun n => w n && decide (o n ≠ 0)) n = true := by
              have : o n ≠ 0 := fun q => hz ((ho n hnN).2.2.mp q)
              simp [hw, this]
            by_cases hm2 : gmb (g.2.1 12 0) c' (o n) = true
            · rw [if_pos hm2]
              exact gp_neg (by decide) (hJ102 (fun _ _ => hm2))
            · rw [if_neg hm2]
              refine gp_pos rfl ?_
              rw [g3, gz_ix_nI (show c' < 61 by omega) (by decide), gz_w_e, gz_w_e, e11]
              have hA := hJ'.add (A' := fun j => if j = c' then o n else g.2.1 12 0 j) hnN hac hm (by simpa using hm2) (fun j hj => if_neg (by omega)) (if_pos rfl)
              unfold f_X1_addOlderNames_J102
              rw [nI_1]
              refine ih _ _ (N - (n + 1)) (by omega) ⟨n + 1, c' + 1, rfl, by omega, rfl, (hf.sj rfl).si rfl, ?_, by omega, ?_, fun e => by omega⟩
              · rw [gz_si_1, if_pos ⟨rfl, rfl, rfl⟩]
                show g.1 10 0 3 + 1 = _
                rw [g3, nI_1]
              · have e : (fun j => if j = c' then o n else g.2.1 12 0 j) = (gz_si (gz_sj g 12 0 c' (o n)) 10 0 3 ((gz_sj g 12 0 c' (o n)).1 10 0 3 + 1)).2.1 12 0 := by
                  funext j
                  show _ = (if 12 = 12 ∧ 0 = 0 ∧ j = c' then o n else g.2.1 12 0 j)
                  simp only [true_and]
                rw [← e]
                exact hA.2
          · rw [if_neg hm]
            exact gp_pos rfl (hJ102 (fun _ hb => absurd hb hm))
        · rw [if_neg hw]
          refine gp_pos rfl (hJ102 (fun ha => ?_))
          rw [show w n = false by simpa using hw] at ha
          cases ha
theorem x_gather {N : Nat} (hN : N ≤ 60) {w : Nat → Bool} {o nw : Nat → Int64} {u : Int64} {kn : Int32} {σ : gz_S} (h1 : σ.1 10 0 1 = nI N) (hk : ∀ n, n < N → ∀ g, gfr gpf σ g → f_X6_isKnown n kn g = some (if w n = true then 1 else 0, g)) (ho : ∀ n, n < N → σ.2.1 14 n 11 = o n ∧ σ.2.1 14 n 12 = nw n ∧ (o n = 0 ↔ nw n = 0)) : gp (f_X1_gatherNames u kn σ) (fun g => gfr gpf σ g ∧ ∃ c, c ≤ 61 ∧ g.1 10 0 3 = nI c ∧ ∀ v, gmb (g.2.1 12 0) c v = true ↔ gRch N (fun n => w n && decide (o n ≠ 0)) o nw u v) := by
  unfold f_X1_gatherNames
  rw [show gz_ix (0 : Int32) 61 = gz_ix (nI 0) 61 from rfl, gz_ix_nI (show 0 < 61 by omega) (by decide), gz_w_e, gz_w_e]
  refine gp_l2 (fun v4 v5 g m => ∃ i c, v5 = nI i ∧ i ≤ 61 ∧ m = 61 - i ∧ gfr gpf σ g ∧ g.1 10 0 3 = nI c ∧ gJn N (fun n => w n && decide (o n ≠ 0)) o nw u (g.2.1 12 0) c ∧ ((v4 = 0 ∧ gCl N (fun n => w n && decide (o n ≠ 0)) o nw (g.2.1 12 0) c) ∨ (v4 = 1 ∧ i + 1 ≤ c))) ?_ gz_fu 61 1 0 _ (by show 61 < 20000; omega) ⟨0, 1, rfl, by omega, by omega, (gfr.rf.sj rfl).si rfl, rfl, gJn.start rfl, Or.inr ⟨rfl, by omega⟩⟩
  rintro rec m v4 v5 g ⟨i, c, rfl, hi, rfl, hf, g3, hJ, hv⟩ ih
  have hc := hJ.le
  have hend : gCl N (fun n => w n && decide (o n ≠ 0)) o nw (g.2.1 12 0) c → gp (some g) (fun g => gfr gpf σ g ∧ ∃ c, c ≤ 61 ∧ g.1 10 0 3 = nI c ∧ ∀ v, gmb (g.2.1 12 0) c v = true ↔ gRch N (fun n => w n && decide (o n ≠ 0)) o nw u v) := fun hcl => ⟨g, rfl, hf, c, by omega, g3, hJ.fin hcl⟩
  unfold f_X1_gatherNames_L18
  by_cases h61 : 60 < i
  · refine gp_pos ((gn_gt 60 (a := i)).mpr h61) (hend ?_)
    rcases hv with ⟨-, q⟩ | ⟨-, q⟩
    · exact q
    · omega
  · refine gp_neg (fun q => h61 ((gn_gt 60 (a := i)).mp q)) ?_
    rcases hv with ⟨rfl, q⟩ | ⟨rfl, q⟩
    · exact gp_pos rfl (hend q)
    · refine gp_neg (by decide) ?_
      obtain ⟨⟨r, g'⟩, e, hf', c', g3', hJ', hor⟩ := x_addOlder (kn := kn) (σ := g) hN (((hf 10 0 1 rfl).1).trans h1) (fun n hn g' hg' => hk n hn g' (hf.tr hg')) (fun n hn => ⟨((hf 14 n 11 rfl).2).trans (ho n hn).1, ((hf 14 n 12 rfl).2).trans (ho n hn).2.1, (ho n hn).2.2⟩) g3 hJ
      rw [e, gz_call_e, nI_1]
      refine ih _ _ _ (61 - (i + 1)) (by omega) ⟨i + 1, c', rfl, by omega, rfl, hf.tr hf', g3', hJ', ?_⟩
      rcases hor with ⟨a, b⟩ | ⟨a, b⟩
      · exact Or.inl ⟨a, b⟩
      · exact Or.inr ⟨a, by omega⟩
/-! the list of what was found -/
def gfl (h : Nat → Bool) : Nat → Nat → Int32
  | 0 => fun _ => 0
  | n + 1 => if h n = true then (fun j => if j = gs_cn h n 0 then nI n else gfl h n j) else gfl h n
theorem x_hasName {n f s c : Nat} (hs : s ≤ 8) (hc : c ≤ 61) {σ : gz_S} (h3 : σ.1 10 0 3 = nI c) (h6 : σ.1 6 f 1 = nI s) : f_X1_hasName n f σ = some (if gs_ff (fun k => decide (σ.1 8 (8 * f + k) 1 = 2) && gmb (σ.2.1 12 0) c (σ.2.1 15 n k)) s 0 < s then 1 else 0, σ) := by
  unfold f_X1_hasName
  have := gs_sc (F := f_X1_hasName_L2 f n) (fun k => decide (σ.1 8 (8 * f + k) 1 = 2) && gmb (σ.2.1 12 0) c (σ.2.1 15 n k)) s (fun d => some (if d < s then 1 else 0, σ)) σ (fun rec d hd => ?_) (fun rec => ?_) gz_fu 0 (by omega) (by show s - 0 < 20000; omega)
  · exact this
  · unfold f_X1_hasName_L2
    rw [h6, if_neg (nI_ge hd (by omega)), gz_ix_nI (show d < 8 by omega) (by decide), gz_j0_e, gz_ix_nI (show d < 8 by omega) (by decide), x_isName hc h3, gz_call_e]
    unfold f_X1_hasName_J38
    rw [nI_1]
    by_cases e : σ.1 8 (8 * f + d) 1 = 2
    · rw [if_pos e]
      by_cases e2 : gmb (σ.2.1 12 0) c (σ.2.1 15 n d) = true
      · rw [if_pos e2, if_neg (by decide), if_pos (by simp [e, e2]), if_pos hd]
        rfl
      · rw [if_neg e2, if_pos rfl, if_neg (by simp [e2])]
    · rw [if_neg e, if_neg (by simp [e])]
  · unfold f_X1_hasName_L2
    rw [h6, if_pos (nI_le (Nat.le_refl _) (by omega)), if_neg (Nat.lt_irrefl _)]
    rfl
theorem x_search {N P c : Nat} (hN : N ≤ 60) (hP : P ≤ 12) {w h : Nat → Bool} {fo : Nat → Nat} {kn : Int32} {σ : gz_S} (hc : c ≤ 61) (h3 : σ.1 10 0 3 = nI c) (h1 : σ.1 10 0 1 = nI N) (hk : ∀ n, n < N → ∀ g, gfr gpf σ g → f_X6_isKnown n kn g = some (if w n = true then 1 else 0, g)) (hfo : ∀ n, n < N → σ.1 14 n 0 = nI (fo n) ∧ fo n < P) (hs : ∀ f, f < P → ∃ s, s ≤ 8 ∧ σ.1 6 f 1 = nI s) (hh : ∀ n s, n < N → σ.1 6 (fo n) 1 = nI s → s ≤ 8 → h n = (w n && decide (gs_ff (fun k => decide (σ.1 8 (8 * fo n + k) 1 = 2) && gmb (σ.2.1 12 0) c (σ.2.1 15 n k)) s 0 < s))) : gp (f_X1_search kn σ) (fun g => gfr gpf σ g ∧ g.1 10 0 5 = nI (gs_cn h N 0) ∧ ∀ j, j < gs_cn h N 0 → g.1 13 0 j = gfl h N j) := by
  unfold f_X1_search
  rw [gz_w_e]
  refine gp_l1 (fun v g m => ∃ n, v = nI n ∧ n ≤ N ∧ m = N - n ∧ gfr gpf σ g ∧ g.1 10 0 3 = nI c ∧ g.2.1 12 0 = σ.2.1 12 0 ∧ g.1 10 0 5 = nI (gs_cn h n 0) ∧ ∀ j, j < gs_cn h n 0 → g.1 13 0 j = gfl h n j) ?_ gz_fu N 0 _ (by show N < 20000; omega) ⟨0, rfl, by omega, by omega, gfr.rf.si rfl, h3, rfl, rfl, fun j hj => absurd hj (Nat.not_lt_zero _)⟩
  rintro rec m v g ⟨n, rfl, hn, rfl, hf, g3, g12, g5, gl⟩ ih
  have hcn := gs_cn_le h n 0
  unfold f_X1_search_L7
  have g1 : g.1 10 0 1 = nI N := ((hf 10 0 1 rfl).1).trans h1
  rw [g1]
  by_cases he : n = N
  · subst he
    exact gp_pos (nI_le (Nat.le_refl _) (by omega)) ⟨_, rfl, hf, g5, gl⟩
  · have hnN : n < N := by omega
    refine gp_neg (nI_ge hnN (by omega)) ?_
    rw [g5]
    refine gp_neg (fun q => by have := (gn_ge 60 (a := gs_cn h n 0)).mp q; omega) ?_
    obtain ⟨hf1, hf2⟩ := hfo n hnN
    obtain ⟨s, hs8, hs1⟩ := hs (fo n) hf2
    have ghas := x_hasName (n := n) (f := fo n) (σ := g) hs8 hc g3 (((hf 6 (fo n) 1 rfl).1).trans hs1)
    have e8 : g.1 8 = σ.1 8 := funext fun a => funext fun b => (hf 8 a b rfl).1
    have e15 : g.2.1 15 = σ.2.1 15 := funext fun a => funext fun b => (hf 15 a b rfl).2
    rw [g12, e8, e15] at ghas
    have hhn := hh n s hnN hs1 hs8
    have e14 : g.1 14 n 0 = nI (fo n) := ((hf 14 n 0 rfl).1).trans hf1
    rw [gz_ix_nI (show n < 61 by omega) (by decide), hk n hnN g hf, gz_call_e, gz_j0_e]
    have hno : h n = false → gp (f_X1_search_J90 (nI n) rec g) (fun g => gfr gpf σ g ∧ g.1 10 0 5 = nI (gs_cn h N 0) ∧ ∀ j, j < gs_cn h N 0 → g.1 13 0 j = gfl h N j) := by
      intro hx
      unfold f_X1_search_J90
      rw [nI_1]
      have ec : gs_cn h (n + 1) 0 = gs_cn h n 0 := by
        rw [gs_cn_last, Nat.zero_add, hx]
        rfl
      have el : gfl h (n + 1) = gfl h n := if_neg (by rw [hx]; decide)
      exact ih _ _ (N - (n + 1)) (by omega) ⟨n + 1, rfl, by omega, rfl, hf, g3, g12, by rw [ec]; exact g5, by rw [ec, el]; exact gl⟩
    by_cases hw : w n = true
    · rw [if_pos hw]
      refine gp_neg (by decide) ?_
      rw [e14]
      refine gp_neg (fun q => by have := (gn_ge 13 (a := fo n)).mp q; omega) ?_
      rw [gz_ix_nI (show fo n < 13 by omega) (by decide), ghas, gz_call_e]
      by_cases hx : gs_ff (fun k => decide (σ.1 8 (8 * fo n + k) 1 = 2) && gmb (σ.2.1 12 0) c (σ.2.1 15 n k)) s 0 < s
      · rw [if_pos hx]
        refine gp_neg (by decide) ?_
        have hxn : h n = true := by rw [hhn]; simp [hw, hx]
        rw [g5, gz_ix_nI (show gs_cn h n 0 < 60 by omega) (by decide), gz_w_e, gz_w_e]
        unfold f_X1_search_J90
        rw [nI_1]
        have ec : gs_cn h (n + 1) 0 = gs_cn h n 0 + 1 := by
          rw [gs_cn_last, Nat.zero_add, hxn]
          rfl
        have el : gfl h (n + 1) = (fun j => if j = gs_cn h n 0 then nI n else gfl h n j) := if_pos hxn
        refine ih _ _ (N - (n + 1)) (by omega) ⟨n + 1, rfl, by omega, rfl, (hf.si rfl).si rfl, g3, g12, ?_, ?_⟩
        · rw [gz_si_1, if_pos ⟨rfl, rfl, rfl⟩]
          show g.1 10 0 5 + 1 = _
          rw [g5, nI_1, ec]
        · rw [ec, el]
          intro j hj
          show (if 13 = 13 ∧ 0 = 0 ∧ j = gs_cn h n 0 then nI n else g.1 13 0 j) = if j = gs_cn h n 0 then nI n else gfl h n j
          by_cases ej : j = gs_cn h n 0
          · rw [if_pos ⟨rfl, rfl, ej⟩, if_pos ej]
          · rw [if_neg (fun q => ej q.2.2), if_neg ej]
            exact gl j (by omega)
      · rw [if_neg hx]
        exact gp_pos rfl (hno (by rw [hhn]; simp [hx]))
    · rw [if_neg hw]
      exact gp_pos rfl (hno (by rw [hhn]; simp [hw]))
