theorem gy_dc0 {v : Value} (h : gy_dc v = 0) : v = .int 0 := by
  cases v <;> simp [gy_dc] at h
  · rw [h]
  · split at h <;> cases h
theorem gy_dc1 {v : Value} (h : gy_dc v = 1) : v = .long 0 := by
  cases v <;> simp [gy_dc] at h
  · split at h <;> cases h
  · rw [h]
theorem gy_dc2 {v : Value} (h : gy_dc v = 2) : v = .null := by
  cases v <;> simp [gy_dc] at h
  · split at h <;> cases h
  · split at h <;> cases h
  · rfl
/-- a cell by its tag -/
theorem gy_tagx {t i : Nat} (h : i < gz_ct false 0 t) : gz_ao false t i < 639 ∧ t < 31 ∧ gy_ck (gz_ao false t i) = gz_kd false t ∧ (∀ j, gy_fk (gz_ao false t i) j = gz_fk false t j) ∧ gy_ix (gz_ao false t i) = i := by
  have h1 : i < gz_ctx.getD t 0 := h
  have ht := gz_ctx_lt h1
  have hl := gl_aox h
  have e := gz_inv_x t ht i h1
  have e2 : gz_inv.getD (gz_ao false t i) (0, 0) = (t, i) := by simp [List.getD, e]
  refine ⟨hl, ht, ?_, fun j => ?_, ?_⟩
  · unfold gy_ck
    rw [if_pos hl, e2]
  · unfold gy_fk
    rw [if_pos hl, e2]
  · unfold gy_ix
    rw [if_pos hl, e2]
theorem gy_tagm {t i : Nat} (h : i < gz_ct true 0 t) : gz_ao true t i = 639 + t ∧ t < 44 ∧ i = 0 ∧ gy_ck (gz_ao true t i) = gz_kd true t ∧ (∀ j, gy_fk (gz_ao true t i) j = gz_fk true t j) ∧ gy_ix (gz_ao true t i) = 0 := by
  have h44 : t ≠ 44 := by
    rintro rfl
    exact absurd h (Nat.not_lt_zero _)
  have h1 : i < gz_ctm.getD t 0 := by
    simpa [gz_ct, h44] using h
  obtain ⟨ht, hi⟩ := gz_ctm_lt h1
  have ha : gz_ao true t i = 639 + t := by simp [gz_ao, h44]
  have hn : ¬ 639 + t < 639 := by omega
  refine ⟨ha, ht, hi, ?_, fun j => ?_, ?_⟩
  · unfold gy_ck
    rw [ha, if_neg hn, Nat.add_sub_cancel_left]
  · unfold gy_fk
    rw [ha, if_neg hn, Nat.add_sub_cancel_left]
  · unfold gy_ix
    rw [ha, if_neg hn]
theorem gy_tag {b : Bool} {t i : Nat} (h : i < gz_ct b 0 t) : gz_ao b t i < 683 ∧ gy_okt b t = true ∧ gy_ck (gz_ao b t i) = gz_kd b t ∧ (∀ j, gy_fk (gz_ao b t i) j = gz_fk b t j) ∧ gy_ix (gz_ao b t i) = i := by
  cases b with
  | false =>
    obtain ⟨h1, h2, h3, h4, h5⟩ := gy_tagx h
    exact ⟨by omega, gy_okx t h2, h3, h4, h5⟩
  | true =>
    obtain ⟨h1, h2, h3, h4, h5, h6⟩ := gy_tagm h
    exact ⟨by omega, gy_okm t h2, h4, h5, h6.trans h3.symm⟩
/-- where -1 stands -/
theorem gy_spec {b : Bool} {t i j : Nat} (h : i < gz_ct b 0 t) : (gz_s0 b).1 t i j = if (gz_ao b t i = 0 ∧ j = 7) ∨ (gz_ao b t i = 639 ∧ (j = 2 ∨ j = 4 ∨ j = 31)) then (-1 : Int32) else 0 := by
  cases b with
  | false =>
    have hl := (gy_tagx h).1
    have e : (gz_ao false t i = 0) = (t = 0) := by
      apply propext
      constructor
      · intro q
        exact (gz_inj (b := false) (n := 0) (t := t) (i := i) (t' := 0) (i' := 0) h Nat.zero_lt_one q).1
      · intro q
        subst q
        have h1 : i < 1 := h
        have : i = 0 := by omega
        subst this
        rfl
    have e2 : (gz_ao false t i = 639) = False := by
      apply propext
      constructor
      · intro q; omega
      · intro q; cases q
    simp [gz_s0, gz_s0x, e, e2]
  | true =>
    obtain ⟨h1, -⟩ := gy_tagm h
    have e : (gz_ao true t i = 0) = False := by
      apply propext
      constructor
      · intro q; omega
      · intro q; cases q
    have e2 : (gz_ao true t i = 639) = (t = 0) := by
      apply propext
      constructor
      · intro q; omega
      · intro q; omega
    simp [gz_s0, gz_s0m, e, e2]
theorem gy_s0j (b : Bool) (t i j : Nat) : (gz_s0 b).2.1 t i j = 0 := by cases b <;> rfl
theorem gy_full (G : gz_G) {k j : Nat} (hk : k < 683) (hj : j < gy_nf k) : gy_v G (683, gy_mask 683) k j = gy_va G k j (gy_co k j) := by
  unfold gy_v
  have h1 := gy_bits k hk j hj
  have h2 : j < 64 := Nat.lt_trans hj (gy_nf64 k hk)
  by_cases h0 : gy_co k j = 0
  · rw [h0]
    split <;> rfl
  · rw [if_pos ⟨h2, by show (gy_mask 683).testBit _ = true; rw [h1]; simp [h0]⟩]
theorem gy_prim (G : gz_G) {k j : Nat} {ρ : gy_S} {q : Nat × Nat} (hc : gy_ck k = .inr q) (hq : q.1 < 4) : gy_v G ρ k j = defaultValue (gz_aty q.1) := by
  have h0 : gy_co k j = 0 := by
    unfold gy_co
    rw [hc]
    simp only
    split <;> first | omega | rfl
  have h1 : gy_df k j = defaultValue (gz_aty q.1) := by
    unfold gy_df
    rw [hc]
  unfold gy_v
  rw [h0]
  split
  · exact h1
  · exact h1
theorem gy_fv {b : Bool} {G : gz_G} {t i j : Nat} {q : Nat × Nat} (h : i < gz_ct b 0 t) (hk : gz_kd b t = .inl q) (hj : j < q.2) : gy_va G (gz_ao b t i) j (gy_co (gz_ao b t i) j) = gz_fv b G (gz_s0 b) t i j := by
  obtain ⟨h1, h2, h3, h4, h5⟩ := gy_tag h
  have hc : gy_ck (gz_ao b t i) = .inl q := h3.trans hk
  have hd : gy_dc (gy_df (gz_ao b t i) j) = gy_fc (gz_fk b t j) := by
    unfold gy_okt at h2
    rw [hk] at h2
    have h6 := (List.all_eq_true.mp h2) j (List.mem_range.mpr hj)
    have h7 : gy_df (gz_ao b t i) j = defaultValue (gz_tyc q.1 j) := by
      unfold gy_df
      rw [hc]
    rw [h7]
    exact eq_of_beq h6
  have hco : gy_co (gz_ao b t i) j = match gz_fk b t j with
      | 0 => if (gz_ao b t i = 0 ∧ j = 7) ∨ (gz_ao b t i = 639 ∧ (j = 2 ∨ j = 4 ∨ j = 31)) then 1 else 0
      | 1 => 0
      | 2 => 0
      | n + 3 => gz_ao b n i + 2 := by
    have e : ∀ n, (if gz_ao b t i < 639 then gz_ao false n i else gz_ao true n i) = gz_ao b n i := by
      intro n
      cases b with
      | false => rw [if_pos (gy_tagx h).1]
      | true => rw [if_neg (by have := (gy_tagm h).1; omega)]
    conv => lhs; unfold gy_co
    rw [hc]
    simp only [h4, h5]
    generalize gz_fk b t j = n
    match n with
    | 0 => rfl
    | 1 => rfl
    | 2 => rfl
    | n + 3 =>
      show (if _ then _ else _) + 2 = _
      rw [e]
  rw [hco]
  unfold gz_fv
  rw [gy_spec h, gy_s0j]
  generalize gz_fk b t j = n at hd ⊢
  match n, hd with
  | 0, hd =>
    have := gy_dc0 hd
    simp only
    split
    · rfl
    · exact this
  | 1, hd => exact gy_dc1 hd
  | 2, hd => exact gy_dc2 hd
  | n + 3, _ => rfl
theorem gy_arrc {cI : ClassId} {N : Nat} {f g : Nat → Value} (h : ∀ j, j < N → f j = g j) : arrV cI N f = arrV cI N g := by
  have e : (fun j : Fin N => f j.val) = (fun j : Fin N => g j.val) := funext fun j => h j.val j.isLt
  unfold arrV
  rw [e]
theorem gy_noref : ∀ t, t < 44 → (match gz_kd true t with
  | .inl _ => true
  | .inr q => decide (q.1 < 4)) = true := by decide +kernel
theorem gy_co_arr {k j : Nat} {q : Nat × Nat} (hc : gy_ck k = .inr q) : (q.1 = 4 → gy_co k j = gz_ao false 8 (8 * gy_ix k + j) + 2) ∧ (q.1 = 5 → gy_co k j = gz_ao false 6 j + 2) ∧ (q.1 = 6 → gy_co k j = gz_ao false 20 j + 2) ∧ (q.1 = 7 → gy_co k j = gz_ao false 14 j + 2) := by
  unfold gy_co
  rw [hc]
  obtain ⟨a, b⟩ := q
  refine ⟨fun h => ?_, fun h => ?_, fun h => ?_, fun h => ?_⟩ <;> (simp only at h; subst h; rfl)
theorem gy_done {b : Bool} {G : gz_G} {H : Heap} (hH : gy_H G (683, gy_mask 683) H) : gz_H b G (gz_s0 b) H := by
  have hn : (gz_s0 b).2.2 = 0 := by cases b <;> rfl
  refine ⟨fun t i hi => ?_, fun hb => by rw [hn, hH.1]; rfl⟩
  rw [hn] at hi
  obtain ⟨h1, h2, h3, h4, h5⟩ := gy_tag hi
  have hc := hH.2 _ h1
  unfold gy_ce at hc
  rw [h3] at hc
  cases hk : gz_kd b t with
  | inl q =>
    rw [hk] at hc
    refine t_OB.to hc (fun j hj => ?_)
    rw [gy_full G h1 (by unfold gy_nf; rw [h3, hk]; exact hj)]
    exact gy_fv hi hk hj
  | inr q =>
    rw [hk] at hc
    show H[gz_ad b G t i]? = some (arrV _ _ _)
    have hc' : H[G.1 + gz_ao b t i]? = some (arrV (G.2.2.2.1 q.1) q.2 (gy_v G (683, gy_mask 683) (gz_ao b t i))) := hc
    rw [show gz_ad b G t i = G.1 + gz_ao b t i from rfl, hc']
    congr 1
    refine gy_arrc (fun j hj => ?_)
    by_cases h8 : q.1 < 4
    · rw [gy_prim G (h3.trans hk) h8]
      unfold gz_ev
      have hz : (gz_s0 b).1 t i j = 0 := by
        rw [gy_spec hi, if_neg]
        intro hq
        have hc0 : gy_ck 0 = .inl (9, 11) := by decide +kernel
        have hc1 : gy_ck 639 = .inl (11, 63) := by decide +kernel
        rcases hq with hq | hq
        · have h9 := h3
          rw [hq.1, hc0, hk] at h9
          cases h9
        · have h9 := h3
          rw [hq.1, hc1, hk] at h9
          cases h9
      rw [hz, gy_s0j]
      have hq : q.1 = 0 ∨ q.1 = 1 ∨ q.1 = 2 ∨ q.1 = 3 := by omega
      rcases hq with hq | hq | hq | hq <;> rw [hq] <;> rfl
    · have hb : b = false := by
        cases b with
        | false => rfl
        | true =>
          exfalso
          have ht := (gy_tagm hi).2.1
          have := gy_noref t ht
          rw [hk] at this
          simp at this
          omega
      subst hb
      rw [gy_full G h1 (by unfold gy_nf; rw [h3, hk]; simp only; rw [if_neg h8]; exact hj)]
      have h9 : q.1 < 8 := by
        unfold gy_okt at h2
        rw [hk] at h2
        exact of_decide_eq_true h2
      have hq : q.1 = 4 ∨ q.1 = 5 ∨ q.1 = 6 ∨ q.1 = 7 := by omega
      have hco := gy_co_arr (j := j) (h3.trans hk)
      rw [h5] at hco
      rcases hq with hq | hq | hq | hq
      · rw [hco.1 hq, hq]; rfl
      · rw [hco.2.1 hq, hq]; rfl
      · rw [hco.2.2.1 hq, hq]; rfl
      · rw [hco.2.2.2 hq, hq]; rfl
def gy_fi {α : Type} (b1 b3 : Nat) (ρ : gy_S) (z : Option α) : Option α := if b1 = 0 ∧ b3 = 639 ∧ ρ = (683, gy_mask 683) then z else none
def f_law0 {α : Type} (z : Option α) : Option α := gy_nw (0 + 683) (.inl (9, 11)) (0, 0) (fun b1 u1 => gy_cl (0 + 683) 638 u1 (f_X9_init b1 u1) (fun u2 => gy_nw (0 + 683) (.inl (11, 63)) u2 (fun b3 u3 => gy_cl (0 + 683) 43 u3 (f_X11_init b3 u3) (fun u4 => gy_fi b1 b3 u4 z))))
theorem f_law0_eq {α : Type} (z : Option α) : f_law0 z = z := by
  have hc0 : gy_ck 0 = .inl (9, 11) := by decide +kernel
  have hc1 : gy_ck 639 = .inl (11, 63) := by decide +kernel
  unfold f_law0
  unfold gy_nw
  rw [if_pos ⟨by decide, hc0, by decide⟩]
  simp only [Nat.zero_add]
  rw [gy_evx]
  unfold gy_cl
  simp only
  rw [if_pos (by decide)]
  rw [if_pos ⟨by decide, hc1, gy_m1⟩]
  rw [gy_evm]
  simp only
  rw [if_pos (by decide)]
  unfold gy_fi
  rw [if_pos ⟨rfl, rfl, rfl⟩]
theorem ck_RL_7 : Cond.classLink R_law 7 RX9 ∈ lw_tbl := gz_in 22 (by decide +kernel)
theorem ck_RL_10 : Cond.classLink R_law 10 RX11 ∈ lw_tbl := gz_in 860 (by decide +kernel)
theorem cin_9 : Cond.instantiable RX9 11 ∈ lw_tbl := gz_in 23 (by decide +kernel)
theorem cin_11 : Cond.instantiable RX11 63 ∈ lw_tbl := gz_in 861 (by decide +kernel)
theorem cii_9 : Cond.initialized RX9 ∈ lw_tbl := gz_in 1 (by decide +kernel)
theorem cii_11 : Cond.initialized RX11 ∈ lw_tbl := gz_in 11 (by decide +kernel)
theorem ml_RL_9 : Cond.methodLink R_law 9 yX9_init ∈ lw_tbl := gz_in 24 (by decide +kernel)
theorem ml_RL_12 : Cond.methodLink R_law 12 yX11_init ∈ lw_tbl := gz_in 862 (by decide +kernel)
theorem mw_X9_init : gz_mw yX9_init cX9_init 2 none 0 := ⟨gz_in 26 (by decide +kernel), gz_in 1 (by decide +kernel), by decide, by decide +kernel⟩
theorem mi_X9_init : Cond.instanceMethod yX9_init ∈ lw_tbl := gz_in 25 (by decide +kernel)
theorem mw_X11_init : gz_mw yX11_init cX11_init 1 none 0 := ⟨gz_in 864 (by decide +kernel), gz_in 11 (by decide +kernel), by decide, by decide +kernel⟩
theorem mi_X11_init : Cond.instanceMethod yX11_init ∈ lw_tbl := gz_in 863 (by decide +kernel)
