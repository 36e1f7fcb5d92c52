/-! spans, limits, kinds -/
def gsx (i t i' k : Nat) : Bool := (Nat.beq t 3 && (Nat.ble 3 k && Nat.ble k 9)) || ((Nat.beq t 8 && (Nat.beq k 1 || Nat.beq k 3 || Nat.beq k 4)) && decide (i' = i))
def gsm (i t _ k : Nat) : Bool := (Nat.beq t 0 && (Nat.ble 16 k && Nat.ble k 20)) || Nat.beq t 6 || ((Nat.ble 9 t && Nat.ble t 11) && decide (k = i))
theorem gsx_w {i : Nat} : ∀ t i' k, gix i t i' k = false → gsx i t i' k = false := by
  intro t i' k h
  unfold gix at h
  unfold gsx
  simp only [gbq, gbl, Bool.or_eq_false_iff, Bool.and_eq_false_iff, decide_eq_false_iff_not] at h ⊢
  omega
theorem gsm_w {i : Nat} : ∀ t i' k, gim i t i' k = false → gsm i t i' k = false := by
  intro t i' k h
  unfold gim at h
  unfold gsm
  simp only [gbq, gbl, Bool.or_eq_false_iff, Bool.and_eq_false_iff, decide_eq_false_iff_not] at h ⊢
  omega
theorem gtx_wsx {i : Nat} : ∀ t i' k, gsx i t i' k = false → gtx t i' k = false := by
  intro t i' k h
  unfold gsx at h
  unfold gtx
  simp only [gbq, gbl, Bool.or_eq_false_iff, Bool.and_eq_false_iff, decide_eq_false_iff_not] at h ⊢
  omega
theorem gtm_wsm {i : Nat} : ∀ t i' k, gsm i t i' k = false → gtm t i' k = false := by
  intro t i' k h
  unfold gsm at h
  unfold gtm
  simp only [gbq, gbl, Bool.or_eq_false_iff, Bool.and_eq_false_iff, decide_eq_false_iff_not] at h ⊢
  omega
theorem gsx8 {i k : Nat} (h : k = 1 ∨ k = 3 ∨ k = 4) : gsx i 8 i k = true := by
  unfold gsx
  rcases h with rfl | rfl | rfl <;> simp [gbq]
theorem gsm9 {i t : Nat} (h : t = 9 ∨ t = 10 ∨ t = 11) : gsm i t 0 i = true := by
  unfold gsm
  rcases h with rfl | rfl | rfl <;> simp [gbq, gbl]
theorem rField.cg {x8 x8' : Nat → Nat → Int32} {y8 y8' y9 y9' : Nat → Nat → Int64} {m9 m9' m10 m10' m11 m11' m12 m12' : Nat → Int32} {m13 m13' m14 m14' : Nat → Int64} {i k : Nat} (h : rField x8 y8 y9 m9 m10 m11 m12 m13 m14 i k) (hx : ∀ j, x8' i j = x8 i j) (hy : y8' i 0 = y8 i 0) (hy9 : ∀ j, y9' i j = y9 i j) (h9 : m9' i = m9 i) (h10 : m10' i = m10 i) (h11 : m11' i = m11 i) (h12 : m12' i = m12 i) (h13 : m13' i = m13 i) (h14 : ∀ j, j < 4 → m14' (4 * i + j) = m14 (4 * i + j)) (hb : ∀ b, b < k → m9' (i - k + b) = m9 (i - k + b)) : rField x8' y8' y9' m9' m10' m11' m12' m13' m14' i k := by
  unfold rField at h ⊢
  rw [hy, hx 1, hx 2, hx 4, h13, h9, h12, h11, hx 3, hx 6, h10]
  obtain ⟨q0, q1, q2, q3, q4, kd, q5, q6, q7, q8, q9⟩ := h
  refine ⟨q0, q1, q2, q3, q4, kd, q5, q6, fun h3 => ?_, q8, fun h4 => ?_⟩
  · obtain ⟨w, w1, w2, w3, w4⟩ := q7 h3
    exact ⟨w, w1, w2, w3, fun j hj => by rw [hy9 j, h14 j (by omega)]; exact w4 j hj⟩
  · obtain ⟨b, v, kb, b1, b2, b3, b4, b5, b6⟩ := q9 h4
    exact ⟨b, v, kb, b1, b2, b3, b4, by rw [hb b b1]; exact b5, b6⟩
def gPv (P s : Nat) (gx gm : gz_S) : Prop := s ≤ 8 ∧ gx.1 6 P 1 = nI s ∧ gm.1 8 0 P = nI s ∧ ∀ k, k < s → rField (gx.1 8) (gx.2.1 8) (gx.2.1 9) (gm.1 9 0) (gm.1 10 0) (gm.1 11 0) (gm.1 12 0) (gm.2.1 13 0) (gm.2.1 14 0) (8 * P + k) k
theorem gPv.fr {P s i : Nat} {gx gm gx' gm' : gz_S} (h : gPv P s gx gm) (hi : 8 * P + s ≤ i) (hx : gfr (gix i) gx gx') (hm : gfr (gim i) gm gm') : gPv P s gx' gm' := by
  refine ⟨h.1, ((hx 6 P 1 rfl).1).trans h.2.1, ((hm 8 0 P rfl).1).trans h.2.2.1, fun k hk => ?_⟩
  have px : ∀ t j, t = 8 ∨ t = 9 → gix i t (8 * P + k) j = false := by
    intro t j ht
    unfold gix
    have : ¬ 8 * P + k = i := by omega
    rcases ht with rfl | rfl <;> simp [gbq, this]
  have pm : ∀ t, 9 ≤ t ∧ t ≤ 13 → ∀ j, j < i → gim i t 0 j = false := by
    intro t ht j hj
    unfold gim
    have h1 : ¬ j = i := by omega
    have h2 : ¬ t = 0 := by omega
    have h3 : ¬ t = 6 := by omega
    have h4 : ¬ t = 14 := by omega
    simp [gbq, h1, h2, h3, h4]
  refine (h.2.2.2 k hk).cg (fun j => (hx 8 (8 * P + k) j (px 8 j (Or.inl rfl))).1) (hx 8 (8 * P + k) 0 (px 8 0 (Or.inl rfl))).2 (fun j => (hx 9 (8 * P + k) j (px 9 j (Or.inr rfl))).2) (hm 9 0 _ (pm 9 (by omega) _ (by omega))).1 (hm 10 0 _ (pm 10 (by omega) _ (by omega))).1 (hm 11 0 _ (pm 11 (by omega) _ (by omega))).1 (hm 12 0 _ (pm 12 (by omega) _ (by omega))).1 (hm 13 0 _ (pm 13 (by omega) _ (by omega))).2 (fun j hj => ?_) (fun b hb => (hm 9 0 _ (pm 9 (by omega) _ (by omega))).1)
  refine (hm 14 0 _ ?_).2
  unfold gim
  have h1 : ¬ (4 * (8 * P + k) + j) / 4 = i := by omega
  simp [gbq, h1]
theorem gPv.kd {P s : Nat} {gx gm : gz_S} (h : gPv P s gx gm) {k : Nat} (hk : k < s) : gx.2.1 8 (8 * P + k) 0 = gm.2.1 13 0 (8 * P + k) ∧ ∃ kd, kd ≤ 5 ∧ gx.1 8 (8 * P + k) 1 = nI kd ∧ gm.1 9 0 (8 * P + k) = nI kd := by
  obtain ⟨q0, q1, q2, q3, q4, kd, q5, q6, q7, q8, q9⟩ := h.2.2.2 k hk
  exact ⟨q0, kd, q5, q1.trans q6, q6⟩
theorem x_hasDay {i kd : Nat} {σ : gz_S} (hk : kd ≤ 5) (h : σ.1 8 i 1 = nI kd) : f_X3_hasDay i σ = some (if kd = 1 ∨ 4 ≤ kd then 1 else 0, σ) := by
  unfold f_X3_hasDay
  rw [x_isSpan hk h, h, gz_call_e]
  by_cases h1 : kd = 1
  · rw [if_pos ((gn_eq 1 (a := kd)).mpr h1), if_pos (Or.inl h1)]
    rfl
  · rw [if_neg (fun q => h1 ((gn_eq 1 (a := kd)).mp q))]
    by_cases h4 : 4 ≤ kd
    · rw [if_pos h4, if_neg (by decide), if_pos (Or.inr h4)]
      rfl
    · rw [if_neg h4, if_pos rfl, if_neg (by omega)]
      rfl
def gSpn (P s i : Nat) (gx gm : gz_S) : Prop := ∃ kd v b kb, (kd = 4 ∨ kd = 5) ∧ gx.1 8 i 1 = nI kd ∧ gm.1 9 0 i = nI kd ∧ v ≤ 9999 ∧ gx.1 8 i 3 = nI v ∧ gm.1 10 0 i = nI v ∧ b < s ∧ gx.1 8 i 4 = nI b ∧ gm.1 11 0 i = nI b ∧ gm.1 9 0 (8 * P + b) = nI kb ∧ (kb = 1 ∨ kb = 4 ∨ kb = 5)
theorem g_span2 {e P s i : Nat} {b : Nat → Nat} {gx gm : gz_S} (hP : P < 13) (hs : s < 8) (hi : i = 8 * P + s) {kd v : Nat} (hkd : kd = 4 ∨ kd = 5) (hv : v ≤ 9999) (hF : gFs e b gx gm) (ha : gAt e gx gm) (hp : gPv P s gx gm) (h3 : gx.1 8 i 3 = nI v) (h10 : gm.1 10 0 i = nI v) : gPP (gsx i) (gsm i) (fun gx' gm' => gFs e b gx' gm' ∧ gSpn P s i gx' gm') gx gm (f_X4_readSpan_J71 i P (nI kd) gx) (f_X11_readSpan_J87 (nI P) (nI i) (nI i) (nI kd) gm) := by
  unfold f_X4_readSpan_J71 f_X11_readSpan_J87
  rw [gz_w_e, gz_ix_nI (show i < 104 by omega) (by decide), gz_w_e]
  have f1 : gfr (gsx i) gx (gz_si gx 8 i 1 (nI kd)) := gfr.rf.si (gsx8 (Or.inl rfl))
  have f2 : gfr (gsm i) gm (gz_si gm 9 0 i (nI kd)) := gfr.rf.si (gsm9 (Or.inl rfl))
  have hF1 : gFs e b (gz_si gx 8 i 1 (nI kd)) (gz_si gm 9 0 i (nI kd)) := hF.gm (gfr.rf.si rfl) (gfr.rf.si rfl)
  have ha1 : gAt e (gz_si gx 8 i 1 (nI kd)) (gz_si gm 9 0 i (nI kd)) := ha
  have k1 : (gz_si gx 8 i 1 (nI kd)).1 8 i 1 = nI kd := by rw [gz_si_1, if_pos ⟨rfl, rfl, rfl⟩]
  have k2 : (gz_si gm 9 0 i (nI kd)).1 9 0 i = nI kd := by rw [gz_si_1, if_pos ⟨rfl, rfl, rfl⟩]
  have k3 : (gz_si gx 8 i 1 (nI kd)).1 8 i 3 = nI v := by
    rw [gz_si_1, if_neg (fun q => by have := q.2.2; omega)]
    exact h3
  have k4 : (gz_si gm 9 0 i (nI kd)).1 10 0 i = nI v := h10
  generalize gz_si gx 8 i 1 (nI kd) = gx1 at f1 hF1 ha1 k1 k3 ⊢
  generalize gz_si gm 9 0 i (nI kd) = gm1 at f2 hF1 ha1 k2 k4 ⊢
  obtain ⟨gx2, gm2, e1, e2, g1, g2, hF2⟩ := g_next hF1 ha1
  rw [e1, gz_then_e, e2, gz_then_e]
  have f1' := f1.tr (g1.w gtx_wsx)
  have f2' := f2.tr (g2.w gtm_wsm)
  have hp2 := hp.fr (i := i) (by omega) (f1'.w gsx_w) (f2'.w gsm_w)
  rcases hF2.2.2.1.w with ⟨t1, t2, ha2, u, hu, v1, v2⟩ | ⟨t1, t2⟩
  · rw [if_pos t1, m_ns t2, gz_tcall_s, v1, v2, x_placeOf (nm := fun k => gm2.2.1 13 0 (8 * P + k)) hp2.1 hp2.2.1 (fun k hk => (hp2.kd hk).1), gz_call_e, m_fieldOf (nm := fun k => gm2.2.1 13 0 (8 * P + k)) hP hp2.1 hp2.2.2.1 (fun k hk => rfl), gz_call_e, gz_j0_e]
    rcases gfi_or (fun k => gm2.2.1 13 0 (8 * P + k)) s (lN u) with ⟨r1, -⟩ | ⟨bb, hbb, r1, -⟩
    · rw [r1, if_pos rfl, if_pos rfl, x_fail, gz_call_e]
      exact ⟨gfa gx2 2, gst gm2 2, f1'.tr (gfa_fr rfl rfl), f2'.tr (gst_fr rfl rfl), Or.inr ⟨rfl, rfl, hF2.fl (by decide)⟩⟩
    · obtain ⟨-, kb, hkb, c1, c2⟩ := hp2.kd hbb
      rw [r1, if_neg (gn_ne1 (by omega)), if_neg (gn_ne1 (by omega)), gz_ix_nI (show bb < 8 by omega) (by decide), x_hasDay hkb c1, gz_call_e, gn_8]
      simp only [gz_ix_nI (show 8 * P + bb < 104 by omega) (show 104 < 2 ^ 31 by decide), c2, gz_ix_nI (show i < 104 by omega) (show 104 < 2 ^ 31 by decide), gz_w_e]
      have fin : kb = 1 ∨ 4 ≤ kb → gPP (gsx i) (gsm i) (fun gx' gm' => gFs e b gx' gm' ∧ gSpn P s i gx' gm') gx gm (gz_then (f_X8_step (gz_si gx2 8 i 4 (nI bb))) (fun σ19 => some ((1 : Int32) &&& 1, σ19))) (gz_then (f_X11_next (gz_si gm2 11 0 i (nI bb))) (fun σ30 => some (some (), σ30))) := by
        intro hor
        have f3 : gfr (gsx i) gx (gz_si gx2 8 i 4 (nI bb)) := f1'.si (gsx8 (Or.inr (Or.inr rfl)))
        have f4 : gfr (gsm i) gm (gz_si gm2 11 0 i (nI bb)) := f2'.si (gsm9 (Or.inr (Or.inr rfl)))
        have hF3 : gFs e b (gz_si gx2 8 i 4 (nI bb)) (gz_si gm2 11 0 i (nI bb)) := hF2.gm (gfr.rf.si rfl) (gfr.rf.si rfl)
        have ha3 : gAt e (gz_si gx2 8 i 4 (nI bb)) (gz_si gm2 11 0 i (nI bb)) := ha2
        have n1 : (gz_si gx2 8 i 4 (nI bb)).1 8 i 4 = nI bb := by rw [gz_si_1, if_pos ⟨rfl, rfl, rfl⟩]
        have n2 : (gz_si gm2 11 0 i (nI bb)).1 11 0 i = nI bb := by rw [gz_si_1, if_pos ⟨rfl, rfl, rfl⟩]
        have n3 : (gz_si gx2 8 i 4 (nI bb)).1 8 i 1 = nI kd := by
          rw [gz_si_1, if_neg (fun q => by have := q.2.2; omega)]
          exact ((g1 8 i 1 rfl).1).trans k1
        have n4 : (gz_si gx2 8 i 4 (nI bb)).1 8 i 3 = nI v := by
          rw [gz_si_1, if_neg (fun q => by have := q.2.2; omega)]
          exact ((g1 8 i 3 rfl).1).trans k3
        have n5 : (gz_si gm2 11 0 i (nI bb)).1 9 0 i = nI kd := ((g2 9 0 i rfl).1).trans k2
        have n6 : (gz_si gm2 11 0 i (nI bb)).1 10 0 i = nI v := ((g2 10 0 i rfl).1).trans k4
        have n7 : (gz_si gm2 11 0 i (nI bb)).1 9 0 (8 * P + bb) = nI kb := c2
        generalize gz_si gx2 8 i 4 (nI bb) = gx3 at f3 hF3 ha3 n1 n3 n4 ⊢
        generalize gz_si gm2 11 0 i (nI bb) = gm3 at f4 hF3 ha3 n2 n5 n6 n7 ⊢
        obtain ⟨gx4, gm4, e3, e4, g3, g4, hF4⟩ := g_next hF3 ha3
        rw [e3, gz_then_e, e4, gz_then_e]
        exact ⟨gx4, gm4, f3.tr (g3.w gtx_wsx), f4.tr (g4.w gtm_wsm), Or.inl ⟨rfl, rfl, hF4, kd, v, bb, kb, hkd, ((g3 8 i 1 rfl).1).trans n3, ((g4 9 0 i rfl).1).trans n5, hv, ((g3 8 i 3 rfl).1).trans n4, ((g4 10 0 i rfl).1).trans n6, hbb, ((g3 8 i 4 rfl).1).trans n1, ((g4 11 0 i rfl).1).trans n2, ((g4 9 0 (8 * P + bb) rfl).1).trans n7, by omega⟩⟩
      by_cases h1 : kb = 1
      · rw [if_pos (Or.inl h1), if_neg (by decide), if_pos ((gn_eq 1 (a := kb)).mpr h1)]
        exact fin (Or.inl h1)
      · rw [if_neg (fun q => h1 ((gn_eq 1 (a := kb)).mp q))]
        by_cases h4 : 4 ≤ kb
        · rw [if_pos (Or.inr h4), if_neg (by decide), if_pos ((gn_ge 4 (a := kb)).mpr h4)]
          exact fin (Or.inr h4)
        · rw [if_neg (show ¬ (kb = 1 ∨ 4 ≤ kb) by omega), if_pos rfl, if_neg (fun q => h4 ((gn_ge 4 (a := kb)).mp q)), x_fail, gz_call_e]
          exact ⟨gfa gx2 2, gst gm2 2, f1'.tr (gfa_fr rfl rfl), f2'.tr (gst_fr rfl rfl), Or.inr ⟨rfl, rfl, hF2.fl (by decide)⟩⟩
  · rw [if_neg t1, x_fail, gz_call_e, m_nsn t2, gz_tcall_n]
    exact ⟨gfa gx2 1, gst gm2 1, f1'.tr (gfa_fr rfl rfl), f2'.tr (gst_fr rfl rfl), Or.inr ⟨rfl, rfl, hF2.fl (by decide)⟩⟩
theorem gPP.tr {px pm : Nat → Nat → Nat → Bool} {Q : gz_S → gz_S → Prop} {gx gm gx1 gm1 : gz_S} {X : Option (Int32 × gz_S)} {Y : Option (Option Unit × gz_S)} (h : gPP px pm Q gx1 gm1 X Y) (h1 : gfr px gx gx1) (h2 : gfr pm gm gm1) : gPP px pm Q gx gm X Y := by
  obtain ⟨gx', gm', k1, k2, h⟩ := h
  exact ⟨gx', gm', h1.tr k1, h2.tr k2, h⟩
theorem g_span {e P s i : Nat} {b : Nat → Nat} {gx gm : gz_S} (hP : P < 13) (hs : s < 8) (hi : i = 8 * P + s) (hF : gFs e b gx gm) (hp : gPv P s gx gm) : gPP (gsx i) (gsm i) (fun gx' gm' => gFs e b gx' gm' ∧ gSpn P s i gx' gm') gx gm (f_X4_readSpan P i gx) (f_X11_readSpan (nI P) (nI i) gm) := by
  unfold f_X4_readSpan f_X11_readSpan
  rw [gz_w_e]
  have f1 : gfr (gsx i) gx (gz_si gx 8 i 3 (gx.1 3 0 6)) := gfr.rf.si (gsx8 (Or.inr (Or.inl rfl)))
  rcases hF.2.2.1.n with ⟨t1, t2, ha, v, hv, v1, v2⟩ | ⟨t1, t2⟩
  · rw [m_ns t2, gz_tcall_s, gz_ix_nI (show i < 104 by omega) (by decide), gz_w_e, v2, gl_32 (by omega)]
    have f2 : gfr (gsm i) gm (gz_si gm 10 0 i (nI v)) := gfr.rf.si (gsm9 (Or.inr (Or.inl rfl)))
    have t1' : (gz_si gx 8 i 3 (gx.1 3 0 6)).1 3 0 4 = 2 := t1
    have hF1 : gFs e b (gz_si gx 8 i 3 (gx.1 3 0 6)) (gz_si gm 10 0 i (nI v)) := hF.gm (gfr.rf.si rfl) (gfr.rf.si rfl)
    have ha1 : gAt e (gz_si gx 8 i 3 (gx.1 3 0 6)) (gz_si gm 10 0 i (nI v)) := ha
    have n1 : (gz_si gx 8 i 3 (gx.1 3 0 6)).1 8 i 3 = nI v := by rw [gz_si_1, if_pos ⟨rfl, rfl, rfl⟩, v1]
    have n2 : (gz_si gm 10 0 i (nI v)).1 10 0 i = nI v := by rw [gz_si_1, if_pos ⟨rfl, rfl, rfl⟩]
    generalize gz_si gx 8 i 3 (gx.1 3 0 6) = gx1 at f1 hF1 ha1 n1 t1' ⊢
    generalize gz_si gm 10 0 i (nI v) = gm1 at f2 hF1 ha1 n2 ⊢
    obtain ⟨gx2, gm2, e1, e2, g1, g2, hF2⟩ := g_next hF1 ha1
    rw [x_take_y (e := e) (b := b) t1' e1, gz_call_e, if_neg (by decide), e2, gz_then_e]
    have f1' := f1.tr (g1.w gtx_wsx)
    have f2' := f2.tr (g2.w gtm_wsm)
    have hp2 := hp.fr (i := i) (by omega) (f1'.w gsx_w) (f2'.w gsm_w)
    have n1' : gx2.1 8 i 3 = nI v := ((g1 8 i 3 rfl).1).trans n1
    have n2' : gm2.1 10 0 i = nI v := ((g2 10 0 i rfl).1).trans n2
    rcases hF2.2.2.1.w with ⟨t3, t4, ha2, u, hu, u1, u2⟩ | ⟨t3, t4⟩
    · rw [if_pos t3, m_ns t4, gz_tcall_s, m_word5, gz_call_e, gz_j0_e, gz_j0_e, u1, u2]
      unfold f_X4_readSpan_J54 f_X11_readSpan_J63
      rw [gz_j1_e, u1]
      simp only [m_word5, m_word6, gz_call_e, gz_j2_e, u2]
      by_cases hd : lN u = 132915
      · rw [if_pos ((lg_cmp_eq _ _).mpr hd), if_pos ((lg_cmp_eq _ _).mpr hd), if_pos ((lg_cmp_eq _ _).mpr hd), if_pos ((lg_cmp_eq _ _).mpr hd)]
        exact (g_span2 (kd := 4) hP hs hi (Or.inl rfl) hv hF2 ha2 hp2 n1' n2').tr f1' f2'
      · rw [if_neg (fun q => hd ((lg_cmp_eq _ _).mp q)), if_neg (fun q => hd ((lg_cmp_eq _ _).mp q)), if_neg (fun q => hd ((lg_cmp_eq _ _).mp q)), if_neg (fun q => hd ((lg_cmp_eq _ _).mp q))]
        by_cases hw : lN u = 769611
        · rw [if_pos ((lg_cmp_eq _ _).mpr hw), if_pos ((lg_cmp_eq _ _).mpr hw)]
          exact (g_span2 (kd := 5) hP hs hi (Or.inr rfl) hv hF2 ha2 hp2 n1' n2').tr f1' f2'
        · rw [if_neg (fun q => hw ((lg_cmp_eq _ _).mp q)), if_neg (fun q => hw ((lg_cmp_eq _ _).mp q)), x_fail, gz_call_e]
          exact ⟨gfa gx2 1, gst gm2 1, f1'.tr (gfa_fr rfl rfl), f2'.tr (gst_fr rfl rfl), Or.inr ⟨rfl, rfl, hF2.fl (by decide)⟩⟩
    · rw [if_neg t3, x_fail, gz_call_e, m_nsn t4, gz_tcall_n]
      exact ⟨gfa gx2 1, gst gm2 1, f1'.tr (gfa_fr rfl rfl), f2'.tr (gst_fr rfl rfl), Or.inr ⟨rfl, rfl, hF2.fl (by decide)⟩⟩
  · have t1' : (gz_si gx 8 i 3 (gx.1 3 0 6)).1 3 0 4 ≠ 2 := t1
    have hF1 : gFs e b (gz_si gx 8 i 3 (gx.1 3 0 6)) gm := hF.gm (gfr.rf.si rfl) gfr.rf
    rw [x_take_n t1', gz_call_e, if_pos rfl, m_nsn t2, gz_tcall_n]
    exact ⟨_, gst gm 1, f1.tr (gfa_fr rfl rfl), gst_fr rfl rfl, Or.inr ⟨rfl, rfl, hF1.fl (by decide)⟩⟩
/-- the reference's reading of limits -/
def gLim (a2 : Int32) (σ28 : gz_S) : Option (Option Unit × gz_S) :=
  gz_tcall (f_X11_needSort 3 σ28) (fun r29 σ30 =>
  gz_ix a2 104 (fun n31 =>
  gz_w (gz_si σ30 10 0 n31 ((σ30.2.1 0 0 20 : Int64).toInt32)) (fun σ32 =>
  gz_then (f_X11_next σ32) (fun σ33 =>
  gz_tcall (f_X11_needSort 4 σ33) (fun r34 σ35 =>
  gz_then (f_X11_next σ35) (fun σ36 =>
  gz_tcall (f_X11_needSort 3 σ36) (fun r37 σ38 =>
  gz_ix a2 104 (fun n39 =>
  if 0 ≤ (lg_cmp (σ38.2.1 0 0 20) ((σ38.1 10 0 n39 : Int32).toInt64)) then
  (gz_ix a2 104 (fun n40 =>
  gz_w (gz_si σ38 11 0 n40 ((σ38.2.1 0 0 20 : Int64).toInt32)) (fun σ41 =>
  gz_then (f_X11_next σ41) (fun σ42 =>
  some (some (), σ42)))))
  else
  (gz_call (f_X11_stop 4 (σ38.1 0 0 18) σ38) (fun r44 σ43 =>
  gz_nl r44 1 none (fun i45 =>
  some (none, σ43))))))))))))
theorem g_limits {e i : Nat} {b : Nat → Nat} {gx gm : gz_S} (hi : i < 104) (hF : gFs e b gx gm) : gPP (gsx i) (gsm i) (fun gx' gm' => gFs e b gx' gm' ∧ (∃ v, gx'.1 8 i 3 = nI v ∧ gm'.1 10 0 i = nI v) ∧ (∃ v, gx'.1 8 i 4 = nI v ∧ gm'.1 11 0 i = nI v) ∧ gx'.1 8 i 1 = gx.1 8 i 1 ∧ gm'.1 9 0 i = gm.1 9 0 i) gx gm (f_X3_readLimits i gx) (gLim (nI i) gm) := by
  unfold f_X3_readLimits gLim
  rw [gz_w_e]
  have f1 : gfr (gsx i) gx (gz_si gx 8 i 3 (gx.1 3 0 6)) := gfr.rf.si (gsx8 (Or.inr (Or.inl rfl)))
  rcases hF.2.2.1.n with ⟨t1, t2, ha, v, hv, v1, v2⟩ | ⟨t1, t2⟩
  · rw [m_ns t2, gz_tcall_s, gz_ix_nI hi (by decide), gz_w_e, v2, gl_32 (by omega)]
    have f2 : gfr (gsm i) gm (gz_si gm 10 0 i (nI v)) := gfr.rf.si (gsm9 (Or.inr (Or.inl rfl)))
    have t1' : (gz_si gx 8 i 3 (gx.1 3 0 6)).1 3 0 4 = 2 := t1
    have hF1 : gFs e b (gz_si gx 8 i 3 (gx.1 3 0 6)) (gz_si gm 10 0 i (nI v)) := hF.gm (gfr.rf.si rfl) (gfr.rf.si rfl)
    have ha1 : gAt e (gz_si gx 8 i 3 (gx.1 3 0 6)) (gz_si gm 10 0 i (nI v)) := ha
    have n1 : (gz_si gx 8 i 3 (gx.1 3 0 6)).1 8 i 3 = nI v := by rw [gz_si_1, if_pos ⟨rfl, rfl, rfl⟩, v1]
    have n2 : (gz_si gm 10 0 i (nI v)).1 10 0 i = nI v := by rw [gz_si_1, if_pos ⟨rfl, rfl, rfl⟩]
    have d1 : (gz_si gx 8 i 3 (gx.1 3 0 6)).1 8 i 1 = gx.1 8 i 1 := by rw [gz_si_1, if_neg (fun q => by have := q.2.2; omega)]
    have d2 : (gz_si gm 10 0 i (nI v)).1 9 0 i = gm.1 9 0 i := rfl
    generalize gz_si gx 8 i 3 (gx.1 3 0 6) = gx1 at f1 hF1 ha1 n1 t1' d1 ⊢
    generalize gz_si gm 10 0 i (nI v) = gm1 at f2 hF1 ha1 n2 d2 ⊢
    obtain ⟨gx2, gm2, e1, e2, g1, g2, hF2⟩ := g_next hF1 ha1
    rw [x_take_y (e := e) (b := b) t1' e1, gz_call_e, if_neg (by decide), e2, gz_then_e]
    have f1' := f1.tr (g1.w gtx_wsx)
    have f2' := f2.tr (g2.w gtm_wsm)
    have n1' : gx2.1 8 i 3 = nI v := ((g1 8 i 3 rfl).1).trans n1
    have n2' : gm2.1 10 0 i = nI v := ((g2 10 0 i rfl).1).trans n2
    have d1' := ((g1 8 i 1 rfl).1).trans d1
    have d2' := ((g2 9 0 i rfl).1).trans d2
    rcases hF2.2.2.1.d with ⟨t3, t4, ha2⟩ | ⟨t3, t4⟩
    · obtain ⟨gx3, gm3, e3, e4, g3, g4, hF3⟩ := g_next hF2 ha2
      rw [x_take_y (e := e) (b := b) t3 e3, gz_call_e, if_neg (by decide), m_ns t4, gz_tcall_s, e4, gz_then_e, gz_w_e]
      have f3 := f1'.tr (g3.w gtx_wsx)
      have f4 := f2'.tr (g4.w gtm_wsm)
      have n1'' : gx3.1 8 i 3 = nI v := ((g3 8 i 3 rfl).1).trans n1'
      have n2'' : gm3.1 10 0 i = nI v := ((g4 10 0 i rfl).1).trans n2'
      have d1'' := ((g3 8 i 1 rfl).1).trans d1'
      have d2'' := ((g4 9 0 i rfl).1).trans d2'
      have f3' : gfr (gsx i) gx (gz_si gx3 8 i 4 (gx3.1 3 0 6)) := f3.si (gsx8 (Or.inr (Or.inr rfl)))
      have m1 : (gz_si gx3 8 i 4 (gx3.1 3 0 6)).1 8 i 3 = nI v := by
        rw [gz_si_1, if_neg (fun q => by have := q.2.2; omega)]
        exact n1''
      have m4 : (gz_si gx3 8 i 4 (gx3.1 3 0 6)).1 8 i 4 = gx3.1 3 0 6 := by rw [gz_si_1, if_pos ⟨rfl, rfl, rfl⟩]
      have m5 : (gz_si gx3 8 i 4 (gx3.1 3 0 6)).1 8 i 1 = gx.1 8 i 1 := by
        rw [gz_si_1, if_neg (fun q => by have := q.2.2; omega)]
        exact d1''
      rcases hF3.2.2.1.n with ⟨t5, t6, ha3, v', hv', v3, v4⟩ | ⟨t5, t6⟩
      · have t5' : (gz_si gx3 8 i 4 (gx3.1 3 0 6)).1 3 0 4 = 2 := t5
        rw [v3] at f3' m1 m4 m5 t5' ⊢
        rw [if_pos t5', m1, m4, m_ns t6, gz_tcall_s, gz_ix_nI hi (by decide), v4, n2'', gl_64 (by omega), gz_ix_nI hi (by decide), gz_w_e, gl_32 (by omega)]
        by_cases hle : v ≤ v'
        · rw [if_pos ((nI_leI (by omega) (by omega)).mpr hle), if_pos ((lg_cmp_ge _ _).mpr ((pk_lLE (by omega) (by omega)).mpr hle))]
          have f4' : gfr (gsm i) gm (gz_si gm3 11 0 i (nI v')) := f4.si (gsm9 (Or.inr (Or.inr rfl)))
          have hF4 : gFs e b (gz_si gx3 8 i 4 (nI v')) (gz_si gm3 11 0 i (nI v')) := hF3.gm (gfr.rf.si rfl) (gfr.rf.si rfl)
          have ha4 : gAt e (gz_si gx3 8 i 4 (nI v')) (gz_si gm3 11 0 i (nI v')) := ha3
          have m2 : (gz_si gm3 11 0 i (nI v')).1 10 0 i = nI v := n2''
          have m3 : (gz_si gm3 11 0 i (nI v')).1 11 0 i = nI v' := by rw [gz_si_1, if_pos ⟨rfl, rfl, rfl⟩]
          have m6 : (gz_si gm3 11 0 i (nI v')).1 9 0 i = gm.1 9 0 i := d2''
          generalize gz_si gx3 8 i 4 (nI v') = gx4 at f3' hF4 ha4 m1 m4 m5 t5' ⊢
          generalize gz_si gm3 11 0 i (nI v') = gm4 at f4' hF4 ha4 m2 m3 m6 ⊢
          obtain ⟨gx5, gm5, e5, e6, g5, g6, hF5⟩ := g_next hF4 ha4
          rw [x_take_y (e := e) (b := b) t5' e5, gz_call_e, e6, gz_then_e]
          exact ⟨gx5, gm5, f3'.tr (g5.w gtx_wsx), f4'.tr (g6.w gtm_wsm), Or.inl ⟨rfl, rfl, hF5, ⟨v, ((g5 8 i 3 rfl).1).trans m1, ((g6 10 0 i rfl).1).trans m2⟩, ⟨v', ((g5 8 i 4 rfl).1).trans m4, ((g6 11 0 i rfl).1).trans m3⟩, ((g5 8 i 1 rfl).1).trans m5, ((g6 9 0 i rfl).1).trans m6⟩⟩
        · rw [if_neg (fun q => hle ((nI_leI (by omega) (by omega)).mp q)), if_neg (fun q => hle ((pk_lLE (by omega) (by omega)).mp ((lg_cmp_ge _ _).mp q))), x_fail, gz_call_e]
          have hF4 : gFs e b (gz_si gx3 8 i 4 (nI v')) gm3 := hF3.gm (gfr.rf.si rfl) gfr.rf
          exact ⟨_, gst gm3 4, f3'.tr (gfa_fr rfl rfl), f4.tr (gst_fr rfl rfl), Or.inr ⟨rfl, rfl, hF4.fl (by decide)⟩⟩
      · have t5' : (gz_si gx3 8 i 4 (gx3.1 3 0 6)).1 3 0 4 ≠ 2 := t5
        have hF4 : gFs e b (gz_si gx3 8 i 4 (gx3.1 3 0 6)) gm3 := hF3.gm (gfr.rf.si rfl) gfr.rf
        rw [if_neg t5', x_take_n t5', gz_call_e, m_nsn t6, gz_tcall_n]
        exact ⟨_, gst gm3 1, f3'.tr (gfa_fr rfl rfl), f4.tr (gst_fr rfl rfl), Or.inr ⟨rfl, rfl, hF4.fl (by decide)⟩⟩
    · rw [x_take_n t3, gz_call_e, if_pos rfl, m_nsn t4, gz_tcall_n]
      exact ⟨_, gst gm2 1, f1'.tr (gfa_fr rfl rfl), f2'.tr (gst_fr rfl rfl), Or.inr ⟨rfl, rfl, hF2.fl (by decide)⟩⟩
  · have t1' : (gz_si gx 8 i 3 (gx.1 3 0 6)).1 3 0 4 ≠ 2 := t1
    have hF1 : gFs e b (gz_si gx 8 i 3 (gx.1 3 0 6)) gm := hF.gm (gfr.rf.si rfl) gfr.rf
    rw [x_take_n t1', gz_call_e, if_pos rfl, m_nsn t2, gz_tcall_n]
    exact ⟨_, gst gm 1, f1.tr (gfa_fr rfl rfl), gst_fr rfl rfl, Or.inr ⟨rfl, rfl, hF1.fl (by decide)⟩⟩
