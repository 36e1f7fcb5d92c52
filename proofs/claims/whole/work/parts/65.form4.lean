/-! kinds -/
theorem x_kind {P i : Nat} {gx : gz_S} {u : Int64} (t1 : gx.1 3 0 4 = 1) (v1 : gx.2.1 3 0 7 = u) : (u = 15021 → f_X4_readKind P i gx = gz_then (f_X8_step gx) (fun σ => f_X4_readKind_J83 i 0 σ)) ∧ (u = 4153 → f_X4_readKind P i gx = gz_then (f_X8_step gx) (fun σ => f_X4_readKind_J83 i 1 σ)) ∧ (u = 769604 → f_X4_readKind P i gx = gz_then (f_X8_step gx) (fun σ => f_X4_readKind_J83 i 2 σ)) ∧ (u = 15813 → f_X4_readKind P i gx = gz_then (f_X8_step gx) (fun σ => f_X4_readKind_J83 i 3 σ)) ∧ (u = 639022 → f_X4_readKind P i gx = gz_then (f_X8_step gx) (fun σ => gz_call (f_X4_readSpan P i σ) (fun r19 σ18 => some (r19 &&& 1, σ18)))) ∧ (u ≠ 15021 → u ≠ 4153 → u ≠ 769604 → u ≠ 15813 → u ≠ 639022 → f_X4_readKind P i gx = some (0, gfa gx 1)) := by
  unfold f_X4_readKind f_X4_isKind
  rw [gz_v_e, if_pos t1, v1]
  refine ⟨fun h => ?_, fun h => ?_, fun h => ?_, fun h => ?_, fun h => ?_, fun h1 h2 h3 h4 h5 => ?_⟩
  · subst h
    rw [if_pos (by decide), gz_call_e, if_neg (by decide)]
    congr 1
  · subst h
    rw [if_neg (by decide), if_pos (by decide), gz_call_e, if_neg (by decide)]
    congr 1
  · subst h
    rw [if_neg (by decide), if_neg (by decide), if_pos (by decide), gz_call_e, if_neg (by decide)]
    congr 1
  · subst h
    rw [if_neg (by decide), if_neg (by decide), if_neg (by decide), if_pos (by decide), gz_call_e, if_neg (by decide)]
    congr 1
  · subst h
    rw [if_neg (by decide), if_neg (by decide), if_neg (by decide), if_neg (by decide), if_pos (by decide), gz_call_e, if_neg (by decide)]
    congr 1
  · rw [if_neg (fun q => h1 ((lg_cmp_eq _ _).mp q)), if_neg (fun q => h2 ((lg_cmp_eq _ _).mp q)), if_neg (fun q => h3 ((lg_cmp_eq _ _).mp q)), if_neg (fun q => h4 ((lg_cmp_eq _ _).mp q)), if_neg (fun q => h5 ((lg_cmp_eq _ _).mp q)), gz_call_e, if_pos (by decide), x_fail, gz_call_e]
    rfl
theorem m_kind {P i : Nat} {gm : gz_S} {u : Int64} (t2 : gm.1 0 0 17 = 2) (v2 : gm.2.1 0 0 20 = u) : (u = 15021 → f_X11_readKind (nI P) (nI i) gm = gz_then (f_X11_next gm) (fun σ => gz_ix (nI i) 104 (fun n27 => gz_w (gz_si σ 9 0 n27 0) (fun σ28 => gLim (nI i) σ28)))) ∧ (u = 4153 → f_X11_readKind (nI P) (nI i) gm = gz_then (f_X11_next gm) (fun σ => gz_ix (nI i) 104 (fun n19 => gz_w (gz_si σ 9 0 n19 1) (fun σ20 => some (some (), σ20))))) ∧ (u = 769604 → f_X11_readKind (nI P) (nI i) gm = gz_then (f_X11_next gm) (fun σ => gz_ix (nI i) 104 (fun n19 => gz_w (gz_si σ 9 0 n19 2) (fun σ20 => some (some (), σ20))))) ∧ (u = 15813 → f_X11_readKind (nI P) (nI i) gm = gz_then (f_X11_next gm) (fun σ => gz_ix (nI i) 104 (fun n23 => gz_w (gz_si σ 9 0 n23 3) (fun σ24 => gz_tcall (f_X11_readChoices (nI i) σ24) (fun r25 σ26 => some (some (), σ26)))))) ∧ (u = 639022 → f_X11_readKind (nI P) (nI i) gm = gz_then (f_X11_next gm) (fun σ => gz_tcall (f_X11_readSpan (nI P) (nI i) σ) (fun r21 σ22 => some (some (), σ22)))) ∧ (u ≠ 15021 → u ≠ 4153 → u ≠ 769604 → u ≠ 15813 → u ≠ 639022 → f_X11_readKind (nI P) (nI i) gm = some (none, gst gm 1)) := by
  unfold f_X11_readKind
  rw [m_ns t2, gz_tcall_s, gz_v_e, v2, m_word0, gz_call_e, gz_j1_e, gz_j0_e, m_word1, gz_call_e, m_word2, gz_call_e, m_word3, gz_call_e, m_word4, gz_call_e]
  unfold f_X11_readKind_J65
  have e1 : ∀ u : Int64, f_X11_readKind_J70 u (nI i) (nI P) 1 gm = gz_then (f_X11_next gm) (fun σ8 =>
      if (lg_cmp u 15021) = 0 then gz_ix (nI i) 104 (fun n27 => gz_w (gz_si σ8 9 0 n27 0) (fun σ28 => gLim (nI i) σ28))
      else if (lg_cmp u 15813) = 0 then gz_ix (nI i) 104 (fun n23 => gz_w (gz_si σ8 9 0 n23 3) (fun σ24 => gz_tcall (f_X11_readChoices (nI i) σ24) (fun r25 σ26 => some (some (), σ26))))
      else if (lg_cmp u 639022) = 0 then gz_tcall (f_X11_readSpan (nI P) (nI i) σ8) (fun r21 σ22 => some (some (), σ22))
      else if (lg_cmp u 4153) = 0 then gz_ix (nI i) 104 (fun n19 => gz_w (gz_si σ8 9 0 n19 1) (fun σ20 => some (some (), σ20)))
      else gz_ix (nI i) 104 (fun n17 => gz_w (gz_si σ8 9 0 n17 2) (fun σ18 => some (some (), σ18)))) := by
    intro u
    unfold f_X11_readKind_J70 gLim
    rw [if_neg (by decide)]
    congr 1
    funext σ
    rw [m_word0, gz_call_e, m_word3, gz_call_e, m_word4, gz_call_e, m_word1, gz_call_e]
  refine ⟨fun h => ?_, fun h => ?_, fun h => ?_, fun h => ?_, fun h => ?_, fun h1 h2 h3 h4 h5 => ?_⟩
  · subst h
    rw [if_pos (by decide), e1]
    congr 1
  · subst h
    rw [if_neg (by decide), if_pos (by decide), e1]
    congr 1
  · subst h
    rw [if_neg (by decide), if_neg (by decide), if_pos (by decide), e1]
    congr 1
  · subst h
    rw [if_neg (by decide), if_neg (by decide), if_neg (by decide), if_pos (by decide), e1]
    congr 1
  · subst h
    rw [if_neg (by decide), if_neg (by decide), if_neg (by decide), if_neg (by decide), if_pos (by decide), e1]
    congr 1
  · rw [if_neg (fun q => h1 ((lg_cmp_eq _ _).mp q)), if_neg (fun q => h2 ((lg_cmp_eq _ _).mp q)), if_neg (fun q => h3 ((lg_cmp_eq _ _).mp q)), if_neg (fun q => h4 ((lg_cmp_eq _ _).mp q)), if_neg (fun q => h5 ((lg_cmp_eq _ _).mp q))]
    unfold f_X11_readKind_J70
    rw [if_pos rfl, m_stop]
/-- the reference's question mark -/
def gMay (i : Nat) (σ35 : gz_S) (j : gz_S → Option (Option Unit × gz_S)) : Option (Option Unit × gz_S) :=
  gz_ix (nI i) 104 (fun n36 =>
  if 4 ≤ (σ35.1 9 0 n36) then
  (j σ35)
  else
  (gz_call (f_X11_is 63 σ35) (fun r46 σ45 =>
  if r46 = 0 then
  (j σ45)
  else
  (gz_ix (nI i) 104 (fun n47 =>
  gz_w (gz_si σ45 12 0 n47 ((1 : Int32) &&& 1)) (fun σ48 =>
  gz_then (f_X11_next σ48) (fun σ49 =>
  j σ49)))))))
def gyx (i t i' k : Nat) : Bool := (Nat.beq t 3 && (Nat.ble 3 k && Nat.ble k 9)) || ((Nat.beq t 8 && Nat.beq k 2) && decide (i' = i))
def gym (i t _ k : Nat) : Bool := (Nat.beq t 0 && (Nat.ble 16 k && Nat.ble k 20)) || Nat.beq t 6 || (Nat.beq t 12 && decide (k = i))
theorem gyx_w {i : Nat} : ∀ t i' k, gix i t i' k = false → gyx i t i' k = false := by
  intro t i' k h
  unfold gix at h
  unfold gyx
  simp only [gbq, gbl, Bool.or_eq_false_iff, Bool.and_eq_false_iff, decide_eq_false_iff_not] at h ⊢
  omega
theorem gym_w {i : Nat} : ∀ t i' k, gim i t i' k = false → gym i t i' k = false := by
  intro t i' k h
  unfold gim at h
  unfold gym
  simp only [gbq, gbl, Bool.or_eq_false_iff, Bool.and_eq_false_iff, decide_eq_false_iff_not] at h ⊢
  omega
theorem gtx_wyx {i : Nat} : ∀ t i' k, gyx i t i' k = false → gtx t i' k = false := by
  intro t i' k h
  unfold gyx at h
  unfold gtx
  simp only [gbq, gbl, Bool.or_eq_false_iff, Bool.and_eq_false_iff, decide_eq_false_iff_not] at h ⊢
  omega
theorem gtm_wym {i : Nat} : ∀ t i' k, gym i t i' k = false → gtm t i' k = false := by
  intro t i' k h
  unfold gym at h
  unfold gtm
  simp only [gbq, gbl, Bool.or_eq_false_iff, Bool.and_eq_false_iff, decide_eq_false_iff_not] at h ⊢
  omega
theorem g_may {e i kd : Nat} {b : Nat → Nat} {gx gm : gz_S} (hi : i < 104) (hF : gFs e b gx gm) (hk : kd < 4) (h9 : gm.1 9 0 i = nI kd) (x2 : gx.1 8 i 2 = 0) (m12 : gm.1 12 0 i = 0) : ∃ gx' gm', f_X4_readKind_J119 i gx = some (1, gx') ∧ (∀ j, gMay i gm j = j gm') ∧ gFs e b gx' gm' ∧ gfr (gyx i) gx gx' ∧ gfr (gym i) gm gm' ∧ gx'.1 8 i 2 = gm'.1 12 0 i ∧ (gm'.1 12 0 i = 0 ∨ gm'.1 12 0 i = 1) := by
  unfold f_X4_readKind_J119 gMay
  simp only [gz_ix_nI hi (show 104 < 2 ^ 31 by decide), h9, if_neg (show ¬ (4 : Int32) ≤ nI kd from fun q => by have := (gn_ge 4 (a := kd)).mp q; omega)]
  rcases hF.2.2.1.s 63 (by unfold gsg; omega) with ⟨q1, q2, ha, q3⟩ | ⟨q1, q2⟩
  · have q2' : f_X11_is 63 gm = some (1, gm) := q2
    have hpx : gyx i 8 i 2 = true := by
      unfold gyx
      simp [gbq]
    have hpm : gym i 12 0 i = true := by
      unfold gym
      simp [gbq]
    have f1 : gfr (gyx i) gx (gz_si gx 8 i 2 1) := gfr.rf.si hpx
    have f2 : gfr (gym i) gm (gz_si gm 12 0 i ((1 : Int32) &&& 1)) := gfr.rf.si hpm
    have hF1 : gFs e b (gz_si gx 8 i 2 1) (gz_si gm 12 0 i ((1 : Int32) &&& 1)) := hF.gm (gfr.rf.si rfl) (gfr.rf.si rfl)
    have ha1 : gAt e (gz_si gx 8 i 2 1) (gz_si gm 12 0 i ((1 : Int32) &&& 1)) := ha
    have n1 : (gz_si gx 8 i 2 1).1 8 i 2 = 1 := by rw [gz_si_1, if_pos ⟨rfl, rfl, rfl⟩]
    have n2 : (gz_si gm 12 0 i ((1 : Int32) &&& 1)).1 12 0 i = 1 := by
      rw [gz_si_1, if_pos ⟨rfl, rfl, rfl⟩]
      decide
    rw [if_pos (show gx.1 3 0 4 = 63 from q1), gz_w_e, q2']
    simp only [gz_call_e, if_neg (show ¬ (1 : Int32) = 0 by decide), gz_w_e]
    generalize gz_si gx 8 i 2 1 = gx1 at f1 hF1 ha1 n1 ⊢
    generalize gz_si gm 12 0 i ((1 : Int32) &&& 1) = gm1 at f2 hF1 ha1 n2 ⊢
    obtain ⟨gx2, gm2, e1, e2, g1, g2, hF2⟩ := g_next hF1 ha1
    rw [e1, gz_then_e, e2]
    simp only [gz_then_e]
    exact ⟨gx2, gm2, rfl, fun _ => rfl, hF2, f1.tr (g1.w gtx_wyx), f2.tr (g2.w gtm_wym), (((g1 8 i 2 rfl).1).trans n1).trans (((g2 12 0 i rfl).1).trans n2).symm, Or.inr (((g2 12 0 i rfl).1).trans n2)⟩
  · have q2' : f_X11_is 63 gm = some (0, gm) := q2
    rw [if_neg (show ¬ gx.1 3 0 4 = 63 from q1), q2']
    simp only [gz_call_e, if_pos (show (0 : Int32) = 0 from rfl)]
    exact ⟨gx, gm, rfl, fun _ => rfl, hF, gfr.rf, gfr.rf, x2.trans m12.symm, Or.inl m12⟩
theorem gix_t {i t k : Nat} (h : t = 8 ∨ t = 9) : gix i t i k = true := by
  unfold gix
  rcases h with rfl | rfl <;> simp [gbq]
theorem gim_t {i t : Nat} (h : 9 ≤ t ∧ t ≤ 13) : gim i t 0 i = true := by
  unfold gim
  simp [gbq, gbl, h.1, h.2]
def gPC (px pm : Nat → Nat → Nat → Bool) (Q : gz_S → gz_S → Prop) (gx gm : gz_S) (X : Option (Int32 × gz_S)) (Y : (gz_S → Option (Option Unit × gz_S)) → Option (Option Unit × gz_S)) : Prop := ∃ gx' gm', gfr px gx gx' ∧ gfr pm gm gm' ∧ ((X = some (1, gx') ∧ (∀ j, Y j = j gm') ∧ Q gx' gm') ∨ (X = some (0, gx') ∧ (∀ j, Y j = some (none, gm')) ∧ gFl gx' gm'))
set_option maxHeartbeats 2000000 in
theorem g_kind {e P s i : Nat} {b : Nat → Nat} {gx gm : gz_S} (hP : P < 13) (hs : s < 8) (hi : i = 8 * P + s) (hF : gFs e b gx gm) (hp : gPv P s gx gm) (hn : gx.2.1 8 i 0 = gm.2.1 13 0 i) (x2 : gx.1 8 i 2 = 0) (x3 : gx.1 8 i 3 = 0) (x4 : gx.1 8 i 4 = 0) (x6 : gx.1 8 i 6 = 0) (m10 : gm.1 10 0 i = 0) (m11 : gm.1 11 0 i = 0) (m12 : gm.1 12 0 i = 0) : gPC (gix i) (gim i) (fun gx' gm' => gFs e b gx' gm' ∧ rField (gx'.1 8) (gx'.2.1 8) (gx'.2.1 9) (gm'.1 9 0) (gm'.1 10 0) (gm'.1 11 0) (gm'.1 12 0) (gm'.2.1 13 0) (gm'.2.1 14 0) i s) gx gm (f_X4_readKind P i gx) (fun j => gz_tcall (f_X11_readKind (nI P) (nI i) gm) (fun _ σ => gMay i σ j)) := by
  have hi104 : i < 104 := by omega
  rcases hF.2.2.1.w with ⟨t1, t2, ha, u, hu, v1, v2⟩ | ⟨t1, t2⟩
  · obtain ⟨gx1, gm1, e1, e2, g1, g2, hF1⟩ := g_next hF ha
    have f1 : gfr (gix i) gx gx1 := g1.w gtx_w
    have f2 : gfr (gim i) gm gm1 := g2.w gtm_w
    have hp1 := hp.fr (i := i) (by omega) f1 f2
    obtain ⟨xa, xb, xc, xd, xe, xf⟩ := x_kind (P := P) (i := i) t1 v1
    obtain ⟨ma, mb, mc, md, me, mf⟩ := m_kind (P := P) (i := i) t2 v2
    have hpx1 : gix i 8 i 1 = true := gix_t (Or.inl rfl)
    have hpm9 : gim i 9 0 i = true := gim_t (by omega)
    have x2' : gx1.1 8 i 2 = 0 := ((g1 8 i 2 rfl).1).trans x2
    have x3' : gx1.1 8 i 3 = 0 := ((g1 8 i 3 rfl).1).trans x3
    have x4' : gx1.1 8 i 4 = 0 := ((g1 8 i 4 rfl).1).trans x4
    have x6' : gx1.1 8 i 6 = 0 := ((g1 8 i 6 rfl).1).trans x6
    have m10' : gm1.1 10 0 i = 0 := ((g2 10 0 i rfl).1).trans m10
    have m11' : gm1.1 11 0 i = 0 := ((g2 11 0 i rfl).1).trans m11
    have m12' : gm1.1 12 0 i = 0 := ((g2 12 0 i rfl).1).trans m12
    have hn' : gx1.2.1 8 i 0 = gm1.2.1 13 0 i := by
      rw [(g1 8 i 0 rfl).2, (g2 13 0 i rfl).2]
      exact hn
    -- a kind that may bear a question mark
    have may : ∀ (kd : Nat) (gx2 gm2 : gz_S), kd < 4 → gFs e b gx2 gm2 → gfr (gix i) gx gx2 → gfr (gim i) gm gm2 → gx2.1 8 i 1 = nI kd → gm2.1 9 0 i = nI kd → gx2.1 8 i 2 = 0 → gm2.1 12 0 i = 0 → gx2.2.1 8 i 0 = gm2.2.1 13 0 i → gx2.1 8 i 4 = gm2.1 11 0 i → (kd = 3 → ∃ w, gWd i w gx2 gm2) → (kd ≠ 3 → gx2.1 8 i 3 = gm2.1 10 0 i) → ∃ gx' gm', gfr (gix i) gx gx' ∧ gfr (gim i) gm gm' ∧ f_X4_readKind_J119 i gx2 = some (1, gx') ∧ (∀ j, gMay i gm2 j = j gm') ∧ gFs e b gx' gm' ∧ rField (gx'.1 8) (gx'.2.1 8) (gx'.2.1 9) (gm'.1 9 0) (gm'.1 10 0) (gm'.1 11 0) (gm'.1 12 0) (gm'.2.1 13 0) (gm'.2.1 14 0) i s := by
      intro kd gx2 gm2 hk hF2 k1 k2 k3 k4 k5 k6 k7 k8 k9 k10
      obtain ⟨gx', gm', a1, a2, a3, a4, a5, a6, a7⟩ := g_may hi104 hF2 hk k4 k5 k6
      refine ⟨gx', gm', k1.tr (a4.w gyx_w), k2.tr (a5.w gym_w), a1, a2, a3, ?_⟩
      refine ⟨?_, ?_, a6, a7, ?_, kd, by omega, ?_, fun h3 => ?_, fun h3 => ?_, fun h4 => by omega⟩
      · rw [(a4 8 i 0 rfl).2, (a5 13 0 i rfl).2]
        exact k7
      · rw [(a4 8 i 1 rfl).1, (a5 9 0 i rfl).1, k3, k4]
      · rw [(a4 8 i 4 rfl).1, (a5 11 0 i rfl).1]
        exact k8
      · rw [(a5 9 0 i rfl).1]
        exact k4
      · obtain ⟨w, w1, w2, w3, w4⟩ := k9 h3
        refine ⟨w, w1, ((a4 8 i 6 rfl).1).trans w2, ((a5 10 0 i rfl).1).trans w3, fun j hj => ?_⟩
        rw [(a4 9 i j rfl).2, (a5 14 0 (4 * i + j) rfl).2]
        exact w4 j hj
      · rw [(a4 8 i 3 rfl).1, (a5 10 0 i rfl).1]
        exact k10 h3
    -- the kind set on both sides
    have set : ∀ kd : Nat, kd < 4 → gFs e b (gz_si gx1 8 i 1 (nI kd)) (gz_si gm1 9 0 i (nI kd)) ∧ gfr (gix i) gx (gz_si gx1 8 i 1 (nI kd)) ∧ gfr (gim i) gm (gz_si gm1 9 0 i (nI kd)) ∧ (gz_si gx1 8 i 1 (nI kd)).1 8 i 1 = nI kd ∧ (gz_si gm1 9 0 i (nI kd)).1 9 0 i = nI kd ∧ (gz_si gx1 8 i 1 (nI kd)).1 8 i 2 = 0 ∧ (gz_si gx1 8 i 1 (nI kd)).1 8 i 3 = 0 ∧ (gz_si gx1 8 i 1 (nI kd)).1 8 i 4 = 0 ∧ (gz_si gx1 8 i 1 (nI kd)).1 8 i 6 = 0 := by
      intro kd _
      refine ⟨hF1.gm (gfr.rf.si rfl) (gfr.rf.si rfl), f1.si hpx1, f2.si hpm9, by rw [gz_si_1, if_pos ⟨rfl, rfl, rfl⟩], by rw [gz_si_1, if_pos ⟨rfl, rfl, rfl⟩], ?_, ?_, ?_, ?_⟩
      · rw [gz_si_1, if_neg (fun q => by have := q.2.2; omega)]
        exact x2'
      · rw [gz_si_1, if_neg (fun q => by have := q.2.2; omega)]
        exact x3'
      · rw [gz_si_1, if_neg (fun q => by have := q.2.2; omega)]
        exact x4'
      · rw [gz_si_1, if_neg (fun q => by have := q.2.2; omega)]
        exact x6'
    by_cases ca : lN u = 15021
    · rw [xa ca, ma ca, e1, e2, gz_then_e, gz_then_e, gz_ix_nI hi104 (by decide), gz_w_e]
      unfold f_X4_readKind_J83
      rw [gz_w_e]
      obtain ⟨s1, s2, s3, s4, s5, s6, s7, s8, s9⟩ := set 0 (by omega)
      have y12 : (gz_si gm1 9 0 i (nI 0)).1 12 0 i = 0 := m12'
      have yn : (gz_si gx1 8 i 1 (nI 0)).2.1 8 i 0 = (gz_si gm1 9 0 i (nI 0)).2.1 13 0 i := hn'
      have s4' : (gz_si gx1 8 i 1 0).1 8 i 1 = 0 := s4
      rw [gz_j0_e, s4', if_pos rfl, show (gz_si gx1 8 i 1 0) = gz_si gx1 8 i 1 (nI 0) from rfl, show (gz_si gm1 9 0 i 0) = gz_si gm1 9 0 i (nI 0) from rfl]
      generalize gz_si gx1 8 i 1 (nI 0) = gx2 at s1 s2 s4 s6 s7 s8 s9 yn ⊢
      generalize gz_si gm1 9 0 i (nI 0) = gm2 at s1 s3 s5 y12 yn ⊢
      obtain ⟨gx3, gm3, h1, h2, hor⟩ := g_limits hi104 s1
      rcases hor with ⟨X, Y, hF3, ⟨v, b1, b2⟩, ⟨v', b3, b4⟩, b5, b6⟩ | ⟨X, Y, hfl⟩
      · rw [X, Y, gz_call_e, if_neg (show ¬ (1 : Int32) = 0 by decide)]
        simp only [gz_tcall_s]
        unfold f_X4_readKind_J101
        rw [gz_j0_e, b5, s4, if_neg (by decide)]
        obtain ⟨gx', gm', c1, c2, c3, c4, c5⟩ := may 0 gx3 gm3 (by omega) hF3 (s2.tr (h1.w gsx_w)) (s3.tr (h2.w gsm_w)) (b5.trans s4) (b6.trans s5) (((h1 8 i 2 rfl).1).trans s6) (((h2 12 0 i rfl).1).trans y12) (by rw [(h1 8 i 0 rfl).2, (h2 13 0 i rfl).2]; exact yn) (b3.trans b4.symm) (fun h => by omega) (fun _ => b1.trans b2.symm)
        exact ⟨gx', gm', c1, c2, Or.inl ⟨c3, c4, c5⟩⟩
      · rw [X, Y, gz_call_e, if_pos rfl]
        simp only [gz_tcall_n]
        exact ⟨gx3, gm3, s2.tr (h1.w gsx_w), s3.tr (h2.w gsm_w), Or.inr ⟨rfl, fun _ => rfl, hfl⟩⟩
    by_cases cb : lN u = 4153
    · rw [xb cb, mb cb, e1, e2, gz_then_e, gz_then_e, gz_ix_nI hi104 (by decide), gz_w_e]
      simp only [gz_tcall_s]
      unfold f_X4_readKind_J83
      rw [gz_w_e]
      obtain ⟨s1, s2, s3, s4, s5, s6, s7, s8, s9⟩ := set 1 (by omega)
      have s4' : (gz_si gx1 8 i 1 1).1 8 i 1 = 1 := s4
      rw [gz_j0_e, s4', if_neg (by decide)]
      unfold f_X4_readKind_J101
      rw [gz_j0_e, s4', if_neg (by decide)]
      obtain ⟨gx', gm', c1, c2, c3, c4, c5⟩ := may 1 _ _ (by omega) s1 s2 s3 s4 s5 s6 m12' hn' (s8.trans m11'.symm) (fun h => by omega) (fun _ => s7.trans m10'.symm)
      exact ⟨gx', gm', c1, c2, Or.inl ⟨c3, c4, c5⟩⟩
    by_cases cc : lN u = 769604
    · rw [xc cc, mc cc, e1, e2, gz_then_e, gz_then_e, gz_ix_nI hi104 (by decide), gz_w_e]
      simp only [gz_tcall_s]
      unfold f_X4_readKind_J83
      rw [gz_w_e]
      obtain ⟨s1, s2, s3, s4, s5, s6, s7, s8, s9⟩ := set 2 (by omega)
      have s4' : (gz_si gx1 8 i 1 2).1 8 i 1 = 2 := s4
      rw [gz_j0_e, s4', if_neg (by decide)]
      unfold f_X4_readKind_J101
      rw [gz_j0_e, s4', if_neg (by decide)]
      obtain ⟨gx', gm', c1, c2, c3, c4, c5⟩ := may 2 _ _ (by omega) s1 s2 s3 s4 s5 s6 m12' hn' (s8.trans m11'.symm) (fun h => by omega) (fun _ => s7.trans m10'.symm)
      exact ⟨gx', gm', c1, c2, Or.inl ⟨c3, c4, c5⟩⟩
    by_cases cd : lN u = 15813
    · rw [xd cd, md cd, e1, e2, gz_then_e, gz_then_e, gz_ix_nI hi104 (by decide), gz_w_e]
      unfold f_X4_readKind_J83
      rw [gz_w_e]
      obtain ⟨s1, s2, s3, s4, s5, s6, s7, s8, s9⟩ := set 3 (by omega)
      have s4' : (gz_si gx1 8 i 1 3).1 8 i 1 = 3 := s4
      rw [gz_j0_e, s4', if_neg (by decide)]
      unfold f_X4_readKind_J101
      rw [gz_j0_e, s4', if_pos rfl]
      unfold f_X3_readWords f_X11_readChoices
      rw [gz_j0_e, gz_j0_e]
      have y10 : (gz_si gm1 9 0 i (nI 3)).1 10 0 i = 0 := m10'
      have y11 : (gz_si gm1 9 0 i (nI 3)).1 11 0 i = 0 := m11'
      have y12 : (gz_si gm1 9 0 i (nI 3)).1 12 0 i = 0 := m12'
      have yn : (gz_si gx1 8 i 1 (nI 3)).2.1 8 i 0 = (gz_si gm1 9 0 i (nI 3)).2.1 13 0 i := hn'
      rw [show (gz_si gx1 8 i 1 3) = gz_si gx1 8 i 1 (nI 3) from rfl, show (gz_si gm1 9 0 i 3) = gz_si gm1 9 0 i (nI 3) from rfl]
      generalize gz_si gx1 8 i 1 (nI 3) = gx2 at s1 s2 s4 s6 s7 s8 s9 yn ⊢
      generalize gz_si gm1 9 0 i (nI 3) = gm2 at s1 s3 s5 y10 y11 y12 yn ⊢
      obtain ⟨gx3, gm3, h1, h2, hor⟩ := g_words hi104 4 0 gx2 gm2 gz_fu gz_fu (by omega) (by show 4 < 20000; omega) (by show 5 < 20000; omega) s1 ⟨by omega, s9, y10, fun j hj => by omega⟩
      rcases hor with ⟨X, Y, hF3, w, hw⟩ | ⟨X, Y, hfl⟩
      · have X' : gz_l1 (f_X3_readWords_L2 i) gz_fu 0 gx2 = some (1, gx3) := X
        rw [X', Y, gz_call_e, if_neg (show ¬ (1 : Int32) = 0 by decide)]
        simp only [gz_tcall_s]
        obtain ⟨gx', gm', c1, c2, c3, c4, c5⟩ := may 3 gx3 gm3 (by omega) hF3 (s2.tr (h1.w gwx_w)) (s3.tr (h2.w gwm_w)) (((h1 8 i 1 rfl).1).trans s4) (((h2 9 0 i rfl).1).trans s5) (((h1 8 i 2 rfl).1).trans s6) (((h2 12 0 i rfl).1).trans y12) (by rw [(h1 8 i 0 rfl).2, (h2 13 0 i rfl).2]; exact yn) ((((h1 8 i 4 rfl).1).trans s8).trans (((h2 11 0 i rfl).1).trans y11).symm) (fun _ => ⟨w, hw⟩) (fun h => absurd rfl h)
        exact ⟨gx', gm', c1, c2, Or.inl ⟨c3, c4, c5⟩⟩
      · have X' : gz_l1 (f_X3_readWords_L2 i) gz_fu 0 gx2 = some (0, gx3) := X
        rw [X', Y, gz_call_e, if_pos rfl]
        simp only [gz_tcall_n]
        exact ⟨gx3, gm3, s2.tr (h1.w gwx_w), s3.tr (h2.w gwm_w), Or.inr ⟨rfl, fun _ => rfl, hfl⟩⟩
    by_cases ce : lN u = 639022
    · rw [xe ce, me ce, e1, e2, gz_then_e, gz_then_e]
      obtain ⟨gx3, gm3, h1, h2, hor⟩ := g_span hP hs hi hF1 hp1
      rcases hor with ⟨X, Y, hF3, kd, v, bb, kb, d1, d2, d3, d4, d5, d6, d7, d8, d9, d10, d11⟩ | ⟨X, Y, hfl⟩
      · rw [X, Y, gz_call_e]
        simp only [gz_tcall_s]
        unfold gMay
        simp only [gz_ix_nI hi104 (show 104 < 2 ^ 31 by decide), d3, if_pos (show (4 : Int32) ≤ nI kd from (gn_ge 4 (a := kd)).mpr (by omega))]
        refine ⟨gx3, gm3, f1.tr (h1.w gsx_w), f2.tr (h2.w gsm_w), Or.inl ⟨rfl, fun _ => rfl, hF3, ?_⟩⟩
        have z2 : gx3.1 8 i 2 = 0 := ((h1 8 i 2 rfl).1).trans x2'
        have z12 : gm3.1 12 0 i = 0 := ((h2 12 0 i rfl).1).trans m12'
        refine ⟨by rw [(h1 8 i 0 rfl).2, (h2 13 0 i rfl).2]; exact hn', d2.trans d3.symm, z2.trans z12.symm, Or.inl z12, d8.trans d9.symm, kd, by omega, d3, fun h => by omega, fun _ => d5.trans d6.symm, fun _ => ⟨bb, v, kb, d7, d4, d9, d6, ?_, d11⟩⟩
        rw [show i - s + bb = 8 * P + bb by omega]
        exact d10
      · rw [X, Y, gz_call_e]
        simp only [gz_tcall_n]
        exact ⟨gx3, gm3, f1.tr (h1.w gsx_w), f2.tr (h2.w gsm_w), Or.inr ⟨rfl, fun _ => rfl, hfl⟩⟩
    rw [xf ca cb cc cd ce, mf ca cb cc cd ce]
    simp only [gz_tcall_n]
    exact ⟨_, _, gfa_fr rfl rfl, gst_fr rfl rfl, Or.inr ⟨rfl, fun _ => rfl, hF.fl (by decide)⟩⟩
  · have X : f_X4_readKind P i gx = some (0, gfa gx 1) := by
      unfold f_X4_readKind
      rw [gz_v_e, if_neg t1, x_fail, gz_call_e]
      rfl
    have Y : f_X11_readKind (nI P) (nI i) gm = some (none, gst gm 1) := by
      unfold f_X11_readKind
      rw [m_nsn t2, gz_tcall_n]
    rw [X, Y]
    simp only [gz_tcall_n]
    exact ⟨_, _, gfa_fr rfl rfl, gst_fr rfl rfl, Or.inr ⟨rfl, fun _ => rfl, hF.fl (by decide)⟩⟩
