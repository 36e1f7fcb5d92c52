/-! notices: entries -/
def gnx (N t i k : Nat) : Bool := (Nat.beq t 3 && (Nat.ble 3 k && Nat.ble k 10)) || (Nat.beq t 15 && decide (i = N))
def gnm (N t _ k : Nat) : Bool := (Nat.beq t 0 && (Nat.beq k 4 || (Nat.ble 16 k && Nat.ble k 20))) || Nat.beq t 6 || ((Nat.beq t 21 || Nat.beq t 25) && decide (k / 8 = N))
theorem gtx_n {N : Nat} : ∀ t i' k, gnx N t i' k = false → gtx t i' k = false := by
  intro t i' k h
  unfold gnx at h
  unfold gtx
  simp only [gbq, gbl, Bool.or_eq_false_iff, Bool.and_eq_false_iff, decide_eq_false_iff_not] at h ⊢
  omega
theorem gtm_n {N : Nat} : ∀ t i' k, gnm N t i' k = false → gtm t i' k = false := by
  intro t i' k h
  unfold gnm at h
  unfold gtm
  simp only [gbq, gbl, Bool.or_eq_false_iff, Bool.and_eq_false_iff, decide_eq_false_iff_not] at h ⊢
  omega
theorem gnx_t {N k : Nat} : gnx N 15 N k = true := by
  unfold gnx
  simp [gbq]
theorem gnm_t {N t k : Nat} (h : t = 21 ∨ t = 25) (hk : k < 8) : gnm N t 0 (8 * N + k) = true := by
  unfold gnm
  have : (8 * N + k) / 8 = N := by omega
  rcases h with rfl | rfl <;> simp [gbq, this]
theorem gPv.frn {f s N : Nat} {gx gm gx' gm' : gz_S} (h : gPv f s gx gm) (hx : gfr (gnx N) gx gx') (hm : gfr (gnm N) gm gm') : gPv f s gx' gm' := by
  unfold gPv at h ⊢
  have x6 : gx'.1 6 = gx.1 6 := funext fun i => funext fun k => (hx 6 i k rfl).1
  have x8 : gx'.1 8 = gx.1 8 := funext fun i => funext fun k => (hx 8 i k rfl).1
  have y8 : gx'.2.1 8 = gx.2.1 8 := funext fun i => funext fun k => (hx 8 i k rfl).2
  have y9 : gx'.2.1 9 = gx.2.1 9 := funext fun i => funext fun k => (hx 9 i k rfl).2
  have m8 : gm'.1 8 0 = gm.1 8 0 := funext fun k => (hm 8 0 k rfl).1
  have m9 : gm'.1 9 0 = gm.1 9 0 := funext fun k => (hm 9 0 k rfl).1
  have m10 : gm'.1 10 0 = gm.1 10 0 := funext fun k => (hm 10 0 k rfl).1
  have m11 : gm'.1 11 0 = gm.1 11 0 := funext fun k => (hm 11 0 k rfl).1
  have m12 : gm'.1 12 0 = gm.1 12 0 := funext fun k => (hm 12 0 k rfl).1
  have m13 : gm'.2.1 13 0 = gm.2.1 13 0 := funext fun k => (hm 13 0 k rfl).2
  have m14 : gm'.2.1 14 0 = gm.2.1 14 0 := funext fun k => (hm 14 0 k rfl).2
  rw [x6, x8, y8, y9, m8, m9, m10, m11, m12, m13, m14]
  exact h
/-- what stands in the fresh notice -/
def gVv (N f : Nat) (gx gm : gz_S) : Prop := rNoteV N (fun _ => f) (gx.2.1 15) (gm.1 8 0) (gm.1 9 0) (gm.2.1 21 0) (gm.1 25 0)
theorem gVv.tk {N f : Nat} {gx gm gx' gm' : gz_S} (h : gVv N f gx gm) (hx : gfr gtx gx gx') (hm : gfr gtm gm gm') : gVv N f gx' gm' := by
  unfold gVv at h ⊢
  have y15 : gx'.2.1 15 = gx.2.1 15 := funext fun i => funext fun k => (hx 15 i k rfl).2
  have m8 : gm'.1 8 0 = gm.1 8 0 := funext fun k => (hm 8 0 k rfl).1
  have m9 : gm'.1 9 0 = gm.1 9 0 := funext fun k => (hm 9 0 k rfl).1
  have m21 : gm'.2.1 21 0 = gm.2.1 21 0 := funext fun k => (hm 21 0 k rfl).2
  have m25 : gm'.1 25 0 = gm.1 25 0 := funext fun k => (hm 25 0 k rfl).1
  rw [y15, m8, m9, m21, m25]
  exact h
def gcs (N : Nat) (gm : gz_S) : Nat := gs_cn (fun k => decide (gm.1 25 0 (8 * N + k) = 1)) 8 0
theorem gcs_tk {N : Nat} {gm gm' : gz_S} (hm : gfr gtm gm gm') : gcs N gm' = gcs N gm := by
  unfold gcs
  have m25 : gm'.1 25 0 = gm.1 25 0 := funext fun k => (hm 25 0 k rfl).1
  rw [m25]
def gEnt (a1 v1 : Int32) (σ32 : gz_S) (j : gz_S → Option (Option Unit × gz_S)) : Option (Option Unit × gz_S) :=
  gz_tcall (f_X11_needSort 2 σ32) (fun r33 σ34 =>
  gz_call (f_X11_fieldOf a1 (σ34.2.1 0 0 20) σ34) (fun r36 σ35 =>
  if r36 = (-1) then
  (f_X11_readNotice_J75 σ35)
  else
  (gz_ix ((8 * a1) + r36) 104 (fun n37 =>
  if (σ35.1 9 0 n37) < 4 then
  (gz_ix ((8 * v1) + r36) 488 (fun n38 =>
  if (σ35.1 25 0 n38) = 0 then
  (gz_then (f_X11_next σ35) (fun σ39 =>
  gz_tcall (f_X11_need 61 σ39) (fun r40 σ41 =>
  gz_j0 (fun σ42 =>
    gz_tcall (f_X11_valueBy ((8 * a1) + r36) σ42) (fun r43 σ44 =>
    gz_ix ((8 * v1) + r36) 488 (fun n45 =>
    gz_w (gz_sj σ44 21 0 n45 r43) (fun σ46 =>
    gz_ix ((8 * v1) + r36) 488 (fun n47 =>
    gz_w (gz_si σ46 25 0 n47 ((1 : Int32) &&& 1)) (fun σ48 =>
    gz_then (f_X11_next σ48) j)))))) (fun j146 =>
  if (σ41.1 0 0 17) = 2 then
  (j146 σ41)
  else
  (if (σ41.1 0 0 17) = 3 then
  (j146 σ41)
  else
  (f_X11_readNotice_J136 σ41))))))
  else
  (f_X11_readNotice_J100 σ35)))
  else
  (f_X11_readNotice_J75 σ35)))))
theorem m_entry (a1 v1 : Int32) (rec : Int32 → gz_S → Option (Option Unit × gz_S)) (σ : gz_S) : f_X11_readNotice_L33 a1 v1 (f_X11_readNotice_J204 a1 v1) f_X11_readNotice_J75 f_X11_readNotice_J136 f_X11_readNotice_J100 rec 1 σ = gEnt a1 v1 σ (fun σ49 => gz_call (f_X11_is 59 σ49) (fun r51 σ50 => gz_j0 (f_X11_readNotice_J201 r51 rec) (fun j201 => if r51 = 0 then (j201 σ50) else (gz_then (f_X11_next σ50) (fun σ53 => j201 σ53))))) := by
  unfold f_X11_readNotice_L33 gEnt f_X11_readNotice_J146
  rw [if_neg (by decide)]
set_option maxHeartbeats 2000000 in
theorem g_entry {e f s N : Nat} {b : Nat → Nat} {gx gm : gz_S} (hf : f < 13) (hN : N < 61) (hF : gFs e b gx gm) (hp : gPv f s gx gm) (hV : gVv N f gx gm) : ∃ gx' gm', gfr (gnx N) gx gx' ∧ gfr (gnm N) gm gm' ∧ ((f_X4_readEntry f N gx = some (1, gx') ∧ (∀ j, gEnt (nI f) (nI N) gm j = j gm') ∧ gFs e b gx' gm' ∧ gVv N f gx' gm' ∧ gcs N gm' = gcs N gm + 1) ∨ (f_X4_readEntry f N gx = some (0, gx') ∧ (∀ j, gEnt (nI f) (nI N) gm j = some (none, gm')) ∧ gFl gx' gm')) := by
  unfold f_X4_readEntry gEnt
  rcases hF.2.2.1.w with ⟨t1, t2, ha, u, hu, v1, v2⟩ | ⟨t1, t2⟩
  · rw [if_pos t1, m_ns t2, v1]
    simp only [gz_tcall_s, v2]
    rw [x_placeOf (nm := fun k => gm.2.1 13 0 (8 * f + k)) hp.1 hp.2.1 (fun k hk => (hp.kd hk).1), gz_call_e, m_fieldOf (nm := fun k => gm.2.1 13 0 (8 * f + k)) hf hp.1 hp.2.2.1 (fun k hk => rfl)]
    simp only [gz_call_e]
    rcases gfi_or (fun k => gm.2.1 13 0 (8 * f + k)) s (lN u) with ⟨r1, -⟩ | ⟨k, hk, r1, -⟩
    · rw [r1, if_pos rfl, x_fail, gz_call_e]
      simp only [if_pos (show (-1 : Int32) = -1 from rfl)]
      exact ⟨_, _, gfa_fr rfl rfl, gst_fr rfl rfl, Or.inr ⟨rfl, fun _ => rfl, hF.fl (c := 2) (by decide)⟩⟩
    · have hs8 := hp.1
      obtain ⟨-, kd, hkd, c1, c2⟩ := hp.kd hk
      rw [r1, if_neg (gn_ne1 (by omega)), gz_ix_nI (show k < 8 by omega) (by decide), x_isSpan hkd c1, gz_call_e, gz_ix_nI (show k < 8 by omega) (by decide)]
      simp only [if_neg (show ¬ nI k = -1 from gn_ne1 (by omega)), gn_8, gz_ix_nI (show 8 * f + k < 104 by omega) (show 104 < 2 ^ 31 by decide), gz_ix_nI (show 8 * N + k < 488 by omega) (show 488 < 2 ^ 31 by decide), c2]
      by_cases h4 : 4 ≤ kd
      · rw [if_pos h4, if_neg (by decide), x_fail, gz_call_e]
        simp only [if_neg (show ¬ nI kd < 4 from fun q => by have := (gn_lt 4 (a := kd)).mp q; omega)]
        exact ⟨_, _, gfa_fr rfl rfl, gst_fr rfl rfl, Or.inr ⟨rfl, fun _ => rfl, hF.fl (c := 2) (by decide)⟩⟩
      · rw [if_neg h4, if_pos rfl]
        simp only [if_pos (show nI kd < 4 from (gn_lt 4 (a := kd)).mpr (by omega))]
        rcases hV k (by omega) with ⟨d1, d2⟩ | ⟨d1, d2, d3, -⟩
        · rw [d2, if_pos (by decide), d1]
          simp only [if_pos (show (0 : Int32) = 0 from rfl)]
          obtain ⟨gx1, gm1, e1, e2, g1, g2, hF1⟩ := g_next hF ha
          rw [e1, gz_then_e, e2]
          simp only [gz_then_e]
          rcases hF1.2.2.1.s 61 (by unfold gsg; omega) with ⟨q1, q2, ha1, q3⟩ | ⟨q1, q2⟩
          · obtain ⟨gx2, gm2, e3, e4, g3, g4, hF2⟩ := g_next hF1 ha1
            rw [x_take_y (e := e) (b := b) (show gx1.1 3 0 4 = 61 from q1) e3, gz_call_e, if_neg (by decide), m_need_y (c := 61) q2 e4]
            simp only [gz_tcall_s, gz_j0_e]
            have F1 : gfr (gnx N) gx gx2 := (g1.w gtx_n).tr (g3.w gtx_n)
            have F2 : gfr (gnm N) gm gm2 := (g2.w gtm_n).tr (g4.w gtm_n)
            have hp2 := hp.frn F1 F2
            have hV2 := (hV.tk g1 g2).tk g3 g4
            have hc2 : gcs N gm2 = gcs N gm := (gcs_tk g4).trans (gcs_tk g2)
            have hkd2 : gm2.1 9 0 (8 * f + k) = nI kd := ((F2 9 0 (8 * f + k) rfl).1).trans c2
            have body : (gx2.1 3 0 4 = 1 ∨ gx2.1 3 0 4 = 2) → gAt e gx2 gm2 → ∃ gx' gm', gfr (gnx N) gx gx' ∧ gfr (gnm N) gm gm' ∧ ((f_X4_readEntry_J99 (nI k) f N gx2 = some (1, gx') ∧ (∀ j : gz_S → Option (Option Unit × gz_S), gz_tcall (f_X11_valueBy (nI (8 * f + k)) gm2) (fun r43 σ44 => gz_w (gz_sj σ44 21 0 (8 * N + k) r43) (fun σ46 => gz_w (gz_si σ46 25 0 (8 * N + k) ((1 : Int32) &&& 1)) (fun σ48 => gz_then (f_X11_next σ48) j))) = j gm') ∧ gFs e b gx' gm' ∧ gVv N f gx' gm' ∧ gcs N gm' = gcs N gm + 1) ∨ (f_X4_readEntry_J99 (nI k) f N gx2 = some (0, gx') ∧ (∀ j : gz_S → Option (Option Unit × gz_S), gz_tcall (f_X11_valueBy (nI (8 * f + k)) gm2) (fun r43 σ44 => gz_w (gz_sj σ44 21 0 (8 * N + k) r43) (fun σ46 => gz_w (gz_si σ46 25 0 (8 * N + k) ((1 : Int32) &&& 1)) (fun σ48 => gz_then (f_X11_next σ48) j))) = some (none, gm')) ∧ gFl gx' gm')) := by
              intro htk ha2
              unfold f_X4_readEntry_J99
              simp only [gz_ix_nI (show k < 8 by omega) (show 8 < 2 ^ 31 by decide)]
              rcases g_val (i := 8 * f + k) (by omega) hF2 (hp2.2.2.2 k hk) (show kd < 4 by omega) hkd2 htk with ⟨r, w1, w2, w3, w4⟩ | ⟨w1, w2⟩
              · rw [w1, gz_call_e, gz_w_e, w2]
                simp only [gz_tcall_s, gz_w_e]
                have y1 : (gz_sj gx2 15 N k r).2.1 15 N k = r := by rw [gz_sj_21, if_pos ⟨rfl, rfl, rfl⟩]
                rw [y1, if_neg (fun q => w3 ((lg_cmp_eq _ _).mp q))]
                have F3 : gfr (gnx N) gx (gz_sj gx2 15 N k r) := F1.sj gnx_t
                have F4 : gfr (gnm N) gm (gz_si (gz_sj gm2 21 0 (8 * N + k) r) 25 0 (8 * N + k) ((1 : Int32) &&& 1)) := (F2.sj (gnm_t (Or.inl rfl) (by omega))).si (gnm_t (Or.inr rfl) (by omega))
                have hF3 : gFs e b (gz_sj gx2 15 N k r) (gz_si (gz_sj gm2 21 0 (8 * N + k) r) 25 0 (8 * N + k) ((1 : Int32) &&& 1)) := hF2.gm (gfr.rf.sj rfl) ((gfr.rf.sj rfl).si rfl)
                have ha3 : gAt e (gz_sj gx2 15 N k r) (gz_si (gz_sj gm2 21 0 (8 * N + k) r) 25 0 (8 * N + k) ((1 : Int32) &&& 1)) := ha2
                have hV3 : gVv N f (gz_sj gx2 15 N k r) (gz_si (gz_sj gm2 21 0 (8 * N + k) r) 25 0 (8 * N + k) ((1 : Int32) &&& 1)) := by
                  intro j hj
                  by_cases ej : j = k
                  · subst ej
                    refine Or.inr ⟨?_, ?_, ?_, fun s' kb a1 a2 a3 a4 a5 => ?_⟩
                    · rw [gz_si_1, if_pos ⟨rfl, rfl, rfl⟩]
                      decide
                    · rw [gz_si_2, gz_sj_21, gz_sj_21, if_pos ⟨rfl, rfl, rfl⟩, if_pos ⟨rfl, rfl, rfl⟩]
                    · rw [gz_si_2, gz_sj_21, if_pos ⟨rfl, rfl, rfl⟩]
                      exact w3
                    · have a4' : gm2.1 9 0 (8 * f + j) = nI kb := a4
                      have hkb : kb = kd := by
                        have hlt : kb < 6 := by omega
                        exact (nI_eq (by omega) (by omega)).mp (a4'.symm.trans hkd2)
                      obtain ⟨v, z1, z2⟩ := w4 (by omega)
                      refine ⟨v, by omega, ?_⟩
                      rw [gz_si_2, gz_sj_21, if_pos ⟨rfl, rfl, rfl⟩, z2]
                  · have b1 : (gz_si (gz_sj gm2 21 0 (8 * N + k) r) 25 0 (8 * N + k) ((1 : Int32) &&& 1)).1 25 0 (8 * N + j) = gm2.1 25 0 (8 * N + j) := by
                      rw [gz_si_1, if_neg (fun q => by have := q.2.2; omega)]
                      rfl
                    have b2 : (gz_si (gz_sj gm2 21 0 (8 * N + k) r) 25 0 (8 * N + k) ((1 : Int32) &&& 1)).2.1 21 0 (8 * N + j) = gm2.2.1 21 0 (8 * N + j) := by
                      rw [gz_si_2, gz_sj_21, if_neg (fun q => by have := q.2.2; omega)]
                    have b3 : (gz_sj gx2 15 N k r).2.1 15 N j = gx2.2.1 15 N j := by rw [gz_sj_21, if_neg (fun q => ej q.2.2)]
                    rw [b1, b2, b3]
                    exact hV2 j hj
                have hc3 : gcs N (gz_si (gz_sj gm2 21 0 (8 * N + k) r) 25 0 (8 * N + k) ((1 : Int32) &&& 1)) = gcs N gm + 1 := by
                  have z0 : gm2.1 25 0 (8 * N + k) = 0 := by
                    rw [(g4 25 0 (8 * N + k) rfl).1, (g2 25 0 (8 * N + k) rfl).1]
                    exact d1
                  have hset := (gs_cn_set (w := fun j => decide (gm2.1 25 0 (8 * N + j) = 1)) (w' := fun j => decide ((gz_si (gz_sj gm2 21 0 (8 * N + k) r) 25 0 (8 * N + k) ((1 : Int32) &&& 1)).1 25 0 (8 * N + j) = 1)) (d := k) (fun j hj => by
                    rw [gz_si_1, if_neg (fun q => by have := q.2.2; omega)]
                    rfl) 8 0).1 (by omega) (by omega)
                  have w1 : decide ((gz_si (gz_sj gm2 21 0 (8 * N + k) r) 25 0 (8 * N + k) ((1 : Int32) &&& 1)).1 25 0 (8 * N + k) = 1) = true := by
                    rw [gz_si_1, if_pos ⟨rfl, rfl, rfl⟩]
                    decide
                  have w0 : decide (gm2.1 25 0 (8 * N + k) = 1) = false := by
                    rw [z0]
                    decide
                  simp only [w1, w0, if_true, Bool.false_eq_true, if_false] at hset
                  have : gcs N gm2 = gs_cn (fun j => decide (gm2.1 25 0 (8 * N + j) = 1)) 8 0 := rfl
                  show gs_cn (fun j => decide ((gz_si (gz_sj gm2 21 0 (8 * N + k) r) 25 0 (8 * N + k) ((1 : Int32) &&& 1)).1 25 0 (8 * N + j) = 1)) 8 0 = _
                  omega
                generalize gz_sj gx2 15 N k r = gx3 at F3 hF3 ha3 hV3 ⊢
                generalize gz_si (gz_sj gm2 21 0 (8 * N + k) r) 25 0 (8 * N + k) ((1 : Int32) &&& 1) = gm3 at F4 hF3 ha3 hV3 hc3 ⊢
                obtain ⟨gx4, gm4, e5, e6, g5, g6, hF4⟩ := g_next hF3 ha3
                rw [e5, gz_then_e, e6]
                simp only [gz_then_e]
                exact ⟨gx4, gm4, F3.tr (g5.w gtx_n), F4.tr (g6.w gtm_n), Or.inl ⟨rfl, fun _ => rfl, hF4, hV3.tk g5 g6, (gcs_tk g6).trans hc3⟩⟩
              · rw [w1, gz_call_e, gz_w_e, w2]
                simp only [gz_tcall_n]
                have y1 : (gz_sj gx2 15 N k (-1)).2.1 15 N k = -1 := by rw [gz_sj_21, if_pos ⟨rfl, rfl, rfl⟩]
                have hF3 : gFs e b (gz_sj gx2 15 N k (-1)) gm2 := hF2.gm (gfr.rf.sj rfl) gfr.rf
                rw [y1, if_pos (by decide), x_fail, gz_call_e]
                exact ⟨_, _, (F1.sj gnx_t).tr (gfa_fr rfl rfl), F2.tr (gst_fr rfl rfl), Or.inr ⟨rfl, fun _ => rfl, hF3.fl (c := 4) (by decide)⟩⟩
            rcases hF2.2.2.1.w with ⟨t3, t4, ha2, -⟩ | ⟨t3, t4⟩
            · rw [if_pos t3]
              simp only [if_pos t4]
              exact body (Or.inl t3) ha2
            · rw [if_neg t3]
              simp only [if_neg t4]
              rcases hF2.2.2.1.n with ⟨t5, t6, ha2, -⟩ | ⟨t5, t6⟩
              · rw [if_pos t5]
                simp only [if_pos t6]
                exact body (Or.inr t5) ha2
              · rw [if_neg t5, x_fail, gz_call_e]
                simp only [if_neg t6]
                exact ⟨_, _, F1.tr (gfa_fr rfl rfl), F2.tr (gst_fr rfl rfl), Or.inr ⟨rfl, fun _ => rfl, hF2.fl (c := 1) (by decide)⟩⟩
          · rw [x_take_n (show gx1.1 3 0 4 ≠ 61 from q1), gz_call_e, if_pos rfl, m_need_n (c := 61) q2]
            simp only [gz_tcall_n]
            exact ⟨_, _, (g1.w gtx_n).tr (gfa_fr rfl rfl), (g2.w gtm_n).tr (gst_fr rfl rfl), Or.inr ⟨rfl, fun _ => rfl, hF1.fl (c := 1) (by decide)⟩⟩
        · rw [d2, if_neg (fun q => d3 ((lg_cmp_eq _ _).mp q)), x_fail, gz_call_e, d1]
          simp only [if_neg (show ¬ (1 : Int32) = 0 by decide)]
          exact ⟨_, _, gfa_fr rfl rfl, gst_fr rfl rfl, Or.inr ⟨rfl, fun _ => rfl, hF.fl (c := 3) (by decide)⟩⟩
  · rw [if_neg t1, x_fail, gz_call_e, m_nsn t2]
    simp only [gz_tcall_n]
    exact ⟨_, _, gfa_fr rfl rfl, gst_fr rfl rfl, Or.inr ⟨rfl, fun _ => rfl, hF.fl (c := 1) (by decide)⟩⟩
