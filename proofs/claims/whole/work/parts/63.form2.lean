/-! the words of a field that is one of some -/
theorem gbq (a b : Nat) : Nat.beq a b = decide (a = b) := by
  by_cases h : a = b
  · subst h
    simp
  · have : Nat.beq a b = false := by
      cases hb : Nat.beq a b with
      | false => rfl
      | true => exact absurd (Nat.eq_of_beq_eq_true hb) h
    rw [this]
    simp [h]
theorem gbl (a b : Nat) : Nat.ble a b = decide (a ≤ b) := by
  by_cases h : a ≤ b
  · rw [Nat.ble_eq_true_of_le h]
    simp [h]
  · have : Nat.ble a b = false := by
      cases hb : Nat.ble a b with
      | false => rfl
      | true => exact absurd (Nat.le_of_ble_eq_true hb) h
    rw [this]
    simp [h]
def gwx (i t i' k : Nat) : Bool := (Nat.beq t 3 && (Nat.ble 3 k && Nat.ble k 9)) || ((Nat.beq t 8 && Nat.beq k 6) && decide (i' = i)) || (Nat.beq t 9 && decide (i' = i))
def gwm (i t _ k : Nat) : Bool := (Nat.beq t 0 && (Nat.ble 16 k && Nat.ble k 20)) || Nat.beq t 6 || (Nat.beq t 10 && decide (k = i)) || (Nat.beq t 14 && decide (k / 4 = i))
theorem gwx_w {i : Nat} : ∀ t i' k, gix i t i' k = false → gwx i t i' k = false := by
  intro t i' k h
  unfold gix at h
  unfold gwx
  simp only [gbq, gbl, Bool.or_eq_false_iff, Bool.and_eq_false_iff, decide_eq_false_iff_not] at h ⊢
  omega
theorem gwm_w {i : Nat} : ∀ t i' k, gim i t i' k = false → gwm i t i' k = false := by
  intro t i' k h
  unfold gim at h
  unfold gwm
  simp only [gbq, gbl, Bool.or_eq_false_iff, Bool.and_eq_false_iff, decide_eq_false_iff_not] at h ⊢
  omega
theorem gtx_wx {i : Nat} : ∀ t i' k, gwx i t i' k = false → gtx t i' k = false := by
  intro t i' k h
  unfold gwx at h
  unfold gtx
  simp only [gbq, gbl, Bool.or_eq_false_iff, Bool.and_eq_false_iff, decide_eq_false_iff_not] at h ⊢
  omega
theorem gtm_wm {i : Nat} : ∀ t i' k, gwm i t i' k = false → gtm t i' k = false := by
  intro t i' k h
  unfold gwm at h
  unfold gtm
  simp only [gbq, gbl, Bool.or_eq_false_iff, Bool.and_eq_false_iff, decide_eq_false_iff_not] at h ⊢
  omega
def gWd (i w : Nat) (gx gm : gz_S) : Prop := w ≤ 4 ∧ gx.1 8 i 6 = nI w ∧ gm.1 10 0 i = nI w ∧ ∀ j, j < w → gx.2.1 9 i j = gm.2.1 14 0 (4 * i + j)
def gPP (px pm : Nat → Nat → Nat → Bool) (Q : gz_S → gz_S → Prop) (gx gm : gz_S) (X : Option (Int32 × gz_S)) (Y : Option (Option Unit × gz_S)) : Prop := ∃ gx' gm', gfr px gx gx' ∧ gfr pm gm gm' ∧ ((X = some (1, gx') ∧ Y = some (some (), gm') ∧ Q gx' gm') ∨ (X = some (0, gx') ∧ Y = some (none, gm') ∧ gFl gx' gm'))
theorem gfa_fr {p : Nat → Nat → Nat → Bool} {g : gz_S} {c : Int32} (h8 : p 3 0 8 = true) (h9 : p 3 0 9 = true) : gfr p g (gfa g c) := (gfr.rf.si h8).si h9
theorem gst_fr {p : Nat → Nat → Nat → Bool} {g : gz_S} {c : Int32} (h8 : p 6 0 6 = true) (h9 : p 6 0 7 = true) : gfr p g (gst g c) := (gfr.rf.si h8).si h9
theorem gn_4 (n k : Nat) : (4 : Int32) * nI n + nI k = nI (4 * n + k) := by
  rw [show (4 : Int32) * nI n = nI (4 * n) from pk_mul 4 n, nI_add]
theorem g_words {e i : Nat} {b : Nat → Nat} (hi : i < 104) : ∀ c w gx gm fx fm, w + c = 4 → c < fx → c + 1 < fm → gFs e b gx gm → gWd i w gx gm → gPP (gwx i) (gwm i) (fun gx' gm' => gFs e b gx' gm' ∧ ∃ w', gWd i w' gx' gm') gx gm (gz_l1 (f_X3_readWords_L2 i) fx (nI w) gx) (gz_l1 (f_X11_readChoices_L2 (nI i) f_X11_readChoices_J67 f_X11_readChoices_J41) fm 1 gm) := by
  intro c
  induction c with
  | zero =>
    intro w gx gm fx fm hc hfx hfm hF hW
    obtain ⟨fx, rfl⟩ : ∃ q, fx = q + 1 := ⟨fx - 1, by omega⟩
    obtain ⟨fm, rfl⟩ : ∃ q, fm = q + 1 := ⟨fm - 1, by omega⟩
    have hw4 : w = 4 := by omega
    subst hw4
    obtain ⟨-, w1, w2, w3⟩ := hW
    rw [gz_l1_s, gz_l1_s]
    generalize gz_l1 (f_X3_readWords_L2 i) fx = rx
    generalize gz_l1 (f_X11_readChoices_L2 (nI i) f_X11_readChoices_J67 f_X11_readChoices_J41) fm = rm
    unfold f_X3_readWords_L2 f_X11_readChoices_L2 f_X3_readOneWord
    rw [if_neg (show ¬ (4 : Int32) < nI 4 by decide), if_neg (show ¬ (1 : Int32) = 0 by decide)]
    rcases hF.2.2.1.w with ⟨k1, k2, ha, k, hk, v1, v2⟩ | ⟨k1, k2⟩
    · rw [if_pos k1, v1, x_placeOf3 (nm := fun j => gm.2.1 14 0 (4 * i + j)) (Nat.le_refl 4) w1 w3, gz_call_e, m_ns k2, gz_tcall_s, gz_j0_e]
      have hsc := gs_sc (F := f_X11_readChoices_L13 (nI i) (f_X11_readChoices_J57 (nI i) f_X11_readChoices_J67 rm) f_X11_readChoices_J41) (fun j => decide (gm.2.1 14 0 (4 * i + j) = lN k)) 4 (fun d => if d < 4 then f_X11_readChoices_J41 gm else f_X11_readChoices_J57 (nI i) f_X11_readChoices_J67 rm gm) gm (fun rec d hd => ?_) (fun rec => ?_) gz_fu 0 (by omega) (by show 4 - 0 < 20000; omega)
      · rw [show gz_l1 (f_X11_readChoices_L13 (nI i) (f_X11_readChoices_J57 (nI i) f_X11_readChoices_J67 rm) f_X11_readChoices_J41) gz_fu 0 gm = _ from hsc]
        have hgf : gfi (fun j => gm.2.1 14 0 (4 * i + j)) 4 (lN k) = if gs_ff (fun j => decide (gm.2.1 14 0 (4 * i + j) = lN k)) 4 0 < 4 then nI (gs_ff (fun j => decide (gm.2.1 14 0 (4 * i + j) = lN k)) 4 0) else -1 := rfl
        rw [hgf]
        generalize gs_ff (fun j => decide (gm.2.1 14 0 (4 * i + j) = lN k)) 4 0 = d
        by_cases hd : d < 4
        · rw [if_pos hd, if_pos hd, if_neg (gn_ne1 (by omega)), x_fail, gz_call_e, gz_call_e, if_pos (by decide)]
          exact ⟨gfa gx 3, gst gm 3, gfa_fr rfl rfl, gst_fr rfl rfl, Or.inr ⟨rfl, rfl, hF.fl (by decide)⟩⟩
        · rw [if_neg hd, if_neg hd, if_pos rfl, w1, if_neg (by decide), x_fail, gz_call_e, gz_call_e, if_pos (by decide)]
          unfold f_X11_readChoices_J57
          rw [gz_ix_nI hi (by decide), w2, if_pos (by decide)]
          exact ⟨gfa gx 5, gst gm 5, gfa_fr rfl rfl, gst_fr rfl rfl, Or.inr ⟨rfl, rfl, hF.fl (by decide)⟩⟩
      · unfold f_X11_readChoices_L13
        rw [gz_ix_nI hi (by decide), w2, if_neg (nI_ge hd (by omega)), gn_4, gz_ix_nI (show 4 * i + d < 416 by omega) (by decide), v2, nI_1]
        by_cases e : gm.2.1 14 0 (4 * i + d) = lN k
        · rw [if_pos ((lg_cmp_eq _ _).mpr e), if_pos (by simpa using e), if_pos hd]
        · rw [if_neg (fun q => e ((lg_cmp_eq _ _).mp q)), if_neg (by simpa using e)]
      · unfold f_X11_readChoices_L13
        rw [gz_ix_nI hi (by decide), w2, if_pos (nI_le (Nat.le_refl _) (by omega)), if_neg (Nat.lt_irrefl _)]
    · rw [if_neg k1, x_fail, gz_call_e, gz_call_e, if_pos (by decide), m_nsn k2, gz_tcall_n]
      exact ⟨gfa gx 1, gst gm 1, gfa_fr rfl rfl, gst_fr rfl rfl, Or.inr ⟨rfl, rfl, hF.fl (by decide)⟩⟩
  | succ c ih =>
    intro w gx gm fx fm hc hfx hfm hF hW
    obtain ⟨fx, rfl⟩ : ∃ q, fx = q + 1 := ⟨fx - 1, by omega⟩
    obtain ⟨fm, rfl⟩ : ∃ q, fm = q + 2 := ⟨fm - 2, by omega⟩
    have hw4 : w < 4 := by omega
    obtain ⟨-, w1, w2, w3⟩ := hW
    have ih' := fun gx gm => ih (w + 1) gx gm fx (fm + 1) (by omega) (by omega) (by omega)
    have hz : ∀ g, gz_l1 (f_X11_readChoices_L2 (nI i) f_X11_readChoices_J67 f_X11_readChoices_J41) (fm + 1) 0 g = some (some (), g) := fun g => by
      rw [gz_l1_s]
      unfold f_X11_readChoices_L2
      rw [if_pos rfl]
    rw [gz_l1_s, gz_l1_s]
    generalize gz_l1 (f_X3_readWords_L2 i) fx = rx at ih' ⊢
    generalize gz_l1 (f_X11_readChoices_L2 (nI i) f_X11_readChoices_J67 f_X11_readChoices_J41) (fm + 1) = rm at ih' hz ⊢
    unfold f_X3_readWords_L2 f_X11_readChoices_L2 f_X3_readOneWord
    rw [if_neg (fun q => by have := (gn_gt 4 (a := w)).mp q; omega), if_neg (show ¬ (1 : Int32) = 0 by decide)]
    rcases hF.2.2.1.w with ⟨k1, k2, ha, k, hk, v1, v2⟩ | ⟨k1, k2⟩
    · rw [if_pos k1, v1, x_placeOf3 (nm := fun j => gm.2.1 14 0 (4 * i + j)) (show w ≤ 4 by omega) w1 w3, gz_call_e, m_ns k2, gz_tcall_s, gz_j0_e]
      have hsc := gs_sc (F := f_X11_readChoices_L13 (nI i) (f_X11_readChoices_J57 (nI i) f_X11_readChoices_J67 rm) f_X11_readChoices_J41) (fun j => decide (gm.2.1 14 0 (4 * i + j) = lN k)) w (fun d => if d < w then f_X11_readChoices_J41 gm else f_X11_readChoices_J57 (nI i) f_X11_readChoices_J67 rm gm) gm (fun rec d hd => ?_) (fun rec => ?_) gz_fu 0 (by omega) (by show w - 0 < 20000; omega)
      · rw [show gz_l1 (f_X11_readChoices_L13 (nI i) (f_X11_readChoices_J57 (nI i) f_X11_readChoices_J67 rm) f_X11_readChoices_J41) gz_fu 0 gm = _ from hsc]
        have hgf : gfi (fun j => gm.2.1 14 0 (4 * i + j)) w (lN k) = if gs_ff (fun j => decide (gm.2.1 14 0 (4 * i + j) = lN k)) w 0 < w then nI (gs_ff (fun j => decide (gm.2.1 14 0 (4 * i + j) = lN k)) w 0) else -1 := rfl
        rw [hgf]
        generalize gs_ff (fun j => decide (gm.2.1 14 0 (4 * i + j) = lN k)) w 0 = d
        by_cases hd : d < w
        · rw [if_pos hd, if_pos hd, if_neg (gn_ne1 (by omega)), x_fail, gz_call_e, gz_call_e, if_pos (by decide)]
          exact ⟨gfa gx 3, gst gm 3, gfa_fr rfl rfl, gst_fr rfl rfl, Or.inr ⟨rfl, rfl, hF.fl (by decide)⟩⟩
        · rw [if_neg hd, if_neg hd, if_pos rfl, w1, if_pos ((gn_lt 4 (a := w)).mpr hw4), gz_ix_nI hw4 (by decide), gz_w_e, gz_w_e]
          unfold f_X11_readChoices_J57
          rw [gz_ix_nI hi (by decide), w2, if_neg (fun q => by have := (gn_eq 4 (a := w)).mp q; omega), gz_ix_nI hi (by decide), w2, gn_4, gz_ix_nI (show 4 * i + w < 416 by omega) (by decide), gz_w_e, gz_ix_nI hi (by decide), gz_ix_nI hi (by decide), gz_w_e, v2, v1]
          have ew : (gz_sj gx 9 i w (lN k)).1 8 i 6 = nI w := w1
          have em : (gz_sj gm 14 0 (4 * i + w) (lN k)).1 10 0 i = nI w := w2
          rw [ew, em, nI_1]
          have hpx : ∀ k', gwx i 9 i k' = true := fun k' => by
            unfold gwx
            simp [gbq]
          have hpx8 : gwx i 8 i 6 = true := by
            unfold gwx
            simp [gbq]
          have hpm10 : gwm i 10 0 i = true := by
            unfold gwm
            simp [gbq]
          have hpm14 : gwm i 14 0 (4 * i + w) = true := by
            unfold gwm
            have : (4 * i + w) / 4 = i := by omega
            simp [gbq, this]
          have f1 : gfr (gwx i) gx (gz_si (gz_sj gx 9 i w (lN k)) 8 i 6 (nI (w + 1))) := (gfr.rf.sj (hpx w)).si hpx8
          have f2 : gfr (gwm i) gm (gz_si (gz_sj gm 14 0 (4 * i + w) (lN k)) 10 0 i (nI (w + 1))) := (gfr.rf.sj hpm14).si hpm10
          have hF1 : gFs e b (gz_si (gz_sj gx 9 i w (lN k)) 8 i 6 (nI (w + 1))) (gz_si (gz_sj gm 14 0 (4 * i + w) (lN k)) 10 0 i (nI (w + 1))) := hF.gm ((gfr.rf.sj rfl).si rfl) ((gfr.rf.sj rfl).si rfl)
          have ha1 : gAt e (gz_si (gz_sj gx 9 i w (lN k)) 8 i 6 (nI (w + 1))) (gz_si (gz_sj gm 14 0 (4 * i + w) (lN k)) 10 0 i (nI (w + 1))) := ha
          have hW1 : gWd i (w + 1) (gz_si (gz_sj gx 9 i w (lN k)) 8 i 6 (nI (w + 1))) (gz_si (gz_sj gm 14 0 (4 * i + w) (lN k)) 10 0 i (nI (w + 1))) := by
            refine ⟨by omega, ?_, ?_, fun j hj => ?_⟩
            · rw [gz_si_1, if_pos ⟨rfl, rfl, rfl⟩]
            · rw [gz_si_1, if_pos ⟨rfl, rfl, rfl⟩]
            · rw [gz_si_2, gz_sj_21, gz_si_2, gz_sj_21]
              by_cases ej : j = w
              · rw [if_pos ⟨rfl, rfl, ej⟩, if_pos ⟨rfl, rfl, by omega⟩]
              · rw [if_neg (fun q => ej q.2.2), if_neg (fun q => by have := q.2.2; omega)]
                exact w3 j (by omega)
          generalize gz_si (gz_sj gx 9 i w (lN k)) 8 i 6 (nI (w + 1)) = gx1 at f1 hF1 ha1 hW1 ⊢
          generalize gz_si (gz_sj gm 14 0 (4 * i + w) (lN k)) 10 0 i (nI (w + 1)) = gm1 at f2 hF1 ha1 hW1 ⊢
          obtain ⟨gx2, gm2, e1, e2, g1, g2, hF2⟩ := g_next hF1 ha1
          rw [e1, gz_then_e, gz_call_e, if_neg (by decide), e2, gz_then_e]
          have f1' := f1.tr (g1.w gtx_wx)
          have f2' := f2.tr (g2.w gtm_wm)
          have hW2 : gWd i (w + 1) gx2 gm2 := ⟨hW1.1, ((g1 8 i 6 rfl).1).trans hW1.2.1, ((g2 10 0 i rfl).1).trans hW1.2.2.1, fun j hj => by rw [(g1 9 i j rfl).2, (g2 14 0 (4 * i + j) rfl).2]; exact hW1.2.2.2 j hj⟩
          rcases hF2.2.2.1.s 47 (by unfold gsg; omega) with ⟨q1, q2, ha2, q3⟩ | ⟨q1, q2⟩
          · obtain ⟨gx3, gm3, e3, e4, g3, g4, hF3⟩ := g_next hF2 ha2
            have q2' : f_X11_is 47 gm2 = some (1, gm2) := q2
            rw [if_pos (show gx2.1 3 0 4 = 47 from q1), q2', gz_call_e, if_neg (by decide), e3, gz_then_e, e4, gz_then_e]
            have hW3 : gWd i (w + 1) gx3 gm3 := ⟨hW2.1, ((g3 8 i 6 rfl).1).trans hW2.2.1, ((g4 10 0 i rfl).1).trans hW2.2.2.1, fun j hj => by rw [(g3 9 i j rfl).2, (g4 14 0 (4 * i + j) rfl).2]; exact hW2.2.2.2 j hj⟩
            obtain ⟨gx', gm', k5, k6, hor⟩ := ih' gx3 gm3 hF3 hW3
            exact ⟨gx', gm', (f1'.tr (g3.w gtx_wx)).tr k5, (f2'.tr (g4.w gtm_wm)).tr k6, hor⟩
          · have q2' : f_X11_is 47 gm2 = some (0, gm2) := q2
            rw [if_neg (show ¬ gx2.1 3 0 4 = 47 from q1), q2', gz_call_e, if_pos rfl, hz]
            exact ⟨gx2, gm2, f1', f2', Or.inl ⟨rfl, rfl, hF2, w + 1, hW2⟩⟩
      · unfold f_X11_readChoices_L13
        rw [gz_ix_nI hi (by decide), w2, if_neg (nI_ge hd (by omega)), gn_4, gz_ix_nI (show 4 * i + d < 416 by omega) (by decide), v2, nI_1]
        by_cases e : gm.2.1 14 0 (4 * i + d) = lN k
        · rw [if_pos ((lg_cmp_eq _ _).mpr e), if_pos (by simpa using e), if_pos hd]
        · rw [if_neg (fun q => e ((lg_cmp_eq _ _).mp q)), if_neg (by simpa using e)]
      · unfold f_X11_readChoices_L13
        rw [gz_ix_nI hi (by decide), w2, if_pos (nI_le (Nat.le_refl _) (by omega)), if_neg (Nat.lt_irrefl _)]
    · rw [if_neg k1, x_fail, gz_call_e, gz_call_e, if_pos (by decide), m_nsn k2, gz_tcall_n]
      exact ⟨gfa gx 1, gst gm 1, gfa_fr rfl rfl, gst_fr rfl rfl, Or.inr ⟨rfl, rfl, hF.fl (by decide)⟩⟩
