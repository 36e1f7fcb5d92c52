/-! form -/
def gpsx (t _ k : Nat) : Bool := Nat.beq t 3 && (Nat.ble 2 k && Nat.ble k 9)
def gpsm (t _ k : Nat) : Bool := Nat.beq t 0 && (Nat.beq k 3 || Nat.beq k 4 || (Nat.ble 14 k && Nat.ble k 20))
theorem gtx_s : ∀ t i' k, gpsx t i' k = false → gtx t i' k = false := by
  intro t i' k h
  unfold gpsx at h
  unfold gtx
  simp only [gbq, gbl, Bool.or_eq_false_iff, Bool.and_eq_false_iff, decide_eq_false_iff_not] at h ⊢
  omega
theorem gtm_s : ∀ t i' k, gpsm t i' k = false → gtm t i' k = false := by
  intro t i' k h
  unfold gpsm at h
  unfold gtm
  simp only [gbq, gbl, Bool.or_eq_false_iff, Bool.and_eq_false_iff, decide_eq_false_iff_not] at h ⊢
  omega
theorem x_max0 {n : Nat} {σ : gz_S} (hn : n < 2 ^ 31) : f_J9_max_7cf53 0 (nI n) σ = some (nI n, σ) := by
  unfold f_J9_max_7cf53
  by_cases h : ((0 : Int32) < nI n)
  · rw [if_pos h]
  · have : n = 0 := by
      have this : ¬ 0 < n := fun q => h ((gn_gt 0 (a := n)).mpr q)
      omega
    subst this
    rw [if_neg h]
    rfl
theorem x_min' {a b : Nat} {σ : gz_S} (hab : a ≤ b) (hb : b < 2 ^ 31) : f_J9_min_7cf53 (nI a) (nI b) σ = some (nI a, σ) := by
  have := x_min b (a := a) (σ := σ) (by omega) hb
  rw [Nat.min_eq_left hab] at this
  exact this
theorem g_start {σx σm : gz_S} (htp : ∀ k, σx.1 4 0 k = σm.1 7 0 k ∧ (σm.1 7 0 k).toInt8.toInt32 = σm.1 7 0 k) {n T : Nat} (hn : n ≤ T) (hT : T ≤ 400) (hT1 : σx.1 3 0 1 = nI T) : ∃ gx gm b, f_X8_start (nI n) σx = some gx ∧ f_X11_start (nI n) σm = some gm ∧ gfr gpsx σx gx ∧ gfr gpsm σm gm ∧ gFs n b gx gm ∧ gm.1 0 0 3 = 0 ∧ gm.1 0 0 14 = 0 := by
  have hb : ∀ k, ∃ n, gBy (σx.1 4 0 k) n ∧ σm.1 7 0 k &&& 255 = nI n := fun k => by
    obtain ⟨e1, e2⟩ := htp k
    obtain ⟨m, m1, m2⟩ := g_byte e2
    exact ⟨m, by rw [e1]; exact m1, m2⟩
  obtain ⟨b, hb⟩ : ∃ b : Nat → Nat, ∀ k, gBy (σx.1 4 0 k) (b k) ∧ σm.1 7 0 k &&& 255 = nI (b k) := ⟨fun k => (σm.1 7 0 k &&& 255).toInt.toNat, fun k => by
    obtain ⟨m, m1, m2⟩ := hb k
    have : (σm.1 7 0 k &&& 255).toInt.toNat = m := by
      rw [m2]
      exact gz_nI_tn (by have := m1.1; omega)
    show gBy (σx.1 4 0 k) (σm.1 7 0 k &&& 255).toInt.toNat ∧ σm.1 7 0 k &&& 255 = nI (σm.1 7 0 k &&& 255).toInt.toNat
    rw [this]
    exact ⟨m1, m2⟩⟩
  have hx : gEx n b (gz_si (gz_si (gz_si σx 3 0 2 (nI n)) 3 0 3 0) 3 0 8 0) := ⟨by omega, rfl, fun k _ => (hb k).1⟩
  have hm : gEm n b (gz_si (gz_si (gz_si (gz_si (gz_si σm 0 0 15 (nI n)) 0 0 14 0) 0 0 16 0) 0 0 3 0) 0 0 4 (-1)) := ⟨by omega, rfl, fun k _ => ⟨(hb k).1.1, (hb k).2⟩⟩
  have fx : gfr gpsx σx (gz_si (gz_si (gz_si σx 3 0 2 (nI n)) 3 0 3 0) 3 0 8 0) := ((gfr.rf.si rfl).si rfl).si rfl
  have fm : gfr gpsm σm (gz_si (gz_si (gz_si (gz_si (gz_si σm 0 0 15 (nI n)) 0 0 14 0) 0 0 16 0) 0 0 3 0) 0 0 4 (-1)) := ((((gfr.rf.si rfl).si rfl).si rfl).si rfl).si rfl
  obtain ⟨gx, gm, e1, e2, f1, f2, ht⟩ := g_step hx hm (Nat.zero_le n) rfl rfl
  refine ⟨gx, gm, b, ?_, ?_, fx.tr (f1.w gtx_s), fm.tr (f2.w gtm_s), ⟨hx.fr f1 rfl (fun _ => rfl), hm.fr f2 rfl (fun _ => rfl), ht, (f2 0 0 4 rfl).1, (f1 3 0 8 rfl).1⟩, (f2 0 0 3 rfl).1, (f2 0 0 14 rfl).1⟩
  · unfold f_X8_start
    rw [hT1, x_min' hn (by omega), gz_call_e, x_max0 (by omega), gz_call_e, gz_w_e, gz_w_e, gz_w_e, e1, gz_then_e]
  · unfold f_X11_start
    rw [gz_w_e, gz_w_e, gz_w_e, gz_w_e, gz_w_e, e2, gz_then_e]
def gFX (P t i k : Nat) : Bool := (Nat.beq t 3 && (Nat.ble 1 k && Nat.ble k 10)) || (Nat.beq t 6 && decide (i = P)) || ((Nat.beq t 8 || Nat.beq t 9) && decide (i / 8 = P))
def gFM (P t _ k : Nat) : Bool := (Nat.beq t 0 && (Nat.beq k 3 || Nat.beq k 4 || (Nat.ble 14 k && Nat.ble k 20))) || Nat.beq t 6 || (Nat.beq t 8 && decide (k = P)) || ((Nat.ble 9 t && Nat.ble t 13) && decide (k / 8 = P)) || (Nat.beq t 14 && decide (k / 32 = P))
theorem gFX_1 {P : Nat} : ∀ t i' k, gFX P t i' k = false → gpFx P t i' k = false ∧ gpsx t i' k = false := by
  intro t i' k h
  unfold gFX at h
  unfold gpFx gpsx
  simp only [gbq, gbl, Bool.or_eq_false_iff, Bool.and_eq_false_iff, decide_eq_false_iff_not] at h ⊢
  omega
theorem gFM_1 {P : Nat} : ∀ t i' k, gFM P t i' k = false → gpFm P t i' k = false ∧ gpsm t i' k = false := by
  intro t i' k h
  unfold gFM at h
  unfold gpFm gpsm
  simp only [gbq, gbl, Bool.or_eq_false_iff, Bool.and_eq_false_iff, decide_eq_false_iff_not] at h ⊢
  omega
theorem rF_old {P : Nat} {σx σm gx gm : gz_S} (h : ∀ f, f < P → rForm (σx.1 6) (σx.1 8) (σx.2.1 8) (σx.2.1 9) (σm.1 8 0) (σm.1 9 0) (σm.1 10 0) (σm.1 11 0) (σm.1 12 0) (σm.2.1 13 0) (σm.2.1 14 0) f) (hx : gfr (gFX P) σx gx) (hm : gfr (gFM P) σm gm) : ∀ f, f < P → rForm (gx.1 6) (gx.1 8) (gx.2.1 8) (gx.2.1 9) (gm.1 8 0) (gm.1 9 0) (gm.1 10 0) (gm.1 11 0) (gm.1 12 0) (gm.2.1 13 0) (gm.2.1 14 0) f := by
  intro f hf
  obtain ⟨s, hs, s1, s2, hk⟩ := h f hf
  have p6 : gFX P 6 f 1 = false := by
    unfold gFX
    have : ¬ f = P := by omega
    simp [gbq, this]
  have p8 : gFM P 8 0 f = false := by
    unfold gFM
    have : ¬ f = P := by omega
    simp [gbq, gbl, this]
  refine ⟨s, hs, ((hx 6 f 1 p6).1).trans s1, ((hm 8 0 f p8).1).trans s2, fun k hks => ?_⟩
  have px : ∀ t j, t = 8 ∨ t = 9 → gFX P t (8 * f + k) j = false := by
    intro t j ht
    unfold gFX
    have : ¬ (8 * f + k) / 8 = P := by omega
    rcases ht with rfl | rfl <;> simp [gbq, this]
  have pm : ∀ t, 9 ≤ t ∧ t ≤ 13 → ∀ j, j / 8 ≠ P → gFM P t 0 j = false := by
    intro t ht j hj
    unfold gFM
    have h2 : ¬ t = 0 := by omega
    have h3 : ¬ t = 6 := by omega
    have h4 : ¬ t = 14 := by omega
    have h5 : ¬ t = 8 := by omega
    simp [gbq, hj, h2, h3, h4, h5]
  refine (hk k hks).cg (fun j => (hx 8 (8 * f + k) j (px 8 j (Or.inl rfl))).1) (hx 8 (8 * f + k) 0 (px 8 0 (Or.inl rfl))).2 (fun j => (hx 9 (8 * f + k) j (px 9 j (Or.inr rfl))).2) (hm 9 0 _ (pm 9 (by omega) _ (by omega))).1 (hm 10 0 _ (pm 10 (by omega) _ (by omega))).1 (hm 11 0 _ (pm 11 (by omega) _ (by omega))).1 (hm 12 0 _ (pm 12 (by omega) _ (by omega))).1 (hm 13 0 _ (pm 13 (by omega) _ (by omega))).2 (fun j hj => ?_) (fun b hb => (hm 9 0 _ (pm 9 (by omega) _ (by omega))).1)
  refine (hm 14 0 _ ?_).2
  unfold gFM
  have h1 : ¬ (4 * (8 * f + k) + j) / 32 = P := by omega
  simp [gbq, gbl, h1]
theorem rV_old {N P : Nat} {fo : Nat → Nat} {y15 : Nat → Nat → Int64} {m21 : Nat → Int64} {m25 : Nat → Int32} {σm gm : gz_S} (h : ∀ n, n < N → rNoteV n fo y15 (σm.1 8 0) (σm.1 9 0) m21 m25) (hfo : ∀ n, n < N → fo n < P) (hm : gfr (gFM P) σm gm) : ∀ n, n < N → rNoteV n fo y15 (gm.1 8 0) (gm.1 9 0) m21 m25 := by
  intro n hn k hk
  have hf := hfo n hn
  rcases h n hn k hk with q | ⟨q1, q2, q3, q4⟩
  · exact Or.inl q
  · refine Or.inr ⟨q1, q2, q3, fun s kb e1 hs hks e2 hkb => q4 s kb ?_ hs hks ?_ hkb⟩
    · rw [← (hm 8 0 (fo n) (by
        unfold gFM
        have : ¬ fo n = P := by omega
        simp [gbq, gbl, this])).1]
      exact e1
    · rw [← (hm 9 0 (8 * fo n + k) (by
        unfold gFM
        have : ¬ (8 * fo n + k) / 8 = P := by omega
        simp [gbq, gbl, this])).1]
      exact e2
theorem hN60 {F P N : Nat} {fo la : Nat → Nat} (h : gB F P N fo la) : N ≤ 60 := h.2.2.1
theorem g_form_keep {F P N I : Nat} {fo la : Nat → Nat} {L : List gA} {σx σm gx' gm' : gz_S} (h : rAll F P N I fo la L σx σm) (ex : gx' = gov (gFX P) σx gx') (em : gm' = gov (gFM P) σm gm') (FX : gfr (gFX P) σx gx') (FM : gfr (gFM P) σm gm') (hfm : ∀ f, f < P → rForm (gx'.1 6) (gx'.1 8) (gx'.2.1 8) (gx'.2.1 9) (gm'.1 8 0) (gm'.1 9 0) (gm'.1 10 0) (gm'.1 11 0) (gm'.1 12 0) (gm'.2.1 13 0) (gm'.2.1 14 0) f) (hvm : ∀ n, n < N → rNoteV n fo (σx.2.1 15) (gm'.1 8 0) (gm'.1 9 0) (σm.2.1 21 0) (σm.1 25 0)) {w : Int32} (htr : rTr w (gx'.1 3 0 8) (gx'.1 3 0 9) (gx'.1 3 0 10) w (-1) (gm'.1 0 0 3) (gm'.1 0 0 4)) (m14 : gm'.1 0 0 14 = 0) (p1 : gx'.1 0 0 3 = nI P) (p2 : gm'.1 0 0 21 = nI P) : rAll F P N I fo la L (gz_si (gz_si gx' 3 0 1 0) 0 0 10 w) (gz_si (gz_si gm' 0 0 1 w) 0 0 2 (-1)) := by
  refine ⟨?_, htr, ⟨?_, 0, by omega, rfl, ?_⟩, ⟨p1, p2, hfm⟩, ?_, ?_, ?_, ?_, ?_, ?_, ?_, ?_⟩
  · rw [ex, em]
    exact h.1
  · rw [ex, em]
    exact h.2.2.1.1
  · show gm'.1 0 0 14 = nI 0
    rw [m14]
    rfl
  · rw [ex, em]
    exact h.2.2.2.2.1
  · rw [ex, em]
    exact h.2.2.2.2.2.1
  · rw [ex, em]
    exact h.2.2.2.2.2.2.1
  · have e15 : gx'.2.1 15 = σx.2.1 15 := funext fun i => funext fun k => (FX 15 i k rfl).2
    have e21 : gm'.2.1 21 0 = σm.2.1 21 0 := funext fun k => (FM 21 0 k rfl).2
    have e25 : gm'.1 25 0 = σm.1 25 0 := funext fun k => (FM 25 0 k rfl).1
    show ∀ n, n < N → rNoteV n fo (gx'.2.1 15) (gm'.1 8 0) (gm'.1 9 0) (gm'.2.1 21 0) (gm'.1 25 0)
    rw [e15, e21, e25]
    exact hvm
  · rw [ex, em]
    exact h.2.2.2.2.2.2.2.2.1
  · rw [ex, em]
    exact h.2.2.2.2.2.2.2.2.2.1
  · rw [ex, em]
    exact h.2.2.2.2.2.2.2.2.2.2.1
  · rw [em]
    exact h.2.2.2.2.2.2.2.2.2.2.2
theorem g_form_keep2 {F P N I : Nat} {fo la : Nat → Nat} {L : List gA} {σx σm gx' gm' : gz_S} (h : rAll F P N I fo la L σx σm) (ex : gx' = gov (gFX P) σx gx') (em : gm' = gov (gFM P) σm gm') (FX : gfr (gFX P) σx gx') (FM : gfr (gFM P) σm gm') (hfm : ∀ f, f < P → rForm (gx'.1 6) (gx'.1 8) (gx'.2.1 8) (gx'.2.1 9) (gm'.1 8 0) (gm'.1 9 0) (gm'.1 10 0) (gm'.1 11 0) (gm'.1 12 0) (gm'.2.1 13 0) (gm'.2.1 14 0) f) (hvm : ∀ n, n < N → rNoteV n fo (σx.2.1 15) (gm'.1 8 0) (gm'.1 9 0) (σm.2.1 21 0) (σm.1 25 0)) (htr : rTr 4 (gx'.1 3 0 8) (gx'.1 3 0 9) (gx'.1 3 0 10) 4 (gm'.1 6 0 7) (gm'.1 6 0 6) (gm'.1 0 0 4)) (m14 : gm'.1 0 0 14 = 0) (p1 : gx'.1 0 0 3 = nI P) (p2 : gm'.1 0 0 21 = nI P) : rAll F P N I fo la L (gz_si (gz_si gx' 3 0 1 0) 0 0 10 4) (gz_si (gz_si (gz_si gm' 0 0 3 (gm'.1 6 0 6)) 0 0 1 4) 0 0 2 (gm'.1 6 0 7)) := by
  refine ⟨?_, htr, ⟨?_, 0, by omega, rfl, ?_⟩, ⟨p1, p2, hfm⟩, ?_, ?_, ?_, ?_, ?_, ?_, ?_, ?_⟩
  · rw [ex, em]
    exact h.1
  · rw [ex, em]
    exact h.2.2.1.1
  · show gm'.1 0 0 14 = nI 0
    rw [m14]
    rfl
  · rw [ex, em]
    exact h.2.2.2.2.1
  · rw [ex, em]
    exact h.2.2.2.2.2.1
  · rw [ex, em]
    exact h.2.2.2.2.2.2.1
  · have e15 : gx'.2.1 15 = σx.2.1 15 := funext fun i => funext fun k => (FX 15 i k rfl).2
    have e21 : gm'.2.1 21 0 = σm.2.1 21 0 := funext fun k => (FM 21 0 k rfl).2
    have e25 : gm'.1 25 0 = σm.1 25 0 := funext fun k => (FM 25 0 k rfl).1
    show ∀ n, n < N → rNoteV n fo (gx'.2.1 15) (gm'.1 8 0) (gm'.1 9 0) (gm'.2.1 21 0) (gm'.1 25 0)
    rw [e15, e21, e25]
    exact hvm
  · rw [ex, em]
    exact h.2.2.2.2.2.2.2.2.1
  · rw [ex, em]
    exact h.2.2.2.2.2.2.2.2.2.1
  · rw [ex, em]
    exact h.2.2.2.2.2.2.2.2.2.2.1
  · rw [em]
    exact h.2.2.2.2.2.2.2.2.2.2.2
theorem gz_tcatch_s {γ δ : Type} (r : γ) (u : gz_S) (f : γ → gz_S → Option δ) (g : gz_S → Option δ) : gz_tcatch (some (some r, u)) f g = f r u := Eq.trans rfl rfl
theorem gz_tcatch_n {γ δ : Type} (u : gz_S) (f : γ → gz_S → Option δ) (g : gz_S → Option δ) : gz_tcatch (some (none, u)) f g = g u := Eq.trans rfl rfl
set_option maxHeartbeats 2000000 in
theorem s_form {σx σm : gz_S} (h : gR σx σm) (a : Int32) : gQ (f_X9_form a σx) (f_X11_form a σm) := by
  obtain ⟨F, P, N, I, fo, la, L, h⟩ := h
  unfold f_X9_form f_X11_form f_X8_holds
  rw [gz_w_e]
  replace h := h.th 0
  generalize gz_si σm 0 0 0 0 = σm at h ⊢
  have hR : gR σx σm := ⟨F, P, N, I, fo, la, L, h⟩
  obtain ⟨-, T, hT, t1, t2⟩ := h.2.2.1
  have hB := h.2.2.2.2.2.2.2.2.2.2.2.B
  have hP := hB.2.1
  rw [t1, t2]
  have hrefuse : gQ (gz_call (f_X9_refused 2 σx) fun r17 σ16 => some (r17, σ16)) (gz_call (f_X11_refused 2 σm) fun r3 σ2 => some (r3, σ2)) := gQ_mk rfl rfl (gR.tr hR (by decide))
  rcases g_ixc a (c := T + 1) (by omega) with h' | ⟨h1, h2, h3⟩ | ⟨n, hn, rfl, h1, h2, h3⟩
  · rw [if_pos h', gz_call_e, if_pos (by decide), if_pos h']
    exact hrefuse
  · have hlt : nI T < a := by
      have q2 := Int32.le_iff_toInt_le.mp h2
      rw [nI_toInt (by omega)] at q2
      exact Int32.lt_iff_toInt_lt.mpr (by rw [nI_toInt (by omega)]; omega)
    rw [if_neg h1, if_pos hlt, gz_call_e, if_pos (by decide), if_neg h1, if_neg (g_nle hlt)]
    exact hrefuse
  · rw [if_neg h1, if_neg (nI_nlt (show n ≤ T by omega) (by omega)), gz_call_e, if_neg (by decide), if_neg h1, if_pos (nI_le (show n ≤ T by omega) (by omega))]
    obtain ⟨gx, gm, b, e1, e2, f1, f2, hF, m3, m14⟩ := g_start h.2.2.1.1 (show n ≤ T by omega) hT t1
    rw [e1, gz_then_e, e2, gz_then_e]
    obtain ⟨p1, p2, pf⟩ := h.2.2.2.1
    have p1' : gx.1 0 0 3 = nI P := ((f1 0 0 3 rfl).1).trans p1
    have p2' : gm.1 0 0 21 = nI P := ((f2 0 0 21 rfl).1).trans p2
    unfold f_X4_readAll f_X11_readForm
    rw [p1', gz_ix_nI (show P < 13 by omega) (by decide), gz_w_e, p2', gz_v_e, gz_ix_nI (show P < 13 by omega) (by decide), gz_w_e, gz_j0_e, gz_j0_e]
    have q6 : gpFx P 6 P 1 = true := by
      unfold gpFx
      simp [gbq]
    have q8 : gpFm P 8 0 P = true := by
      unfold gpFm
      simp [gbq]
    have hF1 : gFs n b (gz_si gx 6 P 1 0) (gz_si gm 8 0 P 0) := by
      have h1 := hF.gm (gx' := gx) (gm' := gz_si gm 8 0 P 0) gfr.rf (gfr.rf.si rfl)
      exact h1
    have hp0 : gPv P 0 (gz_si gx 6 P 1 0) (gz_si gm 8 0 P 0) := ⟨by omega, by rw [gz_si_1, if_pos ⟨rfl, rfl, rfl⟩]; rfl, by rw [gz_si_1, if_pos ⟨rfl, rfl, rfl⟩]; rfl, fun k hk => by omega⟩
    obtain ⟨gx', gm', f3, f4, hor⟩ := g_fields (e := n) (b := b) (P := P) (by omega) 8 0 _ _ gz_fu gz_fu (by omega) (by show 8 < 20000; omega) (by show 9 < 20000; omega) hF1 hp0
    have f5 : gfr (gpFx P) gx gx' := (gfr.rf.si q6).tr f3
    have f6 : gfr (gpFm P) gm gm' := (gfr.rf.si q8).tr f4
    have FX : gfr (gFX P) σx gx' := (f1.w (fun t i k q => (gFX_1 t i k q).2)).tr (f5.w (fun t i k q => (gFX_1 t i k q).1))
    have FM : gfr (gFM P) σm gm' := (f2.w (fun t i k q => (gFM_1 t i k q).2)).tr (f6.w (fun t i k q => (gFM_1 t i k q).1))
    have m3' : gm'.1 0 0 3 = 0 := ((f6 0 0 3 rfl).1).trans m3
    have m14' : gm'.1 0 0 14 = 0 := ((f6 0 0 14 rfl).1).trans m14
    have hfm := rF_old pf FX FM
    have hvm := rV_old h.2.2.2.2.2.2.2.1 (fun n hn => (hB.2.2.2 n hn).1) FM
    have ex := gov_eq FX
    have em := gov_eq FM
    rcases hor with ⟨X, Y, x8, m4, s, hp⟩ | ⟨X, Y, hfl⟩
    · have X' : gz_l1 (f_X4_readAll_L7 P) gz_fu 0 (gz_si gx 6 P 1 0) = some (1, gx') := X
      rw [X', gz_call_e, Y, gz_tcatch_s, gz_w_e, if_neg (by decide)]
      have p1'' : (gz_si gx' 3 0 1 0).1 0 0 3 = nI P := ((FX 0 0 3 rfl).1).trans p1
      have p2'' : gm'.1 0 0 21 = nI P := ((FM 0 0 21 rfl).1).trans p2
      rw [p1'', p2'']
      by_cases h12 : P < 12
      · rw [if_pos ((gn_lt 12 (a := P)).mpr h12), if_neg (fun q => by have := (gn_eq 12 (a := P)).mp q; omega)]
        have hA0 : rActs L ((gz_si gx' 3 0 1 0).1 27 0) ((gz_si gx' 3 0 1 0).1 28 0) ((gz_si gx' 3 0 1 0).2.1 29 0) ((gz_si gx' 3 0 1 0).2.1 30 0) ((gz_si gx' 3 0 1 0).1 26 0 4) ((gz_si gx' 3 0 1 0).1 26 0 5) (gm'.1 1 0) (gm'.1 2 0) (gm'.2.1 3 0) (gm'.2.1 4 0) (gm'.1 0 0 9) := by
          rw [ex, em]
          exact h.2.2.2.2.2.2.2.2.2.1
        obtain ⟨ax, am, ep, ea, hA'⟩ := g_push (L := L) (σx := gz_si gx' 3 0 1 0) (σm := gm') ((1 : Int32), nI P, 0, 0) hA0
        have ep' : f_X0_push 1 (nI P) 0 0 (gz_si gx' 3 0 1 0) = some (gov gpx (gz_si gx' 3 0 1 0) ax) := ep
        have ea' : f_X11_act 1 (nI P) 0 0 gm' = some (gov gpm gm' am) := ea
        rw [ep', gz_then_e, ea', gz_then_e, gz_w_e, gz_w_e]
        have r1 : (gov gpx (gz_si gx' 3 0 1 0) ax).1 0 0 3 = nI P := p1''
        have r2 : (gov gpm gm' am).1 0 0 21 = nI P := p2''
        rw [r1, r2, nI_1]
        have r3 : (gz_si (gov gpx (gz_si gx' 3 0 1 0) ax) 0 0 3 (nI (P + 1))).1 0 0 3 = nI (P + 1) := rfl
        have r4 : (gz_si (gov gpm gm' am) 0 0 21 (nI (P + 1))).1 0 0 21 = nI (P + 1) := rfl
        rw [r3, r4, gn_back]
        unfold f_X9_accepted f_X11_done
        rw [gz_w_e, gz_call_e, gz_w_e, gz_w_e, gz_call_e]
        have hfm2 : ∀ f, f < P + 1 → rForm (gx'.1 6) (gx'.1 8) (gx'.2.1 8) (gx'.2.1 9) (gm'.1 8 0) (gm'.1 9 0) (gm'.1 10 0) (gm'.1 11 0) (gm'.1 12 0) (gm'.2.1 13 0) (gm'.2.1 14 0) f := by
          intro f hf
          by_cases ef : f = P
          · subst ef
            exact ⟨s, hp.1, hp.2.1, hp.2.2.1, hp.2.2.2⟩
          · exact hfm f (by omega)
        have hnew : rAll F (P + 1) N I fo la (((1 : Int32), nI P, (0 : Int64), (0 : Int64)) :: L |>.take 100) (gz_si (gz_si (gov gpx (gz_si gx' 3 0 1 0) ax) 0 0 3 (nI (P + 1))) 0 0 10 0) (gz_si (gz_si (gz_si (gov gpm gm' am) 0 0 21 (nI (P + 1))) 0 0 1 0) 0 0 2 (-1)) := by
          refine ⟨?_, ⟨rfl, ?_, rfl, ?_⟩, ⟨?_, 0, by omega, rfl, ?_⟩, ⟨rfl, rfl, hfm2⟩, ?_, ?_, ?_, ?_, ?_, hA', ?_, ?_⟩
          · rw [ex, em]
            exact h.1
          · show gx'.1 3 0 8 = gm'.1 0 0 3
            rw [x8, m3']
          · show gm'.1 0 0 4 = if gm'.1 0 0 3 = 6 then _ else -1
            rw [m3', if_neg (by decide), m4]
          · rw [ex, em]
            exact h.2.2.1.1
          · show gm'.1 0 0 14 = nI 0
            rw [m14']
            rfl
          · rw [ex, em]
            exact h.2.2.2.2.1
          · rw [ex, em]
            exact h.2.2.2.2.2.1
          · rw [ex, em]
            exact h.2.2.2.2.2.2.1
          · have e15 : gx'.2.1 15 = σx.2.1 15 := funext fun i => funext fun k => (FX 15 i k rfl).2
            have e21 : gm'.2.1 21 0 = σm.2.1 21 0 := funext fun k => (FM 21 0 k rfl).2
            have e25 : gm'.1 25 0 = σm.1 25 0 := funext fun k => (FM 25 0 k rfl).1
            show ∀ n, n < N → rNoteV n fo (gx'.2.1 15) (gm'.1 8 0) (gm'.1 9 0) (gm'.2.1 21 0) (gm'.1 25 0)
            rw [e15, e21, e25]
            exact hvm
          · rw [ex, em]
            exact h.2.2.2.2.2.2.2.2.1
          · rw [ex, em]
            exact h.2.2.2.2.2.2.2.2.2.2.1
          · have hil : gIL L F (gm'.1 5 0) P N fo la := by
              rw [em]
              exact h.2.2.2.2.2.2.2.2.2.2.2
            exact gIL.take _ 100 ⟨⟨hB.1, by omega, hN60 hB, fun n hn => ⟨by have := (hB.2.2.2 n hn).1; omega, (hB.2.2.2 n hn).2⟩⟩, Or.inr (Or.inr (Or.inl ⟨rfl, P, rfl, rfl, hil⟩))⟩
        exact gQ_mk rfl rfl ⟨F, P + 1, N, I, fo, la, _, hnew⟩
      · rw [if_neg (fun q => h12 ((gn_lt 12 (a := P)).mp q)), if_pos ((gn_eq 12 (a := P)).mpr (by omega))]
        refine gQ_mk rfl rfl ⟨F, P, N, I, fo, la, L, ?_⟩
        exact g_form_keep h ex em FX FM hfm hvm ⟨rfl, x8.trans m3'.symm, rfl, (show gm'.1 0 0 4 = if gm'.1 0 0 3 = 6 then _ else -1 by rw [m3', if_neg (by decide), m4])⟩ m14' p1'' p2''
    · have X' : gz_l1 (f_X4_readAll_L7 P) gz_fu 0 (gz_si gx 6 P 1 0) = some (0, gx') := X
      rw [X', gz_call_e, Y, gz_tcatch_n, gz_w_e, if_pos rfl]
      obtain ⟨l1, l2, l3⟩ := hfl
      have p1'' : (gz_si gx' 3 0 1 0).1 0 0 3 = nI P := ((FX 0 0 3 rfl).1).trans p1
      have p2'' : gm'.1 0 0 21 = nI P := ((FM 0 0 21 rfl).1).trans p2
      refine gQ_mk rfl rfl ⟨F, P, N, I, fo, la, L, ?_⟩
      refine g_form_keep2 h ex em FX FM hfm hvm ⟨rfl, l1, l2.symm, ?_⟩ m14' p1'' p2''
      show gm'.1 0 0 4 = if gm'.1 6 0 6 = 6 then gx'.1 3 0 10 else -1
      rcases l3 with ⟨q1, q2⟩ | ⟨q1, q2⟩
      · rw [if_neg q1, q2]
      · rw [if_pos q1, q2]
