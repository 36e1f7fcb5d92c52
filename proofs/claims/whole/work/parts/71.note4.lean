/-! notice -/
def gNX (N t i k : Nat) : Bool := (Nat.beq t 3 && (Nat.ble 1 k && Nat.ble k 10)) || ((Nat.beq t 14 || Nat.beq t 15) && decide (i = N))
def gNM (N t _ k : Nat) : Bool := (Nat.beq t 0 && (Nat.beq k 3 || Nat.beq k 4 || (Nat.ble 14 k && Nat.ble k 20))) || Nat.beq t 6 || ((Nat.beq t 21 || Nat.beq t 25) && decide (k / 8 = N))
theorem gNX_1 {N : Nat} : ∀ t i' k, gNX N t i' k = false → gnx N t i' k = false ∧ gpsx t i' k = false ∧ gb14 N t i' k = false := by
  intro t i' k h
  unfold gNX at h
  unfold gnx gpsx gb14
  simp only [gbq, gbl, Bool.or_eq_false_iff, Bool.and_eq_false_iff, decide_eq_false_iff_not] at h ⊢
  omega
theorem gNM_1 {N : Nat} : ∀ t i' k, gNM N t i' k = false → gnm N t i' k = false ∧ gpsm t i' k = false ∧ gb25 N t i' k = false := by
  intro t i' k h
  unfold gNM at h
  unfold gnm gpsm gb25
  simp only [gbq, gbl, Bool.or_eq_false_iff, Bool.and_eq_false_iff, decide_eq_false_iff_not] at h ⊢
  omega
theorem gPv.fr0 {f s : Nat} {px pm : Nat → Nat → Nat → Bool} {gx gm gx' gm' : gz_S} (h : gPv f s gx gm) (hx : gfr px gx gx') (hm : gfr pm gm gm') (p6 : ∀ i k, px 6 i k = false) (p8 : ∀ i k, px 8 i k = false) (p9 : ∀ i k, px 9 i k = false) (q8 : ∀ k, pm 8 0 k = false) (q9 : ∀ k, pm 9 0 k = false) (q10 : ∀ k, pm 10 0 k = false) (q11 : ∀ k, pm 11 0 k = false) (q12 : ∀ k, pm 12 0 k = false) (q13 : ∀ k, pm 13 0 k = false) (q14 : ∀ k, pm 14 0 k = false) : gPv f s gx' gm' := by
  unfold gPv at h ⊢
  have x6 : gx'.1 6 = gx.1 6 := funext fun i => funext fun k => (hx 6 i k (p6 i k)).1
  have x8 : gx'.1 8 = gx.1 8 := funext fun i => funext fun k => (hx 8 i k (p8 i k)).1
  have y8 : gx'.2.1 8 = gx.2.1 8 := funext fun i => funext fun k => (hx 8 i k (p8 i k)).2
  have y9 : gx'.2.1 9 = gx.2.1 9 := funext fun i => funext fun k => (hx 9 i k (p9 i k)).2
  have m8 : gm'.1 8 0 = gm.1 8 0 := funext fun k => (hm 8 0 k (q8 k)).1
  have m9 : gm'.1 9 0 = gm.1 9 0 := funext fun k => (hm 9 0 k (q9 k)).1
  have m10 : gm'.1 10 0 = gm.1 10 0 := funext fun k => (hm 10 0 k (q10 k)).1
  have m11 : gm'.1 11 0 = gm.1 11 0 := funext fun k => (hm 11 0 k (q11 k)).1
  have m12 : gm'.1 12 0 = gm.1 12 0 := funext fun k => (hm 12 0 k (q12 k)).1
  have m13 : gm'.2.1 13 0 = gm.2.1 13 0 := funext fun k => (hm 13 0 k (q13 k)).2
  have m14 : gm'.2.1 14 0 = gm.2.1 14 0 := funext fun k => (hm 14 0 k (q14 k)).2
  rw [x6, x8, y8, y9, m8, m9, m10, m11, m12, m13, m14]
  exact h
theorem rNoteV.cg {n : Nat} {fo fo' : Nat → Nat} {y y' : Nat → Nat → Int64} {m8 m9 m25 m25' : Nat → Int32} {m21 m21' : Nat → Int64} (h : rNoteV n fo y m8 m9 m21 m25) (hf : fo' n = fo n) (hy : ∀ k, k < 8 → y' n k = y n k) (h21 : ∀ k, k < 8 → m21' (8 * n + k) = m21 (8 * n + k)) (h25 : ∀ k, k < 8 → m25' (8 * n + k) = m25 (8 * n + k)) : rNoteV n fo' y' m8 m9 m21' m25' := by
  intro k hk
  rw [hy k hk, h21 k hk, h25 k hk, hf]
  exact h k hk
theorem rV_note {N : Nat} {fo : Nat → Nat} {σx σm gx' gm' : gz_S} (h : ∀ n, n < N → rNoteV n fo (σx.2.1 15) (σm.1 8 0) (σm.1 9 0) (σm.2.1 21 0) (σm.1 25 0)) (FX : gfr (gNX N) σx gx') (FM : gfr (gNM N) σm gm') : ∀ n, n < N → rNoteV n fo (gx'.2.1 15) (gm'.1 8 0) (gm'.1 9 0) (gm'.2.1 21 0) (gm'.1 25 0) := by
  intro n hn
  have m8 : gm'.1 8 0 = σm.1 8 0 := funext fun k => (FM 8 0 k rfl).1
  have m9 : gm'.1 9 0 = σm.1 9 0 := funext fun k => (FM 9 0 k rfl).1
  rw [m8, m9]
  refine (h n hn).cg rfl (fun k hk => (FX 15 n k ?_).2) (fun k hk => (FM 21 0 _ ?_).2) (fun k hk => (FM 25 0 _ ?_).1)
  · unfold gNX
    have : ¬ n = N := by omega
    simp [gbq, this]
  · unfold gNM
    have : ¬ (8 * n + k) / 8 = N := by omega
    simp [gbq, this]
  · unfold gNM
    have : ¬ (8 * n + k) / 8 = N := by omega
    simp [gbq, this]
theorem gNX_14 {N j k : Nat} (h : j ≠ N) : gNX N 14 j k = false := by
  unfold gNX
  simp [gbq, h]
theorem g_note_keep {F P N I : Nat} {fo la : Nat → Nat} {L : List gA} {σx σm gx' gm' : gz_S} (h : rAll F P N I fo la L σx σm) (ex : gx' = gov (gNX N) σx gx') (em : gm' = gov (gNM N) σm gm') (FX : gfr (gNX N) σx gx') (FM : gfr (gNM N) σm gm') {w : Int32} (htr : rTr w (gx'.1 3 0 8) (gx'.1 3 0 9) (gx'.1 3 0 10) w (-1) (gm'.1 0 0 3) (gm'.1 0 0 4)) (m14 : gm'.1 0 0 14 = 0) : rAll F P N I fo la L (gz_si (gz_si gx' 3 0 1 0) 0 0 10 w) (gz_si (gz_si gm' 0 0 1 w) 0 0 2 (-1)) := by
  refine ⟨?_, htr, ⟨?_, 0, by omega, rfl, ?_⟩, ?_, ?_, ?_, ?_, ?_, ?_, ?_, ?_, ?_⟩
  · rw [ex, em]
    exact h.1
  · rw [ex, em]
    exact h.2.2.1.1
  · show gm'.1 0 0 14 = nI 0
    rw [m14]
    rfl
  · rw [ex, em]
    exact h.2.2.2.1
  · rw [ex, em]
    exact h.2.2.2.2.1
  · exact rNA (σx' := gz_si (gz_si gx' 3 0 1 0) 0 0 10 w) (σm' := gz_si (gz_si gm' 0 0 1 w) 0 0 2 (-1)) (fo' := fo) (la' := la) N h.2.2.2.2.2.1 (fun j hj k => ⟨(FX 14 j k (gNX_14 hj)).1, (FX 14 j k (gNX_14 hj)).2⟩) (fun j hj => ⟨(FM 15 0 j rfl).1, (FM 16 0 j rfl).1, (FM 17 0 j rfl).1, (FM 18 0 j rfl).1, (FM 19 0 j rfl).1, (FM 20 0 j rfl).1, (FM 22 0 j rfl).2, (FM 23 0 j rfl).2, (FM 24 0 j rfl).2⟩) (fun i hi => (FM 29 0 i rfl).1) (fun j hj => ⟨rfl, rfl⟩) (fun j hj _ => hj) (fun q => absurd q (Nat.lt_irrefl _))
  · rw [ex, em]
    exact h.2.2.2.2.2.2.1
  · have hv := rV_note (gx' := gx') (gm' := gm') h.2.2.2.2.2.2.2.1 FX FM
    exact hv
  · rw [ex, em]
    exact h.2.2.2.2.2.2.2.2.1
  · rw [ex, em]
    exact h.2.2.2.2.2.2.2.2.2.1
  · rw [ex, em]
    exact h.2.2.2.2.2.2.2.2.2.2.1
  · rw [em]
    exact h.2.2.2.2.2.2.2.2.2.2.2
theorem g_note_keep2 {F P N I : Nat} {fo la : Nat → Nat} {L : List gA} {σx σm gx' gm' : gz_S} (h : rAll F P N I fo la L σx σm) (ex : gx' = gov (gNX N) σx gx') (em : gm' = gov (gNM N) σm gm') (FX : gfr (gNX N) σx gx') (FM : gfr (gNM N) σm gm') (htr : rTr 4 (gx'.1 3 0 8) (gx'.1 3 0 9) (gx'.1 3 0 10) 4 (gm'.1 6 0 7) (gm'.1 6 0 6) (gm'.1 0 0 4)) (m14 : gm'.1 0 0 14 = 0) : rAll F P N I fo la L (gz_si (gz_si gx' 3 0 1 0) 0 0 10 4) (gz_si (gz_si (gz_si gm' 0 0 3 (gm'.1 6 0 6)) 0 0 1 4) 0 0 2 (gm'.1 6 0 7)) := by
  refine ⟨?_, htr, ⟨?_, 0, by omega, rfl, ?_⟩, ?_, ?_, ?_, ?_, ?_, ?_, ?_, ?_, ?_⟩
  · rw [ex, em]
    exact h.1
  · rw [ex, em]
    exact h.2.2.1.1
  · show gm'.1 0 0 14 = nI 0
    rw [m14]
    rfl
  · rw [ex, em]
    exact h.2.2.2.1
  · rw [ex, em]
    exact h.2.2.2.2.1
  · exact rNA (σx' := gz_si (gz_si gx' 3 0 1 0) 0 0 10 4) (σm' := gz_si (gz_si (gz_si gm' 0 0 3 (gm'.1 6 0 6)) 0 0 1 4) 0 0 2 (gm'.1 6 0 7)) (fo' := fo) (la' := la) N h.2.2.2.2.2.1 (fun j hj k => ⟨(FX 14 j k (gNX_14 hj)).1, (FX 14 j k (gNX_14 hj)).2⟩) (fun j hj => ⟨(FM 15 0 j rfl).1, (FM 16 0 j rfl).1, (FM 17 0 j rfl).1, (FM 18 0 j rfl).1, (FM 19 0 j rfl).1, (FM 20 0 j rfl).1, (FM 22 0 j rfl).2, (FM 23 0 j rfl).2, (FM 24 0 j rfl).2⟩) (fun i hi => (FM 29 0 i rfl).1) (fun j hj => ⟨rfl, rfl⟩) (fun j hj _ => hj) (fun q => absurd q (Nat.lt_irrefl _))
  · rw [ex, em]
    exact h.2.2.2.2.2.2.1
  · have hv := rV_note (gx' := gx') (gm' := gm') h.2.2.2.2.2.2.2.1 FX FM
    exact hv
  · rw [ex, em]
    exact h.2.2.2.2.2.2.2.2.1
  · rw [ex, em]
    exact h.2.2.2.2.2.2.2.2.2.1
  · rw [ex, em]
    exact h.2.2.2.2.2.2.2.2.2.2.1
  · rw [em]
    exact h.2.2.2.2.2.2.2.2.2.2.2
def gNw (N : Nat) (a1 a3 a4 : Int32) (g : gz_S) : gz_S := gz_sj (gz_sj (gz_sj (gz_si (gz_si (gz_si (gz_si (gz_si (gz_si g 15 0 N a1) 16 0 N a3) 17 0 N a4) 18 0 N (-1)) 19 0 N 0) 20 0 N (-1)) 22 0 N 0) 23 0 N 0) 24 0 N 0
theorem g_note_new {F P N I T : Nat} {fo la : Nat → Nat} {L : List gA} {σx σm gx' gm' ax am : gz_S} (h : rAll F P N I fo la L σx σm) (ex : gx' = gov (gNX N) σx gx') (em : gm' = gov (gNM N) σm gm') (FX : gfr (gNX N) σx gx') (FM : gfr (gNM N) σm gm') {f l d : Nat} (hf : f < P) (hN : N < 60) (hl : 1 ≤ l ∧ l ≤ 60) (hd : d < 10000) (x8 : gx'.1 3 0 8 = 0) (m3 : gm'.1 0 0 3 = 0) (m4 : gm'.1 0 0 4 = -1) (m14 : gm'.1 0 0 14 = 0) (hV : gVv N f gx' gm') (b0 : gx'.1 14 N 0 = nI f) (b1 : gx'.1 14 N 1 = nI l) (b2 : gx'.1 14 N 2 = nI d) (b3 : gx'.1 14 N 3 = -1) (b6 : gx'.1 14 N 6 = 0) (b10 : gx'.1 14 N 10 = -1) (b11 : gx'.2.1 14 N 11 = 0) (b12 : gx'.2.1 14 N 12 = 0) (b13 : gx'.2.1 14 N 13 = 0) (hA : rActs (((2 : Int32), nI N, (0 : Int64), (0 : Int64)) :: L |>.take 100) (ax.1 27 0) (ax.1 28 0) (ax.2.1 29 0) (ax.2.1 30 0) (ax.1 26 0 4) (ax.1 26 0 5) (am.1 1 0) (am.1 2 0) (am.2.1 3 0) (am.2.1 4 0) (am.1 0 0 9)) : rAll F P (N + 1) I (gun fo N f) (gun la N 0) (((2 : Int32), nI N, (0 : Int64), (0 : Int64)) :: L |>.take 100) (gz_si (gz_si (gov gpx (gz_si gx' 3 0 1 0) ax) 10 0 1 (nI (N + 1))) 0 0 10 0) (gz_si (gz_si (gz_si (gov gpm (gNw N (nI f) (nI l) (nI d) gm') am) 0 0 29 (nI (N + 1))) 0 0 1 0) 0 0 2 (-1)) := by
  have hB := h.2.2.2.2.2.2.2.2.2.2.2.B
  have hmj : ∀ (t : Nat) (v : Int32) (g : gz_S) (j : Nat), j ≠ N → (gz_si g t 0 N v).1 t 0 j = g.1 t 0 j := fun t v g j hj => by rw [gz_si_1, if_neg (fun q => hj q.2.2)]
  refine ⟨?_, ⟨rfl, ?_, rfl, ?_⟩, ⟨?_, 0, by omega, rfl, ?_⟩, ?_, ⟨rfl, rfl⟩, ?_, ?_, ?_, ?_, hA, ?_, ?_⟩
  · rw [ex, em]
    exact h.1
  · show gx'.1 3 0 8 = gm'.1 0 0 3
    rw [x8, m3]
  · show gm'.1 0 0 4 = if gm'.1 0 0 3 = 6 then _ else -1
    rw [m3, if_neg (by decide), m4]
  · rw [ex, em]
    exact h.2.2.1.1
  · show gm'.1 0 0 14 = nI 0
    rw [m14]
    rfl
  · rw [ex, em]
    exact h.2.2.2.1
  · refine rNA (σx' := gz_si (gz_si (gov gpx (gz_si gx' 3 0 1 0) ax) 10 0 1 (nI (N + 1))) 0 0 10 0) (σm' := gz_si (gz_si (gz_si (gov gpm (gNw N (nI f) (nI l) (nI d) gm') am) 0 0 29 (nI (N + 1))) 0 0 1 0) 0 0 2 (-1)) (fo' := gun fo N f) (la' := gun la N 0) N h.2.2.2.2.2.1 (fun j hj k => ⟨(FX 14 j k (gNX_14 hj)).1, (FX 14 j k (gNX_14 hj)).2⟩) (fun j hj => ⟨?_, ?_, ?_, ?_, ?_, ?_, ?_, ?_, ?_⟩) (fun i hi => (FM 29 0 i rfl).1) (fun j hj => ⟨gun_ne _ hj, gun_ne _ hj⟩) (fun j hj hne => by omega) (fun _ => ?_)
    · show (if 15 = 15 ∧ 0 = 0 ∧ j = N then nI f else gm'.1 15 0 j) = _
      rw [if_neg (fun q => hj q.2.2)]
      exact (FM 15 0 j rfl).1
    · show (if 16 = 16 ∧ 0 = 0 ∧ j = N then nI l else gm'.1 16 0 j) = _
      rw [if_neg (fun q => hj q.2.2)]
      exact (FM 16 0 j rfl).1
    · show (if 17 = 17 ∧ 0 = 0 ∧ j = N then nI d else gm'.1 17 0 j) = _
      rw [if_neg (fun q => hj q.2.2)]
      exact (FM 17 0 j rfl).1
    · show (if 18 = 18 ∧ 0 = 0 ∧ j = N then (-1 : Int32) else gm'.1 18 0 j) = _
      rw [if_neg (fun q => hj q.2.2)]
      exact (FM 18 0 j rfl).1
    · show (if 19 = 19 ∧ 0 = 0 ∧ j = N then (0 : Int32) else gm'.1 19 0 j) = _
      rw [if_neg (fun q => hj q.2.2)]
      exact (FM 19 0 j rfl).1
    · show (if 20 = 20 ∧ 0 = 0 ∧ j = N then (-1 : Int32) else gm'.1 20 0 j) = _
      rw [if_neg (fun q => hj q.2.2)]
      exact (FM 20 0 j rfl).1
    · show (if 22 = 22 ∧ 0 = 0 ∧ j = N then (0 : Int64) else gm'.2.1 22 0 j) = _
      rw [if_neg (fun q => hj q.2.2)]
      exact (FM 22 0 j rfl).2
    · show (if 23 = 23 ∧ 0 = 0 ∧ j = N then (0 : Int64) else gm'.2.1 23 0 j) = _
      rw [if_neg (fun q => hj q.2.2)]
      exact (FM 23 0 j rfl).2
    · show (if 24 = 24 ∧ 0 = 0 ∧ j = N then (0 : Int64) else gm'.2.1 24 0 j) = _
      rw [if_neg (fun q => hj q.2.2)]
      exact (FM 24 0 j rfl).2
    · unfold rNoteA
      have c15 : (gz_si (gz_si (gz_si (gov gpm (gNw N (nI f) (nI l) (nI d) gm') am) 0 0 29 (nI (N + 1))) 0 0 1 0) 0 0 2 (-1)).1 15 0 N = nI f := by
        show (if 15 = 15 ∧ 0 = 0 ∧ N = N then nI f else gm'.1 15 0 N) = _
        rw [if_pos ⟨rfl, rfl, rfl⟩]
      have c16 : (gz_si (gz_si (gz_si (gov gpm (gNw N (nI f) (nI l) (nI d) gm') am) 0 0 29 (nI (N + 1))) 0 0 1 0) 0 0 2 (-1)).1 16 0 N = nI l := by
        show (if 16 = 16 ∧ 0 = 0 ∧ N = N then nI l else gm'.1 16 0 N) = _
        rw [if_pos ⟨rfl, rfl, rfl⟩]
      have c17 : (gz_si (gz_si (gz_si (gov gpm (gNw N (nI f) (nI l) (nI d) gm') am) 0 0 29 (nI (N + 1))) 0 0 1 0) 0 0 2 (-1)).1 17 0 N = nI d := by
        show (if 17 = 17 ∧ 0 = 0 ∧ N = N then nI d else gm'.1 17 0 N) = _
        rw [if_pos ⟨rfl, rfl, rfl⟩]
      have c18 : (gz_si (gz_si (gz_si (gov gpm (gNw N (nI f) (nI l) (nI d) gm') am) 0 0 29 (nI (N + 1))) 0 0 1 0) 0 0 2 (-1)).1 18 0 N = -1 := by
        show (if 18 = 18 ∧ 0 = 0 ∧ N = N then (-1 : Int32) else gm'.1 18 0 N) = _
        rw [if_pos ⟨rfl, rfl, rfl⟩]
      have c19 : (gz_si (gz_si (gz_si (gov gpm (gNw N (nI f) (nI l) (nI d) gm') am) 0 0 29 (nI (N + 1))) 0 0 1 0) 0 0 2 (-1)).1 19 0 N = 0 := by
        show (if 19 = 19 ∧ 0 = 0 ∧ N = N then (0 : Int32) else gm'.1 19 0 N) = _
        rw [if_pos ⟨rfl, rfl, rfl⟩]
      have c20 : (gz_si (gz_si (gz_si (gov gpm (gNw N (nI f) (nI l) (nI d) gm') am) 0 0 29 (nI (N + 1))) 0 0 1 0) 0 0 2 (-1)).1 20 0 N = -1 := by
        show (if 20 = 20 ∧ 0 = 0 ∧ N = N then (-1 : Int32) else gm'.1 20 0 N) = _
        rw [if_pos ⟨rfl, rfl, rfl⟩]
      have c22 : (gz_si (gz_si (gz_si (gov gpm (gNw N (nI f) (nI l) (nI d) gm') am) 0 0 29 (nI (N + 1))) 0 0 1 0) 0 0 2 (-1)).2.1 22 0 N = 0 := by
        show (if 22 = 22 ∧ 0 = 0 ∧ N = N then (0 : Int64) else gm'.2.1 22 0 N) = _
        rw [if_pos ⟨rfl, rfl, rfl⟩]
      have c23 : (gz_si (gz_si (gz_si (gov gpm (gNw N (nI f) (nI l) (nI d) gm') am) 0 0 29 (nI (N + 1))) 0 0 1 0) 0 0 2 (-1)).2.1 23 0 N = 0 := by
        show (if 23 = 23 ∧ 0 = 0 ∧ N = N then (0 : Int64) else gm'.2.1 23 0 N) = _
        rw [if_pos ⟨rfl, rfl, rfl⟩]
      have c24 : (gz_si (gz_si (gz_si (gov gpm (gNw N (nI f) (nI l) (nI d) gm') am) 0 0 29 (nI (N + 1))) 0 0 1 0) 0 0 2 (-1)).2.1 24 0 N = 0 := by
        show (if 24 = 24 ∧ 0 = 0 ∧ N = N then (0 : Int64) else gm'.2.1 24 0 N) = _
        rw [if_pos ⟨rfl, rfl, rfl⟩]
      rw [c15, c16, c17, c18, c19, c20, c22, c23, c24, gun_e, gun_e]
      exact ⟨b0, rfl, ⟨l, hl.1, hl.2, b1, rfl⟩, ⟨d, hd, b2, rfl⟩, b3, Or.inl rfl, b6, rfl, b10, Or.inl rfl, b11, b12, ⟨Iff.rfl, by decide⟩, b13⟩
  · intro n hn j hj
    by_cases e : n = N
    · subst e
      rw [gun_e] at hj
      omega
    · rw [gun_ne _ e] at hj
      have := h.2.2.2.2.2.2.1 n (by omega) j hj
      rw [ex, em]
      exact this
  · intro n hn
    by_cases e : n = N
    · subst e
      exact rNoteV.cg (fo := fun _ => f) hV (gun_e _ _ _) (fun k hk => rfl) (fun k hk => rfl) (fun k hk => rfl)
    · exact (rV_note h.2.2.2.2.2.2.2.1 FX FM n (by omega)).cg (gun_ne _ e) (fun k hk => rfl) (fun k hk => rfl) (fun k hk => rfl)
  · rw [ex, em]
    exact h.2.2.2.2.2.2.2.2.1
  · rw [ex, em]
    exact h.2.2.2.2.2.2.2.2.2.2.1
  · have hil : gIL L F (gm'.1 5 0) P N (gun fo N f) (gun la N 0) := by
      rw [em]
      exact gIL.congr L h.2.2.2.2.2.2.2.2.2.2.2 (fun n hn => ⟨(gun_ne _ (by omega)).symm, (gun_ne _ (by omega)).symm⟩)
    refine gIL.take _ 100 ⟨⟨hB.1, hB.2.1, by omega, fun n hn => ?_⟩, Or.inr (Or.inr (Or.inr (Or.inl ⟨rfl, N, rfl, rfl, hil⟩)))⟩
    by_cases e : n = N
    · subst e
      rw [gun_e, gun_e]
      exact ⟨hf, by omega⟩
    · rw [gun_ne _ e, gun_ne _ e]
      exact hB.2.2.2 n (by omega)
set_option maxHeartbeats 4000000 in
theorem s_notice {σx σm : gz_S} (h : gR σx σm) (a1 a2 a3 a4 : Int32) : gQ (f_X9_notice a1 a2 a3 a4 σx) (f_X11_notice a1 a2 a3 a4 σm) := by
  obtain ⟨F, P, N, I, fo, la, L, h⟩ := h
  unfold f_X9_notice f_X11_notice f_X8_holds f_X11_in
  rw [gz_w_e]
  replace h := h.th 0
  generalize gz_si σm 0 0 0 0 = σm at h ⊢
  have hR : gR σx σm := ⟨F, P, N, I, fo, la, L, h⟩
  obtain ⟨-, T, hT, t1, t2⟩ := h.2.2.1
  obtain ⟨n1, n2⟩ := h.2.2.2.2.1
  have hB := h.2.2.2.2.2.2.2.2.2.2.2.B
  have hP := hB.2.1
  have hN := hB.2.2.1
  have hrefuse : ∀ w : Int32, w ≠ 4 → gQ (gz_call (f_X9_refused w σx) fun r17 σ16 => some (r17, σ16)) (gz_call (f_X11_refused w σm) fun r3 σ2 => some (r3, σ2)) := fun w hw => gQ_mk rfl rfl (gR.tr hR hw)
  rcases g_form a1 hP with ⟨f, hf, rfl, e1, e2⟩ | ⟨e1, e2⟩
  · rw [e1 _ h.2.2.2.1.1, e2 _ h.2.2.2.1.2.1, gz_call_e, gz_call_e, gz_nl_some (show f < 13 by omega), if_neg (show ¬ (1 : Int32) = 0 by decide), t1, t2]
    rcases g_ixc a2 (c := T + 1) (by omega) with h' | ⟨h1, h2, h3⟩ | ⟨n, hn, rfl, h1, h2, h3⟩
    · rw [if_pos h', gz_call_e, if_pos (by decide), if_pos h']
      exact hrefuse 2 (by decide)
    · have hlt : nI T < a2 := by
        have q2 := Int32.le_iff_toInt_le.mp h2
        rw [nI_toInt (by omega)] at q2
        exact Int32.lt_iff_toInt_lt.mpr (by rw [nI_toInt (by omega)]; omega)
      rw [if_neg h1, if_pos hlt, gz_call_e, if_pos (by decide), if_neg h1, if_pos hlt]
      exact hrefuse 2 (by decide)
    · rw [if_neg h1, if_neg (nI_nlt (show n ≤ T by omega) (by omega)), gz_call_e, if_neg (by decide), if_neg h1, if_neg (nI_nlt (show n ≤ T by omega) (by omega))]
      by_cases hl1 : a3 < 1
      · rw [if_pos hl1, if_pos hl1, gz_call_e, if_pos (by decide)]
        exact hrefuse 2 (by decide)
      · rw [if_neg hl1, if_neg hl1]
        by_cases hl60 : 60 < a3
        · rw [if_pos hl60, if_pos hl60, gz_call_e, if_pos (by decide)]
          exact hrefuse 2 (by decide)
        · rw [if_neg hl60, if_neg hl60, gz_call_e, if_neg (by decide)]
          obtain ⟨l, hl, rfl⟩ : ∃ l : Nat, (1 ≤ l ∧ l ≤ 60) ∧ a3 = nI l := by
            have q1 : ¬ a3.toInt < 1 := fun q => hl1 (Int32.lt_iff_toInt_lt.mpr q)
            have q2 : ¬ (60 : Int) < a3.toInt := fun q => hl60 (Int32.lt_iff_toInt_lt.mpr q)
            refine ⟨a3.toInt.toNat, by omega, ?_⟩
            apply Int32.toInt_inj.mp
            rw [nI_toInt (by omega)]
            omega
          rcases g_isDay a4 with ⟨d, hd, rfl⟩ | ⟨i1, i2⟩
          · rw [x_isDay hd, gz_call_e, if_neg (by decide), m_isDay hd, gz_call_e, if_neg (by decide)]
            unfold f_X1_fresh
            rw [n1, x_min 60, gz_call_e, Nat.min_eq_left hN, gz_ix_nI (show N < 61 by omega) (by decide), gz_call_e, gz_nl_some (show N < 61 by omega)]
            obtain ⟨g0, eb, fb, b0, b1, b2, b3, b6, b10, b11, b12, b13, b15⟩ := x_begin (n := N) (a1 := nI f) (a2 := nI l) (a3 := nI d) σx
            rw [eb, gz_then_e]
            obtain ⟨gx, gm, b, s1, s2, f1, f2, hF, m3, m14⟩ := g_start (σx := g0) (σm := σm) (fun k => by rw [(fb 4 0 k rfl).1]; exact h.2.2.1.1 k) (show n ≤ T by omega) hT (((fb 3 0 1 rfl).1).trans t1)
            rw [s1, gz_then_e, s2, gz_then_e]
            have hp0 : gPv f _ σx σm := ((h.2.2.2.1.2.2 f hf).choose_spec)
            generalize (h.2.2.2.1.2.2 f hf).choose = s at hp0
            have hpx : gPv f s g0 σm := hp0.fr0 fb (gfr.rf (p := fun _ _ _ => false)) (fun _ _ => rfl) (fun _ _ => rfl) (fun _ _ => rfl) (fun _ => rfl) (fun _ => rfl) (fun _ => rfl) (fun _ => rfl) (fun _ => rfl) (fun _ => rfl) (fun _ => rfl)
            have hp1 : gPv f s gx gm := hpx.fr0 f1 f2 (fun _ _ => rfl) (fun _ _ => rfl) (fun _ _ => rfl) (fun _ => rfl) (fun _ => rfl) (fun _ => rfl) (fun _ => rfl) (fun _ => rfl) (fun _ => rfl) (fun _ => rfl)
            have g29 : gm.1 0 0 29 = nI N := ((f2 0 0 29 rfl).1).trans n2
            have hread : gp (f_X11_readNotice (nI f) gm) (fun o => ∃ gx' gm', gfr (gNX N) σx gx' ∧ gfr (gNM N) σm gm' ∧ gm'.1 0 0 3 = 0 ∧ gm'.1 0 0 14 = 0 ∧ (∀ k, gx'.1 14 N k = g0.1 14 N k ∧ gx'.2.1 14 N k = g0.2.1 14 N k) ∧ ((f_X4_readNotice f N gx = some (1, gx') ∧ o = (some (), gm') ∧ gx'.1 3 0 8 = 0 ∧ gm'.1 0 0 4 = -1 ∧ gVv N f gx' gm') ∨ (f_X4_readNotice f N gx = some (0, gx') ∧ o = (none, gm') ∧ gFl gx' gm'))) := by
              unfold f_X11_readNotice
              rw [g29, gz_v_e, gz_j0_e]
              refine m_clear (by omega) (fun g hg hg0 => ?_)
              unfold f_X11_readNotice_J31
              rw [gz_j0_e, gz_j0_e, gz_j0_e, gz_j0_e]
              have hFg : gFs n b gx g := hF.gm gfr.rf (hg.w (fun t i k q => by
                unfold gb25
                have q' : Nat.ble 8 t = false := q
                rw [gbl] at q'
                have : ¬ 8 ≤ t := by simpa using q'
                have h25 : ¬ t = 25 := by omega
                simp [gbq, h25]))
              have hpg : gPv f s gx g := hp1.fr0 (gfr.rf (p := fun _ _ _ => false)) hg (fun _ _ => rfl) (fun _ _ => rfl) (fun _ _ => rfl) (fun _ => rfl) (fun _ => rfl) (fun _ => rfl) (fun _ => rfl) (fun _ => rfl) (fun _ => rfl) (fun _ => rfl)
              have hVg : gVv N f gx g := fun k hk => Or.inl ⟨hg0 k hk, ((f1 15 N k rfl).2).trans (b15 k hk)⟩
              have hcg : gcs N g = 0 := gs_cn_false 8 0 (fun k _ hk => by
                rw [hg0 k (by omega)]
                decide)
              obtain ⟨gx', gm', k1, k2, hor⟩ := g_entries (e := n) (b := b) (s := s) (f := f) (N := N) (by omega) (by omega) 8 0 gx g gz_fu gz_fu (by omega) (by show 8 < 20000; omega) (by show 9 < 20000; omega) hFg hpg hVg hcg
              have K1 : gfr (gNX N) σx gx' := (((fb.w (fun t i k q => (gNX_1 t i k q).2.2)).tr (f1.w (fun t i k q => (gNX_1 t i k q).2.1))).tr (k1.w (fun t i k q => (gNX_1 t i k q).1)))
              have K2 : gfr (gNM N) σm gm' := (((f2.w (fun t i k q => (gNM_1 t i k q).2.1)).tr (hg.w (fun t i k q => (gNM_1 t i k q).2.2))).tr (k2.w (fun t i k q => (gNM_1 t i k q).1)))
              have z3 : gm'.1 0 0 3 = 0 := ((k2 0 0 3 rfl).1).trans (((hg 0 0 3 rfl).1).trans m3)
              have z14 : gm'.1 0 0 14 = 0 := ((k2 0 0 14 rfl).1).trans (((hg 0 0 14 rfl).1).trans m14)
              have zb : ∀ k, gx'.1 14 N k = g0.1 14 N k ∧ gx'.2.1 14 N k = g0.2.1 14 N k := fun k => ⟨((k1 14 N k rfl).1).trans (f1 14 N k rfl).1, ((k1 14 N k rfl).2).trans (f1 14 N k rfl).2⟩
              rcases hor with ⟨X, Y, q1, q2, q3⟩ | ⟨X, Y, q1⟩
              · exact ⟨_, Y, gx', gm', K1, K2, z3, z14, zb, Or.inl ⟨X, rfl, q1, q2, q3⟩⟩
              · exact ⟨_, Y, gx', gm', K1, K2, z3, z14, zb, Or.inr ⟨X, rfl, q1⟩⟩
            obtain ⟨o, eo, gx', gm', FX, FM, z3, z14, zb, hor⟩ := hread
            have ex := gov_eq FX
            have em := gov_eq FM
            have y29 : gm'.1 0 0 29 = nI N := ((FM 0 0 29 rfl).1).trans n2
            have y10 : (gz_si gx' 3 0 1 0).1 10 0 1 = nI N := ((FX 10 0 1 rfl).1).trans n1
            rw [eo]
            rcases hor with ⟨X, rfl, x8, m4, hV⟩ | ⟨X, rfl, l1, l2, l3⟩
            · rw [X, gz_call_e, gz_w_e, if_neg (by decide), gz_tcatch_s, y10, y29]
              by_cases h60 : N < 60
              · rw [if_pos ((gn_lt 60 (a := N)).mpr h60), if_neg (fun q => by have := (gn_eq 60 (a := N)).mp q; omega)]
                simp only [gz_w_e, gz_si_1, gz_sj_1, Nat.reduceEqDiff, false_and, if_false, y29, gz_ix_nI (show N < 61 by omega) (show 61 < 2 ^ 31 by decide)]
                have hA0 : rActs L ((gz_si gx' 3 0 1 0).1 27 0) ((gz_si gx' 3 0 1 0).1 28 0) ((gz_si gx' 3 0 1 0).2.1 29 0) ((gz_si gx' 3 0 1 0).2.1 30 0) ((gz_si gx' 3 0 1 0).1 26 0 4) ((gz_si gx' 3 0 1 0).1 26 0 5) ((gNw N (nI f) (nI l) (nI d) gm').1 1 0) ((gNw N (nI f) (nI l) (nI d) gm').1 2 0) ((gNw N (nI f) (nI l) (nI d) gm').2.1 3 0) ((gNw N (nI f) (nI l) (nI d) gm').2.1 4 0) ((gNw N (nI f) (nI l) (nI d) gm').1 0 0 9) := by
                  rw [ex, em]
                  exact h.2.2.2.2.2.2.2.2.2.1
                obtain ⟨ax, am, ep, ea, hA'⟩ := g_push (L := L) (σx := gz_si gx' 3 0 1 0) (σm := gNw N (nI f) (nI l) (nI d) gm') ((2 : Int32), nI N, 0, 0) hA0
                have ep' : f_X0_push 2 (nI N) 0 0 (gz_si gx' 3 0 1 0) = some (gov gpx (gz_si gx' 3 0 1 0) ax) := ep
                have ea' : f_X11_act 2 (nI N) 0 0 (gNw N (nI f) (nI l) (nI d) gm') = some (gov gpm (gNw N (nI f) (nI l) (nI d) gm') am) := ea
                unfold gNw at ea'
                rw [ep', gz_then_e, ea', gz_then_e]
                have r1 : (gov gpx (gz_si gx' 3 0 1 0) ax).1 10 0 1 = nI N := y10
                have r2 : (gov gpm (gNw N (nI f) (nI l) (nI d) gm') am).1 0 0 29 = nI N := y29
                unfold gNw at r2
                rw [r1, r2, nI_1]
                simp only [and_self, if_true, gn_back]
                unfold f_X9_accepted f_X11_done
                simp only [gz_w_e, gz_call_e]
                exact gQ_mk rfl rfl ⟨F, P, N + 1, I, _, _, _, g_note_new (T := T) h ex em FX FM hf h60 hl hd x8 z3 m4 z14 hV (((zb 0).1).trans b0) (((zb 1).1).trans b1) (((zb 2).1).trans b2) (((zb 3).1).trans b3) (((zb 6).1).trans b6) (((zb 10).1).trans b10) (((zb 11).2).trans b11) (((zb 12).2).trans b12) (((zb 13).2).trans b13) hA'⟩
              · rw [if_neg (fun q => h60 ((gn_lt 60 (a := N)).mp q)), if_pos ((gn_eq 60 (a := N)).mpr (by omega))]
                exact gQ_mk rfl rfl ⟨F, P, N, I, fo, la, L, g_note_keep h ex em FX FM ⟨rfl, x8.trans z3.symm, rfl, (show gm'.1 0 0 4 = if gm'.1 0 0 3 = 6 then _ else -1 by rw [z3, if_neg (by decide), m4])⟩ z14⟩
            · rw [X, gz_call_e, gz_w_e, if_pos rfl, gz_tcatch_n]
              refine gQ_mk rfl rfl ⟨F, P, N, I, fo, la, L, g_note_keep2 h ex em FX FM ⟨rfl, l1, l2.symm, ?_⟩ z14⟩
              show gm'.1 0 0 4 = if gm'.1 6 0 6 = 6 then gx'.1 3 0 10 else -1
              rcases l3 with ⟨q1, q2⟩ | ⟨q1, q2⟩
              · rw [if_neg q1, q2]
              · rw [if_pos q1, q2]
          · rw [i1, gz_call_e, if_pos rfl, i2, gz_call_e, if_pos rfl]
            exact hrefuse 2 (by decide)
  · rw [e1 _ h.2.2.2.1.1, e2 _ h.2.2.2.1.2.1, gz_call_e, gz_call_e, gz_nl_none, if_pos rfl]
    exact hrefuse 1 (by decide)
