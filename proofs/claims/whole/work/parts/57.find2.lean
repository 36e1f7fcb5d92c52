/-! names: the reference -/
def gpg (t _ k : Nat) : Bool := (Nat.ble 42 t && Nat.ble t 43) || (Nat.beq t 0 && Nat.beq k 62)
theorem m_isNamed {n f s c : Nat} (hn : n < 61) (hf : f < 13) (hs : s ≤ 8) (hc : c ≤ 61) {σ : gz_S} (h15 : σ.1 15 0 n = nI f) (h8 : σ.1 8 0 f = nI s) : f_X11_isNamed (nI n) (nI c) σ = some (if gs_ff (fun k => decide (σ.1 9 0 (8 * f + k) = 2) && (decide (σ.1 25 0 (8 * n + k) ≠ 0) && gmb (σ.2.1 42 0) c (σ.2.1 21 0 (8 * n + k)))) s 0 < s then 1 else 0, σ) := by
  unfold f_X11_isNamed
  have hor := gs_or (F := f_X11_isNamed_L5 (nI n) (nI c)) (fun k => decide (σ.1 9 0 (8 * f + k) = 2) && (decide (σ.1 25 0 (8 * n + k) ≠ 0) && gmb (σ.2.1 42 0) c (σ.2.1 21 0 (8 * n + k)))) s (fun v => some (v &&& 1, σ)) σ (fun rec v i hi hv => ?_) (fun rec v hv => ?_) gz_fu 0 0 (by omega) (by show s - 0 < 20000; omega) (Or.inl rfl)
  · rw [if_pos rfl] at hor
    have e : (if gs_ff (fun k => decide (σ.1 9 0 (8 * f + k) = 2) && (decide (σ.1 25 0 (8 * n + k) ≠ 0) && gmb (σ.2.1 42 0) c (σ.2.1 21 0 (8 * n + k)))) s 0 < s then (1 : Int32) else 0) &&& 1 = if gs_ff (fun k => decide (σ.1 9 0 (8 * f + k) = 2) && (decide (σ.1 25 0 (8 * n + k) ≠ 0) && gmb (σ.2.1 42 0) c (σ.2.1 21 0 (8 * n + k)))) s 0 < s then 1 else 0 := by
      split <;> decide
    rw [e] at hor
    exact hor
  · have hv' : (if v = 0 then (0 : Int32) else 1) = v := by
      rcases hv with rfl | rfl
      · rfl
      · rfl
    unfold f_X11_isNamed_L5
    rw [gz_ix_nI hn (by decide), h15, gz_ix_nI hf (by decide), h8, if_neg (nI_ge hi (by omega)), gz_ix_nI hn (by decide), h15, gn_8, gz_ix_nI (show 8 * f + i < 104 by omega) (by decide), gz_j1_e]
    by_cases h2 : σ.1 9 0 (8 * f + i) = 2
    · rw [if_pos h2, gn_8, gz_ix_nI (show 8 * n + i < 488 by omega) (by decide)]
      by_cases h0 : σ.1 25 0 (8 * n + i) = 0
      · rw [if_pos h0]
        unfold f_X11_isNamed_J108
        rw [nI_1, if_neg (show ¬ (decide (σ.1 9 0 (8 * f + i) = 2) && (decide (σ.1 25 0 (8 * n + i) ≠ 0) && gmb (σ.2.1 42 0) c (σ.2.1 21 0 (8 * n + i)))) = true by simp [h0]), hv']
      · rw [if_neg h0]
        have hin := gs_or (F := f_X11_isNamed_L63 (nI c) (nI n) (nI i) (f_X11_isNamed_J108 (nI i) rec)) (fun j => decide (σ.2.1 42 0 j = σ.2.1 21 0 (8 * n + i))) c (fun v => f_X11_isNamed_J108 (nI i) rec v σ) σ (fun rec2 v j hj hv => ?_) (fun rec2 v hv => ?_) gz_fu 0 v (by omega) (by show c - 0 < 20000; omega) hv
        · rw [show nI 0 = (0 : Int32) from rfl] at hin
          rw [hin]
          unfold f_X11_isNamed_J108 gmb
          rw [nI_1]
          congr 1
          by_cases hz : gs_ff (fun j => decide (σ.2.1 42 0 j = σ.2.1 21 0 (8 * n + i))) c 0 < c
          · rw [if_pos hz]
            simp [h2, h0, hz]
          · rw [if_neg hz]
            simp [h2, h0, hz]
        · unfold f_X11_isNamed_L63 f_X11_isNamed_J96 f_X11_isNamed_J101
          rw [if_neg (nI_ge hj (by omega)), gz_j1_e, gz_j0_e, nI_1]
          rcases hv with rfl | rfl
          · rw [if_pos rfl, if_pos rfl, gn_8, gz_ix_nI (show 8 * n + i < 488 by omega) (by decide), gz_ix_nI (show j < 61 by omega) (by decide)]
            by_cases e : σ.2.1 42 0 j = σ.2.1 21 0 (8 * n + i)
            · rw [if_pos ((lg_cmp_eq _ _).mpr e.symm), if_pos (by simpa using e)]
            · rw [if_neg (fun q => e ((lg_cmp_eq _ _).mp q).symm), if_neg (by simpa using e)]
          · rw [if_neg (by decide), if_neg (by decide)]
        · unfold f_X11_isNamed_L63
          rw [if_pos (nI_le (Nat.le_refl _) (by omega))]
    · rw [if_neg h2]
      unfold f_X11_isNamed_J108
      rw [nI_1, if_neg (show ¬ (decide (σ.1 9 0 (8 * f + i) = 2) && (decide (σ.1 25 0 (8 * n + i) ≠ 0) && gmb (σ.2.1 42 0) c (σ.2.1 21 0 (8 * n + i)))) = true by simp [h2]), hv']
  · unfold f_X11_isNamed_L5
    rw [gz_ix_nI hn (by decide), h15, gz_ix_nI hf (by decide), h8, if_pos (nI_le (Nat.le_refl _) (by omega))]
theorem m_bfs {N : Nat} (hN : N ≤ 60) {w : Nat → Bool} {o nw : Nat → Int64} {u : Int64} {kn : Int32} {σ : gz_S} {jd : Int32 → gz_S → Option (Int32 × gz_S)} {Q : Int32 × gz_S → Prop} (h1 : σ.1 0 0 29 = nI N) (hk : ∀ n, n < N → ∀ g, gfr gpg σ g → f_X11_isKnown (nI n) kn g = some (if w n = true then 1 else 0, g)) (ho : ∀ n, n < N → σ.2.1 22 0 n = o n ∧ σ.2.1 23 0 n = nw n) (hu : σ.2.1 42 0 0 = u) (hjd : ∀ g c, gfr gpg σ g → c ≤ 61 → (∀ v, gmb (g.2.1 42 0) c v = true ↔ gRch N (fun n => w n && decide (o n ≠ 0)) o nw u v) → gp (jd (nI c) g) Q) : gp (gz_l2 (f_X11_find_L34 kn jd) gz_fu 1 0 σ) Q := by
  refine gp_l2 (fun v21 v22 g m => ∃ c i, v21 = nI c ∧ v22 = nI i ∧ i ≤ c ∧ m = 61 - i ∧ gfr gpg σ g ∧ gJn N (fun n => w n && decide (o n ≠ 0)) o nw u (g.2.1 42 0) c ∧ ∀ n, n < N → (w n && decide (o n ≠ 0)) = true → (∃ j, j < i ∧ g.2.1 42 0 j = nw n) → gmb (g.2.1 42 0) c (o n) = true) ?_ gz_fu 61 1 0 σ (by show 61 < 20000; omega) ⟨1, 0, rfl, rfl, by omega, by omega, gfr.rf, gJn.start hu, fun n _ _ ⟨j, hj, _⟩ => by omega⟩
  rintro rec m v21 v22 g ⟨c, i, rfl, rfl, hic, rfl, hf, hJ, hP⟩ ih
  have hc := hJ.le
  unfold f_X11_find_L34
  by_cases hci : c ≤ i
  · have : i = c := by omega
    subst this
    refine gp_pos (nI_le (Nat.le_refl _) (by omega)) (hjd g i hf (by omega) (hJ.fin (fun n hn ha hb => ?_)))
    obtain ⟨j, hj, e⟩ := gmb_iff.mp hb
    exact hP n hn ha ⟨j, hj, e⟩
  · refine gp_neg (nI_ge (by omega) (by omega)) ?_
    rw [gz_j1_e]
    refine gp_l2 (fun v26 v27 g m => ∃ c n, v26 = nI c ∧ v27 = nI n ∧ n ≤ N ∧ i < c ∧ m = N - n ∧ gfr gpg σ g ∧ gJn N (fun n => w n && decide (o n ≠ 0)) o nw u (g.2.1 42 0) c ∧ (∀ n, n < N → (w n && decide (o n ≠ 0)) = true → (∃ j, j < i ∧ g.2.1 42 0 j = nw n) → gmb (g.2.1 42 0) c (o n) = true) ∧ ∀ k, k < n → (w k && decide (o k ≠ 0)) = true → g.2.1 42 0 i = nw k → gmb (g.2.1 42 0) c (o k) = true) ?_ gz_fu N (nI c) 0 g (by show N < 20000; omega) ⟨c, 0, rfl, rfl, by omega, by omega, by omega, hf, hJ, hP, fun k hk => by omega⟩
    rintro rec2 m2 v26 v27 g ⟨c, n, rfl, rfl, hn, hic, rfl, hf, hJ, hP, hQ⟩ ih2
    have hc := hJ.le
    unfold f_X11_find_L44
    rw [((hf 0 0 29 rfl).1).trans h1]
    by_cases he : n = N
    · subst he
      refine gp_pos (nI_le (Nat.le_refl _) (by omega)) ?_
      unfold f_X11_find_J163
      rw [nI_1]
      refine ih _ _ _ (61 - (i + 1)) (by omega) ⟨c, i + 1, rfl, rfl, by omega, rfl, hf, hJ, fun k hk ha ⟨j, hj, e⟩ => ?_⟩
      by_cases ej : j = i
      · subst ej
        exact hQ k hk ha e
      · exact hP k hk ha ⟨j, by omega, e⟩
    · have hnN : n < N := by omega
      refine gp_neg (nI_ge hnN (by omega)) ?_
      have e22 : g.2.1 22 0 n = o n := ((hf 22 0 n rfl).2).trans (ho n hnN).1
      have e23 : g.2.1 23 0 n = nw n := ((hf 23 0 n rfl).2).trans (ho n hnN).2
      rw [gz_ix_nI (show n < 61 by omega) (by decide), gz_j1_e, e22]
      have hJ157 : ((w n && decide (o n ≠ 0)) = true → g.2.1 42 0 i = nw n → gmb (g.2.1 42 0) c (o n) = true) → gp (f_X11_find_J157 (nI n) rec2 (nI c) g) Q := by
        intro hx
        unfold f_X11_find_J157
        rw [nI_1]
        refine ih2 _ _ _ (N - (n + 1)) (by omega) ⟨c, n + 1, rfl, rfl, by omega, hic, rfl, hf, hJ, hP, fun k hk ha e => ?_⟩
        by_cases ek : k = n
        · subst ek
          exact hx ha e
        · exact hQ k (by omega) ha e
      by_cases hz : o n = 0
      · refine gp_pos ((lg_cmp_eq _ _).mpr hz) (hJ157 (fun ha => ?_))
        rw [hz] at ha
        simp at ha
      · refine gp_neg (fun q => hz ((lg_cmp_eq _ _).mp q)) ?_
        rw [hk n hnN g hf, gz_call_e]
        by_cases hw : w n = true
        · rw [if_pos hw]
          refine gp_neg (by decide) ?_
          have hac : (fun n => w n && decide (o n ≠ 0)) n = true := by simp [hw, hz]
          rw [gz_ix_nI (show n < 61 by omega) (by decide), gz_ix_nI (show i < 61 by omega) (by decide), e23]
          by_cases heq : nw n = g.2.1 42 0 i
          · refine gp_pos ((lg_cmp_eq _ _).mpr heq) ?_
            rw [gz_j1_e]
            have hsc := gs_sc (F := f_X11_find_L99 (nI c) (nI n) (f_X11_find_J130 (nI c) (nI n) (f_X11_find_J157 (nI n) rec2))) (fun j => decide (g.2.1 42 0 j = o n)) c (fun d => f_X11_find_J130 (nI c) (nI n) (f_X11_find_J157 (nI n) rec2) (nI d) g) g (fun rec3 d hd => ?_) (fun rec3 => ?_) gz_fu 0 (by omega) (by show c - 0 < 20000; omega)
            · rw [show (0 : Int32) = nI 0 from rfl, hsc]
              have hle := gs_ff_le (w := fun j => decide (g.2.1 42 0 j = o n)) (e := c) (d := 0) (by omega)
              have hmb : gmb (g.2.1 42 0) c (o n) = decide (gs_ff (fun j => decide (g.2.1 42 0 j = o n)) c 0 < c) := rfl
              generalize gs_ff (fun j => decide (g.2.1 42 0 j = o n)) c 0 = d at hle hmb ⊢
              unfold f_X11_find_J130
              by_cases hdc : d < c
              · refine gp_neg (nI_ge hdc (by omega)) (hJ157 (fun _ _ => ?_))
                rw [hmb]
                simpa using hdc
              · have hm2 : gmb (g.2.1 42 0) c (o n) = false := by
                  rw [hmb]
                  simpa using hdc
                have hm1 : gmb (g.2.1 42 0) c (nw n) = true := gmb_iff.mpr ⟨i, hic, heq.symm⟩
                have hA := hJ.add (A' := fun j => if j = c then o n else g.2.1 42 0 j) hnN hac hm1 hm2 (fun j hj => if_neg (by omega)) (if_pos rfl)
                have hcN := hA.1
                refine gp_pos (nI_le (by omega) (by omega)) ?_
                rw [gz_ix_nI (show n < 61 by omega) (by decide), gz_ix_nI (show c < 61 by omega) (by decide), gz_w_e, e22]
                unfold f_X11_find_J157
                rw [nI_1, nI_1]
                have e42 : (gz_sj g 42 0 c (o n)).2.1 42 0 = (fun j => if j = c then o n else g.2.1 42 0 j) := by
                  funext j
                  show (if 42 = 42 ∧ 0 = 0 ∧ j = c then o n else g.2.1 42 0 j) = _
                  simp only [true_and]
                have hmono : ∀ v, gmb (g.2.1 42 0) c v = true → gmb (fun j => if j = c then o n else g.2.1 42 0 j) (c + 1) v = true := fun v hv => gmb_add (v := o n) (fun j hj => if_neg (by omega)) hv
                refine ih2 _ _ _ (N - (n + 1)) (by omega) ⟨c + 1, n + 1, rfl, rfl, by omega, by omega, rfl, hf.sj rfl, ?_, ?_, ?_⟩
                · rw [e42]
                  exact hA.2
                · rw [e42]
                  rintro k hk ha ⟨j, hj, e⟩
                  have e' : (if j = c then o n else g.2.1 42 0 j) = nw k := e
                  rw [if_neg (by omega)] at e'
                  exact hmono _ (hP k hk ha ⟨j, hj, e'⟩)
                · rw [e42]
                  intro k hk ha e
                  have e' : (if i = c then o n else g.2.1 42 0 i) = nw k := e
                  rw [if_neg (by omega)] at e'
                  by_cases ek : k = n
                  · subst ek
                    exact gmb_iff.mpr ⟨c, by omega, if_pos rfl⟩
                  · exact hmono _ (hQ k (by omega) ha e')
            · unfold f_X11_find_L99
              rw [if_neg (nI_ge hd (by omega)), gz_ix_nI (show d < 61 by omega) (by decide), gz_ix_nI (show n < 61 by omega) (by decide), e22, nI_1]
              by_cases e : g.2.1 42 0 d = o n
              · rw [if_pos ((lg_cmp_eq _ _).mpr e), if_pos (by simpa using e)]
              · rw [if_neg (fun q => e ((lg_cmp_eq _ _).mp q)), if_neg (by simpa using e)]
            · unfold f_X11_find_L99
              rw [if_pos (nI_le (Nat.le_refl _) (by omega))]
          · exact gp_neg (fun q => heq ((lg_cmp_eq _ _).mp q)) (hJ157 (fun _ e => absurd e.symm heq))
        · rw [if_neg hw]
          refine gp_pos rfl (hJ157 (fun ha => ?_))
          rw [show w n = false by simpa using hw] at ha
          cases ha
theorem m_list {N P c : Nat} (hN : N ≤ 60) (hP : P ≤ 12) {w h : Nat → Bool} {fo : Nat → Nat} {kn : Int32} {σ : gz_S} (hc : c ≤ 61) (h1 : σ.1 0 0 29 = nI N) (hk : ∀ n, n < N → ∀ g, gfr gpg σ g → f_X11_isKnown (nI n) kn g = some (if w n = true then 1 else 0, g)) (hfo : ∀ n, n < N → σ.1 15 0 n = nI (fo n) ∧ fo n < P) (hs : ∀ f, f < P → ∃ s, s ≤ 8 ∧ σ.1 8 0 f = nI s) (hh : ∀ n s, n < N → σ.1 8 0 (fo n) = nI s → s ≤ 8 → h n = (w n && decide (gs_ff (fun k => decide (σ.1 9 0 (8 * fo n + k) = 2) && (decide (σ.1 25 0 (8 * n + k) ≠ 0) && gmb (σ.2.1 42 0) c (σ.2.1 21 0 (8 * n + k)))) s 0 < s))) : gp (f_X11_find_J169 kn (nI c) σ) (fun q => q.1 = nI (gs_cn h N 0) ∧ gfr gpg σ q.2 ∧ q.2.1 0 0 62 = nI (gs_cn h N 0) ∧ ∀ j, j < gs_cn h N 0 → q.2.1 43 0 j = gfl h N j) := by
  unfold f_X11_find_J169
  rw [gz_w_e]
  refine gp_l1 (fun v g m => ∃ n, v = nI n ∧ n ≤ N ∧ m = N - n ∧ gfr gpg σ g ∧ g.2.1 42 0 = σ.2.1 42 0 ∧ g.1 0 0 62 = nI (gs_cn h n 0) ∧ ∀ j, j < gs_cn h n 0 → g.1 43 0 j = gfl h n j) ?_ gz_fu N 0 _ (by show N < 20000; omega) ⟨0, rfl, by omega, by omega, gfr.rf.si rfl, rfl, rfl, fun j hj => absurd hj (Nat.not_lt_zero _)⟩
  rintro rec m v g ⟨n, rfl, hn, rfl, hf, g42, g62, gl⟩ ih
  have hcn := gs_cn_le h n 0
  unfold f_X11_find_L177
  rw [((hf 0 0 29 rfl).1).trans h1]
  by_cases he : n = N
  · subst he
    exact gp_pos (nI_le (Nat.le_refl _) (by omega)) ⟨_, rfl, g62, hf, g62, gl⟩
  · have hnN : n < N := by omega
    refine gp_neg (nI_ge hnN (by omega)) ?_
    obtain ⟨hf1, hf2⟩ := hfo n hnN
    obtain ⟨s, hs8, hs1⟩ := hs (fo n) hf2
    have ghas := m_isNamed (n := n) (f := fo n) (c := c) (σ := g) (by omega) (by omega) hs8 hc (((hf 15 0 n rfl).1).trans hf1) (((hf 8 0 (fo n) rfl).1).trans hs1)
    have e9 : g.1 9 0 = σ.1 9 0 := funext fun a => (hf 9 0 a rfl).1
    have e25 : g.1 25 0 = σ.1 25 0 := funext fun a => (hf 25 0 a rfl).1
    have e21 : g.2.1 21 0 = σ.2.1 21 0 := funext fun a => (hf 21 0 a rfl).2
    rw [g42, e9, e25, e21] at ghas
    have hhn := hh n s hnN hs1 hs8
    rw [hk n hnN g hf, gz_call_e, gz_j0_e]
    have hno : h n = false → gp (f_X11_find_J231 (nI n) rec g) (fun q => q.1 = nI (gs_cn h N 0) ∧ gfr gpg σ q.2 ∧ q.2.1 0 0 62 = nI (gs_cn h N 0) ∧ ∀ j, j < gs_cn h N 0 → q.2.1 43 0 j = gfl h N j) := by
      intro hx
      unfold f_X11_find_J231
      rw [nI_1]
      have ec : gs_cn h (n + 1) 0 = gs_cn h n 0 := by
        rw [gs_cn_last, Nat.zero_add, hx]
        rfl
      have el : gfl h (n + 1) = gfl h n := if_neg (by rw [hx]; decide)
      exact ih _ _ (N - (n + 1)) (by omega) ⟨n + 1, rfl, by omega, rfl, hf, g42, by rw [ec]; exact g62, by rw [ec, el]; exact gl⟩
    by_cases hw : w n = true
    · rw [if_pos hw]
      refine gp_neg (by decide) ?_
      rw [ghas, gz_call_e]
      by_cases hx : gs_ff (fun k => decide (σ.1 9 0 (8 * fo n + k) = 2) && (decide (σ.1 25 0 (8 * n + k) ≠ 0) && gmb (σ.2.1 42 0) c (σ.2.1 21 0 (8 * n + k)))) s 0 < s
      · rw [if_pos hx]
        refine gp_neg (by decide) ?_
        have hxn : h n = true := by rw [hhn]; simp only [hw, hx, decide_true, Bool.and_self]
        rw [g62, gz_ix_nI (show gs_cn h n 0 < 60 by omega) (by decide), gz_w_e, gz_w_e]
        unfold f_X11_find_J231
        rw [nI_1]
        have ec : gs_cn h (n + 1) 0 = gs_cn h n 0 + 1 := by
          rw [gs_cn_last, Nat.zero_add, hxn]
          rfl
        have el : gfl h (n + 1) = (fun j => if j = gs_cn h n 0 then nI n else gfl h n j) := if_pos hxn
        refine ih _ _ (N - (n + 1)) (by omega) ⟨n + 1, rfl, by omega, rfl, (hf.si rfl).si rfl, g42, ?_, ?_⟩
        · rw [gz_si_1, if_pos ⟨rfl, rfl, rfl⟩]
          show g.1 0 0 62 + 1 = _
          rw [g62, nI_1, ec]
        · rw [ec, el]
          intro j hj
          show (if 43 = 43 ∧ 0 = 0 ∧ j = gs_cn h n 0 then nI n else g.1 43 0 j) = if j = gs_cn h n 0 then nI n else gfl h n j
          by_cases ej : j = gs_cn h n 0
          · rw [if_pos ⟨rfl, rfl, ej⟩, if_pos ej]
          · rw [if_neg (fun q => ej q.2.2), if_neg ej]
            exact gl j (by omega)
      · rw [if_neg hx]
        exact gp_pos rfl (hno (by rw [hhn]; simp only [hx, decide_false, Bool.and_false]))
    · rw [if_neg hw]
      exact gp_pos rfl (hno (by rw [hhn]; simp only [show w n = false by simpa using hw, Bool.false_and]))
theorem s_find {σx σm : gz_S} (h : gR σx σm) (u : Int64) (kn : Int32) : gQ (f_X9_find u kn σx) (f_X11_find u kn σm) := by
  obtain ⟨F, P, N, I, fo, la, L, h⟩ := h
  unfold f_X9_find f_X11_find
  rw [gz_w_e]
  replace h := h.th 0
  generalize gz_si σm 0 0 0 0 = σm at h ⊢
  have hR : gR σx σm := ⟨F, P, N, I, fo, la, L, h⟩
  obtain ⟨n1, n2⟩ := h.2.2.2.2.1
  have hB := h.2.2.2.2.2.2.2.2.2.2.2.B
  have hN := hB.2.2.1
  have hP := hB.2.1
  rw [x_isWord, gz_call_e, m_isWord, gz_call_e]
  by_cases hu : gWord u = true
  · rw [if_pos hu, if_neg (show ¬ (1 : Int32) = 0 by decide), if_neg (show ¬ (1 : Int32) = 0 by decide)]
    rcases g_isDay kn with ⟨d, hd, rfl⟩ | ⟨e1, e2⟩
    · rw [x_isDay hd, gz_call_e, if_neg (show ¬ (1 : Int32) = 0 by decide), m_isDay hd, gz_call_e, if_neg (show ¬ (1 : Int32) = 0 by decide)]
      rw [show gz_ix (0 : Int32) 61 = gz_ix (nI 0) 61 from rfl, gz_ix_nI (show 0 < 61 by omega) (by decide), gz_w_e, gz_j1_e]
      generalize hw : gkn (σm.1 18 0) (σm.1 29 0) (nI d) = w
      have hkx : ∀ n, n < N → ∀ g, gfr gpf σx g → f_X6_isKnown n (nI d) g = some (if w n = true then 1 else 0, g) := by
        intro n hn g hf
        have hk := rKn h hn
        rw [← hw]
        exact x_isKnown hk.1 (((hf 14 n 3 rfl).1).trans hk.2.1) (by rw [(hf 14 n 4 rfl).1]; exact hk.2.2)
      have hkm : ∀ n, n < N → ∀ g, gfr gpg σm g → f_X11_isKnown (nI n) (nI d) g = some (if w n = true then 1 else 0, g) := by
        intro n hn g hf
        have hk := rKn h hn
        have e := m_isKnown (n := n) (I := I) (kn := nI d) (σ := g) hk.1 (by omega) (by rw [(hf 18 0 n rfl).1]; exact rKn' h hn)
        rw [e, ← hw]
        have e18 : g.1 18 0 = σm.1 18 0 := funext fun k => (hf 18 0 k rfl).1
        have e29 : g.1 29 0 = σm.1 29 0 := funext fun k => (hf 29 0 k rfl).1
        rw [e18, e29]
      have hA := h.2.2.2.2.2.1
      obtain ⟨gx, ex, hfx, cx, hcx, gx3, hrx⟩ := x_gather (u := u) (kn := nI d) (σ := σx) (w := w) (o := σm.2.1 22 0) (nw := σm.2.1 23 0) hN n1 hkx (fun n hn => by
        obtain ⟨a0, a0', -, -, a3, a3', a4, a4', a5, a5', a6, a7, a8, a9⟩ := hA n hn
        exact ⟨a6, a7, a8.1⟩)
      have hneg : ¬ gRch N (fun n => w n && decide (σm.2.1 22 0 n ≠ 0)) (σm.2.1 22 0) (σm.2.1 23 0) u (-1) := by
        intro hr
        refine hr (fun v => v ≠ -1) (gWord_n1 hu) (fun n hn _ _ => ?_) rfl
        obtain ⟨a0, a0', -, -, a3, a3', a4, a4', a5, a5', a6, a7, a8, a9⟩ := hA n hn
        exact a8.2
      rw [ex, gz_then_e]
      have hm := m_bfs (Q := fun (q : Int32 × gz_S) => gQ (gz_then (f_X1_search (nI d) gx) (fun σ6 => some (σ6.1 10 0 5, σ6))) (some q)) (N := N) (w := w) (o := σm.2.1 22 0) (nw := σm.2.1 23 0) (u := u) (kn := nI d) (σ := gz_sj σm 42 0 0 u) (jd := f_X11_find_J169 (nI d)) hN n2 (fun n hn g hf => hkm n hn g ((gfr.rf.sj rfl).tr hf)) (fun n hn => ⟨rfl, rfl⟩) rfl (fun g c hf hc hr => ?_)
      · obtain ⟨q, eq, hq⟩ := hm
        rw [eq]
        exact hq
      · have hfm : gfr gpg σm g := (gfr.rf.sj rfl).tr hf
        have hmem : ∀ v, gmb (gx.2.1 12 0) cx v = gmb (g.2.1 42 0) c v := by
          intro v
          rw [Bool.eq_iff_iff, hrx v, hr v]
        have hmem1 : gmb (gx.2.1 12 0) cx (-1) = false := by
          cases hb : gmb (gx.2.1 12 0) cx (-1) with
          | false => rfl
          | true => exact absurd ((hrx _).mp hb) hneg
        have hform := h.2.2.2.1.2.2
        have hpred : ∀ n s, n < N → σm.1 8 0 (fo n) = nI s → s ≤ 8 → gs_ff (fun k => decide (gx.1 8 (8 * fo n + k) 1 = 2) && gmb (gx.2.1 12 0) cx (gx.2.1 15 n k)) s 0 = gs_ff (fun k => decide (g.1 9 0 (8 * fo n + k) = 2) && (decide (g.1 25 0 (8 * n + k) ≠ 0) && gmb (g.2.1 42 0) c (g.2.1 21 0 (8 * n + k)))) s 0 := by
          intro n s hn hs hs8
          obtain ⟨s', hs', s1, s2, hk⟩ := hform (fo n) (hB.2.2.2 n hn).1
          have : s = s' := by
            have := hs.symm.trans s2
            exact (nI_eq (by omega) (by omega)).mp this
          subst this
          refine gs_ff_congr 0 (by omega) (fun k _ hks => ?_)
          obtain ⟨q0, q1, -⟩ := hk k hks
          rw [(hfx 8 (8 * fo n + k) 1 rfl).1, (hfx 15 n k rfl).2, (hfm 9 0 (8 * fo n + k) rfl).1, (hfm 25 0 (8 * n + k) rfl).1, (hfm 21 0 (8 * n + k) rfl).2, q1]
          congr 1
          rcases h.2.2.2.2.2.2.2.1 n hn k (by omega) with ⟨b1, b2⟩ | ⟨b1, b2, b3, b4⟩
          · rw [b1, b2, hmem1]
            rfl
          · rw [b1, b2, hmem]
            simp
        obtain ⟨gx', ex', hfx', gx5, glx⟩ := x_search (N := N) (P := P) (c := cx) (w := w) (h := fun n => w n && decide (gs_ff (fun k => decide (gx.1 8 (8 * fo n + k) 1 = 2) && gmb (gx.2.1 12 0) cx (gx.2.1 15 n k)) (σm.1 8 0 (fo n)).toInt.toNat 0 < (σm.1 8 0 (fo n)).toInt.toNat)) (fo := fo) (kn := nI d) (σ := gx) hN hP hcx gx3 (((hfx 10 0 1 rfl).1).trans n1) (fun n hn g hf => hkx n hn g (hfx.tr hf)) (fun n hn => ⟨((hfx 14 n 0 rfl).1).trans (hA n hn).1, (hB.2.2.2 n hn).1⟩) (fun f hf => by
            obtain ⟨s', hs', s1, s2, hk⟩ := hform f hf
            exact ⟨s', hs', ((hfx 6 f 1 rfl).1).trans s1⟩) (fun n s hn hs hs8 => by
            obtain ⟨s', hs', s1, s2, hk⟩ := hform (fo n) (hB.2.2.2 n hn).1
            have e1 : s = s' := (nI_eq (by omega) (by omega)).mp (hs.symm.trans (((hfx 6 (fo n) 1 rfl).1).trans s1))
            subst e1
            rw [s2, gz_nI_tn (by omega)])
        obtain ⟨q, eq, q1, hfm', gm62, glm⟩ := m_list (N := N) (P := P) (c := c) (w := w) (h := fun n => w n && decide (gs_ff (fun k => decide (gx.1 8 (8 * fo n + k) 1 = 2) && gmb (gx.2.1 12 0) cx (gx.2.1 15 n k)) (σm.1 8 0 (fo n)).toInt.toNat 0 < (σm.1 8 0 (fo n)).toInt.toNat)) (fo := fo) (kn := nI d) (σ := g) hN hP hc (((hfm 0 0 29 rfl).1).trans n2) (fun n hn g' hf' => hkm n hn g' (hfm.tr hf')) (fun n hn => ⟨((hfm 15 0 n rfl).1).trans (hA n hn).2.1, (hB.2.2.2 n hn).1⟩) (fun f hf => by
            obtain ⟨s', hs', s1, s2, hk⟩ := hform f hf
            exact ⟨s', hs', ((hfm 8 0 f rfl).1).trans s2⟩) (fun n s hn hs hs8 => by
            have hs' : σm.1 8 0 (fo n) = nI s := ((hfm 8 0 (fo n) rfl).1).symm.trans hs
            rw [hs', gz_nI_tn (by omega), hpred n s hn hs' hs8])
        refine ⟨q, eq, ?_⟩
        rw [ex', gz_then_e]
        have hfx2 := gov_eq (hfx.tr hfx')
        have hfm2 := gov_eq (hfm.tr hfm')
        have hcn := gs_cn_le (fun n => w n && decide (gs_ff (fun k => decide (gx.1 8 (8 * fo n + k) 1 = 2) && gmb (gx.2.1 12 0) cx (gx.2.1 15 n k)) (σm.1 8 0 (fo n)).toInt.toNat 0 < (σm.1 8 0 (fo n)).toInt.toNat)) N 0
        generalize (fun n => w n && decide (gs_ff (fun k => decide (gx.1 8 (8 * fo n + k) 1 = 2) && gmb (gx.2.1 12 0) cx (gx.2.1 15 n k)) (σm.1 8 0 (fo n)).toInt.toNat 0 < (σm.1 8 0 (fo n)).toInt.toNat)) = hh at gx5 glx q1 gm62 glm hcn
        have hfnd : rFound (gx'.1 13 0) (q.2.1 43 0) (gx'.1 10 0 5) (q.2.1 0 0 62) := ⟨gs_cn hh N 0, by omega, gx5, gm62, fun j hj => (glx j hj).trans (glm j hj).symm⟩
        refine gQ_mk (r := nI (gs_cn hh N 0)) (σx := gx') (σm := q.2) (by rw [gx5]) (by rw [← q1]) ?_
        rw [hfx2, hfm2] at hfnd ⊢
        exact ⟨F, P, N, I, fo, la, L, h.1, h.2.1, h.2.2.1, h.2.2.2.1, h.2.2.2.2.1, h.2.2.2.2.2.1, h.2.2.2.2.2.2.1, h.2.2.2.2.2.2.2.1, h.2.2.2.2.2.2.2.2.1, h.2.2.2.2.2.2.2.2.2.1, hfnd, h.2.2.2.2.2.2.2.2.2.2.2⟩
    · rw [e1, gz_call_e, if_pos rfl, e2, gz_call_e, if_pos rfl]
      exact gQ_mk rfl rfl hR
  · rw [if_neg hu, if_pos rfl, if_pos rfl]
    exact gQ_mk rfl rfl hR
