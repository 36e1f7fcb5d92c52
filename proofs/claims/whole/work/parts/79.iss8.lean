/-! issue -/
theorem g_2k13 : ∀ k, k < 13 → (1 : Int32) <<< (nI k &&& 31) = nI (2 ^ k) ∧ 2 ^ k ≤ 4096 := by decide
theorem gfr_nt {p : Nat → Nat → Nat → Bool} {σ g : gz_S} (h : gfr p σ g) (hp : ∀ i k, p 44 i k = true) : gfr p σ (gz_nt g) := by
  intro t i k hq
  have ht : t ≠ 44 := fun e => by
    subst e
    rw [hp i k] at hq
    cases hq
  have := h t i k hq
  refine ⟨?_, this.2⟩
  show (if t = 44 ∧ i = g.2.2 then 0 else g.1 t i k) = _
  rw [if_neg (fun q => ht q.1)]
  exact this.1
theorem g_Inlt {a b : Int32} (h : ¬ a ≤ b) : b < a := by
  apply Int32.lt_iff_toInt_lt.mpr
  have : ¬ a.toInt ≤ b.toInt := fun q => h (Int32.le_iff_toInt_le.mpr q)
  omega
set_option maxHeartbeats 4000000 in
theorem s_issue_go {F P N I : Nat} {fo la : Nat → Nat} {L : List gA} {σx σm : gz_S} (h : rAll F P N I fo la L σx σm) {d nx pg w : Nat} (hd : d < 10000) (hnx : d < nx ∧ nx ≤ 10000) (hpg : 1 ≤ pg ∧ pg ≤ 8) (hw : 10 ≤ w ∧ w ≤ 60) (hI : I < 40) : gQ (gz_then (f_X7_start (nI pg) (nI w) σx) (fun σ15 => gz_call (f_X1_takeMust (nI nx) σ15) (fun r17 σ16 => if r17 = 0 then (gz_call (f_X9_refused 5 σ16) (fun r23 σ22 => some (r23, σ22))) else (gz_then (f_X1_takeOthers (nI nx) σ16) (fun σ18 => gz_then (f_X9_print (nI d) σ18) (fun σ19 => gz_call (f_X9_accepted ((σ19.1 0 0 6) - 1) σ19) (fun r21 σ20 => some (r21, σ20)))))))) (gz_w (gz_si σm 0 0 55 0) (fun σ18 => gz_ix (0 : Int32) 4096 (fun n19 => gz_w (gz_si σ18 36 0 n19 0) (fun σ20 => gz_ix (0 : Int32) 4096 (fun n21 => gz_w (gz_si σ20 37 0 n21 0) (fun σ22 => gz_v σ22.2.2 (fun t23 => gz_w (gz_nt σ22) (fun σ24 => gz_j0 (f_X11_issue_J185 (nI d) t23 (nI pg) (nI w)) (fun j185 => gz_l1 (f_X11_issue_L103 t23 (nI nx) (nI pg) (nI w) j185) gz_fu 0 σ24))))))))) := by
  have hB := h.2.2.2.2.2.2.2.2.2.2.2.B
  have hN := hB.2.2.1
  have hP := hB.2.1
  obtain ⟨n1, n2⟩ := h.2.2.2.2.1
  obtain ⟨-, i1, i2, i3, -⟩ := h.2.2.2.2.2.2.2.2.1
  have hA := h.2.2.2.2.2.1
  obtain ⟨du, hdu⟩ : ∃ du : Nat → Nat, ∀ n, n < N → du n < 10000 ∧ σx.1 14 n 2 = nI (du n) ∧ σm.1 17 0 n = nI (du n) := ⟨fun n => (σm.1 17 0 n).toInt.toNat, fun n hn => by
    obtain ⟨-, -, -, ⟨e, e1, e2, e3⟩, -⟩ := hA n hn
    have : (σm.1 17 0 n).toInt.toNat = e := by rw [e3]; exact gz_nI_tn (by omega)
    show (σm.1 17 0 n).toInt.toNat < 10000 ∧ σx.1 14 n 2 = nI (σm.1 17 0 n).toInt.toNat ∧ σm.1 17 0 n = nI (σm.1 17 0 n).toInt.toNat
    rw [this]
    exact ⟨e1, e2, e3⟩⟩
  obtain ⟨ls, hls⟩ : ∃ ls : Nat → Nat, ∀ n, n < N → (1 ≤ ls n ∧ ls n ≤ 60) ∧ σx.1 14 n 1 = nI (ls n) ∧ σm.1 16 0 n = nI (ls n) := ⟨fun n => (σm.1 16 0 n).toInt.toNat, fun n hn => by
    obtain ⟨-, -, ⟨e, e1, e1', e2, e3⟩, -⟩ := hA n hn
    have : (σm.1 16 0 n).toInt.toNat = e := by rw [e3]; exact gz_nI_tn (by omega)
    show (1 ≤ (σm.1 16 0 n).toInt.toNat ∧ (σm.1 16 0 n).toInt.toNat ≤ 60) ∧ σx.1 14 n 1 = nI (σm.1 16 0 n).toInt.toNat ∧ σm.1 16 0 n = nI (σm.1 16 0 n).toInt.toNat
    rw [this]
    exact ⟨⟨e1, e1'⟩, e2, e3⟩⟩
  have hNo0 : gNo N du ls (fun n => decide (σm.1 18 0 n = -1)) σx σm := ⟨n1, n2, fun n hn => ⟨⟨(hA n hn).2.2.2.2.1, by simp⟩, hdu n hn, (hls n hn).1, (hls n hn).2⟩⟩
  -- the start
  unfold f_X7_start
  simp only [gz_w_e, show gz_ix (α := gz_S) (0 : Int32) 4096 = gz_ix (nI 0) 4096 from rfl, show gz_ix (α := Int32 × gz_S) (0 : Int32) 4096 = gz_ix (nI 0) 4096 from rfl, gz_ix_nI (show 0 < 4096 by decide) (show 4096 < 2 ^ 31 by decide), gz_v_e, gz_then_e, gz_j0_e]
  have fx0 : gfr ghx σx (gz_si (gz_si (gz_si (gz_si (gz_si σx 22 0 5 (nI pg)) 22 0 6 (nI w)) 22 0 3 0) 22 0 4 0) 23 0 0 (nI w)) := ((((gfr.rf.si rfl).si rfl).si rfl).si rfl).si rfl
  have fm0 : gfr gmz σm (gz_nt (gz_si (gz_si (gz_si σm 0 0 55 0) 36 0 0 0) 37 0 0 0)) := gfr_nt (((gfr.rf.si rfl).si rfl).si rfl) (fun _ _ => rfl)
  have hH0 : gHp 0 w pg (fun _ => 0) (fun _ => w) (fun _ => 0) (gz_si (gz_si (gz_si (gz_si (gz_si σx 22 0 5 (nI pg)) 22 0 6 (nI w)) 22 0 3 0) 22 0 4 0) 23 0 0 (nI w)) := by
    refine ⟨by omega, rfl, rfl, rfl, rfl, fun k hk => by omega, ⟨rfl, fun s s0 s1 => ?_⟩, fun s hs => ?_⟩
    · simp at s1
      omega
    · have : s = 0 := by simpa using hs
      subst this
      exact ⟨rfl, by show w ≤ 0 * 64 + 60; omega⟩
  have hM0 : gMp 0 w (fun _ => 0) (fun _ => 0) (gz_nt (gz_si (gz_si (gz_si σm 0 0 55 0) 36 0 0 0) 37 0 0 0)) := by
    refine ⟨by omega, rfl, fun k hk => by omega, fun _ => 0, fun _ => 0, fun s hs => ?_, ⟨?_, fun s s0 s1 => ?_⟩⟩
    · have : s = 0 := by simpa using hs
      subst this
      exact ⟨rfl, rfl, Nat.zero_le _, Nat.le_refl _⟩
    · show 0 * 64 + (w - 0) = w
      omega
    · simp at s1
      omega
  have ht0 : (gz_si (gz_si (gz_si σm 0 0 55 0) 36 0 0 0) 37 0 0 0).2.2 < (gz_nt (gz_si (gz_si (gz_si σm 0 0 55 0) 36 0 0 0) 37 0 0 0)).2.2 := Nat.lt_succ_self _
  generalize (gz_si (gz_si (gz_si σm 0 0 55 0) 36 0 0 0) 37 0 0 0).2.2 = t at ht0 ⊢
  generalize gz_si (gz_si (gz_si (gz_si (gz_si σx 22 0 5 (nI pg)) 22 0 6 (nI w)) 22 0 3 0) 22 0 4 0) 23 0 0 (nI w) = gx0 at fx0 hH0 ⊢
  generalize gz_nt (gz_si (gz_si (gz_si σm 0 0 55 0) 36 0 0 0) 37 0 0 0) = gm0 at fm0 hM0 ht0 ⊢
  unfold f_X1_takeMust
  obtain ⟨gx1, gm1, fx1, fm1, t1, hor⟩ := g_must (J := f_X11_issue_J185 (nI d) t (nI pg) (nI w)) (t := t) hN hnx.2 hw.2 hpg.2 N 0 0 (fun _ => 0) gx0 gm0 gz_fu gz_fu (by omega) (by show N < 20000; omega) (by show N < 20000; omega) (hNo0.fr fx0 fm0) ht0 ⟨_, _, hH0, hM0⟩ ⟨fun k hk => by omega, fun i j _ hj => by omega⟩ (fun m hm => by omega)
  have FX1 := fx0.tr fx1
  have FM1 := fm0.tr fm1
  rcases hor with ⟨c1, pk1, X, Y, hBo1, hPd1, hT1⟩ | ⟨X, Y⟩
  rotate_left
  · have X' : gz_l1 (f_X1_takeMust_L2 (nI nx)) gz_fu 0 gx0 = some (0, gx1) := X
    have Y' : gz_l1 (f_X11_issue_L103 t (nI nx) (nI pg) (nI w) (f_X11_issue_J185 (nI d) t (nI pg) (nI w))) gz_fu 0 gm0 = gz_call (f_X11_refused 5 gm1) (fun r111 σ110 => some (r111, σ110)) := Y
    rw [X', Y', gz_call_e, if_pos rfl]
    have hR1 : gR gx1 gm1 := by
      refine ⟨F, P, N, I, fo, la, L, ?_⟩
      rw [gov_eq FX1, gov_eq FM1]
      exact h
    exact gQ_mk rfl rfl (gR.tr hR1 (by decide))
  have X' : gz_l1 (f_X1_takeMust_L2 (nI nx)) gz_fu 0 gx0 = some (1, gx1) := X
  have Y' : gz_l1 (f_X11_issue_L103 t (nI nx) (nI pg) (nI w) (f_X11_issue_J185 (nI d) t (nI pg) (nI w))) gz_fu 0 gm0 = f_X11_issue_J185 (nI d) t (nI pg) (nI w) gm1 := Y
  rw [X', Y', gz_call_e, if_neg (show ¬ (1 : Int32) = 0 by decide)]
  unfold f_X1_takeOthers f_X11_issue_J185
  rw [gz_j0_e]
  obtain ⟨gx2, gm2, c, pk, X2, Y2, fx2, fm2, ⟨ln, T, hH, hM⟩, hPd⟩ := g_others (J := f_X11_issue_J290 (nI d)) (t := t) hN ⟨by omega, hnx.2⟩ hw.2 hpg.2 (gs_cn (gSo nx du (fun n => decide (σm.1 18 0 n = -1)) 0) N 0) 0 0 (-1) c1 pk1 gx1 gm1 gz_fu gz_fu rfl (by have := gs_cn_le (gSo nx du (fun n => decide (σm.1 18 0 n = -1)) 0) N 0; omega) (by have := gs_cn_le (gSo nx du (fun n => decide (σm.1 18 0 n = -1)) 0) N 0; show gs_cn (gSo nx du (fun n => decide (σm.1 18 0 n = -1)) 0) N 0 < 20000; omega) (by have := gs_cn_le (gSo nx du (fun n => decide (σm.1 18 0 n = -1)) 0) N 0; show gs_cn (gSo nx du (fun n => decide (σm.1 18 0 n = -1)) 0) N 0 + 1 < 20000; omega) (hNo0.fr FX1 FM1) (by rw [t1]; exact ht0) hBo1 (hPd1.w (fun m q => ⟨q.1, q.2.1, Or.inl q.2.2⟩)) (fun m hm => by
    rw [hT1 m hm]
    unfold gSo
    by_cases q1 : σm.1 18 0 m = -1
    · by_cases q2 : du m < nx
      · simp [q1, q2]
      · simp [q1, q2]
    · simp [q1]) (Or.inl ⟨rfl, rfl⟩)
  have X2' : gz_l2 (f_X1_takeOthers_L5 (nI nx)) gz_fu (-1) 0 gx1 = some gx2 := X2
  rw [X2', Y2, gz_then_e]
  have FX2 := FX1.tr fx2
  have FM2 := FM1.tr fm2
  obtain ⟨hc, x3, x4, x5, x6, xk, xT, xs⟩ := hH
  obtain ⟨-, m55, mk, fw, lf, mT, mB⟩ := hM
  obtain ⟨p1, p2⟩ := g_2k13 c (by omega)
  have hpos : 0 < 2 ^ c := Nat.two_pow_pos c
  have e2m : nI (2 ^ c) - 1 = nI (2 ^ c - 1) := by
    obtain ⟨z, hz⟩ : ∃ z, 2 ^ c = z + 1 := ⟨2 ^ c - 1, by omega⟩
    rw [hz, gn_back]
    rfl
  have hTle := (xs (2 ^ c - 1) (by omega)).2
  have hpages : T (2 ^ c - 1) / 64 = fw (2 ^ c - 1) := by
    rw [gTb.uniq hc xT mB (2 ^ c - 1) (by omega)]
    have := (mT (2 ^ c - 1) (by omega)).2.2.1
    unfold gnT
    omega
  -- the house prints
  unfold f_X9_print f_X7_pagesNeeded f_X5_begin
  have y6 : gx2.1 0 0 6 = nI I := ((FX2 0 0 6 rfl).1).trans i1
  rw [y6, gz_ix_nI hI (by decide), x3, p1, e2m, gz_ix_nI (show 2 ^ c - 1 < 4096 by omega) (by decide), (xs (2 ^ c - 1) (by omega)).1, show nI (T (2 ^ c - 1)) >>> ((6 : Int32) &&& 31) = nI (T (2 ^ c - 1) / 64) from pk_shrN (by omega) _ 6 (by decide), gz_call_e, hpages]
  simp only [gz_w_e, gz_then_e, gz_j0_e]
  -- the reference
  unfold f_X11_issue_J290
  have y30 : gm2.1 0 0 30 = nI I := ((FM2 0 0 30 rfl).1).trans i2
  have y55 : ∀ (a b e : Int32), (gz_si (gz_si (gz_si gm2 0 0 30 a) 0 0 31 b) 29 0 I e).1 0 0 55 = nI c := fun _ _ _ => m55
  have y55' : ∀ (a b e f : Int32), (gz_si (gz_si (gz_si (gz_si gm2 0 0 30 a) 0 0 31 b) 29 0 I e) 30 0 I f).1 0 0 55 = nI c := fun _ _ _ _ => m55
  have y36 : ∀ (a b e f : Int32), (gz_si (gz_si (gz_si (gz_si gm2 0 0 30 a) 0 0 31 b) 29 0 I e) 30 0 I f).1 36 0 (2 ^ c - 1) = nI (fw (2 ^ c - 1)) := fun _ _ _ _ => (mT (2 ^ c - 1) (by omega)).1
  simp only [gz_v_e, y30, nI_1, gz_w_e, gz_ix_nI hI (show 40 < 2 ^ 31 by decide), y55, y55', p1, e2m, gz_ix_nI (show 2 ^ c - 1 < 4096 by omega) (show 4096 < 2 ^ 31 by decide), y36, gz_j0_e]
  have bfx : gfr (gIX I) σx (gz_si (gz_si (gz_si (gz_si (gz_si gx2 20 I 0 (nI d)) 20 I 1 (nI (fw (2 ^ c - 1)))) 20 I 2 0) 20 I 3 0) 20 I 4 0) := by
    have p20 : ∀ k, gIX I 20 I k = true := fun k => by
      unfold gIX
      simp [gbq, gbl]
    exact (((((FX2.w (fun t i k q => (gIX_1 t i k q).1)).si (p20 0)).si (p20 1)).si (p20 2)).si (p20 3)).si (p20 4)
  have bfm : gfr (gIM I) σm (gz_si (gz_si (gz_si (gz_si (gz_si (gz_si gm2 0 0 30 (nI (I + 1))) 0 0 31 (nI d)) 29 0 I (nI d)) 30 0 I (nI c)) 31 0 I (nI (fw (2 ^ c - 1)))) 32 0 I 0) := by
    have p29 : ∀ t, 29 ≤ t ∧ t ≤ 33 → gIM I t 0 I = true := fun t ht => by
      unfold gIM
      simp [gbq, gbl, ht.1, ht.2]
    exact ((((((FM2.w (fun t i k q => (gIM_1 t i k q).1)).si rfl).si rfl).si (p29 29 (by omega))).si (p29 30 (by omega))).si (p29 31 (by omega))).si (p29 32 (by omega))
  have b0 : (gz_si (gz_si (gz_si (gz_si (gz_si gx2 20 I 0 (nI d)) 20 I 1 (nI (fw (2 ^ c - 1)))) 20 I 2 0) 20 I 3 0) 20 I 4 0).1 20 I 0 = nI d := by
    simp only [gz_si_1]
    simp
  have b1 : (gz_si (gz_si (gz_si (gz_si (gz_si gx2 20 I 0 (nI d)) 20 I 1 (nI (fw (2 ^ c - 1)))) 20 I 2 0) 20 I 3 0) 20 I 4 0).1 20 I 1 = nI (fw (2 ^ c - 1)) := by
    simp only [gz_si_1]
    simp
  have b2 : (gz_si (gz_si (gz_si (gz_si (gz_si gx2 20 I 0 (nI d)) 20 I 1 (nI (fw (2 ^ c - 1)))) 20 I 2 0) 20 I 3 0) 20 I 4 0).1 20 I 2 = 0 := by
    simp only [gz_si_1]
    simp
  have b4 : (gz_si (gz_si (gz_si (gz_si (gz_si gx2 20 I 0 (nI d)) 20 I 1 (nI (fw (2 ^ c - 1)))) 20 I 2 0) 20 I 3 0) 20 I 4 0).1 20 I 4 = 0 := by
    simp only [gz_si_1]
    simp
  have bx3 : (gz_si (gz_si (gz_si (gz_si (gz_si gx2 20 I 0 (nI d)) 20 I 1 (nI (fw (2 ^ c - 1)))) 20 I 2 0) 20 I 3 0) 20 I 4 0).1 22 0 3 = nI c := x3
  have bxk : ∀ k, k < c → (gz_si (gz_si (gz_si (gz_si (gz_si gx2 20 I 0 (nI d)) 20 I 1 (nI (fw (2 ^ c - 1)))) 20 I 2 0) 20 I 3 0) 20 I 4 0).1 24 0 k = nI (pk k) := fun k hk => (xk k hk).2.2.2
  have bx14 : ∀ n k, (gz_si (gz_si (gz_si (gz_si (gz_si gx2 20 I 0 (nI d)) 20 I 1 (nI (fw (2 ^ c - 1)))) 20 I 2 0) 20 I 3 0) 20 I 4 0).1 14 n k = σx.1 14 n k := fun n k => (FX2 14 n k rfl).1
  have bx15 : (gz_si (gz_si (gz_si (gz_si (gz_si gx2 20 I 0 (nI d)) 20 I 1 (nI (fw (2 ^ c - 1)))) 20 I 2 0) 20 I 3 0) 20 I 4 0).2.1 15 = σx.2.1 15 := funext fun n => funext fun k => (FX2 15 n k rfl).2
  have bx6 : (gz_si (gz_si (gz_si (gz_si (gz_si gx2 20 I 0 (nI d)) 20 I 1 (nI (fw (2 ^ c - 1)))) 20 I 2 0) 20 I 3 0) 20 I 4 0).1 0 0 6 = nI I := y6
  have c29 : (gz_si (gz_si (gz_si (gz_si (gz_si (gz_si gm2 0 0 30 (nI (I + 1))) 0 0 31 (nI d)) 29 0 I (nI d)) 30 0 I (nI c)) 31 0 I (nI (fw (2 ^ c - 1)))) 32 0 I 0).1 29 0 I = nI d := by
    simp only [gz_si_1]
    simp
  have c30 : (gz_si (gz_si (gz_si (gz_si (gz_si (gz_si gm2 0 0 30 (nI (I + 1))) 0 0 31 (nI d)) 29 0 I (nI d)) 30 0 I (nI c)) 31 0 I (nI (fw (2 ^ c - 1)))) 32 0 I 0).1 30 0 I = nI c := by
    simp only [gz_si_1]
    simp
  have c31 : (gz_si (gz_si (gz_si (gz_si (gz_si (gz_si gm2 0 0 30 (nI (I + 1))) 0 0 31 (nI d)) 29 0 I (nI d)) 30 0 I (nI c)) 31 0 I (nI (fw (2 ^ c - 1)))) 32 0 I 0).1 31 0 I = nI (fw (2 ^ c - 1)) := by
    simp only [gz_si_1]
    simp
  have c32 : (gz_si (gz_si (gz_si (gz_si (gz_si (gz_si gm2 0 0 30 (nI (I + 1))) 0 0 31 (nI d)) 29 0 I (nI d)) 30 0 I (nI c)) 31 0 I (nI (fw (2 ^ c - 1)))) 32 0 I 0).1 32 0 I = 0 := by
    simp only [gz_si_1]
    simp
  have d30 : (gz_si (gz_si (gz_si (gz_si (gz_si (gz_si gm2 0 0 30 (nI (I + 1))) 0 0 31 (nI d)) 29 0 I (nI d)) 30 0 I (nI c)) 31 0 I (nI (fw (2 ^ c - 1)))) 32 0 I 0).1 0 0 30 = nI (I + 1) := rfl
  have d31 : (gz_si (gz_si (gz_si (gz_si (gz_si (gz_si gm2 0 0 30 (nI (I + 1))) 0 0 31 (nI d)) 29 0 I (nI d)) 30 0 I (nI c)) 31 0 I (nI (fw (2 ^ c - 1)))) 32 0 I 0).1 0 0 31 = nI d := rfl
  have d55 : (gz_si (gz_si (gz_si (gz_si (gz_si (gz_si gm2 0 0 30 (nI (I + 1))) 0 0 31 (nI d)) 29 0 I (nI d)) 30 0 I (nI c)) 31 0 I (nI (fw (2 ^ c - 1)))) 32 0 I 0).1 0 0 55 = nI c := m55
  have d35 : ∀ k, k < c → (gz_si (gz_si (gz_si (gz_si (gz_si (gz_si gm2 0 0 30 (nI (I + 1))) 0 0 31 (nI d)) 29 0 I (nI d)) 30 0 I (nI c)) 31 0 I (nI (fw (2 ^ c - 1)))) 32 0 I 0).1 35 0 k = nI (pk k) := fun k hk => (mk k hk).1
  have d18 : ∀ n, (gz_si (gz_si (gz_si (gz_si (gz_si (gz_si gm2 0 0 30 (nI (I + 1))) 0 0 31 (nI d)) 29 0 I (nI d)) 30 0 I (nI c)) 31 0 I (nI (fw (2 ^ c - 1)))) 32 0 I 0).1 18 0 n = σm.1 18 0 n := fun n => (FM2 18 0 n rfl).1
  have d21 : (gz_si (gz_si (gz_si (gz_si (gz_si (gz_si gm2 0 0 30 (nI (I + 1))) 0 0 31 (nI d)) 29 0 I (nI d)) 30 0 I (nI c)) 31 0 I (nI (fw (2 ^ c - 1)))) 32 0 I 0).2.1 21 0 = σm.2.1 21 0 := funext fun k => (FM2 21 0 k rfl).2
  have d25 : (gz_si (gz_si (gz_si (gz_si (gz_si (gz_si gm2 0 0 30 (nI (I + 1))) 0 0 31 (nI d)) 29 0 I (nI d)) 30 0 I (nI c)) 31 0 I (nI (fw (2 ^ c - 1)))) 32 0 I 0).1 25 0 = σm.1 25 0 := funext fun k => (FM2 25 0 k rfl).1
  generalize gz_si (gz_si (gz_si (gz_si (gz_si gx2 20 I 0 (nI d)) 20 I 1 (nI (fw (2 ^ c - 1)))) 20 I 2 0) 20 I 3 0) 20 I 4 0 = bx at bfx b0 b1 b2 b4 bx3 bxk bx14 bx15 bx6 ⊢
  generalize gz_si (gz_si (gz_si (gz_si (gz_si (gz_si gm2 0 0 30 (nI (I + 1))) 0 0 31 (nI d)) 29 0 I (nI d)) 30 0 I (nI c)) 31 0 I (nI (fw (2 ^ c - 1)))) 32 0 I 0 = bm at bfm c29 c30 c31 c32 d30 d31 d55 d35 d18 d21 d25 ⊢
  have ebx := gov_eq bfx
  have ebm := gov_eq bfm
  have hnoI : ∀ n, n < N → σm.1 18 0 n ≠ nI I := by
    intro n hn q
    rcases rKn' h hn with e | ⟨i, e1, e2⟩
    · rw [e] at q
      exact gn_ne1 (show I < 2 ^ 31 by omega) q.symm
    · rw [e2] at q
      have := (nI_eq (by omega) (by omega)).mp q
      omega
  have hpr0 : gPr N I d 0 fo du pk bx bm bx bm := by
    refine ⟨gfr.rf, gfr.rf, ?_, fun n hn => Or.inr ⟨fun j hj => by omega, rfl, rfl, rfl⟩, ?_, ?_⟩
    · have e8 : bm.1 8 0 = σm.1 8 0 := funext fun k => (bfm 8 0 k rfl).1
      have e9 : bm.1 9 0 = σm.1 9 0 := funext fun k => (bfm 9 0 k rfl).1
      rw [bx15, d21, d25, e8, e9]
      exact h.2.2.2.2.2.2.2.1
    · refine gs_cn_false N 0 (fun n _ hn => ?_)
      rw [d18]
      simpa using hnoI n (by omega)
    · rw [c32, gs_cn_false N 0 (fun n _ hn => ?_)]
      · rfl
      · rw [d18]
        simp [hnoI n (by omega)]
  obtain ⟨gx3, gm3, hpr3, X3, Y3⟩ := g_print (P := P) (N := N) (I := I) (c := c) (d := d) (fo := fo) (du := du) (pk := pk) (σx := bx) (σm := bm) (jx := f_X9_print_J108 I (nI d)) (jm := f_X11_issue_J426 (nI I)) hP hN hI hc hd (fun e he => by
      rw [ebx, ebm]
      exact (h.1.1 e he).1) (fun f hf => by
      rw [ebx, ebm]
      exact h.2.2.2.1.2.2 f hf) (fun n hn => ⟨(hB.2.2.2 n hn).1, (bx14 n 0).trans (hA n hn).1, by
      rw [ebm]
      exact (hA n hn).2.1⟩) (((bfx 10 0 1 rfl).1).trans n1) (((bfx 0 0 3 rfl).1).trans h.2.2.2.1.1) bx6 bx3 bxk d55 d35 (fun n hn => ⟨(hdu n hn).1, ((bfm 17 0 n rfl).1).trans (hdu n hn).2.2⟩) (fun k hk => ⟨(hPd.1 k hk).1, by
      rw [d18]
      have := (hPd.1 k hk).2
      simpa using this⟩) hPd.2 c 0 bx bm gz_fu gz_fu (by omega) (by show c < 20000; omega) (by show c < 20000; omega) hpr0
  have X3' : gz_l1 (f_X9_print_L24 (nI d) (f_X9_print_J108 I (nI d))) gz_fu 0 bx = f_X9_print_J108 I (nI d) gx3 := X3
  have Y3' : gz_l1 (f_X11_issue_L361 (nI I) (nI d) (f_X11_issue_J426 (nI I))) gz_fu 0 bm = f_X11_issue_J426 (nI I) gm3 := Y3
  rw [X3', Y3']
  obtain ⟨hx3, hm3, hV3, hp3, hcn3, hlt3⟩ := hpr3
  have h318 : ∀ n, n < N → gx3.1 14 n 3 = gm3.1 18 0 n := by
    intro n hn
    rcases hp3 n hn with ⟨-, q1, -, q2⟩ | ⟨-, q1, -, q2⟩
    · rw [q1, q2]
    · rw [q1, q2, bx14, d18]
      exact (hA n hn).2.2.2.2.1
  have hcnx : gs_cn (fun n => decide (gx3.1 14 n 3 = nI I)) N 0 = c := by
    rw [← hcn3]
    exact gs_cn_congr N 0 (fun n _ hn => by rw [h318 n (by omega)])
  have hltx : gs_cn (fun n => decide (gx3.1 14 n 3 = nI I) && decide (du n < d)) N 0 = gs_cn (fun n => decide (gm3.1 18 0 n = nI I) && decide (du n < d)) N 0 := gs_cn_congr N 0 (fun n _ hn => by rw [h318 n (by omega)])
  unfold f_X9_print_J108 f_X11_issue_J426
  obtain ⟨gx4, e4, f4, l4, l2, ll⟩ := x_list (N := N) (I := I) (d := d) (c := c) (du := du) (gx := gx3) hN hd hc (((hx3 10 0 1 rfl).1).trans (((bfx 10 0 1 rfl).1).trans n1)) (fun n hn => ⟨(hdu n hn).1, ((hx3 14 n 2 rfl).1).trans ((bx14 n 2).trans (hdu n hn).2.1)⟩) (((hx3 20 I 0 rfl).1).trans b0) (((hx3 20 I 4 rfl).1).trans b4) (((hx3 20 I 2 rfl).1).trans b2) hcnx
  obtain ⟨gm4, e4', f4', ll'⟩ := m_listI (N := N) (I := I) (c := c) (gm := gm3) (J := f_X11_issue_J480 (nI I)) hN hI hc (((hm3 0 0 29 rfl).1).trans (((bfm 0 0 29 rfl).1).trans n2)) hcn3
  have y6' : gx3.1 0 0 6 = nI I := ((hx3 0 0 6 rfl).1).trans bx6
  rw [y6', e4, gz_then_e, gz_j0_e, e4']
  unfold f_X11_issue_J480
  have hwx : f_X1_countWaiting gx4 = some (nI (gs_cn (gwait (gm3.1 18 0)) N 0), gx4) := x_waiting hN (((f4 10 0 1 rfl).1).trans (((hx3 10 0 1 rfl).1).trans (((bfx 10 0 1 rfl).1).trans n1))) (fun n hn => ((f4 14 n 3 rfl).1).trans (h318 n hn))
  have e18 : gm4.1 18 0 = gm3.1 18 0 := funext fun n => (f4' 18 0 n rfl).1
  have hwm := m_waiting (σ := gm4) hN (((f4' 0 0 29 rfl).1).trans (((hm3 0 0 29 rfl).1).trans (((bfm 0 0 29 rfl).1).trans n2)))
  rw [e18] at hwm
  rw [hwx, gz_call_e, hwm, gz_call_e, gz_ix_nI hI (by decide)]
  unfold f_X0_clear f_X9_accepted f_X11_done
  simp only [gz_w_e, gz_then_e, gz_call_e]
  generalize gs_cn (gwait (gm3.1 18 0)) N 0 = wv
  have y6'' : (gz_si gx4 20 I 3 (nI wv)).1 0 0 6 = nI I := ((f4 0 0 6 rfl).1).trans y6'
  rw [y6'', nI_1]
  have yr : (gz_si (gz_si (gz_si (gz_si (gz_si gx4 20 I 3 (nI wv)) 0 0 6 (nI (I + 1))) 0 0 7 (nI d)) 26 0 4 0) 26 0 5 0).1 0 0 6 = nI (I + 1) := rfl
  rw [yr, gn_back]
  refine gQ_mk rfl rfl ⟨F, P, N, I + 1, fo, la, [], ?_⟩
  have p20 : ∀ k, gIX I 20 I k = true := fun k => by
    unfold gIX
    simp [gbq, gbl]
  have p33 : gIM I 33 0 I = true := by
    unfold gIM
    simp [gbq, gbl]
  have FX : gfr (gIX I) σx (gz_si (gz_si (gz_si (gz_si (gz_si (gz_si gx4 20 I 3 (nI wv)) 0 0 6 (nI (I + 1))) 0 0 7 (nI d)) 26 0 4 0) 26 0 5 0) 0 0 10 0) := ((((((((bfx.tr (hx3.w (fun t i k q => (gIX_1 t i k q).2.1))).tr (f4.w (fun t i k q => (gIX_1 t i k q).2.2))).si (p20 3)).si rfl).si rfl).si rfl).si rfl).si rfl)
  have FM : gfr (gIM I) σm (gz_si (gz_si (gz_si (gz_si gm4 33 0 I (nI wv)) 0 0 9 0) 0 0 1 0) 0 0 2 (-1)) := ((((((bfm.tr (hm3.w (fun t i k q => (gIM_1 t i k q).2.1))).tr (f4'.w (fun t i k q => (gIM_1 t i k q).2.2))).si p33).si rfl).si rfl).si rfl)
  have gl0 : ∀ k, k = 0 ∨ k = 1 ∨ k = 3 → gli I 20 I k = false := fun k hk => by
    unfold gli
    rcases hk with rfl | rfl | rfl <;> simp [gbq]
  refine g_issue_new h hI hc hd FX FM (fun n hn => ⟨?_, ?_⟩) ?_ ?_ ?_ ?_ ?_ ?_ ?_ ?_ (fun j hj => ?_) rfl ?_ rfl ?_ rfl rfl rfl rfl rfl rfl
  · show gx4.1 14 n 3 = gm4.1 18 0 n
    rw [(f4 14 n 3 rfl).1, e18]
    exact h318 n hn
  · show (gm4.1 18 0 n = nI I ∧ gx4.1 14 n 4 = nI d) ∨ (gm4.1 18 0 n = σm.1 18 0 n ∧ gx4.1 14 n 4 = σx.1 14 n 4)
    rw [(f4 14 n 4 rfl).1, e18]
    rcases hp3 n hn with ⟨-, -, q1, q2⟩ | ⟨-, -, q1, q2⟩
    · exact Or.inl ⟨q2, q1⟩
    · exact Or.inr ⟨q2.trans (d18 n), q1.trans (bx14 n 4)⟩
  · have e15 : gx4.2.1 15 = gx3.2.1 15 := funext fun n => funext fun k => (f4 15 n k rfl).2
    have e8 : gm4.1 8 0 = gm3.1 8 0 := funext fun k => (f4' 8 0 k rfl).1
    have e9 : gm4.1 9 0 = gm3.1 9 0 := funext fun k => (f4' 9 0 k rfl).1
    have e21 : gm4.2.1 21 0 = gm3.2.1 21 0 := funext fun k => (f4' 21 0 k rfl).2
    have e25 : gm4.1 25 0 = gm3.1 25 0 := funext fun k => (f4' 25 0 k rfl).1
    show ∀ n, n < N → rNoteV n fo (gx4.2.1 15) (gm4.1 8 0) (gm4.1 9 0) (gm4.2.1 21 0) (gm4.1 25 0)
    rw [e15, e8, e9, e21, e25]
    exact hV3
  · show (if 20 = 20 ∧ I = I ∧ 0 = 3 then nI wv else gx4.1 20 I 0) = _
    rw [if_neg (by omega), (f4 20 I 0 (gl0 0 (Or.inl rfl))).1, (hx3 20 I 0 rfl).1]
    exact b0
  · show gm4.1 29 0 I = _
    rw [(f4' 29 0 I rfl).1, (hm3 29 0 I rfl).1]
    exact c29
  · show (if 20 = 20 ∧ I = I ∧ 1 = 3 then nI wv else gx4.1 20 I 1) = gm4.1 31 0 I
    rw [if_neg (by omega), (f4 20 I 1 (gl0 1 (Or.inr (Or.inl rfl)))).1, (hx3 20 I 1 rfl).1, b1, (f4' 31 0 I rfl).1, (hm3 31 0 I rfl).1, c31]
  · show (if 20 = 20 ∧ I = I ∧ 2 = 3 then nI wv else gx4.1 20 I 2) = gm4.1 32 0 I
    rw [if_neg (by omega), l2, (f4' 32 0 I rfl).1, hlt3, hltx]
  · show (if 20 = 20 ∧ I = I ∧ 3 = 3 then nI wv else gx4.1 20 I 3) = (if 33 = 33 ∧ 0 = 0 ∧ I = I then nI wv else gm4.1 33 0 I)
    rw [if_pos ⟨rfl, rfl, rfl⟩, if_pos ⟨rfl, rfl, rfl⟩]
  · show (if 20 = 20 ∧ I = I ∧ 4 = 3 then nI wv else gx4.1 20 I 4) = _
    rw [if_neg (by omega)]
    exact l4
  · show gm4.1 30 0 I = _
    rw [(f4' 30 0 I rfl).1, (hm3 30 0 I rfl).1]
    exact c30
  · show gx4.1 21 I j = gm4.1 34 0 (12 * I + j)
    rw [ll j hj, ll' j hj]
    have hg : ∀ k, k ≤ N → gfl (fun n => decide (gx3.1 14 n 3 = nI I)) k = gfl (fun n => decide (gm3.1 18 0 n = nI I)) k := by
      intro k
      induction k with
      | zero => intro _; rfl
      | succ k ihk =>
        intro hk
        show (if decide (gx3.1 14 k 3 = nI I) = true then (fun j => if j = gs_cn (fun n => decide (gx3.1 14 n 3 = nI I)) k 0 then nI k else gfl (fun n => decide (gx3.1 14 n 3 = nI I)) k j) else gfl (fun n => decide (gx3.1 14 n 3 = nI I)) k) = (if decide (gm3.1 18 0 k = nI I) = true then (fun j => if j = gs_cn (fun n => decide (gm3.1 18 0 n = nI I)) k 0 then nI k else gfl (fun n => decide (gm3.1 18 0 n = nI I)) k j) else gfl (fun n => decide (gm3.1 18 0 n = nI I)) k)
        rw [ihk (by omega), h318 k (by omega), gs_cn_congr (w := fun n => decide (gm3.1 18 0 n = nI I)) (w' := fun n => decide (gx3.1 14 n 3 = nI I)) k 0 (fun n _ hn => by rw [h318 n (by omega)])]
    rw [hg N (Nat.le_refl _)]
  · show gm4.1 0 0 30 = _
    rw [(f4' 0 0 30 rfl).1, (hm3 0 0 30 rfl).1]
    exact d30
  · show gm4.1 0 0 31 = _
    rw [(f4' 0 0 31 rfl).1, (hm3 0 0 31 rfl).1]
    exact d31
theorem s_issue {σx σm : gz_S} (h : gR σx σm) (a1 a2 a3 a4 : Int32) : gQ (f_X9_issue a1 a2 a3 a4 σx) (f_X11_issue a1 a2 a3 a4 σm) := by
  obtain ⟨F, P, N, I, fo, la, L, h⟩ := h
  unfold f_X9_issue f_X11_issue f_X11_in
  rw [gz_w_e]
  replace h := h.th 0
  generalize gz_si σm 0 0 0 0 = σm at h ⊢
  have hR : gR σx σm := ⟨F, P, N, I, fo, la, L, h⟩
  obtain ⟨hI, i1, i2, i3, -⟩ := h.2.2.2.2.2.2.2.2.1
  have hrefuse : ∀ w : Int32, w ≠ 4 → gQ (gz_call (f_X9_refused w σx) fun r17 σ16 => some (r17, σ16)) (gz_call (f_X11_refused w σm) fun r3 σ2 => some (r3, σ2)) := fun w hw => gQ_mk rfl rfl (gR.tr hR hw)
  rcases g_isDay a1 with ⟨d, hd, rfl⟩ | ⟨e1, e2⟩
  · rw [x_isDay hd, gz_call_e, if_neg (show ¬ (1 : Int32) = 0 by decide), m_isDay hd, gz_call_e, if_neg (show ¬ (1 : Int32) = 0 by decide), i3]
    by_cases c1 : nI d ≤ σm.1 0 0 31
    · rw [if_pos c1, if_pos c1]
      exact hrefuse 2 (by decide)
    rw [if_neg c1, if_neg c1]
    by_cases c2 : a2 ≤ nI d
    · rw [if_pos c2, if_pos c2]
      exact hrefuse 2 (by decide)
    rw [if_neg c2, if_neg c2]
    by_cases c3 : a2 ≤ 10000
    rotate_left
    · rw [if_neg c3, if_pos (g_Inlt c3)]
      exact hrefuse 2 (by decide)
    rw [if_pos c3, if_neg (g_nlt c3)]
    by_cases c4 : a3 < 1
    · rw [if_pos c4, if_pos c4, gz_call_e, if_pos (by decide)]
      exact hrefuse 2 (by decide)
    rw [if_neg c4, if_neg c4]
    by_cases c5 : 8 < a3
    · rw [if_pos c5, if_pos c5, gz_call_e, if_pos (by decide)]
      exact hrefuse 2 (by decide)
    rw [if_neg c5, if_neg c5, gz_call_e, if_neg (show ¬ ((1 : Int32) &&& 1) = 0 by decide)]
    by_cases c6 : a4 < 10
    · rw [if_pos c6, if_pos c6, gz_call_e, if_pos (by decide)]
      exact hrefuse 2 (by decide)
    rw [if_neg c6, if_neg c6]
    by_cases c7 : a4 ≤ 60
    rotate_left
    · rw [if_neg c7, if_pos (g_Inlt c7), gz_call_e, if_pos (by decide)]
      exact hrefuse 2 (by decide)
    rw [if_pos c7, if_neg (g_nlt c7), gz_call_e, if_neg (show ¬ ((1 : Int32) &&& 1) = 0 by decide), i1, i2]
    by_cases hI40 : I < 40
    rotate_left
    · rw [if_neg (fun q => hI40 ((gn_lt 40 (a := I)).mp q)), if_pos ((gn_eq 40 (a := I)).mpr (by omega))]
      exact hrefuse 3 (by decide)
    rw [if_pos ((gn_lt 40 (a := I)).mpr hI40), if_neg (fun q => by have := (gn_eq 40 (a := I)).mp q; omega)]
    obtain ⟨nx, hnx, rfl⟩ : ∃ nx : Nat, (d < nx ∧ nx ≤ 10000) ∧ a2 = nI nx := by
      have q1 : ¬ a2.toInt ≤ (d : Int) := fun q => c2 (Int32.le_iff_toInt_le.mpr (by rw [nI_toInt (by omega)]; exact q))
      have q2 : a2.toInt ≤ 10000 := Int32.le_iff_toInt_le.mp c3
      refine ⟨a2.toInt.toNat, by omega, ?_⟩
      apply Int32.toInt_inj.mp
      rw [nI_toInt (by omega)]
      omega
    obtain ⟨pg, hpg, rfl⟩ : ∃ l : Nat, (1 ≤ l ∧ l ≤ 8) ∧ a3 = nI l := by
      have q1 : ¬ a3.toInt < 1 := fun q => c4 (Int32.lt_iff_toInt_lt.mpr q)
      have q2 : ¬ (8 : Int) < a3.toInt := fun q => c5 (Int32.lt_iff_toInt_lt.mpr q)
      refine ⟨a3.toInt.toNat, by omega, ?_⟩
      apply Int32.toInt_inj.mp
      rw [nI_toInt (by omega)]
      omega
    obtain ⟨w, hw, rfl⟩ : ∃ l : Nat, (10 ≤ l ∧ l ≤ 60) ∧ a4 = nI l := by
      have q1 : ¬ a4.toInt < 10 := fun q => c6 (Int32.lt_iff_toInt_lt.mpr q)
      have q2 : a4.toInt ≤ 60 := Int32.le_iff_toInt_le.mp c7
      refine ⟨a4.toInt.toNat, by omega, ?_⟩
      apply Int32.toInt_inj.mp
      rw [nI_toInt (by omega)]
      omega
    exact s_issue_go h hd hnx hpg hw hI40
  · rw [e1, gz_call_e, if_pos rfl, e2, gz_call_e, if_pos rfl]
    exact hrefuse 2 (by decide)
