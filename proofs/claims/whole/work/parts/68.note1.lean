/-! notices: values -/
theorem g64_lt {v : Nat} (hv : v < 2 ^ 31) (y : Int32) : (lg_cmp (lN v) y.toInt64 < 0) ↔ nI v < y := by
  rw [lg_cmp_lt, Int64.lt_iff_toInt_lt, Int32.lt_iff_toInt_lt, Int32.toInt_toInt64, nI_toInt hv, pk_lT (by omega)]
theorem g64_le {v : Nat} (hv : v < 2 ^ 31) (y : Int32) : (lg_cmp (lN v) y.toInt64 ≤ 0) ↔ ¬ y < nI v := by
  rw [lg_cmp_le, Int64.le_iff_toInt_le, Int32.lt_iff_toInt_lt, Int32.toInt_toInt64, nI_toInt hv, pk_lT (by omega)]
  omega
theorem lN_n1 {k : Nat} (h : k < 2 ^ 63) : lN k ≠ -1 := fun q => by
  have := congrArg Int64.toInt q
  rw [pk_lT h] at this
  have e : (-1 : Int64).toInt = -1 := by decide
  omega
theorem m_vb {i kd : Nat} {gm : gz_S} (hi : i < 104) (hk : kd < 4) (h9 : gm.1 9 0 i = nI kd) : f_X11_valueBy (nI i) gm = f_X11_valueBy_J39 (nI i) (if kd ≤ 1 then 1 else 0) (if gm.1 0 0 17 = 3 then 1 else 0) gm := by
  unfold f_X11_valueBy
  rw [gz_ix_nI hi (by decide), gz_j1_e, gz_j0_e, gz_ix_nI hi (by decide), h9]
  unfold f_X11_valueBy_J19 f_X11_valueBy_J24
  simp only [gz_j2_e]
  by_cases h0 : kd = 0
  · rw [if_pos ((gn_eq 0 (a := kd)).mpr h0), if_pos (show kd ≤ 1 by omega)]
    split <;> rfl
  · rw [if_neg (fun q => h0 ((gn_eq 0 (a := kd)).mp q))]
    by_cases h1 : kd = 1
    · rw [if_pos ((gn_eq 1 (a := kd)).mpr h1), if_pos (show kd ≤ 1 by omega)]
      split <;> rfl
    · rw [if_neg (fun q => h1 ((gn_eq 1 (a := kd)).mp q)), if_neg (show ¬ kd ≤ 1 by omega)]
      split <;> rfl
theorem g_val {e i k : Nat} {b : Nat → Nat} {gx gm : gz_S} (hi : i < 104) (hF : gFs e b gx gm) (hfd : rField (gx.1 8) (gx.2.1 8) (gx.2.1 9) (gm.1 9 0) (gm.1 10 0) (gm.1 11 0) (gm.1 12 0) (gm.2.1 13 0) (gm.2.1 14 0) i k) {kd : Nat} (hk : kd < 4) (h9 : gm.1 9 0 i = nI kd) (htk : gx.1 3 0 4 = 1 ∨ gx.1 3 0 4 = 2) : (∃ r, f_X3_valueOf i gx = some (r, gx) ∧ f_X11_valueBy (nI i) gm = some (some r, gm) ∧ r ≠ -1 ∧ (kd = 1 → ∃ v, v ≤ 9999 ∧ r = lN v)) ∨ (f_X3_valueOf i gx = some (-1, gx) ∧ f_X11_valueBy (nI i) gm = some (none, gst gm 4)) := by
  obtain ⟨q0, q1, q2, q3, q4, kd', q5, q6, q7, q8, q9⟩ := hfd
  have : kd' = kd := by
    have := q6.symm.trans h9
    exact (nI_eq (by omega) (by omega)).mp this
  subst this
  rw [m_vb hi hk h9]
  unfold f_X3_valueOf f_X11_valueBy_J39
  rw [q1, q6]
  rcases htk with t1 | t1
  · rcases hF.2.2.1.w with ⟨-, t2, ha, u, hu, v1, v2⟩ | ⟨q, -⟩
    · rw [t1, t2, if_neg (show ¬ (2 : Int32) = 3 by decide), if_neg (show ¬ (1 : Int32) = 2 by decide), if_neg (show ¬ (1 : Int32) = 2 by decide), if_pos (show (1 : Int32) = 1 from rfl)]
      by_cases h1 : kd' ≤ 1
      · rw [if_pos h1, if_neg (show ¬ (1 : Int32) = 0 by decide)]
        refine Or.inr ⟨?_, rfl⟩
        by_cases h0 : kd' = 0
        · rw [if_pos ((gn_eq 0 (a := kd')).mpr h0)]
        · rw [if_neg (fun q => h0 ((gn_eq 0 (a := kd')).mp q)), if_pos ((gn_eq 1 (a := kd')).mpr (by omega))]
      · rw [if_neg h1, if_pos (show (0 : Int32) = 0 from rfl), if_neg (show ¬ nI kd' = 0 from fun q => by have := (gn_eq 0 (a := kd')).mp q; omega), if_neg (show ¬ nI kd' = 1 from fun q => by have := (gn_eq 1 (a := kd')).mp q; omega), gz_ix_nI hi (by decide), gz_j0_e, h9, if_neg (show ¬ nI kd' = 0 from fun q => by have := (gn_eq 0 (a := kd')).mp q; omega)]
        unfold f_X11_valueBy_J101
        rw [gz_ix_nI hi (by decide), h9, v1, v2]
        by_cases h2 : kd' = 2
        · rw [if_pos ((gn_eq 2 (a := kd')).mpr h2), if_neg (fun q => by have := (gn_eq 3 (a := kd')).mp q; omega)]
          exact Or.inl ⟨lN u, rfl, rfl, lN_n1 (by omega), fun h => by omega⟩
        · have h3 : kd' = 3 := by omega
          rw [if_neg (fun q => h2 ((gn_eq 2 (a := kd')).mp q)), if_pos ((gn_eq 3 (a := kd')).mpr h3), if_pos ((gn_eq 3 (a := kd')).mpr h3), gz_j1_e]
          obtain ⟨w, w1, w2, w3, w4⟩ := q7 h3
          rw [x_placeOf3 (nm := fun j => gm.2.1 14 0 (4 * i + j)) w1 w2 w4, gz_call_e]
          have hsc := gs_sc (F := f_X11_valueBy_L118 (nI i) (f_X11_valueBy_J152 (nI i))) (fun j => decide (gm.2.1 14 0 (4 * i + j) = lN u)) w (fun d => f_X11_valueBy_J152 (nI i) (nI d) gm) gm (fun rec d hd => ?_) (fun rec => ?_) gz_fu 0 (by omega) (by show w - 0 < 20000; omega)
          · rw [show gz_l1 (f_X11_valueBy_L118 (nI i) (f_X11_valueBy_J152 (nI i))) gz_fu 0 gm = _ from hsc]
            have hgf : gfi (fun j => gm.2.1 14 0 (4 * i + j)) w (lN u) = if gs_ff (fun j => decide (gm.2.1 14 0 (4 * i + j) = lN u)) w 0 < w then nI (gs_ff (fun j => decide (gm.2.1 14 0 (4 * i + j) = lN u)) w 0) else -1 := rfl
            have hle := gs_ff_le (w := fun j => decide (gm.2.1 14 0 (4 * i + j) = lN u)) (e := w) (d := 0) (by omega)
            rw [hgf]
            generalize gs_ff (fun j => decide (gm.2.1 14 0 (4 * i + j) = lN u)) w 0 = d at hle
            unfold f_X11_valueBy_J152
            rw [gz_ix_nI hi (by decide), w3]
            by_cases hd : d < w
            · rw [if_pos hd, if_neg (fun q => by have := (nI_eq (by omega) (by omega)).mp q; omega), gl_64 (by omega)]
              exact Or.inl ⟨lN d, rfl, rfl, lN_n1 (by omega), fun h => by omega⟩
            · rw [if_neg hd, if_pos (by rw [show d = w by omega])]
              exact Or.inr ⟨rfl, rfl⟩
          · unfold f_X11_valueBy_L118
            rw [gz_ix_nI hi (by decide), w3, if_neg (nI_ge hd (by omega)), gn_4, gz_ix_nI (show 4 * i + d < 416 by omega) (by decide), v2, nI_1]
            by_cases e : gm.2.1 14 0 (4 * i + d) = lN u
            · rw [if_pos ((lg_cmp_eq _ _).mpr e), if_pos (by simpa using e)]
            · rw [if_neg (fun q => e ((lg_cmp_eq _ _).mp q)), if_neg (by simpa using e)]
          · unfold f_X11_valueBy_L118
            rw [gz_ix_nI hi (by decide), w3, if_pos (nI_le (Nat.le_refl _) (by omega))]
    · exact absurd t1 q
  · rcases hF.2.2.1.n with ⟨-, t2, ha, v, hv, v1, v2⟩ | ⟨q, -⟩
    · rw [t1, t2, if_pos (show (3 : Int32) = 3 from rfl), if_pos (show (2 : Int32) = 2 from rfl), if_pos (show (2 : Int32) = 2 from rfl), if_neg (show ¬ (2 : Int32) = 1 by decide)]
      by_cases h1 : kd' ≤ 1
      · rw [if_pos h1, if_pos (show (1 : Int32) = 1 from rfl), gz_ix_nI hi (by decide), gz_j0_e, h9, v1]
        unfold f_X11_valueBy_J101
        simp only [gz_ix_nI hi (show 104 < 2 ^ 31 by decide), gz_j0_e, h9, v2]
        rw [if_neg (show ¬ nI kd' = 3 from fun q => by have := (gn_eq 3 (a := kd')).mp q; omega)]
        by_cases h0 : kd' = 0
        · rw [if_pos ((gn_eq 0 (a := kd')).mpr h0), if_pos ((gn_eq 0 (a := kd')).mpr h0), q8 (by omega), q4]
          by_cases hlt : nI v < gm.1 10 0 i
          · rw [if_pos hlt, if_pos ((g64_lt (by omega) _).mpr hlt)]
            exact Or.inr ⟨rfl, rfl⟩
          · rw [if_neg hlt, if_neg (fun q => hlt ((g64_lt (by omega) _).mp q))]
            by_cases hgt : gm.1 11 0 i < nI v
            · rw [if_pos hgt, if_neg (fun q => ((g64_le (by omega) _).mp q) hgt)]
              exact Or.inr ⟨rfl, rfl⟩
            · rw [if_neg hgt, if_pos ((g64_le (by omega) _).mpr hgt), gl_64 (by omega)]
              exact Or.inl ⟨lN v, rfl, rfl, lN_n1 (by omega), fun h => by omega⟩
        · rw [if_neg (fun q => h0 ((gn_eq 0 (a := kd')).mp q)), if_neg (fun q => h0 ((gn_eq 0 (a := kd')).mp q)), if_pos ((gn_eq 1 (a := kd')).mpr (by omega)), gl_64 (by omega)]
          exact Or.inl ⟨lN v, rfl, rfl, lN_n1 (by omega), fun _ => ⟨v, hv, rfl⟩⟩
      · rw [if_neg h1, if_neg (show ¬ (0 : Int32) = 1 by decide), if_neg (fun q => by have := (gn_eq 0 (a := kd')).mp q; omega), if_neg (fun q => by have := (gn_eq 1 (a := kd')).mp q; omega)]
        exact Or.inr ⟨rfl, rfl⟩
    · exact absurd t1 q
