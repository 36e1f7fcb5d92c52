/-! what a notice that waits says -/
theorem rNA {N I : Nat} {fo la fo' la' : Nat → Nat} {σx σm σx' σm' : gz_S} (n : Nat) (h : ∀ j, j < N → rNoteA j I fo la (σx.1 14) (σx.2.1 14) (σm.1 15 0) (σm.1 16 0) (σm.1 17 0) (σm.1 18 0) (σm.1 19 0) (σm.1 20 0) (σm.2.1 22 0) (σm.2.1 23 0) (σm.2.1 24 0) (σm.1 29 0))
    (hx : ∀ j, j ≠ n → ∀ k, σx'.1 14 j k = σx.1 14 j k ∧ σx'.2.1 14 j k = σx.2.1 14 j k) (hm : ∀ j, j ≠ n → σm'.1 15 0 j = σm.1 15 0 j ∧ σm'.1 16 0 j = σm.1 16 0 j ∧ σm'.1 17 0 j = σm.1 17 0 j ∧ σm'.1 18 0 j = σm.1 18 0 j ∧ σm'.1 19 0 j = σm.1 19 0 j ∧ σm'.1 20 0 j = σm.1 20 0 j ∧ σm'.2.1 22 0 j = σm.2.1 22 0 j ∧ σm'.2.1 23 0 j = σm.2.1 23 0 j ∧ σm'.2.1 24 0 j = σm.2.1 24 0 j) (h29 : ∀ i, i < I → σm'.1 29 0 i = σm.1 29 0 i) (hf : ∀ j, j ≠ n → fo' j = fo j ∧ la' j = la j)
    {N' : Nat} (hN : ∀ j, j < N' → j ≠ n → j < N) (hn : n < N' → rNoteA n I fo' la' (σx'.1 14) (σx'.2.1 14) (σm'.1 15 0) (σm'.1 16 0) (σm'.1 17 0) (σm'.1 18 0) (σm'.1 19 0) (σm'.1 20 0) (σm'.2.1 22 0) (σm'.2.1 23 0) (σm'.2.1 24 0) (σm'.1 29 0)) :
    ∀ j, j < N' → rNoteA j I fo' la' (σx'.1 14) (σx'.2.1 14) (σm'.1 15 0) (σm'.1 16 0) (σm'.1 17 0) (σm'.1 18 0) (σm'.1 19 0) (σm'.1 20 0) (σm'.2.1 22 0) (σm'.2.1 23 0) (σm'.2.1 24 0) (σm'.1 29 0) := by
  intro j hj
  by_cases e : j = n
  · subst e
    exact hn hj
  · obtain ⟨m15, m16, m17, m18, m19, m20, m22, m23, m24⟩ := hm j e
    have h1 := h j (hN j hj e)
    unfold rNoteA at h1 ⊢
    rw [(hx j e 0).1, (hx j e 1).1, (hx j e 2).1, (hx j e 3).1, (hx j e 4).1, (hx j e 6).1, (hx j e 10).1, (hx j e 11).2, (hx j e 12).2, (hx j e 13).2, m15, m16, m17, m18, m19, m20, m22, m23, m24, (hf j e).1, (hf j e).2]
    obtain ⟨a0, a1, a2, a3, a4, a5, a6⟩ := h1
    refine ⟨a0, a1, a2, a3, a4, ?_, a6⟩
    rcases a5 with a5 | ⟨i, i1, i2, i3⟩
    · exact Or.inl a5
    · exact Or.inr ⟨i, i1, i2, by rw [h29 i i1]; exact i3⟩
theorem m_waits {n N : Nat} (hN : N ≤ 60) (hn : n < N) {σ : gz_S} (h : σ.1 0 0 29 = nI N) : f_X11_waits (nI n) σ = if σ.1 18 0 n = -1 then some (1, σ) else some (0, gz_si (gz_si σ 0 0 1 6) 0 0 2 (-1)) := by
  unfold f_X11_waits
  rcases g_note (nI n) hN with ⟨k, hk, e, -, e2⟩ | ⟨e, -⟩
  · rw [e2 σ h, gz_call_e, if_neg (by decide), gz_ix_nI (show n < 61 by omega) (by decide)]
    split
    · rfl
    · rfl
  · exact absurd rfl (e n hn)
theorem gun_e (f : Nat → Nat) (n c : Nat) : gun f n c n = c := if_pos rfl
theorem gun_ne (f : Nat → Nat) {n c j : Nat} (h : j ≠ n) : gun f n c j = f j := if_neg h
theorem gun2 {f : Nat → Nat} {n c c' : Nat} (h : f n = c) : gun (gun f n c') n c = f := by
  funext j
  by_cases e : j = n
  · subst e
    rw [gun_e, h]
  · rw [gun_ne _ e, gun_ne _ e]
theorem x_isKey (a : Int32) : (∃ k, k < 40 ∧ a = nI k ∧ (∀ σ, f_X9_isKey a σ = some (1, σ)) ∧ ∀ σ, f_X11_in a 0 39 σ = some (1, σ)) ∨ ((∀ σ, f_X9_isKey a σ = some (0, σ)) ∧ ∀ σ, f_X11_in a 0 39 σ = some (0, σ)) := by
  have c1 : (39 : Int32).toInt = 39 := by decide
  have c3 : (nI 40).toInt = 40 := by decide
  rcases g_ixc a (c := 40) (by decide) with h | ⟨h1, h2, h3⟩ | ⟨k, hk, rfl, h1, h2, h3⟩
  · refine Or.inr ⟨fun σ => ?_, fun σ => ?_⟩
    · unfold f_X9_isKey
      rw [if_pos h]
      rfl
    · unfold f_X11_in
      rw [if_pos h]
      rfl
  · have h5 : 39 < a := Int32.lt_iff_toInt_lt.mpr (by
      have q2 := Int32.le_iff_toInt_le.mp h2
      omega)
    refine Or.inr ⟨fun σ => ?_, fun σ => ?_⟩
    · unfold f_X9_isKey
      rw [if_neg h1, if_pos (show (40 : Int32) ≤ a from h2)]
      rfl
    · unfold f_X11_in
      rw [if_neg h1, if_pos h5]
      rfl
  · refine Or.inl ⟨k, hk, rfl, fun σ => ?_, fun σ => ?_⟩
    · unfold f_X9_isKey
      rw [if_neg h1, if_neg (show ¬ (40 : Int32) ≤ nI k from h3)]
      rfl
    · unfold f_X11_in
      rw [if_neg h1, if_neg (fun q => by have := (gn_gt 39).mp q; omega)]
      rfl
theorem gz_nl_some {α : Type} {n c : Nat} {a : Option α} {f : Nat → Option α} (h : n < c) : gz_nl (some n) c a f = f n := if_pos h
theorem gz_nl_none {α : Type} {c : Nat} {a : Option α} {f : Nat → Option α} : gz_nl none c a f = a := Eq.trans rfl rfl
theorem x_addLaw {n c : Nat} (hc : c < 4) {k v d : Int32} {σ : gz_S} (h : σ.1 14 n 6 = nI c) : f_X6_addLaw n k v d σ = some (gz_si (gz_si (gz_si (gz_si σ 16 n c k) 17 n c v) 18 n c d) 14 n 6 (nI (c + 1))) := by
  unfold f_X6_addLaw
  have e1 : (gz_si σ 16 n c k).1 14 n 6 = nI c := h
  have e2 : (gz_si (gz_si σ 16 n c k) 17 n c v).1 14 n 6 = nI c := h
  have e3 : (gz_si (gz_si (gz_si σ 16 n c k) 17 n c v) 18 n c d).1 14 n 6 = nI c := h
  rw [h, if_neg (fun q => by have := (gn_ge 4).mp q; omega), gz_ix_nI hc (by decide), gz_w_e, e1, gz_ix_nI hc (by decide), gz_w_e, e2, gz_ix_nI hc (by decide), gz_w_e, e3, gz_w_e, nI_1]
set_option maxHeartbeats 1000000 in
theorem s_says {σx σm : gz_S} (h : gR σx σm) (a k v f : Int32) : gQ (f_X9_says a k v f σx) (f_X11_says a k v f σm) := by
  obtain ⟨F, P, N, I, fo, la, L, h⟩ := h
  unfold f_X9_says f_X11_says
  rw [gz_w_e]
  replace h := h.th 0
  generalize gz_si σm 0 0 0 0 = σm at h ⊢
  have hR : gR σx σm := ⟨F, P, N, I, fo, la, L, h⟩
  obtain ⟨n1, n2⟩ := h.2.2.2.2.1
  have hB := h.2.2.2.2.2.2.2.2.2.2.2.B
  rcases g_note a hB.2.2.1 with ⟨n, hn, rfl, e1, e2⟩ | ⟨-, e1, e2⟩
  · rw [e1 _ n1, gz_call_e, gz_nl_some (show n < 61 by have := hB.2.2.1; omega), e2 _ n2, gz_call_e, if_neg (show ¬ (1 : Int32) = 0 by decide), gz_ix_nI (show n < 61 by have := hB.2.2.1; omega) (by decide), x_waits, gz_call_e]
    have hA := h.2.2.2.2.2.1 n hn
    obtain ⟨a0, a0', ⟨l, l1, l2, a1, a1'⟩, ⟨d, d1, a2, a2'⟩, a3, a3', a4, a4', a5, a5', a6, a7, a8, a9⟩ := hA
    rw [a3]
    by_cases hw : σm.1 18 0 n = -1
    · rw [if_pos hw, if_neg (show ¬ (1 : Int32) = 0 by decide), if_pos hw]
      rcases x_isKey k with ⟨kk, hkk, rfl, k1, k2⟩ | ⟨k1, k2⟩
      · rw [k1, gz_call_e, if_neg (show ¬ (1 : Int32) = 0 by decide), k2, gz_call_e, if_neg (show ¬ (1 : Int32) = 0 by decide)]
        by_cases hv : v = -2147483648
        · rw [if_pos hv, if_pos hv]
          exact gQ_mk rfl rfl (gR.tr hR (by decide))
        · rw [if_neg hv, if_neg hv]
          rcases g_isDay f with ⟨d', hd', rfl⟩ | ⟨g1, g2⟩
          · rw [x_isDay hd', gz_call_e, if_neg (show ¬ (1 : Int32) = 0 by decide), m_isDay hd', gz_call_e, if_neg (show ¬ (1 : Int32) = 0 by decide), a4, gz_ix_nI (show n < 61 by have := hB.2.2.1; omega) (by decide), a4']
            have hla := (hB.2.2.2 n hn).2
            by_cases h4 : la n = 4
            · rw [if_neg (fun q => by have := (gn_lt 4).mp q; omega), if_pos ((gn_eq 4).mpr h4)]
              exact gQ_mk rfl rfl (gR.tr hR (by decide))
            · have hN60 := hB.2.2.1
              have hlt : la n < 4 := by omega
              rw [if_pos ((gn_lt 4).mpr hlt), if_neg (fun q => h4 ((gn_eq 4).mp q)), x_addLaw hlt a4, gz_then_e, gz_ix_nI (show n < 61 by omega) (by decide), gz_v_e, a4', show (4 : Int32) * nI n + nI (la n) = nI (4 * n + la n) from by rw [show (4 : Int32) * nI n = nI (4 * n) from pk_mul 4 n, nI_add]]
              simp only [gz_ix_nI (show 4 * n + la n < 240 by omega) (show 240 < 2 ^ 31 by decide), gz_ix_nI (show n < 61 by omega) (show 61 < 2 ^ 31 by decide), gz_w_e]
              generalize hσx1 : gz_si (gz_si (gz_si (gz_si σx 16 n (la n) (nI kk)) 17 n (la n) v) 18 n (la n) (nI d')) 14 n 6 (nI (la n + 1)) = σx1
              generalize hσm1 : gz_si (gz_si (gz_si σm 26 0 (4 * n + la n) (nI kk)) 27 0 (4 * n + la n) v) 28 0 (4 * n + la n) (nI d') = σm1
              obtain ⟨gx, gm, ep, ea, hA'⟩ := g_push (L := L) (σx := σx1) (σm := σm1) ((3 : Int32), nI n, (0 : Int64), (0 : Int64)) (by subst hσx1; subst hσm1; exact h.2.2.2.2.2.2.2.2.2.1)
              have ep' : f_X0_push 3 (nI n) 0 0 σx1 = some (gov gpx σx1 gx) := ep
              have ea' : f_X11_act 3 (nI n) 0 0 σm1 = some (gov gpm σm1 gm) := ea
              rw [ep', gz_then_e, ea', gz_then_e]
              subst hσx1; subst hσm1
              have q1 : (gov gpx (gz_si (gz_si (gz_si (gz_si σx 16 n (la n) (nI kk)) 17 n (la n) v) 18 n (la n) (nI d')) 14 n 6 (nI (la n + 1))) gx).1 14 n 6 = nI (la n + 1) := by
                show (if 14 = 14 ∧ n = n ∧ 6 = 6 then _ else _) = _
                exact if_pos ⟨rfl, rfl, rfl⟩
              have q2 : (gov gpm (gz_si (gz_si (gz_si σm 26 0 (4 * n + la n) (nI kk)) 27 0 (4 * n + la n) v) 28 0 (4 * n + la n) (nI d')) gm).1 19 0 n = nI (la n) := a4'
              rw [q1, q2, nI_1, gz_si_1, if_pos ⟨rfl, rfl, rfl⟩]
              refine gQ_mk rfl rfl ⟨F, P, N, I, fo, gun la n (la n + 1), _, h.1, ⟨rfl, h.2.1.2.1, rfl, h.2.1.2.2.2⟩, h.2.2.1, h.2.2.2.1, h.2.2.2.2.1, ?_, ?_, h.2.2.2.2.2.2.2.1, h.2.2.2.2.2.2.2.2.1, hA', h.2.2.2.2.2.2.2.2.2.2.1, ?_⟩
              · refine rNA (σx' := gz_si (gov gpx (gz_si (gz_si (gz_si (gz_si σx 16 n (la n) (nI kk)) 17 n (la n) v) 18 n (la n) (nI d')) 14 n 6 (nI (la n + 1))) gx) 0 0 10 0) (σm' := gz_si (gz_si (gz_si (gov gpm (gz_si (gz_si (gz_si σm 26 0 (4 * n + la n) (nI kk)) 27 0 (4 * n + la n) v) 28 0 (4 * n + la n) (nI d')) gm) 19 0 n (nI (la n + 1))) 0 0 1 0) 0 0 2 (-1)) (la' := gun la n (la n + 1)) n h.2.2.2.2.2.1 (fun j hj k => ⟨?_, rfl⟩) (fun j hj => ⟨rfl, rfl, rfl, rfl, ?_, rfl, rfl, rfl, rfl⟩) (fun _ _ => rfl) (fun j hj => ⟨rfl, gun_ne _ hj⟩) (fun j hj _ => hj) (fun _ => ?_)
                · show (if 14 = 14 ∧ j = n ∧ k = 6 then _ else σx.1 14 j k) = _
                  exact if_neg (fun q => hj q.2.1)
                · show (if 19 = 19 ∧ 0 = 0 ∧ j = n then _ else σm.1 19 0 j) = _
                  exact if_neg (fun q => hj q.2.2)
                · have e14 : ∀ k, k ≠ 6 → (gz_si (gov gpx (gz_si (gz_si (gz_si (gz_si σx 16 n (la n) (nI kk)) 17 n (la n) v) 18 n (la n) (nI d')) 14 n 6 (nI (la n + 1))) gx) 0 0 10 0).1 14 n k = σx.1 14 n k := fun k hk => by
                    show (if 14 = 14 ∧ n = n ∧ k = 6 then _ else σx.1 14 n k) = _
                    exact if_neg (fun q => hk q.2.2)
                  unfold rNoteA
                  rw [e14 0 (by decide), e14 1 (by decide), e14 2 (by decide), e14 3 (by decide), e14 4 (by decide), e14 10 (by decide), gun_e]
                  refine ⟨a0, a0', ⟨l, l1, l2, a1, a1'⟩, ⟨d, d1, a2, a2'⟩, a3, a3', ?_, ?_, a5, a5', a6, a7, a8, a9⟩
                  · show (if 14 = 14 ∧ n = n ∧ 6 = 6 then _ else _) = _
                    exact if_pos ⟨rfl, rfl, rfl⟩
                  · show (if 19 = 19 ∧ 0 = 0 ∧ n = n then _ else _) = _
                    exact if_pos ⟨rfl, rfl, rfl⟩
              · intro j hj i hi
                have hlj := (hB.2.2.2 j hj).2
                show (if 16 = 16 ∧ j = n ∧ i = la n then nI kk else σx.1 16 j i) = (if 26 = 26 ∧ 0 = 0 ∧ 4 * j + i = 4 * n + la n then nI kk else σm.1 26 0 (4 * j + i)) ∧ (if 17 = 17 ∧ j = n ∧ i = la n then v else σx.1 17 j i) = (if 27 = 27 ∧ 0 = 0 ∧ 4 * j + i = 4 * n + la n then v else σm.1 27 0 (4 * j + i)) ∧ (if 27 = 27 ∧ 0 = 0 ∧ 4 * j + i = 4 * n + la n then v else σm.1 27 0 (4 * j + i)) ≠ -2147483648 ∧ ∃ d, d < 10000 ∧ (if 18 = 18 ∧ j = n ∧ i = la n then nI d' else σx.1 18 j i) = nI d ∧ (if 28 = 28 ∧ 0 = 0 ∧ 4 * j + i = 4 * n + la n then nI d' else σm.1 28 0 (4 * j + i)) = nI d
                simp only [true_and]
                by_cases hc : j = n ∧ i = la n
                · have hc2 : 4 * j + i = 4 * n + la n := by rw [hc.1, hc.2]
                  rw [if_pos hc, if_pos hc2, if_pos hc, if_pos hc2, if_pos hc, if_pos hc2]
                  exact ⟨rfl, rfl, hv, d', hd', rfl, rfl⟩
                · have hi' : i < la j := by
                    by_cases e : j = n
                    · subst e
                      rw [gun_e] at hi
                      have : i ≠ la j := fun q => hc ⟨rfl, q⟩
                      omega
                    · rw [gun_ne _ e] at hi
                      exact hi
                  have hc2 : ¬ (4 * j + i = 4 * n + la n) := fun q => hc (by omega)
                  rw [if_neg hc, if_neg hc2, if_neg hc, if_neg hc2, if_neg hc, if_neg hc2]
                  exact h.2.2.2.2.2.2.1 j hj i hi'
              · have hIL := h.2.2.2.2.2.2.2.2.2.2.2
                refine gIL.take _ 100 ⟨⟨hB.1, hB.2.1, hB.2.2.1, fun j hj => ⟨(hB.2.2.2 j hj).1, ?_⟩⟩, Or.inr (Or.inr (Or.inr (Or.inr (Or.inl ⟨rfl, n, la n, hn, rfl, gun_e _ _ _, ?_⟩))))⟩
                · by_cases e : j = n
                  · subst e
                    rw [gun_e]
                    omega
                  · rw [gun_ne _ e]
                    exact (hB.2.2.2 j hj).2
                · rw [gun2 rfl]
                  exact hIL
          · rw [g1, gz_call_e, if_pos rfl, g2, gz_call_e, if_pos rfl]
            exact gQ_mk rfl rfl (gR.tr hR (by decide))
      · rw [k1, gz_call_e, if_pos rfl, k2, gz_call_e, if_pos rfl]
        exact gQ_mk rfl rfl (gR.tr hR (by decide))
    · rw [if_neg hw, if_pos rfl, if_neg hw]
      exact gQ_mk rfl rfl (gR.tr hR (by decide))
  · rw [e1 _ n1, gz_call_e, gz_nl_none, e2 _ n2, gz_call_e, if_pos rfl]
    exact gQ_mk rfl rfl (gR.tr hR (by decide))
