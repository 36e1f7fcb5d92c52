def gz_kdx : List ((Nat × Nat) ⊕ (Nat × Nat)) := [.inl (9, 11), .inl (2, 2), .inr (1, 157), .inl (8, 11), .inr (2, 400), .inr (5, 13), .inl (4, 2), .inr (4, 8), .inl (3, 7), .inr (1, 4), .inl (1, 6), .inr (7, 61), .inr (1, 61), .inr (0, 60), .inl (6, 15), .inr (1, 8), .inr (0, 4), .inr (0, 4), .inr (0, 4), .inr (6, 40), .inl (5, 6), .inr (0, 12), .inl (7, 7), .inr (0, 4096), .inr (0, 12), .inr (0, 12), .inl (0, 10), .inr (0, 100), .inr (0, 100), .inr (1, 100), .inr (1, 100)]
def gz_fkx : List (List Nat) := [[4, 6, 8, 0, 13, 22, 0, 0, 25, 29, 0], [5, 0], [], [7, 0, 0, 0, 0, 0, 0, 1, 0, 0, 0], [], [], [10, 0], [], [1, 0, 0, 0, 0, 12, 0], [], [14, 0, 15, 0, 16, 0], [], [], [], [0, 0, 0, 0, 0, 18, 0, 19, 20, 21, 0, 1, 1, 1, 0], [], [], [], [], [], [0, 0, 0, 0, 0, 24], [], [26, 27, 28, 0, 0, 0, 0], [], [], [], [30, 31, 32, 33, 0, 0, 0, 0, 1, 1], [], [], [], []]
def gz_ctx : List Nat := [1, 1, 1, 1, 1, 1, 13, 13, 104, 104, 1, 1, 1, 1, 61, 61, 61, 61, 61, 1, 40, 40, 1, 1, 1, 1, 1, 1, 1, 1, 1]
def gz_ofx : List (Nat × Nat) := [(0, 0), (1, 0), (2, 0), (3, 0), (4, 0), (5, 0), (6, 18), (7, 18), (8, 0), (9, 0), (240, 0), (241, 0), (242, 0), (243, 0), (244, 5), (245, 5), (246, 5), (247, 5), (248, 5), (549, 0), (550, 2), (551, 2), (630, 0), (631, 0), (632, 0), (633, 0), (634, 0), (635, 0), (636, 0), (637, 0), (638, 0)]
def gz_kdm : List ((Nat × Nat) ⊕ (Nat × Nat)) := [.inl (11, 63), .inr (0, 100), .inr (0, 100), .inr (1, 100), .inr (1, 100), .inr (3, 10000), .inl (10, 8), .inr (2, 400), .inr (0, 13), .inr (0, 104), .inr (0, 104), .inr (0, 104), .inr (3, 104), .inr (1, 104), .inr (1, 416), .inr (0, 61), .inr (0, 61), .inr (0, 61), .inr (0, 61), .inr (0, 61), .inr (0, 61), .inr (1, 488), .inr (1, 61), .inr (1, 61), .inr (1, 61), .inr (3, 488), .inr (0, 240), .inr (0, 240), .inr (0, 240), .inr (0, 40), .inr (0, 40), .inr (0, 40), .inr (0, 40), .inr (0, 40), .inr (0, 480), .inr (0, 12), .inr (0, 4096), .inr (0, 4096), .inr (3, 60), .inr (0, 10000), .inr (0, 10000), .inr (3, 10000), .inr (1, 61), .inr (0, 60), .inr (3, 60)]
def gz_fkm : List (List Nat) := [[0, 0, 0, 0, 0, 4, 5, 6, 7, 0, 8, 0, 9, 10, 0, 0, 0, 0, 0, 0, 1, 0, 11, 12, 13, 14, 15, 16, 17, 0, 0, 0, 18, 19, 20, 21, 22, 23, 24, 25, 26, 27, 28, 29, 30, 31, 32, 33, 34, 35, 36, 37, 38, 39, 40, 0, 41, 42, 43, 44, 45, 46, 0], [], [], [], [], [], [2, 2, 2, 2, 2, 0, 0, 0], [], [], [], [], [], [], [], [], [], [], [], [], [], [], [], [], [], [], [], [], [], [], [], [], [], [], [], [], [], [], [], [], [], [], [], [], []]
def gz_ctm : List Nat := [1, 1, 1, 1, 1, 1, 1, 1, 1, 1, 1, 1, 1, 1, 1, 1, 1, 1, 1, 1, 1, 1, 1, 1, 1, 1, 1, 1, 1, 1, 1, 1, 1, 1, 1, 1, 1, 1, 1, 1, 1, 1, 1, 1]
def gz_ofm : List (Nat × Nat) := [(639, 0), (640, 0), (641, 0), (642, 0), (643, 0), (644, 0), (645, 0), (646, 0), (647, 0), (648, 0), (649, 0), (650, 0), (651, 0), (652, 0), (653, 0), (654, 0), (655, 0), (656, 0), (657, 0), (658, 0), (659, 0), (660, 0), (661, 0), (662, 0), (663, 0), (664, 0), (665, 0), (666, 0), (667, 0), (668, 0), (669, 0), (670, 0), (671, 0), (672, 0), (673, 0), (674, 0), (675, 0), (676, 0), (677, 0), (678, 0), (679, 0), (680, 0), (681, 0), (682, 0)]
def gz_inv : List (Nat × Nat) := [(0, 0), (1, 0), (2, 0), (3, 0), (4, 0), (5, 0), (6, 0), (7, 0), (8, 0), (9, 0), (8, 1), (9, 1), (8, 2), (9, 2), (8, 3), (9, 3), (8, 4), (9, 4), (8, 5), (9, 5), (8, 6), (9, 6), (8, 7), (9, 7), (6, 1), (7, 1), (8, 8), (9, 8), (8, 9), (9, 9), (8, 10), (9, 10), (8, 11), (9, 11), (8, 12), (9, 12), (8, 13), (9, 13), (8, 14), (9, 14), (8, 15), (9, 15), (6, 2), (7, 2), (8, 16), (9, 16), (8, 17), (9, 17), (8, 18), (9, 18), (8, 19), (9, 19), (8, 20), (9, 20), (8, 21), (9, 21), (8, 22), (9, 22), (8, 23), (9, 23), (6, 3), (7, 3), (8, 24), (9, 24), (8, 25), (9, 25), (8, 26), (9, 26), (8, 27), (9, 27), (8, 28), (9, 28), (8, 29), (9, 29), (8, 30), (9, 30), (8, 31), (9, 31), (6, 4), (7, 4), (8, 32), (9, 32), (8, 33), (9, 33), (8, 34), (9, 34), (8, 35), (9, 35), (8, 36), (9, 36), (8, 37), (9, 37), (8, 38), (9, 38), (8, 39), (9, 39), (6, 5), (7, 5), (8, 40), (9, 40), (8, 41), (9, 41), (8, 42), (9, 42), (8, 43), (9, 43), (8, 44), (9, 44), (8, 45), (9, 45), (8, 46), (9, 46), (8, 47), (9, 47), (6, 6), (7, 6), (8, 48), (9, 48), (8, 49), (9, 49), (8, 50), (9, 50), (8, 51), (9, 51), (8, 52), (9, 52), (8, 53), (9, 53), (8, 54), (9, 54), (8, 55), (9, 55), (6, 7), (7, 7), (8, 56), (9, 56), (8, 57), (9, 57), (8, 58), (9, 58), (8, 59), (9, 59), (8, 60), (9, 60), (8, 61), (9, 61), (8, 62), (9, 62), (8, 63), (9, 63), (6, 8), (7, 8), (8, 64), (9, 64), (8, 65), (9, 65), (8, 66), (9, 66), (8, 67), (9, 67), (8, 68), (9, 68), (8, 69), (9, 69), (8, 70), (9, 70), (8, 71), (9, 71), (6, 9), (7, 9), (8, 72), (9, 72), (8, 73), (9, 73), (8, 74), (9, 74), (8, 75), (9, 75), (8, 76), (9, 76), (8, 77), (9, 77), (8, 78), (9, 78), (8, 79), (9, 79), (6, 10), (7, 10), (8, 80), (9, 80), (8, 81), (9, 81), (8, 82), (9, 82), (8, 83), (9, 83), (8, 84), (9, 84), (8, 85), (9, 85), (8, 86), (9, 86), (8, 87), (9, 87), (6, 11), (7, 11), (8, 88), (9, 88), (8, 89), (9, 89), (8, 90), (9, 90), (8, 91), (9, 91), (8, 92), (9, 92), (8, 93), (9, 93), (8, 94), (9, 94), (8, 95), (9, 95), (6, 12), (7, 12), (8, 96), (9, 96), (8, 97), (9, 97), (8, 98), (9, 98), (8, 99), (9, 99), (8, 100), (9, 100), (8, 101), (9, 101), (8, 102), (9, 102), (8, 103), (9, 103), (10, 0), (11, 0), (12, 0), (13, 0), (14, 0), (15, 0), (16, 0), (17, 0), (18, 0), (14, 1), (15, 1), (16, 1), (17, 1), (18, 1), (14, 2), (15, 2), (16, 2), (17, 2), (18, 2), (14, 3), (15, 3), (16, 3), (17, 3), (18, 3), (14, 4), (15, 4), (16, 4), (17, 4), (18, 4), (14, 5), (15, 5), (16, 5), (17, 5), (18, 5), (14, 6), (15, 6), (16, 6), (17, 6), (18, 6), (14, 7), (15, 7), (16, 7), (17, 7), (18, 7), (14, 8), (15, 8), (16, 8), (17, 8), (18, 8), (14, 9), (15, 9), (16, 9), (17, 9), (18, 9), (14, 10), (15, 10), (16, 10), (17, 10), (18, 10), (14, 11), (15, 11), (16, 11), (17, 11), (18, 11), (14, 12), (15, 12), (16, 12), (17, 12), (18, 12), (14, 13), (15, 13), (16, 13), (17, 13), (18, 13), (14, 14), (15, 14), (16, 14), (17, 14), (18, 14), (14, 15), (15, 15), (16, 15), (17, 15), (18, 15), (14, 16), (15, 16), (16, 16), (17, 16), (18, 16), (14, 17), (15, 17), (16, 17), (17, 17), (18, 17), (14, 18), (15, 18), (16, 18), (17, 18), (18, 18), (14, 19), (15, 19), (16, 19), (17, 19), (18, 19), (14, 20), (15, 20), (16, 20), (17, 20), (18, 20), (14, 21), (15, 21), (16, 21), (17, 21), (18, 21), (14, 22), (15, 22), (16, 22), (17, 22), (18, 22), (14, 23), (15, 23), (16, 23), (17, 23), (18, 23), (14, 24), (15, 24), (16, 24), (17, 24), (18, 24), (14, 25), (15, 25), (16, 25), (17, 25), (18, 25), (14, 26), (15, 26), (16, 26), (17, 26), (18, 26), (14, 27), (15, 27), (16, 27), (17, 27), (18, 27), (14, 28), (15, 28), (16, 28), (17, 28), (18, 28), (14, 29), (15, 29), (16, 29), (17, 29), (18, 29), (14, 30), (15, 30), (16, 30), (17, 30), (18, 30), (14, 31), (15, 31), (16, 31), (17, 31), (18, 31), (14, 32), (15, 32), (16, 32), (17, 32), (18, 32), (14, 33), (15, 33), (16, 33), (17, 33), (18, 33), (14, 34), (15, 34), (16, 34), (17, 34), (18, 34), (14, 35), (15, 35), (16, 35), (17, 35), (18, 35), (14, 36), (15, 36), (16, 36), (17, 36), (18, 36), (14, 37), (15, 37), (16, 37), (17, 37), (18, 37), (14, 38), (15, 38), (16, 38), (17, 38), (18, 38), (14, 39), (15, 39), (16, 39), (17, 39), (18, 39), (14, 40), (15, 40), (16, 40), (17, 40), (18, 40), (14, 41), (15, 41), (16, 41), (17, 41), (18, 41), (14, 42), (15, 42), (16, 42), (17, 42), (18, 42), (14, 43), (15, 43), (16, 43), (17, 43), (18, 43), (14, 44), (15, 44), (16, 44), (17, 44), (18, 44), (14, 45), (15, 45), (16, 45), (17, 45), (18, 45), (14, 46), (15, 46), (16, 46), (17, 46), (18, 46), (14, 47), (15, 47), (16, 47), (17, 47), (18, 47), (14, 48), (15, 48), (16, 48), (17, 48), (18, 48), (14, 49), (15, 49), (16, 49), (17, 49), (18, 49), (14, 50), (15, 50), (16, 50), (17, 50), (18, 50), (14, 51), (15, 51), (16, 51), (17, 51), (18, 51), (14, 52), (15, 52), (16, 52), (17, 52), (18, 52), (14, 53), (15, 53), (16, 53), (17, 53), (18, 53), (14, 54), (15, 54), (16, 54), (17, 54), (18, 54), (14, 55), (15, 55), (16, 55), (17, 55), (18, 55), (14, 56), (15, 56), (16, 56), (17, 56), (18, 56), (14, 57), (15, 57), (16, 57), (17, 57), (18, 57), (14, 58), (15, 58), (16, 58), (17, 58), (18, 58), (14, 59), (15, 59), (16, 59), (17, 59), (18, 59), (14, 60), (15, 60), (16, 60), (17, 60), (18, 60), (19, 0), (20, 0), (21, 0), (20, 1), (21, 1), (20, 2), (21, 2), (20, 3), (21, 3), (20, 4), (21, 4), (20, 5), (21, 5), (20, 6), (21, 6), (20, 7), (21, 7), (20, 8), (21, 8), (20, 9), (21, 9), (20, 10), (21, 10), (20, 11), (21, 11), (20, 12), (21, 12), (20, 13), (21, 13), (20, 14), (21, 14), (20, 15), (21, 15), (20, 16), (21, 16), (20, 17), (21, 17), (20, 18), (21, 18), (20, 19), (21, 19), (20, 20), (21, 20), (20, 21), (21, 21), (20, 22), (21, 22), (20, 23), (21, 23), (20, 24), (21, 24), (20, 25), (21, 25), (20, 26), (21, 26), (20, 27), (21, 27), (20, 28), (21, 28), (20, 29), (21, 29), (20, 30), (21, 30), (20, 31), (21, 31), (20, 32), (21, 32), (20, 33), (21, 33), (20, 34), (21, 34), (20, 35), (21, 35), (20, 36), (21, 36), (20, 37), (21, 37), (20, 38), (21, 38), (20, 39), (21, 39), (22, 0), (23, 0), (24, 0), (25, 0), (26, 0), (27, 0), (28, 0), (29, 0), (30, 0)]

/-! THE WORLD: the cells of the house (side false) and of the reference (side true), by tag and number; what each holds is a pure state -/
abbrev gz_G : Type := Nat × (Nat → ClassId) × (Nat → Nat → Nat) × (Nat → ClassId) × (Nat → Nat) × (Nat → Nat)
abbrev gz_S : Type := (Nat → Nat → Nat → Int32) × (Nat → Nat → Nat → Int64) × Nat
def gz_kd (b : Bool) (t : Nat) : (Nat × Nat) ⊕ (Nat × Nat) := (cond b gz_kdm gz_kdx).getD t (.inr (0, 0))
def gz_fk (b : Bool) (t k : Nat) : Nat := ((cond b gz_fkm gz_fkx).getD t []).getD k 2
def gz_ct (b : Bool) (n t : Nat) : Nat := cond b (if t = 44 then n else gz_ctm.getD t 0) (gz_ctx.getD t 0)
def gz_ao (b : Bool) (t i : Nat) : Nat := cond b (if t = 44 then 683 + i else 639 + t) (if t = 8 ∨ t = 9 then t + 18 * (i / 8) + 2 * (i % 8) else (gz_ofx.getD t (0, 0)).1 + (gz_ofx.getD t (0, 0)).2 * i)
def gz_ad (b : Bool) (G : gz_G) (t i : Nat) : Nat := G.1 + gz_ao b t i
def gz_A (b : Bool) (G : gz_G) (q : Nat) : Prop := match b with
  | true => G.1 + 639 ≤ q
  | false => G.1 ≤ q ∧ q < G.1 + 639
theorem gz_inv_x : ∀ t, t < 31 → ∀ i, i < gz_ctx.getD t 0 → gz_inv[gz_ao false t i]? = some (t, i) := by decide +kernel
theorem gz_inv_len : gz_inv.length = 639 := by decide +kernel
theorem gz_ctx_lt {t i : Nat} (h : i < gz_ctx.getD t 0) : t < 31 := by
  rcases Nat.lt_or_ge t 31 with q | q
  · exact q
  · have e : gz_ctx[t]? = none := List.getElem?_eq_none (show gz_ctx.length ≤ t from q)
    simp [List.getD, e] at h
theorem gz_ctm_1 : ∀ t, t < 44 → gz_ctm.getD t 0 = 1 := by decide +kernel
theorem gz_ctm_lt {t i : Nat} (h : i < gz_ctm.getD t 0) : t < 44 ∧ i = 0 := by
  rcases Nat.lt_or_ge t 44 with q | q
  · rw [gz_ctm_1 t q] at h
    exact ⟨q, by omega⟩
  · have e : gz_ctm[t]? = none := List.getElem?_eq_none (show gz_ctm.length ≤ t from q)
    simp [List.getD, e] at h
theorem gz_inj {b : Bool} {n t i t' i' : Nat} (h : i < gz_ct b n t) (h' : i' < gz_ct b n t') (e : gz_ao b t i = gz_ao b t' i') : t = t' ∧ i = i' := by
  cases b with
  | false =>
    have h1 : i < gz_ctx.getD t 0 := h
    have h2 : i' < gz_ctx.getD t' 0 := h'
    have e1 := gz_inv_x t (gz_ctx_lt h1) i h1
    have e2 := gz_inv_x t' (gz_ctx_lt h2) i' h2
    rw [e, e2] at e1
    exact ⟨(Prod.mk.inj (Option.some.inj e1)).1.symm, (Prod.mk.inj (Option.some.inj e1)).2.symm⟩
  | true =>
    simp only [gz_ct, gz_ao, cond_true] at h h' e
    by_cases ht : t = 44
    · by_cases ht' : t' = 44
      · subst ht; subst ht'
        simp at e
        exact ⟨rfl, e⟩
      · rw [if_neg ht'] at h'
        have := gz_ctm_lt h'
        rw [if_pos ht, if_neg ht'] at e
        omega
    · rw [if_neg ht] at h
      have q := gz_ctm_lt h
      by_cases ht' : t' = 44
      · rw [if_neg ht, if_pos ht'] at e
        omega
      · rw [if_neg ht'] at h'
        have q' := gz_ctm_lt h'
        rw [if_neg ht, if_neg ht'] at e
        omega
theorem gz_inA {b : Bool} {G : gz_G} {n t i : Nat} (h : i < gz_ct b n t) : gz_A b G (gz_ad b G t i) := by
  cases b with
  | false =>
    have h1 : i < gz_ctx.getD t 0 := h
    have e1 := gz_inv_x t (gz_ctx_lt h1) i h1
    have q : gz_ao false t i < gz_inv.length := (List.getElem?_eq_some_iff.mp e1).1
    rw [gz_inv_len] at q
    exact ⟨Nat.le_add_right _ _, Nat.add_lt_add_left q _⟩
  | true =>
    show G.1 + 639 ≤ G.1 + gz_ao true t i
    simp only [gz_ao, cond_true]
    split <;> omega
def gz_si (σ : gz_S) (t i k : Nat) (v : Int32) : gz_S := (fun t' i' k' => if t' = t ∧ i' = i ∧ k' = k then v else σ.1 t' i' k', σ.2)
def gz_sj (σ : gz_S) (t i k : Nat) (v : Int64) : gz_S := (σ.1, fun t' i' k' => if t' = t ∧ i' = i ∧ k' = k then v else σ.2.1 t' i' k', σ.2.2)
def gz_fv (b : Bool) (G : gz_G) (σ : gz_S) (t i k : Nat) : Value := match gz_fk b t k with
  | 0 => .int (σ.1 t i k)
  | 1 => .long (σ.2.1 t i k)
  | 2 => .null
  | n + 3 => .ref (gz_ad b G n i)
def gz_ev (b : Bool) (G : gz_G) (σ : gz_S) (t i ek j : Nat) : Value := match ek with
  | 1 => .long (σ.2.1 t i j)
  | 4 => .ref (gz_ad b G 8 (8 * i + j))
  | 5 => .ref (gz_ad b G 6 j)
  | 6 => .ref (gz_ad b G 20 j)
  | 7 => .ref (gz_ad b G 14 j)
  | _ => .int (σ.1 t i j)
def gz_cl (b : Bool) (G : gz_G) (σ : gz_S) (t i : Nat) (H : Heap) (z : (Nat × Nat) ⊕ (Nat × Nat)) : Prop := match z with
  | .inl q => t_OB (gz_ad b G t i) (G.2.1 q.1) q.2 (G.2.2.1 q.1) H (gz_fv b G σ t i)
  | .inr q => H[gz_ad b G t i]? = some (arrV (G.2.2.2.1 q.1) q.2 (gz_ev b G σ t i q.1))
def gz_H (b : Bool) (G : gz_G) (σ : gz_S) (H : Heap) : Prop := (∀ t i, i < gz_ct b σ.2.2 t → gz_cl b G σ t i H (gz_kd b t)) ∧ (b = true → H.size = G.1 + 683 + σ.2.2)
theorem gz_cl.keep {b : Bool} {G : gz_G} {σ σ' : gz_S} {t i : Nat} {H H' : Heap} {z : (Nat × Nat) ⊕ (Nat × Nat)} (h : gz_cl b G σ t i H z) (hq : H'[gz_ad b G t i]? = H[gz_ad b G t i]?) (hs : ∀ k, σ'.1 t i k = σ.1 t i k ∧ σ'.2.1 t i k = σ.2.1 t i k) : gz_cl b G σ' t i H' z := by
  have e1 : gz_fv b G σ' t i = gz_fv b G σ t i := by funext k; unfold gz_fv; rw [(hs k).1, (hs k).2]
  have e2 : ∀ ek, gz_ev b G σ' t i ek = gz_ev b G σ t i ek := by intro ek; funext k; unfold gz_ev; rw [(hs k).1, (hs k).2]
  cases z with
  | inl q =>
    show t_OB _ _ _ _ _ _
    rw [e1]
    exact t_OB.kept h hq
  | inr q =>
    show H'[gz_ad b G t i]? = _
    rw [hq, e2]
    exact h
theorem gz_H.put {b : Bool} {G : gz_G} {σ σ' : gz_S} {H H' : Heap} {t i : Nat} (h : gz_H b G σ H) (hi : i < gz_ct b σ.2.2 t) (hn : σ'.2.2 = σ.2.2) (hσ : ∀ t' i', ¬ (t' = t ∧ i' = i) → ∀ k, σ'.1 t' i' k = σ.1 t' i' k ∧ σ'.2.1 t' i' k = σ.2.1 t' i' k)
    (hc : gz_cl b G σ' t i H' (gz_kd b t)) (hz : H'.size = H.size) (ho : ∀ q, q ≠ gz_ad b G t i → H'[q]? = H[q]?) : gz_H b G σ' H' := by
  refine ⟨fun t' i' hi' => ?_, fun hb => by rw [hz, hn]; exact h.2 hb⟩
  rw [hn] at hi'
  by_cases e : t' = t ∧ i' = i
  · obtain ⟨rfl, rfl⟩ := e
    exact hc
  · have hne : gz_ad b G t' i' ≠ gz_ad b G t i := fun q => e (gz_inj hi' hi (Nat.add_left_cancel q))
    exact (h.1 t' i' hi').keep (ho _ hne) (hσ t' i' e)
theorem gz_si_ne {σ : gz_S} {t i k : Nat} {v : Int32} (t' i' : Nat) (h : ¬ (t' = t ∧ i' = i)) (k' : Nat) : (gz_si σ t i k v).1 t' i' k' = σ.1 t' i' k' ∧ (gz_si σ t i k v).2.1 t' i' k' = σ.2.1 t' i' k' :=
  ⟨if_neg fun q => h ⟨q.1, q.2.1⟩, rfl⟩
theorem gz_sj_ne {σ : gz_S} {t i k : Nat} {v : Int64} (t' i' : Nat) (h : ¬ (t' = t ∧ i' = i)) (k' : Nat) : (gz_sj σ t i k v).1 t' i' k' = σ.1 t' i' k' ∧ (gz_sj σ t i k v).2.1 t' i' k' = σ.2.1 t' i' k' :=
  ⟨rfl, if_neg fun q => h ⟨q.1, q.2.1⟩⟩
/-! what the tables say -/
def gz_aty (k : Nat) : FieldType := match k with
  | 0 => .int
  | 1 => .long
  | 2 => .byte
  | 3 => .boolean
  | 4 => .object "GazetteHouse$Field"
  | 5 => .object "GazetteHouse$Form"
  | 6 => .object "GazetteHouse$Issue"
  | _ => .object "GazetteHouse$Notice"
def gz_okw (w : Cond) : Bool := match w with
  | .fieldLinkNest .. => true
  | .methodLinkNest .. => true
  | .castable .. => true
  | .declares .. => true
  | w => goodWord w
theorem gz_warm {w : Cond} (h : gz_okw w = true) {args a' : Array Value} {s U : State} (hW : s.WarmedH U.vm) (hZ : w.before args s = true) : w.before a' U = true := by
  cases w <;> first
    | exact va_Nw.use rfl (va_Nw.warmF hW (va_Nw.of rfl hZ))
    | exact va_Nw.use rfl (va_Nw.warmM hW (va_Nw.of rfl hZ))
    | exact va_Nw.use rfl (va_Nw.warmC hW (va_Nw.of rfl hZ))
    | exact va_Nw.use rfl (va_Nw.warmD hW (va_Nw.of rfl hZ))
    | exact word_at hW (good_of_word h) hZ
/-! the reference's String constants, and the statics that their methods read -/
def gz_slen : List Nat := [3, 3, 4, 3, 4, 4, 4]
def gz_sbyt : List (List Int32) := [[110, 117, 109], [100, 97, 121], [119, 111, 114, 100], [111, 110, 101], [115, 112, 97, 110], [100, 97, 121, 115], [119, 111, 114, 107]]
def gz_stx : List String := ["num", "day", "word", "one", "span", "days", "work"]
def gz_six : List Nat := [285, 291, 293, 294, 296, 304, 306]
def gz_Z (G : gz_G) (U : State) : Prop := vk_S 7 gz_slen gz_sbyt G.2.2.2.2.1 G.2.2.2.2.2 (fun q => G.1 ≤ q) U U.heap ∧ (∀ i, i < 7 → vk_R "GazetteHouseModel" (gz_six.getD i 0) (gz_stx.getD i "") (G.2.2.2.2.1 i) U) ∧ va_Z "java/lang/String" "COMPACT_STRINGS" "Z" (.int 1) (fun q => G.1 ≤ q) U U.heap ∧ va_Zq "jdk/internal/util/Preconditions" "SIOOBE_FORMATTER" "Ljava/util/function/BiFunction;" (fun q => G.1 ≤ q) U U.heap
theorem gz_Z.moved {G : gz_G} {s U : State} (hW : s.WarmedH U.vm) (hh : ∀ q, q < s.heap.size → ¬ G.1 ≤ q → U.heap[q]? = s.heap[q]?) (h : gz_Z G s) : gz_Z G U :=
  ⟨(h.1.moved hW.alike).kept hh, fun i hi => (h.2.1 i hi).warm hW, (h.2.2.1.moved hW.alike).kept hh, (h.2.2.2.moved hW.alike).kept hh⟩
def gz_K (G : gz_G) (U : State) : Prop := (∀ (c : Nat) (q : vw_C), vwCl[c]? = some q → u_Kn U q.1 q.2.1 q.2.2 (G.2.1 c) (G.2.2.1 c)) ∧ (∀ k, k < 8 → ArrOfT U (G.2.2.2.1 k) (gz_aty k) ∧ va_RA U (G.2.2.2.1 k) (gz_aty k)) ∧ (∀ w ∈ lw_tbl, gz_okw w = true → ∀ a : Array Value, w.before a U = true) ∧ gz_Z G U
theorem gz_K.moved {G : gz_G} {s U : State} (hW : s.WarmedH U.vm) (hh : ∀ q, q < s.heap.size → ¬ G.1 ≤ q → U.heap[q]? = s.heap[q]?) (h : gz_K G s) : gz_K G U :=
  ⟨fun c q hq => u_Kn_moved hW.alike (h.1 c q hq), fun k hk => ⟨arrOfT_moved hW.alike (h.2.1 k hk).1, (h.2.1 k hk).2.moved hW.alike⟩, fun w hw ho a => gz_warm ho hW (h.2.2.1 w hw ho #[]), h.2.2.2.moved hW hh⟩
theorem gz_K.word {G : gz_G} {U : State} (h : gz_K G U) {w : Cond} (hw : w ∈ lw_tbl ∧ gz_okw w = true) (a : Array Value) : w.before a U = true := h.2.2.1 w hw.1 hw.2 a
theorem gz_nA {b : Bool} {G : gz_G} {q : Nat} (h : ¬ G.1 ≤ q) : ¬ gz_A b G q := by
  cases b with
  | false => exact fun z => h z.1
  | true => exact fun z => h (Nat.le_trans (Nat.le_add_right _ _) z)
def gz_tyc (c k : Nat) : FieldType := (([tyX0, tyX1, tyX2, tyX3, tyX4, tyX5, tyX6, tyX7, tyX8, tyX9, tyX10, tyX11] : List (Nat → FieldType)).getD c tyX0) k
theorem gz_t_app {w : Cond} {a b : List Cond} (h : w ∈ a ++ b) : w ∈ a ++ b := h
theorem gz_in {w : Cond} (i : Nat) (h : tables_1[i]? = some w) : w ∈ lw_tbl := List.mem_append_right _ (List.mem_of_getElem? h)
theorem gz_inP {w : Cond} (i : Nat) (h : (k2_sels lw_privs)[i]? = some w) : w ∈ lw_tbl := List.mem_append_left _ (List.mem_of_getElem? h)
