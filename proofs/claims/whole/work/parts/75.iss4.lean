/-! issues: who is taken, in which order -/
def gmf (S : Nat → Bool) (du : Nat → Nat) : Nat → Option Nat
  | 0 => none
  | n + 1 => match gmf S du n with
    | none => if S n = true then some n else none
    | some m => if S n = true ∧ du n < du m then some n else some m
theorem gmf_some {S : Nat → Bool} {du : Nat → Nat} : ∀ n m, gmf S du n = some m → S m = true ∧ m < n ∧ ∀ j, j < n → S j = true → du m < du j ∨ (du m = du j ∧ m ≤ j) := by
  intro n
  induction n with
  | zero => intro m h; cases h
  | succ n ih =>
    intro m h
    have h' : (match gmf S du n with
      | none => if S n = true then some n else none
      | some m => if S n = true ∧ du n < du m then some n else some m) = some m := h
    cases hg : gmf S du n with
    | none =>
      rw [hg] at h'
      simp only at h'
      have hno : ∀ j, j < n → S j = false := by
        have : ∀ k, gmf S du k = none → ∀ j, j < k → S j = false := by
          intro k
          induction k with
          | zero => intro _ j hj; omega
          | succ k ihk =>
            intro hk j hj
            have hk' : (match gmf S du k with
              | none => if S k = true then some k else none
              | some m => if S k = true ∧ du k < du m then some k else some m) = none := hk
            cases hq : gmf S du k with
            | none =>
              rw [hq] at hk'
              simp only at hk'
              by_cases e : j = k
              · subst e
                cases hS : S j with
                | false => rfl
                | true =>
                  rw [if_pos hS] at hk'
                  cases hk'
              · exact ihk hq j (by omega)
            | some m =>
              rw [hq] at hk'
              simp only at hk'
              split at hk' <;> cases hk'
        exact this n hg
      split at h'
      · rename_i hS
        cases h'
        refine ⟨hS, by omega, fun j hj hSj => ?_⟩
        by_cases e : j = n
        · subst e
          exact Or.inr ⟨rfl, Nat.le_refl _⟩
        · rw [hno j (by omega)] at hSj
          cases hSj
      · cases h'
    | some m0 =>
      rw [hg] at h'
      simp only at h'
      obtain ⟨a1, a2, a3⟩ := ih m0 hg
      split at h'
      · rename_i hS
        cases h'
        refine ⟨hS.1, by omega, fun j hj hSj => ?_⟩
        by_cases e : j = n
        · subst e
          exact Or.inr ⟨rfl, Nat.le_refl _⟩
        · have := a3 j (by omega) hSj
          have := hS.2
          omega
      · rename_i hS
        cases h'
        refine ⟨a1, by omega, fun j hj hSj => ?_⟩
        by_cases e : j = n
        · subst e
          have : ¬ du j < du m := fun q => hS ⟨hSj, q⟩
          omega
        · exact a3 j (by omega) hSj
theorem gmf_none {S : Nat → Bool} {du : Nat → Nat} : ∀ k, gmf S du k = none → ∀ j, j < k → S j = false := by
  intro k
  induction k with
  | zero => intro _ j hj; omega
  | succ k ihk =>
    intro hk j hj
    have hk' : (match gmf S du k with
      | none => if S k = true then some k else none
      | some m => if S k = true ∧ du k < du m then some k else some m) = none := hk
    cases hq : gmf S du k with
    | none =>
      rw [hq] at hk'
      simp only at hk'
      by_cases e : j = k
      · subst e
        cases hS : S j with
        | false => rfl
        | true =>
          rw [if_pos hS] at hk'
          cases hk'
      · exact ihk hq j (by omega)
    | some m =>
      rw [hq] at hk'
      simp only at hk'
      split at hk' <;> cases hk'
theorem gmf_cg {S S' : Nat → Bool} {du : Nat → Nat} : ∀ n, (∀ j, j < n → S' j = S j) → gmf S' du n = gmf S du n := by
  intro n
  induction n with
  | zero => intro _; rfl
  | succ n ih =>
    intro h
    show (match gmf S' du n with
      | none => if S' n = true then some n else none
      | some m => if S' n = true ∧ du n < du m then some n else some m) = (match gmf S du n with
      | none => if S n = true then some n else none
      | some m => if S n = true ∧ du n < du m then some n else some m)
    rw [ih (fun j hj => h j (by omega)), h n (by omega)]
/-- what both know of the notices -/
def gNo (N : Nat) (du ls : Nat → Nat) (wt : Nat → Bool) (gx gm : gz_S) : Prop := gx.1 10 0 1 = nI N ∧ gm.1 0 0 29 = nI N ∧ ∀ n, n < N → (gx.1 14 n 3 = gm.1 18 0 n ∧ (wt n = true ↔ gm.1 18 0 n = -1)) ∧ (du n < 10000 ∧ gx.1 14 n 2 = nI (du n) ∧ gm.1 17 0 n = nI (du n)) ∧ (1 ≤ ls n ∧ ls n ≤ 60) ∧ gx.1 14 n 1 = nI (ls n) ∧ gm.1 16 0 n = nI (ls n)
theorem x_nextL {N nx : Nat} {du ls : Nat → Nat} {wt fl : Nat → Bool} {x1 a1 : Int32} {gx gm : gz_S} (hN : N ≤ 60) (hnx : nx ≤ 10000) (h : gNo N du ls wt gx gm) (hfl : ∀ n, n < N → (fl n = true ↔ (x1 < nI (du n) ∨ (nI (du n) = x1 ∧ ¬ nI n ≤ a1)))) : ∀ r n fuel, n + r = N → r < fuel → gz_l2 (f_X1_nextOther_L27 (nI nx) x1 a1) fuel (genc (gmf (fun n => wt n && (!decide (du n < nx) && fl n)) du n)) (nI n) gx = some (genc (gmf (fun n => wt n && (!decide (du n < nx) && fl n)) du N), gx) := by
  intro r
  induction r with
  | zero =>
    intro n fuel hr hf
    obtain ⟨fuel, rfl⟩ : ∃ q, fuel = q + 1 := ⟨fuel - 1, by omega⟩
    have : n = N := by omega
    subst this
    rw [gz_l2_s]
    unfold f_X1_nextOther_L27
    rw [h.1, if_pos (nI_le (Nat.le_refl _) (by omega))]
  | succ r ih =>
    intro n fuel hr hf
    obtain ⟨fuel, rfl⟩ : ∃ q, fuel = q + 1 := ⟨fuel - 1, by omega⟩
    have hn : n < N := by omega
    have ih' := ih (n + 1) fuel (by omega) (by omega)
    rw [gz_l2_s]
    generalize gz_l2 (f_X1_nextOther_L27 (nI nx) x1 a1) fuel = rc at ih' ⊢
    obtain ⟨⟨w1, w2⟩, ⟨d1, d2, -⟩, -⟩ := h.2.2 n hn
    unfold f_X1_nextOther_L27
    rw [h.1, if_neg (nI_ge hn (by omega)), gz_ix_nI (show n < 61 by omega) (by decide), gz_j1_e, gz_j0_e, d2]
    have hst : gmf (fun n => wt n && (!decide (du n < nx) && fl n)) du (n + 1) = (match gmf (fun n => wt n && (!decide (du n < nx) && fl n)) du n with
      | none => if (wt n && (!decide (du n < nx) && fl n)) = true then some n else none
      | some m => if (wt n && (!decide (du n < nx) && fl n)) = true ∧ du n < du m then some n else some m) := rfl
    rw [hst] at ih'
    have hJ126 : ∀ v g, f_X1_nextOther_J126 (nI n) rc v g = rc v (nI (n + 1)) g := fun v g => by
      unfold f_X1_nextOther_J126
      rw [nI_1]
    have hJ74 : f_X1_nextOther_J74 n (nI n) (genc (gmf (fun n => wt n && (!decide (du n < nx) && fl n)) du n)) (nI nx) rc (if fl n = true then 1 else 0) gx = some (genc (gmf (fun n => wt n && (!decide (du n < nx) && fl n)) du N), gx) := by
      unfold f_X1_nextOther_J74
      rw [x_waits, gz_call_e, gz_j1_e, w1, d2]
      simp only [hJ126]
      cases hw : wt n with
      | false =>
        have hne : ¬ gm.1 18 0 n = -1 := fun q => by rw [w2.mpr q] at hw; cases hw
        rw [if_neg hne, if_pos rfl]
        rw [hw] at ih'
        cases hg : gmf (fun n => wt n && (!decide (du n < nx) && fl n)) du n with
        | none => rw [hg] at ih'; exact ih'
        | some m => rw [hg] at ih'; simpa using ih'
      | true =>
        rw [if_pos (w2.mp hw), if_neg (by decide)]
        by_cases hd : du n < nx
        · rw [if_pos (nI_lt hd (by omega))]
          cases hg : gmf (fun n => wt n && (!decide (du n < nx) && fl n)) du n with
          | none => rw [hg] at ih'; simpa [hd] using ih'
          | some m => rw [hg] at ih'; simpa [hd] using ih'
        · rw [if_neg (nI_nlt (by omega) (by omega))]
          cases hf : fl n with
          | false =>
            rw [if_pos (show (if false = true then (1 : Int32) else 0) = 0 from rfl)]
            cases hg : gmf (fun n => wt n && (!decide (du n < nx) && fl n)) du n with
            | none => rw [hg] at ih'; simpa [hf] using ih'
            | some m => rw [hg] at ih'; simpa [hf] using ih'
          | true =>
            rw [if_neg (show ¬ (if true = true then (1 : Int32) else 0) = 0 by decide), gz_j0_e]
            unfold f_X1_nextOther_J122
            rw [hJ126]
            cases hg : gmf (fun n => wt n && (!decide (du n < nx) && fl n)) du n with
            | none =>
              rw [hg] at ih'
              rw [if_pos (show genc none = -1 from rfl)]
              have ih2 : rc (genc (some n)) (nI (n + 1)) gx = some (genc (gmf (fun n => wt n && (!decide (du n < nx) && fl n)) du N), gx) := by simpa [hw, hd, hf] using ih'
              exact ih2
            | some m =>
              obtain ⟨-, hm, -⟩ := gmf_some n m hg
              obtain ⟨-, ⟨e1, e2, -⟩, -⟩ := h.2.2 m (by omega)
              rw [hg] at ih'
              rw [if_neg (show ¬ genc (some m) = -1 from gn_ne1 (by omega)), show genc (some m) = nI m from rfl, gz_ix_nI (show m < 61 by omega) (by decide), e2]
              by_cases hlt : du n < du m
              · rw [if_neg (nI_ge hlt (by omega))]
                have ih2 : rc (genc (some n)) (nI (n + 1)) gx = some (genc (gmf (fun n => wt n && (!decide (du n < nx) && fl n)) du N), gx) := by simpa [hw, hd, hf, hlt] using ih'
                exact ih2
              · rw [if_pos (nI_le (by omega) (by omega))]
                have ih2 : rc (genc (some m)) (nI (n + 1)) gx = some (genc (gmf (fun n => wt n && (!decide (du n < nx) && fl n)) du N), gx) := by simpa [hw, hd, hf, hlt] using ih'
                exact ih2
    unfold f_X1_nextOther_J69 f_X1_nextOther_J73
    have hfn := hfl n hn
    by_cases c1 : x1 < nI (du n)
    · rw [if_pos c1]
      rw [if_pos (hfn.mpr (Or.inl c1))] at hJ74
      exact hJ74
    · rw [if_neg c1, gz_j0_e]
      by_cases c2 : nI (du n) = x1
      · rw [if_pos c2]
        by_cases c3 : nI n ≤ a1
        · rw [if_pos c3]
          rw [if_neg (fun q => by rcases hfn.mp q with z | ⟨-, z⟩; exact c1 z; exact z c3)] at hJ74
          exact hJ74
        · rw [if_neg c3]
          rw [if_pos (hfn.mpr (Or.inr ⟨c2, c3⟩))] at hJ74
          exact hJ74
      · rw [if_neg c2]
        rw [if_neg (fun q => by rcases hfn.mp q with z | ⟨z, -⟩; exact c1 z; exact c2 z)] at hJ74
        exact hJ74
theorem m_bestL {N t : Nat} {du ls : Nat → Nat} {wt : Nat → Bool} {gx gm : gz_S} {J : Int32 → gz_S → Option (Int32 × gz_S)} (hN : N ≤ 60) (h : gNo N du ls wt gx gm) (ht : t < gm.2.2) : ∀ r n fuel, n + r = N → r < fuel → gz_l2 (f_X11_issue_L199 t J) fuel (genc (gmf (fun n => decide (gm.1 44 t n = 0)) du n)) (nI n) gm = J (genc (gmf (fun n => decide (gm.1 44 t n = 0)) du N)) gm := by
  intro r
  induction r with
  | zero =>
    intro n fuel hr hf
    obtain ⟨fuel, rfl⟩ : ∃ q, fuel = q + 1 := ⟨fuel - 1, by omega⟩
    have : n = N := by omega
    subst this
    rw [gz_l2_s]
    unfold f_X11_issue_L199
    rw [h.2.1, if_pos (nI_le (Nat.le_refl _) (by omega))]
  | succ r ih =>
    intro n fuel hr hf
    obtain ⟨fuel, rfl⟩ : ∃ q, fuel = q + 1 := ⟨fuel - 1, by omega⟩
    have hn : n < N := by omega
    have ih' := ih (n + 1) fuel (by omega) (by omega)
    rw [gz_l2_s]
    generalize gz_l2 (f_X11_issue_L199 t J) fuel = rc at ih' ⊢
    obtain ⟨-, ⟨d1, -, d2⟩, -⟩ := h.2.2 n hn
    unfold f_X11_issue_L199 gz_tg
    rw [h.2.1, if_neg (nI_ge hn (by omega)), if_pos ht, gz_ix_nI (show n < 60 by omega) (by decide), gz_j1_e]
    have hst : gmf (fun n => decide (gm.1 44 t n = 0)) du (n + 1) = (match gmf (fun n => decide (gm.1 44 t n = 0)) du n with
      | none => if decide (gm.1 44 t n = 0) = true then some n else none
      | some m => if decide (gm.1 44 t n = 0) = true ∧ du n < du m then some n else some m) := rfl
    rw [hst] at ih'
    have hJ : ∀ v g, f_X11_issue_J243 (nI n) rc v g = rc v (nI (n + 1)) g := fun v g => by
      unfold f_X11_issue_J243
      rw [nI_1]
    simp only [hJ]
    by_cases hz : gm.1 44 t n = 0
    · rw [if_pos hz, gz_j0_e]
      unfold f_X11_issue_J239
      rw [hJ]
      cases hg : gmf (fun n => decide (gm.1 44 t n = 0)) du n with
      | none =>
        rw [hg] at ih'
        rw [if_pos (show genc none = -1 from rfl)]
        have ih2 : rc (genc (some n)) (nI (n + 1)) gm = J (genc (gmf (fun n => decide (gm.1 44 t n = 0)) du N)) gm := by simpa [hz] using ih'
        exact ih2
      | some m =>
        obtain ⟨-, hm, -⟩ := gmf_some n m hg
        obtain ⟨-, ⟨e1, -, e2⟩, -⟩ := h.2.2 m (by omega)
        rw [hg] at ih'
        rw [if_neg (show ¬ genc (some m) = -1 from gn_ne1 (by omega)), show genc (some m) = nI m from rfl, gz_ix_nI (show n < 61 by omega) (by decide), gz_ix_nI (show m < 61 by omega) (by decide), e2, d2]
        by_cases hlt : du n < du m
        · rw [if_neg (nI_ge hlt (by omega))]
          have ih2 : rc (genc (some n)) (nI (n + 1)) gm = J (genc (gmf (fun n => decide (gm.1 44 t n = 0)) du N)) gm := by simpa [hz, hlt] using ih'
          exact ih2
        · rw [if_pos (nI_le (by omega) (by omega))]
          have ih2 : rc (genc (some m)) (nI (n + 1)) gm = J (genc (gmf (fun n => decide (gm.1 44 t n = 0)) du N)) gm := by simpa [hz, hlt] using ih'
          exact ih2
    · rw [if_neg hz]
      cases hg : gmf (fun n => decide (gm.1 44 t n = 0)) du n with
      | none => rw [hg] at ih'; simpa [hz] using ih'
      | some m => rw [hg] at ih'; simpa [hz] using ih'
