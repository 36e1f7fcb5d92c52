/-! laws: which place holds -/
def gC (N : Nat) (hold : Nat → Bool) (la : Nat → Nat) (m26 : Nat → Int32) (key : Int32) (p : Nat) : Bool := decide (p / 4 < N) && hold (p / 4) && decide (p % 4 < la (p / 4)) && decide (m26 p = key)
def gdy (m28 : Nat → Int32) (p : Nat) : Nat := (m28 p).toInt.toNat
def gbs1 (C : Nat → Bool) (dy : Nat → Nat) (E q : Nat) (x : Option Nat) : Option Nat := match x with
  | none => if C q = true ∧ dy q < E then some q else none
  | some p => if C q = true ∧ dy q < E ∧ dy p ≤ dy q then some q else some p
/-- the place that holds before day E, among the first q -/
def gbs (C : Nat → Bool) (dy : Nat → Nat) (E : Nat) : Nat → Option Nat
  | 0 => none
  | q + 1 => gbs1 C dy E q (gbs C dy E q)
/-- the last place of day d, among the first q -/
def gla (C : Nat → Bool) (dy : Nat → Nat) (d : Nat) : Nat → Option Nat
  | 0 => none
  | q + 1 => if C q = true ∧ dy q = d then some q else gla C dy d q
theorem gbs1_no {C : Nat → Bool} {dy : Nat → Nat} {E q : Nat} {x : Option Nat} (h : C q = false) : gbs1 C dy E q x = x := by
  cases x with
  | none => exact if_neg (fun k => by rw [h] at k; cases k.1)
  | some p => exact if_neg (fun k => by rw [h] at k; cases k.1)
theorem gbs_skip {C : Nat → Bool} {dy : Nat → Nat} {E q : Nat} : ∀ n, (∀ p, q ≤ p → p < q + n → C p = false) → gbs C dy E (q + n) = gbs C dy E q := by
  intro n
  induction n with
  | zero => intro _; rfl
  | succ n ih =>
    intro h
    show gbs1 C dy E (q + n) (gbs C dy E (q + n)) = _
    rw [gbs1_no (h (q + n) (by omega) (by omega)), ih (fun p h1 h2 => h p h1 (by omega))]
theorem gla_skip {C : Nat → Bool} {dy : Nat → Nat} {d q : Nat} : ∀ n, (∀ p, q ≤ p → p < q + n → C p = false) → gla C dy d (q + n) = gla C dy d q := by
  intro n
  induction n with
  | zero => intro _; rfl
  | succ n ih =>
    intro h
    show (if C (q + n) = true ∧ dy (q + n) = d then some (q + n) else gla C dy d (q + n)) = _
    rw [if_neg (fun k => by rw [h (q + n) (by omega) (by omega)] at k; cases k.1), ih (fun p h1 h2 => h p h1 (by omega))]
theorem gla_some {C : Nat → Bool} {dy : Nat → Nat} {d : Nat} : ∀ {q p : Nat}, gla C dy d q = some p → C p = true ∧ dy p = d ∧ p < q := by
  intro q
  induction q with
  | zero => intro p h; cases h
  | succ q ih =>
    intro p h
    have h' : (if C q = true ∧ dy q = d then some q else gla C dy d q) = some p := h
    split at h'
    · rename_i k
      cases h'
      exact ⟨k.1, k.2, by omega⟩
    · have := ih h'
      exact ⟨this.1, this.2.1, by omega⟩
theorem gbs_some {C : Nat → Bool} {dy : Nat → Nat} {E : Nat} : ∀ {q p : Nat}, gbs C dy E q = some p → C p = true ∧ dy p < E ∧ p < q := by
  intro q
  induction q with
  | zero => intro p h; cases h
  | succ q ih =>
    intro p h
    have h' : gbs1 C dy E q (gbs C dy E q) = some p := h
    cases hx : gbs C dy E q with
    | none =>
      rw [hx] at h'
      unfold gbs1 at h'
      simp only at h'
      split at h'
      · rename_i k
        cases h'
        exact ⟨k.1, k.2, by omega⟩
      · cases h'
    | some r =>
      rw [hx] at h'
      unfold gbs1 at h'
      simp only at h'
      split at h'
      · rename_i k
        cases h'
        exact ⟨k.1, k.2.1, by omega⟩
      · cases h'
        have := ih hx
        exact ⟨this.1, this.2.1, by omega⟩
theorem gbs_0 {C : Nat → Bool} {dy : Nat → Nat} : ∀ q, gbs C dy 0 q = none := by
  intro q
  cases h : gbs C dy 0 q with
  | none => rfl
  | some p => exact absurd (gbs_some h).2.1 (Nat.not_lt_zero _)
/-- day by day -/
theorem gbs_day {C : Nat → Bool} {dy : Nat → Nat} (E : Nat) : ∀ q, gbs C dy (E + 1) q = (match gla C dy E q with
    | some p => some p
    | none => gbs C dy E q) := by
  intro q
  induction q with
  | zero => rfl
  | succ q ih =>
    show gbs1 C dy (E + 1) q (gbs C dy (E + 1) q) = (match (if C q = true ∧ dy q = E then some q else gla C dy E q) with
      | some p => some p
      | none => gbs1 C dy E q (gbs C dy E q))
    rw [ih]
    by_cases hc : C q = true
    · by_cases hE : dy q = E
      · rw [if_pos ⟨hc, hE⟩]
        simp only
        cases hx : gla C dy E q with
        | none =>
          simp only
          cases hy : gbs C dy E q with
          | none => exact if_pos ⟨hc, by omega⟩
          | some r =>
            have := (gbs_some hy).2.1
            exact if_pos ⟨hc, by omega, by omega⟩
        | some r =>
          have := (gla_some hx).2.1
          exact if_pos ⟨hc, by omega, by omega⟩
      · rw [if_neg (fun k => hE k.2)]
        cases hx : gla C dy E q with
        | none =>
          simp only
          cases hy : gbs C dy E q with
          | none =>
            unfold gbs1
            simp only
            by_cases hlt : dy q < E
            · rw [if_pos ⟨hc, by omega⟩, if_pos ⟨hc, hlt⟩]
            · rw [if_neg (fun k => by have := k.2; omega), if_neg (fun k => hlt k.2)]
          | some r =>
            unfold gbs1
            simp only
            by_cases hlt : dy q < E ∧ dy r ≤ dy q
            · rw [if_pos ⟨hc, by omega, hlt.2⟩, if_pos ⟨hc, hlt.1, hlt.2⟩]
            · rw [if_neg (fun k => hlt ⟨by have := k.2.1; omega, k.2.2⟩), if_neg (fun k => hlt k.2)]
        | some r =>
          have := (gla_some hx).2.1
          simp only
          exact if_neg (fun k => by omega)
    · have hc' : C q = false := by simpa using hc
      rw [gbs1_no hc', gbs1_no hc', if_neg (fun k => hc k.1)]
theorem gbs_back {C : Nat → Bool} {dy : Nat → Nat} {q p : Nat} : ∀ E, gbs C dy E q = some p → gla C dy (dy p) q = some p := by
  intro E
  induction E with
  | zero => intro h; rw [gbs_0] at h; cases h
  | succ E ih =>
    intro h
    rw [gbs_day] at h
    cases hx : gla C dy E q with
    | none => rw [hx] at h; exact ih h
    | some r =>
      rw [hx] at h
      cases h
      rw [(gla_some hx).2.1]
      exact hx
theorem gbs_gap {C : Nat → Bool} {dy : Nat → Nat} {q p : Nat} : ∀ {E : Nat}, gbs C dy E q = some p → ∀ d, dy p < d → d < E → gla C dy d q = none := by
  intro E
  induction E with
  | zero => intro h; rw [gbs_0] at h; cases h
  | succ E ih =>
    intro h d h1 h2
    rw [gbs_day] at h
    cases hx : gla C dy E q with
    | none =>
      rw [hx] at h
      by_cases e : d = E
      · subst e; exact hx
      · exact ih h d h1 (by omega)
    | some r =>
      rw [hx] at h
      cases h
      have := (gla_some hx).2.1
      omega
theorem gbs_none {C : Nat → Bool} {dy : Nat → Nat} {q : Nat} : ∀ {E : Nat}, gbs C dy E q = none → ∀ d, d < E → gla C dy d q = none := by
  intro E
  induction E with
  | zero => intro _ d h; omega
  | succ E ih =>
    intro h d h2
    rw [gbs_day] at h
    cases hx : gla C dy E q with
    | none =>
      rw [hx] at h
      by_cases e : d = E
      · subst e; exact hx
      · exact ih h d (by omega)
    | some r =>
      rw [hx] at h
      cases h
theorem gla_count {C : Nat → Bool} {dy : Nat → Nat} (n : Nat) : ∀ q, gs_cn (fun d => (gla C dy d q).isSome) n 0 ≤ q := by
  intro q
  induction q with
  | zero =>
    have := gs_cn_false (w := fun d => (gla C dy d 0).isSome) n 0 (fun j _ _ => rfl)
    omega
  | succ q ih =>
    by_cases hlt : dy q < n
    · have := (gs_cn_set (w := fun d => (gla C dy d q).isSome) (w' := fun d => (gla C dy d (q + 1)).isSome) (d := dy q) (fun j hj => by
        show (if C q = true ∧ dy q = j then some q else gla C dy j q).isSome = _
        rw [if_neg (fun k => hj k.2.symm)]) n 0).1 (by omega) (by omega)
      have h2 : (if (gla C dy (dy q) (q + 1)).isSome = true then 1 else 0) ≤ 1 := by split <;> omega
      omega
    · have := (gs_cn_set (w := fun d => (gla C dy d q).isSome) (w' := fun d => (gla C dy d (q + 1)).isSome) (d := dy q) (fun j hj => by
        show (if C q = true ∧ dy q = j then some q else gla C dy j q).isSome = _
        rw [if_neg (fun k => hj k.2.symm)]) n 0).2 (by omega)
      omega
/-! numbers for places -/
def genc (x : Option Nat) : Int32 := match x with
  | none => -1
  | some p => nI p
def gencd (dy : Nat → Nat) (x : Option Nat) : Int32 := match x with
  | none => -1
  | some p => nI (dy p)
theorem gE_lt {E d : Nat} (hE : E ≤ 10000) (hd : d < 10000) : (nI E - 1 < nI d) ↔ E ≤ d := by
  have e : (nI E - 1).toInt = (E : Int) - (1 : Nat) := pk_sub_toInt (a := E) (b := 1) (by omega) (by decide)
  rw [Int32.lt_iff_toInt_lt, nI_toInt (by omega), e]
  omega
theorem gm1_lt {d : Nat} (hd : d < 2 ^ 31) : ¬ nI d < -1 := fun q => by
  have := Int32.lt_iff_toInt_lt.mp q
  rw [nI_toInt hd] at this
  have e : (-1 : Int32).toInt = -1 := by decide
  omega
theorem x_lawPlace {N E : Nat} (hN : N ≤ 60) (hE : E ≤ 10000) {key kn : Int32} {σ : gz_S} {w : Nat → Bool} {la : Nat → Nat} {m26 m28 : Nat → Int32} (h1 : σ.1 10 0 1 = nI N) (hk : ∀ n, n < N → f_X6_isKnown n kn σ = some (if w n = true then 1 else 0, σ)) (hla : ∀ n, n < N → la n ≤ 4 ∧ σ.1 14 n 6 = nI (la n)) (hL : ∀ n, n < N → ∀ j, j < la n → σ.1 16 n j = m26 (4 * n + j) ∧ ∃ d, d < 10000 ∧ σ.1 18 n j = nI d ∧ m28 (4 * n + j) = nI d) : f_X1_lawPlace key (nI E - 1) kn σ = some (genc (gbs (gC N (fun n => w n && decide (σ.1 14 n 14 = 0)) la m26 key) (gdy m28) E (4 * N)), σ) := by
  generalize hCC : gC N (fun n => w n && decide (σ.1 14 n 14 = 0)) la m26 key = C
  have hoff : ∀ n j, j < 4 → (4 * n + j) / 4 = n ∧ (4 * n + j) % 4 = j := fun n j hj => by omega
  have hCno : ∀ n, n < N → (w n && decide (σ.1 14 n 14 = 0)) = false → ∀ p, 4 * n ≤ p → p < 4 * n + 4 → C p = false := by
    intro n hn hz p p1 p2
    rw [← hCC]
    unfold gC
    have e : p / 4 = n := by omega
    rw [e]
    simp only [hz]
    simp
  have hCla : ∀ n, n < N → ∀ p, 4 * n + la n ≤ p → p < 4 * n + 4 → C p = false := by
    intro n hn p p1 p2
    rw [← hCC]
    unfold gC
    have e : p / 4 = n := by omega
    have e2 : ¬ p % 4 < la (p / 4) := by rw [e]; omega
    simp [e2]
  have inner : ∀ (rec9 : Int32 → Int32 → Int32 → gz_S → Option (Int32 × gz_S)) (n : Nat), n < N → (w n && decide (σ.1 14 n 14 = 0)) = true → ∀ c j fuel, la n = j + c → c < fuel → gz_l3 (f_X1_lawPlace_L54 1 n key (nI E - 1) (nI n) (f_X1_lawPlace_J131 (nI n) rec9)) fuel (genc (gbs C (gdy m28) E (4 * n + j))) (gencd (gdy m28) (gbs C (gdy m28) E (4 * n + j))) (nI j) σ = rec9 (genc (gbs C (gdy m28) E (4 * n + la n))) (gencd (gdy m28) (gbs C (gdy m28) E (4 * n + la n))) (nI (n + 1)) σ := by
    intro rec9 n hn hz c
    induction c with
    | zero =>
      intro j fuel hc hf
      obtain ⟨fuel, rfl⟩ : ∃ q, fuel = q + 1 := ⟨fuel - 1, by omega⟩
      show f_X1_lawPlace_L54 1 n key (nI E - 1) (nI n) (f_X1_lawPlace_J131 (nI n) rec9) _ _ _ (nI j) σ = _
      have hl4 := (hla n hn).1
      unfold f_X1_lawPlace_L54 f_X1_lawPlace_J131
      rw [if_neg (by decide), (hla n hn).2, if_pos (nI_le (by omega) (by omega)), nI_1, show la n = j by omega]
    | succ c ih =>
      intro j fuel hc hf
      obtain ⟨fuel, rfl⟩ : ∃ q, fuel = q + 1 := ⟨fuel - 1, by omega⟩
      have hl4 := (hla n hn).1
      show f_X1_lawPlace_L54 1 n key (nI E - 1) (nI n) (f_X1_lawPlace_J131 (nI n) rec9) (gz_l3 (f_X1_lawPlace_L54 1 n key (nI E - 1) (nI n) (f_X1_lawPlace_J131 (nI n) rec9)) fuel) _ _ (nI j) σ = _
      have ih' := ih (j + 1) fuel (by omega) (by omega)
      generalize gz_l3 (f_X1_lawPlace_L54 1 n key (nI E - 1) (nI n) (f_X1_lawPlace_J131 (nI n) rec9)) fuel = rc at ih' ⊢
      obtain ⟨k1, d, hd, k2, k3⟩ := hL n hn j (by omega)
      have hdy : gdy m28 (4 * n + j) = d := by
        unfold gdy
        rw [k3, gz_nI_tn (by omega)]
      have hst : gbs C (gdy m28) E (4 * n + (j + 1)) = gbs1 C (gdy m28) E (4 * n + j) (gbs C (gdy m28) E (4 * n + j)) := rfl
      have hCp : C (4 * n + j) = decide (m26 (4 * n + j) = key) := by
        rw [← hCC]
        unfold gC
        rw [(hoff n j (by omega)).1, (hoff n j (by omega)).2]
        simp only [hz]
        simp [hn, show j < la n by omega]
      unfold f_X1_lawPlace_L54
      rw [if_neg (by decide), (hla n hn).2, if_neg (nI_ge (by omega) (by omega)), gz_ix_nI (show j < 4 by omega) (by decide), gz_j2_e, k1]
      unfold f_X1_lawPlace_J125
      rw [nI_1]
      simp only [gz_ix_nI (show j < 4 by omega) (show 4 < 2 ^ 31 by decide), k2, gz_v_e, show nI n * (4 : Int32) + nI j = nI (n * 4 + j) from by rw [show nI n * (4 : Int32) = nI (n * 4) from pk_mul n 4, nI_add]]
      rw [hst] at ih'
      by_cases hkey : m26 (4 * n + j) = key
      · rw [if_pos hkey]
        rw [hkey] at hCp
        by_cases hdE : E ≤ d
        · rw [if_pos ((gE_lt hE hd).mpr hdE)]
          have : gbs1 C (gdy m28) E (4 * n + j) (gbs C (gdy m28) E (4 * n + j)) = gbs C (gdy m28) E (4 * n + j) := by
            cases gbs C (gdy m28) E (4 * n + j) with
            | none => exact if_neg (fun k => by have := k.2; omega)
            | some r => exact if_neg (fun k => by have := k.2.1; omega)
          rw [this] at ih'
          exact ih'
        · rw [if_neg (fun q => hdE ((gE_lt hE hd).mp q))]
          cases hx : gbs C (gdy m28) E (4 * n + j) with
          | none =>
            rw [if_neg (show ¬ nI d < gencd (gdy m28) none from gm1_lt (by omega))]
            rw [hx] at ih'
            have : gbs1 C (gdy m28) E (4 * n + j) none = some (4 * n + j) := if_pos ⟨by rw [hCp]; simp, by omega⟩
            rw [this] at ih'
            have e : gencd (gdy m28) (some (4 * n + j)) = nI d := by
              show nI (gdy m28 (4 * n + j)) = _
              rw [hdy]
            rw [e] at ih'
            rw [show n * 4 + j = 4 * n + j by omega]
            exact ih'
          | some r =>
            have hr := gbs_some hx
            have hrE := hr.2.1
            by_cases hlt : d < gdy m28 r
            · rw [if_pos (show nI d < gencd (gdy m28) (some r) from nI_lt hlt (by omega))]
              rw [hx] at ih'
              have : gbs1 C (gdy m28) E (4 * n + j) (some r) = some r := if_neg (fun k => by have := k.2.2; omega)
              rw [this] at ih'
              exact ih'
            · rw [if_neg (show ¬ nI d < gencd (gdy m28) (some r) from nI_nlt (by omega) (by omega))]
              rw [hx] at ih'
              have : gbs1 C (gdy m28) E (4 * n + j) (some r) = some (4 * n + j) := if_pos ⟨by rw [hCp]; simp, by omega, by omega⟩
              rw [this] at ih'
              have e : gencd (gdy m28) (some (4 * n + j)) = nI d := by
                show nI (gdy m28 (4 * n + j)) = _
                rw [hdy]
              rw [e] at ih'
              rw [show n * 4 + j = 4 * n + j by omega]
              exact ih'
      · rw [if_neg hkey]
        have : C (4 * n + j) = false := by rw [hCp]; simp [hkey]
        rw [gbs1_no this] at ih'
        exact ih'
  have outer : ∀ c n fuel, N = n + c → c < fuel → gz_l3 (f_X1_lawPlace_L9 kn key (nI E - 1)) fuel (genc (gbs C (gdy m28) E (4 * n))) (gencd (gdy m28) (gbs C (gdy m28) E (4 * n))) (nI n) σ = some (genc (gbs C (gdy m28) E (4 * N)), σ) := by
    intro c
    induction c with
    | zero =>
      intro n fuel hc hf
      obtain ⟨fuel, rfl⟩ : ∃ q, fuel = q + 1 := ⟨fuel - 1, by omega⟩
      show f_X1_lawPlace_L9 kn key (nI E - 1) _ _ _ (nI n) σ = _
      unfold f_X1_lawPlace_L9
      rw [h1, if_pos (nI_le (by omega) (by omega)), show N = n by omega]
    | succ c ih =>
      intro n fuel hc hf
      obtain ⟨fuel, rfl⟩ : ∃ q, fuel = q + 1 := ⟨fuel - 1, by omega⟩
      have hn : n < N := by omega
      show f_X1_lawPlace_L9 kn key (nI E - 1) (gz_l3 (f_X1_lawPlace_L9 kn key (nI E - 1)) fuel) _ _ (nI n) σ = _
      have ih' := ih (n + 1) fuel (by omega) (by omega)
      generalize gz_l3 (f_X1_lawPlace_L9 kn key (nI E - 1)) fuel = rc at ih' ⊢
      unfold f_X1_lawPlace_L9
      rw [h1, if_neg (nI_ge hn (by omega)), gz_ix_nI (show n < 61 by omega) (by decide), hk n hn, gz_call_e, gz_j1_e, gz_j0_e]
      unfold f_X1_lawPlace_J48 f_X1_lawPlace_J49
      simp only [gz_j2_e]
      have hno : (w n && decide (σ.1 14 n 14 = 0)) = false → gz_l3 (f_X1_lawPlace_L54 0 n key (nI E - 1) (nI n) (f_X1_lawPlace_J131 (nI n) rc)) gz_fu (genc (gbs C (gdy m28) E (4 * n))) (gencd (gdy m28) (gbs C (gdy m28) E (4 * n))) 0 σ = some (genc (gbs C (gdy m28) E (4 * N)), σ) := by
        intro hz
        have e : gz_l3 (f_X1_lawPlace_L54 0 n key (nI E - 1) (nI n) (f_X1_lawPlace_J131 (nI n) rc)) (19999 + 1) (genc (gbs C (gdy m28) E (4 * n))) (gencd (gdy m28) (gbs C (gdy m28) E (4 * n))) 0 σ = some (genc (gbs C (gdy m28) E (4 * N)), σ) := by
          show f_X1_lawPlace_L54 0 n key (nI E - 1) (nI n) (f_X1_lawPlace_J131 (nI n) rc) _ _ _ 0 σ = _
          unfold f_X1_lawPlace_L54 f_X1_lawPlace_J131
          rw [if_pos rfl, nI_1]
          have := gbs_skip (C := C) (dy := gdy m28) (E := E) (q := 4 * n) 4 (hCno n hn hz)
          rw [show 4 * n + 4 = 4 * (n + 1) by omega] at this
          rw [this] at ih'
          exact ih'
        exact e
      by_cases hw : w n = true
      · rw [if_pos hw, if_neg (by decide)]
        by_cases h0 : σ.1 14 n 14 = 0
        · rw [if_pos h0]
          have := inner rc n hn (by simp [hw, h0]) (la n) 0 gz_fu (by omega) (by have := (hla n hn).1; show la n < 20000; omega)
          rw [Nat.add_zero] at this
          rw [show (0 : Int32) = nI 0 from rfl, this]
          have h4 := gbs_skip (C := C) (dy := gdy m28) (E := E) (q := 4 * n + la n) (4 - la n) (fun p p1 p2 => hCla n hn p p1 (by have := (hla n hn).1; omega))
          rw [show 4 * n + la n + (4 - la n) = 4 * (n + 1) by have := (hla n hn).1; omega] at h4
          rw [h4] at ih'
          exact ih'
        · rw [if_neg h0]
          exact hno (by simp [h0])
      · rw [if_neg hw, if_pos rfl]
        exact hno (by simp [hw])
  unfold f_X1_lawPlace
  exact outer N 0 gz_fu (by omega) (by show N < 20000; omega)
