/-! PURE PART: a computation that answers, with what is said of its answer -/
def gp {α : Type} (x : Option α) (Q : α → Prop) : Prop := ∃ o, x = some o ∧ Q o
theorem gp_some {α : Type} {o : α} {Q : α → Prop} : gp (some o) Q ↔ Q o := ⟨fun ⟨o', h, q⟩ => by cases h; exact q, fun h => ⟨o, rfl, h⟩⟩
theorem gp_none {α : Type} {Q : α → Prop} : gp (none : Option α) Q ↔ False := ⟨fun h => (by obtain ⟨o, e, q⟩ := h; cases e), fun h => h.elim⟩
theorem gp_ite {α : Type} {c : Prop} [Decidable c] {x y : Option α} {Q : α → Prop} (h1 : c → gp x Q) (h2 : ¬ c → gp y Q) : gp (if c then x else y) Q := by
  by_cases h : c
  · rw [if_pos h]; exact h1 h
  · rw [if_neg h]; exact h2 h
theorem gp_pos {α : Type} {c : Prop} [Decidable c] {x y : Option α} {Q : α → Prop} (h : c) (h1 : gp x Q) : gp (if c then x else y) Q := by rw [if_pos h]; exact h1
theorem gp_neg {α : Type} {c : Prop} [Decidable c] {x y : Option α} {Q : α → Prop} (h : ¬ c) (h1 : gp y Q) : gp (if c then x else y) Q := by rw [if_neg h]; exact h1
theorem gp_mono {α : Type} {x : Option α} {Q Q' : α → Prop} (h : gp x Q) (hq : ∀ o, Q o → Q' o) : gp x Q' := by
  obtain ⟨o, e, q⟩ := h
  exact ⟨o, e, hq o q⟩
theorem gp_of {α : Type} {x : Option α} {o : α} {Q : α → Prop} (e : x = some o) (h : Q o) : gp x Q := ⟨o, e, h⟩
theorem gp_call {α β γ : Type} {x : Option (α × β)} {f : α → β → Option γ} {Q : γ → Prop} (h : gp x (fun o => gp (f o.1 o.2) Q)) : gp (gz_call x f) Q := by
  obtain ⟨o, e, q⟩ := h
  subst e
  exact q
theorem gp_then {β γ : Type} {x : Option β} {f : β → Option γ} {Q : γ → Prop} (h : gp x (fun o => gp (f o) Q)) : gp (gz_then x f) Q := by
  obtain ⟨o, e, q⟩ := h
  subst e
  exact q
theorem gp_ix {α : Type} {k n : Nat} {f : Nat → Option α} {Q : α → Prop} (hk : k < n) (hn : n < 2 ^ 31) (h : gp (f k) Q) : gp (gz_ix (nI k) n f) Q := by
  unfold gz_ix
  rw [nI_toInt (Nat.lt_trans hk hn), if_pos ⟨Int.natCast_nonneg k, by exact_mod_cast hk⟩]
  exact h
theorem gz_ix_nI {α : Type} {k n : Nat} {f : Nat → Option α} (hk : k < n) (hn : n < 2 ^ 31) : gz_ix (nI k) n f = f k := by
  unfold gz_ix
  rw [nI_toInt (Nat.lt_trans hk hn), if_pos ⟨Int.natCast_nonneg k, by exact_mod_cast hk⟩]
  rfl
/-! reading what was written -/
theorem gz_si_1 (σ : gz_S) (t i k : Nat) (v : Int32) (t' i' k' : Nat) : (gz_si σ t i k v).1 t' i' k' = if t' = t ∧ i' = i ∧ k' = k then v else σ.1 t' i' k' := rfl
theorem gz_si_2 (σ : gz_S) (t i k : Nat) (v : Int32) : (gz_si σ t i k v).2 = σ.2 := rfl
theorem gz_sj_1 (σ : gz_S) (t i k : Nat) (v : Int64) : (gz_sj σ t i k v).1 = σ.1 := rfl
theorem gz_sj_21 (σ : gz_S) (t i k : Nat) (v : Int64) (t' i' k' : Nat) : (gz_sj σ t i k v).2.1 t' i' k' = if t' = t ∧ i' = i ∧ k' = k then v else σ.2.1 t' i' k' := rfl
theorem gz_sj_22 (σ : gz_S) (t i k : Nat) (v : Int64) : (gz_sj σ t i k v).2.2 = σ.2.2 := rfl
theorem gz_w_e {α : Type} (σ : gz_S) (f : gz_S → Option α) : gz_w σ f = f σ := Eq.trans rfl rfl
theorem gz_v_e {α β : Type} (v : β) (f : β → Option α) : gz_v v f = f v := Eq.trans rfl rfl
theorem gz_call_e {α β γ : Type} (a : α) (b : β) (f : α → β → Option γ) : gz_call (some (a, b)) f = f a b := Eq.trans rfl rfl
theorem gz_then_e {β γ : Type} (b : β) (f : β → Option γ) : gz_then (some b) f = f b := Eq.trans rfl rfl
theorem gz_j0_e {α : Type} (k : gz_S → Option α) (f : (gz_S → Option α) → Option α) : gz_j0 k f = f k := Eq.trans rfl rfl
theorem gz_j1_e {α : Type} {A1 : Type} (k : A1 → gz_S → Option α) (f : (A1 → gz_S → Option α) → Option α) : gz_j1 k f = f k := Eq.trans rfl rfl
theorem gz_j2_e {α : Type} {A1 : Type} {A2 : Type} (k : A1 → A2 → gz_S → Option α) (f : (A1 → A2 → gz_S → Option α) → Option α) : gz_j2 k f = f k := Eq.trans rfl rfl
theorem gz_j3_e {α : Type} {A1 : Type} {A2 : Type} {A3 : Type} (k : A1 → A2 → A3 → gz_S → Option α) (f : (A1 → A2 → A3 → gz_S → Option α) → Option α) : gz_j3 k f = f k := Eq.trans rfl rfl
theorem gz_j4_e {α : Type} {A1 : Type} {A2 : Type} {A3 : Type} {A4 : Type} (k : A1 → A2 → A3 → A4 → gz_S → Option α) (f : (A1 → A2 → A3 → A4 → gz_S → Option α) → Option α) : gz_j4 k f = f k := Eq.trans rfl rfl
theorem gz_j5_e {α : Type} {A1 : Type} {A2 : Type} {A3 : Type} {A4 : Type} {A5 : Type} (k : A1 → A2 → A3 → A4 → A5 → gz_S → Option α) (f : (A1 → A2 → A3 → A4 → A5 → gz_S → Option α) → Option α) : gz_j5 k f = f k := Eq.trans rfl rfl
theorem gz_j6_e {α : Type} {A1 : Type} {A2 : Type} {A3 : Type} {A4 : Type} {A5 : Type} {A6 : Type} (k : A1 → A2 → A3 → A4 → A5 → A6 → gz_S → Option α) (f : (A1 → A2 → A3 → A4 → A5 → A6 → gz_S → Option α) → Option α) : gz_j6 k f = f k := Eq.trans rfl rfl
theorem gz_j7_e {α : Type} {A1 : Type} {A2 : Type} {A3 : Type} {A4 : Type} {A5 : Type} {A6 : Type} {A7 : Type} (k : A1 → A2 → A3 → A4 → A5 → A6 → A7 → gz_S → Option α) (f : (A1 → A2 → A3 → A4 → A5 → A6 → A7 → gz_S → Option α) → Option α) : gz_j7 k f = f k := Eq.trans rfl rfl
theorem gz_j8_e {α : Type} {A1 : Type} {A2 : Type} {A3 : Type} {A4 : Type} {A5 : Type} {A6 : Type} {A7 : Type} {A8 : Type} (k : A1 → A2 → A3 → A4 → A5 → A6 → A7 → A8 → gz_S → Option α) (f : (A1 → A2 → A3 → A4 → A5 → A6 → A7 → A8 → gz_S → Option α) → Option α) : gz_j8 k f = f k := Eq.trans rfl rfl
theorem gz_j9_e {α : Type} {A1 : Type} {A2 : Type} {A3 : Type} {A4 : Type} {A5 : Type} {A6 : Type} {A7 : Type} {A8 : Type} {A9 : Type} (k : A1 → A2 → A3 → A4 → A5 → A6 → A7 → A8 → A9 → gz_S → Option α) (f : (A1 → A2 → A3 → A4 → A5 → A6 → A7 → A8 → A9 → gz_S → Option α) → Option α) : gz_j9 k f = f k := Eq.trans rfl rfl
/-! numbers -/
theorem gn_lt (b : Nat) {a : Nat} (ha : a < 2 ^ 31 := by omega) (hb : b < 2 ^ 31 := by decide) : (nI a < (OfNat.ofNat b : Int32)) ↔ a < b := nI_ltI ha hb
theorem gn_le (b : Nat) {a : Nat} (ha : a < 2 ^ 31 := by omega) (hb : b < 2 ^ 31 := by decide) : (nI a ≤ (OfNat.ofNat b : Int32)) ↔ a ≤ b := nI_leI ha hb
theorem gn_gt (b : Nat) {a : Nat} (ha : a < 2 ^ 31 := by omega) (hb : b < 2 ^ 31 := by decide) : ((OfNat.ofNat b : Int32) < nI a) ↔ b < a := nI_ltI hb ha
theorem gn_ge (b : Nat) {a : Nat} (ha : a < 2 ^ 31 := by omega) (hb : b < 2 ^ 31 := by decide) : ((OfNat.ofNat b : Int32) ≤ nI a) ↔ b ≤ a := nI_leI hb ha
theorem gn_eq (b : Nat) {a : Nat} (ha : a < 2 ^ 31 := by omega) (hb : b < 2 ^ 31 := by decide) : (nI a = (OfNat.ofNat b : Int32)) ↔ a = b := nI_eq ha hb
theorem gn_ne1 {a : Nat} (ha : a < 2 ^ 31) : ¬ nI a = -1 := fun h => by
  have := congrArg Int32.toInt h
  rw [nI_toInt ha] at this
  have e : (-1 : Int32).toInt = -1 := by decide
  omega
theorem gn_add (a b : Nat) : nI a + (OfNat.ofNat b : Int32) = nI (a + b) := nI_add a b
theorem gn_mul (a b : Nat) : nI a * (OfNat.ofNat b : Int32) = nI (a * b) := pk_mul a b
theorem gn_mul' (a b : Nat) : (OfNat.ofNat b : Int32) * nI a = nI (b * a) := pk_mul b a
theorem gn_rem (d : Nat) {a : Nat} (ha : a < 2 ^ 31 := by omega) (h0 : 0 < d := by decide) (hd : d < 2 ^ 31 := by decide) : gz_rem (nI a) (OfNat.ofNat d) = nI (a % d) := pk_rem ha h0 hd
theorem gn_div (d : Nat) {a : Nat} (ha : a < 2 ^ 31 := by omega) (h0 : 0 < d := by decide) (hd : d < 2 ^ 31 := by decide) : nI a / (OfNat.ofNat d) = nI (a / d) := pk_div ha h0 hd

theorem gp_l0 {α : Type} {F : (gz_S → Option α) → gz_S → Option α} {Q : α → Prop} (J : gz_S → Nat → Prop) (h : ∀ (rec : gz_S → Option α) (m : Nat) (σ : gz_S), J  σ m → (∀ (σ' : gz_S) (m' : Nat), m' < m → J  σ' m' → gp (rec  σ') Q) → gp (F rec  σ) Q) : ∀ (n m : Nat) (σ : gz_S), m < n → J  σ m → gp (gz_l0 F n  σ) Q := by
  intro n
  induction n with
  | zero => intro m  σ hm; omega
  | succ n ih => intro m  σ hm hJ; exact h _ m  σ hJ (fun  σ' m' hm' hJ' => ih m'  σ' (by omega) hJ')
theorem gp_l1 {α : Type} {A1 : Type} {F : (A1 → gz_S → Option α) → A1 → gz_S → Option α} {Q : α → Prop} (J : A1 → gz_S → Nat → Prop) (h : ∀ (rec : A1 → gz_S → Option α) (m : Nat) (v1 : A1) (σ : gz_S), J v1 σ m → (∀ (v1 : A1) (σ' : gz_S) (m' : Nat), m' < m → J v1 σ' m' → gp (rec v1 σ') Q) → gp (F rec v1 σ) Q) : ∀ (n m : Nat) (v1 : A1) (σ : gz_S), m < n → J v1 σ m → gp (gz_l1 F n v1 σ) Q := by
  intro n
  induction n with
  | zero => intro m v1 σ hm; omega
  | succ n ih => intro m v1 σ hm hJ; exact h _ m v1 σ hJ (fun v1 σ' m' hm' hJ' => ih m' v1 σ' (by omega) hJ')
theorem gp_l2 {α : Type} {A1 : Type} {A2 : Type} {F : (A1 → A2 → gz_S → Option α) → A1 → A2 → gz_S → Option α} {Q : α → Prop} (J : A1 → A2 → gz_S → Nat → Prop) (h : ∀ (rec : A1 → A2 → gz_S → Option α) (m : Nat) (v1 : A1) (v2 : A2) (σ : gz_S), J v1 v2 σ m → (∀ (v1 : A1) (v2 : A2) (σ' : gz_S) (m' : Nat), m' < m → J v1 v2 σ' m' → gp (rec v1 v2 σ') Q) → gp (F rec v1 v2 σ) Q) : ∀ (n m : Nat) (v1 : A1) (v2 : A2) (σ : gz_S), m < n → J v1 v2 σ m → gp (gz_l2 F n v1 v2 σ) Q := by
  intro n
  induction n with
  | zero => intro m v1 v2 σ hm; omega
  | succ n ih => intro m v1 v2 σ hm hJ; exact h _ m v1 v2 σ hJ (fun v1 v2 σ' m' hm' hJ' => ih m' v1 v2 σ' (by omega) hJ')
theorem gp_l3 {α : Type} {A1 : Type} {A2 : Type} {A3 : Type} {F : (A1 → A2 → A3 → gz_S → Option α) → A1 → A2 → A3 → gz_S → Option α} {Q : α → Prop} (J : A1 → A2 → A3 → gz_S → Nat → Prop) (h : ∀ (rec : A1 → A2 → A3 → gz_S → Option α) (m : Nat) (v1 : A1) (v2 : A2) (v3 : A3) (σ : gz_S), J v1 v2 v3 σ m → (∀ (v1 : A1) (v2 : A2) (v3 : A3) (σ' : gz_S) (m' : Nat), m' < m → J v1 v2 v3 σ' m' → gp (rec v1 v2 v3 σ') Q) → gp (F rec v1 v2 v3 σ) Q) : ∀ (n m : Nat) (v1 : A1) (v2 : A2) (v3 : A3) (σ : gz_S), m < n → J v1 v2 v3 σ m → gp (gz_l3 F n v1 v2 v3 σ) Q := by
  intro n
  induction n with
  | zero => intro m v1 v2 v3 σ hm; omega
  | succ n ih => intro m v1 v2 v3 σ hm hJ; exact h _ m v1 v2 v3 σ hJ (fun v1 v2 v3 σ' m' hm' hJ' => ih m' v1 v2 v3 σ' (by omega) hJ')
theorem gp_l4 {α : Type} {A1 : Type} {A2 : Type} {A3 : Type} {A4 : Type} {F : (A1 → A2 → A3 → A4 → gz_S → Option α) → A1 → A2 → A3 → A4 → gz_S → Option α} {Q : α → Prop} (J : A1 → A2 → A3 → A4 → gz_S → Nat → Prop) (h : ∀ (rec : A1 → A2 → A3 → A4 → gz_S → Option α) (m : Nat) (v1 : A1) (v2 : A2) (v3 : A3) (v4 : A4) (σ : gz_S), J v1 v2 v3 v4 σ m → (∀ (v1 : A1) (v2 : A2) (v3 : A3) (v4 : A4) (σ' : gz_S) (m' : Nat), m' < m → J v1 v2 v3 v4 σ' m' → gp (rec v1 v2 v3 v4 σ') Q) → gp (F rec v1 v2 v3 v4 σ) Q) : ∀ (n m : Nat) (v1 : A1) (v2 : A2) (v3 : A3) (v4 : A4) (σ : gz_S), m < n → J v1 v2 v3 v4 σ m → gp (gz_l4 F n v1 v2 v3 v4 σ) Q := by
  intro n
  induction n with
  | zero => intro m v1 v2 v3 v4 σ hm; omega
  | succ n ih => intro m v1 v2 v3 v4 σ hm hJ; exact h _ m v1 v2 v3 v4 σ hJ (fun v1 v2 v3 v4 σ' m' hm' hJ' => ih m' v1 v2 v3 v4 σ' (by omega) hJ')
theorem gp_l5 {α : Type} {A1 : Type} {A2 : Type} {A3 : Type} {A4 : Type} {A5 : Type} {F : (A1 → A2 → A3 → A4 → A5 → gz_S → Option α) → A1 → A2 → A3 → A4 → A5 → gz_S → Option α} {Q : α → Prop} (J : A1 → A2 → A3 → A4 → A5 → gz_S → Nat → Prop) (h : ∀ (rec : A1 → A2 → A3 → A4 → A5 → gz_S → Option α) (m : Nat) (v1 : A1) (v2 : A2) (v3 : A3) (v4 : A4) (v5 : A5) (σ : gz_S), J v1 v2 v3 v4 v5 σ m → (∀ (v1 : A1) (v2 : A2) (v3 : A3) (v4 : A4) (v5 : A5) (σ' : gz_S) (m' : Nat), m' < m → J v1 v2 v3 v4 v5 σ' m' → gp (rec v1 v2 v3 v4 v5 σ') Q) → gp (F rec v1 v2 v3 v4 v5 σ) Q) : ∀ (n m : Nat) (v1 : A1) (v2 : A2) (v3 : A3) (v4 : A4) (v5 : A5) (σ : gz_S), m < n → J v1 v2 v3 v4 v5 σ m → gp (gz_l5 F n v1 v2 v3 v4 v5 σ) Q := by
  intro n
  induction n with
  | zero => intro m v1 v2 v3 v4 v5 σ hm; omega
  | succ n ih => intro m v1 v2 v3 v4 v5 σ hm hJ; exact h _ m v1 v2 v3 v4 v5 σ hJ (fun v1 v2 v3 v4 v5 σ' m' hm' hJ' => ih m' v1 v2 v3 v4 v5 σ' (by omega) hJ')
theorem gp_l6 {α : Type} {A1 : Type} {A2 : Type} {A3 : Type} {A4 : Type} {A5 : Type} {A6 : Type} {F : (A1 → A2 → A3 → A4 → A5 → A6 → gz_S → Option α) → A1 → A2 → A3 → A4 → A5 → A6 → gz_S → Option α} {Q : α → Prop} (J : A1 → A2 → A3 → A4 → A5 → A6 → gz_S → Nat → Prop) (h : ∀ (rec : A1 → A2 → A3 → A4 → A5 → A6 → gz_S → Option α) (m : Nat) (v1 : A1) (v2 : A2) (v3 : A3) (v4 : A4) (v5 : A5) (v6 : A6) (σ : gz_S), J v1 v2 v3 v4 v5 v6 σ m → (∀ (v1 : A1) (v2 : A2) (v3 : A3) (v4 : A4) (v5 : A5) (v6 : A6) (σ' : gz_S) (m' : Nat), m' < m → J v1 v2 v3 v4 v5 v6 σ' m' → gp (rec v1 v2 v3 v4 v5 v6 σ') Q) → gp (F rec v1 v2 v3 v4 v5 v6 σ) Q) : ∀ (n m : Nat) (v1 : A1) (v2 : A2) (v3 : A3) (v4 : A4) (v5 : A5) (v6 : A6) (σ : gz_S), m < n → J v1 v2 v3 v4 v5 v6 σ m → gp (gz_l6 F n v1 v2 v3 v4 v5 v6 σ) Q := by
  intro n
  induction n with
  | zero => intro m v1 v2 v3 v4 v5 v6 σ hm; omega
  | succ n ih => intro m v1 v2 v3 v4 v5 v6 σ hm hJ; exact h _ m v1 v2 v3 v4 v5 v6 σ hJ (fun v1 v2 v3 v4 v5 v6 σ' m' hm' hJ' => ih m' v1 v2 v3 v4 v5 v6 σ' (by omega) hJ')
/-- a loop that looks for the first place where w holds, from d up to e; it leaves the state as it is -/
def gs_fr (w : Nat → Bool) : Nat → Nat → Nat
  | 0, d => d
  | n + 1, d => if w d = true then d else gs_fr w n (d + 1)
def gs_ff (w : Nat → Bool) (e d : Nat) : Nat := gs_fr w (e - d) d
theorem gs_ff_e (w : Nat → Bool) (e : Nat) : gs_ff w e e = e := by
  unfold gs_ff
  rw [Nat.sub_self]
  rfl
theorem gs_ff_s {w : Nat → Bool} {e d : Nat} (h : d < e) : gs_ff w e d = if w d = true then d else gs_ff w e (d + 1) := by
  unfold gs_ff
  rw [show e - d = (e - (d + 1)) + 1 by omega]
  rfl
theorem gs_ff_le {w : Nat → Bool} {e : Nat} : ∀ {d : Nat}, d ≤ e → d ≤ gs_ff w e d ∧ gs_ff w e d ≤ e := by
  have h : ∀ n d, e - d = n → d ≤ e → d ≤ gs_ff w e d ∧ gs_ff w e d ≤ e := by
    intro n
    induction n with
    | zero =>
      intro d h1 h2
      have : d = e := by omega
      subst this
      rw [gs_ff_e]
      omega
    | succ n ih =>
      intro d h1 h2
      rw [gs_ff_s (by omega)]
      split
      · omega
      · have := ih (d + 1) (by omega) (by omega)
        omega
  intro d
  exact h _ d rfl
theorem gs_ff_spec {w : Nat → Bool} {e : Nat} : ∀ {d : Nat}, d ≤ e → (gs_ff w e d < e → w (gs_ff w e d) = true) ∧ ∀ j, d ≤ j → j < gs_ff w e d → w j = false := by
  have h : ∀ n d, e - d = n → d ≤ e → (gs_ff w e d < e → w (gs_ff w e d) = true) ∧ ∀ j, d ≤ j → j < gs_ff w e d → w j = false := by
    intro n
    induction n with
    | zero =>
      intro d h1 h2
      have : d = e := by omega
      subst this
      rw [gs_ff_e]
      exact ⟨fun h => by omega, fun j h1 h2 => by omega⟩
    | succ n ih =>
      intro d h1 h2
      rw [gs_ff_s (by omega)]
      split
      · rename_i hw
        exact ⟨fun _ => hw, fun j h1 h2 => by omega⟩
      · rename_i hw
        have := ih (d + 1) (by omega) (by omega)
        refine ⟨this.1, fun j h3 h4 => ?_⟩
        by_cases hj : j = d
        · subst hj
          simpa using hw
        · exact this.2 j (by omega) h4
  intro d
  exact h _ d rfl
theorem gs_sc {α : Type} {F : (Int32 → gz_S → Option α) → Int32 → gz_S → Option α} (w : Nat → Bool) (e : Nat) (k : Nat → Option α) (σ : gz_S) (h1 : ∀ rec d, d < e → F rec (nI d) σ = if w d = true then k d else rec (nI (d + 1)) σ) (he : ∀ rec, F rec (nI e) σ = k e) : ∀ n d, d ≤ e → e - d < n → gz_l1 F n (nI d) σ = k (gs_ff w e d) := by
  intro n
  induction n with
  | zero => intro d _ h; omega
  | succ n ih =>
    intro d hd hn
    show F (gz_l1 F n) (nI d) σ = _
    by_cases h : d = e
    · subst h
      rw [he, gs_ff_e]
    · have hlt : d < e := by omega
      rw [h1 _ d hlt, gs_ff_s hlt]
      split
      · rfl
      · exact ih (d + 1) (by omega) (by omega)
/-- the same, first v up in a loop with one more thing carried -/
theorem gs_fu_e : gz_fu = 20000 := rfl
def gs_cn (w : Nat → Bool) : Nat → Nat → Nat
  | 0, _ => 0
  | n + 1, i => (if w i = true then 1 else 0) + gs_cn w n (i + 1)
theorem gs_cn_set {w w' : Nat → Bool} {d : Nat} (h : ∀ j, j ≠ d → w' j = w j) : ∀ n i, (i ≤ d → d < i + n → gs_cn w' n i + (if w d = true then 1 else 0) = gs_cn w n i + (if w' d = true then 1 else 0)) ∧ ((d < i ∨ i + n ≤ d) → gs_cn w' n i = gs_cn w n i) := by
  intro n
  induction n with
  | zero => intro i; exact ⟨fun h1 h2 => by omega, fun _ => rfl⟩
  | succ n ih =>
    intro i
    obtain ⟨h1, h2⟩ := ih (i + 1)
    refine ⟨fun a b => ?_, fun a => ?_⟩
    · show ((if w' i = true then 1 else 0) + gs_cn w' n (i + 1)) + _ = ((if w i = true then 1 else 0) + gs_cn w n (i + 1)) + _
      by_cases e : i = d
      · subst e
        rw [h2 (by omega)]
        omega
      · rw [h i e]
        have := h1 (by omega) (by omega)
        omega
    · show (if w' i = true then 1 else 0) + gs_cn w' n (i + 1) = (if w i = true then 1 else 0) + gs_cn w n (i + 1)
      rw [h i (by omega), h2 (by omega)]
theorem gs_cn_congr {w w' : Nat → Bool} : ∀ n i, (∀ j, i ≤ j → j < i + n → w' j = w j) → gs_cn w' n i = gs_cn w n i := by
  intro n
  induction n with
  | zero => intro i _; rfl
  | succ n ih =>
    intro i h
    show (if w' i = true then 1 else 0) + gs_cn w' n (i + 1) = (if w i = true then 1 else 0) + gs_cn w n (i + 1)
    rw [h i (by omega) (by omega), ih (i + 1) (fun j h1 h2 => h j (by omega) (by omega))]
theorem gs_cn_le (w : Nat → Bool) : ∀ n i, gs_cn w n i ≤ n := by
  intro n
  induction n with
  | zero => intro i; exact Nat.le_refl _
  | succ n ih =>
    intro i
    have := ih (i + 1)
    show (if w i = true then 1 else 0) + gs_cn w n (i + 1) ≤ n + 1
    split <;> omega
theorem gs_cn_false {w : Nat → Bool} : ∀ n i, (∀ j, i ≤ j → j < i + n → w j = false) → gs_cn w n i = 0 := by
  intro n
  induction n with
  | zero => intro i _; rfl
  | succ n ih =>
    intro i h
    show (if w i = true then 1 else 0) + gs_cn w n (i + 1) = 0
    rw [h i (by omega) (by omega), ih (i + 1) (fun j h1 h2 => h j (by omega) (by omega))]
    rfl
