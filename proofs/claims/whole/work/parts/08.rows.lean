/-! THE JUDGEMENT: from this frame on the machine comes to what the pure computation z says, if it says something -/
def gz_X (p : Program) (s : State) (m : MethodId) (meth : Method) (c : Code) (G : gz_G) (cc : ByteArray) (own : String) (nL : Nat) (ret : Option FieldType) : Prop :=
  p.tables.exec = Jvm.exec ∧ c.code = cc ∧ c.maxLocals = nL ∧ s.vm.findClass own = some m.cls ∧ meth.sig.returnType = ret ∧ meth.locks = false ∧ gz_K G s
def gz_F (b : Bool) (G : gz_G) (H0 H : Heap) (locs : List Loc) : Prop := va_S (gz_A b G) H0 H locs ∧ (b = false → H.size = H0.size)
def gz_W (b : Bool) (p : Program) (l : Launch) (e : Env) (R : Room) (s : State) (m : MethodId) (args : Array Value) (below : List Frame) (meth : Method) (c : Code) (G : gz_G) (nL : Nat) {α : Type} (QQ : α → State → Prop) (ce sl : Nat) (σ : gz_S) (pc : Nat) (lv : List (Nat × Value)) (st : List Value) (z : Option α) : Prop :=
  ∀ o, z = some o → ∀ (H : Heap) (locs : List Loc) (ls : Array Slot), gz_H b G σ H → gz_F b G s.heap H locs → lv_has ls nL lv → W p l e R s m args below meth c H locs ce sl (QQ o) (F0 m pc ls st)
def gz_Qc (b : Bool) (G : gz_G) (q : Option Value × gz_S) : Array Value → State → Outcome → State → Prop := fun _ st oc t => oc = .returned q.1 ∧ gz_H b G q.2 t.heap ∧ va_F (gz_A b G) st t ∧ (b = false → t.heap.size = st.heap.size)
def gz_Q (b : Bool) (G : gz_G) (below : List Frame) (args : Array Value) (s : State) (mc ms : Nat) {α : Type} (en : α → Option Value × gz_S) (o : α) : State → Prop := MQ below (gz_Qc b G (en o)) args s mc ms (gz_A b G)
abbrev gz_rv (b : Bool) (G : gz_G) (t : Nat) (r : Option Nat) : Value := va_rf (r.map (gz_ad b G t))
def gz_ei (o : Int32 × gz_S) : Option Value × gz_S := (some (.int o.1), o.2)
def gz_el (o : Int64 × gz_S) : Option Value × gz_S := (some (.long o.1), o.2)
def gz_eu (o : gz_S) : Option Value × gz_S := (none, o)
def gz_er (b : Bool) (G : gz_G) (t : Nat) (o : Option Nat × gz_S) : Option Value × gz_S := (some (gz_rv b G t o.1), o.2)
/-! the words of pure computations -/
def gz_ix {α : Type} (j : Int32) (n : Nat) (f : Nat → Option α) : Option α := if 0 ≤ j.toInt ∧ j.toInt < (n : Int) then f j.toInt.toNat else none
def gz_nl {α : Type} (r : Option Nat) (n : Nat) (a : Option α) (f : Nat → Option α) : Option α := match r with
  | none => a
  | some i => if i < n then f i else none
def gz_call {α β γ : Type} (x : Option (α × β)) (f : α → β → Option γ) : Option γ := match x with
  | none => none
  | some o => f o.1 o.2
def gz_then {β γ : Type} (x : Option β) (f : β → Option γ) : Option γ := match x with
  | none => none
  | some o => f o
def gz_nz {α : Type} (y : Int32) (z : Option α) : Option α := if y = 0 then none else z
def gz_fu : Nat := 20000
def gz_w {α : Type} (u : gz_S) (f : gz_S → Option α) : Option α := f u
def gz_v {α β : Type} (x : β) (f : β → Option α) : Option α := f x

def gz_rem (x y : Int32) : Int32 := x - x / y * y

def gz_j0 {α : Type} (k : gz_S → Option α) (f : (gz_S → Option α) → Option α) : Option α := f k
def gz_l0 {α : Type} (f : (gz_S → Option α) → gz_S → Option α) : Nat → gz_S → Option α
  | 0 => fun _ => none
  | n + 1 => f (gz_l0 f n)
theorem gz_l0_ind {α : Type} {P : gz_S → Option α → Prop} {f : (gz_S → Option α) → gz_S → Option α} (h0 : ∀ (u : gz_S), P u none) (hs : ∀ r, (∀ (u : gz_S), P u (r u)) → ∀ (u : gz_S), P u (f r u)) : ∀ (n : Nat) (u : gz_S), P u (gz_l0 f n u)
  | 0 => h0
  | n + 1 => hs _ (gz_l0_ind h0 hs n)
def gz_j1 {A1 α : Type} (k : A1 → gz_S → Option α) (f : (A1 → gz_S → Option α) → Option α) : Option α := f k
def gz_l1 {A1 α : Type} (f : (A1 → gz_S → Option α) → A1 → gz_S → Option α) : Nat → A1 → gz_S → Option α
  | 0 => fun _ _ => none
  | n + 1 => f (gz_l1 f n)
theorem gz_l1_ind {A1 α : Type} {P : A1 → gz_S → Option α → Prop} {f : (A1 → gz_S → Option α) → A1 → gz_S → Option α} (h0 : ∀ (a1 : A1) (u : gz_S), P a1 u none) (hs : ∀ r, (∀ (a1 : A1) (u : gz_S), P a1 u (r a1 u)) → ∀ (a1 : A1) (u : gz_S), P a1 u (f r a1 u)) : ∀ (n : Nat) (a1 : A1) (u : gz_S), P a1 u (gz_l1 f n a1 u)
  | 0 => h0
  | n + 1 => hs _ (gz_l1_ind h0 hs n)
def gz_j2 {A1 A2 α : Type} (k : A1 → A2 → gz_S → Option α) (f : (A1 → A2 → gz_S → Option α) → Option α) : Option α := f k
def gz_l2 {A1 A2 α : Type} (f : (A1 → A2 → gz_S → Option α) → A1 → A2 → gz_S → Option α) : Nat → A1 → A2 → gz_S → Option α
  | 0 => fun _ _ _ => none
  | n + 1 => f (gz_l2 f n)
theorem gz_l2_ind {A1 A2 α : Type} {P : A1 → A2 → gz_S → Option α → Prop} {f : (A1 → A2 → gz_S → Option α) → A1 → A2 → gz_S → Option α} (h0 : ∀ (a1 : A1) (a2 : A2) (u : gz_S), P a1 a2 u none) (hs : ∀ r, (∀ (a1 : A1) (a2 : A2) (u : gz_S), P a1 a2 u (r a1 a2 u)) → ∀ (a1 : A1) (a2 : A2) (u : gz_S), P a1 a2 u (f r a1 a2 u)) : ∀ (n : Nat) (a1 : A1) (a2 : A2) (u : gz_S), P a1 a2 u (gz_l2 f n a1 a2 u)
  | 0 => h0
  | n + 1 => hs _ (gz_l2_ind h0 hs n)
def gz_j3 {A1 A2 A3 α : Type} (k : A1 → A2 → A3 → gz_S → Option α) (f : (A1 → A2 → A3 → gz_S → Option α) → Option α) : Option α := f k
def gz_l3 {A1 A2 A3 α : Type} (f : (A1 → A2 → A3 → gz_S → Option α) → A1 → A2 → A3 → gz_S → Option α) : Nat → A1 → A2 → A3 → gz_S → Option α
  | 0 => fun _ _ _ _ => none
  | n + 1 => f (gz_l3 f n)
theorem gz_l3_ind {A1 A2 A3 α : Type} {P : A1 → A2 → A3 → gz_S → Option α → Prop} {f : (A1 → A2 → A3 → gz_S → Option α) → A1 → A2 → A3 → gz_S → Option α} (h0 : ∀ (a1 : A1) (a2 : A2) (a3 : A3) (u : gz_S), P a1 a2 a3 u none) (hs : ∀ r, (∀ (a1 : A1) (a2 : A2) (a3 : A3) (u : gz_S), P a1 a2 a3 u (r a1 a2 a3 u)) → ∀ (a1 : A1) (a2 : A2) (a3 : A3) (u : gz_S), P a1 a2 a3 u (f r a1 a2 a3 u)) : ∀ (n : Nat) (a1 : A1) (a2 : A2) (a3 : A3) (u : gz_S), P a1 a2 a3 u (gz_l3 f n a1 a2 a3 u)
  | 0 => h0
  | n + 1 => hs _ (gz_l3_ind h0 hs n)
def gz_j4 {A1 A2 A3 A4 α : Type} (k : A1 → A2 → A3 → A4 → gz_S → Option α) (f : (A1 → A2 → A3 → A4 → gz_S → Option α) → Option α) : Option α := f k
def gz_l4 {A1 A2 A3 A4 α : Type} (f : (A1 → A2 → A3 → A4 → gz_S → Option α) → A1 → A2 → A3 → A4 → gz_S → Option α) : Nat → A1 → A2 → A3 → A4 → gz_S → Option α
  | 0 => fun _ _ _ _ _ => none
  | n + 1 => f (gz_l4 f n)
theorem gz_l4_ind {A1 A2 A3 A4 α : Type} {P : A1 → A2 → A3 → A4 → gz_S → Option α → Prop} {f : (A1 → A2 → A3 → A4 → gz_S → Option α) → A1 → A2 → A3 → A4 → gz_S → Option α} (h0 : ∀ (a1 : A1) (a2 : A2) (a3 : A3) (a4 : A4) (u : gz_S), P a1 a2 a3 a4 u none) (hs : ∀ r, (∀ (a1 : A1) (a2 : A2) (a3 : A3) (a4 : A4) (u : gz_S), P a1 a2 a3 a4 u (r a1 a2 a3 a4 u)) → ∀ (a1 : A1) (a2 : A2) (a3 : A3) (a4 : A4) (u : gz_S), P a1 a2 a3 a4 u (f r a1 a2 a3 a4 u)) : ∀ (n : Nat) (a1 : A1) (a2 : A2) (a3 : A3) (a4 : A4) (u : gz_S), P a1 a2 a3 a4 u (gz_l4 f n a1 a2 a3 a4 u)
  | 0 => h0
  | n + 1 => hs _ (gz_l4_ind h0 hs n)
def gz_j5 {A1 A2 A3 A4 A5 α : Type} (k : A1 → A2 → A3 → A4 → A5 → gz_S → Option α) (f : (A1 → A2 → A3 → A4 → A5 → gz_S → Option α) → Option α) : Option α := f k
def gz_l5 {A1 A2 A3 A4 A5 α : Type} (f : (A1 → A2 → A3 → A4 → A5 → gz_S → Option α) → A1 → A2 → A3 → A4 → A5 → gz_S → Option α) : Nat → A1 → A2 → A3 → A4 → A5 → gz_S → Option α
  | 0 => fun _ _ _ _ _ _ => none
  | n + 1 => f (gz_l5 f n)
theorem gz_l5_ind {A1 A2 A3 A4 A5 α : Type} {P : A1 → A2 → A3 → A4 → A5 → gz_S → Option α → Prop} {f : (A1 → A2 → A3 → A4 → A5 → gz_S → Option α) → A1 → A2 → A3 → A4 → A5 → gz_S → Option α} (h0 : ∀ (a1 : A1) (a2 : A2) (a3 : A3) (a4 : A4) (a5 : A5) (u : gz_S), P a1 a2 a3 a4 a5 u none) (hs : ∀ r, (∀ (a1 : A1) (a2 : A2) (a3 : A3) (a4 : A4) (a5 : A5) (u : gz_S), P a1 a2 a3 a4 a5 u (r a1 a2 a3 a4 a5 u)) → ∀ (a1 : A1) (a2 : A2) (a3 : A3) (a4 : A4) (a5 : A5) (u : gz_S), P a1 a2 a3 a4 a5 u (f r a1 a2 a3 a4 a5 u)) : ∀ (n : Nat) (a1 : A1) (a2 : A2) (a3 : A3) (a4 : A4) (a5 : A5) (u : gz_S), P a1 a2 a3 a4 a5 u (gz_l5 f n a1 a2 a3 a4 a5 u)
  | 0 => h0
  | n + 1 => hs _ (gz_l5_ind h0 hs n)
def gz_j6 {A1 A2 A3 A4 A5 A6 α : Type} (k : A1 → A2 → A3 → A4 → A5 → A6 → gz_S → Option α) (f : (A1 → A2 → A3 → A4 → A5 → A6 → gz_S → Option α) → Option α) : Option α := f k
def gz_l6 {A1 A2 A3 A4 A5 A6 α : Type} (f : (A1 → A2 → A3 → A4 → A5 → A6 → gz_S → Option α) → A1 → A2 → A3 → A4 → A5 → A6 → gz_S → Option α) : Nat → A1 → A2 → A3 → A4 → A5 → A6 → gz_S → Option α
  | 0 => fun _ _ _ _ _ _ _ => none
  | n + 1 => f (gz_l6 f n)
theorem gz_l6_ind {A1 A2 A3 A4 A5 A6 α : Type} {P : A1 → A2 → A3 → A4 → A5 → A6 → gz_S → Option α → Prop} {f : (A1 → A2 → A3 → A4 → A5 → A6 → gz_S → Option α) → A1 → A2 → A3 → A4 → A5 → A6 → gz_S → Option α} (h0 : ∀ (a1 : A1) (a2 : A2) (a3 : A3) (a4 : A4) (a5 : A5) (a6 : A6) (u : gz_S), P a1 a2 a3 a4 a5 a6 u none) (hs : ∀ r, (∀ (a1 : A1) (a2 : A2) (a3 : A3) (a4 : A4) (a5 : A5) (a6 : A6) (u : gz_S), P a1 a2 a3 a4 a5 a6 u (r a1 a2 a3 a4 a5 a6 u)) → ∀ (a1 : A1) (a2 : A2) (a3 : A3) (a4 : A4) (a5 : A5) (a6 : A6) (u : gz_S), P a1 a2 a3 a4 a5 a6 u (f r a1 a2 a3 a4 a5 a6 u)) : ∀ (n : Nat) (a1 : A1) (a2 : A2) (a3 : A3) (a4 : A4) (a5 : A5) (a6 : A6) (u : gz_S), P a1 a2 a3 a4 a5 a6 u (gz_l6 f n a1 a2 a3 a4 a5 a6 u)
  | 0 => h0
  | n + 1 => hs _ (gz_l6_ind h0 hs n)
def gz_j7 {A1 A2 A3 A4 A5 A6 A7 α : Type} (k : A1 → A2 → A3 → A4 → A5 → A6 → A7 → gz_S → Option α) (f : (A1 → A2 → A3 → A4 → A5 → A6 → A7 → gz_S → Option α) → Option α) : Option α := f k
def gz_l7 {A1 A2 A3 A4 A5 A6 A7 α : Type} (f : (A1 → A2 → A3 → A4 → A5 → A6 → A7 → gz_S → Option α) → A1 → A2 → A3 → A4 → A5 → A6 → A7 → gz_S → Option α) : Nat → A1 → A2 → A3 → A4 → A5 → A6 → A7 → gz_S → Option α
  | 0 => fun _ _ _ _ _ _ _ _ => none
  | n + 1 => f (gz_l7 f n)
theorem gz_l7_ind {A1 A2 A3 A4 A5 A6 A7 α : Type} {P : A1 → A2 → A3 → A4 → A5 → A6 → A7 → gz_S → Option α → Prop} {f : (A1 → A2 → A3 → A4 → A5 → A6 → A7 → gz_S → Option α) → A1 → A2 → A3 → A4 → A5 → A6 → A7 → gz_S → Option α} (h0 : ∀ (a1 : A1) (a2 : A2) (a3 : A3) (a4 : A4) (a5 : A5) (a6 : A6) (a7 : A7) (u : gz_S), P a1 a2 a3 a4 a5 a6 a7 u none) (hs : ∀ r, (∀ (a1 : A1) (a2 : A2) (a3 : A3) (a4 : A4) (a5 : A5) (a6 : A6) (a7 : A7) (u : gz_S), P a1 a2 a3 a4 a5 a6 a7 u (r a1 a2 a3 a4 a5 a6 a7 u)) → ∀ (a1 : A1) (a2 : A2) (a3 : A3) (a4 : A4) (a5 : A5) (a6 : A6) (a7 : A7) (u : gz_S), P a1 a2 a3 a4 a5 a6 a7 u (f r a1 a2 a3 a4 a5 a6 a7 u)) : ∀ (n : Nat) (a1 : A1) (a2 : A2) (a3 : A3) (a4 : A4) (a5 : A5) (a6 : A6) (a7 : A7) (u : gz_S), P a1 a2 a3 a4 a5 a6 a7 u (gz_l7 f n a1 a2 a3 a4 a5 a6 a7 u)
  | 0 => h0
  | n + 1 => hs _ (gz_l7_ind h0 hs n)
def gz_j8 {A1 A2 A3 A4 A5 A6 A7 A8 α : Type} (k : A1 → A2 → A3 → A4 → A5 → A6 → A7 → A8 → gz_S → Option α) (f : (A1 → A2 → A3 → A4 → A5 → A6 → A7 → A8 → gz_S → Option α) → Option α) : Option α := f k
def gz_l8 {A1 A2 A3 A4 A5 A6 A7 A8 α : Type} (f : (A1 → A2 → A3 → A4 → A5 → A6 → A7 → A8 → gz_S → Option α) → A1 → A2 → A3 → A4 → A5 → A6 → A7 → A8 → gz_S → Option α) : Nat → A1 → A2 → A3 → A4 → A5 → A6 → A7 → A8 → gz_S → Option α
  | 0 => fun _ _ _ _ _ _ _ _ _ => none
  | n + 1 => f (gz_l8 f n)
theorem gz_l8_ind {A1 A2 A3 A4 A5 A6 A7 A8 α : Type} {P : A1 → A2 → A3 → A4 → A5 → A6 → A7 → A8 → gz_S → Option α → Prop} {f : (A1 → A2 → A3 → A4 → A5 → A6 → A7 → A8 → gz_S → Option α) → A1 → A2 → A3 → A4 → A5 → A6 → A7 → A8 → gz_S → Option α} (h0 : ∀ (a1 : A1) (a2 : A2) (a3 : A3) (a4 : A4) (a5 : A5) (a6 : A6) (a7 : A7) (a8 : A8) (u : gz_S), P a1 a2 a3 a4 a5 a6 a7 a8 u none) (hs : ∀ r, (∀ (a1 : A1) (a2 : A2) (a3 : A3) (a4 : A4) (a5 : A5) (a6 : A6) (a7 : A7) (a8 : A8) (u : gz_S), P a1 a2 a3 a4 a5 a6 a7 a8 u (r a1 a2 a3 a4 a5 a6 a7 a8 u)) → ∀ (a1 : A1) (a2 : A2) (a3 : A3) (a4 : A4) (a5 : A5) (a6 : A6) (a7 : A7) (a8 : A8) (u : gz_S), P a1 a2 a3 a4 a5 a6 a7 a8 u (f r a1 a2 a3 a4 a5 a6 a7 a8 u)) : ∀ (n : Nat) (a1 : A1) (a2 : A2) (a3 : A3) (a4 : A4) (a5 : A5) (a6 : A6) (a7 : A7) (a8 : A8) (u : gz_S), P a1 a2 a3 a4 a5 a6 a7 a8 u (gz_l8 f n a1 a2 a3 a4 a5 a6 a7 a8 u)
  | 0 => h0
  | n + 1 => hs _ (gz_l8_ind h0 hs n)
def gz_j9 {A1 A2 A3 A4 A5 A6 A7 A8 A9 α : Type} (k : A1 → A2 → A3 → A4 → A5 → A6 → A7 → A8 → A9 → gz_S → Option α) (f : (A1 → A2 → A3 → A4 → A5 → A6 → A7 → A8 → A9 → gz_S → Option α) → Option α) : Option α := f k
def gz_l9 {A1 A2 A3 A4 A5 A6 A7 A8 A9 α : Type} (f : (A1 → A2 → A3 → A4 → A5 → A6 → A7 → A8 → A9 → gz_S → Option α) → A1 → A2 → A3 → A4 → A5 → A6 → A7 → A8 → A9 → gz_S → Option α) : Nat → A1 → A2 → A3 → A4 → A5 → A6 → A7 → A8 → A9 → gz_S → Option α
  | 0 => fun _ _ _ _ _ _ _ _ _ _ => none
  | n + 1 => f (gz_l9 f n)
theorem gz_l9_ind {A1 A2 A3 A4 A5 A6 A7 A8 A9 α : Type} {P : A1 → A2 → A3 → A4 → A5 → A6 → A7 → A8 → A9 → gz_S → Option α → Prop} {f : (A1 → A2 → A3 → A4 → A5 → A6 → A7 → A8 → A9 → gz_S → Option α) → A1 → A2 → A3 → A4 → A5 → A6 → A7 → A8 → A9 → gz_S → Option α} (h0 : ∀ (a1 : A1) (a2 : A2) (a3 : A3) (a4 : A4) (a5 : A5) (a6 : A6) (a7 : A7) (a8 : A8) (a9 : A9) (u : gz_S), P a1 a2 a3 a4 a5 a6 a7 a8 a9 u none) (hs : ∀ r, (∀ (a1 : A1) (a2 : A2) (a3 : A3) (a4 : A4) (a5 : A5) (a6 : A6) (a7 : A7) (a8 : A8) (a9 : A9) (u : gz_S), P a1 a2 a3 a4 a5 a6 a7 a8 a9 u (r a1 a2 a3 a4 a5 a6 a7 a8 a9 u)) → ∀ (a1 : A1) (a2 : A2) (a3 : A3) (a4 : A4) (a5 : A5) (a6 : A6) (a7 : A7) (a8 : A8) (a9 : A9) (u : gz_S), P a1 a2 a3 a4 a5 a6 a7 a8 a9 u (f r a1 a2 a3 a4 a5 a6 a7 a8 a9 u)) : ∀ (n : Nat) (a1 : A1) (a2 : A2) (a3 : A3) (a4 : A4) (a5 : A5) (a6 : A6) (a7 : A7) (a8 : A8) (a9 : A9) (u : gz_S), P a1 a2 a3 a4 a5 a6 a7 a8 a9 u (gz_l9 f n a1 a2 a3 a4 a5 a6 a7 a8 a9 u)
  | 0 => h0
  | n + 1 => hs _ (gz_l9_ind h0 hs n)
section GZ
variable {b : Bool} {p : Program} {l : Launch} {e : Env} {R : Room} {s : State} {m : MethodId} {args : Array Value} {below : List Frame} {meth : Method} {c : Code} {G : gz_G} {nL : Nat} {α : Type} {QQ : α → State → Prop} {ce sl : Nat} {σ : gz_S} {pc : Nat} {lv : List (Nat × Value)} {st : List Value} {z z1 z2 : Option α} {cc : ByteArray} {own : String} {ret : Option FieldType}
theorem gz_X.word {args : Array Value} (C : gz_X p s m meth c G cc own nL ret) {w : Cond} (hw : w ∈ lw_tbl) (ho : gz_okw w = true) : w.before args s = true := C.2.2.2.2.2.2.2.2.1 w hw ho args

theorem gz_none : gz_W b p l e R s m args below meth c G nL QQ ce sl σ pc lv st none := fun o h => by cases h
theorem gz_lv {lv' : List (Nat × Value)} (ks : List Nat) (hl : lv_pick lv ks = lv') (k : gz_W b p l e R s m args below meth c G nL QQ ce sl σ pc lv' st z) : gz_W b p l e R s m args below meth c G nL QQ ce sl σ pc lv st z := fun o h H locs ls hH hS hl0 => k o h H locs ls hH hS (lv_sub hl0 ks hl)
theorem gz_eqs {st' : List Value} {lv' : List (Nat × Value)} (hs : st = st') (hl : lv = lv') (k : gz_W b p l e R s m args below meth c G nL QQ ce sl σ pc lv' st' z) : gz_W b p l e R s m args below meth c G nL QQ ce sl σ pc lv st z := by subst hs; subst hl; exact k
theorem gz_wid {ce1 sl1 : Nat} (h1 : ce ≤ ce1) (h2 : sl ≤ sl1) (k : gz_W b p l e R s m args below meth c G nL QQ ce1 sl1 σ pc lv st z) : gz_W b p l e R s m args below meth c G nL QQ ce sl σ pc lv st z := fun o h H locs ls hH hS hl => W.widen h1 h2 (k o h H locs ls hH hS hl)
theorem gz_w_row {f : gz_S → Option α} (k : ∀ u, gz_W b p l e R s m args below meth c G nL QQ ce sl u pc lv st (f u)) : gz_W b p l e R s m args below meth c G nL QQ ce sl σ pc lv st (gz_w σ f) := k σ
theorem gz_topI {x : Int32} {f : Int32 → Option α} (k : ∀ v, gz_W b p l e R s m args below meth c G nL QQ ce sl σ pc lv (.int v :: st) (f v)) : gz_W b p l e R s m args below meth c G nL QQ ce sl σ pc lv (.int x :: st) (gz_v x f) := k x
theorem gz_topJ {x : Int64} {f : Int64 → Option α} (k : ∀ v, gz_W b p l e R s m args below meth c G nL QQ ce sl σ pc lv (.long v :: st) (f v)) : gz_W b p l e R s m args below meth c G nL QQ ce sl σ pc lv (.long x :: st) (gz_v x f) := k x
theorem gz_j0_row {P : gz_S → Option α → Prop} {k : gz_S → Option α} {f : (gz_S → Option α) → Option α} (hk : ∀ (u : gz_S), P u (k u)) (hb : ∀ k1 : gz_S → Option α, (∀ (u : gz_S), P u (k1 u)) → gz_W b p l e R s m args below meth c G nL QQ ce sl σ pc lv st (f k1)) : gz_W b p l e R s m args below meth c G nL QQ ce sl σ pc lv st (gz_j0 k f) := hb k hk
theorem gz_j1_row {A1 : Type} {P : A1 → gz_S → Option α → Prop} {k : A1 → gz_S → Option α} {f : (A1 → gz_S → Option α) → Option α} (hk : ∀ (a1 : A1) (u : gz_S), P a1 u (k a1 u)) (hb : ∀ k1 : A1 → gz_S → Option α, (∀ (a1 : A1) (u : gz_S), P a1 u (k1 a1 u)) → gz_W b p l e R s m args below meth c G nL QQ ce sl σ pc lv st (f k1)) : gz_W b p l e R s m args below meth c G nL QQ ce sl σ pc lv st (gz_j1 k f) := hb k hk
theorem gz_j2_row {A1 A2 : Type} {P : A1 → A2 → gz_S → Option α → Prop} {k : A1 → A2 → gz_S → Option α} {f : (A1 → A2 → gz_S → Option α) → Option α} (hk : ∀ (a1 : A1) (a2 : A2) (u : gz_S), P a1 a2 u (k a1 a2 u)) (hb : ∀ k1 : A1 → A2 → gz_S → Option α, (∀ (a1 : A1) (a2 : A2) (u : gz_S), P a1 a2 u (k1 a1 a2 u)) → gz_W b p l e R s m args below meth c G nL QQ ce sl σ pc lv st (f k1)) : gz_W b p l e R s m args below meth c G nL QQ ce sl σ pc lv st (gz_j2 k f) := hb k hk
theorem gz_j3_row {A1 A2 A3 : Type} {P : A1 → A2 → A3 → gz_S → Option α → Prop} {k : A1 → A2 → A3 → gz_S → Option α} {f : (A1 → A2 → A3 → gz_S → Option α) → Option α} (hk : ∀ (a1 : A1) (a2 : A2) (a3 : A3) (u : gz_S), P a1 a2 a3 u (k a1 a2 a3 u)) (hb : ∀ k1 : A1 → A2 → A3 → gz_S → Option α, (∀ (a1 : A1) (a2 : A2) (a3 : A3) (u : gz_S), P a1 a2 a3 u (k1 a1 a2 a3 u)) → gz_W b p l e R s m args below meth c G nL QQ ce sl σ pc lv st (f k1)) : gz_W b p l e R s m args below meth c G nL QQ ce sl σ pc lv st (gz_j3 k f) := hb k hk
theorem gz_j4_row {A1 A2 A3 A4 : Type} {P : A1 → A2 → A3 → A4 → gz_S → Option α → Prop} {k : A1 → A2 → A3 → A4 → gz_S → Option α} {f : (A1 → A2 → A3 → A4 → gz_S → Option α) → Option α} (hk : ∀ (a1 : A1) (a2 : A2) (a3 : A3) (a4 : A4) (u : gz_S), P a1 a2 a3 a4 u (k a1 a2 a3 a4 u)) (hb : ∀ k1 : A1 → A2 → A3 → A4 → gz_S → Option α, (∀ (a1 : A1) (a2 : A2) (a3 : A3) (a4 : A4) (u : gz_S), P a1 a2 a3 a4 u (k1 a1 a2 a3 a4 u)) → gz_W b p l e R s m args below meth c G nL QQ ce sl σ pc lv st (f k1)) : gz_W b p l e R s m args below meth c G nL QQ ce sl σ pc lv st (gz_j4 k f) := hb k hk
theorem gz_j5_row {A1 A2 A3 A4 A5 : Type} {P : A1 → A2 → A3 → A4 → A5 → gz_S → Option α → Prop} {k : A1 → A2 → A3 → A4 → A5 → gz_S → Option α} {f : (A1 → A2 → A3 → A4 → A5 → gz_S → Option α) → Option α} (hk : ∀ (a1 : A1) (a2 : A2) (a3 : A3) (a4 : A4) (a5 : A5) (u : gz_S), P a1 a2 a3 a4 a5 u (k a1 a2 a3 a4 a5 u)) (hb : ∀ k1 : A1 → A2 → A3 → A4 → A5 → gz_S → Option α, (∀ (a1 : A1) (a2 : A2) (a3 : A3) (a4 : A4) (a5 : A5) (u : gz_S), P a1 a2 a3 a4 a5 u (k1 a1 a2 a3 a4 a5 u)) → gz_W b p l e R s m args below meth c G nL QQ ce sl σ pc lv st (f k1)) : gz_W b p l e R s m args below meth c G nL QQ ce sl σ pc lv st (gz_j5 k f) := hb k hk
theorem gz_j6_row {A1 A2 A3 A4 A5 A6 : Type} {P : A1 → A2 → A3 → A4 → A5 → A6 → gz_S → Option α → Prop} {k : A1 → A2 → A3 → A4 → A5 → A6 → gz_S → Option α} {f : (A1 → A2 → A3 → A4 → A5 → A6 → gz_S → Option α) → Option α} (hk : ∀ (a1 : A1) (a2 : A2) (a3 : A3) (a4 : A4) (a5 : A5) (a6 : A6) (u : gz_S), P a1 a2 a3 a4 a5 a6 u (k a1 a2 a3 a4 a5 a6 u)) (hb : ∀ k1 : A1 → A2 → A3 → A4 → A5 → A6 → gz_S → Option α, (∀ (a1 : A1) (a2 : A2) (a3 : A3) (a4 : A4) (a5 : A5) (a6 : A6) (u : gz_S), P a1 a2 a3 a4 a5 a6 u (k1 a1 a2 a3 a4 a5 a6 u)) → gz_W b p l e R s m args below meth c G nL QQ ce sl σ pc lv st (f k1)) : gz_W b p l e R s m args below meth c G nL QQ ce sl σ pc lv st (gz_j6 k f) := hb k hk
theorem gz_j7_row {A1 A2 A3 A4 A5 A6 A7 : Type} {P : A1 → A2 → A3 → A4 → A5 → A6 → A7 → gz_S → Option α → Prop} {k : A1 → A2 → A3 → A4 → A5 → A6 → A7 → gz_S → Option α} {f : (A1 → A2 → A3 → A4 → A5 → A6 → A7 → gz_S → Option α) → Option α} (hk : ∀ (a1 : A1) (a2 : A2) (a3 : A3) (a4 : A4) (a5 : A5) (a6 : A6) (a7 : A7) (u : gz_S), P a1 a2 a3 a4 a5 a6 a7 u (k a1 a2 a3 a4 a5 a6 a7 u)) (hb : ∀ k1 : A1 → A2 → A3 → A4 → A5 → A6 → A7 → gz_S → Option α, (∀ (a1 : A1) (a2 : A2) (a3 : A3) (a4 : A4) (a5 : A5) (a6 : A6) (a7 : A7) (u : gz_S), P a1 a2 a3 a4 a5 a6 a7 u (k1 a1 a2 a3 a4 a5 a6 a7 u)) → gz_W b p l e R s m args below meth c G nL QQ ce sl σ pc lv st (f k1)) : gz_W b p l e R s m args below meth c G nL QQ ce sl σ pc lv st (gz_j7 k f) := hb k hk
theorem gz_j8_row {A1 A2 A3 A4 A5 A6 A7 A8 : Type} {P : A1 → A2 → A3 → A4 → A5 → A6 → A7 → A8 → gz_S → Option α → Prop} {k : A1 → A2 → A3 → A4 → A5 → A6 → A7 → A8 → gz_S → Option α} {f : (A1 → A2 → A3 → A4 → A5 → A6 → A7 → A8 → gz_S → Option α) → Option α} (hk : ∀ (a1 : A1) (a2 : A2) (a3 : A3) (a4 : A4) (a5 : A5) (a6 : A6) (a7 : A7) (a8 : A8) (u : gz_S), P a1 a2 a3 a4 a5 a6 a7 a8 u (k a1 a2 a3 a4 a5 a6 a7 a8 u)) (hb : ∀ k1 : A1 → A2 → A3 → A4 → A5 → A6 → A7 → A8 → gz_S → Option α, (∀ (a1 : A1) (a2 : A2) (a3 : A3) (a4 : A4) (a5 : A5) (a6 : A6) (a7 : A7) (a8 : A8) (u : gz_S), P a1 a2 a3 a4 a5 a6 a7 a8 u (k1 a1 a2 a3 a4 a5 a6 a7 a8 u)) → gz_W b p l e R s m args below meth c G nL QQ ce sl σ pc lv st (f k1)) : gz_W b p l e R s m args below meth c G nL QQ ce sl σ pc lv st (gz_j8 k f) := hb k hk
theorem gz_j9_row {A1 A2 A3 A4 A5 A6 A7 A8 A9 : Type} {P : A1 → A2 → A3 → A4 → A5 → A6 → A7 → A8 → A9 → gz_S → Option α → Prop} {k : A1 → A2 → A3 → A4 → A5 → A6 → A7 → A8 → A9 → gz_S → Option α} {f : (A1 → A2 → A3 → A4 → A5 → A6 → A7 → A8 → A9 → gz_S → Option α) → Option α} (hk : ∀ (a1 : A1) (a2 : A2) (a3 : A3) (a4 : A4) (a5 : A5) (a6 : A6) (a7 : A7) (a8 : A8) (a9 : A9) (u : gz_S), P a1 a2 a3 a4 a5 a6 a7 a8 a9 u (k a1 a2 a3 a4 a5 a6 a7 a8 a9 u)) (hb : ∀ k1 : A1 → A2 → A3 → A4 → A5 → A6 → A7 → A8 → A9 → gz_S → Option α, (∀ (a1 : A1) (a2 : A2) (a3 : A3) (a4 : A4) (a5 : A5) (a6 : A6) (a7 : A7) (a8 : A8) (a9 : A9) (u : gz_S), P a1 a2 a3 a4 a5 a6 a7 a8 a9 u (k1 a1 a2 a3 a4 a5 a6 a7 a8 a9 u)) → gz_W b p l e R s m args below meth c G nL QQ ce sl σ pc lv st (f k1)) : gz_W b p l e R s m args below meth c G nL QQ ce sl σ pc lv st (gz_j9 k f) := hb k hk
theorem gz_iconst (C : gz_X p s m meth c G cc own nL ret) {n : Int} {v : Int32} (d : decode cc pc = .ok (.iconst n, 1)) (hv : Int32.ofInt n = v) (k : gz_W b p l e R s m args below meth c G nL QQ ce sl σ (pc + 1) lv (.int v :: st) z) : gz_W b p l e R s m args below meth c G nL QQ ce sl σ pc lv st z := fun o h H locs ls hH hS hl => lv_iconst C.1 C.2.1 d hv (k o h H locs ls hH hS hl)
theorem gz_bipush (C : gz_X p s m meth c G cc own nL ret) {n : Int} {v : Int32} (d : decode cc pc = .ok (.bipush n, 2)) (hv : (Int8.ofInt n).toInt32 = v) (k : gz_W b p l e R s m args below meth c G nL QQ ce sl σ (pc + 2) lv (.int v :: st) z) : gz_W b p l e R s m args below meth c G nL QQ ce sl σ pc lv st z := fun o h H locs ls hH hS hl => lv_bipush C.1 C.2.1 d hv (k o h H locs ls hH hS hl)
theorem gz_sipush (C : gz_X p s m meth c G cc own nL ret) {n : Int} {v : Int32} (d : decode cc pc = .ok (.sipush n, 3)) (hv : (Int16.ofInt n).toInt32 = v) (k : gz_W b p l e R s m args below meth c G nL QQ ce sl σ (pc + 3) lv (.int v :: st) z) : gz_W b p l e R s m args below meth c G nL QQ ce sl σ pc lv st z := fun o h H locs ls hH hS hl => lv_sipush C.1 C.2.1 d hv (k o h H locs ls hH hS hl)
theorem gz_lconst (C : gz_X p s m meth c G cc own nL ret) {n : Fin 2} {v : Int64} (d : decode cc pc = .ok (.lconst n, 1)) (hv : Int64.ofNat (n : Nat) = v) (k : gz_W b p l e R s m args below meth c G nL QQ ce sl σ (pc + 1) lv (.long v :: st) z) : gz_W b p l e R s m args below meth c G nL QQ ce sl σ pc lv st z := fun o h H locs ls hH hS hl => lv_lconst C.1 C.2.1 d hv (k o h H locs ls hH hS hl)
theorem gz_ldc (C : gz_X p s m meth c G cc own nL ret) {index : Nat} {v : Int32} (d : decode cc pc = .ok (.ldc index, 2)) (hw : Jvm.Cond.constant own index v ∈ lw_tbl) (k : gz_W b p l e R s m args below meth c G nL QQ ce sl σ (pc + 2) lv (.int v :: st) z) : gz_W b p l e R s m args below meth c G nL QQ ce sl σ pc lv st z := fun o h H locs ls hH hS hl => lv_ldc C.1 C.2.1 C.2.2.2.1 (C.word hw rfl) d (k o h H locs ls hH hS hl)
theorem gz_ldcw (C : gz_X p s m meth c G cc own nL ret) {index : Nat} {v : Int32} (d : decode cc pc = .ok (.ldc_w index, 3)) (hw : Jvm.Cond.constant own index v ∈ lw_tbl) (k : gz_W b p l e R s m args below meth c G nL QQ ce sl σ (pc + 3) lv (.int v :: st) z) : gz_W b p l e R s m args below meth c G nL QQ ce sl σ pc lv st z := fun o h H locs ls hH hS hl => lv_ldcw C.1 C.2.1 C.2.2.2.1 (C.word hw rfl) d (k o h H locs ls hH hS hl)
theorem gz_ldc2 (C : gz_X p s m meth c G cc own nL ret) {index : Nat} {v : Int64} (d : decode cc pc = .ok (.ldc2_w index, 3)) (hw : Jvm.Cond.constantLong own index v ∈ lw_tbl) (k : gz_W b p l e R s m args below meth c G nL QQ ce sl σ (pc + 3) lv (.long v :: st) z) : gz_W b p l e R s m args below meth c G nL QQ ce sl σ pc lv st z := fun o h H locs ls hH hS hl => lv_ldc2 C.1 C.2.1 C.2.2.2.1 (C.word hw rfl) d (k o h H locs ls hH hS hl)
theorem gz_iload_n (C : gz_X p s m meth c G cc own nL ret) {j : Fin 4} {x : Int32} (d : decode cc pc = .ok (.iload_n j, 1)) (q : Nat) (hq : lv[q]? = some ((j : Nat), .int x)) (k : gz_W b p l e R s m args below meth c G nL QQ ce sl σ (pc + 1) lv (.int x :: st) z) : gz_W b p l e R s m args below meth c G nL QQ ce sl σ pc lv st z := fun o h H locs ls hH hS hl => lv_iload_n C.1 C.2.1 d rfl (lv_at hl q hq) (k o h H locs ls hH hS hl)
theorem gz_iload (C : gz_X p s m meth c G cc own nL ret) {j : Nat} {x : Int32} (d : decode cc pc = .ok (.iload j, 2)) (q : Nat) (hq : lv[q]? = some (j, .int x)) (k : gz_W b p l e R s m args below meth c G nL QQ ce sl σ (pc + 2) lv (.int x :: st) z) : gz_W b p l e R s m args below meth c G nL QQ ce sl σ pc lv st z := fun o h H locs ls hH hS hl => lv_iload C.1 C.2.1 d (lv_at hl q hq) (k o h H locs ls hH hS hl)
theorem gz_lload_n (C : gz_X p s m meth c G cc own nL ret) {j : Fin 4} {x : Int64} (d : decode cc pc = .ok (.lload_n j, 1)) (q : Nat) (hq : lv[q]? = some ((j : Nat), .long x)) (k : gz_W b p l e R s m args below meth c G nL QQ ce sl σ (pc + 1) lv (.long x :: st) z) : gz_W b p l e R s m args below meth c G nL QQ ce sl σ pc lv st z := fun o h H locs ls hH hS hl => lv_lload_n C.1 C.2.1 d rfl (lv_at hl q hq) (k o h H locs ls hH hS hl)
theorem gz_lload (C : gz_X p s m meth c G cc own nL ret) {j : Nat} {x : Int64} (d : decode cc pc = .ok (.lload j, 2)) (q : Nat) (hq : lv[q]? = some (j, .long x)) (k : gz_W b p l e R s m args below meth c G nL QQ ce sl σ (pc + 2) lv (.long x :: st) z) : gz_W b p l e R s m args below meth c G nL QQ ce sl σ pc lv st z := fun o h H locs ls hH hS hl => lv_lload C.1 C.2.1 d (lv_at hl q hq) (k o h H locs ls hH hS hl)
theorem gz_aload_n (C : gz_X p s m meth c G cc own nL ret) {j : Fin 4} {x : Nat} (d : decode cc pc = .ok (.aload_n j, 1)) (q : Nat) (hq : lv[q]? = some ((j : Nat), .ref x)) (k : gz_W b p l e R s m args below meth c G nL QQ ce sl σ (pc + 1) lv (.ref x :: st) z) : gz_W b p l e R s m args below meth c G nL QQ ce sl σ pc lv st z := fun o h H locs ls hH hS hl => lv_aload_n C.1 C.2.1 d rfl (lv_at hl q hq) (k o h H locs ls hH hS hl)
theorem gz_aload (C : gz_X p s m meth c G cc own nL ret) {j : Nat} {x : Nat} (d : decode cc pc = .ok (.aload j, 2)) (q : Nat) (hq : lv[q]? = some (j, .ref x)) (k : gz_W b p l e R s m args below meth c G nL QQ ce sl σ (pc + 2) lv (.ref x :: st) z) : gz_W b p l e R s m args below meth c G nL QQ ce sl σ pc lv st z := fun o h H locs ls hH hS hl => lv_aload C.1 C.2.1 d (lv_at hl q hq) (k o h H locs ls hH hS hl)
theorem gz_istore_n (C : gz_X p s m meth c G cc own nL ret) {j : Fin 4} {x : Int32} {lv' : List (Nat × Value)} (d : decode cc pc = .ok (.istore_n j, 1)) (hn : (j : Nat) < nL) (hf : ((j : Nat), Value.int x) :: lv.filter (fun q => !(q.1 == (j : Nat)) && !(q.1 + 1 == (j : Nat) && q.2.category == 2)) = lv') (k : gz_W b p l e R s m args below meth c G nL QQ ce sl σ (pc + 1) lv' st z) : gz_W b p l e R s m args below meth c G nL QQ ce sl σ pc lv (.int x :: st) z := fun o h H locs ls hH hS hl => lv_istore_n C.1 C.2.1 d rfl hl hn hf (fun ls1 hl1 => k o h H locs ls1 hH hS hl1)
theorem gz_istore (C : gz_X p s m meth c G cc own nL ret) {j : Nat} {x : Int32} {lv' : List (Nat × Value)} (d : decode cc pc = .ok (.istore j, 2)) (hn : j < nL) (hf : (j, Value.int x) :: lv.filter (fun q => !(q.1 == j) && !(q.1 + 1 == j && q.2.category == 2)) = lv') (k : gz_W b p l e R s m args below meth c G nL QQ ce sl σ (pc + 2) lv' st z) : gz_W b p l e R s m args below meth c G nL QQ ce sl σ pc lv (.int x :: st) z := fun o h H locs ls hH hS hl => lv_istore C.1 C.2.1 d hl hn hf (fun ls1 hl1 => k o h H locs ls1 hH hS hl1)
theorem gz_lstore_n (C : gz_X p s m meth c G cc own nL ret) {j : Fin 4} {x : Int64} {lv' : List (Nat × Value)} (d : decode cc pc = .ok (.lstore_n j, 1)) (hn : (j : Nat) + 1 < nL) (hf : ((j : Nat), Value.long x) :: lv.filter (fun q => !(q.1 == (j : Nat)) && (!(q.1 == (j : Nat) + 1) && !(q.1 + 1 == (j : Nat) && q.2.category == 2))) = lv') (k : gz_W b p l e R s m args below meth c G nL QQ ce sl σ (pc + 1) lv' st z) : gz_W b p l e R s m args below meth c G nL QQ ce sl σ pc lv (.long x :: st) z := fun o h H locs ls hH hS hl => lv_lstore_n C.1 C.2.1 d rfl hl hn hf (fun ls1 hl1 => k o h H locs ls1 hH hS hl1)
theorem gz_lstore (C : gz_X p s m meth c G cc own nL ret) {j : Nat} {x : Int64} {lv' : List (Nat × Value)} (d : decode cc pc = .ok (.lstore j, 2)) (hn : j + 1 < nL) (hf : (j, Value.long x) :: lv.filter (fun q => !(q.1 == j) && (!(q.1 == j + 1) && !(q.1 + 1 == j && q.2.category == 2))) = lv') (k : gz_W b p l e R s m args below meth c G nL QQ ce sl σ (pc + 2) lv' st z) : gz_W b p l e R s m args below meth c G nL QQ ce sl σ pc lv (.long x :: st) z := fun o h H locs ls hH hS hl => lv_lstore C.1 C.2.1 d hl hn hf (fun ls1 hl1 => k o h H locs ls1 hH hS hl1)
theorem gz_astore_n (C : gz_X p s m meth c G cc own nL ret) {j : Fin 4} {x : Nat} {lv' : List (Nat × Value)} (d : decode cc pc = .ok (.astore_n j, 1)) (hn : (j : Nat) < nL) (hf : ((j : Nat), Value.ref x) :: lv.filter (fun q => !(q.1 == (j : Nat)) && !(q.1 + 1 == (j : Nat) && q.2.category == 2)) = lv') (k : gz_W b p l e R s m args below meth c G nL QQ ce sl σ (pc + 1) lv' st z) : gz_W b p l e R s m args below meth c G nL QQ ce sl σ pc lv (.ref x :: st) z := fun o h H locs ls hH hS hl => lv_astore_n C.1 C.2.1 d rfl hl hn hf (fun ls1 hl1 => k o h H locs ls1 hH hS hl1)
theorem gz_astore (C : gz_X p s m meth c G cc own nL ret) {j : Nat} {x : Nat} {lv' : List (Nat × Value)} (d : decode cc pc = .ok (.astore j, 2)) (hn : j < nL) (hf : (j, Value.ref x) :: lv.filter (fun q => !(q.1 == j) && !(q.1 + 1 == j && q.2.category == 2)) = lv') (k : gz_W b p l e R s m args below meth c G nL QQ ce sl σ (pc + 2) lv' st z) : gz_W b p l e R s m args below meth c G nL QQ ce sl σ pc lv (.ref x :: st) z := fun o h H locs ls hH hS hl => lv_astore C.1 C.2.1 d hl hn hf (fun ls1 hl1 => k o h H locs ls1 hH hS hl1)
theorem gz_iinc (C : gz_X p s m meth c G cc own nL ret) {j q : Nat} {n : Int} {x v : Int32} {lv' : List (Nat × Value)} (d : decode cc pc = .ok (.iinc j n, 3)) (hq : lv[q]? = some (j, .int x)) (hv : x + Int32.ofInt n = v) (hn : j < nL) (hf : (j, Value.int v) :: lv.filter (fun q => !(q.1 == j) && !(q.1 + 1 == j && q.2.category == 2)) = lv') (k : gz_W b p l e R s m args below meth c G nL QQ ce sl σ (pc + 3) lv' st z) : gz_W b p l e R s m args below meth c G nL QQ ce sl σ pc lv st z := fun o h H locs ls hH hS hl => lv_iinc C.1 C.2.1 d hl hq hv hn hf (fun ls1 hl1 => k o h H locs ls1 hH hS hl1)
theorem gz_iadd (C : gz_X p s m meth c G cc own nL ret) {x y : Int32} (d : decode cc pc = .ok (.iadd, 1)) (k : gz_W b p l e R s m args below meth c G nL QQ ce sl σ (pc + 1) lv (.int (x + y) :: st) z) : gz_W b p l e R s m args below meth c G nL QQ ce sl σ pc lv (.int y :: .int x :: st) z := fun o h H locs ls hH hS hl => lv_iadd C.1 C.2.1 d (k o h H locs ls hH hS hl)
theorem gz_isub (C : gz_X p s m meth c G cc own nL ret) {x y : Int32} (d : decode cc pc = .ok (.isub, 1)) (k : gz_W b p l e R s m args below meth c G nL QQ ce sl σ (pc + 1) lv (.int (x - y) :: st) z) : gz_W b p l e R s m args below meth c G nL QQ ce sl σ pc lv (.int y :: .int x :: st) z := fun o h H locs ls hH hS hl => lv_isub C.1 C.2.1 d (k o h H locs ls hH hS hl)
theorem gz_imul (C : gz_X p s m meth c G cc own nL ret) {x y : Int32} (d : decode cc pc = .ok (.imul, 1)) (k : gz_W b p l e R s m args below meth c G nL QQ ce sl σ (pc + 1) lv (.int (x * y) :: st) z) : gz_W b p l e R s m args below meth c G nL QQ ce sl σ pc lv (.int y :: .int x :: st) z := fun o h H locs ls hH hS hl => lv_imul C.1 C.2.1 d (k o h H locs ls hH hS hl)
theorem gz_iand (C : gz_X p s m meth c G cc own nL ret) {x y : Int32} (d : decode cc pc = .ok (.iand, 1)) (k : gz_W b p l e R s m args below meth c G nL QQ ce sl σ (pc + 1) lv (.int (x &&& y) :: st) z) : gz_W b p l e R s m args below meth c G nL QQ ce sl σ pc lv (.int y :: .int x :: st) z := fun o h H locs ls hH hS hl => lv_iand C.1 C.2.1 d (k o h H locs ls hH hS hl)
theorem gz_ior (C : gz_X p s m meth c G cc own nL ret) {x y : Int32} (d : decode cc pc = .ok (.ior, 1)) (k : gz_W b p l e R s m args below meth c G nL QQ ce sl σ (pc + 1) lv (.int (x ||| y) :: st) z) : gz_W b p l e R s m args below meth c G nL QQ ce sl σ pc lv (.int y :: .int x :: st) z := fun o h H locs ls hH hS hl => lv_ior C.1 C.2.1 d (k o h H locs ls hH hS hl)
theorem gz_ixor (C : gz_X p s m meth c G cc own nL ret) {x y : Int32} (d : decode cc pc = .ok (.ixor, 1)) (k : gz_W b p l e R s m args below meth c G nL QQ ce sl σ (pc + 1) lv (.int (x ^^^ y) :: st) z) : gz_W b p l e R s m args below meth c G nL QQ ce sl σ pc lv (.int y :: .int x :: st) z := fun o h H locs ls hH hS hl => lv_ixor C.1 C.2.1 d (k o h H locs ls hH hS hl)
theorem gz_ladd (C : gz_X p s m meth c G cc own nL ret) {x y : Int64} (d : decode cc pc = .ok (.ladd, 1)) (k : gz_W b p l e R s m args below meth c G nL QQ ce sl σ (pc + 1) lv (.long (x + y) :: st) z) : gz_W b p l e R s m args below meth c G nL QQ ce sl σ pc lv (.long y :: .long x :: st) z := fun o h H locs ls hH hS hl => lv_ladd C.1 C.2.1 d (k o h H locs ls hH hS hl)
theorem gz_lsub (C : gz_X p s m meth c G cc own nL ret) {x y : Int64} (d : decode cc pc = .ok (.lsub, 1)) (k : gz_W b p l e R s m args below meth c G nL QQ ce sl σ (pc + 1) lv (.long (x - y) :: st) z) : gz_W b p l e R s m args below meth c G nL QQ ce sl σ pc lv (.long y :: .long x :: st) z := fun o h H locs ls hH hS hl => lv_lsub C.1 C.2.1 d (k o h H locs ls hH hS hl)
theorem gz_lmul (C : gz_X p s m meth c G cc own nL ret) {x y : Int64} (d : decode cc pc = .ok (.lmul, 1)) (k : gz_W b p l e R s m args below meth c G nL QQ ce sl σ (pc + 1) lv (.long (x * y) :: st) z) : gz_W b p l e R s m args below meth c G nL QQ ce sl σ pc lv (.long y :: .long x :: st) z := fun o h H locs ls hH hS hl => lv_lmul C.1 C.2.1 d (k o h H locs ls hH hS hl)
theorem gz_land (C : gz_X p s m meth c G cc own nL ret) {x y : Int64} (d : decode cc pc = .ok (.land, 1)) (k : gz_W b p l e R s m args below meth c G nL QQ ce sl σ (pc + 1) lv (.long (x &&& y) :: st) z) : gz_W b p l e R s m args below meth c G nL QQ ce sl σ pc lv (.long y :: .long x :: st) z := fun o h H locs ls hH hS hl => lv_land C.1 C.2.1 d (k o h H locs ls hH hS hl)
theorem gz_lor (C : gz_X p s m meth c G cc own nL ret) {x y : Int64} (d : decode cc pc = .ok (.lor, 1)) (k : gz_W b p l e R s m args below meth c G nL QQ ce sl σ (pc + 1) lv (.long (x ||| y) :: st) z) : gz_W b p l e R s m args below meth c G nL QQ ce sl σ pc lv (.long y :: .long x :: st) z := fun o h H locs ls hH hS hl => lv_lor C.1 C.2.1 d (k o h H locs ls hH hS hl)
theorem gz_lxor (C : gz_X p s m meth c G cc own nL ret) {x y : Int64} (d : decode cc pc = .ok (.lxor, 1)) (k : gz_W b p l e R s m args below meth c G nL QQ ce sl σ (pc + 1) lv (.long (x ^^^ y) :: st) z) : gz_W b p l e R s m args below meth c G nL QQ ce sl σ pc lv (.long y :: .long x :: st) z := fun o h H locs ls hH hS hl => lv_lxor C.1 C.2.1 d (k o h H locs ls hH hS hl)
theorem gz_idiv (C : gz_X p s m meth c G cc own nL ret) {x y : Int32} (d : decode cc pc = .ok (.idiv, 1)) (hne : ¬ y = 0) (k : gz_W b p l e R s m args below meth c G nL QQ ce sl σ (pc + 1) lv (.int (x / y) :: st) z) : gz_W b p l e R s m args below meth c G nL QQ ce sl σ pc lv (.int y :: .int x :: st) z := fun o h H locs ls hH hS hl => lv_idiv C.1 C.2.1 d hne (k o h H locs ls hH hS hl)
theorem gz_irem (C : gz_X p s m meth c G cc own nL ret) {x y : Int32} (d : decode cc pc = .ok (.irem, 1)) (hne : ¬ y = 0) (k : gz_W b p l e R s m args below meth c G nL QQ ce sl σ (pc + 1) lv (.int (gz_rem x y) :: st) z) : gz_W b p l e R s m args below meth c G nL QQ ce sl σ pc lv (.int y :: .int x :: st) z := fun o h H locs ls hH hS hl => lv_irem C.1 C.2.1 d hne (k o h H locs ls hH hS hl)
theorem gz_ishl (C : gz_X p s m meth c G cc own nL ret) {x y : Int32} (d : decode cc pc = .ok (.ishl, 1)) (k : gz_W b p l e R s m args below meth c G nL QQ ce sl σ (pc + 1) lv (.int (x <<< (y &&& 31)) :: st) z) : gz_W b p l e R s m args below meth c G nL QQ ce sl σ pc lv (.int y :: .int x :: st) z := fun o h H locs ls hH hS hl => lv_ishl C.1 C.2.1 d (k o h H locs ls hH hS hl)
theorem gz_ishr (C : gz_X p s m meth c G cc own nL ret) {x y : Int32} (d : decode cc pc = .ok (.ishr, 1)) (k : gz_W b p l e R s m args below meth c G nL QQ ce sl σ (pc + 1) lv (.int (x >>> (y &&& 31)) :: st) z) : gz_W b p l e R s m args below meth c G nL QQ ce sl σ pc lv (.int y :: .int x :: st) z := fun o h H locs ls hH hS hl => lv_ishr C.1 C.2.1 d (k o h H locs ls hH hS hl)
theorem gz_lshl (C : gz_X p s m meth c G cc own nL ret) {x : Int64} {y : Int32} (d : decode cc pc = .ok (.lshl, 1)) (k : gz_W b p l e R s m args below meth c G nL QQ ce sl σ (pc + 1) lv (.long (x <<< (y.toInt64 &&& 63)) :: st) z) : gz_W b p l e R s m args below meth c G nL QQ ce sl σ pc lv (.int y :: .long x :: st) z := fun o h H locs ls hH hS hl => lv_lshl C.1 C.2.1 d rfl (k o h H locs ls hH hS hl)
theorem gz_lshr (C : gz_X p s m meth c G cc own nL ret) {x : Int64} {y : Int32} (d : decode cc pc = .ok (.lshr, 1)) (k : gz_W b p l e R s m args below meth c G nL QQ ce sl σ (pc + 1) lv (.long (x >>> (y.toInt64 &&& 63)) :: st) z) : gz_W b p l e R s m args below meth c G nL QQ ce sl σ pc lv (.int y :: .long x :: st) z := fun o h H locs ls hH hS hl => lv_lshr C.1 C.2.1 d rfl (k o h H locs ls hH hS hl)
theorem gz_lushr (C : gz_X p s m meth c G cc own nL ret) {x : Int64} {y : Int32} (d : decode cc pc = .ok (.lushr, 1)) (k : gz_W b p l e R s m args below meth c G nL QQ ce sl σ (pc + 1) lv (.long (x.toUInt64 >>> (y.toInt64.toUInt64 &&& Int64.toUInt64 63)).toInt64 :: st) z) : gz_W b p l e R s m args below meth c G nL QQ ce sl σ pc lv (.int y :: .long x :: st) z := fun o h H locs ls hH hS hl => lv_lushr C.1 C.2.1 d rfl (k o h H locs ls hH hS hl)
theorem gz_i2l (C : gz_X p s m meth c G cc own nL ret) {x : Int32} (d : decode cc pc = .ok (.i2l, 1)) (k : gz_W b p l e R s m args below meth c G nL QQ ce sl σ (pc + 1) lv (.long x.toInt64 :: st) z) : gz_W b p l e R s m args below meth c G nL QQ ce sl σ pc lv (.int x :: st) z := fun o h H locs ls hH hS hl => lv_i2l C.1 C.2.1 d rfl (k o h H locs ls hH hS hl)
theorem gz_l2i (C : gz_X p s m meth c G cc own nL ret) {x : Int64} (d : decode cc pc = .ok (.l2i, 1)) (k : gz_W b p l e R s m args below meth c G nL QQ ce sl σ (pc + 1) lv (.int x.toInt32 :: st) z) : gz_W b p l e R s m args below meth c G nL QQ ce sl σ pc lv (.long x :: st) z := fun o h H locs ls hH hS hl => lv_l2i C.1 C.2.1 d rfl (k o h H locs ls hH hS hl)
theorem gz_i2b (C : gz_X p s m meth c G cc own nL ret) {x : Int32} (d : decode cc pc = .ok (.i2b, 1)) (k : gz_W b p l e R s m args below meth c G nL QQ ce sl σ (pc + 1) lv (.int x.toInt8.toInt32 :: st) z) : gz_W b p l e R s m args below meth c G nL QQ ce sl σ pc lv (.int x :: st) z := fun o h H locs ls hH hS hl => lv_i2b C.1 C.2.1 d rfl (k o h H locs ls hH hS hl)
theorem gz_i2c (C : gz_X p s m meth c G cc own nL ret) {x : Int32} (d : decode cc pc = .ok (.i2c, 1)) (k : gz_W b p l e R s m args below meth c G nL QQ ce sl σ (pc + 1) lv (.int (x.toUInt32 % 65536).toInt32 :: st) z) : gz_W b p l e R s m args below meth c G nL QQ ce sl σ pc lv (.int x :: st) z := fun o h H locs ls hH hS hl => lv_i2c C.1 C.2.1 d rfl (k o h H locs ls hH hS hl)
theorem gz_lcmp (C : gz_X p s m meth c G cc own nL ret) {x y : Int64} (d : decode cc pc = .ok (.lcmp, 1)) (k : gz_W b p l e R s m args below meth c G nL QQ ce sl σ (pc + 1) lv (.int (lg_cmp x y) :: st) z) : gz_W b p l e R s m args below meth c G nL QQ ce sl σ pc lv (.long y :: .long x :: st) z := fun o h H locs ls hH hS hl => W.lcmp C.1 C.2.1 d (k o h H locs ls hH hS hl)
theorem gz_dup (C : gz_X p s m meth c G cc own nL ret) {va : Value} (d : decode cc pc = .ok (.dup, 1)) (hva : va.category = 1) (k : gz_W b p l e R s m args below meth c G nL QQ ce sl σ (pc + 1) lv (va :: va :: st) z) : gz_W b p l e R s m args below meth c G nL QQ ce sl σ pc lv (va :: st) z := fun o h H locs ls hH hS hl => lv_dup C.1 C.2.1 d hva (k o h H locs ls hH hS hl)
theorem gz_pop (C : gz_X p s m meth c G cc own nL ret) {va : Value} (d : decode cc pc = .ok (.pop, 1)) (hva : va.category = 1) (k : gz_W b p l e R s m args below meth c G nL QQ ce sl σ (pc + 1) lv st z) : gz_W b p l e R s m args below meth c G nL QQ ce sl σ pc lv (va :: st) z := fun o h H locs ls hH hS hl => lv_pop C.1 C.2.1 d hva (k o h H locs ls hH hS hl)
theorem gz_dup2 (C : gz_X p s m meth c G cc own nL ret) {va vb : Value} (d : decode cc pc = .ok (.dup2, 1)) (hva : va.category = 1) (hvb : vb.category = 1) (k : gz_W b p l e R s m args below meth c G nL QQ ce sl σ (pc + 1) lv (va :: vb :: va :: vb :: st) z) : gz_W b p l e R s m args below meth c G nL QQ ce sl σ pc lv (va :: vb :: st) z := fun o h H locs ls hH hS hl => lv_dup2_11 C.1 C.2.1 d hva hvb (k o h H locs ls hH hS hl)
theorem gz_null (C : gz_X p s m meth c G cc own nL ret) (d : decode cc pc = .ok (.aconst_null, 1)) (k : gz_W b p l e R s m args below meth c G nL QQ ce sl σ (pc + 1) lv (.null :: st) z) : gz_W b p l e R s m args below meth c G nL QQ ce sl σ pc lv st z := fun o h H locs ls hH hS hl => lv_null C.1 C.2.1 d (k o h H locs ls hH hS hl)
theorem gz_aloadV_n (C : gz_X p s m meth c G cc own nL ret) {j : Fin 4} {v : Value} (d : decode cc pc = .ok (.aload_n j, 1)) (q : Nat) (hq : lv[q]? = some ((j : Nat), v)) (hv : v = .null ∨ ∃ a, v = .ref a) (k : gz_W b p l e R s m args below meth c G nL QQ ce sl σ (pc + 1) lv (v :: st) z) : gz_W b p l e R s m args below meth c G nL QQ ce sl σ pc lv st z := fun o h H locs ls hH hS hl => by
  rcases hv with rfl | ⟨a, rfl⟩
  · exact lv_aload_nN C.1 C.2.1 d rfl (lv_at hl q hq) (k o h H locs ls hH hS hl)
  · exact lv_aload_n C.1 C.2.1 d rfl (lv_at hl q hq) (k o h H locs ls hH hS hl)
theorem gz_aloadV (C : gz_X p s m meth c G cc own nL ret) {j : Nat} {v : Value} (d : decode cc pc = .ok (.aload j, 2)) (q : Nat) (hq : lv[q]? = some (j, v)) (hv : v = .null ∨ ∃ a, v = .ref a) (k : gz_W b p l e R s m args below meth c G nL QQ ce sl σ (pc + 2) lv (v :: st) z) : gz_W b p l e R s m args below meth c G nL QQ ce sl σ pc lv st z := fun o h H locs ls hH hS hl => by
  rcases hv with rfl | ⟨a, rfl⟩
  · exact lv_aloadN C.1 C.2.1 d (lv_at hl q hq) (k o h H locs ls hH hS hl)
  · exact lv_aload C.1 C.2.1 d (lv_at hl q hq) (k o h H locs ls hH hS hl)
theorem gz_astoreV_n (C : gz_X p s m meth c G cc own nL ret) {j : Fin 4} {v : Value} {lv' : List (Nat × Value)} (d : decode cc pc = .ok (.astore_n j, 1)) (hn : (j : Nat) < nL) (hf : ((j : Nat), v) :: lv.filter (fun q => !(q.1 == (j : Nat)) && !(q.1 + 1 == (j : Nat) && q.2.category == 2)) = lv') (hv : v = .null ∨ ∃ a, v = .ref a) (k : gz_W b p l e R s m args below meth c G nL QQ ce sl σ (pc + 1) lv' st z) : gz_W b p l e R s m args below meth c G nL QQ ce sl σ pc lv (v :: st) z := fun o h H locs ls hH hS hl => by
  rcases hv with rfl | ⟨a, rfl⟩
  · exact lv_astore_nN C.1 C.2.1 d rfl hl hn hf (fun ls1 hl1 => k o h H locs ls1 hH hS hl1)
  · exact lv_astore_n C.1 C.2.1 d rfl hl hn hf (fun ls1 hl1 => k o h H locs ls1 hH hS hl1)
theorem gz_astoreV (C : gz_X p s m meth c G cc own nL ret) {j : Nat} {v : Value} {lv' : List (Nat × Value)} (d : decode cc pc = .ok (.astore j, 2)) (hn : j < nL) (hf : (j, v) :: lv.filter (fun q => !(q.1 == j) && !(q.1 + 1 == j && q.2.category == 2)) = lv') (hv : v = .null ∨ ∃ a, v = .ref a) (k : gz_W b p l e R s m args below meth c G nL QQ ce sl σ (pc + 2) lv' st z) : gz_W b p l e R s m args below meth c G nL QQ ce sl σ pc lv (v :: st) z := fun o h H locs ls hH hS hl => by
  rcases hv with rfl | ⟨a, rfl⟩
  · exact lv_astoreN C.1 C.2.1 d hl hn hf (fun ls1 hl1 => k o h H locs ls1 hH hS hl1)
  · exact lv_astore C.1 C.2.1 d hl hn hf (fun ls1 hl1 => k o h H locs ls1 hH hS hl1)
theorem gz_rv_or (b : Bool) (G : gz_G) (t : Nat) (r : Option Nat) : gz_rv b G t r = .null ∨ ∃ a, gz_rv b G t r = .ref a := va_rf_or _
theorem gz_goto (C : gz_X p s m meth c G cc own nL ret) {off : Int} {tgt : Nat} (d : decode cc pc = .ok (.goto off, 3)) (ht : (pc : Int) + off = (tgt : Int)) (k : gz_W b p l e R s m args below meth c G nL QQ ce sl σ tgt lv st z) : gz_W b p l e R s m args below meth c G nL QQ ce sl σ pc lv st z := fun o h H locs ls hH hS hl => lv_goto C.1 C.2.1 d ht (k o h H locs ls hH hS hl)
theorem gz_if_eq (C : gz_X p s m meth c G cc own nL ret) {x : Int32} {off : Int} {tgt : Nat} (d : decode cc pc = .ok (.ifCond .eq off, 3)) (ht : (pc : Int) + off = (tgt : Int)) (k1 : gz_W b p l e R s m args below meth c G nL QQ ce sl σ tgt lv st z1) (k2 : gz_W b p l e R s m args below meth c G nL QQ ce sl σ (pc + 3) lv st z2) : gz_W b p l e R s m args below meth c G nL QQ ce sl σ pc lv (.int x :: st) (if x = 0 then z1 else z2) := fun o h H locs ls hH hS hl => lv_if_eq C.1 C.2.1 d ht (fun q => k1 o (by rw [if_pos q] at h; exact h) H locs ls hH hS hl) (fun q => k2 o (by rw [if_neg q] at h; exact h) H locs ls hH hS hl)
theorem gz_icmp_eq (C : gz_X p s m meth c G cc own nL ret) {x y : Int32} {off : Int} {tgt : Nat} (d : decode cc pc = .ok (.if_icmp .eq off, 3)) (ht : (pc : Int) + off = (tgt : Int)) (k1 : gz_W b p l e R s m args below meth c G nL QQ ce sl σ tgt lv st z1) (k2 : gz_W b p l e R s m args below meth c G nL QQ ce sl σ (pc + 3) lv st z2) : gz_W b p l e R s m args below meth c G nL QQ ce sl σ pc lv (.int y :: .int x :: st) (if x = y then z1 else z2) := fun o h H locs ls hH hS hl => lv_icmp_eq C.1 C.2.1 d ht (fun q => k1 o (by rw [if_pos q] at h; exact h) H locs ls hH hS hl) (fun q => k2 o (by rw [if_neg q] at h; exact h) H locs ls hH hS hl)
theorem gz_if_ne (C : gz_X p s m meth c G cc own nL ret) {x : Int32} {off : Int} {tgt : Nat} (d : decode cc pc = .ok (.ifCond .ne off, 3)) (ht : (pc : Int) + off = (tgt : Int)) (k1 : gz_W b p l e R s m args below meth c G nL QQ ce sl σ tgt lv st z1) (k2 : gz_W b p l e R s m args below meth c G nL QQ ce sl σ (pc + 3) lv st z2) : gz_W b p l e R s m args below meth c G nL QQ ce sl σ pc lv (.int x :: st) (if x = 0 then z2 else z1) := fun o h H locs ls hH hS hl => lv_if_ne C.1 C.2.1 d ht (fun q => k1 o (by rw [if_neg q] at h; exact h) H locs ls hH hS hl) (fun q => k2 o (by rw [if_pos q] at h; exact h) H locs ls hH hS hl)
theorem gz_icmp_ne (C : gz_X p s m meth c G cc own nL ret) {x y : Int32} {off : Int} {tgt : Nat} (d : decode cc pc = .ok (.if_icmp .ne off, 3)) (ht : (pc : Int) + off = (tgt : Int)) (k1 : gz_W b p l e R s m args below meth c G nL QQ ce sl σ tgt lv st z1) (k2 : gz_W b p l e R s m args below meth c G nL QQ ce sl σ (pc + 3) lv st z2) : gz_W b p l e R s m args below meth c G nL QQ ce sl σ pc lv (.int y :: .int x :: st) (if x = y then z2 else z1) := fun o h H locs ls hH hS hl => lv_icmp_ne C.1 C.2.1 d ht (fun q => k1 o (by rw [if_neg q] at h; exact h) H locs ls hH hS hl) (fun q => k2 o (by rw [if_pos q] at h; exact h) H locs ls hH hS hl)
theorem gz_if_lt (C : gz_X p s m meth c G cc own nL ret) {x : Int32} {off : Int} {tgt : Nat} (d : decode cc pc = .ok (.ifCond .lt off, 3)) (ht : (pc : Int) + off = (tgt : Int)) (k1 : gz_W b p l e R s m args below meth c G nL QQ ce sl σ tgt lv st z1) (k2 : gz_W b p l e R s m args below meth c G nL QQ ce sl σ (pc + 3) lv st z2) : gz_W b p l e R s m args below meth c G nL QQ ce sl σ pc lv (.int x :: st) (if x < 0 then z1 else z2) := fun o h H locs ls hH hS hl => lv_if_lt C.1 C.2.1 d ht (fun q => k1 o (by rw [if_pos q] at h; exact h) H locs ls hH hS hl) (fun q => k2 o (by rw [if_neg q] at h; exact h) H locs ls hH hS hl)
theorem gz_icmp_lt (C : gz_X p s m meth c G cc own nL ret) {x y : Int32} {off : Int} {tgt : Nat} (d : decode cc pc = .ok (.if_icmp .lt off, 3)) (ht : (pc : Int) + off = (tgt : Int)) (k1 : gz_W b p l e R s m args below meth c G nL QQ ce sl σ tgt lv st z1) (k2 : gz_W b p l e R s m args below meth c G nL QQ ce sl σ (pc + 3) lv st z2) : gz_W b p l e R s m args below meth c G nL QQ ce sl σ pc lv (.int y :: .int x :: st) (if x < y then z1 else z2) := fun o h H locs ls hH hS hl => lv_icmp_lt C.1 C.2.1 d ht (fun q => k1 o (by rw [if_pos q] at h; exact h) H locs ls hH hS hl) (fun q => k2 o (by rw [if_neg q] at h; exact h) H locs ls hH hS hl)
theorem gz_if_ge (C : gz_X p s m meth c G cc own nL ret) {x : Int32} {off : Int} {tgt : Nat} (d : decode cc pc = .ok (.ifCond .ge off, 3)) (ht : (pc : Int) + off = (tgt : Int)) (k1 : gz_W b p l e R s m args below meth c G nL QQ ce sl σ tgt lv st z1) (k2 : gz_W b p l e R s m args below meth c G nL QQ ce sl σ (pc + 3) lv st z2) : gz_W b p l e R s m args below meth c G nL QQ ce sl σ pc lv (.int x :: st) (if 0 ≤ x then z1 else z2) := fun o h H locs ls hH hS hl => lv_if_ge C.1 C.2.1 d ht (fun q => k1 o (by rw [if_pos q] at h; exact h) H locs ls hH hS hl) (fun q => k2 o (by rw [if_neg q] at h; exact h) H locs ls hH hS hl)
theorem gz_icmp_ge (C : gz_X p s m meth c G cc own nL ret) {x y : Int32} {off : Int} {tgt : Nat} (d : decode cc pc = .ok (.if_icmp .ge off, 3)) (ht : (pc : Int) + off = (tgt : Int)) (k1 : gz_W b p l e R s m args below meth c G nL QQ ce sl σ tgt lv st z1) (k2 : gz_W b p l e R s m args below meth c G nL QQ ce sl σ (pc + 3) lv st z2) : gz_W b p l e R s m args below meth c G nL QQ ce sl σ pc lv (.int y :: .int x :: st) (if y ≤ x then z1 else z2) := fun o h H locs ls hH hS hl => lv_icmp_ge C.1 C.2.1 d ht (fun q => k1 o (by rw [if_pos q] at h; exact h) H locs ls hH hS hl) (fun q => k2 o (by rw [if_neg q] at h; exact h) H locs ls hH hS hl)
theorem gz_if_gt (C : gz_X p s m meth c G cc own nL ret) {x : Int32} {off : Int} {tgt : Nat} (d : decode cc pc = .ok (.ifCond .gt off, 3)) (ht : (pc : Int) + off = (tgt : Int)) (k1 : gz_W b p l e R s m args below meth c G nL QQ ce sl σ tgt lv st z1) (k2 : gz_W b p l e R s m args below meth c G nL QQ ce sl σ (pc + 3) lv st z2) : gz_W b p l e R s m args below meth c G nL QQ ce sl σ pc lv (.int x :: st) (if 0 < x then z1 else z2) := fun o h H locs ls hH hS hl => lv_if_gt C.1 C.2.1 d ht (fun q => k1 o (by rw [if_pos q] at h; exact h) H locs ls hH hS hl) (fun q => k2 o (by rw [if_neg q] at h; exact h) H locs ls hH hS hl)
theorem gz_icmp_gt (C : gz_X p s m meth c G cc own nL ret) {x y : Int32} {off : Int} {tgt : Nat} (d : decode cc pc = .ok (.if_icmp .gt off, 3)) (ht : (pc : Int) + off = (tgt : Int)) (k1 : gz_W b p l e R s m args below meth c G nL QQ ce sl σ tgt lv st z1) (k2 : gz_W b p l e R s m args below meth c G nL QQ ce sl σ (pc + 3) lv st z2) : gz_W b p l e R s m args below meth c G nL QQ ce sl σ pc lv (.int y :: .int x :: st) (if y < x then z1 else z2) := fun o h H locs ls hH hS hl => lv_icmp_gt C.1 C.2.1 d ht (fun q => k1 o (by rw [if_pos q] at h; exact h) H locs ls hH hS hl) (fun q => k2 o (by rw [if_neg q] at h; exact h) H locs ls hH hS hl)
theorem gz_if_le (C : gz_X p s m meth c G cc own nL ret) {x : Int32} {off : Int} {tgt : Nat} (d : decode cc pc = .ok (.ifCond .le off, 3)) (ht : (pc : Int) + off = (tgt : Int)) (k1 : gz_W b p l e R s m args below meth c G nL QQ ce sl σ tgt lv st z1) (k2 : gz_W b p l e R s m args below meth c G nL QQ ce sl σ (pc + 3) lv st z2) : gz_W b p l e R s m args below meth c G nL QQ ce sl σ pc lv (.int x :: st) (if x ≤ 0 then z1 else z2) := fun o h H locs ls hH hS hl => lv_if_le C.1 C.2.1 d ht (fun q => k1 o (by rw [if_pos q] at h; exact h) H locs ls hH hS hl) (fun q => k2 o (by rw [if_neg q] at h; exact h) H locs ls hH hS hl)
theorem gz_icmp_le (C : gz_X p s m meth c G cc own nL ret) {x y : Int32} {off : Int} {tgt : Nat} (d : decode cc pc = .ok (.if_icmp .le off, 3)) (ht : (pc : Int) + off = (tgt : Int)) (k1 : gz_W b p l e R s m args below meth c G nL QQ ce sl σ tgt lv st z1) (k2 : gz_W b p l e R s m args below meth c G nL QQ ce sl σ (pc + 3) lv st z2) : gz_W b p l e R s m args below meth c G nL QQ ce sl σ pc lv (.int y :: .int x :: st) (if x ≤ y then z1 else z2) := fun o h H locs ls hH hS hl => lv_icmp_le C.1 C.2.1 d ht (fun q => k1 o (by rw [if_pos q] at h; exact h) H locs ls hH hS hl) (fun q => k2 o (by rw [if_neg q] at h; exact h) H locs ls hH hS hl)
theorem gz_ifnull (C : gz_X p s m meth c G cc own nL ret) {t N : Nat} {r : Option Nat} {off : Int} {tgt : Nat} {f : Nat → Option α} (d : decode cc pc = .ok (.ifnull off, 3)) (ht : (pc : Int) + off = (tgt : Int)) (k1 : r = none → gz_W b p l e R s m args below meth c G nL QQ ce sl σ tgt lv st z1) (k2 : ∀ i, i < N → r = some i → gz_W b p l e R s m args below meth c G nL QQ ce sl σ (pc + 3) lv st (f i)) : gz_W b p l e R s m args below meth c G nL QQ ce sl σ pc lv (gz_rv b G t r :: st) (gz_nl r N z1 f) := by
  intro o h H locs ls hH hS hl
  cases r with
  | none => exact lv_ifnullN C.1 C.2.1 d ht (k1 rfl o h H locs ls hH hS hl)
  | some i =>
    simp only [gz_nl] at h
    split at h
    · rename_i hi
      exact lv_ifnull C.1 C.2.1 d (k2 i hi rfl o h H locs ls hH hS hl)
    · cases h
theorem gz_ifnonnull (C : gz_X p s m meth c G cc own nL ret) {t N : Nat} {r : Option Nat} {off : Int} {tgt : Nat} {f : Nat → Option α} (d : decode cc pc = .ok (.ifnonnull off, 3)) (ht : (pc : Int) + off = (tgt : Int)) (k1 : r = none → gz_W b p l e R s m args below meth c G nL QQ ce sl σ (pc + 3) lv st z1) (k2 : ∀ i, i < N → r = some i → gz_W b p l e R s m args below meth c G nL QQ ce sl σ tgt lv st (f i)) : gz_W b p l e R s m args below meth c G nL QQ ce sl σ pc lv (gz_rv b G t r :: st) (gz_nl r N z1 f) := by
  intro o h H locs ls hH hS hl
  cases r with
  | none => exact lv_ifnonnullN C.1 C.2.1 d (k1 rfl o h H locs ls hH hS hl)
  | some i =>
    simp only [gz_nl] at h
    split at h
    · rename_i hi
      exact lv_ifnonnull C.1 C.2.1 d ht (k2 i hi rfl o h H locs ls hH hS hl)
    · cases h
theorem gz_nn {N : Nat} {r : Option Nat} {f : Nat → Option α} (k2 : ∀ i, i < N → r = some i → gz_W b p l e R s m args below meth c G nL QQ ce sl σ pc lv st (f i)) : gz_W b p l e R s m args below meth c G nL QQ ce sl σ pc lv st (gz_nl r N none f) := by
  intro o h H locs ls hH hS hl
  cases r with
  | none => cases h
  | some i =>
    simp only [gz_nl] at h
    split at h
    · rename_i hi
      exact k2 i hi rfl o h H locs ls hH hS hl
    · cases h
theorem gz_case {x : Int32} (v : Int32) (k1 : x = v → gz_W b p l e R s m args below meth c G nL QQ ce sl σ pc lv (.int x :: st) z1) (k2 : ¬ x = v → gz_W b p l e R s m args below meth c G nL QQ ce sl σ pc lv (.int x :: st) z2) : gz_W b p l e R s m args below meth c G nL QQ ce sl σ pc lv (.int x :: st) (if x = v then z1 else z2) := by
  intro o h H locs ls hH hS hl
  by_cases q : x = v
  · rw [if_pos q] at h; exact k1 q o h H locs ls hH hS hl
  · rw [if_neg q] at h; exact k2 q o h H locs ls hH hS hl
theorem gz_tin (C : gz_X p s m meth c G cc own nL ret) {dflt lo hi : Int} {offs : Array Int} {len : Nat} {x : Int32} {off : Int} {tgt : Nat} (d : decode cc pc = .ok (.tableswitch dflt lo hi offs, len)) (h1 : ¬ x.toInt < lo) (h2 : ¬ hi < x.toInt) (ho : offs[(x.toInt - lo).toNat]? = some off) (ht : (pc : Int) + off = (tgt : Int)) (k : gz_W b p l e R s m args below meth c G nL QQ ce sl σ tgt lv st z) : gz_W b p l e R s m args below meth c G nL QQ ce sl σ pc lv (.int x :: st) z := fun o h H locs ls hH hS hl => lv_tableIn C.1 C.2.1 d h1 h2 ho ht (k o h H locs ls hH hS hl)
theorem gz_tout (C : gz_X p s m meth c G cc own nL ret) {dflt lo hi : Int} {offs : Array Int} {len : Nat} {x : Int32} {tgt : Nat} (d : decode cc pc = .ok (.tableswitch dflt lo hi offs, len)) (hx : x.toInt < lo ∨ hi < x.toInt) (ht : (pc : Int) + dflt = (tgt : Int)) (k : gz_W b p l e R s m args below meth c G nL QQ ce sl σ tgt lv st z) : gz_W b p l e R s m args below meth c G nL QQ ce sl σ pc lv (.int x :: st) z := fun o h H locs ls hH hS hl => lv_tableOut C.1 C.2.1 d hx ht (k o h H locs ls hH hS hl)
theorem gz_obj {ci t i : Nat} {q : vw_C} {H : Heap} (hH : gz_H b G σ H) (hi : i < gz_ct b σ.2.2 t) (hkd : gz_kd b t = .inl (ci, q.2.2)) : t_OB (gz_ad b G t i) (G.2.1 ci) q.2.2 (G.2.2.1 ci) H (gz_fv b G σ t i) := by
  have hc := hH.1 t i hi
  rw [hkd] at hc
  exact hc
theorem gz_arr {ek len t i : Nat} {H : Heap} (hH : gz_H b G σ H) (hi : i < gz_ct b σ.2.2 t) (hkd : gz_kd b t = .inr (ek, len)) : H[gz_ad b G t i]? = some (arrV (G.2.2.2.1 ek) len (gz_ev b G σ t i ek)) := by
  have hc := hH.1 t i hi
  rw [hkd] at hc
  exact hc
theorem gz_lays (C : gz_X p s m meth c G cc own nL ret) {ci : Nat} {q : vw_C} (hq : vwCl[ci]? = some q) : ∀ w ∈ u_ws q.1 q.2.1 q.2.2, w.before args s = true := fun w hw => C.word ((gz_cls ci q hq).1 w hw).1 ((gz_cls ci q hq).1 w hw).2
theorem gz_get (C : gz_X p s m meth c G cc own nL ret) {t i k ci index : Nat} {q : vw_C} {v : Value} (d : decode cc pc = .ok (.getfield index, 3)) (hlk : Cond.fieldLink own index (q.2.1 k).1 (q.2.1 k).2.1 (q.2.1 k).2.2.1 ∈ lw_tbl) (hi : i < gz_ct b σ.2.2 t) (hq : vwCl[ci]? = some q) (hkd : gz_kd b t = .inl (ci, q.2.2)) (hk : k < q.2.2) (hv : gz_fv b G σ t i k = v) (kk : gz_W b p l e R s m args below meth c G nL QQ ce sl σ (pc + 3) lv (v :: st) z) : gz_W b p l e R s m args below meth c G nL QQ ce sl σ pc lv (.ref (gz_ad b G t i) :: st) z := by
  intro o ho H locs ls hH hS hl
  obtain ⟨cell, q1, q2, q3, q4⟩ := gz_obj hH hi hkd
  obtain ⟨hSl, hfc, kC, hkC, hkind⟩ := C.2.2.2.2.2.2.1 ci q hq
  obtain ⟨cf, kf, fi, f, hif, hsl⟩ := hSl k hk
  exact W.getf C.1 C.2.1 C.2.2.2.1 (C.word hlk rfl) hif (u_facts hfc hkC (u_lays (gz_lays (args := args) C hq) (fun _ h => h) hk) hif).1 q1 (by rw [q3]; exact fun h => by cases h) (v := v) (by rw [hsl, q4 k hk, hv]) rfl rfl d (kk o ho H locs ls hH hS hl)
theorem gz_putI (C : gz_X p s m meth c G cc own nL ret) {t i k ci index : Nat} {q : vw_C} {x : Int32} (d : decode cc pc = .ok (.putfield index, 3)) (hlk : Cond.fieldLink own index (q.2.1 k).1 (q.2.1 k).2.1 (q.2.1 k).2.2.1 ∈ lw_tbl) (hi : i < gz_ct b σ.2.2 t) (hq : vwCl[ci]? = some q) (hkd : gz_kd b t = .inl (ci, q.2.2)) (hk : k < q.2.2) (hfk : gz_fk b t k = 0) (hfin : (q.2.1 k).2.2.2 = false) (hn : narrow (gz_tyc ci k) (.int x) = .int x) (hft : fits (gz_tyc ci k) (.int x) = true) (kk : gz_W b p l e R s m args below meth c G nL QQ ce sl (gz_si σ t i k x) (pc + 3) lv st z) : gz_W b p l e R s m args below meth c G nL QQ ce sl σ pc lv (.int x :: .ref (gz_ad b G t i) :: st) z := by
  intro o ho H locs ls hH hS hl
  have hcl := gz_cls ci q hq
  have hap := va_apart (own := own) (args := args) (D := (G.2.1, G.2.2.1)) (tys := []) (gz_lays (args := args) C hq) (fun _ h => h) (gz_tyc ci) hcl.2.1 hcl.2.2 (cl := vwCl) ⟨C.2.2.2.2.2.2.1, fun _ _ h => by simp at h⟩ hq
  obtain ⟨cell, q1, q2, q3, q4⟩ := gz_obj hH hi hkd
  obtain ⟨hSl, hfc, kC, hkC, hkind⟩ := C.2.2.2.2.2.2.1 ci q hq
  obtain ⟨cf, kf, fi, f, hif, hsl⟩ := hSl k hk
  have hlay := gz_lays (args := args) C hq _ (u_in_lay hk)
  unfold u_lay at hlay
  rw [if_neg (by rw [hfin]; decide)] at hlay
  have hst := (u_facts hfc hkC (u_lays (gz_lays (args := args) C hq) (fun _ h => h) hk) hif).1
  have h6 := u_store hfc hkC hkind hlay hif (hcl.2.1 k hk) hn hft
  refine W.putK C.1 C.2.1 (f := f) ⟨C.2.2.2.1, C.word hlk rfl, ⟨_, _, _, hif⟩, hst⟩ (by rw [q2]; exact h6) q1 q3 (by rw [hsl]; exact k2_hasslot (q4 k hk)) rfl rfl d fun H' e1 e2 e3 => ?_
  rw [hsl] at e1
  refine kk o ho H' _ ls (hH.put hi rfl (fun t' i' h => gz_si_ne t' i' h) ?_ e2 e3) ⟨hS.1.put e2 e3 (gz_inA hi), fun hb => by rw [e2]; exact hS.2 hb⟩ hl
  rw [hkd]
  refine t_OB.to (V := updV (gz_fv b G σ t i) k (.int x)) ⟨_, e1, q2, q3, t_set q4 hap hk (.int x)⟩ (fun j hj => ?_)
  by_cases hjk : j = k
  · subst hjk
    simp [updV, gz_fv, hfk, gz_si]
  · simp only [updV, if_neg hjk, gz_fv, gz_si]
    simp [hjk]
theorem gz_putJ (C : gz_X p s m meth c G cc own nL ret) {t i k ci index : Nat} {q : vw_C} {x : Int64} (d : decode cc pc = .ok (.putfield index, 3)) (hlk : Cond.fieldLink own index (q.2.1 k).1 (q.2.1 k).2.1 (q.2.1 k).2.2.1 ∈ lw_tbl) (hi : i < gz_ct b σ.2.2 t) (hq : vwCl[ci]? = some q) (hkd : gz_kd b t = .inl (ci, q.2.2)) (hk : k < q.2.2) (hfk : gz_fk b t k = 1) (hfin : (q.2.1 k).2.2.2 = false) (hn : narrow (gz_tyc ci k) (.long x) = .long x) (hft : fits (gz_tyc ci k) (.long x) = true) (kk : gz_W b p l e R s m args below meth c G nL QQ ce sl (gz_sj σ t i k x) (pc + 3) lv st z) : gz_W b p l e R s m args below meth c G nL QQ ce sl σ pc lv (.long x :: .ref (gz_ad b G t i) :: st) z := by
  intro o ho H locs ls hH hS hl
  have hcl := gz_cls ci q hq
  have hap := va_apart (own := own) (args := args) (D := (G.2.1, G.2.2.1)) (tys := []) (gz_lays (args := args) C hq) (fun _ h => h) (gz_tyc ci) hcl.2.1 hcl.2.2 (cl := vwCl) ⟨C.2.2.2.2.2.2.1, fun _ _ h => by simp at h⟩ hq
  obtain ⟨cell, q1, q2, q3, q4⟩ := gz_obj hH hi hkd
  obtain ⟨hSl, hfc, kC, hkC, hkind⟩ := C.2.2.2.2.2.2.1 ci q hq
  obtain ⟨cf, kf, fi, f, hif, hsl⟩ := hSl k hk
  have hlay := gz_lays (args := args) C hq _ (u_in_lay hk)
  unfold u_lay at hlay
  rw [if_neg (by rw [hfin]; decide)] at hlay
  have hst := (u_facts hfc hkC (u_lays (gz_lays (args := args) C hq) (fun _ h => h) hk) hif).1
  have h6 := u_store hfc hkC hkind hlay hif (hcl.2.1 k hk) hn hft
  refine W.putK C.1 C.2.1 (f := f) ⟨C.2.2.2.1, C.word hlk rfl, ⟨_, _, _, hif⟩, hst⟩ (by rw [q2]; exact h6) q1 q3 (by rw [hsl]; exact k2_hasslot (q4 k hk)) rfl rfl d fun H' e1 e2 e3 => ?_
  rw [hsl] at e1
  refine kk o ho H' _ ls (hH.put hi rfl (fun t' i' h => gz_sj_ne t' i' h) ?_ e2 e3) ⟨hS.1.put e2 e3 (gz_inA hi), fun hb => by rw [e2]; exact hS.2 hb⟩ hl
  rw [hkd]
  refine t_OB.to (V := updV (gz_fv b G σ t i) k (.long x)) ⟨_, e1, q2, q3, t_set q4 hap hk (.long x)⟩ (fun j hj => ?_)
  by_cases hjk : j = k
  · subst hjk
    simp [updV, gz_fv, hfk, gz_sj]
  · simp only [updV, if_neg hjk, gz_fv, gz_sj]
    simp [hjk]
theorem gz_getN (C : gz_X p s m meth c G cc own nL ret) {t i k ci index : Nat} {q : vw_C} {v : Value} {host : String} (d : decode cc pc = .ok (.getfield index, 3)) (hlk : Cond.fieldLinkNest own index (q.2.1 k).1 (q.2.1 k).2.1 (q.2.1 k).2.2.1 host ∈ lw_tbl) (hi : i < gz_ct b σ.2.2 t) (hq : vwCl[ci]? = some q) (hkd : gz_kd b t = .inl (ci, q.2.2)) (hk : k < q.2.2) (hv : gz_fv b G σ t i k = v) (kk : gz_W b p l e R s m args below meth c G nL QQ ce sl σ (pc + 3) lv (v :: st) z) : gz_W b p l e R s m args below meth c G nL QQ ce sl σ pc lv (.ref (gz_ad b G t i) :: st) z := by
  intro o ho H locs ls hH hS hl
  obtain ⟨cell, q1, q2, q3, q4⟩ := gz_obj hH hi hkd
  obtain ⟨hSl, hfc, kC, hkC, hkind⟩ := C.2.2.2.2.2.2.1 ci q hq
  obtain ⟨cf, kf, fi, f, hif, hsl⟩ := hSl k hk
  exact va_Wgetf C.1 C.2.1 C.2.2.2.1 (C.word hlk rfl) hif (u_facts hfc hkC (u_lays (gz_lays (args := args) C hq) (fun _ h => h) hk) hif).1 q1 (by rw [q3]; exact fun h => by cases h) (v := v) (by rw [hsl, q4 k hk, hv]) rfl rfl d (kk o ho H locs ls hH hS hl)
theorem gz_putIN (C : gz_X p s m meth c G cc own nL ret) {t i k ci index : Nat} {q : vw_C} {x : Int32} {host : String} (d : decode cc pc = .ok (.putfield index, 3)) (hlk : Cond.fieldLinkNest own index (q.2.1 k).1 (q.2.1 k).2.1 (q.2.1 k).2.2.1 host ∈ lw_tbl) (hi : i < gz_ct b σ.2.2 t) (hq : vwCl[ci]? = some q) (hkd : gz_kd b t = .inl (ci, q.2.2)) (hk : k < q.2.2) (hfk : gz_fk b t k = 0) (hfin : (q.2.1 k).2.2.2 = false) (hn : narrow (gz_tyc ci k) (.int x) = .int x) (hft : fits (gz_tyc ci k) (.int x) = true) (kk : gz_W b p l e R s m args below meth c G nL QQ ce sl (gz_si σ t i k x) (pc + 3) lv st z) : gz_W b p l e R s m args below meth c G nL QQ ce sl σ pc lv (.int x :: .ref (gz_ad b G t i) :: st) z := by
  intro o ho H locs ls hH hS hl
  have hcl := gz_cls ci q hq
  have hap := va_apart (own := own) (args := args) (D := (G.2.1, G.2.2.1)) (tys := []) (gz_lays (args := args) C hq) (fun _ h => h) (gz_tyc ci) hcl.2.1 hcl.2.2 (cl := vwCl) ⟨C.2.2.2.2.2.2.1, fun _ _ h => by simp at h⟩ hq
  obtain ⟨cell, q1, q2, q3, q4⟩ := gz_obj hH hi hkd
  obtain ⟨hSl, hfc, kC, hkC, hkind⟩ := C.2.2.2.2.2.2.1 ci q hq
  obtain ⟨cf, kf, fi, f, hif, hsl⟩ := hSl k hk
  have hlay := gz_lays (args := args) C hq _ (u_in_lay hk)
  unfold u_lay at hlay
  rw [if_neg (by rw [hfin]; decide)] at hlay
  have hst := (u_facts hfc hkC (u_lays (gz_lays (args := args) C hq) (fun _ h => h) hk) hif).1
  have h6 := u_store hfc hkC hkind hlay hif (hcl.2.1 k hk) hn hft
  refine va_WputK C.1 C.2.1 (f := f) C.2.2.2.1 (C.word hlk rfl) hif hst (by rw [q2]; exact h6) q1 q3 (by rw [hsl]; exact k2_hasslot (q4 k hk)) rfl rfl d fun H' e1 e2 e3 => ?_
  rw [hsl] at e1
  refine kk o ho H' _ ls (hH.put hi rfl (fun t' i' h => gz_si_ne t' i' h) ?_ e2 e3) ⟨hS.1.put e2 e3 (gz_inA hi), fun hb => by rw [e2]; exact hS.2 hb⟩ hl
  rw [hkd]
  refine t_OB.to (V := updV (gz_fv b G σ t i) k (.int x)) ⟨_, e1, q2, q3, t_set q4 hap hk (.int x)⟩ (fun j hj => ?_)
  by_cases hjk : j = k
  · subst hjk
    simp [updV, gz_fv, hfk, gz_si]
  · simp only [updV, if_neg hjk, gz_fv, gz_si]
    simp [hjk]
theorem gz_putJN (C : gz_X p s m meth c G cc own nL ret) {t i k ci index : Nat} {q : vw_C} {x : Int64} {host : String} (d : decode cc pc = .ok (.putfield index, 3)) (hlk : Cond.fieldLinkNest own index (q.2.1 k).1 (q.2.1 k).2.1 (q.2.1 k).2.2.1 host ∈ lw_tbl) (hi : i < gz_ct b σ.2.2 t) (hq : vwCl[ci]? = some q) (hkd : gz_kd b t = .inl (ci, q.2.2)) (hk : k < q.2.2) (hfk : gz_fk b t k = 1) (hfin : (q.2.1 k).2.2.2 = false) (hn : narrow (gz_tyc ci k) (.long x) = .long x) (hft : fits (gz_tyc ci k) (.long x) = true) (kk : gz_W b p l e R s m args below meth c G nL QQ ce sl (gz_sj σ t i k x) (pc + 3) lv st z) : gz_W b p l e R s m args below meth c G nL QQ ce sl σ pc lv (.long x :: .ref (gz_ad b G t i) :: st) z := by
  intro o ho H locs ls hH hS hl
  have hcl := gz_cls ci q hq
  have hap := va_apart (own := own) (args := args) (D := (G.2.1, G.2.2.1)) (tys := []) (gz_lays (args := args) C hq) (fun _ h => h) (gz_tyc ci) hcl.2.1 hcl.2.2 (cl := vwCl) ⟨C.2.2.2.2.2.2.1, fun _ _ h => by simp at h⟩ hq
  obtain ⟨cell, q1, q2, q3, q4⟩ := gz_obj hH hi hkd
  obtain ⟨hSl, hfc, kC, hkC, hkind⟩ := C.2.2.2.2.2.2.1 ci q hq
  obtain ⟨cf, kf, fi, f, hif, hsl⟩ := hSl k hk
  have hlay := gz_lays (args := args) C hq _ (u_in_lay hk)
  unfold u_lay at hlay
  rw [if_neg (by rw [hfin]; decide)] at hlay
  have hst := (u_facts hfc hkC (u_lays (gz_lays (args := args) C hq) (fun _ h => h) hk) hif).1
  have h6 := u_store hfc hkC hkind hlay hif (hcl.2.1 k hk) hn hft
  refine va_WputK C.1 C.2.1 (f := f) C.2.2.2.1 (C.word hlk rfl) hif hst (by rw [q2]; exact h6) q1 q3 (by rw [hsl]; exact k2_hasslot (q4 k hk)) rfl rfl d fun H' e1 e2 e3 => ?_
  rw [hsl] at e1
  refine kk o ho H' _ ls (hH.put hi rfl (fun t' i' h => gz_sj_ne t' i' h) ?_ e2 e3) ⟨hS.1.put e2 e3 (gz_inA hi), fun hb => by rw [e2]; exact hS.2 hb⟩ hl
  rw [hkd]
  refine t_OB.to (V := updV (gz_fv b G σ t i) k (.long x)) ⟨_, e1, q2, q3, t_set q4 hap hk (.long x)⟩ (fun j hj => ?_)
  by_cases hjk : j = k
  · subst hjk
    simp [updV, gz_fv, hfk, gz_sj]
  · simp only [updV, if_neg hjk, gz_fv, gz_sj]
    simp [hjk]
theorem gz_ix_some {j : Int32} {n : Nat} {f : Nat → Option α} {o : α} (h : gz_ix j n f = some o) : vp_in j n ∧ j.toNatClampNeg < n ∧ f j.toNatClampNeg = some o := by
  unfold gz_ix at h
  split at h
  · rename_i hc
    exact ⟨vp_in_iff.mpr hc, by show j.toInt.toNat < n; omega, h⟩
  · cases h
theorem gz_iald (C : gz_X p s m meth c G cc own nL ret) {t i len : Nat} {j : Int32} {f : Nat → Option α} (d : decode cc pc = .ok (.iaload, 1)) (hi : i < gz_ct b σ.2.2 t) (hkd : gz_kd b t = .inr (0, len)) (kk : ∀ n, n < len → gz_W b p l e R s m args below meth c G nL QQ ce sl σ (pc + 1) lv (.int (σ.1 t i n) :: st) (f n)) : gz_W b p l e R s m args below meth c G nL QQ ce sl σ pc lv (.int j :: .ref (gz_ad b G t i) :: st) (gz_ix j len f) := by
  intro o ho H locs ls hH hS hl
  obtain ⟨hin, hlt, hf⟩ := gz_ix_some ho
  exact W.iald (v := .int (σ.1 t i j.toNatClampNeg)) C.1 C.2.1 (gz_arr hH hi hkd) ((C.2.2.2.2.2.2.2.1 0 (by decide)).1 len _) (fun q => by cases q) (by show ¬ (j < 0 ∨ (arrV _ _ _).slots.size ≤ _); rw [arrV_size]; exact hin) (by show (arrV _ _ _).slots[_]? = _; rw [arrV_read _ _ hlt]; rfl) rfl rfl d (kk _ hlt o hf H locs ls hH hS hl)
theorem gz_lald (C : gz_X p s m meth c G cc own nL ret) {t i len : Nat} {j : Int32} {f : Nat → Option α} (d : decode cc pc = .ok (.laload, 1)) (hi : i < gz_ct b σ.2.2 t) (hkd : gz_kd b t = .inr (1, len)) (kk : ∀ n, n < len → gz_W b p l e R s m args below meth c G nL QQ ce sl σ (pc + 1) lv (.long (σ.2.1 t i n) :: st) (f n)) : gz_W b p l e R s m args below meth c G nL QQ ce sl σ pc lv (.int j :: .ref (gz_ad b G t i) :: st) (gz_ix j len f) := by
  intro o ho H locs ls hH hS hl
  obtain ⟨hin, hlt, hf⟩ := gz_ix_some ho
  exact W.lald (v := .long (σ.2.1 t i j.toNatClampNeg)) C.1 C.2.1 (gz_arr hH hi hkd) ((C.2.2.2.2.2.2.2.1 1 (by decide)).1 len _) (fun q => by cases q) (by show ¬ (j < 0 ∨ (arrV _ _ _).slots.size ≤ _); rw [arrV_size]; exact hin) (by show (arrV _ _ _).slots[_]? = _; rw [arrV_read _ _ hlt]; rfl) rfl rfl d (kk _ hlt o hf H locs ls hH hS hl)
theorem gz_bald (C : gz_X p s m meth c G cc own nL ret) {t i len : Nat} {j : Int32} {f : Nat → Option α} (d : decode cc pc = .ok (.baload, 1)) (hi : i < gz_ct b σ.2.2 t) (hkd : gz_kd b t = .inr (2, len)) (kk : ∀ n, n < len → gz_W b p l e R s m args below meth c G nL QQ ce sl σ (pc + 1) lv (.int (σ.1 t i n) :: st) (f n)) : gz_W b p l e R s m args below meth c G nL QQ ce sl σ pc lv (.int j :: .ref (gz_ad b G t i) :: st) (gz_ix j len f) := by
  intro o ho H locs ls hH hS hl
  obtain ⟨hin, hlt, hf⟩ := gz_ix_some ho
  exact W.bald (v := .int (σ.1 t i j.toNatClampNeg)) C.1 C.2.1 (gz_arr hH hi hkd) ((C.2.2.2.2.2.2.2.1 2 (by decide)).1 len _) (fun q => by cases q) (by show ¬ (j < 0 ∨ (arrV _ _ _).slots.size ≤ _); rw [arrV_size]; exact hin) (by show (arrV _ _ _).slots[_]? = _; rw [arrV_read _ _ hlt]; rfl) rfl rfl d (kk _ hlt o hf H locs ls hH hS hl)
theorem gz_zald (C : gz_X p s m meth c G cc own nL ret) {t i len : Nat} {j : Int32} {f : Nat → Option α} (d : decode cc pc = .ok (.baload, 1)) (hi : i < gz_ct b σ.2.2 t) (hkd : gz_kd b t = .inr (3, len)) (kk : ∀ n, n < len → gz_W b p l e R s m args below meth c G nL QQ ce sl σ (pc + 1) lv (.int (σ.1 t i n) :: st) (f n)) : gz_W b p l e R s m args below meth c G nL QQ ce sl σ pc lv (.int j :: .ref (gz_ad b G t i) :: st) (gz_ix j len f) := by
  intro o ho H locs ls hH hS hl
  obtain ⟨hin, hlt, hf⟩ := gz_ix_some ho
  exact W.zald (v := .int (σ.1 t i j.toNatClampNeg)) C.1 C.2.1 (gz_arr hH hi hkd) ((C.2.2.2.2.2.2.2.1 3 (by decide)).1 len _) (fun q => by cases q) (by show ¬ (j < 0 ∨ (arrV _ _ _).slots.size ≤ _); rw [arrV_size]; exact hin) (by show (arrV _ _ _).slots[_]? = _; rw [arrV_read _ _ hlt]; rfl) rfl rfl d (kk _ hlt o hf H locs ls hH hS hl)
theorem gz_aald4 (C : gz_X p s m meth c G cc own nL ret) {t i len : Nat} {j : Int32} {f : Nat → Option α} (d : decode cc pc = .ok (.aaload, 1)) (hi : i < gz_ct b σ.2.2 t) (hkd : gz_kd b t = .inr (4, len)) (kk : ∀ n, n < len → gz_W b p l e R s m args below meth c G nL QQ ce sl σ (pc + 1) lv (.ref (gz_ad b G 8 (8 * i + n)) :: st) (f n)) : gz_W b p l e R s m args below meth c G nL QQ ce sl σ pc lv (.int j :: .ref (gz_ad b G t i) :: st) (gz_ix j len f) := by
  intro o ho H locs ls hH hS hl
  obtain ⟨hin, hlt, hf⟩ := gz_ix_some ho
  exact W.aald (v := .ref (gz_ad b G 8 (8 * i + j.toNatClampNeg))) C.1 C.2.1 (gz_arr hH hi hkd) ((C.2.2.2.2.2.2.2.1 4 (by decide)).1 len _) rfl (fun q => by cases q) (by show ¬ (j < 0 ∨ (arrV _ _ _).slots.size ≤ _); rw [arrV_size]; exact hin) (by show (arrV _ _ _).slots[_]? = _; rw [arrV_read _ _ hlt]; rfl) rfl rfl d (kk _ hlt o hf H locs ls hH hS hl)
theorem gz_aald5 (C : gz_X p s m meth c G cc own nL ret) {t i len : Nat} {j : Int32} {f : Nat → Option α} (d : decode cc pc = .ok (.aaload, 1)) (hi : i < gz_ct b σ.2.2 t) (hkd : gz_kd b t = .inr (5, len)) (kk : ∀ n, n < len → gz_W b p l e R s m args below meth c G nL QQ ce sl σ (pc + 1) lv (.ref (gz_ad b G 6 n) :: st) (f n)) : gz_W b p l e R s m args below meth c G nL QQ ce sl σ pc lv (.int j :: .ref (gz_ad b G t i) :: st) (gz_ix j len f) := by
  intro o ho H locs ls hH hS hl
  obtain ⟨hin, hlt, hf⟩ := gz_ix_some ho
  exact W.aald (v := .ref (gz_ad b G 6 j.toNatClampNeg)) C.1 C.2.1 (gz_arr hH hi hkd) ((C.2.2.2.2.2.2.2.1 5 (by decide)).1 len _) rfl (fun q => by cases q) (by show ¬ (j < 0 ∨ (arrV _ _ _).slots.size ≤ _); rw [arrV_size]; exact hin) (by show (arrV _ _ _).slots[_]? = _; rw [arrV_read _ _ hlt]; rfl) rfl rfl d (kk _ hlt o hf H locs ls hH hS hl)
theorem gz_aald6 (C : gz_X p s m meth c G cc own nL ret) {t i len : Nat} {j : Int32} {f : Nat → Option α} (d : decode cc pc = .ok (.aaload, 1)) (hi : i < gz_ct b σ.2.2 t) (hkd : gz_kd b t = .inr (6, len)) (kk : ∀ n, n < len → gz_W b p l e R s m args below meth c G nL QQ ce sl σ (pc + 1) lv (.ref (gz_ad b G 20 n) :: st) (f n)) : gz_W b p l e R s m args below meth c G nL QQ ce sl σ pc lv (.int j :: .ref (gz_ad b G t i) :: st) (gz_ix j len f) := by
  intro o ho H locs ls hH hS hl
  obtain ⟨hin, hlt, hf⟩ := gz_ix_some ho
  exact W.aald (v := .ref (gz_ad b G 20 j.toNatClampNeg)) C.1 C.2.1 (gz_arr hH hi hkd) ((C.2.2.2.2.2.2.2.1 6 (by decide)).1 len _) rfl (fun q => by cases q) (by show ¬ (j < 0 ∨ (arrV _ _ _).slots.size ≤ _); rw [arrV_size]; exact hin) (by show (arrV _ _ _).slots[_]? = _; rw [arrV_read _ _ hlt]; rfl) rfl rfl d (kk _ hlt o hf H locs ls hH hS hl)
theorem gz_aald7 (C : gz_X p s m meth c G cc own nL ret) {t i len : Nat} {j : Int32} {f : Nat → Option α} (d : decode cc pc = .ok (.aaload, 1)) (hi : i < gz_ct b σ.2.2 t) (hkd : gz_kd b t = .inr (7, len)) (kk : ∀ n, n < len → gz_W b p l e R s m args below meth c G nL QQ ce sl σ (pc + 1) lv (.ref (gz_ad b G 14 n) :: st) (f n)) : gz_W b p l e R s m args below meth c G nL QQ ce sl σ pc lv (.int j :: .ref (gz_ad b G t i) :: st) (gz_ix j len f) := by
  intro o ho H locs ls hH hS hl
  obtain ⟨hin, hlt, hf⟩ := gz_ix_some ho
  exact W.aald (v := .ref (gz_ad b G 14 j.toNatClampNeg)) C.1 C.2.1 (gz_arr hH hi hkd) ((C.2.2.2.2.2.2.2.1 7 (by decide)).1 len _) rfl (fun q => by cases q) (by show ¬ (j < 0 ∨ (arrV _ _ _).slots.size ≤ _); rw [arrV_size]; exact hin) (by show (arrV _ _ _).slots[_]? = _; rw [arrV_read _ _ hlt]; rfl) rfl rfl d (kk _ hlt o hf H locs ls hH hS hl)
theorem gz_iast (C : gz_X p s m meth c G cc own nL ret) {t i len : Nat} {j : Int32} {x : Int32} {f : Nat → Option α} (d : decode cc pc = .ok (.iastore, 1)) (hi : i < gz_ct b σ.2.2 t) (hkd : gz_kd b t = .inr (0, len)) (kk : ∀ n, n < len → gz_W b p l e R s m args below meth c G nL QQ ce sl (gz_si σ t i n x) (pc + 1) lv st (f n)) : gz_W b p l e R s m args below meth c G nL QQ ce sl σ pc lv (.int x :: .int j :: .ref (gz_ad b G t i) :: st) (gz_ix j len f) := by
  intro o ho H locs ls hH hS hl
  obtain ⟨hin, hlt, hf⟩ := gz_ix_some ho
  refine W.iast C.1 C.2.1 (gz_arr hH hi hkd) ((C.2.2.2.2.2.2.2.1 0 (by decide)).1 len _) (fun q => by cases q) (by show ¬ (j < 0 ∨ (arrV _ _ _).slots.size ≤ _); rw [arrV_size]; exact hin) rfl rfl d fun H1 e1 e2 e3 => ?_
  refine kk _ hlt o hf H1 _ ls (hH.put hi rfl (fun t' i' h => gz_si_ne t' i' h) ?_ e2 e3) ⟨hS.1.put e2 e3 (gz_inA hi), fun hb => by rw [e2]; exact hS.2 hb⟩ hl
  rw [hkd]
  show H1[gz_ad b G t i]? = _
  rw [e1, arrV_store]
  congr 2
  funext y
  by_cases hy : y = j.toNatClampNeg
  · subst hy
    simp [updV, gz_ev, gz_si, narrow]
  · simp [updV, gz_ev, gz_si, hy]
theorem gz_last (C : gz_X p s m meth c G cc own nL ret) {t i len : Nat} {j : Int32} {x : Int64} {f : Nat → Option α} (d : decode cc pc = .ok (.lastore, 1)) (hi : i < gz_ct b σ.2.2 t) (hkd : gz_kd b t = .inr (1, len)) (kk : ∀ n, n < len → gz_W b p l e R s m args below meth c G nL QQ ce sl (gz_sj σ t i n x) (pc + 1) lv st (f n)) : gz_W b p l e R s m args below meth c G nL QQ ce sl σ pc lv (.long x :: .int j :: .ref (gz_ad b G t i) :: st) (gz_ix j len f) := by
  intro o ho H locs ls hH hS hl
  obtain ⟨hin, hlt, hf⟩ := gz_ix_some ho
  refine W.last C.1 C.2.1 (gz_arr hH hi hkd) ((C.2.2.2.2.2.2.2.1 1 (by decide)).1 len _) (fun q => by cases q) (by show ¬ (j < 0 ∨ (arrV _ _ _).slots.size ≤ _); rw [arrV_size]; exact hin) rfl rfl d fun H1 e1 e2 e3 => ?_
  refine kk _ hlt o hf H1 _ ls (hH.put hi rfl (fun t' i' h => gz_sj_ne t' i' h) ?_ e2 e3) ⟨hS.1.put e2 e3 (gz_inA hi), fun hb => by rw [e2]; exact hS.2 hb⟩ hl
  rw [hkd]
  show H1[gz_ad b G t i]? = _
  rw [e1, arrV_store]
  congr 2
  funext y
  by_cases hy : y = j.toNatClampNeg
  · subst hy
    simp [updV, gz_ev, gz_sj, narrow]
  · simp [updV, gz_ev, gz_sj, hy]
theorem gz_bast (C : gz_X p s m meth c G cc own nL ret) {t i len : Nat} {j : Int32} {x : Int32} {f : Nat → Option α} (d : decode cc pc = .ok (.bastore, 1)) (hi : i < gz_ct b σ.2.2 t) (hkd : gz_kd b t = .inr (2, len)) (kk : ∀ n, n < len → gz_W b p l e R s m args below meth c G nL QQ ce sl (gz_si σ t i n x.toInt8.toInt32) (pc + 1) lv st (f n)) : gz_W b p l e R s m args below meth c G nL QQ ce sl σ pc lv (.int x :: .int j :: .ref (gz_ad b G t i) :: st) (gz_ix j len f) := by
  intro o ho H locs ls hH hS hl
  obtain ⟨hin, hlt, hf⟩ := gz_ix_some ho
  refine W.bast C.1 C.2.1 (gz_arr hH hi hkd) ((C.2.2.2.2.2.2.2.1 2 (by decide)).1 len _) (fun q => by cases q) (by show ¬ (j < 0 ∨ (arrV _ _ _).slots.size ≤ _); rw [arrV_size]; exact hin) rfl rfl d fun H1 e1 e2 e3 => ?_
  refine kk _ hlt o hf H1 _ ls (hH.put hi rfl (fun t' i' h => gz_si_ne t' i' h) ?_ e2 e3) ⟨hS.1.put e2 e3 (gz_inA hi), fun hb => by rw [e2]; exact hS.2 hb⟩ hl
  rw [hkd]
  show H1[gz_ad b G t i]? = _
  rw [e1, arrV_store]
  congr 2
  funext y
  by_cases hy : y = j.toNatClampNeg
  · subst hy
    simp [updV, gz_ev, gz_si, narrow]
  · simp [updV, gz_ev, gz_si, hy]
theorem gz_zast (C : gz_X p s m meth c G cc own nL ret) {t i len : Nat} {j : Int32} {x : Int32} {f : Nat → Option α} (d : decode cc pc = .ok (.bastore, 1)) (hi : i < gz_ct b σ.2.2 t) (hkd : gz_kd b t = .inr (3, len)) (kk : ∀ n, n < len → gz_W b p l e R s m args below meth c G nL QQ ce sl (gz_si σ t i n (x &&& 1)) (pc + 1) lv st (f n)) : gz_W b p l e R s m args below meth c G nL QQ ce sl σ pc lv (.int x :: .int j :: .ref (gz_ad b G t i) :: st) (gz_ix j len f) := by
  intro o ho H locs ls hH hS hl
  obtain ⟨hin, hlt, hf⟩ := gz_ix_some ho
  refine W.zast C.1 C.2.1 (gz_arr hH hi hkd) ((C.2.2.2.2.2.2.2.1 3 (by decide)).1 len _) (fun q => by cases q) (by show ¬ (j < 0 ∨ (arrV _ _ _).slots.size ≤ _); rw [arrV_size]; exact hin) rfl rfl d fun H1 e1 e2 e3 => ?_
  refine kk _ hlt o hf H1 _ ls (hH.put hi rfl (fun t' i' h => gz_si_ne t' i' h) ?_ e2 e3) ⟨hS.1.put e2 e3 (gz_inA hi), fun hb => by rw [e2]; exact hS.2 hb⟩ hl
  rw [hkd]
  show H1[gz_ad b G t i]? = _
  rw [e1, arrV_store]
  congr 2
  funext y
  by_cases hy : y = j.toNatClampNeg
  · subst hy
    simp [updV, gz_ev, gz_si, narrow]
  · simp [updV, gz_ev, gz_si, hy]
theorem gz_alen (C : gz_X p s m meth c G cc own nL ret) {t i len ek : Nat} {v : Int32} (d : decode cc pc = .ok (.arraylength, 1)) (hi : i < gz_ct b σ.2.2 t) (hkd : gz_kd b t = .inr (ek, len)) (hek : ek < 8) (hv : len.toInt32 = v) (kk : gz_W b p l e R s m args below meth c G nL QQ ce sl σ (pc + 1) lv (.int v :: st) z) : gz_W b p l e R s m args below meth c G nL QQ ce sl σ pc lv (.ref (gz_ad b G t i) :: st) z := by
  intro o ho H locs ls hH hS hl
  exact W.alen C.1 C.2.1 (gz_arr hH hi hkd) ((C.2.2.2.2.2.2.2.1 ek hek).1 len _) (by show (arrV _ _ _).slots.size.toInt32 = _; rw [arrV_size]; exact hv) rfl rfl d (kk o ho H locs ls hH hS hl)
theorem gz_iret (C : gz_X p s m meth c G cc own nL ret) {v : Int32} (hr : ret = some .int) (d : decode cc pc = .ok (.ireturn, 1)) : gz_W b p l e R s m args below meth c G nL (gz_Q b G below args s ce sl gz_ei) ce sl σ pc lv [.int v] (some (v, σ)) := by
  intro o ho H locs ls hH hS hl
  cases ho
  exact W.iret C.1 C.2.1 (C.2.2.2.2.1.trans hr) (fun t ht hW => ⟨rfl, by rw [ht]; exact hH, hS.1.F ht, fun hb => by rw [ht]; exact hS.2 hb⟩) hS.1.2.2 d (hlocks := C.2.2.2.2.2.1)
theorem gz_lret (C : gz_X p s m meth c G cc own nL ret) {v : Int64} (hr : ret = some .long) (d : decode cc pc = .ok (.lreturn, 1)) : gz_W b p l e R s m args below meth c G nL (gz_Q b G below args s ce sl gz_el) ce sl σ pc lv [.long v] (some (v, σ)) := by
  intro o ho H locs ls hH hS hl
  cases ho
  exact W.lret C.1 C.2.1 (C.2.2.2.2.1.trans hr) (fun t ht hW => ⟨rfl, by rw [ht]; exact hH, hS.1.F ht, fun hb => by rw [ht]; exact hS.2 hb⟩) hS.1.2.2 d (hlocks := C.2.2.2.2.2.1)
theorem gz_vret (C : gz_X p s m meth c G cc own nL ret) (hr : ret = none) (d : decode cc pc = .ok (.return_, 1)) : gz_W b p l e R s m args below meth c G nL (gz_Q b G below args s ce sl gz_eu) ce sl σ pc lv [] (some σ) := by
  intro o ho H locs ls hH hS hl
  cases ho
  exact W.vret C.1 C.2.1 (C.2.2.2.2.1.trans hr) (fun t ht hW => ⟨rfl, by rw [ht]; exact hH, hS.1.F ht, fun hb => by rw [ht]; exact hS.2 hb⟩) hS.1.2.2 d (hlocks := C.2.2.2.2.2.1)
theorem gz_Wzret {H : Heap} {locs : List Loc} {Qc : Array Value → State → Outcome → State → Prop} {free : Addr → Prop} {v : Int32} (hexec : p.tables.exec = Jvm.exec) (hb : c.code = cc) (hr : meth.sig.returnType = some .boolean) (hlocks : meth.locks = false)
    (hq : ∀ t : State, t.heap = H → s.WarmedH t.vm → Qc args s (.returned (some (.int (v &&& 1)))) t) (hf : ∀ q ∈ locs, free q.base) {ls : Array Slot} (hdg : decode cc pc = .ok (.ireturn, 1)) : W p l e R s m args below meth c H locs ce sl (MQ below Qc args s ce sl free) (F0 m pc ls [.int v]) := by
  intro T hT X
  obtain ⟨fs, hret, hrun, hended, hW, hframe⟩ := X.leave (v := some (.int (v &&& 1))) (hlocks := hlocks) (fun h => by rw [hr] at h; cases h)
  have hmeth' : T.vm.method? m = some meth := X.method'
  have hn : narrow .boolean (.int v) = .int (v &&& 1) := rfl
  refine ⟨T.setFrames fs, ?_, .returned (some (.int (v &&& 1))), hrun, hended, hq _ hT hW, locs, ⟨⟨_, rfl⟩, hW, hframe⟩, hf⟩
  jvm_step X.here [X.here.top, hexec, hb, hdg, hmeth', hr, hn]
  (try refine ⟨rfl, ?_⟩); (try refine ⟨rfl, ?_⟩)
  first | (intro acts; rw [hret _ acts rfl rfl rfl]) | rw [hret _ _ rfl rfl rfl]
  exact Steps.refl _
theorem gz_Wnret {H : Heap} {locs : List Loc} {Qc : Array Value → State → Outcome → State → Prop} {free : Addr → Prop} {v w : Int32} {ty : FieldType} (hexec : p.tables.exec = Jvm.exec) (hb : c.code = cc) (hr : meth.sig.returnType = some ty) (hn : narrow ty (.int v) = .int w) (hlocks : meth.locks = false)
    (hq : ∀ t : State, t.heap = H → s.WarmedH t.vm → Qc args s (.returned (some (.int w))) t) (hf : ∀ q ∈ locs, free q.base) {ls : Array Slot} (hdg : decode cc pc = .ok (.ireturn, 1)) : W p l e R s m args below meth c H locs ce sl (MQ below Qc args s ce sl free) (F0 m pc ls [.int v]) := by
  intro T hT X
  obtain ⟨fs, hret, hrun, hended, hW, hframe⟩ := X.leave (v := some (.int w)) (hlocks := hlocks) (fun h => by rw [hr] at h; cases h)
  have hmeth' : T.vm.method? m = some meth := X.method'
  refine ⟨T.setFrames fs, ?_, .returned (some (.int w)), hrun, hended, hq _ hT hW, locs, ⟨⟨_, rfl⟩, hW, hframe⟩, hf⟩
  jvm_step X.here [X.here.top, hexec, hb, hdg, hmeth', hr, hn]
  (try refine ⟨rfl, ?_⟩); (try refine ⟨rfl, ?_⟩)
  first | (intro acts; rw [hret _ acts rfl rfl rfl]) | rw [hret _ _ rfl rfl rfl]
  exact Steps.refl _
theorem gz_nret (C : gz_X p s m meth c G cc own nL ret) {v w : Int32} {ty : FieldType} (hn : narrow ty (.int v) = .int w) (hr : ret = some ty) (d : decode cc pc = .ok (.ireturn, 1)) : gz_W b p l e R s m args below meth c G nL (gz_Q b G below args s ce sl gz_ei) ce sl σ pc lv [.int v] (some (w, σ)) := by
  intro o ho H locs ls hH hS hl
  cases ho
  exact gz_Wnret C.1 C.2.1 (C.2.2.2.2.1.trans hr) hn C.2.2.2.2.2.1 (fun t ht hW => ⟨rfl, by rw [ht]; exact hH, hS.1.F ht, fun hb => by rw [ht]; exact hS.2 hb⟩) hS.1.2.2 d
theorem gz_zret (C : gz_X p s m meth c G cc own nL ret) {v : Int32} (hr : ret = some .boolean) (d : decode cc pc = .ok (.ireturn, 1)) : gz_W b p l e R s m args below meth c G nL (gz_Q b G below args s ce sl gz_ei) ce sl σ pc lv [.int v] (some ((v &&& 1 : Int32), σ)) := by
  intro o ho H locs ls hH hS hl
  cases ho
  exact gz_Wzret C.1 C.2.1 (C.2.2.2.2.1.trans hr) C.2.2.2.2.2.1 (fun t ht hW => ⟨rfl, by rw [ht]; exact hH, hS.1.F ht, fun hb => by rw [ht]; exact hS.2 hb⟩) hS.1.2.2 d
theorem gz_aret (C : gz_X p s m meth c G cc own nL ret) {t : Nat} {C1 : String} {r : Option Nat} (hr : ret = some (.object C1)) (d : decode cc pc = .ok (.areturn, 1)) : gz_W b p l e R s m args below meth c G nL (gz_Q b G below args s ce sl (gz_er b G t)) ce sl σ pc lv [gz_rv b G t r] (some (r, σ)) := by
  intro o ho H locs ls hH hS hl
  cases ho
  exact W.aret C.1 C.2.1 (C.2.2.2.2.1.trans hr) (Or.inl ⟨_, rfl⟩) (gz_rv_or b G t r) (fun t ht hW => ⟨rfl, by rw [ht]; exact hH, hS.1.F ht, fun hb => by rw [ht]; exact hS.2 hb⟩) hS.1.2.2 d (hlocks := C.2.2.2.2.2.1)
end GZ
