/-! the two fresh objects -/
def gz_s0x : gz_S := (fun t _ j => if t = 0 ∧ j = 7 then -1 else 0, fun _ _ _ => 0, 0)
def gz_s0m : gz_S := (fun t _ j => if t = 0 ∧ (j = 2 ∨ j = 4 ∨ j = 31) then -1 else 0, fun _ _ _ => 0, 0)
def gz_s0 (b : Bool) : gz_S := match b with
  | false => gz_s0x
  | true => gz_s0m
def gy_nf (k : Nat) : Nat := match gy_ck k with
  | .inl q => q.2
  | .inr q => if q.1 < 4 then 0 else q.2
def gy_row (k : Nat) : Nat → Nat
  | 0 => 0
  | j + 1 => gy_row k j + (if gy_co k j = 0 then 0 else 2 ^ j)
def gy_mask : Nat → Nat
  | 0 => 0
  | k + 1 => gy_mask k + 2 ^ (64 * k) * gy_row k (gy_nf k)
set_option maxRecDepth 100000 in
theorem gy_bits : ∀ k, k < 683 → ∀ j, j < gy_nf k → (gy_mask 683).testBit (64 * k + j) = decide (¬ gy_co k j = 0) := by decide +kernel
theorem gy_nf64 : ∀ k, k < 683 → gy_nf k < 64 := by decide +kernel
def gy_dc (v : Value) : Nat := match v with
  | .int x => if x = 0 then 0 else 9
  | .long x => if x = 0 then 1 else 9
  | .null => 2
  | _ => 9
def gy_fc (n : Nat) : Nat := match n with
  | 0 => 0
  | 1 => 1
  | _ => 2
def gy_okt (b : Bool) (t : Nat) : Bool := match gz_kd b t with
  | .inl q => (List.range q.2).all fun j => gy_dc (defaultValue (gz_tyc q.1 j)) == gy_fc (gz_fk b t j)
  | .inr q => decide (q.1 < 8)
theorem gy_okx : ∀ t, t < 31 → gy_okt false t = true := by decide +kernel
theorem gy_okm : ∀ t, t < 44 → gy_okt true t = true := by decide +kernel
set_option maxRecDepth 100000 in
theorem gy_evx : f_X9_init 0 (1, 0) = some (639, gy_mask 639) := by decide +kernel
set_option maxRecDepth 100000 in
theorem gy_evm : f_X11_init 639 (640, gy_mask 639) = some (683, gy_mask 683) := by decide +kernel
theorem gy_m1 : gy_mask 639 < 2 ^ (64 * 639) := by decide +kernel
