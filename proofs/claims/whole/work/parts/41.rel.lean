/-! HOUSE AND REFERENCE, side by side -/
/-- a bit of the house's calendar -/
def gb (A : Nat → Int64) (d : Nat) : Int32 := if lg_cmp ((((A (d / 64)).toUInt64 >>> ((nI d &&& 63 : Int32).toInt64.toUInt64 &&& Int64.toUInt64 63)).toInt64) &&& 1) 0 = 0 then 0 else 1
abbrev gA : Type := Int32 × Int32 × Int64 × Int64
def gun (f : Nat → Nat) (n c : Nat) : Nat → Nat := fun j => if j = n then c else f j
def rCal (F : Nat) (xb : Nat → Int64) (xc : Int32) (mf : Nat → Int32) (mc : Int32) : Prop := (∀ d, d < 10000 → gb xb d = mf d ∧ (mf d = 0 ∨ mf d = 1)) ∧ F ≤ 60 ∧ xc = nI F ∧ mc = nI F ∧ ∃ C, C = 10000 ∧ F = gs_cn (fun d => decide (mf d = 1)) C 0
def rTr (xt xf xfp xl mt mw mf ml : Int32) : Prop := xt = mt ∧ xf = mf ∧ mw = (if mt = 4 then xfp else -1) ∧ ml = (if mf = 6 then xl else -1)
def rTape (xt mt : Nat → Int32) (xn mn : Int32) : Prop := (∀ k, xt k = mt k ∧ (mt k).toInt8.toInt32 = mt k) ∧ ∃ T, T ≤ 400 ∧ xn = nI T ∧ mn = nI T
def rField (x8 : Nat → Nat → Int32) (y8 y9 : Nat → Nat → Int64) (m9 m10 m11 m12 : Nat → Int32) (m13 m14 : Nat → Int64) (i k : Nat) : Prop :=
  y8 i 0 = m13 i ∧ x8 i 1 = m9 i ∧ x8 i 2 = m12 i ∧ (m12 i = 0 ∨ m12 i = 1) ∧ x8 i 4 = m11 i ∧ ∃ kd, kd ≤ 5 ∧ m9 i = nI kd ∧ (kd = 3 → ∃ w, w ≤ 4 ∧ x8 i 6 = nI w ∧ m10 i = nI w ∧ ∀ j, j < w → y9 i j = m14 (4 * i + j)) ∧ (kd ≠ 3 → x8 i 3 = m10 i) ∧ (4 ≤ kd → ∃ b v kb, b < k ∧ v ≤ 9999 ∧ m11 i = nI b ∧ m10 i = nI v ∧ m9 (i - k + b) = nI kb ∧ (kb = 1 ∨ kb = 4 ∨ kb = 5))
def rForm (x6 x8 : Nat → Nat → Int32) (y8 y9 : Nat → Nat → Int64) (m8 m9 m10 m11 m12 : Nat → Int32) (m13 m14 : Nat → Int64) (f : Nat) : Prop :=
  ∃ s, s ≤ 8 ∧ x6 f 1 = nI s ∧ m8 f = nI s ∧ ∀ k, k < s → rField x8 y8 y9 m9 m10 m11 m12 m13 m14 (8 * f + k) k
def rForms (P : Nat) (x6 x8 : Nat → Nat → Int32) (y8 y9 : Nat → Nat → Int64) (m8 m9 m10 m11 m12 : Nat → Int32) (m13 m14 : Nat → Int64) (xP mP : Int32) : Prop :=
  xP = nI P ∧ mP = nI P ∧ ∀ f, f < P → rForm x6 x8 y8 y9 m8 m9 m10 m11 m12 m13 m14 f
/-- a notice: what it was given, what it says, its values -/
def rNoteA (n I : Nat) (fo la : Nat → Nat) (x14 : Nat → Nat → Int32) (y14 : Nat → Nat → Int64) (m15 m16 m17 m18 m19 m20 : Nat → Int32) (m22 m23 m24 : Nat → Int64) (m29 : Nat → Int32) : Prop :=
  x14 n 0 = nI (fo n) ∧ m15 n = nI (fo n) ∧ (∃ l, 1 ≤ l ∧ l ≤ 60 ∧ x14 n 1 = nI l ∧ m16 n = nI l) ∧ (∃ d, d < 10000 ∧ x14 n 2 = nI d ∧ m17 n = nI d) ∧ x14 n 3 = m18 n ∧ (m18 n = -1 ∨ ∃ i, i < I ∧ m18 n = nI i ∧ x14 n 4 = m29 i) ∧ x14 n 6 = nI (la n) ∧ m19 n = nI (la n) ∧ x14 n 10 = m20 n ∧ (m20 n = -1 ∨ ∃ j, j < n ∧ m20 n = nI j) ∧ y14 n 11 = m22 n ∧ y14 n 12 = m23 n ∧ ((m22 n = 0 ↔ m23 n = 0) ∧ m22 n ≠ -1) ∧ y14 n 13 = m24 n
def rNoteL (n : Nat) (la : Nat → Nat) (x16 x17 x18 : Nat → Nat → Int32) (m26 m27 m28 : Nat → Int32) : Prop :=
  ∀ j, j < la n → x16 n j = m26 (4 * n + j) ∧ x17 n j = m27 (4 * n + j) ∧ m27 (4 * n + j) ≠ -2147483648 ∧ ∃ d, d < 10000 ∧ x18 n j = nI d ∧ m28 (4 * n + j) = nI d
def rNoteV (n : Nat) (fo : Nat → Nat) (y15 : Nat → Nat → Int64) (m8 m9 : Nat → Int32) (m21 : Nat → Int64) (m25 : Nat → Int32) : Prop :=
  ∀ k, k < 8 → (m25 (8 * n + k) = 0 ∧ y15 n k = -1) ∨ (m25 (8 * n + k) = 1 ∧ y15 n k = m21 (8 * n + k) ∧ m21 (8 * n + k) ≠ -1 ∧ ∀ s kb, m8 (fo n) = nI s → s ≤ 8 → k < s → m9 (8 * fo n + k) = nI kb → (kb = 1 ∨ kb = 4 ∨ kb = 5) → ∃ v, v ≤ 10000 ∧ m21 (8 * n + k) = lN v)
def rIssue (x20 x21 : Nat → Nat → Int32) (m29 m30 m31 m32 m33 m34 : Nat → Int32) (i : Nat) : Prop :=
  x20 i 0 = m29 i ∧ x20 i 1 = m31 i ∧ x20 i 2 = m32 i ∧ x20 i 3 = m33 i ∧ (∃ d, d < 10000 ∧ m29 i = nI d) ∧ ∃ c, c ≤ 12 ∧ x20 i 4 = nI c ∧ m30 i = nI c ∧ ∀ j, j < c → x21 i j = m34 (12 * i + j)
def rIssues (I : Nat) (x20 x21 : Nat → Nat → Int32) (m29 m30 m31 m32 m33 m34 : Nat → Int32) (xI mI xd md : Int32) : Prop :=
  I ≤ 40 ∧ xI = nI I ∧ mI = nI I ∧ xd = md ∧ ∀ i, i < I → rIssue x20 x21 m29 m30 m31 m32 m33 m34 i
def gbef (k : Int32) (one : Int64) : Int64 := if k = 0 then (if one = 1 then 0 else 1) else one
def rActs (L : List gA) (x27 x28 : Nat → Int32) (y29 y30 : Nat → Int64) (xn xs : Int32) (m1 m2 : Nat → Int32) (m3 m4 : Nat → Int64) (ms : Int32) : Prop :=
  L.length ≤ 100 ∧ xs = nI L.length ∧ ms = nI L.length ∧ ∃ q, q < 100 ∧ xn = nI q ∧ ∀ (k : Nat) (a : gA), L[k]? = some a → (m1 (L.length - 1 - k) = a.1 ∧ m2 (L.length - 1 - k) = a.2.1 ∧ m3 (L.length - 1 - k) = a.2.2.1 ∧ m4 (L.length - 1 - k) = a.2.2.2) ∧ x27 ((q + 99 - k) % 100) = a.1 ∧ x28 ((q + 99 - k) % 100) = a.2.1 ∧ y29 ((q + 99 - k) % 100) = gbef a.1 a.2.2.1 ∧ y30 ((q + 99 - k) % 100) = a.2.2.2
def rFound (x13 m43 : Nat → Int32) (xh mh : Int32) : Prop := ∃ c, c ≤ 60 ∧ xh = nI c ∧ mh = nI c ∧ ∀ j, j < c → x13 j = m43 j
def gB (F P N : Nat) (fo la : Nat → Nat) : Prop := F ≤ 60 ∧ P ≤ 12 ∧ N ≤ 60 ∧ ∀ n, n < N → fo n < P ∧ la n ≤ 4
/-- what may be taken back, act by act -/
def gIL : List gA → Nat → (Nat → Int32) → Nat → Nat → (Nat → Nat) → (Nat → Nat) → Prop
  | [], F, _, P, N, fo, la => gB F P N fo la
  | a :: r, F, fe, P, N, fo, la => gB F P N fo la ∧ (
      (a.1 = 0 ∧ ∃ d, d < 10000 ∧ a.2.1 = nI d ∧ a.2.2.1 = 1 ∧ fe d = 0 ∧ gIL r (F + 1) (upd fe d 1) P N fo la) ∨
      (a.1 = 0 ∧ ∃ d F', d < 10000 ∧ a.2.1 = nI d ∧ a.2.2.1 = 0 ∧ fe d = 1 ∧ F = F' + 1 ∧ gIL r F' (upd fe d 0) P N fo la) ∨
      (a.1 = 1 ∧ ∃ P', P = P' + 1 ∧ a.2.1 = nI P' ∧ gIL r F fe P' N fo la) ∨
      (a.1 = 2 ∧ ∃ N', N = N' + 1 ∧ a.2.1 = nI N' ∧ gIL r F fe P N' fo la) ∨
      (a.1 = 3 ∧ ∃ n c, n < N ∧ a.2.1 = nI n ∧ la n = c + 1 ∧ gIL r F fe P N fo (gun la n c)) ∨
      (a.1 = 4 ∧ ∃ n, n < N ∧ a.2.1 = nI n ∧ (a.2.2.1.toInt32 = -1 ∨ ∃ j, j < n ∧ a.2.2.1.toInt32 = nI j) ∧ gIL r F fe P N fo la) ∨
      (a.1 = 5 ∧ ∃ n, n < N ∧ a.2.1 = nI n ∧ ((a.2.2.1 = 0 ↔ a.2.2.2 = 0) ∧ a.2.2.1 ≠ -1) ∧ gIL r F fe P N fo la) ∨
      (a.1 = 6 ∧ ∃ n, n < N ∧ a.2.1 = nI n ∧ gIL r F fe P N fo la))
def rAll (F P N I : Nat) (fo la : Nat → Nat) (L : List gA) (σx σm : gz_S) : Prop :=
  rCal F (σx.2.1 2 0) (σx.1 1 0 1) (σm.1 5 0) (σm.1 0 0 11) ∧
  rTr (σx.1 0 0 10) (σx.1 3 0 8) (σx.1 3 0 9) (σx.1 3 0 10) (σm.1 0 0 1) (σm.1 0 0 2) (σm.1 0 0 3) (σm.1 0 0 4) ∧
  rTape (σx.1 4 0) (σm.1 7 0) (σx.1 3 0 1) (σm.1 0 0 14) ∧
  rForms P (σx.1 6) (σx.1 8) (σx.2.1 8) (σx.2.1 9) (σm.1 8 0) (σm.1 9 0) (σm.1 10 0) (σm.1 11 0) (σm.1 12 0) (σm.2.1 13 0) (σm.2.1 14 0) (σx.1 0 0 3) (σm.1 0 0 21) ∧
  (σx.1 10 0 1 = nI N ∧ σm.1 0 0 29 = nI N) ∧
  (∀ n, n < N → rNoteA n I fo la (σx.1 14) (σx.2.1 14) (σm.1 15 0) (σm.1 16 0) (σm.1 17 0) (σm.1 18 0) (σm.1 19 0) (σm.1 20 0) (σm.2.1 22 0) (σm.2.1 23 0) (σm.2.1 24 0) (σm.1 29 0)) ∧
  (∀ n, n < N → rNoteL n la (σx.1 16) (σx.1 17) (σx.1 18) (σm.1 26 0) (σm.1 27 0) (σm.1 28 0)) ∧
  (∀ n, n < N → rNoteV n fo (σx.2.1 15) (σm.1 8 0) (σm.1 9 0) (σm.2.1 21 0) (σm.1 25 0)) ∧
  rIssues I (σx.1 20) (σx.1 21) (σm.1 29 0) (σm.1 30 0) (σm.1 31 0) (σm.1 32 0) (σm.1 33 0) (σm.1 34 0) (σx.1 0 0 6) (σm.1 0 0 30) (σx.1 0 0 7) (σm.1 0 0 31) ∧
  rActs L (σx.1 27 0) (σx.1 28 0) (σx.2.1 29 0) (σx.2.1 30 0) (σx.1 26 0 4) (σx.1 26 0 5) (σm.1 1 0) (σm.1 2 0) (σm.2.1 3 0) (σm.2.1 4 0) (σm.1 0 0 9) ∧
  rFound (σx.1 13 0) (σm.1 43 0) (σx.1 10 0 5) (σm.1 0 0 62) ∧
  gIL L F (σm.1 5 0) P N fo la
def gR (σx σm : gz_S) : Prop := ∃ F P N I fo la L, rAll F P N I fo la L σx σm
theorem gIL.B {L : List gA} {F P N : Nat} {fe : Nat → Int32} {fo la : Nat → Nat} (h : gIL L F fe P N fo la) : gB F P N fo la := by
  cases L with
  | nil => exact h
  | cons a r => exact h.1
theorem gIL.congr : ∀ (L : List gA) {F P N : Nat} {fe : Nat → Int32} {fo la fo' la' : Nat → Nat}, gIL L F fe P N fo la → (∀ n, n < N → fo n = fo' n ∧ la n = la' n) → gIL L F fe P N fo' la' := by
  intro L
  induction L with
  | nil =>
    intro F P N fe fo la fo' la' h hc
    exact ⟨h.1, h.2.1, h.2.2.1, fun n hn => by rw [← (hc n hn).1, ← (hc n hn).2]; exact h.2.2.2 n hn⟩
  | cons a r ih =>
    intro F P N fe fo la fo' la' h hc
    refine ⟨⟨h.1.1, h.1.2.1, h.1.2.2.1, fun n hn => by rw [← (hc n hn).1, ← (hc n hn).2]; exact h.1.2.2.2 n hn⟩, ?_⟩
    rcases h.2 with ⟨e, d, h1, h2, h3, h4, h5⟩ | ⟨e, d, F', h1, h2, h3, h4, h5, h6⟩ | ⟨e, P', h1, h2, h3⟩ | ⟨e, N', h1, h2, h3⟩ | ⟨e, n, c, h1, h2, h3, h4⟩ | ⟨e, n, h1, h2, h3, h4⟩ | ⟨e, n, h1, h2, h3, h4⟩ | ⟨e, n, h1, h2, h3⟩
    · exact Or.inl ⟨e, d, h1, h2, h3, h4, ih h5 hc⟩
    · exact Or.inr (Or.inl ⟨e, d, F', h1, h2, h3, h4, h5, ih h6 hc⟩)
    · exact Or.inr (Or.inr (Or.inl ⟨e, P', h1, h2, ih h3 hc⟩))
    · exact Or.inr (Or.inr (Or.inr (Or.inl ⟨e, N', h1, h2, ih h3 (fun n hn => hc n (by omega))⟩)))
    · refine Or.inr (Or.inr (Or.inr (Or.inr (Or.inl ⟨e, n, c, h1, h2, (hc n h1).2 ▸ h3, ih h4 (fun j hj => ⟨(hc j hj).1, ?_⟩)⟩))))
      unfold gun
      split
      · rfl
      · exact (hc j hj).2
    · exact Or.inr (Or.inr (Or.inr (Or.inr (Or.inr (Or.inl ⟨e, n, h1, h2, h3, ih h4 hc⟩)))))
    · exact Or.inr (Or.inr (Or.inr (Or.inr (Or.inr (Or.inr (Or.inl ⟨e, n, h1, h2, h3, ih h4 hc⟩))))))
    · exact Or.inr (Or.inr (Or.inr (Or.inr (Or.inr (Or.inr (Or.inr ⟨e, n, h1, h2, ih h3 hc⟩))))))
theorem gIL.take : ∀ (L : List gA) {F P N : Nat} {fe : Nat → Int32} {fo la : Nat → Nat} (m : Nat), gIL L F fe P N fo la → gIL (L.take m) F fe P N fo la := by
  intro L
  induction L with
  | nil =>
    intro F P N fe fo la m h
    rw [List.take_nil]
    exact h
  | cons a r ih =>
    intro F P N fe fo la m h
    cases m with
    | zero => exact h.1
    | succ m =>
      rw [List.take_succ_cons]
      refine ⟨h.1, ?_⟩
      rcases h.2 with ⟨e, d, h1, h2, h3, h4, h5⟩ | ⟨e, d, F', h1, h2, h3, h4, h5, h6⟩ | ⟨e, P', h1, h2, h3⟩ | ⟨e, N', h1, h2, h3⟩ | ⟨e, n, c, h1, h2, h3, h4⟩ | ⟨e, n, h1, h2, h3, h4⟩ | ⟨e, n, h1, h2, h3, h4⟩ | ⟨e, n, h1, h2, h3⟩
      · exact Or.inl ⟨e, d, h1, h2, h3, h4, ih m h5⟩
      · exact Or.inr (Or.inl ⟨e, d, F', h1, h2, h3, h4, h5, ih m h6⟩)
      · exact Or.inr (Or.inr (Or.inl ⟨e, P', h1, h2, ih m h3⟩))
      · exact Or.inr (Or.inr (Or.inr (Or.inl ⟨e, N', h1, h2, ih m h3⟩)))
      · exact Or.inr (Or.inr (Or.inr (Or.inr (Or.inl ⟨e, n, c, h1, h2, h3, ih m h4⟩))))
      · exact Or.inr (Or.inr (Or.inr (Or.inr (Or.inr (Or.inl ⟨e, n, h1, h2, h3, ih m h4⟩)))))
      · exact Or.inr (Or.inr (Or.inr (Or.inr (Or.inr (Or.inr (Or.inl ⟨e, n, h1, h2, h3, ih m h4⟩))))))
      · exact Or.inr (Or.inr (Or.inr (Or.inr (Or.inr (Or.inr (Or.inr ⟨e, n, h1, h2, ih m h3⟩))))))
/-- house and reference answer alike, and stand side by side again -/
def gQ {β : Type} (x : Option (β × gz_S)) (y : Option (β × gz_S)) : Prop := gp x (fun ox => gp y (fun om => ox.1 = om.1 ∧ gR ox.2 om.2))
theorem gR_start : gR gz_s0x gz_s0m := by
  refine ⟨0, 0, 0, 0, fun _ => 0, fun _ => 0, [], ?_⟩
  refine ⟨⟨fun d hd => ⟨?_, Or.inl rfl⟩, by decide, rfl, rfl, ⟨10000, rfl, (gs_cn_false _ 0 (fun j _ _ => rfl)).symm⟩⟩, ⟨rfl, rfl, rfl, rfl⟩, ⟨fun k => ⟨rfl, by show (0 : Int32).toInt8.toInt32 = 0; decide⟩, 0, by decide, rfl, rfl⟩, ⟨rfl, rfl, fun f hf => by omega⟩, ⟨rfl, rfl⟩, fun n hn => by omega, fun n hn => by omega, fun n hn => by omega, ⟨by decide, rfl, rfl, rfl, fun i hi => by omega⟩, ⟨by decide, rfl, rfl, 0, by decide, rfl, fun k a h => by simp at h⟩, ⟨0, by decide, rfl, rfl, fun j hj => by omega⟩, by decide, by decide, by decide, fun n hn => by omega⟩
  unfold gb
  have e : ∀ x : UInt64, (((gz_s0x.2.1 2 0 (d / 64)).toUInt64 >>> x).toInt64 &&& 1) = 0 := by
    intro x
    show ((Int64.toUInt64 0 >>> x).toInt64 &&& 1) = 0
    have : Int64.toUInt64 0 >>> x = 0 := by
      apply UInt64.toNat_inj.mp
      have h0 : (Int64.toUInt64 0).toNat = 0 := by decide
      simp [h0]
    rw [this]
    decide
  rw [e]
  rfl
