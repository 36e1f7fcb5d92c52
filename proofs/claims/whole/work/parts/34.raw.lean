/-! CONSTRUCTORS: the cells come one by one; a field is written once, with its last value, or not at all -/
abbrev gy_S : Type := Nat × Nat
def gy_ck (k : Nat) : (Nat × Nat) ⊕ (Nat × Nat) := if k < 639 then gz_kd false (gz_inv.getD k (0, 0)).1 else gz_kd true (k - 639)
def gy_fk (k j : Nat) : Nat := if k < 639 then gz_fk false (gz_inv.getD k (0, 0)).1 j else gz_fk true (k - 639) j
def gy_ix (k : Nat) : Nat := if k < 639 then (gz_inv.getD k (0, 0)).2 else 0
/-- 0: as it was made; 1: -1; a + 2: the cell a -/
def gy_co (k j : Nat) : Nat := match gy_ck k with
  | .inl _ => match gy_fk k j with
    | 0 => if (k = 0 ∧ j = 7) ∨ (k = 639 ∧ (j = 2 ∨ j = 4 ∨ j = 31)) then 1 else 0
    | 1 => 0
    | 2 => 0
    | n + 3 => (if k < 639 then gz_ao false n (gy_ix k) else gz_ao true n (gy_ix k)) + 2
  | .inr q => match q.1 with
    | 4 => gz_ao false 8 (8 * gy_ix k + j) + 2
    | 5 => gz_ao false 6 j + 2
    | 6 => gz_ao false 20 j + 2
    | 7 => gz_ao false 14 j + 2
    | _ => 0
def gy_df (k j : Nat) : Value := match gy_ck k with
  | .inl q => defaultValue (gz_tyc q.1 j)
  | .inr q => defaultValue (gz_aty q.1)
def gy_va (G : gz_G) (k j c : Nat) : Value := match c with
  | 0 => gy_df k j
  | 1 => .int (-1)
  | a + 2 => .ref (G.1 + a)
def gy_v (G : gz_G) (ρ : gy_S) (k j : Nat) : Value := if j < 64 ∧ ρ.2.testBit (64 * k + j) = true then gy_va G k j (gy_co k j) else gy_df k j
def gy_ce (G : gz_G) (ρ : gy_S) (k : Nat) (H : Heap) : Prop := match gy_ck k with
  | .inl q => t_OB (G.1 + k) (G.2.1 q.1) q.2 (G.2.2.1 q.1) H (gy_v G ρ k)
  | .inr q => H[G.1 + k]? = some (arrV (G.2.2.2.1 q.1) q.2 (gy_v G ρ k))
def gy_H (G : gz_G) (ρ : gy_S) (H : Heap) : Prop := H.size = G.1 + ρ.1 ∧ ∀ k, k < ρ.1 → gy_ce G ρ k H
def gy_HH (G : gz_G) (n0 : Nat) (ρ : gy_S) (H : Heap) : Prop := gy_H G ρ H ∧ n0 ≤ ρ.1
def gy_sb (ρ : gy_S) (a j : Nat) : gy_S := (ρ.1, ρ.2 ||| 2 ^ (64 * a + j))
theorem gy_sb_ne {G : gz_G} {ρ : gy_S} {a j k : Nat} (hj : j < 64) (h : k ≠ a) : gy_v G (gy_sb ρ a j) k = gy_v G ρ k := by
  funext j'
  unfold gy_v
  by_cases h64 : j' < 64
  · have e : (gy_sb ρ a j).2.testBit (64 * k + j') = ρ.2.testBit (64 * k + j') := by
      show (ρ.2 ||| 2 ^ (64 * a + j)).testBit (64 * k + j') = _
      rw [Nat.testBit_or, Nat.testBit_two_pow_of_ne (by omega)]
      simp
    rw [e]
  · simp [h64]
theorem gy_sb_eq {G : gz_G} {ρ : gy_S} {a j : Nat} (hj : j < 64) : gy_v G (gy_sb ρ a j) a = updV (gy_v G ρ a) j (gy_va G a j (gy_co a j)) := by
  funext j'
  by_cases hjj : j' = j
  · subst hjj
    have e : (gy_sb ρ a j').2.testBit (64 * a + j') = true := by
      show (ρ.2 ||| 2 ^ (64 * a + j')).testBit (64 * a + j') = _
      rw [Nat.testBit_or, Nat.testBit_two_pow_self]
      simp
    simp [gy_v, updV, e, hj]
  · have e : j' < 64 → (gy_sb ρ a j).2.testBit (64 * a + j') = ρ.2.testBit (64 * a + j') := fun h64 => by
      show (ρ.2 ||| 2 ^ (64 * a + j)).testBit (64 * a + j') = _
      rw [Nat.testBit_or, Nat.testBit_two_pow_of_ne (by omega)]
      simp
    have e2 : updV (gy_v G ρ a) j (gy_va G a j (gy_co a j)) j' = gy_v G ρ a j' := by simp [updV, hjj]
    rw [e2]
    unfold gy_v
    by_cases h64 : j' < 64
    · rw [e h64]
    · simp [h64]
theorem gy_ce.keep {G : gz_G} {ρ ρ' : gy_S} {k : Nat} {H H' : Heap} (h : gy_ce G ρ k H) (hq : H'[G.1 + k]? = H[G.1 + k]?) (hv : gy_v G ρ' k = gy_v G ρ k) : gy_ce G ρ' k H' := by
  unfold gy_ce at h ⊢
  cases hc : gy_ck k with
  | inl q =>
    rw [hc] at h
    simp only at h ⊢
    rw [hv]
    exact t_OB.kept h hq
  | inr q =>
    rw [hc] at h
    simp only at h ⊢
    rw [hv, hq]
    exact h
theorem gy_ce.lt {G : gz_G} {ρ : gy_S} {k : Nat} {H : Heap} (h : gy_ce G ρ k H) : G.1 + k < H.size := by
  unfold gy_ce at h
  cases hc : gy_ck k with
  | inl q =>
    rw [hc] at h
    obtain ⟨cell, h1, -⟩ := h
    exact (Array.getElem?_eq_some_iff.mp h1).1
  | inr q =>
    rw [hc] at h
    exact (Array.getElem?_eq_some_iff.mp h).1
theorem gy_fresh {G : gz_G} {ρ : gy_S} (h : ρ.2 < 2 ^ (64 * ρ.1)) (n : Nat) : gy_v G (n, ρ.2) ρ.1 = gy_df ρ.1 := by
  funext j
  unfold gy_v
  rw [if_neg]
  intro q
  have : ρ.2.testBit (64 * ρ.1 + j) = false := Nat.testBit_lt_two_pow (Nat.lt_of_lt_of_le h (Nat.pow_le_pow_right (by decide) (Nat.le_add_right _ _)))
  rw [this] at q
  exact absurd q.2 (by decide)
theorem gy_grow {G : gz_G} {ρ : gy_S} {H H1 : Heap} (hH : gy_H G ρ H) (hb : ρ.2 < 2 ^ (64 * ρ.1)) (hz : H1.size = G.1 + ρ.1 + 1) (ho : ∀ q, q < G.1 + ρ.1 → H1[q]? = H[q]?) (hc : match gy_ck ρ.1 with
    | .inl q => t_OB (G.1 + ρ.1) (G.2.1 q.1) q.2 (G.2.2.1 q.1) H1 (gy_df ρ.1)
    | .inr q => H1[G.1 + ρ.1]? = some (arrV (G.2.2.2.1 q.1) q.2 (gy_df ρ.1))) : gy_H G (ρ.1 + 1, ρ.2) H1 := by
  refine ⟨by rw [hz]; show G.1 + ρ.1 + 1 = G.1 + (ρ.1 + 1); omega, fun k hk => ?_⟩
  have hk' : k < ρ.1 + 1 := hk
  by_cases e : k = ρ.1
  · subst e
    unfold gy_ce
    rw [gy_fresh hb]
    exact hc
  · have hk2 : k < ρ.1 := by omega
    exact (hH.2 k hk2).keep (ho _ (by omega)) rfl
theorem gy_put0 {G : gz_G} {ρ : gy_S} {H H1 : Heap} {a j : Nat} (hH : gy_H G ρ H) (ha : a < ρ.1) (hj : j < 64) (hz : H1.size = H.size) (ho : ∀ q, q ≠ G.1 + a → H1[q]? = H[q]?) (hc : gy_ce G (gy_sb ρ a j) a H1) : gy_H G (gy_sb ρ a j) H1 := by
  refine ⟨by rw [hz]; exact hH.1, fun k hk => ?_⟩
  by_cases e : k = a
  · subst e
    exact hc
  · exact (hH.2 k hk).keep (ho _ (by omega)) (gy_sb_ne hj e)
/-! the words of pure computations -/
def gy_nw {α : Type} (lim : Nat) (z : (Nat × Nat) ⊕ (Nat × Nat)) (ρ : gy_S) (f : Nat → gy_S → Option α) : Option α := if ρ.1 < lim ∧ gy_ck ρ.1 = z ∧ ρ.2 < 2 ^ (64 * ρ.1) then f ρ.1 (ρ.1 + 1, ρ.2) else none
def gy_pt {α : Type} (a : Nat) (z : Nat × Nat) (j code : Nat) (ρ : gy_S) (f : gy_S → Option α) : Option α := if a < ρ.1 ∧ gy_ck a = .inl z ∧ gy_co a j = code then f (gy_sb ρ a j) else none
def gy_as {α : Type} (a : Nat) (z : Nat × Nat) (i : Int32) (v : Nat) (y : Nat × Nat) (ρ : gy_S) (f : gy_S → Option α) : Option α := if a < ρ.1 ∧ gy_ck a = .inr z ∧ v < ρ.1 ∧ gy_ck v = .inl y ∧ z.2 < 64 ∧ 0 ≤ i.toInt ∧ i.toInt < (z.2 : Int) ∧ gy_co a i.toInt.toNat = v + 2 then f (gy_sb ρ a i.toInt.toNat) else none
def gy_gt {α : Type} (a : Nat) (z : Nat × Nat) (j : Nat) (ρ : gy_S) (f : Nat → Option α) : Option α := if a < ρ.1 ∧ gy_ck a = .inl z ∧ ρ.2.testBit (64 * a + j) = true then match gy_co a j with
    | x + 2 => f x
    | _ => none
  else none
def gy_al {α : Type} (a : Nat) (z : Nat × Nat) (ρ : gy_S) (x : Option α) : Option α := if a < ρ.1 ∧ gy_ck a = .inr z then x else none
def gy_cl {α : Type} (lim mc : Nat) (ρ : gy_S) (x : Option gy_S) (f : gy_S → Option α) : Option α := match x with
  | none => none
  | some u => if u.1 = ρ.1 + mc ∧ u.1 ≤ lim then f u else none
def gy_en (lim : Nat) (ρ : gy_S) : Option gy_S := if ρ.1 = lim then some ρ else none
def gy_l {α : Type} (f : (Int32 → gy_S → Option α) → Int32 → gy_S → Option α) : Nat → Int32 → gy_S → Option α
  | 0 => fun _ _ => none
  | n + 1 => f (gy_l f n)
theorem gy_l_ind {α : Type} {P : Int32 → gy_S → Option α → Prop} {f : (Int32 → gy_S → Option α) → Int32 → gy_S → Option α} (h0 : ∀ i u, P i u none) (hs : ∀ k, (∀ i u, P i u (k i u)) → ∀ i u, P i u (f k i u)) : ∀ n i u, P i u (gy_l f n i u)
  | 0 => h0
  | n + 1 => hs _ (gy_l_ind h0 hs n)
/-! what the statics of Throwable say -/
def gy_ao : List String := ["GazetteHouse$Form", "GazetteHouse$Field", "GazetteHouse$Notice", "GazetteHouse$Issue"]
def gy_Z (G : gz_G) (U : State) : Prop := va_Zq "java/lang/Throwable" "UNASSIGNED_STACK" "[Ljava/lang/StackTraceElement;" (fun q => G.1 ≤ q) U U.heap ∧ va_Zq "java/lang/Throwable" "SUPPRESSED_SENTINEL" "Ljava/util/List;" (fun q => G.1 ≤ q) U U.heap ∧ ∀ K ∈ gy_ao, va_AO K U
theorem gy_Z.moved {G : gz_G} {s U : State} (hW : s.WarmedH U.vm) (hh : ∀ q, q < s.heap.size → ¬ G.1 ≤ q → U.heap[q]? = s.heap[q]?) (h : gy_Z G s) : gy_Z G U := ⟨(h.1.moved hW.alike).kept hh, (h.2.1.moved hW.alike).kept hh, fun K hK => va_AO.moved hW.alike (h.2.2 K hK)⟩
def gy_KK (G : gz_G) (U : State) : Prop := gz_K G U ∧ gy_Z G U
def gy_Qc (G : gz_G) (ρ' : gy_S) : Array Value → State → Outcome → State → Prop := fun _ st oc t => oc = .returned none ∧ gy_H G ρ' t.heap ∧ va_F (fun q => G.1 ≤ q) st t
def gy_M (l : Launch) (G : gz_G) (y : MethodName) (bytes : ByteArray) (maxL : Nat) (rm : Room) (av : List Value) (ρ ρ' : gy_S) (mc ms : Nat) : Prop :=
  Met l y [.code y bytes maxL none] rm (va_Pc av (fun U => gy_H G ρ U.heap ∧ gy_KK G U)) (gy_Qc G ρ') mc ms (fun q => G.1 ≤ q)
theorem gy_blind {G : gz_G} {av : List Value} {ρ : gy_S} : FrameBlind (va_Pc av (fun U => gy_H G ρ U.heap ∧ gy_KK G U)) := fun a U g mk h => ⟨h.1, h.2.1, gz_K.moved (s := U) (U := U.calling g mk a) (State.WarmedH.refl U) (fun _ _ _ => rfl) h.2.2.1, gy_Z.moved (s := U) (U := U.calling g mk a) (State.WarmedH.refl U) (fun _ _ _ => rfl) h.2.2.2⟩
abbrev gy_W (n0 : Nat) (p : Program) (l : Launch) (e : Env) (R : Room) (s : State) (m : MethodId) (args : Array Value) (below : List Frame) (meth : Method) (c : Code) (G : gz_G) (nL : Nat) {α : Type} (QQ : α → State → Prop) (ρ : gy_S) (pc : Nat) (lv : List (Nat × Value)) (st : List Value) (z : Option α) : Prop :=
  gq_W (gy_HH G n0) (fun q => G.1 ≤ q) p l e R s m args below meth c nL QQ (ρ.1 - n0) (10000 * (ρ.1 - n0)) ρ pc lv st z
def gy_Q (G : gz_G) (below : List Frame) (args : Array Value) (s : State) (mc ms : Nat) (o : gy_S) : State → Prop := MQ below (gy_Qc G o) args s mc ms (fun q => G.1 ≤ q)
theorem gy_enter {l : Launch} {G : gz_G} {y : MethodName} {bytes : ByteArray} {maxL : Nat} {rm : Room} {av : List Value} {ρ : gy_S} {mc ms : Nat} {x : Option gy_S} (own : String) (how : y.cls = own) (hnm : y.name = "<init>") (hy : plainFor y = true) (hlen : (lg_sl av).length ≤ maxL)
    (body : ∀ (p : Program) (e : Env) (s : State) (m : MethodId) (args : Array Value) (below : List Frame) (meth : Method) (c : Code), gz_X p s m meth c G bytes own maxL none → gy_Z G s → meth.name = "<init>" → gy_W ρ.1 p l e rm s m args below meth c G maxL (gy_Q G below args s mc ms) ρ 0 (lv_args 0 av) [] x) : ∀ o, x = some o → gy_M l G y bytes maxL rm av ρ o mc ms := by
  intro o ho
  refine va_MetF (cc := bytes) (maxL := maxL) (ret := none) hy rfl ?_
  intro p e s m args below meth c s₁ B hml hv
  obtain ⟨rfl, hH, hK, hZ⟩ := hv
  have hl := lv_entry av hlen
  rw [lg_entry_eq]
  have hin : meth.name = "<init>" := (name_of_methodNamed B.named B.method).1.trans hnm
  have r := body p e s m av.toArray below meth c ⟨B.exec, B.bytes, hml, how ▸ findClass_of_methodNamed B.named, B.returns, B.notSynchronized, hK⟩ hZ hin o ho s.heap [] _ ⟨hH, Nat.le_refl _⟩ va_S.rf hl
  rw [Nat.sub_self] at r
  exact r
section GR
variable {n0 : Nat} {p : Program} {l : Launch} {e : Env} {R : Room} {s : State} {m : MethodId} {args : Array Value} {below : List Frame} {meth : Method} {c : Code} {G : gz_G} {nL : Nat} {α : Type} {QQ : α → State → Prop} {ρ : gy_S} {pc : Nat} {lv : List (Nat × Value)} {st : List Value} {z z1 z2 : Option α} {cc : ByteArray} {own : String} {ret : Option FieldType}
theorem gy_wid {H : Heap} {locs : List Loc} {c0 s0 c1 s1 : Nat} {g : JFrame} {Q : State → Prop} (h1 : c0 ≤ c1) (h2 : s0 ≤ s1) (k : W p l e R s m args below meth c H locs c1 s1 Q g) : W p l e R s m args below meth c H locs c0 s0 Q g := W.widen h1 h2 k
theorem gy_S_grow {H H1 : Heap} {locs : List Loc} {n : Nat} (hS : va_S (fun q => G.1 ≤ q) s.heap H locs) (hn : H.size = n) (hz : H1.size = n + 1) (ho : ∀ q, q < n → H1[q]? = H[q]?) : va_S (fun q => G.1 ≤ q) s.heap H1 locs := by
  subst hn
  exact ⟨Nat.le_trans hS.1 (by omega), fun q g1 g2 => (ho q (Nat.lt_of_lt_of_le g1 hS.1)).trans (hS.2.1 q g1 g2), hS.2.2⟩
theorem gy_new (C : gz_X p s m meth c G cc own nL ret) {ci index lim : Nat} {q : vw_C} {f : Nat → gy_S → Option α} (d : decode cc pc = .ok (.new index, 3)) (hcl : Cond.classLink own index q.1 ∈ lw_tbl) (hin : Cond.instantiable q.1 q.2.2 ∈ lw_tbl) (hini : Cond.initialized q.1 ∈ lw_tbl) (hq : vwCl[ci]? = some q) (hN : q.2.2 ≤ 10000) (hlc : lim ≤ n0 + R.cells) (hls : 10000 * (lim - n0) ≤ R.slots) (k : ∀ a u, gy_W n0 p l e R s m args below meth c G nL QQ u (pc + 3) lv (.ref (G.1 + a) :: st) (f a u)) : gy_W n0 p l e R s m args below meth c G nL QQ ρ pc lv st (gy_nw lim (.inl (ci, q.2.2)) ρ f) := by
  intro o h H locs ls hH hS hl
  unfold gy_nw at h
  split at h
  · rename_i hg
    obtain ⟨hg1, hg2, hg3⟩ := hg
    have hn0 : n0 ≤ ρ.1 := hH.2
    refine W.newcK (h := G.1 + ρ.1) C.1 C.2.1 C.2.2.2.1 (C.word hcl rfl) (C.word hin rfl) (C.word hini rfl) (g := F0 m pc ls st) rfl d (by omega) (by omega) (C.2.2.2.2.2.2.1 ci q hq).2.1 hH.1.1 fun H1 kC hkC e1 z1 o1 => ?_
    have hg4 : gy_H G (ρ.1 + 1, ρ.2) H1 := gy_grow hH.1 hg3 z1 o1 (by
      rw [hg2]
      have hb := u_born (gz_tyc ci) (gz_lays (args := args) C hq) (fun _ h => h) (C.2.2.2.2.2.2.1 ci q hq) hkC e1 (gz_cls ci q hq).2.1
      refine t_OB.to hb (fun j hj => ?_)
      unfold gy_df
      rw [hg2])
    refine gy_wid (c1 := (ρ.1 + 1) - n0) (s1 := 10000 * ((ρ.1 + 1) - n0)) (by omega) (by omega) ?_
    exact k ρ.1 (ρ.1 + 1, ρ.2) o h H1 locs ls ⟨hg4, Nat.le_succ_of_le hn0⟩ (gy_S_grow hS hH.1.1 z1 o1) hl
  · cases h
theorem gy_newa (C : gz_X p s m meth c G cc own nL ret) {ek len lim : Nat} {n : Int32} {atype : ArrayType} {f : Nat → gy_S → Option α} (d : decode cc pc = .ok (.newarray atype, 2)) (hw : Cond.arrayClass (newarray.typeOf atype) ∈ lw_tbl) (hek : ek < 4) (hty : newarray.typeOf atype = gz_aty ek) (hra : ∀ U cA, va_RA U cA (gz_aty ek) = (U.vm.findClass ("[" ++ (gz_aty ek).toString) = some cA)) (hn : ¬ n < 0) (hN : n.toNatClampNeg = len) (hN2 : len ≤ 10000) (hby : len * componentBytes (newarray.typeOf atype) ≤ 536870912) (hlc : lim ≤ n0 + R.cells) (hls : 10000 * (lim - n0) ≤ R.slots) (k : ∀ a u, gy_W n0 p l e R s m args below meth c G nL QQ u (pc + 2) lv (.ref (G.1 + a) :: st) (f a u)) : gy_W n0 p l e R s m args below meth c G nL QQ ρ pc lv (.int n :: st) (gy_nw lim (.inr (ek, len)) ρ f) := by
  intro o h H locs ls hH hS hl
  unfold gy_nw at h
  split at h
  · rename_i hg
    obtain ⟨hg1, hg2, hg3⟩ := hg
    have hn0 : n0 ≤ ρ.1 := hH.2
    refine va_newaK (h := G.1 + ρ.1) (N := len) (atype := atype) C.1 C.2.1 (C.word (w := Cond.arrayClass (newarray.typeOf atype)) hw rfl) (g := F0 m pc ls (.int n :: st)) rfl d rfl hn hN hby (by omega) (by omega) hH.1.1 fun H1 cA e1 z1 o1 hAr hNm => ?_
    have hcA : cA = G.2.2.2.1 ek := by
      have h3 := (C.2.2.2.2.2.2.2.1 ek (by omega)).2
      rw [hra] at h3
      rw [hty] at hNm
      exact Option.some.inj (hNm.symm.trans h3)
    have hg4 : gy_H G (ρ.1 + 1, ρ.2) H1 := gy_grow hH.1 hg3 z1 o1 (by
      rw [hg2]
      show H1[G.1 + ρ.1]? = some (arrV (G.2.2.2.1 ek) len (gy_df ρ.1))
      have e2 : gy_df ρ.1 = fun _ => defaultValue (newarray.typeOf atype) := by
        funext j
        unfold gy_df
        rw [hg2, hty]
      rw [e1, hcA, e2])
    refine gy_wid (c1 := (ρ.1 + 1) - n0) (s1 := 10000 * ((ρ.1 + 1) - n0)) (by omega) (by omega) ?_
    exact k ρ.1 (ρ.1 + 1, ρ.2) o h H1 locs ls ⟨hg4, Nat.le_succ_of_le hn0⟩ (gy_S_grow hS hH.1.1 z1 o1) hl
  · cases h
theorem gy_anew (C : gz_X p s m meth c G cc own nL ret) {ek len lim index : Nat} {n : Int32} {K : String} {f : Nat → gy_S → Option α} (d : decode cc pc = .ok (.anewarray index, 3)) (hcl : Cond.classLink own index K ∈ lw_tbl) (hZ : gy_Z G s) (hw : K ∈ gy_ao) (hek : ek < 8) (hty : gz_aty ek = .object K) (hn : ¬ n < 0) (hN : n.toNatClampNeg = len) (hN2 : len ≤ 10000) (hlc : lim ≤ n0 + R.cells) (hls : 10000 * (lim - n0) ≤ R.slots) (k : ∀ a u, gy_W n0 p l e R s m args below meth c G nL QQ u (pc + 3) lv (.ref (G.1 + a) :: st) (f a u)) : gy_W n0 p l e R s m args below meth c G nL QQ ρ pc lv (.int n :: st) (gy_nw lim (.inr (ek, len)) ρ f) := by
  intro o h H locs ls hH hS hl
  unfold gy_nw at h
  split at h
  · rename_i hg
    obtain ⟨hg1, hg2, hg3⟩ := hg
    have hn0 : n0 ≤ ρ.1 := hH.2
    subst hN
    refine W.anew C.1 C.2.1 C.2.2.2.1 (C.word hcl rfl) (va_AO.use (hZ.2.2 K hw)) (g := F0 m pc ls (.int n :: st)) rfl d rfl hn (by omega) (by omega) (by omega) fun cA kA comp f1 f2 f3 f4 => ?_
    generalize hH1 : H.push ({ cls := cA, slots := Array.replicate n.toNatClampNeg .null, vm := .none } : Cell) = H1
    have z1 : H1.size = G.1 + ρ.1 + 1 := by rw [← hH1, Array.size_push, hH.1.1]
    have e1 : H1[G.1 + ρ.1]? = some (arrV cA n.toNatClampNeg (fun _ => .null)) := by rw [← hH1, ← hH.1.1, Array.getElem?_push_size, ← arrV_new]
    have o1 : ∀ q : Nat, q < G.1 + ρ.1 → H1[q]? = H[q]? := fun q hq => by rw [← hH1, Array.getElem?_push, if_neg (by rw [hH.1.1]; exact Nat.ne_of_lt hq)]
    have hcA : cA = G.2.2.2.1 ek := by
      have h3 := (C.2.2.2.2.2.2.2.1 ek hek).2
      rw [hty] at h3
      obtain ⟨_, _, -, -, -, h4⟩ := h3
      exact Option.some.inj (f1.symm.trans h4)
    have hg4 : gy_H G (ρ.1 + 1, ρ.2) H1 := gy_grow hH.1 hg3 z1 o1 (by
      rw [hg2]
      show H1[G.1 + ρ.1]? = some (arrV (G.2.2.2.1 ek) n.toNatClampNeg (gy_df ρ.1))
      have e2 : gy_df ρ.1 = fun _ => Value.null := by
        funext j
        unfold gy_df
        rw [hg2]
        show defaultValue (gz_aty ek) = _
        rw [hty]
        rfl
      rw [e1, hcA, e2])
    refine gy_wid (c1 := (ρ.1 + 1) - n0) (s1 := 10000 * ((ρ.1 + 1) - n0)) (by omega) (by omega) ?_
    have r := k ρ.1 (ρ.1 + 1, ρ.2) o h H1 locs ls ⟨hg4, Nat.le_succ_of_le hn0⟩ (gy_S_grow hS hH.1.1 z1 o1) hl
    rw [← hH.1.1] at r
    exact r
  · cases h
theorem gy_obj {a ci : Nat} {q : vw_C} {H : Heap} (hH : gy_H G ρ H) (ha : a < ρ.1) (hk : gy_ck a = .inl (ci, q.2.2)) : t_OB (G.1 + a) (G.2.1 ci) q.2.2 (G.2.2.1 ci) H (gy_v G ρ a) := by
  have h := hH.2 a ha
  unfold gy_ce at h
  rw [hk] at h
  exact h
theorem gy_arr {a ek len : Nat} {H : Heap} (hH : gy_H G ρ H) (ha : a < ρ.1) (hk : gy_ck a = .inr (ek, len)) : H[G.1 + a]? = some (arrV (G.2.2.2.1 ek) len (gy_v G ρ a)) := by
  have h := hH.2 a ha
  unfold gy_ce at h
  rw [hk] at h
  exact h
theorem gy_put (C : gz_X p s m meth c G cc own nL ret) (hin : meth.name = "<init>") {a k ci index code : Nat} {q : vw_C} {v : Value} {f : gy_S → Option α} (d : decode cc pc = .ok (.putfield index, 3)) (hlk : Cond.fieldLink own index (q.2.1 k).1 (q.2.1 k).2.1 (q.2.1 k).2.2.1 ∈ lw_tbl) (hq : vwCl[ci]? = some q) (hk : k < q.2.2) (h64 : k < 64) (hdecl : (q.2.1 k).1 = own) (hv : gy_va G a k code = v) (hn : narrow (gz_tyc ci k) v = v) (hft : fits (gz_tyc ci k) v = true) (kk : ∀ u, gy_W n0 p l e R s m args below meth c G nL QQ u (pc + 3) lv st (f u)) : gy_W n0 p l e R s m args below meth c G nL QQ ρ pc lv (v :: .ref (G.1 + a) :: st) (gy_pt a (ci, q.2.2) k code ρ f) := by
  intro o ho H locs ls hH hS hl
  unfold gy_pt at ho
  split at ho
  · rename_i hg
    obtain ⟨hg1, hg2, hg3⟩ := hg
    have hcl := gz_cls ci q hq
    have hap := va_apart (own := own) (args := args) (D := (G.2.1, G.2.2.1)) (tys := []) (gz_lays (args := args) C hq) (fun _ h => h) (gz_tyc ci) hcl.2.1 hcl.2.2 (cl := vwCl) ⟨C.2.2.2.2.2.2.1, fun _ _ h => by simp at h⟩ hq
    obtain ⟨cell, q1, q2, q3, q4⟩ := gy_obj hH.1 hg1 hg2
    obtain ⟨hSl, hfc, kC, hkC, hkind⟩ := C.2.2.2.2.2.2.1 ci q hq
    obtain ⟨cf, kf, fi, f', hif, hsl⟩ := hSl k hk
    have hlay := gz_lays (args := args) C hq _ (u_in_lay hk)
    have hst := (u_facts hfc hkC (u_lays (gz_lays (args := args) C hq) (fun _ h => h) hk) hif).1
    have fin : ∀ (H' : Heap), H'[G.1 + a]? = some (cell.setSlot f'.slot v) → H'.size = H.size → (∀ q, q ≠ G.1 + a → H'[q]? = H[q]?) → W p l e R s m args below meth c H' (locs ++ [⟨G.1 + a, f'.slot⟩]) (ρ.1 - n0) (10000 * (ρ.1 - n0)) (QQ o) (F0 m (pc + 3) ls st) := by
      intro H' e1 e2 e3
      rw [hsl] at e1
      refine kk _ o ho H' _ ls ⟨gy_put0 hH.1 hg1 h64 e2 e3 ?_, hH.2⟩ (hS.put e2 e3 (Nat.le_add_right _ _)) hl
      unfold gy_ce
      rw [hg2]
      show t_OB _ _ _ _ _ _
      rw [gy_sb_eq h64, hg3, hv]
      exact ⟨_, e1, q2, q3, t_set q4 hap hk v⟩
    unfold u_lay at hlay
    split at hlay
    · rename_i hfin
      have hcf : m.cls = cf := by
        obtain ⟨_, _, c', _, _, _, -, -, hf', -, -, -, hown2, -⟩ := Cond.laysFinal_spec hlay
        have e1 : c' = cf := by have := hif.symm.trans hf'; simp at this; exact this.1.symm
        rw [hdecl] at hown2
        rw [← e1]; exact Option.some.inj (C.2.2.2.1.symm.trans hown2)
      have h6 := u_fits hfc hkC hkind (Or.inr hlay) hif (hcl.2.1 k hk) hn hft
      exact W.putFinK C.1 C.2.1 C.2.2.2.1 (C.word hlk rfl) hif hst hcf hin (by rw [q2]; exact h6) q1 q3 (by rw [hsl]; exact k2_hasslot (q4 k hk)) rfl rfl d fin
    · have h6 := u_store hfc hkC hkind hlay hif (hcl.2.1 k hk) hn hft
      exact W.putK C.1 C.2.1 (f := f') ⟨C.2.2.2.1, C.word hlk rfl, ⟨_, _, _, hif⟩, hst⟩ (by rw [q2]; exact h6) q1 q3 (by rw [hsl]; exact k2_hasslot (q4 k hk)) rfl rfl d fin
  · cases ho
theorem gy_get (C : gz_X p s m meth c G cc own nL ret) {a k ci index : Nat} {q : vw_C} {f : Nat → Option α} (d : decode cc pc = .ok (.getfield index, 3)) (hlk : Cond.fieldLink own index (q.2.1 k).1 (q.2.1 k).2.1 (q.2.1 k).2.2.1 ∈ lw_tbl) (hq : vwCl[ci]? = some q) (hk : k < q.2.2) (h64 : k < 64) (kk : ∀ x, gy_W n0 p l e R s m args below meth c G nL QQ ρ (pc + 3) lv (.ref (G.1 + x) :: st) (f x)) : gy_W n0 p l e R s m args below meth c G nL QQ ρ pc lv (.ref (G.1 + a) :: st) (gy_gt a (ci, q.2.2) k ρ f) := by
  intro o ho H locs ls hH hS hl
  unfold gy_gt at ho
  split at ho
  · rename_i hg
    obtain ⟨hg1, hg2, hg3⟩ := hg
    split at ho
    · rename_i x hx
      obtain ⟨cell, q1, q2, q3, q4⟩ := gy_obj hH.1 hg1 hg2
      obtain ⟨hSl, hfc, kC, hkC, hkind⟩ := C.2.2.2.2.2.2.1 ci q hq
      obtain ⟨cf, kf, fi, f', hif, hsl⟩ := hSl k hk
      have hv : gy_v G ρ a k = .ref (G.1 + x) := by
        unfold gy_v
        rw [if_pos ⟨h64, hg3⟩, hx]
        rfl
      exact W.getf C.1 C.2.1 C.2.2.2.1 (C.word hlk rfl) hif (u_facts hfc hkC (u_lays (gz_lays (args := args) C hq) (fun _ h => h) hk) hif).1 q1 (by rw [q3]; exact fun h => by cases h) (v := .ref (G.1 + x)) (by rw [hsl, q4 k hk, hv]) rfl rfl d (kk x o ho H locs ls hH hS hl)
    · cases ho
  · cases ho
theorem gy_alen (C : gz_X p s m meth c G cc own nL ret) {a len ek : Nat} {v : Int32} (d : decode cc pc = .ok (.arraylength, 1)) (hek : ek < 8) (hv : len.toInt32 = v) (kk : gy_W n0 p l e R s m args below meth c G nL QQ ρ (pc + 1) lv (.int v :: st) z) : gy_W n0 p l e R s m args below meth c G nL QQ ρ pc lv (.ref (G.1 + a) :: st) (gy_al a (ek, len) ρ z) := by
  intro o ho H locs ls hH hS hl
  unfold gy_al at ho
  split at ho
  · rename_i hg
    exact W.alen C.1 C.2.1 (gy_arr hH.1 hg.1 hg.2) ((C.2.2.2.2.2.2.2.1 ek hek).1 len _) (by show (arrV _ _ _).slots.size.toInt32 = _; rw [arrV_size]; exact hv) rfl rfl d (kk o ho H locs ls hH hS hl)
  · cases ho
theorem gy_aast (C : gz_X p s m meth c G cc own nL ret) {a len ek v ci : Nat} {q : vw_C} {i : Int32} {f : gy_S → Option α} (d : decode cc pc = .ok (.aastore, 1)) (hek : ek < 8) (hq : vwCl[ci]? = some q) (hty : gz_aty ek = .object q.1) (kk : ∀ u, gy_W n0 p l e R s m args below meth c G nL QQ u (pc + 1) lv st (f u)) : gy_W n0 p l e R s m args below meth c G nL QQ ρ pc lv (.ref (G.1 + v) :: .int i :: .ref (G.1 + a) :: st) (gy_as a (ek, len) i v (ci, q.2.2) ρ f) := by
  intro o ho H locs ls hH hS hl
  unfold gy_as at ho
  split at ho
  · rename_i hg
    obtain ⟨hg1, hg2, hg3, hg4, hg5, hg6, hg7, hg8⟩ := hg
    have hg7' : i.toInt < (len : Int) := hg7
    have hg5' : len < 64 := hg5
    have h0 : ¬ i < 0 := fun h => by
      have := Int32.lt_iff_toInt_lt.mp h
      simp at this
      omega
    have hcn : i.toNatClampNeg = i.toInt.toNat := rfl
    have hlt : i.toNatClampNeg < len := by rw [hcn]; omega
    obtain ⟨cellV, g1, g2, g3, -⟩ := gy_obj hH.1 hg3 hg4
    have hcls := (C.2.2.2.2.2.2.1 ci q hq).2
    have hra := (C.2.2.2.2.2.2.2.1 ek hek).2
    rw [hty] at hra
    obtain ⟨kA, comp, k1, k2, k3, -⟩ := hra
    have hcomp : comp = G.2.1 ci := Option.some.inj (k3.symm.trans hcls.1)
    subst hcomp
    obtain ⟨kC, hkC, -⟩ := hcls.2
    refine W.aast C.1 C.2.1 (gy_arr hH.1 hg1 hg2) (fun q h => by cases h) (fun h => by cases h) k1 k2 rfl hkC ⟨h0, by show _ < (arrV _ _ _).slots.size; rw [arrV_size]; exact hlt⟩ g1 (fun q h => by rw [g3] at h; cases h) (by rw [g2]; exact hkC) (by rw [g2]; exact va_assign hcls) rfl rfl d fun H1 e z oq => ?_
    rw [hcn] at e
    refine kk _ o ho H1 _ ls ⟨gy_put0 hH.1 hg1 (by omega) z oq ?_, hH.2⟩ (hS.put z oq (Nat.le_add_right _ _)) hl
    unfold gy_ce
    rw [hg2]
    show H1[G.1 + a]? = some (arrV _ _ _)
    rw [gy_sb_eq (by omega), hg8, e, arrV_store]
    rfl
  · cases ho
theorem gy_oin (C : gz_X p s m meth c G cc own nL ret) {a index : Nat} (d : decode cc pc = .ok (.invokespecial index, 3)) (hlk : Cond.methodLink own index Lib.objectInit ∈ lw_tbl) (hin : Cond.instanceMethod Lib.objectInit ∈ lw_tbl) (hco : Cond.code Lib.objectInit ⟨#[0xb1]⟩ 1 none ∈ lw_tbl) (hf : 1 ≤ R.frames) (hlo : 12 ≤ R.locals) (kk : gy_W n0 p l e R s m args below meth c G nL QQ ρ (pc + 3) lv [] z) : gy_W n0 p l e R s m args below meth c G nL QQ ρ pc lv [.ref a] z := by
  intro o ho H locs ls hH hS hl
  exact W.objInit C.1 C.2.1 C.2.2.2.1 (C.word hlk rfl) (C.word hin rfl) (C.word hco rfl) (g := F0 m pc ls [.ref a]) rfl (by rw [C.2.2.1]; exact hl.1) rfl d hf (by simpa [F0, JFrame.monitorRoom] using hlo) (kk o ho H locs ls hH hS hl)
theorem gy_vret (C : gz_X p s m meth c G cc own nL ret) {mc ms : Nat} (hr : ret = none) (hms : ms = 10000 * mc) {QQ : gy_S → State → Prop} (hQ : QQ = gy_Q G below args s mc ms) (d : decode cc pc = .ok (.return_, 1)) : gy_W n0 p l e R s m args below meth c G nL QQ ρ pc lv [] (gy_en (n0 + mc) ρ) := by
  intro o ho H locs ls hH hS hl
  unfold gy_en at ho
  split at ho
  · rename_i hg
    cases ho
    subst hQ
    subst hms
    have h0 := hH.2
    have e1 : ρ.1 - n0 = mc := by omega
    rw [e1]
    exact W.vret C.1 C.2.1 (C.2.2.2.2.1.trans hr) (fun t ht hW => ⟨rfl, by rw [ht]; exact hH.1, hS.F ht⟩) hS.2.2 d (hlocks := C.2.2.2.2.2.1)
  · cases ho
theorem gy_pre {H : Heap} {locs : List Loc} {av : List Value} (C : gz_X p s m meth c G cc own nL ret) (hZ : gy_Z G s) (hS : va_S (fun q => G.1 ≤ q) s.heap H locs) (hH : gy_H G ρ H) : PreS s H (va_Pc av (fun U => gy_H G ρ U.heap ∧ gy_KK G U)) av :=
  ⟨gy_blind, fun U hU hW => ⟨rfl, by rw [hU]; exact hH, C.2.2.2.2.2.2.moved hW (gz_agree (gl_ag hS) hU), hZ.moved hW (gz_agree (gl_ag hS) hU)⟩⟩
theorem gy_goes {H : Heap} {locs : List Loc} {ls : Array Slot} {lim mc ms : Nat} {rest st0 : List Value} {u : gy_S} {o : α} {f : gy_S → Option α} (hn0 : n0 ≤ ρ.1) (hu : u.1 = ρ.1 + mc ∧ u.1 ≤ lim) (hms : ms = 10000 * mc) (hS : va_S (fun q => G.1 ≤ q) s.heap H locs) (hl : lv_has ls nL lv) (r : va_Run p l e R s m args below meth c H locs (ρ.1 - n0) (10000 * (ρ.1 - n0)) mc ms (F0 m pc ls st0) rest (gy_Qc G u #[]) (fun q => G.1 ≤ q)) (k : gy_W n0 p l e R s m args below meth c G nL QQ u (pc + 3) lv rest (f u)) (ho : f u = some o) : W p l e R s m args below meth c H locs (ρ.1 - n0) (10000 * (ρ.1 - n0)) (QQ o) (F0 m pc ls st0) := by
  intro T hT X
  obtain ⟨v', st₀, t, T', L, h0, X', hL, e1, e2, ⟨hv, hb, hF⟩, stp⟩ := r T hT X
  cases hv
  obtain ⟨hz, hk⟩ := hF
  rw [h0] at hz hk
  have hS' : va_S (fun q => G.1 ≤ q) s.heap T'.heap (locs ++ L) := ⟨Nat.le_trans hS.1 (by rw [e1]; exact hz), fun q h1 h2 => by rw [e1, hk q (Nat.lt_of_lt_of_le h1 hS.1) h2]; exact hS.2.1 q h1 h2, fun q hq => by
    rcases List.mem_append.mp hq with h | h
    · exact hS.2.2 q h
    · exact hL q h⟩
  subst hms
  have ec : ρ.1 - n0 + mc = u.1 - n0 := by omega
  have es : 10000 * (ρ.1 - n0) + 10000 * mc = 10000 * (u.1 - n0) := by omega
  rw [ec, es] at X'
  obtain ⟨t2, a1, b1⟩ := k o ho T'.heap (locs ++ L) ls ⟨by rw [e1]; exact hb, by omega⟩ hS' hl T' rfl X'
  exact ⟨t2, stp t2 a1, b1⟩
abbrev gy_ok (R rm : Room) (n0 lim maxL mc ms : Nat) : Prop := rm.cells = mc ∧ rm.slots = ms ∧ rm.frames + 1 ≤ R.frames ∧ 8 + (maxL + 11) + rm.locals ≤ R.locals ∧ lim ≤ n0 + R.cells ∧ 10000 * (lim - n0) ≤ R.slots ∧ ms = 10000 * mc
theorem gy_ok.ok {rm : Room} {lim maxL mc ms : Nat} {u : gy_S} (h : gy_ok R rm n0 lim maxL mc ms) (hn0 : n0 ≤ ρ.1) (hu : u.1 = ρ.1 + mc ∧ u.1 ≤ lim) : gz_ok R rm maxL (ρ.1 - n0) (10000 * (ρ.1 - n0)) mc ms := by
  obtain ⟨h1, h2, h3, h4, h5, h6, h7⟩ := h
  exact ⟨h1, h2, h3, h4, by omega, by omega⟩
variable {y : MethodName} {bytes : ByteArray} {maxL n index mc ms lim : Nat} {rm : Room} {As rest st0 : List Value} {x : Option gy_S} {f : gy_S → Option α} {b : Nat}
theorem gy_call (C : gz_X p s m meth c G cc own nL ret) (hZ : gy_Z G s) (d : decode cc pc = .ok (.invokespecial index, 3)) (hlk : Cond.methodLink own index y ∈ lw_tbl) (hw : gz_mw y bytes maxL none n) (hi : y.name = "<init>") (hm : Cond.instanceMethod y ∈ lw_tbl) (hM : ∀ o, x = some o → gy_M l G y bytes maxL rm (.ref b :: As) ρ o mc ms) (hn : As.length = n) (hst : st0 = As.reverse ++ .ref b :: rest) (hr : (rest.map fun v => v.category).sum ≤ 8) (hok : gy_ok R rm n0 lim maxL mc ms) (k : ∀ u, gy_W n0 p l e R s m args below meth c G nL QQ u (pc + 3) lv rest (f u)) : gy_W n0 p l e R s m args below meth c G nL QQ ρ pc lv st0 (gy_cl lim mc ρ x f) := by
  intro o ho H locs ls hH hS hl
  unfold gy_cl at ho
  cases x with
  | none => cases ho
  | some u =>
    simp only at ho
    split at ho
    · rename_i hu
      have ho' := hok.ok hH.2 hu
      exact gy_goes hH.2 hu hok.2.2.2.2.2.2 hS hl (va_runI (gz_fix C) (hM u rfl) ⟨hw.B C hlk ho', hi, C.word hm rfl⟩ (gy_pre C hZ hS hH.1) rfl hn hl.1 hst (lv_room hr) d ⟨ho'.2.2.2.2.1, ho'.2.2.2.2.2⟩) (k u) ho
    · cases ho
theorem gy_callN {host : String} (C : gz_X p s m meth c G cc own nL ret) (hZ : gy_Z G s) (d : decode cc pc = .ok (.invokespecial index, 3)) (hlk : Cond.methodLinkNest own index y host ∈ lw_tbl) (hw : gz_mw y bytes maxL none n) (hi : y.name = "<init>") (hm : Cond.instanceMethod y ∈ lw_tbl) (hM : ∀ o, x = some o → gy_M l G y bytes maxL rm (.ref b :: As) ρ o mc ms) (hn : As.length = n) (hst : st0 = As.reverse ++ .ref b :: rest) (hr : (rest.map fun v => v.category).sum ≤ 8) (hok : gy_ok R rm n0 lim maxL mc ms) (k : ∀ u, gy_W n0 p l e R s m args below meth c G nL QQ u (pc + 3) lv rest (f u)) : gy_W n0 p l e R s m args below meth c G nL QQ ρ pc lv st0 (gy_cl lim mc ρ x f) := by
  intro o ho H locs ls hH hS hl
  unfold gy_cl at ho
  cases x with
  | none => cases ho
  | some u =>
    simp only at ho
    split at ho
    · rename_i hu
      have ho' := hok.ok hH.2 hu
      exact gy_goes hH.2 hu hok.2.2.2.2.2.2 hS hl (va_runIN (gz_fix C) (hM u rfl) ⟨hw.N C hlk ho', hi, C.word hm rfl⟩ (gy_pre C hZ hS hH.1) rfl hn hl.1 hst (lv_room hr) d ⟨ho'.2.2.2.2.1, ho'.2.2.2.2.2⟩) (k u) ho
    · cases ho
end GR
