/-- a contract: from the world σ with these arguments the method returns, with q; nothing outside its side changes -/
def gz_M (l : Launch) (b : Bool) (G : gz_G) (y : MethodName) (bytes : ByteArray) (maxL : Nat) (ret : Option FieldType) (rm : Room) (av : List Value) (σ : gz_S) (q : Option Value × gz_S) (mc ms : Nat) : Prop :=
  Met l y [.code y bytes maxL ret] rm (va_Pc av (fun U => gz_H b G σ U.heap ∧ gz_K G U)) (gz_Qc b G q) mc ms (gz_A b G)
theorem gz_blind {b : Bool} {G : gz_G} {av : List Value} {σ : gz_S} : FrameBlind (va_Pc av (fun U => gz_H b G σ U.heap ∧ gz_K G U)) := fun a U g mk h => ⟨h.1, h.2.1, gz_K.moved (s := U) (U := U.calling g mk a) (State.WarmedH.refl U) (fun _ _ _ => rfl) h.2.2⟩
theorem gz_enter {l : Launch} {b : Bool} {G : gz_G} {y : MethodName} {bytes : ByteArray} {maxL : Nat} {rt : Option FieldType} {rm : Room} {av : List Value} {σ : gz_S} {mc ms : Nat} {α : Type} {x : Option α} {en : α → Option Value × gz_S} (own : String) (how : y.cls = own) (hy : plainName y.cls = true) (hlen : (lg_sl av).length ≤ maxL)
    (body : ∀ (p : Program) (e : Env) (s : State) (m : MethodId) (args : Array Value) (below : List Frame) (meth : Method) (c : Code), gz_X p s m meth c G bytes own maxL rt → gz_W b p l e rm s m args below meth c G maxL (gz_Q b G below args s mc ms en) 0 0 σ 0 (lv_args 0 av) [] x) : ∀ o, x = some o → gz_M l b G y bytes maxL rt rm av σ (en o) mc ms := by
  intro o ho
  refine Met.ofW (cc := bytes) (maxL := maxL) (ret := rt) hy rfl ?_
  intro p e s m args below meth c s₁ B hml hv
  obtain ⟨rfl, hH, hK⟩ := hv
  have hl := lv_entry av hlen
  rw [lg_entry_eq]
  exact body p e s m _ below meth c ⟨B.exec, B.bytes, hml, how ▸ findClass_of_methodNamed B.named, B.returns, B.notSynchronized, hK⟩ o ho s.heap [] _ hH ⟨va_S.rf, fun _ => rfl⟩ hl
theorem gz_enterF {l : Launch} {b : Bool} {G : gz_G} {y : MethodName} {bytes : ByteArray} {maxL : Nat} {rt : Option FieldType} {rm : Room} {av : List Value} {σ : gz_S} {mc ms : Nat} {α : Type} {x : Option α} {en : α → Option Value × gz_S} (own : String) (how : y.cls = own) (hy : plainFor y = true) (hlen : (lg_sl av).length ≤ maxL)
    (body : ∀ (p : Program) (e : Env) (s : State) (m : MethodId) (args : Array Value) (below : List Frame) (meth : Method) (c : Code), gz_X p s m meth c G bytes own maxL rt → gz_W b p l e rm s m args below meth c G maxL (gz_Q b G below args s mc ms en) 0 0 σ 0 (lv_args 0 av) [] x) : ∀ o, x = some o → gz_M l b G y bytes maxL rt rm av σ (en o) mc ms := by
  intro o ho
  refine va_MetF (cc := bytes) (maxL := maxL) (ret := rt) hy rfl ?_
  intro p e s m args below meth c s₁ B hml hv
  obtain ⟨rfl, hH, hK⟩ := hv
  have hl := lv_entry av hlen
  rw [lg_entry_eq]
  exact body p e s m _ below meth c ⟨B.exec, B.bytes, hml, how ▸ findClass_of_methodNamed B.named, B.returns, B.notSynchronized, hK⟩ o ho s.heap [] _ hH ⟨va_S.rf, fun _ => rfl⟩ hl
/-- what the tables say of a callee -/
def gz_mw (y : MethodName) (bytes : ByteArray) (maxL : Nat) (ret : Option FieldType) (n : Nat) : Prop :=
  Cond.code y bytes maxL ret ∈ lw_tbl ∧ Cond.initialized y.cls ∈ lw_tbl ∧ (y.cls ≠ "java/lang/invoke/MethodHandle" ∧ y.cls ≠ "java/lang/invoke/VarHandle") ∧ (parseMethodDescriptor y.desc).map (fun d => d.parameters.length) = some n
def gz_mv (y : MethodName) : Prop := Cond.instanceMethod y ∈ lw_tbl ∧ Cond.selects y.cls y y ∈ lw_tbl
section GZC
variable {b : Bool} {p : Program} {l : Launch} {e : Env} {R : Room} {s : State} {m : MethodId} {args : Array Value} {below : List Frame} {meth : Method} {c : Code} {G : gz_G} {nL : Nat} {α : Type} {QQ : α → State → Prop} {ce sl : Nat} {σ : gz_S} {pc : Nat} {lv : List (Nat × Value)} {st : List Value} {z z1 z2 : Option α} {cc : ByteArray} {own : String} {ret : Option FieldType}
/-- below the base the heap is as it was -/
def gz_ag (G : gz_G) (s : State) (H : Heap) : Prop := ∀ q, q < s.heap.size → ¬ G.1 ≤ q → H[q]? = s.heap[q]?
theorem gz_F.ag {H : Heap} {locs : List Loc} (hS : gz_F b G s.heap H locs) : gz_ag G s H := fun q h1 h2 => hS.1.2.1 q h1 (gz_nA h2)
/-- a call that comes back with what x says -/
def gz_run (b : Bool) (p : Program) (l : Launch) (e : Env) (R : Room) (s : State) (m : MethodId) (args : Array Value) (below : List Frame) (meth : Method) (c : Code) (G : gz_G) (nL : Nat) (ce sl : Nat) (σ : gz_S) (pc : Nat) (st0 rest : List Value) (mc ms : Nat) {β : Type} (x : Option β) (en : β → Option Value × gz_S) : Prop :=
  ∀ o, x = some o → ∀ (H : Heap) (locs : List Loc) (ls : Array Slot), gz_H b G σ H → gz_ag G s H → ls.size = nL → va_Run p l e R s m args below meth c H locs ce sl mc ms (F0 m pc ls st0) rest (gz_Qc b G (en o) #[]) (gz_A b G)
variable {y : MethodName} {bytes : ByteArray} {maxL n index mc ms : Nat} {rt : Option FieldType} {rm : Room} {As rest st0 : List Value} {β : Type} {x : Option β} {en : β → Option Value × gz_S}
abbrev gz_ok (R rm : Room) (maxL ce sl mc ms : Nat) : Prop := rm.cells = mc ∧ rm.slots = ms ∧ rm.frames + 1 ≤ R.frames ∧ 8 + (maxL + 11) + rm.locals ≤ R.locals ∧ ce + mc ≤ R.cells ∧ sl + ms ≤ R.slots
theorem gz_mw.len (h : gz_mw y bytes maxL rt n) : ∀ sig, parseMethodDescriptor y.desc = some sig → n = sig.parameters.length := fun sig h1 => by
  have h2 := h.2.2.2
  rw [h1] at h2
  exact (Option.some.inj h2).symm
theorem gz_mw.pay (C : gz_X p s m meth c G cc own nL ret) (h : gz_mw y bytes maxL rt n) : ∀ w ∈ [Cond.code y bytes maxL rt], ∀ (a' : Array Value) (U : State), s.WarmedH U.vm → w.before a' U = true := fun w hw a' U hW => by
  have e1 : w = Cond.code y bytes maxL rt := by simpa using hw
  subst e1
  exact gz_warm rfl hW (C.word (args := #[]) h.1 rfl)
theorem gz_mw.B (C : gz_X p s m meth c G cc own nL ret) (h : gz_mw y bytes maxL rt n) (hl : Cond.methodLink own index y ∈ lw_tbl) (ho : gz_ok R rm maxL ce sl mc ms) : CallB R s args own index y bytes maxL rt [.code y bytes maxL rt] rm mc ms n :=
  ⟨ho.1, ho.2.1, ho.2.2.1, ho.2.2.2.1, h.pay C, List.mem_cons_self, C.word h.1 rfl, C.word h.2.1 rfl, h.2.2.1, h.len, C.word hl rfl⟩
theorem gz_mw.N {host : String} (C : gz_X p s m meth c G cc own nL ret) (h : gz_mw y bytes maxL rt n) (hl : Cond.methodLinkNest own index y host ∈ lw_tbl) (ho : gz_ok R rm maxL ce sl mc ms) : va_CN R s args own index y host bytes maxL rt [.code y bytes maxL rt] rm mc ms n :=
  ⟨⟨ho.1, ho.2.1, ho.2.2.1, ho.2.2.2.1, h.pay C, List.mem_cons_self⟩, C.word h.1 rfl, C.word h.2.1 rfl, h.2.2.1, h.len, C.word hl rfl⟩
theorem gz_fix (C : gz_X p s m meth c G cc own nL ret) : CallFix p m c cc nL s args [] own := ⟨C.1, C.2.1, C.2.2.1, C.2.2.2.1, fun w h => by cases h⟩
theorem gz_agree {H : Heap} (hS : gz_ag G s H) {U : State} (hU : U.heap = H) : ∀ q, q < s.heap.size → ¬ G.1 ≤ q → U.heap[q]? = s.heap[q]? := fun q h1 h2 => by rw [hU]; exact hS q h1 h2
theorem gz_preV {t i ci : Nat} {q : vw_C} {H : Heap} (C : gz_X p s m meth c G cc own nL ret) (hS : gz_ag G s H) (hH : gz_H b G σ H) (hi : i < gz_ct b σ.2.2 t) (hq : vwCl[ci]? = some q) (hkd : gz_kd b t = .inl (ci, q.2.2)) : PreV s H q.1 (gz_ad b G t i) (va_Pc (.ref (gz_ad b G t i) :: As) (fun U => gz_H b G σ U.heap ∧ gz_K G U)) As := by
  obtain ⟨cell, q1, q2, q3, q4⟩ := gz_obj hH hi hkd
  exact ⟨gz_blind, ⟨cell, q1, by rw [q3]; rfl, by rw [q2]; exact (C.2.2.2.2.2.2.1 ci q hq).2.1⟩, fun U hU hW => ⟨rfl, by rw [hU]; exact hH, C.2.2.2.2.2.2.moved hW (gz_agree hS hU)⟩⟩
theorem gz_preS {H : Heap} {av : List Value} (C : gz_X p s m meth c G cc own nL ret) (hS : gz_ag G s H) (hH : gz_H b G σ H) : PreS s H (va_Pc av (fun U => gz_H b G σ U.heap ∧ gz_K G U)) av :=
  ⟨gz_blind, fun U hU hW => ⟨rfl, by rw [hU]; exact hH, C.2.2.2.2.2.2.moved hW (gz_agree hS hU)⟩⟩
theorem gz_runV {t i ci : Nat} {q : vw_C} (C : gz_X p s m meth c G cc own nL ret) (d : decode cc pc = .ok (.invokevirtual index, 3)) (hl : Cond.methodLink own index y ∈ lw_tbl) (hw : gz_mw y bytes maxL rt n) (hv : gz_mv y) (hM : ∀ o, x = some o → gz_M l b G y bytes maxL rt rm (.ref (gz_ad b G t i) :: As) σ (en o) mc ms)
    (hi : i < gz_ct b σ.2.2 t) (hq : vwCl[ci]? = some q) (hkd : gz_kd b t = .inl (ci, q.2.2)) (hC : q.1 = y.cls) (hn : As.length = n) (hst : st0 = As.reverse ++ .ref (gz_ad b G t i) :: rest) (hr : (rest.map fun v => v.category).sum ≤ 8) (ho : gz_ok R rm maxL ce sl mc ms) : gz_run b p l e R s m args below meth c G nL ce sl σ pc st0 rest mc ms x en := by
  intro o hx H locs ls hH hS hz
  have h1 := gz_preV (As := As) C hS hH hi hq hkd
  rw [hC] at h1
  exact va_runV (gz_fix C) (hM o hx) ⟨hw.B C hl ho, C.word hv.1 rfl, C.word hv.2 rfl⟩ h1 rfl hn hz hst (lv_room hr) d ⟨ho.2.2.2.2.1, ho.2.2.2.2.2⟩
theorem gz_runVN {t i ci : Nat} {q : vw_C} {host : String} (C : gz_X p s m meth c G cc own nL ret) (d : decode cc pc = .ok (.invokevirtual index, 3)) (hl : Cond.methodLinkNest own index y host ∈ lw_tbl) (hw : gz_mw y bytes maxL rt n) (hv : gz_mv y) (hM : ∀ o, x = some o → gz_M l b G y bytes maxL rt rm (.ref (gz_ad b G t i) :: As) σ (en o) mc ms)
    (hi : i < gz_ct b σ.2.2 t) (hq : vwCl[ci]? = some q) (hkd : gz_kd b t = .inl (ci, q.2.2)) (hC : q.1 = y.cls) (hn : As.length = n) (hst : st0 = As.reverse ++ .ref (gz_ad b G t i) :: rest) (hr : (rest.map fun v => v.category).sum ≤ 8) (ho : gz_ok R rm maxL ce sl mc ms) : gz_run b p l e R s m args below meth c G nL ce sl σ pc st0 rest mc ms x en := by
  intro o hx H locs ls hH hS hz
  have h1 := gz_preV (As := As) C hS hH hi hq hkd
  rw [hC] at h1
  exact va_runVN (gz_fix C) (hM o hx) ⟨hw.N C hl ho, C.word hv.1 rfl, C.word hv.2 rfl⟩ h1 rfl hn hz hst (lv_room hr) d ⟨ho.2.2.2.2.1, ho.2.2.2.2.2⟩
theorem gz_runS (C : gz_X p s m meth c G cc own nL ret) (d : decode cc pc = .ok (.invokestatic index, 3)) (hl : Cond.methodLink own index y ∈ lw_tbl) (hw : gz_mw y bytes maxL rt n) (hv : Cond.static y ∈ lw_tbl) (hM : ∀ o, x = some o → gz_M l b G y bytes maxL rt rm As σ (en o) mc ms)
    (hn : As.length = n) (hst : st0 = As.reverse ++ rest) (hr : (rest.map fun v => v.category).sum ≤ 8) (ho : gz_ok R rm maxL ce sl mc ms) : gz_run b p l e R s m args below meth c G nL ce sl σ pc st0 rest mc ms x en := by
  intro o hx H locs ls hH hS hz
  exact va_runS (As := As) (gz_fix C) (hM o hx) ⟨hw.B C hl ho, C.word hv rfl⟩ (gz_preS C hS hH) rfl hn hz hst (lv_room hr) d ⟨ho.2.2.2.2.1, ho.2.2.2.2.2⟩
theorem gz_runSN {host : String} (C : gz_X p s m meth c G cc own nL ret) (d : decode cc pc = .ok (.invokestatic index, 3)) (hl : Cond.methodLinkNest own index y host ∈ lw_tbl) (hw : gz_mw y bytes maxL rt n) (hv : Cond.static y ∈ lw_tbl) (hM : ∀ o, x = some o → gz_M l b G y bytes maxL rt rm As σ (en o) mc ms)
    (hn : As.length = n) (hst : st0 = As.reverse ++ rest) (hr : (rest.map fun v => v.category).sum ≤ 8) (ho : gz_ok R rm maxL ce sl mc ms) : gz_run b p l e R s m args below meth c G nL ce sl σ pc st0 rest mc ms x en := by
  intro o hx H locs ls hH hS hz
  exact va_runSN (As := As) (gz_fix C) (hM o hx) ⟨hw.N C hl ho, C.word hv rfl, trivial⟩ (gz_preS C hS hH) rfl hn hz hst (lv_room hr) d ⟨ho.2.2.2.2.1, ho.2.2.2.2.2⟩
theorem gz_goes {v : Option Value} {u : gz_S} (h : gz_run b p l e R s m args below meth c G nL ce sl σ pc st0 rest mc ms x en) {o' : β} (hx : x = some o') (he : en o' = (v, u)) (k : gz_W b p l e R s m args below meth c G nL QQ (ce + mc) (sl + ms) u (pc + 3) lv (v.toList ++ rest) z) : gz_W b p l e R s m args below meth c G nL QQ ce sl σ pc lv st0 z := by
  intro o ho H locs ls hH hS hl T hT X
  obtain ⟨v', st₀, t, T', L, h0, X', hL, e1, e2, ⟨hv, hb, ⟨hz, hk⟩, hsz⟩, stp⟩ := h o' hx H locs ls hH hS.ag hl.1 T hT X
  cases hv
  rw [he] at stp hb
  rw [h0] at hz hk hsz
  obtain ⟨t2, a1, b1⟩ := k o ho T'.heap (locs ++ L) ls (by rw [e1]; exact hb)
    ⟨⟨Nat.le_trans hS.1.1 (by rw [e1]; exact hz), fun q h1 h2 => by rw [e1, hk q (Nat.lt_of_lt_of_le h1 hS.1.1) h2]; exact hS.1.2.1 q h1 h2, fun q hq => by
      rcases List.mem_append.mp hq with h | h
      · exact hS.1.2.2 q h
      · exact hL q h⟩, fun hb' => by rw [e1, hsz hb']; exact hS.2 hb'⟩ hl T' rfl X'
  exact ⟨t2, stp t2 a1, b1⟩
theorem gz_ki {x : Option (Int32 × gz_S)} {f : Int32 → gz_S → Option α} (h : gz_run b p l e R s m args below meth c G nL ce sl σ pc st0 rest mc ms x gz_ei) (k : ∀ (r : Int32) (u : gz_S), gz_W b p l e R s m args below meth c G nL QQ (ce + mc) (sl + ms) u (pc + 3) lv (.int r :: rest) (f r u)) : gz_W b p l e R s m args below meth c G nL QQ ce sl σ pc lv st0 (gz_call x f) := by
  cases x with
  | none => exact fun o h => by cases h
  | some o => exact gz_goes h rfl rfl (k o.1 o.2)
theorem gz_kl {x : Option (Int64 × gz_S)} {f : Int64 → gz_S → Option α} (h : gz_run b p l e R s m args below meth c G nL ce sl σ pc st0 rest mc ms x gz_el) (k : ∀ (r : Int64) (u : gz_S), gz_W b p l e R s m args below meth c G nL QQ (ce + mc) (sl + ms) u (pc + 3) lv (.long r :: rest) (f r u)) : gz_W b p l e R s m args below meth c G nL QQ ce sl σ pc lv st0 (gz_call x f) := by
  cases x with
  | none => exact fun o h => by cases h
  | some o => exact gz_goes h rfl rfl (k o.1 o.2)
theorem gz_kr {t : Nat} {x : Option (Option Nat × gz_S)} {f : Option Nat → gz_S → Option α} (h : gz_run b p l e R s m args below meth c G nL ce sl σ pc st0 rest mc ms x (gz_er b G t)) (k : ∀ (r : Option Nat) (u : gz_S), gz_W b p l e R s m args below meth c G nL QQ (ce + mc) (sl + ms) u (pc + 3) lv (gz_rv b G t r :: rest) (f r u)) : gz_W b p l e R s m args below meth c G nL QQ ce sl σ pc lv st0 (gz_call x f) := by
  cases x with
  | none => exact fun o h => by cases h
  | some o => exact gz_goes h rfl rfl (k o.1 o.2)
theorem gz_kv {x : Option gz_S} {f : gz_S → Option α} (h : gz_run b p l e R s m args below meth c G nL ce sl σ pc st0 rest mc ms x gz_eu) (k : ∀ (u : gz_S), gz_W b p l e R s m args below meth c G nL QQ (ce + mc) (sl + ms) u (pc + 3) lv rest (f u)) : gz_W b p l e R s m args below meth c G nL QQ ce sl σ pc lv st0 (gz_then x f) := by
  cases x with
  | none => exact fun o h => by cases h
  | some o => exact gz_goes h rfl rfl (k o)
end GZC
