/-! THROWS: methods that may throw the reference's Stop (cell 6 of its side), and their callers -/
def gz_QTc (b : Bool) (G : gz_G) (q : Outcome × gz_S) : Array Value → State → Outcome → State → Prop := fun _ st oc t => oc = q.1 ∧ gz_H b G q.2 t.heap ∧ va_F (gz_A b G) st t ∧ (b = false → t.heap.size = st.heap.size)
def gz_FT (first t : State) (L : List Loc) (k n : Nat) : Prop := first.WarmedH t.vm ∧ first.sameButNew ({ t with vm := first.vm } : State) L k n
def gz_MQT (below : List Frame) (Qc : Array Value → State → Outcome → State → Prop) (a : Array Value) (s : State) (mc ms : Nat) (free : Addr → Prop) : State → Prop := fun t =>
  ∃ o, t.status = .running ∧ Ended t below o ∧ Qc a s o t ∧ ∃ L, gz_FT s t L mc ms ∧ ∀ q ∈ L, free q.base
def gz_QT (b : Bool) (G : gz_G) (below : List Frame) (args : Array Value) (s : State) (mc ms : Nat) {α : Type} (en : α → Outcome × gz_S) (o : α) : State → Prop := gz_MQT below (gz_QTc b G (en o)) args s mc ms (gz_A b G)
def gz_MT (l : Launch) (b : Bool) (G : gz_G) (y : MethodName) (w : Cond) (rm : Room) (av : List Value) (σ : gz_S) (q : Outcome × gz_S) (mc ms : Nat) : Prop :=
  MetFree l y (headSpec [w] rm) (va_Pc av (fun U => gz_H b G σ U.heap ∧ gz_K G U)) (fun _ _ _ _ _ => True) (fun a st o t => gz_QTc b G q a st o t ∧ ∃ L, gz_FT st t L mc ms ∧ ∀ p ∈ L, gz_A b G p.base)
def gz_te (G : gz_G) {γ : Type} (ev : γ → Option Value) (o : Option γ × gz_S) : Outcome × gz_S := (match o.1 with
  | some r => .returned (ev r)
  | none => .threw (gz_ad true G 6 0), o.2)
def gz_tn (o : Int32 × gz_S) : Outcome × gz_S := (.returned (some (.int o.1)), o.2)
def gz_ev0 (_ : Unit) : Option Value := none
def gz_evl (r : Int64) : Option Value := some (.long r)
def gz_tcall {γ δ : Type} (x : Option (Option γ × gz_S)) (f : γ → gz_S → Option (Option δ × gz_S)) : Option (Option δ × gz_S) := match x with
  | none => none
  | some (some r, u) => f r u
  | some (none, u) => some (none, u)
def gz_tcatch {γ δ : Type} (x : Option (Option γ × gz_S)) (f : γ → gz_S → Option δ) (g : gz_S → Option δ) : Option δ := match x with
  | none => none
  | some (some r, u) => f r u
  | some (none, u) => g u
theorem gz_enterT {l : Launch} {b : Bool} {G : gz_G} {y : MethodName} {bytes : ByteArray} {maxL : Nat} {rt : Option FieldType} {rm : Room} {av : List Value} {σ : gz_S} {mc ms : Nat} {α : Type} {x : Option α} {en : α → Outcome × gz_S} (own : String) (how : y.cls = own) (hy : plainName y.cls = true) (hlen : (lg_sl av).length ≤ maxL)
    (body : ∀ (p : Program) (e : Env) (s : State) (m : MethodId) (args : Array Value) (below : List Frame) (meth : Method) (c : Code), gz_X p s m meth c G bytes own maxL rt → c.exceptionTable.isEmpty = true → gz_W b p l e rm s m args below meth c G maxL (gz_QT b G below args s mc ms en) 0 0 σ 0 (lv_args 0 av) [] x) : ∀ o, x = some o → gz_MT l b G y (.code y bytes maxL rt) rm av σ (en o) mc ms := by
  intro o ho
  refine MetFree.of_bodyS (code := bytes) (maxLocals := maxL) (ret := rt) hy ?_ ?_
  · intro args s m h hn
    obtain ⟨meth, c, h1, h2, h3, h4, h5, h6, -, -⟩ := Cond.code_spec hn (atoms_spec (ws := [Cond.code y bytes maxL rt]) h _ List.mem_cons_self)
    exact ⟨meth, c, h1, h2, h3, h4, h5, h6⟩
  · intro p e s m args below meth c s₁ B hml hv _
    obtain ⟨rfl, hH, hK⟩ := hv
    have hl := lv_entry av hlen
    have hh0 : s₁.heap = s.heap := by rw [B.state]; rfl
    have hE := B.noHandlers (atoms_spec (ws := [Cond.code y bytes maxL rt]) B.pre _ List.mem_cons_self)
    have k := body p e s m av.toArray below meth c ⟨B.exec, B.bytes, hml, how ▸ findClass_of_methodNamed B.named, B.returns, B.notSynchronized, hK⟩ hE o ho s.heap [] _ hH ⟨va_S.rf, fun _ => rfl⟩ hl
    rw [lg_entry_eq]
    obtain ⟨t, a1, oc, b1, b2, b3, b4⟩ := k s₁ hh0 (Stand.of_body B)
    exact ⟨t, oc, a1, b1, b2, b3, b4⟩
theorem gz_enterH {l : Launch} {b : Bool} {G : gz_G} {y : MethodName} {bytes : ByteArray} {maxL : Nat} {rt : Option FieldType} {hh : List (Nat × Nat × Nat × Nat)} {rm : Room} {av : List Value} {σ : gz_S} {mc ms : Nat} {α : Type} {x : Option α} {en : α → Outcome × gz_S} (own : String) (how : y.cls = own) (hy : plainName y.cls = true) (hlen : (lg_sl av).length ≤ maxL)
    (body : ∀ (p : Program) (e : Env) (s : State) (m : MethodId) (args : Array Value) (below : List Frame) (meth : Method) (c : Code), gz_X p s m meth c G bytes own maxL rt → c.exceptionTable.toList = tableOf hh → gz_W b p l e rm s m args below meth c G maxL (gz_QT b G below args s mc ms en) 0 0 σ 0 (lv_args 0 av) [] x) : ∀ o, x = some o → gz_MT l b G y (.codeWith y bytes maxL rt hh) rm av σ (en o) mc ms := by
  intro o ho
  refine MetFree.of_bodyS (code := bytes) (maxLocals := maxL) (ret := rt) hy ?_ ?_
  · intro args s m h hn
    obtain ⟨m9, meth, c, hn9, h1, h2, h3, h4, -, h5, h6, -⟩ := Cond.codeWith_spec (atoms_spec (ws := [Cond.codeWith y bytes maxL rt hh]) h _ List.mem_cons_self)
    cases hn.symm.trans hn9
    exact ⟨meth, c, h1, h2, h3, h4, h5, h6⟩
  · intro p e s m args below meth c s₁ B hml hv _
    obtain ⟨rfl, hH, hK⟩ := hv
    have hl := lv_entry av hlen
    have hh0 : s₁.heap = s.heap := by rw [B.state]; rfl
    obtain ⟨m9, meth9, c9, hn9, h1, h2, h3, h4, h7, h5, h6, -⟩ := Cond.codeWith_spec (atoms_spec (ws := [Cond.codeWith y bytes maxL rt hh]) B.pre _ List.mem_cons_self)
    cases B.named.symm.trans hn9
    cases B.method.symm.trans h1
    cases (Stand.of_body B).code.symm.trans h2
    have hT : c.exceptionTable.toList = tableOf hh := by rw [← h7, table_eq]
    have k := body p e s m av.toArray below meth c ⟨B.exec, B.bytes, hml, how ▸ findClass_of_methodNamed B.named, B.returns, B.notSynchronized, hK⟩ hT o ho s.heap [] _ hH ⟨va_S.rf, fun _ => rfl⟩ hl
    rw [lg_entry_eq]
    obtain ⟨t, a1, oc, b1, b2, b3, b4⟩ := k s₁ hh0 (Stand.of_body B)
    exact ⟨t, oc, a1, b1, b2, b3, b4⟩
section GZT
variable {b : Bool} {p : Program} {l : Launch} {e : Env} {R : Room} {s : State} {m : MethodId} {args : Array Value} {below : List Frame} {meth : Method} {c : Code} {G : gz_G} {nL : Nat} {α : Type} {QQ : α → State → Prop} {ce sl : Nat} {σ : gz_S} {pc : Nat} {lv : List (Nat × Value)} {st : List Value} {z z1 z2 : Option α} {cc : ByteArray} {own : String} {ret : Option FieldType}
theorem gz_ofMQ {Qc : Array Value → State → Outcome → State → Prop} {free : Addr → Prop} {H : Heap} {locs : List Loc} {g : JFrame} (k : W p l e R s m args below meth c H locs ce sl (MQ below Qc args s ce sl free) g) : W p l e R s m args below meth c H locs ce sl (gz_MQT below Qc args s ce sl free) g := by
  intro T hT X
  obtain ⟨t, a, o, h1, h2, h3, L, hF, hL⟩ := k T hT X
  exact ⟨t, a, o, h1, h2, h3, L, ⟨hF.2.1, hF.2.2⟩, hL⟩
theorem gz_vretT (C : gz_X p s m meth c G cc own nL ret) (hr : ret = none) (d : decode cc pc = .ok (.return_, 1)) : gz_W b p l e R s m args below meth c G nL (gz_QT b G below args s ce sl (gz_te G gz_ev0)) ce sl σ pc lv [] (some (some (), σ)) := by
  intro o ho H locs ls hH hS hl
  cases ho
  exact gz_ofMQ (W.vret C.1 C.2.1 (C.2.2.2.2.1.trans hr) (fun t ht hW => ⟨rfl, by rw [ht]; exact hH, hS.1.F ht, fun hb => by rw [ht]; exact hS.2 hb⟩) hS.1.2.2 d (hlocks := C.2.2.2.2.2.1))
theorem gz_lretT (C : gz_X p s m meth c G cc own nL ret) {v : Int64} (hr : ret = some .long) (d : decode cc pc = .ok (.lreturn, 1)) : gz_W b p l e R s m args below meth c G nL (gz_QT b G below args s ce sl (gz_te G gz_evl)) ce sl σ pc lv [.long v] (some (some v, σ)) := by
  intro o ho H locs ls hH hS hl
  cases ho
  exact gz_ofMQ (W.lret C.1 C.2.1 (C.2.2.2.2.1.trans hr) (fun t ht hW => ⟨rfl, by rw [ht]; exact hH, hS.1.F ht, fun hb => by rw [ht]; exact hS.2 hb⟩) hS.1.2.2 d (hlocks := C.2.2.2.2.2.1))
theorem gz_iretT (C : gz_X p s m meth c G cc own nL ret) {v : Int32} (hr : ret = some .int) (d : decode cc pc = .ok (.ireturn, 1)) : gz_W b p l e R s m args below meth c G nL (gz_QT b G below args s ce sl gz_tn) ce sl σ pc lv [.int v] (some (v, σ)) := by
  intro o ho H locs ls hH hS hl
  cases ho
  exact gz_ofMQ (W.iret C.1 C.2.1 (C.2.2.2.2.1.trans hr) (fun t ht hW => ⟨rfl, by rw [ht]; exact hH, hS.1.F ht, fun hb => by rw [ht]; exact hS.2 hb⟩) hS.1.2.2 d (hlocks := C.2.2.2.2.2.1))
theorem gz_noH (hE : c.exceptionTable.isEmpty = true) (pc : Nat) : ∀ x ∈ c.exceptionTable.toList, covers x pc = false := by
  intro x hx
  have h : c.exceptionTable = #[] := by simpa using hE
  rw [h] at hx
  cases hx
theorem gz_athrow {γ : Type} {ev : γ → Option Value} (C : gz_X p s m meth c G cc own nL ret) (hE : c.exceptionTable.isEmpty = true) (d : decode cc pc = .ok (.athrow, 1)) : gz_W b p l e R s m args below meth c G nL (gz_QT b G below args s ce sl (gz_te G ev)) ce sl σ pc lv (.ref (gz_ad true G 6 0) :: st) (some (none, σ)) := by
  intro o ho H locs ls hH hS hl T hT X
  cases ho
  obtain ⟨hwalk, hrun, hended, hW, hsame⟩ := X.athrowLeaves C.1 (g := F0 m pc ls (.ref (gz_ad true G 6 0) :: st)) rfl rfl rfl (gz_noH hE _) rfl (by rw [C.2.1]; exact d) (hlocks := C.2.2.2.2.2.1)
  have hh : (T.setFrames (.throwing (gz_ad true G 6 0) :: below)).heap = H := hT
  exact ⟨_, hwalk, .threw (gz_ad true G 6 0), hrun, hended, ⟨rfl, by rw [hh]; exact hH, hS.1.F hh, fun hb => by rw [hh]; exact hS.2 hb⟩, locs, ⟨hW, hsame⟩, hS.1.2.2⟩
/-- what the tables say of a callee that may throw, or that catches: by its word w -/
def gz_mt (y : MethodName) (w : Cond) (maxL n : Nat) : Prop :=
  w ∈ lw_tbl ∧ gz_okw w = true ∧ Cond.initialized y.cls ∈ lw_tbl ∧ (y.cls ≠ "java/lang/invoke/MethodHandle" ∧ y.cls ≠ "java/lang/invoke/VarHandle") ∧ (parseMethodDescriptor y.desc).map (fun d => d.parameters.length) = some n ∧
  ∀ (args : Array Value) (s : State), w.before args s = true → ∀ mk, s.methodNamed? y = some mk → ∃ (methM : Method) (cM : Code), s.vm.method? mk = some methM ∧ methM.code = some cM ∧ cM.maxLocals = maxL ∧ parseMethodDescriptor y.desc = some methM.sig
theorem gz_mt_code {y : MethodName} {bytes : ByteArray} {maxL n : Nat} {rt : Option FieldType} (h : gz_mw y bytes maxL rt n) : gz_mt y (.code y bytes maxL rt) maxL n := by
  refine ⟨h.1, rfl, h.2.1, h.2.2.1, h.2.2.2, fun args s hb mk hn => ?_⟩
  obtain ⟨meth, c, h1, h2, -, h4, -, -, -, h8⟩ := Cond.code_spec hn hb
  exact ⟨meth, c, h1, h2, h4, h8⟩
theorem gz_mt_with {y : MethodName} {bytes : ByteArray} {maxL n : Nat} {rt : Option FieldType} {hh : List (Nat × Nat × Nat × Nat)} (h0 : Cond.codeWith y bytes maxL rt hh ∈ lw_tbl) (h1 : Cond.initialized y.cls ∈ lw_tbl) (h2 : y.cls ≠ "java/lang/invoke/MethodHandle" ∧ y.cls ≠ "java/lang/invoke/VarHandle") (h3 : (parseMethodDescriptor y.desc).map (fun d => d.parameters.length) = some n) : gz_mt y (.codeWith y bytes maxL rt hh) maxL n := by
  refine ⟨h0, rfl, h1, h2, h3, fun args s hb mk hn => ?_⟩
  obtain ⟨m9, meth, c, hn9, h1, h2, h3, h4, -, h5, h6, h8⟩ := Cond.codeWith_spec hb
  cases hn.symm.trans hn9
  exact ⟨meth, c, h1, h2, h4, h8⟩
variable {y : MethodName} {w : Cond} {maxL n index mc ms : Nat} {rm : Room} {As rest st0 : List Value} {β : Type} {x : Option β} {en : β → Outcome × gz_S}
def gz_runT (b : Bool) (p : Program) (l : Launch) (e : Env) (R : Room) (s : State) (m : MethodId) (args : Array Value) (below : List Frame) (meth : Method) (c : Code) (G : gz_G) (nL : Nat) (ce sl : Nat) (σ : gz_S) (pc : Nat) (st0 rest : List Value) (mc ms : Nat) {β : Type} (x : Option β) (en : β → Outcome × gz_S) : Prop :=
  ∀ o, x = some o → ∀ (H : Heap) (locs : List Loc) (ls : Array Slot), gz_H b G σ H → gz_ag G s H → ls.size = nL → ∀ T : State, T.heap = H → Stand p l e R s m args below meth c T locs ce sl → ∃ (oc : Outcome) (st₀ t T' : State) (L : List Loc), st₀.heap = H ∧ Stand p l e R s m args below meth c T' (locs ++ L) (ce + mc) (sl + ms) ∧ (∀ q ∈ L, gz_A b G q.base) ∧ T'.heap = t.heap ∧ gz_QTc b G (en o) #[] st₀ oc t ∧
    (∀ v, oc = .returned v → ∀ target, Steps p.tables e below (T'.setTop (F0 m (pc + 3) ls (v.toList ++ rest))) target → Steps p.tables e below (T.setTop (F0 m pc ls st0)) target) ∧
    (∀ a, oc = .threw a → ∀ target, Steps p.tables e below ((T'.setTop (F0 m pc ls rest)).pushFrame (.throwing a)) target → Steps p.tables e below (T.setTop (F0 m pc ls st0)) target)
theorem gz_runVT {t i ci : Nat} {q : vw_C} (C : gz_X p s m meth c G cc own nL ret) (d : decode cc pc = .ok (.invokevirtual index, 3)) (hl : Cond.methodLink own index y ∈ lw_tbl) (hw : gz_mt y w maxL n) (hv : gz_mv y) (hM : ∀ o, x = some o → gz_MT l b G y w rm (.ref (gz_ad b G t i) :: As) σ (en o) mc ms)
    (hi : i < gz_ct b σ.2.2 t) (hq : vwCl[ci]? = some q) (hkd : gz_kd b t = .inl (ci, q.2.2)) (hC : q.1 = y.cls) (hn : As.length = n) (hst : st0 = As.reverse ++ .ref (gz_ad b G t i) :: rest) (hr : (rest.map fun v => v.category).sum ≤ 8) (ho : gz_ok R rm maxL ce sl mc ms) : gz_runT b p l e R s m args below meth c G nL ce sl σ pc st0 rest mc ms x en := by
  intro o hx H locs ls hH hS hz T hT X
  obtain ⟨hw0, hwo, hw1, hy, hw3, hw4⟩ := hw
  obtain ⟨cellB, q1, q2, q3, q4⟩ := gz_obj hH hi hkd
  have hcls : s.vm.findClass y.cls = some cellB.cls := by rw [q2, ← hC]; exact (C.2.2.2.2.2.2.1 ci q hq).2.1
  have hsel : (Cond.selects y.cls y y).before args s = true := C.word hv.2 rfl
  have hinst : (Cond.instanceMethod y).before args s = true := C.word hv.1 rfl
  obtain ⟨mk, methM, hnamed, hmethM, hstM, habM⟩ := Cond.instanceMethod_spec hinst
  obtain ⟨methM', cM, hmM', hcM, hlM, hsigM⟩ := hw4 args s (C.word hw0 hwo) mk hnamed
  cases hmethM.symm.trans hmM'
  obtain ⟨c2, r2, m2, w1, w2, w3, w4, kP, hkP, hkPi⟩ := Cond.selects_spec hsel
  cases hcls.symm.trans w1
  cases (State.methodFound?_of_named hnamed hy).symm.trans w2
  cases hnamed.symm.trans w3
  have hselP : selectMethod e.platform s.vm cellB.cls mk = .method mk := by rw [Launch.admits_selectMethod X.admits]; exact w4
  have hlen : As.length = methM.sig.parameters.length := by
    have h2 := hw3
    rw [hsigM] at h2
    exact hn.trans (Option.some.inj h2).symm
  have hdg : decode c.code (F0 m pc ls st0).pc = .ok (.invokevirtual index, 3) := by rw [C.2.1]; exact d
  have hcellT : T.heap[gz_ad b G t i]? = some cellB := by rw [hT]; exact q1
  obtain ⟨vm₁, X₁, hstep₁⟩ := X.invokevirtual C.1 C.2.2.2.1 (C.word hl rfl) hnamed hmethM hstM hkP hkPi hy (a := gz_ad b G t i) (cell := cellB) hcellT
    (fun z h => by rw [q3] at h; cases h) hselP hmethM habM hkP hkPi (g := F0 m pc ls st0) rfl (argsL := As) (rest := rest) hlen hst hdg
  have hK₁ : gz_K G (T.setVm vm₁) := C.2.2.2.2.2.2.moved (U := T.setVm vm₁) X₁.warmed (gz_agree hS hT)
  have hn₁ : (T.setVm vm₁).methodNamed? y = some mk := X₁.named hnamed
  obtain ⟨methY, cY, hmY, hcY, hlY, -⟩ := hw4 args (T.setVm vm₁) (hK₁.word ⟨hw0, hwo⟩ _) mk hn₁
  obtain ⟨kY, hkY, -⟩ := className_of_methodNamed hn₁
  have hinitY : kY.init = .initialized := Cond.initialized_spec (args := args) (findClass_of_methodNamed hn₁) hkY (hK₁.word ⟨hw1, rfl⟩ _)
  have h : At (T.setVm vm₁) (F0 m pc ls rest).method c below := X₁.here
  have hmr : 2 * (F0 m pc ls rest).monitorRoom + ((F0 m pc ls rest).stack.map fun v => v.category).sum ≤ 8 := lv_room (rest := rest) hr
  have happ : (headSpec [w] rm).appliesLoose y e.platform ((T.setVm vm₁).calling (F0 m pc ls rest) mk (Value.ref (gz_ad b G t i) :: As).toArray) = true :=
    Spec.appliesLoose_calling (g := F0 m pc ls rest) h hdg hn₁ hkY hinitY
      (X₁.room_calling (g := F0 m pc ls rest) (R' := rm) (hz.trans C.2.2.1.symm) hmY hcY ho.2.2.1 (by rw [hlY]; have := ho.2.2.2.1; omega) (by rw [ho.1]; exact ho.2.2.2.2.1) (by rw [ho.2.1]; exact ho.2.2.2.2.2))
      (atoms_intro fun w' hw' => by
        have e1 : w' = w := by simpa using hw'
        subst e1
        exact hK₁.word ⟨hw0, hwo⟩ _)
  obtain ⟨mid, hmid⟩ := h.above
  have hfr : ((T.setVm vm₁).setTop (F0 m pc ls rest)).frames = (.java (F0 m pc ls rest) :: mid) ++ below := by rw [State.frames_setTop' _ h.top, hmid]; rfl
  obtain ⟨oc, s₂, hsteps, -, hend, hqq⟩ := Steps.callFree (hM o hx) p X₁.admits X₁.cas X₁.clock (acts := []) hfr happ ⟨rfl, by show gz_H b G σ T.heap; rw [hT]; exact hH, gz_K.moved (s := T.setVm vm₁) (State.WarmedH.refl _) (fun _ _ _ => rfl) hK₁⟩ trivial
  rw [State.frames_setTop' _ h.top, X₁.tail] at hend
  obtain ⟨hqc, L, ⟨hW₂, hsame⟩, hL⟩ := hqq
  cases oc with
  | returned v =>
    obtain ⟨T', X', -, -, ht⟩ := X₁.outOf (g := F0 m pc ls rest) rfl hdg hend hW₂ hsame
    refine ⟨.returned v, (T.setVm vm₁).calling (F0 m pc ls rest) mk (Value.ref (gz_ad b G t i) :: As).toArray, s₂, T', L, hT, X', hL, by rw [ht]; rfl, hqc, fun v' hv' target hh => ?_, fun a ha => by cases ha⟩
    cases hv'
    refine hstep₁ _ fun acts => ?_
    rw [doInvoke_state]
    rw [ht] at hsteps
    exact hsteps.trans hh
  | threw a =>
    obtain ⟨T', X', -, -, ht⟩ := X₁.outOfThrown (g := F0 m pc ls rest) rfl hend hW₂ hsame
    refine ⟨.threw a, (T.setVm vm₁).calling (F0 m pc ls rest) mk (Value.ref (gz_ad b G t i) :: As).toArray, s₂, T', L, hT, X', hL, by rw [ht]; rfl, hqc, (fun v' hv' => by cases hv'), fun a' ha' target hh => ?_⟩
    cases ha'
    refine hstep₁ _ fun acts => ?_
    rw [doInvoke_state]
    rw [ht] at hsteps
    exact hsteps.trans hh
theorem gz_Fgo {H : Heap} {locs L : List Loc} {st₀ t T' : State} (hS : gz_F b G s.heap H locs) (h0 : st₀.heap = H) (hL : ∀ q ∈ L, gz_A b G q.base) (e1 : T'.heap = t.heap) (hF : va_F (gz_A b G) st₀ t) (hsz : b = false → t.heap.size = st₀.heap.size) : gz_F b G s.heap T'.heap (locs ++ L) := by
  obtain ⟨hz, hk⟩ := hF
  rw [h0] at hz hk hsz
  exact ⟨⟨Nat.le_trans hS.1.1 (by rw [e1]; exact hz), fun q h1 h2 => by rw [e1, hk q (Nat.lt_of_lt_of_le h1 hS.1.1) h2]; exact hS.1.2.1 q h1 h2, fun q hq => by
      rcases List.mem_append.mp hq with h | h
      · exact hS.1.2.2 q h
      · exact hL q h⟩, fun hb' => by rw [e1, hsz hb']; exact hS.2 hb'⟩
theorem gz_kt {γ δ : Type} {ev : γ → Option Value} {ev' : δ → Option Value} {x : Option (Option γ × gz_S)} {f : γ → gz_S → Option (Option δ × gz_S)} (C : gz_X p s m meth c G cc own nL ret) (hE : c.exceptionTable.isEmpty = true) (h : gz_runT b p l e R s m args below meth c G nL 0 0 σ pc st0 rest 0 0 x (gz_te G ev))
    (k : ∀ (r : γ) (u : gz_S), gz_W b p l e R s m args below meth c G nL (gz_QT b G below args s 0 0 (gz_te G ev')) 0 0 u (pc + 3) lv ((ev r).toList ++ rest) (f r u)) : gz_W b p l e R s m args below meth c G nL (gz_QT b G below args s 0 0 (gz_te G ev')) 0 0 σ pc lv st0 (gz_tcall x f) := by
  intro o ho H locs ls hH hS hl T hT X
  match x, ho, h with
  | some (some r, u), ho, h =>
    obtain ⟨oc, st₀, t, T', L, h0, X', hL, e1, ⟨hv, hb, hF, hsz⟩, g1, -⟩ := h _ rfl H locs ls hH hS.ag hl.1 T hT X
    obtain ⟨t2, a1, b1⟩ := k r u o ho T'.heap (locs ++ L) ls (by rw [e1]; exact hb) (gz_Fgo hS h0 hL e1 hF hsz) hl T' rfl X'
    exact ⟨t2, g1 (ev r) hv t2 a1, b1⟩
  | some (none, u), ho, h =>
    cases ho
    obtain ⟨oc, st₀, t, T', L, h0, X', hL, e1, ⟨hv, hb, hF, hsz⟩, -, g2⟩ := h _ rfl H locs ls hH hS.ag hl.1 T hT X
    obtain ⟨hwalk, hrun, hended, hW, hsame⟩ := X'.leaveThrown (gz_ad true G 6 0) (g := F0 m pc ls rest) rfl rfl rfl (gz_noH hE _) (hlocks := C.2.2.2.2.2.1)
    have hS' := gz_Fgo hS h0 hL e1 hF hsz
    have hh : (T'.setFrames (.throwing (gz_ad true G 6 0) :: below)).heap = T'.heap := rfl
    exact ⟨_, g2 _ hv _ hwalk, .threw (gz_ad true G 6 0), hrun, hended, ⟨rfl, by rw [hh, e1]; exact hb, hS'.1.F hh, fun hb => by rw [hh]; exact hS'.2 hb⟩, locs ++ L, ⟨hW, hsame⟩, hS'.1.2.2⟩
/-- caught in the method's own frame, by a class that may not have been resolved yet -/
theorem gz_caught {T : State} {locs : List Loc} {cells slots : Nat} (X : Stand p l e R s m args below meth c T locs cells slots) {a : Addr} {g : JFrame} (hg : g.method = m) {own C1 : String} (hown : s.vm.findClass own = some m.cls) {x : ExceptionTableEntry} (htab : c.exceptionTable.toList = [x]) (hcov : covers x g.pc = true) (h0 : x.catchType ≠ 0)
    (hcl : (Cond.classLink own x.catchType C1).before args s = true) {cell : Cell} (hcell : T.heap[a]? = some cell) (hobj : ∀ k, cell.vm ≠ .statics k) (hcls : s.vm.findClass C1 = some cell.cls) :
    ∃ vm', Stand p l e R s m args below meth c (T.setVm vm') locs cells slots ∧ ∀ target, Steps p.tables e below ((T.setVm vm').setTop { g with pc := x.handlerPc, stack := [.ref a] }) target → Steps p.tables e below ((T.setTop g).pushFrame (.throwing a)) target := by
  subst hg
  have hpl : e.platform.magicAccessors = ({} : Platform).magicAccessors := by rw [X.admits.platform]
  obtain ⟨c1, hfcc, hcl1⟩ := Cond.classLink_spec hown hcl e.platform hpl
  cases hcls.symm.trans hfcc
  obtain ⟨hg₁, hwarm₁, hready₁⟩ := State.classEntry (e := e) X.warmed hcl1
  have hsz : (T.vm.noted g.method.cls x.catchType (.cls cell.cls)).classes.size ≤ T.vm.classes.size := by no_record
  generalize T.vm.noted g.method.cls x.catchType (.cls cell.cls) = vm₁ at hg₁ hwarm₁ hready₁ hsz
  refine ⟨vm₁, X.noted hwarm₁, fun target hrest => ?_⟩
  have hvm : ((T.setTop g).pushFrame (.throwing a)).vm = T.vm := Stand.throwing_vm T g a
  have hhp : ((T.setTop g).pushFrame (.throwing a)).heap = T.heap := Stand.throwing_heap T g a
  have hmeth : ((T.setTop g).pushFrame (.throwing a)).vm.method? g.method = some meth := by rw [hvm]; exact X.method'
  have hkk : ∃ k, vm₁.classes[cell.cls]? = some k := by
    obtain ⟨k, hk⟩ := Vm.classAt_of_findClass hcls
    obtain ⟨k', hk', -⟩ := hwarm₁.alike.2.2 _ _ hk
    exact ⟨k', hk'⟩
  have hfind : ∀ (Q : Handler → Pre) (E : CtlPost) (d : Bool) (acts : List Action), wp (findHandler g a) Q E e d acts ((T.setTop g).pushFrame (.throwing a)) ↔ Q (.found x.handlerPc) d acts (((T.setTop g).pushFrame (.throwing a)).setVm vm₁) := by
    intro Q E d acts
    rw [W.findHandler_eq hmeth X.code, htab]
    rw [← hvm] at hg₁ hsz
    obtain ⟨ha, ht⟩ := hg₁.op (op := VmOp.resolveClass g.method.cls x.catchType) rfl
    simp only [covers] at hcov
    have hfit : vm₁.assignable cell.cls cell.cls = true := va_asg _ _
    have hcl2 : (((T.setTop g).pushFrame (.throwing a)).setVm vm₁).heap[a]? = some cell := by show ((T.setTop g).pushFrame (.throwing a)).heap[a]? = _; rw [hhp]; exact hcell
    simp [findHandler.go, hcov, h0, ha, ht, hsz, hhp, hcell, hobj, hkk, hfit, VmOp.dirties, VmOp.acts]
  have hstep : (stepThrowing e ((T.setTop g).pushFrame (.throwing a)) a (.java g :: T.frames.tail)).1 = (((T.setTop g).pushFrame (.throwing a)).setVm vm₁).setFrames (.java { g with pc := x.handlerPc, stack := [.ref a] } :: T.frames.tail) := by
    simp only [stepThrowing, searchFrame, vmDo]
    generalize hr : Sem.go _ e false [] ((T.setTop g).pushFrame (.throwing a)) = res
    obtain ⟨as, rfl, ha⟩ := Sem.eq_ok_of hr (a := Handler.found x.handlerPc) (s' := ((T.setTop g).pushFrame (.throwing a)).setVm vm₁) (acts' := []) (by simp [hfind _ _ _ _])
    rfl
  obtain ⟨hgo, hw⟩ := X.here.throwing a
  refine Steps.head hgo hw ?_
  rw [stepThread_throwing (frames_entered X.here.top _), hstep]
  obtain ⟨g₀, hg0⟩ := Option.isSome_iff_exists.mp X.here.top
  obtain ⟨r, hr⟩ := State.topJava?_eq_some.mp hg0
  have e9 : ((((T.setTop g).pushFrame (.throwing a)).setVm vm₁).setFrames (.java { g with pc := x.handlerPc, stack := [.ref a] } :: T.frames.tail)) = (T.setVm vm₁).setTop { g with pc := x.handlerPc, stack := [.ref a] } := by
    rw [State.setTop_of_frames (s := T.setVm vm₁) _ hr, State.pushFrame, State.setTop_of_frames _ hr, State.setFrames_setFrames, hr]
    show ((T.setFrames _).setVm vm₁).setFrames _ = (T.setVm vm₁).setFrames _
    rw [show (T.setFrames (Frame.throwing a :: (T.setFrames (Frame.java g :: r)).frames)).setVm vm₁ = (T.setVm vm₁).setFrames (Frame.throwing a :: (T.setFrames (Frame.java g :: r)).frames) from rfl, State.setFrames_setFrames]
    rfl
  rw [e9]
  exact hrest
theorem gz_kc {γ : Type} {ev : γ → Option Value} {x : Option (Option γ × gz_S)} {f : γ → gz_S → Option α} {g : gz_S → Option α} {sp ep hp ct : Nat} (C : gz_X p s m meth c G cc own nL ret) (hE : c.exceptionTable.toList = tableOf [(sp, ep, hp, ct)]) (h1 : sp ≤ pc) (h2 : pc < ep) (h3 : ct ≠ 0) (hcl : Cond.classLink own ct RX10 ∈ lw_tbl) (h : gz_runT true p l e R s m args below meth c G nL 0 0 σ pc st0 rest 0 0 x (gz_te G ev))
    (k : ∀ (r : γ) (u : gz_S), gz_W true p l e R s m args below meth c G nL QQ 0 0 u (pc + 3) lv ((ev r).toList ++ rest) (f r u)) (k2 : ∀ (u : gz_S), gz_W true p l e R s m args below meth c G nL QQ 0 0 u hp lv [.ref (gz_ad true G 6 0)] (g u)) : gz_W true p l e R s m args below meth c G nL QQ 0 0 σ pc lv st0 (gz_tcatch x f g) := by
  intro o ho H locs ls hH hS hl T hT X
  match x, ho, h with
  | some (some r, u), ho, h =>
    obtain ⟨oc, st₀, t, T', L, h0, X', hL, e1, ⟨hv, hb, hF, hsz⟩, g1, -⟩ := h _ rfl H locs ls hH hS.ag hl.1 T hT X
    obtain ⟨t2, a1, b1⟩ := k r u o ho T'.heap (locs ++ L) ls (by rw [e1]; exact hb) (gz_Fgo hS h0 hL e1 hF hsz) hl T' rfl X'
    exact ⟨t2, g1 (ev r) hv t2 a1, b1⟩
  | some (none, u), ho, h =>
    obtain ⟨oc, st₀, t, T', L, h0, X', hL, e1, ⟨hv, hb, hF, hsz⟩, -, g2⟩ := h _ rfl H locs ls hH hS.ag hl.1 T hT X
    have hb' : gz_H true G u T'.heap := by rw [e1]; exact hb
    obtain ⟨cell, q1, q2, q3, q4⟩ := gz_obj (t := 6) (i := 0) (ci := 10) (q := (RX10, TX10, 8)) hb' (Nat.zero_lt_one : 0 < gz_ct true u.2.2 6) rfl
    obtain ⟨vm', X2, stp⟩ := gz_caught X' (a := gz_ad true G 6 0) (g := F0 m pc ls rest) rfl C.2.2.2.1 (x := ⟨sp, ep, hp, ct⟩) hE (by simp [covers, h1, h2]) h3 (C.word hcl rfl) q1 (fun k hk => by rw [q3] at hk; cases hk) (by rw [q2]; exact (C.2.2.2.2.2.2.1 10 (RX10, TX10, 8) rfl).2.1)
    obtain ⟨t2, a1, b1⟩ := k2 u o ho T'.heap (locs ++ L) ls hb' (gz_Fgo hS h0 hL e1 hF hsz) hl (T'.setVm vm') rfl X2
    exact ⟨t2, g2 _ hv _ (stp _ a1), b1⟩
end GZT
