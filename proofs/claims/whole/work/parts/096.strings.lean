/-! STRING CONSTANTS of the reference: by their number i < 7 -/
def gz_sl (i : Nat) : Nat := gz_slen.getD i 0
def gz_sb (i n : Nat) : Int32 := (gz_sbyt.getD i []).getD n 0
section GZS
variable {b : Bool} {p : Program} {l : Launch} {e : Env} {R : Room} {s : State} {m : MethodId} {args : Array Value} {below : List Frame} {meth : Method} {c : Code} {G : gz_G} {nL : Nat} {α : Type} {QQ : α → State → Prop} {ce sl : Nat} {σ : gz_S} {pc : Nat} {lv : List (Nat × Value)} {st : List Value} {z z1 z2 : Option α} {cc : ByteArray} {own : String} {ret : Option FieldType}
theorem gz_Ale {q : Nat} (h : gz_A b G q) : G.1 ≤ q := by
  cases b with
  | false => exact h.1
  | true => exact Nat.le_trans (Nat.le_add_right _ _) h
theorem gz_wS {H : Heap} {locs : List Loc} (hS : gz_F b G s.heap H locs) : va_S (fun q => G.1 ≤ q) s.heap H locs := ⟨hS.1.1, fun q h1 h2 => hS.1.2.1 q h1 (gz_nA h2), fun q hq => gz_Ale (hS.1.2.2 q hq)⟩
theorem gz_X.Z (C : gz_X p s m meth c G cc own nL ret) : gz_Z G s := C.2.2.2.2.2.2.2.2.2
theorem gz_ldcwS0 {T : State} {locs : List Loc} {cells slots : Nat} (X : Stand p l e R s m args below meth c T locs cells slots) (hexec : p.tables.exec = Jvm.exec) {own text : String} {index : Nat} {a : Addr} (hown : s.vm.findClass own = some m.cls)
    (hconst : (Cond.stringRef own index text).before args s = true) (hev : (Term.string own index).eval args s none [] s = some (.ref a)) {g : JFrame} (hg : g.method = m) (hdg : decode c.code g.pc = .ok (.ldc_w index, 3)) :
    ∀ target, Steps p.tables e below (T.setTop { g with pc := g.pc + 3, stack := .ref a :: g.stack }) target → Steps p.tables e below (T.setTop g) target := by
  obtain ⟨k, cf, i, a', hk, hcf, hcp, -, hr, hev'⟩ := Cond.stringRef_spec hown hconst
  cases hev.symm.trans hev'
  obtain ⟨k', hk', he⟩ := X.warmed.alike.2.2 _ _ hk
  have hr' : k'.resolved[index]? = some (some (.string a)) := by
    rcases X.warmed.entry hk hk' index with h | ⟨h, -⟩
    · rw [h]; exact hr
    · rw [hr] at h; cases h
  intro target hrest
  subst hg
  jvm_step X.here [hexec, hdg, ldc_w.wp_string (e := e) (s := T) (f := g) X.here.top hk' (by rw [he]; exact hcf) hcp hr']
  exact hrest
theorem gz_ldcS {index : Nat} (C : gz_X p s m meth c G cc RX11 nL ret) (i : Nat) (hi : i < 7) (hix : gz_six.getD i 0 = index) (d : decode cc pc = .ok (.ldc_w index, 3)) (k : gz_W b p l e R s m args below meth c G nL QQ ce sl σ (pc + 3) lv (.ref (G.2.2.2.2.1 i) :: st) z) : gz_W b p l e R s m args below meth c G nL QQ ce sl σ pc lv st z := by
  intro o h H locs ls hH hS hl T hT X
  obtain ⟨t, a, b1⟩ := k o h H locs ls hH hS hl T hT X
  have hR := C.Z.2.1 i hi
  rw [hix] at hR
  exact ⟨t, gz_ldcwS0 X C.1 (own := RX11) (index := index) C.2.2.2.1 hR.1 hR.2 (g := F0 m pc ls st) rfl (by rw [C.2.1]; exact d) t a, b1⟩
theorem gz_sget {index i : Nat} {n d0 : String} {v : Value} (C : gz_X p s m meth c G cc own nL ret) (hv : va_OF "java/lang/String" n d0 v (G.2.2.2.2.1 i) (fun q => G.1 ≤ q) s s.heap) (hlk : Cond.fieldLink own index "java/lang/String" n d0 ∈ lw_tbl) (d : decode cc pc = .ok (.getfield index, 3)) (k : gz_W b p l e R s m args below meth c G nL QQ ce sl σ (pc + 3) lv (v :: st) z) : gz_W b p l e R s m args below meth c G nL QQ ce sl σ pc lv (.ref (G.2.2.2.2.1 i) :: st) z :=
  fun o h H locs ls hH hS hl => vk_getf C.1 C.2.1 hv (gz_wS hS) C.2.2.2.1 (C.word hlk rfl) (fun _ hx => hx) d (k o h H locs ls hH hS hl)
theorem gz_sgetV {index i : Nat} (C : gz_X p s m meth c G cc own nL ret) (hi : i < 7) (hlk : Cond.fieldLink own index "java/lang/String" "value" "[B" ∈ lw_tbl) (d : decode cc pc = .ok (.getfield index, 3)) (k : gz_W b p l e R s m args below meth c G nL QQ ce sl σ (pc + 3) lv (.ref (G.2.2.2.2.2 i) :: st) z) : gz_W b p l e R s m args below meth c G nL QQ ce sl σ pc lv (.ref (G.2.2.2.2.1 i) :: st) z :=
  gz_sget C (C.Z.1.1 i hi).2.2.1 hlk d k
theorem gz_sgetC {index i : Nat} (C : gz_X p s m meth c G cc own nL ret) (hi : i < 7) (hlk : Cond.fieldLink own index "java/lang/String" "coder" "B" ∈ lw_tbl) (d : decode cc pc = .ok (.getfield index, 3)) (k : gz_W b p l e R s m args below meth c G nL QQ ce sl σ (pc + 3) lv (.int 0 :: st) z) : gz_W b p l e R s m args below meth c G nL QQ ce sl σ pc lv (.ref (G.2.2.2.2.1 i) :: st) z :=
  gz_sget C (C.Z.1.1 i hi).2.1 hlk d k
theorem gz_salen {i : Nat} (C : gz_X p s m meth c G cc own nL ret) (hi : i < 7) (d : decode cc pc = .ok (.arraylength, 1)) (k : gz_W b p l e R s m args below meth c G nL QQ ce sl σ (pc + 1) lv (.int (Int32.ofNat (gz_sl i)) :: st) z) : gz_W b p l e R s m args below meth c G nL QQ ce sl σ pc lv (.ref (G.2.2.2.2.2 i) :: st) z := by
  intro o h H locs ls hH hS hl
  obtain ⟨cell, h1, h2, h3, h4, h5, h6, h7⟩ := (C.Z.1.1 i hi).2.2.2.kept (gz_wS hS).2.1
  exact W.alen C.1 C.2.1 h1 h2 h5 rfl rfl d (k o h H locs ls hH hS hl)
theorem gz_sbald {i : Nat} {j : Int32} {f : Nat → Option α} (C : gz_X p s m meth c G cc own nL ret) (hi : i < 7) (d : decode cc pc = .ok (.baload, 1)) (k : ∀ n, gz_W b p l e R s m args below meth c G nL QQ ce sl σ (pc + 1) lv (.int (gz_sb i n) :: st) (f n)) : gz_W b p l e R s m args below meth c G nL QQ ce sl σ pc lv (.int j :: .ref (G.2.2.2.2.2 i) :: st) (gz_ix j (gz_sl i) f) := by
  intro o h H locs ls hH hS hl
  obtain ⟨hin, hlt, hf⟩ := gz_ix_some h
  exact va_tb C.1 C.2.1 (C.Z.1.1 i hi).2.2.2 (gz_wS hS) hin (v := .int (gz_sb i j.toNatClampNeg)) rfl d (k _ o hf H locs ls hH hS hl)
theorem gz_getCS {index : Nat} (C : gz_X p s m meth c G cc own nL ret) (hlk : Cond.fieldLink own index "java/lang/String" "COMPACT_STRINGS" "Z" ∈ lw_tbl) (d : decode cc pc = .ok (.getstatic index, 3)) (k : gz_W b p l e R s m args below meth c G nL QQ ce sl σ (pc + 3) lv (.int 1 :: st) z) : gz_W b p l e R s m args below meth c G nL QQ ce sl σ pc lv st z :=
  fun o h H locs ls hH hS hl => va_gets C.1 C.2.1 C.Z.2.2.1 (gz_wS hS) C.2.2.2.1 (C.word hlk rfl) (fun _ hx => hx) d (k o h H locs ls hH hS hl)
theorem gz_getPF {index : Nat} (C : gz_X p s m meth c G cc own nL ret) (hlk : Cond.fieldLink own index "jdk/internal/util/Preconditions" "SIOOBE_FORMATTER" "Ljava/util/function/BiFunction;" ∈ lw_tbl) (d : decode cc pc = .ok (.getstatic index, 3)) (k : ∀ v, (v = .null ∨ ∃ a, v = .ref a) → gz_W b p l e R s m args below meth c G nL QQ ce sl σ (pc + 3) lv (v :: st) z) : gz_W b p l e R s m args below meth c G nL QQ ce sl σ pc lv st z := by
  intro o h H locs ls hH hS hl
  rcases C.Z.2.2.2 with hz | ⟨t, hz⟩
  · exact va_gets C.1 C.2.1 hz (gz_wS hS) C.2.2.2.1 (C.word hlk rfl) (fun _ hx => hx) d (k _ (Or.inl rfl) o h H locs ls hH hS hl)
  · exact va_gets C.1 C.2.1 hz (gz_wS hS) C.2.2.2.1 (C.word hlk rfl) (fun _ hx => hx) d (k _ (Or.inr ⟨t, rfl⟩) o h H locs ls hH hS hl)
variable {y : MethodName} {bytes : ByteArray} {maxL n index mc ms : Nat} {rt : Option FieldType} {rm : Room} {As rest st0 : List Value} {β : Type} {x : Option β} {en : β → Option Value × gz_S}
theorem gz_runVS {i : Nat} (C : gz_X p s m meth c G cc own nL ret) (d : decode cc pc = .ok (.invokevirtual index, 3)) (hl : Cond.methodLink own index y ∈ lw_tbl) (hw : gz_mw y bytes maxL rt n) (hv : gz_mv y) (hM : ∀ o, x = some o → gz_M l b G y bytes maxL rt rm (.ref (G.2.2.2.2.1 i) :: As) σ (en o) mc ms)
    (hi : i < 7) (hC : y.cls = "java/lang/String") (hn : As.length = n) (hst : st0 = As.reverse ++ .ref (G.2.2.2.2.1 i) :: rest) (hr : (rest.map fun v => v.category).sum ≤ 8) (ho : gz_ok R rm maxL ce sl mc ms) : gz_run b p l e R s m args below meth c G nL ce sl σ pc st0 rest mc ms x en := by
  intro o hx H locs ls hH hS hz
  obtain ⟨cell, q1, q2, q3, -⟩ := (C.Z.1.1 i hi).1.kept hS
  have h1 : PreV s H y.cls (G.2.2.2.2.1 i) (va_Pc (.ref (G.2.2.2.2.1 i) :: As) (fun U => gz_H b G σ U.heap ∧ gz_K G U)) As :=
    ⟨gz_blind, ⟨cell, q1, q2, by rw [hC]; exact q3⟩, fun U hU hW => ⟨rfl, by rw [hU]; exact hH, C.2.2.2.2.2.2.moved hW (gz_agree hS hU)⟩⟩
  exact va_runV (gz_fix C) (hM o hx) ⟨hw.B C hl ho, C.word hv.1 rfl, C.word hv.2 rfl⟩ h1 rfl hn hz hst (lv_room hr) d ⟨ho.2.2.2.2.1, ho.2.2.2.2.2⟩
end GZS
