/-! the row of booleans that the reference's issue() makes -/
def gz_nt (σ : gz_S) : gz_S := (fun t i k => if t = 44 ∧ i = σ.2.2 then 0 else σ.1 t i k, σ.2.1, σ.2.2 + 1)
def gz_tg {α : Type} (i : Nat) (σ : gz_S) (z : Option α) : Option α := if i < σ.2.2 then z else none
section GZN
variable {b : Bool} {p : Program} {l : Launch} {e : Env} {R : Room} {s : State} {m : MethodId} {args : Array Value} {below : List Frame} {meth : Method} {c : Code} {G : gz_G} {nL : Nat} {α : Type} {QQ : α → State → Prop} {ce sl : Nat} {σ : gz_S} {pc : Nat} {lv : List (Nat × Value)} {st : List Value} {z z1 z2 : Option α} {cc : ByteArray} {own : String} {ret : Option FieldType}
theorem gz_tg_row {i : Nat} (k : i < σ.2.2 → gz_W b p l e R s m args below meth c G nL QQ ce sl σ pc lv st z) : gz_W b p l e R s m args below meth c G nL QQ ce sl σ pc lv st (gz_tg i σ z) := by
  intro o h
  unfold gz_tg at h
  split at h
  · rename_i hi
    exact k hi o h
  · cases h
theorem gz_cl.lt {t i : Nat} {H : Heap} {q : (Nat × Nat) ⊕ (Nat × Nat)} (h : gz_cl b G σ t i H q) : gz_ad b G t i < H.size := by
  cases q with
  | inl q =>
    obtain ⟨cell, h1, -⟩ := h
    exact (Array.getElem?_eq_some_iff.mp h1).1
  | inr q => exact (Array.getElem?_eq_some_iff.mp h).1
theorem gz_newT (C : gz_X p s m meth c G cc own nL ret) {f : Nat → Option α} (d : decode cc pc = .ok (.newarray .boolean, 2)) (hw : Cond.arrayClass .boolean ∈ lw_tbl) (h1 : ce + 1 ≤ R.cells) (h2 : sl + 60 ≤ R.slots) (k : ∀ t, gz_W true p l e R s m args below meth c G nL QQ (ce + 1) (sl + 60) (gz_nt σ) (pc + 2) lv (.ref (gz_ad true G 44 t) :: st) (f t)) : gz_W true p l e R s m args below meth c G nL QQ ce sl σ pc lv (.int 60 :: st) (gz_v σ.2.2 f) := by
  intro o h H locs ls hH hS hl
  have hsz := hH.2 rfl
  refine va_newaK (N := 60) (atype := .boolean) C.1 C.2.1 (C.word (w := Cond.arrayClass .boolean) hw rfl) (g := F0 m pc ls (.int 60 :: st)) rfl d rfl (by decide) (by decide) (by decide) h1 h2 rfl fun H1 cA e1 z1 o1 hAr hNm => ?_
  have hcA : cA = G.2.2.2.1 3 := by
    have h3 : s.vm.findClass ("[" ++ (FieldType.boolean).toString) = some (G.2.2.2.1 3) := (C.2.2.2.2.2.2.2.1 3 (by decide)).2
    have h4 : s.vm.findClass ("[" ++ (FieldType.boolean).toString) = some cA := hNm
    exact Option.some.inj (h4.symm.trans h3)
  have had : gz_ad true G 44 σ.2.2 = H.size := by rw [hsz]; show G.1 + (683 + σ.2.2) = _; omega
  have hK : gz_H true G (gz_nt σ) H1 := by
    refine ⟨fun t i hi => ?_, fun _ => by rw [z1, hsz]; show _ = G.1 + 683 + (σ.2.2 + 1); omega⟩
    by_cases ht : t = 44 ∧ i = σ.2.2
    · obtain ⟨rfl, rfl⟩ := ht
      show H1[gz_ad true G 44 σ.2.2]? = some (arrV (G.2.2.2.1 3) 60 (gz_ev true G (gz_nt σ) 44 σ.2.2 3))
      rw [had, e1, hcA]
      congr 2
      funext j
      simp [gz_ev, gz_nt, defaultValue, newarray.typeOf]
    · have hi' : i < gz_ct true σ.2.2 t := by
        by_cases h44 : t = 44
        · subst h44
          have : i < σ.2.2 + 1 := hi
          show i < σ.2.2
          have hne : i ≠ σ.2.2 := fun q => ht ⟨rfl, q⟩
          omega
        · have e2 : gz_ct true (gz_nt σ).2.2 t = gz_ct true σ.2.2 t := by simp [gz_ct, h44]
          rw [← e2]
          exact hi
      have hc := hH.1 t i hi'
      refine hc.keep (o1 _ hc.lt) (fun k => ⟨?_, rfl⟩)
      show (if t = 44 ∧ i = σ.2.2 then (0 : Int32) else σ.1 t i k) = _
      rw [if_neg ht]
  have hF : gz_F true G s.heap H1 locs := ⟨⟨Nat.le_trans hS.1.1 (by omega), fun q g1 g2 => (o1 q (Nat.lt_of_lt_of_le g1 hS.1.1)).trans (hS.1.2.1 q g1 g2), hS.1.2.2⟩, fun hb => by cases hb⟩
  have r := k σ.2.2 o h H1 locs ls hK hF hl
  rw [had] at r
  exact r
end GZN
