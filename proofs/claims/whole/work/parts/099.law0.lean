/-! the law's world: both sides -/
def gl_H (G : gz_G) (σ : gz_S × gz_S) (H : Heap) : Prop := gz_H false G σ.1 H ∧ gz_H true G σ.2 H
def gl_set (b : Bool) (σ : gz_S × gz_S) (u : gz_S) : gz_S × gz_S := match b with
  | false => (u, σ.2)
  | true => (σ.1, u)
def gl_get (b : Bool) (σ : gz_S × gz_S) : gz_S := match b with
  | false => σ.1
  | true => σ.2
theorem gl_H.get {G : gz_G} {σ : gz_S × gz_S} {H : Heap} (h : gl_H G σ H) (b : Bool) : gz_H b G (gl_get b σ) H := by
  cases b with
  | false => exact h.1
  | true => exact h.2
theorem gl_aox {t i : Nat} (h : i < gz_ct false 0 t) : gz_ao false t i < 639 := by
  have h1 : i < gz_ctx.getD t 0 := h
  have q : gz_ao false t i < gz_inv.length := (List.getElem?_eq_some_iff.mp (gz_inv_x t (gz_ctx_lt h1) i h1)).1
  rw [gz_inv_len] at q
  exact q
theorem gl_aom (t i : Nat) : 639 ≤ gz_ao true t i := by
  simp only [gz_ao, cond_true]
  split <;> omega
theorem gl_upd {G : gz_G} {σ : gz_S × gz_S} {H H1 : Heap} {b : Bool} {u : gz_S} (hH : gl_H G σ H) (hb : gz_H b G u H1) (hk : ∀ q, q < H.size → ¬ gz_A b G q → H1[q]? = H[q]?) (hsz : b = false → H1.size = H.size) : gl_H G (gl_set b σ u) H1 := by
  cases b with
  | false =>
    refine ⟨hb, fun t i hi => ?_, fun _ => by rw [hsz rfl]; exact hH.2.2 rfl⟩
    have hc := hH.2.1 t i hi
    refine hc.keep (hk _ hc.lt (fun q => ?_)) (fun _ => ⟨rfl, rfl⟩)
    have h1 := gl_aom t i
    have h2 : gz_ad true G t i < G.1 + 639 := q.2
    unfold gz_ad at h2
    omega
  | true =>
    refine ⟨⟨fun t i hi => ?_, fun h => by cases h⟩, hb⟩
    have hc := hH.1.1 t i hi
    refine hc.keep (hk _ hc.lt (fun q => ?_)) (fun _ => ⟨rfl, rfl⟩)
    have h1 := gl_aox (t := t) (i := i) hi
    have h2 : G.1 + 639 ≤ gz_ad false G t i := q
    unfold gz_ad at h2
    omega
section GL
variable {b : Bool} {p : Program} {l : Launch} {e : Env} {R : Room} {s : State} {m : MethodId} {args : Array Value} {below : List Frame} {meth : Method} {c : Code} {G : gz_G} {nL : Nat} {α : Type} {QQ : α → State → Prop} {ce sl : Nat} {σ : gz_S × gz_S} {pc : Nat} {lv : List (Nat × Value)} {st : List Value} {z z1 z2 : Option α} {cc : ByteArray} {own : String} {ret : Option FieldType}
variable {y : MethodName} {bytes : ByteArray} {maxL n index mc ms : Nat} {rt : Option FieldType} {rm : Room} {As rest st0 : List Value} {β : Type} {x : Option β}
theorem gl_ag {H : Heap} {locs : List Loc} (hS : va_S (fun q => G.1 ≤ q) s.heap H locs) : gz_ag G s H := fun q h1 h2 => hS.2.1 q h1 h2
theorem gl_S {H : Heap} {locs L : List Loc} {st₀ t T' : State} (hS : va_S (fun q => G.1 ≤ q) s.heap H locs) (h0 : st₀.heap = H) (hL : ∀ q ∈ L, gz_A b G q.base) (e1 : T'.heap = t.heap) (hF : va_F (gz_A b G) st₀ t) : va_S (fun q => G.1 ≤ q) s.heap T'.heap (locs ++ L) := by
  obtain ⟨hz, hk⟩ := hF
  rw [h0] at hz hk
  exact ⟨Nat.le_trans hS.1 (by rw [e1]; exact hz), fun q h1 h2 => by rw [e1, hk q (Nat.lt_of_lt_of_le h1 hS.1) (gz_nA h2)]; exact hS.2.1 q h1 h2, fun q hq => by
      rcases List.mem_append.mp hq with h | h
      · exact hS.2.2 q h
      · exact gz_Ale (hL q h)⟩
theorem gl_goes {en : β → Option Value × gz_S} {v : Option Value} {u : gz_S} (h : gz_run b p l e R s m args below meth c G nL ce sl (gl_get b σ) pc st0 rest mc ms x en) {o' : β} (hx : x = some o') (he : en o' = (v, u)) (k : gq_W (gl_H G) (fun q => G.1 ≤ q) p l e R s m args below meth c nL QQ (ce + mc) (sl + ms) (gl_set b σ u) (pc + 3) lv (v.toList ++ rest) z) : gq_W (gl_H G) (fun q => G.1 ≤ q) p l e R s m args below meth c nL QQ ce sl σ pc lv st0 z := by
  intro o ho H locs ls hH hS hl T hT X
  obtain ⟨v', st₀, t, T', L, h0, X', hL, e1, e2, ⟨hv, hb, hF, hsz⟩, stp⟩ := h o' hx H locs ls (hH.get b) (gl_ag hS) hl.1 T hT X
  cases hv
  rw [he] at stp hb
  have hF2 := hF.2
  rw [h0] at hF2 hsz
  obtain ⟨t2, a1, b1⟩ := k o ho T'.heap (locs ++ L) ls (gl_upd hH (by rw [e1]; exact hb) (fun q g1 g2 => by rw [e1]; exact hF2 q g1 g2) (fun q => by rw [e1]; exact hsz q)) (gl_S hS h0 hL e1 hF) hl T' rfl X'
  exact ⟨t2, stp t2 a1, b1⟩
theorem gl_ki {x : Option (Int32 × gz_S)} {f : Int32 → gz_S → Option α} (h : gz_run b p l e R s m args below meth c G nL ce sl (gl_get b σ) pc st0 rest mc ms x gz_ei) (k : ∀ (r : Int32) (u : gz_S), gq_W (gl_H G) (fun q => G.1 ≤ q) p l e R s m args below meth c nL QQ (ce + mc) (sl + ms) (gl_set b σ u) (pc + 3) lv (.int r :: rest) (f r u)) : gq_W (gl_H G) (fun q => G.1 ≤ q) p l e R s m args below meth c nL QQ ce sl σ pc lv st0 (gz_call x f) := by
  cases x with
  | none => exact fun o h => by cases h
  | some o => exact gl_goes h rfl rfl (k o.1 o.2)
theorem gl_kl {x : Option (Int64 × gz_S)} {f : Int64 → gz_S → Option α} (h : gz_run b p l e R s m args below meth c G nL ce sl (gl_get b σ) pc st0 rest mc ms x gz_el) (k : ∀ (r : Int64) (u : gz_S), gq_W (gl_H G) (fun q => G.1 ≤ q) p l e R s m args below meth c nL QQ (ce + mc) (sl + ms) (gl_set b σ u) (pc + 3) lv (.long r :: rest) (f r u)) : gq_W (gl_H G) (fun q => G.1 ≤ q) p l e R s m args below meth c nL QQ ce sl σ pc lv st0 (gz_call x f) := by
  cases x with
  | none => exact fun o h => by cases h
  | some o => exact gl_goes h rfl rfl (k o.1 o.2)
theorem gl_kt {x : Option (Int32 × gz_S)} {f : Int32 → gz_S → Option α} (h : gz_runT b p l e R s m args below meth c G nL ce sl (gl_get b σ) pc st0 rest mc ms x gz_tn) (k : ∀ (r : Int32) (u : gz_S), gq_W (gl_H G) (fun q => G.1 ≤ q) p l e R s m args below meth c nL QQ (ce + mc) (sl + ms) (gl_set b σ u) (pc + 3) lv (.int r :: rest) (f r u)) : gq_W (gl_H G) (fun q => G.1 ≤ q) p l e R s m args below meth c nL QQ ce sl σ pc lv st0 (gz_call x f) := by
  cases x with
  | none => exact fun o h => by cases h
  | some o' =>
    intro o ho H locs ls hH hS hl T hT X
    obtain ⟨oc, st₀, t, T', L, h0, X', hL, e1, ⟨hv, hb, hF, hsz⟩, g1, -⟩ := h o' rfl H locs ls (hH.get b) (gl_ag hS) hl.1 T hT X
    have hF2 := hF.2
    rw [h0] at hF2 hsz
    obtain ⟨t2, a1, b1⟩ := k o'.1 o'.2 o ho T'.heap (locs ++ L) ls (gl_upd hH (by rw [e1]; exact hb) (fun q g1 g2 => by rw [e1]; exact hF2 q g1 g2) (fun q => by rw [e1]; exact hsz q)) (gl_S hS h0 hL e1 hF) hl T' rfl X'
    exact ⟨t2, g1 _ hv t2 a1, b1⟩
theorem gl_sld {HH : gz_S × gz_S → Heap → Prop} {A : Nat → Prop} {bb L : Nat} {xs : Nat → Int32} {j : Int32} {f : Nat → Option α} (C : gz_X p s m meth c G cc own nL ret) (hX : va_X bb L xs s s.heap) (hbl : bb < s.heap.size) (hbA : ¬ A bb) (d : decode cc pc = .ok (.iaload, 1)) (k : ∀ n, gq_W HH A p l e R s m args below meth c nL QQ ce sl σ (pc + 1) lv (.int (xs n) :: st) (f n)) : gq_W HH A p l e R s m args below meth c nL QQ ce sl σ pc lv (.int j :: .ref bb :: st) (gz_ix j L f) := by
  intro o h H locs ls hH hS hl
  obtain ⟨hin, hlt, hf⟩ := gz_ix_some h
  exact va_sld C.1 C.2.1 hX hbl hbA hS hin d (k _ o hf H locs ls hH hS hl)
theorem gl_slen {HH : gz_S × gz_S → Heap → Prop} {A : Nat → Prop} {bb L : Nat} {xs : Nat → Int32} (C : gz_X p s m meth c G cc own nL ret) (hX : va_X bb L xs s s.heap) (hbl : bb < s.heap.size) (hbA : ¬ A bb) (d : decode cc pc = .ok (.arraylength, 1)) (k : gq_W HH A p l e R s m args below meth c nL QQ ce sl σ (pc + 1) lv (.int (Int32.ofNat L) :: st) z) : gq_W HH A p l e R s m args below meth c nL QQ ce sl σ pc lv (.ref bb :: st) z :=
  fun o h H locs ls hH hS hl => va_slen C.1 C.2.1 hX hbl hbA hS d (k o h H locs ls hH hS hl)
theorem gl_end {bb : Nat} {QQ : Unit → State → Prop} (C : gz_X p s m meth c G code own nL ret) (hQ : QQ () = lw_Z below #[Value.ref bb] s) (ha : args = #[Value.ref bb]) (hR : R = room_1) (hret : ret = some .boolean) (hG : G.1 = s.heap.size) (h1 : ce ≤ 601024) (h2 : sl ≤ 7293034) (d : decode code pc = .ok (.ireturn, 1)) : gq_W (gl_H G) (fun q => G.1 ≤ q) p l e R s m args below meth c nL QQ ce sl σ pc lv [.int 1] (some ()) := by
  intro o ho H locs ls hH hS hl
  subst ha; subst hR
  cases ho
  rw [hQ]
  refine va_forget (fun q hq => by rw [← hG]; exact hS.2.2 q hq) ?_
  refine W.widen h1 h2 ?_
  exact lw_ret C.1 C.2.1 (C.2.2.2.2.1.trans hret) C.2.2.2.2.2.1 d
end GL
