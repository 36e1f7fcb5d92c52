/-! from the law's entry to its loop -/
theorem gy_fi_row {p : Program} {l : Launch} {e : Env} {R : Room} {s : State} {m : MethodId} {args : Array Value} {below : List Frame} {meth : Method} {c : Code} {G : gz_G} {nL : Nat} {α : Type} {QQ : α → State → Prop} {ρ : gy_S} {pc : Nat} {lv : List (Nat × Value)} {st : List Value} {z : Option α} {b1 b3 : Nat} (k : b1 = 0 → b3 = 639 → gq_W (gl_H G) (fun q => G.1 ≤ q) p l e R s m args below meth c nL QQ 683 6830000 (gz_s0x, gz_s0m) pc lv st z) : gy_W 0 p l e R s m args below meth c G nL QQ ρ pc lv st (gy_fi b1 b3 ρ z) := by
  intro o h H locs ls hH hS hl
  unfold gy_fi at h
  split at h
  · rename_i hg
    obtain ⟨h1, h2, h3⟩ := hg
    subst h3
    exact k h1 h2 o h H locs ls ⟨gy_done (b := false) hH.1, gy_done (b := true) hH.1⟩ hS hl
  · cases h
set_option maxHeartbeats 4000000 in
theorem whole_from {p : Program} {e : Env} {s : State} {m : MethodId} {below : List Frame} {meth : Method} {c : Code} (l : Launch) {b L : Nat} {xs : Nat → Int32} (hL : L ≤ 3072) (C0 : lw_At p s m meth c b L xs) (hf : f_lawL xs L 512 0 gz_s0x gz_s0m = some ()) : W p l e room_1 s m #[Value.ref b] below meth c s.heap [] 0 0 (lw_Z below #[Value.ref b] s) (entryFrame m ([Value.ref b] : List Value).toArray 4) := by
  obtain ⟨hx, hb, hret, hml, hown, hts, hX, hbl, hlk, hgv⟩ := C0
  obtain ⟨G, hG, hK, hZ⟩ := gs_K hts hgv
  have C : gz_X p s m meth c G code R_law 4 (some .boolean) := ⟨hx, hb, hml, hown, hret, hlk, hK⟩
  have hl := lv_entry [Value.ref b] (n := 4) (Nat.le_of_ble_eq_true rfl)
  rw [lg_entry_eq]
  have key : gy_W 0 p l e room_1 s m #[Value.ref b] below meth c G 4 (fun _ : Unit => lw_Z below #[Value.ref b] s) (0, 0) 0 [(0, .ref b)] [] (f_law0 (f_lawL xs L 512 0 gz_s0x gz_s0m)) := by
    unfold f_law0
    refine gy_new (ci := 9) (q := (RX9, TX9, 11)) C dL_law_0 ck_RL_7 cin_9 cii_9 rfl (by decide) (Nat.le_of_ble_eq_true rfl) (Nat.le_of_ble_eq_true rfl) (fun b1 u1 => ?_)
    refine gq_dup C dL_law_3 rfl ?_
    refine gy_call (lim := 0 + 683) (As := []) C hZ dL_law_4 ml_RL_9 mw_X9_init rfl mi_X9_init (c_X9_init l G b1 u1) rfl rfl (Nat.le_of_ble_eq_true rfl) ⟨rfl, rfl, Nat.le_of_ble_eq_true rfl, Nat.le_of_ble_eq_true rfl, Nat.le_of_ble_eq_true rfl, Nat.le_of_ble_eq_true rfl, rfl⟩ (fun u2 => ?_)
    refine gq_astore_n C (lv' := [(1, .ref (G.1 + b1)), (0, .ref b)]) dL_law_7 (by decide) rfl ?_
    refine gy_new (ci := 11) (q := (RX11, TX11, 63)) C dL_law_8 ck_RL_10 cin_11 cii_11 rfl (by decide) (Nat.le_of_ble_eq_true rfl) (Nat.le_of_ble_eq_true rfl) (fun b3 u3 => ?_)
    refine gq_dup C dL_law_11 rfl ?_
    refine gy_call (lim := 0 + 683) (As := []) C hZ dL_law_12 ml_RL_12 mw_X11_init rfl mi_X11_init (c_X11_init l G b3 u3) rfl rfl (Nat.le_of_ble_eq_true rfl) ⟨rfl, rfl, Nat.le_of_ble_eq_true rfl, Nat.le_of_ble_eq_true rfl, Nat.le_of_ble_eq_true rfl, Nat.le_of_ble_eq_true rfl, rfl⟩ (fun u4 => ?_)
    refine gq_astore_n C (lv' := [(2, .ref (G.1 + b3)), (1, .ref (G.1 + b1)), (0, .ref b)]) dL_law_15 (by decide) rfl ?_
    refine gy_fi_row (fun h1 h3 => ?_)
    subst h1; subst h3
    refine gq_iconst C dL_law_16 gk_iconst_0 ?_
    refine gq_istore_n C (lv' := [(3, .int 0), (2, .ref (G.1 + 639)), (1, .ref (G.1 + 0)), (0, .ref b)]) dL_law_17 (by decide) rfl ?_
    refine gq_lv (lv' := [(0, .ref b), (1, .ref (gz_ad false G 0 0)), (2, .ref (gz_ad true G 0 0)), (3, .int 0)]) [3, 2, 1, 0] rfl ?_
    exact c_lawL C hX hbl (by rw [hG]; omega) rfl rfl hG 512 683 6830000 0 gz_s0x gz_s0m (by decide) (by decide)
  refine key () (by rw [f_law0_eq]; exact hf) s.heap [] _ ⟨⟨by rw [hG]; rfl, fun k hk => absurd hk (Nat.not_lt_zero _)⟩, Nat.le_refl _⟩ va_S.rf hl
