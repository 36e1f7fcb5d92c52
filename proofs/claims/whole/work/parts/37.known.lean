/-! what the tables say at the law's entry -/
theorem gs_in0 : Cond.instantiable RX0 10 ∈ lw_tbl := gz_in 324 (by decide +kernel)
theorem gs_in1 : Cond.instantiable RX1 6 ∈ lw_tbl := gz_in 155 (by decide +kernel)
theorem gs_in2 : Cond.instantiable RX2 2 ∈ lw_tbl := gz_in 31 (by decide +kernel)
theorem gs_in3 : Cond.instantiable RX3 7 ∈ lw_tbl := gz_in 105 (by decide +kernel)
theorem gs_in4 : Cond.instantiable RX4 2 ∈ lw_tbl := gz_in 98 (by decide +kernel)
theorem gs_in5 : Cond.instantiable RX5 6 ∈ lw_tbl := gz_in 263 (by decide +kernel)
theorem gs_in6 : Cond.instantiable RX6 15 ∈ lw_tbl := gz_in 162 (by decide +kernel)
theorem gs_in7 : Cond.instantiable RX7 7 ∈ lw_tbl := gz_in 294 (by decide +kernel)
theorem gs_in8 : Cond.instantiable RX8 11 ∈ lw_tbl := gz_in 46 (by decide +kernel)
theorem gs_in9 : Cond.instantiable RX9 11 ∈ lw_tbl := gz_in 23 (by decide +kernel)
theorem gs_in10 : Cond.instantiable RX10 8 ∈ lw_tbl := gz_in 867 (by decide +kernel)
theorem gs_in11 : Cond.instantiable RX11 63 ∈ lw_tbl := gz_in 861 (by decide +kernel)
theorem gs_inst : ∀ (ci : Nat) (q : vw_C), vwCl[ci]? = some q → ∃ n, Cond.instantiable q.1 n ∈ lw_tbl := by
  intro ci q hq
  match ci, hq with
  | 0, hq => cases hq; exact ⟨_, gs_in0⟩
  | 1, hq => cases hq; exact ⟨_, gs_in1⟩
  | 2, hq => cases hq; exact ⟨_, gs_in2⟩
  | 3, hq => cases hq; exact ⟨_, gs_in3⟩
  | 4, hq => cases hq; exact ⟨_, gs_in4⟩
  | 5, hq => cases hq; exact ⟨_, gs_in5⟩
  | 6, hq => cases hq; exact ⟨_, gs_in6⟩
  | 7, hq => cases hq; exact ⟨_, gs_in7⟩
  | 8, hq => cases hq; exact ⟨_, gs_in8⟩
  | 9, hq => cases hq; exact ⟨_, gs_in9⟩
  | 10, hq => cases hq; exact ⟨_, gs_in10⟩
  | 11, hq => cases hq; exact ⟨_, gs_in11⟩
  | n + 12, hq => simp [vwCl] at hq
theorem gs_aint : Cond.arrayClass .int ∈ lw_tbl := gz_in 238 (by decide +kernel)
theorem gs_along : Cond.arrayClass .long ∈ lw_tbl := gz_in 44 (by decide +kernel)
theorem gs_abyte : Cond.arrayClass .byte ∈ lw_tbl := gz_in 95 (by decide +kernel)
theorem gs_aboolean : Cond.arrayClass .boolean ∈ lw_tbl := gz_in 936 (by decide +kernel)
theorem gs_o4 : Cond.arrayOver (.object "GazetteHouse$Field") ∈ lw_tbl := gz_in 104 (by decide +kernel)
theorem gs_o5 : Cond.arrayOver (.object "GazetteHouse$Form") ∈ lw_tbl := gz_in 97 (by decide +kernel)
theorem gs_o6 : Cond.arrayOver (.object "GazetteHouse$Issue") ∈ lw_tbl := gz_in 262 (by decide +kernel)
theorem gs_o7 : Cond.arrayOver (.object "GazetteHouse$Notice") ∈ lw_tbl := gz_in 161 (by decide +kernel)
theorem gs_l0 : Cond.laysStatic "java/lang/Throwable" "UNASSIGNED_STACK" "[Ljava/lang/StackTraceElement;" ∈ lw_tbl := gz_in 893 (by decide +kernel)
theorem gs_i0 : Cond.initialized "java/lang/Throwable" ∈ lw_tbl := gz_in 12 (by decide +kernel)
theorem gs_l1 : Cond.laysStatic "java/lang/Throwable" "SUPPRESSED_SENTINEL" "Ljava/util/List;" ∈ lw_tbl := gz_in 895 (by decide +kernel)
theorem gs_i1 : Cond.initialized "java/lang/Throwable" ∈ lw_tbl := gz_in 12 (by decide +kernel)
theorem gs_l2 : Cond.laysStatic "java/lang/String" "COMPACT_STRINGS" "Z" ∈ lw_tbl := gz_in 1243 (by decide +kernel)
theorem gs_i2 : Cond.initialized "java/lang/String" ∈ lw_tbl := gz_in 17 (by decide +kernel)
theorem gs_l3 : Cond.laysStatic "jdk/internal/util/Preconditions" "SIOOBE_FORMATTER" "Ljava/util/function/BiFunction;" ∈ lw_tbl := gz_in 1259 (by decide +kernel)
theorem gs_i3 : Cond.initialized "jdk/internal/util/Preconditions" ∈ lw_tbl := gz_in 19 (by decide +kernel)
def gs_tm (i : Nat) : Term := .string "GazetteHouseModel" (gz_six.getD i 0)
theorem gs_sr : ∀ i, i < 7 → Cond.stringRef "GazetteHouseModel" (gz_six.getD i 0) (gz_stx.getD i "") ∈ lw_tbl := by
  intro i hi
  match i, hi with
  | 0, _ => exact gz_in 1230 (by decide +kernel)
  | 1, _ => exact gz_in 1282 (by decide +kernel)
  | 2, _ => exact gz_in 1283 (by decide +kernel)
  | 3, _ => exact gz_in 1284 (by decide +kernel)
  | 4, _ => exact gz_in 1285 (by decide +kernel)
  | 5, _ => exact gz_in 1294 (by decide +kernel)
  | 6, _ => exact gz_in 1295 (by decide +kernel)
  | n + 7, h => omega
abbrev gs_F : List Cond := flatC (Jvm.Cond.and given_1 narrow_1)
theorem gs_f1 : ∀ i, i < 7 → Cond.exactly (gs_tm i) "java/lang/String" ∈ gs_F := by decide +kernel
theorem gs_f2 : ∀ i, i < 7 → Cond.eq (.field (gs_tm i) "java/lang/String" "coder" "B") (.int 0) ∈ gs_F := by decide +kernel
theorem gs_f3 : ∀ i, i < 7 → Cond.arrayOf (.field (gs_tm i) "java/lang/String" "value" "[B") .byte ∈ gs_F := by decide +kernel
theorem gs_f4 : ∀ i, i < 7 → Cond.eq (.length (.field (gs_tm i) "java/lang/String" "value" "[B")) (.int (Int32.ofNat (gz_slen.getD i 0))) ∈ gs_F := by decide +kernel
theorem gs_f5 : ∀ i, i < 7 → ∀ j, j < gz_slen.getD i 0 → Cond.eq (.elem (.field (gs_tm i) "java/lang/String" "value" "[B") (.int (Int32.ofNat j))) (.int ((gz_sbyt.getD i []).getD j 0)) ∈ gs_F := by decide +kernel
theorem gs_f6 : ∀ i, i < 7 → ∀ j, j < 7 → i ≠ j → Cond.not (Cond.eq (gs_tm i) (gs_tm j)) ∈ gs_F ∨ Cond.not (Cond.eq (gs_tm j) (gs_tm i)) ∈ gs_F := by decide +kernel
theorem gs_f7 : Cond.isRef (.static "java/lang/Throwable" "UNASSIGNED_STACK" "[Ljava/lang/StackTraceElement;") ∈ gs_F := by decide +kernel
theorem gs_f8 : Cond.isRef (.static "java/lang/Throwable" "SUPPRESSED_SENTINEL" "Ljava/util/List;") ∈ gs_F := by decide +kernel
theorem gs_f9 : Cond.eq (.static "java/lang/String" "COMPACT_STRINGS" "Z") (.int 1) ∈ gs_F := by decide +kernel
theorem gs_f10 : Cond.isRef (.static "jdk/internal/util/Preconditions" "SIOOBE_FORMATTER" "Ljava/util/function/BiFunction;") ∈ gs_F := by decide +kernel
theorem gs_arr {s : State} {args : Array Value} (hts : ∀ w ∈ lw_tbl, w.before args s = true) : ∀ k, ∃ cA : ClassId, k < 8 → ArrOfT s cA (gz_aty k) ∧ va_RA s cA (gz_aty k) := by
  have hp : ∀ ty : FieldType, (Cond.arrayClass ty).before args s = true → (∀ cA, va_RA s cA ty = (s.vm.findClass ("[" ++ ty.toString) = some cA)) → ∃ cA : ClassId, ArrOfT s cA ty ∧ va_RA s cA ty := by
    intro ty h hr
    obtain ⟨c, k, comp, h1, h2, h3⟩ := Cond.arrayClass_spec h
    exact ⟨c, fun N z => ⟨(fun k h => by cases h), k, h2, comp, h3⟩, by rw [hr]; exact h1⟩
  have ho : ∀ K : String, (Cond.arrayOver (.object K)).before args s = true → ∃ cA : ClassId, ArrOfT s cA (.object K) ∧ va_RA s cA (.object K) := by
    intro K h
    obtain ⟨comp, c, k, h1, -, h3, h4, h5⟩ := Cond.arrayOver_spec h
    exact ⟨c, fun N z => ⟨(fun k h => by cases h), k, h3, comp, h4⟩, k, comp, h3, h4, h1, h5⟩
  intro k
  match k with
  | 0 => exact (hp .int (hts _ gs_aint) (fun _ => rfl)).imp fun _ h _ => h
  | 1 => exact (hp .long (hts _ gs_along) (fun _ => rfl)).imp fun _ h _ => h
  | 2 => exact (hp .byte (hts _ gs_abyte) (fun _ => rfl)).imp fun _ h _ => h
  | 3 => exact (hp .boolean (hts _ gs_aboolean) (fun _ => rfl)).imp fun _ h _ => h
  | 4 => exact (ho _ (hts _ gs_o4)).imp fun _ h _ => h
  | 5 => exact (ho _ (hts _ gs_o5)).imp fun _ h _ => h
  | 6 => exact (ho _ (hts _ gs_o6)).imp fun _ h _ => h
  | 7 => exact (ho _ (hts _ gs_o7)).imp fun _ h _ => h
  | n + 8 => exact ⟨0, fun h => by omega⟩
theorem gs_K {s : State} {b : Nat} (hts : ∀ w ∈ lw_tbl, w.before #[Value.ref b] s = true) (hgv : (Jvm.Cond.and given_1 narrow_1).before #[Value.ref b] s = true) : ∃ G : gz_G, G.1 = s.heap.size ∧ gz_K G s ∧ gy_Z G s := by
  have hF := flat_of_before _ hgv
  have hA : ∀ a : Nat, a < s.heap.size → ¬ s.heap.size ≤ a := fun a h => by omega
  have hcl : ∀ c : Nat, ∃ x : ClassId × (Nat → Nat), ∀ q : vw_C, vwCl[c]? = some q → u_Kn s q.1 q.2.1 q.2.2 x.1 x.2 := by
    intro c
    cases hq : vwCl[c]? with
    | none => exact ⟨(0, fun _ => 0), fun q h => by cases h⟩
    | some q =>
      obtain ⟨n, hn⟩ := gs_inst c q hq
      obtain ⟨cC, iS, h⟩ := u_known (ws := lw_tbl) hts (fun w hw => ((gz_cls c q hq).1 w hw).1) (hts _ hn)
      exact ⟨(cC, iS), fun q' h' => by cases h'; exact h⟩
  obtain ⟨dd, hdd⟩ := Classical.axiomOfChoice hcl
  obtain ⟨cA, hcA⟩ := Classical.axiomOfChoice (gs_arr hts)
  obtain ⟨adK, adV, hS, hev⟩ := vk_Sof (args := #[Value.ref b]) (s := s) (N := 7) (tm := gs_tm) (len := gz_slen) (byt := gz_sbyt) (A := fun q => s.heap.size ≤ q) (by decide +kernel) (fun i hi => hF _ (gs_f1 i hi)) (fun i hi => hF _ (gs_f2 i hi)) (fun i hi => hF _ (gs_f3 i hi)) (fun i hi => hF _ (gs_f4 i hi)) (fun i hi j hj => hF _ (gs_f5 i hi j hj)) (fun i j hi hj hne => (gs_f6 i hi j hj hne).imp (hF _) (hF _)) hA
  refine ⟨(s.heap.size, fun c => (dd c).1, fun c => (dd c).2, cA, adK, adV), rfl, ⟨fun c q hq => hdd c q hq, fun k hk => hcA k hk, fun w hw ho a => ?_, hS, fun i hi => ?_, ?_, ?_⟩, ?_, ?_, ?_⟩
  · exact gz_warm ho (State.WarmedH.refl s) (hts w hw)
  · exact vk_R.of (hts _ (gs_sr i hi)) (hev i hi)
  · exact va_Zof (hts _ gs_l2) (hts _ gs_i2) (va_eqi (hF _ gs_f9)) hA
  · exact va_Zqof (hts _ gs_l3) (hts _ gs_i3) (hF _ gs_f10) hA
  · exact va_Zqof (hts _ gs_l0) (hts _ gs_i0) (hF _ gs_f7) hA
  · exact va_Zqof (hts _ gs_l1) (hts _ gs_i1) (hF _ gs_f8) hA
  · intro K hK
    simp only [gy_ao, List.mem_cons, List.not_mem_nil, or_false] at hK
    rcases hK with rfl | rfl | rfl | rfl
    · exact va_AO.of (hts _ gs_o5)
    · exact va_AO.of (hts _ gs_o4)
    · exact va_AO.of (hts _ gs_o7)
    · exact va_AO.of (hts _ gs_o6)
