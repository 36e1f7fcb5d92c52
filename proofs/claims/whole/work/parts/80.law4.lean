/-! the law, call by call -/
theorem gl_nz01 (x : Int32) : gl_nz x = 0 ∨ gl_nz x = 1 := by
  unfold gl_nz
  split
  · exact Or.inl rfl
  · exact Or.inr rfl
theorem gl_fin {X Y : Option (Int32 × gz_S)} {k : gz_S → gz_S → Option Unit} (h : gQ X Y) (hk : ∀ u v, gR u v → k u v = some ()) : gz_call X (fun r3 u4 => gz_call Y (fun r7 u8 => if r3 = r7 then k u4 u8 else none)) = some () := by
  obtain ⟨⟨r, u⟩, ex, ⟨r', v⟩, ey, e, hr⟩ := h
  have e' : r = r' := e
  rw [ex, gz_call_e, ey, gz_call_e, if_pos e']
  exact hk u v hr
theorem gl_finL {X Y : Option (Int64 × gz_S)} {k : gz_S → gz_S → Option Unit} (h : gQ X Y) (hk : ∀ u v, gR u v → k u v = some ()) : gz_call X (fun r3 u4 => gz_call Y (fun r7 u8 => if (lg_cmp r3 r7) = 0 then k u4 u8 else none)) = some () := by
  obtain ⟨⟨r, u⟩, ex, ⟨r', v⟩, ey, e, hr⟩ := h
  have e' : r = r' := e
  rw [ex, gz_call_e, ey, gz_call_e, if_pos ((lg_cmp_eq _ _).mpr e')]
  exact hk u v hr
theorem gl_C0 {xs : Nat → Int32} {L i : Nat} {k : gz_S → gz_S → Option Unit} {σx σm : gz_S} (hL : L ≤ 3072) (hi : i + 6 ≤ L) (h : gR σx σm) (hk : ∀ u v, gR u v → k u v = some ()) : f_lawC0 xs L (nI i) k σx σm = some () := by
  unfold f_lawC0
  simp only [show nI i + 1 = nI (i + 1) from nI_add i 1, show nI i + 2 = nI (i + 2) from nI_add i 2, gz_ix_nI (show i + 1 < L by omega) (show L < 2 ^ 31 by omega), gz_ix_nI (show i + 2 < L by omega) (show L < 2 ^ 31 by omega)]
  exact gl_fin (s_feast h _ (gl_nz01 _)) hk
theorem gl_C1 {xs : Nat → Int32} {L i : Nat} {k : gz_S → gz_S → Option Unit} {σx σm : gz_S} (hL : L ≤ 3072) (hi : i + 6 ≤ L) (h : gR σx σm) (hk : ∀ u v, gR u v → k u v = some ()) : f_lawC1 xs L (nI i) k σx σm = some () := by
  unfold f_lawC1
  simp only [show nI i + 1 = nI (i + 1) from nI_add i 1, gz_ix_nI (show i + 1 < L by omega) (show L < 2 ^ 31 by omega)]
  exact gl_fin (s_working h _) hk
theorem gl_C2 {xs : Nat → Int32} {L i : Nat} {k : gz_S → gz_S → Option Unit} {σx σm : gz_S} (hL : L ≤ 3072) (hi : i + 6 ≤ L) (h : gR σx σm) (hk : ∀ u v, gR u v → k u v = some ()) : f_lawC2 xs L (nI i) k σx σm = some () := by
  unfold f_lawC2
  simp only [show nI i + 1 = nI (i + 1) from nI_add i 1, show nI i + 2 = nI (i + 2) from nI_add i 2, show nI i + 3 = nI (i + 3) from nI_add i 3, gz_ix_nI (show i + 1 < L by omega) (show L < 2 ^ 31 by omega), gz_ix_nI (show i + 2 < L by omega) (show L < 2 ^ 31 by omega), gz_ix_nI (show i + 3 < L by omega) (show L < 2 ^ 31 by omega)]
  exact gl_fin (s_after h _ _ _) hk
theorem gl_C3 {xs : Nat → Int32} {L i : Nat} {k : gz_S → gz_S → Option Unit} {σx σm : gz_S} (hL : L ≤ 3072) (hi : i + 6 ≤ L) (h : gR σx σm) (hk : ∀ u v, gR u v → k u v = some ()) : f_lawC3 xs L (nI i) k σx σm = some () := by
  unfold f_lawC3
  simp only [show nI i + 1 = nI (i + 1) from nI_add i 1, show nI i + 2 = nI (i + 2) from nI_add i 2, show nI i + 3 = nI (i + 3) from nI_add i 3, show nI i + 4 = nI (i + 4) from nI_add i 4, show nI i + 5 = nI (i + 5) from nI_add i 5, gz_ix_nI (show i + 1 < L by omega) (show L < 2 ^ 31 by omega), gz_ix_nI (show i + 2 < L by omega) (show L < 2 ^ 31 by omega), gz_ix_nI (show i + 3 < L by omega) (show L < 2 ^ 31 by omega), gz_ix_nI (show i + 4 < L by omega) (show L < 2 ^ 31 by omega), gz_ix_nI (show i + 5 < L by omega) (show L < 2 ^ 31 by omega)]
  exact gl_fin (s_feed h _ _ _ _ _) hk
theorem gl_C4 {xs : Nat → Int32} {L i : Nat} {k : gz_S → gz_S → Option Unit} {σx σm : gz_S} (hL : L ≤ 3072) (hi : i + 6 ≤ L) (h : gR σx σm) (hk : ∀ u v, gR u v → k u v = some ()) : f_lawC4 xs L (nI i) k σx σm = some () := by
  unfold f_lawC4
  simp only [show nI i + 1 = nI (i + 1) from nI_add i 1, gz_ix_nI (show i + 1 < L by omega) (show L < 2 ^ 31 by omega)]
  exact gl_fin (s_form h _) hk
theorem gl_C5 {xs : Nat → Int32} {L i : Nat} {k : gz_S → gz_S → Option Unit} {σx σm : gz_S} (hL : L ≤ 3072) (hi : i + 6 ≤ L) (h : gR σx σm) (hk : ∀ u v, gR u v → k u v = some ()) : f_lawC5 xs L (nI i) k σx σm = some () := by
  unfold f_lawC5
  simp only [show nI i + 1 = nI (i + 1) from nI_add i 1, show nI i + 2 = nI (i + 2) from nI_add i 2, show nI i + 3 = nI (i + 3) from nI_add i 3, show nI i + 4 = nI (i + 4) from nI_add i 4, gz_ix_nI (show i + 1 < L by omega) (show L < 2 ^ 31 by omega), gz_ix_nI (show i + 2 < L by omega) (show L < 2 ^ 31 by omega), gz_ix_nI (show i + 3 < L by omega) (show L < 2 ^ 31 by omega), gz_ix_nI (show i + 4 < L by omega) (show L < 2 ^ 31 by omega)]
  exact gl_fin (s_notice h _ _ _ _) hk
theorem gl_C6 {xs : Nat → Int32} {L i : Nat} {k : gz_S → gz_S → Option Unit} {σx σm : gz_S} (hL : L ≤ 3072) (hi : i + 6 ≤ L) (h : gR σx σm) (hk : ∀ u v, gR u v → k u v = some ()) : f_lawC6 xs L (nI i) k σx σm = some () := by
  unfold f_lawC6
  exact gl_fin (s_fault h) hk
theorem gl_C7 {xs : Nat → Int32} {L i : Nat} {k : gz_S → gz_S → Option Unit} {σx σm : gz_S} (hL : L ≤ 3072) (hi : i + 6 ≤ L) (h : gR σx σm) (hk : ∀ u v, gR u v → k u v = some ()) : f_lawC7 xs L (nI i) k σx σm = some () := by
  unfold f_lawC7
  exact gl_fin (s_where h) hk
theorem gl_C8 {xs : Nat → Int32} {L i : Nat} {k : gz_S → gz_S → Option Unit} {σx σm : gz_S} (hL : L ≤ 3072) (hi : i + 6 ≤ L) (h : gR σx σm) (hk : ∀ u v, gR u v → k u v = some ()) : f_lawC8 xs L (nI i) k σx σm = some () := by
  unfold f_lawC8
  exact gl_fin (s_lacks h) hk
theorem gl_C9 {xs : Nat → Int32} {L i : Nat} {k : gz_S → gz_S → Option Unit} {σx σm : gz_S} (hL : L ≤ 3072) (hi : i + 6 ≤ L) (h : gR σx σm) (hk : ∀ u v, gR u v → k u v = some ()) : f_lawC9 xs L (nI i) k σx σm = some () := by
  unfold f_lawC9
  simp only [show nI i + 1 = nI (i + 1) from nI_add i 1, show nI i + 2 = nI (i + 2) from nI_add i 2, show nI i + 3 = nI (i + 3) from nI_add i 3, gz_ix_nI (show i + 1 < L by omega) (show L < 2 ^ 31 by omega), gz_ix_nI (show i + 2 < L by omega) (show L < 2 ^ 31 by omega), gz_ix_nI (show i + 3 < L by omega) (show L < 2 ^ 31 by omega)]
  exact gl_fin (s_field h _ _ _) hk
theorem gl_C10 {xs : Nat → Int32} {L i : Nat} {k : gz_S → gz_S → Option Unit} {σx σm : gz_S} (hL : L ≤ 3072) (hi : i + 6 ≤ L) (h : gR σx σm) (hk : ∀ u v, gR u v → k u v = some ()) : f_lawC10 xs L (nI i) k σx σm = some () := by
  unfold f_lawC10
  simp only [show nI i + 1 = nI (i + 1) from nI_add i 1, gz_ix_nI (show i + 1 < L by omega) (show L < 2 ^ 31 by omega)]
  exact gl_fin (s_fields h _) hk
theorem gl_C11 {xs : Nat → Int32} {L i : Nat} {k : gz_S → gz_S → Option Unit} {σx σm : gz_S} (hL : L ≤ 3072) (hi : i + 6 ≤ L) (h : gR σx σm) (hk : ∀ u v, gR u v → k u v = some ()) : f_lawC11 xs L (nI i) k σx σm = some () := by
  unfold f_lawC11
  simp only [show nI i + 1 = nI (i + 1) from nI_add i 1, show nI i + 2 = nI (i + 2) from nI_add i 2, gz_ix_nI (show i + 1 < L by omega) (show L < 2 ^ 31 by omega), gz_ix_nI (show i + 2 < L by omega) (show L < 2 ^ 31 by omega)]
  exact gl_finL (s_value h _ _) hk
theorem gl_C12 {xs : Nat → Int32} {L i : Nat} {k : gz_S → gz_S → Option Unit} {σx σm : gz_S} (hL : L ≤ 3072) (hi : i + 6 ≤ L) (h : gR σx σm) (hk : ∀ u v, gR u v → k u v = some ()) : f_lawC12 xs L (nI i) k σx σm = some () := by
  unfold f_lawC12
  simp only [show nI i + 1 = nI (i + 1) from nI_add i 1, show nI i + 2 = nI (i + 2) from nI_add i 2, gz_ix_nI (show i + 1 < L by omega) (show L < 2 ^ 31 by omega), gz_ix_nI (show i + 2 < L by omega) (show L < 2 ^ 31 by omega)]
  exact gl_fin (s_about h _ _) hk
theorem gl_C13 {xs : Nat → Int32} {L i : Nat} {k : gz_S → gz_S → Option Unit} {σx σm : gz_S} (hL : L ≤ 3072) (hi : i + 6 ≤ L) (h : gR σx σm) (hk : ∀ u v, gR u v → k u v = some ()) : f_lawC13 xs L (nI i) k σx σm = some () := by
  unfold f_lawC13
  simp only [show nI i + 1 = nI (i + 1) from nI_add i 1, show nI i + 2 = nI (i + 2) from nI_add i 2, show nI i + 3 = nI (i + 3) from nI_add i 3, show nI i + 4 = nI (i + 4) from nI_add i 4, gz_ix_nI (show i + 1 < L by omega) (show L < 2 ^ 31 by omega), gz_ix_nI (show i + 2 < L by omega) (show L < 2 ^ 31 by omega), gz_ix_nI (show i + 3 < L by omega) (show L < 2 ^ 31 by omega), gz_ix_nI (show i + 4 < L by omega) (show L < 2 ^ 31 by omega)]
  exact gl_fin (s_says h _ _ _ _) hk
theorem gl_C14 {xs : Nat → Int32} {L i : Nat} {k : gz_S → gz_S → Option Unit} {σx σm : gz_S} (hL : L ≤ 3072) (hi : i + 6 ≤ L) (h : gR σx σm) (hk : ∀ u v, gR u v → k u v = some ()) : f_lawC14 xs L (nI i) k σx σm = some () := by
  unfold f_lawC14
  simp only [show nI i + 1 = nI (i + 1) from nI_add i 1, show nI i + 2 = nI (i + 2) from nI_add i 2, gz_ix_nI (show i + 1 < L by omega) (show L < 2 ^ 31 by omega), gz_ix_nI (show i + 2 < L by omega) (show L < 2 ^ 31 by omega)]
  exact gl_fin (s_corrects h _ _) hk
theorem gl_C15 {xs : Nat → Int32} {L i : Nat} {k : gz_S → gz_S → Option Unit} {σx σm : gz_S} (hL : L ≤ 3072) (hi : i + 6 ≤ L) (h : gR σx σm) (hk : ∀ u v, gR u v → k u v = some ()) : f_lawC15 xs L (nI i) k σx σm = some () := by
  unfold f_lawC15
  simp only [show nI i + 1 = nI (i + 1) from nI_add i 1, show nI i + 2 = nI (i + 2) from nI_add i 2, show nI i + 3 = nI (i + 3) from nI_add i 3, show nI i + 4 = nI (i + 4) from nI_add i 4, show nI i + 5 = nI (i + 5) from nI_add i 5, gz_ix_nI (show i + 1 < L by omega) (show L < 2 ^ 31 by omega), gz_ix_nI (show i + 2 < L by omega) (show L < 2 ^ 31 by omega), gz_ix_nI (show i + 3 < L by omega) (show L < 2 ^ 31 by omega), gz_ix_nI (show i + 4 < L by omega) (show L < 2 ^ 31 by omega), gz_ix_nI (show i + 5 < L by omega) (show L < 2 ^ 31 by omega)]
  exact gl_fin (s_renames h _ _ _) hk
theorem gl_C16 {xs : Nat → Int32} {L i : Nat} {k : gz_S → gz_S → Option Unit} {σx σm : gz_S} (hL : L ≤ 3072) (hi : i + 6 ≤ L) (h : gR σx σm) (hk : ∀ u v, gR u v → k u v = some ()) : f_lawC16 xs L (nI i) k σx σm = some () := by
  unfold f_lawC16
  simp only [show nI i + 1 = nI (i + 1) from nI_add i 1, show nI i + 2 = nI (i + 2) from nI_add i 2, show nI i + 3 = nI (i + 3) from nI_add i 3, gz_ix_nI (show i + 1 < L by omega) (show L < 2 ^ 31 by omega), gz_ix_nI (show i + 2 < L by omega) (show L < 2 ^ 31 by omega), gz_ix_nI (show i + 3 < L by omega) (show L < 2 ^ 31 by omega)]
  exact gl_fin (s_strikes h _ _) hk
theorem gl_C17 {xs : Nat → Int32} {L i : Nat} {k : gz_S → gz_S → Option Unit} {σx σm : gz_S} (hL : L ≤ 3072) (hi : i + 6 ≤ L) (h : gR σx σm) (hk : ∀ u v, gR u v → k u v = some ()) : f_lawC17 xs L (nI i) k σx σm = some () := by
  unfold f_lawC17
  simp only [show nI i + 1 = nI (i + 1) from nI_add i 1, show nI i + 2 = nI (i + 2) from nI_add i 2, show nI i + 3 = nI (i + 3) from nI_add i 3, show nI i + 4 = nI (i + 4) from nI_add i 4, gz_ix_nI (show i + 1 < L by omega) (show L < 2 ^ 31 by omega), gz_ix_nI (show i + 2 < L by omega) (show L < 2 ^ 31 by omega), gz_ix_nI (show i + 3 < L by omega) (show L < 2 ^ 31 by omega), gz_ix_nI (show i + 4 < L by omega) (show L < 2 ^ 31 by omega)]
  exact gl_fin (s_issue h _ _ _ _) hk
theorem gl_C18 {xs : Nat → Int32} {L i : Nat} {k : gz_S → gz_S → Option Unit} {σx σm : gz_S} (hL : L ≤ 3072) (hi : i + 6 ≤ L) (h : gR σx σm) (hk : ∀ u v, gR u v → k u v = some ()) : f_lawC18 xs L (nI i) k σx σm = some () := by
  unfold f_lawC18
  simp only [show nI i + 1 = nI (i + 1) from nI_add i 1, show nI i + 2 = nI (i + 2) from nI_add i 2, gz_ix_nI (show i + 1 < L by omega) (show L < 2 ^ 31 by omega), gz_ix_nI (show i + 2 < L by omega) (show L < 2 ^ 31 by omega)]
  exact gl_fin (s_issued h _ _) hk
theorem gl_C19 {xs : Nat → Int32} {L i : Nat} {k : gz_S → gz_S → Option Unit} {σx σm : gz_S} (hL : L ≤ 3072) (hi : i + 6 ≤ L) (h : gR σx σm) (hk : ∀ u v, gR u v → k u v = some ()) : f_lawC19 xs L (nI i) k σx σm = some () := by
  unfold f_lawC19
  simp only [show nI i + 1 = nI (i + 1) from nI_add i 1, show nI i + 2 = nI (i + 2) from nI_add i 2, gz_ix_nI (show i + 1 < L by omega) (show L < 2 ^ 31 by omega), gz_ix_nI (show i + 2 < L by omega) (show L < 2 ^ 31 by omega)]
  exact gl_fin (s_printed h _ _) hk
theorem gl_C20 {xs : Nat → Int32} {L i : Nat} {k : gz_S → gz_S → Option Unit} {σx σm : gz_S} (hL : L ≤ 3072) (hi : i + 6 ≤ L) (h : gR σx σm) (hk : ∀ u v, gR u v → k u v = some ()) : f_lawC20 xs L (nI i) k σx σm = some () := by
  unfold f_lawC20
  simp only [show nI i + 1 = nI (i + 1) from nI_add i 1, show nI i + 2 = nI (i + 2) from nI_add i 2, show nI i + 3 = nI (i + 3) from nI_add i 3, gz_ix_nI (show i + 1 < L by omega) (show L < 2 ^ 31 by omega), gz_ix_nI (show i + 2 < L by omega) (show L < 2 ^ 31 by omega), gz_ix_nI (show i + 3 < L by omega) (show L < 2 ^ 31 by omega)]
  exact gl_fin (s_law h _ _ _) hk
theorem gl_C21 {xs : Nat → Int32} {L i : Nat} {k : gz_S → gz_S → Option Unit} {σx σm : gz_S} (hL : L ≤ 3072) (hi : i + 6 ≤ L) (h : gR σx σm) (hk : ∀ u v, gR u v → k u v = some ()) : f_lawC21 xs L (nI i) k σx σm = some () := by
  unfold f_lawC21
  simp only [show nI i + 1 = nI (i + 1) from nI_add i 1, show nI i + 2 = nI (i + 2) from nI_add i 2, show nI i + 3 = nI (i + 3) from nI_add i 3, gz_ix_nI (show i + 1 < L by omega) (show L < 2 ^ 31 by omega), gz_ix_nI (show i + 2 < L by omega) (show L < 2 ^ 31 by omega), gz_ix_nI (show i + 3 < L by omega) (show L < 2 ^ 31 by omega)]
  exact gl_fin (s_source h _ _ _) hk
theorem gl_C22 {xs : Nat → Int32} {L i : Nat} {k : gz_S → gz_S → Option Unit} {σx σm : gz_S} (hL : L ≤ 3072) (hi : i + 6 ≤ L) (h : gR σx σm) (hk : ∀ u v, gR u v → k u v = some ()) : f_lawC22 xs L (nI i) k σx σm = some () := by
  unfold f_lawC22
  simp only [show nI i + 1 = nI (i + 1) from nI_add i 1, show nI i + 2 = nI (i + 2) from nI_add i 2, gz_ix_nI (show i + 1 < L by omega) (show L < 2 ^ 31 by omega), gz_ix_nI (show i + 2 < L by omega) (show L < 2 ^ 31 by omega)]
  exact gl_fin (s_isVoid h _ _) hk
theorem gl_C23 {xs : Nat → Int32} {L i : Nat} {k : gz_S → gz_S → Option Unit} {σx σm : gz_S} (hL : L ≤ 3072) (hi : i + 6 ≤ L) (h : gR σx σm) (hk : ∀ u v, gR u v → k u v = some ()) : f_lawC23 xs L (nI i) k σx σm = some () := by
  unfold f_lawC23
  simp only [show nI i + 1 = nI (i + 1) from nI_add i 1, show nI i + 2 = nI (i + 2) from nI_add i 2, gz_ix_nI (show i + 1 < L by omega) (show L < 2 ^ 31 by omega), gz_ix_nI (show i + 2 < L by omega) (show L < 2 ^ 31 by omega)]
  exact gl_fin (s_changes h _ _) hk
theorem gl_C24 {xs : Nat → Int32} {L i : Nat} {k : gz_S → gz_S → Option Unit} {σx σm : gz_S} (hL : L ≤ 3072) (hi : i + 6 ≤ L) (h : gR σx σm) (hk : ∀ u v, gR u v → k u v = some ()) : f_lawC24 xs L (nI i) k σx σm = some () := by
  unfold f_lawC24
  simp only [show nI i + 1 = nI (i + 1) from nI_add i 1, show nI i + 2 = nI (i + 2) from nI_add i 2, show nI i + 3 = nI (i + 3) from nI_add i 3, gz_ix_nI (show i + 1 < L by omega) (show L < 2 ^ 31 by omega), gz_ix_nI (show i + 2 < L by omega) (show L < 2 ^ 31 by omega), gz_ix_nI (show i + 3 < L by omega) (show L < 2 ^ 31 by omega)]
  exact gl_fin (s_find h _ _) hk
theorem gl_C25 {xs : Nat → Int32} {L i : Nat} {k : gz_S → gz_S → Option Unit} {σx σm : gz_S} (hL : L ≤ 3072) (hi : i + 6 ≤ L) (h : gR σx σm) (hk : ∀ u v, gR u v → k u v = some ()) : f_lawC25 xs L (nI i) k σx σm = some () := by
  unfold f_lawC25
  simp only [show nI i + 1 = nI (i + 1) from nI_add i 1, gz_ix_nI (show i + 1 < L by omega) (show L < 2 ^ 31 by omega)]
  exact gl_fin (s_found h _) hk
theorem gl_C26 {xs : Nat → Int32} {L i : Nat} {k : gz_S → gz_S → Option Unit} {σx σm : gz_S} (hL : L ≤ 3072) (hi : i + 6 ≤ L) (h : gR σx σm) (hk : ∀ u v, gR u v → k u v = some ()) : f_lawC26 xs L (nI i) k σx σm = some () := by
  unfold f_lawC26
  simp only [show nI i + 1 = nI (i + 1) from nI_add i 1, show nI i + 2 = nI (i + 2) from nI_add i 2, show nI i + 3 = nI (i + 3) from nI_add i 3, gz_ix_nI (show i + 1 < L by omega) (show L < 2 ^ 31 by omega), gz_ix_nI (show i + 2 < L by omega) (show L < 2 ^ 31 by omega), gz_ix_nI (show i + 3 < L by omega) (show L < 2 ^ 31 by omega)]
  exact gl_fin (s_struck h _ _) hk
theorem gl_C27 {xs : Nat → Int32} {L i : Nat} {k : gz_S → gz_S → Option Unit} {σx σm : gz_S} (hL : L ≤ 3072) (hi : i + 6 ≤ L) (h : gR σx σm) (hk : ∀ u v, gR u v → k u v = some ()) : f_lawC27 xs L (nI i) k σx σm = some () := by
  unfold f_lawC27
  exact gl_fin (s_undo h) hk
theorem gl_C28 {xs : Nat → Int32} {L i : Nat} {k : gz_S → gz_S → Option Unit} {σx σm : gz_S} (hL : L ≤ 3072) (hi : i + 6 ≤ L) (h : gR σx σm) (hk : ∀ u v, gR u v → k u v = some ()) : f_lawC28 xs L (nI i) k σx σm = some () := by
  unfold f_lawC28
  simp only [show nI i + 1 = nI (i + 1) from nI_add i 1, gz_ix_nI (show i + 1 < L by omega) (show L < 2 ^ 31 by omega)]
  exact gl_fin (s_count h _) hk
theorem gl_C29 {xs : Nat → Int32} {L i : Nat} {k : gz_S → gz_S → Option Unit} {σx σm : gz_S} (hL : L ≤ 3072) (hi : i + 6 ≤ L) (h : gR σx σm) (hk : ∀ u v, gR u v → k u v = some ()) : f_lawC29 xs L (nI i) k σx σm = some () := by
  unfold f_lawC29
  exact gl_fin (s_trouble h) hk
theorem gl_B {xs : Nat → Int32} {L i : Nat} {k : gz_S → gz_S → Option Unit} {σx σm : gz_S} (hL : L ≤ 3072) (hi : i + 6 ≤ L) (h : gR σx σm) (hk : ∀ u v, gR u v → k u v = some ()) : f_lawB xs L (nI i) k σx σm = some () := by
  unfold f_lawB
  rw [gz_ix_nI (show i < L by omega) (show L < 2 ^ 31 by omega)]
  by_cases h0 : xs i &&& 31 = 0
  · rw [if_pos h0]
    exact gl_C0 hL hi h hk
  rw [if_neg h0]
  by_cases h1 : xs i &&& 31 = 1
  · rw [if_pos h1]
    exact gl_C1 hL hi h hk
  rw [if_neg h1]
  by_cases h2 : xs i &&& 31 = 2
  · rw [if_pos h2]
    exact gl_C2 hL hi h hk
  rw [if_neg h2]
  by_cases h3 : xs i &&& 31 = 3
  · rw [if_pos h3]
    exact gl_C3 hL hi h hk
  rw [if_neg h3]
  by_cases h4 : xs i &&& 31 = 4
  · rw [if_pos h4]
    exact gl_C4 hL hi h hk
  rw [if_neg h4]
  by_cases h5 : xs i &&& 31 = 5
  · rw [if_pos h5]
    exact gl_C5 hL hi h hk
  rw [if_neg h5]
  by_cases h6 : xs i &&& 31 = 6
  · rw [if_pos h6]
    exact gl_C6 hL hi h hk
  rw [if_neg h6]
  by_cases h7 : xs i &&& 31 = 7
  · rw [if_pos h7]
    exact gl_C7 hL hi h hk
  rw [if_neg h7]
  by_cases h8 : xs i &&& 31 = 8
  · rw [if_pos h8]
    exact gl_C8 hL hi h hk
  rw [if_neg h8]
  by_cases h9 : xs i &&& 31 = 9
  · rw [if_pos h9]
    exact gl_C9 hL hi h hk
  rw [if_neg h9]
  by_cases h10 : xs i &&& 31 = 10
  · rw [if_pos h10]
    exact gl_C10 hL hi h hk
  rw [if_neg h10]
  by_cases h11 : xs i &&& 31 = 11
  · rw [if_pos h11]
    exact gl_C11 hL hi h hk
  rw [if_neg h11]
  by_cases h12 : xs i &&& 31 = 12
  · rw [if_pos h12]
    exact gl_C12 hL hi h hk
  rw [if_neg h12]
  by_cases h13 : xs i &&& 31 = 13
  · rw [if_pos h13]
    exact gl_C13 hL hi h hk
  rw [if_neg h13]
  by_cases h14 : xs i &&& 31 = 14
  · rw [if_pos h14]
    exact gl_C14 hL hi h hk
  rw [if_neg h14]
  by_cases h15 : xs i &&& 31 = 15
  · rw [if_pos h15]
    exact gl_C15 hL hi h hk
  rw [if_neg h15]
  by_cases h16 : xs i &&& 31 = 16
  · rw [if_pos h16]
    exact gl_C16 hL hi h hk
  rw [if_neg h16]
  by_cases h17 : xs i &&& 31 = 17
  · rw [if_pos h17]
    exact gl_C17 hL hi h hk
  rw [if_neg h17]
  by_cases h18 : xs i &&& 31 = 18
  · rw [if_pos h18]
    exact gl_C18 hL hi h hk
  rw [if_neg h18]
  by_cases h19 : xs i &&& 31 = 19
  · rw [if_pos h19]
    exact gl_C19 hL hi h hk
  rw [if_neg h19]
  by_cases h20 : xs i &&& 31 = 20
  · rw [if_pos h20]
    exact gl_C20 hL hi h hk
  rw [if_neg h20]
  by_cases h21 : xs i &&& 31 = 21
  · rw [if_pos h21]
    exact gl_C21 hL hi h hk
  rw [if_neg h21]
  by_cases h22 : xs i &&& 31 = 22
  · rw [if_pos h22]
    exact gl_C22 hL hi h hk
  rw [if_neg h22]
  by_cases h23 : xs i &&& 31 = 23
  · rw [if_pos h23]
    exact gl_C23 hL hi h hk
  rw [if_neg h23]
  by_cases h24 : xs i &&& 31 = 24
  · rw [if_pos h24]
    exact gl_C24 hL hi h hk
  rw [if_neg h24]
  by_cases h25 : xs i &&& 31 = 25
  · rw [if_pos h25]
    exact gl_C25 hL hi h hk
  rw [if_neg h25]
  by_cases h26 : xs i &&& 31 = 26
  · rw [if_pos h26]
    exact gl_C26 hL hi h hk
  rw [if_neg h26]
  by_cases h27 : xs i &&& 31 = 27
  · rw [if_pos h27]
    exact gl_C27 hL hi h hk
  rw [if_neg h27]
  by_cases h28 : xs i &&& 31 = 28
  · rw [if_pos h28]
    exact gl_C28 hL hi h hk
  rw [if_neg h28]
  by_cases h29 : xs i &&& 31 = 29
  · rw [if_pos h29]
    exact gl_C29 hL hi h hk
  rw [if_neg h29]
  exact hk σx σm h
theorem gl_L {xs : Nat → Int32} {L : Nat} (hL : L ≤ 3072) : ∀ n i σx σm, L ≤ i + 6 * n + 5 → i ≤ 4000 → gR σx σm → f_lawL xs L n (nI i) σx σm = some () := by
  have hlt : ∀ i, i ≤ 4000 → ((Int32.ofNat L - 6 < nI i) ↔ L < i + 6) := by
    intro i hi
    have e : (Int32.ofNat L - 6).toInt = (L : Int) - (6 : Nat) := pk_sub_toInt (a := L) (b := 6) (by omega) (by decide)
    rw [Int32.lt_iff_toInt_lt, nI_toInt (by omega), e]
    omega
  intro n
  induction n with
  | zero =>
    intro i σx σm h1 h2 h
    show (if Int32.ofNat L - 6 < nI i then some () else none) = some ()
    rw [if_pos ((hlt i h2).mpr (by omega))]
  | succ n ih =>
    intro i σx σm h1 h2 h
    show (if Int32.ofNat L - 6 < nI i then some () else f_lawB xs L (nI i) (fun u v => f_lawL xs L n (nI i + 6) u v) σx σm) = some ()
    by_cases hc : L < i + 6
    · rw [if_pos ((hlt i h2).mpr hc)]
    · rw [if_neg (fun q => hc ((hlt i h2).mp q))]
      refine gl_B hL (by omega) h (fun u v huv => ?_)
      show f_lawL xs L n (nI i + 6) u v = some ()
      rw [show nI i + 6 = nI (i + 6) from nI_add i 6]
      exact ih (i + 6) u v (by omega) (by omega) huv
