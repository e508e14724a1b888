set_option maxHeartbeats 400000 in
set_option maxRecDepth 100000 in
theorem c_X2_begin (l : Launch) (Δ : gD) (a : Nat → Nat) (x1 : Int32) (x2 : Int32) (s : S2) {res : S2} (hq : sem_X2_begin x1 x2 s = some res) : MW l yX2_begin cX2_begin 4 none Δ (cs2 a Δ s) [.ref (a 0), .int x1, .int x2] 1 24 none (cs2 a Δ res) := by
  refine MW.of (by decide) (Nat.le_of_ble_eq_true rfl) ?_
  intro Γ A H hl C hK hP hD hS hA hR
  subst hl
  show g Γ { frames := 1, cells := 0, slots := 0, locals := 24 } 4 H [] 0 0 0 [(0, .ref (a 0)), (1, .int x1), (2, .int x2)] []
  refine g_aload_n C 1 rfl dX2_begin_0 0 rfl ?_
  refine g_iload_n C 2 rfl dX2_begin_1 2 rfl ?_
  refine g_bipush 20 C 4 rfl dX2_begin_2 kb_20 ?_
  refine g_mmin C 7 rfl dX2_begin_4 ml_X2_29 mth_min ⟨Nat.le_of_ble_eq_true rfl, Nat.le_of_ble_eq_true rfl⟩ ⟨Nat.zero_le _, Nat.zero_le _⟩ ?_
  refine g_put (fs := fl2 a s) (cs2 a Δ (p2_limit s (jmin x2 20))) C 10 rfl dX2_begin_7 hK hP hD hS la_X2 tyX2_ok nmX2 0 2 (Nat.le_of_ble_eq_true rfl) fl_X2_18 rfl rfl rfl rfl rfl rfl (Nat.le_of_ble_eq_true rfl) (sst_11 a Δ s (jmin x2 20)) (fun H L hP hD hS => ?_)
  refine g_aload_n C 11 rfl dX2_begin_10 0 rfl ?_
  refine g_lconst 1 C 12 rfl dX2_begin_11 kl_1 ?_
  refine g_put (fs := fl2 a (p2_limit s (jmin x2 20))) (cs2 a Δ (p2_whole (p2_limit s (jmin x2 20)) 1)) C 15 rfl dX2_begin_12 hK hP hD hS la_X2 tyX2_ok nmX2 0 3 (Nat.le_of_ble_eq_true rfl) fl_X2_22 rfl rfl rfl rfl rfl rfl (Nat.le_of_ble_eq_true rfl) (sst_12 a Δ (p2_limit s (jmin x2 20)) 1) (fun H L hP hD hS => ?_)
  refine g_aload_n C 16 rfl dX2_begin_15 0 rfl ?_
  refine g_lconst 0 C 17 rfl dX2_begin_16 kl_0 ?_
  refine g_put (fs := fl2 a (p2_whole (p2_limit s (jmin x2 20)) 1)) (cs2 a Δ (p2_slips (p2_whole (p2_limit s (jmin x2 20)) 1) 0)) C 20 rfl dX2_begin_17 hK hP hD hS la_X2 tyX2_ok nmX2 0 4 (Nat.le_of_ble_eq_true rfl) fl_X2_26 rfl rfl rfl rfl rfl rfl (Nat.le_of_ble_eq_true rfl) (sst_13 a Δ (p2_whole (p2_limit s (jmin x2 20)) 1) 0) (fun H L hP hD hS => ?_)
  refine g_iconst 0 C 21 rfl dX2_begin_20 ki_0 ?_
  refine g_istore_n [(3, .int 0), (0, .ref (a 0)), (1, .int x1), (2, .int x2)] C 22 rfl dX2_begin_21 (Nat.le_of_ble_eq_true rfl) rfl ?_
  have Q22 : ∀ (x1 : Int32), ∀ (n : Nat) (x3 : Int32) (s : S2) (o : (S2)) (H : Heap) (L : List Loc) (hP : va_P Δ.1 classes (cs2 a Δ s) H) (hD : va_D A (cs2 a Δ s)) (hS : va_S A (sOf Γ).heap H L) (hq : lp_X2_begin_22 x1 n x3 s = some o) (E2 : ∀ (H : Heap) (L : List Loc), va_P Δ.1 classes (cs2 a Δ o) H → va_D A (cs2 a Δ o) → va_S A (sOf Γ).heap H L → g Γ { frames := 1, cells := 0, slots := 0, locals := 24 } 4 H L 0 0 50 [] []), g Γ { frames := 1, cells := 0, slots := 0, locals := 24 } 4 H L 0 0 22 [(0, .ref (a 0)), (1, .int x1), (3, .int x3)] [] := by
    intro x1
    intro n
    induction n with
    | zero => intro x3 s o H L hP hD hS hq; exact nomatch (show (none : Option (S2)) = some o from hq)
    | succ n ih =>
      intro x3 s o H L hP hD hS hq E2
      have hq : bd_X2_begin_22 x1 (lp_X2_begin_22 x1 n) x3 s = some o := hq
      refine g_iload_n C 23 rfl dX2_begin_22 2 rfl ?_
      refine g_bipush 20 C 25 rfl dX2_begin_23 kb_20 ?_
      refine s_icmp_gt C 50 28 rfl dX2_begin_25 (by decide) hq (fun hq => ?_) (fun hq => ?_)
      · cases hq
        exact g_sub [] rfl (E2 _ _ hP hD hS)
      refine g_aload_n C 29 rfl dX2_begin_28 0 rfl ?_
      refine g_get (v := .ref (a 1)) (fs := fl2 a s) C 32 rfl dX2_begin_29 hK hP la_X2 0 0 (Nat.le_of_ble_eq_true rfl) fl_X2_9 rfl rfl rfl rfl ?_
      refine g_iload_n C 33 rfl dX2_begin_32 2 rfl ?_
      refine g_iload_n C 34 rfl dX2_begin_33 2 rfl ?_
      refine g_iload_n C 35 rfl dX2_begin_34 1 rfl ?_
      refine s_icmp_ne C 42 38 rfl dX2_begin_35 (by decide) hq (fun hq => ?_) (fun hq => ?_)
      · refine g_lconst 0 C 43 rfl dX2_begin_42 kl_0 ?_
        refine s_last (cs2 a Δ (p2_parts s (vp_updL (x2_parts s) (x3 : Int32).toNatClampNeg 0))) C 44 rfl dX2_begin_43 hK hP hD hS 1 rfl hq (sst_14 a Δ s (vp_updL (x2_parts s) (x3 : Int32).toNatClampNeg 0)) (fun hq hi1 H L hP hD hS => ?_)
        refine g_iinc (x3 + 1) [(3, .int (x3 + 1)), (0, .ref (a 0)), (1, .int x1)] C 47 rfl dX2_begin_44 2 rfl (ii_1 _) (Nat.le_of_ble_eq_true rfl) rfl ?_
        refine g_goto C 22 dX2_begin_47 (by decide) ?_
        exact g_sub [1, 2, 0] rfl (ih (x3 + 1) (p2_parts s (vp_updL (x2_parts s) (x3 : Int32).toNatClampNeg 0)) _ _ _ hP hD hS hq E2)
      refine g_lconst 1 C 39 rfl dX2_begin_38 kl_1 ?_
      refine g_goto C 43 dX2_begin_39 (by decide) ?_
      refine s_last (cs2 a Δ (p2_parts s (vp_updL (x2_parts s) (x3 : Int32).toNatClampNeg 1))) C 44 rfl dX2_begin_43 hK hP hD hS 1 rfl hq (sst_14 a Δ s (vp_updL (x2_parts s) (x3 : Int32).toNatClampNeg 1)) (fun hq hi2 H L hP hD hS => ?_)
      refine g_iinc (x3 + 1) [(3, .int (x3 + 1)), (0, .ref (a 0)), (1, .int x1)] C 47 rfl dX2_begin_44 2 rfl (ii_1 _) (Nat.le_of_ble_eq_true rfl) rfl ?_
      refine g_goto C 22 dX2_begin_47 (by decide) ?_
      exact g_sub [1, 2, 0] rfl (ih (x3 + 1) (p2_parts s (vp_updL (x2_parts s) (x3 : Int32).toNatClampNeg 1)) _ _ _ hP hD hS hq E2)
  obtain ⟨o3, ho4, hq⟩ := bindE hq
  refine g_sub [1, 2, 0] rfl (Q22 x1 FUEL 0 (p2_slips (p2_whole (p2_limit s (jmin x2 20)) 1) 0) o3 _ _ hP hD hS ho4 (fun H L hP hD hS => ?_))
  exact w_void (ws := fun s => cs2 a Δ s) hR hq hP hS dX2_begin_50 rfl
set_option maxHeartbeats 400000 in
set_option maxRecDepth 100000 in
theorem c_X2_passHour (l : Launch) (Δ : gD) (a : Nat → Nat) (x1 : Int32) (x2 : Int32) (x3 : Int32) (s : S2) {res : S2} (hq : sem_X2_passHour x1 x2 x3 s = some res) : MW l yX2_passHour cX2_passHour 10 none Δ (cs2 a Δ s) [.ref (a 0), .int x1, .int x2, .int x3] 1 26 none (cs2 a Δ res) := by
  refine MW.of (by decide) (Nat.le_of_ble_eq_true rfl) ?_
  intro Γ A H hl C hK hP hD hS hA hR
  subst hl
  have K144 : ∀ (x4 : Int64) (s : S2) (H : Heap) (L : List Loc) (hP : va_P Δ.1 classes (cs2 a Δ s) H) (hD : va_D A (cs2 a Δ s)) (hS : va_S A (sOf Γ).heap H L), jn_X2_passHour_144 x4 s = some res → g Γ { frames := 1, cells := 0, slots := 0, locals := 26 } 10 H L 0 0 144 [(0, .ref (a 0)), (4, .long x4)] [] := by
    intro x4 s H L hP hD hS hq
    refine g_aload_n C 145 rfl dX2_passHour_144 0 rfl ?_
    refine g_get (v := .ref (a 2)) (fs := fl2 a s) C 148 rfl dX2_passHour_145 hK hP la_X2 0 1 (Nat.le_of_ble_eq_true rfl) fl_X2_15 rfl rfl rfl rfl ?_
    refine g_iconst 0 C 149 rfl dX2_passHour_148 ki_0 ?_
    refine g_aload_n C 150 rfl dX2_passHour_149 0 rfl ?_
    refine g_get (v := .ref (a 1)) (fs := fl2 a s) C 153 rfl dX2_passHour_150 hK hP la_X2 0 0 (Nat.le_of_ble_eq_true rfl) fl_X2_9 rfl rfl rfl rfl ?_
    refine g_iconst 0 C 154 rfl dX2_passHour_153 ki_0 ?_
    refine g_bipush 21 C 156 rfl dX2_passHour_154 kb_21 ?_
    refine g_acpL (cs2 a Δ (p2_parts s (va_cpy (x2_next s) (x2_parts s) 0 0 21))) 21 C 159 rfl dX2_passHour_156 ml_X2_38 sys_copy hK hP hD hS 2 1 rfl rfl (by decide) (by decide) (by decide) (by decide) ⟨Nat.le_of_ble_eq_true rfl, Nat.le_of_ble_eq_true rfl⟩ (sst_14 a Δ s (va_cpy (x2_next s) (x2_parts s) 0 0 21)) (fun H L hP hD hS => ?_)
    refine g_aload_n C 160 rfl dX2_passHour_159 0 rfl ?_
    refine g_aload_n C 161 rfl dX2_passHour_160 0 rfl ?_
    refine g_get (v := .long (x2_slips (p2_parts s (va_cpy (x2_next s) (x2_parts s) 0 0 21)))) (fs := fl2 a (p2_parts s (va_cpy (x2_next s) (x2_parts s) 0 0 21))) C 164 rfl dX2_passHour_161 hK hP la_X2 0 4 (Nat.le_of_ble_eq_true rfl) fl_X2_26 rfl rfl rfl rfl ?_
    refine g_ldc2 10 C 167 rfl dX2_passHour_164 k_X2_44 ?_
    refine g_lmul C 168 rfl dX2_passHour_167 ?_
    refine g_lload C 170 rfl dX2_passHour_168 1 rfl ?_
    refine g_ladd C 171 rfl dX2_passHour_170 ?_
    refine g_put (fs := fl2 a (p2_parts s (va_cpy (x2_next s) (x2_parts s) 0 0 21))) (cs2 a Δ (p2_slips (p2_parts s (va_cpy (x2_next s) (x2_parts s) 0 0 21)) (((x2_slips (p2_parts s (va_cpy (x2_next s) (x2_parts s) 0 0 21))) * 10) + x4))) C 174 rfl dX2_passHour_171 hK hP hD hS la_X2 tyX2_ok nmX2 0 4 (Nat.le_of_ble_eq_true rfl) fl_X2_26 rfl rfl rfl rfl rfl rfl (Nat.le_of_ble_eq_true rfl) (sst_13 a Δ (p2_parts s (va_cpy (x2_next s) (x2_parts s) 0 0 21)) (((x2_slips (p2_parts s (va_cpy (x2_next s) (x2_parts s) 0 0 21))) * 10) + x4)) (fun H L hP hD hS => ?_)
    refine g_aload_n C 175 rfl dX2_passHour_174 0 rfl ?_
    refine g_dup C 176 rfl dX2_passHour_175 rfl ?_
    refine g_get (v := .long (x2_whole (p2_slips (p2_parts s (va_cpy (x2_next s) (x2_parts s) 0 0 21)) (((x2_slips (p2_parts s (va_cpy (x2_next s) (x2_parts s) 0 0 21))) * 10) + x4)))) (fs := fl2 a (p2_slips (p2_parts s (va_cpy (x2_next s) (x2_parts s) 0 0 21)) (((x2_slips (p2_parts s (va_cpy (x2_next s) (x2_parts s) 0 0 21))) * 10) + x4))) C 179 rfl dX2_passHour_176 hK hP la_X2 0 3 (Nat.le_of_ble_eq_true rfl) fl_X2_22 rfl rfl rfl rfl ?_
    refine g_ldc2 10 C 182 rfl dX2_passHour_179 k_X2_44 ?_
    refine g_lmul C 183 rfl dX2_passHour_182 ?_
    refine g_put (fs := fl2 a (p2_slips (p2_parts s (va_cpy (x2_next s) (x2_parts s) 0 0 21)) (((x2_slips (p2_parts s (va_cpy (x2_next s) (x2_parts s) 0 0 21))) * 10) + x4))) (cs2 a Δ (p2_whole (p2_slips (p2_parts s (va_cpy (x2_next s) (x2_parts s) 0 0 21)) (((x2_slips (p2_parts s (va_cpy (x2_next s) (x2_parts s) 0 0 21))) * 10) + x4)) ((x2_whole (p2_slips (p2_parts s (va_cpy (x2_next s) (x2_parts s) 0 0 21)) (((x2_slips (p2_parts s (va_cpy (x2_next s) (x2_parts s) 0 0 21))) * 10) + x4))) * 10))) C 186 rfl dX2_passHour_183 hK hP hD hS la_X2 tyX2_ok nmX2 0 3 (Nat.le_of_ble_eq_true rfl) fl_X2_22 rfl rfl rfl rfl rfl rfl (Nat.le_of_ble_eq_true rfl) (sst_12 a Δ (p2_slips (p2_parts s (va_cpy (x2_next s) (x2_parts s) 0 0 21)) (((x2_slips (p2_parts s (va_cpy (x2_next s) (x2_parts s) 0 0 21))) * 10) + x4)) ((x2_whole (p2_slips (p2_parts s (va_cpy (x2_next s) (x2_parts s) 0 0 21)) (((x2_slips (p2_parts s (va_cpy (x2_next s) (x2_parts s) 0 0 21))) * 10) + x4))) * 10)) (fun H L hP hD hS => ?_)
    exact w_void (ws := fun s => cs2 a Δ s) hR hq hP hS dX2_passHour_186 rfl
  show g Γ { frames := 1, cells := 0, slots := 0, locals := 26 } 10 H [] 0 0 0 [(0, .ref (a 0)), (1, .int x1), (2, .int x2), (3, .int x3)] []
  refine g_iconst 0 C 1 rfl dX2_passHour_0 ki_0 ?_
  refine g_istore [(4, .int 0), (0, .ref (a 0)), (1, .int x1), (2, .int x2), (3, .int x3)] C 3 rfl dX2_passHour_1 (Nat.le_of_ble_eq_true rfl) rfl ?_
  have Q3 : ∀ (x1 : Int32) (x2 : Int32) (x3 : Int32), ∀ (n : Nat) (x4 : Int32) (s : S2) (o : (S2)) (H : Heap) (L : List Loc) (hP : va_P Δ.1 classes (cs2 a Δ s) H) (hD : va_D A (cs2 a Δ s)) (hS : va_S A (sOf Γ).heap H L) (hq : lp_X2_passHour_3 x1 x2 x3 n x4 s = some o) (E2 : ∀ (H : Heap) (L : List Loc), va_P Δ.1 classes (cs2 a Δ o) H → va_D A (cs2 a Δ o) → va_S A (sOf Γ).heap H L → g Γ { frames := 1, cells := 0, slots := 0, locals := 26 } 10 H L 0 0 24 [(0, .ref (a 0)), (1, .int x1), (2, .int x2), (3, .int x3)] []), g Γ { frames := 1, cells := 0, slots := 0, locals := 26 } 10 H L 0 0 3 [(0, .ref (a 0)), (1, .int x1), (2, .int x2), (3, .int x3), (4, .int x4)] [] := by
    intro x1 x2 x3
    intro n
    induction n with
    | zero => intro x4 s o H L hP hD hS hq; exact nomatch (show (none : Option (S2)) = some o from hq)
    | succ n ih =>
      intro x4 s o H L hP hD hS hq E2
      have hq : bd_X2_passHour_3 x1 x2 x3 (lp_X2_passHour_3 x1 x2 x3 n) x4 s = some o := hq
      refine g_iload C 5 rfl dX2_passHour_3 4 rfl ?_
      refine g_bipush 20 C 7 rfl dX2_passHour_5 kb_20 ?_
      refine s_icmp_gt C 24 10 rfl dX2_passHour_7 (by decide) hq (fun hq => ?_) (fun hq => ?_)
      · cases hq
        exact g_sub [0, 1, 2, 3] rfl (E2 _ _ hP hD hS)
      refine g_aload_n C 11 rfl dX2_passHour_10 0 rfl ?_
      refine g_get (v := .ref (a 2)) (fs := fl2 a s) C 14 rfl dX2_passHour_11 hK hP la_X2 0 1 (Nat.le_of_ble_eq_true rfl) fl_X2_15 rfl rfl rfl rfl ?_
      refine g_iload C 16 rfl dX2_passHour_14 4 rfl ?_
      refine g_lconst 0 C 17 rfl dX2_passHour_16 kl_0 ?_
      refine s_last (cs2 a Δ (p2_next s (vp_updL (x2_next s) (x4 : Int32).toNatClampNeg 0))) C 18 rfl dX2_passHour_17 hK hP hD hS 2 rfl hq (sst_15 a Δ s (vp_updL (x2_next s) (x4 : Int32).toNatClampNeg 0)) (fun hq hi1 H L hP hD hS => ?_)
      refine g_iinc (x4 + 1) [(4, .int (x4 + 1)), (0, .ref (a 0)), (1, .int x1), (2, .int x2), (3, .int x3)] C 21 rfl dX2_passHour_18 4 rfl (ii_1 _) (Nat.le_of_ble_eq_true rfl) rfl ?_
      refine g_goto C 3 dX2_passHour_21 (by decide) ?_
      exact g_sub [1, 2, 3, 4, 0] rfl (ih (x4 + 1) (p2_next s (vp_updL (x2_next s) (x4 : Int32).toNatClampNeg 0)) _ _ _ hP hD hS hq E2)
  obtain ⟨o2, ho3, hq⟩ := bindE hq
  refine g_sub [1, 2, 3, 4, 0] rfl (Q3 x1 x2 x3 FUEL 0 s o2 _ _ hP hD hS ho3 (fun H L hP hD hS => ?_))
  refine g_lconst 0 C 25 rfl dX2_passHour_24 kl_0 ?_
  refine g_lstore [(4, .long 0), (0, .ref (a 0)), (1, .int x1), (2, .int x2), (3, .int x3)] C 27 rfl dX2_passHour_25 (Nat.le_of_ble_eq_true rfl) rfl ?_
  refine g_iconst 0 C 28 rfl dX2_passHour_27 ki_0 ?_
  refine g_istore [(6, .int 0), (4, .long 0), (0, .ref (a 0)), (1, .int x1), (2, .int x2), (3, .int x3)] C 30 rfl dX2_passHour_28 (Nat.le_of_ble_eq_true rfl) rfl ?_
  have Q30 : ∀ (x1 : Int32) (x2 : Int32) (x3 : Int32), ∀ (n : Nat) (x4 : Int64) (x6 : Int32) (s : S2) (o : (Int64 × S2)) (H : Heap) (L : List Loc) (hP : va_P Δ.1 classes (cs2 a Δ s) H) (hD : va_D A (cs2 a Δ s)) (hS : va_S A (sOf Γ).heap H L) (hq : lp_X2_passHour_30 x1 x2 x3 n x4 x6 s = some o) (E2 : ∀ (H : Heap) (L : List Loc), va_P Δ.1 classes (cs2 a Δ o.2) H → va_D A (cs2 a Δ o.2) → va_S A (sOf Γ).heap H L → g Γ { frames := 1, cells := 0, slots := 0, locals := 26 } 10 H L 0 0 129 [(0, .ref (a 0)), (3, .int x3), (4, .long o.1)] []), g Γ { frames := 1, cells := 0, slots := 0, locals := 26 } 10 H L 0 0 30 [(0, .ref (a 0)), (1, .int x1), (2, .int x2), (3, .int x3), (4, .long x4), (6, .int x6)] [] := by
    intro x1 x2 x3
    intro n
    induction n with
    | zero => intro x4 x6 s o H L hP hD hS hq; exact nomatch (show (none : Option (Int64 × S2)) = some o from hq)
    | succ n ih =>
      intro x4 x6 s o H L hP hD hS hq E2
      have hq : bd_X2_passHour_30 x1 x2 x3 (lp_X2_passHour_30 x1 x2 x3 n) x4 x6 s = some o := hq
      refine g_iload C 32 rfl dX2_passHour_30 5 rfl ?_
      refine g_aload_n C 33 rfl dX2_passHour_32 0 rfl ?_
      refine g_get (v := .int (x2_limit s)) (fs := fl2 a s) C 36 rfl dX2_passHour_33 hK hP la_X2 0 2 (Nat.le_of_ble_eq_true rfl) fl_X2_18 rfl rfl rfl rfl ?_
      refine s_icmp_gt C 129 39 rfl dX2_passHour_36 (by decide) hq (fun hq => ?_) (fun hq => ?_)
      · cases hq
        exact g_sub [0, 3, 4] rfl (E2 _ _ hP hD hS)
      refine g_aload_n C 40 rfl dX2_passHour_39 0 rfl ?_
      refine g_get (v := .ref (a 1)) (fs := fl2 a s) C 43 rfl dX2_passHour_40 hK hP la_X2 0 0 (Nat.le_of_ble_eq_true rfl) fl_X2_9 rfl rfl rfl rfl ?_
      refine g_iload C 45 rfl dX2_passHour_43 5 rfl ?_
      refine s_lald C 46 rfl dX2_passHour_45 hK hP 1 rfl hq (fun hq hi4 => ?_)
      refine g_iload_n C 47 rfl dX2_passHour_46 2 rfl ?_
      refine g_i2l C 48 rfl dX2_passHour_47 ?_
      refine g_lmul C 49 rfl dX2_passHour_48 ?_
      refine g_lstore [(7, .long (((x2_parts s) (x6 : Int32).toNatClampNeg) * (Int32.toInt64 x2))), (0, .ref (a 0)), (1, .int x1), (2, .int x2), (3, .int x3), (4, .long x4), (6, .int x6)] C 51 rfl dX2_passHour_49 (Nat.le_of_ble_eq_true rfl) rfl ?_
      refine g_iload C 53 rfl dX2_passHour_51 6 rfl ?_
      refine g_iload_n C 54 rfl dX2_passHour_53 2 rfl ?_
      refine g_iadd C 55 rfl dX2_passHour_54 ?_
      refine g_istore [(9, .int (x6 + x1)), (7, .long (((x2_parts s) (x6 : Int32).toNatClampNeg) * (Int32.toInt64 x2))), (0, .ref (a 0)), (1, .int x1), (2, .int x2), (3, .int x3), (4, .long x4), (6, .int x6)] C 57 rfl dX2_passHour_55 (Nat.le_of_ble_eq_true rfl) rfl ?_
      refine g_aload_n C 58 rfl dX2_passHour_57 2 rfl ?_
      refine g_get (v := .ref (a 2)) (fs := fl2 a s) C 61 rfl dX2_passHour_58 hK hP la_X2 0 1 (Nat.le_of_ble_eq_true rfl) fl_X2_15 rfl rfl rfl rfl ?_
      refine g_iconst 0 C 62 rfl dX2_passHour_61 ki_0 ?_
      refine g_iload C 64 rfl dX2_passHour_62 7 rfl ?_
      refine g_iconst 1 C 65 rfl dX2_passHour_64 ki_1 ?_
      refine g_isub C 66 rfl dX2_passHour_65 ?_
      refine g_mmax C 69 rfl dX2_passHour_66 ml_X2_35 mth_max ⟨Nat.le_of_ble_eq_true rfl, Nat.le_of_ble_eq_true rfl⟩ ⟨Nat.zero_le _, Nat.zero_le _⟩ ?_
      refine g_dup2 C 70 rfl dX2_passHour_69 rfl rfl ?_
      refine s_lald C 71 rfl dX2_passHour_70 hK hP 2 rfl hq (fun hq hi5 => ?_)
      refine g_aload_n C 72 rfl dX2_passHour_71 2 rfl ?_
      refine g_get (v := .ref (a 1)) (fs := fl2 a s) C 75 rfl dX2_passHour_72 hK hP la_X2 0 0 (Nat.le_of_ble_eq_true rfl) fl_X2_9 rfl rfl rfl rfl ?_
      refine g_iload C 77 rfl dX2_passHour_75 7 rfl ?_
      refine g_lald C 78 rfl dX2_passHour_77 hK hP 1 rfl hi4 ?_
      refine g_bipush 10 C 80 rfl dX2_passHour_78 kb_10 ?_
      refine g_iload_n C 81 rfl dX2_passHour_80 4 rfl ?_
      refine g_isub C 82 rfl dX2_passHour_81 ?_
      refine g_i2l C 83 rfl dX2_passHour_82 ?_
      refine g_lmul C 84 rfl dX2_passHour_83 ?_
      refine g_ladd C 85 rfl dX2_passHour_84 ?_
      refine g_last (cs2 a Δ (p2_next s (vp_updL (x2_next s) ((jmax 0 (x6 - 1)) : Int32).toNatClampNeg (((x2_next s) ((jmax 0 (x6 - 1)) : Int32).toNatClampNeg) + (((x2_parts s) (x6 : Int32).toNatClampNeg) * (Int32.toInt64 (10 - x2))))))) C 86 rfl dX2_passHour_85 hK hP hD hS 2 rfl hi5 (sst_15 a Δ s (vp_updL (x2_next s) ((jmax 0 (x6 - 1)) : Int32).toNatClampNeg (((x2_next s) ((jmax 0 (x6 - 1)) : Int32).toNatClampNeg) + (((x2_parts s) (x6 : Int32).toNatClampNeg) * (Int32.toInt64 (10 - x2)))))) (fun H L hP hD hS => ?_)
      refine g_iload C 88 rfl dX2_passHour_86 0 rfl ?_
      refine g_aload_n C 89 rfl dX2_passHour_88 2 rfl ?_
      refine g_get (v := .int (x2_limit (p2_next s (vp_updL (x2_next s) ((jmax 0 (x6 - 1)) : Int32).toNatClampNeg (((x2_next s) ((jmax 0 (x6 - 1)) : Int32).toNatClampNeg) + (((x2_parts s) (x6 : Int32).toNatClampNeg) * (Int32.toInt64 (10 - x2)))))))) (fs := fl2 a (p2_next s (vp_updL (x2_next s) ((jmax 0 (x6 - 1)) : Int32).toNatClampNeg (((x2_next s) ((jmax 0 (x6 - 1)) : Int32).toNatClampNeg) + (((x2_parts s) (x6 : Int32).toNatClampNeg) * (Int32.toInt64 (10 - x2))))))) C 92 rfl dX2_passHour_89 hK hP la_X2 0 2 (Nat.le_of_ble_eq_true rfl) fl_X2_18 rfl rfl rfl rfl ?_
      refine s_icmp_le C 105 95 rfl dX2_passHour_92 (by decide) hq (fun hq => ?_) (fun hq => ?_)
      rotate_left
      · refine g_lload C 97 rfl dX2_passHour_95 6 rfl ?_
        refine g_lload C 99 rfl dX2_passHour_97 1 rfl ?_
        refine g_ladd C 100 rfl dX2_passHour_99 ?_
        refine g_lstore [(4, .long (x4 + (((x2_parts s) (x6 : Int32).toNatClampNeg) * (Int32.toInt64 x2)))), (9, .int (x6 + x1)), (7, .long (((x2_parts s) (x6 : Int32).toNatClampNeg) * (Int32.toInt64 x2))), (0, .ref (a 0)), (1, .int x1), (2, .int x2), (3, .int x3), (6, .int x6)] C 102 rfl dX2_passHour_100 (Nat.le_of_ble_eq_true rfl) rfl ?_
        refine g_goto C 123 dX2_passHour_102 (by decide) ?_
        refine g_iinc (x6 + 1) [(6, .int (x6 + 1)), (4, .long (x4 + (((x2_parts s) (x6 : Int32).toNatClampNeg) * (Int32.toInt64 x2)))), (9, .int (x6 + x1)), (7, .long (((x2_parts s) (x6 : Int32).toNatClampNeg) * (Int32.toInt64 x2))), (0, .ref (a 0)), (1, .int x1), (2, .int x2), (3, .int x3)] C 126 rfl dX2_passHour_123 7 rfl (ii_1 _) (Nat.le_of_ble_eq_true rfl) rfl ?_
        refine g_goto C 30 dX2_passHour_126 (by decide) ?_
        exact g_sub [4, 5, 6, 7, 1, 0] rfl (ih (x4 + (((x2_parts s) (x6 : Int32).toNatClampNeg) * (Int32.toInt64 x2))) (x6 + 1) (p2_next s (vp_updL (x2_next s) ((jmax 0 (x6 - 1)) : Int32).toNatClampNeg (((x2_next s) ((jmax 0 (x6 - 1)) : Int32).toNatClampNeg) + (((x2_parts s) (x6 : Int32).toNatClampNeg) * (Int32.toInt64 (10 - x2)))))) _ _ _ hP hD hS hq E2)
      refine g_aload_n C 106 rfl dX2_passHour_105 2 rfl ?_
      refine g_get (v := .ref (a 2)) (fs := fl2 a (p2_next s (vp_updL (x2_next s) ((jmax 0 (x6 - 1)) : Int32).toNatClampNeg (((x2_next s) ((jmax 0 (x6 - 1)) : Int32).toNatClampNeg) + (((x2_parts s) (x6 : Int32).toNatClampNeg) * (Int32.toInt64 (10 - x2))))))) C 109 rfl dX2_passHour_106 hK hP la_X2 0 1 (Nat.le_of_ble_eq_true rfl) fl_X2_15 rfl rfl rfl rfl ?_
      refine g_iconst 0 C 110 rfl dX2_passHour_109 ki_0 ?_
      refine g_iload C 112 rfl dX2_passHour_110 0 rfl ?_
      refine g_iconst 1 C 113 rfl dX2_passHour_112 ki_1 ?_
      refine g_isub C 114 rfl dX2_passHour_113 ?_
      refine g_mmax C 117 rfl dX2_passHour_114 ml_X2_35 mth_max ⟨Nat.le_of_ble_eq_true rfl, Nat.le_of_ble_eq_true rfl⟩ ⟨Nat.zero_le _, Nat.zero_le _⟩ ?_
      refine g_dup2 C 118 rfl dX2_passHour_117 rfl rfl ?_
      refine s_lald C 119 rfl dX2_passHour_118 hK hP 2 rfl hq (fun hq hi6 => ?_)
      refine g_lload C 121 rfl dX2_passHour_119 1 rfl ?_
      refine g_ladd C 122 rfl dX2_passHour_121 ?_
      refine g_last (cs2 a Δ (p2_next (p2_next s (vp_updL (x2_next s) ((jmax 0 (x6 - 1)) : Int32).toNatClampNeg (((x2_next s) ((jmax 0 (x6 - 1)) : Int32).toNatClampNeg) + (((x2_parts s) (x6 : Int32).toNatClampNeg) * (Int32.toInt64 (10 - x2)))))) (vp_updL (x2_next (p2_next s (vp_updL (x2_next s) ((jmax 0 (x6 - 1)) : Int32).toNatClampNeg (((x2_next s) ((jmax 0 (x6 - 1)) : Int32).toNatClampNeg) + (((x2_parts s) (x6 : Int32).toNatClampNeg) * (Int32.toInt64 (10 - x2))))))) ((jmax 0 ((x6 + x1) - 1)) : Int32).toNatClampNeg (((x2_next (p2_next s (vp_updL (x2_next s) ((jmax 0 (x6 - 1)) : Int32).toNatClampNeg (((x2_next s) ((jmax 0 (x6 - 1)) : Int32).toNatClampNeg) + (((x2_parts s) (x6 : Int32).toNatClampNeg) * (Int32.toInt64 (10 - x2))))))) ((jmax 0 ((x6 + x1) - 1)) : Int32).toNatClampNeg) + (((x2_parts s) (x6 : Int32).toNatClampNeg) * (Int32.toInt64 x2)))))) C 123 rfl dX2_passHour_122 hK hP hD hS 2 rfl hi6 (sst_15 a Δ (p2_next s (vp_updL (x2_next s) ((jmax 0 (x6 - 1)) : Int32).toNatClampNeg (((x2_next s) ((jmax 0 (x6 - 1)) : Int32).toNatClampNeg) + (((x2_parts s) (x6 : Int32).toNatClampNeg) * (Int32.toInt64 (10 - x2)))))) (vp_updL (x2_next (p2_next s (vp_updL (x2_next s) ((jmax 0 (x6 - 1)) : Int32).toNatClampNeg (((x2_next s) ((jmax 0 (x6 - 1)) : Int32).toNatClampNeg) + (((x2_parts s) (x6 : Int32).toNatClampNeg) * (Int32.toInt64 (10 - x2))))))) ((jmax 0 ((x6 + x1) - 1)) : Int32).toNatClampNeg (((x2_next (p2_next s (vp_updL (x2_next s) ((jmax 0 (x6 - 1)) : Int32).toNatClampNeg (((x2_next s) ((jmax 0 (x6 - 1)) : Int32).toNatClampNeg) + (((x2_parts s) (x6 : Int32).toNatClampNeg) * (Int32.toInt64 (10 - x2))))))) ((jmax 0 ((x6 + x1) - 1)) : Int32).toNatClampNeg) + (((x2_parts s) (x6 : Int32).toNatClampNeg) * (Int32.toInt64 x2))))) (fun H L hP hD hS => ?_)
      refine g_iinc (x6 + 1) [(6, .int (x6 + 1)), (9, .int (x6 + x1)), (7, .long (((x2_parts s) (x6 : Int32).toNatClampNeg) * (Int32.toInt64 x2))), (0, .ref (a 0)), (1, .int x1), (2, .int x2), (3, .int x3), (4, .long x4)] C 126 rfl dX2_passHour_123 7 rfl (ii_1 _) (Nat.le_of_ble_eq_true rfl) rfl ?_
      refine g_goto C 30 dX2_passHour_126 (by decide) ?_
      exact g_sub [3, 4, 5, 6, 7, 0] rfl (ih x4 (x6 + 1) (p2_next (p2_next s (vp_updL (x2_next s) ((jmax 0 (x6 - 1)) : Int32).toNatClampNeg (((x2_next s) ((jmax 0 (x6 - 1)) : Int32).toNatClampNeg) + (((x2_parts s) (x6 : Int32).toNatClampNeg) * (Int32.toInt64 (10 - x2)))))) (vp_updL (x2_next (p2_next s (vp_updL (x2_next s) ((jmax 0 (x6 - 1)) : Int32).toNatClampNeg (((x2_next s) ((jmax 0 (x6 - 1)) : Int32).toNatClampNeg) + (((x2_parts s) (x6 : Int32).toNatClampNeg) * (Int32.toInt64 (10 - x2))))))) ((jmax 0 ((x6 + x1) - 1)) : Int32).toNatClampNeg (((x2_next (p2_next s (vp_updL (x2_next s) ((jmax 0 (x6 - 1)) : Int32).toNatClampNeg (((x2_next s) ((jmax 0 (x6 - 1)) : Int32).toNatClampNeg) + (((x2_parts s) (x6 : Int32).toNatClampNeg) * (Int32.toInt64 (10 - x2))))))) ((jmax 0 ((x6 + x1) - 1)) : Int32).toNatClampNeg) + (((x2_parts s) (x6 : Int32).toNatClampNeg) * (Int32.toInt64 x2))))) _ _ _ hP hD hS hq E2)
  obtain ⟨o7, ho8, hq⟩ := bindE hq
  refine g_sub [2, 3, 4, 5, 1, 0] rfl (Q30 x1 x2 x3 FUEL 0 0 o2 o7 _ _ hP hD hS ho8 (fun H L hP hD hS => ?_))
  refine g_iload_n C 130 rfl dX2_passHour_129 1 rfl ?_
  refine s_if_eq C 144 133 rfl dX2_passHour_130 (by decide) hq (fun hq => ?_) (fun hq => ?_)
  · exact g_sub [0, 2] rfl (K144 o7.1 o7.2 _ _ hP hD hS hq)
  refine g_aload_n C 134 rfl dX2_passHour_133 0 rfl ?_
  refine g_get (v := .ref (a 2)) (fs := fl2 a o7.2) C 137 rfl dX2_passHour_134 hK hP la_X2 0 1 (Nat.le_of_ble_eq_true rfl) fl_X2_15 rfl rfl rfl rfl ?_
  refine g_iconst 0 C 138 rfl dX2_passHour_137 ki_0 ?_
  refine g_dup2 C 139 rfl dX2_passHour_138 rfl rfl ?_
  refine s_lald C 140 rfl dX2_passHour_139 hK hP 2 rfl hq (fun hq hi9 => ?_)
  refine g_lload C 142 rfl dX2_passHour_140 2 rfl ?_
  refine g_ladd C 143 rfl dX2_passHour_142 ?_
  refine g_last (cs2 a Δ (p2_next o7.2 (vp_updL (x2_next o7.2) (0 : Int32).toNatClampNeg (((x2_next o7.2) (0 : Int32).toNatClampNeg) + o7.1)))) C 144 rfl dX2_passHour_143 hK hP hD hS 2 rfl hi9 (sst_15 a Δ o7.2 (vp_updL (x2_next o7.2) (0 : Int32).toNatClampNeg (((x2_next o7.2) (0 : Int32).toNatClampNeg) + o7.1))) (fun H L hP hD hS => ?_)
  exact g_sub [0, 2] rfl (K144 o7.1 (p2_next o7.2 (vp_updL (x2_next o7.2) (0 : Int32).toNatClampNeg (((x2_next o7.2) (0 : Int32).toNatClampNeg) + o7.1))) _ _ hP hD hS hq)
set_option maxHeartbeats 400000 in
set_option maxRecDepth 100000 in
theorem c_X2_calm (l : Launch) (Δ : gD) (a : Nat → Nat)  (s : S2) {res : Int64} (hq : sem_X2_calm  s = some res) : MR l yX2_calm cX2_calm 4 (some .long) Δ (cs2 a Δ s) [.ref (a 0)] 0 0 (.long res) := by
  refine MR.of (by decide) (Nat.le_of_ble_eq_true rfl) ?_
  intro Γ H hl C hK hP hR
  subst hl
  show g Γ { frames := 0, cells := 0, slots := 0, locals := 0 } 4 H [] 0 0 0 [(0, .ref (a 0))] []
  refine g_lconst 0 C 1 rfl dX2_calm_0 kl_0 ?_
  refine g_lstore_n [(1, .long 0), (0, .ref (a 0))] C 2 rfl dX2_calm_1 (Nat.le_of_ble_eq_true rfl) rfl ?_
  refine g_iconst 0 C 3 rfl dX2_calm_2 ki_0 ?_
  refine g_istore_n [(3, .int 0), (1, .long 0), (0, .ref (a 0))] C 4 rfl dX2_calm_3 (Nat.le_of_ble_eq_true rfl) rfl ?_
  have Q4 : ∀ (n : Nat) (x1 : Int64) (x3 : Int32) (o : (Int64)) (hq : lp_X2_calm_4 s n x1 x3 = some o) (E2 : g Γ { frames := 0, cells := 0, slots := 0, locals := 0 } 4 H [] 0 0 25 [(1, .long o)] []), g Γ { frames := 0, cells := 0, slots := 0, locals := 0 } 4 H [] 0 0 4 [(0, .ref (a 0)), (1, .long x1), (3, .int x3)] [] := by
    intro n
    induction n with
    | zero => intro x1 x3 o hq; exact nomatch (show (none : Option (Int64)) = some o from hq)
    | succ n ih =>
      intro x1 x3 o hq E2
      have hq : bd_X2_calm_4 s (lp_X2_calm_4 s n) x1 x3 = some o := hq
      refine g_iload_n C 5 rfl dX2_calm_4 2 rfl ?_
      refine g_bipush 20 C 7 rfl dX2_calm_5 kb_20 ?_
      refine s_icmp_gt C 25 10 rfl dX2_calm_7 (by decide) hq (fun hq => ?_) (fun hq => ?_)
      · cases hq
        exact g_sub [1] rfl (E2 )
      refine g_lload_n C 11 rfl dX2_calm_10 1 rfl ?_
      refine g_aload_n C 12 rfl dX2_calm_11 0 rfl ?_
      refine g_get (v := .ref (a 1)) (fs := fl2 a s) C 15 rfl dX2_calm_12 hK hP la_X2 0 0 (Nat.le_of_ble_eq_true rfl) fl_X2_9 rfl rfl rfl rfl ?_
      refine g_iload_n C 16 rfl dX2_calm_15 2 rfl ?_
      refine s_lald C 17 rfl dX2_calm_16 hK hP 1 rfl hq (fun hq hi1 => ?_)
      refine g_ladd C 18 rfl dX2_calm_17 ?_
      refine g_lstore_n [(1, .long (x1 + ((x2_parts s) (x3 : Int32).toNatClampNeg))), (0, .ref (a 0)), (3, .int x3)] C 19 rfl dX2_calm_18 (Nat.le_of_ble_eq_true rfl) rfl ?_
      refine g_iinc (x3 + 1) [(3, .int (x3 + 1)), (1, .long (x1 + ((x2_parts s) (x3 : Int32).toNatClampNeg))), (0, .ref (a 0))] C 22 rfl dX2_calm_19 2 rfl (ii_1 _) (Nat.le_of_ble_eq_true rfl) rfl ?_
      refine g_goto C 4 dX2_calm_22 (by decide) ?_
      exact g_sub [2, 1, 0] rfl (ih (x1 + ((x2_parts s) (x3 : Int32).toNatClampNeg)) (x3 + 1) _ hq E2)
  obtain ⟨o2, ho3, hq⟩ := bindE hq
  refine g_sub [2, 1, 0] rfl (Q4  FUEL 0 0 o2 ho3 (?_))
  refine g_lload_n C 26 rfl dX2_calm_25 0 rfl ?_
  exact r_long hR hq dX2_calm_26 rfl
