set_option maxHeartbeats 400000 in
set_option maxRecDepth 100000 in
theorem c_X9_cover (l : Launch) (Δ : gD) (a : Nat → Nat) (x1 : Int32) (x2 : Int32) (x3 : Int32) (x4 : Int32) (x5 : Int32) (s : S9) {res : Int32 × S9} (hq : sem_X9_cover x1 x2 x3 x4 x5 s = some res) : MW l yX9_cover cX9_cover 10 (some .int) Δ (cs9 a Δ s) [.ref (a 0), .int x1, .int x2, .int x3, .int x4, .int x5] 3 80 (some (.int res.1)) (cs9 a Δ res.2) := by
  refine MW.of (by decide) (Nat.le_of_ble_eq_true rfl) ?_
  intro Γ A H hl C hK hP hD hS hA hR
  subst hl
  show g Γ { frames := 3, cells := 0, slots := 0, locals := 80 } 10 H [] 0 0 0 [(0, .ref (a 0)), (1, .int x1), (2, .int x2), (3, .int x3), (4, .int x4), (5, .int x5)] []
  refine g_iload_n C 1 rfl dX9_cover_0 1 rfl ?_
  refine g_i2l C 2 rfl dX9_cover_1 ?_
  refine g_lconst 0 C 3 rfl dX9_cover_2 kl_0 ?_
  refine g_ldc2 6 C 6 rfl dX9_cover_3 k_X9_285 ?_
  obtain ⟨r1, hz2, hq⟩ := bindE hq
  refine g_callRS (rest := []) C 9 rfl dX9_cover_6 (c_X9_in Γ.2.1 Δ  (Int32.toInt64 x1) 0 6  hz2) mv_X9_in (Or.inl ml_X9_90) hK rfl rfl ⟨Nat.le_of_ble_eq_true rfl, Nat.le_of_ble_eq_true rfl⟩ (Nat.le_of_ble_eq_true rfl) ⟨Nat.zero_le _, Nat.zero_le _⟩ ?_
  refine s_if_eq C 60 12 rfl dX9_cover_9 (by decide) hq (fun hq => ?_) (fun hq => ?_)
  · refine g_bipush (-2) C 62 rfl dX9_cover_60 kb_m2 ?_
    exact w_int (ws := fun s => cs9 a Δ s) hR hq hP hS dX9_cover_62 rfl rfl
  refine g_iload_n C 13 rfl dX9_cover_12 2 rfl ?_
  refine g_i2l C 14 rfl dX9_cover_13 ?_
  refine g_lconst 0 C 15 rfl dX9_cover_14 kl_0 ?_
  refine g_ldc2 6 C 18 rfl dX9_cover_15 k_X9_285 ?_
  obtain ⟨r3, hz4, hq⟩ := bindE hq
  refine g_callRS (rest := []) C 21 rfl dX9_cover_18 (c_X9_in Γ.2.1 Δ  (Int32.toInt64 x2) 0 6  hz4) mv_X9_in (Or.inl ml_X9_90) hK rfl rfl ⟨Nat.le_of_ble_eq_true rfl, Nat.le_of_ble_eq_true rfl⟩ (Nat.le_of_ble_eq_true rfl) ⟨Nat.zero_le _, Nat.zero_le _⟩ ?_
  refine s_if_eq C 60 24 rfl dX9_cover_21 (by decide) hq (fun hq => ?_) (fun hq => ?_)
  · refine g_bipush (-2) C 62 rfl dX9_cover_60 kb_m2 ?_
    exact w_int (ws := fun s => cs9 a Δ s) hR hq hP hS dX9_cover_62 rfl rfl
  refine g_iload_n C 25 rfl dX9_cover_24 3 rfl ?_
  refine g_i2l C 26 rfl dX9_cover_25 ?_
  refine g_lconst 0 C 27 rfl dX9_cover_26 kl_0 ?_
  refine g_ldc2 999999 C 30 rfl dX9_cover_27 k_X9_253 ?_
  obtain ⟨r5, hz6, hq⟩ := bindE hq
  refine g_callRS (rest := []) C 33 rfl dX9_cover_30 (c_X9_in Γ.2.1 Δ  (Int32.toInt64 x3) 0 999999  hz6) mv_X9_in (Or.inl ml_X9_90) hK rfl rfl ⟨Nat.le_of_ble_eq_true rfl, Nat.le_of_ble_eq_true rfl⟩ (Nat.le_of_ble_eq_true rfl) ⟨Nat.zero_le _, Nat.zero_le _⟩ ?_
  refine s_if_eq C 60 36 rfl dX9_cover_33 (by decide) hq (fun hq => ?_) (fun hq => ?_)
  · refine g_bipush (-2) C 62 rfl dX9_cover_60 kb_m2 ?_
    exact w_int (ws := fun s => cs9 a Δ s) hR hq hP hS dX9_cover_62 rfl rfl
  refine g_iload C 38 rfl dX9_cover_36 4 rfl ?_
  refine g_i2l C 39 rfl dX9_cover_38 ?_
  refine g_lconst 0 C 40 rfl dX9_cover_39 kl_0 ?_
  refine g_ldc2 999999 C 43 rfl dX9_cover_40 k_X9_253 ?_
  obtain ⟨r7, hz8, hq⟩ := bindE hq
  refine g_callRS (rest := []) C 46 rfl dX9_cover_43 (c_X9_in Γ.2.1 Δ  (Int32.toInt64 x4) 0 999999  hz8) mv_X9_in (Or.inl ml_X9_90) hK rfl rfl ⟨Nat.le_of_ble_eq_true rfl, Nat.le_of_ble_eq_true rfl⟩ (Nat.le_of_ble_eq_true rfl) ⟨Nat.zero_le _, Nat.zero_le _⟩ ?_
  refine s_if_eq C 60 49 rfl dX9_cover_46 (by decide) hq (fun hq => ?_) (fun hq => ?_)
  · refine g_bipush (-2) C 62 rfl dX9_cover_60 kb_m2 ?_
    exact w_int (ws := fun s => cs9 a Δ s) hR hq hP hS dX9_cover_62 rfl rfl
  refine g_iload C 51 rfl dX9_cover_49 5 rfl ?_
  refine g_i2l C 52 rfl dX9_cover_51 ?_
  refine g_lconst 0 C 53 rfl dX9_cover_52 kl_0 ?_
  refine g_lconst 1 C 54 rfl dX9_cover_53 kl_1 ?_
  obtain ⟨r9, hz10, hq⟩ := bindE hq
  refine g_callRS (rest := []) C 57 rfl dX9_cover_54 (c_X9_in Γ.2.1 Δ  (Int32.toInt64 x5) 0 1  hz10) mv_X9_in (Or.inl ml_X9_90) hK rfl rfl ⟨Nat.le_of_ble_eq_true rfl, Nat.le_of_ble_eq_true rfl⟩ (Nat.le_of_ble_eq_true rfl) ⟨Nat.zero_le _, Nat.zero_le _⟩ ?_
  refine s_if_ne C 63 60 rfl dX9_cover_57 (by decide) hq (fun hq => ?_) (fun hq => ?_)
  rotate_left
  · refine g_bipush (-2) C 62 rfl dX9_cover_60 kb_m2 ?_
    exact w_int (ws := fun s => cs9 a Δ s) hR hq hP hS dX9_cover_62 rfl rfl
  refine g_bipush (-6) C 65 rfl dX9_cover_63 kb_m6 ?_
  refine g_istore [(6, .int (-6)), (0, .ref (a 0)), (1, .int x1), (2, .int x2), (3, .int x3), (4, .int x4), (5, .int x5)] C 67 rfl dX9_cover_65 (Nat.le_of_ble_eq_true rfl) rfl ?_
  refine g_iconst 0 C 68 rfl dX9_cover_67 ki_0 ?_
  refine g_istore [(7, .int 0), (6, .int (-6)), (0, .ref (a 0)), (1, .int x1), (2, .int x2), (3, .int x3), (4, .int x4), (5, .int x5)] C 70 rfl dX9_cover_68 (Nat.le_of_ble_eq_true rfl) rfl ?_
  refine g_iconst 0 C 71 rfl dX9_cover_70 ki_0 ?_
  refine g_istore [(8, .int 0), (7, .int 0), (6, .int (-6)), (0, .ref (a 0)), (1, .int x1), (2, .int x2), (3, .int x3), (4, .int x4), (5, .int x5)] C 73 rfl dX9_cover_71 (Nat.le_of_ble_eq_true rfl) rfl ?_
  have Q73 : ∀ (x1 : Int32) (x2 : Int32) (x3 : Int32) (x4 : Int32) (x5 : Int32), ∀ (n : Nat) (x6 : Int32) (x7 : Int32) (x8 : Int32) (s : S9) (o : (Int32 × Int32 × S9)) (H : Heap) (L : List Loc) (hP : va_P Δ.1 classes (cs9 a Δ s) H) (hD : va_D A (cs9 a Δ s)) (hS : va_S A (sOf Γ).heap H L) (hq : lp_X9_cover_73 x1 x2 x3 x4 x5 n x6 x7 x8 s = some o) (E2 : ∀ (H : Heap) (L : List Loc), va_P Δ.1 classes (cs9 a Δ o.2.2) H → va_D A (cs9 a Δ o.2.2) → va_S A (sOf Γ).heap H L → g Γ { frames := 3, cells := 0, slots := 0, locals := 80 } 10 H L 0 0 134 [(5, .int x5), (6, .int o.1), (7, .int o.2.1)] []), g Γ { frames := 3, cells := 0, slots := 0, locals := 80 } 10 H L 0 0 73 [(0, .ref (a 0)), (1, .int x1), (2, .int x2), (3, .int x3), (4, .int x4), (5, .int x5), (6, .int x6), (7, .int x7), (8, .int x8)] [] := by
    intro x1 x2 x3 x4 x5
    intro n
    induction n with
    | zero => intro x6 x7 x8 s o H L hP hD hS hq; exact nomatch (show (none : Option (Int32 × Int32 × S9)) = some o from hq)
    | succ n ih =>
      intro x6 x7 x8 s o H L hP hD hS hq E2
      have hq : bd_X9_cover_73 x1 x2 x3 x4 x5 (lp_X9_cover_73 x1 x2 x3 x4 x5 n) x6 x7 x8 s = some o := hq
      have K110 : ∀ (x6 : Int32) (x8 : Int32) (x9 : Int32) (y0 : Int32) (s : S9) (H : Heap) (L : List Loc) (hP : va_P Δ.1 classes (cs9 a Δ s) H) (hD : va_D A (cs9 a Δ s)) (hS : va_S A (sOf Γ).heap H L), jn_X9_cover_110 (lp_X9_cover_73 x1 x2 x3 x4 x5 n) x1 x2 x3 x4 x5 x6 x8 x9 y0 s = some o → g Γ { frames := 3, cells := 0, slots := 0, locals := 80 } 10 H L 0 0 110 [(0, .ref (a 0)), (1, .int x1), (2, .int x2), (3, .int x3), (4, .int x4), (5, .int x5), (6, .int x6), (8, .int x8), (9, .int x9)] [.int y0] := by
        intro x6 x8 x9 y0 s H L hP hD hS hq
        refine g_istore [(7, .int y0), (0, .ref (a 0)), (1, .int x1), (2, .int x2), (3, .int x3), (4, .int x4), (5, .int x5), (6, .int x6), (8, .int x8), (9, .int x9)] C 112 rfl dX9_cover_110 (Nat.le_of_ble_eq_true rfl) rfl ?_
        refine g_iload C 114 rfl dX9_cover_112 9 rfl ?_
        refine g_iload C 116 rfl dX9_cover_114 7 rfl ?_
        refine s_icmp_le C 124 119 rfl dX9_cover_116 (by decide) hq (fun hq => ?_) (fun hq => ?_)
        · refine g_iload C 126 rfl dX9_cover_124 7 rfl ?_
          refine g_istore [(6, .int x6), (7, .int y0), (0, .ref (a 0)), (1, .int x1), (2, .int x2), (3, .int x3), (4, .int x4), (5, .int x5), (8, .int x8), (9, .int x9)] C 128 rfl dX9_cover_126 (Nat.le_of_ble_eq_true rfl) rfl ?_
          refine g_iinc (x8 + 1) [(8, .int (x8 + 1)), (6, .int x6), (7, .int y0), (0, .ref (a 0)), (1, .int x1), (2, .int x2), (3, .int x3), (4, .int x4), (5, .int x5), (9, .int x9)] C 131 rfl dX9_cover_128 8 rfl (ii_1 _) (Nat.le_of_ble_eq_true rfl) rfl ?_
          refine g_goto C 73 dX9_cover_131 (by decide) ?_
          exact g_sub [3, 4, 5, 6, 7, 8, 1, 2, 0] rfl (ih x6 y0 (x8 + 1) s _ _ _ hP hD hS hq E2)
        refine g_iload C 121 rfl dX9_cover_119 9 rfl ?_
        refine g_goto C 126 dX9_cover_121 (by decide) ?_
        refine g_istore [(6, .int x9), (7, .int y0), (0, .ref (a 0)), (1, .int x1), (2, .int x2), (3, .int x3), (4, .int x4), (5, .int x5), (8, .int x8), (9, .int x9)] C 128 rfl dX9_cover_126 (Nat.le_of_ble_eq_true rfl) rfl ?_
        refine g_iinc (x8 + 1) [(8, .int (x8 + 1)), (6, .int x9), (7, .int y0), (0, .ref (a 0)), (1, .int x1), (2, .int x2), (3, .int x3), (4, .int x4), (5, .int x5), (9, .int x9)] C 131 rfl dX9_cover_128 8 rfl (ii_1 _) (Nat.le_of_ble_eq_true rfl) rfl ?_
        refine g_goto C 73 dX9_cover_131 (by decide) ?_
        exact g_sub [3, 4, 5, 6, 7, 8, 1, 2, 0] rfl (ih x9 y0 (x8 + 1) s _ _ _ hP hD hS hq E2)
      refine g_iload C 75 rfl dX9_cover_73 8 rfl ?_
      refine g_sipush 729 C 78 rfl dX9_cover_75 ks_729 ?_
      refine s_icmp_ge C 134 81 rfl dX9_cover_78 (by decide) hq (fun hq => ?_) (fun hq => ?_)
      · cases hq
        exact g_sub [5, 6, 7] rfl (E2 _ _ hP hD hS)
      refine g_aload_n C 82 rfl dX9_cover_81 0 rfl ?_
      refine g_iload C 84 rfl dX9_cover_82 8 rfl ?_
      refine g_iload_n C 85 rfl dX9_cover_84 1 rfl ?_
      refine g_iload_n C 86 rfl dX9_cover_85 2 rfl ?_
      refine g_iload_n C 87 rfl dX9_cover_86 3 rfl ?_
      refine g_iload C 89 rfl dX9_cover_87 4 rfl ?_
      obtain ⟨r11, hz12, hq⟩ := bindE hq
      refine g_callWV (rest := []) (cs9 a Δ r11.2) C 92 rfl dX9_cover_89 (c_X9_covered Γ.2.1 Δ a x8 x1 x2 x3 x4 s hz12) mv_X9_covered ml_X9_287 hK hP hD hS hA (scl_101 a Δ s r11.2) rfl rfl rfl rfl rfl ⟨Nat.le_of_ble_eq_true rfl, Nat.le_of_ble_eq_true rfl⟩ (Nat.le_of_ble_eq_true rfl) ⟨Nat.zero_le _, Nat.zero_le _⟩ (fun H L hP hD hS => ?_)
      refine g_istore [(9, .int r11.1), (0, .ref (a 0)), (1, .int x1), (2, .int x2), (3, .int x3), (4, .int x4), (5, .int x5), (6, .int x6), (7, .int x7), (8, .int x8)] C 94 rfl dX9_cover_92 (Nat.le_of_ble_eq_true rfl) rfl ?_
      refine g_iload C 96 rfl dX9_cover_94 0 rfl ?_
      refine g_iload C 98 rfl dX9_cover_96 7 rfl ?_
      refine s_icmp_le C 108 101 rfl dX9_cover_98 (by decide) hq (fun hq => ?_) (fun hq => ?_)
      · refine g_iload C 110 rfl dX9_cover_108 8 rfl ?_
        exact g_sub [1, 2, 3, 4, 5, 6, 7, 9, 0] rfl (K110 x6 x8 r11.1 x7 r11.2 _ _ hP hD hS hq)
      refine g_aload_n C 102 rfl dX9_cover_101 1 rfl ?_
      refine g_get (v := .int (x9_coverDigits r11.2)) (fs := fl9 a r11.2) C 105 rfl dX9_cover_102 hK hP la_X9 0 33 (Nat.le_of_ble_eq_true rfl) fl_X9_282 rfl rfl rfl rfl ?_
      refine g_goto C 110 dX9_cover_105 (by decide) ?_
      exact g_sub [1, 2, 3, 4, 5, 6, 7, 9, 0] rfl (K110 x6 x8 r11.1 (x9_coverDigits r11.2) r11.2 _ _ hP hD hS hq)
  obtain ⟨o13, ho14, hq⟩ := bindE hq
  refine g_sub [3, 4, 5, 6, 7, 8, 2, 1, 0] rfl (Q73 x1 x2 x3 x4 x5 FUEL (-6) 0 0 s o13 _ _ hP hD hS ho14 (fun H L hP hD hS => ?_))
  refine g_iload C 136 rfl dX9_cover_134 0 rfl ?_
  refine s_if_ne C 144 139 rfl dX9_cover_136 (by decide) hq (fun hq => ?_) (fun hq => ?_)
  · refine g_iload C 146 rfl dX9_cover_144 2 rfl ?_
    exact w_int (ws := fun s => cs9 a Δ s) hR hq hP hS dX9_cover_146 rfl rfl
  refine g_iload C 141 rfl dX9_cover_139 1 rfl ?_
  refine g_goto C 146 dX9_cover_141 (by decide) ?_
  exact w_int (ws := fun s => cs9 a Δ s) hR hq hP hS dX9_cover_146 rfl rfl
set_option maxHeartbeats 400000 in
set_option maxRecDepth 100000 in
theorem c_X9_lowest (l : Launch) (Δ : gD)  (x0 : Int64) (x2 : Int64) (x4 : Int32)  {res : Int64} (hq : sem_X9_lowest x0 x2 x4  = some res) : MR l yX9_lowest cX9_lowest 11 (some .long) Δ ([]) [.long x0, .long x2, .int x4] 0 0 (.long res) := by
  refine MR.of (by decide) (Nat.le_of_ble_eq_true rfl) ?_
  intro Γ H hl C hK hP hR
  subst hl
  show g Γ { frames := 0, cells := 0, slots := 0, locals := 0 } 11 H [] 0 0 0 [(0, .long x0), (2, .long x2), (4, .int x4)] []
  refine g_lload_n C 1 rfl dX9_lowest_0 1 rfl ?_
  refine g_lstore [(5, .long x2), (0, .long x0), (2, .long x2), (4, .int x4)] C 3 rfl dX9_lowest_1 (Nat.le_of_ble_eq_true rfl) rfl ?_
  refine g_lload_n C 4 rfl dX9_lowest_3 1 rfl ?_
  refine g_lstore [(7, .long x0), (5, .long x2), (0, .long x0), (2, .long x2), (4, .int x4)] C 6 rfl dX9_lowest_4 (Nat.le_of_ble_eq_true rfl) rfl ?_
  have Q6 : ∀ (x0 : Int64) (x2 : Int64) (x4 : Int32), ∀ (n : Nat) (x5 : Int64) (x7 : Int64) (o : (Int64)) (hq : lp_X9_lowest_6 x0 x2 x4 n x5 x7 = some o) (E2 : g Γ { frames := 0, cells := 0, slots := 0, locals := 0 } 11 H [] 0 0 31 [(0, .long x0), (2, .long x2), (4, .int x4), (5, .long o)] []), g Γ { frames := 0, cells := 0, slots := 0, locals := 0 } 11 H [] 0 0 6 [(0, .long x0), (2, .long x2), (4, .int x4), (5, .long x5), (7, .long x7)] [] := by
    intro x0 x2 x4
    intro n
    induction n with
    | zero => intro x5 x7 o hq; exact nomatch (show (none : Option (Int64)) = some o from hq)
    | succ n ih =>
      intro x5 x7 o hq E2
      have hq : bd_X9_lowest_6 x0 x2 x4 (lp_X9_lowest_6 x0 x2 x4 n) x5 x7 = some o := hq
      refine g_lload C 8 rfl dX9_lowest_6 4 rfl ?_
      refine g_lconst 0 C 9 rfl dX9_lowest_8 kl_0 ?_
      refine g_lcmp C 10 rfl dX9_lowest_9 ?_
      refine s_if_eq C 31 13 rfl dX9_lowest_10 (by decide) hq (fun hq => ?_) (fun hq => ?_)
      · cases hq
        exact g_sub [0, 1, 2, 3] rfl (E2 )
      refine g_lload C 15 rfl dX9_lowest_13 3 rfl ?_
      refine g_lload C 17 rfl dX9_lowest_15 4 rfl ?_
      obtain ⟨hz1, hq⟩ := dzl_some hq
      refine g_lrem C 18 rfl dX9_lowest_17 hz1 ?_
      refine g_lstore [(9, .long (jreml x5 x7)), (0, .long x0), (2, .long x2), (4, .int x4), (5, .long x5), (7, .long x7)] C 20 rfl dX9_lowest_18 (Nat.le_of_ble_eq_true rfl) rfl ?_
      refine g_lload C 22 rfl dX9_lowest_20 5 rfl ?_
      refine g_lstore [(5, .long x7), (9, .long (jreml x5 x7)), (0, .long x0), (2, .long x2), (4, .int x4), (7, .long x7)] C 24 rfl dX9_lowest_22 (Nat.le_of_ble_eq_true rfl) rfl ?_
      refine g_lload C 26 rfl dX9_lowest_24 1 rfl ?_
      refine g_lstore [(7, .long (jreml x5 x7)), (5, .long x7), (9, .long (jreml x5 x7)), (0, .long x0), (2, .long x2), (4, .int x4)] C 28 rfl dX9_lowest_26 (Nat.le_of_ble_eq_true rfl) rfl ?_
      refine g_goto C 6 dX9_lowest_28 (by decide) ?_
      exact g_sub [3, 4, 5, 1, 0] rfl (ih x7 (jreml x5 x7) _ hq E2)
  obtain ⟨o2, ho3, hq⟩ := bindE hq
  refine g_sub [2, 3, 4, 1, 0] rfl (Q6 x0 x2 x4 FUEL x2 x0 o2 ho3 (?_))
  refine g_iload C 33 rfl dX9_lowest_31 2 rfl ?_
  refine s_if_ne C 43 36 rfl dX9_lowest_33 (by decide) hq (fun hq => ?_) (fun hq => ?_)
  · refine g_lload_n C 44 rfl dX9_lowest_43 1 rfl ?_
    refine g_lload C 46 rfl dX9_lowest_44 3 rfl ?_
    obtain ⟨hz4, hq⟩ := dzl_some hq
    refine g_ldiv C 47 rfl dX9_lowest_46 hz4 ?_
    exact r_long hR hq dX9_lowest_47 rfl
  refine g_lload_n C 37 rfl dX9_lowest_36 0 rfl ?_
  refine g_lload C 39 rfl dX9_lowest_37 3 rfl ?_
  obtain ⟨hz5, hq⟩ := dzl_some hq
  refine g_ldiv C 40 rfl dX9_lowest_39 hz5 ?_
  refine g_goto C 47 dX9_lowest_40 (by decide) ?_
  exact r_long hR hq dX9_lowest_47 rfl
set_option maxHeartbeats 400000 in
set_option maxRecDepth 100000 in
theorem c_X9_behindHour (l : Launch) (Δ : gD)  (x0 : Int32)  {res : Int32} (hq : sem_X9_behindHour x0  = some res) : MR l yX9_behindHour cX9_behindHour 1 (some .int) Δ ([]) [.int x0] 0 0 (.int res) := by
  refine MR.of (by decide) (Nat.le_of_ble_eq_true rfl) ?_
  intro Γ H hl C hK hP hR
  subst hl
  show g Γ { frames := 0, cells := 0, slots := 0, locals := 0 } 1 H [] 0 0 0 [(0, .int x0)] []
  refine g_iload_n C 1 rfl dX9_behindHour_0 0 rfl ?_
  refine s_if_le C 10 4 rfl dX9_behindHour_1 (by decide) hq (fun hq => ?_) (fun hq => ?_)
  · refine g_iconst 0 C 11 rfl dX9_behindHour_10 ki_0 ?_
    exact r_int hR hq dX9_behindHour_11 rfl rfl
  refine g_iload_n C 5 rfl dX9_behindHour_4 0 rfl ?_
  refine g_iconst 1 C 6 rfl dX9_behindHour_5 ki_1 ?_
  refine g_isub C 7 rfl dX9_behindHour_6 ?_
  refine g_goto C 11 dX9_behindHour_7 (by decide) ?_
  exact r_int hR hq dX9_behindHour_11 rfl rfl
set_option maxHeartbeats 400000 in
set_option maxRecDepth 100000 in
theorem c_X9_riskHour (l : Launch) (Δ : gD) (a : Nat → Nat) (x1 : Int32) (x2 : Int32) (x3 : Int32) (s : S9) {res : S9} (hq : sem_X9_riskHour x1 x2 x3 s = some res) : MW l yX9_riskHour cX9_riskHour 6 none Δ (cs9 a Δ s) [.ref (a 0), .int x1, .int x2, .int x3] 1 20 none (cs9 a Δ res) := by
  refine MW.of (by decide) (Nat.le_of_ble_eq_true rfl) ?_
  intro Γ A H hl C hK hP hD hS hA hR
  subst hl
  show g Γ { frames := 1, cells := 0, slots := 0, locals := 20 } 6 H [] 0 0 0 [(0, .ref (a 0)), (1, .int x1), (2, .int x2), (3, .int x3)] []
  refine g_iconst 0 C 1 rfl dX9_riskHour_0 ki_0 ?_
  refine g_istore [(4, .int 0), (0, .ref (a 0)), (1, .int x1), (2, .int x2), (3, .int x3)] C 3 rfl dX9_riskHour_1 (Nat.le_of_ble_eq_true rfl) rfl ?_
  have Q3 : ∀ (x1 : Int32) (x2 : Int32) (x3 : Int32), ∀ (n : Nat) (x4 : Int32) (s : S9) (o : (S9)) (H : Heap) (L : List Loc) (hP : va_P Δ.1 classes (cs9 a Δ s) H) (hD : va_D A (cs9 a Δ s)) (hS : va_S A (sOf Γ).heap H L) (hq : lp_X9_riskHour_3 x1 x2 x3 n x4 s = some o) (E2 : ∀ (H : Heap) (L : List Loc), va_P Δ.1 classes (cs9 a Δ o) H → va_D A (cs9 a Δ o) → va_S A (sOf Γ).heap H L → g Γ { frames := 1, cells := 0, slots := 0, locals := 20 } 6 H L 0 0 24 [(0, .ref (a 0)), (1, .int x1), (2, .int x2), (3, .int x3)] []), g Γ { frames := 1, cells := 0, slots := 0, locals := 20 } 6 H L 0 0 3 [(0, .ref (a 0)), (1, .int x1), (2, .int x2), (3, .int x3), (4, .int x4)] [] := by
    intro x1 x2 x3
    intro n
    induction n with
    | zero => intro x4 s o H L hP hD hS hq; exact nomatch (show (none : Option (S9)) = some o from hq)
    | succ n ih =>
      intro x4 s o H L hP hD hS hq E2
      have hq : bd_X9_riskHour_3 x1 x2 x3 (lp_X9_riskHour_3 x1 x2 x3 n) x4 s = some o := hq
      refine g_iload C 5 rfl dX9_riskHour_3 4 rfl ?_
      refine g_bipush 21 C 7 rfl dX9_riskHour_5 kb_21 ?_
      refine s_icmp_ge C 24 10 rfl dX9_riskHour_7 (by decide) hq (fun hq => ?_) (fun hq => ?_)
      · cases hq
        exact g_sub [0, 1, 2, 3] rfl (E2 _ _ hP hD hS)
      refine g_aload_n C 11 rfl dX9_riskHour_10 0 rfl ?_
      refine g_get (v := .ref (a 21)) (fs := fl9 a s) C 14 rfl dX9_riskHour_11 hK hP la_X9 0 35 (Nat.le_of_ble_eq_true rfl) fl_X9_71 rfl rfl rfl rfl ?_
      refine g_iload C 16 rfl dX9_riskHour_14 4 rfl ?_
      refine g_lconst 0 C 17 rfl dX9_riskHour_16 kl_0 ?_
      refine s_last (cs9 a Δ (p9_partsThen s (vp_updL (x9_partsThen s) (x4 : Int32).toNatClampNeg 0))) C 18 rfl dX9_riskHour_17 hK hP hD hS 21 rfl hq (sst_117 a Δ s (vp_updL (x9_partsThen s) (x4 : Int32).toNatClampNeg 0)) (fun hq hi1 H L hP hD hS => ?_)
      refine g_iinc (x4 + 1) [(4, .int (x4 + 1)), (0, .ref (a 0)), (1, .int x1), (2, .int x2), (3, .int x3)] C 21 rfl dX9_riskHour_18 4 rfl (ii_1 _) (Nat.le_of_ble_eq_true rfl) rfl ?_
      refine g_goto C 3 dX9_riskHour_21 (by decide) ?_
      exact g_sub [1, 2, 3, 4, 0] rfl (ih (x4 + 1) (p9_partsThen s (vp_updL (x9_partsThen s) (x4 : Int32).toNatClampNeg 0)) _ _ _ hP hD hS hq E2)
  obtain ⟨o2, ho3, hq⟩ := bindE hq
  refine g_sub [1, 2, 3, 4, 0] rfl (Q3 x1 x2 x3 FUEL 0 s o2 _ _ hP hD hS ho3 (fun H L hP hD hS => ?_))
  refine g_aload_n C 25 rfl dX9_riskHour_24 0 rfl ?_
  refine g_dup C 26 rfl dX9_riskHour_25 rfl ?_
  refine g_get (v := .long (x9_meanParts o2)) (fs := fl9 a o2) C 29 rfl dX9_riskHour_26 hK hP la_X9 0 36 (Nat.le_of_ble_eq_true rfl) fl_X9_291 rfl rfl rfl rfl ?_
  refine g_ldc2 10 C 32 rfl dX9_riskHour_29 k_X9_295 ?_
  refine g_lmul C 33 rfl dX9_riskHour_32 ?_
  refine g_put (fs := fl9 a o2) (cs9 a Δ (p9_meanParts o2 ((x9_meanParts o2) * 10))) C 36 rfl dX9_riskHour_33 hK hP hD hS la_X9 tyX9_ok nmX9 0 36 (Nat.le_of_ble_eq_true rfl) fl_X9_291 rfl rfl rfl rfl rfl rfl (Nat.le_of_ble_eq_true rfl) (sst_118 a Δ o2 ((x9_meanParts o2) * 10)) (fun H L hP hD hS => ?_)
  refine g_iconst 0 C 37 rfl dX9_riskHour_36 ki_0 ?_
  refine g_istore [(4, .int 0), (0, .ref (a 0)), (1, .int x1), (2, .int x2), (3, .int x3)] C 39 rfl dX9_riskHour_37 (Nat.le_of_ble_eq_true rfl) rfl ?_
  have Q39 : ∀ (x1 : Int32) (x2 : Int32) (x3 : Int32), ∀ (n : Nat) (x4 : Int32) (s : S9) (o : (S9)) (H : Heap) (L : List Loc) (hP : va_P Δ.1 classes (cs9 a Δ s) H) (hD : va_D A (cs9 a Δ s)) (hS : va_S A (sOf Γ).heap H L) (hq : lp_X9_riskHour_39 x1 x2 x3 n x4 s = some o) (E2 : ∀ (H : Heap) (L : List Loc), va_P Δ.1 classes (cs9 a Δ o) H → va_D A (cs9 a Δ o) → va_S A (sOf Γ).heap H L → g Γ { frames := 1, cells := 0, slots := 0, locals := 20 } 6 H L 0 0 174 [(0, .ref (a 0))] []), g Γ { frames := 1, cells := 0, slots := 0, locals := 20 } 6 H L 0 0 39 [(0, .ref (a 0)), (1, .int x1), (2, .int x2), (3, .int x3), (4, .int x4)] [] := by
    intro x1 x2 x3
    intro n
    induction n with
    | zero => intro x4 s o H L hP hD hS hq; exact nomatch (show (none : Option (S9)) = some o from hq)
    | succ n ih =>
      intro x4 s o H L hP hD hS hq E2
      have hq : bd_X9_riskHour_39 x1 x2 x3 (lp_X9_riskHour_39 x1 x2 x3 n) x4 s = some o := hq
      have K156 : ∀ (x4 : Int32) (y1 : Int32) (y2 : Int64) (s : S9) (H : Heap) (L : List Loc) (hP : va_P Δ.1 classes (cs9 a Δ s) H) (hD : va_D A (cs9 a Δ s)) (hS : va_S A (sOf Γ).heap H L), jn_X9_riskHour_156 (lp_X9_riskHour_39 x1 x2 x3 n) x1 x2 x3 x4 y1 y2 s = some o → g Γ { frames := 1, cells := 0, slots := 0, locals := 20 } 6 H L 0 0 156 [(0, .ref (a 0)), (1, .int x1), (2, .int x2), (3, .int x3), (4, .int x4)] [.long y2, .int y1, .ref (a 21)] := by
        intro x4 y1 y2 s H L hP hD hS hq
        refine g_iload_n C 157 rfl dX9_riskHour_156 2 rfl ?_
        refine g_i2l C 158 rfl dX9_riskHour_157 ?_
        refine g_aload_n C 159 rfl dX9_riskHour_158 0 rfl ?_
        refine g_get (v := .ref (a 20)) (fs := fl9 a s) C 162 rfl dX9_riskHour_159 hK hP la_X9 0 34 (Nat.le_of_ble_eq_true rfl) fl_X9_67 rfl rfl rfl rfl ?_
        refine g_iload C 164 rfl dX9_riskHour_162 4 rfl ?_
        refine s_lald C 165 rfl dX9_riskHour_164 hK hP 20 rfl hq (fun hq hi4 => ?_)
        refine g_lmul C 166 rfl dX9_riskHour_165 ?_
        refine g_ladd C 167 rfl dX9_riskHour_166 ?_
        refine s_last (cs9 a Δ (p9_partsThen s (vp_updL (x9_partsThen s) (y1 : Int32).toNatClampNeg (y2 + ((Int32.toInt64 x2) * ((x9_parts s) (x4 : Int32).toNatClampNeg)))))) C 168 rfl dX9_riskHour_167 hK hP hD hS 21 rfl hq (sst_117 a Δ s (vp_updL (x9_partsThen s) (y1 : Int32).toNatClampNeg (y2 + ((Int32.toInt64 x2) * ((x9_parts s) (x4 : Int32).toNatClampNeg))))) (fun hq hi5 H L hP hD hS => ?_)
        refine g_iinc (x4 + 1) [(4, .int (x4 + 1)), (0, .ref (a 0)), (1, .int x1), (2, .int x2), (3, .int x3)] C 171 rfl dX9_riskHour_168 4 rfl (ii_1 _) (Nat.le_of_ble_eq_true rfl) rfl ?_
        refine g_goto C 39 dX9_riskHour_171 (by decide) ?_
        exact g_sub [1, 2, 3, 4, 0] rfl (ih (x4 + 1) (p9_partsThen s (vp_updL (x9_partsThen s) (y1 : Int32).toNatClampNeg (y2 + ((Int32.toInt64 x2) * ((x9_parts s) (x4 : Int32).toNatClampNeg))))) _ _ _ hP hD hS hq E2)
      have K141 : ∀ (x4 : Int32) (x5 : Int32) (y1 : Int32) (s : S9) (H : Heap) (L : List Loc) (hP : va_P Δ.1 classes (cs9 a Δ s) H) (hD : va_D A (cs9 a Δ s)) (hS : va_S A (sOf Γ).heap H L), jn_X9_riskHour_141 (lp_X9_riskHour_39 x1 x2 x3 n) x1 x2 x3 x4 x5 y1 s = some o → g Γ { frames := 1, cells := 0, slots := 0, locals := 20 } 6 H L 0 0 141 [(0, .ref (a 0)), (1, .int x1), (2, .int x2), (3, .int x3), (4, .int x4), (5, .int x5)] [.int y1, .ref (a 21)] := by
        intro x4 x5 y1 s H L hP hD hS hq
        refine g_dup2 C 142 rfl dX9_riskHour_141 rfl rfl ?_
        refine s_lald C 143 rfl dX9_riskHour_142 hK hP 21 rfl hq (fun hq hi6 => ?_)
        refine g_iload C 145 rfl dX9_riskHour_143 5 rfl ?_
        refine s_if_eq C 156 148 rfl dX9_riskHour_145 (by decide) hq (fun hq => ?_) (fun hq => ?_)
        · exact g_sub [0, 1, 2, 3, 4] rfl (K156 x4 y1 ((x9_partsThen s) (y1 : Int32).toNatClampNeg) s _ _ hP hD hS hq)
        refine g_iload_n C 149 rfl dX9_riskHour_148 3 rfl ?_
        refine s_if_ne C 156 152 rfl dX9_riskHour_149 (by decide) hq (fun hq => ?_) (fun hq => ?_)
        · exact g_sub [0, 1, 2, 3, 4] rfl (K156 x4 y1 ((x9_partsThen s) (y1 : Int32).toNatClampNeg) s _ _ hP hD hS hq)
        refine g_lconst 0 C 153 rfl dX9_riskHour_152 kl_0 ?_
        refine g_goto C 166 dX9_riskHour_153 (by decide) ?_
        refine g_ladd C 167 rfl dX9_riskHour_166 ?_
        refine g_last (cs9 a Δ (p9_partsThen s (vp_updL (x9_partsThen s) (y1 : Int32).toNatClampNeg (((x9_partsThen s) (y1 : Int32).toNatClampNeg) + 0)))) C 168 rfl dX9_riskHour_167 hK hP hD hS 21 rfl hi6 (sst_117 a Δ s (vp_updL (x9_partsThen s) (y1 : Int32).toNatClampNeg (((x9_partsThen s) (y1 : Int32).toNatClampNeg) + 0))) (fun H L hP hD hS => ?_)
        refine g_iinc (x4 + 1) [(4, .int (x4 + 1)), (0, .ref (a 0)), (1, .int x1), (2, .int x2), (3, .int x3), (5, .int x5)] C 171 rfl dX9_riskHour_168 4 rfl (ii_1 _) (Nat.le_of_ble_eq_true rfl) rfl ?_
        refine g_goto C 39 dX9_riskHour_171 (by decide) ?_
        exact g_sub [1, 2, 3, 4, 0] rfl (ih (x4 + 1) (p9_partsThen s (vp_updL (x9_partsThen s) (y1 : Int32).toNatClampNeg (((x9_partsThen s) (y1 : Int32).toNatClampNeg) + 0))) _ _ _ hP hD hS hq E2)
      have K90 : ∀ (x4 : Int32) (x5 : Int32) (y1 : Int64) (y2 : Int64) (s : S9) (H : Heap) (L : List Loc) (hP : va_P Δ.1 classes (cs9 a Δ s) H) (hD : va_D A (cs9 a Δ s)) (hS : va_S A (sOf Γ).heap H L), jn_X9_riskHour_90 (lp_X9_riskHour_39 x1 x2 x3 n) x1 x2 x3 x4 x5 y1 y2 s = some o → g Γ { frames := 1, cells := 0, slots := 0, locals := 20 } 6 H L 0 0 90 [(0, .ref (a 0)), (1, .int x1), (2, .int x2), (3, .int x3), (4, .int x4), (5, .int x5)] [.long y2, .long y1, .ref (a 0)] := by
        intro x4 x5 y1 y2 s H L hP hD hS hq
        refine g_ladd C 91 rfl dX9_riskHour_90 ?_
        refine g_put (fs := fl9 a s) (cs9 a Δ (p9_meanParts s (y1 + y2))) C 94 rfl dX9_riskHour_91 hK hP hD hS la_X9 tyX9_ok nmX9 0 36 (Nat.le_of_ble_eq_true rfl) fl_X9_291 rfl rfl rfl rfl rfl rfl (Nat.le_of_ble_eq_true rfl) (sst_118 a Δ s (y1 + y2)) (fun H L hP hD hS => ?_)
        refine g_aload_n C 95 rfl dX9_riskHour_94 0 rfl ?_
        refine g_get (v := .ref (a 21)) (fs := fl9 a (p9_meanParts s (y1 + y2))) C 98 rfl dX9_riskHour_95 hK hP la_X9 0 35 (Nat.le_of_ble_eq_true rfl) fl_X9_71 rfl rfl rfl rfl ?_
        refine g_iload C 100 rfl dX9_riskHour_98 4 rfl ?_
        obtain ⟨r7, hz8, hq⟩ := bindE hq
        refine g_callRS (rest := [.ref (a 21)]) C 103 rfl dX9_riskHour_100 (c_X9_behindHour Γ.2.1 Δ  x4  hz8) mv_X9_behindHour (Or.inl ml_X9_297) hK rfl rfl ⟨Nat.le_of_ble_eq_true rfl, Nat.le_of_ble_eq_true rfl⟩ (Nat.le_of_ble_eq_true rfl) ⟨Nat.zero_le _, Nat.zero_le _⟩ ?_
        refine g_dup2 C 104 rfl dX9_riskHour_103 rfl rfl ?_
        refine s_lald C 105 rfl dX9_riskHour_104 hK hP 21 rfl hq (fun hq hi9 => ?_)
        refine g_ldc2 10 C 108 rfl dX9_riskHour_105 k_X9_295 ?_
        refine g_iload_n C 109 rfl dX9_riskHour_108 2 rfl ?_
        refine g_i2l C 110 rfl dX9_riskHour_109 ?_
        refine g_lsub C 111 rfl dX9_riskHour_110 ?_
        refine g_aload_n C 112 rfl dX9_riskHour_111 0 rfl ?_
        refine g_get (v := .ref (a 20)) (fs := fl9 a (p9_meanParts s (y1 + y2))) C 115 rfl dX9_riskHour_112 hK hP la_X9 0 34 (Nat.le_of_ble_eq_true rfl) fl_X9_67 rfl rfl rfl rfl ?_
        refine g_iload C 117 rfl dX9_riskHour_115 4 rfl ?_
        refine s_lald C 118 rfl dX9_riskHour_117 hK hP 20 rfl hq (fun hq hi10 => ?_)
        refine g_lmul C 119 rfl dX9_riskHour_118 ?_
        refine g_ladd C 120 rfl dX9_riskHour_119 ?_
        refine g_last (cs9 a Δ (p9_partsThen (p9_meanParts s (y1 + y2)) (vp_updL (x9_partsThen (p9_meanParts s (y1 + y2))) (r7 : Int32).toNatClampNeg (((x9_partsThen (p9_meanParts s (y1 + y2))) (r7 : Int32).toNatClampNeg) + ((10 - (Int32.toInt64 x2)) * ((x9_parts (p9_meanParts s (y1 + y2))) (x4 : Int32).toNatClampNeg)))))) C 121 rfl dX9_riskHour_120 hK hP hD hS 21 rfl hi9 (sst_117 a Δ (p9_meanParts s (y1 + y2)) (vp_updL (x9_partsThen (p9_meanParts s (y1 + y2))) (r7 : Int32).toNatClampNeg (((x9_partsThen (p9_meanParts s (y1 + y2))) (r7 : Int32).toNatClampNeg) + ((10 - (Int32.toInt64 x2)) * ((x9_parts (p9_meanParts s (y1 + y2))) (x4 : Int32).toNatClampNeg))))) (fun H L hP hD hS => ?_)
        refine g_aload_n C 122 rfl dX9_riskHour_121 0 rfl ?_
        refine g_get (v := .ref (a 21)) (fs := fl9 a (p9_partsThen (p9_meanParts s (y1 + y2)) (vp_updL (x9_partsThen (p9_meanParts s (y1 + y2))) (r7 : Int32).toNatClampNeg (((x9_partsThen (p9_meanParts s (y1 + y2))) (r7 : Int32).toNatClampNeg) + ((10 - (Int32.toInt64 x2)) * ((x9_parts (p9_meanParts s (y1 + y2))) (x4 : Int32).toNatClampNeg)))))) C 125 rfl dX9_riskHour_122 hK hP la_X9 0 35 (Nat.le_of_ble_eq_true rfl) fl_X9_71 rfl rfl rfl rfl ?_
        refine g_iload C 127 rfl dX9_riskHour_125 5 rfl ?_
        refine s_if_eq C 134 130 rfl dX9_riskHour_127 (by decide) hq (fun hq => ?_) (fun hq => ?_)
        rotate_left
        · refine g_iconst 0 C 131 rfl dX9_riskHour_130 ki_0 ?_
          refine g_goto C 141 dX9_riskHour_131 (by decide) ?_
          exact g_sub [0, 1, 2, 3, 4, 5] rfl (K141 x4 x5 0 (p9_partsThen (p9_meanParts s (y1 + y2)) (vp_updL (x9_partsThen (p9_meanParts s (y1 + y2))) (r7 : Int32).toNatClampNeg (((x9_partsThen (p9_meanParts s (y1 + y2))) (r7 : Int32).toNatClampNeg) + ((10 - (Int32.toInt64 x2)) * ((x9_parts (p9_meanParts s (y1 + y2))) (x4 : Int32).toNatClampNeg))))) _ _ hP hD hS hq)
        refine g_iload C 136 rfl dX9_riskHour_134 4 rfl ?_
        refine g_iload_n C 137 rfl dX9_riskHour_136 1 rfl ?_
        refine g_iadd C 138 rfl dX9_riskHour_137 ?_
        obtain ⟨r11, hz12, hq⟩ := bindE hq
        refine g_callRS (rest := [.ref (a 21)]) C 141 rfl dX9_riskHour_138 (c_X9_behindHour Γ.2.1 Δ  (x4 + x1)  hz12) mv_X9_behindHour (Or.inl ml_X9_297) hK rfl rfl ⟨Nat.le_of_ble_eq_true rfl, Nat.le_of_ble_eq_true rfl⟩ (Nat.le_of_ble_eq_true rfl) ⟨Nat.zero_le _, Nat.zero_le _⟩ ?_
        exact g_sub [0, 1, 2, 3, 4, 5] rfl (K141 x4 x5 r11 (p9_partsThen (p9_meanParts s (y1 + y2)) (vp_updL (x9_partsThen (p9_meanParts s (y1 + y2))) (r7 : Int32).toNatClampNeg (((x9_partsThen (p9_meanParts s (y1 + y2))) (r7 : Int32).toNatClampNeg) + ((10 - (Int32.toInt64 x2)) * ((x9_parts (p9_meanParts s (y1 + y2))) (x4 : Int32).toNatClampNeg))))) _ _ hP hD hS hq)
      have K64 : ∀ (x4 : Int32) (y0 : Int32) (s : S9) (H : Heap) (L : List Loc) (hP : va_P Δ.1 classes (cs9 a Δ s) H) (hD : va_D A (cs9 a Δ s)) (hS : va_S A (sOf Γ).heap H L), jn_X9_riskHour_64 (lp_X9_riskHour_39 x1 x2 x3 n) x1 x2 x3 x4 y0 s = some o → g Γ { frames := 1, cells := 0, slots := 0, locals := 20 } 6 H L 0 0 64 [(0, .ref (a 0)), (1, .int x1), (2, .int x2), (3, .int x3), (4, .int x4)] [.int y0] := by
        intro x4 y0 s H L hP hD hS hq
        refine g_istore [(5, .int y0), (0, .ref (a 0)), (1, .int x1), (2, .int x2), (3, .int x3), (4, .int x4)] C 66 rfl dX9_riskHour_64 (Nat.le_of_ble_eq_true rfl) rfl ?_
        refine g_aload_n C 67 rfl dX9_riskHour_66 1 rfl ?_
        refine g_dup C 68 rfl dX9_riskHour_67 rfl ?_
        refine g_get (v := .long (x9_meanParts s)) (fs := fl9 a s) C 71 rfl dX9_riskHour_68 hK hP la_X9 0 36 (Nat.le_of_ble_eq_true rfl) fl_X9_291 rfl rfl rfl rfl ?_
        refine g_iload C 73 rfl dX9_riskHour_71 0 rfl ?_
        refine s_if_eq C 89 76 rfl dX9_riskHour_73 (by decide) hq (fun hq => ?_) (fun hq => ?_)
        · refine g_lconst 0 C 90 rfl dX9_riskHour_89 kl_0 ?_
          exact g_sub [1, 2, 3, 4, 5, 0] rfl (K90 x4 y0 (x9_meanParts s) 0 s _ _ hP hD hS hq)
        refine g_iload_n C 77 rfl dX9_riskHour_76 3 rfl ?_
        refine g_i2l C 78 rfl dX9_riskHour_77 ?_
        refine g_aload_n C 79 rfl dX9_riskHour_78 1 rfl ?_
        refine g_get (v := .ref (a 20)) (fs := fl9 a s) C 82 rfl dX9_riskHour_79 hK hP la_X9 0 34 (Nat.le_of_ble_eq_true rfl) fl_X9_67 rfl rfl rfl rfl ?_
        refine g_iload C 84 rfl dX9_riskHour_82 5 rfl ?_
        refine s_lald C 85 rfl dX9_riskHour_84 hK hP 20 rfl hq (fun hq hi13 => ?_)
        refine g_lmul C 86 rfl dX9_riskHour_85 ?_
        refine g_goto C 90 dX9_riskHour_86 (by decide) ?_
        exact g_sub [1, 2, 3, 4, 5, 0] rfl (K90 x4 y0 (x9_meanParts s) ((Int32.toInt64 x2) * ((x9_parts s) (x4 : Int32).toNatClampNeg)) s _ _ hP hD hS hq)
      refine g_iload C 41 rfl dX9_riskHour_39 4 rfl ?_
      refine g_aload_n C 42 rfl dX9_riskHour_41 0 rfl ?_
      refine g_get (v := .int (x9_limit s)) (fs := fl9 a s) C 45 rfl dX9_riskHour_42 hK hP la_X9 0 1 (Nat.le_of_ble_eq_true rfl) fl_X9_81 rfl rfl rfl rfl ?_
      refine s_icmp_gt C 174 48 rfl dX9_riskHour_45 (by decide) hq (fun hq => ?_) (fun hq => ?_)
      · cases hq
        exact g_sub [0] rfl (E2 _ _ hP hD hS)
      refine g_iload C 50 rfl dX9_riskHour_48 4 rfl ?_
      refine g_iload_n C 51 rfl dX9_riskHour_50 1 rfl ?_
      refine g_iadd C 52 rfl dX9_riskHour_51 ?_
      refine g_aload_n C 53 rfl dX9_riskHour_52 0 rfl ?_
      refine g_get (v := .int (x9_limit s)) (fs := fl9 a s) C 56 rfl dX9_riskHour_53 hK hP la_X9 0 1 (Nat.le_of_ble_eq_true rfl) fl_X9_81 rfl rfl rfl rfl ?_
      refine s_icmp_le C 63 59 rfl dX9_riskHour_56 (by decide) hq (fun hq => ?_) (fun hq => ?_)
      · refine g_iconst 0 C 64 rfl dX9_riskHour_63 ki_0 ?_
        exact g_sub [0, 1, 2, 3, 4] rfl (K64 x4 0 s _ _ hP hD hS hq)
      refine g_iconst 1 C 60 rfl dX9_riskHour_59 ki_1 ?_
      refine g_goto C 64 dX9_riskHour_60 (by decide) ?_
      exact g_sub [0, 1, 2, 3, 4] rfl (K64 x4 1 s _ _ hP hD hS hq)
  obtain ⟨o14, ho15, hq⟩ := bindE hq
  refine g_sub [1, 2, 3, 4, 0] rfl (Q39 x1 x2 x3 FUEL 0 (p9_meanParts o2 ((x9_meanParts o2) * 10)) o14 _ _ hP hD hS ho15 (fun H L hP hD hS => ?_))
  refine g_iconst 0 C 175 rfl dX9_riskHour_174 ki_0 ?_
  refine g_istore [(4, .int 0), (0, .ref (a 0))] C 177 rfl dX9_riskHour_175 (Nat.le_of_ble_eq_true rfl) rfl ?_
  have Q177 : ∀ (n : Nat) (x4 : Int32) (s : S9) (o : (S9)) (H : Heap) (L : List Loc) (hP : va_P Δ.1 classes (cs9 a Δ s) H) (hD : va_D A (cs9 a Δ s)) (hS : va_S A (sOf Γ).heap H L) (hq : lp_X9_riskHour_177  n x4 s = some o) (E2 : ∀ (H : Heap) (L : List Loc), va_P Δ.1 classes (cs9 a Δ o) H → va_D A (cs9 a Δ o) → va_S A (sOf Γ).heap H L → g Γ { frames := 1, cells := 0, slots := 0, locals := 20 } 6 H L 0 0 204 [] []), g Γ { frames := 1, cells := 0, slots := 0, locals := 20 } 6 H L 0 0 177 [(0, .ref (a 0)), (4, .int x4)] [] := by
    intro n
    induction n with
    | zero => intro x4 s o H L hP hD hS hq; exact nomatch (show (none : Option (S9)) = some o from hq)
    | succ n ih =>
      intro x4 s o H L hP hD hS hq E2
      have hq : bd_X9_riskHour_177  (lp_X9_riskHour_177  n) x4 s = some o := hq
      refine g_iload C 179 rfl dX9_riskHour_177 1 rfl ?_
      refine g_bipush 21 C 181 rfl dX9_riskHour_179 kb_21 ?_
      refine s_icmp_ge C 204 184 rfl dX9_riskHour_181 (by decide) hq (fun hq => ?_) (fun hq => ?_)
      · cases hq
        exact g_sub [] rfl (E2 _ _ hP hD hS)
      refine g_aload_n C 185 rfl dX9_riskHour_184 0 rfl ?_
      refine g_get (v := .ref (a 20)) (fs := fl9 a s) C 188 rfl dX9_riskHour_185 hK hP la_X9 0 34 (Nat.le_of_ble_eq_true rfl) fl_X9_67 rfl rfl rfl rfl ?_
      refine g_iload C 190 rfl dX9_riskHour_188 1 rfl ?_
      refine g_aload_n C 191 rfl dX9_riskHour_190 0 rfl ?_
      refine g_get (v := .ref (a 21)) (fs := fl9 a s) C 194 rfl dX9_riskHour_191 hK hP la_X9 0 35 (Nat.le_of_ble_eq_true rfl) fl_X9_71 rfl rfl rfl rfl ?_
      refine g_iload C 196 rfl dX9_riskHour_194 1 rfl ?_
      refine s_lald C 197 rfl dX9_riskHour_196 hK hP 21 rfl hq (fun hq hi16 => ?_)
      refine s_last (cs9 a Δ (p9_parts s (vp_updL (x9_parts s) (x4 : Int32).toNatClampNeg ((x9_partsThen s) (x4 : Int32).toNatClampNeg)))) C 198 rfl dX9_riskHour_197 hK hP hD hS 20 rfl hq (sst_119 a Δ s (vp_updL (x9_parts s) (x4 : Int32).toNatClampNeg ((x9_partsThen s) (x4 : Int32).toNatClampNeg))) (fun hq hi17 H L hP hD hS => ?_)
      refine g_iinc (x4 + 1) [(4, .int (x4 + 1)), (0, .ref (a 0))] C 201 rfl dX9_riskHour_198 1 rfl (ii_1 _) (Nat.le_of_ble_eq_true rfl) rfl ?_
      refine g_goto C 177 dX9_riskHour_201 (by decide) ?_
      exact g_sub [1, 0] rfl (ih (x4 + 1) (p9_parts s (vp_updL (x9_parts s) (x4 : Int32).toNatClampNeg ((x9_partsThen s) (x4 : Int32).toNatClampNeg))) _ _ _ hP hD hS hq E2)
  obtain ⟨o18, ho19, hq⟩ := bindE hq
  refine g_sub [1, 0] rfl (Q177  FUEL 0 o14 o18 _ _ hP hD hS ho19 (fun H L hP hD hS => ?_))
  exact w_void (ws := fun s => cs9 a Δ s) hR hq hP hS dX9_riskHour_204 rfl
set_option maxHeartbeats 400000 in
set_option maxRecDepth 100000 in
theorem c_X9_risk (l : Launch) (Δ : gD) (a : Nat → Nat) (x1 : Int32) (x2 : Int32) (x3 : Int32) (x4 : Int32) (x5 : Int32) (x6 : Int32) (s : S9) {res : Int64 × S9} (hq : sem_X9_risk x1 x2 x3 x4 x5 x6 s = some res) : MW l yX9_risk cX9_risk 13 (some .long) Δ (cs9 a Δ s) [.ref (a 0), .int x1, .int x2, .int x3, .int x4, .int x5, .int x6] 2 45 (some (.long res.1)) (cs9 a Δ res.2) := by
  refine MW.of (by decide) (Nat.le_of_ble_eq_true rfl) ?_
  intro Γ A H hl C hK hP hD hS hA hR
  subst hl
  have K56 : ∀ (x1 : Int32) (x2 : Int32) (x3 : Int32) (x4 : Int32) (x5 : Int32) (x6 : Int32) (y0 : Int32) (s : S9) (H : Heap) (L : List Loc) (hP : va_P Δ.1 classes (cs9 a Δ s) H) (hD : va_D A (cs9 a Δ s)) (hS : va_S A (sOf Γ).heap H L), jn_X9_risk_56 x1 x2 x3 x4 x5 x6 y0 s = some res → g Γ { frames := 2, cells := 0, slots := 0, locals := 45 } 13 H L 0 0 56 [(0, .ref (a 0)), (1, .int x1), (2, .int x2), (3, .int x3), (4, .int x4), (5, .int x5), (6, .int x6)] [.int y0] := by
    intro x1 x2 x3 x4 x5 x6 y0 s H L hP hD hS hq
    refine g_istore [(7, .int y0), (0, .ref (a 0)), (1, .int x1), (2, .int x2), (3, .int x3), (4, .int x4), (5, .int x5), (6, .int x6)] C 58 rfl dX9_risk_56 (Nat.le_of_ble_eq_true rfl) rfl ?_
    refine g_iload C 60 rfl dX9_risk_58 0 rfl ?_
    refine s_if_eq C 85 63 rfl dX9_risk_60 (by decide) hq (fun hq => ?_) (fun hq => ?_)
    · refine g_ldc2 (-1000000000000000002) C 88 rfl dX9_risk_85 k_X9_302 ?_
      exact w_long (ws := fun s => cs9 a Δ s) hR hq hP hS dX9_risk_88 rfl
    refine g_iload C 65 rfl dX9_risk_63 6 rfl ?_
    refine g_i2l C 66 rfl dX9_risk_65 ?_
    refine g_lconst 0 C 67 rfl dX9_risk_66 kl_0 ?_
    refine g_lconst 1 C 68 rfl dX9_risk_67 kl_1 ?_
    obtain ⟨r1, hz2, hq⟩ := bindE hq
    refine g_callRS (rest := []) C 71 rfl dX9_risk_68 (c_X9_in Γ.2.1 Δ  (Int32.toInt64 x5) 0 1  hz2) mv_X9_in (Or.inl ml_X9_90) hK rfl rfl ⟨Nat.le_of_ble_eq_true rfl, Nat.le_of_ble_eq_true rfl⟩ (Nat.le_of_ble_eq_true rfl) ⟨Nat.zero_le _, Nat.zero_le _⟩ ?_
    refine s_if_eq C 85 74 rfl dX9_risk_71 (by decide) hq (fun hq => ?_) (fun hq => ?_)
    · refine g_ldc2 (-1000000000000000002) C 88 rfl dX9_risk_85 k_X9_302 ?_
      exact w_long (ws := fun s => cs9 a Δ s) hR hq hP hS dX9_risk_88 rfl
    refine g_iload C 76 rfl dX9_risk_74 7 rfl ?_
    refine g_i2l C 77 rfl dX9_risk_76 ?_
    refine g_lconst 0 C 78 rfl dX9_risk_77 kl_0 ?_
    refine g_lconst 1 C 79 rfl dX9_risk_78 kl_1 ?_
    obtain ⟨r3, hz4, hq⟩ := bindE hq
    refine g_callRS (rest := []) C 82 rfl dX9_risk_79 (c_X9_in Γ.2.1 Δ  (Int32.toInt64 x6) 0 1  hz4) mv_X9_in (Or.inl ml_X9_90) hK rfl rfl ⟨Nat.le_of_ble_eq_true rfl, Nat.le_of_ble_eq_true rfl⟩ (Nat.le_of_ble_eq_true rfl) ⟨Nat.zero_le _, Nat.zero_le _⟩ ?_
    refine s_if_ne C 89 85 rfl dX9_risk_82 (by decide) hq (fun hq => ?_) (fun hq => ?_)
    rotate_left
    · refine g_ldc2 (-1000000000000000002) C 88 rfl dX9_risk_85 k_X9_302 ?_
      exact w_long (ws := fun s => cs9 a Δ s) hR hq hP hS dX9_risk_88 rfl
    refine g_iconst 0 C 90 rfl dX9_risk_89 ki_0 ?_
    refine g_istore [(8, .int 0), (7, .int y0), (0, .ref (a 0)), (1, .int x1), (2, .int x2), (3, .int x3), (4, .int x4), (5, .int x5), (6, .int x6)] C 92 rfl dX9_risk_90 (Nat.le_of_ble_eq_true rfl) rfl ?_
    have Q92 : ∀ (x1 : Int32) (x2 : Int32) (x3 : Int32) (x4 : Int32) (x5 : Int32) (x6 : Int32), ∀ (n : Nat) (x8 : Int32) (s : S9) (o : (S9)) (H : Heap) (L : List Loc) (hP : va_P Δ.1 classes (cs9 a Δ s) H) (hD : va_D A (cs9 a Δ s)) (hS : va_S A (sOf Γ).heap H L) (hq : lp_X9_risk_92 x1 x2 x3 x4 x5 x6 n x8 s = some o) (E2 : ∀ (H : Heap) (L : List Loc), va_P Δ.1 classes (cs9 a Δ o) H → va_D A (cs9 a Δ o) → va_S A (sOf Γ).heap H L → g Γ { frames := 2, cells := 0, slots := 0, locals := 45 } 13 H L 0 0 123 [(0, .ref (a 0)), (2, .int x2), (3, .int x3), (4, .int x4), (5, .int x5), (6, .int x6)] []), g Γ { frames := 2, cells := 0, slots := 0, locals := 45 } 13 H L 0 0 92 [(0, .ref (a 0)), (1, .int x1), (2, .int x2), (3, .int x3), (4, .int x4), (5, .int x5), (6, .int x6), (8, .int x8)] [] := by
      intro x1 x2 x3 x4 x5 x6
      intro n
      induction n with
      | zero => intro x8 s o H L hP hD hS hq; exact nomatch (show (none : Option (S9)) = some o from hq)
      | succ n ih =>
        intro x8 s o H L hP hD hS hq E2
        have hq : bd_X9_risk_92 x1 x2 x3 x4 x5 x6 (lp_X9_risk_92 x1 x2 x3 x4 x5 x6 n) x8 s = some o := hq
        refine g_iload C 94 rfl dX9_risk_92 7 rfl ?_
        refine g_bipush 21 C 96 rfl dX9_risk_94 kb_21 ?_
        refine s_icmp_ge C 123 99 rfl dX9_risk_96 (by decide) hq (fun hq => ?_) (fun hq => ?_)
        · cases hq
          exact g_sub [0, 2, 3, 4, 5, 6] rfl (E2 _ _ hP hD hS)
        refine g_aload_n C 100 rfl dX9_risk_99 0 rfl ?_
        refine g_get (v := .ref (a 20)) (fs := fl9 a s) C 103 rfl dX9_risk_100 hK hP la_X9 0 34 (Nat.le_of_ble_eq_true rfl) fl_X9_67 rfl rfl rfl rfl ?_
        refine g_iload C 105 rfl dX9_risk_103 7 rfl ?_
        refine g_iload C 107 rfl dX9_risk_105 7 rfl ?_
        refine g_iload_n C 108 rfl dX9_risk_107 1 rfl ?_
        refine s_icmp_ne C 115 111 rfl dX9_risk_108 (by decide) hq (fun hq => ?_) (fun hq => ?_)
        · refine g_lconst 0 C 116 rfl dX9_risk_115 kl_0 ?_
          refine s_last (cs9 a Δ (p9_parts s (vp_updL (x9_parts s) (x8 : Int32).toNatClampNeg 0))) C 117 rfl dX9_risk_116 hK hP hD hS 20 rfl hq (sst_119 a Δ s (vp_updL (x9_parts s) (x8 : Int32).toNatClampNeg 0)) (fun hq hi5 H L hP hD hS => ?_)
          refine g_iinc (x8 + 1) [(8, .int (x8 + 1)), (0, .ref (a 0)), (1, .int x1), (2, .int x2), (3, .int x3), (4, .int x4), (5, .int x5), (6, .int x6)] C 120 rfl dX9_risk_117 7 rfl (ii_1 _) (Nat.le_of_ble_eq_true rfl) rfl ?_
          refine g_goto C 92 dX9_risk_120 (by decide) ?_
          exact g_sub [1, 2, 3, 4, 5, 6, 7, 0] rfl (ih (x8 + 1) (p9_parts s (vp_updL (x9_parts s) (x8 : Int32).toNatClampNeg 0)) _ _ _ hP hD hS hq E2)
        refine g_lconst 1 C 112 rfl dX9_risk_111 kl_1 ?_
        refine g_goto C 116 dX9_risk_112 (by decide) ?_
        refine s_last (cs9 a Δ (p9_parts s (vp_updL (x9_parts s) (x8 : Int32).toNatClampNeg 1))) C 117 rfl dX9_risk_116 hK hP hD hS 20 rfl hq (sst_119 a Δ s (vp_updL (x9_parts s) (x8 : Int32).toNatClampNeg 1)) (fun hq hi6 H L hP hD hS => ?_)
        refine g_iinc (x8 + 1) [(8, .int (x8 + 1)), (0, .ref (a 0)), (1, .int x1), (2, .int x2), (3, .int x3), (4, .int x4), (5, .int x5), (6, .int x6)] C 120 rfl dX9_risk_117 7 rfl (ii_1 _) (Nat.le_of_ble_eq_true rfl) rfl ?_
        refine g_goto C 92 dX9_risk_120 (by decide) ?_
        exact g_sub [1, 2, 3, 4, 5, 6, 7, 0] rfl (ih (x8 + 1) (p9_parts s (vp_updL (x9_parts s) (x8 : Int32).toNatClampNeg 1)) _ _ _ hP hD hS hq E2)
    obtain ⟨o7, ho8, hq⟩ := bindE hq
    refine g_sub [2, 3, 4, 5, 6, 7, 8, 0] rfl (Q92 x1 x2 x3 x4 x5 x6 FUEL 0 s o7 _ _ hP hD hS ho8 (fun H L hP hD hS => ?_))
    refine g_aload_n C 124 rfl dX9_risk_123 0 rfl ?_
    refine g_lconst 0 C 125 rfl dX9_risk_124 kl_0 ?_
    refine g_put (fs := fl9 a o7) (cs9 a Δ (p9_meanParts o7 0)) C 128 rfl dX9_risk_125 hK hP hD hS la_X9 tyX9_ok nmX9 0 36 (Nat.le_of_ble_eq_true rfl) fl_X9_291 rfl rfl rfl rfl rfl rfl (Nat.le_of_ble_eq_true rfl) (sst_118 a Δ o7 0) (fun H L hP hD hS => ?_)
    refine g_lconst 1 C 129 rfl dX9_risk_128 kl_1 ?_
    refine g_lstore [(8, .long 1), (0, .ref (a 0)), (2, .int x2), (3, .int x3), (4, .int x4), (5, .int x5), (6, .int x6)] C 131 rfl dX9_risk_129 (Nat.le_of_ble_eq_true rfl) rfl ?_
    refine g_iconst 0 C 132 rfl dX9_risk_131 ki_0 ?_
    refine g_istore [(10, .int 0), (8, .long 1), (0, .ref (a 0)), (2, .int x2), (3, .int x3), (4, .int x4), (5, .int x5), (6, .int x6)] C 134 rfl dX9_risk_132 (Nat.le_of_ble_eq_true rfl) rfl ?_
    have Q134 : ∀ (x2 : Int32) (x3 : Int32) (x4 : Int32) (x5 : Int32) (x6 : Int32), ∀ (n : Nat) (x8 : Int64) (x10 : Int32) (s : S9) (o : (Int64 × S9)) (H : Heap) (L : List Loc) (hP : va_P Δ.1 classes (cs9 a Δ s) H) (hD : va_D A (cs9 a Δ s)) (hS : va_S A (sOf Γ).heap H L) (hq : lp_X9_risk_134 x2 x3 x4 x5 x6 n x8 x10 s = some o) (E2 : ∀ (H : Heap) (L : List Loc), va_P Δ.1 classes (cs9 a Δ o.2) H → va_D A (cs9 a Δ o.2) → va_S A (sOf Γ).heap H L → g Γ { frames := 2, cells := 0, slots := 0, locals := 45 } 13 H L 0 0 172 [(0, .ref (a 0)), (5, .int x5), (6, .int x6), (8, .long o.1)] []), g Γ { frames := 2, cells := 0, slots := 0, locals := 45 } 13 H L 0 0 134 [(0, .ref (a 0)), (2, .int x2), (3, .int x3), (4, .int x4), (5, .int x5), (6, .int x6), (8, .long x8), (10, .int x10)] [] := by
      intro x2 x3 x4 x5 x6
      intro n
      induction n with
      | zero => intro x8 x10 s o H L hP hD hS hq; exact nomatch (show (none : Option (Int64 × S9)) = some o from hq)
      | succ n ih =>
        intro x8 x10 s o H L hP hD hS hq E2
        have hq : bd_X9_risk_134 x2 x3 x4 x5 x6 (lp_X9_risk_134 x2 x3 x4 x5 x6 n) x8 x10 s = some o := hq
        have K155 : ∀ (x8 : Int64) (x10 : Int32) (y1 : Int32) (y2 : Int32) (y3 : Int32) (s : S9) (H : Heap) (L : List Loc) (hP : va_P Δ.1 classes (cs9 a Δ s) H) (hD : va_D A (cs9 a Δ s)) (hS : va_S A (sOf Γ).heap H L), jn_X9_risk_155 (lp_X9_risk_134 x2 x3 x4 x5 x6 n) x2 x3 x4 x5 x6 x8 x10 y1 y2 y3 s = some o → g Γ { frames := 2, cells := 0, slots := 0, locals := 45 } 13 H L 0 0 155 [(0, .ref (a 0)), (2, .int x2), (3, .int x3), (4, .int x4), (5, .int x5), (6, .int x6), (8, .long x8), (10, .int x10)] [.int y3, .int y2, .int y1, .ref (a 0)] := by
          intro x8 x10 y1 y2 y3 s H L hP hD hS hq
          obtain ⟨r9, hz10, hq⟩ := bindE hq
          refine g_callWV (rest := []) (cs9 a Δ r9) C 158 rfl dX9_risk_155 (c_X9_riskHour Γ.2.1 Δ a y1 y2 y3 s hz10) mv_X9_riskHour ml_X9_304 hK hP hD hS hA (scl_101 a Δ s r9) rfl rfl rfl rfl rfl ⟨Nat.le_of_ble_eq_true rfl, Nat.le_of_ble_eq_true rfl⟩ (Nat.le_of_ble_eq_true rfl) ⟨Nat.zero_le _, Nat.zero_le _⟩ (fun H L hP hD hS => ?_)
          refine g_lload C 160 rfl dX9_risk_158 6 rfl ?_
          refine g_ldc2 10 C 163 rfl dX9_risk_160 k_X9_295 ?_
          refine g_lmul C 164 rfl dX9_risk_163 ?_
          refine g_lstore [(8, .long (x8 * 10)), (0, .ref (a 0)), (2, .int x2), (3, .int x3), (4, .int x4), (5, .int x5), (6, .int x6), (10, .int x10)] C 166 rfl dX9_risk_164 (Nat.le_of_ble_eq_true rfl) rfl ?_
          refine g_iinc (x10 + 1) [(10, .int (x10 + 1)), (8, .long (x8 * 10)), (0, .ref (a 0)), (2, .int x2), (3, .int x3), (4, .int x4), (5, .int x5), (6, .int x6)] C 169 rfl dX9_risk_166 7 rfl (ii_1 _) (Nat.le_of_ble_eq_true rfl) rfl ?_
          refine g_goto C 134 dX9_risk_169 (by decide) ?_
          exact g_sub [2, 3, 4, 5, 6, 7, 1, 0] rfl (ih (x8 * 10) (x10 + 1) r9 _ _ _ hP hD hS hq E2)
        refine g_iload C 136 rfl dX9_risk_134 7 rfl ?_
        refine g_iload_n C 137 rfl dX9_risk_136 1 rfl ?_
        refine s_icmp_ge C 172 140 rfl dX9_risk_137 (by decide) hq (fun hq => ?_) (fun hq => ?_)
        · cases hq
          exact g_sub [0, 4, 5, 6] rfl (E2 _ _ hP hD hS)
        refine g_aload_n C 141 rfl dX9_risk_140 0 rfl ?_
        refine g_iload_n C 142 rfl dX9_risk_141 2 rfl ?_
        refine g_iload C 144 rfl dX9_risk_142 3 rfl ?_
        refine g_iload C 146 rfl dX9_risk_144 4 rfl ?_
        refine g_iconst 1 C 147 rfl dX9_risk_146 ki_1 ?_
        refine s_icmp_ne C 154 150 rfl dX9_risk_147 (by decide) hq (fun hq => ?_) (fun hq => ?_)
        · refine g_iconst 0 C 155 rfl dX9_risk_154 ki_0 ?_
          exact g_sub [0, 1, 2, 3, 4, 5, 6, 7] rfl (K155 x8 x10 x3 x4 0 s _ _ hP hD hS hq)
        refine g_iconst 1 C 151 rfl dX9_risk_150 ki_1 ?_
        refine g_goto C 155 dX9_risk_151 (by decide) ?_
        exact g_sub [0, 1, 2, 3, 4, 5, 6, 7] rfl (K155 x8 x10 x3 x4 1 s _ _ hP hD hS hq)
    obtain ⟨o11, ho12, hq⟩ := bindE hq
    refine g_sub [2, 3, 4, 5, 6, 7, 1, 0] rfl (Q134 x2 x3 x4 x5 x6 FUEL 1 0 (p9_meanParts o7 0) o11 _ _ hP hD hS ho12 (fun H L hP hD hS => ?_))
    refine g_lconst 0 C 173 rfl dX9_risk_172 kl_0 ?_
    refine g_lstore [(10, .long 0), (0, .ref (a 0)), (5, .int x5), (6, .int x6), (8, .long o11.1)] C 175 rfl dX9_risk_173 (Nat.le_of_ble_eq_true rfl) rfl ?_
    refine g_iconst 0 C 176 rfl dX9_risk_175 ki_0 ?_
    refine g_istore [(12, .int 0), (10, .long 0), (0, .ref (a 0)), (5, .int x5), (6, .int x6), (8, .long o11.1)] C 178 rfl dX9_risk_176 (Nat.le_of_ble_eq_true rfl) rfl ?_
    have Q178 : ∀ (s : S9) (H : Heap) (L : List Loc) (hP : va_P Δ.1 classes (cs9 a Δ s) H) (hD : va_D A (cs9 a Δ s)) (hS : va_S A (sOf Γ).heap H L) (x5 : Int32) (x6 : Int32) (x8 : Int64), ∀ (n : Nat) (x10 : Int64) (x12 : Int32) (o : (Int64)) (hq : lp_X9_risk_178 x5 x6 x8 s n x10 x12 = some o) (E2 : g Γ { frames := 2, cells := 0, slots := 0, locals := 45 } 13 H L 0 0 203 [(0, .ref (a 0)), (5, .int x5), (6, .int x6), (8, .long x8), (10, .long o)] []), g Γ { frames := 2, cells := 0, slots := 0, locals := 45 } 13 H L 0 0 178 [(0, .ref (a 0)), (5, .int x5), (6, .int x6), (8, .long x8), (10, .long x10), (12, .int x12)] [] := by
      intro s H L hP hD hS
      intro x5 x6 x8
      intro n
      induction n with
      | zero => intro x10 x12 o hq; exact nomatch (show (none : Option (Int64)) = some o from hq)
      | succ n ih =>
        intro x10 x12 o hq E2
        have hq : bd_X9_risk_178 x5 x6 x8 s (lp_X9_risk_178 x5 x6 x8 s n) x10 x12 = some o := hq
        refine g_iload C 180 rfl dX9_risk_178 5 rfl ?_
        refine g_bipush 21 C 182 rfl dX9_risk_180 kb_21 ?_
        refine s_icmp_ge C 203 185 rfl dX9_risk_182 (by decide) hq (fun hq => ?_) (fun hq => ?_)
        · cases hq
          exact g_sub [0, 1, 2, 3, 4] rfl (E2 )
        refine g_lload C 187 rfl dX9_risk_185 4 rfl ?_
        refine g_aload_n C 188 rfl dX9_risk_187 0 rfl ?_
        refine g_get (v := .ref (a 20)) (fs := fl9 a s) C 191 rfl dX9_risk_188 hK hP la_X9 0 34 (Nat.le_of_ble_eq_true rfl) fl_X9_67 rfl rfl rfl rfl ?_
        refine g_iload C 193 rfl dX9_risk_191 5 rfl ?_
        refine s_lald C 194 rfl dX9_risk_193 hK hP 20 rfl hq (fun hq hi13 => ?_)
        refine g_ladd C 195 rfl dX9_risk_194 ?_
        refine g_lstore [(10, .long (x10 + ((x9_parts s) (x12 : Int32).toNatClampNeg))), (0, .ref (a 0)), (5, .int x5), (6, .int x6), (8, .long x8), (12, .int x12)] C 197 rfl dX9_risk_195 (Nat.le_of_ble_eq_true rfl) rfl ?_
        refine g_iinc (x12 + 1) [(12, .int (x12 + 1)), (10, .long (x10 + ((x9_parts s) (x12 : Int32).toNatClampNeg))), (0, .ref (a 0)), (5, .int x5), (6, .int x6), (8, .long x8)] C 200 rfl dX9_risk_197 5 rfl (ii_1 _) (Nat.le_of_ble_eq_true rfl) rfl ?_
        refine g_goto C 178 dX9_risk_200 (by decide) ?_
        exact g_sub [2, 3, 4, 5, 1, 0] rfl (ih (x10 + ((x9_parts s) (x12 : Int32).toNatClampNeg)) (x12 + 1) _ hq E2)
    obtain ⟨o14, ho15, hq⟩ := bindE hq
    refine g_sub [2, 3, 4, 5, 1, 0] rfl (Q178 o11.2 _ _ hP hD hS x5 x6 o11.1 FUEL 0 0 o14 ho15 (?_))
    refine g_iload C 205 rfl dX9_risk_203 1 rfl ?_
    refine s_if_ne C 213 208 rfl dX9_risk_205 (by decide) hq (fun hq => ?_) (fun hq => ?_)
    · refine g_aload_n C 214 rfl dX9_risk_213 0 rfl ?_
      refine g_get (v := .long (x9_meanParts o11.2)) (fs := fl9 a o11.2) C 217 rfl dX9_risk_214 hK hP la_X9 0 36 (Nat.le_of_ble_eq_true rfl) fl_X9_291 rfl rfl rfl rfl ?_
      refine g_lload C 219 rfl dX9_risk_217 3 rfl ?_
      refine g_iload C 221 rfl dX9_risk_219 2 rfl ?_
      obtain ⟨r16, hz17, hq⟩ := bindE hq
      refine g_callRS (rest := []) C 224 rfl dX9_risk_221 (c_X9_lowest Γ.2.1 Δ  (x9_meanParts o11.2) o11.1 x6  hz17) mv_X9_lowest (Or.inl ml_X9_308) hK rfl rfl ⟨Nat.le_of_ble_eq_true rfl, Nat.le_of_ble_eq_true rfl⟩ (Nat.le_of_ble_eq_true rfl) ⟨Nat.zero_le _, Nat.zero_le _⟩ ?_
      exact w_long (ws := fun s => cs9 a Δ s) hR hq hP hS dX9_risk_224 rfl
    refine g_lload C 210 rfl dX9_risk_208 4 rfl ?_
    refine g_goto C 217 dX9_risk_210 (by decide) ?_
    refine g_lload C 219 rfl dX9_risk_217 3 rfl ?_
    refine g_iload C 221 rfl dX9_risk_219 2 rfl ?_
    obtain ⟨r18, hz19, hq⟩ := bindE hq
    refine g_callRS (rest := []) C 224 rfl dX9_risk_221 (c_X9_lowest Γ.2.1 Δ  o14 o11.1 x6  hz19) mv_X9_lowest (Or.inl ml_X9_308) hK rfl rfl ⟨Nat.le_of_ble_eq_true rfl, Nat.le_of_ble_eq_true rfl⟩ (Nat.le_of_ble_eq_true rfl) ⟨Nat.zero_le _, Nat.zero_le _⟩ ?_
    exact w_long (ws := fun s => cs9 a Δ s) hR hq hP hS dX9_risk_224 rfl
  have K55 : ∀ (x1 : Int32) (x2 : Int32) (x3 : Int32) (x4 : Int32) (x5 : Int32) (x6 : Int32) (s : S9) (H : Heap) (L : List Loc) (hP : va_P Δ.1 classes (cs9 a Δ s) H) (hD : va_D A (cs9 a Δ s)) (hS : va_S A (sOf Γ).heap H L), jn_X9_risk_55 x1 x2 x3 x4 x5 x6 s = some res → g Γ { frames := 2, cells := 0, slots := 0, locals := 45 } 13 H L 0 0 55 [(0, .ref (a 0)), (1, .int x1), (2, .int x2), (3, .int x3), (4, .int x4), (5, .int x5), (6, .int x6)] [] := by
    intro x1 x2 x3 x4 x5 x6 s H L hP hD hS hq
    refine g_iconst 0 C 56 rfl dX9_risk_55 ki_0 ?_
    exact g_sub [0, 1, 2, 3, 4, 5, 6] rfl (K56 x1 x2 x3 x4 x5 x6 0 s _ _ hP hD hS hq)
  show g Γ { frames := 2, cells := 0, slots := 0, locals := 45 } 13 H [] 0 0 0 [(0, .ref (a 0)), (1, .int x1), (2, .int x2), (3, .int x3), (4, .int x4), (5, .int x5), (6, .int x6)] []
  refine g_iload_n C 1 rfl dX9_risk_0 1 rfl ?_
  refine g_i2l C 2 rfl dX9_risk_1 ?_
  refine g_lconst 0 C 3 rfl dX9_risk_2 kl_0 ?_
  refine g_aload_n C 4 rfl dX9_risk_3 0 rfl ?_
  refine g_get (v := .int (x9_limit s)) (fs := fl9 a s) C 7 rfl dX9_risk_4 hK hP la_X9 0 1 (Nat.le_of_ble_eq_true rfl) fl_X9_81 rfl rfl rfl rfl ?_
  refine g_i2l C 8 rfl dX9_risk_7 ?_
  obtain ⟨r20, hz21, hq⟩ := bindE hq
  refine g_callRS (rest := []) C 11 rfl dX9_risk_8 (c_X9_in Γ.2.1 Δ  (Int32.toInt64 x1) 0 (Int32.toInt64 (x9_limit s))  hz21) mv_X9_in (Or.inl ml_X9_90) hK rfl rfl ⟨Nat.le_of_ble_eq_true rfl, Nat.le_of_ble_eq_true rfl⟩ (Nat.le_of_ble_eq_true rfl) ⟨Nat.zero_le _, Nat.zero_le _⟩ ?_
  refine s_if_eq C 55 14 rfl dX9_risk_11 (by decide) hq (fun hq => ?_) (fun hq => ?_)
  · exact g_sub [0, 1, 2, 3, 4, 5, 6] rfl (K55 x1 x2 x3 x4 x5 x6 s _ _ hP hD hS hq)
  refine g_iload_n C 15 rfl dX9_risk_14 2 rfl ?_
  refine g_i2l C 16 rfl dX9_risk_15 ?_
  refine g_lconst 0 C 17 rfl dX9_risk_16 kl_0 ?_
  refine g_ldc2 8 C 20 rfl dX9_risk_17 k_X9_300 ?_
  obtain ⟨r22, hz23, hq⟩ := bindE hq
  refine g_callRS (rest := []) C 23 rfl dX9_risk_20 (c_X9_in Γ.2.1 Δ  (Int32.toInt64 x2) 0 8  hz23) mv_X9_in (Or.inl ml_X9_90) hK rfl rfl ⟨Nat.le_of_ble_eq_true rfl, Nat.le_of_ble_eq_true rfl⟩ (Nat.le_of_ble_eq_true rfl) ⟨Nat.zero_le _, Nat.zero_le _⟩ ?_
  refine s_if_eq C 55 26 rfl dX9_risk_23 (by decide) hq (fun hq => ?_) (fun hq => ?_)
  · exact g_sub [0, 1, 2, 3, 4, 5, 6] rfl (K55 x1 x2 x3 x4 x5 x6 s _ _ hP hD hS hq)
  refine g_iload_n C 27 rfl dX9_risk_26 3 rfl ?_
  refine g_i2l C 28 rfl dX9_risk_27 ?_
  refine g_lconst 1 C 29 rfl dX9_risk_28 kl_1 ?_
  refine g_ldc2 9 C 32 rfl dX9_risk_29 k_X9_101 ?_
  obtain ⟨r24, hz25, hq⟩ := bindE hq
  refine g_callRS (rest := []) C 35 rfl dX9_risk_32 (c_X9_in Γ.2.1 Δ  (Int32.toInt64 x3) 1 9  hz25) mv_X9_in (Or.inl ml_X9_90) hK rfl rfl ⟨Nat.le_of_ble_eq_true rfl, Nat.le_of_ble_eq_true rfl⟩ (Nat.le_of_ble_eq_true rfl) ⟨Nat.zero_le _, Nat.zero_le _⟩ ?_
  refine s_if_eq C 55 38 rfl dX9_risk_35 (by decide) hq (fun hq => ?_) (fun hq => ?_)
  · exact g_sub [0, 1, 2, 3, 4, 5, 6] rfl (K55 x1 x2 x3 x4 x5 x6 s _ _ hP hD hS hq)
  refine g_iload C 40 rfl dX9_risk_38 4 rfl ?_
  refine g_i2l C 41 rfl dX9_risk_40 ?_
  refine g_lconst 0 C 42 rfl dX9_risk_41 kl_0 ?_
  refine g_ldc2 10 C 45 rfl dX9_risk_42 k_X9_295 ?_
  obtain ⟨r26, hz27, hq⟩ := bindE hq
  refine g_callRS (rest := []) C 48 rfl dX9_risk_45 (c_X9_in Γ.2.1 Δ  (Int32.toInt64 x4) 0 10  hz27) mv_X9_in (Or.inl ml_X9_90) hK rfl rfl ⟨Nat.le_of_ble_eq_true rfl, Nat.le_of_ble_eq_true rfl⟩ (Nat.le_of_ble_eq_true rfl) ⟨Nat.zero_le _, Nat.zero_le _⟩ ?_
  refine s_if_eq C 55 51 rfl dX9_risk_48 (by decide) hq (fun hq => ?_) (fun hq => ?_)
  · exact g_sub [0, 1, 2, 3, 4, 5, 6] rfl (K55 x1 x2 x3 x4 x5 x6 s _ _ hP hD hS hq)
  refine g_iconst 1 C 52 rfl dX9_risk_51 ki_1 ?_
  refine g_goto C 56 dX9_risk_52 (by decide) ?_
  exact g_sub [0, 1, 2, 3, 4, 5, 6] rfl (K56 x1 x2 x3 x4 x5 x6 1 s _ _ hP hD hS hq)
set_option maxHeartbeats 400000 in
set_option maxRecDepth 100000 in
theorem c_X9_seen (l : Launch) (Δ : gD) (a : Nat → Nat) (x1 : Int32) (x2 : Int32) (s : S9) {res : Int32 × S9} (hq : sem_X9_seen x1 x2 s = some res) : MW l yX9_seen cX9_seen 3 (some .int) Δ (cs9 a Δ s) [.ref (a 0), .int x1, .int x2] 2 46 (some (.int res.1)) (cs9 a Δ res.2) := by
  refine MW.of (by decide) (Nat.le_of_ble_eq_true rfl) ?_
  intro Γ A H hl C hK hP hD hS hA hR
  subst hl
  have K49 : ∀ (y1 : Int32) (y2 : Int32) (s : S9) (H : Heap) (L : List Loc) (hP : va_P Δ.1 classes (cs9 a Δ s) H) (hD : va_D A (cs9 a Δ s)) (hS : va_S A (sOf Γ).heap H L), jn_X9_seen_49 y1 y2 s = some res → g Γ { frames := 2, cells := 0, slots := 0, locals := 46 } 3 H L 0 0 49 [(0, .ref (a 0))] [.int y2, .int y1, .ref (a 8)] := by
    intro y1 y2 s H L hP hD hS hq
    refine s_iast (cs9 a Δ (p9_sightHeard s (upd (x9_sightHeard s) (y1 : Int32).toNatClampNeg y2))) C 50 rfl dX9_seen_49 hK hP hD hS 8 rfl hq (sst_120 a Δ s (upd (x9_sightHeard s) (y1 : Int32).toNatClampNeg y2)) (fun hq hi1 H L hP hD hS => ?_)
    refine g_aload_n C 51 rfl dX9_seen_50 0 rfl ?_
    refine g_dup C 52 rfl dX9_seen_51 rfl ?_
    refine g_get (v := .int (x9_sights (p9_sightHeard s (upd (x9_sightHeard s) (y1 : Int32).toNatClampNeg y2)))) (fs := fl9 a (p9_sightHeard s (upd (x9_sightHeard s) (y1 : Int32).toNatClampNeg y2))) C 55 rfl dX9_seen_52 hK hP la_X9 0 11 (Nat.le_of_ble_eq_true rfl) fl_X9_312 rfl rfl rfl rfl ?_
    refine g_iconst 1 C 56 rfl dX9_seen_55 ki_1 ?_
    refine g_iadd C 57 rfl dX9_seen_56 ?_
    refine g_put (fs := fl9 a (p9_sightHeard s (upd (x9_sightHeard s) (y1 : Int32).toNatClampNeg y2))) (cs9 a Δ (p9_sights (p9_sightHeard s (upd (x9_sightHeard s) (y1 : Int32).toNatClampNeg y2)) ((x9_sights (p9_sightHeard s (upd (x9_sightHeard s) (y1 : Int32).toNatClampNeg y2))) + 1))) C 60 rfl dX9_seen_57 hK hP hD hS la_X9 tyX9_ok nmX9 0 11 (Nat.le_of_ble_eq_true rfl) fl_X9_312 rfl rfl rfl rfl rfl rfl (Nat.le_of_ble_eq_true rfl) (sst_121 a Δ (p9_sightHeard s (upd (x9_sightHeard s) (y1 : Int32).toNatClampNeg y2)) ((x9_sights (p9_sightHeard s (upd (x9_sightHeard s) (y1 : Int32).toNatClampNeg y2))) + 1)) (fun H L hP hD hS => ?_)
    refine g_aload_n C 61 rfl dX9_seen_60 0 rfl ?_
    refine g_get (v := .int (x9_sights (p9_sights (p9_sightHeard s (upd (x9_sightHeard s) (y1 : Int32).toNatClampNeg y2)) ((x9_sights (p9_sightHeard s (upd (x9_sightHeard s) (y1 : Int32).toNatClampNeg y2))) + 1)))) (fs := fl9 a (p9_sights (p9_sightHeard s (upd (x9_sightHeard s) (y1 : Int32).toNatClampNeg y2)) ((x9_sights (p9_sightHeard s (upd (x9_sightHeard s) (y1 : Int32).toNatClampNeg y2))) + 1))) C 64 rfl dX9_seen_61 hK hP la_X9 0 11 (Nat.le_of_ble_eq_true rfl) fl_X9_312 rfl rfl rfl rfl ?_
    exact w_int (ws := fun s => cs9 a Δ s) hR hq hP hS dX9_seen_64 rfl rfl
  show g Γ { frames := 2, cells := 0, slots := 0, locals := 46 } 3 H [] 0 0 0 [(0, .ref (a 0)), (1, .int x1), (2, .int x2)] []
  refine g_aload_n C 1 rfl dX9_seen_0 0 rfl ?_
  refine g_iload_n C 2 rfl dX9_seen_1 1 rfl ?_
  obtain ⟨r2, hz3, hq⟩ := bindE hq
  refine g_callRV (rest := []) C 5 rfl dX9_seen_2 (c_X9_isOne Γ.2.1 Δ a x1 s hz3) mv_X9_isOne ml_X9_107 hK hP rfl rfl rfl rfl rfl ⟨Nat.le_of_ble_eq_true rfl, Nat.le_of_ble_eq_true rfl⟩ (Nat.le_of_ble_eq_true rfl) ⟨Nat.zero_le _, Nat.zero_le _⟩ ?_
  refine s_if_ne C 10 8 rfl dX9_seen_5 (by decide) hq (fun hq => ?_) (fun hq => ?_)
  rotate_left
  · refine g_iconst (-1) C 9 rfl dX9_seen_8 ki_m1 ?_
    exact w_int (ws := fun s => cs9 a Δ s) hR hq hP hS dX9_seen_9 rfl rfl
  refine g_aload_n C 11 rfl dX9_seen_10 0 rfl ?_
  refine g_get (v := .int (x9_sights s)) (fs := fl9 a s) C 14 rfl dX9_seen_11 hK hP la_X9 0 11 (Nat.le_of_ble_eq_true rfl) fl_X9_312 rfl rfl rfl rfl ?_
  refine g_bipush 8 C 16 rfl dX9_seen_14 kb_8 ?_
  refine s_icmp_ne C 22 19 rfl dX9_seen_16 (by decide) hq (fun hq => ?_) (fun hq => ?_)
  rotate_left
  · refine g_bipush (-4) C 21 rfl dX9_seen_19 kb_m4 ?_
    exact w_int (ws := fun s => cs9 a Δ s) hR hq hP hS dX9_seen_21 rfl rfl
  refine g_aload_n C 23 rfl dX9_seen_22 0 rfl ?_
  refine g_get (v := .ref (a 7)) (fs := fl9 a s) C 26 rfl dX9_seen_23 hK hP la_X9 0 9 (Nat.le_of_ble_eq_true rfl) fl_X9_28 rfl rfl rfl rfl ?_
  refine g_aload_n C 27 rfl dX9_seen_26 0 rfl ?_
  refine g_get (v := .int (x9_sights s)) (fs := fl9 a s) C 30 rfl dX9_seen_27 hK hP la_X9 0 11 (Nat.le_of_ble_eq_true rfl) fl_X9_312 rfl rfl rfl rfl ?_
  refine g_iload_n C 31 rfl dX9_seen_30 1 rfl ?_
  refine s_iast (cs9 a Δ (p9_sightOne s (upd (x9_sightOne s) ((x9_sights s) : Int32).toNatClampNeg x1))) C 32 rfl dX9_seen_31 hK hP hD hS 7 rfl hq (sst_122 a Δ s (upd (x9_sightOne s) ((x9_sights s) : Int32).toNatClampNeg x1)) (fun hq hi4 H L hP hD hS => ?_)
  refine g_aload_n C 33 rfl dX9_seen_32 0 rfl ?_
  refine g_get (v := .ref (a 8)) (fs := fl9 a (p9_sightOne s (upd (x9_sightOne s) ((x9_sights s) : Int32).toNatClampNeg x1))) C 36 rfl dX9_seen_33 hK hP la_X9 0 10 (Nat.le_of_ble_eq_true rfl) fl_X9_31 rfl rfl rfl rfl ?_
  refine g_aload_n C 37 rfl dX9_seen_36 0 rfl ?_
  refine g_get (v := .int (x9_sights (p9_sightOne s (upd (x9_sightOne s) ((x9_sights s) : Int32).toNatClampNeg x1)))) (fs := fl9 a (p9_sightOne s (upd (x9_sightOne s) ((x9_sights s) : Int32).toNatClampNeg x1))) C 40 rfl dX9_seen_37 hK hP la_X9 0 11 (Nat.le_of_ble_eq_true rfl) fl_X9_312 rfl rfl rfl rfl ?_
  refine g_iload_n C 41 rfl dX9_seen_40 2 rfl ?_
  refine s_if_eq C 48 44 rfl dX9_seen_41 (by decide) hq (fun hq => ?_) (fun hq => ?_)
  · refine g_iconst 0 C 49 rfl dX9_seen_48 ki_0 ?_
    exact g_sub [0] rfl (K49 (x9_sights (p9_sightOne s (upd (x9_sightOne s) ((x9_sights s) : Int32).toNatClampNeg x1))) 0 (p9_sightOne s (upd (x9_sightOne s) ((x9_sights s) : Int32).toNatClampNeg x1)) _ _ hP hD hS hq)
  refine g_iconst 1 C 45 rfl dX9_seen_44 ki_1 ?_
  refine g_goto C 49 dX9_seen_45 (by decide) ?_
  exact g_sub [0] rfl (K49 (x9_sights (p9_sightOne s (upd (x9_sightOne s) ((x9_sights s) : Int32).toNatClampNeg x1))) 1 (p9_sightOne s (upd (x9_sightOne s) ((x9_sights s) : Int32).toNatClampNeg x1)) _ _ hP hD hS hq)
set_option maxHeartbeats 400000 in
set_option maxRecDepth 100000 in
theorem c_X9_forget (l : Launch) (Δ : gD) (a : Nat → Nat)  (s : S9) {res : Int32 × S9} (hq : sem_X9_forget  s = some res) : MW l yX9_forget cX9_forget 2 (some .int) Δ (cs9 a Δ s) [.ref (a 0)] 0 0 (some (.int res.1)) (cs9 a Δ res.2) := by
  refine MW.of (by decide) (Nat.le_of_ble_eq_true rfl) ?_
  intro Γ A H hl C hK hP hD hS hA hR
  subst hl
  show g Γ { frames := 0, cells := 0, slots := 0, locals := 0 } 2 H [] 0 0 0 [(0, .ref (a 0))] []
  refine g_aload_n C 1 rfl dX9_forget_0 0 rfl ?_
  refine g_get (v := .int (x9_sights s)) (fs := fl9 a s) C 4 rfl dX9_forget_1 hK hP la_X9 0 11 (Nat.le_of_ble_eq_true rfl) fl_X9_312 rfl rfl rfl rfl ?_
  refine g_istore_n [(1, .int (x9_sights s)), (0, .ref (a 0))] C 5 rfl dX9_forget_4 (Nat.le_of_ble_eq_true rfl) rfl ?_
  refine g_aload_n C 6 rfl dX9_forget_5 1 rfl ?_
  refine g_iconst 0 C 7 rfl dX9_forget_6 ki_0 ?_
  refine g_put (fs := fl9 a s) (cs9 a Δ (p9_sights s 0)) C 10 rfl dX9_forget_7 hK hP hD hS la_X9 tyX9_ok nmX9 0 11 (Nat.le_of_ble_eq_true rfl) fl_X9_312 rfl rfl rfl rfl rfl rfl (Nat.le_of_ble_eq_true rfl) (sst_121 a Δ s 0) (fun H L hP hD hS => ?_)
  refine g_iload_n C 11 rfl dX9_forget_10 0 rfl ?_
  exact w_int (ws := fun s => cs9 a Δ s) hR hq hP hS dX9_forget_11 rfl rfl
set_option maxHeartbeats 400000 in
set_option maxRecDepth 100000 in
theorem c_X9_wouldHear (l : Launch) (Δ : gD) (a : Nat → Nat) (x1 : Int32) (x2 : Int32) (s : S9) {res : Int32} (hq : sem_X9_wouldHear x1 x2 s = some res) : MR l yX9_wouldHear cX9_wouldHear 3 (some .boolean) Δ (cs9 a Δ s) [.ref (a 0), .int x1, .int x2] 1 23 (.int res) := by
  refine MR.of (by decide) (Nat.le_of_ble_eq_true rfl) ?_
  intro Γ H hl C hK hP hR
  subst hl
  show g Γ { frames := 1, cells := 0, slots := 0, locals := 23 } 3 H [] 0 0 0 [(0, .ref (a 0)), (1, .int x1), (2, .int x2)] []
  refine g_iload_n C 1 rfl dX9_wouldHear_0 1 rfl ?_
  refine g_iload_n C 2 rfl dX9_wouldHear_1 2 rfl ?_
  refine s_icmp_eq C 14 5 rfl dX9_wouldHear_2 (by decide) hq (fun hq => ?_) (fun hq => ?_)
  · refine g_iconst 1 C 15 rfl dX9_wouldHear_14 ki_1 ?_
    refine g_goto C 19 dX9_wouldHear_15 (by decide) ?_
    exact r_int hR hq dX9_wouldHear_19 rfl rfl
  refine g_aload_n C 6 rfl dX9_wouldHear_5 0 rfl ?_
  refine g_iload_n C 7 rfl dX9_wouldHear_6 1 rfl ?_
  refine g_iload_n C 8 rfl dX9_wouldHear_7 2 rfl ?_
  obtain ⟨r1, hz2, hq⟩ := bindE hq
  refine g_callRV (rest := []) C 11 rfl dX9_wouldHear_8 (c_X9_isNear Γ.2.1 Δ a x1 x2 s hz2) mv_X9_isNear ml_X9_162 hK hP rfl rfl rfl rfl rfl ⟨Nat.le_of_ble_eq_true rfl, Nat.le_of_ble_eq_true rfl⟩ (Nat.le_of_ble_eq_true rfl) ⟨Nat.zero_le _, Nat.zero_le _⟩ ?_
  refine s_if_eq C 18 14 rfl dX9_wouldHear_11 (by decide) hq (fun hq => ?_) (fun hq => ?_)
  · refine g_iconst 0 C 19 rfl dX9_wouldHear_18 ki_0 ?_
    exact r_int hR hq dX9_wouldHear_19 rfl rfl
  refine g_iconst 1 C 15 rfl dX9_wouldHear_14 ki_1 ?_
  refine g_goto C 19 dX9_wouldHear_15 (by decide) ?_
  exact r_int hR hq dX9_wouldHear_19 rfl rfl
set_option maxHeartbeats 400000 in
set_option maxRecDepth 100000 in
theorem c_X9_fits (l : Launch) (Δ : gD) (a : Nat → Nat) (x1 : Int32) (s : S9) {res : Int32} (hq : sem_X9_fits x1 s = some res) : MR l yX9_fits cX9_fits 5 (some .boolean) Δ (cs9 a Δ s) [.ref (a 0), .int x1] 2 46 (.int res) := by
  refine MR.of (by decide) (Nat.le_of_ble_eq_true rfl) ?_
  intro Γ H hl C hK hP hR
  subst hl
  show g Γ { frames := 2, cells := 0, slots := 0, locals := 46 } 5 H [] 0 0 0 [(0, .ref (a 0)), (1, .int x1)] []
  refine g_aload_n C 1 rfl dX9_fits_0 0 rfl ?_
  refine g_iload_n C 2 rfl dX9_fits_1 1 rfl ?_
  obtain ⟨r1, hz2, hq⟩ := bindE hq
  refine g_callRV (rest := []) C 5 rfl dX9_fits_2 (c_X9_isOne Γ.2.1 Δ a x1 s hz2) mv_X9_isOne ml_X9_107 hK hP rfl rfl rfl rfl rfl ⟨Nat.le_of_ble_eq_true rfl, Nat.le_of_ble_eq_true rfl⟩ (Nat.le_of_ble_eq_true rfl) ⟨Nat.zero_le _, Nat.zero_le _⟩ ?_
  refine g_istore_n [(2, .int r1), (0, .ref (a 0)), (1, .int x1)] C 6 rfl dX9_fits_5 (Nat.le_of_ble_eq_true rfl) rfl ?_
  refine g_iconst 0 C 7 rfl dX9_fits_6 ki_0 ?_
  refine g_istore_n [(3, .int 0), (2, .int r1), (0, .ref (a 0)), (1, .int x1)] C 8 rfl dX9_fits_7 (Nat.le_of_ble_eq_true rfl) rfl ?_
  have Q8 : ∀ (x1 : Int32), ∀ (n : Nat) (x2 : Int32) (x3 : Int32) (o : (Int32)) (hq : lp_X9_fits_8 x1 s n x2 x3 = some o) (E2 : g Γ { frames := 2, cells := 0, slots := 0, locals := 46 } 5 H [] 0 0 74 [(2, .int o)] []), g Γ { frames := 2, cells := 0, slots := 0, locals := 46 } 5 H [] 0 0 8 [(0, .ref (a 0)), (1, .int x1), (2, .int x2), (3, .int x3)] [] := by
    intro x1
    intro n
    induction n with
    | zero => intro x2 x3 o hq; exact nomatch (show (none : Option (Int32)) = some o from hq)
    | succ n ih =>
      intro x2 x3 o hq E2
      have hq : bd_X9_fits_8 x1 s (lp_X9_fits_8 x1 s n) x2 x3 = some o := hq
      have K59 : ∀ (x3 : Int32) (y0 : Int32) (y1 : Int32), jn_X9_fits_59 (lp_X9_fits_8 x1 s n) x1 x3 y0 y1 s = some o → g Γ { frames := 2, cells := 0, slots := 0, locals := 46 } 5 H [] 0 0 59 [(0, .ref (a 0)), (1, .int x1), (3, .int x3)] [.int y1, .int y0] := by
        intro x3 y0 y1 hq
        refine s_icmp_ne C 66 62 rfl dX9_fits_59 (by decide) hq (fun hq => ?_) (fun hq => ?_)
        · refine g_iconst 0 C 67 rfl dX9_fits_66 ki_0 ?_
          refine g_istore_n [(2, .int 0), (0, .ref (a 0)), (1, .int x1), (3, .int x3)] C 68 rfl dX9_fits_67 (Nat.le_of_ble_eq_true rfl) rfl ?_
          refine g_iinc (x3 + 1) [(3, .int (x3 + 1)), (2, .int 0), (0, .ref (a 0)), (1, .int x1)] C 71 rfl dX9_fits_68 3 rfl (ii_1 _) (Nat.le_of_ble_eq_true rfl) rfl ?_
          refine g_goto C 8 dX9_fits_71 (by decide) ?_
          exact g_sub [2, 3, 1, 0] rfl (ih 0 (x3 + 1) _ hq E2)
        refine g_iconst 1 C 63 rfl dX9_fits_62 ki_1 ?_
        refine g_goto C 67 dX9_fits_63 (by decide) ?_
        refine g_istore_n [(2, .int 1), (0, .ref (a 0)), (1, .int x1), (3, .int x3)] C 68 rfl dX9_fits_67 (Nat.le_of_ble_eq_true rfl) rfl ?_
        refine g_iinc (x3 + 1) [(3, .int (x3 + 1)), (2, .int 1), (0, .ref (a 0)), (1, .int x1)] C 71 rfl dX9_fits_68 3 rfl (ii_1 _) (Nat.le_of_ble_eq_true rfl) rfl ?_
        refine g_goto C 8 dX9_fits_71 (by decide) ?_
        exact g_sub [2, 3, 1, 0] rfl (ih 1 (x3 + 1) _ hq E2)
      refine g_iload_n C 9 rfl dX9_fits_8 3 rfl ?_
      refine g_aload_n C 10 rfl dX9_fits_9 0 rfl ?_
      refine g_get (v := .int (x9_sights s)) (fs := fl9 a s) C 13 rfl dX9_fits_10 hK hP la_X9 0 11 (Nat.le_of_ble_eq_true rfl) fl_X9_312 rfl rfl rfl rfl ?_
      refine s_icmp_ge C 74 16 rfl dX9_fits_13 (by decide) hq (fun hq => ?_) (fun hq => ?_)
      · cases hq
        exact g_sub [2] rfl (E2 )
      refine g_aload_n C 17 rfl dX9_fits_16 0 rfl ?_
      refine g_get (v := .ref (a 7)) (fs := fl9 a s) C 20 rfl dX9_fits_17 hK hP la_X9 0 9 (Nat.le_of_ble_eq_true rfl) fl_X9_28 rfl rfl rfl rfl ?_
      refine g_iload_n C 21 rfl dX9_fits_20 3 rfl ?_
      refine s_iald C 22 rfl dX9_fits_21 hK hP 7 rfl hq (fun hq hi3 => ?_)
      refine g_istore [(4, .int ((x9_sightOne s) (x3 : Int32).toNatClampNeg)), (0, .ref (a 0)), (1, .int x1), (2, .int x2), (3, .int x3)] C 24 rfl dX9_fits_22 (Nat.le_of_ble_eq_true rfl) rfl ?_
      refine g_iload_n C 25 rfl dX9_fits_24 3 rfl ?_
      refine s_if_eq C 66 28 rfl dX9_fits_25 (by decide) hq (fun hq => ?_) (fun hq => ?_)
      · refine g_iconst 0 C 67 rfl dX9_fits_66 ki_0 ?_
        refine g_istore_n [(2, .int 0), (4, .int ((x9_sightOne s) (x3 : Int32).toNatClampNeg)), (0, .ref (a 0)), (1, .int x1), (3, .int x3)] C 68 rfl dX9_fits_67 (Nat.le_of_ble_eq_true rfl) rfl ?_
        refine g_iinc (x3 + 1) [(3, .int (x3 + 1)), (2, .int 0), (4, .int ((x9_sightOne s) (x3 : Int32).toNatClampNeg)), (0, .ref (a 0)), (1, .int x1)] C 71 rfl dX9_fits_68 4 rfl (ii_1 _) (Nat.le_of_ble_eq_true rfl) rfl ?_
        refine g_goto C 8 dX9_fits_71 (by decide) ?_
        exact g_sub [3, 4, 1, 0] rfl (ih 0 (x3 + 1) _ hq E2)
      refine g_aload_n C 29 rfl dX9_fits_28 1 rfl ?_
      refine g_iload C 31 rfl dX9_fits_29 0 rfl ?_
      obtain ⟨r4, hz5, hq⟩ := bindE hq
      refine g_callRV (rest := []) C 34 rfl dX9_fits_31 (c_X9_isOne Γ.2.1 Δ a ((x9_sightOne s) (x3 : Int32).toNatClampNeg) s hz5) mv_X9_isOne ml_X9_107 hK hP rfl rfl rfl rfl rfl ⟨Nat.le_of_ble_eq_true rfl, Nat.le_of_ble_eq_true rfl⟩ (Nat.le_of_ble_eq_true rfl) ⟨Nat.zero_le _, Nat.zero_le _⟩ ?_
      refine s_if_eq C 66 37 rfl dX9_fits_34 (by decide) hq (fun hq => ?_) (fun hq => ?_)
      · refine g_iconst 0 C 67 rfl dX9_fits_66 ki_0 ?_
        refine g_istore_n [(2, .int 0), (4, .int ((x9_sightOne s) (x3 : Int32).toNatClampNeg)), (0, .ref (a 0)), (1, .int x1), (3, .int x3)] C 68 rfl dX9_fits_67 (Nat.le_of_ble_eq_true rfl) rfl ?_
        refine g_iinc (x3 + 1) [(3, .int (x3 + 1)), (2, .int 0), (4, .int ((x9_sightOne s) (x3 : Int32).toNatClampNeg)), (0, .ref (a 0)), (1, .int x1)] C 71 rfl dX9_fits_68 4 rfl (ii_1 _) (Nat.le_of_ble_eq_true rfl) rfl ?_
        refine g_goto C 8 dX9_fits_71 (by decide) ?_
        exact g_sub [3, 4, 1, 0] rfl (ih 0 (x3 + 1) _ hq E2)
      refine g_aload_n C 38 rfl dX9_fits_37 1 rfl ?_
      refine g_iload C 40 rfl dX9_fits_38 0 rfl ?_
      refine g_iload_n C 41 rfl dX9_fits_40 2 rfl ?_
      obtain ⟨r6, hz7, hq⟩ := bindE hq
      refine g_callRV (rest := []) C 44 rfl dX9_fits_41 (c_X9_wouldHear Γ.2.1 Δ a ((x9_sightOne s) (x3 : Int32).toNatClampNeg) x1 s hz7) mv_X9_wouldHear ml_X9_315 hK hP rfl rfl rfl rfl rfl ⟨Nat.le_of_ble_eq_true rfl, Nat.le_of_ble_eq_true rfl⟩ (Nat.le_of_ble_eq_true rfl) ⟨Nat.zero_le _, Nat.zero_le _⟩ ?_
      refine g_aload_n C 45 rfl dX9_fits_44 1 rfl ?_
      refine g_get (v := .ref (a 8)) (fs := fl9 a s) C 48 rfl dX9_fits_45 hK hP la_X9 0 10 (Nat.le_of_ble_eq_true rfl) fl_X9_31 rfl rfl rfl rfl ?_
      refine g_iload_n C 49 rfl dX9_fits_48 4 rfl ?_
      refine s_iald C 50 rfl dX9_fits_49 hK hP 8 rfl hq (fun hq hi8 => ?_)
      refine g_iconst 1 C 51 rfl dX9_fits_50 ki_1 ?_
      refine s_icmp_ne C 58 54 rfl dX9_fits_51 (by decide) hq (fun hq => ?_) (fun hq => ?_)
      · refine g_iconst 0 C 59 rfl dX9_fits_58 ki_0 ?_
        exact g_sub [1, 2, 4] rfl (K59 x3 r6 0 hq)
      refine g_iconst 1 C 55 rfl dX9_fits_54 ki_1 ?_
      refine g_goto C 59 dX9_fits_55 (by decide) ?_
      exact g_sub [1, 2, 4] rfl (K59 x3 r6 1 hq)
  obtain ⟨o9, ho10, hq⟩ := bindE hq
  refine g_sub [2, 3, 1, 0] rfl (Q8 x1 FUEL r1 0 o9 ho10 (?_))
  refine g_iload_n C 75 rfl dX9_fits_74 0 rfl ?_
  obtain ⟨hb11, hq⟩ := bz_some hq
  exact r_int hR hq dX9_fits_75 rfl (narrow_z hb11)
set_option maxHeartbeats 400000 in
set_option maxRecDepth 100000 in
theorem c_X9_who (l : Launch) (Δ : gD) (a : Nat → Nat)  (s : S9) {res : Int32} (hq : sem_X9_who  s = some res) : MR l yX9_who cX9_who 3 (some .int) Δ (cs9 a Δ s) [.ref (a 0)] 3 70 (.int res) := by
  refine MR.of (by decide) (Nat.le_of_ble_eq_true rfl) ?_
  intro Γ H hl C hK hP hR
  subst hl
  show g Γ { frames := 3, cells := 0, slots := 0, locals := 70 } 3 H [] 0 0 0 [(0, .ref (a 0))] []
  refine g_iconst 0 C 1 rfl dX9_who_0 ki_0 ?_
  refine g_istore_n [(1, .int 0), (0, .ref (a 0))] C 2 rfl dX9_who_1 (Nat.le_of_ble_eq_true rfl) rfl ?_
  refine g_iconst 0 C 3 rfl dX9_who_2 ki_0 ?_
  refine g_istore_n [(2, .int 0), (1, .int 0), (0, .ref (a 0))] C 4 rfl dX9_who_3 (Nat.le_of_ble_eq_true rfl) rfl ?_
  have Q4 : ∀ (n : Nat) (x1 : Int32) (x2 : Int32) (o : (Int32)) (hq : lp_X9_who_4 s n x1 x2 = some o) (E2 : g Γ { frames := 3, cells := 0, slots := 0, locals := 70 } 3 H [] 0 0 34 [(1, .int o)] []), g Γ { frames := 3, cells := 0, slots := 0, locals := 70 } 3 H [] 0 0 4 [(0, .ref (a 0)), (1, .int x1), (2, .int x2)] [] := by
    intro n
    induction n with
    | zero => intro x1 x2 o hq; exact nomatch (show (none : Option (Int32)) = some o from hq)
    | succ n ih =>
      intro x1 x2 o hq E2
      have hq : bd_X9_who_4 s (lp_X9_who_4 s n) x1 x2 = some o := hq
      refine g_iload_n C 5 rfl dX9_who_4 2 rfl ?_
      refine g_bipush 6 C 7 rfl dX9_who_5 kb_6 ?_
      refine s_icmp_ge C 34 10 rfl dX9_who_7 (by decide) hq (fun hq => ?_) (fun hq => ?_)
      · cases hq
        exact g_sub [1] rfl (E2 )
      refine g_iload_n C 11 rfl dX9_who_10 1 rfl ?_
      refine g_aload_n C 12 rfl dX9_who_11 0 rfl ?_
      refine g_iload_n C 13 rfl dX9_who_12 2 rfl ?_
      obtain ⟨r1, hz2, hq⟩ := bindE hq
      refine g_callRV (rest := [.int x1]) C 16 rfl dX9_who_13 (c_X9_fits Γ.2.1 Δ a x2 s hz2) mv_X9_fits ml_X9_318 hK hP rfl rfl rfl rfl rfl ⟨Nat.le_of_ble_eq_true rfl, Nat.le_of_ble_eq_true rfl⟩ (Nat.le_of_ble_eq_true rfl) ⟨Nat.zero_le _, Nat.zero_le _⟩ ?_
      refine s_if_eq C 25 19 rfl dX9_who_16 (by decide) hq (fun hq => ?_) (fun hq => ?_)
      · refine g_iconst 0 C 26 rfl dX9_who_25 ki_0 ?_
        refine g_ior C 27 rfl dX9_who_26 ?_
        refine g_istore_n [(1, .int (x1 ||| 0)), (0, .ref (a 0)), (2, .int x2)] C 28 rfl dX9_who_27 (Nat.le_of_ble_eq_true rfl) rfl ?_
        refine g_iinc (x2 + 1) [(2, .int (x2 + 1)), (1, .int (x1 ||| 0)), (0, .ref (a 0))] C 31 rfl dX9_who_28 2 rfl (ii_1 _) (Nat.le_of_ble_eq_true rfl) rfl ?_
        refine g_goto C 4 dX9_who_31 (by decide) ?_
        exact g_sub [2, 1, 0] rfl (ih (x1 ||| 0) (x2 + 1) _ hq E2)
      refine g_iconst 1 C 20 rfl dX9_who_19 ki_1 ?_
      refine g_iload_n C 21 rfl dX9_who_20 2 rfl ?_
      refine g_ishl C 22 rfl dX9_who_21 ?_
      refine g_goto C 26 dX9_who_22 (by decide) ?_
      refine g_ior C 27 rfl dX9_who_26 ?_
      refine g_istore_n [(1, .int (x1 ||| ((1 : Int32) <<< (x2 &&& 31)))), (0, .ref (a 0)), (2, .int x2)] C 28 rfl dX9_who_27 (Nat.le_of_ble_eq_true rfl) rfl ?_
      refine g_iinc (x2 + 1) [(2, .int (x2 + 1)), (1, .int (x1 ||| ((1 : Int32) <<< (x2 &&& 31)))), (0, .ref (a 0))] C 31 rfl dX9_who_28 2 rfl (ii_1 _) (Nat.le_of_ble_eq_true rfl) rfl ?_
      refine g_goto C 4 dX9_who_31 (by decide) ?_
      exact g_sub [2, 1, 0] rfl (ih (x1 ||| ((1 : Int32) <<< (x2 &&& 31))) (x2 + 1) _ hq E2)
  obtain ⟨o3, ho4, hq⟩ := bindE hq
  refine g_sub [2, 1, 0] rfl (Q4  FUEL 0 0 o3 ho4 (?_))
  refine g_iload_n C 35 rfl dX9_who_34 0 rfl ?_
  exact r_int hR hq dX9_who_35 rfl rfl
set_option maxHeartbeats 400000 in
set_option maxRecDepth 100000 in
theorem c_X9_mostLeft (l : Launch) (Δ : gD) (a : Nat → Nat) (x1 : Int32) (x2 : Int32) (s : S9) {res : Int32} (hq : sem_X9_mostLeft x1 x2 s = some res) : MR l yX9_mostLeft cX9_mostLeft 5 (some .int) Δ (cs9 a Δ s) [.ref (a 0), .int x1, .int x2] 2 45 (.int res) := by
  refine MR.of (by decide) (Nat.le_of_ble_eq_true rfl) ?_
  intro Γ H hl C hK hP hR
  subst hl
  show g Γ { frames := 2, cells := 0, slots := 0, locals := 45 } 5 H [] 0 0 0 [(0, .ref (a 0)), (1, .int x1), (2, .int x2)] []
  refine g_iconst 0 C 1 rfl dX9_mostLeft_0 ki_0 ?_
  refine g_istore_n [(3, .int 0), (0, .ref (a 0)), (1, .int x1), (2, .int x2)] C 2 rfl dX9_mostLeft_1 (Nat.le_of_ble_eq_true rfl) rfl ?_
  refine g_iconst 0 C 3 rfl dX9_mostLeft_2 ki_0 ?_
  refine g_istore [(4, .int 0), (3, .int 0), (0, .ref (a 0)), (1, .int x1), (2, .int x2)] C 5 rfl dX9_mostLeft_3 (Nat.le_of_ble_eq_true rfl) rfl ?_
  have Q5 : ∀ (x1 : Int32) (x2 : Int32), ∀ (n : Nat) (x3 : Int32) (x4 : Int32) (o : (Int32)) (hq : lp_X9_mostLeft_5 x1 x2 s n x3 x4 = some o) (E2 : g Γ { frames := 2, cells := 0, slots := 0, locals := 45 } 5 H [] 0 0 46 [(1, .int x1), (3, .int o)] []), g Γ { frames := 2, cells := 0, slots := 0, locals := 45 } 5 H [] 0 0 5 [(0, .ref (a 0)), (1, .int x1), (2, .int x2), (3, .int x3), (4, .int x4)] [] := by
    intro x1 x2
    intro n
    induction n with
    | zero => intro x3 x4 o hq; exact nomatch (show (none : Option (Int32)) = some o from hq)
    | succ n ih =>
      intro x3 x4 o hq E2
      have hq : bd_X9_mostLeft_5 x1 x2 s (lp_X9_mostLeft_5 x1 x2 s n) x3 x4 = some o := hq
      refine g_iload C 7 rfl dX9_mostLeft_5 4 rfl ?_
      refine g_bipush 6 C 9 rfl dX9_mostLeft_7 kb_6 ?_
      refine s_icmp_ge C 46 12 rfl dX9_mostLeft_9 (by decide) hq (fun hq => ?_) (fun hq => ?_)
      · cases hq
        exact g_sub [1, 3] rfl (E2 )
      refine g_iload_n C 13 rfl dX9_mostLeft_12 3 rfl ?_
      refine g_iload_n C 14 rfl dX9_mostLeft_13 1 rfl ?_
      refine g_iload C 16 rfl dX9_mostLeft_14 4 rfl ?_
      refine g_ishr C 17 rfl dX9_mostLeft_16 ?_
      refine g_iconst 1 C 18 rfl dX9_mostLeft_17 ki_1 ?_
      refine g_iand C 19 rfl dX9_mostLeft_18 ?_
      refine g_iconst 1 C 20 rfl dX9_mostLeft_19 ki_1 ?_
      refine s_icmp_ne C 37 23 rfl dX9_mostLeft_20 (by decide) hq (fun hq => ?_) (fun hq => ?_)
      · refine g_iconst 0 C 38 rfl dX9_mostLeft_37 ki_0 ?_
        refine g_iadd C 39 rfl dX9_mostLeft_38 ?_
        refine g_istore_n [(3, .int (x3 + 0)), (0, .ref (a 0)), (1, .int x1), (2, .int x2), (4, .int x4)] C 40 rfl dX9_mostLeft_39 (Nat.le_of_ble_eq_true rfl) rfl ?_
        refine g_iinc (x4 + 1) [(4, .int (x4 + 1)), (3, .int (x3 + 0)), (0, .ref (a 0)), (1, .int x1), (2, .int x2)] C 43 rfl dX9_mostLeft_40 4 rfl (ii_1 _) (Nat.le_of_ble_eq_true rfl) rfl ?_
        refine g_goto C 5 dX9_mostLeft_43 (by decide) ?_
        exact g_sub [2, 3, 4, 1, 0] rfl (ih (x3 + 0) (x4 + 1) _ hq E2)
      refine g_aload_n C 24 rfl dX9_mostLeft_23 0 rfl ?_
      refine g_iload_n C 25 rfl dX9_mostLeft_24 2 rfl ?_
      refine g_iload C 27 rfl dX9_mostLeft_25 4 rfl ?_
      obtain ⟨r1, hz2, hq⟩ := bindE hq
      refine g_callRV (rest := [.int x3]) C 30 rfl dX9_mostLeft_27 (c_X9_wouldHear Γ.2.1 Δ a x2 x4 s hz2) mv_X9_wouldHear ml_X9_315 hK hP rfl rfl rfl rfl rfl ⟨Nat.le_of_ble_eq_true rfl, Nat.le_of_ble_eq_true rfl⟩ (Nat.le_of_ble_eq_true rfl) ⟨Nat.zero_le _, Nat.zero_le _⟩ ?_
      refine s_if_eq C 37 33 rfl dX9_mostLeft_30 (by decide) hq (fun hq => ?_) (fun hq => ?_)
      · refine g_iconst 0 C 38 rfl dX9_mostLeft_37 ki_0 ?_
        refine g_iadd C 39 rfl dX9_mostLeft_38 ?_
        refine g_istore_n [(3, .int (x3 + 0)), (0, .ref (a 0)), (1, .int x1), (2, .int x2), (4, .int x4)] C 40 rfl dX9_mostLeft_39 (Nat.le_of_ble_eq_true rfl) rfl ?_
        refine g_iinc (x4 + 1) [(4, .int (x4 + 1)), (3, .int (x3 + 0)), (0, .ref (a 0)), (1, .int x1), (2, .int x2)] C 43 rfl dX9_mostLeft_40 4 rfl (ii_1 _) (Nat.le_of_ble_eq_true rfl) rfl ?_
        refine g_goto C 5 dX9_mostLeft_43 (by decide) ?_
        exact g_sub [2, 3, 4, 1, 0] rfl (ih (x3 + 0) (x4 + 1) _ hq E2)
      refine g_iconst 1 C 34 rfl dX9_mostLeft_33 ki_1 ?_
      refine g_goto C 38 dX9_mostLeft_34 (by decide) ?_
      refine g_iadd C 39 rfl dX9_mostLeft_38 ?_
      refine g_istore_n [(3, .int (x3 + 1)), (0, .ref (a 0)), (1, .int x1), (2, .int x2), (4, .int x4)] C 40 rfl dX9_mostLeft_39 (Nat.le_of_ble_eq_true rfl) rfl ?_
      refine g_iinc (x4 + 1) [(4, .int (x4 + 1)), (3, .int (x3 + 1)), (0, .ref (a 0)), (1, .int x1), (2, .int x2)] C 43 rfl dX9_mostLeft_40 4 rfl (ii_1 _) (Nat.le_of_ble_eq_true rfl) rfl ?_
      refine g_goto C 5 dX9_mostLeft_43 (by decide) ?_
      exact g_sub [2, 3, 4, 1, 0] rfl (ih (x3 + 1) (x4 + 1) _ hq E2)
  obtain ⟨o3, ho4, hq⟩ := bindE hq
  refine g_sub [2, 3, 4, 1, 0] rfl (Q5 x1 x2 FUEL 0 0 o3 ho4 (?_))
  refine g_iload_n C 47 rfl dX9_mostLeft_46 0 rfl ?_
  obtain ⟨r5, hz6, hq⟩ := bindE hq
  refine g_callRS (rest := []) C 50 rfl dX9_mostLeft_47 (c_X9_ones Γ.2.1 Δ  x1  hz6) mv_X9_ones (Or.inl ml_X9_103) hK rfl rfl ⟨Nat.le_of_ble_eq_true rfl, Nat.le_of_ble_eq_true rfl⟩ (Nat.le_of_ble_eq_true rfl) ⟨Nat.zero_le _, Nat.zero_le _⟩ ?_
  refine g_iload_n C 51 rfl dX9_mostLeft_50 1 rfl ?_
  refine g_isub C 52 rfl dX9_mostLeft_51 ?_
  refine g_istore [(4, .int (r5 - o3)), (1, .int x1), (3, .int o3)] C 54 rfl dX9_mostLeft_52 (Nat.le_of_ble_eq_true rfl) rfl ?_
  refine g_iload_n C 55 rfl dX9_mostLeft_54 2 rfl ?_
  refine g_iload C 57 rfl dX9_mostLeft_55 0 rfl ?_
  refine s_icmp_le C 64 60 rfl dX9_mostLeft_57 (by decide) hq (fun hq => ?_) (fun hq => ?_)
  · refine g_iload C 66 rfl dX9_mostLeft_64 0 rfl ?_
    exact r_int hR hq dX9_mostLeft_66 rfl rfl
  refine g_iload_n C 61 rfl dX9_mostLeft_60 2 rfl ?_
  refine g_goto C 66 dX9_mostLeft_61 (by decide) ?_
  exact r_int hR hq dX9_mostLeft_66 rfl rfl
set_option maxHeartbeats 400000 in
set_option maxRecDepth 100000 in
theorem c_X9_ask (l : Launch) (Δ : gD) (a : Nat → Nat) (x1 : Int32) (s : S9) {res : Int32} (hq : sem_X9_ask x1 s = some res) : MR l yX9_ask cX9_ask 5 (some .int) Δ (cs9 a Δ s) [.ref (a 0), .int x1] 4 92 (.int res) := by
  refine MR.of (by decide) (Nat.le_of_ble_eq_true rfl) ?_
  intro Γ H hl C hK hP hR
  subst hl
  have K77 : ∀ (x1 : Int32) (x2 : Int32) (x3 : Int32), jn_X9_ask_77 x1 x2 x3 s = some res → g Γ { frames := 4, cells := 0, slots := 0, locals := 92 } 5 H [] 0 0 77 [(0, .ref (a 0)), (1, .int x1), (2, .int x2), (3, .int x3)] [] := by
    intro x1 x2 x3 hq
    refine g_iload_n C 78 rfl dX9_ask_77 3 rfl ?_
    refine s_if_lt C 85 81 rfl dX9_ask_78 (by decide) hq (fun hq => ?_) (fun hq => ?_)
    · refine g_iload_n C 86 rfl dX9_ask_85 3 rfl ?_
      refine g_goto C 95 dX9_ask_86 (by decide) ?_
      exact r_int hR hq dX9_ask_95 rfl rfl
    refine g_iload_n C 82 rfl dX9_ask_81 1 rfl ?_
    refine s_if_ne C 89 85 rfl dX9_ask_82 (by decide) hq (fun hq => ?_) (fun hq => ?_)
    rotate_left
    · refine g_iload_n C 86 rfl dX9_ask_85 3 rfl ?_
      refine g_goto C 95 dX9_ask_86 (by decide) ?_
      exact r_int hR hq dX9_ask_95 rfl rfl
    refine g_aload_n C 90 rfl dX9_ask_89 0 rfl ?_
    refine g_iload_n C 91 rfl dX9_ask_90 2 rfl ?_
    refine g_iload_n C 92 rfl dX9_ask_91 3 rfl ?_
    obtain ⟨r1, hz2, hq⟩ := bindE hq
    refine g_callRV (rest := []) C 95 rfl dX9_ask_92 (c_X9_mostLeft Γ.2.1 Δ a x2 x3 s hz2) mv_X9_mostLeft ml_X9_323 hK hP rfl rfl rfl rfl rfl ⟨Nat.le_of_ble_eq_true rfl, Nat.le_of_ble_eq_true rfl⟩ (Nat.le_of_ble_eq_true rfl) ⟨Nat.zero_le _, Nat.zero_le _⟩ ?_
    exact r_int hR hq dX9_ask_95 rfl rfl
  show g Γ { frames := 4, cells := 0, slots := 0, locals := 92 } 5 H [] 0 0 0 [(0, .ref (a 0)), (1, .int x1)] []
  refine g_iload_n C 1 rfl dX9_ask_0 1 rfl ?_
  refine g_i2l C 2 rfl dX9_ask_1 ?_
  refine g_lconst 0 C 3 rfl dX9_ask_2 kl_0 ?_
  refine g_lconst 1 C 4 rfl dX9_ask_3 kl_1 ?_
  obtain ⟨r3, hz4, hq⟩ := bindE hq
  refine g_callRS (rest := []) C 7 rfl dX9_ask_4 (c_X9_in Γ.2.1 Δ  (Int32.toInt64 x1) 0 1  hz4) mv_X9_in (Or.inl ml_X9_90) hK rfl rfl ⟨Nat.le_of_ble_eq_true rfl, Nat.le_of_ble_eq_true rfl⟩ (Nat.le_of_ble_eq_true rfl) ⟨Nat.zero_le _, Nat.zero_le _⟩ ?_
  refine s_if_ne C 13 10 rfl dX9_ask_7 (by decide) hq (fun hq => ?_) (fun hq => ?_)
  rotate_left
  · refine g_bipush (-2) C 12 rfl dX9_ask_10 kb_m2 ?_
    exact r_int hR hq dX9_ask_12 rfl rfl
  refine g_aload_n C 14 rfl dX9_ask_13 0 rfl ?_
  obtain ⟨r5, hz6, hq⟩ := bindE hq
  refine g_callRV (rest := []) C 17 rfl dX9_ask_14 (c_X9_who Γ.2.1 Δ a  s hz6) mv_X9_who ml_X9_321 hK hP rfl rfl rfl rfl rfl ⟨Nat.le_of_ble_eq_true rfl, Nat.le_of_ble_eq_true rfl⟩ (Nat.le_of_ble_eq_true rfl) ⟨Nat.zero_le _, Nat.zero_le _⟩ ?_
  refine g_istore_n [(2, .int r5), (0, .ref (a 0)), (1, .int x1)] C 18 rfl dX9_ask_17 (Nat.le_of_ble_eq_true rfl) rfl ?_
  refine g_bipush (-6) C 20 rfl dX9_ask_18 kb_m6 ?_
  refine g_istore_n [(3, .int (-6)), (2, .int r5), (0, .ref (a 0)), (1, .int x1)] C 21 rfl dX9_ask_20 (Nat.le_of_ble_eq_true rfl) rfl ?_
  refine g_iconst 0 C 22 rfl dX9_ask_21 ki_0 ?_
  refine g_istore [(4, .int 0), (3, .int (-6)), (2, .int r5), (0, .ref (a 0)), (1, .int x1)] C 24 rfl dX9_ask_22 (Nat.le_of_ble_eq_true rfl) rfl ?_
  have Q24 : ∀ (x1 : Int32) (x2 : Int32), ∀ (n : Nat) (x3 : Int32) (x4 : Int32) (o : (Int32)) (hq : lp_X9_ask_24 x1 x2 s n x3 x4 = some o) (E2 : g Γ { frames := 4, cells := 0, slots := 0, locals := 92 } 5 H [] 0 0 77 [(0, .ref (a 0)), (1, .int x1), (2, .int x2), (3, .int o)] []), g Γ { frames := 4, cells := 0, slots := 0, locals := 92 } 5 H [] 0 0 24 [(0, .ref (a 0)), (1, .int x1), (2, .int x2), (3, .int x3), (4, .int x4)] [] := by
    intro x1 x2
    intro n
    induction n with
    | zero => intro x3 x4 o hq; exact nomatch (show (none : Option (Int32)) = some o from hq)
    | succ n ih =>
      intro x3 x4 o hq E2
      have hq : bd_X9_ask_24 x1 x2 s (lp_X9_ask_24 x1 x2 s n) x3 x4 = some o := hq
      refine g_iload C 26 rfl dX9_ask_24 4 rfl ?_
      refine g_bipush 6 C 28 rfl dX9_ask_26 kb_6 ?_
      refine s_icmp_ge C 77 31 rfl dX9_ask_28 (by decide) hq (fun hq => ?_) (fun hq => ?_)
      · cases hq
        exact g_sub [0, 1, 2, 3] rfl (E2 )
      refine g_iload_n C 32 rfl dX9_ask_31 2 rfl ?_
      refine s_if_eq C 77 35 rfl dX9_ask_32 (by decide) hq (fun hq => ?_) (fun hq => ?_)
      · cases hq
        exact g_sub [0, 1, 2, 3] rfl (E2 )
      refine g_aload_n C 36 rfl dX9_ask_35 0 rfl ?_
      refine g_iload C 38 rfl dX9_ask_36 4 rfl ?_
      obtain ⟨r7, hz8, hq⟩ := bindE hq
      refine g_callRV (rest := []) C 41 rfl dX9_ask_38 (c_X9_isOne Γ.2.1 Δ a x4 s hz8) mv_X9_isOne ml_X9_107 hK hP rfl rfl rfl rfl rfl ⟨Nat.le_of_ble_eq_true rfl, Nat.le_of_ble_eq_true rfl⟩ (Nat.le_of_ble_eq_true rfl) ⟨Nat.zero_le _, Nat.zero_le _⟩ ?_
      refine s_if_eq C 69 44 rfl dX9_ask_41 (by decide) hq (fun hq => ?_) (fun hq => ?_)
      · refine g_iload_n C 70 rfl dX9_ask_69 3 rfl ?_
        refine g_istore_n [(3, .int x3), (0, .ref (a 0)), (1, .int x1), (2, .int x2), (4, .int x4)] C 71 rfl dX9_ask_70 (Nat.le_of_ble_eq_true rfl) rfl ?_
        refine g_iinc (x4 + 1) [(4, .int (x4 + 1)), (3, .int x3), (0, .ref (a 0)), (1, .int x1), (2, .int x2)] C 74 rfl dX9_ask_71 4 rfl (ii_1 _) (Nat.le_of_ble_eq_true rfl) rfl ?_
        refine g_goto C 24 dX9_ask_74 (by decide) ?_
        exact g_sub [2, 3, 4, 1, 0] rfl (ih x3 (x4 + 1) _ hq E2)
      refine g_iload_n C 45 rfl dX9_ask_44 3 rfl ?_
      refine s_if_lt C 64 48 rfl dX9_ask_45 (by decide) hq (fun hq => ?_) (fun hq => ?_)
      · refine g_iload C 66 rfl dX9_ask_64 4 rfl ?_
        refine g_goto C 70 dX9_ask_66 (by decide) ?_
        refine g_istore_n [(3, .int x4), (0, .ref (a 0)), (1, .int x1), (2, .int x2), (4, .int x4)] C 71 rfl dX9_ask_70 (Nat.le_of_ble_eq_true rfl) rfl ?_
        refine g_iinc (x4 + 1) [(4, .int (x4 + 1)), (3, .int x4), (0, .ref (a 0)), (1, .int x1), (2, .int x2)] C 74 rfl dX9_ask_71 4 rfl (ii_1 _) (Nat.le_of_ble_eq_true rfl) rfl ?_
        refine g_goto C 24 dX9_ask_74 (by decide) ?_
        exact g_sub [2, 3, 4, 1, 0] rfl (ih x4 (x4 + 1) _ hq E2)
      refine g_aload_n C 49 rfl dX9_ask_48 0 rfl ?_
      refine g_iload_n C 50 rfl dX9_ask_49 2 rfl ?_
      refine g_iload C 52 rfl dX9_ask_50 4 rfl ?_
      obtain ⟨r9, hz10, hq⟩ := bindE hq
      refine g_callRV (rest := []) C 55 rfl dX9_ask_52 (c_X9_mostLeft Γ.2.1 Δ a x2 x4 s hz10) mv_X9_mostLeft ml_X9_323 hK hP rfl rfl rfl rfl rfl ⟨Nat.le_of_ble_eq_true rfl, Nat.le_of_ble_eq_true rfl⟩ (Nat.le_of_ble_eq_true rfl) ⟨Nat.zero_le _, Nat.zero_le _⟩ ?_
      refine g_aload_n C 56 rfl dX9_ask_55 0 rfl ?_
      refine g_iload_n C 57 rfl dX9_ask_56 2 rfl ?_
      refine g_iload_n C 58 rfl dX9_ask_57 3 rfl ?_
      obtain ⟨r11, hz12, hq⟩ := bindE hq
      refine g_callRV (rest := [.int r9]) C 61 rfl dX9_ask_58 (c_X9_mostLeft Γ.2.1 Δ a x2 x3 s hz12) mv_X9_mostLeft ml_X9_323 hK hP rfl rfl rfl rfl rfl ⟨Nat.le_of_ble_eq_true rfl, Nat.le_of_ble_eq_true rfl⟩ (Nat.le_of_ble_eq_true rfl) ⟨Nat.zero_le _, Nat.zero_le _⟩ ?_
      refine s_icmp_ge C 69 64 rfl dX9_ask_61 (by decide) hq (fun hq => ?_) (fun hq => ?_)
      · refine g_iload_n C 70 rfl dX9_ask_69 3 rfl ?_
        refine g_istore_n [(3, .int x3), (0, .ref (a 0)), (1, .int x1), (2, .int x2), (4, .int x4)] C 71 rfl dX9_ask_70 (Nat.le_of_ble_eq_true rfl) rfl ?_
        refine g_iinc (x4 + 1) [(4, .int (x4 + 1)), (3, .int x3), (0, .ref (a 0)), (1, .int x1), (2, .int x2)] C 74 rfl dX9_ask_71 4 rfl (ii_1 _) (Nat.le_of_ble_eq_true rfl) rfl ?_
        refine g_goto C 24 dX9_ask_74 (by decide) ?_
        exact g_sub [2, 3, 4, 1, 0] rfl (ih x3 (x4 + 1) _ hq E2)
      refine g_iload C 66 rfl dX9_ask_64 4 rfl ?_
      refine g_goto C 70 dX9_ask_66 (by decide) ?_
      refine g_istore_n [(3, .int x4), (0, .ref (a 0)), (1, .int x1), (2, .int x2), (4, .int x4)] C 71 rfl dX9_ask_70 (Nat.le_of_ble_eq_true rfl) rfl ?_
      refine g_iinc (x4 + 1) [(4, .int (x4 + 1)), (3, .int x4), (0, .ref (a 0)), (1, .int x1), (2, .int x2)] C 74 rfl dX9_ask_71 4 rfl (ii_1 _) (Nat.le_of_ble_eq_true rfl) rfl ?_
      refine g_goto C 24 dX9_ask_74 (by decide) ?_
      exact g_sub [2, 3, 4, 1, 0] rfl (ih x4 (x4 + 1) _ hq E2)
  obtain ⟨o13, ho14, hq⟩ := bindE hq
  refine g_sub [3, 4, 2, 1, 0] rfl (Q24 x1 r5 FUEL (-6) 0 o13 ho14 (?_))
  exact g_sub [0, 1, 2, 3] rfl (K77 x1 r5 o13 hq)
set_option maxHeartbeats 400000 in
set_option maxRecDepth 100000 in
theorem c_X9_quarrel (l : Launch) (Δ : gD) (a : Nat → Nat) (x1 : Int32) (x2 : Int32) (x3 : Int32) (s : S9) {res : Int32} (hq : sem_X9_quarrel x1 x2 x3 s = some res) : MR l yX9_quarrel cX9_quarrel 5 (some .int) Δ (cs9 a Δ s) [.ref (a 0), .int x1, .int x2, .int x3] 1 25 (.int res) := by
  refine MR.of (by decide) (Nat.le_of_ble_eq_true rfl) ?_
  intro Γ H hl C hK hP hR
  subst hl
  show g Γ { frames := 1, cells := 0, slots := 0, locals := 25 } 5 H [] 0 0 0 [(0, .ref (a 0)), (1, .int x1), (2, .int x2), (3, .int x3)] []
  refine g_iload_n C 1 rfl dX9_quarrel_0 1 rfl ?_
  refine g_i2l C 2 rfl dX9_quarrel_1 ?_
  refine g_lconst 0 C 3 rfl dX9_quarrel_2 kl_0 ?_
  refine g_ldc2 99 C 6 rfl dX9_quarrel_3 k_X9_97 ?_
  obtain ⟨r1, hz2, hq⟩ := bindE hq
  refine g_callRS (rest := []) C 9 rfl dX9_quarrel_6 (c_X9_in Γ.2.1 Δ  (Int32.toInt64 x1) 0 99  hz2) mv_X9_in (Or.inl ml_X9_90) hK rfl rfl ⟨Nat.le_of_ble_eq_true rfl, Nat.le_of_ble_eq_true rfl⟩ (Nat.le_of_ble_eq_true rfl) ⟨Nat.zero_le _, Nat.zero_le _⟩ ?_
  refine s_if_eq C 34 12 rfl dX9_quarrel_9 (by decide) hq (fun hq => ?_) (fun hq => ?_)
  · refine g_bipush (-2) C 36 rfl dX9_quarrel_34 kb_m2 ?_
    exact r_int hR hq dX9_quarrel_36 rfl rfl
  refine g_iload_n C 13 rfl dX9_quarrel_12 2 rfl ?_
  refine g_i2l C 14 rfl dX9_quarrel_13 ?_
  refine g_lconst 1 C 15 rfl dX9_quarrel_14 kl_1 ?_
  refine g_ldc2 9 C 18 rfl dX9_quarrel_15 k_X9_101 ?_
  obtain ⟨r3, hz4, hq⟩ := bindE hq
  refine g_callRS (rest := []) C 21 rfl dX9_quarrel_18 (c_X9_in Γ.2.1 Δ  (Int32.toInt64 x2) 1 9  hz4) mv_X9_in (Or.inl ml_X9_90) hK rfl rfl ⟨Nat.le_of_ble_eq_true rfl, Nat.le_of_ble_eq_true rfl⟩ (Nat.le_of_ble_eq_true rfl) ⟨Nat.zero_le _, Nat.zero_le _⟩ ?_
  refine s_if_eq C 34 24 rfl dX9_quarrel_21 (by decide) hq (fun hq => ?_) (fun hq => ?_)
  · refine g_bipush (-2) C 36 rfl dX9_quarrel_34 kb_m2 ?_
    exact r_int hR hq dX9_quarrel_36 rfl rfl
  refine g_iload_n C 25 rfl dX9_quarrel_24 3 rfl ?_
  refine g_i2l C 26 rfl dX9_quarrel_25 ?_
  refine g_lconst 0 C 27 rfl dX9_quarrel_26 kl_0 ?_
  refine g_lconst 1 C 28 rfl dX9_quarrel_27 kl_1 ?_
  obtain ⟨r5, hz6, hq⟩ := bindE hq
  refine g_callRS (rest := []) C 31 rfl dX9_quarrel_28 (c_X9_in Γ.2.1 Δ  (Int32.toInt64 x3) 0 1  hz6) mv_X9_in (Or.inl ml_X9_90) hK rfl rfl ⟨Nat.le_of_ble_eq_true rfl, Nat.le_of_ble_eq_true rfl⟩ (Nat.le_of_ble_eq_true rfl) ⟨Nat.zero_le _, Nat.zero_le _⟩ ?_
  refine s_if_ne C 37 34 rfl dX9_quarrel_31 (by decide) hq (fun hq => ?_) (fun hq => ?_)
  rotate_left
  · refine g_bipush (-2) C 36 rfl dX9_quarrel_34 kb_m2 ?_
    exact r_int hR hq dX9_quarrel_36 rfl rfl
  refine g_iload_n C 38 rfl dX9_quarrel_37 1 rfl ?_
  refine g_iload_n C 39 rfl dX9_quarrel_38 2 rfl ?_
  refine g_iconst 1 C 40 rfl dX9_quarrel_39 ki_1 ?_
  refine g_iadd C 41 rfl dX9_quarrel_40 ?_
  obtain ⟨hz7, hq⟩ := dz_some hq
  refine g_irem C 42 rfl dX9_quarrel_41 hz7 ?_
  refine g_istore [(4, .int (jrem x1 (x2 + 1))), (0, .ref (a 0)), (1, .int x1), (2, .int x2), (3, .int x3)] C 44 rfl dX9_quarrel_42 (Nat.le_of_ble_eq_true rfl) rfl ?_
  refine g_iload_n C 45 rfl dX9_quarrel_44 4 rfl ?_
  refine s_if_ne C 61 48 rfl dX9_quarrel_45 (by decide) hq (fun hq => ?_) (fun hq => ?_)
  · refine g_iload C 63 rfl dX9_quarrel_61 0 rfl ?_
    refine s_if_le C 71 66 rfl dX9_quarrel_63 (by decide) hq (fun hq => ?_) (fun hq => ?_)
    · refine g_bipush (-6) C 73 rfl dX9_quarrel_71 kb_m6 ?_
      exact r_int hR hq dX9_quarrel_73 rfl rfl
    refine g_iload C 68 rfl dX9_quarrel_66 0 rfl ?_
    refine g_goto C 73 dX9_quarrel_68 (by decide) ?_
    exact r_int hR hq dX9_quarrel_73 rfl rfl
  refine g_iload C 50 rfl dX9_quarrel_48 0 rfl ?_
  refine s_if_le C 57 53 rfl dX9_quarrel_50 (by decide) hq (fun hq => ?_) (fun hq => ?_)
  · refine g_iconst 0 C 58 rfl dX9_quarrel_57 ki_0 ?_
    refine g_goto C 73 dX9_quarrel_58 (by decide) ?_
    exact r_int hR hq dX9_quarrel_73 rfl rfl
  refine g_iconst 1 C 54 rfl dX9_quarrel_53 ki_1 ?_
  refine g_goto C 73 dX9_quarrel_54 (by decide) ?_
  exact r_int hR hq dX9_quarrel_73 rfl rfl
set_option maxHeartbeats 400000 in
set_option maxRecDepth 100000 in
theorem c_X9_actBy (l : Launch) (Δ : gD)  (x0 : Int32)  {res : Int32} (hq : sem_X9_actBy x0  = some res) : MR l yX9_actBy cX9_actBy 1 (some .int) Δ ([]) [.int x0] 0 0 (.int res) := by
  refine MR.of (by decide) (Nat.le_of_ble_eq_true rfl) ?_
  intro Γ H hl C hK hP hR
  subst hl
  show g Γ { frames := 0, cells := 0, slots := 0, locals := 0 } 1 H [] 0 0 0 [(0, .int x0)] []
  refine g_iload_n C 1 rfl dX9_actBy_0 0 rfl ?_
  refine g_iconst 3 C 2 rfl dX9_actBy_1 ki_3 ?_
  refine s_icmp_ge C 9 5 rfl dX9_actBy_2 (by decide) hq (fun hq => ?_) (fun hq => ?_)
  rotate_left
  · refine g_iconst 0 C 6 rfl dX9_actBy_5 ki_0 ?_
    refine g_goto C 38 dX9_actBy_6 (by decide) ?_
    exact r_int hR hq dX9_actBy_38 rfl rfl
  refine g_iload_n C 10 rfl dX9_actBy_9 0 rfl ?_
  refine g_iconst 5 C 11 rfl dX9_actBy_10 ki_5 ?_
  refine s_icmp_ge C 18 14 rfl dX9_actBy_11 (by decide) hq (fun hq => ?_) (fun hq => ?_)
  rotate_left
  · refine g_iconst 1 C 15 rfl dX9_actBy_14 ki_1 ?_
    refine g_goto C 38 dX9_actBy_15 (by decide) ?_
    exact r_int hR hq dX9_actBy_38 rfl rfl
  refine g_iload_n C 19 rfl dX9_actBy_18 0 rfl ?_
  refine g_iconst 5 C 20 rfl dX9_actBy_19 ki_5 ?_
  refine s_icmp_ne C 27 23 rfl dX9_actBy_20 (by decide) hq (fun hq => ?_) (fun hq => ?_)
  rotate_left
  · refine g_iconst 2 C 24 rfl dX9_actBy_23 ki_2 ?_
    refine g_goto C 38 dX9_actBy_24 (by decide) ?_
    exact r_int hR hq dX9_actBy_38 rfl rfl
  refine g_iload_n C 28 rfl dX9_actBy_27 0 rfl ?_
  refine g_bipush 6 C 30 rfl dX9_actBy_28 kb_6 ?_
  refine s_icmp_ne C 37 33 rfl dX9_actBy_30 (by decide) hq (fun hq => ?_) (fun hq => ?_)
  · refine g_iconst 4 C 38 rfl dX9_actBy_37 ki_4 ?_
    exact r_int hR hq dX9_actBy_38 rfl rfl
  refine g_iconst 3 C 34 rfl dX9_actBy_33 ki_3 ?_
  refine g_goto C 38 dX9_actBy_34 (by decide) ?_
  exact r_int hR hq dX9_actBy_38 rfl rfl
