set_option maxHeartbeats 400000 in
set_option maxRecDepth 100000 in
theorem c_X9_year (l : Launch) (Δ : gD) (a : Nat → Nat) (x1 : Int32) (x2 : Int32) (x3 : Int32) (s : S9) {res : Int32 × S9} (hq : sem_X9_year x1 x2 x3 s = some res) : MW l yX9_year cX9_year 10 (some .int) Δ (cs9 a Δ s) [.ref (a 0), .int x1, .int x2, .int x3] 6 140 (some (.int res.1)) (cs9 a Δ res.2) := by
  refine MW.of (by decide) (Nat.le_of_ble_eq_true rfl) ?_
  intro Γ A H hl C hK hP hD hS hA hR
  subst hl
  show g Γ { frames := 6, cells := 0, slots := 0, locals := 140 } 10 H [] 0 0 0 [(0, .ref (a 0)), (1, .int x1), (2, .int x2), (3, .int x3)] []
  refine g_iload_n C 1 rfl dX9_year_0 1 rfl ?_
  refine g_i2l C 2 rfl dX9_year_1 ?_
  refine g_lconst 0 C 3 rfl dX9_year_2 kl_0 ?_
  refine g_ldc2 9999 C 6 rfl dX9_year_3 k_X9_326 ?_
  obtain ⟨r1, hz2, hq⟩ := bindE hq
  refine g_callRS (rest := []) C 9 rfl dX9_year_6 (c_X9_in Γ.2.1 Δ  (Int32.toInt64 x1) 0 9999  hz2) mv_X9_in (Or.inl ml_X9_90) hK rfl rfl ⟨Nat.le_of_ble_eq_true rfl, Nat.le_of_ble_eq_true rfl⟩ (Nat.le_of_ble_eq_true rfl) ⟨Nat.zero_le _, Nat.zero_le _⟩ ?_
  refine s_if_eq C 36 12 rfl dX9_year_9 (by decide) hq (fun hq => ?_) (fun hq => ?_)
  · refine g_bipush (-2) C 38 rfl dX9_year_36 kb_m2 ?_
    exact w_int (ws := fun s => cs9 a Δ s) hR hq hP hS dX9_year_38 rfl rfl
  refine g_iload_n C 13 rfl dX9_year_12 2 rfl ?_
  refine g_i2l C 14 rfl dX9_year_13 ?_
  refine g_lconst 1 C 15 rfl dX9_year_14 kl_1 ?_
  refine g_ldc2 99 C 18 rfl dX9_year_15 k_X9_97 ?_
  obtain ⟨r3, hz4, hq⟩ := bindE hq
  refine g_callRS (rest := []) C 21 rfl dX9_year_18 (c_X9_in Γ.2.1 Δ  (Int32.toInt64 x2) 1 99  hz4) mv_X9_in (Or.inl ml_X9_90) hK rfl rfl ⟨Nat.le_of_ble_eq_true rfl, Nat.le_of_ble_eq_true rfl⟩ (Nat.le_of_ble_eq_true rfl) ⟨Nat.zero_le _, Nat.zero_le _⟩ ?_
  refine s_if_eq C 36 24 rfl dX9_year_21 (by decide) hq (fun hq => ?_) (fun hq => ?_)
  · refine g_bipush (-2) C 38 rfl dX9_year_36 kb_m2 ?_
    exact w_int (ws := fun s => cs9 a Δ s) hR hq hP hS dX9_year_38 rfl rfl
  refine g_iload_n C 25 rfl dX9_year_24 3 rfl ?_
  refine g_i2l C 26 rfl dX9_year_25 ?_
  refine g_lconst 0 C 27 rfl dX9_year_26 kl_0 ?_
  refine g_ldc2 2 C 30 rfl dX9_year_27 k_X9_228 ?_
  obtain ⟨r5, hz6, hq⟩ := bindE hq
  refine g_callRS (rest := []) C 33 rfl dX9_year_30 (c_X9_in Γ.2.1 Δ  (Int32.toInt64 x3) 0 2  hz6) mv_X9_in (Or.inl ml_X9_90) hK rfl rfl ⟨Nat.le_of_ble_eq_true rfl, Nat.le_of_ble_eq_true rfl⟩ (Nat.le_of_ble_eq_true rfl) ⟨Nat.zero_le _, Nat.zero_le _⟩ ?_
  refine s_if_ne C 39 36 rfl dX9_year_33 (by decide) hq (fun hq => ?_) (fun hq => ?_)
  rotate_left
  · refine g_bipush (-2) C 38 rfl dX9_year_36 kb_m2 ?_
    exact w_int (ws := fun s => cs9 a Δ s) hR hq hP hS dX9_year_38 rfl rfl
  refine g_aload_n C 40 rfl dX9_year_39 0 rfl ?_
  refine g_aload_n C 41 rfl dX9_year_40 0 rfl ?_
  refine g_get (v := .ref (a 14)) (fs := fl9 a s) C 44 rfl dX9_year_41 hK hP la_X9 0 25 (Nat.le_of_ble_eq_true rfl) fl_X9_49 rfl rfl rfl rfl ?_
  obtain ⟨r7, hz8, hq⟩ := bindE hq
  refine g_callWV (rest := []) (cs9 a Δ r7) C 47 rfl dX9_year_44 (c_X9_store_had Γ.2.1 Δ a  s hz8) mv_X9_store ml_X9_218 hK hP hD hS hA (scl_101 a Δ s r7) rfl rfl rfl rfl rfl ⟨Nat.le_of_ble_eq_true rfl, Nat.le_of_ble_eq_true rfl⟩ (Nat.le_of_ble_eq_true rfl) ⟨Nat.zero_le _, Nat.zero_le _⟩ (fun H L hP hD hS => ?_)
  refine g_aload_n C 48 rfl dX9_year_47 0 rfl ?_
  obtain ⟨r9, hz10, hq⟩ := bindE hq
  refine g_callWV (rest := []) (cs9 a Δ r9) C 51 rfl dX9_year_48 (c_X9_beginCount Γ.2.1 Δ a  r7 hz10) mv_X9_beginCount ml_X9_198 hK hP hD hS hA (scl_101 a Δ r7 r9) rfl rfl rfl rfl rfl ⟨Nat.le_of_ble_eq_true rfl, Nat.le_of_ble_eq_true rfl⟩ (Nat.le_of_ble_eq_true rfl) ⟨Nat.zero_le _, Nat.zero_le _⟩ (fun H L hP hD hS => ?_)
  refine g_iload_n C 52 rfl dX9_year_51 1 rfl ?_
  refine g_istore [(4, .int x1), (0, .ref (a 0)), (1, .int x1), (2, .int x2), (3, .int x3)] C 54 rfl dX9_year_52 (Nat.le_of_ble_eq_true rfl) rfl ?_
  refine g_iconst 0 C 55 rfl dX9_year_54 ki_0 ?_
  refine g_istore [(5, .int 0), (4, .int x1), (0, .ref (a 0)), (1, .int x1), (2, .int x2), (3, .int x3)] C 57 rfl dX9_year_55 (Nat.le_of_ble_eq_true rfl) rfl ?_
  have Q57 : ∀ (x2 : Int32) (x3 : Int32), ∀ (n : Nat) (x4 : Int32) (x5 : Int32) (s : S9) (o : (S9)) (H : Heap) (L : List Loc) (hP : va_P Δ.1 classes (cs9 a Δ s) H) (hD : va_D A (cs9 a Δ s)) (hS : va_S A (sOf Γ).heap H L) (hq : lp_X9_year_57 x2 x3 n x4 x5 s = some o) (E2 : ∀ (H : Heap) (L : List Loc), va_P Δ.1 classes (cs9 a Δ o) H → va_D A (cs9 a Δ o) → va_S A (sOf Γ).heap H L → g Γ { frames := 6, cells := 0, slots := 0, locals := 140 } 10 H L 0 0 210 [(0, .ref (a 0)), (3, .int x3)] []), g Γ { frames := 6, cells := 0, slots := 0, locals := 140 } 10 H L 0 0 57 [(0, .ref (a 0)), (2, .int x2), (3, .int x3), (4, .int x4), (5, .int x5)] [] := by
    intro x2 x3
    intro n
    induction n with
    | zero => intro x4 x5 s o H L hP hD hS hq; exact nomatch (show (none : Option (S9)) = some o from hq)
    | succ n ih =>
      intro x4 x5 s o H L hP hD hS hq E2
      have hq : bd_X9_year_57 x2 x3 (lp_X9_year_57 x2 x3 n) x4 x5 s = some o := hq
      have K169 : ∀ (x4 : Int32) (x5 : Int32) (x6 : Int32) (x8 : Int32) (y0 : Int32) (s : S9) (H : Heap) (L : List Loc) (hP : va_P Δ.1 classes (cs9 a Δ s) H) (hD : va_D A (cs9 a Δ s)) (hS : va_S A (sOf Γ).heap H L), jn_X9_year_169 (lp_X9_year_57 x2 x3 n) x2 x3 x4 x5 x6 x8 y0 s = some o → g Γ { frames := 6, cells := 0, slots := 0, locals := 140 } 10 H L 0 0 169 [(0, .ref (a 0)), (2, .int x2), (3, .int x3), (4, .int x4), (5, .int x5), (6, .int x6), (8, .int x8)] [.int y0] := by
        intro x4 x5 x6 x8 y0 s H L hP hD hS hq
        refine g_istore [(9, .int y0), (0, .ref (a 0)), (2, .int x2), (3, .int x3), (4, .int x4), (5, .int x5), (6, .int x6), (8, .int x8)] C 171 rfl dX9_year_169 (Nat.le_of_ble_eq_true rfl) rfl ?_
        refine g_aload_n C 172 rfl dX9_year_171 1 rfl ?_
        refine g_iload C 174 rfl dX9_year_172 6 rfl ?_
        refine g_iload C 176 rfl dX9_year_174 4 rfl ?_
        refine g_bipush 6 C 178 rfl dX9_year_176 kb_6 ?_
        refine g_irem C 179 rfl dX9_year_178 (by decide) ?_
        refine g_iload C 181 rfl dX9_year_179 7 rfl ?_
        refine g_iload C 183 rfl dX9_year_181 0 rfl ?_
        obtain ⟨r11, hz12, hq⟩ := bindE hq
        refine g_callRV (rest := []) C 186 rfl dX9_year_183 (c_X9_whyNot Γ.2.1 Δ a x6 (jrem x4 6) x8 y0 s hz12) mv_X9_whyNot ml_X9_207 hK hP rfl rfl rfl rfl rfl ⟨Nat.le_of_ble_eq_true rfl, Nat.le_of_ble_eq_true rfl⟩ (Nat.le_of_ble_eq_true rfl) ⟨Nat.zero_le _, Nat.zero_le _⟩ ?_
        refine s_if_ne C 204 189 rfl dX9_year_186 (by decide) hq (fun hq => ?_) (fun hq => ?_)
        · refine g_iinc (x5 + 1) [(5, .int (x5 + 1)), (9, .int y0), (0, .ref (a 0)), (2, .int x2), (3, .int x3), (4, .int x4), (6, .int x6), (8, .int x8)] C 207 rfl dX9_year_204 5 rfl (ii_1 _) (Nat.le_of_ble_eq_true rfl) rfl ?_
          refine g_goto C 57 dX9_year_207 (by decide) ?_
          exact g_sub [2, 3, 4, 5, 0] rfl (ih x4 (x5 + 1) s _ _ _ hP hD hS hq E2)
        refine g_aload_n C 190 rfl dX9_year_189 1 rfl ?_
        refine g_iload C 192 rfl dX9_year_190 6 rfl ?_
        refine g_iload C 194 rfl dX9_year_192 4 rfl ?_
        refine g_bipush 6 C 196 rfl dX9_year_194 kb_6 ?_
        refine g_irem C 197 rfl dX9_year_196 (by decide) ?_
        refine g_iload C 199 rfl dX9_year_197 7 rfl ?_
        refine g_iload C 201 rfl dX9_year_199 0 rfl ?_
        obtain ⟨r13, hz14, hq⟩ := bindE hq
        refine g_callWV (rest := []) (cs9 a Δ r13) C 204 rfl dX9_year_201 (c_X9_happen Γ.2.1 Δ a x6 (jrem x4 6) x8 y0 s hz14) mv_X9_happen ml_X9_211 hK hP hD hS hA (scl_101 a Δ s r13) rfl rfl rfl rfl rfl ⟨Nat.le_of_ble_eq_true rfl, Nat.le_of_ble_eq_true rfl⟩ (Nat.le_of_ble_eq_true rfl) ⟨Nat.zero_le _, Nat.zero_le _⟩ (fun H L hP hD hS => ?_)
        refine g_iinc (x5 + 1) [(5, .int (x5 + 1)), (9, .int y0), (0, .ref (a 0)), (2, .int x2), (3, .int x3), (4, .int x4), (6, .int x6), (8, .int x8)] C 207 rfl dX9_year_204 5 rfl (ii_1 _) (Nat.le_of_ble_eq_true rfl) rfl ?_
        refine g_goto C 57 dX9_year_207 (by decide) ?_
        exact g_sub [2, 3, 4, 5, 0] rfl (ih x4 (x5 + 1) r13 _ _ _ hP hD hS hq E2)
      have K118 : ∀ (x4 : Int32) (x5 : Int32) (x6 : Int32) (x7 : Int32) (y0 : Int32) (s : S9) (H : Heap) (L : List Loc) (hP : va_P Δ.1 classes (cs9 a Δ s) H) (hD : va_D A (cs9 a Δ s)) (hS : va_S A (sOf Γ).heap H L), jn_X9_year_118 (lp_X9_year_57 x2 x3 n) x2 x3 x4 x5 x6 x7 y0 s = some o → g Γ { frames := 6, cells := 0, slots := 0, locals := 140 } 10 H L 0 0 118 [(0, .ref (a 0)), (2, .int x2), (3, .int x3), (4, .int x4), (5, .int x5), (6, .int x6), (7, .int x7)] [.int y0] := by
        intro x4 x5 x6 x7 y0 s H L hP hD hS hq
        refine g_istore [(8, .int y0), (0, .ref (a 0)), (2, .int x2), (3, .int x3), (4, .int x4), (5, .int x5), (6, .int x6), (7, .int x7)] C 120 rfl dX9_year_118 (Nat.le_of_ble_eq_true rfl) rfl ?_
        refine g_iload C 122 rfl dX9_year_120 6 rfl ?_
        refine s_if_ne C 139 125 rfl dX9_year_122 (by decide) hq (fun hq => ?_) (fun hq => ?_)
        rotate_left
        · refine g_iconst 1 C 126 rfl dX9_year_125 ki_1 ?_
          refine g_iload C 128 rfl dX9_year_126 4 rfl ?_
          refine g_sipush 192 C 131 rfl dX9_year_128 ks_192 ?_
          refine g_idiv C 132 rfl dX9_year_131 (by decide) ?_
          refine g_bipush 9 C 134 rfl dX9_year_132 kb_9 ?_
          refine g_irem C 135 rfl dX9_year_134 (by decide) ?_
          refine g_iadd C 136 rfl dX9_year_135 ?_
          refine g_goto C 169 dX9_year_136 (by decide) ?_
          exact g_sub [1, 2, 3, 4, 5, 6, 0] rfl (K169 x4 x5 x6 y0 (1 + (jrem (x4 / 192) 9)) s _ _ hP hD hS hq)
        refine g_iload C 141 rfl dX9_year_139 6 rfl ?_
        refine g_iconst 1 C 142 rfl dX9_year_141 ki_1 ?_
        refine s_icmp_ne C 154 145 rfl dX9_year_142 (by decide) hq (fun hq => ?_) (fun hq => ?_)
        rotate_left
        · refine g_iconst 1 C 146 rfl dX9_year_145 ki_1 ?_
          refine g_iload C 148 rfl dX9_year_146 7 rfl ?_
          refine g_iconst 5 C 149 rfl dX9_year_148 ki_5 ?_
          refine g_irem C 150 rfl dX9_year_149 (by decide) ?_
          refine g_iadd C 151 rfl dX9_year_150 ?_
          refine g_goto C 169 dX9_year_151 (by decide) ?_
          exact g_sub [1, 2, 3, 4, 5, 6, 0] rfl (K169 x4 x5 x6 y0 (1 + (jrem x7 5)) s _ _ hP hD hS hq)
        refine g_iload C 156 rfl dX9_year_154 6 rfl ?_
        refine g_iconst 2 C 157 rfl dX9_year_156 ki_2 ?_
        refine s_icmp_ne C 164 160 rfl dX9_year_157 (by decide) hq (fun hq => ?_) (fun hq => ?_)
        rotate_left
        · refine g_iconst 1 C 161 rfl dX9_year_160 ki_1 ?_
          refine g_goto C 169 dX9_year_161 (by decide) ?_
          exact g_sub [1, 2, 3, 4, 5, 6, 0] rfl (K169 x4 x5 x6 y0 1 s _ _ hP hD hS hq)
        refine g_iload C 166 rfl dX9_year_164 7 rfl ?_
        refine g_bipush 10 C 168 rfl dX9_year_166 kb_10 ?_
        refine g_irem C 169 rfl dX9_year_168 (by decide) ?_
        exact g_sub [1, 2, 3, 4, 5, 6, 0] rfl (K169 x4 x5 x6 y0 (jrem x7 10) s _ _ hP hD hS hq)
      refine g_iload C 59 rfl dX9_year_57 4 rfl ?_
      refine g_iload_n C 60 rfl dX9_year_59 1 rfl ?_
      refine s_icmp_ge C 210 63 rfl dX9_year_60 (by decide) hq (fun hq => ?_) (fun hq => ?_)
      · cases hq
        exact g_sub [0, 2] rfl (E2 _ _ hP hD hS)
      refine g_ldc2 75 C 66 rfl dX9_year_63 k_X9_328 ?_
      refine g_iload C 68 rfl dX9_year_66 3 rfl ?_
      refine g_i2l C 69 rfl dX9_year_68 ?_
      refine g_lmul C 70 rfl dX9_year_69 ?_
      refine g_ldc2 74 C 73 rfl dX9_year_70 k_X9_330 ?_
      refine g_ladd C 74 rfl dX9_year_73 ?_
      refine g_ldc2 65537 C 77 rfl dX9_year_74 k_X9_332 ?_
      refine g_lrem C 78 rfl dX9_year_77 (by decide) ?_
      refine g_l2i C 79 rfl dX9_year_78 ?_
      refine g_istore [(4, .int (Int64.toInt32 (jreml ((75 * (Int32.toInt64 x4)) + 74) 65537))), (0, .ref (a 0)), (2, .int x2), (3, .int x3), (5, .int x5)] C 81 rfl dX9_year_79 (Nat.le_of_ble_eq_true rfl) rfl ?_
      refine g_iload C 83 rfl dX9_year_81 0 rfl ?_
      refine g_bipush 6 C 85 rfl dX9_year_83 kb_6 ?_
      refine g_idiv C 86 rfl dX9_year_85 (by decide) ?_
      refine g_bipush 8 C 88 rfl dX9_year_86 kb_8 ?_
      refine g_irem C 89 rfl dX9_year_88 (by decide) ?_
      obtain ⟨r15, hz16, hq⟩ := bindE hq
      refine g_callRS (rest := []) C 92 rfl dX9_year_89 (c_X9_actBy Γ.2.1 Δ  (jrem ((Int64.toInt32 (jreml ((75 * (Int32.toInt64 x4)) + 74) 65537)) / 6) 8)  hz16) mv_X9_actBy (Or.inl ml_X9_334) hK rfl rfl ⟨Nat.le_of_ble_eq_true rfl, Nat.le_of_ble_eq_true rfl⟩ (Nat.le_of_ble_eq_true rfl) ⟨Nat.zero_le _, Nat.zero_le _⟩ ?_
      refine g_istore [(6, .int r15), (4, .int (Int64.toInt32 (jreml ((75 * (Int32.toInt64 x4)) + 74) 65537))), (0, .ref (a 0)), (2, .int x2), (3, .int x3), (5, .int x5)] C 94 rfl dX9_year_92 (Nat.le_of_ble_eq_true rfl) rfl ?_
      refine g_iload C 96 rfl dX9_year_94 1 rfl ?_
      refine g_bipush 48 C 98 rfl dX9_year_96 kb_48 ?_
      refine g_idiv C 99 rfl dX9_year_98 (by decide) ?_
      refine g_istore [(7, .int ((Int64.toInt32 (jreml ((75 * (Int32.toInt64 x4)) + 74) 65537)) / 48)), (6, .int r15), (4, .int (Int64.toInt32 (jreml ((75 * (Int32.toInt64 x4)) + 74) 65537))), (0, .ref (a 0)), (2, .int x2), (3, .int x3), (5, .int x5)] C 101 rfl dX9_year_99 (Nat.le_of_ble_eq_true rfl) rfl ?_
      refine g_iload C 103 rfl dX9_year_101 1 rfl ?_
      refine s_if_ne C 113 106 rfl dX9_year_103 (by decide) hq (fun hq => ?_) (fun hq => ?_)
      · refine g_iload C 115 rfl dX9_year_113 0 rfl ?_
        refine g_bipush 6 C 117 rfl dX9_year_115 kb_6 ?_
        refine g_irem C 118 rfl dX9_year_117 (by decide) ?_
        exact g_sub [3, 4, 5, 2, 6, 1, 0] rfl (K118 (Int64.toInt32 (jreml ((75 * (Int32.toInt64 x4)) + 74) 65537)) x5 r15 ((Int64.toInt32 (jreml ((75 * (Int32.toInt64 x4)) + 74) 65537)) / 48) (jrem ((Int64.toInt32 (jreml ((75 * (Int32.toInt64 x4)) + 74) 65537)) / 48) 6) s _ _ hP hD hS hq)
      refine g_iload C 108 rfl dX9_year_106 0 rfl ?_
      refine g_iconst 4 C 109 rfl dX9_year_108 ki_4 ?_
      refine g_irem C 110 rfl dX9_year_109 (by decide) ?_
      refine g_goto C 118 dX9_year_110 (by decide) ?_
      exact g_sub [3, 4, 5, 2, 6, 1, 0] rfl (K118 (Int64.toInt32 (jreml ((75 * (Int32.toInt64 x4)) + 74) 65537)) x5 r15 ((Int64.toInt32 (jreml ((75 * (Int32.toInt64 x4)) + 74) 65537)) / 48) (jrem ((Int64.toInt32 (jreml ((75 * (Int32.toInt64 x4)) + 74) 65537)) / 48) 4) s _ _ hP hD hS hq)
  obtain ⟨o17, ho18, hq⟩ := bindE hq
  refine g_sub [2, 4, 5, 1, 0] rfl (Q57 x2 x3 FUEL x1 0 r9 o17 _ _ hP hD hS ho18 (fun H L hP hD hS => ?_))
  refine g_iconst 0 C 211 rfl dX9_year_210 ki_0 ?_
  refine g_istore [(5, .int 0), (0, .ref (a 0)), (3, .int x3)] C 213 rfl dX9_year_211 (Nat.le_of_ble_eq_true rfl) rfl ?_
  refine g_iconst 0 C 214 rfl dX9_year_213 ki_0 ?_
  refine g_istore [(6, .int 0), (5, .int 0), (0, .ref (a 0)), (3, .int x3)] C 216 rfl dX9_year_214 (Nat.le_of_ble_eq_true rfl) rfl ?_
  have Q216 : ∀ (s : S9) (H : Heap) (L : List Loc) (hP : va_P Δ.1 classes (cs9 a Δ s) H) (hD : va_D A (cs9 a Δ s)) (hS : va_S A (sOf Γ).heap H L) (x3 : Int32), ∀ (n : Nat) (x5 : Int32) (x6 : Int32) (o : (Int32)) (hq : lp_X9_year_216 x3 s n x5 x6 = some o) (E2 : g Γ { frames := 6, cells := 0, slots := 0, locals := 140 } 10 H L 0 0 254 [(0, .ref (a 0)), (3, .int x3), (5, .int o)] []), g Γ { frames := 6, cells := 0, slots := 0, locals := 140 } 10 H L 0 0 216 [(0, .ref (a 0)), (3, .int x3), (5, .int x5), (6, .int x6)] [] := by
    intro s H L hP hD hS
    intro x3
    intro n
    induction n with
    | zero => intro x5 x6 o hq; exact nomatch (show (none : Option (Int32)) = some o from hq)
    | succ n ih =>
      intro x5 x6 o hq E2
      have hq : bd_X9_year_216 x3 s (lp_X9_year_216 x3 s n) x5 x6 = some o := hq
      refine g_iload C 218 rfl dX9_year_216 3 rfl ?_
      refine g_bipush 6 C 220 rfl dX9_year_218 kb_6 ?_
      refine s_icmp_ge C 254 223 rfl dX9_year_220 (by decide) hq (fun hq => ?_) (fun hq => ?_)
      · cases hq
        exact g_sub [0, 1, 2] rfl (E2 )
      refine g_iload C 225 rfl dX9_year_223 2 rfl ?_
      refine g_aload_n C 226 rfl dX9_year_225 0 rfl ?_
      refine g_iload C 228 rfl dX9_year_226 3 rfl ?_
      obtain ⟨r19, hz20, hq⟩ := bindE hq
      refine g_callRV (rest := [.int x5]) C 231 rfl dX9_year_228 (c_X9_isOne Γ.2.1 Δ a x6 s hz20) mv_X9_isOne ml_X9_107 hK hP rfl rfl rfl rfl rfl ⟨Nat.le_of_ble_eq_true rfl, Nat.le_of_ble_eq_true rfl⟩ (Nat.le_of_ble_eq_true rfl) ⟨Nat.zero_le _, Nat.zero_le _⟩ ?_
      refine s_if_eq C 244 234 rfl dX9_year_231 (by decide) hq (fun hq => ?_) (fun hq => ?_)
      · refine g_iconst 0 C 245 rfl dX9_year_244 ki_0 ?_
        refine g_iadd C 246 rfl dX9_year_245 ?_
        refine g_istore [(5, .int (x5 + 0)), (0, .ref (a 0)), (3, .int x3), (6, .int x6)] C 248 rfl dX9_year_246 (Nat.le_of_ble_eq_true rfl) rfl ?_
        refine g_iinc (x6 + 1) [(6, .int (x6 + 1)), (5, .int (x5 + 0)), (0, .ref (a 0)), (3, .int x3)] C 251 rfl dX9_year_248 3 rfl (ii_1 _) (Nat.le_of_ble_eq_true rfl) rfl ?_
        refine g_goto C 216 dX9_year_251 (by decide) ?_
        exact g_sub [2, 3, 1, 0] rfl (ih (x5 + 0) (x6 + 1) _ hq E2)
      refine g_aload_n C 235 rfl dX9_year_234 0 rfl ?_
      refine g_get (v := .ref (a 1)) (fs := fl9 a s) C 238 rfl dX9_year_235 hK hP la_X9 0 3 (Nat.le_of_ble_eq_true rfl) fl_X9_7 rfl rfl rfl rfl ?_
      refine g_iload C 240 rfl dX9_year_238 3 rfl ?_
      refine s_iald C 241 rfl dX9_year_240 hK hP 1 rfl hq (fun hq hi21 => ?_)
      refine g_goto C 245 dX9_year_241 (by decide) ?_
      refine g_iadd C 246 rfl dX9_year_245 ?_
      refine g_istore [(5, .int (x5 + ((x9_temper s) (x6 : Int32).toNatClampNeg))), (0, .ref (a 0)), (3, .int x3), (6, .int x6)] C 248 rfl dX9_year_246 (Nat.le_of_ble_eq_true rfl) rfl ?_
      refine g_iinc (x6 + 1) [(6, .int (x6 + 1)), (5, .int (x5 + ((x9_temper s) (x6 : Int32).toNatClampNeg))), (0, .ref (a 0)), (3, .int x3)] C 251 rfl dX9_year_248 3 rfl (ii_1 _) (Nat.le_of_ble_eq_true rfl) rfl ?_
      refine g_goto C 216 dX9_year_251 (by decide) ?_
      exact g_sub [2, 3, 1, 0] rfl (ih (x5 + ((x9_temper s) (x6 : Int32).toNatClampNeg)) (x6 + 1) _ hq E2)
  obtain ⟨o22, ho23, hq⟩ := bindE hq
  refine g_sub [2, 3, 1, 0] rfl (Q216 o17 _ _ hP hD hS x3 FUEL 0 0 o22 ho23 (?_))
  refine g_aload_n C 255 rfl dX9_year_254 0 rfl ?_
  refine g_aload_n C 256 rfl dX9_year_255 0 rfl ?_
  refine g_get (v := .ref (a 14)) (fs := fl9 a o17) C 259 rfl dX9_year_256 hK hP la_X9 0 25 (Nat.le_of_ble_eq_true rfl) fl_X9_49 rfl rfl rfl rfl ?_
  obtain ⟨r24, hz25, hq⟩ := bindE hq
  refine g_callWV (rest := []) (cs9 a Δ r24) C 262 rfl dX9_year_259 (c_X9_lay_had Γ.2.1 Δ a  o17 hz25) mv_X9_lay ml_X9_225 hK hP hD hS hA (scl_101 a Δ o17 r24) rfl rfl rfl rfl rfl ⟨Nat.le_of_ble_eq_true rfl, Nat.le_of_ble_eq_true rfl⟩ (Nat.le_of_ble_eq_true rfl) ⟨Nat.zero_le _, Nat.zero_le _⟩ (fun H L hP hD hS => ?_)
  refine g_iload_n C 263 rfl dX9_year_262 1 rfl ?_
  refine s_if_ne C 273 266 rfl dX9_year_263 (by decide) hq (fun hq => ?_) (fun hq => ?_)
  rotate_left
  · refine g_aload_n C 267 rfl dX9_year_266 0 rfl ?_
    refine g_get (v := .int (x9_slipMany r24)) (fs := fl9 a r24) C 270 rfl dX9_year_267 hK hP la_X9 0 19 (Nat.le_of_ble_eq_true rfl) fl_X9_172 rfl rfl rfl rfl ?_
    refine g_goto C 287 dX9_year_270 (by decide) ?_
    exact w_int (ws := fun s => cs9 a Δ s) hR hq hP hS dX9_year_287 rfl rfl
  refine g_iload_n C 274 rfl dX9_year_273 1 rfl ?_
  refine g_iconst 1 C 275 rfl dX9_year_274 ki_1 ?_
  refine s_icmp_ne C 285 278 rfl dX9_year_275 (by decide) hq (fun hq => ?_) (fun hq => ?_)
  · refine g_iload C 287 rfl dX9_year_285 2 rfl ?_
    exact w_int (ws := fun s => cs9 a Δ s) hR hq hP hS dX9_year_287 rfl rfl
  refine g_aload_n C 279 rfl dX9_year_278 0 rfl ?_
  refine g_get (v := .int (x9_paid r24)) (fs := fl9 a r24) C 282 rfl dX9_year_279 hK hP la_X9 0 23 (Nat.le_of_ble_eq_true rfl) fl_X9_169 rfl rfl rfl rfl ?_
  refine g_goto C 287 dX9_year_282 (by decide) ?_
  exact w_int (ws := fun s => cs9 a Δ s) hR hq hP hS dX9_year_287 rfl rfl
set_option maxHeartbeats 400000 in
set_option maxRecDepth 100000 in
theorem c_X9_pass (l : Launch) (Δ : gD) (a : Nat → Nat) (x1 : Int32) (s : S9) {res : Int32 × S9} (hq : sem_X9_pass x1 s = some res) : MW l yX9_pass cX9_pass 3 (some .int) Δ (cs9 a Δ s) [.ref (a 0), .int x1] 0 0 (some (.int res.1)) (cs9 a Δ res.2) := by
  refine MW.of (by decide) (Nat.le_of_ble_eq_true rfl) ?_
  intro Γ A H hl C hK hP hD hS hA hR
  subst hl
  have K20 : ∀ (y0 : Int32) (s : S9) (H : Heap) (L : List Loc) (hP : va_P Δ.1 classes (cs9 a Δ s) H) (hD : va_D A (cs9 a Δ s)) (hS : va_S A (sOf Γ).heap H L), jn_X9_pass_20 y0 s = some res → g Γ { frames := 0, cells := 0, slots := 0, locals := 0 } 3 H L 0 0 20 [(0, .ref (a 0))] [.int y0] := by
    intro y0 s H L hP hD hS hq
    refine g_istore_n [(2, .int y0), (0, .ref (a 0))] C 21 rfl dX9_pass_20 (Nat.le_of_ble_eq_true rfl) rfl ?_
    refine g_aload_n C 22 rfl dX9_pass_21 1 rfl ?_
    refine g_get (v := .ref (a 22)) (fs := fl9 a s) C 25 rfl dX9_pass_22 hK hP la_X9 0 37 (Nat.le_of_ble_eq_true rfl) fl_X9_74 rfl rfl rfl rfl ?_
    refine g_aload_n C 26 rfl dX9_pass_25 1 rfl ?_
    refine g_get (v := .int (x9_keptAt s)) (fs := fl9 a s) C 29 rfl dX9_pass_26 hK hP la_X9 0 39 (Nat.le_of_ble_eq_true rfl) fl_X9_341 rfl rfl rfl rfl ?_
    refine g_iload_n C 30 rfl dX9_pass_29 0 rfl ?_
    refine s_iast (cs9 a Δ (p9_kept s (upd (x9_kept s) ((x9_keptAt s) : Int32).toNatClampNeg y0))) C 31 rfl dX9_pass_30 hK hP hD hS 22 rfl hq (sst_123 a Δ s (upd (x9_kept s) ((x9_keptAt s) : Int32).toNatClampNeg y0)) (fun hq hi1 H L hP hD hS => ?_)
    refine g_aload_n C 32 rfl dX9_pass_31 1 rfl ?_
    refine g_dup C 33 rfl dX9_pass_32 rfl ?_
    refine g_get (v := .int (x9_keptAt (p9_kept s (upd (x9_kept s) ((x9_keptAt s) : Int32).toNatClampNeg y0)))) (fs := fl9 a (p9_kept s (upd (x9_kept s) ((x9_keptAt s) : Int32).toNatClampNeg y0))) C 36 rfl dX9_pass_33 hK hP la_X9 0 39 (Nat.le_of_ble_eq_true rfl) fl_X9_341 rfl rfl rfl rfl ?_
    refine g_iconst 1 C 37 rfl dX9_pass_36 ki_1 ?_
    refine g_iadd C 38 rfl dX9_pass_37 ?_
    refine g_put (fs := fl9 a (p9_kept s (upd (x9_kept s) ((x9_keptAt s) : Int32).toNatClampNeg y0))) (cs9 a Δ (p9_keptAt (p9_kept s (upd (x9_kept s) ((x9_keptAt s) : Int32).toNatClampNeg y0)) ((x9_keptAt (p9_kept s (upd (x9_kept s) ((x9_keptAt s) : Int32).toNatClampNeg y0))) + 1))) C 41 rfl dX9_pass_38 hK hP hD hS la_X9 tyX9_ok nmX9 0 39 (Nat.le_of_ble_eq_true rfl) fl_X9_341 rfl rfl rfl rfl rfl rfl (Nat.le_of_ble_eq_true rfl) (sst_124 a Δ (p9_kept s (upd (x9_kept s) ((x9_keptAt s) : Int32).toNatClampNeg y0)) ((x9_keptAt (p9_kept s (upd (x9_kept s) ((x9_keptAt s) : Int32).toNatClampNeg y0))) + 1)) (fun H L hP hD hS => ?_)
    refine g_iload_n C 42 rfl dX9_pass_41 0 rfl ?_
    exact w_int (ws := fun s => cs9 a Δ s) hR hq hP hS dX9_pass_42 rfl rfl
  show g Γ { frames := 0, cells := 0, slots := 0, locals := 0 } 3 H [] 0 0 0 [(0, .ref (a 0)), (1, .int x1)] []
  refine g_aload_n C 1 rfl dX9_pass_0 0 rfl ?_
  refine g_get (v := .int (x9_isWriting s)) (fs := fl9 a s) C 4 rfl dX9_pass_1 hK hP la_X9 0 40 (Nat.le_of_ble_eq_true rfl) fl_X9_337 rfl rfl rfl rfl ?_
  refine s_if_eq C 11 7 rfl dX9_pass_4 (by decide) hq (fun hq => ?_) (fun hq => ?_)
  rotate_left
  · refine g_iload_n C 8 rfl dX9_pass_7 1 rfl ?_
    refine g_goto C 20 dX9_pass_8 (by decide) ?_
    exact g_sub [0] rfl (K20 x1 s _ _ hP hD hS hq)
  refine g_aload_n C 12 rfl dX9_pass_11 0 rfl ?_
  refine g_get (v := .ref (a 22)) (fs := fl9 a s) C 15 rfl dX9_pass_12 hK hP la_X9 0 37 (Nat.le_of_ble_eq_true rfl) fl_X9_74 rfl rfl rfl rfl ?_
  refine g_aload_n C 16 rfl dX9_pass_15 0 rfl ?_
  refine g_get (v := .int (x9_keptAt s)) (fs := fl9 a s) C 19 rfl dX9_pass_16 hK hP la_X9 0 39 (Nat.le_of_ble_eq_true rfl) fl_X9_341 rfl rfl rfl rfl ?_
  refine s_iald C 20 rfl dX9_pass_19 hK hP 22 rfl hq (fun hq hi2 => ?_)
  exact g_sub [0] rfl (K20 ((x9_kept s) ((x9_keptAt s) : Int32).toNatClampNeg) s _ _ hP hD hS hq)
set_option maxHeartbeats 400000 in
set_option maxRecDepth 100000 in
theorem c_X9_passAll (l : Launch) (Δ : gD) (a : Nat → Nat)  (s : S9) {res : S9} (hq : sem_X9_passAll  s = some res) : MW l yX9_passAll cX9_passAll 2 none Δ (cs9 a Δ s) [.ref (a 0)] 1 22 none (cs9 a Δ res) := by
  refine MW.of (by decide) (Nat.le_of_ble_eq_true rfl) ?_
  intro Γ A H hl C hK hP hD hS hA hR
  subst hl
  show g Γ { frames := 1, cells := 0, slots := 0, locals := 22 } 2 H [] 0 0 0 [(0, .ref (a 0))] []
  refine g_aload_n C 1 rfl dX9_passAll_0 0 rfl ?_
  refine g_aload_n C 2 rfl dX9_passAll_1 0 rfl ?_
  refine g_aload_n C 3 rfl dX9_passAll_2 0 rfl ?_
  refine g_get (v := .int (x9_there s)) (fs := fl9 a s) C 6 rfl dX9_passAll_3 hK hP la_X9 0 0 (Nat.le_of_ble_eq_true rfl) fl_X9_94 rfl rfl rfl rfl ?_
  obtain ⟨r1, hz2, hq⟩ := bindE hq
  refine g_callWV (rest := [.ref (a 0)]) (cs9 a Δ r1.2) C 9 rfl dX9_passAll_6 (c_X9_pass Γ.2.1 Δ a (x9_there s) s hz2) mv_X9_pass ml_X9_344 hK hP hD hS hA (scl_101 a Δ s r1.2) rfl rfl rfl rfl rfl ⟨Nat.le_of_ble_eq_true rfl, Nat.le_of_ble_eq_true rfl⟩ (Nat.le_of_ble_eq_true rfl) ⟨Nat.zero_le _, Nat.zero_le _⟩ (fun H L hP hD hS => ?_)
  refine g_put (fs := fl9 a r1.2) (cs9 a Δ (p9_there r1.2 r1.1)) C 12 rfl dX9_passAll_9 hK hP hD hS la_X9 tyX9_ok nmX9 0 0 (Nat.le_of_ble_eq_true rfl) fl_X9_94 rfl rfl rfl rfl rfl rfl (Nat.le_of_ble_eq_true rfl) (sst_85 a Δ r1.2 r1.1) (fun H L hP hD hS => ?_)
  refine g_aload_n C 13 rfl dX9_passAll_12 0 rfl ?_
  refine g_aload_n C 14 rfl dX9_passAll_13 0 rfl ?_
  refine g_aload_n C 15 rfl dX9_passAll_14 0 rfl ?_
  refine g_get (v := .int (x9_limit (p9_there r1.2 r1.1))) (fs := fl9 a (p9_there r1.2 r1.1)) C 18 rfl dX9_passAll_15 hK hP la_X9 0 1 (Nat.le_of_ble_eq_true rfl) fl_X9_81 rfl rfl rfl rfl ?_
  obtain ⟨r3, hz4, hq⟩ := bindE hq
  refine g_callWV (rest := [.ref (a 0)]) (cs9 a Δ r3.2) C 21 rfl dX9_passAll_18 (c_X9_pass Γ.2.1 Δ a (x9_limit (p9_there r1.2 r1.1)) (p9_there r1.2 r1.1) hz4) mv_X9_pass ml_X9_344 hK hP hD hS hA (scl_101 a Δ (p9_there r1.2 r1.1) r3.2) rfl rfl rfl rfl rfl ⟨Nat.le_of_ble_eq_true rfl, Nat.le_of_ble_eq_true rfl⟩ (Nat.le_of_ble_eq_true rfl) ⟨Nat.zero_le _, Nat.zero_le _⟩ (fun H L hP hD hS => ?_)
  refine g_put (fs := fl9 a r3.2) (cs9 a Δ (p9_limit r3.2 r3.1)) C 24 rfl dX9_passAll_21 hK hP hD hS la_X9 tyX9_ok nmX9 0 1 (Nat.le_of_ble_eq_true rfl) fl_X9_81 rfl rfl rfl rfl rfl rfl (Nat.le_of_ble_eq_true rfl) (sst_92 a Δ r3.2 r3.1) (fun H L hP hD hS => ?_)
  refine g_aload_n C 25 rfl dX9_passAll_24 0 rfl ?_
  refine g_aload_n C 26 rfl dX9_passAll_25 0 rfl ?_
  refine g_aload_n C 27 rfl dX9_passAll_26 0 rfl ?_
  refine g_get (v := .int (x9_ears (p9_limit r3.2 r3.1))) (fs := fl9 a (p9_limit r3.2 r3.1)) C 30 rfl dX9_passAll_27 hK hP la_X9 0 2 (Nat.le_of_ble_eq_true rfl) fl_X9_85 rfl rfl rfl rfl ?_
  obtain ⟨r5, hz6, hq⟩ := bindE hq
  refine g_callWV (rest := [.ref (a 0)]) (cs9 a Δ r5.2) C 33 rfl dX9_passAll_30 (c_X9_pass Γ.2.1 Δ a (x9_ears (p9_limit r3.2 r3.1)) (p9_limit r3.2 r3.1) hz6) mv_X9_pass ml_X9_344 hK hP hD hS hA (scl_101 a Δ (p9_limit r3.2 r3.1) r5.2) rfl rfl rfl rfl rfl ⟨Nat.le_of_ble_eq_true rfl, Nat.le_of_ble_eq_true rfl⟩ (Nat.le_of_ble_eq_true rfl) ⟨Nat.zero_le _, Nat.zero_le _⟩ (fun H L hP hD hS => ?_)
  refine g_put (fs := fl9 a r5.2) (cs9 a Δ (p9_ears r5.2 r5.1)) C 36 rfl dX9_passAll_33 hK hP hD hS la_X9 tyX9_ok nmX9 0 2 (Nat.le_of_ble_eq_true rfl) fl_X9_85 rfl rfl rfl rfl rfl rfl (Nat.le_of_ble_eq_true rfl) (sst_93 a Δ r5.2 r5.1) (fun H L hP hD hS => ?_)
  refine g_aload_n C 37 rfl dX9_passAll_36 0 rfl ?_
  refine g_aload_n C 38 rfl dX9_passAll_37 0 rfl ?_
  refine g_aload_n C 39 rfl dX9_passAll_38 0 rfl ?_
  refine g_get (v := .int (x9_sights (p9_ears r5.2 r5.1))) (fs := fl9 a (p9_ears r5.2 r5.1)) C 42 rfl dX9_passAll_39 hK hP la_X9 0 11 (Nat.le_of_ble_eq_true rfl) fl_X9_312 rfl rfl rfl rfl ?_
  obtain ⟨r7, hz8, hq⟩ := bindE hq
  refine g_callWV (rest := [.ref (a 0)]) (cs9 a Δ r7.2) C 45 rfl dX9_passAll_42 (c_X9_pass Γ.2.1 Δ a (x9_sights (p9_ears r5.2 r5.1)) (p9_ears r5.2 r5.1) hz8) mv_X9_pass ml_X9_344 hK hP hD hS hA (scl_101 a Δ (p9_ears r5.2 r5.1) r7.2) rfl rfl rfl rfl rfl ⟨Nat.le_of_ble_eq_true rfl, Nat.le_of_ble_eq_true rfl⟩ (Nat.le_of_ble_eq_true rfl) ⟨Nat.zero_le _, Nat.zero_le _⟩ (fun H L hP hD hS => ?_)
  refine g_put (fs := fl9 a r7.2) (cs9 a Δ (p9_sights r7.2 r7.1)) C 48 rfl dX9_passAll_45 hK hP hD hS la_X9 tyX9_ok nmX9 0 11 (Nat.le_of_ble_eq_true rfl) fl_X9_312 rfl rfl rfl rfl rfl rfl (Nat.le_of_ble_eq_true rfl) (sst_121 a Δ r7.2 r7.1) (fun H L hP hD hS => ?_)
  refine g_iconst 0 C 49 rfl dX9_passAll_48 ki_0 ?_
  refine g_istore_n [(1, .int 0), (0, .ref (a 0))] C 50 rfl dX9_passAll_49 (Nat.le_of_ble_eq_true rfl) rfl ?_
  have Q50 : ∀ (n : Nat) (x1 : Int32) (s : S9) (o : (S9)) (H : Heap) (L : List Loc) (hP : va_P Δ.1 classes (cs9 a Δ s) H) (hD : va_D A (cs9 a Δ s)) (hS : va_S A (sOf Γ).heap H L) (hq : lp_X9_passAll_50  n x1 s = some o) (E2 : ∀ (H : Heap) (L : List Loc), va_P Δ.1 classes (cs9 a Δ o) H → va_D A (cs9 a Δ o) → va_S A (sOf Γ).heap H L → g Γ { frames := 1, cells := 0, slots := 0, locals := 22 } 2 H L 0 0 158 [(0, .ref (a 0))] []), g Γ { frames := 1, cells := 0, slots := 0, locals := 22 } 2 H L 0 0 50 [(0, .ref (a 0)), (1, .int x1)] [] := by
    intro n
    induction n with
    | zero => intro x1 s o H L hP hD hS hq; exact nomatch (show (none : Option (S9)) = some o from hq)
    | succ n ih =>
      intro x1 s o H L hP hD hS hq E2
      have hq : bd_X9_passAll_50  (lp_X9_passAll_50  n) x1 s = some o := hq
      refine g_iload_n C 51 rfl dX9_passAll_50 1 rfl ?_
      refine g_bipush 6 C 53 rfl dX9_passAll_51 kb_6 ?_
      refine s_icmp_ge C 158 56 rfl dX9_passAll_53 (by decide) hq (fun hq => ?_) (fun hq => ?_)
      · cases hq
        exact g_sub [0] rfl (E2 _ _ hP hD hS)
      refine g_aload_n C 57 rfl dX9_passAll_56 0 rfl ?_
      refine g_get (v := .ref (a 1)) (fs := fl9 a s) C 60 rfl dX9_passAll_57 hK hP la_X9 0 3 (Nat.le_of_ble_eq_true rfl) fl_X9_7 rfl rfl rfl rfl ?_
      refine g_iload_n C 61 rfl dX9_passAll_60 1 rfl ?_
      refine g_aload_n C 62 rfl dX9_passAll_61 0 rfl ?_
      refine g_aload_n C 63 rfl dX9_passAll_62 0 rfl ?_
      refine g_get (v := .ref (a 1)) (fs := fl9 a s) C 66 rfl dX9_passAll_63 hK hP la_X9 0 3 (Nat.le_of_ble_eq_true rfl) fl_X9_7 rfl rfl rfl rfl ?_
      refine g_iload_n C 67 rfl dX9_passAll_66 1 rfl ?_
      refine s_iald C 68 rfl dX9_passAll_67 hK hP 1 rfl hq (fun hq hi9 => ?_)
      obtain ⟨r10, hz11, hq⟩ := bindE hq
      refine g_callWV (rest := [.int x1, .ref (a 1)]) (cs9 a Δ r10.2) C 71 rfl dX9_passAll_68 (c_X9_pass Γ.2.1 Δ a ((x9_temper s) (x1 : Int32).toNatClampNeg) s hz11) mv_X9_pass ml_X9_344 hK hP hD hS hA (scl_101 a Δ s r10.2) rfl rfl rfl rfl rfl ⟨Nat.le_of_ble_eq_true rfl, Nat.le_of_ble_eq_true rfl⟩ (Nat.le_of_ble_eq_true rfl) ⟨Nat.zero_le _, Nat.zero_le _⟩ (fun H L hP hD hS => ?_)
      refine g_iast (cs9 a Δ (p9_temper r10.2 (upd (x9_temper r10.2) (x1 : Int32).toNatClampNeg r10.1))) C 72 rfl dX9_passAll_71 hK hP hD hS 1 rfl hi9 (sst_86 a Δ r10.2 (upd (x9_temper r10.2) (x1 : Int32).toNatClampNeg r10.1)) (fun H L hP hD hS => ?_)
      refine g_aload_n C 73 rfl dX9_passAll_72 0 rfl ?_
      refine g_get (v := .ref (a 2)) (fs := fl9 a (p9_temper r10.2 (upd (x9_temper r10.2) (x1 : Int32).toNatClampNeg r10.1))) C 76 rfl dX9_passAll_73 hK hP la_X9 0 4 (Nat.le_of_ble_eq_true rfl) fl_X9_13 rfl rfl rfl rfl ?_
      refine g_iload_n C 77 rfl dX9_passAll_76 1 rfl ?_
      refine g_aload_n C 78 rfl dX9_passAll_77 0 rfl ?_
      refine g_aload_n C 79 rfl dX9_passAll_78 0 rfl ?_
      refine g_get (v := .ref (a 2)) (fs := fl9 a (p9_temper r10.2 (upd (x9_temper r10.2) (x1 : Int32).toNatClampNeg r10.1))) C 82 rfl dX9_passAll_79 hK hP la_X9 0 4 (Nat.le_of_ble_eq_true rfl) fl_X9_13 rfl rfl rfl rfl ?_
      refine g_iload_n C 83 rfl dX9_passAll_82 1 rfl ?_
      refine s_iald C 84 rfl dX9_passAll_83 hK hP 2 rfl hq (fun hq hi12 => ?_)
      obtain ⟨r13, hz14, hq⟩ := bindE hq
      refine g_callWV (rest := [.int x1, .ref (a 2)]) (cs9 a Δ r13.2) C 87 rfl dX9_passAll_84 (c_X9_pass Γ.2.1 Δ a ((x9_permits (p9_temper r10.2 (upd (x9_temper r10.2) (x1 : Int32).toNatClampNeg r10.1))) (x1 : Int32).toNatClampNeg) (p9_temper r10.2 (upd (x9_temper r10.2) (x1 : Int32).toNatClampNeg r10.1)) hz14) mv_X9_pass ml_X9_344 hK hP hD hS hA (scl_101 a Δ (p9_temper r10.2 (upd (x9_temper r10.2) (x1 : Int32).toNatClampNeg r10.1)) r13.2) rfl rfl rfl rfl rfl ⟨Nat.le_of_ble_eq_true rfl, Nat.le_of_ble_eq_true rfl⟩ (Nat.le_of_ble_eq_true rfl) ⟨Nat.zero_le _, Nat.zero_le _⟩ (fun H L hP hD hS => ?_)
      refine g_iast (cs9 a Δ (p9_permits r13.2 (upd (x9_permits r13.2) (x1 : Int32).toNatClampNeg r13.1))) C 88 rfl dX9_passAll_87 hK hP hD hS 2 rfl hi12 (sst_87 a Δ r13.2 (upd (x9_permits r13.2) (x1 : Int32).toNatClampNeg r13.1)) (fun H L hP hD hS => ?_)
      refine g_aload_n C 89 rfl dX9_passAll_88 0 rfl ?_
      refine g_get (v := .ref (a 3)) (fs := fl9 a (p9_permits r13.2 (upd (x9_permits r13.2) (x1 : Int32).toNatClampNeg r13.1))) C 92 rfl dX9_passAll_89 hK hP la_X9 0 5 (Nat.le_of_ble_eq_true rfl) fl_X9_16 rfl rfl rfl rfl ?_
      refine g_iload_n C 93 rfl dX9_passAll_92 1 rfl ?_
      refine g_aload_n C 94 rfl dX9_passAll_93 0 rfl ?_
      refine g_aload_n C 95 rfl dX9_passAll_94 0 rfl ?_
      refine g_get (v := .ref (a 3)) (fs := fl9 a (p9_permits r13.2 (upd (x9_permits r13.2) (x1 : Int32).toNatClampNeg r13.1))) C 98 rfl dX9_passAll_95 hK hP la_X9 0 5 (Nat.le_of_ble_eq_true rfl) fl_X9_16 rfl rfl rfl rfl ?_
      refine g_iload_n C 99 rfl dX9_passAll_98 1 rfl ?_
      refine s_iald C 100 rfl dX9_passAll_99 hK hP 3 rfl hq (fun hq hi15 => ?_)
      obtain ⟨r16, hz17, hq⟩ := bindE hq
      refine g_callWV (rest := [.int x1, .ref (a 3)]) (cs9 a Δ r16.2) C 103 rfl dX9_passAll_100 (c_X9_pass Γ.2.1 Δ a ((x9_stamps (p9_permits r13.2 (upd (x9_permits r13.2) (x1 : Int32).toNatClampNeg r13.1))) (x1 : Int32).toNatClampNeg) (p9_permits r13.2 (upd (x9_permits r13.2) (x1 : Int32).toNatClampNeg r13.1)) hz17) mv_X9_pass ml_X9_344 hK hP hD hS hA (scl_101 a Δ (p9_permits r13.2 (upd (x9_permits r13.2) (x1 : Int32).toNatClampNeg r13.1)) r16.2) rfl rfl rfl rfl rfl ⟨Nat.le_of_ble_eq_true rfl, Nat.le_of_ble_eq_true rfl⟩ (Nat.le_of_ble_eq_true rfl) ⟨Nat.zero_le _, Nat.zero_le _⟩ (fun H L hP hD hS => ?_)
      refine g_iast (cs9 a Δ (p9_stamps r16.2 (upd (x9_stamps r16.2) (x1 : Int32).toNatClampNeg r16.1))) C 104 rfl dX9_passAll_103 hK hP hD hS 3 rfl hi15 (sst_88 a Δ r16.2 (upd (x9_stamps r16.2) (x1 : Int32).toNatClampNeg r16.1)) (fun H L hP hD hS => ?_)
      refine g_aload_n C 105 rfl dX9_passAll_104 0 rfl ?_
      refine g_get (v := .ref (a 4)) (fs := fl9 a (p9_stamps r16.2 (upd (x9_stamps r16.2) (x1 : Int32).toNatClampNeg r16.1))) C 108 rfl dX9_passAll_105 hK hP la_X9 0 6 (Nat.le_of_ble_eq_true rfl) fl_X9_19 rfl rfl rfl rfl ?_
      refine g_iload_n C 109 rfl dX9_passAll_108 1 rfl ?_
      refine g_aload_n C 110 rfl dX9_passAll_109 0 rfl ?_
      refine g_aload_n C 111 rfl dX9_passAll_110 0 rfl ?_
      refine g_get (v := .ref (a 4)) (fs := fl9 a (p9_stamps r16.2 (upd (x9_stamps r16.2) (x1 : Int32).toNatClampNeg r16.1))) C 114 rfl dX9_passAll_111 hK hP la_X9 0 6 (Nat.le_of_ble_eq_true rfl) fl_X9_19 rfl rfl rfl rfl ?_
      refine g_iload_n C 115 rfl dX9_passAll_114 1 rfl ?_
      refine s_iald C 116 rfl dX9_passAll_115 hK hP 4 rfl hq (fun hq hi18 => ?_)
      obtain ⟨r19, hz20, hq⟩ := bindE hq
      refine g_callWV (rest := [.int x1, .ref (a 4)]) (cs9 a Δ r19.2) C 119 rfl dX9_passAll_116 (c_X9_pass Γ.2.1 Δ a ((x9_purse (p9_stamps r16.2 (upd (x9_stamps r16.2) (x1 : Int32).toNatClampNeg r16.1))) (x1 : Int32).toNatClampNeg) (p9_stamps r16.2 (upd (x9_stamps r16.2) (x1 : Int32).toNatClampNeg r16.1)) hz20) mv_X9_pass ml_X9_344 hK hP hD hS hA (scl_101 a Δ (p9_stamps r16.2 (upd (x9_stamps r16.2) (x1 : Int32).toNatClampNeg r16.1)) r19.2) rfl rfl rfl rfl rfl ⟨Nat.le_of_ble_eq_true rfl, Nat.le_of_ble_eq_true rfl⟩ (Nat.le_of_ble_eq_true rfl) ⟨Nat.zero_le _, Nat.zero_le _⟩ (fun H L hP hD hS => ?_)
      refine g_iast (cs9 a Δ (p9_purse r19.2 (upd (x9_purse r19.2) (x1 : Int32).toNatClampNeg r19.1))) C 120 rfl dX9_passAll_119 hK hP hD hS 4 rfl hi18 (sst_89 a Δ r19.2 (upd (x9_purse r19.2) (x1 : Int32).toNatClampNeg r19.1)) (fun H L hP hD hS => ?_)
      refine g_aload_n C 121 rfl dX9_passAll_120 0 rfl ?_
      refine g_get (v := .ref (a 5)) (fs := fl9 a (p9_purse r19.2 (upd (x9_purse r19.2) (x1 : Int32).toNatClampNeg r19.1))) C 124 rfl dX9_passAll_121 hK hP la_X9 0 7 (Nat.le_of_ble_eq_true rfl) fl_X9_22 rfl rfl rfl rfl ?_
      refine g_iload_n C 125 rfl dX9_passAll_124 1 rfl ?_
      refine g_aload_n C 126 rfl dX9_passAll_125 0 rfl ?_
      refine g_aload_n C 127 rfl dX9_passAll_126 0 rfl ?_
      refine g_get (v := .ref (a 5)) (fs := fl9 a (p9_purse r19.2 (upd (x9_purse r19.2) (x1 : Int32).toNatClampNeg r19.1))) C 130 rfl dX9_passAll_127 hK hP la_X9 0 7 (Nat.le_of_ble_eq_true rfl) fl_X9_22 rfl rfl rfl rfl ?_
      refine g_iload_n C 131 rfl dX9_passAll_130 1 rfl ?_
      refine s_iald C 132 rfl dX9_passAll_131 hK hP 5 rfl hq (fun hq hi21 => ?_)
      obtain ⟨r22, hz23, hq⟩ := bindE hq
      refine g_callWV (rest := [.int x1, .ref (a 5)]) (cs9 a Δ r22.2) C 135 rfl dX9_passAll_132 (c_X9_pass Γ.2.1 Δ a ((x9_yard (p9_purse r19.2 (upd (x9_purse r19.2) (x1 : Int32).toNatClampNeg r19.1))) (x1 : Int32).toNatClampNeg) (p9_purse r19.2 (upd (x9_purse r19.2) (x1 : Int32).toNatClampNeg r19.1)) hz23) mv_X9_pass ml_X9_344 hK hP hD hS hA (scl_101 a Δ (p9_purse r19.2 (upd (x9_purse r19.2) (x1 : Int32).toNatClampNeg r19.1)) r22.2) rfl rfl rfl rfl rfl ⟨Nat.le_of_ble_eq_true rfl, Nat.le_of_ble_eq_true rfl⟩ (Nat.le_of_ble_eq_true rfl) ⟨Nat.zero_le _, Nat.zero_le _⟩ (fun H L hP hD hS => ?_)
      refine g_iast (cs9 a Δ (p9_yard r22.2 (upd (x9_yard r22.2) (x1 : Int32).toNatClampNeg r22.1))) C 136 rfl dX9_passAll_135 hK hP hD hS 5 rfl hi21 (sst_90 a Δ r22.2 (upd (x9_yard r22.2) (x1 : Int32).toNatClampNeg r22.1)) (fun H L hP hD hS => ?_)
      refine g_aload_n C 137 rfl dX9_passAll_136 0 rfl ?_
      refine g_get (v := .ref (a 6)) (fs := fl9 a (p9_yard r22.2 (upd (x9_yard r22.2) (x1 : Int32).toNatClampNeg r22.1))) C 140 rfl dX9_passAll_137 hK hP la_X9 0 8 (Nat.le_of_ble_eq_true rfl) fl_X9_25 rfl rfl rfl rfl ?_
      refine g_iload_n C 141 rfl dX9_passAll_140 1 rfl ?_
      refine g_aload_n C 142 rfl dX9_passAll_141 0 rfl ?_
      refine g_aload_n C 143 rfl dX9_passAll_142 0 rfl ?_
      refine g_get (v := .ref (a 6)) (fs := fl9 a (p9_yard r22.2 (upd (x9_yard r22.2) (x1 : Int32).toNatClampNeg r22.1))) C 146 rfl dX9_passAll_143 hK hP la_X9 0 8 (Nat.le_of_ble_eq_true rfl) fl_X9_25 rfl rfl rfl rfl ?_
      refine g_iload_n C 147 rfl dX9_passAll_146 1 rfl ?_
      refine s_iald C 148 rfl dX9_passAll_147 hK hP 6 rfl hq (fun hq hi24 => ?_)
      obtain ⟨r25, hz26, hq⟩ := bindE hq
      refine g_callWV (rest := [.int x1, .ref (a 6)]) (cs9 a Δ r25.2) C 151 rfl dX9_passAll_148 (c_X9_pass Γ.2.1 Δ a ((x9_cause (p9_yard r22.2 (upd (x9_yard r22.2) (x1 : Int32).toNatClampNeg r22.1))) (x1 : Int32).toNatClampNeg) (p9_yard r22.2 (upd (x9_yard r22.2) (x1 : Int32).toNatClampNeg r22.1)) hz26) mv_X9_pass ml_X9_344 hK hP hD hS hA (scl_101 a Δ (p9_yard r22.2 (upd (x9_yard r22.2) (x1 : Int32).toNatClampNeg r22.1)) r25.2) rfl rfl rfl rfl rfl ⟨Nat.le_of_ble_eq_true rfl, Nat.le_of_ble_eq_true rfl⟩ (Nat.le_of_ble_eq_true rfl) ⟨Nat.zero_le _, Nat.zero_le _⟩ (fun H L hP hD hS => ?_)
      refine g_iast (cs9 a Δ (p9_cause r25.2 (upd (x9_cause r25.2) (x1 : Int32).toNatClampNeg r25.1))) C 152 rfl dX9_passAll_151 hK hP hD hS 6 rfl hi24 (sst_91 a Δ r25.2 (upd (x9_cause r25.2) (x1 : Int32).toNatClampNeg r25.1)) (fun H L hP hD hS => ?_)
      refine g_iinc (x1 + 1) [(1, .int (x1 + 1)), (0, .ref (a 0))] C 155 rfl dX9_passAll_152 1 rfl (ii_1 _) (Nat.le_of_ble_eq_true rfl) rfl ?_
      refine g_goto C 50 dX9_passAll_155 (by decide) ?_
      exact g_sub [1, 0] rfl (ih (x1 + 1) (p9_cause r25.2 (upd (x9_cause r25.2) (x1 : Int32).toNatClampNeg r25.1)) _ _ _ hP hD hS hq E2)
  obtain ⟨o27, ho28, hq⟩ := bindE hq
  refine g_sub [1, 0] rfl (Q50  FUEL 0 (p9_sights r7.2 r7.1) o27 _ _ hP hD hS ho28 (fun H L hP hD hS => ?_))
  refine g_iconst 0 C 159 rfl dX9_passAll_158 ki_0 ?_
  refine g_istore_n [(1, .int 0), (0, .ref (a 0))] C 160 rfl dX9_passAll_159 (Nat.le_of_ble_eq_true rfl) rfl ?_
  have Q160 : ∀ (n : Nat) (x1 : Int32) (s : S9) (o : (S9)) (H : Heap) (L : List Loc) (hP : va_P Δ.1 classes (cs9 a Δ s) H) (hD : va_D A (cs9 a Δ s)) (hS : va_S A (sOf Γ).heap H L) (hq : lp_X9_passAll_160  n x1 s = some o) (E2 : ∀ (H : Heap) (L : List Loc), va_P Δ.1 classes (cs9 a Δ o) H → va_D A (cs9 a Δ o) → va_S A (sOf Γ).heap H L → g Γ { frames := 1, cells := 0, slots := 0, locals := 22 } 2 H L 0 0 204 [] []), g Γ { frames := 1, cells := 0, slots := 0, locals := 22 } 2 H L 0 0 160 [(0, .ref (a 0)), (1, .int x1)] [] := by
    intro n
    induction n with
    | zero => intro x1 s o H L hP hD hS hq; exact nomatch (show (none : Option (S9)) = some o from hq)
    | succ n ih =>
      intro x1 s o H L hP hD hS hq E2
      have hq : bd_X9_passAll_160  (lp_X9_passAll_160  n) x1 s = some o := hq
      refine g_iload_n C 161 rfl dX9_passAll_160 1 rfl ?_
      refine g_bipush 8 C 163 rfl dX9_passAll_161 kb_8 ?_
      refine s_icmp_ge C 204 166 rfl dX9_passAll_163 (by decide) hq (fun hq => ?_) (fun hq => ?_)
      · cases hq
        exact g_sub [] rfl (E2 _ _ hP hD hS)
      refine g_aload_n C 167 rfl dX9_passAll_166 0 rfl ?_
      refine g_get (v := .ref (a 7)) (fs := fl9 a s) C 170 rfl dX9_passAll_167 hK hP la_X9 0 9 (Nat.le_of_ble_eq_true rfl) fl_X9_28 rfl rfl rfl rfl ?_
      refine g_iload_n C 171 rfl dX9_passAll_170 1 rfl ?_
      refine g_aload_n C 172 rfl dX9_passAll_171 0 rfl ?_
      refine g_aload_n C 173 rfl dX9_passAll_172 0 rfl ?_
      refine g_get (v := .ref (a 7)) (fs := fl9 a s) C 176 rfl dX9_passAll_173 hK hP la_X9 0 9 (Nat.le_of_ble_eq_true rfl) fl_X9_28 rfl rfl rfl rfl ?_
      refine g_iload_n C 177 rfl dX9_passAll_176 1 rfl ?_
      refine s_iald C 178 rfl dX9_passAll_177 hK hP 7 rfl hq (fun hq hi29 => ?_)
      obtain ⟨r30, hz31, hq⟩ := bindE hq
      refine g_callWV (rest := [.int x1, .ref (a 7)]) (cs9 a Δ r30.2) C 181 rfl dX9_passAll_178 (c_X9_pass Γ.2.1 Δ a ((x9_sightOne s) (x1 : Int32).toNatClampNeg) s hz31) mv_X9_pass ml_X9_344 hK hP hD hS hA (scl_101 a Δ s r30.2) rfl rfl rfl rfl rfl ⟨Nat.le_of_ble_eq_true rfl, Nat.le_of_ble_eq_true rfl⟩ (Nat.le_of_ble_eq_true rfl) ⟨Nat.zero_le _, Nat.zero_le _⟩ (fun H L hP hD hS => ?_)
      refine g_iast (cs9 a Δ (p9_sightOne r30.2 (upd (x9_sightOne r30.2) (x1 : Int32).toNatClampNeg r30.1))) C 182 rfl dX9_passAll_181 hK hP hD hS 7 rfl hi29 (sst_122 a Δ r30.2 (upd (x9_sightOne r30.2) (x1 : Int32).toNatClampNeg r30.1)) (fun H L hP hD hS => ?_)
      refine g_aload_n C 183 rfl dX9_passAll_182 0 rfl ?_
      refine g_get (v := .ref (a 8)) (fs := fl9 a (p9_sightOne r30.2 (upd (x9_sightOne r30.2) (x1 : Int32).toNatClampNeg r30.1))) C 186 rfl dX9_passAll_183 hK hP la_X9 0 10 (Nat.le_of_ble_eq_true rfl) fl_X9_31 rfl rfl rfl rfl ?_
      refine g_iload_n C 187 rfl dX9_passAll_186 1 rfl ?_
      refine g_aload_n C 188 rfl dX9_passAll_187 0 rfl ?_
      refine g_aload_n C 189 rfl dX9_passAll_188 0 rfl ?_
      refine g_get (v := .ref (a 8)) (fs := fl9 a (p9_sightOne r30.2 (upd (x9_sightOne r30.2) (x1 : Int32).toNatClampNeg r30.1))) C 192 rfl dX9_passAll_189 hK hP la_X9 0 10 (Nat.le_of_ble_eq_true rfl) fl_X9_31 rfl rfl rfl rfl ?_
      refine g_iload_n C 193 rfl dX9_passAll_192 1 rfl ?_
      refine s_iald C 194 rfl dX9_passAll_193 hK hP 8 rfl hq (fun hq hi32 => ?_)
      obtain ⟨r33, hz34, hq⟩ := bindE hq
      refine g_callWV (rest := [.int x1, .ref (a 8)]) (cs9 a Δ r33.2) C 197 rfl dX9_passAll_194 (c_X9_pass Γ.2.1 Δ a ((x9_sightHeard (p9_sightOne r30.2 (upd (x9_sightOne r30.2) (x1 : Int32).toNatClampNeg r30.1))) (x1 : Int32).toNatClampNeg) (p9_sightOne r30.2 (upd (x9_sightOne r30.2) (x1 : Int32).toNatClampNeg r30.1)) hz34) mv_X9_pass ml_X9_344 hK hP hD hS hA (scl_101 a Δ (p9_sightOne r30.2 (upd (x9_sightOne r30.2) (x1 : Int32).toNatClampNeg r30.1)) r33.2) rfl rfl rfl rfl rfl ⟨Nat.le_of_ble_eq_true rfl, Nat.le_of_ble_eq_true rfl⟩ (Nat.le_of_ble_eq_true rfl) ⟨Nat.zero_le _, Nat.zero_le _⟩ (fun H L hP hD hS => ?_)
      refine g_iast (cs9 a Δ (p9_sightHeard r33.2 (upd (x9_sightHeard r33.2) (x1 : Int32).toNatClampNeg r33.1))) C 198 rfl dX9_passAll_197 hK hP hD hS 8 rfl hi32 (sst_120 a Δ r33.2 (upd (x9_sightHeard r33.2) (x1 : Int32).toNatClampNeg r33.1)) (fun H L hP hD hS => ?_)
      refine g_iinc (x1 + 1) [(1, .int (x1 + 1)), (0, .ref (a 0))] C 201 rfl dX9_passAll_198 1 rfl (ii_1 _) (Nat.le_of_ble_eq_true rfl) rfl ?_
      refine g_goto C 160 dX9_passAll_201 (by decide) ?_
      exact g_sub [1, 0] rfl (ih (x1 + 1) (p9_sightHeard r33.2 (upd (x9_sightHeard r33.2) (x1 : Int32).toNatClampNeg r33.1)) _ _ _ hP hD hS hq E2)
  obtain ⟨o35, ho36, hq⟩ := bindE hq
  refine g_sub [1, 0] rfl (Q160  FUEL 0 o27 o35 _ _ hP hD hS ho36 (fun H L hP hD hS => ?_))
  exact w_void (ws := fun s => cs9 a Δ s) hR hq hP hS dX9_passAll_204 rfl
set_option maxHeartbeats 400000 in
set_option maxRecDepth 100000 in
theorem c_X9_image (l : Launch) (Δ : gD) (a : Nat → Nat) (x1 : Int32) (s : S9) {res : Int32 × S9} (hq : sem_X9_image x1 s = some res) : MW l yX9_image cX9_image 2 (some .int) Δ (cs9 a Δ s) [.ref (a 0), .int x1] 2 43 (some (.int res.1)) (cs9 a Δ res.2) := by
  refine MW.of (by decide) (Nat.le_of_ble_eq_true rfl) ?_
  intro Γ A H hl C hK hP hD hS hA hR
  subst hl
  show g Γ { frames := 2, cells := 0, slots := 0, locals := 43 } 2 H [] 0 0 0 [(0, .ref (a 0)), (1, .int x1)] []
  refine g_iload_n C 1 rfl dX9_image_0 1 rfl ?_
  refine g_i2l C 2 rfl dX9_image_1 ?_
  refine g_lconst 0 C 3 rfl dX9_image_2 kl_0 ?_
  refine g_lconst 1 C 4 rfl dX9_image_3 kl_1 ?_
  obtain ⟨r1, hz2, hq⟩ := bindE hq
  refine g_callRS (rest := []) C 7 rfl dX9_image_4 (c_X9_in Γ.2.1 Δ  (Int32.toInt64 x1) 0 1  hz2) mv_X9_in (Or.inl ml_X9_90) hK rfl rfl ⟨Nat.le_of_ble_eq_true rfl, Nat.le_of_ble_eq_true rfl⟩ (Nat.le_of_ble_eq_true rfl) ⟨Nat.zero_le _, Nat.zero_le _⟩ ?_
  refine s_if_ne C 13 10 rfl dX9_image_7 (by decide) hq (fun hq => ?_) (fun hq => ?_)
  rotate_left
  · refine g_bipush (-2) C 12 rfl dX9_image_10 kb_m2 ?_
    exact w_int (ws := fun s => cs9 a Δ s) hR hq hP hS dX9_image_12 rfl rfl
  refine g_aload_n C 14 rfl dX9_image_13 0 rfl ?_
  refine g_bipush 60 C 16 rfl dX9_image_14 kb_60 ?_
  refine g_iload_n C 17 rfl dX9_image_16 1 rfl ?_
  refine g_imul C 18 rfl dX9_image_17 ?_
  refine g_put (fs := fl9 a s) (cs9 a Δ (p9_keptAt s (60 * x1))) C 21 rfl dX9_image_18 hK hP hD hS la_X9 tyX9_ok nmX9 0 39 (Nat.le_of_ble_eq_true rfl) fl_X9_341 rfl rfl rfl rfl rfl rfl (Nat.le_of_ble_eq_true rfl) (sst_124 a Δ s (60 * x1)) (fun H L hP hD hS => ?_)
  refine g_aload_n C 22 rfl dX9_image_21 0 rfl ?_
  refine g_iconst 1 C 23 rfl dX9_image_22 ki_1 ?_
  refine g_put (fs := fl9 a (p9_keptAt s (60 * x1))) (cs9 a Δ (p9_isWriting (p9_keptAt s (60 * x1)) 1)) C 26 rfl dX9_image_23 hK hP hD hS la_X9 tyX9_ok nmX9 0 40 (Nat.le_of_ble_eq_true rfl) fl_X9_337 rfl rfl rfl rfl rfl rfl (Nat.le_of_ble_eq_true rfl) (sst_125 a Δ (p9_keptAt s (60 * x1)) 1) (fun H L hP hD hS => ?_)
  refine g_aload_n C 27 rfl dX9_image_26 0 rfl ?_
  obtain ⟨r3, hz4, hq⟩ := bindE hq
  refine g_callWV (rest := []) (cs9 a Δ r3) C 30 rfl dX9_image_27 (c_X9_passAll Γ.2.1 Δ a  (p9_isWriting (p9_keptAt s (60 * x1)) 1) hz4) mv_X9_passAll ml_X9_347 hK hP hD hS hA (scl_101 a Δ (p9_isWriting (p9_keptAt s (60 * x1)) 1) r3) rfl rfl rfl rfl rfl ⟨Nat.le_of_ble_eq_true rfl, Nat.le_of_ble_eq_true rfl⟩ (Nat.le_of_ble_eq_true rfl) ⟨Nat.zero_le _, Nat.zero_le _⟩ (fun H L hP hD hS => ?_)
  refine g_aload_n C 31 rfl dX9_image_30 0 rfl ?_
  refine g_get (v := .ref (a 23)) (fs := fl9 a r3) C 34 rfl dX9_image_31 hK hP la_X9 0 38 (Nat.le_of_ble_eq_true rfl) fl_X9_77 rfl rfl rfl rfl ?_
  refine g_iload_n C 35 rfl dX9_image_34 1 rfl ?_
  refine g_iconst 1 C 36 rfl dX9_image_35 ki_1 ?_
  refine s_zast (cs9 a Δ (p9_isKept r3 (upd (x9_isKept r3) (x1 : Int32).toNatClampNeg (vp_nar .boolean 1)))) C 37 rfl dX9_image_36 hK hP hD hS 23 rfl hq (sst_126 a Δ r3 (upd (x9_isKept r3) (x1 : Int32).toNatClampNeg (vp_nar .boolean 1))) (fun hq hi5 H L hP hD hS => ?_)
  refine g_iconst 1 C 38 rfl dX9_image_37 ki_1 ?_
  exact w_int (ws := fun s => cs9 a Δ s) hR hq hP hS dX9_image_38 rfl rfl
set_option maxHeartbeats 400000 in
set_option maxRecDepth 100000 in
theorem c_X9_restore (l : Launch) (Δ : gD) (a : Nat → Nat) (x1 : Int32) (s : S9) {res : Int32 × S9} (hq : sem_X9_restore x1 s = some res) : MW l yX9_restore cX9_restore 2 (some .int) Δ (cs9 a Δ s) [.ref (a 0), .int x1] 2 43 (some (.int res.1)) (cs9 a Δ res.2) := by
  refine MW.of (by decide) (Nat.le_of_ble_eq_true rfl) ?_
  intro Γ A H hl C hK hP hD hS hA hR
  subst hl
  show g Γ { frames := 2, cells := 0, slots := 0, locals := 43 } 2 H [] 0 0 0 [(0, .ref (a 0)), (1, .int x1)] []
  refine g_iload_n C 1 rfl dX9_restore_0 1 rfl ?_
  refine g_i2l C 2 rfl dX9_restore_1 ?_
  refine g_lconst 0 C 3 rfl dX9_restore_2 kl_0 ?_
  refine g_lconst 1 C 4 rfl dX9_restore_3 kl_1 ?_
  obtain ⟨r1, hz2, hq⟩ := bindE hq
  refine g_callRS (rest := []) C 7 rfl dX9_restore_4 (c_X9_in Γ.2.1 Δ  (Int32.toInt64 x1) 0 1  hz2) mv_X9_in (Or.inl ml_X9_90) hK rfl rfl ⟨Nat.le_of_ble_eq_true rfl, Nat.le_of_ble_eq_true rfl⟩ (Nat.le_of_ble_eq_true rfl) ⟨Nat.zero_le _, Nat.zero_le _⟩ ?_
  refine s_if_ne C 13 10 rfl dX9_restore_7 (by decide) hq (fun hq => ?_) (fun hq => ?_)
  rotate_left
  · refine g_bipush (-2) C 12 rfl dX9_restore_10 kb_m2 ?_
    exact w_int (ws := fun s => cs9 a Δ s) hR hq hP hS dX9_restore_12 rfl rfl
  refine g_aload_n C 14 rfl dX9_restore_13 0 rfl ?_
  refine g_get (v := .ref (a 23)) (fs := fl9 a s) C 17 rfl dX9_restore_14 hK hP la_X9 0 38 (Nat.le_of_ble_eq_true rfl) fl_X9_77 rfl rfl rfl rfl ?_
  refine g_iload_n C 18 rfl dX9_restore_17 1 rfl ?_
  refine s_zald C 19 rfl dX9_restore_18 hK hP 23 rfl hq (fun hq hi3 => ?_)
  refine s_if_ne C 25 22 rfl dX9_restore_19 (by decide) hq (fun hq => ?_) (fun hq => ?_)
  rotate_left
  · refine g_bipush (-3) C 24 rfl dX9_restore_22 kb_m3 ?_
    exact w_int (ws := fun s => cs9 a Δ s) hR hq hP hS dX9_restore_24 rfl rfl
  refine g_aload_n C 26 rfl dX9_restore_25 0 rfl ?_
  refine g_bipush 60 C 28 rfl dX9_restore_26 kb_60 ?_
  refine g_iload_n C 29 rfl dX9_restore_28 1 rfl ?_
  refine g_imul C 30 rfl dX9_restore_29 ?_
  refine g_put (fs := fl9 a s) (cs9 a Δ (p9_keptAt s (60 * x1))) C 33 rfl dX9_restore_30 hK hP hD hS la_X9 tyX9_ok nmX9 0 39 (Nat.le_of_ble_eq_true rfl) fl_X9_341 rfl rfl rfl rfl rfl rfl (Nat.le_of_ble_eq_true rfl) (sst_124 a Δ s (60 * x1)) (fun H L hP hD hS => ?_)
  refine g_aload_n C 34 rfl dX9_restore_33 0 rfl ?_
  refine g_iconst 0 C 35 rfl dX9_restore_34 ki_0 ?_
  refine g_put (fs := fl9 a (p9_keptAt s (60 * x1))) (cs9 a Δ (p9_isWriting (p9_keptAt s (60 * x1)) 0)) C 38 rfl dX9_restore_35 hK hP hD hS la_X9 tyX9_ok nmX9 0 40 (Nat.le_of_ble_eq_true rfl) fl_X9_337 rfl rfl rfl rfl rfl rfl (Nat.le_of_ble_eq_true rfl) (sst_125 a Δ (p9_keptAt s (60 * x1)) 0) (fun H L hP hD hS => ?_)
  refine g_aload_n C 39 rfl dX9_restore_38 0 rfl ?_
  obtain ⟨r4, hz5, hq⟩ := bindE hq
  refine g_callWV (rest := []) (cs9 a Δ r4) C 42 rfl dX9_restore_39 (c_X9_passAll Γ.2.1 Δ a  (p9_isWriting (p9_keptAt s (60 * x1)) 0) hz5) mv_X9_passAll ml_X9_347 hK hP hD hS hA (scl_101 a Δ (p9_isWriting (p9_keptAt s (60 * x1)) 0) r4) rfl rfl rfl rfl rfl ⟨Nat.le_of_ble_eq_true rfl, Nat.le_of_ble_eq_true rfl⟩ (Nat.le_of_ble_eq_true rfl) ⟨Nat.zero_le _, Nat.zero_le _⟩ (fun H L hP hD hS => ?_)
  refine g_iconst 1 C 43 rfl dX9_restore_42 ki_1 ?_
  exact w_int (ws := fun s => cs9 a Δ s) hR hq hP hS dX9_restore_43 rfl rfl
set_option maxHeartbeats 400000 in
set_option maxRecDepth 100000 in
theorem c_X9_toldOf (l : Launch) (Δ : gD) (a : Nat → Nat) (x1 : Int32) (x2 : Int32) (s : S9) {res : Int32} (hq : sem_X9_toldOf x1 x2 s = some res) : MR l yX9_toldOf cX9_toldOf 3 (some .int) Δ (cs9 a Δ s) [.ref (a 0), .int x1, .int x2] 2 46 (.int res) := by
  refine MR.of (by decide) (Nat.le_of_ble_eq_true rfl) ?_
  intro Γ H hl C hK hP hR
  subst hl
  show g Γ { frames := 2, cells := 0, slots := 0, locals := 46 } 3 H [] 0 0 0 [(0, .ref (a 0)), (1, .int x1), (2, .int x2)] []
  refine g_aload_n C 1 rfl dX9_toldOf_0 0 rfl ?_
  refine g_iload_n C 2 rfl dX9_toldOf_1 1 rfl ?_
  obtain ⟨r1, hz2, hq⟩ := bindE hq
  refine g_callRV (rest := []) C 5 rfl dX9_toldOf_2 (c_X9_isOne Γ.2.1 Δ a x1 s hz2) mv_X9_isOne ml_X9_107 hK hP rfl rfl rfl rfl rfl ⟨Nat.le_of_ble_eq_true rfl, Nat.le_of_ble_eq_true rfl⟩ (Nat.le_of_ble_eq_true rfl) ⟨Nat.zero_le _, Nat.zero_le _⟩ ?_
  refine s_if_ne C 11 8 rfl dX9_toldOf_5 (by decide) hq (fun hq => ?_) (fun hq => ?_)
  rotate_left
  · refine g_bipush (-2) C 10 rfl dX9_toldOf_8 kb_m2 ?_
    exact r_int hR hq dX9_toldOf_10 rfl rfl
  refine g_iload_n C 12 rfl dX9_toldOf_11 2 rfl ?_
  by_cases hc4 : x2 = 0
  · have hq := if_t hc4 hq
    refine g_tblIn C 52 dX9_toldOf_12 (by rw [hc4]; decide) (by rw [hc4]; decide) (off := 40) (by rw [hc4]; rfl) (by decide) ?_
    refine g_aload_n C 53 rfl dX9_toldOf_52 0 rfl ?_
    refine g_get (v := .ref (a 1)) (fs := fl9 a s) C 56 rfl dX9_toldOf_53 hK hP la_X9 0 3 (Nat.le_of_ble_eq_true rfl) fl_X9_7 rfl rfl rfl rfl ?_
    refine g_iload_n C 57 rfl dX9_toldOf_56 1 rfl ?_
    refine s_iald C 58 rfl dX9_toldOf_57 hK hP 1 rfl hq (fun hq hi3 => ?_)
    exact r_int hR hq dX9_toldOf_58 rfl rfl
  replace hq := if_f hc4 hq
  by_cases hc6 : x2 = 1
  · have hq := if_t hc6 hq
    refine g_tblIn C 59 dX9_toldOf_12 (by rw [hc6]; decide) (by rw [hc6]; decide) (off := 47) (by rw [hc6]; rfl) (by decide) ?_
    refine g_aload_n C 60 rfl dX9_toldOf_59 0 rfl ?_
    refine g_get (v := .ref (a 2)) (fs := fl9 a s) C 63 rfl dX9_toldOf_60 hK hP la_X9 0 4 (Nat.le_of_ble_eq_true rfl) fl_X9_13 rfl rfl rfl rfl ?_
    refine g_iload_n C 64 rfl dX9_toldOf_63 1 rfl ?_
    refine s_iald C 65 rfl dX9_toldOf_64 hK hP 2 rfl hq (fun hq hi5 => ?_)
    exact r_int hR hq dX9_toldOf_65 rfl rfl
  replace hq := if_f hc6 hq
  by_cases hc8 : x2 = 2
  · have hq := if_t hc8 hq
    refine g_tblIn C 66 dX9_toldOf_12 (by rw [hc8]; decide) (by rw [hc8]; decide) (off := 54) (by rw [hc8]; rfl) (by decide) ?_
    refine g_aload_n C 67 rfl dX9_toldOf_66 0 rfl ?_
    refine g_get (v := .ref (a 3)) (fs := fl9 a s) C 70 rfl dX9_toldOf_67 hK hP la_X9 0 5 (Nat.le_of_ble_eq_true rfl) fl_X9_16 rfl rfl rfl rfl ?_
    refine g_iload_n C 71 rfl dX9_toldOf_70 1 rfl ?_
    refine s_iald C 72 rfl dX9_toldOf_71 hK hP 3 rfl hq (fun hq hi7 => ?_)
    exact r_int hR hq dX9_toldOf_72 rfl rfl
  replace hq := if_f hc8 hq
  by_cases hc10 : x2 = 3
  · have hq := if_t hc10 hq
    refine g_tblIn C 73 dX9_toldOf_12 (by rw [hc10]; decide) (by rw [hc10]; decide) (off := 61) (by rw [hc10]; rfl) (by decide) ?_
    refine g_aload_n C 74 rfl dX9_toldOf_73 0 rfl ?_
    refine g_get (v := .ref (a 4)) (fs := fl9 a s) C 77 rfl dX9_toldOf_74 hK hP la_X9 0 6 (Nat.le_of_ble_eq_true rfl) fl_X9_19 rfl rfl rfl rfl ?_
    refine g_iload_n C 78 rfl dX9_toldOf_77 1 rfl ?_
    refine s_iald C 79 rfl dX9_toldOf_78 hK hP 4 rfl hq (fun hq hi9 => ?_)
    exact r_int hR hq dX9_toldOf_79 rfl rfl
  replace hq := if_f hc10 hq
  by_cases hc12 : x2 = 4
  · have hq := if_t hc12 hq
    refine g_tblIn C 80 dX9_toldOf_12 (by rw [hc12]; decide) (by rw [hc12]; decide) (off := 68) (by rw [hc12]; rfl) (by decide) ?_
    refine g_aload_n C 81 rfl dX9_toldOf_80 0 rfl ?_
    refine g_get (v := .ref (a 5)) (fs := fl9 a s) C 84 rfl dX9_toldOf_81 hK hP la_X9 0 7 (Nat.le_of_ble_eq_true rfl) fl_X9_22 rfl rfl rfl rfl ?_
    refine g_iload_n C 85 rfl dX9_toldOf_84 1 rfl ?_
    refine s_iald C 86 rfl dX9_toldOf_85 hK hP 5 rfl hq (fun hq hi11 => ?_)
    exact r_int hR hq dX9_toldOf_86 rfl rfl
  replace hq := if_f hc12 hq
  by_cases hc14 : x2 = 5
  · have hq := if_t hc14 hq
    refine g_tblIn C 87 dX9_toldOf_12 (by rw [hc14]; decide) (by rw [hc14]; decide) (off := 75) (by rw [hc14]; rfl) (by decide) ?_
    refine g_aload_n C 88 rfl dX9_toldOf_87 0 rfl ?_
    refine g_get (v := .ref (a 6)) (fs := fl9 a s) C 91 rfl dX9_toldOf_88 hK hP la_X9 0 8 (Nat.le_of_ble_eq_true rfl) fl_X9_25 rfl rfl rfl rfl ?_
    refine g_iload_n C 92 rfl dX9_toldOf_91 1 rfl ?_
    refine s_iald C 93 rfl dX9_toldOf_92 hK hP 6 rfl hq (fun hq hi13 => ?_)
    exact r_int hR hq dX9_toldOf_93 rfl rfl
  replace hq := if_f hc14 hq
  refine g_tblOut C 94 dX9_toldOf_12 (by have nhc4 := lv_neT (a := 0) hc4 (by decide); have nhc6 := lv_neT (a := 1) hc6 (by decide); have nhc8 := lv_neT (a := 2) hc8 (by decide); have nhc10 := lv_neT (a := 3) hc10 (by decide); have nhc12 := lv_neT (a := 4) hc12 (by decide); have nhc14 := lv_neT (a := 5) hc14 (by decide); omega) (by decide) ?_
  refine g_bipush (-2) C 96 rfl dX9_toldOf_94 kb_m2 ?_
  exact r_int hR hq dX9_toldOf_96 rfl rfl
set_option maxHeartbeats 400000 in
set_option maxRecDepth 100000 in
theorem c_X9_told (l : Launch) (Δ : gD) (a : Nat → Nat) (x1 : Int32) (s : S9) {res : Int32} (hq : sem_X9_told x1 s = some res) : MR l yX9_told cX9_told 2 (some .int) Δ (cs9 a Δ s) [.ref (a 0), .int x1] 3 68 (.int res) := by
  refine MR.of (by decide) (Nat.le_of_ble_eq_true rfl) ?_
  intro Γ H hl C hK hP hR
  subst hl
  show g Γ { frames := 3, cells := 0, slots := 0, locals := 68 } 2 H [] 0 0 0 [(0, .ref (a 0)), (1, .int x1)] []
  refine g_iload_n C 1 rfl dX9_told_0 1 rfl ?_
  refine g_i2l C 2 rfl dX9_told_1 ?_
  refine g_ldc2 10 C 5 rfl dX9_told_2 k_X9_295 ?_
  refine g_ldc2 69 C 8 rfl dX9_told_5 k_X9_350 ?_
  obtain ⟨r1, hz2, hq⟩ := bindE hq
  refine g_callRS (rest := []) C 11 rfl dX9_told_8 (c_X9_in Γ.2.1 Δ  (Int32.toInt64 x1) 10 69  hz2) mv_X9_in (Or.inl ml_X9_90) hK rfl rfl ⟨Nat.le_of_ble_eq_true rfl, Nat.le_of_ble_eq_true rfl⟩ (Nat.le_of_ble_eq_true rfl) ⟨Nat.zero_le _, Nat.zero_le _⟩ ?_
  refine s_if_eq C 29 14 rfl dX9_told_11 (by decide) hq (fun hq => ?_) (fun hq => ?_)
  rotate_left
  · refine g_aload_n C 15 rfl dX9_told_14 0 rfl ?_
    refine g_iload_n C 16 rfl dX9_told_15 1 rfl ?_
    refine g_bipush 10 C 18 rfl dX9_told_16 kb_10 ?_
    refine g_idiv C 19 rfl dX9_told_18 (by decide) ?_
    refine g_iconst 1 C 20 rfl dX9_told_19 ki_1 ?_
    refine g_isub C 21 rfl dX9_told_20 ?_
    refine g_iload_n C 22 rfl dX9_told_21 1 rfl ?_
    refine g_bipush 10 C 24 rfl dX9_told_22 kb_10 ?_
    refine g_irem C 25 rfl dX9_told_24 (by decide) ?_
    obtain ⟨r8, hz9, hq⟩ := bindE hq
    refine g_callRV (rest := []) C 28 rfl dX9_told_25 (c_X9_toldOf Γ.2.1 Δ a ((x1 / 10) - 1) (jrem x1 10) s hz9) mv_X9_toldOf ml_X9_352 hK hP rfl rfl rfl rfl rfl ⟨Nat.le_of_ble_eq_true rfl, Nat.le_of_ble_eq_true rfl⟩ (Nat.le_of_ble_eq_true rfl) ⟨Nat.zero_le _, Nat.zero_le _⟩ ?_
    exact r_int hR hq dX9_told_28 rfl rfl
  refine g_iload_n C 30 rfl dX9_told_29 1 rfl ?_
  by_cases hc3 : x1 = 0
  · have hq := if_t hc3 hq
    refine g_tblIn C 64 dX9_told_30 (by rw [hc3]; decide) (by rw [hc3]; decide) (off := 34) (by rw [hc3]; rfl) (by decide) ?_
    refine g_aload_n C 65 rfl dX9_told_64 0 rfl ?_
    refine g_get (v := .int (x9_padMany s)) (fs := fl9 a s) C 68 rfl dX9_told_65 hK hP la_X9 0 13 (Nat.le_of_ble_eq_true rfl) fl_X9_123 rfl rfl rfl rfl ?_
    exact r_int hR hq dX9_told_68 rfl rfl
  replace hq := if_f hc3 hq
  by_cases hc4 : x1 = 1
  · have hq := if_t hc4 hq
    refine g_tblIn C 69 dX9_told_30 (by rw [hc4]; decide) (by rw [hc4]; decide) (off := 39) (by rw [hc4]; rfl) (by decide) ?_
    refine g_aload_n C 70 rfl dX9_told_69 0 rfl ?_
    refine g_get (v := .int (x9_there s)) (fs := fl9 a s) C 73 rfl dX9_told_70 hK hP la_X9 0 0 (Nat.le_of_ble_eq_true rfl) fl_X9_94 rfl rfl rfl rfl ?_
    exact r_int hR hq dX9_told_73 rfl rfl
  replace hq := if_f hc4 hq
  by_cases hc5 : x1 = 2
  · have hq := if_t hc5 hq
    refine g_tblIn C 74 dX9_told_30 (by rw [hc5]; decide) (by rw [hc5]; decide) (off := 44) (by rw [hc5]; rfl) (by decide) ?_
    refine g_aload_n C 75 rfl dX9_told_74 0 rfl ?_
    refine g_get (v := .int (x9_limit s)) (fs := fl9 a s) C 78 rfl dX9_told_75 hK hP la_X9 0 1 (Nat.le_of_ble_eq_true rfl) fl_X9_81 rfl rfl rfl rfl ?_
    exact r_int hR hq dX9_told_78 rfl rfl
  replace hq := if_f hc5 hq
  by_cases hc6 : x1 = 3
  · have hq := if_t hc6 hq
    refine g_tblIn C 79 dX9_told_30 (by rw [hc6]; decide) (by rw [hc6]; decide) (off := 49) (by rw [hc6]; rfl) (by decide) ?_
    refine g_aload_n C 80 rfl dX9_told_79 0 rfl ?_
    refine g_get (v := .int (x9_ears s)) (fs := fl9 a s) C 83 rfl dX9_told_80 hK hP la_X9 0 2 (Nat.le_of_ble_eq_true rfl) fl_X9_85 rfl rfl rfl rfl ?_
    exact r_int hR hq dX9_told_83 rfl rfl
  replace hq := if_f hc6 hq
  by_cases hc7 : x1 = 4
  · have hq := if_t hc7 hq
    refine g_tblIn C 84 dX9_told_30 (by rw [hc7]; decide) (by rw [hc7]; decide) (off := 54) (by rw [hc7]; rfl) (by decide) ?_
    refine g_aload_n C 85 rfl dX9_told_84 0 rfl ?_
    refine g_get (v := .int (x9_sights s)) (fs := fl9 a s) C 88 rfl dX9_told_85 hK hP la_X9 0 11 (Nat.le_of_ble_eq_true rfl) fl_X9_312 rfl rfl rfl rfl ?_
    exact r_int hR hq dX9_told_88 rfl rfl
  replace hq := if_f hc7 hq
  refine g_tblOut C 89 dX9_told_30 (by have nhc3 := lv_neT (a := 0) hc3 (by decide); have nhc4 := lv_neT (a := 1) hc4 (by decide); have nhc5 := lv_neT (a := 2) hc5 (by decide); have nhc6 := lv_neT (a := 3) hc6 (by decide); have nhc7 := lv_neT (a := 4) hc7 (by decide); omega) (by decide) ?_
  refine g_bipush (-2) C 91 rfl dX9_told_89 kb_m2 ?_
  exact r_int hR hq dX9_told_91 rfl rfl
