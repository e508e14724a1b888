set_option maxHeartbeats 4000000 in
set_option maxRecDepth 100000 in
theorem c_X0_mostFrom (l : Launch) (Δ : gD) (a : Nat → Nat) (x1 : Int32) (x2 : Int32) (x3 : Int32) (s : S0) {res : Int32} (hq : sem_X0_mostFrom x1 x2 x3 s = some res) : MR l yX0_mostFrom cX0_mostFrom 4 (some .int) Δ (cs0 a Δ s) [.ref (a 0), .int x1, .int x2, .int x3] 1 22 (.int res) := by
  refine MR.of (by decide) (Nat.le_of_ble_eq_true rfl) ?_
  intro Γ H hl C hK hP hR
  subst hl
  show g Γ { frames := 1, cells := 0, slots := 0, locals := 22 } 4 H [] 0 0 0 [(0, .ref (a 0)), (1, .int x1), (2, .int x2), (3, .int x3)] []
  refine g_iload_n C 1 rfl dX0_mostFrom_0 1 rfl ?_
  refine g_iconst 0 C 2 rfl dX0_mostFrom_1 ki_0 ?_
  refine g_bipush 6 C 4 rfl dX0_mostFrom_2 kb_6 ?_
  obtain ⟨r1, hz2, hq⟩ := bindE hq
  refine g_callRS (rest := []) C 7 rfl dX0_mostFrom_4 (c_X8_within Γ.2.1 Δ  x1 0 6  hz2) mv_X8_within (Or.inr ⟨_, mn_X0_50⟩) hK rfl rfl ⟨Nat.le_of_ble_eq_true rfl, Nat.le_of_ble_eq_true rfl⟩ (Nat.le_of_ble_eq_true rfl) ⟨Nat.zero_le _, Nat.zero_le _⟩ ?_
  refine s_if_eq C 30 10 rfl dX0_mostFrom_7 (by decide) hq (fun hq => ?_) (fun hq => ?_)
  · refine g_iconst 0 C 31 rfl dX0_mostFrom_30 ki_0 ?_
    exact r_int hR hq dX0_mostFrom_31 rfl rfl
  refine g_iload_n C 11 rfl dX0_mostFrom_10 2 rfl ?_
  refine g_iconst 0 C 12 rfl dX0_mostFrom_11 ki_0 ?_
  refine g_bipush 6 C 14 rfl dX0_mostFrom_12 kb_6 ?_
  obtain ⟨r3, hz4, hq⟩ := bindE hq
  refine g_callRS (rest := []) C 17 rfl dX0_mostFrom_14 (c_X8_within Γ.2.1 Δ  x2 0 6  hz4) mv_X8_within (Or.inr ⟨_, mn_X0_50⟩) hK rfl rfl ⟨Nat.le_of_ble_eq_true rfl, Nat.le_of_ble_eq_true rfl⟩ (Nat.le_of_ble_eq_true rfl) ⟨Nat.zero_le _, Nat.zero_le _⟩ ?_
  refine s_if_eq C 30 20 rfl dX0_mostFrom_17 (by decide) hq (fun hq => ?_) (fun hq => ?_)
  · refine g_iconst 0 C 31 rfl dX0_mostFrom_30 ki_0 ?_
    exact r_int hR hq dX0_mostFrom_31 rfl rfl
  refine g_iload_n C 21 rfl dX0_mostFrom_20 3 rfl ?_
  refine g_iconst 0 C 22 rfl dX0_mostFrom_21 ki_0 ?_
  refine g_bipush 6 C 24 rfl dX0_mostFrom_22 kb_6 ?_
  obtain ⟨r5, hz6, hq⟩ := bindE hq
  refine g_callRS (rest := []) C 27 rfl dX0_mostFrom_24 (c_X8_within Γ.2.1 Δ  x3 0 6  hz6) mv_X8_within (Or.inr ⟨_, mn_X0_50⟩) hK rfl rfl ⟨Nat.le_of_ble_eq_true rfl, Nat.le_of_ble_eq_true rfl⟩ (Nat.le_of_ble_eq_true rfl) ⟨Nat.zero_le _, Nat.zero_le _⟩ ?_
  refine s_if_ne C 32 30 rfl dX0_mostFrom_27 (by decide) hq (fun hq => ?_) (fun hq => ?_)
  rotate_left
  · refine g_iconst 0 C 31 rfl dX0_mostFrom_30 ki_0 ?_
    exact r_int hR hq dX0_mostFrom_31 rfl rfl
  refine g_aload_n C 33 rfl dX0_mostFrom_32 0 rfl ?_
  refine g_get (v := .ref (a 1)) C 36 rfl dX0_mostFrom_33 hK hP la_X0 0 0 (Nat.le_of_ble_eq_true rfl) fl_X0_11 rfl rfl rfl rfl ?_
  refine g_iload_n C 37 rfl dX0_mostFrom_36 1 rfl ?_
  refine g_bipush 7 C 39 rfl dX0_mostFrom_37 kb_7 ?_
  refine g_imul C 40 rfl dX0_mostFrom_39 ?_
  refine g_iload_n C 41 rfl dX0_mostFrom_40 2 rfl ?_
  refine g_iadd C 42 rfl dX0_mostFrom_41 ?_
  refine g_bipush 7 C 44 rfl dX0_mostFrom_42 kb_7 ?_
  refine g_imul C 45 rfl dX0_mostFrom_44 ?_
  refine g_iload_n C 46 rfl dX0_mostFrom_45 3 rfl ?_
  refine g_iadd C 47 rfl dX0_mostFrom_46 ?_
  refine s_iald C 48 rfl dX0_mostFrom_47 hK hP 1 rfl hq (fun hq hi7 => ?_)
  exact r_int hR hq dX0_mostFrom_48 rfl rfl
set_option maxHeartbeats 4000000 in
set_option maxRecDepth 100000 in
theorem c_X0_byFirst (l : Launch) (Δ : gD) (a : Nat → Nat) (x1 : Int32) (x2 : Int32) (x3 : Int32) (s : S0) {res : Int32} (hq : sem_X0_byFirst x1 x2 x3 s = some res) : MR l yX0_byFirst cX0_byFirst 4 (some .int) Δ (cs0 a Δ s) [.ref (a 0), .int x1, .int x2, .int x3] 2 45 (.int res) := by
  refine MR.of (by decide) (Nat.le_of_ble_eq_true rfl) ?_
  intro Γ H hl C hK hP hR
  subst hl
  show g Γ { frames := 2, cells := 0, slots := 0, locals := 45 } 4 H [] 0 0 0 [(0, .ref (a 0)), (1, .int x1), (2, .int x2), (3, .int x3)] []
  refine g_iload_n C 1 rfl dX0_byFirst_0 2 rfl ?_
  refine s_if_le C 27 4 rfl dX0_byFirst_1 (by decide) hq (fun hq => ?_) (fun hq => ?_)
  · refine g_bipush (-6) C 29 rfl dX0_byFirst_27 kb_m6 ?_
    exact r_int hR hq dX0_byFirst_29 rfl rfl
  refine g_aload_n C 5 rfl dX0_byFirst_4 0 rfl ?_
  refine g_get (v := .int (x0_first s)) C 8 rfl dX0_byFirst_5 hK hP la_X0 0 2 (Nat.le_of_ble_eq_true rfl) fl_X0_19 rfl rfl rfl rfl ?_
  refine g_iload_n C 9 rfl dX0_byFirst_8 1 rfl ?_
  obtain ⟨r1, hz2, hq⟩ := bindE hq
  refine g_callRS (rest := []) C 12 rfl dX0_byFirst_9 (c_X8_digitOf Γ.2.1 Δ  (x0_first s) x1  hz2) mv_X8_digitOf (Or.inr ⟨_, mn_X0_47⟩) hK rfl rfl ⟨Nat.le_of_ble_eq_true rfl, Nat.le_of_ble_eq_true rfl⟩ (Nat.le_of_ble_eq_true rfl) ⟨Nat.zero_le _, Nat.zero_le _⟩ ?_
  refine g_aload_n C 13 rfl dX0_byFirst_12 0 rfl ?_
  refine g_iload_n C 14 rfl dX0_byFirst_13 1 rfl ?_
  refine g_iconst 1 C 15 rfl dX0_byFirst_14 ki_1 ?_
  refine g_iadd C 16 rfl dX0_byFirst_15 ?_
  refine g_iload_n C 17 rfl dX0_byFirst_16 2 rfl ?_
  refine g_iconst 1 C 18 rfl dX0_byFirst_17 ki_1 ?_
  refine g_isub C 19 rfl dX0_byFirst_18 ?_
  refine g_iload_n C 20 rfl dX0_byFirst_19 3 rfl ?_
  obtain ⟨r3, hz4, hq⟩ := bindE hq
  refine g_callRV (rest := [.int r1]) C 23 rfl dX0_byFirst_20 (c_X0_mostFrom Γ.2.1 Δ a (x1 + 1) (x2 - 1) x3 s hz4) mv_X0_mostFrom ml_X0_32 hK hP rfl rfl rfl rfl rfl ⟨Nat.le_of_ble_eq_true rfl, Nat.le_of_ble_eq_true rfl⟩ (Nat.le_of_ble_eq_true rfl) ⟨Nat.zero_le _, Nat.zero_le _⟩ ?_
  refine g_iadd C 24 rfl dX0_byFirst_23 ?_
  refine g_goto C 29 dX0_byFirst_24 (by decide) ?_
  exact r_int hR hq dX0_byFirst_29 rfl rfl
set_option maxHeartbeats 4000000 in
set_option maxRecDepth 100000 in
theorem c_X0_bySecond (l : Launch) (Δ : gD) (a : Nat → Nat) (x1 : Int32) (x2 : Int32) (x3 : Int32) (s : S0) {res : Int32} (hq : sem_X0_bySecond x1 x2 x3 s = some res) : MR l yX0_bySecond cX0_bySecond 4 (some .int) Δ (cs0 a Δ s) [.ref (a 0), .int x1, .int x2, .int x3] 2 45 (.int res) := by
  refine MR.of (by decide) (Nat.le_of_ble_eq_true rfl) ?_
  intro Γ H hl C hK hP hR
  subst hl
  show g Γ { frames := 2, cells := 0, slots := 0, locals := 45 } 4 H [] 0 0 0 [(0, .ref (a 0)), (1, .int x1), (2, .int x2), (3, .int x3)] []
  refine g_iload_n C 1 rfl dX0_bySecond_0 3 rfl ?_
  refine s_if_le C 27 4 rfl dX0_bySecond_1 (by decide) hq (fun hq => ?_) (fun hq => ?_)
  · refine g_bipush (-6) C 29 rfl dX0_bySecond_27 kb_m6 ?_
    exact r_int hR hq dX0_bySecond_29 rfl rfl
  refine g_aload_n C 5 rfl dX0_bySecond_4 0 rfl ?_
  refine g_get (v := .int (x0_second s)) C 8 rfl dX0_bySecond_5 hK hP la_X0 0 3 (Nat.le_of_ble_eq_true rfl) fl_X0_22 rfl rfl rfl rfl ?_
  refine g_iload_n C 9 rfl dX0_bySecond_8 1 rfl ?_
  obtain ⟨r1, hz2, hq⟩ := bindE hq
  refine g_callRS (rest := []) C 12 rfl dX0_bySecond_9 (c_X8_digitOf Γ.2.1 Δ  (x0_second s) x1  hz2) mv_X8_digitOf (Or.inr ⟨_, mn_X0_47⟩) hK rfl rfl ⟨Nat.le_of_ble_eq_true rfl, Nat.le_of_ble_eq_true rfl⟩ (Nat.le_of_ble_eq_true rfl) ⟨Nat.zero_le _, Nat.zero_le _⟩ ?_
  refine g_aload_n C 13 rfl dX0_bySecond_12 0 rfl ?_
  refine g_iload_n C 14 rfl dX0_bySecond_13 1 rfl ?_
  refine g_iconst 1 C 15 rfl dX0_bySecond_14 ki_1 ?_
  refine g_iadd C 16 rfl dX0_bySecond_15 ?_
  refine g_iload_n C 17 rfl dX0_bySecond_16 2 rfl ?_
  refine g_iload_n C 18 rfl dX0_bySecond_17 3 rfl ?_
  refine g_iconst 1 C 19 rfl dX0_bySecond_18 ki_1 ?_
  refine g_isub C 20 rfl dX0_bySecond_19 ?_
  obtain ⟨r3, hz4, hq⟩ := bindE hq
  refine g_callRV (rest := [.int r1]) C 23 rfl dX0_bySecond_20 (c_X0_mostFrom Γ.2.1 Δ a (x1 + 1) x2 (x3 - 1) s hz4) mv_X0_mostFrom ml_X0_32 hK hP rfl rfl rfl rfl rfl ⟨Nat.le_of_ble_eq_true rfl, Nat.le_of_ble_eq_true rfl⟩ (Nat.le_of_ble_eq_true rfl) ⟨Nat.zero_le _, Nat.zero_le _⟩ ?_
  refine g_iadd C 24 rfl dX0_bySecond_23 ?_
  refine g_goto C 29 dX0_bySecond_24 (by decide) ?_
  exact r_int hR hq dX0_bySecond_29 rfl rfl
set_option maxHeartbeats 4000000 in
set_option maxRecDepth 100000 in
theorem c_X0_best (l : Launch) (Δ : gD) (a : Nat → Nat) (x1 : Int32) (x2 : Int32) (x3 : Int32) (s : S0) {res : Int32} (hq : sem_X0_best x1 x2 x3 s = some res) : MR l yX0_best cX0_best 5 (some .int) Δ (cs0 a Δ s) [.ref (a 0), .int x1, .int x2, .int x3] 3 68 (.int res) := by
  refine MR.of (by decide) (Nat.le_of_ble_eq_true rfl) ?_
  intro Γ H hl C hK hP hR
  subst hl
  show g Γ { frames := 3, cells := 0, slots := 0, locals := 68 } 5 H [] 0 0 0 [(0, .ref (a 0)), (1, .int x1), (2, .int x2), (3, .int x3)] []
  refine g_aload_n C 1 rfl dX0_best_0 0 rfl ?_
  refine g_iload_n C 2 rfl dX0_best_1 1 rfl ?_
  refine g_iconst 1 C 3 rfl dX0_best_2 ki_1 ?_
  refine g_iadd C 4 rfl dX0_best_3 ?_
  refine g_iload_n C 5 rfl dX0_best_4 2 rfl ?_
  refine g_iload_n C 6 rfl dX0_best_5 3 rfl ?_
  obtain ⟨r1, hz2, hq⟩ := bindE hq
  refine g_callRV (rest := []) C 9 rfl dX0_best_6 (c_X0_mostFrom Γ.2.1 Δ a (x1 + 1) x2 x3 s hz2) mv_X0_mostFrom ml_X0_32 hK hP rfl rfl rfl rfl rfl ⟨Nat.le_of_ble_eq_true rfl, Nat.le_of_ble_eq_true rfl⟩ (Nat.le_of_ble_eq_true rfl) ⟨Nat.zero_le _, Nat.zero_le _⟩ ?_
  refine g_istore [(4, .int r1), (0, .ref (a 0)), (1, .int x1), (2, .int x2), (3, .int x3)] C 11 rfl dX0_best_9 (Nat.le_of_ble_eq_true rfl) rfl ?_
  refine g_aload_n C 12 rfl dX0_best_11 1 rfl ?_
  refine g_get (v := .int (x0_there s)) C 15 rfl dX0_best_12 hK hP la_X0 0 1 (Nat.le_of_ble_eq_true rfl) fl_X0_15 rfl rfl rfl rfl ?_
  refine g_iload_n C 16 rfl dX0_best_15 2 rfl ?_
  refine g_ishr C 17 rfl dX0_best_16 ?_
  refine g_iconst 1 C 18 rfl dX0_best_17 ki_1 ?_
  refine g_iand C 19 rfl dX0_best_18 ?_
  refine g_iconst 1 C 20 rfl dX0_best_19 ki_1 ?_
  refine s_icmp_ne C 51 23 rfl dX0_best_20 (by decide) hq (fun hq => ?_) (fun hq => ?_)
  · refine g_iload C 53 rfl dX0_best_51 0 rfl ?_
    exact r_int hR hq dX0_best_53 rfl rfl
  refine g_iload C 25 rfl dX0_best_23 0 rfl ?_
  refine g_aload_n C 26 rfl dX0_best_25 1 rfl ?_
  refine g_iload_n C 27 rfl dX0_best_26 2 rfl ?_
  refine g_iload_n C 28 rfl dX0_best_27 3 rfl ?_
  refine g_iload_n C 29 rfl dX0_best_28 4 rfl ?_
  obtain ⟨r3, hz4, hq⟩ := bindE hq
  refine g_callRV (rest := [.int r1]) C 32 rfl dX0_best_29 (c_X0_byFirst Γ.2.1 Δ a x1 x2 x3 s hz4) mv_X0_byFirst ml_X0_35 hK hP rfl rfl rfl rfl rfl ⟨Nat.le_of_ble_eq_true rfl, Nat.le_of_ble_eq_true rfl⟩ (Nat.le_of_ble_eq_true rfl) ⟨Nat.zero_le _, Nat.zero_le _⟩ ?_
  refine g_mmax C 35 rfl dX0_best_32 ml_X0_38 mth_max ⟨Nat.le_of_ble_eq_true rfl, Nat.le_of_ble_eq_true rfl⟩ ⟨Nat.zero_le _, Nat.zero_le _⟩ ?_
  refine g_istore [(4, .int (jmax r1 r3)), (0, .ref (a 0)), (1, .int x1), (2, .int x2), (3, .int x3)] C 37 rfl dX0_best_35 (Nat.le_of_ble_eq_true rfl) rfl ?_
  refine g_iload C 39 rfl dX0_best_37 0 rfl ?_
  refine g_aload_n C 40 rfl dX0_best_39 1 rfl ?_
  refine g_iload_n C 41 rfl dX0_best_40 2 rfl ?_
  refine g_iload_n C 42 rfl dX0_best_41 3 rfl ?_
  refine g_iload_n C 43 rfl dX0_best_42 4 rfl ?_
  obtain ⟨r5, hz6, hq⟩ := bindE hq
  refine g_callRV (rest := [.int (jmax r1 r3)]) C 46 rfl dX0_best_43 (c_X0_bySecond Γ.2.1 Δ a x1 x2 x3 s hz6) mv_X0_bySecond ml_X0_44 hK hP rfl rfl rfl rfl rfl ⟨Nat.le_of_ble_eq_true rfl, Nat.le_of_ble_eq_true rfl⟩ (Nat.le_of_ble_eq_true rfl) ⟨Nat.zero_le _, Nat.zero_le _⟩ ?_
  refine g_mmax C 49 rfl dX0_best_46 ml_X0_38 mth_max ⟨Nat.le_of_ble_eq_true rfl, Nat.le_of_ble_eq_true rfl⟩ ⟨Nat.zero_le _, Nat.zero_le _⟩ ?_
  refine g_istore [(4, .int (jmax (jmax r1 r3) r5)), (0, .ref (a 0)), (1, .int x1), (2, .int x2), (3, .int x3)] C 51 rfl dX0_best_49 (Nat.le_of_ble_eq_true rfl) rfl ?_
  refine g_iload C 53 rfl dX0_best_51 0 rfl ?_
  exact r_int hR hq dX0_best_53 rfl rfl
set_option maxHeartbeats 4000000 in
set_option maxRecDepth 100000 in
theorem c_X0_reckon (l : Launch) (Δ : gD) (a : Nat → Nat) (b : Nat → Nat) (x2 : Int32) (x3 : Int32) (s : S0) (o : S6) {res : S0} (hq : sem_X0_reckon x2 x3 s o = some res) : MW l yX0_reckon cX0_reckon 7 none Δ (cs0 a Δ s ++ cs6 b Δ o) [.ref (a 0), .ref (b 0), .int x2, .int x3] 4 92 none (cs0 a Δ res ++ cs6 b Δ o) := by
  refine MW.of (by decide) (Nat.le_of_ble_eq_true rfl) ?_
  intro Γ A H hl C hK hP hD hS hA hR
  subst hl
  show g Γ { frames := 4, cells := 0, slots := 0, locals := 92 } 7 H [] 0 0 0 [(0, .ref (a 0)), (1, .ref (b 0)), (2, .int x2), (3, .int x3)] []
  refine g_aload_n C 1 rfl dX0_reckon_0 0 rfl ?_
  refine g_aload_n C 2 rfl dX0_reckon_1 1 rfl ?_
  refine g_get (v := .int (x6_there o)) C 5 rfl dX0_reckon_2 hK hP la_X6 2 2 (Nat.le_of_ble_eq_true rfl) fl_X0_25 rfl rfl rfl rfl ?_
  refine g_put (cs0 a Δ (p0_there s (x6_there o)) ++ cs6 b Δ o) C 8 rfl dX0_reckon_5 hK hP hD hS la_X0 tyX0_ok nmX0 0 1 (Nat.le_of_ble_eq_true rfl) fl_X0_15 rfl rfl rfl rfl rfl rfl (Nat.le_of_ble_eq_true rfl) rfl (fun H L hP hD hS => ?_)
  refine g_aload_n C 9 rfl dX0_reckon_8 0 rfl ?_
  refine g_iload_n C 10 rfl dX0_reckon_9 2 rfl ?_
  refine g_put (cs0 a Δ (p0_first (p0_there s (x6_there o)) x2) ++ cs6 b Δ o) C 13 rfl dX0_reckon_10 hK hP hD hS la_X0 tyX0_ok nmX0 0 2 (Nat.le_of_ble_eq_true rfl) fl_X0_19 rfl rfl rfl rfl rfl rfl (Nat.le_of_ble_eq_true rfl) rfl (fun H L hP hD hS => ?_)
  refine g_aload_n C 14 rfl dX0_reckon_13 0 rfl ?_
  refine g_iload_n C 15 rfl dX0_reckon_14 3 rfl ?_
  refine g_put (cs0 a Δ (p0_second (p0_first (p0_there s (x6_there o)) x2) x3) ++ cs6 b Δ o) C 18 rfl dX0_reckon_15 hK hP hD hS la_X0 tyX0_ok nmX0 0 3 (Nat.le_of_ble_eq_true rfl) fl_X0_22 rfl rfl rfl rfl rfl rfl (Nat.le_of_ble_eq_true rfl) rfl (fun H L hP hD hS => ?_)
  refine g_iconst 5 C 19 rfl dX0_reckon_18 ki_5 ?_
  refine g_istore [(4, .int 5), (0, .ref (a 0)), (1, .ref (b 0)), (2, .int x2), (3, .int x3)] C 21 rfl dX0_reckon_19 (Nat.le_of_ble_eq_true rfl) rfl ?_
  have Q21 : ∀ (n : Nat) (x4 : Int32) (s : S0) (o : (S0)) (H : Heap) (L : List Loc) (hP : va_P Δ.1 classes (cs0 a Δ s ++ cs6 b Δ o) H) (hD : va_D A (cs0 a Δ s ++ cs6 b Δ o)) (hS : va_S A (sOf Γ).heap H L) (hq : lp_X0_reckon_21 o n x4 s = some o) (E2 : ∀ (H : Heap) (L : List Loc), va_P Δ.1 classes (cs0 a Δ o ++ cs6 b Δ o) H → va_D A (cs0 a Δ o ++ cs6 b Δ o) → va_S A (sOf Γ).heap H L → g Γ { frames := 4, cells := 0, slots := 0, locals := 92 } 7 H L 0 0 93 [] []), g Γ { frames := 4, cells := 0, slots := 0, locals := 92 } 7 H L 0 0 21 [(0, .ref (a 0)), (4, .int x4)] [] := by
    intro n
    induction n with
    | zero => intro x4 s o H L hP hD hS hq; exact nomatch (show (none : Option (S0)) = some o from hq)
    | succ n ih =>
      intro x4 s o H L hP hD hS hq E2
      have hq : bd_X0_reckon_21 o (lp_X0_reckon_21 o n) x4 s = some o := hq
      refine g_iload C 23 rfl dX0_reckon_21 1 rfl ?_
      refine s_if_lt C 93 26 rfl dX0_reckon_23 (by decide) hq (fun hq => ?_) (fun hq => ?_)
      · cases hq
        exact g_sub [] rfl (E2 _ _ hP hD hS)
      refine g_iconst 0 C 27 rfl dX0_reckon_26 ki_0 ?_
      refine g_istore [(5, .int 0), (0, .ref (a 0)), (4, .int x4)] C 29 rfl dX0_reckon_27 (Nat.le_of_ble_eq_true rfl) rfl ?_
      have Q29 : ∀ (x4 : Int32), ∀ (n : Nat) (x5 : Int32) (s : S0) (o : (S0)) (H : Heap) (L : List Loc) (hP : va_P Δ.1 classes (cs0 a Δ s ++ cs6 b Δ o) H) (hD : va_D A (cs0 a Δ s ++ cs6 b Δ o)) (hS : va_S A (sOf Γ).heap H L) (hq : lp_X0_reckon_29 x4 o n x5 s = some o) (E2 : ∀ (H : Heap) (L : List Loc), va_P Δ.1 classes (cs0 a Δ o ++ cs6 b Δ o) H → va_D A (cs0 a Δ o ++ cs6 b Δ o) → va_S A (sOf Γ).heap H L → g Γ { frames := 4, cells := 0, slots := 0, locals := 92 } 7 H L 0 0 87 [(0, .ref (a 0)), (4, .int x4)] []), g Γ { frames := 4, cells := 0, slots := 0, locals := 92 } 7 H L 0 0 29 [(0, .ref (a 0)), (4, .int x4), (5, .int x5)] [] := by
        intro x4
        intro n
        induction n with
        | zero => intro x5 s o H L hP hD hS hq; exact nomatch (show (none : Option (S0)) = some o from hq)
        | succ n ih =>
          intro x5 s o H L hP hD hS hq E2
          have hq : bd_X0_reckon_29 x4 o (lp_X0_reckon_29 x4 o n) x5 s = some o := hq
          refine g_iload C 31 rfl dX0_reckon_29 2 rfl ?_
          refine g_bipush 7 C 33 rfl dX0_reckon_31 kb_7 ?_
          refine s_icmp_ge C 87 36 rfl dX0_reckon_33 (by decide) hq (fun hq => ?_) (fun hq => ?_)
          · cases hq
            exact g_sub [0, 1] rfl (E2 _ _ hP hD hS)
          refine g_iconst 0 C 37 rfl dX0_reckon_36 ki_0 ?_
          refine g_istore [(6, .int 0), (0, .ref (a 0)), (4, .int x4), (5, .int x5)] C 39 rfl dX0_reckon_37 (Nat.le_of_ble_eq_true rfl) rfl ?_
          have Q39 : ∀ (x4 : Int32) (x5 : Int32), ∀ (n : Nat) (x6 : Int32) (s : S0) (o : (S0)) (H : Heap) (L : List Loc) (hP : va_P Δ.1 classes (cs0 a Δ s ++ cs6 b Δ o) H) (hD : va_D A (cs0 a Δ s ++ cs6 b Δ o)) (hS : va_S A (sOf Γ).heap H L) (hq : lp_X0_reckon_39 x4 x5 o n x6 s = some o) (E2 : ∀ (H : Heap) (L : List Loc), va_P Δ.1 classes (cs0 a Δ o ++ cs6 b Δ o) H → va_D A (cs0 a Δ o ++ cs6 b Δ o) → va_S A (sOf Γ).heap H L → g Γ { frames := 4, cells := 0, slots := 0, locals := 92 } 7 H L 0 0 81 [(0, .ref (a 0)), (4, .int x4), (5, .int x5)] []), g Γ { frames := 4, cells := 0, slots := 0, locals := 92 } 7 H L 0 0 39 [(0, .ref (a 0)), (4, .int x4), (5, .int x5), (6, .int x6)] [] := by
            intro x4 x5
            intro n
            induction n with
            | zero => intro x6 s o H L hP hD hS hq; exact nomatch (show (none : Option (S0)) = some o from hq)
            | succ n ih =>
              intro x6 s o H L hP hD hS hq E2
              have hq : bd_X0_reckon_39 x4 x5 o (lp_X0_reckon_39 x4 x5 o n) x6 s = some o := hq
              refine g_iload C 41 rfl dX0_reckon_39 3 rfl ?_
              refine g_bipush 7 C 43 rfl dX0_reckon_41 kb_7 ?_
              refine s_icmp_ge C 81 46 rfl dX0_reckon_43 (by decide) hq (fun hq => ?_) (fun hq => ?_)
              · cases hq
                exact g_sub [0, 1, 2] rfl (E2 _ _ hP hD hS)
              refine g_aload_n C 47 rfl dX0_reckon_46 0 rfl ?_
              refine g_get (v := .ref (a 1)) C 50 rfl dX0_reckon_47 hK hP la_X0 0 0 (Nat.le_of_ble_eq_true rfl) fl_X0_11 rfl rfl rfl rfl ?_
              refine g_iload C 52 rfl dX0_reckon_50 1 rfl ?_
              refine g_bipush 7 C 54 rfl dX0_reckon_52 kb_7 ?_
              refine g_imul C 55 rfl dX0_reckon_54 ?_
              refine g_iload C 57 rfl dX0_reckon_55 2 rfl ?_
              refine g_iadd C 58 rfl dX0_reckon_57 ?_
              refine g_bipush 7 C 60 rfl dX0_reckon_58 kb_7 ?_
              refine g_imul C 61 rfl dX0_reckon_60 ?_
              refine g_iload C 63 rfl dX0_reckon_61 3 rfl ?_
              refine g_iadd C 64 rfl dX0_reckon_63 ?_
              refine g_aload_n C 65 rfl dX0_reckon_64 0 rfl ?_
              refine g_iload C 67 rfl dX0_reckon_65 1 rfl ?_
              refine g_iload C 69 rfl dX0_reckon_67 2 rfl ?_
              refine g_iload C 71 rfl dX0_reckon_69 3 rfl ?_
              obtain ⟨r1, hz2, hq⟩ := bindE hq
              refine g_callRV (rest := [.int ((((x4 * 7) + x5) * 7) + x6), .ref (a 1)]) C 74 rfl dX0_reckon_71 (c_X0_best Γ.2.1 Δ a x4 x5 x6 s hz2) mv_X0_best ml_X0_28 hK (va_P_cut hP [0, 1] rfl) rfl rfl rfl rfl rfl ⟨Nat.le_of_ble_eq_true rfl, Nat.le_of_ble_eq_true rfl⟩ (Nat.le_of_ble_eq_true rfl) ⟨Nat.zero_le _, Nat.zero_le _⟩ ?_
              refine s_iast (cs0 a Δ (p0_most s (upd (x0_most s) (((((x4 * 7) + x5) * 7) + x6) : Int32).toNatClampNeg r1)) ++ cs6 b Δ o) C 75 rfl dX0_reckon_74 hK hP hD hS 1 rfl hq rfl (fun hq hi3 H L hP hD hS => ?_)
              refine g_iinc (x6 + 1) [(6, .int (x6 + 1)), (0, .ref (a 0)), (4, .int x4), (5, .int x5)] C 78 rfl dX0_reckon_75 3 rfl (ii_1 _) (Nat.le_of_ble_eq_true rfl) rfl ?_
              refine g_goto C 39 dX0_reckon_78 (by decide) ?_
              exact g_sub [1, 2, 3, 0] rfl (ih (x6 + 1) (p0_most s (upd (x0_most s) (((((x4 * 7) + x5) * 7) + x6) : Int32).toNatClampNeg r1)) _ _ _ hP hD hS hq E2)
          obtain ⟨o4, ho5, hq⟩ := bindE hq
          refine g_sub [1, 2, 3, 0] rfl (Q39 x4 x5 FUEL 0 s o4 _ _ hP hD hS ho5 (fun H L hP hD hS => ?_))
          refine g_iinc (x5 + 1) [(5, .int (x5 + 1)), (0, .ref (a 0)), (4, .int x4)] C 84 rfl dX0_reckon_81 2 rfl (ii_1 _) (Nat.le_of_ble_eq_true rfl) rfl ?_
          refine g_goto C 29 dX0_reckon_84 (by decide) ?_
          exact g_sub [1, 2, 0] rfl (ih (x5 + 1) o4 _ _ _ hP hD hS hq E2)
      obtain ⟨o6, ho7, hq⟩ := bindE hq
      refine g_sub [1, 2, 0] rfl (Q29 x4 FUEL 0 s o6 _ _ hP hD hS ho7 (fun H L hP hD hS => ?_))
      refine g_iinc (x4 - 1) [(4, .int (x4 - 1)), (0, .ref (a 0))] C 90 rfl dX0_reckon_87 1 rfl (ii_m1 _) (Nat.le_of_ble_eq_true rfl) rfl ?_
      refine g_goto C 21 dX0_reckon_90 (by decide) ?_
      exact g_sub [1, 0] rfl (ih (x4 - 1) o6 _ _ _ hP hD hS hq E2)
  obtain ⟨o8, ho9, hq⟩ := bindE hq
  refine g_sub [1, 0] rfl (Q21  FUEL 5 (p0_second (p0_first (p0_there s (x6_there o)) x2) x3) o8 _ _ hP hD hS ho9 (fun H L hP hD hS => ?_))
  exact w_void (ws := fun s => cs0 a Δ s ++ cs6 b Δ o) hR hq hP hS dX0_reckon_93 rfl
set_option maxHeartbeats 4000000 in
set_option maxRecDepth 100000 in
theorem c_X0_holders (l : Launch) (Δ : gD) (a : Nat → Nat) (x1 : Int32) (x2 : Int32) (s : S0) {res : Int32} (hq : sem_X0_holders x1 x2 s = some res) : MR l yX0_holders cX0_holders 9 (some .int) Δ (cs0 a Δ s) [.ref (a 0), .int x1, .int x2] 3 68 (.int res) := by
  refine MR.of (by decide) (Nat.le_of_ble_eq_true rfl) ?_
  intro Γ H hl C hK hP hR
  subst hl
  show g Γ { frames := 3, cells := 0, slots := 0, locals := 68 } 9 H [] 0 0 0 [(0, .ref (a 0)), (1, .int x1), (2, .int x2)] []
  refine g_iconst 0 C 1 rfl dX0_holders_0 ki_0 ?_
  refine g_istore_n [(3, .int 0), (0, .ref (a 0)), (1, .int x1), (2, .int x2)] C 2 rfl dX0_holders_1 (Nat.le_of_ble_eq_true rfl) rfl ?_
  refine g_iload_n C 3 rfl dX0_holders_2 2 rfl ?_
  refine g_istore [(4, .int x1), (3, .int 0), (0, .ref (a 0)), (1, .int x1), (2, .int x2)] C 5 rfl dX0_holders_3 (Nat.le_of_ble_eq_true rfl) rfl ?_
  refine g_iload_n C 6 rfl dX0_holders_5 4 rfl ?_
  refine g_istore [(5, .int x2), (4, .int x1), (3, .int 0), (0, .ref (a 0)), (1, .int x1), (2, .int x2)] C 8 rfl dX0_holders_6 (Nat.le_of_ble_eq_true rfl) rfl ?_
  refine g_iconst 0 C 9 rfl dX0_holders_8 ki_0 ?_
  refine g_istore [(6, .int 0), (5, .int x2), (4, .int x1), (3, .int 0), (0, .ref (a 0)), (1, .int x1), (2, .int x2)] C 11 rfl dX0_holders_9 (Nat.le_of_ble_eq_true rfl) rfl ?_
  have Q11 : ∀ (n : Nat) (x3 : Int32) (x4 : Int32) (x5 : Int32) (x6 : Int32) (o : (Int32)) (hq : lp_X0_holders_11 s n x3 x4 x5 x6 = some o) (E2 : g Γ { frames := 3, cells := 0, slots := 0, locals := 68 } 9 H [] 0 0 110 [(3, .int o)] []), g Γ { frames := 3, cells := 0, slots := 0, locals := 68 } 9 H [] 0 0 11 [(0, .ref (a 0)), (3, .int x3), (4, .int x4), (5, .int x5), (6, .int x6)] [] := by
    intro n
    induction n with
    | zero => intro x3 x4 x5 x6 o hq; exact nomatch (show (none : Option (Int32)) = some o from hq)
    | succ n ih =>
      intro x3 x4 x5 x6 o hq E2
      have hq : bd_X0_holders_11 s (lp_X0_holders_11 s n) x3 x4 x5 x6 = some o := hq
      refine g_iload C 13 rfl dX0_holders_11 4 rfl ?_
      refine g_bipush 6 C 15 rfl dX0_holders_13 kb_6 ?_
      refine s_icmp_ge C 110 18 rfl dX0_holders_15 (by decide) hq (fun hq => ?_) (fun hq => ?_)
      · cases hq
        exact g_sub [1] rfl (E2 )
      refine g_aload_n C 19 rfl dX0_holders_18 0 rfl ?_
      refine g_iload C 21 rfl dX0_holders_19 4 rfl ?_
      refine g_iload C 23 rfl dX0_holders_21 2 rfl ?_
      refine g_iload C 25 rfl dX0_holders_23 3 rfl ?_
      obtain ⟨r1, hz2, hq⟩ := bindE hq
      refine g_callRV (rest := []) C 28 rfl dX0_holders_25 (c_X0_mostFrom Γ.2.1 Δ a x6 x4 x5 s hz2) mv_X0_mostFrom ml_X0_32 hK hP rfl rfl rfl rfl rfl ⟨Nat.le_of_ble_eq_true rfl, Nat.le_of_ble_eq_true rfl⟩ (Nat.le_of_ble_eq_true rfl) ⟨Nat.zero_le _, Nat.zero_le _⟩ ?_
      refine g_istore [(7, .int r1), (0, .ref (a 0)), (3, .int x3), (4, .int x4), (5, .int x5), (6, .int x6)] C 30 rfl dX0_holders_28 (Nat.le_of_ble_eq_true rfl) rfl ?_
      refine g_iconst 2 C 31 rfl dX0_holders_30 ki_2 ?_
      refine g_istore [(8, .int 2), (7, .int r1), (0, .ref (a 0)), (3, .int x3), (4, .int x4), (5, .int x5), (6, .int x6)] C 33 rfl dX0_holders_31 (Nat.le_of_ble_eq_true rfl) rfl ?_
      refine g_aload_n C 34 rfl dX0_holders_33 2 rfl ?_
      refine g_get (v := .int (x0_there s)) C 37 rfl dX0_holders_34 hK hP la_X0 0 1 (Nat.le_of_ble_eq_true rfl) fl_X0_15 rfl rfl rfl rfl ?_
      refine g_iload C 39 rfl dX0_holders_37 6 rfl ?_
      refine g_ishr C 40 rfl dX0_holders_39 ?_
      refine g_iconst 1 C 41 rfl dX0_holders_40 ki_1 ?_
      refine g_iand C 42 rfl dX0_holders_41 ?_
      refine s_if_ne C 51 45 rfl dX0_holders_42 (by decide) hq (fun hq => ?_) (fun hq => ?_)
      rotate_left
      · refine g_iconst 3 C 46 rfl dX0_holders_45 ki_3 ?_
        refine g_istore [(8, .int 3), (7, .int r1), (0, .ref (a 0)), (3, .int x3), (4, .int x4), (5, .int x5), (6, .int x6)] C 48 rfl dX0_holders_46 (Nat.le_of_ble_eq_true rfl) rfl ?_
        refine g_goto C 96 dX0_holders_48 (by decide) ?_
        refine g_bipush 10 C 98 rfl dX0_holders_96 kb_10 ?_
        refine g_iload_n C 99 rfl dX0_holders_98 3 rfl ?_
        refine g_imul C 100 rfl dX0_holders_99 ?_
        refine g_iload C 102 rfl dX0_holders_100 0 rfl ?_
        refine g_iadd C 103 rfl dX0_holders_102 ?_
        refine g_istore_n [(3, .int ((10 * x3) + 3)), (8, .int 3), (7, .int r1), (0, .ref (a 0)), (4, .int x4), (5, .int x5), (6, .int x6)] C 104 rfl dX0_holders_103 (Nat.le_of_ble_eq_true rfl) rfl ?_
        refine g_iinc (x6 + 1) [(6, .int (x6 + 1)), (3, .int ((10 * x3) + 3)), (8, .int 3), (7, .int r1), (0, .ref (a 0)), (4, .int x4), (5, .int x5)] C 107 rfl dX0_holders_104 6 rfl (ii_1 _) (Nat.le_of_ble_eq_true rfl) rfl ?_
        refine g_goto C 11 dX0_holders_107 (by decide) ?_
        exact g_sub [4, 1, 5, 6, 0] rfl (ih ((10 * x3) + 3) x4 x5 (x6 + 1) _ hq E2)
      refine g_aload_n C 52 rfl dX0_holders_51 2 rfl ?_
      refine g_iload C 54 rfl dX0_holders_52 6 rfl ?_
      refine g_iload C 56 rfl dX0_holders_54 4 rfl ?_
      refine g_iload C 58 rfl dX0_holders_56 5 rfl ?_
      obtain ⟨r3, hz4, hq⟩ := bindE hq
      refine g_callRV (rest := []) C 61 rfl dX0_holders_58 (c_X0_byFirst Γ.2.1 Δ a x6 x4 x5 s hz4) mv_X0_byFirst ml_X0_35 hK hP rfl rfl rfl rfl rfl ⟨Nat.le_of_ble_eq_true rfl, Nat.le_of_ble_eq_true rfl⟩ (Nat.le_of_ble_eq_true rfl) ⟨Nat.zero_le _, Nat.zero_le _⟩ ?_
      refine g_iload C 63 rfl dX0_holders_61 1 rfl ?_
      refine s_icmp_ne C 75 66 rfl dX0_holders_63 (by decide) hq (fun hq => ?_) (fun hq => ?_)
      rotate_left
      · refine g_iconst 0 C 67 rfl dX0_holders_66 ki_0 ?_
        refine g_istore [(8, .int 0), (7, .int r1), (0, .ref (a 0)), (3, .int x3), (4, .int x4), (5, .int x5), (6, .int x6)] C 69 rfl dX0_holders_67 (Nat.le_of_ble_eq_true rfl) rfl ?_
        refine g_iinc (x4 - 1) [(4, .int (x4 - 1)), (8, .int 0), (7, .int r1), (0, .ref (a 0)), (3, .int x3), (5, .int x5), (6, .int x6)] C 72 rfl dX0_holders_69 4 rfl (ii_m1 _) (Nat.le_of_ble_eq_true rfl) rfl ?_
        refine g_goto C 96 dX0_holders_72 (by decide) ?_
        refine g_bipush 10 C 98 rfl dX0_holders_96 kb_10 ?_
        refine g_iload_n C 99 rfl dX0_holders_98 4 rfl ?_
        refine g_imul C 100 rfl dX0_holders_99 ?_
        refine g_iload C 102 rfl dX0_holders_100 1 rfl ?_
        refine g_iadd C 103 rfl dX0_holders_102 ?_
        refine g_istore_n [(3, .int ((10 * x3) + 0)), (4, .int (x4 - 1)), (8, .int 0), (7, .int r1), (0, .ref (a 0)), (5, .int x5), (6, .int x6)] C 104 rfl dX0_holders_103 (Nat.le_of_ble_eq_true rfl) rfl ?_
        refine g_iinc (x6 + 1) [(6, .int (x6 + 1)), (3, .int ((10 * x3) + 0)), (4, .int (x4 - 1)), (8, .int 0), (7, .int r1), (0, .ref (a 0)), (5, .int x5)] C 107 rfl dX0_holders_104 6 rfl (ii_1 _) (Nat.le_of_ble_eq_true rfl) rfl ?_
        refine g_goto C 11 dX0_holders_107 (by decide) ?_
        exact g_sub [5, 1, 2, 6, 0] rfl (ih ((10 * x3) + 0) (x4 - 1) x5 (x6 + 1) _ hq E2)
      refine g_aload_n C 76 rfl dX0_holders_75 2 rfl ?_
      refine g_iload C 78 rfl dX0_holders_76 6 rfl ?_
      refine g_iload C 80 rfl dX0_holders_78 4 rfl ?_
      refine g_iload C 82 rfl dX0_holders_80 5 rfl ?_
      obtain ⟨r5, hz6, hq⟩ := bindE hq
      refine g_callRV (rest := []) C 85 rfl dX0_holders_82 (c_X0_bySecond Γ.2.1 Δ a x6 x4 x5 s hz6) mv_X0_bySecond ml_X0_44 hK hP rfl rfl rfl rfl rfl ⟨Nat.le_of_ble_eq_true rfl, Nat.le_of_ble_eq_true rfl⟩ (Nat.le_of_ble_eq_true rfl) ⟨Nat.zero_le _, Nat.zero_le _⟩ ?_
      refine g_iload C 87 rfl dX0_holders_85 1 rfl ?_
      refine s_icmp_ne C 96 90 rfl dX0_holders_87 (by decide) hq (fun hq => ?_) (fun hq => ?_)
      · refine g_bipush 10 C 98 rfl dX0_holders_96 kb_10 ?_
        refine g_iload_n C 99 rfl dX0_holders_98 3 rfl ?_
        refine g_imul C 100 rfl dX0_holders_99 ?_
        refine g_iload C 102 rfl dX0_holders_100 0 rfl ?_
        refine g_iadd C 103 rfl dX0_holders_102 ?_
        refine g_istore_n [(3, .int ((10 * x3) + 2)), (8, .int 2), (7, .int r1), (0, .ref (a 0)), (4, .int x4), (5, .int x5), (6, .int x6)] C 104 rfl dX0_holders_103 (Nat.le_of_ble_eq_true rfl) rfl ?_
        refine g_iinc (x6 + 1) [(6, .int (x6 + 1)), (3, .int ((10 * x3) + 2)), (8, .int 2), (7, .int r1), (0, .ref (a 0)), (4, .int x4), (5, .int x5)] C 107 rfl dX0_holders_104 6 rfl (ii_1 _) (Nat.le_of_ble_eq_true rfl) rfl ?_
        refine g_goto C 11 dX0_holders_107 (by decide) ?_
        exact g_sub [4, 1, 5, 6, 0] rfl (ih ((10 * x3) + 2) x4 x5 (x6 + 1) _ hq E2)
      refine g_iconst 1 C 91 rfl dX0_holders_90 ki_1 ?_
      refine g_istore [(8, .int 1), (7, .int r1), (0, .ref (a 0)), (3, .int x3), (4, .int x4), (5, .int x5), (6, .int x6)] C 93 rfl dX0_holders_91 (Nat.le_of_ble_eq_true rfl) rfl ?_
      refine g_iinc (x5 - 1) [(5, .int (x5 - 1)), (8, .int 1), (7, .int r1), (0, .ref (a 0)), (3, .int x3), (4, .int x4), (6, .int x6)] C 96 rfl dX0_holders_93 5 rfl (ii_m1 _) (Nat.le_of_ble_eq_true rfl) rfl ?_
      refine g_bipush 10 C 98 rfl dX0_holders_96 kb_10 ?_
      refine g_iload_n C 99 rfl dX0_holders_98 4 rfl ?_
      refine g_imul C 100 rfl dX0_holders_99 ?_
      refine g_iload C 102 rfl dX0_holders_100 1 rfl ?_
      refine g_iadd C 103 rfl dX0_holders_102 ?_
      refine g_istore_n [(3, .int ((10 * x3) + 1)), (5, .int (x5 - 1)), (8, .int 1), (7, .int r1), (0, .ref (a 0)), (4, .int x4), (6, .int x6)] C 104 rfl dX0_holders_103 (Nat.le_of_ble_eq_true rfl) rfl ?_
      refine g_iinc (x6 + 1) [(6, .int (x6 + 1)), (3, .int ((10 * x3) + 1)), (5, .int (x5 - 1)), (8, .int 1), (7, .int r1), (0, .ref (a 0)), (4, .int x4)] C 107 rfl dX0_holders_104 6 rfl (ii_1 _) (Nat.le_of_ble_eq_true rfl) rfl ?_
      refine g_goto C 11 dX0_holders_107 (by decide) ?_
      exact g_sub [5, 1, 6, 2, 0] rfl (ih ((10 * x3) + 1) x4 (x5 - 1) (x6 + 1) _ hq E2)
  obtain ⟨o7, ho8, hq⟩ := bindE hq
  refine g_sub [4, 3, 2, 1, 0] rfl (Q11  FUEL 0 x1 x2 0 o7 ho8 (?_))
  refine g_iload_n C 111 rfl dX0_holders_110 0 rfl ?_
  exact r_int hR hq dX0_holders_111 rfl rfl
set_option maxHeartbeats 4000000 in
set_option maxRecDepth 100000 in
theorem c_X5_fewestStamps (l : Launch) (Δ : gD) (a : Nat → Nat) (x1 : Int32) (x2 : Int32) (x3 : Int32) (s : S5) {res : Int32} (hq : sem_X5_fewestStamps x1 x2 x3 s = some res) : MR l yX5_fewestStamps cX5_fewestStamps 4 (some .int) Δ (cs5 a Δ s) [.ref (a 0), .int x1, .int x2, .int x3] 1 22 (.int res) := by
  refine MR.of (by decide) (Nat.le_of_ble_eq_true rfl) ?_
  intro Γ H hl C hK hP hR
  subst hl
  show g Γ { frames := 1, cells := 0, slots := 0, locals := 22 } 4 H [] 0 0 0 [(0, .ref (a 0)), (1, .int x1), (2, .int x2), (3, .int x3)] []
  refine g_iload_n C 1 rfl dX5_fewestStamps_0 1 rfl ?_
  refine g_iconst 0 C 2 rfl dX5_fewestStamps_1 ki_0 ?_
  refine g_bipush 6 C 4 rfl dX5_fewestStamps_2 kb_6 ?_
  obtain ⟨r1, hz2, hq⟩ := bindE hq
  refine g_callRS (rest := []) C 7 rfl dX5_fewestStamps_4 (c_X8_within Γ.2.1 Δ  x1 0 6  hz2) mv_X8_within (Or.inr ⟨_, mn_X5_58⟩) hK rfl rfl ⟨Nat.le_of_ble_eq_true rfl, Nat.le_of_ble_eq_true rfl⟩ (Nat.le_of_ble_eq_true rfl) ⟨Nat.zero_le _, Nat.zero_le _⟩ ?_
  refine s_if_eq C 30 10 rfl dX5_fewestStamps_7 (by decide) hq (fun hq => ?_) (fun hq => ?_)
  · refine g_sipush 1000 C 33 rfl dX5_fewestStamps_30 ks_1000 ?_
    exact r_int hR hq dX5_fewestStamps_33 rfl rfl
  refine g_iload_n C 11 rfl dX5_fewestStamps_10 2 rfl ?_
  refine g_iconst 0 C 12 rfl dX5_fewestStamps_11 ki_0 ?_
  refine g_bipush 20 C 14 rfl dX5_fewestStamps_12 kb_20 ?_
  obtain ⟨r3, hz4, hq⟩ := bindE hq
  refine g_callRS (rest := []) C 17 rfl dX5_fewestStamps_14 (c_X8_within Γ.2.1 Δ  x2 0 20  hz4) mv_X8_within (Or.inr ⟨_, mn_X5_58⟩) hK rfl rfl ⟨Nat.le_of_ble_eq_true rfl, Nat.le_of_ble_eq_true rfl⟩ (Nat.le_of_ble_eq_true rfl) ⟨Nat.zero_le _, Nat.zero_le _⟩ ?_
  refine s_if_eq C 30 20 rfl dX5_fewestStamps_17 (by decide) hq (fun hq => ?_) (fun hq => ?_)
  · refine g_sipush 1000 C 33 rfl dX5_fewestStamps_30 ks_1000 ?_
    exact r_int hR hq dX5_fewestStamps_33 rfl rfl
  refine g_iload_n C 21 rfl dX5_fewestStamps_20 3 rfl ?_
  refine g_iconst 0 C 22 rfl dX5_fewestStamps_21 ki_0 ?_
  refine g_bipush 6 C 24 rfl dX5_fewestStamps_22 kb_6 ?_
  obtain ⟨r5, hz6, hq⟩ := bindE hq
  refine g_callRS (rest := []) C 27 rfl dX5_fewestStamps_24 (c_X8_within Γ.2.1 Δ  x3 0 6  hz6) mv_X8_within (Or.inr ⟨_, mn_X5_58⟩) hK rfl rfl ⟨Nat.le_of_ble_eq_true rfl, Nat.le_of_ble_eq_true rfl⟩ (Nat.le_of_ble_eq_true rfl) ⟨Nat.zero_le _, Nat.zero_le _⟩ ?_
  refine s_if_ne C 34 30 rfl dX5_fewestStamps_27 (by decide) hq (fun hq => ?_) (fun hq => ?_)
  rotate_left
  · refine g_sipush 1000 C 33 rfl dX5_fewestStamps_30 ks_1000 ?_
    exact r_int hR hq dX5_fewestStamps_33 rfl rfl
  refine g_aload_n C 35 rfl dX5_fewestStamps_34 0 rfl ?_
  refine g_get (v := .ref (a 1)) C 38 rfl dX5_fewestStamps_35 hK hP la_X5 0 0 (Nat.le_of_ble_eq_true rfl) fl_X5_11 rfl rfl rfl rfl ?_
  refine g_iload_n C 39 rfl dX5_fewestStamps_38 1 rfl ?_
  refine g_bipush 21 C 41 rfl dX5_fewestStamps_39 kb_21 ?_
  refine g_imul C 42 rfl dX5_fewestStamps_41 ?_
  refine g_iload_n C 43 rfl dX5_fewestStamps_42 2 rfl ?_
  refine g_iadd C 44 rfl dX5_fewestStamps_43 ?_
  refine g_bipush 7 C 46 rfl dX5_fewestStamps_44 kb_7 ?_
  refine g_imul C 47 rfl dX5_fewestStamps_46 ?_
  refine g_iload_n C 48 rfl dX5_fewestStamps_47 3 rfl ?_
  refine g_iadd C 49 rfl dX5_fewestStamps_48 ?_
  refine s_iald C 50 rfl dX5_fewestStamps_49 hK hP 1 rfl hq (fun hq hi7 => ?_)
  exact r_int hR hq dX5_fewestStamps_50 rfl rfl
set_option maxHeartbeats 4000000 in
set_option maxRecDepth 100000 in
theorem c_X5_fewestSlips (l : Launch) (Δ : gD) (a : Nat → Nat) (x1 : Int32) (x2 : Int32) (s : S5) {res : Int32} (hq : sem_X5_fewestSlips x1 x2 s = some res) : MR l yX5_fewestSlips cX5_fewestSlips 4 (some .int) Δ (cs5 a Δ s) [.ref (a 0), .int x1, .int x2] 2 45 (.int res) := by
  refine MR.of (by decide) (Nat.le_of_ble_eq_true rfl) ?_
  intro Γ H hl C hK hP hR
  subst hl
  show g Γ { frames := 2, cells := 0, slots := 0, locals := 45 } 4 H [] 0 0 0 [(0, .ref (a 0)), (1, .int x1), (2, .int x2)] []
  refine g_iconst 0 C 1 rfl dX5_fewestSlips_0 ki_0 ?_
  refine g_istore_n [(3, .int 0), (0, .ref (a 0)), (1, .int x1), (2, .int x2)] C 2 rfl dX5_fewestSlips_1 (Nat.le_of_ble_eq_true rfl) rfl ?_
  have Q2 : ∀ (x1 : Int32) (x2 : Int32), ∀ (n : Nat) (x3 : Int32) (o : ((Int32) ⊕ (Unit))) (hq : lp_X5_fewestSlips_2 x1 x2 s n x3 = some o) (E1 : ∀ r, o = .inl r → gRet Γ { frames := 2, cells := 0, slots := 0, locals := 45 } 4 cX5_fewestSlips (some .int) H (.int r)) (E2 : ∀ x, o = .inr x → g Γ { frames := 2, cells := 0, slots := 0, locals := 45 } 4 H [] 0 0 27 [] []), g Γ { frames := 2, cells := 0, slots := 0, locals := 45 } 4 H [] 0 0 2 [(0, .ref (a 0)), (1, .int x1), (2, .int x2), (3, .int x3)] [] := by
    intro x1 x2
    intro n
    induction n with
    | zero => intro x3 o hq; exact nomatch (show (none : Option ((Int32) ⊕ (Unit))) = some o from hq)
    | succ n ih =>
      intro x3 o hq E1 E2
      have hq : bd_X5_fewestSlips_2 x1 x2 s (lp_X5_fewestSlips_2 x1 x2 s n) x3 = some o := hq
      refine g_iload_n C 3 rfl dX5_fewestSlips_2 3 rfl ?_
      refine g_bipush 6 C 5 rfl dX5_fewestSlips_3 kb_6 ?_
      refine s_icmp_ge C 27 8 rfl dX5_fewestSlips_5 (by decide) hq (fun hq => ?_) (fun hq => ?_)
      · cases hq
        exact g_sub [] rfl (E2 _ rfl )
      refine g_aload_n C 9 rfl dX5_fewestSlips_8 0 rfl ?_
      refine g_iconst 0 C 10 rfl dX5_fewestSlips_9 ki_0 ?_
      refine g_iload_n C 11 rfl dX5_fewestSlips_10 1 rfl ?_
      refine g_iload_n C 12 rfl dX5_fewestSlips_11 3 rfl ?_
      obtain ⟨r1, hz2, hq⟩ := bindE hq
      refine g_callRV (rest := []) C 15 rfl dX5_fewestSlips_12 (c_X5_fewestStamps Γ.2.1 Δ a 0 x1 x3 s hz2) mv_X5_fewestStamps ml_X5_48 hK hP rfl rfl rfl rfl rfl ⟨Nat.le_of_ble_eq_true rfl, Nat.le_of_ble_eq_true rfl⟩ (Nat.le_of_ble_eq_true rfl) ⟨Nat.zero_le _, Nat.zero_le _⟩ ?_
      refine g_iload_n C 16 rfl dX5_fewestSlips_15 2 rfl ?_
      refine s_icmp_gt C 21 19 rfl dX5_fewestSlips_16 (by decide) hq (fun hq => ?_) (fun hq => ?_)
      · refine g_iinc (x3 + 1) [(3, .int (x3 + 1)), (0, .ref (a 0)), (1, .int x1), (2, .int x2)] C 24 rfl dX5_fewestSlips_21 3 rfl (ii_1 _) (Nat.le_of_ble_eq_true rfl) rfl ?_
        refine g_goto C 2 dX5_fewestSlips_24 (by decide) ?_
        exact g_sub [1, 2, 3, 0] rfl (ih (x3 + 1) _ hq E1 E2)
      refine g_iload_n C 20 rfl dX5_fewestSlips_19 3 rfl ?_
      cases hq
      exact r_int (E1 _ rfl) rfl dX5_fewestSlips_20 rfl rfl
  obtain ⟨o3, ho4, hq⟩ := bindE hq
  refine g_sub [1, 2, 3, 0] rfl (Q2 x1 x2 FUEL 0 o3 ho4 (fun r er => ?_) (fun xo3 er => ?_))
  · rw [er] at hq
    cases hq
    exact hR
  rw [er] at hq
  clear er
  refine g_bipush 6 C 29 rfl dX5_fewestSlips_27 kb_6 ?_
  exact r_int hR hq dX5_fewestSlips_29 rfl rfl
set_option maxHeartbeats 4000000 in
set_option maxRecDepth 100000 in
theorem c_X1_mostFor (l : Launch) (Δ : gD) (a : Nat → Nat) (x1 : Int32) (x2 : Int32) (s : S1) {res : Int32} (hq : sem_X1_mostFor x1 x2 s = some res) : MR l yX1_mostFor cX1_mostFor 3 (some .int) Δ (cs1 a Δ s) [.ref (a 0), .int x1, .int x2] 0 0 (.int res) := by
  refine MR.of (by decide) (Nat.le_of_ble_eq_true rfl) ?_
  intro Γ H hl C hK hP hR
  subst hl
  show g Γ { frames := 0, cells := 0, slots := 0, locals := 0 } 3 H [] 0 0 0 [(0, .ref (a 0)), (1, .int x1), (2, .int x2)] []
  refine g_aload_n C 1 rfl dX1_mostFor_0 0 rfl ?_
  refine g_get (v := .int (x1_there s)) C 4 rfl dX1_mostFor_1 hK hP la_X1 0 2 (Nat.le_of_ble_eq_true rfl) fl_X1_18 rfl rfl rfl rfl ?_
  refine g_iload_n C 5 rfl dX1_mostFor_4 1 rfl ?_
  refine g_ishr C 6 rfl dX1_mostFor_5 ?_
  refine g_iconst 1 C 7 rfl dX1_mostFor_6 ki_1 ?_
  refine g_iand C 8 rfl dX1_mostFor_7 ?_
  refine g_iconst 1 C 9 rfl dX1_mostFor_8 ki_1 ?_
  refine s_icmp_ne C 16 12 rfl dX1_mostFor_9 (by decide) hq (fun hq => ?_) (fun hq => ?_)
  · refine g_iconst 0 C 17 rfl dX1_mostFor_16 ki_0 ?_
    exact r_int hR hq dX1_mostFor_17 rfl rfl
  refine g_iload_n C 13 rfl dX1_mostFor_12 2 rfl ?_
  refine g_goto C 17 dX1_mostFor_13 (by decide) ?_
  exact r_int hR hq dX1_mostFor_17 rfl rfl
set_option maxHeartbeats 4000000 in
set_option maxRecDepth 100000 in
theorem c_X1_fewestFrom (l : Launch) (Δ : gD) (a : Nat → Nat) (x1 : Int32) (x2 : Int32) (s : S1) {res : Int32} (hq : sem_X1_fewestFrom x1 x2 s = some res) : MR l yX1_fewestFrom cX1_fewestFrom 4 (some .int) Δ (cs1 a Δ s) [.ref (a 0), .int x1, .int x2] 1 22 (.int res) := by
  refine MR.of (by decide) (Nat.le_of_ble_eq_true rfl) ?_
  intro Γ H hl C hK hP hR
  subst hl
  have K25 : ∀ (x1 : Int32) (x2 : Int32) (y0 : Int32), jn_X1_fewestFrom_25 x1 x2 y0 s = some res → g Γ { frames := 1, cells := 0, slots := 0, locals := 22 } 4 H [] 0 0 25 [(0, .ref (a 0)), (1, .int x1), (2, .int x2)] [.int y0] := by
    intro x1 x2 y0 hq
    refine g_istore_n [(3, .int y0), (0, .ref (a 0)), (1, .int x1), (2, .int x2)] C 26 rfl dX1_fewestFrom_25 (Nat.le_of_ble_eq_true rfl) rfl ?_
    refine g_iload_n C 27 rfl dX1_fewestFrom_26 0 rfl ?_
    refine s_if_eq C 44 30 rfl dX1_fewestFrom_27 (by decide) hq (fun hq => ?_) (fun hq => ?_)
    · refine g_sipush 1000 C 47 rfl dX1_fewestFrom_44 ks_1000 ?_
      exact r_int hR hq dX1_fewestFrom_47 rfl rfl
    refine g_aload_n C 31 rfl dX1_fewestFrom_30 1 rfl ?_
    refine g_get (v := .ref (a 2)) C 34 rfl dX1_fewestFrom_31 hK hP la_X1 0 1 (Nat.le_of_ble_eq_true rfl) fl_X1_15 rfl rfl rfl rfl ?_
    refine g_iload_n C 35 rfl dX1_fewestFrom_34 2 rfl ?_
    refine g_bipush 21 C 37 rfl dX1_fewestFrom_35 kb_21 ?_
    refine g_imul C 38 rfl dX1_fewestFrom_37 ?_
    refine g_iload_n C 39 rfl dX1_fewestFrom_38 3 rfl ?_
    refine g_iadd C 40 rfl dX1_fewestFrom_39 ?_
    refine s_iald C 41 rfl dX1_fewestFrom_40 hK hP 2 rfl hq (fun hq hi1 => ?_)
    refine g_goto C 47 dX1_fewestFrom_41 (by decide) ?_
    exact r_int hR hq dX1_fewestFrom_47 rfl rfl
  have K24 : ∀ (x1 : Int32) (x2 : Int32), jn_X1_fewestFrom_24 x1 x2 s = some res → g Γ { frames := 1, cells := 0, slots := 0, locals := 22 } 4 H [] 0 0 24 [(0, .ref (a 0)), (1, .int x1), (2, .int x2)] [] := by
    intro x1 x2 hq
    refine g_iconst 0 C 25 rfl dX1_fewestFrom_24 ki_0 ?_
    exact g_sub [0, 1, 2] rfl (K25 x1 x2 0 hq)
  show g Γ { frames := 1, cells := 0, slots := 0, locals := 22 } 4 H [] 0 0 0 [(0, .ref (a 0)), (1, .int x1), (2, .int x2)] []
  refine g_iload_n C 1 rfl dX1_fewestFrom_0 1 rfl ?_
  refine g_iconst 0 C 2 rfl dX1_fewestFrom_1 ki_0 ?_
  refine g_bipush 6 C 4 rfl dX1_fewestFrom_2 kb_6 ?_
  obtain ⟨r2, hz3, hq⟩ := bindE hq
  refine g_callRS (rest := []) C 7 rfl dX1_fewestFrom_4 (c_X8_within Γ.2.1 Δ  x1 0 6  hz3) mv_X8_within (Or.inr ⟨_, mn_X1_49⟩) hK rfl rfl ⟨Nat.le_of_ble_eq_true rfl, Nat.le_of_ble_eq_true rfl⟩ (Nat.le_of_ble_eq_true rfl) ⟨Nat.zero_le _, Nat.zero_le _⟩ ?_
  refine s_if_eq C 24 10 rfl dX1_fewestFrom_7 (by decide) hq (fun hq => ?_) (fun hq => ?_)
  · exact g_sub [0, 1, 2] rfl (K24 x1 x2 hq)
  refine g_iload_n C 11 rfl dX1_fewestFrom_10 2 rfl ?_
  refine g_iconst 0 C 12 rfl dX1_fewestFrom_11 ki_0 ?_
  refine g_bipush 20 C 14 rfl dX1_fewestFrom_12 kb_20 ?_
  obtain ⟨r4, hz5, hq⟩ := bindE hq
  refine g_callRS (rest := []) C 17 rfl dX1_fewestFrom_14 (c_X8_within Γ.2.1 Δ  x2 0 20  hz5) mv_X8_within (Or.inr ⟨_, mn_X1_49⟩) hK rfl rfl ⟨Nat.le_of_ble_eq_true rfl, Nat.le_of_ble_eq_true rfl⟩ (Nat.le_of_ble_eq_true rfl) ⟨Nat.zero_le _, Nat.zero_le _⟩ ?_
  refine s_if_eq C 24 20 rfl dX1_fewestFrom_17 (by decide) hq (fun hq => ?_) (fun hq => ?_)
  · exact g_sub [0, 1, 2] rfl (K24 x1 x2 hq)
  refine g_iconst 1 C 21 rfl dX1_fewestFrom_20 ki_1 ?_
  refine g_goto C 25 dX1_fewestFrom_21 (by decide) ?_
  exact g_sub [0, 1, 2] rfl (K25 x1 x2 1 hq)
set_option maxHeartbeats 4000000 in
set_option maxRecDepth 100000 in
theorem c_X1_withPart (l : Launch) (Δ : gD) (a : Nat → Nat) (x1 : Int32) (x2 : Int32) (x3 : Int32) (s : S1) {res : Int32} (hq : sem_X1_withPart x1 x2 x3 s = some res) : MR l yX1_withPart cX1_withPart 6 (some .int) Δ (cs1 a Δ s) [.ref (a 0), .int x1, .int x2, .int x3] 2 45 (.int res) := by
  refine MR.of (by decide) (Nat.le_of_ble_eq_true rfl) ?_
  intro Γ H hl C hK hP hR
  subst hl
  have K70 : ∀ (x1 : Int32) (x2 : Int32) (x3 : Int32) (y0 : Int32), jn_X1_withPart_70 x1 x2 x3 y0 s = some res → g Γ { frames := 2, cells := 0, slots := 0, locals := 45 } 6 H [] 0 0 70 [(0, .ref (a 0)), (1, .int x1), (2, .int x2), (3, .int x3)] [.int y0] := by
    intro x1 x2 x3 y0 hq
    refine g_aload_n C 71 rfl dX1_withPart_70 0 rfl ?_
    refine g_iload_n C 72 rfl dX1_withPart_71 1 rfl ?_
    refine g_iconst 1 C 73 rfl dX1_withPart_72 ki_1 ?_
    refine g_iadd C 74 rfl dX1_withPart_73 ?_
    refine g_iload_n C 75 rfl dX1_withPart_74 2 rfl ?_
    refine g_iload_n C 76 rfl dX1_withPart_75 3 rfl ?_
    refine g_isub C 77 rfl dX1_withPart_76 ?_
    obtain ⟨r1, hz2, hq⟩ := bindE hq
    refine g_callRV (rest := [.int y0]) C 80 rfl dX1_withPart_77 (c_X1_fewestFrom Γ.2.1 Δ a (x1 + 1) (x2 - x3) s hz2) mv_X1_fewestFrom ml_X1_53 hK hP rfl rfl rfl rfl rfl ⟨Nat.le_of_ble_eq_true rfl, Nat.le_of_ble_eq_true rfl⟩ (Nat.le_of_ble_eq_true rfl) ⟨Nat.zero_le _, Nat.zero_le _⟩ ?_
    refine g_iadd C 81 rfl dX1_withPart_80 ?_
    exact r_int hR hq dX1_withPart_81 rfl rfl
  have K69 : ∀ (x1 : Int32) (x2 : Int32) (x3 : Int32), jn_X1_withPart_69 x1 x2 x3 s = some res → g Γ { frames := 2, cells := 0, slots := 0, locals := 45 } 6 H [] 0 0 69 [(0, .ref (a 0)), (1, .int x1), (2, .int x2), (3, .int x3)] [] := by
    intro x1 x2 x3 hq
    refine g_iconst 0 C 70 rfl dX1_withPart_69 ki_0 ?_
    exact g_sub [0, 1, 2, 3] rfl (K70 x1 x2 x3 0 hq)
  have K43 : ∀ (x1 : Int32) (x2 : Int32) (x3 : Int32) (x4 : Int32) (y0 : Int32), jn_X1_withPart_43 x1 x2 x3 x4 y0 s = some res → g Γ { frames := 2, cells := 0, slots := 0, locals := 45 } 6 H [] 0 0 43 [(0, .ref (a 0)), (1, .int x1), (2, .int x2), (3, .int x3), (4, .int x4)] [.int y0] := by
    intro x1 x2 x3 x4 y0 hq
    refine g_istore [(5, .int y0), (0, .ref (a 0)), (1, .int x1), (2, .int x2), (3, .int x3), (4, .int x4)] C 45 rfl dX1_withPart_43 (Nat.le_of_ble_eq_true rfl) rfl ?_
    refine g_iload C 47 rfl dX1_withPart_45 5 rfl ?_
    refine s_if_eq C 69 50 rfl dX1_withPart_47 (by decide) hq (fun hq => ?_) (fun hq => ?_)
    · exact g_sub [1, 2, 3, 4] rfl (K69 x1 x2 x3 hq)
    refine g_iload C 52 rfl dX1_withPart_50 0 rfl ?_
    refine s_if_eq C 69 55 rfl dX1_withPart_52 (by decide) hq (fun hq => ?_) (fun hq => ?_)
    · exact g_sub [1, 2, 3, 4] rfl (K69 x1 x2 x3 hq)
    refine g_aload_n C 56 rfl dX1_withPart_55 1 rfl ?_
    refine g_get (v := .ref (a 1)) C 59 rfl dX1_withPart_56 hK hP la_X1 0 0 (Nat.le_of_ble_eq_true rfl) fl_X1_11 rfl rfl rfl rfl ?_
    refine g_iload_n C 60 rfl dX1_withPart_59 2 rfl ?_
    refine g_bipush 21 C 62 rfl dX1_withPart_60 kb_21 ?_
    refine g_imul C 63 rfl dX1_withPart_62 ?_
    refine g_iload_n C 64 rfl dX1_withPart_63 4 rfl ?_
    refine g_iadd C 65 rfl dX1_withPart_64 ?_
    refine s_iald C 66 rfl dX1_withPart_65 hK hP 1 rfl hq (fun hq hi3 => ?_)
    refine g_goto C 70 dX1_withPart_66 (by decide) ?_
    exact g_sub [1, 2, 3, 4] rfl (K70 x1 x2 x3 ((x1_alone s) (((x1 * 21) + x3) : Int32).toNatClampNeg) hq)
  have K42 : ∀ (x1 : Int32) (x2 : Int32) (x3 : Int32) (x4 : Int32), jn_X1_withPart_42 x1 x2 x3 x4 s = some res → g Γ { frames := 2, cells := 0, slots := 0, locals := 45 } 6 H [] 0 0 42 [(0, .ref (a 0)), (1, .int x1), (2, .int x2), (3, .int x3), (4, .int x4)] [] := by
    intro x1 x2 x3 x4 hq
    refine g_iconst 0 C 43 rfl dX1_withPart_42 ki_0 ?_
    exact g_sub [0, 1, 2, 3, 4] rfl (K43 x1 x2 x3 x4 0 hq)
  have K17 : ∀ (x1 : Int32) (x2 : Int32) (x3 : Int32) (y0 : Int32), jn_X1_withPart_17 x1 x2 x3 y0 s = some res → g Γ { frames := 2, cells := 0, slots := 0, locals := 45 } 6 H [] 0 0 17 [(0, .ref (a 0)), (1, .int x1), (2, .int x2), (3, .int x3)] [.int y0] := by
    intro x1 x2 x3 y0 hq
    refine g_istore [(4, .int y0), (0, .ref (a 0)), (1, .int x1), (2, .int x2), (3, .int x3)] C 19 rfl dX1_withPart_17 (Nat.le_of_ble_eq_true rfl) rfl ?_
    refine g_iload_n C 20 rfl dX1_withPart_19 2 rfl ?_
    refine g_iconst 0 C 21 rfl dX1_withPart_20 ki_0 ?_
    refine g_iconst 5 C 22 rfl dX1_withPart_21 ki_5 ?_
    obtain ⟨r4, hz5, hq⟩ := bindE hq
    refine g_callRS (rest := []) C 25 rfl dX1_withPart_22 (c_X8_within Γ.2.1 Δ  x1 0 5  hz5) mv_X8_within (Or.inr ⟨_, mn_X1_49⟩) hK rfl rfl ⟨Nat.le_of_ble_eq_true rfl, Nat.le_of_ble_eq_true rfl⟩ (Nat.le_of_ble_eq_true rfl) ⟨Nat.zero_le _, Nat.zero_le _⟩ ?_
    refine s_if_eq C 42 28 rfl dX1_withPart_25 (by decide) hq (fun hq => ?_) (fun hq => ?_)
    · exact g_sub [1, 2, 3, 4, 0] rfl (K42 x1 x2 x3 y0 hq)
    refine g_iload_n C 29 rfl dX1_withPart_28 4 rfl ?_
    refine g_iconst 0 C 30 rfl dX1_withPart_29 ki_0 ?_
    refine g_bipush 20 C 32 rfl dX1_withPart_30 kb_20 ?_
    obtain ⟨r6, hz7, hq⟩ := bindE hq
    refine g_callRS (rest := []) C 35 rfl dX1_withPart_32 (c_X8_within Γ.2.1 Δ  x3 0 20  hz7) mv_X8_within (Or.inr ⟨_, mn_X1_49⟩) hK rfl rfl ⟨Nat.le_of_ble_eq_true rfl, Nat.le_of_ble_eq_true rfl⟩ (Nat.le_of_ble_eq_true rfl) ⟨Nat.zero_le _, Nat.zero_le _⟩ ?_
    refine s_if_eq C 42 38 rfl dX1_withPart_35 (by decide) hq (fun hq => ?_) (fun hq => ?_)
    · exact g_sub [1, 2, 3, 4, 0] rfl (K42 x1 x2 x3 y0 hq)
    refine g_iconst 1 C 39 rfl dX1_withPart_38 ki_1 ?_
    refine g_goto C 43 dX1_withPart_39 (by decide) ?_
    exact g_sub [1, 2, 3, 4, 0] rfl (K43 x1 x2 x3 y0 1 hq)
  show g Γ { frames := 2, cells := 0, slots := 0, locals := 45 } 6 H [] 0 0 0 [(0, .ref (a 0)), (1, .int x1), (2, .int x2), (3, .int x3)] []
  refine g_aload_n C 1 rfl dX1_withPart_0 0 rfl ?_
  refine g_get (v := .int (x1_there s)) C 4 rfl dX1_withPart_1 hK hP la_X1 0 2 (Nat.le_of_ble_eq_true rfl) fl_X1_18 rfl rfl rfl rfl ?_
  refine g_iload_n C 5 rfl dX1_withPart_4 1 rfl ?_
  refine g_ishr C 6 rfl dX1_withPart_5 ?_
  refine g_iconst 1 C 7 rfl dX1_withPart_6 ki_1 ?_
  refine g_iand C 8 rfl dX1_withPart_7 ?_
  refine g_iconst 1 C 9 rfl dX1_withPart_8 ki_1 ?_
  refine s_icmp_ne C 16 12 rfl dX1_withPart_9 (by decide) hq (fun hq => ?_) (fun hq => ?_)
  · refine g_iconst 0 C 17 rfl dX1_withPart_16 ki_0 ?_
    exact g_sub [0, 1, 2, 3] rfl (K17 x1 x2 x3 0 hq)
  refine g_iconst 1 C 13 rfl dX1_withPart_12 ki_1 ?_
  refine g_goto C 17 dX1_withPart_13 (by decide) ?_
  exact g_sub [0, 1, 2, 3] rfl (K17 x1 x2 x3 1 hq)
set_option maxHeartbeats 4000000 in
set_option maxRecDepth 100000 in
theorem c_X1_leastOver (l : Launch) (Δ : gD) (a : Nat → Nat) (x1 : Int32) (x2 : Int32) (s : S1) {res : Int32} (hq : sem_X1_leastOver x1 x2 s = some res) : MR l yX1_leastOver cX1_leastOver 5 (some .int) Δ (cs1 a Δ s) [.ref (a 0), .int x1, .int x2] 3 70 (.int res) := by
  refine MR.of (by decide) (Nat.le_of_ble_eq_true rfl) ?_
  intro Γ H hl C hK hP hR
  subst hl
  show g Γ { frames := 3, cells := 0, slots := 0, locals := 70 } 5 H [] 0 0 0 [(0, .ref (a 0)), (1, .int x1), (2, .int x2)] []
  refine g_sipush 1000 C 3 rfl dX1_leastOver_0 ks_1000 ?_
  refine g_istore_n [(3, .int 1000), (0, .ref (a 0)), (1, .int x1), (2, .int x2)] C 4 rfl dX1_leastOver_3 (Nat.le_of_ble_eq_true rfl) rfl ?_
  refine g_iconst 0 C 5 rfl dX1_leastOver_4 ki_0 ?_
  refine g_istore [(4, .int 0), (3, .int 1000), (0, .ref (a 0)), (1, .int x1), (2, .int x2)] C 7 rfl dX1_leastOver_5 (Nat.le_of_ble_eq_true rfl) rfl ?_
  have Q7 : ∀ (x1 : Int32) (x2 : Int32), ∀ (n : Nat) (x3 : Int32) (x4 : Int32) (o : (Int32)) (hq : lp_X1_leastOver_7 x1 x2 s n x3 x4 = some o) (E2 : g Γ { frames := 3, cells := 0, slots := 0, locals := 70 } 5 H [] 0 0 37 [(3, .int o)] []), g Γ { frames := 3, cells := 0, slots := 0, locals := 70 } 5 H [] 0 0 7 [(0, .ref (a 0)), (1, .int x1), (2, .int x2), (3, .int x3), (4, .int x4)] [] := by
    intro x1 x2
    intro n
    induction n with
    | zero => intro x3 x4 o hq; exact nomatch (show (none : Option (Int32)) = some o from hq)
    | succ n ih =>
      intro x3 x4 o hq E2
      have hq : bd_X1_leastOver_7 x1 x2 s (lp_X1_leastOver_7 x1 x2 s n) x3 x4 = some o := hq
      refine g_iload C 9 rfl dX1_leastOver_7 4 rfl ?_
      refine g_aload_n C 10 rfl dX1_leastOver_9 0 rfl ?_
      refine g_iload_n C 11 rfl dX1_leastOver_10 1 rfl ?_
      refine g_iload_n C 12 rfl dX1_leastOver_11 2 rfl ?_
      obtain ⟨r1, hz2, hq⟩ := bindE hq
      refine g_callRV (rest := [.int x4]) C 15 rfl dX1_leastOver_12 (c_X1_mostFor Γ.2.1 Δ a x1 x2 s hz2) mv_X1_mostFor ml_X1_37 hK hP rfl rfl rfl rfl rfl ⟨Nat.le_of_ble_eq_true rfl, Nat.le_of_ble_eq_true rfl⟩ (Nat.le_of_ble_eq_true rfl) ⟨Nat.zero_le _, Nat.zero_le _⟩ ?_
      refine s_icmp_gt C 37 18 rfl dX1_leastOver_15 (by decide) hq (fun hq => ?_) (fun hq => ?_)
      · cases hq
        exact g_sub [3] rfl (E2 )
      refine g_iload_n C 19 rfl dX1_leastOver_18 3 rfl ?_
      refine g_aload_n C 20 rfl dX1_leastOver_19 0 rfl ?_
      refine g_iload_n C 21 rfl dX1_leastOver_20 1 rfl ?_
      refine g_iload_n C 22 rfl dX1_leastOver_21 2 rfl ?_
      refine g_iload C 24 rfl dX1_leastOver_22 4 rfl ?_
      obtain ⟨r3, hz4, hq⟩ := bindE hq
      refine g_callRV (rest := [.int x3]) C 27 rfl dX1_leastOver_24 (c_X1_withPart Γ.2.1 Δ a x1 x2 x4 s hz4) mv_X1_withPart ml_X1_40 hK hP rfl rfl rfl rfl rfl ⟨Nat.le_of_ble_eq_true rfl, Nat.le_of_ble_eq_true rfl⟩ (Nat.le_of_ble_eq_true rfl) ⟨Nat.zero_le _, Nat.zero_le _⟩ ?_
      refine g_mmin C 30 rfl dX1_leastOver_27 ml_X1_44 mth_min ⟨Nat.le_of_ble_eq_true rfl, Nat.le_of_ble_eq_true rfl⟩ ⟨Nat.zero_le _, Nat.zero_le _⟩ ?_
      refine g_istore_n [(3, .int (jmin x3 r3)), (0, .ref (a 0)), (1, .int x1), (2, .int x2), (4, .int x4)] C 31 rfl dX1_leastOver_30 (Nat.le_of_ble_eq_true rfl) rfl ?_
      refine g_iinc (x4 + 1) [(4, .int (x4 + 1)), (3, .int (jmin x3 r3)), (0, .ref (a 0)), (1, .int x1), (2, .int x2)] C 34 rfl dX1_leastOver_31 4 rfl (ii_1 _) (Nat.le_of_ble_eq_true rfl) rfl ?_
      refine g_goto C 7 dX1_leastOver_34 (by decide) ?_
      exact g_sub [2, 3, 4, 1, 0] rfl (ih (jmin x3 r3) (x4 + 1) _ hq E2)
  obtain ⟨o5, ho6, hq⟩ := bindE hq
  refine g_sub [2, 3, 4, 1, 0] rfl (Q7 x1 x2 FUEL 1000 0 o5 ho6 (?_))
  refine g_iload_n C 38 rfl dX1_leastOver_37 0 rfl ?_
  exact r_int hR hq dX1_leastOver_38 rfl rfl
set_option maxHeartbeats 4000000 in
set_option maxRecDepth 100000 in
theorem c_X1_reckon (l : Launch) (Δ : gD) (a : Nat → Nat) (b : Nat → Nat) (c : Nat → Nat)  (s : S1) (o : S6) (u : S5) {res : S1} (hq : sem_X1_reckon  s o u = some res) : MW l yX1_reckon cX1_reckon 5 none Δ (cs1 a Δ s ++ cs6 b Δ o ++ cs5 c Δ u) [.ref (a 0), .ref (b 0), .ref (c 0)] 4 94 none (cs1 a Δ res ++ cs6 b Δ o ++ cs5 c Δ u) := by
  refine MW.of (by decide) (Nat.le_of_ble_eq_true rfl) ?_
  intro Γ A H hl C hK hP hD hS hA hR
  subst hl
  show g Γ { frames := 4, cells := 0, slots := 0, locals := 94 } 5 H [] 0 0 0 [(0, .ref (a 0)), (1, .ref (b 0)), (2, .ref (c 0))] []
  refine g_aload_n C 1 rfl dX1_reckon_0 0 rfl ?_
  refine g_aload_n C 2 rfl dX1_reckon_1 1 rfl ?_
  refine g_get (v := .int (x6_there o)) C 5 rfl dX1_reckon_2 hK hP la_X6 3 2 (Nat.le_of_ble_eq_true rfl) fl_X1_22 rfl rfl rfl rfl ?_
  refine g_put (cs1 a Δ (p1_there s (x6_there o)) ++ cs6 b Δ o ++ cs5 c Δ u) C 8 rfl dX1_reckon_5 hK hP hD hS la_X1 tyX1_ok nmX1 0 2 (Nat.le_of_ble_eq_true rfl) fl_X1_18 rfl rfl rfl rfl rfl rfl (Nat.le_of_ble_eq_true rfl) rfl (fun H L hP hD hS => ?_)
  refine g_iconst 0 C 9 rfl dX1_reckon_8 ki_0 ?_
  refine g_istore_n [(3, .int 0), (0, .ref (a 0)), (1, .ref (b 0)), (2, .ref (c 0))] C 10 rfl dX1_reckon_9 (Nat.le_of_ble_eq_true rfl) rfl ?_
  have Q10 : ∀ (n : Nat) (x3 : Int32) (s : S1) (o : (S1)) (H : Heap) (L : List Loc) (hP : va_P Δ.1 classes (cs1 a Δ s ++ cs6 b Δ o ++ cs5 c Δ u) H) (hD : va_D A (cs1 a Δ s ++ cs6 b Δ o ++ cs5 c Δ u)) (hS : va_S A (sOf Γ).heap H L) (hq : lp_X1_reckon_10 o u n x3 s = some o) (E2 : ∀ (H : Heap) (L : List Loc), va_P Δ.1 classes (cs1 a Δ o ++ cs6 b Δ o ++ cs5 c Δ u) H → va_D A (cs1 a Δ o ++ cs6 b Δ o ++ cs5 c Δ u) → va_S A (sOf Γ).heap H L → g Γ { frames := 4, cells := 0, slots := 0, locals := 94 } 5 H L 0 0 42 [(0, .ref (a 0)), (1, .ref (b 0)), (2, .ref (c 0))] []), g Γ { frames := 4, cells := 0, slots := 0, locals := 94 } 5 H L 0 0 10 [(0, .ref (a 0)), (1, .ref (b 0)), (2, .ref (c 0)), (3, .int x3)] [] := by
    intro n
    induction n with
    | zero => intro x3 s o H L hP hD hS hq; exact nomatch (show (none : Option (S1)) = some o from hq)
    | succ n ih =>
      intro x3 s o H L hP hD hS hq E2
      have hq : bd_X1_reckon_10 o u (lp_X1_reckon_10 o u n) x3 s = some o := hq
      refine g_iload_n C 11 rfl dX1_reckon_10 3 rfl ?_
      refine g_bipush 21 C 13 rfl dX1_reckon_11 kb_21 ?_
      refine s_icmp_ge C 42 16 rfl dX1_reckon_13 (by decide) hq (fun hq => ?_) (fun hq => ?_)
      · cases hq
        exact g_sub [0, 1, 2] rfl (E2 _ _ hP hD hS)
      refine g_aload_n C 17 rfl dX1_reckon_16 0 rfl ?_
      refine g_get (v := .ref (a 2)) C 20 rfl dX1_reckon_17 hK hP la_X1 0 1 (Nat.le_of_ble_eq_true rfl) fl_X1_15 rfl rfl rfl rfl ?_
      refine g_bipush 126 C 22 rfl dX1_reckon_20 kb_126 ?_
      refine g_iload_n C 23 rfl dX1_reckon_22 3 rfl ?_
      refine g_iadd C 24 rfl dX1_reckon_23 ?_
      refine g_iload_n C 25 rfl dX1_reckon_24 3 rfl ?_
      refine s_if_ne C 32 28 rfl dX1_reckon_25 (by decide) hq (fun hq => ?_) (fun hq => ?_)
      · refine g_sipush 1000 C 35 rfl dX1_reckon_32 ks_1000 ?_
        refine s_iast (cs1 a Δ (p1_fewest s (upd (x1_fewest s) ((126 + x3) : Int32).toNatClampNeg 1000)) ++ cs6 b Δ o ++ cs5 c Δ u) C 36 rfl dX1_reckon_35 hK hP hD hS 2 rfl hq rfl (fun hq hi1 H L hP hD hS => ?_)
        refine g_iinc (x3 + 1) [(3, .int (x3 + 1)), (0, .ref (a 0)), (1, .ref (b 0)), (2, .ref (c 0))] C 39 rfl dX1_reckon_36 3 rfl (ii_1 _) (Nat.le_of_ble_eq_true rfl) rfl ?_
        refine g_goto C 10 dX1_reckon_39 (by decide) ?_
        exact g_sub [1, 2, 3, 0] rfl (ih (x3 + 1) (p1_fewest s (upd (x1_fewest s) ((126 + x3) : Int32).toNatClampNeg 1000)) _ _ _ hP hD hS hq E2)
      refine g_iconst 0 C 29 rfl dX1_reckon_28 ki_0 ?_
      refine g_goto C 35 dX1_reckon_29 (by decide) ?_
      refine s_iast (cs1 a Δ (p1_fewest s (upd (x1_fewest s) ((126 + x3) : Int32).toNatClampNeg 0)) ++ cs6 b Δ o ++ cs5 c Δ u) C 36 rfl dX1_reckon_35 hK hP hD hS 2 rfl hq rfl (fun hq hi2 H L hP hD hS => ?_)
      refine g_iinc (x3 + 1) [(3, .int (x3 + 1)), (0, .ref (a 0)), (1, .ref (b 0)), (2, .ref (c 0))] C 39 rfl dX1_reckon_36 3 rfl (ii_1 _) (Nat.le_of_ble_eq_true rfl) rfl ?_
      refine g_goto C 10 dX1_reckon_39 (by decide) ?_
      exact g_sub [1, 2, 3, 0] rfl (ih (x3 + 1) (p1_fewest s (upd (x1_fewest s) ((126 + x3) : Int32).toNatClampNeg 0)) _ _ _ hP hD hS hq E2)
  obtain ⟨o3, ho4, hq⟩ := bindE hq
  refine g_sub [1, 2, 3, 0] rfl (Q10  FUEL 0 (p1_there s (x6_there o)) o3 _ _ hP hD hS ho4 (fun H L hP hD hS => ?_))
  refine g_iconst 5 C 43 rfl dX1_reckon_42 ki_5 ?_
  refine g_istore_n [(3, .int 5), (0, .ref (a 0)), (1, .ref (b 0)), (2, .ref (c 0))] C 44 rfl dX1_reckon_43 (Nat.le_of_ble_eq_true rfl) rfl ?_
  have Q44 : ∀ (n : Nat) (x3 : Int32) (s : S1) (o : (S1)) (H : Heap) (L : List Loc) (hP : va_P Δ.1 classes (cs1 a Δ s ++ cs6 b Δ o ++ cs5 c Δ u) H) (hD : va_D A (cs1 a Δ s ++ cs6 b Δ o ++ cs5 c Δ u)) (hS : va_S A (sOf Γ).heap H L) (hq : lp_X1_reckon_44 o u n x3 s = some o) (E2 : ∀ (H : Heap) (L : List Loc), va_P Δ.1 classes (cs1 a Δ o ++ cs6 b Δ o ++ cs5 c Δ u) H → va_D A (cs1 a Δ o ++ cs6 b Δ o ++ cs5 c Δ u) → va_S A (sOf Γ).heap H L → g Γ { frames := 4, cells := 0, slots := 0, locals := 94 } 5 H L 0 0 129 [] []), g Γ { frames := 4, cells := 0, slots := 0, locals := 94 } 5 H L 0 0 44 [(0, .ref (a 0)), (1, .ref (b 0)), (2, .ref (c 0)), (3, .int x3)] [] := by
    intro n
    induction n with
    | zero => intro x3 s o H L hP hD hS hq; exact nomatch (show (none : Option (S1)) = some o from hq)
    | succ n ih =>
      intro x3 s o H L hP hD hS hq E2
      have hq : bd_X1_reckon_44 o u (lp_X1_reckon_44 o u n) x3 s = some o := hq
      refine g_iload_n C 45 rfl dX1_reckon_44 3 rfl ?_
      refine s_if_lt C 129 48 rfl dX1_reckon_45 (by decide) hq (fun hq => ?_) (fun hq => ?_)
      · cases hq
        exact g_sub [] rfl (E2 _ _ hP hD hS)
      refine g_iconst 0 C 49 rfl dX1_reckon_48 ki_0 ?_
      refine g_istore [(4, .int 0), (0, .ref (a 0)), (1, .ref (b 0)), (2, .ref (c 0)), (3, .int x3)] C 51 rfl dX1_reckon_49 (Nat.le_of_ble_eq_true rfl) rfl ?_
      have Q51 : ∀ (x3 : Int32), ∀ (n : Nat) (x4 : Int32) (s : S1) (o : (S1)) (H : Heap) (L : List Loc) (hP : va_P Δ.1 classes (cs1 a Δ s ++ cs6 b Δ o ++ cs5 c Δ u) H) (hD : va_D A (cs1 a Δ s ++ cs6 b Δ o ++ cs5 c Δ u)) (hS : va_S A (sOf Γ).heap H L) (hq : lp_X1_reckon_51 x3 o u n x4 s = some o) (E2 : ∀ (H : Heap) (L : List Loc), va_P Δ.1 classes (cs1 a Δ o ++ cs6 b Δ o ++ cs5 c Δ u) H → va_D A (cs1 a Δ o ++ cs6 b Δ o ++ cs5 c Δ u) → va_S A (sOf Γ).heap H L → g Γ { frames := 4, cells := 0, slots := 0, locals := 94 } 5 H L 0 0 88 [(0, .ref (a 0)), (1, .ref (b 0)), (2, .ref (c 0)), (3, .int x3)] []), g Γ { frames := 4, cells := 0, slots := 0, locals := 94 } 5 H L 0 0 51 [(0, .ref (a 0)), (1, .ref (b 0)), (2, .ref (c 0)), (3, .int x3), (4, .int x4)] [] := by
        intro x3
        intro n
        induction n with
        | zero => intro x4 s o H L hP hD hS hq; exact nomatch (show (none : Option (S1)) = some o from hq)
        | succ n ih =>
          intro x4 s o H L hP hD hS hq E2
          have hq : bd_X1_reckon_51 x3 o u (lp_X1_reckon_51 x3 o u n) x4 s = some o := hq
          refine g_iload C 53 rfl dX1_reckon_51 4 rfl ?_
          refine g_bipush 21 C 55 rfl dX1_reckon_53 kb_21 ?_
          refine s_icmp_ge C 88 58 rfl dX1_reckon_55 (by decide) hq (fun hq => ?_) (fun hq => ?_)
          · cases hq
            exact g_sub [0, 1, 2, 3] rfl (E2 _ _ hP hD hS)
          refine g_aload_n C 59 rfl dX1_reckon_58 0 rfl ?_
          refine g_get (v := .ref (a 1)) C 62 rfl dX1_reckon_59 hK hP la_X1 0 0 (Nat.le_of_ble_eq_true rfl) fl_X1_11 rfl rfl rfl rfl ?_
          refine g_iload_n C 63 rfl dX1_reckon_62 3 rfl ?_
          refine g_bipush 21 C 65 rfl dX1_reckon_63 kb_21 ?_
          refine g_imul C 66 rfl dX1_reckon_65 ?_
          refine g_iload C 68 rfl dX1_reckon_66 4 rfl ?_
          refine g_iadd C 69 rfl dX1_reckon_68 ?_
          refine g_aload_n C 70 rfl dX1_reckon_69 2 rfl ?_
          refine g_aload_n C 71 rfl dX1_reckon_70 1 rfl ?_
          refine g_iload_n C 72 rfl dX1_reckon_71 3 rfl ?_
          refine g_iconst 0 C 73 rfl dX1_reckon_72 ki_0 ?_
          obtain ⟨r5, hz6, hq⟩ := bindE hq
          refine g_callRV (rest := [.ref (c 0), .int ((x3 * 21) + x4), .ref (a 1)]) C 76 rfl dX1_reckon_73 (c_X6_get Γ.2.1 Δ b x3 0 o hz6) mv_X6_get ml_X1_25 hK (va_P_cut hP [3, 4, 5] rfl) rfl rfl rfl rfl rfl ⟨Nat.le_of_ble_eq_true rfl, Nat.le_of_ble_eq_true rfl⟩ (Nat.le_of_ble_eq_true rfl) ⟨Nat.zero_le _, Nat.zero_le _⟩ ?_
          refine g_iload C 78 rfl dX1_reckon_76 4 rfl ?_
          obtain ⟨r7, hz8, hq⟩ := bindE hq
          refine g_callRV (rest := [.int ((x3 * 21) + x4), .ref (a 1)]) C 81 rfl dX1_reckon_78 (c_X5_fewestSlips Γ.2.1 Δ c r5 x4 u hz8) mv_X5_fewestSlips ml_X1_29 hK (va_P_cut hP [6, 7, 8] rfl) rfl rfl rfl rfl rfl ⟨Nat.le_of_ble_eq_true rfl, Nat.le_of_ble_eq_true rfl⟩ (Nat.le_of_ble_eq_true rfl) ⟨Nat.zero_le _, Nat.zero_le _⟩ ?_
          refine s_iast (cs1 a Δ (p1_alone s (upd (x1_alone s) (((x3 * 21) + x4) : Int32).toNatClampNeg r7)) ++ cs6 b Δ o ++ cs5 c Δ u) C 82 rfl dX1_reckon_81 hK hP hD hS 1 rfl hq rfl (fun hq hi9 H L hP hD hS => ?_)
          refine g_iinc (x4 + 1) [(4, .int (x4 + 1)), (0, .ref (a 0)), (1, .ref (b 0)), (2, .ref (c 0)), (3, .int x3)] C 85 rfl dX1_reckon_82 4 rfl (ii_1 _) (Nat.le_of_ble_eq_true rfl) rfl ?_
          refine g_goto C 51 dX1_reckon_85 (by decide) ?_
          exact g_sub [1, 2, 3, 4, 0] rfl (ih (x4 + 1) (p1_alone s (upd (x1_alone s) (((x3 * 21) + x4) : Int32).toNatClampNeg r7)) _ _ _ hP hD hS hq E2)
      obtain ⟨o10, ho11, hq⟩ := bindE hq
      refine g_sub [1, 2, 3, 4, 0] rfl (Q51 x3 FUEL 0 s o10 _ _ hP hD hS ho11 (fun H L hP hD hS => ?_))
      refine g_iconst 0 C 89 rfl dX1_reckon_88 ki_0 ?_
      refine g_istore [(4, .int 0), (0, .ref (a 0)), (1, .ref (b 0)), (2, .ref (c 0)), (3, .int x3)] C 91 rfl dX1_reckon_89 (Nat.le_of_ble_eq_true rfl) rfl ?_
      have Q91 : ∀ (x3 : Int32), ∀ (n : Nat) (x4 : Int32) (s : S1) (o : (S1)) (H : Heap) (L : List Loc) (hP : va_P Δ.1 classes (cs1 a Δ s ++ cs6 b Δ o ++ cs5 c Δ u) H) (hD : va_D A (cs1 a Δ s ++ cs6 b Δ o ++ cs5 c Δ u)) (hS : va_S A (sOf Γ).heap H L) (hq : lp_X1_reckon_91 x3 o u n x4 s = some o) (E2 : ∀ (H : Heap) (L : List Loc), va_P Δ.1 classes (cs1 a Δ o ++ cs6 b Δ o ++ cs5 c Δ u) H → va_D A (cs1 a Δ o ++ cs6 b Δ o ++ cs5 c Δ u) → va_S A (sOf Γ).heap H L → g Γ { frames := 4, cells := 0, slots := 0, locals := 94 } 5 H L 0 0 123 [(0, .ref (a 0)), (1, .ref (b 0)), (2, .ref (c 0)), (3, .int x3)] []), g Γ { frames := 4, cells := 0, slots := 0, locals := 94 } 5 H L 0 0 91 [(0, .ref (a 0)), (1, .ref (b 0)), (2, .ref (c 0)), (3, .int x3), (4, .int x4)] [] := by
        intro x3
        intro n
        induction n with
        | zero => intro x4 s o H L hP hD hS hq; exact nomatch (show (none : Option (S1)) = some o from hq)
        | succ n ih =>
          intro x4 s o H L hP hD hS hq E2
          have hq : bd_X1_reckon_91 x3 o u (lp_X1_reckon_91 x3 o u n) x4 s = some o := hq
          refine g_iload C 93 rfl dX1_reckon_91 4 rfl ?_
          refine g_bipush 21 C 95 rfl dX1_reckon_93 kb_21 ?_
          refine s_icmp_ge C 123 98 rfl dX1_reckon_95 (by decide) hq (fun hq => ?_) (fun hq => ?_)
          · cases hq
            exact g_sub [0, 1, 2, 3] rfl (E2 _ _ hP hD hS)
          refine g_aload_n C 99 rfl dX1_reckon_98 0 rfl ?_
          refine g_get (v := .ref (a 2)) C 102 rfl dX1_reckon_99 hK hP la_X1 0 1 (Nat.le_of_ble_eq_true rfl) fl_X1_15 rfl rfl rfl rfl ?_
          refine g_iload_n C 103 rfl dX1_reckon_102 3 rfl ?_
          refine g_bipush 21 C 105 rfl dX1_reckon_103 kb_21 ?_
          refine g_imul C 106 rfl dX1_reckon_105 ?_
          refine g_iload C 108 rfl dX1_reckon_106 4 rfl ?_
          refine g_iadd C 109 rfl dX1_reckon_108 ?_
          refine g_aload_n C 110 rfl dX1_reckon_109 0 rfl ?_
          refine g_iload_n C 111 rfl dX1_reckon_110 3 rfl ?_
          refine g_iload C 113 rfl dX1_reckon_111 4 rfl ?_
          obtain ⟨r12, hz13, hq⟩ := bindE hq
          refine g_callRV (rest := [.int ((x3 * 21) + x4), .ref (a 2)]) C 116 rfl dX1_reckon_113 (c_X1_leastOver Γ.2.1 Δ a x3 x4 s hz13) mv_X1_leastOver ml_X1_34 hK (va_P_cut hP [0, 1, 2] rfl) rfl rfl rfl rfl rfl ⟨Nat.le_of_ble_eq_true rfl, Nat.le_of_ble_eq_true rfl⟩ (Nat.le_of_ble_eq_true rfl) ⟨Nat.zero_le _, Nat.zero_le _⟩ ?_
          refine s_iast (cs1 a Δ (p1_fewest s (upd (x1_fewest s) (((x3 * 21) + x4) : Int32).toNatClampNeg r12)) ++ cs6 b Δ o ++ cs5 c Δ u) C 117 rfl dX1_reckon_116 hK hP hD hS 2 rfl hq rfl (fun hq hi14 H L hP hD hS => ?_)
          refine g_iinc (x4 + 1) [(4, .int (x4 + 1)), (0, .ref (a 0)), (1, .ref (b 0)), (2, .ref (c 0)), (3, .int x3)] C 120 rfl dX1_reckon_117 4 rfl (ii_1 _) (Nat.le_of_ble_eq_true rfl) rfl ?_
          refine g_goto C 91 dX1_reckon_120 (by decide) ?_
          exact g_sub [1, 2, 3, 4, 0] rfl (ih (x4 + 1) (p1_fewest s (upd (x1_fewest s) (((x3 * 21) + x4) : Int32).toNatClampNeg r12)) _ _ _ hP hD hS hq E2)
      obtain ⟨o15, ho16, hq⟩ := bindE hq
      refine g_sub [1, 2, 3, 4, 0] rfl (Q91 x3 FUEL 0 o10 o15 _ _ hP hD hS ho16 (fun H L hP hD hS => ?_))
      refine g_iinc (x3 - 1) [(3, .int (x3 - 1)), (0, .ref (a 0)), (1, .ref (b 0)), (2, .ref (c 0))] C 126 rfl dX1_reckon_123 3 rfl (ii_m1 _) (Nat.le_of_ble_eq_true rfl) rfl ?_
      refine g_goto C 44 dX1_reckon_126 (by decide) ?_
      exact g_sub [1, 2, 3, 0] rfl (ih (x3 - 1) o15 _ _ _ hP hD hS hq E2)
  obtain ⟨o17, ho18, hq⟩ := bindE hq
  refine g_sub [1, 2, 3, 0] rfl (Q44  FUEL 5 o3 o17 _ _ hP hD hS ho18 (fun H L hP hD hS => ?_))
  exact w_void (ws := fun s => cs1 a Δ s ++ cs6 b Δ o ++ cs5 c Δ u) hR hq hP hS dX1_reckon_129 rfl
set_option maxHeartbeats 4000000 in
set_option maxRecDepth 100000 in
theorem c_X1_partOf (l : Launch) (Δ : gD) (a : Nat → Nat) (x1 : Int32) (x2 : Int32) (s : S1) {res : Int32} (hq : sem_X1_partOf x1 x2 s = some res) : MR l yX1_partOf cX1_partOf 6 (some .int) Δ (cs1 a Δ s) [.ref (a 0), .int x1, .int x2] 3 70 (.int res) := by
  refine MR.of (by decide) (Nat.le_of_ble_eq_true rfl) ?_
  intro Γ H hl C hK hP hR
  subst hl
  show g Γ { frames := 3, cells := 0, slots := 0, locals := 70 } 6 H [] 0 0 0 [(0, .ref (a 0)), (1, .int x1), (2, .int x2)] []
  refine g_iload_n C 1 rfl dX1_partOf_0 2 rfl ?_
  refine g_istore_n [(3, .int x2), (0, .ref (a 0)), (1, .int x1), (2, .int x2)] C 2 rfl dX1_partOf_1 (Nat.le_of_ble_eq_true rfl) rfl ?_
  refine g_iconst 0 C 3 rfl dX1_partOf_2 ki_0 ?_
  refine g_istore [(4, .int 0), (3, .int x2), (0, .ref (a 0)), (1, .int x1), (2, .int x2)] C 5 rfl dX1_partOf_3 (Nat.le_of_ble_eq_true rfl) rfl ?_
  refine g_iconst 0 C 6 rfl dX1_partOf_5 ki_0 ?_
  refine g_istore [(5, .int 0), (4, .int 0), (3, .int x2), (0, .ref (a 0)), (1, .int x1), (2, .int x2)] C 8 rfl dX1_partOf_6 (Nat.le_of_ble_eq_true rfl) rfl ?_
  have Q8 : ∀ (x1 : Int32), ∀ (n : Nat) (x3 : Int32) (x4 : Int32) (x5 : Int32) (o : (Int32)) (hq : lp_X1_partOf_8 x1 s n x3 x4 x5 = some o) (E2 : g Γ { frames := 3, cells := 0, slots := 0, locals := 70 } 6 H [] 0 0 72 [(4, .int o)] []), g Γ { frames := 3, cells := 0, slots := 0, locals := 70 } 6 H [] 0 0 8 [(0, .ref (a 0)), (1, .int x1), (3, .int x3), (4, .int x4), (5, .int x5)] [] := by
    intro x1
    intro n
    induction n with
    | zero => intro x3 x4 x5 o hq; exact nomatch (show (none : Option (Int32)) = some o from hq)
    | succ n ih =>
      intro x3 x4 x5 o hq E2
      have hq : bd_X1_partOf_8 x1 s (lp_X1_partOf_8 x1 s n) x3 x4 x5 = some o := hq
      refine g_iload C 10 rfl dX1_partOf_8 4 rfl ?_
      refine g_iload_n C 11 rfl dX1_partOf_10 1 rfl ?_
      refine s_icmp_gt C 72 14 rfl dX1_partOf_11 (by decide) hq (fun hq => ?_) (fun hq => ?_)
      · cases hq
        exact g_sub [3] rfl (E2 )
      refine g_iload C 16 rfl dX1_partOf_14 4 rfl ?_
      refine g_bipush 6 C 18 rfl dX1_partOf_16 kb_6 ?_
      refine s_icmp_ge C 72 21 rfl dX1_partOf_18 (by decide) hq (fun hq => ?_) (fun hq => ?_)
      · cases hq
        exact g_sub [3] rfl (E2 )
      refine g_iload_n C 22 rfl dX1_partOf_21 2 rfl ?_
      refine g_iload C 24 rfl dX1_partOf_22 3 rfl ?_
      refine g_isub C 25 rfl dX1_partOf_24 ?_
      refine g_istore_n [(3, .int (x3 - x4)), (0, .ref (a 0)), (1, .int x1), (4, .int x4), (5, .int x5)] C 26 rfl dX1_partOf_25 (Nat.le_of_ble_eq_true rfl) rfl ?_
      refine g_iconst 0 C 27 rfl dX1_partOf_26 ki_0 ?_
      refine g_istore [(4, .int 0), (3, .int (x3 - x4)), (0, .ref (a 0)), (1, .int x1), (5, .int x5)] C 29 rfl dX1_partOf_27 (Nat.le_of_ble_eq_true rfl) rfl ?_
      have Q29 : ∀ (x1 : Int32) (x3 : Int32) (x5 : Int32), ∀ (n : Nat) (x4 : Int32) (o : (Int32)) (hq : lp_X1_partOf_29 x1 x3 x5 s n x4 = some o) (E2 : g Γ { frames := 3, cells := 0, slots := 0, locals := 70 } 6 H [] 0 0 66 [(0, .ref (a 0)), (1, .int x1), (3, .int x3), (4, .int o), (5, .int x5)] []), g Γ { frames := 3, cells := 0, slots := 0, locals := 70 } 6 H [] 0 0 29 [(0, .ref (a 0)), (1, .int x1), (3, .int x3), (4, .int x4), (5, .int x5)] [] := by
        intro x1 x3 x5
        intro n
        induction n with
        | zero => intro x4 o hq; exact nomatch (show (none : Option (Int32)) = some o from hq)
        | succ n ih =>
          intro x4 o hq E2
          have hq : bd_X1_partOf_29 x1 x3 x5 s (lp_X1_partOf_29 x1 x3 x5 s n) x4 = some o := hq
          refine g_iload C 31 rfl dX1_partOf_29 3 rfl ?_
          refine g_aload_n C 32 rfl dX1_partOf_31 0 rfl ?_
          refine g_iload C 34 rfl dX1_partOf_32 4 rfl ?_
          refine g_iload_n C 35 rfl dX1_partOf_34 2 rfl ?_
          obtain ⟨r1, hz2, hq⟩ := bindE hq
          refine g_callRV (rest := [.int x4]) C 38 rfl dX1_partOf_35 (c_X1_mostFor Γ.2.1 Δ a x5 x3 s hz2) mv_X1_mostFor ml_X1_37 hK hP rfl rfl rfl rfl rfl ⟨Nat.le_of_ble_eq_true rfl, Nat.le_of_ble_eq_true rfl⟩ (Nat.le_of_ble_eq_true rfl) ⟨Nat.zero_le _, Nat.zero_le _⟩ ?_
          refine s_icmp_ge C 66 41 rfl dX1_partOf_38 (by decide) hq (fun hq => ?_) (fun hq => ?_)
          · cases hq
            exact g_sub [0, 1, 2, 3, 4] rfl (E2 )
          refine g_aload_n C 42 rfl dX1_partOf_41 0 rfl ?_
          refine g_iload C 44 rfl dX1_partOf_42 4 rfl ?_
          refine g_iload_n C 45 rfl dX1_partOf_44 2 rfl ?_
          refine g_iload C 47 rfl dX1_partOf_45 3 rfl ?_
          obtain ⟨r3, hz4, hq⟩ := bindE hq
          refine g_callRV (rest := []) C 50 rfl dX1_partOf_47 (c_X1_withPart Γ.2.1 Δ a x5 x3 x4 s hz4) mv_X1_withPart ml_X1_40 hK hP rfl rfl rfl rfl rfl ⟨Nat.le_of_ble_eq_true rfl, Nat.le_of_ble_eq_true rfl⟩ (Nat.le_of_ble_eq_true rfl) ⟨Nat.zero_le _, Nat.zero_le _⟩ ?_
          refine g_aload_n C 51 rfl dX1_partOf_50 0 rfl ?_
          refine g_iload C 53 rfl dX1_partOf_51 4 rfl ?_
          refine g_iload_n C 54 rfl dX1_partOf_53 2 rfl ?_
          obtain ⟨r5, hz6, hq⟩ := bindE hq
          refine g_callRV (rest := [.int r3]) C 57 rfl dX1_partOf_54 (c_X1_fewestFrom Γ.2.1 Δ a x5 x3 s hz6) mv_X1_fewestFrom ml_X1_53 hK hP rfl rfl rfl rfl rfl ⟨Nat.le_of_ble_eq_true rfl, Nat.le_of_ble_eq_true rfl⟩ (Nat.le_of_ble_eq_true rfl) ⟨Nat.zero_le _, Nat.zero_le _⟩ ?_
          refine s_icmp_eq C 66 60 rfl dX1_partOf_57 (by decide) hq (fun hq => ?_) (fun hq => ?_)
          · cases hq
            exact g_sub [0, 1, 2, 3, 4] rfl (E2 )
          refine g_iinc (x4 + 1) [(4, .int (x4 + 1)), (0, .ref (a 0)), (1, .int x1), (3, .int x3), (5, .int x5)] C 63 rfl dX1_partOf_60 3 rfl (ii_1 _) (Nat.le_of_ble_eq_true rfl) rfl ?_
          refine g_goto C 29 dX1_partOf_63 (by decide) ?_
          exact g_sub [1, 2, 3, 0, 4] rfl (ih (x4 + 1) _ hq E2)
      obtain ⟨o7, ho8, hq⟩ := bindE hq
      refine g_sub [2, 3, 1, 0, 4] rfl (Q29 x1 (x3 - x4) x5 FUEL 0 o7 ho8 (?_))
      refine g_iinc (x5 + 1) [(5, .int (x5 + 1)), (0, .ref (a 0)), (1, .int x1), (3, .int (x3 - x4)), (4, .int o7)] C 69 rfl dX1_partOf_66 4 rfl (ii_1 _) (Nat.le_of_ble_eq_true rfl) rfl ?_
      refine g_goto C 8 dX1_partOf_69 (by decide) ?_
      exact g_sub [1, 2, 3, 4, 0] rfl (ih (x3 - x4) o7 (x5 + 1) _ hq E2)
  obtain ⟨o9, ho10, hq⟩ := bindE hq
  refine g_sub [3, 4, 2, 1, 0] rfl (Q8 x1 FUEL x2 0 0 o9 ho10 (?_))
  refine g_iload C 74 rfl dX1_partOf_72 0 rfl ?_
  exact r_int hR hq dX1_partOf_74 rfl rfl
set_option maxHeartbeats 4000000 in
set_option maxRecDepth 100000 in
theorem c_X2_begin (l : Launch) (Δ : gD) (a : Nat → Nat) (x1 : Int32) (x2 : Int32) (s : S2) {res : S2} (hq : sem_X2_begin x1 x2 s = some res) : MW l yX2_begin cX2_begin 4 none Δ (cs2 a Δ s) [.ref (a 0), .int x1, .int x2] 1 24 none (cs2 a Δ res) := by
  refine MW.of (by decide) (Nat.le_of_ble_eq_true rfl) ?_
  intro Γ A H hl C hK hP hD hS hA hR
  subst hl
  show g Γ { frames := 1, cells := 0, slots := 0, locals := 24 } 4 H [] 0 0 0 [(0, .ref (a 0)), (1, .int x1), (2, .int x2)] []
  refine g_aload_n C 1 rfl dX2_begin_0 0 rfl ?_
  refine g_iload_n C 2 rfl dX2_begin_1 2 rfl ?_
  refine g_bipush 20 C 4 rfl dX2_begin_2 kb_20 ?_
  refine g_mmin C 7 rfl dX2_begin_4 ml_X2_29 mth_min ⟨Nat.le_of_ble_eq_true rfl, Nat.le_of_ble_eq_true rfl⟩ ⟨Nat.zero_le _, Nat.zero_le _⟩ ?_
  refine g_put (cs2 a Δ (p2_limit s (jmin x2 20))) C 10 rfl dX2_begin_7 hK hP hD hS la_X2 tyX2_ok nmX2 0 2 (Nat.le_of_ble_eq_true rfl) fl_X2_18 rfl rfl rfl rfl rfl rfl (Nat.le_of_ble_eq_true rfl) rfl (fun H L hP hD hS => ?_)
  refine g_aload_n C 11 rfl dX2_begin_10 0 rfl ?_
  refine g_lconst 1 C 12 rfl dX2_begin_11 kl_1 ?_
  refine g_put (cs2 a Δ (p2_whole (p2_limit s (jmin x2 20)) 1)) C 15 rfl dX2_begin_12 hK hP hD hS la_X2 tyX2_ok nmX2 0 3 (Nat.le_of_ble_eq_true rfl) fl_X2_22 rfl rfl rfl rfl rfl rfl (Nat.le_of_ble_eq_true rfl) rfl (fun H L hP hD hS => ?_)
  refine g_aload_n C 16 rfl dX2_begin_15 0 rfl ?_
  refine g_lconst 0 C 17 rfl dX2_begin_16 kl_0 ?_
  refine g_put (cs2 a Δ (p2_slips (p2_whole (p2_limit s (jmin x2 20)) 1) 0)) C 20 rfl dX2_begin_17 hK hP hD hS la_X2 tyX2_ok nmX2 0 4 (Nat.le_of_ble_eq_true rfl) fl_X2_26 rfl rfl rfl rfl rfl rfl (Nat.le_of_ble_eq_true rfl) rfl (fun H L hP hD hS => ?_)
  refine g_iconst 0 C 21 rfl dX2_begin_20 ki_0 ?_
  refine g_istore_n [(3, .int 0), (0, .ref (a 0)), (1, .int x1), (2, .int x2)] C 22 rfl dX2_begin_21 (Nat.le_of_ble_eq_true rfl) rfl ?_
  have Q22 : ∀ (x1 : Int32), ∀ (n : Nat) (x3 : Int32) (s : S2) (o : (S2)) (H : Heap) (L : List Loc) (hP : va_P Δ.1 classes (cs2 a Δ s) H) (hD : va_D A (cs2 a Δ s)) (hS : va_S A (sOf Γ).heap H L) (hq : lp_X2_begin_22 x1 n x3 s = some o) (E2 : ∀ (H : Heap) (L : List Loc), va_P Δ.1 classes (cs2 a Δ o) H → va_D A (cs2 a Δ o) → va_S A (sOf Γ).heap H L → g Γ { frames := 1, cells := 0, slots := 0, locals := 24 } 4 H L 0 0 50 [] []), g Γ { frames := 1, cells := 0, slots := 0, locals := 24 } 4 H L 0 0 22 [(0, .ref (a 0)), (1, .int x1), (3, .int x3)] [] := by
    intro x1
    intro n
    induction n with
    | zero => intro x3 s o H L hP hD hS hq; exact nomatch (show (none : Option (S2)) = some o from hq)
    | succ n ih =>
      intro x3 s o H L hP hD hS hq E2
      have hq : bd_X2_begin_22 x1 (lp_X2_begin_22 x1 n) x3 s = some o := hq
      refine g_iload_n C 23 rfl dX2_begin_22 2 rfl ?_
      refine g_bipush 20 C 25 rfl dX2_begin_23 kb_20 ?_
      refine s_icmp_gt C 50 28 rfl dX2_begin_25 (by decide) hq (fun hq => ?_) (fun hq => ?_)
      · cases hq
        exact g_sub [] rfl (E2 _ _ hP hD hS)
      refine g_aload_n C 29 rfl dX2_begin_28 0 rfl ?_
      refine g_get (v := .ref (a 1)) C 32 rfl dX2_begin_29 hK hP la_X2 0 0 (Nat.le_of_ble_eq_true rfl) fl_X2_9 rfl rfl rfl rfl ?_
      refine g_iload_n C 33 rfl dX2_begin_32 2 rfl ?_
      refine g_iload_n C 34 rfl dX2_begin_33 2 rfl ?_
      refine g_iload_n C 35 rfl dX2_begin_34 1 rfl ?_
      refine s_icmp_ne C 42 38 rfl dX2_begin_35 (by decide) hq (fun hq => ?_) (fun hq => ?_)
      · refine g_lconst 0 C 43 rfl dX2_begin_42 kl_0 ?_
        refine s_last (cs2 a Δ (p2_parts s (vp_updL (x2_parts s) (x3 : Int32).toNatClampNeg 0))) C 44 rfl dX2_begin_43 hK hP hD hS 1 rfl hq rfl (fun hq hi1 H L hP hD hS => ?_)
        refine g_iinc (x3 + 1) [(3, .int (x3 + 1)), (0, .ref (a 0)), (1, .int x1)] C 47 rfl dX2_begin_44 2 rfl (ii_1 _) (Nat.le_of_ble_eq_true rfl) rfl ?_
        refine g_goto C 22 dX2_begin_47 (by decide) ?_
        exact g_sub [1, 2, 0] rfl (ih (x3 + 1) (p2_parts s (vp_updL (x2_parts s) (x3 : Int32).toNatClampNeg 0)) _ _ _ hP hD hS hq E2)
      refine g_lconst 1 C 39 rfl dX2_begin_38 kl_1 ?_
      refine g_goto C 43 dX2_begin_39 (by decide) ?_
      refine s_last (cs2 a Δ (p2_parts s (vp_updL (x2_parts s) (x3 : Int32).toNatClampNeg 1))) C 44 rfl dX2_begin_43 hK hP hD hS 1 rfl hq rfl (fun hq hi2 H L hP hD hS => ?_)
      refine g_iinc (x3 + 1) [(3, .int (x3 + 1)), (0, .ref (a 0)), (1, .int x1)] C 47 rfl dX2_begin_44 2 rfl (ii_1 _) (Nat.le_of_ble_eq_true rfl) rfl ?_
      refine g_goto C 22 dX2_begin_47 (by decide) ?_
      exact g_sub [1, 2, 0] rfl (ih (x3 + 1) (p2_parts s (vp_updL (x2_parts s) (x3 : Int32).toNatClampNeg 1)) _ _ _ hP hD hS hq E2)
  obtain ⟨o3, ho4, hq⟩ := bindE hq
  refine g_sub [1, 2, 0] rfl (Q22 x1 FUEL 0 (p2_slips (p2_whole (p2_limit s (jmin x2 20)) 1) 0) o3 _ _ hP hD hS ho4 (fun H L hP hD hS => ?_))
  exact w_void (ws := fun s => cs2 a Δ s) hR hq hP hS dX2_begin_50 rfl
set_option maxHeartbeats 4000000 in
set_option maxRecDepth 100000 in
theorem c_X2_passHour (l : Launch) (Δ : gD) (a : Nat → Nat) (x1 : Int32) (x2 : Int32) (x3 : Int32) (s : S2) {res : S2} (hq : sem_X2_passHour x1 x2 x3 s = some res) : MW l yX2_passHour cX2_passHour 10 none Δ (cs2 a Δ s) [.ref (a 0), .int x1, .int x2, .int x3] 1 26 none (cs2 a Δ res) := by
  refine MW.of (by decide) (Nat.le_of_ble_eq_true rfl) ?_
  intro Γ A H hl C hK hP hD hS hA hR
  subst hl
  have K144 : ∀ (x4 : Int64) (s : S2) (H : Heap) (L : List Loc) (hP : va_P Δ.1 classes (cs2 a Δ s) H) (hD : va_D A (cs2 a Δ s)) (hS : va_S A (sOf Γ).heap H L), jn_X2_passHour_144 x4 s = some res → g Γ { frames := 1, cells := 0, slots := 0, locals := 26 } 10 H L 0 0 144 [(0, .ref (a 0)), (4, .long x4)] [] := by
    intro x4 s H L hP hD hS hq
    refine g_aload_n C 145 rfl dX2_passHour_144 0 rfl ?_
    refine g_get (v := .ref (a 2)) C 148 rfl dX2_passHour_145 hK hP la_X2 0 1 (Nat.le_of_ble_eq_true rfl) fl_X2_15 rfl rfl rfl rfl ?_
    refine g_iconst 0 C 149 rfl dX2_passHour_148 ki_0 ?_
    refine g_aload_n C 150 rfl dX2_passHour_149 0 rfl ?_
    refine g_get (v := .ref (a 1)) C 153 rfl dX2_passHour_150 hK hP la_X2 0 0 (Nat.le_of_ble_eq_true rfl) fl_X2_9 rfl rfl rfl rfl ?_
    refine g_iconst 0 C 154 rfl dX2_passHour_153 ki_0 ?_
    refine g_bipush 21 C 156 rfl dX2_passHour_154 kb_21 ?_
    refine g_acpL (cs2 a Δ (p2_parts s (va_cpy (x2_next s) (x2_parts s) 0 0 21))) 21 C 159 rfl dX2_passHour_156 ml_X2_38 sys_copy hK hP hD hS 2 1 rfl rfl (by decide) (by decide) (by decide) (by decide) ⟨Nat.le_of_ble_eq_true rfl, Nat.le_of_ble_eq_true rfl⟩ rfl (fun H L hP hD hS => ?_)
    refine g_aload_n C 160 rfl dX2_passHour_159 0 rfl ?_
    refine g_aload_n C 161 rfl dX2_passHour_160 0 rfl ?_
    refine g_get (v := .long (x2_slips s)) C 164 rfl dX2_passHour_161 hK hP la_X2 0 4 (Nat.le_of_ble_eq_true rfl) fl_X2_26 rfl rfl rfl rfl ?_
    refine g_ldc2 10 C 167 rfl dX2_passHour_164 k_X2_44 ?_
    refine g_lmul C 168 rfl dX2_passHour_167 ?_
    refine g_lload C 170 rfl dX2_passHour_168 1 rfl ?_
    refine g_ladd C 171 rfl dX2_passHour_170 ?_
    refine g_put (cs2 a Δ (p2_slips (p2_parts s (va_cpy (x2_next s) (x2_parts s) 0 0 21)) (((x2_slips s) * 10) + x4))) C 174 rfl dX2_passHour_171 hK hP hD hS la_X2 tyX2_ok nmX2 0 4 (Nat.le_of_ble_eq_true rfl) fl_X2_26 rfl rfl rfl rfl rfl rfl (Nat.le_of_ble_eq_true rfl) rfl (fun H L hP hD hS => ?_)
    refine g_aload_n C 175 rfl dX2_passHour_174 0 rfl ?_
    refine g_dup C 176 rfl dX2_passHour_175 rfl ?_
    refine g_get (v := .long (x2_whole s)) C 179 rfl dX2_passHour_176 hK hP la_X2 0 3 (Nat.le_of_ble_eq_true rfl) fl_X2_22 rfl rfl rfl rfl ?_
    refine g_ldc2 10 C 182 rfl dX2_passHour_179 k_X2_44 ?_
    refine g_lmul C 183 rfl dX2_passHour_182 ?_
    refine g_put (cs2 a Δ (p2_whole (p2_slips (p2_parts s (va_cpy (x2_next s) (x2_parts s) 0 0 21)) (((x2_slips s) * 10) + x4)) ((x2_whole s) * 10))) C 186 rfl dX2_passHour_183 hK hP hD hS la_X2 tyX2_ok nmX2 0 3 (Nat.le_of_ble_eq_true rfl) fl_X2_22 rfl rfl rfl rfl rfl rfl (Nat.le_of_ble_eq_true rfl) rfl (fun H L hP hD hS => ?_)
    exact w_void (ws := fun s => cs2 a Δ s) hR hq hP hS dX2_passHour_186 rfl
  show g Γ { frames := 1, cells := 0, slots := 0, locals := 26 } 10 H [] 0 0 0 [(0, .ref (a 0)), (1, .int x1), (2, .int x2), (3, .int x3)] []
  refine g_iconst 0 C 1 rfl dX2_passHour_0 ki_0 ?_
  refine g_istore [(4, .int 0), (0, .ref (a 0)), (1, .int x1), (2, .int x2), (3, .int x3)] C 3 rfl dX2_passHour_1 (Nat.le_of_ble_eq_true rfl) rfl ?_
  have Q3 : ∀ (x1 : Int32) (x2 : Int32) (x3 : Int32), ∀ (n : Nat) (x4 : Int32) (s : S2) (o : (S2)) (H : Heap) (L : List Loc) (hP : va_P Δ.1 classes (cs2 a Δ s) H) (hD : va_D A (cs2 a Δ s)) (hS : va_S A (sOf Γ).heap H L) (hq : lp_X2_passHour_3 x1 x2 x3 n x4 s = some o) (E2 : ∀ (H : Heap) (L : List Loc), va_P Δ.1 classes (cs2 a Δ o) H → va_D A (cs2 a Δ o) → va_S A (sOf Γ).heap H L → g Γ { frames := 1, cells := 0, slots := 0, locals := 26 } 10 H L 0 0 24 [(0, .ref (a 0)), (1, .int x1), (2, .int x2), (3, .int x3)] []), g Γ { frames := 1, cells := 0, slots := 0, locals := 26 } 10 H L 0 0 3 [(0, .ref (a 0)), (1, .int x1), (2, .int x2), (3, .int x3), (4, .int x4)] [] := by
    intro x1 x2 x3
    intro n
    induction n with
    | zero => intro x4 s o H L hP hD hS hq; exact nomatch (show (none : Option (S2)) = some o from hq)
    | succ n ih =>
      intro x4 s o H L hP hD hS hq E2
      have hq : bd_X2_passHour_3 x1 x2 x3 (lp_X2_passHour_3 x1 x2 x3 n) x4 s = some o := hq
      refine g_iload C 5 rfl dX2_passHour_3 4 rfl ?_
      refine g_bipush 20 C 7 rfl dX2_passHour_5 kb_20 ?_
      refine s_icmp_gt C 24 10 rfl dX2_passHour_7 (by decide) hq (fun hq => ?_) (fun hq => ?_)
      · cases hq
        exact g_sub [0, 1, 2, 3] rfl (E2 _ _ hP hD hS)
      refine g_aload_n C 11 rfl dX2_passHour_10 0 rfl ?_
      refine g_get (v := .ref (a 2)) C 14 rfl dX2_passHour_11 hK hP la_X2 0 1 (Nat.le_of_ble_eq_true rfl) fl_X2_15 rfl rfl rfl rfl ?_
      refine g_iload C 16 rfl dX2_passHour_14 4 rfl ?_
      refine g_lconst 0 C 17 rfl dX2_passHour_16 kl_0 ?_
      refine s_last (cs2 a Δ (p2_next s (vp_updL (x2_next s) (x4 : Int32).toNatClampNeg 0))) C 18 rfl dX2_passHour_17 hK hP hD hS 2 rfl hq rfl (fun hq hi1 H L hP hD hS => ?_)
      refine g_iinc (x4 + 1) [(4, .int (x4 + 1)), (0, .ref (a 0)), (1, .int x1), (2, .int x2), (3, .int x3)] C 21 rfl dX2_passHour_18 4 rfl (ii_1 _) (Nat.le_of_ble_eq_true rfl) rfl ?_
      refine g_goto C 3 dX2_passHour_21 (by decide) ?_
      exact g_sub [1, 2, 3, 4, 0] rfl (ih (x4 + 1) (p2_next s (vp_updL (x2_next s) (x4 : Int32).toNatClampNeg 0)) _ _ _ hP hD hS hq E2)
  obtain ⟨o2, ho3, hq⟩ := bindE hq
  refine g_sub [1, 2, 3, 4, 0] rfl (Q3 x1 x2 x3 FUEL 0 s o2 _ _ hP hD hS ho3 (fun H L hP hD hS => ?_))
  refine g_lconst 0 C 25 rfl dX2_passHour_24 kl_0 ?_
  refine g_lstore [(4, .long 0), (0, .ref (a 0)), (1, .int x1), (2, .int x2), (3, .int x3)] C 27 rfl dX2_passHour_25 (Nat.le_of_ble_eq_true rfl) rfl ?_
  refine g_iconst 0 C 28 rfl dX2_passHour_27 ki_0 ?_
  refine g_istore [(6, .int 0), (4, .long 0), (0, .ref (a 0)), (1, .int x1), (2, .int x2), (3, .int x3)] C 30 rfl dX2_passHour_28 (Nat.le_of_ble_eq_true rfl) rfl ?_
  have Q30 : ∀ (x1 : Int32) (x2 : Int32) (x3 : Int32), ∀ (n : Nat) (x4 : Int64) (x6 : Int32) (s : S2) (o : (Int64 × S2)) (H : Heap) (L : List Loc) (hP : va_P Δ.1 classes (cs2 a Δ s) H) (hD : va_D A (cs2 a Δ s)) (hS : va_S A (sOf Γ).heap H L) (hq : lp_X2_passHour_30 x1 x2 x3 n x4 x6 s = some o) (E2 : ∀ (H : Heap) (L : List Loc), va_P Δ.1 classes (cs2 a Δ o.2) H → va_D A (cs2 a Δ o.2) → va_S A (sOf Γ).heap H L → g Γ { frames := 1, cells := 0, slots := 0, locals := 26 } 10 H L 0 0 129 [(0, .ref (a 0)), (3, .int x3), (4, .long o.1)] []), g Γ { frames := 1, cells := 0, slots := 0, locals := 26 } 10 H L 0 0 30 [(0, .ref (a 0)), (1, .int x1), (2, .int x2), (3, .int x3), (4, .long x4), (6, .int x6)] [] := by
    intro x1 x2 x3
    intro n
    induction n with
    | zero => intro x4 x6 s o H L hP hD hS hq; exact nomatch (show (none : Option (Int64 × S2)) = some o from hq)
    | succ n ih =>
      intro x4 x6 s o H L hP hD hS hq E2
      have hq : bd_X2_passHour_30 x1 x2 x3 (lp_X2_passHour_30 x1 x2 x3 n) x4 x6 s = some o := hq
      refine g_iload C 32 rfl dX2_passHour_30 5 rfl ?_
      refine g_aload_n C 33 rfl dX2_passHour_32 0 rfl ?_
      refine g_get (v := .int (x2_limit s)) C 36 rfl dX2_passHour_33 hK hP la_X2 0 2 (Nat.le_of_ble_eq_true rfl) fl_X2_18 rfl rfl rfl rfl ?_
      refine s_icmp_gt C 129 39 rfl dX2_passHour_36 (by decide) hq (fun hq => ?_) (fun hq => ?_)
      · cases hq
        exact g_sub [0, 3, 4] rfl (E2 _ _ hP hD hS)
      refine g_aload_n C 40 rfl dX2_passHour_39 0 rfl ?_
      refine g_get (v := .ref (a 1)) C 43 rfl dX2_passHour_40 hK hP la_X2 0 0 (Nat.le_of_ble_eq_true rfl) fl_X2_9 rfl rfl rfl rfl ?_
      refine g_iload C 45 rfl dX2_passHour_43 5 rfl ?_
      refine s_lald C 46 rfl dX2_passHour_45 hK hP 1 rfl hq (fun hq hi4 => ?_)
      refine g_iload_n C 47 rfl dX2_passHour_46 2 rfl ?_
      refine g_i2l C 48 rfl dX2_passHour_47 ?_
      refine g_lmul C 49 rfl dX2_passHour_48 ?_
      refine g_lstore [(7, .long (((x2_parts s) (x6 : Int32).toNatClampNeg) * (Int32.toInt64 x2))), (0, .ref (a 0)), (1, .int x1), (2, .int x2), (3, .int x3), (4, .long x4), (6, .int x6)] C 51 rfl dX2_passHour_49 (Nat.le_of_ble_eq_true rfl) rfl ?_
      refine g_iload C 53 rfl dX2_passHour_51 6 rfl ?_
      refine g_iload_n C 54 rfl dX2_passHour_53 2 rfl ?_
      refine g_iadd C 55 rfl dX2_passHour_54 ?_
      refine g_istore [(9, .int (x6 + x1)), (7, .long (((x2_parts s) (x6 : Int32).toNatClampNeg) * (Int32.toInt64 x2))), (0, .ref (a 0)), (1, .int x1), (2, .int x2), (3, .int x3), (4, .long x4), (6, .int x6)] C 57 rfl dX2_passHour_55 (Nat.le_of_ble_eq_true rfl) rfl ?_
      refine g_aload_n C 58 rfl dX2_passHour_57 2 rfl ?_
      refine g_get (v := .ref (a 2)) C 61 rfl dX2_passHour_58 hK hP la_X2 0 1 (Nat.le_of_ble_eq_true rfl) fl_X2_15 rfl rfl rfl rfl ?_
      refine g_iconst 0 C 62 rfl dX2_passHour_61 ki_0 ?_
      refine g_iload C 64 rfl dX2_passHour_62 7 rfl ?_
      refine g_iconst 1 C 65 rfl dX2_passHour_64 ki_1 ?_
      refine g_isub C 66 rfl dX2_passHour_65 ?_
      refine g_mmax C 69 rfl dX2_passHour_66 ml_X2_35 mth_max ⟨Nat.le_of_ble_eq_true rfl, Nat.le_of_ble_eq_true rfl⟩ ⟨Nat.zero_le _, Nat.zero_le _⟩ ?_
      refine g_dup2 C 70 rfl dX2_passHour_69 rfl rfl ?_
      refine s_lald C 71 rfl dX2_passHour_70 hK hP 2 rfl hq (fun hq hi5 => ?_)
      refine g_aload_n C 72 rfl dX2_passHour_71 2 rfl ?_
      refine g_get (v := .ref (a 1)) C 75 rfl dX2_passHour_72 hK hP la_X2 0 0 (Nat.le_of_ble_eq_true rfl) fl_X2_9 rfl rfl rfl rfl ?_
      refine g_iload C 77 rfl dX2_passHour_75 7 rfl ?_
      refine g_lald C 78 rfl dX2_passHour_77 hK hP 1 rfl hi4 ?_
      refine g_bipush 10 C 80 rfl dX2_passHour_78 kb_10 ?_
      refine g_iload_n C 81 rfl dX2_passHour_80 4 rfl ?_
      refine g_isub C 82 rfl dX2_passHour_81 ?_
      refine g_i2l C 83 rfl dX2_passHour_82 ?_
      refine g_lmul C 84 rfl dX2_passHour_83 ?_
      refine g_ladd C 85 rfl dX2_passHour_84 ?_
      refine g_last (cs2 a Δ (p2_next s (vp_updL (x2_next s) ((jmax 0 (x6 - 1)) : Int32).toNatClampNeg (((x2_next s) ((jmax 0 (x6 - 1)) : Int32).toNatClampNeg) + (((x2_parts s) (x6 : Int32).toNatClampNeg) * (Int32.toInt64 (10 - x2))))))) C 86 rfl dX2_passHour_85 hK hP hD hS 2 rfl hi5 rfl (fun H L hP hD hS => ?_)
      refine g_iload C 88 rfl dX2_passHour_86 0 rfl ?_
      refine g_aload_n C 89 rfl dX2_passHour_88 2 rfl ?_
      refine g_get (v := .int (x2_limit s)) C 92 rfl dX2_passHour_89 hK hP la_X2 0 2 (Nat.le_of_ble_eq_true rfl) fl_X2_18 rfl rfl rfl rfl ?_
      refine s_icmp_le C 105 95 rfl dX2_passHour_92 (by decide) hq (fun hq => ?_) (fun hq => ?_)
      rotate_left
      · refine g_lload C 97 rfl dX2_passHour_95 6 rfl ?_
        refine g_lload C 99 rfl dX2_passHour_97 1 rfl ?_
        refine g_ladd C 100 rfl dX2_passHour_99 ?_
        refine g_lstore [(4, .long (x4 + (((x2_parts s) (x6 : Int32).toNatClampNeg) * (Int32.toInt64 x2)))), (9, .int (x6 + x1)), (7, .long (((x2_parts s) (x6 : Int32).toNatClampNeg) * (Int32.toInt64 x2))), (0, .ref (a 0)), (1, .int x1), (2, .int x2), (3, .int x3), (6, .int x6)] C 102 rfl dX2_passHour_100 (Nat.le_of_ble_eq_true rfl) rfl ?_
        refine g_goto C 123 dX2_passHour_102 (by decide) ?_
        refine g_iinc (x6 + 1) [(6, .int (x6 + 1)), (4, .long (x4 + (((x2_parts s) (x6 : Int32).toNatClampNeg) * (Int32.toInt64 x2)))), (9, .int (x6 + x1)), (7, .long (((x2_parts s) (x6 : Int32).toNatClampNeg) * (Int32.toInt64 x2))), (0, .ref (a 0)), (1, .int x1), (2, .int x2), (3, .int x3)] C 126 rfl dX2_passHour_123 7 rfl (ii_1 _) (Nat.le_of_ble_eq_true rfl) rfl ?_
        refine g_goto C 30 dX2_passHour_126 (by decide) ?_
        exact g_sub [4, 5, 6, 7, 1, 0] rfl (ih (x4 + (((x2_parts s) (x6 : Int32).toNatClampNeg) * (Int32.toInt64 x2))) (x6 + 1) (p2_next s (vp_updL (x2_next s) ((jmax 0 (x6 - 1)) : Int32).toNatClampNeg (((x2_next s) ((jmax 0 (x6 - 1)) : Int32).toNatClampNeg) + (((x2_parts s) (x6 : Int32).toNatClampNeg) * (Int32.toInt64 (10 - x2)))))) _ _ _ hP hD hS hq E2)
      refine g_aload_n C 106 rfl dX2_passHour_105 2 rfl ?_
      refine g_get (v := .ref (a 2)) C 109 rfl dX2_passHour_106 hK hP la_X2 0 1 (Nat.le_of_ble_eq_true rfl) fl_X2_15 rfl rfl rfl rfl ?_
      refine g_iconst 0 C 110 rfl dX2_passHour_109 ki_0 ?_
      refine g_iload C 112 rfl dX2_passHour_110 0 rfl ?_
      refine g_iconst 1 C 113 rfl dX2_passHour_112 ki_1 ?_
      refine g_isub C 114 rfl dX2_passHour_113 ?_
      refine g_mmax C 117 rfl dX2_passHour_114 ml_X2_35 mth_max ⟨Nat.le_of_ble_eq_true rfl, Nat.le_of_ble_eq_true rfl⟩ ⟨Nat.zero_le _, Nat.zero_le _⟩ ?_
      refine g_dup2 C 118 rfl dX2_passHour_117 rfl rfl ?_
      refine s_lald C 119 rfl dX2_passHour_118 hK hP 2 rfl hq (fun hq hi6 => ?_)
      refine g_lload C 121 rfl dX2_passHour_119 1 rfl ?_
      refine g_ladd C 122 rfl dX2_passHour_121 ?_
      refine g_last (cs2 a Δ (p2_next s (vp_updL (vp_updL (x2_next s) ((jmax 0 (x6 - 1)) : Int32).toNatClampNeg (((x2_next s) ((jmax 0 (x6 - 1)) : Int32).toNatClampNeg) + (((x2_parts s) (x6 : Int32).toNatClampNeg) * (Int32.toInt64 (10 - x2))))) ((jmax 0 ((x6 + x1) - 1)) : Int32).toNatClampNeg (((vp_updL (x2_next s) ((jmax 0 (x6 - 1)) : Int32).toNatClampNeg (((x2_next s) ((jmax 0 (x6 - 1)) : Int32).toNatClampNeg) + (((x2_parts s) (x6 : Int32).toNatClampNeg) * (Int32.toInt64 (10 - x2))))) ((jmax 0 ((x6 + x1) - 1)) : Int32).toNatClampNeg) + (((x2_parts s) (x6 : Int32).toNatClampNeg) * (Int32.toInt64 x2)))))) C 123 rfl dX2_passHour_122 hK hP hD hS 2 rfl hi6 rfl (fun H L hP hD hS => ?_)
      refine g_iinc (x6 + 1) [(6, .int (x6 + 1)), (9, .int (x6 + x1)), (7, .long (((x2_parts s) (x6 : Int32).toNatClampNeg) * (Int32.toInt64 x2))), (0, .ref (a 0)), (1, .int x1), (2, .int x2), (3, .int x3), (4, .long x4)] C 126 rfl dX2_passHour_123 7 rfl (ii_1 _) (Nat.le_of_ble_eq_true rfl) rfl ?_
      refine g_goto C 30 dX2_passHour_126 (by decide) ?_
      exact g_sub [3, 4, 5, 6, 7, 0] rfl (ih x4 (x6 + 1) (p2_next s (vp_updL (vp_updL (x2_next s) ((jmax 0 (x6 - 1)) : Int32).toNatClampNeg (((x2_next s) ((jmax 0 (x6 - 1)) : Int32).toNatClampNeg) + (((x2_parts s) (x6 : Int32).toNatClampNeg) * (Int32.toInt64 (10 - x2))))) ((jmax 0 ((x6 + x1) - 1)) : Int32).toNatClampNeg (((vp_updL (x2_next s) ((jmax 0 (x6 - 1)) : Int32).toNatClampNeg (((x2_next s) ((jmax 0 (x6 - 1)) : Int32).toNatClampNeg) + (((x2_parts s) (x6 : Int32).toNatClampNeg) * (Int32.toInt64 (10 - x2))))) ((jmax 0 ((x6 + x1) - 1)) : Int32).toNatClampNeg) + (((x2_parts s) (x6 : Int32).toNatClampNeg) * (Int32.toInt64 x2))))) _ _ _ hP hD hS hq E2)
  obtain ⟨o7, ho8, hq⟩ := bindE hq
  refine g_sub [2, 3, 4, 5, 1, 0] rfl (Q30 x1 x2 x3 FUEL 0 0 o2 o7 _ _ hP hD hS ho8 (fun H L hP hD hS => ?_))
  refine g_iload_n C 130 rfl dX2_passHour_129 1 rfl ?_
  refine s_if_eq C 144 133 rfl dX2_passHour_130 (by decide) hq (fun hq => ?_) (fun hq => ?_)
  · exact g_sub [0, 2] rfl (K144 o7.1 o7.2 _ _ hP hD hS hq)
  refine g_aload_n C 134 rfl dX2_passHour_133 0 rfl ?_
  refine g_get (v := .ref (a 2)) C 137 rfl dX2_passHour_134 hK hP la_X2 0 1 (Nat.le_of_ble_eq_true rfl) fl_X2_15 rfl rfl rfl rfl ?_
  refine g_iconst 0 C 138 rfl dX2_passHour_137 ki_0 ?_
  refine g_dup2 C 139 rfl dX2_passHour_138 rfl rfl ?_
  refine s_lald C 140 rfl dX2_passHour_139 hK hP 2 rfl hq (fun hq hi9 => ?_)
  refine g_lload C 142 rfl dX2_passHour_140 2 rfl ?_
  refine g_ladd C 143 rfl dX2_passHour_142 ?_
  refine g_last (cs2 a Δ (p2_next o7.2 (vp_updL (x2_next o7.2) (0 : Int32).toNatClampNeg (((x2_next o7.2) (0 : Int32).toNatClampNeg) + o7.1)))) C 144 rfl dX2_passHour_143 hK hP hD hS 2 rfl hi9 rfl (fun H L hP hD hS => ?_)
  exact g_sub [0, 2] rfl (K144 o7.1 (p2_next o7.2 (vp_updL (x2_next o7.2) (0 : Int32).toNatClampNeg (((x2_next o7.2) (0 : Int32).toNatClampNeg) + o7.1))) _ _ hP hD hS hq)
set_option maxHeartbeats 4000000 in
set_option maxRecDepth 100000 in
theorem c_X2_calm (l : Launch) (Δ : gD) (a : Nat → Nat)  (s : S2) {res : Int64} (hq : sem_X2_calm  s = some res) : MR l yX2_calm cX2_calm 4 (some .long) Δ (cs2 a Δ s) [.ref (a 0)] 0 0 (.long res) := by
  refine MR.of (by decide) (Nat.le_of_ble_eq_true rfl) ?_
  intro Γ H hl C hK hP hR
  subst hl
  show g Γ { frames := 0, cells := 0, slots := 0, locals := 0 } 4 H [] 0 0 0 [(0, .ref (a 0))] []
  refine g_lconst 0 C 1 rfl dX2_calm_0 kl_0 ?_
  refine g_lstore_n [(1, .long 0), (0, .ref (a 0))] C 2 rfl dX2_calm_1 (Nat.le_of_ble_eq_true rfl) rfl ?_
  refine g_iconst 0 C 3 rfl dX2_calm_2 ki_0 ?_
  refine g_istore_n [(3, .int 0), (1, .long 0), (0, .ref (a 0))] C 4 rfl dX2_calm_3 (Nat.le_of_ble_eq_true rfl) rfl ?_
  have Q4 : ∀ (n : Nat) (x1 : Int64) (x3 : Int32) (o : (Int64)) (hq : lp_X2_calm_4 s n x1 x3 = some o) (E2 : g Γ { frames := 0, cells := 0, slots := 0, locals := 0 } 4 H [] 0 0 25 [(1, .long o)] []), g Γ { frames := 0, cells := 0, slots := 0, locals := 0 } 4 H [] 0 0 4 [(0, .ref (a 0)), (1, .long x1), (3, .int x3)] [] := by
    intro n
    induction n with
    | zero => intro x1 x3 o hq; exact nomatch (show (none : Option (Int64)) = some o from hq)
    | succ n ih =>
      intro x1 x3 o hq E2
      have hq : bd_X2_calm_4 s (lp_X2_calm_4 s n) x1 x3 = some o := hq
      refine g_iload_n C 5 rfl dX2_calm_4 2 rfl ?_
      refine g_bipush 20 C 7 rfl dX2_calm_5 kb_20 ?_
      refine s_icmp_gt C 25 10 rfl dX2_calm_7 (by decide) hq (fun hq => ?_) (fun hq => ?_)
      · cases hq
        exact g_sub [1] rfl (E2 )
      refine g_lload_n C 11 rfl dX2_calm_10 1 rfl ?_
      refine g_aload_n C 12 rfl dX2_calm_11 0 rfl ?_
      refine g_get (v := .ref (a 1)) C 15 rfl dX2_calm_12 hK hP la_X2 0 0 (Nat.le_of_ble_eq_true rfl) fl_X2_9 rfl rfl rfl rfl ?_
      refine g_iload_n C 16 rfl dX2_calm_15 2 rfl ?_
      refine s_lald C 17 rfl dX2_calm_16 hK hP 1 rfl hq (fun hq hi1 => ?_)
      refine g_ladd C 18 rfl dX2_calm_17 ?_
      refine g_lstore_n [(1, .long (x1 + ((x2_parts s) (x3 : Int32).toNatClampNeg))), (0, .ref (a 0)), (3, .int x3)] C 19 rfl dX2_calm_18 (Nat.le_of_ble_eq_true rfl) rfl ?_
      refine g_iinc (x3 + 1) [(3, .int (x3 + 1)), (1, .long (x1 + ((x2_parts s) (x3 : Int32).toNatClampNeg))), (0, .ref (a 0))] C 22 rfl dX2_calm_19 2 rfl (ii_1 _) (Nat.le_of_ble_eq_true rfl) rfl ?_
      refine g_goto C 4 dX2_calm_22 (by decide) ?_
      exact g_sub [2, 1, 0] rfl (ih (x1 + ((x2_parts s) (x3 : Int32).toNatClampNeg)) (x3 + 1) _ hq E2)
  obtain ⟨o2, ho3, hq⟩ := bindE hq
  refine g_sub [2, 1, 0] rfl (Q4  FUEL 0 0 o2 ho3 (?_))
  refine g_lload_n C 26 rfl dX2_calm_25 0 rfl ?_
  exact r_long hR hq dX2_calm_26 rfl
set_option maxHeartbeats 4000000 in
set_option maxRecDepth 100000 in
theorem c_X4_canFollow (l : Launch) (Δ : gD) (a : Nat → Nat) (x1 : Int32) (x2 : Int32) (s : S4) {res : Int32} (hq : sem_X4_canFollow x1 x2 s = some res) : MR l yX4_canFollow cX4_canFollow 3 (some .boolean) Δ (cs4 a Δ s) [.ref (a 0), .int x1, .int x2] 0 0 (.int res) := by
  refine MR.of (by decide) (Nat.le_of_ble_eq_true rfl) ?_
  intro Γ H hl C hK hP hR
  subst hl
  show g Γ { frames := 0, cells := 0, slots := 0, locals := 0 } 3 H [] 0 0 0 [(0, .ref (a 0)), (1, .int x1), (2, .int x2)] []
  refine g_iload_n C 1 rfl dX4_canFollow_0 1 rfl ?_
  refine g_bipush 6 C 3 rfl dX4_canFollow_1 kb_6 ?_
  refine s_icmp_eq C 26 6 rfl dX4_canFollow_3 (by decide) hq (fun hq => ?_) (fun hq => ?_)
  · refine g_iconst 1 C 27 rfl dX4_canFollow_26 ki_1 ?_
    refine g_goto C 31 dX4_canFollow_27 (by decide) ?_
    exact r_int hR hq dX4_canFollow_31 rfl rfl
  refine g_aload_n C 7 rfl dX4_canFollow_6 0 rfl ?_
  refine g_get (v := .ref (a 2)) C 10 rfl dX4_canFollow_7 hK hP la_X4 0 1 (Nat.le_of_ble_eq_true rfl) fl_X4_15 rfl rfl rfl rfl ?_
  refine g_iload_n C 11 rfl dX4_canFollow_10 1 rfl ?_
  refine s_iald C 12 rfl dX4_canFollow_11 hK hP 2 rfl hq (fun hq hi1 => ?_)
  refine g_aload_n C 13 rfl dX4_canFollow_12 0 rfl ?_
  refine g_get (v := .ref (a 2)) C 16 rfl dX4_canFollow_13 hK hP la_X4 0 1 (Nat.le_of_ble_eq_true rfl) fl_X4_15 rfl rfl rfl rfl ?_
  refine g_iload_n C 17 rfl dX4_canFollow_16 2 rfl ?_
  refine s_iald C 18 rfl dX4_canFollow_17 hK hP 2 rfl hq (fun hq hi2 => ?_)
  refine g_iadd C 19 rfl dX4_canFollow_18 ?_
  refine g_aload_n C 20 rfl dX4_canFollow_19 0 rfl ?_
  refine g_get (v := .int (x4_most s)) C 23 rfl dX4_canFollow_20 hK hP la_X4 0 2 (Nat.le_of_ble_eq_true rfl) fl_X4_18 rfl rfl rfl rfl ?_
  refine s_icmp_gt C 30 26 rfl dX4_canFollow_23 (by decide) hq (fun hq => ?_) (fun hq => ?_)
  · refine g_iconst 0 C 31 rfl dX4_canFollow_30 ki_0 ?_
    exact r_int hR hq dX4_canFollow_31 rfl rfl
  refine g_iconst 1 C 27 rfl dX4_canFollow_26 ki_1 ?_
  refine g_goto C 31 dX4_canFollow_27 (by decide) ?_
  exact r_int hR hq dX4_canFollow_31 rfl rfl
set_option maxHeartbeats 4000000 in
set_option maxRecDepth 100000 in
theorem c_X4_ways (l : Launch) (Δ : gD) (a : Nat → Nat) (x1 : Int32) (x2 : Int32) (s : S4) {res : Int32} (hq : sem_X4_ways x1 x2 s = some res) : MR l yX4_ways cX4_ways 3 (some .int) Δ (cs4 a Δ s) [.ref (a 0), .int x1, .int x2] 1 22 (.int res) := by
  refine MR.of (by decide) (Nat.le_of_ble_eq_true rfl) ?_
  intro Γ H hl C hK hP hR
  subst hl
  show g Γ { frames := 1, cells := 0, slots := 0, locals := 22 } 3 H [] 0 0 0 [(0, .ref (a 0)), (1, .int x1), (2, .int x2)] []
  refine g_iload_n C 1 rfl dX4_ways_0 1 rfl ?_
  refine g_iconst 0 C 2 rfl dX4_ways_1 ki_0 ?_
  refine g_bipush 63 C 4 rfl dX4_ways_2 kb_63 ?_
  obtain ⟨r1, hz2, hq⟩ := bindE hq
  refine g_callRS (rest := []) C 7 rfl dX4_ways_4 (c_X8_within Γ.2.1 Δ  x1 0 63  hz2) mv_X8_within (Or.inr ⟨_, mn_X4_47⟩) hK rfl rfl ⟨Nat.le_of_ble_eq_true rfl, Nat.le_of_ble_eq_true rfl⟩ (Nat.le_of_ble_eq_true rfl) ⟨Nat.zero_le _, Nat.zero_le _⟩ ?_
  refine s_if_eq C 34 10 rfl dX4_ways_7 (by decide) hq (fun hq => ?_) (fun hq => ?_)
  · refine g_iconst 0 C 35 rfl dX4_ways_34 ki_0 ?_
    exact r_int hR hq dX4_ways_35 rfl rfl
  refine g_iload_n C 11 rfl dX4_ways_10 2 rfl ?_
  refine g_iconst 0 C 12 rfl dX4_ways_11 ki_0 ?_
  refine g_bipush 6 C 14 rfl dX4_ways_12 kb_6 ?_
  obtain ⟨r3, hz4, hq⟩ := bindE hq
  refine g_callRS (rest := []) C 17 rfl dX4_ways_14 (c_X8_within Γ.2.1 Δ  x2 0 6  hz4) mv_X8_within (Or.inr ⟨_, mn_X4_47⟩) hK rfl rfl ⟨Nat.le_of_ble_eq_true rfl, Nat.le_of_ble_eq_true rfl⟩ (Nat.le_of_ble_eq_true rfl) ⟨Nat.zero_le _, Nat.zero_le _⟩ ?_
  refine s_if_eq C 34 20 rfl dX4_ways_17 (by decide) hq (fun hq => ?_) (fun hq => ?_)
  · refine g_iconst 0 C 35 rfl dX4_ways_34 ki_0 ?_
    exact r_int hR hq dX4_ways_35 rfl rfl
  refine g_aload_n C 21 rfl dX4_ways_20 0 rfl ?_
  refine g_get (v := .ref (a 1)) C 24 rfl dX4_ways_21 hK hP la_X4 0 0 (Nat.le_of_ble_eq_true rfl) fl_X4_11 rfl rfl rfl rfl ?_
  refine g_iload_n C 25 rfl dX4_ways_24 1 rfl ?_
  refine g_bipush 7 C 27 rfl dX4_ways_25 kb_7 ?_
  refine g_imul C 28 rfl dX4_ways_27 ?_
  refine g_iload_n C 29 rfl dX4_ways_28 2 rfl ?_
  refine g_iadd C 30 rfl dX4_ways_29 ?_
  refine s_iald C 31 rfl dX4_ways_30 hK hP 1 rfl hq (fun hq hi5 => ?_)
  refine g_goto C 35 dX4_ways_31 (by decide) ?_
  exact r_int hR hq dX4_ways_35 rfl rfl
set_option maxHeartbeats 4000000 in
set_option maxRecDepth 100000 in
theorem c_X4_waysBy (l : Launch) (Δ : gD) (a : Nat → Nat) (x1 : Int32) (x2 : Int32) (x3 : Int32) (s : S4) {res : Int32} (hq : sem_X4_waysBy x1 x2 x3 s = some res) : MR l yX4_waysBy cX4_waysBy 5 (some .int) Δ (cs4 a Δ s) [.ref (a 0), .int x1, .int x2, .int x3] 2 44 (.int res) := by
  refine MR.of (by decide) (Nat.le_of_ble_eq_true rfl) ?_
  intro Γ H hl C hK hP hR
  subst hl
  have K14 : ∀ (x1 : Int32) (x2 : Int32) (x3 : Int32) (y0 : Int32), jn_X4_waysBy_14 x1 x2 x3 y0 s = some res → g Γ { frames := 2, cells := 0, slots := 0, locals := 44 } 5 H [] 0 0 14 [(0, .ref (a 0)), (1, .int x1), (2, .int x2), (3, .int x3)] [.int y0] := by
    intro x1 x2 x3 y0 hq
    refine g_istore [(4, .int y0), (0, .ref (a 0)), (1, .int x1), (2, .int x2), (3, .int x3)] C 16 rfl dX4_waysBy_14 (Nat.le_of_ble_eq_true rfl) rfl ?_
    refine g_iload C 18 rfl dX4_waysBy_16 0 rfl ?_
    refine s_if_eq C 45 21 rfl dX4_waysBy_18 (by decide) hq (fun hq => ?_) (fun hq => ?_)
    · refine g_iconst 0 C 46 rfl dX4_waysBy_45 ki_0 ?_
      exact r_int hR hq dX4_waysBy_46 rfl rfl
    refine g_aload_n C 22 rfl dX4_waysBy_21 1 rfl ?_
    refine g_iload_n C 23 rfl dX4_waysBy_22 3 rfl ?_
    refine g_iload_n C 24 rfl dX4_waysBy_23 4 rfl ?_
    obtain ⟨r1, hz2, hq⟩ := bindE hq
    refine g_callRV (rest := []) C 27 rfl dX4_waysBy_24 (c_X4_canFollow Γ.2.1 Δ a x2 x3 s hz2) mv_X4_canFollow ml_X4_41 hK hP rfl rfl rfl rfl rfl ⟨Nat.le_of_ble_eq_true rfl, Nat.le_of_ble_eq_true rfl⟩ (Nat.le_of_ble_eq_true rfl) ⟨Nat.zero_le _, Nat.zero_le _⟩ ?_
    refine s_if_eq C 45 30 rfl dX4_waysBy_27 (by decide) hq (fun hq => ?_) (fun hq => ?_)
    · refine g_iconst 0 C 46 rfl dX4_waysBy_45 ki_0 ?_
      exact r_int hR hq dX4_waysBy_46 rfl rfl
    refine g_aload_n C 31 rfl dX4_waysBy_30 1 rfl ?_
    refine g_iload_n C 32 rfl dX4_waysBy_31 2 rfl ?_
    refine g_iconst 1 C 33 rfl dX4_waysBy_32 ki_1 ?_
    refine g_iload_n C 34 rfl dX4_waysBy_33 4 rfl ?_
    refine g_ishl C 35 rfl dX4_waysBy_34 ?_
    refine g_iconst (-1) C 36 rfl dX4_waysBy_35 ki_m1 ?_
    refine g_ixor C 37 rfl dX4_waysBy_36 ?_
    refine g_iand C 38 rfl dX4_waysBy_37 ?_
    refine g_iload_n C 39 rfl dX4_waysBy_38 4 rfl ?_
    obtain ⟨r3, hz4, hq⟩ := bindE hq
    refine g_callRV (rest := []) C 42 rfl dX4_waysBy_39 (c_X4_ways Γ.2.1 Δ a (x1 &&& (((1 : Int32) <<< (x3 &&& 31)) ^^^ (-1))) x3 s hz4) mv_X4_ways ml_X4_45 hK hP rfl rfl rfl rfl rfl ⟨Nat.le_of_ble_eq_true rfl, Nat.le_of_ble_eq_true rfl⟩ (Nat.le_of_ble_eq_true rfl) ⟨Nat.zero_le _, Nat.zero_le _⟩ ?_
    refine g_goto C 46 dX4_waysBy_42 (by decide) ?_
    exact r_int hR hq dX4_waysBy_46 rfl rfl
  show g Γ { frames := 2, cells := 0, slots := 0, locals := 44 } 5 H [] 0 0 0 [(0, .ref (a 0)), (1, .int x1), (2, .int x2), (3, .int x3)] []
  refine g_iload_n C 1 rfl dX4_waysBy_0 1 rfl ?_
  refine g_iload_n C 2 rfl dX4_waysBy_1 3 rfl ?_
  refine g_ishr C 3 rfl dX4_waysBy_2 ?_
  refine g_iconst 1 C 4 rfl dX4_waysBy_3 ki_1 ?_
  refine g_iand C 5 rfl dX4_waysBy_4 ?_
  refine g_iconst 1 C 6 rfl dX4_waysBy_5 ki_1 ?_
  refine s_icmp_ne C 13 9 rfl dX4_waysBy_6 (by decide) hq (fun hq => ?_) (fun hq => ?_)
  · refine g_iconst 0 C 14 rfl dX4_waysBy_13 ki_0 ?_
    exact g_sub [0, 1, 2, 3] rfl (K14 x1 x2 x3 0 hq)
  refine g_iconst 1 C 10 rfl dX4_waysBy_9 ki_1 ?_
  refine g_goto C 14 dX4_waysBy_10 (by decide) ?_
  exact g_sub [0, 1, 2, 3] rfl (K14 x1 x2 x3 1 hq)
set_option maxHeartbeats 4000000 in
set_option maxRecDepth 100000 in
theorem c_X4_waysOn (l : Launch) (Δ : gD) (a : Nat → Nat) (x1 : Int32) (x2 : Int32) (s : S4) {res : Int32} (hq : sem_X4_waysOn x1 x2 s = some res) : MR l yX4_waysOn cX4_waysOn 5 (some .int) Δ (cs4 a Δ s) [.ref (a 0), .int x1, .int x2] 3 68 (.int res) := by
  refine MR.of (by decide) (Nat.le_of_ble_eq_true rfl) ?_
  intro Γ H hl C hK hP hR
  subst hl
  show g Γ { frames := 3, cells := 0, slots := 0, locals := 68 } 5 H [] 0 0 0 [(0, .ref (a 0)), (1, .int x1), (2, .int x2)] []
  refine g_iconst 0 C 1 rfl dX4_waysOn_0 ki_0 ?_
  refine g_istore_n [(3, .int 0), (0, .ref (a 0)), (1, .int x1), (2, .int x2)] C 2 rfl dX4_waysOn_1 (Nat.le_of_ble_eq_true rfl) rfl ?_
  refine g_iconst 0 C 3 rfl dX4_waysOn_2 ki_0 ?_
  refine g_istore [(4, .int 0), (3, .int 0), (0, .ref (a 0)), (1, .int x1), (2, .int x2)] C 5 rfl dX4_waysOn_3 (Nat.le_of_ble_eq_true rfl) rfl ?_
  have Q5 : ∀ (x1 : Int32) (x2 : Int32), ∀ (n : Nat) (x3 : Int32) (x4 : Int32) (o : (Int32)) (hq : lp_X4_waysOn_5 x1 x2 s n x3 x4 = some o) (E2 : g Γ { frames := 3, cells := 0, slots := 0, locals := 68 } 5 H [] 0 0 29 [(3, .int o)] []), g Γ { frames := 3, cells := 0, slots := 0, locals := 68 } 5 H [] 0 0 5 [(0, .ref (a 0)), (1, .int x1), (2, .int x2), (3, .int x3), (4, .int x4)] [] := by
    intro x1 x2
    intro n
    induction n with
    | zero => intro x3 x4 o hq; exact nomatch (show (none : Option (Int32)) = some o from hq)
    | succ n ih =>
      intro x3 x4 o hq E2
      have hq : bd_X4_waysOn_5 x1 x2 s (lp_X4_waysOn_5 x1 x2 s n) x3 x4 = some o := hq
      refine g_iload C 7 rfl dX4_waysOn_5 4 rfl ?_
      refine g_bipush 6 C 9 rfl dX4_waysOn_7 kb_6 ?_
      refine s_icmp_ge C 29 12 rfl dX4_waysOn_9 (by decide) hq (fun hq => ?_) (fun hq => ?_)
      · cases hq
        exact g_sub [3] rfl (E2 )
      refine g_iload_n C 13 rfl dX4_waysOn_12 3 rfl ?_
      refine g_aload_n C 14 rfl dX4_waysOn_13 0 rfl ?_
      refine g_iload_n C 15 rfl dX4_waysOn_14 1 rfl ?_
      refine g_iload_n C 16 rfl dX4_waysOn_15 2 rfl ?_
      refine g_iload C 18 rfl dX4_waysOn_16 4 rfl ?_
      obtain ⟨r1, hz2, hq⟩ := bindE hq
      refine g_callRV (rest := [.int x3]) C 21 rfl dX4_waysOn_18 (c_X4_waysBy Γ.2.1 Δ a x1 x2 x4 s hz2) mv_X4_waysBy ml_X4_37 hK hP rfl rfl rfl rfl rfl ⟨Nat.le_of_ble_eq_true rfl, Nat.le_of_ble_eq_true rfl⟩ (Nat.le_of_ble_eq_true rfl) ⟨Nat.zero_le _, Nat.zero_le _⟩ ?_
      refine g_iadd C 22 rfl dX4_waysOn_21 ?_
      refine g_istore_n [(3, .int (x3 + r1)), (0, .ref (a 0)), (1, .int x1), (2, .int x2), (4, .int x4)] C 23 rfl dX4_waysOn_22 (Nat.le_of_ble_eq_true rfl) rfl ?_
      refine g_iinc (x4 + 1) [(4, .int (x4 + 1)), (3, .int (x3 + r1)), (0, .ref (a 0)), (1, .int x1), (2, .int x2)] C 26 rfl dX4_waysOn_23 4 rfl (ii_1 _) (Nat.le_of_ble_eq_true rfl) rfl ?_
      refine g_goto C 5 dX4_waysOn_26 (by decide) ?_
      exact g_sub [2, 3, 4, 1, 0] rfl (ih (x3 + r1) (x4 + 1) _ hq E2)
  obtain ⟨o3, ho4, hq⟩ := bindE hq
  refine g_sub [2, 3, 4, 1, 0] rfl (Q5 x1 x2 FUEL 0 0 o3 ho4 (?_))
  refine g_iload_n C 30 rfl dX4_waysOn_29 0 rfl ?_
  exact r_int hR hq dX4_waysOn_30 rfl rfl
set_option maxHeartbeats 4000000 in
set_option maxRecDepth 100000 in
theorem c_X4_reckon (l : Launch) (Δ : gD) (a : Nat → Nat) (b : Nat → Nat) (x2 : Int32) (s : S4) (o : S6) {res : S4} (hq : sem_X4_reckon x2 s o = some res) : MW l yX4_reckon cX4_reckon 6 none Δ (cs4 a Δ s ++ cs6 b Δ o) [.ref (a 0), .ref (b 0), .int x2] 4 92 none (cs4 a Δ res ++ cs6 b Δ o) := by
  refine MW.of (by decide) (Nat.le_of_ble_eq_true rfl) ?_
  intro Γ A H hl C hK hP hD hS hA hR
  subst hl
  show g Γ { frames := 4, cells := 0, slots := 0, locals := 92 } 6 H [] 0 0 0 [(0, .ref (a 0)), (1, .ref (b 0)), (2, .int x2)] []
  refine g_aload_n C 1 rfl dX4_reckon_0 0 rfl ?_
  refine g_iload_n C 2 rfl dX4_reckon_1 2 rfl ?_
  refine g_put (cs4 a Δ (p4_most s x2) ++ cs6 b Δ o) C 5 rfl dX4_reckon_2 hK hP hD hS la_X4 tyX4_ok nmX4 0 2 (Nat.le_of_ble_eq_true rfl) fl_X4_18 rfl rfl rfl rfl rfl rfl (Nat.le_of_ble_eq_true rfl) rfl (fun H L hP hD hS => ?_)
  refine g_aload_n C 6 rfl dX4_reckon_5 0 rfl ?_
  refine g_aload_n C 7 rfl dX4_reckon_6 1 rfl ?_
  refine g_get (v := .int (x6_there o)) C 10 rfl dX4_reckon_7 hK hP la_X6 3 2 (Nat.le_of_ble_eq_true rfl) fl_X4_25 rfl rfl rfl rfl ?_
  refine g_put (cs4 a Δ (p4_everybody (p4_most s x2) (x6_there o)) ++ cs6 b Δ o) C 13 rfl dX4_reckon_10 hK hP hD hS la_X4 tyX4_ok nmX4 0 3 (Nat.le_of_ble_eq_true rfl) fl_X4_22 rfl rfl rfl rfl rfl rfl (Nat.le_of_ble_eq_true rfl) rfl (fun H L hP hD hS => ?_)
  refine g_iconst 0 C 14 rfl dX4_reckon_13 ki_0 ?_
  refine g_istore_n [(3, .int 0), (0, .ref (a 0)), (1, .ref (b 0)), (2, .int x2)] C 15 rfl dX4_reckon_14 (Nat.le_of_ble_eq_true rfl) rfl ?_
  have Q15 : ∀ (n : Nat) (x3 : Int32) (s : S4) (o : (S4)) (H : Heap) (L : List Loc) (hP : va_P Δ.1 classes (cs4 a Δ s ++ cs6 b Δ o) H) (hD : va_D A (cs4 a Δ s ++ cs6 b Δ o)) (hS : va_S A (sOf Γ).heap H L) (hq : lp_X4_reckon_15 o n x3 s = some o) (E2 : ∀ (H : Heap) (L : List Loc), va_P Δ.1 classes (cs4 a Δ o ++ cs6 b Δ o) H → va_D A (cs4 a Δ o ++ cs6 b Δ o) → va_S A (sOf Γ).heap H L → g Γ { frames := 4, cells := 0, slots := 0, locals := 92 } 6 H L 0 0 39 [(0, .ref (a 0))] []), g Γ { frames := 4, cells := 0, slots := 0, locals := 92 } 6 H L 0 0 15 [(0, .ref (a 0)), (1, .ref (b 0)), (3, .int x3)] [] := by
    intro n
    induction n with
    | zero => intro x3 s o H L hP hD hS hq; exact nomatch (show (none : Option (S4)) = some o from hq)
    | succ n ih =>
      intro x3 s o H L hP hD hS hq E2
      have hq : bd_X4_reckon_15 o (lp_X4_reckon_15 o n) x3 s = some o := hq
      refine g_iload_n C 16 rfl dX4_reckon_15 2 rfl ?_
      refine g_bipush 6 C 18 rfl dX4_reckon_16 kb_6 ?_
      refine s_icmp_ge C 39 21 rfl dX4_reckon_18 (by decide) hq (fun hq => ?_) (fun hq => ?_)
      · cases hq
        exact g_sub [0] rfl (E2 _ _ hP hD hS)
      refine g_aload_n C 22 rfl dX4_reckon_21 0 rfl ?_
      refine g_get (v := .ref (a 2)) C 25 rfl dX4_reckon_22 hK hP la_X4 0 1 (Nat.le_of_ble_eq_true rfl) fl_X4_15 rfl rfl rfl rfl ?_
      refine g_iload_n C 26 rfl dX4_reckon_25 2 rfl ?_
      refine g_aload_n C 27 rfl dX4_reckon_26 1 rfl ?_
      refine g_iload_n C 28 rfl dX4_reckon_27 2 rfl ?_
      refine g_iconst 0 C 29 rfl dX4_reckon_28 ki_0 ?_
      obtain ⟨r1, hz2, hq⟩ := bindE hq
      refine g_callRV (rest := [.int x3, .ref (a 2)]) C 32 rfl dX4_reckon_29 (c_X6_get Γ.2.1 Δ b x3 0 o hz2) mv_X6_get ml_X4_30 hK (va_P_cut hP [3, 4, 5] rfl) rfl rfl rfl rfl rfl ⟨Nat.le_of_ble_eq_true rfl, Nat.le_of_ble_eq_true rfl⟩ (Nat.le_of_ble_eq_true rfl) ⟨Nat.zero_le _, Nat.zero_le _⟩ ?_
      refine s_iast (cs4 a Δ (p4_tempers s (upd (x4_tempers s) (x3 : Int32).toNatClampNeg r1)) ++ cs6 b Δ o) C 33 rfl dX4_reckon_32 hK hP hD hS 2 rfl hq rfl (fun hq hi3 H L hP hD hS => ?_)
      refine g_iinc (x3 + 1) [(3, .int (x3 + 1)), (0, .ref (a 0)), (1, .ref (b 0))] C 36 rfl dX4_reckon_33 2 rfl (ii_1 _) (Nat.le_of_ble_eq_true rfl) rfl ?_
      refine g_goto C 15 dX4_reckon_36 (by decide) ?_
      exact g_sub [1, 2, 0] rfl (ih (x3 + 1) (p4_tempers s (upd (x4_tempers s) (x3 : Int32).toNatClampNeg r1)) _ _ _ hP hD hS hq E2)
  obtain ⟨o4, ho5, hq⟩ := bindE hq
  refine g_sub [1, 2, 0] rfl (Q15  FUEL 0 (p4_everybody (p4_most s x2) (x6_there o)) o4 _ _ hP hD hS ho5 (fun H L hP hD hS => ?_))
  refine g_iconst 0 C 40 rfl dX4_reckon_39 ki_0 ?_
  refine g_istore_n [(3, .int 0), (0, .ref (a 0))] C 41 rfl dX4_reckon_40 (Nat.le_of_ble_eq_true rfl) rfl ?_
  have Q41 : ∀ (n : Nat) (x3 : Int32) (s : S4) (o : (S4)) (H : Heap) (L : List Loc) (hP : va_P Δ.1 classes (cs4 a Δ s ++ cs6 b Δ o) H) (hD : va_D A (cs4 a Δ s ++ cs6 b Δ o)) (hS : va_S A (sOf Γ).heap H L) (hq : lp_X4_reckon_41 o n x3 s = some o) (E2 : ∀ (H : Heap) (L : List Loc), va_P Δ.1 classes (cs4 a Δ o ++ cs6 b Δ o) H → va_D A (cs4 a Δ o ++ cs6 b Δ o) → va_S A (sOf Γ).heap H L → g Γ { frames := 4, cells := 0, slots := 0, locals := 92 } 6 H L 0 0 119 [] []), g Γ { frames := 4, cells := 0, slots := 0, locals := 92 } 6 H L 0 0 41 [(0, .ref (a 0)), (3, .int x3)] [] := by
    intro n
    induction n with
    | zero => intro x3 s o H L hP hD hS hq; exact nomatch (show (none : Option (S4)) = some o from hq)
    | succ n ih =>
      intro x3 s o H L hP hD hS hq E2
      have hq : bd_X4_reckon_41 o (lp_X4_reckon_41 o n) x3 s = some o := hq
      have K63 : ∀ (x3 : Int32) (y0 : Int32) (s : S4) (H : Heap) (L : List Loc) (hP : va_P Δ.1 classes (cs4 a Δ s ++ cs6 b Δ o) H) (hD : va_D A (cs4 a Δ s ++ cs6 b Δ o)) (hS : va_S A (sOf Γ).heap H L), jn_X4_reckon_63 (lp_X4_reckon_41 o n) x3 y0 s o = some o → g Γ { frames := 4, cells := 0, slots := 0, locals := 92 } 6 H L 0 0 63 [(0, .ref (a 0)), (3, .int x3)] [.int y0] := by
        intro x3 y0 s H L hP hD hS hq
        refine g_istore [(4, .int y0), (0, .ref (a 0)), (3, .int x3)] C 65 rfl dX4_reckon_63 (Nat.le_of_ble_eq_true rfl) rfl ?_
        refine g_iconst 0 C 66 rfl dX4_reckon_65 ki_0 ?_
        refine g_istore [(5, .int 0), (4, .int y0), (0, .ref (a 0)), (3, .int x3)] C 68 rfl dX4_reckon_66 (Nat.le_of_ble_eq_true rfl) rfl ?_
        have Q68 : ∀ (x3 : Int32) (x4 : Int32), ∀ (n : Nat) (x5 : Int32) (s : S4) (o : (S4)) (H : Heap) (L : List Loc) (hP : va_P Δ.1 classes (cs4 a Δ s ++ cs6 b Δ o) H) (hD : va_D A (cs4 a Δ s ++ cs6 b Δ o)) (hS : va_S A (sOf Γ).heap H L) (hq : lp_X4_reckon_68 x3 x4 o n x5 s = some o) (E2 : ∀ (H : Heap) (L : List Loc), va_P Δ.1 classes (cs4 a Δ o ++ cs6 b Δ o) H → va_D A (cs4 a Δ o ++ cs6 b Δ o) → va_S A (sOf Γ).heap H L → g Γ { frames := 4, cells := 0, slots := 0, locals := 92 } 6 H L 0 0 113 [(0, .ref (a 0)), (3, .int x3)] []), g Γ { frames := 4, cells := 0, slots := 0, locals := 92 } 6 H L 0 0 68 [(0, .ref (a 0)), (3, .int x3), (4, .int x4), (5, .int x5)] [] := by
          intro x3 x4
          intro n
          induction n with
          | zero => intro x5 s o H L hP hD hS hq; exact nomatch (show (none : Option (S4)) = some o from hq)
          | succ n ih =>
            intro x5 s o H L hP hD hS hq E2
            have hq : bd_X4_reckon_68 x3 x4 o (lp_X4_reckon_68 x3 x4 o n) x5 s = some o := hq
            refine g_iload C 70 rfl dX4_reckon_68 2 rfl ?_
            refine s_if_eq C 113 73 rfl dX4_reckon_70 (by decide) hq (fun hq => ?_) (fun hq => ?_)
            · cases hq
              exact g_sub [0, 1] rfl (E2 _ _ hP hD hS)
            refine g_iload C 75 rfl dX4_reckon_73 3 rfl ?_
            refine g_bipush 7 C 77 rfl dX4_reckon_75 kb_7 ?_
            refine s_icmp_ge C 113 80 rfl dX4_reckon_77 (by decide) hq (fun hq => ?_) (fun hq => ?_)
            · cases hq
              exact g_sub [0, 1] rfl (E2 _ _ hP hD hS)
            refine g_aload_n C 81 rfl dX4_reckon_80 0 rfl ?_
            refine g_get (v := .ref (a 1)) C 84 rfl dX4_reckon_81 hK hP la_X4 0 0 (Nat.le_of_ble_eq_true rfl) fl_X4_11 rfl rfl rfl rfl ?_
            refine g_iload_n C 85 rfl dX4_reckon_84 1 rfl ?_
            refine g_bipush 7 C 87 rfl dX4_reckon_85 kb_7 ?_
            refine g_imul C 88 rfl dX4_reckon_87 ?_
            refine g_iload C 90 rfl dX4_reckon_88 3 rfl ?_
            refine g_iadd C 91 rfl dX4_reckon_90 ?_
            refine g_iload_n C 92 rfl dX4_reckon_91 1 rfl ?_
            refine s_if_ne C 99 95 rfl dX4_reckon_92 (by decide) hq (fun hq => ?_) (fun hq => ?_)
            rotate_left
            · refine g_iconst 1 C 96 rfl dX4_reckon_95 ki_1 ?_
              refine g_goto C 106 dX4_reckon_96 (by decide) ?_
              refine s_iast (cs4 a Δ (p4_ways s (upd (x4_ways s) (((x3 * 7) + x5) : Int32).toNatClampNeg 1)) ++ cs6 b Δ o) C 107 rfl dX4_reckon_106 hK hP hD hS 1 rfl hq rfl (fun hq hi9 H L hP hD hS => ?_)
              refine g_iinc (x5 + 1) [(5, .int (x5 + 1)), (0, .ref (a 0)), (3, .int x3), (4, .int x4)] C 110 rfl dX4_reckon_107 3 rfl (ii_1 _) (Nat.le_of_ble_eq_true rfl) rfl ?_
              refine g_goto C 68 dX4_reckon_110 (by decide) ?_
              exact g_sub [1, 2, 3, 0] rfl (ih (x5 + 1) (p4_ways s (upd (x4_ways s) (((x3 * 7) + x5) : Int32).toNatClampNeg 1)) _ _ _ hP hD hS hq E2)
            refine g_aload_n C 100 rfl dX4_reckon_99 0 rfl ?_
            refine g_iload_n C 101 rfl dX4_reckon_100 1 rfl ?_
            refine g_iload C 103 rfl dX4_reckon_101 3 rfl ?_
            obtain ⟨r6, hz7, hq⟩ := bindE hq
            refine g_callRV (rest := [.int ((x3 * 7) + x5), .ref (a 1)]) C 106 rfl dX4_reckon_103 (c_X4_waysOn Γ.2.1 Δ a x3 x5 s hz7) mv_X4_waysOn ml_X4_34 hK (va_P_cut hP [0, 1, 2] rfl) rfl rfl rfl rfl rfl ⟨Nat.le_of_ble_eq_true rfl, Nat.le_of_ble_eq_true rfl⟩ (Nat.le_of_ble_eq_true rfl) ⟨Nat.zero_le _, Nat.zero_le _⟩ ?_
            refine s_iast (cs4 a Δ (p4_ways s (upd (x4_ways s) (((x3 * 7) + x5) : Int32).toNatClampNeg r6)) ++ cs6 b Δ o) C 107 rfl dX4_reckon_106 hK hP hD hS 1 rfl hq rfl (fun hq hi8 H L hP hD hS => ?_)
            refine g_iinc (x5 + 1) [(5, .int (x5 + 1)), (0, .ref (a 0)), (3, .int x3), (4, .int x4)] C 110 rfl dX4_reckon_107 3 rfl (ii_1 _) (Nat.le_of_ble_eq_true rfl) rfl ?_
            refine g_goto C 68 dX4_reckon_110 (by decide) ?_
            exact g_sub [1, 2, 3, 0] rfl (ih (x5 + 1) (p4_ways s (upd (x4_ways s) (((x3 * 7) + x5) : Int32).toNatClampNeg r6)) _ _ _ hP hD hS hq E2)
        obtain ⟨o10, ho11, hq⟩ := bindE hq
        refine g_sub [2, 3, 1, 0] rfl (Q68 x3 y0 FUEL 0 s o10 _ _ hP hD hS ho11 (fun H L hP hD hS => ?_))
        refine g_iinc (x3 + 1) [(3, .int (x3 + 1)), (0, .ref (a 0))] C 116 rfl dX4_reckon_113 1 rfl (ii_1 _) (Nat.le_of_ble_eq_true rfl) rfl ?_
        refine g_goto C 41 dX4_reckon_116 (by decide) ?_
        exact g_sub [1, 0] rfl (ih (x3 + 1) o10 _ _ _ hP hD hS hq E2)
      refine g_iload_n C 42 rfl dX4_reckon_41 1 rfl ?_
      refine g_bipush 64 C 44 rfl dX4_reckon_42 kb_64 ?_
      refine s_icmp_ge C 119 47 rfl dX4_reckon_44 (by decide) hq (fun hq => ?_) (fun hq => ?_)
      · cases hq
        exact g_sub [] rfl (E2 _ _ hP hD hS)
      refine g_iload_n C 48 rfl dX4_reckon_47 1 rfl ?_
      refine g_aload_n C 49 rfl dX4_reckon_48 0 rfl ?_
      refine g_get (v := .int (x4_everybody s)) C 52 rfl dX4_reckon_49 hK hP la_X4 0 3 (Nat.le_of_ble_eq_true rfl) fl_X4_22 rfl rfl rfl rfl ?_
      refine g_iconst (-1) C 53 rfl dX4_reckon_52 ki_m1 ?_
      refine g_ixor C 54 rfl dX4_reckon_53 ?_
      refine g_iand C 55 rfl dX4_reckon_54 ?_
      refine s_if_ne C 62 58 rfl dX4_reckon_55 (by decide) hq (fun hq => ?_) (fun hq => ?_)
      · refine g_iconst 0 C 63 rfl dX4_reckon_62 ki_0 ?_
        exact g_sub [0, 1] rfl (K63 x3 0 s _ _ hP hD hS hq)
      refine g_iconst 1 C 59 rfl dX4_reckon_58 ki_1 ?_
      refine g_goto C 63 dX4_reckon_59 (by decide) ?_
      exact g_sub [0, 1] rfl (K63 x3 1 s _ _ hP hD hS hq)
  obtain ⟨o12, ho13, hq⟩ := bindE hq
  refine g_sub [1, 0] rfl (Q41  FUEL 0 o4 o12 _ _ hP hD hS ho13 (fun H L hP hD hS => ?_))
  exact w_void (ws := fun s => cs4 a Δ s ++ cs6 b Δ o) hR hq hP hS dX4_reckon_119 rfl
set_option maxHeartbeats 4000000 in
set_option maxRecDepth 100000 in
theorem c_X4_rows (l : Launch) (Δ : gD) (a : Nat → Nat)  (s : S4) {res : Int32} (hq : sem_X4_rows  s = some res) : MR l yX4_rows cX4_rows 1 (some .int) Δ (cs4 a Δ s) [.ref (a 0)] 2 44 (.int res) := by
  refine MR.of (by decide) (Nat.le_of_ble_eq_true rfl) ?_
  intro Γ H hl C hK hP hR
  subst hl
  show g Γ { frames := 2, cells := 0, slots := 0, locals := 44 } 1 H [] 0 0 0 [(0, .ref (a 0))] []
  refine g_aload_n C 1 rfl dX4_rows_0 0 rfl ?_
  refine g_aload_n C 2 rfl dX4_rows_1 0 rfl ?_
  refine g_get (v := .int (x4_everybody s)) C 5 rfl dX4_rows_2 hK hP la_X4 0 3 (Nat.le_of_ble_eq_true rfl) fl_X4_22 rfl rfl rfl rfl ?_
  refine g_bipush 6 C 7 rfl dX4_rows_5 kb_6 ?_
  obtain ⟨r1, hz2, hq⟩ := bindE hq
  refine g_callRV (rest := []) C 10 rfl dX4_rows_7 (c_X4_ways Γ.2.1 Δ a (x4_everybody s) 6 s hz2) mv_X4_ways ml_X4_45 hK hP rfl rfl rfl rfl rfl ⟨Nat.le_of_ble_eq_true rfl, Nat.le_of_ble_eq_true rfl⟩ (Nat.le_of_ble_eq_true rfl) ⟨Nat.zero_le _, Nat.zero_le _⟩ ?_
  exact r_int hR hq dX4_rows_10 rfl rfl
set_option maxHeartbeats 4000000 in
set_option maxRecDepth 100000 in
theorem c_X4_firstRow (l : Launch) (Δ : gD) (a : Nat → Nat)  (s : S4) {res : Int32} (hq : sem_X4_firstRow  s = some res) : MR l yX4_firstRow cX4_firstRow 6 (some .int) Δ (cs4 a Δ s) [.ref (a 0)] 3 68 (.int res) := by
  refine MR.of (by decide) (Nat.le_of_ble_eq_true rfl) ?_
  intro Γ H hl C hK hP hR
  subst hl
  show g Γ { frames := 3, cells := 0, slots := 0, locals := 68 } 6 H [] 0 0 0 [(0, .ref (a 0))] []
  refine g_aload_n C 1 rfl dX4_firstRow_0 0 rfl ?_
  obtain ⟨r1, hz2, hq⟩ := bindE hq
  refine g_callRV (rest := []) C 4 rfl dX4_firstRow_1 (c_X4_rows Γ.2.1 Δ a  s hz2) mv_X4_rows ml_X4_51 hK hP rfl rfl rfl rfl rfl ⟨Nat.le_of_ble_eq_true rfl, Nat.le_of_ble_eq_true rfl⟩ (Nat.le_of_ble_eq_true rfl) ⟨Nat.zero_le _, Nat.zero_le _⟩ ?_
  refine s_if_ne C 10 7 rfl dX4_firstRow_4 (by decide) hq (fun hq => ?_) (fun hq => ?_)
  rotate_left
  · refine g_bipush (-6) C 9 rfl dX4_firstRow_7 kb_m6 ?_
    exact r_int hR hq dX4_firstRow_9 rfl rfl
  refine g_iconst 0 C 11 rfl dX4_firstRow_10 ki_0 ?_
  refine g_istore_n [(1, .int 0), (0, .ref (a 0))] C 12 rfl dX4_firstRow_11 (Nat.le_of_ble_eq_true rfl) rfl ?_
  refine g_aload_n C 13 rfl dX4_firstRow_12 1 rfl ?_
  refine g_get (v := .int (x4_everybody s)) C 16 rfl dX4_firstRow_13 hK hP la_X4 0 3 (Nat.le_of_ble_eq_true rfl) fl_X4_22 rfl rfl rfl rfl ?_
  refine g_istore_n [(2, .int (x4_everybody s)), (1, .int 0), (0, .ref (a 0))] C 17 rfl dX4_firstRow_16 (Nat.le_of_ble_eq_true rfl) rfl ?_
  refine g_bipush 6 C 19 rfl dX4_firstRow_17 kb_6 ?_
  refine g_istore_n [(3, .int 6), (2, .int (x4_everybody s)), (1, .int 0), (0, .ref (a 0))] C 20 rfl dX4_firstRow_19 (Nat.le_of_ble_eq_true rfl) rfl ?_
  refine g_iconst 0 C 21 rfl dX4_firstRow_20 ki_0 ?_
  refine g_istore [(4, .int 0), (3, .int 6), (2, .int (x4_everybody s)), (1, .int 0), (0, .ref (a 0))] C 23 rfl dX4_firstRow_21 (Nat.le_of_ble_eq_true rfl) rfl ?_
  have Q23 : ∀ (n : Nat) (x1 : Int32) (x2 : Int32) (x3 : Int32) (x4 : Int32) (o : (Int32)) (hq : lp_X4_firstRow_23 s n x1 x2 x3 x4 = some o) (E2 : g Γ { frames := 3, cells := 0, slots := 0, locals := 68 } 6 H [] 0 0 86 [(1, .int o)] []), g Γ { frames := 3, cells := 0, slots := 0, locals := 68 } 6 H [] 0 0 23 [(0, .ref (a 0)), (1, .int x1), (2, .int x2), (3, .int x3), (4, .int x4)] [] := by
    intro n
    induction n with
    | zero => intro x1 x2 x3 x4 o hq; exact nomatch (show (none : Option (Int32)) = some o from hq)
    | succ n ih =>
      intro x1 x2 x3 x4 o hq E2
      have hq : bd_X4_firstRow_23 s (lp_X4_firstRow_23 s n) x1 x2 x3 x4 = some o := hq
      have K60 : ∀ (x1 : Int32) (x2 : Int32) (x4 : Int32) (x5 : Int32), jn_X4_firstRow_60 (lp_X4_firstRow_23 s n) x1 x2 x4 x5 s = some o → g Γ { frames := 3, cells := 0, slots := 0, locals := 68 } 6 H [] 0 0 60 [(0, .ref (a 0)), (1, .int x1), (2, .int x2), (4, .int x4), (5, .int x5)] [] := by
        intro x1 x2 x4 x5 hq
        refine g_bipush 10 C 62 rfl dX4_firstRow_60 kb_10 ?_
        refine g_iload_n C 63 rfl dX4_firstRow_62 1 rfl ?_
        refine g_imul C 64 rfl dX4_firstRow_63 ?_
        refine g_iload C 66 rfl dX4_firstRow_64 4 rfl ?_
        refine g_iadd C 67 rfl dX4_firstRow_66 ?_
        refine g_istore_n [(1, .int ((10 * x1) + x5)), (0, .ref (a 0)), (2, .int x2), (4, .int x4), (5, .int x5)] C 68 rfl dX4_firstRow_67 (Nat.le_of_ble_eq_true rfl) rfl ?_
        refine g_iload_n C 69 rfl dX4_firstRow_68 2 rfl ?_
        refine g_iconst 1 C 70 rfl dX4_firstRow_69 ki_1 ?_
        refine g_iload C 72 rfl dX4_firstRow_70 4 rfl ?_
        refine g_ishl C 73 rfl dX4_firstRow_72 ?_
        refine g_iconst (-1) C 74 rfl dX4_firstRow_73 ki_m1 ?_
        refine g_ixor C 75 rfl dX4_firstRow_74 ?_
        refine g_iand C 76 rfl dX4_firstRow_75 ?_
        refine g_istore_n [(2, .int (x2 &&& (((1 : Int32) <<< (x5 &&& 31)) ^^^ (-1)))), (1, .int ((10 * x1) + x5)), (0, .ref (a 0)), (4, .int x4), (5, .int x5)] C 77 rfl dX4_firstRow_76 (Nat.le_of_ble_eq_true rfl) rfl ?_
        refine g_iload C 79 rfl dX4_firstRow_77 4 rfl ?_
        refine g_istore_n [(3, .int x5), (2, .int (x2 &&& (((1 : Int32) <<< (x5 &&& 31)) ^^^ (-1)))), (1, .int ((10 * x1) + x5)), (0, .ref (a 0)), (4, .int x4), (5, .int x5)] C 80 rfl dX4_firstRow_79 (Nat.le_of_ble_eq_true rfl) rfl ?_
        refine g_iinc (x4 + 1) [(4, .int (x4 + 1)), (3, .int x5), (2, .int (x2 &&& (((1 : Int32) <<< (x5 &&& 31)) ^^^ (-1)))), (1, .int ((10 * x1) + x5)), (0, .ref (a 0)), (5, .int x5)] C 83 rfl dX4_firstRow_80 4 rfl (ii_1 _) (Nat.le_of_ble_eq_true rfl) rfl ?_
        refine g_goto C 23 dX4_firstRow_83 (by decide) ?_
        exact g_sub [4, 3, 2, 1, 0] rfl (ih ((10 * x1) + x5) (x2 &&& (((1 : Int32) <<< (x5 &&& 31)) ^^^ (-1))) x5 (x4 + 1) _ hq E2)
      refine g_iload C 25 rfl dX4_firstRow_23 4 rfl ?_
      refine g_bipush 6 C 27 rfl dX4_firstRow_25 kb_6 ?_
      refine s_icmp_ge C 86 30 rfl dX4_firstRow_27 (by decide) hq (fun hq => ?_) (fun hq => ?_)
      · cases hq
        exact g_sub [1] rfl (E2 )
      refine g_iload_n C 31 rfl dX4_firstRow_30 2 rfl ?_
      refine s_if_eq C 86 34 rfl dX4_firstRow_31 (by decide) hq (fun hq => ?_) (fun hq => ?_)
      · cases hq
        exact g_sub [1] rfl (E2 )
      refine g_iconst 0 C 35 rfl dX4_firstRow_34 ki_0 ?_
      refine g_istore [(5, .int 0), (0, .ref (a 0)), (1, .int x1), (2, .int x2), (3, .int x3), (4, .int x4)] C 37 rfl dX4_firstRow_35 (Nat.le_of_ble_eq_true rfl) rfl ?_
      have Q37 : ∀ (x1 : Int32) (x2 : Int32) (x3 : Int32) (x4 : Int32), ∀ (n : Nat) (x5 : Int32) (o : (Int32)) (hq : lp_X4_firstRow_37 x1 x2 x3 x4 s n x5 = some o) (E2 : g Γ { frames := 3, cells := 0, slots := 0, locals := 68 } 6 H [] 0 0 60 [(0, .ref (a 0)), (1, .int x1), (2, .int x2), (4, .int x4), (5, .int o)] []), g Γ { frames := 3, cells := 0, slots := 0, locals := 68 } 6 H [] 0 0 37 [(0, .ref (a 0)), (1, .int x1), (2, .int x2), (3, .int x3), (4, .int x4), (5, .int x5)] [] := by
        intro x1 x2 x3 x4
        intro n
        induction n with
        | zero => intro x5 o hq; exact nomatch (show (none : Option (Int32)) = some o from hq)
        | succ n ih =>
          intro x5 o hq E2
          have hq : bd_X4_firstRow_37 x1 x2 x3 x4 s (lp_X4_firstRow_37 x1 x2 x3 x4 s n) x5 = some o := hq
          refine g_iload C 39 rfl dX4_firstRow_37 5 rfl ?_
          refine g_iconst 5 C 40 rfl dX4_firstRow_39 ki_5 ?_
          refine s_icmp_ge C 60 43 rfl dX4_firstRow_40 (by decide) hq (fun hq => ?_) (fun hq => ?_)
          · cases hq
            exact g_sub [0, 1, 2, 4, 5] rfl (E2 )
          refine g_aload_n C 44 rfl dX4_firstRow_43 0 rfl ?_
          refine g_iload_n C 45 rfl dX4_firstRow_44 2 rfl ?_
          refine g_iload_n C 46 rfl dX4_firstRow_45 3 rfl ?_
          refine g_iload C 48 rfl dX4_firstRow_46 5 rfl ?_
          obtain ⟨r3, hz4, hq⟩ := bindE hq
          refine g_callRV (rest := []) C 51 rfl dX4_firstRow_48 (c_X4_waysBy Γ.2.1 Δ a x2 x3 x5 s hz4) mv_X4_waysBy ml_X4_37 hK hP rfl rfl rfl rfl rfl ⟨Nat.le_of_ble_eq_true rfl, Nat.le_of_ble_eq_true rfl⟩ (Nat.le_of_ble_eq_true rfl) ⟨Nat.zero_le _, Nat.zero_le _⟩ ?_
          refine s_if_ne C 60 54 rfl dX4_firstRow_51 (by decide) hq (fun hq => ?_) (fun hq => ?_)
          · cases hq
            exact g_sub [0, 1, 2, 4, 5] rfl (E2 )
          refine g_iinc (x5 + 1) [(5, .int (x5 + 1)), (0, .ref (a 0)), (1, .int x1), (2, .int x2), (3, .int x3), (4, .int x4)] C 57 rfl dX4_firstRow_54 5 rfl (ii_1 _) (Nat.le_of_ble_eq_true rfl) rfl ?_
          refine g_goto C 37 dX4_firstRow_57 (by decide) ?_
          exact g_sub [1, 2, 3, 4, 5, 0] rfl (ih (x5 + 1) _ hq E2)
      obtain ⟨o5, ho6, hq⟩ := bindE hq
      refine g_sub [1, 2, 3, 4, 5, 0] rfl (Q37 x1 x2 x3 x4 FUEL 0 o5 ho6 (?_))
      exact g_sub [0, 1, 2, 3, 4] rfl (K60 x1 x2 x4 o5 hq)
  obtain ⟨o7, ho8, hq⟩ := bindE hq
  refine g_sub [4, 3, 2, 1, 0] rfl (Q23  FUEL 0 (x4_everybody s) 6 0 o7 ho8 (?_))
  refine g_iload_n C 87 rfl dX4_firstRow_86 0 rfl ?_
  exact r_int hR hq dX4_firstRow_87 rfl rfl
set_option maxHeartbeats 4000000 in
set_option maxRecDepth 100000 in
theorem c_X5_slips (l : Launch) (Δ : gD) (a : Nat → Nat) (x1 : Int32) (x2 : Int32) (s : S5) {res : Int32} (hq : sem_X5_slips x1 x2 s = some res) : MR l yX5_slips cX5_slips 3 (some .boolean) Δ (cs5 a Δ s) [.ref (a 0), .int x1, .int x2] 0 0 (.int res) := by
  refine MR.of (by decide) (Nat.le_of_ble_eq_true rfl) ?_
  intro Γ H hl C hK hP hR
  subst hl
  show g Γ { frames := 0, cells := 0, slots := 0, locals := 0 } 3 H [] 0 0 0 [(0, .ref (a 0)), (1, .int x1), (2, .int x2)] []
  refine g_iload_n C 1 rfl dX5_slips_0 2 rfl ?_
  refine g_aload_n C 2 rfl dX5_slips_1 0 rfl ?_
  refine g_get (v := .ref (a 2)) C 5 rfl dX5_slips_2 hK hP la_X5 0 1 (Nat.le_of_ble_eq_true rfl) fl_X5_15 rfl rfl rfl rfl ?_
  refine g_iload_n C 6 rfl dX5_slips_5 1 rfl ?_
  refine s_iald C 7 rfl dX5_slips_6 hK hP 2 rfl hq (fun hq hi1 => ?_)
  refine g_iadd C 8 rfl dX5_slips_7 ?_
  refine g_aload_n C 9 rfl dX5_slips_8 0 rfl ?_
  refine g_get (v := .int (x5_limit s)) C 12 rfl dX5_slips_9 hK hP la_X5 0 2 (Nat.le_of_ble_eq_true rfl) fl_X5_18 rfl rfl rfl rfl ?_
  refine s_icmp_le C 19 15 rfl dX5_slips_12 (by decide) hq (fun hq => ?_) (fun hq => ?_)
  · refine g_iconst 0 C 20 rfl dX5_slips_19 ki_0 ?_
    exact r_int hR hq dX5_slips_20 rfl rfl
  refine g_iconst 1 C 16 rfl dX5_slips_15 ki_1 ?_
  refine g_goto C 20 dX5_slips_16 (by decide) ?_
  exact r_int hR hq dX5_slips_20 rfl rfl
set_option maxHeartbeats 4000000 in
set_option maxRecDepth 100000 in
theorem c_X5_afterMishap (l : Launch) (Δ : gD) (a : Nat → Nat) (x1 : Int32) (x2 : Int32) (s : S5) {res : Int32} (hq : sem_X5_afterMishap x1 x2 s = some res) : MR l yX5_afterMishap cX5_afterMishap 3 (some .int) Δ (cs5 a Δ s) [.ref (a 0), .int x1, .int x2] 1 22 (.int res) := by
  refine MR.of (by decide) (Nat.le_of_ble_eq_true rfl) ?_
  intro Γ H hl C hK hP hR
  subst hl
  show g Γ { frames := 1, cells := 0, slots := 0, locals := 22 } 3 H [] 0 0 0 [(0, .ref (a 0)), (1, .int x1), (2, .int x2)] []
  refine g_aload_n C 1 rfl dX5_afterMishap_0 0 rfl ?_
  refine g_iload_n C 2 rfl dX5_afterMishap_1 1 rfl ?_
  refine g_iload_n C 3 rfl dX5_afterMishap_2 2 rfl ?_
  obtain ⟨r1, hz2, hq⟩ := bindE hq
  refine g_callRV (rest := []) C 6 rfl dX5_afterMishap_3 (c_X5_slips Γ.2.1 Δ a x1 x2 s hz2) mv_X5_slips ml_X5_51 hK hP rfl rfl rfl rfl rfl ⟨Nat.le_of_ble_eq_true rfl, Nat.le_of_ble_eq_true rfl⟩ (Nat.le_of_ble_eq_true rfl) ⟨Nat.zero_le _, Nat.zero_le _⟩ ?_
  refine s_if_eq C 13 9 rfl dX5_afterMishap_6 (by decide) hq (fun hq => ?_) (fun hq => ?_)
  rotate_left
  · refine g_iconst 0 C 10 rfl dX5_afterMishap_9 ki_0 ?_
    refine g_goto C 21 dX5_afterMishap_10 (by decide) ?_
    exact r_int hR hq dX5_afterMishap_21 rfl rfl
  refine g_iload_n C 14 rfl dX5_afterMishap_13 2 rfl ?_
  refine g_aload_n C 15 rfl dX5_afterMishap_14 0 rfl ?_
  refine g_get (v := .ref (a 2)) C 18 rfl dX5_afterMishap_15 hK hP la_X5 0 1 (Nat.le_of_ble_eq_true rfl) fl_X5_15 rfl rfl rfl rfl ?_
  refine g_iload_n C 19 rfl dX5_afterMishap_18 1 rfl ?_
  refine s_iald C 20 rfl dX5_afterMishap_19 hK hP 2 rfl hq (fun hq hi3 => ?_)
  refine g_iadd C 21 rfl dX5_afterMishap_20 ?_
  exact r_int hR hq dX5_afterMishap_21 rfl rfl
set_option maxHeartbeats 4000000 in
set_option maxRecDepth 100000 in
theorem c_X5_slipsLeft (l : Launch) (Δ : gD) (a : Nat → Nat) (x1 : Int32) (x2 : Int32) (x3 : Int32) (s : S5) {res : Int32} (hq : sem_X5_slipsLeft x1 x2 x3 s = some res) : MR l yX5_slipsLeft cX5_slipsLeft 4 (some .int) Δ (cs5 a Δ s) [.ref (a 0), .int x1, .int x2, .int x3] 1 22 (.int res) := by
  refine MR.of (by decide) (Nat.le_of_ble_eq_true rfl) ?_
  intro Γ H hl C hK hP hR
  subst hl
  show g Γ { frames := 1, cells := 0, slots := 0, locals := 22 } 4 H [] 0 0 0 [(0, .ref (a 0)), (1, .int x1), (2, .int x2), (3, .int x3)] []
  refine g_aload_n C 1 rfl dX5_slipsLeft_0 0 rfl ?_
  refine g_iload_n C 2 rfl dX5_slipsLeft_1 1 rfl ?_
  refine g_iload_n C 3 rfl dX5_slipsLeft_2 2 rfl ?_
  obtain ⟨r1, hz2, hq⟩ := bindE hq
  refine g_callRV (rest := []) C 6 rfl dX5_slipsLeft_3 (c_X5_slips Γ.2.1 Δ a x1 x2 s hz2) mv_X5_slips ml_X5_51 hK hP rfl rfl rfl rfl rfl ⟨Nat.le_of_ble_eq_true rfl, Nat.le_of_ble_eq_true rfl⟩ (Nat.le_of_ble_eq_true rfl) ⟨Nat.zero_le _, Nat.zero_le _⟩ ?_
  refine s_if_eq C 15 9 rfl dX5_slipsLeft_6 (by decide) hq (fun hq => ?_) (fun hq => ?_)
  · refine g_iload_n C 16 rfl dX5_slipsLeft_15 3 rfl ?_
    exact r_int hR hq dX5_slipsLeft_16 rfl rfl
  refine g_iload_n C 10 rfl dX5_slipsLeft_9 3 rfl ?_
  refine g_iconst 1 C 11 rfl dX5_slipsLeft_10 ki_1 ?_
  refine g_isub C 12 rfl dX5_slipsLeft_11 ?_
  refine g_goto C 16 dX5_slipsLeft_12 (by decide) ?_
  exact r_int hR hq dX5_slipsLeft_16 rfl rfl
set_option maxHeartbeats 4000000 in
set_option maxRecDepth 100000 in
theorem c_X5_afterHour (l : Launch) (Δ : gD)  (x0 : Int32) (x1 : Int32)  {res : Int32} (hq : sem_X5_afterHour x0 x1  = some res) : MR l yX5_afterHour cX5_afterHour 2 (some .int) Δ ([]) [.int x0, .int x1] 1 24 (.int res) := by
  refine MR.of (by decide) (Nat.le_of_ble_eq_true rfl) ?_
  intro Γ H hl C hK hP hR
  subst hl
  show g Γ { frames := 1, cells := 0, slots := 0, locals := 24 } 2 H [] 0 0 0 [(0, .int x0), (1, .int x1)] []
  refine g_iconst 0 C 1 rfl dX5_afterHour_0 ki_0 ?_
  refine g_iload_n C 2 rfl dX5_afterHour_1 0 rfl ?_
  refine g_iload_n C 3 rfl dX5_afterHour_2 1 rfl ?_
  refine g_isub C 4 rfl dX5_afterHour_3 ?_
  refine g_iconst 1 C 5 rfl dX5_afterHour_4 ki_1 ?_
  refine g_isub C 6 rfl dX5_afterHour_5 ?_
  refine g_mmax C 9 rfl dX5_afterHour_6 ml_X5_55 mth_max ⟨Nat.le_of_ble_eq_true rfl, Nat.le_of_ble_eq_true rfl⟩ ⟨Nat.zero_le _, Nat.zero_le _⟩ ?_
  exact r_int hR hq dX5_afterHour_9 rfl rfl
set_option maxHeartbeats 4000000 in
set_option maxRecDepth 100000 in
theorem c_X5_cheapest (l : Launch) (Δ : gD) (a : Nat → Nat) (x1 : Int32) (x2 : Int32) (x3 : Int32) (s : S5) {res : Int32} (hq : sem_X5_cheapest x1 x2 x3 s = some res) : MR l yX5_cheapest cX5_cheapest 8 (some .int) Δ (cs5 a Δ s) [.ref (a 0), .int x1, .int x2, .int x3] 2 45 (.int res) := by
  refine MR.of (by decide) (Nat.le_of_ble_eq_true rfl) ?_
  intro Γ H hl C hK hP hR
  subst hl
  show g Γ { frames := 2, cells := 0, slots := 0, locals := 45 } 8 H [] 0 0 0 [(0, .ref (a 0)), (1, .int x1), (2, .int x2), (3, .int x3)] []
  refine g_iload_n C 1 rfl dX5_cheapest_0 3 rfl ?_
  refine s_if_ge C 8 4 rfl dX5_cheapest_1 (by decide) hq (fun hq => ?_) (fun hq => ?_)
  rotate_left
  · refine g_sipush 1000 C 7 rfl dX5_cheapest_4 ks_1000 ?_
    exact r_int hR hq dX5_cheapest_7 rfl rfl
  refine g_bipush 9 C 10 rfl dX5_cheapest_8 kb_9 ?_
  refine g_iload_n C 11 rfl dX5_cheapest_10 2 rfl ?_
  refine g_mmin C 14 rfl dX5_cheapest_11 ml_X5_22 mth_min ⟨Nat.le_of_ble_eq_true rfl, Nat.le_of_ble_eq_true rfl⟩ ⟨Nat.zero_le _, Nat.zero_le _⟩ ?_
  refine g_istore [(4, .int (jmin 9 x2)), (0, .ref (a 0)), (1, .int x1), (2, .int x2), (3, .int x3)] C 16 rfl dX5_cheapest_14 (Nat.le_of_ble_eq_true rfl) rfl ?_
  refine g_sipush 1000 C 19 rfl dX5_cheapest_16 ks_1000 ?_
  refine g_istore [(5, .int 1000), (4, .int (jmin 9 x2)), (0, .ref (a 0)), (1, .int x1), (2, .int x2), (3, .int x3)] C 21 rfl dX5_cheapest_19 (Nat.le_of_ble_eq_true rfl) rfl ?_
  refine g_iconst 0 C 22 rfl dX5_cheapest_21 ki_0 ?_
  refine g_istore [(6, .int 0), (5, .int 1000), (4, .int (jmin 9 x2)), (0, .ref (a 0)), (1, .int x1), (2, .int x2), (3, .int x3)] C 24 rfl dX5_cheapest_22 (Nat.le_of_ble_eq_true rfl) rfl ?_
  have Q24 : ∀ (x1 : Int32) (x2 : Int32) (x3 : Int32) (x4 : Int32), ∀ (n : Nat) (x5 : Int32) (x6 : Int32) (o : (Int32)) (hq : lp_X5_cheapest_24 x1 x2 x3 x4 s n x5 x6 = some o) (E2 : g Γ { frames := 2, cells := 0, slots := 0, locals := 45 } 8 H [] 0 0 63 [(5, .int o)] []), g Γ { frames := 2, cells := 0, slots := 0, locals := 45 } 8 H [] 0 0 24 [(0, .ref (a 0)), (1, .int x1), (2, .int x2), (3, .int x3), (4, .int x4), (5, .int x5), (6, .int x6)] [] := by
    intro x1 x2 x3 x4
    intro n
    induction n with
    | zero => intro x5 x6 o hq; exact nomatch (show (none : Option (Int32)) = some o from hq)
    | succ n ih =>
      intro x5 x6 o hq E2
      have hq : bd_X5_cheapest_24 x1 x2 x3 x4 s (lp_X5_cheapest_24 x1 x2 x3 x4 s n) x5 x6 = some o := hq
      refine g_iload C 26 rfl dX5_cheapest_24 6 rfl ?_
      refine g_iload C 28 rfl dX5_cheapest_26 4 rfl ?_
      refine s_icmp_gt C 63 31 rfl dX5_cheapest_28 (by decide) hq (fun hq => ?_) (fun hq => ?_)
      · cases hq
        exact g_sub [5] rfl (E2 )
      refine g_aload_n C 32 rfl dX5_cheapest_31 0 rfl ?_
      refine g_iload_n C 33 rfl dX5_cheapest_32 1 rfl ?_
      refine g_iload_n C 34 rfl dX5_cheapest_33 2 rfl ?_
      refine g_iload C 36 rfl dX5_cheapest_34 6 rfl ?_
      obtain ⟨r1, hz2, hq⟩ := bindE hq
      refine g_callRS (rest := [.int x1, .ref (a 0)]) C 39 rfl dX5_cheapest_36 (c_X5_afterHour Γ.2.1 Δ  x2 x6  hz2) mv_X5_afterHour (Or.inl ml_X5_45) hK rfl rfl ⟨Nat.le_of_ble_eq_true rfl, Nat.le_of_ble_eq_true rfl⟩ (Nat.le_of_ble_eq_true rfl) ⟨Nat.zero_le _, Nat.zero_le _⟩ ?_
      refine g_iload_n C 40 rfl dX5_cheapest_39 3 rfl ?_
      obtain ⟨r3, hz4, hq⟩ := bindE hq
      refine g_callRV (rest := []) C 43 rfl dX5_cheapest_40 (c_X5_fewestStamps Γ.2.1 Δ a x1 r1 x3 s hz4) mv_X5_fewestStamps ml_X5_48 hK hP rfl rfl rfl rfl rfl ⟨Nat.le_of_ble_eq_true rfl, Nat.le_of_ble_eq_true rfl⟩ (Nat.le_of_ble_eq_true rfl) ⟨Nat.zero_le _, Nat.zero_le _⟩ ?_
      refine g_istore [(7, .int r3), (0, .ref (a 0)), (1, .int x1), (2, .int x2), (3, .int x3), (4, .int x4), (5, .int x5), (6, .int x6)] C 45 rfl dX5_cheapest_43 (Nat.le_of_ble_eq_true rfl) rfl ?_
      refine g_iload C 47 rfl dX5_cheapest_45 6 rfl ?_
      refine g_iload C 49 rfl dX5_cheapest_47 7 rfl ?_
      refine g_iload C 51 rfl dX5_cheapest_49 0 rfl ?_
      refine g_iadd C 52 rfl dX5_cheapest_51 ?_
      refine g_mmin C 55 rfl dX5_cheapest_52 ml_X5_22 mth_min ⟨Nat.le_of_ble_eq_true rfl, Nat.le_of_ble_eq_true rfl⟩ ⟨Nat.zero_le _, Nat.zero_le _⟩ ?_
      refine g_istore [(5, .int (jmin x5 (x6 + r3))), (7, .int r3), (0, .ref (a 0)), (1, .int x1), (2, .int x2), (3, .int x3), (4, .int x4), (6, .int x6)] C 57 rfl dX5_cheapest_55 (Nat.le_of_ble_eq_true rfl) rfl ?_
      refine g_iinc (x6 + 1) [(6, .int (x6 + 1)), (5, .int (jmin x5 (x6 + r3))), (7, .int r3), (0, .ref (a 0)), (1, .int x1), (2, .int x2), (3, .int x3), (4, .int x4)] C 60 rfl dX5_cheapest_57 7 rfl (ii_1 _) (Nat.le_of_ble_eq_true rfl) rfl ?_
      refine g_goto C 24 dX5_cheapest_60 (by decide) ?_
      exact g_sub [3, 4, 5, 6, 7, 1, 0] rfl (ih (jmin x5 (x6 + r3)) (x6 + 1) _ hq E2)
  obtain ⟨o5, ho6, hq⟩ := bindE hq
  refine g_sub [3, 4, 5, 6, 2, 1, 0] rfl (Q24 x1 x2 x3 (jmin 9 x2) FUEL 1000 0 o5 ho6 (?_))
  refine g_iload C 65 rfl dX5_cheapest_63 0 rfl ?_
  exact r_int hR hq dX5_cheapest_65 rfl rfl
set_option maxHeartbeats 4000000 in
set_option maxRecDepth 100000 in
theorem c_X5_reckonFrom (l : Launch) (Δ : gD) (a : Nat → Nat) (x1 : Int32) (x2 : Int32) (s : S5) {res : S5} (hq : sem_X5_reckonFrom x1 x2 s = some res) : MW l yX5_reckonFrom cX5_reckonFrom 6 none Δ (cs5 a Δ s) [.ref (a 0), .int x1, .int x2] 3 72 none (cs5 a Δ res) := by
  refine MW.of (by decide) (Nat.le_of_ble_eq_true rfl) ?_
  intro Γ A H hl C hK hP hD hS hA hR
  subst hl
  show g Γ { frames := 3, cells := 0, slots := 0, locals := 72 } 6 H [] 0 0 0 [(0, .ref (a 0)), (1, .int x1), (2, .int x2)] []
  refine g_aload_n C 1 rfl dX5_reckonFrom_0 0 rfl ?_
  refine g_iload_n C 2 rfl dX5_reckonFrom_1 1 rfl ?_
  refine g_iload_n C 3 rfl dX5_reckonFrom_2 2 rfl ?_
  obtain ⟨r1, hz2, hq⟩ := bindE hq
  refine g_callRV (rest := []) C 6 rfl dX5_reckonFrom_3 (c_X5_afterMishap Γ.2.1 Δ a x1 x2 s hz2) mv_X5_afterMishap ml_X5_35 hK hP rfl rfl rfl rfl rfl ⟨Nat.le_of_ble_eq_true rfl, Nat.le_of_ble_eq_true rfl⟩ (Nat.le_of_ble_eq_true rfl) ⟨Nat.zero_le _, Nat.zero_le _⟩ ?_
  refine g_istore_n [(3, .int r1), (0, .ref (a 0)), (1, .int x1), (2, .int x2)] C 7 rfl dX5_reckonFrom_6 (Nat.le_of_ble_eq_true rfl) rfl ?_
  refine g_iload_n C 8 rfl dX5_reckonFrom_7 2 rfl ?_
  refine g_bipush 21 C 10 rfl dX5_reckonFrom_8 kb_21 ?_
  refine g_imul C 11 rfl dX5_reckonFrom_10 ?_
  refine g_iload_n C 12 rfl dX5_reckonFrom_11 3 rfl ?_
  refine g_iadd C 13 rfl dX5_reckonFrom_12 ?_
  refine g_bipush 7 C 15 rfl dX5_reckonFrom_13 kb_7 ?_
  refine g_imul C 16 rfl dX5_reckonFrom_15 ?_
  refine g_istore [(4, .int (((x1 * 21) + x2) * 7)), (3, .int r1), (0, .ref (a 0)), (1, .int x1), (2, .int x2)] C 18 rfl dX5_reckonFrom_16 (Nat.le_of_ble_eq_true rfl) rfl ?_
  refine g_iconst 0 C 19 rfl dX5_reckonFrom_18 ki_0 ?_
  refine g_istore [(5, .int 0), (4, .int (((x1 * 21) + x2) * 7)), (3, .int r1), (0, .ref (a 0)), (1, .int x1), (2, .int x2)] C 21 rfl dX5_reckonFrom_19 (Nat.le_of_ble_eq_true rfl) rfl ?_
  have Q21 : ∀ (x1 : Int32) (x2 : Int32) (x3 : Int32) (x4 : Int32), ∀ (n : Nat) (x5 : Int32) (s : S5) (o : (S5)) (H : Heap) (L : List Loc) (hP : va_P Δ.1 classes (cs5 a Δ s) H) (hD : va_D A (cs5 a Δ s)) (hS : va_S A (sOf Γ).heap H L) (hq : lp_X5_reckonFrom_21 x1 x2 x3 x4 n x5 s = some o) (E2 : ∀ (H : Heap) (L : List Loc), va_P Δ.1 classes (cs5 a Δ o) H → va_D A (cs5 a Δ o) → va_S A (sOf Γ).heap H L → g Γ { frames := 3, cells := 0, slots := 0, locals := 72 } 6 H L 0 0 60 [] []), g Γ { frames := 3, cells := 0, slots := 0, locals := 72 } 6 H L 0 0 21 [(0, .ref (a 0)), (1, .int x1), (2, .int x2), (3, .int x3), (4, .int x4), (5, .int x5)] [] := by
    intro x1 x2 x3 x4
    intro n
    induction n with
    | zero => intro x5 s o H L hP hD hS hq; exact nomatch (show (none : Option (S5)) = some o from hq)
    | succ n ih =>
      intro x5 s o H L hP hD hS hq E2
      have hq : bd_X5_reckonFrom_21 x1 x2 x3 x4 (lp_X5_reckonFrom_21 x1 x2 x3 x4 n) x5 s = some o := hq
      refine g_iload C 23 rfl dX5_reckonFrom_21 5 rfl ?_
      refine g_bipush 7 C 25 rfl dX5_reckonFrom_23 kb_7 ?_
      refine s_icmp_ge C 60 28 rfl dX5_reckonFrom_25 (by decide) hq (fun hq => ?_) (fun hq => ?_)
      · cases hq
        exact g_sub [] rfl (E2 _ _ hP hD hS)
      refine g_aload_n C 29 rfl dX5_reckonFrom_28 0 rfl ?_
      refine g_get (v := .ref (a 1)) C 32 rfl dX5_reckonFrom_29 hK hP la_X5 0 0 (Nat.le_of_ble_eq_true rfl) fl_X5_11 rfl rfl rfl rfl ?_
      refine g_iload C 34 rfl dX5_reckonFrom_32 4 rfl ?_
      refine g_iload C 36 rfl dX5_reckonFrom_34 5 rfl ?_
      refine g_iadd C 37 rfl dX5_reckonFrom_36 ?_
      refine g_aload_n C 38 rfl dX5_reckonFrom_37 0 rfl ?_
      refine g_iload_n C 39 rfl dX5_reckonFrom_38 1 rfl ?_
      refine g_iconst 1 C 40 rfl dX5_reckonFrom_39 ki_1 ?_
      refine g_iadd C 41 rfl dX5_reckonFrom_40 ?_
      refine g_iload_n C 42 rfl dX5_reckonFrom_41 3 rfl ?_
      refine g_aload_n C 43 rfl dX5_reckonFrom_42 0 rfl ?_
      refine g_iload_n C 44 rfl dX5_reckonFrom_43 1 rfl ?_
      refine g_iload_n C 45 rfl dX5_reckonFrom_44 2 rfl ?_
      refine g_iload C 47 rfl dX5_reckonFrom_45 5 rfl ?_
      obtain ⟨r3, hz4, hq⟩ := bindE hq
      refine g_callRV (rest := [.int x3, .int (x1 + 1), .ref (a 0), .int (x4 + x5), .ref (a 1)]) C 50 rfl dX5_reckonFrom_47 (c_X5_slipsLeft Γ.2.1 Δ a x1 x2 x5 s hz4) mv_X5_slipsLeft ml_X5_38 hK hP rfl rfl rfl rfl rfl ⟨Nat.le_of_ble_eq_true rfl, Nat.le_of_ble_eq_true rfl⟩ (Nat.le_of_ble_eq_true rfl) ⟨Nat.zero_le _, Nat.zero_le _⟩ ?_
      obtain ⟨r5, hz6, hq⟩ := bindE hq
      refine g_callRV (rest := [.int (x4 + x5), .ref (a 1)]) C 53 rfl dX5_reckonFrom_50 (c_X5_cheapest Γ.2.1 Δ a (x1 + 1) x3 r3 s hz6) mv_X5_cheapest ml_X5_42 hK hP rfl rfl rfl rfl rfl ⟨Nat.le_of_ble_eq_true rfl, Nat.le_of_ble_eq_true rfl⟩ (Nat.le_of_ble_eq_true rfl) ⟨Nat.zero_le _, Nat.zero_le _⟩ ?_
      refine s_iast (cs5 a Δ (p5_table s (upd (x5_table s) ((x4 + x5) : Int32).toNatClampNeg r5))) C 54 rfl dX5_reckonFrom_53 hK hP hD hS 1 rfl hq rfl (fun hq hi7 H L hP hD hS => ?_)
      refine g_iinc (x5 + 1) [(5, .int (x5 + 1)), (0, .ref (a 0)), (1, .int x1), (2, .int x2), (3, .int x3), (4, .int x4)] C 57 rfl dX5_reckonFrom_54 5 rfl (ii_1 _) (Nat.le_of_ble_eq_true rfl) rfl ?_
      refine g_goto C 21 dX5_reckonFrom_57 (by decide) ?_
      exact g_sub [1, 2, 3, 4, 5, 0] rfl (ih (x5 + 1) (p5_table s (upd (x5_table s) ((x4 + x5) : Int32).toNatClampNeg r5)) _ _ _ hP hD hS hq E2)
  obtain ⟨o8, ho9, hq⟩ := bindE hq
  refine g_sub [3, 4, 5, 2, 1, 0] rfl (Q21 x1 x2 r1 (((x1 * 21) + x2) * 7) FUEL 0 s o8 _ _ hP hD hS ho9 (fun H L hP hD hS => ?_))
  exact w_void (ws := fun s => cs5 a Δ s) hR hq hP hS dX5_reckonFrom_60 rfl
set_option maxHeartbeats 4000000 in
set_option maxRecDepth 100000 in
theorem c_X5_reckon (l : Launch) (Δ : gD) (a : Nat → Nat) (x1 : Int32) (x2 : Int32) (s : S5) {res : S5} (hq : sem_X5_reckon x1 x2 s = some res) : MW l yX5_reckon cX5_reckon 5 none Δ (cs5 a Δ s) [.ref (a 0), .int x1, .int x2] 4 97 none (cs5 a Δ res) := by
  refine MW.of (by decide) (Nat.le_of_ble_eq_true rfl) ?_
  intro Γ A H hl C hK hP hD hS hA hR
  subst hl
  show g Γ { frames := 4, cells := 0, slots := 0, locals := 97 } 5 H [] 0 0 0 [(0, .ref (a 0)), (1, .int x1), (2, .int x2)] []
  refine g_aload_n C 1 rfl dX5_reckon_0 0 rfl ?_
  refine g_iload_n C 2 rfl dX5_reckon_1 2 rfl ?_
  refine g_bipush 20 C 4 rfl dX5_reckon_2 kb_20 ?_
  refine g_mmin C 7 rfl dX5_reckon_4 ml_X5_22 mth_min ⟨Nat.le_of_ble_eq_true rfl, Nat.le_of_ble_eq_true rfl⟩ ⟨Nat.zero_le _, Nat.zero_le _⟩ ?_
  refine g_put (cs5 a Δ (p5_limit s (jmin x2 20))) C 10 rfl dX5_reckon_7 hK hP hD hS la_X5 tyX5_ok nmX5 0 2 (Nat.le_of_ble_eq_true rfl) fl_X5_18 rfl rfl rfl rfl rfl rfl (Nat.le_of_ble_eq_true rfl) rfl (fun H L hP hD hS => ?_)
  refine g_iconst 5 C 11 rfl dX5_reckon_10 ki_5 ?_
  refine g_istore_n [(3, .int 5), (0, .ref (a 0)), (1, .int x1), (2, .int x2)] C 12 rfl dX5_reckon_11 (Nat.le_of_ble_eq_true rfl) rfl ?_
  have Q12 : ∀ (x1 : Int32), ∀ (n : Nat) (x3 : Int32) (s : S5) (o : (S5)) (H : Heap) (L : List Loc) (hP : va_P Δ.1 classes (cs5 a Δ s) H) (hD : va_D A (cs5 a Δ s)) (hS : va_S A (sOf Γ).heap H L) (hq : lp_X5_reckon_12 x1 n x3 s = some o) (E2 : ∀ (H : Heap) (L : List Loc), va_P Δ.1 classes (cs5 a Δ o) H → va_D A (cs5 a Δ o) → va_S A (sOf Γ).heap H L → g Γ { frames := 4, cells := 0, slots := 0, locals := 97 } 5 H L 0 0 58 [] []), g Γ { frames := 4, cells := 0, slots := 0, locals := 97 } 5 H L 0 0 12 [(0, .ref (a 0)), (1, .int x1), (3, .int x3)] [] := by
    intro x1
    intro n
    induction n with
    | zero => intro x3 s o H L hP hD hS hq; exact nomatch (show (none : Option (S5)) = some o from hq)
    | succ n ih =>
      intro x3 s o H L hP hD hS hq E2
      have hq : bd_X5_reckon_12 x1 (lp_X5_reckon_12 x1 n) x3 s = some o := hq
      refine g_iload_n C 13 rfl dX5_reckon_12 2 rfl ?_
      refine s_if_lt C 58 16 rfl dX5_reckon_13 (by decide) hq (fun hq => ?_) (fun hq => ?_)
      · cases hq
        exact g_sub [] rfl (E2 _ _ hP hD hS)
      refine g_aload_n C 17 rfl dX5_reckon_16 0 rfl ?_
      refine g_get (v := .ref (a 2)) C 20 rfl dX5_reckon_17 hK hP la_X5 0 1 (Nat.le_of_ble_eq_true rfl) fl_X5_15 rfl rfl rfl rfl ?_
      refine g_iload_n C 21 rfl dX5_reckon_20 2 rfl ?_
      refine g_iload_n C 22 rfl dX5_reckon_21 1 rfl ?_
      refine g_iload_n C 23 rfl dX5_reckon_22 2 rfl ?_
      obtain ⟨r1, hz2, hq⟩ := bindE hq
      refine g_callRS (rest := [.int x3, .ref (a 2)]) C 26 rfl dX5_reckon_23 (c_X8_digitOf Γ.2.1 Δ  x1 x3  hz2) mv_X8_digitOf (Or.inr ⟨_, mn_X5_28⟩) hK rfl rfl ⟨Nat.le_of_ble_eq_true rfl, Nat.le_of_ble_eq_true rfl⟩ (Nat.le_of_ble_eq_true rfl) ⟨Nat.zero_le _, Nat.zero_le _⟩ ?_
      refine s_iast (cs5 a Δ (p5_mishaps s (upd (x5_mishaps s) (x3 : Int32).toNatClampNeg r1))) C 27 rfl dX5_reckon_26 hK hP hD hS 2 rfl hq rfl (fun hq hi3 H L hP hD hS => ?_)
      refine g_iconst 0 C 28 rfl dX5_reckon_27 ki_0 ?_
      refine g_istore [(4, .int 0), (0, .ref (a 0)), (1, .int x1), (3, .int x3)] C 30 rfl dX5_reckon_28 (Nat.le_of_ble_eq_true rfl) rfl ?_
      have Q30 : ∀ (x1 : Int32) (x3 : Int32), ∀ (n : Nat) (x4 : Int32) (s : S5) (o : (S5)) (H : Heap) (L : List Loc) (hP : va_P Δ.1 classes (cs5 a Δ s) H) (hD : va_D A (cs5 a Δ s)) (hS : va_S A (sOf Γ).heap H L) (hq : lp_X5_reckon_30 x1 x3 n x4 s = some o) (E2 : ∀ (H : Heap) (L : List Loc), va_P Δ.1 classes (cs5 a Δ o) H → va_D A (cs5 a Δ o) → va_S A (sOf Γ).heap H L → g Γ { frames := 4, cells := 0, slots := 0, locals := 97 } 5 H L 0 0 52 [(0, .ref (a 0)), (1, .int x1), (3, .int x3)] []), g Γ { frames := 4, cells := 0, slots := 0, locals := 97 } 5 H L 0 0 30 [(0, .ref (a 0)), (1, .int x1), (3, .int x3), (4, .int x4)] [] := by
        intro x1 x3
        intro n
        induction n with
        | zero => intro x4 s o H L hP hD hS hq; exact nomatch (show (none : Option (S5)) = some o from hq)
        | succ n ih =>
          intro x4 s o H L hP hD hS hq E2
          have hq : bd_X5_reckon_30 x1 x3 (lp_X5_reckon_30 x1 x3 n) x4 s = some o := hq
          refine g_iload C 32 rfl dX5_reckon_30 3 rfl ?_
          refine g_aload_n C 33 rfl dX5_reckon_32 0 rfl ?_
          refine g_get (v := .int (x5_limit s)) C 36 rfl dX5_reckon_33 hK hP la_X5 0 2 (Nat.le_of_ble_eq_true rfl) fl_X5_18 rfl rfl rfl rfl ?_
          refine s_icmp_gt C 52 39 rfl dX5_reckon_36 (by decide) hq (fun hq => ?_) (fun hq => ?_)
          · cases hq
            exact g_sub [0, 1, 2] rfl (E2 _ _ hP hD hS)
          refine g_aload_n C 40 rfl dX5_reckon_39 0 rfl ?_
          refine g_iload_n C 41 rfl dX5_reckon_40 2 rfl ?_
          refine g_iload C 43 rfl dX5_reckon_41 3 rfl ?_
          obtain ⟨r4, hz5, hq⟩ := bindE hq
          refine g_callWV (rest := []) (cs5 a Δ r4) C 46 rfl dX5_reckon_43 (c_X5_reckonFrom Γ.2.1 Δ a x3 x4 s hz5) mv_X5_reckonFrom ml_X5_31 hK hP hD hS hA [0, 1, 2] [] [0, 1, 2] rfl (by decide) (wr := []) rfl (by decide) (by decide) rfl rfl rfl rfl rfl rfl rfl rfl ⟨Nat.le_of_ble_eq_true rfl, Nat.le_of_ble_eq_true rfl⟩ (Nat.le_of_ble_eq_true rfl) ⟨Nat.zero_le _, Nat.zero_le _⟩ (fun H L hP hD hS => ?_)
          refine g_iinc (x4 + 1) [(4, .int (x4 + 1)), (0, .ref (a 0)), (1, .int x1), (3, .int x3)] C 49 rfl dX5_reckon_46 3 rfl (ii_1 _) (Nat.le_of_ble_eq_true rfl) rfl ?_
          refine g_goto C 30 dX5_reckon_49 (by decide) ?_
          exact g_sub [1, 2, 3, 0] rfl (ih (x4 + 1) r4 _ _ _ hP hD hS hq E2)
      obtain ⟨o6, ho7, hq⟩ := bindE hq
      refine g_sub [1, 2, 3, 0] rfl (Q30 x1 x3 FUEL 0 (p5_mishaps s (upd (x5_mishaps s) (x3 : Int32).toNatClampNeg r1)) o6 _ _ hP hD hS ho7 (fun H L hP hD hS => ?_))
      refine g_iinc (x3 - 1) [(3, .int (x3 - 1)), (0, .ref (a 0)), (1, .int x1)] C 55 rfl dX5_reckon_52 2 rfl (ii_m1 _) (Nat.le_of_ble_eq_true rfl) rfl ?_
      refine g_goto C 12 dX5_reckon_55 (by decide) ?_
      exact g_sub [1, 2, 0] rfl (ih (x3 - 1) o6 _ _ _ hP hD hS hq E2)
  obtain ⟨o8, ho9, hq⟩ := bindE hq
  refine g_sub [1, 2, 0] rfl (Q12 x1 FUEL 5 (p5_limit s (jmin x2 20)) o8 _ _ hP hD hS ho9 (fun H L hP hD hS => ?_))
  exact w_void (ws := fun s => cs5 a Δ s) hR hq hP hS dX5_reckon_58 rfl
set_option maxHeartbeats 4000000 in
set_option maxRecDepth 100000 in
theorem c_X5_strengths (l : Launch) (Δ : gD) (a : Nat → Nat) (x1 : Int32) (x2 : Int32) (s : S5) {res : Int32} (hq : sem_X5_strengths x1 x2 s = some res) : MR l yX5_strengths cX5_strengths 10 (some .int) Δ (cs5 a Δ s) [.ref (a 0), .int x1, .int x2] 2 45 (.int res) := by
  refine MR.of (by decide) (Nat.le_of_ble_eq_true rfl) ?_
  intro Γ H hl C hK hP hR
  subst hl
  show g Γ { frames := 2, cells := 0, slots := 0, locals := 45 } 10 H [] 0 0 0 [(0, .ref (a 0)), (1, .int x1), (2, .int x2)] []
  refine g_iconst 0 C 1 rfl dX5_strengths_0 ki_0 ?_
  refine g_istore_n [(3, .int 0), (0, .ref (a 0)), (1, .int x1), (2, .int x2)] C 2 rfl dX5_strengths_1 (Nat.le_of_ble_eq_true rfl) rfl ?_
  refine g_iload_n C 3 rfl dX5_strengths_2 2 rfl ?_
  refine g_istore [(4, .int x1), (3, .int 0), (0, .ref (a 0)), (1, .int x1), (2, .int x2)] C 5 rfl dX5_strengths_3 (Nat.le_of_ble_eq_true rfl) rfl ?_
  refine g_iload_n C 6 rfl dX5_strengths_5 4 rfl ?_
  refine g_istore [(5, .int x2), (4, .int x1), (3, .int 0), (0, .ref (a 0)), (1, .int x1), (2, .int x2)] C 8 rfl dX5_strengths_6 (Nat.le_of_ble_eq_true rfl) rfl ?_
  refine g_iconst 0 C 9 rfl dX5_strengths_8 ki_0 ?_
  refine g_istore [(6, .int 0), (5, .int x2), (4, .int x1), (3, .int 0), (0, .ref (a 0)), (1, .int x1), (2, .int x2)] C 11 rfl dX5_strengths_9 (Nat.le_of_ble_eq_true rfl) rfl ?_
  have Q11 : ∀ (n : Nat) (x3 : Int32) (x4 : Int32) (x5 : Int32) (x6 : Int32) (o : (Int32)) (hq : lp_X5_strengths_11 s n x3 x4 x5 x6 = some o) (E2 : g Γ { frames := 2, cells := 0, slots := 0, locals := 45 } 10 H [] 0 0 116 [(3, .int o)] []), g Γ { frames := 2, cells := 0, slots := 0, locals := 45 } 10 H [] 0 0 11 [(0, .ref (a 0)), (3, .int x3), (4, .int x4), (5, .int x5), (6, .int x6)] [] := by
    intro n
    induction n with
    | zero => intro x3 x4 x5 x6 o hq; exact nomatch (show (none : Option (Int32)) = some o from hq)
    | succ n ih =>
      intro x3 x4 x5 x6 o hq E2
      have hq : bd_X5_strengths_11 s (lp_X5_strengths_11 s n) x3 x4 x5 x6 = some o := hq
      have K93 : ∀ (x3 : Int32) (x5 : Int32) (x6 : Int32) (x8 : Int32) (x9 : Int32), jn_X5_strengths_93 (lp_X5_strengths_11 s n) x3 x5 x6 x8 x9 s = some o → g Γ { frames := 2, cells := 0, slots := 0, locals := 45 } 10 H [] 0 0 93 [(0, .ref (a 0)), (3, .int x3), (5, .int x5), (6, .int x6), (8, .int x8), (9, .int x9)] [] := by
        intro x3 x5 x6 x8 x9 hq
        refine g_bipush 10 C 95 rfl dX5_strengths_93 kb_10 ?_
        refine g_iload_n C 96 rfl dX5_strengths_95 1 rfl ?_
        refine g_imul C 97 rfl dX5_strengths_96 ?_
        refine g_iload C 99 rfl dX5_strengths_97 5 rfl ?_
        refine g_iadd C 100 rfl dX5_strengths_99 ?_
        refine g_istore_n [(3, .int ((10 * x3) + x9)), (0, .ref (a 0)), (5, .int x5), (6, .int x6), (8, .int x8), (9, .int x9)] C 101 rfl dX5_strengths_100 (Nat.le_of_ble_eq_true rfl) rfl ?_
        refine g_iload C 103 rfl dX5_strengths_101 4 rfl ?_
        refine g_iload C 105 rfl dX5_strengths_103 5 rfl ?_
        obtain ⟨r1, hz2, hq⟩ := bindE hq
        refine g_callRS (rest := []) C 108 rfl dX5_strengths_105 (c_X5_afterHour Γ.2.1 Δ  x8 x9  hz2) mv_X5_afterHour (Or.inl ml_X5_45) hK rfl rfl ⟨Nat.le_of_ble_eq_true rfl, Nat.le_of_ble_eq_true rfl⟩ (Nat.le_of_ble_eq_true rfl) ⟨Nat.zero_le _, Nat.zero_le _⟩ ?_
        refine g_istore [(4, .int r1), (3, .int ((10 * x3) + x9)), (0, .ref (a 0)), (5, .int x5), (6, .int x6), (8, .int x8), (9, .int x9)] C 110 rfl dX5_strengths_108 (Nat.le_of_ble_eq_true rfl) rfl ?_
        refine g_iinc (x6 + 1) [(6, .int (x6 + 1)), (4, .int r1), (3, .int ((10 * x3) + x9)), (0, .ref (a 0)), (5, .int x5), (8, .int x8), (9, .int x9)] C 113 rfl dX5_strengths_110 4 rfl (ii_1 _) (Nat.le_of_ble_eq_true rfl) rfl ?_
        refine g_goto C 11 dX5_strengths_113 (by decide) ?_
        exact g_sub [3, 2, 1, 4, 0] rfl (ih ((10 * x3) + x9) r1 x5 (x6 + 1) _ hq E2)
      refine g_iload C 13 rfl dX5_strengths_11 4 rfl ?_
      refine g_bipush 6 C 15 rfl dX5_strengths_13 kb_6 ?_
      refine s_icmp_ge C 116 18 rfl dX5_strengths_15 (by decide) hq (fun hq => ?_) (fun hq => ?_)
      · cases hq
        exact g_sub [1] rfl (E2 )
      refine g_aload_n C 19 rfl dX5_strengths_18 0 rfl ?_
      refine g_iload C 21 rfl dX5_strengths_19 4 rfl ?_
      refine g_iload C 23 rfl dX5_strengths_21 2 rfl ?_
      refine g_iload C 25 rfl dX5_strengths_23 3 rfl ?_
      obtain ⟨r3, hz4, hq⟩ := bindE hq
      refine g_callRV (rest := []) C 28 rfl dX5_strengths_25 (c_X5_fewestStamps Γ.2.1 Δ a x6 x4 x5 s hz4) mv_X5_fewestStamps ml_X5_48 hK hP rfl rfl rfl rfl rfl ⟨Nat.le_of_ble_eq_true rfl, Nat.le_of_ble_eq_true rfl⟩ (Nat.le_of_ble_eq_true rfl) ⟨Nat.zero_le _, Nat.zero_le _⟩ ?_
      refine g_istore [(7, .int r3), (0, .ref (a 0)), (3, .int x3), (4, .int x4), (5, .int x5), (6, .int x6)] C 30 rfl dX5_strengths_28 (Nat.le_of_ble_eq_true rfl) rfl ?_
      refine g_aload_n C 31 rfl dX5_strengths_30 1 rfl ?_
      refine g_iload C 33 rfl dX5_strengths_31 5 rfl ?_
      refine g_iload C 35 rfl dX5_strengths_33 3 rfl ?_
      obtain ⟨r5, hz6, hq⟩ := bindE hq
      refine g_callRV (rest := []) C 38 rfl dX5_strengths_35 (c_X5_afterMishap Γ.2.1 Δ a x6 x4 s hz6) mv_X5_afterMishap ml_X5_35 hK hP rfl rfl rfl rfl rfl ⟨Nat.le_of_ble_eq_true rfl, Nat.le_of_ble_eq_true rfl⟩ (Nat.le_of_ble_eq_true rfl) ⟨Nat.zero_le _, Nat.zero_le _⟩ ?_
      refine g_istore [(8, .int r5), (7, .int r3), (0, .ref (a 0)), (3, .int x3), (4, .int x4), (5, .int x5), (6, .int x6)] C 40 rfl dX5_strengths_38 (Nat.le_of_ble_eq_true rfl) rfl ?_
      refine g_aload_n C 41 rfl dX5_strengths_40 2 rfl ?_
      refine g_iload C 43 rfl dX5_strengths_41 6 rfl ?_
      refine g_iload C 45 rfl dX5_strengths_43 4 rfl ?_
      refine g_iload C 47 rfl dX5_strengths_45 5 rfl ?_
      obtain ⟨r7, hz8, hq⟩ := bindE hq
      refine g_callRV (rest := []) C 50 rfl dX5_strengths_47 (c_X5_slipsLeft Γ.2.1 Δ a x6 x4 x5 s hz8) mv_X5_slipsLeft ml_X5_38 hK hP rfl rfl rfl rfl rfl ⟨Nat.le_of_ble_eq_true rfl, Nat.le_of_ble_eq_true rfl⟩ (Nat.le_of_ble_eq_true rfl) ⟨Nat.zero_le _, Nat.zero_le _⟩ ?_
      refine g_istore [(5, .int r7), (8, .int r5), (7, .int r3), (0, .ref (a 0)), (3, .int x3), (4, .int x4), (6, .int x6)] C 52 rfl dX5_strengths_50 (Nat.le_of_ble_eq_true rfl) rfl ?_
      refine g_iconst 0 C 53 rfl dX5_strengths_52 ki_0 ?_
      refine g_istore [(9, .int 0), (5, .int r7), (8, .int r5), (7, .int r3), (0, .ref (a 0)), (3, .int x3), (4, .int x4), (6, .int x6)] C 55 rfl dX5_strengths_53 (Nat.le_of_ble_eq_true rfl) rfl ?_
      have Q55 : ∀ (x3 : Int32) (x5 : Int32) (x6 : Int32) (x7 : Int32) (x8 : Int32), ∀ (n : Nat) (x9 : Int32) (o : (Int32)) (hq : lp_X5_strengths_55 x3 x5 x6 x7 x8 s n x9 = some o) (E2 : g Γ { frames := 2, cells := 0, slots := 0, locals := 45 } 10 H [] 0 0 93 [(0, .ref (a 0)), (3, .int x3), (5, .int x5), (6, .int x6), (8, .int x8), (9, .int o)] []), g Γ { frames := 2, cells := 0, slots := 0, locals := 45 } 10 H [] 0 0 55 [(0, .ref (a 0)), (3, .int x3), (5, .int x5), (6, .int x6), (7, .int x7), (8, .int x8), (9, .int x9)] [] := by
        intro x3 x5 x6 x7 x8
        intro n
        induction n with
        | zero => intro x9 o hq; exact nomatch (show (none : Option (Int32)) = some o from hq)
        | succ n ih =>
          intro x9 o hq E2
          have hq : bd_X5_strengths_55 x3 x5 x6 x7 x8 s (lp_X5_strengths_55 x3 x5 x6 x7 x8 s n) x9 = some o := hq
          refine g_iload C 57 rfl dX5_strengths_55 6 rfl ?_
          refine g_bipush 9 C 59 rfl dX5_strengths_57 kb_9 ?_
          refine s_icmp_ge C 93 62 rfl dX5_strengths_59 (by decide) hq (fun hq => ?_) (fun hq => ?_)
          · cases hq
            exact g_sub [0, 1, 2, 3, 5, 6] rfl (E2 )
          refine g_iload C 64 rfl dX5_strengths_62 6 rfl ?_
          refine g_aload_n C 65 rfl dX5_strengths_64 0 rfl ?_
          refine g_iload C 67 rfl dX5_strengths_65 3 rfl ?_
          refine g_iconst 1 C 68 rfl dX5_strengths_67 ki_1 ?_
          refine g_iadd C 69 rfl dX5_strengths_68 ?_
          refine g_iload C 71 rfl dX5_strengths_69 5 rfl ?_
          refine g_iload C 73 rfl dX5_strengths_71 6 rfl ?_
          obtain ⟨r9, hz10, hq⟩ := bindE hq
          refine g_callRS (rest := [.int (x6 + 1), .ref (a 0), .int x9]) C 76 rfl dX5_strengths_73 (c_X5_afterHour Γ.2.1 Δ  x8 x9  hz10) mv_X5_afterHour (Or.inl ml_X5_45) hK rfl rfl ⟨Nat.le_of_ble_eq_true rfl, Nat.le_of_ble_eq_true rfl⟩ (Nat.le_of_ble_eq_true rfl) ⟨Nat.zero_le _, Nat.zero_le _⟩ ?_
          refine g_iload C 78 rfl dX5_strengths_76 2 rfl ?_
          obtain ⟨r11, hz12, hq⟩ := bindE hq
          refine g_callRV (rest := [.int x9]) C 81 rfl dX5_strengths_78 (c_X5_fewestStamps Γ.2.1 Δ a (x6 + 1) r9 x5 s hz12) mv_X5_fewestStamps ml_X5_48 hK hP rfl rfl rfl rfl rfl ⟨Nat.le_of_ble_eq_true rfl, Nat.le_of_ble_eq_true rfl⟩ (Nat.le_of_ble_eq_true rfl) ⟨Nat.zero_le _, Nat.zero_le _⟩ ?_
          refine g_iadd C 82 rfl dX5_strengths_81 ?_
          refine g_iload C 84 rfl dX5_strengths_82 4 rfl ?_
          refine s_icmp_eq C 93 87 rfl dX5_strengths_84 (by decide) hq (fun hq => ?_) (fun hq => ?_)
          · cases hq
            exact g_sub [0, 1, 2, 3, 5, 6] rfl (E2 )
          refine g_iinc (x9 + 1) [(9, .int (x9 + 1)), (0, .ref (a 0)), (3, .int x3), (5, .int x5), (6, .int x6), (7, .int x7), (8, .int x8)] C 90 rfl dX5_strengths_87 6 rfl (ii_1 _) (Nat.le_of_ble_eq_true rfl) rfl ?_
          refine g_goto C 55 dX5_strengths_90 (by decide) ?_
          exact g_sub [1, 2, 3, 4, 5, 6, 0] rfl (ih (x9 + 1) _ hq E2)
      obtain ⟨o13, ho14, hq⟩ := bindE hq
      refine g_sub [4, 5, 1, 7, 3, 2, 0] rfl (Q55 x3 r7 x6 r3 r5 FUEL 0 o13 ho14 (?_))
      exact g_sub [0, 1, 2, 3, 4, 5] rfl (K93 x3 r7 x6 r5 o13 hq)
  obtain ⟨o15, ho16, hq⟩ := bindE hq
  refine g_sub [4, 3, 2, 1, 0] rfl (Q11  FUEL 0 x1 x2 0 o15 ho16 (?_))
  refine g_iload_n C 117 rfl dX5_strengths_116 0 rfl ?_
  exact r_int hR hq dX5_strengths_117 rfl rfl
