set_option maxHeartbeats 400000 in
set_option maxRecDepth 100000 in
theorem c_X0_mostFrom (l : Launch) (Δ : gD) (a : Nat → Nat) (x1 : Int32) (x2 : Int32) (x3 : Int32) (s : S0) {res : Int32} (hq : sem_X0_mostFrom x1 x2 x3 s = some res) : MR l yX0_mostFrom cX0_mostFrom 4 (some .int) Δ (cs0 a Δ s) [.ref (a 0), .int x1, .int x2, .int x3] 1 22 (.int res) := by
  refine MR.of (by decide) (Nat.le_of_ble_eq_true rfl) ?_
  intro Γ H hl C hK hP hR
  subst hl
  show g Γ { frames := 1, cells := 0, slots := 0, locals := 22 } 4 H [] 0 0 0 [(0, .ref (a 0)), (1, .int x1), (2, .int x2), (3, .int x3)] []
  refine g_iload_n C 1 rfl dX0_mostFrom_0 1 rfl ?_
  refine g_iconst 0 C 2 rfl dX0_mostFrom_1 ki_0 ?_
  refine g_bipush 6 C 4 rfl dX0_mostFrom_2 kb_6 ?_
  obtain ⟨r1, hz2, hq⟩ := bindE hq
  refine g_callRS (rest := []) C 7 rfl dX0_mostFrom_4 (c_X8_within Γ.2.1 Δ  x1 0 6  hz2) mv_X8_within (Or.inr ⟨_, mn_X0_50⟩) hK rfl rfl ⟨Nat.le_of_ble_eq_true rfl, Nat.le_of_ble_eq_true rfl⟩ (Nat.le_of_ble_eq_true rfl) ⟨Nat.zero_le _, Nat.zero_le _⟩ ?_
  refine s_if_eq C 30 10 rfl dX0_mostFrom_7 (by decide) hq (fun hq => ?_) (fun hq => ?_)
  · refine g_iconst 0 C 31 rfl dX0_mostFrom_30 ki_0 ?_
    exact r_int hR hq dX0_mostFrom_31 rfl rfl
  refine g_iload_n C 11 rfl dX0_mostFrom_10 2 rfl ?_
  refine g_iconst 0 C 12 rfl dX0_mostFrom_11 ki_0 ?_
  refine g_bipush 6 C 14 rfl dX0_mostFrom_12 kb_6 ?_
  obtain ⟨r3, hz4, hq⟩ := bindE hq
  refine g_callRS (rest := []) C 17 rfl dX0_mostFrom_14 (c_X8_within Γ.2.1 Δ  x2 0 6  hz4) mv_X8_within (Or.inr ⟨_, mn_X0_50⟩) hK rfl rfl ⟨Nat.le_of_ble_eq_true rfl, Nat.le_of_ble_eq_true rfl⟩ (Nat.le_of_ble_eq_true rfl) ⟨Nat.zero_le _, Nat.zero_le _⟩ ?_
  refine s_if_eq C 30 20 rfl dX0_mostFrom_17 (by decide) hq (fun hq => ?_) (fun hq => ?_)
  · refine g_iconst 0 C 31 rfl dX0_mostFrom_30 ki_0 ?_
    exact r_int hR hq dX0_mostFrom_31 rfl rfl
  refine g_iload_n C 21 rfl dX0_mostFrom_20 3 rfl ?_
  refine g_iconst 0 C 22 rfl dX0_mostFrom_21 ki_0 ?_
  refine g_bipush 6 C 24 rfl dX0_mostFrom_22 kb_6 ?_
  obtain ⟨r5, hz6, hq⟩ := bindE hq
  refine g_callRS (rest := []) C 27 rfl dX0_mostFrom_24 (c_X8_within Γ.2.1 Δ  x3 0 6  hz6) mv_X8_within (Or.inr ⟨_, mn_X0_50⟩) hK rfl rfl ⟨Nat.le_of_ble_eq_true rfl, Nat.le_of_ble_eq_true rfl⟩ (Nat.le_of_ble_eq_true rfl) ⟨Nat.zero_le _, Nat.zero_le _⟩ ?_
  refine s_if_ne C 32 30 rfl dX0_mostFrom_27 (by decide) hq (fun hq => ?_) (fun hq => ?_)
  rotate_left
  · refine g_iconst 0 C 31 rfl dX0_mostFrom_30 ki_0 ?_
    exact r_int hR hq dX0_mostFrom_31 rfl rfl
  refine g_aload_n C 33 rfl dX0_mostFrom_32 0 rfl ?_
  refine g_get (v := .ref (a 1)) (fs := fl0 a s) C 36 rfl dX0_mostFrom_33 hK hP la_X0 0 0 (Nat.le_of_ble_eq_true rfl) fl_X0_11 rfl rfl rfl rfl ?_
  refine g_iload_n C 37 rfl dX0_mostFrom_36 1 rfl ?_
  refine g_bipush 7 C 39 rfl dX0_mostFrom_37 kb_7 ?_
  refine g_imul C 40 rfl dX0_mostFrom_39 ?_
  refine g_iload_n C 41 rfl dX0_mostFrom_40 2 rfl ?_
  refine g_iadd C 42 rfl dX0_mostFrom_41 ?_
  refine g_bipush 7 C 44 rfl dX0_mostFrom_42 kb_7 ?_
  refine g_imul C 45 rfl dX0_mostFrom_44 ?_
  refine g_iload_n C 46 rfl dX0_mostFrom_45 3 rfl ?_
  refine g_iadd C 47 rfl dX0_mostFrom_46 ?_
  refine s_iald C 48 rfl dX0_mostFrom_47 hK hP 1 rfl hq (fun hq hi7 => ?_)
  exact r_int hR hq dX0_mostFrom_48 rfl rfl
set_option maxHeartbeats 400000 in
set_option maxRecDepth 100000 in
theorem c_X0_byFirst (l : Launch) (Δ : gD) (a : Nat → Nat) (x1 : Int32) (x2 : Int32) (x3 : Int32) (s : S0) {res : Int32} (hq : sem_X0_byFirst x1 x2 x3 s = some res) : MR l yX0_byFirst cX0_byFirst 4 (some .int) Δ (cs0 a Δ s) [.ref (a 0), .int x1, .int x2, .int x3] 2 45 (.int res) := by
  refine MR.of (by decide) (Nat.le_of_ble_eq_true rfl) ?_
  intro Γ H hl C hK hP hR
  subst hl
  show g Γ { frames := 2, cells := 0, slots := 0, locals := 45 } 4 H [] 0 0 0 [(0, .ref (a 0)), (1, .int x1), (2, .int x2), (3, .int x3)] []
  refine g_iload_n C 1 rfl dX0_byFirst_0 2 rfl ?_
  refine s_if_le C 27 4 rfl dX0_byFirst_1 (by decide) hq (fun hq => ?_) (fun hq => ?_)
  · refine g_bipush (-6) C 29 rfl dX0_byFirst_27 kb_m6 ?_
    exact r_int hR hq dX0_byFirst_29 rfl rfl
  refine g_aload_n C 5 rfl dX0_byFirst_4 0 rfl ?_
  refine g_get (v := .int (x0_first s)) (fs := fl0 a s) C 8 rfl dX0_byFirst_5 hK hP la_X0 0 2 (Nat.le_of_ble_eq_true rfl) fl_X0_19 rfl rfl rfl rfl ?_
  refine g_iload_n C 9 rfl dX0_byFirst_8 1 rfl ?_
  obtain ⟨r1, hz2, hq⟩ := bindE hq
  refine g_callRS (rest := []) C 12 rfl dX0_byFirst_9 (c_X8_digitOf Γ.2.1 Δ  (x0_first s) x1  hz2) mv_X8_digitOf (Or.inr ⟨_, mn_X0_47⟩) hK rfl rfl ⟨Nat.le_of_ble_eq_true rfl, Nat.le_of_ble_eq_true rfl⟩ (Nat.le_of_ble_eq_true rfl) ⟨Nat.zero_le _, Nat.zero_le _⟩ ?_
  refine g_aload_n C 13 rfl dX0_byFirst_12 0 rfl ?_
  refine g_iload_n C 14 rfl dX0_byFirst_13 1 rfl ?_
  refine g_iconst 1 C 15 rfl dX0_byFirst_14 ki_1 ?_
  refine g_iadd C 16 rfl dX0_byFirst_15 ?_
  refine g_iload_n C 17 rfl dX0_byFirst_16 2 rfl ?_
  refine g_iconst 1 C 18 rfl dX0_byFirst_17 ki_1 ?_
  refine g_isub C 19 rfl dX0_byFirst_18 ?_
  refine g_iload_n C 20 rfl dX0_byFirst_19 3 rfl ?_
  obtain ⟨r3, hz4, hq⟩ := bindE hq
  refine g_callRV (rest := [.int r1]) C 23 rfl dX0_byFirst_20 (c_X0_mostFrom Γ.2.1 Δ a (x1 + 1) (x2 - 1) x3 s hz4) mv_X0_mostFrom ml_X0_32 hK hP rfl rfl rfl rfl rfl ⟨Nat.le_of_ble_eq_true rfl, Nat.le_of_ble_eq_true rfl⟩ (Nat.le_of_ble_eq_true rfl) ⟨Nat.zero_le _, Nat.zero_le _⟩ ?_
  refine g_iadd C 24 rfl dX0_byFirst_23 ?_
  refine g_goto C 29 dX0_byFirst_24 (by decide) ?_
  exact r_int hR hq dX0_byFirst_29 rfl rfl
set_option maxHeartbeats 400000 in
set_option maxRecDepth 100000 in
theorem c_X0_bySecond (l : Launch) (Δ : gD) (a : Nat → Nat) (x1 : Int32) (x2 : Int32) (x3 : Int32) (s : S0) {res : Int32} (hq : sem_X0_bySecond x1 x2 x3 s = some res) : MR l yX0_bySecond cX0_bySecond 4 (some .int) Δ (cs0 a Δ s) [.ref (a 0), .int x1, .int x2, .int x3] 2 45 (.int res) := by
  refine MR.of (by decide) (Nat.le_of_ble_eq_true rfl) ?_
  intro Γ H hl C hK hP hR
  subst hl
  show g Γ { frames := 2, cells := 0, slots := 0, locals := 45 } 4 H [] 0 0 0 [(0, .ref (a 0)), (1, .int x1), (2, .int x2), (3, .int x3)] []
  refine g_iload_n C 1 rfl dX0_bySecond_0 3 rfl ?_
  refine s_if_le C 27 4 rfl dX0_bySecond_1 (by decide) hq (fun hq => ?_) (fun hq => ?_)
  · refine g_bipush (-6) C 29 rfl dX0_bySecond_27 kb_m6 ?_
    exact r_int hR hq dX0_bySecond_29 rfl rfl
  refine g_aload_n C 5 rfl dX0_bySecond_4 0 rfl ?_
  refine g_get (v := .int (x0_second s)) (fs := fl0 a s) C 8 rfl dX0_bySecond_5 hK hP la_X0 0 3 (Nat.le_of_ble_eq_true rfl) fl_X0_22 rfl rfl rfl rfl ?_
  refine g_iload_n C 9 rfl dX0_bySecond_8 1 rfl ?_
  obtain ⟨r1, hz2, hq⟩ := bindE hq
  refine g_callRS (rest := []) C 12 rfl dX0_bySecond_9 (c_X8_digitOf Γ.2.1 Δ  (x0_second s) x1  hz2) mv_X8_digitOf (Or.inr ⟨_, mn_X0_47⟩) hK rfl rfl ⟨Nat.le_of_ble_eq_true rfl, Nat.le_of_ble_eq_true rfl⟩ (Nat.le_of_ble_eq_true rfl) ⟨Nat.zero_le _, Nat.zero_le _⟩ ?_
  refine g_aload_n C 13 rfl dX0_bySecond_12 0 rfl ?_
  refine g_iload_n C 14 rfl dX0_bySecond_13 1 rfl ?_
  refine g_iconst 1 C 15 rfl dX0_bySecond_14 ki_1 ?_
  refine g_iadd C 16 rfl dX0_bySecond_15 ?_
  refine g_iload_n C 17 rfl dX0_bySecond_16 2 rfl ?_
  refine g_iload_n C 18 rfl dX0_bySecond_17 3 rfl ?_
  refine g_iconst 1 C 19 rfl dX0_bySecond_18 ki_1 ?_
  refine g_isub C 20 rfl dX0_bySecond_19 ?_
  obtain ⟨r3, hz4, hq⟩ := bindE hq
  refine g_callRV (rest := [.int r1]) C 23 rfl dX0_bySecond_20 (c_X0_mostFrom Γ.2.1 Δ a (x1 + 1) x2 (x3 - 1) s hz4) mv_X0_mostFrom ml_X0_32 hK hP rfl rfl rfl rfl rfl ⟨Nat.le_of_ble_eq_true rfl, Nat.le_of_ble_eq_true rfl⟩ (Nat.le_of_ble_eq_true rfl) ⟨Nat.zero_le _, Nat.zero_le _⟩ ?_
  refine g_iadd C 24 rfl dX0_bySecond_23 ?_
  refine g_goto C 29 dX0_bySecond_24 (by decide) ?_
  exact r_int hR hq dX0_bySecond_29 rfl rfl
set_option maxHeartbeats 400000 in
set_option maxRecDepth 100000 in
theorem c_X0_best (l : Launch) (Δ : gD) (a : Nat → Nat) (x1 : Int32) (x2 : Int32) (x3 : Int32) (s : S0) {res : Int32} (hq : sem_X0_best x1 x2 x3 s = some res) : MR l yX0_best cX0_best 5 (some .int) Δ (cs0 a Δ s) [.ref (a 0), .int x1, .int x2, .int x3] 3 68 (.int res) := by
  refine MR.of (by decide) (Nat.le_of_ble_eq_true rfl) ?_
  intro Γ H hl C hK hP hR
  subst hl
  show g Γ { frames := 3, cells := 0, slots := 0, locals := 68 } 5 H [] 0 0 0 [(0, .ref (a 0)), (1, .int x1), (2, .int x2), (3, .int x3)] []
  refine g_aload_n C 1 rfl dX0_best_0 0 rfl ?_
  refine g_iload_n C 2 rfl dX0_best_1 1 rfl ?_
  refine g_iconst 1 C 3 rfl dX0_best_2 ki_1 ?_
  refine g_iadd C 4 rfl dX0_best_3 ?_
  refine g_iload_n C 5 rfl dX0_best_4 2 rfl ?_
  refine g_iload_n C 6 rfl dX0_best_5 3 rfl ?_
  obtain ⟨r1, hz2, hq⟩ := bindE hq
  refine g_callRV (rest := []) C 9 rfl dX0_best_6 (c_X0_mostFrom Γ.2.1 Δ a (x1 + 1) x2 x3 s hz2) mv_X0_mostFrom ml_X0_32 hK hP rfl rfl rfl rfl rfl ⟨Nat.le_of_ble_eq_true rfl, Nat.le_of_ble_eq_true rfl⟩ (Nat.le_of_ble_eq_true rfl) ⟨Nat.zero_le _, Nat.zero_le _⟩ ?_
  refine g_istore [(4, .int r1), (0, .ref (a 0)), (1, .int x1), (2, .int x2), (3, .int x3)] C 11 rfl dX0_best_9 (Nat.le_of_ble_eq_true rfl) rfl ?_
  refine g_aload_n C 12 rfl dX0_best_11 1 rfl ?_
  refine g_get (v := .int (x0_there s)) (fs := fl0 a s) C 15 rfl dX0_best_12 hK hP la_X0 0 1 (Nat.le_of_ble_eq_true rfl) fl_X0_15 rfl rfl rfl rfl ?_
  refine g_iload_n C 16 rfl dX0_best_15 2 rfl ?_
  refine g_ishr C 17 rfl dX0_best_16 ?_
  refine g_iconst 1 C 18 rfl dX0_best_17 ki_1 ?_
  refine g_iand C 19 rfl dX0_best_18 ?_
  refine g_iconst 1 C 20 rfl dX0_best_19 ki_1 ?_
  refine s_icmp_ne C 51 23 rfl dX0_best_20 (by decide) hq (fun hq => ?_) (fun hq => ?_)
  · refine g_iload C 53 rfl dX0_best_51 0 rfl ?_
    exact r_int hR hq dX0_best_53 rfl rfl
  refine g_iload C 25 rfl dX0_best_23 0 rfl ?_
  refine g_aload_n C 26 rfl dX0_best_25 1 rfl ?_
  refine g_iload_n C 27 rfl dX0_best_26 2 rfl ?_
  refine g_iload_n C 28 rfl dX0_best_27 3 rfl ?_
  refine g_iload_n C 29 rfl dX0_best_28 4 rfl ?_
  obtain ⟨r3, hz4, hq⟩ := bindE hq
  refine g_callRV (rest := [.int r1]) C 32 rfl dX0_best_29 (c_X0_byFirst Γ.2.1 Δ a x1 x2 x3 s hz4) mv_X0_byFirst ml_X0_35 hK hP rfl rfl rfl rfl rfl ⟨Nat.le_of_ble_eq_true rfl, Nat.le_of_ble_eq_true rfl⟩ (Nat.le_of_ble_eq_true rfl) ⟨Nat.zero_le _, Nat.zero_le _⟩ ?_
  refine g_mmax C 35 rfl dX0_best_32 ml_X0_38 mth_max ⟨Nat.le_of_ble_eq_true rfl, Nat.le_of_ble_eq_true rfl⟩ ⟨Nat.zero_le _, Nat.zero_le _⟩ ?_
  refine g_istore [(4, .int (jmax r1 r3)), (0, .ref (a 0)), (1, .int x1), (2, .int x2), (3, .int x3)] C 37 rfl dX0_best_35 (Nat.le_of_ble_eq_true rfl) rfl ?_
  refine g_iload C 39 rfl dX0_best_37 0 rfl ?_
  refine g_aload_n C 40 rfl dX0_best_39 1 rfl ?_
  refine g_iload_n C 41 rfl dX0_best_40 2 rfl ?_
  refine g_iload_n C 42 rfl dX0_best_41 3 rfl ?_
  refine g_iload_n C 43 rfl dX0_best_42 4 rfl ?_
  obtain ⟨r5, hz6, hq⟩ := bindE hq
  refine g_callRV (rest := [.int (jmax r1 r3)]) C 46 rfl dX0_best_43 (c_X0_bySecond Γ.2.1 Δ a x1 x2 x3 s hz6) mv_X0_bySecond ml_X0_44 hK hP rfl rfl rfl rfl rfl ⟨Nat.le_of_ble_eq_true rfl, Nat.le_of_ble_eq_true rfl⟩ (Nat.le_of_ble_eq_true rfl) ⟨Nat.zero_le _, Nat.zero_le _⟩ ?_
  refine g_mmax C 49 rfl dX0_best_46 ml_X0_38 mth_max ⟨Nat.le_of_ble_eq_true rfl, Nat.le_of_ble_eq_true rfl⟩ ⟨Nat.zero_le _, Nat.zero_le _⟩ ?_
  refine g_istore [(4, .int (jmax (jmax r1 r3) r5)), (0, .ref (a 0)), (1, .int x1), (2, .int x2), (3, .int x3)] C 51 rfl dX0_best_49 (Nat.le_of_ble_eq_true rfl) rfl ?_
  refine g_iload C 53 rfl dX0_best_51 0 rfl ?_
  exact r_int hR hq dX0_best_53 rfl rfl
set_option maxHeartbeats 400000 in
set_option maxRecDepth 100000 in
theorem c_X0_reckon (l : Launch) (Δ : gD) (a : Nat → Nat) (b : Nat → Nat) (x2 : Int32) (x3 : Int32) (s : S0) (t : S6) {res : S0} (hq : sem_X0_reckon x2 x3 s t = some res) : MW l yX0_reckon cX0_reckon 7 none Δ (cs0 a Δ s ++ cs6 b Δ t) [.ref (a 0), .ref (b 0), .int x2, .int x3] 4 92 none (cs0 a Δ res ++ cs6 b Δ t) := by
  refine MW.of (by decide) (Nat.le_of_ble_eq_true rfl) ?_
  intro Γ A H hl C hK hP hD hS hA hR
  subst hl
  show g Γ { frames := 4, cells := 0, slots := 0, locals := 92 } 7 H [] 0 0 0 [(0, .ref (a 0)), (1, .ref (b 0)), (2, .int x2), (3, .int x3)] []
  refine g_aload_n C 1 rfl dX0_reckon_0 0 rfl ?_
  refine g_aload_n C 2 rfl dX0_reckon_1 1 rfl ?_
  refine g_get (v := .int (x6_there t)) (fs := fl6 b t) C 5 rfl dX0_reckon_2 hK hP la_X6 2 2 (Nat.le_of_ble_eq_true rfl) fl_X0_25 rfl rfl rfl rfl ?_
  refine g_put (fs := fl0 a s) (cs0 a Δ (p0_there s (x6_there t)) ++ cs6 b Δ t) C 8 rfl dX0_reckon_5 hK hP hD hS la_X0 tyX0_ok nmX0 0 1 (Nat.le_of_ble_eq_true rfl) fl_X0_15 rfl rfl rfl rfl rfl rfl (Nat.le_of_ble_eq_true rfl) (sst_0 a b Δ s t (x6_there t)) (fun H L hP hD hS => ?_)
  refine g_aload_n C 9 rfl dX0_reckon_8 0 rfl ?_
  refine g_iload_n C 10 rfl dX0_reckon_9 2 rfl ?_
  refine g_put (fs := fl0 a (p0_there s (x6_there t))) (cs0 a Δ (p0_first (p0_there s (x6_there t)) x2) ++ cs6 b Δ t) C 13 rfl dX0_reckon_10 hK hP hD hS la_X0 tyX0_ok nmX0 0 2 (Nat.le_of_ble_eq_true rfl) fl_X0_19 rfl rfl rfl rfl rfl rfl (Nat.le_of_ble_eq_true rfl) (sst_1 a b Δ (p0_there s (x6_there t)) t x2) (fun H L hP hD hS => ?_)
  refine g_aload_n C 14 rfl dX0_reckon_13 0 rfl ?_
  refine g_iload_n C 15 rfl dX0_reckon_14 3 rfl ?_
  refine g_put (fs := fl0 a (p0_first (p0_there s (x6_there t)) x2)) (cs0 a Δ (p0_second (p0_first (p0_there s (x6_there t)) x2) x3) ++ cs6 b Δ t) C 18 rfl dX0_reckon_15 hK hP hD hS la_X0 tyX0_ok nmX0 0 3 (Nat.le_of_ble_eq_true rfl) fl_X0_22 rfl rfl rfl rfl rfl rfl (Nat.le_of_ble_eq_true rfl) (sst_2 a b Δ (p0_first (p0_there s (x6_there t)) x2) t x3) (fun H L hP hD hS => ?_)
  refine g_iconst 5 C 19 rfl dX0_reckon_18 ki_5 ?_
  refine g_istore [(4, .int 5), (0, .ref (a 0)), (1, .ref (b 0)), (2, .int x2), (3, .int x3)] C 21 rfl dX0_reckon_19 (Nat.le_of_ble_eq_true rfl) rfl ?_
  have Q21 : ∀ (n : Nat) (x4 : Int32) (s : S0) (o : (S0)) (H : Heap) (L : List Loc) (hP : va_P Δ.1 classes (cs0 a Δ s ++ cs6 b Δ t) H) (hD : va_D A (cs0 a Δ s ++ cs6 b Δ t)) (hS : va_S A (sOf Γ).heap H L) (hq : lp_X0_reckon_21 t n x4 s = some o) (E2 : ∀ (H : Heap) (L : List Loc), va_P Δ.1 classes (cs0 a Δ o ++ cs6 b Δ t) H → va_D A (cs0 a Δ o ++ cs6 b Δ t) → va_S A (sOf Γ).heap H L → g Γ { frames := 4, cells := 0, slots := 0, locals := 92 } 7 H L 0 0 93 [] []), g Γ { frames := 4, cells := 0, slots := 0, locals := 92 } 7 H L 0 0 21 [(0, .ref (a 0)), (4, .int x4)] [] := by
    intro n
    induction n with
    | zero => intro x4 s o H L hP hD hS hq; exact nomatch (show (none : Option (S0)) = some o from hq)
    | succ n ih =>
      intro x4 s o H L hP hD hS hq E2
      have hq : bd_X0_reckon_21 t (lp_X0_reckon_21 t n) x4 s = some o := hq
      refine g_iload C 23 rfl dX0_reckon_21 1 rfl ?_
      refine s_if_lt C 93 26 rfl dX0_reckon_23 (by decide) hq (fun hq => ?_) (fun hq => ?_)
      · cases hq
        exact g_sub [] rfl (E2 _ _ hP hD hS)
      refine g_iconst 0 C 27 rfl dX0_reckon_26 ki_0 ?_
      refine g_istore [(5, .int 0), (0, .ref (a 0)), (4, .int x4)] C 29 rfl dX0_reckon_27 (Nat.le_of_ble_eq_true rfl) rfl ?_
      have Q29 : ∀ (x4 : Int32), ∀ (n : Nat) (x5 : Int32) (s : S0) (o : (S0)) (H : Heap) (L : List Loc) (hP : va_P Δ.1 classes (cs0 a Δ s ++ cs6 b Δ t) H) (hD : va_D A (cs0 a Δ s ++ cs6 b Δ t)) (hS : va_S A (sOf Γ).heap H L) (hq : lp_X0_reckon_29 x4 t n x5 s = some o) (E2 : ∀ (H : Heap) (L : List Loc), va_P Δ.1 classes (cs0 a Δ o ++ cs6 b Δ t) H → va_D A (cs0 a Δ o ++ cs6 b Δ t) → va_S A (sOf Γ).heap H L → g Γ { frames := 4, cells := 0, slots := 0, locals := 92 } 7 H L 0 0 87 [(0, .ref (a 0)), (4, .int x4)] []), g Γ { frames := 4, cells := 0, slots := 0, locals := 92 } 7 H L 0 0 29 [(0, .ref (a 0)), (4, .int x4), (5, .int x5)] [] := by
        intro x4
        intro n
        induction n with
        | zero => intro x5 s o H L hP hD hS hq; exact nomatch (show (none : Option (S0)) = some o from hq)
        | succ n ih =>
          intro x5 s o H L hP hD hS hq E2
          have hq : bd_X0_reckon_29 x4 t (lp_X0_reckon_29 x4 t n) x5 s = some o := hq
          refine g_iload C 31 rfl dX0_reckon_29 2 rfl ?_
          refine g_bipush 7 C 33 rfl dX0_reckon_31 kb_7 ?_
          refine s_icmp_ge C 87 36 rfl dX0_reckon_33 (by decide) hq (fun hq => ?_) (fun hq => ?_)
          · cases hq
            exact g_sub [0, 1] rfl (E2 _ _ hP hD hS)
          refine g_iconst 0 C 37 rfl dX0_reckon_36 ki_0 ?_
          refine g_istore [(6, .int 0), (0, .ref (a 0)), (4, .int x4), (5, .int x5)] C 39 rfl dX0_reckon_37 (Nat.le_of_ble_eq_true rfl) rfl ?_
          have Q39 : ∀ (x4 : Int32) (x5 : Int32), ∀ (n : Nat) (x6 : Int32) (s : S0) (o : (S0)) (H : Heap) (L : List Loc) (hP : va_P Δ.1 classes (cs0 a Δ s ++ cs6 b Δ t) H) (hD : va_D A (cs0 a Δ s ++ cs6 b Δ t)) (hS : va_S A (sOf Γ).heap H L) (hq : lp_X0_reckon_39 x4 x5 t n x6 s = some o) (E2 : ∀ (H : Heap) (L : List Loc), va_P Δ.1 classes (cs0 a Δ o ++ cs6 b Δ t) H → va_D A (cs0 a Δ o ++ cs6 b Δ t) → va_S A (sOf Γ).heap H L → g Γ { frames := 4, cells := 0, slots := 0, locals := 92 } 7 H L 0 0 81 [(0, .ref (a 0)), (4, .int x4), (5, .int x5)] []), g Γ { frames := 4, cells := 0, slots := 0, locals := 92 } 7 H L 0 0 39 [(0, .ref (a 0)), (4, .int x4), (5, .int x5), (6, .int x6)] [] := by
            intro x4 x5
            intro n
            induction n with
            | zero => intro x6 s o H L hP hD hS hq; exact nomatch (show (none : Option (S0)) = some o from hq)
            | succ n ih =>
              intro x6 s o H L hP hD hS hq E2
              have hq : bd_X0_reckon_39 x4 x5 t (lp_X0_reckon_39 x4 x5 t n) x6 s = some o := hq
              refine g_iload C 41 rfl dX0_reckon_39 3 rfl ?_
              refine g_bipush 7 C 43 rfl dX0_reckon_41 kb_7 ?_
              refine s_icmp_ge C 81 46 rfl dX0_reckon_43 (by decide) hq (fun hq => ?_) (fun hq => ?_)
              · cases hq
                exact g_sub [0, 1, 2] rfl (E2 _ _ hP hD hS)
              refine g_aload_n C 47 rfl dX0_reckon_46 0 rfl ?_
              refine g_get (v := .ref (a 1)) (fs := fl0 a s) C 50 rfl dX0_reckon_47 hK hP la_X0 0 0 (Nat.le_of_ble_eq_true rfl) fl_X0_11 rfl rfl rfl rfl ?_
              refine g_iload C 52 rfl dX0_reckon_50 1 rfl ?_
              refine g_bipush 7 C 54 rfl dX0_reckon_52 kb_7 ?_
              refine g_imul C 55 rfl dX0_reckon_54 ?_
              refine g_iload C 57 rfl dX0_reckon_55 2 rfl ?_
              refine g_iadd C 58 rfl dX0_reckon_57 ?_
              refine g_bipush 7 C 60 rfl dX0_reckon_58 kb_7 ?_
              refine g_imul C 61 rfl dX0_reckon_60 ?_
              refine g_iload C 63 rfl dX0_reckon_61 3 rfl ?_
              refine g_iadd C 64 rfl dX0_reckon_63 ?_
              refine g_aload_n C 65 rfl dX0_reckon_64 0 rfl ?_
              refine g_iload C 67 rfl dX0_reckon_65 1 rfl ?_
              refine g_iload C 69 rfl dX0_reckon_67 2 rfl ?_
              refine g_iload C 71 rfl dX0_reckon_69 3 rfl ?_
              obtain ⟨r1, hz2, hq⟩ := bindE hq
              refine g_callRV (rest := [.int ((((x4 * 7) + x5) * 7) + x6), .ref (a 1)]) C 74 rfl dX0_reckon_71 (c_X0_best Γ.2.1 Δ a x4 x5 x6 s hz2) mv_X0_best ml_X0_28 hK (sct_4 a b Δ s t hP) rfl rfl rfl rfl rfl ⟨Nat.le_of_ble_eq_true rfl, Nat.le_of_ble_eq_true rfl⟩ (Nat.le_of_ble_eq_true rfl) ⟨Nat.zero_le _, Nat.zero_le _⟩ ?_
              refine s_iast (cs0 a Δ (p0_most s (upd (x0_most s) (((((x4 * 7) + x5) * 7) + x6) : Int32).toNatClampNeg r1)) ++ cs6 b Δ t) C 75 rfl dX0_reckon_74 hK hP hD hS 1 rfl hq (sst_3 a b Δ s t (upd (x0_most s) (((((x4 * 7) + x5) * 7) + x6) : Int32).toNatClampNeg r1)) (fun hq hi3 H L hP hD hS => ?_)
              refine g_iinc (x6 + 1) [(6, .int (x6 + 1)), (0, .ref (a 0)), (4, .int x4), (5, .int x5)] C 78 rfl dX0_reckon_75 3 rfl (ii_1 _) (Nat.le_of_ble_eq_true rfl) rfl ?_
              refine g_goto C 39 dX0_reckon_78 (by decide) ?_
              exact g_sub [1, 2, 3, 0] rfl (ih (x6 + 1) (p0_most s (upd (x0_most s) (((((x4 * 7) + x5) * 7) + x6) : Int32).toNatClampNeg r1)) _ _ _ hP hD hS hq E2)
          obtain ⟨o4, ho5, hq⟩ := bindE hq
          refine g_sub [1, 2, 3, 0] rfl (Q39 x4 x5 FUEL 0 s o4 _ _ hP hD hS ho5 (fun H L hP hD hS => ?_))
          refine g_iinc (x5 + 1) [(5, .int (x5 + 1)), (0, .ref (a 0)), (4, .int x4)] C 84 rfl dX0_reckon_81 2 rfl (ii_1 _) (Nat.le_of_ble_eq_true rfl) rfl ?_
          refine g_goto C 29 dX0_reckon_84 (by decide) ?_
          exact g_sub [1, 2, 0] rfl (ih (x5 + 1) o4 _ _ _ hP hD hS hq E2)
      obtain ⟨o6, ho7, hq⟩ := bindE hq
      refine g_sub [1, 2, 0] rfl (Q29 x4 FUEL 0 s o6 _ _ hP hD hS ho7 (fun H L hP hD hS => ?_))
      refine g_iinc (x4 - 1) [(4, .int (x4 - 1)), (0, .ref (a 0))] C 90 rfl dX0_reckon_87 1 rfl (ii_m1 _) (Nat.le_of_ble_eq_true rfl) rfl ?_
      refine g_goto C 21 dX0_reckon_90 (by decide) ?_
      exact g_sub [1, 0] rfl (ih (x4 - 1) o6 _ _ _ hP hD hS hq E2)
  obtain ⟨o8, ho9, hq⟩ := bindE hq
  refine g_sub [1, 0] rfl (Q21  FUEL 5 (p0_second (p0_first (p0_there s (x6_there t)) x2) x3) o8 _ _ hP hD hS ho9 (fun H L hP hD hS => ?_))
  exact w_void (ws := fun s => cs0 a Δ s ++ cs6 b Δ t) hR hq hP hS dX0_reckon_93 rfl
set_option maxHeartbeats 400000 in
set_option maxRecDepth 100000 in
theorem c_X0_holders (l : Launch) (Δ : gD) (a : Nat → Nat) (x1 : Int32) (x2 : Int32) (s : S0) {res : Int32} (hq : sem_X0_holders x1 x2 s = some res) : MR l yX0_holders cX0_holders 9 (some .int) Δ (cs0 a Δ s) [.ref (a 0), .int x1, .int x2] 3 68 (.int res) := by
  refine MR.of (by decide) (Nat.le_of_ble_eq_true rfl) ?_
  intro Γ H hl C hK hP hR
  subst hl
  show g Γ { frames := 3, cells := 0, slots := 0, locals := 68 } 9 H [] 0 0 0 [(0, .ref (a 0)), (1, .int x1), (2, .int x2)] []
  refine g_iconst 0 C 1 rfl dX0_holders_0 ki_0 ?_
  refine g_istore_n [(3, .int 0), (0, .ref (a 0)), (1, .int x1), (2, .int x2)] C 2 rfl dX0_holders_1 (Nat.le_of_ble_eq_true rfl) rfl ?_
  refine g_iload_n C 3 rfl dX0_holders_2 2 rfl ?_
  refine g_istore [(4, .int x1), (3, .int 0), (0, .ref (a 0)), (1, .int x1), (2, .int x2)] C 5 rfl dX0_holders_3 (Nat.le_of_ble_eq_true rfl) rfl ?_
  refine g_iload_n C 6 rfl dX0_holders_5 4 rfl ?_
  refine g_istore [(5, .int x2), (4, .int x1), (3, .int 0), (0, .ref (a 0)), (1, .int x1), (2, .int x2)] C 8 rfl dX0_holders_6 (Nat.le_of_ble_eq_true rfl) rfl ?_
  refine g_iconst 0 C 9 rfl dX0_holders_8 ki_0 ?_
  refine g_istore [(6, .int 0), (5, .int x2), (4, .int x1), (3, .int 0), (0, .ref (a 0)), (1, .int x1), (2, .int x2)] C 11 rfl dX0_holders_9 (Nat.le_of_ble_eq_true rfl) rfl ?_
  have Q11 : ∀ (n : Nat) (x3 : Int32) (x4 : Int32) (x5 : Int32) (x6 : Int32) (o : (Int32)) (hq : lp_X0_holders_11 s n x3 x4 x5 x6 = some o) (E2 : g Γ { frames := 3, cells := 0, slots := 0, locals := 68 } 9 H [] 0 0 110 [(3, .int o)] []), g Γ { frames := 3, cells := 0, slots := 0, locals := 68 } 9 H [] 0 0 11 [(0, .ref (a 0)), (3, .int x3), (4, .int x4), (5, .int x5), (6, .int x6)] [] := by
    intro n
    induction n with
    | zero => intro x3 x4 x5 x6 o hq; exact nomatch (show (none : Option (Int32)) = some o from hq)
    | succ n ih =>
      intro x3 x4 x5 x6 o hq E2
      have hq : bd_X0_holders_11 s (lp_X0_holders_11 s n) x3 x4 x5 x6 = some o := hq
      refine g_iload C 13 rfl dX0_holders_11 4 rfl ?_
      refine g_bipush 6 C 15 rfl dX0_holders_13 kb_6 ?_
      refine s_icmp_ge C 110 18 rfl dX0_holders_15 (by decide) hq (fun hq => ?_) (fun hq => ?_)
      · cases hq
        exact g_sub [1] rfl (E2 )
      refine g_aload_n C 19 rfl dX0_holders_18 0 rfl ?_
      refine g_iload C 21 rfl dX0_holders_19 4 rfl ?_
      refine g_iload C 23 rfl dX0_holders_21 2 rfl ?_
      refine g_iload C 25 rfl dX0_holders_23 3 rfl ?_
      obtain ⟨r1, hz2, hq⟩ := bindE hq
      refine g_callRV (rest := []) C 28 rfl dX0_holders_25 (c_X0_mostFrom Γ.2.1 Δ a x6 x4 x5 s hz2) mv_X0_mostFrom ml_X0_32 hK hP rfl rfl rfl rfl rfl ⟨Nat.le_of_ble_eq_true rfl, Nat.le_of_ble_eq_true rfl⟩ (Nat.le_of_ble_eq_true rfl) ⟨Nat.zero_le _, Nat.zero_le _⟩ ?_
      refine g_istore [(7, .int r1), (0, .ref (a 0)), (3, .int x3), (4, .int x4), (5, .int x5), (6, .int x6)] C 30 rfl dX0_holders_28 (Nat.le_of_ble_eq_true rfl) rfl ?_
      refine g_iconst 2 C 31 rfl dX0_holders_30 ki_2 ?_
      refine g_istore [(8, .int 2), (7, .int r1), (0, .ref (a 0)), (3, .int x3), (4, .int x4), (5, .int x5), (6, .int x6)] C 33 rfl dX0_holders_31 (Nat.le_of_ble_eq_true rfl) rfl ?_
      refine g_aload_n C 34 rfl dX0_holders_33 2 rfl ?_
      refine g_get (v := .int (x0_there s)) (fs := fl0 a s) C 37 rfl dX0_holders_34 hK hP la_X0 0 1 (Nat.le_of_ble_eq_true rfl) fl_X0_15 rfl rfl rfl rfl ?_
      refine g_iload C 39 rfl dX0_holders_37 6 rfl ?_
      refine g_ishr C 40 rfl dX0_holders_39 ?_
      refine g_iconst 1 C 41 rfl dX0_holders_40 ki_1 ?_
      refine g_iand C 42 rfl dX0_holders_41 ?_
      refine s_if_ne C 51 45 rfl dX0_holders_42 (by decide) hq (fun hq => ?_) (fun hq => ?_)
      rotate_left
      · refine g_iconst 3 C 46 rfl dX0_holders_45 ki_3 ?_
        refine g_istore [(8, .int 3), (7, .int r1), (0, .ref (a 0)), (3, .int x3), (4, .int x4), (5, .int x5), (6, .int x6)] C 48 rfl dX0_holders_46 (Nat.le_of_ble_eq_true rfl) rfl ?_
        refine g_goto C 96 dX0_holders_48 (by decide) ?_
        refine g_bipush 10 C 98 rfl dX0_holders_96 kb_10 ?_
        refine g_iload_n C 99 rfl dX0_holders_98 3 rfl ?_
        refine g_imul C 100 rfl dX0_holders_99 ?_
        refine g_iload C 102 rfl dX0_holders_100 0 rfl ?_
        refine g_iadd C 103 rfl dX0_holders_102 ?_
        refine g_istore_n [(3, .int ((10 * x3) + 3)), (8, .int 3), (7, .int r1), (0, .ref (a 0)), (4, .int x4), (5, .int x5), (6, .int x6)] C 104 rfl dX0_holders_103 (Nat.le_of_ble_eq_true rfl) rfl ?_
        refine g_iinc (x6 + 1) [(6, .int (x6 + 1)), (3, .int ((10 * x3) + 3)), (8, .int 3), (7, .int r1), (0, .ref (a 0)), (4, .int x4), (5, .int x5)] C 107 rfl dX0_holders_104 6 rfl (ii_1 _) (Nat.le_of_ble_eq_true rfl) rfl ?_
        refine g_goto C 11 dX0_holders_107 (by decide) ?_
        exact g_sub [4, 1, 5, 6, 0] rfl (ih ((10 * x3) + 3) x4 x5 (x6 + 1) _ hq E2)
      refine g_aload_n C 52 rfl dX0_holders_51 2 rfl ?_
      refine g_iload C 54 rfl dX0_holders_52 6 rfl ?_
      refine g_iload C 56 rfl dX0_holders_54 4 rfl ?_
      refine g_iload C 58 rfl dX0_holders_56 5 rfl ?_
      obtain ⟨r3, hz4, hq⟩ := bindE hq
      refine g_callRV (rest := []) C 61 rfl dX0_holders_58 (c_X0_byFirst Γ.2.1 Δ a x6 x4 x5 s hz4) mv_X0_byFirst ml_X0_35 hK hP rfl rfl rfl rfl rfl ⟨Nat.le_of_ble_eq_true rfl, Nat.le_of_ble_eq_true rfl⟩ (Nat.le_of_ble_eq_true rfl) ⟨Nat.zero_le _, Nat.zero_le _⟩ ?_
      refine g_iload C 63 rfl dX0_holders_61 1 rfl ?_
      refine s_icmp_ne C 75 66 rfl dX0_holders_63 (by decide) hq (fun hq => ?_) (fun hq => ?_)
      rotate_left
      · refine g_iconst 0 C 67 rfl dX0_holders_66 ki_0 ?_
        refine g_istore [(8, .int 0), (7, .int r1), (0, .ref (a 0)), (3, .int x3), (4, .int x4), (5, .int x5), (6, .int x6)] C 69 rfl dX0_holders_67 (Nat.le_of_ble_eq_true rfl) rfl ?_
        refine g_iinc (x4 - 1) [(4, .int (x4 - 1)), (8, .int 0), (7, .int r1), (0, .ref (a 0)), (3, .int x3), (5, .int x5), (6, .int x6)] C 72 rfl dX0_holders_69 4 rfl (ii_m1 _) (Nat.le_of_ble_eq_true rfl) rfl ?_
        refine g_goto C 96 dX0_holders_72 (by decide) ?_
        refine g_bipush 10 C 98 rfl dX0_holders_96 kb_10 ?_
        refine g_iload_n C 99 rfl dX0_holders_98 4 rfl ?_
        refine g_imul C 100 rfl dX0_holders_99 ?_
        refine g_iload C 102 rfl dX0_holders_100 1 rfl ?_
        refine g_iadd C 103 rfl dX0_holders_102 ?_
        refine g_istore_n [(3, .int ((10 * x3) + 0)), (4, .int (x4 - 1)), (8, .int 0), (7, .int r1), (0, .ref (a 0)), (5, .int x5), (6, .int x6)] C 104 rfl dX0_holders_103 (Nat.le_of_ble_eq_true rfl) rfl ?_
        refine g_iinc (x6 + 1) [(6, .int (x6 + 1)), (3, .int ((10 * x3) + 0)), (4, .int (x4 - 1)), (8, .int 0), (7, .int r1), (0, .ref (a 0)), (5, .int x5)] C 107 rfl dX0_holders_104 6 rfl (ii_1 _) (Nat.le_of_ble_eq_true rfl) rfl ?_
        refine g_goto C 11 dX0_holders_107 (by decide) ?_
        exact g_sub [5, 1, 2, 6, 0] rfl (ih ((10 * x3) + 0) (x4 - 1) x5 (x6 + 1) _ hq E2)
      refine g_aload_n C 76 rfl dX0_holders_75 2 rfl ?_
      refine g_iload C 78 rfl dX0_holders_76 6 rfl ?_
      refine g_iload C 80 rfl dX0_holders_78 4 rfl ?_
      refine g_iload C 82 rfl dX0_holders_80 5 rfl ?_
      obtain ⟨r5, hz6, hq⟩ := bindE hq
      refine g_callRV (rest := []) C 85 rfl dX0_holders_82 (c_X0_bySecond Γ.2.1 Δ a x6 x4 x5 s hz6) mv_X0_bySecond ml_X0_44 hK hP rfl rfl rfl rfl rfl ⟨Nat.le_of_ble_eq_true rfl, Nat.le_of_ble_eq_true rfl⟩ (Nat.le_of_ble_eq_true rfl) ⟨Nat.zero_le _, Nat.zero_le _⟩ ?_
      refine g_iload C 87 rfl dX0_holders_85 1 rfl ?_
      refine s_icmp_ne C 96 90 rfl dX0_holders_87 (by decide) hq (fun hq => ?_) (fun hq => ?_)
      · refine g_bipush 10 C 98 rfl dX0_holders_96 kb_10 ?_
        refine g_iload_n C 99 rfl dX0_holders_98 3 rfl ?_
        refine g_imul C 100 rfl dX0_holders_99 ?_
        refine g_iload C 102 rfl dX0_holders_100 0 rfl ?_
        refine g_iadd C 103 rfl dX0_holders_102 ?_
        refine g_istore_n [(3, .int ((10 * x3) + 2)), (8, .int 2), (7, .int r1), (0, .ref (a 0)), (4, .int x4), (5, .int x5), (6, .int x6)] C 104 rfl dX0_holders_103 (Nat.le_of_ble_eq_true rfl) rfl ?_
        refine g_iinc (x6 + 1) [(6, .int (x6 + 1)), (3, .int ((10 * x3) + 2)), (8, .int 2), (7, .int r1), (0, .ref (a 0)), (4, .int x4), (5, .int x5)] C 107 rfl dX0_holders_104 6 rfl (ii_1 _) (Nat.le_of_ble_eq_true rfl) rfl ?_
        refine g_goto C 11 dX0_holders_107 (by decide) ?_
        exact g_sub [4, 1, 5, 6, 0] rfl (ih ((10 * x3) + 2) x4 x5 (x6 + 1) _ hq E2)
      refine g_iconst 1 C 91 rfl dX0_holders_90 ki_1 ?_
      refine g_istore [(8, .int 1), (7, .int r1), (0, .ref (a 0)), (3, .int x3), (4, .int x4), (5, .int x5), (6, .int x6)] C 93 rfl dX0_holders_91 (Nat.le_of_ble_eq_true rfl) rfl ?_
      refine g_iinc (x5 - 1) [(5, .int (x5 - 1)), (8, .int 1), (7, .int r1), (0, .ref (a 0)), (3, .int x3), (4, .int x4), (6, .int x6)] C 96 rfl dX0_holders_93 5 rfl (ii_m1 _) (Nat.le_of_ble_eq_true rfl) rfl ?_
      refine g_bipush 10 C 98 rfl dX0_holders_96 kb_10 ?_
      refine g_iload_n C 99 rfl dX0_holders_98 4 rfl ?_
      refine g_imul C 100 rfl dX0_holders_99 ?_
      refine g_iload C 102 rfl dX0_holders_100 1 rfl ?_
      refine g_iadd C 103 rfl dX0_holders_102 ?_
      refine g_istore_n [(3, .int ((10 * x3) + 1)), (5, .int (x5 - 1)), (8, .int 1), (7, .int r1), (0, .ref (a 0)), (4, .int x4), (6, .int x6)] C 104 rfl dX0_holders_103 (Nat.le_of_ble_eq_true rfl) rfl ?_
      refine g_iinc (x6 + 1) [(6, .int (x6 + 1)), (3, .int ((10 * x3) + 1)), (5, .int (x5 - 1)), (8, .int 1), (7, .int r1), (0, .ref (a 0)), (4, .int x4)] C 107 rfl dX0_holders_104 6 rfl (ii_1 _) (Nat.le_of_ble_eq_true rfl) rfl ?_
      refine g_goto C 11 dX0_holders_107 (by decide) ?_
      exact g_sub [5, 1, 6, 2, 0] rfl (ih ((10 * x3) + 1) x4 (x5 - 1) (x6 + 1) _ hq E2)
  obtain ⟨o7, ho8, hq⟩ := bindE hq
  refine g_sub [4, 3, 2, 1, 0] rfl (Q11  FUEL 0 x1 x2 0 o7 ho8 (?_))
  refine g_iload_n C 111 rfl dX0_holders_110 0 rfl ?_
  exact r_int hR hq dX0_holders_111 rfl rfl
