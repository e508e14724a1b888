set_option maxHeartbeats 400000 in
set_option maxRecDepth 100000 in
theorem c_X8_one (l : Launch) (Δ : gD) (a : Nat → Nat) (x1 : Int32) (x2 : Int32) (x3 : Int32) (x4 : Int32) (x5 : Int32) (s : S8) {res : Int32 × S8} (hq : sem_X8_one x1 x2 x3 x4 x5 s = some res) : MW l yX8_one cX8_one 6 (some .int) Δ (cs8 a Δ s) [.ref (a 0), .int x1, .int x2, .int x3, .int x4, .int x5] 2 48 (some (.int res.1)) (cs8 a Δ res.2) := by
  refine MW.of (by decide) (Nat.le_of_ble_eq_true rfl) ?_
  intro Γ A H hl C hK hP hD hS hA hR
  subst hl
  show g Γ { frames := 2, cells := 0, slots := 0, locals := 48 } 6 H [] 0 0 0 [(0, .ref (a 0)), (1, .int x1), (2, .int x2), (3, .int x3), (4, .int x4), (5, .int x5)] []
  refine g_iload_n C 1 rfl dX8_one_0 1 rfl ?_
  refine g_iconst 0 C 2 rfl dX8_one_1 ki_0 ?_
  refine g_iconst 5 C 3 rfl dX8_one_2 ki_5 ?_
  obtain ⟨r1, hz2, hq⟩ := bindE hq
  refine g_callRS (rest := []) C 6 rfl dX8_one_3 (c_X8_within Γ.2.1 Δ  x1 0 5  hz2) mv_X8_within (Or.inl ml_X8_69) hK rfl rfl ⟨Nat.le_of_ble_eq_true rfl, Nat.le_of_ble_eq_true rfl⟩ (Nat.le_of_ble_eq_true rfl) ⟨Nat.zero_le _, Nat.zero_le _⟩ ?_
  refine s_if_ne C 11 9 rfl dX8_one_6 (by decide) hq (fun hq => ?_) (fun hq => ?_)
  rotate_left
  · refine g_iconst (-1) C 10 rfl dX8_one_9 ki_m1 ?_
    exact w_int (ws := fun s => cs8 a Δ s) hR hq hP hS dX8_one_10 rfl rfl
  refine g_iload_n C 12 rfl dX8_one_11 2 rfl ?_
  refine g_iconst 0 C 13 rfl dX8_one_12 ki_0 ?_
  refine g_aload_n C 14 rfl dX8_one_13 0 rfl ?_
  refine g_get (v := .ref (a 1)) (fs := fl8 a s) C 17 rfl dX8_one_14 hK hP la_X8 0 0 (Nat.le_of_ble_eq_true rfl) fl_X8_10 rfl rfl rfl rfl ?_
  refine g_get (v := .int (x6_limit (x8_town s))) (fs := fl6 (fun i => a (i + 1)) (x8_town s)) C 20 rfl dX8_one_17 hK hP la_X6 1 3 (Nat.le_of_ble_eq_true rfl) fl_X8_73 rfl rfl rfl rfl ?_
  obtain ⟨r3, hz4, hq⟩ := bindE hq
  refine g_callRS (rest := []) C 23 rfl dX8_one_20 (c_X8_within Γ.2.1 Δ  x2 0 (x6_limit (x8_town s))  hz4) mv_X8_within (Or.inl ml_X8_69) hK rfl rfl ⟨Nat.le_of_ble_eq_true rfl, Nat.le_of_ble_eq_true rfl⟩ (Nat.le_of_ble_eq_true rfl) ⟨Nat.zero_le _, Nat.zero_le _⟩ ?_
  refine s_if_eq C 59 26 rfl dX8_one_23 (by decide) hq (fun hq => ?_) (fun hq => ?_)
  · refine g_bipush (-2) C 61 rfl dX8_one_59 kb_m2 ?_
    exact w_int (ws := fun s => cs8 a Δ s) hR hq hP hS dX8_one_61 rfl rfl
  refine g_iload_n C 27 rfl dX8_one_26 3 rfl ?_
  refine g_iconst 0 C 28 rfl dX8_one_27 ki_0 ?_
  refine g_bipush 99 C 30 rfl dX8_one_28 kb_99 ?_
  obtain ⟨r5, hz6, hq⟩ := bindE hq
  refine g_callRS (rest := []) C 33 rfl dX8_one_30 (c_X8_within Γ.2.1 Δ  x3 0 99  hz6) mv_X8_within (Or.inl ml_X8_69) hK rfl rfl ⟨Nat.le_of_ble_eq_true rfl, Nat.le_of_ble_eq_true rfl⟩ (Nat.le_of_ble_eq_true rfl) ⟨Nat.zero_le _, Nat.zero_le _⟩ ?_
  refine s_if_eq C 59 36 rfl dX8_one_33 (by decide) hq (fun hq => ?_) (fun hq => ?_)
  · refine g_bipush (-2) C 61 rfl dX8_one_59 kb_m2 ?_
    exact w_int (ws := fun s => cs8 a Δ s) hR hq hP hS dX8_one_61 rfl rfl
  refine g_iload C 38 rfl dX8_one_36 4 rfl ?_
  refine g_iconst 0 C 39 rfl dX8_one_38 ki_0 ?_
  refine g_sipush 999 C 42 rfl dX8_one_39 ks_999 ?_
  obtain ⟨r7, hz8, hq⟩ := bindE hq
  refine g_callRS (rest := []) C 45 rfl dX8_one_42 (c_X8_within Γ.2.1 Δ  x4 0 999  hz8) mv_X8_within (Or.inl ml_X8_69) hK rfl rfl ⟨Nat.le_of_ble_eq_true rfl, Nat.le_of_ble_eq_true rfl⟩ (Nat.le_of_ble_eq_true rfl) ⟨Nat.zero_le _, Nat.zero_le _⟩ ?_
  refine s_if_eq C 59 48 rfl dX8_one_45 (by decide) hq (fun hq => ?_) (fun hq => ?_)
  · refine g_bipush (-2) C 61 rfl dX8_one_59 kb_m2 ?_
    exact w_int (ws := fun s => cs8 a Δ s) hR hq hP hS dX8_one_61 rfl rfl
  refine g_iload C 50 rfl dX8_one_48 5 rfl ?_
  refine g_iconst 0 C 51 rfl dX8_one_50 ki_0 ?_
  refine g_bipush 9 C 53 rfl dX8_one_51 kb_9 ?_
  obtain ⟨r9, hz10, hq⟩ := bindE hq
  refine g_callRS (rest := []) C 56 rfl dX8_one_53 (c_X8_within Γ.2.1 Δ  x5 0 9  hz10) mv_X8_within (Or.inl ml_X8_69) hK rfl rfl ⟨Nat.le_of_ble_eq_true rfl, Nat.le_of_ble_eq_true rfl⟩ (Nat.le_of_ble_eq_true rfl) ⟨Nat.zero_le _, Nat.zero_le _⟩ ?_
  refine s_if_ne C 62 59 rfl dX8_one_56 (by decide) hq (fun hq => ?_) (fun hq => ?_)
  rotate_left
  · refine g_bipush (-2) C 61 rfl dX8_one_59 kb_m2 ?_
    exact w_int (ws := fun s => cs8 a Δ s) hR hq hP hS dX8_one_61 rfl rfl
  refine g_aload_n C 63 rfl dX8_one_62 0 rfl ?_
  refine g_get (v := .ref (a 1)) (fs := fl8 a s) C 66 rfl dX8_one_63 hK hP la_X8 0 0 (Nat.le_of_ble_eq_true rfl) fl_X8_10 rfl rfl rfl rfl ?_
  refine g_iload_n C 67 rfl dX8_one_66 1 rfl ?_
  refine g_iload_n C 68 rfl dX8_one_67 2 rfl ?_
  refine g_iload_n C 69 rfl dX8_one_68 3 rfl ?_
  refine g_iload C 71 rfl dX8_one_69 4 rfl ?_
  refine g_iload C 73 rfl dX8_one_71 5 rfl ?_
  obtain ⟨r11, hz12, hq⟩ := bindE hq
  refine g_callWV (rest := []) (cs8 a Δ (p8_town s r11)) C 76 rfl dX8_one_73 (c_X6_settle Γ.2.1 Δ (fun i => a (i + 1)) x1 x2 x3 x4 x5 (x8_town s) hz12) mv_X6_settle ml_X8_77 hK hP hD hS hA (scl_61 a Δ s r11) rfl rfl rfl rfl rfl ⟨Nat.le_of_ble_eq_true rfl, Nat.le_of_ble_eq_true rfl⟩ (Nat.le_of_ble_eq_true rfl) ⟨Nat.zero_le _, Nat.zero_le _⟩ (fun H L hP hD hS => ?_)
  refine g_aload_n C 77 rfl dX8_one_76 0 rfl ?_
  refine g_get (v := .ref (a 1)) (fs := fl8 a (p8_town s r11)) C 80 rfl dX8_one_77 hK hP la_X8 0 0 (Nat.le_of_ble_eq_true rfl) fl_X8_10 rfl rfl rfl rfl ?_
  obtain ⟨r13, hz14, hq⟩ := bindE hq
  refine g_callRV (rest := []) C 83 rfl dX8_one_80 (c_X6_count Γ.2.1 Δ (fun i => a (i + 1))  (x8_town (p8_town s r11)) hz14) mv_X6_count ml_X8_81 hK (sct_62 a Δ (p8_town s r11) hP) rfl rfl rfl rfl rfl ⟨Nat.le_of_ble_eq_true rfl, Nat.le_of_ble_eq_true rfl⟩ (Nat.le_of_ble_eq_true rfl) ⟨Nat.zero_le _, Nat.zero_le _⟩ ?_
  exact w_int (ws := fun s => cs8 a Δ s) hR hq hP hS dX8_one_83 rfl rfl
set_option maxHeartbeats 400000 in
set_option maxRecDepth 100000 in
theorem c_X8_leave (l : Launch) (Δ : gD) (a : Nat → Nat) (x1 : Int32) (s : S8) {res : Int32 × S8} (hq : sem_X8_leave x1 s = some res) : MW l yX8_leave cX8_leave 2 (some .int) Δ (cs8 a Δ s) [.ref (a 0), .int x1] 2 40 (some (.int res.1)) (cs8 a Δ res.2) := by
  refine MW.of (by decide) (Nat.le_of_ble_eq_true rfl) ?_
  intro Γ A H hl C hK hP hD hS hA hR
  subst hl
  show g Γ { frames := 2, cells := 0, slots := 0, locals := 40 } 2 H [] 0 0 0 [(0, .ref (a 0)), (1, .int x1)] []
  refine g_aload_n C 1 rfl dX8_leave_0 0 rfl ?_
  refine g_get (v := .ref (a 1)) (fs := fl8 a s) C 4 rfl dX8_leave_1 hK hP la_X8 0 0 (Nat.le_of_ble_eq_true rfl) fl_X8_10 rfl rfl rfl rfl ?_
  refine g_iload_n C 5 rfl dX8_leave_4 1 rfl ?_
  obtain ⟨r1, hz2, hq⟩ := bindE hq
  refine g_callRV (rest := []) C 8 rfl dX8_leave_5 (c_X6_has Γ.2.1 Δ (fun i => a (i + 1)) x1 (x8_town s) hz2) mv_X6_has ml_X8_85 hK (sct_62 a Δ s hP) rfl rfl rfl rfl rfl ⟨Nat.le_of_ble_eq_true rfl, Nat.le_of_ble_eq_true rfl⟩ (Nat.le_of_ble_eq_true rfl) ⟨Nat.zero_le _, Nat.zero_le _⟩ ?_
  refine s_if_ne C 13 11 rfl dX8_leave_8 (by decide) hq (fun hq => ?_) (fun hq => ?_)
  rotate_left
  · refine g_iconst (-1) C 12 rfl dX8_leave_11 ki_m1 ?_
    exact w_int (ws := fun s => cs8 a Δ s) hR hq hP hS dX8_leave_12 rfl rfl
  refine g_aload_n C 14 rfl dX8_leave_13 0 rfl ?_
  refine g_get (v := .ref (a 1)) (fs := fl8 a s) C 17 rfl dX8_leave_14 hK hP la_X8 0 0 (Nat.le_of_ble_eq_true rfl) fl_X8_10 rfl rfl rfl rfl ?_
  refine g_iload_n C 18 rfl dX8_leave_17 1 rfl ?_
  obtain ⟨r3, hz4, hq⟩ := bindE hq
  refine g_callWV (rest := []) (cs8 a Δ (p8_town s r3)) C 21 rfl dX8_leave_18 (c_X6_remove Γ.2.1 Δ (fun i => a (i + 1)) x1 (x8_town s) hz4) mv_X6_remove ml_X8_89 hK hP hD hS hA (scl_61 a Δ s r3) rfl rfl rfl rfl rfl ⟨Nat.le_of_ble_eq_true rfl, Nat.le_of_ble_eq_true rfl⟩ (Nat.le_of_ble_eq_true rfl) ⟨Nat.zero_le _, Nat.zero_le _⟩ (fun H L hP hD hS => ?_)
  refine g_aload_n C 22 rfl dX8_leave_21 0 rfl ?_
  refine g_get (v := .ref (a 1)) (fs := fl8 a (p8_town s r3)) C 25 rfl dX8_leave_22 hK hP la_X8 0 0 (Nat.le_of_ble_eq_true rfl) fl_X8_10 rfl rfl rfl rfl ?_
  obtain ⟨r5, hz6, hq⟩ := bindE hq
  refine g_callRV (rest := []) C 28 rfl dX8_leave_25 (c_X6_count Γ.2.1 Δ (fun i => a (i + 1))  (x8_town (p8_town s r3)) hz6) mv_X6_count ml_X8_81 hK (sct_62 a Δ (p8_town s r3) hP) rfl rfl rfl rfl rfl ⟨Nat.le_of_ble_eq_true rfl, Nat.le_of_ble_eq_true rfl⟩ (Nat.le_of_ble_eq_true rfl) ⟨Nat.zero_le _, Nat.zero_le _⟩ ?_
  exact w_int (ws := fun s => cs8 a Δ s) hR hq hP hS dX8_leave_28 rfl rfl
set_option maxHeartbeats 400000 in
set_option maxRecDepth 100000 in
theorem c_X8_permit (l : Launch) (Δ : gD) (a : Nat → Nat) (x1 : Int32) (x2 : Int32) (s : S8) {res : Int32 × S8} (hq : sem_X8_permit x1 x2 s = some res) : MW l yX8_permit cX8_permit 4 (some .int) Δ (cs8 a Δ s) [.ref (a 0), .int x1, .int x2] 1 23 (some (.int res.1)) (cs8 a Δ res.2) := by
  refine MW.of (by decide) (Nat.le_of_ble_eq_true rfl) ?_
  intro Γ A H hl C hK hP hD hS hA hR
  subst hl
  show g Γ { frames := 1, cells := 0, slots := 0, locals := 23 } 4 H [] 0 0 0 [(0, .ref (a 0)), (1, .int x1), (2, .int x2)] []
  refine g_aload_n C 1 rfl dX8_permit_0 0 rfl ?_
  refine g_get (v := .ref (a 1)) (fs := fl8 a s) C 4 rfl dX8_permit_1 hK hP la_X8 0 0 (Nat.le_of_ble_eq_true rfl) fl_X8_10 rfl rfl rfl rfl ?_
  refine g_iload_n C 5 rfl dX8_permit_4 1 rfl ?_
  obtain ⟨r1, hz2, hq⟩ := bindE hq
  refine g_callRV (rest := []) C 8 rfl dX8_permit_5 (c_X6_has Γ.2.1 Δ (fun i => a (i + 1)) x1 (x8_town s) hz2) mv_X6_has ml_X8_85 hK (sct_62 a Δ s hP) rfl rfl rfl rfl rfl ⟨Nat.le_of_ble_eq_true rfl, Nat.le_of_ble_eq_true rfl⟩ (Nat.le_of_ble_eq_true rfl) ⟨Nat.zero_le _, Nat.zero_le _⟩ ?_
  refine s_if_ne C 13 11 rfl dX8_permit_8 (by decide) hq (fun hq => ?_) (fun hq => ?_)
  rotate_left
  · refine g_iconst (-1) C 12 rfl dX8_permit_11 ki_m1 ?_
    exact w_int (ws := fun s => cs8 a Δ s) hR hq hP hS dX8_permit_12 rfl rfl
  refine g_iload_n C 14 rfl dX8_permit_13 2 rfl ?_
  refine g_iconst 0 C 15 rfl dX8_permit_14 ki_0 ?_
  refine g_bipush 15 C 17 rfl dX8_permit_15 kb_15 ?_
  obtain ⟨r3, hz4, hq⟩ := bindE hq
  refine g_callRS (rest := []) C 20 rfl dX8_permit_17 (c_X8_within Γ.2.1 Δ  x2 0 15  hz4) mv_X8_within (Or.inl ml_X8_69) hK rfl rfl ⟨Nat.le_of_ble_eq_true rfl, Nat.le_of_ble_eq_true rfl⟩ (Nat.le_of_ble_eq_true rfl) ⟨Nat.zero_le _, Nat.zero_le _⟩ ?_
  refine s_if_ne C 26 23 rfl dX8_permit_20 (by decide) hq (fun hq => ?_) (fun hq => ?_)
  rotate_left
  · refine g_bipush (-2) C 25 rfl dX8_permit_23 kb_m2 ?_
    exact w_int (ws := fun s => cs8 a Δ s) hR hq hP hS dX8_permit_25 rfl rfl
  refine g_aload_n C 27 rfl dX8_permit_26 0 rfl ?_
  refine g_get (v := .ref (a 1)) (fs := fl8 a s) C 30 rfl dX8_permit_27 hK hP la_X8 0 0 (Nat.le_of_ble_eq_true rfl) fl_X8_10 rfl rfl rfl rfl ?_
  refine g_iload_n C 31 rfl dX8_permit_30 1 rfl ?_
  refine g_iconst 1 C 32 rfl dX8_permit_31 ki_1 ?_
  obtain ⟨r5, hz6, hq⟩ := bindE hq
  refine g_callRV (rest := []) C 35 rfl dX8_permit_32 (c_X6_get Γ.2.1 Δ (fun i => a (i + 1)) x1 1 (x8_town s) hz6) mv_X6_get ml_X8_93 hK (sct_62 a Δ s hP) rfl rfl rfl rfl rfl ⟨Nat.le_of_ble_eq_true rfl, Nat.le_of_ble_eq_true rfl⟩ (Nat.le_of_ble_eq_true rfl) ⟨Nat.zero_le _, Nat.zero_le _⟩ ?_
  refine g_istore_n [(3, .int r5), (0, .ref (a 0)), (1, .int x1), (2, .int x2)] C 36 rfl dX8_permit_35 (Nat.le_of_ble_eq_true rfl) rfl ?_
  refine g_aload_n C 37 rfl dX8_permit_36 1 rfl ?_
  refine g_get (v := .ref (a 1)) (fs := fl8 a s) C 40 rfl dX8_permit_37 hK hP la_X8 0 0 (Nat.le_of_ble_eq_true rfl) fl_X8_10 rfl rfl rfl rfl ?_
  refine g_iload_n C 41 rfl dX8_permit_40 2 rfl ?_
  refine g_iconst 1 C 42 rfl dX8_permit_41 ki_1 ?_
  refine g_iload_n C 43 rfl dX8_permit_42 3 rfl ?_
  obtain ⟨r7, hz8, hq⟩ := bindE hq
  refine g_callWV (rest := []) (cs8 a Δ (p8_town s r7)) C 46 rfl dX8_permit_43 (c_X6_put Γ.2.1 Δ (fun i => a (i + 1)) x1 1 x2 (x8_town s) hz8) mv_X6_put ml_X8_97 hK hP hD hS hA (scl_61 a Δ s r7) rfl rfl rfl rfl rfl ⟨Nat.le_of_ble_eq_true rfl, Nat.le_of_ble_eq_true rfl⟩ (Nat.le_of_ble_eq_true rfl) ⟨Nat.zero_le _, Nat.zero_le _⟩ (fun H L hP hD hS => ?_)
  refine g_iload_n C 47 rfl dX8_permit_46 0 rfl ?_
  exact w_int (ws := fun s => cs8 a Δ s) hR hq hP hS dX8_permit_47 rfl rfl
set_option maxHeartbeats 400000 in
set_option maxRecDepth 100000 in
theorem c_X8_setLimit (l : Launch) (Δ : gD) (a : Nat → Nat) (x1 : Int32) (s : S8) {res : Int32 × S8} (hq : sem_X8_setLimit x1 s = some res) : MW l yX8_setLimit cX8_setLimit 3 (some .int) Δ (cs8 a Δ s) [.ref (a 0), .int x1] 2 46 (some (.int res.1)) (cs8 a Δ res.2) := by
  refine MW.of (by decide) (Nat.le_of_ble_eq_true rfl) ?_
  intro Γ A H hl C hK hP hD hS hA hR
  subst hl
  show g Γ { frames := 2, cells := 0, slots := 0, locals := 46 } 3 H [] 0 0 0 [(0, .ref (a 0)), (1, .int x1)] []
  refine g_iload_n C 1 rfl dX8_setLimit_0 1 rfl ?_
  refine g_iconst 1 C 2 rfl dX8_setLimit_1 ki_1 ?_
  refine g_bipush 20 C 4 rfl dX8_setLimit_2 kb_20 ?_
  obtain ⟨r1, hz2, hq⟩ := bindE hq
  refine g_callRS (rest := []) C 7 rfl dX8_setLimit_4 (c_X8_within Γ.2.1 Δ  x1 1 20  hz2) mv_X8_within (Or.inl ml_X8_69) hK rfl rfl ⟨Nat.le_of_ble_eq_true rfl, Nat.le_of_ble_eq_true rfl⟩ (Nat.le_of_ble_eq_true rfl) ⟨Nat.zero_le _, Nat.zero_le _⟩ ?_
  refine s_if_ne C 13 10 rfl dX8_setLimit_7 (by decide) hq (fun hq => ?_) (fun hq => ?_)
  rotate_left
  · refine g_bipush (-2) C 12 rfl dX8_setLimit_10 kb_m2 ?_
    exact w_int (ws := fun s => cs8 a Δ s) hR hq hP hS dX8_setLimit_12 rfl rfl
  refine g_aload_n C 14 rfl dX8_setLimit_13 0 rfl ?_
  refine g_get (v := .ref (a 1)) (fs := fl8 a s) C 17 rfl dX8_setLimit_14 hK hP la_X8 0 0 (Nat.le_of_ble_eq_true rfl) fl_X8_10 rfl rfl rfl rfl ?_
  obtain ⟨r3, hz4, hq⟩ := bindE hq
  refine g_callRV (rest := []) C 20 rfl dX8_setLimit_17 (c_X6_highestTemper Γ.2.1 Δ (fun i => a (i + 1))  (x8_town s) hz4) mv_X6_highestTemper ml_X8_108 hK (sct_62 a Δ s hP) rfl rfl rfl rfl rfl ⟨Nat.le_of_ble_eq_true rfl, Nat.le_of_ble_eq_true rfl⟩ (Nat.le_of_ble_eq_true rfl) ⟨Nat.zero_le _, Nat.zero_le _⟩ ?_
  refine g_iload_n C 21 rfl dX8_setLimit_20 1 rfl ?_
  refine s_icmp_le C 27 24 rfl dX8_setLimit_21 (by decide) hq (fun hq => ?_) (fun hq => ?_)
  rotate_left
  · refine g_bipush (-3) C 26 rfl dX8_setLimit_24 kb_m3 ?_
    exact w_int (ws := fun s => cs8 a Δ s) hR hq hP hS dX8_setLimit_26 rfl rfl
  refine g_aload_n C 28 rfl dX8_setLimit_27 0 rfl ?_
  refine g_get (v := .ref (a 1)) (fs := fl8 a s) C 31 rfl dX8_setLimit_28 hK hP la_X8 0 0 (Nat.le_of_ble_eq_true rfl) fl_X8_10 rfl rfl rfl rfl ?_
  refine g_get (v := .int (x6_limit (x8_town s))) (fs := fl6 (fun i => a (i + 1)) (x8_town s)) C 34 rfl dX8_setLimit_31 hK hP la_X6 1 3 (Nat.le_of_ble_eq_true rfl) fl_X8_73 rfl rfl rfl rfl ?_
  refine g_istore_n [(2, .int (x6_limit (x8_town s))), (0, .ref (a 0)), (1, .int x1)] C 35 rfl dX8_setLimit_34 (Nat.le_of_ble_eq_true rfl) rfl ?_
  refine g_aload_n C 36 rfl dX8_setLimit_35 1 rfl ?_
  refine g_get (v := .ref (a 1)) (fs := fl8 a s) C 39 rfl dX8_setLimit_36 hK hP la_X8 0 0 (Nat.le_of_ble_eq_true rfl) fl_X8_10 rfl rfl rfl rfl ?_
  refine g_iload_n C 40 rfl dX8_setLimit_39 2 rfl ?_
  refine g_put (fs := fl6 (fun i => a (i + 1)) (x8_town s)) (cs8 a Δ (p8_town s (p6_limit (x8_town s) x1))) C 43 rfl dX8_setLimit_40 hK hP hD hS la_X6 tyX6_ok nmX6 1 3 (Nat.le_of_ble_eq_true rfl) fl_X8_73 rfl rfl rfl rfl rfl rfl (Nat.le_of_ble_eq_true rfl) (sst_63 a Δ s x1) (fun H L hP hD hS => ?_)
  refine g_iload_n C 44 rfl dX8_setLimit_43 0 rfl ?_
  exact w_int (ws := fun s => cs8 a Δ s) hR hq hP hS dX8_setLimit_44 rfl rfl
set_option maxHeartbeats 400000 in
set_option maxRecDepth 100000 in
theorem c_X8_setEars (l : Launch) (Δ : gD) (a : Nat → Nat) (x1 : Int32) (s : S8) {res : Int32 × S8} (hq : sem_X8_setEars x1 s = some res) : MW l yX8_setEars cX8_setEars 3 (some .int) Δ (cs8 a Δ s) [.ref (a 0), .int x1] 1 22 (some (.int res.1)) (cs8 a Δ res.2) := by
  refine MW.of (by decide) (Nat.le_of_ble_eq_true rfl) ?_
  intro Γ A H hl C hK hP hD hS hA hR
  subst hl
  show g Γ { frames := 1, cells := 0, slots := 0, locals := 22 } 3 H [] 0 0 0 [(0, .ref (a 0)), (1, .int x1)] []
  refine g_iload_n C 1 rfl dX8_setEars_0 1 rfl ?_
  refine g_iconst 0 C 2 rfl dX8_setEars_1 ki_0 ?_
  refine g_bipush 9 C 4 rfl dX8_setEars_2 kb_9 ?_
  obtain ⟨r1, hz2, hq⟩ := bindE hq
  refine g_callRS (rest := []) C 7 rfl dX8_setEars_4 (c_X8_within Γ.2.1 Δ  x1 0 9  hz2) mv_X8_within (Or.inl ml_X8_69) hK rfl rfl ⟨Nat.le_of_ble_eq_true rfl, Nat.le_of_ble_eq_true rfl⟩ (Nat.le_of_ble_eq_true rfl) ⟨Nat.zero_le _, Nat.zero_le _⟩ ?_
  refine s_if_ne C 13 10 rfl dX8_setEars_7 (by decide) hq (fun hq => ?_) (fun hq => ?_)
  rotate_left
  · refine g_bipush (-2) C 12 rfl dX8_setEars_10 kb_m2 ?_
    exact w_int (ws := fun s => cs8 a Δ s) hR hq hP hS dX8_setEars_12 rfl rfl
  refine g_aload_n C 14 rfl dX8_setEars_13 0 rfl ?_
  refine g_get (v := .ref (a 1)) (fs := fl8 a s) C 17 rfl dX8_setEars_14 hK hP la_X8 0 0 (Nat.le_of_ble_eq_true rfl) fl_X8_10 rfl rfl rfl rfl ?_
  refine g_get (v := .int (x6_ears (x8_town s))) (fs := fl6 (fun i => a (i + 1)) (x8_town s)) C 20 rfl dX8_setEars_17 hK hP la_X6 1 4 (Nat.le_of_ble_eq_true rfl) fl_X8_111 rfl rfl rfl rfl ?_
  refine g_istore_n [(2, .int (x6_ears (x8_town s))), (0, .ref (a 0)), (1, .int x1)] C 21 rfl dX8_setEars_20 (Nat.le_of_ble_eq_true rfl) rfl ?_
  refine g_aload_n C 22 rfl dX8_setEars_21 1 rfl ?_
  refine g_get (v := .ref (a 1)) (fs := fl8 a s) C 25 rfl dX8_setEars_22 hK hP la_X8 0 0 (Nat.le_of_ble_eq_true rfl) fl_X8_10 rfl rfl rfl rfl ?_
  refine g_iload_n C 26 rfl dX8_setEars_25 2 rfl ?_
  refine g_put (fs := fl6 (fun i => a (i + 1)) (x8_town s)) (cs8 a Δ (p8_town s (p6_ears (x8_town s) x1))) C 29 rfl dX8_setEars_26 hK hP hD hS la_X6 tyX6_ok nmX6 1 4 (Nat.le_of_ble_eq_true rfl) fl_X8_111 rfl rfl rfl rfl rfl rfl (Nat.le_of_ble_eq_true rfl) (sst_64 a Δ s x1) (fun H L hP hD hS => ?_)
  refine g_iload_n C 30 rfl dX8_setEars_29 0 rfl ?_
  exact w_int (ws := fun s => cs8 a Δ s) hR hq hP hS dX8_setEars_30 rfl rfl
set_option maxHeartbeats 400000 in
set_option maxRecDepth 100000 in
theorem c_X8_set (l : Launch) (Δ : gD) (a : Nat → Nat) (x1 : Int32) (x2 : Int32) (s : S8) {res : Int32 × S8} (hq : sem_X8_set x1 x2 s = some res) : MW l yX8_set cX8_set 3 (some .int) Δ (cs8 a Δ s) [.ref (a 0), .int x1, .int x2] 3 68 (some (.int res.1)) (cs8 a Δ res.2) := by
  refine MW.of (by decide) (Nat.le_of_ble_eq_true rfl) ?_
  intro Γ A H hl C hK hP hD hS hA hR
  subst hl
  show g Γ { frames := 3, cells := 0, slots := 0, locals := 68 } 3 H [] 0 0 0 [(0, .ref (a 0)), (1, .int x1), (2, .int x2)] []
  refine g_iload_n C 1 rfl dX8_set_0 1 rfl ?_
  refine s_if_ne C 10 4 rfl dX8_set_1 (by decide) hq (fun hq => ?_) (fun hq => ?_)
  rotate_left
  · refine g_aload_n C 5 rfl dX8_set_4 0 rfl ?_
    refine g_iload_n C 6 rfl dX8_set_5 2 rfl ?_
    obtain ⟨r3, hz4, hq⟩ := bindE hq
    refine g_callWV (rest := []) (cs8 a Δ r3.2) C 9 rfl dX8_set_6 (c_X8_setLimit Γ.2.1 Δ a x2 s hz4) mv_X8_setLimit ml_X8_101 hK hP hD hS hA (scl_65 a Δ s r3.2) rfl rfl rfl rfl rfl ⟨Nat.le_of_ble_eq_true rfl, Nat.le_of_ble_eq_true rfl⟩ (Nat.le_of_ble_eq_true rfl) ⟨Nat.zero_le _, Nat.zero_le _⟩ (fun H L hP hD hS => ?_)
    exact w_int (ws := fun s => cs8 a Δ s) hR hq hP hS dX8_set_9 rfl rfl
  refine g_iload_n C 11 rfl dX8_set_10 1 rfl ?_
  refine g_iconst 1 C 12 rfl dX8_set_11 ki_1 ?_
  refine s_icmp_ne C 21 15 rfl dX8_set_12 (by decide) hq (fun hq => ?_) (fun hq => ?_)
  · refine g_bipush (-2) C 23 rfl dX8_set_21 kb_m2 ?_
    exact w_int (ws := fun s => cs8 a Δ s) hR hq hP hS dX8_set_23 rfl rfl
  refine g_aload_n C 16 rfl dX8_set_15 0 rfl ?_
  refine g_iload_n C 17 rfl dX8_set_16 2 rfl ?_
  obtain ⟨r1, hz2, hq⟩ := bindE hq
  refine g_callWV (rest := []) (cs8 a Δ r1.2) C 20 rfl dX8_set_17 (c_X8_setEars Γ.2.1 Δ a x2 s hz2) mv_X8_setEars ml_X8_105 hK hP hD hS hA (scl_65 a Δ s r1.2) rfl rfl rfl rfl rfl ⟨Nat.le_of_ble_eq_true rfl, Nat.le_of_ble_eq_true rfl⟩ (Nat.le_of_ble_eq_true rfl) ⟨Nat.zero_le _, Nat.zero_le _⟩ (fun H L hP hD hS => ?_)
  exact w_int (ws := fun s => cs8 a Δ s) hR hq hP hS dX8_set_20 rfl rfl
set_option maxHeartbeats 400000 in
set_option maxRecDepth 100000 in
theorem c_X8_say (l : Launch) (Δ : gD) (a : Nat → Nat) (x1 : Int32) (s : S8) {res : Int32 × S8} (hq : sem_X8_say x1 s = some res) : MW l yX8_say cX8_say 2 (some .int) Δ (cs8 a Δ s) [.ref (a 0), .int x1] 2 43 (some (.int res.1)) (cs8 a Δ res.2) := by
  refine MW.of (by decide) (Nat.le_of_ble_eq_true rfl) ?_
  intro Γ A H hl C hK hP hD hS hA hR
  subst hl
  show g Γ { frames := 2, cells := 0, slots := 0, locals := 43 } 2 H [] 0 0 0 [(0, .ref (a 0)), (1, .int x1)] []
  refine g_iload_n C 1 rfl dX8_say_0 1 rfl ?_
  refine g_bipush 33 C 3 rfl dX8_say_1 kb_33 ?_
  refine g_bipush 126 C 5 rfl dX8_say_3 kb_126 ?_
  obtain ⟨r1, hz2, hq⟩ := bindE hq
  refine g_callRS (rest := []) C 8 rfl dX8_say_5 (c_X8_within Γ.2.1 Δ  x1 33 126  hz2) mv_X8_within (Or.inl ml_X8_69) hK rfl rfl ⟨Nat.le_of_ble_eq_true rfl, Nat.le_of_ble_eq_true rfl⟩ (Nat.le_of_ble_eq_true rfl) ⟨Nat.zero_le _, Nat.zero_le _⟩ ?_
  refine s_if_ne C 14 11 rfl dX8_say_8 (by decide) hq (fun hq => ?_) (fun hq => ?_)
  rotate_left
  · refine g_bipush (-2) C 13 rfl dX8_say_11 kb_m2 ?_
    exact w_int (ws := fun s => cs8 a Δ s) hR hq hP hS dX8_say_13 rfl rfl
  refine g_aload_n C 15 rfl dX8_say_14 0 rfl ?_
  refine g_get (v := .ref (a 4)) (fs := fl8 a s) C 18 rfl dX8_say_15 hK hP la_X8 0 1 (Nat.le_of_ble_eq_true rfl) fl_X8_19 rfl rfl rfl rfl ?_
  refine g_get (v := .int (x3_count (x8_pad s))) (fs := fl3 (fun i => a (i + 4)) (x8_pad s)) C 21 rfl dX8_say_18 hK hP la_X3 4 1 (Nat.le_of_ble_eq_true rfl) fl_X8_114 rfl rfl rfl rfl ?_
  refine g_bipush 60 C 23 rfl dX8_say_21 kb_60 ?_
  refine s_icmp_lt C 29 26 rfl dX8_say_23 (by decide) hq (fun hq => ?_) (fun hq => ?_)
  rotate_left
  · refine g_bipush (-4) C 28 rfl dX8_say_26 kb_m4 ?_
    exact w_int (ws := fun s => cs8 a Δ s) hR hq hP hS dX8_say_28 rfl rfl
  refine g_aload_n C 30 rfl dX8_say_29 0 rfl ?_
  refine g_get (v := .ref (a 4)) (fs := fl8 a s) C 33 rfl dX8_say_30 hK hP la_X8 0 1 (Nat.le_of_ble_eq_true rfl) fl_X8_19 rfl rfl rfl rfl ?_
  refine g_iload_n C 34 rfl dX8_say_33 1 rfl ?_
  obtain ⟨r3, hz4, hq⟩ := bindE hq
  refine g_callWV (rest := []) (cs8 a Δ (p8_pad s r3)) C 37 rfl dX8_say_34 (c_X3_add Γ.2.1 Δ (fun i => a (i + 4)) x1 (x8_pad s) hz4) mv_X3_add ml_X8_116 hK hP hD hS hA (scl_66 a Δ s r3) rfl rfl rfl rfl rfl ⟨Nat.le_of_ble_eq_true rfl, Nat.le_of_ble_eq_true rfl⟩ (Nat.le_of_ble_eq_true rfl) ⟨Nat.zero_le _, Nat.zero_le _⟩ (fun H L hP hD hS => ?_)
  refine g_aload_n C 38 rfl dX8_say_37 0 rfl ?_
  refine g_get (v := .ref (a 4)) (fs := fl8 a (p8_pad s r3)) C 41 rfl dX8_say_38 hK hP la_X8 0 1 (Nat.le_of_ble_eq_true rfl) fl_X8_19 rfl rfl rfl rfl ?_
  refine g_get (v := .int (x3_count (x8_pad (p8_pad s r3)))) (fs := fl3 (fun i => a (i + 4)) (x8_pad (p8_pad s r3))) C 44 rfl dX8_say_41 hK hP la_X3 4 1 (Nat.le_of_ble_eq_true rfl) fl_X8_114 rfl rfl rfl rfl ?_
  exact w_int (ws := fun s => cs8 a Δ s) hR hq hP hS dX8_say_44 rfl rfl
set_option maxHeartbeats 400000 in
set_option maxRecDepth 100000 in
theorem c_X8_wipe (l : Launch) (Δ : gD) (a : Nat → Nat)  (s : S8) {res : Int32 × S8} (hq : sem_X8_wipe  s = some res) : MW l yX8_wipe cX8_wipe 2 (some .int) Δ (cs8 a Δ s) [.ref (a 0)] 0 0 (some (.int res.1)) (cs8 a Δ res.2) := by
  refine MW.of (by decide) (Nat.le_of_ble_eq_true rfl) ?_
  intro Γ A H hl C hK hP hD hS hA hR
  subst hl
  show g Γ { frames := 0, cells := 0, slots := 0, locals := 0 } 2 H [] 0 0 0 [(0, .ref (a 0))] []
  refine g_aload_n C 1 rfl dX8_wipe_0 0 rfl ?_
  refine g_get (v := .ref (a 4)) (fs := fl8 a s) C 4 rfl dX8_wipe_1 hK hP la_X8 0 1 (Nat.le_of_ble_eq_true rfl) fl_X8_19 rfl rfl rfl rfl ?_
  refine g_get (v := .int (x3_count (x8_pad s))) (fs := fl3 (fun i => a (i + 4)) (x8_pad s)) C 7 rfl dX8_wipe_4 hK hP la_X3 4 1 (Nat.le_of_ble_eq_true rfl) fl_X8_114 rfl rfl rfl rfl ?_
  refine g_istore_n [(1, .int (x3_count (x8_pad s))), (0, .ref (a 0))] C 8 rfl dX8_wipe_7 (Nat.le_of_ble_eq_true rfl) rfl ?_
  refine g_aload_n C 9 rfl dX8_wipe_8 1 rfl ?_
  refine g_get (v := .ref (a 4)) (fs := fl8 a s) C 12 rfl dX8_wipe_9 hK hP la_X8 0 1 (Nat.le_of_ble_eq_true rfl) fl_X8_19 rfl rfl rfl rfl ?_
  refine g_iconst 0 C 13 rfl dX8_wipe_12 ki_0 ?_
  refine g_put (fs := fl3 (fun i => a (i + 4)) (x8_pad s)) (cs8 a Δ (p8_pad s (p3_count (x8_pad s) 0))) C 16 rfl dX8_wipe_13 hK hP hD hS la_X3 tyX3_ok nmX3 4 1 (Nat.le_of_ble_eq_true rfl) fl_X8_114 rfl rfl rfl rfl rfl rfl (Nat.le_of_ble_eq_true rfl) (sst_67 a Δ s 0) (fun H L hP hD hS => ?_)
  refine g_iload_n C 17 rfl dX8_wipe_16 0 rfl ?_
  exact w_int (ws := fun s => cs8 a Δ s) hR hq hP hS dX8_wipe_17 rfl rfl
set_option maxHeartbeats 400000 in
set_option maxRecDepth 100000 in
theorem c_X8_fault (l : Launch) (Δ : gD) (a : Nat → Nat)  (s : S8) {res : Int32} (hq : sem_X8_fault  s = some res) : MR l yX8_fault cX8_fault 1 (some .int) Δ (cs8 a Δ s) [.ref (a 0)] 4 87 (.int res) := by
  refine MR.of (by decide) (Nat.le_of_ble_eq_true rfl) ?_
  intro Γ H hl C hK hP hR
  subst hl
  show g Γ { frames := 4, cells := 0, slots := 0, locals := 87 } 1 H [] 0 0 0 [(0, .ref (a 0))] []
  refine g_aload_n C 1 rfl dX8_fault_0 0 rfl ?_
  refine g_get (v := .ref (a 4)) (fs := fl8 a s) C 4 rfl dX8_fault_1 hK hP la_X8 0 1 (Nat.le_of_ble_eq_true rfl) fl_X8_19 rfl rfl rfl rfl ?_
  obtain ⟨r1, hz2, hq⟩ := bindE hq
  refine g_callRV (rest := []) C 7 rfl dX8_fault_4 (c_X3_firstFault Γ.2.1 Δ (fun i => a (i + 4))  (x8_pad s) hz2) mv_X3_firstFault ml_X8_119 hK (sct_68 a Δ s hP) rfl rfl rfl rfl rfl ⟨Nat.le_of_ble_eq_true rfl, Nat.le_of_ble_eq_true rfl⟩ (Nat.le_of_ble_eq_true rfl) ⟨Nat.zero_le _, Nat.zero_le _⟩ ?_
  exact r_int hR hq dX8_fault_7 rfl rfl
set_option maxHeartbeats 400000 in
set_option maxRecDepth 100000 in
theorem c_X8_playPad (l : Launch) (Δ : gD) (a : Nat → Nat)  (s : S8) {res : Int32 × S8} (hq : sem_X8_playPad  s = some res) : MW l yX8_playPad cX8_playPad 2 (some .int) Δ (cs8 a Δ s) [.ref (a 0)] 5 121 (some (.int res.1)) (cs8 a Δ res.2) := by
  refine MW.of (by decide) (Nat.le_of_ble_eq_true rfl) ?_
  intro Γ A H hl C hK hP hD hS hA hR
  subst hl
  show g Γ { frames := 5, cells := 0, slots := 0, locals := 121 } 2 H [] 0 0 0 [(0, .ref (a 0))] []
  refine g_aload_n C 1 rfl dX8_playPad_0 0 rfl ?_
  refine g_get (v := .ref (a 4)) (fs := fl8 a s) C 4 rfl dX8_playPad_1 hK hP la_X8 0 1 (Nat.le_of_ble_eq_true rfl) fl_X8_19 rfl rfl rfl rfl ?_
  obtain ⟨r1, hz2, hq⟩ := bindE hq
  refine g_callRV (rest := []) C 7 rfl dX8_playPad_4 (c_X3_firstFault Γ.2.1 Δ (fun i => a (i + 4))  (x8_pad s) hz2) mv_X3_firstFault ml_X8_119 hK (sct_68 a Δ s hP) rfl rfl rfl rfl rfl ⟨Nat.le_of_ble_eq_true rfl, Nat.le_of_ble_eq_true rfl⟩ (Nat.le_of_ble_eq_true rfl) ⟨Nat.zero_le _, Nat.zero_le _⟩ ?_
  refine g_bipush (-6) C 9 rfl dX8_playPad_7 kb_m6 ?_
  refine s_icmp_eq C 15 12 rfl dX8_playPad_9 (by decide) hq (fun hq => ?_) (fun hq => ?_)
  rotate_left
  · refine g_bipush (-5) C 14 rfl dX8_playPad_12 kb_m5 ?_
    exact w_int (ws := fun s => cs8 a Δ s) hR hq hP hS dX8_playPad_14 rfl rfl
  refine g_aload_n C 16 rfl dX8_playPad_15 0 rfl ?_
  refine g_get (v := .ref (a 6)) (fs := fl8 a s) C 19 rfl dX8_playPad_16 hK hP la_X8 0 2 (Nat.le_of_ble_eq_true rfl) fl_X8_26 rfl rfl rfl rfl ?_
  refine g_aload_n C 20 rfl dX8_playPad_19 0 rfl ?_
  refine g_get (v := .ref (a 1)) (fs := fl8 a s) C 23 rfl dX8_playPad_20 hK hP la_X8 0 0 (Nat.le_of_ble_eq_true rfl) fl_X8_10 rfl rfl rfl rfl ?_
  obtain ⟨r3, hz4, hq⟩ := bindE hq
  refine g_callWV (rest := []) (cs8 a Δ (p8_trial s r3)) C 26 rfl dX8_playPad_23 (c_X7_begin Γ.2.1 Δ (fun i => a (i + 6)) (fun i => a (i + 1))  (x8_trial s) (x8_town s) hz4) mv_X7_begin ml_X8_154 hK hP hD hS hA (scl_69 a Δ s r3) rfl rfl rfl rfl rfl ⟨Nat.le_of_ble_eq_true rfl, Nat.le_of_ble_eq_true rfl⟩ (Nat.le_of_ble_eq_true rfl) ⟨Nat.zero_le _, Nat.zero_le _⟩ (fun H L hP hD hS => ?_)
  refine g_iconst 0 C 27 rfl dX8_playPad_26 ki_0 ?_
  refine g_istore_n [(1, .int 0), (0, .ref (a 0))] C 28 rfl dX8_playPad_27 (Nat.le_of_ble_eq_true rfl) rfl ?_
  have Q28 : ∀ (n : Nat) (x1 : Int32) (s : S8) (o : ((Int32 × S8) ⊕ (S8))) (H : Heap) (L : List Loc) (hP : va_P Δ.1 classes (cs8 a Δ s) H) (hD : va_D A (cs8 a Δ s)) (hS : va_S A (sOf Γ).heap H L) (hq : lp_X8_playPad_28  n x1 s = some o) (E1 : ∀ r, o = .inl r → gRetW Γ { frames := 5, cells := 0, slots := 0, locals := 121 } 2 cX8_playPad (some .int) Δ A (some (.int r.1)) (cs8 a Δ r.2)) (E2 : ∀ x, o = .inr x → ∀ (H : Heap) (L : List Loc), va_P Δ.1 classes (cs8 a Δ x) H → va_D A (cs8 a Δ x) → va_S A (sOf Γ).heap H L → g Γ { frames := 5, cells := 0, slots := 0, locals := 121 } 2 H L 0 0 82 [] []), g Γ { frames := 5, cells := 0, slots := 0, locals := 121 } 2 H L 0 0 28 [(0, .ref (a 0)), (1, .int x1)] [] := by
    intro n
    induction n with
    | zero => intro x1 s o H L hP hD hS hq; exact nomatch (show (none : Option ((Int32 × S8) ⊕ (S8))) = some o from hq)
    | succ n ih =>
      intro x1 s o H L hP hD hS hq E1 E2
      have hq : bd_X8_playPad_28  (lp_X8_playPad_28  n) x1 s = some o := hq
      refine g_iload_n C 29 rfl dX8_playPad_28 1 rfl ?_
      refine g_aload_n C 30 rfl dX8_playPad_29 0 rfl ?_
      refine g_get (v := .ref (a 4)) (fs := fl8 a s) C 33 rfl dX8_playPad_30 hK hP la_X8 0 1 (Nat.le_of_ble_eq_true rfl) fl_X8_19 rfl rfl rfl rfl ?_
      refine g_get (v := .int (x3_count (x8_pad s))) (fs := fl3 (fun i => a (i + 4)) (x8_pad s)) C 36 rfl dX8_playPad_33 hK hP la_X3 4 1 (Nat.le_of_ble_eq_true rfl) fl_X8_114 rfl rfl rfl rfl ?_
      refine s_icmp_ge C 82 39 rfl dX8_playPad_36 (by decide) hq (fun hq => ?_) (fun hq => ?_)
      · cases hq
        exact g_sub [] rfl (E2 _ rfl _ _ hP hD hS)
      refine g_aload_n C 40 rfl dX8_playPad_39 0 rfl ?_
      refine g_get (v := .ref (a 6)) (fs := fl8 a s) C 43 rfl dX8_playPad_40 hK hP la_X8 0 2 (Nat.le_of_ble_eq_true rfl) fl_X8_26 rfl rfl rfl rfl ?_
      refine g_aload_n C 44 rfl dX8_playPad_43 0 rfl ?_
      refine g_get (v := .ref (a 4)) (fs := fl8 a s) C 47 rfl dX8_playPad_44 hK hP la_X8 0 1 (Nat.le_of_ble_eq_true rfl) fl_X8_19 rfl rfl rfl rfl ?_
      refine g_iload_n C 48 rfl dX8_playPad_47 1 rfl ?_
      obtain ⟨r5, hz6, hq⟩ := bindE hq
      refine g_callWV (rest := []) (cs8 a Δ (p8_trial s r5)) C 51 rfl dX8_playPad_48 (c_X7_attempt Γ.2.1 Δ (fun i => a (i + 6)) (fun i => a (i + 4)) x1 (x8_trial s) (x8_pad s) hz6) mv_X7_attempt ml_X8_157 hK hP hD hS hA (scl_70 a Δ s r5) rfl rfl rfl rfl rfl ⟨Nat.le_of_ble_eq_true rfl, Nat.le_of_ble_eq_true rfl⟩ (Nat.le_of_ble_eq_true rfl) ⟨Nat.zero_le _, Nat.zero_le _⟩ (fun H L hP hD hS => ?_)
      refine g_aload_n C 52 rfl dX8_playPad_51 0 rfl ?_
      refine g_get (v := .ref (a 6)) (fs := fl8 a (p8_trial s r5)) C 55 rfl dX8_playPad_52 hK hP la_X8 0 2 (Nat.le_of_ble_eq_true rfl) fl_X8_26 rfl rfl rfl rfl ?_
      refine g_get (v := .int (x7_reason (x8_trial (p8_trial s r5)))) (fs := fl7 (fun i => a (i + 6)) (x8_trial (p8_trial s r5))) C 58 rfl dX8_playPad_55 hK hP la_X7 6 2 (Nat.le_of_ble_eq_true rfl) fl_X8_131 rfl rfl rfl rfl ?_
      refine s_if_eq C 64 61 rfl dX8_playPad_58 (by decide) hq (fun hq => ?_) (fun hq => ?_)
      rotate_left
      · refine g_bipush (-3) C 63 rfl dX8_playPad_61 kb_m3 ?_
        cases hq
        exact w_int (ws := fun s => cs8 a Δ s) (E1 _ rfl) rfl hP hS dX8_playPad_63 rfl rfl
      refine g_iload_n C 65 rfl dX8_playPad_64 1 rfl ?_
      refine g_iconst 1 C 66 rfl dX8_playPad_65 ki_1 ?_
      refine g_aload_n C 67 rfl dX8_playPad_66 0 rfl ?_
      refine g_get (v := .ref (a 4)) (fs := fl8 a (p8_trial s r5)) C 70 rfl dX8_playPad_67 hK hP la_X8 0 1 (Nat.le_of_ble_eq_true rfl) fl_X8_19 rfl rfl rfl rfl ?_
      refine g_iload_n C 71 rfl dX8_playPad_70 1 rfl ?_
      obtain ⟨r7, hz8, hq⟩ := bindE hq
      refine g_callRV (rest := [.int 1, .int x1]) C 74 rfl dX8_playPad_71 (c_X3_lengthAt Γ.2.1 Δ (fun i => a (i + 4)) x1 (x8_pad (p8_trial s r5)) hz8) mv_X3_lengthAt ml_X8_161 hK (sct_68 a Δ (p8_trial s r5) hP) rfl rfl rfl rfl rfl ⟨Nat.le_of_ble_eq_true rfl, Nat.le_of_ble_eq_true rfl⟩ (Nat.le_of_ble_eq_true rfl) ⟨Nat.zero_le _, Nat.zero_le _⟩ ?_
      refine g_mmax C 77 rfl dX8_playPad_74 ml_X8_164 mth_max ⟨Nat.le_of_ble_eq_true rfl, Nat.le_of_ble_eq_true rfl⟩ ⟨Nat.zero_le _, Nat.zero_le _⟩ ?_
      refine g_iadd C 78 rfl dX8_playPad_77 ?_
      refine g_istore_n [(1, .int (x1 + (jmax 1 r7))), (0, .ref (a 0))] C 79 rfl dX8_playPad_78 (Nat.le_of_ble_eq_true rfl) rfl ?_
      refine g_goto C 28 dX8_playPad_79 (by decide) ?_
      exact g_sub [1, 0] rfl (ih (x1 + (jmax 1 r7)) (p8_trial s r5) _ _ _ hP hD hS hq E1 E2)
  obtain ⟨o9, ho10, hq⟩ := bindE hq
  refine g_sub [1, 0] rfl (Q28  FUEL 0 (p8_trial s r3) o9 _ _ hP hD hS ho10 (fun r er => ?_) (fun xo9 er => fun H L hP hD hS => ?_))
  · rw [er] at hq
    cases hq
    exact hR
  rw [er] at hq
  clear er
  refine g_iconst 0 C 83 rfl dX8_playPad_82 ki_0 ?_
  exact w_int (ws := fun s => cs8 a Δ s) hR hq hP hS dX8_playPad_83 rfl rfl
set_option maxHeartbeats 400000 in
set_option maxRecDepth 100000 in
theorem c_X8_judge (l : Launch) (Δ : gD) (a : Nat → Nat) (x1 : Int32) (s : S8) {res : Int32 × S8} (hq : sem_X8_judge x1 s = some res) : MW l yX8_judge cX8_judge 3 (some .int) Δ (cs8 a Δ s) [.ref (a 0), .int x1] 6 142 (some (.int res.1)) (cs8 a Δ res.2) := by
  refine MW.of (by decide) (Nat.le_of_ble_eq_true rfl) ?_
  intro Γ A H hl C hK hP hD hS hA hR
  subst hl
  show g Γ { frames := 6, cells := 0, slots := 0, locals := 142 } 3 H [] 0 0 0 [(0, .ref (a 0)), (1, .int x1)] []
  refine g_iload_n C 1 rfl dX8_judge_0 1 rfl ?_
  refine g_iconst 0 C 2 rfl dX8_judge_1 ki_0 ?_
  refine g_iconst 2 C 3 rfl dX8_judge_2 ki_2 ?_
  obtain ⟨r1, hz2, hq⟩ := bindE hq
  refine g_callRS (rest := []) C 6 rfl dX8_judge_3 (c_X8_within Γ.2.1 Δ  x1 0 2  hz2) mv_X8_within (Or.inl ml_X8_69) hK rfl rfl ⟨Nat.le_of_ble_eq_true rfl, Nat.le_of_ble_eq_true rfl⟩ (Nat.le_of_ble_eq_true rfl) ⟨Nat.zero_le _, Nat.zero_le _⟩ ?_
  refine s_if_ne C 12 9 rfl dX8_judge_6 (by decide) hq (fun hq => ?_) (fun hq => ?_)
  rotate_left
  · refine g_bipush (-2) C 11 rfl dX8_judge_9 kb_m2 ?_
    exact w_int (ws := fun s => cs8 a Δ s) hR hq hP hS dX8_judge_11 rfl rfl
  refine g_aload_n C 13 rfl dX8_judge_12 0 rfl ?_
  obtain ⟨r3, hz4, hq⟩ := bindE hq
  refine g_callWV (rest := []) (cs8 a Δ r3.2) C 16 rfl dX8_judge_13 (c_X8_playPad Γ.2.1 Δ a  s hz4) mv_X8_playPad ml_X8_122 hK hP hD hS hA (scl_65 a Δ s r3.2) rfl rfl rfl rfl rfl ⟨Nat.le_of_ble_eq_true rfl, Nat.le_of_ble_eq_true rfl⟩ (Nat.le_of_ble_eq_true rfl) ⟨Nat.zero_le _, Nat.zero_le _⟩ (fun H L hP hD hS => ?_)
  refine g_istore_n [(2, .int r3.1), (0, .ref (a 0)), (1, .int x1)] C 17 rfl dX8_judge_16 (Nat.le_of_ble_eq_true rfl) rfl ?_
  refine g_iload_n C 18 rfl dX8_judge_17 0 rfl ?_
  refine g_bipush (-5) C 20 rfl dX8_judge_18 kb_m5 ?_
  refine s_icmp_ne C 26 23 rfl dX8_judge_20 (by decide) hq (fun hq => ?_) (fun hq => ?_)
  rotate_left
  · refine g_bipush (-5) C 25 rfl dX8_judge_23 kb_m5 ?_
    exact w_int (ws := fun s => cs8 a Δ s) hR hq hP hS dX8_judge_25 rfl rfl
  refine g_iload_n C 27 rfl dX8_judge_26 2 rfl ?_
  refine g_iconst 2 C 28 rfl dX8_judge_27 ki_2 ?_
  refine s_icmp_ne C 50 31 rfl dX8_judge_28 (by decide) hq (fun hq => ?_) (fun hq => ?_)
  rotate_left
  · refine g_iload_n C 32 rfl dX8_judge_31 0 rfl ?_
    refine g_bipush (-3) C 34 rfl dX8_judge_32 kb_m3 ?_
    refine s_icmp_ne C 42 37 rfl dX8_judge_34 (by decide) hq (fun hq => ?_) (fun hq => ?_)
    rotate_left
    · refine g_bipush (-3) C 39 rfl dX8_judge_37 kb_m3 ?_
      refine g_goto C 49 dX8_judge_39 (by decide) ?_
      exact w_int (ws := fun s => cs8 a Δ s) hR hq hP hS dX8_judge_49 rfl rfl
    refine g_aload_n C 43 rfl dX8_judge_42 1 rfl ?_
    refine g_get (v := .ref (a 6)) (fs := fl8 a r3.2) C 46 rfl dX8_judge_43 hK hP la_X8 0 2 (Nat.le_of_ble_eq_true rfl) fl_X8_26 rfl rfl rfl rfl ?_
    refine g_get (v := .int (x7_slips (x8_trial r3.2))) (fs := fl7 (fun i => a (i + 6)) (x8_trial r3.2)) C 49 rfl dX8_judge_46 hK hP la_X7 6 3 (Nat.le_of_ble_eq_true rfl) fl_X8_125 rfl rfl rfl rfl ?_
    exact w_int (ws := fun s => cs8 a Δ s) hR hq hP hS dX8_judge_49 rfl rfl
  refine g_iload_n C 51 rfl dX8_judge_50 0 rfl ?_
  refine g_bipush (-3) C 53 rfl dX8_judge_51 kb_m3 ?_
  refine s_icmp_eq C 59 56 rfl dX8_judge_53 (by decide) hq (fun hq => ?_) (fun hq => ?_)
  rotate_left
  · refine g_bipush (-6) C 58 rfl dX8_judge_56 kb_m6 ?_
    exact w_int (ws := fun s => cs8 a Δ s) hR hq hP hS dX8_judge_58 rfl rfl
  refine g_iload_n C 60 rfl dX8_judge_59 2 rfl ?_
  refine s_if_ne C 73 63 rfl dX8_judge_60 (by decide) hq (fun hq => ?_) (fun hq => ?_)
  · refine g_aload_n C 74 rfl dX8_judge_73 1 rfl ?_
    refine g_get (v := .ref (a 6)) (fs := fl8 a r3.2) C 77 rfl dX8_judge_74 hK hP la_X8 0 2 (Nat.le_of_ble_eq_true rfl) fl_X8_26 rfl rfl rfl rfl ?_
    refine g_get (v := .int (x7_reason (x8_trial r3.2))) (fs := fl7 (fun i => a (i + 6)) (x8_trial r3.2)) C 80 rfl dX8_judge_77 hK hP la_X7 6 2 (Nat.le_of_ble_eq_true rfl) fl_X8_131 rfl rfl rfl rfl ?_
    exact w_int (ws := fun s => cs8 a Δ s) hR hq hP hS dX8_judge_80 rfl rfl
  refine g_aload_n C 64 rfl dX8_judge_63 1 rfl ?_
  refine g_get (v := .ref (a 6)) (fs := fl8 a r3.2) C 67 rfl dX8_judge_64 hK hP la_X8 0 2 (Nat.le_of_ble_eq_true rfl) fl_X8_26 rfl rfl rfl rfl ?_
  refine g_get (v := .int (x7_acts (x8_trial r3.2))) (fs := fl7 (fun i => a (i + 6)) (x8_trial r3.2)) C 70 rfl dX8_judge_67 hK hP la_X7 6 1 (Nat.le_of_ble_eq_true rfl) fl_X8_128 rfl rfl rfl rfl ?_
  refine g_goto C 80 dX8_judge_70 (by decide) ?_
  exact w_int (ws := fun s => cs8 a Δ s) hR hq hP hS dX8_judge_80 rfl rfl
set_option maxHeartbeats 400000 in
set_option maxRecDepth 100000 in
theorem c_X8_behind (l : Launch) (Δ : gD) (a : Nat → Nat) (x1 : Int32) (x2 : Int32) (s : S8) {res : Int32 × S8} (hq : sem_X8_behind x1 x2 s = some res) : MW l yX8_behind cX8_behind 4 (some .int) Δ (cs8 a Δ s) [.ref (a 0), .int x1, .int x2] 6 142 (some (.int res.1)) (cs8 a Δ res.2) := by
  refine MW.of (by decide) (Nat.le_of_ble_eq_true rfl) ?_
  intro Γ A H hl C hK hP hD hS hA hR
  subst hl
  show g Γ { frames := 6, cells := 0, slots := 0, locals := 142 } 4 H [] 0 0 0 [(0, .ref (a 0)), (1, .int x1), (2, .int x2)] []
  refine g_aload_n C 1 rfl dX8_behind_0 0 rfl ?_
  refine g_get (v := .ref (a 1)) (fs := fl8 a s) C 4 rfl dX8_behind_1 hK hP la_X8 0 0 (Nat.le_of_ble_eq_true rfl) fl_X8_10 rfl rfl rfl rfl ?_
  refine g_iload_n C 5 rfl dX8_behind_4 1 rfl ?_
  obtain ⟨r1, hz2, hq⟩ := bindE hq
  refine g_callRV (rest := []) C 8 rfl dX8_behind_5 (c_X6_has Γ.2.1 Δ (fun i => a (i + 1)) x1 (x8_town s) hz2) mv_X6_has ml_X8_85 hK (sct_62 a Δ s hP) rfl rfl rfl rfl rfl ⟨Nat.le_of_ble_eq_true rfl, Nat.le_of_ble_eq_true rfl⟩ (Nat.le_of_ble_eq_true rfl) ⟨Nat.zero_le _, Nat.zero_le _⟩ ?_
  refine s_if_ne C 13 11 rfl dX8_behind_8 (by decide) hq (fun hq => ?_) (fun hq => ?_)
  rotate_left
  · refine g_iconst (-1) C 12 rfl dX8_behind_11 ki_m1 ?_
    exact w_int (ws := fun s => cs8 a Δ s) hR hq hP hS dX8_behind_12 rfl rfl
  refine g_iload_n C 14 rfl dX8_behind_13 2 rfl ?_
  refine g_iconst 0 C 15 rfl dX8_behind_14 ki_0 ?_
  refine g_iconst 4 C 16 rfl dX8_behind_15 ki_4 ?_
  obtain ⟨r3, hz4, hq⟩ := bindE hq
  refine g_callRS (rest := []) C 19 rfl dX8_behind_16 (c_X8_within Γ.2.1 Δ  x2 0 4  hz4) mv_X8_within (Or.inl ml_X8_69) hK rfl rfl ⟨Nat.le_of_ble_eq_true rfl, Nat.le_of_ble_eq_true rfl⟩ (Nat.le_of_ble_eq_true rfl) ⟨Nat.zero_le _, Nat.zero_le _⟩ ?_
  refine s_if_ne C 25 22 rfl dX8_behind_19 (by decide) hq (fun hq => ?_) (fun hq => ?_)
  rotate_left
  · refine g_bipush (-2) C 24 rfl dX8_behind_22 kb_m2 ?_
    exact w_int (ws := fun s => cs8 a Δ s) hR hq hP hS dX8_behind_24 rfl rfl
  refine g_aload_n C 26 rfl dX8_behind_25 0 rfl ?_
  obtain ⟨r5, hz6, hq⟩ := bindE hq
  refine g_callWV (rest := []) (cs8 a Δ r5.2) C 29 rfl dX8_behind_26 (c_X8_playPad Γ.2.1 Δ a  s hz6) mv_X8_playPad ml_X8_122 hK hP hD hS hA (scl_65 a Δ s r5.2) rfl rfl rfl rfl rfl ⟨Nat.le_of_ble_eq_true rfl, Nat.le_of_ble_eq_true rfl⟩ (Nat.le_of_ble_eq_true rfl) ⟨Nat.zero_le _, Nat.zero_le _⟩ (fun H L hP hD hS => ?_)
  refine g_istore_n [(3, .int r5.1), (0, .ref (a 0)), (1, .int x1), (2, .int x2)] C 30 rfl dX8_behind_29 (Nat.le_of_ble_eq_true rfl) rfl ?_
  refine g_iload_n C 31 rfl dX8_behind_30 0 rfl ?_
  refine s_if_eq C 36 34 rfl dX8_behind_31 (by decide) hq (fun hq => ?_) (fun hq => ?_)
  rotate_left
  · refine g_iload_n C 35 rfl dX8_behind_34 0 rfl ?_
    exact w_int (ws := fun s => cs8 a Δ s) hR hq hP hS dX8_behind_35 rfl rfl
  refine g_aload_n C 37 rfl dX8_behind_36 1 rfl ?_
  refine g_get (v := .ref (a 6)) (fs := fl8 a r5.2) C 40 rfl dX8_behind_37 hK hP la_X8 0 2 (Nat.le_of_ble_eq_true rfl) fl_X8_26 rfl rfl rfl rfl ?_
  refine g_get (v := .ref (a 7)) (fs := fl7 (fun i => a (i + 6)) (x8_trial r5.2)) C 43 rfl dX8_behind_40 hK hP la_X7 6 0 (Nat.le_of_ble_eq_true rfl) fl_X8_134 rfl rfl rfl rfl ?_
  refine g_iload_n C 44 rfl dX8_behind_43 2 rfl ?_
  refine g_iload_n C 45 rfl dX8_behind_44 3 rfl ?_
  refine s_if_ne C 52 48 rfl dX8_behind_45 (by decide) hq (fun hq => ?_) (fun hq => ?_)
  rotate_left
  · refine g_iconst 0 C 49 rfl dX8_behind_48 ki_0 ?_
    refine g_goto C 55 dX8_behind_49 (by decide) ?_
    obtain ⟨r9, hz10, hq⟩ := bindE hq
    refine g_callRV (rest := []) C 58 rfl dX8_behind_55 (c_X6_get Γ.2.1 Δ (fun i => a (i + 7)) x1 0 (x7_town (x8_trial r5.2)) hz10) mv_X6_get ml_X8_93 hK (sct_71 a Δ r5.2 hP) rfl rfl rfl rfl rfl ⟨Nat.le_of_ble_eq_true rfl, Nat.le_of_ble_eq_true rfl⟩ (Nat.le_of_ble_eq_true rfl) ⟨Nat.zero_le _, Nat.zero_le _⟩ ?_
    exact w_int (ws := fun s => cs8 a Δ s) hR hq hP hS dX8_behind_58 rfl rfl
  refine g_iload_n C 53 rfl dX8_behind_52 3 rfl ?_
  refine g_iconst 1 C 54 rfl dX8_behind_53 ki_1 ?_
  refine g_iadd C 55 rfl dX8_behind_54 ?_
  obtain ⟨r7, hz8, hq⟩ := bindE hq
  refine g_callRV (rest := []) C 58 rfl dX8_behind_55 (c_X6_get Γ.2.1 Δ (fun i => a (i + 7)) x1 (x2 + 1) (x7_town (x8_trial r5.2)) hz8) mv_X6_get ml_X8_93 hK (sct_71 a Δ r5.2 hP) rfl rfl rfl rfl rfl ⟨Nat.le_of_ble_eq_true rfl, Nat.le_of_ble_eq_true rfl⟩ (Nat.le_of_ble_eq_true rfl) ⟨Nat.zero_le _, Nat.zero_le _⟩ ?_
  exact w_int (ws := fun s => cs8 a Δ s) hR hq hP hS dX8_behind_58 rfl rfl
set_option maxHeartbeats 400000 in
set_option maxRecDepth 100000 in
theorem c_X8_slipped (l : Launch) (Δ : gD) (a : Nat → Nat) (x1 : Int32) (s : S8) {res : Int32 × S8} (hq : sem_X8_slipped x1 s = some res) : MW l yX8_slipped cX8_slipped 3 (some .int) Δ (cs8 a Δ s) [.ref (a 0), .int x1] 6 142 (some (.int res.1)) (cs8 a Δ res.2) := by
  refine MW.of (by decide) (Nat.le_of_ble_eq_true rfl) ?_
  intro Γ A H hl C hK hP hD hS hA hR
  subst hl
  show g Γ { frames := 6, cells := 0, slots := 0, locals := 142 } 3 H [] 0 0 0 [(0, .ref (a 0)), (1, .int x1)] []
  refine g_iload_n C 1 rfl dX8_slipped_0 1 rfl ?_
  refine g_iconst 0 C 2 rfl dX8_slipped_1 ki_0 ?_
  refine g_iconst 3 C 3 rfl dX8_slipped_2 ki_3 ?_
  obtain ⟨r1, hz2, hq⟩ := bindE hq
  refine g_callRS (rest := []) C 6 rfl dX8_slipped_3 (c_X8_within Γ.2.1 Δ  x1 0 3  hz2) mv_X8_within (Or.inl ml_X8_69) hK rfl rfl ⟨Nat.le_of_ble_eq_true rfl, Nat.le_of_ble_eq_true rfl⟩ (Nat.le_of_ble_eq_true rfl) ⟨Nat.zero_le _, Nat.zero_le _⟩ ?_
  refine s_if_ne C 12 9 rfl dX8_slipped_6 (by decide) hq (fun hq => ?_) (fun hq => ?_)
  rotate_left
  · refine g_bipush (-2) C 11 rfl dX8_slipped_9 kb_m2 ?_
    exact w_int (ws := fun s => cs8 a Δ s) hR hq hP hS dX8_slipped_11 rfl rfl
  refine g_aload_n C 13 rfl dX8_slipped_12 0 rfl ?_
  obtain ⟨r3, hz4, hq⟩ := bindE hq
  refine g_callWV (rest := []) (cs8 a Δ r3.2) C 16 rfl dX8_slipped_13 (c_X8_playPad Γ.2.1 Δ a  s hz4) mv_X8_playPad ml_X8_122 hK hP hD hS hA (scl_65 a Δ s r3.2) rfl rfl rfl rfl rfl ⟨Nat.le_of_ble_eq_true rfl, Nat.le_of_ble_eq_true rfl⟩ (Nat.le_of_ble_eq_true rfl) ⟨Nat.zero_le _, Nat.zero_le _⟩ (fun H L hP hD hS => ?_)
  refine g_istore_n [(2, .int r3.1), (0, .ref (a 0)), (1, .int x1)] C 17 rfl dX8_slipped_16 (Nat.le_of_ble_eq_true rfl) rfl ?_
  refine g_iload_n C 18 rfl dX8_slipped_17 0 rfl ?_
  refine s_if_eq C 23 21 rfl dX8_slipped_18 (by decide) hq (fun hq => ?_) (fun hq => ?_)
  rotate_left
  · refine g_iload_n C 22 rfl dX8_slipped_21 0 rfl ?_
    exact w_int (ws := fun s => cs8 a Δ s) hR hq hP hS dX8_slipped_22 rfl rfl
  refine g_iload_n C 24 rfl dX8_slipped_23 2 rfl ?_
  by_cases hc5 : x1 = 0
  · have hq := if_t hc5 hq
    refine g_tblIn C 52 dX8_slipped_24 (by rw [hc5]; decide) (by rw [hc5]; decide) (off := 28) (by rw [hc5]; rfl) (by decide) ?_
    refine g_aload_n C 53 rfl dX8_slipped_52 1 rfl ?_
    refine g_get (v := .ref (a 6)) (fs := fl8 a r3.2) C 56 rfl dX8_slipped_53 hK hP la_X8 0 2 (Nat.le_of_ble_eq_true rfl) fl_X8_26 rfl rfl rfl rfl ?_
    refine g_get (v := .int (x7_firstSlip (x8_trial r3.2))) (fs := fl7 (fun i => a (i + 6)) (x8_trial r3.2)) C 59 rfl dX8_slipped_56 hK hP la_X7 6 5 (Nat.le_of_ble_eq_true rfl) fl_X8_135 rfl rfl rfl rfl ?_
    exact w_int (ws := fun s => cs8 a Δ s) hR hq hP hS dX8_slipped_59 rfl rfl
  replace hq := if_f hc5 hq
  by_cases hc6 : x1 = 1
  · have hq := if_t hc6 hq
    refine g_tblIn C 60 dX8_slipped_24 (by rw [hc6]; decide) (by rw [hc6]; decide) (off := 36) (by rw [hc6]; rfl) (by decide) ?_
    refine g_aload_n C 61 rfl dX8_slipped_60 1 rfl ?_
    refine g_get (v := .ref (a 6)) (fs := fl8 a r3.2) C 64 rfl dX8_slipped_61 hK hP la_X8 0 2 (Nat.le_of_ble_eq_true rfl) fl_X8_26 rfl rfl rfl rfl ?_
    refine g_get (v := .int (x7_firstWho (x8_trial r3.2))) (fs := fl7 (fun i => a (i + 6)) (x8_trial r3.2)) C 67 rfl dX8_slipped_64 hK hP la_X7 6 6 (Nat.le_of_ble_eq_true rfl) fl_X8_138 rfl rfl rfl rfl ?_
    exact w_int (ws := fun s => cs8 a Δ s) hR hq hP hS dX8_slipped_67 rfl rfl
  replace hq := if_f hc6 hq
  by_cases hc7 : x1 = 2
  · have hq := if_t hc7 hq
    refine g_tblIn C 68 dX8_slipped_24 (by rw [hc7]; decide) (by rw [hc7]; decide) (off := 44) (by rw [hc7]; rfl) (by decide) ?_
    refine g_aload_n C 69 rfl dX8_slipped_68 1 rfl ?_
    refine g_get (v := .ref (a 6)) (fs := fl8 a r3.2) C 72 rfl dX8_slipped_69 hK hP la_X8 0 2 (Nat.le_of_ble_eq_true rfl) fl_X8_26 rfl rfl rfl rfl ?_
    refine g_get (v := .int (x7_firstHeard (x8_trial r3.2))) (fs := fl7 (fun i => a (i + 6)) (x8_trial r3.2)) C 75 rfl dX8_slipped_72 hK hP la_X7 6 7 (Nat.le_of_ble_eq_true rfl) fl_X8_141 rfl rfl rfl rfl ?_
    exact w_int (ws := fun s => cs8 a Δ s) hR hq hP hS dX8_slipped_75 rfl rfl
  replace hq := if_f hc7 hq
  refine g_tblOut C 76 dX8_slipped_24 (by have nhc5 := lv_neT (a := 0) hc5 (by decide); have nhc6 := lv_neT (a := 1) hc6 (by decide); have nhc7 := lv_neT (a := 2) hc7 (by decide); omega) (by decide) ?_
  refine g_aload_n C 77 rfl dX8_slipped_76 1 rfl ?_
  refine g_get (v := .ref (a 6)) (fs := fl8 a r3.2) C 80 rfl dX8_slipped_77 hK hP la_X8 0 2 (Nat.le_of_ble_eq_true rfl) fl_X8_26 rfl rfl rfl rfl ?_
  refine g_get (v := .int (x7_paid (x8_trial r3.2))) (fs := fl7 (fun i => a (i + 6)) (x8_trial r3.2)) C 83 rfl dX8_slipped_80 hK hP la_X7 6 4 (Nat.le_of_ble_eq_true rfl) fl_X8_144 rfl rfl rfl rfl ?_
  exact w_int (ws := fun s => cs8 a Δ s) hR hq hP hS dX8_slipped_83 rfl rfl
set_option maxHeartbeats 400000 in
set_option maxRecDepth 100000 in
theorem c_X8_done (l : Launch) (Δ : gD) (a : Nat → Nat)  (s : S8) {res : Int32 × S8} (hq : sem_X8_done  s = some res) : MW l yX8_done cX8_done 2 (some .int) Δ (cs8 a Δ s) [.ref (a 0)] 6 142 (some (.int res.1)) (cs8 a Δ res.2) := by
  refine MW.of (by decide) (Nat.le_of_ble_eq_true rfl) ?_
  intro Γ A H hl C hK hP hD hS hA hR
  subst hl
  show g Γ { frames := 6, cells := 0, slots := 0, locals := 142 } 2 H [] 0 0 0 [(0, .ref (a 0))] []
  refine g_aload_n C 1 rfl dX8_done_0 0 rfl ?_
  obtain ⟨r1, hz2, hq⟩ := bindE hq
  refine g_callWV (rest := []) (cs8 a Δ r1.2) C 4 rfl dX8_done_1 (c_X8_playPad Γ.2.1 Δ a  s hz2) mv_X8_playPad ml_X8_122 hK hP hD hS hA (scl_65 a Δ s r1.2) rfl rfl rfl rfl rfl ⟨Nat.le_of_ble_eq_true rfl, Nat.le_of_ble_eq_true rfl⟩ (Nat.le_of_ble_eq_true rfl) ⟨Nat.zero_le _, Nat.zero_le _⟩ (fun H L hP hD hS => ?_)
  refine g_istore_n [(1, .int r1.1), (0, .ref (a 0))] C 5 rfl dX8_done_4 (Nat.le_of_ble_eq_true rfl) rfl ?_
  refine g_iload_n C 6 rfl dX8_done_5 0 rfl ?_
  refine s_if_eq C 11 9 rfl dX8_done_6 (by decide) hq (fun hq => ?_) (fun hq => ?_)
  rotate_left
  · refine g_iload_n C 10 rfl dX8_done_9 0 rfl ?_
    exact w_int (ws := fun s => cs8 a Δ s) hR hq hP hS dX8_done_10 rfl rfl
  refine g_aload_n C 12 rfl dX8_done_11 1 rfl ?_
  refine g_get (v := .ref (a 1)) (fs := fl8 a r1.2) C 15 rfl dX8_done_12 hK hP la_X8 0 0 (Nat.le_of_ble_eq_true rfl) fl_X8_10 rfl rfl rfl rfl ?_
  refine g_aload_n C 16 rfl dX8_done_15 1 rfl ?_
  refine g_get (v := .ref (a 6)) (fs := fl8 a r1.2) C 19 rfl dX8_done_16 hK hP la_X8 0 2 (Nat.le_of_ble_eq_true rfl) fl_X8_26 rfl rfl rfl rfl ?_
  refine g_get (v := .ref (a 7)) (fs := fl7 (fun i => a (i + 6)) (x8_trial r1.2)) C 22 rfl dX8_done_19 hK hP la_X7 6 0 (Nat.le_of_ble_eq_true rfl) fl_X8_134 rfl rfl rfl rfl ?_
  obtain ⟨r3, hz4, hq⟩ := bindE hq
  refine g_callWV (rest := []) (cs8 a Δ (p8_town r1.2 r3)) C 25 rfl dX8_done_22 (c_X6_takeFrom Γ.2.1 Δ (fun i => a (i + 1)) (fun i => a (i + 7))  (x8_town r1.2) (x7_town (x8_trial r1.2)) hz4) mv_X6_takeFrom ml_X8_147 hK hP hD hS hA (scl_72 a Δ r1.2 r3) rfl rfl rfl rfl rfl ⟨Nat.le_of_ble_eq_true rfl, Nat.le_of_ble_eq_true rfl⟩ (Nat.le_of_ble_eq_true rfl) ⟨Nat.zero_le _, Nat.zero_le _⟩ (fun H L hP hD hS => ?_)
  refine g_aload_n C 26 rfl dX8_done_25 1 rfl ?_
  refine g_get (v := .ref (a 4)) (fs := fl8 a (p8_town r1.2 r3)) C 29 rfl dX8_done_26 hK hP la_X8 0 1 (Nat.le_of_ble_eq_true rfl) fl_X8_19 rfl rfl rfl rfl ?_
  refine g_iconst 0 C 30 rfl dX8_done_29 ki_0 ?_
  refine g_put (fs := fl3 (fun i => a (i + 4)) (x8_pad (p8_town r1.2 r3))) (cs8 a Δ (p8_pad (p8_town r1.2 r3) (p3_count (x8_pad (p8_town r1.2 r3)) 0))) C 33 rfl dX8_done_30 hK hP hD hS la_X3 tyX3_ok nmX3 4 1 (Nat.le_of_ble_eq_true rfl) fl_X8_114 rfl rfl rfl rfl rfl rfl (Nat.le_of_ble_eq_true rfl) (sst_67 a Δ (p8_town r1.2 r3) 0) (fun H L hP hD hS => ?_)
  refine g_aload_n C 34 rfl dX8_done_33 1 rfl ?_
  refine g_get (v := .ref (a 6)) (fs := fl8 a (p8_pad (p8_town r1.2 r3) (p3_count (x8_pad (p8_town r1.2 r3)) 0))) C 37 rfl dX8_done_34 hK hP la_X8 0 2 (Nat.le_of_ble_eq_true rfl) fl_X8_26 rfl rfl rfl rfl ?_
  refine g_get (v := .int (x7_acts (x8_trial (p8_pad (p8_town r1.2 r3) (p3_count (x8_pad (p8_town r1.2 r3)) 0))))) (fs := fl7 (fun i => a (i + 6)) (x8_trial (p8_pad (p8_town r1.2 r3) (p3_count (x8_pad (p8_town r1.2 r3)) 0)))) C 40 rfl dX8_done_37 hK hP la_X7 6 1 (Nat.le_of_ble_eq_true rfl) fl_X8_128 rfl rfl rfl rfl ?_
  exact w_int (ws := fun s => cs8 a Δ s) hR hq hP hS dX8_done_40 rfl rfl
set_option maxHeartbeats 400000 in
set_option maxRecDepth 100000 in
theorem c_X8_hears (l : Launch) (Δ : gD) (a : Nat → Nat) (x1 : Int32) (s : S8) {res : Int32} (hq : sem_X8_hears x1 s = some res) : MR l yX8_hears cX8_hears 2 (some .int) Δ (cs8 a Δ s) [.ref (a 0), .int x1] 2 48 (.int res) := by
  refine MR.of (by decide) (Nat.le_of_ble_eq_true rfl) ?_
  intro Γ H hl C hK hP hR
  subst hl
  show g Γ { frames := 2, cells := 0, slots := 0, locals := 48 } 2 H [] 0 0 0 [(0, .ref (a 0)), (1, .int x1)] []
  refine g_aload_n C 1 rfl dX8_hears_0 0 rfl ?_
  refine g_get (v := .ref (a 1)) (fs := fl8 a s) C 4 rfl dX8_hears_1 hK hP la_X8 0 0 (Nat.le_of_ble_eq_true rfl) fl_X8_10 rfl rfl rfl rfl ?_
  refine g_iload_n C 5 rfl dX8_hears_4 1 rfl ?_
  obtain ⟨r1, hz2, hq⟩ := bindE hq
  refine g_callRV (rest := []) C 8 rfl dX8_hears_5 (c_X6_has Γ.2.1 Δ (fun i => a (i + 1)) x1 (x8_town s) hz2) mv_X6_has ml_X8_85 hK (sct_62 a Δ s hP) rfl rfl rfl rfl rfl ⟨Nat.le_of_ble_eq_true rfl, Nat.le_of_ble_eq_true rfl⟩ (Nat.le_of_ble_eq_true rfl) ⟨Nat.zero_le _, Nat.zero_le _⟩ ?_
  refine s_if_eq C 22 11 rfl dX8_hears_8 (by decide) hq (fun hq => ?_) (fun hq => ?_)
  · refine g_iconst (-1) C 23 rfl dX8_hears_22 ki_m1 ?_
    exact r_int hR hq dX8_hears_23 rfl rfl
  refine g_aload_n C 12 rfl dX8_hears_11 0 rfl ?_
  refine g_get (v := .ref (a 1)) (fs := fl8 a s) C 15 rfl dX8_hears_12 hK hP la_X8 0 0 (Nat.le_of_ble_eq_true rfl) fl_X8_10 rfl rfl rfl rfl ?_
  refine g_iload_n C 16 rfl dX8_hears_15 1 rfl ?_
  obtain ⟨r3, hz4, hq⟩ := bindE hq
  refine g_callRV (rest := []) C 19 rfl dX8_hears_16 (c_X6_hearers Γ.2.1 Δ (fun i => a (i + 1)) x1 (x8_town s) hz4) mv_X6_hearers ml_X8_151 hK (sct_62 a Δ s hP) rfl rfl rfl rfl rfl ⟨Nat.le_of_ble_eq_true rfl, Nat.le_of_ble_eq_true rfl⟩ (Nat.le_of_ble_eq_true rfl) ⟨Nat.zero_le _, Nat.zero_le _⟩ ?_
  refine g_goto C 23 dX8_hears_19 (by decide) ?_
  exact r_int hR hq dX8_hears_23 rfl rfl
set_option maxHeartbeats 400000 in
set_option maxRecDepth 100000 in
theorem c_X8_spend (l : Launch) (Δ : gD) (a : Nat → Nat) (x1 : Int32) (x2 : Int32) (x3 : Int32) (x4 : Int32) (s : S8) {res : Int32 × S8} (hq : sem_X8_spend x1 x2 x3 x4 s = some res) : MW l yX8_spend cX8_spend 6 (some .int) Δ (cs8 a Δ s) [.ref (a 0), .int x1, .int x2, .int x3, .int x4] 5 121 (some (.int res.1)) (cs8 a Δ res.2) := by
  refine MW.of (by decide) (Nat.le_of_ble_eq_true rfl) ?_
  intro Γ A H hl C hK hP hD hS hA hR
  subst hl
  show g Γ { frames := 5, cells := 0, slots := 0, locals := 121 } 6 H [] 0 0 0 [(0, .ref (a 0)), (1, .int x1), (2, .int x2), (3, .int x3), (4, .int x4)] []
  refine g_iload_n C 1 rfl dX8_spend_0 1 rfl ?_
  refine g_iconst 0 C 2 rfl dX8_spend_1 ki_0 ?_
  refine g_aload_n C 3 rfl dX8_spend_2 0 rfl ?_
  refine g_get (v := .ref (a 1)) (fs := fl8 a s) C 6 rfl dX8_spend_3 hK hP la_X8 0 0 (Nat.le_of_ble_eq_true rfl) fl_X8_10 rfl rfl rfl rfl ?_
  refine g_get (v := .int (x6_limit (x8_town s))) (fs := fl6 (fun i => a (i + 1)) (x8_town s)) C 9 rfl dX8_spend_6 hK hP la_X6 1 3 (Nat.le_of_ble_eq_true rfl) fl_X8_73 rfl rfl rfl rfl ?_
  obtain ⟨r1, hz2, hq⟩ := bindE hq
  refine g_callRS (rest := []) C 12 rfl dX8_spend_9 (c_X8_within Γ.2.1 Δ  x1 0 (x6_limit (x8_town s))  hz2) mv_X8_within (Or.inl ml_X8_69) hK rfl rfl ⟨Nat.le_of_ble_eq_true rfl, Nat.le_of_ble_eq_true rfl⟩ (Nat.le_of_ble_eq_true rfl) ⟨Nat.zero_le _, Nat.zero_le _⟩ ?_
  refine s_if_eq C 45 15 rfl dX8_spend_12 (by decide) hq (fun hq => ?_) (fun hq => ?_)
  · refine g_bipush (-2) C 47 rfl dX8_spend_45 kb_m2 ?_
    exact w_int (ws := fun s => cs8 a Δ s) hR hq hP hS dX8_spend_47 rfl rfl
  refine g_iload_n C 16 rfl dX8_spend_15 2 rfl ?_
  refine g_iconst 0 C 17 rfl dX8_spend_16 ki_0 ?_
  refine g_bipush 20 C 19 rfl dX8_spend_17 kb_20 ?_
  obtain ⟨r3, hz4, hq⟩ := bindE hq
  refine g_callRS (rest := []) C 22 rfl dX8_spend_19 (c_X8_within Γ.2.1 Δ  x2 0 20  hz4) mv_X8_within (Or.inl ml_X8_69) hK rfl rfl ⟨Nat.le_of_ble_eq_true rfl, Nat.le_of_ble_eq_true rfl⟩ (Nat.le_of_ble_eq_true rfl) ⟨Nat.zero_le _, Nat.zero_le _⟩ ?_
  refine s_if_eq C 45 25 rfl dX8_spend_22 (by decide) hq (fun hq => ?_) (fun hq => ?_)
  · refine g_bipush (-2) C 47 rfl dX8_spend_45 kb_m2 ?_
    exact w_int (ws := fun s => cs8 a Δ s) hR hq hP hS dX8_spend_47 rfl rfl
  refine g_iload_n C 26 rfl dX8_spend_25 3 rfl ?_
  refine g_iconst 0 C 27 rfl dX8_spend_26 ki_0 ?_
  refine g_ldc 999999 C 29 rfl dX8_spend_27 k_X8_169 ?_
  obtain ⟨r5, hz6, hq⟩ := bindE hq
  refine g_callRS (rest := []) C 32 rfl dX8_spend_29 (c_X8_within Γ.2.1 Δ  x3 0 999999  hz6) mv_X8_within (Or.inl ml_X8_69) hK rfl rfl ⟨Nat.le_of_ble_eq_true rfl, Nat.le_of_ble_eq_true rfl⟩ (Nat.le_of_ble_eq_true rfl) ⟨Nat.zero_le _, Nat.zero_le _⟩ ?_
  refine s_if_eq C 45 35 rfl dX8_spend_32 (by decide) hq (fun hq => ?_) (fun hq => ?_)
  · refine g_bipush (-2) C 47 rfl dX8_spend_45 kb_m2 ?_
    exact w_int (ws := fun s => cs8 a Δ s) hR hq hP hS dX8_spend_47 rfl rfl
  refine g_iload C 37 rfl dX8_spend_35 4 rfl ?_
  refine g_iconst 0 C 38 rfl dX8_spend_37 ki_0 ?_
  refine g_iconst 2 C 39 rfl dX8_spend_38 ki_2 ?_
  obtain ⟨r7, hz8, hq⟩ := bindE hq
  refine g_callRS (rest := []) C 42 rfl dX8_spend_39 (c_X8_within Γ.2.1 Δ  x4 0 2  hz8) mv_X8_within (Or.inl ml_X8_69) hK rfl rfl ⟨Nat.le_of_ble_eq_true rfl, Nat.le_of_ble_eq_true rfl⟩ (Nat.le_of_ble_eq_true rfl) ⟨Nat.zero_le _, Nat.zero_le _⟩ ?_
  refine s_if_ne C 48 45 rfl dX8_spend_42 (by decide) hq (fun hq => ?_) (fun hq => ?_)
  rotate_left
  · refine g_bipush (-2) C 47 rfl dX8_spend_45 kb_m2 ?_
    exact w_int (ws := fun s => cs8 a Δ s) hR hq hP hS dX8_spend_47 rfl rfl
  refine g_aload_n C 49 rfl dX8_spend_48 0 rfl ?_
  refine g_get (v := .ref (a 10)) (fs := fl8 a s) C 52 rfl dX8_spend_49 hK hP la_X8 0 4 (Nat.le_of_ble_eq_true rfl) fl_X8_37 rfl rfl rfl rfl ?_
  refine g_iload_n C 53 rfl dX8_spend_52 3 rfl ?_
  refine g_aload_n C 54 rfl dX8_spend_53 0 rfl ?_
  refine g_get (v := .ref (a 1)) (fs := fl8 a s) C 57 rfl dX8_spend_54 hK hP la_X8 0 0 (Nat.le_of_ble_eq_true rfl) fl_X8_10 rfl rfl rfl rfl ?_
  refine g_get (v := .int (x6_limit (x8_town s))) (fs := fl6 (fun i => a (i + 1)) (x8_town s)) C 60 rfl dX8_spend_57 hK hP la_X6 1 3 (Nat.le_of_ble_eq_true rfl) fl_X8_73 rfl rfl rfl rfl ?_
  obtain ⟨r9, hz10, hq⟩ := bindE hq
  refine g_callWV (rest := []) (cs8 a Δ (p8_thrift s r9)) C 63 rfl dX8_spend_60 (c_X5_reckon Γ.2.1 Δ (fun i => a (i + 10)) x3 (x6_limit (x8_town s)) (x8_thrift s) hz10) mv_X5_reckon ml_X8_170 hK hP hD hS hA (scl_73 a Δ s r9) rfl rfl rfl rfl rfl ⟨Nat.le_of_ble_eq_true rfl, Nat.le_of_ble_eq_true rfl⟩ (Nat.le_of_ble_eq_true rfl) ⟨Nat.zero_le _, Nat.zero_le _⟩ (fun H L hP hD hS => ?_)
  refine g_aload_n C 64 rfl dX8_spend_63 0 rfl ?_
  refine g_get (v := .ref (a 10)) (fs := fl8 a (p8_thrift s r9)) C 67 rfl dX8_spend_64 hK hP la_X8 0 4 (Nat.le_of_ble_eq_true rfl) fl_X8_37 rfl rfl rfl rfl ?_
  refine g_iload_n C 68 rfl dX8_spend_67 1 rfl ?_
  refine g_iload_n C 69 rfl dX8_spend_68 2 rfl ?_
  obtain ⟨r11, hz12, hq⟩ := bindE hq
  refine g_callRV (rest := []) C 72 rfl dX8_spend_69 (c_X5_fewestSlips Γ.2.1 Δ (fun i => a (i + 10)) x1 x2 (x8_thrift (p8_thrift s r9)) hz12) mv_X5_fewestSlips ml_X8_174 hK (sct_74 a Δ (p8_thrift s r9) hP) rfl rfl rfl rfl rfl ⟨Nat.le_of_ble_eq_true rfl, Nat.le_of_ble_eq_true rfl⟩ (Nat.le_of_ble_eq_true rfl) ⟨Nat.zero_le _, Nat.zero_le _⟩ ?_
  refine g_istore [(5, .int r11), (0, .ref (a 0)), (1, .int x1), (2, .int x2), (3, .int x3), (4, .int x4)] C 74 rfl dX8_spend_72 (Nat.le_of_ble_eq_true rfl) rfl ?_
  refine g_iload C 76 rfl dX8_spend_74 5 rfl ?_
  refine s_if_ne C 82 79 rfl dX8_spend_76 (by decide) hq (fun hq => ?_) (fun hq => ?_)
  rotate_left
  · refine g_iload C 81 rfl dX8_spend_79 0 rfl ?_
    exact w_int (ws := fun s => cs8 a Δ s) hR hq hP hS dX8_spend_81 rfl rfl
  refine g_iload C 84 rfl dX8_spend_82 5 rfl ?_
  refine g_iconst 1 C 85 rfl dX8_spend_84 ki_1 ?_
  refine s_icmp_ne C 102 88 rfl dX8_spend_85 (by decide) hq (fun hq => ?_) (fun hq => ?_)
  · refine g_aload_n C 103 rfl dX8_spend_102 1 rfl ?_
    refine g_get (v := .ref (a 10)) (fs := fl8 a (p8_thrift s r9)) C 106 rfl dX8_spend_103 hK hP la_X8 0 4 (Nat.le_of_ble_eq_true rfl) fl_X8_37 rfl rfl rfl rfl ?_
    refine g_iload_n C 107 rfl dX8_spend_106 2 rfl ?_
    refine g_iload C 109 rfl dX8_spend_107 0 rfl ?_
    obtain ⟨r13, hz14, hq⟩ := bindE hq
    refine g_callRV (rest := []) C 112 rfl dX8_spend_109 (c_X5_strengths Γ.2.1 Δ (fun i => a (i + 10)) x1 r11 (x8_thrift (p8_thrift s r9)) hz14) mv_X5_strengths ml_X8_181 hK (sct_74 a Δ (p8_thrift s r9) hP) rfl rfl rfl rfl rfl ⟨Nat.le_of_ble_eq_true rfl, Nat.le_of_ble_eq_true rfl⟩ (Nat.le_of_ble_eq_true rfl) ⟨Nat.zero_le _, Nat.zero_le _⟩ ?_
    exact w_int (ws := fun s => cs8 a Δ s) hR hq hP hS dX8_spend_112 rfl rfl
  refine g_aload_n C 89 rfl dX8_spend_88 1 rfl ?_
  refine g_get (v := .ref (a 10)) (fs := fl8 a (p8_thrift s r9)) C 92 rfl dX8_spend_89 hK hP la_X8 0 4 (Nat.le_of_ble_eq_true rfl) fl_X8_37 rfl rfl rfl rfl ?_
  refine g_iconst 0 C 93 rfl dX8_spend_92 ki_0 ?_
  refine g_iload_n C 94 rfl dX8_spend_93 2 rfl ?_
  refine g_iload C 96 rfl dX8_spend_94 0 rfl ?_
  obtain ⟨r15, hz16, hq⟩ := bindE hq
  refine g_callRV (rest := []) C 99 rfl dX8_spend_96 (c_X5_fewestStamps Γ.2.1 Δ (fun i => a (i + 10)) 0 x1 r11 (x8_thrift (p8_thrift s r9)) hz16) mv_X5_fewestStamps ml_X8_177 hK (sct_74 a Δ (p8_thrift s r9) hP) rfl rfl rfl rfl rfl ⟨Nat.le_of_ble_eq_true rfl, Nat.le_of_ble_eq_true rfl⟩ (Nat.le_of_ble_eq_true rfl) ⟨Nat.zero_le _, Nat.zero_le _⟩ ?_
  refine g_goto C 112 dX8_spend_99 (by decide) ?_
  exact w_int (ws := fun s => cs8 a Δ s) hR hq hP hS dX8_spend_112 rfl rfl
set_option maxHeartbeats 400000 in
set_option maxRecDepth 100000 in
theorem c_X8_deal (l : Launch) (Δ : gD) (a : Nat → Nat) (x1 : Int32) (x2 : Int32) (x3 : Int32) (s : S8) {res : Int32 × S8} (hq : sem_X8_deal x1 x2 x3 s = some res) : MW l yX8_deal cX8_deal 4 (some .int) Δ (cs8 a Δ s) [.ref (a 0), .int x1, .int x2, .int x3] 5 121 (some (.int res.1)) (cs8 a Δ res.2) := by
  refine MW.of (by decide) (Nat.le_of_ble_eq_true rfl) ?_
  intro Γ A H hl C hK hP hD hS hA hR
  subst hl
  have K18 : ∀ (x1 : Int32) (x2 : Int32) (x3 : Int32) (s : S8) (H : Heap) (L : List Loc) (hP : va_P Δ.1 classes (cs8 a Δ s) H) (hD : va_D A (cs8 a Δ s)) (hS : va_S A (sOf Γ).heap H L), jn_X8_deal_18 x1 x2 x3 s = some res → g Γ { frames := 5, cells := 0, slots := 0, locals := 121 } 4 H L 0 0 18 [(0, .ref (a 0)), (1, .int x1), (2, .int x2), (3, .int x3)] [] := by
    intro x1 x2 x3 s H L hP hD hS hq
    refine g_iload_n C 19 rfl dX8_deal_18 1 rfl ?_
    refine g_iconst 0 C 20 rfl dX8_deal_19 ki_0 ?_
    refine g_bipush 20 C 22 rfl dX8_deal_20 kb_20 ?_
    obtain ⟨r1, hz2, hq⟩ := bindE hq
    refine g_callRS (rest := []) C 25 rfl dX8_deal_22 (c_X8_within Γ.2.1 Δ  x1 0 20  hz2) mv_X8_within (Or.inl ml_X8_69) hK rfl rfl ⟨Nat.le_of_ble_eq_true rfl, Nat.le_of_ble_eq_true rfl⟩ (Nat.le_of_ble_eq_true rfl) ⟨Nat.zero_le _, Nat.zero_le _⟩ ?_
    refine s_if_eq C 38 28 rfl dX8_deal_25 (by decide) hq (fun hq => ?_) (fun hq => ?_)
    · refine g_bipush (-2) C 40 rfl dX8_deal_38 kb_m2 ?_
      exact w_int (ws := fun s => cs8 a Δ s) hR hq hP hS dX8_deal_40 rfl rfl
    refine g_iload_n C 29 rfl dX8_deal_28 2 rfl ?_
    refine g_iconst 0 C 30 rfl dX8_deal_29 ki_0 ?_
    refine g_ldc 999999 C 32 rfl dX8_deal_30 k_X8_169 ?_
    obtain ⟨r3, hz4, hq⟩ := bindE hq
    refine g_callRS (rest := []) C 35 rfl dX8_deal_32 (c_X8_within Γ.2.1 Δ  x2 0 999999  hz4) mv_X8_within (Or.inl ml_X8_69) hK rfl rfl ⟨Nat.le_of_ble_eq_true rfl, Nat.le_of_ble_eq_true rfl⟩ (Nat.le_of_ble_eq_true rfl) ⟨Nat.zero_le _, Nat.zero_le _⟩ ?_
    refine s_if_ne C 41 38 rfl dX8_deal_35 (by decide) hq (fun hq => ?_) (fun hq => ?_)
    rotate_left
    · refine g_bipush (-2) C 40 rfl dX8_deal_38 kb_m2 ?_
      exact w_int (ws := fun s => cs8 a Δ s) hR hq hP hS dX8_deal_40 rfl rfl
    refine g_aload_n C 42 rfl dX8_deal_41 0 rfl ?_
    refine g_get (v := .ref (a 1)) (fs := fl8 a s) C 45 rfl dX8_deal_42 hK hP la_X8 0 0 (Nat.le_of_ble_eq_true rfl) fl_X8_10 rfl rfl rfl rfl ?_
    refine g_get (v := .int (x6_there (x8_town s))) (fs := fl6 (fun i => a (i + 1)) (x8_town s)) C 48 rfl dX8_deal_45 hK hP la_X6 1 2 (Nat.le_of_ble_eq_true rfl) fl_X8_184 rfl rfl rfl rfl ?_
    refine s_if_ne C 53 51 rfl dX8_deal_48 (by decide) hq (fun hq => ?_) (fun hq => ?_)
    rotate_left
    · refine g_iconst 0 C 52 rfl dX8_deal_51 ki_0 ?_
      exact w_int (ws := fun s => cs8 a Δ s) hR hq hP hS dX8_deal_52 rfl rfl
    refine g_aload_n C 54 rfl dX8_deal_53 0 rfl ?_
    refine g_get (v := .ref (a 10)) (fs := fl8 a s) C 57 rfl dX8_deal_54 hK hP la_X8 0 4 (Nat.le_of_ble_eq_true rfl) fl_X8_37 rfl rfl rfl rfl ?_
    refine g_iload_n C 58 rfl dX8_deal_57 2 rfl ?_
    refine g_aload_n C 59 rfl dX8_deal_58 0 rfl ?_
    refine g_get (v := .ref (a 1)) (fs := fl8 a s) C 62 rfl dX8_deal_59 hK hP la_X8 0 0 (Nat.le_of_ble_eq_true rfl) fl_X8_10 rfl rfl rfl rfl ?_
    refine g_get (v := .int (x6_limit (x8_town s))) (fs := fl6 (fun i => a (i + 1)) (x8_town s)) C 65 rfl dX8_deal_62 hK hP la_X6 1 3 (Nat.le_of_ble_eq_true rfl) fl_X8_73 rfl rfl rfl rfl ?_
    obtain ⟨r5, hz6, hq⟩ := bindE hq
    refine g_callWV (rest := []) (cs8 a Δ (p8_thrift s r5)) C 68 rfl dX8_deal_65 (c_X5_reckon Γ.2.1 Δ (fun i => a (i + 10)) x2 (x6_limit (x8_town s)) (x8_thrift s) hz6) mv_X5_reckon ml_X8_170 hK hP hD hS hA (scl_73 a Δ s r5) rfl rfl rfl rfl rfl ⟨Nat.le_of_ble_eq_true rfl, Nat.le_of_ble_eq_true rfl⟩ (Nat.le_of_ble_eq_true rfl) ⟨Nat.zero_le _, Nat.zero_le _⟩ (fun H L hP hD hS => ?_)
    refine g_aload_n C 69 rfl dX8_deal_68 0 rfl ?_
    refine g_get (v := .ref (a 13)) (fs := fl8 a (p8_thrift s r5)) C 72 rfl dX8_deal_69 hK hP la_X8 0 5 (Nat.le_of_ble_eq_true rfl) fl_X8_44 rfl rfl rfl rfl ?_
    refine g_aload_n C 73 rfl dX8_deal_72 0 rfl ?_
    refine g_get (v := .ref (a 1)) (fs := fl8 a (p8_thrift s r5)) C 76 rfl dX8_deal_73 hK hP la_X8 0 0 (Nat.le_of_ble_eq_true rfl) fl_X8_10 rfl rfl rfl rfl ?_
    refine g_aload_n C 77 rfl dX8_deal_76 0 rfl ?_
    refine g_get (v := .ref (a 10)) (fs := fl8 a (p8_thrift s r5)) C 80 rfl dX8_deal_77 hK hP la_X8 0 4 (Nat.le_of_ble_eq_true rfl) fl_X8_37 rfl rfl rfl rfl ?_
    obtain ⟨r7, hz8, hq⟩ := bindE hq
    refine g_callWV (rest := []) (cs8 a Δ (p8_dealing (p8_thrift s r5) r7)) C 83 rfl dX8_deal_80 (c_X1_reckon Γ.2.1 Δ (fun i => a (i + 13)) (fun i => a (i + 1)) (fun i => a (i + 10))  (x8_dealing (p8_thrift s r5)) (x8_town (p8_thrift s r5)) (x8_thrift (p8_thrift s r5)) hz8) mv_X1_reckon ml_X8_187 hK hP hD hS hA (scl_75 a Δ (p8_thrift s r5) r7) rfl rfl rfl rfl rfl ⟨Nat.le_of_ble_eq_true rfl, Nat.le_of_ble_eq_true rfl⟩ (Nat.le_of_ble_eq_true rfl) ⟨Nat.zero_le _, Nat.zero_le _⟩ (fun H L hP hD hS => ?_)
    refine g_iload_n C 84 rfl dX8_deal_83 3 rfl ?_
    refine g_iconst (-1) C 85 rfl dX8_deal_84 ki_m1 ?_
    refine s_icmp_ne C 100 88 rfl dX8_deal_85 (by decide) hq (fun hq => ?_) (fun hq => ?_)
    · refine g_aload_n C 101 rfl dX8_deal_100 0 rfl ?_
      refine g_get (v := .ref (a 13)) (fs := fl8 a (p8_dealing (p8_thrift s r5) r7)) C 104 rfl dX8_deal_101 hK hP la_X8 0 5 (Nat.le_of_ble_eq_true rfl) fl_X8_44 rfl rfl rfl rfl ?_
      refine g_iload_n C 105 rfl dX8_deal_104 3 rfl ?_
      refine g_iload_n C 106 rfl dX8_deal_105 1 rfl ?_
      obtain ⟨r9, hz10, hq⟩ := bindE hq
      refine g_callRV (rest := []) C 109 rfl dX8_deal_106 (c_X1_partOf Γ.2.1 Δ (fun i => a (i + 13)) x3 x1 (x8_dealing (p8_dealing (p8_thrift s r5) r7)) hz10) mv_X1_partOf ml_X8_193 hK (sct_76 a Δ (p8_dealing (p8_thrift s r5) r7) hP) rfl rfl rfl rfl rfl ⟨Nat.le_of_ble_eq_true rfl, Nat.le_of_ble_eq_true rfl⟩ (Nat.le_of_ble_eq_true rfl) ⟨Nat.zero_le _, Nat.zero_le _⟩ ?_
      exact w_int (ws := fun s => cs8 a Δ s) hR hq hP hS dX8_deal_109 rfl rfl
    refine g_aload_n C 89 rfl dX8_deal_88 0 rfl ?_
    refine g_get (v := .ref (a 13)) (fs := fl8 a (p8_dealing (p8_thrift s r5) r7)) C 92 rfl dX8_deal_89 hK hP la_X8 0 5 (Nat.le_of_ble_eq_true rfl) fl_X8_44 rfl rfl rfl rfl ?_
    refine g_iconst 0 C 93 rfl dX8_deal_92 ki_0 ?_
    refine g_iload_n C 94 rfl dX8_deal_93 1 rfl ?_
    obtain ⟨r11, hz12, hq⟩ := bindE hq
    refine g_callRV (rest := []) C 97 rfl dX8_deal_94 (c_X1_fewestFrom Γ.2.1 Δ (fun i => a (i + 13)) 0 x1 (x8_dealing (p8_dealing (p8_thrift s r5) r7)) hz12) mv_X1_fewestFrom ml_X8_190 hK (sct_76 a Δ (p8_dealing (p8_thrift s r5) r7) hP) rfl rfl rfl rfl rfl ⟨Nat.le_of_ble_eq_true rfl, Nat.le_of_ble_eq_true rfl⟩ (Nat.le_of_ble_eq_true rfl) ⟨Nat.zero_le _, Nat.zero_le _⟩ ?_
    refine g_goto C 109 dX8_deal_97 (by decide) ?_
    exact w_int (ws := fun s => cs8 a Δ s) hR hq hP hS dX8_deal_109 rfl rfl
  show g Γ { frames := 5, cells := 0, slots := 0, locals := 121 } 4 H [] 0 0 0 [(0, .ref (a 0)), (1, .int x1), (2, .int x2), (3, .int x3)] []
  refine g_iload_n C 1 rfl dX8_deal_0 3 rfl ?_
  refine g_iconst (-1) C 2 rfl dX8_deal_1 ki_m1 ?_
  refine s_icmp_eq C 18 5 rfl dX8_deal_2 (by decide) hq (fun hq => ?_) (fun hq => ?_)
  · exact g_sub [0, 1, 2, 3] rfl (K18 x1 x2 x3 s _ _ hP hD hS hq)
  refine g_aload_n C 6 rfl dX8_deal_5 0 rfl ?_
  refine g_get (v := .ref (a 1)) (fs := fl8 a s) C 9 rfl dX8_deal_6 hK hP la_X8 0 0 (Nat.le_of_ble_eq_true rfl) fl_X8_10 rfl rfl rfl rfl ?_
  refine g_iload_n C 10 rfl dX8_deal_9 3 rfl ?_
  obtain ⟨r13, hz14, hq⟩ := bindE hq
  refine g_callRV (rest := []) C 13 rfl dX8_deal_10 (c_X6_has Γ.2.1 Δ (fun i => a (i + 1)) x3 (x8_town s) hz14) mv_X6_has ml_X8_85 hK (sct_62 a Δ s hP) rfl rfl rfl rfl rfl ⟨Nat.le_of_ble_eq_true rfl, Nat.le_of_ble_eq_true rfl⟩ (Nat.le_of_ble_eq_true rfl) ⟨Nat.zero_le _, Nat.zero_le _⟩ ?_
  refine s_if_ne C 18 16 rfl dX8_deal_13 (by decide) hq (fun hq => ?_) (fun hq => ?_)
  · exact g_sub [0, 1, 2, 3] rfl (K18 x1 x2 x3 s _ _ hP hD hS hq)
  refine g_iconst (-1) C 17 rfl dX8_deal_16 ki_m1 ?_
  exact w_int (ws := fun s => cs8 a Δ s) hR hq hP hS dX8_deal_17 rfl rfl
set_option maxHeartbeats 400000 in
set_option maxRecDepth 100000 in
theorem c_X8_seats (l : Launch) (Δ : gD) (a : Nat → Nat) (x1 : Int32) (x2 : Int32) (s : S8) {res : Int32 × S8} (hq : sem_X8_seats x1 x2 s = some res) : MW l yX8_seats cX8_seats 3 (some .int) Δ (cs8 a Δ s) [.ref (a 0), .int x1, .int x2] 5 117 (some (.int res.1)) (cs8 a Δ res.2) := by
  refine MW.of (by decide) (Nat.le_of_ble_eq_true rfl) ?_
  intro Γ A H hl C hK hP hD hS hA hR
  subst hl
  show g Γ { frames := 5, cells := 0, slots := 0, locals := 117 } 3 H [] 0 0 0 [(0, .ref (a 0)), (1, .int x1), (2, .int x2)] []
  refine g_iload_n C 1 rfl dX8_seats_0 1 rfl ?_
  refine g_iconst 0 C 2 rfl dX8_seats_1 ki_0 ?_
  refine g_bipush 40 C 4 rfl dX8_seats_2 kb_40 ?_
  obtain ⟨r1, hz2, hq⟩ := bindE hq
  refine g_callRS (rest := []) C 7 rfl dX8_seats_4 (c_X8_within Γ.2.1 Δ  x1 0 40  hz2) mv_X8_within (Or.inl ml_X8_69) hK rfl rfl ⟨Nat.le_of_ble_eq_true rfl, Nat.le_of_ble_eq_true rfl⟩ (Nat.le_of_ble_eq_true rfl) ⟨Nat.zero_le _, Nat.zero_le _⟩ ?_
  refine s_if_eq C 19 10 rfl dX8_seats_7 (by decide) hq (fun hq => ?_) (fun hq => ?_)
  · refine g_bipush (-2) C 21 rfl dX8_seats_19 kb_m2 ?_
    exact w_int (ws := fun s => cs8 a Δ s) hR hq hP hS dX8_seats_21 rfl rfl
  refine g_iload_n C 11 rfl dX8_seats_10 2 rfl ?_
  refine g_iconst 0 C 12 rfl dX8_seats_11 ki_0 ?_
  refine g_iconst 1 C 13 rfl dX8_seats_12 ki_1 ?_
  obtain ⟨r3, hz4, hq⟩ := bindE hq
  refine g_callRS (rest := []) C 16 rfl dX8_seats_13 (c_X8_within Γ.2.1 Δ  x2 0 1  hz4) mv_X8_within (Or.inl ml_X8_69) hK rfl rfl ⟨Nat.le_of_ble_eq_true rfl, Nat.le_of_ble_eq_true rfl⟩ (Nat.le_of_ble_eq_true rfl) ⟨Nat.zero_le _, Nat.zero_le _⟩ ?_
  refine s_if_ne C 22 19 rfl dX8_seats_16 (by decide) hq (fun hq => ?_) (fun hq => ?_)
  rotate_left
  · refine g_bipush (-2) C 21 rfl dX8_seats_19 kb_m2 ?_
    exact w_int (ws := fun s => cs8 a Δ s) hR hq hP hS dX8_seats_21 rfl rfl
  refine g_aload_n C 23 rfl dX8_seats_22 0 rfl ?_
  refine g_get (v := .ref (a 16)) (fs := fl8 a s) C 26 rfl dX8_seats_23 hK hP la_X8 0 6 (Nat.le_of_ble_eq_true rfl) fl_X8_51 rfl rfl rfl rfl ?_
  refine g_aload_n C 27 rfl dX8_seats_26 0 rfl ?_
  refine g_get (v := .ref (a 1)) (fs := fl8 a s) C 30 rfl dX8_seats_27 hK hP la_X8 0 0 (Nat.le_of_ble_eq_true rfl) fl_X8_10 rfl rfl rfl rfl ?_
  refine g_iload_n C 31 rfl dX8_seats_30 1 rfl ?_
  obtain ⟨r5, hz6, hq⟩ := bindE hq
  refine g_callWV (rest := []) (cs8 a Δ (p8_seating s r5)) C 34 rfl dX8_seats_31 (c_X4_reckon Γ.2.1 Δ (fun i => a (i + 16)) (fun i => a (i + 1)) x1 (x8_seating s) (x8_town s) hz6) mv_X4_reckon ml_X8_196 hK hP hD hS hA (scl_77 a Δ s r5) rfl rfl rfl rfl rfl ⟨Nat.le_of_ble_eq_true rfl, Nat.le_of_ble_eq_true rfl⟩ (Nat.le_of_ble_eq_true rfl) ⟨Nat.zero_le _, Nat.zero_le _⟩ (fun H L hP hD hS => ?_)
  refine g_iload_n C 35 rfl dX8_seats_34 2 rfl ?_
  refine s_if_ne C 48 38 rfl dX8_seats_35 (by decide) hq (fun hq => ?_) (fun hq => ?_)
  · refine g_aload_n C 49 rfl dX8_seats_48 0 rfl ?_
    refine g_get (v := .ref (a 16)) (fs := fl8 a (p8_seating s r5)) C 52 rfl dX8_seats_49 hK hP la_X8 0 6 (Nat.le_of_ble_eq_true rfl) fl_X8_51 rfl rfl rfl rfl ?_
    obtain ⟨r7, hz8, hq⟩ := bindE hq
    refine g_callRV (rest := []) C 55 rfl dX8_seats_52 (c_X4_firstRow Γ.2.1 Δ (fun i => a (i + 16))  (x8_seating (p8_seating s r5)) hz8) mv_X4_firstRow ml_X8_202 hK (sct_78 a Δ (p8_seating s r5) hP) rfl rfl rfl rfl rfl ⟨Nat.le_of_ble_eq_true rfl, Nat.le_of_ble_eq_true rfl⟩ (Nat.le_of_ble_eq_true rfl) ⟨Nat.zero_le _, Nat.zero_le _⟩ ?_
    exact w_int (ws := fun s => cs8 a Δ s) hR hq hP hS dX8_seats_55 rfl rfl
  refine g_aload_n C 39 rfl dX8_seats_38 0 rfl ?_
  refine g_get (v := .ref (a 16)) (fs := fl8 a (p8_seating s r5)) C 42 rfl dX8_seats_39 hK hP la_X8 0 6 (Nat.le_of_ble_eq_true rfl) fl_X8_51 rfl rfl rfl rfl ?_
  obtain ⟨r9, hz10, hq⟩ := bindE hq
  refine g_callRV (rest := []) C 45 rfl dX8_seats_42 (c_X4_rows Γ.2.1 Δ (fun i => a (i + 16))  (x8_seating (p8_seating s r5)) hz10) mv_X4_rows ml_X8_199 hK (sct_78 a Δ (p8_seating s r5) hP) rfl rfl rfl rfl rfl ⟨Nat.le_of_ble_eq_true rfl, Nat.le_of_ble_eq_true rfl⟩ (Nat.le_of_ble_eq_true rfl) ⟨Nat.zero_le _, Nat.zero_le _⟩ ?_
  refine g_goto C 55 dX8_seats_45 (by decide) ?_
  exact w_int (ws := fun s => cs8 a Δ s) hR hq hP hS dX8_seats_55 rfl rfl
set_option maxHeartbeats 400000 in
set_option maxRecDepth 100000 in
theorem c_X8_cover (l : Launch) (Δ : gD) (a : Nat → Nat) (x1 : Int32) (x2 : Int32) (x3 : Int32) (x4 : Int32) (x5 : Int32) (s : S8) {res : Int32 × S8} (hq : sem_X8_cover x1 x2 x3 x4 x5 s = some res) : MW l yX8_cover cX8_cover 6 (some .int) Δ (cs8 a Δ s) [.ref (a 0), .int x1, .int x2, .int x3, .int x4, .int x5] 5 118 (some (.int res.1)) (cs8 a Δ res.2) := by
  refine MW.of (by decide) (Nat.le_of_ble_eq_true rfl) ?_
  intro Γ A H hl C hK hP hD hS hA hR
  subst hl
  show g Γ { frames := 5, cells := 0, slots := 0, locals := 118 } 6 H [] 0 0 0 [(0, .ref (a 0)), (1, .int x1), (2, .int x2), (3, .int x3), (4, .int x4), (5, .int x5)] []
  refine g_iload_n C 1 rfl dX8_cover_0 1 rfl ?_
  refine g_iconst 0 C 2 rfl dX8_cover_1 ki_0 ?_
  refine g_bipush 6 C 4 rfl dX8_cover_2 kb_6 ?_
  obtain ⟨r1, hz2, hq⟩ := bindE hq
  refine g_callRS (rest := []) C 7 rfl dX8_cover_4 (c_X8_within Γ.2.1 Δ  x1 0 6  hz2) mv_X8_within (Or.inl ml_X8_69) hK rfl rfl ⟨Nat.le_of_ble_eq_true rfl, Nat.le_of_ble_eq_true rfl⟩ (Nat.le_of_ble_eq_true rfl) ⟨Nat.zero_le _, Nat.zero_le _⟩ ?_
  refine s_if_eq C 51 10 rfl dX8_cover_7 (by decide) hq (fun hq => ?_) (fun hq => ?_)
  · refine g_bipush (-2) C 53 rfl dX8_cover_51 kb_m2 ?_
    exact w_int (ws := fun s => cs8 a Δ s) hR hq hP hS dX8_cover_53 rfl rfl
  refine g_iload_n C 11 rfl dX8_cover_10 2 rfl ?_
  refine g_iconst 0 C 12 rfl dX8_cover_11 ki_0 ?_
  refine g_bipush 6 C 14 rfl dX8_cover_12 kb_6 ?_
  obtain ⟨r3, hz4, hq⟩ := bindE hq
  refine g_callRS (rest := []) C 17 rfl dX8_cover_14 (c_X8_within Γ.2.1 Δ  x2 0 6  hz4) mv_X8_within (Or.inl ml_X8_69) hK rfl rfl ⟨Nat.le_of_ble_eq_true rfl, Nat.le_of_ble_eq_true rfl⟩ (Nat.le_of_ble_eq_true rfl) ⟨Nat.zero_le _, Nat.zero_le _⟩ ?_
  refine s_if_eq C 51 20 rfl dX8_cover_17 (by decide) hq (fun hq => ?_) (fun hq => ?_)
  · refine g_bipush (-2) C 53 rfl dX8_cover_51 kb_m2 ?_
    exact w_int (ws := fun s => cs8 a Δ s) hR hq hP hS dX8_cover_53 rfl rfl
  refine g_iload_n C 21 rfl dX8_cover_20 3 rfl ?_
  refine g_iconst 0 C 22 rfl dX8_cover_21 ki_0 ?_
  refine g_ldc 999999 C 24 rfl dX8_cover_22 k_X8_169 ?_
  obtain ⟨r5, hz6, hq⟩ := bindE hq
  refine g_callRS (rest := []) C 27 rfl dX8_cover_24 (c_X8_within Γ.2.1 Δ  x3 0 999999  hz6) mv_X8_within (Or.inl ml_X8_69) hK rfl rfl ⟨Nat.le_of_ble_eq_true rfl, Nat.le_of_ble_eq_true rfl⟩ (Nat.le_of_ble_eq_true rfl) ⟨Nat.zero_le _, Nat.zero_le _⟩ ?_
  refine s_if_eq C 51 30 rfl dX8_cover_27 (by decide) hq (fun hq => ?_) (fun hq => ?_)
  · refine g_bipush (-2) C 53 rfl dX8_cover_51 kb_m2 ?_
    exact w_int (ws := fun s => cs8 a Δ s) hR hq hP hS dX8_cover_53 rfl rfl
  refine g_iload C 32 rfl dX8_cover_30 4 rfl ?_
  refine g_iconst 0 C 33 rfl dX8_cover_32 ki_0 ?_
  refine g_ldc 999999 C 35 rfl dX8_cover_33 k_X8_169 ?_
  obtain ⟨r7, hz8, hq⟩ := bindE hq
  refine g_callRS (rest := []) C 38 rfl dX8_cover_35 (c_X8_within Γ.2.1 Δ  x4 0 999999  hz8) mv_X8_within (Or.inl ml_X8_69) hK rfl rfl ⟨Nat.le_of_ble_eq_true rfl, Nat.le_of_ble_eq_true rfl⟩ (Nat.le_of_ble_eq_true rfl) ⟨Nat.zero_le _, Nat.zero_le _⟩ ?_
  refine s_if_eq C 51 41 rfl dX8_cover_38 (by decide) hq (fun hq => ?_) (fun hq => ?_)
  · refine g_bipush (-2) C 53 rfl dX8_cover_51 kb_m2 ?_
    exact w_int (ws := fun s => cs8 a Δ s) hR hq hP hS dX8_cover_53 rfl rfl
  refine g_iload C 43 rfl dX8_cover_41 5 rfl ?_
  refine g_iconst 0 C 44 rfl dX8_cover_43 ki_0 ?_
  refine g_iconst 1 C 45 rfl dX8_cover_44 ki_1 ?_
  obtain ⟨r9, hz10, hq⟩ := bindE hq
  refine g_callRS (rest := []) C 48 rfl dX8_cover_45 (c_X8_within Γ.2.1 Δ  x5 0 1  hz10) mv_X8_within (Or.inl ml_X8_69) hK rfl rfl ⟨Nat.le_of_ble_eq_true rfl, Nat.le_of_ble_eq_true rfl⟩ (Nat.le_of_ble_eq_true rfl) ⟨Nat.zero_le _, Nat.zero_le _⟩ ?_
  refine s_if_ne C 54 51 rfl dX8_cover_48 (by decide) hq (fun hq => ?_) (fun hq => ?_)
  rotate_left
  · refine g_bipush (-2) C 53 rfl dX8_cover_51 kb_m2 ?_
    exact w_int (ws := fun s => cs8 a Δ s) hR hq hP hS dX8_cover_53 rfl rfl
  refine g_aload_n C 55 rfl dX8_cover_54 0 rfl ?_
  refine g_get (v := .ref (a 19)) (fs := fl8 a s) C 58 rfl dX8_cover_55 hK hP la_X8 0 7 (Nat.le_of_ble_eq_true rfl) fl_X8_58 rfl rfl rfl rfl ?_
  refine g_aload_n C 59 rfl dX8_cover_58 0 rfl ?_
  refine g_get (v := .ref (a 1)) (fs := fl8 a s) C 62 rfl dX8_cover_59 hK hP la_X8 0 0 (Nat.le_of_ble_eq_true rfl) fl_X8_10 rfl rfl rfl rfl ?_
  refine g_iload_n C 63 rfl dX8_cover_62 3 rfl ?_
  refine g_iload C 65 rfl dX8_cover_63 4 rfl ?_
  obtain ⟨r11, hz12, hq⟩ := bindE hq
  refine g_callWV (rest := []) (cs8 a Δ (p8_covering s r11)) C 68 rfl dX8_cover_65 (c_X0_reckon Γ.2.1 Δ (fun i => a (i + 19)) (fun i => a (i + 1)) x3 x4 (x8_covering s) (x8_town s) hz12) mv_X0_reckon ml_X8_205 hK hP hD hS hA (scl_79 a Δ s r11) rfl rfl rfl rfl rfl ⟨Nat.le_of_ble_eq_true rfl, Nat.le_of_ble_eq_true rfl⟩ (Nat.le_of_ble_eq_true rfl) ⟨Nat.zero_le _, Nat.zero_le _⟩ (fun H L hP hD hS => ?_)
  refine g_iload C 70 rfl dX8_cover_68 5 rfl ?_
  refine s_if_ne C 86 73 rfl dX8_cover_70 (by decide) hq (fun hq => ?_) (fun hq => ?_)
  · refine g_aload_n C 87 rfl dX8_cover_86 0 rfl ?_
    refine g_get (v := .ref (a 19)) (fs := fl8 a (p8_covering s r11)) C 90 rfl dX8_cover_87 hK hP la_X8 0 7 (Nat.le_of_ble_eq_true rfl) fl_X8_58 rfl rfl rfl rfl ?_
    refine g_iload_n C 91 rfl dX8_cover_90 1 rfl ?_
    refine g_iload_n C 92 rfl dX8_cover_91 2 rfl ?_
    obtain ⟨r13, hz14, hq⟩ := bindE hq
    refine g_callRV (rest := []) C 95 rfl dX8_cover_92 (c_X0_holders Γ.2.1 Δ (fun i => a (i + 19)) x1 x2 (x8_covering (p8_covering s r11)) hz14) mv_X0_holders ml_X8_211 hK (sct_80 a Δ (p8_covering s r11) hP) rfl rfl rfl rfl rfl ⟨Nat.le_of_ble_eq_true rfl, Nat.le_of_ble_eq_true rfl⟩ (Nat.le_of_ble_eq_true rfl) ⟨Nat.zero_le _, Nat.zero_le _⟩ ?_
    exact w_int (ws := fun s => cs8 a Δ s) hR hq hP hS dX8_cover_95 rfl rfl
  refine g_aload_n C 74 rfl dX8_cover_73 0 rfl ?_
  refine g_get (v := .ref (a 19)) (fs := fl8 a (p8_covering s r11)) C 77 rfl dX8_cover_74 hK hP la_X8 0 7 (Nat.le_of_ble_eq_true rfl) fl_X8_58 rfl rfl rfl rfl ?_
  refine g_iconst 0 C 78 rfl dX8_cover_77 ki_0 ?_
  refine g_iload_n C 79 rfl dX8_cover_78 1 rfl ?_
  refine g_iload_n C 80 rfl dX8_cover_79 2 rfl ?_
  obtain ⟨r15, hz16, hq⟩ := bindE hq
  refine g_callRV (rest := []) C 83 rfl dX8_cover_80 (c_X0_mostFrom Γ.2.1 Δ (fun i => a (i + 19)) 0 x1 x2 (x8_covering (p8_covering s r11)) hz16) mv_X0_mostFrom ml_X8_208 hK (sct_80 a Δ (p8_covering s r11) hP) rfl rfl rfl rfl rfl ⟨Nat.le_of_ble_eq_true rfl, Nat.le_of_ble_eq_true rfl⟩ (Nat.le_of_ble_eq_true rfl) ⟨Nat.zero_le _, Nat.zero_le _⟩ ?_
  refine g_goto C 95 dX8_cover_83 (by decide) ?_
  exact w_int (ws := fun s => cs8 a Δ s) hR hq hP hS dX8_cover_95 rfl rfl
set_option maxHeartbeats 400000 in
set_option maxRecDepth 100000 in
theorem c_X8_risk (l : Launch) (Δ : gD) (a : Nat → Nat) (x1 : Int32) (x2 : Int32) (x3 : Int32) (x4 : Int32) (x5 : Int32) (x6 : Int32) (s : S8) {res : Int64 × S8} (hq : sem_X8_risk x1 x2 x3 x4 x5 x6 s = some res) : MW l yX8_risk cX8_risk 9 (some .long) Δ (cs8 a Δ s) [.ref (a 0), .int x1, .int x2, .int x3, .int x4, .int x5, .int x6] 2 55 (some (.long res.1)) (cs8 a Δ res.2) := by
  refine MW.of (by decide) (Nat.le_of_ble_eq_true rfl) ?_
  intro Γ A H hl C hK hP hD hS hA hR
  subst hl
  have K162 : ∀ (x7 : Int64) (y0 : Int64) (s : S8) (H : Heap) (L : List Loc) (hP : va_P Δ.1 classes (cs8 a Δ s) H) (hD : va_D A (cs8 a Δ s)) (hS : va_S A (sOf Γ).heap H L), jn_X8_risk_162 x7 y0 s = some res → g Γ { frames := 2, cells := 0, slots := 0, locals := 55 } 9 H L 0 0 162 [(0, .ref (a 0)), (7, .long x7)] [.long y0] := by
    intro x7 y0 s H L hP hD hS hq
    refine g_lload C 164 rfl dX8_risk_162 1 rfl ?_
    refine g_aload_n C 165 rfl dX8_risk_164 0 rfl ?_
    refine g_get (v := .ref (a 21)) (fs := fl8 a s) C 168 rfl dX8_risk_165 hK hP la_X8 0 8 (Nat.le_of_ble_eq_true rfl) fl_X8_65 rfl rfl rfl rfl ?_
    refine g_get (v := .long (x2_whole (x8_odds s))) (fs := fl2 (fun i => a (i + 21)) (x8_odds s)) C 171 rfl dX8_risk_168 hK hP la_X2 21 3 (Nat.le_of_ble_eq_true rfl) fl_X8_229 rfl rfl rfl rfl ?_
    obtain ⟨r1, hz2, hq⟩ := bindE hq
    refine g_callRS (rest := [.long y0]) C 174 rfl dX8_risk_171 (c_X8_commonDivisor Γ.2.1 Δ  x7 (x2_whole (x8_odds s))  hz2) mv_X8_commonDivisor (Or.inl ml_X8_232) hK rfl rfl ⟨Nat.le_of_ble_eq_true rfl, Nat.le_of_ble_eq_true rfl⟩ (Nat.le_of_ble_eq_true rfl) ⟨Nat.zero_le _, Nat.zero_le _⟩ ?_
    obtain ⟨hz3, hq⟩ := dzl_some hq
    refine g_ldiv C 175 rfl dX8_risk_174 hz3 ?_
    exact w_long (ws := fun s => cs8 a Δ s) hR hq hP hS dX8_risk_175 rfl
  have K143 : ∀ (x6 : Int32) (y0 : Int64) (s : S8) (H : Heap) (L : List Loc) (hP : va_P Δ.1 classes (cs8 a Δ s) H) (hD : va_D A (cs8 a Δ s)) (hS : va_S A (sOf Γ).heap H L), jn_X8_risk_143 x6 y0 s = some res → g Γ { frames := 2, cells := 0, slots := 0, locals := 55 } 9 H L 0 0 143 [(0, .ref (a 0)), (6, .int x6)] [.long y0] := by
    intro x6 y0 s H L hP hD hS hq
    refine g_lstore [(7, .long y0), (0, .ref (a 0)), (6, .int x6)] C 145 rfl dX8_risk_143 (Nat.le_of_ble_eq_true rfl) rfl ?_
    refine g_iload C 147 rfl dX8_risk_145 2 rfl ?_
    refine s_if_ne C 155 150 rfl dX8_risk_147 (by decide) hq (fun hq => ?_) (fun hq => ?_)
    rotate_left
    · refine g_lload C 152 rfl dX8_risk_150 0 rfl ?_
      refine g_goto C 162 dX8_risk_152 (by decide) ?_
      exact g_sub [1, 0] rfl (K162 y0 y0 s _ _ hP hD hS hq)
    refine g_aload_n C 156 rfl dX8_risk_155 1 rfl ?_
    refine g_get (v := .ref (a 21)) (fs := fl8 a s) C 159 rfl dX8_risk_156 hK hP la_X8 0 8 (Nat.le_of_ble_eq_true rfl) fl_X8_65 rfl rfl rfl rfl ?_
    refine g_get (v := .long (x2_whole (x8_odds s))) (fs := fl2 (fun i => a (i + 21)) (x8_odds s)) C 162 rfl dX8_risk_159 hK hP la_X2 21 3 (Nat.le_of_ble_eq_true rfl) fl_X8_229 rfl rfl rfl rfl ?_
    exact g_sub [1, 0] rfl (K162 y0 (x2_whole (x8_odds s)) s _ _ hP hD hS hq)
  show g Γ { frames := 2, cells := 0, slots := 0, locals := 55 } 9 H [] 0 0 0 [(0, .ref (a 0)), (1, .int x1), (2, .int x2), (3, .int x3), (4, .int x4), (5, .int x5), (6, .int x6)] []
  refine g_iload_n C 1 rfl dX8_risk_0 1 rfl ?_
  refine g_iconst 0 C 2 rfl dX8_risk_1 ki_0 ?_
  refine g_aload_n C 3 rfl dX8_risk_2 0 rfl ?_
  refine g_get (v := .ref (a 1)) (fs := fl8 a s) C 6 rfl dX8_risk_3 hK hP la_X8 0 0 (Nat.le_of_ble_eq_true rfl) fl_X8_10 rfl rfl rfl rfl ?_
  refine g_get (v := .int (x6_limit (x8_town s))) (fs := fl6 (fun i => a (i + 1)) (x8_town s)) C 9 rfl dX8_risk_6 hK hP la_X6 1 3 (Nat.le_of_ble_eq_true rfl) fl_X8_73 rfl rfl rfl rfl ?_
  obtain ⟨r4, hz5, hq⟩ := bindE hq
  refine g_callRS (rest := []) C 12 rfl dX8_risk_9 (c_X8_within Γ.2.1 Δ  x1 0 (x6_limit (x8_town s))  hz5) mv_X8_within (Or.inl ml_X8_69) hK rfl rfl ⟨Nat.le_of_ble_eq_true rfl, Nat.le_of_ble_eq_true rfl⟩ (Nat.le_of_ble_eq_true rfl) ⟨Nat.zero_le _, Nat.zero_le _⟩ ?_
  refine s_if_eq C 66 15 rfl dX8_risk_12 (by decide) hq (fun hq => ?_) (fun hq => ?_)
  · refine g_ldc2 (-1000000000000000002) C 69 rfl dX8_risk_66 k_X8_214 ?_
    exact w_long (ws := fun s => cs8 a Δ s) hR hq hP hS dX8_risk_69 rfl
  refine g_iload_n C 16 rfl dX8_risk_15 2 rfl ?_
  refine g_iconst 0 C 17 rfl dX8_risk_16 ki_0 ?_
  refine g_bipush 8 C 19 rfl dX8_risk_17 kb_8 ?_
  obtain ⟨r6, hz7, hq⟩ := bindE hq
  refine g_callRS (rest := []) C 22 rfl dX8_risk_19 (c_X8_within Γ.2.1 Δ  x2 0 8  hz7) mv_X8_within (Or.inl ml_X8_69) hK rfl rfl ⟨Nat.le_of_ble_eq_true rfl, Nat.le_of_ble_eq_true rfl⟩ (Nat.le_of_ble_eq_true rfl) ⟨Nat.zero_le _, Nat.zero_le _⟩ ?_
  refine s_if_eq C 66 25 rfl dX8_risk_22 (by decide) hq (fun hq => ?_) (fun hq => ?_)
  · refine g_ldc2 (-1000000000000000002) C 69 rfl dX8_risk_66 k_X8_214 ?_
    exact w_long (ws := fun s => cs8 a Δ s) hR hq hP hS dX8_risk_69 rfl
  refine g_iload_n C 26 rfl dX8_risk_25 3 rfl ?_
  refine g_iconst 1 C 27 rfl dX8_risk_26 ki_1 ?_
  refine g_bipush 9 C 29 rfl dX8_risk_27 kb_9 ?_
  obtain ⟨r8, hz9, hq⟩ := bindE hq
  refine g_callRS (rest := []) C 32 rfl dX8_risk_29 (c_X8_within Γ.2.1 Δ  x3 1 9  hz9) mv_X8_within (Or.inl ml_X8_69) hK rfl rfl ⟨Nat.le_of_ble_eq_true rfl, Nat.le_of_ble_eq_true rfl⟩ (Nat.le_of_ble_eq_true rfl) ⟨Nat.zero_le _, Nat.zero_le _⟩ ?_
  refine s_if_eq C 66 35 rfl dX8_risk_32 (by decide) hq (fun hq => ?_) (fun hq => ?_)
  · refine g_ldc2 (-1000000000000000002) C 69 rfl dX8_risk_66 k_X8_214 ?_
    exact w_long (ws := fun s => cs8 a Δ s) hR hq hP hS dX8_risk_69 rfl
  refine g_iload C 37 rfl dX8_risk_35 4 rfl ?_
  refine g_iconst 0 C 38 rfl dX8_risk_37 ki_0 ?_
  refine g_bipush 10 C 40 rfl dX8_risk_38 kb_10 ?_
  obtain ⟨r10, hz11, hq⟩ := bindE hq
  refine g_callRS (rest := []) C 43 rfl dX8_risk_40 (c_X8_within Γ.2.1 Δ  x4 0 10  hz11) mv_X8_within (Or.inl ml_X8_69) hK rfl rfl ⟨Nat.le_of_ble_eq_true rfl, Nat.le_of_ble_eq_true rfl⟩ (Nat.le_of_ble_eq_true rfl) ⟨Nat.zero_le _, Nat.zero_le _⟩ ?_
  refine s_if_eq C 66 46 rfl dX8_risk_43 (by decide) hq (fun hq => ?_) (fun hq => ?_)
  · refine g_ldc2 (-1000000000000000002) C 69 rfl dX8_risk_66 k_X8_214 ?_
    exact w_long (ws := fun s => cs8 a Δ s) hR hq hP hS dX8_risk_69 rfl
  refine g_iload C 48 rfl dX8_risk_46 5 rfl ?_
  refine g_iconst 0 C 49 rfl dX8_risk_48 ki_0 ?_
  refine g_iconst 1 C 50 rfl dX8_risk_49 ki_1 ?_
  obtain ⟨r12, hz13, hq⟩ := bindE hq
  refine g_callRS (rest := []) C 53 rfl dX8_risk_50 (c_X8_within Γ.2.1 Δ  x5 0 1  hz13) mv_X8_within (Or.inl ml_X8_69) hK rfl rfl ⟨Nat.le_of_ble_eq_true rfl, Nat.le_of_ble_eq_true rfl⟩ (Nat.le_of_ble_eq_true rfl) ⟨Nat.zero_le _, Nat.zero_le _⟩ ?_
  refine s_if_eq C 66 56 rfl dX8_risk_53 (by decide) hq (fun hq => ?_) (fun hq => ?_)
  · refine g_ldc2 (-1000000000000000002) C 69 rfl dX8_risk_66 k_X8_214 ?_
    exact w_long (ws := fun s => cs8 a Δ s) hR hq hP hS dX8_risk_69 rfl
  refine g_iload C 58 rfl dX8_risk_56 6 rfl ?_
  refine g_iconst 0 C 59 rfl dX8_risk_58 ki_0 ?_
  refine g_iconst 1 C 60 rfl dX8_risk_59 ki_1 ?_
  obtain ⟨r14, hz15, hq⟩ := bindE hq
  refine g_callRS (rest := []) C 63 rfl dX8_risk_60 (c_X8_within Γ.2.1 Δ  x6 0 1  hz15) mv_X8_within (Or.inl ml_X8_69) hK rfl rfl ⟨Nat.le_of_ble_eq_true rfl, Nat.le_of_ble_eq_true rfl⟩ (Nat.le_of_ble_eq_true rfl) ⟨Nat.zero_le _, Nat.zero_le _⟩ ?_
  refine s_if_ne C 70 66 rfl dX8_risk_63 (by decide) hq (fun hq => ?_) (fun hq => ?_)
  rotate_left
  · refine g_ldc2 (-1000000000000000002) C 69 rfl dX8_risk_66 k_X8_214 ?_
    exact w_long (ws := fun s => cs8 a Δ s) hR hq hP hS dX8_risk_69 rfl
  refine g_aload_n C 71 rfl dX8_risk_70 0 rfl ?_
  refine g_get (v := .ref (a 21)) (fs := fl8 a s) C 74 rfl dX8_risk_71 hK hP la_X8 0 8 (Nat.le_of_ble_eq_true rfl) fl_X8_65 rfl rfl rfl rfl ?_
  refine g_iload_n C 75 rfl dX8_risk_74 1 rfl ?_
  refine g_aload_n C 76 rfl dX8_risk_75 0 rfl ?_
  refine g_get (v := .ref (a 1)) (fs := fl8 a s) C 79 rfl dX8_risk_76 hK hP la_X8 0 0 (Nat.le_of_ble_eq_true rfl) fl_X8_10 rfl rfl rfl rfl ?_
  refine g_get (v := .int (x6_limit (x8_town s))) (fs := fl6 (fun i => a (i + 1)) (x8_town s)) C 82 rfl dX8_risk_79 hK hP la_X6 1 3 (Nat.le_of_ble_eq_true rfl) fl_X8_73 rfl rfl rfl rfl ?_
  obtain ⟨r16, hz17, hq⟩ := bindE hq
  refine g_callWV (rest := []) (cs8 a Δ (p8_odds s r16)) C 85 rfl dX8_risk_82 (c_X2_begin Γ.2.1 Δ (fun i => a (i + 21)) x1 (x6_limit (x8_town s)) (x8_odds s) hz17) mv_X2_begin ml_X8_216 hK hP hD hS hA (scl_81 a Δ s r16) rfl rfl rfl rfl rfl ⟨Nat.le_of_ble_eq_true rfl, Nat.le_of_ble_eq_true rfl⟩ (Nat.le_of_ble_eq_true rfl) ⟨Nat.zero_le _, Nat.zero_le _⟩ (fun H L hP hD hS => ?_)
  refine g_iconst 0 C 86 rfl dX8_risk_85 ki_0 ?_
  refine g_istore [(7, .int 0), (0, .ref (a 0)), (1, .int x1), (2, .int x2), (3, .int x3), (4, .int x4), (5, .int x5), (6, .int x6)] C 88 rfl dX8_risk_86 (Nat.le_of_ble_eq_true rfl) rfl ?_
  have Q88 : ∀ (x2 : Int32) (x3 : Int32) (x4 : Int32) (x5 : Int32) (x6 : Int32), ∀ (n : Nat) (x7 : Int32) (s : S8) (o : (S8)) (H : Heap) (L : List Loc) (hP : va_P Δ.1 classes (cs8 a Δ s) H) (hD : va_D A (cs8 a Δ s)) (hS : va_S A (sOf Γ).heap H L) (hq : lp_X8_risk_88 x2 x3 x4 x5 x6 n x7 s = some o) (E2 : ∀ (H : Heap) (L : List Loc), va_P Δ.1 classes (cs8 a Δ o) H → va_D A (cs8 a Δ o) → va_S A (sOf Γ).heap H L → g Γ { frames := 2, cells := 0, slots := 0, locals := 55 } 9 H L 0 0 121 [(0, .ref (a 0)), (5, .int x5), (6, .int x6)] []), g Γ { frames := 2, cells := 0, slots := 0, locals := 55 } 9 H L 0 0 88 [(0, .ref (a 0)), (2, .int x2), (3, .int x3), (4, .int x4), (5, .int x5), (6, .int x6), (7, .int x7)] [] := by
    intro x2 x3 x4 x5 x6
    intro n
    induction n with
    | zero => intro x7 s o H L hP hD hS hq; exact nomatch (show (none : Option (S8)) = some o from hq)
    | succ n ih =>
      intro x7 s o H L hP hD hS hq E2
      have hq : bd_X8_risk_88 x2 x3 x4 x5 x6 (lp_X8_risk_88 x2 x3 x4 x5 x6 n) x7 s = some o := hq
      refine g_iload C 90 rfl dX8_risk_88 6 rfl ?_
      refine g_iload_n C 91 rfl dX8_risk_90 1 rfl ?_
      refine s_icmp_ge C 121 94 rfl dX8_risk_91 (by decide) hq (fun hq => ?_) (fun hq => ?_)
      · cases hq
        exact g_sub [0, 4, 5] rfl (E2 _ _ hP hD hS)
      refine g_aload_n C 95 rfl dX8_risk_94 0 rfl ?_
      refine g_get (v := .ref (a 21)) (fs := fl8 a s) C 98 rfl dX8_risk_95 hK hP la_X8 0 8 (Nat.le_of_ble_eq_true rfl) fl_X8_65 rfl rfl rfl rfl ?_
      refine g_iload_n C 99 rfl dX8_risk_98 2 rfl ?_
      refine g_iload C 101 rfl dX8_risk_99 3 rfl ?_
      refine g_iload C 103 rfl dX8_risk_101 4 rfl ?_
      refine g_iconst 1 C 104 rfl dX8_risk_103 ki_1 ?_
      refine s_icmp_ne C 111 107 rfl dX8_risk_104 (by decide) hq (fun hq => ?_) (fun hq => ?_)
      · refine g_iconst 0 C 112 rfl dX8_risk_111 ki_0 ?_
        obtain ⟨r18, hz19, hq⟩ := bindE hq
        refine g_callWV (rest := []) (cs8 a Δ (p8_odds s r18)) C 115 rfl dX8_risk_112 (c_X2_passHour Γ.2.1 Δ (fun i => a (i + 21)) x3 x4 0 (x8_odds s) hz19) mv_X2_passHour ml_X8_218 hK hP hD hS hA (scl_81 a Δ s r18) rfl rfl rfl rfl rfl ⟨Nat.le_of_ble_eq_true rfl, Nat.le_of_ble_eq_true rfl⟩ (Nat.le_of_ble_eq_true rfl) ⟨Nat.zero_le _, Nat.zero_le _⟩ (fun H L hP hD hS => ?_)
        refine g_iinc (x7 + 1) [(7, .int (x7 + 1)), (0, .ref (a 0)), (2, .int x2), (3, .int x3), (4, .int x4), (5, .int x5), (6, .int x6)] C 118 rfl dX8_risk_115 6 rfl (ii_1 _) (Nat.le_of_ble_eq_true rfl) rfl ?_
        refine g_goto C 88 dX8_risk_118 (by decide) ?_
        exact g_sub [1, 2, 3, 4, 5, 6, 0] rfl (ih (x7 + 1) (p8_odds s r18) _ _ _ hP hD hS hq E2)
      refine g_iconst 1 C 108 rfl dX8_risk_107 ki_1 ?_
      refine g_goto C 112 dX8_risk_108 (by decide) ?_
      obtain ⟨r20, hz21, hq⟩ := bindE hq
      refine g_callWV (rest := []) (cs8 a Δ (p8_odds s r20)) C 115 rfl dX8_risk_112 (c_X2_passHour Γ.2.1 Δ (fun i => a (i + 21)) x3 x4 1 (x8_odds s) hz21) mv_X2_passHour ml_X8_218 hK hP hD hS hA (scl_81 a Δ s r20) rfl rfl rfl rfl rfl ⟨Nat.le_of_ble_eq_true rfl, Nat.le_of_ble_eq_true rfl⟩ (Nat.le_of_ble_eq_true rfl) ⟨Nat.zero_le _, Nat.zero_le _⟩ (fun H L hP hD hS => ?_)
      refine g_iinc (x7 + 1) [(7, .int (x7 + 1)), (0, .ref (a 0)), (2, .int x2), (3, .int x3), (4, .int x4), (5, .int x5), (6, .int x6)] C 118 rfl dX8_risk_115 6 rfl (ii_1 _) (Nat.le_of_ble_eq_true rfl) rfl ?_
      refine g_goto C 88 dX8_risk_118 (by decide) ?_
      exact g_sub [1, 2, 3, 4, 5, 6, 0] rfl (ih (x7 + 1) (p8_odds s r20) _ _ _ hP hD hS hq E2)
  obtain ⟨o22, ho23, hq⟩ := bindE hq
  refine g_sub [1, 3, 4, 5, 6, 7, 0] rfl (Q88 x2 x3 x4 x5 x6 FUEL 0 (p8_odds s r16) o22 _ _ hP hD hS ho23 (fun H L hP hD hS => ?_))
  refine g_iload C 123 rfl dX8_risk_121 1 rfl ?_
  refine s_if_ne C 136 126 rfl dX8_risk_123 (by decide) hq (fun hq => ?_) (fun hq => ?_)
  · refine g_aload_n C 137 rfl dX8_risk_136 0 rfl ?_
    refine g_get (v := .ref (a 21)) (fs := fl8 a o22) C 140 rfl dX8_risk_137 hK hP la_X8 0 8 (Nat.le_of_ble_eq_true rfl) fl_X8_65 rfl rfl rfl rfl ?_
    refine g_get (v := .long (x2_slips (x8_odds o22))) (fs := fl2 (fun i => a (i + 21)) (x8_odds o22)) C 143 rfl dX8_risk_140 hK hP la_X2 21 4 (Nat.le_of_ble_eq_true rfl) fl_X8_226 rfl rfl rfl rfl ?_
    exact g_sub [0, 2] rfl (K143 x6 (x2_slips (x8_odds o22)) o22 _ _ hP hD hS hq)
  refine g_aload_n C 127 rfl dX8_risk_126 0 rfl ?_
  refine g_get (v := .ref (a 21)) (fs := fl8 a o22) C 130 rfl dX8_risk_127 hK hP la_X8 0 8 (Nat.le_of_ble_eq_true rfl) fl_X8_65 rfl rfl rfl rfl ?_
  obtain ⟨r24, hz25, hq⟩ := bindE hq
  refine g_callRV (rest := []) C 133 rfl dX8_risk_130 (c_X2_calm Γ.2.1 Δ (fun i => a (i + 21))  (x8_odds o22) hz25) mv_X2_calm ml_X8_222 hK (sct_82 a Δ o22 hP) rfl rfl rfl rfl rfl ⟨Nat.le_of_ble_eq_true rfl, Nat.le_of_ble_eq_true rfl⟩ (Nat.le_of_ble_eq_true rfl) ⟨Nat.zero_le _, Nat.zero_le _⟩ ?_
  refine g_goto C 143 dX8_risk_133 (by decide) ?_
  exact g_sub [0, 2] rfl (K143 x6 r24 o22 _ _ hP hD hS hq)
set_option maxHeartbeats 400000 in
set_option maxRecDepth 100000 in
theorem c_X8_seen (l : Launch) (Δ : gD) (a : Nat → Nat) (x1 : Int32) (x2 : Int32) (s : S8) {res : Int32 × S8} (hq : sem_X8_seen x1 x2 s = some res) : MW l yX8_seen cX8_seen 3 (some .int) Δ (cs8 a Δ s) [.ref (a 0), .int x1, .int x2] 2 45 (some (.int res.1)) (cs8 a Δ res.2) := by
  refine MW.of (by decide) (Nat.le_of_ble_eq_true rfl) ?_
  intro Γ A H hl C hK hP hD hS hA hR
  subst hl
  show g Γ { frames := 2, cells := 0, slots := 0, locals := 45 } 3 H [] 0 0 0 [(0, .ref (a 0)), (1, .int x1), (2, .int x2)] []
  refine g_aload_n C 1 rfl dX8_seen_0 0 rfl ?_
  refine g_get (v := .ref (a 1)) (fs := fl8 a s) C 4 rfl dX8_seen_1 hK hP la_X8 0 0 (Nat.le_of_ble_eq_true rfl) fl_X8_10 rfl rfl rfl rfl ?_
  refine g_iload_n C 5 rfl dX8_seen_4 1 rfl ?_
  obtain ⟨r1, hz2, hq⟩ := bindE hq
  refine g_callRV (rest := []) C 8 rfl dX8_seen_5 (c_X6_has Γ.2.1 Δ (fun i => a (i + 1)) x1 (x8_town s) hz2) mv_X6_has ml_X8_85 hK (sct_62 a Δ s hP) rfl rfl rfl rfl rfl ⟨Nat.le_of_ble_eq_true rfl, Nat.le_of_ble_eq_true rfl⟩ (Nat.le_of_ble_eq_true rfl) ⟨Nat.zero_le _, Nat.zero_le _⟩ ?_
  refine s_if_ne C 13 11 rfl dX8_seen_8 (by decide) hq (fun hq => ?_) (fun hq => ?_)
  rotate_left
  · refine g_iconst (-1) C 12 rfl dX8_seen_11 ki_m1 ?_
    exact w_int (ws := fun s => cs8 a Δ s) hR hq hP hS dX8_seen_12 rfl rfl
  refine g_aload_n C 14 rfl dX8_seen_13 0 rfl ?_
  refine g_get (v := .ref (a 1)) (fs := fl8 a s) C 17 rfl dX8_seen_14 hK hP la_X8 0 0 (Nat.le_of_ble_eq_true rfl) fl_X8_10 rfl rfl rfl rfl ?_
  refine g_get (v := .int (x6_sights (x8_town s))) (fs := fl6 (fun i => a (i + 1)) (x8_town s)) C 20 rfl dX8_seen_17 hK hP la_X6 1 5 (Nat.le_of_ble_eq_true rfl) fl_X8_238 rfl rfl rfl rfl ?_
  refine g_bipush 8 C 22 rfl dX8_seen_20 kb_8 ?_
  refine s_icmp_lt C 28 25 rfl dX8_seen_22 (by decide) hq (fun hq => ?_) (fun hq => ?_)
  rotate_left
  · refine g_bipush (-4) C 27 rfl dX8_seen_25 kb_m4 ?_
    exact w_int (ws := fun s => cs8 a Δ s) hR hq hP hS dX8_seen_27 rfl rfl
  refine g_aload_n C 29 rfl dX8_seen_28 0 rfl ?_
  refine g_get (v := .ref (a 1)) (fs := fl8 a s) C 32 rfl dX8_seen_29 hK hP la_X8 0 0 (Nat.le_of_ble_eq_true rfl) fl_X8_10 rfl rfl rfl rfl ?_
  refine g_iload_n C 33 rfl dX8_seen_32 1 rfl ?_
  refine g_iload_n C 34 rfl dX8_seen_33 2 rfl ?_
  obtain ⟨r3, hz4, hq⟩ := bindE hq
  refine g_callWV (rest := []) (cs8 a Δ (p8_town s r3)) C 37 rfl dX8_seen_34 (c_X6_addSight Γ.2.1 Δ (fun i => a (i + 1)) x1 x2 (x8_town s) hz4) mv_X6_addSight ml_X8_241 hK hP hD hS hA (scl_61 a Δ s r3) rfl rfl rfl rfl rfl ⟨Nat.le_of_ble_eq_true rfl, Nat.le_of_ble_eq_true rfl⟩ (Nat.le_of_ble_eq_true rfl) ⟨Nat.zero_le _, Nat.zero_le _⟩ (fun H L hP hD hS => ?_)
  refine g_aload_n C 38 rfl dX8_seen_37 0 rfl ?_
  refine g_get (v := .ref (a 1)) (fs := fl8 a (p8_town s r3)) C 41 rfl dX8_seen_38 hK hP la_X8 0 0 (Nat.le_of_ble_eq_true rfl) fl_X8_10 rfl rfl rfl rfl ?_
  refine g_get (v := .int (x6_sights (x8_town (p8_town s r3)))) (fs := fl6 (fun i => a (i + 1)) (x8_town (p8_town s r3))) C 44 rfl dX8_seen_41 hK hP la_X6 1 5 (Nat.le_of_ble_eq_true rfl) fl_X8_238 rfl rfl rfl rfl ?_
  exact w_int (ws := fun s => cs8 a Δ s) hR hq hP hS dX8_seen_44 rfl rfl
set_option maxHeartbeats 400000 in
set_option maxRecDepth 100000 in
theorem c_X8_forget (l : Launch) (Δ : gD) (a : Nat → Nat)  (s : S8) {res : Int32 × S8} (hq : sem_X8_forget  s = some res) : MW l yX8_forget cX8_forget 2 (some .int) Δ (cs8 a Δ s) [.ref (a 0)] 0 0 (some (.int res.1)) (cs8 a Δ res.2) := by
  refine MW.of (by decide) (Nat.le_of_ble_eq_true rfl) ?_
  intro Γ A H hl C hK hP hD hS hA hR
  subst hl
  show g Γ { frames := 0, cells := 0, slots := 0, locals := 0 } 2 H [] 0 0 0 [(0, .ref (a 0))] []
  refine g_aload_n C 1 rfl dX8_forget_0 0 rfl ?_
  refine g_get (v := .ref (a 1)) (fs := fl8 a s) C 4 rfl dX8_forget_1 hK hP la_X8 0 0 (Nat.le_of_ble_eq_true rfl) fl_X8_10 rfl rfl rfl rfl ?_
  refine g_get (v := .int (x6_sights (x8_town s))) (fs := fl6 (fun i => a (i + 1)) (x8_town s)) C 7 rfl dX8_forget_4 hK hP la_X6 1 5 (Nat.le_of_ble_eq_true rfl) fl_X8_238 rfl rfl rfl rfl ?_
  refine g_istore_n [(1, .int (x6_sights (x8_town s))), (0, .ref (a 0))] C 8 rfl dX8_forget_7 (Nat.le_of_ble_eq_true rfl) rfl ?_
  refine g_aload_n C 9 rfl dX8_forget_8 1 rfl ?_
  refine g_get (v := .ref (a 1)) (fs := fl8 a s) C 12 rfl dX8_forget_9 hK hP la_X8 0 0 (Nat.le_of_ble_eq_true rfl) fl_X8_10 rfl rfl rfl rfl ?_
  refine g_iconst 0 C 13 rfl dX8_forget_12 ki_0 ?_
  refine g_put (fs := fl6 (fun i => a (i + 1)) (x8_town s)) (cs8 a Δ (p8_town s (p6_sights (x8_town s) 0))) C 16 rfl dX8_forget_13 hK hP hD hS la_X6 tyX6_ok nmX6 1 5 (Nat.le_of_ble_eq_true rfl) fl_X8_238 rfl rfl rfl rfl rfl rfl (Nat.le_of_ble_eq_true rfl) (sst_83 a Δ s 0) (fun H L hP hD hS => ?_)
  refine g_iload_n C 17 rfl dX8_forget_16 0 rfl ?_
  exact w_int (ws := fun s => cs8 a Δ s) hR hq hP hS dX8_forget_17 rfl rfl
set_option maxHeartbeats 400000 in
set_option maxRecDepth 100000 in
theorem c_X8_who (l : Launch) (Δ : gD) (a : Nat → Nat)  (s : S8) {res : Int32} (hq : sem_X8_who  s = some res) : MR l yX8_who cX8_who 1 (some .int) Δ (cs8 a Δ s) [.ref (a 0)] 5 115 (.int res) := by
  refine MR.of (by decide) (Nat.le_of_ble_eq_true rfl) ?_
  intro Γ H hl C hK hP hR
  subst hl
  show g Γ { frames := 5, cells := 0, slots := 0, locals := 115 } 1 H [] 0 0 0 [(0, .ref (a 0))] []
  refine g_aload_n C 1 rfl dX8_who_0 0 rfl ?_
  refine g_get (v := .ref (a 1)) (fs := fl8 a s) C 4 rfl dX8_who_1 hK hP la_X8 0 0 (Nat.le_of_ble_eq_true rfl) fl_X8_10 rfl rfl rfl rfl ?_
  obtain ⟨r1, hz2, hq⟩ := bindE hq
  refine g_callRV (rest := []) C 7 rfl dX8_who_4 (c_X6_suspects Γ.2.1 Δ (fun i => a (i + 1))  (x8_town s) hz2) mv_X6_suspects ml_X8_245 hK (sct_62 a Δ s hP) rfl rfl rfl rfl rfl ⟨Nat.le_of_ble_eq_true rfl, Nat.le_of_ble_eq_true rfl⟩ (Nat.le_of_ble_eq_true rfl) ⟨Nat.zero_le _, Nat.zero_le _⟩ ?_
  exact r_int hR hq dX8_who_7 rfl rfl
set_option maxHeartbeats 400000 in
set_option maxRecDepth 100000 in
theorem c_X8_ask (l : Launch) (Δ : gD) (a : Nat → Nat) (x1 : Int32) (s : S8) {res : Int32} (hq : sem_X8_ask x1 s = some res) : MR l yX8_ask cX8_ask 7 (some .int) Δ (cs8 a Δ s) [.ref (a 0), .int x1] 5 115 (.int res) := by
  refine MR.of (by decide) (Nat.le_of_ble_eq_true rfl) ?_
  intro Γ H hl C hK hP hR
  subst hl
  show g Γ { frames := 5, cells := 0, slots := 0, locals := 115 } 7 H [] 0 0 0 [(0, .ref (a 0)), (1, .int x1)] []
  refine g_iload_n C 1 rfl dX8_ask_0 1 rfl ?_
  refine g_iconst 0 C 2 rfl dX8_ask_1 ki_0 ?_
  refine g_iconst 1 C 3 rfl dX8_ask_2 ki_1 ?_
  obtain ⟨r1, hz2, hq⟩ := bindE hq
  refine g_callRS (rest := []) C 6 rfl dX8_ask_3 (c_X8_within Γ.2.1 Δ  x1 0 1  hz2) mv_X8_within (Or.inl ml_X8_69) hK rfl rfl ⟨Nat.le_of_ble_eq_true rfl, Nat.le_of_ble_eq_true rfl⟩ (Nat.le_of_ble_eq_true rfl) ⟨Nat.zero_le _, Nat.zero_le _⟩ ?_
  refine s_if_ne C 12 9 rfl dX8_ask_6 (by decide) hq (fun hq => ?_) (fun hq => ?_)
  rotate_left
  · refine g_bipush (-2) C 11 rfl dX8_ask_9 kb_m2 ?_
    exact r_int hR hq dX8_ask_11 rfl rfl
  refine g_aload_n C 13 rfl dX8_ask_12 0 rfl ?_
  refine g_get (v := .ref (a 1)) (fs := fl8 a s) C 16 rfl dX8_ask_13 hK hP la_X8 0 0 (Nat.le_of_ble_eq_true rfl) fl_X8_10 rfl rfl rfl rfl ?_
  obtain ⟨r3, hz4, hq⟩ := bindE hq
  refine g_callRV (rest := []) C 19 rfl dX8_ask_16 (c_X6_suspects Γ.2.1 Δ (fun i => a (i + 1))  (x8_town s) hz4) mv_X6_suspects ml_X8_245 hK (sct_62 a Δ s hP) rfl rfl rfl rfl rfl ⟨Nat.le_of_ble_eq_true rfl, Nat.le_of_ble_eq_true rfl⟩ (Nat.le_of_ble_eq_true rfl) ⟨Nat.zero_le _, Nat.zero_le _⟩ ?_
  refine g_istore_n [(2, .int r3), (0, .ref (a 0)), (1, .int x1)] C 20 rfl dX8_ask_19 (Nat.le_of_ble_eq_true rfl) rfl ?_
  refine g_iload_n C 21 rfl dX8_ask_20 0 rfl ?_
  refine s_if_ne C 27 24 rfl dX8_ask_21 (by decide) hq (fun hq => ?_) (fun hq => ?_)
  rotate_left
  · refine g_bipush (-6) C 26 rfl dX8_ask_24 kb_m6 ?_
    exact r_int hR hq dX8_ask_26 rfl rfl
  refine g_bipush (-6) C 29 rfl dX8_ask_27 kb_m6 ?_
  refine g_istore_n [(3, .int (-6)), (2, .int r3), (0, .ref (a 0)), (1, .int x1)] C 30 rfl dX8_ask_29 (Nat.le_of_ble_eq_true rfl) rfl ?_
  refine g_bipush 7 C 32 rfl dX8_ask_30 kb_7 ?_
  refine g_istore [(4, .int 7), (3, .int (-6)), (2, .int r3), (0, .ref (a 0)), (1, .int x1)] C 34 rfl dX8_ask_32 (Nat.le_of_ble_eq_true rfl) rfl ?_
  refine g_iconst 0 C 35 rfl dX8_ask_34 ki_0 ?_
  refine g_istore [(5, .int 0), (4, .int 7), (3, .int (-6)), (2, .int r3), (0, .ref (a 0)), (1, .int x1)] C 37 rfl dX8_ask_35 (Nat.le_of_ble_eq_true rfl) rfl ?_
  have Q37 : ∀ (x1 : Int32) (x2 : Int32), ∀ (n : Nat) (x3 : Int32) (x4 : Int32) (x5 : Int32) (o : (Int32 × Int32)) (hq : lp_X8_ask_37 x1 x2 s n x3 x4 x5 = some o) (E2 : g Γ { frames := 5, cells := 0, slots := 0, locals := 115 } 7 H [] 0 0 93 [(1, .int x1), (3, .int o.1), (4, .int o.2)] []), g Γ { frames := 5, cells := 0, slots := 0, locals := 115 } 7 H [] 0 0 37 [(0, .ref (a 0)), (1, .int x1), (2, .int x2), (3, .int x3), (4, .int x4), (5, .int x5)] [] := by
    intro x1 x2
    intro n
    induction n with
    | zero => intro x3 x4 x5 o hq; exact nomatch (show (none : Option (Int32 × Int32)) = some o from hq)
    | succ n ih =>
      intro x3 x4 x5 o hq E2
      have hq : bd_X8_ask_37 x1 x2 s (lp_X8_ask_37 x1 x2 s n) x3 x4 x5 = some o := hq
      have K71 : ∀ (x3 : Int32) (x4 : Int32) (x5 : Int32) (y0 : Int32), jn_X8_ask_71 (lp_X8_ask_37 x1 x2 s n) x1 x2 x3 x4 x5 y0 s = some o → g Γ { frames := 5, cells := 0, slots := 0, locals := 115 } 7 H [] 0 0 71 [(0, .ref (a 0)), (1, .int x1), (2, .int x2), (3, .int x3), (4, .int x4), (5, .int x5)] [.int y0] := by
        intro x3 x4 x5 y0 hq
        refine g_istore [(6, .int y0), (0, .ref (a 0)), (1, .int x1), (2, .int x2), (3, .int x3), (4, .int x4), (5, .int x5)] C 73 rfl dX8_ask_71 (Nat.le_of_ble_eq_true rfl) rfl ?_
        refine g_iload C 75 rfl dX8_ask_73 0 rfl ?_
        refine g_iload C 77 rfl dX8_ask_75 5 rfl ?_
        refine s_icmp_ge C 87 80 rfl dX8_ask_77 (by decide) hq (fun hq => ?_) (fun hq => ?_)
        · refine g_iinc (x5 + 1) [(5, .int (x5 + 1)), (6, .int y0), (0, .ref (a 0)), (1, .int x1), (2, .int x2), (3, .int x3), (4, .int x4)] C 90 rfl dX8_ask_87 6 rfl (ii_1 _) (Nat.le_of_ble_eq_true rfl) rfl ?_
          refine g_goto C 37 dX8_ask_90 (by decide) ?_
          exact g_sub [2, 3, 4, 5, 6, 0] rfl (ih x3 x4 (x5 + 1) _ hq E2)
        refine g_iload C 82 rfl dX8_ask_80 0 rfl ?_
        refine g_istore [(4, .int y0), (6, .int y0), (0, .ref (a 0)), (1, .int x1), (2, .int x2), (3, .int x3), (5, .int x5)] C 84 rfl dX8_ask_82 (Nat.le_of_ble_eq_true rfl) rfl ?_
        refine g_iload C 86 rfl dX8_ask_84 6 rfl ?_
        refine g_istore_n [(3, .int x5), (4, .int y0), (6, .int y0), (0, .ref (a 0)), (1, .int x1), (2, .int x2), (5, .int x5)] C 87 rfl dX8_ask_86 (Nat.le_of_ble_eq_true rfl) rfl ?_
        refine g_iinc (x5 + 1) [(5, .int (x5 + 1)), (3, .int x5), (4, .int y0), (6, .int y0), (0, .ref (a 0)), (1, .int x1), (2, .int x2)] C 90 rfl dX8_ask_87 6 rfl (ii_1 _) (Nat.le_of_ble_eq_true rfl) rfl ?_
        refine g_goto C 37 dX8_ask_90 (by decide) ?_
        exact g_sub [4, 5, 6, 1, 2, 0] rfl (ih x5 y0 (x5 + 1) _ hq E2)
      refine g_iload C 39 rfl dX8_ask_37 5 rfl ?_
      refine g_bipush 6 C 41 rfl dX8_ask_39 kb_6 ?_
      refine s_icmp_ge C 93 44 rfl dX8_ask_41 (by decide) hq (fun hq => ?_) (fun hq => ?_)
      · cases hq
        exact g_sub [1, 3, 4] rfl (E2 )
      refine g_aload_n C 45 rfl dX8_ask_44 0 rfl ?_
      refine g_get (v := .ref (a 1)) (fs := fl8 a s) C 48 rfl dX8_ask_45 hK hP la_X8 0 0 (Nat.le_of_ble_eq_true rfl) fl_X8_10 rfl rfl rfl rfl ?_
      refine g_iload C 50 rfl dX8_ask_48 5 rfl ?_
      obtain ⟨r5, hz6, hq⟩ := bindE hq
      refine g_callRV (rest := []) C 53 rfl dX8_ask_50 (c_X6_has Γ.2.1 Δ (fun i => a (i + 1)) x5 (x8_town s) hz6) mv_X6_has ml_X8_85 hK (sct_62 a Δ s hP) rfl rfl rfl rfl rfl ⟨Nat.le_of_ble_eq_true rfl, Nat.le_of_ble_eq_true rfl⟩ (Nat.le_of_ble_eq_true rfl) ⟨Nat.zero_le _, Nat.zero_le _⟩ ?_
      refine s_if_eq C 69 56 rfl dX8_ask_53 (by decide) hq (fun hq => ?_) (fun hq => ?_)
      · refine g_bipush 7 C 71 rfl dX8_ask_69 kb_7 ?_
        exact g_sub [0, 1, 2, 3, 4, 5] rfl (K71 x3 x4 x5 7 hq)
      refine g_aload_n C 57 rfl dX8_ask_56 0 rfl ?_
      refine g_get (v := .ref (a 1)) (fs := fl8 a s) C 60 rfl dX8_ask_57 hK hP la_X8 0 0 (Nat.le_of_ble_eq_true rfl) fl_X8_10 rfl rfl rfl rfl ?_
      refine g_iload_n C 61 rfl dX8_ask_60 2 rfl ?_
      refine g_iload C 63 rfl dX8_ask_61 5 rfl ?_
      obtain ⟨r7, hz8, hq⟩ := bindE hq
      refine g_callRV (rest := []) C 66 rfl dX8_ask_63 (c_X6_mostLeft Γ.2.1 Δ (fun i => a (i + 1)) x2 x5 (x8_town s) hz8) mv_X6_mostLeft ml_X8_248 hK (sct_62 a Δ s hP) rfl rfl rfl rfl rfl ⟨Nat.le_of_ble_eq_true rfl, Nat.le_of_ble_eq_true rfl⟩ (Nat.le_of_ble_eq_true rfl) ⟨Nat.zero_le _, Nat.zero_le _⟩ ?_
      refine g_goto C 71 dX8_ask_66 (by decide) ?_
      exact g_sub [0, 1, 2, 3, 4, 5] rfl (K71 x3 x4 x5 r7 hq)
  obtain ⟨o9, ho10, hq⟩ := bindE hq
  refine g_sub [4, 5, 3, 2, 1, 0] rfl (Q37 x1 r3 FUEL (-6) 7 0 o9 ho10 (?_))
  refine g_iload_n C 94 rfl dX8_ask_93 0 rfl ?_
  refine s_if_ne C 101 97 rfl dX8_ask_94 (by decide) hq (fun hq => ?_) (fun hq => ?_)
  · refine g_iload C 103 rfl dX8_ask_101 2 rfl ?_
    exact r_int hR hq dX8_ask_103 rfl rfl
  refine g_iload_n C 98 rfl dX8_ask_97 1 rfl ?_
  refine g_goto C 103 dX8_ask_98 (by decide) ?_
  exact r_int hR hq dX8_ask_103 rfl rfl
set_option maxHeartbeats 400000 in
set_option maxRecDepth 100000 in
theorem c_X8_quarrel (l : Launch) (Δ : gD) (a : Nat → Nat) (x1 : Int32) (x2 : Int32) (x3 : Int32) (s : S8) {res : Int32} (hq : sem_X8_quarrel x1 x2 x3 s = some res) : MR l yX8_quarrel cX8_quarrel 5 (some .int) Δ (cs8 a Δ s) [.ref (a 0), .int x1, .int x2, .int x3] 1 22 (.int res) := by
  refine MR.of (by decide) (Nat.le_of_ble_eq_true rfl) ?_
  intro Γ H hl C hK hP hR
  subst hl
  show g Γ { frames := 1, cells := 0, slots := 0, locals := 22 } 5 H [] 0 0 0 [(0, .ref (a 0)), (1, .int x1), (2, .int x2), (3, .int x3)] []
  refine g_iload_n C 1 rfl dX8_quarrel_0 1 rfl ?_
  refine g_iconst 0 C 2 rfl dX8_quarrel_1 ki_0 ?_
  refine g_bipush 99 C 4 rfl dX8_quarrel_2 kb_99 ?_
  obtain ⟨r1, hz2, hq⟩ := bindE hq
  refine g_callRS (rest := []) C 7 rfl dX8_quarrel_4 (c_X8_within Γ.2.1 Δ  x1 0 99  hz2) mv_X8_within (Or.inl ml_X8_69) hK rfl rfl ⟨Nat.le_of_ble_eq_true rfl, Nat.le_of_ble_eq_true rfl⟩ (Nat.le_of_ble_eq_true rfl) ⟨Nat.zero_le _, Nat.zero_le _⟩ ?_
  refine s_if_eq C 29 10 rfl dX8_quarrel_7 (by decide) hq (fun hq => ?_) (fun hq => ?_)
  · refine g_bipush (-2) C 31 rfl dX8_quarrel_29 kb_m2 ?_
    exact r_int hR hq dX8_quarrel_31 rfl rfl
  refine g_iload_n C 11 rfl dX8_quarrel_10 2 rfl ?_
  refine g_iconst 1 C 12 rfl dX8_quarrel_11 ki_1 ?_
  refine g_bipush 9 C 14 rfl dX8_quarrel_12 kb_9 ?_
  obtain ⟨r3, hz4, hq⟩ := bindE hq
  refine g_callRS (rest := []) C 17 rfl dX8_quarrel_14 (c_X8_within Γ.2.1 Δ  x2 1 9  hz4) mv_X8_within (Or.inl ml_X8_69) hK rfl rfl ⟨Nat.le_of_ble_eq_true rfl, Nat.le_of_ble_eq_true rfl⟩ (Nat.le_of_ble_eq_true rfl) ⟨Nat.zero_le _, Nat.zero_le _⟩ ?_
  refine s_if_eq C 29 20 rfl dX8_quarrel_17 (by decide) hq (fun hq => ?_) (fun hq => ?_)
  · refine g_bipush (-2) C 31 rfl dX8_quarrel_29 kb_m2 ?_
    exact r_int hR hq dX8_quarrel_31 rfl rfl
  refine g_iload_n C 21 rfl dX8_quarrel_20 3 rfl ?_
  refine g_iconst 0 C 22 rfl dX8_quarrel_21 ki_0 ?_
  refine g_iconst 1 C 23 rfl dX8_quarrel_22 ki_1 ?_
  obtain ⟨r5, hz6, hq⟩ := bindE hq
  refine g_callRS (rest := []) C 26 rfl dX8_quarrel_23 (c_X8_within Γ.2.1 Δ  x3 0 1  hz6) mv_X8_within (Or.inl ml_X8_69) hK rfl rfl ⟨Nat.le_of_ble_eq_true rfl, Nat.le_of_ble_eq_true rfl⟩ (Nat.le_of_ble_eq_true rfl) ⟨Nat.zero_le _, Nat.zero_le _⟩ ?_
  refine s_if_ne C 32 29 rfl dX8_quarrel_26 (by decide) hq (fun hq => ?_) (fun hq => ?_)
  rotate_left
  · refine g_bipush (-2) C 31 rfl dX8_quarrel_29 kb_m2 ?_
    exact r_int hR hq dX8_quarrel_31 rfl rfl
  refine g_iload_n C 33 rfl dX8_quarrel_32 1 rfl ?_
  refine g_iload_n C 34 rfl dX8_quarrel_33 2 rfl ?_
  refine g_iconst 1 C 35 rfl dX8_quarrel_34 ki_1 ?_
  refine g_iadd C 36 rfl dX8_quarrel_35 ?_
  obtain ⟨hz7, hq⟩ := dz_some hq
  refine g_irem C 37 rfl dX8_quarrel_36 hz7 ?_
  refine g_istore [(4, .int (jrem x1 (x2 + 1))), (0, .ref (a 0)), (1, .int x1), (2, .int x2), (3, .int x3)] C 39 rfl dX8_quarrel_37 (Nat.le_of_ble_eq_true rfl) rfl ?_
  refine g_iload_n C 40 rfl dX8_quarrel_39 4 rfl ?_
  refine s_if_ne C 54 43 rfl dX8_quarrel_40 (by decide) hq (fun hq => ?_) (fun hq => ?_)
  · refine g_iload C 56 rfl dX8_quarrel_54 0 rfl ?_
    refine s_if_ne C 64 59 rfl dX8_quarrel_56 (by decide) hq (fun hq => ?_) (fun hq => ?_)
    · refine g_iload C 66 rfl dX8_quarrel_64 0 rfl ?_
      exact r_int hR hq dX8_quarrel_66 rfl rfl
    refine g_bipush (-6) C 61 rfl dX8_quarrel_59 kb_m6 ?_
    refine g_goto C 66 dX8_quarrel_61 (by decide) ?_
    exact r_int hR hq dX8_quarrel_66 rfl rfl
  refine g_iload C 45 rfl dX8_quarrel_43 0 rfl ?_
  refine s_if_ne C 52 48 rfl dX8_quarrel_45 (by decide) hq (fun hq => ?_) (fun hq => ?_)
  · refine g_iconst 1 C 53 rfl dX8_quarrel_52 ki_1 ?_
    exact r_int hR hq dX8_quarrel_53 rfl rfl
  refine g_iconst 0 C 49 rfl dX8_quarrel_48 ki_0 ?_
  refine g_goto C 53 dX8_quarrel_49 (by decide) ?_
  exact r_int hR hq dX8_quarrel_53 rfl rfl
set_option maxHeartbeats 400000 in
set_option maxRecDepth 100000 in
theorem c_X8_year (l : Launch) (Δ : gD) (a : Nat → Nat) (x1 : Int32) (x2 : Int32) (x3 : Int32) (s : S8) {res : Int32 × S8} (hq : sem_X8_year x1 x2 x3 s = some res) : MW l yX8_year cX8_year 6 (some .int) Δ (cs8 a Δ s) [.ref (a 0), .int x1, .int x2, .int x3] 5 119 (some (.int res.1)) (cs8 a Δ res.2) := by
  refine MW.of (by decide) (Nat.le_of_ble_eq_true rfl) ?_
  intro Γ A H hl C hK hP hD hS hA hR
  subst hl
  show g Γ { frames := 5, cells := 0, slots := 0, locals := 119 } 6 H [] 0 0 0 [(0, .ref (a 0)), (1, .int x1), (2, .int x2), (3, .int x3)] []
  refine g_iload_n C 1 rfl dX8_year_0 1 rfl ?_
  refine g_iconst 0 C 2 rfl dX8_year_1 ki_0 ?_
  refine g_sipush 9999 C 5 rfl dX8_year_2 ks_9999 ?_
  obtain ⟨r1, hz2, hq⟩ := bindE hq
  refine g_callRS (rest := []) C 8 rfl dX8_year_5 (c_X8_within Γ.2.1 Δ  x1 0 9999  hz2) mv_X8_within (Or.inl ml_X8_69) hK rfl rfl ⟨Nat.le_of_ble_eq_true rfl, Nat.le_of_ble_eq_true rfl⟩ (Nat.le_of_ble_eq_true rfl) ⟨Nat.zero_le _, Nat.zero_le _⟩ ?_
  refine s_if_eq C 30 11 rfl dX8_year_8 (by decide) hq (fun hq => ?_) (fun hq => ?_)
  · refine g_bipush (-2) C 32 rfl dX8_year_30 kb_m2 ?_
    exact w_int (ws := fun s => cs8 a Δ s) hR hq hP hS dX8_year_32 rfl rfl
  refine g_iload_n C 12 rfl dX8_year_11 2 rfl ?_
  refine g_iconst 1 C 13 rfl dX8_year_12 ki_1 ?_
  refine g_bipush 99 C 15 rfl dX8_year_13 kb_99 ?_
  obtain ⟨r3, hz4, hq⟩ := bindE hq
  refine g_callRS (rest := []) C 18 rfl dX8_year_15 (c_X8_within Γ.2.1 Δ  x2 1 99  hz4) mv_X8_within (Or.inl ml_X8_69) hK rfl rfl ⟨Nat.le_of_ble_eq_true rfl, Nat.le_of_ble_eq_true rfl⟩ (Nat.le_of_ble_eq_true rfl) ⟨Nat.zero_le _, Nat.zero_le _⟩ ?_
  refine s_if_eq C 30 21 rfl dX8_year_18 (by decide) hq (fun hq => ?_) (fun hq => ?_)
  · refine g_bipush (-2) C 32 rfl dX8_year_30 kb_m2 ?_
    exact w_int (ws := fun s => cs8 a Δ s) hR hq hP hS dX8_year_32 rfl rfl
  refine g_iload_n C 22 rfl dX8_year_21 3 rfl ?_
  refine g_iconst 0 C 23 rfl dX8_year_22 ki_0 ?_
  refine g_iconst 2 C 24 rfl dX8_year_23 ki_2 ?_
  obtain ⟨r5, hz6, hq⟩ := bindE hq
  refine g_callRS (rest := []) C 27 rfl dX8_year_24 (c_X8_within Γ.2.1 Δ  x3 0 2  hz6) mv_X8_within (Or.inl ml_X8_69) hK rfl rfl ⟨Nat.le_of_ble_eq_true rfl, Nat.le_of_ble_eq_true rfl⟩ (Nat.le_of_ble_eq_true rfl) ⟨Nat.zero_le _, Nat.zero_le _⟩ ?_
  refine s_if_ne C 33 30 rfl dX8_year_27 (by decide) hq (fun hq => ?_) (fun hq => ?_)
  rotate_left
  · refine g_bipush (-2) C 32 rfl dX8_year_30 kb_m2 ?_
    exact w_int (ws := fun s => cs8 a Δ s) hR hq hP hS dX8_year_32 rfl rfl
  refine g_aload_n C 34 rfl dX8_year_33 0 rfl ?_
  refine g_get (v := .ref (a 6)) (fs := fl8 a s) C 37 rfl dX8_year_34 hK hP la_X8 0 2 (Nat.le_of_ble_eq_true rfl) fl_X8_26 rfl rfl rfl rfl ?_
  refine g_aload_n C 38 rfl dX8_year_37 0 rfl ?_
  refine g_get (v := .ref (a 1)) (fs := fl8 a s) C 41 rfl dX8_year_38 hK hP la_X8 0 0 (Nat.le_of_ble_eq_true rfl) fl_X8_10 rfl rfl rfl rfl ?_
  obtain ⟨r7, hz8, hq⟩ := bindE hq
  refine g_callWV (rest := []) (cs8 a Δ (p8_trial s r7)) C 44 rfl dX8_year_41 (c_X7_begin Γ.2.1 Δ (fun i => a (i + 6)) (fun i => a (i + 1))  (x8_trial s) (x8_town s) hz8) mv_X7_begin ml_X8_154 hK hP hD hS hA (scl_69 a Δ s r7) rfl rfl rfl rfl rfl ⟨Nat.le_of_ble_eq_true rfl, Nat.le_of_ble_eq_true rfl⟩ (Nat.le_of_ble_eq_true rfl) ⟨Nat.zero_le _, Nat.zero_le _⟩ (fun H L hP hD hS => ?_)
  refine g_iload_n C 45 rfl dX8_year_44 1 rfl ?_
  refine g_istore [(4, .int x1), (0, .ref (a 0)), (1, .int x1), (2, .int x2), (3, .int x3)] C 47 rfl dX8_year_45 (Nat.le_of_ble_eq_true rfl) rfl ?_
  refine g_iconst 0 C 48 rfl dX8_year_47 ki_0 ?_
  refine g_istore [(5, .int 0), (4, .int x1), (0, .ref (a 0)), (1, .int x1), (2, .int x2), (3, .int x3)] C 50 rfl dX8_year_48 (Nat.le_of_ble_eq_true rfl) rfl ?_
  have Q50 : ∀ (x2 : Int32) (x3 : Int32), ∀ (n : Nat) (x4 : Int32) (x5 : Int32) (s : S8) (o : (S8)) (H : Heap) (L : List Loc) (hP : va_P Δ.1 classes (cs8 a Δ s) H) (hD : va_D A (cs8 a Δ s)) (hS : va_S A (sOf Γ).heap H L) (hq : lp_X8_year_50 x2 x3 n x4 x5 s = some o) (E2 : ∀ (H : Heap) (L : List Loc), va_P Δ.1 classes (cs8 a Δ o) H → va_D A (cs8 a Δ o) → va_S A (sOf Γ).heap H L → g Γ { frames := 5, cells := 0, slots := 0, locals := 119 } 6 H L 0 0 84 [(0, .ref (a 0)), (3, .int x3)] []), g Γ { frames := 5, cells := 0, slots := 0, locals := 119 } 6 H L 0 0 50 [(0, .ref (a 0)), (2, .int x2), (3, .int x3), (4, .int x4), (5, .int x5)] [] := by
    intro x2 x3
    intro n
    induction n with
    | zero => intro x4 x5 s o H L hP hD hS hq; exact nomatch (show (none : Option (S8)) = some o from hq)
    | succ n ih =>
      intro x4 x5 s o H L hP hD hS hq E2
      have hq : bd_X8_year_50 x2 x3 (lp_X8_year_50 x2 x3 n) x4 x5 s = some o := hq
      refine g_iload C 52 rfl dX8_year_50 4 rfl ?_
      refine g_iload_n C 53 rfl dX8_year_52 1 rfl ?_
      refine s_icmp_ge C 84 56 rfl dX8_year_53 (by decide) hq (fun hq => ?_) (fun hq => ?_)
      · cases hq
        exact g_sub [0, 2] rfl (E2 _ _ hP hD hS)
      refine g_bipush 75 C 58 rfl dX8_year_56 kb_75 ?_
      refine g_iload C 60 rfl dX8_year_58 3 rfl ?_
      refine g_imul C 61 rfl dX8_year_60 ?_
      refine g_bipush 74 C 63 rfl dX8_year_61 kb_74 ?_
      refine g_iadd C 64 rfl dX8_year_63 ?_
      refine g_ldc 65537 C 66 rfl dX8_year_64 k_X8_251 ?_
      refine g_irem C 67 rfl dX8_year_66 (by decide) ?_
      refine g_istore [(4, .int (jrem ((75 * x4) + 74) 65537)), (0, .ref (a 0)), (2, .int x2), (3, .int x3), (5, .int x5)] C 69 rfl dX8_year_67 (Nat.le_of_ble_eq_true rfl) rfl ?_
      refine g_aload_n C 70 rfl dX8_year_69 1 rfl ?_
      refine g_get (v := .ref (a 6)) (fs := fl8 a s) C 73 rfl dX8_year_70 hK hP la_X8 0 2 (Nat.le_of_ble_eq_true rfl) fl_X8_26 rfl rfl rfl rfl ?_
      refine g_iload C 75 rfl dX8_year_73 0 rfl ?_
      obtain ⟨r9, hz10, hq⟩ := bindE hq
      refine g_callWV (rest := []) (cs8 a Δ (p8_trial s r9)) C 78 rfl dX8_year_75 (c_X7_draw Γ.2.1 Δ (fun i => a (i + 6)) (jrem ((75 * x4) + 74) 65537) (x8_trial s) hz10) mv_X7_draw ml_X8_252 hK hP hD hS hA (scl_84 a Δ s r9) rfl rfl rfl rfl rfl ⟨Nat.le_of_ble_eq_true rfl, Nat.le_of_ble_eq_true rfl⟩ (Nat.le_of_ble_eq_true rfl) ⟨Nat.zero_le _, Nat.zero_le _⟩ (fun H L hP hD hS => ?_)
      refine g_iinc (x5 + 1) [(5, .int (x5 + 1)), (4, .int (jrem ((75 * x4) + 74) 65537)), (0, .ref (a 0)), (2, .int x2), (3, .int x3)] C 81 rfl dX8_year_78 4 rfl (ii_1 _) (Nat.le_of_ble_eq_true rfl) rfl ?_
      refine g_goto C 50 dX8_year_81 (by decide) ?_
      exact g_sub [2, 3, 4, 1, 0] rfl (ih (jrem ((75 * x4) + 74) 65537) (x5 + 1) (p8_trial s r9) _ _ _ hP hD hS hq E2)
  obtain ⟨o11, ho12, hq⟩ := bindE hq
  refine g_sub [2, 4, 5, 1, 0] rfl (Q50 x2 x3 FUEL x1 0 (p8_trial s r7) o11 _ _ hP hD hS ho12 (fun H L hP hD hS => ?_))
  refine g_iload_n C 85 rfl dX8_year_84 1 rfl ?_
  refine s_if_ne C 96 88 rfl dX8_year_85 (by decide) hq (fun hq => ?_) (fun hq => ?_)
  rotate_left
  · refine g_aload_n C 89 rfl dX8_year_88 0 rfl ?_
    refine g_get (v := .ref (a 6)) (fs := fl8 a o11) C 92 rfl dX8_year_89 hK hP la_X8 0 2 (Nat.le_of_ble_eq_true rfl) fl_X8_26 rfl rfl rfl rfl ?_
    refine g_get (v := .int (x7_slips (x8_trial o11))) (fs := fl7 (fun i => a (i + 6)) (x8_trial o11)) C 95 rfl dX8_year_92 hK hP la_X7 6 3 (Nat.le_of_ble_eq_true rfl) fl_X8_125 rfl rfl rfl rfl ?_
    exact w_int (ws := fun s => cs8 a Δ s) hR hq hP hS dX8_year_95 rfl rfl
  refine g_iload_n C 97 rfl dX8_year_96 1 rfl ?_
  refine g_iconst 1 C 98 rfl dX8_year_97 ki_1 ?_
  refine s_icmp_ne C 111 101 rfl dX8_year_98 (by decide) hq (fun hq => ?_) (fun hq => ?_)
  rotate_left
  · refine g_aload_n C 102 rfl dX8_year_101 0 rfl ?_
    refine g_get (v := .ref (a 6)) (fs := fl8 a o11) C 105 rfl dX8_year_102 hK hP la_X8 0 2 (Nat.le_of_ble_eq_true rfl) fl_X8_26 rfl rfl rfl rfl ?_
    refine g_get (v := .int (x7_paid (x8_trial o11))) (fs := fl7 (fun i => a (i + 6)) (x8_trial o11)) C 108 rfl dX8_year_105 hK hP la_X7 6 4 (Nat.le_of_ble_eq_true rfl) fl_X8_144 rfl rfl rfl rfl ?_
    refine g_goto C 121 dX8_year_108 (by decide) ?_
    exact w_int (ws := fun s => cs8 a Δ s) hR hq hP hS dX8_year_121 rfl rfl
  refine g_aload_n C 112 rfl dX8_year_111 0 rfl ?_
  refine g_get (v := .ref (a 6)) (fs := fl8 a o11) C 115 rfl dX8_year_112 hK hP la_X8 0 2 (Nat.le_of_ble_eq_true rfl) fl_X8_26 rfl rfl rfl rfl ?_
  refine g_get (v := .ref (a 7)) (fs := fl7 (fun i => a (i + 6)) (x8_trial o11)) C 118 rfl dX8_year_115 hK hP la_X7 6 0 (Nat.le_of_ble_eq_true rfl) fl_X8_134 rfl rfl rfl rfl ?_
  obtain ⟨r13, hz14, hq⟩ := bindE hq
  refine g_callRV (rest := []) C 121 rfl dX8_year_118 (c_X6_allTempers Γ.2.1 Δ (fun i => a (i + 7))  (x7_town (x8_trial o11)) hz14) mv_X6_allTempers ml_X8_255 hK (sct_71 a Δ o11 hP) rfl rfl rfl rfl rfl ⟨Nat.le_of_ble_eq_true rfl, Nat.le_of_ble_eq_true rfl⟩ (Nat.le_of_ble_eq_true rfl) ⟨Nat.zero_le _, Nat.zero_le _⟩ ?_
  exact w_int (ws := fun s => cs8 a Δ s) hR hq hP hS dX8_year_121 rfl rfl
set_option maxHeartbeats 400000 in
set_option maxRecDepth 100000 in
theorem c_X8_toldOfOne (l : Launch) (Δ : gD) (a : Nat → Nat) (x1 : Int32) (s : S8) {res : Int32} (hq : sem_X8_toldOfOne x1 s = some res) : MR l yX8_toldOfOne cX8_toldOfOne 4 (some .int) Δ (cs8 a Δ s) [.ref (a 0), .int x1] 1 22 (.int res) := by
  refine MR.of (by decide) (Nat.le_of_ble_eq_true rfl) ?_
  intro Γ H hl C hK hP hR
  subst hl
  show g Γ { frames := 1, cells := 0, slots := 0, locals := 22 } 4 H [] 0 0 0 [(0, .ref (a 0)), (1, .int x1)] []
  refine g_iload_n C 1 rfl dX8_toldOfOne_0 1 rfl ?_
  refine g_bipush 10 C 3 rfl dX8_toldOfOne_1 kb_10 ?_
  refine g_bipush 65 C 5 rfl dX8_toldOfOne_3 kb_65 ?_
  obtain ⟨r1, hz2, hq⟩ := bindE hq
  refine g_callRS (rest := []) C 8 rfl dX8_toldOfOne_5 (c_X8_within Γ.2.1 Δ  x1 10 65  hz2) mv_X8_within (Or.inl ml_X8_69) hK rfl rfl ⟨Nat.le_of_ble_eq_true rfl, Nat.le_of_ble_eq_true rfl⟩ (Nat.le_of_ble_eq_true rfl) ⟨Nat.zero_le _, Nat.zero_le _⟩ ?_
  refine s_if_ne C 14 11 rfl dX8_toldOfOne_8 (by decide) hq (fun hq => ?_) (fun hq => ?_)
  rotate_left
  · refine g_bipush (-2) C 13 rfl dX8_toldOfOne_11 kb_m2 ?_
    exact r_int hR hq dX8_toldOfOne_13 rfl rfl
  refine g_iload_n C 15 rfl dX8_toldOfOne_14 1 rfl ?_
  refine g_bipush 10 C 17 rfl dX8_toldOfOne_15 kb_10 ?_
  refine g_idiv C 18 rfl dX8_toldOfOne_17 (by decide) ?_
  refine g_iconst 1 C 19 rfl dX8_toldOfOne_18 ki_1 ?_
  refine g_isub C 20 rfl dX8_toldOfOne_19 ?_
  refine g_istore_n [(2, .int ((x1 / 10) - 1)), (0, .ref (a 0)), (1, .int x1)] C 21 rfl dX8_toldOfOne_20 (Nat.le_of_ble_eq_true rfl) rfl ?_
  refine g_iload_n C 22 rfl dX8_toldOfOne_21 2 rfl ?_
  refine g_bipush 10 C 24 rfl dX8_toldOfOne_22 kb_10 ?_
  refine g_irem C 25 rfl dX8_toldOfOne_24 (by decide) ?_
  refine g_istore_n [(3, .int (jrem x1 10)), (2, .int ((x1 / 10) - 1)), (0, .ref (a 0)), (1, .int x1)] C 26 rfl dX8_toldOfOne_25 (Nat.le_of_ble_eq_true rfl) rfl ?_
  refine g_aload_n C 27 rfl dX8_toldOfOne_26 2 rfl ?_
  refine g_get (v := .ref (a 1)) (fs := fl8 a s) C 30 rfl dX8_toldOfOne_27 hK hP la_X8 0 0 (Nat.le_of_ble_eq_true rfl) fl_X8_10 rfl rfl rfl rfl ?_
  refine g_iload_n C 31 rfl dX8_toldOfOne_30 1 rfl ?_
  obtain ⟨r3, hz4, hq⟩ := bindE hq
  refine g_callRV (rest := []) C 34 rfl dX8_toldOfOne_31 (c_X6_has Γ.2.1 Δ (fun i => a (i + 1)) ((x1 / 10) - 1) (x8_town s) hz4) mv_X6_has ml_X8_85 hK (sct_62 a Δ s hP) rfl rfl rfl rfl rfl ⟨Nat.le_of_ble_eq_true rfl, Nat.le_of_ble_eq_true rfl⟩ (Nat.le_of_ble_eq_true rfl) ⟨Nat.zero_le _, Nat.zero_le _⟩ ?_
  refine s_if_eq C 55 37 rfl dX8_toldOfOne_34 (by decide) hq (fun hq => ?_) (fun hq => ?_)
  · refine g_bipush (-2) C 57 rfl dX8_toldOfOne_55 kb_m2 ?_
    exact r_int hR hq dX8_toldOfOne_57 rfl rfl
  refine g_iload_n C 38 rfl dX8_toldOfOne_37 0 rfl ?_
  refine g_bipush 6 C 40 rfl dX8_toldOfOne_38 kb_6 ?_
  refine s_icmp_ge C 55 43 rfl dX8_toldOfOne_40 (by decide) hq (fun hq => ?_) (fun hq => ?_)
  · refine g_bipush (-2) C 57 rfl dX8_toldOfOne_55 kb_m2 ?_
    exact r_int hR hq dX8_toldOfOne_57 rfl rfl
  refine g_aload_n C 44 rfl dX8_toldOfOne_43 2 rfl ?_
  refine g_get (v := .ref (a 1)) (fs := fl8 a s) C 47 rfl dX8_toldOfOne_44 hK hP la_X8 0 0 (Nat.le_of_ble_eq_true rfl) fl_X8_10 rfl rfl rfl rfl ?_
  refine g_iload_n C 48 rfl dX8_toldOfOne_47 1 rfl ?_
  refine g_iload_n C 49 rfl dX8_toldOfOne_48 0 rfl ?_
  obtain ⟨r5, hz6, hq⟩ := bindE hq
  refine g_callRV (rest := []) C 52 rfl dX8_toldOfOne_49 (c_X6_get Γ.2.1 Δ (fun i => a (i + 1)) ((x1 / 10) - 1) (jrem x1 10) (x8_town s) hz6) mv_X6_get ml_X8_93 hK (sct_62 a Δ s hP) rfl rfl rfl rfl rfl ⟨Nat.le_of_ble_eq_true rfl, Nat.le_of_ble_eq_true rfl⟩ (Nat.le_of_ble_eq_true rfl) ⟨Nat.zero_le _, Nat.zero_le _⟩ ?_
  refine g_goto C 57 dX8_toldOfOne_52 (by decide) ?_
  exact r_int hR hq dX8_toldOfOne_57 rfl rfl
set_option maxHeartbeats 400000 in
set_option maxRecDepth 100000 in
theorem c_X8_told (l : Launch) (Δ : gD) (a : Nat → Nat) (x1 : Int32) (s : S8) {res : Int32} (hq : sem_X8_told x1 s = some res) : MR l yX8_told cX8_told 2 (some .int) Δ (cs8 a Δ s) [.ref (a 0), .int x1] 2 45 (.int res) := by
  refine MR.of (by decide) (Nat.le_of_ble_eq_true rfl) ?_
  intro Γ H hl C hK hP hR
  subst hl
  show g Γ { frames := 2, cells := 0, slots := 0, locals := 45 } 2 H [] 0 0 0 [(0, .ref (a 0)), (1, .int x1)] []
  refine g_iload_n C 1 rfl dX8_told_0 1 rfl ?_
  by_cases hc1 : x1 = 0
  · have hq := if_t hc1 hq
    refine g_tblIn C 36 dX8_told_1 (by rw [hc1]; decide) (by rw [hc1]; decide) (off := 35) (by rw [hc1]; rfl) (by decide) ?_
    refine g_aload_n C 37 rfl dX8_told_36 0 rfl ?_
    refine g_get (v := .ref (a 4)) (fs := fl8 a s) C 40 rfl dX8_told_37 hK hP la_X8 0 1 (Nat.le_of_ble_eq_true rfl) fl_X8_19 rfl rfl rfl rfl ?_
    refine g_get (v := .int (x3_count (x8_pad s))) (fs := fl3 (fun i => a (i + 4)) (x8_pad s)) C 43 rfl dX8_told_40 hK hP la_X3 4 1 (Nat.le_of_ble_eq_true rfl) fl_X8_114 rfl rfl rfl rfl ?_
    exact r_int hR hq dX8_told_43 rfl rfl
  replace hq := if_f hc1 hq
  by_cases hc2 : x1 = 1
  · have hq := if_t hc2 hq
    refine g_tblIn C 44 dX8_told_1 (by rw [hc2]; decide) (by rw [hc2]; decide) (off := 43) (by rw [hc2]; rfl) (by decide) ?_
    refine g_aload_n C 45 rfl dX8_told_44 0 rfl ?_
    refine g_get (v := .ref (a 1)) (fs := fl8 a s) C 48 rfl dX8_told_45 hK hP la_X8 0 0 (Nat.le_of_ble_eq_true rfl) fl_X8_10 rfl rfl rfl rfl ?_
    refine g_get (v := .int (x6_there (x8_town s))) (fs := fl6 (fun i => a (i + 1)) (x8_town s)) C 51 rfl dX8_told_48 hK hP la_X6 1 2 (Nat.le_of_ble_eq_true rfl) fl_X8_184 rfl rfl rfl rfl ?_
    exact r_int hR hq dX8_told_51 rfl rfl
  replace hq := if_f hc2 hq
  by_cases hc3 : x1 = 2
  · have hq := if_t hc3 hq
    refine g_tblIn C 52 dX8_told_1 (by rw [hc3]; decide) (by rw [hc3]; decide) (off := 51) (by rw [hc3]; rfl) (by decide) ?_
    refine g_aload_n C 53 rfl dX8_told_52 0 rfl ?_
    refine g_get (v := .ref (a 1)) (fs := fl8 a s) C 56 rfl dX8_told_53 hK hP la_X8 0 0 (Nat.le_of_ble_eq_true rfl) fl_X8_10 rfl rfl rfl rfl ?_
    refine g_get (v := .int (x6_limit (x8_town s))) (fs := fl6 (fun i => a (i + 1)) (x8_town s)) C 59 rfl dX8_told_56 hK hP la_X6 1 3 (Nat.le_of_ble_eq_true rfl) fl_X8_73 rfl rfl rfl rfl ?_
    exact r_int hR hq dX8_told_59 rfl rfl
  replace hq := if_f hc3 hq
  by_cases hc4 : x1 = 3
  · have hq := if_t hc4 hq
    refine g_tblIn C 60 dX8_told_1 (by rw [hc4]; decide) (by rw [hc4]; decide) (off := 59) (by rw [hc4]; rfl) (by decide) ?_
    refine g_aload_n C 61 rfl dX8_told_60 0 rfl ?_
    refine g_get (v := .ref (a 1)) (fs := fl8 a s) C 64 rfl dX8_told_61 hK hP la_X8 0 0 (Nat.le_of_ble_eq_true rfl) fl_X8_10 rfl rfl rfl rfl ?_
    refine g_get (v := .int (x6_ears (x8_town s))) (fs := fl6 (fun i => a (i + 1)) (x8_town s)) C 67 rfl dX8_told_64 hK hP la_X6 1 4 (Nat.le_of_ble_eq_true rfl) fl_X8_111 rfl rfl rfl rfl ?_
    exact r_int hR hq dX8_told_67 rfl rfl
  replace hq := if_f hc4 hq
  by_cases hc5 : x1 = 4
  · have hq := if_t hc5 hq
    refine g_tblIn C 68 dX8_told_1 (by rw [hc5]; decide) (by rw [hc5]; decide) (off := 67) (by rw [hc5]; rfl) (by decide) ?_
    refine g_aload_n C 69 rfl dX8_told_68 0 rfl ?_
    refine g_get (v := .ref (a 1)) (fs := fl8 a s) C 72 rfl dX8_told_69 hK hP la_X8 0 0 (Nat.le_of_ble_eq_true rfl) fl_X8_10 rfl rfl rfl rfl ?_
    refine g_get (v := .int (x6_sights (x8_town s))) (fs := fl6 (fun i => a (i + 1)) (x8_town s)) C 75 rfl dX8_told_72 hK hP la_X6 1 5 (Nat.le_of_ble_eq_true rfl) fl_X8_238 rfl rfl rfl rfl ?_
    exact r_int hR hq dX8_told_75 rfl rfl
  replace hq := if_f hc5 hq
  refine g_tblOut C 76 dX8_told_1 (by have nhc1 := lv_neT (a := 0) hc1 (by decide); have nhc2 := lv_neT (a := 1) hc2 (by decide); have nhc3 := lv_neT (a := 2) hc3 (by decide); have nhc4 := lv_neT (a := 3) hc4 (by decide); have nhc5 := lv_neT (a := 4) hc5 (by decide); omega) (by decide) ?_
  refine g_aload_n C 77 rfl dX8_told_76 0 rfl ?_
  refine g_iload_n C 78 rfl dX8_told_77 1 rfl ?_
  obtain ⟨r6, hz7, hq⟩ := bindE hq
  refine g_callRV (rest := []) C 81 rfl dX8_told_78 (c_X8_toldOfOne Γ.2.1 Δ a x1 s hz7) mv_X8_toldOfOne ml_X8_258 hK hP rfl rfl rfl rfl rfl ⟨Nat.le_of_ble_eq_true rfl, Nat.le_of_ble_eq_true rfl⟩ (Nat.le_of_ble_eq_true rfl) ⟨Nat.zero_le _, Nat.zero_le _⟩ ?_
  exact r_int hR hq dX8_told_81 rfl rfl
