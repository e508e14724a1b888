set_option maxHeartbeats 400000 in
set_option maxRecDepth 100000 in
theorem c_X7_begin (l : Launch) (Δ : gD) (a : Nat → Nat) (b : Nat → Nat)  (s : S7) (t : S6) {res : S7} (hq : sem_X7_begin  s t = some res) : MW l yX7_begin cX7_begin 2 none Δ (cs7 a Δ s ++ cs6 b Δ t) [.ref (a 0), .ref (b 0)] 2 47 none (cs7 a Δ res ++ cs6 b Δ t) := by
  refine MW.of (by decide) (Nat.le_of_ble_eq_true rfl) ?_
  intro Γ A H hl C hK hP hD hS hA hR
  subst hl
  show g Γ { frames := 2, cells := 0, slots := 0, locals := 47 } 2 H [] 0 0 0 [(0, .ref (a 0)), (1, .ref (b 0))] []
  refine g_aload_n C 1 rfl dX7_begin_0 0 rfl ?_
  refine g_get (v := .ref (a 1)) (fs := fl7 a s) C 4 rfl dX7_begin_1 hK hP la_X7 0 0 (Nat.le_of_ble_eq_true rfl) fl_X7_12 rfl rfl rfl rfl ?_
  refine g_aload_n C 5 rfl dX7_begin_4 1 rfl ?_
  obtain ⟨r1, hz2, hq⟩ := bindE hq
  refine g_callWV (rest := []) (cs7 a Δ (p7_town s r1) ++ cs6 b Δ t) C 8 rfl dX7_begin_5 (c_X6_takeFrom Γ.2.1 Δ (fun i => a (i + 1)) b  (x7_town s) t hz2) mv_X6_takeFrom ml_X7_40 hK hP hD hS hA (scl_41 a b Δ s t r1) rfl rfl rfl rfl rfl ⟨Nat.le_of_ble_eq_true rfl, Nat.le_of_ble_eq_true rfl⟩ (Nat.le_of_ble_eq_true rfl) ⟨Nat.zero_le _, Nat.zero_le _⟩ (fun H L hP hD hS => ?_)
  refine g_aload_n C 9 rfl dX7_begin_8 0 rfl ?_
  refine g_iconst 0 C 10 rfl dX7_begin_9 ki_0 ?_
  refine g_put (fs := fl7 a (p7_town s r1)) (cs7 a Δ (p7_acts (p7_town s r1) 0) ++ cs6 b Δ t) C 13 rfl dX7_begin_10 hK hP hD hS la_X7 tyX7_ok nmX7 0 1 (Nat.le_of_ble_eq_true rfl) fl_X7_18 rfl rfl rfl rfl rfl rfl (Nat.le_of_ble_eq_true rfl) (sst_42 a b Δ (p7_town s r1) t 0) (fun H L hP hD hS => ?_)
  refine g_aload_n C 14 rfl dX7_begin_13 0 rfl ?_
  refine g_iconst 0 C 15 rfl dX7_begin_14 ki_0 ?_
  refine g_put (fs := fl7 a (p7_acts (p7_town s r1) 0)) (cs7 a Δ (p7_reason (p7_acts (p7_town s r1) 0) 0) ++ cs6 b Δ t) C 18 rfl dX7_begin_15 hK hP hD hS la_X7 tyX7_ok nmX7 0 2 (Nat.le_of_ble_eq_true rfl) fl_X7_22 rfl rfl rfl rfl rfl rfl (Nat.le_of_ble_eq_true rfl) (sst_43 a b Δ (p7_acts (p7_town s r1) 0) t 0) (fun H L hP hD hS => ?_)
  refine g_aload_n C 19 rfl dX7_begin_18 0 rfl ?_
  refine g_iconst 0 C 20 rfl dX7_begin_19 ki_0 ?_
  refine g_put (fs := fl7 a (p7_reason (p7_acts (p7_town s r1) 0) 0)) (cs7 a Δ (p7_slips (p7_reason (p7_acts (p7_town s r1) 0) 0) 0) ++ cs6 b Δ t) C 23 rfl dX7_begin_20 hK hP hD hS la_X7 tyX7_ok nmX7 0 3 (Nat.le_of_ble_eq_true rfl) fl_X7_25 rfl rfl rfl rfl rfl rfl (Nat.le_of_ble_eq_true rfl) (sst_44 a b Δ (p7_reason (p7_acts (p7_town s r1) 0) 0) t 0) (fun H L hP hD hS => ?_)
  refine g_aload_n C 24 rfl dX7_begin_23 0 rfl ?_
  refine g_iconst 0 C 25 rfl dX7_begin_24 ki_0 ?_
  refine g_put (fs := fl7 a (p7_slips (p7_reason (p7_acts (p7_town s r1) 0) 0) 0)) (cs7 a Δ (p7_paid (p7_slips (p7_reason (p7_acts (p7_town s r1) 0) 0) 0) 0) ++ cs6 b Δ t) C 28 rfl dX7_begin_25 hK hP hD hS la_X7 tyX7_ok nmX7 0 4 (Nat.le_of_ble_eq_true rfl) fl_X7_28 rfl rfl rfl rfl rfl rfl (Nat.le_of_ble_eq_true rfl) (sst_45 a b Δ (p7_slips (p7_reason (p7_acts (p7_town s r1) 0) 0) 0) t 0) (fun H L hP hD hS => ?_)
  refine g_aload_n C 29 rfl dX7_begin_28 0 rfl ?_
  refine g_bipush (-6) C 31 rfl dX7_begin_29 kb_m6 ?_
  refine g_put (fs := fl7 a (p7_paid (p7_slips (p7_reason (p7_acts (p7_town s r1) 0) 0) 0) 0)) (cs7 a Δ (p7_firstSlip (p7_paid (p7_slips (p7_reason (p7_acts (p7_town s r1) 0) 0) 0) 0) (-6)) ++ cs6 b Δ t) C 34 rfl dX7_begin_31 hK hP hD hS la_X7 tyX7_ok nmX7 0 5 (Nat.le_of_ble_eq_true rfl) fl_X7_31 rfl rfl rfl rfl rfl rfl (Nat.le_of_ble_eq_true rfl) (sst_46 a b Δ (p7_paid (p7_slips (p7_reason (p7_acts (p7_town s r1) 0) 0) 0) 0) t (-6)) (fun H L hP hD hS => ?_)
  refine g_aload_n C 35 rfl dX7_begin_34 0 rfl ?_
  refine g_bipush (-6) C 37 rfl dX7_begin_35 kb_m6 ?_
  refine g_put (fs := fl7 a (p7_firstSlip (p7_paid (p7_slips (p7_reason (p7_acts (p7_town s r1) 0) 0) 0) 0) (-6))) (cs7 a Δ (p7_firstWho (p7_firstSlip (p7_paid (p7_slips (p7_reason (p7_acts (p7_town s r1) 0) 0) 0) 0) (-6)) (-6)) ++ cs6 b Δ t) C 40 rfl dX7_begin_37 hK hP hD hS la_X7 tyX7_ok nmX7 0 6 (Nat.le_of_ble_eq_true rfl) fl_X7_34 rfl rfl rfl rfl rfl rfl (Nat.le_of_ble_eq_true rfl) (sst_47 a b Δ (p7_firstSlip (p7_paid (p7_slips (p7_reason (p7_acts (p7_town s r1) 0) 0) 0) 0) (-6)) t (-6)) (fun H L hP hD hS => ?_)
  refine g_aload_n C 41 rfl dX7_begin_40 0 rfl ?_
  refine g_iconst 0 C 42 rfl dX7_begin_41 ki_0 ?_
  refine g_put (fs := fl7 a (p7_firstWho (p7_firstSlip (p7_paid (p7_slips (p7_reason (p7_acts (p7_town s r1) 0) 0) 0) 0) (-6)) (-6))) (cs7 a Δ (p7_firstHeard (p7_firstWho (p7_firstSlip (p7_paid (p7_slips (p7_reason (p7_acts (p7_town s r1) 0) 0) 0) 0) (-6)) (-6)) 0) ++ cs6 b Δ t) C 45 rfl dX7_begin_42 hK hP hD hS la_X7 tyX7_ok nmX7 0 7 (Nat.le_of_ble_eq_true rfl) fl_X7_37 rfl rfl rfl rfl rfl rfl (Nat.le_of_ble_eq_true rfl) (sst_48 a b Δ (p7_firstWho (p7_firstSlip (p7_paid (p7_slips (p7_reason (p7_acts (p7_town s r1) 0) 0) 0) 0) (-6)) (-6)) t 0) (fun H L hP hD hS => ?_)
  exact w_void (ws := fun s => cs7 a Δ s ++ cs6 b Δ t) hR hq hP hS dX7_begin_45 rfl
set_option maxHeartbeats 400000 in
set_option maxRecDepth 100000 in
theorem c_X7_endHour (l : Launch) (Δ : gD) (a : Nat → Nat)  (s : S7) {res : Int32 × S7} (hq : sem_X7_endHour  s = some res) : MW l yX7_endHour cX7_endHour 2 (some .int) Δ (cs7 a Δ s) [.ref (a 0)] 1 24 (some (.int res.1)) (cs7 a Δ res.2) := by
  refine MW.of (by decide) (Nat.le_of_ble_eq_true rfl) ?_
  intro Γ A H hl C hK hP hD hS hA hR
  subst hl
  show g Γ { frames := 1, cells := 0, slots := 0, locals := 24 } 2 H [] 0 0 0 [(0, .ref (a 0))] []
  refine g_iconst 0 C 1 rfl dX7_endHour_0 ki_0 ?_
  refine g_istore_n [(1, .int 0), (0, .ref (a 0))] C 2 rfl dX7_endHour_1 (Nat.le_of_ble_eq_true rfl) rfl ?_
  have Q2 : ∀ (n : Nat) (x1 : Int32) (s : S7) (o : (S7)) (H : Heap) (L : List Loc) (hP : va_P Δ.1 classes (cs7 a Δ s) H) (hD : va_D A (cs7 a Δ s)) (hS : va_S A (sOf Γ).heap H L) (hq : lp_X7_endHour_2  n x1 s = some o) (E2 : ∀ (H : Heap) (L : List Loc), va_P Δ.1 classes (cs7 a Δ o) H → va_D A (cs7 a Δ o) → va_S A (sOf Γ).heap H L → g Γ { frames := 1, cells := 0, slots := 0, locals := 24 } 2 H L 0 0 38 [] []), g Γ { frames := 1, cells := 0, slots := 0, locals := 24 } 2 H L 0 0 2 [(0, .ref (a 0)), (1, .int x1)] [] := by
    intro n
    induction n with
    | zero => intro x1 s o H L hP hD hS hq; exact nomatch (show (none : Option (S7)) = some o from hq)
    | succ n ih =>
      intro x1 s o H L hP hD hS hq E2
      have hq : bd_X7_endHour_2  (lp_X7_endHour_2  n) x1 s = some o := hq
      refine g_iload_n C 3 rfl dX7_endHour_2 1 rfl ?_
      refine g_bipush 6 C 5 rfl dX7_endHour_3 kb_6 ?_
      refine s_icmp_ge C 38 8 rfl dX7_endHour_5 (by decide) hq (fun hq => ?_) (fun hq => ?_)
      · cases hq
        exact g_sub [] rfl (E2 _ _ hP hD hS)
      refine g_aload_n C 9 rfl dX7_endHour_8 0 rfl ?_
      refine g_get (v := .ref (a 1)) (fs := fl7 a s) C 12 rfl dX7_endHour_9 hK hP la_X7 0 0 (Nat.le_of_ble_eq_true rfl) fl_X7_12 rfl rfl rfl rfl ?_
      refine g_iload_n C 13 rfl dX7_endHour_12 1 rfl ?_
      refine g_iconst 0 C 14 rfl dX7_endHour_13 ki_0 ?_
      refine g_iconst 0 C 15 rfl dX7_endHour_14 ki_0 ?_
      refine g_aload_n C 16 rfl dX7_endHour_15 0 rfl ?_
      refine g_get (v := .ref (a 1)) (fs := fl7 a s) C 19 rfl dX7_endHour_16 hK hP la_X7 0 0 (Nat.le_of_ble_eq_true rfl) fl_X7_12 rfl rfl rfl rfl ?_
      refine g_iload_n C 20 rfl dX7_endHour_19 1 rfl ?_
      refine g_iconst 0 C 21 rfl dX7_endHour_20 ki_0 ?_
      obtain ⟨r1, hz2, hq⟩ := bindE hq
      refine g_callRV (rest := [.int 0, .int 0, .int x1, .ref (a 1)]) C 24 rfl dX7_endHour_21 (c_X6_get Γ.2.1 Δ (fun i => a (i + 1)) x1 0 (x7_town s) hz2) mv_X6_get ml_X7_78 hK (sct_50 a Δ s hP) rfl rfl rfl rfl rfl ⟨Nat.le_of_ble_eq_true rfl, Nat.le_of_ble_eq_true rfl⟩ (Nat.le_of_ble_eq_true rfl) ⟨Nat.zero_le _, Nat.zero_le _⟩ ?_
      refine g_iconst 1 C 25 rfl dX7_endHour_24 ki_1 ?_
      refine g_isub C 26 rfl dX7_endHour_25 ?_
      refine g_mmax C 29 rfl dX7_endHour_26 ml_X7_105 mth_max ⟨Nat.le_of_ble_eq_true rfl, Nat.le_of_ble_eq_true rfl⟩ ⟨Nat.zero_le _, Nat.zero_le _⟩ ?_
      obtain ⟨r3, hz4, hq⟩ := bindE hq
      refine g_callWV (rest := []) (cs7 a Δ (p7_town s r3)) C 32 rfl dX7_endHour_29 (c_X6_put Γ.2.1 Δ (fun i => a (i + 1)) x1 0 (jmax 0 (r1 - 1)) (x7_town s) hz4) mv_X6_put ml_X7_81 hK hP hD hS hA (scl_49 a Δ s r3) rfl rfl rfl rfl rfl ⟨Nat.le_of_ble_eq_true rfl, Nat.le_of_ble_eq_true rfl⟩ (Nat.le_of_ble_eq_true rfl) ⟨Nat.zero_le _, Nat.zero_le _⟩ (fun H L hP hD hS => ?_)
      refine g_iinc (x1 + 1) [(1, .int (x1 + 1)), (0, .ref (a 0))] C 35 rfl dX7_endHour_32 1 rfl (ii_1 _) (Nat.le_of_ble_eq_true rfl) rfl ?_
      refine g_goto C 2 dX7_endHour_35 (by decide) ?_
      exact g_sub [1, 0] rfl (ih (x1 + 1) (p7_town s r3) _ _ _ hP hD hS hq E2)
  obtain ⟨o5, ho6, hq⟩ := bindE hq
  refine g_sub [1, 0] rfl (Q2  FUEL 0 s o5 _ _ hP hD hS ho6 (fun H L hP hD hS => ?_))
  refine g_iconst 0 C 39 rfl dX7_endHour_38 ki_0 ?_
  exact w_int (ws := fun s => cs7 a Δ s) hR hq hP hS dX7_endHour_39 rfl rfl
set_option maxHeartbeats 400000 in
set_option maxRecDepth 100000 in
theorem c_X7_swear (l : Launch) (Δ : gD) (a : Nat → Nat) (x1 : Int32) (x2 : Int32) (s : S7) {res : Int32 × S7} (hq : sem_X7_swear x1 x2 s = some res) : MW l yX7_swear cX7_swear 6 (some .int) Δ (cs7 a Δ s) [.ref (a 0), .int x1, .int x2] 1 23 (some (.int res.1)) (cs7 a Δ res.2) := by
  refine MW.of (by decide) (Nat.le_of_ble_eq_true rfl) ?_
  intro Γ A H hl C hK hP hD hS hA hR
  subst hl
  show g Γ { frames := 1, cells := 0, slots := 0, locals := 23 } 6 H [] 0 0 0 [(0, .ref (a 0)), (1, .int x1), (2, .int x2)] []
  refine g_aload_n C 1 rfl dX7_swear_0 0 rfl ?_
  refine g_get (v := .ref (a 1)) (fs := fl7 a s) C 4 rfl dX7_swear_1 hK hP la_X7 0 0 (Nat.le_of_ble_eq_true rfl) fl_X7_12 rfl rfl rfl rfl ?_
  refine g_iload_n C 5 rfl dX7_swear_4 1 rfl ?_
  obtain ⟨r1, hz2, hq⟩ := bindE hq
  refine g_callRV (rest := []) C 8 rfl dX7_swear_5 (c_X6_has Γ.2.1 Δ (fun i => a (i + 1)) x1 (x7_town s) hz2) mv_X6_has ml_X7_74 hK (sct_50 a Δ s hP) rfl rfl rfl rfl rfl ⟨Nat.le_of_ble_eq_true rfl, Nat.le_of_ble_eq_true rfl⟩ (Nat.le_of_ble_eq_true rfl) ⟨Nat.zero_le _, Nat.zero_le _⟩ ?_
  refine s_if_ne C 13 11 rfl dX7_swear_8 (by decide) hq (fun hq => ?_) (fun hq => ?_)
  rotate_left
  · refine g_iconst 1 C 12 rfl dX7_swear_11 ki_1 ?_
    exact w_int (ws := fun s => cs7 a Δ s) hR hq hP hS dX7_swear_12 rfl rfl
  refine g_aload_n C 14 rfl dX7_swear_13 0 rfl ?_
  refine g_get (v := .ref (a 1)) (fs := fl7 a s) C 17 rfl dX7_swear_14 hK hP la_X7 0 0 (Nat.le_of_ble_eq_true rfl) fl_X7_12 rfl rfl rfl rfl ?_
  refine g_iload_n C 18 rfl dX7_swear_17 1 rfl ?_
  refine g_iconst 0 C 19 rfl dX7_swear_18 ki_0 ?_
  obtain ⟨r3, hz4, hq⟩ := bindE hq
  refine g_callRV (rest := []) C 22 rfl dX7_swear_19 (c_X6_get Γ.2.1 Δ (fun i => a (i + 1)) x1 0 (x7_town s) hz4) mv_X6_get ml_X7_78 hK (sct_50 a Δ s hP) rfl rfl rfl rfl rfl ⟨Nat.le_of_ble_eq_true rfl, Nat.le_of_ble_eq_true rfl⟩ (Nat.le_of_ble_eq_true rfl) ⟨Nat.zero_le _, Nat.zero_le _⟩ ?_
  refine g_istore_n [(3, .int r3), (0, .ref (a 0)), (1, .int x1), (2, .int x2)] C 23 rfl dX7_swear_22 (Nat.le_of_ble_eq_true rfl) rfl ?_
  refine g_aload_n C 24 rfl dX7_swear_23 1 rfl ?_
  refine g_get (v := .ref (a 1)) (fs := fl7 a s) C 27 rfl dX7_swear_24 hK hP la_X7 0 0 (Nat.le_of_ble_eq_true rfl) fl_X7_12 rfl rfl rfl rfl ?_
  refine g_iload_n C 28 rfl dX7_swear_27 2 rfl ?_
  refine g_iconst 2 C 29 rfl dX7_swear_28 ki_2 ?_
  obtain ⟨r5, hz6, hq⟩ := bindE hq
  refine g_callRV (rest := []) C 32 rfl dX7_swear_29 (c_X6_get Γ.2.1 Δ (fun i => a (i + 1)) x1 2 (x7_town s) hz6) mv_X6_get ml_X7_78 hK (sct_50 a Δ s hP) rfl rfl rfl rfl rfl ⟨Nat.le_of_ble_eq_true rfl, Nat.le_of_ble_eq_true rfl⟩ (Nat.le_of_ble_eq_true rfl) ⟨Nat.zero_le _, Nat.zero_le _⟩ ?_
  refine g_istore [(4, .int r5), (3, .int r3), (0, .ref (a 0)), (1, .int x1), (2, .int x2)] C 34 rfl dX7_swear_32 (Nat.le_of_ble_eq_true rfl) rfl ?_
  refine g_aload_n C 35 rfl dX7_swear_34 2 rfl ?_
  refine g_get (v := .ref (a 1)) (fs := fl7 a s) C 38 rfl dX7_swear_35 hK hP la_X7 0 0 (Nat.le_of_ble_eq_true rfl) fl_X7_12 rfl rfl rfl rfl ?_
  refine g_iload_n C 39 rfl dX7_swear_38 3 rfl ?_
  refine g_iconst 5 C 40 rfl dX7_swear_39 ki_5 ?_
  obtain ⟨r7, hz8, hq⟩ := bindE hq
  refine g_callRV (rest := []) C 43 rfl dX7_swear_40 (c_X6_get Γ.2.1 Δ (fun i => a (i + 1)) x1 5 (x7_town s) hz8) mv_X6_get ml_X7_78 hK (sct_50 a Δ s hP) rfl rfl rfl rfl rfl ⟨Nat.le_of_ble_eq_true rfl, Nat.le_of_ble_eq_true rfl⟩ (Nat.le_of_ble_eq_true rfl) ⟨Nat.zero_le _, Nat.zero_le _⟩ ?_
  refine g_istore [(5, .int r7), (4, .int r5), (3, .int r3), (0, .ref (a 0)), (1, .int x1), (2, .int x2)] C 45 rfl dX7_swear_43 (Nat.le_of_ble_eq_true rfl) rfl ?_
  refine g_iload_n C 46 rfl dX7_swear_45 2 rfl ?_
  refine g_iload_n C 47 rfl dX7_swear_46 5 rfl ?_
  refine s_icmp_ge C 52 50 rfl dX7_swear_47 (by decide) hq (fun hq => ?_) (fun hq => ?_)
  rotate_left
  · refine g_iconst 3 C 51 rfl dX7_swear_50 ki_3 ?_
    exact w_int (ws := fun s => cs7 a Δ s) hR hq hP hS dX7_swear_51 rfl rfl
  refine g_iload C 54 rfl dX7_swear_52 0 rfl ?_
  refine g_bipush (-6) C 56 rfl dX7_swear_54 kb_m6 ?_
  refine s_icmp_eq C 76 59 rfl dX7_swear_56 (by decide) hq (fun hq => ?_) (fun hq => ?_)
  · refine g_iconst 4 C 77 rfl dX7_swear_76 ki_4 ?_
    exact w_int (ws := fun s => cs7 a Δ s) hR hq hP hS dX7_swear_77 rfl rfl
  refine g_aload_n C 60 rfl dX7_swear_59 3 rfl ?_
  refine g_get (v := .ref (a 1)) (fs := fl7 a s) C 63 rfl dX7_swear_60 hK hP la_X7 0 0 (Nat.le_of_ble_eq_true rfl) fl_X7_12 rfl rfl rfl rfl ?_
  refine g_iload_n C 64 rfl dX7_swear_63 4 rfl ?_
  refine g_iconst 1 C 65 rfl dX7_swear_64 ki_1 ?_
  obtain ⟨r9, hz10, hq⟩ := bindE hq
  refine g_callRV (rest := []) C 68 rfl dX7_swear_65 (c_X6_get Γ.2.1 Δ (fun i => a (i + 1)) x1 1 (x7_town s) hz10) mv_X6_get ml_X7_78 hK (sct_50 a Δ s hP) rfl rfl rfl rfl rfl ⟨Nat.le_of_ble_eq_true rfl, Nat.le_of_ble_eq_true rfl⟩ (Nat.le_of_ble_eq_true rfl) ⟨Nat.zero_le _, Nat.zero_le _⟩ ?_
  refine g_iload C 70 rfl dX7_swear_68 0 rfl ?_
  refine g_ishr C 71 rfl dX7_swear_70 ?_
  refine g_iconst 1 C 72 rfl dX7_swear_71 ki_1 ?_
  refine g_iand C 73 rfl dX7_swear_72 ?_
  refine s_if_ne C 78 76 rfl dX7_swear_73 (by decide) hq (fun hq => ?_) (fun hq => ?_)
  rotate_left
  · refine g_iconst 4 C 77 rfl dX7_swear_76 ki_4 ?_
    exact w_int (ws := fun s => cs7 a Δ s) hR hq hP hS dX7_swear_77 rfl rfl
  refine g_iload C 80 rfl dX7_swear_78 1 rfl ?_
  refine g_iload_n C 81 rfl dX7_swear_80 5 rfl ?_
  refine s_icmp_ge C 86 84 rfl dX7_swear_81 (by decide) hq (fun hq => ?_) (fun hq => ?_)
  rotate_left
  · refine g_iconst 5 C 85 rfl dX7_swear_84 ki_5 ?_
    exact w_int (ws := fun s => cs7 a Δ s) hR hq hP hS dX7_swear_85 rfl rfl
  refine g_aload_n C 87 rfl dX7_swear_86 3 rfl ?_
  refine g_get (v := .ref (a 1)) (fs := fl7 a s) C 90 rfl dX7_swear_87 hK hP la_X7 0 0 (Nat.le_of_ble_eq_true rfl) fl_X7_12 rfl rfl rfl rfl ?_
  refine g_iload_n C 91 rfl dX7_swear_90 4 rfl ?_
  refine g_iconst 0 C 92 rfl dX7_swear_91 ki_0 ?_
  refine g_iload_n C 93 rfl dX7_swear_92 2 rfl ?_
  refine g_iload_n C 94 rfl dX7_swear_93 5 rfl ?_
  refine g_isub C 95 rfl dX7_swear_94 ?_
  obtain ⟨r11, hz12, hq⟩ := bindE hq
  refine g_callWV (rest := []) (cs7 a Δ (p7_town s r11)) C 98 rfl dX7_swear_95 (c_X6_put Γ.2.1 Δ (fun i => a (i + 1)) x1 0 (r3 - x2) (x7_town s) hz12) mv_X6_put ml_X7_81 hK hP hD hS hA (scl_49 a Δ s r11) rfl rfl rfl rfl rfl ⟨Nat.le_of_ble_eq_true rfl, Nat.le_of_ble_eq_true rfl⟩ (Nat.le_of_ble_eq_true rfl) ⟨Nat.zero_le _, Nat.zero_le _⟩ (fun H L hP hD hS => ?_)
  refine g_aload_n C 99 rfl dX7_swear_98 3 rfl ?_
  refine g_get (v := .ref (a 1)) (fs := fl7 a (p7_town s r11)) C 102 rfl dX7_swear_99 hK hP la_X7 0 0 (Nat.le_of_ble_eq_true rfl) fl_X7_12 rfl rfl rfl rfl ?_
  refine g_iload_n C 103 rfl dX7_swear_102 4 rfl ?_
  refine g_iconst 2 C 104 rfl dX7_swear_103 ki_2 ?_
  refine g_iload C 106 rfl dX7_swear_104 1 rfl ?_
  refine g_iload_n C 107 rfl dX7_swear_106 5 rfl ?_
  refine g_isub C 108 rfl dX7_swear_107 ?_
  obtain ⟨r13, hz14, hq⟩ := bindE hq
  refine g_callWV (rest := []) (cs7 a Δ (p7_town (p7_town s r11) r13)) C 111 rfl dX7_swear_108 (c_X6_put Γ.2.1 Δ (fun i => a (i + 1)) x1 2 (r5 - x2) (x7_town (p7_town s r11)) hz14) mv_X6_put ml_X7_81 hK hP hD hS hA (scl_49 a Δ (p7_town s r11) r13) rfl rfl rfl rfl rfl ⟨Nat.le_of_ble_eq_true rfl, Nat.le_of_ble_eq_true rfl⟩ (Nat.le_of_ble_eq_true rfl) ⟨Nat.zero_le _, Nat.zero_le _⟩ (fun H L hP hD hS => ?_)
  refine g_iconst 0 C 112 rfl dX7_swear_111 ki_0 ?_
  exact w_int (ws := fun s => cs7 a Δ s) hR hq hP hS dX7_swear_112 rfl rfl
set_option maxHeartbeats 400000 in
set_option maxRecDepth 100000 in
theorem c_X7_sell (l : Launch) (Δ : gD) (a : Nat → Nat) (x1 : Int32) (x2 : Int32) (x3 : Int32) (s : S7) {res : Int32 × S7} (hq : sem_X7_sell x1 x2 x3 s = some res) : MW l yX7_sell cX7_sell 8 (some .int) Δ (cs7 a Δ s) [.ref (a 0), .int x1, .int x2, .int x3] 1 23 (some (.int res.1)) (cs7 a Δ res.2) := by
  refine MW.of (by decide) (Nat.le_of_ble_eq_true rfl) ?_
  intro Γ A H hl C hK hP hD hS hA hR
  subst hl
  show g Γ { frames := 1, cells := 0, slots := 0, locals := 23 } 8 H [] 0 0 0 [(0, .ref (a 0)), (1, .int x1), (2, .int x2), (3, .int x3)] []
  refine g_aload_n C 1 rfl dX7_sell_0 0 rfl ?_
  refine g_get (v := .ref (a 1)) (fs := fl7 a s) C 4 rfl dX7_sell_1 hK hP la_X7 0 0 (Nat.le_of_ble_eq_true rfl) fl_X7_12 rfl rfl rfl rfl ?_
  refine g_iload_n C 5 rfl dX7_sell_4 1 rfl ?_
  obtain ⟨r1, hz2, hq⟩ := bindE hq
  refine g_callRV (rest := []) C 8 rfl dX7_sell_5 (c_X6_has Γ.2.1 Δ (fun i => a (i + 1)) x1 (x7_town s) hz2) mv_X6_has ml_X7_74 hK (sct_50 a Δ s hP) rfl rfl rfl rfl rfl ⟨Nat.le_of_ble_eq_true rfl, Nat.le_of_ble_eq_true rfl⟩ (Nat.le_of_ble_eq_true rfl) ⟨Nat.zero_le _, Nat.zero_le _⟩ ?_
  refine s_if_eq C 22 11 rfl dX7_sell_8 (by decide) hq (fun hq => ?_) (fun hq => ?_)
  · refine g_iconst 1 C 23 rfl dX7_sell_22 ki_1 ?_
    exact w_int (ws := fun s => cs7 a Δ s) hR hq hP hS dX7_sell_23 rfl rfl
  refine g_aload_n C 12 rfl dX7_sell_11 0 rfl ?_
  refine g_get (v := .ref (a 1)) (fs := fl7 a s) C 15 rfl dX7_sell_12 hK hP la_X7 0 0 (Nat.le_of_ble_eq_true rfl) fl_X7_12 rfl rfl rfl rfl ?_
  refine g_iload_n C 16 rfl dX7_sell_15 3 rfl ?_
  obtain ⟨r3, hz4, hq⟩ := bindE hq
  refine g_callRV (rest := []) C 19 rfl dX7_sell_16 (c_X6_has Γ.2.1 Δ (fun i => a (i + 1)) x3 (x7_town s) hz4) mv_X6_has ml_X7_74 hK (sct_50 a Δ s hP) rfl rfl rfl rfl rfl ⟨Nat.le_of_ble_eq_true rfl, Nat.le_of_ble_eq_true rfl⟩ (Nat.le_of_ble_eq_true rfl) ⟨Nat.zero_le _, Nat.zero_le _⟩ ?_
  refine s_if_ne C 24 22 rfl dX7_sell_19 (by decide) hq (fun hq => ?_) (fun hq => ?_)
  rotate_left
  · refine g_iconst 1 C 23 rfl dX7_sell_22 ki_1 ?_
    exact w_int (ws := fun s => cs7 a Δ s) hR hq hP hS dX7_sell_23 rfl rfl
  refine g_iload_n C 25 rfl dX7_sell_24 1 rfl ?_
  refine g_iload_n C 26 rfl dX7_sell_25 3 rfl ?_
  refine s_icmp_ne C 31 29 rfl dX7_sell_26 (by decide) hq (fun hq => ?_) (fun hq => ?_)
  rotate_left
  · refine g_iconst 2 C 30 rfl dX7_sell_29 ki_2 ?_
    exact w_int (ws := fun s => cs7 a Δ s) hR hq hP hS dX7_sell_30 rfl rfl
  refine g_aload_n C 32 rfl dX7_sell_31 0 rfl ?_
  refine g_get (v := .ref (a 1)) (fs := fl7 a s) C 35 rfl dX7_sell_32 hK hP la_X7 0 0 (Nat.le_of_ble_eq_true rfl) fl_X7_12 rfl rfl rfl rfl ?_
  refine g_iload_n C 36 rfl dX7_sell_35 1 rfl ?_
  refine g_iconst 2 C 37 rfl dX7_sell_36 ki_2 ?_
  obtain ⟨r5, hz6, hq⟩ := bindE hq
  refine g_callRV (rest := []) C 40 rfl dX7_sell_37 (c_X6_get Γ.2.1 Δ (fun i => a (i + 1)) x1 2 (x7_town s) hz6) mv_X6_get ml_X7_78 hK (sct_50 a Δ s hP) rfl rfl rfl rfl rfl ⟨Nat.le_of_ble_eq_true rfl, Nat.le_of_ble_eq_true rfl⟩ (Nat.le_of_ble_eq_true rfl) ⟨Nat.zero_le _, Nat.zero_le _⟩ ?_
  refine g_iload_n C 41 rfl dX7_sell_40 2 rfl ?_
  refine g_isub C 42 rfl dX7_sell_41 ?_
  refine g_istore [(4, .int (r5 - x2)), (0, .ref (a 0)), (1, .int x1), (2, .int x2), (3, .int x3)] C 44 rfl dX7_sell_42 (Nat.le_of_ble_eq_true rfl) rfl ?_
  refine g_aload_n C 45 rfl dX7_sell_44 1 rfl ?_
  refine g_get (v := .ref (a 1)) (fs := fl7 a s) C 48 rfl dX7_sell_45 hK hP la_X7 0 0 (Nat.le_of_ble_eq_true rfl) fl_X7_12 rfl rfl rfl rfl ?_
  refine g_iload_n C 49 rfl dX7_sell_48 4 rfl ?_
  refine g_iconst 2 C 50 rfl dX7_sell_49 ki_2 ?_
  obtain ⟨r7, hz8, hq⟩ := bindE hq
  refine g_callRV (rest := []) C 53 rfl dX7_sell_50 (c_X6_get Γ.2.1 Δ (fun i => a (i + 1)) x3 2 (x7_town s) hz8) mv_X6_get ml_X7_78 hK (sct_50 a Δ s hP) rfl rfl rfl rfl rfl ⟨Nat.le_of_ble_eq_true rfl, Nat.le_of_ble_eq_true rfl⟩ (Nat.le_of_ble_eq_true rfl) ⟨Nat.zero_le _, Nat.zero_le _⟩ ?_
  refine g_iload_n C 54 rfl dX7_sell_53 3 rfl ?_
  refine g_iadd C 55 rfl dX7_sell_54 ?_
  refine g_istore [(5, .int (r7 + x2)), (4, .int (r5 - x2)), (0, .ref (a 0)), (1, .int x1), (2, .int x2), (3, .int x3)] C 57 rfl dX7_sell_55 (Nat.le_of_ble_eq_true rfl) rfl ?_
  refine g_aload_n C 58 rfl dX7_sell_57 2 rfl ?_
  refine g_get (v := .ref (a 1)) (fs := fl7 a s) C 61 rfl dX7_sell_58 hK hP la_X7 0 0 (Nat.le_of_ble_eq_true rfl) fl_X7_12 rfl rfl rfl rfl ?_
  refine g_iload_n C 62 rfl dX7_sell_61 3 rfl ?_
  refine g_iconst 3 C 63 rfl dX7_sell_62 ki_3 ?_
  obtain ⟨r9, hz10, hq⟩ := bindE hq
  refine g_callRV (rest := []) C 66 rfl dX7_sell_63 (c_X6_get Γ.2.1 Δ (fun i => a (i + 1)) x1 3 (x7_town s) hz10) mv_X6_get ml_X7_78 hK (sct_50 a Δ s hP) rfl rfl rfl rfl rfl ⟨Nat.le_of_ble_eq_true rfl, Nat.le_of_ble_eq_true rfl⟩ (Nat.le_of_ble_eq_true rfl) ⟨Nat.zero_le _, Nat.zero_le _⟩ ?_
  refine g_iload_n C 67 rfl dX7_sell_66 4 rfl ?_
  refine g_iadd C 68 rfl dX7_sell_67 ?_
  refine g_istore [(6, .int (r9 + x2)), (5, .int (r7 + x2)), (4, .int (r5 - x2)), (0, .ref (a 0)), (1, .int x1), (2, .int x2), (3, .int x3)] C 70 rfl dX7_sell_68 (Nat.le_of_ble_eq_true rfl) rfl ?_
  refine g_aload_n C 71 rfl dX7_sell_70 3 rfl ?_
  refine g_get (v := .ref (a 1)) (fs := fl7 a s) C 74 rfl dX7_sell_71 hK hP la_X7 0 0 (Nat.le_of_ble_eq_true rfl) fl_X7_12 rfl rfl rfl rfl ?_
  refine g_iload_n C 75 rfl dX7_sell_74 6 rfl ?_
  refine g_iconst 3 C 76 rfl dX7_sell_75 ki_3 ?_
  obtain ⟨r11, hz12, hq⟩ := bindE hq
  refine g_callRV (rest := []) C 79 rfl dX7_sell_76 (c_X6_get Γ.2.1 Δ (fun i => a (i + 1)) x3 3 (x7_town s) hz12) mv_X6_get ml_X7_78 hK (sct_50 a Δ s hP) rfl rfl rfl rfl rfl ⟨Nat.le_of_ble_eq_true rfl, Nat.le_of_ble_eq_true rfl⟩ (Nat.le_of_ble_eq_true rfl) ⟨Nat.zero_le _, Nat.zero_le _⟩ ?_
  refine g_iload_n C 80 rfl dX7_sell_79 5 rfl ?_
  refine g_isub C 81 rfl dX7_sell_80 ?_
  refine g_istore [(7, .int (r11 - x2)), (6, .int (r9 + x2)), (5, .int (r7 + x2)), (4, .int (r5 - x2)), (0, .ref (a 0)), (1, .int x1), (2, .int x2), (3, .int x3)] C 83 rfl dX7_sell_81 (Nat.le_of_ble_eq_true rfl) rfl ?_
  refine g_iload C 85 rfl dX7_sell_83 3 rfl ?_
  refine s_if_ge C 90 88 rfl dX7_sell_85 (by decide) hq (fun hq => ?_) (fun hq => ?_)
  rotate_left
  · refine g_iconst 5 C 89 rfl dX7_sell_88 ki_5 ?_
    exact w_int (ws := fun s => cs7 a Δ s) hR hq hP hS dX7_sell_89 rfl rfl
  refine g_iload C 92 rfl dX7_sell_90 0 rfl ?_
  refine s_if_lt C 110 95 rfl dX7_sell_92 (by decide) hq (fun hq => ?_) (fun hq => ?_)
  · refine g_bipush 6 C 112 rfl dX7_sell_110 kb_6 ?_
    exact w_int (ws := fun s => cs7 a Δ s) hR hq hP hS dX7_sell_112 rfl rfl
  refine g_iload C 97 rfl dX7_sell_95 2 rfl ?_
  refine g_bipush 99 C 99 rfl dX7_sell_97 kb_99 ?_
  refine s_icmp_gt C 110 102 rfl dX7_sell_99 (by decide) hq (fun hq => ?_) (fun hq => ?_)
  · refine g_bipush 6 C 112 rfl dX7_sell_110 kb_6 ?_
    exact w_int (ws := fun s => cs7 a Δ s) hR hq hP hS dX7_sell_112 rfl rfl
  refine g_iload C 104 rfl dX7_sell_102 1 rfl ?_
  refine g_sipush 999 C 107 rfl dX7_sell_104 ks_999 ?_
  refine s_icmp_le C 113 110 rfl dX7_sell_107 (by decide) hq (fun hq => ?_) (fun hq => ?_)
  rotate_left
  · refine g_bipush 6 C 112 rfl dX7_sell_110 kb_6 ?_
    exact w_int (ws := fun s => cs7 a Δ s) hR hq hP hS dX7_sell_112 rfl rfl
  refine g_aload_n C 114 rfl dX7_sell_113 4 rfl ?_
  refine g_get (v := .ref (a 1)) (fs := fl7 a s) C 117 rfl dX7_sell_114 hK hP la_X7 0 0 (Nat.le_of_ble_eq_true rfl) fl_X7_12 rfl rfl rfl rfl ?_
  refine g_iload_n C 118 rfl dX7_sell_117 5 rfl ?_
  refine g_iconst 2 C 119 rfl dX7_sell_118 ki_2 ?_
  refine g_iload C 121 rfl dX7_sell_119 3 rfl ?_
  obtain ⟨r13, hz14, hq⟩ := bindE hq
  refine g_callWV (rest := []) (cs7 a Δ (p7_town s r13)) C 124 rfl dX7_sell_121 (c_X6_put Γ.2.1 Δ (fun i => a (i + 1)) x1 2 (r5 - x2) (x7_town s) hz14) mv_X6_put ml_X7_81 hK hP hD hS hA (scl_49 a Δ s r13) rfl rfl rfl rfl rfl ⟨Nat.le_of_ble_eq_true rfl, Nat.le_of_ble_eq_true rfl⟩ (Nat.le_of_ble_eq_true rfl) ⟨Nat.zero_le _, Nat.zero_le _⟩ (fun H L hP hD hS => ?_)
  refine g_aload_n C 125 rfl dX7_sell_124 4 rfl ?_
  refine g_get (v := .ref (a 1)) (fs := fl7 a (p7_town s r13)) C 128 rfl dX7_sell_125 hK hP la_X7 0 0 (Nat.le_of_ble_eq_true rfl) fl_X7_12 rfl rfl rfl rfl ?_
  refine g_iload_n C 129 rfl dX7_sell_128 7 rfl ?_
  refine g_iconst 2 C 130 rfl dX7_sell_129 ki_2 ?_
  refine g_iload C 132 rfl dX7_sell_130 2 rfl ?_
  obtain ⟨r15, hz16, hq⟩ := bindE hq
  refine g_callWV (rest := []) (cs7 a Δ (p7_town (p7_town s r13) r15)) C 135 rfl dX7_sell_132 (c_X6_put Γ.2.1 Δ (fun i => a (i + 1)) x3 2 (r7 + x2) (x7_town (p7_town s r13)) hz16) mv_X6_put ml_X7_81 hK hP hD hS hA (scl_49 a Δ (p7_town s r13) r15) rfl rfl rfl rfl rfl ⟨Nat.le_of_ble_eq_true rfl, Nat.le_of_ble_eq_true rfl⟩ (Nat.le_of_ble_eq_true rfl) ⟨Nat.zero_le _, Nat.zero_le _⟩ (fun H L hP hD hS => ?_)
  refine g_aload_n C 136 rfl dX7_sell_135 4 rfl ?_
  refine g_get (v := .ref (a 1)) (fs := fl7 a (p7_town (p7_town s r13) r15)) C 139 rfl dX7_sell_136 hK hP la_X7 0 0 (Nat.le_of_ble_eq_true rfl) fl_X7_12 rfl rfl rfl rfl ?_
  refine g_iload_n C 140 rfl dX7_sell_139 5 rfl ?_
  refine g_iconst 3 C 141 rfl dX7_sell_140 ki_3 ?_
  refine g_iload C 143 rfl dX7_sell_141 1 rfl ?_
  obtain ⟨r17, hz18, hq⟩ := bindE hq
  refine g_callWV (rest := []) (cs7 a Δ (p7_town (p7_town (p7_town s r13) r15) r17)) C 146 rfl dX7_sell_143 (c_X6_put Γ.2.1 Δ (fun i => a (i + 1)) x1 3 (r9 + x2) (x7_town (p7_town (p7_town s r13) r15)) hz18) mv_X6_put ml_X7_81 hK hP hD hS hA (scl_49 a Δ (p7_town (p7_town s r13) r15) r17) rfl rfl rfl rfl rfl ⟨Nat.le_of_ble_eq_true rfl, Nat.le_of_ble_eq_true rfl⟩ (Nat.le_of_ble_eq_true rfl) ⟨Nat.zero_le _, Nat.zero_le _⟩ (fun H L hP hD hS => ?_)
  refine g_aload_n C 147 rfl dX7_sell_146 4 rfl ?_
  refine g_get (v := .ref (a 1)) (fs := fl7 a (p7_town (p7_town (p7_town s r13) r15) r17)) C 150 rfl dX7_sell_147 hK hP la_X7 0 0 (Nat.le_of_ble_eq_true rfl) fl_X7_12 rfl rfl rfl rfl ?_
  refine g_iload_n C 151 rfl dX7_sell_150 7 rfl ?_
  refine g_iconst 3 C 152 rfl dX7_sell_151 ki_3 ?_
  refine g_iload C 154 rfl dX7_sell_152 0 rfl ?_
  obtain ⟨r19, hz20, hq⟩ := bindE hq
  refine g_callWV (rest := []) (cs7 a Δ (p7_town (p7_town (p7_town (p7_town s r13) r15) r17) r19)) C 157 rfl dX7_sell_154 (c_X6_put Γ.2.1 Δ (fun i => a (i + 1)) x3 3 (r11 - x2) (x7_town (p7_town (p7_town (p7_town s r13) r15) r17)) hz20) mv_X6_put ml_X7_81 hK hP hD hS hA (scl_49 a Δ (p7_town (p7_town (p7_town s r13) r15) r17) r19) rfl rfl rfl rfl rfl ⟨Nat.le_of_ble_eq_true rfl, Nat.le_of_ble_eq_true rfl⟩ (Nat.le_of_ble_eq_true rfl) ⟨Nat.zero_le _, Nat.zero_le _⟩ (fun H L hP hD hS => ?_)
  refine g_iconst 0 C 158 rfl dX7_sell_157 ki_0 ?_
  exact w_int (ws := fun s => cs7 a Δ s) hR hq hP hS dX7_sell_158 rfl rfl
set_option maxHeartbeats 400000 in
set_option maxRecDepth 100000 in
theorem c_X7_walk (l : Launch) (Δ : gD) (a : Nat → Nat) (x1 : Int32) (x2 : Int32) (s : S7) {res : Int32 × S7} (hq : sem_X7_walk x1 x2 s = some res) : MW l yX7_walk cX7_walk 3 (some .int) Δ (cs7 a Δ s) [.ref (a 0), .int x1, .int x2] 1 23 (some (.int res.1)) (cs7 a Δ res.2) := by
  refine MW.of (by decide) (Nat.le_of_ble_eq_true rfl) ?_
  intro Γ A H hl C hK hP hD hS hA hR
  subst hl
  show g Γ { frames := 1, cells := 0, slots := 0, locals := 23 } 3 H [] 0 0 0 [(0, .ref (a 0)), (1, .int x1), (2, .int x2)] []
  refine g_aload_n C 1 rfl dX7_walk_0 0 rfl ?_
  refine g_get (v := .ref (a 1)) (fs := fl7 a s) C 4 rfl dX7_walk_1 hK hP la_X7 0 0 (Nat.le_of_ble_eq_true rfl) fl_X7_12 rfl rfl rfl rfl ?_
  refine g_iload_n C 5 rfl dX7_walk_4 1 rfl ?_
  obtain ⟨r1, hz2, hq⟩ := bindE hq
  refine g_callRV (rest := []) C 8 rfl dX7_walk_5 (c_X6_has Γ.2.1 Δ (fun i => a (i + 1)) x1 (x7_town s) hz2) mv_X6_has ml_X7_74 hK (sct_50 a Δ s hP) rfl rfl rfl rfl rfl ⟨Nat.le_of_ble_eq_true rfl, Nat.le_of_ble_eq_true rfl⟩ (Nat.le_of_ble_eq_true rfl) ⟨Nat.zero_le _, Nat.zero_le _⟩ ?_
  refine s_if_ne C 13 11 rfl dX7_walk_8 (by decide) hq (fun hq => ?_) (fun hq => ?_)
  rotate_left
  · refine g_iconst 1 C 12 rfl dX7_walk_11 ki_1 ?_
    exact w_int (ws := fun s => cs7 a Δ s) hR hq hP hS dX7_walk_12 rfl rfl
  refine g_aload_n C 14 rfl dX7_walk_13 0 rfl ?_
  refine g_get (v := .ref (a 1)) (fs := fl7 a s) C 17 rfl dX7_walk_14 hK hP la_X7 0 0 (Nat.le_of_ble_eq_true rfl) fl_X7_12 rfl rfl rfl rfl ?_
  refine g_iload_n C 18 rfl dX7_walk_17 1 rfl ?_
  refine g_iconst 4 C 19 rfl dX7_walk_18 ki_4 ?_
  obtain ⟨r3, hz4, hq⟩ := bindE hq
  refine g_callRV (rest := []) C 22 rfl dX7_walk_19 (c_X6_get Γ.2.1 Δ (fun i => a (i + 1)) x1 4 (x7_town s) hz4) mv_X6_get ml_X7_78 hK (sct_50 a Δ s hP) rfl rfl rfl rfl rfl ⟨Nat.le_of_ble_eq_true rfl, Nat.le_of_ble_eq_true rfl⟩ (Nat.le_of_ble_eq_true rfl) ⟨Nat.zero_le _, Nat.zero_le _⟩ ?_
  refine g_iload_n C 23 rfl dX7_walk_22 2 rfl ?_
  refine s_icmp_ne C 28 26 rfl dX7_walk_23 (by decide) hq (fun hq => ?_) (fun hq => ?_)
  rotate_left
  · refine g_iconst 2 C 27 rfl dX7_walk_26 ki_2 ?_
    exact w_int (ws := fun s => cs7 a Δ s) hR hq hP hS dX7_walk_27 rfl rfl
  refine g_aload_n C 29 rfl dX7_walk_28 0 rfl ?_
  refine g_get (v := .ref (a 1)) (fs := fl7 a s) C 32 rfl dX7_walk_29 hK hP la_X7 0 0 (Nat.le_of_ble_eq_true rfl) fl_X7_12 rfl rfl rfl rfl ?_
  refine g_iload_n C 33 rfl dX7_walk_32 1 rfl ?_
  refine g_iconst 4 C 34 rfl dX7_walk_33 ki_4 ?_
  refine g_iload_n C 35 rfl dX7_walk_34 2 rfl ?_
  obtain ⟨r5, hz6, hq⟩ := bindE hq
  refine g_callWV (rest := []) (cs7 a Δ (p7_town s r5)) C 38 rfl dX7_walk_35 (c_X6_put Γ.2.1 Δ (fun i => a (i + 1)) x1 4 x2 (x7_town s) hz6) mv_X6_put ml_X7_81 hK hP hD hS hA (scl_49 a Δ s r5) rfl rfl rfl rfl rfl ⟨Nat.le_of_ble_eq_true rfl, Nat.le_of_ble_eq_true rfl⟩ (Nat.le_of_ble_eq_true rfl) ⟨Nat.zero_le _, Nat.zero_le _⟩ (fun H L hP hD hS => ?_)
  refine g_iconst 0 C 39 rfl dX7_walk_38 ki_0 ?_
  exact w_int (ws := fun s => cs7 a Δ s) hR hq hP hS dX7_walk_39 rfl rfl
set_option maxHeartbeats 400000 in
set_option maxRecDepth 100000 in
theorem c_X7_slip (l : Launch) (Δ : gD) (a : Nat → Nat) (x1 : Int32) (s : S7) {res : S7} (hq : sem_X7_slip x1 s = some res) : MW l yX7_slip cX7_slip 5 none Δ (cs7 a Δ s) [.ref (a 0), .int x1] 2 48 none (cs7 a Δ res) := by
  refine MW.of (by decide) (Nat.le_of_ble_eq_true rfl) ?_
  intro Γ A H hl C hK hP hD hS hA hR
  subst hl
  have K87 : ∀ (x4 : Int32) (s : S7) (H : Heap) (L : List Loc) (hP : va_P Δ.1 classes (cs7 a Δ s) H) (hD : va_D A (cs7 a Δ s)) (hS : va_S A (sOf Γ).heap H L), jn_X7_slip_87 x4 s = some res → g Γ { frames := 2, cells := 0, slots := 0, locals := 48 } 5 H L 0 0 87 [(0, .ref (a 0)), (4, .int x4)] [] := by
    intro x4 s H L hP hD hS hq
    refine g_aload_n C 88 rfl dX7_slip_87 0 rfl ?_
    refine g_dup C 89 rfl dX7_slip_88 rfl ?_
    refine g_get (v := .int (x7_slips s)) (fs := fl7 a s) C 92 rfl dX7_slip_89 hK hP la_X7 0 3 (Nat.le_of_ble_eq_true rfl) fl_X7_25 rfl rfl rfl rfl ?_
    refine g_iconst 1 C 93 rfl dX7_slip_92 ki_1 ?_
    refine g_iadd C 94 rfl dX7_slip_93 ?_
    refine g_put (fs := fl7 a s) (cs7 a Δ (p7_slips s ((x7_slips s) + 1))) C 97 rfl dX7_slip_94 hK hP hD hS la_X7 tyX7_ok nmX7 0 3 (Nat.le_of_ble_eq_true rfl) fl_X7_25 rfl rfl rfl rfl rfl rfl (Nat.le_of_ble_eq_true rfl) (sst_51 a Δ s ((x7_slips s) + 1)) (fun H L hP hD hS => ?_)
    refine g_aload_n C 98 rfl dX7_slip_97 0 rfl ?_
    refine g_dup C 99 rfl dX7_slip_98 rfl ?_
    refine g_get (v := .int (x7_paid (p7_slips s ((x7_slips s) + 1)))) (fs := fl7 a (p7_slips s ((x7_slips s) + 1))) C 102 rfl dX7_slip_99 hK hP la_X7 0 4 (Nat.le_of_ble_eq_true rfl) fl_X7_28 rfl rfl rfl rfl ?_
    refine g_iload C 104 rfl dX7_slip_102 1 rfl ?_
    refine g_iadd C 105 rfl dX7_slip_104 ?_
    refine g_put (fs := fl7 a (p7_slips s ((x7_slips s) + 1))) (cs7 a Δ (p7_paid (p7_slips s ((x7_slips s) + 1)) ((x7_paid (p7_slips s ((x7_slips s) + 1))) + x4))) C 108 rfl dX7_slip_105 hK hP hD hS la_X7 tyX7_ok nmX7 0 4 (Nat.le_of_ble_eq_true rfl) fl_X7_28 rfl rfl rfl rfl rfl rfl (Nat.le_of_ble_eq_true rfl) (sst_52 a Δ (p7_slips s ((x7_slips s) + 1)) ((x7_paid (p7_slips s ((x7_slips s) + 1))) + x4)) (fun H L hP hD hS => ?_)
    exact w_void (ws := fun s => cs7 a Δ s) hR hq hP hS dX7_slip_108 rfl
  show g Γ { frames := 2, cells := 0, slots := 0, locals := 48 } 5 H [] 0 0 0 [(0, .ref (a 0)), (1, .int x1)] []
  refine g_aload_n C 1 rfl dX7_slip_0 0 rfl ?_
  refine g_get (v := .ref (a 1)) (fs := fl7 a s) C 4 rfl dX7_slip_1 hK hP la_X7 0 0 (Nat.le_of_ble_eq_true rfl) fl_X7_12 rfl rfl rfl rfl ?_
  refine g_iload_n C 5 rfl dX7_slip_4 1 rfl ?_
  obtain ⟨r1, hz2, hq⟩ := bindE hq
  refine g_callRV (rest := []) C 8 rfl dX7_slip_5 (c_X6_hearers Γ.2.1 Δ (fun i => a (i + 1)) x1 (x7_town s) hz2) mv_X6_hearers ml_X7_92 hK (sct_50 a Δ s hP) rfl rfl rfl rfl rfl ⟨Nat.le_of_ble_eq_true rfl, Nat.le_of_ble_eq_true rfl⟩ (Nat.le_of_ble_eq_true rfl) ⟨Nat.zero_le _, Nat.zero_le _⟩ ?_
  obtain ⟨r3, hz4, hq⟩ := bindE hq
  refine g_callRS (rest := []) C 11 rfl dX7_slip_8 (c_J6_bitCount_0f7a4 Γ.2.1 Δ  r1  hz4) mv_J6_bitCount_0f7a4 (Or.inl ml_X7_95) hK rfl rfl ⟨Nat.le_of_ble_eq_true rfl, Nat.le_of_ble_eq_true rfl⟩ (Nat.le_of_ble_eq_true rfl) ⟨Nat.zero_le _, Nat.zero_le _⟩ ?_
  refine g_istore_n [(2, .int r3), (0, .ref (a 0)), (1, .int x1)] C 12 rfl dX7_slip_11 (Nat.le_of_ble_eq_true rfl) rfl ?_
  refine g_aload_n C 13 rfl dX7_slip_12 1 rfl ?_
  refine g_get (v := .ref (a 1)) (fs := fl7 a s) C 16 rfl dX7_slip_13 hK hP la_X7 0 0 (Nat.le_of_ble_eq_true rfl) fl_X7_12 rfl rfl rfl rfl ?_
  refine g_iload_n C 17 rfl dX7_slip_16 2 rfl ?_
  refine g_iconst 3 C 18 rfl dX7_slip_17 ki_3 ?_
  obtain ⟨r5, hz6, hq⟩ := bindE hq
  refine g_callRV (rest := []) C 21 rfl dX7_slip_18 (c_X6_get Γ.2.1 Δ (fun i => a (i + 1)) x1 3 (x7_town s) hz6) mv_X6_get ml_X7_78 hK (sct_50 a Δ s hP) rfl rfl rfl rfl rfl ⟨Nat.le_of_ble_eq_true rfl, Nat.le_of_ble_eq_true rfl⟩ (Nat.le_of_ble_eq_true rfl) ⟨Nat.zero_le _, Nat.zero_le _⟩ ?_
  refine g_istore_n [(3, .int r5), (2, .int r3), (0, .ref (a 0)), (1, .int x1)] C 22 rfl dX7_slip_21 (Nat.le_of_ble_eq_true rfl) rfl ?_
  refine g_iload_n C 23 rfl dX7_slip_22 0 rfl ?_
  refine g_aload_n C 24 rfl dX7_slip_23 2 rfl ?_
  refine g_get (v := .ref (a 1)) (fs := fl7 a s) C 27 rfl dX7_slip_24 hK hP la_X7 0 0 (Nat.le_of_ble_eq_true rfl) fl_X7_12 rfl rfl rfl rfl ?_
  refine g_iload_n C 28 rfl dX7_slip_27 3 rfl ?_
  refine g_iconst 0 C 29 rfl dX7_slip_28 ki_0 ?_
  obtain ⟨r7, hz8, hq⟩ := bindE hq
  refine g_callRV (rest := [.int r5]) C 32 rfl dX7_slip_29 (c_X6_get Γ.2.1 Δ (fun i => a (i + 1)) x1 0 (x7_town s) hz8) mv_X6_get ml_X7_78 hK (sct_50 a Δ s hP) rfl rfl rfl rfl rfl ⟨Nat.le_of_ble_eq_true rfl, Nat.le_of_ble_eq_true rfl⟩ (Nat.le_of_ble_eq_true rfl) ⟨Nat.zero_le _, Nat.zero_le _⟩ ?_
  refine g_iload_n C 33 rfl dX7_slip_32 1 rfl ?_
  refine g_imul C 34 rfl dX7_slip_33 ?_
  refine g_mmin C 37 rfl dX7_slip_34 ml_X7_100 mth_min ⟨Nat.le_of_ble_eq_true rfl, Nat.le_of_ble_eq_true rfl⟩ ⟨Nat.zero_le _, Nat.zero_le _⟩ ?_
  refine g_istore [(4, .int (jmin r5 (r7 * r3))), (3, .int r5), (2, .int r3), (0, .ref (a 0)), (1, .int x1)] C 39 rfl dX7_slip_37 (Nat.le_of_ble_eq_true rfl) rfl ?_
  refine g_aload_n C 40 rfl dX7_slip_39 3 rfl ?_
  refine g_get (v := .ref (a 1)) (fs := fl7 a s) C 43 rfl dX7_slip_40 hK hP la_X7 0 0 (Nat.le_of_ble_eq_true rfl) fl_X7_12 rfl rfl rfl rfl ?_
  refine g_iload_n C 44 rfl dX7_slip_43 4 rfl ?_
  refine g_iconst 3 C 45 rfl dX7_slip_44 ki_3 ?_
  refine g_iload_n C 46 rfl dX7_slip_45 1 rfl ?_
  refine g_iload C 48 rfl dX7_slip_46 0 rfl ?_
  refine g_isub C 49 rfl dX7_slip_48 ?_
  obtain ⟨r9, hz10, hq⟩ := bindE hq
  refine g_callWV (rest := []) (cs7 a Δ (p7_town s r9)) C 52 rfl dX7_slip_49 (c_X6_put Γ.2.1 Δ (fun i => a (i + 1)) x1 3 (r5 - (jmin r5 (r7 * r3))) (x7_town s) hz10) mv_X6_put ml_X7_81 hK hP hD hS hA (scl_49 a Δ s r9) rfl rfl rfl rfl rfl ⟨Nat.le_of_ble_eq_true rfl, Nat.le_of_ble_eq_true rfl⟩ (Nat.le_of_ble_eq_true rfl) ⟨Nat.zero_le _, Nat.zero_le _⟩ (fun H L hP hD hS => ?_)
  refine g_aload_n C 53 rfl dX7_slip_52 3 rfl ?_
  refine g_get (v := .ref (a 1)) (fs := fl7 a (p7_town s r9)) C 56 rfl dX7_slip_53 hK hP la_X7 0 0 (Nat.le_of_ble_eq_true rfl) fl_X7_12 rfl rfl rfl rfl ?_
  refine g_iload_n C 57 rfl dX7_slip_56 4 rfl ?_
  refine g_iconst 0 C 58 rfl dX7_slip_57 ki_0 ?_
  refine g_iconst 0 C 59 rfl dX7_slip_58 ki_0 ?_
  obtain ⟨r11, hz12, hq⟩ := bindE hq
  refine g_callWV (rest := []) (cs7 a Δ (p7_town (p7_town s r9) r11)) C 62 rfl dX7_slip_59 (c_X6_put Γ.2.1 Δ (fun i => a (i + 1)) x1 0 0 (x7_town (p7_town s r9)) hz12) mv_X6_put ml_X7_81 hK hP hD hS hA (scl_49 a Δ (p7_town s r9) r11) rfl rfl rfl rfl rfl ⟨Nat.le_of_ble_eq_true rfl, Nat.le_of_ble_eq_true rfl⟩ (Nat.le_of_ble_eq_true rfl) ⟨Nat.zero_le _, Nat.zero_le _⟩ (fun H L hP hD hS => ?_)
  refine g_aload_n C 63 rfl dX7_slip_62 3 rfl ?_
  refine g_get (v := .int (x7_slips (p7_town (p7_town s r9) r11))) (fs := fl7 a (p7_town (p7_town s r9) r11)) C 66 rfl dX7_slip_63 hK hP la_X7 0 3 (Nat.le_of_ble_eq_true rfl) fl_X7_25 rfl rfl rfl rfl ?_
  refine s_if_ne C 87 69 rfl dX7_slip_66 (by decide) hq (fun hq => ?_) (fun hq => ?_)
  · exact g_sub [3, 0] rfl (K87 (jmin r5 (r7 * r3)) (p7_town (p7_town s r9) r11) _ _ hP hD hS hq)
  refine g_aload_n C 70 rfl dX7_slip_69 3 rfl ?_
  refine g_aload_n C 71 rfl dX7_slip_70 3 rfl ?_
  refine g_get (v := .int (x7_acts (p7_town (p7_town s r9) r11))) (fs := fl7 a (p7_town (p7_town s r9) r11)) C 74 rfl dX7_slip_71 hK hP la_X7 0 1 (Nat.le_of_ble_eq_true rfl) fl_X7_18 rfl rfl rfl rfl ?_
  refine g_put (fs := fl7 a (p7_town (p7_town s r9) r11)) (cs7 a Δ (p7_firstSlip (p7_town (p7_town s r9) r11) (x7_acts (p7_town (p7_town s r9) r11)))) C 77 rfl dX7_slip_74 hK hP hD hS la_X7 tyX7_ok nmX7 0 5 (Nat.le_of_ble_eq_true rfl) fl_X7_31 rfl rfl rfl rfl rfl rfl (Nat.le_of_ble_eq_true rfl) (sst_53 a Δ (p7_town (p7_town s r9) r11) (x7_acts (p7_town (p7_town s r9) r11))) (fun H L hP hD hS => ?_)
  refine g_aload_n C 78 rfl dX7_slip_77 3 rfl ?_
  refine g_iload_n C 79 rfl dX7_slip_78 4 rfl ?_
  refine g_put (fs := fl7 a (p7_firstSlip (p7_town (p7_town s r9) r11) (x7_acts (p7_town (p7_town s r9) r11)))) (cs7 a Δ (p7_firstWho (p7_firstSlip (p7_town (p7_town s r9) r11) (x7_acts (p7_town (p7_town s r9) r11))) x1)) C 82 rfl dX7_slip_79 hK hP hD hS la_X7 tyX7_ok nmX7 0 6 (Nat.le_of_ble_eq_true rfl) fl_X7_34 rfl rfl rfl rfl rfl rfl (Nat.le_of_ble_eq_true rfl) (sst_54 a Δ (p7_firstSlip (p7_town (p7_town s r9) r11) (x7_acts (p7_town (p7_town s r9) r11))) x1) (fun H L hP hD hS => ?_)
  refine g_aload_n C 83 rfl dX7_slip_82 3 rfl ?_
  refine g_iload_n C 84 rfl dX7_slip_83 2 rfl ?_
  refine g_put (fs := fl7 a (p7_firstWho (p7_firstSlip (p7_town (p7_town s r9) r11) (x7_acts (p7_town (p7_town s r9) r11))) x1)) (cs7 a Δ (p7_firstHeard (p7_firstWho (p7_firstSlip (p7_town (p7_town s r9) r11) (x7_acts (p7_town (p7_town s r9) r11))) x1) r3)) C 87 rfl dX7_slip_84 hK hP hD hS la_X7 tyX7_ok nmX7 0 7 (Nat.le_of_ble_eq_true rfl) fl_X7_37 rfl rfl rfl rfl rfl rfl (Nat.le_of_ble_eq_true rfl) (sst_55 a Δ (p7_firstWho (p7_firstSlip (p7_town (p7_town s r9) r11) (x7_acts (p7_town (p7_town s r9) r11))) x1) r3) (fun H L hP hD hS => ?_)
  exact g_sub [3, 0] rfl (K87 (jmin r5 (r7 * r3)) (p7_firstHeard (p7_firstWho (p7_firstSlip (p7_town (p7_town s r9) r11) (x7_acts (p7_town (p7_town s r9) r11))) x1) r3) _ _ hP hD hS hq)
set_option maxHeartbeats 400000 in
set_option maxRecDepth 100000 in
theorem c_X7_suffer (l : Launch) (Δ : gD) (a : Nat → Nat) (x1 : Int32) (x2 : Int32) (x3 : Int32) (s : S7) {res : Int32 × S7} (hq : sem_X7_suffer x1 x2 x3 s = some res) : MW l yX7_suffer cX7_suffer 5 (some .int) Δ (cs7 a Δ s) [.ref (a 0), .int x1, .int x2, .int x3] 3 72 (some (.int res.1)) (cs7 a Δ res.2) := by
  refine MW.of (by decide) (Nat.le_of_ble_eq_true rfl) ?_
  intro Γ A H hl C hK hP hD hS hA hR
  subst hl
  show g Γ { frames := 3, cells := 0, slots := 0, locals := 72 } 5 H [] 0 0 0 [(0, .ref (a 0)), (1, .int x1), (2, .int x2), (3, .int x3)] []
  refine g_aload_n C 1 rfl dX7_suffer_0 0 rfl ?_
  refine g_get (v := .ref (a 1)) (fs := fl7 a s) C 4 rfl dX7_suffer_1 hK hP la_X7 0 0 (Nat.le_of_ble_eq_true rfl) fl_X7_12 rfl rfl rfl rfl ?_
  refine g_iload_n C 5 rfl dX7_suffer_4 1 rfl ?_
  obtain ⟨r1, hz2, hq⟩ := bindE hq
  refine g_callRV (rest := []) C 8 rfl dX7_suffer_5 (c_X6_has Γ.2.1 Δ (fun i => a (i + 1)) x1 (x7_town s) hz2) mv_X6_has ml_X7_74 hK (sct_50 a Δ s hP) rfl rfl rfl rfl rfl ⟨Nat.le_of_ble_eq_true rfl, Nat.le_of_ble_eq_true rfl⟩ (Nat.le_of_ble_eq_true rfl) ⟨Nat.zero_le _, Nat.zero_le _⟩ ?_
  refine s_if_ne C 13 11 rfl dX7_suffer_8 (by decide) hq (fun hq => ?_) (fun hq => ?_)
  rotate_left
  · refine g_iconst 1 C 12 rfl dX7_suffer_11 ki_1 ?_
    exact w_int (ws := fun s => cs7 a Δ s) hR hq hP hS dX7_suffer_12 rfl rfl
  refine g_aload_n C 14 rfl dX7_suffer_13 0 rfl ?_
  refine g_get (v := .ref (a 1)) (fs := fl7 a s) C 17 rfl dX7_suffer_14 hK hP la_X7 0 0 (Nat.le_of_ble_eq_true rfl) fl_X7_12 rfl rfl rfl rfl ?_
  refine g_iload_n C 18 rfl dX7_suffer_17 1 rfl ?_
  refine g_iconst 0 C 19 rfl dX7_suffer_18 ki_0 ?_
  obtain ⟨r3, hz4, hq⟩ := bindE hq
  refine g_callRV (rest := []) C 22 rfl dX7_suffer_19 (c_X6_get Γ.2.1 Δ (fun i => a (i + 1)) x1 0 (x7_town s) hz4) mv_X6_get ml_X7_78 hK (sct_50 a Δ s hP) rfl rfl rfl rfl rfl ⟨Nat.le_of_ble_eq_true rfl, Nat.le_of_ble_eq_true rfl⟩ (Nat.le_of_ble_eq_true rfl) ⟨Nat.zero_le _, Nat.zero_le _⟩ ?_
  refine g_iload_n C 23 rfl dX7_suffer_22 3 rfl ?_
  refine g_iadd C 24 rfl dX7_suffer_23 ?_
  refine g_istore [(4, .int (r3 + x3)), (0, .ref (a 0)), (1, .int x1), (2, .int x2), (3, .int x3)] C 26 rfl dX7_suffer_24 (Nat.le_of_ble_eq_true rfl) rfl ?_
  refine g_aload_n C 27 rfl dX7_suffer_26 1 rfl ?_
  refine g_get (v := .ref (a 1)) (fs := fl7 a s) C 30 rfl dX7_suffer_27 hK hP la_X7 0 0 (Nat.le_of_ble_eq_true rfl) fl_X7_12 rfl rfl rfl rfl ?_
  refine g_iload_n C 31 rfl dX7_suffer_30 2 rfl ?_
  refine g_iconst 5 C 32 rfl dX7_suffer_31 ki_5 ?_
  refine g_iload_n C 33 rfl dX7_suffer_32 3 rfl ?_
  obtain ⟨r5, hz6, hq⟩ := bindE hq
  refine g_callWV (rest := []) (cs7 a Δ (p7_town s r5)) C 36 rfl dX7_suffer_33 (c_X6_put Γ.2.1 Δ (fun i => a (i + 1)) x1 5 x2 (x7_town s) hz6) mv_X6_put ml_X7_81 hK hP hD hS hA (scl_49 a Δ s r5) rfl rfl rfl rfl rfl ⟨Nat.le_of_ble_eq_true rfl, Nat.le_of_ble_eq_true rfl⟩ (Nat.le_of_ble_eq_true rfl) ⟨Nat.zero_le _, Nat.zero_le _⟩ (fun H L hP hD hS => ?_)
  refine g_aload_n C 37 rfl dX7_suffer_36 1 rfl ?_
  refine g_get (v := .ref (a 1)) (fs := fl7 a (p7_town s r5)) C 40 rfl dX7_suffer_37 hK hP la_X7 0 0 (Nat.le_of_ble_eq_true rfl) fl_X7_12 rfl rfl rfl rfl ?_
  refine g_iload_n C 41 rfl dX7_suffer_40 2 rfl ?_
  refine g_iconst 0 C 42 rfl dX7_suffer_41 ki_0 ?_
  refine g_iload C 44 rfl dX7_suffer_42 0 rfl ?_
  obtain ⟨r7, hz8, hq⟩ := bindE hq
  refine g_callWV (rest := []) (cs7 a Δ (p7_town (p7_town s r5) r7)) C 47 rfl dX7_suffer_44 (c_X6_put Γ.2.1 Δ (fun i => a (i + 1)) x1 0 (r3 + x3) (x7_town (p7_town s r5)) hz8) mv_X6_put ml_X7_81 hK hP hD hS hA (scl_49 a Δ (p7_town s r5) r7) rfl rfl rfl rfl rfl ⟨Nat.le_of_ble_eq_true rfl, Nat.le_of_ble_eq_true rfl⟩ (Nat.le_of_ble_eq_true rfl) ⟨Nat.zero_le _, Nat.zero_le _⟩ (fun H L hP hD hS => ?_)
  refine g_iload C 49 rfl dX7_suffer_47 0 rfl ?_
  refine g_aload_n C 50 rfl dX7_suffer_49 1 rfl ?_
  refine g_get (v := .ref (a 1)) (fs := fl7 a (p7_town (p7_town s r5) r7)) C 53 rfl dX7_suffer_50 hK hP la_X7 0 0 (Nat.le_of_ble_eq_true rfl) fl_X7_12 rfl rfl rfl rfl ?_
  refine g_get (v := .int (x6_limit (x7_town (p7_town (p7_town s r5) r7)))) (fs := fl6 (fun i => a (i + 1)) (x7_town (p7_town (p7_town s r5) r7))) C 56 rfl dX7_suffer_53 hK hP la_X6 1 3 (Nat.le_of_ble_eq_true rfl) fl_X7_85 rfl rfl rfl rfl ?_
  refine s_icmp_le C 64 59 rfl dX7_suffer_56 (by decide) hq (fun hq => ?_) (fun hq => ?_)
  · refine g_iconst 0 C 65 rfl dX7_suffer_64 ki_0 ?_
    exact w_int (ws := fun s => cs7 a Δ s) hR hq hP hS dX7_suffer_65 rfl rfl
  refine g_aload_n C 60 rfl dX7_suffer_59 1 rfl ?_
  refine g_iload_n C 61 rfl dX7_suffer_60 2 rfl ?_
  obtain ⟨r9, hz10, hq⟩ := bindE hq
  refine g_callWV (rest := []) (cs7 a Δ r9) C 64 rfl dX7_suffer_61 (c_X7_slip Γ.2.1 Δ a x1 (p7_town (p7_town s r5) r7) hz10) mv_X7_slip ml_X7_88 hK hP hD hS hA (scl_56 a Δ (p7_town (p7_town s r5) r7) r9) rfl rfl rfl rfl rfl ⟨Nat.le_of_ble_eq_true rfl, Nat.le_of_ble_eq_true rfl⟩ (Nat.le_of_ble_eq_true rfl) ⟨Nat.zero_le _, Nat.zero_le _⟩ (fun H L hP hD hS => ?_)
  refine g_iconst 0 C 65 rfl dX7_suffer_64 ki_0 ?_
  exact w_int (ws := fun s => cs7 a Δ s) hR hq hP hS dX7_suffer_65 rfl rfl
set_option maxHeartbeats 400000 in
set_option maxRecDepth 100000 in
theorem c_X7_attempt (l : Launch) (Δ : gD) (a : Nat → Nat) (b : Nat → Nat) (x2 : Int32) (s : S7) (t : S3) {res : S7} (hq : sem_X7_attempt x2 s t = some res) : MW l yX7_attempt cX7_attempt 6 none Δ (cs7 a Δ s ++ cs3 b Δ t) [.ref (a 0), .ref (b 0), .int x2] 4 96 none (cs7 a Δ res ++ cs3 b Δ t) := by
  refine MW.of (by decide) (Nat.le_of_ble_eq_true rfl) ?_
  intro Γ A H hl C hK hP hD hS hA hR
  subst hl
  have K140 : ∀  (s : S7) (H : Heap) (L : List Loc) (hP : va_P Δ.1 classes (cs7 a Δ s ++ cs3 b Δ t) H) (hD : va_D A (cs7 a Δ s ++ cs3 b Δ t)) (hS : va_S A (sOf Γ).heap H L), jn_X7_attempt_140  s t = some res → g Γ { frames := 4, cells := 0, slots := 0, locals := 96 } 6 H L 0 0 140 [(0, .ref (a 0))] [] := by
    intro s H L hP hD hS hq
    refine g_aload_n C 141 rfl dX7_attempt_140 0 rfl ?_
    refine g_get (v := .int (x7_reason s)) (fs := fl7 a s) C 144 rfl dX7_attempt_141 hK hP la_X7 0 2 (Nat.le_of_ble_eq_true rfl) fl_X7_22 rfl rfl rfl rfl ?_
    refine s_if_ne C 157 147 rfl dX7_attempt_144 (by decide) hq (fun hq => ?_) (fun hq => ?_)
    · exact w_void (ws := fun s => cs7 a Δ s ++ cs3 b Δ t) hR hq hP hS dX7_attempt_157 rfl
    refine g_aload_n C 148 rfl dX7_attempt_147 0 rfl ?_
    refine g_dup C 149 rfl dX7_attempt_148 rfl ?_
    refine g_get (v := .int (x7_acts s)) (fs := fl7 a s) C 152 rfl dX7_attempt_149 hK hP la_X7 0 1 (Nat.le_of_ble_eq_true rfl) fl_X7_18 rfl rfl rfl rfl ?_
    refine g_iconst 1 C 153 rfl dX7_attempt_152 ki_1 ?_
    refine g_iadd C 154 rfl dX7_attempt_153 ?_
    refine g_put (fs := fl7 a s) (cs7 a Δ (p7_acts s ((x7_acts s) + 1)) ++ cs3 b Δ t) C 157 rfl dX7_attempt_154 hK hP hD hS la_X7 tyX7_ok nmX7 0 1 (Nat.le_of_ble_eq_true rfl) fl_X7_18 rfl rfl rfl rfl rfl rfl (Nat.le_of_ble_eq_true rfl) (sst_57 a b Δ s t ((x7_acts s) + 1)) (fun H L hP hD hS => ?_)
    exact w_void (ws := fun s => cs7 a Δ s ++ cs3 b Δ t) hR hq hP hS dX7_attempt_157 rfl
  show g Γ { frames := 4, cells := 0, slots := 0, locals := 96 } 6 H [] 0 0 0 [(0, .ref (a 0)), (1, .ref (b 0)), (2, .int x2)] []
  refine g_aload_n C 1 rfl dX7_attempt_0 1 rfl ?_
  refine g_iload_n C 2 rfl dX7_attempt_1 2 rfl ?_
  obtain ⟨r1, hz2, hq⟩ := bindE hq
  refine g_callRV (rest := []) C 5 rfl dX7_attempt_2 (c_X3_at Γ.2.1 Δ b x2 t hz2) mv_X3_at ml_X7_44 hK (sct_60 a b Δ s t hP) rfl rfl rfl rfl rfl ⟨Nat.le_of_ble_eq_true rfl, Nat.le_of_ble_eq_true rfl⟩ (Nat.le_of_ble_eq_true rfl) ⟨Nat.zero_le _, Nat.zero_le _⟩ ?_
  obtain ⟨r3, hz4, hq⟩ := bindE hq
  refine g_callRS (rest := []) C 8 rfl dX7_attempt_5 (c_X3_oneOf Γ.2.1 Δ  r1  hz4) mv_X3_oneOf (Or.inl ml_X7_50) hK rfl rfl ⟨Nat.le_of_ble_eq_true rfl, Nat.le_of_ble_eq_true rfl⟩ (Nat.le_of_ble_eq_true rfl) ⟨Nat.zero_le _, Nat.zero_le _⟩ ?_
  refine g_istore_n [(3, .int r3), (0, .ref (a 0)), (1, .ref (b 0)), (2, .int x2)] C 9 rfl dX7_attempt_8 (Nat.le_of_ble_eq_true rfl) rfl ?_
  refine g_aload_n C 10 rfl dX7_attempt_9 2 rfl ?_
  refine g_iload_n C 11 rfl dX7_attempt_10 3 rfl ?_
  refine g_iconst 1 C 12 rfl dX7_attempt_11 ki_1 ?_
  refine g_iadd C 13 rfl dX7_attempt_12 ?_
  obtain ⟨r5, hz6, hq⟩ := bindE hq
  refine g_callRV (rest := []) C 16 rfl dX7_attempt_13 (c_X3_at Γ.2.1 Δ b (x2 + 1) t hz6) mv_X3_at ml_X7_44 hK (sct_60 a b Δ s t hP) rfl rfl rfl rfl rfl ⟨Nat.le_of_ble_eq_true rfl, Nat.le_of_ble_eq_true rfl⟩ (Nat.le_of_ble_eq_true rfl) ⟨Nat.zero_le _, Nat.zero_le _⟩ ?_
  refine g_istore [(4, .int r5), (3, .int r3), (0, .ref (a 0)), (1, .ref (b 0)), (2, .int x2)] C 18 rfl dX7_attempt_16 (Nat.le_of_ble_eq_true rfl) rfl ?_
  refine g_aload_n C 19 rfl dX7_attempt_18 3 rfl ?_
  refine g_iload_n C 20 rfl dX7_attempt_19 4 rfl ?_
  refine g_iconst 2 C 21 rfl dX7_attempt_20 ki_2 ?_
  refine g_iadd C 22 rfl dX7_attempt_21 ?_
  obtain ⟨r7, hz8, hq⟩ := bindE hq
  refine g_callRV (rest := []) C 25 rfl dX7_attempt_22 (c_X3_at Γ.2.1 Δ b (x2 + 2) t hz8) mv_X3_at ml_X7_44 hK (sct_60 a b Δ s t hP) rfl rfl rfl rfl rfl ⟨Nat.le_of_ble_eq_true rfl, Nat.le_of_ble_eq_true rfl⟩ (Nat.le_of_ble_eq_true rfl) ⟨Nat.zero_le _, Nat.zero_le _⟩ ?_
  refine g_bipush 48 C 27 rfl dX7_attempt_25 kb_48 ?_
  refine g_isub C 28 rfl dX7_attempt_27 ?_
  refine g_istore [(5, .int (r7 - 48)), (4, .int r5), (3, .int r3), (0, .ref (a 0)), (1, .ref (b 0)), (2, .int x2)] C 30 rfl dX7_attempt_28 (Nat.le_of_ble_eq_true rfl) rfl ?_
  refine g_aload_n C 31 rfl dX7_attempt_30 4 rfl ?_
  refine g_iload_n C 32 rfl dX7_attempt_31 5 rfl ?_
  obtain ⟨r9, hz10, hq⟩ := bindE hq
  refine g_callRV (rest := []) C 35 rfl dX7_attempt_32 (c_X3_at Γ.2.1 Δ b x2 t hz10) mv_X3_at ml_X7_44 hK (sct_60 a b Δ s t hP) rfl rfl rfl rfl rfl ⟨Nat.le_of_ble_eq_true rfl, Nat.le_of_ble_eq_true rfl⟩ (Nat.le_of_ble_eq_true rfl) ⟨Nat.zero_le _, Nat.zero_le _⟩ ?_
  refine g_bipush 46 C 37 rfl dX7_attempt_35 kb_46 ?_
  refine s_icmp_ne C 51 40 rfl dX7_attempt_37 (by decide) hq (fun hq => ?_) (fun hq => ?_)
  rotate_left
  · refine g_aload_n C 41 rfl dX7_attempt_40 3 rfl ?_
    refine g_aload_n C 42 rfl dX7_attempt_41 3 rfl ?_
    obtain ⟨r25, hz26, hq⟩ := bindE hq
    refine g_callWV (rest := [.ref (a 0)]) (cs7 a Δ r25.2 ++ cs3 b Δ t) C 45 rfl dX7_attempt_42 (c_X7_endHour Γ.2.1 Δ a  s hz26) mv_X7_endHour ml_X7_53 hK hP hD hS hA (scl_58 a b Δ s t r25.2) rfl rfl rfl rfl rfl ⟨Nat.le_of_ble_eq_true rfl, Nat.le_of_ble_eq_true rfl⟩ (Nat.le_of_ble_eq_true rfl) ⟨Nat.zero_le _, Nat.zero_le _⟩ (fun H L hP hD hS => ?_)
    refine g_put (fs := fl7 a r25.2) (cs7 a Δ (p7_reason r25.2 r25.1) ++ cs3 b Δ t) C 48 rfl dX7_attempt_45 hK hP hD hS la_X7 tyX7_ok nmX7 0 2 (Nat.le_of_ble_eq_true rfl) fl_X7_22 rfl rfl rfl rfl rfl rfl (Nat.le_of_ble_eq_true rfl) (sst_59 a b Δ r25.2 t r25.1) (fun H L hP hD hS => ?_)
    refine g_goto C 140 dX7_attempt_48 (by decide) ?_
    exact g_sub [3] rfl (K140  (p7_reason r25.2 r25.1) _ _ hP hD hS hq)
  refine g_iload C 53 rfl dX7_attempt_51 1 rfl ?_
  refine g_bipush 33 C 55 rfl dX7_attempt_53 kb_33 ?_
  refine s_icmp_ne C 72 58 rfl dX7_attempt_55 (by decide) hq (fun hq => ?_) (fun hq => ?_)
  rotate_left
  · refine g_aload_n C 59 rfl dX7_attempt_58 3 rfl ?_
    refine g_aload_n C 60 rfl dX7_attempt_59 3 rfl ?_
    refine g_iload_n C 61 rfl dX7_attempt_60 2 rfl ?_
    refine g_iload C 63 rfl dX7_attempt_61 0 rfl ?_
    obtain ⟨r23, hz24, hq⟩ := bindE hq
    refine g_callWV (rest := [.ref (a 0)]) (cs7 a Δ r23.2 ++ cs3 b Δ t) C 66 rfl dX7_attempt_63 (c_X7_swear Γ.2.1 Δ a r3 (r7 - 48) s hz24) mv_X7_swear ml_X7_57 hK hP hD hS hA (scl_58 a b Δ s t r23.2) rfl rfl rfl rfl rfl ⟨Nat.le_of_ble_eq_true rfl, Nat.le_of_ble_eq_true rfl⟩ (Nat.le_of_ble_eq_true rfl) ⟨Nat.zero_le _, Nat.zero_le _⟩ (fun H L hP hD hS => ?_)
    refine g_put (fs := fl7 a r23.2) (cs7 a Δ (p7_reason r23.2 r23.1) ++ cs3 b Δ t) C 69 rfl dX7_attempt_66 hK hP hD hS la_X7 tyX7_ok nmX7 0 2 (Nat.le_of_ble_eq_true rfl) fl_X7_22 rfl rfl rfl rfl rfl rfl (Nat.le_of_ble_eq_true rfl) (sst_59 a b Δ r23.2 t r23.1) (fun H L hP hD hS => ?_)
    refine g_goto C 140 dX7_attempt_69 (by decide) ?_
    exact g_sub [3] rfl (K140  (p7_reason r23.2 r23.1) _ _ hP hD hS hq)
  refine g_iload C 74 rfl dX7_attempt_72 1 rfl ?_
  refine g_bipush 62 C 76 rfl dX7_attempt_74 kb_62 ?_
  refine s_icmp_ne C 103 79 rfl dX7_attempt_76 (by decide) hq (fun hq => ?_) (fun hq => ?_)
  rotate_left
  · refine g_aload_n C 80 rfl dX7_attempt_79 3 rfl ?_
    refine g_aload_n C 81 rfl dX7_attempt_80 3 rfl ?_
    refine g_iload_n C 82 rfl dX7_attempt_81 2 rfl ?_
    refine g_iload C 84 rfl dX7_attempt_82 0 rfl ?_
    refine g_aload_n C 85 rfl dX7_attempt_84 4 rfl ?_
    refine g_iload_n C 86 rfl dX7_attempt_85 5 rfl ?_
    refine g_iconst 3 C 87 rfl dX7_attempt_86 ki_3 ?_
    refine g_iadd C 88 rfl dX7_attempt_87 ?_
    obtain ⟨r17, hz18, hq⟩ := bindE hq
    refine g_callRV (rest := [.int (r7 - 48), .int r3, .ref (a 0), .ref (a 0)]) C 91 rfl dX7_attempt_88 (c_X3_at Γ.2.1 Δ b (x2 + 3) t hz18) mv_X3_at ml_X7_44 hK (sct_60 a b Δ s t hP) rfl rfl rfl rfl rfl ⟨Nat.le_of_ble_eq_true rfl, Nat.le_of_ble_eq_true rfl⟩ (Nat.le_of_ble_eq_true rfl) ⟨Nat.zero_le _, Nat.zero_le _⟩ ?_
    obtain ⟨r19, hz20, hq⟩ := bindE hq
    refine g_callRS (rest := [.int (r7 - 48), .int r3, .ref (a 0), .ref (a 0)]) C 94 rfl dX7_attempt_91 (c_X3_oneOf Γ.2.1 Δ  r17  hz20) mv_X3_oneOf (Or.inl ml_X7_50) hK rfl rfl ⟨Nat.le_of_ble_eq_true rfl, Nat.le_of_ble_eq_true rfl⟩ (Nat.le_of_ble_eq_true rfl) ⟨Nat.zero_le _, Nat.zero_le _⟩ ?_
    obtain ⟨r21, hz22, hq⟩ := bindE hq
    refine g_callWV (rest := [.ref (a 0)]) (cs7 a Δ r21.2 ++ cs3 b Δ t) C 97 rfl dX7_attempt_94 (c_X7_sell Γ.2.1 Δ a r3 (r7 - 48) r19 s hz22) mv_X7_sell ml_X7_61 hK hP hD hS hA (scl_58 a b Δ s t r21.2) rfl rfl rfl rfl rfl ⟨Nat.le_of_ble_eq_true rfl, Nat.le_of_ble_eq_true rfl⟩ (Nat.le_of_ble_eq_true rfl) ⟨Nat.zero_le _, Nat.zero_le _⟩ (fun H L hP hD hS => ?_)
    refine g_put (fs := fl7 a r21.2) (cs7 a Δ (p7_reason r21.2 r21.1) ++ cs3 b Δ t) C 100 rfl dX7_attempt_97 hK hP hD hS la_X7 tyX7_ok nmX7 0 2 (Nat.le_of_ble_eq_true rfl) fl_X7_22 rfl rfl rfl rfl rfl rfl (Nat.le_of_ble_eq_true rfl) (sst_59 a b Δ r21.2 t r21.1) (fun H L hP hD hS => ?_)
    refine g_goto C 140 dX7_attempt_100 (by decide) ?_
    exact g_sub [3] rfl (K140  (p7_reason r21.2 r21.1) _ _ hP hD hS hq)
  refine g_iload C 105 rfl dX7_attempt_103 1 rfl ?_
  refine g_bipush 64 C 107 rfl dX7_attempt_105 kb_64 ?_
  refine s_icmp_ne C 124 110 rfl dX7_attempt_107 (by decide) hq (fun hq => ?_) (fun hq => ?_)
  rotate_left
  · refine g_aload_n C 111 rfl dX7_attempt_110 3 rfl ?_
    refine g_aload_n C 112 rfl dX7_attempt_111 3 rfl ?_
    refine g_iload_n C 113 rfl dX7_attempt_112 2 rfl ?_
    refine g_iload C 115 rfl dX7_attempt_113 0 rfl ?_
    obtain ⟨r15, hz16, hq⟩ := bindE hq
    refine g_callWV (rest := [.ref (a 0)]) (cs7 a Δ r15.2 ++ cs3 b Δ t) C 118 rfl dX7_attempt_115 (c_X7_walk Γ.2.1 Δ a r3 (r7 - 48) s hz16) mv_X7_walk ml_X7_65 hK hP hD hS hA (scl_58 a b Δ s t r15.2) rfl rfl rfl rfl rfl ⟨Nat.le_of_ble_eq_true rfl, Nat.le_of_ble_eq_true rfl⟩ (Nat.le_of_ble_eq_true rfl) ⟨Nat.zero_le _, Nat.zero_le _⟩ (fun H L hP hD hS => ?_)
    refine g_put (fs := fl7 a r15.2) (cs7 a Δ (p7_reason r15.2 r15.1) ++ cs3 b Δ t) C 121 rfl dX7_attempt_118 hK hP hD hS la_X7 tyX7_ok nmX7 0 2 (Nat.le_of_ble_eq_true rfl) fl_X7_22 rfl rfl rfl rfl rfl rfl (Nat.le_of_ble_eq_true rfl) (sst_59 a b Δ r15.2 t r15.1) (fun H L hP hD hS => ?_)
    refine g_goto C 140 dX7_attempt_121 (by decide) ?_
    exact g_sub [3] rfl (K140  (p7_reason r15.2 r15.1) _ _ hP hD hS hq)
  refine g_aload_n C 125 rfl dX7_attempt_124 3 rfl ?_
  refine g_aload_n C 126 rfl dX7_attempt_125 3 rfl ?_
  refine g_iload_n C 127 rfl dX7_attempt_126 2 rfl ?_
  refine g_iload C 129 rfl dX7_attempt_127 1 rfl ?_
  obtain ⟨r11, hz12, hq⟩ := bindE hq
  refine g_callRS (rest := [.int r3, .ref (a 0), .ref (a 0)]) C 132 rfl dX7_attempt_129 (c_X3_causeOf Γ.2.1 Δ  r5  hz12) mv_X3_causeOf (Or.inl ml_X7_68) hK rfl rfl ⟨Nat.le_of_ble_eq_true rfl, Nat.le_of_ble_eq_true rfl⟩ (Nat.le_of_ble_eq_true rfl) ⟨Nat.zero_le _, Nat.zero_le _⟩ ?_
  refine g_iload C 134 rfl dX7_attempt_132 0 rfl ?_
  obtain ⟨r13, hz14, hq⟩ := bindE hq
  refine g_callWV (rest := [.ref (a 0)]) (cs7 a Δ r13.2 ++ cs3 b Δ t) C 137 rfl dX7_attempt_134 (c_X7_suffer Γ.2.1 Δ a r3 r11 (r7 - 48) s hz14) mv_X7_suffer ml_X7_71 hK hP hD hS hA (scl_58 a b Δ s t r13.2) rfl rfl rfl rfl rfl ⟨Nat.le_of_ble_eq_true rfl, Nat.le_of_ble_eq_true rfl⟩ (Nat.le_of_ble_eq_true rfl) ⟨Nat.zero_le _, Nat.zero_le _⟩ (fun H L hP hD hS => ?_)
  refine g_put (fs := fl7 a r13.2) (cs7 a Δ (p7_reason r13.2 r13.1) ++ cs3 b Δ t) C 140 rfl dX7_attempt_137 hK hP hD hS la_X7 tyX7_ok nmX7 0 2 (Nat.le_of_ble_eq_true rfl) fl_X7_22 rfl rfl rfl rfl rfl rfl (Nat.le_of_ble_eq_true rfl) (sst_59 a b Δ r13.2 t r13.1) (fun H L hP hD hS => ?_)
  exact g_sub [3] rfl (K140  (p7_reason r13.2 r13.1) _ _ hP hD hS hq)
set_option maxHeartbeats 400000 in
set_option maxRecDepth 100000 in
theorem c_X7_draw (l : Launch) (Δ : gD) (a : Nat → Nat) (x1 : Int32) (s : S7) {res : S7} (hq : sem_X7_draw x1 s = some res) : MW l yX7_draw cX7_draw 4 none Δ (cs7 a Δ s) [.ref (a 0), .int x1] 4 96 none (cs7 a Δ res) := by
  refine MW.of (by decide) (Nat.le_of_ble_eq_true rfl) ?_
  intro Γ A H hl C hK hP hD hS hA hR
  subst hl
  have K82 : ∀ (x2 : Int32) (x3 : Int32) (s : S7) (H : Heap) (L : List Loc) (hP : va_P Δ.1 classes (cs7 a Δ s) H) (hD : va_D A (cs7 a Δ s)) (hS : va_S A (sOf Γ).heap H L), jn_X7_draw_82 x2 x3 s = some res → g Γ { frames := 4, cells := 0, slots := 0, locals := 96 } 4 H L 0 0 82 [(0, .ref (a 0)), (2, .int x2), (3, .int x3)] [] := by
    intro x2 x3 s H L hP hD hS hq
    refine g_aload_n C 83 rfl dX7_draw_82 0 rfl ?_
    refine g_iload_n C 84 rfl dX7_draw_83 1 rfl ?_
    refine g_iconst 1 C 85 rfl dX7_draw_84 ki_1 ?_
    refine g_iload_n C 86 rfl dX7_draw_85 2 rfl ?_
    refine g_iconst 5 C 87 rfl dX7_draw_86 ki_5 ?_
    refine g_irem C 88 rfl dX7_draw_87 (by decide) ?_
    refine g_iadd C 89 rfl dX7_draw_88 ?_
    obtain ⟨r1, hz2, hq⟩ := bindE hq
    refine g_callWV (rest := []) (cs7 a Δ r1.2) C 92 rfl dX7_draw_89 (c_X7_swear Γ.2.1 Δ a x2 (1 + (jrem x3 5)) s hz2) mv_X7_swear ml_X7_57 hK hP hD hS hA (scl_56 a Δ s r1.2) rfl rfl rfl rfl rfl ⟨Nat.le_of_ble_eq_true rfl, Nat.le_of_ble_eq_true rfl⟩ (Nat.le_of_ble_eq_true rfl) ⟨Nat.zero_le _, Nat.zero_le _⟩ (fun H L hP hD hS => ?_)
    refine g_pop C 93 rfl dX7_draw_92 rfl ?_
    refine g_goto C 128 dX7_draw_93 (by decide) ?_
    exact w_void (ws := fun s => cs7 a Δ s) hR hq hP hS dX7_draw_128 rfl
  have K60 : ∀ (x1 : Int32) (x2 : Int32) (x3 : Int32) (s : S7) (H : Heap) (L : List Loc) (hP : va_P Δ.1 classes (cs7 a Δ s) H) (hD : va_D A (cs7 a Δ s)) (hS : va_S A (sOf Γ).heap H L), jn_X7_draw_60 x1 x2 x3 s = some res → g Γ { frames := 4, cells := 0, slots := 0, locals := 96 } 4 H L 0 0 60 [(0, .ref (a 0)), (1, .int x1), (2, .int x2), (3, .int x3)] [] := by
    intro x1 x2 x3 s H L hP hD hS hq
    refine g_aload_n C 61 rfl dX7_draw_60 0 rfl ?_
    refine g_iload_n C 62 rfl dX7_draw_61 2 rfl ?_
    refine g_iload_n C 63 rfl dX7_draw_62 3 rfl ?_
    refine g_iconst 4 C 64 rfl dX7_draw_63 ki_4 ?_
    refine g_irem C 65 rfl dX7_draw_64 (by decide) ?_
    refine g_iconst 1 C 66 rfl dX7_draw_65 ki_1 ?_
    refine g_iload_n C 67 rfl dX7_draw_66 1 rfl ?_
    refine g_sipush 192 C 70 rfl dX7_draw_67 ks_192 ?_
    refine g_idiv C 71 rfl dX7_draw_70 (by decide) ?_
    refine g_bipush 9 C 73 rfl dX7_draw_71 kb_9 ?_
    refine g_irem C 74 rfl dX7_draw_73 (by decide) ?_
    refine g_iadd C 75 rfl dX7_draw_74 ?_
    obtain ⟨r3, hz4, hq⟩ := bindE hq
    refine g_callWV (rest := []) (cs7 a Δ r3.2) C 78 rfl dX7_draw_75 (c_X7_suffer Γ.2.1 Δ a x2 (jrem x3 4) (1 + (jrem (x1 / 192) 9)) s hz4) mv_X7_suffer ml_X7_71 hK hP hD hS hA (scl_56 a Δ s r3.2) rfl rfl rfl rfl rfl ⟨Nat.le_of_ble_eq_true rfl, Nat.le_of_ble_eq_true rfl⟩ (Nat.le_of_ble_eq_true rfl) ⟨Nat.zero_le _, Nat.zero_le _⟩ (fun H L hP hD hS => ?_)
    refine g_pop C 79 rfl dX7_draw_78 rfl ?_
    refine g_goto C 128 dX7_draw_79 (by decide) ?_
    exact w_void (ws := fun s => cs7 a Δ s) hR hq hP hS dX7_draw_128 rfl
  show g Γ { frames := 4, cells := 0, slots := 0, locals := 96 } 4 H [] 0 0 0 [(0, .ref (a 0)), (1, .int x1)] []
  refine g_iload_n C 1 rfl dX7_draw_0 1 rfl ?_
  refine g_bipush 6 C 3 rfl dX7_draw_1 kb_6 ?_
  refine g_irem C 4 rfl dX7_draw_3 (by decide) ?_
  refine g_istore_n [(2, .int (jrem x1 6)), (0, .ref (a 0)), (1, .int x1)] C 5 rfl dX7_draw_4 (Nat.le_of_ble_eq_true rfl) rfl ?_
  refine g_iload_n C 6 rfl dX7_draw_5 2 rfl ?_
  refine g_bipush 48 C 8 rfl dX7_draw_6 kb_48 ?_
  refine g_idiv C 9 rfl dX7_draw_8 (by decide) ?_
  refine g_istore_n [(3, .int (x1 / 48)), (2, .int (jrem x1 6)), (0, .ref (a 0)), (1, .int x1)] C 10 rfl dX7_draw_9 (Nat.le_of_ble_eq_true rfl) rfl ?_
  refine g_iload_n C 11 rfl dX7_draw_10 3 rfl ?_
  refine g_bipush 6 C 13 rfl dX7_draw_11 kb_6 ?_
  refine g_idiv C 14 rfl dX7_draw_13 (by decide) ?_
  refine g_bipush 8 C 16 rfl dX7_draw_14 kb_8 ?_
  refine g_irem C 17 rfl dX7_draw_16 (by decide) ?_
  by_cases hc5 : (jrem (x1 / 6) 8) = 0
  · have hq := if_t hc5 hq
    refine g_tblIn C 60 dX7_draw_17 (by rw [hc5]; decide) (by rw [hc5]; decide) (off := 43) (by rw [hc5]; rfl) (by decide) ?_
    exact g_sub [2, 3, 1, 0] rfl (K60 x1 (jrem x1 6) (x1 / 48) s _ _ hP hD hS hq)
  replace hq := if_f hc5 hq
  by_cases hc6 : (jrem (x1 / 6) 8) = 1
  · have hq := if_t hc6 hq
    refine g_tblIn C 60 dX7_draw_17 (by rw [hc6]; decide) (by rw [hc6]; decide) (off := 43) (by rw [hc6]; rfl) (by decide) ?_
    exact g_sub [2, 3, 1, 0] rfl (K60 x1 (jrem x1 6) (x1 / 48) s _ _ hP hD hS hq)
  replace hq := if_f hc6 hq
  by_cases hc7 : (jrem (x1 / 6) 8) = 2
  · have hq := if_t hc7 hq
    refine g_tblIn C 60 dX7_draw_17 (by rw [hc7]; decide) (by rw [hc7]; decide) (off := 43) (by rw [hc7]; rfl) (by decide) ?_
    exact g_sub [2, 3, 1, 0] rfl (K60 x1 (jrem x1 6) (x1 / 48) s _ _ hP hD hS hq)
  replace hq := if_f hc7 hq
  by_cases hc8 : (jrem (x1 / 6) 8) = 3
  · have hq := if_t hc8 hq
    refine g_tblIn C 82 dX7_draw_17 (by rw [hc8]; decide) (by rw [hc8]; decide) (off := 65) (by rw [hc8]; rfl) (by decide) ?_
    exact g_sub [2, 1, 0] rfl (K82 (jrem x1 6) (x1 / 48) s _ _ hP hD hS hq)
  replace hq := if_f hc8 hq
  by_cases hc9 : (jrem (x1 / 6) 8) = 4
  · have hq := if_t hc9 hq
    refine g_tblIn C 82 dX7_draw_17 (by rw [hc9]; decide) (by rw [hc9]; decide) (off := 65) (by rw [hc9]; rfl) (by decide) ?_
    exact g_sub [2, 1, 0] rfl (K82 (jrem x1 6) (x1 / 48) s _ _ hP hD hS hq)
  replace hq := if_f hc9 hq
  by_cases hc12 : (jrem (x1 / 6) 8) = 5
  · have hq := if_t hc12 hq
    refine g_tblIn C 96 dX7_draw_17 (by rw [hc12]; decide) (by rw [hc12]; decide) (off := 79) (by rw [hc12]; rfl) (by decide) ?_
    refine g_aload_n C 97 rfl dX7_draw_96 2 rfl ?_
    refine g_iload_n C 98 rfl dX7_draw_97 1 rfl ?_
    refine g_iconst 1 C 99 rfl dX7_draw_98 ki_1 ?_
    refine g_iload_n C 100 rfl dX7_draw_99 0 rfl ?_
    refine g_bipush 6 C 102 rfl dX7_draw_100 kb_6 ?_
    refine g_irem C 103 rfl dX7_draw_102 (by decide) ?_
    obtain ⟨r10, hz11, hq⟩ := bindE hq
    refine g_callWV (rest := []) (cs7 a Δ r10.2) C 106 rfl dX7_draw_103 (c_X7_sell Γ.2.1 Δ a (jrem x1 6) 1 (jrem (x1 / 48) 6) s hz11) mv_X7_sell ml_X7_61 hK hP hD hS hA (scl_56 a Δ s r10.2) rfl rfl rfl rfl rfl ⟨Nat.le_of_ble_eq_true rfl, Nat.le_of_ble_eq_true rfl⟩ (Nat.le_of_ble_eq_true rfl) ⟨Nat.zero_le _, Nat.zero_le _⟩ (fun H L hP hD hS => ?_)
    refine g_pop C 107 rfl dX7_draw_106 rfl ?_
    refine g_goto C 128 dX7_draw_107 (by decide) ?_
    exact w_void (ws := fun s => cs7 a Δ s) hR hq hP hS dX7_draw_128 rfl
  replace hq := if_f hc12 hq
  by_cases hc15 : (jrem (x1 / 6) 8) = 6
  · have hq := if_t hc15 hq
    refine g_tblIn C 110 dX7_draw_17 (by rw [hc15]; decide) (by rw [hc15]; decide) (off := 93) (by rw [hc15]; rfl) (by decide) ?_
    refine g_aload_n C 111 rfl dX7_draw_110 2 rfl ?_
    refine g_iload_n C 112 rfl dX7_draw_111 1 rfl ?_
    refine g_iload_n C 113 rfl dX7_draw_112 0 rfl ?_
    refine g_bipush 10 C 115 rfl dX7_draw_113 kb_10 ?_
    refine g_irem C 116 rfl dX7_draw_115 (by decide) ?_
    obtain ⟨r13, hz14, hq⟩ := bindE hq
    refine g_callWV (rest := []) (cs7 a Δ r13.2) C 119 rfl dX7_draw_116 (c_X7_walk Γ.2.1 Δ a (jrem x1 6) (jrem (x1 / 48) 10) s hz14) mv_X7_walk ml_X7_65 hK hP hD hS hA (scl_56 a Δ s r13.2) rfl rfl rfl rfl rfl ⟨Nat.le_of_ble_eq_true rfl, Nat.le_of_ble_eq_true rfl⟩ (Nat.le_of_ble_eq_true rfl) ⟨Nat.zero_le _, Nat.zero_le _⟩ (fun H L hP hD hS => ?_)
    refine g_pop C 120 rfl dX7_draw_119 rfl ?_
    refine g_goto C 128 dX7_draw_120 (by decide) ?_
    exact w_void (ws := fun s => cs7 a Δ s) hR hq hP hS dX7_draw_128 rfl
  replace hq := if_f hc15 hq
  refine g_tblOut C 123 dX7_draw_17 (by have nhc5 := lv_neT (a := 0) hc5 (by decide); have nhc6 := lv_neT (a := 1) hc6 (by decide); have nhc7 := lv_neT (a := 2) hc7 (by decide); have nhc8 := lv_neT (a := 3) hc8 (by decide); have nhc9 := lv_neT (a := 4) hc9 (by decide); have nhc12 := lv_neT (a := 5) hc12 (by decide); have nhc15 := lv_neT (a := 6) hc15 (by decide); omega) (by decide) ?_
  refine g_aload_n C 124 rfl dX7_draw_123 2 rfl ?_
  obtain ⟨r16, hz17, hq⟩ := bindE hq
  refine g_callWV (rest := []) (cs7 a Δ r16.2) C 127 rfl dX7_draw_124 (c_X7_endHour Γ.2.1 Δ a  s hz17) mv_X7_endHour ml_X7_53 hK hP hD hS hA (scl_56 a Δ s r16.2) rfl rfl rfl rfl rfl ⟨Nat.le_of_ble_eq_true rfl, Nat.le_of_ble_eq_true rfl⟩ (Nat.le_of_ble_eq_true rfl) ⟨Nat.zero_le _, Nat.zero_le _⟩ (fun H L hP hD hS => ?_)
  refine g_pop C 128 rfl dX7_draw_127 rfl ?_
  exact w_void (ws := fun s => cs7 a Δ s) hR hq hP hS dX7_draw_128 rfl
