set_option maxHeartbeats 400000 in
set_option maxRecDepth 100000 in
theorem c_X8_within (l : Launch) (Δ : gD)  (x0 : Int32) (x1 : Int32) (x2 : Int32)  {res : Int32} (hq : sem_X8_within x0 x1 x2  = some res) : MR l yX8_within cX8_within 3 (some .boolean) Δ ([]) [.int x0, .int x1, .int x2] 0 0 (.int res) := by
  refine MR.of (by decide) (Nat.le_of_ble_eq_true rfl) ?_
  intro Γ H hl C hK hP hR
  subst hl
  show g Γ { frames := 0, cells := 0, slots := 0, locals := 0 } 3 H [] 0 0 0 [(0, .int x0), (1, .int x1), (2, .int x2)] []
  refine g_iload_n C 1 rfl dX8_within_0 0 rfl ?_
  refine g_iload_n C 2 rfl dX8_within_1 1 rfl ?_
  refine s_icmp_lt C 14 5 rfl dX8_within_2 (by decide) hq (fun hq => ?_) (fun hq => ?_)
  · refine g_iconst 0 C 15 rfl dX8_within_14 ki_0 ?_
    exact r_int hR hq dX8_within_15 rfl rfl
  refine g_iload_n C 6 rfl dX8_within_5 0 rfl ?_
  refine g_iload_n C 7 rfl dX8_within_6 2 rfl ?_
  refine s_icmp_gt C 14 10 rfl dX8_within_7 (by decide) hq (fun hq => ?_) (fun hq => ?_)
  · refine g_iconst 0 C 15 rfl dX8_within_14 ki_0 ?_
    exact r_int hR hq dX8_within_15 rfl rfl
  refine g_iconst 1 C 11 rfl dX8_within_10 ki_1 ?_
  refine g_goto C 15 dX8_within_11 (by decide) ?_
  exact r_int hR hq dX8_within_15 rfl rfl
set_option maxHeartbeats 400000 in
set_option maxRecDepth 100000 in
theorem c_X8_digitOf (l : Launch) (Δ : gD)  (x0 : Int32) (x1 : Int32)  {res : Int32} (hq : sem_X8_digitOf x0 x1  = some res) : MR l yX8_digitOf cX8_digitOf 4 (some .int) Δ ([]) [.int x0, .int x1] 0 0 (.int res) := by
  refine MR.of (by decide) (Nat.le_of_ble_eq_true rfl) ?_
  intro Γ H hl C hK hP hR
  subst hl
  show g Γ { frames := 0, cells := 0, slots := 0, locals := 0 } 4 H [] 0 0 0 [(0, .int x0), (1, .int x1)] []
  refine g_iload_n C 1 rfl dX8_digitOf_0 0 rfl ?_
  refine g_istore_n [(2, .int x0), (0, .int x0), (1, .int x1)] C 2 rfl dX8_digitOf_1 (Nat.le_of_ble_eq_true rfl) rfl ?_
  refine g_iload_n C 3 rfl dX8_digitOf_2 2 rfl ?_
  refine g_iconst 1 C 4 rfl dX8_digitOf_3 ki_1 ?_
  refine g_iadd C 5 rfl dX8_digitOf_4 ?_
  refine g_istore_n [(3, .int (x1 + 1)), (2, .int x0), (0, .int x0), (1, .int x1)] C 6 rfl dX8_digitOf_5 (Nat.le_of_ble_eq_true rfl) rfl ?_
  have Q6 : ∀ (n : Nat) (x2 : Int32) (x3 : Int32) (o : (Int32)) (hq : lp_X8_digitOf_6  n x2 x3 = some o) (E2 : g Γ { frames := 0, cells := 0, slots := 0, locals := 0 } 4 H [] 0 0 23 [(2, .int o)] []), g Γ { frames := 0, cells := 0, slots := 0, locals := 0 } 4 H [] 0 0 6 [(2, .int x2), (3, .int x3)] [] := by
    intro n
    induction n with
    | zero => intro x2 x3 o hq; exact nomatch (show (none : Option (Int32)) = some o from hq)
    | succ n ih =>
      intro x2 x3 o hq E2
      have hq : bd_X8_digitOf_6  (lp_X8_digitOf_6  n) x2 x3 = some o := hq
      refine g_iload_n C 7 rfl dX8_digitOf_6 1 rfl ?_
      refine g_bipush 6 C 9 rfl dX8_digitOf_7 kb_6 ?_
      refine s_icmp_ge C 23 12 rfl dX8_digitOf_9 (by decide) hq (fun hq => ?_) (fun hq => ?_)
      · cases hq
        exact g_sub [0] rfl (E2 )
      refine g_iload_n C 13 rfl dX8_digitOf_12 0 rfl ?_
      refine g_bipush 10 C 15 rfl dX8_digitOf_13 kb_10 ?_
      refine g_idiv C 16 rfl dX8_digitOf_15 (by decide) ?_
      refine g_istore_n [(2, .int (x2 / 10)), (3, .int x3)] C 17 rfl dX8_digitOf_16 (Nat.le_of_ble_eq_true rfl) rfl ?_
      refine g_iinc (x3 + 1) [(3, .int (x3 + 1)), (2, .int (x2 / 10))] C 20 rfl dX8_digitOf_17 1 rfl (ii_1 _) (Nat.le_of_ble_eq_true rfl) rfl ?_
      refine g_goto C 6 dX8_digitOf_20 (by decide) ?_
      exact g_sub [1, 0] rfl (ih (x2 / 10) (x3 + 1) _ hq E2)
  obtain ⟨o1, ho2, hq⟩ := bindE hq
  refine g_sub [1, 0] rfl (Q6  FUEL x0 (x1 + 1) o1 ho2 (?_))
  refine g_iload_n C 24 rfl dX8_digitOf_23 0 rfl ?_
  refine g_bipush 10 C 26 rfl dX8_digitOf_24 kb_10 ?_
  refine g_irem C 27 rfl dX8_digitOf_26 (by decide) ?_
  exact r_int hR hq dX8_digitOf_27 rfl rfl
set_option maxHeartbeats 400000 in
set_option maxRecDepth 100000 in
theorem c_X6_get (l : Launch) (Δ : gD) (a : Nat → Nat) (x1 : Int32) (x2 : Int32) (s : S6) {res : Int32} (hq : sem_X6_get x1 x2 s = some res) : MR l yX6_get cX6_get 3 (some .int) Δ (cs6 a Δ s) [.ref (a 0), .int x1, .int x2] 0 0 (.int res) := by
  refine MR.of (by decide) (Nat.le_of_ble_eq_true rfl) ?_
  intro Γ H hl C hK hP hR
  subst hl
  show g Γ { frames := 0, cells := 0, slots := 0, locals := 0 } 3 H [] 0 0 0 [(0, .ref (a 0)), (1, .int x1), (2, .int x2)] []
  refine g_iload_n C 1 rfl dX6_get_0 1 rfl ?_
  refine s_if_lt C 34 4 rfl dX6_get_1 (by decide) hq (fun hq => ?_) (fun hq => ?_)
  · refine g_iconst 0 C 35 rfl dX6_get_34 ki_0 ?_
    exact r_int hR hq dX6_get_35 rfl rfl
  refine g_iload_n C 5 rfl dX6_get_4 1 rfl ?_
  refine g_bipush 6 C 7 rfl dX6_get_5 kb_6 ?_
  refine s_icmp_ge C 34 10 rfl dX6_get_7 (by decide) hq (fun hq => ?_) (fun hq => ?_)
  · refine g_iconst 0 C 35 rfl dX6_get_34 ki_0 ?_
    exact r_int hR hq dX6_get_35 rfl rfl
  refine g_iload_n C 11 rfl dX6_get_10 2 rfl ?_
  refine s_if_lt C 34 14 rfl dX6_get_11 (by decide) hq (fun hq => ?_) (fun hq => ?_)
  · refine g_iconst 0 C 35 rfl dX6_get_34 ki_0 ?_
    exact r_int hR hq dX6_get_35 rfl rfl
  refine g_iload_n C 15 rfl dX6_get_14 2 rfl ?_
  refine g_bipush 6 C 17 rfl dX6_get_15 kb_6 ?_
  refine s_icmp_ge C 34 20 rfl dX6_get_17 (by decide) hq (fun hq => ?_) (fun hq => ?_)
  · refine g_iconst 0 C 35 rfl dX6_get_34 ki_0 ?_
    exact r_int hR hq dX6_get_35 rfl rfl
  refine g_aload_n C 21 rfl dX6_get_20 0 rfl ?_
  refine g_get (v := .ref (a 1)) (fs := fl6 a s) C 24 rfl dX6_get_21 hK hP la_X6 0 0 (Nat.le_of_ble_eq_true rfl) fl_X6_9 rfl rfl rfl rfl ?_
  refine g_iload_n C 25 rfl dX6_get_24 1 rfl ?_
  refine g_bipush 6 C 27 rfl dX6_get_25 kb_6 ?_
  refine g_imul C 28 rfl dX6_get_27 ?_
  refine g_iload_n C 29 rfl dX6_get_28 2 rfl ?_
  refine g_iadd C 30 rfl dX6_get_29 ?_
  refine s_iald C 31 rfl dX6_get_30 hK hP 1 rfl hq (fun hq hi1 => ?_)
  refine g_goto C 35 dX6_get_31 (by decide) ?_
  exact r_int hR hq dX6_get_35 rfl rfl
set_option maxHeartbeats 400000 in
set_option maxRecDepth 100000 in
theorem c_X3_add (l : Launch) (Δ : gD) (a : Nat → Nat) (x1 : Int32) (s : S3) {res : S3} (hq : sem_X3_add x1 s = some res) : MW l yX3_add cX3_add 2 none Δ (cs3 a Δ s) [.ref (a 0), .int x1] 1 22 none (cs3 a Δ res) := by
  refine MW.of (by decide) (Nat.le_of_ble_eq_true rfl) ?_
  intro Γ A H hl C hK hP hD hS hA hR
  subst hl
  show g Γ { frames := 1, cells := 0, slots := 0, locals := 22 } 2 H [] 0 0 0 [(0, .ref (a 0)), (1, .int x1)] []
  refine g_aload_n C 1 rfl dX3_add_0 0 rfl ?_
  refine g_get (v := .int (x3_count s)) (fs := fl3 a s) C 4 rfl dX3_add_1 hK hP la_X3 0 1 (Nat.le_of_ble_eq_true rfl) fl_X3_15 rfl rfl rfl rfl ?_
  refine g_iconst 0 C 5 rfl dX3_add_4 ki_0 ?_
  refine g_bipush 59 C 7 rfl dX3_add_5 kb_59 ?_
  obtain ⟨r1, hz2, hq⟩ := bindE hq
  refine g_callRS (rest := []) C 10 rfl dX3_add_7 (c_X8_within Γ.2.1 Δ  (x3_count s) 0 59  hz2) mv_X8_within (Or.inr ⟨_, mn_X3_19⟩) hK rfl rfl ⟨Nat.le_of_ble_eq_true rfl, Nat.le_of_ble_eq_true rfl⟩ (Nat.le_of_ble_eq_true rfl) ⟨Nat.zero_le _, Nat.zero_le _⟩ ?_
  refine s_if_eq C 33 13 rfl dX3_add_10 (by decide) hq (fun hq => ?_) (fun hq => ?_)
  · exact w_void (ws := fun s => cs3 a Δ s) hR hq hP hS dX3_add_33 rfl
  refine g_aload_n C 14 rfl dX3_add_13 0 rfl ?_
  refine g_get (v := .ref (a 1)) (fs := fl3 a s) C 17 rfl dX3_add_14 hK hP la_X3 0 0 (Nat.le_of_ble_eq_true rfl) fl_X3_9 rfl rfl rfl rfl ?_
  refine g_aload_n C 18 rfl dX3_add_17 0 rfl ?_
  refine g_get (v := .int (x3_count s)) (fs := fl3 a s) C 21 rfl dX3_add_18 hK hP la_X3 0 1 (Nat.le_of_ble_eq_true rfl) fl_X3_15 rfl rfl rfl rfl ?_
  refine g_iload_n C 22 rfl dX3_add_21 1 rfl ?_
  refine s_iast (cs3 a Δ (p3_signs s (upd (x3_signs s) ((x3_count s) : Int32).toNatClampNeg x1))) C 23 rfl dX3_add_22 hK hP hD hS 1 rfl hq (sst_16 a Δ s (upd (x3_signs s) ((x3_count s) : Int32).toNatClampNeg x1)) (fun hq hi3 H L hP hD hS => ?_)
  refine g_aload_n C 24 rfl dX3_add_23 0 rfl ?_
  refine g_dup C 25 rfl dX3_add_24 rfl ?_
  refine g_get (v := .int (x3_count (p3_signs s (upd (x3_signs s) ((x3_count s) : Int32).toNatClampNeg x1)))) (fs := fl3 a (p3_signs s (upd (x3_signs s) ((x3_count s) : Int32).toNatClampNeg x1))) C 28 rfl dX3_add_25 hK hP la_X3 0 1 (Nat.le_of_ble_eq_true rfl) fl_X3_15 rfl rfl rfl rfl ?_
  refine g_iconst 1 C 29 rfl dX3_add_28 ki_1 ?_
  refine g_iadd C 30 rfl dX3_add_29 ?_
  refine g_put (fs := fl3 a (p3_signs s (upd (x3_signs s) ((x3_count s) : Int32).toNatClampNeg x1))) (cs3 a Δ (p3_count (p3_signs s (upd (x3_signs s) ((x3_count s) : Int32).toNatClampNeg x1)) ((x3_count (p3_signs s (upd (x3_signs s) ((x3_count s) : Int32).toNatClampNeg x1))) + 1))) C 33 rfl dX3_add_30 hK hP hD hS la_X3 tyX3_ok nmX3 0 1 (Nat.le_of_ble_eq_true rfl) fl_X3_15 rfl rfl rfl rfl rfl rfl (Nat.le_of_ble_eq_true rfl) (sst_17 a Δ (p3_signs s (upd (x3_signs s) ((x3_count s) : Int32).toNatClampNeg x1)) ((x3_count (p3_signs s (upd (x3_signs s) ((x3_count s) : Int32).toNatClampNeg x1))) + 1)) (fun H L hP hD hS => ?_)
  exact w_void (ws := fun s => cs3 a Δ s) hR hq hP hS dX3_add_33 rfl
set_option maxHeartbeats 400000 in
set_option maxRecDepth 100000 in
theorem c_X3_at (l : Launch) (Δ : gD) (a : Nat → Nat) (x1 : Int32) (s : S3) {res : Int32} (hq : sem_X3_at x1 s = some res) : MR l yX3_at cX3_at 2 (some .int) Δ (cs3 a Δ s) [.ref (a 0), .int x1] 0 0 (.int res) := by
  refine MR.of (by decide) (Nat.le_of_ble_eq_true rfl) ?_
  intro Γ H hl C hK hP hR
  subst hl
  show g Γ { frames := 0, cells := 0, slots := 0, locals := 0 } 2 H [] 0 0 0 [(0, .ref (a 0)), (1, .int x1)] []
  refine g_iload_n C 1 rfl dX3_at_0 1 rfl ?_
  refine s_if_lt C 27 4 rfl dX3_at_1 (by decide) hq (fun hq => ?_) (fun hq => ?_)
  · refine g_iconst 0 C 28 rfl dX3_at_27 ki_0 ?_
    exact r_int hR hq dX3_at_28 rfl rfl
  refine g_iload_n C 5 rfl dX3_at_4 1 rfl ?_
  refine g_aload_n C 6 rfl dX3_at_5 0 rfl ?_
  refine g_get (v := .int (x3_count s)) (fs := fl3 a s) C 9 rfl dX3_at_6 hK hP la_X3 0 1 (Nat.le_of_ble_eq_true rfl) fl_X3_15 rfl rfl rfl rfl ?_
  refine s_icmp_ge C 27 12 rfl dX3_at_9 (by decide) hq (fun hq => ?_) (fun hq => ?_)
  · refine g_iconst 0 C 28 rfl dX3_at_27 ki_0 ?_
    exact r_int hR hq dX3_at_28 rfl rfl
  refine g_iload_n C 13 rfl dX3_at_12 1 rfl ?_
  refine g_bipush 60 C 15 rfl dX3_at_13 kb_60 ?_
  refine s_icmp_ge C 27 18 rfl dX3_at_15 (by decide) hq (fun hq => ?_) (fun hq => ?_)
  · refine g_iconst 0 C 28 rfl dX3_at_27 ki_0 ?_
    exact r_int hR hq dX3_at_28 rfl rfl
  refine g_aload_n C 19 rfl dX3_at_18 0 rfl ?_
  refine g_get (v := .ref (a 1)) (fs := fl3 a s) C 22 rfl dX3_at_19 hK hP la_X3 0 0 (Nat.le_of_ble_eq_true rfl) fl_X3_9 rfl rfl rfl rfl ?_
  refine g_iload_n C 23 rfl dX3_at_22 1 rfl ?_
  refine s_iald C 24 rfl dX3_at_23 hK hP 1 rfl hq (fun hq hi1 => ?_)
  refine g_goto C 28 dX3_at_24 (by decide) ?_
  exact r_int hR hq dX3_at_28 rfl rfl
set_option maxHeartbeats 400000 in
set_option maxRecDepth 100000 in
theorem c_X3_oneOf (l : Launch) (Δ : gD)  (x0 : Int32)  {res : Int32} (hq : sem_X3_oneOf x0  = some res) : MR l yX3_oneOf cX3_oneOf 1 (some .int) Δ ([]) [.int x0] 1 22 (.int res) := by
  refine MR.of (by decide) (Nat.le_of_ble_eq_true rfl) ?_
  intro Γ H hl C hK hP hR
  subst hl
  show g Γ { frames := 1, cells := 0, slots := 0, locals := 22 } 1 H [] 0 0 0 [(0, .int x0)] []
  refine g_iload_n C 1 rfl dX3_oneOf_0 0 rfl ?_
  refine g_bipush 65 C 3 rfl dX3_oneOf_1 kb_65 ?_
  refine g_bipush 70 C 5 rfl dX3_oneOf_3 kb_70 ?_
  obtain ⟨r1, hz2, hq⟩ := bindE hq
  refine g_callRS (rest := []) C 8 rfl dX3_oneOf_5 (c_X8_within Γ.2.1 Δ  x0 65 70  hz2) mv_X8_within (Or.inr ⟨_, mn_X3_19⟩) hK rfl rfl ⟨Nat.le_of_ble_eq_true rfl, Nat.le_of_ble_eq_true rfl⟩ (Nat.le_of_ble_eq_true rfl) ⟨Nat.zero_le _, Nat.zero_le _⟩ ?_
  refine s_if_eq C 18 11 rfl dX3_oneOf_8 (by decide) hq (fun hq => ?_) (fun hq => ?_)
  · refine g_bipush (-6) C 20 rfl dX3_oneOf_18 kb_m6 ?_
    exact r_int hR hq dX3_oneOf_20 rfl rfl
  refine g_iload_n C 12 rfl dX3_oneOf_11 0 rfl ?_
  refine g_bipush 65 C 14 rfl dX3_oneOf_12 kb_65 ?_
  refine g_isub C 15 rfl dX3_oneOf_14 ?_
  refine g_goto C 20 dX3_oneOf_15 (by decide) ?_
  exact r_int hR hq dX3_oneOf_20 rfl rfl
set_option maxHeartbeats 400000 in
set_option maxRecDepth 100000 in
theorem c_X3_causeOf (l : Launch) (Δ : gD)  (x0 : Int32)  {res : Int32} (hq : sem_X3_causeOf x0  = some res) : MR l yX3_causeOf cX3_causeOf 1 (some .int) Δ ([]) [.int x0] 0 0 (.int res) := by
  refine MR.of (by decide) (Nat.le_of_ble_eq_true rfl) ?_
  intro Γ H hl C hK hP hR
  subst hl
  show g Γ { frames := 0, cells := 0, slots := 0, locals := 0 } 1 H [] 0 0 0 [(0, .int x0)] []
  refine g_iload_n C 1 rfl dX3_causeOf_0 0 rfl ?_
  by_cases hc1 : x0 = 104
  · have hq := if_t hc1 hq
    refine g_lkp C 44 dX3_causeOf_1 (by decide) (off := 43) (by rw [hc1]; rfl) (by decide) ?_
    refine g_iconst 0 C 45 rfl dX3_causeOf_44 ki_0 ?_
    exact r_int hR hq dX3_causeOf_45 rfl rfl
  replace hq := if_f hc1 hq
  by_cases hc2 : x0 = 107
  · have hq := if_t hc2 hq
    refine g_lkp C 50 dX3_causeOf_1 (by decide) (off := 49) (by rw [hc2]; rfl) (by decide) ?_
    refine g_iconst 3 C 51 rfl dX3_causeOf_50 ki_3 ?_
    exact r_int hR hq dX3_causeOf_51 rfl rfl
  replace hq := if_f hc2 hq
  by_cases hc3 : x0 = 114
  · have hq := if_t hc3 hq
    refine g_lkp C 46 dX3_causeOf_1 (by decide) (off := 45) (by rw [hc3]; rfl) (by decide) ?_
    refine g_iconst 1 C 47 rfl dX3_causeOf_46 ki_1 ?_
    exact r_int hR hq dX3_causeOf_47 rfl rfl
  replace hq := if_f hc3 hq
  by_cases hc4 : x0 = 116
  · have hq := if_t hc4 hq
    refine g_lkp C 48 dX3_causeOf_1 (by decide) (off := 47) (by rw [hc4]; rfl) (by decide) ?_
    refine g_iconst 2 C 49 rfl dX3_causeOf_48 ki_2 ?_
    exact r_int hR hq dX3_causeOf_49 rfl rfl
  replace hq := if_f hc4 hq
  refine g_lkp C 52 dX3_causeOf_1 (by decide) (off := 51) ((lv_osw hc1 (by decide)).trans ((lv_osw hc2 (by decide)).trans ((lv_osw hc3 (by decide)).trans ((lv_osw hc4 (by decide)).trans (rfl))))) (by decide) ?_
  refine g_bipush (-6) C 54 rfl dX3_causeOf_52 kb_m6 ?_
  exact r_int hR hq dX3_causeOf_54 rfl rfl
set_option maxHeartbeats 400000 in
set_option maxRecDepth 100000 in
theorem c_X3_canStand (l : Launch) (Δ : gD) (a : Nat → Nat) (x1 : Int32) (x2 : Int32) (s : S3) {res : Int32} (hq : sem_X3_canStand x1 x2 s = some res) : MR l yX3_canStand cX3_canStand 4 (some .boolean) Δ (cs3 a Δ s) [.ref (a 0), .int x1, .int x2] 2 42 (.int res) := by
  refine MR.of (by decide) (Nat.le_of_ble_eq_true rfl) ?_
  intro Γ H hl C hK hP hR
  subst hl
  show g Γ { frames := 2, cells := 0, slots := 0, locals := 42 } 4 H [] 0 0 0 [(0, .ref (a 0)), (1, .int x1), (2, .int x2)] []
  refine g_aload_n C 1 rfl dX3_canStand_0 0 rfl ?_
  refine g_iload_n C 2 rfl dX3_canStand_1 2 rfl ?_
  obtain ⟨r1, hz2, hq⟩ := bindE hq
  refine g_callRV (rest := []) C 5 rfl dX3_canStand_2 (c_X3_at Γ.2.1 Δ a x2 s hz2) mv_X3_at ml_X3_31 hK hP rfl rfl rfl rfl rfl ⟨Nat.le_of_ble_eq_true rfl, Nat.le_of_ble_eq_true rfl⟩ (Nat.le_of_ble_eq_true rfl) ⟨Nat.zero_le _, Nat.zero_le _⟩ ?_
  refine g_istore_n [(3, .int r1), (0, .ref (a 0)), (1, .int x1), (2, .int x2)] C 6 rfl dX3_canStand_5 (Nat.le_of_ble_eq_true rfl) rfl ?_
  refine g_iload_n C 7 rfl dX3_canStand_6 3 rfl ?_
  refine g_iload_n C 8 rfl dX3_canStand_7 2 rfl ?_
  refine g_isub C 9 rfl dX3_canStand_8 ?_
  by_cases hc5 : (x2 - x1) = 0
  · have hq := if_t hc5 hq
    refine g_tblIn C 36 dX3_canStand_9 (by rw [hc5]; decide) (by rw [hc5]; decide) (off := 27) (by rw [hc5]; rfl) (by decide) ?_
    refine g_iload_n C 37 rfl dX3_canStand_36 0 rfl ?_
    refine g_bipush 46 C 39 rfl dX3_canStand_37 kb_46 ?_
    refine s_icmp_eq C 51 42 rfl dX3_canStand_39 (by decide) hq (fun hq => ?_) (fun hq => ?_)
    · refine g_iconst 1 C 52 rfl dX3_canStand_51 ki_1 ?_
      refine g_goto C 56 dX3_canStand_52 (by decide) ?_
      exact r_int hR hq dX3_canStand_56 rfl rfl
    refine g_iload_n C 43 rfl dX3_canStand_42 0 rfl ?_
    obtain ⟨r3, hz4, hq⟩ := bindE hq
    refine g_callRS (rest := []) C 46 rfl dX3_canStand_43 (c_X3_oneOf Γ.2.1 Δ  r1  hz4) mv_X3_oneOf (Or.inl ml_X3_34) hK rfl rfl ⟨Nat.le_of_ble_eq_true rfl, Nat.le_of_ble_eq_true rfl⟩ (Nat.le_of_ble_eq_true rfl) ⟨Nat.zero_le _, Nat.zero_le _⟩ ?_
    refine g_bipush (-6) C 48 rfl dX3_canStand_46 kb_m6 ?_
    refine s_icmp_eq C 55 51 rfl dX3_canStand_48 (by decide) hq (fun hq => ?_) (fun hq => ?_)
    · refine g_iconst 0 C 56 rfl dX3_canStand_55 ki_0 ?_
      exact r_int hR hq dX3_canStand_56 rfl rfl
    refine g_iconst 1 C 52 rfl dX3_canStand_51 ki_1 ?_
    refine g_goto C 56 dX3_canStand_52 (by decide) ?_
    exact r_int hR hq dX3_canStand_56 rfl rfl
  replace hq := if_f hc5 hq
  by_cases hc8 : (x2 - x1) = 1
  · have hq := if_t hc8 hq
    refine g_tblIn C 57 dX3_canStand_9 (by rw [hc8]; decide) (by rw [hc8]; decide) (off := 48) (by rw [hc8]; rfl) (by decide) ?_
    refine g_iload_n C 58 rfl dX3_canStand_57 0 rfl ?_
    refine g_bipush 33 C 60 rfl dX3_canStand_58 kb_33 ?_
    refine s_icmp_eq C 84 63 rfl dX3_canStand_60 (by decide) hq (fun hq => ?_) (fun hq => ?_)
    · refine g_iconst 1 C 85 rfl dX3_canStand_84 ki_1 ?_
      refine g_goto C 89 dX3_canStand_85 (by decide) ?_
      exact r_int hR hq dX3_canStand_89 rfl rfl
    refine g_iload_n C 64 rfl dX3_canStand_63 0 rfl ?_
    refine g_bipush 62 C 66 rfl dX3_canStand_64 kb_62 ?_
    refine s_icmp_eq C 84 69 rfl dX3_canStand_66 (by decide) hq (fun hq => ?_) (fun hq => ?_)
    · refine g_iconst 1 C 85 rfl dX3_canStand_84 ki_1 ?_
      refine g_goto C 89 dX3_canStand_85 (by decide) ?_
      exact r_int hR hq dX3_canStand_89 rfl rfl
    refine g_iload_n C 70 rfl dX3_canStand_69 0 rfl ?_
    refine g_bipush 64 C 72 rfl dX3_canStand_70 kb_64 ?_
    refine s_icmp_eq C 84 75 rfl dX3_canStand_72 (by decide) hq (fun hq => ?_) (fun hq => ?_)
    · refine g_iconst 1 C 85 rfl dX3_canStand_84 ki_1 ?_
      refine g_goto C 89 dX3_canStand_85 (by decide) ?_
      exact r_int hR hq dX3_canStand_89 rfl rfl
    refine g_iload_n C 76 rfl dX3_canStand_75 0 rfl ?_
    obtain ⟨r6, hz7, hq⟩ := bindE hq
    refine g_callRS (rest := []) C 79 rfl dX3_canStand_76 (c_X3_causeOf Γ.2.1 Δ  r1  hz7) mv_X3_causeOf (Or.inl ml_X3_37) hK rfl rfl ⟨Nat.le_of_ble_eq_true rfl, Nat.le_of_ble_eq_true rfl⟩ (Nat.le_of_ble_eq_true rfl) ⟨Nat.zero_le _, Nat.zero_le _⟩ ?_
    refine g_bipush (-6) C 81 rfl dX3_canStand_79 kb_m6 ?_
    refine s_icmp_eq C 88 84 rfl dX3_canStand_81 (by decide) hq (fun hq => ?_) (fun hq => ?_)
    · refine g_iconst 0 C 89 rfl dX3_canStand_88 ki_0 ?_
      exact r_int hR hq dX3_canStand_89 rfl rfl
    refine g_iconst 1 C 85 rfl dX3_canStand_84 ki_1 ?_
    refine g_goto C 89 dX3_canStand_85 (by decide) ?_
    exact r_int hR hq dX3_canStand_89 rfl rfl
  replace hq := if_f hc8 hq
  by_cases hc17 : (x2 - x1) = 2
  · have hq := if_t hc17 hq
    refine g_tblIn C 90 dX3_canStand_9 (by rw [hc17]; decide) (by rw [hc17]; decide) (off := 81) (by rw [hc17]; rfl) (by decide) ?_
    refine g_iload_n C 91 rfl dX3_canStand_90 0 rfl ?_
    refine g_aload_n C 92 rfl dX3_canStand_91 1 rfl ?_
    refine g_iload_n C 93 rfl dX3_canStand_92 2 rfl ?_
    refine g_iconst 1 C 94 rfl dX3_canStand_93 ki_1 ?_
    refine g_iadd C 95 rfl dX3_canStand_94 ?_
    obtain ⟨r9, hz10, hq⟩ := bindE hq
    refine g_callRV (rest := [.int r1]) C 98 rfl dX3_canStand_95 (c_X3_at Γ.2.1 Δ a (x1 + 1) s hz10) mv_X3_at ml_X3_31 hK hP rfl rfl rfl rfl rfl ⟨Nat.le_of_ble_eq_true rfl, Nat.le_of_ble_eq_true rfl⟩ (Nat.le_of_ble_eq_true rfl) ⟨Nat.zero_le _, Nat.zero_le _⟩ ?_
    refine g_bipush 64 C 100 rfl dX3_canStand_98 kb_64 ?_
    refine s_icmp_ne C 108 103 rfl dX3_canStand_100 (by decide) hq (fun hq => ?_) (fun hq => ?_)
    · refine g_bipush 49 C 110 rfl dX3_canStand_108 kb_49 ?_
      refine g_bipush 57 C 112 rfl dX3_canStand_110 kb_57 ?_
      obtain ⟨r11, hz12, hq⟩ := bindE hq
      refine g_callRS (rest := []) C 115 rfl dX3_canStand_112 (c_X8_within Γ.2.1 Δ  r1 49 57  hz12) mv_X8_within (Or.inr ⟨_, mn_X3_19⟩) hK rfl rfl ⟨Nat.le_of_ble_eq_true rfl, Nat.le_of_ble_eq_true rfl⟩ (Nat.le_of_ble_eq_true rfl) ⟨Nat.zero_le _, Nat.zero_le _⟩ ?_
      obtain ⟨hb13, hq⟩ := bz_some hq
      exact r_int hR hq dX3_canStand_115 rfl (narrow_z hb13)
    refine g_bipush 48 C 105 rfl dX3_canStand_103 kb_48 ?_
    refine g_goto C 110 dX3_canStand_105 (by decide) ?_
    refine g_bipush 57 C 112 rfl dX3_canStand_110 kb_57 ?_
    obtain ⟨r14, hz15, hq⟩ := bindE hq
    refine g_callRS (rest := []) C 115 rfl dX3_canStand_112 (c_X8_within Γ.2.1 Δ  r1 48 57  hz15) mv_X8_within (Or.inr ⟨_, mn_X3_19⟩) hK rfl rfl ⟨Nat.le_of_ble_eq_true rfl, Nat.le_of_ble_eq_true rfl⟩ (Nat.le_of_ble_eq_true rfl) ⟨Nat.zero_le _, Nat.zero_le _⟩ ?_
    obtain ⟨hb16, hq⟩ := bz_some hq
    exact r_int hR hq dX3_canStand_115 rfl (narrow_z hb16)
  replace hq := if_f hc17 hq
  refine g_tblOut C 116 dX3_canStand_9 (by have nhc5 := lv_neT (a := 0) hc5 (by decide); have nhc8 := lv_neT (a := 1) hc8 (by decide); have nhc17 := lv_neT (a := 2) hc17 (by decide); omega) (by decide) ?_
  refine g_iload_n C 117 rfl dX3_canStand_116 0 rfl ?_
  obtain ⟨r18, hz19, hq⟩ := bindE hq
  refine g_callRS (rest := []) C 120 rfl dX3_canStand_117 (c_X3_oneOf Γ.2.1 Δ  r1  hz19) mv_X3_oneOf (Or.inl ml_X3_34) hK rfl rfl ⟨Nat.le_of_ble_eq_true rfl, Nat.le_of_ble_eq_true rfl⟩ (Nat.le_of_ble_eq_true rfl) ⟨Nat.zero_le _, Nat.zero_le _⟩ ?_
  refine g_bipush (-6) C 122 rfl dX3_canStand_120 kb_m6 ?_
  refine s_icmp_eq C 129 125 rfl dX3_canStand_122 (by decide) hq (fun hq => ?_) (fun hq => ?_)
  · refine g_iconst 0 C 130 rfl dX3_canStand_129 ki_0 ?_
    exact r_int hR hq dX3_canStand_130 rfl rfl
  refine g_iconst 1 C 126 rfl dX3_canStand_125 ki_1 ?_
  refine g_goto C 130 dX3_canStand_126 (by decide) ?_
  exact r_int hR hq dX3_canStand_130 rfl rfl
set_option maxHeartbeats 400000 in
set_option maxRecDepth 100000 in
theorem c_X3_lengthAt (l : Launch) (Δ : gD) (a : Nat → Nat) (x1 : Int32) (s : S3) {res : Int32} (hq : sem_X3_lengthAt x1 s = some res) : MR l yX3_lengthAt cX3_lengthAt 2 (some .int) Δ (cs3 a Δ s) [.ref (a 0), .int x1] 1 21 (.int res) := by
  refine MR.of (by decide) (Nat.le_of_ble_eq_true rfl) ?_
  intro Γ H hl C hK hP hR
  subst hl
  show g Γ { frames := 1, cells := 0, slots := 0, locals := 21 } 2 H [] 0 0 0 [(0, .ref (a 0)), (1, .int x1)] []
  refine g_aload_n C 1 rfl dX3_lengthAt_0 0 rfl ?_
  refine g_iload_n C 2 rfl dX3_lengthAt_1 1 rfl ?_
  obtain ⟨r1, hz2, hq⟩ := bindE hq
  refine g_callRV (rest := []) C 5 rfl dX3_lengthAt_2 (c_X3_at Γ.2.1 Δ a x1 s hz2) mv_X3_at ml_X3_31 hK hP rfl rfl rfl rfl rfl ⟨Nat.le_of_ble_eq_true rfl, Nat.le_of_ble_eq_true rfl⟩ (Nat.le_of_ble_eq_true rfl) ⟨Nat.zero_le _, Nat.zero_le _⟩ ?_
  refine g_bipush 46 C 7 rfl dX3_lengthAt_5 kb_46 ?_
  refine s_icmp_ne C 12 10 rfl dX3_lengthAt_7 (by decide) hq (fun hq => ?_) (fun hq => ?_)
  rotate_left
  · refine g_iconst 1 C 11 rfl dX3_lengthAt_10 ki_1 ?_
    exact r_int hR hq dX3_lengthAt_11 rfl rfl
  refine g_aload_n C 13 rfl dX3_lengthAt_12 0 rfl ?_
  refine g_iload_n C 14 rfl dX3_lengthAt_13 1 rfl ?_
  refine g_iconst 1 C 15 rfl dX3_lengthAt_14 ki_1 ?_
  refine g_iadd C 16 rfl dX3_lengthAt_15 ?_
  obtain ⟨r3, hz4, hq⟩ := bindE hq
  refine g_callRV (rest := []) C 19 rfl dX3_lengthAt_16 (c_X3_at Γ.2.1 Δ a (x1 + 1) s hz4) mv_X3_at ml_X3_31 hK hP rfl rfl rfl rfl rfl ⟨Nat.le_of_ble_eq_true rfl, Nat.le_of_ble_eq_true rfl⟩ (Nat.le_of_ble_eq_true rfl) ⟨Nat.zero_le _, Nat.zero_le _⟩ ?_
  refine g_bipush 62 C 21 rfl dX3_lengthAt_19 kb_62 ?_
  refine s_icmp_ne C 28 24 rfl dX3_lengthAt_21 (by decide) hq (fun hq => ?_) (fun hq => ?_)
  · refine g_iconst 3 C 29 rfl dX3_lengthAt_28 ki_3 ?_
    exact r_int hR hq dX3_lengthAt_29 rfl rfl
  refine g_iconst 4 C 25 rfl dX3_lengthAt_24 ki_4 ?_
  refine g_goto C 29 dX3_lengthAt_25 (by decide) ?_
  exact r_int hR hq dX3_lengthAt_29 rfl rfl
set_option maxHeartbeats 400000 in
set_option maxRecDepth 100000 in
theorem c_X3_firstFault (l : Launch) (Δ : gD) (a : Nat → Nat)  (s : S3) {res : Int32} (hq : sem_X3_firstFault  s = some res) : MR l yX3_firstFault cX3_firstFault 3 (some .int) Δ (cs3 a Δ s) [.ref (a 0)] 3 65 (.int res) := by
  refine MR.of (by decide) (Nat.le_of_ble_eq_true rfl) ?_
  intro Γ H hl C hK hP hR
  subst hl
  show g Γ { frames := 3, cells := 0, slots := 0, locals := 65 } 3 H [] 0 0 0 [(0, .ref (a 0))] []
  refine g_iconst 0 C 1 rfl dX3_firstFault_0 ki_0 ?_
  refine g_istore_n [(1, .int 0), (0, .ref (a 0))] C 2 rfl dX3_firstFault_1 (Nat.le_of_ble_eq_true rfl) rfl ?_
  refine g_iconst 0 C 3 rfl dX3_firstFault_2 ki_0 ?_
  refine g_istore_n [(2, .int 0), (1, .int 0), (0, .ref (a 0))] C 4 rfl dX3_firstFault_3 (Nat.le_of_ble_eq_true rfl) rfl ?_
  have Q4 : ∀ (n : Nat) (x1 : Int32) (x2 : Int32) (o : ((Int32) ⊕ (Int32))) (hq : lp_X3_firstFault_4 s n x1 x2 = some o) (E1 : ∀ r, o = .inl r → gRet Γ { frames := 3, cells := 0, slots := 0, locals := 65 } 3 cX3_firstFault (some .int) H (.int r)) (E2 : ∀ x, o = .inr x → g Γ { frames := 3, cells := 0, slots := 0, locals := 65 } 3 H [] 0 0 46 [(0, .ref (a 0)), (1, .int x)] []), g Γ { frames := 3, cells := 0, slots := 0, locals := 65 } 3 H [] 0 0 4 [(0, .ref (a 0)), (1, .int x1), (2, .int x2)] [] := by
    intro n
    induction n with
    | zero => intro x1 x2 o hq; exact nomatch (show (none : Option ((Int32) ⊕ (Int32))) = some o from hq)
    | succ n ih =>
      intro x1 x2 o hq E1 E2
      have hq : bd_X3_firstFault_4 s (lp_X3_firstFault_4 s n) x1 x2 = some o := hq
      refine g_iload_n C 5 rfl dX3_firstFault_4 2 rfl ?_
      refine g_aload_n C 6 rfl dX3_firstFault_5 0 rfl ?_
      refine g_get (v := .int (x3_count s)) (fs := fl3 a s) C 9 rfl dX3_firstFault_6 hK hP la_X3 0 1 (Nat.le_of_ble_eq_true rfl) fl_X3_15 rfl rfl rfl rfl ?_
      refine s_icmp_ge C 46 12 rfl dX3_firstFault_9 (by decide) hq (fun hq => ?_) (fun hq => ?_)
      · cases hq
        exact g_sub [0, 1] rfl (E2 _ rfl )
      refine g_aload_n C 13 rfl dX3_firstFault_12 0 rfl ?_
      refine g_iload_n C 14 rfl dX3_firstFault_13 1 rfl ?_
      refine g_iload_n C 15 rfl dX3_firstFault_14 2 rfl ?_
      obtain ⟨r1, hz2, hq⟩ := bindE hq
      refine g_callRV (rest := []) C 18 rfl dX3_firstFault_15 (c_X3_canStand Γ.2.1 Δ a x1 x2 s hz2) mv_X3_canStand ml_X3_23 hK hP rfl rfl rfl rfl rfl ⟨Nat.le_of_ble_eq_true rfl, Nat.le_of_ble_eq_true rfl⟩ (Nat.le_of_ble_eq_true rfl) ⟨Nat.zero_le _, Nat.zero_le _⟩ ?_
      refine s_if_ne C 23 21 rfl dX3_firstFault_18 (by decide) hq (fun hq => ?_) (fun hq => ?_)
      rotate_left
      · refine g_iload_n C 22 rfl dX3_firstFault_21 2 rfl ?_
        cases hq
        exact r_int (E1 _ rfl) rfl dX3_firstFault_22 rfl rfl
      refine g_iload_n C 24 rfl dX3_firstFault_23 2 rfl ?_
      refine g_iload_n C 25 rfl dX3_firstFault_24 1 rfl ?_
      refine g_isub C 26 rfl dX3_firstFault_25 ?_
      refine g_iconst 1 C 27 rfl dX3_firstFault_26 ki_1 ?_
      refine g_iadd C 28 rfl dX3_firstFault_27 ?_
      refine g_aload_n C 29 rfl dX3_firstFault_28 0 rfl ?_
      refine g_iload_n C 30 rfl dX3_firstFault_29 1 rfl ?_
      obtain ⟨r3, hz4, hq⟩ := bindE hq
      refine g_callRV (rest := [.int ((x2 - x1) + 1)]) C 33 rfl dX3_firstFault_30 (c_X3_lengthAt Γ.2.1 Δ a x1 s hz4) mv_X3_lengthAt ml_X3_27 hK hP rfl rfl rfl rfl rfl ⟨Nat.le_of_ble_eq_true rfl, Nat.le_of_ble_eq_true rfl⟩ (Nat.le_of_ble_eq_true rfl) ⟨Nat.zero_le _, Nat.zero_le _⟩ ?_
      refine s_icmp_ne C 40 36 rfl dX3_firstFault_33 (by decide) hq (fun hq => ?_) (fun hq => ?_)
      · refine g_iinc (x2 + 1) [(2, .int (x2 + 1)), (0, .ref (a 0)), (1, .int x1)] C 43 rfl dX3_firstFault_40 2 rfl (ii_1 _) (Nat.le_of_ble_eq_true rfl) rfl ?_
        refine g_goto C 4 dX3_firstFault_43 (by decide) ?_
        exact g_sub [1, 2, 0] rfl (ih x1 (x2 + 1) _ hq E1 E2)
      refine g_iload_n C 37 rfl dX3_firstFault_36 2 rfl ?_
      refine g_iconst 1 C 38 rfl dX3_firstFault_37 ki_1 ?_
      refine g_iadd C 39 rfl dX3_firstFault_38 ?_
      refine g_istore_n [(1, .int (x2 + 1)), (0, .ref (a 0)), (2, .int x2)] C 40 rfl dX3_firstFault_39 (Nat.le_of_ble_eq_true rfl) rfl ?_
      refine g_iinc (x2 + 1) [(2, .int (x2 + 1)), (1, .int (x2 + 1)), (0, .ref (a 0))] C 43 rfl dX3_firstFault_40 2 rfl (ii_1 _) (Nat.le_of_ble_eq_true rfl) rfl ?_
      refine g_goto C 4 dX3_firstFault_43 (by decide) ?_
      exact g_sub [2, 1, 0] rfl (ih (x2 + 1) (x2 + 1) _ hq E1 E2)
  obtain ⟨o5, ho6, hq⟩ := bindE hq
  refine g_sub [2, 1, 0] rfl (Q4  FUEL 0 0 o5 ho6 (fun r er => ?_) (fun xo5 er => ?_))
  · rw [er] at hq
    cases hq
    exact hR
  rw [er] at hq
  clear er
  refine g_iload_n C 47 rfl dX3_firstFault_46 1 rfl ?_
  refine g_aload_n C 48 rfl dX3_firstFault_47 0 rfl ?_
  refine g_get (v := .int (x3_count s)) (fs := fl3 a s) C 51 rfl dX3_firstFault_48 hK hP la_X3 0 1 (Nat.le_of_ble_eq_true rfl) fl_X3_15 rfl rfl rfl rfl ?_
  refine s_icmp_ge C 61 54 rfl dX3_firstFault_51 (by decide) hq (fun hq => ?_) (fun hq => ?_)
  · refine g_bipush (-6) C 63 rfl dX3_firstFault_61 kb_m6 ?_
    exact r_int hR hq dX3_firstFault_63 rfl rfl
  refine g_aload_n C 55 rfl dX3_firstFault_54 0 rfl ?_
  refine g_get (v := .int (x3_count s)) (fs := fl3 a s) C 58 rfl dX3_firstFault_55 hK hP la_X3 0 1 (Nat.le_of_ble_eq_true rfl) fl_X3_15 rfl rfl rfl rfl ?_
  refine g_goto C 63 dX3_firstFault_58 (by decide) ?_
  exact r_int hR hq dX3_firstFault_63 rfl rfl
set_option maxHeartbeats 400000 in
set_option maxRecDepth 100000 in
theorem c_X6_takeFrom (l : Launch) (Δ : gD) (a : Nat → Nat) (b : Nat → Nat)  (s : S6) (t : S6) {res : S6} (hq : sem_X6_takeFrom  s t = some res) : MW l yX6_takeFrom cX6_takeFrom 2 none Δ (cs6 a Δ s ++ cs6 b Δ t) [.ref (a 0), .ref (b 0)] 1 26 none (cs6 a Δ res ++ cs6 b Δ t) := by
  refine MW.of (by decide) (Nat.le_of_ble_eq_true rfl) ?_
  intro Γ A H hl C hK hP hD hS hA hR
  subst hl
  show g Γ { frames := 1, cells := 0, slots := 0, locals := 26 } 2 H [] 0 0 0 [(0, .ref (a 0)), (1, .ref (b 0))] []
  refine g_aload_n C 1 rfl dX6_takeFrom_0 1 rfl ?_
  refine g_get (v := .ref (b 1)) (fs := fl6 b t) C 4 rfl dX6_takeFrom_1 hK hP la_X6 3 0 (Nat.le_of_ble_eq_true rfl) fl_X6_9 rfl rfl rfl rfl ?_
  refine g_iconst 0 C 5 rfl dX6_takeFrom_4 ki_0 ?_
  refine g_aload_n C 6 rfl dX6_takeFrom_5 0 rfl ?_
  refine g_get (v := .ref (a 1)) (fs := fl6 a s) C 9 rfl dX6_takeFrom_6 hK hP la_X6 0 0 (Nat.le_of_ble_eq_true rfl) fl_X6_9 rfl rfl rfl rfl ?_
  refine g_iconst 0 C 10 rfl dX6_takeFrom_9 ki_0 ?_
  refine g_bipush 36 C 12 rfl dX6_takeFrom_10 kb_36 ?_
  refine g_acpI (cs6 a Δ (p6_facts s (va_cpy (x6_facts t) (x6_facts s) 0 0 36)) ++ cs6 b Δ t) 36 C 15 rfl dX6_takeFrom_12 ml_X6_34 sys_copy hK hP hD hS 4 1 rfl rfl (by decide) (by decide) (by decide) (by decide) ⟨Nat.le_of_ble_eq_true rfl, Nat.le_of_ble_eq_true rfl⟩ (sst_28 a b Δ s t (va_cpy (x6_facts t) (x6_facts s) 0 0 36)) (fun H L hP hD hS => ?_)
  refine g_aload_n C 16 rfl dX6_takeFrom_15 1 rfl ?_
  refine g_get (v := .ref (b 2)) (fs := fl6 b t) C 19 rfl dX6_takeFrom_16 hK hP la_X6 3 1 (Nat.le_of_ble_eq_true rfl) fl_X6_15 rfl rfl rfl rfl ?_
  refine g_iconst 0 C 20 rfl dX6_takeFrom_19 ki_0 ?_
  refine g_aload_n C 21 rfl dX6_takeFrom_20 0 rfl ?_
  refine g_get (v := .ref (a 2)) (fs := fl6 a (p6_facts s (va_cpy (x6_facts t) (x6_facts s) 0 0 36))) C 24 rfl dX6_takeFrom_21 hK hP la_X6 0 1 (Nat.le_of_ble_eq_true rfl) fl_X6_15 rfl rfl rfl rfl ?_
  refine g_iconst 0 C 25 rfl dX6_takeFrom_24 ki_0 ?_
  refine g_bipush 8 C 27 rfl dX6_takeFrom_25 kb_8 ?_
  refine g_acpI (cs6 a Δ (p6_asked (p6_facts s (va_cpy (x6_facts t) (x6_facts s) 0 0 36)) (va_cpy (x6_asked t) (x6_asked (p6_facts s (va_cpy (x6_facts t) (x6_facts s) 0 0 36))) 0 0 8)) ++ cs6 b Δ t) 8 C 30 rfl dX6_takeFrom_27 ml_X6_34 sys_copy hK hP hD hS 5 2 rfl rfl (by decide) (by decide) (by decide) (by decide) ⟨Nat.le_of_ble_eq_true rfl, Nat.le_of_ble_eq_true rfl⟩ (sst_29 a b Δ (p6_facts s (va_cpy (x6_facts t) (x6_facts s) 0 0 36)) t (va_cpy (x6_asked t) (x6_asked (p6_facts s (va_cpy (x6_facts t) (x6_facts s) 0 0 36))) 0 0 8)) (fun H L hP hD hS => ?_)
  refine g_aload_n C 31 rfl dX6_takeFrom_30 0 rfl ?_
  refine g_aload_n C 32 rfl dX6_takeFrom_31 1 rfl ?_
  refine g_get (v := .int (x6_there t)) (fs := fl6 b t) C 35 rfl dX6_takeFrom_32 hK hP la_X6 3 2 (Nat.le_of_ble_eq_true rfl) fl_X6_18 rfl rfl rfl rfl ?_
  refine g_put (fs := fl6 a (p6_asked (p6_facts s (va_cpy (x6_facts t) (x6_facts s) 0 0 36)) (va_cpy (x6_asked t) (x6_asked (p6_facts s (va_cpy (x6_facts t) (x6_facts s) 0 0 36))) 0 0 8))) (cs6 a Δ (p6_there (p6_asked (p6_facts s (va_cpy (x6_facts t) (x6_facts s) 0 0 36)) (va_cpy (x6_asked t) (x6_asked (p6_facts s (va_cpy (x6_facts t) (x6_facts s) 0 0 36))) 0 0 8)) (x6_there t)) ++ cs6 b Δ t) C 38 rfl dX6_takeFrom_35 hK hP hD hS la_X6 tyX6_ok nmX6 0 2 (Nat.le_of_ble_eq_true rfl) fl_X6_18 rfl rfl rfl rfl rfl rfl (Nat.le_of_ble_eq_true rfl) (sst_30 a b Δ (p6_asked (p6_facts s (va_cpy (x6_facts t) (x6_facts s) 0 0 36)) (va_cpy (x6_asked t) (x6_asked (p6_facts s (va_cpy (x6_facts t) (x6_facts s) 0 0 36))) 0 0 8)) t (x6_there t)) (fun H L hP hD hS => ?_)
  refine g_aload_n C 39 rfl dX6_takeFrom_38 0 rfl ?_
  refine g_aload_n C 40 rfl dX6_takeFrom_39 1 rfl ?_
  refine g_get (v := .int (x6_limit t)) (fs := fl6 b t) C 43 rfl dX6_takeFrom_40 hK hP la_X6 3 3 (Nat.le_of_ble_eq_true rfl) fl_X6_22 rfl rfl rfl rfl ?_
  refine g_put (fs := fl6 a (p6_there (p6_asked (p6_facts s (va_cpy (x6_facts t) (x6_facts s) 0 0 36)) (va_cpy (x6_asked t) (x6_asked (p6_facts s (va_cpy (x6_facts t) (x6_facts s) 0 0 36))) 0 0 8)) (x6_there t))) (cs6 a Δ (p6_limit (p6_there (p6_asked (p6_facts s (va_cpy (x6_facts t) (x6_facts s) 0 0 36)) (va_cpy (x6_asked t) (x6_asked (p6_facts s (va_cpy (x6_facts t) (x6_facts s) 0 0 36))) 0 0 8)) (x6_there t)) (x6_limit t)) ++ cs6 b Δ t) C 46 rfl dX6_takeFrom_43 hK hP hD hS la_X6 tyX6_ok nmX6 0 3 (Nat.le_of_ble_eq_true rfl) fl_X6_22 rfl rfl rfl rfl rfl rfl (Nat.le_of_ble_eq_true rfl) (sst_31 a b Δ (p6_there (p6_asked (p6_facts s (va_cpy (x6_facts t) (x6_facts s) 0 0 36)) (va_cpy (x6_asked t) (x6_asked (p6_facts s (va_cpy (x6_facts t) (x6_facts s) 0 0 36))) 0 0 8)) (x6_there t)) t (x6_limit t)) (fun H L hP hD hS => ?_)
  refine g_aload_n C 47 rfl dX6_takeFrom_46 0 rfl ?_
  refine g_aload_n C 48 rfl dX6_takeFrom_47 1 rfl ?_
  refine g_get (v := .int (x6_ears t)) (fs := fl6 b t) C 51 rfl dX6_takeFrom_48 hK hP la_X6 3 4 (Nat.le_of_ble_eq_true rfl) fl_X6_25 rfl rfl rfl rfl ?_
  refine g_put (fs := fl6 a (p6_limit (p6_there (p6_asked (p6_facts s (va_cpy (x6_facts t) (x6_facts s) 0 0 36)) (va_cpy (x6_asked t) (x6_asked (p6_facts s (va_cpy (x6_facts t) (x6_facts s) 0 0 36))) 0 0 8)) (x6_there t)) (x6_limit t))) (cs6 a Δ (p6_ears (p6_limit (p6_there (p6_asked (p6_facts s (va_cpy (x6_facts t) (x6_facts s) 0 0 36)) (va_cpy (x6_asked t) (x6_asked (p6_facts s (va_cpy (x6_facts t) (x6_facts s) 0 0 36))) 0 0 8)) (x6_there t)) (x6_limit t)) (x6_ears t)) ++ cs6 b Δ t) C 54 rfl dX6_takeFrom_51 hK hP hD hS la_X6 tyX6_ok nmX6 0 4 (Nat.le_of_ble_eq_true rfl) fl_X6_25 rfl rfl rfl rfl rfl rfl (Nat.le_of_ble_eq_true rfl) (sst_32 a b Δ (p6_limit (p6_there (p6_asked (p6_facts s (va_cpy (x6_facts t) (x6_facts s) 0 0 36)) (va_cpy (x6_asked t) (x6_asked (p6_facts s (va_cpy (x6_facts t) (x6_facts s) 0 0 36))) 0 0 8)) (x6_there t)) (x6_limit t)) t (x6_ears t)) (fun H L hP hD hS => ?_)
  refine g_aload_n C 55 rfl dX6_takeFrom_54 0 rfl ?_
  refine g_aload_n C 56 rfl dX6_takeFrom_55 1 rfl ?_
  refine g_get (v := .int (x6_sights t)) (fs := fl6 b t) C 59 rfl dX6_takeFrom_56 hK hP la_X6 3 5 (Nat.le_of_ble_eq_true rfl) fl_X6_28 rfl rfl rfl rfl ?_
  refine g_put (fs := fl6 a (p6_ears (p6_limit (p6_there (p6_asked (p6_facts s (va_cpy (x6_facts t) (x6_facts s) 0 0 36)) (va_cpy (x6_asked t) (x6_asked (p6_facts s (va_cpy (x6_facts t) (x6_facts s) 0 0 36))) 0 0 8)) (x6_there t)) (x6_limit t)) (x6_ears t))) (cs6 a Δ (p6_sights (p6_ears (p6_limit (p6_there (p6_asked (p6_facts s (va_cpy (x6_facts t) (x6_facts s) 0 0 36)) (va_cpy (x6_asked t) (x6_asked (p6_facts s (va_cpy (x6_facts t) (x6_facts s) 0 0 36))) 0 0 8)) (x6_there t)) (x6_limit t)) (x6_ears t)) (x6_sights t)) ++ cs6 b Δ t) C 62 rfl dX6_takeFrom_59 hK hP hD hS la_X6 tyX6_ok nmX6 0 5 (Nat.le_of_ble_eq_true rfl) fl_X6_28 rfl rfl rfl rfl rfl rfl (Nat.le_of_ble_eq_true rfl) (sst_33 a b Δ (p6_ears (p6_limit (p6_there (p6_asked (p6_facts s (va_cpy (x6_facts t) (x6_facts s) 0 0 36)) (va_cpy (x6_asked t) (x6_asked (p6_facts s (va_cpy (x6_facts t) (x6_facts s) 0 0 36))) 0 0 8)) (x6_there t)) (x6_limit t)) (x6_ears t)) t (x6_sights t)) (fun H L hP hD hS => ?_)
  refine g_aload_n C 63 rfl dX6_takeFrom_62 0 rfl ?_
  refine g_aload_n C 64 rfl dX6_takeFrom_63 1 rfl ?_
  refine g_get (v := .int (x6_heardBits t)) (fs := fl6 b t) C 67 rfl dX6_takeFrom_64 hK hP la_X6 3 6 (Nat.le_of_ble_eq_true rfl) fl_X6_31 rfl rfl rfl rfl ?_
  refine g_put (fs := fl6 a (p6_sights (p6_ears (p6_limit (p6_there (p6_asked (p6_facts s (va_cpy (x6_facts t) (x6_facts s) 0 0 36)) (va_cpy (x6_asked t) (x6_asked (p6_facts s (va_cpy (x6_facts t) (x6_facts s) 0 0 36))) 0 0 8)) (x6_there t)) (x6_limit t)) (x6_ears t)) (x6_sights t))) (cs6 a Δ (p6_heardBits (p6_sights (p6_ears (p6_limit (p6_there (p6_asked (p6_facts s (va_cpy (x6_facts t) (x6_facts s) 0 0 36)) (va_cpy (x6_asked t) (x6_asked (p6_facts s (va_cpy (x6_facts t) (x6_facts s) 0 0 36))) 0 0 8)) (x6_there t)) (x6_limit t)) (x6_ears t)) (x6_sights t)) (x6_heardBits t)) ++ cs6 b Δ t) C 70 rfl dX6_takeFrom_67 hK hP hD hS la_X6 tyX6_ok nmX6 0 6 (Nat.le_of_ble_eq_true rfl) fl_X6_31 rfl rfl rfl rfl rfl rfl (Nat.le_of_ble_eq_true rfl) (sst_34 a b Δ (p6_sights (p6_ears (p6_limit (p6_there (p6_asked (p6_facts s (va_cpy (x6_facts t) (x6_facts s) 0 0 36)) (va_cpy (x6_asked t) (x6_asked (p6_facts s (va_cpy (x6_facts t) (x6_facts s) 0 0 36))) 0 0 8)) (x6_there t)) (x6_limit t)) (x6_ears t)) (x6_sights t)) t (x6_heardBits t)) (fun H L hP hD hS => ?_)
  exact w_void (ws := fun s => cs6 a Δ s ++ cs6 b Δ t) hR hq hP hS dX6_takeFrom_70 rfl
set_option maxHeartbeats 400000 in
set_option maxRecDepth 100000 in
theorem c_X6_has (l : Launch) (Δ : gD) (a : Nat → Nat) (x1 : Int32) (s : S6) {res : Int32} (hq : sem_X6_has x1 s = some res) : MR l yX6_has cX6_has 2 (some .boolean) Δ (cs6 a Δ s) [.ref (a 0), .int x1] 0 0 (.int res) := by
  refine MR.of (by decide) (Nat.le_of_ble_eq_true rfl) ?_
  intro Γ H hl C hK hP hR
  subst hl
  show g Γ { frames := 0, cells := 0, slots := 0, locals := 0 } 2 H [] 0 0 0 [(0, .ref (a 0)), (1, .int x1)] []
  refine g_iload_n C 1 rfl dX6_has_0 1 rfl ?_
  refine s_if_lt C 26 4 rfl dX6_has_1 (by decide) hq (fun hq => ?_) (fun hq => ?_)
  · refine g_iconst 0 C 27 rfl dX6_has_26 ki_0 ?_
    exact r_int hR hq dX6_has_27 rfl rfl
  refine g_iload_n C 5 rfl dX6_has_4 1 rfl ?_
  refine g_bipush 6 C 7 rfl dX6_has_5 kb_6 ?_
  refine s_icmp_ge C 26 10 rfl dX6_has_7 (by decide) hq (fun hq => ?_) (fun hq => ?_)
  · refine g_iconst 0 C 27 rfl dX6_has_26 ki_0 ?_
    exact r_int hR hq dX6_has_27 rfl rfl
  refine g_aload_n C 11 rfl dX6_has_10 0 rfl ?_
  refine g_get (v := .int (x6_there s)) (fs := fl6 a s) C 14 rfl dX6_has_11 hK hP la_X6 0 2 (Nat.le_of_ble_eq_true rfl) fl_X6_18 rfl rfl rfl rfl ?_
  refine g_iload_n C 15 rfl dX6_has_14 1 rfl ?_
  refine g_ishr C 16 rfl dX6_has_15 ?_
  refine g_iconst 1 C 17 rfl dX6_has_16 ki_1 ?_
  refine g_iand C 18 rfl dX6_has_17 ?_
  refine g_iconst 1 C 19 rfl dX6_has_18 ki_1 ?_
  refine s_icmp_ne C 26 22 rfl dX6_has_19 (by decide) hq (fun hq => ?_) (fun hq => ?_)
  · refine g_iconst 0 C 27 rfl dX6_has_26 ki_0 ?_
    exact r_int hR hq dX6_has_27 rfl rfl
  refine g_iconst 1 C 23 rfl dX6_has_22 ki_1 ?_
  refine g_goto C 27 dX6_has_23 (by decide) ?_
  exact r_int hR hq dX6_has_27 rfl rfl
set_option maxHeartbeats 400000 in
set_option maxRecDepth 100000 in
theorem c_J6_bitCount_0f7a4 (l : Launch) (Δ : gD)  (x0 : Int32)  {res : Int32} (hq : sem_J6_bitCount_0f7a4 x0  = some res) : MR l yJ6_bitCount_0f7a4 cJ6_bitCount_0f7a4 1 (some .int) Δ ([]) [.int x0] 0 0 (.int res) := by
  refine MR.of (by decide) (Nat.le_of_ble_eq_true rfl) ?_
  intro Γ H hl C hK hP hR
  subst hl
  show g Γ { frames := 0, cells := 0, slots := 0, locals := 0 } 1 H [] 0 0 0 [(0, .int x0)] []
  refine g_iload_n C 1 rfl dJ6_bitCount_0f7a4_0 0 rfl ?_
  refine g_iload_n C 2 rfl dJ6_bitCount_0f7a4_1 0 rfl ?_
  refine g_iconst 1 C 3 rfl dJ6_bitCount_0f7a4_2 ki_1 ?_
  refine g_iushr C 4 rfl dJ6_bitCount_0f7a4_3 ?_
  refine g_ldc_w 1431655765 C 7 rfl dJ6_bitCount_0f7a4_4 k_J6_265 ?_
  refine g_iand C 8 rfl dJ6_bitCount_0f7a4_7 ?_
  refine g_isub C 9 rfl dJ6_bitCount_0f7a4_8 ?_
  refine g_istore_n [(0, .int (x0 - (((x0).toUInt32 >>> ((1 : Int32).toUInt32 &&& Int32.toUInt32 31)).toInt32 &&& 1431655765)))] C 10 rfl dJ6_bitCount_0f7a4_9 (Nat.le_of_ble_eq_true rfl) rfl ?_
  refine g_iload_n C 11 rfl dJ6_bitCount_0f7a4_10 0 rfl ?_
  refine g_ldc_w 858993459 C 14 rfl dJ6_bitCount_0f7a4_11 k_J6_266 ?_
  refine g_iand C 15 rfl dJ6_bitCount_0f7a4_14 ?_
  refine g_iload_n C 16 rfl dJ6_bitCount_0f7a4_15 0 rfl ?_
  refine g_iconst 2 C 17 rfl dJ6_bitCount_0f7a4_16 ki_2 ?_
  refine g_iushr C 18 rfl dJ6_bitCount_0f7a4_17 ?_
  refine g_ldc_w 858993459 C 21 rfl dJ6_bitCount_0f7a4_18 k_J6_266 ?_
  refine g_iand C 22 rfl dJ6_bitCount_0f7a4_21 ?_
  refine g_iadd C 23 rfl dJ6_bitCount_0f7a4_22 ?_
  refine g_istore_n [(0, .int (((x0 - (((x0).toUInt32 >>> ((1 : Int32).toUInt32 &&& Int32.toUInt32 31)).toInt32 &&& 1431655765)) &&& 858993459) + ((((x0 - (((x0).toUInt32 >>> ((1 : Int32).toUInt32 &&& Int32.toUInt32 31)).toInt32 &&& 1431655765))).toUInt32 >>> ((2 : Int32).toUInt32 &&& Int32.toUInt32 31)).toInt32 &&& 858993459)))] C 24 rfl dJ6_bitCount_0f7a4_23 (Nat.le_of_ble_eq_true rfl) rfl ?_
  refine g_iload_n C 25 rfl dJ6_bitCount_0f7a4_24 0 rfl ?_
  refine g_iload_n C 26 rfl dJ6_bitCount_0f7a4_25 0 rfl ?_
  refine g_iconst 4 C 27 rfl dJ6_bitCount_0f7a4_26 ki_4 ?_
  refine g_iushr C 28 rfl dJ6_bitCount_0f7a4_27 ?_
  refine g_iadd C 29 rfl dJ6_bitCount_0f7a4_28 ?_
  refine g_ldc_w 252645135 C 32 rfl dJ6_bitCount_0f7a4_29 k_J6_267 ?_
  refine g_iand C 33 rfl dJ6_bitCount_0f7a4_32 ?_
  refine g_istore_n [(0, .int (((((x0 - (((x0).toUInt32 >>> ((1 : Int32).toUInt32 &&& Int32.toUInt32 31)).toInt32 &&& 1431655765)) &&& 858993459) + ((((x0 - (((x0).toUInt32 >>> ((1 : Int32).toUInt32 &&& Int32.toUInt32 31)).toInt32 &&& 1431655765))).toUInt32 >>> ((2 : Int32).toUInt32 &&& Int32.toUInt32 31)).toInt32 &&& 858993459)) + (((((x0 - (((x0).toUInt32 >>> ((1 : Int32).toUInt32 &&& Int32.toUInt32 31)).toInt32 &&& 1431655765)) &&& 858993459) + ((((x0 - (((x0).toUInt32 >>> ((1 : Int32).toUInt32 &&& Int32.toUInt32 31)).toInt32 &&& 1431655765))).toUInt32 >>> ((2 : Int32).toUInt32 &&& Int32.toUInt32 31)).toInt32 &&& 858993459))).toUInt32 >>> ((4 : Int32).toUInt32 &&& Int32.toUInt32 31)).toInt32) &&& 252645135))] C 34 rfl dJ6_bitCount_0f7a4_33 (Nat.le_of_ble_eq_true rfl) rfl ?_
  refine g_iload_n C 35 rfl dJ6_bitCount_0f7a4_34 0 rfl ?_
  refine g_iload_n C 36 rfl dJ6_bitCount_0f7a4_35 0 rfl ?_
  refine g_bipush 8 C 38 rfl dJ6_bitCount_0f7a4_36 kb_8 ?_
  refine g_iushr C 39 rfl dJ6_bitCount_0f7a4_38 ?_
  refine g_iadd C 40 rfl dJ6_bitCount_0f7a4_39 ?_
  refine g_istore_n [(0, .int ((((((x0 - (((x0).toUInt32 >>> ((1 : Int32).toUInt32 &&& Int32.toUInt32 31)).toInt32 &&& 1431655765)) &&& 858993459) + ((((x0 - (((x0).toUInt32 >>> ((1 : Int32).toUInt32 &&& Int32.toUInt32 31)).toInt32 &&& 1431655765))).toUInt32 >>> ((2 : Int32).toUInt32 &&& Int32.toUInt32 31)).toInt32 &&& 858993459)) + (((((x0 - (((x0).toUInt32 >>> ((1 : Int32).toUInt32 &&& Int32.toUInt32 31)).toInt32 &&& 1431655765)) &&& 858993459) + ((((x0 - (((x0).toUInt32 >>> ((1 : Int32).toUInt32 &&& Int32.toUInt32 31)).toInt32 &&& 1431655765))).toUInt32 >>> ((2 : Int32).toUInt32 &&& Int32.toUInt32 31)).toInt32 &&& 858993459))).toUInt32 >>> ((4 : Int32).toUInt32 &&& Int32.toUInt32 31)).toInt32) &&& 252645135) + (((((((x0 - (((x0).toUInt32 >>> ((1 : Int32).toUInt32 &&& Int32.toUInt32 31)).toInt32 &&& 1431655765)) &&& 858993459) + ((((x0 - (((x0).toUInt32 >>> ((1 : Int32).toUInt32 &&& Int32.toUInt32 31)).toInt32 &&& 1431655765))).toUInt32 >>> ((2 : Int32).toUInt32 &&& Int32.toUInt32 31)).toInt32 &&& 858993459)) + (((((x0 - (((x0).toUInt32 >>> ((1 : Int32).toUInt32 &&& Int32.toUInt32 31)).toInt32 &&& 1431655765)) &&& 858993459) + ((((x0 - (((x0).toUInt32 >>> ((1 : Int32).toUInt32 &&& Int32.toUInt32 31)).toInt32 &&& 1431655765))).toUInt32 >>> ((2 : Int32).toUInt32 &&& Int32.toUInt32 31)).toInt32 &&& 858993459))).toUInt32 >>> ((4 : Int32).toUInt32 &&& Int32.toUInt32 31)).toInt32) &&& 252645135)).toUInt32 >>> ((8 : Int32).toUInt32 &&& Int32.toUInt32 31)).toInt32))] C 41 rfl dJ6_bitCount_0f7a4_40 (Nat.le_of_ble_eq_true rfl) rfl ?_
  refine g_iload_n C 42 rfl dJ6_bitCount_0f7a4_41 0 rfl ?_
  refine g_iload_n C 43 rfl dJ6_bitCount_0f7a4_42 0 rfl ?_
  refine g_bipush 16 C 45 rfl dJ6_bitCount_0f7a4_43 kb_16 ?_
  refine g_iushr C 46 rfl dJ6_bitCount_0f7a4_45 ?_
  refine g_iadd C 47 rfl dJ6_bitCount_0f7a4_46 ?_
  refine g_istore_n [(0, .int (((((((x0 - (((x0).toUInt32 >>> ((1 : Int32).toUInt32 &&& Int32.toUInt32 31)).toInt32 &&& 1431655765)) &&& 858993459) + ((((x0 - (((x0).toUInt32 >>> ((1 : Int32).toUInt32 &&& Int32.toUInt32 31)).toInt32 &&& 1431655765))).toUInt32 >>> ((2 : Int32).toUInt32 &&& Int32.toUInt32 31)).toInt32 &&& 858993459)) + (((((x0 - (((x0).toUInt32 >>> ((1 : Int32).toUInt32 &&& Int32.toUInt32 31)).toInt32 &&& 1431655765)) &&& 858993459) + ((((x0 - (((x0).toUInt32 >>> ((1 : Int32).toUInt32 &&& Int32.toUInt32 31)).toInt32 &&& 1431655765))).toUInt32 >>> ((2 : Int32).toUInt32 &&& Int32.toUInt32 31)).toInt32 &&& 858993459))).toUInt32 >>> ((4 : Int32).toUInt32 &&& Int32.toUInt32 31)).toInt32) &&& 252645135) + (((((((x0 - (((x0).toUInt32 >>> ((1 : Int32).toUInt32 &&& Int32.toUInt32 31)).toInt32 &&& 1431655765)) &&& 858993459) + ((((x0 - (((x0).toUInt32 >>> ((1 : Int32).toUInt32 &&& Int32.toUInt32 31)).toInt32 &&& 1431655765))).toUInt32 >>> ((2 : Int32).toUInt32 &&& Int32.toUInt32 31)).toInt32 &&& 858993459)) + (((((x0 - (((x0).toUInt32 >>> ((1 : Int32).toUInt32 &&& Int32.toUInt32 31)).toInt32 &&& 1431655765)) &&& 858993459) + ((((x0 - (((x0).toUInt32 >>> ((1 : Int32).toUInt32 &&& Int32.toUInt32 31)).toInt32 &&& 1431655765))).toUInt32 >>> ((2 : Int32).toUInt32 &&& Int32.toUInt32 31)).toInt32 &&& 858993459))).toUInt32 >>> ((4 : Int32).toUInt32 &&& Int32.toUInt32 31)).toInt32) &&& 252645135)).toUInt32 >>> ((8 : Int32).toUInt32 &&& Int32.toUInt32 31)).toInt32) + ((((((((x0 - (((x0).toUInt32 >>> ((1 : Int32).toUInt32 &&& Int32.toUInt32 31)).toInt32 &&& 1431655765)) &&& 858993459) + ((((x0 - (((x0).toUInt32 >>> ((1 : Int32).toUInt32 &&& Int32.toUInt32 31)).toInt32 &&& 1431655765))).toUInt32 >>> ((2 : Int32).toUInt32 &&& Int32.toUInt32 31)).toInt32 &&& 858993459)) + (((((x0 - (((x0).toUInt32 >>> ((1 : Int32).toUInt32 &&& Int32.toUInt32 31)).toInt32 &&& 1431655765)) &&& 858993459) + ((((x0 - (((x0).toUInt32 >>> ((1 : Int32).toUInt32 &&& Int32.toUInt32 31)).toInt32 &&& 1431655765))).toUInt32 >>> ((2 : Int32).toUInt32 &&& Int32.toUInt32 31)).toInt32 &&& 858993459))).toUInt32 >>> ((4 : Int32).toUInt32 &&& Int32.toUInt32 31)).toInt32) &&& 252645135) + (((((((x0 - (((x0).toUInt32 >>> ((1 : Int32).toUInt32 &&& Int32.toUInt32 31)).toInt32 &&& 1431655765)) &&& 858993459) + ((((x0 - (((x0).toUInt32 >>> ((1 : Int32).toUInt32 &&& Int32.toUInt32 31)).toInt32 &&& 1431655765))).toUInt32 >>> ((2 : Int32).toUInt32 &&& Int32.toUInt32 31)).toInt32 &&& 858993459)) + (((((x0 - (((x0).toUInt32 >>> ((1 : Int32).toUInt32 &&& Int32.toUInt32 31)).toInt32 &&& 1431655765)) &&& 858993459) + ((((x0 - (((x0).toUInt32 >>> ((1 : Int32).toUInt32 &&& Int32.toUInt32 31)).toInt32 &&& 1431655765))).toUInt32 >>> ((2 : Int32).toUInt32 &&& Int32.toUInt32 31)).toInt32 &&& 858993459))).toUInt32 >>> ((4 : Int32).toUInt32 &&& Int32.toUInt32 31)).toInt32) &&& 252645135)).toUInt32 >>> ((8 : Int32).toUInt32 &&& Int32.toUInt32 31)).toInt32)).toUInt32 >>> ((16 : Int32).toUInt32 &&& Int32.toUInt32 31)).toInt32))] C 48 rfl dJ6_bitCount_0f7a4_47 (Nat.le_of_ble_eq_true rfl) rfl ?_
  refine g_iload_n C 49 rfl dJ6_bitCount_0f7a4_48 0 rfl ?_
  refine g_bipush 63 C 51 rfl dJ6_bitCount_0f7a4_49 kb_63 ?_
  refine g_iand C 52 rfl dJ6_bitCount_0f7a4_51 ?_
  exact r_int hR hq dJ6_bitCount_0f7a4_52 rfl rfl
set_option maxHeartbeats 400000 in
set_option maxRecDepth 100000 in
theorem c_X6_count (l : Launch) (Δ : gD) (a : Nat → Nat)  (s : S6) {res : Int32} (hq : sem_X6_count  s = some res) : MR l yX6_count cX6_count 1 (some .int) Δ (cs6 a Δ s) [.ref (a 0)] 1 20 (.int res) := by
  refine MR.of (by decide) (Nat.le_of_ble_eq_true rfl) ?_
  intro Γ H hl C hK hP hR
  subst hl
  show g Γ { frames := 1, cells := 0, slots := 0, locals := 20 } 1 H [] 0 0 0 [(0, .ref (a 0))] []
  refine g_aload_n C 1 rfl dX6_count_0 0 rfl ?_
  refine g_get (v := .int (x6_there s)) (fs := fl6 a s) C 4 rfl dX6_count_1 hK hP la_X6 0 2 (Nat.le_of_ble_eq_true rfl) fl_X6_18 rfl rfl rfl rfl ?_
  obtain ⟨r1, hz2, hq⟩ := bindE hq
  refine g_callRS (rest := []) C 7 rfl dX6_count_4 (c_J6_bitCount_0f7a4 Γ.2.1 Δ  (x6_there s)  hz2) mv_J6_bitCount_0f7a4 (Or.inl ml_X6_40) hK rfl rfl ⟨Nat.le_of_ble_eq_true rfl, Nat.le_of_ble_eq_true rfl⟩ (Nat.le_of_ble_eq_true rfl) ⟨Nat.zero_le _, Nat.zero_le _⟩ ?_
  exact r_int hR hq dX6_count_7 rfl rfl
set_option maxHeartbeats 400000 in
set_option maxRecDepth 100000 in
theorem c_X6_put (l : Launch) (Δ : gD) (a : Nat → Nat) (x1 : Int32) (x2 : Int32) (x3 : Int32) (s : S6) {res : S6} (hq : sem_X6_put x1 x2 x3 s = some res) : MW l yX6_put cX6_put 4 none Δ (cs6 a Δ s) [.ref (a 0), .int x1, .int x2, .int x3] 0 0 none (cs6 a Δ res) := by
  refine MW.of (by decide) (Nat.le_of_ble_eq_true rfl) ?_
  intro Γ A H hl C hK hP hD hS hA hR
  subst hl
  show g Γ { frames := 0, cells := 0, slots := 0, locals := 0 } 4 H [] 0 0 0 [(0, .ref (a 0)), (1, .int x1), (2, .int x2), (3, .int x3)] []
  refine g_iload_n C 1 rfl dX6_put_0 1 rfl ?_
  refine s_if_lt C 32 4 rfl dX6_put_1 (by decide) hq (fun hq => ?_) (fun hq => ?_)
  · exact w_void (ws := fun s => cs6 a Δ s) hR hq hP hS dX6_put_32 rfl
  refine g_iload_n C 5 rfl dX6_put_4 1 rfl ?_
  refine g_bipush 6 C 7 rfl dX6_put_5 kb_6 ?_
  refine s_icmp_ge C 32 10 rfl dX6_put_7 (by decide) hq (fun hq => ?_) (fun hq => ?_)
  · exact w_void (ws := fun s => cs6 a Δ s) hR hq hP hS dX6_put_32 rfl
  refine g_iload_n C 11 rfl dX6_put_10 2 rfl ?_
  refine s_if_lt C 32 14 rfl dX6_put_11 (by decide) hq (fun hq => ?_) (fun hq => ?_)
  · exact w_void (ws := fun s => cs6 a Δ s) hR hq hP hS dX6_put_32 rfl
  refine g_iload_n C 15 rfl dX6_put_14 2 rfl ?_
  refine g_bipush 6 C 17 rfl dX6_put_15 kb_6 ?_
  refine s_icmp_ge C 32 20 rfl dX6_put_17 (by decide) hq (fun hq => ?_) (fun hq => ?_)
  · exact w_void (ws := fun s => cs6 a Δ s) hR hq hP hS dX6_put_32 rfl
  refine g_aload_n C 21 rfl dX6_put_20 0 rfl ?_
  refine g_get (v := .ref (a 1)) (fs := fl6 a s) C 24 rfl dX6_put_21 hK hP la_X6 0 0 (Nat.le_of_ble_eq_true rfl) fl_X6_9 rfl rfl rfl rfl ?_
  refine g_iload_n C 25 rfl dX6_put_24 1 rfl ?_
  refine g_bipush 6 C 27 rfl dX6_put_25 kb_6 ?_
  refine g_imul C 28 rfl dX6_put_27 ?_
  refine g_iload_n C 29 rfl dX6_put_28 2 rfl ?_
  refine g_iadd C 30 rfl dX6_put_29 ?_
  refine g_iload_n C 31 rfl dX6_put_30 3 rfl ?_
  refine s_iast (cs6 a Δ (p6_facts s (upd (x6_facts s) (((x1 * 6) + x2) : Int32).toNatClampNeg x3))) C 32 rfl dX6_put_31 hK hP hD hS 1 rfl hq (sst_35 a Δ s (upd (x6_facts s) (((x1 * 6) + x2) : Int32).toNatClampNeg x3)) (fun hq hi1 H L hP hD hS => ?_)
  exact w_void (ws := fun s => cs6 a Δ s) hR hq hP hS dX6_put_32 rfl
set_option maxHeartbeats 400000 in
set_option maxRecDepth 100000 in
theorem c_X6_settle (l : Launch) (Δ : gD) (a : Nat → Nat) (x1 : Int32) (x2 : Int32) (x3 : Int32) (x4 : Int32) (x5 : Int32) (s : S6) {res : S6} (hq : sem_X6_settle x1 x2 x3 x4 x5 s = some res) : MW l yX6_settle cX6_settle 6 none Δ (cs6 a Δ s) [.ref (a 0), .int x1, .int x2, .int x3, .int x4, .int x5] 1 23 none (cs6 a Δ res) := by
  refine MW.of (by decide) (Nat.le_of_ble_eq_true rfl) ?_
  intro Γ A H hl C hK hP hD hS hA hR
  subst hl
  show g Γ { frames := 1, cells := 0, slots := 0, locals := 23 } 6 H [] 0 0 0 [(0, .ref (a 0)), (1, .int x1), (2, .int x2), (3, .int x3), (4, .int x4), (5, .int x5)] []
  refine g_aload_n C 1 rfl dX6_settle_0 0 rfl ?_
  refine g_dup C 2 rfl dX6_settle_1 rfl ?_
  refine g_get (v := .int (x6_there s)) (fs := fl6 a s) C 5 rfl dX6_settle_2 hK hP la_X6 0 2 (Nat.le_of_ble_eq_true rfl) fl_X6_18 rfl rfl rfl rfl ?_
  refine g_iconst 1 C 6 rfl dX6_settle_5 ki_1 ?_
  refine g_iload_n C 7 rfl dX6_settle_6 1 rfl ?_
  refine g_ishl C 8 rfl dX6_settle_7 ?_
  refine g_ior C 9 rfl dX6_settle_8 ?_
  refine g_put (fs := fl6 a s) (cs6 a Δ (p6_there s ((x6_there s) ||| ((1 : Int32) <<< (x1 &&& 31))))) C 12 rfl dX6_settle_9 hK hP hD hS la_X6 tyX6_ok nmX6 0 2 (Nat.le_of_ble_eq_true rfl) fl_X6_18 rfl rfl rfl rfl rfl rfl (Nat.le_of_ble_eq_true rfl) (sst_36 a Δ s ((x6_there s) ||| ((1 : Int32) <<< (x1 &&& 31)))) (fun H L hP hD hS => ?_)
  refine g_aload_n C 13 rfl dX6_settle_12 0 rfl ?_
  refine g_iload_n C 14 rfl dX6_settle_13 1 rfl ?_
  refine g_iconst 0 C 15 rfl dX6_settle_14 ki_0 ?_
  refine g_iload_n C 16 rfl dX6_settle_15 2 rfl ?_
  obtain ⟨r1, hz2, hq⟩ := bindE hq
  refine g_callWV (rest := []) (cs6 a Δ r1) C 19 rfl dX6_settle_16 (c_X6_put Γ.2.1 Δ a x1 0 x2 (p6_there s ((x6_there s) ||| ((1 : Int32) <<< (x1 &&& 31)))) hz2) mv_X6_put ml_X6_46 hK hP hD hS hA (scl_37 a Δ (p6_there s ((x6_there s) ||| ((1 : Int32) <<< (x1 &&& 31)))) r1) rfl rfl rfl rfl rfl ⟨Nat.le_of_ble_eq_true rfl, Nat.le_of_ble_eq_true rfl⟩ (Nat.le_of_ble_eq_true rfl) ⟨Nat.zero_le _, Nat.zero_le _⟩ (fun H L hP hD hS => ?_)
  refine g_aload_n C 20 rfl dX6_settle_19 0 rfl ?_
  refine g_iload_n C 21 rfl dX6_settle_20 1 rfl ?_
  refine g_iconst 1 C 22 rfl dX6_settle_21 ki_1 ?_
  refine g_iconst 0 C 23 rfl dX6_settle_22 ki_0 ?_
  obtain ⟨r3, hz4, hq⟩ := bindE hq
  refine g_callWV (rest := []) (cs6 a Δ r3) C 26 rfl dX6_settle_23 (c_X6_put Γ.2.1 Δ a x1 1 0 r1 hz4) mv_X6_put ml_X6_46 hK hP hD hS hA (scl_37 a Δ r1 r3) rfl rfl rfl rfl rfl ⟨Nat.le_of_ble_eq_true rfl, Nat.le_of_ble_eq_true rfl⟩ (Nat.le_of_ble_eq_true rfl) ⟨Nat.zero_le _, Nat.zero_le _⟩ (fun H L hP hD hS => ?_)
  refine g_aload_n C 27 rfl dX6_settle_26 0 rfl ?_
  refine g_iload_n C 28 rfl dX6_settle_27 1 rfl ?_
  refine g_iconst 2 C 29 rfl dX6_settle_28 ki_2 ?_
  refine g_iload_n C 30 rfl dX6_settle_29 3 rfl ?_
  obtain ⟨r5, hz6, hq⟩ := bindE hq
  refine g_callWV (rest := []) (cs6 a Δ r5) C 33 rfl dX6_settle_30 (c_X6_put Γ.2.1 Δ a x1 2 x3 r3 hz6) mv_X6_put ml_X6_46 hK hP hD hS hA (scl_37 a Δ r3 r5) rfl rfl rfl rfl rfl ⟨Nat.le_of_ble_eq_true rfl, Nat.le_of_ble_eq_true rfl⟩ (Nat.le_of_ble_eq_true rfl) ⟨Nat.zero_le _, Nat.zero_le _⟩ (fun H L hP hD hS => ?_)
  refine g_aload_n C 34 rfl dX6_settle_33 0 rfl ?_
  refine g_iload_n C 35 rfl dX6_settle_34 1 rfl ?_
  refine g_iconst 3 C 36 rfl dX6_settle_35 ki_3 ?_
  refine g_iload C 38 rfl dX6_settle_36 4 rfl ?_
  obtain ⟨r7, hz8, hq⟩ := bindE hq
  refine g_callWV (rest := []) (cs6 a Δ r7) C 41 rfl dX6_settle_38 (c_X6_put Γ.2.1 Δ a x1 3 x4 r5 hz8) mv_X6_put ml_X6_46 hK hP hD hS hA (scl_37 a Δ r5 r7) rfl rfl rfl rfl rfl ⟨Nat.le_of_ble_eq_true rfl, Nat.le_of_ble_eq_true rfl⟩ (Nat.le_of_ble_eq_true rfl) ⟨Nat.zero_le _, Nat.zero_le _⟩ (fun H L hP hD hS => ?_)
  refine g_aload_n C 42 rfl dX6_settle_41 0 rfl ?_
  refine g_iload_n C 43 rfl dX6_settle_42 1 rfl ?_
  refine g_iconst 4 C 44 rfl dX6_settle_43 ki_4 ?_
  refine g_iload C 46 rfl dX6_settle_44 5 rfl ?_
  obtain ⟨r9, hz10, hq⟩ := bindE hq
  refine g_callWV (rest := []) (cs6 a Δ r9) C 49 rfl dX6_settle_46 (c_X6_put Γ.2.1 Δ a x1 4 x5 r7 hz10) mv_X6_put ml_X6_46 hK hP hD hS hA (scl_37 a Δ r7 r9) rfl rfl rfl rfl rfl ⟨Nat.le_of_ble_eq_true rfl, Nat.le_of_ble_eq_true rfl⟩ (Nat.le_of_ble_eq_true rfl) ⟨Nat.zero_le _, Nat.zero_le _⟩ (fun H L hP hD hS => ?_)
  refine g_aload_n C 50 rfl dX6_settle_49 0 rfl ?_
  refine g_iload_n C 51 rfl dX6_settle_50 1 rfl ?_
  refine g_iconst 5 C 52 rfl dX6_settle_51 ki_5 ?_
  refine g_bipush (-6) C 54 rfl dX6_settle_52 kb_m6 ?_
  obtain ⟨r11, hz12, hq⟩ := bindE hq
  refine g_callWV (rest := []) (cs6 a Δ r11) C 57 rfl dX6_settle_54 (c_X6_put Γ.2.1 Δ a x1 5 (-6) r9 hz12) mv_X6_put ml_X6_46 hK hP hD hS hA (scl_37 a Δ r9 r11) rfl rfl rfl rfl rfl ⟨Nat.le_of_ble_eq_true rfl, Nat.le_of_ble_eq_true rfl⟩ (Nat.le_of_ble_eq_true rfl) ⟨Nat.zero_le _, Nat.zero_le _⟩ (fun H L hP hD hS => ?_)
  exact w_void (ws := fun s => cs6 a Δ s) hR hq hP hS dX6_settle_57 rfl
set_option maxHeartbeats 400000 in
set_option maxRecDepth 100000 in
theorem c_X6_remove (l : Launch) (Δ : gD) (a : Nat → Nat) (x1 : Int32) (s : S6) {res : S6} (hq : sem_X6_remove x1 s = some res) : MW l yX6_remove cX6_remove 2 none Δ (cs6 a Δ s) [.ref (a 0), .int x1] 0 0 none (cs6 a Δ res) := by
  refine MW.of (by decide) (Nat.le_of_ble_eq_true rfl) ?_
  intro Γ A H hl C hK hP hD hS hA hR
  subst hl
  show g Γ { frames := 0, cells := 0, slots := 0, locals := 0 } 2 H [] 0 0 0 [(0, .ref (a 0)), (1, .int x1)] []
  refine g_aload_n C 1 rfl dX6_remove_0 0 rfl ?_
  refine g_dup C 2 rfl dX6_remove_1 rfl ?_
  refine g_get (v := .int (x6_there s)) (fs := fl6 a s) C 5 rfl dX6_remove_2 hK hP la_X6 0 2 (Nat.le_of_ble_eq_true rfl) fl_X6_18 rfl rfl rfl rfl ?_
  refine g_iconst 1 C 6 rfl dX6_remove_5 ki_1 ?_
  refine g_iload_n C 7 rfl dX6_remove_6 1 rfl ?_
  refine g_ishl C 8 rfl dX6_remove_7 ?_
  refine g_iconst (-1) C 9 rfl dX6_remove_8 ki_m1 ?_
  refine g_ixor C 10 rfl dX6_remove_9 ?_
  refine g_iand C 11 rfl dX6_remove_10 ?_
  refine g_put (fs := fl6 a s) (cs6 a Δ (p6_there s ((x6_there s) &&& (((1 : Int32) <<< (x1 &&& 31)) ^^^ (-1))))) C 14 rfl dX6_remove_11 hK hP hD hS la_X6 tyX6_ok nmX6 0 2 (Nat.le_of_ble_eq_true rfl) fl_X6_18 rfl rfl rfl rfl rfl rfl (Nat.le_of_ble_eq_true rfl) (sst_36 a Δ s ((x6_there s) &&& (((1 : Int32) <<< (x1 &&& 31)) ^^^ (-1)))) (fun H L hP hD hS => ?_)
  exact w_void (ws := fun s => cs6 a Δ s) hR hq hP hS dX6_remove_14 rfl
set_option maxHeartbeats 400000 in
set_option maxRecDepth 100000 in
theorem c_X6_highestTemper (l : Launch) (Δ : gD) (a : Nat → Nat)  (s : S6) {res : Int32} (hq : sem_X6_highestTemper  s = some res) : MR l yX6_highestTemper cX6_highestTemper 3 (some .int) Δ (cs6 a Δ s) [.ref (a 0)] 1 24 (.int res) := by
  refine MR.of (by decide) (Nat.le_of_ble_eq_true rfl) ?_
  intro Γ H hl C hK hP hR
  subst hl
  show g Γ { frames := 1, cells := 0, slots := 0, locals := 24 } 3 H [] 0 0 0 [(0, .ref (a 0))] []
  refine g_iconst 0 C 1 rfl dX6_highestTemper_0 ki_0 ?_
  refine g_istore_n [(1, .int 0), (0, .ref (a 0))] C 2 rfl dX6_highestTemper_1 (Nat.le_of_ble_eq_true rfl) rfl ?_
  refine g_iconst 0 C 3 rfl dX6_highestTemper_2 ki_0 ?_
  refine g_istore_n [(2, .int 0), (1, .int 0), (0, .ref (a 0))] C 4 rfl dX6_highestTemper_3 (Nat.le_of_ble_eq_true rfl) rfl ?_
  have Q4 : ∀ (n : Nat) (x1 : Int32) (x2 : Int32) (o : (Int32)) (hq : lp_X6_highestTemper_4 s n x1 x2 = some o) (E2 : g Γ { frames := 1, cells := 0, slots := 0, locals := 24 } 3 H [] 0 0 35 [(1, .int o)] []), g Γ { frames := 1, cells := 0, slots := 0, locals := 24 } 3 H [] 0 0 4 [(0, .ref (a 0)), (1, .int x1), (2, .int x2)] [] := by
    intro n
    induction n with
    | zero => intro x1 x2 o hq; exact nomatch (show (none : Option (Int32)) = some o from hq)
    | succ n ih =>
      intro x1 x2 o hq E2
      have hq : bd_X6_highestTemper_4 s (lp_X6_highestTemper_4 s n) x1 x2 = some o := hq
      refine g_iload_n C 5 rfl dX6_highestTemper_4 2 rfl ?_
      refine g_bipush 6 C 7 rfl dX6_highestTemper_5 kb_6 ?_
      refine s_icmp_ge C 35 10 rfl dX6_highestTemper_7 (by decide) hq (fun hq => ?_) (fun hq => ?_)
      · cases hq
        exact g_sub [1] rfl (E2 )
      refine g_aload_n C 11 rfl dX6_highestTemper_10 0 rfl ?_
      refine g_iload_n C 12 rfl dX6_highestTemper_11 2 rfl ?_
      obtain ⟨r1, hz2, hq⟩ := bindE hq
      refine g_callRV (rest := []) C 15 rfl dX6_highestTemper_12 (c_X6_has Γ.2.1 Δ a x2 s hz2) mv_X6_has ml_X6_50 hK hP rfl rfl rfl rfl rfl ⟨Nat.le_of_ble_eq_true rfl, Nat.le_of_ble_eq_true rfl⟩ (Nat.le_of_ble_eq_true rfl) ⟨Nat.zero_le _, Nat.zero_le _⟩ ?_
      refine s_if_eq C 29 18 rfl dX6_highestTemper_15 (by decide) hq (fun hq => ?_) (fun hq => ?_)
      · refine g_iinc (x2 + 1) [(2, .int (x2 + 1)), (0, .ref (a 0)), (1, .int x1)] C 32 rfl dX6_highestTemper_29 2 rfl (ii_1 _) (Nat.le_of_ble_eq_true rfl) rfl ?_
        refine g_goto C 4 dX6_highestTemper_32 (by decide) ?_
        exact g_sub [1, 2, 0] rfl (ih x1 (x2 + 1) _ hq E2)
      refine g_iload_n C 19 rfl dX6_highestTemper_18 1 rfl ?_
      refine g_aload_n C 20 rfl dX6_highestTemper_19 0 rfl ?_
      refine g_iload_n C 21 rfl dX6_highestTemper_20 2 rfl ?_
      refine g_iconst 0 C 22 rfl dX6_highestTemper_21 ki_0 ?_
      obtain ⟨r3, hz4, hq⟩ := bindE hq
      refine g_callRV (rest := [.int x1]) C 25 rfl dX6_highestTemper_22 (c_X6_get Γ.2.1 Δ a x2 0 s hz4) mv_X6_get ml_X6_54 hK hP rfl rfl rfl rfl rfl ⟨Nat.le_of_ble_eq_true rfl, Nat.le_of_ble_eq_true rfl⟩ (Nat.le_of_ble_eq_true rfl) ⟨Nat.zero_le _, Nat.zero_le _⟩ ?_
      refine g_mmax C 28 rfl dX6_highestTemper_25 ml_X6_58 mth_max ⟨Nat.le_of_ble_eq_true rfl, Nat.le_of_ble_eq_true rfl⟩ ⟨Nat.zero_le _, Nat.zero_le _⟩ ?_
      refine g_istore_n [(1, .int (jmax x1 r3)), (0, .ref (a 0)), (2, .int x2)] C 29 rfl dX6_highestTemper_28 (Nat.le_of_ble_eq_true rfl) rfl ?_
      refine g_iinc (x2 + 1) [(2, .int (x2 + 1)), (1, .int (jmax x1 r3)), (0, .ref (a 0))] C 32 rfl dX6_highestTemper_29 2 rfl (ii_1 _) (Nat.le_of_ble_eq_true rfl) rfl ?_
      refine g_goto C 4 dX6_highestTemper_32 (by decide) ?_
      exact g_sub [2, 1, 0] rfl (ih (jmax x1 r3) (x2 + 1) _ hq E2)
  obtain ⟨o5, ho6, hq⟩ := bindE hq
  refine g_sub [2, 1, 0] rfl (Q4  FUEL 0 0 o5 ho6 (?_))
  refine g_iload_n C 36 rfl dX6_highestTemper_35 0 rfl ?_
  exact r_int hR hq dX6_highestTemper_36 rfl rfl
set_option maxHeartbeats 400000 in
set_option maxRecDepth 100000 in
theorem c_X6_allTempers (l : Launch) (Δ : gD) (a : Nat → Nat)  (s : S6) {res : Int32} (hq : sem_X6_allTempers  s = some res) : MR l yX6_allTempers cX6_allTempers 3 (some .int) Δ (cs6 a Δ s) [.ref (a 0)] 1 22 (.int res) := by
  refine MR.of (by decide) (Nat.le_of_ble_eq_true rfl) ?_
  intro Γ H hl C hK hP hR
  subst hl
  show g Γ { frames := 1, cells := 0, slots := 0, locals := 22 } 3 H [] 0 0 0 [(0, .ref (a 0))] []
  refine g_iconst 0 C 1 rfl dX6_allTempers_0 ki_0 ?_
  refine g_istore_n [(1, .int 0), (0, .ref (a 0))] C 2 rfl dX6_allTempers_1 (Nat.le_of_ble_eq_true rfl) rfl ?_
  refine g_iconst 0 C 3 rfl dX6_allTempers_2 ki_0 ?_
  refine g_istore_n [(2, .int 0), (1, .int 0), (0, .ref (a 0))] C 4 rfl dX6_allTempers_3 (Nat.le_of_ble_eq_true rfl) rfl ?_
  have Q4 : ∀ (n : Nat) (x1 : Int32) (x2 : Int32) (o : (Int32)) (hq : lp_X6_allTempers_4 s n x1 x2 = some o) (E2 : g Γ { frames := 1, cells := 0, slots := 0, locals := 22 } 3 H [] 0 0 33 [(1, .int o)] []), g Γ { frames := 1, cells := 0, slots := 0, locals := 22 } 3 H [] 0 0 4 [(0, .ref (a 0)), (1, .int x1), (2, .int x2)] [] := by
    intro n
    induction n with
    | zero => intro x1 x2 o hq; exact nomatch (show (none : Option (Int32)) = some o from hq)
    | succ n ih =>
      intro x1 x2 o hq E2
      have hq : bd_X6_allTempers_4 s (lp_X6_allTempers_4 s n) x1 x2 = some o := hq
      refine g_iload_n C 5 rfl dX6_allTempers_4 2 rfl ?_
      refine g_bipush 6 C 7 rfl dX6_allTempers_5 kb_6 ?_
      refine s_icmp_ge C 33 10 rfl dX6_allTempers_7 (by decide) hq (fun hq => ?_) (fun hq => ?_)
      · cases hq
        exact g_sub [1] rfl (E2 )
      refine g_aload_n C 11 rfl dX6_allTempers_10 0 rfl ?_
      refine g_iload_n C 12 rfl dX6_allTempers_11 2 rfl ?_
      obtain ⟨r1, hz2, hq⟩ := bindE hq
      refine g_callRV (rest := []) C 15 rfl dX6_allTempers_12 (c_X6_has Γ.2.1 Δ a x2 s hz2) mv_X6_has ml_X6_50 hK hP rfl rfl rfl rfl rfl ⟨Nat.le_of_ble_eq_true rfl, Nat.le_of_ble_eq_true rfl⟩ (Nat.le_of_ble_eq_true rfl) ⟨Nat.zero_le _, Nat.zero_le _⟩ ?_
      refine s_if_eq C 27 18 rfl dX6_allTempers_15 (by decide) hq (fun hq => ?_) (fun hq => ?_)
      · refine g_iinc (x2 + 1) [(2, .int (x2 + 1)), (0, .ref (a 0)), (1, .int x1)] C 30 rfl dX6_allTempers_27 2 rfl (ii_1 _) (Nat.le_of_ble_eq_true rfl) rfl ?_
        refine g_goto C 4 dX6_allTempers_30 (by decide) ?_
        exact g_sub [1, 2, 0] rfl (ih x1 (x2 + 1) _ hq E2)
      refine g_iload_n C 19 rfl dX6_allTempers_18 1 rfl ?_
      refine g_aload_n C 20 rfl dX6_allTempers_19 0 rfl ?_
      refine g_iload_n C 21 rfl dX6_allTempers_20 2 rfl ?_
      refine g_iconst 0 C 22 rfl dX6_allTempers_21 ki_0 ?_
      obtain ⟨r3, hz4, hq⟩ := bindE hq
      refine g_callRV (rest := [.int x1]) C 25 rfl dX6_allTempers_22 (c_X6_get Γ.2.1 Δ a x2 0 s hz4) mv_X6_get ml_X6_54 hK hP rfl rfl rfl rfl rfl ⟨Nat.le_of_ble_eq_true rfl, Nat.le_of_ble_eq_true rfl⟩ (Nat.le_of_ble_eq_true rfl) ⟨Nat.zero_le _, Nat.zero_le _⟩ ?_
      refine g_iadd C 26 rfl dX6_allTempers_25 ?_
      refine g_istore_n [(1, .int (x1 + r3)), (0, .ref (a 0)), (2, .int x2)] C 27 rfl dX6_allTempers_26 (Nat.le_of_ble_eq_true rfl) rfl ?_
      refine g_iinc (x2 + 1) [(2, .int (x2 + 1)), (1, .int (x1 + r3)), (0, .ref (a 0))] C 30 rfl dX6_allTempers_27 2 rfl (ii_1 _) (Nat.le_of_ble_eq_true rfl) rfl ?_
      refine g_goto C 4 dX6_allTempers_30 (by decide) ?_
      exact g_sub [2, 1, 0] rfl (ih (x1 + r3) (x2 + 1) _ hq E2)
  obtain ⟨o5, ho6, hq⟩ := bindE hq
  refine g_sub [2, 1, 0] rfl (Q4  FUEL 0 0 o5 ho6 (?_))
  refine g_iload_n C 34 rfl dX6_allTempers_33 0 rfl ?_
  exact r_int hR hq dX6_allTempers_34 rfl rfl
set_option maxHeartbeats 400000 in
set_option maxRecDepth 100000 in
theorem c_X6_hearers (l : Launch) (Δ : gD) (a : Nat → Nat) (x1 : Int32) (s : S6) {res : Int32} (hq : sem_X6_hearers x1 s = some res) : MR l yX6_hearers cX6_hearers 5 (some .int) Δ (cs6 a Δ s) [.ref (a 0), .int x1] 1 24 (.int res) := by
  refine MR.of (by decide) (Nat.le_of_ble_eq_true rfl) ?_
  intro Γ H hl C hK hP hR
  subst hl
  show g Γ { frames := 1, cells := 0, slots := 0, locals := 24 } 5 H [] 0 0 0 [(0, .ref (a 0)), (1, .int x1)] []
  refine g_aload_n C 1 rfl dX6_hearers_0 0 rfl ?_
  refine g_iload_n C 2 rfl dX6_hearers_1 1 rfl ?_
  refine g_iconst 4 C 3 rfl dX6_hearers_2 ki_4 ?_
  obtain ⟨r1, hz2, hq⟩ := bindE hq
  refine g_callRV (rest := []) C 6 rfl dX6_hearers_3 (c_X6_get Γ.2.1 Δ a x1 4 s hz2) mv_X6_get ml_X6_54 hK hP rfl rfl rfl rfl rfl ⟨Nat.le_of_ble_eq_true rfl, Nat.le_of_ble_eq_true rfl⟩ (Nat.le_of_ble_eq_true rfl) ⟨Nat.zero_le _, Nat.zero_le _⟩ ?_
  refine g_istore_n [(2, .int r1), (0, .ref (a 0)), (1, .int x1)] C 7 rfl dX6_hearers_6 (Nat.le_of_ble_eq_true rfl) rfl ?_
  refine g_iconst 0 C 8 rfl dX6_hearers_7 ki_0 ?_
  refine g_istore_n [(3, .int 0), (2, .int r1), (0, .ref (a 0)), (1, .int x1)] C 9 rfl dX6_hearers_8 (Nat.le_of_ble_eq_true rfl) rfl ?_
  refine g_iconst 0 C 10 rfl dX6_hearers_9 ki_0 ?_
  refine g_istore [(4, .int 0), (3, .int 0), (2, .int r1), (0, .ref (a 0)), (1, .int x1)] C 12 rfl dX6_hearers_10 (Nat.le_of_ble_eq_true rfl) rfl ?_
  have Q12 : ∀ (x1 : Int32) (x2 : Int32), ∀ (n : Nat) (x3 : Int32) (x4 : Int32) (o : (Int32)) (hq : lp_X6_hearers_12 x1 x2 s n x3 x4 = some o) (E2 : g Γ { frames := 1, cells := 0, slots := 0, locals := 24 } 5 H [] 0 0 66 [(3, .int o)] []), g Γ { frames := 1, cells := 0, slots := 0, locals := 24 } 5 H [] 0 0 12 [(0, .ref (a 0)), (1, .int x1), (2, .int x2), (3, .int x3), (4, .int x4)] [] := by
    intro x1 x2
    intro n
    induction n with
    | zero => intro x3 x4 o hq; exact nomatch (show (none : Option (Int32)) = some o from hq)
    | succ n ih =>
      intro x3 x4 o hq E2
      have hq : bd_X6_hearers_12 x1 x2 s (lp_X6_hearers_12 x1 x2 s n) x3 x4 = some o := hq
      refine g_iload C 14 rfl dX6_hearers_12 4 rfl ?_
      refine g_bipush 6 C 16 rfl dX6_hearers_14 kb_6 ?_
      refine s_icmp_ge C 66 19 rfl dX6_hearers_16 (by decide) hq (fun hq => ?_) (fun hq => ?_)
      · cases hq
        exact g_sub [3] rfl (E2 )
      refine g_iload C 21 rfl dX6_hearers_19 4 rfl ?_
      refine g_iload_n C 22 rfl dX6_hearers_21 1 rfl ?_
      refine s_icmp_eq C 60 25 rfl dX6_hearers_22 (by decide) hq (fun hq => ?_) (fun hq => ?_)
      · refine g_iinc (x4 + 1) [(4, .int (x4 + 1)), (0, .ref (a 0)), (1, .int x1), (2, .int x2), (3, .int x3)] C 63 rfl dX6_hearers_60 4 rfl (ii_1 _) (Nat.le_of_ble_eq_true rfl) rfl ?_
        refine g_goto C 12 dX6_hearers_63 (by decide) ?_
        exact g_sub [1, 2, 3, 4, 0] rfl (ih x3 (x4 + 1) _ hq E2)
      refine g_aload_n C 26 rfl dX6_hearers_25 0 rfl ?_
      refine g_iload C 28 rfl dX6_hearers_26 4 rfl ?_
      obtain ⟨r3, hz4, hq⟩ := bindE hq
      refine g_callRV (rest := []) C 31 rfl dX6_hearers_28 (c_X6_has Γ.2.1 Δ a x4 s hz4) mv_X6_has ml_X6_50 hK hP rfl rfl rfl rfl rfl ⟨Nat.le_of_ble_eq_true rfl, Nat.le_of_ble_eq_true rfl⟩ (Nat.le_of_ble_eq_true rfl) ⟨Nat.zero_le _, Nat.zero_le _⟩ ?_
      refine s_if_eq C 60 34 rfl dX6_hearers_31 (by decide) hq (fun hq => ?_) (fun hq => ?_)
      · refine g_iinc (x4 + 1) [(4, .int (x4 + 1)), (0, .ref (a 0)), (1, .int x1), (2, .int x2), (3, .int x3)] C 63 rfl dX6_hearers_60 4 rfl (ii_1 _) (Nat.le_of_ble_eq_true rfl) rfl ?_
        refine g_goto C 12 dX6_hearers_63 (by decide) ?_
        exact g_sub [1, 2, 3, 4, 0] rfl (ih x3 (x4 + 1) _ hq E2)
      refine g_iload_n C 35 rfl dX6_hearers_34 2 rfl ?_
      refine g_aload_n C 36 rfl dX6_hearers_35 0 rfl ?_
      refine g_iload C 38 rfl dX6_hearers_36 4 rfl ?_
      refine g_iconst 4 C 39 rfl dX6_hearers_38 ki_4 ?_
      obtain ⟨r5, hz6, hq⟩ := bindE hq
      refine g_callRV (rest := [.int x2]) C 42 rfl dX6_hearers_39 (c_X6_get Γ.2.1 Δ a x4 4 s hz6) mv_X6_get ml_X6_54 hK hP rfl rfl rfl rfl rfl ⟨Nat.le_of_ble_eq_true rfl, Nat.le_of_ble_eq_true rfl⟩ (Nat.le_of_ble_eq_true rfl) ⟨Nat.zero_le _, Nat.zero_le _⟩ ?_
      refine g_isub C 43 rfl dX6_hearers_42 ?_
      refine g_mabs C 46 rfl dX6_hearers_43 ml_X6_63 mth_abs ⟨Nat.le_of_ble_eq_true rfl, Nat.le_of_ble_eq_true rfl⟩ ⟨Nat.zero_le _, Nat.zero_le _⟩ ?_
      refine g_aload_n C 47 rfl dX6_hearers_46 0 rfl ?_
      refine g_get (v := .int (x6_ears s)) (fs := fl6 a s) C 50 rfl dX6_hearers_47 hK hP la_X6 0 4 (Nat.le_of_ble_eq_true rfl) fl_X6_25 rfl rfl rfl rfl ?_
      refine s_icmp_gt C 60 53 rfl dX6_hearers_50 (by decide) hq (fun hq => ?_) (fun hq => ?_)
      · refine g_iinc (x4 + 1) [(4, .int (x4 + 1)), (0, .ref (a 0)), (1, .int x1), (2, .int x2), (3, .int x3)] C 63 rfl dX6_hearers_60 4 rfl (ii_1 _) (Nat.le_of_ble_eq_true rfl) rfl ?_
        refine g_goto C 12 dX6_hearers_63 (by decide) ?_
        exact g_sub [1, 2, 3, 4, 0] rfl (ih x3 (x4 + 1) _ hq E2)
      refine g_iload_n C 54 rfl dX6_hearers_53 3 rfl ?_
      refine g_iconst 1 C 55 rfl dX6_hearers_54 ki_1 ?_
      refine g_iload C 57 rfl dX6_hearers_55 4 rfl ?_
      refine g_ishl C 58 rfl dX6_hearers_57 ?_
      refine g_ior C 59 rfl dX6_hearers_58 ?_
      refine g_istore_n [(3, .int (x3 ||| ((1 : Int32) <<< (x4 &&& 31)))), (0, .ref (a 0)), (1, .int x1), (2, .int x2), (4, .int x4)] C 60 rfl dX6_hearers_59 (Nat.le_of_ble_eq_true rfl) rfl ?_
      refine g_iinc (x4 + 1) [(4, .int (x4 + 1)), (3, .int (x3 ||| ((1 : Int32) <<< (x4 &&& 31)))), (0, .ref (a 0)), (1, .int x1), (2, .int x2)] C 63 rfl dX6_hearers_60 4 rfl (ii_1 _) (Nat.le_of_ble_eq_true rfl) rfl ?_
      refine g_goto C 12 dX6_hearers_63 (by decide) ?_
      exact g_sub [2, 3, 4, 1, 0] rfl (ih (x3 ||| ((1 : Int32) <<< (x4 &&& 31))) (x4 + 1) _ hq E2)
  obtain ⟨o7, ho8, hq⟩ := bindE hq
  refine g_sub [3, 4, 2, 1, 0] rfl (Q12 x1 r1 FUEL 0 0 o7 ho8 (?_))
  refine g_iload_n C 67 rfl dX6_hearers_66 0 rfl ?_
  exact r_int hR hq dX6_hearers_67 rfl rfl
set_option maxHeartbeats 400000 in
set_option maxRecDepth 100000 in
theorem c_X6_saysHeard (l : Launch) (Δ : gD) (a : Nat → Nat) (x1 : Int32) (x2 : Int32) (s : S6) {res : Int32} (hq : sem_X6_saysHeard x1 x2 s = some res) : MR l yX6_saysHeard cX6_saysHeard 3 (some .boolean) Δ (cs6 a Δ s) [.ref (a 0), .int x1, .int x2] 2 48 (.int res) := by
  refine MR.of (by decide) (Nat.le_of_ble_eq_true rfl) ?_
  intro Γ H hl C hK hP hR
  subst hl
  show g Γ { frames := 2, cells := 0, slots := 0, locals := 48 } 3 H [] 0 0 0 [(0, .ref (a 0)), (1, .int x1), (2, .int x2)] []
  refine g_iload_n C 1 rfl dX6_saysHeard_0 1 rfl ?_
  refine g_iload_n C 2 rfl dX6_saysHeard_1 2 rfl ?_
  refine s_icmp_eq C 18 5 rfl dX6_saysHeard_2 (by decide) hq (fun hq => ?_) (fun hq => ?_)
  · refine g_iconst 1 C 19 rfl dX6_saysHeard_18 ki_1 ?_
    refine g_goto C 23 dX6_saysHeard_19 (by decide) ?_
    exact r_int hR hq dX6_saysHeard_23 rfl rfl
  refine g_aload_n C 6 rfl dX6_saysHeard_5 0 rfl ?_
  refine g_iload_n C 7 rfl dX6_saysHeard_6 2 rfl ?_
  obtain ⟨r1, hz2, hq⟩ := bindE hq
  refine g_callRV (rest := []) C 10 rfl dX6_saysHeard_7 (c_X6_hearers Γ.2.1 Δ a x2 s hz2) mv_X6_hearers ml_X6_66 hK hP rfl rfl rfl rfl rfl ⟨Nat.le_of_ble_eq_true rfl, Nat.le_of_ble_eq_true rfl⟩ (Nat.le_of_ble_eq_true rfl) ⟨Nat.zero_le _, Nat.zero_le _⟩ ?_
  refine g_iload_n C 11 rfl dX6_saysHeard_10 1 rfl ?_
  refine g_ishr C 12 rfl dX6_saysHeard_11 ?_
  refine g_iconst 1 C 13 rfl dX6_saysHeard_12 ki_1 ?_
  refine g_iand C 14 rfl dX6_saysHeard_13 ?_
  refine g_iconst 1 C 15 rfl dX6_saysHeard_14 ki_1 ?_
  refine s_icmp_ne C 22 18 rfl dX6_saysHeard_15 (by decide) hq (fun hq => ?_) (fun hq => ?_)
  · refine g_iconst 0 C 23 rfl dX6_saysHeard_22 ki_0 ?_
    exact r_int hR hq dX6_saysHeard_23 rfl rfl
  refine g_iconst 1 C 19 rfl dX6_saysHeard_18 ki_1 ?_
  refine g_goto C 23 dX6_saysHeard_19 (by decide) ?_
  exact r_int hR hq dX6_saysHeard_23 rfl rfl
set_option maxHeartbeats 400000 in
set_option maxRecDepth 100000 in
theorem c_X6_addSight (l : Launch) (Δ : gD) (a : Nat → Nat) (x1 : Int32) (x2 : Int32) (s : S6) {res : S6} (hq : sem_X6_addSight x1 x2 s = some res) : MW l yX6_addSight cX6_addSight 4 none Δ (cs6 a Δ s) [.ref (a 0), .int x1, .int x2] 1 22 none (cs6 a Δ res) := by
  refine MW.of (by decide) (Nat.le_of_ble_eq_true rfl) ?_
  intro Γ A H hl C hK hP hD hS hA hR
  subst hl
  show g Γ { frames := 1, cells := 0, slots := 0, locals := 22 } 4 H [] 0 0 0 [(0, .ref (a 0)), (1, .int x1), (2, .int x2)] []
  refine g_aload_n C 1 rfl dX6_addSight_0 0 rfl ?_
  refine g_get (v := .int (x6_sights s)) (fs := fl6 a s) C 4 rfl dX6_addSight_1 hK hP la_X6 0 5 (Nat.le_of_ble_eq_true rfl) fl_X6_28 rfl rfl rfl rfl ?_
  refine g_iconst 0 C 5 rfl dX6_addSight_4 ki_0 ?_
  refine g_bipush 7 C 7 rfl dX6_addSight_5 kb_7 ?_
  obtain ⟨r1, hz2, hq⟩ := bindE hq
  refine g_callRS (rest := []) C 10 rfl dX6_addSight_7 (c_X8_within Γ.2.1 Δ  (x6_sights s) 0 7  hz2) mv_X8_within (Or.inr ⟨_, mn_X6_69⟩) hK rfl rfl ⟨Nat.le_of_ble_eq_true rfl, Nat.le_of_ble_eq_true rfl⟩ (Nat.le_of_ble_eq_true rfl) ⟨Nat.zero_le _, Nat.zero_le _⟩ ?_
  refine s_if_eq C 65 13 rfl dX6_addSight_10 (by decide) hq (fun hq => ?_) (fun hq => ?_)
  · exact w_void (ws := fun s => cs6 a Δ s) hR hq hP hS dX6_addSight_65 rfl
  refine g_iconst 1 C 14 rfl dX6_addSight_13 ki_1 ?_
  refine g_aload_n C 15 rfl dX6_addSight_14 0 rfl ?_
  refine g_get (v := .int (x6_sights s)) (fs := fl6 a s) C 18 rfl dX6_addSight_15 hK hP la_X6 0 5 (Nat.le_of_ble_eq_true rfl) fl_X6_28 rfl rfl rfl rfl ?_
  refine g_ishl C 19 rfl dX6_addSight_18 ?_
  refine g_istore_n [(3, .int ((1 : Int32) <<< ((x6_sights s) &&& 31))), (0, .ref (a 0)), (1, .int x1), (2, .int x2)] C 20 rfl dX6_addSight_19 (Nat.le_of_ble_eq_true rfl) rfl ?_
  refine g_aload_n C 21 rfl dX6_addSight_20 1 rfl ?_
  refine g_get (v := .ref (a 2)) (fs := fl6 a s) C 24 rfl dX6_addSight_21 hK hP la_X6 0 1 (Nat.le_of_ble_eq_true rfl) fl_X6_15 rfl rfl rfl rfl ?_
  refine g_aload_n C 25 rfl dX6_addSight_24 1 rfl ?_
  refine g_get (v := .int (x6_sights s)) (fs := fl6 a s) C 28 rfl dX6_addSight_25 hK hP la_X6 0 5 (Nat.le_of_ble_eq_true rfl) fl_X6_28 rfl rfl rfl rfl ?_
  refine g_iload_n C 29 rfl dX6_addSight_28 2 rfl ?_
  refine s_iast (cs6 a Δ (p6_asked s (upd (x6_asked s) ((x6_sights s) : Int32).toNatClampNeg x1))) C 30 rfl dX6_addSight_29 hK hP hD hS 2 rfl hq (sst_38 a Δ s (upd (x6_asked s) ((x6_sights s) : Int32).toNatClampNeg x1)) (fun hq hi3 H L hP hD hS => ?_)
  refine g_aload_n C 31 rfl dX6_addSight_30 1 rfl ?_
  refine g_iload_n C 32 rfl dX6_addSight_31 3 rfl ?_
  refine s_if_eq C 44 35 rfl dX6_addSight_32 (by decide) hq (fun hq => ?_) (fun hq => ?_)
  rotate_left
  · refine g_aload_n C 36 rfl dX6_addSight_35 1 rfl ?_
    refine g_get (v := .int (x6_heardBits (p6_asked s (upd (x6_asked s) ((x6_sights s) : Int32).toNatClampNeg x1)))) (fs := fl6 a (p6_asked s (upd (x6_asked s) ((x6_sights s) : Int32).toNatClampNeg x1))) C 39 rfl dX6_addSight_36 hK hP la_X6 0 6 (Nat.le_of_ble_eq_true rfl) fl_X6_31 rfl rfl rfl rfl ?_
    refine g_iload_n C 40 rfl dX6_addSight_39 0 rfl ?_
    refine g_ior C 41 rfl dX6_addSight_40 ?_
    refine g_goto C 52 dX6_addSight_41 (by decide) ?_
    refine g_put (fs := fl6 a (p6_asked s (upd (x6_asked s) ((x6_sights s) : Int32).toNatClampNeg x1))) (cs6 a Δ (p6_heardBits (p6_asked s (upd (x6_asked s) ((x6_sights s) : Int32).toNatClampNeg x1)) ((x6_heardBits (p6_asked s (upd (x6_asked s) ((x6_sights s) : Int32).toNatClampNeg x1))) ||| ((1 : Int32) <<< ((x6_sights s) &&& 31))))) C 55 rfl dX6_addSight_52 hK hP hD hS la_X6 tyX6_ok nmX6 0 6 (Nat.le_of_ble_eq_true rfl) fl_X6_31 rfl rfl rfl rfl rfl rfl (Nat.le_of_ble_eq_true rfl) (sst_39 a Δ (p6_asked s (upd (x6_asked s) ((x6_sights s) : Int32).toNatClampNeg x1)) ((x6_heardBits (p6_asked s (upd (x6_asked s) ((x6_sights s) : Int32).toNatClampNeg x1))) ||| ((1 : Int32) <<< ((x6_sights s) &&& 31)))) (fun H L hP hD hS => ?_)
    refine g_aload_n C 56 rfl dX6_addSight_55 1 rfl ?_
    refine g_dup C 57 rfl dX6_addSight_56 rfl ?_
    refine g_get (v := .int (x6_sights (p6_heardBits (p6_asked s (upd (x6_asked s) ((x6_sights s) : Int32).toNatClampNeg x1)) ((x6_heardBits (p6_asked s (upd (x6_asked s) ((x6_sights s) : Int32).toNatClampNeg x1))) ||| ((1 : Int32) <<< ((x6_sights s) &&& 31)))))) (fs := fl6 a (p6_heardBits (p6_asked s (upd (x6_asked s) ((x6_sights s) : Int32).toNatClampNeg x1)) ((x6_heardBits (p6_asked s (upd (x6_asked s) ((x6_sights s) : Int32).toNatClampNeg x1))) ||| ((1 : Int32) <<< ((x6_sights s) &&& 31))))) C 60 rfl dX6_addSight_57 hK hP la_X6 0 5 (Nat.le_of_ble_eq_true rfl) fl_X6_28 rfl rfl rfl rfl ?_
    refine g_iconst 1 C 61 rfl dX6_addSight_60 ki_1 ?_
    refine g_iadd C 62 rfl dX6_addSight_61 ?_
    refine g_put (fs := fl6 a (p6_heardBits (p6_asked s (upd (x6_asked s) ((x6_sights s) : Int32).toNatClampNeg x1)) ((x6_heardBits (p6_asked s (upd (x6_asked s) ((x6_sights s) : Int32).toNatClampNeg x1))) ||| ((1 : Int32) <<< ((x6_sights s) &&& 31))))) (cs6 a Δ (p6_sights (p6_heardBits (p6_asked s (upd (x6_asked s) ((x6_sights s) : Int32).toNatClampNeg x1)) ((x6_heardBits (p6_asked s (upd (x6_asked s) ((x6_sights s) : Int32).toNatClampNeg x1))) ||| ((1 : Int32) <<< ((x6_sights s) &&& 31)))) ((x6_sights (p6_heardBits (p6_asked s (upd (x6_asked s) ((x6_sights s) : Int32).toNatClampNeg x1)) ((x6_heardBits (p6_asked s (upd (x6_asked s) ((x6_sights s) : Int32).toNatClampNeg x1))) ||| ((1 : Int32) <<< ((x6_sights s) &&& 31))))) + 1))) C 65 rfl dX6_addSight_62 hK hP hD hS la_X6 tyX6_ok nmX6 0 5 (Nat.le_of_ble_eq_true rfl) fl_X6_28 rfl rfl rfl rfl rfl rfl (Nat.le_of_ble_eq_true rfl) (sst_40 a Δ (p6_heardBits (p6_asked s (upd (x6_asked s) ((x6_sights s) : Int32).toNatClampNeg x1)) ((x6_heardBits (p6_asked s (upd (x6_asked s) ((x6_sights s) : Int32).toNatClampNeg x1))) ||| ((1 : Int32) <<< ((x6_sights s) &&& 31)))) ((x6_sights (p6_heardBits (p6_asked s (upd (x6_asked s) ((x6_sights s) : Int32).toNatClampNeg x1)) ((x6_heardBits (p6_asked s (upd (x6_asked s) ((x6_sights s) : Int32).toNatClampNeg x1))) ||| ((1 : Int32) <<< ((x6_sights s) &&& 31))))) + 1)) (fun H L hP hD hS => ?_)
    exact w_void (ws := fun s => cs6 a Δ s) hR hq hP hS dX6_addSight_65 rfl
  refine g_aload_n C 45 rfl dX6_addSight_44 1 rfl ?_
  refine g_get (v := .int (x6_heardBits (p6_asked s (upd (x6_asked s) ((x6_sights s) : Int32).toNatClampNeg x1)))) (fs := fl6 a (p6_asked s (upd (x6_asked s) ((x6_sights s) : Int32).toNatClampNeg x1))) C 48 rfl dX6_addSight_45 hK hP la_X6 0 6 (Nat.le_of_ble_eq_true rfl) fl_X6_31 rfl rfl rfl rfl ?_
  refine g_iload_n C 49 rfl dX6_addSight_48 0 rfl ?_
  refine g_iconst (-1) C 50 rfl dX6_addSight_49 ki_m1 ?_
  refine g_ixor C 51 rfl dX6_addSight_50 ?_
  refine g_iand C 52 rfl dX6_addSight_51 ?_
  refine g_put (fs := fl6 a (p6_asked s (upd (x6_asked s) ((x6_sights s) : Int32).toNatClampNeg x1))) (cs6 a Δ (p6_heardBits (p6_asked s (upd (x6_asked s) ((x6_sights s) : Int32).toNatClampNeg x1)) ((x6_heardBits (p6_asked s (upd (x6_asked s) ((x6_sights s) : Int32).toNatClampNeg x1))) &&& (((1 : Int32) <<< ((x6_sights s) &&& 31)) ^^^ (-1))))) C 55 rfl dX6_addSight_52 hK hP hD hS la_X6 tyX6_ok nmX6 0 6 (Nat.le_of_ble_eq_true rfl) fl_X6_31 rfl rfl rfl rfl rfl rfl (Nat.le_of_ble_eq_true rfl) (sst_39 a Δ (p6_asked s (upd (x6_asked s) ((x6_sights s) : Int32).toNatClampNeg x1)) ((x6_heardBits (p6_asked s (upd (x6_asked s) ((x6_sights s) : Int32).toNatClampNeg x1))) &&& (((1 : Int32) <<< ((x6_sights s) &&& 31)) ^^^ (-1)))) (fun H L hP hD hS => ?_)
  refine g_aload_n C 56 rfl dX6_addSight_55 1 rfl ?_
  refine g_dup C 57 rfl dX6_addSight_56 rfl ?_
  refine g_get (v := .int (x6_sights (p6_heardBits (p6_asked s (upd (x6_asked s) ((x6_sights s) : Int32).toNatClampNeg x1)) ((x6_heardBits (p6_asked s (upd (x6_asked s) ((x6_sights s) : Int32).toNatClampNeg x1))) &&& (((1 : Int32) <<< ((x6_sights s) &&& 31)) ^^^ (-1)))))) (fs := fl6 a (p6_heardBits (p6_asked s (upd (x6_asked s) ((x6_sights s) : Int32).toNatClampNeg x1)) ((x6_heardBits (p6_asked s (upd (x6_asked s) ((x6_sights s) : Int32).toNatClampNeg x1))) &&& (((1 : Int32) <<< ((x6_sights s) &&& 31)) ^^^ (-1))))) C 60 rfl dX6_addSight_57 hK hP la_X6 0 5 (Nat.le_of_ble_eq_true rfl) fl_X6_28 rfl rfl rfl rfl ?_
  refine g_iconst 1 C 61 rfl dX6_addSight_60 ki_1 ?_
  refine g_iadd C 62 rfl dX6_addSight_61 ?_
  refine g_put (fs := fl6 a (p6_heardBits (p6_asked s (upd (x6_asked s) ((x6_sights s) : Int32).toNatClampNeg x1)) ((x6_heardBits (p6_asked s (upd (x6_asked s) ((x6_sights s) : Int32).toNatClampNeg x1))) &&& (((1 : Int32) <<< ((x6_sights s) &&& 31)) ^^^ (-1))))) (cs6 a Δ (p6_sights (p6_heardBits (p6_asked s (upd (x6_asked s) ((x6_sights s) : Int32).toNatClampNeg x1)) ((x6_heardBits (p6_asked s (upd (x6_asked s) ((x6_sights s) : Int32).toNatClampNeg x1))) &&& (((1 : Int32) <<< ((x6_sights s) &&& 31)) ^^^ (-1)))) ((x6_sights (p6_heardBits (p6_asked s (upd (x6_asked s) ((x6_sights s) : Int32).toNatClampNeg x1)) ((x6_heardBits (p6_asked s (upd (x6_asked s) ((x6_sights s) : Int32).toNatClampNeg x1))) &&& (((1 : Int32) <<< ((x6_sights s) &&& 31)) ^^^ (-1))))) + 1))) C 65 rfl dX6_addSight_62 hK hP hD hS la_X6 tyX6_ok nmX6 0 5 (Nat.le_of_ble_eq_true rfl) fl_X6_28 rfl rfl rfl rfl rfl rfl (Nat.le_of_ble_eq_true rfl) (sst_40 a Δ (p6_heardBits (p6_asked s (upd (x6_asked s) ((x6_sights s) : Int32).toNatClampNeg x1)) ((x6_heardBits (p6_asked s (upd (x6_asked s) ((x6_sights s) : Int32).toNatClampNeg x1))) &&& (((1 : Int32) <<< ((x6_sights s) &&& 31)) ^^^ (-1)))) ((x6_sights (p6_heardBits (p6_asked s (upd (x6_asked s) ((x6_sights s) : Int32).toNatClampNeg x1)) ((x6_heardBits (p6_asked s (upd (x6_asked s) ((x6_sights s) : Int32).toNatClampNeg x1))) &&& (((1 : Int32) <<< ((x6_sights s) &&& 31)) ^^^ (-1))))) + 1)) (fun H L hP hD hS => ?_)
  exact w_void (ws := fun s => cs6 a Δ s) hR hq hP hS dX6_addSight_65 rfl
set_option maxHeartbeats 400000 in
set_option maxRecDepth 100000 in
theorem c_X6_allSightsFit (l : Launch) (Δ : gD) (a : Nat → Nat) (x1 : Int32) (s : S6) {res : Int32} (hq : sem_X6_allSightsFit x1 s = some res) : MR l yX6_allSightsFit cX6_allSightsFit 4 (some .boolean) Δ (cs6 a Δ s) [.ref (a 0), .int x1] 3 70 (.int res) := by
  refine MR.of (by decide) (Nat.le_of_ble_eq_true rfl) ?_
  intro Γ H hl C hK hP hR
  subst hl
  show g Γ { frames := 3, cells := 0, slots := 0, locals := 70 } 4 H [] 0 0 0 [(0, .ref (a 0)), (1, .int x1)] []
  refine g_iconst 0 C 1 rfl dX6_allSightsFit_0 ki_0 ?_
  refine g_istore_n [(2, .int 0), (0, .ref (a 0)), (1, .int x1)] C 2 rfl dX6_allSightsFit_1 (Nat.le_of_ble_eq_true rfl) rfl ?_
  have Q2 : ∀ (x1 : Int32), ∀ (n : Nat) (x2 : Int32) (o : ((Int32) ⊕ (Unit))) (hq : lp_X6_allSightsFit_2 x1 s n x2 = some o) (E1 : ∀ r, o = .inl r → gRet Γ { frames := 3, cells := 0, slots := 0, locals := 70 } 4 cX6_allSightsFit (some .boolean) H (.int r)) (E2 : ∀ x, o = .inr x → g Γ { frames := 3, cells := 0, slots := 0, locals := 70 } 4 H [] 0 0 70 [] []), g Γ { frames := 3, cells := 0, slots := 0, locals := 70 } 4 H [] 0 0 2 [(0, .ref (a 0)), (1, .int x1), (2, .int x2)] [] := by
    intro x1
    intro n
    induction n with
    | zero => intro x2 o hq; exact nomatch (show (none : Option ((Int32) ⊕ (Unit))) = some o from hq)
    | succ n ih =>
      intro x2 o hq E1 E2
      have hq : bd_X6_allSightsFit_2 x1 s (lp_X6_allSightsFit_2 x1 s n) x2 = some o := hq
      have K33 : ∀ (x2 : Int32) (y0 : Int32), jn_X6_allSightsFit_33 (lp_X6_allSightsFit_2 x1 s n) x1 x2 y0 s = some o → g Γ { frames := 3, cells := 0, slots := 0, locals := 70 } 4 H [] 0 0 33 [(0, .ref (a 0)), (1, .int x1), (2, .int x2)] [.int y0] := by
        intro x2 y0 hq
        refine g_istore_n [(3, .int y0), (0, .ref (a 0)), (1, .int x1), (2, .int x2)] C 34 rfl dX6_allSightsFit_33 (Nat.le_of_ble_eq_true rfl) rfl ?_
        refine g_aload_n C 35 rfl dX6_allSightsFit_34 1 rfl ?_
        refine g_aload_n C 36 rfl dX6_allSightsFit_35 1 rfl ?_
        refine g_get (v := .ref (a 2)) (fs := fl6 a s) C 39 rfl dX6_allSightsFit_36 hK hP la_X6 0 1 (Nat.le_of_ble_eq_true rfl) fl_X6_15 rfl rfl rfl rfl ?_
        refine g_iload_n C 40 rfl dX6_allSightsFit_39 3 rfl ?_
        refine s_iald C 41 rfl dX6_allSightsFit_40 hK hP 2 rfl hq (fun hq hi1 => ?_)
        obtain ⟨r2, hz3, hq⟩ := bindE hq
        refine g_callRV (rest := []) C 44 rfl dX6_allSightsFit_41 (c_X6_has Γ.2.1 Δ a ((x6_asked s) (x2 : Int32).toNatClampNeg) s hz3) mv_X6_has ml_X6_50 hK hP rfl rfl rfl rfl rfl ⟨Nat.le_of_ble_eq_true rfl, Nat.le_of_ble_eq_true rfl⟩ (Nat.le_of_ble_eq_true rfl) ⟨Nat.zero_le _, Nat.zero_le _⟩ ?_
        refine s_if_eq C 62 47 rfl dX6_allSightsFit_44 (by decide) hq (fun hq => ?_) (fun hq => ?_)
        · refine g_iconst 0 C 63 rfl dX6_allSightsFit_62 ki_0 ?_
          cases hq
          exact r_int (E1 _ rfl) rfl dX6_allSightsFit_63 rfl rfl
        refine g_aload_n C 48 rfl dX6_allSightsFit_47 1 rfl ?_
        refine g_aload_n C 49 rfl dX6_allSightsFit_48 1 rfl ?_
        refine g_get (v := .ref (a 2)) (fs := fl6 a s) C 52 rfl dX6_allSightsFit_49 hK hP la_X6 0 1 (Nat.le_of_ble_eq_true rfl) fl_X6_15 rfl rfl rfl rfl ?_
        refine g_iload_n C 53 rfl dX6_allSightsFit_52 3 rfl ?_
        refine g_iald C 54 rfl dX6_allSightsFit_53 hK hP 2 rfl hi1 ?_
        refine g_iload_n C 55 rfl dX6_allSightsFit_54 2 rfl ?_
        obtain ⟨r4, hz5, hq⟩ := bindE hq
        refine g_callRV (rest := []) C 58 rfl dX6_allSightsFit_55 (c_X6_saysHeard Γ.2.1 Δ a ((x6_asked s) (x2 : Int32).toNatClampNeg) x1 s hz5) mv_X6_saysHeard ml_X6_76 hK hP rfl rfl rfl rfl rfl ⟨Nat.le_of_ble_eq_true rfl, Nat.le_of_ble_eq_true rfl⟩ (Nat.le_of_ble_eq_true rfl) ⟨Nat.zero_le _, Nat.zero_le _⟩ ?_
        refine g_iload_n C 59 rfl dX6_allSightsFit_58 0 rfl ?_
        refine s_icmp_eq C 64 62 rfl dX6_allSightsFit_59 (by decide) hq (fun hq => ?_) (fun hq => ?_)
        · refine g_iinc (x2 + 1) [(2, .int (x2 + 1)), (3, .int y0), (0, .ref (a 0)), (1, .int x1)] C 67 rfl dX6_allSightsFit_64 3 rfl (ii_1 _) (Nat.le_of_ble_eq_true rfl) rfl ?_
          refine g_goto C 2 dX6_allSightsFit_67 (by decide) ?_
          exact g_sub [2, 3, 0] rfl (ih (x2 + 1) _ hq E1 E2)
        refine g_iconst 0 C 63 rfl dX6_allSightsFit_62 ki_0 ?_
        cases hq
        exact r_int (E1 _ rfl) rfl dX6_allSightsFit_63 rfl rfl
      refine g_iload_n C 3 rfl dX6_allSightsFit_2 2 rfl ?_
      refine g_aload_n C 4 rfl dX6_allSightsFit_3 0 rfl ?_
      refine g_get (v := .int (x6_sights s)) (fs := fl6 a s) C 7 rfl dX6_allSightsFit_4 hK hP la_X6 0 5 (Nat.le_of_ble_eq_true rfl) fl_X6_28 rfl rfl rfl rfl ?_
      refine s_icmp_ge C 70 10 rfl dX6_allSightsFit_7 (by decide) hq (fun hq => ?_) (fun hq => ?_)
      · cases hq
        exact g_sub [] rfl (E2 _ rfl )
      refine g_iload_n C 11 rfl dX6_allSightsFit_10 2 rfl ?_
      refine g_bipush 8 C 13 rfl dX6_allSightsFit_11 kb_8 ?_
      refine s_icmp_ge C 70 16 rfl dX6_allSightsFit_13 (by decide) hq (fun hq => ?_) (fun hq => ?_)
      · cases hq
        exact g_sub [] rfl (E2 _ rfl )
      refine g_aload_n C 17 rfl dX6_allSightsFit_16 0 rfl ?_
      refine g_get (v := .int (x6_heardBits s)) (fs := fl6 a s) C 20 rfl dX6_allSightsFit_17 hK hP la_X6 0 6 (Nat.le_of_ble_eq_true rfl) fl_X6_31 rfl rfl rfl rfl ?_
      refine g_iload_n C 21 rfl dX6_allSightsFit_20 2 rfl ?_
      refine g_ishr C 22 rfl dX6_allSightsFit_21 ?_
      refine g_iconst 1 C 23 rfl dX6_allSightsFit_22 ki_1 ?_
      refine g_iand C 24 rfl dX6_allSightsFit_23 ?_
      refine g_iconst 1 C 25 rfl dX6_allSightsFit_24 ki_1 ?_
      refine s_icmp_ne C 32 28 rfl dX6_allSightsFit_25 (by decide) hq (fun hq => ?_) (fun hq => ?_)
      · refine g_iconst 0 C 33 rfl dX6_allSightsFit_32 ki_0 ?_
        exact g_sub [0, 1, 2] rfl (K33 x2 0 hq)
      refine g_iconst 1 C 29 rfl dX6_allSightsFit_28 ki_1 ?_
      refine g_goto C 33 dX6_allSightsFit_29 (by decide) ?_
      exact g_sub [0, 1, 2] rfl (K33 x2 1 hq)
  obtain ⟨o6, ho7, hq⟩ := bindE hq
  refine g_sub [1, 2, 0] rfl (Q2 x1 FUEL 0 o6 ho7 (fun r er => ?_) (fun xo6 er => ?_))
  · rw [er] at hq
    cases hq
    exact hR
  rw [er] at hq
  clear er
  refine g_iconst 1 C 71 rfl dX6_allSightsFit_70 ki_1 ?_
  exact r_int hR hq dX6_allSightsFit_71 rfl rfl
set_option maxHeartbeats 400000 in
set_option maxRecDepth 100000 in
theorem c_X6_suspects (l : Launch) (Δ : gD) (a : Nat → Nat)  (s : S6) {res : Int32} (hq : sem_X6_suspects  s = some res) : MR l yX6_suspects cX6_suspects 3 (some .int) Δ (cs6 a Δ s) [.ref (a 0)] 4 93 (.int res) := by
  refine MR.of (by decide) (Nat.le_of_ble_eq_true rfl) ?_
  intro Γ H hl C hK hP hR
  subst hl
  show g Γ { frames := 4, cells := 0, slots := 0, locals := 93 } 3 H [] 0 0 0 [(0, .ref (a 0))] []
  refine g_iconst 0 C 1 rfl dX6_suspects_0 ki_0 ?_
  refine g_istore_n [(1, .int 0), (0, .ref (a 0))] C 2 rfl dX6_suspects_1 (Nat.le_of_ble_eq_true rfl) rfl ?_
  refine g_iconst 0 C 3 rfl dX6_suspects_2 ki_0 ?_
  refine g_istore_n [(2, .int 0), (1, .int 0), (0, .ref (a 0))] C 4 rfl dX6_suspects_3 (Nat.le_of_ble_eq_true rfl) rfl ?_
  have Q4 : ∀ (n : Nat) (x1 : Int32) (x2 : Int32) (o : (Int32)) (hq : lp_X6_suspects_4 s n x1 x2 = some o) (E2 : g Γ { frames := 4, cells := 0, slots := 0, locals := 93 } 3 H [] 0 0 38 [(1, .int o)] []), g Γ { frames := 4, cells := 0, slots := 0, locals := 93 } 3 H [] 0 0 4 [(0, .ref (a 0)), (1, .int x1), (2, .int x2)] [] := by
    intro n
    induction n with
    | zero => intro x1 x2 o hq; exact nomatch (show (none : Option (Int32)) = some o from hq)
    | succ n ih =>
      intro x1 x2 o hq E2
      have hq : bd_X6_suspects_4 s (lp_X6_suspects_4 s n) x1 x2 = some o := hq
      refine g_iload_n C 5 rfl dX6_suspects_4 2 rfl ?_
      refine g_bipush 6 C 7 rfl dX6_suspects_5 kb_6 ?_
      refine s_icmp_ge C 38 10 rfl dX6_suspects_7 (by decide) hq (fun hq => ?_) (fun hq => ?_)
      · cases hq
        exact g_sub [1] rfl (E2 )
      refine g_aload_n C 11 rfl dX6_suspects_10 0 rfl ?_
      refine g_iload_n C 12 rfl dX6_suspects_11 2 rfl ?_
      obtain ⟨r1, hz2, hq⟩ := bindE hq
      refine g_callRV (rest := []) C 15 rfl dX6_suspects_12 (c_X6_has Γ.2.1 Δ a x2 s hz2) mv_X6_has ml_X6_50 hK hP rfl rfl rfl rfl rfl ⟨Nat.le_of_ble_eq_true rfl, Nat.le_of_ble_eq_true rfl⟩ (Nat.le_of_ble_eq_true rfl) ⟨Nat.zero_le _, Nat.zero_le _⟩ ?_
      refine s_if_eq C 32 18 rfl dX6_suspects_15 (by decide) hq (fun hq => ?_) (fun hq => ?_)
      · refine g_iinc (x2 + 1) [(2, .int (x2 + 1)), (0, .ref (a 0)), (1, .int x1)] C 35 rfl dX6_suspects_32 2 rfl (ii_1 _) (Nat.le_of_ble_eq_true rfl) rfl ?_
        refine g_goto C 4 dX6_suspects_35 (by decide) ?_
        exact g_sub [1, 2, 0] rfl (ih x1 (x2 + 1) _ hq E2)
      refine g_aload_n C 19 rfl dX6_suspects_18 0 rfl ?_
      refine g_iload_n C 20 rfl dX6_suspects_19 2 rfl ?_
      obtain ⟨r3, hz4, hq⟩ := bindE hq
      refine g_callRV (rest := []) C 23 rfl dX6_suspects_20 (c_X6_allSightsFit Γ.2.1 Δ a x2 s hz4) mv_X6_allSightsFit ml_X6_73 hK hP rfl rfl rfl rfl rfl ⟨Nat.le_of_ble_eq_true rfl, Nat.le_of_ble_eq_true rfl⟩ (Nat.le_of_ble_eq_true rfl) ⟨Nat.zero_le _, Nat.zero_le _⟩ ?_
      refine s_if_eq C 32 26 rfl dX6_suspects_23 (by decide) hq (fun hq => ?_) (fun hq => ?_)
      · refine g_iinc (x2 + 1) [(2, .int (x2 + 1)), (0, .ref (a 0)), (1, .int x1)] C 35 rfl dX6_suspects_32 2 rfl (ii_1 _) (Nat.le_of_ble_eq_true rfl) rfl ?_
        refine g_goto C 4 dX6_suspects_35 (by decide) ?_
        exact g_sub [1, 2, 0] rfl (ih x1 (x2 + 1) _ hq E2)
      refine g_iload_n C 27 rfl dX6_suspects_26 1 rfl ?_
      refine g_iconst 1 C 28 rfl dX6_suspects_27 ki_1 ?_
      refine g_iload_n C 29 rfl dX6_suspects_28 2 rfl ?_
      refine g_ishl C 30 rfl dX6_suspects_29 ?_
      refine g_ior C 31 rfl dX6_suspects_30 ?_
      refine g_istore_n [(1, .int (x1 ||| ((1 : Int32) <<< (x2 &&& 31)))), (0, .ref (a 0)), (2, .int x2)] C 32 rfl dX6_suspects_31 (Nat.le_of_ble_eq_true rfl) rfl ?_
      refine g_iinc (x2 + 1) [(2, .int (x2 + 1)), (1, .int (x1 ||| ((1 : Int32) <<< (x2 &&& 31)))), (0, .ref (a 0))] C 35 rfl dX6_suspects_32 2 rfl (ii_1 _) (Nat.le_of_ble_eq_true rfl) rfl ?_
      refine g_goto C 4 dX6_suspects_35 (by decide) ?_
      exact g_sub [2, 1, 0] rfl (ih (x1 ||| ((1 : Int32) <<< (x2 &&& 31))) (x2 + 1) _ hq E2)
  obtain ⟨o5, ho6, hq⟩ := bindE hq
  refine g_sub [2, 1, 0] rfl (Q4  FUEL 0 0 o5 ho6 (?_))
  refine g_iload_n C 39 rfl dX6_suspects_38 0 rfl ?_
  exact r_int hR hq dX6_suspects_39 rfl rfl
set_option maxHeartbeats 400000 in
set_option maxRecDepth 100000 in
theorem c_X6_mostLeft (l : Launch) (Δ : gD) (a : Nat → Nat) (x1 : Int32) (x2 : Int32) (s : S6) {res : Int32} (hq : sem_X6_mostLeft x1 x2 s = some res) : MR l yX6_mostLeft cX6_mostLeft 5 (some .int) Δ (cs6 a Δ s) [.ref (a 0), .int x1, .int x2] 3 70 (.int res) := by
  refine MR.of (by decide) (Nat.le_of_ble_eq_true rfl) ?_
  intro Γ H hl C hK hP hR
  subst hl
  show g Γ { frames := 3, cells := 0, slots := 0, locals := 70 } 5 H [] 0 0 0 [(0, .ref (a 0)), (1, .int x1), (2, .int x2)] []
  refine g_iconst 0 C 1 rfl dX6_mostLeft_0 ki_0 ?_
  refine g_istore_n [(3, .int 0), (0, .ref (a 0)), (1, .int x1), (2, .int x2)] C 2 rfl dX6_mostLeft_1 (Nat.le_of_ble_eq_true rfl) rfl ?_
  refine g_iconst 0 C 3 rfl dX6_mostLeft_2 ki_0 ?_
  refine g_istore [(4, .int 0), (3, .int 0), (0, .ref (a 0)), (1, .int x1), (2, .int x2)] C 5 rfl dX6_mostLeft_3 (Nat.le_of_ble_eq_true rfl) rfl ?_
  have Q5 : ∀ (x1 : Int32) (x2 : Int32), ∀ (n : Nat) (x3 : Int32) (x4 : Int32) (o : (Int32)) (hq : lp_X6_mostLeft_5 x1 x2 s n x3 x4 = some o) (E2 : g Γ { frames := 3, cells := 0, slots := 0, locals := 70 } 5 H [] 0 0 41 [(1, .int x1), (3, .int o)] []), g Γ { frames := 3, cells := 0, slots := 0, locals := 70 } 5 H [] 0 0 5 [(0, .ref (a 0)), (1, .int x1), (2, .int x2), (3, .int x3), (4, .int x4)] [] := by
    intro x1 x2
    intro n
    induction n with
    | zero => intro x3 x4 o hq; exact nomatch (show (none : Option (Int32)) = some o from hq)
    | succ n ih =>
      intro x3 x4 o hq E2
      have hq : bd_X6_mostLeft_5 x1 x2 s (lp_X6_mostLeft_5 x1 x2 s n) x3 x4 = some o := hq
      refine g_iload C 7 rfl dX6_mostLeft_5 4 rfl ?_
      refine g_bipush 6 C 9 rfl dX6_mostLeft_7 kb_6 ?_
      refine s_icmp_ge C 41 12 rfl dX6_mostLeft_9 (by decide) hq (fun hq => ?_) (fun hq => ?_)
      · cases hq
        exact g_sub [1, 3] rfl (E2 )
      refine g_iload_n C 13 rfl dX6_mostLeft_12 1 rfl ?_
      refine g_iload C 15 rfl dX6_mostLeft_13 4 rfl ?_
      refine g_ishr C 16 rfl dX6_mostLeft_15 ?_
      refine g_iconst 1 C 17 rfl dX6_mostLeft_16 ki_1 ?_
      refine g_iand C 18 rfl dX6_mostLeft_17 ?_
      refine g_iconst 1 C 19 rfl dX6_mostLeft_18 ki_1 ?_
      refine s_icmp_ne C 35 22 rfl dX6_mostLeft_19 (by decide) hq (fun hq => ?_) (fun hq => ?_)
      · refine g_iinc (x4 + 1) [(4, .int (x4 + 1)), (0, .ref (a 0)), (1, .int x1), (2, .int x2), (3, .int x3)] C 38 rfl dX6_mostLeft_35 4 rfl (ii_1 _) (Nat.le_of_ble_eq_true rfl) rfl ?_
        refine g_goto C 5 dX6_mostLeft_38 (by decide) ?_
        exact g_sub [1, 2, 3, 4, 0] rfl (ih x3 (x4 + 1) _ hq E2)
      refine g_aload_n C 23 rfl dX6_mostLeft_22 0 rfl ?_
      refine g_iload_n C 24 rfl dX6_mostLeft_23 2 rfl ?_
      refine g_iload C 26 rfl dX6_mostLeft_24 4 rfl ?_
      obtain ⟨r1, hz2, hq⟩ := bindE hq
      refine g_callRV (rest := []) C 29 rfl dX6_mostLeft_26 (c_X6_saysHeard Γ.2.1 Δ a x2 x4 s hz2) mv_X6_saysHeard ml_X6_76 hK hP rfl rfl rfl rfl rfl ⟨Nat.le_of_ble_eq_true rfl, Nat.le_of_ble_eq_true rfl⟩ (Nat.le_of_ble_eq_true rfl) ⟨Nat.zero_le _, Nat.zero_le _⟩ ?_
      refine s_if_eq C 35 32 rfl dX6_mostLeft_29 (by decide) hq (fun hq => ?_) (fun hq => ?_)
      · refine g_iinc (x4 + 1) [(4, .int (x4 + 1)), (0, .ref (a 0)), (1, .int x1), (2, .int x2), (3, .int x3)] C 38 rfl dX6_mostLeft_35 4 rfl (ii_1 _) (Nat.le_of_ble_eq_true rfl) rfl ?_
        refine g_goto C 5 dX6_mostLeft_38 (by decide) ?_
        exact g_sub [1, 2, 3, 4, 0] rfl (ih x3 (x4 + 1) _ hq E2)
      refine g_iinc (x3 + 1) [(3, .int (x3 + 1)), (0, .ref (a 0)), (1, .int x1), (2, .int x2), (4, .int x4)] C 35 rfl dX6_mostLeft_32 3 rfl (ii_1 _) (Nat.le_of_ble_eq_true rfl) rfl ?_
      refine g_iinc (x4 + 1) [(4, .int (x4 + 1)), (3, .int (x3 + 1)), (0, .ref (a 0)), (1, .int x1), (2, .int x2)] C 38 rfl dX6_mostLeft_35 4 rfl (ii_1 _) (Nat.le_of_ble_eq_true rfl) rfl ?_
      refine g_goto C 5 dX6_mostLeft_38 (by decide) ?_
      exact g_sub [2, 3, 4, 1, 0] rfl (ih (x3 + 1) (x4 + 1) _ hq E2)
  obtain ⟨o3, ho4, hq⟩ := bindE hq
  refine g_sub [2, 3, 4, 1, 0] rfl (Q5 x1 x2 FUEL 0 0 o3 ho4 (?_))
  refine g_iload_n C 42 rfl dX6_mostLeft_41 1 rfl ?_
  refine g_iload_n C 43 rfl dX6_mostLeft_42 0 rfl ?_
  obtain ⟨r5, hz6, hq⟩ := bindE hq
  refine g_callRS (rest := [.int o3]) C 46 rfl dX6_mostLeft_43 (c_J6_bitCount_0f7a4 Γ.2.1 Δ  x1  hz6) mv_J6_bitCount_0f7a4 (Or.inl ml_X6_40) hK rfl rfl ⟨Nat.le_of_ble_eq_true rfl, Nat.le_of_ble_eq_true rfl⟩ (Nat.le_of_ble_eq_true rfl) ⟨Nat.zero_le _, Nat.zero_le _⟩ ?_
  refine g_iload_n C 47 rfl dX6_mostLeft_46 1 rfl ?_
  refine g_isub C 48 rfl dX6_mostLeft_47 ?_
  refine g_mmax C 51 rfl dX6_mostLeft_48 ml_X6_58 mth_max ⟨Nat.le_of_ble_eq_true rfl, Nat.le_of_ble_eq_true rfl⟩ ⟨Nat.zero_le _, Nat.zero_le _⟩ ?_
  exact r_int hR hq dX6_mostLeft_51 rfl rfl
set_option maxHeartbeats 400000 in
set_option maxRecDepth 100000 in
theorem c_X8_commonDivisor (l : Launch) (Δ : gD)  (x0 : Int64) (x2 : Int64)  {res : Int64} (hq : sem_X8_commonDivisor x0 x2  = some res) : MR l yX8_commonDivisor cX8_commonDivisor 11 (some .long) Δ ([]) [.long x0, .long x2] 1 24 (.long res) := by
  refine MR.of (by decide) (Nat.le_of_ble_eq_true rfl) ?_
  intro Γ H hl C hK hP hR
  subst hl
  show g Γ { frames := 1, cells := 0, slots := 0, locals := 24 } 11 H [] 0 0 0 [(0, .long x0), (2, .long x2)] []
  refine g_lload_n C 1 rfl dX8_commonDivisor_0 0 rfl ?_
  refine g_lstore [(4, .long x0), (0, .long x0), (2, .long x2)] C 3 rfl dX8_commonDivisor_1 (Nat.le_of_ble_eq_true rfl) rfl ?_
  refine g_lload_n C 4 rfl dX8_commonDivisor_3 2 rfl ?_
  refine g_lstore [(6, .long x2), (4, .long x0), (0, .long x0), (2, .long x2)] C 6 rfl dX8_commonDivisor_4 (Nat.le_of_ble_eq_true rfl) rfl ?_
  refine g_iconst 0 C 7 rfl dX8_commonDivisor_6 ki_0 ?_
  refine g_istore [(8, .int 0), (6, .long x2), (4, .long x0), (0, .long x0), (2, .long x2)] C 9 rfl dX8_commonDivisor_7 (Nat.le_of_ble_eq_true rfl) rfl ?_
  have Q9 : ∀ (n : Nat) (x4 : Int64) (x6 : Int64) (x8 : Int32) (o : (Int64)) (hq : lp_X8_commonDivisor_9  n x4 x6 x8 = some o) (E2 : g Γ { frames := 1, cells := 0, slots := 0, locals := 24 } 11 H [] 0 0 45 [(4, .long o)] []), g Γ { frames := 1, cells := 0, slots := 0, locals := 24 } 11 H [] 0 0 9 [(4, .long x4), (6, .long x6), (8, .int x8)] [] := by
    intro n
    induction n with
    | zero => intro x4 x6 x8 o hq; exact nomatch (show (none : Option (Int64)) = some o from hq)
    | succ n ih =>
      intro x4 x6 x8 o hq E2
      have hq : bd_X8_commonDivisor_9  (lp_X8_commonDivisor_9  n) x4 x6 x8 = some o := hq
      refine g_iload C 11 rfl dX8_commonDivisor_9 2 rfl ?_
      refine g_sipush 1000 C 14 rfl dX8_commonDivisor_11 ks_1000 ?_
      refine s_icmp_ge C 45 17 rfl dX8_commonDivisor_14 (by decide) hq (fun hq => ?_) (fun hq => ?_)
      · cases hq
        exact g_sub [0] rfl (E2 )
      refine g_lload C 19 rfl dX8_commonDivisor_17 1 rfl ?_
      refine g_lconst 0 C 20 rfl dX8_commonDivisor_19 kl_0 ?_
      refine g_lcmp C 21 rfl dX8_commonDivisor_20 ?_
      refine s_if_eq C 45 24 rfl dX8_commonDivisor_21 (by decide) hq (fun hq => ?_) (fun hq => ?_)
      · cases hq
        exact g_sub [0] rfl (E2 )
      refine g_lload C 26 rfl dX8_commonDivisor_24 0 rfl ?_
      refine g_lload C 28 rfl dX8_commonDivisor_26 1 rfl ?_
      obtain ⟨hz1, hq⟩ := dzl_some hq
      refine g_lrem C 29 rfl dX8_commonDivisor_28 hz1 ?_
      refine g_lstore [(9, .long (jreml x4 x6)), (4, .long x4), (6, .long x6), (8, .int x8)] C 31 rfl dX8_commonDivisor_29 (Nat.le_of_ble_eq_true rfl) rfl ?_
      refine g_lload C 33 rfl dX8_commonDivisor_31 2 rfl ?_
      refine g_lstore [(4, .long x6), (9, .long (jreml x4 x6)), (6, .long x6), (8, .int x8)] C 35 rfl dX8_commonDivisor_33 (Nat.le_of_ble_eq_true rfl) rfl ?_
      refine g_lload C 37 rfl dX8_commonDivisor_35 1 rfl ?_
      refine g_lstore [(6, .long (jreml x4 x6)), (4, .long x6), (9, .long (jreml x4 x6)), (8, .int x8)] C 39 rfl dX8_commonDivisor_37 (Nat.le_of_ble_eq_true rfl) rfl ?_
      refine g_iinc (x8 + 1) [(8, .int (x8 + 1)), (6, .long (jreml x4 x6)), (4, .long x6), (9, .long (jreml x4 x6))] C 42 rfl dX8_commonDivisor_39 3 rfl (ii_1 _) (Nat.le_of_ble_eq_true rfl) rfl ?_
      refine g_goto C 9 dX8_commonDivisor_42 (by decide) ?_
      exact g_sub [2, 1, 0] rfl (ih x6 (jreml x4 x6) (x8 + 1) _ hq E2)
  obtain ⟨o2, ho3, hq⟩ := bindE hq
  refine g_sub [2, 1, 0] rfl (Q9  FUEL x0 x2 0 o2 ho3 (?_))
  refine g_lconst 1 C 46 rfl dX8_commonDivisor_45 kl_1 ?_
  refine g_lload C 48 rfl dX8_commonDivisor_46 0 rfl ?_
  refine g_mmaxl C 51 rfl dX8_commonDivisor_48 ml_X8_236 mth_maxl ⟨Nat.le_of_ble_eq_true rfl, Nat.le_of_ble_eq_true rfl⟩ ⟨Nat.zero_le _, Nat.zero_le _⟩ ?_
  exact r_long hR hq dX8_commonDivisor_51 rfl
