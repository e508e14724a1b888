set_option maxHeartbeats 400000 in
set_option maxRecDepth 100000 in
theorem c_X9_in (l : Launch) (Δ : gD)  (x0 : Int64) (x2 : Int64) (x4 : Int64)  {res : Int32} (hq : sem_X9_in x0 x2 x4  = some res) : MR l yX9_in cX9_in 6 (some .boolean) Δ ([]) [.long x0, .long x2, .long x4] 0 0 (.int res) := by
  refine MR.of (by decide) (Nat.le_of_ble_eq_true rfl) ?_
  intro Γ H hl C hK hP hR
  subst hl
  show g Γ { frames := 0, cells := 0, slots := 0, locals := 0 } 6 H [] 0 0 0 [(0, .long x0), (2, .long x2), (4, .long x4)] []
  refine g_lload_n C 1 rfl dX9_in_0 0 rfl ?_
  refine g_lload_n C 2 rfl dX9_in_1 1 rfl ?_
  refine g_lcmp C 3 rfl dX9_in_2 ?_
  refine s_if_lt C 17 6 rfl dX9_in_3 (by decide) hq (fun hq => ?_) (fun hq => ?_)
  · refine g_iconst 0 C 18 rfl dX9_in_17 ki_0 ?_
    exact r_int hR hq dX9_in_18 rfl rfl
  refine g_lload_n C 7 rfl dX9_in_6 0 rfl ?_
  refine g_lload C 9 rfl dX9_in_7 2 rfl ?_
  refine g_lcmp C 10 rfl dX9_in_9 ?_
  refine s_if_gt C 17 13 rfl dX9_in_10 (by decide) hq (fun hq => ?_) (fun hq => ?_)
  · refine g_iconst 0 C 18 rfl dX9_in_17 ki_0 ?_
    exact r_int hR hq dX9_in_18 rfl rfl
  refine g_iconst 1 C 14 rfl dX9_in_13 ki_1 ?_
  refine g_goto C 18 dX9_in_14 (by decide) ?_
  exact r_int hR hq dX9_in_18 rfl rfl
set_option maxHeartbeats 400000 in
set_option maxRecDepth 100000 in
theorem c_X9_ones (l : Launch) (Δ : gD)  (x0 : Int32)  {res : Int32} (hq : sem_X9_ones x0  = some res) : MR l yX9_ones cX9_ones 3 (some .int) Δ ([]) [.int x0] 0 0 (.int res) := by
  refine MR.of (by decide) (Nat.le_of_ble_eq_true rfl) ?_
  intro Γ H hl C hK hP hR
  subst hl
  show g Γ { frames := 0, cells := 0, slots := 0, locals := 0 } 3 H [] 0 0 0 [(0, .int x0)] []
  refine g_iconst 0 C 1 rfl dX9_ones_0 ki_0 ?_
  refine g_istore_n [(1, .int 0), (0, .int x0)] C 2 rfl dX9_ones_1 (Nat.le_of_ble_eq_true rfl) rfl ?_
  refine g_iload_n C 3 rfl dX9_ones_2 1 rfl ?_
  refine g_istore_n [(2, .int x0), (1, .int 0), (0, .int x0)] C 4 rfl dX9_ones_3 (Nat.le_of_ble_eq_true rfl) rfl ?_
  have Q4 : ∀ (n : Nat) (x1 : Int32) (x2 : Int32) (o : (Int32)) (hq : lp_X9_ones_4  n x1 x2 = some o) (E2 : g Γ { frames := 0, cells := 0, slots := 0, locals := 0 } 3 H [] 0 0 20 [(1, .int o)] []), g Γ { frames := 0, cells := 0, slots := 0, locals := 0 } 3 H [] 0 0 4 [(1, .int x1), (2, .int x2)] [] := by
    intro n
    induction n with
    | zero => intro x1 x2 o hq; exact nomatch (show (none : Option (Int32)) = some o from hq)
    | succ n ih =>
      intro x1 x2 o hq E2
      have hq : bd_X9_ones_4  (lp_X9_ones_4  n) x1 x2 = some o := hq
      refine g_iload_n C 5 rfl dX9_ones_4 1 rfl ?_
      refine s_if_eq C 20 8 rfl dX9_ones_5 (by decide) hq (fun hq => ?_) (fun hq => ?_)
      · cases hq
        exact g_sub [0] rfl (E2 )
      refine g_iinc (x1 + 1) [(1, .int (x1 + 1)), (2, .int x2)] C 11 rfl dX9_ones_8 0 rfl (ii_1 _) (Nat.le_of_ble_eq_true rfl) rfl ?_
      refine g_iload_n C 12 rfl dX9_ones_11 1 rfl ?_
      refine g_iload_n C 13 rfl dX9_ones_12 1 rfl ?_
      refine g_iconst 1 C 14 rfl dX9_ones_13 ki_1 ?_
      refine g_isub C 15 rfl dX9_ones_14 ?_
      refine g_iand C 16 rfl dX9_ones_15 ?_
      refine g_istore_n [(2, .int (x2 &&& (x2 - 1))), (1, .int (x1 + 1))] C 17 rfl dX9_ones_16 (Nat.le_of_ble_eq_true rfl) rfl ?_
      refine g_goto C 4 dX9_ones_17 (by decide) ?_
      exact g_sub [1, 0] rfl (ih (x1 + 1) (x2 &&& (x2 - 1)) _ hq E2)
  obtain ⟨o1, ho2, hq⟩ := bindE hq
  refine g_sub [1, 0] rfl (Q4  FUEL 0 x0 o1 ho2 (?_))
  refine g_iload_n C 21 rfl dX9_ones_20 0 rfl ?_
  exact r_int hR hq dX9_ones_21 rfl rfl
set_option maxHeartbeats 400000 in
set_option maxRecDepth 100000 in
theorem c_X9_isOne (l : Launch) (Δ : gD) (a : Nat → Nat) (x1 : Int32) (s : S9) {res : Int32} (hq : sem_X9_isOne x1 s = some res) : MR l yX9_isOne cX9_isOne 2 (some .boolean) Δ (cs9 a Δ s) [.ref (a 0), .int x1] 1 25 (.int res) := by
  refine MR.of (by decide) (Nat.le_of_ble_eq_true rfl) ?_
  intro Γ H hl C hK hP hR
  subst hl
  show g Γ { frames := 1, cells := 0, slots := 0, locals := 25 } 2 H [] 0 0 0 [(0, .ref (a 0)), (1, .int x1)] []
  refine g_iload_n C 1 rfl dX9_isOne_0 1 rfl ?_
  refine g_i2l C 2 rfl dX9_isOne_1 ?_
  refine g_lconst 0 C 3 rfl dX9_isOne_2 kl_0 ?_
  refine g_ldc2 5 C 6 rfl dX9_isOne_3 k_X9_88 ?_
  obtain ⟨r1, hz2, hq⟩ := bindE hq
  refine g_callRS (rest := []) C 9 rfl dX9_isOne_6 (c_X9_in Γ.2.1 Δ  (Int32.toInt64 x1) 0 5  hz2) mv_X9_in (Or.inl ml_X9_90) hK rfl rfl ⟨Nat.le_of_ble_eq_true rfl, Nat.le_of_ble_eq_true rfl⟩ (Nat.le_of_ble_eq_true rfl) ⟨Nat.zero_le _, Nat.zero_le _⟩ ?_
  refine s_if_eq C 28 12 rfl dX9_isOne_9 (by decide) hq (fun hq => ?_) (fun hq => ?_)
  · refine g_iconst 0 C 29 rfl dX9_isOne_28 ki_0 ?_
    exact r_int hR hq dX9_isOne_29 rfl rfl
  refine g_aload_n C 13 rfl dX9_isOne_12 0 rfl ?_
  refine g_get (v := .int (x9_there s)) (fs := fl9 a s) C 16 rfl dX9_isOne_13 hK hP la_X9 0 0 (Nat.le_of_ble_eq_true rfl) fl_X9_94 rfl rfl rfl rfl ?_
  refine g_iload_n C 17 rfl dX9_isOne_16 1 rfl ?_
  refine g_ishr C 18 rfl dX9_isOne_17 ?_
  refine g_iconst 1 C 19 rfl dX9_isOne_18 ki_1 ?_
  refine g_iand C 20 rfl dX9_isOne_19 ?_
  refine g_iconst 1 C 21 rfl dX9_isOne_20 ki_1 ?_
  refine s_icmp_ne C 28 24 rfl dX9_isOne_21 (by decide) hq (fun hq => ?_) (fun hq => ?_)
  · refine g_iconst 0 C 29 rfl dX9_isOne_28 ki_0 ?_
    exact r_int hR hq dX9_isOne_29 rfl rfl
  refine g_iconst 1 C 25 rfl dX9_isOne_24 ki_1 ?_
  refine g_goto C 29 dX9_isOne_25 (by decide) ?_
  exact r_int hR hq dX9_isOne_29 rfl rfl
set_option maxHeartbeats 400000 in
set_option maxRecDepth 100000 in
theorem c_X9_one (l : Launch) (Δ : gD) (a : Nat → Nat) (x1 : Int32) (x2 : Int32) (x3 : Int32) (x4 : Int32) (x5 : Int32) (s : S9) {res : Int32 × S9} (hq : sem_X9_one x1 x2 x3 x4 x5 s = some res) : MW l yX9_one cX9_one 6 (some .int) Δ (cs9 a Δ s) [.ref (a 0), .int x1, .int x2, .int x3, .int x4, .int x5] 1 25 (some (.int res.1)) (cs9 a Δ res.2) := by
  refine MW.of (by decide) (Nat.le_of_ble_eq_true rfl) ?_
  intro Γ A H hl C hK hP hD hS hA hR
  subst hl
  show g Γ { frames := 1, cells := 0, slots := 0, locals := 25 } 6 H [] 0 0 0 [(0, .ref (a 0)), (1, .int x1), (2, .int x2), (3, .int x3), (4, .int x4), (5, .int x5)] []
  refine g_iload_n C 1 rfl dX9_one_0 1 rfl ?_
  refine g_i2l C 2 rfl dX9_one_1 ?_
  refine g_lconst 0 C 3 rfl dX9_one_2 kl_0 ?_
  refine g_ldc2 5 C 6 rfl dX9_one_3 k_X9_88 ?_
  obtain ⟨r1, hz2, hq⟩ := bindE hq
  refine g_callRS (rest := []) C 9 rfl dX9_one_6 (c_X9_in Γ.2.1 Δ  (Int32.toInt64 x1) 0 5  hz2) mv_X9_in (Or.inl ml_X9_90) hK rfl rfl ⟨Nat.le_of_ble_eq_true rfl, Nat.le_of_ble_eq_true rfl⟩ (Nat.le_of_ble_eq_true rfl) ⟨Nat.zero_le _, Nat.zero_le _⟩ ?_
  refine s_if_ne C 14 12 rfl dX9_one_9 (by decide) hq (fun hq => ?_) (fun hq => ?_)
  rotate_left
  · refine g_iconst (-1) C 13 rfl dX9_one_12 ki_m1 ?_
    exact w_int (ws := fun s => cs9 a Δ s) hR hq hP hS dX9_one_13 rfl rfl
  refine g_iload_n C 15 rfl dX9_one_14 2 rfl ?_
  refine g_i2l C 16 rfl dX9_one_15 ?_
  refine g_lconst 0 C 17 rfl dX9_one_16 kl_0 ?_
  refine g_aload_n C 18 rfl dX9_one_17 0 rfl ?_
  refine g_get (v := .int (x9_limit s)) (fs := fl9 a s) C 21 rfl dX9_one_18 hK hP la_X9 0 1 (Nat.le_of_ble_eq_true rfl) fl_X9_81 rfl rfl rfl rfl ?_
  refine g_i2l C 22 rfl dX9_one_21 ?_
  obtain ⟨r3, hz4, hq⟩ := bindE hq
  refine g_callRS (rest := []) C 25 rfl dX9_one_22 (c_X9_in Γ.2.1 Δ  (Int32.toInt64 x2) 0 (Int32.toInt64 (x9_limit s))  hz4) mv_X9_in (Or.inl ml_X9_90) hK rfl rfl ⟨Nat.le_of_ble_eq_true rfl, Nat.le_of_ble_eq_true rfl⟩ (Nat.le_of_ble_eq_true rfl) ⟨Nat.zero_le _, Nat.zero_le _⟩ ?_
  refine s_if_eq C 66 28 rfl dX9_one_25 (by decide) hq (fun hq => ?_) (fun hq => ?_)
  · refine g_bipush (-2) C 68 rfl dX9_one_66 kb_m2 ?_
    exact w_int (ws := fun s => cs9 a Δ s) hR hq hP hS dX9_one_68 rfl rfl
  refine g_iload_n C 29 rfl dX9_one_28 3 rfl ?_
  refine g_i2l C 30 rfl dX9_one_29 ?_
  refine g_lconst 0 C 31 rfl dX9_one_30 kl_0 ?_
  refine g_ldc2 99 C 34 rfl dX9_one_31 k_X9_97 ?_
  obtain ⟨r5, hz6, hq⟩ := bindE hq
  refine g_callRS (rest := []) C 37 rfl dX9_one_34 (c_X9_in Γ.2.1 Δ  (Int32.toInt64 x3) 0 99  hz6) mv_X9_in (Or.inl ml_X9_90) hK rfl rfl ⟨Nat.le_of_ble_eq_true rfl, Nat.le_of_ble_eq_true rfl⟩ (Nat.le_of_ble_eq_true rfl) ⟨Nat.zero_le _, Nat.zero_le _⟩ ?_
  refine s_if_eq C 66 40 rfl dX9_one_37 (by decide) hq (fun hq => ?_) (fun hq => ?_)
  · refine g_bipush (-2) C 68 rfl dX9_one_66 kb_m2 ?_
    exact w_int (ws := fun s => cs9 a Δ s) hR hq hP hS dX9_one_68 rfl rfl
  refine g_iload C 42 rfl dX9_one_40 4 rfl ?_
  refine g_i2l C 43 rfl dX9_one_42 ?_
  refine g_lconst 0 C 44 rfl dX9_one_43 kl_0 ?_
  refine g_ldc2 999 C 47 rfl dX9_one_44 k_X9_99 ?_
  obtain ⟨r7, hz8, hq⟩ := bindE hq
  refine g_callRS (rest := []) C 50 rfl dX9_one_47 (c_X9_in Γ.2.1 Δ  (Int32.toInt64 x4) 0 999  hz8) mv_X9_in (Or.inl ml_X9_90) hK rfl rfl ⟨Nat.le_of_ble_eq_true rfl, Nat.le_of_ble_eq_true rfl⟩ (Nat.le_of_ble_eq_true rfl) ⟨Nat.zero_le _, Nat.zero_le _⟩ ?_
  refine s_if_eq C 66 53 rfl dX9_one_50 (by decide) hq (fun hq => ?_) (fun hq => ?_)
  · refine g_bipush (-2) C 68 rfl dX9_one_66 kb_m2 ?_
    exact w_int (ws := fun s => cs9 a Δ s) hR hq hP hS dX9_one_68 rfl rfl
  refine g_iload C 55 rfl dX9_one_53 5 rfl ?_
  refine g_i2l C 56 rfl dX9_one_55 ?_
  refine g_lconst 0 C 57 rfl dX9_one_56 kl_0 ?_
  refine g_ldc2 9 C 60 rfl dX9_one_57 k_X9_101 ?_
  obtain ⟨r9, hz10, hq⟩ := bindE hq
  refine g_callRS (rest := []) C 63 rfl dX9_one_60 (c_X9_in Γ.2.1 Δ  (Int32.toInt64 x5) 0 9  hz10) mv_X9_in (Or.inl ml_X9_90) hK rfl rfl ⟨Nat.le_of_ble_eq_true rfl, Nat.le_of_ble_eq_true rfl⟩ (Nat.le_of_ble_eq_true rfl) ⟨Nat.zero_le _, Nat.zero_le _⟩ ?_
  refine s_if_ne C 69 66 rfl dX9_one_63 (by decide) hq (fun hq => ?_) (fun hq => ?_)
  rotate_left
  · refine g_bipush (-2) C 68 rfl dX9_one_66 kb_m2 ?_
    exact w_int (ws := fun s => cs9 a Δ s) hR hq hP hS dX9_one_68 rfl rfl
  refine g_aload_n C 70 rfl dX9_one_69 0 rfl ?_
  refine g_dup C 71 rfl dX9_one_70 rfl ?_
  refine g_get (v := .int (x9_there s)) (fs := fl9 a s) C 74 rfl dX9_one_71 hK hP la_X9 0 0 (Nat.le_of_ble_eq_true rfl) fl_X9_94 rfl rfl rfl rfl ?_
  refine g_iconst 1 C 75 rfl dX9_one_74 ki_1 ?_
  refine g_iload_n C 76 rfl dX9_one_75 1 rfl ?_
  refine g_ishl C 77 rfl dX9_one_76 ?_
  refine g_ior C 78 rfl dX9_one_77 ?_
  refine g_put (fs := fl9 a s) (cs9 a Δ (p9_there s ((x9_there s) ||| ((1 : Int32) <<< (x1 &&& 31))))) C 81 rfl dX9_one_78 hK hP hD hS la_X9 tyX9_ok nmX9 0 0 (Nat.le_of_ble_eq_true rfl) fl_X9_94 rfl rfl rfl rfl rfl rfl (Nat.le_of_ble_eq_true rfl) (sst_85 a Δ s ((x9_there s) ||| ((1 : Int32) <<< (x1 &&& 31)))) (fun H L hP hD hS => ?_)
  refine g_aload_n C 82 rfl dX9_one_81 0 rfl ?_
  refine g_get (v := .ref (a 1)) (fs := fl9 a (p9_there s ((x9_there s) ||| ((1 : Int32) <<< (x1 &&& 31))))) C 85 rfl dX9_one_82 hK hP la_X9 0 3 (Nat.le_of_ble_eq_true rfl) fl_X9_7 rfl rfl rfl rfl ?_
  refine g_iload_n C 86 rfl dX9_one_85 1 rfl ?_
  refine g_iload_n C 87 rfl dX9_one_86 2 rfl ?_
  refine s_iast (cs9 a Δ (p9_temper (p9_there s ((x9_there s) ||| ((1 : Int32) <<< (x1 &&& 31)))) (upd (x9_temper (p9_there s ((x9_there s) ||| ((1 : Int32) <<< (x1 &&& 31))))) (x1 : Int32).toNatClampNeg x2))) C 88 rfl dX9_one_87 hK hP hD hS 1 rfl hq (sst_86 a Δ (p9_there s ((x9_there s) ||| ((1 : Int32) <<< (x1 &&& 31)))) (upd (x9_temper (p9_there s ((x9_there s) ||| ((1 : Int32) <<< (x1 &&& 31))))) (x1 : Int32).toNatClampNeg x2)) (fun hq hi11 H L hP hD hS => ?_)
  refine g_aload_n C 89 rfl dX9_one_88 0 rfl ?_
  refine g_get (v := .ref (a 2)) (fs := fl9 a (p9_temper (p9_there s ((x9_there s) ||| ((1 : Int32) <<< (x1 &&& 31)))) (upd (x9_temper (p9_there s ((x9_there s) ||| ((1 : Int32) <<< (x1 &&& 31))))) (x1 : Int32).toNatClampNeg x2))) C 92 rfl dX9_one_89 hK hP la_X9 0 4 (Nat.le_of_ble_eq_true rfl) fl_X9_13 rfl rfl rfl rfl ?_
  refine g_iload_n C 93 rfl dX9_one_92 1 rfl ?_
  refine g_iconst 0 C 94 rfl dX9_one_93 ki_0 ?_
  refine s_iast (cs9 a Δ (p9_permits (p9_temper (p9_there s ((x9_there s) ||| ((1 : Int32) <<< (x1 &&& 31)))) (upd (x9_temper (p9_there s ((x9_there s) ||| ((1 : Int32) <<< (x1 &&& 31))))) (x1 : Int32).toNatClampNeg x2)) (upd (x9_permits (p9_temper (p9_there s ((x9_there s) ||| ((1 : Int32) <<< (x1 &&& 31)))) (upd (x9_temper (p9_there s ((x9_there s) ||| ((1 : Int32) <<< (x1 &&& 31))))) (x1 : Int32).toNatClampNeg x2))) (x1 : Int32).toNatClampNeg 0))) C 95 rfl dX9_one_94 hK hP hD hS 2 rfl hq (sst_87 a Δ (p9_temper (p9_there s ((x9_there s) ||| ((1 : Int32) <<< (x1 &&& 31)))) (upd (x9_temper (p9_there s ((x9_there s) ||| ((1 : Int32) <<< (x1 &&& 31))))) (x1 : Int32).toNatClampNeg x2)) (upd (x9_permits (p9_temper (p9_there s ((x9_there s) ||| ((1 : Int32) <<< (x1 &&& 31)))) (upd (x9_temper (p9_there s ((x9_there s) ||| ((1 : Int32) <<< (x1 &&& 31))))) (x1 : Int32).toNatClampNeg x2))) (x1 : Int32).toNatClampNeg 0)) (fun hq hi12 H L hP hD hS => ?_)
  refine g_aload_n C 96 rfl dX9_one_95 0 rfl ?_
  refine g_get (v := .ref (a 3)) (fs := fl9 a (p9_permits (p9_temper (p9_there s ((x9_there s) ||| ((1 : Int32) <<< (x1 &&& 31)))) (upd (x9_temper (p9_there s ((x9_there s) ||| ((1 : Int32) <<< (x1 &&& 31))))) (x1 : Int32).toNatClampNeg x2)) (upd (x9_permits (p9_temper (p9_there s ((x9_there s) ||| ((1 : Int32) <<< (x1 &&& 31)))) (upd (x9_temper (p9_there s ((x9_there s) ||| ((1 : Int32) <<< (x1 &&& 31))))) (x1 : Int32).toNatClampNeg x2))) (x1 : Int32).toNatClampNeg 0))) C 99 rfl dX9_one_96 hK hP la_X9 0 5 (Nat.le_of_ble_eq_true rfl) fl_X9_16 rfl rfl rfl rfl ?_
  refine g_iload_n C 100 rfl dX9_one_99 1 rfl ?_
  refine g_iload_n C 101 rfl dX9_one_100 3 rfl ?_
  refine s_iast (cs9 a Δ (p9_stamps (p9_permits (p9_temper (p9_there s ((x9_there s) ||| ((1 : Int32) <<< (x1 &&& 31)))) (upd (x9_temper (p9_there s ((x9_there s) ||| ((1 : Int32) <<< (x1 &&& 31))))) (x1 : Int32).toNatClampNeg x2)) (upd (x9_permits (p9_temper (p9_there s ((x9_there s) ||| ((1 : Int32) <<< (x1 &&& 31)))) (upd (x9_temper (p9_there s ((x9_there s) ||| ((1 : Int32) <<< (x1 &&& 31))))) (x1 : Int32).toNatClampNeg x2))) (x1 : Int32).toNatClampNeg 0)) (upd (x9_stamps (p9_permits (p9_temper (p9_there s ((x9_there s) ||| ((1 : Int32) <<< (x1 &&& 31)))) (upd (x9_temper (p9_there s ((x9_there s) ||| ((1 : Int32) <<< (x1 &&& 31))))) (x1 : Int32).toNatClampNeg x2)) (upd (x9_permits (p9_temper (p9_there s ((x9_there s) ||| ((1 : Int32) <<< (x1 &&& 31)))) (upd (x9_temper (p9_there s ((x9_there s) ||| ((1 : Int32) <<< (x1 &&& 31))))) (x1 : Int32).toNatClampNeg x2))) (x1 : Int32).toNatClampNeg 0))) (x1 : Int32).toNatClampNeg x3))) C 102 rfl dX9_one_101 hK hP hD hS 3 rfl hq (sst_88 a Δ (p9_permits (p9_temper (p9_there s ((x9_there s) ||| ((1 : Int32) <<< (x1 &&& 31)))) (upd (x9_temper (p9_there s ((x9_there s) ||| ((1 : Int32) <<< (x1 &&& 31))))) (x1 : Int32).toNatClampNeg x2)) (upd (x9_permits (p9_temper (p9_there s ((x9_there s) ||| ((1 : Int32) <<< (x1 &&& 31)))) (upd (x9_temper (p9_there s ((x9_there s) ||| ((1 : Int32) <<< (x1 &&& 31))))) (x1 : Int32).toNatClampNeg x2))) (x1 : Int32).toNatClampNeg 0)) (upd (x9_stamps (p9_permits (p9_temper (p9_there s ((x9_there s) ||| ((1 : Int32) <<< (x1 &&& 31)))) (upd (x9_temper (p9_there s ((x9_there s) ||| ((1 : Int32) <<< (x1 &&& 31))))) (x1 : Int32).toNatClampNeg x2)) (upd (x9_permits (p9_temper (p9_there s ((x9_there s) ||| ((1 : Int32) <<< (x1 &&& 31)))) (upd (x9_temper (p9_there s ((x9_there s) ||| ((1 : Int32) <<< (x1 &&& 31))))) (x1 : Int32).toNatClampNeg x2))) (x1 : Int32).toNatClampNeg 0))) (x1 : Int32).toNatClampNeg x3)) (fun hq hi13 H L hP hD hS => ?_)
  refine g_aload_n C 103 rfl dX9_one_102 0 rfl ?_
  refine g_get (v := .ref (a 4)) (fs := fl9 a (p9_stamps (p9_permits (p9_temper (p9_there s ((x9_there s) ||| ((1 : Int32) <<< (x1 &&& 31)))) (upd (x9_temper (p9_there s ((x9_there s) ||| ((1 : Int32) <<< (x1 &&& 31))))) (x1 : Int32).toNatClampNeg x2)) (upd (x9_permits (p9_temper (p9_there s ((x9_there s) ||| ((1 : Int32) <<< (x1 &&& 31)))) (upd (x9_temper (p9_there s ((x9_there s) ||| ((1 : Int32) <<< (x1 &&& 31))))) (x1 : Int32).toNatClampNeg x2))) (x1 : Int32).toNatClampNeg 0)) (upd (x9_stamps (p9_permits (p9_temper (p9_there s ((x9_there s) ||| ((1 : Int32) <<< (x1 &&& 31)))) (upd (x9_temper (p9_there s ((x9_there s) ||| ((1 : Int32) <<< (x1 &&& 31))))) (x1 : Int32).toNatClampNeg x2)) (upd (x9_permits (p9_temper (p9_there s ((x9_there s) ||| ((1 : Int32) <<< (x1 &&& 31)))) (upd (x9_temper (p9_there s ((x9_there s) ||| ((1 : Int32) <<< (x1 &&& 31))))) (x1 : Int32).toNatClampNeg x2))) (x1 : Int32).toNatClampNeg 0))) (x1 : Int32).toNatClampNeg x3))) C 106 rfl dX9_one_103 hK hP la_X9 0 6 (Nat.le_of_ble_eq_true rfl) fl_X9_19 rfl rfl rfl rfl ?_
  refine g_iload_n C 107 rfl dX9_one_106 1 rfl ?_
  refine g_iload C 109 rfl dX9_one_107 4 rfl ?_
  refine s_iast (cs9 a Δ (p9_purse (p9_stamps (p9_permits (p9_temper (p9_there s ((x9_there s) ||| ((1 : Int32) <<< (x1 &&& 31)))) (upd (x9_temper (p9_there s ((x9_there s) ||| ((1 : Int32) <<< (x1 &&& 31))))) (x1 : Int32).toNatClampNeg x2)) (upd (x9_permits (p9_temper (p9_there s ((x9_there s) ||| ((1 : Int32) <<< (x1 &&& 31)))) (upd (x9_temper (p9_there s ((x9_there s) ||| ((1 : Int32) <<< (x1 &&& 31))))) (x1 : Int32).toNatClampNeg x2))) (x1 : Int32).toNatClampNeg 0)) (upd (x9_stamps (p9_permits (p9_temper (p9_there s ((x9_there s) ||| ((1 : Int32) <<< (x1 &&& 31)))) (upd (x9_temper (p9_there s ((x9_there s) ||| ((1 : Int32) <<< (x1 &&& 31))))) (x1 : Int32).toNatClampNeg x2)) (upd (x9_permits (p9_temper (p9_there s ((x9_there s) ||| ((1 : Int32) <<< (x1 &&& 31)))) (upd (x9_temper (p9_there s ((x9_there s) ||| ((1 : Int32) <<< (x1 &&& 31))))) (x1 : Int32).toNatClampNeg x2))) (x1 : Int32).toNatClampNeg 0))) (x1 : Int32).toNatClampNeg x3)) (upd (x9_purse (p9_stamps (p9_permits (p9_temper (p9_there s ((x9_there s) ||| ((1 : Int32) <<< (x1 &&& 31)))) (upd (x9_temper (p9_there s ((x9_there s) ||| ((1 : Int32) <<< (x1 &&& 31))))) (x1 : Int32).toNatClampNeg x2)) (upd (x9_permits (p9_temper (p9_there s ((x9_there s) ||| ((1 : Int32) <<< (x1 &&& 31)))) (upd (x9_temper (p9_there s ((x9_there s) ||| ((1 : Int32) <<< (x1 &&& 31))))) (x1 : Int32).toNatClampNeg x2))) (x1 : Int32).toNatClampNeg 0)) (upd (x9_stamps (p9_permits (p9_temper (p9_there s ((x9_there s) ||| ((1 : Int32) <<< (x1 &&& 31)))) (upd (x9_temper (p9_there s ((x9_there s) ||| ((1 : Int32) <<< (x1 &&& 31))))) (x1 : Int32).toNatClampNeg x2)) (upd (x9_permits (p9_temper (p9_there s ((x9_there s) ||| ((1 : Int32) <<< (x1 &&& 31)))) (upd (x9_temper (p9_there s ((x9_there s) ||| ((1 : Int32) <<< (x1 &&& 31))))) (x1 : Int32).toNatClampNeg x2))) (x1 : Int32).toNatClampNeg 0))) (x1 : Int32).toNatClampNeg x3))) (x1 : Int32).toNatClampNeg x4))) C 110 rfl dX9_one_109 hK hP hD hS 4 rfl hq (sst_89 a Δ (p9_stamps (p9_permits (p9_temper (p9_there s ((x9_there s) ||| ((1 : Int32) <<< (x1 &&& 31)))) (upd (x9_temper (p9_there s ((x9_there s) ||| ((1 : Int32) <<< (x1 &&& 31))))) (x1 : Int32).toNatClampNeg x2)) (upd (x9_permits (p9_temper (p9_there s ((x9_there s) ||| ((1 : Int32) <<< (x1 &&& 31)))) (upd (x9_temper (p9_there s ((x9_there s) ||| ((1 : Int32) <<< (x1 &&& 31))))) (x1 : Int32).toNatClampNeg x2))) (x1 : Int32).toNatClampNeg 0)) (upd (x9_stamps (p9_permits (p9_temper (p9_there s ((x9_there s) ||| ((1 : Int32) <<< (x1 &&& 31)))) (upd (x9_temper (p9_there s ((x9_there s) ||| ((1 : Int32) <<< (x1 &&& 31))))) (x1 : Int32).toNatClampNeg x2)) (upd (x9_permits (p9_temper (p9_there s ((x9_there s) ||| ((1 : Int32) <<< (x1 &&& 31)))) (upd (x9_temper (p9_there s ((x9_there s) ||| ((1 : Int32) <<< (x1 &&& 31))))) (x1 : Int32).toNatClampNeg x2))) (x1 : Int32).toNatClampNeg 0))) (x1 : Int32).toNatClampNeg x3)) (upd (x9_purse (p9_stamps (p9_permits (p9_temper (p9_there s ((x9_there s) ||| ((1 : Int32) <<< (x1 &&& 31)))) (upd (x9_temper (p9_there s ((x9_there s) ||| ((1 : Int32) <<< (x1 &&& 31))))) (x1 : Int32).toNatClampNeg x2)) (upd (x9_permits (p9_temper (p9_there s ((x9_there s) ||| ((1 : Int32) <<< (x1 &&& 31)))) (upd (x9_temper (p9_there s ((x9_there s) ||| ((1 : Int32) <<< (x1 &&& 31))))) (x1 : Int32).toNatClampNeg x2))) (x1 : Int32).toNatClampNeg 0)) (upd (x9_stamps (p9_permits (p9_temper (p9_there s ((x9_there s) ||| ((1 : Int32) <<< (x1 &&& 31)))) (upd (x9_temper (p9_there s ((x9_there s) ||| ((1 : Int32) <<< (x1 &&& 31))))) (x1 : Int32).toNatClampNeg x2)) (upd (x9_permits (p9_temper (p9_there s ((x9_there s) ||| ((1 : Int32) <<< (x1 &&& 31)))) (upd (x9_temper (p9_there s ((x9_there s) ||| ((1 : Int32) <<< (x1 &&& 31))))) (x1 : Int32).toNatClampNeg x2))) (x1 : Int32).toNatClampNeg 0))) (x1 : Int32).toNatClampNeg x3))) (x1 : Int32).toNatClampNeg x4)) (fun hq hi14 H L hP hD hS => ?_)
  refine g_aload_n C 111 rfl dX9_one_110 0 rfl ?_
  refine g_get (v := .ref (a 5)) (fs := fl9 a (p9_purse (p9_stamps (p9_permits (p9_temper (p9_there s ((x9_there s) ||| ((1 : Int32) <<< (x1 &&& 31)))) (upd (x9_temper (p9_there s ((x9_there s) ||| ((1 : Int32) <<< (x1 &&& 31))))) (x1 : Int32).toNatClampNeg x2)) (upd (x9_permits (p9_temper (p9_there s ((x9_there s) ||| ((1 : Int32) <<< (x1 &&& 31)))) (upd (x9_temper (p9_there s ((x9_there s) ||| ((1 : Int32) <<< (x1 &&& 31))))) (x1 : Int32).toNatClampNeg x2))) (x1 : Int32).toNatClampNeg 0)) (upd (x9_stamps (p9_permits (p9_temper (p9_there s ((x9_there s) ||| ((1 : Int32) <<< (x1 &&& 31)))) (upd (x9_temper (p9_there s ((x9_there s) ||| ((1 : Int32) <<< (x1 &&& 31))))) (x1 : Int32).toNatClampNeg x2)) (upd (x9_permits (p9_temper (p9_there s ((x9_there s) ||| ((1 : Int32) <<< (x1 &&& 31)))) (upd (x9_temper (p9_there s ((x9_there s) ||| ((1 : Int32) <<< (x1 &&& 31))))) (x1 : Int32).toNatClampNeg x2))) (x1 : Int32).toNatClampNeg 0))) (x1 : Int32).toNatClampNeg x3)) (upd (x9_purse (p9_stamps (p9_permits (p9_temper (p9_there s ((x9_there s) ||| ((1 : Int32) <<< (x1 &&& 31)))) (upd (x9_temper (p9_there s ((x9_there s) ||| ((1 : Int32) <<< (x1 &&& 31))))) (x1 : Int32).toNatClampNeg x2)) (upd (x9_permits (p9_temper (p9_there s ((x9_there s) ||| ((1 : Int32) <<< (x1 &&& 31)))) (upd (x9_temper (p9_there s ((x9_there s) ||| ((1 : Int32) <<< (x1 &&& 31))))) (x1 : Int32).toNatClampNeg x2))) (x1 : Int32).toNatClampNeg 0)) (upd (x9_stamps (p9_permits (p9_temper (p9_there s ((x9_there s) ||| ((1 : Int32) <<< (x1 &&& 31)))) (upd (x9_temper (p9_there s ((x9_there s) ||| ((1 : Int32) <<< (x1 &&& 31))))) (x1 : Int32).toNatClampNeg x2)) (upd (x9_permits (p9_temper (p9_there s ((x9_there s) ||| ((1 : Int32) <<< (x1 &&& 31)))) (upd (x9_temper (p9_there s ((x9_there s) ||| ((1 : Int32) <<< (x1 &&& 31))))) (x1 : Int32).toNatClampNeg x2))) (x1 : Int32).toNatClampNeg 0))) (x1 : Int32).toNatClampNeg x3))) (x1 : Int32).toNatClampNeg x4))) C 114 rfl dX9_one_111 hK hP la_X9 0 7 (Nat.le_of_ble_eq_true rfl) fl_X9_22 rfl rfl rfl rfl ?_
  refine g_iload_n C 115 rfl dX9_one_114 1 rfl ?_
  refine g_iload C 117 rfl dX9_one_115 5 rfl ?_
  refine s_iast (cs9 a Δ (p9_yard (p9_purse (p9_stamps (p9_permits (p9_temper (p9_there s ((x9_there s) ||| ((1 : Int32) <<< (x1 &&& 31)))) (upd (x9_temper (p9_there s ((x9_there s) ||| ((1 : Int32) <<< (x1 &&& 31))))) (x1 : Int32).toNatClampNeg x2)) (upd (x9_permits (p9_temper (p9_there s ((x9_there s) ||| ((1 : Int32) <<< (x1 &&& 31)))) (upd (x9_temper (p9_there s ((x9_there s) ||| ((1 : Int32) <<< (x1 &&& 31))))) (x1 : Int32).toNatClampNeg x2))) (x1 : Int32).toNatClampNeg 0)) (upd (x9_stamps (p9_permits (p9_temper (p9_there s ((x9_there s) ||| ((1 : Int32) <<< (x1 &&& 31)))) (upd (x9_temper (p9_there s ((x9_there s) ||| ((1 : Int32) <<< (x1 &&& 31))))) (x1 : Int32).toNatClampNeg x2)) (upd (x9_permits (p9_temper (p9_there s ((x9_there s) ||| ((1 : Int32) <<< (x1 &&& 31)))) (upd (x9_temper (p9_there s ((x9_there s) ||| ((1 : Int32) <<< (x1 &&& 31))))) (x1 : Int32).toNatClampNeg x2))) (x1 : Int32).toNatClampNeg 0))) (x1 : Int32).toNatClampNeg x3)) (upd (x9_purse (p9_stamps (p9_permits (p9_temper (p9_there s ((x9_there s) ||| ((1 : Int32) <<< (x1 &&& 31)))) (upd (x9_temper (p9_there s ((x9_there s) ||| ((1 : Int32) <<< (x1 &&& 31))))) (x1 : Int32).toNatClampNeg x2)) (upd (x9_permits (p9_temper (p9_there s ((x9_there s) ||| ((1 : Int32) <<< (x1 &&& 31)))) (upd (x9_temper (p9_there s ((x9_there s) ||| ((1 : Int32) <<< (x1 &&& 31))))) (x1 : Int32).toNatClampNeg x2))) (x1 : Int32).toNatClampNeg 0)) (upd (x9_stamps (p9_permits (p9_temper (p9_there s ((x9_there s) ||| ((1 : Int32) <<< (x1 &&& 31)))) (upd (x9_temper (p9_there s ((x9_there s) ||| ((1 : Int32) <<< (x1 &&& 31))))) (x1 : Int32).toNatClampNeg x2)) (upd (x9_permits (p9_temper (p9_there s ((x9_there s) ||| ((1 : Int32) <<< (x1 &&& 31)))) (upd (x9_temper (p9_there s ((x9_there s) ||| ((1 : Int32) <<< (x1 &&& 31))))) (x1 : Int32).toNatClampNeg x2))) (x1 : Int32).toNatClampNeg 0))) (x1 : Int32).toNatClampNeg x3))) (x1 : Int32).toNatClampNeg x4)) (upd (x9_yard (p9_purse (p9_stamps (p9_permits (p9_temper (p9_there s ((x9_there s) ||| ((1 : Int32) <<< (x1 &&& 31)))) (upd (x9_temper (p9_there s ((x9_there s) ||| ((1 : Int32) <<< (x1 &&& 31))))) (x1 : Int32).toNatClampNeg x2)) (upd (x9_permits (p9_temper (p9_there s ((x9_there s) ||| ((1 : Int32) <<< (x1 &&& 31)))) (upd (x9_temper (p9_there s ((x9_there s) ||| ((1 : Int32) <<< (x1 &&& 31))))) (x1 : Int32).toNatClampNeg x2))) (x1 : Int32).toNatClampNeg 0)) (upd (x9_stamps (p9_permits (p9_temper (p9_there s ((x9_there s) ||| ((1 : Int32) <<< (x1 &&& 31)))) (upd (x9_temper (p9_there s ((x9_there s) ||| ((1 : Int32) <<< (x1 &&& 31))))) (x1 : Int32).toNatClampNeg x2)) (upd (x9_permits (p9_temper (p9_there s ((x9_there s) ||| ((1 : Int32) <<< (x1 &&& 31)))) (upd (x9_temper (p9_there s ((x9_there s) ||| ((1 : Int32) <<< (x1 &&& 31))))) (x1 : Int32).toNatClampNeg x2))) (x1 : Int32).toNatClampNeg 0))) (x1 : Int32).toNatClampNeg x3)) (upd (x9_purse (p9_stamps (p9_permits (p9_temper (p9_there s ((x9_there s) ||| ((1 : Int32) <<< (x1 &&& 31)))) (upd (x9_temper (p9_there s ((x9_there s) ||| ((1 : Int32) <<< (x1 &&& 31))))) (x1 : Int32).toNatClampNeg x2)) (upd (x9_permits (p9_temper (p9_there s ((x9_there s) ||| ((1 : Int32) <<< (x1 &&& 31)))) (upd (x9_temper (p9_there s ((x9_there s) ||| ((1 : Int32) <<< (x1 &&& 31))))) (x1 : Int32).toNatClampNeg x2))) (x1 : Int32).toNatClampNeg 0)) (upd (x9_stamps (p9_permits (p9_temper (p9_there s ((x9_there s) ||| ((1 : Int32) <<< (x1 &&& 31)))) (upd (x9_temper (p9_there s ((x9_there s) ||| ((1 : Int32) <<< (x1 &&& 31))))) (x1 : Int32).toNatClampNeg x2)) (upd (x9_permits (p9_temper (p9_there s ((x9_there s) ||| ((1 : Int32) <<< (x1 &&& 31)))) (upd (x9_temper (p9_there s ((x9_there s) ||| ((1 : Int32) <<< (x1 &&& 31))))) (x1 : Int32).toNatClampNeg x2))) (x1 : Int32).toNatClampNeg 0))) (x1 : Int32).toNatClampNeg x3))) (x1 : Int32).toNatClampNeg x4))) (x1 : Int32).toNatClampNeg x5))) C 118 rfl dX9_one_117 hK hP hD hS 5 rfl hq (sst_90 a Δ (p9_purse (p9_stamps (p9_permits (p9_temper (p9_there s ((x9_there s) ||| ((1 : Int32) <<< (x1 &&& 31)))) (upd (x9_temper (p9_there s ((x9_there s) ||| ((1 : Int32) <<< (x1 &&& 31))))) (x1 : Int32).toNatClampNeg x2)) (upd (x9_permits (p9_temper (p9_there s ((x9_there s) ||| ((1 : Int32) <<< (x1 &&& 31)))) (upd (x9_temper (p9_there s ((x9_there s) ||| ((1 : Int32) <<< (x1 &&& 31))))) (x1 : Int32).toNatClampNeg x2))) (x1 : Int32).toNatClampNeg 0)) (upd (x9_stamps (p9_permits (p9_temper (p9_there s ((x9_there s) ||| ((1 : Int32) <<< (x1 &&& 31)))) (upd (x9_temper (p9_there s ((x9_there s) ||| ((1 : Int32) <<< (x1 &&& 31))))) (x1 : Int32).toNatClampNeg x2)) (upd (x9_permits (p9_temper (p9_there s ((x9_there s) ||| ((1 : Int32) <<< (x1 &&& 31)))) (upd (x9_temper (p9_there s ((x9_there s) ||| ((1 : Int32) <<< (x1 &&& 31))))) (x1 : Int32).toNatClampNeg x2))) (x1 : Int32).toNatClampNeg 0))) (x1 : Int32).toNatClampNeg x3)) (upd (x9_purse (p9_stamps (p9_permits (p9_temper (p9_there s ((x9_there s) ||| ((1 : Int32) <<< (x1 &&& 31)))) (upd (x9_temper (p9_there s ((x9_there s) ||| ((1 : Int32) <<< (x1 &&& 31))))) (x1 : Int32).toNatClampNeg x2)) (upd (x9_permits (p9_temper (p9_there s ((x9_there s) ||| ((1 : Int32) <<< (x1 &&& 31)))) (upd (x9_temper (p9_there s ((x9_there s) ||| ((1 : Int32) <<< (x1 &&& 31))))) (x1 : Int32).toNatClampNeg x2))) (x1 : Int32).toNatClampNeg 0)) (upd (x9_stamps (p9_permits (p9_temper (p9_there s ((x9_there s) ||| ((1 : Int32) <<< (x1 &&& 31)))) (upd (x9_temper (p9_there s ((x9_there s) ||| ((1 : Int32) <<< (x1 &&& 31))))) (x1 : Int32).toNatClampNeg x2)) (upd (x9_permits (p9_temper (p9_there s ((x9_there s) ||| ((1 : Int32) <<< (x1 &&& 31)))) (upd (x9_temper (p9_there s ((x9_there s) ||| ((1 : Int32) <<< (x1 &&& 31))))) (x1 : Int32).toNatClampNeg x2))) (x1 : Int32).toNatClampNeg 0))) (x1 : Int32).toNatClampNeg x3))) (x1 : Int32).toNatClampNeg x4)) (upd (x9_yard (p9_purse (p9_stamps (p9_permits (p9_temper (p9_there s ((x9_there s) ||| ((1 : Int32) <<< (x1 &&& 31)))) (upd (x9_temper (p9_there s ((x9_there s) ||| ((1 : Int32) <<< (x1 &&& 31))))) (x1 : Int32).toNatClampNeg x2)) (upd (x9_permits (p9_temper (p9_there s ((x9_there s) ||| ((1 : Int32) <<< (x1 &&& 31)))) (upd (x9_temper (p9_there s ((x9_there s) ||| ((1 : Int32) <<< (x1 &&& 31))))) (x1 : Int32).toNatClampNeg x2))) (x1 : Int32).toNatClampNeg 0)) (upd (x9_stamps (p9_permits (p9_temper (p9_there s ((x9_there s) ||| ((1 : Int32) <<< (x1 &&& 31)))) (upd (x9_temper (p9_there s ((x9_there s) ||| ((1 : Int32) <<< (x1 &&& 31))))) (x1 : Int32).toNatClampNeg x2)) (upd (x9_permits (p9_temper (p9_there s ((x9_there s) ||| ((1 : Int32) <<< (x1 &&& 31)))) (upd (x9_temper (p9_there s ((x9_there s) ||| ((1 : Int32) <<< (x1 &&& 31))))) (x1 : Int32).toNatClampNeg x2))) (x1 : Int32).toNatClampNeg 0))) (x1 : Int32).toNatClampNeg x3)) (upd (x9_purse (p9_stamps (p9_permits (p9_temper (p9_there s ((x9_there s) ||| ((1 : Int32) <<< (x1 &&& 31)))) (upd (x9_temper (p9_there s ((x9_there s) ||| ((1 : Int32) <<< (x1 &&& 31))))) (x1 : Int32).toNatClampNeg x2)) (upd (x9_permits (p9_temper (p9_there s ((x9_there s) ||| ((1 : Int32) <<< (x1 &&& 31)))) (upd (x9_temper (p9_there s ((x9_there s) ||| ((1 : Int32) <<< (x1 &&& 31))))) (x1 : Int32).toNatClampNeg x2))) (x1 : Int32).toNatClampNeg 0)) (upd (x9_stamps (p9_permits (p9_temper (p9_there s ((x9_there s) ||| ((1 : Int32) <<< (x1 &&& 31)))) (upd (x9_temper (p9_there s ((x9_there s) ||| ((1 : Int32) <<< (x1 &&& 31))))) (x1 : Int32).toNatClampNeg x2)) (upd (x9_permits (p9_temper (p9_there s ((x9_there s) ||| ((1 : Int32) <<< (x1 &&& 31)))) (upd (x9_temper (p9_there s ((x9_there s) ||| ((1 : Int32) <<< (x1 &&& 31))))) (x1 : Int32).toNatClampNeg x2))) (x1 : Int32).toNatClampNeg 0))) (x1 : Int32).toNatClampNeg x3))) (x1 : Int32).toNatClampNeg x4))) (x1 : Int32).toNatClampNeg x5)) (fun hq hi15 H L hP hD hS => ?_)
  refine g_aload_n C 119 rfl dX9_one_118 0 rfl ?_
  refine g_get (v := .ref (a 6)) (fs := fl9 a (p9_yard (p9_purse (p9_stamps (p9_permits (p9_temper (p9_there s ((x9_there s) ||| ((1 : Int32) <<< (x1 &&& 31)))) (upd (x9_temper (p9_there s ((x9_there s) ||| ((1 : Int32) <<< (x1 &&& 31))))) (x1 : Int32).toNatClampNeg x2)) (upd (x9_permits (p9_temper (p9_there s ((x9_there s) ||| ((1 : Int32) <<< (x1 &&& 31)))) (upd (x9_temper (p9_there s ((x9_there s) ||| ((1 : Int32) <<< (x1 &&& 31))))) (x1 : Int32).toNatClampNeg x2))) (x1 : Int32).toNatClampNeg 0)) (upd (x9_stamps (p9_permits (p9_temper (p9_there s ((x9_there s) ||| ((1 : Int32) <<< (x1 &&& 31)))) (upd (x9_temper (p9_there s ((x9_there s) ||| ((1 : Int32) <<< (x1 &&& 31))))) (x1 : Int32).toNatClampNeg x2)) (upd (x9_permits (p9_temper (p9_there s ((x9_there s) ||| ((1 : Int32) <<< (x1 &&& 31)))) (upd (x9_temper (p9_there s ((x9_there s) ||| ((1 : Int32) <<< (x1 &&& 31))))) (x1 : Int32).toNatClampNeg x2))) (x1 : Int32).toNatClampNeg 0))) (x1 : Int32).toNatClampNeg x3)) (upd (x9_purse (p9_stamps (p9_permits (p9_temper (p9_there s ((x9_there s) ||| ((1 : Int32) <<< (x1 &&& 31)))) (upd (x9_temper (p9_there s ((x9_there s) ||| ((1 : Int32) <<< (x1 &&& 31))))) (x1 : Int32).toNatClampNeg x2)) (upd (x9_permits (p9_temper (p9_there s ((x9_there s) ||| ((1 : Int32) <<< (x1 &&& 31)))) (upd (x9_temper (p9_there s ((x9_there s) ||| ((1 : Int32) <<< (x1 &&& 31))))) (x1 : Int32).toNatClampNeg x2))) (x1 : Int32).toNatClampNeg 0)) (upd (x9_stamps (p9_permits (p9_temper (p9_there s ((x9_there s) ||| ((1 : Int32) <<< (x1 &&& 31)))) (upd (x9_temper (p9_there s ((x9_there s) ||| ((1 : Int32) <<< (x1 &&& 31))))) (x1 : Int32).toNatClampNeg x2)) (upd (x9_permits (p9_temper (p9_there s ((x9_there s) ||| ((1 : Int32) <<< (x1 &&& 31)))) (upd (x9_temper (p9_there s ((x9_there s) ||| ((1 : Int32) <<< (x1 &&& 31))))) (x1 : Int32).toNatClampNeg x2))) (x1 : Int32).toNatClampNeg 0))) (x1 : Int32).toNatClampNeg x3))) (x1 : Int32).toNatClampNeg x4)) (upd (x9_yard (p9_purse (p9_stamps (p9_permits (p9_temper (p9_there s ((x9_there s) ||| ((1 : Int32) <<< (x1 &&& 31)))) (upd (x9_temper (p9_there s ((x9_there s) ||| ((1 : Int32) <<< (x1 &&& 31))))) (x1 : Int32).toNatClampNeg x2)) (upd (x9_permits (p9_temper (p9_there s ((x9_there s) ||| ((1 : Int32) <<< (x1 &&& 31)))) (upd (x9_temper (p9_there s ((x9_there s) ||| ((1 : Int32) <<< (x1 &&& 31))))) (x1 : Int32).toNatClampNeg x2))) (x1 : Int32).toNatClampNeg 0)) (upd (x9_stamps (p9_permits (p9_temper (p9_there s ((x9_there s) ||| ((1 : Int32) <<< (x1 &&& 31)))) (upd (x9_temper (p9_there s ((x9_there s) ||| ((1 : Int32) <<< (x1 &&& 31))))) (x1 : Int32).toNatClampNeg x2)) (upd (x9_permits (p9_temper (p9_there s ((x9_there s) ||| ((1 : Int32) <<< (x1 &&& 31)))) (upd (x9_temper (p9_there s ((x9_there s) ||| ((1 : Int32) <<< (x1 &&& 31))))) (x1 : Int32).toNatClampNeg x2))) (x1 : Int32).toNatClampNeg 0))) (x1 : Int32).toNatClampNeg x3)) (upd (x9_purse (p9_stamps (p9_permits (p9_temper (p9_there s ((x9_there s) ||| ((1 : Int32) <<< (x1 &&& 31)))) (upd (x9_temper (p9_there s ((x9_there s) ||| ((1 : Int32) <<< (x1 &&& 31))))) (x1 : Int32).toNatClampNeg x2)) (upd (x9_permits (p9_temper (p9_there s ((x9_there s) ||| ((1 : Int32) <<< (x1 &&& 31)))) (upd (x9_temper (p9_there s ((x9_there s) ||| ((1 : Int32) <<< (x1 &&& 31))))) (x1 : Int32).toNatClampNeg x2))) (x1 : Int32).toNatClampNeg 0)) (upd (x9_stamps (p9_permits (p9_temper (p9_there s ((x9_there s) ||| ((1 : Int32) <<< (x1 &&& 31)))) (upd (x9_temper (p9_there s ((x9_there s) ||| ((1 : Int32) <<< (x1 &&& 31))))) (x1 : Int32).toNatClampNeg x2)) (upd (x9_permits (p9_temper (p9_there s ((x9_there s) ||| ((1 : Int32) <<< (x1 &&& 31)))) (upd (x9_temper (p9_there s ((x9_there s) ||| ((1 : Int32) <<< (x1 &&& 31))))) (x1 : Int32).toNatClampNeg x2))) (x1 : Int32).toNatClampNeg 0))) (x1 : Int32).toNatClampNeg x3))) (x1 : Int32).toNatClampNeg x4))) (x1 : Int32).toNatClampNeg x5))) C 122 rfl dX9_one_119 hK hP la_X9 0 8 (Nat.le_of_ble_eq_true rfl) fl_X9_25 rfl rfl rfl rfl ?_
  refine g_iload_n C 123 rfl dX9_one_122 1 rfl ?_
  refine g_bipush (-6) C 125 rfl dX9_one_123 kb_m6 ?_
  refine s_iast (cs9 a Δ (p9_cause (p9_yard (p9_purse (p9_stamps (p9_permits (p9_temper (p9_there s ((x9_there s) ||| ((1 : Int32) <<< (x1 &&& 31)))) (upd (x9_temper (p9_there s ((x9_there s) ||| ((1 : Int32) <<< (x1 &&& 31))))) (x1 : Int32).toNatClampNeg x2)) (upd (x9_permits (p9_temper (p9_there s ((x9_there s) ||| ((1 : Int32) <<< (x1 &&& 31)))) (upd (x9_temper (p9_there s ((x9_there s) ||| ((1 : Int32) <<< (x1 &&& 31))))) (x1 : Int32).toNatClampNeg x2))) (x1 : Int32).toNatClampNeg 0)) (upd (x9_stamps (p9_permits (p9_temper (p9_there s ((x9_there s) ||| ((1 : Int32) <<< (x1 &&& 31)))) (upd (x9_temper (p9_there s ((x9_there s) ||| ((1 : Int32) <<< (x1 &&& 31))))) (x1 : Int32).toNatClampNeg x2)) (upd (x9_permits (p9_temper (p9_there s ((x9_there s) ||| ((1 : Int32) <<< (x1 &&& 31)))) (upd (x9_temper (p9_there s ((x9_there s) ||| ((1 : Int32) <<< (x1 &&& 31))))) (x1 : Int32).toNatClampNeg x2))) (x1 : Int32).toNatClampNeg 0))) (x1 : Int32).toNatClampNeg x3)) (upd (x9_purse (p9_stamps (p9_permits (p9_temper (p9_there s ((x9_there s) ||| ((1 : Int32) <<< (x1 &&& 31)))) (upd (x9_temper (p9_there s ((x9_there s) ||| ((1 : Int32) <<< (x1 &&& 31))))) (x1 : Int32).toNatClampNeg x2)) (upd (x9_permits (p9_temper (p9_there s ((x9_there s) ||| ((1 : Int32) <<< (x1 &&& 31)))) (upd (x9_temper (p9_there s ((x9_there s) ||| ((1 : Int32) <<< (x1 &&& 31))))) (x1 : Int32).toNatClampNeg x2))) (x1 : Int32).toNatClampNeg 0)) (upd (x9_stamps (p9_permits (p9_temper (p9_there s ((x9_there s) ||| ((1 : Int32) <<< (x1 &&& 31)))) (upd (x9_temper (p9_there s ((x9_there s) ||| ((1 : Int32) <<< (x1 &&& 31))))) (x1 : Int32).toNatClampNeg x2)) (upd (x9_permits (p9_temper (p9_there s ((x9_there s) ||| ((1 : Int32) <<< (x1 &&& 31)))) (upd (x9_temper (p9_there s ((x9_there s) ||| ((1 : Int32) <<< (x1 &&& 31))))) (x1 : Int32).toNatClampNeg x2))) (x1 : Int32).toNatClampNeg 0))) (x1 : Int32).toNatClampNeg x3))) (x1 : Int32).toNatClampNeg x4)) (upd (x9_yard (p9_purse (p9_stamps (p9_permits (p9_temper (p9_there s ((x9_there s) ||| ((1 : Int32) <<< (x1 &&& 31)))) (upd (x9_temper (p9_there s ((x9_there s) ||| ((1 : Int32) <<< (x1 &&& 31))))) (x1 : Int32).toNatClampNeg x2)) (upd (x9_permits (p9_temper (p9_there s ((x9_there s) ||| ((1 : Int32) <<< (x1 &&& 31)))) (upd (x9_temper (p9_there s ((x9_there s) ||| ((1 : Int32) <<< (x1 &&& 31))))) (x1 : Int32).toNatClampNeg x2))) (x1 : Int32).toNatClampNeg 0)) (upd (x9_stamps (p9_permits (p9_temper (p9_there s ((x9_there s) ||| ((1 : Int32) <<< (x1 &&& 31)))) (upd (x9_temper (p9_there s ((x9_there s) ||| ((1 : Int32) <<< (x1 &&& 31))))) (x1 : Int32).toNatClampNeg x2)) (upd (x9_permits (p9_temper (p9_there s ((x9_there s) ||| ((1 : Int32) <<< (x1 &&& 31)))) (upd (x9_temper (p9_there s ((x9_there s) ||| ((1 : Int32) <<< (x1 &&& 31))))) (x1 : Int32).toNatClampNeg x2))) (x1 : Int32).toNatClampNeg 0))) (x1 : Int32).toNatClampNeg x3)) (upd (x9_purse (p9_stamps (p9_permits (p9_temper (p9_there s ((x9_there s) ||| ((1 : Int32) <<< (x1 &&& 31)))) (upd (x9_temper (p9_there s ((x9_there s) ||| ((1 : Int32) <<< (x1 &&& 31))))) (x1 : Int32).toNatClampNeg x2)) (upd (x9_permits (p9_temper (p9_there s ((x9_there s) ||| ((1 : Int32) <<< (x1 &&& 31)))) (upd (x9_temper (p9_there s ((x9_there s) ||| ((1 : Int32) <<< (x1 &&& 31))))) (x1 : Int32).toNatClampNeg x2))) (x1 : Int32).toNatClampNeg 0)) (upd (x9_stamps (p9_permits (p9_temper (p9_there s ((x9_there s) ||| ((1 : Int32) <<< (x1 &&& 31)))) (upd (x9_temper (p9_there s ((x9_there s) ||| ((1 : Int32) <<< (x1 &&& 31))))) (x1 : Int32).toNatClampNeg x2)) (upd (x9_permits (p9_temper (p9_there s ((x9_there s) ||| ((1 : Int32) <<< (x1 &&& 31)))) (upd (x9_temper (p9_there s ((x9_there s) ||| ((1 : Int32) <<< (x1 &&& 31))))) (x1 : Int32).toNatClampNeg x2))) (x1 : Int32).toNatClampNeg 0))) (x1 : Int32).toNatClampNeg x3))) (x1 : Int32).toNatClampNeg x4))) (x1 : Int32).toNatClampNeg x5)) (upd (x9_cause (p9_yard (p9_purse (p9_stamps (p9_permits (p9_temper (p9_there s ((x9_there s) ||| ((1 : Int32) <<< (x1 &&& 31)))) (upd (x9_temper (p9_there s ((x9_there s) ||| ((1 : Int32) <<< (x1 &&& 31))))) (x1 : Int32).toNatClampNeg x2)) (upd (x9_permits (p9_temper (p9_there s ((x9_there s) ||| ((1 : Int32) <<< (x1 &&& 31)))) (upd (x9_temper (p9_there s ((x9_there s) ||| ((1 : Int32) <<< (x1 &&& 31))))) (x1 : Int32).toNatClampNeg x2))) (x1 : Int32).toNatClampNeg 0)) (upd (x9_stamps (p9_permits (p9_temper (p9_there s ((x9_there s) ||| ((1 : Int32) <<< (x1 &&& 31)))) (upd (x9_temper (p9_there s ((x9_there s) ||| ((1 : Int32) <<< (x1 &&& 31))))) (x1 : Int32).toNatClampNeg x2)) (upd (x9_permits (p9_temper (p9_there s ((x9_there s) ||| ((1 : Int32) <<< (x1 &&& 31)))) (upd (x9_temper (p9_there s ((x9_there s) ||| ((1 : Int32) <<< (x1 &&& 31))))) (x1 : Int32).toNatClampNeg x2))) (x1 : Int32).toNatClampNeg 0))) (x1 : Int32).toNatClampNeg x3)) (upd (x9_purse (p9_stamps (p9_permits (p9_temper (p9_there s ((x9_there s) ||| ((1 : Int32) <<< (x1 &&& 31)))) (upd (x9_temper (p9_there s ((x9_there s) ||| ((1 : Int32) <<< (x1 &&& 31))))) (x1 : Int32).toNatClampNeg x2)) (upd (x9_permits (p9_temper (p9_there s ((x9_there s) ||| ((1 : Int32) <<< (x1 &&& 31)))) (upd (x9_temper (p9_there s ((x9_there s) ||| ((1 : Int32) <<< (x1 &&& 31))))) (x1 : Int32).toNatClampNeg x2))) (x1 : Int32).toNatClampNeg 0)) (upd (x9_stamps (p9_permits (p9_temper (p9_there s ((x9_there s) ||| ((1 : Int32) <<< (x1 &&& 31)))) (upd (x9_temper (p9_there s ((x9_there s) ||| ((1 : Int32) <<< (x1 &&& 31))))) (x1 : Int32).toNatClampNeg x2)) (upd (x9_permits (p9_temper (p9_there s ((x9_there s) ||| ((1 : Int32) <<< (x1 &&& 31)))) (upd (x9_temper (p9_there s ((x9_there s) ||| ((1 : Int32) <<< (x1 &&& 31))))) (x1 : Int32).toNatClampNeg x2))) (x1 : Int32).toNatClampNeg 0))) (x1 : Int32).toNatClampNeg x3))) (x1 : Int32).toNatClampNeg x4)) (upd (x9_yard (p9_purse (p9_stamps (p9_permits (p9_temper (p9_there s ((x9_there s) ||| ((1 : Int32) <<< (x1 &&& 31)))) (upd (x9_temper (p9_there s ((x9_there s) ||| ((1 : Int32) <<< (x1 &&& 31))))) (x1 : Int32).toNatClampNeg x2)) (upd (x9_permits (p9_temper (p9_there s ((x9_there s) ||| ((1 : Int32) <<< (x1 &&& 31)))) (upd (x9_temper (p9_there s ((x9_there s) ||| ((1 : Int32) <<< (x1 &&& 31))))) (x1 : Int32).toNatClampNeg x2))) (x1 : Int32).toNatClampNeg 0)) (upd (x9_stamps (p9_permits (p9_temper (p9_there s ((x9_there s) ||| ((1 : Int32) <<< (x1 &&& 31)))) (upd (x9_temper (p9_there s ((x9_there s) ||| ((1 : Int32) <<< (x1 &&& 31))))) (x1 : Int32).toNatClampNeg x2)) (upd (x9_permits (p9_temper (p9_there s ((x9_there s) ||| ((1 : Int32) <<< (x1 &&& 31)))) (upd (x9_temper (p9_there s ((x9_there s) ||| ((1 : Int32) <<< (x1 &&& 31))))) (x1 : Int32).toNatClampNeg x2))) (x1 : Int32).toNatClampNeg 0))) (x1 : Int32).toNatClampNeg x3)) (upd (x9_purse (p9_stamps (p9_permits (p9_temper (p9_there s ((x9_there s) ||| ((1 : Int32) <<< (x1 &&& 31)))) (upd (x9_temper (p9_there s ((x9_there s) ||| ((1 : Int32) <<< (x1 &&& 31))))) (x1 : Int32).toNatClampNeg x2)) (upd (x9_permits (p9_temper (p9_there s ((x9_there s) ||| ((1 : Int32) <<< (x1 &&& 31)))) (upd (x9_temper (p9_there s ((x9_there s) ||| ((1 : Int32) <<< (x1 &&& 31))))) (x1 : Int32).toNatClampNeg x2))) (x1 : Int32).toNatClampNeg 0)) (upd (x9_stamps (p9_permits (p9_temper (p9_there s ((x9_there s) ||| ((1 : Int32) <<< (x1 &&& 31)))) (upd (x9_temper (p9_there s ((x9_there s) ||| ((1 : Int32) <<< (x1 &&& 31))))) (x1 : Int32).toNatClampNeg x2)) (upd (x9_permits (p9_temper (p9_there s ((x9_there s) ||| ((1 : Int32) <<< (x1 &&& 31)))) (upd (x9_temper (p9_there s ((x9_there s) ||| ((1 : Int32) <<< (x1 &&& 31))))) (x1 : Int32).toNatClampNeg x2))) (x1 : Int32).toNatClampNeg 0))) (x1 : Int32).toNatClampNeg x3))) (x1 : Int32).toNatClampNeg x4))) (x1 : Int32).toNatClampNeg x5))) (x1 : Int32).toNatClampNeg (-6)))) C 126 rfl dX9_one_125 hK hP hD hS 6 rfl hq (sst_91 a Δ (p9_yard (p9_purse (p9_stamps (p9_permits (p9_temper (p9_there s ((x9_there s) ||| ((1 : Int32) <<< (x1 &&& 31)))) (upd (x9_temper (p9_there s ((x9_there s) ||| ((1 : Int32) <<< (x1 &&& 31))))) (x1 : Int32).toNatClampNeg x2)) (upd (x9_permits (p9_temper (p9_there s ((x9_there s) ||| ((1 : Int32) <<< (x1 &&& 31)))) (upd (x9_temper (p9_there s ((x9_there s) ||| ((1 : Int32) <<< (x1 &&& 31))))) (x1 : Int32).toNatClampNeg x2))) (x1 : Int32).toNatClampNeg 0)) (upd (x9_stamps (p9_permits (p9_temper (p9_there s ((x9_there s) ||| ((1 : Int32) <<< (x1 &&& 31)))) (upd (x9_temper (p9_there s ((x9_there s) ||| ((1 : Int32) <<< (x1 &&& 31))))) (x1 : Int32).toNatClampNeg x2)) (upd (x9_permits (p9_temper (p9_there s ((x9_there s) ||| ((1 : Int32) <<< (x1 &&& 31)))) (upd (x9_temper (p9_there s ((x9_there s) ||| ((1 : Int32) <<< (x1 &&& 31))))) (x1 : Int32).toNatClampNeg x2))) (x1 : Int32).toNatClampNeg 0))) (x1 : Int32).toNatClampNeg x3)) (upd (x9_purse (p9_stamps (p9_permits (p9_temper (p9_there s ((x9_there s) ||| ((1 : Int32) <<< (x1 &&& 31)))) (upd (x9_temper (p9_there s ((x9_there s) ||| ((1 : Int32) <<< (x1 &&& 31))))) (x1 : Int32).toNatClampNeg x2)) (upd (x9_permits (p9_temper (p9_there s ((x9_there s) ||| ((1 : Int32) <<< (x1 &&& 31)))) (upd (x9_temper (p9_there s ((x9_there s) ||| ((1 : Int32) <<< (x1 &&& 31))))) (x1 : Int32).toNatClampNeg x2))) (x1 : Int32).toNatClampNeg 0)) (upd (x9_stamps (p9_permits (p9_temper (p9_there s ((x9_there s) ||| ((1 : Int32) <<< (x1 &&& 31)))) (upd (x9_temper (p9_there s ((x9_there s) ||| ((1 : Int32) <<< (x1 &&& 31))))) (x1 : Int32).toNatClampNeg x2)) (upd (x9_permits (p9_temper (p9_there s ((x9_there s) ||| ((1 : Int32) <<< (x1 &&& 31)))) (upd (x9_temper (p9_there s ((x9_there s) ||| ((1 : Int32) <<< (x1 &&& 31))))) (x1 : Int32).toNatClampNeg x2))) (x1 : Int32).toNatClampNeg 0))) (x1 : Int32).toNatClampNeg x3))) (x1 : Int32).toNatClampNeg x4)) (upd (x9_yard (p9_purse (p9_stamps (p9_permits (p9_temper (p9_there s ((x9_there s) ||| ((1 : Int32) <<< (x1 &&& 31)))) (upd (x9_temper (p9_there s ((x9_there s) ||| ((1 : Int32) <<< (x1 &&& 31))))) (x1 : Int32).toNatClampNeg x2)) (upd (x9_permits (p9_temper (p9_there s ((x9_there s) ||| ((1 : Int32) <<< (x1 &&& 31)))) (upd (x9_temper (p9_there s ((x9_there s) ||| ((1 : Int32) <<< (x1 &&& 31))))) (x1 : Int32).toNatClampNeg x2))) (x1 : Int32).toNatClampNeg 0)) (upd (x9_stamps (p9_permits (p9_temper (p9_there s ((x9_there s) ||| ((1 : Int32) <<< (x1 &&& 31)))) (upd (x9_temper (p9_there s ((x9_there s) ||| ((1 : Int32) <<< (x1 &&& 31))))) (x1 : Int32).toNatClampNeg x2)) (upd (x9_permits (p9_temper (p9_there s ((x9_there s) ||| ((1 : Int32) <<< (x1 &&& 31)))) (upd (x9_temper (p9_there s ((x9_there s) ||| ((1 : Int32) <<< (x1 &&& 31))))) (x1 : Int32).toNatClampNeg x2))) (x1 : Int32).toNatClampNeg 0))) (x1 : Int32).toNatClampNeg x3)) (upd (x9_purse (p9_stamps (p9_permits (p9_temper (p9_there s ((x9_there s) ||| ((1 : Int32) <<< (x1 &&& 31)))) (upd (x9_temper (p9_there s ((x9_there s) ||| ((1 : Int32) <<< (x1 &&& 31))))) (x1 : Int32).toNatClampNeg x2)) (upd (x9_permits (p9_temper (p9_there s ((x9_there s) ||| ((1 : Int32) <<< (x1 &&& 31)))) (upd (x9_temper (p9_there s ((x9_there s) ||| ((1 : Int32) <<< (x1 &&& 31))))) (x1 : Int32).toNatClampNeg x2))) (x1 : Int32).toNatClampNeg 0)) (upd (x9_stamps (p9_permits (p9_temper (p9_there s ((x9_there s) ||| ((1 : Int32) <<< (x1 &&& 31)))) (upd (x9_temper (p9_there s ((x9_there s) ||| ((1 : Int32) <<< (x1 &&& 31))))) (x1 : Int32).toNatClampNeg x2)) (upd (x9_permits (p9_temper (p9_there s ((x9_there s) ||| ((1 : Int32) <<< (x1 &&& 31)))) (upd (x9_temper (p9_there s ((x9_there s) ||| ((1 : Int32) <<< (x1 &&& 31))))) (x1 : Int32).toNatClampNeg x2))) (x1 : Int32).toNatClampNeg 0))) (x1 : Int32).toNatClampNeg x3))) (x1 : Int32).toNatClampNeg x4))) (x1 : Int32).toNatClampNeg x5)) (upd (x9_cause (p9_yard (p9_purse (p9_stamps (p9_permits (p9_temper (p9_there s ((x9_there s) ||| ((1 : Int32) <<< (x1 &&& 31)))) (upd (x9_temper (p9_there s ((x9_there s) ||| ((1 : Int32) <<< (x1 &&& 31))))) (x1 : Int32).toNatClampNeg x2)) (upd (x9_permits (p9_temper (p9_there s ((x9_there s) ||| ((1 : Int32) <<< (x1 &&& 31)))) (upd (x9_temper (p9_there s ((x9_there s) ||| ((1 : Int32) <<< (x1 &&& 31))))) (x1 : Int32).toNatClampNeg x2))) (x1 : Int32).toNatClampNeg 0)) (upd (x9_stamps (p9_permits (p9_temper (p9_there s ((x9_there s) ||| ((1 : Int32) <<< (x1 &&& 31)))) (upd (x9_temper (p9_there s ((x9_there s) ||| ((1 : Int32) <<< (x1 &&& 31))))) (x1 : Int32).toNatClampNeg x2)) (upd (x9_permits (p9_temper (p9_there s ((x9_there s) ||| ((1 : Int32) <<< (x1 &&& 31)))) (upd (x9_temper (p9_there s ((x9_there s) ||| ((1 : Int32) <<< (x1 &&& 31))))) (x1 : Int32).toNatClampNeg x2))) (x1 : Int32).toNatClampNeg 0))) (x1 : Int32).toNatClampNeg x3)) (upd (x9_purse (p9_stamps (p9_permits (p9_temper (p9_there s ((x9_there s) ||| ((1 : Int32) <<< (x1 &&& 31)))) (upd (x9_temper (p9_there s ((x9_there s) ||| ((1 : Int32) <<< (x1 &&& 31))))) (x1 : Int32).toNatClampNeg x2)) (upd (x9_permits (p9_temper (p9_there s ((x9_there s) ||| ((1 : Int32) <<< (x1 &&& 31)))) (upd (x9_temper (p9_there s ((x9_there s) ||| ((1 : Int32) <<< (x1 &&& 31))))) (x1 : Int32).toNatClampNeg x2))) (x1 : Int32).toNatClampNeg 0)) (upd (x9_stamps (p9_permits (p9_temper (p9_there s ((x9_there s) ||| ((1 : Int32) <<< (x1 &&& 31)))) (upd (x9_temper (p9_there s ((x9_there s) ||| ((1 : Int32) <<< (x1 &&& 31))))) (x1 : Int32).toNatClampNeg x2)) (upd (x9_permits (p9_temper (p9_there s ((x9_there s) ||| ((1 : Int32) <<< (x1 &&& 31)))) (upd (x9_temper (p9_there s ((x9_there s) ||| ((1 : Int32) <<< (x1 &&& 31))))) (x1 : Int32).toNatClampNeg x2))) (x1 : Int32).toNatClampNeg 0))) (x1 : Int32).toNatClampNeg x3))) (x1 : Int32).toNatClampNeg x4)) (upd (x9_yard (p9_purse (p9_stamps (p9_permits (p9_temper (p9_there s ((x9_there s) ||| ((1 : Int32) <<< (x1 &&& 31)))) (upd (x9_temper (p9_there s ((x9_there s) ||| ((1 : Int32) <<< (x1 &&& 31))))) (x1 : Int32).toNatClampNeg x2)) (upd (x9_permits (p9_temper (p9_there s ((x9_there s) ||| ((1 : Int32) <<< (x1 &&& 31)))) (upd (x9_temper (p9_there s ((x9_there s) ||| ((1 : Int32) <<< (x1 &&& 31))))) (x1 : Int32).toNatClampNeg x2))) (x1 : Int32).toNatClampNeg 0)) (upd (x9_stamps (p9_permits (p9_temper (p9_there s ((x9_there s) ||| ((1 : Int32) <<< (x1 &&& 31)))) (upd (x9_temper (p9_there s ((x9_there s) ||| ((1 : Int32) <<< (x1 &&& 31))))) (x1 : Int32).toNatClampNeg x2)) (upd (x9_permits (p9_temper (p9_there s ((x9_there s) ||| ((1 : Int32) <<< (x1 &&& 31)))) (upd (x9_temper (p9_there s ((x9_there s) ||| ((1 : Int32) <<< (x1 &&& 31))))) (x1 : Int32).toNatClampNeg x2))) (x1 : Int32).toNatClampNeg 0))) (x1 : Int32).toNatClampNeg x3)) (upd (x9_purse (p9_stamps (p9_permits (p9_temper (p9_there s ((x9_there s) ||| ((1 : Int32) <<< (x1 &&& 31)))) (upd (x9_temper (p9_there s ((x9_there s) ||| ((1 : Int32) <<< (x1 &&& 31))))) (x1 : Int32).toNatClampNeg x2)) (upd (x9_permits (p9_temper (p9_there s ((x9_there s) ||| ((1 : Int32) <<< (x1 &&& 31)))) (upd (x9_temper (p9_there s ((x9_there s) ||| ((1 : Int32) <<< (x1 &&& 31))))) (x1 : Int32).toNatClampNeg x2))) (x1 : Int32).toNatClampNeg 0)) (upd (x9_stamps (p9_permits (p9_temper (p9_there s ((x9_there s) ||| ((1 : Int32) <<< (x1 &&& 31)))) (upd (x9_temper (p9_there s ((x9_there s) ||| ((1 : Int32) <<< (x1 &&& 31))))) (x1 : Int32).toNatClampNeg x2)) (upd (x9_permits (p9_temper (p9_there s ((x9_there s) ||| ((1 : Int32) <<< (x1 &&& 31)))) (upd (x9_temper (p9_there s ((x9_there s) ||| ((1 : Int32) <<< (x1 &&& 31))))) (x1 : Int32).toNatClampNeg x2))) (x1 : Int32).toNatClampNeg 0))) (x1 : Int32).toNatClampNeg x3))) (x1 : Int32).toNatClampNeg x4))) (x1 : Int32).toNatClampNeg x5))) (x1 : Int32).toNatClampNeg (-6))) (fun hq hi16 H L hP hD hS => ?_)
  refine g_aload_n C 127 rfl dX9_one_126 0 rfl ?_
  refine g_get (v := .int (x9_there (p9_cause (p9_yard (p9_purse (p9_stamps (p9_permits (p9_temper (p9_there s ((x9_there s) ||| ((1 : Int32) <<< (x1 &&& 31)))) (upd (x9_temper (p9_there s ((x9_there s) ||| ((1 : Int32) <<< (x1 &&& 31))))) (x1 : Int32).toNatClampNeg x2)) (upd (x9_permits (p9_temper (p9_there s ((x9_there s) ||| ((1 : Int32) <<< (x1 &&& 31)))) (upd (x9_temper (p9_there s ((x9_there s) ||| ((1 : Int32) <<< (x1 &&& 31))))) (x1 : Int32).toNatClampNeg x2))) (x1 : Int32).toNatClampNeg 0)) (upd (x9_stamps (p9_permits (p9_temper (p9_there s ((x9_there s) ||| ((1 : Int32) <<< (x1 &&& 31)))) (upd (x9_temper (p9_there s ((x9_there s) ||| ((1 : Int32) <<< (x1 &&& 31))))) (x1 : Int32).toNatClampNeg x2)) (upd (x9_permits (p9_temper (p9_there s ((x9_there s) ||| ((1 : Int32) <<< (x1 &&& 31)))) (upd (x9_temper (p9_there s ((x9_there s) ||| ((1 : Int32) <<< (x1 &&& 31))))) (x1 : Int32).toNatClampNeg x2))) (x1 : Int32).toNatClampNeg 0))) (x1 : Int32).toNatClampNeg x3)) (upd (x9_purse (p9_stamps (p9_permits (p9_temper (p9_there s ((x9_there s) ||| ((1 : Int32) <<< (x1 &&& 31)))) (upd (x9_temper (p9_there s ((x9_there s) ||| ((1 : Int32) <<< (x1 &&& 31))))) (x1 : Int32).toNatClampNeg x2)) (upd (x9_permits (p9_temper (p9_there s ((x9_there s) ||| ((1 : Int32) <<< (x1 &&& 31)))) (upd (x9_temper (p9_there s ((x9_there s) ||| ((1 : Int32) <<< (x1 &&& 31))))) (x1 : Int32).toNatClampNeg x2))) (x1 : Int32).toNatClampNeg 0)) (upd (x9_stamps (p9_permits (p9_temper (p9_there s ((x9_there s) ||| ((1 : Int32) <<< (x1 &&& 31)))) (upd (x9_temper (p9_there s ((x9_there s) ||| ((1 : Int32) <<< (x1 &&& 31))))) (x1 : Int32).toNatClampNeg x2)) (upd (x9_permits (p9_temper (p9_there s ((x9_there s) ||| ((1 : Int32) <<< (x1 &&& 31)))) (upd (x9_temper (p9_there s ((x9_there s) ||| ((1 : Int32) <<< (x1 &&& 31))))) (x1 : Int32).toNatClampNeg x2))) (x1 : Int32).toNatClampNeg 0))) (x1 : Int32).toNatClampNeg x3))) (x1 : Int32).toNatClampNeg x4)) (upd (x9_yard (p9_purse (p9_stamps (p9_permits (p9_temper (p9_there s ((x9_there s) ||| ((1 : Int32) <<< (x1 &&& 31)))) (upd (x9_temper (p9_there s ((x9_there s) ||| ((1 : Int32) <<< (x1 &&& 31))))) (x1 : Int32).toNatClampNeg x2)) (upd (x9_permits (p9_temper (p9_there s ((x9_there s) ||| ((1 : Int32) <<< (x1 &&& 31)))) (upd (x9_temper (p9_there s ((x9_there s) ||| ((1 : Int32) <<< (x1 &&& 31))))) (x1 : Int32).toNatClampNeg x2))) (x1 : Int32).toNatClampNeg 0)) (upd (x9_stamps (p9_permits (p9_temper (p9_there s ((x9_there s) ||| ((1 : Int32) <<< (x1 &&& 31)))) (upd (x9_temper (p9_there s ((x9_there s) ||| ((1 : Int32) <<< (x1 &&& 31))))) (x1 : Int32).toNatClampNeg x2)) (upd (x9_permits (p9_temper (p9_there s ((x9_there s) ||| ((1 : Int32) <<< (x1 &&& 31)))) (upd (x9_temper (p9_there s ((x9_there s) ||| ((1 : Int32) <<< (x1 &&& 31))))) (x1 : Int32).toNatClampNeg x2))) (x1 : Int32).toNatClampNeg 0))) (x1 : Int32).toNatClampNeg x3)) (upd (x9_purse (p9_stamps (p9_permits (p9_temper (p9_there s ((x9_there s) ||| ((1 : Int32) <<< (x1 &&& 31)))) (upd (x9_temper (p9_there s ((x9_there s) ||| ((1 : Int32) <<< (x1 &&& 31))))) (x1 : Int32).toNatClampNeg x2)) (upd (x9_permits (p9_temper (p9_there s ((x9_there s) ||| ((1 : Int32) <<< (x1 &&& 31)))) (upd (x9_temper (p9_there s ((x9_there s) ||| ((1 : Int32) <<< (x1 &&& 31))))) (x1 : Int32).toNatClampNeg x2))) (x1 : Int32).toNatClampNeg 0)) (upd (x9_stamps (p9_permits (p9_temper (p9_there s ((x9_there s) ||| ((1 : Int32) <<< (x1 &&& 31)))) (upd (x9_temper (p9_there s ((x9_there s) ||| ((1 : Int32) <<< (x1 &&& 31))))) (x1 : Int32).toNatClampNeg x2)) (upd (x9_permits (p9_temper (p9_there s ((x9_there s) ||| ((1 : Int32) <<< (x1 &&& 31)))) (upd (x9_temper (p9_there s ((x9_there s) ||| ((1 : Int32) <<< (x1 &&& 31))))) (x1 : Int32).toNatClampNeg x2))) (x1 : Int32).toNatClampNeg 0))) (x1 : Int32).toNatClampNeg x3))) (x1 : Int32).toNatClampNeg x4))) (x1 : Int32).toNatClampNeg x5)) (upd (x9_cause (p9_yard (p9_purse (p9_stamps (p9_permits (p9_temper (p9_there s ((x9_there s) ||| ((1 : Int32) <<< (x1 &&& 31)))) (upd (x9_temper (p9_there s ((x9_there s) ||| ((1 : Int32) <<< (x1 &&& 31))))) (x1 : Int32).toNatClampNeg x2)) (upd (x9_permits (p9_temper (p9_there s ((x9_there s) ||| ((1 : Int32) <<< (x1 &&& 31)))) (upd (x9_temper (p9_there s ((x9_there s) ||| ((1 : Int32) <<< (x1 &&& 31))))) (x1 : Int32).toNatClampNeg x2))) (x1 : Int32).toNatClampNeg 0)) (upd (x9_stamps (p9_permits (p9_temper (p9_there s ((x9_there s) ||| ((1 : Int32) <<< (x1 &&& 31)))) (upd (x9_temper (p9_there s ((x9_there s) ||| ((1 : Int32) <<< (x1 &&& 31))))) (x1 : Int32).toNatClampNeg x2)) (upd (x9_permits (p9_temper (p9_there s ((x9_there s) ||| ((1 : Int32) <<< (x1 &&& 31)))) (upd (x9_temper (p9_there s ((x9_there s) ||| ((1 : Int32) <<< (x1 &&& 31))))) (x1 : Int32).toNatClampNeg x2))) (x1 : Int32).toNatClampNeg 0))) (x1 : Int32).toNatClampNeg x3)) (upd (x9_purse (p9_stamps (p9_permits (p9_temper (p9_there s ((x9_there s) ||| ((1 : Int32) <<< (x1 &&& 31)))) (upd (x9_temper (p9_there s ((x9_there s) ||| ((1 : Int32) <<< (x1 &&& 31))))) (x1 : Int32).toNatClampNeg x2)) (upd (x9_permits (p9_temper (p9_there s ((x9_there s) ||| ((1 : Int32) <<< (x1 &&& 31)))) (upd (x9_temper (p9_there s ((x9_there s) ||| ((1 : Int32) <<< (x1 &&& 31))))) (x1 : Int32).toNatClampNeg x2))) (x1 : Int32).toNatClampNeg 0)) (upd (x9_stamps (p9_permits (p9_temper (p9_there s ((x9_there s) ||| ((1 : Int32) <<< (x1 &&& 31)))) (upd (x9_temper (p9_there s ((x9_there s) ||| ((1 : Int32) <<< (x1 &&& 31))))) (x1 : Int32).toNatClampNeg x2)) (upd (x9_permits (p9_temper (p9_there s ((x9_there s) ||| ((1 : Int32) <<< (x1 &&& 31)))) (upd (x9_temper (p9_there s ((x9_there s) ||| ((1 : Int32) <<< (x1 &&& 31))))) (x1 : Int32).toNatClampNeg x2))) (x1 : Int32).toNatClampNeg 0))) (x1 : Int32).toNatClampNeg x3))) (x1 : Int32).toNatClampNeg x4)) (upd (x9_yard (p9_purse (p9_stamps (p9_permits (p9_temper (p9_there s ((x9_there s) ||| ((1 : Int32) <<< (x1 &&& 31)))) (upd (x9_temper (p9_there s ((x9_there s) ||| ((1 : Int32) <<< (x1 &&& 31))))) (x1 : Int32).toNatClampNeg x2)) (upd (x9_permits (p9_temper (p9_there s ((x9_there s) ||| ((1 : Int32) <<< (x1 &&& 31)))) (upd (x9_temper (p9_there s ((x9_there s) ||| ((1 : Int32) <<< (x1 &&& 31))))) (x1 : Int32).toNatClampNeg x2))) (x1 : Int32).toNatClampNeg 0)) (upd (x9_stamps (p9_permits (p9_temper (p9_there s ((x9_there s) ||| ((1 : Int32) <<< (x1 &&& 31)))) (upd (x9_temper (p9_there s ((x9_there s) ||| ((1 : Int32) <<< (x1 &&& 31))))) (x1 : Int32).toNatClampNeg x2)) (upd (x9_permits (p9_temper (p9_there s ((x9_there s) ||| ((1 : Int32) <<< (x1 &&& 31)))) (upd (x9_temper (p9_there s ((x9_there s) ||| ((1 : Int32) <<< (x1 &&& 31))))) (x1 : Int32).toNatClampNeg x2))) (x1 : Int32).toNatClampNeg 0))) (x1 : Int32).toNatClampNeg x3)) (upd (x9_purse (p9_stamps (p9_permits (p9_temper (p9_there s ((x9_there s) ||| ((1 : Int32) <<< (x1 &&& 31)))) (upd (x9_temper (p9_there s ((x9_there s) ||| ((1 : Int32) <<< (x1 &&& 31))))) (x1 : Int32).toNatClampNeg x2)) (upd (x9_permits (p9_temper (p9_there s ((x9_there s) ||| ((1 : Int32) <<< (x1 &&& 31)))) (upd (x9_temper (p9_there s ((x9_there s) ||| ((1 : Int32) <<< (x1 &&& 31))))) (x1 : Int32).toNatClampNeg x2))) (x1 : Int32).toNatClampNeg 0)) (upd (x9_stamps (p9_permits (p9_temper (p9_there s ((x9_there s) ||| ((1 : Int32) <<< (x1 &&& 31)))) (upd (x9_temper (p9_there s ((x9_there s) ||| ((1 : Int32) <<< (x1 &&& 31))))) (x1 : Int32).toNatClampNeg x2)) (upd (x9_permits (p9_temper (p9_there s ((x9_there s) ||| ((1 : Int32) <<< (x1 &&& 31)))) (upd (x9_temper (p9_there s ((x9_there s) ||| ((1 : Int32) <<< (x1 &&& 31))))) (x1 : Int32).toNatClampNeg x2))) (x1 : Int32).toNatClampNeg 0))) (x1 : Int32).toNatClampNeg x3))) (x1 : Int32).toNatClampNeg x4))) (x1 : Int32).toNatClampNeg x5))) (x1 : Int32).toNatClampNeg (-6))))) (fs := fl9 a (p9_cause (p9_yard (p9_purse (p9_stamps (p9_permits (p9_temper (p9_there s ((x9_there s) ||| ((1 : Int32) <<< (x1 &&& 31)))) (upd (x9_temper (p9_there s ((x9_there s) ||| ((1 : Int32) <<< (x1 &&& 31))))) (x1 : Int32).toNatClampNeg x2)) (upd (x9_permits (p9_temper (p9_there s ((x9_there s) ||| ((1 : Int32) <<< (x1 &&& 31)))) (upd (x9_temper (p9_there s ((x9_there s) ||| ((1 : Int32) <<< (x1 &&& 31))))) (x1 : Int32).toNatClampNeg x2))) (x1 : Int32).toNatClampNeg 0)) (upd (x9_stamps (p9_permits (p9_temper (p9_there s ((x9_there s) ||| ((1 : Int32) <<< (x1 &&& 31)))) (upd (x9_temper (p9_there s ((x9_there s) ||| ((1 : Int32) <<< (x1 &&& 31))))) (x1 : Int32).toNatClampNeg x2)) (upd (x9_permits (p9_temper (p9_there s ((x9_there s) ||| ((1 : Int32) <<< (x1 &&& 31)))) (upd (x9_temper (p9_there s ((x9_there s) ||| ((1 : Int32) <<< (x1 &&& 31))))) (x1 : Int32).toNatClampNeg x2))) (x1 : Int32).toNatClampNeg 0))) (x1 : Int32).toNatClampNeg x3)) (upd (x9_purse (p9_stamps (p9_permits (p9_temper (p9_there s ((x9_there s) ||| ((1 : Int32) <<< (x1 &&& 31)))) (upd (x9_temper (p9_there s ((x9_there s) ||| ((1 : Int32) <<< (x1 &&& 31))))) (x1 : Int32).toNatClampNeg x2)) (upd (x9_permits (p9_temper (p9_there s ((x9_there s) ||| ((1 : Int32) <<< (x1 &&& 31)))) (upd (x9_temper (p9_there s ((x9_there s) ||| ((1 : Int32) <<< (x1 &&& 31))))) (x1 : Int32).toNatClampNeg x2))) (x1 : Int32).toNatClampNeg 0)) (upd (x9_stamps (p9_permits (p9_temper (p9_there s ((x9_there s) ||| ((1 : Int32) <<< (x1 &&& 31)))) (upd (x9_temper (p9_there s ((x9_there s) ||| ((1 : Int32) <<< (x1 &&& 31))))) (x1 : Int32).toNatClampNeg x2)) (upd (x9_permits (p9_temper (p9_there s ((x9_there s) ||| ((1 : Int32) <<< (x1 &&& 31)))) (upd (x9_temper (p9_there s ((x9_there s) ||| ((1 : Int32) <<< (x1 &&& 31))))) (x1 : Int32).toNatClampNeg x2))) (x1 : Int32).toNatClampNeg 0))) (x1 : Int32).toNatClampNeg x3))) (x1 : Int32).toNatClampNeg x4)) (upd (x9_yard (p9_purse (p9_stamps (p9_permits (p9_temper (p9_there s ((x9_there s) ||| ((1 : Int32) <<< (x1 &&& 31)))) (upd (x9_temper (p9_there s ((x9_there s) ||| ((1 : Int32) <<< (x1 &&& 31))))) (x1 : Int32).toNatClampNeg x2)) (upd (x9_permits (p9_temper (p9_there s ((x9_there s) ||| ((1 : Int32) <<< (x1 &&& 31)))) (upd (x9_temper (p9_there s ((x9_there s) ||| ((1 : Int32) <<< (x1 &&& 31))))) (x1 : Int32).toNatClampNeg x2))) (x1 : Int32).toNatClampNeg 0)) (upd (x9_stamps (p9_permits (p9_temper (p9_there s ((x9_there s) ||| ((1 : Int32) <<< (x1 &&& 31)))) (upd (x9_temper (p9_there s ((x9_there s) ||| ((1 : Int32) <<< (x1 &&& 31))))) (x1 : Int32).toNatClampNeg x2)) (upd (x9_permits (p9_temper (p9_there s ((x9_there s) ||| ((1 : Int32) <<< (x1 &&& 31)))) (upd (x9_temper (p9_there s ((x9_there s) ||| ((1 : Int32) <<< (x1 &&& 31))))) (x1 : Int32).toNatClampNeg x2))) (x1 : Int32).toNatClampNeg 0))) (x1 : Int32).toNatClampNeg x3)) (upd (x9_purse (p9_stamps (p9_permits (p9_temper (p9_there s ((x9_there s) ||| ((1 : Int32) <<< (x1 &&& 31)))) (upd (x9_temper (p9_there s ((x9_there s) ||| ((1 : Int32) <<< (x1 &&& 31))))) (x1 : Int32).toNatClampNeg x2)) (upd (x9_permits (p9_temper (p9_there s ((x9_there s) ||| ((1 : Int32) <<< (x1 &&& 31)))) (upd (x9_temper (p9_there s ((x9_there s) ||| ((1 : Int32) <<< (x1 &&& 31))))) (x1 : Int32).toNatClampNeg x2))) (x1 : Int32).toNatClampNeg 0)) (upd (x9_stamps (p9_permits (p9_temper (p9_there s ((x9_there s) ||| ((1 : Int32) <<< (x1 &&& 31)))) (upd (x9_temper (p9_there s ((x9_there s) ||| ((1 : Int32) <<< (x1 &&& 31))))) (x1 : Int32).toNatClampNeg x2)) (upd (x9_permits (p9_temper (p9_there s ((x9_there s) ||| ((1 : Int32) <<< (x1 &&& 31)))) (upd (x9_temper (p9_there s ((x9_there s) ||| ((1 : Int32) <<< (x1 &&& 31))))) (x1 : Int32).toNatClampNeg x2))) (x1 : Int32).toNatClampNeg 0))) (x1 : Int32).toNatClampNeg x3))) (x1 : Int32).toNatClampNeg x4))) (x1 : Int32).toNatClampNeg x5)) (upd (x9_cause (p9_yard (p9_purse (p9_stamps (p9_permits (p9_temper (p9_there s ((x9_there s) ||| ((1 : Int32) <<< (x1 &&& 31)))) (upd (x9_temper (p9_there s ((x9_there s) ||| ((1 : Int32) <<< (x1 &&& 31))))) (x1 : Int32).toNatClampNeg x2)) (upd (x9_permits (p9_temper (p9_there s ((x9_there s) ||| ((1 : Int32) <<< (x1 &&& 31)))) (upd (x9_temper (p9_there s ((x9_there s) ||| ((1 : Int32) <<< (x1 &&& 31))))) (x1 : Int32).toNatClampNeg x2))) (x1 : Int32).toNatClampNeg 0)) (upd (x9_stamps (p9_permits (p9_temper (p9_there s ((x9_there s) ||| ((1 : Int32) <<< (x1 &&& 31)))) (upd (x9_temper (p9_there s ((x9_there s) ||| ((1 : Int32) <<< (x1 &&& 31))))) (x1 : Int32).toNatClampNeg x2)) (upd (x9_permits (p9_temper (p9_there s ((x9_there s) ||| ((1 : Int32) <<< (x1 &&& 31)))) (upd (x9_temper (p9_there s ((x9_there s) ||| ((1 : Int32) <<< (x1 &&& 31))))) (x1 : Int32).toNatClampNeg x2))) (x1 : Int32).toNatClampNeg 0))) (x1 : Int32).toNatClampNeg x3)) (upd (x9_purse (p9_stamps (p9_permits (p9_temper (p9_there s ((x9_there s) ||| ((1 : Int32) <<< (x1 &&& 31)))) (upd (x9_temper (p9_there s ((x9_there s) ||| ((1 : Int32) <<< (x1 &&& 31))))) (x1 : Int32).toNatClampNeg x2)) (upd (x9_permits (p9_temper (p9_there s ((x9_there s) ||| ((1 : Int32) <<< (x1 &&& 31)))) (upd (x9_temper (p9_there s ((x9_there s) ||| ((1 : Int32) <<< (x1 &&& 31))))) (x1 : Int32).toNatClampNeg x2))) (x1 : Int32).toNatClampNeg 0)) (upd (x9_stamps (p9_permits (p9_temper (p9_there s ((x9_there s) ||| ((1 : Int32) <<< (x1 &&& 31)))) (upd (x9_temper (p9_there s ((x9_there s) ||| ((1 : Int32) <<< (x1 &&& 31))))) (x1 : Int32).toNatClampNeg x2)) (upd (x9_permits (p9_temper (p9_there s ((x9_there s) ||| ((1 : Int32) <<< (x1 &&& 31)))) (upd (x9_temper (p9_there s ((x9_there s) ||| ((1 : Int32) <<< (x1 &&& 31))))) (x1 : Int32).toNatClampNeg x2))) (x1 : Int32).toNatClampNeg 0))) (x1 : Int32).toNatClampNeg x3))) (x1 : Int32).toNatClampNeg x4)) (upd (x9_yard (p9_purse (p9_stamps (p9_permits (p9_temper (p9_there s ((x9_there s) ||| ((1 : Int32) <<< (x1 &&& 31)))) (upd (x9_temper (p9_there s ((x9_there s) ||| ((1 : Int32) <<< (x1 &&& 31))))) (x1 : Int32).toNatClampNeg x2)) (upd (x9_permits (p9_temper (p9_there s ((x9_there s) ||| ((1 : Int32) <<< (x1 &&& 31)))) (upd (x9_temper (p9_there s ((x9_there s) ||| ((1 : Int32) <<< (x1 &&& 31))))) (x1 : Int32).toNatClampNeg x2))) (x1 : Int32).toNatClampNeg 0)) (upd (x9_stamps (p9_permits (p9_temper (p9_there s ((x9_there s) ||| ((1 : Int32) <<< (x1 &&& 31)))) (upd (x9_temper (p9_there s ((x9_there s) ||| ((1 : Int32) <<< (x1 &&& 31))))) (x1 : Int32).toNatClampNeg x2)) (upd (x9_permits (p9_temper (p9_there s ((x9_there s) ||| ((1 : Int32) <<< (x1 &&& 31)))) (upd (x9_temper (p9_there s ((x9_there s) ||| ((1 : Int32) <<< (x1 &&& 31))))) (x1 : Int32).toNatClampNeg x2))) (x1 : Int32).toNatClampNeg 0))) (x1 : Int32).toNatClampNeg x3)) (upd (x9_purse (p9_stamps (p9_permits (p9_temper (p9_there s ((x9_there s) ||| ((1 : Int32) <<< (x1 &&& 31)))) (upd (x9_temper (p9_there s ((x9_there s) ||| ((1 : Int32) <<< (x1 &&& 31))))) (x1 : Int32).toNatClampNeg x2)) (upd (x9_permits (p9_temper (p9_there s ((x9_there s) ||| ((1 : Int32) <<< (x1 &&& 31)))) (upd (x9_temper (p9_there s ((x9_there s) ||| ((1 : Int32) <<< (x1 &&& 31))))) (x1 : Int32).toNatClampNeg x2))) (x1 : Int32).toNatClampNeg 0)) (upd (x9_stamps (p9_permits (p9_temper (p9_there s ((x9_there s) ||| ((1 : Int32) <<< (x1 &&& 31)))) (upd (x9_temper (p9_there s ((x9_there s) ||| ((1 : Int32) <<< (x1 &&& 31))))) (x1 : Int32).toNatClampNeg x2)) (upd (x9_permits (p9_temper (p9_there s ((x9_there s) ||| ((1 : Int32) <<< (x1 &&& 31)))) (upd (x9_temper (p9_there s ((x9_there s) ||| ((1 : Int32) <<< (x1 &&& 31))))) (x1 : Int32).toNatClampNeg x2))) (x1 : Int32).toNatClampNeg 0))) (x1 : Int32).toNatClampNeg x3))) (x1 : Int32).toNatClampNeg x4))) (x1 : Int32).toNatClampNeg x5))) (x1 : Int32).toNatClampNeg (-6)))) C 130 rfl dX9_one_127 hK hP la_X9 0 0 (Nat.le_of_ble_eq_true rfl) fl_X9_94 rfl rfl rfl rfl ?_
  obtain ⟨r17, hz18, hq⟩ := bindE hq
  refine g_callRS (rest := []) C 133 rfl dX9_one_130 (c_X9_ones Γ.2.1 Δ  (x9_there (p9_cause (p9_yard (p9_purse (p9_stamps (p9_permits (p9_temper (p9_there s ((x9_there s) ||| ((1 : Int32) <<< (x1 &&& 31)))) (upd (x9_temper (p9_there s ((x9_there s) ||| ((1 : Int32) <<< (x1 &&& 31))))) (x1 : Int32).toNatClampNeg x2)) (upd (x9_permits (p9_temper (p9_there s ((x9_there s) ||| ((1 : Int32) <<< (x1 &&& 31)))) (upd (x9_temper (p9_there s ((x9_there s) ||| ((1 : Int32) <<< (x1 &&& 31))))) (x1 : Int32).toNatClampNeg x2))) (x1 : Int32).toNatClampNeg 0)) (upd (x9_stamps (p9_permits (p9_temper (p9_there s ((x9_there s) ||| ((1 : Int32) <<< (x1 &&& 31)))) (upd (x9_temper (p9_there s ((x9_there s) ||| ((1 : Int32) <<< (x1 &&& 31))))) (x1 : Int32).toNatClampNeg x2)) (upd (x9_permits (p9_temper (p9_there s ((x9_there s) ||| ((1 : Int32) <<< (x1 &&& 31)))) (upd (x9_temper (p9_there s ((x9_there s) ||| ((1 : Int32) <<< (x1 &&& 31))))) (x1 : Int32).toNatClampNeg x2))) (x1 : Int32).toNatClampNeg 0))) (x1 : Int32).toNatClampNeg x3)) (upd (x9_purse (p9_stamps (p9_permits (p9_temper (p9_there s ((x9_there s) ||| ((1 : Int32) <<< (x1 &&& 31)))) (upd (x9_temper (p9_there s ((x9_there s) ||| ((1 : Int32) <<< (x1 &&& 31))))) (x1 : Int32).toNatClampNeg x2)) (upd (x9_permits (p9_temper (p9_there s ((x9_there s) ||| ((1 : Int32) <<< (x1 &&& 31)))) (upd (x9_temper (p9_there s ((x9_there s) ||| ((1 : Int32) <<< (x1 &&& 31))))) (x1 : Int32).toNatClampNeg x2))) (x1 : Int32).toNatClampNeg 0)) (upd (x9_stamps (p9_permits (p9_temper (p9_there s ((x9_there s) ||| ((1 : Int32) <<< (x1 &&& 31)))) (upd (x9_temper (p9_there s ((x9_there s) ||| ((1 : Int32) <<< (x1 &&& 31))))) (x1 : Int32).toNatClampNeg x2)) (upd (x9_permits (p9_temper (p9_there s ((x9_there s) ||| ((1 : Int32) <<< (x1 &&& 31)))) (upd (x9_temper (p9_there s ((x9_there s) ||| ((1 : Int32) <<< (x1 &&& 31))))) (x1 : Int32).toNatClampNeg x2))) (x1 : Int32).toNatClampNeg 0))) (x1 : Int32).toNatClampNeg x3))) (x1 : Int32).toNatClampNeg x4)) (upd (x9_yard (p9_purse (p9_stamps (p9_permits (p9_temper (p9_there s ((x9_there s) ||| ((1 : Int32) <<< (x1 &&& 31)))) (upd (x9_temper (p9_there s ((x9_there s) ||| ((1 : Int32) <<< (x1 &&& 31))))) (x1 : Int32).toNatClampNeg x2)) (upd (x9_permits (p9_temper (p9_there s ((x9_there s) ||| ((1 : Int32) <<< (x1 &&& 31)))) (upd (x9_temper (p9_there s ((x9_there s) ||| ((1 : Int32) <<< (x1 &&& 31))))) (x1 : Int32).toNatClampNeg x2))) (x1 : Int32).toNatClampNeg 0)) (upd (x9_stamps (p9_permits (p9_temper (p9_there s ((x9_there s) ||| ((1 : Int32) <<< (x1 &&& 31)))) (upd (x9_temper (p9_there s ((x9_there s) ||| ((1 : Int32) <<< (x1 &&& 31))))) (x1 : Int32).toNatClampNeg x2)) (upd (x9_permits (p9_temper (p9_there s ((x9_there s) ||| ((1 : Int32) <<< (x1 &&& 31)))) (upd (x9_temper (p9_there s ((x9_there s) ||| ((1 : Int32) <<< (x1 &&& 31))))) (x1 : Int32).toNatClampNeg x2))) (x1 : Int32).toNatClampNeg 0))) (x1 : Int32).toNatClampNeg x3)) (upd (x9_purse (p9_stamps (p9_permits (p9_temper (p9_there s ((x9_there s) ||| ((1 : Int32) <<< (x1 &&& 31)))) (upd (x9_temper (p9_there s ((x9_there s) ||| ((1 : Int32) <<< (x1 &&& 31))))) (x1 : Int32).toNatClampNeg x2)) (upd (x9_permits (p9_temper (p9_there s ((x9_there s) ||| ((1 : Int32) <<< (x1 &&& 31)))) (upd (x9_temper (p9_there s ((x9_there s) ||| ((1 : Int32) <<< (x1 &&& 31))))) (x1 : Int32).toNatClampNeg x2))) (x1 : Int32).toNatClampNeg 0)) (upd (x9_stamps (p9_permits (p9_temper (p9_there s ((x9_there s) ||| ((1 : Int32) <<< (x1 &&& 31)))) (upd (x9_temper (p9_there s ((x9_there s) ||| ((1 : Int32) <<< (x1 &&& 31))))) (x1 : Int32).toNatClampNeg x2)) (upd (x9_permits (p9_temper (p9_there s ((x9_there s) ||| ((1 : Int32) <<< (x1 &&& 31)))) (upd (x9_temper (p9_there s ((x9_there s) ||| ((1 : Int32) <<< (x1 &&& 31))))) (x1 : Int32).toNatClampNeg x2))) (x1 : Int32).toNatClampNeg 0))) (x1 : Int32).toNatClampNeg x3))) (x1 : Int32).toNatClampNeg x4))) (x1 : Int32).toNatClampNeg x5)) (upd (x9_cause (p9_yard (p9_purse (p9_stamps (p9_permits (p9_temper (p9_there s ((x9_there s) ||| ((1 : Int32) <<< (x1 &&& 31)))) (upd (x9_temper (p9_there s ((x9_there s) ||| ((1 : Int32) <<< (x1 &&& 31))))) (x1 : Int32).toNatClampNeg x2)) (upd (x9_permits (p9_temper (p9_there s ((x9_there s) ||| ((1 : Int32) <<< (x1 &&& 31)))) (upd (x9_temper (p9_there s ((x9_there s) ||| ((1 : Int32) <<< (x1 &&& 31))))) (x1 : Int32).toNatClampNeg x2))) (x1 : Int32).toNatClampNeg 0)) (upd (x9_stamps (p9_permits (p9_temper (p9_there s ((x9_there s) ||| ((1 : Int32) <<< (x1 &&& 31)))) (upd (x9_temper (p9_there s ((x9_there s) ||| ((1 : Int32) <<< (x1 &&& 31))))) (x1 : Int32).toNatClampNeg x2)) (upd (x9_permits (p9_temper (p9_there s ((x9_there s) ||| ((1 : Int32) <<< (x1 &&& 31)))) (upd (x9_temper (p9_there s ((x9_there s) ||| ((1 : Int32) <<< (x1 &&& 31))))) (x1 : Int32).toNatClampNeg x2))) (x1 : Int32).toNatClampNeg 0))) (x1 : Int32).toNatClampNeg x3)) (upd (x9_purse (p9_stamps (p9_permits (p9_temper (p9_there s ((x9_there s) ||| ((1 : Int32) <<< (x1 &&& 31)))) (upd (x9_temper (p9_there s ((x9_there s) ||| ((1 : Int32) <<< (x1 &&& 31))))) (x1 : Int32).toNatClampNeg x2)) (upd (x9_permits (p9_temper (p9_there s ((x9_there s) ||| ((1 : Int32) <<< (x1 &&& 31)))) (upd (x9_temper (p9_there s ((x9_there s) ||| ((1 : Int32) <<< (x1 &&& 31))))) (x1 : Int32).toNatClampNeg x2))) (x1 : Int32).toNatClampNeg 0)) (upd (x9_stamps (p9_permits (p9_temper (p9_there s ((x9_there s) ||| ((1 : Int32) <<< (x1 &&& 31)))) (upd (x9_temper (p9_there s ((x9_there s) ||| ((1 : Int32) <<< (x1 &&& 31))))) (x1 : Int32).toNatClampNeg x2)) (upd (x9_permits (p9_temper (p9_there s ((x9_there s) ||| ((1 : Int32) <<< (x1 &&& 31)))) (upd (x9_temper (p9_there s ((x9_there s) ||| ((1 : Int32) <<< (x1 &&& 31))))) (x1 : Int32).toNatClampNeg x2))) (x1 : Int32).toNatClampNeg 0))) (x1 : Int32).toNatClampNeg x3))) (x1 : Int32).toNatClampNeg x4)) (upd (x9_yard (p9_purse (p9_stamps (p9_permits (p9_temper (p9_there s ((x9_there s) ||| ((1 : Int32) <<< (x1 &&& 31)))) (upd (x9_temper (p9_there s ((x9_there s) ||| ((1 : Int32) <<< (x1 &&& 31))))) (x1 : Int32).toNatClampNeg x2)) (upd (x9_permits (p9_temper (p9_there s ((x9_there s) ||| ((1 : Int32) <<< (x1 &&& 31)))) (upd (x9_temper (p9_there s ((x9_there s) ||| ((1 : Int32) <<< (x1 &&& 31))))) (x1 : Int32).toNatClampNeg x2))) (x1 : Int32).toNatClampNeg 0)) (upd (x9_stamps (p9_permits (p9_temper (p9_there s ((x9_there s) ||| ((1 : Int32) <<< (x1 &&& 31)))) (upd (x9_temper (p9_there s ((x9_there s) ||| ((1 : Int32) <<< (x1 &&& 31))))) (x1 : Int32).toNatClampNeg x2)) (upd (x9_permits (p9_temper (p9_there s ((x9_there s) ||| ((1 : Int32) <<< (x1 &&& 31)))) (upd (x9_temper (p9_there s ((x9_there s) ||| ((1 : Int32) <<< (x1 &&& 31))))) (x1 : Int32).toNatClampNeg x2))) (x1 : Int32).toNatClampNeg 0))) (x1 : Int32).toNatClampNeg x3)) (upd (x9_purse (p9_stamps (p9_permits (p9_temper (p9_there s ((x9_there s) ||| ((1 : Int32) <<< (x1 &&& 31)))) (upd (x9_temper (p9_there s ((x9_there s) ||| ((1 : Int32) <<< (x1 &&& 31))))) (x1 : Int32).toNatClampNeg x2)) (upd (x9_permits (p9_temper (p9_there s ((x9_there s) ||| ((1 : Int32) <<< (x1 &&& 31)))) (upd (x9_temper (p9_there s ((x9_there s) ||| ((1 : Int32) <<< (x1 &&& 31))))) (x1 : Int32).toNatClampNeg x2))) (x1 : Int32).toNatClampNeg 0)) (upd (x9_stamps (p9_permits (p9_temper (p9_there s ((x9_there s) ||| ((1 : Int32) <<< (x1 &&& 31)))) (upd (x9_temper (p9_there s ((x9_there s) ||| ((1 : Int32) <<< (x1 &&& 31))))) (x1 : Int32).toNatClampNeg x2)) (upd (x9_permits (p9_temper (p9_there s ((x9_there s) ||| ((1 : Int32) <<< (x1 &&& 31)))) (upd (x9_temper (p9_there s ((x9_there s) ||| ((1 : Int32) <<< (x1 &&& 31))))) (x1 : Int32).toNatClampNeg x2))) (x1 : Int32).toNatClampNeg 0))) (x1 : Int32).toNatClampNeg x3))) (x1 : Int32).toNatClampNeg x4))) (x1 : Int32).toNatClampNeg x5))) (x1 : Int32).toNatClampNeg (-6))))  hz18) mv_X9_ones (Or.inl ml_X9_103) hK rfl rfl ⟨Nat.le_of_ble_eq_true rfl, Nat.le_of_ble_eq_true rfl⟩ (Nat.le_of_ble_eq_true rfl) ⟨Nat.zero_le _, Nat.zero_le _⟩ ?_
  exact w_int (ws := fun s => cs9 a Δ s) hR hq hP hS dX9_one_133 rfl rfl
set_option maxHeartbeats 400000 in
set_option maxRecDepth 100000 in
theorem c_X9_leave (l : Launch) (Δ : gD) (a : Nat → Nat) (x1 : Int32) (s : S9) {res : Int32 × S9} (hq : sem_X9_leave x1 s = some res) : MW l yX9_leave cX9_leave 2 (some .int) Δ (cs9 a Δ s) [.ref (a 0), .int x1] 2 46 (some (.int res.1)) (cs9 a Δ res.2) := by
  refine MW.of (by decide) (Nat.le_of_ble_eq_true rfl) ?_
  intro Γ A H hl C hK hP hD hS hA hR
  subst hl
  show g Γ { frames := 2, cells := 0, slots := 0, locals := 46 } 2 H [] 0 0 0 [(0, .ref (a 0)), (1, .int x1)] []
  refine g_aload_n C 1 rfl dX9_leave_0 0 rfl ?_
  refine g_iload_n C 2 rfl dX9_leave_1 1 rfl ?_
  obtain ⟨r1, hz2, hq⟩ := bindE hq
  refine g_callRV (rest := []) C 5 rfl dX9_leave_2 (c_X9_isOne Γ.2.1 Δ a x1 s hz2) mv_X9_isOne ml_X9_107 hK hP rfl rfl rfl rfl rfl ⟨Nat.le_of_ble_eq_true rfl, Nat.le_of_ble_eq_true rfl⟩ (Nat.le_of_ble_eq_true rfl) ⟨Nat.zero_le _, Nat.zero_le _⟩ ?_
  refine s_if_ne C 10 8 rfl dX9_leave_5 (by decide) hq (fun hq => ?_) (fun hq => ?_)
  rotate_left
  · refine g_iconst (-1) C 9 rfl dX9_leave_8 ki_m1 ?_
    exact w_int (ws := fun s => cs9 a Δ s) hR hq hP hS dX9_leave_9 rfl rfl
  refine g_aload_n C 11 rfl dX9_leave_10 0 rfl ?_
  refine g_dup C 12 rfl dX9_leave_11 rfl ?_
  refine g_get (v := .int (x9_there s)) (fs := fl9 a s) C 15 rfl dX9_leave_12 hK hP la_X9 0 0 (Nat.le_of_ble_eq_true rfl) fl_X9_94 rfl rfl rfl rfl ?_
  refine g_iconst 1 C 16 rfl dX9_leave_15 ki_1 ?_
  refine g_iload_n C 17 rfl dX9_leave_16 1 rfl ?_
  refine g_ishl C 18 rfl dX9_leave_17 ?_
  refine g_iconst (-1) C 19 rfl dX9_leave_18 ki_m1 ?_
  refine g_ixor C 20 rfl dX9_leave_19 ?_
  refine g_iand C 21 rfl dX9_leave_20 ?_
  refine g_put (fs := fl9 a s) (cs9 a Δ (p9_there s ((x9_there s) &&& (((1 : Int32) <<< (x1 &&& 31)) ^^^ (-1))))) C 24 rfl dX9_leave_21 hK hP hD hS la_X9 tyX9_ok nmX9 0 0 (Nat.le_of_ble_eq_true rfl) fl_X9_94 rfl rfl rfl rfl rfl rfl (Nat.le_of_ble_eq_true rfl) (sst_85 a Δ s ((x9_there s) &&& (((1 : Int32) <<< (x1 &&& 31)) ^^^ (-1)))) (fun H L hP hD hS => ?_)
  refine g_aload_n C 25 rfl dX9_leave_24 0 rfl ?_
  refine g_get (v := .int (x9_there (p9_there s ((x9_there s) &&& (((1 : Int32) <<< (x1 &&& 31)) ^^^ (-1)))))) (fs := fl9 a (p9_there s ((x9_there s) &&& (((1 : Int32) <<< (x1 &&& 31)) ^^^ (-1))))) C 28 rfl dX9_leave_25 hK hP la_X9 0 0 (Nat.le_of_ble_eq_true rfl) fl_X9_94 rfl rfl rfl rfl ?_
  obtain ⟨r3, hz4, hq⟩ := bindE hq
  refine g_callRS (rest := []) C 31 rfl dX9_leave_28 (c_X9_ones Γ.2.1 Δ  (x9_there (p9_there s ((x9_there s) &&& (((1 : Int32) <<< (x1 &&& 31)) ^^^ (-1)))))  hz4) mv_X9_ones (Or.inl ml_X9_103) hK rfl rfl ⟨Nat.le_of_ble_eq_true rfl, Nat.le_of_ble_eq_true rfl⟩ (Nat.le_of_ble_eq_true rfl) ⟨Nat.zero_le _, Nat.zero_le _⟩ ?_
  exact w_int (ws := fun s => cs9 a Δ s) hR hq hP hS dX9_leave_31 rfl rfl
set_option maxHeartbeats 400000 in
set_option maxRecDepth 100000 in
theorem c_X9_permit (l : Launch) (Δ : gD) (a : Nat → Nat) (x1 : Int32) (x2 : Int32) (s : S9) {res : Int32 × S9} (hq : sem_X9_permit x1 x2 s = some res) : MW l yX9_permit cX9_permit 4 (some .int) Δ (cs9 a Δ s) [.ref (a 0), .int x1, .int x2] 2 46 (some (.int res.1)) (cs9 a Δ res.2) := by
  refine MW.of (by decide) (Nat.le_of_ble_eq_true rfl) ?_
  intro Γ A H hl C hK hP hD hS hA hR
  subst hl
  show g Γ { frames := 2, cells := 0, slots := 0, locals := 46 } 4 H [] 0 0 0 [(0, .ref (a 0)), (1, .int x1), (2, .int x2)] []
  refine g_aload_n C 1 rfl dX9_permit_0 0 rfl ?_
  refine g_iload_n C 2 rfl dX9_permit_1 1 rfl ?_
  obtain ⟨r1, hz2, hq⟩ := bindE hq
  refine g_callRV (rest := []) C 5 rfl dX9_permit_2 (c_X9_isOne Γ.2.1 Δ a x1 s hz2) mv_X9_isOne ml_X9_107 hK hP rfl rfl rfl rfl rfl ⟨Nat.le_of_ble_eq_true rfl, Nat.le_of_ble_eq_true rfl⟩ (Nat.le_of_ble_eq_true rfl) ⟨Nat.zero_le _, Nat.zero_le _⟩ ?_
  refine s_if_ne C 10 8 rfl dX9_permit_5 (by decide) hq (fun hq => ?_) (fun hq => ?_)
  rotate_left
  · refine g_iconst (-1) C 9 rfl dX9_permit_8 ki_m1 ?_
    exact w_int (ws := fun s => cs9 a Δ s) hR hq hP hS dX9_permit_9 rfl rfl
  refine g_iload_n C 11 rfl dX9_permit_10 2 rfl ?_
  refine g_i2l C 12 rfl dX9_permit_11 ?_
  refine g_lconst 0 C 13 rfl dX9_permit_12 kl_0 ?_
  refine g_ldc2 15 C 16 rfl dX9_permit_13 k_X9_111 ?_
  obtain ⟨r3, hz4, hq⟩ := bindE hq
  refine g_callRS (rest := []) C 19 rfl dX9_permit_16 (c_X9_in Γ.2.1 Δ  (Int32.toInt64 x2) 0 15  hz4) mv_X9_in (Or.inl ml_X9_90) hK rfl rfl ⟨Nat.le_of_ble_eq_true rfl, Nat.le_of_ble_eq_true rfl⟩ (Nat.le_of_ble_eq_true rfl) ⟨Nat.zero_le _, Nat.zero_le _⟩ ?_
  refine s_if_ne C 25 22 rfl dX9_permit_19 (by decide) hq (fun hq => ?_) (fun hq => ?_)
  rotate_left
  · refine g_bipush (-2) C 24 rfl dX9_permit_22 kb_m2 ?_
    exact w_int (ws := fun s => cs9 a Δ s) hR hq hP hS dX9_permit_24 rfl rfl
  refine g_aload_n C 26 rfl dX9_permit_25 0 rfl ?_
  refine g_get (v := .ref (a 2)) (fs := fl9 a s) C 29 rfl dX9_permit_26 hK hP la_X9 0 4 (Nat.le_of_ble_eq_true rfl) fl_X9_13 rfl rfl rfl rfl ?_
  refine g_iload_n C 30 rfl dX9_permit_29 1 rfl ?_
  refine s_iald C 31 rfl dX9_permit_30 hK hP 2 rfl hq (fun hq hi5 => ?_)
  refine g_istore_n [(3, .int ((x9_permits s) (x1 : Int32).toNatClampNeg)), (0, .ref (a 0)), (1, .int x1), (2, .int x2)] C 32 rfl dX9_permit_31 (Nat.le_of_ble_eq_true rfl) rfl ?_
  refine g_aload_n C 33 rfl dX9_permit_32 1 rfl ?_
  refine g_get (v := .ref (a 2)) (fs := fl9 a s) C 36 rfl dX9_permit_33 hK hP la_X9 0 4 (Nat.le_of_ble_eq_true rfl) fl_X9_13 rfl rfl rfl rfl ?_
  refine g_iload_n C 37 rfl dX9_permit_36 2 rfl ?_
  refine g_iload_n C 38 rfl dX9_permit_37 3 rfl ?_
  refine g_iast (cs9 a Δ (p9_permits s (upd (x9_permits s) (x1 : Int32).toNatClampNeg x2))) C 39 rfl dX9_permit_38 hK hP hD hS 2 rfl hi5 (sst_87 a Δ s (upd (x9_permits s) (x1 : Int32).toNatClampNeg x2)) (fun H L hP hD hS => ?_)
  refine g_iload_n C 40 rfl dX9_permit_39 0 rfl ?_
  exact w_int (ws := fun s => cs9 a Δ s) hR hq hP hS dX9_permit_40 rfl rfl
set_option maxHeartbeats 400000 in
set_option maxRecDepth 100000 in
theorem c_X9_highest (l : Launch) (Δ : gD) (a : Nat → Nat)  (s : S9) {res : Int32} (hq : sem_X9_highest  s = some res) : MR l yX9_highest cX9_highest 3 (some .int) Δ (cs9 a Δ s) [.ref (a 0)] 2 46 (.int res) := by
  refine MR.of (by decide) (Nat.le_of_ble_eq_true rfl) ?_
  intro Γ H hl C hK hP hR
  subst hl
  show g Γ { frames := 2, cells := 0, slots := 0, locals := 46 } 3 H [] 0 0 0 [(0, .ref (a 0))] []
  refine g_iconst 0 C 1 rfl dX9_highest_0 ki_0 ?_
  refine g_istore_n [(1, .int 0), (0, .ref (a 0))] C 2 rfl dX9_highest_1 (Nat.le_of_ble_eq_true rfl) rfl ?_
  refine g_iconst 0 C 3 rfl dX9_highest_2 ki_0 ?_
  refine g_istore_n [(2, .int 0), (1, .int 0), (0, .ref (a 0))] C 4 rfl dX9_highest_3 (Nat.le_of_ble_eq_true rfl) rfl ?_
  have Q4 : ∀ (n : Nat) (x1 : Int32) (x2 : Int32) (o : (Int32)) (hq : lp_X9_highest_4 s n x1 x2 = some o) (E2 : g Γ { frames := 2, cells := 0, slots := 0, locals := 46 } 3 H [] 0 0 45 [(1, .int o)] []), g Γ { frames := 2, cells := 0, slots := 0, locals := 46 } 3 H [] 0 0 4 [(0, .ref (a 0)), (1, .int x1), (2, .int x2)] [] := by
    intro n
    induction n with
    | zero => intro x1 x2 o hq; exact nomatch (show (none : Option (Int32)) = some o from hq)
    | succ n ih =>
      intro x1 x2 o hq E2
      have hq : bd_X9_highest_4 s (lp_X9_highest_4 s n) x1 x2 = some o := hq
      refine g_iload_n C 5 rfl dX9_highest_4 2 rfl ?_
      refine g_bipush 6 C 7 rfl dX9_highest_5 kb_6 ?_
      refine s_icmp_ge C 45 10 rfl dX9_highest_7 (by decide) hq (fun hq => ?_) (fun hq => ?_)
      · cases hq
        exact g_sub [1] rfl (E2 )
      refine g_aload_n C 11 rfl dX9_highest_10 0 rfl ?_
      refine g_iload_n C 12 rfl dX9_highest_11 2 rfl ?_
      obtain ⟨r1, hz2, hq⟩ := bindE hq
      refine g_callRV (rest := []) C 15 rfl dX9_highest_12 (c_X9_isOne Γ.2.1 Δ a x2 s hz2) mv_X9_isOne ml_X9_107 hK hP rfl rfl rfl rfl rfl ⟨Nat.le_of_ble_eq_true rfl, Nat.le_of_ble_eq_true rfl⟩ (Nat.le_of_ble_eq_true rfl) ⟨Nat.zero_le _, Nat.zero_le _⟩ ?_
      refine s_if_eq C 37 18 rfl dX9_highest_15 (by decide) hq (fun hq => ?_) (fun hq => ?_)
      · refine g_iload_n C 38 rfl dX9_highest_37 1 rfl ?_
        refine g_istore_n [(1, .int x1), (0, .ref (a 0)), (2, .int x2)] C 39 rfl dX9_highest_38 (Nat.le_of_ble_eq_true rfl) rfl ?_
        refine g_iinc (x2 + 1) [(2, .int (x2 + 1)), (1, .int x1), (0, .ref (a 0))] C 42 rfl dX9_highest_39 2 rfl (ii_1 _) (Nat.le_of_ble_eq_true rfl) rfl ?_
        refine g_goto C 4 dX9_highest_42 (by decide) ?_
        exact g_sub [2, 1, 0] rfl (ih x1 (x2 + 1) _ hq E2)
      refine g_aload_n C 19 rfl dX9_highest_18 0 rfl ?_
      refine g_get (v := .ref (a 1)) (fs := fl9 a s) C 22 rfl dX9_highest_19 hK hP la_X9 0 3 (Nat.le_of_ble_eq_true rfl) fl_X9_7 rfl rfl rfl rfl ?_
      refine g_iload_n C 23 rfl dX9_highest_22 2 rfl ?_
      refine s_iald C 24 rfl dX9_highest_23 hK hP 1 rfl hq (fun hq hi3 => ?_)
      refine g_iload_n C 25 rfl dX9_highest_24 1 rfl ?_
      refine s_icmp_le C 37 28 rfl dX9_highest_25 (by decide) hq (fun hq => ?_) (fun hq => ?_)
      · refine g_iload_n C 38 rfl dX9_highest_37 1 rfl ?_
        refine g_istore_n [(1, .int x1), (0, .ref (a 0)), (2, .int x2)] C 39 rfl dX9_highest_38 (Nat.le_of_ble_eq_true rfl) rfl ?_
        refine g_iinc (x2 + 1) [(2, .int (x2 + 1)), (1, .int x1), (0, .ref (a 0))] C 42 rfl dX9_highest_39 2 rfl (ii_1 _) (Nat.le_of_ble_eq_true rfl) rfl ?_
        refine g_goto C 4 dX9_highest_42 (by decide) ?_
        exact g_sub [2, 1, 0] rfl (ih x1 (x2 + 1) _ hq E2)
      refine g_aload_n C 29 rfl dX9_highest_28 0 rfl ?_
      refine g_get (v := .ref (a 1)) (fs := fl9 a s) C 32 rfl dX9_highest_29 hK hP la_X9 0 3 (Nat.le_of_ble_eq_true rfl) fl_X9_7 rfl rfl rfl rfl ?_
      refine g_iload_n C 33 rfl dX9_highest_32 2 rfl ?_
      refine g_iald C 34 rfl dX9_highest_33 hK hP 1 rfl hi3 ?_
      refine g_goto C 38 dX9_highest_34 (by decide) ?_
      refine g_istore_n [(1, .int ((x9_temper s) (x2 : Int32).toNatClampNeg)), (0, .ref (a 0)), (2, .int x2)] C 39 rfl dX9_highest_38 (Nat.le_of_ble_eq_true rfl) rfl ?_
      refine g_iinc (x2 + 1) [(2, .int (x2 + 1)), (1, .int ((x9_temper s) (x2 : Int32).toNatClampNeg)), (0, .ref (a 0))] C 42 rfl dX9_highest_39 2 rfl (ii_1 _) (Nat.le_of_ble_eq_true rfl) rfl ?_
      refine g_goto C 4 dX9_highest_42 (by decide) ?_
      exact g_sub [2, 1, 0] rfl (ih ((x9_temper s) (x2 : Int32).toNatClampNeg) (x2 + 1) _ hq E2)
  obtain ⟨o4, ho5, hq⟩ := bindE hq
  refine g_sub [2, 1, 0] rfl (Q4  FUEL 0 0 o4 ho5 (?_))
  refine g_iload_n C 46 rfl dX9_highest_45 0 rfl ?_
  exact r_int hR hq dX9_highest_46 rfl rfl
set_option maxHeartbeats 400000 in
set_option maxRecDepth 100000 in
theorem c_X9_set (l : Launch) (Δ : gD) (a : Nat → Nat) (x1 : Int32) (x2 : Int32) (s : S9) {res : Int32 × S9} (hq : sem_X9_set x1 x2 s = some res) : MW l yX9_set cX9_set 4 (some .int) Δ (cs9 a Δ s) [.ref (a 0), .int x1, .int x2] 3 68 (some (.int res.1)) (cs9 a Δ res.2) := by
  refine MW.of (by decide) (Nat.le_of_ble_eq_true rfl) ?_
  intro Γ A H hl C hK hP hD hS hA hR
  subst hl
  have K87 : ∀ (x1 : Int32) (x2 : Int32) (x3 : Int32) (y1 : Int32) (s : S9) (H : Heap) (L : List Loc) (hP : va_P Δ.1 classes (cs9 a Δ s) H) (hD : va_D A (cs9 a Δ s)) (hS : va_S A (sOf Γ).heap H L), jn_X9_set_87 x1 x2 x3 y1 s = some res → g Γ { frames := 3, cells := 0, slots := 0, locals := 68 } 4 H L 0 0 87 [(0, .ref (a 0)), (1, .int x1), (2, .int x2), (3, .int x3)] [.int y1, .ref (a 0)] := by
    intro x1 x2 x3 y1 s H L hP hD hS hq
    refine g_put (fs := fl9 a s) (cs9 a Δ (p9_limit s y1)) C 90 rfl dX9_set_87 hK hP hD hS la_X9 tyX9_ok nmX9 0 1 (Nat.le_of_ble_eq_true rfl) fl_X9_81 rfl rfl rfl rfl rfl rfl (Nat.le_of_ble_eq_true rfl) (sst_92 a Δ s y1) (fun H L hP hD hS => ?_)
    refine g_aload_n C 91 rfl dX9_set_90 0 rfl ?_
    refine g_iload_n C 92 rfl dX9_set_91 1 rfl ?_
    refine g_iconst 1 C 93 rfl dX9_set_92 ki_1 ?_
    refine s_icmp_ne C 100 96 rfl dX9_set_93 (by decide) hq (fun hq => ?_) (fun hq => ?_)
    · refine g_aload_n C 101 rfl dX9_set_100 0 rfl ?_
      refine g_get (v := .int (x9_ears (p9_limit s y1))) (fs := fl9 a (p9_limit s y1)) C 104 rfl dX9_set_101 hK hP la_X9 0 2 (Nat.le_of_ble_eq_true rfl) fl_X9_85 rfl rfl rfl rfl ?_
      refine g_put (fs := fl9 a (p9_limit s y1)) (cs9 a Δ (p9_ears (p9_limit s y1) (x9_ears (p9_limit s y1)))) C 107 rfl dX9_set_104 hK hP hD hS la_X9 tyX9_ok nmX9 0 2 (Nat.le_of_ble_eq_true rfl) fl_X9_85 rfl rfl rfl rfl rfl rfl (Nat.le_of_ble_eq_true rfl) (sst_93 a Δ (p9_limit s y1) (x9_ears (p9_limit s y1))) (fun H L hP hD hS => ?_)
      refine g_iload_n C 108 rfl dX9_set_107 3 rfl ?_
      exact w_int (ws := fun s => cs9 a Δ s) hR hq hP hS dX9_set_108 rfl rfl
    refine g_iload_n C 97 rfl dX9_set_96 2 rfl ?_
    refine g_goto C 104 dX9_set_97 (by decide) ?_
    refine g_put (fs := fl9 a (p9_limit s y1)) (cs9 a Δ (p9_ears (p9_limit s y1) x2)) C 107 rfl dX9_set_104 hK hP hD hS la_X9 tyX9_ok nmX9 0 2 (Nat.le_of_ble_eq_true rfl) fl_X9_85 rfl rfl rfl rfl rfl rfl (Nat.le_of_ble_eq_true rfl) (sst_93 a Δ (p9_limit s y1) x2) (fun H L hP hD hS => ?_)
    refine g_iload_n C 108 rfl dX9_set_107 3 rfl ?_
    exact w_int (ws := fun s => cs9 a Δ s) hR hq hP hS dX9_set_108 rfl rfl
  have K73 : ∀ (x1 : Int32) (x2 : Int32) (y0 : Int32) (s : S9) (H : Heap) (L : List Loc) (hP : va_P Δ.1 classes (cs9 a Δ s) H) (hD : va_D A (cs9 a Δ s)) (hS : va_S A (sOf Γ).heap H L), jn_X9_set_73 x1 x2 y0 s = some res → g Γ { frames := 3, cells := 0, slots := 0, locals := 68 } 4 H L 0 0 73 [(0, .ref (a 0)), (1, .int x1), (2, .int x2)] [.int y0] := by
    intro x1 x2 y0 s H L hP hD hS hq
    refine g_istore_n [(3, .int y0), (0, .ref (a 0)), (1, .int x1), (2, .int x2)] C 74 rfl dX9_set_73 (Nat.le_of_ble_eq_true rfl) rfl ?_
    refine g_aload_n C 75 rfl dX9_set_74 1 rfl ?_
    refine g_iload_n C 76 rfl dX9_set_75 2 rfl ?_
    refine s_if_ne C 83 79 rfl dX9_set_76 (by decide) hq (fun hq => ?_) (fun hq => ?_)
    · refine g_aload_n C 84 rfl dX9_set_83 1 rfl ?_
      refine g_get (v := .int (x9_limit s)) (fs := fl9 a s) C 87 rfl dX9_set_84 hK hP la_X9 0 1 (Nat.le_of_ble_eq_true rfl) fl_X9_81 rfl rfl rfl rfl ?_
      exact g_sub [1, 2, 3, 0] rfl (K87 x1 x2 y0 (x9_limit s) s _ _ hP hD hS hq)
    refine g_iload_n C 80 rfl dX9_set_79 3 rfl ?_
    refine g_goto C 87 dX9_set_80 (by decide) ?_
    exact g_sub [1, 2, 3, 0] rfl (K87 x1 x2 y0 x2 s _ _ hP hD hS hq)
  have K58 : ∀ (x1 : Int32) (x2 : Int32) (s : S9) (H : Heap) (L : List Loc) (hP : va_P Δ.1 classes (cs9 a Δ s) H) (hD : va_D A (cs9 a Δ s)) (hS : va_S A (sOf Γ).heap H L), jn_X9_set_58 x1 x2 s = some res → g Γ { frames := 3, cells := 0, slots := 0, locals := 68 } 4 H L 0 0 58 [(0, .ref (a 0)), (1, .int x1), (2, .int x2)] [] := by
    intro x1 x2 s H L hP hD hS hq
    refine g_iload_n C 59 rfl dX9_set_58 1 rfl ?_
    refine s_if_ne C 69 62 rfl dX9_set_59 (by decide) hq (fun hq => ?_) (fun hq => ?_)
    · refine g_aload_n C 70 rfl dX9_set_69 0 rfl ?_
      refine g_get (v := .int (x9_ears s)) (fs := fl9 a s) C 73 rfl dX9_set_70 hK hP la_X9 0 2 (Nat.le_of_ble_eq_true rfl) fl_X9_85 rfl rfl rfl rfl ?_
      exact g_sub [0, 1, 2] rfl (K73 x1 x2 (x9_ears s) s _ _ hP hD hS hq)
    refine g_aload_n C 63 rfl dX9_set_62 0 rfl ?_
    refine g_get (v := .int (x9_limit s)) (fs := fl9 a s) C 66 rfl dX9_set_63 hK hP la_X9 0 1 (Nat.le_of_ble_eq_true rfl) fl_X9_81 rfl rfl rfl rfl ?_
    refine g_goto C 73 dX9_set_66 (by decide) ?_
    exact g_sub [0, 1, 2] rfl (K73 x1 x2 (x9_limit s) s _ _ hP hD hS hq)
  have K34 : ∀ (x1 : Int32) (x2 : Int32) (y0 : Int64) (y1 : Int64) (y2 : Int64) (s : S9) (H : Heap) (L : List Loc) (hP : va_P Δ.1 classes (cs9 a Δ s) H) (hD : va_D A (cs9 a Δ s)) (hS : va_S A (sOf Γ).heap H L), jn_X9_set_34 x1 x2 y0 y1 y2 s = some res → g Γ { frames := 3, cells := 0, slots := 0, locals := 68 } 4 H L 0 0 34 [(0, .ref (a 0)), (1, .int x1), (2, .int x2)] [.long y2, .long y1, .long y0] := by
    intro x1 x2 y0 y1 y2 s H L hP hD hS hq
    obtain ⟨r1, hz2, hq⟩ := bindE hq
    refine g_callRS (rest := []) C 37 rfl dX9_set_34 (c_X9_in Γ.2.1 Δ  y0 y1 y2  hz2) mv_X9_in (Or.inl ml_X9_90) hK rfl rfl ⟨Nat.le_of_ble_eq_true rfl, Nat.le_of_ble_eq_true rfl⟩ (Nat.le_of_ble_eq_true rfl) ⟨Nat.zero_le _, Nat.zero_le _⟩ ?_
    refine s_if_ne C 43 40 rfl dX9_set_37 (by decide) hq (fun hq => ?_) (fun hq => ?_)
    rotate_left
    · refine g_bipush (-2) C 42 rfl dX9_set_40 kb_m2 ?_
      exact w_int (ws := fun s => cs9 a Δ s) hR hq hP hS dX9_set_42 rfl rfl
    refine g_iload_n C 44 rfl dX9_set_43 1 rfl ?_
    refine s_if_ne C 58 47 rfl dX9_set_44 (by decide) hq (fun hq => ?_) (fun hq => ?_)
    · exact g_sub [0, 1, 2] rfl (K58 x1 x2 s _ _ hP hD hS hq)
    refine g_aload_n C 48 rfl dX9_set_47 0 rfl ?_
    obtain ⟨r3, hz4, hq⟩ := bindE hq
    refine g_callRV (rest := []) C 51 rfl dX9_set_48 (c_X9_highest Γ.2.1 Δ a  s hz4) mv_X9_highest ml_X9_115 hK hP rfl rfl rfl rfl rfl ⟨Nat.le_of_ble_eq_true rfl, Nat.le_of_ble_eq_true rfl⟩ (Nat.le_of_ble_eq_true rfl) ⟨Nat.zero_le _, Nat.zero_le _⟩ ?_
    refine g_iload_n C 52 rfl dX9_set_51 2 rfl ?_
    refine s_icmp_le C 58 55 rfl dX9_set_52 (by decide) hq (fun hq => ?_) (fun hq => ?_)
    · exact g_sub [0, 1, 2] rfl (K58 x1 x2 s _ _ hP hD hS hq)
    refine g_bipush (-3) C 57 rfl dX9_set_55 kb_m3 ?_
    exact w_int (ws := fun s => cs9 a Δ s) hR hq hP hS dX9_set_57 rfl rfl
  have K21 : ∀ (x1 : Int32) (x2 : Int32) (y0 : Int64) (y1 : Int64) (s : S9) (H : Heap) (L : List Loc) (hP : va_P Δ.1 classes (cs9 a Δ s) H) (hD : va_D A (cs9 a Δ s)) (hS : va_S A (sOf Γ).heap H L), jn_X9_set_21 x1 x2 y0 y1 s = some res → g Γ { frames := 3, cells := 0, slots := 0, locals := 68 } 4 H L 0 0 21 [(0, .ref (a 0)), (1, .int x1), (2, .int x2)] [.long y1, .long y0] := by
    intro x1 x2 y0 y1 s H L hP hD hS hq
    refine g_iload_n C 22 rfl dX9_set_21 1 rfl ?_
    refine s_if_ne C 31 25 rfl dX9_set_22 (by decide) hq (fun hq => ?_) (fun hq => ?_)
    · refine g_ldc2 9 C 34 rfl dX9_set_31 k_X9_101 ?_
      exact g_sub [0, 1, 2] rfl (K34 x1 x2 y0 y1 9 s _ _ hP hD hS hq)
    refine g_ldc2 20 C 28 rfl dX9_set_25 k_X9_113 ?_
    refine g_goto C 34 dX9_set_28 (by decide) ?_
    exact g_sub [0, 1, 2] rfl (K34 x1 x2 y0 y1 20 s _ _ hP hD hS hq)
  show g Γ { frames := 3, cells := 0, slots := 0, locals := 68 } 4 H [] 0 0 0 [(0, .ref (a 0)), (1, .int x1), (2, .int x2)] []
  refine g_iload_n C 1 rfl dX9_set_0 1 rfl ?_
  refine g_i2l C 2 rfl dX9_set_1 ?_
  refine g_lconst 0 C 3 rfl dX9_set_2 kl_0 ?_
  refine g_lconst 1 C 4 rfl dX9_set_3 kl_1 ?_
  obtain ⟨r5, hz6, hq⟩ := bindE hq
  refine g_callRS (rest := []) C 7 rfl dX9_set_4 (c_X9_in Γ.2.1 Δ  (Int32.toInt64 x1) 0 1  hz6) mv_X9_in (Or.inl ml_X9_90) hK rfl rfl ⟨Nat.le_of_ble_eq_true rfl, Nat.le_of_ble_eq_true rfl⟩ (Nat.le_of_ble_eq_true rfl) ⟨Nat.zero_le _, Nat.zero_le _⟩ ?_
  refine s_if_eq C 40 10 rfl dX9_set_7 (by decide) hq (fun hq => ?_) (fun hq => ?_)
  · refine g_bipush (-2) C 42 rfl dX9_set_40 kb_m2 ?_
    exact w_int (ws := fun s => cs9 a Δ s) hR hq hP hS dX9_set_42 rfl rfl
  refine g_iload_n C 11 rfl dX9_set_10 2 rfl ?_
  refine g_i2l C 12 rfl dX9_set_11 ?_
  refine g_iload_n C 13 rfl dX9_set_12 1 rfl ?_
  refine s_if_ne C 20 16 rfl dX9_set_13 (by decide) hq (fun hq => ?_) (fun hq => ?_)
  · refine g_lconst 0 C 21 rfl dX9_set_20 kl_0 ?_
    exact g_sub [0, 1, 2] rfl (K21 x1 x2 (Int32.toInt64 x2) 0 s _ _ hP hD hS hq)
  refine g_lconst 1 C 17 rfl dX9_set_16 kl_1 ?_
  refine g_goto C 21 dX9_set_17 (by decide) ?_
  exact g_sub [0, 1, 2] rfl (K21 x1 x2 (Int32.toInt64 x2) 1 s _ _ hP hD hS hq)
set_option maxHeartbeats 400000 in
set_option maxRecDepth 100000 in
theorem c_X9_say (l : Launch) (Δ : gD) (a : Nat → Nat) (x1 : Int32) (s : S9) {res : Int32 × S9} (hq : sem_X9_say x1 s = some res) : MW l yX9_say cX9_say 2 (some .int) Δ (cs9 a Δ s) [.ref (a 0), .int x1] 1 25 (some (.int res.1)) (cs9 a Δ res.2) := by
  refine MW.of (by decide) (Nat.le_of_ble_eq_true rfl) ?_
  intro Γ A H hl C hK hP hD hS hA hR
  subst hl
  show g Γ { frames := 1, cells := 0, slots := 0, locals := 25 } 2 H [] 0 0 0 [(0, .ref (a 0)), (1, .int x1)] []
  refine g_iload_n C 1 rfl dX9_say_0 1 rfl ?_
  refine g_i2l C 2 rfl dX9_say_1 ?_
  refine g_ldc2 33 C 5 rfl dX9_say_2 k_X9_119 ?_
  refine g_ldc2 126 C 8 rfl dX9_say_5 k_X9_121 ?_
  obtain ⟨r1, hz2, hq⟩ := bindE hq
  refine g_callRS (rest := []) C 11 rfl dX9_say_8 (c_X9_in Γ.2.1 Δ  (Int32.toInt64 x1) 33 126  hz2) mv_X9_in (Or.inl ml_X9_90) hK rfl rfl ⟨Nat.le_of_ble_eq_true rfl, Nat.le_of_ble_eq_true rfl⟩ (Nat.le_of_ble_eq_true rfl) ⟨Nat.zero_le _, Nat.zero_le _⟩ ?_
  refine s_if_ne C 17 14 rfl dX9_say_11 (by decide) hq (fun hq => ?_) (fun hq => ?_)
  rotate_left
  · refine g_bipush (-2) C 16 rfl dX9_say_14 kb_m2 ?_
    exact w_int (ws := fun s => cs9 a Δ s) hR hq hP hS dX9_say_16 rfl rfl
  refine g_aload_n C 18 rfl dX9_say_17 0 rfl ?_
  refine g_get (v := .int (x9_padMany s)) (fs := fl9 a s) C 21 rfl dX9_say_18 hK hP la_X9 0 13 (Nat.le_of_ble_eq_true rfl) fl_X9_123 rfl rfl rfl rfl ?_
  refine g_bipush 60 C 23 rfl dX9_say_21 kb_60 ?_
  refine s_icmp_ne C 29 26 rfl dX9_say_23 (by decide) hq (fun hq => ?_) (fun hq => ?_)
  rotate_left
  · refine g_bipush (-4) C 28 rfl dX9_say_26 kb_m4 ?_
    exact w_int (ws := fun s => cs9 a Δ s) hR hq hP hS dX9_say_28 rfl rfl
  refine g_aload_n C 30 rfl dX9_say_29 0 rfl ?_
  refine g_get (v := .ref (a 9)) (fs := fl9 a s) C 33 rfl dX9_say_30 hK hP la_X9 0 12 (Nat.le_of_ble_eq_true rfl) fl_X9_34 rfl rfl rfl rfl ?_
  refine g_aload_n C 34 rfl dX9_say_33 0 rfl ?_
  refine g_get (v := .int (x9_padMany s)) (fs := fl9 a s) C 37 rfl dX9_say_34 hK hP la_X9 0 13 (Nat.le_of_ble_eq_true rfl) fl_X9_123 rfl rfl rfl rfl ?_
  refine g_iload_n C 38 rfl dX9_say_37 1 rfl ?_
  refine s_iast (cs9 a Δ (p9_pad s (upd (x9_pad s) ((x9_padMany s) : Int32).toNatClampNeg x1))) C 39 rfl dX9_say_38 hK hP hD hS 9 rfl hq (sst_94 a Δ s (upd (x9_pad s) ((x9_padMany s) : Int32).toNatClampNeg x1)) (fun hq hi3 H L hP hD hS => ?_)
  refine g_aload_n C 40 rfl dX9_say_39 0 rfl ?_
  refine g_dup C 41 rfl dX9_say_40 rfl ?_
  refine g_get (v := .int (x9_padMany (p9_pad s (upd (x9_pad s) ((x9_padMany s) : Int32).toNatClampNeg x1)))) (fs := fl9 a (p9_pad s (upd (x9_pad s) ((x9_padMany s) : Int32).toNatClampNeg x1))) C 44 rfl dX9_say_41 hK hP la_X9 0 13 (Nat.le_of_ble_eq_true rfl) fl_X9_123 rfl rfl rfl rfl ?_
  refine g_iconst 1 C 45 rfl dX9_say_44 ki_1 ?_
  refine g_iadd C 46 rfl dX9_say_45 ?_
  refine g_put (fs := fl9 a (p9_pad s (upd (x9_pad s) ((x9_padMany s) : Int32).toNatClampNeg x1))) (cs9 a Δ (p9_padMany (p9_pad s (upd (x9_pad s) ((x9_padMany s) : Int32).toNatClampNeg x1)) ((x9_padMany (p9_pad s (upd (x9_pad s) ((x9_padMany s) : Int32).toNatClampNeg x1))) + 1))) C 49 rfl dX9_say_46 hK hP hD hS la_X9 tyX9_ok nmX9 0 13 (Nat.le_of_ble_eq_true rfl) fl_X9_123 rfl rfl rfl rfl rfl rfl (Nat.le_of_ble_eq_true rfl) (sst_95 a Δ (p9_pad s (upd (x9_pad s) ((x9_padMany s) : Int32).toNatClampNeg x1)) ((x9_padMany (p9_pad s (upd (x9_pad s) ((x9_padMany s) : Int32).toNatClampNeg x1))) + 1)) (fun H L hP hD hS => ?_)
  refine g_aload_n C 50 rfl dX9_say_49 0 rfl ?_
  refine g_get (v := .int (x9_padMany (p9_padMany (p9_pad s (upd (x9_pad s) ((x9_padMany s) : Int32).toNatClampNeg x1)) ((x9_padMany (p9_pad s (upd (x9_pad s) ((x9_padMany s) : Int32).toNatClampNeg x1))) + 1)))) (fs := fl9 a (p9_padMany (p9_pad s (upd (x9_pad s) ((x9_padMany s) : Int32).toNatClampNeg x1)) ((x9_padMany (p9_pad s (upd (x9_pad s) ((x9_padMany s) : Int32).toNatClampNeg x1))) + 1))) C 53 rfl dX9_say_50 hK hP la_X9 0 13 (Nat.le_of_ble_eq_true rfl) fl_X9_123 rfl rfl rfl rfl ?_
  exact w_int (ws := fun s => cs9 a Δ s) hR hq hP hS dX9_say_53 rfl rfl
set_option maxHeartbeats 400000 in
set_option maxRecDepth 100000 in
theorem c_X9_wipe (l : Launch) (Δ : gD) (a : Nat → Nat)  (s : S9) {res : Int32 × S9} (hq : sem_X9_wipe  s = some res) : MW l yX9_wipe cX9_wipe 2 (some .int) Δ (cs9 a Δ s) [.ref (a 0)] 0 0 (some (.int res.1)) (cs9 a Δ res.2) := by
  refine MW.of (by decide) (Nat.le_of_ble_eq_true rfl) ?_
  intro Γ A H hl C hK hP hD hS hA hR
  subst hl
  show g Γ { frames := 0, cells := 0, slots := 0, locals := 0 } 2 H [] 0 0 0 [(0, .ref (a 0))] []
  refine g_aload_n C 1 rfl dX9_wipe_0 0 rfl ?_
  refine g_get (v := .int (x9_padMany s)) (fs := fl9 a s) C 4 rfl dX9_wipe_1 hK hP la_X9 0 13 (Nat.le_of_ble_eq_true rfl) fl_X9_123 rfl rfl rfl rfl ?_
  refine g_istore_n [(1, .int (x9_padMany s)), (0, .ref (a 0))] C 5 rfl dX9_wipe_4 (Nat.le_of_ble_eq_true rfl) rfl ?_
  refine g_aload_n C 6 rfl dX9_wipe_5 1 rfl ?_
  refine g_iconst 0 C 7 rfl dX9_wipe_6 ki_0 ?_
  refine g_put (fs := fl9 a s) (cs9 a Δ (p9_padMany s 0)) C 10 rfl dX9_wipe_7 hK hP hD hS la_X9 tyX9_ok nmX9 0 13 (Nat.le_of_ble_eq_true rfl) fl_X9_123 rfl rfl rfl rfl rfl rfl (Nat.le_of_ble_eq_true rfl) (sst_95 a Δ s 0) (fun H L hP hD hS => ?_)
  refine g_iload_n C 11 rfl dX9_wipe_10 0 rfl ?_
  exact w_int (ws := fun s => cs9 a Δ s) hR hq hP hS dX9_wipe_11 rfl rfl
set_option maxHeartbeats 400000 in
set_option maxRecDepth 100000 in
theorem c_X9_isLetter (l : Launch) (Δ : gD)  (x0 : Int32)  {res : Int32} (hq : sem_X9_isLetter x0  = some res) : MR l yX9_isLetter cX9_isLetter 1 (some .boolean) Δ ([]) [.int x0] 1 25 (.int res) := by
  refine MR.of (by decide) (Nat.le_of_ble_eq_true rfl) ?_
  intro Γ H hl C hK hP hR
  subst hl
  show g Γ { frames := 1, cells := 0, slots := 0, locals := 25 } 1 H [] 0 0 0 [(0, .int x0)] []
  refine g_iload_n C 1 rfl dX9_isLetter_0 0 rfl ?_
  refine g_i2l C 2 rfl dX9_isLetter_1 ?_
  refine g_ldc2 65 C 5 rfl dX9_isLetter_2 k_X9_126 ?_
  refine g_ldc2 70 C 8 rfl dX9_isLetter_5 k_X9_128 ?_
  obtain ⟨r1, hz2, hq⟩ := bindE hq
  refine g_callRS (rest := []) C 11 rfl dX9_isLetter_8 (c_X9_in Γ.2.1 Δ  (Int32.toInt64 x0) 65 70  hz2) mv_X9_in (Or.inl ml_X9_90) hK rfl rfl ⟨Nat.le_of_ble_eq_true rfl, Nat.le_of_ble_eq_true rfl⟩ (Nat.le_of_ble_eq_true rfl) ⟨Nat.zero_le _, Nat.zero_le _⟩ ?_
  obtain ⟨hb3, hq⟩ := bz_some hq
  exact r_int hR hq dX9_isLetter_11 rfl (narrow_z hb3)
set_option maxHeartbeats 400000 in
set_option maxRecDepth 100000 in
theorem c_X9_close (l : Launch) (Δ : gD) (a : Nat → Nat)  (s : S9) {res : Int32 × S9} (hq : sem_X9_close  s = some res) : MW l yX9_close cX9_close 1 (some .int) Δ (cs9 a Δ s) [.ref (a 0)] 0 0 (some (.int res.1)) (cs9 a Δ res.2) := by
  refine MW.of (by decide) (Nat.le_of_ble_eq_true rfl) ?_
  intro Γ A H hl C hK hP hD hS hA hR
  subst hl
  show g Γ { frames := 0, cells := 0, slots := 0, locals := 0 } 1 H [] 0 0 0 [(0, .ref (a 0))] []
  refine g_aload_n C 1 rfl dX9_close_0 0 rfl ?_
  refine g_dup C 2 rfl dX9_close_1 rfl ?_
  refine g_get (v := .int (x9_acts s)) (fs := fl9 a s) C 5 rfl dX9_close_2 hK hP la_X9 0 18 (Nat.le_of_ble_eq_true rfl) fl_X9_130 rfl rfl rfl rfl ?_
  refine g_iconst 1 C 6 rfl dX9_close_5 ki_1 ?_
  refine g_iadd C 7 rfl dX9_close_6 ?_
  refine g_put (fs := fl9 a s) (cs9 a Δ (p9_acts s ((x9_acts s) + 1))) C 10 rfl dX9_close_7 hK hP hD hS la_X9 tyX9_ok nmX9 0 18 (Nat.le_of_ble_eq_true rfl) fl_X9_130 rfl rfl rfl rfl rfl rfl (Nat.le_of_ble_eq_true rfl) (sst_96 a Δ s ((x9_acts s) + 1)) (fun H L hP hD hS => ?_)
  refine g_iconst 0 C 11 rfl dX9_close_10 ki_0 ?_
  exact w_int (ws := fun s => cs9 a Δ s) hR hq hP hS dX9_close_11 rfl rfl
set_option maxHeartbeats 400000 in
set_option maxRecDepth 100000 in
theorem c_X9_begin (l : Launch) (Δ : gD) (a : Nat → Nat) (x1 : Int32) (s : S9) {res : Int32 × S9} (hq : sem_X9_begin x1 s = some res) : MW l yX9_begin cX9_begin 2 (some .int) Δ (cs9 a Δ s) [.ref (a 0), .int x1] 2 45 (some (.int res.1)) (cs9 a Δ res.2) := by
  refine MW.of (by decide) (Nat.le_of_ble_eq_true rfl) ?_
  intro Γ A H hl C hK hP hD hS hA hR
  subst hl
  have K23 : ∀ (x1 : Int32) (y1 : Int32) (y2 : Int32) (s : S9) (H : Heap) (L : List Loc) (hP : va_P Δ.1 classes (cs9 a Δ s) H) (hD : va_D A (cs9 a Δ s)) (hS : va_S A (sOf Γ).heap H L), jn_X9_begin_23 x1 y1 y2 s = some res → g Γ { frames := 2, cells := 0, slots := 0, locals := 45 } 2 H L 0 0 23 [(0, .ref (a 0)), (1, .int x1)] [.int y2, .int y1, .ref (a 11)] := by
    intro x1 y1 y2 s H L hP hD hS hq
    refine s_iast (cs9 a Δ (p9_who s (upd (x9_who s) (y1 : Int32).toNatClampNeg y2))) C 24 rfl dX9_begin_23 hK hP hD hS 11 rfl hq (sst_97 a Δ s (upd (x9_who s) (y1 : Int32).toNatClampNeg y2)) (fun hq hi1 H L hP hD hS => ?_)
    refine g_aload_n C 25 rfl dX9_begin_24 0 rfl ?_
    refine g_get (v := .ref (a 12)) (fs := fl9 a (p9_who s (upd (x9_who s) (y1 : Int32).toNatClampNeg y2))) C 28 rfl dX9_begin_25 hK hP la_X9 0 16 (Nat.le_of_ble_eq_true rfl) fl_X9_43 rfl rfl rfl rfl ?_
    refine g_aload_n C 29 rfl dX9_begin_28 0 rfl ?_
    refine g_get (v := .int (x9_acts (p9_who s (upd (x9_who s) (y1 : Int32).toNatClampNeg y2)))) (fs := fl9 a (p9_who s (upd (x9_who s) (y1 : Int32).toNatClampNeg y2))) C 32 rfl dX9_begin_29 hK hP la_X9 0 18 (Nat.le_of_ble_eq_true rfl) fl_X9_130 rfl rfl rfl rfl ?_
    refine g_iconst 0 C 33 rfl dX9_begin_32 ki_0 ?_
    refine s_iast (cs9 a Δ (p9_other (p9_who s (upd (x9_who s) (y1 : Int32).toNatClampNeg y2)) (upd (x9_other (p9_who s (upd (x9_who s) (y1 : Int32).toNatClampNeg y2))) ((x9_acts (p9_who s (upd (x9_who s) (y1 : Int32).toNatClampNeg y2))) : Int32).toNatClampNeg 0))) C 34 rfl dX9_begin_33 hK hP hD hS 12 rfl hq (sst_98 a Δ (p9_who s (upd (x9_who s) (y1 : Int32).toNatClampNeg y2)) (upd (x9_other (p9_who s (upd (x9_who s) (y1 : Int32).toNatClampNeg y2))) ((x9_acts (p9_who s (upd (x9_who s) (y1 : Int32).toNatClampNeg y2))) : Int32).toNatClampNeg 0)) (fun hq hi2 H L hP hD hS => ?_)
    refine g_aload_n C 35 rfl dX9_begin_34 0 rfl ?_
    refine g_get (v := .ref (a 13)) (fs := fl9 a (p9_other (p9_who s (upd (x9_who s) (y1 : Int32).toNatClampNeg y2)) (upd (x9_other (p9_who s (upd (x9_who s) (y1 : Int32).toNatClampNeg y2))) ((x9_acts (p9_who s (upd (x9_who s) (y1 : Int32).toNatClampNeg y2))) : Int32).toNatClampNeg 0))) C 38 rfl dX9_begin_35 hK hP la_X9 0 17 (Nat.le_of_ble_eq_true rfl) fl_X9_46 rfl rfl rfl rfl ?_
    refine g_aload_n C 39 rfl dX9_begin_38 0 rfl ?_
    refine g_get (v := .int (x9_acts (p9_other (p9_who s (upd (x9_who s) (y1 : Int32).toNatClampNeg y2)) (upd (x9_other (p9_who s (upd (x9_who s) (y1 : Int32).toNatClampNeg y2))) ((x9_acts (p9_who s (upd (x9_who s) (y1 : Int32).toNatClampNeg y2))) : Int32).toNatClampNeg 0)))) (fs := fl9 a (p9_other (p9_who s (upd (x9_who s) (y1 : Int32).toNatClampNeg y2)) (upd (x9_other (p9_who s (upd (x9_who s) (y1 : Int32).toNatClampNeg y2))) ((x9_acts (p9_who s (upd (x9_who s) (y1 : Int32).toNatClampNeg y2))) : Int32).toNatClampNeg 0))) C 42 rfl dX9_begin_39 hK hP la_X9 0 18 (Nat.le_of_ble_eq_true rfl) fl_X9_130 rfl rfl rfl rfl ?_
    refine g_iconst 0 C 43 rfl dX9_begin_42 ki_0 ?_
    refine s_iast (cs9 a Δ (p9_much (p9_other (p9_who s (upd (x9_who s) (y1 : Int32).toNatClampNeg y2)) (upd (x9_other (p9_who s (upd (x9_who s) (y1 : Int32).toNatClampNeg y2))) ((x9_acts (p9_who s (upd (x9_who s) (y1 : Int32).toNatClampNeg y2))) : Int32).toNatClampNeg 0)) (upd (x9_much (p9_other (p9_who s (upd (x9_who s) (y1 : Int32).toNatClampNeg y2)) (upd (x9_other (p9_who s (upd (x9_who s) (y1 : Int32).toNatClampNeg y2))) ((x9_acts (p9_who s (upd (x9_who s) (y1 : Int32).toNatClampNeg y2))) : Int32).toNatClampNeg 0))) ((x9_acts (p9_other (p9_who s (upd (x9_who s) (y1 : Int32).toNatClampNeg y2)) (upd (x9_other (p9_who s (upd (x9_who s) (y1 : Int32).toNatClampNeg y2))) ((x9_acts (p9_who s (upd (x9_who s) (y1 : Int32).toNatClampNeg y2))) : Int32).toNatClampNeg 0))) : Int32).toNatClampNeg 0))) C 44 rfl dX9_begin_43 hK hP hD hS 13 rfl hq (sst_99 a Δ (p9_other (p9_who s (upd (x9_who s) (y1 : Int32).toNatClampNeg y2)) (upd (x9_other (p9_who s (upd (x9_who s) (y1 : Int32).toNatClampNeg y2))) ((x9_acts (p9_who s (upd (x9_who s) (y1 : Int32).toNatClampNeg y2))) : Int32).toNatClampNeg 0)) (upd (x9_much (p9_other (p9_who s (upd (x9_who s) (y1 : Int32).toNatClampNeg y2)) (upd (x9_other (p9_who s (upd (x9_who s) (y1 : Int32).toNatClampNeg y2))) ((x9_acts (p9_who s (upd (x9_who s) (y1 : Int32).toNatClampNeg y2))) : Int32).toNatClampNeg 0))) ((x9_acts (p9_other (p9_who s (upd (x9_who s) (y1 : Int32).toNatClampNeg y2)) (upd (x9_other (p9_who s (upd (x9_who s) (y1 : Int32).toNatClampNeg y2))) ((x9_acts (p9_who s (upd (x9_who s) (y1 : Int32).toNatClampNeg y2))) : Int32).toNatClampNeg 0))) : Int32).toNatClampNeg 0)) (fun hq hi3 H L hP hD hS => ?_)
    refine g_aload_n C 45 rfl dX9_begin_44 0 rfl ?_
    refine g_get (v := .ref (a 10)) (fs := fl9 a (p9_much (p9_other (p9_who s (upd (x9_who s) (y1 : Int32).toNatClampNeg y2)) (upd (x9_other (p9_who s (upd (x9_who s) (y1 : Int32).toNatClampNeg y2))) ((x9_acts (p9_who s (upd (x9_who s) (y1 : Int32).toNatClampNeg y2))) : Int32).toNatClampNeg 0)) (upd (x9_much (p9_other (p9_who s (upd (x9_who s) (y1 : Int32).toNatClampNeg y2)) (upd (x9_other (p9_who s (upd (x9_who s) (y1 : Int32).toNatClampNeg y2))) ((x9_acts (p9_who s (upd (x9_who s) (y1 : Int32).toNatClampNeg y2))) : Int32).toNatClampNeg 0))) ((x9_acts (p9_other (p9_who s (upd (x9_who s) (y1 : Int32).toNatClampNeg y2)) (upd (x9_other (p9_who s (upd (x9_who s) (y1 : Int32).toNatClampNeg y2))) ((x9_acts (p9_who s (upd (x9_who s) (y1 : Int32).toNatClampNeg y2))) : Int32).toNatClampNeg 0))) : Int32).toNatClampNeg 0))) C 48 rfl dX9_begin_45 hK hP la_X9 0 14 (Nat.le_of_ble_eq_true rfl) fl_X9_37 rfl rfl rfl rfl ?_
    refine g_aload_n C 49 rfl dX9_begin_48 0 rfl ?_
    refine g_get (v := .int (x9_acts (p9_much (p9_other (p9_who s (upd (x9_who s) (y1 : Int32).toNatClampNeg y2)) (upd (x9_other (p9_who s (upd (x9_who s) (y1 : Int32).toNatClampNeg y2))) ((x9_acts (p9_who s (upd (x9_who s) (y1 : Int32).toNatClampNeg y2))) : Int32).toNatClampNeg 0)) (upd (x9_much (p9_other (p9_who s (upd (x9_who s) (y1 : Int32).toNatClampNeg y2)) (upd (x9_other (p9_who s (upd (x9_who s) (y1 : Int32).toNatClampNeg y2))) ((x9_acts (p9_who s (upd (x9_who s) (y1 : Int32).toNatClampNeg y2))) : Int32).toNatClampNeg 0))) ((x9_acts (p9_other (p9_who s (upd (x9_who s) (y1 : Int32).toNatClampNeg y2)) (upd (x9_other (p9_who s (upd (x9_who s) (y1 : Int32).toNatClampNeg y2))) ((x9_acts (p9_who s (upd (x9_who s) (y1 : Int32).toNatClampNeg y2))) : Int32).toNatClampNeg 0))) : Int32).toNatClampNeg 0)))) (fs := fl9 a (p9_much (p9_other (p9_who s (upd (x9_who s) (y1 : Int32).toNatClampNeg y2)) (upd (x9_other (p9_who s (upd (x9_who s) (y1 : Int32).toNatClampNeg y2))) ((x9_acts (p9_who s (upd (x9_who s) (y1 : Int32).toNatClampNeg y2))) : Int32).toNatClampNeg 0)) (upd (x9_much (p9_other (p9_who s (upd (x9_who s) (y1 : Int32).toNatClampNeg y2)) (upd (x9_other (p9_who s (upd (x9_who s) (y1 : Int32).toNatClampNeg y2))) ((x9_acts (p9_who s (upd (x9_who s) (y1 : Int32).toNatClampNeg y2))) : Int32).toNatClampNeg 0))) ((x9_acts (p9_other (p9_who s (upd (x9_who s) (y1 : Int32).toNatClampNeg y2)) (upd (x9_other (p9_who s (upd (x9_who s) (y1 : Int32).toNatClampNeg y2))) ((x9_acts (p9_who s (upd (x9_who s) (y1 : Int32).toNatClampNeg y2))) : Int32).toNatClampNeg 0))) : Int32).toNatClampNeg 0))) C 52 rfl dX9_begin_49 hK hP la_X9 0 18 (Nat.le_of_ble_eq_true rfl) fl_X9_130 rfl rfl rfl rfl ?_
    refine g_iconst 4 C 53 rfl dX9_begin_52 ki_4 ?_
    refine s_iast (cs9 a Δ (p9_act (p9_much (p9_other (p9_who s (upd (x9_who s) (y1 : Int32).toNatClampNeg y2)) (upd (x9_other (p9_who s (upd (x9_who s) (y1 : Int32).toNatClampNeg y2))) ((x9_acts (p9_who s (upd (x9_who s) (y1 : Int32).toNatClampNeg y2))) : Int32).toNatClampNeg 0)) (upd (x9_much (p9_other (p9_who s (upd (x9_who s) (y1 : Int32).toNatClampNeg y2)) (upd (x9_other (p9_who s (upd (x9_who s) (y1 : Int32).toNatClampNeg y2))) ((x9_acts (p9_who s (upd (x9_who s) (y1 : Int32).toNatClampNeg y2))) : Int32).toNatClampNeg 0))) ((x9_acts (p9_other (p9_who s (upd (x9_who s) (y1 : Int32).toNatClampNeg y2)) (upd (x9_other (p9_who s (upd (x9_who s) (y1 : Int32).toNatClampNeg y2))) ((x9_acts (p9_who s (upd (x9_who s) (y1 : Int32).toNatClampNeg y2))) : Int32).toNatClampNeg 0))) : Int32).toNatClampNeg 0)) (upd (x9_act (p9_much (p9_other (p9_who s (upd (x9_who s) (y1 : Int32).toNatClampNeg y2)) (upd (x9_other (p9_who s (upd (x9_who s) (y1 : Int32).toNatClampNeg y2))) ((x9_acts (p9_who s (upd (x9_who s) (y1 : Int32).toNatClampNeg y2))) : Int32).toNatClampNeg 0)) (upd (x9_much (p9_other (p9_who s (upd (x9_who s) (y1 : Int32).toNatClampNeg y2)) (upd (x9_other (p9_who s (upd (x9_who s) (y1 : Int32).toNatClampNeg y2))) ((x9_acts (p9_who s (upd (x9_who s) (y1 : Int32).toNatClampNeg y2))) : Int32).toNatClampNeg 0))) ((x9_acts (p9_other (p9_who s (upd (x9_who s) (y1 : Int32).toNatClampNeg y2)) (upd (x9_other (p9_who s (upd (x9_who s) (y1 : Int32).toNatClampNeg y2))) ((x9_acts (p9_who s (upd (x9_who s) (y1 : Int32).toNatClampNeg y2))) : Int32).toNatClampNeg 0))) : Int32).toNatClampNeg 0))) ((x9_acts (p9_much (p9_other (p9_who s (upd (x9_who s) (y1 : Int32).toNatClampNeg y2)) (upd (x9_other (p9_who s (upd (x9_who s) (y1 : Int32).toNatClampNeg y2))) ((x9_acts (p9_who s (upd (x9_who s) (y1 : Int32).toNatClampNeg y2))) : Int32).toNatClampNeg 0)) (upd (x9_much (p9_other (p9_who s (upd (x9_who s) (y1 : Int32).toNatClampNeg y2)) (upd (x9_other (p9_who s (upd (x9_who s) (y1 : Int32).toNatClampNeg y2))) ((x9_acts (p9_who s (upd (x9_who s) (y1 : Int32).toNatClampNeg y2))) : Int32).toNatClampNeg 0))) ((x9_acts (p9_other (p9_who s (upd (x9_who s) (y1 : Int32).toNatClampNeg y2)) (upd (x9_other (p9_who s (upd (x9_who s) (y1 : Int32).toNatClampNeg y2))) ((x9_acts (p9_who s (upd (x9_who s) (y1 : Int32).toNatClampNeg y2))) : Int32).toNatClampNeg 0))) : Int32).toNatClampNeg 0))) : Int32).toNatClampNeg 4))) C 54 rfl dX9_begin_53 hK hP hD hS 10 rfl hq (sst_100 a Δ (p9_much (p9_other (p9_who s (upd (x9_who s) (y1 : Int32).toNatClampNeg y2)) (upd (x9_other (p9_who s (upd (x9_who s) (y1 : Int32).toNatClampNeg y2))) ((x9_acts (p9_who s (upd (x9_who s) (y1 : Int32).toNatClampNeg y2))) : Int32).toNatClampNeg 0)) (upd (x9_much (p9_other (p9_who s (upd (x9_who s) (y1 : Int32).toNatClampNeg y2)) (upd (x9_other (p9_who s (upd (x9_who s) (y1 : Int32).toNatClampNeg y2))) ((x9_acts (p9_who s (upd (x9_who s) (y1 : Int32).toNatClampNeg y2))) : Int32).toNatClampNeg 0))) ((x9_acts (p9_other (p9_who s (upd (x9_who s) (y1 : Int32).toNatClampNeg y2)) (upd (x9_other (p9_who s (upd (x9_who s) (y1 : Int32).toNatClampNeg y2))) ((x9_acts (p9_who s (upd (x9_who s) (y1 : Int32).toNatClampNeg y2))) : Int32).toNatClampNeg 0))) : Int32).toNatClampNeg 0)) (upd (x9_act (p9_much (p9_other (p9_who s (upd (x9_who s) (y1 : Int32).toNatClampNeg y2)) (upd (x9_other (p9_who s (upd (x9_who s) (y1 : Int32).toNatClampNeg y2))) ((x9_acts (p9_who s (upd (x9_who s) (y1 : Int32).toNatClampNeg y2))) : Int32).toNatClampNeg 0)) (upd (x9_much (p9_other (p9_who s (upd (x9_who s) (y1 : Int32).toNatClampNeg y2)) (upd (x9_other (p9_who s (upd (x9_who s) (y1 : Int32).toNatClampNeg y2))) ((x9_acts (p9_who s (upd (x9_who s) (y1 : Int32).toNatClampNeg y2))) : Int32).toNatClampNeg 0))) ((x9_acts (p9_other (p9_who s (upd (x9_who s) (y1 : Int32).toNatClampNeg y2)) (upd (x9_other (p9_who s (upd (x9_who s) (y1 : Int32).toNatClampNeg y2))) ((x9_acts (p9_who s (upd (x9_who s) (y1 : Int32).toNatClampNeg y2))) : Int32).toNatClampNeg 0))) : Int32).toNatClampNeg 0))) ((x9_acts (p9_much (p9_other (p9_who s (upd (x9_who s) (y1 : Int32).toNatClampNeg y2)) (upd (x9_other (p9_who s (upd (x9_who s) (y1 : Int32).toNatClampNeg y2))) ((x9_acts (p9_who s (upd (x9_who s) (y1 : Int32).toNatClampNeg y2))) : Int32).toNatClampNeg 0)) (upd (x9_much (p9_other (p9_who s (upd (x9_who s) (y1 : Int32).toNatClampNeg y2)) (upd (x9_other (p9_who s (upd (x9_who s) (y1 : Int32).toNatClampNeg y2))) ((x9_acts (p9_who s (upd (x9_who s) (y1 : Int32).toNatClampNeg y2))) : Int32).toNatClampNeg 0))) ((x9_acts (p9_other (p9_who s (upd (x9_who s) (y1 : Int32).toNatClampNeg y2)) (upd (x9_other (p9_who s (upd (x9_who s) (y1 : Int32).toNatClampNeg y2))) ((x9_acts (p9_who s (upd (x9_who s) (y1 : Int32).toNatClampNeg y2))) : Int32).toNatClampNeg 0))) : Int32).toNatClampNeg 0))) : Int32).toNatClampNeg 4)) (fun hq hi4 H L hP hD hS => ?_)
    refine g_iload_n C 55 rfl dX9_begin_54 1 rfl ?_
    obtain ⟨r5, hz6, hq⟩ := bindE hq
    refine g_callRS (rest := []) C 58 rfl dX9_begin_55 (c_X9_isLetter Γ.2.1 Δ  x1  hz6) mv_X9_isLetter (Or.inl ml_X9_133) hK rfl rfl ⟨Nat.le_of_ble_eq_true rfl, Nat.le_of_ble_eq_true rfl⟩ (Nat.le_of_ble_eq_true rfl) ⟨Nat.zero_le _, Nat.zero_le _⟩ ?_
    refine s_if_eq C 65 61 rfl dX9_begin_58 (by decide) hq (fun hq => ?_) (fun hq => ?_)
    rotate_left
    · refine g_iconst 1 C 62 rfl dX9_begin_61 ki_1 ?_
      refine g_goto C 80 dX9_begin_62 (by decide) ?_
      exact w_int (ws := fun s => cs9 a Δ s) hR hq hP hS dX9_begin_80 rfl rfl
    refine g_iload_n C 66 rfl dX9_begin_65 1 rfl ?_
    refine g_bipush 46 C 68 rfl dX9_begin_66 kb_46 ?_
    refine s_icmp_ne C 78 71 rfl dX9_begin_68 (by decide) hq (fun hq => ?_) (fun hq => ?_)
    · refine g_bipush (-6) C 80 rfl dX9_begin_78 kb_m6 ?_
      exact w_int (ws := fun s => cs9 a Δ s) hR hq hP hS dX9_begin_80 rfl rfl
    refine g_aload_n C 72 rfl dX9_begin_71 0 rfl ?_
    obtain ⟨r7, hz8, hq⟩ := bindE hq
    refine g_callWV (rest := []) (cs9 a Δ r7.2) C 75 rfl dX9_begin_72 (c_X9_close Γ.2.1 Δ a  (p9_act (p9_much (p9_other (p9_who s (upd (x9_who s) (y1 : Int32).toNatClampNeg y2)) (upd (x9_other (p9_who s (upd (x9_who s) (y1 : Int32).toNatClampNeg y2))) ((x9_acts (p9_who s (upd (x9_who s) (y1 : Int32).toNatClampNeg y2))) : Int32).toNatClampNeg 0)) (upd (x9_much (p9_other (p9_who s (upd (x9_who s) (y1 : Int32).toNatClampNeg y2)) (upd (x9_other (p9_who s (upd (x9_who s) (y1 : Int32).toNatClampNeg y2))) ((x9_acts (p9_who s (upd (x9_who s) (y1 : Int32).toNatClampNeg y2))) : Int32).toNatClampNeg 0))) ((x9_acts (p9_other (p9_who s (upd (x9_who s) (y1 : Int32).toNatClampNeg y2)) (upd (x9_other (p9_who s (upd (x9_who s) (y1 : Int32).toNatClampNeg y2))) ((x9_acts (p9_who s (upd (x9_who s) (y1 : Int32).toNatClampNeg y2))) : Int32).toNatClampNeg 0))) : Int32).toNatClampNeg 0)) (upd (x9_act (p9_much (p9_other (p9_who s (upd (x9_who s) (y1 : Int32).toNatClampNeg y2)) (upd (x9_other (p9_who s (upd (x9_who s) (y1 : Int32).toNatClampNeg y2))) ((x9_acts (p9_who s (upd (x9_who s) (y1 : Int32).toNatClampNeg y2))) : Int32).toNatClampNeg 0)) (upd (x9_much (p9_other (p9_who s (upd (x9_who s) (y1 : Int32).toNatClampNeg y2)) (upd (x9_other (p9_who s (upd (x9_who s) (y1 : Int32).toNatClampNeg y2))) ((x9_acts (p9_who s (upd (x9_who s) (y1 : Int32).toNatClampNeg y2))) : Int32).toNatClampNeg 0))) ((x9_acts (p9_other (p9_who s (upd (x9_who s) (y1 : Int32).toNatClampNeg y2)) (upd (x9_other (p9_who s (upd (x9_who s) (y1 : Int32).toNatClampNeg y2))) ((x9_acts (p9_who s (upd (x9_who s) (y1 : Int32).toNatClampNeg y2))) : Int32).toNatClampNeg 0))) : Int32).toNatClampNeg 0))) ((x9_acts (p9_much (p9_other (p9_who s (upd (x9_who s) (y1 : Int32).toNatClampNeg y2)) (upd (x9_other (p9_who s (upd (x9_who s) (y1 : Int32).toNatClampNeg y2))) ((x9_acts (p9_who s (upd (x9_who s) (y1 : Int32).toNatClampNeg y2))) : Int32).toNatClampNeg 0)) (upd (x9_much (p9_other (p9_who s (upd (x9_who s) (y1 : Int32).toNatClampNeg y2)) (upd (x9_other (p9_who s (upd (x9_who s) (y1 : Int32).toNatClampNeg y2))) ((x9_acts (p9_who s (upd (x9_who s) (y1 : Int32).toNatClampNeg y2))) : Int32).toNatClampNeg 0))) ((x9_acts (p9_other (p9_who s (upd (x9_who s) (y1 : Int32).toNatClampNeg y2)) (upd (x9_other (p9_who s (upd (x9_who s) (y1 : Int32).toNatClampNeg y2))) ((x9_acts (p9_who s (upd (x9_who s) (y1 : Int32).toNatClampNeg y2))) : Int32).toNatClampNeg 0))) : Int32).toNatClampNeg 0))) : Int32).toNatClampNeg 4)) hz8) mv_X9_close ml_X9_136 hK hP hD hS hA (scl_101 a Δ (p9_act (p9_much (p9_other (p9_who s (upd (x9_who s) (y1 : Int32).toNatClampNeg y2)) (upd (x9_other (p9_who s (upd (x9_who s) (y1 : Int32).toNatClampNeg y2))) ((x9_acts (p9_who s (upd (x9_who s) (y1 : Int32).toNatClampNeg y2))) : Int32).toNatClampNeg 0)) (upd (x9_much (p9_other (p9_who s (upd (x9_who s) (y1 : Int32).toNatClampNeg y2)) (upd (x9_other (p9_who s (upd (x9_who s) (y1 : Int32).toNatClampNeg y2))) ((x9_acts (p9_who s (upd (x9_who s) (y1 : Int32).toNatClampNeg y2))) : Int32).toNatClampNeg 0))) ((x9_acts (p9_other (p9_who s (upd (x9_who s) (y1 : Int32).toNatClampNeg y2)) (upd (x9_other (p9_who s (upd (x9_who s) (y1 : Int32).toNatClampNeg y2))) ((x9_acts (p9_who s (upd (x9_who s) (y1 : Int32).toNatClampNeg y2))) : Int32).toNatClampNeg 0))) : Int32).toNatClampNeg 0)) (upd (x9_act (p9_much (p9_other (p9_who s (upd (x9_who s) (y1 : Int32).toNatClampNeg y2)) (upd (x9_other (p9_who s (upd (x9_who s) (y1 : Int32).toNatClampNeg y2))) ((x9_acts (p9_who s (upd (x9_who s) (y1 : Int32).toNatClampNeg y2))) : Int32).toNatClampNeg 0)) (upd (x9_much (p9_other (p9_who s (upd (x9_who s) (y1 : Int32).toNatClampNeg y2)) (upd (x9_other (p9_who s (upd (x9_who s) (y1 : Int32).toNatClampNeg y2))) ((x9_acts (p9_who s (upd (x9_who s) (y1 : Int32).toNatClampNeg y2))) : Int32).toNatClampNeg 0))) ((x9_acts (p9_other (p9_who s (upd (x9_who s) (y1 : Int32).toNatClampNeg y2)) (upd (x9_other (p9_who s (upd (x9_who s) (y1 : Int32).toNatClampNeg y2))) ((x9_acts (p9_who s (upd (x9_who s) (y1 : Int32).toNatClampNeg y2))) : Int32).toNatClampNeg 0))) : Int32).toNatClampNeg 0))) ((x9_acts (p9_much (p9_other (p9_who s (upd (x9_who s) (y1 : Int32).toNatClampNeg y2)) (upd (x9_other (p9_who s (upd (x9_who s) (y1 : Int32).toNatClampNeg y2))) ((x9_acts (p9_who s (upd (x9_who s) (y1 : Int32).toNatClampNeg y2))) : Int32).toNatClampNeg 0)) (upd (x9_much (p9_other (p9_who s (upd (x9_who s) (y1 : Int32).toNatClampNeg y2)) (upd (x9_other (p9_who s (upd (x9_who s) (y1 : Int32).toNatClampNeg y2))) ((x9_acts (p9_who s (upd (x9_who s) (y1 : Int32).toNatClampNeg y2))) : Int32).toNatClampNeg 0))) ((x9_acts (p9_other (p9_who s (upd (x9_who s) (y1 : Int32).toNatClampNeg y2)) (upd (x9_other (p9_who s (upd (x9_who s) (y1 : Int32).toNatClampNeg y2))) ((x9_acts (p9_who s (upd (x9_who s) (y1 : Int32).toNatClampNeg y2))) : Int32).toNatClampNeg 0))) : Int32).toNatClampNeg 0))) : Int32).toNatClampNeg 4)) r7.2) rfl rfl rfl rfl rfl ⟨Nat.le_of_ble_eq_true rfl, Nat.le_of_ble_eq_true rfl⟩ (Nat.le_of_ble_eq_true rfl) ⟨Nat.zero_le _, Nat.zero_le _⟩ (fun H L hP hD hS => ?_)
    refine g_goto C 80 dX9_begin_75 (by decide) ?_
    exact w_int (ws := fun s => cs9 a Δ s) hR hq hP hS dX9_begin_80 rfl rfl
  show g Γ { frames := 2, cells := 0, slots := 0, locals := 45 } 2 H [] 0 0 0 [(0, .ref (a 0)), (1, .int x1)] []
  refine g_aload_n C 1 rfl dX9_begin_0 0 rfl ?_
  refine g_get (v := .ref (a 11)) (fs := fl9 a s) C 4 rfl dX9_begin_1 hK hP la_X9 0 15 (Nat.le_of_ble_eq_true rfl) fl_X9_40 rfl rfl rfl rfl ?_
  refine g_aload_n C 5 rfl dX9_begin_4 0 rfl ?_
  refine g_get (v := .int (x9_acts s)) (fs := fl9 a s) C 8 rfl dX9_begin_5 hK hP la_X9 0 18 (Nat.le_of_ble_eq_true rfl) fl_X9_130 rfl rfl rfl rfl ?_
  refine g_iload_n C 9 rfl dX9_begin_8 1 rfl ?_
  obtain ⟨r9, hz10, hq⟩ := bindE hq
  refine g_callRS (rest := [.int (x9_acts s), .ref (a 11)]) C 12 rfl dX9_begin_9 (c_X9_isLetter Γ.2.1 Δ  x1  hz10) mv_X9_isLetter (Or.inl ml_X9_133) hK rfl rfl ⟨Nat.le_of_ble_eq_true rfl, Nat.le_of_ble_eq_true rfl⟩ (Nat.le_of_ble_eq_true rfl) ⟨Nat.zero_le _, Nat.zero_le _⟩ ?_
  refine s_if_eq C 22 15 rfl dX9_begin_12 (by decide) hq (fun hq => ?_) (fun hq => ?_)
  · refine g_iconst 0 C 23 rfl dX9_begin_22 ki_0 ?_
    exact g_sub [0, 1] rfl (K23 x1 (x9_acts s) 0 s _ _ hP hD hS hq)
  refine g_iload_n C 16 rfl dX9_begin_15 1 rfl ?_
  refine g_bipush 65 C 18 rfl dX9_begin_16 kb_65 ?_
  refine g_isub C 19 rfl dX9_begin_18 ?_
  refine g_goto C 23 dX9_begin_19 (by decide) ?_
  exact g_sub [0, 1] rfl (K23 x1 (x9_acts s) (x1 - 65) s _ _ hP hD hS hq)
set_option maxHeartbeats 400000 in
set_option maxRecDepth 100000 in
theorem c_X9_deed (l : Launch) (Δ : gD) (a : Nat → Nat) (x1 : Int32) (s : S9) {res : Int32 × S9} (hq : sem_X9_deed x1 s = some res) : MW l yX9_deed cX9_deed 3 (some .int) Δ (cs9 a Δ s) [.ref (a 0), .int x1] 0 0 (some (.int res.1)) (cs9 a Δ res.2) := by
  refine MW.of (by decide) (Nat.le_of_ble_eq_true rfl) ?_
  intro Γ A H hl C hK hP hD hS hA hR
  subst hl
  have K98 : ∀ (x1 : Int32) (x2 : Int32) (y1 : Int32) (y2 : Int32) (s : S9) (H : Heap) (L : List Loc) (hP : va_P Δ.1 classes (cs9 a Δ s) H) (hD : va_D A (cs9 a Δ s)) (hS : va_S A (sOf Γ).heap H L), jn_X9_deed_98 x1 x2 y1 y2 s = some res → g Γ { frames := 0, cells := 0, slots := 0, locals := 0 } 3 H L 0 0 98 [(1, .int x1), (2, .int x2)] [.int y2, .int y1, .ref (a 12)] := by
    intro x1 x2 y1 y2 s H L hP hD hS hq
    refine s_iast (cs9 a Δ (p9_other s (upd (x9_other s) (y1 : Int32).toNatClampNeg y2))) C 99 rfl dX9_deed_98 hK hP hD hS 12 rfl hq (sst_98 a Δ s (upd (x9_other s) (y1 : Int32).toNatClampNeg y2)) (fun hq hi1 H L hP hD hS => ?_)
    refine g_iload_n C 100 rfl dX9_deed_99 1 rfl ?_
    refine s_if_ge C 109 103 rfl dX9_deed_100 (by decide) hq (fun hq => ?_) (fun hq => ?_)
    · refine g_iconst 2 C 110 rfl dX9_deed_109 ki_2 ?_
      refine g_goto C 135 dX9_deed_110 (by decide) ?_
      exact w_int (ws := fun s => cs9 a Δ s) hR hq hP hS dX9_deed_135 rfl rfl
    refine g_iload_n C 104 rfl dX9_deed_103 0 rfl ?_
    refine g_bipush 33 C 106 rfl dX9_deed_104 kb_33 ?_
    refine s_icmp_ne C 113 109 rfl dX9_deed_106 (by decide) hq (fun hq => ?_) (fun hq => ?_)
    rotate_left
    · refine g_iconst 2 C 110 rfl dX9_deed_109 ki_2 ?_
      refine g_goto C 135 dX9_deed_110 (by decide) ?_
      exact w_int (ws := fun s => cs9 a Δ s) hR hq hP hS dX9_deed_135 rfl rfl
    refine g_iload_n C 114 rfl dX9_deed_113 0 rfl ?_
    refine g_bipush 62 C 116 rfl dX9_deed_114 kb_62 ?_
    refine s_icmp_ne C 123 119 rfl dX9_deed_116 (by decide) hq (fun hq => ?_) (fun hq => ?_)
    rotate_left
    · refine g_iconst 3 C 120 rfl dX9_deed_119 ki_3 ?_
      refine g_goto C 135 dX9_deed_120 (by decide) ?_
      exact w_int (ws := fun s => cs9 a Δ s) hR hq hP hS dX9_deed_135 rfl rfl
    refine g_iload_n C 124 rfl dX9_deed_123 0 rfl ?_
    refine g_bipush 64 C 126 rfl dX9_deed_124 kb_64 ?_
    refine s_icmp_ne C 133 129 rfl dX9_deed_126 (by decide) hq (fun hq => ?_) (fun hq => ?_)
    · refine g_bipush (-6) C 135 rfl dX9_deed_133 kb_m6 ?_
      exact w_int (ws := fun s => cs9 a Δ s) hR hq hP hS dX9_deed_135 rfl rfl
    refine g_iconst 4 C 130 rfl dX9_deed_129 ki_4 ?_
    refine g_goto C 135 dX9_deed_130 (by decide) ?_
    exact w_int (ws := fun s => cs9 a Δ s) hR hq hP hS dX9_deed_135 rfl rfl
  have K80 : ∀ (x1 : Int32) (x2 : Int32) (y1 : Int32) (y2 : Int32) (s : S9) (H : Heap) (L : List Loc) (hP : va_P Δ.1 classes (cs9 a Δ s) H) (hD : va_D A (cs9 a Δ s)) (hS : va_S A (sOf Γ).heap H L), jn_X9_deed_80 x1 x2 y1 y2 s = some res → g Γ { frames := 0, cells := 0, slots := 0, locals := 0 } 3 H L 0 0 80 [(0, .ref (a 0)), (1, .int x1), (2, .int x2)] [.int y2, .int y1, .ref (a 10)] := by
    intro x1 x2 y1 y2 s H L hP hD hS hq
    refine s_iast (cs9 a Δ (p9_act s (upd (x9_act s) (y1 : Int32).toNatClampNeg y2))) C 81 rfl dX9_deed_80 hK hP hD hS 10 rfl hq (sst_100 a Δ s (upd (x9_act s) (y1 : Int32).toNatClampNeg y2)) (fun hq hi2 H L hP hD hS => ?_)
    refine g_aload_n C 82 rfl dX9_deed_81 0 rfl ?_
    refine g_get (v := .ref (a 12)) (fs := fl9 a (p9_act s (upd (x9_act s) (y1 : Int32).toNatClampNeg y2))) C 85 rfl dX9_deed_82 hK hP la_X9 0 16 (Nat.le_of_ble_eq_true rfl) fl_X9_43 rfl rfl rfl rfl ?_
    refine g_aload_n C 86 rfl dX9_deed_85 0 rfl ?_
    refine g_get (v := .int (x9_acts (p9_act s (upd (x9_act s) (y1 : Int32).toNatClampNeg y2)))) (fs := fl9 a (p9_act s (upd (x9_act s) (y1 : Int32).toNatClampNeg y2))) C 89 rfl dX9_deed_86 hK hP la_X9 0 18 (Nat.le_of_ble_eq_true rfl) fl_X9_130 rfl rfl rfl rfl ?_
    refine g_iload_n C 90 rfl dX9_deed_89 2 rfl ?_
    refine s_if_lt C 97 93 rfl dX9_deed_90 (by decide) hq (fun hq => ?_) (fun hq => ?_)
    · refine g_iconst 0 C 98 rfl dX9_deed_97 ki_0 ?_
      exact g_sub [1, 2] rfl (K98 x1 x2 (x9_acts (p9_act s (upd (x9_act s) (y1 : Int32).toNatClampNeg y2))) 0 (p9_act s (upd (x9_act s) (y1 : Int32).toNatClampNeg y2)) _ _ hP hD hS hq)
    refine g_iload_n C 94 rfl dX9_deed_93 2 rfl ?_
    refine g_goto C 98 dX9_deed_94 (by decide) ?_
    exact g_sub [1, 2] rfl (K98 x1 x2 (x9_acts (p9_act s (upd (x9_act s) (y1 : Int32).toNatClampNeg y2))) x2 (p9_act s (upd (x9_act s) (y1 : Int32).toNatClampNeg y2)) _ _ hP hD hS hq)
  have K42 : ∀ (x1 : Int32) (y0 : Int32) (s : S9) (H : Heap) (L : List Loc) (hP : va_P Δ.1 classes (cs9 a Δ s) H) (hD : va_D A (cs9 a Δ s)) (hS : va_S A (sOf Γ).heap H L), jn_X9_deed_42 x1 y0 s = some res → g Γ { frames := 0, cells := 0, slots := 0, locals := 0 } 3 H L 0 0 42 [(0, .ref (a 0)), (1, .int x1)] [.int y0] := by
    intro x1 y0 s H L hP hD hS hq
    refine g_istore_n [(2, .int y0), (0, .ref (a 0)), (1, .int x1)] C 43 rfl dX9_deed_42 (Nat.le_of_ble_eq_true rfl) rfl ?_
    refine g_aload_n C 44 rfl dX9_deed_43 1 rfl ?_
    refine g_get (v := .ref (a 10)) (fs := fl9 a s) C 47 rfl dX9_deed_44 hK hP la_X9 0 14 (Nat.le_of_ble_eq_true rfl) fl_X9_37 rfl rfl rfl rfl ?_
    refine g_aload_n C 48 rfl dX9_deed_47 1 rfl ?_
    refine g_get (v := .int (x9_acts s)) (fs := fl9 a s) C 51 rfl dX9_deed_48 hK hP la_X9 0 18 (Nat.le_of_ble_eq_true rfl) fl_X9_130 rfl rfl rfl rfl ?_
    refine g_iload_n C 52 rfl dX9_deed_51 0 rfl ?_
    refine s_if_lt C 59 55 rfl dX9_deed_52 (by decide) hq (fun hq => ?_) (fun hq => ?_)
    rotate_left
    · refine g_iconst 0 C 56 rfl dX9_deed_55 ki_0 ?_
      refine g_goto C 80 dX9_deed_56 (by decide) ?_
      exact g_sub [1, 2, 0] rfl (K80 x1 y0 (x9_acts s) 0 s _ _ hP hD hS hq)
    refine g_iload_n C 60 rfl dX9_deed_59 2 rfl ?_
    refine g_bipush 33 C 62 rfl dX9_deed_60 kb_33 ?_
    refine s_icmp_ne C 69 65 rfl dX9_deed_62 (by decide) hq (fun hq => ?_) (fun hq => ?_)
    rotate_left
    · refine g_iconst 1 C 66 rfl dX9_deed_65 ki_1 ?_
      refine g_goto C 80 dX9_deed_66 (by decide) ?_
      exact g_sub [1, 2, 0] rfl (K80 x1 y0 (x9_acts s) 1 s _ _ hP hD hS hq)
    refine g_iload_n C 70 rfl dX9_deed_69 2 rfl ?_
    refine g_bipush 62 C 72 rfl dX9_deed_70 kb_62 ?_
    refine s_icmp_ne C 79 75 rfl dX9_deed_72 (by decide) hq (fun hq => ?_) (fun hq => ?_)
    · refine g_iconst 3 C 80 rfl dX9_deed_79 ki_3 ?_
      exact g_sub [1, 2, 0] rfl (K80 x1 y0 (x9_acts s) 3 s _ _ hP hD hS hq)
    refine g_iconst 2 C 76 rfl dX9_deed_75 ki_2 ?_
    refine g_goto C 80 dX9_deed_76 (by decide) ?_
    exact g_sub [1, 2, 0] rfl (K80 x1 y0 (x9_acts s) 2 s _ _ hP hD hS hq)
  show g Γ { frames := 0, cells := 0, slots := 0, locals := 0 } 3 H [] 0 0 0 [(0, .ref (a 0)), (1, .int x1)] []
  refine g_iload_n C 1 rfl dX9_deed_0 1 rfl ?_
  refine g_bipush 104 C 3 rfl dX9_deed_1 kb_104 ?_
  refine s_icmp_ne C 10 6 rfl dX9_deed_3 (by decide) hq (fun hq => ?_) (fun hq => ?_)
  rotate_left
  · refine g_iconst 0 C 7 rfl dX9_deed_6 ki_0 ?_
    refine g_goto C 42 dX9_deed_7 (by decide) ?_
    exact g_sub [0, 1] rfl (K42 x1 0 s _ _ hP hD hS hq)
  refine g_iload_n C 11 rfl dX9_deed_10 1 rfl ?_
  refine g_bipush 114 C 13 rfl dX9_deed_11 kb_114 ?_
  refine s_icmp_ne C 20 16 rfl dX9_deed_13 (by decide) hq (fun hq => ?_) (fun hq => ?_)
  rotate_left
  · refine g_iconst 1 C 17 rfl dX9_deed_16 ki_1 ?_
    refine g_goto C 42 dX9_deed_17 (by decide) ?_
    exact g_sub [0, 1] rfl (K42 x1 1 s _ _ hP hD hS hq)
  refine g_iload_n C 21 rfl dX9_deed_20 1 rfl ?_
  refine g_bipush 116 C 23 rfl dX9_deed_21 kb_116 ?_
  refine s_icmp_ne C 30 26 rfl dX9_deed_23 (by decide) hq (fun hq => ?_) (fun hq => ?_)
  rotate_left
  · refine g_iconst 2 C 27 rfl dX9_deed_26 ki_2 ?_
    refine g_goto C 42 dX9_deed_27 (by decide) ?_
    exact g_sub [0, 1] rfl (K42 x1 2 s _ _ hP hD hS hq)
  refine g_iload_n C 31 rfl dX9_deed_30 1 rfl ?_
  refine g_bipush 107 C 33 rfl dX9_deed_31 kb_107 ?_
  refine s_icmp_ne C 40 36 rfl dX9_deed_33 (by decide) hq (fun hq => ?_) (fun hq => ?_)
  · refine g_bipush (-6) C 42 rfl dX9_deed_40 kb_m6 ?_
    exact g_sub [0, 1] rfl (K42 x1 (-6) s _ _ hP hD hS hq)
  refine g_iconst 3 C 37 rfl dX9_deed_36 ki_3 ?_
  refine g_goto C 42 dX9_deed_37 (by decide) ?_
  exact g_sub [0, 1] rfl (K42 x1 3 s _ _ hP hD hS hq)
set_option maxHeartbeats 400000 in
set_option maxRecDepth 100000 in
theorem c_X9_readOn (l : Launch) (Δ : gD) (a : Nat → Nat) (x1 : Int32) (x2 : Int32) (s : S9) {res : Int32 × S9} (hq : sem_X9_readOn x1 x2 s = some res) : MW l yX9_readOn cX9_readOn 4 (some .int) Δ (cs9 a Δ s) [.ref (a 0), .int x1, .int x2] 3 66 (some (.int res.1)) (cs9 a Δ res.2) := by
  refine MW.of (by decide) (Nat.le_of_ble_eq_true rfl) ?_
  intro Γ A H hl C hK hP hD hS hA hR
  subst hl
  have K85 : ∀ (x1 : Int32) (y0 : Int64) (y1 : Int64) (s : S9) (H : Heap) (L : List Loc) (hP : va_P Δ.1 classes (cs9 a Δ s) H) (hD : va_D A (cs9 a Δ s)) (hS : va_S A (sOf Γ).heap H L), jn_X9_readOn_85 x1 y0 y1 s = some res → g Γ { frames := 3, cells := 0, slots := 0, locals := 66 } 4 H L 0 0 85 [(0, .ref (a 0)), (1, .int x1)] [.long y1, .long y0] := by
    intro x1 y0 y1 s H L hP hD hS hq
    refine g_ldc2 57 C 88 rfl dX9_readOn_85 k_X9_149 ?_
    obtain ⟨r1, hz2, hq⟩ := bindE hq
    refine g_callRS (rest := []) C 91 rfl dX9_readOn_88 (c_X9_in Γ.2.1 Δ  y0 y1 57  hz2) mv_X9_in (Or.inl ml_X9_90) hK rfl rfl ⟨Nat.le_of_ble_eq_true rfl, Nat.le_of_ble_eq_true rfl⟩ (Nat.le_of_ble_eq_true rfl) ⟨Nat.zero_le _, Nat.zero_le _⟩ ?_
    refine g_istore_n [(3, .int r1), (0, .ref (a 0)), (1, .int x1)] C 92 rfl dX9_readOn_91 (Nat.le_of_ble_eq_true rfl) rfl ?_
    refine g_iload_n C 93 rfl dX9_readOn_92 0 rfl ?_
    refine s_if_ne C 101 96 rfl dX9_readOn_93 (by decide) hq (fun hq => ?_) (fun hq => ?_)
    rotate_left
    · refine g_bipush (-6) C 98 rfl dX9_readOn_96 kb_m6 ?_
      refine g_goto C 114 dX9_readOn_98 (by decide) ?_
      exact w_int (ws := fun s => cs9 a Δ s) hR hq hP hS dX9_readOn_114 rfl rfl
    refine g_iload_n C 102 rfl dX9_readOn_101 2 rfl ?_
    refine g_iconst 3 C 103 rfl dX9_readOn_102 ki_3 ?_
    refine s_icmp_ne C 110 106 rfl dX9_readOn_103 (by decide) hq (fun hq => ?_) (fun hq => ?_)
    rotate_left
    · refine g_iconst 5 C 107 rfl dX9_readOn_106 ki_5 ?_
      refine g_goto C 114 dX9_readOn_107 (by decide) ?_
      exact w_int (ws := fun s => cs9 a Δ s) hR hq hP hS dX9_readOn_114 rfl rfl
    refine g_aload_n C 111 rfl dX9_readOn_110 1 rfl ?_
    obtain ⟨r3, hz4, hq⟩ := bindE hq
    refine g_callWV (rest := []) (cs9 a Δ r3.2) C 114 rfl dX9_readOn_111 (c_X9_close Γ.2.1 Δ a  s hz4) mv_X9_close ml_X9_136 hK hP hD hS hA (scl_101 a Δ s r3.2) rfl rfl rfl rfl rfl ⟨Nat.le_of_ble_eq_true rfl, Nat.le_of_ble_eq_true rfl⟩ (Nat.le_of_ble_eq_true rfl) ⟨Nat.zero_le _, Nat.zero_le _⟩ (fun H L hP hD hS => ?_)
    exact w_int (ws := fun s => cs9 a Δ s) hR hq hP hS dX9_readOn_114 rfl rfl
  show g Γ { frames := 3, cells := 0, slots := 0, locals := 66 } 4 H [] 0 0 0 [(0, .ref (a 0)), (1, .int x1), (2, .int x2)] []
  refine g_iload_n C 1 rfl dX9_readOn_0 1 rfl ?_
  refine s_if_ne C 10 4 rfl dX9_readOn_1 (by decide) hq (fun hq => ?_) (fun hq => ?_)
  rotate_left
  · refine g_aload_n C 5 rfl dX9_readOn_4 0 rfl ?_
    refine g_iload_n C 6 rfl dX9_readOn_5 2 rfl ?_
    obtain ⟨r13, hz14, hq⟩ := bindE hq
    refine g_callWV (rest := []) (cs9 a Δ r13.2) C 9 rfl dX9_readOn_6 (c_X9_begin Γ.2.1 Δ a x2 s hz14) mv_X9_begin ml_X9_139 hK hP hD hS hA (scl_101 a Δ s r13.2) rfl rfl rfl rfl rfl ⟨Nat.le_of_ble_eq_true rfl, Nat.le_of_ble_eq_true rfl⟩ (Nat.le_of_ble_eq_true rfl) ⟨Nat.zero_le _, Nat.zero_le _⟩ (fun H L hP hD hS => ?_)
    exact w_int (ws := fun s => cs9 a Δ s) hR hq hP hS dX9_readOn_9 rfl rfl
  refine g_iload_n C 11 rfl dX9_readOn_10 1 rfl ?_
  refine g_iconst 1 C 12 rfl dX9_readOn_11 ki_1 ?_
  refine s_icmp_ne C 21 15 rfl dX9_readOn_12 (by decide) hq (fun hq => ?_) (fun hq => ?_)
  rotate_left
  · refine g_aload_n C 16 rfl dX9_readOn_15 0 rfl ?_
    refine g_iload_n C 17 rfl dX9_readOn_16 2 rfl ?_
    obtain ⟨r11, hz12, hq⟩ := bindE hq
    refine g_callWV (rest := []) (cs9 a Δ r11.2) C 20 rfl dX9_readOn_17 (c_X9_deed Γ.2.1 Δ a x2 s hz12) mv_X9_deed ml_X9_142 hK hP hD hS hA (scl_101 a Δ s r11.2) rfl rfl rfl rfl rfl ⟨Nat.le_of_ble_eq_true rfl, Nat.le_of_ble_eq_true rfl⟩ (Nat.le_of_ble_eq_true rfl) ⟨Nat.zero_le _, Nat.zero_le _⟩ (fun H L hP hD hS => ?_)
    exact w_int (ws := fun s => cs9 a Δ s) hR hq hP hS dX9_readOn_20 rfl rfl
  refine g_iload_n C 22 rfl dX9_readOn_21 1 rfl ?_
  refine g_iconst 5 C 23 rfl dX9_readOn_22 ki_5 ?_
  refine s_icmp_ne C 56 26 rfl dX9_readOn_23 (by decide) hq (fun hq => ?_) (fun hq => ?_)
  · refine g_aload_n C 57 rfl dX9_readOn_56 0 rfl ?_
    refine g_get (v := .ref (a 13)) (fs := fl9 a s) C 60 rfl dX9_readOn_57 hK hP la_X9 0 17 (Nat.le_of_ble_eq_true rfl) fl_X9_46 rfl rfl rfl rfl ?_
    refine g_aload_n C 61 rfl dX9_readOn_60 0 rfl ?_
    refine g_get (v := .int (x9_acts s)) (fs := fl9 a s) C 64 rfl dX9_readOn_61 hK hP la_X9 0 18 (Nat.le_of_ble_eq_true rfl) fl_X9_130 rfl rfl rfl rfl ?_
    refine g_iload_n C 65 rfl dX9_readOn_64 2 rfl ?_
    refine g_bipush 48 C 67 rfl dX9_readOn_65 kb_48 ?_
    refine g_isub C 68 rfl dX9_readOn_67 ?_
    refine s_iast (cs9 a Δ (p9_much s (upd (x9_much s) ((x9_acts s) : Int32).toNatClampNeg (x2 - 48)))) C 69 rfl dX9_readOn_68 hK hP hD hS 13 rfl hq (sst_99 a Δ s (upd (x9_much s) ((x9_acts s) : Int32).toNatClampNeg (x2 - 48))) (fun hq hi5 H L hP hD hS => ?_)
    refine g_iload_n C 70 rfl dX9_readOn_69 2 rfl ?_
    refine g_i2l C 71 rfl dX9_readOn_70 ?_
    refine g_iload_n C 72 rfl dX9_readOn_71 1 rfl ?_
    refine g_iconst 4 C 73 rfl dX9_readOn_72 ki_4 ?_
    refine s_icmp_ne C 82 76 rfl dX9_readOn_73 (by decide) hq (fun hq => ?_) (fun hq => ?_)
    · refine g_ldc2 49 C 85 rfl dX9_readOn_82 k_X9_147 ?_
      exact g_sub [0, 1] rfl (K85 x1 (Int32.toInt64 x2) 49 (p9_much s (upd (x9_much s) ((x9_acts s) : Int32).toNatClampNeg (x2 - 48))) _ _ hP hD hS hq)
    refine g_ldc2 48 C 79 rfl dX9_readOn_76 k_X9_145 ?_
    refine g_goto C 85 dX9_readOn_79 (by decide) ?_
    exact g_sub [0, 1] rfl (K85 x1 (Int32.toInt64 x2) 48 (p9_much s (upd (x9_much s) ((x9_acts s) : Int32).toNatClampNeg (x2 - 48))) _ _ hP hD hS hq)
  refine g_aload_n C 27 rfl dX9_readOn_26 0 rfl ?_
  refine g_get (v := .ref (a 12)) (fs := fl9 a s) C 30 rfl dX9_readOn_27 hK hP la_X9 0 16 (Nat.le_of_ble_eq_true rfl) fl_X9_43 rfl rfl rfl rfl ?_
  refine g_aload_n C 31 rfl dX9_readOn_30 0 rfl ?_
  refine g_get (v := .int (x9_acts s)) (fs := fl9 a s) C 34 rfl dX9_readOn_31 hK hP la_X9 0 18 (Nat.le_of_ble_eq_true rfl) fl_X9_130 rfl rfl rfl rfl ?_
  refine g_iload_n C 35 rfl dX9_readOn_34 2 rfl ?_
  refine g_bipush 65 C 37 rfl dX9_readOn_35 kb_65 ?_
  refine g_isub C 38 rfl dX9_readOn_37 ?_
  refine s_iast (cs9 a Δ (p9_other s (upd (x9_other s) ((x9_acts s) : Int32).toNatClampNeg (x2 - 65)))) C 39 rfl dX9_readOn_38 hK hP hD hS 12 rfl hq (sst_98 a Δ s (upd (x9_other s) ((x9_acts s) : Int32).toNatClampNeg (x2 - 65))) (fun hq hi6 H L hP hD hS => ?_)
  refine g_iload_n C 40 rfl dX9_readOn_39 2 rfl ?_
  obtain ⟨r7, hz8, hq⟩ := bindE hq
  refine g_callRS (rest := []) C 43 rfl dX9_readOn_40 (c_X9_isLetter Γ.2.1 Δ  x2  hz8) mv_X9_isLetter (Or.inl ml_X9_133) hK rfl rfl ⟨Nat.le_of_ble_eq_true rfl, Nat.le_of_ble_eq_true rfl⟩ (Nat.le_of_ble_eq_true rfl) ⟨Nat.zero_le _, Nat.zero_le _⟩ ?_
  refine s_if_eq C 53 46 rfl dX9_readOn_43 (by decide) hq (fun hq => ?_) (fun hq => ?_)
  · refine g_bipush (-6) C 55 rfl dX9_readOn_53 kb_m6 ?_
    exact w_int (ws := fun s => cs9 a Δ s) hR hq hP hS dX9_readOn_55 rfl rfl
  refine g_aload_n C 47 rfl dX9_readOn_46 0 rfl ?_
  obtain ⟨r9, hz10, hq⟩ := bindE hq
  refine g_callWV (rest := []) (cs9 a Δ r9.2) C 50 rfl dX9_readOn_47 (c_X9_close Γ.2.1 Δ a  (p9_other s (upd (x9_other s) ((x9_acts s) : Int32).toNatClampNeg (x2 - 65))) hz10) mv_X9_close ml_X9_136 hK hP hD hS hA (scl_101 a Δ (p9_other s (upd (x9_other s) ((x9_acts s) : Int32).toNatClampNeg (x2 - 65))) r9.2) rfl rfl rfl rfl rfl ⟨Nat.le_of_ble_eq_true rfl, Nat.le_of_ble_eq_true rfl⟩ (Nat.le_of_ble_eq_true rfl) ⟨Nat.zero_le _, Nat.zero_le _⟩ (fun H L hP hD hS => ?_)
  refine g_goto C 55 dX9_readOn_50 (by decide) ?_
  exact w_int (ws := fun s => cs9 a Δ s) hR hq hP hS dX9_readOn_55 rfl rfl
set_option maxHeartbeats 400000 in
set_option maxRecDepth 100000 in
theorem c_X9_fault (l : Launch) (Δ : gD) (a : Nat → Nat)  (s : S9) {res : Int32 × S9} (hq : sem_X9_fault  s = some res) : MW l yX9_fault cX9_fault 3 (some .int) Δ (cs9 a Δ s) [.ref (a 0)] 4 89 (some (.int res.1)) (cs9 a Δ res.2) := by
  refine MW.of (by decide) (Nat.le_of_ble_eq_true rfl) ?_
  intro Γ A H hl C hK hP hD hS hA hR
  subst hl
  show g Γ { frames := 4, cells := 0, slots := 0, locals := 89 } 3 H [] 0 0 0 [(0, .ref (a 0))] []
  refine g_aload_n C 1 rfl dX9_fault_0 0 rfl ?_
  refine g_iconst 0 C 2 rfl dX9_fault_1 ki_0 ?_
  refine g_put (fs := fl9 a s) (cs9 a Δ (p9_acts s 0)) C 5 rfl dX9_fault_2 hK hP hD hS la_X9 tyX9_ok nmX9 0 18 (Nat.le_of_ble_eq_true rfl) fl_X9_130 rfl rfl rfl rfl rfl rfl (Nat.le_of_ble_eq_true rfl) (sst_96 a Δ s 0) (fun H L hP hD hS => ?_)
  refine g_iconst 0 C 6 rfl dX9_fault_5 ki_0 ?_
  refine g_istore_n [(1, .int 0), (0, .ref (a 0))] C 7 rfl dX9_fault_6 (Nat.le_of_ble_eq_true rfl) rfl ?_
  refine g_iconst 0 C 8 rfl dX9_fault_7 ki_0 ?_
  refine g_istore_n [(2, .int 0), (1, .int 0), (0, .ref (a 0))] C 9 rfl dX9_fault_8 (Nat.le_of_ble_eq_true rfl) rfl ?_
  have Q9 : ∀ (n : Nat) (x1 : Int32) (x2 : Int32) (s : S9) (o : ((Int32 × S9) ⊕ (Int32 × S9))) (H : Heap) (L : List Loc) (hP : va_P Δ.1 classes (cs9 a Δ s) H) (hD : va_D A (cs9 a Δ s)) (hS : va_S A (sOf Γ).heap H L) (hq : lp_X9_fault_9  n x1 x2 s = some o) (E1 : ∀ r, o = .inl r → gRetW Γ { frames := 4, cells := 0, slots := 0, locals := 89 } 3 cX9_fault (some .int) Δ A (some (.int r.1)) (cs9 a Δ r.2)) (E2 : ∀ x, o = .inr x → ∀ (H : Heap) (L : List Loc), va_P Δ.1 classes (cs9 a Δ x.2) H → va_D A (cs9 a Δ x.2) → va_S A (sOf Γ).heap H L → g Γ { frames := 4, cells := 0, slots := 0, locals := 89 } 3 H L 0 0 41 [(0, .ref (a 0)), (1, .int x.1)] []), g Γ { frames := 4, cells := 0, slots := 0, locals := 89 } 3 H L 0 0 9 [(0, .ref (a 0)), (1, .int x1), (2, .int x2)] [] := by
    intro n
    induction n with
    | zero => intro x1 x2 s o H L hP hD hS hq; exact nomatch (show (none : Option ((Int32 × S9) ⊕ (Int32 × S9))) = some o from hq)
    | succ n ih =>
      intro x1 x2 s o H L hP hD hS hq E1 E2
      have hq : bd_X9_fault_9  (lp_X9_fault_9  n) x1 x2 s = some o := hq
      refine g_iload_n C 10 rfl dX9_fault_9 2 rfl ?_
      refine g_aload_n C 11 rfl dX9_fault_10 0 rfl ?_
      refine g_get (v := .int (x9_padMany s)) (fs := fl9 a s) C 14 rfl dX9_fault_11 hK hP la_X9 0 13 (Nat.le_of_ble_eq_true rfl) fl_X9_123 rfl rfl rfl rfl ?_
      refine s_icmp_ge C 41 17 rfl dX9_fault_14 (by decide) hq (fun hq => ?_) (fun hq => ?_)
      · cases hq
        exact g_sub [0, 1] rfl (E2 _ rfl _ _ hP hD hS)
      refine g_aload_n C 18 rfl dX9_fault_17 0 rfl ?_
      refine g_iload_n C 19 rfl dX9_fault_18 1 rfl ?_
      refine g_aload_n C 20 rfl dX9_fault_19 0 rfl ?_
      refine g_get (v := .ref (a 9)) (fs := fl9 a s) C 23 rfl dX9_fault_20 hK hP la_X9 0 12 (Nat.le_of_ble_eq_true rfl) fl_X9_34 rfl rfl rfl rfl ?_
      refine g_iload_n C 24 rfl dX9_fault_23 2 rfl ?_
      refine s_iald C 25 rfl dX9_fault_24 hK hP 9 rfl hq (fun hq hi1 => ?_)
      obtain ⟨r2, hz3, hq⟩ := bindE hq
      refine g_callWV (rest := []) (cs9 a Δ r2.2) C 28 rfl dX9_fault_25 (c_X9_readOn Γ.2.1 Δ a x1 ((x9_pad s) (x2 : Int32).toNatClampNeg) s hz3) mv_X9_readOn ml_X9_151 hK hP hD hS hA (scl_101 a Δ s r2.2) rfl rfl rfl rfl rfl ⟨Nat.le_of_ble_eq_true rfl, Nat.le_of_ble_eq_true rfl⟩ (Nat.le_of_ble_eq_true rfl) ⟨Nat.zero_le _, Nat.zero_le _⟩ (fun H L hP hD hS => ?_)
      refine g_istore_n [(1, .int r2.1), (0, .ref (a 0)), (2, .int x2)] C 29 rfl dX9_fault_28 (Nat.le_of_ble_eq_true rfl) rfl ?_
      refine g_iload_n C 30 rfl dX9_fault_29 0 rfl ?_
      refine s_if_ge C 35 33 rfl dX9_fault_30 (by decide) hq (fun hq => ?_) (fun hq => ?_)
      · refine g_iinc (x2 + 1) [(2, .int (x2 + 1)), (1, .int r2.1), (0, .ref (a 0))] C 38 rfl dX9_fault_35 2 rfl (ii_1 _) (Nat.le_of_ble_eq_true rfl) rfl ?_
        refine g_goto C 9 dX9_fault_38 (by decide) ?_
        exact g_sub [2, 1, 0] rfl (ih r2.1 (x2 + 1) r2.2 _ _ _ hP hD hS hq E1 E2)
      refine g_iload_n C 34 rfl dX9_fault_33 2 rfl ?_
      cases hq
      exact w_int (ws := fun s => cs9 a Δ s) (E1 _ rfl) rfl hP hS dX9_fault_34 rfl rfl
  obtain ⟨o4, ho5, hq⟩ := bindE hq
  refine g_sub [2, 1, 0] rfl (Q9  FUEL 0 0 (p9_acts s 0) o4 _ _ hP hD hS ho5 (fun r er => ?_) (fun xo4 er => fun H L hP hD hS => ?_))
  · rw [er] at hq
    cases hq
    exact hR
  rw [er] at hq
  clear er
  refine g_iload_n C 42 rfl dX9_fault_41 1 rfl ?_
  refine s_if_ne C 50 45 rfl dX9_fault_42 (by decide) hq (fun hq => ?_) (fun hq => ?_)
  · refine g_aload_n C 51 rfl dX9_fault_50 0 rfl ?_
    refine g_get (v := .int (x9_padMany xo4.2)) (fs := fl9 a xo4.2) C 54 rfl dX9_fault_51 hK hP la_X9 0 13 (Nat.le_of_ble_eq_true rfl) fl_X9_123 rfl rfl rfl rfl ?_
    exact w_int (ws := fun s => cs9 a Δ s) hR hq hP hS dX9_fault_54 rfl rfl
  refine g_bipush (-6) C 47 rfl dX9_fault_45 kb_m6 ?_
  refine g_goto C 54 dX9_fault_47 (by decide) ?_
  exact w_int (ws := fun s => cs9 a Δ s) hR hq hP hS dX9_fault_54 rfl rfl
set_option maxHeartbeats 400000 in
set_option maxRecDepth 100000 in
theorem c_X9_whyNotSell (l : Launch) (Δ : gD) (a : Nat → Nat) (x1 : Int32) (x2 : Int32) (x3 : Int32) (s : S9) {res : Int32} (hq : sem_X9_whyNotSell x1 x2 x3 s = some res) : MR l yX9_whyNotSell cX9_whyNotSell 4 (some .int) Δ (cs9 a Δ s) [.ref (a 0), .int x1, .int x2, .int x3] 2 46 (.int res) := by
  refine MR.of (by decide) (Nat.le_of_ble_eq_true rfl) ?_
  intro Γ H hl C hK hP hR
  subst hl
  show g Γ { frames := 2, cells := 0, slots := 0, locals := 46 } 4 H [] 0 0 0 [(0, .ref (a 0)), (1, .int x1), (2, .int x2), (3, .int x3)] []
  refine g_aload_n C 1 rfl dX9_whyNotSell_0 0 rfl ?_
  refine g_iload_n C 2 rfl dX9_whyNotSell_1 2 rfl ?_
  obtain ⟨r1, hz2, hq⟩ := bindE hq
  refine g_callRV (rest := []) C 5 rfl dX9_whyNotSell_2 (c_X9_isOne Γ.2.1 Δ a x2 s hz2) mv_X9_isOne ml_X9_107 hK hP rfl rfl rfl rfl rfl ⟨Nat.le_of_ble_eq_true rfl, Nat.le_of_ble_eq_true rfl⟩ (Nat.le_of_ble_eq_true rfl) ⟨Nat.zero_le _, Nat.zero_le _⟩ ?_
  refine s_if_ne C 10 8 rfl dX9_whyNotSell_5 (by decide) hq (fun hq => ?_) (fun hq => ?_)
  rotate_left
  · refine g_iconst 1 C 9 rfl dX9_whyNotSell_8 ki_1 ?_
    exact r_int hR hq dX9_whyNotSell_9 rfl rfl
  refine g_iload_n C 11 rfl dX9_whyNotSell_10 1 rfl ?_
  refine g_iload_n C 12 rfl dX9_whyNotSell_11 2 rfl ?_
  refine s_icmp_ne C 17 15 rfl dX9_whyNotSell_12 (by decide) hq (fun hq => ?_) (fun hq => ?_)
  rotate_left
  · refine g_iconst 2 C 16 rfl dX9_whyNotSell_15 ki_2 ?_
    exact r_int hR hq dX9_whyNotSell_16 rfl rfl
  refine g_aload_n C 18 rfl dX9_whyNotSell_17 0 rfl ?_
  refine g_get (v := .ref (a 3)) (fs := fl9 a s) C 21 rfl dX9_whyNotSell_18 hK hP la_X9 0 5 (Nat.le_of_ble_eq_true rfl) fl_X9_16 rfl rfl rfl rfl ?_
  refine g_iload_n C 22 rfl dX9_whyNotSell_21 1 rfl ?_
  refine s_iald C 23 rfl dX9_whyNotSell_22 hK hP 3 rfl hq (fun hq hi3 => ?_)
  refine g_iload_n C 24 rfl dX9_whyNotSell_23 3 rfl ?_
  refine s_icmp_ge C 29 27 rfl dX9_whyNotSell_24 (by decide) hq (fun hq => ?_) (fun hq => ?_)
  rotate_left
  · refine g_iconst 5 C 28 rfl dX9_whyNotSell_27 ki_5 ?_
    exact r_int hR hq dX9_whyNotSell_28 rfl rfl
  refine g_aload_n C 30 rfl dX9_whyNotSell_29 0 rfl ?_
  refine g_get (v := .ref (a 4)) (fs := fl9 a s) C 33 rfl dX9_whyNotSell_30 hK hP la_X9 0 6 (Nat.le_of_ble_eq_true rfl) fl_X9_19 rfl rfl rfl rfl ?_
  refine g_iload_n C 34 rfl dX9_whyNotSell_33 2 rfl ?_
  refine s_iald C 35 rfl dX9_whyNotSell_34 hK hP 4 rfl hq (fun hq hi4 => ?_)
  refine g_iload_n C 36 rfl dX9_whyNotSell_35 3 rfl ?_
  refine s_icmp_lt C 66 39 rfl dX9_whyNotSell_36 (by decide) hq (fun hq => ?_) (fun hq => ?_)
  · refine g_bipush 6 C 68 rfl dX9_whyNotSell_66 kb_6 ?_
    refine g_goto C 72 dX9_whyNotSell_68 (by decide) ?_
    exact r_int hR hq dX9_whyNotSell_72 rfl rfl
  refine g_aload_n C 40 rfl dX9_whyNotSell_39 0 rfl ?_
  refine g_get (v := .ref (a 3)) (fs := fl9 a s) C 43 rfl dX9_whyNotSell_40 hK hP la_X9 0 5 (Nat.le_of_ble_eq_true rfl) fl_X9_16 rfl rfl rfl rfl ?_
  refine g_iload_n C 44 rfl dX9_whyNotSell_43 2 rfl ?_
  refine s_iald C 45 rfl dX9_whyNotSell_44 hK hP 3 rfl hq (fun hq hi5 => ?_)
  refine g_iload_n C 46 rfl dX9_whyNotSell_45 3 rfl ?_
  refine g_iadd C 47 rfl dX9_whyNotSell_46 ?_
  refine g_bipush 99 C 49 rfl dX9_whyNotSell_47 kb_99 ?_
  refine s_icmp_gt C 66 52 rfl dX9_whyNotSell_49 (by decide) hq (fun hq => ?_) (fun hq => ?_)
  · refine g_bipush 6 C 68 rfl dX9_whyNotSell_66 kb_6 ?_
    refine g_goto C 72 dX9_whyNotSell_68 (by decide) ?_
    exact r_int hR hq dX9_whyNotSell_72 rfl rfl
  refine g_aload_n C 53 rfl dX9_whyNotSell_52 0 rfl ?_
  refine g_get (v := .ref (a 4)) (fs := fl9 a s) C 56 rfl dX9_whyNotSell_53 hK hP la_X9 0 6 (Nat.le_of_ble_eq_true rfl) fl_X9_19 rfl rfl rfl rfl ?_
  refine g_iload_n C 57 rfl dX9_whyNotSell_56 1 rfl ?_
  refine s_iald C 58 rfl dX9_whyNotSell_57 hK hP 4 rfl hq (fun hq hi6 => ?_)
  refine g_iload_n C 59 rfl dX9_whyNotSell_58 3 rfl ?_
  refine g_iadd C 60 rfl dX9_whyNotSell_59 ?_
  refine g_sipush 999 C 63 rfl dX9_whyNotSell_60 ks_999 ?_
  refine s_icmp_le C 71 66 rfl dX9_whyNotSell_63 (by decide) hq (fun hq => ?_) (fun hq => ?_)
  · refine g_iconst 0 C 72 rfl dX9_whyNotSell_71 ki_0 ?_
    exact r_int hR hq dX9_whyNotSell_72 rfl rfl
  refine g_bipush 6 C 68 rfl dX9_whyNotSell_66 kb_6 ?_
  refine g_goto C 72 dX9_whyNotSell_68 (by decide) ?_
  exact r_int hR hq dX9_whyNotSell_72 rfl rfl
set_option maxHeartbeats 400000 in
set_option maxRecDepth 100000 in
theorem c_X9_whyNotSwear (l : Launch) (Δ : gD) (a : Nat → Nat) (x1 : Int32) (x2 : Int32) (s : S9) {res : Int32} (hq : sem_X9_whyNotSwear x1 x2 s = some res) : MR l yX9_whyNotSwear cX9_whyNotSwear 3 (some .int) Δ (cs9 a Δ s) [.ref (a 0), .int x1, .int x2] 0 0 (.int res) := by
  refine MR.of (by decide) (Nat.le_of_ble_eq_true rfl) ?_
  intro Γ H hl C hK hP hR
  subst hl
  show g Γ { frames := 0, cells := 0, slots := 0, locals := 0 } 3 H [] 0 0 0 [(0, .ref (a 0)), (1, .int x1), (2, .int x2)] []
  refine g_aload_n C 1 rfl dX9_whyNotSwear_0 0 rfl ?_
  refine g_get (v := .ref (a 1)) (fs := fl9 a s) C 4 rfl dX9_whyNotSwear_1 hK hP la_X9 0 3 (Nat.le_of_ble_eq_true rfl) fl_X9_7 rfl rfl rfl rfl ?_
  refine g_iload_n C 5 rfl dX9_whyNotSwear_4 1 rfl ?_
  refine s_iald C 6 rfl dX9_whyNotSwear_5 hK hP 1 rfl hq (fun hq hi1 => ?_)
  refine g_iload_n C 7 rfl dX9_whyNotSwear_6 2 rfl ?_
  refine s_icmp_ge C 12 10 rfl dX9_whyNotSwear_7 (by decide) hq (fun hq => ?_) (fun hq => ?_)
  rotate_left
  · refine g_iconst 3 C 11 rfl dX9_whyNotSwear_10 ki_3 ?_
    exact r_int hR hq dX9_whyNotSwear_11 rfl rfl
  refine g_aload_n C 13 rfl dX9_whyNotSwear_12 0 rfl ?_
  refine g_get (v := .ref (a 6)) (fs := fl9 a s) C 16 rfl dX9_whyNotSwear_13 hK hP la_X9 0 8 (Nat.le_of_ble_eq_true rfl) fl_X9_25 rfl rfl rfl rfl ?_
  refine g_iload_n C 17 rfl dX9_whyNotSwear_16 1 rfl ?_
  refine s_iald C 18 rfl dX9_whyNotSwear_17 hK hP 6 rfl hq (fun hq hi2 => ?_)
  refine s_if_lt C 39 21 rfl dX9_whyNotSwear_18 (by decide) hq (fun hq => ?_) (fun hq => ?_)
  · refine g_iconst 4 C 40 rfl dX9_whyNotSwear_39 ki_4 ?_
    exact r_int hR hq dX9_whyNotSwear_40 rfl rfl
  refine g_aload_n C 22 rfl dX9_whyNotSwear_21 0 rfl ?_
  refine g_get (v := .ref (a 2)) (fs := fl9 a s) C 25 rfl dX9_whyNotSwear_22 hK hP la_X9 0 4 (Nat.le_of_ble_eq_true rfl) fl_X9_13 rfl rfl rfl rfl ?_
  refine g_iload_n C 26 rfl dX9_whyNotSwear_25 1 rfl ?_
  refine s_iald C 27 rfl dX9_whyNotSwear_26 hK hP 2 rfl hq (fun hq hi3 => ?_)
  refine g_aload_n C 28 rfl dX9_whyNotSwear_27 0 rfl ?_
  refine g_get (v := .ref (a 6)) (fs := fl9 a s) C 31 rfl dX9_whyNotSwear_28 hK hP la_X9 0 8 (Nat.le_of_ble_eq_true rfl) fl_X9_25 rfl rfl rfl rfl ?_
  refine g_iload_n C 32 rfl dX9_whyNotSwear_31 1 rfl ?_
  refine g_iald C 33 rfl dX9_whyNotSwear_32 hK hP 6 rfl hi2 ?_
  refine g_ishr C 34 rfl dX9_whyNotSwear_33 ?_
  refine g_iconst 1 C 35 rfl dX9_whyNotSwear_34 ki_1 ?_
  refine g_iand C 36 rfl dX9_whyNotSwear_35 ?_
  refine s_if_ne C 41 39 rfl dX9_whyNotSwear_36 (by decide) hq (fun hq => ?_) (fun hq => ?_)
  rotate_left
  · refine g_iconst 4 C 40 rfl dX9_whyNotSwear_39 ki_4 ?_
    exact r_int hR hq dX9_whyNotSwear_40 rfl rfl
  refine g_aload_n C 42 rfl dX9_whyNotSwear_41 0 rfl ?_
  refine g_get (v := .ref (a 3)) (fs := fl9 a s) C 45 rfl dX9_whyNotSwear_42 hK hP la_X9 0 5 (Nat.le_of_ble_eq_true rfl) fl_X9_16 rfl rfl rfl rfl ?_
  refine g_iload_n C 46 rfl dX9_whyNotSwear_45 1 rfl ?_
  refine s_iald C 47 rfl dX9_whyNotSwear_46 hK hP 3 rfl hq (fun hq hi4 => ?_)
  refine g_iload_n C 48 rfl dX9_whyNotSwear_47 2 rfl ?_
  refine s_icmp_ge C 55 51 rfl dX9_whyNotSwear_48 (by decide) hq (fun hq => ?_) (fun hq => ?_)
  · refine g_iconst 0 C 56 rfl dX9_whyNotSwear_55 ki_0 ?_
    exact r_int hR hq dX9_whyNotSwear_56 rfl rfl
  refine g_iconst 5 C 52 rfl dX9_whyNotSwear_51 ki_5 ?_
  refine g_goto C 56 dX9_whyNotSwear_52 (by decide) ?_
  exact r_int hR hq dX9_whyNotSwear_56 rfl rfl
set_option maxHeartbeats 400000 in
set_option maxRecDepth 100000 in
theorem c_X9_whyNot (l : Launch) (Δ : gD) (a : Nat → Nat) (x1 : Int32) (x2 : Int32) (x3 : Int32) (x4 : Int32) (s : S9) {res : Int32} (hq : sem_X9_whyNot x1 x2 x3 x4 s = some res) : MR l yX9_whyNot cX9_whyNot 5 (some .int) Δ (cs9 a Δ s) [.ref (a 0), .int x1, .int x2, .int x3, .int x4] 3 69 (.int res) := by
  refine MR.of (by decide) (Nat.le_of_ble_eq_true rfl) ?_
  intro Γ H hl C hK hP hR
  subst hl
  show g Γ { frames := 3, cells := 0, slots := 0, locals := 69 } 5 H [] 0 0 0 [(0, .ref (a 0)), (1, .int x1), (2, .int x2), (3, .int x3), (4, .int x4)] []
  refine g_iload_n C 1 rfl dX9_whyNot_0 1 rfl ?_
  refine g_iconst 4 C 2 rfl dX9_whyNot_1 ki_4 ?_
  refine s_icmp_ne C 7 5 rfl dX9_whyNot_2 (by decide) hq (fun hq => ?_) (fun hq => ?_)
  rotate_left
  · refine g_iconst 0 C 6 rfl dX9_whyNot_5 ki_0 ?_
    exact r_int hR hq dX9_whyNot_6 rfl rfl
  refine g_aload_n C 8 rfl dX9_whyNot_7 0 rfl ?_
  refine g_iload_n C 9 rfl dX9_whyNot_8 2 rfl ?_
  obtain ⟨r1, hz2, hq⟩ := bindE hq
  refine g_callRV (rest := []) C 12 rfl dX9_whyNot_9 (c_X9_isOne Γ.2.1 Δ a x2 s hz2) mv_X9_isOne ml_X9_107 hK hP rfl rfl rfl rfl rfl ⟨Nat.le_of_ble_eq_true rfl, Nat.le_of_ble_eq_true rfl⟩ (Nat.le_of_ble_eq_true rfl) ⟨Nat.zero_le _, Nat.zero_le _⟩ ?_
  refine s_if_ne C 17 15 rfl dX9_whyNot_12 (by decide) hq (fun hq => ?_) (fun hq => ?_)
  rotate_left
  · refine g_iconst 1 C 16 rfl dX9_whyNot_15 ki_1 ?_
    exact r_int hR hq dX9_whyNot_16 rfl rfl
  refine g_iload_n C 18 rfl dX9_whyNot_17 1 rfl ?_
  by_cases hc5 : x1 = 1
  · have hq := if_t hc5 hq
    refine g_tblIn C 44 dX9_whyNot_18 (by rw [hc5]; decide) (by rw [hc5]; decide) (off := 26) (by rw [hc5]; rfl) (by decide) ?_
    refine g_aload_n C 45 rfl dX9_whyNot_44 0 rfl ?_
    refine g_iload_n C 46 rfl dX9_whyNot_45 2 rfl ?_
    refine g_iload C 48 rfl dX9_whyNot_46 4 rfl ?_
    obtain ⟨r3, hz4, hq⟩ := bindE hq
    refine g_callRV (rest := []) C 51 rfl dX9_whyNot_48 (c_X9_whyNotSwear Γ.2.1 Δ a x2 x4 s hz4) mv_X9_whyNotSwear ml_X9_155 hK hP rfl rfl rfl rfl rfl ⟨Nat.le_of_ble_eq_true rfl, Nat.le_of_ble_eq_true rfl⟩ (Nat.le_of_ble_eq_true rfl) ⟨Nat.zero_le _, Nat.zero_le _⟩ ?_
    exact r_int hR hq dX9_whyNot_51 rfl rfl
  replace hq := if_f hc5 hq
  by_cases hc8 : x1 = 2
  · have hq := if_t hc8 hq
    refine g_tblIn C 52 dX9_whyNot_18 (by rw [hc8]; decide) (by rw [hc8]; decide) (off := 34) (by rw [hc8]; rfl) (by decide) ?_
    refine g_aload_n C 53 rfl dX9_whyNot_52 0 rfl ?_
    refine g_iload_n C 54 rfl dX9_whyNot_53 2 rfl ?_
    refine g_iload_n C 55 rfl dX9_whyNot_54 3 rfl ?_
    refine g_iload C 57 rfl dX9_whyNot_55 4 rfl ?_
    obtain ⟨r6, hz7, hq⟩ := bindE hq
    refine g_callRV (rest := []) C 60 rfl dX9_whyNot_57 (c_X9_whyNotSell Γ.2.1 Δ a x2 x3 x4 s hz7) mv_X9_whyNotSell ml_X9_158 hK hP rfl rfl rfl rfl rfl ⟨Nat.le_of_ble_eq_true rfl, Nat.le_of_ble_eq_true rfl⟩ (Nat.le_of_ble_eq_true rfl) ⟨Nat.zero_le _, Nat.zero_le _⟩ ?_
    exact r_int hR hq dX9_whyNot_60 rfl rfl
  replace hq := if_f hc8 hq
  by_cases hc10 : x1 = 3
  · have hq := if_t hc10 hq
    refine g_tblIn C 61 dX9_whyNot_18 (by rw [hc10]; decide) (by rw [hc10]; decide) (off := 43) (by rw [hc10]; rfl) (by decide) ?_
    refine g_aload_n C 62 rfl dX9_whyNot_61 0 rfl ?_
    refine g_get (v := .ref (a 5)) (fs := fl9 a s) C 65 rfl dX9_whyNot_62 hK hP la_X9 0 7 (Nat.le_of_ble_eq_true rfl) fl_X9_22 rfl rfl rfl rfl ?_
    refine g_iload_n C 66 rfl dX9_whyNot_65 2 rfl ?_
    refine s_iald C 67 rfl dX9_whyNot_66 hK hP 5 rfl hq (fun hq hi9 => ?_)
    refine g_iload C 69 rfl dX9_whyNot_67 4 rfl ?_
    refine s_icmp_ne C 76 72 rfl dX9_whyNot_69 (by decide) hq (fun hq => ?_) (fun hq => ?_)
    · refine g_iconst 0 C 77 rfl dX9_whyNot_76 ki_0 ?_
      exact r_int hR hq dX9_whyNot_77 rfl rfl
    refine g_iconst 2 C 73 rfl dX9_whyNot_72 ki_2 ?_
    refine g_goto C 77 dX9_whyNot_73 (by decide) ?_
    exact r_int hR hq dX9_whyNot_77 rfl rfl
  replace hq := if_f hc10 hq
  refine g_tblOut C 78 dX9_whyNot_18 (by have nhc5 := lv_neT (a := 1) hc5 (by decide); have nhc8 := lv_neT (a := 2) hc8 (by decide); have nhc10 := lv_neT (a := 3) hc10 (by decide); omega) (by decide) ?_
  refine g_iconst 0 C 79 rfl dX9_whyNot_78 ki_0 ?_
  exact r_int hR hq dX9_whyNot_79 rfl rfl
set_option maxHeartbeats 400000 in
set_option maxRecDepth 100000 in
theorem c_X9_isNear (l : Launch) (Δ : gD) (a : Nat → Nat) (x1 : Int32) (x2 : Int32) (s : S9) {res : Int32} (hq : sem_X9_isNear x1 x2 s = some res) : MR l yX9_isNear cX9_isNear 4 (some .boolean) Δ (cs9 a Δ s) [.ref (a 0), .int x1, .int x2] 0 0 (.int res) := by
  refine MR.of (by decide) (Nat.le_of_ble_eq_true rfl) ?_
  intro Γ H hl C hK hP hR
  subst hl
  show g Γ { frames := 0, cells := 0, slots := 0, locals := 0 } 4 H [] 0 0 0 [(0, .ref (a 0)), (1, .int x1), (2, .int x2)] []
  refine g_aload_n C 1 rfl dX9_isNear_0 0 rfl ?_
  refine g_get (v := .ref (a 5)) (fs := fl9 a s) C 4 rfl dX9_isNear_1 hK hP la_X9 0 7 (Nat.le_of_ble_eq_true rfl) fl_X9_22 rfl rfl rfl rfl ?_
  refine g_iload_n C 5 rfl dX9_isNear_4 1 rfl ?_
  refine s_iald C 6 rfl dX9_isNear_5 hK hP 5 rfl hq (fun hq hi1 => ?_)
  refine g_aload_n C 7 rfl dX9_isNear_6 0 rfl ?_
  refine g_get (v := .ref (a 5)) (fs := fl9 a s) C 10 rfl dX9_isNear_7 hK hP la_X9 0 7 (Nat.le_of_ble_eq_true rfl) fl_X9_22 rfl rfl rfl rfl ?_
  refine g_iload_n C 11 rfl dX9_isNear_10 2 rfl ?_
  refine s_iald C 12 rfl dX9_isNear_11 hK hP 5 rfl hq (fun hq hi2 => ?_)
  refine g_isub C 13 rfl dX9_isNear_12 ?_
  refine g_istore_n [(3, .int (((x9_yard s) (x1 : Int32).toNatClampNeg) - ((x9_yard s) (x2 : Int32).toNatClampNeg))), (0, .ref (a 0)), (1, .int x1), (2, .int x2)] C 14 rfl dX9_isNear_13 (Nat.le_of_ble_eq_true rfl) rfl ?_
  refine g_iload_n C 15 rfl dX9_isNear_14 0 rfl ?_
  refine g_aload_n C 16 rfl dX9_isNear_15 1 rfl ?_
  refine g_get (v := .int (x9_ears s)) (fs := fl9 a s) C 19 rfl dX9_isNear_16 hK hP la_X9 0 2 (Nat.le_of_ble_eq_true rfl) fl_X9_85 rfl rfl rfl rfl ?_
  refine s_icmp_gt C 35 22 rfl dX9_isNear_19 (by decide) hq (fun hq => ?_) (fun hq => ?_)
  · refine g_iconst 0 C 36 rfl dX9_isNear_35 ki_0 ?_
    exact r_int hR hq dX9_isNear_36 rfl rfl
  refine g_iload_n C 23 rfl dX9_isNear_22 0 rfl ?_
  refine g_ineg C 24 rfl dX9_isNear_23 ?_
  refine g_aload_n C 25 rfl dX9_isNear_24 1 rfl ?_
  refine g_get (v := .int (x9_ears s)) (fs := fl9 a s) C 28 rfl dX9_isNear_25 hK hP la_X9 0 2 (Nat.le_of_ble_eq_true rfl) fl_X9_85 rfl rfl rfl rfl ?_
  refine s_icmp_gt C 35 31 rfl dX9_isNear_28 (by decide) hq (fun hq => ?_) (fun hq => ?_)
  · refine g_iconst 0 C 36 rfl dX9_isNear_35 ki_0 ?_
    exact r_int hR hq dX9_isNear_36 rfl rfl
  refine g_iconst 1 C 32 rfl dX9_isNear_31 ki_1 ?_
  refine g_goto C 36 dX9_isNear_32 (by decide) ?_
  exact r_int hR hq dX9_isNear_36 rfl rfl
set_option maxHeartbeats 400000 in
set_option maxRecDepth 100000 in
theorem c_X9_heardBy (l : Launch) (Δ : gD) (a : Nat → Nat) (x1 : Int32) (s : S9) {res : Int32} (hq : sem_X9_heardBy x1 s = some res) : MR l yX9_heardBy cX9_heardBy 4 (some .int) Δ (cs9 a Δ s) [.ref (a 0), .int x1] 2 46 (.int res) := by
  refine MR.of (by decide) (Nat.le_of_ble_eq_true rfl) ?_
  intro Γ H hl C hK hP hR
  subst hl
  show g Γ { frames := 2, cells := 0, slots := 0, locals := 46 } 4 H [] 0 0 0 [(0, .ref (a 0)), (1, .int x1)] []
  refine g_iconst 0 C 1 rfl dX9_heardBy_0 ki_0 ?_
  refine g_istore_n [(2, .int 0), (0, .ref (a 0)), (1, .int x1)] C 2 rfl dX9_heardBy_1 (Nat.le_of_ble_eq_true rfl) rfl ?_
  refine g_iconst 0 C 3 rfl dX9_heardBy_2 ki_0 ?_
  refine g_istore_n [(3, .int 0), (2, .int 0), (0, .ref (a 0)), (1, .int x1)] C 4 rfl dX9_heardBy_3 (Nat.le_of_ble_eq_true rfl) rfl ?_
  have Q4 : ∀ (x1 : Int32), ∀ (n : Nat) (x2 : Int32) (x3 : Int32) (o : (Int32)) (hq : lp_X9_heardBy_4 x1 s n x2 x3 = some o) (E2 : g Γ { frames := 2, cells := 0, slots := 0, locals := 46 } 4 H [] 0 0 48 [(2, .int o)] []), g Γ { frames := 2, cells := 0, slots := 0, locals := 46 } 4 H [] 0 0 4 [(0, .ref (a 0)), (1, .int x1), (2, .int x2), (3, .int x3)] [] := by
    intro x1
    intro n
    induction n with
    | zero => intro x2 x3 o hq; exact nomatch (show (none : Option (Int32)) = some o from hq)
    | succ n ih =>
      intro x2 x3 o hq E2
      have hq : bd_X9_heardBy_4 x1 s (lp_X9_heardBy_4 x1 s n) x2 x3 = some o := hq
      refine g_iload_n C 5 rfl dX9_heardBy_4 3 rfl ?_
      refine g_bipush 6 C 7 rfl dX9_heardBy_5 kb_6 ?_
      refine s_icmp_ge C 48 10 rfl dX9_heardBy_7 (by decide) hq (fun hq => ?_) (fun hq => ?_)
      · cases hq
        exact g_sub [2] rfl (E2 )
      refine g_iload_n C 11 rfl dX9_heardBy_10 2 rfl ?_
      refine g_aload_n C 12 rfl dX9_heardBy_11 0 rfl ?_
      refine g_iload_n C 13 rfl dX9_heardBy_12 3 rfl ?_
      obtain ⟨r1, hz2, hq⟩ := bindE hq
      refine g_callRV (rest := [.int x2]) C 16 rfl dX9_heardBy_13 (c_X9_isOne Γ.2.1 Δ a x3 s hz2) mv_X9_isOne ml_X9_107 hK hP rfl rfl rfl rfl rfl ⟨Nat.le_of_ble_eq_true rfl, Nat.le_of_ble_eq_true rfl⟩ (Nat.le_of_ble_eq_true rfl) ⟨Nat.zero_le _, Nat.zero_le _⟩ ?_
      refine s_if_eq C 39 19 rfl dX9_heardBy_16 (by decide) hq (fun hq => ?_) (fun hq => ?_)
      · refine g_iconst 0 C 40 rfl dX9_heardBy_39 ki_0 ?_
        refine g_ior C 41 rfl dX9_heardBy_40 ?_
        refine g_istore_n [(2, .int (x2 ||| 0)), (0, .ref (a 0)), (1, .int x1), (3, .int x3)] C 42 rfl dX9_heardBy_41 (Nat.le_of_ble_eq_true rfl) rfl ?_
        refine g_iinc (x3 + 1) [(3, .int (x3 + 1)), (2, .int (x2 ||| 0)), (0, .ref (a 0)), (1, .int x1)] C 45 rfl dX9_heardBy_42 3 rfl (ii_1 _) (Nat.le_of_ble_eq_true rfl) rfl ?_
        refine g_goto C 4 dX9_heardBy_45 (by decide) ?_
        exact g_sub [2, 3, 1, 0] rfl (ih (x2 ||| 0) (x3 + 1) _ hq E2)
      refine g_iload_n C 20 rfl dX9_heardBy_19 3 rfl ?_
      refine g_iload_n C 21 rfl dX9_heardBy_20 1 rfl ?_
      refine s_icmp_eq C 39 24 rfl dX9_heardBy_21 (by decide) hq (fun hq => ?_) (fun hq => ?_)
      · refine g_iconst 0 C 40 rfl dX9_heardBy_39 ki_0 ?_
        refine g_ior C 41 rfl dX9_heardBy_40 ?_
        refine g_istore_n [(2, .int (x2 ||| 0)), (0, .ref (a 0)), (1, .int x1), (3, .int x3)] C 42 rfl dX9_heardBy_41 (Nat.le_of_ble_eq_true rfl) rfl ?_
        refine g_iinc (x3 + 1) [(3, .int (x3 + 1)), (2, .int (x2 ||| 0)), (0, .ref (a 0)), (1, .int x1)] C 45 rfl dX9_heardBy_42 3 rfl (ii_1 _) (Nat.le_of_ble_eq_true rfl) rfl ?_
        refine g_goto C 4 dX9_heardBy_45 (by decide) ?_
        exact g_sub [2, 3, 1, 0] rfl (ih (x2 ||| 0) (x3 + 1) _ hq E2)
      refine g_aload_n C 25 rfl dX9_heardBy_24 0 rfl ?_
      refine g_iload_n C 26 rfl dX9_heardBy_25 3 rfl ?_
      refine g_iload_n C 27 rfl dX9_heardBy_26 1 rfl ?_
      obtain ⟨r3, hz4, hq⟩ := bindE hq
      refine g_callRV (rest := [.int x2]) C 30 rfl dX9_heardBy_27 (c_X9_isNear Γ.2.1 Δ a x3 x1 s hz4) mv_X9_isNear ml_X9_162 hK hP rfl rfl rfl rfl rfl ⟨Nat.le_of_ble_eq_true rfl, Nat.le_of_ble_eq_true rfl⟩ (Nat.le_of_ble_eq_true rfl) ⟨Nat.zero_le _, Nat.zero_le _⟩ ?_
      refine s_if_eq C 39 33 rfl dX9_heardBy_30 (by decide) hq (fun hq => ?_) (fun hq => ?_)
      · refine g_iconst 0 C 40 rfl dX9_heardBy_39 ki_0 ?_
        refine g_ior C 41 rfl dX9_heardBy_40 ?_
        refine g_istore_n [(2, .int (x2 ||| 0)), (0, .ref (a 0)), (1, .int x1), (3, .int x3)] C 42 rfl dX9_heardBy_41 (Nat.le_of_ble_eq_true rfl) rfl ?_
        refine g_iinc (x3 + 1) [(3, .int (x3 + 1)), (2, .int (x2 ||| 0)), (0, .ref (a 0)), (1, .int x1)] C 45 rfl dX9_heardBy_42 3 rfl (ii_1 _) (Nat.le_of_ble_eq_true rfl) rfl ?_
        refine g_goto C 4 dX9_heardBy_45 (by decide) ?_
        exact g_sub [2, 3, 1, 0] rfl (ih (x2 ||| 0) (x3 + 1) _ hq E2)
      refine g_iconst 1 C 34 rfl dX9_heardBy_33 ki_1 ?_
      refine g_iload_n C 35 rfl dX9_heardBy_34 3 rfl ?_
      refine g_ishl C 36 rfl dX9_heardBy_35 ?_
      refine g_goto C 40 dX9_heardBy_36 (by decide) ?_
      refine g_ior C 41 rfl dX9_heardBy_40 ?_
      refine g_istore_n [(2, .int (x2 ||| ((1 : Int32) <<< (x3 &&& 31)))), (0, .ref (a 0)), (1, .int x1), (3, .int x3)] C 42 rfl dX9_heardBy_41 (Nat.le_of_ble_eq_true rfl) rfl ?_
      refine g_iinc (x3 + 1) [(3, .int (x3 + 1)), (2, .int (x2 ||| ((1 : Int32) <<< (x3 &&& 31)))), (0, .ref (a 0)), (1, .int x1)] C 45 rfl dX9_heardBy_42 3 rfl (ii_1 _) (Nat.le_of_ble_eq_true rfl) rfl ?_
      refine g_goto C 4 dX9_heardBy_45 (by decide) ?_
      exact g_sub [2, 3, 1, 0] rfl (ih (x2 ||| ((1 : Int32) <<< (x3 &&& 31))) (x3 + 1) _ hq E2)
  obtain ⟨o5, ho6, hq⟩ := bindE hq
  refine g_sub [2, 3, 1, 0] rfl (Q4 x1 FUEL 0 0 o5 ho6 (?_))
  refine g_iload_n C 49 rfl dX9_heardBy_48 0 rfl ?_
  exact r_int hR hq dX9_heardBy_49 rfl rfl
