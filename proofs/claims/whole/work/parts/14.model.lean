set_option maxHeartbeats 4000000 in
set_option maxRecDepth 100000 in
theorem c_X9_in (l : Launch) (Δ : gD)  (x0 : Int64) (x2 : Int64) (x4 : Int64)  {res : Int32} (hq : sem_X9_in x0 x2 x4  = some res) : MR l yX9_in cX9_in 6 (some .boolean) Δ ([]) [.long x0, .long x2, .long x4] 0 0 (.int res) := by
  refine MR.of (by decide) (Nat.le_of_ble_eq_true rfl) ?_
  intro Γ H hl C hK hP hR
  subst hl
  show g Γ { frames := 0, cells := 0, slots := 0, locals := 0 } 6 H [] 0 0 0 [(0, .long x0), (2, .long x2), (4, .long x4)] []
  refine g_lload_n C 1 rfl dX9_in_0 0 rfl ?_
  refine g_lload_n C 2 rfl dX9_in_1 1 rfl ?_
  refine g_lcmp C 3 rfl dX9_in_2 ?_
  refine s_if_lt C 17 6 rfl dX9_in_3 (by decide) hq (fun hq => ?_) (fun hq => ?_)
  · refine g_iconst 0 C 18 rfl dX9_in_17 ki_0 ?_
    exact r_int hR hq dX9_in_18 rfl rfl
  refine g_lload_n C 7 rfl dX9_in_6 0 rfl ?_
  refine g_lload C 9 rfl dX9_in_7 2 rfl ?_
  refine g_lcmp C 10 rfl dX9_in_9 ?_
  refine s_if_gt C 17 13 rfl dX9_in_10 (by decide) hq (fun hq => ?_) (fun hq => ?_)
  · refine g_iconst 0 C 18 rfl dX9_in_17 ki_0 ?_
    exact r_int hR hq dX9_in_18 rfl rfl
  refine g_iconst 1 C 14 rfl dX9_in_13 ki_1 ?_
  refine g_goto C 18 dX9_in_14 (by decide) ?_
  exact r_int hR hq dX9_in_18 rfl rfl
set_option maxHeartbeats 4000000 in
set_option maxRecDepth 100000 in
theorem c_X9_ones (l : Launch) (Δ : gD)  (x0 : Int32)  {res : Int32} (hq : sem_X9_ones x0  = some res) : MR l yX9_ones cX9_ones 3 (some .int) Δ ([]) [.int x0] 0 0 (.int res) := by
  refine MR.of (by decide) (Nat.le_of_ble_eq_true rfl) ?_
  intro Γ H hl C hK hP hR
  subst hl
  show g Γ { frames := 0, cells := 0, slots := 0, locals := 0 } 3 H [] 0 0 0 [(0, .int x0)] []
  refine g_iconst 0 C 1 rfl dX9_ones_0 ki_0 ?_
  refine g_istore_n [(1, .int 0), (0, .int x0)] C 2 rfl dX9_ones_1 (Nat.le_of_ble_eq_true rfl) rfl ?_
  refine g_iload_n C 3 rfl dX9_ones_2 1 rfl ?_
  refine g_istore_n [(2, .int x0), (1, .int 0), (0, .int x0)] C 4 rfl dX9_ones_3 (Nat.le_of_ble_eq_true rfl) rfl ?_
  have Q4 : ∀ (n : Nat) (x1 : Int32) (x2 : Int32) (o : (Int32)) (hq : lp_X9_ones_4  n x1 x2 = some o) (E2 : g Γ { frames := 0, cells := 0, slots := 0, locals := 0 } 3 H [] 0 0 20 [(1, .int o)] []), g Γ { frames := 0, cells := 0, slots := 0, locals := 0 } 3 H [] 0 0 4 [(1, .int x1), (2, .int x2)] [] := by
    intro n
    induction n with
    | zero => intro x1 x2 o hq; exact nomatch (show (none : Option (Int32)) = some o from hq)
    | succ n ih =>
      intro x1 x2 o hq E2
      have hq : bd_X9_ones_4  (lp_X9_ones_4  n) x1 x2 = some o := hq
      refine g_iload_n C 5 rfl dX9_ones_4 1 rfl ?_
      refine s_if_eq C 20 8 rfl dX9_ones_5 (by decide) hq (fun hq => ?_) (fun hq => ?_)
      · cases hq
        exact g_sub [0] rfl (E2 )
      refine g_iinc (x1 + 1) [(1, .int (x1 + 1)), (2, .int x2)] C 11 rfl dX9_ones_8 0 rfl (ii_1 _) (Nat.le_of_ble_eq_true rfl) rfl ?_
      refine g_iload_n C 12 rfl dX9_ones_11 1 rfl ?_
      refine g_iload_n C 13 rfl dX9_ones_12 1 rfl ?_
      refine g_iconst 1 C 14 rfl dX9_ones_13 ki_1 ?_
      refine g_isub C 15 rfl dX9_ones_14 ?_
      refine g_iand C 16 rfl dX9_ones_15 ?_
      refine g_istore_n [(2, .int (x2 &&& (x2 - 1))), (1, .int (x1 + 1))] C 17 rfl dX9_ones_16 (Nat.le_of_ble_eq_true rfl) rfl ?_
      refine g_goto C 4 dX9_ones_17 (by decide) ?_
      exact g_sub [1, 0] rfl (ih (x1 + 1) (x2 &&& (x2 - 1)) _ hq E2)
  obtain ⟨o1, ho2, hq⟩ := bindE hq
  refine g_sub [1, 0] rfl (Q4  FUEL 0 x0 o1 ho2 (?_))
  refine g_iload_n C 21 rfl dX9_ones_20 0 rfl ?_
  exact r_int hR hq dX9_ones_21 rfl rfl
set_option maxHeartbeats 4000000 in
set_option maxRecDepth 100000 in
theorem c_X9_isOne (l : Launch) (Δ : gD) (a : Nat → Nat) (x1 : Int32) (s : S9) {res : Int32} (hq : sem_X9_isOne x1 s = some res) : MR l yX9_isOne cX9_isOne 2 (some .boolean) Δ (cs9 a Δ s) [.ref (a 0), .int x1] 1 25 (.int res) := by
  refine MR.of (by decide) (Nat.le_of_ble_eq_true rfl) ?_
  intro Γ H hl C hK hP hR
  subst hl
  show g Γ { frames := 1, cells := 0, slots := 0, locals := 25 } 2 H [] 0 0 0 [(0, .ref (a 0)), (1, .int x1)] []
  refine g_iload_n C 1 rfl dX9_isOne_0 1 rfl ?_
  refine g_i2l C 2 rfl dX9_isOne_1 ?_
  refine g_lconst 0 C 3 rfl dX9_isOne_2 kl_0 ?_
  refine g_ldc2 5 C 6 rfl dX9_isOne_3 k_X9_88 ?_
  obtain ⟨r1, hz2, hq⟩ := bindE hq
  refine g_callRS (rest := []) C 9 rfl dX9_isOne_6 (c_X9_in Γ.2.1 Δ  (Int32.toInt64 x1) 0 5  hz2) mv_X9_in (Or.inl ml_X9_90) hK rfl rfl ⟨Nat.le_of_ble_eq_true rfl, Nat.le_of_ble_eq_true rfl⟩ (Nat.le_of_ble_eq_true rfl) ⟨Nat.zero_le _, Nat.zero_le _⟩ ?_
  refine s_if_eq C 28 12 rfl dX9_isOne_9 (by decide) hq (fun hq => ?_) (fun hq => ?_)
  · refine g_iconst 0 C 29 rfl dX9_isOne_28 ki_0 ?_
    exact r_int hR hq dX9_isOne_29 rfl rfl
  refine g_aload_n C 13 rfl dX9_isOne_12 0 rfl ?_
  refine g_get (v := .int (x9_there s)) C 16 rfl dX9_isOne_13 hK hP la_X9 0 0 (Nat.le_of_ble_eq_true rfl) fl_X9_94 rfl rfl rfl rfl ?_
  refine g_iload_n C 17 rfl dX9_isOne_16 1 rfl ?_
  refine g_ishr C 18 rfl dX9_isOne_17 ?_
  refine g_iconst 1 C 19 rfl dX9_isOne_18 ki_1 ?_
  refine g_iand C 20 rfl dX9_isOne_19 ?_
  refine g_iconst 1 C 21 rfl dX9_isOne_20 ki_1 ?_
  refine s_icmp_ne C 28 24 rfl dX9_isOne_21 (by decide) hq (fun hq => ?_) (fun hq => ?_)
  · refine g_iconst 0 C 29 rfl dX9_isOne_28 ki_0 ?_
    exact r_int hR hq dX9_isOne_29 rfl rfl
  refine g_iconst 1 C 25 rfl dX9_isOne_24 ki_1 ?_
  refine g_goto C 29 dX9_isOne_25 (by decide) ?_
  exact r_int hR hq dX9_isOne_29 rfl rfl
set_option maxHeartbeats 4000000 in
set_option maxRecDepth 100000 in
theorem c_X9_one (l : Launch) (Δ : gD) (a : Nat → Nat) (x1 : Int32) (x2 : Int32) (x3 : Int32) (x4 : Int32) (x5 : Int32) (s : S9) {res : Int32 × S9} (hq : sem_X9_one x1 x2 x3 x4 x5 s = some res) : MW l yX9_one cX9_one 6 (some .int) Δ (cs9 a Δ s) [.ref (a 0), .int x1, .int x2, .int x3, .int x4, .int x5] 1 25 (some (.int res.1)) (cs9 a Δ res.2) := by
  refine MW.of (by decide) (Nat.le_of_ble_eq_true rfl) ?_
  intro Γ A H hl C hK hP hD hS hA hR
  subst hl
  show g Γ { frames := 1, cells := 0, slots := 0, locals := 25 } 6 H [] 0 0 0 [(0, .ref (a 0)), (1, .int x1), (2, .int x2), (3, .int x3), (4, .int x4), (5, .int x5)] []
  refine g_iload_n C 1 rfl dX9_one_0 1 rfl ?_
  refine g_i2l C 2 rfl dX9_one_1 ?_
  refine g_lconst 0 C 3 rfl dX9_one_2 kl_0 ?_
  refine g_ldc2 5 C 6 rfl dX9_one_3 k_X9_88 ?_
  obtain ⟨r1, hz2, hq⟩ := bindE hq
  refine g_callRS (rest := []) C 9 rfl dX9_one_6 (c_X9_in Γ.2.1 Δ  (Int32.toInt64 x1) 0 5  hz2) mv_X9_in (Or.inl ml_X9_90) hK rfl rfl ⟨Nat.le_of_ble_eq_true rfl, Nat.le_of_ble_eq_true rfl⟩ (Nat.le_of_ble_eq_true rfl) ⟨Nat.zero_le _, Nat.zero_le _⟩ ?_
  refine s_if_ne C 14 12 rfl dX9_one_9 (by decide) hq (fun hq => ?_) (fun hq => ?_)
  rotate_left
  · refine g_iconst (-1) C 13 rfl dX9_one_12 ki_m1 ?_
    exact w_int (ws := fun s => cs9 a Δ s) hR hq hP hS dX9_one_13 rfl rfl
  refine g_iload_n C 15 rfl dX9_one_14 2 rfl ?_
  refine g_i2l C 16 rfl dX9_one_15 ?_
  refine g_lconst 0 C 17 rfl dX9_one_16 kl_0 ?_
  refine g_aload_n C 18 rfl dX9_one_17 0 rfl ?_
  refine g_get (v := .int (x9_limit s)) C 21 rfl dX9_one_18 hK hP la_X9 0 1 (Nat.le_of_ble_eq_true rfl) fl_X9_81 rfl rfl rfl rfl ?_
  refine g_i2l C 22 rfl dX9_one_21 ?_
  obtain ⟨r3, hz4, hq⟩ := bindE hq
  refine g_callRS (rest := []) C 25 rfl dX9_one_22 (c_X9_in Γ.2.1 Δ  (Int32.toInt64 x2) 0 (Int32.toInt64 (x9_limit s))  hz4) mv_X9_in (Or.inl ml_X9_90) hK rfl rfl ⟨Nat.le_of_ble_eq_true rfl, Nat.le_of_ble_eq_true rfl⟩ (Nat.le_of_ble_eq_true rfl) ⟨Nat.zero_le _, Nat.zero_le _⟩ ?_
  refine s_if_eq C 66 28 rfl dX9_one_25 (by decide) hq (fun hq => ?_) (fun hq => ?_)
  · refine g_bipush (-2) C 68 rfl dX9_one_66 kb_m2 ?_
    exact w_int (ws := fun s => cs9 a Δ s) hR hq hP hS dX9_one_68 rfl rfl
  refine g_iload_n C 29 rfl dX9_one_28 3 rfl ?_
  refine g_i2l C 30 rfl dX9_one_29 ?_
  refine g_lconst 0 C 31 rfl dX9_one_30 kl_0 ?_
  refine g_ldc2 99 C 34 rfl dX9_one_31 k_X9_97 ?_
  obtain ⟨r5, hz6, hq⟩ := bindE hq
  refine g_callRS (rest := []) C 37 rfl dX9_one_34 (c_X9_in Γ.2.1 Δ  (Int32.toInt64 x3) 0 99  hz6) mv_X9_in (Or.inl ml_X9_90) hK rfl rfl ⟨Nat.le_of_ble_eq_true rfl, Nat.le_of_ble_eq_true rfl⟩ (Nat.le_of_ble_eq_true rfl) ⟨Nat.zero_le _, Nat.zero_le _⟩ ?_
  refine s_if_eq C 66 40 rfl dX9_one_37 (by decide) hq (fun hq => ?_) (fun hq => ?_)
  · refine g_bipush (-2) C 68 rfl dX9_one_66 kb_m2 ?_
    exact w_int (ws := fun s => cs9 a Δ s) hR hq hP hS dX9_one_68 rfl rfl
  refine g_iload C 42 rfl dX9_one_40 4 rfl ?_
  refine g_i2l C 43 rfl dX9_one_42 ?_
  refine g_lconst 0 C 44 rfl dX9_one_43 kl_0 ?_
  refine g_ldc2 999 C 47 rfl dX9_one_44 k_X9_99 ?_
  obtain ⟨r7, hz8, hq⟩ := bindE hq
  refine g_callRS (rest := []) C 50 rfl dX9_one_47 (c_X9_in Γ.2.1 Δ  (Int32.toInt64 x4) 0 999  hz8) mv_X9_in (Or.inl ml_X9_90) hK rfl rfl ⟨Nat.le_of_ble_eq_true rfl, Nat.le_of_ble_eq_true rfl⟩ (Nat.le_of_ble_eq_true rfl) ⟨Nat.zero_le _, Nat.zero_le _⟩ ?_
  refine s_if_eq C 66 53 rfl dX9_one_50 (by decide) hq (fun hq => ?_) (fun hq => ?_)
  · refine g_bipush (-2) C 68 rfl dX9_one_66 kb_m2 ?_
    exact w_int (ws := fun s => cs9 a Δ s) hR hq hP hS dX9_one_68 rfl rfl
  refine g_iload C 55 rfl dX9_one_53 5 rfl ?_
  refine g_i2l C 56 rfl dX9_one_55 ?_
  refine g_lconst 0 C 57 rfl dX9_one_56 kl_0 ?_
  refine g_ldc2 9 C 60 rfl dX9_one_57 k_X9_101 ?_
  obtain ⟨r9, hz10, hq⟩ := bindE hq
  refine g_callRS (rest := []) C 63 rfl dX9_one_60 (c_X9_in Γ.2.1 Δ  (Int32.toInt64 x5) 0 9  hz10) mv_X9_in (Or.inl ml_X9_90) hK rfl rfl ⟨Nat.le_of_ble_eq_true rfl, Nat.le_of_ble_eq_true rfl⟩ (Nat.le_of_ble_eq_true rfl) ⟨Nat.zero_le _, Nat.zero_le _⟩ ?_
  refine s_if_ne C 69 66 rfl dX9_one_63 (by decide) hq (fun hq => ?_) (fun hq => ?_)
  rotate_left
  · refine g_bipush (-2) C 68 rfl dX9_one_66 kb_m2 ?_
    exact w_int (ws := fun s => cs9 a Δ s) hR hq hP hS dX9_one_68 rfl rfl
  refine g_aload_n C 70 rfl dX9_one_69 0 rfl ?_
  refine g_dup C 71 rfl dX9_one_70 rfl ?_
  refine g_get (v := .int (x9_there s)) C 74 rfl dX9_one_71 hK hP la_X9 0 0 (Nat.le_of_ble_eq_true rfl) fl_X9_94 rfl rfl rfl rfl ?_
  refine g_iconst 1 C 75 rfl dX9_one_74 ki_1 ?_
  refine g_iload_n C 76 rfl dX9_one_75 1 rfl ?_
  refine g_ishl C 77 rfl dX9_one_76 ?_
  refine g_ior C 78 rfl dX9_one_77 ?_
  refine g_put (cs9 a Δ (p9_there s ((x9_there s) ||| ((1 : Int32) <<< (x1 &&& 31))))) C 81 rfl dX9_one_78 hK hP hD hS la_X9 tyX9_ok nmX9 0 0 (Nat.le_of_ble_eq_true rfl) fl_X9_94 rfl rfl rfl rfl rfl rfl (Nat.le_of_ble_eq_true rfl) rfl (fun H L hP hD hS => ?_)
  refine g_aload_n C 82 rfl dX9_one_81 0 rfl ?_
  refine g_get (v := .ref (a 1)) C 85 rfl dX9_one_82 hK hP la_X9 0 3 (Nat.le_of_ble_eq_true rfl) fl_X9_7 rfl rfl rfl rfl ?_
  refine g_iload_n C 86 rfl dX9_one_85 1 rfl ?_
  refine g_iload_n C 87 rfl dX9_one_86 2 rfl ?_
  refine s_iast (cs9 a Δ (p9_temper (p9_there s ((x9_there s) ||| ((1 : Int32) <<< (x1 &&& 31)))) (upd (x9_temper s) (x1 : Int32).toNatClampNeg x2))) C 88 rfl dX9_one_87 hK hP hD hS 1 rfl hq rfl (fun hq hi11 H L hP hD hS => ?_)
  refine g_aload_n C 89 rfl dX9_one_88 0 rfl ?_
  refine g_get (v := .ref (a 2)) C 92 rfl dX9_one_89 hK hP la_X9 0 4 (Nat.le_of_ble_eq_true rfl) fl_X9_13 rfl rfl rfl rfl ?_
  refine g_iload_n C 93 rfl dX9_one_92 1 rfl ?_
  refine g_iconst 0 C 94 rfl dX9_one_93 ki_0 ?_
  refine s_iast (cs9 a Δ (p9_permits (p9_temper (p9_there s ((x9_there s) ||| ((1 : Int32) <<< (x1 &&& 31)))) (upd (x9_temper s) (x1 : Int32).toNatClampNeg x2)) (upd (x9_permits s) (x1 : Int32).toNatClampNeg 0))) C 95 rfl dX9_one_94 hK hP hD hS 2 rfl hq rfl (fun hq hi12 H L hP hD hS => ?_)
  refine g_aload_n C 96 rfl dX9_one_95 0 rfl ?_
  refine g_get (v := .ref (a 3)) C 99 rfl dX9_one_96 hK hP la_X9 0 5 (Nat.le_of_ble_eq_true rfl) fl_X9_16 rfl rfl rfl rfl ?_
  refine g_iload_n C 100 rfl dX9_one_99 1 rfl ?_
  refine g_iload_n C 101 rfl dX9_one_100 3 rfl ?_
  refine s_iast (cs9 a Δ (p9_stamps (p9_permits (p9_temper (p9_there s ((x9_there s) ||| ((1 : Int32) <<< (x1 &&& 31)))) (upd (x9_temper s) (x1 : Int32).toNatClampNeg x2)) (upd (x9_permits s) (x1 : Int32).toNatClampNeg 0)) (upd (x9_stamps s) (x1 : Int32).toNatClampNeg x3))) C 102 rfl dX9_one_101 hK hP hD hS 3 rfl hq rfl (fun hq hi13 H L hP hD hS => ?_)
  refine g_aload_n C 103 rfl dX9_one_102 0 rfl ?_
  refine g_get (v := .ref (a 4)) C 106 rfl dX9_one_103 hK hP la_X9 0 6 (Nat.le_of_ble_eq_true rfl) fl_X9_19 rfl rfl rfl rfl ?_
  refine g_iload_n C 107 rfl dX9_one_106 1 rfl ?_
  refine g_iload C 109 rfl dX9_one_107 4 rfl ?_
  refine s_iast (cs9 a Δ (p9_purse (p9_stamps (p9_permits (p9_temper (p9_there s ((x9_there s) ||| ((1 : Int32) <<< (x1 &&& 31)))) (upd (x9_temper s) (x1 : Int32).toNatClampNeg x2)) (upd (x9_permits s) (x1 : Int32).toNatClampNeg 0)) (upd (x9_stamps s) (x1 : Int32).toNatClampNeg x3)) (upd (x9_purse s) (x1 : Int32).toNatClampNeg x4))) C 110 rfl dX9_one_109 hK hP hD hS 4 rfl hq rfl (fun hq hi14 H L hP hD hS => ?_)
  refine g_aload_n C 111 rfl dX9_one_110 0 rfl ?_
  refine g_get (v := .ref (a 5)) C 114 rfl dX9_one_111 hK hP la_X9 0 7 (Nat.le_of_ble_eq_true rfl) fl_X9_22 rfl rfl rfl rfl ?_
  refine g_iload_n C 115 rfl dX9_one_114 1 rfl ?_
  refine g_iload C 117 rfl dX9_one_115 5 rfl ?_
  refine s_iast (cs9 a Δ (p9_yard (p9_purse (p9_stamps (p9_permits (p9_temper (p9_there s ((x9_there s) ||| ((1 : Int32) <<< (x1 &&& 31)))) (upd (x9_temper s) (x1 : Int32).toNatClampNeg x2)) (upd (x9_permits s) (x1 : Int32).toNatClampNeg 0)) (upd (x9_stamps s) (x1 : Int32).toNatClampNeg x3)) (upd (x9_purse s) (x1 : Int32).toNatClampNeg x4)) (upd (x9_yard s) (x1 : Int32).toNatClampNeg x5))) C 118 rfl dX9_one_117 hK hP hD hS 5 rfl hq rfl (fun hq hi15 H L hP hD hS => ?_)
  refine g_aload_n C 119 rfl dX9_one_118 0 rfl ?_
  refine g_get (v := .ref (a 6)) C 122 rfl dX9_one_119 hK hP la_X9 0 8 (Nat.le_of_ble_eq_true rfl) fl_X9_25 rfl rfl rfl rfl ?_
  refine g_iload_n C 123 rfl dX9_one_122 1 rfl ?_
  refine g_bipush (-6) C 125 rfl dX9_one_123 kb_m6 ?_
  refine s_iast (cs9 a Δ (p9_cause (p9_yard (p9_purse (p9_stamps (p9_permits (p9_temper (p9_there s ((x9_there s) ||| ((1 : Int32) <<< (x1 &&& 31)))) (upd (x9_temper s) (x1 : Int32).toNatClampNeg x2)) (upd (x9_permits s) (x1 : Int32).toNatClampNeg 0)) (upd (x9_stamps s) (x1 : Int32).toNatClampNeg x3)) (upd (x9_purse s) (x1 : Int32).toNatClampNeg x4)) (upd (x9_yard s) (x1 : Int32).toNatClampNeg x5)) (upd (x9_cause s) (x1 : Int32).toNatClampNeg (-6)))) C 126 rfl dX9_one_125 hK hP hD hS 6 rfl hq rfl (fun hq hi16 H L hP hD hS => ?_)
  refine g_aload_n C 127 rfl dX9_one_126 0 rfl ?_
  refine g_get (v := .int ((x9_there s) ||| ((1 : Int32) <<< (x1 &&& 31)))) C 130 rfl dX9_one_127 hK hP la_X9 0 0 (Nat.le_of_ble_eq_true rfl) fl_X9_94 rfl rfl rfl rfl ?_
  obtain ⟨r17, hz18, hq⟩ := bindE hq
  refine g_callRS (rest := []) C 133 rfl dX9_one_130 (c_X9_ones Γ.2.1 Δ  ((x9_there s) ||| ((1 : Int32) <<< (x1 &&& 31)))  hz18) mv_X9_ones (Or.inl ml_X9_103) hK rfl rfl ⟨Nat.le_of_ble_eq_true rfl, Nat.le_of_ble_eq_true rfl⟩ (Nat.le_of_ble_eq_true rfl) ⟨Nat.zero_le _, Nat.zero_le _⟩ ?_
  exact w_int (ws := fun s => cs9 a Δ s) hR hq hP hS dX9_one_133 rfl rfl
set_option maxHeartbeats 4000000 in
set_option maxRecDepth 100000 in
theorem c_X9_leave (l : Launch) (Δ : gD) (a : Nat → Nat) (x1 : Int32) (s : S9) {res : Int32 × S9} (hq : sem_X9_leave x1 s = some res) : MW l yX9_leave cX9_leave 2 (some .int) Δ (cs9 a Δ s) [.ref (a 0), .int x1] 2 46 (some (.int res.1)) (cs9 a Δ res.2) := by
  refine MW.of (by decide) (Nat.le_of_ble_eq_true rfl) ?_
  intro Γ A H hl C hK hP hD hS hA hR
  subst hl
  show g Γ { frames := 2, cells := 0, slots := 0, locals := 46 } 2 H [] 0 0 0 [(0, .ref (a 0)), (1, .int x1)] []
  refine g_aload_n C 1 rfl dX9_leave_0 0 rfl ?_
  refine g_iload_n C 2 rfl dX9_leave_1 1 rfl ?_
  obtain ⟨r1, hz2, hq⟩ := bindE hq
  refine g_callRV (rest := []) C 5 rfl dX9_leave_2 (c_X9_isOne Γ.2.1 Δ a x1 s hz2) mv_X9_isOne ml_X9_107 hK hP rfl rfl rfl rfl rfl ⟨Nat.le_of_ble_eq_true rfl, Nat.le_of_ble_eq_true rfl⟩ (Nat.le_of_ble_eq_true rfl) ⟨Nat.zero_le _, Nat.zero_le _⟩ ?_
  refine s_if_ne C 10 8 rfl dX9_leave_5 (by decide) hq (fun hq => ?_) (fun hq => ?_)
  rotate_left
  · refine g_iconst (-1) C 9 rfl dX9_leave_8 ki_m1 ?_
    exact w_int (ws := fun s => cs9 a Δ s) hR hq hP hS dX9_leave_9 rfl rfl
  refine g_aload_n C 11 rfl dX9_leave_10 0 rfl ?_
  refine g_dup C 12 rfl dX9_leave_11 rfl ?_
  refine g_get (v := .int (x9_there s)) C 15 rfl dX9_leave_12 hK hP la_X9 0 0 (Nat.le_of_ble_eq_true rfl) fl_X9_94 rfl rfl rfl rfl ?_
  refine g_iconst 1 C 16 rfl dX9_leave_15 ki_1 ?_
  refine g_iload_n C 17 rfl dX9_leave_16 1 rfl ?_
  refine g_ishl C 18 rfl dX9_leave_17 ?_
  refine g_iconst (-1) C 19 rfl dX9_leave_18 ki_m1 ?_
  refine g_ixor C 20 rfl dX9_leave_19 ?_
  refine g_iand C 21 rfl dX9_leave_20 ?_
  refine g_put (cs9 a Δ (p9_there s ((x9_there s) &&& (((1 : Int32) <<< (x1 &&& 31)) ^^^ (-1))))) C 24 rfl dX9_leave_21 hK hP hD hS la_X9 tyX9_ok nmX9 0 0 (Nat.le_of_ble_eq_true rfl) fl_X9_94 rfl rfl rfl rfl rfl rfl (Nat.le_of_ble_eq_true rfl) rfl (fun H L hP hD hS => ?_)
  refine g_aload_n C 25 rfl dX9_leave_24 0 rfl ?_
  refine g_get (v := .int ((x9_there s) &&& (((1 : Int32) <<< (x1 &&& 31)) ^^^ (-1)))) C 28 rfl dX9_leave_25 hK hP la_X9 0 0 (Nat.le_of_ble_eq_true rfl) fl_X9_94 rfl rfl rfl rfl ?_
  obtain ⟨r3, hz4, hq⟩ := bindE hq
  refine g_callRS (rest := []) C 31 rfl dX9_leave_28 (c_X9_ones Γ.2.1 Δ  ((x9_there s) &&& (((1 : Int32) <<< (x1 &&& 31)) ^^^ (-1)))  hz4) mv_X9_ones (Or.inl ml_X9_103) hK rfl rfl ⟨Nat.le_of_ble_eq_true rfl, Nat.le_of_ble_eq_true rfl⟩ (Nat.le_of_ble_eq_true rfl) ⟨Nat.zero_le _, Nat.zero_le _⟩ ?_
  exact w_int (ws := fun s => cs9 a Δ s) hR hq hP hS dX9_leave_31 rfl rfl
set_option maxHeartbeats 4000000 in
set_option maxRecDepth 100000 in
theorem c_X9_permit (l : Launch) (Δ : gD) (a : Nat → Nat) (x1 : Int32) (x2 : Int32) (s : S9) {res : Int32 × S9} (hq : sem_X9_permit x1 x2 s = some res) : MW l yX9_permit cX9_permit 4 (some .int) Δ (cs9 a Δ s) [.ref (a 0), .int x1, .int x2] 2 46 (some (.int res.1)) (cs9 a Δ res.2) := by
  refine MW.of (by decide) (Nat.le_of_ble_eq_true rfl) ?_
  intro Γ A H hl C hK hP hD hS hA hR
  subst hl
  show g Γ { frames := 2, cells := 0, slots := 0, locals := 46 } 4 H [] 0 0 0 [(0, .ref (a 0)), (1, .int x1), (2, .int x2)] []
  refine g_aload_n C 1 rfl dX9_permit_0 0 rfl ?_
  refine g_iload_n C 2 rfl dX9_permit_1 1 rfl ?_
  obtain ⟨r1, hz2, hq⟩ := bindE hq
  refine g_callRV (rest := []) C 5 rfl dX9_permit_2 (c_X9_isOne Γ.2.1 Δ a x1 s hz2) mv_X9_isOne ml_X9_107 hK hP rfl rfl rfl rfl rfl ⟨Nat.le_of_ble_eq_true rfl, Nat.le_of_ble_eq_true rfl⟩ (Nat.le_of_ble_eq_true rfl) ⟨Nat.zero_le _, Nat.zero_le _⟩ ?_
  refine s_if_ne C 10 8 rfl dX9_permit_5 (by decide) hq (fun hq => ?_) (fun hq => ?_)
  rotate_left
  · refine g_iconst (-1) C 9 rfl dX9_permit_8 ki_m1 ?_
    exact w_int (ws := fun s => cs9 a Δ s) hR hq hP hS dX9_permit_9 rfl rfl
  refine g_iload_n C 11 rfl dX9_permit_10 2 rfl ?_
  refine g_i2l C 12 rfl dX9_permit_11 ?_
  refine g_lconst 0 C 13 rfl dX9_permit_12 kl_0 ?_
  refine g_ldc2 15 C 16 rfl dX9_permit_13 k_X9_111 ?_
  obtain ⟨r3, hz4, hq⟩ := bindE hq
  refine g_callRS (rest := []) C 19 rfl dX9_permit_16 (c_X9_in Γ.2.1 Δ  (Int32.toInt64 x2) 0 15  hz4) mv_X9_in (Or.inl ml_X9_90) hK rfl rfl ⟨Nat.le_of_ble_eq_true rfl, Nat.le_of_ble_eq_true rfl⟩ (Nat.le_of_ble_eq_true rfl) ⟨Nat.zero_le _, Nat.zero_le _⟩ ?_
  refine s_if_ne C 25 22 rfl dX9_permit_19 (by decide) hq (fun hq => ?_) (fun hq => ?_)
  rotate_left
  · refine g_bipush (-2) C 24 rfl dX9_permit_22 kb_m2 ?_
    exact w_int (ws := fun s => cs9 a Δ s) hR hq hP hS dX9_permit_24 rfl rfl
  refine g_aload_n C 26 rfl dX9_permit_25 0 rfl ?_
  refine g_get (v := .ref (a 2)) C 29 rfl dX9_permit_26 hK hP la_X9 0 4 (Nat.le_of_ble_eq_true rfl) fl_X9_13 rfl rfl rfl rfl ?_
  refine g_iload_n C 30 rfl dX9_permit_29 1 rfl ?_
  refine s_iald C 31 rfl dX9_permit_30 hK hP 2 rfl hq (fun hq hi5 => ?_)
  refine g_istore_n [(3, .int ((x9_permits s) (x1 : Int32).toNatClampNeg)), (0, .ref (a 0)), (1, .int x1), (2, .int x2)] C 32 rfl dX9_permit_31 (Nat.le_of_ble_eq_true rfl) rfl ?_
  refine g_aload_n C 33 rfl dX9_permit_32 1 rfl ?_
  refine g_get (v := .ref (a 2)) C 36 rfl dX9_permit_33 hK hP la_X9 0 4 (Nat.le_of_ble_eq_true rfl) fl_X9_13 rfl rfl rfl rfl ?_
  refine g_iload_n C 37 rfl dX9_permit_36 2 rfl ?_
  refine g_iload_n C 38 rfl dX9_permit_37 3 rfl ?_
  refine g_iast (cs9 a Δ (p9_permits s (upd (x9_permits s) (x1 : Int32).toNatClampNeg x2))) C 39 rfl dX9_permit_38 hK hP hD hS 2 rfl hi5 rfl (fun H L hP hD hS => ?_)
  refine g_iload_n C 40 rfl dX9_permit_39 0 rfl ?_
  exact w_int (ws := fun s => cs9 a Δ s) hR hq hP hS dX9_permit_40 rfl rfl
set_option maxHeartbeats 4000000 in
set_option maxRecDepth 100000 in
theorem c_X9_highest (l : Launch) (Δ : gD) (a : Nat → Nat)  (s : S9) {res : Int32} (hq : sem_X9_highest  s = some res) : MR l yX9_highest cX9_highest 3 (some .int) Δ (cs9 a Δ s) [.ref (a 0)] 2 46 (.int res) := by
  refine MR.of (by decide) (Nat.le_of_ble_eq_true rfl) ?_
  intro Γ H hl C hK hP hR
  subst hl
  show g Γ { frames := 2, cells := 0, slots := 0, locals := 46 } 3 H [] 0 0 0 [(0, .ref (a 0))] []
  refine g_iconst 0 C 1 rfl dX9_highest_0 ki_0 ?_
  refine g_istore_n [(1, .int 0), (0, .ref (a 0))] C 2 rfl dX9_highest_1 (Nat.le_of_ble_eq_true rfl) rfl ?_
  refine g_iconst 0 C 3 rfl dX9_highest_2 ki_0 ?_
  refine g_istore_n [(2, .int 0), (1, .int 0), (0, .ref (a 0))] C 4 rfl dX9_highest_3 (Nat.le_of_ble_eq_true rfl) rfl ?_
  have Q4 : ∀ (n : Nat) (x1 : Int32) (x2 : Int32) (o : (Int32)) (hq : lp_X9_highest_4 s n x1 x2 = some o) (E2 : g Γ { frames := 2, cells := 0, slots := 0, locals := 46 } 3 H [] 0 0 45 [(1, .int o)] []), g Γ { frames := 2, cells := 0, slots := 0, locals := 46 } 3 H [] 0 0 4 [(0, .ref (a 0)), (1, .int x1), (2, .int x2)] [] := by
    intro n
    induction n with
    | zero => intro x1 x2 o hq; exact nomatch (show (none : Option (Int32)) = some o from hq)
    | succ n ih =>
      intro x1 x2 o hq E2
      have hq : bd_X9_highest_4 s (lp_X9_highest_4 s n) x1 x2 = some o := hq
      refine g_iload_n C 5 rfl dX9_highest_4 2 rfl ?_
      refine g_bipush 6 C 7 rfl dX9_highest_5 kb_6 ?_
      refine s_icmp_ge C 45 10 rfl dX9_highest_7 (by decide) hq (fun hq => ?_) (fun hq => ?_)
      · cases hq
        exact g_sub [1] rfl (E2 )
      refine g_aload_n C 11 rfl dX9_highest_10 0 rfl ?_
      refine g_iload_n C 12 rfl dX9_highest_11 2 rfl ?_
      obtain ⟨r1, hz2, hq⟩ := bindE hq
      refine g_callRV (rest := []) C 15 rfl dX9_highest_12 (c_X9_isOne Γ.2.1 Δ a x2 s hz2) mv_X9_isOne ml_X9_107 hK hP rfl rfl rfl rfl rfl ⟨Nat.le_of_ble_eq_true rfl, Nat.le_of_ble_eq_true rfl⟩ (Nat.le_of_ble_eq_true rfl) ⟨Nat.zero_le _, Nat.zero_le _⟩ ?_
      refine s_if_eq C 37 18 rfl dX9_highest_15 (by decide) hq (fun hq => ?_) (fun hq => ?_)
      · refine g_iload_n C 38 rfl dX9_highest_37 1 rfl ?_
        refine g_istore_n [(1, .int x1), (0, .ref (a 0)), (2, .int x2)] C 39 rfl dX9_highest_38 (Nat.le_of_ble_eq_true rfl) rfl ?_
        refine g_iinc (x2 + 1) [(2, .int (x2 + 1)), (1, .int x1), (0, .ref (a 0))] C 42 rfl dX9_highest_39 2 rfl (ii_1 _) (Nat.le_of_ble_eq_true rfl) rfl ?_
        refine g_goto C 4 dX9_highest_42 (by decide) ?_
        exact g_sub [2, 1, 0] rfl (ih x1 (x2 + 1) _ hq E2)
      refine g_aload_n C 19 rfl dX9_highest_18 0 rfl ?_
      refine g_get (v := .ref (a 1)) C 22 rfl dX9_highest_19 hK hP la_X9 0 3 (Nat.le_of_ble_eq_true rfl) fl_X9_7 rfl rfl rfl rfl ?_
      refine g_iload_n C 23 rfl dX9_highest_22 2 rfl ?_
      refine s_iald C 24 rfl dX9_highest_23 hK hP 1 rfl hq (fun hq hi3 => ?_)
      refine g_iload_n C 25 rfl dX9_highest_24 1 rfl ?_
      refine s_icmp_le C 37 28 rfl dX9_highest_25 (by decide) hq (fun hq => ?_) (fun hq => ?_)
      · refine g_iload_n C 38 rfl dX9_highest_37 1 rfl ?_
        refine g_istore_n [(1, .int x1), (0, .ref (a 0)), (2, .int x2)] C 39 rfl dX9_highest_38 (Nat.le_of_ble_eq_true rfl) rfl ?_
        refine g_iinc (x2 + 1) [(2, .int (x2 + 1)), (1, .int x1), (0, .ref (a 0))] C 42 rfl dX9_highest_39 2 rfl (ii_1 _) (Nat.le_of_ble_eq_true rfl) rfl ?_
        refine g_goto C 4 dX9_highest_42 (by decide) ?_
        exact g_sub [2, 1, 0] rfl (ih x1 (x2 + 1) _ hq E2)
      refine g_aload_n C 29 rfl dX9_highest_28 0 rfl ?_
      refine g_get (v := .ref (a 1)) C 32 rfl dX9_highest_29 hK hP la_X9 0 3 (Nat.le_of_ble_eq_true rfl) fl_X9_7 rfl rfl rfl rfl ?_
      refine g_iload_n C 33 rfl dX9_highest_32 2 rfl ?_
      refine g_iald C 34 rfl dX9_highest_33 hK hP 1 rfl hi3 ?_
      refine g_goto C 38 dX9_highest_34 (by decide) ?_
      refine g_istore_n [(1, .int ((x9_temper s) (x2 : Int32).toNatClampNeg)), (0, .ref (a 0)), (2, .int x2)] C 39 rfl dX9_highest_38 (Nat.le_of_ble_eq_true rfl) rfl ?_
      refine g_iinc (x2 + 1) [(2, .int (x2 + 1)), (1, .int ((x9_temper s) (x2 : Int32).toNatClampNeg)), (0, .ref (a 0))] C 42 rfl dX9_highest_39 2 rfl (ii_1 _) (Nat.le_of_ble_eq_true rfl) rfl ?_
      refine g_goto C 4 dX9_highest_42 (by decide) ?_
      exact g_sub [2, 1, 0] rfl (ih ((x9_temper s) (x2 : Int32).toNatClampNeg) (x2 + 1) _ hq E2)
  obtain ⟨o4, ho5, hq⟩ := bindE hq
  refine g_sub [2, 1, 0] rfl (Q4  FUEL 0 0 o4 ho5 (?_))
  refine g_iload_n C 46 rfl dX9_highest_45 0 rfl ?_
  exact r_int hR hq dX9_highest_46 rfl rfl
set_option maxHeartbeats 4000000 in
set_option maxRecDepth 100000 in
theorem c_X9_set (l : Launch) (Δ : gD) (a : Nat → Nat) (x1 : Int32) (x2 : Int32) (s : S9) {res : Int32 × S9} (hq : sem_X9_set x1 x2 s = some res) : MW l yX9_set cX9_set 4 (some .int) Δ (cs9 a Δ s) [.ref (a 0), .int x1, .int x2] 3 68 (some (.int res.1)) (cs9 a Δ res.2) := by
  refine MW.of (by decide) (Nat.le_of_ble_eq_true rfl) ?_
  intro Γ A H hl C hK hP hD hS hA hR
  subst hl
  have K87 : ∀ (x1 : Int32) (x2 : Int32) (x3 : Int32) (y1 : Int32) (s : S9) (H : Heap) (L : List Loc) (hP : va_P Δ.1 classes (cs9 a Δ s) H) (hD : va_D A (cs9 a Δ s)) (hS : va_S A (sOf Γ).heap H L), jn_X9_set_87 x1 x2 x3 y1 s = some res → g Γ { frames := 3, cells := 0, slots := 0, locals := 68 } 4 H L 0 0 87 [(0, .ref (a 0)), (1, .int x1), (2, .int x2), (3, .int x3)] [.int y1, .ref (a 0)] := by
    intro x1 x2 x3 y1 s H L hP hD hS hq
    refine g_put (cs9 a Δ (p9_limit s y1)) C 90 rfl dX9_set_87 hK hP hD hS la_X9 tyX9_ok nmX9 0 1 (Nat.le_of_ble_eq_true rfl) fl_X9_81 rfl rfl rfl rfl rfl rfl (Nat.le_of_ble_eq_true rfl) rfl (fun H L hP hD hS => ?_)
    refine g_aload_n C 91 rfl dX9_set_90 0 rfl ?_
    refine g_iload_n C 92 rfl dX9_set_91 1 rfl ?_
    refine g_iconst 1 C 93 rfl dX9_set_92 ki_1 ?_
    refine s_icmp_ne C 100 96 rfl dX9_set_93 (by decide) hq (fun hq => ?_) (fun hq => ?_)
    · refine g_aload_n C 101 rfl dX9_set_100 0 rfl ?_
      refine g_get (v := .int (x9_ears s)) C 104 rfl dX9_set_101 hK hP la_X9 0 2 (Nat.le_of_ble_eq_true rfl) fl_X9_85 rfl rfl rfl rfl ?_
      refine g_put (cs9 a Δ (p9_ears (p9_limit s y1) (x9_ears s))) C 107 rfl dX9_set_104 hK hP hD hS la_X9 tyX9_ok nmX9 0 2 (Nat.le_of_ble_eq_true rfl) fl_X9_85 rfl rfl rfl rfl rfl rfl (Nat.le_of_ble_eq_true rfl) rfl (fun H L hP hD hS => ?_)
      refine g_iload_n C 108 rfl dX9_set_107 3 rfl ?_
      exact w_int (ws := fun s => cs9 a Δ s) hR hq hP hS dX9_set_108 rfl rfl
    refine g_iload_n C 97 rfl dX9_set_96 2 rfl ?_
    refine g_goto C 104 dX9_set_97 (by decide) ?_
    refine g_put (cs9 a Δ (p9_ears (p9_limit s y1) x2)) C 107 rfl dX9_set_104 hK hP hD hS la_X9 tyX9_ok nmX9 0 2 (Nat.le_of_ble_eq_true rfl) fl_X9_85 rfl rfl rfl rfl rfl rfl (Nat.le_of_ble_eq_true rfl) rfl (fun H L hP hD hS => ?_)
    refine g_iload_n C 108 rfl dX9_set_107 3 rfl ?_
    exact w_int (ws := fun s => cs9 a Δ s) hR hq hP hS dX9_set_108 rfl rfl
  have K73 : ∀ (x1 : Int32) (x2 : Int32) (y0 : Int32) (s : S9) (H : Heap) (L : List Loc) (hP : va_P Δ.1 classes (cs9 a Δ s) H) (hD : va_D A (cs9 a Δ s)) (hS : va_S A (sOf Γ).heap H L), jn_X9_set_73 x1 x2 y0 s = some res → g Γ { frames := 3, cells := 0, slots := 0, locals := 68 } 4 H L 0 0 73 [(0, .ref (a 0)), (1, .int x1), (2, .int x2)] [.int y0] := by
    intro x1 x2 y0 s H L hP hD hS hq
    refine g_istore_n [(3, .int y0), (0, .ref (a 0)), (1, .int x1), (2, .int x2)] C 74 rfl dX9_set_73 (Nat.le_of_ble_eq_true rfl) rfl ?_
    refine g_aload_n C 75 rfl dX9_set_74 1 rfl ?_
    refine g_iload_n C 76 rfl dX9_set_75 2 rfl ?_
    refine s_if_ne C 83 79 rfl dX9_set_76 (by decide) hq (fun hq => ?_) (fun hq => ?_)
    · refine g_aload_n C 84 rfl dX9_set_83 1 rfl ?_
      refine g_get (v := .int (x9_limit s)) C 87 rfl dX9_set_84 hK hP la_X9 0 1 (Nat.le_of_ble_eq_true rfl) fl_X9_81 rfl rfl rfl rfl ?_
      exact g_sub [1, 2, 3, 0] rfl (K87 x1 x2 y0 (x9_limit s) s _ _ hP hD hS hq)
    refine g_iload_n C 80 rfl dX9_set_79 3 rfl ?_
    refine g_goto C 87 dX9_set_80 (by decide) ?_
    exact g_sub [1, 2, 3, 0] rfl (K87 x1 x2 y0 x2 s _ _ hP hD hS hq)
  have K58 : ∀ (x1 : Int32) (x2 : Int32) (s : S9) (H : Heap) (L : List Loc) (hP : va_P Δ.1 classes (cs9 a Δ s) H) (hD : va_D A (cs9 a Δ s)) (hS : va_S A (sOf Γ).heap H L), jn_X9_set_58 x1 x2 s = some res → g Γ { frames := 3, cells := 0, slots := 0, locals := 68 } 4 H L 0 0 58 [(0, .ref (a 0)), (1, .int x1), (2, .int x2)] [] := by
    intro x1 x2 s H L hP hD hS hq
    refine g_iload_n C 59 rfl dX9_set_58 1 rfl ?_
    refine s_if_ne C 69 62 rfl dX9_set_59 (by decide) hq (fun hq => ?_) (fun hq => ?_)
    · refine g_aload_n C 70 rfl dX9_set_69 0 rfl ?_
      refine g_get (v := .int (x9_ears s)) C 73 rfl dX9_set_70 hK hP la_X9 0 2 (Nat.le_of_ble_eq_true rfl) fl_X9_85 rfl rfl rfl rfl ?_
      exact g_sub [0, 1, 2] rfl (K73 x1 x2 (x9_ears s) s _ _ hP hD hS hq)
    refine g_aload_n C 63 rfl dX9_set_62 0 rfl ?_
    refine g_get (v := .int (x9_limit s)) C 66 rfl dX9_set_63 hK hP la_X9 0 1 (Nat.le_of_ble_eq_true rfl) fl_X9_81 rfl rfl rfl rfl ?_
    refine g_goto C 73 dX9_set_66 (by decide) ?_
    exact g_sub [0, 1, 2] rfl (K73 x1 x2 (x9_limit s) s _ _ hP hD hS hq)
  have K34 : ∀ (x1 : Int32) (x2 : Int32) (y0 : Int64) (y1 : Int64) (y2 : Int64) (s : S9) (H : Heap) (L : List Loc) (hP : va_P Δ.1 classes (cs9 a Δ s) H) (hD : va_D A (cs9 a Δ s)) (hS : va_S A (sOf Γ).heap H L), jn_X9_set_34 x1 x2 y0 y1 y2 s = some res → g Γ { frames := 3, cells := 0, slots := 0, locals := 68 } 4 H L 0 0 34 [(0, .ref (a 0)), (1, .int x1), (2, .int x2)] [.long y2, .long y1, .long y0] := by
    intro x1 x2 y0 y1 y2 s H L hP hD hS hq
    obtain ⟨r1, hz2, hq⟩ := bindE hq
    refine g_callRS (rest := []) C 37 rfl dX9_set_34 (c_X9_in Γ.2.1 Δ  y0 y1 y2  hz2) mv_X9_in (Or.inl ml_X9_90) hK rfl rfl ⟨Nat.le_of_ble_eq_true rfl, Nat.le_of_ble_eq_true rfl⟩ (Nat.le_of_ble_eq_true rfl) ⟨Nat.zero_le _, Nat.zero_le _⟩ ?_
    refine s_if_ne C 43 40 rfl dX9_set_37 (by decide) hq (fun hq => ?_) (fun hq => ?_)
    rotate_left
    · refine g_bipush (-2) C 42 rfl dX9_set_40 kb_m2 ?_
      exact w_int (ws := fun s => cs9 a Δ s) hR hq hP hS dX9_set_42 rfl rfl
    refine g_iload_n C 44 rfl dX9_set_43 1 rfl ?_
    refine s_if_ne C 58 47 rfl dX9_set_44 (by decide) hq (fun hq => ?_) (fun hq => ?_)
    · exact g_sub [0, 1, 2] rfl (K58 x1 x2 s _ _ hP hD hS hq)
    refine g_aload_n C 48 rfl dX9_set_47 0 rfl ?_
    obtain ⟨r3, hz4, hq⟩ := bindE hq
    refine g_callRV (rest := []) C 51 rfl dX9_set_48 (c_X9_highest Γ.2.1 Δ a  s hz4) mv_X9_highest ml_X9_115 hK hP rfl rfl rfl rfl rfl ⟨Nat.le_of_ble_eq_true rfl, Nat.le_of_ble_eq_true rfl⟩ (Nat.le_of_ble_eq_true rfl) ⟨Nat.zero_le _, Nat.zero_le _⟩ ?_
    refine g_iload_n C 52 rfl dX9_set_51 2 rfl ?_
    refine s_icmp_le C 58 55 rfl dX9_set_52 (by decide) hq (fun hq => ?_) (fun hq => ?_)
    · exact g_sub [0, 1, 2] rfl (K58 x1 x2 s _ _ hP hD hS hq)
    refine g_bipush (-3) C 57 rfl dX9_set_55 kb_m3 ?_
    exact w_int (ws := fun s => cs9 a Δ s) hR hq hP hS dX9_set_57 rfl rfl
  have K21 : ∀ (x1 : Int32) (x2 : Int32) (y0 : Int64) (y1 : Int64) (s : S9) (H : Heap) (L : List Loc) (hP : va_P Δ.1 classes (cs9 a Δ s) H) (hD : va_D A (cs9 a Δ s)) (hS : va_S A (sOf Γ).heap H L), jn_X9_set_21 x1 x2 y0 y1 s = some res → g Γ { frames := 3, cells := 0, slots := 0, locals := 68 } 4 H L 0 0 21 [(0, .ref (a 0)), (1, .int x1), (2, .int x2)] [.long y1, .long y0] := by
    intro x1 x2 y0 y1 s H L hP hD hS hq
    refine g_iload_n C 22 rfl dX9_set_21 1 rfl ?_
    refine s_if_ne C 31 25 rfl dX9_set_22 (by decide) hq (fun hq => ?_) (fun hq => ?_)
    · refine g_ldc2 9 C 34 rfl dX9_set_31 k_X9_101 ?_
      exact g_sub [0, 1, 2] rfl (K34 x1 x2 y0 y1 9 s _ _ hP hD hS hq)
    refine g_ldc2 20 C 28 rfl dX9_set_25 k_X9_113 ?_
    refine g_goto C 34 dX9_set_28 (by decide) ?_
    exact g_sub [0, 1, 2] rfl (K34 x1 x2 y0 y1 20 s _ _ hP hD hS hq)
  show g Γ { frames := 3, cells := 0, slots := 0, locals := 68 } 4 H [] 0 0 0 [(0, .ref (a 0)), (1, .int x1), (2, .int x2)] []
  refine g_iload_n C 1 rfl dX9_set_0 1 rfl ?_
  refine g_i2l C 2 rfl dX9_set_1 ?_
  refine g_lconst 0 C 3 rfl dX9_set_2 kl_0 ?_
  refine g_lconst 1 C 4 rfl dX9_set_3 kl_1 ?_
  obtain ⟨r5, hz6, hq⟩ := bindE hq
  refine g_callRS (rest := []) C 7 rfl dX9_set_4 (c_X9_in Γ.2.1 Δ  (Int32.toInt64 x1) 0 1  hz6) mv_X9_in (Or.inl ml_X9_90) hK rfl rfl ⟨Nat.le_of_ble_eq_true rfl, Nat.le_of_ble_eq_true rfl⟩ (Nat.le_of_ble_eq_true rfl) ⟨Nat.zero_le _, Nat.zero_le _⟩ ?_
  refine s_if_eq C 40 10 rfl dX9_set_7 (by decide) hq (fun hq => ?_) (fun hq => ?_)
  · refine g_bipush (-2) C 42 rfl dX9_set_40 kb_m2 ?_
    exact w_int (ws := fun s => cs9 a Δ s) hR hq hP hS dX9_set_42 rfl rfl
  refine g_iload_n C 11 rfl dX9_set_10 2 rfl ?_
  refine g_i2l C 12 rfl dX9_set_11 ?_
  refine g_iload_n C 13 rfl dX9_set_12 1 rfl ?_
  refine s_if_ne C 20 16 rfl dX9_set_13 (by decide) hq (fun hq => ?_) (fun hq => ?_)
  · refine g_lconst 0 C 21 rfl dX9_set_20 kl_0 ?_
    exact g_sub [0, 1, 2] rfl (K21 x1 x2 (Int32.toInt64 x2) 0 s _ _ hP hD hS hq)
  refine g_lconst 1 C 17 rfl dX9_set_16 kl_1 ?_
  refine g_goto C 21 dX9_set_17 (by decide) ?_
  exact g_sub [0, 1, 2] rfl (K21 x1 x2 (Int32.toInt64 x2) 1 s _ _ hP hD hS hq)
set_option maxHeartbeats 4000000 in
set_option maxRecDepth 100000 in
theorem c_X9_say (l : Launch) (Δ : gD) (a : Nat → Nat) (x1 : Int32) (s : S9) {res : Int32 × S9} (hq : sem_X9_say x1 s = some res) : MW l yX9_say cX9_say 2 (some .int) Δ (cs9 a Δ s) [.ref (a 0), .int x1] 1 25 (some (.int res.1)) (cs9 a Δ res.2) := by
  refine MW.of (by decide) (Nat.le_of_ble_eq_true rfl) ?_
  intro Γ A H hl C hK hP hD hS hA hR
  subst hl
  show g Γ { frames := 1, cells := 0, slots := 0, locals := 25 } 2 H [] 0 0 0 [(0, .ref (a 0)), (1, .int x1)] []
  refine g_iload_n C 1 rfl dX9_say_0 1 rfl ?_
  refine g_i2l C 2 rfl dX9_say_1 ?_
  refine g_ldc2 33 C 5 rfl dX9_say_2 k_X9_119 ?_
  refine g_ldc2 126 C 8 rfl dX9_say_5 k_X9_121 ?_
  obtain ⟨r1, hz2, hq⟩ := bindE hq
  refine g_callRS (rest := []) C 11 rfl dX9_say_8 (c_X9_in Γ.2.1 Δ  (Int32.toInt64 x1) 33 126  hz2) mv_X9_in (Or.inl ml_X9_90) hK rfl rfl ⟨Nat.le_of_ble_eq_true rfl, Nat.le_of_ble_eq_true rfl⟩ (Nat.le_of_ble_eq_true rfl) ⟨Nat.zero_le _, Nat.zero_le _⟩ ?_
  refine s_if_ne C 17 14 rfl dX9_say_11 (by decide) hq (fun hq => ?_) (fun hq => ?_)
  rotate_left
  · refine g_bipush (-2) C 16 rfl dX9_say_14 kb_m2 ?_
    exact w_int (ws := fun s => cs9 a Δ s) hR hq hP hS dX9_say_16 rfl rfl
  refine g_aload_n C 18 rfl dX9_say_17 0 rfl ?_
  refine g_get (v := .int (x9_padMany s)) C 21 rfl dX9_say_18 hK hP la_X9 0 13 (Nat.le_of_ble_eq_true rfl) fl_X9_123 rfl rfl rfl rfl ?_
  refine g_bipush 60 C 23 rfl dX9_say_21 kb_60 ?_
  refine s_icmp_ne C 29 26 rfl dX9_say_23 (by decide) hq (fun hq => ?_) (fun hq => ?_)
  rotate_left
  · refine g_bipush (-4) C 28 rfl dX9_say_26 kb_m4 ?_
    exact w_int (ws := fun s => cs9 a Δ s) hR hq hP hS dX9_say_28 rfl rfl
  refine g_aload_n C 30 rfl dX9_say_29 0 rfl ?_
  refine g_get (v := .ref (a 9)) C 33 rfl dX9_say_30 hK hP la_X9 0 12 (Nat.le_of_ble_eq_true rfl) fl_X9_34 rfl rfl rfl rfl ?_
  refine g_aload_n C 34 rfl dX9_say_33 0 rfl ?_
  refine g_get (v := .int (x9_padMany s)) C 37 rfl dX9_say_34 hK hP la_X9 0 13 (Nat.le_of_ble_eq_true rfl) fl_X9_123 rfl rfl rfl rfl ?_
  refine g_iload_n C 38 rfl dX9_say_37 1 rfl ?_
  refine s_iast (cs9 a Δ (p9_pad s (upd (x9_pad s) ((x9_padMany s) : Int32).toNatClampNeg x1))) C 39 rfl dX9_say_38 hK hP hD hS 9 rfl hq rfl (fun hq hi3 H L hP hD hS => ?_)
  refine g_aload_n C 40 rfl dX9_say_39 0 rfl ?_
  refine g_dup C 41 rfl dX9_say_40 rfl ?_
  refine g_get (v := .int (x9_padMany s)) C 44 rfl dX9_say_41 hK hP la_X9 0 13 (Nat.le_of_ble_eq_true rfl) fl_X9_123 rfl rfl rfl rfl ?_
  refine g_iconst 1 C 45 rfl dX9_say_44 ki_1 ?_
  refine g_iadd C 46 rfl dX9_say_45 ?_
  refine g_put (cs9 a Δ (p9_padMany (p9_pad s (upd (x9_pad s) ((x9_padMany s) : Int32).toNatClampNeg x1)) ((x9_padMany s) + 1))) C 49 rfl dX9_say_46 hK hP hD hS la_X9 tyX9_ok nmX9 0 13 (Nat.le_of_ble_eq_true rfl) fl_X9_123 rfl rfl rfl rfl rfl rfl (Nat.le_of_ble_eq_true rfl) rfl (fun H L hP hD hS => ?_)
  refine g_aload_n C 50 rfl dX9_say_49 0 rfl ?_
  refine g_get (v := .int ((x9_padMany s) + 1)) C 53 rfl dX9_say_50 hK hP la_X9 0 13 (Nat.le_of_ble_eq_true rfl) fl_X9_123 rfl rfl rfl rfl ?_
  exact w_int (ws := fun s => cs9 a Δ s) hR hq hP hS dX9_say_53 rfl rfl
set_option maxHeartbeats 4000000 in
set_option maxRecDepth 100000 in
theorem c_X9_wipe (l : Launch) (Δ : gD) (a : Nat → Nat)  (s : S9) {res : Int32 × S9} (hq : sem_X9_wipe  s = some res) : MW l yX9_wipe cX9_wipe 2 (some .int) Δ (cs9 a Δ s) [.ref (a 0)] 0 0 (some (.int res.1)) (cs9 a Δ res.2) := by
  refine MW.of (by decide) (Nat.le_of_ble_eq_true rfl) ?_
  intro Γ A H hl C hK hP hD hS hA hR
  subst hl
  show g Γ { frames := 0, cells := 0, slots := 0, locals := 0 } 2 H [] 0 0 0 [(0, .ref (a 0))] []
  refine g_aload_n C 1 rfl dX9_wipe_0 0 rfl ?_
  refine g_get (v := .int (x9_padMany s)) C 4 rfl dX9_wipe_1 hK hP la_X9 0 13 (Nat.le_of_ble_eq_true rfl) fl_X9_123 rfl rfl rfl rfl ?_
  refine g_istore_n [(1, .int (x9_padMany s)), (0, .ref (a 0))] C 5 rfl dX9_wipe_4 (Nat.le_of_ble_eq_true rfl) rfl ?_
  refine g_aload_n C 6 rfl dX9_wipe_5 1 rfl ?_
  refine g_iconst 0 C 7 rfl dX9_wipe_6 ki_0 ?_
  refine g_put (cs9 a Δ (p9_padMany s 0)) C 10 rfl dX9_wipe_7 hK hP hD hS la_X9 tyX9_ok nmX9 0 13 (Nat.le_of_ble_eq_true rfl) fl_X9_123 rfl rfl rfl rfl rfl rfl (Nat.le_of_ble_eq_true rfl) rfl (fun H L hP hD hS => ?_)
  refine g_iload_n C 11 rfl dX9_wipe_10 0 rfl ?_
  exact w_int (ws := fun s => cs9 a Δ s) hR hq hP hS dX9_wipe_11 rfl rfl
set_option maxHeartbeats 4000000 in
set_option maxRecDepth 100000 in
theorem c_X9_isLetter (l : Launch) (Δ : gD)  (x0 : Int32)  {res : Int32} (hq : sem_X9_isLetter x0  = some res) : MR l yX9_isLetter cX9_isLetter 1 (some .boolean) Δ ([]) [.int x0] 1 25 (.int res) := by
  refine MR.of (by decide) (Nat.le_of_ble_eq_true rfl) ?_
  intro Γ H hl C hK hP hR
  subst hl
  show g Γ { frames := 1, cells := 0, slots := 0, locals := 25 } 1 H [] 0 0 0 [(0, .int x0)] []
  refine g_iload_n C 1 rfl dX9_isLetter_0 0 rfl ?_
  refine g_i2l C 2 rfl dX9_isLetter_1 ?_
  refine g_ldc2 65 C 5 rfl dX9_isLetter_2 k_X9_126 ?_
  refine g_ldc2 70 C 8 rfl dX9_isLetter_5 k_X9_128 ?_
  obtain ⟨r1, hz2, hq⟩ := bindE hq
  refine g_callRS (rest := []) C 11 rfl dX9_isLetter_8 (c_X9_in Γ.2.1 Δ  (Int32.toInt64 x0) 65 70  hz2) mv_X9_in (Or.inl ml_X9_90) hK rfl rfl ⟨Nat.le_of_ble_eq_true rfl, Nat.le_of_ble_eq_true rfl⟩ (Nat.le_of_ble_eq_true rfl) ⟨Nat.zero_le _, Nat.zero_le _⟩ ?_
  obtain ⟨hb3, hq⟩ := bz_some hq
  exact r_int hR hq dX9_isLetter_11 rfl (narrow_z hb3)
set_option maxHeartbeats 4000000 in
set_option maxRecDepth 100000 in
theorem c_X9_close (l : Launch) (Δ : gD) (a : Nat → Nat)  (s : S9) {res : Int32 × S9} (hq : sem_X9_close  s = some res) : MW l yX9_close cX9_close 1 (some .int) Δ (cs9 a Δ s) [.ref (a 0)] 0 0 (some (.int res.1)) (cs9 a Δ res.2) := by
  refine MW.of (by decide) (Nat.le_of_ble_eq_true rfl) ?_
  intro Γ A H hl C hK hP hD hS hA hR
  subst hl
  show g Γ { frames := 0, cells := 0, slots := 0, locals := 0 } 1 H [] 0 0 0 [(0, .ref (a 0))] []
  refine g_aload_n C 1 rfl dX9_close_0 0 rfl ?_
  refine g_dup C 2 rfl dX9_close_1 rfl ?_
  refine g_get (v := .int (x9_acts s)) C 5 rfl dX9_close_2 hK hP la_X9 0 18 (Nat.le_of_ble_eq_true rfl) fl_X9_130 rfl rfl rfl rfl ?_
  refine g_iconst 1 C 6 rfl dX9_close_5 ki_1 ?_
  refine g_iadd C 7 rfl dX9_close_6 ?_
  refine g_put (cs9 a Δ (p9_acts s ((x9_acts s) + 1))) C 10 rfl dX9_close_7 hK hP hD hS la_X9 tyX9_ok nmX9 0 18 (Nat.le_of_ble_eq_true rfl) fl_X9_130 rfl rfl rfl rfl rfl rfl (Nat.le_of_ble_eq_true rfl) rfl (fun H L hP hD hS => ?_)
  refine g_iconst 0 C 11 rfl dX9_close_10 ki_0 ?_
  exact w_int (ws := fun s => cs9 a Δ s) hR hq hP hS dX9_close_11 rfl rfl
set_option maxHeartbeats 4000000 in
set_option maxRecDepth 100000 in
theorem c_X9_begin (l : Launch) (Δ : gD) (a : Nat → Nat) (x1 : Int32) (s : S9) {res : Int32 × S9} (hq : sem_X9_begin x1 s = some res) : MW l yX9_begin cX9_begin 2 (some .int) Δ (cs9 a Δ s) [.ref (a 0), .int x1] 2 45 (some (.int res.1)) (cs9 a Δ res.2) := by
  refine MW.of (by decide) (Nat.le_of_ble_eq_true rfl) ?_
  intro Γ A H hl C hK hP hD hS hA hR
  subst hl
  have K23 : ∀ (x1 : Int32) (y1 : Int32) (y2 : Int32) (s : S9) (H : Heap) (L : List Loc) (hP : va_P Δ.1 classes (cs9 a Δ s) H) (hD : va_D A (cs9 a Δ s)) (hS : va_S A (sOf Γ).heap H L), jn_X9_begin_23 x1 y1 y2 s = some res → g Γ { frames := 2, cells := 0, slots := 0, locals := 45 } 2 H L 0 0 23 [(0, .ref (a 0)), (1, .int x1)] [.int y2, .int y1, .ref (a 11)] := by
    intro x1 y1 y2 s H L hP hD hS hq
    refine s_iast (cs9 a Δ (p9_who s (upd (x9_who s) (y1 : Int32).toNatClampNeg y2))) C 24 rfl dX9_begin_23 hK hP hD hS 11 rfl hq rfl (fun hq hi1 H L hP hD hS => ?_)
    refine g_aload_n C 25 rfl dX9_begin_24 0 rfl ?_
    refine g_get (v := .ref (a 12)) C 28 rfl dX9_begin_25 hK hP la_X9 0 16 (Nat.le_of_ble_eq_true rfl) fl_X9_43 rfl rfl rfl rfl ?_
    refine g_aload_n C 29 rfl dX9_begin_28 0 rfl ?_
    refine g_get (v := .int (x9_acts s)) C 32 rfl dX9_begin_29 hK hP la_X9 0 18 (Nat.le_of_ble_eq_true rfl) fl_X9_130 rfl rfl rfl rfl ?_
    refine g_iconst 0 C 33 rfl dX9_begin_32 ki_0 ?_
    refine s_iast (cs9 a Δ (p9_other (p9_who s (upd (x9_who s) (y1 : Int32).toNatClampNeg y2)) (upd (x9_other s) ((x9_acts s) : Int32).toNatClampNeg 0))) C 34 rfl dX9_begin_33 hK hP hD hS 12 rfl hq rfl (fun hq hi2 H L hP hD hS => ?_)
    refine g_aload_n C 35 rfl dX9_begin_34 0 rfl ?_
    refine g_get (v := .ref (a 13)) C 38 rfl dX9_begin_35 hK hP la_X9 0 17 (Nat.le_of_ble_eq_true rfl) fl_X9_46 rfl rfl rfl rfl ?_
    refine g_aload_n C 39 rfl dX9_begin_38 0 rfl ?_
    refine g_get (v := .int (x9_acts s)) C 42 rfl dX9_begin_39 hK hP la_X9 0 18 (Nat.le_of_ble_eq_true rfl) fl_X9_130 rfl rfl rfl rfl ?_
    refine g_iconst 0 C 43 rfl dX9_begin_42 ki_0 ?_
    refine s_iast (cs9 a Δ (p9_much (p9_other (p9_who s (upd (x9_who s) (y1 : Int32).toNatClampNeg y2)) (upd (x9_other s) ((x9_acts s) : Int32).toNatClampNeg 0)) (upd (x9_much s) ((x9_acts s) : Int32).toNatClampNeg 0))) C 44 rfl dX9_begin_43 hK hP hD hS 13 rfl hq rfl (fun hq hi3 H L hP hD hS => ?_)
    refine g_aload_n C 45 rfl dX9_begin_44 0 rfl ?_
    refine g_get (v := .ref (a 10)) C 48 rfl dX9_begin_45 hK hP la_X9 0 14 (Nat.le_of_ble_eq_true rfl) fl_X9_37 rfl rfl rfl rfl ?_
    refine g_aload_n C 49 rfl dX9_begin_48 0 rfl ?_
    refine g_get (v := .int (x9_acts s)) C 52 rfl dX9_begin_49 hK hP la_X9 0 18 (Nat.le_of_ble_eq_true rfl) fl_X9_130 rfl rfl rfl rfl ?_
    refine g_iconst 4 C 53 rfl dX9_begin_52 ki_4 ?_
    refine s_iast (cs9 a Δ (p9_act (p9_much (p9_other (p9_who s (upd (x9_who s) (y1 : Int32).toNatClampNeg y2)) (upd (x9_other s) ((x9_acts s) : Int32).toNatClampNeg 0)) (upd (x9_much s) ((x9_acts s) : Int32).toNatClampNeg 0)) (upd (x9_act s) ((x9_acts s) : Int32).toNatClampNeg 4))) C 54 rfl dX9_begin_53 hK hP hD hS 10 rfl hq rfl (fun hq hi4 H L hP hD hS => ?_)
    refine g_iload_n C 55 rfl dX9_begin_54 1 rfl ?_
    obtain ⟨r5, hz6, hq⟩ := bindE hq
    refine g_callRS (rest := []) C 58 rfl dX9_begin_55 (c_X9_isLetter Γ.2.1 Δ  x1  hz6) mv_X9_isLetter (Or.inl ml_X9_133) hK rfl rfl ⟨Nat.le_of_ble_eq_true rfl, Nat.le_of_ble_eq_true rfl⟩ (Nat.le_of_ble_eq_true rfl) ⟨Nat.zero_le _, Nat.zero_le _⟩ ?_
    refine s_if_eq C 65 61 rfl dX9_begin_58 (by decide) hq (fun hq => ?_) (fun hq => ?_)
    rotate_left
    · refine g_iconst 1 C 62 rfl dX9_begin_61 ki_1 ?_
      refine g_goto C 80 dX9_begin_62 (by decide) ?_
      exact w_int (ws := fun s => cs9 a Δ s) hR hq hP hS dX9_begin_80 rfl rfl
    refine g_iload_n C 66 rfl dX9_begin_65 1 rfl ?_
    refine g_bipush 46 C 68 rfl dX9_begin_66 kb_46 ?_
    refine s_icmp_ne C 78 71 rfl dX9_begin_68 (by decide) hq (fun hq => ?_) (fun hq => ?_)
    · refine g_bipush (-6) C 80 rfl dX9_begin_78 kb_m6 ?_
      exact w_int (ws := fun s => cs9 a Δ s) hR hq hP hS dX9_begin_80 rfl rfl
    refine g_aload_n C 72 rfl dX9_begin_71 0 rfl ?_
    obtain ⟨r7, hz8, hq⟩ := bindE hq
    refine g_callWV (rest := []) (cs9 a Δ r7.2) C 75 rfl dX9_begin_72 (c_X9_close Γ.2.1 Δ a  (p9_act (p9_much (p9_other (p9_who s (upd (x9_who s) (y1 : Int32).toNatClampNeg y2)) (upd (x9_other s) ((x9_acts s) : Int32).toNatClampNeg 0)) (upd (x9_much s) ((x9_acts s) : Int32).toNatClampNeg 0)) (upd (x9_act s) ((x9_acts s) : Int32).toNatClampNeg 4)) hz8) mv_X9_close ml_X9_136 hK hP hD hS hA [0, 1, 2, 3, 4, 5, 6, 7, 8, 9, 10, 11, 12, 13, 14, 15, 16, 17, 18, 19, 20, 21, 22, 23] [] [0, 1, 2, 3, 4, 5, 6, 7, 8, 9, 10, 11, 12, 13, 14, 15, 16, 17, 18, 19, 20, 21, 22, 23] rfl (by decide) (wr := []) rfl (by decide) (by decide) rfl rfl rfl rfl rfl rfl rfl rfl ⟨Nat.le_of_ble_eq_true rfl, Nat.le_of_ble_eq_true rfl⟩ (Nat.le_of_ble_eq_true rfl) ⟨Nat.zero_le _, Nat.zero_le _⟩ (fun H L hP hD hS => ?_)
    refine g_goto C 80 dX9_begin_75 (by decide) ?_
    exact w_int (ws := fun s => cs9 a Δ s) hR hq hP hS dX9_begin_80 rfl rfl
  show g Γ { frames := 2, cells := 0, slots := 0, locals := 45 } 2 H [] 0 0 0 [(0, .ref (a 0)), (1, .int x1)] []
  refine g_aload_n C 1 rfl dX9_begin_0 0 rfl ?_
  refine g_get (v := .ref (a 11)) C 4 rfl dX9_begin_1 hK hP la_X9 0 15 (Nat.le_of_ble_eq_true rfl) fl_X9_40 rfl rfl rfl rfl ?_
  refine g_aload_n C 5 rfl dX9_begin_4 0 rfl ?_
  refine g_get (v := .int (x9_acts s)) C 8 rfl dX9_begin_5 hK hP la_X9 0 18 (Nat.le_of_ble_eq_true rfl) fl_X9_130 rfl rfl rfl rfl ?_
  refine g_iload_n C 9 rfl dX9_begin_8 1 rfl ?_
  obtain ⟨r9, hz10, hq⟩ := bindE hq
  refine g_callRS (rest := [.int (x9_acts s), .ref (a 11)]) C 12 rfl dX9_begin_9 (c_X9_isLetter Γ.2.1 Δ  x1  hz10) mv_X9_isLetter (Or.inl ml_X9_133) hK rfl rfl ⟨Nat.le_of_ble_eq_true rfl, Nat.le_of_ble_eq_true rfl⟩ (Nat.le_of_ble_eq_true rfl) ⟨Nat.zero_le _, Nat.zero_le _⟩ ?_
  refine s_if_eq C 22 15 rfl dX9_begin_12 (by decide) hq (fun hq => ?_) (fun hq => ?_)
  · refine g_iconst 0 C 23 rfl dX9_begin_22 ki_0 ?_
    exact g_sub [0, 1] rfl (K23 x1 (x9_acts s) 0 s _ _ hP hD hS hq)
  refine g_iload_n C 16 rfl dX9_begin_15 1 rfl ?_
  refine g_bipush 65 C 18 rfl dX9_begin_16 kb_65 ?_
  refine g_isub C 19 rfl dX9_begin_18 ?_
  refine g_goto C 23 dX9_begin_19 (by decide) ?_
  exact g_sub [0, 1] rfl (K23 x1 (x9_acts s) (x1 - 65) s _ _ hP hD hS hq)
set_option maxHeartbeats 4000000 in
set_option maxRecDepth 100000 in
theorem c_X9_deed (l : Launch) (Δ : gD) (a : Nat → Nat) (x1 : Int32) (s : S9) {res : Int32 × S9} (hq : sem_X9_deed x1 s = some res) : MW l yX9_deed cX9_deed 3 (some .int) Δ (cs9 a Δ s) [.ref (a 0), .int x1] 0 0 (some (.int res.1)) (cs9 a Δ res.2) := by
  refine MW.of (by decide) (Nat.le_of_ble_eq_true rfl) ?_
  intro Γ A H hl C hK hP hD hS hA hR
  subst hl
  have K98 : ∀ (x1 : Int32) (x2 : Int32) (y1 : Int32) (y2 : Int32) (s : S9) (H : Heap) (L : List Loc) (hP : va_P Δ.1 classes (cs9 a Δ s) H) (hD : va_D A (cs9 a Δ s)) (hS : va_S A (sOf Γ).heap H L), jn_X9_deed_98 x1 x2 y1 y2 s = some res → g Γ { frames := 0, cells := 0, slots := 0, locals := 0 } 3 H L 0 0 98 [(1, .int x1), (2, .int x2)] [.int y2, .int y1, .ref (a 12)] := by
    intro x1 x2 y1 y2 s H L hP hD hS hq
    refine s_iast (cs9 a Δ (p9_other s (upd (x9_other s) (y1 : Int32).toNatClampNeg y2))) C 99 rfl dX9_deed_98 hK hP hD hS 12 rfl hq rfl (fun hq hi1 H L hP hD hS => ?_)
    refine g_iload_n C 100 rfl dX9_deed_99 1 rfl ?_
    refine s_if_ge C 109 103 rfl dX9_deed_100 (by decide) hq (fun hq => ?_) (fun hq => ?_)
    · refine g_iconst 2 C 110 rfl dX9_deed_109 ki_2 ?_
      refine g_goto C 135 dX9_deed_110 (by decide) ?_
      exact w_int (ws := fun s => cs9 a Δ s) hR hq hP hS dX9_deed_135 rfl rfl
    refine g_iload_n C 104 rfl dX9_deed_103 0 rfl ?_
    refine g_bipush 33 C 106 rfl dX9_deed_104 kb_33 ?_
    refine s_icmp_ne C 113 109 rfl dX9_deed_106 (by decide) hq (fun hq => ?_) (fun hq => ?_)
    rotate_left
    · refine g_iconst 2 C 110 rfl dX9_deed_109 ki_2 ?_
      refine g_goto C 135 dX9_deed_110 (by decide) ?_
      exact w_int (ws := fun s => cs9 a Δ s) hR hq hP hS dX9_deed_135 rfl rfl
    refine g_iload_n C 114 rfl dX9_deed_113 0 rfl ?_
    refine g_bipush 62 C 116 rfl dX9_deed_114 kb_62 ?_
    refine s_icmp_ne C 123 119 rfl dX9_deed_116 (by decide) hq (fun hq => ?_) (fun hq => ?_)
    rotate_left
    · refine g_iconst 3 C 120 rfl dX9_deed_119 ki_3 ?_
      refine g_goto C 135 dX9_deed_120 (by decide) ?_
      exact w_int (ws := fun s => cs9 a Δ s) hR hq hP hS dX9_deed_135 rfl rfl
    refine g_iload_n C 124 rfl dX9_deed_123 0 rfl ?_
    refine g_bipush 64 C 126 rfl dX9_deed_124 kb_64 ?_
    refine s_icmp_ne C 133 129 rfl dX9_deed_126 (by decide) hq (fun hq => ?_) (fun hq => ?_)
    · refine g_bipush (-6) C 135 rfl dX9_deed_133 kb_m6 ?_
      exact w_int (ws := fun s => cs9 a Δ s) hR hq hP hS dX9_deed_135 rfl rfl
    refine g_iconst 4 C 130 rfl dX9_deed_129 ki_4 ?_
    refine g_goto C 135 dX9_deed_130 (by decide) ?_
    exact w_int (ws := fun s => cs9 a Δ s) hR hq hP hS dX9_deed_135 rfl rfl
  have K80 : ∀ (x1 : Int32) (x2 : Int32) (y1 : Int32) (y2 : Int32) (s : S9) (H : Heap) (L : List Loc) (hP : va_P Δ.1 classes (cs9 a Δ s) H) (hD : va_D A (cs9 a Δ s)) (hS : va_S A (sOf Γ).heap H L), jn_X9_deed_80 x1 x2 y1 y2 s = some res → g Γ { frames := 0, cells := 0, slots := 0, locals := 0 } 3 H L 0 0 80 [(0, .ref (a 0)), (1, .int x1), (2, .int x2)] [.int y2, .int y1, .ref (a 10)] := by
    intro x1 x2 y1 y2 s H L hP hD hS hq
    refine s_iast (cs9 a Δ (p9_act s (upd (x9_act s) (y1 : Int32).toNatClampNeg y2))) C 81 rfl dX9_deed_80 hK hP hD hS 10 rfl hq rfl (fun hq hi2 H L hP hD hS => ?_)
    refine g_aload_n C 82 rfl dX9_deed_81 0 rfl ?_
    refine g_get (v := .ref (a 12)) C 85 rfl dX9_deed_82 hK hP la_X9 0 16 (Nat.le_of_ble_eq_true rfl) fl_X9_43 rfl rfl rfl rfl ?_
    refine g_aload_n C 86 rfl dX9_deed_85 0 rfl ?_
    refine g_get (v := .int (x9_acts s)) C 89 rfl dX9_deed_86 hK hP la_X9 0 18 (Nat.le_of_ble_eq_true rfl) fl_X9_130 rfl rfl rfl rfl ?_
    refine g_iload_n C 90 rfl dX9_deed_89 2 rfl ?_
    refine s_if_lt C 97 93 rfl dX9_deed_90 (by decide) hq (fun hq => ?_) (fun hq => ?_)
    · refine g_iconst 0 C 98 rfl dX9_deed_97 ki_0 ?_
      exact g_sub [1, 2] rfl (K98 x1 x2 (x9_acts s) 0 (p9_act s (upd (x9_act s) (y1 : Int32).toNatClampNeg y2)) _ _ hP hD hS hq)
    refine g_iload_n C 94 rfl dX9_deed_93 2 rfl ?_
    refine g_goto C 98 dX9_deed_94 (by decide) ?_
    exact g_sub [1, 2] rfl (K98 x1 x2 (x9_acts s) x2 (p9_act s (upd (x9_act s) (y1 : Int32).toNatClampNeg y2)) _ _ hP hD hS hq)
  have K42 : ∀ (x1 : Int32) (y0 : Int32) (s : S9) (H : Heap) (L : List Loc) (hP : va_P Δ.1 classes (cs9 a Δ s) H) (hD : va_D A (cs9 a Δ s)) (hS : va_S A (sOf Γ).heap H L), jn_X9_deed_42 x1 y0 s = some res → g Γ { frames := 0, cells := 0, slots := 0, locals := 0 } 3 H L 0 0 42 [(0, .ref (a 0)), (1, .int x1)] [.int y0] := by
    intro x1 y0 s H L hP hD hS hq
    refine g_istore_n [(2, .int y0), (0, .ref (a 0)), (1, .int x1)] C 43 rfl dX9_deed_42 (Nat.le_of_ble_eq_true rfl) rfl ?_
    refine g_aload_n C 44 rfl dX9_deed_43 1 rfl ?_
    refine g_get (v := .ref (a 10)) C 47 rfl dX9_deed_44 hK hP la_X9 0 14 (Nat.le_of_ble_eq_true rfl) fl_X9_37 rfl rfl rfl rfl ?_
    refine g_aload_n C 48 rfl dX9_deed_47 1 rfl ?_
    refine g_get (v := .int (x9_acts s)) C 51 rfl dX9_deed_48 hK hP la_X9 0 18 (Nat.le_of_ble_eq_true rfl) fl_X9_130 rfl rfl rfl rfl ?_
    refine g_iload_n C 52 rfl dX9_deed_51 0 rfl ?_
    refine s_if_lt C 59 55 rfl dX9_deed_52 (by decide) hq (fun hq => ?_) (fun hq => ?_)
    rotate_left
    · refine g_iconst 0 C 56 rfl dX9_deed_55 ki_0 ?_
      refine g_goto C 80 dX9_deed_56 (by decide) ?_
      exact g_sub [1, 2, 0] rfl (K80 x1 y0 (x9_acts s) 0 s _ _ hP hD hS hq)
    refine g_iload_n C 60 rfl dX9_deed_59 2 rfl ?_
    refine g_bipush 33 C 62 rfl dX9_deed_60 kb_33 ?_
    refine s_icmp_ne C 69 65 rfl dX9_deed_62 (by decide) hq (fun hq => ?_) (fun hq => ?_)
    rotate_left
    · refine g_iconst 1 C 66 rfl dX9_deed_65 ki_1 ?_
      refine g_goto C 80 dX9_deed_66 (by decide) ?_
      exact g_sub [1, 2, 0] rfl (K80 x1 y0 (x9_acts s) 1 s _ _ hP hD hS hq)
    refine g_iload_n C 70 rfl dX9_deed_69 2 rfl ?_
    refine g_bipush 62 C 72 rfl dX9_deed_70 kb_62 ?_
    refine s_icmp_ne C 79 75 rfl dX9_deed_72 (by decide) hq (fun hq => ?_) (fun hq => ?_)
    · refine g_iconst 3 C 80 rfl dX9_deed_79 ki_3 ?_
      exact g_sub [1, 2, 0] rfl (K80 x1 y0 (x9_acts s) 3 s _ _ hP hD hS hq)
    refine g_iconst 2 C 76 rfl dX9_deed_75 ki_2 ?_
    refine g_goto C 80 dX9_deed_76 (by decide) ?_
    exact g_sub [1, 2, 0] rfl (K80 x1 y0 (x9_acts s) 2 s _ _ hP hD hS hq)
  show g Γ { frames := 0, cells := 0, slots := 0, locals := 0 } 3 H [] 0 0 0 [(0, .ref (a 0)), (1, .int x1)] []
  refine g_iload_n C 1 rfl dX9_deed_0 1 rfl ?_
  refine g_bipush 104 C 3 rfl dX9_deed_1 kb_104 ?_
  refine s_icmp_ne C 10 6 rfl dX9_deed_3 (by decide) hq (fun hq => ?_) (fun hq => ?_)
  rotate_left
  · refine g_iconst 0 C 7 rfl dX9_deed_6 ki_0 ?_
    refine g_goto C 42 dX9_deed_7 (by decide) ?_
    exact g_sub [0, 1] rfl (K42 x1 0 s _ _ hP hD hS hq)
  refine g_iload_n C 11 rfl dX9_deed_10 1 rfl ?_
  refine g_bipush 114 C 13 rfl dX9_deed_11 kb_114 ?_
  refine s_icmp_ne C 20 16 rfl dX9_deed_13 (by decide) hq (fun hq => ?_) (fun hq => ?_)
  rotate_left
  · refine g_iconst 1 C 17 rfl dX9_deed_16 ki_1 ?_
    refine g_goto C 42 dX9_deed_17 (by decide) ?_
    exact g_sub [0, 1] rfl (K42 x1 1 s _ _ hP hD hS hq)
  refine g_iload_n C 21 rfl dX9_deed_20 1 rfl ?_
  refine g_bipush 116 C 23 rfl dX9_deed_21 kb_116 ?_
  refine s_icmp_ne C 30 26 rfl dX9_deed_23 (by decide) hq (fun hq => ?_) (fun hq => ?_)
  rotate_left
  · refine g_iconst 2 C 27 rfl dX9_deed_26 ki_2 ?_
    refine g_goto C 42 dX9_deed_27 (by decide) ?_
    exact g_sub [0, 1] rfl (K42 x1 2 s _ _ hP hD hS hq)
  refine g_iload_n C 31 rfl dX9_deed_30 1 rfl ?_
  refine g_bipush 107 C 33 rfl dX9_deed_31 kb_107 ?_
  refine s_icmp_ne C 40 36 rfl dX9_deed_33 (by decide) hq (fun hq => ?_) (fun hq => ?_)
  · refine g_bipush (-6) C 42 rfl dX9_deed_40 kb_m6 ?_
    exact g_sub [0, 1] rfl (K42 x1 (-6) s _ _ hP hD hS hq)
  refine g_iconst 3 C 37 rfl dX9_deed_36 ki_3 ?_
  refine g_goto C 42 dX9_deed_37 (by decide) ?_
  exact g_sub [0, 1] rfl (K42 x1 3 s _ _ hP hD hS hq)
set_option maxHeartbeats 4000000 in
set_option maxRecDepth 100000 in
theorem c_X9_readOn (l : Launch) (Δ : gD) (a : Nat → Nat) (x1 : Int32) (x2 : Int32) (s : S9) {res : Int32 × S9} (hq : sem_X9_readOn x1 x2 s = some res) : MW l yX9_readOn cX9_readOn 4 (some .int) Δ (cs9 a Δ s) [.ref (a 0), .int x1, .int x2] 3 66 (some (.int res.1)) (cs9 a Δ res.2) := by
  refine MW.of (by decide) (Nat.le_of_ble_eq_true rfl) ?_
  intro Γ A H hl C hK hP hD hS hA hR
  subst hl
  have K85 : ∀ (x1 : Int32) (y0 : Int64) (y1 : Int64) (s : S9) (H : Heap) (L : List Loc) (hP : va_P Δ.1 classes (cs9 a Δ s) H) (hD : va_D A (cs9 a Δ s)) (hS : va_S A (sOf Γ).heap H L), jn_X9_readOn_85 x1 y0 y1 s = some res → g Γ { frames := 3, cells := 0, slots := 0, locals := 66 } 4 H L 0 0 85 [(0, .ref (a 0)), (1, .int x1)] [.long y1, .long y0] := by
    intro x1 y0 y1 s H L hP hD hS hq
    refine g_ldc2 57 C 88 rfl dX9_readOn_85 k_X9_149 ?_
    obtain ⟨r1, hz2, hq⟩ := bindE hq
    refine g_callRS (rest := []) C 91 rfl dX9_readOn_88 (c_X9_in Γ.2.1 Δ  y0 y1 57  hz2) mv_X9_in (Or.inl ml_X9_90) hK rfl rfl ⟨Nat.le_of_ble_eq_true rfl, Nat.le_of_ble_eq_true rfl⟩ (Nat.le_of_ble_eq_true rfl) ⟨Nat.zero_le _, Nat.zero_le _⟩ ?_
    refine g_istore_n [(3, .int r1), (0, .ref (a 0)), (1, .int x1)] C 92 rfl dX9_readOn_91 (Nat.le_of_ble_eq_true rfl) rfl ?_
    refine g_iload_n C 93 rfl dX9_readOn_92 0 rfl ?_
    refine s_if_ne C 101 96 rfl dX9_readOn_93 (by decide) hq (fun hq => ?_) (fun hq => ?_)
    rotate_left
    · refine g_bipush (-6) C 98 rfl dX9_readOn_96 kb_m6 ?_
      refine g_goto C 114 dX9_readOn_98 (by decide) ?_
      exact w_int (ws := fun s => cs9 a Δ s) hR hq hP hS dX9_readOn_114 rfl rfl
    refine g_iload_n C 102 rfl dX9_readOn_101 2 rfl ?_
    refine g_iconst 3 C 103 rfl dX9_readOn_102 ki_3 ?_
    refine s_icmp_ne C 110 106 rfl dX9_readOn_103 (by decide) hq (fun hq => ?_) (fun hq => ?_)
    rotate_left
    · refine g_iconst 5 C 107 rfl dX9_readOn_106 ki_5 ?_
      refine g_goto C 114 dX9_readOn_107 (by decide) ?_
      exact w_int (ws := fun s => cs9 a Δ s) hR hq hP hS dX9_readOn_114 rfl rfl
    refine g_aload_n C 111 rfl dX9_readOn_110 1 rfl ?_
    obtain ⟨r3, hz4, hq⟩ := bindE hq
    refine g_callWV (rest := []) (cs9 a Δ r3.2) C 114 rfl dX9_readOn_111 (c_X9_close Γ.2.1 Δ a  s hz4) mv_X9_close ml_X9_136 hK hP hD hS hA [0, 1, 2, 3, 4, 5, 6, 7, 8, 9, 10, 11, 12, 13, 14, 15, 16, 17, 18, 19, 20, 21, 22, 23] [] [0, 1, 2, 3, 4, 5, 6, 7, 8, 9, 10, 11, 12, 13, 14, 15, 16, 17, 18, 19, 20, 21, 22, 23] rfl (by decide) (wr := []) rfl (by decide) (by decide) rfl rfl rfl rfl rfl rfl rfl rfl ⟨Nat.le_of_ble_eq_true rfl, Nat.le_of_ble_eq_true rfl⟩ (Nat.le_of_ble_eq_true rfl) ⟨Nat.zero_le _, Nat.zero_le _⟩ (fun H L hP hD hS => ?_)
    exact w_int (ws := fun s => cs9 a Δ s) hR hq hP hS dX9_readOn_114 rfl rfl
  show g Γ { frames := 3, cells := 0, slots := 0, locals := 66 } 4 H [] 0 0 0 [(0, .ref (a 0)), (1, .int x1), (2, .int x2)] []
  refine g_iload_n C 1 rfl dX9_readOn_0 1 rfl ?_
  refine s_if_ne C 10 4 rfl dX9_readOn_1 (by decide) hq (fun hq => ?_) (fun hq => ?_)
  rotate_left
  · refine g_aload_n C 5 rfl dX9_readOn_4 0 rfl ?_
    refine g_iload_n C 6 rfl dX9_readOn_5 2 rfl ?_
    obtain ⟨r13, hz14, hq⟩ := bindE hq
    refine g_callWV (rest := []) (cs9 a Δ r13.2) C 9 rfl dX9_readOn_6 (c_X9_begin Γ.2.1 Δ a x2 s hz14) mv_X9_begin ml_X9_139 hK hP hD hS hA [0, 1, 2, 3, 4, 5, 6, 7, 8, 9, 10, 11, 12, 13, 14, 15, 16, 17, 18, 19, 20, 21, 22, 23] [] [0, 1, 2, 3, 4, 5, 6, 7, 8, 9, 10, 11, 12, 13, 14, 15, 16, 17, 18, 19, 20, 21, 22, 23] rfl (by decide) (wr := []) rfl (by decide) (by decide) rfl rfl rfl rfl rfl rfl rfl rfl ⟨Nat.le_of_ble_eq_true rfl, Nat.le_of_ble_eq_true rfl⟩ (Nat.le_of_ble_eq_true rfl) ⟨Nat.zero_le _, Nat.zero_le _⟩ (fun H L hP hD hS => ?_)
    exact w_int (ws := fun s => cs9 a Δ s) hR hq hP hS dX9_readOn_9 rfl rfl
  refine g_iload_n C 11 rfl dX9_readOn_10 1 rfl ?_
  refine g_iconst 1 C 12 rfl dX9_readOn_11 ki_1 ?_
  refine s_icmp_ne C 21 15 rfl dX9_readOn_12 (by decide) hq (fun hq => ?_) (fun hq => ?_)
  rotate_left
  · refine g_aload_n C 16 rfl dX9_readOn_15 0 rfl ?_
    refine g_iload_n C 17 rfl dX9_readOn_16 2 rfl ?_
    obtain ⟨r11, hz12, hq⟩ := bindE hq
    refine g_callWV (rest := []) (cs9 a Δ r11.2) C 20 rfl dX9_readOn_17 (c_X9_deed Γ.2.1 Δ a x2 s hz12) mv_X9_deed ml_X9_142 hK hP hD hS hA [0, 1, 2, 3, 4, 5, 6, 7, 8, 9, 10, 11, 12, 13, 14, 15, 16, 17, 18, 19, 20, 21, 22, 23] [] [0, 1, 2, 3, 4, 5, 6, 7, 8, 9, 10, 11, 12, 13, 14, 15, 16, 17, 18, 19, 20, 21, 22, 23] rfl (by decide) (wr := []) rfl (by decide) (by decide) rfl rfl rfl rfl rfl rfl rfl rfl ⟨Nat.le_of_ble_eq_true rfl, Nat.le_of_ble_eq_true rfl⟩ (Nat.le_of_ble_eq_true rfl) ⟨Nat.zero_le _, Nat.zero_le _⟩ (fun H L hP hD hS => ?_)
    exact w_int (ws := fun s => cs9 a Δ s) hR hq hP hS dX9_readOn_20 rfl rfl
  refine g_iload_n C 22 rfl dX9_readOn_21 1 rfl ?_
  refine g_iconst 5 C 23 rfl dX9_readOn_22 ki_5 ?_
  refine s_icmp_ne C 56 26 rfl dX9_readOn_23 (by decide) hq (fun hq => ?_) (fun hq => ?_)
  · refine g_aload_n C 57 rfl dX9_readOn_56 0 rfl ?_
    refine g_get (v := .ref (a 13)) C 60 rfl dX9_readOn_57 hK hP la_X9 0 17 (Nat.le_of_ble_eq_true rfl) fl_X9_46 rfl rfl rfl rfl ?_
    refine g_aload_n C 61 rfl dX9_readOn_60 0 rfl ?_
    refine g_get (v := .int (x9_acts s)) C 64 rfl dX9_readOn_61 hK hP la_X9 0 18 (Nat.le_of_ble_eq_true rfl) fl_X9_130 rfl rfl rfl rfl ?_
    refine g_iload_n C 65 rfl dX9_readOn_64 2 rfl ?_
    refine g_bipush 48 C 67 rfl dX9_readOn_65 kb_48 ?_
    refine g_isub C 68 rfl dX9_readOn_67 ?_
    refine s_iast (cs9 a Δ (p9_much s (upd (x9_much s) ((x9_acts s) : Int32).toNatClampNeg (x2 - 48)))) C 69 rfl dX9_readOn_68 hK hP hD hS 13 rfl hq rfl (fun hq hi5 H L hP hD hS => ?_)
    refine g_iload_n C 70 rfl dX9_readOn_69 2 rfl ?_
    refine g_i2l C 71 rfl dX9_readOn_70 ?_
    refine g_iload_n C 72 rfl dX9_readOn_71 1 rfl ?_
    refine g_iconst 4 C 73 rfl dX9_readOn_72 ki_4 ?_
    refine s_icmp_ne C 82 76 rfl dX9_readOn_73 (by decide) hq (fun hq => ?_) (fun hq => ?_)
    · refine g_ldc2 49 C 85 rfl dX9_readOn_82 k_X9_147 ?_
      exact g_sub [0, 1] rfl (K85 x1 (Int32.toInt64 x2) 49 (p9_much s (upd (x9_much s) ((x9_acts s) : Int32).toNatClampNeg (x2 - 48))) _ _ hP hD hS hq)
    refine g_ldc2 48 C 79 rfl dX9_readOn_76 k_X9_145 ?_
    refine g_goto C 85 dX9_readOn_79 (by decide) ?_
    exact g_sub [0, 1] rfl (K85 x1 (Int32.toInt64 x2) 48 (p9_much s (upd (x9_much s) ((x9_acts s) : Int32).toNatClampNeg (x2 - 48))) _ _ hP hD hS hq)
  refine g_aload_n C 27 rfl dX9_readOn_26 0 rfl ?_
  refine g_get (v := .ref (a 12)) C 30 rfl dX9_readOn_27 hK hP la_X9 0 16 (Nat.le_of_ble_eq_true rfl) fl_X9_43 rfl rfl rfl rfl ?_
  refine g_aload_n C 31 rfl dX9_readOn_30 0 rfl ?_
  refine g_get (v := .int (x9_acts s)) C 34 rfl dX9_readOn_31 hK hP la_X9 0 18 (Nat.le_of_ble_eq_true rfl) fl_X9_130 rfl rfl rfl rfl ?_
  refine g_iload_n C 35 rfl dX9_readOn_34 2 rfl ?_
  refine g_bipush 65 C 37 rfl dX9_readOn_35 kb_65 ?_
  refine g_isub C 38 rfl dX9_readOn_37 ?_
  refine s_iast (cs9 a Δ (p9_other s (upd (x9_other s) ((x9_acts s) : Int32).toNatClampNeg (x2 - 65)))) C 39 rfl dX9_readOn_38 hK hP hD hS 12 rfl hq rfl (fun hq hi6 H L hP hD hS => ?_)
  refine g_iload_n C 40 rfl dX9_readOn_39 2 rfl ?_
  obtain ⟨r7, hz8, hq⟩ := bindE hq
  refine g_callRS (rest := []) C 43 rfl dX9_readOn_40 (c_X9_isLetter Γ.2.1 Δ  x2  hz8) mv_X9_isLetter (Or.inl ml_X9_133) hK rfl rfl ⟨Nat.le_of_ble_eq_true rfl, Nat.le_of_ble_eq_true rfl⟩ (Nat.le_of_ble_eq_true rfl) ⟨Nat.zero_le _, Nat.zero_le _⟩ ?_
  refine s_if_eq C 53 46 rfl dX9_readOn_43 (by decide) hq (fun hq => ?_) (fun hq => ?_)
  · refine g_bipush (-6) C 55 rfl dX9_readOn_53 kb_m6 ?_
    exact w_int (ws := fun s => cs9 a Δ s) hR hq hP hS dX9_readOn_55 rfl rfl
  refine g_aload_n C 47 rfl dX9_readOn_46 0 rfl ?_
  obtain ⟨r9, hz10, hq⟩ := bindE hq
  refine g_callWV (rest := []) (cs9 a Δ r9.2) C 50 rfl dX9_readOn_47 (c_X9_close Γ.2.1 Δ a  (p9_other s (upd (x9_other s) ((x9_acts s) : Int32).toNatClampNeg (x2 - 65))) hz10) mv_X9_close ml_X9_136 hK hP hD hS hA [0, 1, 2, 3, 4, 5, 6, 7, 8, 9, 10, 11, 12, 13, 14, 15, 16, 17, 18, 19, 20, 21, 22, 23] [] [0, 1, 2, 3, 4, 5, 6, 7, 8, 9, 10, 11, 12, 13, 14, 15, 16, 17, 18, 19, 20, 21, 22, 23] rfl (by decide) (wr := []) rfl (by decide) (by decide) rfl rfl rfl rfl rfl rfl rfl rfl ⟨Nat.le_of_ble_eq_true rfl, Nat.le_of_ble_eq_true rfl⟩ (Nat.le_of_ble_eq_true rfl) ⟨Nat.zero_le _, Nat.zero_le _⟩ (fun H L hP hD hS => ?_)
  refine g_goto C 55 dX9_readOn_50 (by decide) ?_
  exact w_int (ws := fun s => cs9 a Δ s) hR hq hP hS dX9_readOn_55 rfl rfl
set_option maxHeartbeats 4000000 in
set_option maxRecDepth 100000 in
theorem c_X9_fault (l : Launch) (Δ : gD) (a : Nat → Nat)  (s : S9) {res : Int32 × S9} (hq : sem_X9_fault  s = some res) : MW l yX9_fault cX9_fault 3 (some .int) Δ (cs9 a Δ s) [.ref (a 0)] 4 89 (some (.int res.1)) (cs9 a Δ res.2) := by
  refine MW.of (by decide) (Nat.le_of_ble_eq_true rfl) ?_
  intro Γ A H hl C hK hP hD hS hA hR
  subst hl
  show g Γ { frames := 4, cells := 0, slots := 0, locals := 89 } 3 H [] 0 0 0 [(0, .ref (a 0))] []
  refine g_aload_n C 1 rfl dX9_fault_0 0 rfl ?_
  refine g_iconst 0 C 2 rfl dX9_fault_1 ki_0 ?_
  refine g_put (cs9 a Δ (p9_acts s 0)) C 5 rfl dX9_fault_2 hK hP hD hS la_X9 tyX9_ok nmX9 0 18 (Nat.le_of_ble_eq_true rfl) fl_X9_130 rfl rfl rfl rfl rfl rfl (Nat.le_of_ble_eq_true rfl) rfl (fun H L hP hD hS => ?_)
  refine g_iconst 0 C 6 rfl dX9_fault_5 ki_0 ?_
  refine g_istore_n [(1, .int 0), (0, .ref (a 0))] C 7 rfl dX9_fault_6 (Nat.le_of_ble_eq_true rfl) rfl ?_
  refine g_iconst 0 C 8 rfl dX9_fault_7 ki_0 ?_
  refine g_istore_n [(2, .int 0), (1, .int 0), (0, .ref (a 0))] C 9 rfl dX9_fault_8 (Nat.le_of_ble_eq_true rfl) rfl ?_
  have Q9 : ∀ (n : Nat) (x1 : Int32) (x2 : Int32) (s : S9) (o : ((Int32 × S9) ⊕ (Int32 × S9))) (H : Heap) (L : List Loc) (hP : va_P Δ.1 classes (cs9 a Δ s) H) (hD : va_D A (cs9 a Δ s)) (hS : va_S A (sOf Γ).heap H L) (hq : lp_X9_fault_9  n x1 x2 s = some o) (E1 : ∀ r, o = .inl r → gRetW Γ { frames := 4, cells := 0, slots := 0, locals := 89 } 3 cX9_fault (some .int) Δ A (some (.int r.1)) (cs9 a Δ r.2)) (E2 : ∀ x, o = .inr x → ∀ (H : Heap) (L : List Loc), va_P Δ.1 classes (cs9 a Δ x.2) H → va_D A (cs9 a Δ x.2) → va_S A (sOf Γ).heap H L → g Γ { frames := 4, cells := 0, slots := 0, locals := 89 } 3 H L 0 0 41 [(0, .ref (a 0)), (1, .int x.1)] []), g Γ { frames := 4, cells := 0, slots := 0, locals := 89 } 3 H L 0 0 9 [(0, .ref (a 0)), (1, .int x1), (2, .int x2)] [] := by
    intro n
    induction n with
    | zero => intro x1 x2 s o H L hP hD hS hq; exact nomatch (show (none : Option ((Int32 × S9) ⊕ (Int32 × S9))) = some o from hq)
    | succ n ih =>
      intro x1 x2 s o H L hP hD hS hq E1 E2
      have hq : bd_X9_fault_9  (lp_X9_fault_9  n) x1 x2 s = some o := hq
      refine g_iload_n C 10 rfl dX9_fault_9 2 rfl ?_
      refine g_aload_n C 11 rfl dX9_fault_10 0 rfl ?_
      refine g_get (v := .int (x9_padMany s)) C 14 rfl dX9_fault_11 hK hP la_X9 0 13 (Nat.le_of_ble_eq_true rfl) fl_X9_123 rfl rfl rfl rfl ?_
      refine s_icmp_ge C 41 17 rfl dX9_fault_14 (by decide) hq (fun hq => ?_) (fun hq => ?_)
      · cases hq
        exact g_sub [0, 1] rfl (E2 _ rfl _ _ hP hD hS)
      refine g_aload_n C 18 rfl dX9_fault_17 0 rfl ?_
      refine g_iload_n C 19 rfl dX9_fault_18 1 rfl ?_
      refine g_aload_n C 20 rfl dX9_fault_19 0 rfl ?_
      refine g_get (v := .ref (a 9)) C 23 rfl dX9_fault_20 hK hP la_X9 0 12 (Nat.le_of_ble_eq_true rfl) fl_X9_34 rfl rfl rfl rfl ?_
      refine g_iload_n C 24 rfl dX9_fault_23 2 rfl ?_
      refine s_iald C 25 rfl dX9_fault_24 hK hP 9 rfl hq (fun hq hi1 => ?_)
      obtain ⟨r2, hz3, hq⟩ := bindE hq
      refine g_callWV (rest := []) (cs9 a Δ r2.2) C 28 rfl dX9_fault_25 (c_X9_readOn Γ.2.1 Δ a x1 ((x9_pad s) (x2 : Int32).toNatClampNeg) s hz3) mv_X9_readOn ml_X9_151 hK hP hD hS hA [0, 1, 2, 3, 4, 5, 6, 7, 8, 9, 10, 11, 12, 13, 14, 15, 16, 17, 18, 19, 20, 21, 22, 23] [] [0, 1, 2, 3, 4, 5, 6, 7, 8, 9, 10, 11, 12, 13, 14, 15, 16, 17, 18, 19, 20, 21, 22, 23] rfl (by decide) (wr := []) rfl (by decide) (by decide) rfl rfl rfl rfl rfl rfl rfl rfl ⟨Nat.le_of_ble_eq_true rfl, Nat.le_of_ble_eq_true rfl⟩ (Nat.le_of_ble_eq_true rfl) ⟨Nat.zero_le _, Nat.zero_le _⟩ (fun H L hP hD hS => ?_)
      refine g_istore_n [(1, .int r2.1), (0, .ref (a 0)), (2, .int x2)] C 29 rfl dX9_fault_28 (Nat.le_of_ble_eq_true rfl) rfl ?_
      refine g_iload_n C 30 rfl dX9_fault_29 0 rfl ?_
      refine s_if_ge C 35 33 rfl dX9_fault_30 (by decide) hq (fun hq => ?_) (fun hq => ?_)
      · refine g_iinc (x2 + 1) [(2, .int (x2 + 1)), (1, .int r2.1), (0, .ref (a 0))] C 38 rfl dX9_fault_35 2 rfl (ii_1 _) (Nat.le_of_ble_eq_true rfl) rfl ?_
        refine g_goto C 9 dX9_fault_38 (by decide) ?_
        exact g_sub [2, 1, 0] rfl (ih r2.1 (x2 + 1) r2.2 _ _ _ hP hD hS hq E1 E2)
      refine g_iload_n C 34 rfl dX9_fault_33 2 rfl ?_
      cases hq
      exact w_int (ws := fun s => cs9 a Δ s) (E1 _ rfl) rfl hP hS dX9_fault_34 rfl rfl
  obtain ⟨o4, ho5, hq⟩ := bindE hq
  refine g_sub [2, 1, 0] rfl (Q9  FUEL 0 0 (p9_acts s 0) o4 _ _ hP hD hS ho5 (fun r er => ?_) (fun xo4 er => fun H L hP hD hS => ?_))
  · rw [er] at hq
    cases hq
    exact hR
  rw [er] at hq
  clear er
  refine g_iload_n C 42 rfl dX9_fault_41 1 rfl ?_
  refine s_if_ne C 50 45 rfl dX9_fault_42 (by decide) hq (fun hq => ?_) (fun hq => ?_)
  · refine g_aload_n C 51 rfl dX9_fault_50 0 rfl ?_
    refine g_get (v := .int (x9_padMany xo4.2)) C 54 rfl dX9_fault_51 hK hP la_X9 0 13 (Nat.le_of_ble_eq_true rfl) fl_X9_123 rfl rfl rfl rfl ?_
    exact w_int (ws := fun s => cs9 a Δ s) hR hq hP hS dX9_fault_54 rfl rfl
  refine g_bipush (-6) C 47 rfl dX9_fault_45 kb_m6 ?_
  refine g_goto C 54 dX9_fault_47 (by decide) ?_
  exact w_int (ws := fun s => cs9 a Δ s) hR hq hP hS dX9_fault_54 rfl rfl
set_option maxHeartbeats 4000000 in
set_option maxRecDepth 100000 in
theorem c_X9_whyNotSell (l : Launch) (Δ : gD) (a : Nat → Nat) (x1 : Int32) (x2 : Int32) (x3 : Int32) (s : S9) {res : Int32} (hq : sem_X9_whyNotSell x1 x2 x3 s = some res) : MR l yX9_whyNotSell cX9_whyNotSell 4 (some .int) Δ (cs9 a Δ s) [.ref (a 0), .int x1, .int x2, .int x3] 2 46 (.int res) := by
  refine MR.of (by decide) (Nat.le_of_ble_eq_true rfl) ?_
  intro Γ H hl C hK hP hR
  subst hl
  show g Γ { frames := 2, cells := 0, slots := 0, locals := 46 } 4 H [] 0 0 0 [(0, .ref (a 0)), (1, .int x1), (2, .int x2), (3, .int x3)] []
  refine g_aload_n C 1 rfl dX9_whyNotSell_0 0 rfl ?_
  refine g_iload_n C 2 rfl dX9_whyNotSell_1 2 rfl ?_
  obtain ⟨r1, hz2, hq⟩ := bindE hq
  refine g_callRV (rest := []) C 5 rfl dX9_whyNotSell_2 (c_X9_isOne Γ.2.1 Δ a x2 s hz2) mv_X9_isOne ml_X9_107 hK hP rfl rfl rfl rfl rfl ⟨Nat.le_of_ble_eq_true rfl, Nat.le_of_ble_eq_true rfl⟩ (Nat.le_of_ble_eq_true rfl) ⟨Nat.zero_le _, Nat.zero_le _⟩ ?_
  refine s_if_ne C 10 8 rfl dX9_whyNotSell_5 (by decide) hq (fun hq => ?_) (fun hq => ?_)
  rotate_left
  · refine g_iconst 1 C 9 rfl dX9_whyNotSell_8 ki_1 ?_
    exact r_int hR hq dX9_whyNotSell_9 rfl rfl
  refine g_iload_n C 11 rfl dX9_whyNotSell_10 1 rfl ?_
  refine g_iload_n C 12 rfl dX9_whyNotSell_11 2 rfl ?_
  refine s_icmp_ne C 17 15 rfl dX9_whyNotSell_12 (by decide) hq (fun hq => ?_) (fun hq => ?_)
  rotate_left
  · refine g_iconst 2 C 16 rfl dX9_whyNotSell_15 ki_2 ?_
    exact r_int hR hq dX9_whyNotSell_16 rfl rfl
  refine g_aload_n C 18 rfl dX9_whyNotSell_17 0 rfl ?_
  refine g_get (v := .ref (a 3)) C 21 rfl dX9_whyNotSell_18 hK hP la_X9 0 5 (Nat.le_of_ble_eq_true rfl) fl_X9_16 rfl rfl rfl rfl ?_
  refine g_iload_n C 22 rfl dX9_whyNotSell_21 1 rfl ?_
  refine s_iald C 23 rfl dX9_whyNotSell_22 hK hP 3 rfl hq (fun hq hi3 => ?_)
  refine g_iload_n C 24 rfl dX9_whyNotSell_23 3 rfl ?_
  refine s_icmp_ge C 29 27 rfl dX9_whyNotSell_24 (by decide) hq (fun hq => ?_) (fun hq => ?_)
  rotate_left
  · refine g_iconst 5 C 28 rfl dX9_whyNotSell_27 ki_5 ?_
    exact r_int hR hq dX9_whyNotSell_28 rfl rfl
  refine g_aload_n C 30 rfl dX9_whyNotSell_29 0 rfl ?_
  refine g_get (v := .ref (a 4)) C 33 rfl dX9_whyNotSell_30 hK hP la_X9 0 6 (Nat.le_of_ble_eq_true rfl) fl_X9_19 rfl rfl rfl rfl ?_
  refine g_iload_n C 34 rfl dX9_whyNotSell_33 2 rfl ?_
  refine s_iald C 35 rfl dX9_whyNotSell_34 hK hP 4 rfl hq (fun hq hi4 => ?_)
  refine g_iload_n C 36 rfl dX9_whyNotSell_35 3 rfl ?_
  refine s_icmp_lt C 66 39 rfl dX9_whyNotSell_36 (by decide) hq (fun hq => ?_) (fun hq => ?_)
  · refine g_bipush 6 C 68 rfl dX9_whyNotSell_66 kb_6 ?_
    refine g_goto C 72 dX9_whyNotSell_68 (by decide) ?_
    exact r_int hR hq dX9_whyNotSell_72 rfl rfl
  refine g_aload_n C 40 rfl dX9_whyNotSell_39 0 rfl ?_
  refine g_get (v := .ref (a 3)) C 43 rfl dX9_whyNotSell_40 hK hP la_X9 0 5 (Nat.le_of_ble_eq_true rfl) fl_X9_16 rfl rfl rfl rfl ?_
  refine g_iload_n C 44 rfl dX9_whyNotSell_43 2 rfl ?_
  refine s_iald C 45 rfl dX9_whyNotSell_44 hK hP 3 rfl hq (fun hq hi5 => ?_)
  refine g_iload_n C 46 rfl dX9_whyNotSell_45 3 rfl ?_
  refine g_iadd C 47 rfl dX9_whyNotSell_46 ?_
  refine g_bipush 99 C 49 rfl dX9_whyNotSell_47 kb_99 ?_
  refine s_icmp_gt C 66 52 rfl dX9_whyNotSell_49 (by decide) hq (fun hq => ?_) (fun hq => ?_)
  · refine g_bipush 6 C 68 rfl dX9_whyNotSell_66 kb_6 ?_
    refine g_goto C 72 dX9_whyNotSell_68 (by decide) ?_
    exact r_int hR hq dX9_whyNotSell_72 rfl rfl
  refine g_aload_n C 53 rfl dX9_whyNotSell_52 0 rfl ?_
  refine g_get (v := .ref (a 4)) C 56 rfl dX9_whyNotSell_53 hK hP la_X9 0 6 (Nat.le_of_ble_eq_true rfl) fl_X9_19 rfl rfl rfl rfl ?_
  refine g_iload_n C 57 rfl dX9_whyNotSell_56 1 rfl ?_
  refine s_iald C 58 rfl dX9_whyNotSell_57 hK hP 4 rfl hq (fun hq hi6 => ?_)
  refine g_iload_n C 59 rfl dX9_whyNotSell_58 3 rfl ?_
  refine g_iadd C 60 rfl dX9_whyNotSell_59 ?_
  refine g_sipush 999 C 63 rfl dX9_whyNotSell_60 ks_999 ?_
  refine s_icmp_le C 71 66 rfl dX9_whyNotSell_63 (by decide) hq (fun hq => ?_) (fun hq => ?_)
  · refine g_iconst 0 C 72 rfl dX9_whyNotSell_71 ki_0 ?_
    exact r_int hR hq dX9_whyNotSell_72 rfl rfl
  refine g_bipush 6 C 68 rfl dX9_whyNotSell_66 kb_6 ?_
  refine g_goto C 72 dX9_whyNotSell_68 (by decide) ?_
  exact r_int hR hq dX9_whyNotSell_72 rfl rfl
set_option maxHeartbeats 4000000 in
set_option maxRecDepth 100000 in
theorem c_X9_whyNotSwear (l : Launch) (Δ : gD) (a : Nat → Nat) (x1 : Int32) (x2 : Int32) (s : S9) {res : Int32} (hq : sem_X9_whyNotSwear x1 x2 s = some res) : MR l yX9_whyNotSwear cX9_whyNotSwear 3 (some .int) Δ (cs9 a Δ s) [.ref (a 0), .int x1, .int x2] 0 0 (.int res) := by
  refine MR.of (by decide) (Nat.le_of_ble_eq_true rfl) ?_
  intro Γ H hl C hK hP hR
  subst hl
  show g Γ { frames := 0, cells := 0, slots := 0, locals := 0 } 3 H [] 0 0 0 [(0, .ref (a 0)), (1, .int x1), (2, .int x2)] []
  refine g_aload_n C 1 rfl dX9_whyNotSwear_0 0 rfl ?_
  refine g_get (v := .ref (a 1)) C 4 rfl dX9_whyNotSwear_1 hK hP la_X9 0 3 (Nat.le_of_ble_eq_true rfl) fl_X9_7 rfl rfl rfl rfl ?_
  refine g_iload_n C 5 rfl dX9_whyNotSwear_4 1 rfl ?_
  refine s_iald C 6 rfl dX9_whyNotSwear_5 hK hP 1 rfl hq (fun hq hi1 => ?_)
  refine g_iload_n C 7 rfl dX9_whyNotSwear_6 2 rfl ?_
  refine s_icmp_ge C 12 10 rfl dX9_whyNotSwear_7 (by decide) hq (fun hq => ?_) (fun hq => ?_)
  rotate_left
  · refine g_iconst 3 C 11 rfl dX9_whyNotSwear_10 ki_3 ?_
    exact r_int hR hq dX9_whyNotSwear_11 rfl rfl
  refine g_aload_n C 13 rfl dX9_whyNotSwear_12 0 rfl ?_
  refine g_get (v := .ref (a 6)) C 16 rfl dX9_whyNotSwear_13 hK hP la_X9 0 8 (Nat.le_of_ble_eq_true rfl) fl_X9_25 rfl rfl rfl rfl ?_
  refine g_iload_n C 17 rfl dX9_whyNotSwear_16 1 rfl ?_
  refine s_iald C 18 rfl dX9_whyNotSwear_17 hK hP 6 rfl hq (fun hq hi2 => ?_)
  refine s_if_lt C 39 21 rfl dX9_whyNotSwear_18 (by decide) hq (fun hq => ?_) (fun hq => ?_)
  · refine g_iconst 4 C 40 rfl dX9_whyNotSwear_39 ki_4 ?_
    exact r_int hR hq dX9_whyNotSwear_40 rfl rfl
  refine g_aload_n C 22 rfl dX9_whyNotSwear_21 0 rfl ?_
  refine g_get (v := .ref (a 2)) C 25 rfl dX9_whyNotSwear_22 hK hP la_X9 0 4 (Nat.le_of_ble_eq_true rfl) fl_X9_13 rfl rfl rfl rfl ?_
  refine g_iload_n C 26 rfl dX9_whyNotSwear_25 1 rfl ?_
  refine s_iald C 27 rfl dX9_whyNotSwear_26 hK hP 2 rfl hq (fun hq hi3 => ?_)
  refine g_aload_n C 28 rfl dX9_whyNotSwear_27 0 rfl ?_
  refine g_get (v := .ref (a 6)) C 31 rfl dX9_whyNotSwear_28 hK hP la_X9 0 8 (Nat.le_of_ble_eq_true rfl) fl_X9_25 rfl rfl rfl rfl ?_
  refine g_iload_n C 32 rfl dX9_whyNotSwear_31 1 rfl ?_
  refine g_iald C 33 rfl dX9_whyNotSwear_32 hK hP 6 rfl hi2 ?_
  refine g_ishr C 34 rfl dX9_whyNotSwear_33 ?_
  refine g_iconst 1 C 35 rfl dX9_whyNotSwear_34 ki_1 ?_
  refine g_iand C 36 rfl dX9_whyNotSwear_35 ?_
  refine s_if_ne C 41 39 rfl dX9_whyNotSwear_36 (by decide) hq (fun hq => ?_) (fun hq => ?_)
  rotate_left
  · refine g_iconst 4 C 40 rfl dX9_whyNotSwear_39 ki_4 ?_
    exact r_int hR hq dX9_whyNotSwear_40 rfl rfl
  refine g_aload_n C 42 rfl dX9_whyNotSwear_41 0 rfl ?_
  refine g_get (v := .ref (a 3)) C 45 rfl dX9_whyNotSwear_42 hK hP la_X9 0 5 (Nat.le_of_ble_eq_true rfl) fl_X9_16 rfl rfl rfl rfl ?_
  refine g_iload_n C 46 rfl dX9_whyNotSwear_45 1 rfl ?_
  refine s_iald C 47 rfl dX9_whyNotSwear_46 hK hP 3 rfl hq (fun hq hi4 => ?_)
  refine g_iload_n C 48 rfl dX9_whyNotSwear_47 2 rfl ?_
  refine s_icmp_ge C 55 51 rfl dX9_whyNotSwear_48 (by decide) hq (fun hq => ?_) (fun hq => ?_)
  · refine g_iconst 0 C 56 rfl dX9_whyNotSwear_55 ki_0 ?_
    exact r_int hR hq dX9_whyNotSwear_56 rfl rfl
  refine g_iconst 5 C 52 rfl dX9_whyNotSwear_51 ki_5 ?_
  refine g_goto C 56 dX9_whyNotSwear_52 (by decide) ?_
  exact r_int hR hq dX9_whyNotSwear_56 rfl rfl
set_option maxHeartbeats 4000000 in
set_option maxRecDepth 100000 in
theorem c_X9_whyNot (l : Launch) (Δ : gD) (a : Nat → Nat) (x1 : Int32) (x2 : Int32) (x3 : Int32) (x4 : Int32) (s : S9) {res : Int32} (hq : sem_X9_whyNot x1 x2 x3 x4 s = some res) : MR l yX9_whyNot cX9_whyNot 5 (some .int) Δ (cs9 a Δ s) [.ref (a 0), .int x1, .int x2, .int x3, .int x4] 3 69 (.int res) := by
  refine MR.of (by decide) (Nat.le_of_ble_eq_true rfl) ?_
  intro Γ H hl C hK hP hR
  subst hl
  show g Γ { frames := 3, cells := 0, slots := 0, locals := 69 } 5 H [] 0 0 0 [(0, .ref (a 0)), (1, .int x1), (2, .int x2), (3, .int x3), (4, .int x4)] []
  refine g_iload_n C 1 rfl dX9_whyNot_0 1 rfl ?_
  refine g_iconst 4 C 2 rfl dX9_whyNot_1 ki_4 ?_
  refine s_icmp_ne C 7 5 rfl dX9_whyNot_2 (by decide) hq (fun hq => ?_) (fun hq => ?_)
  rotate_left
  · refine g_iconst 0 C 6 rfl dX9_whyNot_5 ki_0 ?_
    exact r_int hR hq dX9_whyNot_6 rfl rfl
  refine g_aload_n C 8 rfl dX9_whyNot_7 0 rfl ?_
  refine g_iload_n C 9 rfl dX9_whyNot_8 2 rfl ?_
  obtain ⟨r1, hz2, hq⟩ := bindE hq
  refine g_callRV (rest := []) C 12 rfl dX9_whyNot_9 (c_X9_isOne Γ.2.1 Δ a x2 s hz2) mv_X9_isOne ml_X9_107 hK hP rfl rfl rfl rfl rfl ⟨Nat.le_of_ble_eq_true rfl, Nat.le_of_ble_eq_true rfl⟩ (Nat.le_of_ble_eq_true rfl) ⟨Nat.zero_le _, Nat.zero_le _⟩ ?_
  refine s_if_ne C 17 15 rfl dX9_whyNot_12 (by decide) hq (fun hq => ?_) (fun hq => ?_)
  rotate_left
  · refine g_iconst 1 C 16 rfl dX9_whyNot_15 ki_1 ?_
    exact r_int hR hq dX9_whyNot_16 rfl rfl
  refine g_iload_n C 18 rfl dX9_whyNot_17 1 rfl ?_
  by_cases hc5 : x1 = 1
  · have hq := if_t hc5 hq
    refine g_tblIn C 44 dX9_whyNot_18 (by rw [hc5]; decide) (by rw [hc5]; decide) (off := 26) (by rw [hc5]; rfl) (by decide) ?_
    refine g_aload_n C 45 rfl dX9_whyNot_44 0 rfl ?_
    refine g_iload_n C 46 rfl dX9_whyNot_45 2 rfl ?_
    refine g_iload C 48 rfl dX9_whyNot_46 4 rfl ?_
    obtain ⟨r3, hz4, hq⟩ := bindE hq
    refine g_callRV (rest := []) C 51 rfl dX9_whyNot_48 (c_X9_whyNotSwear Γ.2.1 Δ a x2 x4 s hz4) mv_X9_whyNotSwear ml_X9_155 hK hP rfl rfl rfl rfl rfl ⟨Nat.le_of_ble_eq_true rfl, Nat.le_of_ble_eq_true rfl⟩ (Nat.le_of_ble_eq_true rfl) ⟨Nat.zero_le _, Nat.zero_le _⟩ ?_
    exact r_int hR hq dX9_whyNot_51 rfl rfl
  replace hq := if_f hc5 hq
  by_cases hc8 : x1 = 2
  · have hq := if_t hc8 hq
    refine g_tblIn C 52 dX9_whyNot_18 (by rw [hc8]; decide) (by rw [hc8]; decide) (off := 34) (by rw [hc8]; rfl) (by decide) ?_
    refine g_aload_n C 53 rfl dX9_whyNot_52 0 rfl ?_
    refine g_iload_n C 54 rfl dX9_whyNot_53 2 rfl ?_
    refine g_iload_n C 55 rfl dX9_whyNot_54 3 rfl ?_
    refine g_iload C 57 rfl dX9_whyNot_55 4 rfl ?_
    obtain ⟨r6, hz7, hq⟩ := bindE hq
    refine g_callRV (rest := []) C 60 rfl dX9_whyNot_57 (c_X9_whyNotSell Γ.2.1 Δ a x2 x3 x4 s hz7) mv_X9_whyNotSell ml_X9_158 hK hP rfl rfl rfl rfl rfl ⟨Nat.le_of_ble_eq_true rfl, Nat.le_of_ble_eq_true rfl⟩ (Nat.le_of_ble_eq_true rfl) ⟨Nat.zero_le _, Nat.zero_le _⟩ ?_
    exact r_int hR hq dX9_whyNot_60 rfl rfl
  replace hq := if_f hc8 hq
  by_cases hc10 : x1 = 3
  · have hq := if_t hc10 hq
    refine g_tblIn C 61 dX9_whyNot_18 (by rw [hc10]; decide) (by rw [hc10]; decide) (off := 43) (by rw [hc10]; rfl) (by decide) ?_
    refine g_aload_n C 62 rfl dX9_whyNot_61 0 rfl ?_
    refine g_get (v := .ref (a 5)) C 65 rfl dX9_whyNot_62 hK hP la_X9 0 7 (Nat.le_of_ble_eq_true rfl) fl_X9_22 rfl rfl rfl rfl ?_
    refine g_iload_n C 66 rfl dX9_whyNot_65 2 rfl ?_
    refine s_iald C 67 rfl dX9_whyNot_66 hK hP 5 rfl hq (fun hq hi9 => ?_)
    refine g_iload C 69 rfl dX9_whyNot_67 4 rfl ?_
    refine s_icmp_ne C 76 72 rfl dX9_whyNot_69 (by decide) hq (fun hq => ?_) (fun hq => ?_)
    · refine g_iconst 0 C 77 rfl dX9_whyNot_76 ki_0 ?_
      exact r_int hR hq dX9_whyNot_77 rfl rfl
    refine g_iconst 2 C 73 rfl dX9_whyNot_72 ki_2 ?_
    refine g_goto C 77 dX9_whyNot_73 (by decide) ?_
    exact r_int hR hq dX9_whyNot_77 rfl rfl
  replace hq := if_f hc10 hq
  refine g_tblOut C 78 dX9_whyNot_18 (by have nhc5 := lv_neT (a := 1) hc5 (by decide); have nhc8 := lv_neT (a := 2) hc8 (by decide); have nhc10 := lv_neT (a := 3) hc10 (by decide); omega) (by decide) ?_
  refine g_iconst 0 C 79 rfl dX9_whyNot_78 ki_0 ?_
  exact r_int hR hq dX9_whyNot_79 rfl rfl
set_option maxHeartbeats 4000000 in
set_option maxRecDepth 100000 in
theorem c_X9_isNear (l : Launch) (Δ : gD) (a : Nat → Nat) (x1 : Int32) (x2 : Int32) (s : S9) {res : Int32} (hq : sem_X9_isNear x1 x2 s = some res) : MR l yX9_isNear cX9_isNear 4 (some .boolean) Δ (cs9 a Δ s) [.ref (a 0), .int x1, .int x2] 0 0 (.int res) := by
  refine MR.of (by decide) (Nat.le_of_ble_eq_true rfl) ?_
  intro Γ H hl C hK hP hR
  subst hl
  show g Γ { frames := 0, cells := 0, slots := 0, locals := 0 } 4 H [] 0 0 0 [(0, .ref (a 0)), (1, .int x1), (2, .int x2)] []
  refine g_aload_n C 1 rfl dX9_isNear_0 0 rfl ?_
  refine g_get (v := .ref (a 5)) C 4 rfl dX9_isNear_1 hK hP la_X9 0 7 (Nat.le_of_ble_eq_true rfl) fl_X9_22 rfl rfl rfl rfl ?_
  refine g_iload_n C 5 rfl dX9_isNear_4 1 rfl ?_
  refine s_iald C 6 rfl dX9_isNear_5 hK hP 5 rfl hq (fun hq hi1 => ?_)
  refine g_aload_n C 7 rfl dX9_isNear_6 0 rfl ?_
  refine g_get (v := .ref (a 5)) C 10 rfl dX9_isNear_7 hK hP la_X9 0 7 (Nat.le_of_ble_eq_true rfl) fl_X9_22 rfl rfl rfl rfl ?_
  refine g_iload_n C 11 rfl dX9_isNear_10 2 rfl ?_
  refine s_iald C 12 rfl dX9_isNear_11 hK hP 5 rfl hq (fun hq hi2 => ?_)
  refine g_isub C 13 rfl dX9_isNear_12 ?_
  refine g_istore_n [(3, .int (((x9_yard s) (x1 : Int32).toNatClampNeg) - ((x9_yard s) (x2 : Int32).toNatClampNeg))), (0, .ref (a 0)), (1, .int x1), (2, .int x2)] C 14 rfl dX9_isNear_13 (Nat.le_of_ble_eq_true rfl) rfl ?_
  refine g_iload_n C 15 rfl dX9_isNear_14 0 rfl ?_
  refine g_aload_n C 16 rfl dX9_isNear_15 1 rfl ?_
  refine g_get (v := .int (x9_ears s)) C 19 rfl dX9_isNear_16 hK hP la_X9 0 2 (Nat.le_of_ble_eq_true rfl) fl_X9_85 rfl rfl rfl rfl ?_
  refine s_icmp_gt C 35 22 rfl dX9_isNear_19 (by decide) hq (fun hq => ?_) (fun hq => ?_)
  · refine g_iconst 0 C 36 rfl dX9_isNear_35 ki_0 ?_
    exact r_int hR hq dX9_isNear_36 rfl rfl
  refine g_iload_n C 23 rfl dX9_isNear_22 0 rfl ?_
  refine g_ineg C 24 rfl dX9_isNear_23 ?_
  refine g_aload_n C 25 rfl dX9_isNear_24 1 rfl ?_
  refine g_get (v := .int (x9_ears s)) C 28 rfl dX9_isNear_25 hK hP la_X9 0 2 (Nat.le_of_ble_eq_true rfl) fl_X9_85 rfl rfl rfl rfl ?_
  refine s_icmp_gt C 35 31 rfl dX9_isNear_28 (by decide) hq (fun hq => ?_) (fun hq => ?_)
  · refine g_iconst 0 C 36 rfl dX9_isNear_35 ki_0 ?_
    exact r_int hR hq dX9_isNear_36 rfl rfl
  refine g_iconst 1 C 32 rfl dX9_isNear_31 ki_1 ?_
  refine g_goto C 36 dX9_isNear_32 (by decide) ?_
  exact r_int hR hq dX9_isNear_36 rfl rfl
set_option maxHeartbeats 4000000 in
set_option maxRecDepth 100000 in
theorem c_X9_heardBy (l : Launch) (Δ : gD) (a : Nat → Nat) (x1 : Int32) (s : S9) {res : Int32} (hq : sem_X9_heardBy x1 s = some res) : MR l yX9_heardBy cX9_heardBy 4 (some .int) Δ (cs9 a Δ s) [.ref (a 0), .int x1] 2 46 (.int res) := by
  refine MR.of (by decide) (Nat.le_of_ble_eq_true rfl) ?_
  intro Γ H hl C hK hP hR
  subst hl
  show g Γ { frames := 2, cells := 0, slots := 0, locals := 46 } 4 H [] 0 0 0 [(0, .ref (a 0)), (1, .int x1)] []
  refine g_iconst 0 C 1 rfl dX9_heardBy_0 ki_0 ?_
  refine g_istore_n [(2, .int 0), (0, .ref (a 0)), (1, .int x1)] C 2 rfl dX9_heardBy_1 (Nat.le_of_ble_eq_true rfl) rfl ?_
  refine g_iconst 0 C 3 rfl dX9_heardBy_2 ki_0 ?_
  refine g_istore_n [(3, .int 0), (2, .int 0), (0, .ref (a 0)), (1, .int x1)] C 4 rfl dX9_heardBy_3 (Nat.le_of_ble_eq_true rfl) rfl ?_
  have Q4 : ∀ (x1 : Int32), ∀ (n : Nat) (x2 : Int32) (x3 : Int32) (o : (Int32)) (hq : lp_X9_heardBy_4 x1 s n x2 x3 = some o) (E2 : g Γ { frames := 2, cells := 0, slots := 0, locals := 46 } 4 H [] 0 0 48 [(2, .int o)] []), g Γ { frames := 2, cells := 0, slots := 0, locals := 46 } 4 H [] 0 0 4 [(0, .ref (a 0)), (1, .int x1), (2, .int x2), (3, .int x3)] [] := by
    intro x1
    intro n
    induction n with
    | zero => intro x2 x3 o hq; exact nomatch (show (none : Option (Int32)) = some o from hq)
    | succ n ih =>
      intro x2 x3 o hq E2
      have hq : bd_X9_heardBy_4 x1 s (lp_X9_heardBy_4 x1 s n) x2 x3 = some o := hq
      refine g_iload_n C 5 rfl dX9_heardBy_4 3 rfl ?_
      refine g_bipush 6 C 7 rfl dX9_heardBy_5 kb_6 ?_
      refine s_icmp_ge C 48 10 rfl dX9_heardBy_7 (by decide) hq (fun hq => ?_) (fun hq => ?_)
      · cases hq
        exact g_sub [2] rfl (E2 )
      refine g_iload_n C 11 rfl dX9_heardBy_10 2 rfl ?_
      refine g_aload_n C 12 rfl dX9_heardBy_11 0 rfl ?_
      refine g_iload_n C 13 rfl dX9_heardBy_12 3 rfl ?_
      obtain ⟨r1, hz2, hq⟩ := bindE hq
      refine g_callRV (rest := [.int x2]) C 16 rfl dX9_heardBy_13 (c_X9_isOne Γ.2.1 Δ a x3 s hz2) mv_X9_isOne ml_X9_107 hK hP rfl rfl rfl rfl rfl ⟨Nat.le_of_ble_eq_true rfl, Nat.le_of_ble_eq_true rfl⟩ (Nat.le_of_ble_eq_true rfl) ⟨Nat.zero_le _, Nat.zero_le _⟩ ?_
      refine s_if_eq C 39 19 rfl dX9_heardBy_16 (by decide) hq (fun hq => ?_) (fun hq => ?_)
      · refine g_iconst 0 C 40 rfl dX9_heardBy_39 ki_0 ?_
        refine g_ior C 41 rfl dX9_heardBy_40 ?_
        refine g_istore_n [(2, .int (x2 ||| 0)), (0, .ref (a 0)), (1, .int x1), (3, .int x3)] C 42 rfl dX9_heardBy_41 (Nat.le_of_ble_eq_true rfl) rfl ?_
        refine g_iinc (x3 + 1) [(3, .int (x3 + 1)), (2, .int (x2 ||| 0)), (0, .ref (a 0)), (1, .int x1)] C 45 rfl dX9_heardBy_42 3 rfl (ii_1 _) (Nat.le_of_ble_eq_true rfl) rfl ?_
        refine g_goto C 4 dX9_heardBy_45 (by decide) ?_
        exact g_sub [2, 3, 1, 0] rfl (ih (x2 ||| 0) (x3 + 1) _ hq E2)
      refine g_iload_n C 20 rfl dX9_heardBy_19 3 rfl ?_
      refine g_iload_n C 21 rfl dX9_heardBy_20 1 rfl ?_
      refine s_icmp_eq C 39 24 rfl dX9_heardBy_21 (by decide) hq (fun hq => ?_) (fun hq => ?_)
      · refine g_iconst 0 C 40 rfl dX9_heardBy_39 ki_0 ?_
        refine g_ior C 41 rfl dX9_heardBy_40 ?_
        refine g_istore_n [(2, .int (x2 ||| 0)), (0, .ref (a 0)), (1, .int x1), (3, .int x3)] C 42 rfl dX9_heardBy_41 (Nat.le_of_ble_eq_true rfl) rfl ?_
        refine g_iinc (x3 + 1) [(3, .int (x3 + 1)), (2, .int (x2 ||| 0)), (0, .ref (a 0)), (1, .int x1)] C 45 rfl dX9_heardBy_42 3 rfl (ii_1 _) (Nat.le_of_ble_eq_true rfl) rfl ?_
        refine g_goto C 4 dX9_heardBy_45 (by decide) ?_
        exact g_sub [2, 3, 1, 0] rfl (ih (x2 ||| 0) (x3 + 1) _ hq E2)
      refine g_aload_n C 25 rfl dX9_heardBy_24 0 rfl ?_
      refine g_iload_n C 26 rfl dX9_heardBy_25 3 rfl ?_
      refine g_iload_n C 27 rfl dX9_heardBy_26 1 rfl ?_
      obtain ⟨r3, hz4, hq⟩ := bindE hq
      refine g_callRV (rest := [.int x2]) C 30 rfl dX9_heardBy_27 (c_X9_isNear Γ.2.1 Δ a x3 x1 s hz4) mv_X9_isNear ml_X9_162 hK hP rfl rfl rfl rfl rfl ⟨Nat.le_of_ble_eq_true rfl, Nat.le_of_ble_eq_true rfl⟩ (Nat.le_of_ble_eq_true rfl) ⟨Nat.zero_le _, Nat.zero_le _⟩ ?_
      refine s_if_eq C 39 33 rfl dX9_heardBy_30 (by decide) hq (fun hq => ?_) (fun hq => ?_)
      · refine g_iconst 0 C 40 rfl dX9_heardBy_39 ki_0 ?_
        refine g_ior C 41 rfl dX9_heardBy_40 ?_
        refine g_istore_n [(2, .int (x2 ||| 0)), (0, .ref (a 0)), (1, .int x1), (3, .int x3)] C 42 rfl dX9_heardBy_41 (Nat.le_of_ble_eq_true rfl) rfl ?_
        refine g_iinc (x3 + 1) [(3, .int (x3 + 1)), (2, .int (x2 ||| 0)), (0, .ref (a 0)), (1, .int x1)] C 45 rfl dX9_heardBy_42 3 rfl (ii_1 _) (Nat.le_of_ble_eq_true rfl) rfl ?_
        refine g_goto C 4 dX9_heardBy_45 (by decide) ?_
        exact g_sub [2, 3, 1, 0] rfl (ih (x2 ||| 0) (x3 + 1) _ hq E2)
      refine g_iconst 1 C 34 rfl dX9_heardBy_33 ki_1 ?_
      refine g_iload_n C 35 rfl dX9_heardBy_34 3 rfl ?_
      refine g_ishl C 36 rfl dX9_heardBy_35 ?_
      refine g_goto C 40 dX9_heardBy_36 (by decide) ?_
      refine g_ior C 41 rfl dX9_heardBy_40 ?_
      refine g_istore_n [(2, .int (x2 ||| ((1 : Int32) <<< (x3 &&& 31)))), (0, .ref (a 0)), (1, .int x1), (3, .int x3)] C 42 rfl dX9_heardBy_41 (Nat.le_of_ble_eq_true rfl) rfl ?_
      refine g_iinc (x3 + 1) [(3, .int (x3 + 1)), (2, .int (x2 ||| ((1 : Int32) <<< (x3 &&& 31)))), (0, .ref (a 0)), (1, .int x1)] C 45 rfl dX9_heardBy_42 3 rfl (ii_1 _) (Nat.le_of_ble_eq_true rfl) rfl ?_
      refine g_goto C 4 dX9_heardBy_45 (by decide) ?_
      exact g_sub [2, 3, 1, 0] rfl (ih (x2 ||| ((1 : Int32) <<< (x3 &&& 31))) (x3 + 1) _ hq E2)
  obtain ⟨o5, ho6, hq⟩ := bindE hq
  refine g_sub [2, 3, 1, 0] rfl (Q4 x1 FUEL 0 0 o5 ho6 (?_))
  refine g_iload_n C 49 rfl dX9_heardBy_48 0 rfl ?_
  exact r_int hR hq dX9_heardBy_49 rfl rfl
set_option maxHeartbeats 4000000 in
set_option maxRecDepth 100000 in
theorem c_X9_slip (l : Launch) (Δ : gD) (a : Nat → Nat) (x1 : Int32) (s : S9) {res : S9} (hq : sem_X9_slip x1 s = some res) : MW l yX9_slip cX9_slip 5 none Δ (cs9 a Δ s) [.ref (a 0), .int x1] 3 69 none (cs9 a Δ res) := by
  refine MW.of (by decide) (Nat.le_of_ble_eq_true rfl) ?_
  intro Γ A H hl C hK hP hD hS hA hR
  subst hl
  have K38 : ∀ (x1 : Int32) (x2 : Int32) (y0 : Int32) (s : S9) (H : Heap) (L : List Loc) (hP : va_P Δ.1 classes (cs9 a Δ s) H) (hD : va_D A (cs9 a Δ s)) (hS : va_S A (sOf Γ).heap H L), jn_X9_slip_38 x1 x2 y0 s = some res → g Γ { frames := 3, cells := 0, slots := 0, locals := 69 } 5 H L 0 0 38 [(0, .ref (a 0)), (1, .int x1), (2, .int x2)] [.int y0] := by
    intro x1 x2 y0 s H L hP hD hS hq
    refine g_istore [(4, .int y0), (0, .ref (a 0)), (1, .int x1), (2, .int x2)] C 40 rfl dX9_slip_38 (Nat.le_of_ble_eq_true rfl) rfl ?_
    refine g_aload_n C 41 rfl dX9_slip_40 1 rfl ?_
    refine g_get (v := .ref (a 4)) C 44 rfl dX9_slip_41 hK hP la_X9 0 6 (Nat.le_of_ble_eq_true rfl) fl_X9_19 rfl rfl rfl rfl ?_
    refine g_iload_n C 45 rfl dX9_slip_44 2 rfl ?_
    refine g_dup2 C 46 rfl dX9_slip_45 rfl rfl ?_
    refine s_iald C 47 rfl dX9_slip_46 hK hP 4 rfl hq (fun hq hi1 => ?_)
    refine g_iload C 49 rfl dX9_slip_47 0 rfl ?_
    refine g_isub C 50 rfl dX9_slip_49 ?_
    refine g_iast (cs9 a Δ (p9_purse s (upd (x9_purse s) (x1 : Int32).toNatClampNeg (((x9_purse s) (x1 : Int32).toNatClampNeg) - y0)))) C 51 rfl dX9_slip_50 hK hP hD hS 4 rfl hi1 rfl (fun H L hP hD hS => ?_)
    refine g_aload_n C 52 rfl dX9_slip_51 1 rfl ?_
    refine g_dup C 53 rfl dX9_slip_52 rfl ?_
    refine g_get (v := .int (x9_paid s)) C 56 rfl dX9_slip_53 hK hP la_X9 0 23 (Nat.le_of_ble_eq_true rfl) fl_X9_169 rfl rfl rfl rfl ?_
    refine g_iload C 58 rfl dX9_slip_56 0 rfl ?_
    refine g_iadd C 59 rfl dX9_slip_58 ?_
    refine g_put (cs9 a Δ (p9_paid (p9_purse s (upd (x9_purse s) (x1 : Int32).toNatClampNeg (((x9_purse s) (x1 : Int32).toNatClampNeg) - y0))) ((x9_paid s) + y0))) C 62 rfl dX9_slip_59 hK hP hD hS la_X9 tyX9_ok nmX9 0 23 (Nat.le_of_ble_eq_true rfl) fl_X9_169 rfl rfl rfl rfl rfl rfl (Nat.le_of_ble_eq_true rfl) rfl (fun H L hP hD hS => ?_)
    refine g_aload_n C 63 rfl dX9_slip_62 1 rfl ?_
    refine g_get (v := .ref (a 1)) C 66 rfl dX9_slip_63 hK hP la_X9 0 3 (Nat.le_of_ble_eq_true rfl) fl_X9_7 rfl rfl rfl rfl ?_
    refine g_iload_n C 67 rfl dX9_slip_66 2 rfl ?_
    refine g_iconst 0 C 68 rfl dX9_slip_67 ki_0 ?_
    refine s_iast (cs9 a Δ (p9_temper (p9_paid (p9_purse s (upd (x9_purse s) (x1 : Int32).toNatClampNeg (((x9_purse s) (x1 : Int32).toNatClampNeg) - y0))) ((x9_paid s) + y0)) (upd (x9_temper s) (x1 : Int32).toNatClampNeg 0))) C 69 rfl dX9_slip_68 hK hP hD hS 1 rfl hq rfl (fun hq hi2 H L hP hD hS => ?_)
    refine g_aload_n C 70 rfl dX9_slip_69 1 rfl ?_
    refine g_get (v := .int (x9_slipMany s)) C 73 rfl dX9_slip_70 hK hP la_X9 0 19 (Nat.le_of_ble_eq_true rfl) fl_X9_172 rfl rfl rfl rfl ?_
    refine s_if_ne C 94 76 rfl dX9_slip_73 (by decide) hq (fun hq => ?_) (fun hq => ?_)
    · refine g_aload_n C 95 rfl dX9_slip_94 1 rfl ?_
      refine g_dup C 96 rfl dX9_slip_95 rfl ?_
      refine g_get (v := .int (x9_slipMany s)) C 99 rfl dX9_slip_96 hK hP la_X9 0 19 (Nat.le_of_ble_eq_true rfl) fl_X9_172 rfl rfl rfl rfl ?_
      refine g_iconst 1 C 100 rfl dX9_slip_99 ki_1 ?_
      refine g_iadd C 101 rfl dX9_slip_100 ?_
      refine g_put (cs9 a Δ (p9_slipMany (p9_temper (p9_paid (p9_purse s (upd (x9_purse s) (x1 : Int32).toNatClampNeg (((x9_purse s) (x1 : Int32).toNatClampNeg) - y0))) ((x9_paid s) + y0)) (upd (x9_temper s) (x1 : Int32).toNatClampNeg 0)) ((x9_slipMany s) + 1))) C 104 rfl dX9_slip_101 hK hP hD hS la_X9 tyX9_ok nmX9 0 19 (Nat.le_of_ble_eq_true rfl) fl_X9_172 rfl rfl rfl rfl rfl rfl (Nat.le_of_ble_eq_true rfl) rfl (fun H L hP hD hS => ?_)
      exact w_void (ws := fun s => cs9 a Δ s) hR hq hP hS dX9_slip_104 rfl
    refine g_aload_n C 77 rfl dX9_slip_76 1 rfl ?_
    refine g_aload_n C 78 rfl dX9_slip_77 1 rfl ?_
    refine g_get (v := .int (x9_actNow s)) C 81 rfl dX9_slip_78 hK hP la_X9 0 24 (Nat.le_of_ble_eq_true rfl) fl_X9_175 rfl rfl rfl rfl ?_
    refine g_put (cs9 a Δ (p9_firstSlip (p9_temper (p9_paid (p9_purse s (upd (x9_purse s) (x1 : Int32).toNatClampNeg (((x9_purse s) (x1 : Int32).toNatClampNeg) - y0))) ((x9_paid s) + y0)) (upd (x9_temper s) (x1 : Int32).toNatClampNeg 0)) (x9_actNow s))) C 84 rfl dX9_slip_81 hK hP hD hS la_X9 tyX9_ok nmX9 0 20 (Nat.le_of_ble_eq_true rfl) fl_X9_178 rfl rfl rfl rfl rfl rfl (Nat.le_of_ble_eq_true rfl) rfl (fun H L hP hD hS => ?_)
    refine g_aload_n C 85 rfl dX9_slip_84 1 rfl ?_
    refine g_iload_n C 86 rfl dX9_slip_85 2 rfl ?_
    refine g_put (cs9 a Δ (p9_firstWho (p9_firstSlip (p9_temper (p9_paid (p9_purse s (upd (x9_purse s) (x1 : Int32).toNatClampNeg (((x9_purse s) (x1 : Int32).toNatClampNeg) - y0))) ((x9_paid s) + y0)) (upd (x9_temper s) (x1 : Int32).toNatClampNeg 0)) (x9_actNow s)) x1)) C 89 rfl dX9_slip_86 hK hP hD hS la_X9 tyX9_ok nmX9 0 21 (Nat.le_of_ble_eq_true rfl) fl_X9_181 rfl rfl rfl rfl rfl rfl (Nat.le_of_ble_eq_true rfl) rfl (fun H L hP hD hS => ?_)
    refine g_aload_n C 90 rfl dX9_slip_89 1 rfl ?_
    refine g_iload_n C 91 rfl dX9_slip_90 3 rfl ?_
    refine g_put (cs9 a Δ (p9_firstHeard (p9_firstWho (p9_firstSlip (p9_temper (p9_paid (p9_purse s (upd (x9_purse s) (x1 : Int32).toNatClampNeg (((x9_purse s) (x1 : Int32).toNatClampNeg) - y0))) ((x9_paid s) + y0)) (upd (x9_temper s) (x1 : Int32).toNatClampNeg 0)) (x9_actNow s)) x1) x2)) C 94 rfl dX9_slip_91 hK hP hD hS la_X9 tyX9_ok nmX9 0 22 (Nat.le_of_ble_eq_true rfl) fl_X9_184 rfl rfl rfl rfl rfl rfl (Nat.le_of_ble_eq_true rfl) rfl (fun H L hP hD hS => ?_)
    refine g_aload_n C 95 rfl dX9_slip_94 1 rfl ?_
    refine g_dup C 96 rfl dX9_slip_95 rfl ?_
    refine g_get (v := .int (x9_slipMany s)) C 99 rfl dX9_slip_96 hK hP la_X9 0 19 (Nat.le_of_ble_eq_true rfl) fl_X9_172 rfl rfl rfl rfl ?_
    refine g_iconst 1 C 100 rfl dX9_slip_99 ki_1 ?_
    refine g_iadd C 101 rfl dX9_slip_100 ?_
    refine g_put (cs9 a Δ (p9_slipMany (p9_firstHeard (p9_firstWho (p9_firstSlip (p9_temper (p9_paid (p9_purse s (upd (x9_purse s) (x1 : Int32).toNatClampNeg (((x9_purse s) (x1 : Int32).toNatClampNeg) - y0))) ((x9_paid s) + y0)) (upd (x9_temper s) (x1 : Int32).toNatClampNeg 0)) (x9_actNow s)) x1) x2) ((x9_slipMany s) + 1))) C 104 rfl dX9_slip_101 hK hP hD hS la_X9 tyX9_ok nmX9 0 19 (Nat.le_of_ble_eq_true rfl) fl_X9_172 rfl rfl rfl rfl rfl rfl (Nat.le_of_ble_eq_true rfl) rfl (fun H L hP hD hS => ?_)
    exact w_void (ws := fun s => cs9 a Δ s) hR hq hP hS dX9_slip_104 rfl
  show g Γ { frames := 3, cells := 0, slots := 0, locals := 69 } 5 H [] 0 0 0 [(0, .ref (a 0)), (1, .int x1)] []
  refine g_aload_n C 1 rfl dX9_slip_0 0 rfl ?_
  refine g_iload_n C 2 rfl dX9_slip_1 1 rfl ?_
  obtain ⟨r3, hz4, hq⟩ := bindE hq
  refine g_callRV (rest := []) C 5 rfl dX9_slip_2 (c_X9_heardBy Γ.2.1 Δ a x1 s hz4) mv_X9_heardBy ml_X9_166 hK hP rfl rfl rfl rfl rfl ⟨Nat.le_of_ble_eq_true rfl, Nat.le_of_ble_eq_true rfl⟩ (Nat.le_of_ble_eq_true rfl) ⟨Nat.zero_le _, Nat.zero_le _⟩ ?_
  obtain ⟨r5, hz6, hq⟩ := bindE hq
  refine g_callRS (rest := []) C 8 rfl dX9_slip_5 (c_X9_ones Γ.2.1 Δ  r3  hz6) mv_X9_ones (Or.inl ml_X9_103) hK rfl rfl ⟨Nat.le_of_ble_eq_true rfl, Nat.le_of_ble_eq_true rfl⟩ (Nat.le_of_ble_eq_true rfl) ⟨Nat.zero_le _, Nat.zero_le _⟩ ?_
  refine g_istore_n [(2, .int r5), (0, .ref (a 0)), (1, .int x1)] C 9 rfl dX9_slip_8 (Nat.le_of_ble_eq_true rfl) rfl ?_
  refine g_aload_n C 10 rfl dX9_slip_9 1 rfl ?_
  refine g_get (v := .ref (a 1)) C 13 rfl dX9_slip_10 hK hP la_X9 0 3 (Nat.le_of_ble_eq_true rfl) fl_X9_7 rfl rfl rfl rfl ?_
  refine g_iload_n C 14 rfl dX9_slip_13 2 rfl ?_
  refine s_iald C 15 rfl dX9_slip_14 hK hP 1 rfl hq (fun hq hi7 => ?_)
  refine g_iload_n C 16 rfl dX9_slip_15 0 rfl ?_
  refine g_imul C 17 rfl dX9_slip_16 ?_
  refine g_istore_n [(3, .int (((x9_temper s) (x1 : Int32).toNatClampNeg) * r5)), (2, .int r5), (0, .ref (a 0)), (1, .int x1)] C 18 rfl dX9_slip_17 (Nat.le_of_ble_eq_true rfl) rfl ?_
  refine g_iload_n C 19 rfl dX9_slip_18 0 rfl ?_
  refine g_aload_n C 20 rfl dX9_slip_19 2 rfl ?_
  refine g_get (v := .ref (a 4)) C 23 rfl dX9_slip_20 hK hP la_X9 0 6 (Nat.le_of_ble_eq_true rfl) fl_X9_19 rfl rfl rfl rfl ?_
  refine g_iload_n C 24 rfl dX9_slip_23 3 rfl ?_
  refine s_iald C 25 rfl dX9_slip_24 hK hP 4 rfl hq (fun hq hi8 => ?_)
  refine s_icmp_ge C 32 28 rfl dX9_slip_25 (by decide) hq (fun hq => ?_) (fun hq => ?_)
  rotate_left
  · refine g_iload_n C 29 rfl dX9_slip_28 0 rfl ?_
    refine g_goto C 38 dX9_slip_29 (by decide) ?_
    exact g_sub [2, 3, 1] rfl (K38 x1 r5 (((x9_temper s) (x1 : Int32).toNatClampNeg) * r5) s _ _ hP hD hS hq)
  refine g_aload_n C 33 rfl dX9_slip_32 2 rfl ?_
  refine g_get (v := .ref (a 4)) C 36 rfl dX9_slip_33 hK hP la_X9 0 6 (Nat.le_of_ble_eq_true rfl) fl_X9_19 rfl rfl rfl rfl ?_
  refine g_iload_n C 37 rfl dX9_slip_36 3 rfl ?_
  refine g_iald C 38 rfl dX9_slip_37 hK hP 4 rfl hi8 ?_
  exact g_sub [2, 3, 1] rfl (K38 x1 r5 ((x9_purse s) (x1 : Int32).toNatClampNeg) s _ _ hP hD hS hq)
set_option maxHeartbeats 4000000 in
set_option maxRecDepth 100000 in
theorem c_X9_befall (l : Launch) (Δ : gD) (a : Nat → Nat) (x1 : Int32) (x2 : Int32) (x3 : Int32) (s : S9) {res : S9} (hq : sem_X9_befall x1 x2 x3 s = some res) : MW l yX9_befall cX9_befall 4 none Δ (cs9 a Δ s) [.ref (a 0), .int x1, .int x2, .int x3] 4 93 none (cs9 a Δ res) := by
  refine MW.of (by decide) (Nat.le_of_ble_eq_true rfl) ?_
  intro Γ A H hl C hK hP hD hS hA hR
  subst hl
  show g Γ { frames := 4, cells := 0, slots := 0, locals := 93 } 4 H [] 0 0 0 [(0, .ref (a 0)), (1, .int x1), (2, .int x2), (3, .int x3)] []
  refine g_aload_n C 1 rfl dX9_befall_0 0 rfl ?_
  refine g_get (v := .ref (a 1)) C 4 rfl dX9_befall_1 hK hP la_X9 0 3 (Nat.le_of_ble_eq_true rfl) fl_X9_7 rfl rfl rfl rfl ?_
  refine g_iload_n C 5 rfl dX9_befall_4 1 rfl ?_
  refine g_dup2 C 6 rfl dX9_befall_5 rfl rfl ?_
  refine s_iald C 7 rfl dX9_befall_6 hK hP 1 rfl hq (fun hq hi1 => ?_)
  refine g_iload_n C 8 rfl dX9_befall_7 3 rfl ?_
  refine g_iadd C 9 rfl dX9_befall_8 ?_
  refine g_iast (cs9 a Δ (p9_temper s (upd (x9_temper s) (x1 : Int32).toNatClampNeg (((x9_temper s) (x1 : Int32).toNatClampNeg) + x3)))) C 10 rfl dX9_befall_9 hK hP hD hS 1 rfl hi1 rfl (fun H L hP hD hS => ?_)
  refine g_aload_n C 11 rfl dX9_befall_10 0 rfl ?_
  refine g_get (v := .ref (a 6)) C 14 rfl dX9_befall_11 hK hP la_X9 0 8 (Nat.le_of_ble_eq_true rfl) fl_X9_25 rfl rfl rfl rfl ?_
  refine g_iload_n C 15 rfl dX9_befall_14 1 rfl ?_
  refine g_iload_n C 16 rfl dX9_befall_15 2 rfl ?_
  refine s_iast (cs9 a Δ (p9_cause (p9_temper s (upd (x9_temper s) (x1 : Int32).toNatClampNeg (((x9_temper s) (x1 : Int32).toNatClampNeg) + x3))) (upd (x9_cause s) (x1 : Int32).toNatClampNeg x2))) C 17 rfl dX9_befall_16 hK hP hD hS 6 rfl hq rfl (fun hq hi2 H L hP hD hS => ?_)
  refine g_aload_n C 18 rfl dX9_befall_17 0 rfl ?_
  refine g_get (v := .ref (a 1)) C 21 rfl dX9_befall_18 hK hP la_X9 0 3 (Nat.le_of_ble_eq_true rfl) fl_X9_7 rfl rfl rfl rfl ?_
  refine g_iload_n C 22 rfl dX9_befall_21 1 rfl ?_
  refine g_iald C 23 rfl dX9_befall_22 hK hP 1 rfl hi1 ?_
  refine g_aload_n C 24 rfl dX9_befall_23 0 rfl ?_
  refine g_get (v := .int (x9_limit s)) C 27 rfl dX9_befall_24 hK hP la_X9 0 1 (Nat.le_of_ble_eq_true rfl) fl_X9_81 rfl rfl rfl rfl ?_
  refine s_icmp_le C 35 30 rfl dX9_befall_27 (by decide) hq (fun hq => ?_) (fun hq => ?_)
  · exact w_void (ws := fun s => cs9 a Δ s) hR hq hP hS dX9_befall_35 rfl
  refine g_aload_n C 31 rfl dX9_befall_30 0 rfl ?_
  refine g_iload_n C 32 rfl dX9_befall_31 1 rfl ?_
  obtain ⟨r3, hz4, hq⟩ := bindE hq
  refine g_callWV (rest := []) (cs9 a Δ r3) C 35 rfl dX9_befall_32 (c_X9_slip Γ.2.1 Δ a x1 (p9_cause (p9_temper s (upd (x9_temper s) (x1 : Int32).toNatClampNeg (((x9_temper s) (x1 : Int32).toNatClampNeg) + x3))) (upd (x9_cause s) (x1 : Int32).toNatClampNeg x2)) hz4) mv_X9_slip ml_X9_187 hK hP hD hS hA [0, 1, 2, 3, 4, 5, 6, 7, 8, 9, 10, 11, 12, 13, 14, 15, 16, 17, 18, 19, 20, 21, 22, 23] [] [0, 1, 2, 3, 4, 5, 6, 7, 8, 9, 10, 11, 12, 13, 14, 15, 16, 17, 18, 19, 20, 21, 22, 23] rfl (by decide) (wr := []) rfl (by decide) (by decide) rfl rfl rfl rfl rfl rfl rfl rfl ⟨Nat.le_of_ble_eq_true rfl, Nat.le_of_ble_eq_true rfl⟩ (Nat.le_of_ble_eq_true rfl) ⟨Nat.zero_le _, Nat.zero_le _⟩ (fun H L hP hD hS => ?_)
  exact w_void (ws := fun s => cs9 a Δ s) hR hq hP hS dX9_befall_35 rfl
set_option maxHeartbeats 4000000 in
set_option maxRecDepth 100000 in
theorem c_X9_endHour (l : Launch) (Δ : gD) (a : Nat → Nat)  (s : S9) {res : S9} (hq : sem_X9_endHour  s = some res) : MW l yX9_endHour cX9_endHour 2 none Δ (cs9 a Δ s) [.ref (a 0)] 0 0 none (cs9 a Δ res) := by
  refine MW.of (by decide) (Nat.le_of_ble_eq_true rfl) ?_
  intro Γ A H hl C hK hP hD hS hA hR
  subst hl
  show g Γ { frames := 0, cells := 0, slots := 0, locals := 0 } 2 H [] 0 0 0 [(0, .ref (a 0))] []
  refine g_iconst 0 C 1 rfl dX9_endHour_0 ki_0 ?_
  refine g_istore_n [(1, .int 0), (0, .ref (a 0))] C 2 rfl dX9_endHour_1 (Nat.le_of_ble_eq_true rfl) rfl ?_
  have Q2 : ∀ (n : Nat) (x1 : Int32) (s : S9) (o : (S9)) (H : Heap) (L : List Loc) (hP : va_P Δ.1 classes (cs9 a Δ s) H) (hD : va_D A (cs9 a Δ s)) (hS : va_S A (sOf Γ).heap H L) (hq : lp_X9_endHour_2  n x1 s = some o) (E2 : ∀ (H : Heap) (L : List Loc), va_P Δ.1 classes (cs9 a Δ o) H → va_D A (cs9 a Δ o) → va_S A (sOf Γ).heap H L → g Γ { frames := 0, cells := 0, slots := 0, locals := 0 } 2 H L 0 0 37 [] []), g Γ { frames := 0, cells := 0, slots := 0, locals := 0 } 2 H L 0 0 2 [(0, .ref (a 0)), (1, .int x1)] [] := by
    intro n
    induction n with
    | zero => intro x1 s o H L hP hD hS hq; exact nomatch (show (none : Option (S9)) = some o from hq)
    | succ n ih =>
      intro x1 s o H L hP hD hS hq E2
      have hq : bd_X9_endHour_2  (lp_X9_endHour_2  n) x1 s = some o := hq
      refine g_iload_n C 3 rfl dX9_endHour_2 1 rfl ?_
      refine g_bipush 6 C 5 rfl dX9_endHour_3 kb_6 ?_
      refine s_icmp_ge C 37 8 rfl dX9_endHour_5 (by decide) hq (fun hq => ?_) (fun hq => ?_)
      · cases hq
        exact g_sub [] rfl (E2 _ _ hP hD hS)
      refine g_aload_n C 9 rfl dX9_endHour_8 0 rfl ?_
      refine g_get (v := .ref (a 1)) C 12 rfl dX9_endHour_9 hK hP la_X9 0 3 (Nat.le_of_ble_eq_true rfl) fl_X9_7 rfl rfl rfl rfl ?_
      refine g_iload_n C 13 rfl dX9_endHour_12 1 rfl ?_
      refine g_dup2 C 14 rfl dX9_endHour_13 rfl rfl ?_
      refine s_iald C 15 rfl dX9_endHour_14 hK hP 1 rfl hq (fun hq hi1 => ?_)
      refine g_aload_n C 16 rfl dX9_endHour_15 0 rfl ?_
      refine g_get (v := .ref (a 1)) C 19 rfl dX9_endHour_16 hK hP la_X9 0 3 (Nat.le_of_ble_eq_true rfl) fl_X9_7 rfl rfl rfl rfl ?_
      refine g_iload_n C 20 rfl dX9_endHour_19 1 rfl ?_
      refine g_iald C 21 rfl dX9_endHour_20 hK hP 1 rfl hi1 ?_
      refine s_if_le C 28 24 rfl dX9_endHour_21 (by decide) hq (fun hq => ?_) (fun hq => ?_)
      · refine g_iconst 0 C 29 rfl dX9_endHour_28 ki_0 ?_
        refine g_isub C 30 rfl dX9_endHour_29 ?_
        refine g_iast (cs9 a Δ (p9_temper s (upd (x9_temper s) (x1 : Int32).toNatClampNeg (((x9_temper s) (x1 : Int32).toNatClampNeg) - 0)))) C 31 rfl dX9_endHour_30 hK hP hD hS 1 rfl hi1 rfl (fun H L hP hD hS => ?_)
        refine g_iinc (x1 + 1) [(1, .int (x1 + 1)), (0, .ref (a 0))] C 34 rfl dX9_endHour_31 1 rfl (ii_1 _) (Nat.le_of_ble_eq_true rfl) rfl ?_
        refine g_goto C 2 dX9_endHour_34 (by decide) ?_
        exact g_sub [1, 0] rfl (ih (x1 + 1) (p9_temper s (upd (x9_temper s) (x1 : Int32).toNatClampNeg (((x9_temper s) (x1 : Int32).toNatClampNeg) - 0))) _ _ _ hP hD hS hq E2)
      refine g_iconst 1 C 25 rfl dX9_endHour_24 ki_1 ?_
      refine g_goto C 29 dX9_endHour_25 (by decide) ?_
      refine g_isub C 30 rfl dX9_endHour_29 ?_
      refine g_iast (cs9 a Δ (p9_temper s (upd (x9_temper s) (x1 : Int32).toNatClampNeg (((x9_temper s) (x1 : Int32).toNatClampNeg) - 1)))) C 31 rfl dX9_endHour_30 hK hP hD hS 1 rfl hi1 rfl (fun H L hP hD hS => ?_)
      refine g_iinc (x1 + 1) [(1, .int (x1 + 1)), (0, .ref (a 0))] C 34 rfl dX9_endHour_31 1 rfl (ii_1 _) (Nat.le_of_ble_eq_true rfl) rfl ?_
      refine g_goto C 2 dX9_endHour_34 (by decide) ?_
      exact g_sub [1, 0] rfl (ih (x1 + 1) (p9_temper s (upd (x9_temper s) (x1 : Int32).toNatClampNeg (((x9_temper s) (x1 : Int32).toNatClampNeg) - 1))) _ _ _ hP hD hS hq E2)
  obtain ⟨o2, ho3, hq⟩ := bindE hq
  refine g_sub [1, 0] rfl (Q2  FUEL 0 s o2 _ _ hP hD hS ho3 (fun H L hP hD hS => ?_))
  exact w_void (ws := fun s => cs9 a Δ s) hR hq hP hS dX9_endHour_37 rfl
set_option maxHeartbeats 4000000 in
set_option maxRecDepth 100000 in
theorem c_X9_happen (l : Launch) (Δ : gD) (a : Nat → Nat) (x1 : Int32) (x2 : Int32) (x3 : Int32) (x4 : Int32) (s : S9) {res : S9} (hq : sem_X9_happen x1 x2 x3 x4 s = some res) : MW l yX9_happen cX9_happen 5 none Δ (cs9 a Δ s) [.ref (a 0), .int x1, .int x2, .int x3, .int x4] 5 116 none (cs9 a Δ res) := by
  refine MW.of (by decide) (Nat.le_of_ble_eq_true rfl) ?_
  intro Γ A H hl C hK hP hD hS hA hR
  subst hl
  show g Γ { frames := 5, cells := 0, slots := 0, locals := 116 } 5 H [] 0 0 0 [(0, .ref (a 0)), (1, .int x1), (2, .int x2), (3, .int x3), (4, .int x4)] []
  refine g_iload_n C 1 rfl dX9_happen_0 1 rfl ?_
  by_cases hc3 : x1 = 0
  · have hq := if_t hc3 hq
    refine g_tblIn C 32 dX9_happen_1 (by rw [hc3]; decide) (by rw [hc3]; decide) (off := 31) (by rw [hc3]; rfl) (by decide) ?_
    refine g_aload_n C 33 rfl dX9_happen_32 0 rfl ?_
    refine g_iload_n C 34 rfl dX9_happen_33 2 rfl ?_
    refine g_iload_n C 35 rfl dX9_happen_34 3 rfl ?_
    refine g_iload C 37 rfl dX9_happen_35 4 rfl ?_
    obtain ⟨r1, hz2, hq⟩ := bindE hq
    refine g_callWV (rest := []) (cs9 a Δ r1) C 40 rfl dX9_happen_37 (c_X9_befall Γ.2.1 Δ a x2 x3 x4 s hz2) mv_X9_befall ml_X9_191 hK hP hD hS hA [0, 1, 2, 3, 4, 5, 6, 7, 8, 9, 10, 11, 12, 13, 14, 15, 16, 17, 18, 19, 20, 21, 22, 23] [] [0, 1, 2, 3, 4, 5, 6, 7, 8, 9, 10, 11, 12, 13, 14, 15, 16, 17, 18, 19, 20, 21, 22, 23] rfl (by decide) (wr := []) rfl (by decide) (by decide) rfl rfl rfl rfl rfl rfl rfl rfl ⟨Nat.le_of_ble_eq_true rfl, Nat.le_of_ble_eq_true rfl⟩ (Nat.le_of_ble_eq_true rfl) ⟨Nat.zero_le _, Nat.zero_le _⟩ (fun H L hP hD hS => ?_)
    refine g_goto C 130 dX9_happen_40 (by decide) ?_
    exact w_void (ws := fun s => cs9 a Δ s) hR hq hP hS dX9_happen_130 rfl
  replace hq := if_f hc3 hq
  by_cases hc6 : x1 = 1
  · have hq := if_t hc6 hq
    refine g_tblIn C 43 dX9_happen_1 (by rw [hc6]; decide) (by rw [hc6]; decide) (off := 42) (by rw [hc6]; rfl) (by decide) ?_
    refine g_aload_n C 44 rfl dX9_happen_43 0 rfl ?_
    refine g_get (v := .ref (a 1)) C 47 rfl dX9_happen_44 hK hP la_X9 0 3 (Nat.le_of_ble_eq_true rfl) fl_X9_7 rfl rfl rfl rfl ?_
    refine g_iload_n C 48 rfl dX9_happen_47 2 rfl ?_
    refine g_dup2 C 49 rfl dX9_happen_48 rfl rfl ?_
    refine s_iald C 50 rfl dX9_happen_49 hK hP 1 rfl hq (fun hq hi4 => ?_)
    refine g_iload C 52 rfl dX9_happen_50 4 rfl ?_
    refine g_isub C 53 rfl dX9_happen_52 ?_
    refine g_iast (cs9 a Δ (p9_temper s (upd (x9_temper s) (x2 : Int32).toNatClampNeg (((x9_temper s) (x2 : Int32).toNatClampNeg) - x4)))) C 54 rfl dX9_happen_53 hK hP hD hS 1 rfl hi4 rfl (fun H L hP hD hS => ?_)
    refine g_aload_n C 55 rfl dX9_happen_54 0 rfl ?_
    refine g_get (v := .ref (a 3)) C 58 rfl dX9_happen_55 hK hP la_X9 0 5 (Nat.le_of_ble_eq_true rfl) fl_X9_16 rfl rfl rfl rfl ?_
    refine g_iload_n C 59 rfl dX9_happen_58 2 rfl ?_
    refine g_dup2 C 60 rfl dX9_happen_59 rfl rfl ?_
    refine s_iald C 61 rfl dX9_happen_60 hK hP 3 rfl hq (fun hq hi5 => ?_)
    refine g_iload C 63 rfl dX9_happen_61 4 rfl ?_
    refine g_isub C 64 rfl dX9_happen_63 ?_
    refine g_iast (cs9 a Δ (p9_stamps (p9_temper s (upd (x9_temper s) (x2 : Int32).toNatClampNeg (((x9_temper s) (x2 : Int32).toNatClampNeg) - x4))) (upd (x9_stamps s) (x2 : Int32).toNatClampNeg (((x9_stamps s) (x2 : Int32).toNatClampNeg) - x4)))) C 65 rfl dX9_happen_64 hK hP hD hS 3 rfl hi5 rfl (fun H L hP hD hS => ?_)
    refine g_goto C 130 dX9_happen_65 (by decide) ?_
    exact w_void (ws := fun s => cs9 a Δ s) hR hq hP hS dX9_happen_130 rfl
  replace hq := if_f hc6 hq
  by_cases hc11 : x1 = 2
  · have hq := if_t hc11 hq
    refine g_tblIn C 68 dX9_happen_1 (by rw [hc11]; decide) (by rw [hc11]; decide) (off := 67) (by rw [hc11]; rfl) (by decide) ?_
    refine g_aload_n C 69 rfl dX9_happen_68 0 rfl ?_
    refine g_get (v := .ref (a 3)) C 72 rfl dX9_happen_69 hK hP la_X9 0 5 (Nat.le_of_ble_eq_true rfl) fl_X9_16 rfl rfl rfl rfl ?_
    refine g_iload_n C 73 rfl dX9_happen_72 2 rfl ?_
    refine g_dup2 C 74 rfl dX9_happen_73 rfl rfl ?_
    refine s_iald C 75 rfl dX9_happen_74 hK hP 3 rfl hq (fun hq hi7 => ?_)
    refine g_iload C 77 rfl dX9_happen_75 4 rfl ?_
    refine g_isub C 78 rfl dX9_happen_77 ?_
    refine g_iast (cs9 a Δ (p9_stamps s (upd (x9_stamps s) (x2 : Int32).toNatClampNeg (((x9_stamps s) (x2 : Int32).toNatClampNeg) - x4)))) C 79 rfl dX9_happen_78 hK hP hD hS 3 rfl hi7 rfl (fun H L hP hD hS => ?_)
    refine g_aload_n C 80 rfl dX9_happen_79 0 rfl ?_
    refine g_get (v := .ref (a 3)) C 83 rfl dX9_happen_80 hK hP la_X9 0 5 (Nat.le_of_ble_eq_true rfl) fl_X9_16 rfl rfl rfl rfl ?_
    refine g_iload_n C 84 rfl dX9_happen_83 3 rfl ?_
    refine g_dup2 C 85 rfl dX9_happen_84 rfl rfl ?_
    refine s_iald C 86 rfl dX9_happen_85 hK hP 3 rfl hq (fun hq hi8 => ?_)
    refine g_iload C 88 rfl dX9_happen_86 4 rfl ?_
    refine g_iadd C 89 rfl dX9_happen_88 ?_
    refine g_iast (cs9 a Δ (p9_stamps s (upd (upd (x9_stamps s) (x2 : Int32).toNatClampNeg (((x9_stamps s) (x2 : Int32).toNatClampNeg) - x4)) (x3 : Int32).toNatClampNeg (((upd (x9_stamps s) (x2 : Int32).toNatClampNeg (((x9_stamps s) (x2 : Int32).toNatClampNeg) - x4)) (x3 : Int32).toNatClampNeg) + x4)))) C 90 rfl dX9_happen_89 hK hP hD hS 3 rfl hi8 rfl (fun H L hP hD hS => ?_)
    refine g_aload_n C 91 rfl dX9_happen_90 0 rfl ?_
    refine g_get (v := .ref (a 4)) C 94 rfl dX9_happen_91 hK hP la_X9 0 6 (Nat.le_of_ble_eq_true rfl) fl_X9_19 rfl rfl rfl rfl ?_
    refine g_iload_n C 95 rfl dX9_happen_94 2 rfl ?_
    refine g_dup2 C 96 rfl dX9_happen_95 rfl rfl ?_
    refine s_iald C 97 rfl dX9_happen_96 hK hP 4 rfl hq (fun hq hi9 => ?_)
    refine g_iload C 99 rfl dX9_happen_97 4 rfl ?_
    refine g_iadd C 100 rfl dX9_happen_99 ?_
    refine g_iast (cs9 a Δ (p9_purse (p9_stamps s (upd (upd (x9_stamps s) (x2 : Int32).toNatClampNeg (((x9_stamps s) (x2 : Int32).toNatClampNeg) - x4)) (x3 : Int32).toNatClampNeg (((upd (x9_stamps s) (x2 : Int32).toNatClampNeg (((x9_stamps s) (x2 : Int32).toNatClampNeg) - x4)) (x3 : Int32).toNatClampNeg) + x4))) (upd (x9_purse s) (x2 : Int32).toNatClampNeg (((x9_purse s) (x2 : Int32).toNatClampNeg) + x4)))) C 101 rfl dX9_happen_100 hK hP hD hS 4 rfl hi9 rfl (fun H L hP hD hS => ?_)
    refine g_aload_n C 102 rfl dX9_happen_101 0 rfl ?_
    refine g_get (v := .ref (a 4)) C 105 rfl dX9_happen_102 hK hP la_X9 0 6 (Nat.le_of_ble_eq_true rfl) fl_X9_19 rfl rfl rfl rfl ?_
    refine g_iload_n C 106 rfl dX9_happen_105 3 rfl ?_
    refine g_dup2 C 107 rfl dX9_happen_106 rfl rfl ?_
    refine s_iald C 108 rfl dX9_happen_107 hK hP 4 rfl hq (fun hq hi10 => ?_)
    refine g_iload C 110 rfl dX9_happen_108 4 rfl ?_
    refine g_isub C 111 rfl dX9_happen_110 ?_
    refine g_iast (cs9 a Δ (p9_purse (p9_stamps s (upd (upd (x9_stamps s) (x2 : Int32).toNatClampNeg (((x9_stamps s) (x2 : Int32).toNatClampNeg) - x4)) (x3 : Int32).toNatClampNeg (((upd (x9_stamps s) (x2 : Int32).toNatClampNeg (((x9_stamps s) (x2 : Int32).toNatClampNeg) - x4)) (x3 : Int32).toNatClampNeg) + x4))) (upd (upd (x9_purse s) (x2 : Int32).toNatClampNeg (((x9_purse s) (x2 : Int32).toNatClampNeg) + x4)) (x3 : Int32).toNatClampNeg (((upd (x9_purse s) (x2 : Int32).toNatClampNeg (((x9_purse s) (x2 : Int32).toNatClampNeg) + x4)) (x3 : Int32).toNatClampNeg) - x4)))) C 112 rfl dX9_happen_111 hK hP hD hS 4 rfl hi10 rfl (fun H L hP hD hS => ?_)
    refine g_goto C 130 dX9_happen_112 (by decide) ?_
    exact w_void (ws := fun s => cs9 a Δ s) hR hq hP hS dX9_happen_130 rfl
  replace hq := if_f hc11 hq
  by_cases hc13 : x1 = 3
  · have hq := if_t hc13 hq
    refine g_tblIn C 115 dX9_happen_1 (by rw [hc13]; decide) (by rw [hc13]; decide) (off := 114) (by rw [hc13]; rfl) (by decide) ?_
    refine g_aload_n C 116 rfl dX9_happen_115 0 rfl ?_
    refine g_get (v := .ref (a 5)) C 119 rfl dX9_happen_116 hK hP la_X9 0 7 (Nat.le_of_ble_eq_true rfl) fl_X9_22 rfl rfl rfl rfl ?_
    refine g_iload_n C 120 rfl dX9_happen_119 2 rfl ?_
    refine g_iload C 122 rfl dX9_happen_120 4 rfl ?_
    refine s_iast (cs9 a Δ (p9_yard s (upd (x9_yard s) (x2 : Int32).toNatClampNeg x4))) C 123 rfl dX9_happen_122 hK hP hD hS 5 rfl hq rfl (fun hq hi12 H L hP hD hS => ?_)
    refine g_goto C 130 dX9_happen_123 (by decide) ?_
    exact w_void (ws := fun s => cs9 a Δ s) hR hq hP hS dX9_happen_130 rfl
  replace hq := if_f hc13 hq
  refine g_tblOut C 126 dX9_happen_1 (by have nhc3 := lv_neT (a := 0) hc3 (by decide); have nhc6 := lv_neT (a := 1) hc6 (by decide); have nhc11 := lv_neT (a := 2) hc11 (by decide); have nhc13 := lv_neT (a := 3) hc13 (by decide); omega) (by decide) ?_
  refine g_aload_n C 127 rfl dX9_happen_126 0 rfl ?_
  obtain ⟨r14, hz15, hq⟩ := bindE hq
  refine g_callWV (rest := []) (cs9 a Δ r14) C 130 rfl dX9_happen_127 (c_X9_endHour Γ.2.1 Δ a  s hz15) mv_X9_endHour ml_X9_195 hK hP hD hS hA [0, 1, 2, 3, 4, 5, 6, 7, 8, 9, 10, 11, 12, 13, 14, 15, 16, 17, 18, 19, 20, 21, 22, 23] [] [0, 1, 2, 3, 4, 5, 6, 7, 8, 9, 10, 11, 12, 13, 14, 15, 16, 17, 18, 19, 20, 21, 22, 23] rfl (by decide) (wr := []) rfl (by decide) (by decide) rfl rfl rfl rfl rfl rfl rfl rfl ⟨Nat.le_of_ble_eq_true rfl, Nat.le_of_ble_eq_true rfl⟩ (Nat.le_of_ble_eq_true rfl) ⟨Nat.zero_le _, Nat.zero_le _⟩ (fun H L hP hD hS => ?_)
  exact w_void (ws := fun s => cs9 a Δ s) hR hq hP hS dX9_happen_130 rfl
set_option maxHeartbeats 4000000 in
set_option maxRecDepth 100000 in
theorem c_X9_store_had (l : Launch) (Δ : gD) (a : Nat → Nat)  (s : S9) {res : S9} (hq : sem_X9_store_had  s = some res) : MW l yX9_store cX9_store 3 none Δ (cs9 a Δ s) [.ref (a 0), .ref (a 14)] 0 0 none (cs9 a Δ res) := by
  refine MW.of (by decide) (Nat.le_of_ble_eq_true rfl) ?_
  intro Γ A H hl C hK hP hD hS hA hR
  subst hl
  show g Γ { frames := 0, cells := 0, slots := 0, locals := 0 } 3 H [] 0 0 0 [(0, .ref (a 0)), (1, .ref (a 14))] []
  refine g_iconst 0 C 1 rfl dX9_store_0 ki_0 ?_
  refine g_istore_n [(2, .int 0), (0, .ref (a 0)), (1, .ref (a 14))] C 2 rfl dX9_store_1 (Nat.le_of_ble_eq_true rfl) rfl ?_
  have Q2 : ∀ (n : Nat) (x2 : Int32) (s : S9) (o : (S9)) (H : Heap) (L : List Loc) (hP : va_P Δ.1 classes (cs9 a Δ s) H) (hD : va_D A (cs9 a Δ s)) (hS : va_S A (sOf Γ).heap H L) (hq : lp_X9_store_had_2  n x2 s = some o) (E2 : ∀ (H : Heap) (L : List Loc), va_P Δ.1 classes (cs9 a Δ o) H → va_D A (cs9 a Δ o) → va_S A (sOf Γ).heap H L → g Γ { frames := 0, cells := 0, slots := 0, locals := 0 } 3 H L 0 0 71 [] []), g Γ { frames := 0, cells := 0, slots := 0, locals := 0 } 3 H L 0 0 2 [(0, .ref (a 0)), (1, .ref (a 14)), (2, .int x2)] [] := by
    intro n
    induction n with
    | zero => intro x2 s o H L hP hD hS hq; exact nomatch (show (none : Option (S9)) = some o from hq)
    | succ n ih =>
      intro x2 s o H L hP hD hS hq E2
      have hq : bd_X9_store_had_2  (lp_X9_store_had_2  n) x2 s = some o := hq
      refine g_iload_n C 3 rfl dX9_store_2 2 rfl ?_
      refine g_bipush 6 C 5 rfl dX9_store_3 kb_6 ?_
      refine s_icmp_ge C 71 8 rfl dX9_store_5 (by decide) hq (fun hq => ?_) (fun hq => ?_)
      · cases hq
        exact g_sub [] rfl (E2 _ _ hP hD hS)
      refine g_aload_n C 9 rfl dX9_store_8 1 rfl ?_
      refine g_iload_n C 10 rfl dX9_store_9 2 rfl ?_
      refine g_aload_n C 11 rfl dX9_store_10 0 rfl ?_
      refine g_get (v := .ref (a 1)) C 14 rfl dX9_store_11 hK hP la_X9 0 3 (Nat.le_of_ble_eq_true rfl) fl_X9_7 rfl rfl rfl rfl ?_
      refine g_iload_n C 15 rfl dX9_store_14 2 rfl ?_
      refine s_iald C 16 rfl dX9_store_15 hK hP 1 rfl hq (fun hq hi1 => ?_)
      refine s_iast (cs9 a Δ (p9_had s (upd (x9_had s) (x2 : Int32).toNatClampNeg ((x9_temper s) (x2 : Int32).toNatClampNeg)))) C 17 rfl dX9_store_16 hK hP hD hS 14 rfl hq rfl (fun hq hi2 H L hP hD hS => ?_)
      refine g_aload_n C 18 rfl dX9_store_17 1 rfl ?_
      refine g_bipush 6 C 20 rfl dX9_store_18 kb_6 ?_
      refine g_iload_n C 21 rfl dX9_store_20 2 rfl ?_
      refine g_iadd C 22 rfl dX9_store_21 ?_
      refine g_aload_n C 23 rfl dX9_store_22 0 rfl ?_
      refine g_get (v := .ref (a 3)) C 26 rfl dX9_store_23 hK hP la_X9 0 5 (Nat.le_of_ble_eq_true rfl) fl_X9_16 rfl rfl rfl rfl ?_
      refine g_iload_n C 27 rfl dX9_store_26 2 rfl ?_
      refine s_iald C 28 rfl dX9_store_27 hK hP 3 rfl hq (fun hq hi3 => ?_)
      refine s_iast (cs9 a Δ (p9_had s (upd (upd (x9_had s) (x2 : Int32).toNatClampNeg ((x9_temper s) (x2 : Int32).toNatClampNeg)) ((6 + x2) : Int32).toNatClampNeg ((x9_stamps s) (x2 : Int32).toNatClampNeg)))) C 29 rfl dX9_store_28 hK hP hD hS 14 rfl hq rfl (fun hq hi4 H L hP hD hS => ?_)
      refine g_aload_n C 30 rfl dX9_store_29 1 rfl ?_
      refine g_bipush 12 C 32 rfl dX9_store_30 kb_12 ?_
      refine g_iload_n C 33 rfl dX9_store_32 2 rfl ?_
      refine g_iadd C 34 rfl dX9_store_33 ?_
      refine g_aload_n C 35 rfl dX9_store_34 0 rfl ?_
      refine g_get (v := .ref (a 4)) C 38 rfl dX9_store_35 hK hP la_X9 0 6 (Nat.le_of_ble_eq_true rfl) fl_X9_19 rfl rfl rfl rfl ?_
      refine g_iload_n C 39 rfl dX9_store_38 2 rfl ?_
      refine s_iald C 40 rfl dX9_store_39 hK hP 4 rfl hq (fun hq hi5 => ?_)
      refine s_iast (cs9 a Δ (p9_had s (upd (upd (upd (x9_had s) (x2 : Int32).toNatClampNeg ((x9_temper s) (x2 : Int32).toNatClampNeg)) ((6 + x2) : Int32).toNatClampNeg ((x9_stamps s) (x2 : Int32).toNatClampNeg)) ((12 + x2) : Int32).toNatClampNeg ((x9_purse s) (x2 : Int32).toNatClampNeg)))) C 41 rfl dX9_store_40 hK hP hD hS 14 rfl hq rfl (fun hq hi6 H L hP hD hS => ?_)
      refine g_aload_n C 42 rfl dX9_store_41 1 rfl ?_
      refine g_bipush 18 C 44 rfl dX9_store_42 kb_18 ?_
      refine g_iload_n C 45 rfl dX9_store_44 2 rfl ?_
      refine g_iadd C 46 rfl dX9_store_45 ?_
      refine g_aload_n C 47 rfl dX9_store_46 0 rfl ?_
      refine g_get (v := .ref (a 5)) C 50 rfl dX9_store_47 hK hP la_X9 0 7 (Nat.le_of_ble_eq_true rfl) fl_X9_22 rfl rfl rfl rfl ?_
      refine g_iload_n C 51 rfl dX9_store_50 2 rfl ?_
      refine s_iald C 52 rfl dX9_store_51 hK hP 5 rfl hq (fun hq hi7 => ?_)
      refine s_iast (cs9 a Δ (p9_had s (upd (upd (upd (upd (x9_had s) (x2 : Int32).toNatClampNeg ((x9_temper s) (x2 : Int32).toNatClampNeg)) ((6 + x2) : Int32).toNatClampNeg ((x9_stamps s) (x2 : Int32).toNatClampNeg)) ((12 + x2) : Int32).toNatClampNeg ((x9_purse s) (x2 : Int32).toNatClampNeg)) ((18 + x2) : Int32).toNatClampNeg ((x9_yard s) (x2 : Int32).toNatClampNeg)))) C 53 rfl dX9_store_52 hK hP hD hS 14 rfl hq rfl (fun hq hi8 H L hP hD hS => ?_)
      refine g_aload_n C 54 rfl dX9_store_53 1 rfl ?_
      refine g_bipush 24 C 56 rfl dX9_store_54 kb_24 ?_
      refine g_iload_n C 57 rfl dX9_store_56 2 rfl ?_
      refine g_iadd C 58 rfl dX9_store_57 ?_
      refine g_aload_n C 59 rfl dX9_store_58 0 rfl ?_
      refine g_get (v := .ref (a 6)) C 62 rfl dX9_store_59 hK hP la_X9 0 8 (Nat.le_of_ble_eq_true rfl) fl_X9_25 rfl rfl rfl rfl ?_
      refine g_iload_n C 63 rfl dX9_store_62 2 rfl ?_
      refine s_iald C 64 rfl dX9_store_63 hK hP 6 rfl hq (fun hq hi9 => ?_)
      refine s_iast (cs9 a Δ (p9_had s (upd (upd (upd (upd (upd (x9_had s) (x2 : Int32).toNatClampNeg ((x9_temper s) (x2 : Int32).toNatClampNeg)) ((6 + x2) : Int32).toNatClampNeg ((x9_stamps s) (x2 : Int32).toNatClampNeg)) ((12 + x2) : Int32).toNatClampNeg ((x9_purse s) (x2 : Int32).toNatClampNeg)) ((18 + x2) : Int32).toNatClampNeg ((x9_yard s) (x2 : Int32).toNatClampNeg)) ((24 + x2) : Int32).toNatClampNeg ((x9_cause s) (x2 : Int32).toNatClampNeg)))) C 65 rfl dX9_store_64 hK hP hD hS 14 rfl hq rfl (fun hq hi10 H L hP hD hS => ?_)
      refine g_iinc (x2 + 1) [(2, .int (x2 + 1)), (0, .ref (a 0)), (1, .ref (a 14))] C 68 rfl dX9_store_65 2 rfl (ii_1 _) (Nat.le_of_ble_eq_true rfl) rfl ?_
      refine g_goto C 2 dX9_store_68 (by decide) ?_
      exact g_sub [1, 2, 0] rfl (ih (x2 + 1) (p9_had s (upd (upd (upd (upd (upd (x9_had s) (x2 : Int32).toNatClampNeg ((x9_temper s) (x2 : Int32).toNatClampNeg)) ((6 + x2) : Int32).toNatClampNeg ((x9_stamps s) (x2 : Int32).toNatClampNeg)) ((12 + x2) : Int32).toNatClampNeg ((x9_purse s) (x2 : Int32).toNatClampNeg)) ((18 + x2) : Int32).toNatClampNeg ((x9_yard s) (x2 : Int32).toNatClampNeg)) ((24 + x2) : Int32).toNatClampNeg ((x9_cause s) (x2 : Int32).toNatClampNeg))) _ _ _ hP hD hS hq E2)
  obtain ⟨o11, ho12, hq⟩ := bindE hq
  refine g_sub [1, 2, 0] rfl (Q2  FUEL 0 s o11 _ _ hP hD hS ho12 (fun H L hP hD hS => ?_))
  exact w_void (ws := fun s => cs9 a Δ s) hR hq hP hS dX9_store_71 rfl
set_option maxHeartbeats 4000000 in
set_option maxRecDepth 100000 in
theorem c_X9_store_leaves (l : Launch) (Δ : gD) (a : Nat → Nat)  (s : S9) {res : S9} (hq : sem_X9_store_leaves  s = some res) : MW l yX9_store cX9_store 3 none Δ (cs9 a Δ s) [.ref (a 0), .ref (a 15)] 0 0 none (cs9 a Δ res) := by
  refine MW.of (by decide) (Nat.le_of_ble_eq_true rfl) ?_
  intro Γ A H hl C hK hP hD hS hA hR
  subst hl
  show g Γ { frames := 0, cells := 0, slots := 0, locals := 0 } 3 H [] 0 0 0 [(0, .ref (a 0)), (1, .ref (a 15))] []
  refine g_iconst 0 C 1 rfl dX9_store_0 ki_0 ?_
  refine g_istore_n [(2, .int 0), (0, .ref (a 0)), (1, .ref (a 15))] C 2 rfl dX9_store_1 (Nat.le_of_ble_eq_true rfl) rfl ?_
  have Q2 : ∀ (n : Nat) (x2 : Int32) (s : S9) (o : (S9)) (H : Heap) (L : List Loc) (hP : va_P Δ.1 classes (cs9 a Δ s) H) (hD : va_D A (cs9 a Δ s)) (hS : va_S A (sOf Γ).heap H L) (hq : lp_X9_store_leaves_2  n x2 s = some o) (E2 : ∀ (H : Heap) (L : List Loc), va_P Δ.1 classes (cs9 a Δ o) H → va_D A (cs9 a Δ o) → va_S A (sOf Γ).heap H L → g Γ { frames := 0, cells := 0, slots := 0, locals := 0 } 3 H L 0 0 71 [] []), g Γ { frames := 0, cells := 0, slots := 0, locals := 0 } 3 H L 0 0 2 [(0, .ref (a 0)), (1, .ref (a 15)), (2, .int x2)] [] := by
    intro n
    induction n with
    | zero => intro x2 s o H L hP hD hS hq; exact nomatch (show (none : Option (S9)) = some o from hq)
    | succ n ih =>
      intro x2 s o H L hP hD hS hq E2
      have hq : bd_X9_store_leaves_2  (lp_X9_store_leaves_2  n) x2 s = some o := hq
      refine g_iload_n C 3 rfl dX9_store_2 2 rfl ?_
      refine g_bipush 6 C 5 rfl dX9_store_3 kb_6 ?_
      refine s_icmp_ge C 71 8 rfl dX9_store_5 (by decide) hq (fun hq => ?_) (fun hq => ?_)
      · cases hq
        exact g_sub [] rfl (E2 _ _ hP hD hS)
      refine g_aload_n C 9 rfl dX9_store_8 1 rfl ?_
      refine g_iload_n C 10 rfl dX9_store_9 2 rfl ?_
      refine g_aload_n C 11 rfl dX9_store_10 0 rfl ?_
      refine g_get (v := .ref (a 1)) C 14 rfl dX9_store_11 hK hP la_X9 0 3 (Nat.le_of_ble_eq_true rfl) fl_X9_7 rfl rfl rfl rfl ?_
      refine g_iload_n C 15 rfl dX9_store_14 2 rfl ?_
      refine s_iald C 16 rfl dX9_store_15 hK hP 1 rfl hq (fun hq hi1 => ?_)
      refine s_iast (cs9 a Δ (p9_leaves s (upd (x9_leaves s) (x2 : Int32).toNatClampNeg ((x9_temper s) (x2 : Int32).toNatClampNeg)))) C 17 rfl dX9_store_16 hK hP hD hS 15 rfl hq rfl (fun hq hi2 H L hP hD hS => ?_)
      refine g_aload_n C 18 rfl dX9_store_17 1 rfl ?_
      refine g_bipush 6 C 20 rfl dX9_store_18 kb_6 ?_
      refine g_iload_n C 21 rfl dX9_store_20 2 rfl ?_
      refine g_iadd C 22 rfl dX9_store_21 ?_
      refine g_aload_n C 23 rfl dX9_store_22 0 rfl ?_
      refine g_get (v := .ref (a 3)) C 26 rfl dX9_store_23 hK hP la_X9 0 5 (Nat.le_of_ble_eq_true rfl) fl_X9_16 rfl rfl rfl rfl ?_
      refine g_iload_n C 27 rfl dX9_store_26 2 rfl ?_
      refine s_iald C 28 rfl dX9_store_27 hK hP 3 rfl hq (fun hq hi3 => ?_)
      refine s_iast (cs9 a Δ (p9_leaves s (upd (upd (x9_leaves s) (x2 : Int32).toNatClampNeg ((x9_temper s) (x2 : Int32).toNatClampNeg)) ((6 + x2) : Int32).toNatClampNeg ((x9_stamps s) (x2 : Int32).toNatClampNeg)))) C 29 rfl dX9_store_28 hK hP hD hS 15 rfl hq rfl (fun hq hi4 H L hP hD hS => ?_)
      refine g_aload_n C 30 rfl dX9_store_29 1 rfl ?_
      refine g_bipush 12 C 32 rfl dX9_store_30 kb_12 ?_
      refine g_iload_n C 33 rfl dX9_store_32 2 rfl ?_
      refine g_iadd C 34 rfl dX9_store_33 ?_
      refine g_aload_n C 35 rfl dX9_store_34 0 rfl ?_
      refine g_get (v := .ref (a 4)) C 38 rfl dX9_store_35 hK hP la_X9 0 6 (Nat.le_of_ble_eq_true rfl) fl_X9_19 rfl rfl rfl rfl ?_
      refine g_iload_n C 39 rfl dX9_store_38 2 rfl ?_
      refine s_iald C 40 rfl dX9_store_39 hK hP 4 rfl hq (fun hq hi5 => ?_)
      refine s_iast (cs9 a Δ (p9_leaves s (upd (upd (upd (x9_leaves s) (x2 : Int32).toNatClampNeg ((x9_temper s) (x2 : Int32).toNatClampNeg)) ((6 + x2) : Int32).toNatClampNeg ((x9_stamps s) (x2 : Int32).toNatClampNeg)) ((12 + x2) : Int32).toNatClampNeg ((x9_purse s) (x2 : Int32).toNatClampNeg)))) C 41 rfl dX9_store_40 hK hP hD hS 15 rfl hq rfl (fun hq hi6 H L hP hD hS => ?_)
      refine g_aload_n C 42 rfl dX9_store_41 1 rfl ?_
      refine g_bipush 18 C 44 rfl dX9_store_42 kb_18 ?_
      refine g_iload_n C 45 rfl dX9_store_44 2 rfl ?_
      refine g_iadd C 46 rfl dX9_store_45 ?_
      refine g_aload_n C 47 rfl dX9_store_46 0 rfl ?_
      refine g_get (v := .ref (a 5)) C 50 rfl dX9_store_47 hK hP la_X9 0 7 (Nat.le_of_ble_eq_true rfl) fl_X9_22 rfl rfl rfl rfl ?_
      refine g_iload_n C 51 rfl dX9_store_50 2 rfl ?_
      refine s_iald C 52 rfl dX9_store_51 hK hP 5 rfl hq (fun hq hi7 => ?_)
      refine s_iast (cs9 a Δ (p9_leaves s (upd (upd (upd (upd (x9_leaves s) (x2 : Int32).toNatClampNeg ((x9_temper s) (x2 : Int32).toNatClampNeg)) ((6 + x2) : Int32).toNatClampNeg ((x9_stamps s) (x2 : Int32).toNatClampNeg)) ((12 + x2) : Int32).toNatClampNeg ((x9_purse s) (x2 : Int32).toNatClampNeg)) ((18 + x2) : Int32).toNatClampNeg ((x9_yard s) (x2 : Int32).toNatClampNeg)))) C 53 rfl dX9_store_52 hK hP hD hS 15 rfl hq rfl (fun hq hi8 H L hP hD hS => ?_)
      refine g_aload_n C 54 rfl dX9_store_53 1 rfl ?_
      refine g_bipush 24 C 56 rfl dX9_store_54 kb_24 ?_
      refine g_iload_n C 57 rfl dX9_store_56 2 rfl ?_
      refine g_iadd C 58 rfl dX9_store_57 ?_
      refine g_aload_n C 59 rfl dX9_store_58 0 rfl ?_
      refine g_get (v := .ref (a 6)) C 62 rfl dX9_store_59 hK hP la_X9 0 8 (Nat.le_of_ble_eq_true rfl) fl_X9_25 rfl rfl rfl rfl ?_
      refine g_iload_n C 63 rfl dX9_store_62 2 rfl ?_
      refine s_iald C 64 rfl dX9_store_63 hK hP 6 rfl hq (fun hq hi9 => ?_)
      refine s_iast (cs9 a Δ (p9_leaves s (upd (upd (upd (upd (upd (x9_leaves s) (x2 : Int32).toNatClampNeg ((x9_temper s) (x2 : Int32).toNatClampNeg)) ((6 + x2) : Int32).toNatClampNeg ((x9_stamps s) (x2 : Int32).toNatClampNeg)) ((12 + x2) : Int32).toNatClampNeg ((x9_purse s) (x2 : Int32).toNatClampNeg)) ((18 + x2) : Int32).toNatClampNeg ((x9_yard s) (x2 : Int32).toNatClampNeg)) ((24 + x2) : Int32).toNatClampNeg ((x9_cause s) (x2 : Int32).toNatClampNeg)))) C 65 rfl dX9_store_64 hK hP hD hS 15 rfl hq rfl (fun hq hi10 H L hP hD hS => ?_)
      refine g_iinc (x2 + 1) [(2, .int (x2 + 1)), (0, .ref (a 0)), (1, .ref (a 15))] C 68 rfl dX9_store_65 2 rfl (ii_1 _) (Nat.le_of_ble_eq_true rfl) rfl ?_
      refine g_goto C 2 dX9_store_68 (by decide) ?_
      exact g_sub [1, 2, 0] rfl (ih (x2 + 1) (p9_leaves s (upd (upd (upd (upd (upd (x9_leaves s) (x2 : Int32).toNatClampNeg ((x9_temper s) (x2 : Int32).toNatClampNeg)) ((6 + x2) : Int32).toNatClampNeg ((x9_stamps s) (x2 : Int32).toNatClampNeg)) ((12 + x2) : Int32).toNatClampNeg ((x9_purse s) (x2 : Int32).toNatClampNeg)) ((18 + x2) : Int32).toNatClampNeg ((x9_yard s) (x2 : Int32).toNatClampNeg)) ((24 + x2) : Int32).toNatClampNeg ((x9_cause s) (x2 : Int32).toNatClampNeg))) _ _ _ hP hD hS hq E2)
  obtain ⟨o11, ho12, hq⟩ := bindE hq
  refine g_sub [1, 2, 0] rfl (Q2  FUEL 0 s o11 _ _ hP hD hS ho12 (fun H L hP hD hS => ?_))
  exact w_void (ws := fun s => cs9 a Δ s) hR hq hP hS dX9_store_71 rfl
set_option maxHeartbeats 4000000 in
set_option maxRecDepth 100000 in
theorem c_X9_lay_had (l : Launch) (Δ : gD) (a : Nat → Nat)  (s : S9) {res : S9} (hq : sem_X9_lay_had  s = some res) : MW l yX9_lay cX9_lay 3 none Δ (cs9 a Δ s) [.ref (a 0), .ref (a 14)] 0 0 none (cs9 a Δ res) := by
  refine MW.of (by decide) (Nat.le_of_ble_eq_true rfl) ?_
  intro Γ A H hl C hK hP hD hS hA hR
  subst hl
  show g Γ { frames := 0, cells := 0, slots := 0, locals := 0 } 3 H [] 0 0 0 [(0, .ref (a 0)), (1, .ref (a 14))] []
  refine g_iconst 0 C 1 rfl dX9_lay_0 ki_0 ?_
  refine g_istore_n [(2, .int 0), (0, .ref (a 0)), (1, .ref (a 14))] C 2 rfl dX9_lay_1 (Nat.le_of_ble_eq_true rfl) rfl ?_
  have Q2 : ∀ (n : Nat) (x2 : Int32) (s : S9) (o : (S9)) (H : Heap) (L : List Loc) (hP : va_P Δ.1 classes (cs9 a Δ s) H) (hD : va_D A (cs9 a Δ s)) (hS : va_S A (sOf Γ).heap H L) (hq : lp_X9_lay_had_2  n x2 s = some o) (E2 : ∀ (H : Heap) (L : List Loc), va_P Δ.1 classes (cs9 a Δ o) H → va_D A (cs9 a Δ o) → va_S A (sOf Γ).heap H L → g Γ { frames := 0, cells := 0, slots := 0, locals := 0 } 3 H L 0 0 71 [] []), g Γ { frames := 0, cells := 0, slots := 0, locals := 0 } 3 H L 0 0 2 [(0, .ref (a 0)), (1, .ref (a 14)), (2, .int x2)] [] := by
    intro n
    induction n with
    | zero => intro x2 s o H L hP hD hS hq; exact nomatch (show (none : Option (S9)) = some o from hq)
    | succ n ih =>
      intro x2 s o H L hP hD hS hq E2
      have hq : bd_X9_lay_had_2  (lp_X9_lay_had_2  n) x2 s = some o := hq
      refine g_iload_n C 3 rfl dX9_lay_2 2 rfl ?_
      refine g_bipush 6 C 5 rfl dX9_lay_3 kb_6 ?_
      refine s_icmp_ge C 71 8 rfl dX9_lay_5 (by decide) hq (fun hq => ?_) (fun hq => ?_)
      · cases hq
        exact g_sub [] rfl (E2 _ _ hP hD hS)
      refine g_aload_n C 9 rfl dX9_lay_8 0 rfl ?_
      refine g_get (v := .ref (a 1)) C 12 rfl dX9_lay_9 hK hP la_X9 0 3 (Nat.le_of_ble_eq_true rfl) fl_X9_7 rfl rfl rfl rfl ?_
      refine g_iload_n C 13 rfl dX9_lay_12 2 rfl ?_
      refine g_aload_n C 14 rfl dX9_lay_13 1 rfl ?_
      refine g_iload_n C 15 rfl dX9_lay_14 2 rfl ?_
      refine s_iald C 16 rfl dX9_lay_15 hK hP 14 rfl hq (fun hq hi1 => ?_)
      refine s_iast (cs9 a Δ (p9_temper s (upd (x9_temper s) (x2 : Int32).toNatClampNeg ((x9_had s) (x2 : Int32).toNatClampNeg)))) C 17 rfl dX9_lay_16 hK hP hD hS 1 rfl hq rfl (fun hq hi2 H L hP hD hS => ?_)
      refine g_aload_n C 18 rfl dX9_lay_17 0 rfl ?_
      refine g_get (v := .ref (a 3)) C 21 rfl dX9_lay_18 hK hP la_X9 0 5 (Nat.le_of_ble_eq_true rfl) fl_X9_16 rfl rfl rfl rfl ?_
      refine g_iload_n C 22 rfl dX9_lay_21 2 rfl ?_
      refine g_aload_n C 23 rfl dX9_lay_22 1 rfl ?_
      refine g_bipush 6 C 25 rfl dX9_lay_23 kb_6 ?_
      refine g_iload_n C 26 rfl dX9_lay_25 2 rfl ?_
      refine g_iadd C 27 rfl dX9_lay_26 ?_
      refine s_iald C 28 rfl dX9_lay_27 hK hP 14 rfl hq (fun hq hi3 => ?_)
      refine s_iast (cs9 a Δ (p9_stamps (p9_temper s (upd (x9_temper s) (x2 : Int32).toNatClampNeg ((x9_had s) (x2 : Int32).toNatClampNeg))) (upd (x9_stamps s) (x2 : Int32).toNatClampNeg ((x9_had s) ((6 + x2) : Int32).toNatClampNeg)))) C 29 rfl dX9_lay_28 hK hP hD hS 3 rfl hq rfl (fun hq hi4 H L hP hD hS => ?_)
      refine g_aload_n C 30 rfl dX9_lay_29 0 rfl ?_
      refine g_get (v := .ref (a 4)) C 33 rfl dX9_lay_30 hK hP la_X9 0 6 (Nat.le_of_ble_eq_true rfl) fl_X9_19 rfl rfl rfl rfl ?_
      refine g_iload_n C 34 rfl dX9_lay_33 2 rfl ?_
      refine g_aload_n C 35 rfl dX9_lay_34 1 rfl ?_
      refine g_bipush 12 C 37 rfl dX9_lay_35 kb_12 ?_
      refine g_iload_n C 38 rfl dX9_lay_37 2 rfl ?_
      refine g_iadd C 39 rfl dX9_lay_38 ?_
      refine s_iald C 40 rfl dX9_lay_39 hK hP 14 rfl hq (fun hq hi5 => ?_)
      refine s_iast (cs9 a Δ (p9_purse (p9_stamps (p9_temper s (upd (x9_temper s) (x2 : Int32).toNatClampNeg ((x9_had s) (x2 : Int32).toNatClampNeg))) (upd (x9_stamps s) (x2 : Int32).toNatClampNeg ((x9_had s) ((6 + x2) : Int32).toNatClampNeg))) (upd (x9_purse s) (x2 : Int32).toNatClampNeg ((x9_had s) ((12 + x2) : Int32).toNatClampNeg)))) C 41 rfl dX9_lay_40 hK hP hD hS 4 rfl hq rfl (fun hq hi6 H L hP hD hS => ?_)
      refine g_aload_n C 42 rfl dX9_lay_41 0 rfl ?_
      refine g_get (v := .ref (a 5)) C 45 rfl dX9_lay_42 hK hP la_X9 0 7 (Nat.le_of_ble_eq_true rfl) fl_X9_22 rfl rfl rfl rfl ?_
      refine g_iload_n C 46 rfl dX9_lay_45 2 rfl ?_
      refine g_aload_n C 47 rfl dX9_lay_46 1 rfl ?_
      refine g_bipush 18 C 49 rfl dX9_lay_47 kb_18 ?_
      refine g_iload_n C 50 rfl dX9_lay_49 2 rfl ?_
      refine g_iadd C 51 rfl dX9_lay_50 ?_
      refine s_iald C 52 rfl dX9_lay_51 hK hP 14 rfl hq (fun hq hi7 => ?_)
      refine s_iast (cs9 a Δ (p9_yard (p9_purse (p9_stamps (p9_temper s (upd (x9_temper s) (x2 : Int32).toNatClampNeg ((x9_had s) (x2 : Int32).toNatClampNeg))) (upd (x9_stamps s) (x2 : Int32).toNatClampNeg ((x9_had s) ((6 + x2) : Int32).toNatClampNeg))) (upd (x9_purse s) (x2 : Int32).toNatClampNeg ((x9_had s) ((12 + x2) : Int32).toNatClampNeg))) (upd (x9_yard s) (x2 : Int32).toNatClampNeg ((x9_had s) ((18 + x2) : Int32).toNatClampNeg)))) C 53 rfl dX9_lay_52 hK hP hD hS 5 rfl hq rfl (fun hq hi8 H L hP hD hS => ?_)
      refine g_aload_n C 54 rfl dX9_lay_53 0 rfl ?_
      refine g_get (v := .ref (a 6)) C 57 rfl dX9_lay_54 hK hP la_X9 0 8 (Nat.le_of_ble_eq_true rfl) fl_X9_25 rfl rfl rfl rfl ?_
      refine g_iload_n C 58 rfl dX9_lay_57 2 rfl ?_
      refine g_aload_n C 59 rfl dX9_lay_58 1 rfl ?_
      refine g_bipush 24 C 61 rfl dX9_lay_59 kb_24 ?_
      refine g_iload_n C 62 rfl dX9_lay_61 2 rfl ?_
      refine g_iadd C 63 rfl dX9_lay_62 ?_
      refine s_iald C 64 rfl dX9_lay_63 hK hP 14 rfl hq (fun hq hi9 => ?_)
      refine s_iast (cs9 a Δ (p9_cause (p9_yard (p9_purse (p9_stamps (p9_temper s (upd (x9_temper s) (x2 : Int32).toNatClampNeg ((x9_had s) (x2 : Int32).toNatClampNeg))) (upd (x9_stamps s) (x2 : Int32).toNatClampNeg ((x9_had s) ((6 + x2) : Int32).toNatClampNeg))) (upd (x9_purse s) (x2 : Int32).toNatClampNeg ((x9_had s) ((12 + x2) : Int32).toNatClampNeg))) (upd (x9_yard s) (x2 : Int32).toNatClampNeg ((x9_had s) ((18 + x2) : Int32).toNatClampNeg))) (upd (x9_cause s) (x2 : Int32).toNatClampNeg ((x9_had s) ((24 + x2) : Int32).toNatClampNeg)))) C 65 rfl dX9_lay_64 hK hP hD hS 6 rfl hq rfl (fun hq hi10 H L hP hD hS => ?_)
      refine g_iinc (x2 + 1) [(2, .int (x2 + 1)), (0, .ref (a 0)), (1, .ref (a 14))] C 68 rfl dX9_lay_65 2 rfl (ii_1 _) (Nat.le_of_ble_eq_true rfl) rfl ?_
      refine g_goto C 2 dX9_lay_68 (by decide) ?_
      exact g_sub [1, 2, 0] rfl (ih (x2 + 1) (p9_cause (p9_yard (p9_purse (p9_stamps (p9_temper s (upd (x9_temper s) (x2 : Int32).toNatClampNeg ((x9_had s) (x2 : Int32).toNatClampNeg))) (upd (x9_stamps s) (x2 : Int32).toNatClampNeg ((x9_had s) ((6 + x2) : Int32).toNatClampNeg))) (upd (x9_purse s) (x2 : Int32).toNatClampNeg ((x9_had s) ((12 + x2) : Int32).toNatClampNeg))) (upd (x9_yard s) (x2 : Int32).toNatClampNeg ((x9_had s) ((18 + x2) : Int32).toNatClampNeg))) (upd (x9_cause s) (x2 : Int32).toNatClampNeg ((x9_had s) ((24 + x2) : Int32).toNatClampNeg))) _ _ _ hP hD hS hq E2)
  obtain ⟨o11, ho12, hq⟩ := bindE hq
  refine g_sub [1, 2, 0] rfl (Q2  FUEL 0 s o11 _ _ hP hD hS ho12 (fun H L hP hD hS => ?_))
  exact w_void (ws := fun s => cs9 a Δ s) hR hq hP hS dX9_lay_71 rfl
set_option maxHeartbeats 4000000 in
set_option maxRecDepth 100000 in
theorem c_X9_lay_leaves (l : Launch) (Δ : gD) (a : Nat → Nat)  (s : S9) {res : S9} (hq : sem_X9_lay_leaves  s = some res) : MW l yX9_lay cX9_lay 3 none Δ (cs9 a Δ s) [.ref (a 0), .ref (a 15)] 0 0 none (cs9 a Δ res) := by
  refine MW.of (by decide) (Nat.le_of_ble_eq_true rfl) ?_
  intro Γ A H hl C hK hP hD hS hA hR
  subst hl
  show g Γ { frames := 0, cells := 0, slots := 0, locals := 0 } 3 H [] 0 0 0 [(0, .ref (a 0)), (1, .ref (a 15))] []
  refine g_iconst 0 C 1 rfl dX9_lay_0 ki_0 ?_
  refine g_istore_n [(2, .int 0), (0, .ref (a 0)), (1, .ref (a 15))] C 2 rfl dX9_lay_1 (Nat.le_of_ble_eq_true rfl) rfl ?_
  have Q2 : ∀ (n : Nat) (x2 : Int32) (s : S9) (o : (S9)) (H : Heap) (L : List Loc) (hP : va_P Δ.1 classes (cs9 a Δ s) H) (hD : va_D A (cs9 a Δ s)) (hS : va_S A (sOf Γ).heap H L) (hq : lp_X9_lay_leaves_2  n x2 s = some o) (E2 : ∀ (H : Heap) (L : List Loc), va_P Δ.1 classes (cs9 a Δ o) H → va_D A (cs9 a Δ o) → va_S A (sOf Γ).heap H L → g Γ { frames := 0, cells := 0, slots := 0, locals := 0 } 3 H L 0 0 71 [] []), g Γ { frames := 0, cells := 0, slots := 0, locals := 0 } 3 H L 0 0 2 [(0, .ref (a 0)), (1, .ref (a 15)), (2, .int x2)] [] := by
    intro n
    induction n with
    | zero => intro x2 s o H L hP hD hS hq; exact nomatch (show (none : Option (S9)) = some o from hq)
    | succ n ih =>
      intro x2 s o H L hP hD hS hq E2
      have hq : bd_X9_lay_leaves_2  (lp_X9_lay_leaves_2  n) x2 s = some o := hq
      refine g_iload_n C 3 rfl dX9_lay_2 2 rfl ?_
      refine g_bipush 6 C 5 rfl dX9_lay_3 kb_6 ?_
      refine s_icmp_ge C 71 8 rfl dX9_lay_5 (by decide) hq (fun hq => ?_) (fun hq => ?_)
      · cases hq
        exact g_sub [] rfl (E2 _ _ hP hD hS)
      refine g_aload_n C 9 rfl dX9_lay_8 0 rfl ?_
      refine g_get (v := .ref (a 1)) C 12 rfl dX9_lay_9 hK hP la_X9 0 3 (Nat.le_of_ble_eq_true rfl) fl_X9_7 rfl rfl rfl rfl ?_
      refine g_iload_n C 13 rfl dX9_lay_12 2 rfl ?_
      refine g_aload_n C 14 rfl dX9_lay_13 1 rfl ?_
      refine g_iload_n C 15 rfl dX9_lay_14 2 rfl ?_
      refine s_iald C 16 rfl dX9_lay_15 hK hP 15 rfl hq (fun hq hi1 => ?_)
      refine s_iast (cs9 a Δ (p9_temper s (upd (x9_temper s) (x2 : Int32).toNatClampNeg ((x9_leaves s) (x2 : Int32).toNatClampNeg)))) C 17 rfl dX9_lay_16 hK hP hD hS 1 rfl hq rfl (fun hq hi2 H L hP hD hS => ?_)
      refine g_aload_n C 18 rfl dX9_lay_17 0 rfl ?_
      refine g_get (v := .ref (a 3)) C 21 rfl dX9_lay_18 hK hP la_X9 0 5 (Nat.le_of_ble_eq_true rfl) fl_X9_16 rfl rfl rfl rfl ?_
      refine g_iload_n C 22 rfl dX9_lay_21 2 rfl ?_
      refine g_aload_n C 23 rfl dX9_lay_22 1 rfl ?_
      refine g_bipush 6 C 25 rfl dX9_lay_23 kb_6 ?_
      refine g_iload_n C 26 rfl dX9_lay_25 2 rfl ?_
      refine g_iadd C 27 rfl dX9_lay_26 ?_
      refine s_iald C 28 rfl dX9_lay_27 hK hP 15 rfl hq (fun hq hi3 => ?_)
      refine s_iast (cs9 a Δ (p9_stamps (p9_temper s (upd (x9_temper s) (x2 : Int32).toNatClampNeg ((x9_leaves s) (x2 : Int32).toNatClampNeg))) (upd (x9_stamps s) (x2 : Int32).toNatClampNeg ((x9_leaves s) ((6 + x2) : Int32).toNatClampNeg)))) C 29 rfl dX9_lay_28 hK hP hD hS 3 rfl hq rfl (fun hq hi4 H L hP hD hS => ?_)
      refine g_aload_n C 30 rfl dX9_lay_29 0 rfl ?_
      refine g_get (v := .ref (a 4)) C 33 rfl dX9_lay_30 hK hP la_X9 0 6 (Nat.le_of_ble_eq_true rfl) fl_X9_19 rfl rfl rfl rfl ?_
      refine g_iload_n C 34 rfl dX9_lay_33 2 rfl ?_
      refine g_aload_n C 35 rfl dX9_lay_34 1 rfl ?_
      refine g_bipush 12 C 37 rfl dX9_lay_35 kb_12 ?_
      refine g_iload_n C 38 rfl dX9_lay_37 2 rfl ?_
      refine g_iadd C 39 rfl dX9_lay_38 ?_
      refine s_iald C 40 rfl dX9_lay_39 hK hP 15 rfl hq (fun hq hi5 => ?_)
      refine s_iast (cs9 a Δ (p9_purse (p9_stamps (p9_temper s (upd (x9_temper s) (x2 : Int32).toNatClampNeg ((x9_leaves s) (x2 : Int32).toNatClampNeg))) (upd (x9_stamps s) (x2 : Int32).toNatClampNeg ((x9_leaves s) ((6 + x2) : Int32).toNatClampNeg))) (upd (x9_purse s) (x2 : Int32).toNatClampNeg ((x9_leaves s) ((12 + x2) : Int32).toNatClampNeg)))) C 41 rfl dX9_lay_40 hK hP hD hS 4 rfl hq rfl (fun hq hi6 H L hP hD hS => ?_)
      refine g_aload_n C 42 rfl dX9_lay_41 0 rfl ?_
      refine g_get (v := .ref (a 5)) C 45 rfl dX9_lay_42 hK hP la_X9 0 7 (Nat.le_of_ble_eq_true rfl) fl_X9_22 rfl rfl rfl rfl ?_
      refine g_iload_n C 46 rfl dX9_lay_45 2 rfl ?_
      refine g_aload_n C 47 rfl dX9_lay_46 1 rfl ?_
      refine g_bipush 18 C 49 rfl dX9_lay_47 kb_18 ?_
      refine g_iload_n C 50 rfl dX9_lay_49 2 rfl ?_
      refine g_iadd C 51 rfl dX9_lay_50 ?_
      refine s_iald C 52 rfl dX9_lay_51 hK hP 15 rfl hq (fun hq hi7 => ?_)
      refine s_iast (cs9 a Δ (p9_yard (p9_purse (p9_stamps (p9_temper s (upd (x9_temper s) (x2 : Int32).toNatClampNeg ((x9_leaves s) (x2 : Int32).toNatClampNeg))) (upd (x9_stamps s) (x2 : Int32).toNatClampNeg ((x9_leaves s) ((6 + x2) : Int32).toNatClampNeg))) (upd (x9_purse s) (x2 : Int32).toNatClampNeg ((x9_leaves s) ((12 + x2) : Int32).toNatClampNeg))) (upd (x9_yard s) (x2 : Int32).toNatClampNeg ((x9_leaves s) ((18 + x2) : Int32).toNatClampNeg)))) C 53 rfl dX9_lay_52 hK hP hD hS 5 rfl hq rfl (fun hq hi8 H L hP hD hS => ?_)
      refine g_aload_n C 54 rfl dX9_lay_53 0 rfl ?_
      refine g_get (v := .ref (a 6)) C 57 rfl dX9_lay_54 hK hP la_X9 0 8 (Nat.le_of_ble_eq_true rfl) fl_X9_25 rfl rfl rfl rfl ?_
      refine g_iload_n C 58 rfl dX9_lay_57 2 rfl ?_
      refine g_aload_n C 59 rfl dX9_lay_58 1 rfl ?_
      refine g_bipush 24 C 61 rfl dX9_lay_59 kb_24 ?_
      refine g_iload_n C 62 rfl dX9_lay_61 2 rfl ?_
      refine g_iadd C 63 rfl dX9_lay_62 ?_
      refine s_iald C 64 rfl dX9_lay_63 hK hP 15 rfl hq (fun hq hi9 => ?_)
      refine s_iast (cs9 a Δ (p9_cause (p9_yard (p9_purse (p9_stamps (p9_temper s (upd (x9_temper s) (x2 : Int32).toNatClampNeg ((x9_leaves s) (x2 : Int32).toNatClampNeg))) (upd (x9_stamps s) (x2 : Int32).toNatClampNeg ((x9_leaves s) ((6 + x2) : Int32).toNatClampNeg))) (upd (x9_purse s) (x2 : Int32).toNatClampNeg ((x9_leaves s) ((12 + x2) : Int32).toNatClampNeg))) (upd (x9_yard s) (x2 : Int32).toNatClampNeg ((x9_leaves s) ((18 + x2) : Int32).toNatClampNeg))) (upd (x9_cause s) (x2 : Int32).toNatClampNeg ((x9_leaves s) ((24 + x2) : Int32).toNatClampNeg)))) C 65 rfl dX9_lay_64 hK hP hD hS 6 rfl hq rfl (fun hq hi10 H L hP hD hS => ?_)
      refine g_iinc (x2 + 1) [(2, .int (x2 + 1)), (0, .ref (a 0)), (1, .ref (a 15))] C 68 rfl dX9_lay_65 2 rfl (ii_1 _) (Nat.le_of_ble_eq_true rfl) rfl ?_
      refine g_goto C 2 dX9_lay_68 (by decide) ?_
      exact g_sub [1, 2, 0] rfl (ih (x2 + 1) (p9_cause (p9_yard (p9_purse (p9_stamps (p9_temper s (upd (x9_temper s) (x2 : Int32).toNatClampNeg ((x9_leaves s) (x2 : Int32).toNatClampNeg))) (upd (x9_stamps s) (x2 : Int32).toNatClampNeg ((x9_leaves s) ((6 + x2) : Int32).toNatClampNeg))) (upd (x9_purse s) (x2 : Int32).toNatClampNeg ((x9_leaves s) ((12 + x2) : Int32).toNatClampNeg))) (upd (x9_yard s) (x2 : Int32).toNatClampNeg ((x9_leaves s) ((18 + x2) : Int32).toNatClampNeg))) (upd (x9_cause s) (x2 : Int32).toNatClampNeg ((x9_leaves s) ((24 + x2) : Int32).toNatClampNeg))) _ _ _ hP hD hS hq E2)
  obtain ⟨o11, ho12, hq⟩ := bindE hq
  refine g_sub [1, 2, 0] rfl (Q2  FUEL 0 s o11 _ _ hP hD hS ho12 (fun H L hP hD hS => ?_))
  exact w_void (ws := fun s => cs9 a Δ s) hR hq hP hS dX9_lay_71 rfl
set_option maxHeartbeats 4000000 in
set_option maxRecDepth 100000 in
theorem c_X9_beginCount (l : Launch) (Δ : gD) (a : Nat → Nat)  (s : S9) {res : S9} (hq : sem_X9_beginCount  s = some res) : MW l yX9_beginCount cX9_beginCount 1 none Δ (cs9 a Δ s) [.ref (a 0)] 0 0 none (cs9 a Δ res) := by
  refine MW.of (by decide) (Nat.le_of_ble_eq_true rfl) ?_
  intro Γ A H hl C hK hP hD hS hA hR
  subst hl
  show g Γ { frames := 0, cells := 0, slots := 0, locals := 0 } 1 H [] 0 0 0 [(0, .ref (a 0))] []
  refine g_aload_n C 1 rfl dX9_beginCount_0 0 rfl ?_
  refine g_iconst 0 C 2 rfl dX9_beginCount_1 ki_0 ?_
  refine g_put (cs9 a Δ (p9_slipMany s 0)) C 5 rfl dX9_beginCount_2 hK hP hD hS la_X9 tyX9_ok nmX9 0 19 (Nat.le_of_ble_eq_true rfl) fl_X9_172 rfl rfl rfl rfl rfl rfl (Nat.le_of_ble_eq_true rfl) rfl (fun H L hP hD hS => ?_)
  refine g_aload_n C 6 rfl dX9_beginCount_5 0 rfl ?_
  refine g_bipush (-6) C 8 rfl dX9_beginCount_6 kb_m6 ?_
  refine g_put (cs9 a Δ (p9_firstSlip (p9_slipMany s 0) (-6))) C 11 rfl dX9_beginCount_8 hK hP hD hS la_X9 tyX9_ok nmX9 0 20 (Nat.le_of_ble_eq_true rfl) fl_X9_178 rfl rfl rfl rfl rfl rfl (Nat.le_of_ble_eq_true rfl) rfl (fun H L hP hD hS => ?_)
  refine g_aload_n C 12 rfl dX9_beginCount_11 0 rfl ?_
  refine g_bipush (-6) C 14 rfl dX9_beginCount_12 kb_m6 ?_
  refine g_put (cs9 a Δ (p9_firstWho (p9_firstSlip (p9_slipMany s 0) (-6)) (-6))) C 17 rfl dX9_beginCount_14 hK hP hD hS la_X9 tyX9_ok nmX9 0 21 (Nat.le_of_ble_eq_true rfl) fl_X9_181 rfl rfl rfl rfl rfl rfl (Nat.le_of_ble_eq_true rfl) rfl (fun H L hP hD hS => ?_)
  refine g_aload_n C 18 rfl dX9_beginCount_17 0 rfl ?_
  refine g_iconst 0 C 19 rfl dX9_beginCount_18 ki_0 ?_
  refine g_put (cs9 a Δ (p9_firstHeard (p9_firstWho (p9_firstSlip (p9_slipMany s 0) (-6)) (-6)) 0)) C 22 rfl dX9_beginCount_19 hK hP hD hS la_X9 tyX9_ok nmX9 0 22 (Nat.le_of_ble_eq_true rfl) fl_X9_184 rfl rfl rfl rfl rfl rfl (Nat.le_of_ble_eq_true rfl) rfl (fun H L hP hD hS => ?_)
  refine g_aload_n C 23 rfl dX9_beginCount_22 0 rfl ?_
  refine g_iconst 0 C 24 rfl dX9_beginCount_23 ki_0 ?_
  refine g_put (cs9 a Δ (p9_paid (p9_firstHeard (p9_firstWho (p9_firstSlip (p9_slipMany s 0) (-6)) (-6)) 0) 0)) C 27 rfl dX9_beginCount_24 hK hP hD hS la_X9 tyX9_ok nmX9 0 23 (Nat.le_of_ble_eq_true rfl) fl_X9_169 rfl rfl rfl rfl rfl rfl (Nat.le_of_ble_eq_true rfl) rfl (fun H L hP hD hS => ?_)
  exact w_void (ws := fun s => cs9 a Δ s) hR hq hP hS dX9_beginCount_27 rfl
set_option maxHeartbeats 4000000 in
set_option maxRecDepth 100000 in
theorem c_X9_goHours (l : Launch) (Δ : gD) (a : Nat → Nat)  (s : S9) {res : S9} (hq : sem_X9_goHours  s = some res) : MW l yX9_goHours cX9_goHours 3 none Δ (cs9 a Δ s) [.ref (a 0)] 6 140 none (cs9 a Δ res) := by
  refine MW.of (by decide) (Nat.le_of_ble_eq_true rfl) ?_
  intro Γ A H hl C hK hP hD hS hA hR
  subst hl
  show g Γ { frames := 6, cells := 0, slots := 0, locals := 140 } 3 H [] 0 0 0 [(0, .ref (a 0))] []
  refine g_aload_n C 1 rfl dX9_goHours_0 0 rfl ?_
  obtain ⟨r1, hz2, hq⟩ := bindE hq
  refine g_callWV (rest := []) (cs9 a Δ r1) C 4 rfl dX9_goHours_1 (c_X9_beginCount Γ.2.1 Δ a  s hz2) mv_X9_beginCount ml_X9_198 hK hP hD hS hA [0, 1, 2, 3, 4, 5, 6, 7, 8, 9, 10, 11, 12, 13, 14, 15, 16, 17, 18, 19, 20, 21, 22, 23] [] [0, 1, 2, 3, 4, 5, 6, 7, 8, 9, 10, 11, 12, 13, 14, 15, 16, 17, 18, 19, 20, 21, 22, 23] rfl (by decide) (wr := []) rfl (by decide) (by decide) rfl rfl rfl rfl rfl rfl rfl rfl ⟨Nat.le_of_ble_eq_true rfl, Nat.le_of_ble_eq_true rfl⟩ (Nat.le_of_ble_eq_true rfl) ⟨Nat.zero_le _, Nat.zero_le _⟩ (fun H L hP hD hS => ?_)
  refine g_aload_n C 5 rfl dX9_goHours_4 0 rfl ?_
  refine g_bipush (-6) C 7 rfl dX9_goHours_5 kb_m6 ?_
  refine g_put (cs9 a Δ (p9_badAct r1 (-6))) C 10 rfl dX9_goHours_7 hK hP hD hS la_X9 tyX9_ok nmX9 0 27 (Nat.le_of_ble_eq_true rfl) fl_X9_201 rfl rfl rfl rfl rfl rfl (Nat.le_of_ble_eq_true rfl) rfl (fun H L hP hD hS => ?_)
  refine g_aload_n C 11 rfl dX9_goHours_10 0 rfl ?_
  refine g_bipush (-6) C 13 rfl dX9_goHours_11 kb_m6 ?_
  refine g_put (cs9 a Δ (p9_badWhy (p9_badAct r1 (-6)) (-6))) C 16 rfl dX9_goHours_13 hK hP hD hS la_X9 tyX9_ok nmX9 0 28 (Nat.le_of_ble_eq_true rfl) fl_X9_204 rfl rfl rfl rfl rfl rfl (Nat.le_of_ble_eq_true rfl) rfl (fun H L hP hD hS => ?_)
  refine g_iconst 0 C 17 rfl dX9_goHours_16 ki_0 ?_
  refine g_istore_n [(1, .int 0), (0, .ref (a 0))] C 18 rfl dX9_goHours_17 (Nat.le_of_ble_eq_true rfl) rfl ?_
  have Q18 : ∀ (n : Nat) (x1 : Int32) (s : S9) (o : (S9)) (H : Heap) (L : List Loc) (hP : va_P Δ.1 classes (cs9 a Δ s) H) (hD : va_D A (cs9 a Δ s)) (hS : va_S A (sOf Γ).heap H L) (hq : lp_X9_goHours_18  n x1 s = some o) (E2 : ∀ (H : Heap) (L : List Loc), va_P Δ.1 classes (cs9 a Δ o) H → va_D A (cs9 a Δ o) → va_S A (sOf Γ).heap H L → g Γ { frames := 6, cells := 0, slots := 0, locals := 140 } 3 H L 0 0 133 [] []), g Γ { frames := 6, cells := 0, slots := 0, locals := 140 } 3 H L 0 0 18 [(0, .ref (a 0)), (1, .int x1)] [] := by
    intro n
    induction n with
    | zero => intro x1 s o H L hP hD hS hq; exact nomatch (show (none : Option (S9)) = some o from hq)
    | succ n ih =>
      intro x1 s o H L hP hD hS hq E2
      have hq : bd_X9_goHours_18  (lp_X9_goHours_18  n) x1 s = some o := hq
      have K92 : ∀ (x1 : Int32) (x2 : Int32) (y1 : Int32) (s : S9) (H : Heap) (L : List Loc) (hP : va_P Δ.1 classes (cs9 a Δ s) H) (hD : va_D A (cs9 a Δ s)) (hS : va_S A (sOf Γ).heap H L), jn_X9_goHours_92 (lp_X9_goHours_18  n) x1 x2 y1 s = some o → g Γ { frames := 6, cells := 0, slots := 0, locals := 140 } 3 H L 0 0 92 [(0, .ref (a 0)), (1, .int x1), (2, .int x2)] [.int y1, .ref (a 0)] := by
        intro x1 x2 y1 s H L hP hD hS hq
        refine g_put (cs9 a Δ (p9_badWhy s y1)) C 95 rfl dX9_goHours_92 hK hP hD hS la_X9 tyX9_ok nmX9 0 28 (Nat.le_of_ble_eq_true rfl) fl_X9_204 rfl rfl rfl rfl rfl rfl (Nat.le_of_ble_eq_true rfl) rfl (fun H L hP hD hS => ?_)
        refine g_iload_n C 96 rfl dX9_goHours_95 2 rfl ?_
        refine s_if_ne C 127 99 rfl dX9_goHours_96 (by decide) hq (fun hq => ?_) (fun hq => ?_)
        · refine g_iinc (x1 + 1) [(1, .int (x1 + 1)), (0, .ref (a 0)), (2, .int x2)] C 130 rfl dX9_goHours_127 1 rfl (ii_1 _) (Nat.le_of_ble_eq_true rfl) rfl ?_
          refine g_goto C 18 dX9_goHours_130 (by decide) ?_
          exact g_sub [1, 0] rfl (ih (x1 + 1) (p9_badWhy s y1) _ _ _ hP hD hS hq E2)
        refine g_aload_n C 100 rfl dX9_goHours_99 0 rfl ?_
        refine g_aload_n C 101 rfl dX9_goHours_100 0 rfl ?_
        refine g_get (v := .ref (a 10)) C 104 rfl dX9_goHours_101 hK hP la_X9 0 14 (Nat.le_of_ble_eq_true rfl) fl_X9_37 rfl rfl rfl rfl ?_
        refine g_iload_n C 105 rfl dX9_goHours_104 1 rfl ?_
        refine s_iald C 106 rfl dX9_goHours_105 hK hP 10 rfl hq (fun hq hi3 => ?_)
        refine g_aload_n C 107 rfl dX9_goHours_106 0 rfl ?_
        refine g_get (v := .ref (a 11)) C 110 rfl dX9_goHours_107 hK hP la_X9 0 15 (Nat.le_of_ble_eq_true rfl) fl_X9_40 rfl rfl rfl rfl ?_
        refine g_iload_n C 111 rfl dX9_goHours_110 1 rfl ?_
        refine s_iald C 112 rfl dX9_goHours_111 hK hP 11 rfl hq (fun hq hi4 => ?_)
        refine g_aload_n C 113 rfl dX9_goHours_112 0 rfl ?_
        refine g_get (v := .ref (a 12)) C 116 rfl dX9_goHours_113 hK hP la_X9 0 16 (Nat.le_of_ble_eq_true rfl) fl_X9_43 rfl rfl rfl rfl ?_
        refine g_iload_n C 117 rfl dX9_goHours_116 1 rfl ?_
        refine s_iald C 118 rfl dX9_goHours_117 hK hP 12 rfl hq (fun hq hi5 => ?_)
        refine g_aload_n C 119 rfl dX9_goHours_118 0 rfl ?_
        refine g_get (v := .ref (a 13)) C 122 rfl dX9_goHours_119 hK hP la_X9 0 17 (Nat.le_of_ble_eq_true rfl) fl_X9_46 rfl rfl rfl rfl ?_
        refine g_iload_n C 123 rfl dX9_goHours_122 1 rfl ?_
        refine s_iald C 124 rfl dX9_goHours_123 hK hP 13 rfl hq (fun hq hi6 => ?_)
        obtain ⟨r7, hz8, hq⟩ := bindE hq
        refine g_callWV (rest := []) (cs9 a Δ r7) C 127 rfl dX9_goHours_124 (c_X9_happen Γ.2.1 Δ a ((x9_act s) (x1 : Int32).toNatClampNeg) ((x9_who s) (x1 : Int32).toNatClampNeg) ((x9_other s) (x1 : Int32).toNatClampNeg) ((x9_much s) (x1 : Int32).toNatClampNeg) (p9_badWhy s y1) hz8) mv_X9_happen ml_X9_211 hK hP hD hS hA [0, 1, 2, 3, 4, 5, 6, 7, 8, 9, 10, 11, 12, 13, 14, 15, 16, 17, 18, 19, 20, 21, 22, 23] [] [0, 1, 2, 3, 4, 5, 6, 7, 8, 9, 10, 11, 12, 13, 14, 15, 16, 17, 18, 19, 20, 21, 22, 23] rfl (by decide) (wr := []) rfl (by decide) (by decide) rfl rfl rfl rfl rfl rfl rfl rfl ⟨Nat.le_of_ble_eq_true rfl, Nat.le_of_ble_eq_true rfl⟩ (Nat.le_of_ble_eq_true rfl) ⟨Nat.zero_le _, Nat.zero_le _⟩ (fun H L hP hD hS => ?_)
        refine g_iinc (x1 + 1) [(1, .int (x1 + 1)), (0, .ref (a 0)), (2, .int x2)] C 130 rfl dX9_goHours_127 1 rfl (ii_1 _) (Nat.le_of_ble_eq_true rfl) rfl ?_
        refine g_goto C 18 dX9_goHours_130 (by decide) ?_
        exact g_sub [1, 0] rfl (ih (x1 + 1) r7 _ _ _ hP hD hS hq E2)
      have K78 : ∀ (x1 : Int32) (x2 : Int32) (y1 : Int32) (s : S9) (H : Heap) (L : List Loc) (hP : va_P Δ.1 classes (cs9 a Δ s) H) (hD : va_D A (cs9 a Δ s)) (hS : va_S A (sOf Γ).heap H L), jn_X9_goHours_78 (lp_X9_goHours_18  n) x1 x2 y1 s = some o → g Γ { frames := 6, cells := 0, slots := 0, locals := 140 } 3 H L 0 0 78 [(0, .ref (a 0)), (1, .int x1), (2, .int x2)] [.int y1, .ref (a 0)] := by
        intro x1 x2 y1 s H L hP hD hS hq
        refine g_put (cs9 a Δ (p9_badAct s y1)) C 81 rfl dX9_goHours_78 hK hP hD hS la_X9 tyX9_ok nmX9 0 27 (Nat.le_of_ble_eq_true rfl) fl_X9_201 rfl rfl rfl rfl rfl rfl (Nat.le_of_ble_eq_true rfl) rfl (fun H L hP hD hS => ?_)
        refine g_aload_n C 82 rfl dX9_goHours_81 0 rfl ?_
        refine g_iload_n C 83 rfl dX9_goHours_82 2 rfl ?_
        refine s_if_le C 90 86 rfl dX9_goHours_83 (by decide) hq (fun hq => ?_) (fun hq => ?_)
        · refine g_bipush (-6) C 92 rfl dX9_goHours_90 kb_m6 ?_
          exact g_sub [0, 1, 2] rfl (K92 x1 x2 (-6) (p9_badAct s y1) _ _ hP hD hS hq)
        refine g_iload_n C 87 rfl dX9_goHours_86 2 rfl ?_
        refine g_goto C 92 dX9_goHours_87 (by decide) ?_
        exact g_sub [0, 1, 2] rfl (K92 x1 x2 x2 (p9_badAct s y1) _ _ hP hD hS hq)
      refine g_iload_n C 19 rfl dX9_goHours_18 1 rfl ?_
      refine g_aload_n C 20 rfl dX9_goHours_19 0 rfl ?_
      refine g_get (v := .int (x9_acts s)) C 23 rfl dX9_goHours_20 hK hP la_X9 0 18 (Nat.le_of_ble_eq_true rfl) fl_X9_130 rfl rfl rfl rfl ?_
      refine s_icmp_ge C 133 26 rfl dX9_goHours_23 (by decide) hq (fun hq => ?_) (fun hq => ?_)
      · cases hq
        exact g_sub [] rfl (E2 _ _ hP hD hS)
      refine g_aload_n C 27 rfl dX9_goHours_26 0 rfl ?_
      refine g_get (v := .int (x9_badAct s)) C 30 rfl dX9_goHours_27 hK hP la_X9 0 27 (Nat.le_of_ble_eq_true rfl) fl_X9_201 rfl rfl rfl rfl ?_
      refine s_if_ge C 133 33 rfl dX9_goHours_30 (by decide) hq (fun hq => ?_) (fun hq => ?_)
      · cases hq
        exact g_sub [] rfl (E2 _ _ hP hD hS)
      refine g_aload_n C 34 rfl dX9_goHours_33 0 rfl ?_
      refine g_iload_n C 35 rfl dX9_goHours_34 1 rfl ?_
      refine g_put (cs9 a Δ (p9_actNow s x1)) C 38 rfl dX9_goHours_35 hK hP hD hS la_X9 tyX9_ok nmX9 0 24 (Nat.le_of_ble_eq_true rfl) fl_X9_175 rfl rfl rfl rfl rfl rfl (Nat.le_of_ble_eq_true rfl) rfl (fun H L hP hD hS => ?_)
      refine g_aload_n C 39 rfl dX9_goHours_38 0 rfl ?_
      refine g_aload_n C 40 rfl dX9_goHours_39 0 rfl ?_
      refine g_get (v := .ref (a 10)) C 43 rfl dX9_goHours_40 hK hP la_X9 0 14 (Nat.le_of_ble_eq_true rfl) fl_X9_37 rfl rfl rfl rfl ?_
      refine g_iload_n C 44 rfl dX9_goHours_43 1 rfl ?_
      refine s_iald C 45 rfl dX9_goHours_44 hK hP 10 rfl hq (fun hq hi9 => ?_)
      refine g_aload_n C 46 rfl dX9_goHours_45 0 rfl ?_
      refine g_get (v := .ref (a 11)) C 49 rfl dX9_goHours_46 hK hP la_X9 0 15 (Nat.le_of_ble_eq_true rfl) fl_X9_40 rfl rfl rfl rfl ?_
      refine g_iload_n C 50 rfl dX9_goHours_49 1 rfl ?_
      refine s_iald C 51 rfl dX9_goHours_50 hK hP 11 rfl hq (fun hq hi10 => ?_)
      refine g_aload_n C 52 rfl dX9_goHours_51 0 rfl ?_
      refine g_get (v := .ref (a 12)) C 55 rfl dX9_goHours_52 hK hP la_X9 0 16 (Nat.le_of_ble_eq_true rfl) fl_X9_43 rfl rfl rfl rfl ?_
      refine g_iload_n C 56 rfl dX9_goHours_55 1 rfl ?_
      refine s_iald C 57 rfl dX9_goHours_56 hK hP 12 rfl hq (fun hq hi11 => ?_)
      refine g_aload_n C 58 rfl dX9_goHours_57 0 rfl ?_
      refine g_get (v := .ref (a 13)) C 61 rfl dX9_goHours_58 hK hP la_X9 0 17 (Nat.le_of_ble_eq_true rfl) fl_X9_46 rfl rfl rfl rfl ?_
      refine g_iload_n C 62 rfl dX9_goHours_61 1 rfl ?_
      refine s_iald C 63 rfl dX9_goHours_62 hK hP 13 rfl hq (fun hq hi12 => ?_)
      obtain ⟨r13, hz14, hq⟩ := bindE hq
      refine g_callRV (rest := []) C 66 rfl dX9_goHours_63 (c_X9_whyNot Γ.2.1 Δ a ((x9_act s) (x1 : Int32).toNatClampNeg) ((x9_who s) (x1 : Int32).toNatClampNeg) ((x9_other s) (x1 : Int32).toNatClampNeg) ((x9_much s) (x1 : Int32).toNatClampNeg) (p9_actNow s x1) hz14) mv_X9_whyNot ml_X9_207 hK hP rfl rfl rfl rfl rfl ⟨Nat.le_of_ble_eq_true rfl, Nat.le_of_ble_eq_true rfl⟩ (Nat.le_of_ble_eq_true rfl) ⟨Nat.zero_le _, Nat.zero_le _⟩ ?_
      refine g_istore_n [(2, .int r13), (0, .ref (a 0)), (1, .int x1)] C 67 rfl dX9_goHours_66 (Nat.le_of_ble_eq_true rfl) rfl ?_
      refine g_aload_n C 68 rfl dX9_goHours_67 1 rfl ?_
      refine g_iload_n C 69 rfl dX9_goHours_68 0 rfl ?_
      refine s_if_le C 76 72 rfl dX9_goHours_69 (by decide) hq (fun hq => ?_) (fun hq => ?_)
      · refine g_bipush (-6) C 78 rfl dX9_goHours_76 kb_m6 ?_
        exact g_sub [1, 2, 0] rfl (K78 x1 r13 (-6) (p9_actNow s x1) _ _ hP hD hS hq)
      refine g_iload_n C 73 rfl dX9_goHours_72 2 rfl ?_
      refine g_goto C 78 dX9_goHours_73 (by decide) ?_
      exact g_sub [1, 2, 0] rfl (K78 x1 r13 x1 (p9_actNow s x1) _ _ hP hD hS hq)
  obtain ⟨o15, ho16, hq⟩ := bindE hq
  refine g_sub [1, 0] rfl (Q18  FUEL 0 (p9_badWhy (p9_badAct r1 (-6)) (-6)) o15 _ _ hP hD hS ho16 (fun H L hP hD hS => ?_))
  exact w_void (ws := fun s => cs9 a Δ s) hR hq hP hS dX9_goHours_133 rfl
set_option maxHeartbeats 4000000 in
set_option maxRecDepth 100000 in
theorem c_X9_refusal (l : Launch) (Δ : gD) (a : Nat → Nat)  (s : S9) {res : Int32 × S9} (hq : sem_X9_refusal  s = some res) : MW l yX9_refusal cX9_refusal 1 (some .int) Δ (cs9 a Δ s) [.ref (a 0)] 7 162 (some (.int res.1)) (cs9 a Δ res.2) := by
  refine MW.of (by decide) (Nat.le_of_ble_eq_true rfl) ?_
  intro Γ A H hl C hK hP hD hS hA hR
  subst hl
  show g Γ { frames := 7, cells := 0, slots := 0, locals := 162 } 1 H [] 0 0 0 [(0, .ref (a 0))] []
  refine g_aload_n C 1 rfl dX9_refusal_0 0 rfl ?_
  obtain ⟨r1, hz2, hq⟩ := bindE hq
  refine g_callWV (rest := []) (cs9 a Δ r1.2) C 4 rfl dX9_refusal_1 (c_X9_fault Γ.2.1 Δ a  s hz2) mv_X9_fault ml_X9_215 hK hP hD hS hA [0, 1, 2, 3, 4, 5, 6, 7, 8, 9, 10, 11, 12, 13, 14, 15, 16, 17, 18, 19, 20, 21, 22, 23] [] [0, 1, 2, 3, 4, 5, 6, 7, 8, 9, 10, 11, 12, 13, 14, 15, 16, 17, 18, 19, 20, 21, 22, 23] rfl (by decide) (wr := []) rfl (by decide) (by decide) rfl rfl rfl rfl rfl rfl rfl rfl ⟨Nat.le_of_ble_eq_true rfl, Nat.le_of_ble_eq_true rfl⟩ (Nat.le_of_ble_eq_true rfl) ⟨Nat.zero_le _, Nat.zero_le _⟩ (fun H L hP hD hS => ?_)
  refine s_if_lt C 10 7 rfl dX9_refusal_4 (by decide) hq (fun hq => ?_) (fun hq => ?_)
  rotate_left
  · refine g_bipush (-5) C 9 rfl dX9_refusal_7 kb_m5 ?_
    exact w_int (ws := fun s => cs9 a Δ s) hR hq hP hS dX9_refusal_9 rfl rfl
  refine g_aload_n C 11 rfl dX9_refusal_10 0 rfl ?_
  refine g_aload_n C 12 rfl dX9_refusal_11 0 rfl ?_
  refine g_get (v := .ref (a 14)) C 15 rfl dX9_refusal_12 hK hP la_X9 0 25 (Nat.le_of_ble_eq_true rfl) fl_X9_49 rfl rfl rfl rfl ?_
  obtain ⟨r3, hz4, hq⟩ := bindE hq
  refine g_callWV (rest := []) (cs9 a Δ r3) C 18 rfl dX9_refusal_15 (c_X9_store_had Γ.2.1 Δ a  r1.2 hz4) mv_X9_store ml_X9_218 hK hP hD hS hA [0, 1, 2, 3, 4, 5, 6, 7, 8, 9, 10, 11, 12, 13, 14, 15, 16, 17, 18, 19, 20, 21, 22, 23] [] [0, 1, 2, 3, 4, 5, 6, 7, 8, 9, 10, 11, 12, 13, 14, 15, 16, 17, 18, 19, 20, 21, 22, 23] rfl (by decide) (wr := []) rfl (by decide) (by decide) rfl rfl rfl rfl rfl rfl rfl rfl ⟨Nat.le_of_ble_eq_true rfl, Nat.le_of_ble_eq_true rfl⟩ (Nat.le_of_ble_eq_true rfl) ⟨Nat.zero_le _, Nat.zero_le _⟩ (fun H L hP hD hS => ?_)
  refine g_aload_n C 19 rfl dX9_refusal_18 0 rfl ?_
  obtain ⟨r5, hz6, hq⟩ := bindE hq
  refine g_callWV (rest := []) (cs9 a Δ r5) C 22 rfl dX9_refusal_19 (c_X9_goHours Γ.2.1 Δ a  r3 hz6) mv_X9_goHours ml_X9_222 hK hP hD hS hA [0, 1, 2, 3, 4, 5, 6, 7, 8, 9, 10, 11, 12, 13, 14, 15, 16, 17, 18, 19, 20, 21, 22, 23] [] [0, 1, 2, 3, 4, 5, 6, 7, 8, 9, 10, 11, 12, 13, 14, 15, 16, 17, 18, 19, 20, 21, 22, 23] rfl (by decide) (wr := []) rfl (by decide) (by decide) rfl rfl rfl rfl rfl rfl rfl rfl ⟨Nat.le_of_ble_eq_true rfl, Nat.le_of_ble_eq_true rfl⟩ (Nat.le_of_ble_eq_true rfl) ⟨Nat.zero_le _, Nat.zero_le _⟩ (fun H L hP hD hS => ?_)
  refine g_aload_n C 23 rfl dX9_refusal_22 0 rfl ?_
  refine g_aload_n C 24 rfl dX9_refusal_23 0 rfl ?_
  refine g_get (v := .ref (a 15)) C 27 rfl dX9_refusal_24 hK hP la_X9 0 26 (Nat.le_of_ble_eq_true rfl) fl_X9_52 rfl rfl rfl rfl ?_
  obtain ⟨r7, hz8, hq⟩ := bindE hq
  refine g_callWV (rest := []) (cs9 a Δ r7) C 30 rfl dX9_refusal_27 (c_X9_store_leaves Γ.2.1 Δ a  r5 hz8) mv_X9_store ml_X9_218 hK hP hD hS hA [0, 1, 2, 3, 4, 5, 6, 7, 8, 9, 10, 11, 12, 13, 14, 15, 16, 17, 18, 19, 20, 21, 22, 23] [] [0, 1, 2, 3, 4, 5, 6, 7, 8, 9, 10, 11, 12, 13, 14, 15, 16, 17, 18, 19, 20, 21, 22, 23] rfl (by decide) (wr := []) rfl (by decide) (by decide) rfl rfl rfl rfl rfl rfl rfl rfl ⟨Nat.le_of_ble_eq_true rfl, Nat.le_of_ble_eq_true rfl⟩ (Nat.le_of_ble_eq_true rfl) ⟨Nat.zero_le _, Nat.zero_le _⟩ (fun H L hP hD hS => ?_)
  refine g_aload_n C 31 rfl dX9_refusal_30 0 rfl ?_
  refine g_aload_n C 32 rfl dX9_refusal_31 0 rfl ?_
  refine g_get (v := .ref (a 14)) C 35 rfl dX9_refusal_32 hK hP la_X9 0 25 (Nat.le_of_ble_eq_true rfl) fl_X9_49 rfl rfl rfl rfl ?_
  obtain ⟨r9, hz10, hq⟩ := bindE hq
  refine g_callWV (rest := []) (cs9 a Δ r9) C 38 rfl dX9_refusal_35 (c_X9_lay_had Γ.2.1 Δ a  r7 hz10) mv_X9_lay ml_X9_225 hK hP hD hS hA [0, 1, 2, 3, 4, 5, 6, 7, 8, 9, 10, 11, 12, 13, 14, 15, 16, 17, 18, 19, 20, 21, 22, 23] [] [0, 1, 2, 3, 4, 5, 6, 7, 8, 9, 10, 11, 12, 13, 14, 15, 16, 17, 18, 19, 20, 21, 22, 23] rfl (by decide) (wr := []) rfl (by decide) (by decide) rfl rfl rfl rfl rfl rfl rfl rfl ⟨Nat.le_of_ble_eq_true rfl, Nat.le_of_ble_eq_true rfl⟩ (Nat.le_of_ble_eq_true rfl) ⟨Nat.zero_le _, Nat.zero_le _⟩ (fun H L hP hD hS => ?_)
  refine g_aload_n C 39 rfl dX9_refusal_38 0 rfl ?_
  refine g_get (v := .int (x9_badAct r9)) C 42 rfl dX9_refusal_39 hK hP la_X9 0 27 (Nat.le_of_ble_eq_true rfl) fl_X9_201 rfl rfl rfl rfl ?_
  refine s_if_lt C 50 45 rfl dX9_refusal_42 (by decide) hq (fun hq => ?_) (fun hq => ?_)
  · refine g_bipush (-6) C 52 rfl dX9_refusal_50 kb_m6 ?_
    exact w_int (ws := fun s => cs9 a Δ s) hR hq hP hS dX9_refusal_52 rfl rfl
  refine g_bipush (-3) C 47 rfl dX9_refusal_45 kb_m3 ?_
  refine g_goto C 52 dX9_refusal_47 (by decide) ?_
  exact w_int (ws := fun s => cs9 a Δ s) hR hq hP hS dX9_refusal_52 rfl rfl
set_option maxHeartbeats 4000000 in
set_option maxRecDepth 100000 in
theorem c_X9_judge (l : Launch) (Δ : gD) (a : Nat → Nat) (x1 : Int32) (s : S9) {res : Int32 × S9} (hq : sem_X9_judge x1 s = some res) : MW l yX9_judge cX9_judge 3 (some .int) Δ (cs9 a Δ s) [.ref (a 0), .int x1] 8 182 (some (.int res.1)) (cs9 a Δ res.2) := by
  refine MW.of (by decide) (Nat.le_of_ble_eq_true rfl) ?_
  intro Γ A H hl C hK hP hD hS hA hR
  subst hl
  have K39 : ∀ (x1 : Int32) (s : S9) (H : Heap) (L : List Loc) (hP : va_P Δ.1 classes (cs9 a Δ s) H) (hD : va_D A (cs9 a Δ s)) (hS : va_S A (sOf Γ).heap H L), jn_X9_judge_39 x1 s = some res → g Γ { frames := 8, cells := 0, slots := 0, locals := 182 } 3 H L 0 0 39 [(0, .ref (a 0)), (1, .int x1)] [] := by
    intro x1 s H L hP hD hS hq
    refine g_iload_n C 40 rfl dX9_judge_39 1 rfl ?_
    refine s_if_ne C 50 43 rfl dX9_judge_40 (by decide) hq (fun hq => ?_) (fun hq => ?_)
    rotate_left
    · refine g_aload_n C 44 rfl dX9_judge_43 0 rfl ?_
      refine g_get (v := .int (x9_badAct s)) C 47 rfl dX9_judge_44 hK hP la_X9 0 27 (Nat.le_of_ble_eq_true rfl) fl_X9_201 rfl rfl rfl rfl ?_
      refine g_goto C 66 dX9_judge_47 (by decide) ?_
      exact w_int (ws := fun s => cs9 a Δ s) hR hq hP hS dX9_judge_66 rfl rfl
    refine g_iload_n C 51 rfl dX9_judge_50 1 rfl ?_
    refine g_iconst 1 C 52 rfl dX9_judge_51 ki_1 ?_
    refine s_icmp_ne C 62 55 rfl dX9_judge_52 (by decide) hq (fun hq => ?_) (fun hq => ?_)
    · refine g_aload_n C 63 rfl dX9_judge_62 0 rfl ?_
      refine g_get (v := .int (x9_slipMany s)) C 66 rfl dX9_judge_63 hK hP la_X9 0 19 (Nat.le_of_ble_eq_true rfl) fl_X9_172 rfl rfl rfl rfl ?_
      exact w_int (ws := fun s => cs9 a Δ s) hR hq hP hS dX9_judge_66 rfl rfl
    refine g_aload_n C 56 rfl dX9_judge_55 0 rfl ?_
    refine g_get (v := .int (x9_badWhy s)) C 59 rfl dX9_judge_56 hK hP la_X9 0 28 (Nat.le_of_ble_eq_true rfl) fl_X9_204 rfl rfl rfl rfl ?_
    refine g_goto C 66 dX9_judge_59 (by decide) ?_
    exact w_int (ws := fun s => cs9 a Δ s) hR hq hP hS dX9_judge_66 rfl rfl
  show g Γ { frames := 8, cells := 0, slots := 0, locals := 182 } 3 H [] 0 0 0 [(0, .ref (a 0)), (1, .int x1)] []
  refine g_iload_n C 1 rfl dX9_judge_0 1 rfl ?_
  refine g_i2l C 2 rfl dX9_judge_1 ?_
  refine g_lconst 0 C 3 rfl dX9_judge_2 kl_0 ?_
  refine g_ldc2 2 C 6 rfl dX9_judge_3 k_X9_228 ?_
  obtain ⟨r1, hz2, hq⟩ := bindE hq
  refine g_callRS (rest := []) C 9 rfl dX9_judge_6 (c_X9_in Γ.2.1 Δ  (Int32.toInt64 x1) 0 2  hz2) mv_X9_in (Or.inl ml_X9_90) hK rfl rfl ⟨Nat.le_of_ble_eq_true rfl, Nat.le_of_ble_eq_true rfl⟩ (Nat.le_of_ble_eq_true rfl) ⟨Nat.zero_le _, Nat.zero_le _⟩ ?_
  refine s_if_ne C 15 12 rfl dX9_judge_9 (by decide) hq (fun hq => ?_) (fun hq => ?_)
  rotate_left
  · refine g_bipush (-2) C 14 rfl dX9_judge_12 kb_m2 ?_
    exact w_int (ws := fun s => cs9 a Δ s) hR hq hP hS dX9_judge_14 rfl rfl
  refine g_aload_n C 16 rfl dX9_judge_15 0 rfl ?_
  obtain ⟨r3, hz4, hq⟩ := bindE hq
  refine g_callWV (rest := []) (cs9 a Δ r3.2) C 19 rfl dX9_judge_16 (c_X9_refusal Γ.2.1 Δ a  s hz4) mv_X9_refusal ml_X9_230 hK hP hD hS hA [0, 1, 2, 3, 4, 5, 6, 7, 8, 9, 10, 11, 12, 13, 14, 15, 16, 17, 18, 19, 20, 21, 22, 23] [] [0, 1, 2, 3, 4, 5, 6, 7, 8, 9, 10, 11, 12, 13, 14, 15, 16, 17, 18, 19, 20, 21, 22, 23] rfl (by decide) (wr := []) rfl (by decide) (by decide) rfl rfl rfl rfl rfl rfl rfl rfl ⟨Nat.le_of_ble_eq_true rfl, Nat.le_of_ble_eq_true rfl⟩ (Nat.le_of_ble_eq_true rfl) ⟨Nat.zero_le _, Nat.zero_le _⟩ (fun H L hP hD hS => ?_)
  refine g_istore_n [(2, .int r3.1), (0, .ref (a 0)), (1, .int x1)] C 20 rfl dX9_judge_19 (Nat.le_of_ble_eq_true rfl) rfl ?_
  refine g_iload_n C 21 rfl dX9_judge_20 0 rfl ?_
  refine g_bipush (-5) C 23 rfl dX9_judge_21 kb_m5 ?_
  refine s_icmp_eq C 37 26 rfl dX9_judge_23 (by decide) hq (fun hq => ?_) (fun hq => ?_)
  · refine g_iload_n C 38 rfl dX9_judge_37 0 rfl ?_
    exact w_int (ws := fun s => cs9 a Δ s) hR hq hP hS dX9_judge_38 rfl rfl
  refine g_iload_n C 27 rfl dX9_judge_26 2 rfl ?_
  refine g_iconst 1 C 28 rfl dX9_judge_27 ki_1 ?_
  refine s_icmp_le C 39 31 rfl dX9_judge_28 (by decide) hq (fun hq => ?_) (fun hq => ?_)
  · exact g_sub [1, 2] rfl (K39 x1 r3.2 _ _ hP hD hS hq)
  refine g_iload_n C 32 rfl dX9_judge_31 0 rfl ?_
  refine g_bipush (-3) C 34 rfl dX9_judge_32 kb_m3 ?_
  refine s_icmp_ne C 39 37 rfl dX9_judge_34 (by decide) hq (fun hq => ?_) (fun hq => ?_)
  · exact g_sub [1, 2] rfl (K39 x1 r3.2 _ _ hP hD hS hq)
  refine g_iload_n C 38 rfl dX9_judge_37 0 rfl ?_
  exact w_int (ws := fun s => cs9 a Δ s) hR hq hP hS dX9_judge_38 rfl rfl
set_option maxHeartbeats 4000000 in
set_option maxRecDepth 100000 in
theorem c_X9_behind (l : Launch) (Δ : gD) (a : Nat → Nat) (x1 : Int32) (x2 : Int32) (s : S9) {res : Int32 × S9} (hq : sem_X9_behind x1 x2 s = some res) : MW l yX9_behind cX9_behind 4 (some .int) Δ (cs9 a Δ s) [.ref (a 0), .int x1, .int x2] 8 182 (some (.int res.1)) (cs9 a Δ res.2) := by
  refine MW.of (by decide) (Nat.le_of_ble_eq_true rfl) ?_
  intro Γ A H hl C hK hP hD hS hA hR
  subst hl
  show g Γ { frames := 8, cells := 0, slots := 0, locals := 182 } 4 H [] 0 0 0 [(0, .ref (a 0)), (1, .int x1), (2, .int x2)] []
  refine g_aload_n C 1 rfl dX9_behind_0 0 rfl ?_
  refine g_iload_n C 2 rfl dX9_behind_1 1 rfl ?_
  obtain ⟨r1, hz2, hq⟩ := bindE hq
  refine g_callRV (rest := []) C 5 rfl dX9_behind_2 (c_X9_isOne Γ.2.1 Δ a x1 s hz2) mv_X9_isOne ml_X9_107 hK hP rfl rfl rfl rfl rfl ⟨Nat.le_of_ble_eq_true rfl, Nat.le_of_ble_eq_true rfl⟩ (Nat.le_of_ble_eq_true rfl) ⟨Nat.zero_le _, Nat.zero_le _⟩ ?_
  refine s_if_ne C 10 8 rfl dX9_behind_5 (by decide) hq (fun hq => ?_) (fun hq => ?_)
  rotate_left
  · refine g_iconst (-1) C 9 rfl dX9_behind_8 ki_m1 ?_
    exact w_int (ws := fun s => cs9 a Δ s) hR hq hP hS dX9_behind_9 rfl rfl
  refine g_iload_n C 11 rfl dX9_behind_10 2 rfl ?_
  refine g_i2l C 12 rfl dX9_behind_11 ?_
  refine g_lconst 0 C 13 rfl dX9_behind_12 kl_0 ?_
  refine g_ldc2 4 C 16 rfl dX9_behind_13 k_X9_233 ?_
  obtain ⟨r3, hz4, hq⟩ := bindE hq
  refine g_callRS (rest := []) C 19 rfl dX9_behind_16 (c_X9_in Γ.2.1 Δ  (Int32.toInt64 x2) 0 4  hz4) mv_X9_in (Or.inl ml_X9_90) hK rfl rfl ⟨Nat.le_of_ble_eq_true rfl, Nat.le_of_ble_eq_true rfl⟩ (Nat.le_of_ble_eq_true rfl) ⟨Nat.zero_le _, Nat.zero_le _⟩ ?_
  refine s_if_ne C 25 22 rfl dX9_behind_19 (by decide) hq (fun hq => ?_) (fun hq => ?_)
  rotate_left
  · refine g_bipush (-2) C 24 rfl dX9_behind_22 kb_m2 ?_
    exact w_int (ws := fun s => cs9 a Δ s) hR hq hP hS dX9_behind_24 rfl rfl
  refine g_aload_n C 26 rfl dX9_behind_25 0 rfl ?_
  obtain ⟨r5, hz6, hq⟩ := bindE hq
  refine g_callWV (rest := []) (cs9 a Δ r5.2) C 29 rfl dX9_behind_26 (c_X9_refusal Γ.2.1 Δ a  s hz6) mv_X9_refusal ml_X9_230 hK hP hD hS hA [0, 1, 2, 3, 4, 5, 6, 7, 8, 9, 10, 11, 12, 13, 14, 15, 16, 17, 18, 19, 20, 21, 22, 23] [] [0, 1, 2, 3, 4, 5, 6, 7, 8, 9, 10, 11, 12, 13, 14, 15, 16, 17, 18, 19, 20, 21, 22, 23] rfl (by decide) (wr := []) rfl (by decide) (by decide) rfl rfl rfl rfl rfl rfl rfl rfl ⟨Nat.le_of_ble_eq_true rfl, Nat.le_of_ble_eq_true rfl⟩ (Nat.le_of_ble_eq_true rfl) ⟨Nat.zero_le _, Nat.zero_le _⟩ (fun H L hP hD hS => ?_)
  refine g_istore_n [(3, .int r5.1), (0, .ref (a 0)), (1, .int x1), (2, .int x2)] C 30 rfl dX9_behind_29 (Nat.le_of_ble_eq_true rfl) rfl ?_
  refine g_iload_n C 31 rfl dX9_behind_30 0 rfl ?_
  refine g_bipush (-6) C 33 rfl dX9_behind_31 kb_m6 ?_
  refine s_icmp_eq C 40 36 rfl dX9_behind_33 (by decide) hq (fun hq => ?_) (fun hq => ?_)
  rotate_left
  · refine g_iload_n C 37 rfl dX9_behind_36 0 rfl ?_
    refine g_goto C 51 dX9_behind_37 (by decide) ?_
    exact w_int (ws := fun s => cs9 a Δ s) hR hq hP hS dX9_behind_51 rfl rfl
  refine g_aload_n C 41 rfl dX9_behind_40 1 rfl ?_
  refine g_get (v := .ref (a 15)) C 44 rfl dX9_behind_41 hK hP la_X9 0 26 (Nat.le_of_ble_eq_true rfl) fl_X9_52 rfl rfl rfl rfl ?_
  refine g_bipush 6 C 46 rfl dX9_behind_44 kb_6 ?_
  refine g_iload_n C 47 rfl dX9_behind_46 3 rfl ?_
  refine g_imul C 48 rfl dX9_behind_47 ?_
  refine g_iload_n C 49 rfl dX9_behind_48 2 rfl ?_
  refine g_iadd C 50 rfl dX9_behind_49 ?_
  refine s_iald C 51 rfl dX9_behind_50 hK hP 15 rfl hq (fun hq hi7 => ?_)
  exact w_int (ws := fun s => cs9 a Δ s) hR hq hP hS dX9_behind_51 rfl rfl
set_option maxHeartbeats 4000000 in
set_option maxRecDepth 100000 in
theorem c_X9_slipped (l : Launch) (Δ : gD) (a : Nat → Nat) (x1 : Int32) (s : S9) {res : Int32 × S9} (hq : sem_X9_slipped x1 s = some res) : MW l yX9_slipped cX9_slipped 3 (some .int) Δ (cs9 a Δ s) [.ref (a 0), .int x1] 8 182 (some (.int res.1)) (cs9 a Δ res.2) := by
  refine MW.of (by decide) (Nat.le_of_ble_eq_true rfl) ?_
  intro Γ A H hl C hK hP hD hS hA hR
  subst hl
  show g Γ { frames := 8, cells := 0, slots := 0, locals := 182 } 3 H [] 0 0 0 [(0, .ref (a 0)), (1, .int x1)] []
  refine g_iload_n C 1 rfl dX9_slipped_0 1 rfl ?_
  refine g_i2l C 2 rfl dX9_slipped_1 ?_
  refine g_lconst 0 C 3 rfl dX9_slipped_2 kl_0 ?_
  refine g_ldc2 3 C 6 rfl dX9_slipped_3 k_X9_235 ?_
  obtain ⟨r1, hz2, hq⟩ := bindE hq
  refine g_callRS (rest := []) C 9 rfl dX9_slipped_6 (c_X9_in Γ.2.1 Δ  (Int32.toInt64 x1) 0 3  hz2) mv_X9_in (Or.inl ml_X9_90) hK rfl rfl ⟨Nat.le_of_ble_eq_true rfl, Nat.le_of_ble_eq_true rfl⟩ (Nat.le_of_ble_eq_true rfl) ⟨Nat.zero_le _, Nat.zero_le _⟩ ?_
  refine s_if_ne C 15 12 rfl dX9_slipped_9 (by decide) hq (fun hq => ?_) (fun hq => ?_)
  rotate_left
  · refine g_bipush (-2) C 14 rfl dX9_slipped_12 kb_m2 ?_
    exact w_int (ws := fun s => cs9 a Δ s) hR hq hP hS dX9_slipped_14 rfl rfl
  refine g_aload_n C 16 rfl dX9_slipped_15 0 rfl ?_
  obtain ⟨r3, hz4, hq⟩ := bindE hq
  refine g_callWV (rest := []) (cs9 a Δ r3.2) C 19 rfl dX9_slipped_16 (c_X9_refusal Γ.2.1 Δ a  s hz4) mv_X9_refusal ml_X9_230 hK hP hD hS hA [0, 1, 2, 3, 4, 5, 6, 7, 8, 9, 10, 11, 12, 13, 14, 15, 16, 17, 18, 19, 20, 21, 22, 23] [] [0, 1, 2, 3, 4, 5, 6, 7, 8, 9, 10, 11, 12, 13, 14, 15, 16, 17, 18, 19, 20, 21, 22, 23] rfl (by decide) (wr := []) rfl (by decide) (by decide) rfl rfl rfl rfl rfl rfl rfl rfl ⟨Nat.le_of_ble_eq_true rfl, Nat.le_of_ble_eq_true rfl⟩ (Nat.le_of_ble_eq_true rfl) ⟨Nat.zero_le _, Nat.zero_le _⟩ (fun H L hP hD hS => ?_)
  refine g_istore_n [(2, .int r3.1), (0, .ref (a 0)), (1, .int x1)] C 20 rfl dX9_slipped_19 (Nat.le_of_ble_eq_true rfl) rfl ?_
  refine g_iload_n C 21 rfl dX9_slipped_20 0 rfl ?_
  refine g_bipush (-6) C 23 rfl dX9_slipped_21 kb_m6 ?_
  refine s_icmp_eq C 28 26 rfl dX9_slipped_23 (by decide) hq (fun hq => ?_) (fun hq => ?_)
  rotate_left
  · refine g_iload_n C 27 rfl dX9_slipped_26 0 rfl ?_
    exact w_int (ws := fun s => cs9 a Δ s) hR hq hP hS dX9_slipped_27 rfl rfl
  refine g_iload_n C 29 rfl dX9_slipped_28 2 rfl ?_
  refine s_if_ne C 39 32 rfl dX9_slipped_29 (by decide) hq (fun hq => ?_) (fun hq => ?_)
  rotate_left
  · refine g_aload_n C 33 rfl dX9_slipped_32 1 rfl ?_
    refine g_get (v := .int (x9_firstSlip r3.2)) C 36 rfl dX9_slipped_33 hK hP la_X9 0 20 (Nat.le_of_ble_eq_true rfl) fl_X9_178 rfl rfl rfl rfl ?_
    refine g_goto C 67 dX9_slipped_36 (by decide) ?_
    exact w_int (ws := fun s => cs9 a Δ s) hR hq hP hS dX9_slipped_67 rfl rfl
  refine g_iload_n C 40 rfl dX9_slipped_39 2 rfl ?_
  refine g_iconst 1 C 41 rfl dX9_slipped_40 ki_1 ?_
  refine s_icmp_ne C 51 44 rfl dX9_slipped_41 (by decide) hq (fun hq => ?_) (fun hq => ?_)
  rotate_left
  · refine g_aload_n C 45 rfl dX9_slipped_44 1 rfl ?_
    refine g_get (v := .int (x9_firstWho r3.2)) C 48 rfl dX9_slipped_45 hK hP la_X9 0 21 (Nat.le_of_ble_eq_true rfl) fl_X9_181 rfl rfl rfl rfl ?_
    refine g_goto C 67 dX9_slipped_48 (by decide) ?_
    exact w_int (ws := fun s => cs9 a Δ s) hR hq hP hS dX9_slipped_67 rfl rfl
  refine g_iload_n C 52 rfl dX9_slipped_51 2 rfl ?_
  refine g_iconst 2 C 53 rfl dX9_slipped_52 ki_2 ?_
  refine s_icmp_ne C 63 56 rfl dX9_slipped_53 (by decide) hq (fun hq => ?_) (fun hq => ?_)
  · refine g_aload_n C 64 rfl dX9_slipped_63 1 rfl ?_
    refine g_get (v := .int (x9_paid r3.2)) C 67 rfl dX9_slipped_64 hK hP la_X9 0 23 (Nat.le_of_ble_eq_true rfl) fl_X9_169 rfl rfl rfl rfl ?_
    exact w_int (ws := fun s => cs9 a Δ s) hR hq hP hS dX9_slipped_67 rfl rfl
  refine g_aload_n C 57 rfl dX9_slipped_56 1 rfl ?_
  refine g_get (v := .int (x9_firstHeard r3.2)) C 60 rfl dX9_slipped_57 hK hP la_X9 0 22 (Nat.le_of_ble_eq_true rfl) fl_X9_184 rfl rfl rfl rfl ?_
  refine g_goto C 67 dX9_slipped_60 (by decide) ?_
  exact w_int (ws := fun s => cs9 a Δ s) hR hq hP hS dX9_slipped_67 rfl rfl
set_option maxHeartbeats 4000000 in
set_option maxRecDepth 100000 in
theorem c_X9_done (l : Launch) (Δ : gD) (a : Nat → Nat)  (s : S9) {res : Int32 × S9} (hq : sem_X9_done  s = some res) : MW l yX9_done cX9_done 2 (some .int) Δ (cs9 a Δ s) [.ref (a 0)] 8 182 (some (.int res.1)) (cs9 a Δ res.2) := by
  refine MW.of (by decide) (Nat.le_of_ble_eq_true rfl) ?_
  intro Γ A H hl C hK hP hD hS hA hR
  subst hl
  show g Γ { frames := 8, cells := 0, slots := 0, locals := 182 } 2 H [] 0 0 0 [(0, .ref (a 0))] []
  refine g_aload_n C 1 rfl dX9_done_0 0 rfl ?_
  obtain ⟨r1, hz2, hq⟩ := bindE hq
  refine g_callWV (rest := []) (cs9 a Δ r1.2) C 4 rfl dX9_done_1 (c_X9_refusal Γ.2.1 Δ a  s hz2) mv_X9_refusal ml_X9_230 hK hP hD hS hA [0, 1, 2, 3, 4, 5, 6, 7, 8, 9, 10, 11, 12, 13, 14, 15, 16, 17, 18, 19, 20, 21, 22, 23] [] [0, 1, 2, 3, 4, 5, 6, 7, 8, 9, 10, 11, 12, 13, 14, 15, 16, 17, 18, 19, 20, 21, 22, 23] rfl (by decide) (wr := []) rfl (by decide) (by decide) rfl rfl rfl rfl rfl rfl rfl rfl ⟨Nat.le_of_ble_eq_true rfl, Nat.le_of_ble_eq_true rfl⟩ (Nat.le_of_ble_eq_true rfl) ⟨Nat.zero_le _, Nat.zero_le _⟩ (fun H L hP hD hS => ?_)
  refine g_istore_n [(1, .int r1.1), (0, .ref (a 0))] C 5 rfl dX9_done_4 (Nat.le_of_ble_eq_true rfl) rfl ?_
  refine g_iload_n C 6 rfl dX9_done_5 0 rfl ?_
  refine g_bipush (-6) C 8 rfl dX9_done_6 kb_m6 ?_
  refine s_icmp_eq C 13 11 rfl dX9_done_8 (by decide) hq (fun hq => ?_) (fun hq => ?_)
  rotate_left
  · refine g_iload_n C 12 rfl dX9_done_11 0 rfl ?_
    exact w_int (ws := fun s => cs9 a Δ s) hR hq hP hS dX9_done_12 rfl rfl
  refine g_aload_n C 14 rfl dX9_done_13 1 rfl ?_
  refine g_aload_n C 15 rfl dX9_done_14 1 rfl ?_
  refine g_get (v := .ref (a 15)) C 18 rfl dX9_done_15 hK hP la_X9 0 26 (Nat.le_of_ble_eq_true rfl) fl_X9_52 rfl rfl rfl rfl ?_
  obtain ⟨r3, hz4, hq⟩ := bindE hq
  refine g_callWV (rest := []) (cs9 a Δ r3) C 21 rfl dX9_done_18 (c_X9_lay_leaves Γ.2.1 Δ a  r1.2 hz4) mv_X9_lay ml_X9_225 hK hP hD hS hA [0, 1, 2, 3, 4, 5, 6, 7, 8, 9, 10, 11, 12, 13, 14, 15, 16, 17, 18, 19, 20, 21, 22, 23] [] [0, 1, 2, 3, 4, 5, 6, 7, 8, 9, 10, 11, 12, 13, 14, 15, 16, 17, 18, 19, 20, 21, 22, 23] rfl (by decide) (wr := []) rfl (by decide) (by decide) rfl rfl rfl rfl rfl rfl rfl rfl ⟨Nat.le_of_ble_eq_true rfl, Nat.le_of_ble_eq_true rfl⟩ (Nat.le_of_ble_eq_true rfl) ⟨Nat.zero_le _, Nat.zero_le _⟩ (fun H L hP hD hS => ?_)
  refine g_aload_n C 22 rfl dX9_done_21 1 rfl ?_
  refine g_iconst 0 C 23 rfl dX9_done_22 ki_0 ?_
  refine g_put (cs9 a Δ (p9_padMany r3 0)) C 26 rfl dX9_done_23 hK hP hD hS la_X9 tyX9_ok nmX9 0 13 (Nat.le_of_ble_eq_true rfl) fl_X9_123 rfl rfl rfl rfl rfl rfl (Nat.le_of_ble_eq_true rfl) rfl (fun H L hP hD hS => ?_)
  refine g_aload_n C 27 rfl dX9_done_26 1 rfl ?_
  refine g_get (v := .int (x9_acts r3)) C 30 rfl dX9_done_27 hK hP la_X9 0 18 (Nat.le_of_ble_eq_true rfl) fl_X9_130 rfl rfl rfl rfl ?_
  exact w_int (ws := fun s => cs9 a Δ s) hR hq hP hS dX9_done_30 rfl rfl
set_option maxHeartbeats 4000000 in
set_option maxRecDepth 100000 in
theorem c_X9_hears (l : Launch) (Δ : gD) (a : Nat → Nat) (x1 : Int32) (s : S9) {res : Int32} (hq : sem_X9_hears x1 s = some res) : MR l yX9_hears cX9_hears 2 (some .int) Δ (cs9 a Δ s) [.ref (a 0), .int x1] 3 69 (.int res) := by
  refine MR.of (by decide) (Nat.le_of_ble_eq_true rfl) ?_
  intro Γ H hl C hK hP hR
  subst hl
  show g Γ { frames := 3, cells := 0, slots := 0, locals := 69 } 2 H [] 0 0 0 [(0, .ref (a 0)), (1, .int x1)] []
  refine g_aload_n C 1 rfl dX9_hears_0 0 rfl ?_
  refine g_iload_n C 2 rfl dX9_hears_1 1 rfl ?_
  obtain ⟨r1, hz2, hq⟩ := bindE hq
  refine g_callRV (rest := []) C 5 rfl dX9_hears_2 (c_X9_isOne Γ.2.1 Δ a x1 s hz2) mv_X9_isOne ml_X9_107 hK hP rfl rfl rfl rfl rfl ⟨Nat.le_of_ble_eq_true rfl, Nat.le_of_ble_eq_true rfl⟩ (Nat.le_of_ble_eq_true rfl) ⟨Nat.zero_le _, Nat.zero_le _⟩ ?_
  refine s_if_eq C 16 8 rfl dX9_hears_5 (by decide) hq (fun hq => ?_) (fun hq => ?_)
  · refine g_iconst (-1) C 17 rfl dX9_hears_16 ki_m1 ?_
    exact r_int hR hq dX9_hears_17 rfl rfl
  refine g_aload_n C 9 rfl dX9_hears_8 0 rfl ?_
  refine g_iload_n C 10 rfl dX9_hears_9 1 rfl ?_
  obtain ⟨r3, hz4, hq⟩ := bindE hq
  refine g_callRV (rest := []) C 13 rfl dX9_hears_10 (c_X9_heardBy Γ.2.1 Δ a x1 s hz4) mv_X9_heardBy ml_X9_166 hK hP rfl rfl rfl rfl rfl ⟨Nat.le_of_ble_eq_true rfl, Nat.le_of_ble_eq_true rfl⟩ (Nat.le_of_ble_eq_true rfl) ⟨Nat.zero_le _, Nat.zero_le _⟩ ?_
  refine g_goto C 17 dX9_hears_13 (by decide) ?_
  exact r_int hR hq dX9_hears_17 rfl rfl
set_option maxHeartbeats 4000000 in
set_option maxRecDepth 100000 in
theorem c_X9_at (l : Launch) (Δ : gD)  (x0 : Int32) (x1 : Int32) (x2 : Int32)  {res : Int32} (hq : sem_X9_at x0 x1 x2  = some res) : MR l yX9_at cX9_at 3 (some .int) Δ ([]) [.int x0, .int x1, .int x2] 0 0 (.int res) := by
  refine MR.of (by decide) (Nat.le_of_ble_eq_true rfl) ?_
  intro Γ H hl C hK hP hR
  subst hl
  show g Γ { frames := 0, cells := 0, slots := 0, locals := 0 } 3 H [] 0 0 0 [(0, .int x0), (1, .int x1), (2, .int x2)] []
  refine g_sipush 441 C 3 rfl dX9_at_0 ks_441 ?_
  refine g_iload_n C 4 rfl dX9_at_3 0 rfl ?_
  refine g_imul C 5 rfl dX9_at_4 ?_
  refine g_bipush 21 C 7 rfl dX9_at_5 kb_21 ?_
  refine g_iload_n C 8 rfl dX9_at_7 1 rfl ?_
  refine g_imul C 9 rfl dX9_at_8 ?_
  refine g_iadd C 10 rfl dX9_at_9 ?_
  refine g_iload_n C 11 rfl dX9_at_10 2 rfl ?_
  refine g_iadd C 12 rfl dX9_at_11 ?_
  exact r_int hR hq dX9_at_12 rfl rfl
set_option maxHeartbeats 4000000 in
set_option maxRecDepth 100000 in
theorem c_X9_layWeights (l : Launch) (Δ : gD) (a : Nat → Nat) (x1 : Int32) (s : S9) {res : S9} (hq : sem_X9_layWeights x1 s = some res) : MW l yX9_layWeights cX9_layWeights 4 none Δ (cs9 a Δ s) [.ref (a 0), .int x1] 0 0 none (cs9 a Δ res) := by
  refine MW.of (by decide) (Nat.le_of_ble_eq_true rfl) ?_
  intro Γ A H hl C hK hP hD hS hA hR
  subst hl
  show g Γ { frames := 0, cells := 0, slots := 0, locals := 0 } 4 H [] 0 0 0 [(0, .ref (a 0)), (1, .int x1)] []
  refine g_iload_n C 1 rfl dX9_layWeights_0 1 rfl ?_
  refine g_istore_n [(2, .int x1), (0, .ref (a 0)), (1, .int x1)] C 2 rfl dX9_layWeights_1 (Nat.le_of_ble_eq_true rfl) rfl ?_
  refine g_iconst 5 C 3 rfl dX9_layWeights_2 ki_5 ?_
  refine g_istore_n [(3, .int 5), (2, .int x1), (0, .ref (a 0)), (1, .int x1)] C 4 rfl dX9_layWeights_3 (Nat.le_of_ble_eq_true rfl) rfl ?_
  have Q4 : ∀ (n : Nat) (x2 : Int32) (x3 : Int32) (s : S9) (o : (S9)) (H : Heap) (L : List Loc) (hP : va_P Δ.1 classes (cs9 a Δ s) H) (hD : va_D A (cs9 a Δ s)) (hS : va_S A (sOf Γ).heap H L) (hq : lp_X9_layWeights_4  n x2 x3 s = some o) (E2 : ∀ (H : Heap) (L : List Loc), va_P Δ.1 classes (cs9 a Δ o) H → va_D A (cs9 a Δ o) → va_S A (sOf Γ).heap H L → g Γ { frames := 0, cells := 0, slots := 0, locals := 0 } 4 H L 0 0 29 [] []), g Γ { frames := 0, cells := 0, slots := 0, locals := 0 } 4 H L 0 0 4 [(0, .ref (a 0)), (2, .int x2), (3, .int x3)] [] := by
    intro n
    induction n with
    | zero => intro x2 x3 s o H L hP hD hS hq; exact nomatch (show (none : Option (S9)) = some o from hq)
    | succ n ih =>
      intro x2 x3 s o H L hP hD hS hq E2
      have hq : bd_X9_layWeights_4  (lp_X9_layWeights_4  n) x2 x3 s = some o := hq
      refine g_iload_n C 5 rfl dX9_layWeights_4 2 rfl ?_
      refine s_if_lt C 29 8 rfl dX9_layWeights_5 (by decide) hq (fun hq => ?_) (fun hq => ?_)
      · cases hq
        exact g_sub [] rfl (E2 _ _ hP hD hS)
      refine g_aload_n C 9 rfl dX9_layWeights_8 0 rfl ?_
      refine g_get (v := .ref (a 16)) C 12 rfl dX9_layWeights_9 hK hP la_X9 0 29 (Nat.le_of_ble_eq_true rfl) fl_X9_55 rfl rfl rfl rfl ?_
      refine g_iload_n C 13 rfl dX9_layWeights_12 2 rfl ?_
      refine g_iload_n C 14 rfl dX9_layWeights_13 1 rfl ?_
      refine g_bipush 10 C 16 rfl dX9_layWeights_14 kb_10 ?_
      refine g_irem C 17 rfl dX9_layWeights_16 (by decide) ?_
      refine s_iast (cs9 a Δ (p9_weight s (upd (x9_weight s) (x3 : Int32).toNatClampNeg (jrem x2 10)))) C 18 rfl dX9_layWeights_17 hK hP hD hS 16 rfl hq rfl (fun hq hi1 H L hP hD hS => ?_)
      refine g_iload_n C 19 rfl dX9_layWeights_18 1 rfl ?_
      refine g_bipush 10 C 21 rfl dX9_layWeights_19 kb_10 ?_
      refine g_idiv C 22 rfl dX9_layWeights_21 (by decide) ?_
      refine g_istore_n [(2, .int (x2 / 10)), (0, .ref (a 0)), (3, .int x3)] C 23 rfl dX9_layWeights_22 (Nat.le_of_ble_eq_true rfl) rfl ?_
      refine g_iinc (x3 - 1) [(3, .int (x3 - 1)), (2, .int (x2 / 10)), (0, .ref (a 0))] C 26 rfl dX9_layWeights_23 2 rfl (ii_m1 _) (Nat.le_of_ble_eq_true rfl) rfl ?_
      refine g_goto C 4 dX9_layWeights_26 (by decide) ?_
      exact g_sub [2, 1, 0] rfl (ih (x2 / 10) (x3 - 1) (p9_weight s (upd (x9_weight s) (x3 : Int32).toNatClampNeg (jrem x2 10))) _ _ _ hP hD hS hq E2)
  obtain ⟨o2, ho3, hq⟩ := bindE hq
  refine g_sub [2, 1, 0] rfl (Q4  FUEL x1 5 s o2 _ _ hP hD hS ho3 (fun H L hP hD hS => ?_))
  exact w_void (ws := fun s => cs9 a Δ s) hR hq hP hS dX9_layWeights_29 rfl
set_option maxHeartbeats 4000000 in
set_option maxRecDepth 100000 in
theorem c_X9_slipsIn (l : Launch) (Δ : gD) (a : Nat → Nat) (x1 : Int32) (x2 : Int32) (s : S9) {res : Int32} (hq : sem_X9_slipsIn x1 x2 s = some res) : MR l yX9_slipsIn cX9_slipsIn 3 (some .boolean) Δ (cs9 a Δ s) [.ref (a 0), .int x1, .int x2] 0 0 (.int res) := by
  refine MR.of (by decide) (Nat.le_of_ble_eq_true rfl) ?_
  intro Γ H hl C hK hP hR
  subst hl
  show g Γ { frames := 0, cells := 0, slots := 0, locals := 0 } 3 H [] 0 0 0 [(0, .ref (a 0)), (1, .int x1), (2, .int x2)] []
  refine g_iload_n C 1 rfl dX9_slipsIn_0 2 rfl ?_
  refine g_aload_n C 2 rfl dX9_slipsIn_1 0 rfl ?_
  refine g_get (v := .ref (a 16)) C 5 rfl dX9_slipsIn_2 hK hP la_X9 0 29 (Nat.le_of_ble_eq_true rfl) fl_X9_55 rfl rfl rfl rfl ?_
  refine g_iload_n C 6 rfl dX9_slipsIn_5 1 rfl ?_
  refine s_iald C 7 rfl dX9_slipsIn_6 hK hP 16 rfl hq (fun hq hi1 => ?_)
  refine g_iadd C 8 rfl dX9_slipsIn_7 ?_
  refine g_aload_n C 9 rfl dX9_slipsIn_8 0 rfl ?_
  refine g_get (v := .int (x9_limit s)) C 12 rfl dX9_slipsIn_9 hK hP la_X9 0 1 (Nat.le_of_ble_eq_true rfl) fl_X9_81 rfl rfl rfl rfl ?_
  refine s_icmp_le C 19 15 rfl dX9_slipsIn_12 (by decide) hq (fun hq => ?_) (fun hq => ?_)
  · refine g_iconst 0 C 20 rfl dX9_slipsIn_19 ki_0 ?_
    exact r_int hR hq dX9_slipsIn_20 rfl rfl
  refine g_iconst 1 C 16 rfl dX9_slipsIn_15 ki_1 ?_
  refine g_goto C 20 dX9_slipsIn_16 (by decide) ?_
  exact r_int hR hq dX9_slipsIn_20 rfl rfl
set_option maxHeartbeats 4000000 in
set_option maxRecDepth 100000 in
theorem c_X9_costBy (l : Launch) (Δ : gD) (a : Nat → Nat) (x1 : Int32) (x2 : Int32) (x3 : Int32) (x4 : Int32) (s : S9) {res : Int32} (hq : sem_X9_costBy x1 x2 x3 x4 s = some res) : MR l yX9_costBy cX9_costBy 8 (some .int) Δ (cs9 a Δ s) [.ref (a 0), .int x1, .int x2, .int x3, .int x4] 1 22 (.int res) := by
  refine MR.of (by decide) (Nat.le_of_ble_eq_true rfl) ?_
  intro Γ H hl C hK hP hR
  subst hl
  have K84 : ∀ (x3 : Int32) (x4 : Int32) (y0 : Int32) (y2 : Int32) (y3 : Int32), jn_X9_costBy_84 x3 x4 y0 y2 y3 s = some res → g Γ { frames := 1, cells := 0, slots := 0, locals := 22 } 8 H [] 0 0 84 [(3, .int x3), (4, .int x4)] [.int y3, .int y2, .ref (a 17), .int y0] := by
    intro x3 x4 y0 y2 y3 hq
    refine g_iload_n C 85 rfl dX9_costBy_84 0 rfl ?_
    refine g_iload C 87 rfl dX9_costBy_85 1 rfl ?_
    refine g_isub C 88 rfl dX9_costBy_87 ?_
    obtain ⟨r1, hz2, hq⟩ := bindE hq
    refine g_callRS (rest := [.ref (a 17), .int y0]) C 91 rfl dX9_costBy_88 (c_X9_at Γ.2.1 Δ  y2 y3 (x3 - x4)  hz2) mv_X9_at (Or.inl ml_X9_241) hK rfl rfl ⟨Nat.le_of_ble_eq_true rfl, Nat.le_of_ble_eq_true rfl⟩ (Nat.le_of_ble_eq_true rfl) ⟨Nat.zero_le _, Nat.zero_le _⟩ ?_
    refine s_iald C 92 rfl dX9_costBy_91 hK hP 17 rfl hq (fun hq hi3 => ?_)
    refine g_iadd C 93 rfl dX9_costBy_92 ?_
    exact r_int hR hq dX9_costBy_93 rfl rfl
  have K61 : ∀ (x1 : Int32) (x3 : Int32) (x4 : Int32) (x7 : Int32) (y0 : Int32), jn_X9_costBy_61 x1 x3 x4 x7 y0 s = some res → g Γ { frames := 1, cells := 0, slots := 0, locals := 22 } 8 H [] 0 0 61 [(0, .ref (a 0)), (1, .int x1), (3, .int x3), (4, .int x4), (7, .int x7)] [.int y0] := by
    intro x1 x3 x4 x7 y0 hq
    refine g_iload C 63 rfl dX9_costBy_61 3 rfl ?_
    refine g_iadd C 64 rfl dX9_costBy_63 ?_
    refine g_aload_n C 65 rfl dX9_costBy_64 0 rfl ?_
    refine g_get (v := .ref (a 17)) C 68 rfl dX9_costBy_65 hK hP la_X9 0 30 (Nat.le_of_ble_eq_true rfl) fl_X9_58 rfl rfl rfl rfl ?_
    refine g_iload_n C 69 rfl dX9_costBy_68 1 rfl ?_
    refine g_iconst 1 C 70 rfl dX9_costBy_69 ki_1 ?_
    refine g_iadd C 71 rfl dX9_costBy_70 ?_
    refine g_iload C 73 rfl dX9_costBy_71 4 rfl ?_
    refine s_if_le C 83 76 rfl dX9_costBy_73 (by decide) hq (fun hq => ?_) (fun hq => ?_)
    · refine g_iconst 0 C 84 rfl dX9_costBy_83 ki_0 ?_
      exact g_sub [2, 3] rfl (K84 x3 x4 (y0 + x4) (x1 + 1) 0 hq)
    refine g_iload C 78 rfl dX9_costBy_76 4 rfl ?_
    refine g_iconst 1 C 79 rfl dX9_costBy_78 ki_1 ?_
    refine g_isub C 80 rfl dX9_costBy_79 ?_
    refine g_goto C 84 dX9_costBy_80 (by decide) ?_
    exact g_sub [2, 3] rfl (K84 x3 x4 (y0 + x4) (x1 + 1) (x7 - 1) hq)
  have K25 : ∀ (x1 : Int32) (x3 : Int32) (x4 : Int32) (x5 : Int32) (y0 : Int32), jn_X9_costBy_25 x1 x3 x4 x5 y0 s = some res → g Γ { frames := 1, cells := 0, slots := 0, locals := 22 } 8 H [] 0 0 25 [(0, .ref (a 0)), (1, .int x1), (3, .int x3), (4, .int x4), (5, .int x5)] [.int y0] := by
    intro x1 x3 x4 x5 y0 hq
    refine g_istore [(6, .int y0), (0, .ref (a 0)), (1, .int x1), (3, .int x3), (4, .int x4), (5, .int x5)] C 27 rfl dX9_costBy_25 (Nat.le_of_ble_eq_true rfl) rfl ?_
    refine g_iload C 29 rfl dX9_costBy_27 4 rfl ?_
    refine g_iload C 31 rfl dX9_costBy_29 0 rfl ?_
    refine s_icmp_gt C 40 34 rfl dX9_costBy_31 (by decide) hq (fun hq => ?_) (fun hq => ?_)
    · refine g_ldc 100000 C 42 rfl dX9_costBy_40 k_X9_240 ?_
      exact r_int hR hq dX9_costBy_42 rfl rfl
    refine g_iload C 36 rfl dX9_costBy_34 4 rfl ?_
    refine g_iload_n C 37 rfl dX9_costBy_36 3 rfl ?_
    refine s_icmp_le C 43 40 rfl dX9_costBy_37 (by decide) hq (fun hq => ?_) (fun hq => ?_)
    rotate_left
    · refine g_ldc 100000 C 42 rfl dX9_costBy_40 k_X9_240 ?_
      exact r_int hR hq dX9_costBy_42 rfl rfl
    refine g_iload C 45 rfl dX9_costBy_43 0 rfl ?_
    refine g_iload C 47 rfl dX9_costBy_45 4 rfl ?_
    refine g_isub C 48 rfl dX9_costBy_47 ?_
    refine g_istore [(7, .int (y0 - x4)), (6, .int y0), (0, .ref (a 0)), (1, .int x1), (3, .int x3), (4, .int x4), (5, .int x5)] C 50 rfl dX9_costBy_48 (Nat.le_of_ble_eq_true rfl) rfl ?_
    refine g_iload C 52 rfl dX9_costBy_50 6 rfl ?_
    refine s_if_eq C 60 55 rfl dX9_costBy_52 (by decide) hq (fun hq => ?_) (fun hq => ?_)
    · refine g_iconst 0 C 61 rfl dX9_costBy_60 ki_0 ?_
      exact g_sub [2, 3, 4, 5, 0] rfl (K61 x1 x3 x4 (y0 - x4) 0 hq)
    refine g_bipush 100 C 57 rfl dX9_costBy_55 kb_100 ?_
    refine g_goto C 61 dX9_costBy_57 (by decide) ?_
    exact g_sub [2, 3, 4, 5, 0] rfl (K61 x1 x3 x4 (y0 - x4) 100 hq)
  show g Γ { frames := 1, cells := 0, slots := 0, locals := 22 } 8 H [] 0 0 0 [(0, .ref (a 0)), (1, .int x1), (2, .int x2), (3, .int x3), (4, .int x4)] []
  refine g_aload_n C 1 rfl dX9_costBy_0 0 rfl ?_
  refine g_iload_n C 2 rfl dX9_costBy_1 1 rfl ?_
  refine g_iload_n C 3 rfl dX9_costBy_2 2 rfl ?_
  obtain ⟨r4, hz5, hq⟩ := bindE hq
  refine g_callRV (rest := []) C 6 rfl dX9_costBy_3 (c_X9_slipsIn Γ.2.1 Δ a x1 x2 s hz5) mv_X9_slipsIn ml_X9_237 hK hP rfl rfl rfl rfl rfl ⟨Nat.le_of_ble_eq_true rfl, Nat.le_of_ble_eq_true rfl⟩ (Nat.le_of_ble_eq_true rfl) ⟨Nat.zero_le _, Nat.zero_le _⟩ ?_
  refine g_istore [(5, .int r4), (0, .ref (a 0)), (1, .int x1), (2, .int x2), (3, .int x3), (4, .int x4)] C 8 rfl dX9_costBy_6 (Nat.le_of_ble_eq_true rfl) rfl ?_
  refine g_iload C 10 rfl dX9_costBy_8 0 rfl ?_
  refine s_if_eq C 17 13 rfl dX9_costBy_10 (by decide) hq (fun hq => ?_) (fun hq => ?_)
  rotate_left
  · refine g_iconst 0 C 14 rfl dX9_costBy_13 ki_0 ?_
    refine g_goto C 25 dX9_costBy_14 (by decide) ?_
    exact g_sub [1, 2, 4, 5, 0] rfl (K25 x1 x3 x4 r4 0 hq)
  refine g_iload_n C 18 rfl dX9_costBy_17 3 rfl ?_
  refine g_aload_n C 19 rfl dX9_costBy_18 1 rfl ?_
  refine g_get (v := .ref (a 16)) C 22 rfl dX9_costBy_19 hK hP la_X9 0 29 (Nat.le_of_ble_eq_true rfl) fl_X9_55 rfl rfl rfl rfl ?_
  refine g_iload_n C 23 rfl dX9_costBy_22 2 rfl ?_
  refine s_iald C 24 rfl dX9_costBy_23 hK hP 16 rfl hq (fun hq hi6 => ?_)
  refine g_iadd C 25 rfl dX9_costBy_24 ?_
  exact g_sub [1, 2, 4, 5, 0] rfl (K25 x1 x3 x4 r4 (x2 + ((x9_weight s) (x1 : Int32).toNatClampNeg)) hq)
set_option maxHeartbeats 4000000 in
set_option maxRecDepth 100000 in
theorem c_X9_leastCost (l : Launch) (Δ : gD) (a : Nat → Nat) (x1 : Int32) (x2 : Int32) (x3 : Int32) (s : S9) {res : Int32} (hq : sem_X9_leastCost x1 x2 x3 s = some res) : MR l yX9_leastCost cX9_leastCost 7 (some .int) Δ (cs9 a Δ s) [.ref (a 0), .int x1, .int x2, .int x3] 2 49 (.int res) := by
  refine MR.of (by decide) (Nat.le_of_ble_eq_true rfl) ?_
  intro Γ H hl C hK hP hR
  subst hl
  show g Γ { frames := 2, cells := 0, slots := 0, locals := 49 } 7 H [] 0 0 0 [(0, .ref (a 0)), (1, .int x1), (2, .int x2), (3, .int x3)] []
  refine g_ldc 100000 C 2 rfl dX9_leastCost_0 k_X9_240 ?_
  refine g_istore [(4, .int 100000), (0, .ref (a 0)), (1, .int x1), (2, .int x2), (3, .int x3)] C 4 rfl dX9_leastCost_2 (Nat.le_of_ble_eq_true rfl) rfl ?_
  refine g_iconst 0 C 5 rfl dX9_leastCost_4 ki_0 ?_
  refine g_istore [(5, .int 0), (4, .int 100000), (0, .ref (a 0)), (1, .int x1), (2, .int x2), (3, .int x3)] C 7 rfl dX9_leastCost_5 (Nat.le_of_ble_eq_true rfl) rfl ?_
  have Q7 : ∀ (x1 : Int32) (x2 : Int32) (x3 : Int32), ∀ (n : Nat) (x4 : Int32) (x5 : Int32) (o : (Int32)) (hq : lp_X9_leastCost_7 x1 x2 x3 s n x4 x5 = some o) (E2 : g Γ { frames := 2, cells := 0, slots := 0, locals := 49 } 7 H [] 0 0 47 [(4, .int o)] []), g Γ { frames := 2, cells := 0, slots := 0, locals := 49 } 7 H [] 0 0 7 [(0, .ref (a 0)), (1, .int x1), (2, .int x2), (3, .int x3), (4, .int x4), (5, .int x5)] [] := by
    intro x1 x2 x3
    intro n
    induction n with
    | zero => intro x4 x5 o hq; exact nomatch (show (none : Option (Int32)) = some o from hq)
    | succ n ih =>
      intro x4 x5 o hq E2
      have hq : bd_X9_leastCost_7 x1 x2 x3 s (lp_X9_leastCost_7 x1 x2 x3 s n) x4 x5 = some o := hq
      refine g_iload C 9 rfl dX9_leastCost_7 5 rfl ?_
      refine g_bipush 10 C 11 rfl dX9_leastCost_9 kb_10 ?_
      refine s_icmp_ge C 47 14 rfl dX9_leastCost_11 (by decide) hq (fun hq => ?_) (fun hq => ?_)
      · cases hq
        exact g_sub [4] rfl (E2 )
      refine g_aload_n C 15 rfl dX9_leastCost_14 0 rfl ?_
      refine g_iload_n C 16 rfl dX9_leastCost_15 1 rfl ?_
      refine g_iload_n C 17 rfl dX9_leastCost_16 2 rfl ?_
      refine g_iload_n C 18 rfl dX9_leastCost_17 3 rfl ?_
      refine g_iload C 20 rfl dX9_leastCost_18 5 rfl ?_
      obtain ⟨r1, hz2, hq⟩ := bindE hq
      refine g_callRV (rest := []) C 23 rfl dX9_leastCost_20 (c_X9_costBy Γ.2.1 Δ a x1 x2 x3 x5 s hz2) mv_X9_costBy ml_X9_244 hK hP rfl rfl rfl rfl rfl ⟨Nat.le_of_ble_eq_true rfl, Nat.le_of_ble_eq_true rfl⟩ (Nat.le_of_ble_eq_true rfl) ⟨Nat.zero_le _, Nat.zero_le _⟩ ?_
      refine g_istore [(6, .int r1), (0, .ref (a 0)), (1, .int x1), (2, .int x2), (3, .int x3), (4, .int x4), (5, .int x5)] C 25 rfl dX9_leastCost_23 (Nat.le_of_ble_eq_true rfl) rfl ?_
      refine g_iload C 27 rfl dX9_leastCost_25 0 rfl ?_
      refine g_iload C 29 rfl dX9_leastCost_27 5 rfl ?_
      refine s_icmp_ge C 37 32 rfl dX9_leastCost_29 (by decide) hq (fun hq => ?_) (fun hq => ?_)
      · refine g_iload C 39 rfl dX9_leastCost_37 5 rfl ?_
        refine g_istore [(4, .int x4), (6, .int r1), (0, .ref (a 0)), (1, .int x1), (2, .int x2), (3, .int x3), (5, .int x5)] C 41 rfl dX9_leastCost_39 (Nat.le_of_ble_eq_true rfl) rfl ?_
        refine g_iinc (x5 + 1) [(5, .int (x5 + 1)), (4, .int x4), (6, .int r1), (0, .ref (a 0)), (1, .int x1), (2, .int x2), (3, .int x3)] C 44 rfl dX9_leastCost_41 6 rfl (ii_1 _) (Nat.le_of_ble_eq_true rfl) rfl ?_
        refine g_goto C 7 dX9_leastCost_44 (by decide) ?_
        exact g_sub [3, 4, 5, 6, 1, 0] rfl (ih x4 (x5 + 1) _ hq E2)
      refine g_iload C 34 rfl dX9_leastCost_32 0 rfl ?_
      refine g_goto C 39 dX9_leastCost_34 (by decide) ?_
      refine g_istore [(4, .int r1), (6, .int r1), (0, .ref (a 0)), (1, .int x1), (2, .int x2), (3, .int x3), (5, .int x5)] C 41 rfl dX9_leastCost_39 (Nat.le_of_ble_eq_true rfl) rfl ?_
      refine g_iinc (x5 + 1) [(5, .int (x5 + 1)), (4, .int r1), (6, .int r1), (0, .ref (a 0)), (1, .int x1), (2, .int x2), (3, .int x3)] C 44 rfl dX9_leastCost_41 6 rfl (ii_1 _) (Nat.le_of_ble_eq_true rfl) rfl ?_
      refine g_goto C 7 dX9_leastCost_44 (by decide) ?_
      exact g_sub [3, 4, 5, 6, 1, 0] rfl (ih r1 (x5 + 1) _ hq E2)
  obtain ⟨o3, ho4, hq⟩ := bindE hq
  refine g_sub [2, 3, 4, 5, 1, 0] rfl (Q7 x1 x2 x3 FUEL 100000 0 o3 ho4 (?_))
  refine g_iload C 49 rfl dX9_leastCost_47 0 rfl ?_
  exact r_int hR hq dX9_leastCost_49 rfl rfl
set_option maxHeartbeats 4000000 in
set_option maxRecDepth 100000 in
theorem c_X9_findCosts (l : Launch) (Δ : gD) (a : Nat → Nat) (x1 : Int32) (s : S9) {res : S9} (hq : sem_X9_findCosts x1 s = some res) : MW l yX9_findCosts cX9_findCosts 5 none Δ (cs9 a Δ s) [.ref (a 0), .int x1] 3 75 none (cs9 a Δ res) := by
  refine MW.of (by decide) (Nat.le_of_ble_eq_true rfl) ?_
  intro Γ A H hl C hK hP hD hS hA hR
  subst hl
  show g Γ { frames := 3, cells := 0, slots := 0, locals := 75 } 5 H [] 0 0 0 [(0, .ref (a 0)), (1, .int x1)] []
  refine g_aload_n C 1 rfl dX9_findCosts_0 0 rfl ?_
  refine g_iload_n C 2 rfl dX9_findCosts_1 1 rfl ?_
  obtain ⟨r1, hz2, hq⟩ := bindE hq
  refine g_callWV (rest := []) (cs9 a Δ r1) C 5 rfl dX9_findCosts_2 (c_X9_layWeights Γ.2.1 Δ a x1 s hz2) mv_X9_layWeights ml_X9_247 hK hP hD hS hA [0, 1, 2, 3, 4, 5, 6, 7, 8, 9, 10, 11, 12, 13, 14, 15, 16, 17, 18, 19, 20, 21, 22, 23] [] [0, 1, 2, 3, 4, 5, 6, 7, 8, 9, 10, 11, 12, 13, 14, 15, 16, 17, 18, 19, 20, 21, 22, 23] rfl (by decide) (wr := []) rfl (by decide) (by decide) rfl rfl rfl rfl rfl rfl rfl rfl ⟨Nat.le_of_ble_eq_true rfl, Nat.le_of_ble_eq_true rfl⟩ (Nat.le_of_ble_eq_true rfl) ⟨Nat.zero_le _, Nat.zero_le _⟩ (fun H L hP hD hS => ?_)
  refine g_bipush 6 C 7 rfl dX9_findCosts_5 kb_6 ?_
  refine g_istore_n [(2, .int 6), (0, .ref (a 0)), (1, .int x1)] C 8 rfl dX9_findCosts_7 (Nat.le_of_ble_eq_true rfl) rfl ?_
  have Q8 : ∀ (n : Nat) (x2 : Int32) (s : S9) (o : (S9)) (H : Heap) (L : List Loc) (hP : va_P Δ.1 classes (cs9 a Δ s) H) (hD : va_D A (cs9 a Δ s)) (hS : va_S A (sOf Γ).heap H L) (hq : lp_X9_findCosts_8  n x2 s = some o) (E2 : ∀ (H : Heap) (L : List Loc), va_P Δ.1 classes (cs9 a Δ o) H → va_D A (cs9 a Δ o) → va_S A (sOf Γ).heap H L → g Γ { frames := 3, cells := 0, slots := 0, locals := 75 } 5 H L 0 0 80 [] []), g Γ { frames := 3, cells := 0, slots := 0, locals := 75 } 5 H L 0 0 8 [(0, .ref (a 0)), (2, .int x2)] [] := by
    intro n
    induction n with
    | zero => intro x2 s o H L hP hD hS hq; exact nomatch (show (none : Option (S9)) = some o from hq)
    | succ n ih =>
      intro x2 s o H L hP hD hS hq E2
      have hq : bd_X9_findCosts_8  (lp_X9_findCosts_8  n) x2 s = some o := hq
      refine g_iload_n C 9 rfl dX9_findCosts_8 1 rfl ?_
      refine s_if_lt C 80 12 rfl dX9_findCosts_9 (by decide) hq (fun hq => ?_) (fun hq => ?_)
      · cases hq
        exact g_sub [] rfl (E2 _ _ hP hD hS)
      refine g_iconst 0 C 13 rfl dX9_findCosts_12 ki_0 ?_
      refine g_istore_n [(3, .int 0), (0, .ref (a 0)), (2, .int x2)] C 14 rfl dX9_findCosts_13 (Nat.le_of_ble_eq_true rfl) rfl ?_
      have Q14 : ∀ (x2 : Int32), ∀ (n : Nat) (x3 : Int32) (s : S9) (o : (S9)) (H : Heap) (L : List Loc) (hP : va_P Δ.1 classes (cs9 a Δ s) H) (hD : va_D A (cs9 a Δ s)) (hS : va_S A (sOf Γ).heap H L) (hq : lp_X9_findCosts_14 x2 n x3 s = some o) (E2 : ∀ (H : Heap) (L : List Loc), va_P Δ.1 classes (cs9 a Δ o) H → va_D A (cs9 a Δ o) → va_S A (sOf Γ).heap H L → g Γ { frames := 3, cells := 0, slots := 0, locals := 75 } 5 H L 0 0 74 [(0, .ref (a 0)), (2, .int x2)] []), g Γ { frames := 3, cells := 0, slots := 0, locals := 75 } 5 H L 0 0 14 [(0, .ref (a 0)), (2, .int x2), (3, .int x3)] [] := by
        intro x2
        intro n
        induction n with
        | zero => intro x3 s o H L hP hD hS hq; exact nomatch (show (none : Option (S9)) = some o from hq)
        | succ n ih =>
          intro x3 s o H L hP hD hS hq E2
          have hq : bd_X9_findCosts_14 x2 (lp_X9_findCosts_14 x2 n) x3 s = some o := hq
          refine g_iload_n C 15 rfl dX9_findCosts_14 2 rfl ?_
          refine g_aload_n C 16 rfl dX9_findCosts_15 0 rfl ?_
          refine g_get (v := .int (x9_limit s)) C 19 rfl dX9_findCosts_16 hK hP la_X9 0 1 (Nat.le_of_ble_eq_true rfl) fl_X9_81 rfl rfl rfl rfl ?_
          refine s_icmp_gt C 74 22 rfl dX9_findCosts_19 (by decide) hq (fun hq => ?_) (fun hq => ?_)
          · cases hq
            exact g_sub [0, 1] rfl (E2 _ _ hP hD hS)
          refine g_iconst 0 C 23 rfl dX9_findCosts_22 ki_0 ?_
          refine g_istore [(4, .int 0), (0, .ref (a 0)), (2, .int x2), (3, .int x3)] C 25 rfl dX9_findCosts_23 (Nat.le_of_ble_eq_true rfl) rfl ?_
          have Q25 : ∀ (x2 : Int32) (x3 : Int32), ∀ (n : Nat) (x4 : Int32) (s : S9) (o : (S9)) (H : Heap) (L : List Loc) (hP : va_P Δ.1 classes (cs9 a Δ s) H) (hD : va_D A (cs9 a Δ s)) (hS : va_S A (sOf Γ).heap H L) (hq : lp_X9_findCosts_25 x2 x3 n x4 s = some o) (E2 : ∀ (H : Heap) (L : List Loc), va_P Δ.1 classes (cs9 a Δ o) H → va_D A (cs9 a Δ o) → va_S A (sOf Γ).heap H L → g Γ { frames := 3, cells := 0, slots := 0, locals := 75 } 5 H L 0 0 68 [(0, .ref (a 0)), (2, .int x2), (3, .int x3)] []), g Γ { frames := 3, cells := 0, slots := 0, locals := 75 } 5 H L 0 0 25 [(0, .ref (a 0)), (2, .int x2), (3, .int x3), (4, .int x4)] [] := by
            intro x2 x3
            intro n
            induction n with
            | zero => intro x4 s o H L hP hD hS hq; exact nomatch (show (none : Option (S9)) = some o from hq)
            | succ n ih =>
              intro x4 s o H L hP hD hS hq E2
              have hq : bd_X9_findCosts_25 x2 x3 (lp_X9_findCosts_25 x2 x3 n) x4 s = some o := hq
              refine g_iload C 27 rfl dX9_findCosts_25 3 rfl ?_
              refine g_bipush 21 C 29 rfl dX9_findCosts_27 kb_21 ?_
              refine s_icmp_ge C 68 32 rfl dX9_findCosts_29 (by decide) hq (fun hq => ?_) (fun hq => ?_)
              · cases hq
                exact g_sub [0, 1, 2] rfl (E2 _ _ hP hD hS)
              refine g_aload_n C 33 rfl dX9_findCosts_32 0 rfl ?_
              refine g_get (v := .ref (a 17)) C 36 rfl dX9_findCosts_33 hK hP la_X9 0 30 (Nat.le_of_ble_eq_true rfl) fl_X9_58 rfl rfl rfl rfl ?_
              refine g_iload_n C 37 rfl dX9_findCosts_36 1 rfl ?_
              refine g_iload_n C 38 rfl dX9_findCosts_37 2 rfl ?_
              refine g_iload C 40 rfl dX9_findCosts_38 3 rfl ?_
              obtain ⟨r3, hz4, hq⟩ := bindE hq
              refine g_callRS (rest := [.ref (a 17)]) C 43 rfl dX9_findCosts_40 (c_X9_at Γ.2.1 Δ  x2 x3 x4  hz4) mv_X9_at (Or.inl ml_X9_241) hK rfl rfl ⟨Nat.le_of_ble_eq_true rfl, Nat.le_of_ble_eq_true rfl⟩ (Nat.le_of_ble_eq_true rfl) ⟨Nat.zero_le _, Nat.zero_le _⟩ ?_
              refine g_iload_n C 44 rfl dX9_findCosts_43 1 rfl ?_
              refine g_bipush 6 C 46 rfl dX9_findCosts_44 kb_6 ?_
              refine s_icmp_ne C 53 49 rfl dX9_findCosts_46 (by decide) hq (fun hq => ?_) (fun hq => ?_)
              rotate_left
              · refine g_iconst 0 C 50 rfl dX9_findCosts_49 ki_0 ?_
                refine g_goto C 61 dX9_findCosts_50 (by decide) ?_
                refine s_iast (cs9 a Δ (p9_costs s (upd (x9_costs s) (r3 : Int32).toNatClampNeg 0))) C 62 rfl dX9_findCosts_61 hK hP hD hS 17 rfl hq rfl (fun hq hi8 H L hP hD hS => ?_)
                refine g_iinc (x4 + 1) [(4, .int (x4 + 1)), (0, .ref (a 0)), (2, .int x2), (3, .int x3)] C 65 rfl dX9_findCosts_62 3 rfl (ii_1 _) (Nat.le_of_ble_eq_true rfl) rfl ?_
                refine g_goto C 25 dX9_findCosts_65 (by decide) ?_
                exact g_sub [1, 2, 3, 0] rfl (ih (x4 + 1) (p9_costs s (upd (x9_costs s) (r3 : Int32).toNatClampNeg 0)) _ _ _ hP hD hS hq E2)
              refine g_aload_n C 54 rfl dX9_findCosts_53 0 rfl ?_
              refine g_iload_n C 55 rfl dX9_findCosts_54 1 rfl ?_
              refine g_iload_n C 56 rfl dX9_findCosts_55 2 rfl ?_
              refine g_iload C 58 rfl dX9_findCosts_56 3 rfl ?_
              obtain ⟨r5, hz6, hq⟩ := bindE hq
              refine g_callRV (rest := [.int r3, .ref (a 17)]) C 61 rfl dX9_findCosts_58 (c_X9_leastCost Γ.2.1 Δ a x2 x3 x4 s hz6) mv_X9_leastCost ml_X9_250 hK hP rfl rfl rfl rfl rfl ⟨Nat.le_of_ble_eq_true rfl, Nat.le_of_ble_eq_true rfl⟩ (Nat.le_of_ble_eq_true rfl) ⟨Nat.zero_le _, Nat.zero_le _⟩ ?_
              refine s_iast (cs9 a Δ (p9_costs s (upd (x9_costs s) (r3 : Int32).toNatClampNeg r5))) C 62 rfl dX9_findCosts_61 hK hP hD hS 17 rfl hq rfl (fun hq hi7 H L hP hD hS => ?_)
              refine g_iinc (x4 + 1) [(4, .int (x4 + 1)), (0, .ref (a 0)), (2, .int x2), (3, .int x3)] C 65 rfl dX9_findCosts_62 3 rfl (ii_1 _) (Nat.le_of_ble_eq_true rfl) rfl ?_
              refine g_goto C 25 dX9_findCosts_65 (by decide) ?_
              exact g_sub [1, 2, 3, 0] rfl (ih (x4 + 1) (p9_costs s (upd (x9_costs s) (r3 : Int32).toNatClampNeg r5)) _ _ _ hP hD hS hq E2)
          obtain ⟨o9, ho10, hq⟩ := bindE hq
          refine g_sub [1, 2, 3, 0] rfl (Q25 x2 x3 FUEL 0 s o9 _ _ hP hD hS ho10 (fun H L hP hD hS => ?_))
          refine g_iinc (x3 + 1) [(3, .int (x3 + 1)), (0, .ref (a 0)), (2, .int x2)] C 71 rfl dX9_findCosts_68 2 rfl (ii_1 _) (Nat.le_of_ble_eq_true rfl) rfl ?_
          refine g_goto C 14 dX9_findCosts_71 (by decide) ?_
          exact g_sub [1, 2, 0] rfl (ih (x3 + 1) o9 _ _ _ hP hD hS hq E2)
      obtain ⟨o11, ho12, hq⟩ := bindE hq
      refine g_sub [1, 2, 0] rfl (Q14 x2 FUEL 0 s o11 _ _ hP hD hS ho12 (fun H L hP hD hS => ?_))
      refine g_iinc (x2 - 1) [(2, .int (x2 - 1)), (0, .ref (a 0))] C 77 rfl dX9_findCosts_74 1 rfl (ii_m1 _) (Nat.le_of_ble_eq_true rfl) rfl ?_
      refine g_goto C 8 dX9_findCosts_77 (by decide) ?_
      exact g_sub [1, 0] rfl (ih (x2 - 1) o11 _ _ _ hP hD hS hq E2)
  obtain ⟨o13, ho14, hq⟩ := bindE hq
  refine g_sub [1, 0] rfl (Q8  FUEL 6 r1 o13 _ _ hP hD hS ho14 (fun H L hP hD hS => ?_))
  exact w_void (ws := fun s => cs9 a Δ s) hR hq hP hS dX9_findCosts_80 rfl
set_option maxHeartbeats 4000000 in
set_option maxRecDepth 100000 in
theorem c_X9_strengths (l : Launch) (Δ : gD) (a : Nat → Nat) (x1 : Int32) (x2 : Int32) (s : S9) {res : Int32} (hq : sem_X9_strengths x1 x2 s = some res) : MR l yX9_strengths cX9_strengths 9 (some .int) Δ (cs9 a Δ s) [.ref (a 0), .int x1, .int x2] 2 49 (.int res) := by
  refine MR.of (by decide) (Nat.le_of_ble_eq_true rfl) ?_
  intro Γ H hl C hK hP hR
  subst hl
  show g Γ { frames := 2, cells := 0, slots := 0, locals := 49 } 9 H [] 0 0 0 [(0, .ref (a 0)), (1, .int x1), (2, .int x2)] []
  refine g_iconst 0 C 1 rfl dX9_strengths_0 ki_0 ?_
  refine g_istore_n [(3, .int 0), (0, .ref (a 0)), (1, .int x1), (2, .int x2)] C 2 rfl dX9_strengths_1 (Nat.le_of_ble_eq_true rfl) rfl ?_
  refine g_iload_n C 3 rfl dX9_strengths_2 2 rfl ?_
  refine g_istore [(4, .int x1), (3, .int 0), (0, .ref (a 0)), (1, .int x1), (2, .int x2)] C 5 rfl dX9_strengths_3 (Nat.le_of_ble_eq_true rfl) rfl ?_
  refine g_iload_n C 6 rfl dX9_strengths_5 4 rfl ?_
  refine g_istore [(5, .int x2), (4, .int x1), (3, .int 0), (0, .ref (a 0)), (1, .int x1), (2, .int x2)] C 8 rfl dX9_strengths_6 (Nat.le_of_ble_eq_true rfl) rfl ?_
  refine g_iconst 0 C 9 rfl dX9_strengths_8 ki_0 ?_
  refine g_istore [(6, .int 0), (5, .int x2), (4, .int x1), (3, .int 0), (0, .ref (a 0)), (1, .int x1), (2, .int x2)] C 11 rfl dX9_strengths_9 (Nat.le_of_ble_eq_true rfl) rfl ?_
  have Q11 : ∀ (n : Nat) (x3 : Int32) (x4 : Int32) (x5 : Int32) (x6 : Int32) (o : (Int32)) (hq : lp_X9_strengths_11 s n x3 x4 x5 x6 = some o) (E2 : g Γ { frames := 2, cells := 0, slots := 0, locals := 49 } 9 H [] 0 0 122 [(3, .int o)] []), g Γ { frames := 2, cells := 0, slots := 0, locals := 49 } 9 H [] 0 0 11 [(0, .ref (a 0)), (3, .int x3), (4, .int x4), (5, .int x5), (6, .int x6)] [] := by
    intro n
    induction n with
    | zero => intro x3 x4 x5 x6 o hq; exact nomatch (show (none : Option (Int32)) = some o from hq)
    | succ n ih =>
      intro x3 x4 x5 x6 o hq E2
      have hq : bd_X9_strengths_11 s (lp_X9_strengths_11 s n) x3 x4 x5 x6 = some o := hq
      have K99 : ∀ (x3 : Int32) (x5 : Int32) (x6 : Int32) (x7 : Int32) (y0 : Int32), jn_X9_strengths_99 (lp_X9_strengths_11 s n) x3 x5 x6 x7 y0 s = some o → g Γ { frames := 2, cells := 0, slots := 0, locals := 49 } 9 H [] 0 0 99 [(0, .ref (a 0)), (3, .int x3), (5, .int x5), (6, .int x6), (7, .int x7)] [.int y0] := by
        intro x3 x5 x6 x7 y0 hq
        refine g_istore [(4, .int y0), (0, .ref (a 0)), (3, .int x3), (5, .int x5), (6, .int x6), (7, .int x7)] C 101 rfl dX9_strengths_99 (Nat.le_of_ble_eq_true rfl) rfl ?_
        refine g_iload C 103 rfl dX9_strengths_101 3 rfl ?_
        refine g_iload C 105 rfl dX9_strengths_103 5 rfl ?_
        refine g_isub C 106 rfl dX9_strengths_105 ?_
        refine g_istore [(5, .int (x5 - x7)), (4, .int y0), (0, .ref (a 0)), (3, .int x3), (6, .int x6), (7, .int x7)] C 108 rfl dX9_strengths_106 (Nat.le_of_ble_eq_true rfl) rfl ?_
        refine g_bipush 10 C 110 rfl dX9_strengths_108 kb_10 ?_
        refine g_iload_n C 111 rfl dX9_strengths_110 3 rfl ?_
        refine g_imul C 112 rfl dX9_strengths_111 ?_
        refine g_iload C 114 rfl dX9_strengths_112 5 rfl ?_
        refine g_iadd C 115 rfl dX9_strengths_114 ?_
        refine g_istore_n [(3, .int ((10 * x3) + x7)), (5, .int (x5 - x7)), (4, .int y0), (0, .ref (a 0)), (6, .int x6), (7, .int x7)] C 116 rfl dX9_strengths_115 (Nat.le_of_ble_eq_true rfl) rfl ?_
        refine g_iinc (x6 + 1) [(6, .int (x6 + 1)), (3, .int ((10 * x3) + x7)), (5, .int (x5 - x7)), (4, .int y0), (0, .ref (a 0)), (7, .int x7)] C 119 rfl dX9_strengths_116 4 rfl (ii_1 _) (Nat.le_of_ble_eq_true rfl) rfl ?_
        refine g_goto C 11 dX9_strengths_119 (by decide) ?_
        exact g_sub [4, 1, 3, 2, 0] rfl (ih ((10 * x3) + x7) y0 (x5 - x7) (x6 + 1) _ hq E2)
      have K84 : ∀ (x3 : Int32) (x5 : Int32) (x6 : Int32) (x7 : Int32) (y0 : Int32), jn_X9_strengths_84 (lp_X9_strengths_11 s n) x3 x5 x6 x7 y0 s = some o → g Γ { frames := 2, cells := 0, slots := 0, locals := 49 } 9 H [] 0 0 84 [(0, .ref (a 0)), (3, .int x3), (5, .int x5), (6, .int x6), (7, .int x7)] [.int y0] := by
        intro x3 x5 x6 x7 y0 hq
        refine g_istore [(8, .int y0), (0, .ref (a 0)), (3, .int x3), (5, .int x5), (6, .int x6), (7, .int x7)] C 86 rfl dX9_strengths_84 (Nat.le_of_ble_eq_true rfl) rfl ?_
        refine g_iload C 88 rfl dX9_strengths_86 0 rfl ?_
        refine s_if_le C 98 91 rfl dX9_strengths_88 (by decide) hq (fun hq => ?_) (fun hq => ?_)
        · refine g_iconst 0 C 99 rfl dX9_strengths_98 ki_0 ?_
          exact g_sub [1, 2, 3, 4, 5] rfl (K99 x3 x5 x6 x7 0 hq)
        refine g_iload C 93 rfl dX9_strengths_91 0 rfl ?_
        refine g_iconst 1 C 94 rfl dX9_strengths_93 ki_1 ?_
        refine g_isub C 95 rfl dX9_strengths_94 ?_
        refine g_goto C 99 dX9_strengths_95 (by decide) ?_
        exact g_sub [1, 2, 3, 4, 5] rfl (K99 x3 x5 x6 x7 (y0 - 1) hq)
      refine g_iload C 13 rfl dX9_strengths_11 4 rfl ?_
      refine g_bipush 6 C 15 rfl dX9_strengths_13 kb_6 ?_
      refine s_icmp_ge C 122 18 rfl dX9_strengths_15 (by decide) hq (fun hq => ?_) (fun hq => ?_)
      · cases hq
        exact g_sub [1] rfl (E2 )
      refine g_iconst 0 C 19 rfl dX9_strengths_18 ki_0 ?_
      refine g_istore [(7, .int 0), (0, .ref (a 0)), (3, .int x3), (4, .int x4), (5, .int x5), (6, .int x6)] C 21 rfl dX9_strengths_19 (Nat.le_of_ble_eq_true rfl) rfl ?_
      have Q21 : ∀ (x3 : Int32) (x4 : Int32) (x5 : Int32) (x6 : Int32), ∀ (n : Nat) (x7 : Int32) (o : (Int32)) (hq : lp_X9_strengths_21 x3 x4 x5 x6 s n x7 = some o) (E2 : g Γ { frames := 2, cells := 0, slots := 0, locals := 49 } 9 H [] 0 0 56 [(0, .ref (a 0)), (3, .int x3), (4, .int x4), (5, .int x5), (6, .int x6), (7, .int o)] []), g Γ { frames := 2, cells := 0, slots := 0, locals := 49 } 9 H [] 0 0 21 [(0, .ref (a 0)), (3, .int x3), (4, .int x4), (5, .int x5), (6, .int x6), (7, .int x7)] [] := by
        intro x3 x4 x5 x6
        intro n
        induction n with
        | zero => intro x7 o hq; exact nomatch (show (none : Option (Int32)) = some o from hq)
        | succ n ih =>
          intro x7 o hq E2
          have hq : bd_X9_strengths_21 x3 x4 x5 x6 s (lp_X9_strengths_21 x3 x4 x5 x6 s n) x7 = some o := hq
          refine g_aload_n C 22 rfl dX9_strengths_21 0 rfl ?_
          refine g_iload C 24 rfl dX9_strengths_22 4 rfl ?_
          refine g_iload C 26 rfl dX9_strengths_24 2 rfl ?_
          refine g_iload C 28 rfl dX9_strengths_26 3 rfl ?_
          refine g_iload C 30 rfl dX9_strengths_28 5 rfl ?_
          obtain ⟨r1, hz2, hq⟩ := bindE hq
          refine g_callRV (rest := []) C 33 rfl dX9_strengths_30 (c_X9_costBy Γ.2.1 Δ a x6 x4 x5 x7 s hz2) mv_X9_costBy ml_X9_244 hK hP rfl rfl rfl rfl rfl ⟨Nat.le_of_ble_eq_true rfl, Nat.le_of_ble_eq_true rfl⟩ (Nat.le_of_ble_eq_true rfl) ⟨Nat.zero_le _, Nat.zero_le _⟩ ?_
          refine g_aload_n C 34 rfl dX9_strengths_33 0 rfl ?_
          refine g_get (v := .ref (a 17)) C 37 rfl dX9_strengths_34 hK hP la_X9 0 30 (Nat.le_of_ble_eq_true rfl) fl_X9_58 rfl rfl rfl rfl ?_
          refine g_iload C 39 rfl dX9_strengths_37 4 rfl ?_
          refine g_iload C 41 rfl dX9_strengths_39 2 rfl ?_
          refine g_iload C 43 rfl dX9_strengths_41 3 rfl ?_
          obtain ⟨r3, hz4, hq⟩ := bindE hq
          refine g_callRS (rest := [.ref (a 17), .int r1]) C 46 rfl dX9_strengths_43 (c_X9_at Γ.2.1 Δ  x6 x4 x5  hz4) mv_X9_at (Or.inl ml_X9_241) hK rfl rfl ⟨Nat.le_of_ble_eq_true rfl, Nat.le_of_ble_eq_true rfl⟩ (Nat.le_of_ble_eq_true rfl) ⟨Nat.zero_le _, Nat.zero_le _⟩ ?_
          refine s_iald C 47 rfl dX9_strengths_46 hK hP 17 rfl hq (fun hq hi5 => ?_)
          refine s_icmp_eq C 56 50 rfl dX9_strengths_47 (by decide) hq (fun hq => ?_) (fun hq => ?_)
          · cases hq
            exact g_sub [0, 1, 2, 3, 4, 5] rfl (E2 )
          refine g_iinc (x7 + 1) [(7, .int (x7 + 1)), (0, .ref (a 0)), (3, .int x3), (4, .int x4), (5, .int x5), (6, .int x6)] C 53 rfl dX9_strengths_50 5 rfl (ii_1 _) (Nat.le_of_ble_eq_true rfl) rfl ?_
          refine g_goto C 21 dX9_strengths_53 (by decide) ?_
          exact g_sub [1, 2, 3, 4, 5, 0] rfl (ih (x7 + 1) _ hq E2)
      obtain ⟨o6, ho7, hq⟩ := bindE hq
      refine g_sub [1, 2, 3, 4, 5, 0] rfl (Q21 x3 x4 x5 x6 FUEL 0 o6 ho7 (?_))
      refine g_aload_n C 57 rfl dX9_strengths_56 0 rfl ?_
      refine g_iload C 59 rfl dX9_strengths_57 4 rfl ?_
      refine g_iload C 61 rfl dX9_strengths_59 2 rfl ?_
      obtain ⟨r8, hz9, hq⟩ := bindE hq
      refine g_callRV (rest := []) C 64 rfl dX9_strengths_61 (c_X9_slipsIn Γ.2.1 Δ a x6 x4 s hz9) mv_X9_slipsIn ml_X9_237 hK hP rfl rfl rfl rfl rfl ⟨Nat.le_of_ble_eq_true rfl, Nat.le_of_ble_eq_true rfl⟩ (Nat.le_of_ble_eq_true rfl) ⟨Nat.zero_le _, Nat.zero_le _⟩ ?_
      refine s_if_eq C 71 67 rfl dX9_strengths_64 (by decide) hq (fun hq => ?_) (fun hq => ?_)
      rotate_left
      · refine g_iconst 0 C 68 rfl dX9_strengths_67 ki_0 ?_
        refine g_goto C 84 dX9_strengths_68 (by decide) ?_
        exact g_sub [0, 1, 3, 4, 5] rfl (K84 x3 x5 x6 o6 0 hq)
      refine g_iload C 73 rfl dX9_strengths_71 2 rfl ?_
      refine g_aload_n C 74 rfl dX9_strengths_73 0 rfl ?_
      refine g_get (v := .ref (a 16)) C 77 rfl dX9_strengths_74 hK hP la_X9 0 29 (Nat.le_of_ble_eq_true rfl) fl_X9_55 rfl rfl rfl rfl ?_
      refine g_iload C 79 rfl dX9_strengths_77 4 rfl ?_
      refine s_iald C 80 rfl dX9_strengths_79 hK hP 16 rfl hq (fun hq hi10 => ?_)
      refine g_iadd C 81 rfl dX9_strengths_80 ?_
      refine g_iload C 83 rfl dX9_strengths_81 5 rfl ?_
      refine g_isub C 84 rfl dX9_strengths_83 ?_
      exact g_sub [0, 1, 3, 4, 5] rfl (K84 x3 x5 x6 o6 ((x4 + ((x9_weight s) (x6 : Int32).toNatClampNeg)) - o6) hq)
  obtain ⟨o11, ho12, hq⟩ := bindE hq
  refine g_sub [4, 3, 2, 1, 0] rfl (Q11  FUEL 0 x1 x2 0 o11 ho12 (?_))
  refine g_iload_n C 123 rfl dX9_strengths_122 0 rfl ?_
  exact r_int hR hq dX9_strengths_123 rfl rfl
set_option maxHeartbeats 4000000 in
set_option maxRecDepth 100000 in
theorem c_X9_spend (l : Launch) (Δ : gD) (a : Nat → Nat) (x1 : Int32) (x2 : Int32) (x3 : Int32) (x4 : Int32) (s : S9) {res : Int32 × S9} (hq : sem_X9_spend x1 x2 x3 x4 s = some res) : MW l yX9_spend cX9_spend 6 (some .int) Δ (cs9 a Δ s) [.ref (a 0), .int x1, .int x2, .int x3, .int x4] 4 99 (some (.int res.1)) (cs9 a Δ res.2) := by
  refine MW.of (by decide) (Nat.le_of_ble_eq_true rfl) ?_
  intro Γ A H hl C hK hP hD hS hA hR
  subst hl
  show g Γ { frames := 4, cells := 0, slots := 0, locals := 99 } 6 H [] 0 0 0 [(0, .ref (a 0)), (1, .int x1), (2, .int x2), (3, .int x3), (4, .int x4)] []
  refine g_iload_n C 1 rfl dX9_spend_0 1 rfl ?_
  refine g_i2l C 2 rfl dX9_spend_1 ?_
  refine g_lconst 0 C 3 rfl dX9_spend_2 kl_0 ?_
  refine g_aload_n C 4 rfl dX9_spend_3 0 rfl ?_
  refine g_get (v := .int (x9_limit s)) C 7 rfl dX9_spend_4 hK hP la_X9 0 1 (Nat.le_of_ble_eq_true rfl) fl_X9_81 rfl rfl rfl rfl ?_
  refine g_i2l C 8 rfl dX9_spend_7 ?_
  obtain ⟨r1, hz2, hq⟩ := bindE hq
  refine g_callRS (rest := []) C 11 rfl dX9_spend_8 (c_X9_in Γ.2.1 Δ  (Int32.toInt64 x1) 0 (Int32.toInt64 (x9_limit s))  hz2) mv_X9_in (Or.inl ml_X9_90) hK rfl rfl ⟨Nat.le_of_ble_eq_true rfl, Nat.le_of_ble_eq_true rfl⟩ (Nat.le_of_ble_eq_true rfl) ⟨Nat.zero_le _, Nat.zero_le _⟩ ?_
  refine s_if_eq C 51 14 rfl dX9_spend_11 (by decide) hq (fun hq => ?_) (fun hq => ?_)
  · refine g_bipush (-2) C 53 rfl dX9_spend_51 kb_m2 ?_
    exact w_int (ws := fun s => cs9 a Δ s) hR hq hP hS dX9_spend_53 rfl rfl
  refine g_iload_n C 15 rfl dX9_spend_14 2 rfl ?_
  refine g_i2l C 16 rfl dX9_spend_15 ?_
  refine g_lconst 0 C 17 rfl dX9_spend_16 kl_0 ?_
  refine g_ldc2 20 C 20 rfl dX9_spend_17 k_X9_113 ?_
  obtain ⟨r3, hz4, hq⟩ := bindE hq
  refine g_callRS (rest := []) C 23 rfl dX9_spend_20 (c_X9_in Γ.2.1 Δ  (Int32.toInt64 x2) 0 20  hz4) mv_X9_in (Or.inl ml_X9_90) hK rfl rfl ⟨Nat.le_of_ble_eq_true rfl, Nat.le_of_ble_eq_true rfl⟩ (Nat.le_of_ble_eq_true rfl) ⟨Nat.zero_le _, Nat.zero_le _⟩ ?_
  refine s_if_eq C 51 26 rfl dX9_spend_23 (by decide) hq (fun hq => ?_) (fun hq => ?_)
  · refine g_bipush (-2) C 53 rfl dX9_spend_51 kb_m2 ?_
    exact w_int (ws := fun s => cs9 a Δ s) hR hq hP hS dX9_spend_53 rfl rfl
  refine g_iload_n C 27 rfl dX9_spend_26 3 rfl ?_
  refine g_i2l C 28 rfl dX9_spend_27 ?_
  refine g_lconst 0 C 29 rfl dX9_spend_28 kl_0 ?_
  refine g_ldc2 999999 C 32 rfl dX9_spend_29 k_X9_253 ?_
  obtain ⟨r5, hz6, hq⟩ := bindE hq
  refine g_callRS (rest := []) C 35 rfl dX9_spend_32 (c_X9_in Γ.2.1 Δ  (Int32.toInt64 x3) 0 999999  hz6) mv_X9_in (Or.inl ml_X9_90) hK rfl rfl ⟨Nat.le_of_ble_eq_true rfl, Nat.le_of_ble_eq_true rfl⟩ (Nat.le_of_ble_eq_true rfl) ⟨Nat.zero_le _, Nat.zero_le _⟩ ?_
  refine s_if_eq C 51 38 rfl dX9_spend_35 (by decide) hq (fun hq => ?_) (fun hq => ?_)
  · refine g_bipush (-2) C 53 rfl dX9_spend_51 kb_m2 ?_
    exact w_int (ws := fun s => cs9 a Δ s) hR hq hP hS dX9_spend_53 rfl rfl
  refine g_iload C 40 rfl dX9_spend_38 4 rfl ?_
  refine g_i2l C 41 rfl dX9_spend_40 ?_
  refine g_lconst 0 C 42 rfl dX9_spend_41 kl_0 ?_
  refine g_ldc2 2 C 45 rfl dX9_spend_42 k_X9_228 ?_
  obtain ⟨r7, hz8, hq⟩ := bindE hq
  refine g_callRS (rest := []) C 48 rfl dX9_spend_45 (c_X9_in Γ.2.1 Δ  (Int32.toInt64 x4) 0 2  hz8) mv_X9_in (Or.inl ml_X9_90) hK rfl rfl ⟨Nat.le_of_ble_eq_true rfl, Nat.le_of_ble_eq_true rfl⟩ (Nat.le_of_ble_eq_true rfl) ⟨Nat.zero_le _, Nat.zero_le _⟩ ?_
  refine s_if_ne C 54 51 rfl dX9_spend_48 (by decide) hq (fun hq => ?_) (fun hq => ?_)
  rotate_left
  · refine g_bipush (-2) C 53 rfl dX9_spend_51 kb_m2 ?_
    exact w_int (ws := fun s => cs9 a Δ s) hR hq hP hS dX9_spend_53 rfl rfl
  refine g_aload_n C 55 rfl dX9_spend_54 0 rfl ?_
  refine g_iload_n C 56 rfl dX9_spend_55 3 rfl ?_
  obtain ⟨r9, hz10, hq⟩ := bindE hq
  refine g_callWV (rest := []) (cs9 a Δ r9) C 59 rfl dX9_spend_56 (c_X9_findCosts Γ.2.1 Δ a x3 s hz10) mv_X9_findCosts ml_X9_255 hK hP hD hS hA [0, 1, 2, 3, 4, 5, 6, 7, 8, 9, 10, 11, 12, 13, 14, 15, 16, 17, 18, 19, 20, 21, 22, 23] [] [0, 1, 2, 3, 4, 5, 6, 7, 8, 9, 10, 11, 12, 13, 14, 15, 16, 17, 18, 19, 20, 21, 22, 23] rfl (by decide) (wr := []) rfl (by decide) (by decide) rfl rfl rfl rfl rfl rfl rfl rfl ⟨Nat.le_of_ble_eq_true rfl, Nat.le_of_ble_eq_true rfl⟩ (Nat.le_of_ble_eq_true rfl) ⟨Nat.zero_le _, Nat.zero_le _⟩ (fun H L hP hD hS => ?_)
  refine g_aload_n C 60 rfl dX9_spend_59 0 rfl ?_
  refine g_get (v := .ref (a 17)) C 63 rfl dX9_spend_60 hK hP la_X9 0 30 (Nat.le_of_ble_eq_true rfl) fl_X9_58 rfl rfl rfl rfl ?_
  refine g_iconst 0 C 64 rfl dX9_spend_63 ki_0 ?_
  refine g_iload_n C 65 rfl dX9_spend_64 1 rfl ?_
  refine g_iload_n C 66 rfl dX9_spend_65 2 rfl ?_
  obtain ⟨r11, hz12, hq⟩ := bindE hq
  refine g_callRS (rest := [.ref (a 17)]) C 69 rfl dX9_spend_66 (c_X9_at Γ.2.1 Δ  0 x1 x2  hz12) mv_X9_at (Or.inl ml_X9_241) hK rfl rfl ⟨Nat.le_of_ble_eq_true rfl, Nat.le_of_ble_eq_true rfl⟩ (Nat.le_of_ble_eq_true rfl) ⟨Nat.zero_le _, Nat.zero_le _⟩ ?_
  refine s_iald C 70 rfl dX9_spend_69 hK hP 17 rfl hq (fun hq hi13 => ?_)
  refine g_istore [(5, .int ((x9_costs r9) (r11 : Int32).toNatClampNeg)), (0, .ref (a 0)), (1, .int x1), (2, .int x2), (3, .int x3), (4, .int x4)] C 72 rfl dX9_spend_70 (Nat.le_of_ble_eq_true rfl) rfl ?_
  refine g_iload C 74 rfl dX9_spend_72 5 rfl ?_
  refine s_if_ne C 85 77 rfl dX9_spend_74 (by decide) hq (fun hq => ?_) (fun hq => ?_)
  rotate_left
  · refine g_iload C 79 rfl dX9_spend_77 0 rfl ?_
    refine g_bipush 100 C 81 rfl dX9_spend_79 kb_100 ?_
    refine g_idiv C 82 rfl dX9_spend_81 (by decide) ?_
    refine g_goto C 105 dX9_spend_82 (by decide) ?_
    exact w_int (ws := fun s => cs9 a Δ s) hR hq hP hS dX9_spend_105 rfl rfl
  refine g_iload C 87 rfl dX9_spend_85 5 rfl ?_
  refine g_iconst 1 C 88 rfl dX9_spend_87 ki_1 ?_
  refine s_icmp_ne C 99 91 rfl dX9_spend_88 (by decide) hq (fun hq => ?_) (fun hq => ?_)
  rotate_left
  · refine g_iload C 93 rfl dX9_spend_91 0 rfl ?_
    refine g_bipush 100 C 95 rfl dX9_spend_93 kb_100 ?_
    refine g_irem C 96 rfl dX9_spend_95 (by decide) ?_
    refine g_goto C 105 dX9_spend_96 (by decide) ?_
    exact w_int (ws := fun s => cs9 a Δ s) hR hq hP hS dX9_spend_105 rfl rfl
  refine g_aload_n C 100 rfl dX9_spend_99 1 rfl ?_
  refine g_iload_n C 101 rfl dX9_spend_100 2 rfl ?_
  refine g_iload_n C 102 rfl dX9_spend_101 3 rfl ?_
  obtain ⟨r14, hz15, hq⟩ := bindE hq
  refine g_callRV (rest := []) C 105 rfl dX9_spend_102 (c_X9_strengths Γ.2.1 Δ a x1 x2 r9 hz15) mv_X9_strengths ml_X9_258 hK hP rfl rfl rfl rfl rfl ⟨Nat.le_of_ble_eq_true rfl, Nat.le_of_ble_eq_true rfl⟩ (Nat.le_of_ble_eq_true rfl) ⟨Nat.zero_le _, Nat.zero_le _⟩ ?_
  exact w_int (ws := fun s => cs9 a Δ s) hR hq hP hS dX9_spend_105 rfl rfl
set_option maxHeartbeats 4000000 in
set_option maxRecDepth 100000 in
theorem c_X9_slipsBy (l : Launch) (Δ : gD) (a : Nat → Nat) (x1 : Int32) (x2 : Int32) (x3 : Int32) (s : S9) {res : Int32} (hq : sem_X9_slipsBy x1 x2 x3 s = some res) : MR l yX9_slipsBy cX9_slipsBy 4 (some .int) Δ (cs9 a Δ s) [.ref (a 0), .int x1, .int x2, .int x3] 1 22 (.int res) := by
  refine MR.of (by decide) (Nat.le_of_ble_eq_true rfl) ?_
  intro Γ H hl C hK hP hR
  subst hl
  show g Γ { frames := 1, cells := 0, slots := 0, locals := 22 } 4 H [] 0 0 0 [(0, .ref (a 0)), (1, .int x1), (2, .int x2), (3, .int x3)] []
  refine g_aload_n C 1 rfl dX9_slipsBy_0 0 rfl ?_
  refine g_get (v := .ref (a 17)) C 4 rfl dX9_slipsBy_1 hK hP la_X9 0 30 (Nat.le_of_ble_eq_true rfl) fl_X9_58 rfl rfl rfl rfl ?_
  refine g_iconst 0 C 5 rfl dX9_slipsBy_4 ki_0 ?_
  refine g_aload_n C 6 rfl dX9_slipsBy_5 0 rfl ?_
  refine g_get (v := .ref (a 1)) C 9 rfl dX9_slipsBy_6 hK hP la_X9 0 3 (Nat.le_of_ble_eq_true rfl) fl_X9_7 rfl rfl rfl rfl ?_
  refine g_iload_n C 10 rfl dX9_slipsBy_9 1 rfl ?_
  refine s_iald C 11 rfl dX9_slipsBy_10 hK hP 1 rfl hq (fun hq hi1 => ?_)
  refine g_iload_n C 12 rfl dX9_slipsBy_11 3 rfl ?_
  obtain ⟨r2, hz3, hq⟩ := bindE hq
  refine g_callRS (rest := [.ref (a 17)]) C 15 rfl dX9_slipsBy_12 (c_X9_at Γ.2.1 Δ  0 ((x9_temper s) (x1 : Int32).toNatClampNeg) x3  hz3) mv_X9_at (Or.inl ml_X9_241) hK rfl rfl ⟨Nat.le_of_ble_eq_true rfl, Nat.le_of_ble_eq_true rfl⟩ (Nat.le_of_ble_eq_true rfl) ⟨Nat.zero_le _, Nat.zero_le _⟩ ?_
  refine s_iald C 16 rfl dX9_slipsBy_15 hK hP 17 rfl hq (fun hq hi4 => ?_)
  refine g_bipush 100 C 18 rfl dX9_slipsBy_16 kb_100 ?_
  refine g_idiv C 19 rfl dX9_slipsBy_18 (by decide) ?_
  refine g_aload_n C 20 rfl dX9_slipsBy_19 0 rfl ?_
  refine g_get (v := .ref (a 18)) C 23 rfl dX9_slipsBy_20 hK hP la_X9 0 31 (Nat.le_of_ble_eq_true rfl) fl_X9_61 rfl rfl rfl rfl ?_
  refine g_bipush 21 C 25 rfl dX9_slipsBy_23 kb_21 ?_
  refine g_iload_n C 26 rfl dX9_slipsBy_25 1 rfl ?_
  refine g_iconst 1 C 27 rfl dX9_slipsBy_26 ki_1 ?_
  refine g_iadd C 28 rfl dX9_slipsBy_27 ?_
  refine g_imul C 29 rfl dX9_slipsBy_28 ?_
  refine g_iload_n C 30 rfl dX9_slipsBy_29 2 rfl ?_
  refine g_iadd C 31 rfl dX9_slipsBy_30 ?_
  refine g_iload_n C 32 rfl dX9_slipsBy_31 3 rfl ?_
  refine g_isub C 33 rfl dX9_slipsBy_32 ?_
  refine s_iald C 34 rfl dX9_slipsBy_33 hK hP 18 rfl hq (fun hq hi5 => ?_)
  refine g_iadd C 35 rfl dX9_slipsBy_34 ?_
  exact r_int hR hq dX9_slipsBy_35 rfl rfl
set_option maxHeartbeats 4000000 in
set_option maxRecDepth 100000 in
theorem c_X9_fewestSlips (l : Launch) (Δ : gD) (a : Nat → Nat) (x1 : Int32) (x2 : Int32) (s : S9) {res : Int32} (hq : sem_X9_fewestSlips x1 x2 s = some res) : MR l yX9_fewestSlips cX9_fewestSlips 6 (some .int) Δ (cs9 a Δ s) [.ref (a 0), .int x1, .int x2] 2 46 (.int res) := by
  refine MR.of (by decide) (Nat.le_of_ble_eq_true rfl) ?_
  intro Γ H hl C hK hP hR
  subst hl
  show g Γ { frames := 2, cells := 0, slots := 0, locals := 46 } 6 H [] 0 0 0 [(0, .ref (a 0)), (1, .int x1), (2, .int x2)] []
  refine g_aload_n C 1 rfl dX9_fewestSlips_0 0 rfl ?_
  refine g_iload_n C 2 rfl dX9_fewestSlips_1 1 rfl ?_
  obtain ⟨r1, hz2, hq⟩ := bindE hq
  refine g_callRV (rest := []) C 5 rfl dX9_fewestSlips_2 (c_X9_isOne Γ.2.1 Δ a x1 s hz2) mv_X9_isOne ml_X9_107 hK hP rfl rfl rfl rfl rfl ⟨Nat.le_of_ble_eq_true rfl, Nat.le_of_ble_eq_true rfl⟩ (Nat.le_of_ble_eq_true rfl) ⟨Nat.zero_le _, Nat.zero_le _⟩ ?_
  refine s_if_ne C 22 8 rfl dX9_fewestSlips_5 (by decide) hq (fun hq => ?_) (fun hq => ?_)
  rotate_left
  · refine g_aload_n C 9 rfl dX9_fewestSlips_8 0 rfl ?_
    refine g_get (v := .ref (a 18)) C 12 rfl dX9_fewestSlips_9 hK hP la_X9 0 31 (Nat.le_of_ble_eq_true rfl) fl_X9_61 rfl rfl rfl rfl ?_
    refine g_bipush 21 C 14 rfl dX9_fewestSlips_12 kb_21 ?_
    refine g_iload_n C 15 rfl dX9_fewestSlips_14 1 rfl ?_
    refine g_iconst 1 C 16 rfl dX9_fewestSlips_15 ki_1 ?_
    refine g_iadd C 17 rfl dX9_fewestSlips_16 ?_
    refine g_imul C 18 rfl dX9_fewestSlips_17 ?_
    refine g_iload_n C 19 rfl dX9_fewestSlips_18 2 rfl ?_
    refine g_iadd C 20 rfl dX9_fewestSlips_19 ?_
    refine s_iald C 21 rfl dX9_fewestSlips_20 hK hP 18 rfl hq (fun hq hi7 => ?_)
    exact r_int hR hq dX9_fewestSlips_21 rfl rfl
  refine g_ldc 100000 C 24 rfl dX9_fewestSlips_22 k_X9_240 ?_
  refine g_istore_n [(3, .int 100000), (0, .ref (a 0)), (1, .int x1), (2, .int x2)] C 25 rfl dX9_fewestSlips_24 (Nat.le_of_ble_eq_true rfl) rfl ?_
  refine g_iconst 0 C 26 rfl dX9_fewestSlips_25 ki_0 ?_
  refine g_istore [(4, .int 0), (3, .int 100000), (0, .ref (a 0)), (1, .int x1), (2, .int x2)] C 28 rfl dX9_fewestSlips_26 (Nat.le_of_ble_eq_true rfl) rfl ?_
  have Q28 : ∀ (x1 : Int32) (x2 : Int32), ∀ (n : Nat) (x3 : Int32) (x4 : Int32) (o : (Int32)) (hq : lp_X9_fewestSlips_28 x1 x2 s n x3 x4 = some o) (E2 : g Γ { frames := 2, cells := 0, slots := 0, locals := 46 } 6 H [] 0 0 63 [(3, .int o)] []), g Γ { frames := 2, cells := 0, slots := 0, locals := 46 } 6 H [] 0 0 28 [(0, .ref (a 0)), (1, .int x1), (2, .int x2), (3, .int x3), (4, .int x4)] [] := by
    intro x1 x2
    intro n
    induction n with
    | zero => intro x3 x4 o hq; exact nomatch (show (none : Option (Int32)) = some o from hq)
    | succ n ih =>
      intro x3 x4 o hq E2
      have hq : bd_X9_fewestSlips_28 x1 x2 s (lp_X9_fewestSlips_28 x1 x2 s n) x3 x4 = some o := hq
      refine g_iload C 30 rfl dX9_fewestSlips_28 4 rfl ?_
      refine g_iload_n C 31 rfl dX9_fewestSlips_30 2 rfl ?_
      refine s_icmp_gt C 63 34 rfl dX9_fewestSlips_31 (by decide) hq (fun hq => ?_) (fun hq => ?_)
      · cases hq
        exact g_sub [3] rfl (E2 )
      refine g_aload_n C 35 rfl dX9_fewestSlips_34 0 rfl ?_
      refine g_iload_n C 36 rfl dX9_fewestSlips_35 1 rfl ?_
      refine g_iload_n C 37 rfl dX9_fewestSlips_36 2 rfl ?_
      refine g_iload C 39 rfl dX9_fewestSlips_37 4 rfl ?_
      obtain ⟨r3, hz4, hq⟩ := bindE hq
      refine g_callRV (rest := []) C 42 rfl dX9_fewestSlips_39 (c_X9_slipsBy Γ.2.1 Δ a x1 x2 x4 s hz4) mv_X9_slipsBy ml_X9_261 hK hP rfl rfl rfl rfl rfl ⟨Nat.le_of_ble_eq_true rfl, Nat.le_of_ble_eq_true rfl⟩ (Nat.le_of_ble_eq_true rfl) ⟨Nat.zero_le _, Nat.zero_le _⟩ ?_
      refine g_istore [(5, .int r3), (0, .ref (a 0)), (1, .int x1), (2, .int x2), (3, .int x3), (4, .int x4)] C 44 rfl dX9_fewestSlips_42 (Nat.le_of_ble_eq_true rfl) rfl ?_
      refine g_iload C 46 rfl dX9_fewestSlips_44 0 rfl ?_
      refine g_iload_n C 47 rfl dX9_fewestSlips_46 4 rfl ?_
      refine s_icmp_ge C 55 50 rfl dX9_fewestSlips_47 (by decide) hq (fun hq => ?_) (fun hq => ?_)
      · refine g_iload_n C 56 rfl dX9_fewestSlips_55 4 rfl ?_
        refine g_istore_n [(3, .int x3), (5, .int r3), (0, .ref (a 0)), (1, .int x1), (2, .int x2), (4, .int x4)] C 57 rfl dX9_fewestSlips_56 (Nat.le_of_ble_eq_true rfl) rfl ?_
        refine g_iinc (x4 + 1) [(4, .int (x4 + 1)), (3, .int x3), (5, .int r3), (0, .ref (a 0)), (1, .int x1), (2, .int x2)] C 60 rfl dX9_fewestSlips_57 5 rfl (ii_1 _) (Nat.le_of_ble_eq_true rfl) rfl ?_
        refine g_goto C 28 dX9_fewestSlips_60 (by decide) ?_
        exact g_sub [3, 4, 5, 1, 0] rfl (ih x3 (x4 + 1) _ hq E2)
      refine g_iload C 52 rfl dX9_fewestSlips_50 0 rfl ?_
      refine g_goto C 56 dX9_fewestSlips_52 (by decide) ?_
      refine g_istore_n [(3, .int r3), (5, .int r3), (0, .ref (a 0)), (1, .int x1), (2, .int x2), (4, .int x4)] C 57 rfl dX9_fewestSlips_56 (Nat.le_of_ble_eq_true rfl) rfl ?_
      refine g_iinc (x4 + 1) [(4, .int (x4 + 1)), (3, .int r3), (5, .int r3), (0, .ref (a 0)), (1, .int x1), (2, .int x2)] C 60 rfl dX9_fewestSlips_57 5 rfl (ii_1 _) (Nat.le_of_ble_eq_true rfl) rfl ?_
      refine g_goto C 28 dX9_fewestSlips_60 (by decide) ?_
      exact g_sub [3, 4, 5, 1, 0] rfl (ih r3 (x4 + 1) _ hq E2)
  obtain ⟨o5, ho6, hq⟩ := bindE hq
  refine g_sub [2, 3, 4, 1, 0] rfl (Q28 x1 x2 FUEL 100000 0 o5 ho6 (?_))
  refine g_iload_n C 64 rfl dX9_fewestSlips_63 0 rfl ?_
  exact r_int hR hq dX9_fewestSlips_64 rfl rfl
set_option maxHeartbeats 4000000 in
set_option maxRecDepth 100000 in
theorem c_X9_findDeals (l : Launch) (Δ : gD) (a : Nat → Nat) (x1 : Int32) (s : S9) {res : S9} (hq : sem_X9_findDeals x1 s = some res) : MW l yX9_findDeals cX9_findDeals 4 none Δ (cs9 a Δ s) [.ref (a 0), .int x1] 4 99 none (cs9 a Δ res) := by
  refine MW.of (by decide) (Nat.le_of_ble_eq_true rfl) ?_
  intro Γ A H hl C hK hP hD hS hA hR
  subst hl
  show g Γ { frames := 4, cells := 0, slots := 0, locals := 99 } 4 H [] 0 0 0 [(0, .ref (a 0)), (1, .int x1)] []
  refine g_aload_n C 1 rfl dX9_findDeals_0 0 rfl ?_
  refine g_iload_n C 2 rfl dX9_findDeals_1 1 rfl ?_
  obtain ⟨r1, hz2, hq⟩ := bindE hq
  refine g_callWV (rest := []) (cs9 a Δ r1) C 5 rfl dX9_findDeals_2 (c_X9_findCosts Γ.2.1 Δ a x1 s hz2) mv_X9_findCosts ml_X9_255 hK hP hD hS hA [0, 1, 2, 3, 4, 5, 6, 7, 8, 9, 10, 11, 12, 13, 14, 15, 16, 17, 18, 19, 20, 21, 22, 23] [] [0, 1, 2, 3, 4, 5, 6, 7, 8, 9, 10, 11, 12, 13, 14, 15, 16, 17, 18, 19, 20, 21, 22, 23] rfl (by decide) (wr := []) rfl (by decide) (by decide) rfl rfl rfl rfl rfl rfl rfl rfl ⟨Nat.le_of_ble_eq_true rfl, Nat.le_of_ble_eq_true rfl⟩ (Nat.le_of_ble_eq_true rfl) ⟨Nat.zero_le _, Nat.zero_le _⟩ (fun H L hP hD hS => ?_)
  refine g_bipush 6 C 7 rfl dX9_findDeals_5 kb_6 ?_
  refine g_istore_n [(2, .int 6), (0, .ref (a 0)), (1, .int x1)] C 8 rfl dX9_findDeals_7 (Nat.le_of_ble_eq_true rfl) rfl ?_
  have Q8 : ∀ (n : Nat) (x2 : Int32) (s : S9) (o : (S9)) (H : Heap) (L : List Loc) (hP : va_P Δ.1 classes (cs9 a Δ s) H) (hD : va_D A (cs9 a Δ s)) (hS : va_S A (sOf Γ).heap H L) (hq : lp_X9_findDeals_8  n x2 s = some o) (E2 : ∀ (H : Heap) (L : List Loc), va_P Δ.1 classes (cs9 a Δ o) H → va_D A (cs9 a Δ o) → va_S A (sOf Γ).heap H L → g Γ { frames := 4, cells := 0, slots := 0, locals := 99 } 4 H L 0 0 68 [] []), g Γ { frames := 4, cells := 0, slots := 0, locals := 99 } 4 H L 0 0 8 [(0, .ref (a 0)), (2, .int x2)] [] := by
    intro n
    induction n with
    | zero => intro x2 s o H L hP hD hS hq; exact nomatch (show (none : Option (S9)) = some o from hq)
    | succ n ih =>
      intro x2 s o H L hP hD hS hq E2
      have hq : bd_X9_findDeals_8  (lp_X9_findDeals_8  n) x2 s = some o := hq
      refine g_iload_n C 9 rfl dX9_findDeals_8 1 rfl ?_
      refine s_if_lt C 68 12 rfl dX9_findDeals_9 (by decide) hq (fun hq => ?_) (fun hq => ?_)
      · cases hq
        exact g_sub [] rfl (E2 _ _ hP hD hS)
      refine g_iconst 0 C 13 rfl dX9_findDeals_12 ki_0 ?_
      refine g_istore_n [(3, .int 0), (0, .ref (a 0)), (2, .int x2)] C 14 rfl dX9_findDeals_13 (Nat.le_of_ble_eq_true rfl) rfl ?_
      have Q14 : ∀ (x2 : Int32), ∀ (n : Nat) (x3 : Int32) (s : S9) (o : (S9)) (H : Heap) (L : List Loc) (hP : va_P Δ.1 classes (cs9 a Δ s) H) (hD : va_D A (cs9 a Δ s)) (hS : va_S A (sOf Γ).heap H L) (hq : lp_X9_findDeals_14 x2 n x3 s = some o) (E2 : ∀ (H : Heap) (L : List Loc), va_P Δ.1 classes (cs9 a Δ o) H → va_D A (cs9 a Δ o) → va_S A (sOf Γ).heap H L → g Γ { frames := 4, cells := 0, slots := 0, locals := 99 } 4 H L 0 0 62 [(0, .ref (a 0)), (2, .int x2)] []), g Γ { frames := 4, cells := 0, slots := 0, locals := 99 } 4 H L 0 0 14 [(0, .ref (a 0)), (2, .int x2), (3, .int x3)] [] := by
        intro x2
        intro n
        induction n with
        | zero => intro x3 s o H L hP hD hS hq; exact nomatch (show (none : Option (S9)) = some o from hq)
        | succ n ih =>
          intro x3 s o H L hP hD hS hq E2
          have hq : bd_X9_findDeals_14 x2 (lp_X9_findDeals_14 x2 n) x3 s = some o := hq
          refine g_iload_n C 15 rfl dX9_findDeals_14 2 rfl ?_
          refine g_bipush 21 C 17 rfl dX9_findDeals_15 kb_21 ?_
          refine s_icmp_ge C 62 20 rfl dX9_findDeals_17 (by decide) hq (fun hq => ?_) (fun hq => ?_)
          · cases hq
            exact g_sub [0, 1] rfl (E2 _ _ hP hD hS)
          refine g_aload_n C 21 rfl dX9_findDeals_20 0 rfl ?_
          refine g_get (v := .ref (a 18)) C 24 rfl dX9_findDeals_21 hK hP la_X9 0 31 (Nat.le_of_ble_eq_true rfl) fl_X9_61 rfl rfl rfl rfl ?_
          refine g_bipush 21 C 26 rfl dX9_findDeals_24 kb_21 ?_
          refine g_iload_n C 27 rfl dX9_findDeals_26 1 rfl ?_
          refine g_imul C 28 rfl dX9_findDeals_27 ?_
          refine g_iload_n C 29 rfl dX9_findDeals_28 2 rfl ?_
          refine g_iadd C 30 rfl dX9_findDeals_29 ?_
          refine g_iload_n C 31 rfl dX9_findDeals_30 1 rfl ?_
          refine g_bipush 6 C 33 rfl dX9_findDeals_31 kb_6 ?_
          refine s_icmp_ne C 49 36 rfl dX9_findDeals_33 (by decide) hq (fun hq => ?_) (fun hq => ?_)
          · refine g_aload_n C 50 rfl dX9_findDeals_49 0 rfl ?_
            refine g_iload_n C 51 rfl dX9_findDeals_50 1 rfl ?_
            refine g_iload_n C 52 rfl dX9_findDeals_51 2 rfl ?_
            obtain ⟨r3, hz4, hq⟩ := bindE hq
            refine g_callRV (rest := [.int ((21 * x2) + x3), .ref (a 18)]) C 55 rfl dX9_findDeals_52 (c_X9_fewestSlips Γ.2.1 Δ a x2 x3 s hz4) mv_X9_fewestSlips ml_X9_264 hK hP rfl rfl rfl rfl rfl ⟨Nat.le_of_ble_eq_true rfl, Nat.le_of_ble_eq_true rfl⟩ (Nat.le_of_ble_eq_true rfl) ⟨Nat.zero_le _, Nat.zero_le _⟩ ?_
            refine s_iast (cs9 a Δ (p9_slipsFrom s (upd (x9_slipsFrom s) (((21 * x2) + x3) : Int32).toNatClampNeg r3))) C 56 rfl dX9_findDeals_55 hK hP hD hS 18 rfl hq rfl (fun hq hi5 H L hP hD hS => ?_)
            refine g_iinc (x3 + 1) [(3, .int (x3 + 1)), (0, .ref (a 0)), (2, .int x2)] C 59 rfl dX9_findDeals_56 2 rfl (ii_1 _) (Nat.le_of_ble_eq_true rfl) rfl ?_
            refine g_goto C 14 dX9_findDeals_59 (by decide) ?_
            exact g_sub [1, 2, 0] rfl (ih (x3 + 1) (p9_slipsFrom s (upd (x9_slipsFrom s) (((21 * x2) + x3) : Int32).toNatClampNeg r3)) _ _ _ hP hD hS hq E2)
          refine g_iload_n C 37 rfl dX9_findDeals_36 2 rfl ?_
          refine s_if_ne C 44 40 rfl dX9_findDeals_37 (by decide) hq (fun hq => ?_) (fun hq => ?_)
          · refine g_ldc 100000 C 46 rfl dX9_findDeals_44 k_X9_240 ?_
            refine g_goto C 55 dX9_findDeals_46 (by decide) ?_
            refine s_iast (cs9 a Δ (p9_slipsFrom s (upd (x9_slipsFrom s) (((21 * x2) + x3) : Int32).toNatClampNeg 100000))) C 56 rfl dX9_findDeals_55 hK hP hD hS 18 rfl hq rfl (fun hq hi6 H L hP hD hS => ?_)
            refine g_iinc (x3 + 1) [(3, .int (x3 + 1)), (0, .ref (a 0)), (2, .int x2)] C 59 rfl dX9_findDeals_56 2 rfl (ii_1 _) (Nat.le_of_ble_eq_true rfl) rfl ?_
            refine g_goto C 14 dX9_findDeals_59 (by decide) ?_
            exact g_sub [1, 2, 0] rfl (ih (x3 + 1) (p9_slipsFrom s (upd (x9_slipsFrom s) (((21 * x2) + x3) : Int32).toNatClampNeg 100000)) _ _ _ hP hD hS hq E2)
          refine g_iconst 0 C 41 rfl dX9_findDeals_40 ki_0 ?_
          refine g_goto C 55 dX9_findDeals_41 (by decide) ?_
          refine s_iast (cs9 a Δ (p9_slipsFrom s (upd (x9_slipsFrom s) (((21 * x2) + x3) : Int32).toNatClampNeg 0))) C 56 rfl dX9_findDeals_55 hK hP hD hS 18 rfl hq rfl (fun hq hi7 H L hP hD hS => ?_)
          refine g_iinc (x3 + 1) [(3, .int (x3 + 1)), (0, .ref (a 0)), (2, .int x2)] C 59 rfl dX9_findDeals_56 2 rfl (ii_1 _) (Nat.le_of_ble_eq_true rfl) rfl ?_
          refine g_goto C 14 dX9_findDeals_59 (by decide) ?_
          exact g_sub [1, 2, 0] rfl (ih (x3 + 1) (p9_slipsFrom s (upd (x9_slipsFrom s) (((21 * x2) + x3) : Int32).toNatClampNeg 0)) _ _ _ hP hD hS hq E2)
      obtain ⟨o8, ho9, hq⟩ := bindE hq
      refine g_sub [1, 2, 0] rfl (Q14 x2 FUEL 0 s o8 _ _ hP hD hS ho9 (fun H L hP hD hS => ?_))
      refine g_iinc (x2 - 1) [(2, .int (x2 - 1)), (0, .ref (a 0))] C 65 rfl dX9_findDeals_62 1 rfl (ii_m1 _) (Nat.le_of_ble_eq_true rfl) rfl ?_
      refine g_goto C 8 dX9_findDeals_65 (by decide) ?_
      exact g_sub [1, 0] rfl (ih (x2 - 1) o8 _ _ _ hP hD hS hq E2)
  obtain ⟨o10, ho11, hq⟩ := bindE hq
  refine g_sub [1, 0] rfl (Q8  FUEL 6 r1 o10 _ _ hP hD hS ho11 (fun H L hP hD hS => ?_))
  exact w_void (ws := fun s => cs9 a Δ s) hR hq hP hS dX9_findDeals_68 rfl
set_option maxHeartbeats 4000000 in
set_option maxRecDepth 100000 in
theorem c_X9_deal (l : Launch) (Δ : gD) (a : Nat → Nat) (x1 : Int32) (x2 : Int32) (x3 : Int32) (s : S9) {res : Int32 × S9} (hq : sem_X9_deal x1 x2 x3 s = some res) : MW l yX9_deal cX9_deal 7 (some .int) Δ (cs9 a Δ s) [.ref (a 0), .int x1, .int x2, .int x3] 5 122 (some (.int res.1)) (cs9 a Δ res.2) := by
  refine MW.of (by decide) (Nat.le_of_ble_eq_true rfl) ?_
  intro Γ A H hl C hK hP hD hS hA hR
  subst hl
  have K15 : ∀ (x1 : Int32) (x2 : Int32) (x3 : Int32) (s : S9) (H : Heap) (L : List Loc) (hP : va_P Δ.1 classes (cs9 a Δ s) H) (hD : va_D A (cs9 a Δ s)) (hS : va_S A (sOf Γ).heap H L), jn_X9_deal_15 x1 x2 x3 s = some res → g Γ { frames := 5, cells := 0, slots := 0, locals := 122 } 7 H L 0 0 15 [(0, .ref (a 0)), (1, .int x1), (2, .int x2), (3, .int x3)] [] := by
    intro x1 x2 x3 s H L hP hD hS hq
    refine g_iload_n C 16 rfl dX9_deal_15 1 rfl ?_
    refine g_i2l C 17 rfl dX9_deal_16 ?_
    refine g_lconst 0 C 18 rfl dX9_deal_17 kl_0 ?_
    refine g_ldc2 20 C 21 rfl dX9_deal_18 k_X9_113 ?_
    obtain ⟨r1, hz2, hq⟩ := bindE hq
    refine g_callRS (rest := []) C 24 rfl dX9_deal_21 (c_X9_in Γ.2.1 Δ  (Int32.toInt64 x1) 0 20  hz2) mv_X9_in (Or.inl ml_X9_90) hK rfl rfl ⟨Nat.le_of_ble_eq_true rfl, Nat.le_of_ble_eq_true rfl⟩ (Nat.le_of_ble_eq_true rfl) ⟨Nat.zero_le _, Nat.zero_le _⟩ ?_
    refine s_if_eq C 39 27 rfl dX9_deal_24 (by decide) hq (fun hq => ?_) (fun hq => ?_)
    · refine g_bipush (-2) C 41 rfl dX9_deal_39 kb_m2 ?_
      exact w_int (ws := fun s => cs9 a Δ s) hR hq hP hS dX9_deal_41 rfl rfl
    refine g_iload_n C 28 rfl dX9_deal_27 2 rfl ?_
    refine g_i2l C 29 rfl dX9_deal_28 ?_
    refine g_lconst 0 C 30 rfl dX9_deal_29 kl_0 ?_
    refine g_ldc2 999999 C 33 rfl dX9_deal_30 k_X9_253 ?_
    obtain ⟨r3, hz4, hq⟩ := bindE hq
    refine g_callRS (rest := []) C 36 rfl dX9_deal_33 (c_X9_in Γ.2.1 Δ  (Int32.toInt64 x2) 0 999999  hz4) mv_X9_in (Or.inl ml_X9_90) hK rfl rfl ⟨Nat.le_of_ble_eq_true rfl, Nat.le_of_ble_eq_true rfl⟩ (Nat.le_of_ble_eq_true rfl) ⟨Nat.zero_le _, Nat.zero_le _⟩ ?_
    refine s_if_ne C 42 39 rfl dX9_deal_36 (by decide) hq (fun hq => ?_) (fun hq => ?_)
    rotate_left
    · refine g_bipush (-2) C 41 rfl dX9_deal_39 kb_m2 ?_
      exact w_int (ws := fun s => cs9 a Δ s) hR hq hP hS dX9_deal_41 rfl rfl
    refine g_aload_n C 43 rfl dX9_deal_42 0 rfl ?_
    refine g_iload_n C 44 rfl dX9_deal_43 2 rfl ?_
    obtain ⟨r5, hz6, hq⟩ := bindE hq
    refine g_callWV (rest := []) (cs9 a Δ r5) C 47 rfl dX9_deal_44 (c_X9_findDeals Γ.2.1 Δ a x2 s hz6) mv_X9_findDeals ml_X9_267 hK hP hD hS hA [0, 1, 2, 3, 4, 5, 6, 7, 8, 9, 10, 11, 12, 13, 14, 15, 16, 17, 18, 19, 20, 21, 22, 23] [] [0, 1, 2, 3, 4, 5, 6, 7, 8, 9, 10, 11, 12, 13, 14, 15, 16, 17, 18, 19, 20, 21, 22, 23] rfl (by decide) (wr := []) rfl (by decide) (by decide) rfl rfl rfl rfl rfl rfl rfl rfl ⟨Nat.le_of_ble_eq_true rfl, Nat.le_of_ble_eq_true rfl⟩ (Nat.le_of_ble_eq_true rfl) ⟨Nat.zero_le _, Nat.zero_le _⟩ (fun H L hP hD hS => ?_)
    refine g_iload_n C 48 rfl dX9_deal_47 3 rfl ?_
    refine g_iconst (-1) C 49 rfl dX9_deal_48 ki_m1 ?_
    refine s_icmp_ne C 70 52 rfl dX9_deal_49 (by decide) hq (fun hq => ?_) (fun hq => ?_)
    rotate_left
    · refine g_aload_n C 53 rfl dX9_deal_52 0 rfl ?_
      refine g_get (v := .int (x9_there r5)) C 56 rfl dX9_deal_53 hK hP la_X9 0 0 (Nat.le_of_ble_eq_true rfl) fl_X9_94 rfl rfl rfl rfl ?_
      refine s_if_ne C 63 59 rfl dX9_deal_56 (by decide) hq (fun hq => ?_) (fun hq => ?_)
      rotate_left
      · refine g_iconst 0 C 60 rfl dX9_deal_59 ki_0 ?_
        refine g_goto C 69 dX9_deal_60 (by decide) ?_
        exact w_int (ws := fun s => cs9 a Δ s) hR hq hP hS dX9_deal_69 rfl rfl
      refine g_aload_n C 64 rfl dX9_deal_63 0 rfl ?_
      refine g_get (v := .ref (a 18)) C 67 rfl dX9_deal_64 hK hP la_X9 0 31 (Nat.le_of_ble_eq_true rfl) fl_X9_61 rfl rfl rfl rfl ?_
      refine g_iload_n C 68 rfl dX9_deal_67 1 rfl ?_
      refine s_iald C 69 rfl dX9_deal_68 hK hP 18 rfl hq (fun hq hi16 => ?_)
      exact w_int (ws := fun s => cs9 a Δ s) hR hq hP hS dX9_deal_69 rfl rfl
    refine g_iload_n C 71 rfl dX9_deal_70 1 rfl ?_
    refine g_istore [(4, .int x1), (0, .ref (a 0)), (1, .int x1), (2, .int x2), (3, .int x3)] C 73 rfl dX9_deal_71 (Nat.le_of_ble_eq_true rfl) rfl ?_
    refine g_iconst 0 C 74 rfl dX9_deal_73 ki_0 ?_
    refine g_istore [(5, .int 0), (4, .int x1), (0, .ref (a 0)), (1, .int x1), (2, .int x2), (3, .int x3)] C 76 rfl dX9_deal_74 (Nat.le_of_ble_eq_true rfl) rfl ?_
    refine g_iconst 0 C 77 rfl dX9_deal_76 ki_0 ?_
    refine g_istore [(6, .int 0), (5, .int 0), (4, .int x1), (0, .ref (a 0)), (1, .int x1), (2, .int x2), (3, .int x3)] C 79 rfl dX9_deal_77 (Nat.le_of_ble_eq_true rfl) rfl ?_
    have Q79 : ∀ (x3 : Int32), ∀ (n : Nat) (x4 : Int32) (x5 : Int32) (x6 : Int32) (o : (Int32)) (hq : lp_X9_deal_79 x3 s n x4 x5 x6 = some o) (E2 : g Γ { frames := 5, cells := 0, slots := 0, locals := 122 } 7 H L 0 0 142 [(5, .int o)] []), g Γ { frames := 5, cells := 0, slots := 0, locals := 122 } 7 H L 0 0 79 [(0, .ref (a 0)), (3, .int x3), (4, .int x4), (5, .int x5), (6, .int x6)] [] := by
      intro x3
      intro n
      induction n with
      | zero => intro x4 x5 x6 o hq; exact nomatch (show (none : Option (Int32)) = some o from hq)
      | succ n ih =>
        intro x4 x5 x6 o hq E2
        have hq : bd_X9_deal_79 x3 s (lp_X9_deal_79 x3 s n) x4 x5 x6 = some o := hq
        refine g_iload C 81 rfl dX9_deal_79 4 rfl ?_
        refine g_iload_n C 82 rfl dX9_deal_81 1 rfl ?_
        refine s_icmp_gt C 142 85 rfl dX9_deal_82 (by decide) hq (fun hq => ?_) (fun hq => ?_)
        · cases hq
          exact g_sub [3] rfl (E2 )
        refine g_aload_n C 86 rfl dX9_deal_85 0 rfl ?_
        refine g_iload C 88 rfl dX9_deal_86 4 rfl ?_
        obtain ⟨r7, hz8, hq⟩ := bindE hq
        refine g_callRV (rest := []) C 91 rfl dX9_deal_88 (c_X9_isOne Γ.2.1 Δ a x6 s hz8) mv_X9_isOne ml_X9_107 hK hP rfl rfl rfl rfl rfl ⟨Nat.le_of_ble_eq_true rfl, Nat.le_of_ble_eq_true rfl⟩ (Nat.le_of_ble_eq_true rfl) ⟨Nat.zero_le _, Nat.zero_le _⟩ ?_
        refine s_if_eq C 136 94 rfl dX9_deal_91 (by decide) hq (fun hq => ?_) (fun hq => ?_)
        · refine g_iinc (x6 + 1) [(6, .int (x6 + 1)), (0, .ref (a 0)), (3, .int x3), (4, .int x4), (5, .int x5)] C 139 rfl dX9_deal_136 4 rfl (ii_1 _) (Nat.le_of_ble_eq_true rfl) rfl ?_
          refine g_goto C 79 dX9_deal_139 (by decide) ?_
          exact g_sub [1, 2, 3, 4, 0] rfl (ih x4 x5 (x6 + 1) _ hq E2)
        refine g_iconst 0 C 95 rfl dX9_deal_94 ki_0 ?_
        refine g_istore [(5, .int 0), (0, .ref (a 0)), (3, .int x3), (4, .int x4), (6, .int x6)] C 97 rfl dX9_deal_95 (Nat.le_of_ble_eq_true rfl) rfl ?_
        have Q97 : ∀ (x3 : Int32) (x4 : Int32) (x6 : Int32), ∀ (n : Nat) (x5 : Int32) (o : (Int32)) (hq : lp_X9_deal_97 x3 x4 x6 s n x5 = some o) (E2 : g Γ { frames := 5, cells := 0, slots := 0, locals := 122 } 7 H L 0 0 129 [(0, .ref (a 0)), (3, .int x3), (4, .int x4), (5, .int o), (6, .int x6)] []), g Γ { frames := 5, cells := 0, slots := 0, locals := 122 } 7 H L 0 0 97 [(0, .ref (a 0)), (3, .int x3), (4, .int x4), (5, .int x5), (6, .int x6)] [] := by
          intro x3 x4 x6
          intro n
          induction n with
          | zero => intro x5 o hq; exact nomatch (show (none : Option (Int32)) = some o from hq)
          | succ n ih =>
            intro x5 o hq E2
            have hq : bd_X9_deal_97 x3 x4 x6 s (lp_X9_deal_97 x3 x4 x6 s n) x5 = some o := hq
            refine g_aload_n C 98 rfl dX9_deal_97 0 rfl ?_
            refine g_iload C 100 rfl dX9_deal_98 4 rfl ?_
            refine g_iload C 102 rfl dX9_deal_100 2 rfl ?_
            refine g_iload C 104 rfl dX9_deal_102 3 rfl ?_
            obtain ⟨r9, hz10, hq⟩ := bindE hq
            refine g_callRV (rest := []) C 107 rfl dX9_deal_104 (c_X9_slipsBy Γ.2.1 Δ a x6 x4 x5 s hz10) mv_X9_slipsBy ml_X9_261 hK hP rfl rfl rfl rfl rfl ⟨Nat.le_of_ble_eq_true rfl, Nat.le_of_ble_eq_true rfl⟩ (Nat.le_of_ble_eq_true rfl) ⟨Nat.zero_le _, Nat.zero_le _⟩ ?_
            refine g_aload_n C 108 rfl dX9_deal_107 0 rfl ?_
            refine g_get (v := .ref (a 18)) C 111 rfl dX9_deal_108 hK hP la_X9 0 31 (Nat.le_of_ble_eq_true rfl) fl_X9_61 rfl rfl rfl rfl ?_
            refine g_bipush 21 C 113 rfl dX9_deal_111 kb_21 ?_
            refine g_iload C 115 rfl dX9_deal_113 4 rfl ?_
            refine g_imul C 116 rfl dX9_deal_115 ?_
            refine g_iload C 118 rfl dX9_deal_116 2 rfl ?_
            refine g_iadd C 119 rfl dX9_deal_118 ?_
            refine s_iald C 120 rfl dX9_deal_119 hK hP 18 rfl hq (fun hq hi11 => ?_)
            refine s_icmp_eq C 129 123 rfl dX9_deal_120 (by decide) hq (fun hq => ?_) (fun hq => ?_)
            · cases hq
              exact g_sub [0, 1, 2, 3, 4] rfl (E2 )
            refine g_iinc (x5 + 1) [(5, .int (x5 + 1)), (0, .ref (a 0)), (3, .int x3), (4, .int x4), (6, .int x6)] C 126 rfl dX9_deal_123 3 rfl (ii_1 _) (Nat.le_of_ble_eq_true rfl) rfl ?_
            refine g_goto C 97 dX9_deal_126 (by decide) ?_
            exact g_sub [1, 2, 3, 0, 4] rfl (ih (x5 + 1) _ hq E2)
        obtain ⟨o12, ho13, hq⟩ := bindE hq
        refine g_sub [1, 2, 3, 0, 4] rfl (Q97 x3 x4 x6 FUEL 0 o12 ho13 (?_))
        refine g_iload C 131 rfl dX9_deal_129 2 rfl ?_
        refine g_iload C 133 rfl dX9_deal_131 3 rfl ?_
        refine g_isub C 134 rfl dX9_deal_133 ?_
        refine g_istore [(4, .int (x4 - o12)), (0, .ref (a 0)), (3, .int x3), (5, .int o12), (6, .int x6)] C 136 rfl dX9_deal_134 (Nat.le_of_ble_eq_true rfl) rfl ?_
        refine g_iinc (x6 + 1) [(6, .int (x6 + 1)), (4, .int (x4 - o12)), (0, .ref (a 0)), (3, .int x3), (5, .int o12)] C 139 rfl dX9_deal_136 4 rfl (ii_1 _) (Nat.le_of_ble_eq_true rfl) rfl ?_
        refine g_goto C 79 dX9_deal_139 (by decide) ?_
        exact g_sub [2, 3, 1, 4, 0] rfl (ih (x4 - o12) o12 (x6 + 1) _ hq E2)
    obtain ⟨o14, ho15, hq⟩ := bindE hq
    refine g_sub [3, 6, 2, 1, 0] rfl (Q79 x3 FUEL x1 0 0 o14 ho15 (?_))
    refine g_iload C 144 rfl dX9_deal_142 0 rfl ?_
    exact w_int (ws := fun s => cs9 a Δ s) hR hq hP hS dX9_deal_144 rfl rfl
  show g Γ { frames := 5, cells := 0, slots := 0, locals := 122 } 7 H [] 0 0 0 [(0, .ref (a 0)), (1, .int x1), (2, .int x2), (3, .int x3)] []
  refine g_iload_n C 1 rfl dX9_deal_0 3 rfl ?_
  refine g_iconst (-1) C 2 rfl dX9_deal_1 ki_m1 ?_
  refine s_icmp_eq C 15 5 rfl dX9_deal_2 (by decide) hq (fun hq => ?_) (fun hq => ?_)
  · exact g_sub [0, 1, 2, 3] rfl (K15 x1 x2 x3 s _ _ hP hD hS hq)
  refine g_aload_n C 6 rfl dX9_deal_5 0 rfl ?_
  refine g_iload_n C 7 rfl dX9_deal_6 3 rfl ?_
  obtain ⟨r17, hz18, hq⟩ := bindE hq
  refine g_callRV (rest := []) C 10 rfl dX9_deal_7 (c_X9_isOne Γ.2.1 Δ a x3 s hz18) mv_X9_isOne ml_X9_107 hK hP rfl rfl rfl rfl rfl ⟨Nat.le_of_ble_eq_true rfl, Nat.le_of_ble_eq_true rfl⟩ (Nat.le_of_ble_eq_true rfl) ⟨Nat.zero_le _, Nat.zero_le _⟩ ?_
  refine s_if_ne C 15 13 rfl dX9_deal_10 (by decide) hq (fun hq => ?_) (fun hq => ?_)
  · exact g_sub [0, 1, 2, 3] rfl (K15 x1 x2 x3 s _ _ hP hD hS hq)
  refine g_iconst (-1) C 14 rfl dX9_deal_13 ki_m1 ?_
  exact w_int (ws := fun s => cs9 a Δ s) hR hq hP hS dX9_deal_14 rfl rfl
set_option maxHeartbeats 4000000 in
set_option maxRecDepth 100000 in
theorem c_X9_maySit (l : Launch) (Δ : gD) (a : Nat → Nat) (x1 : Int32) (x2 : Int32) (x3 : Int32) (s : S9) {res : Int32} (hq : sem_X9_maySit x1 x2 x3 s = some res) : MR l yX9_maySit cX9_maySit 4 (some .boolean) Δ (cs9 a Δ s) [.ref (a 0), .int x1, .int x2, .int x3] 0 0 (.int res) := by
  refine MR.of (by decide) (Nat.le_of_ble_eq_true rfl) ?_
  intro Γ H hl C hK hP hR
  subst hl
  show g Γ { frames := 0, cells := 0, slots := 0, locals := 0 } 4 H [] 0 0 0 [(0, .ref (a 0)), (1, .int x1), (2, .int x2), (3, .int x3)] []
  refine g_aload_n C 1 rfl dX9_maySit_0 0 rfl ?_
  refine g_get (v := .ref (a 1)) C 4 rfl dX9_maySit_1 hK hP la_X9 0 3 (Nat.le_of_ble_eq_true rfl) fl_X9_7 rfl rfl rfl rfl ?_
  refine g_iload_n C 5 rfl dX9_maySit_4 1 rfl ?_
  refine s_iald C 6 rfl dX9_maySit_5 hK hP 1 rfl hq (fun hq hi1 => ?_)
  refine g_aload_n C 7 rfl dX9_maySit_6 0 rfl ?_
  refine g_get (v := .ref (a 1)) C 10 rfl dX9_maySit_7 hK hP la_X9 0 3 (Nat.le_of_ble_eq_true rfl) fl_X9_7 rfl rfl rfl rfl ?_
  refine g_iload_n C 11 rfl dX9_maySit_10 2 rfl ?_
  refine s_iald C 12 rfl dX9_maySit_11 hK hP 1 rfl hq (fun hq hi2 => ?_)
  refine g_iadd C 13 rfl dX9_maySit_12 ?_
  refine g_iload_n C 14 rfl dX9_maySit_13 3 rfl ?_
  refine s_icmp_gt C 21 17 rfl dX9_maySit_14 (by decide) hq (fun hq => ?_) (fun hq => ?_)
  · refine g_iconst 0 C 22 rfl dX9_maySit_21 ki_0 ?_
    exact r_int hR hq dX9_maySit_22 rfl rfl
  refine g_iconst 1 C 18 rfl dX9_maySit_17 ki_1 ?_
  refine g_goto C 22 dX9_maySit_18 (by decide) ?_
  exact r_int hR hq dX9_maySit_22 rfl rfl
set_option maxHeartbeats 4000000 in
set_option maxRecDepth 100000 in
theorem c_X9_waysFrom (l : Launch) (Δ : gD) (a : Nat → Nat) (x1 : Int32) (x2 : Int32) (x3 : Int32) (s : S9) {res : Int32} (hq : sem_X9_waysFrom x1 x2 x3 s = some res) : MR l yX9_waysFrom cX9_waysFrom 7 (some .int) Δ (cs9 a Δ s) [.ref (a 0), .int x1, .int x2, .int x3] 2 46 (.int res) := by
  refine MR.of (by decide) (Nat.le_of_ble_eq_true rfl) ?_
  intro Γ H hl C hK hP hR
  subst hl
  have K13 : ∀ (x1 : Int32) (x2 : Int32) (x3 : Int32) (y0 : Int32), jn_X9_waysFrom_13 x1 x2 x3 y0 s = some res → g Γ { frames := 2, cells := 0, slots := 0, locals := 46 } 7 H [] 0 0 13 [(0, .ref (a 0)), (1, .int x1), (2, .int x2), (3, .int x3)] [.int y0] := by
    intro x1 x2 x3 y0 hq
    refine g_istore [(4, .int y0), (0, .ref (a 0)), (1, .int x1), (2, .int x2), (3, .int x3)] C 15 rfl dX9_waysFrom_13 (Nat.le_of_ble_eq_true rfl) rfl ?_
    refine g_iconst 0 C 16 rfl dX9_waysFrom_15 ki_0 ?_
    refine g_istore [(5, .int 0), (4, .int y0), (0, .ref (a 0)), (1, .int x1), (2, .int x2), (3, .int x3)] C 18 rfl dX9_waysFrom_16 (Nat.le_of_ble_eq_true rfl) rfl ?_
    have Q18 : ∀ (x1 : Int32) (x2 : Int32) (x3 : Int32), ∀ (n : Nat) (x4 : Int32) (x5 : Int32) (o : (Int32)) (hq : lp_X9_waysFrom_18 x1 x2 x3 s n x4 x5 = some o) (E2 : g Γ { frames := 2, cells := 0, slots := 0, locals := 46 } 7 H [] 0 0 98 [(4, .int o)] []), g Γ { frames := 2, cells := 0, slots := 0, locals := 46 } 7 H [] 0 0 18 [(0, .ref (a 0)), (1, .int x1), (2, .int x2), (3, .int x3), (4, .int x4), (5, .int x5)] [] := by
      intro x1 x2 x3
      intro n
      induction n with
      | zero => intro x4 x5 o hq; exact nomatch (show (none : Option (Int32)) = some o from hq)
      | succ n ih =>
        intro x4 x5 o hq E2
        have hq : bd_X9_waysFrom_18 x1 x2 x3 s (lp_X9_waysFrom_18 x1 x2 x3 s n) x4 x5 = some o := hq
        have K59 : ∀ (x4 : Int32) (x5 : Int32) (y0 : Int32), jn_X9_waysFrom_59 (lp_X9_waysFrom_18 x1 x2 x3 s n) x1 x2 x3 x4 x5 y0 s = some o → g Γ { frames := 2, cells := 0, slots := 0, locals := 46 } 7 H [] 0 0 59 [(0, .ref (a 0)), (1, .int x1), (2, .int x2), (3, .int x3), (4, .int x4), (5, .int x5)] [.int y0] := by
          intro x4 x5 y0 hq
          refine g_istore [(6, .int y0), (0, .ref (a 0)), (1, .int x1), (2, .int x2), (3, .int x3), (4, .int x4), (5, .int x5)] C 61 rfl dX9_waysFrom_59 (Nat.le_of_ble_eq_true rfl) rfl ?_
          refine g_iload C 63 rfl dX9_waysFrom_61 5 rfl ?_
          refine g_iload C 65 rfl dX9_waysFrom_63 0 rfl ?_
          refine s_if_eq C 88 68 rfl dX9_waysFrom_65 (by decide) hq (fun hq => ?_) (fun hq => ?_)
          · refine g_iconst 0 C 89 rfl dX9_waysFrom_88 ki_0 ?_
            refine g_iadd C 90 rfl dX9_waysFrom_89 ?_
            refine g_istore [(4, .int (x4 + 0)), (6, .int y0), (0, .ref (a 0)), (1, .int x1), (2, .int x2), (3, .int x3), (5, .int x5)] C 92 rfl dX9_waysFrom_90 (Nat.le_of_ble_eq_true rfl) rfl ?_
            refine g_iinc (x5 + 1) [(5, .int (x5 + 1)), (4, .int (x4 + 0)), (6, .int y0), (0, .ref (a 0)), (1, .int x1), (2, .int x2), (3, .int x3)] C 95 rfl dX9_waysFrom_92 6 rfl (ii_1 _) (Nat.le_of_ble_eq_true rfl) rfl ?_
            refine g_goto C 18 dX9_waysFrom_95 (by decide) ?_
            exact g_sub [3, 4, 5, 6, 1, 0] rfl (ih (x4 + 0) (x5 + 1) _ hq E2)
          refine g_aload_n C 69 rfl dX9_waysFrom_68 1 rfl ?_
          refine g_get (v := .ref (a 19)) C 72 rfl dX9_waysFrom_69 hK hP la_X9 0 32 (Nat.le_of_ble_eq_true rfl) fl_X9_64 rfl rfl rfl rfl ?_
          refine g_bipush 6 C 74 rfl dX9_waysFrom_72 kb_6 ?_
          refine g_iload_n C 75 rfl dX9_waysFrom_74 2 rfl ?_
          refine g_iconst 1 C 76 rfl dX9_waysFrom_75 ki_1 ?_
          refine g_iload C 78 rfl dX9_waysFrom_76 6 rfl ?_
          refine g_ishl C 79 rfl dX9_waysFrom_78 ?_
          refine g_ior C 80 rfl dX9_waysFrom_79 ?_
          refine g_imul C 81 rfl dX9_waysFrom_80 ?_
          refine g_iload C 83 rfl dX9_waysFrom_81 6 rfl ?_
          refine g_iadd C 84 rfl dX9_waysFrom_83 ?_
          refine s_iald C 85 rfl dX9_waysFrom_84 hK hP 19 rfl hq (fun hq hi1 => ?_)
          refine g_goto C 89 dX9_waysFrom_85 (by decide) ?_
          refine g_iadd C 90 rfl dX9_waysFrom_89 ?_
          refine g_istore [(4, .int (x4 + ((x9_waysOn s) (((6 * (x1 ||| ((1 : Int32) <<< (x5 &&& 31)))) + x5) : Int32).toNatClampNeg))), (6, .int y0), (0, .ref (a 0)), (1, .int x1), (2, .int x2), (3, .int x3), (5, .int x5)] C 92 rfl dX9_waysFrom_90 (Nat.le_of_ble_eq_true rfl) rfl ?_
          refine g_iinc (x5 + 1) [(5, .int (x5 + 1)), (4, .int (x4 + ((x9_waysOn s) (((6 * (x1 ||| ((1 : Int32) <<< (x5 &&& 31)))) + x5) : Int32).toNatClampNeg))), (6, .int y0), (0, .ref (a 0)), (1, .int x1), (2, .int x2), (3, .int x3)] C 95 rfl dX9_waysFrom_92 6 rfl (ii_1 _) (Nat.le_of_ble_eq_true rfl) rfl ?_
          refine g_goto C 18 dX9_waysFrom_95 (by decide) ?_
          exact g_sub [3, 4, 5, 6, 1, 0] rfl (ih (x4 + ((x9_waysOn s) (((6 * (x1 ||| ((1 : Int32) <<< (x5 &&& 31)))) + x5) : Int32).toNatClampNeg)) (x5 + 1) _ hq E2)
        have K58 : ∀ (x4 : Int32) (x5 : Int32), jn_X9_waysFrom_58 (lp_X9_waysFrom_18 x1 x2 x3 s n) x1 x2 x3 x4 x5 s = some o → g Γ { frames := 2, cells := 0, slots := 0, locals := 46 } 7 H [] 0 0 58 [(0, .ref (a 0)), (1, .int x1), (2, .int x2), (3, .int x3), (4, .int x4), (5, .int x5)] [] := by
          intro x4 x5 hq
          refine g_iconst 0 C 59 rfl dX9_waysFrom_58 ki_0 ?_
          exact g_sub [0, 1, 2, 3, 4, 5] rfl (K59 x4 x5 0 hq)
        refine g_iload C 20 rfl dX9_waysFrom_18 5 rfl ?_
        refine g_bipush 6 C 22 rfl dX9_waysFrom_20 kb_6 ?_
        refine s_icmp_ge C 98 25 rfl dX9_waysFrom_22 (by decide) hq (fun hq => ?_) (fun hq => ?_)
        · cases hq
          exact g_sub [4] rfl (E2 )
        refine g_aload_n C 26 rfl dX9_waysFrom_25 0 rfl ?_
        refine g_iload C 28 rfl dX9_waysFrom_26 5 rfl ?_
        obtain ⟨r2, hz3, hq⟩ := bindE hq
        refine g_callRV (rest := []) C 31 rfl dX9_waysFrom_28 (c_X9_isOne Γ.2.1 Δ a x5 s hz3) mv_X9_isOne ml_X9_107 hK hP rfl rfl rfl rfl rfl ⟨Nat.le_of_ble_eq_true rfl, Nat.le_of_ble_eq_true rfl⟩ (Nat.le_of_ble_eq_true rfl) ⟨Nat.zero_le _, Nat.zero_le _⟩ ?_
        refine s_if_eq C 58 34 rfl dX9_waysFrom_31 (by decide) hq (fun hq => ?_) (fun hq => ?_)
        · exact g_sub [0, 1, 2, 3, 4, 5] rfl (K58 x4 x5 hq)
        refine g_iload_n C 35 rfl dX9_waysFrom_34 1 rfl ?_
        refine g_iload C 37 rfl dX9_waysFrom_35 5 rfl ?_
        refine g_ishr C 38 rfl dX9_waysFrom_37 ?_
        refine g_iconst 1 C 39 rfl dX9_waysFrom_38 ki_1 ?_
        refine g_iand C 40 rfl dX9_waysFrom_39 ?_
        refine s_if_ne C 58 43 rfl dX9_waysFrom_40 (by decide) hq (fun hq => ?_) (fun hq => ?_)
        · exact g_sub [0, 1, 2, 3, 4, 5] rfl (K58 x4 x5 hq)
        refine g_aload_n C 44 rfl dX9_waysFrom_43 0 rfl ?_
        refine g_iload_n C 45 rfl dX9_waysFrom_44 2 rfl ?_
        refine g_iload C 47 rfl dX9_waysFrom_45 5 rfl ?_
        refine g_iload_n C 48 rfl dX9_waysFrom_47 3 rfl ?_
        obtain ⟨r4, hz5, hq⟩ := bindE hq
        refine g_callRV (rest := []) C 51 rfl dX9_waysFrom_48 (c_X9_maySit Γ.2.1 Δ a x2 x5 x3 s hz5) mv_X9_maySit ml_X9_270 hK hP rfl rfl rfl rfl rfl ⟨Nat.le_of_ble_eq_true rfl, Nat.le_of_ble_eq_true rfl⟩ (Nat.le_of_ble_eq_true rfl) ⟨Nat.zero_le _, Nat.zero_le _⟩ ?_
        refine s_if_eq C 58 54 rfl dX9_waysFrom_51 (by decide) hq (fun hq => ?_) (fun hq => ?_)
        · exact g_sub [0, 1, 2, 3, 4, 5] rfl (K58 x4 x5 hq)
        refine g_iconst 1 C 55 rfl dX9_waysFrom_54 ki_1 ?_
        refine g_goto C 59 dX9_waysFrom_55 (by decide) ?_
        exact g_sub [0, 1, 2, 3, 4, 5] rfl (K59 x4 x5 1 hq)
    obtain ⟨o6, ho7, hq⟩ := bindE hq
    refine g_sub [2, 3, 4, 5, 1, 0] rfl (Q18 x1 x2 x3 FUEL y0 0 o6 ho7 (?_))
    refine g_iload C 100 rfl dX9_waysFrom_98 0 rfl ?_
    exact r_int hR hq dX9_waysFrom_100 rfl rfl
  show g Γ { frames := 2, cells := 0, slots := 0, locals := 46 } 7 H [] 0 0 0 [(0, .ref (a 0)), (1, .int x1), (2, .int x2), (3, .int x3)] []
  refine g_iload_n C 1 rfl dX9_waysFrom_0 1 rfl ?_
  refine g_aload_n C 2 rfl dX9_waysFrom_1 0 rfl ?_
  refine g_get (v := .int (x9_there s)) C 5 rfl dX9_waysFrom_2 hK hP la_X9 0 0 (Nat.le_of_ble_eq_true rfl) fl_X9_94 rfl rfl rfl rfl ?_
  refine s_icmp_ne C 12 8 rfl dX9_waysFrom_5 (by decide) hq (fun hq => ?_) (fun hq => ?_)
  · refine g_iconst 0 C 13 rfl dX9_waysFrom_12 ki_0 ?_
    exact g_sub [0, 1, 2, 3] rfl (K13 x1 x2 x3 0 hq)
  refine g_iconst 1 C 9 rfl dX9_waysFrom_8 ki_1 ?_
  refine g_goto C 13 dX9_waysFrom_9 (by decide) ?_
  exact g_sub [0, 1, 2, 3] rfl (K13 x1 x2 x3 1 hq)
set_option maxHeartbeats 4000000 in
set_option maxRecDepth 100000 in
theorem c_X9_firstSeats (l : Launch) (Δ : gD) (a : Nat → Nat) (x1 : Int32) (s : S9) {res : Int32} (hq : sem_X9_firstSeats x1 s = some res) : MR l yX9_firstSeats cX9_firstSeats 8 (some .int) Δ (cs9 a Δ s) [.ref (a 0), .int x1] 2 46 (.int res) := by
  refine MR.of (by decide) (Nat.le_of_ble_eq_true rfl) ?_
  intro Γ H hl C hK hP hR
  subst hl
  show g Γ { frames := 2, cells := 0, slots := 0, locals := 46 } 8 H [] 0 0 0 [(0, .ref (a 0)), (1, .int x1)] []
  refine g_iconst 0 C 1 rfl dX9_firstSeats_0 ki_0 ?_
  refine g_istore_n [(2, .int 0), (0, .ref (a 0)), (1, .int x1)] C 2 rfl dX9_firstSeats_1 (Nat.le_of_ble_eq_true rfl) rfl ?_
  refine g_iconst 0 C 3 rfl dX9_firstSeats_2 ki_0 ?_
  refine g_istore_n [(3, .int 0), (2, .int 0), (0, .ref (a 0)), (1, .int x1)] C 4 rfl dX9_firstSeats_3 (Nat.le_of_ble_eq_true rfl) rfl ?_
  refine g_bipush (-6) C 6 rfl dX9_firstSeats_4 kb_m6 ?_
  refine g_istore [(4, .int (-6)), (3, .int 0), (2, .int 0), (0, .ref (a 0)), (1, .int x1)] C 8 rfl dX9_firstSeats_6 (Nat.le_of_ble_eq_true rfl) rfl ?_
  have Q8 : ∀ (x1 : Int32), ∀ (n : Nat) (x2 : Int32) (x3 : Int32) (x4 : Int32) (o : ((Int32) ⊕ (Int32))) (hq : lp_X9_firstSeats_8 x1 s n x2 x3 x4 = some o) (E1 : ∀ r, o = .inl r → gRet Γ { frames := 2, cells := 0, slots := 0, locals := 46 } 8 cX9_firstSeats (some .int) H (.int r)) (E2 : ∀ x, o = .inr x → g Γ { frames := 2, cells := 0, slots := 0, locals := 46 } 8 H [] 0 0 140 [(2, .int x)] []), g Γ { frames := 2, cells := 0, slots := 0, locals := 46 } 8 H [] 0 0 8 [(0, .ref (a 0)), (1, .int x1), (2, .int x2), (3, .int x3), (4, .int x4)] [] := by
    intro x1
    intro n
    induction n with
    | zero => intro x2 x3 x4 o hq; exact nomatch (show (none : Option ((Int32) ⊕ (Int32))) = some o from hq)
    | succ n ih =>
      intro x2 x3 x4 o hq E1 E2
      have hq : bd_X9_firstSeats_8 x1 s (lp_X9_firstSeats_8 x1 s n) x2 x3 x4 = some o := hq
      refine g_iload_n C 9 rfl dX9_firstSeats_8 3 rfl ?_
      refine g_aload_n C 10 rfl dX9_firstSeats_9 0 rfl ?_
      refine g_get (v := .int (x9_there s)) C 13 rfl dX9_firstSeats_10 hK hP la_X9 0 0 (Nat.le_of_ble_eq_true rfl) fl_X9_94 rfl rfl rfl rfl ?_
      refine s_icmp_eq C 140 16 rfl dX9_firstSeats_13 (by decide) hq (fun hq => ?_) (fun hq => ?_)
      · cases hq
        exact g_sub [2] rfl (E2 _ rfl )
      refine g_bipush (-6) C 18 rfl dX9_firstSeats_16 kb_m6 ?_
      refine g_istore [(5, .int (-6)), (0, .ref (a 0)), (1, .int x1), (2, .int x2), (3, .int x3), (4, .int x4)] C 20 rfl dX9_firstSeats_18 (Nat.le_of_ble_eq_true rfl) rfl ?_
      refine g_iconst 5 C 21 rfl dX9_firstSeats_20 ki_5 ?_
      refine g_istore [(6, .int 5), (5, .int (-6)), (0, .ref (a 0)), (1, .int x1), (2, .int x2), (3, .int x3), (4, .int x4)] C 23 rfl dX9_firstSeats_21 (Nat.le_of_ble_eq_true rfl) rfl ?_
      have Q23 : ∀ (x1 : Int32) (x2 : Int32) (x3 : Int32) (x4 : Int32), ∀ (n : Nat) (x5 : Int32) (x6 : Int32) (o : (Int32)) (hq : lp_X9_firstSeats_23 x1 x2 x3 x4 s n x5 x6 = some o) (E2 : g Γ { frames := 2, cells := 0, slots := 0, locals := 46 } 8 H [] 0 0 110 [(0, .ref (a 0)), (1, .int x1), (2, .int x2), (3, .int x3), (5, .int o)] []), g Γ { frames := 2, cells := 0, slots := 0, locals := 46 } 8 H [] 0 0 23 [(0, .ref (a 0)), (1, .int x1), (2, .int x2), (3, .int x3), (4, .int x4), (5, .int x5), (6, .int x6)] [] := by
        intro x1 x2 x3 x4
        intro n
        induction n with
        | zero => intro x5 x6 o hq; exact nomatch (show (none : Option (Int32)) = some o from hq)
        | succ n ih =>
          intro x5 x6 o hq E2
          have hq : bd_X9_firstSeats_23 x1 x2 x3 x4 s (lp_X9_firstSeats_23 x1 x2 x3 x4 s n) x5 x6 = some o := hq
          have K68 : ∀ (x5 : Int32) (x6 : Int32) (y0 : Int32), jn_X9_firstSeats_68 (lp_X9_firstSeats_23 x1 x2 x3 x4 s n) x1 x2 x3 x4 x5 x6 y0 s = some o → g Γ { frames := 2, cells := 0, slots := 0, locals := 46 } 8 H [] 0 0 68 [(0, .ref (a 0)), (1, .int x1), (2, .int x2), (3, .int x3), (4, .int x4), (5, .int x5), (6, .int x6)] [.int y0] := by
            intro x5 x6 y0 hq
            refine g_istore [(7, .int y0), (0, .ref (a 0)), (1, .int x1), (2, .int x2), (3, .int x3), (4, .int x4), (5, .int x5), (6, .int x6)] C 70 rfl dX9_firstSeats_68 (Nat.le_of_ble_eq_true rfl) rfl ?_
            refine g_iload C 72 rfl dX9_firstSeats_70 0 rfl ?_
            refine s_if_eq C 100 75 rfl dX9_firstSeats_72 (by decide) hq (fun hq => ?_) (fun hq => ?_)
            · refine g_iload C 102 rfl dX9_firstSeats_100 6 rfl ?_
              refine g_istore [(5, .int x5), (7, .int y0), (0, .ref (a 0)), (1, .int x1), (2, .int x2), (3, .int x3), (4, .int x4), (6, .int x6)] C 104 rfl dX9_firstSeats_102 (Nat.le_of_ble_eq_true rfl) rfl ?_
              refine g_iinc (x6 - 1) [(6, .int (x6 - 1)), (5, .int x5), (7, .int y0), (0, .ref (a 0)), (1, .int x1), (2, .int x2), (3, .int x3), (4, .int x4)] C 107 rfl dX9_firstSeats_104 7 rfl (ii_m1 _) (Nat.le_of_ble_eq_true rfl) rfl ?_
              refine g_goto C 23 dX9_firstSeats_107 (by decide) ?_
              exact g_sub [3, 4, 5, 6, 7, 1, 0] rfl (ih x5 (x6 - 1) _ hq E2)
            refine g_aload_n C 76 rfl dX9_firstSeats_75 1 rfl ?_
            refine g_get (v := .ref (a 19)) C 79 rfl dX9_firstSeats_76 hK hP la_X9 0 32 (Nat.le_of_ble_eq_true rfl) fl_X9_64 rfl rfl rfl rfl ?_
            refine g_bipush 6 C 81 rfl dX9_firstSeats_79 kb_6 ?_
            refine g_iload_n C 82 rfl dX9_firstSeats_81 4 rfl ?_
            refine g_iconst 1 C 83 rfl dX9_firstSeats_82 ki_1 ?_
            refine g_iload C 85 rfl dX9_firstSeats_83 7 rfl ?_
            refine g_ishl C 86 rfl dX9_firstSeats_85 ?_
            refine g_ior C 87 rfl dX9_firstSeats_86 ?_
            refine g_imul C 88 rfl dX9_firstSeats_87 ?_
            refine g_iload C 90 rfl dX9_firstSeats_88 7 rfl ?_
            refine g_iadd C 91 rfl dX9_firstSeats_90 ?_
            refine s_iald C 92 rfl dX9_firstSeats_91 hK hP 19 rfl hq (fun hq hi1 => ?_)
            refine s_if_le C 100 95 rfl dX9_firstSeats_92 (by decide) hq (fun hq => ?_) (fun hq => ?_)
            · refine g_iload C 102 rfl dX9_firstSeats_100 6 rfl ?_
              refine g_istore [(5, .int x5), (7, .int y0), (0, .ref (a 0)), (1, .int x1), (2, .int x2), (3, .int x3), (4, .int x4), (6, .int x6)] C 104 rfl dX9_firstSeats_102 (Nat.le_of_ble_eq_true rfl) rfl ?_
              refine g_iinc (x6 - 1) [(6, .int (x6 - 1)), (5, .int x5), (7, .int y0), (0, .ref (a 0)), (1, .int x1), (2, .int x2), (3, .int x3), (4, .int x4)] C 107 rfl dX9_firstSeats_104 7 rfl (ii_m1 _) (Nat.le_of_ble_eq_true rfl) rfl ?_
              refine g_goto C 23 dX9_firstSeats_107 (by decide) ?_
              exact g_sub [3, 4, 5, 6, 7, 1, 0] rfl (ih x5 (x6 - 1) _ hq E2)
            refine g_iload C 97 rfl dX9_firstSeats_95 7 rfl ?_
            refine g_goto C 102 dX9_firstSeats_97 (by decide) ?_
            refine g_istore [(5, .int x6), (7, .int y0), (0, .ref (a 0)), (1, .int x1), (2, .int x2), (3, .int x3), (4, .int x4), (6, .int x6)] C 104 rfl dX9_firstSeats_102 (Nat.le_of_ble_eq_true rfl) rfl ?_
            refine g_iinc (x6 - 1) [(6, .int (x6 - 1)), (5, .int x6), (7, .int y0), (0, .ref (a 0)), (1, .int x1), (2, .int x2), (3, .int x3), (4, .int x4)] C 107 rfl dX9_firstSeats_104 7 rfl (ii_m1 _) (Nat.le_of_ble_eq_true rfl) rfl ?_
            refine g_goto C 23 dX9_firstSeats_107 (by decide) ?_
            exact g_sub [3, 4, 5, 6, 7, 1, 0] rfl (ih x6 (x6 - 1) _ hq E2)
          have K67 : ∀ (x5 : Int32) (x6 : Int32), jn_X9_firstSeats_67 (lp_X9_firstSeats_23 x1 x2 x3 x4 s n) x1 x2 x3 x4 x5 x6 s = some o → g Γ { frames := 2, cells := 0, slots := 0, locals := 46 } 8 H [] 0 0 67 [(0, .ref (a 0)), (1, .int x1), (2, .int x2), (3, .int x3), (4, .int x4), (5, .int x5), (6, .int x6)] [] := by
            intro x5 x6 hq
            refine g_iconst 0 C 68 rfl dX9_firstSeats_67 ki_0 ?_
            exact g_sub [0, 1, 2, 3, 4, 5, 6] rfl (K68 x5 x6 0 hq)
          have K63 : ∀ (x5 : Int32) (x6 : Int32), jn_X9_firstSeats_63 (lp_X9_firstSeats_23 x1 x2 x3 x4 s n) x1 x2 x3 x4 x5 x6 s = some o → g Γ { frames := 2, cells := 0, slots := 0, locals := 46 } 8 H [] 0 0 63 [(0, .ref (a 0)), (1, .int x1), (2, .int x2), (3, .int x3), (4, .int x4), (5, .int x5), (6, .int x6)] [] := by
            intro x5 x6 hq
            refine g_iconst 1 C 64 rfl dX9_firstSeats_63 ki_1 ?_
            refine g_goto C 68 dX9_firstSeats_64 (by decide) ?_
            exact g_sub [0, 1, 2, 3, 4, 5, 6] rfl (K68 x5 x6 1 hq)
          refine g_iload C 25 rfl dX9_firstSeats_23 6 rfl ?_
          refine s_if_lt C 110 28 rfl dX9_firstSeats_25 (by decide) hq (fun hq => ?_) (fun hq => ?_)
          · cases hq
            exact g_sub [0, 1, 2, 3, 5] rfl (E2 )
          refine g_aload_n C 29 rfl dX9_firstSeats_28 0 rfl ?_
          refine g_iload C 31 rfl dX9_firstSeats_29 6 rfl ?_
          obtain ⟨r2, hz3, hq⟩ := bindE hq
          refine g_callRV (rest := []) C 34 rfl dX9_firstSeats_31 (c_X9_isOne Γ.2.1 Δ a x6 s hz3) mv_X9_isOne ml_X9_107 hK hP rfl rfl rfl rfl rfl ⟨Nat.le_of_ble_eq_true rfl, Nat.le_of_ble_eq_true rfl⟩ (Nat.le_of_ble_eq_true rfl) ⟨Nat.zero_le _, Nat.zero_le _⟩ ?_
          refine s_if_eq C 67 37 rfl dX9_firstSeats_34 (by decide) hq (fun hq => ?_) (fun hq => ?_)
          · exact g_sub [0, 1, 2, 3, 4, 5, 6] rfl (K67 x5 x6 hq)
          refine g_iload_n C 38 rfl dX9_firstSeats_37 3 rfl ?_
          refine g_iload C 40 rfl dX9_firstSeats_38 6 rfl ?_
          refine g_ishr C 41 rfl dX9_firstSeats_40 ?_
          refine g_iconst 1 C 42 rfl dX9_firstSeats_41 ki_1 ?_
          refine g_iand C 43 rfl dX9_firstSeats_42 ?_
          refine s_if_ne C 67 46 rfl dX9_firstSeats_43 (by decide) hq (fun hq => ?_) (fun hq => ?_)
          · exact g_sub [0, 1, 2, 3, 4, 5, 6] rfl (K67 x5 x6 hq)
          refine g_iload C 48 rfl dX9_firstSeats_46 4 rfl ?_
          refine s_if_lt C 63 51 rfl dX9_firstSeats_48 (by decide) hq (fun hq => ?_) (fun hq => ?_)
          · exact g_sub [0, 1, 2, 3, 4, 5, 6] rfl (K63 x5 x6 hq)
          refine g_aload_n C 52 rfl dX9_firstSeats_51 0 rfl ?_
          refine g_iload C 54 rfl dX9_firstSeats_52 4 rfl ?_
          refine g_iload C 56 rfl dX9_firstSeats_54 6 rfl ?_
          refine g_iload_n C 57 rfl dX9_firstSeats_56 1 rfl ?_
          obtain ⟨r4, hz5, hq⟩ := bindE hq
          refine g_callRV (rest := []) C 60 rfl dX9_firstSeats_57 (c_X9_maySit Γ.2.1 Δ a x4 x6 x1 s hz5) mv_X9_maySit ml_X9_270 hK hP rfl rfl rfl rfl rfl ⟨Nat.le_of_ble_eq_true rfl, Nat.le_of_ble_eq_true rfl⟩ (Nat.le_of_ble_eq_true rfl) ⟨Nat.zero_le _, Nat.zero_le _⟩ ?_
          refine s_if_eq C 67 63 rfl dX9_firstSeats_60 (by decide) hq (fun hq => ?_) (fun hq => ?_)
          · exact g_sub [0, 1, 2, 3, 4, 5, 6] rfl (K67 x5 x6 hq)
          exact g_sub [0, 1, 2, 3, 4, 5, 6] rfl (K63 x5 x6 hq)
      obtain ⟨o6, ho7, hq⟩ := bindE hq
      refine g_sub [2, 3, 4, 5, 6, 1, 0] rfl (Q23 x1 x2 x3 x4 FUEL (-6) 5 o6 ho7 (?_))
      refine g_iload C 112 rfl dX9_firstSeats_110 4 rfl ?_
      refine s_if_ge C 118 115 rfl dX9_firstSeats_112 (by decide) hq (fun hq => ?_) (fun hq => ?_)
      rotate_left
      · refine g_bipush (-6) C 117 rfl dX9_firstSeats_115 kb_m6 ?_
        cases hq
        exact r_int (E1 _ rfl) rfl dX9_firstSeats_117 rfl rfl
      refine g_iload_n C 119 rfl dX9_firstSeats_118 3 rfl ?_
      refine g_iconst 1 C 120 rfl dX9_firstSeats_119 ki_1 ?_
      refine g_iload C 122 rfl dX9_firstSeats_120 4 rfl ?_
      refine g_ishl C 123 rfl dX9_firstSeats_122 ?_
      refine g_ior C 124 rfl dX9_firstSeats_123 ?_
      refine g_istore_n [(3, .int (x3 ||| ((1 : Int32) <<< (o6 &&& 31)))), (0, .ref (a 0)), (1, .int x1), (2, .int x2), (5, .int o6)] C 125 rfl dX9_firstSeats_124 (Nat.le_of_ble_eq_true rfl) rfl ?_
      refine g_iload C 127 rfl dX9_firstSeats_125 4 rfl ?_
      refine g_istore [(4, .int o6), (3, .int (x3 ||| ((1 : Int32) <<< (o6 &&& 31)))), (0, .ref (a 0)), (1, .int x1), (2, .int x2), (5, .int o6)] C 129 rfl dX9_firstSeats_127 (Nat.le_of_ble_eq_true rfl) rfl ?_
      refine g_bipush 10 C 131 rfl dX9_firstSeats_129 kb_10 ?_
      refine g_iload_n C 132 rfl dX9_firstSeats_131 4 rfl ?_
      refine g_imul C 133 rfl dX9_firstSeats_132 ?_
      refine g_iload C 135 rfl dX9_firstSeats_133 5 rfl ?_
      refine g_iadd C 136 rfl dX9_firstSeats_135 ?_
      refine g_istore_n [(2, .int ((10 * x2) + o6)), (4, .int o6), (3, .int (x3 ||| ((1 : Int32) <<< (o6 &&& 31)))), (0, .ref (a 0)), (1, .int x1), (5, .int o6)] C 137 rfl dX9_firstSeats_136 (Nat.le_of_ble_eq_true rfl) rfl ?_
      refine g_goto C 8 dX9_firstSeats_137 (by decide) ?_
      exact g_sub [3, 4, 0, 2, 1] rfl (ih ((10 * x2) + o6) (x3 ||| ((1 : Int32) <<< (o6 &&& 31))) o6 _ hq E1 E2)
  obtain ⟨o8, ho9, hq⟩ := bindE hq
  refine g_sub [3, 4, 2, 1, 0] rfl (Q8 x1 FUEL 0 0 (-6) o8 ho9 (fun r er => ?_) (fun xo8 er => ?_))
  · rw [er] at hq
    cases hq
    exact hR
  rw [er] at hq
  clear er
  refine g_iload_n C 141 rfl dX9_firstSeats_140 0 rfl ?_
  exact r_int hR hq dX9_firstSeats_141 rfl rfl
set_option maxHeartbeats 4000000 in
set_option maxRecDepth 100000 in
theorem c_X9_seats (l : Launch) (Δ : gD) (a : Nat → Nat) (x1 : Int32) (x2 : Int32) (s : S9) {res : Int32 × S9} (hq : sem_X9_seats x1 x2 s = some res) : MW l yX9_seats cX9_seats 6 (some .int) Δ (cs9 a Δ s) [.ref (a 0), .int x1, .int x2] 3 73 (some (.int res.1)) (cs9 a Δ res.2) := by
  refine MW.of (by decide) (Nat.le_of_ble_eq_true rfl) ?_
  intro Γ A H hl C hK hP hD hS hA hR
  subst hl
  have K134 : ∀ (y0 : Int32) (s : S9) (H : Heap) (L : List Loc) (hP : va_P Δ.1 classes (cs9 a Δ s) H) (hD : va_D A (cs9 a Δ s)) (hS : va_S A (sOf Γ).heap H L), jn_X9_seats_134 y0 s = some res → g Γ { frames := 3, cells := 0, slots := 0, locals := 73 } 6 H L 0 0 134 [(0, .ref (a 0))] [.int y0] := by
    intro y0 s H L hP hD hS hq
    refine g_istore_n [(3, .int y0), (0, .ref (a 0))] C 135 rfl dX9_seats_134 (Nat.le_of_ble_eq_true rfl) rfl ?_
    refine g_iconst 0 C 136 rfl dX9_seats_135 ki_0 ?_
    refine g_istore [(4, .int 0), (3, .int y0), (0, .ref (a 0))] C 138 rfl dX9_seats_136 (Nat.le_of_ble_eq_true rfl) rfl ?_
    have Q138 : ∀ (n : Nat) (x3 : Int32) (x4 : Int32) (o : (Int32)) (hq : lp_X9_seats_138 s n x3 x4 = some o) (E2 : g Γ { frames := 3, cells := 0, slots := 0, locals := 73 } 6 H L 0 0 182 [(3, .int o)] []), g Γ { frames := 3, cells := 0, slots := 0, locals := 73 } 6 H L 0 0 138 [(0, .ref (a 0)), (3, .int x3), (4, .int x4)] [] := by
      intro n
      induction n with
      | zero => intro x3 x4 o hq; exact nomatch (show (none : Option (Int32)) = some o from hq)
      | succ n ih =>
        intro x3 x4 o hq E2
        have hq : bd_X9_seats_138 s (lp_X9_seats_138 s n) x3 x4 = some o := hq
        refine g_iload C 140 rfl dX9_seats_138 2 rfl ?_
        refine g_bipush 6 C 142 rfl dX9_seats_140 kb_6 ?_
        refine s_icmp_ge C 182 145 rfl dX9_seats_142 (by decide) hq (fun hq => ?_) (fun hq => ?_)
        · cases hq
          exact g_sub [1] rfl (E2 )
        refine g_iload_n C 146 rfl dX9_seats_145 1 rfl ?_
        refine g_aload_n C 147 rfl dX9_seats_146 0 rfl ?_
        refine g_iload C 149 rfl dX9_seats_147 2 rfl ?_
        obtain ⟨r1, hz2, hq⟩ := bindE hq
        refine g_callRV (rest := [.int x3]) C 152 rfl dX9_seats_149 (c_X9_isOne Γ.2.1 Δ a x4 s hz2) mv_X9_isOne ml_X9_107 hK hP rfl rfl rfl rfl rfl ⟨Nat.le_of_ble_eq_true rfl, Nat.le_of_ble_eq_true rfl⟩ (Nat.le_of_ble_eq_true rfl) ⟨Nat.zero_le _, Nat.zero_le _⟩ ?_
        refine s_if_eq C 173 155 rfl dX9_seats_152 (by decide) hq (fun hq => ?_) (fun hq => ?_)
        · refine g_iconst 0 C 174 rfl dX9_seats_173 ki_0 ?_
          refine g_iadd C 175 rfl dX9_seats_174 ?_
          refine g_istore_n [(3, .int (x3 + 0)), (0, .ref (a 0)), (4, .int x4)] C 176 rfl dX9_seats_175 (Nat.le_of_ble_eq_true rfl) rfl ?_
          refine g_iinc (x4 + 1) [(4, .int (x4 + 1)), (3, .int (x3 + 0)), (0, .ref (a 0))] C 179 rfl dX9_seats_176 2 rfl (ii_1 _) (Nat.le_of_ble_eq_true rfl) rfl ?_
          refine g_goto C 138 dX9_seats_179 (by decide) ?_
          exact g_sub [2, 1, 0] rfl (ih (x3 + 0) (x4 + 1) _ hq E2)
        refine g_aload_n C 156 rfl dX9_seats_155 0 rfl ?_
        refine g_get (v := .ref (a 19)) C 159 rfl dX9_seats_156 hK hP la_X9 0 32 (Nat.le_of_ble_eq_true rfl) fl_X9_64 rfl rfl rfl rfl ?_
        refine g_bipush 6 C 161 rfl dX9_seats_159 kb_6 ?_
        refine g_iconst 1 C 162 rfl dX9_seats_161 ki_1 ?_
        refine g_iload C 164 rfl dX9_seats_162 2 rfl ?_
        refine g_ishl C 165 rfl dX9_seats_164 ?_
        refine g_imul C 166 rfl dX9_seats_165 ?_
        refine g_iload C 168 rfl dX9_seats_166 2 rfl ?_
        refine g_iadd C 169 rfl dX9_seats_168 ?_
        refine s_iald C 170 rfl dX9_seats_169 hK hP 19 rfl hq (fun hq hi3 => ?_)
        refine g_goto C 174 dX9_seats_170 (by decide) ?_
        refine g_iadd C 175 rfl dX9_seats_174 ?_
        refine g_istore_n [(3, .int (x3 + ((x9_waysOn s) (((6 * ((1 : Int32) <<< (x4 &&& 31))) + x4) : Int32).toNatClampNeg))), (0, .ref (a 0)), (4, .int x4)] C 176 rfl dX9_seats_175 (Nat.le_of_ble_eq_true rfl) rfl ?_
        refine g_iinc (x4 + 1) [(4, .int (x4 + 1)), (3, .int (x3 + ((x9_waysOn s) (((6 * ((1 : Int32) <<< (x4 &&& 31))) + x4) : Int32).toNatClampNeg))), (0, .ref (a 0))] C 179 rfl dX9_seats_176 2 rfl (ii_1 _) (Nat.le_of_ble_eq_true rfl) rfl ?_
        refine g_goto C 138 dX9_seats_179 (by decide) ?_
        exact g_sub [2, 1, 0] rfl (ih (x3 + ((x9_waysOn s) (((6 * ((1 : Int32) <<< (x4 &&& 31))) + x4) : Int32).toNatClampNeg)) (x4 + 1) _ hq E2)
    obtain ⟨o4, ho5, hq⟩ := bindE hq
    refine g_sub [2, 1, 0] rfl (Q138  FUEL y0 0 o4 ho5 (?_))
    refine g_iload_n C 183 rfl dX9_seats_182 0 rfl ?_
    exact w_int (ws := fun s => cs9 a Δ s) hR hq hP hS dX9_seats_183 rfl rfl
  show g Γ { frames := 3, cells := 0, slots := 0, locals := 73 } 6 H [] 0 0 0 [(0, .ref (a 0)), (1, .int x1), (2, .int x2)] []
  refine g_iload_n C 1 rfl dX9_seats_0 1 rfl ?_
  refine g_i2l C 2 rfl dX9_seats_1 ?_
  refine g_lconst 0 C 3 rfl dX9_seats_2 kl_0 ?_
  refine g_ldc2 40 C 6 rfl dX9_seats_3 k_X9_274 ?_
  obtain ⟨r6, hz7, hq⟩ := bindE hq
  refine g_callRS (rest := []) C 9 rfl dX9_seats_6 (c_X9_in Γ.2.1 Δ  (Int32.toInt64 x1) 0 40  hz7) mv_X9_in (Or.inl ml_X9_90) hK rfl rfl ⟨Nat.le_of_ble_eq_true rfl, Nat.le_of_ble_eq_true rfl⟩ (Nat.le_of_ble_eq_true rfl) ⟨Nat.zero_le _, Nat.zero_le _⟩ ?_
  refine s_if_eq C 22 12 rfl dX9_seats_9 (by decide) hq (fun hq => ?_) (fun hq => ?_)
  · refine g_bipush (-2) C 24 rfl dX9_seats_22 kb_m2 ?_
    exact w_int (ws := fun s => cs9 a Δ s) hR hq hP hS dX9_seats_24 rfl rfl
  refine g_iload_n C 13 rfl dX9_seats_12 2 rfl ?_
  refine g_i2l C 14 rfl dX9_seats_13 ?_
  refine g_lconst 0 C 15 rfl dX9_seats_14 kl_0 ?_
  refine g_lconst 1 C 16 rfl dX9_seats_15 kl_1 ?_
  obtain ⟨r8, hz9, hq⟩ := bindE hq
  refine g_callRS (rest := []) C 19 rfl dX9_seats_16 (c_X9_in Γ.2.1 Δ  (Int32.toInt64 x2) 0 1  hz9) mv_X9_in (Or.inl ml_X9_90) hK rfl rfl ⟨Nat.le_of_ble_eq_true rfl, Nat.le_of_ble_eq_true rfl⟩ (Nat.le_of_ble_eq_true rfl) ⟨Nat.zero_le _, Nat.zero_le _⟩ ?_
  refine s_if_ne C 25 22 rfl dX9_seats_19 (by decide) hq (fun hq => ?_) (fun hq => ?_)
  rotate_left
  · refine g_bipush (-2) C 24 rfl dX9_seats_22 kb_m2 ?_
    exact w_int (ws := fun s => cs9 a Δ s) hR hq hP hS dX9_seats_24 rfl rfl
  refine g_bipush 63 C 27 rfl dX9_seats_25 kb_63 ?_
  refine g_istore_n [(3, .int 63), (0, .ref (a 0)), (1, .int x1), (2, .int x2)] C 28 rfl dX9_seats_27 (Nat.le_of_ble_eq_true rfl) rfl ?_
  have Q28 : ∀ (x1 : Int32) (x2 : Int32), ∀ (n : Nat) (x3 : Int32) (s : S9) (o : (S9)) (H : Heap) (L : List Loc) (hP : va_P Δ.1 classes (cs9 a Δ s) H) (hD : va_D A (cs9 a Δ s)) (hS : va_S A (sOf Γ).heap H L) (hq : lp_X9_seats_28 x1 x2 n x3 s = some o) (E2 : ∀ (H : Heap) (L : List Loc), va_P Δ.1 classes (cs9 a Δ o) H → va_D A (cs9 a Δ o) → va_S A (sOf Γ).heap H L → g Γ { frames := 3, cells := 0, slots := 0, locals := 73 } 6 H L 0 0 111 [(0, .ref (a 0)), (1, .int x1), (2, .int x2)] []), g Γ { frames := 3, cells := 0, slots := 0, locals := 73 } 6 H L 0 0 28 [(0, .ref (a 0)), (1, .int x1), (2, .int x2), (3, .int x3)] [] := by
    intro x1 x2
    intro n
    induction n with
    | zero => intro x3 s o H L hP hD hS hq; exact nomatch (show (none : Option (S9)) = some o from hq)
    | succ n ih =>
      intro x3 s o H L hP hD hS hq E2
      have hq : bd_X9_seats_28 x1 x2 (lp_X9_seats_28 x1 x2 n) x3 s = some o := hq
      refine g_iload_n C 29 rfl dX9_seats_28 3 rfl ?_
      refine s_if_le C 111 32 rfl dX9_seats_29 (by decide) hq (fun hq => ?_) (fun hq => ?_)
      · cases hq
        exact g_sub [0, 1, 2] rfl (E2 _ _ hP hD hS)
      refine g_iconst 0 C 33 rfl dX9_seats_32 ki_0 ?_
      refine g_istore [(4, .int 0), (0, .ref (a 0)), (1, .int x1), (2, .int x2), (3, .int x3)] C 35 rfl dX9_seats_33 (Nat.le_of_ble_eq_true rfl) rfl ?_
      have Q35 : ∀ (x1 : Int32) (x2 : Int32) (x3 : Int32), ∀ (n : Nat) (x4 : Int32) (s : S9) (o : (S9)) (H : Heap) (L : List Loc) (hP : va_P Δ.1 classes (cs9 a Δ s) H) (hD : va_D A (cs9 a Δ s)) (hS : va_S A (sOf Γ).heap H L) (hq : lp_X9_seats_35 x1 x2 x3 n x4 s = some o) (E2 : ∀ (H : Heap) (L : List Loc), va_P Δ.1 classes (cs9 a Δ o) H → va_D A (cs9 a Δ o) → va_S A (sOf Γ).heap H L → g Γ { frames := 3, cells := 0, slots := 0, locals := 73 } 6 H L 0 0 105 [(0, .ref (a 0)), (1, .int x1), (2, .int x2), (3, .int x3)] []), g Γ { frames := 3, cells := 0, slots := 0, locals := 73 } 6 H L 0 0 35 [(0, .ref (a 0)), (1, .int x1), (2, .int x2), (3, .int x3), (4, .int x4)] [] := by
        intro x1 x2 x3
        intro n
        induction n with
        | zero => intro x4 s o H L hP hD hS hq; exact nomatch (show (none : Option (S9)) = some o from hq)
        | succ n ih =>
          intro x4 s o H L hP hD hS hq E2
          have hq : bd_X9_seats_35 x1 x2 x3 (lp_X9_seats_35 x1 x2 x3 n) x4 s = some o := hq
          have K68 : ∀ (x4 : Int32) (y0 : Int32) (s : S9) (H : Heap) (L : List Loc) (hP : va_P Δ.1 classes (cs9 a Δ s) H) (hD : va_D A (cs9 a Δ s)) (hS : va_S A (sOf Γ).heap H L), jn_X9_seats_68 (lp_X9_seats_35 x1 x2 x3 n) x1 x2 x3 x4 y0 s = some o → g Γ { frames := 3, cells := 0, slots := 0, locals := 73 } 6 H L 0 0 68 [(0, .ref (a 0)), (1, .int x1), (2, .int x2), (3, .int x3), (4, .int x4)] [.int y0] := by
            intro x4 y0 s H L hP hD hS hq
            refine g_istore [(5, .int y0), (0, .ref (a 0)), (1, .int x1), (2, .int x2), (3, .int x3), (4, .int x4)] C 70 rfl dX9_seats_68 (Nat.le_of_ble_eq_true rfl) rfl ?_
            refine g_aload_n C 71 rfl dX9_seats_70 1 rfl ?_
            refine g_get (v := .ref (a 19)) C 74 rfl dX9_seats_71 hK hP la_X9 0 32 (Nat.le_of_ble_eq_true rfl) fl_X9_64 rfl rfl rfl rfl ?_
            refine g_bipush 6 C 76 rfl dX9_seats_74 kb_6 ?_
            refine g_iload_n C 77 rfl dX9_seats_76 4 rfl ?_
            refine g_imul C 78 rfl dX9_seats_77 ?_
            refine g_iload C 80 rfl dX9_seats_78 5 rfl ?_
            refine g_iadd C 81 rfl dX9_seats_80 ?_
            refine g_iload C 83 rfl dX9_seats_81 0 rfl ?_
            refine s_if_eq C 97 86 rfl dX9_seats_83 (by decide) hq (fun hq => ?_) (fun hq => ?_)
            · refine g_iconst 0 C 98 rfl dX9_seats_97 ki_0 ?_
              refine s_iast (cs9 a Δ (p9_waysOn s (upd (x9_waysOn s) (((6 * x3) + x4) : Int32).toNatClampNeg 0))) C 99 rfl dX9_seats_98 hK hP hD hS 19 rfl hq rfl (fun hq hi10 H L hP hD hS => ?_)
              refine g_iinc (x4 + 1) [(4, .int (x4 + 1)), (5, .int y0), (0, .ref (a 0)), (1, .int x1), (2, .int x2), (3, .int x3)] C 102 rfl dX9_seats_99 5 rfl (ii_1 _) (Nat.le_of_ble_eq_true rfl) rfl ?_
              refine g_goto C 35 dX9_seats_102 (by decide) ?_
              exact g_sub [2, 3, 4, 5, 0] rfl (ih (x4 + 1) (p9_waysOn s (upd (x9_waysOn s) (((6 * x3) + x4) : Int32).toNatClampNeg 0)) _ _ _ hP hD hS hq E2)
            refine g_aload_n C 87 rfl dX9_seats_86 1 rfl ?_
            refine g_iload_n C 88 rfl dX9_seats_87 4 rfl ?_
            refine g_iload C 90 rfl dX9_seats_88 5 rfl ?_
            refine g_iload_n C 91 rfl dX9_seats_90 2 rfl ?_
            obtain ⟨r11, hz12, hq⟩ := bindE hq
            refine g_callRV (rest := [.int ((6 * x3) + x4), .ref (a 19)]) C 94 rfl dX9_seats_91 (c_X9_waysFrom Γ.2.1 Δ a x3 x4 x1 s hz12) mv_X9_waysFrom ml_X9_276 hK hP rfl rfl rfl rfl rfl ⟨Nat.le_of_ble_eq_true rfl, Nat.le_of_ble_eq_true rfl⟩ (Nat.le_of_ble_eq_true rfl) ⟨Nat.zero_le _, Nat.zero_le _⟩ ?_
            refine g_goto C 98 dX9_seats_94 (by decide) ?_
            refine s_iast (cs9 a Δ (p9_waysOn s (upd (x9_waysOn s) (((6 * x3) + x4) : Int32).toNatClampNeg r11))) C 99 rfl dX9_seats_98 hK hP hD hS 19 rfl hq rfl (fun hq hi13 H L hP hD hS => ?_)
            refine g_iinc (x4 + 1) [(4, .int (x4 + 1)), (5, .int y0), (0, .ref (a 0)), (1, .int x1), (2, .int x2), (3, .int x3)] C 102 rfl dX9_seats_99 5 rfl (ii_1 _) (Nat.le_of_ble_eq_true rfl) rfl ?_
            refine g_goto C 35 dX9_seats_102 (by decide) ?_
            exact g_sub [2, 3, 4, 5, 0] rfl (ih (x4 + 1) (p9_waysOn s (upd (x9_waysOn s) (((6 * x3) + x4) : Int32).toNatClampNeg r11)) _ _ _ hP hD hS hq E2)
          have K67 : ∀ (x4 : Int32) (s : S9) (H : Heap) (L : List Loc) (hP : va_P Δ.1 classes (cs9 a Δ s) H) (hD : va_D A (cs9 a Δ s)) (hS : va_S A (sOf Γ).heap H L), jn_X9_seats_67 (lp_X9_seats_35 x1 x2 x3 n) x1 x2 x3 x4 s = some o → g Γ { frames := 3, cells := 0, slots := 0, locals := 73 } 6 H L 0 0 67 [(0, .ref (a 0)), (1, .int x1), (2, .int x2), (3, .int x3), (4, .int x4)] [] := by
            intro x4 s H L hP hD hS hq
            refine g_iconst 0 C 68 rfl dX9_seats_67 ki_0 ?_
            exact g_sub [0, 1, 2, 3, 4] rfl (K68 x4 0 s _ _ hP hD hS hq)
          refine g_iload C 37 rfl dX9_seats_35 4 rfl ?_
          refine g_bipush 6 C 39 rfl dX9_seats_37 kb_6 ?_
          refine s_icmp_ge C 105 42 rfl dX9_seats_39 (by decide) hq (fun hq => ?_) (fun hq => ?_)
          · cases hq
            exact g_sub [0, 1, 2, 3] rfl (E2 _ _ hP hD hS)
          refine g_iload_n C 43 rfl dX9_seats_42 3 rfl ?_
          refine g_aload_n C 44 rfl dX9_seats_43 0 rfl ?_
          refine g_get (v := .int (x9_there s)) C 47 rfl dX9_seats_44 hK hP la_X9 0 0 (Nat.le_of_ble_eq_true rfl) fl_X9_94 rfl rfl rfl rfl ?_
          refine g_iconst (-1) C 48 rfl dX9_seats_47 ki_m1 ?_
          refine g_ixor C 49 rfl dX9_seats_48 ?_
          refine g_iand C 50 rfl dX9_seats_49 ?_
          refine s_if_ne C 67 53 rfl dX9_seats_50 (by decide) hq (fun hq => ?_) (fun hq => ?_)
          · exact g_sub [0, 1, 2, 3, 4] rfl (K67 x4 s _ _ hP hD hS hq)
          refine g_iload_n C 54 rfl dX9_seats_53 3 rfl ?_
          refine g_iload C 56 rfl dX9_seats_54 4 rfl ?_
          refine g_ishr C 57 rfl dX9_seats_56 ?_
          refine g_iconst 1 C 58 rfl dX9_seats_57 ki_1 ?_
          refine g_iand C 59 rfl dX9_seats_58 ?_
          refine g_iconst 1 C 60 rfl dX9_seats_59 ki_1 ?_
          refine s_icmp_ne C 67 63 rfl dX9_seats_60 (by decide) hq (fun hq => ?_) (fun hq => ?_)
          · exact g_sub [0, 1, 2, 3, 4] rfl (K67 x4 s _ _ hP hD hS hq)
          refine g_iconst 1 C 64 rfl dX9_seats_63 ki_1 ?_
          refine g_goto C 68 dX9_seats_64 (by decide) ?_
          exact g_sub [0, 1, 2, 3, 4] rfl (K68 x4 1 s _ _ hP hD hS hq)
      obtain ⟨o14, ho15, hq⟩ := bindE hq
      refine g_sub [1, 2, 3, 4, 0] rfl (Q35 x1 x2 x3 FUEL 0 s o14 _ _ hP hD hS ho15 (fun H L hP hD hS => ?_))
      refine g_iinc (x3 - 1) [(3, .int (x3 - 1)), (0, .ref (a 0)), (1, .int x1), (2, .int x2)] C 108 rfl dX9_seats_105 3 rfl (ii_m1 _) (Nat.le_of_ble_eq_true rfl) rfl ?_
      refine g_goto C 28 dX9_seats_108 (by decide) ?_
      exact g_sub [1, 2, 3, 0] rfl (ih (x3 - 1) o14 _ _ _ hP hD hS hq E2)
  obtain ⟨o16, ho17, hq⟩ := bindE hq
  refine g_sub [1, 2, 3, 0] rfl (Q28 x1 x2 FUEL 63 s o16 _ _ hP hD hS ho17 (fun H L hP hD hS => ?_))
  refine g_iload_n C 112 rfl dX9_seats_111 2 rfl ?_
  refine g_iconst 1 C 113 rfl dX9_seats_112 ki_1 ?_
  refine s_icmp_ne C 122 116 rfl dX9_seats_113 (by decide) hq (fun hq => ?_) (fun hq => ?_)
  rotate_left
  · refine g_aload_n C 117 rfl dX9_seats_116 0 rfl ?_
    refine g_iload_n C 118 rfl dX9_seats_117 1 rfl ?_
    obtain ⟨r18, hz19, hq⟩ := bindE hq
    refine g_callRV (rest := []) C 121 rfl dX9_seats_118 (c_X9_firstSeats Γ.2.1 Δ a x1 o16 hz19) mv_X9_firstSeats ml_X9_279 hK hP rfl rfl rfl rfl rfl ⟨Nat.le_of_ble_eq_true rfl, Nat.le_of_ble_eq_true rfl⟩ (Nat.le_of_ble_eq_true rfl) ⟨Nat.zero_le _, Nat.zero_le _⟩ ?_
    exact w_int (ws := fun s => cs9 a Δ s) hR hq hP hS dX9_seats_121 rfl rfl
  refine g_aload_n C 123 rfl dX9_seats_122 0 rfl ?_
  refine g_get (v := .int (x9_there o16)) C 126 rfl dX9_seats_123 hK hP la_X9 0 0 (Nat.le_of_ble_eq_true rfl) fl_X9_94 rfl rfl rfl rfl ?_
  refine s_if_ne C 133 129 rfl dX9_seats_126 (by decide) hq (fun hq => ?_) (fun hq => ?_)
  · refine g_iconst 0 C 134 rfl dX9_seats_133 ki_0 ?_
    exact g_sub [0] rfl (K134 0 o16 _ _ hP hD hS hq)
  refine g_iconst 1 C 130 rfl dX9_seats_129 ki_1 ?_
  refine g_goto C 134 dX9_seats_130 (by decide) ?_
  exact g_sub [0] rfl (K134 1 o16 _ _ hP hD hS hq)
set_option maxHeartbeats 4000000 in
set_option maxRecDepth 100000 in
theorem c_X9_covered (l : Launch) (Δ : gD) (a : Nat → Nat) (x1 : Int32) (x2 : Int32) (x3 : Int32) (x4 : Int32) (x5 : Int32) (s : S9) {res : Int32 × S9} (hq : sem_X9_covered x1 x2 x3 x4 x5 s = some res) : MW l yX9_covered cX9_covered 15 (some .int) Δ (cs9 a Δ s) [.ref (a 0), .int x1, .int x2, .int x3, .int x4, .int x5] 2 46 (some (.int res.1)) (cs9 a Δ res.2) := by
  refine MW.of (by decide) (Nat.le_of_ble_eq_true rfl) ?_
  intro Γ A H hl C hK hP hD hS hA hR
  subst hl
  show g Γ { frames := 2, cells := 0, slots := 0, locals := 46 } 15 H [] 0 0 0 [(0, .ref (a 0)), (1, .int x1), (2, .int x2), (3, .int x3), (4, .int x4), (5, .int x5)] []
  refine g_iload_n C 1 rfl dX9_covered_0 1 rfl ?_
  refine g_istore [(6, .int x1), (0, .ref (a 0)), (1, .int x1), (2, .int x2), (3, .int x3), (4, .int x4), (5, .int x5)] C 3 rfl dX9_covered_1 (Nat.le_of_ble_eq_true rfl) rfl ?_
  refine g_iload C 5 rfl dX9_covered_3 5 rfl ?_
  refine g_istore [(7, .int x4), (6, .int x1), (0, .ref (a 0)), (1, .int x1), (2, .int x2), (3, .int x3), (4, .int x4), (5, .int x5)] C 7 rfl dX9_covered_5 (Nat.le_of_ble_eq_true rfl) rfl ?_
  refine g_iload C 9 rfl dX9_covered_7 7 rfl ?_
  refine g_istore [(8, .int x5), (7, .int x4), (6, .int x1), (0, .ref (a 0)), (1, .int x1), (2, .int x2), (3, .int x3), (4, .int x4), (5, .int x5)] C 11 rfl dX9_covered_9 (Nat.le_of_ble_eq_true rfl) rfl ?_
  refine g_iconst 0 C 12 rfl dX9_covered_11 ki_0 ?_
  refine g_istore [(9, .int 0), (8, .int x5), (7, .int x4), (6, .int x1), (0, .ref (a 0)), (1, .int x1), (2, .int x2), (3, .int x3), (4, .int x4), (5, .int x5)] C 14 rfl dX9_covered_12 (Nat.le_of_ble_eq_true rfl) rfl ?_
  refine g_iconst 0 C 15 rfl dX9_covered_14 ki_0 ?_
  refine g_istore [(10, .int 0), (9, .int 0), (8, .int x5), (7, .int x4), (6, .int x1), (0, .ref (a 0)), (1, .int x1), (2, .int x2), (3, .int x3), (4, .int x4), (5, .int x5)] C 17 rfl dX9_covered_15 (Nat.le_of_ble_eq_true rfl) rfl ?_
  refine g_iconst 0 C 18 rfl dX9_covered_17 ki_0 ?_
  refine g_istore [(11, .int 0), (10, .int 0), (9, .int 0), (8, .int x5), (7, .int x4), (6, .int x1), (0, .ref (a 0)), (1, .int x1), (2, .int x2), (3, .int x3), (4, .int x4), (5, .int x5)] C 20 rfl dX9_covered_18 (Nat.le_of_ble_eq_true rfl) rfl ?_
  refine g_iconst 1 C 21 rfl dX9_covered_20 ki_1 ?_
  refine g_istore [(12, .int 1), (11, .int 0), (10, .int 0), (9, .int 0), (8, .int x5), (7, .int x4), (6, .int x1), (0, .ref (a 0)), (1, .int x1), (2, .int x2), (3, .int x3), (4, .int x4), (5, .int x5)] C 23 rfl dX9_covered_21 (Nat.le_of_ble_eq_true rfl) rfl ?_
  refine g_aload_n C 24 rfl dX9_covered_23 7 rfl ?_
  refine g_iconst 0 C 25 rfl dX9_covered_24 ki_0 ?_
  refine g_put (cs9 a Δ (p9_coverDigits s 0)) C 28 rfl dX9_covered_25 hK hP hD hS la_X9 tyX9_ok nmX9 0 33 (Nat.le_of_ble_eq_true rfl) fl_X9_282 rfl rfl rfl rfl rfl rfl (Nat.le_of_ble_eq_true rfl) rfl (fun H L hP hD hS => ?_)
  refine g_iconst 5 C 29 rfl dX9_covered_28 ki_5 ?_
  refine g_istore [(13, .int 5), (12, .int 1), (11, .int 0), (10, .int 0), (9, .int 0), (8, .int x5), (7, .int x4), (6, .int x1), (0, .ref (a 0)), (1, .int x1), (2, .int x2), (3, .int x3), (4, .int x4), (5, .int x5)] C 31 rfl dX9_covered_29 (Nat.le_of_ble_eq_true rfl) rfl ?_
  have Q31 : ∀ (x2 : Int32) (x3 : Int32), ∀ (n : Nat) (x6 : Int32) (x7 : Int32) (x8 : Int32) (x9 : Int32) (x10 : Int32) (x11 : Int32) (x12 : Int32) (x13 : Int32) (s : S9) (o : ((Int32 × S9) ⊕ (Int32 × Int32 × Int32 × S9))) (H : Heap) (L : List Loc) (hP : va_P Δ.1 classes (cs9 a Δ s) H) (hD : va_D A (cs9 a Δ s)) (hS : va_S A (sOf Γ).heap H L) (hq : lp_X9_covered_31 x2 x3 n x6 x7 x8 x9 x10 x11 x12 x13 s = some o) (E1 : ∀ r, o = .inl r → gRetW Γ { frames := 2, cells := 0, slots := 0, locals := 46 } 15 cX9_covered (some .int) Δ A (some (.int r.1)) (cs9 a Δ r.2)) (E2 : ∀ x, o = .inr x → ∀ (H : Heap) (L : List Loc), va_P Δ.1 classes (cs9 a Δ x.2.2.2) H → va_D A (cs9 a Δ x.2.2.2) → va_S A (sOf Γ).heap H L → g Γ { frames := 2, cells := 0, slots := 0, locals := 46 } 15 H L 0 0 184 [(2, .int x2), (3, .int x3), (9, .int x.1), (10, .int x.2.1), (11, .int x.2.2.1)] []), g Γ { frames := 2, cells := 0, slots := 0, locals := 46 } 15 H L 0 0 31 [(0, .ref (a 0)), (2, .int x2), (3, .int x3), (6, .int x6), (7, .int x7), (8, .int x8), (9, .int x9), (10, .int x10), (11, .int x11), (12, .int x12), (13, .int x13)] [] := by
    intro x2 x3
    intro n
    induction n with
    | zero => intro x6 x7 x8 x9 x10 x11 x12 x13 s o H L hP hD hS hq; exact nomatch (show (none : Option ((Int32 × S9) ⊕ (Int32 × Int32 × Int32 × S9))) = some o from hq)
    | succ n ih =>
      intro x6 x7 x8 x9 x10 x11 x12 x13 s o H L hP hD hS hq E1 E2
      have hq : bd_X9_covered_31 x2 x3 (lp_X9_covered_31 x2 x3 n) x6 x7 x8 x9 x10 x11 x12 x13 s = some o := hq
      have K152 : ∀ (x6 : Int32) (x7 : Int32) (x8 : Int32) (x9 : Int32) (x10 : Int32) (x11 : Int32) (x12 : Int32) (x13 : Int32) (y1 : Int32) (y2 : Int32) (y3 : Int32) (s : S9) (H : Heap) (L : List Loc) (hP : va_P Δ.1 classes (cs9 a Δ s) H) (hD : va_D A (cs9 a Δ s)) (hS : va_S A (sOf Γ).heap H L), jn_X9_covered_152 (lp_X9_covered_31 x2 x3 n) x2 x3 x6 x7 x8 x9 x10 x11 x12 x13 y1 y2 y3 s = some o → g Γ { frames := 2, cells := 0, slots := 0, locals := 46 } 15 H L 0 0 152 [(0, .ref (a 0)), (2, .int x2), (3, .int x3), (6, .int x6), (7, .int x7), (8, .int x8), (9, .int x9), (10, .int x10), (11, .int x11), (12, .int x12), (13, .int x13)] [.int y3, .int y2, .int y1, .ref (a 0)] := by
        intro x6 x7 x8 x9 x10 x11 x12 x13 y1 y2 y3 s H L hP hD hS hq
        refine g_imul C 153 rfl dX9_covered_152 ?_
        refine g_iadd C 154 rfl dX9_covered_153 ?_
        refine g_put (cs9 a Δ (p9_coverDigits s (y1 + (y2 * y3)))) C 157 rfl dX9_covered_154 hK hP hD hS la_X9 tyX9_ok nmX9 0 33 (Nat.le_of_ble_eq_true rfl) fl_X9_282 rfl rfl rfl rfl rfl rfl (Nat.le_of_ble_eq_true rfl) rfl (fun H L hP hD hS => ?_)
        refine g_iload C 159 rfl dX9_covered_157 9 rfl ?_
        refine g_bipush 10 C 161 rfl dX9_covered_159 kb_10 ?_
        refine g_imul C 162 rfl dX9_covered_161 ?_
        refine g_istore [(12, .int (x12 * 10)), (0, .ref (a 0)), (2, .int x2), (3, .int x3), (6, .int x6), (7, .int x7), (8, .int x8), (9, .int x9), (10, .int x10), (11, .int x11), (13, .int x13)] C 164 rfl dX9_covered_162 (Nat.le_of_ble_eq_true rfl) rfl ?_
        refine g_iload C 166 rfl dX9_covered_164 5 rfl ?_
        refine g_bipush 10 C 168 rfl dX9_covered_166 kb_10 ?_
        refine g_idiv C 169 rfl dX9_covered_168 (by decide) ?_
        refine g_istore [(7, .int (x7 / 10)), (12, .int (x12 * 10)), (0, .ref (a 0)), (2, .int x2), (3, .int x3), (6, .int x6), (8, .int x8), (9, .int x9), (10, .int x10), (11, .int x11), (13, .int x13)] C 171 rfl dX9_covered_169 (Nat.le_of_ble_eq_true rfl) rfl ?_
        refine g_iload C 173 rfl dX9_covered_171 6 rfl ?_
        refine g_bipush 10 C 175 rfl dX9_covered_173 kb_10 ?_
        refine g_idiv C 176 rfl dX9_covered_175 (by decide) ?_
        refine g_istore [(8, .int (x8 / 10)), (7, .int (x7 / 10)), (12, .int (x12 * 10)), (0, .ref (a 0)), (2, .int x2), (3, .int x3), (6, .int x6), (9, .int x9), (10, .int x10), (11, .int x11), (13, .int x13)] C 178 rfl dX9_covered_176 (Nat.le_of_ble_eq_true rfl) rfl ?_
        refine g_iinc (x13 - 1) [(13, .int (x13 - 1)), (8, .int (x8 / 10)), (7, .int (x7 / 10)), (12, .int (x12 * 10)), (0, .ref (a 0)), (2, .int x2), (3, .int x3), (6, .int x6), (9, .int x9), (10, .int x10), (11, .int x11)] C 181 rfl dX9_covered_178 10 rfl (ii_m1 _) (Nat.le_of_ble_eq_true rfl) rfl ?_
        refine g_goto C 31 dX9_covered_181 (by decide) ?_
        exact g_sub [4, 5, 6, 7, 2, 1, 8, 9, 10, 3, 0] rfl (ih x6 (x7 / 10) (x8 / 10) x9 x10 x11 (x12 * 10) (x13 - 1) (p9_coverDigits s (y1 + (y2 * y3))) _ _ _ hP hD hS hq E1 E2)
      have K127 : ∀ (x6 : Int32) (x7 : Int32) (x8 : Int32) (x9 : Int32) (x10 : Int32) (x12 : Int32) (x13 : Int32) (x14 : Int32) (y0 : Int32) (y1 : Int32) (s : S9) (H : Heap) (L : List Loc) (hP : va_P Δ.1 classes (cs9 a Δ s) H) (hD : va_D A (cs9 a Δ s)) (hS : va_S A (sOf Γ).heap H L), jn_X9_covered_127 (lp_X9_covered_31 x2 x3 n) x2 x3 x6 x7 x8 x9 x10 x12 x13 x14 y0 y1 s = some o → g Γ { frames := 2, cells := 0, slots := 0, locals := 46 } 15 H L 0 0 127 [(0, .ref (a 0)), (2, .int x2), (3, .int x3), (6, .int x6), (7, .int x7), (8, .int x8), (9, .int x9), (10, .int x10), (12, .int x12), (13, .int x13), (14, .int x14)] [.int y1, .int y0] := by
        intro x6 x7 x8 x9 x10 x12 x13 x14 y0 y1 s H L hP hD hS hq
        refine g_iadd C 128 rfl dX9_covered_127 ?_
        refine g_istore [(11, .int (y0 + y1)), (0, .ref (a 0)), (2, .int x2), (3, .int x3), (6, .int x6), (7, .int x7), (8, .int x8), (9, .int x9), (10, .int x10), (12, .int x12), (13, .int x13), (14, .int x14)] C 130 rfl dX9_covered_128 (Nat.le_of_ble_eq_true rfl) rfl ?_
        refine g_aload_n C 131 rfl dX9_covered_130 1 rfl ?_
        refine g_dup C 132 rfl dX9_covered_131 rfl ?_
        refine g_get (v := .int (x9_coverDigits s)) C 135 rfl dX9_covered_132 hK hP la_X9 0 33 (Nat.le_of_ble_eq_true rfl) fl_X9_282 rfl rfl rfl rfl ?_
        refine g_iload C 137 rfl dX9_covered_135 9 rfl ?_
        refine g_aload_n C 138 rfl dX9_covered_137 1 rfl ?_
        refine g_iload C 140 rfl dX9_covered_138 10 rfl ?_
        obtain ⟨r1, hz2, hq⟩ := bindE hq
        refine g_callRV (rest := [.int x12, .int (x9_coverDigits s), .ref (a 0)]) C 143 rfl dX9_covered_140 (c_X9_isOne Γ.2.1 Δ a x13 s hz2) mv_X9_isOne ml_X9_107 hK hP rfl rfl rfl rfl rfl ⟨Nat.le_of_ble_eq_true rfl, Nat.le_of_ble_eq_true rfl⟩ (Nat.le_of_ble_eq_true rfl) ⟨Nat.zero_le _, Nat.zero_le _⟩ ?_
        refine s_if_eq C 151 146 rfl dX9_covered_143 (by decide) hq (fun hq => ?_) (fun hq => ?_)
        · refine g_iconst 3 C 152 rfl dX9_covered_151 ki_3 ?_
          exact g_sub [1, 2, 3, 4, 5, 6, 7, 8, 0, 9, 10] rfl (K152 x6 x7 x8 x9 x10 (y0 + y1) x12 x13 (x9_coverDigits s) x12 3 s _ _ hP hD hS hq)
        refine g_iload C 148 rfl dX9_covered_146 11 rfl ?_
        refine g_goto C 152 dX9_covered_148 (by decide) ?_
        exact g_sub [1, 2, 3, 4, 5, 6, 7, 8, 0, 9, 10] rfl (K152 x6 x7 x8 x9 x10 (y0 + y1) x12 x13 (x9_coverDigits s) x12 x14 s _ _ hP hD hS hq)
      have K111 : ∀ (x6 : Int32) (x7 : Int32) (x8 : Int32) (x9 : Int32) (x11 : Int32) (x12 : Int32) (x13 : Int32) (x14 : Int32) (y0 : Int32) (y1 : Int32) (s : S9) (H : Heap) (L : List Loc) (hP : va_P Δ.1 classes (cs9 a Δ s) H) (hD : va_D A (cs9 a Δ s)) (hS : va_S A (sOf Γ).heap H L), jn_X9_covered_111 (lp_X9_covered_31 x2 x3 n) x2 x3 x6 x7 x8 x9 x11 x12 x13 x14 y0 y1 s = some o → g Γ { frames := 2, cells := 0, slots := 0, locals := 46 } 15 H L 0 0 111 [(0, .ref (a 0)), (2, .int x2), (3, .int x3), (6, .int x6), (7, .int x7), (8, .int x8), (9, .int x9), (11, .int x11), (12, .int x12), (13, .int x13), (14, .int x14)] [.int y1, .int y0] := by
        intro x6 x7 x8 x9 x11 x12 x13 x14 y0 y1 s H L hP hD hS hq
        refine g_iadd C 112 rfl dX9_covered_111 ?_
        refine g_istore [(10, .int (y0 + y1)), (0, .ref (a 0)), (2, .int x2), (3, .int x3), (6, .int x6), (7, .int x7), (8, .int x8), (9, .int x9), (11, .int x11), (12, .int x12), (13, .int x13), (14, .int x14)] C 114 rfl dX9_covered_112 (Nat.le_of_ble_eq_true rfl) rfl ?_
        refine g_iload C 116 rfl dX9_covered_114 8 rfl ?_
        refine g_iload C 118 rfl dX9_covered_116 11 rfl ?_
        refine g_iconst 1 C 119 rfl dX9_covered_118 ki_1 ?_
        refine s_icmp_ne C 126 122 rfl dX9_covered_119 (by decide) hq (fun hq => ?_) (fun hq => ?_)
        · refine g_iconst 0 C 127 rfl dX9_covered_126 ki_0 ?_
          exact g_sub [1, 2, 3, 4, 5, 6, 7, 0, 9, 10, 11] rfl (K127 x6 x7 x8 x9 (y0 + y1) x12 x13 x14 x11 0 s _ _ hP hD hS hq)
        refine g_iconst 1 C 123 rfl dX9_covered_122 ki_1 ?_
        refine g_goto C 127 dX9_covered_123 (by decide) ?_
        exact g_sub [1, 2, 3, 4, 5, 6, 7, 0, 9, 10, 11] rfl (K127 x6 x7 x8 x9 (y0 + y1) x12 x13 x14 x11 1 s _ _ hP hD hS hq)
      have K96 : ∀ (x6 : Int32) (x7 : Int32) (x8 : Int32) (x10 : Int32) (x11 : Int32) (x12 : Int32) (x13 : Int32) (x14 : Int32) (y0 : Int32) (y1 : Int32) (s : S9) (H : Heap) (L : List Loc) (hP : va_P Δ.1 classes (cs9 a Δ s) H) (hD : va_D A (cs9 a Δ s)) (hS : va_S A (sOf Γ).heap H L), jn_X9_covered_96 (lp_X9_covered_31 x2 x3 n) x2 x3 x6 x7 x8 x10 x11 x12 x13 x14 y0 y1 s = some o → g Γ { frames := 2, cells := 0, slots := 0, locals := 46 } 15 H L 0 0 96 [(0, .ref (a 0)), (2, .int x2), (3, .int x3), (6, .int x6), (7, .int x7), (8, .int x8), (10, .int x10), (11, .int x11), (12, .int x12), (13, .int x13), (14, .int x14)] [.int y1, .int y0] := by
        intro x6 x7 x8 x10 x11 x12 x13 x14 y0 y1 s H L hP hD hS hq
        refine g_iadd C 97 rfl dX9_covered_96 ?_
        refine g_istore [(9, .int (y0 + y1)), (0, .ref (a 0)), (2, .int x2), (3, .int x3), (6, .int x6), (7, .int x7), (8, .int x8), (10, .int x10), (11, .int x11), (12, .int x12), (13, .int x13), (14, .int x14)] C 99 rfl dX9_covered_97 (Nat.le_of_ble_eq_true rfl) rfl ?_
        refine g_iload C 101 rfl dX9_covered_99 7 rfl ?_
        refine g_iload C 103 rfl dX9_covered_101 11 rfl ?_
        refine s_if_ne C 110 106 rfl dX9_covered_103 (by decide) hq (fun hq => ?_) (fun hq => ?_)
        · refine g_iconst 0 C 111 rfl dX9_covered_110 ki_0 ?_
          exact g_sub [1, 2, 3, 4, 5, 6, 0, 8, 9, 10, 11] rfl (K111 x6 x7 x8 (y0 + y1) x11 x12 x13 x14 x10 0 s _ _ hP hD hS hq)
        refine g_iconst 1 C 107 rfl dX9_covered_106 ki_1 ?_
        refine g_goto C 111 dX9_covered_107 (by decide) ?_
        exact g_sub [1, 2, 3, 4, 5, 6, 0, 8, 9, 10, 11] rfl (K111 x6 x7 x8 (y0 + y1) x11 x12 x13 x14 x10 1 s _ _ hP hD hS hq)
      have K66 : ∀ (x6 : Int32) (x7 : Int32) (x8 : Int32) (x9 : Int32) (x10 : Int32) (x11 : Int32) (x12 : Int32) (x13 : Int32) (x14 : Int32) (s : S9) (H : Heap) (L : List Loc) (hP : va_P Δ.1 classes (cs9 a Δ s) H) (hD : va_D A (cs9 a Δ s)) (hS : va_S A (sOf Γ).heap H L), jn_X9_covered_66 (lp_X9_covered_31 x2 x3 n) x2 x3 x6 x7 x8 x9 x10 x11 x12 x13 x14 s = some o → g Γ { frames := 2, cells := 0, slots := 0, locals := 46 } 15 H L 0 0 66 [(0, .ref (a 0)), (2, .int x2), (3, .int x3), (6, .int x6), (7, .int x7), (8, .int x8), (9, .int x9), (10, .int x10), (11, .int x11), (12, .int x12), (13, .int x13), (14, .int x14)] [] := by
        intro x6 x7 x8 x9 x10 x11 x12 x13 x14 s H L hP hD hS hq
        refine g_iload C 68 rfl dX9_covered_66 6 rfl ?_
        refine g_iload C 70 rfl dX9_covered_68 11 rfl ?_
        refine s_if_ne C 81 73 rfl dX9_covered_70 (by decide) hq (fun hq => ?_) (fun hq => ?_)
        rotate_left
        · refine g_iload C 75 rfl dX9_covered_73 4 rfl ?_
          refine g_bipush 10 C 77 rfl dX9_covered_75 kb_10 ?_
          refine g_irem C 78 rfl dX9_covered_77 (by decide) ?_
          refine g_goto C 96 dX9_covered_78 (by decide) ?_
          exact g_sub [0, 1, 2, 3, 4, 5, 7, 8, 9, 10, 11] rfl (K96 x6 x7 x8 x10 x11 x12 x13 x14 x9 (jrem x7 10) s _ _ hP hD hS hq)
        refine g_iload C 83 rfl dX9_covered_81 11 rfl ?_
        refine g_iconst 1 C 84 rfl dX9_covered_83 ki_1 ?_
        refine s_icmp_ne C 95 87 rfl dX9_covered_84 (by decide) hq (fun hq => ?_) (fun hq => ?_)
        · refine g_iconst 0 C 96 rfl dX9_covered_95 ki_0 ?_
          exact g_sub [0, 1, 2, 3, 4, 5, 7, 8, 9, 10, 11] rfl (K96 x6 x7 x8 x10 x11 x12 x13 x14 x9 0 s _ _ hP hD hS hq)
        refine g_iload C 89 rfl dX9_covered_87 5 rfl ?_
        refine g_bipush 10 C 91 rfl dX9_covered_89 kb_10 ?_
        refine g_irem C 92 rfl dX9_covered_91 (by decide) ?_
        refine g_goto C 96 dX9_covered_92 (by decide) ?_
        exact g_sub [0, 1, 2, 3, 4, 5, 7, 8, 9, 10, 11] rfl (K96 x6 x7 x8 x10 x11 x12 x13 x14 x9 (jrem x8 10) s _ _ hP hD hS hq)
      refine g_iload C 33 rfl dX9_covered_31 10 rfl ?_
      refine s_if_lt C 184 36 rfl dX9_covered_33 (by decide) hq (fun hq => ?_) (fun hq => ?_)
      · cases hq
        exact g_sub [1, 2, 6, 7, 8] rfl (E2 _ rfl _ _ hP hD hS)
      refine g_iload C 38 rfl dX9_covered_36 3 rfl ?_
      refine g_iconst 3 C 39 rfl dX9_covered_38 ki_3 ?_
      refine g_irem C 40 rfl dX9_covered_39 (by decide) ?_
      refine g_istore [(14, .int (jrem x6 3)), (0, .ref (a 0)), (2, .int x2), (3, .int x3), (6, .int x6), (7, .int x7), (8, .int x8), (9, .int x9), (10, .int x10), (11, .int x11), (12, .int x12), (13, .int x13)] C 42 rfl dX9_covered_40 (Nat.le_of_ble_eq_true rfl) rfl ?_
      refine g_iload C 44 rfl dX9_covered_42 4 rfl ?_
      refine g_iconst 3 C 45 rfl dX9_covered_44 ki_3 ?_
      refine g_idiv C 46 rfl dX9_covered_45 (by decide) ?_
      refine g_istore [(6, .int (x6 / 3)), (14, .int (jrem x6 3)), (0, .ref (a 0)), (2, .int x2), (3, .int x3), (7, .int x7), (8, .int x8), (9, .int x9), (10, .int x10), (11, .int x11), (12, .int x12), (13, .int x13)] C 48 rfl dX9_covered_46 (Nat.le_of_ble_eq_true rfl) rfl ?_
      refine g_aload_n C 49 rfl dX9_covered_48 2 rfl ?_
      refine g_iload C 51 rfl dX9_covered_49 11 rfl ?_
      obtain ⟨r3, hz4, hq⟩ := bindE hq
      refine g_callRV (rest := []) C 54 rfl dX9_covered_51 (c_X9_isOne Γ.2.1 Δ a x13 s hz4) mv_X9_isOne ml_X9_107 hK hP rfl rfl rfl rfl rfl ⟨Nat.le_of_ble_eq_true rfl, Nat.le_of_ble_eq_true rfl⟩ (Nat.le_of_ble_eq_true rfl) ⟨Nat.zero_le _, Nat.zero_le _⟩ ?_
      refine s_if_ne C 66 57 rfl dX9_covered_54 (by decide) hq (fun hq => ?_) (fun hq => ?_)
      · exact g_sub [2, 3, 4, 0, 5, 6, 7, 8, 9, 10, 11, 1] rfl (K66 (x6 / 3) x7 x8 x9 x10 x11 x12 x13 (jrem x6 3) s _ _ hP hD hS hq)
      refine g_iload C 59 rfl dX9_covered_57 1 rfl ?_
      refine g_iconst 2 C 60 rfl dX9_covered_59 ki_2 ?_
      refine s_icmp_eq C 66 63 rfl dX9_covered_60 (by decide) hq (fun hq => ?_) (fun hq => ?_)
      · exact g_sub [2, 3, 4, 0, 5, 6, 7, 8, 9, 10, 11, 1] rfl (K66 (x6 / 3) x7 x8 x9 x10 x11 x12 x13 (jrem x6 3) s _ _ hP hD hS hq)
      refine g_bipush (-6) C 65 rfl dX9_covered_63 kb_m6 ?_
      cases hq
      exact w_int (ws := fun s => cs9 a Δ s) (E1 _ rfl) rfl hP hS dX9_covered_65 rfl rfl
  obtain ⟨o5, ho6, hq⟩ := bindE hq
  refine g_sub [8, 10, 11, 7, 6, 5, 4, 3, 2, 1, 0] rfl (Q31 x2 x3 FUEL x1 x4 x5 0 0 0 1 5 (p9_coverDigits s 0) o5 _ _ hP hD hS ho6 (fun r er => ?_) (fun xo5 er => fun H L hP hD hS => ?_))
  · rw [er] at hq
    cases hq
    exact hR
  rw [er] at hq
  clear er
  refine g_iload C 186 rfl dX9_covered_184 3 rfl ?_
  refine g_iload_n C 187 rfl dX9_covered_186 0 rfl ?_
  refine s_icmp_gt C 201 190 rfl dX9_covered_187 (by decide) hq (fun hq => ?_) (fun hq => ?_)
  · refine g_bipush (-6) C 203 rfl dX9_covered_201 kb_m6 ?_
    exact w_int (ws := fun s => cs9 a Δ s) hR hq hP hS dX9_covered_203 rfl rfl
  refine g_iload C 192 rfl dX9_covered_190 4 rfl ?_
  refine g_iload_n C 193 rfl dX9_covered_192 1 rfl ?_
  refine s_icmp_gt C 201 196 rfl dX9_covered_193 (by decide) hq (fun hq => ?_) (fun hq => ?_)
  · refine g_bipush (-6) C 203 rfl dX9_covered_201 kb_m6 ?_
    exact w_int (ws := fun s => cs9 a Δ s) hR hq hP hS dX9_covered_203 rfl rfl
  refine g_iload C 198 rfl dX9_covered_196 2 rfl ?_
  refine g_goto C 203 dX9_covered_198 (by decide) ?_
  exact w_int (ws := fun s => cs9 a Δ s) hR hq hP hS dX9_covered_203 rfl rfl
set_option maxHeartbeats 4000000 in
set_option maxRecDepth 100000 in
theorem c_X9_cover (l : Launch) (Δ : gD) (a : Nat → Nat) (x1 : Int32) (x2 : Int32) (x3 : Int32) (x4 : Int32) (x5 : Int32) (s : S9) {res : Int32 × S9} (hq : sem_X9_cover x1 x2 x3 x4 x5 s = some res) : MW l yX9_cover cX9_cover 10 (some .int) Δ (cs9 a Δ s) [.ref (a 0), .int x1, .int x2, .int x3, .int x4, .int x5] 3 80 (some (.int res.1)) (cs9 a Δ res.2) := by
  refine MW.of (by decide) (Nat.le_of_ble_eq_true rfl) ?_
  intro Γ A H hl C hK hP hD hS hA hR
  subst hl
  show g Γ { frames := 3, cells := 0, slots := 0, locals := 80 } 10 H [] 0 0 0 [(0, .ref (a 0)), (1, .int x1), (2, .int x2), (3, .int x3), (4, .int x4), (5, .int x5)] []
  refine g_iload_n C 1 rfl dX9_cover_0 1 rfl ?_
  refine g_i2l C 2 rfl dX9_cover_1 ?_
  refine g_lconst 0 C 3 rfl dX9_cover_2 kl_0 ?_
  refine g_ldc2 6 C 6 rfl dX9_cover_3 k_X9_285 ?_
  obtain ⟨r1, hz2, hq⟩ := bindE hq
  refine g_callRS (rest := []) C 9 rfl dX9_cover_6 (c_X9_in Γ.2.1 Δ  (Int32.toInt64 x1) 0 6  hz2) mv_X9_in (Or.inl ml_X9_90) hK rfl rfl ⟨Nat.le_of_ble_eq_true rfl, Nat.le_of_ble_eq_true rfl⟩ (Nat.le_of_ble_eq_true rfl) ⟨Nat.zero_le _, Nat.zero_le _⟩ ?_
  refine s_if_eq C 60 12 rfl dX9_cover_9 (by decide) hq (fun hq => ?_) (fun hq => ?_)
  · refine g_bipush (-2) C 62 rfl dX9_cover_60 kb_m2 ?_
    exact w_int (ws := fun s => cs9 a Δ s) hR hq hP hS dX9_cover_62 rfl rfl
  refine g_iload_n C 13 rfl dX9_cover_12 2 rfl ?_
  refine g_i2l C 14 rfl dX9_cover_13 ?_
  refine g_lconst 0 C 15 rfl dX9_cover_14 kl_0 ?_
  refine g_ldc2 6 C 18 rfl dX9_cover_15 k_X9_285 ?_
  obtain ⟨r3, hz4, hq⟩ := bindE hq
  refine g_callRS (rest := []) C 21 rfl dX9_cover_18 (c_X9_in Γ.2.1 Δ  (Int32.toInt64 x2) 0 6  hz4) mv_X9_in (Or.inl ml_X9_90) hK rfl rfl ⟨Nat.le_of_ble_eq_true rfl, Nat.le_of_ble_eq_true rfl⟩ (Nat.le_of_ble_eq_true rfl) ⟨Nat.zero_le _, Nat.zero_le _⟩ ?_
  refine s_if_eq C 60 24 rfl dX9_cover_21 (by decide) hq (fun hq => ?_) (fun hq => ?_)
  · refine g_bipush (-2) C 62 rfl dX9_cover_60 kb_m2 ?_
    exact w_int (ws := fun s => cs9 a Δ s) hR hq hP hS dX9_cover_62 rfl rfl
  refine g_iload_n C 25 rfl dX9_cover_24 3 rfl ?_
  refine g_i2l C 26 rfl dX9_cover_25 ?_
  refine g_lconst 0 C 27 rfl dX9_cover_26 kl_0 ?_
  refine g_ldc2 999999 C 30 rfl dX9_cover_27 k_X9_253 ?_
  obtain ⟨r5, hz6, hq⟩ := bindE hq
  refine g_callRS (rest := []) C 33 rfl dX9_cover_30 (c_X9_in Γ.2.1 Δ  (Int32.toInt64 x3) 0 999999  hz6) mv_X9_in (Or.inl ml_X9_90) hK rfl rfl ⟨Nat.le_of_ble_eq_true rfl, Nat.le_of_ble_eq_true rfl⟩ (Nat.le_of_ble_eq_true rfl) ⟨Nat.zero_le _, Nat.zero_le _⟩ ?_
  refine s_if_eq C 60 36 rfl dX9_cover_33 (by decide) hq (fun hq => ?_) (fun hq => ?_)
  · refine g_bipush (-2) C 62 rfl dX9_cover_60 kb_m2 ?_
    exact w_int (ws := fun s => cs9 a Δ s) hR hq hP hS dX9_cover_62 rfl rfl
  refine g_iload C 38 rfl dX9_cover_36 4 rfl ?_
  refine g_i2l C 39 rfl dX9_cover_38 ?_
  refine g_lconst 0 C 40 rfl dX9_cover_39 kl_0 ?_
  refine g_ldc2 999999 C 43 rfl dX9_cover_40 k_X9_253 ?_
  obtain ⟨r7, hz8, hq⟩ := bindE hq
  refine g_callRS (rest := []) C 46 rfl dX9_cover_43 (c_X9_in Γ.2.1 Δ  (Int32.toInt64 x4) 0 999999  hz8) mv_X9_in (Or.inl ml_X9_90) hK rfl rfl ⟨Nat.le_of_ble_eq_true rfl, Nat.le_of_ble_eq_true rfl⟩ (Nat.le_of_ble_eq_true rfl) ⟨Nat.zero_le _, Nat.zero_le _⟩ ?_
  refine s_if_eq C 60 49 rfl dX9_cover_46 (by decide) hq (fun hq => ?_) (fun hq => ?_)
  · refine g_bipush (-2) C 62 rfl dX9_cover_60 kb_m2 ?_
    exact w_int (ws := fun s => cs9 a Δ s) hR hq hP hS dX9_cover_62 rfl rfl
  refine g_iload C 51 rfl dX9_cover_49 5 rfl ?_
  refine g_i2l C 52 rfl dX9_cover_51 ?_
  refine g_lconst 0 C 53 rfl dX9_cover_52 kl_0 ?_
  refine g_lconst 1 C 54 rfl dX9_cover_53 kl_1 ?_
  obtain ⟨r9, hz10, hq⟩ := bindE hq
  refine g_callRS (rest := []) C 57 rfl dX9_cover_54 (c_X9_in Γ.2.1 Δ  (Int32.toInt64 x5) 0 1  hz10) mv_X9_in (Or.inl ml_X9_90) hK rfl rfl ⟨Nat.le_of_ble_eq_true rfl, Nat.le_of_ble_eq_true rfl⟩ (Nat.le_of_ble_eq_true rfl) ⟨Nat.zero_le _, Nat.zero_le _⟩ ?_
  refine s_if_ne C 63 60 rfl dX9_cover_57 (by decide) hq (fun hq => ?_) (fun hq => ?_)
  rotate_left
  · refine g_bipush (-2) C 62 rfl dX9_cover_60 kb_m2 ?_
    exact w_int (ws := fun s => cs9 a Δ s) hR hq hP hS dX9_cover_62 rfl rfl
  refine g_bipush (-6) C 65 rfl dX9_cover_63 kb_m6 ?_
  refine g_istore [(6, .int (-6)), (0, .ref (a 0)), (1, .int x1), (2, .int x2), (3, .int x3), (4, .int x4), (5, .int x5)] C 67 rfl dX9_cover_65 (Nat.le_of_ble_eq_true rfl) rfl ?_
  refine g_iconst 0 C 68 rfl dX9_cover_67 ki_0 ?_
  refine g_istore [(7, .int 0), (6, .int (-6)), (0, .ref (a 0)), (1, .int x1), (2, .int x2), (3, .int x3), (4, .int x4), (5, .int x5)] C 70 rfl dX9_cover_68 (Nat.le_of_ble_eq_true rfl) rfl ?_
  refine g_iconst 0 C 71 rfl dX9_cover_70 ki_0 ?_
  refine g_istore [(8, .int 0), (7, .int 0), (6, .int (-6)), (0, .ref (a 0)), (1, .int x1), (2, .int x2), (3, .int x3), (4, .int x4), (5, .int x5)] C 73 rfl dX9_cover_71 (Nat.le_of_ble_eq_true rfl) rfl ?_
  have Q73 : ∀ (x1 : Int32) (x2 : Int32) (x3 : Int32) (x4 : Int32) (x5 : Int32), ∀ (n : Nat) (x6 : Int32) (x7 : Int32) (x8 : Int32) (s : S9) (o : (Int32 × Int32 × S9)) (H : Heap) (L : List Loc) (hP : va_P Δ.1 classes (cs9 a Δ s) H) (hD : va_D A (cs9 a Δ s)) (hS : va_S A (sOf Γ).heap H L) (hq : lp_X9_cover_73 x1 x2 x3 x4 x5 n x6 x7 x8 s = some o) (E2 : ∀ (H : Heap) (L : List Loc), va_P Δ.1 classes (cs9 a Δ o.2.2) H → va_D A (cs9 a Δ o.2.2) → va_S A (sOf Γ).heap H L → g Γ { frames := 3, cells := 0, slots := 0, locals := 80 } 10 H L 0 0 134 [(5, .int x5), (6, .int o.1), (7, .int o.2.1)] []), g Γ { frames := 3, cells := 0, slots := 0, locals := 80 } 10 H L 0 0 73 [(0, .ref (a 0)), (1, .int x1), (2, .int x2), (3, .int x3), (4, .int x4), (5, .int x5), (6, .int x6), (7, .int x7), (8, .int x8)] [] := by
    intro x1 x2 x3 x4 x5
    intro n
    induction n with
    | zero => intro x6 x7 x8 s o H L hP hD hS hq; exact nomatch (show (none : Option (Int32 × Int32 × S9)) = some o from hq)
    | succ n ih =>
      intro x6 x7 x8 s o H L hP hD hS hq E2
      have hq : bd_X9_cover_73 x1 x2 x3 x4 x5 (lp_X9_cover_73 x1 x2 x3 x4 x5 n) x6 x7 x8 s = some o := hq
      have K110 : ∀ (x6 : Int32) (x8 : Int32) (x9 : Int32) (y0 : Int32) (s : S9) (H : Heap) (L : List Loc) (hP : va_P Δ.1 classes (cs9 a Δ s) H) (hD : va_D A (cs9 a Δ s)) (hS : va_S A (sOf Γ).heap H L), jn_X9_cover_110 (lp_X9_cover_73 x1 x2 x3 x4 x5 n) x1 x2 x3 x4 x5 x6 x8 x9 y0 s = some o → g Γ { frames := 3, cells := 0, slots := 0, locals := 80 } 10 H L 0 0 110 [(0, .ref (a 0)), (1, .int x1), (2, .int x2), (3, .int x3), (4, .int x4), (5, .int x5), (6, .int x6), (8, .int x8), (9, .int x9)] [.int y0] := by
        intro x6 x8 x9 y0 s H L hP hD hS hq
        refine g_istore [(7, .int y0), (0, .ref (a 0)), (1, .int x1), (2, .int x2), (3, .int x3), (4, .int x4), (5, .int x5), (6, .int x6), (8, .int x8), (9, .int x9)] C 112 rfl dX9_cover_110 (Nat.le_of_ble_eq_true rfl) rfl ?_
        refine g_iload C 114 rfl dX9_cover_112 9 rfl ?_
        refine g_iload C 116 rfl dX9_cover_114 7 rfl ?_
        refine s_icmp_le C 124 119 rfl dX9_cover_116 (by decide) hq (fun hq => ?_) (fun hq => ?_)
        · refine g_iload C 126 rfl dX9_cover_124 7 rfl ?_
          refine g_istore [(6, .int x6), (7, .int y0), (0, .ref (a 0)), (1, .int x1), (2, .int x2), (3, .int x3), (4, .int x4), (5, .int x5), (8, .int x8), (9, .int x9)] C 128 rfl dX9_cover_126 (Nat.le_of_ble_eq_true rfl) rfl ?_
          refine g_iinc (x8 + 1) [(8, .int (x8 + 1)), (6, .int x6), (7, .int y0), (0, .ref (a 0)), (1, .int x1), (2, .int x2), (3, .int x3), (4, .int x4), (5, .int x5), (9, .int x9)] C 131 rfl dX9_cover_128 8 rfl (ii_1 _) (Nat.le_of_ble_eq_true rfl) rfl ?_
          refine g_goto C 73 dX9_cover_131 (by decide) ?_
          exact g_sub [3, 4, 5, 6, 7, 8, 1, 2, 0] rfl (ih x6 y0 (x8 + 1) s _ _ _ hP hD hS hq E2)
        refine g_iload C 121 rfl dX9_cover_119 9 rfl ?_
        refine g_goto C 126 dX9_cover_121 (by decide) ?_
        refine g_istore [(6, .int x9), (7, .int y0), (0, .ref (a 0)), (1, .int x1), (2, .int x2), (3, .int x3), (4, .int x4), (5, .int x5), (8, .int x8), (9, .int x9)] C 128 rfl dX9_cover_126 (Nat.le_of_ble_eq_true rfl) rfl ?_
        refine g_iinc (x8 + 1) [(8, .int (x8 + 1)), (6, .int x9), (7, .int y0), (0, .ref (a 0)), (1, .int x1), (2, .int x2), (3, .int x3), (4, .int x4), (5, .int x5), (9, .int x9)] C 131 rfl dX9_cover_128 8 rfl (ii_1 _) (Nat.le_of_ble_eq_true rfl) rfl ?_
        refine g_goto C 73 dX9_cover_131 (by decide) ?_
        exact g_sub [3, 4, 5, 6, 7, 8, 1, 2, 0] rfl (ih x9 y0 (x8 + 1) s _ _ _ hP hD hS hq E2)
      refine g_iload C 75 rfl dX9_cover_73 8 rfl ?_
      refine g_sipush 729 C 78 rfl dX9_cover_75 ks_729 ?_
      refine s_icmp_ge C 134 81 rfl dX9_cover_78 (by decide) hq (fun hq => ?_) (fun hq => ?_)
      · cases hq
        exact g_sub [5, 6, 7] rfl (E2 _ _ hP hD hS)
      refine g_aload_n C 82 rfl dX9_cover_81 0 rfl ?_
      refine g_iload C 84 rfl dX9_cover_82 8 rfl ?_
      refine g_iload_n C 85 rfl dX9_cover_84 1 rfl ?_
      refine g_iload_n C 86 rfl dX9_cover_85 2 rfl ?_
      refine g_iload_n C 87 rfl dX9_cover_86 3 rfl ?_
      refine g_iload C 89 rfl dX9_cover_87 4 rfl ?_
      obtain ⟨r11, hz12, hq⟩ := bindE hq
      refine g_callWV (rest := []) (cs9 a Δ r11.2) C 92 rfl dX9_cover_89 (c_X9_covered Γ.2.1 Δ a x8 x1 x2 x3 x4 s hz12) mv_X9_covered ml_X9_287 hK hP hD hS hA [0, 1, 2, 3, 4, 5, 6, 7, 8, 9, 10, 11, 12, 13, 14, 15, 16, 17, 18, 19, 20, 21, 22, 23] [] [0, 1, 2, 3, 4, 5, 6, 7, 8, 9, 10, 11, 12, 13, 14, 15, 16, 17, 18, 19, 20, 21, 22, 23] rfl (by decide) (wr := []) rfl (by decide) (by decide) rfl rfl rfl rfl rfl rfl rfl rfl ⟨Nat.le_of_ble_eq_true rfl, Nat.le_of_ble_eq_true rfl⟩ (Nat.le_of_ble_eq_true rfl) ⟨Nat.zero_le _, Nat.zero_le _⟩ (fun H L hP hD hS => ?_)
      refine g_istore [(9, .int r11.1), (0, .ref (a 0)), (1, .int x1), (2, .int x2), (3, .int x3), (4, .int x4), (5, .int x5), (6, .int x6), (7, .int x7), (8, .int x8)] C 94 rfl dX9_cover_92 (Nat.le_of_ble_eq_true rfl) rfl ?_
      refine g_iload C 96 rfl dX9_cover_94 0 rfl ?_
      refine g_iload C 98 rfl dX9_cover_96 7 rfl ?_
      refine s_icmp_le C 108 101 rfl dX9_cover_98 (by decide) hq (fun hq => ?_) (fun hq => ?_)
      · refine g_iload C 110 rfl dX9_cover_108 8 rfl ?_
        exact g_sub [1, 2, 3, 4, 5, 6, 7, 9, 0] rfl (K110 x6 x8 r11.1 x7 r11.2 _ _ hP hD hS hq)
      refine g_aload_n C 102 rfl dX9_cover_101 1 rfl ?_
      refine g_get (v := .int (x9_coverDigits r11.2)) C 105 rfl dX9_cover_102 hK hP la_X9 0 33 (Nat.le_of_ble_eq_true rfl) fl_X9_282 rfl rfl rfl rfl ?_
      refine g_goto C 110 dX9_cover_105 (by decide) ?_
      exact g_sub [1, 2, 3, 4, 5, 6, 7, 9, 0] rfl (K110 x6 x8 r11.1 (x9_coverDigits r11.2) r11.2 _ _ hP hD hS hq)
  obtain ⟨o13, ho14, hq⟩ := bindE hq
  refine g_sub [3, 4, 5, 6, 7, 8, 2, 1, 0] rfl (Q73 x1 x2 x3 x4 x5 FUEL (-6) 0 0 s o13 _ _ hP hD hS ho14 (fun H L hP hD hS => ?_))
  refine g_iload C 136 rfl dX9_cover_134 0 rfl ?_
  refine s_if_ne C 144 139 rfl dX9_cover_136 (by decide) hq (fun hq => ?_) (fun hq => ?_)
  · refine g_iload C 146 rfl dX9_cover_144 2 rfl ?_
    exact w_int (ws := fun s => cs9 a Δ s) hR hq hP hS dX9_cover_146 rfl rfl
  refine g_iload C 141 rfl dX9_cover_139 1 rfl ?_
  refine g_goto C 146 dX9_cover_141 (by decide) ?_
  exact w_int (ws := fun s => cs9 a Δ s) hR hq hP hS dX9_cover_146 rfl rfl
set_option maxHeartbeats 4000000 in
set_option maxRecDepth 100000 in
theorem c_X9_lowest (l : Launch) (Δ : gD)  (x0 : Int64) (x2 : Int64) (x4 : Int32)  {res : Int64} (hq : sem_X9_lowest x0 x2 x4  = some res) : MR l yX9_lowest cX9_lowest 11 (some .long) Δ ([]) [.long x0, .long x2, .int x4] 0 0 (.long res) := by
  refine MR.of (by decide) (Nat.le_of_ble_eq_true rfl) ?_
  intro Γ H hl C hK hP hR
  subst hl
  show g Γ { frames := 0, cells := 0, slots := 0, locals := 0 } 11 H [] 0 0 0 [(0, .long x0), (2, .long x2), (4, .int x4)] []
  refine g_lload_n C 1 rfl dX9_lowest_0 1 rfl ?_
  refine g_lstore [(5, .long x2), (0, .long x0), (2, .long x2), (4, .int x4)] C 3 rfl dX9_lowest_1 (Nat.le_of_ble_eq_true rfl) rfl ?_
  refine g_lload_n C 4 rfl dX9_lowest_3 1 rfl ?_
  refine g_lstore [(7, .long x0), (5, .long x2), (0, .long x0), (2, .long x2), (4, .int x4)] C 6 rfl dX9_lowest_4 (Nat.le_of_ble_eq_true rfl) rfl ?_
  have Q6 : ∀ (x0 : Int64) (x2 : Int64) (x4 : Int32), ∀ (n : Nat) (x5 : Int64) (x7 : Int64) (o : (Int64)) (hq : lp_X9_lowest_6 x0 x2 x4 n x5 x7 = some o) (E2 : g Γ { frames := 0, cells := 0, slots := 0, locals := 0 } 11 H [] 0 0 31 [(0, .long x0), (2, .long x2), (4, .int x4), (5, .long o)] []), g Γ { frames := 0, cells := 0, slots := 0, locals := 0 } 11 H [] 0 0 6 [(0, .long x0), (2, .long x2), (4, .int x4), (5, .long x5), (7, .long x7)] [] := by
    intro x0 x2 x4
    intro n
    induction n with
    | zero => intro x5 x7 o hq; exact nomatch (show (none : Option (Int64)) = some o from hq)
    | succ n ih =>
      intro x5 x7 o hq E2
      have hq : bd_X9_lowest_6 x0 x2 x4 (lp_X9_lowest_6 x0 x2 x4 n) x5 x7 = some o := hq
      refine g_lload C 8 rfl dX9_lowest_6 4 rfl ?_
      refine g_lconst 0 C 9 rfl dX9_lowest_8 kl_0 ?_
      refine g_lcmp C 10 rfl dX9_lowest_9 ?_
      refine s_if_eq C 31 13 rfl dX9_lowest_10 (by decide) hq (fun hq => ?_) (fun hq => ?_)
      · cases hq
        exact g_sub [0, 1, 2, 3] rfl (E2 )
      refine g_lload C 15 rfl dX9_lowest_13 3 rfl ?_
      refine g_lload C 17 rfl dX9_lowest_15 4 rfl ?_
      obtain ⟨hz1, hq⟩ := dzl_some hq
      refine g_lrem C 18 rfl dX9_lowest_17 hz1 ?_
      refine g_lstore [(9, .long (jreml x5 x7)), (0, .long x0), (2, .long x2), (4, .int x4), (5, .long x5), (7, .long x7)] C 20 rfl dX9_lowest_18 (Nat.le_of_ble_eq_true rfl) rfl ?_
      refine g_lload C 22 rfl dX9_lowest_20 5 rfl ?_
      refine g_lstore [(5, .long x7), (9, .long (jreml x5 x7)), (0, .long x0), (2, .long x2), (4, .int x4), (7, .long x7)] C 24 rfl dX9_lowest_22 (Nat.le_of_ble_eq_true rfl) rfl ?_
      refine g_lload C 26 rfl dX9_lowest_24 1 rfl ?_
      refine g_lstore [(7, .long (jreml x5 x7)), (5, .long x7), (9, .long (jreml x5 x7)), (0, .long x0), (2, .long x2), (4, .int x4)] C 28 rfl dX9_lowest_26 (Nat.le_of_ble_eq_true rfl) rfl ?_
      refine g_goto C 6 dX9_lowest_28 (by decide) ?_
      exact g_sub [3, 4, 5, 1, 0] rfl (ih x7 (jreml x5 x7) _ hq E2)
  obtain ⟨o2, ho3, hq⟩ := bindE hq
  refine g_sub [2, 3, 4, 1, 0] rfl (Q6 x0 x2 x4 FUEL x2 x0 o2 ho3 (?_))
  refine g_iload C 33 rfl dX9_lowest_31 2 rfl ?_
  refine s_if_ne C 43 36 rfl dX9_lowest_33 (by decide) hq (fun hq => ?_) (fun hq => ?_)
  · refine g_lload_n C 44 rfl dX9_lowest_43 1 rfl ?_
    refine g_lload C 46 rfl dX9_lowest_44 3 rfl ?_
    obtain ⟨hz4, hq⟩ := dzl_some hq
    refine g_ldiv C 47 rfl dX9_lowest_46 hz4 ?_
    exact r_long hR hq dX9_lowest_47 rfl
  refine g_lload_n C 37 rfl dX9_lowest_36 0 rfl ?_
  refine g_lload C 39 rfl dX9_lowest_37 3 rfl ?_
  obtain ⟨hz5, hq⟩ := dzl_some hq
  refine g_ldiv C 40 rfl dX9_lowest_39 hz5 ?_
  refine g_goto C 47 dX9_lowest_40 (by decide) ?_
  exact r_long hR hq dX9_lowest_47 rfl
set_option maxHeartbeats 4000000 in
set_option maxRecDepth 100000 in
theorem c_X9_behindHour (l : Launch) (Δ : gD)  (x0 : Int32)  {res : Int32} (hq : sem_X9_behindHour x0  = some res) : MR l yX9_behindHour cX9_behindHour 1 (some .int) Δ ([]) [.int x0] 0 0 (.int res) := by
  refine MR.of (by decide) (Nat.le_of_ble_eq_true rfl) ?_
  intro Γ H hl C hK hP hR
  subst hl
  show g Γ { frames := 0, cells := 0, slots := 0, locals := 0 } 1 H [] 0 0 0 [(0, .int x0)] []
  refine g_iload_n C 1 rfl dX9_behindHour_0 0 rfl ?_
  refine s_if_le C 10 4 rfl dX9_behindHour_1 (by decide) hq (fun hq => ?_) (fun hq => ?_)
  · refine g_iconst 0 C 11 rfl dX9_behindHour_10 ki_0 ?_
    exact r_int hR hq dX9_behindHour_11 rfl rfl
  refine g_iload_n C 5 rfl dX9_behindHour_4 0 rfl ?_
  refine g_iconst 1 C 6 rfl dX9_behindHour_5 ki_1 ?_
  refine g_isub C 7 rfl dX9_behindHour_6 ?_
  refine g_goto C 11 dX9_behindHour_7 (by decide) ?_
  exact r_int hR hq dX9_behindHour_11 rfl rfl
set_option maxHeartbeats 4000000 in
set_option maxRecDepth 100000 in
theorem c_X9_riskHour (l : Launch) (Δ : gD) (a : Nat → Nat) (x1 : Int32) (x2 : Int32) (x3 : Int32) (s : S9) {res : S9} (hq : sem_X9_riskHour x1 x2 x3 s = some res) : MW l yX9_riskHour cX9_riskHour 6 none Δ (cs9 a Δ s) [.ref (a 0), .int x1, .int x2, .int x3] 1 20 none (cs9 a Δ res) := by
  refine MW.of (by decide) (Nat.le_of_ble_eq_true rfl) ?_
  intro Γ A H hl C hK hP hD hS hA hR
  subst hl
  show g Γ { frames := 1, cells := 0, slots := 0, locals := 20 } 6 H [] 0 0 0 [(0, .ref (a 0)), (1, .int x1), (2, .int x2), (3, .int x3)] []
  refine g_iconst 0 C 1 rfl dX9_riskHour_0 ki_0 ?_
  refine g_istore [(4, .int 0), (0, .ref (a 0)), (1, .int x1), (2, .int x2), (3, .int x3)] C 3 rfl dX9_riskHour_1 (Nat.le_of_ble_eq_true rfl) rfl ?_
  have Q3 : ∀ (x1 : Int32) (x2 : Int32) (x3 : Int32), ∀ (n : Nat) (x4 : Int32) (s : S9) (o : (S9)) (H : Heap) (L : List Loc) (hP : va_P Δ.1 classes (cs9 a Δ s) H) (hD : va_D A (cs9 a Δ s)) (hS : va_S A (sOf Γ).heap H L) (hq : lp_X9_riskHour_3 x1 x2 x3 n x4 s = some o) (E2 : ∀ (H : Heap) (L : List Loc), va_P Δ.1 classes (cs9 a Δ o) H → va_D A (cs9 a Δ o) → va_S A (sOf Γ).heap H L → g Γ { frames := 1, cells := 0, slots := 0, locals := 20 } 6 H L 0 0 24 [(0, .ref (a 0)), (1, .int x1), (2, .int x2), (3, .int x3)] []), g Γ { frames := 1, cells := 0, slots := 0, locals := 20 } 6 H L 0 0 3 [(0, .ref (a 0)), (1, .int x1), (2, .int x2), (3, .int x3), (4, .int x4)] [] := by
    intro x1 x2 x3
    intro n
    induction n with
    | zero => intro x4 s o H L hP hD hS hq; exact nomatch (show (none : Option (S9)) = some o from hq)
    | succ n ih =>
      intro x4 s o H L hP hD hS hq E2
      have hq : bd_X9_riskHour_3 x1 x2 x3 (lp_X9_riskHour_3 x1 x2 x3 n) x4 s = some o := hq
      refine g_iload C 5 rfl dX9_riskHour_3 4 rfl ?_
      refine g_bipush 21 C 7 rfl dX9_riskHour_5 kb_21 ?_
      refine s_icmp_ge C 24 10 rfl dX9_riskHour_7 (by decide) hq (fun hq => ?_) (fun hq => ?_)
      · cases hq
        exact g_sub [0, 1, 2, 3] rfl (E2 _ _ hP hD hS)
      refine g_aload_n C 11 rfl dX9_riskHour_10 0 rfl ?_
      refine g_get (v := .ref (a 21)) C 14 rfl dX9_riskHour_11 hK hP la_X9 0 35 (Nat.le_of_ble_eq_true rfl) fl_X9_71 rfl rfl rfl rfl ?_
      refine g_iload C 16 rfl dX9_riskHour_14 4 rfl ?_
      refine g_lconst 0 C 17 rfl dX9_riskHour_16 kl_0 ?_
      refine s_last (cs9 a Δ (p9_partsThen s (vp_updL (x9_partsThen s) (x4 : Int32).toNatClampNeg 0))) C 18 rfl dX9_riskHour_17 hK hP hD hS 21 rfl hq rfl (fun hq hi1 H L hP hD hS => ?_)
      refine g_iinc (x4 + 1) [(4, .int (x4 + 1)), (0, .ref (a 0)), (1, .int x1), (2, .int x2), (3, .int x3)] C 21 rfl dX9_riskHour_18 4 rfl (ii_1 _) (Nat.le_of_ble_eq_true rfl) rfl ?_
      refine g_goto C 3 dX9_riskHour_21 (by decide) ?_
      exact g_sub [1, 2, 3, 4, 0] rfl (ih (x4 + 1) (p9_partsThen s (vp_updL (x9_partsThen s) (x4 : Int32).toNatClampNeg 0)) _ _ _ hP hD hS hq E2)
  obtain ⟨o2, ho3, hq⟩ := bindE hq
  refine g_sub [1, 2, 3, 4, 0] rfl (Q3 x1 x2 x3 FUEL 0 s o2 _ _ hP hD hS ho3 (fun H L hP hD hS => ?_))
  refine g_aload_n C 25 rfl dX9_riskHour_24 0 rfl ?_
  refine g_dup C 26 rfl dX9_riskHour_25 rfl ?_
  refine g_get (v := .long (x9_meanParts o2)) C 29 rfl dX9_riskHour_26 hK hP la_X9 0 36 (Nat.le_of_ble_eq_true rfl) fl_X9_291 rfl rfl rfl rfl ?_
  refine g_ldc2 10 C 32 rfl dX9_riskHour_29 k_X9_295 ?_
  refine g_lmul C 33 rfl dX9_riskHour_32 ?_
  refine g_put (cs9 a Δ (p9_meanParts o2 ((x9_meanParts o2) * 10))) C 36 rfl dX9_riskHour_33 hK hP hD hS la_X9 tyX9_ok nmX9 0 36 (Nat.le_of_ble_eq_true rfl) fl_X9_291 rfl rfl rfl rfl rfl rfl (Nat.le_of_ble_eq_true rfl) rfl (fun H L hP hD hS => ?_)
  refine g_iconst 0 C 37 rfl dX9_riskHour_36 ki_0 ?_
  refine g_istore [(4, .int 0), (0, .ref (a 0)), (1, .int x1), (2, .int x2), (3, .int x3)] C 39 rfl dX9_riskHour_37 (Nat.le_of_ble_eq_true rfl) rfl ?_
  have Q39 : ∀ (x1 : Int32) (x2 : Int32) (x3 : Int32), ∀ (n : Nat) (x4 : Int32) (s : S9) (o : (S9)) (H : Heap) (L : List Loc) (hP : va_P Δ.1 classes (cs9 a Δ s) H) (hD : va_D A (cs9 a Δ s)) (hS : va_S A (sOf Γ).heap H L) (hq : lp_X9_riskHour_39 x1 x2 x3 n x4 s = some o) (E2 : ∀ (H : Heap) (L : List Loc), va_P Δ.1 classes (cs9 a Δ o) H → va_D A (cs9 a Δ o) → va_S A (sOf Γ).heap H L → g Γ { frames := 1, cells := 0, slots := 0, locals := 20 } 6 H L 0 0 174 [(0, .ref (a 0))] []), g Γ { frames := 1, cells := 0, slots := 0, locals := 20 } 6 H L 0 0 39 [(0, .ref (a 0)), (1, .int x1), (2, .int x2), (3, .int x3), (4, .int x4)] [] := by
    intro x1 x2 x3
    intro n
    induction n with
    | zero => intro x4 s o H L hP hD hS hq; exact nomatch (show (none : Option (S9)) = some o from hq)
    | succ n ih =>
      intro x4 s o H L hP hD hS hq E2
      have hq : bd_X9_riskHour_39 x1 x2 x3 (lp_X9_riskHour_39 x1 x2 x3 n) x4 s = some o := hq
      have K156 : ∀ (x4 : Int32) (y1 : Int32) (y2 : Int64) (s : S9) (H : Heap) (L : List Loc) (hP : va_P Δ.1 classes (cs9 a Δ s) H) (hD : va_D A (cs9 a Δ s)) (hS : va_S A (sOf Γ).heap H L), jn_X9_riskHour_156 (lp_X9_riskHour_39 x1 x2 x3 n) x1 x2 x3 x4 y1 y2 s = some o → g Γ { frames := 1, cells := 0, slots := 0, locals := 20 } 6 H L 0 0 156 [(0, .ref (a 0)), (1, .int x1), (2, .int x2), (3, .int x3), (4, .int x4)] [.long y2, .int y1, .ref (a 21)] := by
        intro x4 y1 y2 s H L hP hD hS hq
        refine g_iload_n C 157 rfl dX9_riskHour_156 2 rfl ?_
        refine g_i2l C 158 rfl dX9_riskHour_157 ?_
        refine g_aload_n C 159 rfl dX9_riskHour_158 0 rfl ?_
        refine g_get (v := .ref (a 20)) C 162 rfl dX9_riskHour_159 hK hP la_X9 0 34 (Nat.le_of_ble_eq_true rfl) fl_X9_67 rfl rfl rfl rfl ?_
        refine g_iload C 164 rfl dX9_riskHour_162 4 rfl ?_
        refine s_lald C 165 rfl dX9_riskHour_164 hK hP 20 rfl hq (fun hq hi4 => ?_)
        refine g_lmul C 166 rfl dX9_riskHour_165 ?_
        refine g_ladd C 167 rfl dX9_riskHour_166 ?_
        refine s_last (cs9 a Δ (p9_partsThen s (vp_updL (x9_partsThen s) (y1 : Int32).toNatClampNeg (y2 + ((Int32.toInt64 x2) * ((x9_parts s) (x4 : Int32).toNatClampNeg)))))) C 168 rfl dX9_riskHour_167 hK hP hD hS 21 rfl hq rfl (fun hq hi5 H L hP hD hS => ?_)
        refine g_iinc (x4 + 1) [(4, .int (x4 + 1)), (0, .ref (a 0)), (1, .int x1), (2, .int x2), (3, .int x3)] C 171 rfl dX9_riskHour_168 4 rfl (ii_1 _) (Nat.le_of_ble_eq_true rfl) rfl ?_
        refine g_goto C 39 dX9_riskHour_171 (by decide) ?_
        exact g_sub [1, 2, 3, 4, 0] rfl (ih (x4 + 1) (p9_partsThen s (vp_updL (x9_partsThen s) (y1 : Int32).toNatClampNeg (y2 + ((Int32.toInt64 x2) * ((x9_parts s) (x4 : Int32).toNatClampNeg))))) _ _ _ hP hD hS hq E2)
      have K141 : ∀ (x4 : Int32) (x5 : Int32) (y1 : Int32) (s : S9) (H : Heap) (L : List Loc) (hP : va_P Δ.1 classes (cs9 a Δ s) H) (hD : va_D A (cs9 a Δ s)) (hS : va_S A (sOf Γ).heap H L), jn_X9_riskHour_141 (lp_X9_riskHour_39 x1 x2 x3 n) x1 x2 x3 x4 x5 y1 s = some o → g Γ { frames := 1, cells := 0, slots := 0, locals := 20 } 6 H L 0 0 141 [(0, .ref (a 0)), (1, .int x1), (2, .int x2), (3, .int x3), (4, .int x4), (5, .int x5)] [.int y1, .ref (a 21)] := by
        intro x4 x5 y1 s H L hP hD hS hq
        refine g_dup2 C 142 rfl dX9_riskHour_141 rfl rfl ?_
        refine s_lald C 143 rfl dX9_riskHour_142 hK hP 21 rfl hq (fun hq hi6 => ?_)
        refine g_iload C 145 rfl dX9_riskHour_143 5 rfl ?_
        refine s_if_eq C 156 148 rfl dX9_riskHour_145 (by decide) hq (fun hq => ?_) (fun hq => ?_)
        · exact g_sub [0, 1, 2, 3, 4] rfl (K156 x4 y1 ((x9_partsThen s) (y1 : Int32).toNatClampNeg) s _ _ hP hD hS hq)
        refine g_iload_n C 149 rfl dX9_riskHour_148 3 rfl ?_
        refine s_if_ne C 156 152 rfl dX9_riskHour_149 (by decide) hq (fun hq => ?_) (fun hq => ?_)
        · exact g_sub [0, 1, 2, 3, 4] rfl (K156 x4 y1 ((x9_partsThen s) (y1 : Int32).toNatClampNeg) s _ _ hP hD hS hq)
        refine g_lconst 0 C 153 rfl dX9_riskHour_152 kl_0 ?_
        refine g_goto C 166 dX9_riskHour_153 (by decide) ?_
        refine g_ladd C 167 rfl dX9_riskHour_166 ?_
        refine g_last (cs9 a Δ (p9_partsThen s (vp_updL (x9_partsThen s) (y1 : Int32).toNatClampNeg (((x9_partsThen s) (y1 : Int32).toNatClampNeg) + 0)))) C 168 rfl dX9_riskHour_167 hK hP hD hS 21 rfl hi6 rfl (fun H L hP hD hS => ?_)
        refine g_iinc (x4 + 1) [(4, .int (x4 + 1)), (0, .ref (a 0)), (1, .int x1), (2, .int x2), (3, .int x3), (5, .int x5)] C 171 rfl dX9_riskHour_168 4 rfl (ii_1 _) (Nat.le_of_ble_eq_true rfl) rfl ?_
        refine g_goto C 39 dX9_riskHour_171 (by decide) ?_
        exact g_sub [1, 2, 3, 4, 0] rfl (ih (x4 + 1) (p9_partsThen s (vp_updL (x9_partsThen s) (y1 : Int32).toNatClampNeg (((x9_partsThen s) (y1 : Int32).toNatClampNeg) + 0))) _ _ _ hP hD hS hq E2)
      have K90 : ∀ (x4 : Int32) (x5 : Int32) (y1 : Int64) (y2 : Int64) (s : S9) (H : Heap) (L : List Loc) (hP : va_P Δ.1 classes (cs9 a Δ s) H) (hD : va_D A (cs9 a Δ s)) (hS : va_S A (sOf Γ).heap H L), jn_X9_riskHour_90 (lp_X9_riskHour_39 x1 x2 x3 n) x1 x2 x3 x4 x5 y1 y2 s = some o → g Γ { frames := 1, cells := 0, slots := 0, locals := 20 } 6 H L 0 0 90 [(0, .ref (a 0)), (1, .int x1), (2, .int x2), (3, .int x3), (4, .int x4), (5, .int x5)] [.long y2, .long y1, .ref (a 0)] := by
        intro x4 x5 y1 y2 s H L hP hD hS hq
        refine g_ladd C 91 rfl dX9_riskHour_90 ?_
        refine g_put (cs9 a Δ (p9_meanParts s (y1 + y2))) C 94 rfl dX9_riskHour_91 hK hP hD hS la_X9 tyX9_ok nmX9 0 36 (Nat.le_of_ble_eq_true rfl) fl_X9_291 rfl rfl rfl rfl rfl rfl (Nat.le_of_ble_eq_true rfl) rfl (fun H L hP hD hS => ?_)
        refine g_aload_n C 95 rfl dX9_riskHour_94 0 rfl ?_
        refine g_get (v := .ref (a 21)) C 98 rfl dX9_riskHour_95 hK hP la_X9 0 35 (Nat.le_of_ble_eq_true rfl) fl_X9_71 rfl rfl rfl rfl ?_
        refine g_iload C 100 rfl dX9_riskHour_98 4 rfl ?_
        obtain ⟨r7, hz8, hq⟩ := bindE hq
        refine g_callRS (rest := [.ref (a 21)]) C 103 rfl dX9_riskHour_100 (c_X9_behindHour Γ.2.1 Δ  x4  hz8) mv_X9_behindHour (Or.inl ml_X9_297) hK rfl rfl ⟨Nat.le_of_ble_eq_true rfl, Nat.le_of_ble_eq_true rfl⟩ (Nat.le_of_ble_eq_true rfl) ⟨Nat.zero_le _, Nat.zero_le _⟩ ?_
        refine g_dup2 C 104 rfl dX9_riskHour_103 rfl rfl ?_
        refine s_lald C 105 rfl dX9_riskHour_104 hK hP 21 rfl hq (fun hq hi9 => ?_)
        refine g_ldc2 10 C 108 rfl dX9_riskHour_105 k_X9_295 ?_
        refine g_iload_n C 109 rfl dX9_riskHour_108 2 rfl ?_
        refine g_i2l C 110 rfl dX9_riskHour_109 ?_
        refine g_lsub C 111 rfl dX9_riskHour_110 ?_
        refine g_aload_n C 112 rfl dX9_riskHour_111 0 rfl ?_
        refine g_get (v := .ref (a 20)) C 115 rfl dX9_riskHour_112 hK hP la_X9 0 34 (Nat.le_of_ble_eq_true rfl) fl_X9_67 rfl rfl rfl rfl ?_
        refine g_iload C 117 rfl dX9_riskHour_115 4 rfl ?_
        refine s_lald C 118 rfl dX9_riskHour_117 hK hP 20 rfl hq (fun hq hi10 => ?_)
        refine g_lmul C 119 rfl dX9_riskHour_118 ?_
        refine g_ladd C 120 rfl dX9_riskHour_119 ?_
        refine g_last (cs9 a Δ (p9_partsThen (p9_meanParts s (y1 + y2)) (vp_updL (x9_partsThen s) (r7 : Int32).toNatClampNeg (((x9_partsThen s) (r7 : Int32).toNatClampNeg) + ((10 - (Int32.toInt64 x2)) * ((x9_parts s) (x4 : Int32).toNatClampNeg)))))) C 121 rfl dX9_riskHour_120 hK hP hD hS 21 rfl hi9 rfl (fun H L hP hD hS => ?_)
        refine g_aload_n C 122 rfl dX9_riskHour_121 0 rfl ?_
        refine g_get (v := .ref (a 21)) C 125 rfl dX9_riskHour_122 hK hP la_X9 0 35 (Nat.le_of_ble_eq_true rfl) fl_X9_71 rfl rfl rfl rfl ?_
        refine g_iload C 127 rfl dX9_riskHour_125 5 rfl ?_
        refine s_if_eq C 134 130 rfl dX9_riskHour_127 (by decide) hq (fun hq => ?_) (fun hq => ?_)
        rotate_left
        · refine g_iconst 0 C 131 rfl dX9_riskHour_130 ki_0 ?_
          refine g_goto C 141 dX9_riskHour_131 (by decide) ?_
          exact g_sub [0, 1, 2, 3, 4, 5] rfl (K141 x4 x5 0 (p9_partsThen (p9_meanParts s (y1 + y2)) (vp_updL (x9_partsThen s) (r7 : Int32).toNatClampNeg (((x9_partsThen s) (r7 : Int32).toNatClampNeg) + ((10 - (Int32.toInt64 x2)) * ((x9_parts s) (x4 : Int32).toNatClampNeg))))) _ _ hP hD hS hq)
        refine g_iload C 136 rfl dX9_riskHour_134 4 rfl ?_
        refine g_iload_n C 137 rfl dX9_riskHour_136 1 rfl ?_
        refine g_iadd C 138 rfl dX9_riskHour_137 ?_
        obtain ⟨r11, hz12, hq⟩ := bindE hq
        refine g_callRS (rest := [.ref (a 21)]) C 141 rfl dX9_riskHour_138 (c_X9_behindHour Γ.2.1 Δ  (x4 + x1)  hz12) mv_X9_behindHour (Or.inl ml_X9_297) hK rfl rfl ⟨Nat.le_of_ble_eq_true rfl, Nat.le_of_ble_eq_true rfl⟩ (Nat.le_of_ble_eq_true rfl) ⟨Nat.zero_le _, Nat.zero_le _⟩ ?_
        exact g_sub [0, 1, 2, 3, 4, 5] rfl (K141 x4 x5 r11 (p9_partsThen (p9_meanParts s (y1 + y2)) (vp_updL (x9_partsThen s) (r7 : Int32).toNatClampNeg (((x9_partsThen s) (r7 : Int32).toNatClampNeg) + ((10 - (Int32.toInt64 x2)) * ((x9_parts s) (x4 : Int32).toNatClampNeg))))) _ _ hP hD hS hq)
      have K64 : ∀ (x4 : Int32) (y0 : Int32) (s : S9) (H : Heap) (L : List Loc) (hP : va_P Δ.1 classes (cs9 a Δ s) H) (hD : va_D A (cs9 a Δ s)) (hS : va_S A (sOf Γ).heap H L), jn_X9_riskHour_64 (lp_X9_riskHour_39 x1 x2 x3 n) x1 x2 x3 x4 y0 s = some o → g Γ { frames := 1, cells := 0, slots := 0, locals := 20 } 6 H L 0 0 64 [(0, .ref (a 0)), (1, .int x1), (2, .int x2), (3, .int x3), (4, .int x4)] [.int y0] := by
        intro x4 y0 s H L hP hD hS hq
        refine g_istore [(5, .int y0), (0, .ref (a 0)), (1, .int x1), (2, .int x2), (3, .int x3), (4, .int x4)] C 66 rfl dX9_riskHour_64 (Nat.le_of_ble_eq_true rfl) rfl ?_
        refine g_aload_n C 67 rfl dX9_riskHour_66 1 rfl ?_
        refine g_dup C 68 rfl dX9_riskHour_67 rfl ?_
        refine g_get (v := .long (x9_meanParts s)) C 71 rfl dX9_riskHour_68 hK hP la_X9 0 36 (Nat.le_of_ble_eq_true rfl) fl_X9_291 rfl rfl rfl rfl ?_
        refine g_iload C 73 rfl dX9_riskHour_71 0 rfl ?_
        refine s_if_eq C 89 76 rfl dX9_riskHour_73 (by decide) hq (fun hq => ?_) (fun hq => ?_)
        · refine g_lconst 0 C 90 rfl dX9_riskHour_89 kl_0 ?_
          exact g_sub [1, 2, 3, 4, 5, 0] rfl (K90 x4 y0 (x9_meanParts s) 0 s _ _ hP hD hS hq)
        refine g_iload_n C 77 rfl dX9_riskHour_76 3 rfl ?_
        refine g_i2l C 78 rfl dX9_riskHour_77 ?_
        refine g_aload_n C 79 rfl dX9_riskHour_78 1 rfl ?_
        refine g_get (v := .ref (a 20)) C 82 rfl dX9_riskHour_79 hK hP la_X9 0 34 (Nat.le_of_ble_eq_true rfl) fl_X9_67 rfl rfl rfl rfl ?_
        refine g_iload C 84 rfl dX9_riskHour_82 5 rfl ?_
        refine s_lald C 85 rfl dX9_riskHour_84 hK hP 20 rfl hq (fun hq hi13 => ?_)
        refine g_lmul C 86 rfl dX9_riskHour_85 ?_
        refine g_goto C 90 dX9_riskHour_86 (by decide) ?_
        exact g_sub [1, 2, 3, 4, 5, 0] rfl (K90 x4 y0 (x9_meanParts s) ((Int32.toInt64 x2) * ((x9_parts s) (x4 : Int32).toNatClampNeg)) s _ _ hP hD hS hq)
      refine g_iload C 41 rfl dX9_riskHour_39 4 rfl ?_
      refine g_aload_n C 42 rfl dX9_riskHour_41 0 rfl ?_
      refine g_get (v := .int (x9_limit s)) C 45 rfl dX9_riskHour_42 hK hP la_X9 0 1 (Nat.le_of_ble_eq_true rfl) fl_X9_81 rfl rfl rfl rfl ?_
      refine s_icmp_gt C 174 48 rfl dX9_riskHour_45 (by decide) hq (fun hq => ?_) (fun hq => ?_)
      · cases hq
        exact g_sub [0] rfl (E2 _ _ hP hD hS)
      refine g_iload C 50 rfl dX9_riskHour_48 4 rfl ?_
      refine g_iload_n C 51 rfl dX9_riskHour_50 1 rfl ?_
      refine g_iadd C 52 rfl dX9_riskHour_51 ?_
      refine g_aload_n C 53 rfl dX9_riskHour_52 0 rfl ?_
      refine g_get (v := .int (x9_limit s)) C 56 rfl dX9_riskHour_53 hK hP la_X9 0 1 (Nat.le_of_ble_eq_true rfl) fl_X9_81 rfl rfl rfl rfl ?_
      refine s_icmp_le C 63 59 rfl dX9_riskHour_56 (by decide) hq (fun hq => ?_) (fun hq => ?_)
      · refine g_iconst 0 C 64 rfl dX9_riskHour_63 ki_0 ?_
        exact g_sub [0, 1, 2, 3, 4] rfl (K64 x4 0 s _ _ hP hD hS hq)
      refine g_iconst 1 C 60 rfl dX9_riskHour_59 ki_1 ?_
      refine g_goto C 64 dX9_riskHour_60 (by decide) ?_
      exact g_sub [0, 1, 2, 3, 4] rfl (K64 x4 1 s _ _ hP hD hS hq)
  obtain ⟨o14, ho15, hq⟩ := bindE hq
  refine g_sub [1, 2, 3, 4, 0] rfl (Q39 x1 x2 x3 FUEL 0 (p9_meanParts o2 ((x9_meanParts o2) * 10)) o14 _ _ hP hD hS ho15 (fun H L hP hD hS => ?_))
  refine g_iconst 0 C 175 rfl dX9_riskHour_174 ki_0 ?_
  refine g_istore [(4, .int 0), (0, .ref (a 0))] C 177 rfl dX9_riskHour_175 (Nat.le_of_ble_eq_true rfl) rfl ?_
  have Q177 : ∀ (n : Nat) (x4 : Int32) (s : S9) (o : (S9)) (H : Heap) (L : List Loc) (hP : va_P Δ.1 classes (cs9 a Δ s) H) (hD : va_D A (cs9 a Δ s)) (hS : va_S A (sOf Γ).heap H L) (hq : lp_X9_riskHour_177  n x4 s = some o) (E2 : ∀ (H : Heap) (L : List Loc), va_P Δ.1 classes (cs9 a Δ o) H → va_D A (cs9 a Δ o) → va_S A (sOf Γ).heap H L → g Γ { frames := 1, cells := 0, slots := 0, locals := 20 } 6 H L 0 0 204 [] []), g Γ { frames := 1, cells := 0, slots := 0, locals := 20 } 6 H L 0 0 177 [(0, .ref (a 0)), (4, .int x4)] [] := by
    intro n
    induction n with
    | zero => intro x4 s o H L hP hD hS hq; exact nomatch (show (none : Option (S9)) = some o from hq)
    | succ n ih =>
      intro x4 s o H L hP hD hS hq E2
      have hq : bd_X9_riskHour_177  (lp_X9_riskHour_177  n) x4 s = some o := hq
      refine g_iload C 179 rfl dX9_riskHour_177 1 rfl ?_
      refine g_bipush 21 C 181 rfl dX9_riskHour_179 kb_21 ?_
      refine s_icmp_ge C 204 184 rfl dX9_riskHour_181 (by decide) hq (fun hq => ?_) (fun hq => ?_)
      · cases hq
        exact g_sub [] rfl (E2 _ _ hP hD hS)
      refine g_aload_n C 185 rfl dX9_riskHour_184 0 rfl ?_
      refine g_get (v := .ref (a 20)) C 188 rfl dX9_riskHour_185 hK hP la_X9 0 34 (Nat.le_of_ble_eq_true rfl) fl_X9_67 rfl rfl rfl rfl ?_
      refine g_iload C 190 rfl dX9_riskHour_188 1 rfl ?_
      refine g_aload_n C 191 rfl dX9_riskHour_190 0 rfl ?_
      refine g_get (v := .ref (a 21)) C 194 rfl dX9_riskHour_191 hK hP la_X9 0 35 (Nat.le_of_ble_eq_true rfl) fl_X9_71 rfl rfl rfl rfl ?_
      refine g_iload C 196 rfl dX9_riskHour_194 1 rfl ?_
      refine s_lald C 197 rfl dX9_riskHour_196 hK hP 21 rfl hq (fun hq hi16 => ?_)
      refine s_last (cs9 a Δ (p9_parts s (vp_updL (x9_parts s) (x4 : Int32).toNatClampNeg ((x9_partsThen s) (x4 : Int32).toNatClampNeg)))) C 198 rfl dX9_riskHour_197 hK hP hD hS 20 rfl hq rfl (fun hq hi17 H L hP hD hS => ?_)
      refine g_iinc (x4 + 1) [(4, .int (x4 + 1)), (0, .ref (a 0))] C 201 rfl dX9_riskHour_198 1 rfl (ii_1 _) (Nat.le_of_ble_eq_true rfl) rfl ?_
      refine g_goto C 177 dX9_riskHour_201 (by decide) ?_
      exact g_sub [1, 0] rfl (ih (x4 + 1) (p9_parts s (vp_updL (x9_parts s) (x4 : Int32).toNatClampNeg ((x9_partsThen s) (x4 : Int32).toNatClampNeg))) _ _ _ hP hD hS hq E2)
  obtain ⟨o18, ho19, hq⟩ := bindE hq
  refine g_sub [1, 0] rfl (Q177  FUEL 0 o14 o18 _ _ hP hD hS ho19 (fun H L hP hD hS => ?_))
  exact w_void (ws := fun s => cs9 a Δ s) hR hq hP hS dX9_riskHour_204 rfl
set_option maxHeartbeats 4000000 in
set_option maxRecDepth 100000 in
theorem c_X9_risk (l : Launch) (Δ : gD) (a : Nat → Nat) (x1 : Int32) (x2 : Int32) (x3 : Int32) (x4 : Int32) (x5 : Int32) (x6 : Int32) (s : S9) {res : Int64 × S9} (hq : sem_X9_risk x1 x2 x3 x4 x5 x6 s = some res) : MW l yX9_risk cX9_risk 13 (some .long) Δ (cs9 a Δ s) [.ref (a 0), .int x1, .int x2, .int x3, .int x4, .int x5, .int x6] 2 45 (some (.long res.1)) (cs9 a Δ res.2) := by
  refine MW.of (by decide) (Nat.le_of_ble_eq_true rfl) ?_
  intro Γ A H hl C hK hP hD hS hA hR
  subst hl
  have K56 : ∀ (x1 : Int32) (x2 : Int32) (x3 : Int32) (x4 : Int32) (x5 : Int32) (x6 : Int32) (y0 : Int32) (s : S9) (H : Heap) (L : List Loc) (hP : va_P Δ.1 classes (cs9 a Δ s) H) (hD : va_D A (cs9 a Δ s)) (hS : va_S A (sOf Γ).heap H L), jn_X9_risk_56 x1 x2 x3 x4 x5 x6 y0 s = some res → g Γ { frames := 2, cells := 0, slots := 0, locals := 45 } 13 H L 0 0 56 [(0, .ref (a 0)), (1, .int x1), (2, .int x2), (3, .int x3), (4, .int x4), (5, .int x5), (6, .int x6)] [.int y0] := by
    intro x1 x2 x3 x4 x5 x6 y0 s H L hP hD hS hq
    refine g_istore [(7, .int y0), (0, .ref (a 0)), (1, .int x1), (2, .int x2), (3, .int x3), (4, .int x4), (5, .int x5), (6, .int x6)] C 58 rfl dX9_risk_56 (Nat.le_of_ble_eq_true rfl) rfl ?_
    refine g_iload C 60 rfl dX9_risk_58 0 rfl ?_
    refine s_if_eq C 85 63 rfl dX9_risk_60 (by decide) hq (fun hq => ?_) (fun hq => ?_)
    · refine g_ldc2 (-1000000000000000002) C 88 rfl dX9_risk_85 k_X9_302 ?_
      exact w_long (ws := fun s => cs9 a Δ s) hR hq hP hS dX9_risk_88 rfl
    refine g_iload C 65 rfl dX9_risk_63 6 rfl ?_
    refine g_i2l C 66 rfl dX9_risk_65 ?_
    refine g_lconst 0 C 67 rfl dX9_risk_66 kl_0 ?_
    refine g_lconst 1 C 68 rfl dX9_risk_67 kl_1 ?_
    obtain ⟨r1, hz2, hq⟩ := bindE hq
    refine g_callRS (rest := []) C 71 rfl dX9_risk_68 (c_X9_in Γ.2.1 Δ  (Int32.toInt64 x5) 0 1  hz2) mv_X9_in (Or.inl ml_X9_90) hK rfl rfl ⟨Nat.le_of_ble_eq_true rfl, Nat.le_of_ble_eq_true rfl⟩ (Nat.le_of_ble_eq_true rfl) ⟨Nat.zero_le _, Nat.zero_le _⟩ ?_
    refine s_if_eq C 85 74 rfl dX9_risk_71 (by decide) hq (fun hq => ?_) (fun hq => ?_)
    · refine g_ldc2 (-1000000000000000002) C 88 rfl dX9_risk_85 k_X9_302 ?_
      exact w_long (ws := fun s => cs9 a Δ s) hR hq hP hS dX9_risk_88 rfl
    refine g_iload C 76 rfl dX9_risk_74 7 rfl ?_
    refine g_i2l C 77 rfl dX9_risk_76 ?_
    refine g_lconst 0 C 78 rfl dX9_risk_77 kl_0 ?_
    refine g_lconst 1 C 79 rfl dX9_risk_78 kl_1 ?_
    obtain ⟨r3, hz4, hq⟩ := bindE hq
    refine g_callRS (rest := []) C 82 rfl dX9_risk_79 (c_X9_in Γ.2.1 Δ  (Int32.toInt64 x6) 0 1  hz4) mv_X9_in (Or.inl ml_X9_90) hK rfl rfl ⟨Nat.le_of_ble_eq_true rfl, Nat.le_of_ble_eq_true rfl⟩ (Nat.le_of_ble_eq_true rfl) ⟨Nat.zero_le _, Nat.zero_le _⟩ ?_
    refine s_if_ne C 89 85 rfl dX9_risk_82 (by decide) hq (fun hq => ?_) (fun hq => ?_)
    rotate_left
    · refine g_ldc2 (-1000000000000000002) C 88 rfl dX9_risk_85 k_X9_302 ?_
      exact w_long (ws := fun s => cs9 a Δ s) hR hq hP hS dX9_risk_88 rfl
    refine g_iconst 0 C 90 rfl dX9_risk_89 ki_0 ?_
    refine g_istore [(8, .int 0), (7, .int y0), (0, .ref (a 0)), (1, .int x1), (2, .int x2), (3, .int x3), (4, .int x4), (5, .int x5), (6, .int x6)] C 92 rfl dX9_risk_90 (Nat.le_of_ble_eq_true rfl) rfl ?_
    have Q92 : ∀ (x1 : Int32) (x2 : Int32) (x3 : Int32) (x4 : Int32) (x5 : Int32) (x6 : Int32), ∀ (n : Nat) (x8 : Int32) (s : S9) (o : (S9)) (H : Heap) (L : List Loc) (hP : va_P Δ.1 classes (cs9 a Δ s) H) (hD : va_D A (cs9 a Δ s)) (hS : va_S A (sOf Γ).heap H L) (hq : lp_X9_risk_92 x1 x2 x3 x4 x5 x6 n x8 s = some o) (E2 : ∀ (H : Heap) (L : List Loc), va_P Δ.1 classes (cs9 a Δ o) H → va_D A (cs9 a Δ o) → va_S A (sOf Γ).heap H L → g Γ { frames := 2, cells := 0, slots := 0, locals := 45 } 13 H L 0 0 123 [(0, .ref (a 0)), (2, .int x2), (3, .int x3), (4, .int x4), (5, .int x5), (6, .int x6)] []), g Γ { frames := 2, cells := 0, slots := 0, locals := 45 } 13 H L 0 0 92 [(0, .ref (a 0)), (1, .int x1), (2, .int x2), (3, .int x3), (4, .int x4), (5, .int x5), (6, .int x6), (8, .int x8)] [] := by
      intro x1 x2 x3 x4 x5 x6
      intro n
      induction n with
      | zero => intro x8 s o H L hP hD hS hq; exact nomatch (show (none : Option (S9)) = some o from hq)
      | succ n ih =>
        intro x8 s o H L hP hD hS hq E2
        have hq : bd_X9_risk_92 x1 x2 x3 x4 x5 x6 (lp_X9_risk_92 x1 x2 x3 x4 x5 x6 n) x8 s = some o := hq
        refine g_iload C 94 rfl dX9_risk_92 7 rfl ?_
        refine g_bipush 21 C 96 rfl dX9_risk_94 kb_21 ?_
        refine s_icmp_ge C 123 99 rfl dX9_risk_96 (by decide) hq (fun hq => ?_) (fun hq => ?_)
        · cases hq
          exact g_sub [0, 2, 3, 4, 5, 6] rfl (E2 _ _ hP hD hS)
        refine g_aload_n C 100 rfl dX9_risk_99 0 rfl ?_
        refine g_get (v := .ref (a 20)) C 103 rfl dX9_risk_100 hK hP la_X9 0 34 (Nat.le_of_ble_eq_true rfl) fl_X9_67 rfl rfl rfl rfl ?_
        refine g_iload C 105 rfl dX9_risk_103 7 rfl ?_
        refine g_iload C 107 rfl dX9_risk_105 7 rfl ?_
        refine g_iload_n C 108 rfl dX9_risk_107 1 rfl ?_
        refine s_icmp_ne C 115 111 rfl dX9_risk_108 (by decide) hq (fun hq => ?_) (fun hq => ?_)
        · refine g_lconst 0 C 116 rfl dX9_risk_115 kl_0 ?_
          refine s_last (cs9 a Δ (p9_parts s (vp_updL (x9_parts s) (x8 : Int32).toNatClampNeg 0))) C 117 rfl dX9_risk_116 hK hP hD hS 20 rfl hq rfl (fun hq hi5 H L hP hD hS => ?_)
          refine g_iinc (x8 + 1) [(8, .int (x8 + 1)), (0, .ref (a 0)), (1, .int x1), (2, .int x2), (3, .int x3), (4, .int x4), (5, .int x5), (6, .int x6)] C 120 rfl dX9_risk_117 7 rfl (ii_1 _) (Nat.le_of_ble_eq_true rfl) rfl ?_
          refine g_goto C 92 dX9_risk_120 (by decide) ?_
          exact g_sub [1, 2, 3, 4, 5, 6, 7, 0] rfl (ih (x8 + 1) (p9_parts s (vp_updL (x9_parts s) (x8 : Int32).toNatClampNeg 0)) _ _ _ hP hD hS hq E2)
        refine g_lconst 1 C 112 rfl dX9_risk_111 kl_1 ?_
        refine g_goto C 116 dX9_risk_112 (by decide) ?_
        refine s_last (cs9 a Δ (p9_parts s (vp_updL (x9_parts s) (x8 : Int32).toNatClampNeg 1))) C 117 rfl dX9_risk_116 hK hP hD hS 20 rfl hq rfl (fun hq hi6 H L hP hD hS => ?_)
        refine g_iinc (x8 + 1) [(8, .int (x8 + 1)), (0, .ref (a 0)), (1, .int x1), (2, .int x2), (3, .int x3), (4, .int x4), (5, .int x5), (6, .int x6)] C 120 rfl dX9_risk_117 7 rfl (ii_1 _) (Nat.le_of_ble_eq_true rfl) rfl ?_
        refine g_goto C 92 dX9_risk_120 (by decide) ?_
        exact g_sub [1, 2, 3, 4, 5, 6, 7, 0] rfl (ih (x8 + 1) (p9_parts s (vp_updL (x9_parts s) (x8 : Int32).toNatClampNeg 1)) _ _ _ hP hD hS hq E2)
    obtain ⟨o7, ho8, hq⟩ := bindE hq
    refine g_sub [2, 3, 4, 5, 6, 7, 8, 0] rfl (Q92 x1 x2 x3 x4 x5 x6 FUEL 0 s o7 _ _ hP hD hS ho8 (fun H L hP hD hS => ?_))
    refine g_aload_n C 124 rfl dX9_risk_123 0 rfl ?_
    refine g_lconst 0 C 125 rfl dX9_risk_124 kl_0 ?_
    refine g_put (cs9 a Δ (p9_meanParts o7 0)) C 128 rfl dX9_risk_125 hK hP hD hS la_X9 tyX9_ok nmX9 0 36 (Nat.le_of_ble_eq_true rfl) fl_X9_291 rfl rfl rfl rfl rfl rfl (Nat.le_of_ble_eq_true rfl) rfl (fun H L hP hD hS => ?_)
    refine g_lconst 1 C 129 rfl dX9_risk_128 kl_1 ?_
    refine g_lstore [(8, .long 1), (0, .ref (a 0)), (2, .int x2), (3, .int x3), (4, .int x4), (5, .int x5), (6, .int x6)] C 131 rfl dX9_risk_129 (Nat.le_of_ble_eq_true rfl) rfl ?_
    refine g_iconst 0 C 132 rfl dX9_risk_131 ki_0 ?_
    refine g_istore [(10, .int 0), (8, .long 1), (0, .ref (a 0)), (2, .int x2), (3, .int x3), (4, .int x4), (5, .int x5), (6, .int x6)] C 134 rfl dX9_risk_132 (Nat.le_of_ble_eq_true rfl) rfl ?_
    have Q134 : ∀ (x2 : Int32) (x3 : Int32) (x4 : Int32) (x5 : Int32) (x6 : Int32), ∀ (n : Nat) (x8 : Int64) (x10 : Int32) (s : S9) (o : (Int64 × S9)) (H : Heap) (L : List Loc) (hP : va_P Δ.1 classes (cs9 a Δ s) H) (hD : va_D A (cs9 a Δ s)) (hS : va_S A (sOf Γ).heap H L) (hq : lp_X9_risk_134 x2 x3 x4 x5 x6 n x8 x10 s = some o) (E2 : ∀ (H : Heap) (L : List Loc), va_P Δ.1 classes (cs9 a Δ o.2) H → va_D A (cs9 a Δ o.2) → va_S A (sOf Γ).heap H L → g Γ { frames := 2, cells := 0, slots := 0, locals := 45 } 13 H L 0 0 172 [(0, .ref (a 0)), (5, .int x5), (6, .int x6), (8, .long o.1)] []), g Γ { frames := 2, cells := 0, slots := 0, locals := 45 } 13 H L 0 0 134 [(0, .ref (a 0)), (2, .int x2), (3, .int x3), (4, .int x4), (5, .int x5), (6, .int x6), (8, .long x8), (10, .int x10)] [] := by
      intro x2 x3 x4 x5 x6
      intro n
      induction n with
      | zero => intro x8 x10 s o H L hP hD hS hq; exact nomatch (show (none : Option (Int64 × S9)) = some o from hq)
      | succ n ih =>
        intro x8 x10 s o H L hP hD hS hq E2
        have hq : bd_X9_risk_134 x2 x3 x4 x5 x6 (lp_X9_risk_134 x2 x3 x4 x5 x6 n) x8 x10 s = some o := hq
        have K155 : ∀ (x8 : Int64) (x10 : Int32) (y1 : Int32) (y2 : Int32) (y3 : Int32) (s : S9) (H : Heap) (L : List Loc) (hP : va_P Δ.1 classes (cs9 a Δ s) H) (hD : va_D A (cs9 a Δ s)) (hS : va_S A (sOf Γ).heap H L), jn_X9_risk_155 (lp_X9_risk_134 x2 x3 x4 x5 x6 n) x2 x3 x4 x5 x6 x8 x10 y1 y2 y3 s = some o → g Γ { frames := 2, cells := 0, slots := 0, locals := 45 } 13 H L 0 0 155 [(0, .ref (a 0)), (2, .int x2), (3, .int x3), (4, .int x4), (5, .int x5), (6, .int x6), (8, .long x8), (10, .int x10)] [.int y3, .int y2, .int y1, .ref (a 0)] := by
          intro x8 x10 y1 y2 y3 s H L hP hD hS hq
          obtain ⟨r9, hz10, hq⟩ := bindE hq
          refine g_callWV (rest := []) (cs9 a Δ r9) C 158 rfl dX9_risk_155 (c_X9_riskHour Γ.2.1 Δ a y1 y2 y3 s hz10) mv_X9_riskHour ml_X9_304 hK hP hD hS hA [0, 1, 2, 3, 4, 5, 6, 7, 8, 9, 10, 11, 12, 13, 14, 15, 16, 17, 18, 19, 20, 21, 22, 23] [] [0, 1, 2, 3, 4, 5, 6, 7, 8, 9, 10, 11, 12, 13, 14, 15, 16, 17, 18, 19, 20, 21, 22, 23] rfl (by decide) (wr := []) rfl (by decide) (by decide) rfl rfl rfl rfl rfl rfl rfl rfl ⟨Nat.le_of_ble_eq_true rfl, Nat.le_of_ble_eq_true rfl⟩ (Nat.le_of_ble_eq_true rfl) ⟨Nat.zero_le _, Nat.zero_le _⟩ (fun H L hP hD hS => ?_)
          refine g_lload C 160 rfl dX9_risk_158 6 rfl ?_
          refine g_ldc2 10 C 163 rfl dX9_risk_160 k_X9_295 ?_
          refine g_lmul C 164 rfl dX9_risk_163 ?_
          refine g_lstore [(8, .long (x8 * 10)), (0, .ref (a 0)), (2, .int x2), (3, .int x3), (4, .int x4), (5, .int x5), (6, .int x6), (10, .int x10)] C 166 rfl dX9_risk_164 (Nat.le_of_ble_eq_true rfl) rfl ?_
          refine g_iinc (x10 + 1) [(10, .int (x10 + 1)), (8, .long (x8 * 10)), (0, .ref (a 0)), (2, .int x2), (3, .int x3), (4, .int x4), (5, .int x5), (6, .int x6)] C 169 rfl dX9_risk_166 7 rfl (ii_1 _) (Nat.le_of_ble_eq_true rfl) rfl ?_
          refine g_goto C 134 dX9_risk_169 (by decide) ?_
          exact g_sub [2, 3, 4, 5, 6, 7, 1, 0] rfl (ih (x8 * 10) (x10 + 1) r9 _ _ _ hP hD hS hq E2)
        refine g_iload C 136 rfl dX9_risk_134 7 rfl ?_
        refine g_iload_n C 137 rfl dX9_risk_136 1 rfl ?_
        refine s_icmp_ge C 172 140 rfl dX9_risk_137 (by decide) hq (fun hq => ?_) (fun hq => ?_)
        · cases hq
          exact g_sub [0, 4, 5, 6] rfl (E2 _ _ hP hD hS)
        refine g_aload_n C 141 rfl dX9_risk_140 0 rfl ?_
        refine g_iload_n C 142 rfl dX9_risk_141 2 rfl ?_
        refine g_iload C 144 rfl dX9_risk_142 3 rfl ?_
        refine g_iload C 146 rfl dX9_risk_144 4 rfl ?_
        refine g_iconst 1 C 147 rfl dX9_risk_146 ki_1 ?_
        refine s_icmp_ne C 154 150 rfl dX9_risk_147 (by decide) hq (fun hq => ?_) (fun hq => ?_)
        · refine g_iconst 0 C 155 rfl dX9_risk_154 ki_0 ?_
          exact g_sub [0, 1, 2, 3, 4, 5, 6, 7] rfl (K155 x8 x10 x3 x4 0 s _ _ hP hD hS hq)
        refine g_iconst 1 C 151 rfl dX9_risk_150 ki_1 ?_
        refine g_goto C 155 dX9_risk_151 (by decide) ?_
        exact g_sub [0, 1, 2, 3, 4, 5, 6, 7] rfl (K155 x8 x10 x3 x4 1 s _ _ hP hD hS hq)
    obtain ⟨o11, ho12, hq⟩ := bindE hq
    refine g_sub [2, 3, 4, 5, 6, 7, 1, 0] rfl (Q134 x2 x3 x4 x5 x6 FUEL 1 0 (p9_meanParts o7 0) o11 _ _ hP hD hS ho12 (fun H L hP hD hS => ?_))
    refine g_lconst 0 C 173 rfl dX9_risk_172 kl_0 ?_
    refine g_lstore [(10, .long 0), (0, .ref (a 0)), (5, .int x5), (6, .int x6), (8, .long o11.1)] C 175 rfl dX9_risk_173 (Nat.le_of_ble_eq_true rfl) rfl ?_
    refine g_iconst 0 C 176 rfl dX9_risk_175 ki_0 ?_
    refine g_istore [(12, .int 0), (10, .long 0), (0, .ref (a 0)), (5, .int x5), (6, .int x6), (8, .long o11.1)] C 178 rfl dX9_risk_176 (Nat.le_of_ble_eq_true rfl) rfl ?_
    have Q178 : ∀ (x5 : Int32) (x6 : Int32) (x8 : Int64), ∀ (n : Nat) (x10 : Int64) (x12 : Int32) (o : (Int64)) (hq : lp_X9_risk_178 x5 x6 x8 s n x10 x12 = some o) (E2 : g Γ { frames := 2, cells := 0, slots := 0, locals := 45 } 13 H L 0 0 203 [(0, .ref (a 0)), (5, .int x5), (6, .int x6), (8, .long x8), (10, .long o)] []), g Γ { frames := 2, cells := 0, slots := 0, locals := 45 } 13 H L 0 0 178 [(0, .ref (a 0)), (5, .int x5), (6, .int x6), (8, .long x8), (10, .long x10), (12, .int x12)] [] := by
      intro x5 x6 x8
      intro n
      induction n with
      | zero => intro x10 x12 o hq; exact nomatch (show (none : Option (Int64)) = some o from hq)
      | succ n ih =>
        intro x10 x12 o hq E2
        have hq : bd_X9_risk_178 x5 x6 x8 s (lp_X9_risk_178 x5 x6 x8 s n) x10 x12 = some o := hq
        refine g_iload C 180 rfl dX9_risk_178 5 rfl ?_
        refine g_bipush 21 C 182 rfl dX9_risk_180 kb_21 ?_
        refine s_icmp_ge C 203 185 rfl dX9_risk_182 (by decide) hq (fun hq => ?_) (fun hq => ?_)
        · cases hq
          exact g_sub [0, 1, 2, 3, 4] rfl (E2 )
        refine g_lload C 187 rfl dX9_risk_185 4 rfl ?_
        refine g_aload_n C 188 rfl dX9_risk_187 0 rfl ?_
        refine g_get (v := .ref (a 20)) C 191 rfl dX9_risk_188 hK hP la_X9 0 34 (Nat.le_of_ble_eq_true rfl) fl_X9_67 rfl rfl rfl rfl ?_
        refine g_iload C 193 rfl dX9_risk_191 5 rfl ?_
        refine s_lald C 194 rfl dX9_risk_193 hK hP 20 rfl hq (fun hq hi13 => ?_)
        refine g_ladd C 195 rfl dX9_risk_194 ?_
        refine g_lstore [(10, .long (x10 + ((x9_parts s) (x12 : Int32).toNatClampNeg))), (0, .ref (a 0)), (5, .int x5), (6, .int x6), (8, .long x8), (12, .int x12)] C 197 rfl dX9_risk_195 (Nat.le_of_ble_eq_true rfl) rfl ?_
        refine g_iinc (x12 + 1) [(12, .int (x12 + 1)), (10, .long (x10 + ((x9_parts s) (x12 : Int32).toNatClampNeg))), (0, .ref (a 0)), (5, .int x5), (6, .int x6), (8, .long x8)] C 200 rfl dX9_risk_197 5 rfl (ii_1 _) (Nat.le_of_ble_eq_true rfl) rfl ?_
        refine g_goto C 178 dX9_risk_200 (by decide) ?_
        exact g_sub [2, 3, 4, 5, 1, 0] rfl (ih (x10 + ((x9_parts s) (x12 : Int32).toNatClampNeg)) (x12 + 1) _ hq E2)
    obtain ⟨o14, ho15, hq⟩ := bindE hq
    refine g_sub [2, 3, 4, 5, 1, 0] rfl (Q178 x5 x6 o11.1 FUEL 0 0 o14 ho15 (?_))
    refine g_iload C 205 rfl dX9_risk_203 1 rfl ?_
    refine s_if_ne C 213 208 rfl dX9_risk_205 (by decide) hq (fun hq => ?_) (fun hq => ?_)
    · refine g_aload_n C 214 rfl dX9_risk_213 0 rfl ?_
      refine g_get (v := .long (x9_meanParts o11.2)) C 217 rfl dX9_risk_214 hK hP la_X9 0 36 (Nat.le_of_ble_eq_true rfl) fl_X9_291 rfl rfl rfl rfl ?_
      refine g_lload C 219 rfl dX9_risk_217 3 rfl ?_
      refine g_iload C 221 rfl dX9_risk_219 2 rfl ?_
      obtain ⟨r16, hz17, hq⟩ := bindE hq
      refine g_callRS (rest := []) C 224 rfl dX9_risk_221 (c_X9_lowest Γ.2.1 Δ  (x9_meanParts o11.2) o11.1 x6  hz17) mv_X9_lowest (Or.inl ml_X9_308) hK rfl rfl ⟨Nat.le_of_ble_eq_true rfl, Nat.le_of_ble_eq_true rfl⟩ (Nat.le_of_ble_eq_true rfl) ⟨Nat.zero_le _, Nat.zero_le _⟩ ?_
      exact w_long (ws := fun s => cs9 a Δ s) hR hq hP hS dX9_risk_224 rfl
    refine g_lload C 210 rfl dX9_risk_208 4 rfl ?_
    refine g_goto C 217 dX9_risk_210 (by decide) ?_
    refine g_lload C 219 rfl dX9_risk_217 3 rfl ?_
    refine g_iload C 221 rfl dX9_risk_219 2 rfl ?_
    obtain ⟨r18, hz19, hq⟩ := bindE hq
    refine g_callRS (rest := []) C 224 rfl dX9_risk_221 (c_X9_lowest Γ.2.1 Δ  o14 o11.1 x6  hz19) mv_X9_lowest (Or.inl ml_X9_308) hK rfl rfl ⟨Nat.le_of_ble_eq_true rfl, Nat.le_of_ble_eq_true rfl⟩ (Nat.le_of_ble_eq_true rfl) ⟨Nat.zero_le _, Nat.zero_le _⟩ ?_
    exact w_long (ws := fun s => cs9 a Δ s) hR hq hP hS dX9_risk_224 rfl
  have K55 : ∀ (x1 : Int32) (x2 : Int32) (x3 : Int32) (x4 : Int32) (x5 : Int32) (x6 : Int32) (s : S9) (H : Heap) (L : List Loc) (hP : va_P Δ.1 classes (cs9 a Δ s) H) (hD : va_D A (cs9 a Δ s)) (hS : va_S A (sOf Γ).heap H L), jn_X9_risk_55 x1 x2 x3 x4 x5 x6 s = some res → g Γ { frames := 2, cells := 0, slots := 0, locals := 45 } 13 H L 0 0 55 [(0, .ref (a 0)), (1, .int x1), (2, .int x2), (3, .int x3), (4, .int x4), (5, .int x5), (6, .int x6)] [] := by
    intro x1 x2 x3 x4 x5 x6 s H L hP hD hS hq
    refine g_iconst 0 C 56 rfl dX9_risk_55 ki_0 ?_
    exact g_sub [0, 1, 2, 3, 4, 5, 6] rfl (K56 x1 x2 x3 x4 x5 x6 0 s _ _ hP hD hS hq)
  show g Γ { frames := 2, cells := 0, slots := 0, locals := 45 } 13 H [] 0 0 0 [(0, .ref (a 0)), (1, .int x1), (2, .int x2), (3, .int x3), (4, .int x4), (5, .int x5), (6, .int x6)] []
  refine g_iload_n C 1 rfl dX9_risk_0 1 rfl ?_
  refine g_i2l C 2 rfl dX9_risk_1 ?_
  refine g_lconst 0 C 3 rfl dX9_risk_2 kl_0 ?_
  refine g_aload_n C 4 rfl dX9_risk_3 0 rfl ?_
  refine g_get (v := .int (x9_limit s)) C 7 rfl dX9_risk_4 hK hP la_X9 0 1 (Nat.le_of_ble_eq_true rfl) fl_X9_81 rfl rfl rfl rfl ?_
  refine g_i2l C 8 rfl dX9_risk_7 ?_
  obtain ⟨r20, hz21, hq⟩ := bindE hq
  refine g_callRS (rest := []) C 11 rfl dX9_risk_8 (c_X9_in Γ.2.1 Δ  (Int32.toInt64 x1) 0 (Int32.toInt64 (x9_limit s))  hz21) mv_X9_in (Or.inl ml_X9_90) hK rfl rfl ⟨Nat.le_of_ble_eq_true rfl, Nat.le_of_ble_eq_true rfl⟩ (Nat.le_of_ble_eq_true rfl) ⟨Nat.zero_le _, Nat.zero_le _⟩ ?_
  refine s_if_eq C 55 14 rfl dX9_risk_11 (by decide) hq (fun hq => ?_) (fun hq => ?_)
  · exact g_sub [0, 1, 2, 3, 4, 5, 6] rfl (K55 x1 x2 x3 x4 x5 x6 s _ _ hP hD hS hq)
  refine g_iload_n C 15 rfl dX9_risk_14 2 rfl ?_
  refine g_i2l C 16 rfl dX9_risk_15 ?_
  refine g_lconst 0 C 17 rfl dX9_risk_16 kl_0 ?_
  refine g_ldc2 8 C 20 rfl dX9_risk_17 k_X9_300 ?_
  obtain ⟨r22, hz23, hq⟩ := bindE hq
  refine g_callRS (rest := []) C 23 rfl dX9_risk_20 (c_X9_in Γ.2.1 Δ  (Int32.toInt64 x2) 0 8  hz23) mv_X9_in (Or.inl ml_X9_90) hK rfl rfl ⟨Nat.le_of_ble_eq_true rfl, Nat.le_of_ble_eq_true rfl⟩ (Nat.le_of_ble_eq_true rfl) ⟨Nat.zero_le _, Nat.zero_le _⟩ ?_
  refine s_if_eq C 55 26 rfl dX9_risk_23 (by decide) hq (fun hq => ?_) (fun hq => ?_)
  · exact g_sub [0, 1, 2, 3, 4, 5, 6] rfl (K55 x1 x2 x3 x4 x5 x6 s _ _ hP hD hS hq)
  refine g_iload_n C 27 rfl dX9_risk_26 3 rfl ?_
  refine g_i2l C 28 rfl dX9_risk_27 ?_
  refine g_lconst 1 C 29 rfl dX9_risk_28 kl_1 ?_
  refine g_ldc2 9 C 32 rfl dX9_risk_29 k_X9_101 ?_
  obtain ⟨r24, hz25, hq⟩ := bindE hq
  refine g_callRS (rest := []) C 35 rfl dX9_risk_32 (c_X9_in Γ.2.1 Δ  (Int32.toInt64 x3) 1 9  hz25) mv_X9_in (Or.inl ml_X9_90) hK rfl rfl ⟨Nat.le_of_ble_eq_true rfl, Nat.le_of_ble_eq_true rfl⟩ (Nat.le_of_ble_eq_true rfl) ⟨Nat.zero_le _, Nat.zero_le _⟩ ?_
  refine s_if_eq C 55 38 rfl dX9_risk_35 (by decide) hq (fun hq => ?_) (fun hq => ?_)
  · exact g_sub [0, 1, 2, 3, 4, 5, 6] rfl (K55 x1 x2 x3 x4 x5 x6 s _ _ hP hD hS hq)
  refine g_iload C 40 rfl dX9_risk_38 4 rfl ?_
  refine g_i2l C 41 rfl dX9_risk_40 ?_
  refine g_lconst 0 C 42 rfl dX9_risk_41 kl_0 ?_
  refine g_ldc2 10 C 45 rfl dX9_risk_42 k_X9_295 ?_
  obtain ⟨r26, hz27, hq⟩ := bindE hq
  refine g_callRS (rest := []) C 48 rfl dX9_risk_45 (c_X9_in Γ.2.1 Δ  (Int32.toInt64 x4) 0 10  hz27) mv_X9_in (Or.inl ml_X9_90) hK rfl rfl ⟨Nat.le_of_ble_eq_true rfl, Nat.le_of_ble_eq_true rfl⟩ (Nat.le_of_ble_eq_true rfl) ⟨Nat.zero_le _, Nat.zero_le _⟩ ?_
  refine s_if_eq C 55 51 rfl dX9_risk_48 (by decide) hq (fun hq => ?_) (fun hq => ?_)
  · exact g_sub [0, 1, 2, 3, 4, 5, 6] rfl (K55 x1 x2 x3 x4 x5 x6 s _ _ hP hD hS hq)
  refine g_iconst 1 C 52 rfl dX9_risk_51 ki_1 ?_
  refine g_goto C 56 dX9_risk_52 (by decide) ?_
  exact g_sub [0, 1, 2, 3, 4, 5, 6] rfl (K56 x1 x2 x3 x4 x5 x6 1 s _ _ hP hD hS hq)
set_option maxHeartbeats 4000000 in
set_option maxRecDepth 100000 in
theorem c_X9_seen (l : Launch) (Δ : gD) (a : Nat → Nat) (x1 : Int32) (x2 : Int32) (s : S9) {res : Int32 × S9} (hq : sem_X9_seen x1 x2 s = some res) : MW l yX9_seen cX9_seen 3 (some .int) Δ (cs9 a Δ s) [.ref (a 0), .int x1, .int x2] 2 46 (some (.int res.1)) (cs9 a Δ res.2) := by
  refine MW.of (by decide) (Nat.le_of_ble_eq_true rfl) ?_
  intro Γ A H hl C hK hP hD hS hA hR
  subst hl
  have K49 : ∀ (y1 : Int32) (y2 : Int32) (s : S9) (H : Heap) (L : List Loc) (hP : va_P Δ.1 classes (cs9 a Δ s) H) (hD : va_D A (cs9 a Δ s)) (hS : va_S A (sOf Γ).heap H L), jn_X9_seen_49 y1 y2 s = some res → g Γ { frames := 2, cells := 0, slots := 0, locals := 46 } 3 H L 0 0 49 [(0, .ref (a 0))] [.int y2, .int y1, .ref (a 8)] := by
    intro y1 y2 s H L hP hD hS hq
    refine s_iast (cs9 a Δ (p9_sightHeard s (upd (x9_sightHeard s) (y1 : Int32).toNatClampNeg y2))) C 50 rfl dX9_seen_49 hK hP hD hS 8 rfl hq rfl (fun hq hi1 H L hP hD hS => ?_)
    refine g_aload_n C 51 rfl dX9_seen_50 0 rfl ?_
    refine g_dup C 52 rfl dX9_seen_51 rfl ?_
    refine g_get (v := .int (x9_sights s)) C 55 rfl dX9_seen_52 hK hP la_X9 0 11 (Nat.le_of_ble_eq_true rfl) fl_X9_312 rfl rfl rfl rfl ?_
    refine g_iconst 1 C 56 rfl dX9_seen_55 ki_1 ?_
    refine g_iadd C 57 rfl dX9_seen_56 ?_
    refine g_put (cs9 a Δ (p9_sights (p9_sightHeard s (upd (x9_sightHeard s) (y1 : Int32).toNatClampNeg y2)) ((x9_sights s) + 1))) C 60 rfl dX9_seen_57 hK hP hD hS la_X9 tyX9_ok nmX9 0 11 (Nat.le_of_ble_eq_true rfl) fl_X9_312 rfl rfl rfl rfl rfl rfl (Nat.le_of_ble_eq_true rfl) rfl (fun H L hP hD hS => ?_)
    refine g_aload_n C 61 rfl dX9_seen_60 0 rfl ?_
    refine g_get (v := .int ((x9_sights s) + 1)) C 64 rfl dX9_seen_61 hK hP la_X9 0 11 (Nat.le_of_ble_eq_true rfl) fl_X9_312 rfl rfl rfl rfl ?_
    exact w_int (ws := fun s => cs9 a Δ s) hR hq hP hS dX9_seen_64 rfl rfl
  show g Γ { frames := 2, cells := 0, slots := 0, locals := 46 } 3 H [] 0 0 0 [(0, .ref (a 0)), (1, .int x1), (2, .int x2)] []
  refine g_aload_n C 1 rfl dX9_seen_0 0 rfl ?_
  refine g_iload_n C 2 rfl dX9_seen_1 1 rfl ?_
  obtain ⟨r2, hz3, hq⟩ := bindE hq
  refine g_callRV (rest := []) C 5 rfl dX9_seen_2 (c_X9_isOne Γ.2.1 Δ a x1 s hz3) mv_X9_isOne ml_X9_107 hK hP rfl rfl rfl rfl rfl ⟨Nat.le_of_ble_eq_true rfl, Nat.le_of_ble_eq_true rfl⟩ (Nat.le_of_ble_eq_true rfl) ⟨Nat.zero_le _, Nat.zero_le _⟩ ?_
  refine s_if_ne C 10 8 rfl dX9_seen_5 (by decide) hq (fun hq => ?_) (fun hq => ?_)
  rotate_left
  · refine g_iconst (-1) C 9 rfl dX9_seen_8 ki_m1 ?_
    exact w_int (ws := fun s => cs9 a Δ s) hR hq hP hS dX9_seen_9 rfl rfl
  refine g_aload_n C 11 rfl dX9_seen_10 0 rfl ?_
  refine g_get (v := .int (x9_sights s)) C 14 rfl dX9_seen_11 hK hP la_X9 0 11 (Nat.le_of_ble_eq_true rfl) fl_X9_312 rfl rfl rfl rfl ?_
  refine g_bipush 8 C 16 rfl dX9_seen_14 kb_8 ?_
  refine s_icmp_ne C 22 19 rfl dX9_seen_16 (by decide) hq (fun hq => ?_) (fun hq => ?_)
  rotate_left
  · refine g_bipush (-4) C 21 rfl dX9_seen_19 kb_m4 ?_
    exact w_int (ws := fun s => cs9 a Δ s) hR hq hP hS dX9_seen_21 rfl rfl
  refine g_aload_n C 23 rfl dX9_seen_22 0 rfl ?_
  refine g_get (v := .ref (a 7)) C 26 rfl dX9_seen_23 hK hP la_X9 0 9 (Nat.le_of_ble_eq_true rfl) fl_X9_28 rfl rfl rfl rfl ?_
  refine g_aload_n C 27 rfl dX9_seen_26 0 rfl ?_
  refine g_get (v := .int (x9_sights s)) C 30 rfl dX9_seen_27 hK hP la_X9 0 11 (Nat.le_of_ble_eq_true rfl) fl_X9_312 rfl rfl rfl rfl ?_
  refine g_iload_n C 31 rfl dX9_seen_30 1 rfl ?_
  refine s_iast (cs9 a Δ (p9_sightOne s (upd (x9_sightOne s) ((x9_sights s) : Int32).toNatClampNeg x1))) C 32 rfl dX9_seen_31 hK hP hD hS 7 rfl hq rfl (fun hq hi4 H L hP hD hS => ?_)
  refine g_aload_n C 33 rfl dX9_seen_32 0 rfl ?_
  refine g_get (v := .ref (a 8)) C 36 rfl dX9_seen_33 hK hP la_X9 0 10 (Nat.le_of_ble_eq_true rfl) fl_X9_31 rfl rfl rfl rfl ?_
  refine g_aload_n C 37 rfl dX9_seen_36 0 rfl ?_
  refine g_get (v := .int (x9_sights s)) C 40 rfl dX9_seen_37 hK hP la_X9 0 11 (Nat.le_of_ble_eq_true rfl) fl_X9_312 rfl rfl rfl rfl ?_
  refine g_iload_n C 41 rfl dX9_seen_40 2 rfl ?_
  refine s_if_eq C 48 44 rfl dX9_seen_41 (by decide) hq (fun hq => ?_) (fun hq => ?_)
  · refine g_iconst 0 C 49 rfl dX9_seen_48 ki_0 ?_
    exact g_sub [0] rfl (K49 (x9_sights s) 0 (p9_sightOne s (upd (x9_sightOne s) ((x9_sights s) : Int32).toNatClampNeg x1)) _ _ hP hD hS hq)
  refine g_iconst 1 C 45 rfl dX9_seen_44 ki_1 ?_
  refine g_goto C 49 dX9_seen_45 (by decide) ?_
  exact g_sub [0] rfl (K49 (x9_sights s) 1 (p9_sightOne s (upd (x9_sightOne s) ((x9_sights s) : Int32).toNatClampNeg x1)) _ _ hP hD hS hq)
set_option maxHeartbeats 4000000 in
set_option maxRecDepth 100000 in
theorem c_X9_forget (l : Launch) (Δ : gD) (a : Nat → Nat)  (s : S9) {res : Int32 × S9} (hq : sem_X9_forget  s = some res) : MW l yX9_forget cX9_forget 2 (some .int) Δ (cs9 a Δ s) [.ref (a 0)] 0 0 (some (.int res.1)) (cs9 a Δ res.2) := by
  refine MW.of (by decide) (Nat.le_of_ble_eq_true rfl) ?_
  intro Γ A H hl C hK hP hD hS hA hR
  subst hl
  show g Γ { frames := 0, cells := 0, slots := 0, locals := 0 } 2 H [] 0 0 0 [(0, .ref (a 0))] []
  refine g_aload_n C 1 rfl dX9_forget_0 0 rfl ?_
  refine g_get (v := .int (x9_sights s)) C 4 rfl dX9_forget_1 hK hP la_X9 0 11 (Nat.le_of_ble_eq_true rfl) fl_X9_312 rfl rfl rfl rfl ?_
  refine g_istore_n [(1, .int (x9_sights s)), (0, .ref (a 0))] C 5 rfl dX9_forget_4 (Nat.le_of_ble_eq_true rfl) rfl ?_
  refine g_aload_n C 6 rfl dX9_forget_5 1 rfl ?_
  refine g_iconst 0 C 7 rfl dX9_forget_6 ki_0 ?_
  refine g_put (cs9 a Δ (p9_sights s 0)) C 10 rfl dX9_forget_7 hK hP hD hS la_X9 tyX9_ok nmX9 0 11 (Nat.le_of_ble_eq_true rfl) fl_X9_312 rfl rfl rfl rfl rfl rfl (Nat.le_of_ble_eq_true rfl) rfl (fun H L hP hD hS => ?_)
  refine g_iload_n C 11 rfl dX9_forget_10 0 rfl ?_
  exact w_int (ws := fun s => cs9 a Δ s) hR hq hP hS dX9_forget_11 rfl rfl
set_option maxHeartbeats 4000000 in
set_option maxRecDepth 100000 in
theorem c_X9_wouldHear (l : Launch) (Δ : gD) (a : Nat → Nat) (x1 : Int32) (x2 : Int32) (s : S9) {res : Int32} (hq : sem_X9_wouldHear x1 x2 s = some res) : MR l yX9_wouldHear cX9_wouldHear 3 (some .boolean) Δ (cs9 a Δ s) [.ref (a 0), .int x1, .int x2] 1 23 (.int res) := by
  refine MR.of (by decide) (Nat.le_of_ble_eq_true rfl) ?_
  intro Γ H hl C hK hP hR
  subst hl
  show g Γ { frames := 1, cells := 0, slots := 0, locals := 23 } 3 H [] 0 0 0 [(0, .ref (a 0)), (1, .int x1), (2, .int x2)] []
  refine g_iload_n C 1 rfl dX9_wouldHear_0 1 rfl ?_
  refine g_iload_n C 2 rfl dX9_wouldHear_1 2 rfl ?_
  refine s_icmp_eq C 14 5 rfl dX9_wouldHear_2 (by decide) hq (fun hq => ?_) (fun hq => ?_)
  · refine g_iconst 1 C 15 rfl dX9_wouldHear_14 ki_1 ?_
    refine g_goto C 19 dX9_wouldHear_15 (by decide) ?_
    exact r_int hR hq dX9_wouldHear_19 rfl rfl
  refine g_aload_n C 6 rfl dX9_wouldHear_5 0 rfl ?_
  refine g_iload_n C 7 rfl dX9_wouldHear_6 1 rfl ?_
  refine g_iload_n C 8 rfl dX9_wouldHear_7 2 rfl ?_
  obtain ⟨r1, hz2, hq⟩ := bindE hq
  refine g_callRV (rest := []) C 11 rfl dX9_wouldHear_8 (c_X9_isNear Γ.2.1 Δ a x1 x2 s hz2) mv_X9_isNear ml_X9_162 hK hP rfl rfl rfl rfl rfl ⟨Nat.le_of_ble_eq_true rfl, Nat.le_of_ble_eq_true rfl⟩ (Nat.le_of_ble_eq_true rfl) ⟨Nat.zero_le _, Nat.zero_le _⟩ ?_
  refine s_if_eq C 18 14 rfl dX9_wouldHear_11 (by decide) hq (fun hq => ?_) (fun hq => ?_)
  · refine g_iconst 0 C 19 rfl dX9_wouldHear_18 ki_0 ?_
    exact r_int hR hq dX9_wouldHear_19 rfl rfl
  refine g_iconst 1 C 15 rfl dX9_wouldHear_14 ki_1 ?_
  refine g_goto C 19 dX9_wouldHear_15 (by decide) ?_
  exact r_int hR hq dX9_wouldHear_19 rfl rfl
set_option maxHeartbeats 4000000 in
set_option maxRecDepth 100000 in
theorem c_X9_fits (l : Launch) (Δ : gD) (a : Nat → Nat) (x1 : Int32) (s : S9) {res : Int32} (hq : sem_X9_fits x1 s = some res) : MR l yX9_fits cX9_fits 5 (some .boolean) Δ (cs9 a Δ s) [.ref (a 0), .int x1] 2 46 (.int res) := by
  refine MR.of (by decide) (Nat.le_of_ble_eq_true rfl) ?_
  intro Γ H hl C hK hP hR
  subst hl
  show g Γ { frames := 2, cells := 0, slots := 0, locals := 46 } 5 H [] 0 0 0 [(0, .ref (a 0)), (1, .int x1)] []
  refine g_aload_n C 1 rfl dX9_fits_0 0 rfl ?_
  refine g_iload_n C 2 rfl dX9_fits_1 1 rfl ?_
  obtain ⟨r1, hz2, hq⟩ := bindE hq
  refine g_callRV (rest := []) C 5 rfl dX9_fits_2 (c_X9_isOne Γ.2.1 Δ a x1 s hz2) mv_X9_isOne ml_X9_107 hK hP rfl rfl rfl rfl rfl ⟨Nat.le_of_ble_eq_true rfl, Nat.le_of_ble_eq_true rfl⟩ (Nat.le_of_ble_eq_true rfl) ⟨Nat.zero_le _, Nat.zero_le _⟩ ?_
  refine g_istore_n [(2, .int r1), (0, .ref (a 0)), (1, .int x1)] C 6 rfl dX9_fits_5 (Nat.le_of_ble_eq_true rfl) rfl ?_
  refine g_iconst 0 C 7 rfl dX9_fits_6 ki_0 ?_
  refine g_istore_n [(3, .int 0), (2, .int r1), (0, .ref (a 0)), (1, .int x1)] C 8 rfl dX9_fits_7 (Nat.le_of_ble_eq_true rfl) rfl ?_
  have Q8 : ∀ (x1 : Int32), ∀ (n : Nat) (x2 : Int32) (x3 : Int32) (o : (Int32)) (hq : lp_X9_fits_8 x1 s n x2 x3 = some o) (E2 : g Γ { frames := 2, cells := 0, slots := 0, locals := 46 } 5 H [] 0 0 74 [(2, .int o)] []), g Γ { frames := 2, cells := 0, slots := 0, locals := 46 } 5 H [] 0 0 8 [(0, .ref (a 0)), (1, .int x1), (2, .int x2), (3, .int x3)] [] := by
    intro x1
    intro n
    induction n with
    | zero => intro x2 x3 o hq; exact nomatch (show (none : Option (Int32)) = some o from hq)
    | succ n ih =>
      intro x2 x3 o hq E2
      have hq : bd_X9_fits_8 x1 s (lp_X9_fits_8 x1 s n) x2 x3 = some o := hq
      have K59 : ∀ (x3 : Int32) (y0 : Int32) (y1 : Int32), jn_X9_fits_59 (lp_X9_fits_8 x1 s n) x1 x3 y0 y1 s = some o → g Γ { frames := 2, cells := 0, slots := 0, locals := 46 } 5 H [] 0 0 59 [(0, .ref (a 0)), (1, .int x1), (3, .int x3)] [.int y1, .int y0] := by
        intro x3 y0 y1 hq
        refine s_icmp_ne C 66 62 rfl dX9_fits_59 (by decide) hq (fun hq => ?_) (fun hq => ?_)
        · refine g_iconst 0 C 67 rfl dX9_fits_66 ki_0 ?_
          refine g_istore_n [(2, .int 0), (0, .ref (a 0)), (1, .int x1), (3, .int x3)] C 68 rfl dX9_fits_67 (Nat.le_of_ble_eq_true rfl) rfl ?_
          refine g_iinc (x3 + 1) [(3, .int (x3 + 1)), (2, .int 0), (0, .ref (a 0)), (1, .int x1)] C 71 rfl dX9_fits_68 3 rfl (ii_1 _) (Nat.le_of_ble_eq_true rfl) rfl ?_
          refine g_goto C 8 dX9_fits_71 (by decide) ?_
          exact g_sub [2, 3, 1, 0] rfl (ih 0 (x3 + 1) _ hq E2)
        refine g_iconst 1 C 63 rfl dX9_fits_62 ki_1 ?_
        refine g_goto C 67 dX9_fits_63 (by decide) ?_
        refine g_istore_n [(2, .int 1), (0, .ref (a 0)), (1, .int x1), (3, .int x3)] C 68 rfl dX9_fits_67 (Nat.le_of_ble_eq_true rfl) rfl ?_
        refine g_iinc (x3 + 1) [(3, .int (x3 + 1)), (2, .int 1), (0, .ref (a 0)), (1, .int x1)] C 71 rfl dX9_fits_68 3 rfl (ii_1 _) (Nat.le_of_ble_eq_true rfl) rfl ?_
        refine g_goto C 8 dX9_fits_71 (by decide) ?_
        exact g_sub [2, 3, 1, 0] rfl (ih 1 (x3 + 1) _ hq E2)
      refine g_iload_n C 9 rfl dX9_fits_8 3 rfl ?_
      refine g_aload_n C 10 rfl dX9_fits_9 0 rfl ?_
      refine g_get (v := .int (x9_sights s)) C 13 rfl dX9_fits_10 hK hP la_X9 0 11 (Nat.le_of_ble_eq_true rfl) fl_X9_312 rfl rfl rfl rfl ?_
      refine s_icmp_ge C 74 16 rfl dX9_fits_13 (by decide) hq (fun hq => ?_) (fun hq => ?_)
      · cases hq
        exact g_sub [2] rfl (E2 )
      refine g_aload_n C 17 rfl dX9_fits_16 0 rfl ?_
      refine g_get (v := .ref (a 7)) C 20 rfl dX9_fits_17 hK hP la_X9 0 9 (Nat.le_of_ble_eq_true rfl) fl_X9_28 rfl rfl rfl rfl ?_
      refine g_iload_n C 21 rfl dX9_fits_20 3 rfl ?_
      refine s_iald C 22 rfl dX9_fits_21 hK hP 7 rfl hq (fun hq hi3 => ?_)
      refine g_istore [(4, .int ((x9_sightOne s) (x3 : Int32).toNatClampNeg)), (0, .ref (a 0)), (1, .int x1), (2, .int x2), (3, .int x3)] C 24 rfl dX9_fits_22 (Nat.le_of_ble_eq_true rfl) rfl ?_
      refine g_iload_n C 25 rfl dX9_fits_24 3 rfl ?_
      refine s_if_eq C 66 28 rfl dX9_fits_25 (by decide) hq (fun hq => ?_) (fun hq => ?_)
      · refine g_iconst 0 C 67 rfl dX9_fits_66 ki_0 ?_
        refine g_istore_n [(2, .int 0), (4, .int ((x9_sightOne s) (x3 : Int32).toNatClampNeg)), (0, .ref (a 0)), (1, .int x1), (3, .int x3)] C 68 rfl dX9_fits_67 (Nat.le_of_ble_eq_true rfl) rfl ?_
        refine g_iinc (x3 + 1) [(3, .int (x3 + 1)), (2, .int 0), (4, .int ((x9_sightOne s) (x3 : Int32).toNatClampNeg)), (0, .ref (a 0)), (1, .int x1)] C 71 rfl dX9_fits_68 4 rfl (ii_1 _) (Nat.le_of_ble_eq_true rfl) rfl ?_
        refine g_goto C 8 dX9_fits_71 (by decide) ?_
        exact g_sub [3, 4, 1, 0] rfl (ih 0 (x3 + 1) _ hq E2)
      refine g_aload_n C 29 rfl dX9_fits_28 1 rfl ?_
      refine g_iload C 31 rfl dX9_fits_29 0 rfl ?_
      obtain ⟨r4, hz5, hq⟩ := bindE hq
      refine g_callRV (rest := []) C 34 rfl dX9_fits_31 (c_X9_isOne Γ.2.1 Δ a ((x9_sightOne s) (x3 : Int32).toNatClampNeg) s hz5) mv_X9_isOne ml_X9_107 hK hP rfl rfl rfl rfl rfl ⟨Nat.le_of_ble_eq_true rfl, Nat.le_of_ble_eq_true rfl⟩ (Nat.le_of_ble_eq_true rfl) ⟨Nat.zero_le _, Nat.zero_le _⟩ ?_
      refine s_if_eq C 66 37 rfl dX9_fits_34 (by decide) hq (fun hq => ?_) (fun hq => ?_)
      · refine g_iconst 0 C 67 rfl dX9_fits_66 ki_0 ?_
        refine g_istore_n [(2, .int 0), (4, .int ((x9_sightOne s) (x3 : Int32).toNatClampNeg)), (0, .ref (a 0)), (1, .int x1), (3, .int x3)] C 68 rfl dX9_fits_67 (Nat.le_of_ble_eq_true rfl) rfl ?_
        refine g_iinc (x3 + 1) [(3, .int (x3 + 1)), (2, .int 0), (4, .int ((x9_sightOne s) (x3 : Int32).toNatClampNeg)), (0, .ref (a 0)), (1, .int x1)] C 71 rfl dX9_fits_68 4 rfl (ii_1 _) (Nat.le_of_ble_eq_true rfl) rfl ?_
        refine g_goto C 8 dX9_fits_71 (by decide) ?_
        exact g_sub [3, 4, 1, 0] rfl (ih 0 (x3 + 1) _ hq E2)
      refine g_aload_n C 38 rfl dX9_fits_37 1 rfl ?_
      refine g_iload C 40 rfl dX9_fits_38 0 rfl ?_
      refine g_iload_n C 41 rfl dX9_fits_40 2 rfl ?_
      obtain ⟨r6, hz7, hq⟩ := bindE hq
      refine g_callRV (rest := []) C 44 rfl dX9_fits_41 (c_X9_wouldHear Γ.2.1 Δ a ((x9_sightOne s) (x3 : Int32).toNatClampNeg) x1 s hz7) mv_X9_wouldHear ml_X9_315 hK hP rfl rfl rfl rfl rfl ⟨Nat.le_of_ble_eq_true rfl, Nat.le_of_ble_eq_true rfl⟩ (Nat.le_of_ble_eq_true rfl) ⟨Nat.zero_le _, Nat.zero_le _⟩ ?_
      refine g_aload_n C 45 rfl dX9_fits_44 1 rfl ?_
      refine g_get (v := .ref (a 8)) C 48 rfl dX9_fits_45 hK hP la_X9 0 10 (Nat.le_of_ble_eq_true rfl) fl_X9_31 rfl rfl rfl rfl ?_
      refine g_iload_n C 49 rfl dX9_fits_48 4 rfl ?_
      refine s_iald C 50 rfl dX9_fits_49 hK hP 8 rfl hq (fun hq hi8 => ?_)
      refine g_iconst 1 C 51 rfl dX9_fits_50 ki_1 ?_
      refine s_icmp_ne C 58 54 rfl dX9_fits_51 (by decide) hq (fun hq => ?_) (fun hq => ?_)
      · refine g_iconst 0 C 59 rfl dX9_fits_58 ki_0 ?_
        exact g_sub [1, 2, 4] rfl (K59 x3 r6 0 hq)
      refine g_iconst 1 C 55 rfl dX9_fits_54 ki_1 ?_
      refine g_goto C 59 dX9_fits_55 (by decide) ?_
      exact g_sub [1, 2, 4] rfl (K59 x3 r6 1 hq)
  obtain ⟨o9, ho10, hq⟩ := bindE hq
  refine g_sub [2, 3, 1, 0] rfl (Q8 x1 FUEL r1 0 o9 ho10 (?_))
  refine g_iload_n C 75 rfl dX9_fits_74 0 rfl ?_
  obtain ⟨hb11, hq⟩ := bz_some hq
  exact r_int hR hq dX9_fits_75 rfl (narrow_z hb11)
set_option maxHeartbeats 4000000 in
set_option maxRecDepth 100000 in
theorem c_X9_who (l : Launch) (Δ : gD) (a : Nat → Nat)  (s : S9) {res : Int32} (hq : sem_X9_who  s = some res) : MR l yX9_who cX9_who 3 (some .int) Δ (cs9 a Δ s) [.ref (a 0)] 3 70 (.int res) := by
  refine MR.of (by decide) (Nat.le_of_ble_eq_true rfl) ?_
  intro Γ H hl C hK hP hR
  subst hl
  show g Γ { frames := 3, cells := 0, slots := 0, locals := 70 } 3 H [] 0 0 0 [(0, .ref (a 0))] []
  refine g_iconst 0 C 1 rfl dX9_who_0 ki_0 ?_
  refine g_istore_n [(1, .int 0), (0, .ref (a 0))] C 2 rfl dX9_who_1 (Nat.le_of_ble_eq_true rfl) rfl ?_
  refine g_iconst 0 C 3 rfl dX9_who_2 ki_0 ?_
  refine g_istore_n [(2, .int 0), (1, .int 0), (0, .ref (a 0))] C 4 rfl dX9_who_3 (Nat.le_of_ble_eq_true rfl) rfl ?_
  have Q4 : ∀ (n : Nat) (x1 : Int32) (x2 : Int32) (o : (Int32)) (hq : lp_X9_who_4 s n x1 x2 = some o) (E2 : g Γ { frames := 3, cells := 0, slots := 0, locals := 70 } 3 H [] 0 0 34 [(1, .int o)] []), g Γ { frames := 3, cells := 0, slots := 0, locals := 70 } 3 H [] 0 0 4 [(0, .ref (a 0)), (1, .int x1), (2, .int x2)] [] := by
    intro n
    induction n with
    | zero => intro x1 x2 o hq; exact nomatch (show (none : Option (Int32)) = some o from hq)
    | succ n ih =>
      intro x1 x2 o hq E2
      have hq : bd_X9_who_4 s (lp_X9_who_4 s n) x1 x2 = some o := hq
      refine g_iload_n C 5 rfl dX9_who_4 2 rfl ?_
      refine g_bipush 6 C 7 rfl dX9_who_5 kb_6 ?_
      refine s_icmp_ge C 34 10 rfl dX9_who_7 (by decide) hq (fun hq => ?_) (fun hq => ?_)
      · cases hq
        exact g_sub [1] rfl (E2 )
      refine g_iload_n C 11 rfl dX9_who_10 1 rfl ?_
      refine g_aload_n C 12 rfl dX9_who_11 0 rfl ?_
      refine g_iload_n C 13 rfl dX9_who_12 2 rfl ?_
      obtain ⟨r1, hz2, hq⟩ := bindE hq
      refine g_callRV (rest := [.int x1]) C 16 rfl dX9_who_13 (c_X9_fits Γ.2.1 Δ a x2 s hz2) mv_X9_fits ml_X9_318 hK hP rfl rfl rfl rfl rfl ⟨Nat.le_of_ble_eq_true rfl, Nat.le_of_ble_eq_true rfl⟩ (Nat.le_of_ble_eq_true rfl) ⟨Nat.zero_le _, Nat.zero_le _⟩ ?_
      refine s_if_eq C 25 19 rfl dX9_who_16 (by decide) hq (fun hq => ?_) (fun hq => ?_)
      · refine g_iconst 0 C 26 rfl dX9_who_25 ki_0 ?_
        refine g_ior C 27 rfl dX9_who_26 ?_
        refine g_istore_n [(1, .int (x1 ||| 0)), (0, .ref (a 0)), (2, .int x2)] C 28 rfl dX9_who_27 (Nat.le_of_ble_eq_true rfl) rfl ?_
        refine g_iinc (x2 + 1) [(2, .int (x2 + 1)), (1, .int (x1 ||| 0)), (0, .ref (a 0))] C 31 rfl dX9_who_28 2 rfl (ii_1 _) (Nat.le_of_ble_eq_true rfl) rfl ?_
        refine g_goto C 4 dX9_who_31 (by decide) ?_
        exact g_sub [2, 1, 0] rfl (ih (x1 ||| 0) (x2 + 1) _ hq E2)
      refine g_iconst 1 C 20 rfl dX9_who_19 ki_1 ?_
      refine g_iload_n C 21 rfl dX9_who_20 2 rfl ?_
      refine g_ishl C 22 rfl dX9_who_21 ?_
      refine g_goto C 26 dX9_who_22 (by decide) ?_
      refine g_ior C 27 rfl dX9_who_26 ?_
      refine g_istore_n [(1, .int (x1 ||| ((1 : Int32) <<< (x2 &&& 31)))), (0, .ref (a 0)), (2, .int x2)] C 28 rfl dX9_who_27 (Nat.le_of_ble_eq_true rfl) rfl ?_
      refine g_iinc (x2 + 1) [(2, .int (x2 + 1)), (1, .int (x1 ||| ((1 : Int32) <<< (x2 &&& 31)))), (0, .ref (a 0))] C 31 rfl dX9_who_28 2 rfl (ii_1 _) (Nat.le_of_ble_eq_true rfl) rfl ?_
      refine g_goto C 4 dX9_who_31 (by decide) ?_
      exact g_sub [2, 1, 0] rfl (ih (x1 ||| ((1 : Int32) <<< (x2 &&& 31))) (x2 + 1) _ hq E2)
  obtain ⟨o3, ho4, hq⟩ := bindE hq
  refine g_sub [2, 1, 0] rfl (Q4  FUEL 0 0 o3 ho4 (?_))
  refine g_iload_n C 35 rfl dX9_who_34 0 rfl ?_
  exact r_int hR hq dX9_who_35 rfl rfl
set_option maxHeartbeats 4000000 in
set_option maxRecDepth 100000 in
theorem c_X9_mostLeft (l : Launch) (Δ : gD) (a : Nat → Nat) (x1 : Int32) (x2 : Int32) (s : S9) {res : Int32} (hq : sem_X9_mostLeft x1 x2 s = some res) : MR l yX9_mostLeft cX9_mostLeft 5 (some .int) Δ (cs9 a Δ s) [.ref (a 0), .int x1, .int x2] 2 45 (.int res) := by
  refine MR.of (by decide) (Nat.le_of_ble_eq_true rfl) ?_
  intro Γ H hl C hK hP hR
  subst hl
  show g Γ { frames := 2, cells := 0, slots := 0, locals := 45 } 5 H [] 0 0 0 [(0, .ref (a 0)), (1, .int x1), (2, .int x2)] []
  refine g_iconst 0 C 1 rfl dX9_mostLeft_0 ki_0 ?_
  refine g_istore_n [(3, .int 0), (0, .ref (a 0)), (1, .int x1), (2, .int x2)] C 2 rfl dX9_mostLeft_1 (Nat.le_of_ble_eq_true rfl) rfl ?_
  refine g_iconst 0 C 3 rfl dX9_mostLeft_2 ki_0 ?_
  refine g_istore [(4, .int 0), (3, .int 0), (0, .ref (a 0)), (1, .int x1), (2, .int x2)] C 5 rfl dX9_mostLeft_3 (Nat.le_of_ble_eq_true rfl) rfl ?_
  have Q5 : ∀ (x1 : Int32) (x2 : Int32), ∀ (n : Nat) (x3 : Int32) (x4 : Int32) (o : (Int32)) (hq : lp_X9_mostLeft_5 x1 x2 s n x3 x4 = some o) (E2 : g Γ { frames := 2, cells := 0, slots := 0, locals := 45 } 5 H [] 0 0 46 [(1, .int x1), (3, .int o)] []), g Γ { frames := 2, cells := 0, slots := 0, locals := 45 } 5 H [] 0 0 5 [(0, .ref (a 0)), (1, .int x1), (2, .int x2), (3, .int x3), (4, .int x4)] [] := by
    intro x1 x2
    intro n
    induction n with
    | zero => intro x3 x4 o hq; exact nomatch (show (none : Option (Int32)) = some o from hq)
    | succ n ih =>
      intro x3 x4 o hq E2
      have hq : bd_X9_mostLeft_5 x1 x2 s (lp_X9_mostLeft_5 x1 x2 s n) x3 x4 = some o := hq
      refine g_iload C 7 rfl dX9_mostLeft_5 4 rfl ?_
      refine g_bipush 6 C 9 rfl dX9_mostLeft_7 kb_6 ?_
      refine s_icmp_ge C 46 12 rfl dX9_mostLeft_9 (by decide) hq (fun hq => ?_) (fun hq => ?_)
      · cases hq
        exact g_sub [1, 3] rfl (E2 )
      refine g_iload_n C 13 rfl dX9_mostLeft_12 3 rfl ?_
      refine g_iload_n C 14 rfl dX9_mostLeft_13 1 rfl ?_
      refine g_iload C 16 rfl dX9_mostLeft_14 4 rfl ?_
      refine g_ishr C 17 rfl dX9_mostLeft_16 ?_
      refine g_iconst 1 C 18 rfl dX9_mostLeft_17 ki_1 ?_
      refine g_iand C 19 rfl dX9_mostLeft_18 ?_
      refine g_iconst 1 C 20 rfl dX9_mostLeft_19 ki_1 ?_
      refine s_icmp_ne C 37 23 rfl dX9_mostLeft_20 (by decide) hq (fun hq => ?_) (fun hq => ?_)
      · refine g_iconst 0 C 38 rfl dX9_mostLeft_37 ki_0 ?_
        refine g_iadd C 39 rfl dX9_mostLeft_38 ?_
        refine g_istore_n [(3, .int (x3 + 0)), (0, .ref (a 0)), (1, .int x1), (2, .int x2), (4, .int x4)] C 40 rfl dX9_mostLeft_39 (Nat.le_of_ble_eq_true rfl) rfl ?_
        refine g_iinc (x4 + 1) [(4, .int (x4 + 1)), (3, .int (x3 + 0)), (0, .ref (a 0)), (1, .int x1), (2, .int x2)] C 43 rfl dX9_mostLeft_40 4 rfl (ii_1 _) (Nat.le_of_ble_eq_true rfl) rfl ?_
        refine g_goto C 5 dX9_mostLeft_43 (by decide) ?_
        exact g_sub [2, 3, 4, 1, 0] rfl (ih (x3 + 0) (x4 + 1) _ hq E2)
      refine g_aload_n C 24 rfl dX9_mostLeft_23 0 rfl ?_
      refine g_iload_n C 25 rfl dX9_mostLeft_24 2 rfl ?_
      refine g_iload C 27 rfl dX9_mostLeft_25 4 rfl ?_
      obtain ⟨r1, hz2, hq⟩ := bindE hq
      refine g_callRV (rest := [.int x3]) C 30 rfl dX9_mostLeft_27 (c_X9_wouldHear Γ.2.1 Δ a x2 x4 s hz2) mv_X9_wouldHear ml_X9_315 hK hP rfl rfl rfl rfl rfl ⟨Nat.le_of_ble_eq_true rfl, Nat.le_of_ble_eq_true rfl⟩ (Nat.le_of_ble_eq_true rfl) ⟨Nat.zero_le _, Nat.zero_le _⟩ ?_
      refine s_if_eq C 37 33 rfl dX9_mostLeft_30 (by decide) hq (fun hq => ?_) (fun hq => ?_)
      · refine g_iconst 0 C 38 rfl dX9_mostLeft_37 ki_0 ?_
        refine g_iadd C 39 rfl dX9_mostLeft_38 ?_
        refine g_istore_n [(3, .int (x3 + 0)), (0, .ref (a 0)), (1, .int x1), (2, .int x2), (4, .int x4)] C 40 rfl dX9_mostLeft_39 (Nat.le_of_ble_eq_true rfl) rfl ?_
        refine g_iinc (x4 + 1) [(4, .int (x4 + 1)), (3, .int (x3 + 0)), (0, .ref (a 0)), (1, .int x1), (2, .int x2)] C 43 rfl dX9_mostLeft_40 4 rfl (ii_1 _) (Nat.le_of_ble_eq_true rfl) rfl ?_
        refine g_goto C 5 dX9_mostLeft_43 (by decide) ?_
        exact g_sub [2, 3, 4, 1, 0] rfl (ih (x3 + 0) (x4 + 1) _ hq E2)
      refine g_iconst 1 C 34 rfl dX9_mostLeft_33 ki_1 ?_
      refine g_goto C 38 dX9_mostLeft_34 (by decide) ?_
      refine g_iadd C 39 rfl dX9_mostLeft_38 ?_
      refine g_istore_n [(3, .int (x3 + 1)), (0, .ref (a 0)), (1, .int x1), (2, .int x2), (4, .int x4)] C 40 rfl dX9_mostLeft_39 (Nat.le_of_ble_eq_true rfl) rfl ?_
      refine g_iinc (x4 + 1) [(4, .int (x4 + 1)), (3, .int (x3 + 1)), (0, .ref (a 0)), (1, .int x1), (2, .int x2)] C 43 rfl dX9_mostLeft_40 4 rfl (ii_1 _) (Nat.le_of_ble_eq_true rfl) rfl ?_
      refine g_goto C 5 dX9_mostLeft_43 (by decide) ?_
      exact g_sub [2, 3, 4, 1, 0] rfl (ih (x3 + 1) (x4 + 1) _ hq E2)
  obtain ⟨o3, ho4, hq⟩ := bindE hq
  refine g_sub [2, 3, 4, 1, 0] rfl (Q5 x1 x2 FUEL 0 0 o3 ho4 (?_))
  refine g_iload_n C 47 rfl dX9_mostLeft_46 0 rfl ?_
  obtain ⟨r5, hz6, hq⟩ := bindE hq
  refine g_callRS (rest := []) C 50 rfl dX9_mostLeft_47 (c_X9_ones Γ.2.1 Δ  x1  hz6) mv_X9_ones (Or.inl ml_X9_103) hK rfl rfl ⟨Nat.le_of_ble_eq_true rfl, Nat.le_of_ble_eq_true rfl⟩ (Nat.le_of_ble_eq_true rfl) ⟨Nat.zero_le _, Nat.zero_le _⟩ ?_
  refine g_iload_n C 51 rfl dX9_mostLeft_50 1 rfl ?_
  refine g_isub C 52 rfl dX9_mostLeft_51 ?_
  refine g_istore [(4, .int (r5 - o3)), (1, .int x1), (3, .int o3)] C 54 rfl dX9_mostLeft_52 (Nat.le_of_ble_eq_true rfl) rfl ?_
  refine g_iload_n C 55 rfl dX9_mostLeft_54 2 rfl ?_
  refine g_iload C 57 rfl dX9_mostLeft_55 0 rfl ?_
  refine s_icmp_le C 64 60 rfl dX9_mostLeft_57 (by decide) hq (fun hq => ?_) (fun hq => ?_)
  · refine g_iload C 66 rfl dX9_mostLeft_64 0 rfl ?_
    exact r_int hR hq dX9_mostLeft_66 rfl rfl
  refine g_iload_n C 61 rfl dX9_mostLeft_60 2 rfl ?_
  refine g_goto C 66 dX9_mostLeft_61 (by decide) ?_
  exact r_int hR hq dX9_mostLeft_66 rfl rfl
set_option maxHeartbeats 4000000 in
set_option maxRecDepth 100000 in
theorem c_X9_ask (l : Launch) (Δ : gD) (a : Nat → Nat) (x1 : Int32) (s : S9) {res : Int32} (hq : sem_X9_ask x1 s = some res) : MR l yX9_ask cX9_ask 5 (some .int) Δ (cs9 a Δ s) [.ref (a 0), .int x1] 4 92 (.int res) := by
  refine MR.of (by decide) (Nat.le_of_ble_eq_true rfl) ?_
  intro Γ H hl C hK hP hR
  subst hl
  have K77 : ∀ (x1 : Int32) (x2 : Int32) (x3 : Int32), jn_X9_ask_77 x1 x2 x3 s = some res → g Γ { frames := 4, cells := 0, slots := 0, locals := 92 } 5 H [] 0 0 77 [(0, .ref (a 0)), (1, .int x1), (2, .int x2), (3, .int x3)] [] := by
    intro x1 x2 x3 hq
    refine g_iload_n C 78 rfl dX9_ask_77 3 rfl ?_
    refine s_if_lt C 85 81 rfl dX9_ask_78 (by decide) hq (fun hq => ?_) (fun hq => ?_)
    · refine g_iload_n C 86 rfl dX9_ask_85 3 rfl ?_
      refine g_goto C 95 dX9_ask_86 (by decide) ?_
      exact r_int hR hq dX9_ask_95 rfl rfl
    refine g_iload_n C 82 rfl dX9_ask_81 1 rfl ?_
    refine s_if_ne C 89 85 rfl dX9_ask_82 (by decide) hq (fun hq => ?_) (fun hq => ?_)
    rotate_left
    · refine g_iload_n C 86 rfl dX9_ask_85 3 rfl ?_
      refine g_goto C 95 dX9_ask_86 (by decide) ?_
      exact r_int hR hq dX9_ask_95 rfl rfl
    refine g_aload_n C 90 rfl dX9_ask_89 0 rfl ?_
    refine g_iload_n C 91 rfl dX9_ask_90 2 rfl ?_
    refine g_iload_n C 92 rfl dX9_ask_91 3 rfl ?_
    obtain ⟨r1, hz2, hq⟩ := bindE hq
    refine g_callRV (rest := []) C 95 rfl dX9_ask_92 (c_X9_mostLeft Γ.2.1 Δ a x2 x3 s hz2) mv_X9_mostLeft ml_X9_323 hK hP rfl rfl rfl rfl rfl ⟨Nat.le_of_ble_eq_true rfl, Nat.le_of_ble_eq_true rfl⟩ (Nat.le_of_ble_eq_true rfl) ⟨Nat.zero_le _, Nat.zero_le _⟩ ?_
    exact r_int hR hq dX9_ask_95 rfl rfl
  show g Γ { frames := 4, cells := 0, slots := 0, locals := 92 } 5 H [] 0 0 0 [(0, .ref (a 0)), (1, .int x1)] []
  refine g_iload_n C 1 rfl dX9_ask_0 1 rfl ?_
  refine g_i2l C 2 rfl dX9_ask_1 ?_
  refine g_lconst 0 C 3 rfl dX9_ask_2 kl_0 ?_
  refine g_lconst 1 C 4 rfl dX9_ask_3 kl_1 ?_
  obtain ⟨r3, hz4, hq⟩ := bindE hq
  refine g_callRS (rest := []) C 7 rfl dX9_ask_4 (c_X9_in Γ.2.1 Δ  (Int32.toInt64 x1) 0 1  hz4) mv_X9_in (Or.inl ml_X9_90) hK rfl rfl ⟨Nat.le_of_ble_eq_true rfl, Nat.le_of_ble_eq_true rfl⟩ (Nat.le_of_ble_eq_true rfl) ⟨Nat.zero_le _, Nat.zero_le _⟩ ?_
  refine s_if_ne C 13 10 rfl dX9_ask_7 (by decide) hq (fun hq => ?_) (fun hq => ?_)
  rotate_left
  · refine g_bipush (-2) C 12 rfl dX9_ask_10 kb_m2 ?_
    exact r_int hR hq dX9_ask_12 rfl rfl
  refine g_aload_n C 14 rfl dX9_ask_13 0 rfl ?_
  obtain ⟨r5, hz6, hq⟩ := bindE hq
  refine g_callRV (rest := []) C 17 rfl dX9_ask_14 (c_X9_who Γ.2.1 Δ a  s hz6) mv_X9_who ml_X9_321 hK hP rfl rfl rfl rfl rfl ⟨Nat.le_of_ble_eq_true rfl, Nat.le_of_ble_eq_true rfl⟩ (Nat.le_of_ble_eq_true rfl) ⟨Nat.zero_le _, Nat.zero_le _⟩ ?_
  refine g_istore_n [(2, .int r5), (0, .ref (a 0)), (1, .int x1)] C 18 rfl dX9_ask_17 (Nat.le_of_ble_eq_true rfl) rfl ?_
  refine g_bipush (-6) C 20 rfl dX9_ask_18 kb_m6 ?_
  refine g_istore_n [(3, .int (-6)), (2, .int r5), (0, .ref (a 0)), (1, .int x1)] C 21 rfl dX9_ask_20 (Nat.le_of_ble_eq_true rfl) rfl ?_
  refine g_iconst 0 C 22 rfl dX9_ask_21 ki_0 ?_
  refine g_istore [(4, .int 0), (3, .int (-6)), (2, .int r5), (0, .ref (a 0)), (1, .int x1)] C 24 rfl dX9_ask_22 (Nat.le_of_ble_eq_true rfl) rfl ?_
  have Q24 : ∀ (x1 : Int32) (x2 : Int32), ∀ (n : Nat) (x3 : Int32) (x4 : Int32) (o : (Int32)) (hq : lp_X9_ask_24 x1 x2 s n x3 x4 = some o) (E2 : g Γ { frames := 4, cells := 0, slots := 0, locals := 92 } 5 H [] 0 0 77 [(0, .ref (a 0)), (1, .int x1), (2, .int x2), (3, .int o)] []), g Γ { frames := 4, cells := 0, slots := 0, locals := 92 } 5 H [] 0 0 24 [(0, .ref (a 0)), (1, .int x1), (2, .int x2), (3, .int x3), (4, .int x4)] [] := by
    intro x1 x2
    intro n
    induction n with
    | zero => intro x3 x4 o hq; exact nomatch (show (none : Option (Int32)) = some o from hq)
    | succ n ih =>
      intro x3 x4 o hq E2
      have hq : bd_X9_ask_24 x1 x2 s (lp_X9_ask_24 x1 x2 s n) x3 x4 = some o := hq
      refine g_iload C 26 rfl dX9_ask_24 4 rfl ?_
      refine g_bipush 6 C 28 rfl dX9_ask_26 kb_6 ?_
      refine s_icmp_ge C 77 31 rfl dX9_ask_28 (by decide) hq (fun hq => ?_) (fun hq => ?_)
      · cases hq
        exact g_sub [0, 1, 2, 3] rfl (E2 )
      refine g_iload_n C 32 rfl dX9_ask_31 2 rfl ?_
      refine s_if_eq C 77 35 rfl dX9_ask_32 (by decide) hq (fun hq => ?_) (fun hq => ?_)
      · cases hq
        exact g_sub [0, 1, 2, 3] rfl (E2 )
      refine g_aload_n C 36 rfl dX9_ask_35 0 rfl ?_
      refine g_iload C 38 rfl dX9_ask_36 4 rfl ?_
      obtain ⟨r7, hz8, hq⟩ := bindE hq
      refine g_callRV (rest := []) C 41 rfl dX9_ask_38 (c_X9_isOne Γ.2.1 Δ a x4 s hz8) mv_X9_isOne ml_X9_107 hK hP rfl rfl rfl rfl rfl ⟨Nat.le_of_ble_eq_true rfl, Nat.le_of_ble_eq_true rfl⟩ (Nat.le_of_ble_eq_true rfl) ⟨Nat.zero_le _, Nat.zero_le _⟩ ?_
      refine s_if_eq C 69 44 rfl dX9_ask_41 (by decide) hq (fun hq => ?_) (fun hq => ?_)
      · refine g_iload_n C 70 rfl dX9_ask_69 3 rfl ?_
        refine g_istore_n [(3, .int x3), (0, .ref (a 0)), (1, .int x1), (2, .int x2), (4, .int x4)] C 71 rfl dX9_ask_70 (Nat.le_of_ble_eq_true rfl) rfl ?_
        refine g_iinc (x4 + 1) [(4, .int (x4 + 1)), (3, .int x3), (0, .ref (a 0)), (1, .int x1), (2, .int x2)] C 74 rfl dX9_ask_71 4 rfl (ii_1 _) (Nat.le_of_ble_eq_true rfl) rfl ?_
        refine g_goto C 24 dX9_ask_74 (by decide) ?_
        exact g_sub [2, 3, 4, 1, 0] rfl (ih x3 (x4 + 1) _ hq E2)
      refine g_iload_n C 45 rfl dX9_ask_44 3 rfl ?_
      refine s_if_lt C 64 48 rfl dX9_ask_45 (by decide) hq (fun hq => ?_) (fun hq => ?_)
      · refine g_iload C 66 rfl dX9_ask_64 4 rfl ?_
        refine g_goto C 70 dX9_ask_66 (by decide) ?_
        refine g_istore_n [(3, .int x4), (0, .ref (a 0)), (1, .int x1), (2, .int x2), (4, .int x4)] C 71 rfl dX9_ask_70 (Nat.le_of_ble_eq_true rfl) rfl ?_
        refine g_iinc (x4 + 1) [(4, .int (x4 + 1)), (3, .int x4), (0, .ref (a 0)), (1, .int x1), (2, .int x2)] C 74 rfl dX9_ask_71 4 rfl (ii_1 _) (Nat.le_of_ble_eq_true rfl) rfl ?_
        refine g_goto C 24 dX9_ask_74 (by decide) ?_
        exact g_sub [2, 3, 4, 1, 0] rfl (ih x4 (x4 + 1) _ hq E2)
      refine g_aload_n C 49 rfl dX9_ask_48 0 rfl ?_
      refine g_iload_n C 50 rfl dX9_ask_49 2 rfl ?_
      refine g_iload C 52 rfl dX9_ask_50 4 rfl ?_
      obtain ⟨r9, hz10, hq⟩ := bindE hq
      refine g_callRV (rest := []) C 55 rfl dX9_ask_52 (c_X9_mostLeft Γ.2.1 Δ a x2 x4 s hz10) mv_X9_mostLeft ml_X9_323 hK hP rfl rfl rfl rfl rfl ⟨Nat.le_of_ble_eq_true rfl, Nat.le_of_ble_eq_true rfl⟩ (Nat.le_of_ble_eq_true rfl) ⟨Nat.zero_le _, Nat.zero_le _⟩ ?_
      refine g_aload_n C 56 rfl dX9_ask_55 0 rfl ?_
      refine g_iload_n C 57 rfl dX9_ask_56 2 rfl ?_
      refine g_iload_n C 58 rfl dX9_ask_57 3 rfl ?_
      obtain ⟨r11, hz12, hq⟩ := bindE hq
      refine g_callRV (rest := [.int r9]) C 61 rfl dX9_ask_58 (c_X9_mostLeft Γ.2.1 Δ a x2 x3 s hz12) mv_X9_mostLeft ml_X9_323 hK hP rfl rfl rfl rfl rfl ⟨Nat.le_of_ble_eq_true rfl, Nat.le_of_ble_eq_true rfl⟩ (Nat.le_of_ble_eq_true rfl) ⟨Nat.zero_le _, Nat.zero_le _⟩ ?_
      refine s_icmp_ge C 69 64 rfl dX9_ask_61 (by decide) hq (fun hq => ?_) (fun hq => ?_)
      · refine g_iload_n C 70 rfl dX9_ask_69 3 rfl ?_
        refine g_istore_n [(3, .int x3), (0, .ref (a 0)), (1, .int x1), (2, .int x2), (4, .int x4)] C 71 rfl dX9_ask_70 (Nat.le_of_ble_eq_true rfl) rfl ?_
        refine g_iinc (x4 + 1) [(4, .int (x4 + 1)), (3, .int x3), (0, .ref (a 0)), (1, .int x1), (2, .int x2)] C 74 rfl dX9_ask_71 4 rfl (ii_1 _) (Nat.le_of_ble_eq_true rfl) rfl ?_
        refine g_goto C 24 dX9_ask_74 (by decide) ?_
        exact g_sub [2, 3, 4, 1, 0] rfl (ih x3 (x4 + 1) _ hq E2)
      refine g_iload C 66 rfl dX9_ask_64 4 rfl ?_
      refine g_goto C 70 dX9_ask_66 (by decide) ?_
      refine g_istore_n [(3, .int x4), (0, .ref (a 0)), (1, .int x1), (2, .int x2), (4, .int x4)] C 71 rfl dX9_ask_70 (Nat.le_of_ble_eq_true rfl) rfl ?_
      refine g_iinc (x4 + 1) [(4, .int (x4 + 1)), (3, .int x4), (0, .ref (a 0)), (1, .int x1), (2, .int x2)] C 74 rfl dX9_ask_71 4 rfl (ii_1 _) (Nat.le_of_ble_eq_true rfl) rfl ?_
      refine g_goto C 24 dX9_ask_74 (by decide) ?_
      exact g_sub [2, 3, 4, 1, 0] rfl (ih x4 (x4 + 1) _ hq E2)
  obtain ⟨o13, ho14, hq⟩ := bindE hq
  refine g_sub [3, 4, 2, 1, 0] rfl (Q24 x1 r5 FUEL (-6) 0 o13 ho14 (?_))
  exact g_sub [0, 1, 2, 3] rfl (K77 x1 r5 o13 hq)
set_option maxHeartbeats 4000000 in
set_option maxRecDepth 100000 in
theorem c_X9_quarrel (l : Launch) (Δ : gD) (a : Nat → Nat) (x1 : Int32) (x2 : Int32) (x3 : Int32) (s : S9) {res : Int32} (hq : sem_X9_quarrel x1 x2 x3 s = some res) : MR l yX9_quarrel cX9_quarrel 5 (some .int) Δ (cs9 a Δ s) [.ref (a 0), .int x1, .int x2, .int x3] 1 25 (.int res) := by
  refine MR.of (by decide) (Nat.le_of_ble_eq_true rfl) ?_
  intro Γ H hl C hK hP hR
  subst hl
  show g Γ { frames := 1, cells := 0, slots := 0, locals := 25 } 5 H [] 0 0 0 [(0, .ref (a 0)), (1, .int x1), (2, .int x2), (3, .int x3)] []
  refine g_iload_n C 1 rfl dX9_quarrel_0 1 rfl ?_
  refine g_i2l C 2 rfl dX9_quarrel_1 ?_
  refine g_lconst 0 C 3 rfl dX9_quarrel_2 kl_0 ?_
  refine g_ldc2 99 C 6 rfl dX9_quarrel_3 k_X9_97 ?_
  obtain ⟨r1, hz2, hq⟩ := bindE hq
  refine g_callRS (rest := []) C 9 rfl dX9_quarrel_6 (c_X9_in Γ.2.1 Δ  (Int32.toInt64 x1) 0 99  hz2) mv_X9_in (Or.inl ml_X9_90) hK rfl rfl ⟨Nat.le_of_ble_eq_true rfl, Nat.le_of_ble_eq_true rfl⟩ (Nat.le_of_ble_eq_true rfl) ⟨Nat.zero_le _, Nat.zero_le _⟩ ?_
  refine s_if_eq C 34 12 rfl dX9_quarrel_9 (by decide) hq (fun hq => ?_) (fun hq => ?_)
  · refine g_bipush (-2) C 36 rfl dX9_quarrel_34 kb_m2 ?_
    exact r_int hR hq dX9_quarrel_36 rfl rfl
  refine g_iload_n C 13 rfl dX9_quarrel_12 2 rfl ?_
  refine g_i2l C 14 rfl dX9_quarrel_13 ?_
  refine g_lconst 1 C 15 rfl dX9_quarrel_14 kl_1 ?_
  refine g_ldc2 9 C 18 rfl dX9_quarrel_15 k_X9_101 ?_
  obtain ⟨r3, hz4, hq⟩ := bindE hq
  refine g_callRS (rest := []) C 21 rfl dX9_quarrel_18 (c_X9_in Γ.2.1 Δ  (Int32.toInt64 x2) 1 9  hz4) mv_X9_in (Or.inl ml_X9_90) hK rfl rfl ⟨Nat.le_of_ble_eq_true rfl, Nat.le_of_ble_eq_true rfl⟩ (Nat.le_of_ble_eq_true rfl) ⟨Nat.zero_le _, Nat.zero_le _⟩ ?_
  refine s_if_eq C 34 24 rfl dX9_quarrel_21 (by decide) hq (fun hq => ?_) (fun hq => ?_)
  · refine g_bipush (-2) C 36 rfl dX9_quarrel_34 kb_m2 ?_
    exact r_int hR hq dX9_quarrel_36 rfl rfl
  refine g_iload_n C 25 rfl dX9_quarrel_24 3 rfl ?_
  refine g_i2l C 26 rfl dX9_quarrel_25 ?_
  refine g_lconst 0 C 27 rfl dX9_quarrel_26 kl_0 ?_
  refine g_lconst 1 C 28 rfl dX9_quarrel_27 kl_1 ?_
  obtain ⟨r5, hz6, hq⟩ := bindE hq
  refine g_callRS (rest := []) C 31 rfl dX9_quarrel_28 (c_X9_in Γ.2.1 Δ  (Int32.toInt64 x3) 0 1  hz6) mv_X9_in (Or.inl ml_X9_90) hK rfl rfl ⟨Nat.le_of_ble_eq_true rfl, Nat.le_of_ble_eq_true rfl⟩ (Nat.le_of_ble_eq_true rfl) ⟨Nat.zero_le _, Nat.zero_le _⟩ ?_
  refine s_if_ne C 37 34 rfl dX9_quarrel_31 (by decide) hq (fun hq => ?_) (fun hq => ?_)
  rotate_left
  · refine g_bipush (-2) C 36 rfl dX9_quarrel_34 kb_m2 ?_
    exact r_int hR hq dX9_quarrel_36 rfl rfl
  refine g_iload_n C 38 rfl dX9_quarrel_37 1 rfl ?_
  refine g_iload_n C 39 rfl dX9_quarrel_38 2 rfl ?_
  refine g_iconst 1 C 40 rfl dX9_quarrel_39 ki_1 ?_
  refine g_iadd C 41 rfl dX9_quarrel_40 ?_
  obtain ⟨hz7, hq⟩ := dz_some hq
  refine g_irem C 42 rfl dX9_quarrel_41 hz7 ?_
  refine g_istore [(4, .int (jrem x1 (x2 + 1))), (0, .ref (a 0)), (1, .int x1), (2, .int x2), (3, .int x3)] C 44 rfl dX9_quarrel_42 (Nat.le_of_ble_eq_true rfl) rfl ?_
  refine g_iload_n C 45 rfl dX9_quarrel_44 4 rfl ?_
  refine s_if_ne C 61 48 rfl dX9_quarrel_45 (by decide) hq (fun hq => ?_) (fun hq => ?_)
  · refine g_iload C 63 rfl dX9_quarrel_61 0 rfl ?_
    refine s_if_le C 71 66 rfl dX9_quarrel_63 (by decide) hq (fun hq => ?_) (fun hq => ?_)
    · refine g_bipush (-6) C 73 rfl dX9_quarrel_71 kb_m6 ?_
      exact r_int hR hq dX9_quarrel_73 rfl rfl
    refine g_iload C 68 rfl dX9_quarrel_66 0 rfl ?_
    refine g_goto C 73 dX9_quarrel_68 (by decide) ?_
    exact r_int hR hq dX9_quarrel_73 rfl rfl
  refine g_iload C 50 rfl dX9_quarrel_48 0 rfl ?_
  refine s_if_le C 57 53 rfl dX9_quarrel_50 (by decide) hq (fun hq => ?_) (fun hq => ?_)
  · refine g_iconst 0 C 58 rfl dX9_quarrel_57 ki_0 ?_
    refine g_goto C 73 dX9_quarrel_58 (by decide) ?_
    exact r_int hR hq dX9_quarrel_73 rfl rfl
  refine g_iconst 1 C 54 rfl dX9_quarrel_53 ki_1 ?_
  refine g_goto C 73 dX9_quarrel_54 (by decide) ?_
  exact r_int hR hq dX9_quarrel_73 rfl rfl
set_option maxHeartbeats 4000000 in
set_option maxRecDepth 100000 in
theorem c_X9_actBy (l : Launch) (Δ : gD)  (x0 : Int32)  {res : Int32} (hq : sem_X9_actBy x0  = some res) : MR l yX9_actBy cX9_actBy 1 (some .int) Δ ([]) [.int x0] 0 0 (.int res) := by
  refine MR.of (by decide) (Nat.le_of_ble_eq_true rfl) ?_
  intro Γ H hl C hK hP hR
  subst hl
  show g Γ { frames := 0, cells := 0, slots := 0, locals := 0 } 1 H [] 0 0 0 [(0, .int x0)] []
  refine g_iload_n C 1 rfl dX9_actBy_0 0 rfl ?_
  refine g_iconst 3 C 2 rfl dX9_actBy_1 ki_3 ?_
  refine s_icmp_ge C 9 5 rfl dX9_actBy_2 (by decide) hq (fun hq => ?_) (fun hq => ?_)
  rotate_left
  · refine g_iconst 0 C 6 rfl dX9_actBy_5 ki_0 ?_
    refine g_goto C 38 dX9_actBy_6 (by decide) ?_
    exact r_int hR hq dX9_actBy_38 rfl rfl
  refine g_iload_n C 10 rfl dX9_actBy_9 0 rfl ?_
  refine g_iconst 5 C 11 rfl dX9_actBy_10 ki_5 ?_
  refine s_icmp_ge C 18 14 rfl dX9_actBy_11 (by decide) hq (fun hq => ?_) (fun hq => ?_)
  rotate_left
  · refine g_iconst 1 C 15 rfl dX9_actBy_14 ki_1 ?_
    refine g_goto C 38 dX9_actBy_15 (by decide) ?_
    exact r_int hR hq dX9_actBy_38 rfl rfl
  refine g_iload_n C 19 rfl dX9_actBy_18 0 rfl ?_
  refine g_iconst 5 C 20 rfl dX9_actBy_19 ki_5 ?_
  refine s_icmp_ne C 27 23 rfl dX9_actBy_20 (by decide) hq (fun hq => ?_) (fun hq => ?_)
  rotate_left
  · refine g_iconst 2 C 24 rfl dX9_actBy_23 ki_2 ?_
    refine g_goto C 38 dX9_actBy_24 (by decide) ?_
    exact r_int hR hq dX9_actBy_38 rfl rfl
  refine g_iload_n C 28 rfl dX9_actBy_27 0 rfl ?_
  refine g_bipush 6 C 30 rfl dX9_actBy_28 kb_6 ?_
  refine s_icmp_ne C 37 33 rfl dX9_actBy_30 (by decide) hq (fun hq => ?_) (fun hq => ?_)
  · refine g_iconst 4 C 38 rfl dX9_actBy_37 ki_4 ?_
    exact r_int hR hq dX9_actBy_38 rfl rfl
  refine g_iconst 3 C 34 rfl dX9_actBy_33 ki_3 ?_
  refine g_goto C 38 dX9_actBy_34 (by decide) ?_
  exact r_int hR hq dX9_actBy_38 rfl rfl
set_option maxHeartbeats 4000000 in
set_option maxRecDepth 100000 in
theorem c_X9_year (l : Launch) (Δ : gD) (a : Nat → Nat) (x1 : Int32) (x2 : Int32) (x3 : Int32) (s : S9) {res : Int32 × S9} (hq : sem_X9_year x1 x2 x3 s = some res) : MW l yX9_year cX9_year 10 (some .int) Δ (cs9 a Δ s) [.ref (a 0), .int x1, .int x2, .int x3] 6 140 (some (.int res.1)) (cs9 a Δ res.2) := by
  refine MW.of (by decide) (Nat.le_of_ble_eq_true rfl) ?_
  intro Γ A H hl C hK hP hD hS hA hR
  subst hl
  show g Γ { frames := 6, cells := 0, slots := 0, locals := 140 } 10 H [] 0 0 0 [(0, .ref (a 0)), (1, .int x1), (2, .int x2), (3, .int x3)] []
  refine g_iload_n C 1 rfl dX9_year_0 1 rfl ?_
  refine g_i2l C 2 rfl dX9_year_1 ?_
  refine g_lconst 0 C 3 rfl dX9_year_2 kl_0 ?_
  refine g_ldc2 9999 C 6 rfl dX9_year_3 k_X9_326 ?_
  obtain ⟨r1, hz2, hq⟩ := bindE hq
  refine g_callRS (rest := []) C 9 rfl dX9_year_6 (c_X9_in Γ.2.1 Δ  (Int32.toInt64 x1) 0 9999  hz2) mv_X9_in (Or.inl ml_X9_90) hK rfl rfl ⟨Nat.le_of_ble_eq_true rfl, Nat.le_of_ble_eq_true rfl⟩ (Nat.le_of_ble_eq_true rfl) ⟨Nat.zero_le _, Nat.zero_le _⟩ ?_
  refine s_if_eq C 36 12 rfl dX9_year_9 (by decide) hq (fun hq => ?_) (fun hq => ?_)
  · refine g_bipush (-2) C 38 rfl dX9_year_36 kb_m2 ?_
    exact w_int (ws := fun s => cs9 a Δ s) hR hq hP hS dX9_year_38 rfl rfl
  refine g_iload_n C 13 rfl dX9_year_12 2 rfl ?_
  refine g_i2l C 14 rfl dX9_year_13 ?_
  refine g_lconst 1 C 15 rfl dX9_year_14 kl_1 ?_
  refine g_ldc2 99 C 18 rfl dX9_year_15 k_X9_97 ?_
  obtain ⟨r3, hz4, hq⟩ := bindE hq
  refine g_callRS (rest := []) C 21 rfl dX9_year_18 (c_X9_in Γ.2.1 Δ  (Int32.toInt64 x2) 1 99  hz4) mv_X9_in (Or.inl ml_X9_90) hK rfl rfl ⟨Nat.le_of_ble_eq_true rfl, Nat.le_of_ble_eq_true rfl⟩ (Nat.le_of_ble_eq_true rfl) ⟨Nat.zero_le _, Nat.zero_le _⟩ ?_
  refine s_if_eq C 36 24 rfl dX9_year_21 (by decide) hq (fun hq => ?_) (fun hq => ?_)
  · refine g_bipush (-2) C 38 rfl dX9_year_36 kb_m2 ?_
    exact w_int (ws := fun s => cs9 a Δ s) hR hq hP hS dX9_year_38 rfl rfl
  refine g_iload_n C 25 rfl dX9_year_24 3 rfl ?_
  refine g_i2l C 26 rfl dX9_year_25 ?_
  refine g_lconst 0 C 27 rfl dX9_year_26 kl_0 ?_
  refine g_ldc2 2 C 30 rfl dX9_year_27 k_X9_228 ?_
  obtain ⟨r5, hz6, hq⟩ := bindE hq
  refine g_callRS (rest := []) C 33 rfl dX9_year_30 (c_X9_in Γ.2.1 Δ  (Int32.toInt64 x3) 0 2  hz6) mv_X9_in (Or.inl ml_X9_90) hK rfl rfl ⟨Nat.le_of_ble_eq_true rfl, Nat.le_of_ble_eq_true rfl⟩ (Nat.le_of_ble_eq_true rfl) ⟨Nat.zero_le _, Nat.zero_le _⟩ ?_
  refine s_if_ne C 39 36 rfl dX9_year_33 (by decide) hq (fun hq => ?_) (fun hq => ?_)
  rotate_left
  · refine g_bipush (-2) C 38 rfl dX9_year_36 kb_m2 ?_
    exact w_int (ws := fun s => cs9 a Δ s) hR hq hP hS dX9_year_38 rfl rfl
  refine g_aload_n C 40 rfl dX9_year_39 0 rfl ?_
  refine g_aload_n C 41 rfl dX9_year_40 0 rfl ?_
  refine g_get (v := .ref (a 14)) C 44 rfl dX9_year_41 hK hP la_X9 0 25 (Nat.le_of_ble_eq_true rfl) fl_X9_49 rfl rfl rfl rfl ?_
  obtain ⟨r7, hz8, hq⟩ := bindE hq
  refine g_callWV (rest := []) (cs9 a Δ r7) C 47 rfl dX9_year_44 (c_X9_store_had Γ.2.1 Δ a  s hz8) mv_X9_store ml_X9_218 hK hP hD hS hA [0, 1, 2, 3, 4, 5, 6, 7, 8, 9, 10, 11, 12, 13, 14, 15, 16, 17, 18, 19, 20, 21, 22, 23] [] [0, 1, 2, 3, 4, 5, 6, 7, 8, 9, 10, 11, 12, 13, 14, 15, 16, 17, 18, 19, 20, 21, 22, 23] rfl (by decide) (wr := []) rfl (by decide) (by decide) rfl rfl rfl rfl rfl rfl rfl rfl ⟨Nat.le_of_ble_eq_true rfl, Nat.le_of_ble_eq_true rfl⟩ (Nat.le_of_ble_eq_true rfl) ⟨Nat.zero_le _, Nat.zero_le _⟩ (fun H L hP hD hS => ?_)
  refine g_aload_n C 48 rfl dX9_year_47 0 rfl ?_
  obtain ⟨r9, hz10, hq⟩ := bindE hq
  refine g_callWV (rest := []) (cs9 a Δ r9) C 51 rfl dX9_year_48 (c_X9_beginCount Γ.2.1 Δ a  r7 hz10) mv_X9_beginCount ml_X9_198 hK hP hD hS hA [0, 1, 2, 3, 4, 5, 6, 7, 8, 9, 10, 11, 12, 13, 14, 15, 16, 17, 18, 19, 20, 21, 22, 23] [] [0, 1, 2, 3, 4, 5, 6, 7, 8, 9, 10, 11, 12, 13, 14, 15, 16, 17, 18, 19, 20, 21, 22, 23] rfl (by decide) (wr := []) rfl (by decide) (by decide) rfl rfl rfl rfl rfl rfl rfl rfl ⟨Nat.le_of_ble_eq_true rfl, Nat.le_of_ble_eq_true rfl⟩ (Nat.le_of_ble_eq_true rfl) ⟨Nat.zero_le _, Nat.zero_le _⟩ (fun H L hP hD hS => ?_)
  refine g_iload_n C 52 rfl dX9_year_51 1 rfl ?_
  refine g_istore [(4, .int x1), (0, .ref (a 0)), (1, .int x1), (2, .int x2), (3, .int x3)] C 54 rfl dX9_year_52 (Nat.le_of_ble_eq_true rfl) rfl ?_
  refine g_iconst 0 C 55 rfl dX9_year_54 ki_0 ?_
  refine g_istore [(5, .int 0), (4, .int x1), (0, .ref (a 0)), (1, .int x1), (2, .int x2), (3, .int x3)] C 57 rfl dX9_year_55 (Nat.le_of_ble_eq_true rfl) rfl ?_
  have Q57 : ∀ (x2 : Int32) (x3 : Int32), ∀ (n : Nat) (x4 : Int32) (x5 : Int32) (s : S9) (o : (S9)) (H : Heap) (L : List Loc) (hP : va_P Δ.1 classes (cs9 a Δ s) H) (hD : va_D A (cs9 a Δ s)) (hS : va_S A (sOf Γ).heap H L) (hq : lp_X9_year_57 x2 x3 n x4 x5 s = some o) (E2 : ∀ (H : Heap) (L : List Loc), va_P Δ.1 classes (cs9 a Δ o) H → va_D A (cs9 a Δ o) → va_S A (sOf Γ).heap H L → g Γ { frames := 6, cells := 0, slots := 0, locals := 140 } 10 H L 0 0 210 [(0, .ref (a 0)), (3, .int x3)] []), g Γ { frames := 6, cells := 0, slots := 0, locals := 140 } 10 H L 0 0 57 [(0, .ref (a 0)), (2, .int x2), (3, .int x3), (4, .int x4), (5, .int x5)] [] := by
    intro x2 x3
    intro n
    induction n with
    | zero => intro x4 x5 s o H L hP hD hS hq; exact nomatch (show (none : Option (S9)) = some o from hq)
    | succ n ih =>
      intro x4 x5 s o H L hP hD hS hq E2
      have hq : bd_X9_year_57 x2 x3 (lp_X9_year_57 x2 x3 n) x4 x5 s = some o := hq
      have K169 : ∀ (x4 : Int32) (x5 : Int32) (x6 : Int32) (x8 : Int32) (y0 : Int32) (s : S9) (H : Heap) (L : List Loc) (hP : va_P Δ.1 classes (cs9 a Δ s) H) (hD : va_D A (cs9 a Δ s)) (hS : va_S A (sOf Γ).heap H L), jn_X9_year_169 (lp_X9_year_57 x2 x3 n) x2 x3 x4 x5 x6 x8 y0 s = some o → g Γ { frames := 6, cells := 0, slots := 0, locals := 140 } 10 H L 0 0 169 [(0, .ref (a 0)), (2, .int x2), (3, .int x3), (4, .int x4), (5, .int x5), (6, .int x6), (8, .int x8)] [.int y0] := by
        intro x4 x5 x6 x8 y0 s H L hP hD hS hq
        refine g_istore [(9, .int y0), (0, .ref (a 0)), (2, .int x2), (3, .int x3), (4, .int x4), (5, .int x5), (6, .int x6), (8, .int x8)] C 171 rfl dX9_year_169 (Nat.le_of_ble_eq_true rfl) rfl ?_
        refine g_aload_n C 172 rfl dX9_year_171 1 rfl ?_
        refine g_iload C 174 rfl dX9_year_172 6 rfl ?_
        refine g_iload C 176 rfl dX9_year_174 4 rfl ?_
        refine g_bipush 6 C 178 rfl dX9_year_176 kb_6 ?_
        refine g_irem C 179 rfl dX9_year_178 (by decide) ?_
        refine g_iload C 181 rfl dX9_year_179 7 rfl ?_
        refine g_iload C 183 rfl dX9_year_181 0 rfl ?_
        obtain ⟨r11, hz12, hq⟩ := bindE hq
        refine g_callRV (rest := []) C 186 rfl dX9_year_183 (c_X9_whyNot Γ.2.1 Δ a x6 (jrem x4 6) x8 y0 s hz12) mv_X9_whyNot ml_X9_207 hK hP rfl rfl rfl rfl rfl ⟨Nat.le_of_ble_eq_true rfl, Nat.le_of_ble_eq_true rfl⟩ (Nat.le_of_ble_eq_true rfl) ⟨Nat.zero_le _, Nat.zero_le _⟩ ?_
        refine s_if_ne C 204 189 rfl dX9_year_186 (by decide) hq (fun hq => ?_) (fun hq => ?_)
        · refine g_iinc (x5 + 1) [(5, .int (x5 + 1)), (9, .int y0), (0, .ref (a 0)), (2, .int x2), (3, .int x3), (4, .int x4), (6, .int x6), (8, .int x8)] C 207 rfl dX9_year_204 5 rfl (ii_1 _) (Nat.le_of_ble_eq_true rfl) rfl ?_
          refine g_goto C 57 dX9_year_207 (by decide) ?_
          exact g_sub [2, 3, 4, 5, 0] rfl (ih x4 (x5 + 1) s _ _ _ hP hD hS hq E2)
        refine g_aload_n C 190 rfl dX9_year_189 1 rfl ?_
        refine g_iload C 192 rfl dX9_year_190 6 rfl ?_
        refine g_iload C 194 rfl dX9_year_192 4 rfl ?_
        refine g_bipush 6 C 196 rfl dX9_year_194 kb_6 ?_
        refine g_irem C 197 rfl dX9_year_196 (by decide) ?_
        refine g_iload C 199 rfl dX9_year_197 7 rfl ?_
        refine g_iload C 201 rfl dX9_year_199 0 rfl ?_
        obtain ⟨r13, hz14, hq⟩ := bindE hq
        refine g_callWV (rest := []) (cs9 a Δ r13) C 204 rfl dX9_year_201 (c_X9_happen Γ.2.1 Δ a x6 (jrem x4 6) x8 y0 s hz14) mv_X9_happen ml_X9_211 hK hP hD hS hA [0, 1, 2, 3, 4, 5, 6, 7, 8, 9, 10, 11, 12, 13, 14, 15, 16, 17, 18, 19, 20, 21, 22, 23] [] [0, 1, 2, 3, 4, 5, 6, 7, 8, 9, 10, 11, 12, 13, 14, 15, 16, 17, 18, 19, 20, 21, 22, 23] rfl (by decide) (wr := []) rfl (by decide) (by decide) rfl rfl rfl rfl rfl rfl rfl rfl ⟨Nat.le_of_ble_eq_true rfl, Nat.le_of_ble_eq_true rfl⟩ (Nat.le_of_ble_eq_true rfl) ⟨Nat.zero_le _, Nat.zero_le _⟩ (fun H L hP hD hS => ?_)
        refine g_iinc (x5 + 1) [(5, .int (x5 + 1)), (9, .int y0), (0, .ref (a 0)), (2, .int x2), (3, .int x3), (4, .int x4), (6, .int x6), (8, .int x8)] C 207 rfl dX9_year_204 5 rfl (ii_1 _) (Nat.le_of_ble_eq_true rfl) rfl ?_
        refine g_goto C 57 dX9_year_207 (by decide) ?_
        exact g_sub [2, 3, 4, 5, 0] rfl (ih x4 (x5 + 1) r13 _ _ _ hP hD hS hq E2)
      have K118 : ∀ (x4 : Int32) (x5 : Int32) (x6 : Int32) (x7 : Int32) (y0 : Int32) (s : S9) (H : Heap) (L : List Loc) (hP : va_P Δ.1 classes (cs9 a Δ s) H) (hD : va_D A (cs9 a Δ s)) (hS : va_S A (sOf Γ).heap H L), jn_X9_year_118 (lp_X9_year_57 x2 x3 n) x2 x3 x4 x5 x6 x7 y0 s = some o → g Γ { frames := 6, cells := 0, slots := 0, locals := 140 } 10 H L 0 0 118 [(0, .ref (a 0)), (2, .int x2), (3, .int x3), (4, .int x4), (5, .int x5), (6, .int x6), (7, .int x7)] [.int y0] := by
        intro x4 x5 x6 x7 y0 s H L hP hD hS hq
        refine g_istore [(8, .int y0), (0, .ref (a 0)), (2, .int x2), (3, .int x3), (4, .int x4), (5, .int x5), (6, .int x6), (7, .int x7)] C 120 rfl dX9_year_118 (Nat.le_of_ble_eq_true rfl) rfl ?_
        refine g_iload C 122 rfl dX9_year_120 6 rfl ?_
        refine s_if_ne C 139 125 rfl dX9_year_122 (by decide) hq (fun hq => ?_) (fun hq => ?_)
        rotate_left
        · refine g_iconst 1 C 126 rfl dX9_year_125 ki_1 ?_
          refine g_iload C 128 rfl dX9_year_126 4 rfl ?_
          refine g_sipush 192 C 131 rfl dX9_year_128 ks_192 ?_
          refine g_idiv C 132 rfl dX9_year_131 (by decide) ?_
          refine g_bipush 9 C 134 rfl dX9_year_132 kb_9 ?_
          refine g_irem C 135 rfl dX9_year_134 (by decide) ?_
          refine g_iadd C 136 rfl dX9_year_135 ?_
          refine g_goto C 169 dX9_year_136 (by decide) ?_
          exact g_sub [1, 2, 3, 4, 5, 6, 0] rfl (K169 x4 x5 x6 y0 (1 + (jrem (x4 / 192) 9)) s _ _ hP hD hS hq)
        refine g_iload C 141 rfl dX9_year_139 6 rfl ?_
        refine g_iconst 1 C 142 rfl dX9_year_141 ki_1 ?_
        refine s_icmp_ne C 154 145 rfl dX9_year_142 (by decide) hq (fun hq => ?_) (fun hq => ?_)
        rotate_left
        · refine g_iconst 1 C 146 rfl dX9_year_145 ki_1 ?_
          refine g_iload C 148 rfl dX9_year_146 7 rfl ?_
          refine g_iconst 5 C 149 rfl dX9_year_148 ki_5 ?_
          refine g_irem C 150 rfl dX9_year_149 (by decide) ?_
          refine g_iadd C 151 rfl dX9_year_150 ?_
          refine g_goto C 169 dX9_year_151 (by decide) ?_
          exact g_sub [1, 2, 3, 4, 5, 6, 0] rfl (K169 x4 x5 x6 y0 (1 + (jrem x7 5)) s _ _ hP hD hS hq)
        refine g_iload C 156 rfl dX9_year_154 6 rfl ?_
        refine g_iconst 2 C 157 rfl dX9_year_156 ki_2 ?_
        refine s_icmp_ne C 164 160 rfl dX9_year_157 (by decide) hq (fun hq => ?_) (fun hq => ?_)
        rotate_left
        · refine g_iconst 1 C 161 rfl dX9_year_160 ki_1 ?_
          refine g_goto C 169 dX9_year_161 (by decide) ?_
          exact g_sub [1, 2, 3, 4, 5, 6, 0] rfl (K169 x4 x5 x6 y0 1 s _ _ hP hD hS hq)
        refine g_iload C 166 rfl dX9_year_164 7 rfl ?_
        refine g_bipush 10 C 168 rfl dX9_year_166 kb_10 ?_
        refine g_irem C 169 rfl dX9_year_168 (by decide) ?_
        exact g_sub [1, 2, 3, 4, 5, 6, 0] rfl (K169 x4 x5 x6 y0 (jrem x7 10) s _ _ hP hD hS hq)
      refine g_iload C 59 rfl dX9_year_57 4 rfl ?_
      refine g_iload_n C 60 rfl dX9_year_59 1 rfl ?_
      refine s_icmp_ge C 210 63 rfl dX9_year_60 (by decide) hq (fun hq => ?_) (fun hq => ?_)
      · cases hq
        exact g_sub [0, 2] rfl (E2 _ _ hP hD hS)
      refine g_ldc2 75 C 66 rfl dX9_year_63 k_X9_328 ?_
      refine g_iload C 68 rfl dX9_year_66 3 rfl ?_
      refine g_i2l C 69 rfl dX9_year_68 ?_
      refine g_lmul C 70 rfl dX9_year_69 ?_
      refine g_ldc2 74 C 73 rfl dX9_year_70 k_X9_330 ?_
      refine g_ladd C 74 rfl dX9_year_73 ?_
      refine g_ldc2 65537 C 77 rfl dX9_year_74 k_X9_332 ?_
      refine g_lrem C 78 rfl dX9_year_77 (by decide) ?_
      refine g_l2i C 79 rfl dX9_year_78 ?_
      refine g_istore [(4, .int (Int64.toInt32 (jreml ((75 * (Int32.toInt64 x4)) + 74) 65537))), (0, .ref (a 0)), (2, .int x2), (3, .int x3), (5, .int x5)] C 81 rfl dX9_year_79 (Nat.le_of_ble_eq_true rfl) rfl ?_
      refine g_iload C 83 rfl dX9_year_81 0 rfl ?_
      refine g_bipush 6 C 85 rfl dX9_year_83 kb_6 ?_
      refine g_idiv C 86 rfl dX9_year_85 (by decide) ?_
      refine g_bipush 8 C 88 rfl dX9_year_86 kb_8 ?_
      refine g_irem C 89 rfl dX9_year_88 (by decide) ?_
      obtain ⟨r15, hz16, hq⟩ := bindE hq
      refine g_callRS (rest := []) C 92 rfl dX9_year_89 (c_X9_actBy Γ.2.1 Δ  (jrem ((Int64.toInt32 (jreml ((75 * (Int32.toInt64 x4)) + 74) 65537)) / 6) 8)  hz16) mv_X9_actBy (Or.inl ml_X9_334) hK rfl rfl ⟨Nat.le_of_ble_eq_true rfl, Nat.le_of_ble_eq_true rfl⟩ (Nat.le_of_ble_eq_true rfl) ⟨Nat.zero_le _, Nat.zero_le _⟩ ?_
      refine g_istore [(6, .int r15), (4, .int (Int64.toInt32 (jreml ((75 * (Int32.toInt64 x4)) + 74) 65537))), (0, .ref (a 0)), (2, .int x2), (3, .int x3), (5, .int x5)] C 94 rfl dX9_year_92 (Nat.le_of_ble_eq_true rfl) rfl ?_
      refine g_iload C 96 rfl dX9_year_94 1 rfl ?_
      refine g_bipush 48 C 98 rfl dX9_year_96 kb_48 ?_
      refine g_idiv C 99 rfl dX9_year_98 (by decide) ?_
      refine g_istore [(7, .int ((Int64.toInt32 (jreml ((75 * (Int32.toInt64 x4)) + 74) 65537)) / 48)), (6, .int r15), (4, .int (Int64.toInt32 (jreml ((75 * (Int32.toInt64 x4)) + 74) 65537))), (0, .ref (a 0)), (2, .int x2), (3, .int x3), (5, .int x5)] C 101 rfl dX9_year_99 (Nat.le_of_ble_eq_true rfl) rfl ?_
      refine g_iload C 103 rfl dX9_year_101 1 rfl ?_
      refine s_if_ne C 113 106 rfl dX9_year_103 (by decide) hq (fun hq => ?_) (fun hq => ?_)
      · refine g_iload C 115 rfl dX9_year_113 0 rfl ?_
        refine g_bipush 6 C 117 rfl dX9_year_115 kb_6 ?_
        refine g_irem C 118 rfl dX9_year_117 (by decide) ?_
        exact g_sub [3, 4, 5, 2, 6, 1, 0] rfl (K118 (Int64.toInt32 (jreml ((75 * (Int32.toInt64 x4)) + 74) 65537)) x5 r15 ((Int64.toInt32 (jreml ((75 * (Int32.toInt64 x4)) + 74) 65537)) / 48) (jrem ((Int64.toInt32 (jreml ((75 * (Int32.toInt64 x4)) + 74) 65537)) / 48) 6) s _ _ hP hD hS hq)
      refine g_iload C 108 rfl dX9_year_106 0 rfl ?_
      refine g_iconst 4 C 109 rfl dX9_year_108 ki_4 ?_
      refine g_irem C 110 rfl dX9_year_109 (by decide) ?_
      refine g_goto C 118 dX9_year_110 (by decide) ?_
      exact g_sub [3, 4, 5, 2, 6, 1, 0] rfl (K118 (Int64.toInt32 (jreml ((75 * (Int32.toInt64 x4)) + 74) 65537)) x5 r15 ((Int64.toInt32 (jreml ((75 * (Int32.toInt64 x4)) + 74) 65537)) / 48) (jrem ((Int64.toInt32 (jreml ((75 * (Int32.toInt64 x4)) + 74) 65537)) / 48) 4) s _ _ hP hD hS hq)
  obtain ⟨o17, ho18, hq⟩ := bindE hq
  refine g_sub [2, 4, 5, 1, 0] rfl (Q57 x2 x3 FUEL x1 0 r9 o17 _ _ hP hD hS ho18 (fun H L hP hD hS => ?_))
  refine g_iconst 0 C 211 rfl dX9_year_210 ki_0 ?_
  refine g_istore [(5, .int 0), (0, .ref (a 0)), (3, .int x3)] C 213 rfl dX9_year_211 (Nat.le_of_ble_eq_true rfl) rfl ?_
  refine g_iconst 0 C 214 rfl dX9_year_213 ki_0 ?_
  refine g_istore [(6, .int 0), (5, .int 0), (0, .ref (a 0)), (3, .int x3)] C 216 rfl dX9_year_214 (Nat.le_of_ble_eq_true rfl) rfl ?_
  have Q216 : ∀ (x3 : Int32), ∀ (n : Nat) (x5 : Int32) (x6 : Int32) (o : (Int32)) (hq : lp_X9_year_216 x3 s n x5 x6 = some o) (E2 : g Γ { frames := 6, cells := 0, slots := 0, locals := 140 } 10 H L 0 0 254 [(0, .ref (a 0)), (3, .int x3), (5, .int o)] []), g Γ { frames := 6, cells := 0, slots := 0, locals := 140 } 10 H L 0 0 216 [(0, .ref (a 0)), (3, .int x3), (5, .int x5), (6, .int x6)] [] := by
    intro x3
    intro n
    induction n with
    | zero => intro x5 x6 o hq; exact nomatch (show (none : Option (Int32)) = some o from hq)
    | succ n ih =>
      intro x5 x6 o hq E2
      have hq : bd_X9_year_216 x3 s (lp_X9_year_216 x3 s n) x5 x6 = some o := hq
      refine g_iload C 218 rfl dX9_year_216 3 rfl ?_
      refine g_bipush 6 C 220 rfl dX9_year_218 kb_6 ?_
      refine s_icmp_ge C 254 223 rfl dX9_year_220 (by decide) hq (fun hq => ?_) (fun hq => ?_)
      · cases hq
        exact g_sub [0, 1, 2] rfl (E2 )
      refine g_iload C 225 rfl dX9_year_223 2 rfl ?_
      refine g_aload_n C 226 rfl dX9_year_225 0 rfl ?_
      refine g_iload C 228 rfl dX9_year_226 3 rfl ?_
      obtain ⟨r19, hz20, hq⟩ := bindE hq
      refine g_callRV (rest := [.int x5]) C 231 rfl dX9_year_228 (c_X9_isOne Γ.2.1 Δ a x6 s hz20) mv_X9_isOne ml_X9_107 hK hP rfl rfl rfl rfl rfl ⟨Nat.le_of_ble_eq_true rfl, Nat.le_of_ble_eq_true rfl⟩ (Nat.le_of_ble_eq_true rfl) ⟨Nat.zero_le _, Nat.zero_le _⟩ ?_
      refine s_if_eq C 244 234 rfl dX9_year_231 (by decide) hq (fun hq => ?_) (fun hq => ?_)
      · refine g_iconst 0 C 245 rfl dX9_year_244 ki_0 ?_
        refine g_iadd C 246 rfl dX9_year_245 ?_
        refine g_istore [(5, .int (x5 + 0)), (0, .ref (a 0)), (3, .int x3), (6, .int x6)] C 248 rfl dX9_year_246 (Nat.le_of_ble_eq_true rfl) rfl ?_
        refine g_iinc (x6 + 1) [(6, .int (x6 + 1)), (5, .int (x5 + 0)), (0, .ref (a 0)), (3, .int x3)] C 251 rfl dX9_year_248 3 rfl (ii_1 _) (Nat.le_of_ble_eq_true rfl) rfl ?_
        refine g_goto C 216 dX9_year_251 (by decide) ?_
        exact g_sub [2, 3, 1, 0] rfl (ih (x5 + 0) (x6 + 1) _ hq E2)
      refine g_aload_n C 235 rfl dX9_year_234 0 rfl ?_
      refine g_get (v := .ref (a 1)) C 238 rfl dX9_year_235 hK hP la_X9 0 3 (Nat.le_of_ble_eq_true rfl) fl_X9_7 rfl rfl rfl rfl ?_
      refine g_iload C 240 rfl dX9_year_238 3 rfl ?_
      refine s_iald C 241 rfl dX9_year_240 hK hP 1 rfl hq (fun hq hi21 => ?_)
      refine g_goto C 245 dX9_year_241 (by decide) ?_
      refine g_iadd C 246 rfl dX9_year_245 ?_
      refine g_istore [(5, .int (x5 + ((x9_temper s) (x6 : Int32).toNatClampNeg))), (0, .ref (a 0)), (3, .int x3), (6, .int x6)] C 248 rfl dX9_year_246 (Nat.le_of_ble_eq_true rfl) rfl ?_
      refine g_iinc (x6 + 1) [(6, .int (x6 + 1)), (5, .int (x5 + ((x9_temper s) (x6 : Int32).toNatClampNeg))), (0, .ref (a 0)), (3, .int x3)] C 251 rfl dX9_year_248 3 rfl (ii_1 _) (Nat.le_of_ble_eq_true rfl) rfl ?_
      refine g_goto C 216 dX9_year_251 (by decide) ?_
      exact g_sub [2, 3, 1, 0] rfl (ih (x5 + ((x9_temper s) (x6 : Int32).toNatClampNeg)) (x6 + 1) _ hq E2)
  obtain ⟨o22, ho23, hq⟩ := bindE hq
  refine g_sub [2, 3, 1, 0] rfl (Q216 x3 FUEL 0 0 o22 ho23 (?_))
  refine g_aload_n C 255 rfl dX9_year_254 0 rfl ?_
  refine g_aload_n C 256 rfl dX9_year_255 0 rfl ?_
  refine g_get (v := .ref (a 14)) C 259 rfl dX9_year_256 hK hP la_X9 0 25 (Nat.le_of_ble_eq_true rfl) fl_X9_49 rfl rfl rfl rfl ?_
  obtain ⟨r24, hz25, hq⟩ := bindE hq
  refine g_callWV (rest := []) (cs9 a Δ r24) C 262 rfl dX9_year_259 (c_X9_lay_had Γ.2.1 Δ a  o17 hz25) mv_X9_lay ml_X9_225 hK hP hD hS hA [0, 1, 2, 3, 4, 5, 6, 7, 8, 9, 10, 11, 12, 13, 14, 15, 16, 17, 18, 19, 20, 21, 22, 23] [] [0, 1, 2, 3, 4, 5, 6, 7, 8, 9, 10, 11, 12, 13, 14, 15, 16, 17, 18, 19, 20, 21, 22, 23] rfl (by decide) (wr := []) rfl (by decide) (by decide) rfl rfl rfl rfl rfl rfl rfl rfl ⟨Nat.le_of_ble_eq_true rfl, Nat.le_of_ble_eq_true rfl⟩ (Nat.le_of_ble_eq_true rfl) ⟨Nat.zero_le _, Nat.zero_le _⟩ (fun H L hP hD hS => ?_)
  refine g_iload_n C 263 rfl dX9_year_262 1 rfl ?_
  refine s_if_ne C 273 266 rfl dX9_year_263 (by decide) hq (fun hq => ?_) (fun hq => ?_)
  rotate_left
  · refine g_aload_n C 267 rfl dX9_year_266 0 rfl ?_
    refine g_get (v := .int (x9_slipMany r24)) C 270 rfl dX9_year_267 hK hP la_X9 0 19 (Nat.le_of_ble_eq_true rfl) fl_X9_172 rfl rfl rfl rfl ?_
    refine g_goto C 287 dX9_year_270 (by decide) ?_
    exact w_int (ws := fun s => cs9 a Δ s) hR hq hP hS dX9_year_287 rfl rfl
  refine g_iload_n C 274 rfl dX9_year_273 1 rfl ?_
  refine g_iconst 1 C 275 rfl dX9_year_274 ki_1 ?_
  refine s_icmp_ne C 285 278 rfl dX9_year_275 (by decide) hq (fun hq => ?_) (fun hq => ?_)
  · refine g_iload C 287 rfl dX9_year_285 2 rfl ?_
    exact w_int (ws := fun s => cs9 a Δ s) hR hq hP hS dX9_year_287 rfl rfl
  refine g_aload_n C 279 rfl dX9_year_278 0 rfl ?_
  refine g_get (v := .int (x9_paid r24)) C 282 rfl dX9_year_279 hK hP la_X9 0 23 (Nat.le_of_ble_eq_true rfl) fl_X9_169 rfl rfl rfl rfl ?_
  refine g_goto C 287 dX9_year_282 (by decide) ?_
  exact w_int (ws := fun s => cs9 a Δ s) hR hq hP hS dX9_year_287 rfl rfl
set_option maxHeartbeats 4000000 in
set_option maxRecDepth 100000 in
theorem c_X9_pass (l : Launch) (Δ : gD) (a : Nat → Nat) (x1 : Int32) (s : S9) {res : Int32 × S9} (hq : sem_X9_pass x1 s = some res) : MW l yX9_pass cX9_pass 3 (some .int) Δ (cs9 a Δ s) [.ref (a 0), .int x1] 0 0 (some (.int res.1)) (cs9 a Δ res.2) := by
  refine MW.of (by decide) (Nat.le_of_ble_eq_true rfl) ?_
  intro Γ A H hl C hK hP hD hS hA hR
  subst hl
  have K20 : ∀ (y0 : Int32) (s : S9) (H : Heap) (L : List Loc) (hP : va_P Δ.1 classes (cs9 a Δ s) H) (hD : va_D A (cs9 a Δ s)) (hS : va_S A (sOf Γ).heap H L), jn_X9_pass_20 y0 s = some res → g Γ { frames := 0, cells := 0, slots := 0, locals := 0 } 3 H L 0 0 20 [(0, .ref (a 0))] [.int y0] := by
    intro y0 s H L hP hD hS hq
    refine g_istore_n [(2, .int y0), (0, .ref (a 0))] C 21 rfl dX9_pass_20 (Nat.le_of_ble_eq_true rfl) rfl ?_
    refine g_aload_n C 22 rfl dX9_pass_21 1 rfl ?_
    refine g_get (v := .ref (a 22)) C 25 rfl dX9_pass_22 hK hP la_X9 0 37 (Nat.le_of_ble_eq_true rfl) fl_X9_74 rfl rfl rfl rfl ?_
    refine g_aload_n C 26 rfl dX9_pass_25 1 rfl ?_
    refine g_get (v := .int (x9_keptAt s)) C 29 rfl dX9_pass_26 hK hP la_X9 0 39 (Nat.le_of_ble_eq_true rfl) fl_X9_341 rfl rfl rfl rfl ?_
    refine g_iload_n C 30 rfl dX9_pass_29 0 rfl ?_
    refine s_iast (cs9 a Δ (p9_kept s (upd (x9_kept s) ((x9_keptAt s) : Int32).toNatClampNeg y0))) C 31 rfl dX9_pass_30 hK hP hD hS 22 rfl hq rfl (fun hq hi1 H L hP hD hS => ?_)
    refine g_aload_n C 32 rfl dX9_pass_31 1 rfl ?_
    refine g_dup C 33 rfl dX9_pass_32 rfl ?_
    refine g_get (v := .int (x9_keptAt s)) C 36 rfl dX9_pass_33 hK hP la_X9 0 39 (Nat.le_of_ble_eq_true rfl) fl_X9_341 rfl rfl rfl rfl ?_
    refine g_iconst 1 C 37 rfl dX9_pass_36 ki_1 ?_
    refine g_iadd C 38 rfl dX9_pass_37 ?_
    refine g_put (cs9 a Δ (p9_keptAt (p9_kept s (upd (x9_kept s) ((x9_keptAt s) : Int32).toNatClampNeg y0)) ((x9_keptAt s) + 1))) C 41 rfl dX9_pass_38 hK hP hD hS la_X9 tyX9_ok nmX9 0 39 (Nat.le_of_ble_eq_true rfl) fl_X9_341 rfl rfl rfl rfl rfl rfl (Nat.le_of_ble_eq_true rfl) rfl (fun H L hP hD hS => ?_)
    refine g_iload_n C 42 rfl dX9_pass_41 0 rfl ?_
    exact w_int (ws := fun s => cs9 a Δ s) hR hq hP hS dX9_pass_42 rfl rfl
  show g Γ { frames := 0, cells := 0, slots := 0, locals := 0 } 3 H [] 0 0 0 [(0, .ref (a 0)), (1, .int x1)] []
  refine g_aload_n C 1 rfl dX9_pass_0 0 rfl ?_
  refine g_get (v := .int (x9_isWriting s)) C 4 rfl dX9_pass_1 hK hP la_X9 0 40 (Nat.le_of_ble_eq_true rfl) fl_X9_337 rfl rfl rfl rfl ?_
  refine s_if_eq C 11 7 rfl dX9_pass_4 (by decide) hq (fun hq => ?_) (fun hq => ?_)
  rotate_left
  · refine g_iload_n C 8 rfl dX9_pass_7 1 rfl ?_
    refine g_goto C 20 dX9_pass_8 (by decide) ?_
    exact g_sub [0] rfl (K20 x1 s _ _ hP hD hS hq)
  refine g_aload_n C 12 rfl dX9_pass_11 0 rfl ?_
  refine g_get (v := .ref (a 22)) C 15 rfl dX9_pass_12 hK hP la_X9 0 37 (Nat.le_of_ble_eq_true rfl) fl_X9_74 rfl rfl rfl rfl ?_
  refine g_aload_n C 16 rfl dX9_pass_15 0 rfl ?_
  refine g_get (v := .int (x9_keptAt s)) C 19 rfl dX9_pass_16 hK hP la_X9 0 39 (Nat.le_of_ble_eq_true rfl) fl_X9_341 rfl rfl rfl rfl ?_
  refine s_iald C 20 rfl dX9_pass_19 hK hP 22 rfl hq (fun hq hi2 => ?_)
  exact g_sub [0] rfl (K20 ((x9_kept s) ((x9_keptAt s) : Int32).toNatClampNeg) s _ _ hP hD hS hq)
set_option maxHeartbeats 4000000 in
set_option maxRecDepth 100000 in
theorem c_X9_passAll (l : Launch) (Δ : gD) (a : Nat → Nat)  (s : S9) {res : S9} (hq : sem_X9_passAll  s = some res) : MW l yX9_passAll cX9_passAll 2 none Δ (cs9 a Δ s) [.ref (a 0)] 1 22 none (cs9 a Δ res) := by
  refine MW.of (by decide) (Nat.le_of_ble_eq_true rfl) ?_
  intro Γ A H hl C hK hP hD hS hA hR
  subst hl
  show g Γ { frames := 1, cells := 0, slots := 0, locals := 22 } 2 H [] 0 0 0 [(0, .ref (a 0))] []
  refine g_aload_n C 1 rfl dX9_passAll_0 0 rfl ?_
  refine g_aload_n C 2 rfl dX9_passAll_1 0 rfl ?_
  refine g_aload_n C 3 rfl dX9_passAll_2 0 rfl ?_
  refine g_get (v := .int (x9_there s)) C 6 rfl dX9_passAll_3 hK hP la_X9 0 0 (Nat.le_of_ble_eq_true rfl) fl_X9_94 rfl rfl rfl rfl ?_
  obtain ⟨r1, hz2, hq⟩ := bindE hq
  refine g_callWV (rest := [.ref (a 0)]) (cs9 a Δ r1.2) C 9 rfl dX9_passAll_6 (c_X9_pass Γ.2.1 Δ a (x9_there s) s hz2) mv_X9_pass ml_X9_344 hK hP hD hS hA [0, 1, 2, 3, 4, 5, 6, 7, 8, 9, 10, 11, 12, 13, 14, 15, 16, 17, 18, 19, 20, 21, 22, 23] [] [0, 1, 2, 3, 4, 5, 6, 7, 8, 9, 10, 11, 12, 13, 14, 15, 16, 17, 18, 19, 20, 21, 22, 23] rfl (by decide) (wr := []) rfl (by decide) (by decide) rfl rfl rfl rfl rfl rfl rfl rfl ⟨Nat.le_of_ble_eq_true rfl, Nat.le_of_ble_eq_true rfl⟩ (Nat.le_of_ble_eq_true rfl) ⟨Nat.zero_le _, Nat.zero_le _⟩ (fun H L hP hD hS => ?_)
  refine g_put (cs9 a Δ (p9_there r1.2 r1.1)) C 12 rfl dX9_passAll_9 hK hP hD hS la_X9 tyX9_ok nmX9 0 0 (Nat.le_of_ble_eq_true rfl) fl_X9_94 rfl rfl rfl rfl rfl rfl (Nat.le_of_ble_eq_true rfl) rfl (fun H L hP hD hS => ?_)
  refine g_aload_n C 13 rfl dX9_passAll_12 0 rfl ?_
  refine g_aload_n C 14 rfl dX9_passAll_13 0 rfl ?_
  refine g_aload_n C 15 rfl dX9_passAll_14 0 rfl ?_
  refine g_get (v := .int (x9_limit r1.2)) C 18 rfl dX9_passAll_15 hK hP la_X9 0 1 (Nat.le_of_ble_eq_true rfl) fl_X9_81 rfl rfl rfl rfl ?_
  obtain ⟨r3, hz4, hq⟩ := bindE hq
  refine g_callWV (rest := [.ref (a 0)]) (cs9 a Δ r3.2) C 21 rfl dX9_passAll_18 (c_X9_pass Γ.2.1 Δ a (x9_limit r1.2) (p9_there r1.2 r1.1) hz4) mv_X9_pass ml_X9_344 hK hP hD hS hA [0, 1, 2, 3, 4, 5, 6, 7, 8, 9, 10, 11, 12, 13, 14, 15, 16, 17, 18, 19, 20, 21, 22, 23] [] [0, 1, 2, 3, 4, 5, 6, 7, 8, 9, 10, 11, 12, 13, 14, 15, 16, 17, 18, 19, 20, 21, 22, 23] rfl (by decide) (wr := []) rfl (by decide) (by decide) rfl rfl rfl rfl rfl rfl rfl rfl ⟨Nat.le_of_ble_eq_true rfl, Nat.le_of_ble_eq_true rfl⟩ (Nat.le_of_ble_eq_true rfl) ⟨Nat.zero_le _, Nat.zero_le _⟩ (fun H L hP hD hS => ?_)
  refine g_put (cs9 a Δ (p9_limit r3.2 r3.1)) C 24 rfl dX9_passAll_21 hK hP hD hS la_X9 tyX9_ok nmX9 0 1 (Nat.le_of_ble_eq_true rfl) fl_X9_81 rfl rfl rfl rfl rfl rfl (Nat.le_of_ble_eq_true rfl) rfl (fun H L hP hD hS => ?_)
  refine g_aload_n C 25 rfl dX9_passAll_24 0 rfl ?_
  refine g_aload_n C 26 rfl dX9_passAll_25 0 rfl ?_
  refine g_aload_n C 27 rfl dX9_passAll_26 0 rfl ?_
  refine g_get (v := .int (x9_ears r3.2)) C 30 rfl dX9_passAll_27 hK hP la_X9 0 2 (Nat.le_of_ble_eq_true rfl) fl_X9_85 rfl rfl rfl rfl ?_
  obtain ⟨r5, hz6, hq⟩ := bindE hq
  refine g_callWV (rest := [.ref (a 0)]) (cs9 a Δ r5.2) C 33 rfl dX9_passAll_30 (c_X9_pass Γ.2.1 Δ a (x9_ears r3.2) (p9_limit r3.2 r3.1) hz6) mv_X9_pass ml_X9_344 hK hP hD hS hA [0, 1, 2, 3, 4, 5, 6, 7, 8, 9, 10, 11, 12, 13, 14, 15, 16, 17, 18, 19, 20, 21, 22, 23] [] [0, 1, 2, 3, 4, 5, 6, 7, 8, 9, 10, 11, 12, 13, 14, 15, 16, 17, 18, 19, 20, 21, 22, 23] rfl (by decide) (wr := []) rfl (by decide) (by decide) rfl rfl rfl rfl rfl rfl rfl rfl ⟨Nat.le_of_ble_eq_true rfl, Nat.le_of_ble_eq_true rfl⟩ (Nat.le_of_ble_eq_true rfl) ⟨Nat.zero_le _, Nat.zero_le _⟩ (fun H L hP hD hS => ?_)
  refine g_put (cs9 a Δ (p9_ears r5.2 r5.1)) C 36 rfl dX9_passAll_33 hK hP hD hS la_X9 tyX9_ok nmX9 0 2 (Nat.le_of_ble_eq_true rfl) fl_X9_85 rfl rfl rfl rfl rfl rfl (Nat.le_of_ble_eq_true rfl) rfl (fun H L hP hD hS => ?_)
  refine g_aload_n C 37 rfl dX9_passAll_36 0 rfl ?_
  refine g_aload_n C 38 rfl dX9_passAll_37 0 rfl ?_
  refine g_aload_n C 39 rfl dX9_passAll_38 0 rfl ?_
  refine g_get (v := .int (x9_sights r5.2)) C 42 rfl dX9_passAll_39 hK hP la_X9 0 11 (Nat.le_of_ble_eq_true rfl) fl_X9_312 rfl rfl rfl rfl ?_
  obtain ⟨r7, hz8, hq⟩ := bindE hq
  refine g_callWV (rest := [.ref (a 0)]) (cs9 a Δ r7.2) C 45 rfl dX9_passAll_42 (c_X9_pass Γ.2.1 Δ a (x9_sights r5.2) (p9_ears r5.2 r5.1) hz8) mv_X9_pass ml_X9_344 hK hP hD hS hA [0, 1, 2, 3, 4, 5, 6, 7, 8, 9, 10, 11, 12, 13, 14, 15, 16, 17, 18, 19, 20, 21, 22, 23] [] [0, 1, 2, 3, 4, 5, 6, 7, 8, 9, 10, 11, 12, 13, 14, 15, 16, 17, 18, 19, 20, 21, 22, 23] rfl (by decide) (wr := []) rfl (by decide) (by decide) rfl rfl rfl rfl rfl rfl rfl rfl ⟨Nat.le_of_ble_eq_true rfl, Nat.le_of_ble_eq_true rfl⟩ (Nat.le_of_ble_eq_true rfl) ⟨Nat.zero_le _, Nat.zero_le _⟩ (fun H L hP hD hS => ?_)
  refine g_put (cs9 a Δ (p9_sights r7.2 r7.1)) C 48 rfl dX9_passAll_45 hK hP hD hS la_X9 tyX9_ok nmX9 0 11 (Nat.le_of_ble_eq_true rfl) fl_X9_312 rfl rfl rfl rfl rfl rfl (Nat.le_of_ble_eq_true rfl) rfl (fun H L hP hD hS => ?_)
  refine g_iconst 0 C 49 rfl dX9_passAll_48 ki_0 ?_
  refine g_istore_n [(1, .int 0), (0, .ref (a 0))] C 50 rfl dX9_passAll_49 (Nat.le_of_ble_eq_true rfl) rfl ?_
  have Q50 : ∀ (n : Nat) (x1 : Int32) (s : S9) (o : (S9)) (H : Heap) (L : List Loc) (hP : va_P Δ.1 classes (cs9 a Δ s) H) (hD : va_D A (cs9 a Δ s)) (hS : va_S A (sOf Γ).heap H L) (hq : lp_X9_passAll_50  n x1 s = some o) (E2 : ∀ (H : Heap) (L : List Loc), va_P Δ.1 classes (cs9 a Δ o) H → va_D A (cs9 a Δ o) → va_S A (sOf Γ).heap H L → g Γ { frames := 1, cells := 0, slots := 0, locals := 22 } 2 H L 0 0 158 [(0, .ref (a 0))] []), g Γ { frames := 1, cells := 0, slots := 0, locals := 22 } 2 H L 0 0 50 [(0, .ref (a 0)), (1, .int x1)] [] := by
    intro n
    induction n with
    | zero => intro x1 s o H L hP hD hS hq; exact nomatch (show (none : Option (S9)) = some o from hq)
    | succ n ih =>
      intro x1 s o H L hP hD hS hq E2
      have hq : bd_X9_passAll_50  (lp_X9_passAll_50  n) x1 s = some o := hq
      refine g_iload_n C 51 rfl dX9_passAll_50 1 rfl ?_
      refine g_bipush 6 C 53 rfl dX9_passAll_51 kb_6 ?_
      refine s_icmp_ge C 158 56 rfl dX9_passAll_53 (by decide) hq (fun hq => ?_) (fun hq => ?_)
      · cases hq
        exact g_sub [0] rfl (E2 _ _ hP hD hS)
      refine g_aload_n C 57 rfl dX9_passAll_56 0 rfl ?_
      refine g_get (v := .ref (a 1)) C 60 rfl dX9_passAll_57 hK hP la_X9 0 3 (Nat.le_of_ble_eq_true rfl) fl_X9_7 rfl rfl rfl rfl ?_
      refine g_iload_n C 61 rfl dX9_passAll_60 1 rfl ?_
      refine g_aload_n C 62 rfl dX9_passAll_61 0 rfl ?_
      refine g_aload_n C 63 rfl dX9_passAll_62 0 rfl ?_
      refine g_get (v := .ref (a 1)) C 66 rfl dX9_passAll_63 hK hP la_X9 0 3 (Nat.le_of_ble_eq_true rfl) fl_X9_7 rfl rfl rfl rfl ?_
      refine g_iload_n C 67 rfl dX9_passAll_66 1 rfl ?_
      refine s_iald C 68 rfl dX9_passAll_67 hK hP 1 rfl hq (fun hq hi9 => ?_)
      obtain ⟨r10, hz11, hq⟩ := bindE hq
      refine g_callWV (rest := [.int x1, .ref (a 1)]) (cs9 a Δ r10.2) C 71 rfl dX9_passAll_68 (c_X9_pass Γ.2.1 Δ a ((x9_temper s) (x1 : Int32).toNatClampNeg) s hz11) mv_X9_pass ml_X9_344 hK hP hD hS hA [0, 1, 2, 3, 4, 5, 6, 7, 8, 9, 10, 11, 12, 13, 14, 15, 16, 17, 18, 19, 20, 21, 22, 23] [] [0, 1, 2, 3, 4, 5, 6, 7, 8, 9, 10, 11, 12, 13, 14, 15, 16, 17, 18, 19, 20, 21, 22, 23] rfl (by decide) (wr := []) rfl (by decide) (by decide) rfl rfl rfl rfl rfl rfl rfl rfl ⟨Nat.le_of_ble_eq_true rfl, Nat.le_of_ble_eq_true rfl⟩ (Nat.le_of_ble_eq_true rfl) ⟨Nat.zero_le _, Nat.zero_le _⟩ (fun H L hP hD hS => ?_)
      refine s_iast (cs9 a Δ (p9_temper r10.2 (upd (x9_temper r10.2) (x1 : Int32).toNatClampNeg r10.1))) C 72 rfl dX9_passAll_71 hK hP hD hS 1 rfl hq rfl (fun hq hi12 H L hP hD hS => ?_)
      refine g_aload_n C 73 rfl dX9_passAll_72 0 rfl ?_
      refine g_get (v := .ref (a 2)) C 76 rfl dX9_passAll_73 hK hP la_X9 0 4 (Nat.le_of_ble_eq_true rfl) fl_X9_13 rfl rfl rfl rfl ?_
      refine g_iload_n C 77 rfl dX9_passAll_76 1 rfl ?_
      refine g_aload_n C 78 rfl dX9_passAll_77 0 rfl ?_
      refine g_aload_n C 79 rfl dX9_passAll_78 0 rfl ?_
      refine g_get (v := .ref (a 2)) C 82 rfl dX9_passAll_79 hK hP la_X9 0 4 (Nat.le_of_ble_eq_true rfl) fl_X9_13 rfl rfl rfl rfl ?_
      refine g_iload_n C 83 rfl dX9_passAll_82 1 rfl ?_
      refine s_iald C 84 rfl dX9_passAll_83 hK hP 2 rfl hq (fun hq hi13 => ?_)
      obtain ⟨r14, hz15, hq⟩ := bindE hq
      refine g_callWV (rest := [.int x1, .ref (a 2)]) (cs9 a Δ r14.2) C 87 rfl dX9_passAll_84 (c_X9_pass Γ.2.1 Δ a ((x9_permits r10.2) (x1 : Int32).toNatClampNeg) (p9_temper r10.2 (upd (x9_temper r10.2) (x1 : Int32).toNatClampNeg r10.1)) hz15) mv_X9_pass ml_X9_344 hK hP hD hS hA [0, 1, 2, 3, 4, 5, 6, 7, 8, 9, 10, 11, 12, 13, 14, 15, 16, 17, 18, 19, 20, 21, 22, 23] [] [0, 1, 2, 3, 4, 5, 6, 7, 8, 9, 10, 11, 12, 13, 14, 15, 16, 17, 18, 19, 20, 21, 22, 23] rfl (by decide) (wr := []) rfl (by decide) (by decide) rfl rfl rfl rfl rfl rfl rfl rfl ⟨Nat.le_of_ble_eq_true rfl, Nat.le_of_ble_eq_true rfl⟩ (Nat.le_of_ble_eq_true rfl) ⟨Nat.zero_le _, Nat.zero_le _⟩ (fun H L hP hD hS => ?_)
      refine s_iast (cs9 a Δ (p9_permits r14.2 (upd (x9_permits r14.2) (x1 : Int32).toNatClampNeg r14.1))) C 88 rfl dX9_passAll_87 hK hP hD hS 2 rfl hq rfl (fun hq hi16 H L hP hD hS => ?_)
      refine g_aload_n C 89 rfl dX9_passAll_88 0 rfl ?_
      refine g_get (v := .ref (a 3)) C 92 rfl dX9_passAll_89 hK hP la_X9 0 5 (Nat.le_of_ble_eq_true rfl) fl_X9_16 rfl rfl rfl rfl ?_
      refine g_iload_n C 93 rfl dX9_passAll_92 1 rfl ?_
      refine g_aload_n C 94 rfl dX9_passAll_93 0 rfl ?_
      refine g_aload_n C 95 rfl dX9_passAll_94 0 rfl ?_
      refine g_get (v := .ref (a 3)) C 98 rfl dX9_passAll_95 hK hP la_X9 0 5 (Nat.le_of_ble_eq_true rfl) fl_X9_16 rfl rfl rfl rfl ?_
      refine g_iload_n C 99 rfl dX9_passAll_98 1 rfl ?_
      refine s_iald C 100 rfl dX9_passAll_99 hK hP 3 rfl hq (fun hq hi17 => ?_)
      obtain ⟨r18, hz19, hq⟩ := bindE hq
      refine g_callWV (rest := [.int x1, .ref (a 3)]) (cs9 a Δ r18.2) C 103 rfl dX9_passAll_100 (c_X9_pass Γ.2.1 Δ a ((x9_stamps r14.2) (x1 : Int32).toNatClampNeg) (p9_permits r14.2 (upd (x9_permits r14.2) (x1 : Int32).toNatClampNeg r14.1)) hz19) mv_X9_pass ml_X9_344 hK hP hD hS hA [0, 1, 2, 3, 4, 5, 6, 7, 8, 9, 10, 11, 12, 13, 14, 15, 16, 17, 18, 19, 20, 21, 22, 23] [] [0, 1, 2, 3, 4, 5, 6, 7, 8, 9, 10, 11, 12, 13, 14, 15, 16, 17, 18, 19, 20, 21, 22, 23] rfl (by decide) (wr := []) rfl (by decide) (by decide) rfl rfl rfl rfl rfl rfl rfl rfl ⟨Nat.le_of_ble_eq_true rfl, Nat.le_of_ble_eq_true rfl⟩ (Nat.le_of_ble_eq_true rfl) ⟨Nat.zero_le _, Nat.zero_le _⟩ (fun H L hP hD hS => ?_)
      refine s_iast (cs9 a Δ (p9_stamps r18.2 (upd (x9_stamps r18.2) (x1 : Int32).toNatClampNeg r18.1))) C 104 rfl dX9_passAll_103 hK hP hD hS 3 rfl hq rfl (fun hq hi20 H L hP hD hS => ?_)
      refine g_aload_n C 105 rfl dX9_passAll_104 0 rfl ?_
      refine g_get (v := .ref (a 4)) C 108 rfl dX9_passAll_105 hK hP la_X9 0 6 (Nat.le_of_ble_eq_true rfl) fl_X9_19 rfl rfl rfl rfl ?_
      refine g_iload_n C 109 rfl dX9_passAll_108 1 rfl ?_
      refine g_aload_n C 110 rfl dX9_passAll_109 0 rfl ?_
      refine g_aload_n C 111 rfl dX9_passAll_110 0 rfl ?_
      refine g_get (v := .ref (a 4)) C 114 rfl dX9_passAll_111 hK hP la_X9 0 6 (Nat.le_of_ble_eq_true rfl) fl_X9_19 rfl rfl rfl rfl ?_
      refine g_iload_n C 115 rfl dX9_passAll_114 1 rfl ?_
      refine s_iald C 116 rfl dX9_passAll_115 hK hP 4 rfl hq (fun hq hi21 => ?_)
      obtain ⟨r22, hz23, hq⟩ := bindE hq
      refine g_callWV (rest := [.int x1, .ref (a 4)]) (cs9 a Δ r22.2) C 119 rfl dX9_passAll_116 (c_X9_pass Γ.2.1 Δ a ((x9_purse r18.2) (x1 : Int32).toNatClampNeg) (p9_stamps r18.2 (upd (x9_stamps r18.2) (x1 : Int32).toNatClampNeg r18.1)) hz23) mv_X9_pass ml_X9_344 hK hP hD hS hA [0, 1, 2, 3, 4, 5, 6, 7, 8, 9, 10, 11, 12, 13, 14, 15, 16, 17, 18, 19, 20, 21, 22, 23] [] [0, 1, 2, 3, 4, 5, 6, 7, 8, 9, 10, 11, 12, 13, 14, 15, 16, 17, 18, 19, 20, 21, 22, 23] rfl (by decide) (wr := []) rfl (by decide) (by decide) rfl rfl rfl rfl rfl rfl rfl rfl ⟨Nat.le_of_ble_eq_true rfl, Nat.le_of_ble_eq_true rfl⟩ (Nat.le_of_ble_eq_true rfl) ⟨Nat.zero_le _, Nat.zero_le _⟩ (fun H L hP hD hS => ?_)
      refine s_iast (cs9 a Δ (p9_purse r22.2 (upd (x9_purse r22.2) (x1 : Int32).toNatClampNeg r22.1))) C 120 rfl dX9_passAll_119 hK hP hD hS 4 rfl hq rfl (fun hq hi24 H L hP hD hS => ?_)
      refine g_aload_n C 121 rfl dX9_passAll_120 0 rfl ?_
      refine g_get (v := .ref (a 5)) C 124 rfl dX9_passAll_121 hK hP la_X9 0 7 (Nat.le_of_ble_eq_true rfl) fl_X9_22 rfl rfl rfl rfl ?_
      refine g_iload_n C 125 rfl dX9_passAll_124 1 rfl ?_
      refine g_aload_n C 126 rfl dX9_passAll_125 0 rfl ?_
      refine g_aload_n C 127 rfl dX9_passAll_126 0 rfl ?_
      refine g_get (v := .ref (a 5)) C 130 rfl dX9_passAll_127 hK hP la_X9 0 7 (Nat.le_of_ble_eq_true rfl) fl_X9_22 rfl rfl rfl rfl ?_
      refine g_iload_n C 131 rfl dX9_passAll_130 1 rfl ?_
      refine s_iald C 132 rfl dX9_passAll_131 hK hP 5 rfl hq (fun hq hi25 => ?_)
      obtain ⟨r26, hz27, hq⟩ := bindE hq
      refine g_callWV (rest := [.int x1, .ref (a 5)]) (cs9 a Δ r26.2) C 135 rfl dX9_passAll_132 (c_X9_pass Γ.2.1 Δ a ((x9_yard r22.2) (x1 : Int32).toNatClampNeg) (p9_purse r22.2 (upd (x9_purse r22.2) (x1 : Int32).toNatClampNeg r22.1)) hz27) mv_X9_pass ml_X9_344 hK hP hD hS hA [0, 1, 2, 3, 4, 5, 6, 7, 8, 9, 10, 11, 12, 13, 14, 15, 16, 17, 18, 19, 20, 21, 22, 23] [] [0, 1, 2, 3, 4, 5, 6, 7, 8, 9, 10, 11, 12, 13, 14, 15, 16, 17, 18, 19, 20, 21, 22, 23] rfl (by decide) (wr := []) rfl (by decide) (by decide) rfl rfl rfl rfl rfl rfl rfl rfl ⟨Nat.le_of_ble_eq_true rfl, Nat.le_of_ble_eq_true rfl⟩ (Nat.le_of_ble_eq_true rfl) ⟨Nat.zero_le _, Nat.zero_le _⟩ (fun H L hP hD hS => ?_)
      refine s_iast (cs9 a Δ (p9_yard r26.2 (upd (x9_yard r26.2) (x1 : Int32).toNatClampNeg r26.1))) C 136 rfl dX9_passAll_135 hK hP hD hS 5 rfl hq rfl (fun hq hi28 H L hP hD hS => ?_)
      refine g_aload_n C 137 rfl dX9_passAll_136 0 rfl ?_
      refine g_get (v := .ref (a 6)) C 140 rfl dX9_passAll_137 hK hP la_X9 0 8 (Nat.le_of_ble_eq_true rfl) fl_X9_25 rfl rfl rfl rfl ?_
      refine g_iload_n C 141 rfl dX9_passAll_140 1 rfl ?_
      refine g_aload_n C 142 rfl dX9_passAll_141 0 rfl ?_
      refine g_aload_n C 143 rfl dX9_passAll_142 0 rfl ?_
      refine g_get (v := .ref (a 6)) C 146 rfl dX9_passAll_143 hK hP la_X9 0 8 (Nat.le_of_ble_eq_true rfl) fl_X9_25 rfl rfl rfl rfl ?_
      refine g_iload_n C 147 rfl dX9_passAll_146 1 rfl ?_
      refine s_iald C 148 rfl dX9_passAll_147 hK hP 6 rfl hq (fun hq hi29 => ?_)
      obtain ⟨r30, hz31, hq⟩ := bindE hq
      refine g_callWV (rest := [.int x1, .ref (a 6)]) (cs9 a Δ r30.2) C 151 rfl dX9_passAll_148 (c_X9_pass Γ.2.1 Δ a ((x9_cause r26.2) (x1 : Int32).toNatClampNeg) (p9_yard r26.2 (upd (x9_yard r26.2) (x1 : Int32).toNatClampNeg r26.1)) hz31) mv_X9_pass ml_X9_344 hK hP hD hS hA [0, 1, 2, 3, 4, 5, 6, 7, 8, 9, 10, 11, 12, 13, 14, 15, 16, 17, 18, 19, 20, 21, 22, 23] [] [0, 1, 2, 3, 4, 5, 6, 7, 8, 9, 10, 11, 12, 13, 14, 15, 16, 17, 18, 19, 20, 21, 22, 23] rfl (by decide) (wr := []) rfl (by decide) (by decide) rfl rfl rfl rfl rfl rfl rfl rfl ⟨Nat.le_of_ble_eq_true rfl, Nat.le_of_ble_eq_true rfl⟩ (Nat.le_of_ble_eq_true rfl) ⟨Nat.zero_le _, Nat.zero_le _⟩ (fun H L hP hD hS => ?_)
      refine s_iast (cs9 a Δ (p9_cause r30.2 (upd (x9_cause r30.2) (x1 : Int32).toNatClampNeg r30.1))) C 152 rfl dX9_passAll_151 hK hP hD hS 6 rfl hq rfl (fun hq hi32 H L hP hD hS => ?_)
      refine g_iinc (x1 + 1) [(1, .int (x1 + 1)), (0, .ref (a 0))] C 155 rfl dX9_passAll_152 1 rfl (ii_1 _) (Nat.le_of_ble_eq_true rfl) rfl ?_
      refine g_goto C 50 dX9_passAll_155 (by decide) ?_
      exact g_sub [1, 0] rfl (ih (x1 + 1) (p9_cause r30.2 (upd (x9_cause r30.2) (x1 : Int32).toNatClampNeg r30.1)) _ _ _ hP hD hS hq E2)
  obtain ⟨o33, ho34, hq⟩ := bindE hq
  refine g_sub [1, 0] rfl (Q50  FUEL 0 (p9_sights r7.2 r7.1) o33 _ _ hP hD hS ho34 (fun H L hP hD hS => ?_))
  refine g_iconst 0 C 159 rfl dX9_passAll_158 ki_0 ?_
  refine g_istore_n [(1, .int 0), (0, .ref (a 0))] C 160 rfl dX9_passAll_159 (Nat.le_of_ble_eq_true rfl) rfl ?_
  have Q160 : ∀ (n : Nat) (x1 : Int32) (s : S9) (o : (S9)) (H : Heap) (L : List Loc) (hP : va_P Δ.1 classes (cs9 a Δ s) H) (hD : va_D A (cs9 a Δ s)) (hS : va_S A (sOf Γ).heap H L) (hq : lp_X9_passAll_160  n x1 s = some o) (E2 : ∀ (H : Heap) (L : List Loc), va_P Δ.1 classes (cs9 a Δ o) H → va_D A (cs9 a Δ o) → va_S A (sOf Γ).heap H L → g Γ { frames := 1, cells := 0, slots := 0, locals := 22 } 2 H L 0 0 204 [] []), g Γ { frames := 1, cells := 0, slots := 0, locals := 22 } 2 H L 0 0 160 [(0, .ref (a 0)), (1, .int x1)] [] := by
    intro n
    induction n with
    | zero => intro x1 s o H L hP hD hS hq; exact nomatch (show (none : Option (S9)) = some o from hq)
    | succ n ih =>
      intro x1 s o H L hP hD hS hq E2
      have hq : bd_X9_passAll_160  (lp_X9_passAll_160  n) x1 s = some o := hq
      refine g_iload_n C 161 rfl dX9_passAll_160 1 rfl ?_
      refine g_bipush 8 C 163 rfl dX9_passAll_161 kb_8 ?_
      refine s_icmp_ge C 204 166 rfl dX9_passAll_163 (by decide) hq (fun hq => ?_) (fun hq => ?_)
      · cases hq
        exact g_sub [] rfl (E2 _ _ hP hD hS)
      refine g_aload_n C 167 rfl dX9_passAll_166 0 rfl ?_
      refine g_get (v := .ref (a 7)) C 170 rfl dX9_passAll_167 hK hP la_X9 0 9 (Nat.le_of_ble_eq_true rfl) fl_X9_28 rfl rfl rfl rfl ?_
      refine g_iload_n C 171 rfl dX9_passAll_170 1 rfl ?_
      refine g_aload_n C 172 rfl dX9_passAll_171 0 rfl ?_
      refine g_aload_n C 173 rfl dX9_passAll_172 0 rfl ?_
      refine g_get (v := .ref (a 7)) C 176 rfl dX9_passAll_173 hK hP la_X9 0 9 (Nat.le_of_ble_eq_true rfl) fl_X9_28 rfl rfl rfl rfl ?_
      refine g_iload_n C 177 rfl dX9_passAll_176 1 rfl ?_
      refine s_iald C 178 rfl dX9_passAll_177 hK hP 7 rfl hq (fun hq hi35 => ?_)
      obtain ⟨r36, hz37, hq⟩ := bindE hq
      refine g_callWV (rest := [.int x1, .ref (a 7)]) (cs9 a Δ r36.2) C 181 rfl dX9_passAll_178 (c_X9_pass Γ.2.1 Δ a ((x9_sightOne s) (x1 : Int32).toNatClampNeg) s hz37) mv_X9_pass ml_X9_344 hK hP hD hS hA [0, 1, 2, 3, 4, 5, 6, 7, 8, 9, 10, 11, 12, 13, 14, 15, 16, 17, 18, 19, 20, 21, 22, 23] [] [0, 1, 2, 3, 4, 5, 6, 7, 8, 9, 10, 11, 12, 13, 14, 15, 16, 17, 18, 19, 20, 21, 22, 23] rfl (by decide) (wr := []) rfl (by decide) (by decide) rfl rfl rfl rfl rfl rfl rfl rfl ⟨Nat.le_of_ble_eq_true rfl, Nat.le_of_ble_eq_true rfl⟩ (Nat.le_of_ble_eq_true rfl) ⟨Nat.zero_le _, Nat.zero_le _⟩ (fun H L hP hD hS => ?_)
      refine s_iast (cs9 a Δ (p9_sightOne r36.2 (upd (x9_sightOne r36.2) (x1 : Int32).toNatClampNeg r36.1))) C 182 rfl dX9_passAll_181 hK hP hD hS 7 rfl hq rfl (fun hq hi38 H L hP hD hS => ?_)
      refine g_aload_n C 183 rfl dX9_passAll_182 0 rfl ?_
      refine g_get (v := .ref (a 8)) C 186 rfl dX9_passAll_183 hK hP la_X9 0 10 (Nat.le_of_ble_eq_true rfl) fl_X9_31 rfl rfl rfl rfl ?_
      refine g_iload_n C 187 rfl dX9_passAll_186 1 rfl ?_
      refine g_aload_n C 188 rfl dX9_passAll_187 0 rfl ?_
      refine g_aload_n C 189 rfl dX9_passAll_188 0 rfl ?_
      refine g_get (v := .ref (a 8)) C 192 rfl dX9_passAll_189 hK hP la_X9 0 10 (Nat.le_of_ble_eq_true rfl) fl_X9_31 rfl rfl rfl rfl ?_
      refine g_iload_n C 193 rfl dX9_passAll_192 1 rfl ?_
      refine s_iald C 194 rfl dX9_passAll_193 hK hP 8 rfl hq (fun hq hi39 => ?_)
      obtain ⟨r40, hz41, hq⟩ := bindE hq
      refine g_callWV (rest := [.int x1, .ref (a 8)]) (cs9 a Δ r40.2) C 197 rfl dX9_passAll_194 (c_X9_pass Γ.2.1 Δ a ((x9_sightHeard r36.2) (x1 : Int32).toNatClampNeg) (p9_sightOne r36.2 (upd (x9_sightOne r36.2) (x1 : Int32).toNatClampNeg r36.1)) hz41) mv_X9_pass ml_X9_344 hK hP hD hS hA [0, 1, 2, 3, 4, 5, 6, 7, 8, 9, 10, 11, 12, 13, 14, 15, 16, 17, 18, 19, 20, 21, 22, 23] [] [0, 1, 2, 3, 4, 5, 6, 7, 8, 9, 10, 11, 12, 13, 14, 15, 16, 17, 18, 19, 20, 21, 22, 23] rfl (by decide) (wr := []) rfl (by decide) (by decide) rfl rfl rfl rfl rfl rfl rfl rfl ⟨Nat.le_of_ble_eq_true rfl, Nat.le_of_ble_eq_true rfl⟩ (Nat.le_of_ble_eq_true rfl) ⟨Nat.zero_le _, Nat.zero_le _⟩ (fun H L hP hD hS => ?_)
      refine s_iast (cs9 a Δ (p9_sightHeard r40.2 (upd (x9_sightHeard r40.2) (x1 : Int32).toNatClampNeg r40.1))) C 198 rfl dX9_passAll_197 hK hP hD hS 8 rfl hq rfl (fun hq hi42 H L hP hD hS => ?_)
      refine g_iinc (x1 + 1) [(1, .int (x1 + 1)), (0, .ref (a 0))] C 201 rfl dX9_passAll_198 1 rfl (ii_1 _) (Nat.le_of_ble_eq_true rfl) rfl ?_
      refine g_goto C 160 dX9_passAll_201 (by decide) ?_
      exact g_sub [1, 0] rfl (ih (x1 + 1) (p9_sightHeard r40.2 (upd (x9_sightHeard r40.2) (x1 : Int32).toNatClampNeg r40.1)) _ _ _ hP hD hS hq E2)
  obtain ⟨o43, ho44, hq⟩ := bindE hq
  refine g_sub [1, 0] rfl (Q160  FUEL 0 o33 o43 _ _ hP hD hS ho44 (fun H L hP hD hS => ?_))
  exact w_void (ws := fun s => cs9 a Δ s) hR hq hP hS dX9_passAll_204 rfl
set_option maxHeartbeats 4000000 in
set_option maxRecDepth 100000 in
theorem c_X9_image (l : Launch) (Δ : gD) (a : Nat → Nat) (x1 : Int32) (s : S9) {res : Int32 × S9} (hq : sem_X9_image x1 s = some res) : MW l yX9_image cX9_image 2 (some .int) Δ (cs9 a Δ s) [.ref (a 0), .int x1] 2 43 (some (.int res.1)) (cs9 a Δ res.2) := by
  refine MW.of (by decide) (Nat.le_of_ble_eq_true rfl) ?_
  intro Γ A H hl C hK hP hD hS hA hR
  subst hl
  show g Γ { frames := 2, cells := 0, slots := 0, locals := 43 } 2 H [] 0 0 0 [(0, .ref (a 0)), (1, .int x1)] []
  refine g_iload_n C 1 rfl dX9_image_0 1 rfl ?_
  refine g_i2l C 2 rfl dX9_image_1 ?_
  refine g_lconst 0 C 3 rfl dX9_image_2 kl_0 ?_
  refine g_lconst 1 C 4 rfl dX9_image_3 kl_1 ?_
  obtain ⟨r1, hz2, hq⟩ := bindE hq
  refine g_callRS (rest := []) C 7 rfl dX9_image_4 (c_X9_in Γ.2.1 Δ  (Int32.toInt64 x1) 0 1  hz2) mv_X9_in (Or.inl ml_X9_90) hK rfl rfl ⟨Nat.le_of_ble_eq_true rfl, Nat.le_of_ble_eq_true rfl⟩ (Nat.le_of_ble_eq_true rfl) ⟨Nat.zero_le _, Nat.zero_le _⟩ ?_
  refine s_if_ne C 13 10 rfl dX9_image_7 (by decide) hq (fun hq => ?_) (fun hq => ?_)
  rotate_left
  · refine g_bipush (-2) C 12 rfl dX9_image_10 kb_m2 ?_
    exact w_int (ws := fun s => cs9 a Δ s) hR hq hP hS dX9_image_12 rfl rfl
  refine g_aload_n C 14 rfl dX9_image_13 0 rfl ?_
  refine g_bipush 60 C 16 rfl dX9_image_14 kb_60 ?_
  refine g_iload_n C 17 rfl dX9_image_16 1 rfl ?_
  refine g_imul C 18 rfl dX9_image_17 ?_
  refine g_put (cs9 a Δ (p9_keptAt s (60 * x1))) C 21 rfl dX9_image_18 hK hP hD hS la_X9 tyX9_ok nmX9 0 39 (Nat.le_of_ble_eq_true rfl) fl_X9_341 rfl rfl rfl rfl rfl rfl (Nat.le_of_ble_eq_true rfl) rfl (fun H L hP hD hS => ?_)
  refine g_aload_n C 22 rfl dX9_image_21 0 rfl ?_
  refine g_iconst 1 C 23 rfl dX9_image_22 ki_1 ?_
  refine g_put (cs9 a Δ (p9_isWriting (p9_keptAt s (60 * x1)) 1)) C 26 rfl dX9_image_23 hK hP hD hS la_X9 tyX9_ok nmX9 0 40 (Nat.le_of_ble_eq_true rfl) fl_X9_337 rfl rfl rfl rfl rfl rfl (Nat.le_of_ble_eq_true rfl) rfl (fun H L hP hD hS => ?_)
  refine g_aload_n C 27 rfl dX9_image_26 0 rfl ?_
  obtain ⟨r3, hz4, hq⟩ := bindE hq
  refine g_callWV (rest := []) (cs9 a Δ r3) C 30 rfl dX9_image_27 (c_X9_passAll Γ.2.1 Δ a  (p9_isWriting (p9_keptAt s (60 * x1)) 1) hz4) mv_X9_passAll ml_X9_347 hK hP hD hS hA [0, 1, 2, 3, 4, 5, 6, 7, 8, 9, 10, 11, 12, 13, 14, 15, 16, 17, 18, 19, 20, 21, 22, 23] [] [0, 1, 2, 3, 4, 5, 6, 7, 8, 9, 10, 11, 12, 13, 14, 15, 16, 17, 18, 19, 20, 21, 22, 23] rfl (by decide) (wr := []) rfl (by decide) (by decide) rfl rfl rfl rfl rfl rfl rfl rfl ⟨Nat.le_of_ble_eq_true rfl, Nat.le_of_ble_eq_true rfl⟩ (Nat.le_of_ble_eq_true rfl) ⟨Nat.zero_le _, Nat.zero_le _⟩ (fun H L hP hD hS => ?_)
  refine g_aload_n C 31 rfl dX9_image_30 0 rfl ?_
  refine g_get (v := .ref (a 23)) C 34 rfl dX9_image_31 hK hP la_X9 0 38 (Nat.le_of_ble_eq_true rfl) fl_X9_77 rfl rfl rfl rfl ?_
  refine g_iload_n C 35 rfl dX9_image_34 1 rfl ?_
  refine g_iconst 1 C 36 rfl dX9_image_35 ki_1 ?_
  refine s_zast (cs9 a Δ (p9_isKept r3 (upd (x9_isKept r3) (x1 : Int32).toNatClampNeg (vp_nar .boolean 1)))) C 37 rfl dX9_image_36 hK hP hD hS 23 rfl hq rfl (fun hq hi5 H L hP hD hS => ?_)
  refine g_iconst 1 C 38 rfl dX9_image_37 ki_1 ?_
  exact w_int (ws := fun s => cs9 a Δ s) hR hq hP hS dX9_image_38 rfl rfl
set_option maxHeartbeats 4000000 in
set_option maxRecDepth 100000 in
theorem c_X9_restore (l : Launch) (Δ : gD) (a : Nat → Nat) (x1 : Int32) (s : S9) {res : Int32 × S9} (hq : sem_X9_restore x1 s = some res) : MW l yX9_restore cX9_restore 2 (some .int) Δ (cs9 a Δ s) [.ref (a 0), .int x1] 2 43 (some (.int res.1)) (cs9 a Δ res.2) := by
  refine MW.of (by decide) (Nat.le_of_ble_eq_true rfl) ?_
  intro Γ A H hl C hK hP hD hS hA hR
  subst hl
  show g Γ { frames := 2, cells := 0, slots := 0, locals := 43 } 2 H [] 0 0 0 [(0, .ref (a 0)), (1, .int x1)] []
  refine g_iload_n C 1 rfl dX9_restore_0 1 rfl ?_
  refine g_i2l C 2 rfl dX9_restore_1 ?_
  refine g_lconst 0 C 3 rfl dX9_restore_2 kl_0 ?_
  refine g_lconst 1 C 4 rfl dX9_restore_3 kl_1 ?_
  obtain ⟨r1, hz2, hq⟩ := bindE hq
  refine g_callRS (rest := []) C 7 rfl dX9_restore_4 (c_X9_in Γ.2.1 Δ  (Int32.toInt64 x1) 0 1  hz2) mv_X9_in (Or.inl ml_X9_90) hK rfl rfl ⟨Nat.le_of_ble_eq_true rfl, Nat.le_of_ble_eq_true rfl⟩ (Nat.le_of_ble_eq_true rfl) ⟨Nat.zero_le _, Nat.zero_le _⟩ ?_
  refine s_if_ne C 13 10 rfl dX9_restore_7 (by decide) hq (fun hq => ?_) (fun hq => ?_)
  rotate_left
  · refine g_bipush (-2) C 12 rfl dX9_restore_10 kb_m2 ?_
    exact w_int (ws := fun s => cs9 a Δ s) hR hq hP hS dX9_restore_12 rfl rfl
  refine g_aload_n C 14 rfl dX9_restore_13 0 rfl ?_
  refine g_get (v := .ref (a 23)) C 17 rfl dX9_restore_14 hK hP la_X9 0 38 (Nat.le_of_ble_eq_true rfl) fl_X9_77 rfl rfl rfl rfl ?_
  refine g_iload_n C 18 rfl dX9_restore_17 1 rfl ?_
  refine s_zald C 19 rfl dX9_restore_18 hK hP 23 rfl hq (fun hq hi3 => ?_)
  refine s_if_ne C 25 22 rfl dX9_restore_19 (by decide) hq (fun hq => ?_) (fun hq => ?_)
  rotate_left
  · refine g_bipush (-3) C 24 rfl dX9_restore_22 kb_m3 ?_
    exact w_int (ws := fun s => cs9 a Δ s) hR hq hP hS dX9_restore_24 rfl rfl
  refine g_aload_n C 26 rfl dX9_restore_25 0 rfl ?_
  refine g_bipush 60 C 28 rfl dX9_restore_26 kb_60 ?_
  refine g_iload_n C 29 rfl dX9_restore_28 1 rfl ?_
  refine g_imul C 30 rfl dX9_restore_29 ?_
  refine g_put (cs9 a Δ (p9_keptAt s (60 * x1))) C 33 rfl dX9_restore_30 hK hP hD hS la_X9 tyX9_ok nmX9 0 39 (Nat.le_of_ble_eq_true rfl) fl_X9_341 rfl rfl rfl rfl rfl rfl (Nat.le_of_ble_eq_true rfl) rfl (fun H L hP hD hS => ?_)
  refine g_aload_n C 34 rfl dX9_restore_33 0 rfl ?_
  refine g_iconst 0 C 35 rfl dX9_restore_34 ki_0 ?_
  refine g_put (cs9 a Δ (p9_isWriting (p9_keptAt s (60 * x1)) 0)) C 38 rfl dX9_restore_35 hK hP hD hS la_X9 tyX9_ok nmX9 0 40 (Nat.le_of_ble_eq_true rfl) fl_X9_337 rfl rfl rfl rfl rfl rfl (Nat.le_of_ble_eq_true rfl) rfl (fun H L hP hD hS => ?_)
  refine g_aload_n C 39 rfl dX9_restore_38 0 rfl ?_
  obtain ⟨r4, hz5, hq⟩ := bindE hq
  refine g_callWV (rest := []) (cs9 a Δ r4) C 42 rfl dX9_restore_39 (c_X9_passAll Γ.2.1 Δ a  (p9_isWriting (p9_keptAt s (60 * x1)) 0) hz5) mv_X9_passAll ml_X9_347 hK hP hD hS hA [0, 1, 2, 3, 4, 5, 6, 7, 8, 9, 10, 11, 12, 13, 14, 15, 16, 17, 18, 19, 20, 21, 22, 23] [] [0, 1, 2, 3, 4, 5, 6, 7, 8, 9, 10, 11, 12, 13, 14, 15, 16, 17, 18, 19, 20, 21, 22, 23] rfl (by decide) (wr := []) rfl (by decide) (by decide) rfl rfl rfl rfl rfl rfl rfl rfl ⟨Nat.le_of_ble_eq_true rfl, Nat.le_of_ble_eq_true rfl⟩ (Nat.le_of_ble_eq_true rfl) ⟨Nat.zero_le _, Nat.zero_le _⟩ (fun H L hP hD hS => ?_)
  refine g_iconst 1 C 43 rfl dX9_restore_42 ki_1 ?_
  exact w_int (ws := fun s => cs9 a Δ s) hR hq hP hS dX9_restore_43 rfl rfl
set_option maxHeartbeats 4000000 in
set_option maxRecDepth 100000 in
theorem c_X9_toldOf (l : Launch) (Δ : gD) (a : Nat → Nat) (x1 : Int32) (x2 : Int32) (s : S9) {res : Int32} (hq : sem_X9_toldOf x1 x2 s = some res) : MR l yX9_toldOf cX9_toldOf 3 (some .int) Δ (cs9 a Δ s) [.ref (a 0), .int x1, .int x2] 2 46 (.int res) := by
  refine MR.of (by decide) (Nat.le_of_ble_eq_true rfl) ?_
  intro Γ H hl C hK hP hR
  subst hl
  show g Γ { frames := 2, cells := 0, slots := 0, locals := 46 } 3 H [] 0 0 0 [(0, .ref (a 0)), (1, .int x1), (2, .int x2)] []
  refine g_aload_n C 1 rfl dX9_toldOf_0 0 rfl ?_
  refine g_iload_n C 2 rfl dX9_toldOf_1 1 rfl ?_
  obtain ⟨r1, hz2, hq⟩ := bindE hq
  refine g_callRV (rest := []) C 5 rfl dX9_toldOf_2 (c_X9_isOne Γ.2.1 Δ a x1 s hz2) mv_X9_isOne ml_X9_107 hK hP rfl rfl rfl rfl rfl ⟨Nat.le_of_ble_eq_true rfl, Nat.le_of_ble_eq_true rfl⟩ (Nat.le_of_ble_eq_true rfl) ⟨Nat.zero_le _, Nat.zero_le _⟩ ?_
  refine s_if_ne C 11 8 rfl dX9_toldOf_5 (by decide) hq (fun hq => ?_) (fun hq => ?_)
  rotate_left
  · refine g_bipush (-2) C 10 rfl dX9_toldOf_8 kb_m2 ?_
    exact r_int hR hq dX9_toldOf_10 rfl rfl
  refine g_iload_n C 12 rfl dX9_toldOf_11 2 rfl ?_
  by_cases hc4 : x2 = 0
  · have hq := if_t hc4 hq
    refine g_tblIn C 52 dX9_toldOf_12 (by rw [hc4]; decide) (by rw [hc4]; decide) (off := 40) (by rw [hc4]; rfl) (by decide) ?_
    refine g_aload_n C 53 rfl dX9_toldOf_52 0 rfl ?_
    refine g_get (v := .ref (a 1)) C 56 rfl dX9_toldOf_53 hK hP la_X9 0 3 (Nat.le_of_ble_eq_true rfl) fl_X9_7 rfl rfl rfl rfl ?_
    refine g_iload_n C 57 rfl dX9_toldOf_56 1 rfl ?_
    refine s_iald C 58 rfl dX9_toldOf_57 hK hP 1 rfl hq (fun hq hi3 => ?_)
    exact r_int hR hq dX9_toldOf_58 rfl rfl
  replace hq := if_f hc4 hq
  by_cases hc6 : x2 = 1
  · have hq := if_t hc6 hq
    refine g_tblIn C 59 dX9_toldOf_12 (by rw [hc6]; decide) (by rw [hc6]; decide) (off := 47) (by rw [hc6]; rfl) (by decide) ?_
    refine g_aload_n C 60 rfl dX9_toldOf_59 0 rfl ?_
    refine g_get (v := .ref (a 2)) C 63 rfl dX9_toldOf_60 hK hP la_X9 0 4 (Nat.le_of_ble_eq_true rfl) fl_X9_13 rfl rfl rfl rfl ?_
    refine g_iload_n C 64 rfl dX9_toldOf_63 1 rfl ?_
    refine s_iald C 65 rfl dX9_toldOf_64 hK hP 2 rfl hq (fun hq hi5 => ?_)
    exact r_int hR hq dX9_toldOf_65 rfl rfl
  replace hq := if_f hc6 hq
  by_cases hc8 : x2 = 2
  · have hq := if_t hc8 hq
    refine g_tblIn C 66 dX9_toldOf_12 (by rw [hc8]; decide) (by rw [hc8]; decide) (off := 54) (by rw [hc8]; rfl) (by decide) ?_
    refine g_aload_n C 67 rfl dX9_toldOf_66 0 rfl ?_
    refine g_get (v := .ref (a 3)) C 70 rfl dX9_toldOf_67 hK hP la_X9 0 5 (Nat.le_of_ble_eq_true rfl) fl_X9_16 rfl rfl rfl rfl ?_
    refine g_iload_n C 71 rfl dX9_toldOf_70 1 rfl ?_
    refine s_iald C 72 rfl dX9_toldOf_71 hK hP 3 rfl hq (fun hq hi7 => ?_)
    exact r_int hR hq dX9_toldOf_72 rfl rfl
  replace hq := if_f hc8 hq
  by_cases hc10 : x2 = 3
  · have hq := if_t hc10 hq
    refine g_tblIn C 73 dX9_toldOf_12 (by rw [hc10]; decide) (by rw [hc10]; decide) (off := 61) (by rw [hc10]; rfl) (by decide) ?_
    refine g_aload_n C 74 rfl dX9_toldOf_73 0 rfl ?_
    refine g_get (v := .ref (a 4)) C 77 rfl dX9_toldOf_74 hK hP la_X9 0 6 (Nat.le_of_ble_eq_true rfl) fl_X9_19 rfl rfl rfl rfl ?_
    refine g_iload_n C 78 rfl dX9_toldOf_77 1 rfl ?_
    refine s_iald C 79 rfl dX9_toldOf_78 hK hP 4 rfl hq (fun hq hi9 => ?_)
    exact r_int hR hq dX9_toldOf_79 rfl rfl
  replace hq := if_f hc10 hq
  by_cases hc12 : x2 = 4
  · have hq := if_t hc12 hq
    refine g_tblIn C 80 dX9_toldOf_12 (by rw [hc12]; decide) (by rw [hc12]; decide) (off := 68) (by rw [hc12]; rfl) (by decide) ?_
    refine g_aload_n C 81 rfl dX9_toldOf_80 0 rfl ?_
    refine g_get (v := .ref (a 5)) C 84 rfl dX9_toldOf_81 hK hP la_X9 0 7 (Nat.le_of_ble_eq_true rfl) fl_X9_22 rfl rfl rfl rfl ?_
    refine g_iload_n C 85 rfl dX9_toldOf_84 1 rfl ?_
    refine s_iald C 86 rfl dX9_toldOf_85 hK hP 5 rfl hq (fun hq hi11 => ?_)
    exact r_int hR hq dX9_toldOf_86 rfl rfl
  replace hq := if_f hc12 hq
  by_cases hc14 : x2 = 5
  · have hq := if_t hc14 hq
    refine g_tblIn C 87 dX9_toldOf_12 (by rw [hc14]; decide) (by rw [hc14]; decide) (off := 75) (by rw [hc14]; rfl) (by decide) ?_
    refine g_aload_n C 88 rfl dX9_toldOf_87 0 rfl ?_
    refine g_get (v := .ref (a 6)) C 91 rfl dX9_toldOf_88 hK hP la_X9 0 8 (Nat.le_of_ble_eq_true rfl) fl_X9_25 rfl rfl rfl rfl ?_
    refine g_iload_n C 92 rfl dX9_toldOf_91 1 rfl ?_
    refine s_iald C 93 rfl dX9_toldOf_92 hK hP 6 rfl hq (fun hq hi13 => ?_)
    exact r_int hR hq dX9_toldOf_93 rfl rfl
  replace hq := if_f hc14 hq
  refine g_tblOut C 94 dX9_toldOf_12 (by have nhc4 := lv_neT (a := 0) hc4 (by decide); have nhc6 := lv_neT (a := 1) hc6 (by decide); have nhc8 := lv_neT (a := 2) hc8 (by decide); have nhc10 := lv_neT (a := 3) hc10 (by decide); have nhc12 := lv_neT (a := 4) hc12 (by decide); have nhc14 := lv_neT (a := 5) hc14 (by decide); omega) (by decide) ?_
  refine g_bipush (-2) C 96 rfl dX9_toldOf_94 kb_m2 ?_
  exact r_int hR hq dX9_toldOf_96 rfl rfl
set_option maxHeartbeats 4000000 in
set_option maxRecDepth 100000 in
theorem c_X9_told (l : Launch) (Δ : gD) (a : Nat → Nat) (x1 : Int32) (s : S9) {res : Int32} (hq : sem_X9_told x1 s = some res) : MR l yX9_told cX9_told 2 (some .int) Δ (cs9 a Δ s) [.ref (a 0), .int x1] 3 68 (.int res) := by
  refine MR.of (by decide) (Nat.le_of_ble_eq_true rfl) ?_
  intro Γ H hl C hK hP hR
  subst hl
  show g Γ { frames := 3, cells := 0, slots := 0, locals := 68 } 2 H [] 0 0 0 [(0, .ref (a 0)), (1, .int x1)] []
  refine g_iload_n C 1 rfl dX9_told_0 1 rfl ?_
  refine g_i2l C 2 rfl dX9_told_1 ?_
  refine g_ldc2 10 C 5 rfl dX9_told_2 k_X9_295 ?_
  refine g_ldc2 69 C 8 rfl dX9_told_5 k_X9_350 ?_
  obtain ⟨r1, hz2, hq⟩ := bindE hq
  refine g_callRS (rest := []) C 11 rfl dX9_told_8 (c_X9_in Γ.2.1 Δ  (Int32.toInt64 x1) 10 69  hz2) mv_X9_in (Or.inl ml_X9_90) hK rfl rfl ⟨Nat.le_of_ble_eq_true rfl, Nat.le_of_ble_eq_true rfl⟩ (Nat.le_of_ble_eq_true rfl) ⟨Nat.zero_le _, Nat.zero_le _⟩ ?_
  refine s_if_eq C 29 14 rfl dX9_told_11 (by decide) hq (fun hq => ?_) (fun hq => ?_)
  rotate_left
  · refine g_aload_n C 15 rfl dX9_told_14 0 rfl ?_
    refine g_iload_n C 16 rfl dX9_told_15 1 rfl ?_
    refine g_bipush 10 C 18 rfl dX9_told_16 kb_10 ?_
    refine g_idiv C 19 rfl dX9_told_18 (by decide) ?_
    refine g_iconst 1 C 20 rfl dX9_told_19 ki_1 ?_
    refine g_isub C 21 rfl dX9_told_20 ?_
    refine g_iload_n C 22 rfl dX9_told_21 1 rfl ?_
    refine g_bipush 10 C 24 rfl dX9_told_22 kb_10 ?_
    refine g_irem C 25 rfl dX9_told_24 (by decide) ?_
    obtain ⟨r8, hz9, hq⟩ := bindE hq
    refine g_callRV (rest := []) C 28 rfl dX9_told_25 (c_X9_toldOf Γ.2.1 Δ a ((x1 / 10) - 1) (jrem x1 10) s hz9) mv_X9_toldOf ml_X9_352 hK hP rfl rfl rfl rfl rfl ⟨Nat.le_of_ble_eq_true rfl, Nat.le_of_ble_eq_true rfl⟩ (Nat.le_of_ble_eq_true rfl) ⟨Nat.zero_le _, Nat.zero_le _⟩ ?_
    exact r_int hR hq dX9_told_28 rfl rfl
  refine g_iload_n C 30 rfl dX9_told_29 1 rfl ?_
  by_cases hc3 : x1 = 0
  · have hq := if_t hc3 hq
    refine g_tblIn C 64 dX9_told_30 (by rw [hc3]; decide) (by rw [hc3]; decide) (off := 34) (by rw [hc3]; rfl) (by decide) ?_
    refine g_aload_n C 65 rfl dX9_told_64 0 rfl ?_
    refine g_get (v := .int (x9_padMany s)) C 68 rfl dX9_told_65 hK hP la_X9 0 13 (Nat.le_of_ble_eq_true rfl) fl_X9_123 rfl rfl rfl rfl ?_
    exact r_int hR hq dX9_told_68 rfl rfl
  replace hq := if_f hc3 hq
  by_cases hc4 : x1 = 1
  · have hq := if_t hc4 hq
    refine g_tblIn C 69 dX9_told_30 (by rw [hc4]; decide) (by rw [hc4]; decide) (off := 39) (by rw [hc4]; rfl) (by decide) ?_
    refine g_aload_n C 70 rfl dX9_told_69 0 rfl ?_
    refine g_get (v := .int (x9_there s)) C 73 rfl dX9_told_70 hK hP la_X9 0 0 (Nat.le_of_ble_eq_true rfl) fl_X9_94 rfl rfl rfl rfl ?_
    exact r_int hR hq dX9_told_73 rfl rfl
  replace hq := if_f hc4 hq
  by_cases hc5 : x1 = 2
  · have hq := if_t hc5 hq
    refine g_tblIn C 74 dX9_told_30 (by rw [hc5]; decide) (by rw [hc5]; decide) (off := 44) (by rw [hc5]; rfl) (by decide) ?_
    refine g_aload_n C 75 rfl dX9_told_74 0 rfl ?_
    refine g_get (v := .int (x9_limit s)) C 78 rfl dX9_told_75 hK hP la_X9 0 1 (Nat.le_of_ble_eq_true rfl) fl_X9_81 rfl rfl rfl rfl ?_
    exact r_int hR hq dX9_told_78 rfl rfl
  replace hq := if_f hc5 hq
  by_cases hc6 : x1 = 3
  · have hq := if_t hc6 hq
    refine g_tblIn C 79 dX9_told_30 (by rw [hc6]; decide) (by rw [hc6]; decide) (off := 49) (by rw [hc6]; rfl) (by decide) ?_
    refine g_aload_n C 80 rfl dX9_told_79 0 rfl ?_
    refine g_get (v := .int (x9_ears s)) C 83 rfl dX9_told_80 hK hP la_X9 0 2 (Nat.le_of_ble_eq_true rfl) fl_X9_85 rfl rfl rfl rfl ?_
    exact r_int hR hq dX9_told_83 rfl rfl
  replace hq := if_f hc6 hq
  by_cases hc7 : x1 = 4
  · have hq := if_t hc7 hq
    refine g_tblIn C 84 dX9_told_30 (by rw [hc7]; decide) (by rw [hc7]; decide) (off := 54) (by rw [hc7]; rfl) (by decide) ?_
    refine g_aload_n C 85 rfl dX9_told_84 0 rfl ?_
    refine g_get (v := .int (x9_sights s)) C 88 rfl dX9_told_85 hK hP la_X9 0 11 (Nat.le_of_ble_eq_true rfl) fl_X9_312 rfl rfl rfl rfl ?_
    exact r_int hR hq dX9_told_88 rfl rfl
  replace hq := if_f hc7 hq
  refine g_tblOut C 89 dX9_told_30 (by have nhc3 := lv_neT (a := 0) hc3 (by decide); have nhc4 := lv_neT (a := 1) hc4 (by decide); have nhc5 := lv_neT (a := 2) hc5 (by decide); have nhc6 := lv_neT (a := 3) hc6 (by decide); have nhc7 := lv_neT (a := 4) hc7 (by decide); omega) (by decide) ?_
  refine g_bipush (-2) C 91 rfl dX9_told_89 kb_m2 ?_
  exact r_int hR hq dX9_told_91 rfl rfl
