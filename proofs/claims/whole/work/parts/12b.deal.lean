set_option maxHeartbeats 400000 in
set_option maxRecDepth 100000 in
theorem c_X1_mostFor (l : Launch) (Δ : gD) (a : Nat → Nat) (x1 : Int32) (x2 : Int32) (s : S1) {res : Int32} (hq : sem_X1_mostFor x1 x2 s = some res) : MR l yX1_mostFor cX1_mostFor 3 (some .int) Δ (cs1 a Δ s) [.ref (a 0), .int x1, .int x2] 0 0 (.int res) := by
  refine MR.of (by decide) (Nat.le_of_ble_eq_true rfl) ?_
  intro Γ H hl C hK hP hR
  subst hl
  show g Γ { frames := 0, cells := 0, slots := 0, locals := 0 } 3 H [] 0 0 0 [(0, .ref (a 0)), (1, .int x1), (2, .int x2)] []
  refine g_aload_n C 1 rfl dX1_mostFor_0 0 rfl ?_
  refine g_get (v := .int (x1_there s)) (fs := fl1 a s) C 4 rfl dX1_mostFor_1 hK hP la_X1 0 2 (Nat.le_of_ble_eq_true rfl) fl_X1_18 rfl rfl rfl rfl ?_
  refine g_iload_n C 5 rfl dX1_mostFor_4 1 rfl ?_
  refine g_ishr C 6 rfl dX1_mostFor_5 ?_
  refine g_iconst 1 C 7 rfl dX1_mostFor_6 ki_1 ?_
  refine g_iand C 8 rfl dX1_mostFor_7 ?_
  refine g_iconst 1 C 9 rfl dX1_mostFor_8 ki_1 ?_
  refine s_icmp_ne C 16 12 rfl dX1_mostFor_9 (by decide) hq (fun hq => ?_) (fun hq => ?_)
  · refine g_iconst 0 C 17 rfl dX1_mostFor_16 ki_0 ?_
    exact r_int hR hq dX1_mostFor_17 rfl rfl
  refine g_iload_n C 13 rfl dX1_mostFor_12 2 rfl ?_
  refine g_goto C 17 dX1_mostFor_13 (by decide) ?_
  exact r_int hR hq dX1_mostFor_17 rfl rfl
set_option maxHeartbeats 400000 in
set_option maxRecDepth 100000 in
theorem c_X1_fewestFrom (l : Launch) (Δ : gD) (a : Nat → Nat) (x1 : Int32) (x2 : Int32) (s : S1) {res : Int32} (hq : sem_X1_fewestFrom x1 x2 s = some res) : MR l yX1_fewestFrom cX1_fewestFrom 4 (some .int) Δ (cs1 a Δ s) [.ref (a 0), .int x1, .int x2] 1 22 (.int res) := by
  refine MR.of (by decide) (Nat.le_of_ble_eq_true rfl) ?_
  intro Γ H hl C hK hP hR
  subst hl
  have K25 : ∀ (x1 : Int32) (x2 : Int32) (y0 : Int32), jn_X1_fewestFrom_25 x1 x2 y0 s = some res → g Γ { frames := 1, cells := 0, slots := 0, locals := 22 } 4 H [] 0 0 25 [(0, .ref (a 0)), (1, .int x1), (2, .int x2)] [.int y0] := by
    intro x1 x2 y0 hq
    refine g_istore_n [(3, .int y0), (0, .ref (a 0)), (1, .int x1), (2, .int x2)] C 26 rfl dX1_fewestFrom_25 (Nat.le_of_ble_eq_true rfl) rfl ?_
    refine g_iload_n C 27 rfl dX1_fewestFrom_26 0 rfl ?_
    refine s_if_eq C 44 30 rfl dX1_fewestFrom_27 (by decide) hq (fun hq => ?_) (fun hq => ?_)
    · refine g_sipush 1000 C 47 rfl dX1_fewestFrom_44 ks_1000 ?_
      exact r_int hR hq dX1_fewestFrom_47 rfl rfl
    refine g_aload_n C 31 rfl dX1_fewestFrom_30 1 rfl ?_
    refine g_get (v := .ref (a 2)) (fs := fl1 a s) C 34 rfl dX1_fewestFrom_31 hK hP la_X1 0 1 (Nat.le_of_ble_eq_true rfl) fl_X1_15 rfl rfl rfl rfl ?_
    refine g_iload_n C 35 rfl dX1_fewestFrom_34 2 rfl ?_
    refine g_bipush 21 C 37 rfl dX1_fewestFrom_35 kb_21 ?_
    refine g_imul C 38 rfl dX1_fewestFrom_37 ?_
    refine g_iload_n C 39 rfl dX1_fewestFrom_38 3 rfl ?_
    refine g_iadd C 40 rfl dX1_fewestFrom_39 ?_
    refine s_iald C 41 rfl dX1_fewestFrom_40 hK hP 2 rfl hq (fun hq hi1 => ?_)
    refine g_goto C 47 dX1_fewestFrom_41 (by decide) ?_
    exact r_int hR hq dX1_fewestFrom_47 rfl rfl
  have K24 : ∀ (x1 : Int32) (x2 : Int32), jn_X1_fewestFrom_24 x1 x2 s = some res → g Γ { frames := 1, cells := 0, slots := 0, locals := 22 } 4 H [] 0 0 24 [(0, .ref (a 0)), (1, .int x1), (2, .int x2)] [] := by
    intro x1 x2 hq
    refine g_iconst 0 C 25 rfl dX1_fewestFrom_24 ki_0 ?_
    exact g_sub [0, 1, 2] rfl (K25 x1 x2 0 hq)
  show g Γ { frames := 1, cells := 0, slots := 0, locals := 22 } 4 H [] 0 0 0 [(0, .ref (a 0)), (1, .int x1), (2, .int x2)] []
  refine g_iload_n C 1 rfl dX1_fewestFrom_0 1 rfl ?_
  refine g_iconst 0 C 2 rfl dX1_fewestFrom_1 ki_0 ?_
  refine g_bipush 6 C 4 rfl dX1_fewestFrom_2 kb_6 ?_
  obtain ⟨r2, hz3, hq⟩ := bindE hq
  refine g_callRS (rest := []) C 7 rfl dX1_fewestFrom_4 (c_X8_within Γ.2.1 Δ  x1 0 6  hz3) mv_X8_within (Or.inr ⟨_, mn_X1_49⟩) hK rfl rfl ⟨Nat.le_of_ble_eq_true rfl, Nat.le_of_ble_eq_true rfl⟩ (Nat.le_of_ble_eq_true rfl) ⟨Nat.zero_le _, Nat.zero_le _⟩ ?_
  refine s_if_eq C 24 10 rfl dX1_fewestFrom_7 (by decide) hq (fun hq => ?_) (fun hq => ?_)
  · exact g_sub [0, 1, 2] rfl (K24 x1 x2 hq)
  refine g_iload_n C 11 rfl dX1_fewestFrom_10 2 rfl ?_
  refine g_iconst 0 C 12 rfl dX1_fewestFrom_11 ki_0 ?_
  refine g_bipush 20 C 14 rfl dX1_fewestFrom_12 kb_20 ?_
  obtain ⟨r4, hz5, hq⟩ := bindE hq
  refine g_callRS (rest := []) C 17 rfl dX1_fewestFrom_14 (c_X8_within Γ.2.1 Δ  x2 0 20  hz5) mv_X8_within (Or.inr ⟨_, mn_X1_49⟩) hK rfl rfl ⟨Nat.le_of_ble_eq_true rfl, Nat.le_of_ble_eq_true rfl⟩ (Nat.le_of_ble_eq_true rfl) ⟨Nat.zero_le _, Nat.zero_le _⟩ ?_
  refine s_if_eq C 24 20 rfl dX1_fewestFrom_17 (by decide) hq (fun hq => ?_) (fun hq => ?_)
  · exact g_sub [0, 1, 2] rfl (K24 x1 x2 hq)
  refine g_iconst 1 C 21 rfl dX1_fewestFrom_20 ki_1 ?_
  refine g_goto C 25 dX1_fewestFrom_21 (by decide) ?_
  exact g_sub [0, 1, 2] rfl (K25 x1 x2 1 hq)
set_option maxHeartbeats 400000 in
set_option maxRecDepth 100000 in
theorem c_X1_withPart (l : Launch) (Δ : gD) (a : Nat → Nat) (x1 : Int32) (x2 : Int32) (x3 : Int32) (s : S1) {res : Int32} (hq : sem_X1_withPart x1 x2 x3 s = some res) : MR l yX1_withPart cX1_withPart 6 (some .int) Δ (cs1 a Δ s) [.ref (a 0), .int x1, .int x2, .int x3] 2 45 (.int res) := by
  refine MR.of (by decide) (Nat.le_of_ble_eq_true rfl) ?_
  intro Γ H hl C hK hP hR
  subst hl
  have K70 : ∀ (x1 : Int32) (x2 : Int32) (x3 : Int32) (y0 : Int32), jn_X1_withPart_70 x1 x2 x3 y0 s = some res → g Γ { frames := 2, cells := 0, slots := 0, locals := 45 } 6 H [] 0 0 70 [(0, .ref (a 0)), (1, .int x1), (2, .int x2), (3, .int x3)] [.int y0] := by
    intro x1 x2 x3 y0 hq
    refine g_aload_n C 71 rfl dX1_withPart_70 0 rfl ?_
    refine g_iload_n C 72 rfl dX1_withPart_71 1 rfl ?_
    refine g_iconst 1 C 73 rfl dX1_withPart_72 ki_1 ?_
    refine g_iadd C 74 rfl dX1_withPart_73 ?_
    refine g_iload_n C 75 rfl dX1_withPart_74 2 rfl ?_
    refine g_iload_n C 76 rfl dX1_withPart_75 3 rfl ?_
    refine g_isub C 77 rfl dX1_withPart_76 ?_
    obtain ⟨r1, hz2, hq⟩ := bindE hq
    refine g_callRV (rest := [.int y0]) C 80 rfl dX1_withPart_77 (c_X1_fewestFrom Γ.2.1 Δ a (x1 + 1) (x2 - x3) s hz2) mv_X1_fewestFrom ml_X1_53 hK hP rfl rfl rfl rfl rfl ⟨Nat.le_of_ble_eq_true rfl, Nat.le_of_ble_eq_true rfl⟩ (Nat.le_of_ble_eq_true rfl) ⟨Nat.zero_le _, Nat.zero_le _⟩ ?_
    refine g_iadd C 81 rfl dX1_withPart_80 ?_
    exact r_int hR hq dX1_withPart_81 rfl rfl
  have K69 : ∀ (x1 : Int32) (x2 : Int32) (x3 : Int32), jn_X1_withPart_69 x1 x2 x3 s = some res → g Γ { frames := 2, cells := 0, slots := 0, locals := 45 } 6 H [] 0 0 69 [(0, .ref (a 0)), (1, .int x1), (2, .int x2), (3, .int x3)] [] := by
    intro x1 x2 x3 hq
    refine g_iconst 0 C 70 rfl dX1_withPart_69 ki_0 ?_
    exact g_sub [0, 1, 2, 3] rfl (K70 x1 x2 x3 0 hq)
  have K43 : ∀ (x1 : Int32) (x2 : Int32) (x3 : Int32) (x4 : Int32) (y0 : Int32), jn_X1_withPart_43 x1 x2 x3 x4 y0 s = some res → g Γ { frames := 2, cells := 0, slots := 0, locals := 45 } 6 H [] 0 0 43 [(0, .ref (a 0)), (1, .int x1), (2, .int x2), (3, .int x3), (4, .int x4)] [.int y0] := by
    intro x1 x2 x3 x4 y0 hq
    refine g_istore [(5, .int y0), (0, .ref (a 0)), (1, .int x1), (2, .int x2), (3, .int x3), (4, .int x4)] C 45 rfl dX1_withPart_43 (Nat.le_of_ble_eq_true rfl) rfl ?_
    refine g_iload C 47 rfl dX1_withPart_45 5 rfl ?_
    refine s_if_eq C 69 50 rfl dX1_withPart_47 (by decide) hq (fun hq => ?_) (fun hq => ?_)
    · exact g_sub [1, 2, 3, 4] rfl (K69 x1 x2 x3 hq)
    refine g_iload C 52 rfl dX1_withPart_50 0 rfl ?_
    refine s_if_eq C 69 55 rfl dX1_withPart_52 (by decide) hq (fun hq => ?_) (fun hq => ?_)
    · exact g_sub [1, 2, 3, 4] rfl (K69 x1 x2 x3 hq)
    refine g_aload_n C 56 rfl dX1_withPart_55 1 rfl ?_
    refine g_get (v := .ref (a 1)) (fs := fl1 a s) C 59 rfl dX1_withPart_56 hK hP la_X1 0 0 (Nat.le_of_ble_eq_true rfl) fl_X1_11 rfl rfl rfl rfl ?_
    refine g_iload_n C 60 rfl dX1_withPart_59 2 rfl ?_
    refine g_bipush 21 C 62 rfl dX1_withPart_60 kb_21 ?_
    refine g_imul C 63 rfl dX1_withPart_62 ?_
    refine g_iload_n C 64 rfl dX1_withPart_63 4 rfl ?_
    refine g_iadd C 65 rfl dX1_withPart_64 ?_
    refine s_iald C 66 rfl dX1_withPart_65 hK hP 1 rfl hq (fun hq hi3 => ?_)
    refine g_goto C 70 dX1_withPart_66 (by decide) ?_
    exact g_sub [1, 2, 3, 4] rfl (K70 x1 x2 x3 ((x1_alone s) (((x1 * 21) + x3) : Int32).toNatClampNeg) hq)
  have K42 : ∀ (x1 : Int32) (x2 : Int32) (x3 : Int32) (x4 : Int32), jn_X1_withPart_42 x1 x2 x3 x4 s = some res → g Γ { frames := 2, cells := 0, slots := 0, locals := 45 } 6 H [] 0 0 42 [(0, .ref (a 0)), (1, .int x1), (2, .int x2), (3, .int x3), (4, .int x4)] [] := by
    intro x1 x2 x3 x4 hq
    refine g_iconst 0 C 43 rfl dX1_withPart_42 ki_0 ?_
    exact g_sub [0, 1, 2, 3, 4] rfl (K43 x1 x2 x3 x4 0 hq)
  have K17 : ∀ (x1 : Int32) (x2 : Int32) (x3 : Int32) (y0 : Int32), jn_X1_withPart_17 x1 x2 x3 y0 s = some res → g Γ { frames := 2, cells := 0, slots := 0, locals := 45 } 6 H [] 0 0 17 [(0, .ref (a 0)), (1, .int x1), (2, .int x2), (3, .int x3)] [.int y0] := by
    intro x1 x2 x3 y0 hq
    refine g_istore [(4, .int y0), (0, .ref (a 0)), (1, .int x1), (2, .int x2), (3, .int x3)] C 19 rfl dX1_withPart_17 (Nat.le_of_ble_eq_true rfl) rfl ?_
    refine g_iload_n C 20 rfl dX1_withPart_19 2 rfl ?_
    refine g_iconst 0 C 21 rfl dX1_withPart_20 ki_0 ?_
    refine g_iconst 5 C 22 rfl dX1_withPart_21 ki_5 ?_
    obtain ⟨r4, hz5, hq⟩ := bindE hq
    refine g_callRS (rest := []) C 25 rfl dX1_withPart_22 (c_X8_within Γ.2.1 Δ  x1 0 5  hz5) mv_X8_within (Or.inr ⟨_, mn_X1_49⟩) hK rfl rfl ⟨Nat.le_of_ble_eq_true rfl, Nat.le_of_ble_eq_true rfl⟩ (Nat.le_of_ble_eq_true rfl) ⟨Nat.zero_le _, Nat.zero_le _⟩ ?_
    refine s_if_eq C 42 28 rfl dX1_withPart_25 (by decide) hq (fun hq => ?_) (fun hq => ?_)
    · exact g_sub [1, 2, 3, 4, 0] rfl (K42 x1 x2 x3 y0 hq)
    refine g_iload_n C 29 rfl dX1_withPart_28 4 rfl ?_
    refine g_iconst 0 C 30 rfl dX1_withPart_29 ki_0 ?_
    refine g_bipush 20 C 32 rfl dX1_withPart_30 kb_20 ?_
    obtain ⟨r6, hz7, hq⟩ := bindE hq
    refine g_callRS (rest := []) C 35 rfl dX1_withPart_32 (c_X8_within Γ.2.1 Δ  x3 0 20  hz7) mv_X8_within (Or.inr ⟨_, mn_X1_49⟩) hK rfl rfl ⟨Nat.le_of_ble_eq_true rfl, Nat.le_of_ble_eq_true rfl⟩ (Nat.le_of_ble_eq_true rfl) ⟨Nat.zero_le _, Nat.zero_le _⟩ ?_
    refine s_if_eq C 42 38 rfl dX1_withPart_35 (by decide) hq (fun hq => ?_) (fun hq => ?_)
    · exact g_sub [1, 2, 3, 4, 0] rfl (K42 x1 x2 x3 y0 hq)
    refine g_iconst 1 C 39 rfl dX1_withPart_38 ki_1 ?_
    refine g_goto C 43 dX1_withPart_39 (by decide) ?_
    exact g_sub [1, 2, 3, 4, 0] rfl (K43 x1 x2 x3 y0 1 hq)
  show g Γ { frames := 2, cells := 0, slots := 0, locals := 45 } 6 H [] 0 0 0 [(0, .ref (a 0)), (1, .int x1), (2, .int x2), (3, .int x3)] []
  refine g_aload_n C 1 rfl dX1_withPart_0 0 rfl ?_
  refine g_get (v := .int (x1_there s)) (fs := fl1 a s) C 4 rfl dX1_withPart_1 hK hP la_X1 0 2 (Nat.le_of_ble_eq_true rfl) fl_X1_18 rfl rfl rfl rfl ?_
  refine g_iload_n C 5 rfl dX1_withPart_4 1 rfl ?_
  refine g_ishr C 6 rfl dX1_withPart_5 ?_
  refine g_iconst 1 C 7 rfl dX1_withPart_6 ki_1 ?_
  refine g_iand C 8 rfl dX1_withPart_7 ?_
  refine g_iconst 1 C 9 rfl dX1_withPart_8 ki_1 ?_
  refine s_icmp_ne C 16 12 rfl dX1_withPart_9 (by decide) hq (fun hq => ?_) (fun hq => ?_)
  · refine g_iconst 0 C 17 rfl dX1_withPart_16 ki_0 ?_
    exact g_sub [0, 1, 2, 3] rfl (K17 x1 x2 x3 0 hq)
  refine g_iconst 1 C 13 rfl dX1_withPart_12 ki_1 ?_
  refine g_goto C 17 dX1_withPart_13 (by decide) ?_
  exact g_sub [0, 1, 2, 3] rfl (K17 x1 x2 x3 1 hq)
set_option maxHeartbeats 400000 in
set_option maxRecDepth 100000 in
theorem c_X1_leastOver (l : Launch) (Δ : gD) (a : Nat → Nat) (x1 : Int32) (x2 : Int32) (s : S1) {res : Int32} (hq : sem_X1_leastOver x1 x2 s = some res) : MR l yX1_leastOver cX1_leastOver 5 (some .int) Δ (cs1 a Δ s) [.ref (a 0), .int x1, .int x2] 3 70 (.int res) := by
  refine MR.of (by decide) (Nat.le_of_ble_eq_true rfl) ?_
  intro Γ H hl C hK hP hR
  subst hl
  show g Γ { frames := 3, cells := 0, slots := 0, locals := 70 } 5 H [] 0 0 0 [(0, .ref (a 0)), (1, .int x1), (2, .int x2)] []
  refine g_sipush 1000 C 3 rfl dX1_leastOver_0 ks_1000 ?_
  refine g_istore_n [(3, .int 1000), (0, .ref (a 0)), (1, .int x1), (2, .int x2)] C 4 rfl dX1_leastOver_3 (Nat.le_of_ble_eq_true rfl) rfl ?_
  refine g_iconst 0 C 5 rfl dX1_leastOver_4 ki_0 ?_
  refine g_istore [(4, .int 0), (3, .int 1000), (0, .ref (a 0)), (1, .int x1), (2, .int x2)] C 7 rfl dX1_leastOver_5 (Nat.le_of_ble_eq_true rfl) rfl ?_
  have Q7 : ∀ (x1 : Int32) (x2 : Int32), ∀ (n : Nat) (x3 : Int32) (x4 : Int32) (o : (Int32)) (hq : lp_X1_leastOver_7 x1 x2 s n x3 x4 = some o) (E2 : g Γ { frames := 3, cells := 0, slots := 0, locals := 70 } 5 H [] 0 0 37 [(3, .int o)] []), g Γ { frames := 3, cells := 0, slots := 0, locals := 70 } 5 H [] 0 0 7 [(0, .ref (a 0)), (1, .int x1), (2, .int x2), (3, .int x3), (4, .int x4)] [] := by
    intro x1 x2
    intro n
    induction n with
    | zero => intro x3 x4 o hq; exact nomatch (show (none : Option (Int32)) = some o from hq)
    | succ n ih =>
      intro x3 x4 o hq E2
      have hq : bd_X1_leastOver_7 x1 x2 s (lp_X1_leastOver_7 x1 x2 s n) x3 x4 = some o := hq
      refine g_iload C 9 rfl dX1_leastOver_7 4 rfl ?_
      refine g_aload_n C 10 rfl dX1_leastOver_9 0 rfl ?_
      refine g_iload_n C 11 rfl dX1_leastOver_10 1 rfl ?_
      refine g_iload_n C 12 rfl dX1_leastOver_11 2 rfl ?_
      obtain ⟨r1, hz2, hq⟩ := bindE hq
      refine g_callRV (rest := [.int x4]) C 15 rfl dX1_leastOver_12 (c_X1_mostFor Γ.2.1 Δ a x1 x2 s hz2) mv_X1_mostFor ml_X1_37 hK hP rfl rfl rfl rfl rfl ⟨Nat.le_of_ble_eq_true rfl, Nat.le_of_ble_eq_true rfl⟩ (Nat.le_of_ble_eq_true rfl) ⟨Nat.zero_le _, Nat.zero_le _⟩ ?_
      refine s_icmp_gt C 37 18 rfl dX1_leastOver_15 (by decide) hq (fun hq => ?_) (fun hq => ?_)
      · cases hq
        exact g_sub [3] rfl (E2 )
      refine g_iload_n C 19 rfl dX1_leastOver_18 3 rfl ?_
      refine g_aload_n C 20 rfl dX1_leastOver_19 0 rfl ?_
      refine g_iload_n C 21 rfl dX1_leastOver_20 1 rfl ?_
      refine g_iload_n C 22 rfl dX1_leastOver_21 2 rfl ?_
      refine g_iload C 24 rfl dX1_leastOver_22 4 rfl ?_
      obtain ⟨r3, hz4, hq⟩ := bindE hq
      refine g_callRV (rest := [.int x3]) C 27 rfl dX1_leastOver_24 (c_X1_withPart Γ.2.1 Δ a x1 x2 x4 s hz4) mv_X1_withPart ml_X1_40 hK hP rfl rfl rfl rfl rfl ⟨Nat.le_of_ble_eq_true rfl, Nat.le_of_ble_eq_true rfl⟩ (Nat.le_of_ble_eq_true rfl) ⟨Nat.zero_le _, Nat.zero_le _⟩ ?_
      refine g_mmin C 30 rfl dX1_leastOver_27 ml_X1_44 mth_min ⟨Nat.le_of_ble_eq_true rfl, Nat.le_of_ble_eq_true rfl⟩ ⟨Nat.zero_le _, Nat.zero_le _⟩ ?_
      refine g_istore_n [(3, .int (jmin x3 r3)), (0, .ref (a 0)), (1, .int x1), (2, .int x2), (4, .int x4)] C 31 rfl dX1_leastOver_30 (Nat.le_of_ble_eq_true rfl) rfl ?_
      refine g_iinc (x4 + 1) [(4, .int (x4 + 1)), (3, .int (jmin x3 r3)), (0, .ref (a 0)), (1, .int x1), (2, .int x2)] C 34 rfl dX1_leastOver_31 4 rfl (ii_1 _) (Nat.le_of_ble_eq_true rfl) rfl ?_
      refine g_goto C 7 dX1_leastOver_34 (by decide) ?_
      exact g_sub [2, 3, 4, 1, 0] rfl (ih (jmin x3 r3) (x4 + 1) _ hq E2)
  obtain ⟨o5, ho6, hq⟩ := bindE hq
  refine g_sub [2, 3, 4, 1, 0] rfl (Q7 x1 x2 FUEL 1000 0 o5 ho6 (?_))
  refine g_iload_n C 38 rfl dX1_leastOver_37 0 rfl ?_
  exact r_int hR hq dX1_leastOver_38 rfl rfl
set_option maxHeartbeats 400000 in
set_option maxRecDepth 100000 in
theorem c_X1_reckon (l : Launch) (Δ : gD) (a : Nat → Nat) (b : Nat → Nat) (c : Nat → Nat)  (s : S1) (t : S6) (u : S5) {res : S1} (hq : sem_X1_reckon  s t u = some res) : MW l yX1_reckon cX1_reckon 5 none Δ (cs1 a Δ s ++ cs6 b Δ t ++ cs5 c Δ u) [.ref (a 0), .ref (b 0), .ref (c 0)] 4 94 none (cs1 a Δ res ++ cs6 b Δ t ++ cs5 c Δ u) := by
  refine MW.of (by decide) (Nat.le_of_ble_eq_true rfl) ?_
  intro Γ A H hl C hK hP hD hS hA hR
  subst hl
  show g Γ { frames := 4, cells := 0, slots := 0, locals := 94 } 5 H [] 0 0 0 [(0, .ref (a 0)), (1, .ref (b 0)), (2, .ref (c 0))] []
  refine g_aload_n C 1 rfl dX1_reckon_0 0 rfl ?_
  refine g_aload_n C 2 rfl dX1_reckon_1 1 rfl ?_
  refine g_get (v := .int (x6_there t)) (fs := fl6 b t) C 5 rfl dX1_reckon_2 hK hP la_X6 3 2 (Nat.le_of_ble_eq_true rfl) fl_X1_22 rfl rfl rfl rfl ?_
  refine g_put (fs := fl1 a s) (cs1 a Δ (p1_there s (x6_there t)) ++ cs6 b Δ t ++ cs5 c Δ u) C 8 rfl dX1_reckon_5 hK hP hD hS la_X1 tyX1_ok nmX1 0 2 (Nat.le_of_ble_eq_true rfl) fl_X1_18 rfl rfl rfl rfl rfl rfl (Nat.le_of_ble_eq_true rfl) (sst_5 a b c Δ s t u (x6_there t)) (fun H L hP hD hS => ?_)
  refine g_iconst 0 C 9 rfl dX1_reckon_8 ki_0 ?_
  refine g_istore_n [(3, .int 0), (0, .ref (a 0)), (1, .ref (b 0)), (2, .ref (c 0))] C 10 rfl dX1_reckon_9 (Nat.le_of_ble_eq_true rfl) rfl ?_
  have Q10 : ∀ (n : Nat) (x3 : Int32) (s : S1) (o : (S1)) (H : Heap) (L : List Loc) (hP : va_P Δ.1 classes (cs1 a Δ s ++ cs6 b Δ t ++ cs5 c Δ u) H) (hD : va_D A (cs1 a Δ s ++ cs6 b Δ t ++ cs5 c Δ u)) (hS : va_S A (sOf Γ).heap H L) (hq : lp_X1_reckon_10 t u n x3 s = some o) (E2 : ∀ (H : Heap) (L : List Loc), va_P Δ.1 classes (cs1 a Δ o ++ cs6 b Δ t ++ cs5 c Δ u) H → va_D A (cs1 a Δ o ++ cs6 b Δ t ++ cs5 c Δ u) → va_S A (sOf Γ).heap H L → g Γ { frames := 4, cells := 0, slots := 0, locals := 94 } 5 H L 0 0 42 [(0, .ref (a 0)), (1, .ref (b 0)), (2, .ref (c 0))] []), g Γ { frames := 4, cells := 0, slots := 0, locals := 94 } 5 H L 0 0 10 [(0, .ref (a 0)), (1, .ref (b 0)), (2, .ref (c 0)), (3, .int x3)] [] := by
    intro n
    induction n with
    | zero => intro x3 s o H L hP hD hS hq; exact nomatch (show (none : Option (S1)) = some o from hq)
    | succ n ih =>
      intro x3 s o H L hP hD hS hq E2
      have hq : bd_X1_reckon_10 t u (lp_X1_reckon_10 t u n) x3 s = some o := hq
      refine g_iload_n C 11 rfl dX1_reckon_10 3 rfl ?_
      refine g_bipush 21 C 13 rfl dX1_reckon_11 kb_21 ?_
      refine s_icmp_ge C 42 16 rfl dX1_reckon_13 (by decide) hq (fun hq => ?_) (fun hq => ?_)
      · cases hq
        exact g_sub [0, 1, 2] rfl (E2 _ _ hP hD hS)
      refine g_aload_n C 17 rfl dX1_reckon_16 0 rfl ?_
      refine g_get (v := .ref (a 2)) (fs := fl1 a s) C 20 rfl dX1_reckon_17 hK hP la_X1 0 1 (Nat.le_of_ble_eq_true rfl) fl_X1_15 rfl rfl rfl rfl ?_
      refine g_bipush 126 C 22 rfl dX1_reckon_20 kb_126 ?_
      refine g_iload_n C 23 rfl dX1_reckon_22 3 rfl ?_
      refine g_iadd C 24 rfl dX1_reckon_23 ?_
      refine g_iload_n C 25 rfl dX1_reckon_24 3 rfl ?_
      refine s_if_ne C 32 28 rfl dX1_reckon_25 (by decide) hq (fun hq => ?_) (fun hq => ?_)
      · refine g_sipush 1000 C 35 rfl dX1_reckon_32 ks_1000 ?_
        refine s_iast (cs1 a Δ (p1_fewest s (upd (x1_fewest s) ((126 + x3) : Int32).toNatClampNeg 1000)) ++ cs6 b Δ t ++ cs5 c Δ u) C 36 rfl dX1_reckon_35 hK hP hD hS 2 rfl hq (sst_6 a b c Δ s t u (upd (x1_fewest s) ((126 + x3) : Int32).toNatClampNeg 1000)) (fun hq hi1 H L hP hD hS => ?_)
        refine g_iinc (x3 + 1) [(3, .int (x3 + 1)), (0, .ref (a 0)), (1, .ref (b 0)), (2, .ref (c 0))] C 39 rfl dX1_reckon_36 3 rfl (ii_1 _) (Nat.le_of_ble_eq_true rfl) rfl ?_
        refine g_goto C 10 dX1_reckon_39 (by decide) ?_
        exact g_sub [1, 2, 3, 0] rfl (ih (x3 + 1) (p1_fewest s (upd (x1_fewest s) ((126 + x3) : Int32).toNatClampNeg 1000)) _ _ _ hP hD hS hq E2)
      refine g_iconst 0 C 29 rfl dX1_reckon_28 ki_0 ?_
      refine g_goto C 35 dX1_reckon_29 (by decide) ?_
      refine s_iast (cs1 a Δ (p1_fewest s (upd (x1_fewest s) ((126 + x3) : Int32).toNatClampNeg 0)) ++ cs6 b Δ t ++ cs5 c Δ u) C 36 rfl dX1_reckon_35 hK hP hD hS 2 rfl hq (sst_6 a b c Δ s t u (upd (x1_fewest s) ((126 + x3) : Int32).toNatClampNeg 0)) (fun hq hi2 H L hP hD hS => ?_)
      refine g_iinc (x3 + 1) [(3, .int (x3 + 1)), (0, .ref (a 0)), (1, .ref (b 0)), (2, .ref (c 0))] C 39 rfl dX1_reckon_36 3 rfl (ii_1 _) (Nat.le_of_ble_eq_true rfl) rfl ?_
      refine g_goto C 10 dX1_reckon_39 (by decide) ?_
      exact g_sub [1, 2, 3, 0] rfl (ih (x3 + 1) (p1_fewest s (upd (x1_fewest s) ((126 + x3) : Int32).toNatClampNeg 0)) _ _ _ hP hD hS hq E2)
  obtain ⟨o3, ho4, hq⟩ := bindE hq
  refine g_sub [1, 2, 3, 0] rfl (Q10  FUEL 0 (p1_there s (x6_there t)) o3 _ _ hP hD hS ho4 (fun H L hP hD hS => ?_))
  refine g_iconst 5 C 43 rfl dX1_reckon_42 ki_5 ?_
  refine g_istore_n [(3, .int 5), (0, .ref (a 0)), (1, .ref (b 0)), (2, .ref (c 0))] C 44 rfl dX1_reckon_43 (Nat.le_of_ble_eq_true rfl) rfl ?_
  have Q44 : ∀ (n : Nat) (x3 : Int32) (s : S1) (o : (S1)) (H : Heap) (L : List Loc) (hP : va_P Δ.1 classes (cs1 a Δ s ++ cs6 b Δ t ++ cs5 c Δ u) H) (hD : va_D A (cs1 a Δ s ++ cs6 b Δ t ++ cs5 c Δ u)) (hS : va_S A (sOf Γ).heap H L) (hq : lp_X1_reckon_44 t u n x3 s = some o) (E2 : ∀ (H : Heap) (L : List Loc), va_P Δ.1 classes (cs1 a Δ o ++ cs6 b Δ t ++ cs5 c Δ u) H → va_D A (cs1 a Δ o ++ cs6 b Δ t ++ cs5 c Δ u) → va_S A (sOf Γ).heap H L → g Γ { frames := 4, cells := 0, slots := 0, locals := 94 } 5 H L 0 0 129 [] []), g Γ { frames := 4, cells := 0, slots := 0, locals := 94 } 5 H L 0 0 44 [(0, .ref (a 0)), (1, .ref (b 0)), (2, .ref (c 0)), (3, .int x3)] [] := by
    intro n
    induction n with
    | zero => intro x3 s o H L hP hD hS hq; exact nomatch (show (none : Option (S1)) = some o from hq)
    | succ n ih =>
      intro x3 s o H L hP hD hS hq E2
      have hq : bd_X1_reckon_44 t u (lp_X1_reckon_44 t u n) x3 s = some o := hq
      refine g_iload_n C 45 rfl dX1_reckon_44 3 rfl ?_
      refine s_if_lt C 129 48 rfl dX1_reckon_45 (by decide) hq (fun hq => ?_) (fun hq => ?_)
      · cases hq
        exact g_sub [] rfl (E2 _ _ hP hD hS)
      refine g_iconst 0 C 49 rfl dX1_reckon_48 ki_0 ?_
      refine g_istore [(4, .int 0), (0, .ref (a 0)), (1, .ref (b 0)), (2, .ref (c 0)), (3, .int x3)] C 51 rfl dX1_reckon_49 (Nat.le_of_ble_eq_true rfl) rfl ?_
      have Q51 : ∀ (x3 : Int32), ∀ (n : Nat) (x4 : Int32) (s : S1) (o : (S1)) (H : Heap) (L : List Loc) (hP : va_P Δ.1 classes (cs1 a Δ s ++ cs6 b Δ t ++ cs5 c Δ u) H) (hD : va_D A (cs1 a Δ s ++ cs6 b Δ t ++ cs5 c Δ u)) (hS : va_S A (sOf Γ).heap H L) (hq : lp_X1_reckon_51 x3 t u n x4 s = some o) (E2 : ∀ (H : Heap) (L : List Loc), va_P Δ.1 classes (cs1 a Δ o ++ cs6 b Δ t ++ cs5 c Δ u) H → va_D A (cs1 a Δ o ++ cs6 b Δ t ++ cs5 c Δ u) → va_S A (sOf Γ).heap H L → g Γ { frames := 4, cells := 0, slots := 0, locals := 94 } 5 H L 0 0 88 [(0, .ref (a 0)), (1, .ref (b 0)), (2, .ref (c 0)), (3, .int x3)] []), g Γ { frames := 4, cells := 0, slots := 0, locals := 94 } 5 H L 0 0 51 [(0, .ref (a 0)), (1, .ref (b 0)), (2, .ref (c 0)), (3, .int x3), (4, .int x4)] [] := by
        intro x3
        intro n
        induction n with
        | zero => intro x4 s o H L hP hD hS hq; exact nomatch (show (none : Option (S1)) = some o from hq)
        | succ n ih =>
          intro x4 s o H L hP hD hS hq E2
          have hq : bd_X1_reckon_51 x3 t u (lp_X1_reckon_51 x3 t u n) x4 s = some o := hq
          refine g_iload C 53 rfl dX1_reckon_51 4 rfl ?_
          refine g_bipush 21 C 55 rfl dX1_reckon_53 kb_21 ?_
          refine s_icmp_ge C 88 58 rfl dX1_reckon_55 (by decide) hq (fun hq => ?_) (fun hq => ?_)
          · cases hq
            exact g_sub [0, 1, 2, 3] rfl (E2 _ _ hP hD hS)
          refine g_aload_n C 59 rfl dX1_reckon_58 0 rfl ?_
          refine g_get (v := .ref (a 1)) (fs := fl1 a s) C 62 rfl dX1_reckon_59 hK hP la_X1 0 0 (Nat.le_of_ble_eq_true rfl) fl_X1_11 rfl rfl rfl rfl ?_
          refine g_iload_n C 63 rfl dX1_reckon_62 3 rfl ?_
          refine g_bipush 21 C 65 rfl dX1_reckon_63 kb_21 ?_
          refine g_imul C 66 rfl dX1_reckon_65 ?_
          refine g_iload C 68 rfl dX1_reckon_66 4 rfl ?_
          refine g_iadd C 69 rfl dX1_reckon_68 ?_
          refine g_aload_n C 70 rfl dX1_reckon_69 2 rfl ?_
          refine g_aload_n C 71 rfl dX1_reckon_70 1 rfl ?_
          refine g_iload_n C 72 rfl dX1_reckon_71 3 rfl ?_
          refine g_iconst 0 C 73 rfl dX1_reckon_72 ki_0 ?_
          obtain ⟨r5, hz6, hq⟩ := bindE hq
          refine g_callRV (rest := [.ref (c 0), .int ((x3 * 21) + x4), .ref (a 1)]) C 76 rfl dX1_reckon_73 (c_X6_get Γ.2.1 Δ b x3 0 t hz6) mv_X6_get ml_X1_25 hK (sct_9 a b c Δ s t u hP) rfl rfl rfl rfl rfl ⟨Nat.le_of_ble_eq_true rfl, Nat.le_of_ble_eq_true rfl⟩ (Nat.le_of_ble_eq_true rfl) ⟨Nat.zero_le _, Nat.zero_le _⟩ ?_
          refine g_iload C 78 rfl dX1_reckon_76 4 rfl ?_
          obtain ⟨r7, hz8, hq⟩ := bindE hq
          refine g_callRV (rest := [.int ((x3 * 21) + x4), .ref (a 1)]) C 81 rfl dX1_reckon_78 (c_X5_fewestSlips Γ.2.1 Δ c r5 x4 u hz8) mv_X5_fewestSlips ml_X1_29 hK (sct_8 a b c Δ s t u hP) rfl rfl rfl rfl rfl ⟨Nat.le_of_ble_eq_true rfl, Nat.le_of_ble_eq_true rfl⟩ (Nat.le_of_ble_eq_true rfl) ⟨Nat.zero_le _, Nat.zero_le _⟩ ?_
          refine s_iast (cs1 a Δ (p1_alone s (upd (x1_alone s) (((x3 * 21) + x4) : Int32).toNatClampNeg r7)) ++ cs6 b Δ t ++ cs5 c Δ u) C 82 rfl dX1_reckon_81 hK hP hD hS 1 rfl hq (sst_7 a b c Δ s t u (upd (x1_alone s) (((x3 * 21) + x4) : Int32).toNatClampNeg r7)) (fun hq hi9 H L hP hD hS => ?_)
          refine g_iinc (x4 + 1) [(4, .int (x4 + 1)), (0, .ref (a 0)), (1, .ref (b 0)), (2, .ref (c 0)), (3, .int x3)] C 85 rfl dX1_reckon_82 4 rfl (ii_1 _) (Nat.le_of_ble_eq_true rfl) rfl ?_
          refine g_goto C 51 dX1_reckon_85 (by decide) ?_
          exact g_sub [1, 2, 3, 4, 0] rfl (ih (x4 + 1) (p1_alone s (upd (x1_alone s) (((x3 * 21) + x4) : Int32).toNatClampNeg r7)) _ _ _ hP hD hS hq E2)
      obtain ⟨o10, ho11, hq⟩ := bindE hq
      refine g_sub [1, 2, 3, 4, 0] rfl (Q51 x3 FUEL 0 s o10 _ _ hP hD hS ho11 (fun H L hP hD hS => ?_))
      refine g_iconst 0 C 89 rfl dX1_reckon_88 ki_0 ?_
      refine g_istore [(4, .int 0), (0, .ref (a 0)), (1, .ref (b 0)), (2, .ref (c 0)), (3, .int x3)] C 91 rfl dX1_reckon_89 (Nat.le_of_ble_eq_true rfl) rfl ?_
      have Q91 : ∀ (x3 : Int32), ∀ (n : Nat) (x4 : Int32) (s : S1) (o : (S1)) (H : Heap) (L : List Loc) (hP : va_P Δ.1 classes (cs1 a Δ s ++ cs6 b Δ t ++ cs5 c Δ u) H) (hD : va_D A (cs1 a Δ s ++ cs6 b Δ t ++ cs5 c Δ u)) (hS : va_S A (sOf Γ).heap H L) (hq : lp_X1_reckon_91 x3 t u n x4 s = some o) (E2 : ∀ (H : Heap) (L : List Loc), va_P Δ.1 classes (cs1 a Δ o ++ cs6 b Δ t ++ cs5 c Δ u) H → va_D A (cs1 a Δ o ++ cs6 b Δ t ++ cs5 c Δ u) → va_S A (sOf Γ).heap H L → g Γ { frames := 4, cells := 0, slots := 0, locals := 94 } 5 H L 0 0 123 [(0, .ref (a 0)), (1, .ref (b 0)), (2, .ref (c 0)), (3, .int x3)] []), g Γ { frames := 4, cells := 0, slots := 0, locals := 94 } 5 H L 0 0 91 [(0, .ref (a 0)), (1, .ref (b 0)), (2, .ref (c 0)), (3, .int x3), (4, .int x4)] [] := by
        intro x3
        intro n
        induction n with
        | zero => intro x4 s o H L hP hD hS hq; exact nomatch (show (none : Option (S1)) = some o from hq)
        | succ n ih =>
          intro x4 s o H L hP hD hS hq E2
          have hq : bd_X1_reckon_91 x3 t u (lp_X1_reckon_91 x3 t u n) x4 s = some o := hq
          refine g_iload C 93 rfl dX1_reckon_91 4 rfl ?_
          refine g_bipush 21 C 95 rfl dX1_reckon_93 kb_21 ?_
          refine s_icmp_ge C 123 98 rfl dX1_reckon_95 (by decide) hq (fun hq => ?_) (fun hq => ?_)
          · cases hq
            exact g_sub [0, 1, 2, 3] rfl (E2 _ _ hP hD hS)
          refine g_aload_n C 99 rfl dX1_reckon_98 0 rfl ?_
          refine g_get (v := .ref (a 2)) (fs := fl1 a s) C 102 rfl dX1_reckon_99 hK hP la_X1 0 1 (Nat.le_of_ble_eq_true rfl) fl_X1_15 rfl rfl rfl rfl ?_
          refine g_iload_n C 103 rfl dX1_reckon_102 3 rfl ?_
          refine g_bipush 21 C 105 rfl dX1_reckon_103 kb_21 ?_
          refine g_imul C 106 rfl dX1_reckon_105 ?_
          refine g_iload C 108 rfl dX1_reckon_106 4 rfl ?_
          refine g_iadd C 109 rfl dX1_reckon_108 ?_
          refine g_aload_n C 110 rfl dX1_reckon_109 0 rfl ?_
          refine g_iload_n C 111 rfl dX1_reckon_110 3 rfl ?_
          refine g_iload C 113 rfl dX1_reckon_111 4 rfl ?_
          obtain ⟨r12, hz13, hq⟩ := bindE hq
          refine g_callRV (rest := [.int ((x3 * 21) + x4), .ref (a 2)]) C 116 rfl dX1_reckon_113 (c_X1_leastOver Γ.2.1 Δ a x3 x4 s hz13) mv_X1_leastOver ml_X1_34 hK (sct_10 a b c Δ s t u hP) rfl rfl rfl rfl rfl ⟨Nat.le_of_ble_eq_true rfl, Nat.le_of_ble_eq_true rfl⟩ (Nat.le_of_ble_eq_true rfl) ⟨Nat.zero_le _, Nat.zero_le _⟩ ?_
          refine s_iast (cs1 a Δ (p1_fewest s (upd (x1_fewest s) (((x3 * 21) + x4) : Int32).toNatClampNeg r12)) ++ cs6 b Δ t ++ cs5 c Δ u) C 117 rfl dX1_reckon_116 hK hP hD hS 2 rfl hq (sst_6 a b c Δ s t u (upd (x1_fewest s) (((x3 * 21) + x4) : Int32).toNatClampNeg r12)) (fun hq hi14 H L hP hD hS => ?_)
          refine g_iinc (x4 + 1) [(4, .int (x4 + 1)), (0, .ref (a 0)), (1, .ref (b 0)), (2, .ref (c 0)), (3, .int x3)] C 120 rfl dX1_reckon_117 4 rfl (ii_1 _) (Nat.le_of_ble_eq_true rfl) rfl ?_
          refine g_goto C 91 dX1_reckon_120 (by decide) ?_
          exact g_sub [1, 2, 3, 4, 0] rfl (ih (x4 + 1) (p1_fewest s (upd (x1_fewest s) (((x3 * 21) + x4) : Int32).toNatClampNeg r12)) _ _ _ hP hD hS hq E2)
      obtain ⟨o15, ho16, hq⟩ := bindE hq
      refine g_sub [1, 2, 3, 4, 0] rfl (Q91 x3 FUEL 0 o10 o15 _ _ hP hD hS ho16 (fun H L hP hD hS => ?_))
      refine g_iinc (x3 - 1) [(3, .int (x3 - 1)), (0, .ref (a 0)), (1, .ref (b 0)), (2, .ref (c 0))] C 126 rfl dX1_reckon_123 3 rfl (ii_m1 _) (Nat.le_of_ble_eq_true rfl) rfl ?_
      refine g_goto C 44 dX1_reckon_126 (by decide) ?_
      exact g_sub [1, 2, 3, 0] rfl (ih (x3 - 1) o15 _ _ _ hP hD hS hq E2)
  obtain ⟨o17, ho18, hq⟩ := bindE hq
  refine g_sub [1, 2, 3, 0] rfl (Q44  FUEL 5 o3 o17 _ _ hP hD hS ho18 (fun H L hP hD hS => ?_))
  exact w_void (ws := fun s => cs1 a Δ s ++ cs6 b Δ t ++ cs5 c Δ u) hR hq hP hS dX1_reckon_129 rfl
set_option maxHeartbeats 400000 in
set_option maxRecDepth 100000 in
theorem c_X1_partOf (l : Launch) (Δ : gD) (a : Nat → Nat) (x1 : Int32) (x2 : Int32) (s : S1) {res : Int32} (hq : sem_X1_partOf x1 x2 s = some res) : MR l yX1_partOf cX1_partOf 6 (some .int) Δ (cs1 a Δ s) [.ref (a 0), .int x1, .int x2] 3 70 (.int res) := by
  refine MR.of (by decide) (Nat.le_of_ble_eq_true rfl) ?_
  intro Γ H hl C hK hP hR
  subst hl
  show g Γ { frames := 3, cells := 0, slots := 0, locals := 70 } 6 H [] 0 0 0 [(0, .ref (a 0)), (1, .int x1), (2, .int x2)] []
  refine g_iload_n C 1 rfl dX1_partOf_0 2 rfl ?_
  refine g_istore_n [(3, .int x2), (0, .ref (a 0)), (1, .int x1), (2, .int x2)] C 2 rfl dX1_partOf_1 (Nat.le_of_ble_eq_true rfl) rfl ?_
  refine g_iconst 0 C 3 rfl dX1_partOf_2 ki_0 ?_
  refine g_istore [(4, .int 0), (3, .int x2), (0, .ref (a 0)), (1, .int x1), (2, .int x2)] C 5 rfl dX1_partOf_3 (Nat.le_of_ble_eq_true rfl) rfl ?_
  refine g_iconst 0 C 6 rfl dX1_partOf_5 ki_0 ?_
  refine g_istore [(5, .int 0), (4, .int 0), (3, .int x2), (0, .ref (a 0)), (1, .int x1), (2, .int x2)] C 8 rfl dX1_partOf_6 (Nat.le_of_ble_eq_true rfl) rfl ?_
  have Q8 : ∀ (x1 : Int32), ∀ (n : Nat) (x3 : Int32) (x4 : Int32) (x5 : Int32) (o : (Int32)) (hq : lp_X1_partOf_8 x1 s n x3 x4 x5 = some o) (E2 : g Γ { frames := 3, cells := 0, slots := 0, locals := 70 } 6 H [] 0 0 72 [(4, .int o)] []), g Γ { frames := 3, cells := 0, slots := 0, locals := 70 } 6 H [] 0 0 8 [(0, .ref (a 0)), (1, .int x1), (3, .int x3), (4, .int x4), (5, .int x5)] [] := by
    intro x1
    intro n
    induction n with
    | zero => intro x3 x4 x5 o hq; exact nomatch (show (none : Option (Int32)) = some o from hq)
    | succ n ih =>
      intro x3 x4 x5 o hq E2
      have hq : bd_X1_partOf_8 x1 s (lp_X1_partOf_8 x1 s n) x3 x4 x5 = some o := hq
      refine g_iload C 10 rfl dX1_partOf_8 4 rfl ?_
      refine g_iload_n C 11 rfl dX1_partOf_10 1 rfl ?_
      refine s_icmp_gt C 72 14 rfl dX1_partOf_11 (by decide) hq (fun hq => ?_) (fun hq => ?_)
      · cases hq
        exact g_sub [3] rfl (E2 )
      refine g_iload C 16 rfl dX1_partOf_14 4 rfl ?_
      refine g_bipush 6 C 18 rfl dX1_partOf_16 kb_6 ?_
      refine s_icmp_ge C 72 21 rfl dX1_partOf_18 (by decide) hq (fun hq => ?_) (fun hq => ?_)
      · cases hq
        exact g_sub [3] rfl (E2 )
      refine g_iload_n C 22 rfl dX1_partOf_21 2 rfl ?_
      refine g_iload C 24 rfl dX1_partOf_22 3 rfl ?_
      refine g_isub C 25 rfl dX1_partOf_24 ?_
      refine g_istore_n [(3, .int (x3 - x4)), (0, .ref (a 0)), (1, .int x1), (4, .int x4), (5, .int x5)] C 26 rfl dX1_partOf_25 (Nat.le_of_ble_eq_true rfl) rfl ?_
      refine g_iconst 0 C 27 rfl dX1_partOf_26 ki_0 ?_
      refine g_istore [(4, .int 0), (3, .int (x3 - x4)), (0, .ref (a 0)), (1, .int x1), (5, .int x5)] C 29 rfl dX1_partOf_27 (Nat.le_of_ble_eq_true rfl) rfl ?_
      have Q29 : ∀ (x1 : Int32) (x3 : Int32) (x5 : Int32), ∀ (n : Nat) (x4 : Int32) (o : (Int32)) (hq : lp_X1_partOf_29 x1 x3 x5 s n x4 = some o) (E2 : g Γ { frames := 3, cells := 0, slots := 0, locals := 70 } 6 H [] 0 0 66 [(0, .ref (a 0)), (1, .int x1), (3, .int x3), (4, .int o), (5, .int x5)] []), g Γ { frames := 3, cells := 0, slots := 0, locals := 70 } 6 H [] 0 0 29 [(0, .ref (a 0)), (1, .int x1), (3, .int x3), (4, .int x4), (5, .int x5)] [] := by
        intro x1 x3 x5
        intro n
        induction n with
        | zero => intro x4 o hq; exact nomatch (show (none : Option (Int32)) = some o from hq)
        | succ n ih =>
          intro x4 o hq E2
          have hq : bd_X1_partOf_29 x1 x3 x5 s (lp_X1_partOf_29 x1 x3 x5 s n) x4 = some o := hq
          refine g_iload C 31 rfl dX1_partOf_29 3 rfl ?_
          refine g_aload_n C 32 rfl dX1_partOf_31 0 rfl ?_
          refine g_iload C 34 rfl dX1_partOf_32 4 rfl ?_
          refine g_iload_n C 35 rfl dX1_partOf_34 2 rfl ?_
          obtain ⟨r1, hz2, hq⟩ := bindE hq
          refine g_callRV (rest := [.int x4]) C 38 rfl dX1_partOf_35 (c_X1_mostFor Γ.2.1 Δ a x5 x3 s hz2) mv_X1_mostFor ml_X1_37 hK hP rfl rfl rfl rfl rfl ⟨Nat.le_of_ble_eq_true rfl, Nat.le_of_ble_eq_true rfl⟩ (Nat.le_of_ble_eq_true rfl) ⟨Nat.zero_le _, Nat.zero_le _⟩ ?_
          refine s_icmp_ge C 66 41 rfl dX1_partOf_38 (by decide) hq (fun hq => ?_) (fun hq => ?_)
          · cases hq
            exact g_sub [0, 1, 2, 3, 4] rfl (E2 )
          refine g_aload_n C 42 rfl dX1_partOf_41 0 rfl ?_
          refine g_iload C 44 rfl dX1_partOf_42 4 rfl ?_
          refine g_iload_n C 45 rfl dX1_partOf_44 2 rfl ?_
          refine g_iload C 47 rfl dX1_partOf_45 3 rfl ?_
          obtain ⟨r3, hz4, hq⟩ := bindE hq
          refine g_callRV (rest := []) C 50 rfl dX1_partOf_47 (c_X1_withPart Γ.2.1 Δ a x5 x3 x4 s hz4) mv_X1_withPart ml_X1_40 hK hP rfl rfl rfl rfl rfl ⟨Nat.le_of_ble_eq_true rfl, Nat.le_of_ble_eq_true rfl⟩ (Nat.le_of_ble_eq_true rfl) ⟨Nat.zero_le _, Nat.zero_le _⟩ ?_
          refine g_aload_n C 51 rfl dX1_partOf_50 0 rfl ?_
          refine g_iload C 53 rfl dX1_partOf_51 4 rfl ?_
          refine g_iload_n C 54 rfl dX1_partOf_53 2 rfl ?_
          obtain ⟨r5, hz6, hq⟩ := bindE hq
          refine g_callRV (rest := [.int r3]) C 57 rfl dX1_partOf_54 (c_X1_fewestFrom Γ.2.1 Δ a x5 x3 s hz6) mv_X1_fewestFrom ml_X1_53 hK hP rfl rfl rfl rfl rfl ⟨Nat.le_of_ble_eq_true rfl, Nat.le_of_ble_eq_true rfl⟩ (Nat.le_of_ble_eq_true rfl) ⟨Nat.zero_le _, Nat.zero_le _⟩ ?_
          refine s_icmp_eq C 66 60 rfl dX1_partOf_57 (by decide) hq (fun hq => ?_) (fun hq => ?_)
          · cases hq
            exact g_sub [0, 1, 2, 3, 4] rfl (E2 )
          refine g_iinc (x4 + 1) [(4, .int (x4 + 1)), (0, .ref (a 0)), (1, .int x1), (3, .int x3), (5, .int x5)] C 63 rfl dX1_partOf_60 3 rfl (ii_1 _) (Nat.le_of_ble_eq_true rfl) rfl ?_
          refine g_goto C 29 dX1_partOf_63 (by decide) ?_
          exact g_sub [1, 2, 3, 0, 4] rfl (ih (x4 + 1) _ hq E2)
      obtain ⟨o7, ho8, hq⟩ := bindE hq
      refine g_sub [2, 3, 1, 0, 4] rfl (Q29 x1 (x3 - x4) x5 FUEL 0 o7 ho8 (?_))
      refine g_iinc (x5 + 1) [(5, .int (x5 + 1)), (0, .ref (a 0)), (1, .int x1), (3, .int (x3 - x4)), (4, .int o7)] C 69 rfl dX1_partOf_66 4 rfl (ii_1 _) (Nat.le_of_ble_eq_true rfl) rfl ?_
      refine g_goto C 8 dX1_partOf_69 (by decide) ?_
      exact g_sub [1, 2, 3, 4, 0] rfl (ih (x3 - x4) o7 (x5 + 1) _ hq E2)
  obtain ⟨o9, ho10, hq⟩ := bindE hq
  refine g_sub [3, 4, 2, 1, 0] rfl (Q8 x1 FUEL x2 0 0 o9 ho10 (?_))
  refine g_iload C 74 rfl dX1_partOf_72 0 rfl ?_
  exact r_int hR hq dX1_partOf_74 rfl rfl
