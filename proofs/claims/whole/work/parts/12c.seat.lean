set_option maxHeartbeats 400000 in
set_option maxRecDepth 100000 in
theorem c_X4_canFollow (l : Launch) (Δ : gD) (a : Nat → Nat) (x1 : Int32) (x2 : Int32) (s : S4) {res : Int32} (hq : sem_X4_canFollow x1 x2 s = some res) : MR l yX4_canFollow cX4_canFollow 3 (some .boolean) Δ (cs4 a Δ s) [.ref (a 0), .int x1, .int x2] 0 0 (.int res) := by
  refine MR.of (by decide) (Nat.le_of_ble_eq_true rfl) ?_
  intro Γ H hl C hK hP hR
  subst hl
  show g Γ { frames := 0, cells := 0, slots := 0, locals := 0 } 3 H [] 0 0 0 [(0, .ref (a 0)), (1, .int x1), (2, .int x2)] []
  refine g_iload_n C 1 rfl dX4_canFollow_0 1 rfl ?_
  refine g_bipush 6 C 3 rfl dX4_canFollow_1 kb_6 ?_
  refine s_icmp_eq C 26 6 rfl dX4_canFollow_3 (by decide) hq (fun hq => ?_) (fun hq => ?_)
  · refine g_iconst 1 C 27 rfl dX4_canFollow_26 ki_1 ?_
    refine g_goto C 31 dX4_canFollow_27 (by decide) ?_
    exact r_int hR hq dX4_canFollow_31 rfl rfl
  refine g_aload_n C 7 rfl dX4_canFollow_6 0 rfl ?_
  refine g_get (v := .ref (a 2)) (fs := fl4 a s) C 10 rfl dX4_canFollow_7 hK hP la_X4 0 1 (Nat.le_of_ble_eq_true rfl) fl_X4_15 rfl rfl rfl rfl ?_
  refine g_iload_n C 11 rfl dX4_canFollow_10 1 rfl ?_
  refine s_iald C 12 rfl dX4_canFollow_11 hK hP 2 rfl hq (fun hq hi1 => ?_)
  refine g_aload_n C 13 rfl dX4_canFollow_12 0 rfl ?_
  refine g_get (v := .ref (a 2)) (fs := fl4 a s) C 16 rfl dX4_canFollow_13 hK hP la_X4 0 1 (Nat.le_of_ble_eq_true rfl) fl_X4_15 rfl rfl rfl rfl ?_
  refine g_iload_n C 17 rfl dX4_canFollow_16 2 rfl ?_
  refine s_iald C 18 rfl dX4_canFollow_17 hK hP 2 rfl hq (fun hq hi2 => ?_)
  refine g_iadd C 19 rfl dX4_canFollow_18 ?_
  refine g_aload_n C 20 rfl dX4_canFollow_19 0 rfl ?_
  refine g_get (v := .int (x4_most s)) (fs := fl4 a s) C 23 rfl dX4_canFollow_20 hK hP la_X4 0 2 (Nat.le_of_ble_eq_true rfl) fl_X4_18 rfl rfl rfl rfl ?_
  refine s_icmp_gt C 30 26 rfl dX4_canFollow_23 (by decide) hq (fun hq => ?_) (fun hq => ?_)
  · refine g_iconst 0 C 31 rfl dX4_canFollow_30 ki_0 ?_
    exact r_int hR hq dX4_canFollow_31 rfl rfl
  refine g_iconst 1 C 27 rfl dX4_canFollow_26 ki_1 ?_
  refine g_goto C 31 dX4_canFollow_27 (by decide) ?_
  exact r_int hR hq dX4_canFollow_31 rfl rfl
set_option maxHeartbeats 400000 in
set_option maxRecDepth 100000 in
theorem c_X4_ways (l : Launch) (Δ : gD) (a : Nat → Nat) (x1 : Int32) (x2 : Int32) (s : S4) {res : Int32} (hq : sem_X4_ways x1 x2 s = some res) : MR l yX4_ways cX4_ways 3 (some .int) Δ (cs4 a Δ s) [.ref (a 0), .int x1, .int x2] 1 22 (.int res) := by
  refine MR.of (by decide) (Nat.le_of_ble_eq_true rfl) ?_
  intro Γ H hl C hK hP hR
  subst hl
  show g Γ { frames := 1, cells := 0, slots := 0, locals := 22 } 3 H [] 0 0 0 [(0, .ref (a 0)), (1, .int x1), (2, .int x2)] []
  refine g_iload_n C 1 rfl dX4_ways_0 1 rfl ?_
  refine g_iconst 0 C 2 rfl dX4_ways_1 ki_0 ?_
  refine g_bipush 63 C 4 rfl dX4_ways_2 kb_63 ?_
  obtain ⟨r1, hz2, hq⟩ := bindE hq
  refine g_callRS (rest := []) C 7 rfl dX4_ways_4 (c_X8_within Γ.2.1 Δ  x1 0 63  hz2) mv_X8_within (Or.inr ⟨_, mn_X4_47⟩) hK rfl rfl ⟨Nat.le_of_ble_eq_true rfl, Nat.le_of_ble_eq_true rfl⟩ (Nat.le_of_ble_eq_true rfl) ⟨Nat.zero_le _, Nat.zero_le _⟩ ?_
  refine s_if_eq C 34 10 rfl dX4_ways_7 (by decide) hq (fun hq => ?_) (fun hq => ?_)
  · refine g_iconst 0 C 35 rfl dX4_ways_34 ki_0 ?_
    exact r_int hR hq dX4_ways_35 rfl rfl
  refine g_iload_n C 11 rfl dX4_ways_10 2 rfl ?_
  refine g_iconst 0 C 12 rfl dX4_ways_11 ki_0 ?_
  refine g_bipush 6 C 14 rfl dX4_ways_12 kb_6 ?_
  obtain ⟨r3, hz4, hq⟩ := bindE hq
  refine g_callRS (rest := []) C 17 rfl dX4_ways_14 (c_X8_within Γ.2.1 Δ  x2 0 6  hz4) mv_X8_within (Or.inr ⟨_, mn_X4_47⟩) hK rfl rfl ⟨Nat.le_of_ble_eq_true rfl, Nat.le_of_ble_eq_true rfl⟩ (Nat.le_of_ble_eq_true rfl) ⟨Nat.zero_le _, Nat.zero_le _⟩ ?_
  refine s_if_eq C 34 20 rfl dX4_ways_17 (by decide) hq (fun hq => ?_) (fun hq => ?_)
  · refine g_iconst 0 C 35 rfl dX4_ways_34 ki_0 ?_
    exact r_int hR hq dX4_ways_35 rfl rfl
  refine g_aload_n C 21 rfl dX4_ways_20 0 rfl ?_
  refine g_get (v := .ref (a 1)) (fs := fl4 a s) C 24 rfl dX4_ways_21 hK hP la_X4 0 0 (Nat.le_of_ble_eq_true rfl) fl_X4_11 rfl rfl rfl rfl ?_
  refine g_iload_n C 25 rfl dX4_ways_24 1 rfl ?_
  refine g_bipush 7 C 27 rfl dX4_ways_25 kb_7 ?_
  refine g_imul C 28 rfl dX4_ways_27 ?_
  refine g_iload_n C 29 rfl dX4_ways_28 2 rfl ?_
  refine g_iadd C 30 rfl dX4_ways_29 ?_
  refine s_iald C 31 rfl dX4_ways_30 hK hP 1 rfl hq (fun hq hi5 => ?_)
  refine g_goto C 35 dX4_ways_31 (by decide) ?_
  exact r_int hR hq dX4_ways_35 rfl rfl
set_option maxHeartbeats 400000 in
set_option maxRecDepth 100000 in
theorem c_X4_waysBy (l : Launch) (Δ : gD) (a : Nat → Nat) (x1 : Int32) (x2 : Int32) (x3 : Int32) (s : S4) {res : Int32} (hq : sem_X4_waysBy x1 x2 x3 s = some res) : MR l yX4_waysBy cX4_waysBy 5 (some .int) Δ (cs4 a Δ s) [.ref (a 0), .int x1, .int x2, .int x3] 2 44 (.int res) := by
  refine MR.of (by decide) (Nat.le_of_ble_eq_true rfl) ?_
  intro Γ H hl C hK hP hR
  subst hl
  have K14 : ∀ (x1 : Int32) (x2 : Int32) (x3 : Int32) (y0 : Int32), jn_X4_waysBy_14 x1 x2 x3 y0 s = some res → g Γ { frames := 2, cells := 0, slots := 0, locals := 44 } 5 H [] 0 0 14 [(0, .ref (a 0)), (1, .int x1), (2, .int x2), (3, .int x3)] [.int y0] := by
    intro x1 x2 x3 y0 hq
    refine g_istore [(4, .int y0), (0, .ref (a 0)), (1, .int x1), (2, .int x2), (3, .int x3)] C 16 rfl dX4_waysBy_14 (Nat.le_of_ble_eq_true rfl) rfl ?_
    refine g_iload C 18 rfl dX4_waysBy_16 0 rfl ?_
    refine s_if_eq C 45 21 rfl dX4_waysBy_18 (by decide) hq (fun hq => ?_) (fun hq => ?_)
    · refine g_iconst 0 C 46 rfl dX4_waysBy_45 ki_0 ?_
      exact r_int hR hq dX4_waysBy_46 rfl rfl
    refine g_aload_n C 22 rfl dX4_waysBy_21 1 rfl ?_
    refine g_iload_n C 23 rfl dX4_waysBy_22 3 rfl ?_
    refine g_iload_n C 24 rfl dX4_waysBy_23 4 rfl ?_
    obtain ⟨r1, hz2, hq⟩ := bindE hq
    refine g_callRV (rest := []) C 27 rfl dX4_waysBy_24 (c_X4_canFollow Γ.2.1 Δ a x2 x3 s hz2) mv_X4_canFollow ml_X4_41 hK hP rfl rfl rfl rfl rfl ⟨Nat.le_of_ble_eq_true rfl, Nat.le_of_ble_eq_true rfl⟩ (Nat.le_of_ble_eq_true rfl) ⟨Nat.zero_le _, Nat.zero_le _⟩ ?_
    refine s_if_eq C 45 30 rfl dX4_waysBy_27 (by decide) hq (fun hq => ?_) (fun hq => ?_)
    · refine g_iconst 0 C 46 rfl dX4_waysBy_45 ki_0 ?_
      exact r_int hR hq dX4_waysBy_46 rfl rfl
    refine g_aload_n C 31 rfl dX4_waysBy_30 1 rfl ?_
    refine g_iload_n C 32 rfl dX4_waysBy_31 2 rfl ?_
    refine g_iconst 1 C 33 rfl dX4_waysBy_32 ki_1 ?_
    refine g_iload_n C 34 rfl dX4_waysBy_33 4 rfl ?_
    refine g_ishl C 35 rfl dX4_waysBy_34 ?_
    refine g_iconst (-1) C 36 rfl dX4_waysBy_35 ki_m1 ?_
    refine g_ixor C 37 rfl dX4_waysBy_36 ?_
    refine g_iand C 38 rfl dX4_waysBy_37 ?_
    refine g_iload_n C 39 rfl dX4_waysBy_38 4 rfl ?_
    obtain ⟨r3, hz4, hq⟩ := bindE hq
    refine g_callRV (rest := []) C 42 rfl dX4_waysBy_39 (c_X4_ways Γ.2.1 Δ a (x1 &&& (((1 : Int32) <<< (x3 &&& 31)) ^^^ (-1))) x3 s hz4) mv_X4_ways ml_X4_45 hK hP rfl rfl rfl rfl rfl ⟨Nat.le_of_ble_eq_true rfl, Nat.le_of_ble_eq_true rfl⟩ (Nat.le_of_ble_eq_true rfl) ⟨Nat.zero_le _, Nat.zero_le _⟩ ?_
    refine g_goto C 46 dX4_waysBy_42 (by decide) ?_
    exact r_int hR hq dX4_waysBy_46 rfl rfl
  show g Γ { frames := 2, cells := 0, slots := 0, locals := 44 } 5 H [] 0 0 0 [(0, .ref (a 0)), (1, .int x1), (2, .int x2), (3, .int x3)] []
  refine g_iload_n C 1 rfl dX4_waysBy_0 1 rfl ?_
  refine g_iload_n C 2 rfl dX4_waysBy_1 3 rfl ?_
  refine g_ishr C 3 rfl dX4_waysBy_2 ?_
  refine g_iconst 1 C 4 rfl dX4_waysBy_3 ki_1 ?_
  refine g_iand C 5 rfl dX4_waysBy_4 ?_
  refine g_iconst 1 C 6 rfl dX4_waysBy_5 ki_1 ?_
  refine s_icmp_ne C 13 9 rfl dX4_waysBy_6 (by decide) hq (fun hq => ?_) (fun hq => ?_)
  · refine g_iconst 0 C 14 rfl dX4_waysBy_13 ki_0 ?_
    exact g_sub [0, 1, 2, 3] rfl (K14 x1 x2 x3 0 hq)
  refine g_iconst 1 C 10 rfl dX4_waysBy_9 ki_1 ?_
  refine g_goto C 14 dX4_waysBy_10 (by decide) ?_
  exact g_sub [0, 1, 2, 3] rfl (K14 x1 x2 x3 1 hq)
set_option maxHeartbeats 400000 in
set_option maxRecDepth 100000 in
theorem c_X4_waysOn (l : Launch) (Δ : gD) (a : Nat → Nat) (x1 : Int32) (x2 : Int32) (s : S4) {res : Int32} (hq : sem_X4_waysOn x1 x2 s = some res) : MR l yX4_waysOn cX4_waysOn 5 (some .int) Δ (cs4 a Δ s) [.ref (a 0), .int x1, .int x2] 3 68 (.int res) := by
  refine MR.of (by decide) (Nat.le_of_ble_eq_true rfl) ?_
  intro Γ H hl C hK hP hR
  subst hl
  show g Γ { frames := 3, cells := 0, slots := 0, locals := 68 } 5 H [] 0 0 0 [(0, .ref (a 0)), (1, .int x1), (2, .int x2)] []
  refine g_iconst 0 C 1 rfl dX4_waysOn_0 ki_0 ?_
  refine g_istore_n [(3, .int 0), (0, .ref (a 0)), (1, .int x1), (2, .int x2)] C 2 rfl dX4_waysOn_1 (Nat.le_of_ble_eq_true rfl) rfl ?_
  refine g_iconst 0 C 3 rfl dX4_waysOn_2 ki_0 ?_
  refine g_istore [(4, .int 0), (3, .int 0), (0, .ref (a 0)), (1, .int x1), (2, .int x2)] C 5 rfl dX4_waysOn_3 (Nat.le_of_ble_eq_true rfl) rfl ?_
  have Q5 : ∀ (x1 : Int32) (x2 : Int32), ∀ (n : Nat) (x3 : Int32) (x4 : Int32) (o : (Int32)) (hq : lp_X4_waysOn_5 x1 x2 s n x3 x4 = some o) (E2 : g Γ { frames := 3, cells := 0, slots := 0, locals := 68 } 5 H [] 0 0 29 [(3, .int o)] []), g Γ { frames := 3, cells := 0, slots := 0, locals := 68 } 5 H [] 0 0 5 [(0, .ref (a 0)), (1, .int x1), (2, .int x2), (3, .int x3), (4, .int x4)] [] := by
    intro x1 x2
    intro n
    induction n with
    | zero => intro x3 x4 o hq; exact nomatch (show (none : Option (Int32)) = some o from hq)
    | succ n ih =>
      intro x3 x4 o hq E2
      have hq : bd_X4_waysOn_5 x1 x2 s (lp_X4_waysOn_5 x1 x2 s n) x3 x4 = some o := hq
      refine g_iload C 7 rfl dX4_waysOn_5 4 rfl ?_
      refine g_bipush 6 C 9 rfl dX4_waysOn_7 kb_6 ?_
      refine s_icmp_ge C 29 12 rfl dX4_waysOn_9 (by decide) hq (fun hq => ?_) (fun hq => ?_)
      · cases hq
        exact g_sub [3] rfl (E2 )
      refine g_iload_n C 13 rfl dX4_waysOn_12 3 rfl ?_
      refine g_aload_n C 14 rfl dX4_waysOn_13 0 rfl ?_
      refine g_iload_n C 15 rfl dX4_waysOn_14 1 rfl ?_
      refine g_iload_n C 16 rfl dX4_waysOn_15 2 rfl ?_
      refine g_iload C 18 rfl dX4_waysOn_16 4 rfl ?_
      obtain ⟨r1, hz2, hq⟩ := bindE hq
      refine g_callRV (rest := [.int x3]) C 21 rfl dX4_waysOn_18 (c_X4_waysBy Γ.2.1 Δ a x1 x2 x4 s hz2) mv_X4_waysBy ml_X4_37 hK hP rfl rfl rfl rfl rfl ⟨Nat.le_of_ble_eq_true rfl, Nat.le_of_ble_eq_true rfl⟩ (Nat.le_of_ble_eq_true rfl) ⟨Nat.zero_le _, Nat.zero_le _⟩ ?_
      refine g_iadd C 22 rfl dX4_waysOn_21 ?_
      refine g_istore_n [(3, .int (x3 + r1)), (0, .ref (a 0)), (1, .int x1), (2, .int x2), (4, .int x4)] C 23 rfl dX4_waysOn_22 (Nat.le_of_ble_eq_true rfl) rfl ?_
      refine g_iinc (x4 + 1) [(4, .int (x4 + 1)), (3, .int (x3 + r1)), (0, .ref (a 0)), (1, .int x1), (2, .int x2)] C 26 rfl dX4_waysOn_23 4 rfl (ii_1 _) (Nat.le_of_ble_eq_true rfl) rfl ?_
      refine g_goto C 5 dX4_waysOn_26 (by decide) ?_
      exact g_sub [2, 3, 4, 1, 0] rfl (ih (x3 + r1) (x4 + 1) _ hq E2)
  obtain ⟨o3, ho4, hq⟩ := bindE hq
  refine g_sub [2, 3, 4, 1, 0] rfl (Q5 x1 x2 FUEL 0 0 o3 ho4 (?_))
  refine g_iload_n C 30 rfl dX4_waysOn_29 0 rfl ?_
  exact r_int hR hq dX4_waysOn_30 rfl rfl
set_option maxHeartbeats 400000 in
set_option maxRecDepth 100000 in
theorem c_X4_reckon (l : Launch) (Δ : gD) (a : Nat → Nat) (b : Nat → Nat) (x2 : Int32) (s : S4) (t : S6) {res : S4} (hq : sem_X4_reckon x2 s t = some res) : MW l yX4_reckon cX4_reckon 6 none Δ (cs4 a Δ s ++ cs6 b Δ t) [.ref (a 0), .ref (b 0), .int x2] 4 92 none (cs4 a Δ res ++ cs6 b Δ t) := by
  refine MW.of (by decide) (Nat.le_of_ble_eq_true rfl) ?_
  intro Γ A H hl C hK hP hD hS hA hR
  subst hl
  show g Γ { frames := 4, cells := 0, slots := 0, locals := 92 } 6 H [] 0 0 0 [(0, .ref (a 0)), (1, .ref (b 0)), (2, .int x2)] []
  refine g_aload_n C 1 rfl dX4_reckon_0 0 rfl ?_
  refine g_iload_n C 2 rfl dX4_reckon_1 2 rfl ?_
  refine g_put (fs := fl4 a s) (cs4 a Δ (p4_most s x2) ++ cs6 b Δ t) C 5 rfl dX4_reckon_2 hK hP hD hS la_X4 tyX4_ok nmX4 0 2 (Nat.le_of_ble_eq_true rfl) fl_X4_18 rfl rfl rfl rfl rfl rfl (Nat.le_of_ble_eq_true rfl) (sst_18 a b Δ s t x2) (fun H L hP hD hS => ?_)
  refine g_aload_n C 6 rfl dX4_reckon_5 0 rfl ?_
  refine g_aload_n C 7 rfl dX4_reckon_6 1 rfl ?_
  refine g_get (v := .int (x6_there t)) (fs := fl6 b t) C 10 rfl dX4_reckon_7 hK hP la_X6 3 2 (Nat.le_of_ble_eq_true rfl) fl_X4_25 rfl rfl rfl rfl ?_
  refine g_put (fs := fl4 a (p4_most s x2)) (cs4 a Δ (p4_everybody (p4_most s x2) (x6_there t)) ++ cs6 b Δ t) C 13 rfl dX4_reckon_10 hK hP hD hS la_X4 tyX4_ok nmX4 0 3 (Nat.le_of_ble_eq_true rfl) fl_X4_22 rfl rfl rfl rfl rfl rfl (Nat.le_of_ble_eq_true rfl) (sst_19 a b Δ (p4_most s x2) t (x6_there t)) (fun H L hP hD hS => ?_)
  refine g_iconst 0 C 14 rfl dX4_reckon_13 ki_0 ?_
  refine g_istore_n [(3, .int 0), (0, .ref (a 0)), (1, .ref (b 0)), (2, .int x2)] C 15 rfl dX4_reckon_14 (Nat.le_of_ble_eq_true rfl) rfl ?_
  have Q15 : ∀ (n : Nat) (x3 : Int32) (s : S4) (o : (S4)) (H : Heap) (L : List Loc) (hP : va_P Δ.1 classes (cs4 a Δ s ++ cs6 b Δ t) H) (hD : va_D A (cs4 a Δ s ++ cs6 b Δ t)) (hS : va_S A (sOf Γ).heap H L) (hq : lp_X4_reckon_15 t n x3 s = some o) (E2 : ∀ (H : Heap) (L : List Loc), va_P Δ.1 classes (cs4 a Δ o ++ cs6 b Δ t) H → va_D A (cs4 a Δ o ++ cs6 b Δ t) → va_S A (sOf Γ).heap H L → g Γ { frames := 4, cells := 0, slots := 0, locals := 92 } 6 H L 0 0 39 [(0, .ref (a 0))] []), g Γ { frames := 4, cells := 0, slots := 0, locals := 92 } 6 H L 0 0 15 [(0, .ref (a 0)), (1, .ref (b 0)), (3, .int x3)] [] := by
    intro n
    induction n with
    | zero => intro x3 s o H L hP hD hS hq; exact nomatch (show (none : Option (S4)) = some o from hq)
    | succ n ih =>
      intro x3 s o H L hP hD hS hq E2
      have hq : bd_X4_reckon_15 t (lp_X4_reckon_15 t n) x3 s = some o := hq
      refine g_iload_n C 16 rfl dX4_reckon_15 2 rfl ?_
      refine g_bipush 6 C 18 rfl dX4_reckon_16 kb_6 ?_
      refine s_icmp_ge C 39 21 rfl dX4_reckon_18 (by decide) hq (fun hq => ?_) (fun hq => ?_)
      · cases hq
        exact g_sub [0] rfl (E2 _ _ hP hD hS)
      refine g_aload_n C 22 rfl dX4_reckon_21 0 rfl ?_
      refine g_get (v := .ref (a 2)) (fs := fl4 a s) C 25 rfl dX4_reckon_22 hK hP la_X4 0 1 (Nat.le_of_ble_eq_true rfl) fl_X4_15 rfl rfl rfl rfl ?_
      refine g_iload_n C 26 rfl dX4_reckon_25 2 rfl ?_
      refine g_aload_n C 27 rfl dX4_reckon_26 1 rfl ?_
      refine g_iload_n C 28 rfl dX4_reckon_27 2 rfl ?_
      refine g_iconst 0 C 29 rfl dX4_reckon_28 ki_0 ?_
      obtain ⟨r1, hz2, hq⟩ := bindE hq
      refine g_callRV (rest := [.int x3, .ref (a 2)]) C 32 rfl dX4_reckon_29 (c_X6_get Γ.2.1 Δ b x3 0 t hz2) mv_X6_get ml_X4_30 hK (sct_21 a b Δ s t hP) rfl rfl rfl rfl rfl ⟨Nat.le_of_ble_eq_true rfl, Nat.le_of_ble_eq_true rfl⟩ (Nat.le_of_ble_eq_true rfl) ⟨Nat.zero_le _, Nat.zero_le _⟩ ?_
      refine s_iast (cs4 a Δ (p4_tempers s (upd (x4_tempers s) (x3 : Int32).toNatClampNeg r1)) ++ cs6 b Δ t) C 33 rfl dX4_reckon_32 hK hP hD hS 2 rfl hq (sst_20 a b Δ s t (upd (x4_tempers s) (x3 : Int32).toNatClampNeg r1)) (fun hq hi3 H L hP hD hS => ?_)
      refine g_iinc (x3 + 1) [(3, .int (x3 + 1)), (0, .ref (a 0)), (1, .ref (b 0))] C 36 rfl dX4_reckon_33 2 rfl (ii_1 _) (Nat.le_of_ble_eq_true rfl) rfl ?_
      refine g_goto C 15 dX4_reckon_36 (by decide) ?_
      exact g_sub [1, 2, 0] rfl (ih (x3 + 1) (p4_tempers s (upd (x4_tempers s) (x3 : Int32).toNatClampNeg r1)) _ _ _ hP hD hS hq E2)
  obtain ⟨o4, ho5, hq⟩ := bindE hq
  refine g_sub [1, 2, 0] rfl (Q15  FUEL 0 (p4_everybody (p4_most s x2) (x6_there t)) o4 _ _ hP hD hS ho5 (fun H L hP hD hS => ?_))
  refine g_iconst 0 C 40 rfl dX4_reckon_39 ki_0 ?_
  refine g_istore_n [(3, .int 0), (0, .ref (a 0))] C 41 rfl dX4_reckon_40 (Nat.le_of_ble_eq_true rfl) rfl ?_
  have Q41 : ∀ (n : Nat) (x3 : Int32) (s : S4) (o : (S4)) (H : Heap) (L : List Loc) (hP : va_P Δ.1 classes (cs4 a Δ s ++ cs6 b Δ t) H) (hD : va_D A (cs4 a Δ s ++ cs6 b Δ t)) (hS : va_S A (sOf Γ).heap H L) (hq : lp_X4_reckon_41 t n x3 s = some o) (E2 : ∀ (H : Heap) (L : List Loc), va_P Δ.1 classes (cs4 a Δ o ++ cs6 b Δ t) H → va_D A (cs4 a Δ o ++ cs6 b Δ t) → va_S A (sOf Γ).heap H L → g Γ { frames := 4, cells := 0, slots := 0, locals := 92 } 6 H L 0 0 119 [] []), g Γ { frames := 4, cells := 0, slots := 0, locals := 92 } 6 H L 0 0 41 [(0, .ref (a 0)), (3, .int x3)] [] := by
    intro n
    induction n with
    | zero => intro x3 s o H L hP hD hS hq; exact nomatch (show (none : Option (S4)) = some o from hq)
    | succ n ih =>
      intro x3 s o H L hP hD hS hq E2
      have hq : bd_X4_reckon_41 t (lp_X4_reckon_41 t n) x3 s = some o := hq
      have K63 : ∀ (x3 : Int32) (y0 : Int32) (s : S4) (H : Heap) (L : List Loc) (hP : va_P Δ.1 classes (cs4 a Δ s ++ cs6 b Δ t) H) (hD : va_D A (cs4 a Δ s ++ cs6 b Δ t)) (hS : va_S A (sOf Γ).heap H L), jn_X4_reckon_63 (lp_X4_reckon_41 t n) x3 y0 s t = some o → g Γ { frames := 4, cells := 0, slots := 0, locals := 92 } 6 H L 0 0 63 [(0, .ref (a 0)), (3, .int x3)] [.int y0] := by
        intro x3 y0 s H L hP hD hS hq
        refine g_istore [(4, .int y0), (0, .ref (a 0)), (3, .int x3)] C 65 rfl dX4_reckon_63 (Nat.le_of_ble_eq_true rfl) rfl ?_
        refine g_iconst 0 C 66 rfl dX4_reckon_65 ki_0 ?_
        refine g_istore [(5, .int 0), (4, .int y0), (0, .ref (a 0)), (3, .int x3)] C 68 rfl dX4_reckon_66 (Nat.le_of_ble_eq_true rfl) rfl ?_
        have Q68 : ∀ (x3 : Int32) (x4 : Int32), ∀ (n : Nat) (x5 : Int32) (s : S4) (o : (S4)) (H : Heap) (L : List Loc) (hP : va_P Δ.1 classes (cs4 a Δ s ++ cs6 b Δ t) H) (hD : va_D A (cs4 a Δ s ++ cs6 b Δ t)) (hS : va_S A (sOf Γ).heap H L) (hq : lp_X4_reckon_68 x3 x4 t n x5 s = some o) (E2 : ∀ (H : Heap) (L : List Loc), va_P Δ.1 classes (cs4 a Δ o ++ cs6 b Δ t) H → va_D A (cs4 a Δ o ++ cs6 b Δ t) → va_S A (sOf Γ).heap H L → g Γ { frames := 4, cells := 0, slots := 0, locals := 92 } 6 H L 0 0 113 [(0, .ref (a 0)), (3, .int x3)] []), g Γ { frames := 4, cells := 0, slots := 0, locals := 92 } 6 H L 0 0 68 [(0, .ref (a 0)), (3, .int x3), (4, .int x4), (5, .int x5)] [] := by
          intro x3 x4
          intro n
          induction n with
          | zero => intro x5 s o H L hP hD hS hq; exact nomatch (show (none : Option (S4)) = some o from hq)
          | succ n ih =>
            intro x5 s o H L hP hD hS hq E2
            have hq : bd_X4_reckon_68 x3 x4 t (lp_X4_reckon_68 x3 x4 t n) x5 s = some o := hq
            refine g_iload C 70 rfl dX4_reckon_68 2 rfl ?_
            refine s_if_eq C 113 73 rfl dX4_reckon_70 (by decide) hq (fun hq => ?_) (fun hq => ?_)
            · cases hq
              exact g_sub [0, 1] rfl (E2 _ _ hP hD hS)
            refine g_iload C 75 rfl dX4_reckon_73 3 rfl ?_
            refine g_bipush 7 C 77 rfl dX4_reckon_75 kb_7 ?_
            refine s_icmp_ge C 113 80 rfl dX4_reckon_77 (by decide) hq (fun hq => ?_) (fun hq => ?_)
            · cases hq
              exact g_sub [0, 1] rfl (E2 _ _ hP hD hS)
            refine g_aload_n C 81 rfl dX4_reckon_80 0 rfl ?_
            refine g_get (v := .ref (a 1)) (fs := fl4 a s) C 84 rfl dX4_reckon_81 hK hP la_X4 0 0 (Nat.le_of_ble_eq_true rfl) fl_X4_11 rfl rfl rfl rfl ?_
            refine g_iload_n C 85 rfl dX4_reckon_84 1 rfl ?_
            refine g_bipush 7 C 87 rfl dX4_reckon_85 kb_7 ?_
            refine g_imul C 88 rfl dX4_reckon_87 ?_
            refine g_iload C 90 rfl dX4_reckon_88 3 rfl ?_
            refine g_iadd C 91 rfl dX4_reckon_90 ?_
            refine g_iload_n C 92 rfl dX4_reckon_91 1 rfl ?_
            refine s_if_ne C 99 95 rfl dX4_reckon_92 (by decide) hq (fun hq => ?_) (fun hq => ?_)
            rotate_left
            · refine g_iconst 1 C 96 rfl dX4_reckon_95 ki_1 ?_
              refine g_goto C 106 dX4_reckon_96 (by decide) ?_
              refine s_iast (cs4 a Δ (p4_ways s (upd (x4_ways s) (((x3 * 7) + x5) : Int32).toNatClampNeg 1)) ++ cs6 b Δ t) C 107 rfl dX4_reckon_106 hK hP hD hS 1 rfl hq (sst_22 a b Δ s t (upd (x4_ways s) (((x3 * 7) + x5) : Int32).toNatClampNeg 1)) (fun hq hi9 H L hP hD hS => ?_)
              refine g_iinc (x5 + 1) [(5, .int (x5 + 1)), (0, .ref (a 0)), (3, .int x3), (4, .int x4)] C 110 rfl dX4_reckon_107 3 rfl (ii_1 _) (Nat.le_of_ble_eq_true rfl) rfl ?_
              refine g_goto C 68 dX4_reckon_110 (by decide) ?_
              exact g_sub [1, 2, 3, 0] rfl (ih (x5 + 1) (p4_ways s (upd (x4_ways s) (((x3 * 7) + x5) : Int32).toNatClampNeg 1)) _ _ _ hP hD hS hq E2)
            refine g_aload_n C 100 rfl dX4_reckon_99 0 rfl ?_
            refine g_iload_n C 101 rfl dX4_reckon_100 1 rfl ?_
            refine g_iload C 103 rfl dX4_reckon_101 3 rfl ?_
            obtain ⟨r6, hz7, hq⟩ := bindE hq
            refine g_callRV (rest := [.int ((x3 * 7) + x5), .ref (a 1)]) C 106 rfl dX4_reckon_103 (c_X4_waysOn Γ.2.1 Δ a x3 x5 s hz7) mv_X4_waysOn ml_X4_34 hK (sct_23 a b Δ s t hP) rfl rfl rfl rfl rfl ⟨Nat.le_of_ble_eq_true rfl, Nat.le_of_ble_eq_true rfl⟩ (Nat.le_of_ble_eq_true rfl) ⟨Nat.zero_le _, Nat.zero_le _⟩ ?_
            refine s_iast (cs4 a Δ (p4_ways s (upd (x4_ways s) (((x3 * 7) + x5) : Int32).toNatClampNeg r6)) ++ cs6 b Δ t) C 107 rfl dX4_reckon_106 hK hP hD hS 1 rfl hq (sst_22 a b Δ s t (upd (x4_ways s) (((x3 * 7) + x5) : Int32).toNatClampNeg r6)) (fun hq hi8 H L hP hD hS => ?_)
            refine g_iinc (x5 + 1) [(5, .int (x5 + 1)), (0, .ref (a 0)), (3, .int x3), (4, .int x4)] C 110 rfl dX4_reckon_107 3 rfl (ii_1 _) (Nat.le_of_ble_eq_true rfl) rfl ?_
            refine g_goto C 68 dX4_reckon_110 (by decide) ?_
            exact g_sub [1, 2, 3, 0] rfl (ih (x5 + 1) (p4_ways s (upd (x4_ways s) (((x3 * 7) + x5) : Int32).toNatClampNeg r6)) _ _ _ hP hD hS hq E2)
        obtain ⟨o10, ho11, hq⟩ := bindE hq
        refine g_sub [2, 3, 1, 0] rfl (Q68 x3 y0 FUEL 0 s o10 _ _ hP hD hS ho11 (fun H L hP hD hS => ?_))
        refine g_iinc (x3 + 1) [(3, .int (x3 + 1)), (0, .ref (a 0))] C 116 rfl dX4_reckon_113 1 rfl (ii_1 _) (Nat.le_of_ble_eq_true rfl) rfl ?_
        refine g_goto C 41 dX4_reckon_116 (by decide) ?_
        exact g_sub [1, 0] rfl (ih (x3 + 1) o10 _ _ _ hP hD hS hq E2)
      refine g_iload_n C 42 rfl dX4_reckon_41 1 rfl ?_
      refine g_bipush 64 C 44 rfl dX4_reckon_42 kb_64 ?_
      refine s_icmp_ge C 119 47 rfl dX4_reckon_44 (by decide) hq (fun hq => ?_) (fun hq => ?_)
      · cases hq
        exact g_sub [] rfl (E2 _ _ hP hD hS)
      refine g_iload_n C 48 rfl dX4_reckon_47 1 rfl ?_
      refine g_aload_n C 49 rfl dX4_reckon_48 0 rfl ?_
      refine g_get (v := .int (x4_everybody s)) (fs := fl4 a s) C 52 rfl dX4_reckon_49 hK hP la_X4 0 3 (Nat.le_of_ble_eq_true rfl) fl_X4_22 rfl rfl rfl rfl ?_
      refine g_iconst (-1) C 53 rfl dX4_reckon_52 ki_m1 ?_
      refine g_ixor C 54 rfl dX4_reckon_53 ?_
      refine g_iand C 55 rfl dX4_reckon_54 ?_
      refine s_if_ne C 62 58 rfl dX4_reckon_55 (by decide) hq (fun hq => ?_) (fun hq => ?_)
      · refine g_iconst 0 C 63 rfl dX4_reckon_62 ki_0 ?_
        exact g_sub [0, 1] rfl (K63 x3 0 s _ _ hP hD hS hq)
      refine g_iconst 1 C 59 rfl dX4_reckon_58 ki_1 ?_
      refine g_goto C 63 dX4_reckon_59 (by decide) ?_
      exact g_sub [0, 1] rfl (K63 x3 1 s _ _ hP hD hS hq)
  obtain ⟨o12, ho13, hq⟩ := bindE hq
  refine g_sub [1, 0] rfl (Q41  FUEL 0 o4 o12 _ _ hP hD hS ho13 (fun H L hP hD hS => ?_))
  exact w_void (ws := fun s => cs4 a Δ s ++ cs6 b Δ t) hR hq hP hS dX4_reckon_119 rfl
set_option maxHeartbeats 400000 in
set_option maxRecDepth 100000 in
theorem c_X4_rows (l : Launch) (Δ : gD) (a : Nat → Nat)  (s : S4) {res : Int32} (hq : sem_X4_rows  s = some res) : MR l yX4_rows cX4_rows 1 (some .int) Δ (cs4 a Δ s) [.ref (a 0)] 2 44 (.int res) := by
  refine MR.of (by decide) (Nat.le_of_ble_eq_true rfl) ?_
  intro Γ H hl C hK hP hR
  subst hl
  show g Γ { frames := 2, cells := 0, slots := 0, locals := 44 } 1 H [] 0 0 0 [(0, .ref (a 0))] []
  refine g_aload_n C 1 rfl dX4_rows_0 0 rfl ?_
  refine g_aload_n C 2 rfl dX4_rows_1 0 rfl ?_
  refine g_get (v := .int (x4_everybody s)) (fs := fl4 a s) C 5 rfl dX4_rows_2 hK hP la_X4 0 3 (Nat.le_of_ble_eq_true rfl) fl_X4_22 rfl rfl rfl rfl ?_
  refine g_bipush 6 C 7 rfl dX4_rows_5 kb_6 ?_
  obtain ⟨r1, hz2, hq⟩ := bindE hq
  refine g_callRV (rest := []) C 10 rfl dX4_rows_7 (c_X4_ways Γ.2.1 Δ a (x4_everybody s) 6 s hz2) mv_X4_ways ml_X4_45 hK hP rfl rfl rfl rfl rfl ⟨Nat.le_of_ble_eq_true rfl, Nat.le_of_ble_eq_true rfl⟩ (Nat.le_of_ble_eq_true rfl) ⟨Nat.zero_le _, Nat.zero_le _⟩ ?_
  exact r_int hR hq dX4_rows_10 rfl rfl
set_option maxHeartbeats 400000 in
set_option maxRecDepth 100000 in
theorem c_X4_firstRow (l : Launch) (Δ : gD) (a : Nat → Nat)  (s : S4) {res : Int32} (hq : sem_X4_firstRow  s = some res) : MR l yX4_firstRow cX4_firstRow 6 (some .int) Δ (cs4 a Δ s) [.ref (a 0)] 3 68 (.int res) := by
  refine MR.of (by decide) (Nat.le_of_ble_eq_true rfl) ?_
  intro Γ H hl C hK hP hR
  subst hl
  show g Γ { frames := 3, cells := 0, slots := 0, locals := 68 } 6 H [] 0 0 0 [(0, .ref (a 0))] []
  refine g_aload_n C 1 rfl dX4_firstRow_0 0 rfl ?_
  obtain ⟨r1, hz2, hq⟩ := bindE hq
  refine g_callRV (rest := []) C 4 rfl dX4_firstRow_1 (c_X4_rows Γ.2.1 Δ a  s hz2) mv_X4_rows ml_X4_51 hK hP rfl rfl rfl rfl rfl ⟨Nat.le_of_ble_eq_true rfl, Nat.le_of_ble_eq_true rfl⟩ (Nat.le_of_ble_eq_true rfl) ⟨Nat.zero_le _, Nat.zero_le _⟩ ?_
  refine s_if_ne C 10 7 rfl dX4_firstRow_4 (by decide) hq (fun hq => ?_) (fun hq => ?_)
  rotate_left
  · refine g_bipush (-6) C 9 rfl dX4_firstRow_7 kb_m6 ?_
    exact r_int hR hq dX4_firstRow_9 rfl rfl
  refine g_iconst 0 C 11 rfl dX4_firstRow_10 ki_0 ?_
  refine g_istore_n [(1, .int 0), (0, .ref (a 0))] C 12 rfl dX4_firstRow_11 (Nat.le_of_ble_eq_true rfl) rfl ?_
  refine g_aload_n C 13 rfl dX4_firstRow_12 1 rfl ?_
  refine g_get (v := .int (x4_everybody s)) (fs := fl4 a s) C 16 rfl dX4_firstRow_13 hK hP la_X4 0 3 (Nat.le_of_ble_eq_true rfl) fl_X4_22 rfl rfl rfl rfl ?_
  refine g_istore_n [(2, .int (x4_everybody s)), (1, .int 0), (0, .ref (a 0))] C 17 rfl dX4_firstRow_16 (Nat.le_of_ble_eq_true rfl) rfl ?_
  refine g_bipush 6 C 19 rfl dX4_firstRow_17 kb_6 ?_
  refine g_istore_n [(3, .int 6), (2, .int (x4_everybody s)), (1, .int 0), (0, .ref (a 0))] C 20 rfl dX4_firstRow_19 (Nat.le_of_ble_eq_true rfl) rfl ?_
  refine g_iconst 0 C 21 rfl dX4_firstRow_20 ki_0 ?_
  refine g_istore [(4, .int 0), (3, .int 6), (2, .int (x4_everybody s)), (1, .int 0), (0, .ref (a 0))] C 23 rfl dX4_firstRow_21 (Nat.le_of_ble_eq_true rfl) rfl ?_
  have Q23 : ∀ (n : Nat) (x1 : Int32) (x2 : Int32) (x3 : Int32) (x4 : Int32) (o : (Int32)) (hq : lp_X4_firstRow_23 s n x1 x2 x3 x4 = some o) (E2 : g Γ { frames := 3, cells := 0, slots := 0, locals := 68 } 6 H [] 0 0 86 [(1, .int o)] []), g Γ { frames := 3, cells := 0, slots := 0, locals := 68 } 6 H [] 0 0 23 [(0, .ref (a 0)), (1, .int x1), (2, .int x2), (3, .int x3), (4, .int x4)] [] := by
    intro n
    induction n with
    | zero => intro x1 x2 x3 x4 o hq; exact nomatch (show (none : Option (Int32)) = some o from hq)
    | succ n ih =>
      intro x1 x2 x3 x4 o hq E2
      have hq : bd_X4_firstRow_23 s (lp_X4_firstRow_23 s n) x1 x2 x3 x4 = some o := hq
      have K60 : ∀ (x1 : Int32) (x2 : Int32) (x4 : Int32) (x5 : Int32), jn_X4_firstRow_60 (lp_X4_firstRow_23 s n) x1 x2 x4 x5 s = some o → g Γ { frames := 3, cells := 0, slots := 0, locals := 68 } 6 H [] 0 0 60 [(0, .ref (a 0)), (1, .int x1), (2, .int x2), (4, .int x4), (5, .int x5)] [] := by
        intro x1 x2 x4 x5 hq
        refine g_bipush 10 C 62 rfl dX4_firstRow_60 kb_10 ?_
        refine g_iload_n C 63 rfl dX4_firstRow_62 1 rfl ?_
        refine g_imul C 64 rfl dX4_firstRow_63 ?_
        refine g_iload C 66 rfl dX4_firstRow_64 4 rfl ?_
        refine g_iadd C 67 rfl dX4_firstRow_66 ?_
        refine g_istore_n [(1, .int ((10 * x1) + x5)), (0, .ref (a 0)), (2, .int x2), (4, .int x4), (5, .int x5)] C 68 rfl dX4_firstRow_67 (Nat.le_of_ble_eq_true rfl) rfl ?_
        refine g_iload_n C 69 rfl dX4_firstRow_68 2 rfl ?_
        refine g_iconst 1 C 70 rfl dX4_firstRow_69 ki_1 ?_
        refine g_iload C 72 rfl dX4_firstRow_70 4 rfl ?_
        refine g_ishl C 73 rfl dX4_firstRow_72 ?_
        refine g_iconst (-1) C 74 rfl dX4_firstRow_73 ki_m1 ?_
        refine g_ixor C 75 rfl dX4_firstRow_74 ?_
        refine g_iand C 76 rfl dX4_firstRow_75 ?_
        refine g_istore_n [(2, .int (x2 &&& (((1 : Int32) <<< (x5 &&& 31)) ^^^ (-1)))), (1, .int ((10 * x1) + x5)), (0, .ref (a 0)), (4, .int x4), (5, .int x5)] C 77 rfl dX4_firstRow_76 (Nat.le_of_ble_eq_true rfl) rfl ?_
        refine g_iload C 79 rfl dX4_firstRow_77 4 rfl ?_
        refine g_istore_n [(3, .int x5), (2, .int (x2 &&& (((1 : Int32) <<< (x5 &&& 31)) ^^^ (-1)))), (1, .int ((10 * x1) + x5)), (0, .ref (a 0)), (4, .int x4), (5, .int x5)] C 80 rfl dX4_firstRow_79 (Nat.le_of_ble_eq_true rfl) rfl ?_
        refine g_iinc (x4 + 1) [(4, .int (x4 + 1)), (3, .int x5), (2, .int (x2 &&& (((1 : Int32) <<< (x5 &&& 31)) ^^^ (-1)))), (1, .int ((10 * x1) + x5)), (0, .ref (a 0)), (5, .int x5)] C 83 rfl dX4_firstRow_80 4 rfl (ii_1 _) (Nat.le_of_ble_eq_true rfl) rfl ?_
        refine g_goto C 23 dX4_firstRow_83 (by decide) ?_
        exact g_sub [4, 3, 2, 1, 0] rfl (ih ((10 * x1) + x5) (x2 &&& (((1 : Int32) <<< (x5 &&& 31)) ^^^ (-1))) x5 (x4 + 1) _ hq E2)
      refine g_iload C 25 rfl dX4_firstRow_23 4 rfl ?_
      refine g_bipush 6 C 27 rfl dX4_firstRow_25 kb_6 ?_
      refine s_icmp_ge C 86 30 rfl dX4_firstRow_27 (by decide) hq (fun hq => ?_) (fun hq => ?_)
      · cases hq
        exact g_sub [1] rfl (E2 )
      refine g_iload_n C 31 rfl dX4_firstRow_30 2 rfl ?_
      refine s_if_eq C 86 34 rfl dX4_firstRow_31 (by decide) hq (fun hq => ?_) (fun hq => ?_)
      · cases hq
        exact g_sub [1] rfl (E2 )
      refine g_iconst 0 C 35 rfl dX4_firstRow_34 ki_0 ?_
      refine g_istore [(5, .int 0), (0, .ref (a 0)), (1, .int x1), (2, .int x2), (3, .int x3), (4, .int x4)] C 37 rfl dX4_firstRow_35 (Nat.le_of_ble_eq_true rfl) rfl ?_
      have Q37 : ∀ (x1 : Int32) (x2 : Int32) (x3 : Int32) (x4 : Int32), ∀ (n : Nat) (x5 : Int32) (o : (Int32)) (hq : lp_X4_firstRow_37 x1 x2 x3 x4 s n x5 = some o) (E2 : g Γ { frames := 3, cells := 0, slots := 0, locals := 68 } 6 H [] 0 0 60 [(0, .ref (a 0)), (1, .int x1), (2, .int x2), (4, .int x4), (5, .int o)] []), g Γ { frames := 3, cells := 0, slots := 0, locals := 68 } 6 H [] 0 0 37 [(0, .ref (a 0)), (1, .int x1), (2, .int x2), (3, .int x3), (4, .int x4), (5, .int x5)] [] := by
        intro x1 x2 x3 x4
        intro n
        induction n with
        | zero => intro x5 o hq; exact nomatch (show (none : Option (Int32)) = some o from hq)
        | succ n ih =>
          intro x5 o hq E2
          have hq : bd_X4_firstRow_37 x1 x2 x3 x4 s (lp_X4_firstRow_37 x1 x2 x3 x4 s n) x5 = some o := hq
          refine g_iload C 39 rfl dX4_firstRow_37 5 rfl ?_
          refine g_iconst 5 C 40 rfl dX4_firstRow_39 ki_5 ?_
          refine s_icmp_ge C 60 43 rfl dX4_firstRow_40 (by decide) hq (fun hq => ?_) (fun hq => ?_)
          · cases hq
            exact g_sub [0, 1, 2, 4, 5] rfl (E2 )
          refine g_aload_n C 44 rfl dX4_firstRow_43 0 rfl ?_
          refine g_iload_n C 45 rfl dX4_firstRow_44 2 rfl ?_
          refine g_iload_n C 46 rfl dX4_firstRow_45 3 rfl ?_
          refine g_iload C 48 rfl dX4_firstRow_46 5 rfl ?_
          obtain ⟨r3, hz4, hq⟩ := bindE hq
          refine g_callRV (rest := []) C 51 rfl dX4_firstRow_48 (c_X4_waysBy Γ.2.1 Δ a x2 x3 x5 s hz4) mv_X4_waysBy ml_X4_37 hK hP rfl rfl rfl rfl rfl ⟨Nat.le_of_ble_eq_true rfl, Nat.le_of_ble_eq_true rfl⟩ (Nat.le_of_ble_eq_true rfl) ⟨Nat.zero_le _, Nat.zero_le _⟩ ?_
          refine s_if_ne C 60 54 rfl dX4_firstRow_51 (by decide) hq (fun hq => ?_) (fun hq => ?_)
          · cases hq
            exact g_sub [0, 1, 2, 4, 5] rfl (E2 )
          refine g_iinc (x5 + 1) [(5, .int (x5 + 1)), (0, .ref (a 0)), (1, .int x1), (2, .int x2), (3, .int x3), (4, .int x4)] C 57 rfl dX4_firstRow_54 5 rfl (ii_1 _) (Nat.le_of_ble_eq_true rfl) rfl ?_
          refine g_goto C 37 dX4_firstRow_57 (by decide) ?_
          exact g_sub [1, 2, 3, 4, 5, 0] rfl (ih (x5 + 1) _ hq E2)
      obtain ⟨o5, ho6, hq⟩ := bindE hq
      refine g_sub [1, 2, 3, 4, 5, 0] rfl (Q37 x1 x2 x3 x4 FUEL 0 o5 ho6 (?_))
      exact g_sub [0, 1, 2, 3, 4] rfl (K60 x1 x2 x4 o5 hq)
  obtain ⟨o7, ho8, hq⟩ := bindE hq
  refine g_sub [4, 3, 2, 1, 0] rfl (Q23  FUEL 0 (x4_everybody s) 6 0 o7 ho8 (?_))
  refine g_iload_n C 87 rfl dX4_firstRow_86 0 rfl ?_
  exact r_int hR hq dX4_firstRow_87 rfl rfl
