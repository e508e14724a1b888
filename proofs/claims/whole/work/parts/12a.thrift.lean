set_option maxHeartbeats 400000 in
set_option maxRecDepth 100000 in
theorem c_X5_fewestStamps (l : Launch) (Δ : gD) (a : Nat → Nat) (x1 : Int32) (x2 : Int32) (x3 : Int32) (s : S5) {res : Int32} (hq : sem_X5_fewestStamps x1 x2 x3 s = some res) : MR l yX5_fewestStamps cX5_fewestStamps 4 (some .int) Δ (cs5 a Δ s) [.ref (a 0), .int x1, .int x2, .int x3] 1 22 (.int res) := by
  refine MR.of (by decide) (Nat.le_of_ble_eq_true rfl) ?_
  intro Γ H hl C hK hP hR
  subst hl
  show g Γ { frames := 1, cells := 0, slots := 0, locals := 22 } 4 H [] 0 0 0 [(0, .ref (a 0)), (1, .int x1), (2, .int x2), (3, .int x3)] []
  refine g_iload_n C 1 rfl dX5_fewestStamps_0 1 rfl ?_
  refine g_iconst 0 C 2 rfl dX5_fewestStamps_1 ki_0 ?_
  refine g_bipush 6 C 4 rfl dX5_fewestStamps_2 kb_6 ?_
  obtain ⟨r1, hz2, hq⟩ := bindE hq
  refine g_callRS (rest := []) C 7 rfl dX5_fewestStamps_4 (c_X8_within Γ.2.1 Δ  x1 0 6  hz2) mv_X8_within (Or.inr ⟨_, mn_X5_58⟩) hK rfl rfl ⟨Nat.le_of_ble_eq_true rfl, Nat.le_of_ble_eq_true rfl⟩ (Nat.le_of_ble_eq_true rfl) ⟨Nat.zero_le _, Nat.zero_le _⟩ ?_
  refine s_if_eq C 30 10 rfl dX5_fewestStamps_7 (by decide) hq (fun hq => ?_) (fun hq => ?_)
  · refine g_sipush 1000 C 33 rfl dX5_fewestStamps_30 ks_1000 ?_
    exact r_int hR hq dX5_fewestStamps_33 rfl rfl
  refine g_iload_n C 11 rfl dX5_fewestStamps_10 2 rfl ?_
  refine g_iconst 0 C 12 rfl dX5_fewestStamps_11 ki_0 ?_
  refine g_bipush 20 C 14 rfl dX5_fewestStamps_12 kb_20 ?_
  obtain ⟨r3, hz4, hq⟩ := bindE hq
  refine g_callRS (rest := []) C 17 rfl dX5_fewestStamps_14 (c_X8_within Γ.2.1 Δ  x2 0 20  hz4) mv_X8_within (Or.inr ⟨_, mn_X5_58⟩) hK rfl rfl ⟨Nat.le_of_ble_eq_true rfl, Nat.le_of_ble_eq_true rfl⟩ (Nat.le_of_ble_eq_true rfl) ⟨Nat.zero_le _, Nat.zero_le _⟩ ?_
  refine s_if_eq C 30 20 rfl dX5_fewestStamps_17 (by decide) hq (fun hq => ?_) (fun hq => ?_)
  · refine g_sipush 1000 C 33 rfl dX5_fewestStamps_30 ks_1000 ?_
    exact r_int hR hq dX5_fewestStamps_33 rfl rfl
  refine g_iload_n C 21 rfl dX5_fewestStamps_20 3 rfl ?_
  refine g_iconst 0 C 22 rfl dX5_fewestStamps_21 ki_0 ?_
  refine g_bipush 6 C 24 rfl dX5_fewestStamps_22 kb_6 ?_
  obtain ⟨r5, hz6, hq⟩ := bindE hq
  refine g_callRS (rest := []) C 27 rfl dX5_fewestStamps_24 (c_X8_within Γ.2.1 Δ  x3 0 6  hz6) mv_X8_within (Or.inr ⟨_, mn_X5_58⟩) hK rfl rfl ⟨Nat.le_of_ble_eq_true rfl, Nat.le_of_ble_eq_true rfl⟩ (Nat.le_of_ble_eq_true rfl) ⟨Nat.zero_le _, Nat.zero_le _⟩ ?_
  refine s_if_ne C 34 30 rfl dX5_fewestStamps_27 (by decide) hq (fun hq => ?_) (fun hq => ?_)
  rotate_left
  · refine g_sipush 1000 C 33 rfl dX5_fewestStamps_30 ks_1000 ?_
    exact r_int hR hq dX5_fewestStamps_33 rfl rfl
  refine g_aload_n C 35 rfl dX5_fewestStamps_34 0 rfl ?_
  refine g_get (v := .ref (a 1)) (fs := fl5 a s) C 38 rfl dX5_fewestStamps_35 hK hP la_X5 0 0 (Nat.le_of_ble_eq_true rfl) fl_X5_11 rfl rfl rfl rfl ?_
  refine g_iload_n C 39 rfl dX5_fewestStamps_38 1 rfl ?_
  refine g_bipush 21 C 41 rfl dX5_fewestStamps_39 kb_21 ?_
  refine g_imul C 42 rfl dX5_fewestStamps_41 ?_
  refine g_iload_n C 43 rfl dX5_fewestStamps_42 2 rfl ?_
  refine g_iadd C 44 rfl dX5_fewestStamps_43 ?_
  refine g_bipush 7 C 46 rfl dX5_fewestStamps_44 kb_7 ?_
  refine g_imul C 47 rfl dX5_fewestStamps_46 ?_
  refine g_iload_n C 48 rfl dX5_fewestStamps_47 3 rfl ?_
  refine g_iadd C 49 rfl dX5_fewestStamps_48 ?_
  refine s_iald C 50 rfl dX5_fewestStamps_49 hK hP 1 rfl hq (fun hq hi7 => ?_)
  exact r_int hR hq dX5_fewestStamps_50 rfl rfl
set_option maxHeartbeats 400000 in
set_option maxRecDepth 100000 in
theorem c_X5_fewestSlips (l : Launch) (Δ : gD) (a : Nat → Nat) (x1 : Int32) (x2 : Int32) (s : S5) {res : Int32} (hq : sem_X5_fewestSlips x1 x2 s = some res) : MR l yX5_fewestSlips cX5_fewestSlips 4 (some .int) Δ (cs5 a Δ s) [.ref (a 0), .int x1, .int x2] 2 45 (.int res) := by
  refine MR.of (by decide) (Nat.le_of_ble_eq_true rfl) ?_
  intro Γ H hl C hK hP hR
  subst hl
  show g Γ { frames := 2, cells := 0, slots := 0, locals := 45 } 4 H [] 0 0 0 [(0, .ref (a 0)), (1, .int x1), (2, .int x2)] []
  refine g_iconst 0 C 1 rfl dX5_fewestSlips_0 ki_0 ?_
  refine g_istore_n [(3, .int 0), (0, .ref (a 0)), (1, .int x1), (2, .int x2)] C 2 rfl dX5_fewestSlips_1 (Nat.le_of_ble_eq_true rfl) rfl ?_
  have Q2 : ∀ (x1 : Int32) (x2 : Int32), ∀ (n : Nat) (x3 : Int32) (o : ((Int32) ⊕ (Unit))) (hq : lp_X5_fewestSlips_2 x1 x2 s n x3 = some o) (E1 : ∀ r, o = .inl r → gRet Γ { frames := 2, cells := 0, slots := 0, locals := 45 } 4 cX5_fewestSlips (some .int) H (.int r)) (E2 : ∀ x, o = .inr x → g Γ { frames := 2, cells := 0, slots := 0, locals := 45 } 4 H [] 0 0 27 [] []), g Γ { frames := 2, cells := 0, slots := 0, locals := 45 } 4 H [] 0 0 2 [(0, .ref (a 0)), (1, .int x1), (2, .int x2), (3, .int x3)] [] := by
    intro x1 x2
    intro n
    induction n with
    | zero => intro x3 o hq; exact nomatch (show (none : Option ((Int32) ⊕ (Unit))) = some o from hq)
    | succ n ih =>
      intro x3 o hq E1 E2
      have hq : bd_X5_fewestSlips_2 x1 x2 s (lp_X5_fewestSlips_2 x1 x2 s n) x3 = some o := hq
      refine g_iload_n C 3 rfl dX5_fewestSlips_2 3 rfl ?_
      refine g_bipush 6 C 5 rfl dX5_fewestSlips_3 kb_6 ?_
      refine s_icmp_ge C 27 8 rfl dX5_fewestSlips_5 (by decide) hq (fun hq => ?_) (fun hq => ?_)
      · cases hq
        exact g_sub [] rfl (E2 _ rfl )
      refine g_aload_n C 9 rfl dX5_fewestSlips_8 0 rfl ?_
      refine g_iconst 0 C 10 rfl dX5_fewestSlips_9 ki_0 ?_
      refine g_iload_n C 11 rfl dX5_fewestSlips_10 1 rfl ?_
      refine g_iload_n C 12 rfl dX5_fewestSlips_11 3 rfl ?_
      obtain ⟨r1, hz2, hq⟩ := bindE hq
      refine g_callRV (rest := []) C 15 rfl dX5_fewestSlips_12 (c_X5_fewestStamps Γ.2.1 Δ a 0 x1 x3 s hz2) mv_X5_fewestStamps ml_X5_48 hK hP rfl rfl rfl rfl rfl ⟨Nat.le_of_ble_eq_true rfl, Nat.le_of_ble_eq_true rfl⟩ (Nat.le_of_ble_eq_true rfl) ⟨Nat.zero_le _, Nat.zero_le _⟩ ?_
      refine g_iload_n C 16 rfl dX5_fewestSlips_15 2 rfl ?_
      refine s_icmp_gt C 21 19 rfl dX5_fewestSlips_16 (by decide) hq (fun hq => ?_) (fun hq => ?_)
      · refine g_iinc (x3 + 1) [(3, .int (x3 + 1)), (0, .ref (a 0)), (1, .int x1), (2, .int x2)] C 24 rfl dX5_fewestSlips_21 3 rfl (ii_1 _) (Nat.le_of_ble_eq_true rfl) rfl ?_
        refine g_goto C 2 dX5_fewestSlips_24 (by decide) ?_
        exact g_sub [1, 2, 3, 0] rfl (ih (x3 + 1) _ hq E1 E2)
      refine g_iload_n C 20 rfl dX5_fewestSlips_19 3 rfl ?_
      cases hq
      exact r_int (E1 _ rfl) rfl dX5_fewestSlips_20 rfl rfl
  obtain ⟨o3, ho4, hq⟩ := bindE hq
  refine g_sub [1, 2, 3, 0] rfl (Q2 x1 x2 FUEL 0 o3 ho4 (fun r er => ?_) (fun xo3 er => ?_))
  · rw [er] at hq
    cases hq
    exact hR
  rw [er] at hq
  clear er
  refine g_bipush 6 C 29 rfl dX5_fewestSlips_27 kb_6 ?_
  exact r_int hR hq dX5_fewestSlips_29 rfl rfl
set_option maxHeartbeats 400000 in
set_option maxRecDepth 100000 in
theorem c_X5_slips (l : Launch) (Δ : gD) (a : Nat → Nat) (x1 : Int32) (x2 : Int32) (s : S5) {res : Int32} (hq : sem_X5_slips x1 x2 s = some res) : MR l yX5_slips cX5_slips 3 (some .boolean) Δ (cs5 a Δ s) [.ref (a 0), .int x1, .int x2] 0 0 (.int res) := by
  refine MR.of (by decide) (Nat.le_of_ble_eq_true rfl) ?_
  intro Γ H hl C hK hP hR
  subst hl
  show g Γ { frames := 0, cells := 0, slots := 0, locals := 0 } 3 H [] 0 0 0 [(0, .ref (a 0)), (1, .int x1), (2, .int x2)] []
  refine g_iload_n C 1 rfl dX5_slips_0 2 rfl ?_
  refine g_aload_n C 2 rfl dX5_slips_1 0 rfl ?_
  refine g_get (v := .ref (a 2)) (fs := fl5 a s) C 5 rfl dX5_slips_2 hK hP la_X5 0 1 (Nat.le_of_ble_eq_true rfl) fl_X5_15 rfl rfl rfl rfl ?_
  refine g_iload_n C 6 rfl dX5_slips_5 1 rfl ?_
  refine s_iald C 7 rfl dX5_slips_6 hK hP 2 rfl hq (fun hq hi1 => ?_)
  refine g_iadd C 8 rfl dX5_slips_7 ?_
  refine g_aload_n C 9 rfl dX5_slips_8 0 rfl ?_
  refine g_get (v := .int (x5_limit s)) (fs := fl5 a s) C 12 rfl dX5_slips_9 hK hP la_X5 0 2 (Nat.le_of_ble_eq_true rfl) fl_X5_18 rfl rfl rfl rfl ?_
  refine s_icmp_le C 19 15 rfl dX5_slips_12 (by decide) hq (fun hq => ?_) (fun hq => ?_)
  · refine g_iconst 0 C 20 rfl dX5_slips_19 ki_0 ?_
    exact r_int hR hq dX5_slips_20 rfl rfl
  refine g_iconst 1 C 16 rfl dX5_slips_15 ki_1 ?_
  refine g_goto C 20 dX5_slips_16 (by decide) ?_
  exact r_int hR hq dX5_slips_20 rfl rfl
set_option maxHeartbeats 400000 in
set_option maxRecDepth 100000 in
theorem c_X5_afterMishap (l : Launch) (Δ : gD) (a : Nat → Nat) (x1 : Int32) (x2 : Int32) (s : S5) {res : Int32} (hq : sem_X5_afterMishap x1 x2 s = some res) : MR l yX5_afterMishap cX5_afterMishap 3 (some .int) Δ (cs5 a Δ s) [.ref (a 0), .int x1, .int x2] 1 22 (.int res) := by
  refine MR.of (by decide) (Nat.le_of_ble_eq_true rfl) ?_
  intro Γ H hl C hK hP hR
  subst hl
  show g Γ { frames := 1, cells := 0, slots := 0, locals := 22 } 3 H [] 0 0 0 [(0, .ref (a 0)), (1, .int x1), (2, .int x2)] []
  refine g_aload_n C 1 rfl dX5_afterMishap_0 0 rfl ?_
  refine g_iload_n C 2 rfl dX5_afterMishap_1 1 rfl ?_
  refine g_iload_n C 3 rfl dX5_afterMishap_2 2 rfl ?_
  obtain ⟨r1, hz2, hq⟩ := bindE hq
  refine g_callRV (rest := []) C 6 rfl dX5_afterMishap_3 (c_X5_slips Γ.2.1 Δ a x1 x2 s hz2) mv_X5_slips ml_X5_51 hK hP rfl rfl rfl rfl rfl ⟨Nat.le_of_ble_eq_true rfl, Nat.le_of_ble_eq_true rfl⟩ (Nat.le_of_ble_eq_true rfl) ⟨Nat.zero_le _, Nat.zero_le _⟩ ?_
  refine s_if_eq C 13 9 rfl dX5_afterMishap_6 (by decide) hq (fun hq => ?_) (fun hq => ?_)
  rotate_left
  · refine g_iconst 0 C 10 rfl dX5_afterMishap_9 ki_0 ?_
    refine g_goto C 21 dX5_afterMishap_10 (by decide) ?_
    exact r_int hR hq dX5_afterMishap_21 rfl rfl
  refine g_iload_n C 14 rfl dX5_afterMishap_13 2 rfl ?_
  refine g_aload_n C 15 rfl dX5_afterMishap_14 0 rfl ?_
  refine g_get (v := .ref (a 2)) (fs := fl5 a s) C 18 rfl dX5_afterMishap_15 hK hP la_X5 0 1 (Nat.le_of_ble_eq_true rfl) fl_X5_15 rfl rfl rfl rfl ?_
  refine g_iload_n C 19 rfl dX5_afterMishap_18 1 rfl ?_
  refine s_iald C 20 rfl dX5_afterMishap_19 hK hP 2 rfl hq (fun hq hi3 => ?_)
  refine g_iadd C 21 rfl dX5_afterMishap_20 ?_
  exact r_int hR hq dX5_afterMishap_21 rfl rfl
set_option maxHeartbeats 400000 in
set_option maxRecDepth 100000 in
theorem c_X5_slipsLeft (l : Launch) (Δ : gD) (a : Nat → Nat) (x1 : Int32) (x2 : Int32) (x3 : Int32) (s : S5) {res : Int32} (hq : sem_X5_slipsLeft x1 x2 x3 s = some res) : MR l yX5_slipsLeft cX5_slipsLeft 4 (some .int) Δ (cs5 a Δ s) [.ref (a 0), .int x1, .int x2, .int x3] 1 22 (.int res) := by
  refine MR.of (by decide) (Nat.le_of_ble_eq_true rfl) ?_
  intro Γ H hl C hK hP hR
  subst hl
  show g Γ { frames := 1, cells := 0, slots := 0, locals := 22 } 4 H [] 0 0 0 [(0, .ref (a 0)), (1, .int x1), (2, .int x2), (3, .int x3)] []
  refine g_aload_n C 1 rfl dX5_slipsLeft_0 0 rfl ?_
  refine g_iload_n C 2 rfl dX5_slipsLeft_1 1 rfl ?_
  refine g_iload_n C 3 rfl dX5_slipsLeft_2 2 rfl ?_
  obtain ⟨r1, hz2, hq⟩ := bindE hq
  refine g_callRV (rest := []) C 6 rfl dX5_slipsLeft_3 (c_X5_slips Γ.2.1 Δ a x1 x2 s hz2) mv_X5_slips ml_X5_51 hK hP rfl rfl rfl rfl rfl ⟨Nat.le_of_ble_eq_true rfl, Nat.le_of_ble_eq_true rfl⟩ (Nat.le_of_ble_eq_true rfl) ⟨Nat.zero_le _, Nat.zero_le _⟩ ?_
  refine s_if_eq C 15 9 rfl dX5_slipsLeft_6 (by decide) hq (fun hq => ?_) (fun hq => ?_)
  · refine g_iload_n C 16 rfl dX5_slipsLeft_15 3 rfl ?_
    exact r_int hR hq dX5_slipsLeft_16 rfl rfl
  refine g_iload_n C 10 rfl dX5_slipsLeft_9 3 rfl ?_
  refine g_iconst 1 C 11 rfl dX5_slipsLeft_10 ki_1 ?_
  refine g_isub C 12 rfl dX5_slipsLeft_11 ?_
  refine g_goto C 16 dX5_slipsLeft_12 (by decide) ?_
  exact r_int hR hq dX5_slipsLeft_16 rfl rfl
set_option maxHeartbeats 400000 in
set_option maxRecDepth 100000 in
theorem c_X5_afterHour (l : Launch) (Δ : gD)  (x0 : Int32) (x1 : Int32)  {res : Int32} (hq : sem_X5_afterHour x0 x1  = some res) : MR l yX5_afterHour cX5_afterHour 2 (some .int) Δ ([]) [.int x0, .int x1] 1 24 (.int res) := by
  refine MR.of (by decide) (Nat.le_of_ble_eq_true rfl) ?_
  intro Γ H hl C hK hP hR
  subst hl
  show g Γ { frames := 1, cells := 0, slots := 0, locals := 24 } 2 H [] 0 0 0 [(0, .int x0), (1, .int x1)] []
  refine g_iconst 0 C 1 rfl dX5_afterHour_0 ki_0 ?_
  refine g_iload_n C 2 rfl dX5_afterHour_1 0 rfl ?_
  refine g_iload_n C 3 rfl dX5_afterHour_2 1 rfl ?_
  refine g_isub C 4 rfl dX5_afterHour_3 ?_
  refine g_iconst 1 C 5 rfl dX5_afterHour_4 ki_1 ?_
  refine g_isub C 6 rfl dX5_afterHour_5 ?_
  refine g_mmax C 9 rfl dX5_afterHour_6 ml_X5_55 mth_max ⟨Nat.le_of_ble_eq_true rfl, Nat.le_of_ble_eq_true rfl⟩ ⟨Nat.zero_le _, Nat.zero_le _⟩ ?_
  exact r_int hR hq dX5_afterHour_9 rfl rfl
set_option maxHeartbeats 400000 in
set_option maxRecDepth 100000 in
theorem c_X5_cheapest (l : Launch) (Δ : gD) (a : Nat → Nat) (x1 : Int32) (x2 : Int32) (x3 : Int32) (s : S5) {res : Int32} (hq : sem_X5_cheapest x1 x2 x3 s = some res) : MR l yX5_cheapest cX5_cheapest 8 (some .int) Δ (cs5 a Δ s) [.ref (a 0), .int x1, .int x2, .int x3] 2 45 (.int res) := by
  refine MR.of (by decide) (Nat.le_of_ble_eq_true rfl) ?_
  intro Γ H hl C hK hP hR
  subst hl
  show g Γ { frames := 2, cells := 0, slots := 0, locals := 45 } 8 H [] 0 0 0 [(0, .ref (a 0)), (1, .int x1), (2, .int x2), (3, .int x3)] []
  refine g_iload_n C 1 rfl dX5_cheapest_0 3 rfl ?_
  refine s_if_ge C 8 4 rfl dX5_cheapest_1 (by decide) hq (fun hq => ?_) (fun hq => ?_)
  rotate_left
  · refine g_sipush 1000 C 7 rfl dX5_cheapest_4 ks_1000 ?_
    exact r_int hR hq dX5_cheapest_7 rfl rfl
  refine g_bipush 9 C 10 rfl dX5_cheapest_8 kb_9 ?_
  refine g_iload_n C 11 rfl dX5_cheapest_10 2 rfl ?_
  refine g_mmin C 14 rfl dX5_cheapest_11 ml_X5_22 mth_min ⟨Nat.le_of_ble_eq_true rfl, Nat.le_of_ble_eq_true rfl⟩ ⟨Nat.zero_le _, Nat.zero_le _⟩ ?_
  refine g_istore [(4, .int (jmin 9 x2)), (0, .ref (a 0)), (1, .int x1), (2, .int x2), (3, .int x3)] C 16 rfl dX5_cheapest_14 (Nat.le_of_ble_eq_true rfl) rfl ?_
  refine g_sipush 1000 C 19 rfl dX5_cheapest_16 ks_1000 ?_
  refine g_istore [(5, .int 1000), (4, .int (jmin 9 x2)), (0, .ref (a 0)), (1, .int x1), (2, .int x2), (3, .int x3)] C 21 rfl dX5_cheapest_19 (Nat.le_of_ble_eq_true rfl) rfl ?_
  refine g_iconst 0 C 22 rfl dX5_cheapest_21 ki_0 ?_
  refine g_istore [(6, .int 0), (5, .int 1000), (4, .int (jmin 9 x2)), (0, .ref (a 0)), (1, .int x1), (2, .int x2), (3, .int x3)] C 24 rfl dX5_cheapest_22 (Nat.le_of_ble_eq_true rfl) rfl ?_
  have Q24 : ∀ (x1 : Int32) (x2 : Int32) (x3 : Int32) (x4 : Int32), ∀ (n : Nat) (x5 : Int32) (x6 : Int32) (o : (Int32)) (hq : lp_X5_cheapest_24 x1 x2 x3 x4 s n x5 x6 = some o) (E2 : g Γ { frames := 2, cells := 0, slots := 0, locals := 45 } 8 H [] 0 0 63 [(5, .int o)] []), g Γ { frames := 2, cells := 0, slots := 0, locals := 45 } 8 H [] 0 0 24 [(0, .ref (a 0)), (1, .int x1), (2, .int x2), (3, .int x3), (4, .int x4), (5, .int x5), (6, .int x6)] [] := by
    intro x1 x2 x3 x4
    intro n
    induction n with
    | zero => intro x5 x6 o hq; exact nomatch (show (none : Option (Int32)) = some o from hq)
    | succ n ih =>
      intro x5 x6 o hq E2
      have hq : bd_X5_cheapest_24 x1 x2 x3 x4 s (lp_X5_cheapest_24 x1 x2 x3 x4 s n) x5 x6 = some o := hq
      refine g_iload C 26 rfl dX5_cheapest_24 6 rfl ?_
      refine g_iload C 28 rfl dX5_cheapest_26 4 rfl ?_
      refine s_icmp_gt C 63 31 rfl dX5_cheapest_28 (by decide) hq (fun hq => ?_) (fun hq => ?_)
      · cases hq
        exact g_sub [5] rfl (E2 )
      refine g_aload_n C 32 rfl dX5_cheapest_31 0 rfl ?_
      refine g_iload_n C 33 rfl dX5_cheapest_32 1 rfl ?_
      refine g_iload_n C 34 rfl dX5_cheapest_33 2 rfl ?_
      refine g_iload C 36 rfl dX5_cheapest_34 6 rfl ?_
      obtain ⟨r1, hz2, hq⟩ := bindE hq
      refine g_callRS (rest := [.int x1, .ref (a 0)]) C 39 rfl dX5_cheapest_36 (c_X5_afterHour Γ.2.1 Δ  x2 x6  hz2) mv_X5_afterHour (Or.inl ml_X5_45) hK rfl rfl ⟨Nat.le_of_ble_eq_true rfl, Nat.le_of_ble_eq_true rfl⟩ (Nat.le_of_ble_eq_true rfl) ⟨Nat.zero_le _, Nat.zero_le _⟩ ?_
      refine g_iload_n C 40 rfl dX5_cheapest_39 3 rfl ?_
      obtain ⟨r3, hz4, hq⟩ := bindE hq
      refine g_callRV (rest := []) C 43 rfl dX5_cheapest_40 (c_X5_fewestStamps Γ.2.1 Δ a x1 r1 x3 s hz4) mv_X5_fewestStamps ml_X5_48 hK hP rfl rfl rfl rfl rfl ⟨Nat.le_of_ble_eq_true rfl, Nat.le_of_ble_eq_true rfl⟩ (Nat.le_of_ble_eq_true rfl) ⟨Nat.zero_le _, Nat.zero_le _⟩ ?_
      refine g_istore [(7, .int r3), (0, .ref (a 0)), (1, .int x1), (2, .int x2), (3, .int x3), (4, .int x4), (5, .int x5), (6, .int x6)] C 45 rfl dX5_cheapest_43 (Nat.le_of_ble_eq_true rfl) rfl ?_
      refine g_iload C 47 rfl dX5_cheapest_45 6 rfl ?_
      refine g_iload C 49 rfl dX5_cheapest_47 7 rfl ?_
      refine g_iload C 51 rfl dX5_cheapest_49 0 rfl ?_
      refine g_iadd C 52 rfl dX5_cheapest_51 ?_
      refine g_mmin C 55 rfl dX5_cheapest_52 ml_X5_22 mth_min ⟨Nat.le_of_ble_eq_true rfl, Nat.le_of_ble_eq_true rfl⟩ ⟨Nat.zero_le _, Nat.zero_le _⟩ ?_
      refine g_istore [(5, .int (jmin x5 (x6 + r3))), (7, .int r3), (0, .ref (a 0)), (1, .int x1), (2, .int x2), (3, .int x3), (4, .int x4), (6, .int x6)] C 57 rfl dX5_cheapest_55 (Nat.le_of_ble_eq_true rfl) rfl ?_
      refine g_iinc (x6 + 1) [(6, .int (x6 + 1)), (5, .int (jmin x5 (x6 + r3))), (7, .int r3), (0, .ref (a 0)), (1, .int x1), (2, .int x2), (3, .int x3), (4, .int x4)] C 60 rfl dX5_cheapest_57 7 rfl (ii_1 _) (Nat.le_of_ble_eq_true rfl) rfl ?_
      refine g_goto C 24 dX5_cheapest_60 (by decide) ?_
      exact g_sub [3, 4, 5, 6, 7, 1, 0] rfl (ih (jmin x5 (x6 + r3)) (x6 + 1) _ hq E2)
  obtain ⟨o5, ho6, hq⟩ := bindE hq
  refine g_sub [3, 4, 5, 6, 2, 1, 0] rfl (Q24 x1 x2 x3 (jmin 9 x2) FUEL 1000 0 o5 ho6 (?_))
  refine g_iload C 65 rfl dX5_cheapest_63 0 rfl ?_
  exact r_int hR hq dX5_cheapest_65 rfl rfl
set_option maxHeartbeats 400000 in
set_option maxRecDepth 100000 in
theorem c_X5_reckonFrom (l : Launch) (Δ : gD) (a : Nat → Nat) (x1 : Int32) (x2 : Int32) (s : S5) {res : S5} (hq : sem_X5_reckonFrom x1 x2 s = some res) : MW l yX5_reckonFrom cX5_reckonFrom 6 none Δ (cs5 a Δ s) [.ref (a 0), .int x1, .int x2] 3 72 none (cs5 a Δ res) := by
  refine MW.of (by decide) (Nat.le_of_ble_eq_true rfl) ?_
  intro Γ A H hl C hK hP hD hS hA hR
  subst hl
  show g Γ { frames := 3, cells := 0, slots := 0, locals := 72 } 6 H [] 0 0 0 [(0, .ref (a 0)), (1, .int x1), (2, .int x2)] []
  refine g_aload_n C 1 rfl dX5_reckonFrom_0 0 rfl ?_
  refine g_iload_n C 2 rfl dX5_reckonFrom_1 1 rfl ?_
  refine g_iload_n C 3 rfl dX5_reckonFrom_2 2 rfl ?_
  obtain ⟨r1, hz2, hq⟩ := bindE hq
  refine g_callRV (rest := []) C 6 rfl dX5_reckonFrom_3 (c_X5_afterMishap Γ.2.1 Δ a x1 x2 s hz2) mv_X5_afterMishap ml_X5_35 hK hP rfl rfl rfl rfl rfl ⟨Nat.le_of_ble_eq_true rfl, Nat.le_of_ble_eq_true rfl⟩ (Nat.le_of_ble_eq_true rfl) ⟨Nat.zero_le _, Nat.zero_le _⟩ ?_
  refine g_istore_n [(3, .int r1), (0, .ref (a 0)), (1, .int x1), (2, .int x2)] C 7 rfl dX5_reckonFrom_6 (Nat.le_of_ble_eq_true rfl) rfl ?_
  refine g_iload_n C 8 rfl dX5_reckonFrom_7 2 rfl ?_
  refine g_bipush 21 C 10 rfl dX5_reckonFrom_8 kb_21 ?_
  refine g_imul C 11 rfl dX5_reckonFrom_10 ?_
  refine g_iload_n C 12 rfl dX5_reckonFrom_11 3 rfl ?_
  refine g_iadd C 13 rfl dX5_reckonFrom_12 ?_
  refine g_bipush 7 C 15 rfl dX5_reckonFrom_13 kb_7 ?_
  refine g_imul C 16 rfl dX5_reckonFrom_15 ?_
  refine g_istore [(4, .int (((x1 * 21) + x2) * 7)), (3, .int r1), (0, .ref (a 0)), (1, .int x1), (2, .int x2)] C 18 rfl dX5_reckonFrom_16 (Nat.le_of_ble_eq_true rfl) rfl ?_
  refine g_iconst 0 C 19 rfl dX5_reckonFrom_18 ki_0 ?_
  refine g_istore [(5, .int 0), (4, .int (((x1 * 21) + x2) * 7)), (3, .int r1), (0, .ref (a 0)), (1, .int x1), (2, .int x2)] C 21 rfl dX5_reckonFrom_19 (Nat.le_of_ble_eq_true rfl) rfl ?_
  have Q21 : ∀ (x1 : Int32) (x2 : Int32) (x3 : Int32) (x4 : Int32), ∀ (n : Nat) (x5 : Int32) (s : S5) (o : (S5)) (H : Heap) (L : List Loc) (hP : va_P Δ.1 classes (cs5 a Δ s) H) (hD : va_D A (cs5 a Δ s)) (hS : va_S A (sOf Γ).heap H L) (hq : lp_X5_reckonFrom_21 x1 x2 x3 x4 n x5 s = some o) (E2 : ∀ (H : Heap) (L : List Loc), va_P Δ.1 classes (cs5 a Δ o) H → va_D A (cs5 a Δ o) → va_S A (sOf Γ).heap H L → g Γ { frames := 3, cells := 0, slots := 0, locals := 72 } 6 H L 0 0 60 [] []), g Γ { frames := 3, cells := 0, slots := 0, locals := 72 } 6 H L 0 0 21 [(0, .ref (a 0)), (1, .int x1), (2, .int x2), (3, .int x3), (4, .int x4), (5, .int x5)] [] := by
    intro x1 x2 x3 x4
    intro n
    induction n with
    | zero => intro x5 s o H L hP hD hS hq; exact nomatch (show (none : Option (S5)) = some o from hq)
    | succ n ih =>
      intro x5 s o H L hP hD hS hq E2
      have hq : bd_X5_reckonFrom_21 x1 x2 x3 x4 (lp_X5_reckonFrom_21 x1 x2 x3 x4 n) x5 s = some o := hq
      refine g_iload C 23 rfl dX5_reckonFrom_21 5 rfl ?_
      refine g_bipush 7 C 25 rfl dX5_reckonFrom_23 kb_7 ?_
      refine s_icmp_ge C 60 28 rfl dX5_reckonFrom_25 (by decide) hq (fun hq => ?_) (fun hq => ?_)
      · cases hq
        exact g_sub [] rfl (E2 _ _ hP hD hS)
      refine g_aload_n C 29 rfl dX5_reckonFrom_28 0 rfl ?_
      refine g_get (v := .ref (a 1)) (fs := fl5 a s) C 32 rfl dX5_reckonFrom_29 hK hP la_X5 0 0 (Nat.le_of_ble_eq_true rfl) fl_X5_11 rfl rfl rfl rfl ?_
      refine g_iload C 34 rfl dX5_reckonFrom_32 4 rfl ?_
      refine g_iload C 36 rfl dX5_reckonFrom_34 5 rfl ?_
      refine g_iadd C 37 rfl dX5_reckonFrom_36 ?_
      refine g_aload_n C 38 rfl dX5_reckonFrom_37 0 rfl ?_
      refine g_iload_n C 39 rfl dX5_reckonFrom_38 1 rfl ?_
      refine g_iconst 1 C 40 rfl dX5_reckonFrom_39 ki_1 ?_
      refine g_iadd C 41 rfl dX5_reckonFrom_40 ?_
      refine g_iload_n C 42 rfl dX5_reckonFrom_41 3 rfl ?_
      refine g_aload_n C 43 rfl dX5_reckonFrom_42 0 rfl ?_
      refine g_iload_n C 44 rfl dX5_reckonFrom_43 1 rfl ?_
      refine g_iload_n C 45 rfl dX5_reckonFrom_44 2 rfl ?_
      refine g_iload C 47 rfl dX5_reckonFrom_45 5 rfl ?_
      obtain ⟨r3, hz4, hq⟩ := bindE hq
      refine g_callRV (rest := [.int x3, .int (x1 + 1), .ref (a 0), .int (x4 + x5), .ref (a 1)]) C 50 rfl dX5_reckonFrom_47 (c_X5_slipsLeft Γ.2.1 Δ a x1 x2 x5 s hz4) mv_X5_slipsLeft ml_X5_38 hK hP rfl rfl rfl rfl rfl ⟨Nat.le_of_ble_eq_true rfl, Nat.le_of_ble_eq_true rfl⟩ (Nat.le_of_ble_eq_true rfl) ⟨Nat.zero_le _, Nat.zero_le _⟩ ?_
      obtain ⟨r5, hz6, hq⟩ := bindE hq
      refine g_callRV (rest := [.int (x4 + x5), .ref (a 1)]) C 53 rfl dX5_reckonFrom_50 (c_X5_cheapest Γ.2.1 Δ a (x1 + 1) x3 r3 s hz6) mv_X5_cheapest ml_X5_42 hK hP rfl rfl rfl rfl rfl ⟨Nat.le_of_ble_eq_true rfl, Nat.le_of_ble_eq_true rfl⟩ (Nat.le_of_ble_eq_true rfl) ⟨Nat.zero_le _, Nat.zero_le _⟩ ?_
      refine s_iast (cs5 a Δ (p5_table s (upd (x5_table s) ((x4 + x5) : Int32).toNatClampNeg r5))) C 54 rfl dX5_reckonFrom_53 hK hP hD hS 1 rfl hq (sst_24 a Δ s (upd (x5_table s) ((x4 + x5) : Int32).toNatClampNeg r5)) (fun hq hi7 H L hP hD hS => ?_)
      refine g_iinc (x5 + 1) [(5, .int (x5 + 1)), (0, .ref (a 0)), (1, .int x1), (2, .int x2), (3, .int x3), (4, .int x4)] C 57 rfl dX5_reckonFrom_54 5 rfl (ii_1 _) (Nat.le_of_ble_eq_true rfl) rfl ?_
      refine g_goto C 21 dX5_reckonFrom_57 (by decide) ?_
      exact g_sub [1, 2, 3, 4, 5, 0] rfl (ih (x5 + 1) (p5_table s (upd (x5_table s) ((x4 + x5) : Int32).toNatClampNeg r5)) _ _ _ hP hD hS hq E2)
  obtain ⟨o8, ho9, hq⟩ := bindE hq
  refine g_sub [3, 4, 5, 2, 1, 0] rfl (Q21 x1 x2 r1 (((x1 * 21) + x2) * 7) FUEL 0 s o8 _ _ hP hD hS ho9 (fun H L hP hD hS => ?_))
  exact w_void (ws := fun s => cs5 a Δ s) hR hq hP hS dX5_reckonFrom_60 rfl
set_option maxHeartbeats 400000 in
set_option maxRecDepth 100000 in
theorem c_X5_reckon (l : Launch) (Δ : gD) (a : Nat → Nat) (x1 : Int32) (x2 : Int32) (s : S5) {res : S5} (hq : sem_X5_reckon x1 x2 s = some res) : MW l yX5_reckon cX5_reckon 5 none Δ (cs5 a Δ s) [.ref (a 0), .int x1, .int x2] 4 97 none (cs5 a Δ res) := by
  refine MW.of (by decide) (Nat.le_of_ble_eq_true rfl) ?_
  intro Γ A H hl C hK hP hD hS hA hR
  subst hl
  show g Γ { frames := 4, cells := 0, slots := 0, locals := 97 } 5 H [] 0 0 0 [(0, .ref (a 0)), (1, .int x1), (2, .int x2)] []
  refine g_aload_n C 1 rfl dX5_reckon_0 0 rfl ?_
  refine g_iload_n C 2 rfl dX5_reckon_1 2 rfl ?_
  refine g_bipush 20 C 4 rfl dX5_reckon_2 kb_20 ?_
  refine g_mmin C 7 rfl dX5_reckon_4 ml_X5_22 mth_min ⟨Nat.le_of_ble_eq_true rfl, Nat.le_of_ble_eq_true rfl⟩ ⟨Nat.zero_le _, Nat.zero_le _⟩ ?_
  refine g_put (fs := fl5 a s) (cs5 a Δ (p5_limit s (jmin x2 20))) C 10 rfl dX5_reckon_7 hK hP hD hS la_X5 tyX5_ok nmX5 0 2 (Nat.le_of_ble_eq_true rfl) fl_X5_18 rfl rfl rfl rfl rfl rfl (Nat.le_of_ble_eq_true rfl) (sst_25 a Δ s (jmin x2 20)) (fun H L hP hD hS => ?_)
  refine g_iconst 5 C 11 rfl dX5_reckon_10 ki_5 ?_
  refine g_istore_n [(3, .int 5), (0, .ref (a 0)), (1, .int x1), (2, .int x2)] C 12 rfl dX5_reckon_11 (Nat.le_of_ble_eq_true rfl) rfl ?_
  have Q12 : ∀ (x1 : Int32), ∀ (n : Nat) (x3 : Int32) (s : S5) (o : (S5)) (H : Heap) (L : List Loc) (hP : va_P Δ.1 classes (cs5 a Δ s) H) (hD : va_D A (cs5 a Δ s)) (hS : va_S A (sOf Γ).heap H L) (hq : lp_X5_reckon_12 x1 n x3 s = some o) (E2 : ∀ (H : Heap) (L : List Loc), va_P Δ.1 classes (cs5 a Δ o) H → va_D A (cs5 a Δ o) → va_S A (sOf Γ).heap H L → g Γ { frames := 4, cells := 0, slots := 0, locals := 97 } 5 H L 0 0 58 [] []), g Γ { frames := 4, cells := 0, slots := 0, locals := 97 } 5 H L 0 0 12 [(0, .ref (a 0)), (1, .int x1), (3, .int x3)] [] := by
    intro x1
    intro n
    induction n with
    | zero => intro x3 s o H L hP hD hS hq; exact nomatch (show (none : Option (S5)) = some o from hq)
    | succ n ih =>
      intro x3 s o H L hP hD hS hq E2
      have hq : bd_X5_reckon_12 x1 (lp_X5_reckon_12 x1 n) x3 s = some o := hq
      refine g_iload_n C 13 rfl dX5_reckon_12 2 rfl ?_
      refine s_if_lt C 58 16 rfl dX5_reckon_13 (by decide) hq (fun hq => ?_) (fun hq => ?_)
      · cases hq
        exact g_sub [] rfl (E2 _ _ hP hD hS)
      refine g_aload_n C 17 rfl dX5_reckon_16 0 rfl ?_
      refine g_get (v := .ref (a 2)) (fs := fl5 a s) C 20 rfl dX5_reckon_17 hK hP la_X5 0 1 (Nat.le_of_ble_eq_true rfl) fl_X5_15 rfl rfl rfl rfl ?_
      refine g_iload_n C 21 rfl dX5_reckon_20 2 rfl ?_
      refine g_iload_n C 22 rfl dX5_reckon_21 1 rfl ?_
      refine g_iload_n C 23 rfl dX5_reckon_22 2 rfl ?_
      obtain ⟨r1, hz2, hq⟩ := bindE hq
      refine g_callRS (rest := [.int x3, .ref (a 2)]) C 26 rfl dX5_reckon_23 (c_X8_digitOf Γ.2.1 Δ  x1 x3  hz2) mv_X8_digitOf (Or.inr ⟨_, mn_X5_28⟩) hK rfl rfl ⟨Nat.le_of_ble_eq_true rfl, Nat.le_of_ble_eq_true rfl⟩ (Nat.le_of_ble_eq_true rfl) ⟨Nat.zero_le _, Nat.zero_le _⟩ ?_
      refine s_iast (cs5 a Δ (p5_mishaps s (upd (x5_mishaps s) (x3 : Int32).toNatClampNeg r1))) C 27 rfl dX5_reckon_26 hK hP hD hS 2 rfl hq (sst_26 a Δ s (upd (x5_mishaps s) (x3 : Int32).toNatClampNeg r1)) (fun hq hi3 H L hP hD hS => ?_)
      refine g_iconst 0 C 28 rfl dX5_reckon_27 ki_0 ?_
      refine g_istore [(4, .int 0), (0, .ref (a 0)), (1, .int x1), (3, .int x3)] C 30 rfl dX5_reckon_28 (Nat.le_of_ble_eq_true rfl) rfl ?_
      have Q30 : ∀ (x1 : Int32) (x3 : Int32), ∀ (n : Nat) (x4 : Int32) (s : S5) (o : (S5)) (H : Heap) (L : List Loc) (hP : va_P Δ.1 classes (cs5 a Δ s) H) (hD : va_D A (cs5 a Δ s)) (hS : va_S A (sOf Γ).heap H L) (hq : lp_X5_reckon_30 x1 x3 n x4 s = some o) (E2 : ∀ (H : Heap) (L : List Loc), va_P Δ.1 classes (cs5 a Δ o) H → va_D A (cs5 a Δ o) → va_S A (sOf Γ).heap H L → g Γ { frames := 4, cells := 0, slots := 0, locals := 97 } 5 H L 0 0 52 [(0, .ref (a 0)), (1, .int x1), (3, .int x3)] []), g Γ { frames := 4, cells := 0, slots := 0, locals := 97 } 5 H L 0 0 30 [(0, .ref (a 0)), (1, .int x1), (3, .int x3), (4, .int x4)] [] := by
        intro x1 x3
        intro n
        induction n with
        | zero => intro x4 s o H L hP hD hS hq; exact nomatch (show (none : Option (S5)) = some o from hq)
        | succ n ih =>
          intro x4 s o H L hP hD hS hq E2
          have hq : bd_X5_reckon_30 x1 x3 (lp_X5_reckon_30 x1 x3 n) x4 s = some o := hq
          refine g_iload C 32 rfl dX5_reckon_30 3 rfl ?_
          refine g_aload_n C 33 rfl dX5_reckon_32 0 rfl ?_
          refine g_get (v := .int (x5_limit s)) (fs := fl5 a s) C 36 rfl dX5_reckon_33 hK hP la_X5 0 2 (Nat.le_of_ble_eq_true rfl) fl_X5_18 rfl rfl rfl rfl ?_
          refine s_icmp_gt C 52 39 rfl dX5_reckon_36 (by decide) hq (fun hq => ?_) (fun hq => ?_)
          · cases hq
            exact g_sub [0, 1, 2] rfl (E2 _ _ hP hD hS)
          refine g_aload_n C 40 rfl dX5_reckon_39 0 rfl ?_
          refine g_iload_n C 41 rfl dX5_reckon_40 2 rfl ?_
          refine g_iload C 43 rfl dX5_reckon_41 3 rfl ?_
          obtain ⟨r4, hz5, hq⟩ := bindE hq
          refine g_callWV (rest := []) (cs5 a Δ r4) C 46 rfl dX5_reckon_43 (c_X5_reckonFrom Γ.2.1 Δ a x3 x4 s hz5) mv_X5_reckonFrom ml_X5_31 hK hP hD hS hA (scl_27 a Δ s r4) rfl rfl rfl rfl rfl ⟨Nat.le_of_ble_eq_true rfl, Nat.le_of_ble_eq_true rfl⟩ (Nat.le_of_ble_eq_true rfl) ⟨Nat.zero_le _, Nat.zero_le _⟩ (fun H L hP hD hS => ?_)
          refine g_iinc (x4 + 1) [(4, .int (x4 + 1)), (0, .ref (a 0)), (1, .int x1), (3, .int x3)] C 49 rfl dX5_reckon_46 3 rfl (ii_1 _) (Nat.le_of_ble_eq_true rfl) rfl ?_
          refine g_goto C 30 dX5_reckon_49 (by decide) ?_
          exact g_sub [1, 2, 3, 0] rfl (ih (x4 + 1) r4 _ _ _ hP hD hS hq E2)
      obtain ⟨o6, ho7, hq⟩ := bindE hq
      refine g_sub [1, 2, 3, 0] rfl (Q30 x1 x3 FUEL 0 (p5_mishaps s (upd (x5_mishaps s) (x3 : Int32).toNatClampNeg r1)) o6 _ _ hP hD hS ho7 (fun H L hP hD hS => ?_))
      refine g_iinc (x3 - 1) [(3, .int (x3 - 1)), (0, .ref (a 0)), (1, .int x1)] C 55 rfl dX5_reckon_52 2 rfl (ii_m1 _) (Nat.le_of_ble_eq_true rfl) rfl ?_
      refine g_goto C 12 dX5_reckon_55 (by decide) ?_
      exact g_sub [1, 2, 0] rfl (ih (x3 - 1) o6 _ _ _ hP hD hS hq E2)
  obtain ⟨o8, ho9, hq⟩ := bindE hq
  refine g_sub [1, 2, 0] rfl (Q12 x1 FUEL 5 (p5_limit s (jmin x2 20)) o8 _ _ hP hD hS ho9 (fun H L hP hD hS => ?_))
  exact w_void (ws := fun s => cs5 a Δ s) hR hq hP hS dX5_reckon_58 rfl
set_option maxHeartbeats 400000 in
set_option maxRecDepth 100000 in
theorem c_X5_strengths (l : Launch) (Δ : gD) (a : Nat → Nat) (x1 : Int32) (x2 : Int32) (s : S5) {res : Int32} (hq : sem_X5_strengths x1 x2 s = some res) : MR l yX5_strengths cX5_strengths 10 (some .int) Δ (cs5 a Δ s) [.ref (a 0), .int x1, .int x2] 2 45 (.int res) := by
  refine MR.of (by decide) (Nat.le_of_ble_eq_true rfl) ?_
  intro Γ H hl C hK hP hR
  subst hl
  show g Γ { frames := 2, cells := 0, slots := 0, locals := 45 } 10 H [] 0 0 0 [(0, .ref (a 0)), (1, .int x1), (2, .int x2)] []
  refine g_iconst 0 C 1 rfl dX5_strengths_0 ki_0 ?_
  refine g_istore_n [(3, .int 0), (0, .ref (a 0)), (1, .int x1), (2, .int x2)] C 2 rfl dX5_strengths_1 (Nat.le_of_ble_eq_true rfl) rfl ?_
  refine g_iload_n C 3 rfl dX5_strengths_2 2 rfl ?_
  refine g_istore [(4, .int x1), (3, .int 0), (0, .ref (a 0)), (1, .int x1), (2, .int x2)] C 5 rfl dX5_strengths_3 (Nat.le_of_ble_eq_true rfl) rfl ?_
  refine g_iload_n C 6 rfl dX5_strengths_5 4 rfl ?_
  refine g_istore [(5, .int x2), (4, .int x1), (3, .int 0), (0, .ref (a 0)), (1, .int x1), (2, .int x2)] C 8 rfl dX5_strengths_6 (Nat.le_of_ble_eq_true rfl) rfl ?_
  refine g_iconst 0 C 9 rfl dX5_strengths_8 ki_0 ?_
  refine g_istore [(6, .int 0), (5, .int x2), (4, .int x1), (3, .int 0), (0, .ref (a 0)), (1, .int x1), (2, .int x2)] C 11 rfl dX5_strengths_9 (Nat.le_of_ble_eq_true rfl) rfl ?_
  have Q11 : ∀ (n : Nat) (x3 : Int32) (x4 : Int32) (x5 : Int32) (x6 : Int32) (o : (Int32)) (hq : lp_X5_strengths_11 s n x3 x4 x5 x6 = some o) (E2 : g Γ { frames := 2, cells := 0, slots := 0, locals := 45 } 10 H [] 0 0 116 [(3, .int o)] []), g Γ { frames := 2, cells := 0, slots := 0, locals := 45 } 10 H [] 0 0 11 [(0, .ref (a 0)), (3, .int x3), (4, .int x4), (5, .int x5), (6, .int x6)] [] := by
    intro n
    induction n with
    | zero => intro x3 x4 x5 x6 o hq; exact nomatch (show (none : Option (Int32)) = some o from hq)
    | succ n ih =>
      intro x3 x4 x5 x6 o hq E2
      have hq : bd_X5_strengths_11 s (lp_X5_strengths_11 s n) x3 x4 x5 x6 = some o := hq
      have K93 : ∀ (x3 : Int32) (x5 : Int32) (x6 : Int32) (x8 : Int32) (x9 : Int32), jn_X5_strengths_93 (lp_X5_strengths_11 s n) x3 x5 x6 x8 x9 s = some o → g Γ { frames := 2, cells := 0, slots := 0, locals := 45 } 10 H [] 0 0 93 [(0, .ref (a 0)), (3, .int x3), (5, .int x5), (6, .int x6), (8, .int x8), (9, .int x9)] [] := by
        intro x3 x5 x6 x8 x9 hq
        refine g_bipush 10 C 95 rfl dX5_strengths_93 kb_10 ?_
        refine g_iload_n C 96 rfl dX5_strengths_95 1 rfl ?_
        refine g_imul C 97 rfl dX5_strengths_96 ?_
        refine g_iload C 99 rfl dX5_strengths_97 5 rfl ?_
        refine g_iadd C 100 rfl dX5_strengths_99 ?_
        refine g_istore_n [(3, .int ((10 * x3) + x9)), (0, .ref (a 0)), (5, .int x5), (6, .int x6), (8, .int x8), (9, .int x9)] C 101 rfl dX5_strengths_100 (Nat.le_of_ble_eq_true rfl) rfl ?_
        refine g_iload C 103 rfl dX5_strengths_101 4 rfl ?_
        refine g_iload C 105 rfl dX5_strengths_103 5 rfl ?_
        obtain ⟨r1, hz2, hq⟩ := bindE hq
        refine g_callRS (rest := []) C 108 rfl dX5_strengths_105 (c_X5_afterHour Γ.2.1 Δ  x8 x9  hz2) mv_X5_afterHour (Or.inl ml_X5_45) hK rfl rfl ⟨Nat.le_of_ble_eq_true rfl, Nat.le_of_ble_eq_true rfl⟩ (Nat.le_of_ble_eq_true rfl) ⟨Nat.zero_le _, Nat.zero_le _⟩ ?_
        refine g_istore [(4, .int r1), (3, .int ((10 * x3) + x9)), (0, .ref (a 0)), (5, .int x5), (6, .int x6), (8, .int x8), (9, .int x9)] C 110 rfl dX5_strengths_108 (Nat.le_of_ble_eq_true rfl) rfl ?_
        refine g_iinc (x6 + 1) [(6, .int (x6 + 1)), (4, .int r1), (3, .int ((10 * x3) + x9)), (0, .ref (a 0)), (5, .int x5), (8, .int x8), (9, .int x9)] C 113 rfl dX5_strengths_110 4 rfl (ii_1 _) (Nat.le_of_ble_eq_true rfl) rfl ?_
        refine g_goto C 11 dX5_strengths_113 (by decide) ?_
        exact g_sub [3, 2, 1, 4, 0] rfl (ih ((10 * x3) + x9) r1 x5 (x6 + 1) _ hq E2)
      refine g_iload C 13 rfl dX5_strengths_11 4 rfl ?_
      refine g_bipush 6 C 15 rfl dX5_strengths_13 kb_6 ?_
      refine s_icmp_ge C 116 18 rfl dX5_strengths_15 (by decide) hq (fun hq => ?_) (fun hq => ?_)
      · cases hq
        exact g_sub [1] rfl (E2 )
      refine g_aload_n C 19 rfl dX5_strengths_18 0 rfl ?_
      refine g_iload C 21 rfl dX5_strengths_19 4 rfl ?_
      refine g_iload C 23 rfl dX5_strengths_21 2 rfl ?_
      refine g_iload C 25 rfl dX5_strengths_23 3 rfl ?_
      obtain ⟨r3, hz4, hq⟩ := bindE hq
      refine g_callRV (rest := []) C 28 rfl dX5_strengths_25 (c_X5_fewestStamps Γ.2.1 Δ a x6 x4 x5 s hz4) mv_X5_fewestStamps ml_X5_48 hK hP rfl rfl rfl rfl rfl ⟨Nat.le_of_ble_eq_true rfl, Nat.le_of_ble_eq_true rfl⟩ (Nat.le_of_ble_eq_true rfl) ⟨Nat.zero_le _, Nat.zero_le _⟩ ?_
      refine g_istore [(7, .int r3), (0, .ref (a 0)), (3, .int x3), (4, .int x4), (5, .int x5), (6, .int x6)] C 30 rfl dX5_strengths_28 (Nat.le_of_ble_eq_true rfl) rfl ?_
      refine g_aload_n C 31 rfl dX5_strengths_30 1 rfl ?_
      refine g_iload C 33 rfl dX5_strengths_31 5 rfl ?_
      refine g_iload C 35 rfl dX5_strengths_33 3 rfl ?_
      obtain ⟨r5, hz6, hq⟩ := bindE hq
      refine g_callRV (rest := []) C 38 rfl dX5_strengths_35 (c_X5_afterMishap Γ.2.1 Δ a x6 x4 s hz6) mv_X5_afterMishap ml_X5_35 hK hP rfl rfl rfl rfl rfl ⟨Nat.le_of_ble_eq_true rfl, Nat.le_of_ble_eq_true rfl⟩ (Nat.le_of_ble_eq_true rfl) ⟨Nat.zero_le _, Nat.zero_le _⟩ ?_
      refine g_istore [(8, .int r5), (7, .int r3), (0, .ref (a 0)), (3, .int x3), (4, .int x4), (5, .int x5), (6, .int x6)] C 40 rfl dX5_strengths_38 (Nat.le_of_ble_eq_true rfl) rfl ?_
      refine g_aload_n C 41 rfl dX5_strengths_40 2 rfl ?_
      refine g_iload C 43 rfl dX5_strengths_41 6 rfl ?_
      refine g_iload C 45 rfl dX5_strengths_43 4 rfl ?_
      refine g_iload C 47 rfl dX5_strengths_45 5 rfl ?_
      obtain ⟨r7, hz8, hq⟩ := bindE hq
      refine g_callRV (rest := []) C 50 rfl dX5_strengths_47 (c_X5_slipsLeft Γ.2.1 Δ a x6 x4 x5 s hz8) mv_X5_slipsLeft ml_X5_38 hK hP rfl rfl rfl rfl rfl ⟨Nat.le_of_ble_eq_true rfl, Nat.le_of_ble_eq_true rfl⟩ (Nat.le_of_ble_eq_true rfl) ⟨Nat.zero_le _, Nat.zero_le _⟩ ?_
      refine g_istore [(5, .int r7), (8, .int r5), (7, .int r3), (0, .ref (a 0)), (3, .int x3), (4, .int x4), (6, .int x6)] C 52 rfl dX5_strengths_50 (Nat.le_of_ble_eq_true rfl) rfl ?_
      refine g_iconst 0 C 53 rfl dX5_strengths_52 ki_0 ?_
      refine g_istore [(9, .int 0), (5, .int r7), (8, .int r5), (7, .int r3), (0, .ref (a 0)), (3, .int x3), (4, .int x4), (6, .int x6)] C 55 rfl dX5_strengths_53 (Nat.le_of_ble_eq_true rfl) rfl ?_
      have Q55 : ∀ (x3 : Int32) (x5 : Int32) (x6 : Int32) (x7 : Int32) (x8 : Int32), ∀ (n : Nat) (x9 : Int32) (o : (Int32)) (hq : lp_X5_strengths_55 x3 x5 x6 x7 x8 s n x9 = some o) (E2 : g Γ { frames := 2, cells := 0, slots := 0, locals := 45 } 10 H [] 0 0 93 [(0, .ref (a 0)), (3, .int x3), (5, .int x5), (6, .int x6), (8, .int x8), (9, .int o)] []), g Γ { frames := 2, cells := 0, slots := 0, locals := 45 } 10 H [] 0 0 55 [(0, .ref (a 0)), (3, .int x3), (5, .int x5), (6, .int x6), (7, .int x7), (8, .int x8), (9, .int x9)] [] := by
        intro x3 x5 x6 x7 x8
        intro n
        induction n with
        | zero => intro x9 o hq; exact nomatch (show (none : Option (Int32)) = some o from hq)
        | succ n ih =>
          intro x9 o hq E2
          have hq : bd_X5_strengths_55 x3 x5 x6 x7 x8 s (lp_X5_strengths_55 x3 x5 x6 x7 x8 s n) x9 = some o := hq
          refine g_iload C 57 rfl dX5_strengths_55 6 rfl ?_
          refine g_bipush 9 C 59 rfl dX5_strengths_57 kb_9 ?_
          refine s_icmp_ge C 93 62 rfl dX5_strengths_59 (by decide) hq (fun hq => ?_) (fun hq => ?_)
          · cases hq
            exact g_sub [0, 1, 2, 3, 5, 6] rfl (E2 )
          refine g_iload C 64 rfl dX5_strengths_62 6 rfl ?_
          refine g_aload_n C 65 rfl dX5_strengths_64 0 rfl ?_
          refine g_iload C 67 rfl dX5_strengths_65 3 rfl ?_
          refine g_iconst 1 C 68 rfl dX5_strengths_67 ki_1 ?_
          refine g_iadd C 69 rfl dX5_strengths_68 ?_
          refine g_iload C 71 rfl dX5_strengths_69 5 rfl ?_
          refine g_iload C 73 rfl dX5_strengths_71 6 rfl ?_
          obtain ⟨r9, hz10, hq⟩ := bindE hq
          refine g_callRS (rest := [.int (x6 + 1), .ref (a 0), .int x9]) C 76 rfl dX5_strengths_73 (c_X5_afterHour Γ.2.1 Δ  x8 x9  hz10) mv_X5_afterHour (Or.inl ml_X5_45) hK rfl rfl ⟨Nat.le_of_ble_eq_true rfl, Nat.le_of_ble_eq_true rfl⟩ (Nat.le_of_ble_eq_true rfl) ⟨Nat.zero_le _, Nat.zero_le _⟩ ?_
          refine g_iload C 78 rfl dX5_strengths_76 2 rfl ?_
          obtain ⟨r11, hz12, hq⟩ := bindE hq
          refine g_callRV (rest := [.int x9]) C 81 rfl dX5_strengths_78 (c_X5_fewestStamps Γ.2.1 Δ a (x6 + 1) r9 x5 s hz12) mv_X5_fewestStamps ml_X5_48 hK hP rfl rfl rfl rfl rfl ⟨Nat.le_of_ble_eq_true rfl, Nat.le_of_ble_eq_true rfl⟩ (Nat.le_of_ble_eq_true rfl) ⟨Nat.zero_le _, Nat.zero_le _⟩ ?_
          refine g_iadd C 82 rfl dX5_strengths_81 ?_
          refine g_iload C 84 rfl dX5_strengths_82 4 rfl ?_
          refine s_icmp_eq C 93 87 rfl dX5_strengths_84 (by decide) hq (fun hq => ?_) (fun hq => ?_)
          · cases hq
            exact g_sub [0, 1, 2, 3, 5, 6] rfl (E2 )
          refine g_iinc (x9 + 1) [(9, .int (x9 + 1)), (0, .ref (a 0)), (3, .int x3), (5, .int x5), (6, .int x6), (7, .int x7), (8, .int x8)] C 90 rfl dX5_strengths_87 6 rfl (ii_1 _) (Nat.le_of_ble_eq_true rfl) rfl ?_
          refine g_goto C 55 dX5_strengths_90 (by decide) ?_
          exact g_sub [1, 2, 3, 4, 5, 6, 0] rfl (ih (x9 + 1) _ hq E2)
      obtain ⟨o13, ho14, hq⟩ := bindE hq
      refine g_sub [4, 5, 1, 7, 3, 2, 0] rfl (Q55 x3 r7 x6 r3 r5 FUEL 0 o13 ho14 (?_))
      exact g_sub [0, 1, 2, 3, 4, 5] rfl (K93 x3 r7 x6 r5 o13 hq)
  obtain ⟨o15, ho16, hq⟩ := bindE hq
  refine g_sub [4, 3, 2, 1, 0] rfl (Q11  FUEL 0 x1 x2 0 o15 ho16 (?_))
  refine g_iload_n C 117 rfl dX5_strengths_116 0 rfl ?_
  exact r_int hR hq dX5_strengths_117 rfl rfl
