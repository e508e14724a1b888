set_option maxHeartbeats 400000 in
set_option maxRecDepth 100000 in
theorem c_X9_findCosts (l : Launch) (Δ : gD) (a : Nat → Nat) (x1 : Int32) (s : S9) {res : S9} (hq : sem_X9_findCosts x1 s = some res) : MW l yX9_findCosts cX9_findCosts 5 none Δ (cs9 a Δ s) [.ref (a 0), .int x1] 3 75 none (cs9 a Δ res) := by
  refine MW.of (by decide) (Nat.le_of_ble_eq_true rfl) ?_
  intro Γ A H hl C hK hP hD hS hA hR
  subst hl
  show g Γ { frames := 3, cells := 0, slots := 0, locals := 75 } 5 H [] 0 0 0 [(0, .ref (a 0)), (1, .int x1)] []
  refine g_aload_n C 1 rfl dX9_findCosts_0 0 rfl ?_
  refine g_iload_n C 2 rfl dX9_findCosts_1 1 rfl ?_
  obtain ⟨r1, hz2, hq⟩ := bindE hq
  refine g_callWV (rest := []) (cs9 a Δ r1) C 5 rfl dX9_findCosts_2 (c_X9_layWeights Γ.2.1 Δ a x1 s hz2) mv_X9_layWeights ml_X9_247 hK hP hD hS hA (scl_101 a Δ s r1) rfl rfl rfl rfl rfl ⟨Nat.le_of_ble_eq_true rfl, Nat.le_of_ble_eq_true rfl⟩ (Nat.le_of_ble_eq_true rfl) ⟨Nat.zero_le _, Nat.zero_le _⟩ (fun H L hP hD hS => ?_)
  refine g_bipush 6 C 7 rfl dX9_findCosts_5 kb_6 ?_
  refine g_istore_n [(2, .int 6), (0, .ref (a 0)), (1, .int x1)] C 8 rfl dX9_findCosts_7 (Nat.le_of_ble_eq_true rfl) rfl ?_
  have Q8 : ∀ (n : Nat) (x2 : Int32) (s : S9) (o : (S9)) (H : Heap) (L : List Loc) (hP : va_P Δ.1 classes (cs9 a Δ s) H) (hD : va_D A (cs9 a Δ s)) (hS : va_S A (sOf Γ).heap H L) (hq : lp_X9_findCosts_8  n x2 s = some o) (E2 : ∀ (H : Heap) (L : List Loc), va_P Δ.1 classes (cs9 a Δ o) H → va_D A (cs9 a Δ o) → va_S A (sOf Γ).heap H L → g Γ { frames := 3, cells := 0, slots := 0, locals := 75 } 5 H L 0 0 80 [] []), g Γ { frames := 3, cells := 0, slots := 0, locals := 75 } 5 H L 0 0 8 [(0, .ref (a 0)), (2, .int x2)] [] := by
    intro n
    induction n with
    | zero => intro x2 s o H L hP hD hS hq; exact nomatch (show (none : Option (S9)) = some o from hq)
    | succ n ih =>
      intro x2 s o H L hP hD hS hq E2
      have hq : bd_X9_findCosts_8  (lp_X9_findCosts_8  n) x2 s = some o := hq
      refine g_iload_n C 9 rfl dX9_findCosts_8 1 rfl ?_
      refine s_if_lt C 80 12 rfl dX9_findCosts_9 (by decide) hq (fun hq => ?_) (fun hq => ?_)
      · cases hq
        exact g_sub [] rfl (E2 _ _ hP hD hS)
      refine g_iconst 0 C 13 rfl dX9_findCosts_12 ki_0 ?_
      refine g_istore_n [(3, .int 0), (0, .ref (a 0)), (2, .int x2)] C 14 rfl dX9_findCosts_13 (Nat.le_of_ble_eq_true rfl) rfl ?_
      have Q14 : ∀ (x2 : Int32), ∀ (n : Nat) (x3 : Int32) (s : S9) (o : (S9)) (H : Heap) (L : List Loc) (hP : va_P Δ.1 classes (cs9 a Δ s) H) (hD : va_D A (cs9 a Δ s)) (hS : va_S A (sOf Γ).heap H L) (hq : lp_X9_findCosts_14 x2 n x3 s = some o) (E2 : ∀ (H : Heap) (L : List Loc), va_P Δ.1 classes (cs9 a Δ o) H → va_D A (cs9 a Δ o) → va_S A (sOf Γ).heap H L → g Γ { frames := 3, cells := 0, slots := 0, locals := 75 } 5 H L 0 0 74 [(0, .ref (a 0)), (2, .int x2)] []), g Γ { frames := 3, cells := 0, slots := 0, locals := 75 } 5 H L 0 0 14 [(0, .ref (a 0)), (2, .int x2), (3, .int x3)] [] := by
        intro x2
        intro n
        induction n with
        | zero => intro x3 s o H L hP hD hS hq; exact nomatch (show (none : Option (S9)) = some o from hq)
        | succ n ih =>
          intro x3 s o H L hP hD hS hq E2
          have hq : bd_X9_findCosts_14 x2 (lp_X9_findCosts_14 x2 n) x3 s = some o := hq
          refine g_iload_n C 15 rfl dX9_findCosts_14 2 rfl ?_
          refine g_aload_n C 16 rfl dX9_findCosts_15 0 rfl ?_
          refine g_get (v := .int (x9_limit s)) (fs := fl9 a s) C 19 rfl dX9_findCosts_16 hK hP la_X9 0 1 (Nat.le_of_ble_eq_true rfl) fl_X9_81 rfl rfl rfl rfl ?_
          refine s_icmp_gt C 74 22 rfl dX9_findCosts_19 (by decide) hq (fun hq => ?_) (fun hq => ?_)
          · cases hq
            exact g_sub [0, 1] rfl (E2 _ _ hP hD hS)
          refine g_iconst 0 C 23 rfl dX9_findCosts_22 ki_0 ?_
          refine g_istore [(4, .int 0), (0, .ref (a 0)), (2, .int x2), (3, .int x3)] C 25 rfl dX9_findCosts_23 (Nat.le_of_ble_eq_true rfl) rfl ?_
          have Q25 : ∀ (x2 : Int32) (x3 : Int32), ∀ (n : Nat) (x4 : Int32) (s : S9) (o : (S9)) (H : Heap) (L : List Loc) (hP : va_P Δ.1 classes (cs9 a Δ s) H) (hD : va_D A (cs9 a Δ s)) (hS : va_S A (sOf Γ).heap H L) (hq : lp_X9_findCosts_25 x2 x3 n x4 s = some o) (E2 : ∀ (H : Heap) (L : List Loc), va_P Δ.1 classes (cs9 a Δ o) H → va_D A (cs9 a Δ o) → va_S A (sOf Γ).heap H L → g Γ { frames := 3, cells := 0, slots := 0, locals := 75 } 5 H L 0 0 68 [(0, .ref (a 0)), (2, .int x2), (3, .int x3)] []), g Γ { frames := 3, cells := 0, slots := 0, locals := 75 } 5 H L 0 0 25 [(0, .ref (a 0)), (2, .int x2), (3, .int x3), (4, .int x4)] [] := by
            intro x2 x3
            intro n
            induction n with
            | zero => intro x4 s o H L hP hD hS hq; exact nomatch (show (none : Option (S9)) = some o from hq)
            | succ n ih =>
              intro x4 s o H L hP hD hS hq E2
              have hq : bd_X9_findCosts_25 x2 x3 (lp_X9_findCosts_25 x2 x3 n) x4 s = some o := hq
              refine g_iload C 27 rfl dX9_findCosts_25 3 rfl ?_
              refine g_bipush 21 C 29 rfl dX9_findCosts_27 kb_21 ?_
              refine s_icmp_ge C 68 32 rfl dX9_findCosts_29 (by decide) hq (fun hq => ?_) (fun hq => ?_)
              · cases hq
                exact g_sub [0, 1, 2] rfl (E2 _ _ hP hD hS)
              refine g_aload_n C 33 rfl dX9_findCosts_32 0 rfl ?_
              refine g_get (v := .ref (a 17)) (fs := fl9 a s) C 36 rfl dX9_findCosts_33 hK hP la_X9 0 30 (Nat.le_of_ble_eq_true rfl) fl_X9_58 rfl rfl rfl rfl ?_
              refine g_iload_n C 37 rfl dX9_findCosts_36 1 rfl ?_
              refine g_iload_n C 38 rfl dX9_findCosts_37 2 rfl ?_
              refine g_iload C 40 rfl dX9_findCosts_38 3 rfl ?_
              obtain ⟨r3, hz4, hq⟩ := bindE hq
              refine g_callRS (rest := [.ref (a 17)]) C 43 rfl dX9_findCosts_40 (c_X9_at Γ.2.1 Δ  x2 x3 x4  hz4) mv_X9_at (Or.inl ml_X9_241) hK rfl rfl ⟨Nat.le_of_ble_eq_true rfl, Nat.le_of_ble_eq_true rfl⟩ (Nat.le_of_ble_eq_true rfl) ⟨Nat.zero_le _, Nat.zero_le _⟩ ?_
              refine g_iload_n C 44 rfl dX9_findCosts_43 1 rfl ?_
              refine g_bipush 6 C 46 rfl dX9_findCosts_44 kb_6 ?_
              refine s_icmp_ne C 53 49 rfl dX9_findCosts_46 (by decide) hq (fun hq => ?_) (fun hq => ?_)
              rotate_left
              · refine g_iconst 0 C 50 rfl dX9_findCosts_49 ki_0 ?_
                refine g_goto C 61 dX9_findCosts_50 (by decide) ?_
                refine s_iast (cs9 a Δ (p9_costs s (upd (x9_costs s) (r3 : Int32).toNatClampNeg 0))) C 62 rfl dX9_findCosts_61 hK hP hD hS 17 rfl hq (sst_113 a Δ s (upd (x9_costs s) (r3 : Int32).toNatClampNeg 0)) (fun hq hi8 H L hP hD hS => ?_)
                refine g_iinc (x4 + 1) [(4, .int (x4 + 1)), (0, .ref (a 0)), (2, .int x2), (3, .int x3)] C 65 rfl dX9_findCosts_62 3 rfl (ii_1 _) (Nat.le_of_ble_eq_true rfl) rfl ?_
                refine g_goto C 25 dX9_findCosts_65 (by decide) ?_
                exact g_sub [1, 2, 3, 0] rfl (ih (x4 + 1) (p9_costs s (upd (x9_costs s) (r3 : Int32).toNatClampNeg 0)) _ _ _ hP hD hS hq E2)
              refine g_aload_n C 54 rfl dX9_findCosts_53 0 rfl ?_
              refine g_iload_n C 55 rfl dX9_findCosts_54 1 rfl ?_
              refine g_iload_n C 56 rfl dX9_findCosts_55 2 rfl ?_
              refine g_iload C 58 rfl dX9_findCosts_56 3 rfl ?_
              obtain ⟨r5, hz6, hq⟩ := bindE hq
              refine g_callRV (rest := [.int r3, .ref (a 17)]) C 61 rfl dX9_findCosts_58 (c_X9_leastCost Γ.2.1 Δ a x2 x3 x4 s hz6) mv_X9_leastCost ml_X9_250 hK hP rfl rfl rfl rfl rfl ⟨Nat.le_of_ble_eq_true rfl, Nat.le_of_ble_eq_true rfl⟩ (Nat.le_of_ble_eq_true rfl) ⟨Nat.zero_le _, Nat.zero_le _⟩ ?_
              refine s_iast (cs9 a Δ (p9_costs s (upd (x9_costs s) (r3 : Int32).toNatClampNeg r5))) C 62 rfl dX9_findCosts_61 hK hP hD hS 17 rfl hq (sst_113 a Δ s (upd (x9_costs s) (r3 : Int32).toNatClampNeg r5)) (fun hq hi7 H L hP hD hS => ?_)
              refine g_iinc (x4 + 1) [(4, .int (x4 + 1)), (0, .ref (a 0)), (2, .int x2), (3, .int x3)] C 65 rfl dX9_findCosts_62 3 rfl (ii_1 _) (Nat.le_of_ble_eq_true rfl) rfl ?_
              refine g_goto C 25 dX9_findCosts_65 (by decide) ?_
              exact g_sub [1, 2, 3, 0] rfl (ih (x4 + 1) (p9_costs s (upd (x9_costs s) (r3 : Int32).toNatClampNeg r5)) _ _ _ hP hD hS hq E2)
          obtain ⟨o9, ho10, hq⟩ := bindE hq
          refine g_sub [1, 2, 3, 0] rfl (Q25 x2 x3 FUEL 0 s o9 _ _ hP hD hS ho10 (fun H L hP hD hS => ?_))
          refine g_iinc (x3 + 1) [(3, .int (x3 + 1)), (0, .ref (a 0)), (2, .int x2)] C 71 rfl dX9_findCosts_68 2 rfl (ii_1 _) (Nat.le_of_ble_eq_true rfl) rfl ?_
          refine g_goto C 14 dX9_findCosts_71 (by decide) ?_
          exact g_sub [1, 2, 0] rfl (ih (x3 + 1) o9 _ _ _ hP hD hS hq E2)
      obtain ⟨o11, ho12, hq⟩ := bindE hq
      refine g_sub [1, 2, 0] rfl (Q14 x2 FUEL 0 s o11 _ _ hP hD hS ho12 (fun H L hP hD hS => ?_))
      refine g_iinc (x2 - 1) [(2, .int (x2 - 1)), (0, .ref (a 0))] C 77 rfl dX9_findCosts_74 1 rfl (ii_m1 _) (Nat.le_of_ble_eq_true rfl) rfl ?_
      refine g_goto C 8 dX9_findCosts_77 (by decide) ?_
      exact g_sub [1, 0] rfl (ih (x2 - 1) o11 _ _ _ hP hD hS hq E2)
  obtain ⟨o13, ho14, hq⟩ := bindE hq
  refine g_sub [1, 0] rfl (Q8  FUEL 6 r1 o13 _ _ hP hD hS ho14 (fun H L hP hD hS => ?_))
  exact w_void (ws := fun s => cs9 a Δ s) hR hq hP hS dX9_findCosts_80 rfl
set_option maxHeartbeats 400000 in
set_option maxRecDepth 100000 in
theorem c_X9_strengths (l : Launch) (Δ : gD) (a : Nat → Nat) (x1 : Int32) (x2 : Int32) (s : S9) {res : Int32} (hq : sem_X9_strengths x1 x2 s = some res) : MR l yX9_strengths cX9_strengths 9 (some .int) Δ (cs9 a Δ s) [.ref (a 0), .int x1, .int x2] 2 49 (.int res) := by
  refine MR.of (by decide) (Nat.le_of_ble_eq_true rfl) ?_
  intro Γ H hl C hK hP hR
  subst hl
  show g Γ { frames := 2, cells := 0, slots := 0, locals := 49 } 9 H [] 0 0 0 [(0, .ref (a 0)), (1, .int x1), (2, .int x2)] []
  refine g_iconst 0 C 1 rfl dX9_strengths_0 ki_0 ?_
  refine g_istore_n [(3, .int 0), (0, .ref (a 0)), (1, .int x1), (2, .int x2)] C 2 rfl dX9_strengths_1 (Nat.le_of_ble_eq_true rfl) rfl ?_
  refine g_iload_n C 3 rfl dX9_strengths_2 2 rfl ?_
  refine g_istore [(4, .int x1), (3, .int 0), (0, .ref (a 0)), (1, .int x1), (2, .int x2)] C 5 rfl dX9_strengths_3 (Nat.le_of_ble_eq_true rfl) rfl ?_
  refine g_iload_n C 6 rfl dX9_strengths_5 4 rfl ?_
  refine g_istore [(5, .int x2), (4, .int x1), (3, .int 0), (0, .ref (a 0)), (1, .int x1), (2, .int x2)] C 8 rfl dX9_strengths_6 (Nat.le_of_ble_eq_true rfl) rfl ?_
  refine g_iconst 0 C 9 rfl dX9_strengths_8 ki_0 ?_
  refine g_istore [(6, .int 0), (5, .int x2), (4, .int x1), (3, .int 0), (0, .ref (a 0)), (1, .int x1), (2, .int x2)] C 11 rfl dX9_strengths_9 (Nat.le_of_ble_eq_true rfl) rfl ?_
  have Q11 : ∀ (n : Nat) (x3 : Int32) (x4 : Int32) (x5 : Int32) (x6 : Int32) (o : (Int32)) (hq : lp_X9_strengths_11 s n x3 x4 x5 x6 = some o) (E2 : g Γ { frames := 2, cells := 0, slots := 0, locals := 49 } 9 H [] 0 0 122 [(3, .int o)] []), g Γ { frames := 2, cells := 0, slots := 0, locals := 49 } 9 H [] 0 0 11 [(0, .ref (a 0)), (3, .int x3), (4, .int x4), (5, .int x5), (6, .int x6)] [] := by
    intro n
    induction n with
    | zero => intro x3 x4 x5 x6 o hq; exact nomatch (show (none : Option (Int32)) = some o from hq)
    | succ n ih =>
      intro x3 x4 x5 x6 o hq E2
      have hq : bd_X9_strengths_11 s (lp_X9_strengths_11 s n) x3 x4 x5 x6 = some o := hq
      have K99 : ∀ (x3 : Int32) (x5 : Int32) (x6 : Int32) (x7 : Int32) (y0 : Int32), jn_X9_strengths_99 (lp_X9_strengths_11 s n) x3 x5 x6 x7 y0 s = some o → g Γ { frames := 2, cells := 0, slots := 0, locals := 49 } 9 H [] 0 0 99 [(0, .ref (a 0)), (3, .int x3), (5, .int x5), (6, .int x6), (7, .int x7)] [.int y0] := by
        intro x3 x5 x6 x7 y0 hq
        refine g_istore [(4, .int y0), (0, .ref (a 0)), (3, .int x3), (5, .int x5), (6, .int x6), (7, .int x7)] C 101 rfl dX9_strengths_99 (Nat.le_of_ble_eq_true rfl) rfl ?_
        refine g_iload C 103 rfl dX9_strengths_101 3 rfl ?_
        refine g_iload C 105 rfl dX9_strengths_103 5 rfl ?_
        refine g_isub C 106 rfl dX9_strengths_105 ?_
        refine g_istore [(5, .int (x5 - x7)), (4, .int y0), (0, .ref (a 0)), (3, .int x3), (6, .int x6), (7, .int x7)] C 108 rfl dX9_strengths_106 (Nat.le_of_ble_eq_true rfl) rfl ?_
        refine g_bipush 10 C 110 rfl dX9_strengths_108 kb_10 ?_
        refine g_iload_n C 111 rfl dX9_strengths_110 3 rfl ?_
        refine g_imul C 112 rfl dX9_strengths_111 ?_
        refine g_iload C 114 rfl dX9_strengths_112 5 rfl ?_
        refine g_iadd C 115 rfl dX9_strengths_114 ?_
        refine g_istore_n [(3, .int ((10 * x3) + x7)), (5, .int (x5 - x7)), (4, .int y0), (0, .ref (a 0)), (6, .int x6), (7, .int x7)] C 116 rfl dX9_strengths_115 (Nat.le_of_ble_eq_true rfl) rfl ?_
        refine g_iinc (x6 + 1) [(6, .int (x6 + 1)), (3, .int ((10 * x3) + x7)), (5, .int (x5 - x7)), (4, .int y0), (0, .ref (a 0)), (7, .int x7)] C 119 rfl dX9_strengths_116 4 rfl (ii_1 _) (Nat.le_of_ble_eq_true rfl) rfl ?_
        refine g_goto C 11 dX9_strengths_119 (by decide) ?_
        exact g_sub [4, 1, 3, 2, 0] rfl (ih ((10 * x3) + x7) y0 (x5 - x7) (x6 + 1) _ hq E2)
      have K84 : ∀ (x3 : Int32) (x5 : Int32) (x6 : Int32) (x7 : Int32) (y0 : Int32), jn_X9_strengths_84 (lp_X9_strengths_11 s n) x3 x5 x6 x7 y0 s = some o → g Γ { frames := 2, cells := 0, slots := 0, locals := 49 } 9 H [] 0 0 84 [(0, .ref (a 0)), (3, .int x3), (5, .int x5), (6, .int x6), (7, .int x7)] [.int y0] := by
        intro x3 x5 x6 x7 y0 hq
        refine g_istore [(8, .int y0), (0, .ref (a 0)), (3, .int x3), (5, .int x5), (6, .int x6), (7, .int x7)] C 86 rfl dX9_strengths_84 (Nat.le_of_ble_eq_true rfl) rfl ?_
        refine g_iload C 88 rfl dX9_strengths_86 0 rfl ?_
        refine s_if_le C 98 91 rfl dX9_strengths_88 (by decide) hq (fun hq => ?_) (fun hq => ?_)
        · refine g_iconst 0 C 99 rfl dX9_strengths_98 ki_0 ?_
          exact g_sub [1, 2, 3, 4, 5] rfl (K99 x3 x5 x6 x7 0 hq)
        refine g_iload C 93 rfl dX9_strengths_91 0 rfl ?_
        refine g_iconst 1 C 94 rfl dX9_strengths_93 ki_1 ?_
        refine g_isub C 95 rfl dX9_strengths_94 ?_
        refine g_goto C 99 dX9_strengths_95 (by decide) ?_
        exact g_sub [1, 2, 3, 4, 5] rfl (K99 x3 x5 x6 x7 (y0 - 1) hq)
      refine g_iload C 13 rfl dX9_strengths_11 4 rfl ?_
      refine g_bipush 6 C 15 rfl dX9_strengths_13 kb_6 ?_
      refine s_icmp_ge C 122 18 rfl dX9_strengths_15 (by decide) hq (fun hq => ?_) (fun hq => ?_)
      · cases hq
        exact g_sub [1] rfl (E2 )
      refine g_iconst 0 C 19 rfl dX9_strengths_18 ki_0 ?_
      refine g_istore [(7, .int 0), (0, .ref (a 0)), (3, .int x3), (4, .int x4), (5, .int x5), (6, .int x6)] C 21 rfl dX9_strengths_19 (Nat.le_of_ble_eq_true rfl) rfl ?_
      have Q21 : ∀ (x3 : Int32) (x4 : Int32) (x5 : Int32) (x6 : Int32), ∀ (n : Nat) (x7 : Int32) (o : (Int32)) (hq : lp_X9_strengths_21 x3 x4 x5 x6 s n x7 = some o) (E2 : g Γ { frames := 2, cells := 0, slots := 0, locals := 49 } 9 H [] 0 0 56 [(0, .ref (a 0)), (3, .int x3), (4, .int x4), (5, .int x5), (6, .int x6), (7, .int o)] []), g Γ { frames := 2, cells := 0, slots := 0, locals := 49 } 9 H [] 0 0 21 [(0, .ref (a 0)), (3, .int x3), (4, .int x4), (5, .int x5), (6, .int x6), (7, .int x7)] [] := by
        intro x3 x4 x5 x6
        intro n
        induction n with
        | zero => intro x7 o hq; exact nomatch (show (none : Option (Int32)) = some o from hq)
        | succ n ih =>
          intro x7 o hq E2
          have hq : bd_X9_strengths_21 x3 x4 x5 x6 s (lp_X9_strengths_21 x3 x4 x5 x6 s n) x7 = some o := hq
          refine g_aload_n C 22 rfl dX9_strengths_21 0 rfl ?_
          refine g_iload C 24 rfl dX9_strengths_22 4 rfl ?_
          refine g_iload C 26 rfl dX9_strengths_24 2 rfl ?_
          refine g_iload C 28 rfl dX9_strengths_26 3 rfl ?_
          refine g_iload C 30 rfl dX9_strengths_28 5 rfl ?_
          obtain ⟨r1, hz2, hq⟩ := bindE hq
          refine g_callRV (rest := []) C 33 rfl dX9_strengths_30 (c_X9_costBy Γ.2.1 Δ a x6 x4 x5 x7 s hz2) mv_X9_costBy ml_X9_244 hK hP rfl rfl rfl rfl rfl ⟨Nat.le_of_ble_eq_true rfl, Nat.le_of_ble_eq_true rfl⟩ (Nat.le_of_ble_eq_true rfl) ⟨Nat.zero_le _, Nat.zero_le _⟩ ?_
          refine g_aload_n C 34 rfl dX9_strengths_33 0 rfl ?_
          refine g_get (v := .ref (a 17)) (fs := fl9 a s) C 37 rfl dX9_strengths_34 hK hP la_X9 0 30 (Nat.le_of_ble_eq_true rfl) fl_X9_58 rfl rfl rfl rfl ?_
          refine g_iload C 39 rfl dX9_strengths_37 4 rfl ?_
          refine g_iload C 41 rfl dX9_strengths_39 2 rfl ?_
          refine g_iload C 43 rfl dX9_strengths_41 3 rfl ?_
          obtain ⟨r3, hz4, hq⟩ := bindE hq
          refine g_callRS (rest := [.ref (a 17), .int r1]) C 46 rfl dX9_strengths_43 (c_X9_at Γ.2.1 Δ  x6 x4 x5  hz4) mv_X9_at (Or.inl ml_X9_241) hK rfl rfl ⟨Nat.le_of_ble_eq_true rfl, Nat.le_of_ble_eq_true rfl⟩ (Nat.le_of_ble_eq_true rfl) ⟨Nat.zero_le _, Nat.zero_le _⟩ ?_
          refine s_iald C 47 rfl dX9_strengths_46 hK hP 17 rfl hq (fun hq hi5 => ?_)
          refine s_icmp_eq C 56 50 rfl dX9_strengths_47 (by decide) hq (fun hq => ?_) (fun hq => ?_)
          · cases hq
            exact g_sub [0, 1, 2, 3, 4, 5] rfl (E2 )
          refine g_iinc (x7 + 1) [(7, .int (x7 + 1)), (0, .ref (a 0)), (3, .int x3), (4, .int x4), (5, .int x5), (6, .int x6)] C 53 rfl dX9_strengths_50 5 rfl (ii_1 _) (Nat.le_of_ble_eq_true rfl) rfl ?_
          refine g_goto C 21 dX9_strengths_53 (by decide) ?_
          exact g_sub [1, 2, 3, 4, 5, 0] rfl (ih (x7 + 1) _ hq E2)
      obtain ⟨o6, ho7, hq⟩ := bindE hq
      refine g_sub [1, 2, 3, 4, 5, 0] rfl (Q21 x3 x4 x5 x6 FUEL 0 o6 ho7 (?_))
      refine g_aload_n C 57 rfl dX9_strengths_56 0 rfl ?_
      refine g_iload C 59 rfl dX9_strengths_57 4 rfl ?_
      refine g_iload C 61 rfl dX9_strengths_59 2 rfl ?_
      obtain ⟨r8, hz9, hq⟩ := bindE hq
      refine g_callRV (rest := []) C 64 rfl dX9_strengths_61 (c_X9_slipsIn Γ.2.1 Δ a x6 x4 s hz9) mv_X9_slipsIn ml_X9_237 hK hP rfl rfl rfl rfl rfl ⟨Nat.le_of_ble_eq_true rfl, Nat.le_of_ble_eq_true rfl⟩ (Nat.le_of_ble_eq_true rfl) ⟨Nat.zero_le _, Nat.zero_le _⟩ ?_
      refine s_if_eq C 71 67 rfl dX9_strengths_64 (by decide) hq (fun hq => ?_) (fun hq => ?_)
      rotate_left
      · refine g_iconst 0 C 68 rfl dX9_strengths_67 ki_0 ?_
        refine g_goto C 84 dX9_strengths_68 (by decide) ?_
        exact g_sub [0, 1, 3, 4, 5] rfl (K84 x3 x5 x6 o6 0 hq)
      refine g_iload C 73 rfl dX9_strengths_71 2 rfl ?_
      refine g_aload_n C 74 rfl dX9_strengths_73 0 rfl ?_
      refine g_get (v := .ref (a 16)) (fs := fl9 a s) C 77 rfl dX9_strengths_74 hK hP la_X9 0 29 (Nat.le_of_ble_eq_true rfl) fl_X9_55 rfl rfl rfl rfl ?_
      refine g_iload C 79 rfl dX9_strengths_77 4 rfl ?_
      refine s_iald C 80 rfl dX9_strengths_79 hK hP 16 rfl hq (fun hq hi10 => ?_)
      refine g_iadd C 81 rfl dX9_strengths_80 ?_
      refine g_iload C 83 rfl dX9_strengths_81 5 rfl ?_
      refine g_isub C 84 rfl dX9_strengths_83 ?_
      exact g_sub [0, 1, 3, 4, 5] rfl (K84 x3 x5 x6 o6 ((x4 + ((x9_weight s) (x6 : Int32).toNatClampNeg)) - o6) hq)
  obtain ⟨o11, ho12, hq⟩ := bindE hq
  refine g_sub [4, 3, 2, 1, 0] rfl (Q11  FUEL 0 x1 x2 0 o11 ho12 (?_))
  refine g_iload_n C 123 rfl dX9_strengths_122 0 rfl ?_
  exact r_int hR hq dX9_strengths_123 rfl rfl
set_option maxHeartbeats 400000 in
set_option maxRecDepth 100000 in
theorem c_X9_spend (l : Launch) (Δ : gD) (a : Nat → Nat) (x1 : Int32) (x2 : Int32) (x3 : Int32) (x4 : Int32) (s : S9) {res : Int32 × S9} (hq : sem_X9_spend x1 x2 x3 x4 s = some res) : MW l yX9_spend cX9_spend 6 (some .int) Δ (cs9 a Δ s) [.ref (a 0), .int x1, .int x2, .int x3, .int x4] 4 99 (some (.int res.1)) (cs9 a Δ res.2) := by
  refine MW.of (by decide) (Nat.le_of_ble_eq_true rfl) ?_
  intro Γ A H hl C hK hP hD hS hA hR
  subst hl
  show g Γ { frames := 4, cells := 0, slots := 0, locals := 99 } 6 H [] 0 0 0 [(0, .ref (a 0)), (1, .int x1), (2, .int x2), (3, .int x3), (4, .int x4)] []
  refine g_iload_n C 1 rfl dX9_spend_0 1 rfl ?_
  refine g_i2l C 2 rfl dX9_spend_1 ?_
  refine g_lconst 0 C 3 rfl dX9_spend_2 kl_0 ?_
  refine g_aload_n C 4 rfl dX9_spend_3 0 rfl ?_
  refine g_get (v := .int (x9_limit s)) (fs := fl9 a s) C 7 rfl dX9_spend_4 hK hP la_X9 0 1 (Nat.le_of_ble_eq_true rfl) fl_X9_81 rfl rfl rfl rfl ?_
  refine g_i2l C 8 rfl dX9_spend_7 ?_
  obtain ⟨r1, hz2, hq⟩ := bindE hq
  refine g_callRS (rest := []) C 11 rfl dX9_spend_8 (c_X9_in Γ.2.1 Δ  (Int32.toInt64 x1) 0 (Int32.toInt64 (x9_limit s))  hz2) mv_X9_in (Or.inl ml_X9_90) hK rfl rfl ⟨Nat.le_of_ble_eq_true rfl, Nat.le_of_ble_eq_true rfl⟩ (Nat.le_of_ble_eq_true rfl) ⟨Nat.zero_le _, Nat.zero_le _⟩ ?_
  refine s_if_eq C 51 14 rfl dX9_spend_11 (by decide) hq (fun hq => ?_) (fun hq => ?_)
  · refine g_bipush (-2) C 53 rfl dX9_spend_51 kb_m2 ?_
    exact w_int (ws := fun s => cs9 a Δ s) hR hq hP hS dX9_spend_53 rfl rfl
  refine g_iload_n C 15 rfl dX9_spend_14 2 rfl ?_
  refine g_i2l C 16 rfl dX9_spend_15 ?_
  refine g_lconst 0 C 17 rfl dX9_spend_16 kl_0 ?_
  refine g_ldc2 20 C 20 rfl dX9_spend_17 k_X9_113 ?_
  obtain ⟨r3, hz4, hq⟩ := bindE hq
  refine g_callRS (rest := []) C 23 rfl dX9_spend_20 (c_X9_in Γ.2.1 Δ  (Int32.toInt64 x2) 0 20  hz4) mv_X9_in (Or.inl ml_X9_90) hK rfl rfl ⟨Nat.le_of_ble_eq_true rfl, Nat.le_of_ble_eq_true rfl⟩ (Nat.le_of_ble_eq_true rfl) ⟨Nat.zero_le _, Nat.zero_le _⟩ ?_
  refine s_if_eq C 51 26 rfl dX9_spend_23 (by decide) hq (fun hq => ?_) (fun hq => ?_)
  · refine g_bipush (-2) C 53 rfl dX9_spend_51 kb_m2 ?_
    exact w_int (ws := fun s => cs9 a Δ s) hR hq hP hS dX9_spend_53 rfl rfl
  refine g_iload_n C 27 rfl dX9_spend_26 3 rfl ?_
  refine g_i2l C 28 rfl dX9_spend_27 ?_
  refine g_lconst 0 C 29 rfl dX9_spend_28 kl_0 ?_
  refine g_ldc2 999999 C 32 rfl dX9_spend_29 k_X9_253 ?_
  obtain ⟨r5, hz6, hq⟩ := bindE hq
  refine g_callRS (rest := []) C 35 rfl dX9_spend_32 (c_X9_in Γ.2.1 Δ  (Int32.toInt64 x3) 0 999999  hz6) mv_X9_in (Or.inl ml_X9_90) hK rfl rfl ⟨Nat.le_of_ble_eq_true rfl, Nat.le_of_ble_eq_true rfl⟩ (Nat.le_of_ble_eq_true rfl) ⟨Nat.zero_le _, Nat.zero_le _⟩ ?_
  refine s_if_eq C 51 38 rfl dX9_spend_35 (by decide) hq (fun hq => ?_) (fun hq => ?_)
  · refine g_bipush (-2) C 53 rfl dX9_spend_51 kb_m2 ?_
    exact w_int (ws := fun s => cs9 a Δ s) hR hq hP hS dX9_spend_53 rfl rfl
  refine g_iload C 40 rfl dX9_spend_38 4 rfl ?_
  refine g_i2l C 41 rfl dX9_spend_40 ?_
  refine g_lconst 0 C 42 rfl dX9_spend_41 kl_0 ?_
  refine g_ldc2 2 C 45 rfl dX9_spend_42 k_X9_228 ?_
  obtain ⟨r7, hz8, hq⟩ := bindE hq
  refine g_callRS (rest := []) C 48 rfl dX9_spend_45 (c_X9_in Γ.2.1 Δ  (Int32.toInt64 x4) 0 2  hz8) mv_X9_in (Or.inl ml_X9_90) hK rfl rfl ⟨Nat.le_of_ble_eq_true rfl, Nat.le_of_ble_eq_true rfl⟩ (Nat.le_of_ble_eq_true rfl) ⟨Nat.zero_le _, Nat.zero_le _⟩ ?_
  refine s_if_ne C 54 51 rfl dX9_spend_48 (by decide) hq (fun hq => ?_) (fun hq => ?_)
  rotate_left
  · refine g_bipush (-2) C 53 rfl dX9_spend_51 kb_m2 ?_
    exact w_int (ws := fun s => cs9 a Δ s) hR hq hP hS dX9_spend_53 rfl rfl
  refine g_aload_n C 55 rfl dX9_spend_54 0 rfl ?_
  refine g_iload_n C 56 rfl dX9_spend_55 3 rfl ?_
  obtain ⟨r9, hz10, hq⟩ := bindE hq
  refine g_callWV (rest := []) (cs9 a Δ r9) C 59 rfl dX9_spend_56 (c_X9_findCosts Γ.2.1 Δ a x3 s hz10) mv_X9_findCosts ml_X9_255 hK hP hD hS hA (scl_101 a Δ s r9) rfl rfl rfl rfl rfl ⟨Nat.le_of_ble_eq_true rfl, Nat.le_of_ble_eq_true rfl⟩ (Nat.le_of_ble_eq_true rfl) ⟨Nat.zero_le _, Nat.zero_le _⟩ (fun H L hP hD hS => ?_)
  refine g_aload_n C 60 rfl dX9_spend_59 0 rfl ?_
  refine g_get (v := .ref (a 17)) (fs := fl9 a r9) C 63 rfl dX9_spend_60 hK hP la_X9 0 30 (Nat.le_of_ble_eq_true rfl) fl_X9_58 rfl rfl rfl rfl ?_
  refine g_iconst 0 C 64 rfl dX9_spend_63 ki_0 ?_
  refine g_iload_n C 65 rfl dX9_spend_64 1 rfl ?_
  refine g_iload_n C 66 rfl dX9_spend_65 2 rfl ?_
  obtain ⟨r11, hz12, hq⟩ := bindE hq
  refine g_callRS (rest := [.ref (a 17)]) C 69 rfl dX9_spend_66 (c_X9_at Γ.2.1 Δ  0 x1 x2  hz12) mv_X9_at (Or.inl ml_X9_241) hK rfl rfl ⟨Nat.le_of_ble_eq_true rfl, Nat.le_of_ble_eq_true rfl⟩ (Nat.le_of_ble_eq_true rfl) ⟨Nat.zero_le _, Nat.zero_le _⟩ ?_
  refine s_iald C 70 rfl dX9_spend_69 hK hP 17 rfl hq (fun hq hi13 => ?_)
  refine g_istore [(5, .int ((x9_costs r9) (r11 : Int32).toNatClampNeg)), (0, .ref (a 0)), (1, .int x1), (2, .int x2), (3, .int x3), (4, .int x4)] C 72 rfl dX9_spend_70 (Nat.le_of_ble_eq_true rfl) rfl ?_
  refine g_iload C 74 rfl dX9_spend_72 5 rfl ?_
  refine s_if_ne C 85 77 rfl dX9_spend_74 (by decide) hq (fun hq => ?_) (fun hq => ?_)
  rotate_left
  · refine g_iload C 79 rfl dX9_spend_77 0 rfl ?_
    refine g_bipush 100 C 81 rfl dX9_spend_79 kb_100 ?_
    refine g_idiv C 82 rfl dX9_spend_81 (by decide) ?_
    refine g_goto C 105 dX9_spend_82 (by decide) ?_
    exact w_int (ws := fun s => cs9 a Δ s) hR hq hP hS dX9_spend_105 rfl rfl
  refine g_iload C 87 rfl dX9_spend_85 5 rfl ?_
  refine g_iconst 1 C 88 rfl dX9_spend_87 ki_1 ?_
  refine s_icmp_ne C 99 91 rfl dX9_spend_88 (by decide) hq (fun hq => ?_) (fun hq => ?_)
  rotate_left
  · refine g_iload C 93 rfl dX9_spend_91 0 rfl ?_
    refine g_bipush 100 C 95 rfl dX9_spend_93 kb_100 ?_
    refine g_irem C 96 rfl dX9_spend_95 (by decide) ?_
    refine g_goto C 105 dX9_spend_96 (by decide) ?_
    exact w_int (ws := fun s => cs9 a Δ s) hR hq hP hS dX9_spend_105 rfl rfl
  refine g_aload_n C 100 rfl dX9_spend_99 1 rfl ?_
  refine g_iload_n C 101 rfl dX9_spend_100 2 rfl ?_
  refine g_iload_n C 102 rfl dX9_spend_101 3 rfl ?_
  obtain ⟨r14, hz15, hq⟩ := bindE hq
  refine g_callRV (rest := []) C 105 rfl dX9_spend_102 (c_X9_strengths Γ.2.1 Δ a x1 x2 r9 hz15) mv_X9_strengths ml_X9_258 hK hP rfl rfl rfl rfl rfl ⟨Nat.le_of_ble_eq_true rfl, Nat.le_of_ble_eq_true rfl⟩ (Nat.le_of_ble_eq_true rfl) ⟨Nat.zero_le _, Nat.zero_le _⟩ ?_
  exact w_int (ws := fun s => cs9 a Δ s) hR hq hP hS dX9_spend_105 rfl rfl
set_option maxHeartbeats 400000 in
set_option maxRecDepth 100000 in
theorem c_X9_slipsBy (l : Launch) (Δ : gD) (a : Nat → Nat) (x1 : Int32) (x2 : Int32) (x3 : Int32) (s : S9) {res : Int32} (hq : sem_X9_slipsBy x1 x2 x3 s = some res) : MR l yX9_slipsBy cX9_slipsBy 4 (some .int) Δ (cs9 a Δ s) [.ref (a 0), .int x1, .int x2, .int x3] 1 22 (.int res) := by
  refine MR.of (by decide) (Nat.le_of_ble_eq_true rfl) ?_
  intro Γ H hl C hK hP hR
  subst hl
  show g Γ { frames := 1, cells := 0, slots := 0, locals := 22 } 4 H [] 0 0 0 [(0, .ref (a 0)), (1, .int x1), (2, .int x2), (3, .int x3)] []
  refine g_aload_n C 1 rfl dX9_slipsBy_0 0 rfl ?_
  refine g_get (v := .ref (a 17)) (fs := fl9 a s) C 4 rfl dX9_slipsBy_1 hK hP la_X9 0 30 (Nat.le_of_ble_eq_true rfl) fl_X9_58 rfl rfl rfl rfl ?_
  refine g_iconst 0 C 5 rfl dX9_slipsBy_4 ki_0 ?_
  refine g_aload_n C 6 rfl dX9_slipsBy_5 0 rfl ?_
  refine g_get (v := .ref (a 1)) (fs := fl9 a s) C 9 rfl dX9_slipsBy_6 hK hP la_X9 0 3 (Nat.le_of_ble_eq_true rfl) fl_X9_7 rfl rfl rfl rfl ?_
  refine g_iload_n C 10 rfl dX9_slipsBy_9 1 rfl ?_
  refine s_iald C 11 rfl dX9_slipsBy_10 hK hP 1 rfl hq (fun hq hi1 => ?_)
  refine g_iload_n C 12 rfl dX9_slipsBy_11 3 rfl ?_
  obtain ⟨r2, hz3, hq⟩ := bindE hq
  refine g_callRS (rest := [.ref (a 17)]) C 15 rfl dX9_slipsBy_12 (c_X9_at Γ.2.1 Δ  0 ((x9_temper s) (x1 : Int32).toNatClampNeg) x3  hz3) mv_X9_at (Or.inl ml_X9_241) hK rfl rfl ⟨Nat.le_of_ble_eq_true rfl, Nat.le_of_ble_eq_true rfl⟩ (Nat.le_of_ble_eq_true rfl) ⟨Nat.zero_le _, Nat.zero_le _⟩ ?_
  refine s_iald C 16 rfl dX9_slipsBy_15 hK hP 17 rfl hq (fun hq hi4 => ?_)
  refine g_bipush 100 C 18 rfl dX9_slipsBy_16 kb_100 ?_
  refine g_idiv C 19 rfl dX9_slipsBy_18 (by decide) ?_
  refine g_aload_n C 20 rfl dX9_slipsBy_19 0 rfl ?_
  refine g_get (v := .ref (a 18)) (fs := fl9 a s) C 23 rfl dX9_slipsBy_20 hK hP la_X9 0 31 (Nat.le_of_ble_eq_true rfl) fl_X9_61 rfl rfl rfl rfl ?_
  refine g_bipush 21 C 25 rfl dX9_slipsBy_23 kb_21 ?_
  refine g_iload_n C 26 rfl dX9_slipsBy_25 1 rfl ?_
  refine g_iconst 1 C 27 rfl dX9_slipsBy_26 ki_1 ?_
  refine g_iadd C 28 rfl dX9_slipsBy_27 ?_
  refine g_imul C 29 rfl dX9_slipsBy_28 ?_
  refine g_iload_n C 30 rfl dX9_slipsBy_29 2 rfl ?_
  refine g_iadd C 31 rfl dX9_slipsBy_30 ?_
  refine g_iload_n C 32 rfl dX9_slipsBy_31 3 rfl ?_
  refine g_isub C 33 rfl dX9_slipsBy_32 ?_
  refine s_iald C 34 rfl dX9_slipsBy_33 hK hP 18 rfl hq (fun hq hi5 => ?_)
  refine g_iadd C 35 rfl dX9_slipsBy_34 ?_
  exact r_int hR hq dX9_slipsBy_35 rfl rfl
set_option maxHeartbeats 400000 in
set_option maxRecDepth 100000 in
theorem c_X9_fewestSlips (l : Launch) (Δ : gD) (a : Nat → Nat) (x1 : Int32) (x2 : Int32) (s : S9) {res : Int32} (hq : sem_X9_fewestSlips x1 x2 s = some res) : MR l yX9_fewestSlips cX9_fewestSlips 6 (some .int) Δ (cs9 a Δ s) [.ref (a 0), .int x1, .int x2] 2 46 (.int res) := by
  refine MR.of (by decide) (Nat.le_of_ble_eq_true rfl) ?_
  intro Γ H hl C hK hP hR
  subst hl
  show g Γ { frames := 2, cells := 0, slots := 0, locals := 46 } 6 H [] 0 0 0 [(0, .ref (a 0)), (1, .int x1), (2, .int x2)] []
  refine g_aload_n C 1 rfl dX9_fewestSlips_0 0 rfl ?_
  refine g_iload_n C 2 rfl dX9_fewestSlips_1 1 rfl ?_
  obtain ⟨r1, hz2, hq⟩ := bindE hq
  refine g_callRV (rest := []) C 5 rfl dX9_fewestSlips_2 (c_X9_isOne Γ.2.1 Δ a x1 s hz2) mv_X9_isOne ml_X9_107 hK hP rfl rfl rfl rfl rfl ⟨Nat.le_of_ble_eq_true rfl, Nat.le_of_ble_eq_true rfl⟩ (Nat.le_of_ble_eq_true rfl) ⟨Nat.zero_le _, Nat.zero_le _⟩ ?_
  refine s_if_ne C 22 8 rfl dX9_fewestSlips_5 (by decide) hq (fun hq => ?_) (fun hq => ?_)
  rotate_left
  · refine g_aload_n C 9 rfl dX9_fewestSlips_8 0 rfl ?_
    refine g_get (v := .ref (a 18)) (fs := fl9 a s) C 12 rfl dX9_fewestSlips_9 hK hP la_X9 0 31 (Nat.le_of_ble_eq_true rfl) fl_X9_61 rfl rfl rfl rfl ?_
    refine g_bipush 21 C 14 rfl dX9_fewestSlips_12 kb_21 ?_
    refine g_iload_n C 15 rfl dX9_fewestSlips_14 1 rfl ?_
    refine g_iconst 1 C 16 rfl dX9_fewestSlips_15 ki_1 ?_
    refine g_iadd C 17 rfl dX9_fewestSlips_16 ?_
    refine g_imul C 18 rfl dX9_fewestSlips_17 ?_
    refine g_iload_n C 19 rfl dX9_fewestSlips_18 2 rfl ?_
    refine g_iadd C 20 rfl dX9_fewestSlips_19 ?_
    refine s_iald C 21 rfl dX9_fewestSlips_20 hK hP 18 rfl hq (fun hq hi7 => ?_)
    exact r_int hR hq dX9_fewestSlips_21 rfl rfl
  refine g_ldc 100000 C 24 rfl dX9_fewestSlips_22 k_X9_240 ?_
  refine g_istore_n [(3, .int 100000), (0, .ref (a 0)), (1, .int x1), (2, .int x2)] C 25 rfl dX9_fewestSlips_24 (Nat.le_of_ble_eq_true rfl) rfl ?_
  refine g_iconst 0 C 26 rfl dX9_fewestSlips_25 ki_0 ?_
  refine g_istore [(4, .int 0), (3, .int 100000), (0, .ref (a 0)), (1, .int x1), (2, .int x2)] C 28 rfl dX9_fewestSlips_26 (Nat.le_of_ble_eq_true rfl) rfl ?_
  have Q28 : ∀ (x1 : Int32) (x2 : Int32), ∀ (n : Nat) (x3 : Int32) (x4 : Int32) (o : (Int32)) (hq : lp_X9_fewestSlips_28 x1 x2 s n x3 x4 = some o) (E2 : g Γ { frames := 2, cells := 0, slots := 0, locals := 46 } 6 H [] 0 0 63 [(3, .int o)] []), g Γ { frames := 2, cells := 0, slots := 0, locals := 46 } 6 H [] 0 0 28 [(0, .ref (a 0)), (1, .int x1), (2, .int x2), (3, .int x3), (4, .int x4)] [] := by
    intro x1 x2
    intro n
    induction n with
    | zero => intro x3 x4 o hq; exact nomatch (show (none : Option (Int32)) = some o from hq)
    | succ n ih =>
      intro x3 x4 o hq E2
      have hq : bd_X9_fewestSlips_28 x1 x2 s (lp_X9_fewestSlips_28 x1 x2 s n) x3 x4 = some o := hq
      refine g_iload C 30 rfl dX9_fewestSlips_28 4 rfl ?_
      refine g_iload_n C 31 rfl dX9_fewestSlips_30 2 rfl ?_
      refine s_icmp_gt C 63 34 rfl dX9_fewestSlips_31 (by decide) hq (fun hq => ?_) (fun hq => ?_)
      · cases hq
        exact g_sub [3] rfl (E2 )
      refine g_aload_n C 35 rfl dX9_fewestSlips_34 0 rfl ?_
      refine g_iload_n C 36 rfl dX9_fewestSlips_35 1 rfl ?_
      refine g_iload_n C 37 rfl dX9_fewestSlips_36 2 rfl ?_
      refine g_iload C 39 rfl dX9_fewestSlips_37 4 rfl ?_
      obtain ⟨r3, hz4, hq⟩ := bindE hq
      refine g_callRV (rest := []) C 42 rfl dX9_fewestSlips_39 (c_X9_slipsBy Γ.2.1 Δ a x1 x2 x4 s hz4) mv_X9_slipsBy ml_X9_261 hK hP rfl rfl rfl rfl rfl ⟨Nat.le_of_ble_eq_true rfl, Nat.le_of_ble_eq_true rfl⟩ (Nat.le_of_ble_eq_true rfl) ⟨Nat.zero_le _, Nat.zero_le _⟩ ?_
      refine g_istore [(5, .int r3), (0, .ref (a 0)), (1, .int x1), (2, .int x2), (3, .int x3), (4, .int x4)] C 44 rfl dX9_fewestSlips_42 (Nat.le_of_ble_eq_true rfl) rfl ?_
      refine g_iload C 46 rfl dX9_fewestSlips_44 0 rfl ?_
      refine g_iload_n C 47 rfl dX9_fewestSlips_46 4 rfl ?_
      refine s_icmp_ge C 55 50 rfl dX9_fewestSlips_47 (by decide) hq (fun hq => ?_) (fun hq => ?_)
      · refine g_iload_n C 56 rfl dX9_fewestSlips_55 4 rfl ?_
        refine g_istore_n [(3, .int x3), (5, .int r3), (0, .ref (a 0)), (1, .int x1), (2, .int x2), (4, .int x4)] C 57 rfl dX9_fewestSlips_56 (Nat.le_of_ble_eq_true rfl) rfl ?_
        refine g_iinc (x4 + 1) [(4, .int (x4 + 1)), (3, .int x3), (5, .int r3), (0, .ref (a 0)), (1, .int x1), (2, .int x2)] C 60 rfl dX9_fewestSlips_57 5 rfl (ii_1 _) (Nat.le_of_ble_eq_true rfl) rfl ?_
        refine g_goto C 28 dX9_fewestSlips_60 (by decide) ?_
        exact g_sub [3, 4, 5, 1, 0] rfl (ih x3 (x4 + 1) _ hq E2)
      refine g_iload C 52 rfl dX9_fewestSlips_50 0 rfl ?_
      refine g_goto C 56 dX9_fewestSlips_52 (by decide) ?_
      refine g_istore_n [(3, .int r3), (5, .int r3), (0, .ref (a 0)), (1, .int x1), (2, .int x2), (4, .int x4)] C 57 rfl dX9_fewestSlips_56 (Nat.le_of_ble_eq_true rfl) rfl ?_
      refine g_iinc (x4 + 1) [(4, .int (x4 + 1)), (3, .int r3), (5, .int r3), (0, .ref (a 0)), (1, .int x1), (2, .int x2)] C 60 rfl dX9_fewestSlips_57 5 rfl (ii_1 _) (Nat.le_of_ble_eq_true rfl) rfl ?_
      refine g_goto C 28 dX9_fewestSlips_60 (by decide) ?_
      exact g_sub [3, 4, 5, 1, 0] rfl (ih r3 (x4 + 1) _ hq E2)
  obtain ⟨o5, ho6, hq⟩ := bindE hq
  refine g_sub [2, 3, 4, 1, 0] rfl (Q28 x1 x2 FUEL 100000 0 o5 ho6 (?_))
  refine g_iload_n C 64 rfl dX9_fewestSlips_63 0 rfl ?_
  exact r_int hR hq dX9_fewestSlips_64 rfl rfl
set_option maxHeartbeats 400000 in
set_option maxRecDepth 100000 in
theorem c_X9_findDeals (l : Launch) (Δ : gD) (a : Nat → Nat) (x1 : Int32) (s : S9) {res : S9} (hq : sem_X9_findDeals x1 s = some res) : MW l yX9_findDeals cX9_findDeals 4 none Δ (cs9 a Δ s) [.ref (a 0), .int x1] 4 99 none (cs9 a Δ res) := by
  refine MW.of (by decide) (Nat.le_of_ble_eq_true rfl) ?_
  intro Γ A H hl C hK hP hD hS hA hR
  subst hl
  show g Γ { frames := 4, cells := 0, slots := 0, locals := 99 } 4 H [] 0 0 0 [(0, .ref (a 0)), (1, .int x1)] []
  refine g_aload_n C 1 rfl dX9_findDeals_0 0 rfl ?_
  refine g_iload_n C 2 rfl dX9_findDeals_1 1 rfl ?_
  obtain ⟨r1, hz2, hq⟩ := bindE hq
  refine g_callWV (rest := []) (cs9 a Δ r1) C 5 rfl dX9_findDeals_2 (c_X9_findCosts Γ.2.1 Δ a x1 s hz2) mv_X9_findCosts ml_X9_255 hK hP hD hS hA (scl_101 a Δ s r1) rfl rfl rfl rfl rfl ⟨Nat.le_of_ble_eq_true rfl, Nat.le_of_ble_eq_true rfl⟩ (Nat.le_of_ble_eq_true rfl) ⟨Nat.zero_le _, Nat.zero_le _⟩ (fun H L hP hD hS => ?_)
  refine g_bipush 6 C 7 rfl dX9_findDeals_5 kb_6 ?_
  refine g_istore_n [(2, .int 6), (0, .ref (a 0)), (1, .int x1)] C 8 rfl dX9_findDeals_7 (Nat.le_of_ble_eq_true rfl) rfl ?_
  have Q8 : ∀ (n : Nat) (x2 : Int32) (s : S9) (o : (S9)) (H : Heap) (L : List Loc) (hP : va_P Δ.1 classes (cs9 a Δ s) H) (hD : va_D A (cs9 a Δ s)) (hS : va_S A (sOf Γ).heap H L) (hq : lp_X9_findDeals_8  n x2 s = some o) (E2 : ∀ (H : Heap) (L : List Loc), va_P Δ.1 classes (cs9 a Δ o) H → va_D A (cs9 a Δ o) → va_S A (sOf Γ).heap H L → g Γ { frames := 4, cells := 0, slots := 0, locals := 99 } 4 H L 0 0 68 [] []), g Γ { frames := 4, cells := 0, slots := 0, locals := 99 } 4 H L 0 0 8 [(0, .ref (a 0)), (2, .int x2)] [] := by
    intro n
    induction n with
    | zero => intro x2 s o H L hP hD hS hq; exact nomatch (show (none : Option (S9)) = some o from hq)
    | succ n ih =>
      intro x2 s o H L hP hD hS hq E2
      have hq : bd_X9_findDeals_8  (lp_X9_findDeals_8  n) x2 s = some o := hq
      refine g_iload_n C 9 rfl dX9_findDeals_8 1 rfl ?_
      refine s_if_lt C 68 12 rfl dX9_findDeals_9 (by decide) hq (fun hq => ?_) (fun hq => ?_)
      · cases hq
        exact g_sub [] rfl (E2 _ _ hP hD hS)
      refine g_iconst 0 C 13 rfl dX9_findDeals_12 ki_0 ?_
      refine g_istore_n [(3, .int 0), (0, .ref (a 0)), (2, .int x2)] C 14 rfl dX9_findDeals_13 (Nat.le_of_ble_eq_true rfl) rfl ?_
      have Q14 : ∀ (x2 : Int32), ∀ (n : Nat) (x3 : Int32) (s : S9) (o : (S9)) (H : Heap) (L : List Loc) (hP : va_P Δ.1 classes (cs9 a Δ s) H) (hD : va_D A (cs9 a Δ s)) (hS : va_S A (sOf Γ).heap H L) (hq : lp_X9_findDeals_14 x2 n x3 s = some o) (E2 : ∀ (H : Heap) (L : List Loc), va_P Δ.1 classes (cs9 a Δ o) H → va_D A (cs9 a Δ o) → va_S A (sOf Γ).heap H L → g Γ { frames := 4, cells := 0, slots := 0, locals := 99 } 4 H L 0 0 62 [(0, .ref (a 0)), (2, .int x2)] []), g Γ { frames := 4, cells := 0, slots := 0, locals := 99 } 4 H L 0 0 14 [(0, .ref (a 0)), (2, .int x2), (3, .int x3)] [] := by
        intro x2
        intro n
        induction n with
        | zero => intro x3 s o H L hP hD hS hq; exact nomatch (show (none : Option (S9)) = some o from hq)
        | succ n ih =>
          intro x3 s o H L hP hD hS hq E2
          have hq : bd_X9_findDeals_14 x2 (lp_X9_findDeals_14 x2 n) x3 s = some o := hq
          refine g_iload_n C 15 rfl dX9_findDeals_14 2 rfl ?_
          refine g_bipush 21 C 17 rfl dX9_findDeals_15 kb_21 ?_
          refine s_icmp_ge C 62 20 rfl dX9_findDeals_17 (by decide) hq (fun hq => ?_) (fun hq => ?_)
          · cases hq
            exact g_sub [0, 1] rfl (E2 _ _ hP hD hS)
          refine g_aload_n C 21 rfl dX9_findDeals_20 0 rfl ?_
          refine g_get (v := .ref (a 18)) (fs := fl9 a s) C 24 rfl dX9_findDeals_21 hK hP la_X9 0 31 (Nat.le_of_ble_eq_true rfl) fl_X9_61 rfl rfl rfl rfl ?_
          refine g_bipush 21 C 26 rfl dX9_findDeals_24 kb_21 ?_
          refine g_iload_n C 27 rfl dX9_findDeals_26 1 rfl ?_
          refine g_imul C 28 rfl dX9_findDeals_27 ?_
          refine g_iload_n C 29 rfl dX9_findDeals_28 2 rfl ?_
          refine g_iadd C 30 rfl dX9_findDeals_29 ?_
          refine g_iload_n C 31 rfl dX9_findDeals_30 1 rfl ?_
          refine g_bipush 6 C 33 rfl dX9_findDeals_31 kb_6 ?_
          refine s_icmp_ne C 49 36 rfl dX9_findDeals_33 (by decide) hq (fun hq => ?_) (fun hq => ?_)
          · refine g_aload_n C 50 rfl dX9_findDeals_49 0 rfl ?_
            refine g_iload_n C 51 rfl dX9_findDeals_50 1 rfl ?_
            refine g_iload_n C 52 rfl dX9_findDeals_51 2 rfl ?_
            obtain ⟨r3, hz4, hq⟩ := bindE hq
            refine g_callRV (rest := [.int ((21 * x2) + x3), .ref (a 18)]) C 55 rfl dX9_findDeals_52 (c_X9_fewestSlips Γ.2.1 Δ a x2 x3 s hz4) mv_X9_fewestSlips ml_X9_264 hK hP rfl rfl rfl rfl rfl ⟨Nat.le_of_ble_eq_true rfl, Nat.le_of_ble_eq_true rfl⟩ (Nat.le_of_ble_eq_true rfl) ⟨Nat.zero_le _, Nat.zero_le _⟩ ?_
            refine s_iast (cs9 a Δ (p9_slipsFrom s (upd (x9_slipsFrom s) (((21 * x2) + x3) : Int32).toNatClampNeg r3))) C 56 rfl dX9_findDeals_55 hK hP hD hS 18 rfl hq (sst_114 a Δ s (upd (x9_slipsFrom s) (((21 * x2) + x3) : Int32).toNatClampNeg r3)) (fun hq hi5 H L hP hD hS => ?_)
            refine g_iinc (x3 + 1) [(3, .int (x3 + 1)), (0, .ref (a 0)), (2, .int x2)] C 59 rfl dX9_findDeals_56 2 rfl (ii_1 _) (Nat.le_of_ble_eq_true rfl) rfl ?_
            refine g_goto C 14 dX9_findDeals_59 (by decide) ?_
            exact g_sub [1, 2, 0] rfl (ih (x3 + 1) (p9_slipsFrom s (upd (x9_slipsFrom s) (((21 * x2) + x3) : Int32).toNatClampNeg r3)) _ _ _ hP hD hS hq E2)
          refine g_iload_n C 37 rfl dX9_findDeals_36 2 rfl ?_
          refine s_if_ne C 44 40 rfl dX9_findDeals_37 (by decide) hq (fun hq => ?_) (fun hq => ?_)
          · refine g_ldc 100000 C 46 rfl dX9_findDeals_44 k_X9_240 ?_
            refine g_goto C 55 dX9_findDeals_46 (by decide) ?_
            refine s_iast (cs9 a Δ (p9_slipsFrom s (upd (x9_slipsFrom s) (((21 * x2) + x3) : Int32).toNatClampNeg 100000))) C 56 rfl dX9_findDeals_55 hK hP hD hS 18 rfl hq (sst_114 a Δ s (upd (x9_slipsFrom s) (((21 * x2) + x3) : Int32).toNatClampNeg 100000)) (fun hq hi6 H L hP hD hS => ?_)
            refine g_iinc (x3 + 1) [(3, .int (x3 + 1)), (0, .ref (a 0)), (2, .int x2)] C 59 rfl dX9_findDeals_56 2 rfl (ii_1 _) (Nat.le_of_ble_eq_true rfl) rfl ?_
            refine g_goto C 14 dX9_findDeals_59 (by decide) ?_
            exact g_sub [1, 2, 0] rfl (ih (x3 + 1) (p9_slipsFrom s (upd (x9_slipsFrom s) (((21 * x2) + x3) : Int32).toNatClampNeg 100000)) _ _ _ hP hD hS hq E2)
          refine g_iconst 0 C 41 rfl dX9_findDeals_40 ki_0 ?_
          refine g_goto C 55 dX9_findDeals_41 (by decide) ?_
          refine s_iast (cs9 a Δ (p9_slipsFrom s (upd (x9_slipsFrom s) (((21 * x2) + x3) : Int32).toNatClampNeg 0))) C 56 rfl dX9_findDeals_55 hK hP hD hS 18 rfl hq (sst_114 a Δ s (upd (x9_slipsFrom s) (((21 * x2) + x3) : Int32).toNatClampNeg 0)) (fun hq hi7 H L hP hD hS => ?_)
          refine g_iinc (x3 + 1) [(3, .int (x3 + 1)), (0, .ref (a 0)), (2, .int x2)] C 59 rfl dX9_findDeals_56 2 rfl (ii_1 _) (Nat.le_of_ble_eq_true rfl) rfl ?_
          refine g_goto C 14 dX9_findDeals_59 (by decide) ?_
          exact g_sub [1, 2, 0] rfl (ih (x3 + 1) (p9_slipsFrom s (upd (x9_slipsFrom s) (((21 * x2) + x3) : Int32).toNatClampNeg 0)) _ _ _ hP hD hS hq E2)
      obtain ⟨o8, ho9, hq⟩ := bindE hq
      refine g_sub [1, 2, 0] rfl (Q14 x2 FUEL 0 s o8 _ _ hP hD hS ho9 (fun H L hP hD hS => ?_))
      refine g_iinc (x2 - 1) [(2, .int (x2 - 1)), (0, .ref (a 0))] C 65 rfl dX9_findDeals_62 1 rfl (ii_m1 _) (Nat.le_of_ble_eq_true rfl) rfl ?_
      refine g_goto C 8 dX9_findDeals_65 (by decide) ?_
      exact g_sub [1, 0] rfl (ih (x2 - 1) o8 _ _ _ hP hD hS hq E2)
  obtain ⟨o10, ho11, hq⟩ := bindE hq
  refine g_sub [1, 0] rfl (Q8  FUEL 6 r1 o10 _ _ hP hD hS ho11 (fun H L hP hD hS => ?_))
  exact w_void (ws := fun s => cs9 a Δ s) hR hq hP hS dX9_findDeals_68 rfl
set_option maxHeartbeats 400000 in
set_option maxRecDepth 100000 in
theorem c_X9_deal (l : Launch) (Δ : gD) (a : Nat → Nat) (x1 : Int32) (x2 : Int32) (x3 : Int32) (s : S9) {res : Int32 × S9} (hq : sem_X9_deal x1 x2 x3 s = some res) : MW l yX9_deal cX9_deal 7 (some .int) Δ (cs9 a Δ s) [.ref (a 0), .int x1, .int x2, .int x3] 5 122 (some (.int res.1)) (cs9 a Δ res.2) := by
  refine MW.of (by decide) (Nat.le_of_ble_eq_true rfl) ?_
  intro Γ A H hl C hK hP hD hS hA hR
  subst hl
  have K15 : ∀ (x1 : Int32) (x2 : Int32) (x3 : Int32) (s : S9) (H : Heap) (L : List Loc) (hP : va_P Δ.1 classes (cs9 a Δ s) H) (hD : va_D A (cs9 a Δ s)) (hS : va_S A (sOf Γ).heap H L), jn_X9_deal_15 x1 x2 x3 s = some res → g Γ { frames := 5, cells := 0, slots := 0, locals := 122 } 7 H L 0 0 15 [(0, .ref (a 0)), (1, .int x1), (2, .int x2), (3, .int x3)] [] := by
    intro x1 x2 x3 s H L hP hD hS hq
    refine g_iload_n C 16 rfl dX9_deal_15 1 rfl ?_
    refine g_i2l C 17 rfl dX9_deal_16 ?_
    refine g_lconst 0 C 18 rfl dX9_deal_17 kl_0 ?_
    refine g_ldc2 20 C 21 rfl dX9_deal_18 k_X9_113 ?_
    obtain ⟨r1, hz2, hq⟩ := bindE hq
    refine g_callRS (rest := []) C 24 rfl dX9_deal_21 (c_X9_in Γ.2.1 Δ  (Int32.toInt64 x1) 0 20  hz2) mv_X9_in (Or.inl ml_X9_90) hK rfl rfl ⟨Nat.le_of_ble_eq_true rfl, Nat.le_of_ble_eq_true rfl⟩ (Nat.le_of_ble_eq_true rfl) ⟨Nat.zero_le _, Nat.zero_le _⟩ ?_
    refine s_if_eq C 39 27 rfl dX9_deal_24 (by decide) hq (fun hq => ?_) (fun hq => ?_)
    · refine g_bipush (-2) C 41 rfl dX9_deal_39 kb_m2 ?_
      exact w_int (ws := fun s => cs9 a Δ s) hR hq hP hS dX9_deal_41 rfl rfl
    refine g_iload_n C 28 rfl dX9_deal_27 2 rfl ?_
    refine g_i2l C 29 rfl dX9_deal_28 ?_
    refine g_lconst 0 C 30 rfl dX9_deal_29 kl_0 ?_
    refine g_ldc2 999999 C 33 rfl dX9_deal_30 k_X9_253 ?_
    obtain ⟨r3, hz4, hq⟩ := bindE hq
    refine g_callRS (rest := []) C 36 rfl dX9_deal_33 (c_X9_in Γ.2.1 Δ  (Int32.toInt64 x2) 0 999999  hz4) mv_X9_in (Or.inl ml_X9_90) hK rfl rfl ⟨Nat.le_of_ble_eq_true rfl, Nat.le_of_ble_eq_true rfl⟩ (Nat.le_of_ble_eq_true rfl) ⟨Nat.zero_le _, Nat.zero_le _⟩ ?_
    refine s_if_ne C 42 39 rfl dX9_deal_36 (by decide) hq (fun hq => ?_) (fun hq => ?_)
    rotate_left
    · refine g_bipush (-2) C 41 rfl dX9_deal_39 kb_m2 ?_
      exact w_int (ws := fun s => cs9 a Δ s) hR hq hP hS dX9_deal_41 rfl rfl
    refine g_aload_n C 43 rfl dX9_deal_42 0 rfl ?_
    refine g_iload_n C 44 rfl dX9_deal_43 2 rfl ?_
    obtain ⟨r5, hz6, hq⟩ := bindE hq
    refine g_callWV (rest := []) (cs9 a Δ r5) C 47 rfl dX9_deal_44 (c_X9_findDeals Γ.2.1 Δ a x2 s hz6) mv_X9_findDeals ml_X9_267 hK hP hD hS hA (scl_101 a Δ s r5) rfl rfl rfl rfl rfl ⟨Nat.le_of_ble_eq_true rfl, Nat.le_of_ble_eq_true rfl⟩ (Nat.le_of_ble_eq_true rfl) ⟨Nat.zero_le _, Nat.zero_le _⟩ (fun H L hP hD hS => ?_)
    refine g_iload_n C 48 rfl dX9_deal_47 3 rfl ?_
    refine g_iconst (-1) C 49 rfl dX9_deal_48 ki_m1 ?_
    refine s_icmp_ne C 70 52 rfl dX9_deal_49 (by decide) hq (fun hq => ?_) (fun hq => ?_)
    rotate_left
    · refine g_aload_n C 53 rfl dX9_deal_52 0 rfl ?_
      refine g_get (v := .int (x9_there r5)) (fs := fl9 a r5) C 56 rfl dX9_deal_53 hK hP la_X9 0 0 (Nat.le_of_ble_eq_true rfl) fl_X9_94 rfl rfl rfl rfl ?_
      refine s_if_ne C 63 59 rfl dX9_deal_56 (by decide) hq (fun hq => ?_) (fun hq => ?_)
      rotate_left
      · refine g_iconst 0 C 60 rfl dX9_deal_59 ki_0 ?_
        refine g_goto C 69 dX9_deal_60 (by decide) ?_
        exact w_int (ws := fun s => cs9 a Δ s) hR hq hP hS dX9_deal_69 rfl rfl
      refine g_aload_n C 64 rfl dX9_deal_63 0 rfl ?_
      refine g_get (v := .ref (a 18)) (fs := fl9 a r5) C 67 rfl dX9_deal_64 hK hP la_X9 0 31 (Nat.le_of_ble_eq_true rfl) fl_X9_61 rfl rfl rfl rfl ?_
      refine g_iload_n C 68 rfl dX9_deal_67 1 rfl ?_
      refine s_iald C 69 rfl dX9_deal_68 hK hP 18 rfl hq (fun hq hi16 => ?_)
      exact w_int (ws := fun s => cs9 a Δ s) hR hq hP hS dX9_deal_69 rfl rfl
    refine g_iload_n C 71 rfl dX9_deal_70 1 rfl ?_
    refine g_istore [(4, .int x1), (0, .ref (a 0)), (1, .int x1), (2, .int x2), (3, .int x3)] C 73 rfl dX9_deal_71 (Nat.le_of_ble_eq_true rfl) rfl ?_
    refine g_iconst 0 C 74 rfl dX9_deal_73 ki_0 ?_
    refine g_istore [(5, .int 0), (4, .int x1), (0, .ref (a 0)), (1, .int x1), (2, .int x2), (3, .int x3)] C 76 rfl dX9_deal_74 (Nat.le_of_ble_eq_true rfl) rfl ?_
    refine g_iconst 0 C 77 rfl dX9_deal_76 ki_0 ?_
    refine g_istore [(6, .int 0), (5, .int 0), (4, .int x1), (0, .ref (a 0)), (1, .int x1), (2, .int x2), (3, .int x3)] C 79 rfl dX9_deal_77 (Nat.le_of_ble_eq_true rfl) rfl ?_
    have Q79 : ∀ (s : S9) (H : Heap) (L : List Loc) (hP : va_P Δ.1 classes (cs9 a Δ s) H) (hD : va_D A (cs9 a Δ s)) (hS : va_S A (sOf Γ).heap H L) (x3 : Int32), ∀ (n : Nat) (x4 : Int32) (x5 : Int32) (x6 : Int32) (o : (Int32)) (hq : lp_X9_deal_79 x3 s n x4 x5 x6 = some o) (E2 : g Γ { frames := 5, cells := 0, slots := 0, locals := 122 } 7 H L 0 0 142 [(5, .int o)] []), g Γ { frames := 5, cells := 0, slots := 0, locals := 122 } 7 H L 0 0 79 [(0, .ref (a 0)), (3, .int x3), (4, .int x4), (5, .int x5), (6, .int x6)] [] := by
      intro s H L hP hD hS
      intro x3
      intro n
      induction n with
      | zero => intro x4 x5 x6 o hq; exact nomatch (show (none : Option (Int32)) = some o from hq)
      | succ n ih =>
        intro x4 x5 x6 o hq E2
        have hq : bd_X9_deal_79 x3 s (lp_X9_deal_79 x3 s n) x4 x5 x6 = some o := hq
        refine g_iload C 81 rfl dX9_deal_79 4 rfl ?_
        refine g_iload_n C 82 rfl dX9_deal_81 1 rfl ?_
        refine s_icmp_gt C 142 85 rfl dX9_deal_82 (by decide) hq (fun hq => ?_) (fun hq => ?_)
        · cases hq
          exact g_sub [3] rfl (E2 )
        refine g_aload_n C 86 rfl dX9_deal_85 0 rfl ?_
        refine g_iload C 88 rfl dX9_deal_86 4 rfl ?_
        obtain ⟨r7, hz8, hq⟩ := bindE hq
        refine g_callRV (rest := []) C 91 rfl dX9_deal_88 (c_X9_isOne Γ.2.1 Δ a x6 s hz8) mv_X9_isOne ml_X9_107 hK hP rfl rfl rfl rfl rfl ⟨Nat.le_of_ble_eq_true rfl, Nat.le_of_ble_eq_true rfl⟩ (Nat.le_of_ble_eq_true rfl) ⟨Nat.zero_le _, Nat.zero_le _⟩ ?_
        refine s_if_eq C 136 94 rfl dX9_deal_91 (by decide) hq (fun hq => ?_) (fun hq => ?_)
        · refine g_iinc (x6 + 1) [(6, .int (x6 + 1)), (0, .ref (a 0)), (3, .int x3), (4, .int x4), (5, .int x5)] C 139 rfl dX9_deal_136 4 rfl (ii_1 _) (Nat.le_of_ble_eq_true rfl) rfl ?_
          refine g_goto C 79 dX9_deal_139 (by decide) ?_
          exact g_sub [1, 2, 3, 4, 0] rfl (ih x4 x5 (x6 + 1) _ hq E2)
        refine g_iconst 0 C 95 rfl dX9_deal_94 ki_0 ?_
        refine g_istore [(5, .int 0), (0, .ref (a 0)), (3, .int x3), (4, .int x4), (6, .int x6)] C 97 rfl dX9_deal_95 (Nat.le_of_ble_eq_true rfl) rfl ?_
        have Q97 : ∀ (s : S9) (H : Heap) (L : List Loc) (hP : va_P Δ.1 classes (cs9 a Δ s) H) (hD : va_D A (cs9 a Δ s)) (hS : va_S A (sOf Γ).heap H L) (x3 : Int32) (x4 : Int32) (x6 : Int32), ∀ (n : Nat) (x5 : Int32) (o : (Int32)) (hq : lp_X9_deal_97 x3 x4 x6 s n x5 = some o) (E2 : g Γ { frames := 5, cells := 0, slots := 0, locals := 122 } 7 H L 0 0 129 [(0, .ref (a 0)), (3, .int x3), (4, .int x4), (5, .int o), (6, .int x6)] []), g Γ { frames := 5, cells := 0, slots := 0, locals := 122 } 7 H L 0 0 97 [(0, .ref (a 0)), (3, .int x3), (4, .int x4), (5, .int x5), (6, .int x6)] [] := by
          intro s H L hP hD hS
          intro x3 x4 x6
          intro n
          induction n with
          | zero => intro x5 o hq; exact nomatch (show (none : Option (Int32)) = some o from hq)
          | succ n ih =>
            intro x5 o hq E2
            have hq : bd_X9_deal_97 x3 x4 x6 s (lp_X9_deal_97 x3 x4 x6 s n) x5 = some o := hq
            refine g_aload_n C 98 rfl dX9_deal_97 0 rfl ?_
            refine g_iload C 100 rfl dX9_deal_98 4 rfl ?_
            refine g_iload C 102 rfl dX9_deal_100 2 rfl ?_
            refine g_iload C 104 rfl dX9_deal_102 3 rfl ?_
            obtain ⟨r9, hz10, hq⟩ := bindE hq
            refine g_callRV (rest := []) C 107 rfl dX9_deal_104 (c_X9_slipsBy Γ.2.1 Δ a x6 x4 x5 s hz10) mv_X9_slipsBy ml_X9_261 hK hP rfl rfl rfl rfl rfl ⟨Nat.le_of_ble_eq_true rfl, Nat.le_of_ble_eq_true rfl⟩ (Nat.le_of_ble_eq_true rfl) ⟨Nat.zero_le _, Nat.zero_le _⟩ ?_
            refine g_aload_n C 108 rfl dX9_deal_107 0 rfl ?_
            refine g_get (v := .ref (a 18)) (fs := fl9 a s) C 111 rfl dX9_deal_108 hK hP la_X9 0 31 (Nat.le_of_ble_eq_true rfl) fl_X9_61 rfl rfl rfl rfl ?_
            refine g_bipush 21 C 113 rfl dX9_deal_111 kb_21 ?_
            refine g_iload C 115 rfl dX9_deal_113 4 rfl ?_
            refine g_imul C 116 rfl dX9_deal_115 ?_
            refine g_iload C 118 rfl dX9_deal_116 2 rfl ?_
            refine g_iadd C 119 rfl dX9_deal_118 ?_
            refine s_iald C 120 rfl dX9_deal_119 hK hP 18 rfl hq (fun hq hi11 => ?_)
            refine s_icmp_eq C 129 123 rfl dX9_deal_120 (by decide) hq (fun hq => ?_) (fun hq => ?_)
            · cases hq
              exact g_sub [0, 1, 2, 3, 4] rfl (E2 )
            refine g_iinc (x5 + 1) [(5, .int (x5 + 1)), (0, .ref (a 0)), (3, .int x3), (4, .int x4), (6, .int x6)] C 126 rfl dX9_deal_123 3 rfl (ii_1 _) (Nat.le_of_ble_eq_true rfl) rfl ?_
            refine g_goto C 97 dX9_deal_126 (by decide) ?_
            exact g_sub [1, 2, 3, 0, 4] rfl (ih (x5 + 1) _ hq E2)
        obtain ⟨o12, ho13, hq⟩ := bindE hq
        refine g_sub [1, 2, 3, 0, 4] rfl (Q97 s _ _ hP hD hS x3 x4 x6 FUEL 0 o12 ho13 (?_))
        refine g_iload C 131 rfl dX9_deal_129 2 rfl ?_
        refine g_iload C 133 rfl dX9_deal_131 3 rfl ?_
        refine g_isub C 134 rfl dX9_deal_133 ?_
        refine g_istore [(4, .int (x4 - o12)), (0, .ref (a 0)), (3, .int x3), (5, .int o12), (6, .int x6)] C 136 rfl dX9_deal_134 (Nat.le_of_ble_eq_true rfl) rfl ?_
        refine g_iinc (x6 + 1) [(6, .int (x6 + 1)), (4, .int (x4 - o12)), (0, .ref (a 0)), (3, .int x3), (5, .int o12)] C 139 rfl dX9_deal_136 4 rfl (ii_1 _) (Nat.le_of_ble_eq_true rfl) rfl ?_
        refine g_goto C 79 dX9_deal_139 (by decide) ?_
        exact g_sub [2, 3, 1, 4, 0] rfl (ih (x4 - o12) o12 (x6 + 1) _ hq E2)
    obtain ⟨o14, ho15, hq⟩ := bindE hq
    refine g_sub [3, 6, 2, 1, 0] rfl (Q79 r5 _ _ hP hD hS x3 FUEL x1 0 0 o14 ho15 (?_))
    refine g_iload C 144 rfl dX9_deal_142 0 rfl ?_
    exact w_int (ws := fun s => cs9 a Δ s) hR hq hP hS dX9_deal_144 rfl rfl
  show g Γ { frames := 5, cells := 0, slots := 0, locals := 122 } 7 H [] 0 0 0 [(0, .ref (a 0)), (1, .int x1), (2, .int x2), (3, .int x3)] []
  refine g_iload_n C 1 rfl dX9_deal_0 3 rfl ?_
  refine g_iconst (-1) C 2 rfl dX9_deal_1 ki_m1 ?_
  refine s_icmp_eq C 15 5 rfl dX9_deal_2 (by decide) hq (fun hq => ?_) (fun hq => ?_)
  · exact g_sub [0, 1, 2, 3] rfl (K15 x1 x2 x3 s _ _ hP hD hS hq)
  refine g_aload_n C 6 rfl dX9_deal_5 0 rfl ?_
  refine g_iload_n C 7 rfl dX9_deal_6 3 rfl ?_
  obtain ⟨r17, hz18, hq⟩ := bindE hq
  refine g_callRV (rest := []) C 10 rfl dX9_deal_7 (c_X9_isOne Γ.2.1 Δ a x3 s hz18) mv_X9_isOne ml_X9_107 hK hP rfl rfl rfl rfl rfl ⟨Nat.le_of_ble_eq_true rfl, Nat.le_of_ble_eq_true rfl⟩ (Nat.le_of_ble_eq_true rfl) ⟨Nat.zero_le _, Nat.zero_le _⟩ ?_
  refine s_if_ne C 15 13 rfl dX9_deal_10 (by decide) hq (fun hq => ?_) (fun hq => ?_)
  · exact g_sub [0, 1, 2, 3] rfl (K15 x1 x2 x3 s _ _ hP hD hS hq)
  refine g_iconst (-1) C 14 rfl dX9_deal_13 ki_m1 ?_
  exact w_int (ws := fun s => cs9 a Δ s) hR hq hP hS dX9_deal_14 rfl rfl
set_option maxHeartbeats 400000 in
set_option maxRecDepth 100000 in
theorem c_X9_maySit (l : Launch) (Δ : gD) (a : Nat → Nat) (x1 : Int32) (x2 : Int32) (x3 : Int32) (s : S9) {res : Int32} (hq : sem_X9_maySit x1 x2 x3 s = some res) : MR l yX9_maySit cX9_maySit 4 (some .boolean) Δ (cs9 a Δ s) [.ref (a 0), .int x1, .int x2, .int x3] 0 0 (.int res) := by
  refine MR.of (by decide) (Nat.le_of_ble_eq_true rfl) ?_
  intro Γ H hl C hK hP hR
  subst hl
  show g Γ { frames := 0, cells := 0, slots := 0, locals := 0 } 4 H [] 0 0 0 [(0, .ref (a 0)), (1, .int x1), (2, .int x2), (3, .int x3)] []
  refine g_aload_n C 1 rfl dX9_maySit_0 0 rfl ?_
  refine g_get (v := .ref (a 1)) (fs := fl9 a s) C 4 rfl dX9_maySit_1 hK hP la_X9 0 3 (Nat.le_of_ble_eq_true rfl) fl_X9_7 rfl rfl rfl rfl ?_
  refine g_iload_n C 5 rfl dX9_maySit_4 1 rfl ?_
  refine s_iald C 6 rfl dX9_maySit_5 hK hP 1 rfl hq (fun hq hi1 => ?_)
  refine g_aload_n C 7 rfl dX9_maySit_6 0 rfl ?_
  refine g_get (v := .ref (a 1)) (fs := fl9 a s) C 10 rfl dX9_maySit_7 hK hP la_X9 0 3 (Nat.le_of_ble_eq_true rfl) fl_X9_7 rfl rfl rfl rfl ?_
  refine g_iload_n C 11 rfl dX9_maySit_10 2 rfl ?_
  refine s_iald C 12 rfl dX9_maySit_11 hK hP 1 rfl hq (fun hq hi2 => ?_)
  refine g_iadd C 13 rfl dX9_maySit_12 ?_
  refine g_iload_n C 14 rfl dX9_maySit_13 3 rfl ?_
  refine s_icmp_gt C 21 17 rfl dX9_maySit_14 (by decide) hq (fun hq => ?_) (fun hq => ?_)
  · refine g_iconst 0 C 22 rfl dX9_maySit_21 ki_0 ?_
    exact r_int hR hq dX9_maySit_22 rfl rfl
  refine g_iconst 1 C 18 rfl dX9_maySit_17 ki_1 ?_
  refine g_goto C 22 dX9_maySit_18 (by decide) ?_
  exact r_int hR hq dX9_maySit_22 rfl rfl
set_option maxHeartbeats 400000 in
set_option maxRecDepth 100000 in
theorem c_X9_waysFrom (l : Launch) (Δ : gD) (a : Nat → Nat) (x1 : Int32) (x2 : Int32) (x3 : Int32) (s : S9) {res : Int32} (hq : sem_X9_waysFrom x1 x2 x3 s = some res) : MR l yX9_waysFrom cX9_waysFrom 7 (some .int) Δ (cs9 a Δ s) [.ref (a 0), .int x1, .int x2, .int x3] 2 46 (.int res) := by
  refine MR.of (by decide) (Nat.le_of_ble_eq_true rfl) ?_
  intro Γ H hl C hK hP hR
  subst hl
  have K13 : ∀ (x1 : Int32) (x2 : Int32) (x3 : Int32) (y0 : Int32), jn_X9_waysFrom_13 x1 x2 x3 y0 s = some res → g Γ { frames := 2, cells := 0, slots := 0, locals := 46 } 7 H [] 0 0 13 [(0, .ref (a 0)), (1, .int x1), (2, .int x2), (3, .int x3)] [.int y0] := by
    intro x1 x2 x3 y0 hq
    refine g_istore [(4, .int y0), (0, .ref (a 0)), (1, .int x1), (2, .int x2), (3, .int x3)] C 15 rfl dX9_waysFrom_13 (Nat.le_of_ble_eq_true rfl) rfl ?_
    refine g_iconst 0 C 16 rfl dX9_waysFrom_15 ki_0 ?_
    refine g_istore [(5, .int 0), (4, .int y0), (0, .ref (a 0)), (1, .int x1), (2, .int x2), (3, .int x3)] C 18 rfl dX9_waysFrom_16 (Nat.le_of_ble_eq_true rfl) rfl ?_
    have Q18 : ∀ (x1 : Int32) (x2 : Int32) (x3 : Int32), ∀ (n : Nat) (x4 : Int32) (x5 : Int32) (o : (Int32)) (hq : lp_X9_waysFrom_18 x1 x2 x3 s n x4 x5 = some o) (E2 : g Γ { frames := 2, cells := 0, slots := 0, locals := 46 } 7 H [] 0 0 98 [(4, .int o)] []), g Γ { frames := 2, cells := 0, slots := 0, locals := 46 } 7 H [] 0 0 18 [(0, .ref (a 0)), (1, .int x1), (2, .int x2), (3, .int x3), (4, .int x4), (5, .int x5)] [] := by
      intro x1 x2 x3
      intro n
      induction n with
      | zero => intro x4 x5 o hq; exact nomatch (show (none : Option (Int32)) = some o from hq)
      | succ n ih =>
        intro x4 x5 o hq E2
        have hq : bd_X9_waysFrom_18 x1 x2 x3 s (lp_X9_waysFrom_18 x1 x2 x3 s n) x4 x5 = some o := hq
        have K59 : ∀ (x4 : Int32) (x5 : Int32) (y0 : Int32), jn_X9_waysFrom_59 (lp_X9_waysFrom_18 x1 x2 x3 s n) x1 x2 x3 x4 x5 y0 s = some o → g Γ { frames := 2, cells := 0, slots := 0, locals := 46 } 7 H [] 0 0 59 [(0, .ref (a 0)), (1, .int x1), (2, .int x2), (3, .int x3), (4, .int x4), (5, .int x5)] [.int y0] := by
          intro x4 x5 y0 hq
          refine g_istore [(6, .int y0), (0, .ref (a 0)), (1, .int x1), (2, .int x2), (3, .int x3), (4, .int x4), (5, .int x5)] C 61 rfl dX9_waysFrom_59 (Nat.le_of_ble_eq_true rfl) rfl ?_
          refine g_iload C 63 rfl dX9_waysFrom_61 5 rfl ?_
          refine g_iload C 65 rfl dX9_waysFrom_63 0 rfl ?_
          refine s_if_eq C 88 68 rfl dX9_waysFrom_65 (by decide) hq (fun hq => ?_) (fun hq => ?_)
          · refine g_iconst 0 C 89 rfl dX9_waysFrom_88 ki_0 ?_
            refine g_iadd C 90 rfl dX9_waysFrom_89 ?_
            refine g_istore [(4, .int (x4 + 0)), (6, .int y0), (0, .ref (a 0)), (1, .int x1), (2, .int x2), (3, .int x3), (5, .int x5)] C 92 rfl dX9_waysFrom_90 (Nat.le_of_ble_eq_true rfl) rfl ?_
            refine g_iinc (x5 + 1) [(5, .int (x5 + 1)), (4, .int (x4 + 0)), (6, .int y0), (0, .ref (a 0)), (1, .int x1), (2, .int x2), (3, .int x3)] C 95 rfl dX9_waysFrom_92 6 rfl (ii_1 _) (Nat.le_of_ble_eq_true rfl) rfl ?_
            refine g_goto C 18 dX9_waysFrom_95 (by decide) ?_
            exact g_sub [3, 4, 5, 6, 1, 0] rfl (ih (x4 + 0) (x5 + 1) _ hq E2)
          refine g_aload_n C 69 rfl dX9_waysFrom_68 1 rfl ?_
          refine g_get (v := .ref (a 19)) (fs := fl9 a s) C 72 rfl dX9_waysFrom_69 hK hP la_X9 0 32 (Nat.le_of_ble_eq_true rfl) fl_X9_64 rfl rfl rfl rfl ?_
          refine g_bipush 6 C 74 rfl dX9_waysFrom_72 kb_6 ?_
          refine g_iload_n C 75 rfl dX9_waysFrom_74 2 rfl ?_
          refine g_iconst 1 C 76 rfl dX9_waysFrom_75 ki_1 ?_
          refine g_iload C 78 rfl dX9_waysFrom_76 6 rfl ?_
          refine g_ishl C 79 rfl dX9_waysFrom_78 ?_
          refine g_ior C 80 rfl dX9_waysFrom_79 ?_
          refine g_imul C 81 rfl dX9_waysFrom_80 ?_
          refine g_iload C 83 rfl dX9_waysFrom_81 6 rfl ?_
          refine g_iadd C 84 rfl dX9_waysFrom_83 ?_
          refine s_iald C 85 rfl dX9_waysFrom_84 hK hP 19 rfl hq (fun hq hi1 => ?_)
          refine g_goto C 89 dX9_waysFrom_85 (by decide) ?_
          refine g_iadd C 90 rfl dX9_waysFrom_89 ?_
          refine g_istore [(4, .int (x4 + ((x9_waysOn s) (((6 * (x1 ||| ((1 : Int32) <<< (x5 &&& 31)))) + x5) : Int32).toNatClampNeg))), (6, .int y0), (0, .ref (a 0)), (1, .int x1), (2, .int x2), (3, .int x3), (5, .int x5)] C 92 rfl dX9_waysFrom_90 (Nat.le_of_ble_eq_true rfl) rfl ?_
          refine g_iinc (x5 + 1) [(5, .int (x5 + 1)), (4, .int (x4 + ((x9_waysOn s) (((6 * (x1 ||| ((1 : Int32) <<< (x5 &&& 31)))) + x5) : Int32).toNatClampNeg))), (6, .int y0), (0, .ref (a 0)), (1, .int x1), (2, .int x2), (3, .int x3)] C 95 rfl dX9_waysFrom_92 6 rfl (ii_1 _) (Nat.le_of_ble_eq_true rfl) rfl ?_
          refine g_goto C 18 dX9_waysFrom_95 (by decide) ?_
          exact g_sub [3, 4, 5, 6, 1, 0] rfl (ih (x4 + ((x9_waysOn s) (((6 * (x1 ||| ((1 : Int32) <<< (x5 &&& 31)))) + x5) : Int32).toNatClampNeg)) (x5 + 1) _ hq E2)
        have K58 : ∀ (x4 : Int32) (x5 : Int32), jn_X9_waysFrom_58 (lp_X9_waysFrom_18 x1 x2 x3 s n) x1 x2 x3 x4 x5 s = some o → g Γ { frames := 2, cells := 0, slots := 0, locals := 46 } 7 H [] 0 0 58 [(0, .ref (a 0)), (1, .int x1), (2, .int x2), (3, .int x3), (4, .int x4), (5, .int x5)] [] := by
          intro x4 x5 hq
          refine g_iconst 0 C 59 rfl dX9_waysFrom_58 ki_0 ?_
          exact g_sub [0, 1, 2, 3, 4, 5] rfl (K59 x4 x5 0 hq)
        refine g_iload C 20 rfl dX9_waysFrom_18 5 rfl ?_
        refine g_bipush 6 C 22 rfl dX9_waysFrom_20 kb_6 ?_
        refine s_icmp_ge C 98 25 rfl dX9_waysFrom_22 (by decide) hq (fun hq => ?_) (fun hq => ?_)
        · cases hq
          exact g_sub [4] rfl (E2 )
        refine g_aload_n C 26 rfl dX9_waysFrom_25 0 rfl ?_
        refine g_iload C 28 rfl dX9_waysFrom_26 5 rfl ?_
        obtain ⟨r2, hz3, hq⟩ := bindE hq
        refine g_callRV (rest := []) C 31 rfl dX9_waysFrom_28 (c_X9_isOne Γ.2.1 Δ a x5 s hz3) mv_X9_isOne ml_X9_107 hK hP rfl rfl rfl rfl rfl ⟨Nat.le_of_ble_eq_true rfl, Nat.le_of_ble_eq_true rfl⟩ (Nat.le_of_ble_eq_true rfl) ⟨Nat.zero_le _, Nat.zero_le _⟩ ?_
        refine s_if_eq C 58 34 rfl dX9_waysFrom_31 (by decide) hq (fun hq => ?_) (fun hq => ?_)
        · exact g_sub [0, 1, 2, 3, 4, 5] rfl (K58 x4 x5 hq)
        refine g_iload_n C 35 rfl dX9_waysFrom_34 1 rfl ?_
        refine g_iload C 37 rfl dX9_waysFrom_35 5 rfl ?_
        refine g_ishr C 38 rfl dX9_waysFrom_37 ?_
        refine g_iconst 1 C 39 rfl dX9_waysFrom_38 ki_1 ?_
        refine g_iand C 40 rfl dX9_waysFrom_39 ?_
        refine s_if_ne C 58 43 rfl dX9_waysFrom_40 (by decide) hq (fun hq => ?_) (fun hq => ?_)
        · exact g_sub [0, 1, 2, 3, 4, 5] rfl (K58 x4 x5 hq)
        refine g_aload_n C 44 rfl dX9_waysFrom_43 0 rfl ?_
        refine g_iload_n C 45 rfl dX9_waysFrom_44 2 rfl ?_
        refine g_iload C 47 rfl dX9_waysFrom_45 5 rfl ?_
        refine g_iload_n C 48 rfl dX9_waysFrom_47 3 rfl ?_
        obtain ⟨r4, hz5, hq⟩ := bindE hq
        refine g_callRV (rest := []) C 51 rfl dX9_waysFrom_48 (c_X9_maySit Γ.2.1 Δ a x2 x5 x3 s hz5) mv_X9_maySit ml_X9_270 hK hP rfl rfl rfl rfl rfl ⟨Nat.le_of_ble_eq_true rfl, Nat.le_of_ble_eq_true rfl⟩ (Nat.le_of_ble_eq_true rfl) ⟨Nat.zero_le _, Nat.zero_le _⟩ ?_
        refine s_if_eq C 58 54 rfl dX9_waysFrom_51 (by decide) hq (fun hq => ?_) (fun hq => ?_)
        · exact g_sub [0, 1, 2, 3, 4, 5] rfl (K58 x4 x5 hq)
        refine g_iconst 1 C 55 rfl dX9_waysFrom_54 ki_1 ?_
        refine g_goto C 59 dX9_waysFrom_55 (by decide) ?_
        exact g_sub [0, 1, 2, 3, 4, 5] rfl (K59 x4 x5 1 hq)
    obtain ⟨o6, ho7, hq⟩ := bindE hq
    refine g_sub [2, 3, 4, 5, 1, 0] rfl (Q18 x1 x2 x3 FUEL y0 0 o6 ho7 (?_))
    refine g_iload C 100 rfl dX9_waysFrom_98 0 rfl ?_
    exact r_int hR hq dX9_waysFrom_100 rfl rfl
  show g Γ { frames := 2, cells := 0, slots := 0, locals := 46 } 7 H [] 0 0 0 [(0, .ref (a 0)), (1, .int x1), (2, .int x2), (3, .int x3)] []
  refine g_iload_n C 1 rfl dX9_waysFrom_0 1 rfl ?_
  refine g_aload_n C 2 rfl dX9_waysFrom_1 0 rfl ?_
  refine g_get (v := .int (x9_there s)) (fs := fl9 a s) C 5 rfl dX9_waysFrom_2 hK hP la_X9 0 0 (Nat.le_of_ble_eq_true rfl) fl_X9_94 rfl rfl rfl rfl ?_
  refine s_icmp_ne C 12 8 rfl dX9_waysFrom_5 (by decide) hq (fun hq => ?_) (fun hq => ?_)
  · refine g_iconst 0 C 13 rfl dX9_waysFrom_12 ki_0 ?_
    exact g_sub [0, 1, 2, 3] rfl (K13 x1 x2 x3 0 hq)
  refine g_iconst 1 C 9 rfl dX9_waysFrom_8 ki_1 ?_
  refine g_goto C 13 dX9_waysFrom_9 (by decide) ?_
  exact g_sub [0, 1, 2, 3] rfl (K13 x1 x2 x3 1 hq)
set_option maxHeartbeats 400000 in
set_option maxRecDepth 100000 in
theorem c_X9_firstSeats (l : Launch) (Δ : gD) (a : Nat → Nat) (x1 : Int32) (s : S9) {res : Int32} (hq : sem_X9_firstSeats x1 s = some res) : MR l yX9_firstSeats cX9_firstSeats 8 (some .int) Δ (cs9 a Δ s) [.ref (a 0), .int x1] 2 46 (.int res) := by
  refine MR.of (by decide) (Nat.le_of_ble_eq_true rfl) ?_
  intro Γ H hl C hK hP hR
  subst hl
  show g Γ { frames := 2, cells := 0, slots := 0, locals := 46 } 8 H [] 0 0 0 [(0, .ref (a 0)), (1, .int x1)] []
  refine g_iconst 0 C 1 rfl dX9_firstSeats_0 ki_0 ?_
  refine g_istore_n [(2, .int 0), (0, .ref (a 0)), (1, .int x1)] C 2 rfl dX9_firstSeats_1 (Nat.le_of_ble_eq_true rfl) rfl ?_
  refine g_iconst 0 C 3 rfl dX9_firstSeats_2 ki_0 ?_
  refine g_istore_n [(3, .int 0), (2, .int 0), (0, .ref (a 0)), (1, .int x1)] C 4 rfl dX9_firstSeats_3 (Nat.le_of_ble_eq_true rfl) rfl ?_
  refine g_bipush (-6) C 6 rfl dX9_firstSeats_4 kb_m6 ?_
  refine g_istore [(4, .int (-6)), (3, .int 0), (2, .int 0), (0, .ref (a 0)), (1, .int x1)] C 8 rfl dX9_firstSeats_6 (Nat.le_of_ble_eq_true rfl) rfl ?_
  have Q8 : ∀ (x1 : Int32), ∀ (n : Nat) (x2 : Int32) (x3 : Int32) (x4 : Int32) (o : ((Int32) ⊕ (Int32))) (hq : lp_X9_firstSeats_8 x1 s n x2 x3 x4 = some o) (E1 : ∀ r, o = .inl r → gRet Γ { frames := 2, cells := 0, slots := 0, locals := 46 } 8 cX9_firstSeats (some .int) H (.int r)) (E2 : ∀ x, o = .inr x → g Γ { frames := 2, cells := 0, slots := 0, locals := 46 } 8 H [] 0 0 140 [(2, .int x)] []), g Γ { frames := 2, cells := 0, slots := 0, locals := 46 } 8 H [] 0 0 8 [(0, .ref (a 0)), (1, .int x1), (2, .int x2), (3, .int x3), (4, .int x4)] [] := by
    intro x1
    intro n
    induction n with
    | zero => intro x2 x3 x4 o hq; exact nomatch (show (none : Option ((Int32) ⊕ (Int32))) = some o from hq)
    | succ n ih =>
      intro x2 x3 x4 o hq E1 E2
      have hq : bd_X9_firstSeats_8 x1 s (lp_X9_firstSeats_8 x1 s n) x2 x3 x4 = some o := hq
      refine g_iload_n C 9 rfl dX9_firstSeats_8 3 rfl ?_
      refine g_aload_n C 10 rfl dX9_firstSeats_9 0 rfl ?_
      refine g_get (v := .int (x9_there s)) (fs := fl9 a s) C 13 rfl dX9_firstSeats_10 hK hP la_X9 0 0 (Nat.le_of_ble_eq_true rfl) fl_X9_94 rfl rfl rfl rfl ?_
      refine s_icmp_eq C 140 16 rfl dX9_firstSeats_13 (by decide) hq (fun hq => ?_) (fun hq => ?_)
      · cases hq
        exact g_sub [2] rfl (E2 _ rfl )
      refine g_bipush (-6) C 18 rfl dX9_firstSeats_16 kb_m6 ?_
      refine g_istore [(5, .int (-6)), (0, .ref (a 0)), (1, .int x1), (2, .int x2), (3, .int x3), (4, .int x4)] C 20 rfl dX9_firstSeats_18 (Nat.le_of_ble_eq_true rfl) rfl ?_
      refine g_iconst 5 C 21 rfl dX9_firstSeats_20 ki_5 ?_
      refine g_istore [(6, .int 5), (5, .int (-6)), (0, .ref (a 0)), (1, .int x1), (2, .int x2), (3, .int x3), (4, .int x4)] C 23 rfl dX9_firstSeats_21 (Nat.le_of_ble_eq_true rfl) rfl ?_
      have Q23 : ∀ (x1 : Int32) (x2 : Int32) (x3 : Int32) (x4 : Int32), ∀ (n : Nat) (x5 : Int32) (x6 : Int32) (o : (Int32)) (hq : lp_X9_firstSeats_23 x1 x2 x3 x4 s n x5 x6 = some o) (E2 : g Γ { frames := 2, cells := 0, slots := 0, locals := 46 } 8 H [] 0 0 110 [(0, .ref (a 0)), (1, .int x1), (2, .int x2), (3, .int x3), (5, .int o)] []), g Γ { frames := 2, cells := 0, slots := 0, locals := 46 } 8 H [] 0 0 23 [(0, .ref (a 0)), (1, .int x1), (2, .int x2), (3, .int x3), (4, .int x4), (5, .int x5), (6, .int x6)] [] := by
        intro x1 x2 x3 x4
        intro n
        induction n with
        | zero => intro x5 x6 o hq; exact nomatch (show (none : Option (Int32)) = some o from hq)
        | succ n ih =>
          intro x5 x6 o hq E2
          have hq : bd_X9_firstSeats_23 x1 x2 x3 x4 s (lp_X9_firstSeats_23 x1 x2 x3 x4 s n) x5 x6 = some o := hq
          have K68 : ∀ (x5 : Int32) (x6 : Int32) (y0 : Int32), jn_X9_firstSeats_68 (lp_X9_firstSeats_23 x1 x2 x3 x4 s n) x1 x2 x3 x4 x5 x6 y0 s = some o → g Γ { frames := 2, cells := 0, slots := 0, locals := 46 } 8 H [] 0 0 68 [(0, .ref (a 0)), (1, .int x1), (2, .int x2), (3, .int x3), (4, .int x4), (5, .int x5), (6, .int x6)] [.int y0] := by
            intro x5 x6 y0 hq
            refine g_istore [(7, .int y0), (0, .ref (a 0)), (1, .int x1), (2, .int x2), (3, .int x3), (4, .int x4), (5, .int x5), (6, .int x6)] C 70 rfl dX9_firstSeats_68 (Nat.le_of_ble_eq_true rfl) rfl ?_
            refine g_iload C 72 rfl dX9_firstSeats_70 0 rfl ?_
            refine s_if_eq C 100 75 rfl dX9_firstSeats_72 (by decide) hq (fun hq => ?_) (fun hq => ?_)
            · refine g_iload C 102 rfl dX9_firstSeats_100 6 rfl ?_
              refine g_istore [(5, .int x5), (7, .int y0), (0, .ref (a 0)), (1, .int x1), (2, .int x2), (3, .int x3), (4, .int x4), (6, .int x6)] C 104 rfl dX9_firstSeats_102 (Nat.le_of_ble_eq_true rfl) rfl ?_
              refine g_iinc (x6 - 1) [(6, .int (x6 - 1)), (5, .int x5), (7, .int y0), (0, .ref (a 0)), (1, .int x1), (2, .int x2), (3, .int x3), (4, .int x4)] C 107 rfl dX9_firstSeats_104 7 rfl (ii_m1 _) (Nat.le_of_ble_eq_true rfl) rfl ?_
              refine g_goto C 23 dX9_firstSeats_107 (by decide) ?_
              exact g_sub [3, 4, 5, 6, 7, 1, 0] rfl (ih x5 (x6 - 1) _ hq E2)
            refine g_aload_n C 76 rfl dX9_firstSeats_75 1 rfl ?_
            refine g_get (v := .ref (a 19)) (fs := fl9 a s) C 79 rfl dX9_firstSeats_76 hK hP la_X9 0 32 (Nat.le_of_ble_eq_true rfl) fl_X9_64 rfl rfl rfl rfl ?_
            refine g_bipush 6 C 81 rfl dX9_firstSeats_79 kb_6 ?_
            refine g_iload_n C 82 rfl dX9_firstSeats_81 4 rfl ?_
            refine g_iconst 1 C 83 rfl dX9_firstSeats_82 ki_1 ?_
            refine g_iload C 85 rfl dX9_firstSeats_83 7 rfl ?_
            refine g_ishl C 86 rfl dX9_firstSeats_85 ?_
            refine g_ior C 87 rfl dX9_firstSeats_86 ?_
            refine g_imul C 88 rfl dX9_firstSeats_87 ?_
            refine g_iload C 90 rfl dX9_firstSeats_88 7 rfl ?_
            refine g_iadd C 91 rfl dX9_firstSeats_90 ?_
            refine s_iald C 92 rfl dX9_firstSeats_91 hK hP 19 rfl hq (fun hq hi1 => ?_)
            refine s_if_le C 100 95 rfl dX9_firstSeats_92 (by decide) hq (fun hq => ?_) (fun hq => ?_)
            · refine g_iload C 102 rfl dX9_firstSeats_100 6 rfl ?_
              refine g_istore [(5, .int x5), (7, .int y0), (0, .ref (a 0)), (1, .int x1), (2, .int x2), (3, .int x3), (4, .int x4), (6, .int x6)] C 104 rfl dX9_firstSeats_102 (Nat.le_of_ble_eq_true rfl) rfl ?_
              refine g_iinc (x6 - 1) [(6, .int (x6 - 1)), (5, .int x5), (7, .int y0), (0, .ref (a 0)), (1, .int x1), (2, .int x2), (3, .int x3), (4, .int x4)] C 107 rfl dX9_firstSeats_104 7 rfl (ii_m1 _) (Nat.le_of_ble_eq_true rfl) rfl ?_
              refine g_goto C 23 dX9_firstSeats_107 (by decide) ?_
              exact g_sub [3, 4, 5, 6, 7, 1, 0] rfl (ih x5 (x6 - 1) _ hq E2)
            refine g_iload C 97 rfl dX9_firstSeats_95 7 rfl ?_
            refine g_goto C 102 dX9_firstSeats_97 (by decide) ?_
            refine g_istore [(5, .int x6), (7, .int y0), (0, .ref (a 0)), (1, .int x1), (2, .int x2), (3, .int x3), (4, .int x4), (6, .int x6)] C 104 rfl dX9_firstSeats_102 (Nat.le_of_ble_eq_true rfl) rfl ?_
            refine g_iinc (x6 - 1) [(6, .int (x6 - 1)), (5, .int x6), (7, .int y0), (0, .ref (a 0)), (1, .int x1), (2, .int x2), (3, .int x3), (4, .int x4)] C 107 rfl dX9_firstSeats_104 7 rfl (ii_m1 _) (Nat.le_of_ble_eq_true rfl) rfl ?_
            refine g_goto C 23 dX9_firstSeats_107 (by decide) ?_
            exact g_sub [3, 4, 5, 6, 7, 1, 0] rfl (ih x6 (x6 - 1) _ hq E2)
          have K67 : ∀ (x5 : Int32) (x6 : Int32), jn_X9_firstSeats_67 (lp_X9_firstSeats_23 x1 x2 x3 x4 s n) x1 x2 x3 x4 x5 x6 s = some o → g Γ { frames := 2, cells := 0, slots := 0, locals := 46 } 8 H [] 0 0 67 [(0, .ref (a 0)), (1, .int x1), (2, .int x2), (3, .int x3), (4, .int x4), (5, .int x5), (6, .int x6)] [] := by
            intro x5 x6 hq
            refine g_iconst 0 C 68 rfl dX9_firstSeats_67 ki_0 ?_
            exact g_sub [0, 1, 2, 3, 4, 5, 6] rfl (K68 x5 x6 0 hq)
          have K63 : ∀ (x5 : Int32) (x6 : Int32), jn_X9_firstSeats_63 (lp_X9_firstSeats_23 x1 x2 x3 x4 s n) x1 x2 x3 x4 x5 x6 s = some o → g Γ { frames := 2, cells := 0, slots := 0, locals := 46 } 8 H [] 0 0 63 [(0, .ref (a 0)), (1, .int x1), (2, .int x2), (3, .int x3), (4, .int x4), (5, .int x5), (6, .int x6)] [] := by
            intro x5 x6 hq
            refine g_iconst 1 C 64 rfl dX9_firstSeats_63 ki_1 ?_
            refine g_goto C 68 dX9_firstSeats_64 (by decide) ?_
            exact g_sub [0, 1, 2, 3, 4, 5, 6] rfl (K68 x5 x6 1 hq)
          refine g_iload C 25 rfl dX9_firstSeats_23 6 rfl ?_
          refine s_if_lt C 110 28 rfl dX9_firstSeats_25 (by decide) hq (fun hq => ?_) (fun hq => ?_)
          · cases hq
            exact g_sub [0, 1, 2, 3, 5] rfl (E2 )
          refine g_aload_n C 29 rfl dX9_firstSeats_28 0 rfl ?_
          refine g_iload C 31 rfl dX9_firstSeats_29 6 rfl ?_
          obtain ⟨r2, hz3, hq⟩ := bindE hq
          refine g_callRV (rest := []) C 34 rfl dX9_firstSeats_31 (c_X9_isOne Γ.2.1 Δ a x6 s hz3) mv_X9_isOne ml_X9_107 hK hP rfl rfl rfl rfl rfl ⟨Nat.le_of_ble_eq_true rfl, Nat.le_of_ble_eq_true rfl⟩ (Nat.le_of_ble_eq_true rfl) ⟨Nat.zero_le _, Nat.zero_le _⟩ ?_
          refine s_if_eq C 67 37 rfl dX9_firstSeats_34 (by decide) hq (fun hq => ?_) (fun hq => ?_)
          · exact g_sub [0, 1, 2, 3, 4, 5, 6] rfl (K67 x5 x6 hq)
          refine g_iload_n C 38 rfl dX9_firstSeats_37 3 rfl ?_
          refine g_iload C 40 rfl dX9_firstSeats_38 6 rfl ?_
          refine g_ishr C 41 rfl dX9_firstSeats_40 ?_
          refine g_iconst 1 C 42 rfl dX9_firstSeats_41 ki_1 ?_
          refine g_iand C 43 rfl dX9_firstSeats_42 ?_
          refine s_if_ne C 67 46 rfl dX9_firstSeats_43 (by decide) hq (fun hq => ?_) (fun hq => ?_)
          · exact g_sub [0, 1, 2, 3, 4, 5, 6] rfl (K67 x5 x6 hq)
          refine g_iload C 48 rfl dX9_firstSeats_46 4 rfl ?_
          refine s_if_lt C 63 51 rfl dX9_firstSeats_48 (by decide) hq (fun hq => ?_) (fun hq => ?_)
          · exact g_sub [0, 1, 2, 3, 4, 5, 6] rfl (K63 x5 x6 hq)
          refine g_aload_n C 52 rfl dX9_firstSeats_51 0 rfl ?_
          refine g_iload C 54 rfl dX9_firstSeats_52 4 rfl ?_
          refine g_iload C 56 rfl dX9_firstSeats_54 6 rfl ?_
          refine g_iload_n C 57 rfl dX9_firstSeats_56 1 rfl ?_
          obtain ⟨r4, hz5, hq⟩ := bindE hq
          refine g_callRV (rest := []) C 60 rfl dX9_firstSeats_57 (c_X9_maySit Γ.2.1 Δ a x4 x6 x1 s hz5) mv_X9_maySit ml_X9_270 hK hP rfl rfl rfl rfl rfl ⟨Nat.le_of_ble_eq_true rfl, Nat.le_of_ble_eq_true rfl⟩ (Nat.le_of_ble_eq_true rfl) ⟨Nat.zero_le _, Nat.zero_le _⟩ ?_
          refine s_if_eq C 67 63 rfl dX9_firstSeats_60 (by decide) hq (fun hq => ?_) (fun hq => ?_)
          · exact g_sub [0, 1, 2, 3, 4, 5, 6] rfl (K67 x5 x6 hq)
          exact g_sub [0, 1, 2, 3, 4, 5, 6] rfl (K63 x5 x6 hq)
      obtain ⟨o6, ho7, hq⟩ := bindE hq
      refine g_sub [2, 3, 4, 5, 6, 1, 0] rfl (Q23 x1 x2 x3 x4 FUEL (-6) 5 o6 ho7 (?_))
      refine g_iload C 112 rfl dX9_firstSeats_110 4 rfl ?_
      refine s_if_ge C 118 115 rfl dX9_firstSeats_112 (by decide) hq (fun hq => ?_) (fun hq => ?_)
      rotate_left
      · refine g_bipush (-6) C 117 rfl dX9_firstSeats_115 kb_m6 ?_
        cases hq
        exact r_int (E1 _ rfl) rfl dX9_firstSeats_117 rfl rfl
      refine g_iload_n C 119 rfl dX9_firstSeats_118 3 rfl ?_
      refine g_iconst 1 C 120 rfl dX9_firstSeats_119 ki_1 ?_
      refine g_iload C 122 rfl dX9_firstSeats_120 4 rfl ?_
      refine g_ishl C 123 rfl dX9_firstSeats_122 ?_
      refine g_ior C 124 rfl dX9_firstSeats_123 ?_
      refine g_istore_n [(3, .int (x3 ||| ((1 : Int32) <<< (o6 &&& 31)))), (0, .ref (a 0)), (1, .int x1), (2, .int x2), (5, .int o6)] C 125 rfl dX9_firstSeats_124 (Nat.le_of_ble_eq_true rfl) rfl ?_
      refine g_iload C 127 rfl dX9_firstSeats_125 4 rfl ?_
      refine g_istore [(4, .int o6), (3, .int (x3 ||| ((1 : Int32) <<< (o6 &&& 31)))), (0, .ref (a 0)), (1, .int x1), (2, .int x2), (5, .int o6)] C 129 rfl dX9_firstSeats_127 (Nat.le_of_ble_eq_true rfl) rfl ?_
      refine g_bipush 10 C 131 rfl dX9_firstSeats_129 kb_10 ?_
      refine g_iload_n C 132 rfl dX9_firstSeats_131 4 rfl ?_
      refine g_imul C 133 rfl dX9_firstSeats_132 ?_
      refine g_iload C 135 rfl dX9_firstSeats_133 5 rfl ?_
      refine g_iadd C 136 rfl dX9_firstSeats_135 ?_
      refine g_istore_n [(2, .int ((10 * x2) + o6)), (4, .int o6), (3, .int (x3 ||| ((1 : Int32) <<< (o6 &&& 31)))), (0, .ref (a 0)), (1, .int x1), (5, .int o6)] C 137 rfl dX9_firstSeats_136 (Nat.le_of_ble_eq_true rfl) rfl ?_
      refine g_goto C 8 dX9_firstSeats_137 (by decide) ?_
      exact g_sub [3, 4, 0, 2, 1] rfl (ih ((10 * x2) + o6) (x3 ||| ((1 : Int32) <<< (o6 &&& 31))) o6 _ hq E1 E2)
  obtain ⟨o8, ho9, hq⟩ := bindE hq
  refine g_sub [3, 4, 2, 1, 0] rfl (Q8 x1 FUEL 0 0 (-6) o8 ho9 (fun r er => ?_) (fun xo8 er => ?_))
  · rw [er] at hq
    cases hq
    exact hR
  rw [er] at hq
  clear er
  refine g_iload_n C 141 rfl dX9_firstSeats_140 0 rfl ?_
  exact r_int hR hq dX9_firstSeats_141 rfl rfl
set_option maxHeartbeats 400000 in
set_option maxRecDepth 100000 in
theorem c_X9_seats (l : Launch) (Δ : gD) (a : Nat → Nat) (x1 : Int32) (x2 : Int32) (s : S9) {res : Int32 × S9} (hq : sem_X9_seats x1 x2 s = some res) : MW l yX9_seats cX9_seats 6 (some .int) Δ (cs9 a Δ s) [.ref (a 0), .int x1, .int x2] 3 73 (some (.int res.1)) (cs9 a Δ res.2) := by
  refine MW.of (by decide) (Nat.le_of_ble_eq_true rfl) ?_
  intro Γ A H hl C hK hP hD hS hA hR
  subst hl
  have K134 : ∀ (y0 : Int32) (s : S9) (H : Heap) (L : List Loc) (hP : va_P Δ.1 classes (cs9 a Δ s) H) (hD : va_D A (cs9 a Δ s)) (hS : va_S A (sOf Γ).heap H L), jn_X9_seats_134 y0 s = some res → g Γ { frames := 3, cells := 0, slots := 0, locals := 73 } 6 H L 0 0 134 [(0, .ref (a 0))] [.int y0] := by
    intro y0 s H L hP hD hS hq
    refine g_istore_n [(3, .int y0), (0, .ref (a 0))] C 135 rfl dX9_seats_134 (Nat.le_of_ble_eq_true rfl) rfl ?_
    refine g_iconst 0 C 136 rfl dX9_seats_135 ki_0 ?_
    refine g_istore [(4, .int 0), (3, .int y0), (0, .ref (a 0))] C 138 rfl dX9_seats_136 (Nat.le_of_ble_eq_true rfl) rfl ?_
    have Q138 : ∀ (s : S9) (H : Heap) (L : List Loc) (hP : va_P Δ.1 classes (cs9 a Δ s) H) (hD : va_D A (cs9 a Δ s)) (hS : va_S A (sOf Γ).heap H L) , ∀ (n : Nat) (x3 : Int32) (x4 : Int32) (o : (Int32)) (hq : lp_X9_seats_138 s n x3 x4 = some o) (E2 : g Γ { frames := 3, cells := 0, slots := 0, locals := 73 } 6 H L 0 0 182 [(3, .int o)] []), g Γ { frames := 3, cells := 0, slots := 0, locals := 73 } 6 H L 0 0 138 [(0, .ref (a 0)), (3, .int x3), (4, .int x4)] [] := by
      intro s H L hP hD hS
      intro n
      induction n with
      | zero => intro x3 x4 o hq; exact nomatch (show (none : Option (Int32)) = some o from hq)
      | succ n ih =>
        intro x3 x4 o hq E2
        have hq : bd_X9_seats_138 s (lp_X9_seats_138 s n) x3 x4 = some o := hq
        refine g_iload C 140 rfl dX9_seats_138 2 rfl ?_
        refine g_bipush 6 C 142 rfl dX9_seats_140 kb_6 ?_
        refine s_icmp_ge C 182 145 rfl dX9_seats_142 (by decide) hq (fun hq => ?_) (fun hq => ?_)
        · cases hq
          exact g_sub [1] rfl (E2 )
        refine g_iload_n C 146 rfl dX9_seats_145 1 rfl ?_
        refine g_aload_n C 147 rfl dX9_seats_146 0 rfl ?_
        refine g_iload C 149 rfl dX9_seats_147 2 rfl ?_
        obtain ⟨r1, hz2, hq⟩ := bindE hq
        refine g_callRV (rest := [.int x3]) C 152 rfl dX9_seats_149 (c_X9_isOne Γ.2.1 Δ a x4 s hz2) mv_X9_isOne ml_X9_107 hK hP rfl rfl rfl rfl rfl ⟨Nat.le_of_ble_eq_true rfl, Nat.le_of_ble_eq_true rfl⟩ (Nat.le_of_ble_eq_true rfl) ⟨Nat.zero_le _, Nat.zero_le _⟩ ?_
        refine s_if_eq C 173 155 rfl dX9_seats_152 (by decide) hq (fun hq => ?_) (fun hq => ?_)
        · refine g_iconst 0 C 174 rfl dX9_seats_173 ki_0 ?_
          refine g_iadd C 175 rfl dX9_seats_174 ?_
          refine g_istore_n [(3, .int (x3 + 0)), (0, .ref (a 0)), (4, .int x4)] C 176 rfl dX9_seats_175 (Nat.le_of_ble_eq_true rfl) rfl ?_
          refine g_iinc (x4 + 1) [(4, .int (x4 + 1)), (3, .int (x3 + 0)), (0, .ref (a 0))] C 179 rfl dX9_seats_176 2 rfl (ii_1 _) (Nat.le_of_ble_eq_true rfl) rfl ?_
          refine g_goto C 138 dX9_seats_179 (by decide) ?_
          exact g_sub [2, 1, 0] rfl (ih (x3 + 0) (x4 + 1) _ hq E2)
        refine g_aload_n C 156 rfl dX9_seats_155 0 rfl ?_
        refine g_get (v := .ref (a 19)) (fs := fl9 a s) C 159 rfl dX9_seats_156 hK hP la_X9 0 32 (Nat.le_of_ble_eq_true rfl) fl_X9_64 rfl rfl rfl rfl ?_
        refine g_bipush 6 C 161 rfl dX9_seats_159 kb_6 ?_
        refine g_iconst 1 C 162 rfl dX9_seats_161 ki_1 ?_
        refine g_iload C 164 rfl dX9_seats_162 2 rfl ?_
        refine g_ishl C 165 rfl dX9_seats_164 ?_
        refine g_imul C 166 rfl dX9_seats_165 ?_
        refine g_iload C 168 rfl dX9_seats_166 2 rfl ?_
        refine g_iadd C 169 rfl dX9_seats_168 ?_
        refine s_iald C 170 rfl dX9_seats_169 hK hP 19 rfl hq (fun hq hi3 => ?_)
        refine g_goto C 174 dX9_seats_170 (by decide) ?_
        refine g_iadd C 175 rfl dX9_seats_174 ?_
        refine g_istore_n [(3, .int (x3 + ((x9_waysOn s) (((6 * ((1 : Int32) <<< (x4 &&& 31))) + x4) : Int32).toNatClampNeg))), (0, .ref (a 0)), (4, .int x4)] C 176 rfl dX9_seats_175 (Nat.le_of_ble_eq_true rfl) rfl ?_
        refine g_iinc (x4 + 1) [(4, .int (x4 + 1)), (3, .int (x3 + ((x9_waysOn s) (((6 * ((1 : Int32) <<< (x4 &&& 31))) + x4) : Int32).toNatClampNeg))), (0, .ref (a 0))] C 179 rfl dX9_seats_176 2 rfl (ii_1 _) (Nat.le_of_ble_eq_true rfl) rfl ?_
        refine g_goto C 138 dX9_seats_179 (by decide) ?_
        exact g_sub [2, 1, 0] rfl (ih (x3 + ((x9_waysOn s) (((6 * ((1 : Int32) <<< (x4 &&& 31))) + x4) : Int32).toNatClampNeg)) (x4 + 1) _ hq E2)
    obtain ⟨o4, ho5, hq⟩ := bindE hq
    refine g_sub [2, 1, 0] rfl (Q138 s _ _ hP hD hS  FUEL y0 0 o4 ho5 (?_))
    refine g_iload_n C 183 rfl dX9_seats_182 0 rfl ?_
    exact w_int (ws := fun s => cs9 a Δ s) hR hq hP hS dX9_seats_183 rfl rfl
  show g Γ { frames := 3, cells := 0, slots := 0, locals := 73 } 6 H [] 0 0 0 [(0, .ref (a 0)), (1, .int x1), (2, .int x2)] []
  refine g_iload_n C 1 rfl dX9_seats_0 1 rfl ?_
  refine g_i2l C 2 rfl dX9_seats_1 ?_
  refine g_lconst 0 C 3 rfl dX9_seats_2 kl_0 ?_
  refine g_ldc2 40 C 6 rfl dX9_seats_3 k_X9_274 ?_
  obtain ⟨r6, hz7, hq⟩ := bindE hq
  refine g_callRS (rest := []) C 9 rfl dX9_seats_6 (c_X9_in Γ.2.1 Δ  (Int32.toInt64 x1) 0 40  hz7) mv_X9_in (Or.inl ml_X9_90) hK rfl rfl ⟨Nat.le_of_ble_eq_true rfl, Nat.le_of_ble_eq_true rfl⟩ (Nat.le_of_ble_eq_true rfl) ⟨Nat.zero_le _, Nat.zero_le _⟩ ?_
  refine s_if_eq C 22 12 rfl dX9_seats_9 (by decide) hq (fun hq => ?_) (fun hq => ?_)
  · refine g_bipush (-2) C 24 rfl dX9_seats_22 kb_m2 ?_
    exact w_int (ws := fun s => cs9 a Δ s) hR hq hP hS dX9_seats_24 rfl rfl
  refine g_iload_n C 13 rfl dX9_seats_12 2 rfl ?_
  refine g_i2l C 14 rfl dX9_seats_13 ?_
  refine g_lconst 0 C 15 rfl dX9_seats_14 kl_0 ?_
  refine g_lconst 1 C 16 rfl dX9_seats_15 kl_1 ?_
  obtain ⟨r8, hz9, hq⟩ := bindE hq
  refine g_callRS (rest := []) C 19 rfl dX9_seats_16 (c_X9_in Γ.2.1 Δ  (Int32.toInt64 x2) 0 1  hz9) mv_X9_in (Or.inl ml_X9_90) hK rfl rfl ⟨Nat.le_of_ble_eq_true rfl, Nat.le_of_ble_eq_true rfl⟩ (Nat.le_of_ble_eq_true rfl) ⟨Nat.zero_le _, Nat.zero_le _⟩ ?_
  refine s_if_ne C 25 22 rfl dX9_seats_19 (by decide) hq (fun hq => ?_) (fun hq => ?_)
  rotate_left
  · refine g_bipush (-2) C 24 rfl dX9_seats_22 kb_m2 ?_
    exact w_int (ws := fun s => cs9 a Δ s) hR hq hP hS dX9_seats_24 rfl rfl
  refine g_bipush 63 C 27 rfl dX9_seats_25 kb_63 ?_
  refine g_istore_n [(3, .int 63), (0, .ref (a 0)), (1, .int x1), (2, .int x2)] C 28 rfl dX9_seats_27 (Nat.le_of_ble_eq_true rfl) rfl ?_
  have Q28 : ∀ (x1 : Int32) (x2 : Int32), ∀ (n : Nat) (x3 : Int32) (s : S9) (o : (S9)) (H : Heap) (L : List Loc) (hP : va_P Δ.1 classes (cs9 a Δ s) H) (hD : va_D A (cs9 a Δ s)) (hS : va_S A (sOf Γ).heap H L) (hq : lp_X9_seats_28 x1 x2 n x3 s = some o) (E2 : ∀ (H : Heap) (L : List Loc), va_P Δ.1 classes (cs9 a Δ o) H → va_D A (cs9 a Δ o) → va_S A (sOf Γ).heap H L → g Γ { frames := 3, cells := 0, slots := 0, locals := 73 } 6 H L 0 0 111 [(0, .ref (a 0)), (1, .int x1), (2, .int x2)] []), g Γ { frames := 3, cells := 0, slots := 0, locals := 73 } 6 H L 0 0 28 [(0, .ref (a 0)), (1, .int x1), (2, .int x2), (3, .int x3)] [] := by
    intro x1 x2
    intro n
    induction n with
    | zero => intro x3 s o H L hP hD hS hq; exact nomatch (show (none : Option (S9)) = some o from hq)
    | succ n ih =>
      intro x3 s o H L hP hD hS hq E2
      have hq : bd_X9_seats_28 x1 x2 (lp_X9_seats_28 x1 x2 n) x3 s = some o := hq
      refine g_iload_n C 29 rfl dX9_seats_28 3 rfl ?_
      refine s_if_le C 111 32 rfl dX9_seats_29 (by decide) hq (fun hq => ?_) (fun hq => ?_)
      · cases hq
        exact g_sub [0, 1, 2] rfl (E2 _ _ hP hD hS)
      refine g_iconst 0 C 33 rfl dX9_seats_32 ki_0 ?_
      refine g_istore [(4, .int 0), (0, .ref (a 0)), (1, .int x1), (2, .int x2), (3, .int x3)] C 35 rfl dX9_seats_33 (Nat.le_of_ble_eq_true rfl) rfl ?_
      have Q35 : ∀ (x1 : Int32) (x2 : Int32) (x3 : Int32), ∀ (n : Nat) (x4 : Int32) (s : S9) (o : (S9)) (H : Heap) (L : List Loc) (hP : va_P Δ.1 classes (cs9 a Δ s) H) (hD : va_D A (cs9 a Δ s)) (hS : va_S A (sOf Γ).heap H L) (hq : lp_X9_seats_35 x1 x2 x3 n x4 s = some o) (E2 : ∀ (H : Heap) (L : List Loc), va_P Δ.1 classes (cs9 a Δ o) H → va_D A (cs9 a Δ o) → va_S A (sOf Γ).heap H L → g Γ { frames := 3, cells := 0, slots := 0, locals := 73 } 6 H L 0 0 105 [(0, .ref (a 0)), (1, .int x1), (2, .int x2), (3, .int x3)] []), g Γ { frames := 3, cells := 0, slots := 0, locals := 73 } 6 H L 0 0 35 [(0, .ref (a 0)), (1, .int x1), (2, .int x2), (3, .int x3), (4, .int x4)] [] := by
        intro x1 x2 x3
        intro n
        induction n with
        | zero => intro x4 s o H L hP hD hS hq; exact nomatch (show (none : Option (S9)) = some o from hq)
        | succ n ih =>
          intro x4 s o H L hP hD hS hq E2
          have hq : bd_X9_seats_35 x1 x2 x3 (lp_X9_seats_35 x1 x2 x3 n) x4 s = some o := hq
          have K68 : ∀ (x4 : Int32) (y0 : Int32) (s : S9) (H : Heap) (L : List Loc) (hP : va_P Δ.1 classes (cs9 a Δ s) H) (hD : va_D A (cs9 a Δ s)) (hS : va_S A (sOf Γ).heap H L), jn_X9_seats_68 (lp_X9_seats_35 x1 x2 x3 n) x1 x2 x3 x4 y0 s = some o → g Γ { frames := 3, cells := 0, slots := 0, locals := 73 } 6 H L 0 0 68 [(0, .ref (a 0)), (1, .int x1), (2, .int x2), (3, .int x3), (4, .int x4)] [.int y0] := by
            intro x4 y0 s H L hP hD hS hq
            refine g_istore [(5, .int y0), (0, .ref (a 0)), (1, .int x1), (2, .int x2), (3, .int x3), (4, .int x4)] C 70 rfl dX9_seats_68 (Nat.le_of_ble_eq_true rfl) rfl ?_
            refine g_aload_n C 71 rfl dX9_seats_70 1 rfl ?_
            refine g_get (v := .ref (a 19)) (fs := fl9 a s) C 74 rfl dX9_seats_71 hK hP la_X9 0 32 (Nat.le_of_ble_eq_true rfl) fl_X9_64 rfl rfl rfl rfl ?_
            refine g_bipush 6 C 76 rfl dX9_seats_74 kb_6 ?_
            refine g_iload_n C 77 rfl dX9_seats_76 4 rfl ?_
            refine g_imul C 78 rfl dX9_seats_77 ?_
            refine g_iload C 80 rfl dX9_seats_78 5 rfl ?_
            refine g_iadd C 81 rfl dX9_seats_80 ?_
            refine g_iload C 83 rfl dX9_seats_81 0 rfl ?_
            refine s_if_eq C 97 86 rfl dX9_seats_83 (by decide) hq (fun hq => ?_) (fun hq => ?_)
            · refine g_iconst 0 C 98 rfl dX9_seats_97 ki_0 ?_
              refine s_iast (cs9 a Δ (p9_waysOn s (upd (x9_waysOn s) (((6 * x3) + x4) : Int32).toNatClampNeg 0))) C 99 rfl dX9_seats_98 hK hP hD hS 19 rfl hq (sst_115 a Δ s (upd (x9_waysOn s) (((6 * x3) + x4) : Int32).toNatClampNeg 0)) (fun hq hi10 H L hP hD hS => ?_)
              refine g_iinc (x4 + 1) [(4, .int (x4 + 1)), (5, .int y0), (0, .ref (a 0)), (1, .int x1), (2, .int x2), (3, .int x3)] C 102 rfl dX9_seats_99 5 rfl (ii_1 _) (Nat.le_of_ble_eq_true rfl) rfl ?_
              refine g_goto C 35 dX9_seats_102 (by decide) ?_
              exact g_sub [2, 3, 4, 5, 0] rfl (ih (x4 + 1) (p9_waysOn s (upd (x9_waysOn s) (((6 * x3) + x4) : Int32).toNatClampNeg 0)) _ _ _ hP hD hS hq E2)
            refine g_aload_n C 87 rfl dX9_seats_86 1 rfl ?_
            refine g_iload_n C 88 rfl dX9_seats_87 4 rfl ?_
            refine g_iload C 90 rfl dX9_seats_88 5 rfl ?_
            refine g_iload_n C 91 rfl dX9_seats_90 2 rfl ?_
            obtain ⟨r11, hz12, hq⟩ := bindE hq
            refine g_callRV (rest := [.int ((6 * x3) + x4), .ref (a 19)]) C 94 rfl dX9_seats_91 (c_X9_waysFrom Γ.2.1 Δ a x3 x4 x1 s hz12) mv_X9_waysFrom ml_X9_276 hK hP rfl rfl rfl rfl rfl ⟨Nat.le_of_ble_eq_true rfl, Nat.le_of_ble_eq_true rfl⟩ (Nat.le_of_ble_eq_true rfl) ⟨Nat.zero_le _, Nat.zero_le _⟩ ?_
            refine g_goto C 98 dX9_seats_94 (by decide) ?_
            refine s_iast (cs9 a Δ (p9_waysOn s (upd (x9_waysOn s) (((6 * x3) + x4) : Int32).toNatClampNeg r11))) C 99 rfl dX9_seats_98 hK hP hD hS 19 rfl hq (sst_115 a Δ s (upd (x9_waysOn s) (((6 * x3) + x4) : Int32).toNatClampNeg r11)) (fun hq hi13 H L hP hD hS => ?_)
            refine g_iinc (x4 + 1) [(4, .int (x4 + 1)), (5, .int y0), (0, .ref (a 0)), (1, .int x1), (2, .int x2), (3, .int x3)] C 102 rfl dX9_seats_99 5 rfl (ii_1 _) (Nat.le_of_ble_eq_true rfl) rfl ?_
            refine g_goto C 35 dX9_seats_102 (by decide) ?_
            exact g_sub [2, 3, 4, 5, 0] rfl (ih (x4 + 1) (p9_waysOn s (upd (x9_waysOn s) (((6 * x3) + x4) : Int32).toNatClampNeg r11)) _ _ _ hP hD hS hq E2)
          have K67 : ∀ (x4 : Int32) (s : S9) (H : Heap) (L : List Loc) (hP : va_P Δ.1 classes (cs9 a Δ s) H) (hD : va_D A (cs9 a Δ s)) (hS : va_S A (sOf Γ).heap H L), jn_X9_seats_67 (lp_X9_seats_35 x1 x2 x3 n) x1 x2 x3 x4 s = some o → g Γ { frames := 3, cells := 0, slots := 0, locals := 73 } 6 H L 0 0 67 [(0, .ref (a 0)), (1, .int x1), (2, .int x2), (3, .int x3), (4, .int x4)] [] := by
            intro x4 s H L hP hD hS hq
            refine g_iconst 0 C 68 rfl dX9_seats_67 ki_0 ?_
            exact g_sub [0, 1, 2, 3, 4] rfl (K68 x4 0 s _ _ hP hD hS hq)
          refine g_iload C 37 rfl dX9_seats_35 4 rfl ?_
          refine g_bipush 6 C 39 rfl dX9_seats_37 kb_6 ?_
          refine s_icmp_ge C 105 42 rfl dX9_seats_39 (by decide) hq (fun hq => ?_) (fun hq => ?_)
          · cases hq
            exact g_sub [0, 1, 2, 3] rfl (E2 _ _ hP hD hS)
          refine g_iload_n C 43 rfl dX9_seats_42 3 rfl ?_
          refine g_aload_n C 44 rfl dX9_seats_43 0 rfl ?_
          refine g_get (v := .int (x9_there s)) (fs := fl9 a s) C 47 rfl dX9_seats_44 hK hP la_X9 0 0 (Nat.le_of_ble_eq_true rfl) fl_X9_94 rfl rfl rfl rfl ?_
          refine g_iconst (-1) C 48 rfl dX9_seats_47 ki_m1 ?_
          refine g_ixor C 49 rfl dX9_seats_48 ?_
          refine g_iand C 50 rfl dX9_seats_49 ?_
          refine s_if_ne C 67 53 rfl dX9_seats_50 (by decide) hq (fun hq => ?_) (fun hq => ?_)
          · exact g_sub [0, 1, 2, 3, 4] rfl (K67 x4 s _ _ hP hD hS hq)
          refine g_iload_n C 54 rfl dX9_seats_53 3 rfl ?_
          refine g_iload C 56 rfl dX9_seats_54 4 rfl ?_
          refine g_ishr C 57 rfl dX9_seats_56 ?_
          refine g_iconst 1 C 58 rfl dX9_seats_57 ki_1 ?_
          refine g_iand C 59 rfl dX9_seats_58 ?_
          refine g_iconst 1 C 60 rfl dX9_seats_59 ki_1 ?_
          refine s_icmp_ne C 67 63 rfl dX9_seats_60 (by decide) hq (fun hq => ?_) (fun hq => ?_)
          · exact g_sub [0, 1, 2, 3, 4] rfl (K67 x4 s _ _ hP hD hS hq)
          refine g_iconst 1 C 64 rfl dX9_seats_63 ki_1 ?_
          refine g_goto C 68 dX9_seats_64 (by decide) ?_
          exact g_sub [0, 1, 2, 3, 4] rfl (K68 x4 1 s _ _ hP hD hS hq)
      obtain ⟨o14, ho15, hq⟩ := bindE hq
      refine g_sub [1, 2, 3, 4, 0] rfl (Q35 x1 x2 x3 FUEL 0 s o14 _ _ hP hD hS ho15 (fun H L hP hD hS => ?_))
      refine g_iinc (x3 - 1) [(3, .int (x3 - 1)), (0, .ref (a 0)), (1, .int x1), (2, .int x2)] C 108 rfl dX9_seats_105 3 rfl (ii_m1 _) (Nat.le_of_ble_eq_true rfl) rfl ?_
      refine g_goto C 28 dX9_seats_108 (by decide) ?_
      exact g_sub [1, 2, 3, 0] rfl (ih (x3 - 1) o14 _ _ _ hP hD hS hq E2)
  obtain ⟨o16, ho17, hq⟩ := bindE hq
  refine g_sub [1, 2, 3, 0] rfl (Q28 x1 x2 FUEL 63 s o16 _ _ hP hD hS ho17 (fun H L hP hD hS => ?_))
  refine g_iload_n C 112 rfl dX9_seats_111 2 rfl ?_
  refine g_iconst 1 C 113 rfl dX9_seats_112 ki_1 ?_
  refine s_icmp_ne C 122 116 rfl dX9_seats_113 (by decide) hq (fun hq => ?_) (fun hq => ?_)
  rotate_left
  · refine g_aload_n C 117 rfl dX9_seats_116 0 rfl ?_
    refine g_iload_n C 118 rfl dX9_seats_117 1 rfl ?_
    obtain ⟨r18, hz19, hq⟩ := bindE hq
    refine g_callRV (rest := []) C 121 rfl dX9_seats_118 (c_X9_firstSeats Γ.2.1 Δ a x1 o16 hz19) mv_X9_firstSeats ml_X9_279 hK hP rfl rfl rfl rfl rfl ⟨Nat.le_of_ble_eq_true rfl, Nat.le_of_ble_eq_true rfl⟩ (Nat.le_of_ble_eq_true rfl) ⟨Nat.zero_le _, Nat.zero_le _⟩ ?_
    exact w_int (ws := fun s => cs9 a Δ s) hR hq hP hS dX9_seats_121 rfl rfl
  refine g_aload_n C 123 rfl dX9_seats_122 0 rfl ?_
  refine g_get (v := .int (x9_there o16)) (fs := fl9 a o16) C 126 rfl dX9_seats_123 hK hP la_X9 0 0 (Nat.le_of_ble_eq_true rfl) fl_X9_94 rfl rfl rfl rfl ?_
  refine s_if_ne C 133 129 rfl dX9_seats_126 (by decide) hq (fun hq => ?_) (fun hq => ?_)
  · refine g_iconst 0 C 134 rfl dX9_seats_133 ki_0 ?_
    exact g_sub [0] rfl (K134 0 o16 _ _ hP hD hS hq)
  refine g_iconst 1 C 130 rfl dX9_seats_129 ki_1 ?_
  refine g_goto C 134 dX9_seats_130 (by decide) ?_
  exact g_sub [0] rfl (K134 1 o16 _ _ hP hD hS hq)
set_option maxHeartbeats 400000 in
set_option maxRecDepth 100000 in
theorem c_X9_covered (l : Launch) (Δ : gD) (a : Nat → Nat) (x1 : Int32) (x2 : Int32) (x3 : Int32) (x4 : Int32) (x5 : Int32) (s : S9) {res : Int32 × S9} (hq : sem_X9_covered x1 x2 x3 x4 x5 s = some res) : MW l yX9_covered cX9_covered 15 (some .int) Δ (cs9 a Δ s) [.ref (a 0), .int x1, .int x2, .int x3, .int x4, .int x5] 2 46 (some (.int res.1)) (cs9 a Δ res.2) := by
  refine MW.of (by decide) (Nat.le_of_ble_eq_true rfl) ?_
  intro Γ A H hl C hK hP hD hS hA hR
  subst hl
  show g Γ { frames := 2, cells := 0, slots := 0, locals := 46 } 15 H [] 0 0 0 [(0, .ref (a 0)), (1, .int x1), (2, .int x2), (3, .int x3), (4, .int x4), (5, .int x5)] []
  refine g_iload_n C 1 rfl dX9_covered_0 1 rfl ?_
  refine g_istore [(6, .int x1), (0, .ref (a 0)), (1, .int x1), (2, .int x2), (3, .int x3), (4, .int x4), (5, .int x5)] C 3 rfl dX9_covered_1 (Nat.le_of_ble_eq_true rfl) rfl ?_
  refine g_iload C 5 rfl dX9_covered_3 5 rfl ?_
  refine g_istore [(7, .int x4), (6, .int x1), (0, .ref (a 0)), (1, .int x1), (2, .int x2), (3, .int x3), (4, .int x4), (5, .int x5)] C 7 rfl dX9_covered_5 (Nat.le_of_ble_eq_true rfl) rfl ?_
  refine g_iload C 9 rfl dX9_covered_7 7 rfl ?_
  refine g_istore [(8, .int x5), (7, .int x4), (6, .int x1), (0, .ref (a 0)), (1, .int x1), (2, .int x2), (3, .int x3), (4, .int x4), (5, .int x5)] C 11 rfl dX9_covered_9 (Nat.le_of_ble_eq_true rfl) rfl ?_
  refine g_iconst 0 C 12 rfl dX9_covered_11 ki_0 ?_
  refine g_istore [(9, .int 0), (8, .int x5), (7, .int x4), (6, .int x1), (0, .ref (a 0)), (1, .int x1), (2, .int x2), (3, .int x3), (4, .int x4), (5, .int x5)] C 14 rfl dX9_covered_12 (Nat.le_of_ble_eq_true rfl) rfl ?_
  refine g_iconst 0 C 15 rfl dX9_covered_14 ki_0 ?_
  refine g_istore [(10, .int 0), (9, .int 0), (8, .int x5), (7, .int x4), (6, .int x1), (0, .ref (a 0)), (1, .int x1), (2, .int x2), (3, .int x3), (4, .int x4), (5, .int x5)] C 17 rfl dX9_covered_15 (Nat.le_of_ble_eq_true rfl) rfl ?_
  refine g_iconst 0 C 18 rfl dX9_covered_17 ki_0 ?_
  refine g_istore [(11, .int 0), (10, .int 0), (9, .int 0), (8, .int x5), (7, .int x4), (6, .int x1), (0, .ref (a 0)), (1, .int x1), (2, .int x2), (3, .int x3), (4, .int x4), (5, .int x5)] C 20 rfl dX9_covered_18 (Nat.le_of_ble_eq_true rfl) rfl ?_
  refine g_iconst 1 C 21 rfl dX9_covered_20 ki_1 ?_
  refine g_istore [(12, .int 1), (11, .int 0), (10, .int 0), (9, .int 0), (8, .int x5), (7, .int x4), (6, .int x1), (0, .ref (a 0)), (1, .int x1), (2, .int x2), (3, .int x3), (4, .int x4), (5, .int x5)] C 23 rfl dX9_covered_21 (Nat.le_of_ble_eq_true rfl) rfl ?_
  refine g_aload_n C 24 rfl dX9_covered_23 7 rfl ?_
  refine g_iconst 0 C 25 rfl dX9_covered_24 ki_0 ?_
  refine g_put (fs := fl9 a s) (cs9 a Δ (p9_coverDigits s 0)) C 28 rfl dX9_covered_25 hK hP hD hS la_X9 tyX9_ok nmX9 0 33 (Nat.le_of_ble_eq_true rfl) fl_X9_282 rfl rfl rfl rfl rfl rfl (Nat.le_of_ble_eq_true rfl) (sst_116 a Δ s 0) (fun H L hP hD hS => ?_)
  refine g_iconst 5 C 29 rfl dX9_covered_28 ki_5 ?_
  refine g_istore [(13, .int 5), (12, .int 1), (11, .int 0), (10, .int 0), (9, .int 0), (8, .int x5), (7, .int x4), (6, .int x1), (0, .ref (a 0)), (1, .int x1), (2, .int x2), (3, .int x3), (4, .int x4), (5, .int x5)] C 31 rfl dX9_covered_29 (Nat.le_of_ble_eq_true rfl) rfl ?_
  have Q31 : ∀ (x2 : Int32) (x3 : Int32), ∀ (n : Nat) (x6 : Int32) (x7 : Int32) (x8 : Int32) (x9 : Int32) (x10 : Int32) (x11 : Int32) (x12 : Int32) (x13 : Int32) (s : S9) (o : ((Int32 × S9) ⊕ (Int32 × Int32 × Int32 × S9))) (H : Heap) (L : List Loc) (hP : va_P Δ.1 classes (cs9 a Δ s) H) (hD : va_D A (cs9 a Δ s)) (hS : va_S A (sOf Γ).heap H L) (hq : lp_X9_covered_31 x2 x3 n x6 x7 x8 x9 x10 x11 x12 x13 s = some o) (E1 : ∀ r, o = .inl r → gRetW Γ { frames := 2, cells := 0, slots := 0, locals := 46 } 15 cX9_covered (some .int) Δ A (some (.int r.1)) (cs9 a Δ r.2)) (E2 : ∀ x, o = .inr x → ∀ (H : Heap) (L : List Loc), va_P Δ.1 classes (cs9 a Δ x.2.2.2) H → va_D A (cs9 a Δ x.2.2.2) → va_S A (sOf Γ).heap H L → g Γ { frames := 2, cells := 0, slots := 0, locals := 46 } 15 H L 0 0 184 [(2, .int x2), (3, .int x3), (9, .int x.1), (10, .int x.2.1), (11, .int x.2.2.1)] []), g Γ { frames := 2, cells := 0, slots := 0, locals := 46 } 15 H L 0 0 31 [(0, .ref (a 0)), (2, .int x2), (3, .int x3), (6, .int x6), (7, .int x7), (8, .int x8), (9, .int x9), (10, .int x10), (11, .int x11), (12, .int x12), (13, .int x13)] [] := by
    intro x2 x3
    intro n
    induction n with
    | zero => intro x6 x7 x8 x9 x10 x11 x12 x13 s o H L hP hD hS hq; exact nomatch (show (none : Option ((Int32 × S9) ⊕ (Int32 × Int32 × Int32 × S9))) = some o from hq)
    | succ n ih =>
      intro x6 x7 x8 x9 x10 x11 x12 x13 s o H L hP hD hS hq E1 E2
      have hq : bd_X9_covered_31 x2 x3 (lp_X9_covered_31 x2 x3 n) x6 x7 x8 x9 x10 x11 x12 x13 s = some o := hq
      have K152 : ∀ (x6 : Int32) (x7 : Int32) (x8 : Int32) (x9 : Int32) (x10 : Int32) (x11 : Int32) (x12 : Int32) (x13 : Int32) (y1 : Int32) (y2 : Int32) (y3 : Int32) (s : S9) (H : Heap) (L : List Loc) (hP : va_P Δ.1 classes (cs9 a Δ s) H) (hD : va_D A (cs9 a Δ s)) (hS : va_S A (sOf Γ).heap H L), jn_X9_covered_152 (lp_X9_covered_31 x2 x3 n) x2 x3 x6 x7 x8 x9 x10 x11 x12 x13 y1 y2 y3 s = some o → g Γ { frames := 2, cells := 0, slots := 0, locals := 46 } 15 H L 0 0 152 [(0, .ref (a 0)), (2, .int x2), (3, .int x3), (6, .int x6), (7, .int x7), (8, .int x8), (9, .int x9), (10, .int x10), (11, .int x11), (12, .int x12), (13, .int x13)] [.int y3, .int y2, .int y1, .ref (a 0)] := by
        intro x6 x7 x8 x9 x10 x11 x12 x13 y1 y2 y3 s H L hP hD hS hq
        refine g_imul C 153 rfl dX9_covered_152 ?_
        refine g_iadd C 154 rfl dX9_covered_153 ?_
        refine g_put (fs := fl9 a s) (cs9 a Δ (p9_coverDigits s (y1 + (y2 * y3)))) C 157 rfl dX9_covered_154 hK hP hD hS la_X9 tyX9_ok nmX9 0 33 (Nat.le_of_ble_eq_true rfl) fl_X9_282 rfl rfl rfl rfl rfl rfl (Nat.le_of_ble_eq_true rfl) (sst_116 a Δ s (y1 + (y2 * y3))) (fun H L hP hD hS => ?_)
        refine g_iload C 159 rfl dX9_covered_157 9 rfl ?_
        refine g_bipush 10 C 161 rfl dX9_covered_159 kb_10 ?_
        refine g_imul C 162 rfl dX9_covered_161 ?_
        refine g_istore [(12, .int (x12 * 10)), (0, .ref (a 0)), (2, .int x2), (3, .int x3), (6, .int x6), (7, .int x7), (8, .int x8), (9, .int x9), (10, .int x10), (11, .int x11), (13, .int x13)] C 164 rfl dX9_covered_162 (Nat.le_of_ble_eq_true rfl) rfl ?_
        refine g_iload C 166 rfl dX9_covered_164 5 rfl ?_
        refine g_bipush 10 C 168 rfl dX9_covered_166 kb_10 ?_
        refine g_idiv C 169 rfl dX9_covered_168 (by decide) ?_
        refine g_istore [(7, .int (x7 / 10)), (12, .int (x12 * 10)), (0, .ref (a 0)), (2, .int x2), (3, .int x3), (6, .int x6), (8, .int x8), (9, .int x9), (10, .int x10), (11, .int x11), (13, .int x13)] C 171 rfl dX9_covered_169 (Nat.le_of_ble_eq_true rfl) rfl ?_
        refine g_iload C 173 rfl dX9_covered_171 6 rfl ?_
        refine g_bipush 10 C 175 rfl dX9_covered_173 kb_10 ?_
        refine g_idiv C 176 rfl dX9_covered_175 (by decide) ?_
        refine g_istore [(8, .int (x8 / 10)), (7, .int (x7 / 10)), (12, .int (x12 * 10)), (0, .ref (a 0)), (2, .int x2), (3, .int x3), (6, .int x6), (9, .int x9), (10, .int x10), (11, .int x11), (13, .int x13)] C 178 rfl dX9_covered_176 (Nat.le_of_ble_eq_true rfl) rfl ?_
        refine g_iinc (x13 - 1) [(13, .int (x13 - 1)), (8, .int (x8 / 10)), (7, .int (x7 / 10)), (12, .int (x12 * 10)), (0, .ref (a 0)), (2, .int x2), (3, .int x3), (6, .int x6), (9, .int x9), (10, .int x10), (11, .int x11)] C 181 rfl dX9_covered_178 10 rfl (ii_m1 _) (Nat.le_of_ble_eq_true rfl) rfl ?_
        refine g_goto C 31 dX9_covered_181 (by decide) ?_
        exact g_sub [4, 5, 6, 7, 2, 1, 8, 9, 10, 3, 0] rfl (ih x6 (x7 / 10) (x8 / 10) x9 x10 x11 (x12 * 10) (x13 - 1) (p9_coverDigits s (y1 + (y2 * y3))) _ _ _ hP hD hS hq E1 E2)
      have K127 : ∀ (x6 : Int32) (x7 : Int32) (x8 : Int32) (x9 : Int32) (x10 : Int32) (x12 : Int32) (x13 : Int32) (x14 : Int32) (y0 : Int32) (y1 : Int32) (s : S9) (H : Heap) (L : List Loc) (hP : va_P Δ.1 classes (cs9 a Δ s) H) (hD : va_D A (cs9 a Δ s)) (hS : va_S A (sOf Γ).heap H L), jn_X9_covered_127 (lp_X9_covered_31 x2 x3 n) x2 x3 x6 x7 x8 x9 x10 x12 x13 x14 y0 y1 s = some o → g Γ { frames := 2, cells := 0, slots := 0, locals := 46 } 15 H L 0 0 127 [(0, .ref (a 0)), (2, .int x2), (3, .int x3), (6, .int x6), (7, .int x7), (8, .int x8), (9, .int x9), (10, .int x10), (12, .int x12), (13, .int x13), (14, .int x14)] [.int y1, .int y0] := by
        intro x6 x7 x8 x9 x10 x12 x13 x14 y0 y1 s H L hP hD hS hq
        refine g_iadd C 128 rfl dX9_covered_127 ?_
        refine g_istore [(11, .int (y0 + y1)), (0, .ref (a 0)), (2, .int x2), (3, .int x3), (6, .int x6), (7, .int x7), (8, .int x8), (9, .int x9), (10, .int x10), (12, .int x12), (13, .int x13), (14, .int x14)] C 130 rfl dX9_covered_128 (Nat.le_of_ble_eq_true rfl) rfl ?_
        refine g_aload_n C 131 rfl dX9_covered_130 1 rfl ?_
        refine g_dup C 132 rfl dX9_covered_131 rfl ?_
        refine g_get (v := .int (x9_coverDigits s)) (fs := fl9 a s) C 135 rfl dX9_covered_132 hK hP la_X9 0 33 (Nat.le_of_ble_eq_true rfl) fl_X9_282 rfl rfl rfl rfl ?_
        refine g_iload C 137 rfl dX9_covered_135 9 rfl ?_
        refine g_aload_n C 138 rfl dX9_covered_137 1 rfl ?_
        refine g_iload C 140 rfl dX9_covered_138 10 rfl ?_
        obtain ⟨r1, hz2, hq⟩ := bindE hq
        refine g_callRV (rest := [.int x12, .int (x9_coverDigits s), .ref (a 0)]) C 143 rfl dX9_covered_140 (c_X9_isOne Γ.2.1 Δ a x13 s hz2) mv_X9_isOne ml_X9_107 hK hP rfl rfl rfl rfl rfl ⟨Nat.le_of_ble_eq_true rfl, Nat.le_of_ble_eq_true rfl⟩ (Nat.le_of_ble_eq_true rfl) ⟨Nat.zero_le _, Nat.zero_le _⟩ ?_
        refine s_if_eq C 151 146 rfl dX9_covered_143 (by decide) hq (fun hq => ?_) (fun hq => ?_)
        · refine g_iconst 3 C 152 rfl dX9_covered_151 ki_3 ?_
          exact g_sub [1, 2, 3, 4, 5, 6, 7, 8, 0, 9, 10] rfl (K152 x6 x7 x8 x9 x10 (y0 + y1) x12 x13 (x9_coverDigits s) x12 3 s _ _ hP hD hS hq)
        refine g_iload C 148 rfl dX9_covered_146 11 rfl ?_
        refine g_goto C 152 dX9_covered_148 (by decide) ?_
        exact g_sub [1, 2, 3, 4, 5, 6, 7, 8, 0, 9, 10] rfl (K152 x6 x7 x8 x9 x10 (y0 + y1) x12 x13 (x9_coverDigits s) x12 x14 s _ _ hP hD hS hq)
      have K111 : ∀ (x6 : Int32) (x7 : Int32) (x8 : Int32) (x9 : Int32) (x11 : Int32) (x12 : Int32) (x13 : Int32) (x14 : Int32) (y0 : Int32) (y1 : Int32) (s : S9) (H : Heap) (L : List Loc) (hP : va_P Δ.1 classes (cs9 a Δ s) H) (hD : va_D A (cs9 a Δ s)) (hS : va_S A (sOf Γ).heap H L), jn_X9_covered_111 (lp_X9_covered_31 x2 x3 n) x2 x3 x6 x7 x8 x9 x11 x12 x13 x14 y0 y1 s = some o → g Γ { frames := 2, cells := 0, slots := 0, locals := 46 } 15 H L 0 0 111 [(0, .ref (a 0)), (2, .int x2), (3, .int x3), (6, .int x6), (7, .int x7), (8, .int x8), (9, .int x9), (11, .int x11), (12, .int x12), (13, .int x13), (14, .int x14)] [.int y1, .int y0] := by
        intro x6 x7 x8 x9 x11 x12 x13 x14 y0 y1 s H L hP hD hS hq
        refine g_iadd C 112 rfl dX9_covered_111 ?_
        refine g_istore [(10, .int (y0 + y1)), (0, .ref (a 0)), (2, .int x2), (3, .int x3), (6, .int x6), (7, .int x7), (8, .int x8), (9, .int x9), (11, .int x11), (12, .int x12), (13, .int x13), (14, .int x14)] C 114 rfl dX9_covered_112 (Nat.le_of_ble_eq_true rfl) rfl ?_
        refine g_iload C 116 rfl dX9_covered_114 8 rfl ?_
        refine g_iload C 118 rfl dX9_covered_116 11 rfl ?_
        refine g_iconst 1 C 119 rfl dX9_covered_118 ki_1 ?_
        refine s_icmp_ne C 126 122 rfl dX9_covered_119 (by decide) hq (fun hq => ?_) (fun hq => ?_)
        · refine g_iconst 0 C 127 rfl dX9_covered_126 ki_0 ?_
          exact g_sub [1, 2, 3, 4, 5, 6, 7, 0, 9, 10, 11] rfl (K127 x6 x7 x8 x9 (y0 + y1) x12 x13 x14 x11 0 s _ _ hP hD hS hq)
        refine g_iconst 1 C 123 rfl dX9_covered_122 ki_1 ?_
        refine g_goto C 127 dX9_covered_123 (by decide) ?_
        exact g_sub [1, 2, 3, 4, 5, 6, 7, 0, 9, 10, 11] rfl (K127 x6 x7 x8 x9 (y0 + y1) x12 x13 x14 x11 1 s _ _ hP hD hS hq)
      have K96 : ∀ (x6 : Int32) (x7 : Int32) (x8 : Int32) (x10 : Int32) (x11 : Int32) (x12 : Int32) (x13 : Int32) (x14 : Int32) (y0 : Int32) (y1 : Int32) (s : S9) (H : Heap) (L : List Loc) (hP : va_P Δ.1 classes (cs9 a Δ s) H) (hD : va_D A (cs9 a Δ s)) (hS : va_S A (sOf Γ).heap H L), jn_X9_covered_96 (lp_X9_covered_31 x2 x3 n) x2 x3 x6 x7 x8 x10 x11 x12 x13 x14 y0 y1 s = some o → g Γ { frames := 2, cells := 0, slots := 0, locals := 46 } 15 H L 0 0 96 [(0, .ref (a 0)), (2, .int x2), (3, .int x3), (6, .int x6), (7, .int x7), (8, .int x8), (10, .int x10), (11, .int x11), (12, .int x12), (13, .int x13), (14, .int x14)] [.int y1, .int y0] := by
        intro x6 x7 x8 x10 x11 x12 x13 x14 y0 y1 s H L hP hD hS hq
        refine g_iadd C 97 rfl dX9_covered_96 ?_
        refine g_istore [(9, .int (y0 + y1)), (0, .ref (a 0)), (2, .int x2), (3, .int x3), (6, .int x6), (7, .int x7), (8, .int x8), (10, .int x10), (11, .int x11), (12, .int x12), (13, .int x13), (14, .int x14)] C 99 rfl dX9_covered_97 (Nat.le_of_ble_eq_true rfl) rfl ?_
        refine g_iload C 101 rfl dX9_covered_99 7 rfl ?_
        refine g_iload C 103 rfl dX9_covered_101 11 rfl ?_
        refine s_if_ne C 110 106 rfl dX9_covered_103 (by decide) hq (fun hq => ?_) (fun hq => ?_)
        · refine g_iconst 0 C 111 rfl dX9_covered_110 ki_0 ?_
          exact g_sub [1, 2, 3, 4, 5, 6, 0, 8, 9, 10, 11] rfl (K111 x6 x7 x8 (y0 + y1) x11 x12 x13 x14 x10 0 s _ _ hP hD hS hq)
        refine g_iconst 1 C 107 rfl dX9_covered_106 ki_1 ?_
        refine g_goto C 111 dX9_covered_107 (by decide) ?_
        exact g_sub [1, 2, 3, 4, 5, 6, 0, 8, 9, 10, 11] rfl (K111 x6 x7 x8 (y0 + y1) x11 x12 x13 x14 x10 1 s _ _ hP hD hS hq)
      have K66 : ∀ (x6 : Int32) (x7 : Int32) (x8 : Int32) (x9 : Int32) (x10 : Int32) (x11 : Int32) (x12 : Int32) (x13 : Int32) (x14 : Int32) (s : S9) (H : Heap) (L : List Loc) (hP : va_P Δ.1 classes (cs9 a Δ s) H) (hD : va_D A (cs9 a Δ s)) (hS : va_S A (sOf Γ).heap H L), jn_X9_covered_66 (lp_X9_covered_31 x2 x3 n) x2 x3 x6 x7 x8 x9 x10 x11 x12 x13 x14 s = some o → g Γ { frames := 2, cells := 0, slots := 0, locals := 46 } 15 H L 0 0 66 [(0, .ref (a 0)), (2, .int x2), (3, .int x3), (6, .int x6), (7, .int x7), (8, .int x8), (9, .int x9), (10, .int x10), (11, .int x11), (12, .int x12), (13, .int x13), (14, .int x14)] [] := by
        intro x6 x7 x8 x9 x10 x11 x12 x13 x14 s H L hP hD hS hq
        refine g_iload C 68 rfl dX9_covered_66 6 rfl ?_
        refine g_iload C 70 rfl dX9_covered_68 11 rfl ?_
        refine s_if_ne C 81 73 rfl dX9_covered_70 (by decide) hq (fun hq => ?_) (fun hq => ?_)
        rotate_left
        · refine g_iload C 75 rfl dX9_covered_73 4 rfl ?_
          refine g_bipush 10 C 77 rfl dX9_covered_75 kb_10 ?_
          refine g_irem C 78 rfl dX9_covered_77 (by decide) ?_
          refine g_goto C 96 dX9_covered_78 (by decide) ?_
          exact g_sub [0, 1, 2, 3, 4, 5, 7, 8, 9, 10, 11] rfl (K96 x6 x7 x8 x10 x11 x12 x13 x14 x9 (jrem x7 10) s _ _ hP hD hS hq)
        refine g_iload C 83 rfl dX9_covered_81 11 rfl ?_
        refine g_iconst 1 C 84 rfl dX9_covered_83 ki_1 ?_
        refine s_icmp_ne C 95 87 rfl dX9_covered_84 (by decide) hq (fun hq => ?_) (fun hq => ?_)
        · refine g_iconst 0 C 96 rfl dX9_covered_95 ki_0 ?_
          exact g_sub [0, 1, 2, 3, 4, 5, 7, 8, 9, 10, 11] rfl (K96 x6 x7 x8 x10 x11 x12 x13 x14 x9 0 s _ _ hP hD hS hq)
        refine g_iload C 89 rfl dX9_covered_87 5 rfl ?_
        refine g_bipush 10 C 91 rfl dX9_covered_89 kb_10 ?_
        refine g_irem C 92 rfl dX9_covered_91 (by decide) ?_
        refine g_goto C 96 dX9_covered_92 (by decide) ?_
        exact g_sub [0, 1, 2, 3, 4, 5, 7, 8, 9, 10, 11] rfl (K96 x6 x7 x8 x10 x11 x12 x13 x14 x9 (jrem x8 10) s _ _ hP hD hS hq)
      refine g_iload C 33 rfl dX9_covered_31 10 rfl ?_
      refine s_if_lt C 184 36 rfl dX9_covered_33 (by decide) hq (fun hq => ?_) (fun hq => ?_)
      · cases hq
        exact g_sub [1, 2, 6, 7, 8] rfl (E2 _ rfl _ _ hP hD hS)
      refine g_iload C 38 rfl dX9_covered_36 3 rfl ?_
      refine g_iconst 3 C 39 rfl dX9_covered_38 ki_3 ?_
      refine g_irem C 40 rfl dX9_covered_39 (by decide) ?_
      refine g_istore [(14, .int (jrem x6 3)), (0, .ref (a 0)), (2, .int x2), (3, .int x3), (6, .int x6), (7, .int x7), (8, .int x8), (9, .int x9), (10, .int x10), (11, .int x11), (12, .int x12), (13, .int x13)] C 42 rfl dX9_covered_40 (Nat.le_of_ble_eq_true rfl) rfl ?_
      refine g_iload C 44 rfl dX9_covered_42 4 rfl ?_
      refine g_iconst 3 C 45 rfl dX9_covered_44 ki_3 ?_
      refine g_idiv C 46 rfl dX9_covered_45 (by decide) ?_
      refine g_istore [(6, .int (x6 / 3)), (14, .int (jrem x6 3)), (0, .ref (a 0)), (2, .int x2), (3, .int x3), (7, .int x7), (8, .int x8), (9, .int x9), (10, .int x10), (11, .int x11), (12, .int x12), (13, .int x13)] C 48 rfl dX9_covered_46 (Nat.le_of_ble_eq_true rfl) rfl ?_
      refine g_aload_n C 49 rfl dX9_covered_48 2 rfl ?_
      refine g_iload C 51 rfl dX9_covered_49 11 rfl ?_
      obtain ⟨r3, hz4, hq⟩ := bindE hq
      refine g_callRV (rest := []) C 54 rfl dX9_covered_51 (c_X9_isOne Γ.2.1 Δ a x13 s hz4) mv_X9_isOne ml_X9_107 hK hP rfl rfl rfl rfl rfl ⟨Nat.le_of_ble_eq_true rfl, Nat.le_of_ble_eq_true rfl⟩ (Nat.le_of_ble_eq_true rfl) ⟨Nat.zero_le _, Nat.zero_le _⟩ ?_
      refine s_if_ne C 66 57 rfl dX9_covered_54 (by decide) hq (fun hq => ?_) (fun hq => ?_)
      · exact g_sub [2, 3, 4, 0, 5, 6, 7, 8, 9, 10, 11, 1] rfl (K66 (x6 / 3) x7 x8 x9 x10 x11 x12 x13 (jrem x6 3) s _ _ hP hD hS hq)
      refine g_iload C 59 rfl dX9_covered_57 1 rfl ?_
      refine g_iconst 2 C 60 rfl dX9_covered_59 ki_2 ?_
      refine s_icmp_eq C 66 63 rfl dX9_covered_60 (by decide) hq (fun hq => ?_) (fun hq => ?_)
      · exact g_sub [2, 3, 4, 0, 5, 6, 7, 8, 9, 10, 11, 1] rfl (K66 (x6 / 3) x7 x8 x9 x10 x11 x12 x13 (jrem x6 3) s _ _ hP hD hS hq)
      refine g_bipush (-6) C 65 rfl dX9_covered_63 kb_m6 ?_
      cases hq
      exact w_int (ws := fun s => cs9 a Δ s) (E1 _ rfl) rfl hP hS dX9_covered_65 rfl rfl
  obtain ⟨o5, ho6, hq⟩ := bindE hq
  refine g_sub [8, 10, 11, 7, 6, 5, 4, 3, 2, 1, 0] rfl (Q31 x2 x3 FUEL x1 x4 x5 0 0 0 1 5 (p9_coverDigits s 0) o5 _ _ hP hD hS ho6 (fun r er => ?_) (fun xo5 er => fun H L hP hD hS => ?_))
  · rw [er] at hq
    cases hq
    exact hR
  rw [er] at hq
  clear er
  refine g_iload C 186 rfl dX9_covered_184 3 rfl ?_
  refine g_iload_n C 187 rfl dX9_covered_186 0 rfl ?_
  refine s_icmp_gt C 201 190 rfl dX9_covered_187 (by decide) hq (fun hq => ?_) (fun hq => ?_)
  · refine g_bipush (-6) C 203 rfl dX9_covered_201 kb_m6 ?_
    exact w_int (ws := fun s => cs9 a Δ s) hR hq hP hS dX9_covered_203 rfl rfl
  refine g_iload C 192 rfl dX9_covered_190 4 rfl ?_
  refine g_iload_n C 193 rfl dX9_covered_192 1 rfl ?_
  refine s_icmp_gt C 201 196 rfl dX9_covered_193 (by decide) hq (fun hq => ?_) (fun hq => ?_)
  · refine g_bipush (-6) C 203 rfl dX9_covered_201 kb_m6 ?_
    exact w_int (ws := fun s => cs9 a Δ s) hR hq hP hS dX9_covered_203 rfl rfl
  refine g_iload C 198 rfl dX9_covered_196 2 rfl ?_
  refine g_goto C 203 dX9_covered_198 (by decide) ?_
  exact w_int (ws := fun s => cs9 a Δ s) hR hq hP hS dX9_covered_203 rfl rfl
