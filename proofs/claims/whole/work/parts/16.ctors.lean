def i6 : S6 := ((fun _ => 0), (fun _ => 0), 0, 9, 2, 0, 0)
set_option maxHeartbeats 1000000 in
set_option maxRecDepth 100000 in
theorem n_X6 (l : Launch) (Δ : gD) : MI l yX6_init cX6_init 1 Δ (.inr (6, [.null, .null, .int 0, .int 0, .int 0, .int 0, .int 0])) 2 44 1 12 (fun a => cs6 a Δ i6) := by
  refine MI.of (by decide) rfl (by decide) ?_
  intro Γ A H h hl C hname hK hP hD hS hA hret
  subst hl
  refine g_aload_n C 1 rfl dX6_init_0 0 rfl ?_
  refine g_objInit C 4 rfl dX6_init_1 ml_X6_3 obj_im obj_co ⟨Nat.le_of_ble_eq_true rfl, Nat.le_of_ble_eq_true rfl⟩ ?_
  refine g_aload_n C 5 rfl dX6_init_4 0 rfl ?_
  refine g_bipush 36 C 7 rfl dX6_init_5 kb_36 ?_
  refine g_newI 36 C 9 rfl dX6_init_7 ac_int hK hP hD hS hA (by decide +kernel) (by decide +kernel) (by decide +kernel) (by decide +kernel) (by decide +kernel) (fun q1 H hP hD hS => ?_)
  refine g_putF (((h, .inr (6, [.ref q1, .null, .int 0, .int 0, .int 0, .int 0, .int 0])) :: ([(q1, .inl (Δ.2.1, 36, .inl (fun _ => 0)))]))) C hname 12 rfl dX6_init_9 hK hP hD hS la_X6 tyX6_ok nmX6 0 0 (Nat.le_of_ble_eq_true rfl) fl_X6_9 rfl rfl rfl rfl rfl rfl rfl (Nat.le_of_ble_eq_true rfl) rfl (fun H L hP hD hS => ?_)
  refine g_aload_n C 13 rfl dX6_init_12 0 rfl ?_
  refine g_bipush 8 C 15 rfl dX6_init_13 kb_8 ?_
  refine g_newI 8 C 17 rfl dX6_init_15 ac_int hK hP hD hS hA (by decide +kernel) (by decide +kernel) (by decide +kernel) (by decide +kernel) (by decide +kernel) (fun q2 H hP hD hS => ?_)
  refine g_putF (((h, .inr (6, [.ref q1, .ref q2, .int 0, .int 0, .int 0, .int 0, .int 0])) :: (([(q1, .inl (Δ.2.1, 36, .inl (fun _ => 0)))] ++ [(q2, .inl (Δ.2.1, 8, .inl (fun _ => 0)))])))) C hname 20 rfl dX6_init_17 hK hP hD hS la_X6 tyX6_ok nmX6 0 1 (Nat.le_of_ble_eq_true rfl) fl_X6_15 rfl rfl rfl rfl rfl rfl rfl (Nat.le_of_ble_eq_true rfl) rfl (fun H L hP hD hS => ?_)
  refine g_aload_n C 21 rfl dX6_init_20 0 rfl ?_
  refine g_iconst 0 C 22 rfl dX6_init_21 ki_0 ?_
  refine g_put (((h, .inr (6, [.ref q1, .ref q2, .int 0, .int 0, .int 0, .int 0, .int 0])) :: (([(q1, .inl (Δ.2.1, 36, .inl (fun _ => 0)))] ++ [(q2, .inl (Δ.2.1, 8, .inl (fun _ => 0)))])))) C 25 rfl dX6_init_22 hK hP hD hS la_X6 tyX6_ok nmX6 0 2 (Nat.le_of_ble_eq_true rfl) fl_X6_18 rfl rfl rfl rfl rfl rfl (Nat.le_of_ble_eq_true rfl) rfl (fun H L hP hD hS => ?_)
  refine g_aload_n C 26 rfl dX6_init_25 0 rfl ?_
  refine g_bipush 9 C 28 rfl dX6_init_26 kb_9 ?_
  refine g_put (((h, .inr (6, [.ref q1, .ref q2, .int 0, .int 9, .int 0, .int 0, .int 0])) :: (([(q1, .inl (Δ.2.1, 36, .inl (fun _ => 0)))] ++ [(q2, .inl (Δ.2.1, 8, .inl (fun _ => 0)))])))) C 31 rfl dX6_init_28 hK hP hD hS la_X6 tyX6_ok nmX6 0 3 (Nat.le_of_ble_eq_true rfl) fl_X6_22 rfl rfl rfl rfl rfl rfl (Nat.le_of_ble_eq_true rfl) rfl (fun H L hP hD hS => ?_)
  refine g_aload_n C 32 rfl dX6_init_31 0 rfl ?_
  refine g_iconst 2 C 33 rfl dX6_init_32 ki_2 ?_
  refine g_put (((h, .inr (6, [.ref q1, .ref q2, .int 0, .int 9, .int 2, .int 0, .int 0])) :: (([(q1, .inl (Δ.2.1, 36, .inl (fun _ => 0)))] ++ [(q2, .inl (Δ.2.1, 8, .inl (fun _ => 0)))])))) C 36 rfl dX6_init_33 hK hP hD hS la_X6 tyX6_ok nmX6 0 4 (Nat.le_of_ble_eq_true rfl) fl_X6_25 rfl rfl rfl rfl rfl rfl (Nat.le_of_ble_eq_true rfl) rfl (fun H L hP hD hS => ?_)
  refine g_aload_n C 37 rfl dX6_init_36 0 rfl ?_
  refine g_iconst 0 C 38 rfl dX6_init_37 ki_0 ?_
  refine g_put (((h, .inr (6, [.ref q1, .ref q2, .int 0, .int 9, .int 2, .int 0, .int 0])) :: (([(q1, .inl (Δ.2.1, 36, .inl (fun _ => 0)))] ++ [(q2, .inl (Δ.2.1, 8, .inl (fun _ => 0)))])))) C 41 rfl dX6_init_38 hK hP hD hS la_X6 tyX6_ok nmX6 0 5 (Nat.le_of_ble_eq_true rfl) fl_X6_28 rfl rfl rfl rfl rfl rfl (Nat.le_of_ble_eq_true rfl) rfl (fun H L hP hD hS => ?_)
  refine g_aload_n C 42 rfl dX6_init_41 0 rfl ?_
  refine g_iconst 0 C 43 rfl dX6_init_42 ki_0 ?_
  refine g_put (((h, .inr (6, [.ref q1, .ref q2, .int 0, .int 9, .int 2, .int 0, .int 0])) :: (([(q1, .inl (Δ.2.1, 36, .inl (fun _ => 0)))] ++ [(q2, .inl (Δ.2.1, 8, .inl (fun _ => 0)))])))) C 46 rfl dX6_init_43 hK hP hD hS la_X6 tyX6_ok nmX6 0 6 (Nat.le_of_ble_eq_true rfl) fl_X6_31 rfl rfl rfl rfl rfl rfl (Nat.le_of_ble_eq_true rfl) rfl (fun H L hP hD hS => ?_)
  have hP9 := hP.sub (ws' := (fun a => cs6 a Δ i6) (fun i => ([h, (q1), (q2)] : List Nat).getD i 0)) [0, 1, 2] rfl
  have hD9 := hD.sub (ws' := (fun a => cs6 a Δ i6) (fun i => ([h, (q1), (q2)] : List Nat).getD i 0)) [0, 1, 2] (by decide) rfl
  exact hret (fun i => ([h, (q1), (q2)] : List Nat).getD i 0) _ _ rfl hP9 hD9 hS _ _ dX6_init_46
def i3 : S3 := ((fun _ => 0), 0)
set_option maxHeartbeats 1000000 in
set_option maxRecDepth 100000 in
theorem n_X3 (l : Launch) (Δ : gD) : MI l yX3_init cX3_init 1 Δ (.inr (3, [.null, .int 0])) 1 60 1 12 (fun a => cs3 a Δ i3) := by
  refine MI.of (by decide) rfl (by decide) ?_
  intro Γ A H h hl C hname hK hP hD hS hA hret
  subst hl
  refine g_aload_n C 1 rfl dX3_init_0 0 rfl ?_
  refine g_objInit C 4 rfl dX3_init_1 ml_X3_3 obj_im obj_co ⟨Nat.le_of_ble_eq_true rfl, Nat.le_of_ble_eq_true rfl⟩ ?_
  refine g_aload_n C 5 rfl dX3_init_4 0 rfl ?_
  refine g_bipush 60 C 7 rfl dX3_init_5 kb_60 ?_
  refine g_newI 60 C 9 rfl dX3_init_7 ac_int hK hP hD hS hA (by decide +kernel) (by decide +kernel) (by decide +kernel) (by decide +kernel) (by decide +kernel) (fun q1 H hP hD hS => ?_)
  refine g_putF (((h, .inr (3, [.ref q1, .int 0])) :: ([(q1, .inl (Δ.2.1, 60, .inl (fun _ => 0)))]))) C hname 12 rfl dX3_init_9 hK hP hD hS la_X3 tyX3_ok nmX3 0 0 (Nat.le_of_ble_eq_true rfl) fl_X3_9 rfl rfl rfl rfl rfl rfl rfl (Nat.le_of_ble_eq_true rfl) rfl (fun H L hP hD hS => ?_)
  refine g_aload_n C 13 rfl dX3_init_12 0 rfl ?_
  refine g_iconst 0 C 14 rfl dX3_init_13 ki_0 ?_
  refine g_put (((h, .inr (3, [.ref q1, .int 0])) :: ([(q1, .inl (Δ.2.1, 60, .inl (fun _ => 0)))]))) C 17 rfl dX3_init_14 hK hP hD hS la_X3 tyX3_ok nmX3 0 1 (Nat.le_of_ble_eq_true rfl) fl_X3_15 rfl rfl rfl rfl rfl rfl (Nat.le_of_ble_eq_true rfl) rfl (fun H L hP hD hS => ?_)
  have hP9 := hP.sub (ws' := (fun a => cs3 a Δ i3) (fun i => ([h, (q1)] : List Nat).getD i 0)) [0, 1] rfl
  have hD9 := hD.sub (ws' := (fun a => cs3 a Δ i3) (fun i => ([h, (q1)] : List Nat).getD i 0)) [0, 1] (by decide) rfl
  exact hret (fun i => ([h, (q1)] : List Nat).getD i 0) _ _ rfl hP9 hD9 hS _ _ dX3_init_17
def i5 : S5 := ((fun _ => 0), (fun _ => 0), 0)
set_option maxHeartbeats 1000000 in
set_option maxRecDepth 100000 in
theorem n_X5 (l : Launch) (Δ : gD) : MI l yX5_init cX5_init 1 Δ (.inr (5, [.null, .null, .int 0])) 2 1035 1 12 (fun a => cs5 a Δ i5) := by
  refine MI.of (by decide) rfl (by decide) ?_
  intro Γ A H h hl C hname hK hP hD hS hA hret
  subst hl
  refine g_aload_n C 1 rfl dX5_init_0 0 rfl ?_
  refine g_objInit C 4 rfl dX5_init_1 ml_X5_3 obj_im obj_co ⟨Nat.le_of_ble_eq_true rfl, Nat.le_of_ble_eq_true rfl⟩ ?_
  refine g_aload_n C 5 rfl dX5_init_4 0 rfl ?_
  refine g_sipush 1029 C 8 rfl dX5_init_5 ks_1029 ?_
  refine g_newI 1029 C 10 rfl dX5_init_8 ac_int hK hP hD hS hA (by decide +kernel) (by decide +kernel) (by decide +kernel) (by decide +kernel) (by decide +kernel) (fun q1 H hP hD hS => ?_)
  refine g_putF (((h, .inr (5, [.ref q1, .null, .int 0])) :: ([(q1, .inl (Δ.2.1, 1029, .inl (fun _ => 0)))]))) C hname 13 rfl dX5_init_10 hK hP hD hS la_X5 tyX5_ok nmX5 0 0 (Nat.le_of_ble_eq_true rfl) fl_X5_11 rfl rfl rfl rfl rfl rfl rfl (Nat.le_of_ble_eq_true rfl) rfl (fun H L hP hD hS => ?_)
  refine g_aload_n C 14 rfl dX5_init_13 0 rfl ?_
  refine g_bipush 6 C 16 rfl dX5_init_14 kb_6 ?_
  refine g_newI 6 C 18 rfl dX5_init_16 ac_int hK hP hD hS hA (by decide +kernel) (by decide +kernel) (by decide +kernel) (by decide +kernel) (by decide +kernel) (fun q2 H hP hD hS => ?_)
  refine g_putF (((h, .inr (5, [.ref q1, .ref q2, .int 0])) :: (([(q1, .inl (Δ.2.1, 1029, .inl (fun _ => 0)))] ++ [(q2, .inl (Δ.2.1, 6, .inl (fun _ => 0)))])))) C hname 21 rfl dX5_init_18 hK hP hD hS la_X5 tyX5_ok nmX5 0 1 (Nat.le_of_ble_eq_true rfl) fl_X5_15 rfl rfl rfl rfl rfl rfl rfl (Nat.le_of_ble_eq_true rfl) rfl (fun H L hP hD hS => ?_)
  refine g_aload_n C 22 rfl dX5_init_21 0 rfl ?_
  refine g_iconst 0 C 23 rfl dX5_init_22 ki_0 ?_
  refine g_put (((h, .inr (5, [.ref q1, .ref q2, .int 0])) :: (([(q1, .inl (Δ.2.1, 1029, .inl (fun _ => 0)))] ++ [(q2, .inl (Δ.2.1, 6, .inl (fun _ => 0)))])))) C 26 rfl dX5_init_23 hK hP hD hS la_X5 tyX5_ok nmX5 0 2 (Nat.le_of_ble_eq_true rfl) fl_X5_18 rfl rfl rfl rfl rfl rfl (Nat.le_of_ble_eq_true rfl) rfl (fun H L hP hD hS => ?_)
  have hP9 := hP.sub (ws' := (fun a => cs5 a Δ i5) (fun i => ([h, (q1), (q2)] : List Nat).getD i 0)) [0, 1, 2] rfl
  have hD9 := hD.sub (ws' := (fun a => cs5 a Δ i5) (fun i => ([h, (q1), (q2)] : List Nat).getD i 0)) [0, 1, 2] (by decide) rfl
  exact hret (fun i => ([h, (q1), (q2)] : List Nat).getD i 0) _ _ rfl hP9 hD9 hS _ _ dX5_init_26
def i1 : S1 := ((fun _ => 0), (fun _ => 0), 0)
set_option maxHeartbeats 1000000 in
set_option maxRecDepth 100000 in
theorem n_X1 (l : Launch) (Δ : gD) : MI l yX1_init cX1_init 1 Δ (.inr (1, [.null, .null, .int 0])) 2 273 1 12 (fun a => cs1 a Δ i1) := by
  refine MI.of (by decide) rfl (by decide) ?_
  intro Γ A H h hl C hname hK hP hD hS hA hret
  subst hl
  refine g_aload_n C 1 rfl dX1_init_0 0 rfl ?_
  refine g_objInit C 4 rfl dX1_init_1 ml_X1_3 obj_im obj_co ⟨Nat.le_of_ble_eq_true rfl, Nat.le_of_ble_eq_true rfl⟩ ?_
  refine g_aload_n C 5 rfl dX1_init_4 0 rfl ?_
  refine g_bipush 126 C 7 rfl dX1_init_5 kb_126 ?_
  refine g_newI 126 C 9 rfl dX1_init_7 ac_int hK hP hD hS hA (by decide +kernel) (by decide +kernel) (by decide +kernel) (by decide +kernel) (by decide +kernel) (fun q1 H hP hD hS => ?_)
  refine g_putF (((h, .inr (1, [.ref q1, .null, .int 0])) :: ([(q1, .inl (Δ.2.1, 126, .inl (fun _ => 0)))]))) C hname 12 rfl dX1_init_9 hK hP hD hS la_X1 tyX1_ok nmX1 0 0 (Nat.le_of_ble_eq_true rfl) fl_X1_11 rfl rfl rfl rfl rfl rfl rfl (Nat.le_of_ble_eq_true rfl) rfl (fun H L hP hD hS => ?_)
  refine g_aload_n C 13 rfl dX1_init_12 0 rfl ?_
  refine g_sipush 147 C 16 rfl dX1_init_13 ks_147 ?_
  refine g_newI 147 C 18 rfl dX1_init_16 ac_int hK hP hD hS hA (by decide +kernel) (by decide +kernel) (by decide +kernel) (by decide +kernel) (by decide +kernel) (fun q2 H hP hD hS => ?_)
  refine g_putF (((h, .inr (1, [.ref q1, .ref q2, .int 0])) :: (([(q1, .inl (Δ.2.1, 126, .inl (fun _ => 0)))] ++ [(q2, .inl (Δ.2.1, 147, .inl (fun _ => 0)))])))) C hname 21 rfl dX1_init_18 hK hP hD hS la_X1 tyX1_ok nmX1 0 1 (Nat.le_of_ble_eq_true rfl) fl_X1_15 rfl rfl rfl rfl rfl rfl rfl (Nat.le_of_ble_eq_true rfl) rfl (fun H L hP hD hS => ?_)
  refine g_aload_n C 22 rfl dX1_init_21 0 rfl ?_
  refine g_iconst 0 C 23 rfl dX1_init_22 ki_0 ?_
  refine g_put (((h, .inr (1, [.ref q1, .ref q2, .int 0])) :: (([(q1, .inl (Δ.2.1, 126, .inl (fun _ => 0)))] ++ [(q2, .inl (Δ.2.1, 147, .inl (fun _ => 0)))])))) C 26 rfl dX1_init_23 hK hP hD hS la_X1 tyX1_ok nmX1 0 2 (Nat.le_of_ble_eq_true rfl) fl_X1_18 rfl rfl rfl rfl rfl rfl (Nat.le_of_ble_eq_true rfl) rfl (fun H L hP hD hS => ?_)
  have hP9 := hP.sub (ws' := (fun a => cs1 a Δ i1) (fun i => ([h, (q1), (q2)] : List Nat).getD i 0)) [0, 1, 2] rfl
  have hD9 := hD.sub (ws' := (fun a => cs1 a Δ i1) (fun i => ([h, (q1), (q2)] : List Nat).getD i 0)) [0, 1, 2] (by decide) rfl
  exact hret (fun i => ([h, (q1), (q2)] : List Nat).getD i 0) _ _ rfl hP9 hD9 hS _ _ dX1_init_26
def i4 : S4 := ((fun _ => 0), (fun _ => 0), 0, 0)
set_option maxHeartbeats 1000000 in
set_option maxRecDepth 100000 in
theorem n_X4 (l : Launch) (Δ : gD) : MI l yX4_init cX4_init 1 Δ (.inr (4, [.null, .null, .int 0, .int 0])) 2 454 1 12 (fun a => cs4 a Δ i4) := by
  refine MI.of (by decide) rfl (by decide) ?_
  intro Γ A H h hl C hname hK hP hD hS hA hret
  subst hl
  refine g_aload_n C 1 rfl dX4_init_0 0 rfl ?_
  refine g_objInit C 4 rfl dX4_init_1 ml_X4_3 obj_im obj_co ⟨Nat.le_of_ble_eq_true rfl, Nat.le_of_ble_eq_true rfl⟩ ?_
  refine g_aload_n C 5 rfl dX4_init_4 0 rfl ?_
  refine g_sipush 448 C 8 rfl dX4_init_5 ks_448 ?_
  refine g_newI 448 C 10 rfl dX4_init_8 ac_int hK hP hD hS hA (by decide +kernel) (by decide +kernel) (by decide +kernel) (by decide +kernel) (by decide +kernel) (fun q1 H hP hD hS => ?_)
  refine g_putF (((h, .inr (4, [.ref q1, .null, .int 0, .int 0])) :: ([(q1, .inl (Δ.2.1, 448, .inl (fun _ => 0)))]))) C hname 13 rfl dX4_init_10 hK hP hD hS la_X4 tyX4_ok nmX4 0 0 (Nat.le_of_ble_eq_true rfl) fl_X4_11 rfl rfl rfl rfl rfl rfl rfl (Nat.le_of_ble_eq_true rfl) rfl (fun H L hP hD hS => ?_)
  refine g_aload_n C 14 rfl dX4_init_13 0 rfl ?_
  refine g_bipush 6 C 16 rfl dX4_init_14 kb_6 ?_
  refine g_newI 6 C 18 rfl dX4_init_16 ac_int hK hP hD hS hA (by decide +kernel) (by decide +kernel) (by decide +kernel) (by decide +kernel) (by decide +kernel) (fun q2 H hP hD hS => ?_)
  refine g_putF (((h, .inr (4, [.ref q1, .ref q2, .int 0, .int 0])) :: (([(q1, .inl (Δ.2.1, 448, .inl (fun _ => 0)))] ++ [(q2, .inl (Δ.2.1, 6, .inl (fun _ => 0)))])))) C hname 21 rfl dX4_init_18 hK hP hD hS la_X4 tyX4_ok nmX4 0 1 (Nat.le_of_ble_eq_true rfl) fl_X4_15 rfl rfl rfl rfl rfl rfl rfl (Nat.le_of_ble_eq_true rfl) rfl (fun H L hP hD hS => ?_)
  refine g_aload_n C 22 rfl dX4_init_21 0 rfl ?_
  refine g_iconst 0 C 23 rfl dX4_init_22 ki_0 ?_
  refine g_put (((h, .inr (4, [.ref q1, .ref q2, .int 0, .int 0])) :: (([(q1, .inl (Δ.2.1, 448, .inl (fun _ => 0)))] ++ [(q2, .inl (Δ.2.1, 6, .inl (fun _ => 0)))])))) C 26 rfl dX4_init_23 hK hP hD hS la_X4 tyX4_ok nmX4 0 2 (Nat.le_of_ble_eq_true rfl) fl_X4_18 rfl rfl rfl rfl rfl rfl (Nat.le_of_ble_eq_true rfl) rfl (fun H L hP hD hS => ?_)
  refine g_aload_n C 27 rfl dX4_init_26 0 rfl ?_
  refine g_iconst 0 C 28 rfl dX4_init_27 ki_0 ?_
  refine g_put (((h, .inr (4, [.ref q1, .ref q2, .int 0, .int 0])) :: (([(q1, .inl (Δ.2.1, 448, .inl (fun _ => 0)))] ++ [(q2, .inl (Δ.2.1, 6, .inl (fun _ => 0)))])))) C 31 rfl dX4_init_28 hK hP hD hS la_X4 tyX4_ok nmX4 0 3 (Nat.le_of_ble_eq_true rfl) fl_X4_22 rfl rfl rfl rfl rfl rfl (Nat.le_of_ble_eq_true rfl) rfl (fun H L hP hD hS => ?_)
  have hP9 := hP.sub (ws' := (fun a => cs4 a Δ i4) (fun i => ([h, (q1), (q2)] : List Nat).getD i 0)) [0, 1, 2] rfl
  have hD9 := hD.sub (ws' := (fun a => cs4 a Δ i4) (fun i => ([h, (q1), (q2)] : List Nat).getD i 0)) [0, 1, 2] (by decide) rfl
  exact hret (fun i => ([h, (q1), (q2)] : List Nat).getD i 0) _ _ rfl hP9 hD9 hS _ _ dX4_init_31
def i0 : S0 := ((fun _ => 0), 0, 0, 0)
set_option maxHeartbeats 1000000 in
set_option maxRecDepth 100000 in
theorem n_X0 (l : Launch) (Δ : gD) : MI l yX0_init cX0_init 1 Δ (.inr (0, [.null, .int 0, .int 0, .int 0])) 1 343 1 12 (fun a => cs0 a Δ i0) := by
  refine MI.of (by decide) rfl (by decide) ?_
  intro Γ A H h hl C hname hK hP hD hS hA hret
  subst hl
  refine g_aload_n C 1 rfl dX0_init_0 0 rfl ?_
  refine g_objInit C 4 rfl dX0_init_1 ml_X0_3 obj_im obj_co ⟨Nat.le_of_ble_eq_true rfl, Nat.le_of_ble_eq_true rfl⟩ ?_
  refine g_aload_n C 5 rfl dX0_init_4 0 rfl ?_
  refine g_sipush 343 C 8 rfl dX0_init_5 ks_343 ?_
  refine g_newI 343 C 10 rfl dX0_init_8 ac_int hK hP hD hS hA (by decide +kernel) (by decide +kernel) (by decide +kernel) (by decide +kernel) (by decide +kernel) (fun q1 H hP hD hS => ?_)
  refine g_putF (((h, .inr (0, [.ref q1, .int 0, .int 0, .int 0])) :: ([(q1, .inl (Δ.2.1, 343, .inl (fun _ => 0)))]))) C hname 13 rfl dX0_init_10 hK hP hD hS la_X0 tyX0_ok nmX0 0 0 (Nat.le_of_ble_eq_true rfl) fl_X0_11 rfl rfl rfl rfl rfl rfl rfl (Nat.le_of_ble_eq_true rfl) rfl (fun H L hP hD hS => ?_)
  refine g_aload_n C 14 rfl dX0_init_13 0 rfl ?_
  refine g_iconst 0 C 15 rfl dX0_init_14 ki_0 ?_
  refine g_put (((h, .inr (0, [.ref q1, .int 0, .int 0, .int 0])) :: ([(q1, .inl (Δ.2.1, 343, .inl (fun _ => 0)))]))) C 18 rfl dX0_init_15 hK hP hD hS la_X0 tyX0_ok nmX0 0 1 (Nat.le_of_ble_eq_true rfl) fl_X0_15 rfl rfl rfl rfl rfl rfl (Nat.le_of_ble_eq_true rfl) rfl (fun H L hP hD hS => ?_)
  refine g_aload_n C 19 rfl dX0_init_18 0 rfl ?_
  refine g_iconst 0 C 20 rfl dX0_init_19 ki_0 ?_
  refine g_put (((h, .inr (0, [.ref q1, .int 0, .int 0, .int 0])) :: ([(q1, .inl (Δ.2.1, 343, .inl (fun _ => 0)))]))) C 23 rfl dX0_init_20 hK hP hD hS la_X0 tyX0_ok nmX0 0 2 (Nat.le_of_ble_eq_true rfl) fl_X0_19 rfl rfl rfl rfl rfl rfl (Nat.le_of_ble_eq_true rfl) rfl (fun H L hP hD hS => ?_)
  refine g_aload_n C 24 rfl dX0_init_23 0 rfl ?_
  refine g_iconst 0 C 25 rfl dX0_init_24 ki_0 ?_
  refine g_put (((h, .inr (0, [.ref q1, .int 0, .int 0, .int 0])) :: ([(q1, .inl (Δ.2.1, 343, .inl (fun _ => 0)))]))) C 28 rfl dX0_init_25 hK hP hD hS la_X0 tyX0_ok nmX0 0 3 (Nat.le_of_ble_eq_true rfl) fl_X0_22 rfl rfl rfl rfl rfl rfl (Nat.le_of_ble_eq_true rfl) rfl (fun H L hP hD hS => ?_)
  have hP9 := hP.sub (ws' := (fun a => cs0 a Δ i0) (fun i => ([h, (q1)] : List Nat).getD i 0)) [0, 1] rfl
  have hD9 := hD.sub (ws' := (fun a => cs0 a Δ i0) (fun i => ([h, (q1)] : List Nat).getD i 0)) [0, 1] (by decide) rfl
  exact hret (fun i => ([h, (q1)] : List Nat).getD i 0) _ _ rfl hP9 hD9 hS _ _ dX0_init_28
def i2 : S2 := ((fun _ => 0), (fun _ => 0), 0, 1, 0)
set_option maxHeartbeats 1000000 in
set_option maxRecDepth 100000 in
theorem n_X2 (l : Launch) (Δ : gD) : MI l yX2_init cX2_init 1 Δ (.inr (2, [.null, .null, .int 0, .long 0, .long 0])) 2 42 1 12 (fun a => cs2 a Δ i2) := by
  refine MI.of (by decide) rfl (by decide) ?_
  intro Γ A H h hl C hname hK hP hD hS hA hret
  subst hl
  refine g_aload_n C 1 rfl dX2_init_0 0 rfl ?_
  refine g_objInit C 4 rfl dX2_init_1 ml_X2_3 obj_im obj_co ⟨Nat.le_of_ble_eq_true rfl, Nat.le_of_ble_eq_true rfl⟩ ?_
  refine g_aload_n C 5 rfl dX2_init_4 0 rfl ?_
  refine g_bipush 21 C 7 rfl dX2_init_5 kb_21 ?_
  refine g_newJ 21 C 9 rfl dX2_init_7 ac_long hK hP hD hS hA (by decide +kernel) (by decide +kernel) (by decide +kernel) (by decide +kernel) (by decide +kernel) (fun q1 H hP hD hS => ?_)
  refine g_putF (((h, .inr (2, [.ref q1, .null, .int 0, .long 0, .long 0])) :: ([(q1, .inl (Δ.2.2.1, 21, .inr (.inl (fun _ => 0))))]))) C hname 12 rfl dX2_init_9 hK hP hD hS la_X2 tyX2_ok nmX2 0 0 (Nat.le_of_ble_eq_true rfl) fl_X2_9 rfl rfl rfl rfl rfl rfl rfl (Nat.le_of_ble_eq_true rfl) rfl (fun H L hP hD hS => ?_)
  refine g_aload_n C 13 rfl dX2_init_12 0 rfl ?_
  refine g_bipush 21 C 15 rfl dX2_init_13 kb_21 ?_
  refine g_newJ 21 C 17 rfl dX2_init_15 ac_long hK hP hD hS hA (by decide +kernel) (by decide +kernel) (by decide +kernel) (by decide +kernel) (by decide +kernel) (fun q2 H hP hD hS => ?_)
  refine g_putF (((h, .inr (2, [.ref q1, .ref q2, .int 0, .long 0, .long 0])) :: (([(q1, .inl (Δ.2.2.1, 21, .inr (.inl (fun _ => 0))))] ++ [(q2, .inl (Δ.2.2.1, 21, .inr (.inl (fun _ => 0))))])))) C hname 20 rfl dX2_init_17 hK hP hD hS la_X2 tyX2_ok nmX2 0 1 (Nat.le_of_ble_eq_true rfl) fl_X2_15 rfl rfl rfl rfl rfl rfl rfl (Nat.le_of_ble_eq_true rfl) rfl (fun H L hP hD hS => ?_)
  refine g_aload_n C 21 rfl dX2_init_20 0 rfl ?_
  refine g_iconst 0 C 22 rfl dX2_init_21 ki_0 ?_
  refine g_put (((h, .inr (2, [.ref q1, .ref q2, .int 0, .long 0, .long 0])) :: (([(q1, .inl (Δ.2.2.1, 21, .inr (.inl (fun _ => 0))))] ++ [(q2, .inl (Δ.2.2.1, 21, .inr (.inl (fun _ => 0))))])))) C 25 rfl dX2_init_22 hK hP hD hS la_X2 tyX2_ok nmX2 0 2 (Nat.le_of_ble_eq_true rfl) fl_X2_18 rfl rfl rfl rfl rfl rfl (Nat.le_of_ble_eq_true rfl) rfl (fun H L hP hD hS => ?_)
  refine g_aload_n C 26 rfl dX2_init_25 0 rfl ?_
  refine g_lconst 1 C 27 rfl dX2_init_26 kl_1 ?_
  refine g_put (((h, .inr (2, [.ref q1, .ref q2, .int 0, .long 1, .long 0])) :: (([(q1, .inl (Δ.2.2.1, 21, .inr (.inl (fun _ => 0))))] ++ [(q2, .inl (Δ.2.2.1, 21, .inr (.inl (fun _ => 0))))])))) C 30 rfl dX2_init_27 hK hP hD hS la_X2 tyX2_ok nmX2 0 3 (Nat.le_of_ble_eq_true rfl) fl_X2_22 rfl rfl rfl rfl rfl rfl (Nat.le_of_ble_eq_true rfl) rfl (fun H L hP hD hS => ?_)
  refine g_aload_n C 31 rfl dX2_init_30 0 rfl ?_
  refine g_lconst 0 C 32 rfl dX2_init_31 kl_0 ?_
  refine g_put (((h, .inr (2, [.ref q1, .ref q2, .int 0, .long 1, .long 0])) :: (([(q1, .inl (Δ.2.2.1, 21, .inr (.inl (fun _ => 0))))] ++ [(q2, .inl (Δ.2.2.1, 21, .inr (.inl (fun _ => 0))))])))) C 35 rfl dX2_init_32 hK hP hD hS la_X2 tyX2_ok nmX2 0 4 (Nat.le_of_ble_eq_true rfl) fl_X2_26 rfl rfl rfl rfl rfl rfl (Nat.le_of_ble_eq_true rfl) rfl (fun H L hP hD hS => ?_)
  have hP9 := hP.sub (ws' := (fun a => cs2 a Δ i2) (fun i => ([h, (q1), (q2)] : List Nat).getD i 0)) [0, 1, 2] rfl
  have hD9 := hD.sub (ws' := (fun a => cs2 a Δ i2) (fun i => ([h, (q1), (q2)] : List Nat).getD i 0)) [0, 1, 2] (by decide) rfl
  exact hret (fun i => ([h, (q1), (q2)] : List Nat).getD i 0) _ _ rfl hP9 hD9 hS _ _ dX2_init_35
def i7 : S7 := (i6, 0, 0, 0, 0, (-6), (-6), 0)
set_option maxHeartbeats 1000000 in
set_option maxRecDepth 100000 in
theorem n_X7 (l : Launch) (Δ : gD) : MI l yX7_init cX7_init 1 Δ (.inr (7, [.null, .int 0, .int 0, .int 0, .int 0, .int 0, .int 0, .int 0])) 3 51 2 32 (fun a => cs7 a Δ i7) := by
  refine MI.of (by decide) rfl (by decide) ?_
  intro Γ A H h hl C hname hK hP hD hS hA hret
  subst hl
  refine g_aload_n C 1 rfl dX7_init_0 0 rfl ?_
  refine g_objInit C 4 rfl dX7_init_1 ml_X7_3 obj_im obj_co ⟨Nat.le_of_ble_eq_true rfl, Nat.le_of_ble_eq_true rfl⟩ ?_
  refine g_aload_n C 5 rfl dX7_init_4 0 rfl ?_
  refine g_new C 8 rfl dX7_init_5 la_X6 tyX6_ok cl_X7_9 it_X6 ini_X6 hK hP hD hS hA (ci := 6) rfl [.null, .null, .int 0, .int 0, .int 0, .int 0, .int 0] (fun j hj => by match j, hj with | 0, _ => rfl | 1, _ => rfl | 2, _ => rfl | 3, _ => rfl | 4, _ => rfl | 5, _ => rfl | 6, _ => rfl | j + 7, h => omega) (Nat.le_of_ble_eq_true rfl) (Nat.le_of_ble_eq_true rfl) (fun q1 H hP hD hS => ?_)
  refine g_dup C 9 rfl dX7_init_8 rfl ?_
  refine g_callI C 12 rfl dX7_init_9 (n_X6 Γ.2.1 Δ) co_X6_init im_X6_init ini_X6 ml_X7_11 rfl ⟨by decide +kernel, by decide +kernel, by decide +kernel⟩ hK hP hD hS hA [1] [0] rfl (wr := [(h, .inr (7, [.null, .int 0, .int 0, .int 0, .int 0, .int 0, .int 0, .int 0]))]) rfl (by decide) (by decide) (by decide) ⟨Nat.le_of_ble_eq_true rfl, Nat.le_of_ble_eq_true rfl⟩ (Nat.le_of_ble_eq_true rfl) ⟨Nat.le_of_ble_eq_true rfl, Nat.le_of_ble_eq_true rfl⟩ (fun a6v9 H L ha9 hP9 hD9 hS => ?_)
  clear hP hD
  subst ha9
  have hP := hP9
  have hD := hD9
  clear hP9 hD9
  refine g_putF (((h, .inr (7, [.ref (a6v9 0), .int 0, .int 0, .int 0, .int 0, .int 0, .int 0, .int 0])) :: (cs6 a6v9 Δ i6))) C hname 15 rfl dX7_init_12 hK hP hD hS la_X7 tyX7_ok nmX7 0 0 (Nat.le_of_ble_eq_true rfl) fl_X7_12 rfl rfl rfl rfl rfl rfl rfl (Nat.le_of_ble_eq_true rfl) rfl (fun H L hP hD hS => ?_)
  refine g_aload_n C 16 rfl dX7_init_15 0 rfl ?_
  refine g_iconst 0 C 17 rfl dX7_init_16 ki_0 ?_
  refine g_put (((h, .inr (7, [.ref (a6v9 0), .int 0, .int 0, .int 0, .int 0, .int 0, .int 0, .int 0])) :: (cs6 a6v9 Δ i6))) C 20 rfl dX7_init_17 hK hP hD hS la_X7 tyX7_ok nmX7 0 1 (Nat.le_of_ble_eq_true rfl) fl_X7_18 rfl rfl rfl rfl rfl rfl (Nat.le_of_ble_eq_true rfl) rfl (fun H L hP hD hS => ?_)
  refine g_aload_n C 21 rfl dX7_init_20 0 rfl ?_
  refine g_iconst 0 C 22 rfl dX7_init_21 ki_0 ?_
  refine g_put (((h, .inr (7, [.ref (a6v9 0), .int 0, .int 0, .int 0, .int 0, .int 0, .int 0, .int 0])) :: (cs6 a6v9 Δ i6))) C 25 rfl dX7_init_22 hK hP hD hS la_X7 tyX7_ok nmX7 0 2 (Nat.le_of_ble_eq_true rfl) fl_X7_22 rfl rfl rfl rfl rfl rfl (Nat.le_of_ble_eq_true rfl) rfl (fun H L hP hD hS => ?_)
  refine g_aload_n C 26 rfl dX7_init_25 0 rfl ?_
  refine g_iconst 0 C 27 rfl dX7_init_26 ki_0 ?_
  refine g_put (((h, .inr (7, [.ref (a6v9 0), .int 0, .int 0, .int 0, .int 0, .int 0, .int 0, .int 0])) :: (cs6 a6v9 Δ i6))) C 30 rfl dX7_init_27 hK hP hD hS la_X7 tyX7_ok nmX7 0 3 (Nat.le_of_ble_eq_true rfl) fl_X7_25 rfl rfl rfl rfl rfl rfl (Nat.le_of_ble_eq_true rfl) rfl (fun H L hP hD hS => ?_)
  refine g_aload_n C 31 rfl dX7_init_30 0 rfl ?_
  refine g_iconst 0 C 32 rfl dX7_init_31 ki_0 ?_
  refine g_put (((h, .inr (7, [.ref (a6v9 0), .int 0, .int 0, .int 0, .int 0, .int 0, .int 0, .int 0])) :: (cs6 a6v9 Δ i6))) C 35 rfl dX7_init_32 hK hP hD hS la_X7 tyX7_ok nmX7 0 4 (Nat.le_of_ble_eq_true rfl) fl_X7_28 rfl rfl rfl rfl rfl rfl (Nat.le_of_ble_eq_true rfl) rfl (fun H L hP hD hS => ?_)
  refine g_aload_n C 36 rfl dX7_init_35 0 rfl ?_
  refine g_bipush (-6) C 38 rfl dX7_init_36 kb_m6 ?_
  refine g_put (((h, .inr (7, [.ref (a6v9 0), .int 0, .int 0, .int 0, .int 0, .int (-6), .int 0, .int 0])) :: (cs6 a6v9 Δ i6))) C 41 rfl dX7_init_38 hK hP hD hS la_X7 tyX7_ok nmX7 0 5 (Nat.le_of_ble_eq_true rfl) fl_X7_31 rfl rfl rfl rfl rfl rfl (Nat.le_of_ble_eq_true rfl) rfl (fun H L hP hD hS => ?_)
  refine g_aload_n C 42 rfl dX7_init_41 0 rfl ?_
  refine g_bipush (-6) C 44 rfl dX7_init_42 kb_m6 ?_
  refine g_put (((h, .inr (7, [.ref (a6v9 0), .int 0, .int 0, .int 0, .int 0, .int (-6), .int (-6), .int 0])) :: (cs6 a6v9 Δ i6))) C 47 rfl dX7_init_44 hK hP hD hS la_X7 tyX7_ok nmX7 0 6 (Nat.le_of_ble_eq_true rfl) fl_X7_34 rfl rfl rfl rfl rfl rfl (Nat.le_of_ble_eq_true rfl) rfl (fun H L hP hD hS => ?_)
  refine g_aload_n C 48 rfl dX7_init_47 0 rfl ?_
  refine g_iconst 0 C 49 rfl dX7_init_48 ki_0 ?_
  refine g_put (((h, .inr (7, [.ref (a6v9 0), .int 0, .int 0, .int 0, .int 0, .int (-6), .int (-6), .int 0])) :: (cs6 a6v9 Δ i6))) C 52 rfl dX7_init_49 hK hP hD hS la_X7 tyX7_ok nmX7 0 7 (Nat.le_of_ble_eq_true rfl) fl_X7_37 rfl rfl rfl rfl rfl rfl (Nat.le_of_ble_eq_true rfl) rfl (fun H L hP hD hS => ?_)
  have hP9 := hP.sub (ws' := (fun a => cs7 a Δ i7) (fun i => ([h, (a6v9 0), (a6v9 1), (a6v9 2)] : List Nat).getD i 0)) [0, 1, 2, 3] rfl
  have hD9 := hD.sub (ws' := (fun a => cs7 a Δ i7) (fun i => ([h, (a6v9 0), (a6v9 1), (a6v9 2)] : List Nat).getD i 0)) [0, 1, 2, 3] (by decide) rfl
  exact hret (fun i => ([h, (a6v9 0), (a6v9 1), (a6v9 2)] : List Nat).getD i 0) _ _ rfl hP9 hD9 hS _ _ dX7_init_52
def i8 : S8 := (i6, i3, i7, i5, i1, i4, i0, i2)
set_option maxHeartbeats 2000000 in
set_option maxRecDepth 100000 in
theorem n_X8 (l : Launch) (Δ : gD) : MI l yX8_init cX8_init 1 Δ (.inr (8, [.null, .null, .null, .null, .null, .null, .null, .null, .null])) 24 2340 3 52 (fun a => cs8 a Δ i8 ++ [(a 24, .inl (Δ.2.2.2.2, 2, .inr (.inr (.inr (.inr (fun _ => none))))))]) := by
  refine MI.of (by decide) rfl (by decide) ?_
  intro Γ A H h hl C hname hK hP hD hS hA hret
  subst hl
  refine g_aload_n C 1 rfl dX8_init_0 0 rfl ?_
  refine g_objInit C 4 rfl dX8_init_1 ml_X8_1 obj_im obj_co ⟨Nat.le_of_ble_eq_true rfl, Nat.le_of_ble_eq_true rfl⟩ ?_
  refine g_aload_n C 5 rfl dX8_init_4 0 rfl ?_
  refine g_new C 8 rfl dX8_init_5 la_X6 tyX6_ok cl_X8_7 it_X6 ini_X6 hK hP hD hS hA (ci := 6) rfl [.null, .null, .int 0, .int 0, .int 0, .int 0, .int 0] (fun j hj => by match j, hj with | 0, _ => rfl | 1, _ => rfl | 2, _ => rfl | 3, _ => rfl | 4, _ => rfl | 5, _ => rfl | 6, _ => rfl | j + 7, h => omega) (Nat.le_of_ble_eq_true rfl) (Nat.le_of_ble_eq_true rfl) (fun q1 H hP hD hS => ?_)
  refine g_dup C 9 rfl dX8_init_8 rfl ?_
  refine g_callI C 12 rfl dX8_init_9 (n_X6 Γ.2.1 Δ) co_X6_init im_X6_init ini_X6 ml_X8_9 rfl ⟨by decide +kernel, by decide +kernel, by decide +kernel⟩ hK hP hD hS hA [1] [0] rfl (wr := [(h, .inr (8, [.null, .null, .null, .null, .null, .null, .null, .null, .null]))]) rfl (by decide) (by decide) (by decide) ⟨Nat.le_of_ble_eq_true rfl, Nat.le_of_ble_eq_true rfl⟩ (Nat.le_of_ble_eq_true rfl) ⟨Nat.le_of_ble_eq_true rfl, Nat.le_of_ble_eq_true rfl⟩ (fun a6v9 H L ha9 hP9 hD9 hS => ?_)
  clear hP hD
  subst ha9
  have hP := hP9
  have hD := hD9
  clear hP9 hD9
  refine g_putF (((h, .inr (8, [.ref (a6v9 0), .null, .null, .null, .null, .null, .null, .null, .null])) :: (cs6 a6v9 Δ i6))) C hname 15 rfl dX8_init_12 hK hP hD hS la_X8 tyX8_ok nmX8 0 0 (Nat.le_of_ble_eq_true rfl) fl_X8_10 rfl rfl rfl rfl rfl rfl rfl (Nat.le_of_ble_eq_true rfl) rfl (fun H L hP hD hS => ?_)
  refine g_aload_n C 16 rfl dX8_init_15 0 rfl ?_
  refine g_new C 19 rfl dX8_init_16 la_X3 tyX3_ok cl_X8_16 it_X3 ini_X3 hK hP hD hS hA (ci := 3) rfl [.null, .int 0] (fun j hj => by match j, hj with | 0, _ => rfl | 1, _ => rfl | j + 2, h => omega) (Nat.le_of_ble_eq_true rfl) (Nat.le_of_ble_eq_true rfl) (fun q2 H hP hD hS => ?_)
  refine g_dup C 20 rfl dX8_init_19 rfl ?_
  refine g_callI C 23 rfl dX8_init_20 (n_X3 Γ.2.1 Δ) co_X3_init im_X3_init ini_X3 ml_X8_18 rfl ⟨by decide +kernel, by decide +kernel, by decide +kernel⟩ hK hP hD hS hA [4] [0, 1, 2, 3] rfl (wr := ((h, .inr (8, [.ref (a6v9 0), .null, .null, .null, .null, .null, .null, .null, .null])) :: (cs6 a6v9 Δ i6))) rfl (by decide) (by decide) (by decide) ⟨Nat.le_of_ble_eq_true rfl, Nat.le_of_ble_eq_true rfl⟩ (Nat.le_of_ble_eq_true rfl) ⟨Nat.le_of_ble_eq_true rfl, Nat.le_of_ble_eq_true rfl⟩ (fun a3v20 H L ha20 hP9 hD9 hS => ?_)
  clear hP hD
  subst ha20
  have hP := hP9
  have hD := hD9
  clear hP9 hD9
  refine g_putF (((h, .inr (8, [.ref (a6v9 0), .ref (a3v20 0), .null, .null, .null, .null, .null, .null, .null])) :: ((cs6 a6v9 Δ i6 ++ cs3 a3v20 Δ i3)))) C hname 26 rfl dX8_init_23 hK hP hD hS la_X8 tyX8_ok nmX8 0 1 (Nat.le_of_ble_eq_true rfl) fl_X8_19 rfl rfl rfl rfl rfl rfl rfl (Nat.le_of_ble_eq_true rfl) rfl (fun H L hP hD hS => ?_)
  refine g_aload_n C 27 rfl dX8_init_26 0 rfl ?_
  refine g_new C 30 rfl dX8_init_27 la_X7 tyX7_ok cl_X8_23 it_X7 ini_X7 hK hP hD hS hA (ci := 7) rfl [.null, .int 0, .int 0, .int 0, .int 0, .int 0, .int 0, .int 0] (fun j hj => by match j, hj with | 0, _ => rfl | 1, _ => rfl | 2, _ => rfl | 3, _ => rfl | 4, _ => rfl | 5, _ => rfl | 6, _ => rfl | 7, _ => rfl | j + 8, h => omega) (Nat.le_of_ble_eq_true rfl) (Nat.le_of_ble_eq_true rfl) (fun q3 H hP hD hS => ?_)
  refine g_dup C 31 rfl dX8_init_30 rfl ?_
  refine g_callI C 34 rfl dX8_init_31 (n_X7 Γ.2.1 Δ) co_X7_init im_X7_init ini_X7 ml_X8_25 rfl ⟨by decide +kernel, by decide +kernel, by decide +kernel⟩ hK hP hD hS hA [6] [0, 1, 2, 3, 4, 5] rfl (wr := ((h, .inr (8, [.ref (a6v9 0), .ref (a3v20 0), .null, .null, .null, .null, .null, .null, .null])) :: ((cs6 a6v9 Δ i6 ++ cs3 a3v20 Δ i3)))) rfl (by decide) (by decide) (by decide) ⟨Nat.le_of_ble_eq_true rfl, Nat.le_of_ble_eq_true rfl⟩ (Nat.le_of_ble_eq_true rfl) ⟨Nat.le_of_ble_eq_true rfl, Nat.le_of_ble_eq_true rfl⟩ (fun a7v31 H L ha31 hP9 hD9 hS => ?_)
  clear hP hD
  subst ha31
  have hP := hP9
  have hD := hD9
  clear hP9 hD9
  refine g_putF (((h, .inr (8, [.ref (a6v9 0), .ref (a3v20 0), .ref (a7v31 0), .null, .null, .null, .null, .null, .null])) :: (((cs6 a6v9 Δ i6 ++ cs3 a3v20 Δ i3) ++ cs7 a7v31 Δ i7)))) C hname 37 rfl dX8_init_34 hK hP hD hS la_X8 tyX8_ok nmX8 0 2 (Nat.le_of_ble_eq_true rfl) fl_X8_26 rfl rfl rfl rfl rfl rfl rfl (Nat.le_of_ble_eq_true rfl) rfl (fun H L hP hD hS => ?_)
  refine g_aload_n C 38 rfl dX8_init_37 0 rfl ?_
  refine g_iconst 2 C 39 rfl dX8_init_38 ki_2 ?_
  refine g_newT 2 C 42 rfl dX8_init_39 cl_X8_7 hK hP hD hS hA (by decide +kernel) (by decide +kernel) (by decide +kernel) (by decide +kernel) (by decide +kernel) (fun q4 H hP hD hS => ?_)
  refine g_putF (((h, .inr (8, [.ref (a6v9 0), .ref (a3v20 0), .ref (a7v31 0), .ref q4, .null, .null, .null, .null, .null])) :: ((((cs6 a6v9 Δ i6 ++ cs3 a3v20 Δ i3) ++ cs7 a7v31 Δ i7) ++ [(q4, .inl (Δ.2.2.2.2, 2, .inr (.inr (.inr (.inr (fun _ => none))))))])))) C hname 45 rfl dX8_init_42 hK hP hD hS la_X8 tyX8_ok nmX8 0 3 (Nat.le_of_ble_eq_true rfl) fl_X8_30 rfl rfl rfl rfl rfl rfl rfl (Nat.le_of_ble_eq_true rfl) rfl (fun H L hP hD hS => ?_)
  refine g_aload_n C 46 rfl dX8_init_45 0 rfl ?_
  refine g_new C 49 rfl dX8_init_46 la_X5 tyX5_ok cl_X8_34 it_X5 ini_X5 hK hP hD hS hA (ci := 5) rfl [.null, .null, .int 0] (fun j hj => by match j, hj with | 0, _ => rfl | 1, _ => rfl | 2, _ => rfl | j + 3, h => omega) (Nat.le_of_ble_eq_true rfl) (Nat.le_of_ble_eq_true rfl) (fun q5 H hP hD hS => ?_)
  refine g_dup C 50 rfl dX8_init_49 rfl ?_
  refine g_callI C 53 rfl dX8_init_50 (n_X5 Γ.2.1 Δ) co_X5_init im_X5_init ini_X5 ml_X8_36 rfl ⟨by decide +kernel, by decide +kernel, by decide +kernel⟩ hK hP hD hS hA [11] [0, 1, 2, 3, 4, 5, 6, 7, 8, 9, 10] rfl (wr := ((h, .inr (8, [.ref (a6v9 0), .ref (a3v20 0), .ref (a7v31 0), .ref q4, .null, .null, .null, .null, .null])) :: ((((cs6 a6v9 Δ i6 ++ cs3 a3v20 Δ i3) ++ cs7 a7v31 Δ i7) ++ [(q4, .inl (Δ.2.2.2.2, 2, .inr (.inr (.inr (.inr (fun _ => none))))))])))) rfl (by decide) (by decide) (by decide) ⟨Nat.le_of_ble_eq_true rfl, Nat.le_of_ble_eq_true rfl⟩ (Nat.le_of_ble_eq_true rfl) ⟨Nat.le_of_ble_eq_true rfl, Nat.le_of_ble_eq_true rfl⟩ (fun a5v50 H L ha50 hP9 hD9 hS => ?_)
  clear hP hD
  subst ha50
  have hP := hP9
  have hD := hD9
  clear hP9 hD9
  refine g_putF (((h, .inr (8, [.ref (a6v9 0), .ref (a3v20 0), .ref (a7v31 0), .ref q4, .ref (a5v50 0), .null, .null, .null, .null])) :: (((((cs6 a6v9 Δ i6 ++ cs3 a3v20 Δ i3) ++ cs7 a7v31 Δ i7) ++ [(q4, .inl (Δ.2.2.2.2, 2, .inr (.inr (.inr (.inr (fun _ => none))))))]) ++ cs5 a5v50 Δ i5)))) C hname 56 rfl dX8_init_53 hK hP hD hS la_X8 tyX8_ok nmX8 0 4 (Nat.le_of_ble_eq_true rfl) fl_X8_37 rfl rfl rfl rfl rfl rfl rfl (Nat.le_of_ble_eq_true rfl) rfl (fun H L hP hD hS => ?_)
  refine g_aload_n C 57 rfl dX8_init_56 0 rfl ?_
  refine g_new C 60 rfl dX8_init_57 la_X1 tyX1_ok cl_X8_41 it_X1 ini_X1 hK hP hD hS hA (ci := 1) rfl [.null, .null, .int 0] (fun j hj => by match j, hj with | 0, _ => rfl | 1, _ => rfl | 2, _ => rfl | j + 3, h => omega) (Nat.le_of_ble_eq_true rfl) (Nat.le_of_ble_eq_true rfl) (fun q6 H hP hD hS => ?_)
  refine g_dup C 61 rfl dX8_init_60 rfl ?_
  refine g_callI C 64 rfl dX8_init_61 (n_X1 Γ.2.1 Δ) co_X1_init im_X1_init ini_X1 ml_X8_43 rfl ⟨by decide +kernel, by decide +kernel, by decide +kernel⟩ hK hP hD hS hA [14] [0, 1, 2, 3, 4, 5, 6, 7, 8, 9, 10, 11, 12, 13] rfl (wr := ((h, .inr (8, [.ref (a6v9 0), .ref (a3v20 0), .ref (a7v31 0), .ref q4, .ref (a5v50 0), .null, .null, .null, .null])) :: (((((cs6 a6v9 Δ i6 ++ cs3 a3v20 Δ i3) ++ cs7 a7v31 Δ i7) ++ [(q4, .inl (Δ.2.2.2.2, 2, .inr (.inr (.inr (.inr (fun _ => none))))))]) ++ cs5 a5v50 Δ i5)))) rfl (by decide) (by decide) (by decide) ⟨Nat.le_of_ble_eq_true rfl, Nat.le_of_ble_eq_true rfl⟩ (Nat.le_of_ble_eq_true rfl) ⟨Nat.le_of_ble_eq_true rfl, Nat.le_of_ble_eq_true rfl⟩ (fun a1v61 H L ha61 hP9 hD9 hS => ?_)
  clear hP hD
  subst ha61
  have hP := hP9
  have hD := hD9
  clear hP9 hD9
  refine g_putF (((h, .inr (8, [.ref (a6v9 0), .ref (a3v20 0), .ref (a7v31 0), .ref q4, .ref (a5v50 0), .ref (a1v61 0), .null, .null, .null])) :: ((((((cs6 a6v9 Δ i6 ++ cs3 a3v20 Δ i3) ++ cs7 a7v31 Δ i7) ++ [(q4, .inl (Δ.2.2.2.2, 2, .inr (.inr (.inr (.inr (fun _ => none))))))]) ++ cs5 a5v50 Δ i5) ++ cs1 a1v61 Δ i1)))) C hname 67 rfl dX8_init_64 hK hP hD hS la_X8 tyX8_ok nmX8 0 5 (Nat.le_of_ble_eq_true rfl) fl_X8_44 rfl rfl rfl rfl rfl rfl rfl (Nat.le_of_ble_eq_true rfl) rfl (fun H L hP hD hS => ?_)
  refine g_aload_n C 68 rfl dX8_init_67 0 rfl ?_
  refine g_new C 71 rfl dX8_init_68 la_X4 tyX4_ok cl_X8_48 it_X4 ini_X4 hK hP hD hS hA (ci := 4) rfl [.null, .null, .int 0, .int 0] (fun j hj => by match j, hj with | 0, _ => rfl | 1, _ => rfl | 2, _ => rfl | 3, _ => rfl | j + 4, h => omega) (Nat.le_of_ble_eq_true rfl) (Nat.le_of_ble_eq_true rfl) (fun q7 H hP hD hS => ?_)
  refine g_dup C 72 rfl dX8_init_71 rfl ?_
  refine g_callI C 75 rfl dX8_init_72 (n_X4 Γ.2.1 Δ) co_X4_init im_X4_init ini_X4 ml_X8_50 rfl ⟨by decide +kernel, by decide +kernel, by decide +kernel⟩ hK hP hD hS hA [17] [0, 1, 2, 3, 4, 5, 6, 7, 8, 9, 10, 11, 12, 13, 14, 15, 16] rfl (wr := ((h, .inr (8, [.ref (a6v9 0), .ref (a3v20 0), .ref (a7v31 0), .ref q4, .ref (a5v50 0), .ref (a1v61 0), .null, .null, .null])) :: ((((((cs6 a6v9 Δ i6 ++ cs3 a3v20 Δ i3) ++ cs7 a7v31 Δ i7) ++ [(q4, .inl (Δ.2.2.2.2, 2, .inr (.inr (.inr (.inr (fun _ => none))))))]) ++ cs5 a5v50 Δ i5) ++ cs1 a1v61 Δ i1)))) rfl (by decide) (by decide) (by decide) ⟨Nat.le_of_ble_eq_true rfl, Nat.le_of_ble_eq_true rfl⟩ (Nat.le_of_ble_eq_true rfl) ⟨Nat.le_of_ble_eq_true rfl, Nat.le_of_ble_eq_true rfl⟩ (fun a4v72 H L ha72 hP9 hD9 hS => ?_)
  clear hP hD
  subst ha72
  have hP := hP9
  have hD := hD9
  clear hP9 hD9
  refine g_putF (((h, .inr (8, [.ref (a6v9 0), .ref (a3v20 0), .ref (a7v31 0), .ref q4, .ref (a5v50 0), .ref (a1v61 0), .ref (a4v72 0), .null, .null])) :: (((((((cs6 a6v9 Δ i6 ++ cs3 a3v20 Δ i3) ++ cs7 a7v31 Δ i7) ++ [(q4, .inl (Δ.2.2.2.2, 2, .inr (.inr (.inr (.inr (fun _ => none))))))]) ++ cs5 a5v50 Δ i5) ++ cs1 a1v61 Δ i1) ++ cs4 a4v72 Δ i4)))) C hname 78 rfl dX8_init_75 hK hP hD hS la_X8 tyX8_ok nmX8 0 6 (Nat.le_of_ble_eq_true rfl) fl_X8_51 rfl rfl rfl rfl rfl rfl rfl (Nat.le_of_ble_eq_true rfl) rfl (fun H L hP hD hS => ?_)
  refine g_aload_n C 79 rfl dX8_init_78 0 rfl ?_
  refine g_new C 82 rfl dX8_init_79 la_X0 tyX0_ok cl_X8_55 it_X0 ini_X0 hK hP hD hS hA (ci := 0) rfl [.null, .int 0, .int 0, .int 0] (fun j hj => by match j, hj with | 0, _ => rfl | 1, _ => rfl | 2, _ => rfl | 3, _ => rfl | j + 4, h => omega) (Nat.le_of_ble_eq_true rfl) (Nat.le_of_ble_eq_true rfl) (fun q8 H hP hD hS => ?_)
  refine g_dup C 83 rfl dX8_init_82 rfl ?_
  refine g_callI C 86 rfl dX8_init_83 (n_X0 Γ.2.1 Δ) co_X0_init im_X0_init ini_X0 ml_X8_57 rfl ⟨by decide +kernel, by decide +kernel, by decide +kernel⟩ hK hP hD hS hA [20] [0, 1, 2, 3, 4, 5, 6, 7, 8, 9, 10, 11, 12, 13, 14, 15, 16, 17, 18, 19] rfl (wr := ((h, .inr (8, [.ref (a6v9 0), .ref (a3v20 0), .ref (a7v31 0), .ref q4, .ref (a5v50 0), .ref (a1v61 0), .ref (a4v72 0), .null, .null])) :: (((((((cs6 a6v9 Δ i6 ++ cs3 a3v20 Δ i3) ++ cs7 a7v31 Δ i7) ++ [(q4, .inl (Δ.2.2.2.2, 2, .inr (.inr (.inr (.inr (fun _ => none))))))]) ++ cs5 a5v50 Δ i5) ++ cs1 a1v61 Δ i1) ++ cs4 a4v72 Δ i4)))) rfl (by decide) (by decide) (by decide) ⟨Nat.le_of_ble_eq_true rfl, Nat.le_of_ble_eq_true rfl⟩ (Nat.le_of_ble_eq_true rfl) ⟨Nat.le_of_ble_eq_true rfl, Nat.le_of_ble_eq_true rfl⟩ (fun a0v83 H L ha83 hP9 hD9 hS => ?_)
  clear hP hD
  subst ha83
  have hP := hP9
  have hD := hD9
  clear hP9 hD9
  refine g_putF (((h, .inr (8, [.ref (a6v9 0), .ref (a3v20 0), .ref (a7v31 0), .ref q4, .ref (a5v50 0), .ref (a1v61 0), .ref (a4v72 0), .ref (a0v83 0), .null])) :: ((((((((cs6 a6v9 Δ i6 ++ cs3 a3v20 Δ i3) ++ cs7 a7v31 Δ i7) ++ [(q4, .inl (Δ.2.2.2.2, 2, .inr (.inr (.inr (.inr (fun _ => none))))))]) ++ cs5 a5v50 Δ i5) ++ cs1 a1v61 Δ i1) ++ cs4 a4v72 Δ i4) ++ cs0 a0v83 Δ i0)))) C hname 89 rfl dX8_init_86 hK hP hD hS la_X8 tyX8_ok nmX8 0 7 (Nat.le_of_ble_eq_true rfl) fl_X8_58 rfl rfl rfl rfl rfl rfl rfl (Nat.le_of_ble_eq_true rfl) rfl (fun H L hP hD hS => ?_)
  refine g_aload_n C 90 rfl dX8_init_89 0 rfl ?_
  refine g_new C 93 rfl dX8_init_90 la_X2 tyX2_ok cl_X8_62 it_X2 ini_X2 hK hP hD hS hA (ci := 2) rfl [.null, .null, .int 0, .long 0, .long 0] (fun j hj => by match j, hj with | 0, _ => rfl | 1, _ => rfl | 2, _ => rfl | 3, _ => rfl | 4, _ => rfl | j + 5, h => omega) (Nat.le_of_ble_eq_true rfl) (Nat.le_of_ble_eq_true rfl) (fun q9 H hP hD hS => ?_)
  refine g_dup C 94 rfl dX8_init_93 rfl ?_
  refine g_callI C 97 rfl dX8_init_94 (n_X2 Γ.2.1 Δ) co_X2_init im_X2_init ini_X2 ml_X8_64 rfl ⟨by decide +kernel, by decide +kernel, by decide +kernel⟩ hK hP hD hS hA [22] [0, 1, 2, 3, 4, 5, 6, 7, 8, 9, 10, 11, 12, 13, 14, 15, 16, 17, 18, 19, 20, 21] rfl (wr := ((h, .inr (8, [.ref (a6v9 0), .ref (a3v20 0), .ref (a7v31 0), .ref q4, .ref (a5v50 0), .ref (a1v61 0), .ref (a4v72 0), .ref (a0v83 0), .null])) :: ((((((((cs6 a6v9 Δ i6 ++ cs3 a3v20 Δ i3) ++ cs7 a7v31 Δ i7) ++ [(q4, .inl (Δ.2.2.2.2, 2, .inr (.inr (.inr (.inr (fun _ => none))))))]) ++ cs5 a5v50 Δ i5) ++ cs1 a1v61 Δ i1) ++ cs4 a4v72 Δ i4) ++ cs0 a0v83 Δ i0)))) rfl (by decide) (by decide) (by decide) ⟨Nat.le_of_ble_eq_true rfl, Nat.le_of_ble_eq_true rfl⟩ (Nat.le_of_ble_eq_true rfl) ⟨Nat.le_of_ble_eq_true rfl, Nat.le_of_ble_eq_true rfl⟩ (fun a2v94 H L ha94 hP9 hD9 hS => ?_)
  clear hP hD
  subst ha94
  have hP := hP9
  have hD := hD9
  clear hP9 hD9
  refine g_putF (((h, .inr (8, [.ref (a6v9 0), .ref (a3v20 0), .ref (a7v31 0), .ref q4, .ref (a5v50 0), .ref (a1v61 0), .ref (a4v72 0), .ref (a0v83 0), .ref (a2v94 0)])) :: (((((((((cs6 a6v9 Δ i6 ++ cs3 a3v20 Δ i3) ++ cs7 a7v31 Δ i7) ++ [(q4, .inl (Δ.2.2.2.2, 2, .inr (.inr (.inr (.inr (fun _ => none))))))]) ++ cs5 a5v50 Δ i5) ++ cs1 a1v61 Δ i1) ++ cs4 a4v72 Δ i4) ++ cs0 a0v83 Δ i0) ++ cs2 a2v94 Δ i2)))) C hname 100 rfl dX8_init_97 hK hP hD hS la_X8 tyX8_ok nmX8 0 8 (Nat.le_of_ble_eq_true rfl) fl_X8_65 rfl rfl rfl rfl rfl rfl rfl (Nat.le_of_ble_eq_true rfl) rfl (fun H L hP hD hS => ?_)
  have hP9 := hP.sub (ws' := (fun a => cs8 a Δ i8 ++ [(a 24, .inl (Δ.2.2.2.2, 2, .inr (.inr (.inr (.inr (fun _ => none))))))]) (fun i => ([h, (a6v9 0), (a6v9 1), (a6v9 2), (a3v20 0), (a3v20 1), (a7v31 0), (a7v31 1), (a7v31 2), (a7v31 3), (a5v50 0), (a5v50 1), (a5v50 2), (a1v61 0), (a1v61 1), (a1v61 2), (a4v72 0), (a4v72 1), (a4v72 2), (a0v83 0), (a0v83 1), (a2v94 0), (a2v94 1), (a2v94 2), (q4)] : List Nat).getD i 0)) [0, 1, 2, 3, 4, 5, 6, 7, 8, 9, 11, 12, 13, 14, 15, 16, 17, 18, 19, 20, 21, 22, 23, 24, 10] rfl
  have hD9 := hD.sub (ws' := (fun a => cs8 a Δ i8 ++ [(a 24, .inl (Δ.2.2.2.2, 2, .inr (.inr (.inr (.inr (fun _ => none))))))]) (fun i => ([h, (a6v9 0), (a6v9 1), (a6v9 2), (a3v20 0), (a3v20 1), (a7v31 0), (a7v31 1), (a7v31 2), (a7v31 3), (a5v50 0), (a5v50 1), (a5v50 2), (a1v61 0), (a1v61 1), (a1v61 2), (a4v72 0), (a4v72 1), (a4v72 2), (a0v83 0), (a0v83 1), (a2v94 0), (a2v94 1), (a2v94 2), (q4)] : List Nat).getD i 0)) [0, 1, 2, 3, 4, 5, 6, 7, 8, 9, 11, 12, 13, 14, 15, 16, 17, 18, 19, 20, 21, 22, 23, 24, 10] (by decide) rfl
  exact hret (fun i => ([h, (a6v9 0), (a6v9 1), (a6v9 2), (a3v20 0), (a3v20 1), (a7v31 0), (a7v31 1), (a7v31 2), (a7v31 3), (a5v50 0), (a5v50 1), (a5v50 2), (a1v61 0), (a1v61 1), (a1v61 2), (a4v72 0), (a4v72 1), (a4v72 2), (a0v83 0), (a0v83 1), (a2v94 0), (a2v94 1), (a2v94 2), (q4)] : List Nat).getD i 0) _ _ rfl hP9 hD9 hS _ _ dX8_init_100
