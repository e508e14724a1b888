theorem imF_up0 (i0 i1 : Option ((Nat → Nat) × S6)) (x : (Nat → Nat) × S6) : va_up (imF i0 i1) 0 (some (x.1 0)) = imF (some x) i1 := by
  funext j
  match j with
  | 0 => simp [va_up, imF]
  | 1 => simp [va_up, imF]
  | j + 2 => simp [va_up, imF]
theorem imF_up1 (i0 i1 : Option ((Nat → Nat) × S6)) (x : (Nat → Nat) × S6) : va_up (imF i0 i1) 1 (some (x.1 0)) = imF i0 (some x) := by
  funext j
  match j with
  | 0 => simp [va_up, imF]
  | 1 => simp [va_up, imF]
  | j + 2 => simp [va_up, imF]
theorem in0 : vp_in (0 : Int32) 2 := vp_in_nI (n := 0) (by decide) (by decide)
theorem in1 : vp_in (1 : Int32) 2 := vp_in_nI (n := 1) (by decide) (by decide)
theorem wi0 : sem_X8_within 0 0 1 = some 1 := rfl
theorem wi1 : sem_X8_within 1 0 1 = some 1 := rfl
theorem tn0 : (0 : Int32).toNatClampNeg = 0 := by decide
theorem tn1 : (1 : Int32).toNatClampNeg = 1 := by decide
set_option maxHeartbeats 4000000 in
set_option maxRecDepth 100000 in
theorem case_image {Γ : gT} {Δ : gD} {A : Nat → Prop} {a d : Nat → Nat} {bq Ls : Nat} {xs : Nat → Int32} (C : gOk Γ cL_law 4 RL) (hK : KD Δ (sOf Γ)) (hA : ∀ q, (sOf Γ).heap.size ≤ q → A q) (hX : va_X bq Ls xs (sOf Γ) (sOf Γ).heap) (hbl : bq < (sOf Γ).heap.size) (hbA : ¬ A bq) (R : lawR) (hk : ∀ i0 i1 : Option ((Nat → Nat) × S6), 49 + kC i0 + kC i1 ≤ room_1.cells ∧ 6590 + kN i0 + kN i1 ≤ room_1.slots) (hk3 : ∀ i0 i1 : Option ((Nat → Nat) × S6), 49 + kC i0 + kC i1 + 3 ≤ room_1.cells ∧ 6590 + kN i0 + kN i1 + 51 ≤ room_1.slots) (hf : hF_image R) {i : Int32} (hi1 : vp_in (i + 1) Ls) {s : S8} {m : S9} {i0 i1 : Option ((Nat → Nat) × S6)} (hR : R s m (sd i0) (sd i1)) {H : Heap} {L : List Loc} (hP : va_P Δ.1 classes (LW a d Δ s m i0 i1) H) (hD : va_D A (LW a d Δ s m i0 i1)) (hS : va_S A (sOf Γ).heap H L) (kk : ∀ (H : Heap) (L : List Loc) (s : S8) (m : S9) (i0 i1 : Option ((Nat → Nat) × S6)), R s m (sd i0) (sd i1) → va_P Δ.1 classes (LW a d Δ s m i0 i1) H → va_D A (LW a d Δ s m i0 i1) → va_S A (sOf Γ).heap H L → g Γ room_1 4 H L (49 + kC i0 + kC i1) (6590 + kN i0 + kN i1) 989 [(0, .ref bq), (1, .ref (a 0)), (2, .ref (d 0)), (3, .int i)] []) : g Γ room_1 4 H L (49 + kC i0 + kC i1) (6590 + kN i0 + kN i1) 920 [(0, .ref bq), (1, .ref (a 0)), (2, .ref (d 0)), (3, .int i)] [] := by
  refine g_aload_n C 921 rfl dL_law_920 1 rfl ?_
  refine g_aload_n C 922 rfl dL_law_921 0 rfl ?_
  refine g_iload_n C 923 rfl dL_law_922 3 rfl ?_
  refine g_iconst 1 C 924 rfl dL_law_923 ki_1 ?_
  refine g_iadd C 925 rfl dL_law_924 ?_
  refine g_sld C 926 rfl dL_law_925 hX hbl hbA hS hi1 ?_
  rcases hf (xs ((i + 1) : Int32).toNatClampNeg) s m _ _ hR with ⟨e1, m2, em, hR2⟩ | ⟨hx, v, m2, e1, em, hR2⟩ | ⟨hx, v, m2, e1, em, hR2⟩
  · have hk2 := hk i0 i1
    refine g_callRV (rest := []) C 929 rfl dL_law_926 (c_X8_image_out Γ.2.1 Δ a (xs ((i + 1) : Int32).toNatClampNeg) s e1) mv_X8_image ml_L_113 hK (cutB (P := []) (S := LS8 a d Δ m i0 i1) hP) rfl rfl rfl rfl rfl ⟨Nat.le_of_ble_eq_true rfl, Nat.le_of_ble_eq_true rfl⟩ (Nat.le_of_ble_eq_true rfl) hk2 ?_
    refine g_aload_n C 930 rfl dL_law_929 2 rfl ?_
    refine g_aload_n C 931 rfl dL_law_930 0 rfl ?_
    refine g_iload_n C 932 rfl dL_law_931 3 rfl ?_
    refine g_iconst 1 C 933 rfl dL_law_932 ki_1 ?_
    refine g_iadd C 934 rfl dL_law_933 ?_
    refine g_sld C 935 rfl dL_law_934 hX hbl hbA hS hi1 ?_
    refine g_callWB (rest := [.int (-2)]) (cs8 a Δ s) (LS9 a Δ i0 i1) C 938 rfl dL_law_935 (c_X9_image Γ.2.1 Δ d (xs ((i + 1) : Int32).toNatClampNeg) m em) mv_X9_image ml_L_116 hK hP hD hS hA rfl rfl rfl rfl rfl rfl ⟨Nat.le_of_ble_eq_true rfl, Nat.le_of_ble_eq_true rfl⟩ (Nat.le_of_ble_eq_true rfl) hk2 (fun H L hP hD hS => ?_)
    refine s_icmp_eq C 989 941 rfl dL_law_938 (by decide) (u := some ()) (v := none) (r := some ()) (if_pos rfl) (fun _ => ?_) (fun h => by cases h)
    exact kk H L s m2 i0 i1 hR2 hP hD hS
  · rw [hx]
    rw [hx] at em
    rcases i0 with _ | ⟨b0, t0⟩ <;> rcases i1 with _ | ⟨b1, t1⟩
    · have hk1 := hk none none
      have hP1 : va_P Δ.1 classes ([] ++ ((cs8 a Δ s ++ [imC a Δ (imF none none)]) ++ (cs9 d Δ m))) H := hP.sub [0, 1, 2, 3, 4, 5, 6, 7, 8, 9, 10, 11, 12, 13, 14, 15, 16, 17, 18, 19, 20, 21, 22, 23, 48, 24, 25, 26, 27, 28, 29, 30, 31, 32, 33, 34, 35, 36, 37, 38, 39, 40, 41, 42, 43, 44, 45, 46, 47] rfl
      have hD1 : va_D A ([] ++ ((cs8 a Δ s ++ [imC a Δ (imF none none)]) ++ (cs9 d Δ m))) := hD.sub [0, 1, 2, 3, 4, 5, 6, 7, 8, 9, 10, 11, 12, 13, 14, 15, 16, 17, 18, 19, 20, 21, 22, 23, 48, 24, 25, 26, 27, 28, 29, 30, 31, 32, 33, 34, 35, 36, 37, 38, 39, 40, 41, 42, 43, 44, 45, 46, 47] (by decide) rfl
      refine g_callNB (rest := []) [] (cs9 d Δ m) C 929 rfl dL_law_926 (c_X8_image_new Γ.2.1 Δ a 0 s (imF none none) v wi0 in0 rfl e1) mv_X8_image ml_L_113 hK hP1 hD1 hS hA rfl rfl rfl rfl rfl ⟨Nat.le_of_ble_eq_true rfl, Nat.le_of_ble_eq_true rfl⟩ (Nat.le_of_ble_eq_true rfl) (hk3 none none) (fun bn H L hP hD hS => ?_)
      rw [tn0, imF_up0 _ _ (bn, v)] at hP hD
      have hP2 : va_P Δ.1 classes (LW a d Δ s m (some (bn, v)) none) H := hP.sub [0, 1, 2, 3, 4, 5, 6, 7, 8, 9, 10, 11, 12, 13, 14, 15, 16, 17, 18, 19, 20, 21, 22, 23, 28, 29, 30, 31, 32, 33, 34, 35, 36, 37, 38, 39, 40, 41, 42, 43, 44, 45, 46, 47, 48, 49, 50, 51, 24, 25, 26, 27] rfl
      have hD2 : va_D A (LW a d Δ s m (some (bn, v)) none) := hD.sub [0, 1, 2, 3, 4, 5, 6, 7, 8, 9, 10, 11, 12, 13, 14, 15, 16, 17, 18, 19, 20, 21, 22, 23, 28, 29, 30, 31, 32, 33, 34, 35, 36, 37, 38, 39, 40, 41, 42, 43, 44, 45, 46, 47, 48, 49, 50, 51, 24, 25, 26, 27] (by decide) rfl
      have hk2 := hk (some (bn, v)) none
      refine g_widen (49 + kC (some (bn, v)) + kC none) (6590 + kN (some (bn, v)) + kN none) (by simp [kC]) (by simp [kN]) ?_
      refine g_aload_n C 930 rfl dL_law_929 2 rfl ?_
      refine g_aload_n C 931 rfl dL_law_930 0 rfl ?_
      refine g_iload_n C 932 rfl dL_law_931 3 rfl ?_
      refine g_iconst 1 C 933 rfl dL_law_932 ki_1 ?_
      refine g_iadd C 934 rfl dL_law_933 ?_
      refine g_sld C 935 rfl dL_law_934 hX hbl hbA hS hi1 ?_
      rw [hx]
      refine g_callWB (rest := [.int (1)]) (cs8 a Δ s) (LS9 a Δ (some (bn, v)) none) C 938 rfl dL_law_935 (c_X9_image Γ.2.1 Δ d 0 m em) mv_X9_image ml_L_116 hK hP2 hD2 hS hA rfl rfl rfl rfl rfl rfl ⟨Nat.le_of_ble_eq_true rfl, Nat.le_of_ble_eq_true rfl⟩ (Nat.le_of_ble_eq_true rfl) hk2 (fun H L hP hD hS => ?_)
      refine s_icmp_eq C 989 941 rfl dL_law_938 (by decide) (u := some ()) (v := none) (r := some ()) (if_pos rfl) (fun _ => ?_) (fun h => by cases h)
      exact kk H L _ m2 (some (bn, v)) none hR2 hP hD hS
    · have hk1 := hk none (some (b1, t1))
      have hP1 : va_P Δ.1 classes ([] ++ ((cs8 a Δ s ++ [imC a Δ (imF none (some (b1, t1)))]) ++ (cs6 b1 Δ t1 ++ cs9 d Δ m))) H := hP.sub [0, 1, 2, 3, 4, 5, 6, 7, 8, 9, 10, 11, 12, 13, 14, 15, 16, 17, 18, 19, 20, 21, 22, 23, 48, 49, 50, 51, 24, 25, 26, 27, 28, 29, 30, 31, 32, 33, 34, 35, 36, 37, 38, 39, 40, 41, 42, 43, 44, 45, 46, 47] rfl
      have hD1 : va_D A ([] ++ ((cs8 a Δ s ++ [imC a Δ (imF none (some (b1, t1)))]) ++ (cs6 b1 Δ t1 ++ cs9 d Δ m))) := hD.sub [0, 1, 2, 3, 4, 5, 6, 7, 8, 9, 10, 11, 12, 13, 14, 15, 16, 17, 18, 19, 20, 21, 22, 23, 48, 49, 50, 51, 24, 25, 26, 27, 28, 29, 30, 31, 32, 33, 34, 35, 36, 37, 38, 39, 40, 41, 42, 43, 44, 45, 46, 47] (by decide) rfl
      refine g_callNB (rest := []) [] (cs6 b1 Δ t1 ++ cs9 d Δ m) C 929 rfl dL_law_926 (c_X8_image_new Γ.2.1 Δ a 0 s (imF none (some (b1, t1))) v wi0 in0 rfl e1) mv_X8_image ml_L_113 hK hP1 hD1 hS hA rfl rfl rfl rfl rfl ⟨Nat.le_of_ble_eq_true rfl, Nat.le_of_ble_eq_true rfl⟩ (Nat.le_of_ble_eq_true rfl) (hk3 none (some (b1, t1))) (fun bn H L hP hD hS => ?_)
      rw [tn0, imF_up0 _ _ (bn, v)] at hP hD
      have hP2 : va_P Δ.1 classes (LW a d Δ s m (some (bn, v)) (some (b1, t1))) H := hP.sub [0, 1, 2, 3, 4, 5, 6, 7, 8, 9, 10, 11, 12, 13, 14, 15, 16, 17, 18, 19, 20, 21, 22, 23, 31, 32, 33, 34, 35, 36, 37, 38, 39, 40, 41, 42, 43, 44, 45, 46, 47, 48, 49, 50, 51, 52, 53, 54, 24, 25, 26, 27, 28, 29, 30] rfl
      have hD2 : va_D A (LW a d Δ s m (some (bn, v)) (some (b1, t1))) := hD.sub [0, 1, 2, 3, 4, 5, 6, 7, 8, 9, 10, 11, 12, 13, 14, 15, 16, 17, 18, 19, 20, 21, 22, 23, 31, 32, 33, 34, 35, 36, 37, 38, 39, 40, 41, 42, 43, 44, 45, 46, 47, 48, 49, 50, 51, 52, 53, 54, 24, 25, 26, 27, 28, 29, 30] (by decide) rfl
      have hk2 := hk (some (bn, v)) (some (b1, t1))
      refine g_widen (49 + kC (some (bn, v)) + kC (some (b1, t1))) (6590 + kN (some (bn, v)) + kN (some (b1, t1))) (by simp [kC]) (by simp [kN]) ?_
      refine g_aload_n C 930 rfl dL_law_929 2 rfl ?_
      refine g_aload_n C 931 rfl dL_law_930 0 rfl ?_
      refine g_iload_n C 932 rfl dL_law_931 3 rfl ?_
      refine g_iconst 1 C 933 rfl dL_law_932 ki_1 ?_
      refine g_iadd C 934 rfl dL_law_933 ?_
      refine g_sld C 935 rfl dL_law_934 hX hbl hbA hS hi1 ?_
      rw [hx]
      refine g_callWB (rest := [.int (1)]) (cs8 a Δ s) (LS9 a Δ (some (bn, v)) (some (b1, t1))) C 938 rfl dL_law_935 (c_X9_image Γ.2.1 Δ d 0 m em) mv_X9_image ml_L_116 hK hP2 hD2 hS hA rfl rfl rfl rfl rfl rfl ⟨Nat.le_of_ble_eq_true rfl, Nat.le_of_ble_eq_true rfl⟩ (Nat.le_of_ble_eq_true rfl) hk2 (fun H L hP hD hS => ?_)
      refine s_icmp_eq C 989 941 rfl dL_law_938 (by decide) (u := some ()) (v := none) (r := some ()) (if_pos rfl) (fun _ => ?_) (fun h => by cases h)
      exact kk H L _ m2 (some (bn, v)) (some (b1, t1)) hR2 hP hD hS
    · have hk1 := hk (some (b0, t0)) none
      have hk2 := hk (some (b0, v)) none
      have hP1 : va_P Δ.1 classes ([] ++ ((cs8 a Δ s ++ ([imC a Δ (imF (some (b0, t0)) none)] ++ cs6 b0 Δ t0)) ++ (cs9 d Δ m))) H := hP.sub [0, 1, 2, 3, 4, 5, 6, 7, 8, 9, 10, 11, 12, 13, 14, 15, 16, 17, 18, 19, 20, 21, 22, 23, 48, 49, 50, 51, 24, 25, 26, 27, 28, 29, 30, 31, 32, 33, 34, 35, 36, 37, 38, 39, 40, 41, 42, 43, 44, 45, 46, 47] rfl
      have hD1 : va_D A ([] ++ ((cs8 a Δ s ++ ([imC a Δ (imF (some (b0, t0)) none)] ++ cs6 b0 Δ t0)) ++ (cs9 d Δ m))) := hD.sub [0, 1, 2, 3, 4, 5, 6, 7, 8, 9, 10, 11, 12, 13, 14, 15, 16, 17, 18, 19, 20, 21, 22, 23, 48, 49, 50, 51, 24, 25, 26, 27, 28, 29, 30, 31, 32, 33, 34, 35, 36, 37, 38, 39, 40, 41, 42, 43, 44, 45, 46, 47] (by decide) rfl
      refine g_callWB (rest := []) [] (cs9 d Δ m) C 929 rfl dL_law_926 (c_X8_image_old Γ.2.1 Δ a b0 0 s (imF (some (b0, t0)) none) t0 v wi0 in0 rfl e1) mv_X8_image ml_L_113 hK hP1 hD1 hS hA rfl rfl rfl rfl rfl rfl ⟨Nat.le_of_ble_eq_true rfl, Nat.le_of_ble_eq_true rfl⟩ (Nat.le_of_ble_eq_true rfl) hk1 (fun H L hP hD hS => ?_)
      have hP2 : va_P Δ.1 classes (LW a d Δ s m (some (b0, v)) none) H := hP.sub [0, 1, 2, 3, 4, 5, 6, 7, 8, 9, 10, 11, 12, 13, 14, 15, 16, 17, 18, 19, 20, 21, 22, 23, 28, 29, 30, 31, 32, 33, 34, 35, 36, 37, 38, 39, 40, 41, 42, 43, 44, 45, 46, 47, 48, 49, 50, 51, 24, 25, 26, 27] rfl
      have hD2 : va_D A (LW a d Δ s m (some (b0, v)) none) := hD.sub [0, 1, 2, 3, 4, 5, 6, 7, 8, 9, 10, 11, 12, 13, 14, 15, 16, 17, 18, 19, 20, 21, 22, 23, 28, 29, 30, 31, 32, 33, 34, 35, 36, 37, 38, 39, 40, 41, 42, 43, 44, 45, 46, 47, 48, 49, 50, 51, 24, 25, 26, 27] (by decide) rfl
      refine g_aload_n C 930 rfl dL_law_929 2 rfl ?_
      refine g_aload_n C 931 rfl dL_law_930 0 rfl ?_
      refine g_iload_n C 932 rfl dL_law_931 3 rfl ?_
      refine g_iconst 1 C 933 rfl dL_law_932 ki_1 ?_
      refine g_iadd C 934 rfl dL_law_933 ?_
      refine g_sld C 935 rfl dL_law_934 hX hbl hbA hS hi1 ?_
      rw [hx]
      refine g_callWB (rest := [.int (1)]) (cs8 a Δ s) (LS9 a Δ (some (b0, v)) none) C 938 rfl dL_law_935 (c_X9_image Γ.2.1 Δ d 0 m em) mv_X9_image ml_L_116 hK hP2 hD2 hS hA rfl rfl rfl rfl rfl rfl ⟨Nat.le_of_ble_eq_true rfl, Nat.le_of_ble_eq_true rfl⟩ (Nat.le_of_ble_eq_true rfl) hk2 (fun H L hP hD hS => ?_)
      refine s_icmp_eq C 989 941 rfl dL_law_938 (by decide) (u := some ()) (v := none) (r := some ()) (if_pos rfl) (fun _ => ?_) (fun h => by cases h)
      exact kk H L _ m2 (some (b0, v)) none hR2 hP hD hS
    · have hk1 := hk (some (b0, t0)) (some (b1, t1))
      have hk2 := hk (some (b0, v)) (some (b1, t1))
      have hP1 : va_P Δ.1 classes ([] ++ ((cs8 a Δ s ++ ([imC a Δ (imF (some (b0, t0)) (some (b1, t1)))] ++ cs6 b0 Δ t0)) ++ (cs6 b1 Δ t1 ++ cs9 d Δ m))) H := hP.sub [0, 1, 2, 3, 4, 5, 6, 7, 8, 9, 10, 11, 12, 13, 14, 15, 16, 17, 18, 19, 20, 21, 22, 23, 48, 49, 50, 51, 52, 53, 54, 24, 25, 26, 27, 28, 29, 30, 31, 32, 33, 34, 35, 36, 37, 38, 39, 40, 41, 42, 43, 44, 45, 46, 47] rfl
      have hD1 : va_D A ([] ++ ((cs8 a Δ s ++ ([imC a Δ (imF (some (b0, t0)) (some (b1, t1)))] ++ cs6 b0 Δ t0)) ++ (cs6 b1 Δ t1 ++ cs9 d Δ m))) := hD.sub [0, 1, 2, 3, 4, 5, 6, 7, 8, 9, 10, 11, 12, 13, 14, 15, 16, 17, 18, 19, 20, 21, 22, 23, 48, 49, 50, 51, 52, 53, 54, 24, 25, 26, 27, 28, 29, 30, 31, 32, 33, 34, 35, 36, 37, 38, 39, 40, 41, 42, 43, 44, 45, 46, 47] (by decide) rfl
      refine g_callWB (rest := []) [] (cs6 b1 Δ t1 ++ cs9 d Δ m) C 929 rfl dL_law_926 (c_X8_image_old Γ.2.1 Δ a b0 0 s (imF (some (b0, t0)) (some (b1, t1))) t0 v wi0 in0 rfl e1) mv_X8_image ml_L_113 hK hP1 hD1 hS hA rfl rfl rfl rfl rfl rfl ⟨Nat.le_of_ble_eq_true rfl, Nat.le_of_ble_eq_true rfl⟩ (Nat.le_of_ble_eq_true rfl) hk1 (fun H L hP hD hS => ?_)
      have hP2 : va_P Δ.1 classes (LW a d Δ s m (some (b0, v)) (some (b1, t1))) H := hP.sub [0, 1, 2, 3, 4, 5, 6, 7, 8, 9, 10, 11, 12, 13, 14, 15, 16, 17, 18, 19, 20, 21, 22, 23, 31, 32, 33, 34, 35, 36, 37, 38, 39, 40, 41, 42, 43, 44, 45, 46, 47, 48, 49, 50, 51, 52, 53, 54, 24, 25, 26, 27, 28, 29, 30] rfl
      have hD2 : va_D A (LW a d Δ s m (some (b0, v)) (some (b1, t1))) := hD.sub [0, 1, 2, 3, 4, 5, 6, 7, 8, 9, 10, 11, 12, 13, 14, 15, 16, 17, 18, 19, 20, 21, 22, 23, 31, 32, 33, 34, 35, 36, 37, 38, 39, 40, 41, 42, 43, 44, 45, 46, 47, 48, 49, 50, 51, 52, 53, 54, 24, 25, 26, 27, 28, 29, 30] (by decide) rfl
      refine g_aload_n C 930 rfl dL_law_929 2 rfl ?_
      refine g_aload_n C 931 rfl dL_law_930 0 rfl ?_
      refine g_iload_n C 932 rfl dL_law_931 3 rfl ?_
      refine g_iconst 1 C 933 rfl dL_law_932 ki_1 ?_
      refine g_iadd C 934 rfl dL_law_933 ?_
      refine g_sld C 935 rfl dL_law_934 hX hbl hbA hS hi1 ?_
      rw [hx]
      refine g_callWB (rest := [.int (1)]) (cs8 a Δ s) (LS9 a Δ (some (b0, v)) (some (b1, t1))) C 938 rfl dL_law_935 (c_X9_image Γ.2.1 Δ d 0 m em) mv_X9_image ml_L_116 hK hP2 hD2 hS hA rfl rfl rfl rfl rfl rfl ⟨Nat.le_of_ble_eq_true rfl, Nat.le_of_ble_eq_true rfl⟩ (Nat.le_of_ble_eq_true rfl) hk2 (fun H L hP hD hS => ?_)
      refine s_icmp_eq C 989 941 rfl dL_law_938 (by decide) (u := some ()) (v := none) (r := some ()) (if_pos rfl) (fun _ => ?_) (fun h => by cases h)
      exact kk H L _ m2 (some (b0, v)) (some (b1, t1)) hR2 hP hD hS
  · rw [hx]
    rw [hx] at em
    rcases i0 with _ | ⟨b0, t0⟩ <;> rcases i1 with _ | ⟨b1, t1⟩
    · have hk1 := hk none none
      have hP1 : va_P Δ.1 classes ([] ++ ((cs8 a Δ s ++ [imC a Δ (imF none none)]) ++ (cs9 d Δ m))) H := hP.sub [0, 1, 2, 3, 4, 5, 6, 7, 8, 9, 10, 11, 12, 13, 14, 15, 16, 17, 18, 19, 20, 21, 22, 23, 48, 24, 25, 26, 27, 28, 29, 30, 31, 32, 33, 34, 35, 36, 37, 38, 39, 40, 41, 42, 43, 44, 45, 46, 47] rfl
      have hD1 : va_D A ([] ++ ((cs8 a Δ s ++ [imC a Δ (imF none none)]) ++ (cs9 d Δ m))) := hD.sub [0, 1, 2, 3, 4, 5, 6, 7, 8, 9, 10, 11, 12, 13, 14, 15, 16, 17, 18, 19, 20, 21, 22, 23, 48, 24, 25, 26, 27, 28, 29, 30, 31, 32, 33, 34, 35, 36, 37, 38, 39, 40, 41, 42, 43, 44, 45, 46, 47] (by decide) rfl
      refine g_callNB (rest := []) [] (cs9 d Δ m) C 929 rfl dL_law_926 (c_X8_image_new Γ.2.1 Δ a 1 s (imF none none) v wi1 in1 rfl e1) mv_X8_image ml_L_113 hK hP1 hD1 hS hA rfl rfl rfl rfl rfl ⟨Nat.le_of_ble_eq_true rfl, Nat.le_of_ble_eq_true rfl⟩ (Nat.le_of_ble_eq_true rfl) (hk3 none none) (fun bn H L hP hD hS => ?_)
      rw [tn1, imF_up1 _ _ (bn, v)] at hP hD
      have hP2 : va_P Δ.1 classes (LW a d Δ s m none (some (bn, v))) H := hP.sub [0, 1, 2, 3, 4, 5, 6, 7, 8, 9, 10, 11, 12, 13, 14, 15, 16, 17, 18, 19, 20, 21, 22, 23, 28, 29, 30, 31, 32, 33, 34, 35, 36, 37, 38, 39, 40, 41, 42, 43, 44, 45, 46, 47, 48, 49, 50, 51, 24, 25, 26, 27] rfl
      have hD2 : va_D A (LW a d Δ s m none (some (bn, v))) := hD.sub [0, 1, 2, 3, 4, 5, 6, 7, 8, 9, 10, 11, 12, 13, 14, 15, 16, 17, 18, 19, 20, 21, 22, 23, 28, 29, 30, 31, 32, 33, 34, 35, 36, 37, 38, 39, 40, 41, 42, 43, 44, 45, 46, 47, 48, 49, 50, 51, 24, 25, 26, 27] (by decide) rfl
      have hk2 := hk none (some (bn, v))
      refine g_widen (49 + kC none + kC (some (bn, v))) (6590 + kN none + kN (some (bn, v))) (by simp [kC]) (by simp [kN]) ?_
      refine g_aload_n C 930 rfl dL_law_929 2 rfl ?_
      refine g_aload_n C 931 rfl dL_law_930 0 rfl ?_
      refine g_iload_n C 932 rfl dL_law_931 3 rfl ?_
      refine g_iconst 1 C 933 rfl dL_law_932 ki_1 ?_
      refine g_iadd C 934 rfl dL_law_933 ?_
      refine g_sld C 935 rfl dL_law_934 hX hbl hbA hS hi1 ?_
      rw [hx]
      refine g_callWB (rest := [.int (1)]) (cs8 a Δ s) (LS9 a Δ none (some (bn, v))) C 938 rfl dL_law_935 (c_X9_image Γ.2.1 Δ d 1 m em) mv_X9_image ml_L_116 hK hP2 hD2 hS hA rfl rfl rfl rfl rfl rfl ⟨Nat.le_of_ble_eq_true rfl, Nat.le_of_ble_eq_true rfl⟩ (Nat.le_of_ble_eq_true rfl) hk2 (fun H L hP hD hS => ?_)
      refine s_icmp_eq C 989 941 rfl dL_law_938 (by decide) (u := some ()) (v := none) (r := some ()) (if_pos rfl) (fun _ => ?_) (fun h => by cases h)
      exact kk H L _ m2 none (some (bn, v)) hR2 hP hD hS
    · have hk1 := hk none (some (b1, t1))
      have hk2 := hk none (some (b1, v))
      have hP1 : va_P Δ.1 classes ([] ++ ((cs8 a Δ s ++ ([imC a Δ (imF none (some (b1, t1)))] ++ cs6 b1 Δ t1)) ++ (cs9 d Δ m))) H := hP.sub [0, 1, 2, 3, 4, 5, 6, 7, 8, 9, 10, 11, 12, 13, 14, 15, 16, 17, 18, 19, 20, 21, 22, 23, 48, 49, 50, 51, 24, 25, 26, 27, 28, 29, 30, 31, 32, 33, 34, 35, 36, 37, 38, 39, 40, 41, 42, 43, 44, 45, 46, 47] rfl
      have hD1 : va_D A ([] ++ ((cs8 a Δ s ++ ([imC a Δ (imF none (some (b1, t1)))] ++ cs6 b1 Δ t1)) ++ (cs9 d Δ m))) := hD.sub [0, 1, 2, 3, 4, 5, 6, 7, 8, 9, 10, 11, 12, 13, 14, 15, 16, 17, 18, 19, 20, 21, 22, 23, 48, 49, 50, 51, 24, 25, 26, 27, 28, 29, 30, 31, 32, 33, 34, 35, 36, 37, 38, 39, 40, 41, 42, 43, 44, 45, 46, 47] (by decide) rfl
      refine g_callWB (rest := []) [] (cs9 d Δ m) C 929 rfl dL_law_926 (c_X8_image_old Γ.2.1 Δ a b1 1 s (imF none (some (b1, t1))) t1 v wi1 in1 rfl e1) mv_X8_image ml_L_113 hK hP1 hD1 hS hA rfl rfl rfl rfl rfl rfl ⟨Nat.le_of_ble_eq_true rfl, Nat.le_of_ble_eq_true rfl⟩ (Nat.le_of_ble_eq_true rfl) hk1 (fun H L hP hD hS => ?_)
      have hP2 : va_P Δ.1 classes (LW a d Δ s m none (some (b1, v))) H := hP.sub [0, 1, 2, 3, 4, 5, 6, 7, 8, 9, 10, 11, 12, 13, 14, 15, 16, 17, 18, 19, 20, 21, 22, 23, 28, 29, 30, 31, 32, 33, 34, 35, 36, 37, 38, 39, 40, 41, 42, 43, 44, 45, 46, 47, 48, 49, 50, 51, 24, 25, 26, 27] rfl
      have hD2 : va_D A (LW a d Δ s m none (some (b1, v))) := hD.sub [0, 1, 2, 3, 4, 5, 6, 7, 8, 9, 10, 11, 12, 13, 14, 15, 16, 17, 18, 19, 20, 21, 22, 23, 28, 29, 30, 31, 32, 33, 34, 35, 36, 37, 38, 39, 40, 41, 42, 43, 44, 45, 46, 47, 48, 49, 50, 51, 24, 25, 26, 27] (by decide) rfl
      refine g_aload_n C 930 rfl dL_law_929 2 rfl ?_
      refine g_aload_n C 931 rfl dL_law_930 0 rfl ?_
      refine g_iload_n C 932 rfl dL_law_931 3 rfl ?_
      refine g_iconst 1 C 933 rfl dL_law_932 ki_1 ?_
      refine g_iadd C 934 rfl dL_law_933 ?_
      refine g_sld C 935 rfl dL_law_934 hX hbl hbA hS hi1 ?_
      rw [hx]
      refine g_callWB (rest := [.int (1)]) (cs8 a Δ s) (LS9 a Δ none (some (b1, v))) C 938 rfl dL_law_935 (c_X9_image Γ.2.1 Δ d 1 m em) mv_X9_image ml_L_116 hK hP2 hD2 hS hA rfl rfl rfl rfl rfl rfl ⟨Nat.le_of_ble_eq_true rfl, Nat.le_of_ble_eq_true rfl⟩ (Nat.le_of_ble_eq_true rfl) hk2 (fun H L hP hD hS => ?_)
      refine s_icmp_eq C 989 941 rfl dL_law_938 (by decide) (u := some ()) (v := none) (r := some ()) (if_pos rfl) (fun _ => ?_) (fun h => by cases h)
      exact kk H L _ m2 none (some (b1, v)) hR2 hP hD hS
    · have hk1 := hk (some (b0, t0)) none
      have hP1 : va_P Δ.1 classes ([] ++ ((cs8 a Δ s ++ [imC a Δ (imF (some (b0, t0)) none)]) ++ (cs6 b0 Δ t0 ++ cs9 d Δ m))) H := hP.sub [0, 1, 2, 3, 4, 5, 6, 7, 8, 9, 10, 11, 12, 13, 14, 15, 16, 17, 18, 19, 20, 21, 22, 23, 48, 49, 50, 51, 24, 25, 26, 27, 28, 29, 30, 31, 32, 33, 34, 35, 36, 37, 38, 39, 40, 41, 42, 43, 44, 45, 46, 47] rfl
      have hD1 : va_D A ([] ++ ((cs8 a Δ s ++ [imC a Δ (imF (some (b0, t0)) none)]) ++ (cs6 b0 Δ t0 ++ cs9 d Δ m))) := hD.sub [0, 1, 2, 3, 4, 5, 6, 7, 8, 9, 10, 11, 12, 13, 14, 15, 16, 17, 18, 19, 20, 21, 22, 23, 48, 49, 50, 51, 24, 25, 26, 27, 28, 29, 30, 31, 32, 33, 34, 35, 36, 37, 38, 39, 40, 41, 42, 43, 44, 45, 46, 47] (by decide) rfl
      refine g_callNB (rest := []) [] (cs6 b0 Δ t0 ++ cs9 d Δ m) C 929 rfl dL_law_926 (c_X8_image_new Γ.2.1 Δ a 1 s (imF (some (b0, t0)) none) v wi1 in1 rfl e1) mv_X8_image ml_L_113 hK hP1 hD1 hS hA rfl rfl rfl rfl rfl ⟨Nat.le_of_ble_eq_true rfl, Nat.le_of_ble_eq_true rfl⟩ (Nat.le_of_ble_eq_true rfl) (hk3 (some (b0, t0)) none) (fun bn H L hP hD hS => ?_)
      rw [tn1, imF_up1 _ _ (bn, v)] at hP hD
      have hP2 : va_P Δ.1 classes (LW a d Δ s m (some (b0, t0)) (some (bn, v))) H := hP.sub [0, 1, 2, 3, 4, 5, 6, 7, 8, 9, 10, 11, 12, 13, 14, 15, 16, 17, 18, 19, 20, 21, 22, 23, 31, 32, 33, 34, 35, 36, 37, 38, 39, 40, 41, 42, 43, 44, 45, 46, 47, 48, 49, 50, 51, 52, 53, 54, 24, 28, 29, 30, 25, 26, 27] rfl
      have hD2 : va_D A (LW a d Δ s m (some (b0, t0)) (some (bn, v))) := hD.sub [0, 1, 2, 3, 4, 5, 6, 7, 8, 9, 10, 11, 12, 13, 14, 15, 16, 17, 18, 19, 20, 21, 22, 23, 31, 32, 33, 34, 35, 36, 37, 38, 39, 40, 41, 42, 43, 44, 45, 46, 47, 48, 49, 50, 51, 52, 53, 54, 24, 28, 29, 30, 25, 26, 27] (by decide) rfl
      have hk2 := hk (some (b0, t0)) (some (bn, v))
      refine g_widen (49 + kC (some (b0, t0)) + kC (some (bn, v))) (6590 + kN (some (b0, t0)) + kN (some (bn, v))) (by simp [kC]) (by simp [kN]) ?_
      refine g_aload_n C 930 rfl dL_law_929 2 rfl ?_
      refine g_aload_n C 931 rfl dL_law_930 0 rfl ?_
      refine g_iload_n C 932 rfl dL_law_931 3 rfl ?_
      refine g_iconst 1 C 933 rfl dL_law_932 ki_1 ?_
      refine g_iadd C 934 rfl dL_law_933 ?_
      refine g_sld C 935 rfl dL_law_934 hX hbl hbA hS hi1 ?_
      rw [hx]
      refine g_callWB (rest := [.int (1)]) (cs8 a Δ s) (LS9 a Δ (some (b0, t0)) (some (bn, v))) C 938 rfl dL_law_935 (c_X9_image Γ.2.1 Δ d 1 m em) mv_X9_image ml_L_116 hK hP2 hD2 hS hA rfl rfl rfl rfl rfl rfl ⟨Nat.le_of_ble_eq_true rfl, Nat.le_of_ble_eq_true rfl⟩ (Nat.le_of_ble_eq_true rfl) hk2 (fun H L hP hD hS => ?_)
      refine s_icmp_eq C 989 941 rfl dL_law_938 (by decide) (u := some ()) (v := none) (r := some ()) (if_pos rfl) (fun _ => ?_) (fun h => by cases h)
      exact kk H L _ m2 (some (b0, t0)) (some (bn, v)) hR2 hP hD hS
    · have hk1 := hk (some (b0, t0)) (some (b1, t1))
      have hk2 := hk (some (b0, t0)) (some (b1, v))
      have hP1 : va_P Δ.1 classes ([] ++ ((cs8 a Δ s ++ ([imC a Δ (imF (some (b0, t0)) (some (b1, t1)))] ++ cs6 b1 Δ t1)) ++ (cs6 b0 Δ t0 ++ cs9 d Δ m))) H := hP.sub [0, 1, 2, 3, 4, 5, 6, 7, 8, 9, 10, 11, 12, 13, 14, 15, 16, 17, 18, 19, 20, 21, 22, 23, 48, 52, 53, 54, 49, 50, 51, 24, 25, 26, 27, 28, 29, 30, 31, 32, 33, 34, 35, 36, 37, 38, 39, 40, 41, 42, 43, 44, 45, 46, 47] rfl
      have hD1 : va_D A ([] ++ ((cs8 a Δ s ++ ([imC a Δ (imF (some (b0, t0)) (some (b1, t1)))] ++ cs6 b1 Δ t1)) ++ (cs6 b0 Δ t0 ++ cs9 d Δ m))) := hD.sub [0, 1, 2, 3, 4, 5, 6, 7, 8, 9, 10, 11, 12, 13, 14, 15, 16, 17, 18, 19, 20, 21, 22, 23, 48, 52, 53, 54, 49, 50, 51, 24, 25, 26, 27, 28, 29, 30, 31, 32, 33, 34, 35, 36, 37, 38, 39, 40, 41, 42, 43, 44, 45, 46, 47] (by decide) rfl
      refine g_callWB (rest := []) [] (cs6 b0 Δ t0 ++ cs9 d Δ m) C 929 rfl dL_law_926 (c_X8_image_old Γ.2.1 Δ a b1 1 s (imF (some (b0, t0)) (some (b1, t1))) t1 v wi1 in1 rfl e1) mv_X8_image ml_L_113 hK hP1 hD1 hS hA rfl rfl rfl rfl rfl rfl ⟨Nat.le_of_ble_eq_true rfl, Nat.le_of_ble_eq_true rfl⟩ (Nat.le_of_ble_eq_true rfl) hk1 (fun H L hP hD hS => ?_)
      have hP2 : va_P Δ.1 classes (LW a d Δ s m (some (b0, t0)) (some (b1, v))) H := hP.sub [0, 1, 2, 3, 4, 5, 6, 7, 8, 9, 10, 11, 12, 13, 14, 15, 16, 17, 18, 19, 20, 21, 22, 23, 31, 32, 33, 34, 35, 36, 37, 38, 39, 40, 41, 42, 43, 44, 45, 46, 47, 48, 49, 50, 51, 52, 53, 54, 24, 28, 29, 30, 25, 26, 27] rfl
      have hD2 : va_D A (LW a d Δ s m (some (b0, t0)) (some (b1, v))) := hD.sub [0, 1, 2, 3, 4, 5, 6, 7, 8, 9, 10, 11, 12, 13, 14, 15, 16, 17, 18, 19, 20, 21, 22, 23, 31, 32, 33, 34, 35, 36, 37, 38, 39, 40, 41, 42, 43, 44, 45, 46, 47, 48, 49, 50, 51, 52, 53, 54, 24, 28, 29, 30, 25, 26, 27] (by decide) rfl
      refine g_aload_n C 930 rfl dL_law_929 2 rfl ?_
      refine g_aload_n C 931 rfl dL_law_930 0 rfl ?_
      refine g_iload_n C 932 rfl dL_law_931 3 rfl ?_
      refine g_iconst 1 C 933 rfl dL_law_932 ki_1 ?_
      refine g_iadd C 934 rfl dL_law_933 ?_
      refine g_sld C 935 rfl dL_law_934 hX hbl hbA hS hi1 ?_
      rw [hx]
      refine g_callWB (rest := [.int (1)]) (cs8 a Δ s) (LS9 a Δ (some (b0, t0)) (some (b1, v))) C 938 rfl dL_law_935 (c_X9_image Γ.2.1 Δ d 1 m em) mv_X9_image ml_L_116 hK hP2 hD2 hS hA rfl rfl rfl rfl rfl rfl ⟨Nat.le_of_ble_eq_true rfl, Nat.le_of_ble_eq_true rfl⟩ (Nat.le_of_ble_eq_true rfl) hk2 (fun H L hP hD hS => ?_)
      refine s_icmp_eq C 989 941 rfl dL_law_938 (by decide) (u := some ()) (v := none) (r := some ()) (if_pos rfl) (fun _ => ?_) (fun h => by cases h)
      exact kk H L _ m2 (some (b0, t0)) (some (b1, v)) hR2 hP hD hS
set_option maxHeartbeats 4000000 in
set_option maxRecDepth 100000 in
theorem case_restore {Γ : gT} {Δ : gD} {A : Nat → Prop} {a d : Nat → Nat} {bq Ls : Nat} {xs : Nat → Int32} (C : gOk Γ cL_law 4 RL) (hK : KD Δ (sOf Γ)) (hA : ∀ q, (sOf Γ).heap.size ≤ q → A q) (hX : va_X bq Ls xs (sOf Γ) (sOf Γ).heap) (hbl : bq < (sOf Γ).heap.size) (hbA : ¬ A bq) (R : lawR) (hk : ∀ i0 i1 : Option ((Nat → Nat) × S6), 49 + kC i0 + kC i1 ≤ room_1.cells ∧ 6590 + kN i0 + kN i1 ≤ room_1.slots) (hk3 : ∀ i0 i1 : Option ((Nat → Nat) × S6), 49 + kC i0 + kC i1 + 3 ≤ room_1.cells ∧ 6590 + kN i0 + kN i1 + 51 ≤ room_1.slots) (hf : hF_restore R) {i : Int32} (hi1 : vp_in (i + 1) Ls) {s : S8} {m : S9} {i0 i1 : Option ((Nat → Nat) × S6)} (hR : R s m (sd i0) (sd i1)) {H : Heap} {L : List Loc} (hP : va_P Δ.1 classes (LW a d Δ s m i0 i1) H) (hD : va_D A (LW a d Δ s m i0 i1)) (hS : va_S A (sOf Γ).heap H L) (kk : ∀ (H : Heap) (L : List Loc) (s : S8) (m : S9) (i0 i1 : Option ((Nat → Nat) × S6)), R s m (sd i0) (sd i1) → va_P Δ.1 classes (LW a d Δ s m i0 i1) H → va_D A (LW a d Δ s m i0 i1) → va_S A (sOf Γ).heap H L → g Γ room_1 4 H L (49 + kC i0 + kC i1) (6590 + kN i0 + kN i1) 989 [(0, .ref bq), (1, .ref (a 0)), (2, .ref (d 0)), (3, .int i)] []) : g Γ room_1 4 H L (49 + kC i0 + kC i1) (6590 + kN i0 + kN i1) 943 [(0, .ref bq), (1, .ref (a 0)), (2, .ref (d 0)), (3, .int i)] [] := by
  refine g_aload_n C 944 rfl dL_law_943 1 rfl ?_
  refine g_aload_n C 945 rfl dL_law_944 0 rfl ?_
  refine g_iload_n C 946 rfl dL_law_945 3 rfl ?_
  refine g_iconst 1 C 947 rfl dL_law_946 ki_1 ?_
  refine g_iadd C 948 rfl dL_law_947 ?_
  refine g_sld C 949 rfl dL_law_948 hX hbl hbA hS hi1 ?_
  rcases hf (xs ((i + 1) : Int32).toNatClampNeg) s m _ _ hR with ⟨e1, m2, em, hR2⟩ | ⟨hx, ⟨hj, m2, em, hR2⟩ | ⟨t, v, m2, hj, e1, em, hR2⟩⟩ | ⟨hx, ⟨hj, m2, em, hR2⟩ | ⟨t, v, m2, hj, e1, em, hR2⟩⟩
  · have hk2 := hk i0 i1
    refine g_callRV (rest := []) C 952 rfl dL_law_949 (c_X8_restore_out Γ.2.1 Δ a (xs ((i + 1) : Int32).toNatClampNeg) s e1) mv_X8_restore ml_L_117 hK (cutB (P := []) (S := LS8 a d Δ m i0 i1) hP) rfl rfl rfl rfl rfl ⟨Nat.le_of_ble_eq_true rfl, Nat.le_of_ble_eq_true rfl⟩ (Nat.le_of_ble_eq_true rfl) hk2 ?_
    refine g_aload_n C 953 rfl dL_law_952 2 rfl ?_
    refine g_aload_n C 954 rfl dL_law_953 0 rfl ?_
    refine g_iload_n C 955 rfl dL_law_954 3 rfl ?_
    refine g_iconst 1 C 956 rfl dL_law_955 ki_1 ?_
    refine g_iadd C 957 rfl dL_law_956 ?_
    refine g_sld C 958 rfl dL_law_957 hX hbl hbA hS hi1 ?_
    refine g_callWB (rest := [.int (-2)]) (cs8 a Δ s) (LS9 a Δ i0 i1) C 961 rfl dL_law_958 (c_X9_restore Γ.2.1 Δ d (xs ((i + 1) : Int32).toNatClampNeg) m em) mv_X9_restore ml_L_120 hK hP hD hS hA rfl rfl rfl rfl rfl rfl ⟨Nat.le_of_ble_eq_true rfl, Nat.le_of_ble_eq_true rfl⟩ (Nat.le_of_ble_eq_true rfl) hk2 (fun H L hP hD hS => ?_)
    refine s_icmp_eq C 989 964 rfl dL_law_961 (by decide) (u := some ()) (v := none) (r := some ()) (if_pos rfl) (fun _ => ?_) (fun h => by cases h)
    exact kk H L s m2 i0 i1 hR2 hP hD hS
  · have hk2 := hk i0 i1
    rw [hx]
    have hP1 : va_P Δ.1 classes (cs8 a Δ s ++ [imC a Δ (imF i0 i1)]) H := hP.sub [0, 1, 2, 3, 4, 5, 6, 7, 8, 9, 10, 11, 12, 13, 14, 15, 16, 17, 18, 19, 20, 21, 22, 23, 48] rfl
    refine g_callRV (rest := []) C 952 rfl dL_law_949 (c_X8_restore_none Γ.2.1 Δ a 0 s (imF i0 i1) wi0 in0 (by rw [tn0]; cases i0 with | none => rfl | some x => cases hj)) mv_X8_restore ml_L_117 hK hP1 rfl rfl rfl rfl rfl ⟨Nat.le_of_ble_eq_true rfl, Nat.le_of_ble_eq_true rfl⟩ (Nat.le_of_ble_eq_true rfl) hk2 ?_
    rw [hx] at em
    refine g_aload_n C 953 rfl dL_law_952 2 rfl ?_
    refine g_aload_n C 954 rfl dL_law_953 0 rfl ?_
    refine g_iload_n C 955 rfl dL_law_954 3 rfl ?_
    refine g_iconst 1 C 956 rfl dL_law_955 ki_1 ?_
    refine g_iadd C 957 rfl dL_law_956 ?_
    refine g_sld C 958 rfl dL_law_957 hX hbl hbA hS hi1 ?_
    rw [hx]
    refine g_callWB (rest := [.int (-3)]) (cs8 a Δ s) (LS9 a Δ i0 i1) C 961 rfl dL_law_958 (c_X9_restore Γ.2.1 Δ d 0 m em) mv_X9_restore ml_L_120 hK hP hD hS hA rfl rfl rfl rfl rfl rfl ⟨Nat.le_of_ble_eq_true rfl, Nat.le_of_ble_eq_true rfl⟩ (Nat.le_of_ble_eq_true rfl) hk2 (fun H L hP hD hS => ?_)
    refine s_icmp_eq C 989 964 rfl dL_law_961 (by decide) (u := some ()) (v := none) (r := some ()) (if_pos rfl) (fun _ => ?_) (fun h => by cases h)
    exact kk H L s m2 i0 i1 hR2 hP hD hS
  · rw [hx]
    rw [hx] at em
    rcases i0 with _ | ⟨b0, t0⟩ <;> rcases i1 with _ | ⟨b1, t1⟩
    · cases hj
    · cases hj
    · cases hj
      have hk2 := hk (some (b0, t0)) none
      have hP1 : va_P Δ.1 classes ([] ++ ((cs8 a Δ s ++ ([imC a Δ (imF (some (b0, t0)) none)] ++ cs6 b0 Δ t0)) ++ (cs9 d Δ m))) H := hP.sub [0, 1, 2, 3, 4, 5, 6, 7, 8, 9, 10, 11, 12, 13, 14, 15, 16, 17, 18, 19, 20, 21, 22, 23, 48, 49, 50, 51, 24, 25, 26, 27, 28, 29, 30, 31, 32, 33, 34, 35, 36, 37, 38, 39, 40, 41, 42, 43, 44, 45, 46, 47] rfl
      have hD1 : va_D A ([] ++ ((cs8 a Δ s ++ ([imC a Δ (imF (some (b0, t0)) none)] ++ cs6 b0 Δ t0)) ++ (cs9 d Δ m))) := hD.sub [0, 1, 2, 3, 4, 5, 6, 7, 8, 9, 10, 11, 12, 13, 14, 15, 16, 17, 18, 19, 20, 21, 22, 23, 48, 49, 50, 51, 24, 25, 26, 27, 28, 29, 30, 31, 32, 33, 34, 35, 36, 37, 38, 39, 40, 41, 42, 43, 44, 45, 46, 47] (by decide) rfl
      refine g_callWB (rest := []) [] (cs9 d Δ m) C 952 rfl dL_law_949 (c_X8_restore_some Γ.2.1 Δ a b0 0 s (imF (some (b0, t0)) none) t0 v wi0 in0 rfl e1) mv_X8_restore ml_L_117 hK hP1 hD1 hS hA rfl rfl rfl rfl rfl rfl ⟨Nat.le_of_ble_eq_true rfl, Nat.le_of_ble_eq_true rfl⟩ (Nat.le_of_ble_eq_true rfl) hk2 (fun H L hP hD hS => ?_)
      have hP2 : va_P Δ.1 classes (LW a d Δ (p8_town s v) m (some (b0, t0)) none) H := hP.sub [0, 1, 2, 3, 4, 5, 6, 7, 8, 9, 10, 11, 12, 13, 14, 15, 16, 17, 18, 19, 20, 21, 22, 23, 28, 29, 30, 31, 32, 33, 34, 35, 36, 37, 38, 39, 40, 41, 42, 43, 44, 45, 46, 47, 48, 49, 50, 51, 24, 25, 26, 27] rfl
      have hD2 : va_D A (LW a d Δ (p8_town s v) m (some (b0, t0)) none) := hD.sub [0, 1, 2, 3, 4, 5, 6, 7, 8, 9, 10, 11, 12, 13, 14, 15, 16, 17, 18, 19, 20, 21, 22, 23, 28, 29, 30, 31, 32, 33, 34, 35, 36, 37, 38, 39, 40, 41, 42, 43, 44, 45, 46, 47, 48, 49, 50, 51, 24, 25, 26, 27] (by decide) rfl
      refine g_aload_n C 953 rfl dL_law_952 2 rfl ?_
      refine g_aload_n C 954 rfl dL_law_953 0 rfl ?_
      refine g_iload_n C 955 rfl dL_law_954 3 rfl ?_
      refine g_iconst 1 C 956 rfl dL_law_955 ki_1 ?_
      refine g_iadd C 957 rfl dL_law_956 ?_
      refine g_sld C 958 rfl dL_law_957 hX hbl hbA hS hi1 ?_
      rw [hx]
      refine g_callWB (rest := [.int (1)]) (cs8 a Δ (p8_town s v)) (LS9 a Δ (some (b0, t0)) none) C 961 rfl dL_law_958 (c_X9_restore Γ.2.1 Δ d 0 m em) mv_X9_restore ml_L_120 hK hP2 hD2 hS hA rfl rfl rfl rfl rfl rfl ⟨Nat.le_of_ble_eq_true rfl, Nat.le_of_ble_eq_true rfl⟩ (Nat.le_of_ble_eq_true rfl) hk2 (fun H L hP hD hS => ?_)
      refine s_icmp_eq C 989 964 rfl dL_law_961 (by decide) (u := some ()) (v := none) (r := some ()) (if_pos rfl) (fun _ => ?_) (fun h => by cases h)
      exact kk H L _ m2 (some (b0, t0)) none hR2 hP hD hS
    · cases hj
      have hk2 := hk (some (b0, t0)) (some (b1, t1))
      have hP1 : va_P Δ.1 classes ([] ++ ((cs8 a Δ s ++ ([imC a Δ (imF (some (b0, t0)) (some (b1, t1)))] ++ cs6 b0 Δ t0)) ++ (cs6 b1 Δ t1 ++ cs9 d Δ m))) H := hP.sub [0, 1, 2, 3, 4, 5, 6, 7, 8, 9, 10, 11, 12, 13, 14, 15, 16, 17, 18, 19, 20, 21, 22, 23, 48, 49, 50, 51, 52, 53, 54, 24, 25, 26, 27, 28, 29, 30, 31, 32, 33, 34, 35, 36, 37, 38, 39, 40, 41, 42, 43, 44, 45, 46, 47] rfl
      have hD1 : va_D A ([] ++ ((cs8 a Δ s ++ ([imC a Δ (imF (some (b0, t0)) (some (b1, t1)))] ++ cs6 b0 Δ t0)) ++ (cs6 b1 Δ t1 ++ cs9 d Δ m))) := hD.sub [0, 1, 2, 3, 4, 5, 6, 7, 8, 9, 10, 11, 12, 13, 14, 15, 16, 17, 18, 19, 20, 21, 22, 23, 48, 49, 50, 51, 52, 53, 54, 24, 25, 26, 27, 28, 29, 30, 31, 32, 33, 34, 35, 36, 37, 38, 39, 40, 41, 42, 43, 44, 45, 46, 47] (by decide) rfl
      refine g_callWB (rest := []) [] (cs6 b1 Δ t1 ++ cs9 d Δ m) C 952 rfl dL_law_949 (c_X8_restore_some Γ.2.1 Δ a b0 0 s (imF (some (b0, t0)) (some (b1, t1))) t0 v wi0 in0 rfl e1) mv_X8_restore ml_L_117 hK hP1 hD1 hS hA rfl rfl rfl rfl rfl rfl ⟨Nat.le_of_ble_eq_true rfl, Nat.le_of_ble_eq_true rfl⟩ (Nat.le_of_ble_eq_true rfl) hk2 (fun H L hP hD hS => ?_)
      have hP2 : va_P Δ.1 classes (LW a d Δ (p8_town s v) m (some (b0, t0)) (some (b1, t1))) H := hP.sub [0, 1, 2, 3, 4, 5, 6, 7, 8, 9, 10, 11, 12, 13, 14, 15, 16, 17, 18, 19, 20, 21, 22, 23, 31, 32, 33, 34, 35, 36, 37, 38, 39, 40, 41, 42, 43, 44, 45, 46, 47, 48, 49, 50, 51, 52, 53, 54, 24, 25, 26, 27, 28, 29, 30] rfl
      have hD2 : va_D A (LW a d Δ (p8_town s v) m (some (b0, t0)) (some (b1, t1))) := hD.sub [0, 1, 2, 3, 4, 5, 6, 7, 8, 9, 10, 11, 12, 13, 14, 15, 16, 17, 18, 19, 20, 21, 22, 23, 31, 32, 33, 34, 35, 36, 37, 38, 39, 40, 41, 42, 43, 44, 45, 46, 47, 48, 49, 50, 51, 52, 53, 54, 24, 25, 26, 27, 28, 29, 30] (by decide) rfl
      refine g_aload_n C 953 rfl dL_law_952 2 rfl ?_
      refine g_aload_n C 954 rfl dL_law_953 0 rfl ?_
      refine g_iload_n C 955 rfl dL_law_954 3 rfl ?_
      refine g_iconst 1 C 956 rfl dL_law_955 ki_1 ?_
      refine g_iadd C 957 rfl dL_law_956 ?_
      refine g_sld C 958 rfl dL_law_957 hX hbl hbA hS hi1 ?_
      rw [hx]
      refine g_callWB (rest := [.int (1)]) (cs8 a Δ (p8_town s v)) (LS9 a Δ (some (b0, t0)) (some (b1, t1))) C 961 rfl dL_law_958 (c_X9_restore Γ.2.1 Δ d 0 m em) mv_X9_restore ml_L_120 hK hP2 hD2 hS hA rfl rfl rfl rfl rfl rfl ⟨Nat.le_of_ble_eq_true rfl, Nat.le_of_ble_eq_true rfl⟩ (Nat.le_of_ble_eq_true rfl) hk2 (fun H L hP hD hS => ?_)
      refine s_icmp_eq C 989 964 rfl dL_law_961 (by decide) (u := some ()) (v := none) (r := some ()) (if_pos rfl) (fun _ => ?_) (fun h => by cases h)
      exact kk H L _ m2 (some (b0, t0)) (some (b1, t1)) hR2 hP hD hS
  · have hk2 := hk i0 i1
    rw [hx]
    have hP1 : va_P Δ.1 classes (cs8 a Δ s ++ [imC a Δ (imF i0 i1)]) H := hP.sub [0, 1, 2, 3, 4, 5, 6, 7, 8, 9, 10, 11, 12, 13, 14, 15, 16, 17, 18, 19, 20, 21, 22, 23, 48] rfl
    refine g_callRV (rest := []) C 952 rfl dL_law_949 (c_X8_restore_none Γ.2.1 Δ a 1 s (imF i0 i1) wi1 in1 (by rw [tn1]; cases i1 with | none => rfl | some x => cases hj)) mv_X8_restore ml_L_117 hK hP1 rfl rfl rfl rfl rfl ⟨Nat.le_of_ble_eq_true rfl, Nat.le_of_ble_eq_true rfl⟩ (Nat.le_of_ble_eq_true rfl) hk2 ?_
    rw [hx] at em
    refine g_aload_n C 953 rfl dL_law_952 2 rfl ?_
    refine g_aload_n C 954 rfl dL_law_953 0 rfl ?_
    refine g_iload_n C 955 rfl dL_law_954 3 rfl ?_
    refine g_iconst 1 C 956 rfl dL_law_955 ki_1 ?_
    refine g_iadd C 957 rfl dL_law_956 ?_
    refine g_sld C 958 rfl dL_law_957 hX hbl hbA hS hi1 ?_
    rw [hx]
    refine g_callWB (rest := [.int (-3)]) (cs8 a Δ s) (LS9 a Δ i0 i1) C 961 rfl dL_law_958 (c_X9_restore Γ.2.1 Δ d 1 m em) mv_X9_restore ml_L_120 hK hP hD hS hA rfl rfl rfl rfl rfl rfl ⟨Nat.le_of_ble_eq_true rfl, Nat.le_of_ble_eq_true rfl⟩ (Nat.le_of_ble_eq_true rfl) hk2 (fun H L hP hD hS => ?_)
    refine s_icmp_eq C 989 964 rfl dL_law_961 (by decide) (u := some ()) (v := none) (r := some ()) (if_pos rfl) (fun _ => ?_) (fun h => by cases h)
    exact kk H L s m2 i0 i1 hR2 hP hD hS
  · rw [hx]
    rw [hx] at em
    rcases i0 with _ | ⟨b0, t0⟩ <;> rcases i1 with _ | ⟨b1, t1⟩
    · cases hj
    · cases hj
      have hk2 := hk none (some (b1, t1))
      have hP1 : va_P Δ.1 classes ([] ++ ((cs8 a Δ s ++ ([imC a Δ (imF none (some (b1, t1)))] ++ cs6 b1 Δ t1)) ++ (cs9 d Δ m))) H := hP.sub [0, 1, 2, 3, 4, 5, 6, 7, 8, 9, 10, 11, 12, 13, 14, 15, 16, 17, 18, 19, 20, 21, 22, 23, 48, 49, 50, 51, 24, 25, 26, 27, 28, 29, 30, 31, 32, 33, 34, 35, 36, 37, 38, 39, 40, 41, 42, 43, 44, 45, 46, 47] rfl
      have hD1 : va_D A ([] ++ ((cs8 a Δ s ++ ([imC a Δ (imF none (some (b1, t1)))] ++ cs6 b1 Δ t1)) ++ (cs9 d Δ m))) := hD.sub [0, 1, 2, 3, 4, 5, 6, 7, 8, 9, 10, 11, 12, 13, 14, 15, 16, 17, 18, 19, 20, 21, 22, 23, 48, 49, 50, 51, 24, 25, 26, 27, 28, 29, 30, 31, 32, 33, 34, 35, 36, 37, 38, 39, 40, 41, 42, 43, 44, 45, 46, 47] (by decide) rfl
      refine g_callWB (rest := []) [] (cs9 d Δ m) C 952 rfl dL_law_949 (c_X8_restore_some Γ.2.1 Δ a b1 1 s (imF none (some (b1, t1))) t1 v wi1 in1 rfl e1) mv_X8_restore ml_L_117 hK hP1 hD1 hS hA rfl rfl rfl rfl rfl rfl ⟨Nat.le_of_ble_eq_true rfl, Nat.le_of_ble_eq_true rfl⟩ (Nat.le_of_ble_eq_true rfl) hk2 (fun H L hP hD hS => ?_)
      have hP2 : va_P Δ.1 classes (LW a d Δ (p8_town s v) m none (some (b1, t1))) H := hP.sub [0, 1, 2, 3, 4, 5, 6, 7, 8, 9, 10, 11, 12, 13, 14, 15, 16, 17, 18, 19, 20, 21, 22, 23, 28, 29, 30, 31, 32, 33, 34, 35, 36, 37, 38, 39, 40, 41, 42, 43, 44, 45, 46, 47, 48, 49, 50, 51, 24, 25, 26, 27] rfl
      have hD2 : va_D A (LW a d Δ (p8_town s v) m none (some (b1, t1))) := hD.sub [0, 1, 2, 3, 4, 5, 6, 7, 8, 9, 10, 11, 12, 13, 14, 15, 16, 17, 18, 19, 20, 21, 22, 23, 28, 29, 30, 31, 32, 33, 34, 35, 36, 37, 38, 39, 40, 41, 42, 43, 44, 45, 46, 47, 48, 49, 50, 51, 24, 25, 26, 27] (by decide) rfl
      refine g_aload_n C 953 rfl dL_law_952 2 rfl ?_
      refine g_aload_n C 954 rfl dL_law_953 0 rfl ?_
      refine g_iload_n C 955 rfl dL_law_954 3 rfl ?_
      refine g_iconst 1 C 956 rfl dL_law_955 ki_1 ?_
      refine g_iadd C 957 rfl dL_law_956 ?_
      refine g_sld C 958 rfl dL_law_957 hX hbl hbA hS hi1 ?_
      rw [hx]
      refine g_callWB (rest := [.int (1)]) (cs8 a Δ (p8_town s v)) (LS9 a Δ none (some (b1, t1))) C 961 rfl dL_law_958 (c_X9_restore Γ.2.1 Δ d 1 m em) mv_X9_restore ml_L_120 hK hP2 hD2 hS hA rfl rfl rfl rfl rfl rfl ⟨Nat.le_of_ble_eq_true rfl, Nat.le_of_ble_eq_true rfl⟩ (Nat.le_of_ble_eq_true rfl) hk2 (fun H L hP hD hS => ?_)
      refine s_icmp_eq C 989 964 rfl dL_law_961 (by decide) (u := some ()) (v := none) (r := some ()) (if_pos rfl) (fun _ => ?_) (fun h => by cases h)
      exact kk H L _ m2 none (some (b1, t1)) hR2 hP hD hS
    · cases hj
    · cases hj
      have hk2 := hk (some (b0, t0)) (some (b1, t1))
      have hP1 : va_P Δ.1 classes ([] ++ ((cs8 a Δ s ++ ([imC a Δ (imF (some (b0, t0)) (some (b1, t1)))] ++ cs6 b1 Δ t1)) ++ (cs6 b0 Δ t0 ++ cs9 d Δ m))) H := hP.sub [0, 1, 2, 3, 4, 5, 6, 7, 8, 9, 10, 11, 12, 13, 14, 15, 16, 17, 18, 19, 20, 21, 22, 23, 48, 52, 53, 54, 49, 50, 51, 24, 25, 26, 27, 28, 29, 30, 31, 32, 33, 34, 35, 36, 37, 38, 39, 40, 41, 42, 43, 44, 45, 46, 47] rfl
      have hD1 : va_D A ([] ++ ((cs8 a Δ s ++ ([imC a Δ (imF (some (b0, t0)) (some (b1, t1)))] ++ cs6 b1 Δ t1)) ++ (cs6 b0 Δ t0 ++ cs9 d Δ m))) := hD.sub [0, 1, 2, 3, 4, 5, 6, 7, 8, 9, 10, 11, 12, 13, 14, 15, 16, 17, 18, 19, 20, 21, 22, 23, 48, 52, 53, 54, 49, 50, 51, 24, 25, 26, 27, 28, 29, 30, 31, 32, 33, 34, 35, 36, 37, 38, 39, 40, 41, 42, 43, 44, 45, 46, 47] (by decide) rfl
      refine g_callWB (rest := []) [] (cs6 b0 Δ t0 ++ cs9 d Δ m) C 952 rfl dL_law_949 (c_X8_restore_some Γ.2.1 Δ a b1 1 s (imF (some (b0, t0)) (some (b1, t1))) t1 v wi1 in1 rfl e1) mv_X8_restore ml_L_117 hK hP1 hD1 hS hA rfl rfl rfl rfl rfl rfl ⟨Nat.le_of_ble_eq_true rfl, Nat.le_of_ble_eq_true rfl⟩ (Nat.le_of_ble_eq_true rfl) hk2 (fun H L hP hD hS => ?_)
      have hP2 : va_P Δ.1 classes (LW a d Δ (p8_town s v) m (some (b0, t0)) (some (b1, t1))) H := hP.sub [0, 1, 2, 3, 4, 5, 6, 7, 8, 9, 10, 11, 12, 13, 14, 15, 16, 17, 18, 19, 20, 21, 22, 23, 31, 32, 33, 34, 35, 36, 37, 38, 39, 40, 41, 42, 43, 44, 45, 46, 47, 48, 49, 50, 51, 52, 53, 54, 24, 28, 29, 30, 25, 26, 27] rfl
      have hD2 : va_D A (LW a d Δ (p8_town s v) m (some (b0, t0)) (some (b1, t1))) := hD.sub [0, 1, 2, 3, 4, 5, 6, 7, 8, 9, 10, 11, 12, 13, 14, 15, 16, 17, 18, 19, 20, 21, 22, 23, 31, 32, 33, 34, 35, 36, 37, 38, 39, 40, 41, 42, 43, 44, 45, 46, 47, 48, 49, 50, 51, 52, 53, 54, 24, 28, 29, 30, 25, 26, 27] (by decide) rfl
      refine g_aload_n C 953 rfl dL_law_952 2 rfl ?_
      refine g_aload_n C 954 rfl dL_law_953 0 rfl ?_
      refine g_iload_n C 955 rfl dL_law_954 3 rfl ?_
      refine g_iconst 1 C 956 rfl dL_law_955 ki_1 ?_
      refine g_iadd C 957 rfl dL_law_956 ?_
      refine g_sld C 958 rfl dL_law_957 hX hbl hbA hS hi1 ?_
      rw [hx]
      refine g_callWB (rest := [.int (1)]) (cs8 a Δ (p8_town s v)) (LS9 a Δ (some (b0, t0)) (some (b1, t1))) C 961 rfl dL_law_958 (c_X9_restore Γ.2.1 Δ d 1 m em) mv_X9_restore ml_L_120 hK hP2 hD2 hS hA rfl rfl rfl rfl rfl rfl ⟨Nat.le_of_ble_eq_true rfl, Nat.le_of_ble_eq_true rfl⟩ (Nat.le_of_ble_eq_true rfl) hk2 (fun H L hP hD hS => ?_)
      refine s_icmp_eq C 989 964 rfl dL_law_961 (by decide) (u := some ()) (v := none) (r := some ()) (if_pos rfl) (fun _ => ?_) (fun h => by cases h)
      exact kk H L _ m2 (some (b0, t0)) (some (b1, t1)) hR2 hP hD hS
