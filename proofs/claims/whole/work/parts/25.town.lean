/-! set, told, seen -/
def hiN (T : Nat) (V : Nat → Nat) : Nat → Nat
  | 0 => 0
  | j + 1 => if T.testBit j = true then max (hiN T V j) (V j) else hiN T V j
theorem nI_neL {j c : Nat} {x : Int32} (hx : x = nI c) (h : j ≠ c) (hj : j < 2 ^ 31) (hc : c < 2 ^ 31) : ¬ nI j = x := fun z => h ((nI_eq hj hc).mp (z.trans hx))
theorem hiN_le {T : Nat} {V : Nat → Nat} {b : Nat} (h : ∀ i, i < 6 → V i ≤ b) : ∀ j, j ≤ 6 → hiN T V j ≤ b
  | 0, _ => Nat.zero_le _
  | j + 1, hj => by
    unfold hiN
    have h1 := hiN_le (T := T) h j (by omega)
    have h2 := h j (by omega)
    by_cases c : T.testBit j = true
    · rw [if_pos c]; omega
    · rw [if_neg c]; exact h1
theorem hiN_ge {T : Nat} {V : Nat → Nat} {i : Nat} (hb : T.testBit i = true) : ∀ j, i < j → V i ≤ hiN T V j
  | 0, h => by omega
  | j + 1, h => by
    unfold hiN
    by_cases q : i = j
    · subst q; rw [if_pos hb]; omega
    · have h1 := hiN_ge (V := V) hb j (by omega)
      by_cases c : T.testBit j = true
      · rw [if_pos c]; omega
      · rw [if_neg c]; exact h1
theorem jmax_n {a b : Nat} (ha : a < 2 ^ 31) (hb : b < 2 ^ 31) : jmax (nI a) (nI b) = nI (max a b) := by
  unfold jmax
  by_cases c : a < b
  · rw [if_pos ((nI_ltI ha hb).mpr c), Nat.max_eq_right (by omega)]
  · rw [if_neg (fun z => c ((nI_ltI ha hb).mp z)), Nat.max_eq_left (by omega)]
theorem hi_x {t : S6} {T : Nat} {V : Nat → Nat} (hT : T < 64) (hth : x6_there t = nI T) (hV : ∀ i, i < 6 → x6_facts t (i * 6 + 0) = nI (V i) ∧ V i ≤ 20) : ∀ n j, j ≤ 6 → 7 ≤ n + j → lp_X6_highestTemper_4 t n (nI (hiN T V j)) (nI j) = some (nI (hiN T V 6)) := by
  intro n
  induction n with
  | zero => intro j h1 h2; omega
  | succ n ih =>
    intro j h1 h2
    show bd_X6_highestTemper_4 t (lp_X6_highestTemper_4 t n) _ _ = _
    unfold bd_X6_highestTemper_4
    by_cases hj : j = 6
    · subst hj
      rw [if_pos (by decide)]
    · have hj6 : j < 6 := by omega
      have hb := hiN_le (T := T) (fun i hi => (hV i hi).2) j (by omega)
      have h3 := (hV j hj6).2
      rw [if_neg (no6 hj6), nI_1, has_n hT hth hj6, bs]
      have hs : hiN T V (j + 1) = if T.testBit j = true then max (hiN T V j) (V j) else hiN T V j := rfl
      by_cases c : T.testBit j = true
      · rw [if_pos c, if_neg one_ne, get_l hj6 0 (by decide) 0 rfl, bs, (hV j hj6).1, jmax_n (by omega) (by omega)]
        rw [if_pos c] at hs
        rw [← hs]
        exact ih (j + 1) (by omega) (by omega)
      · rw [if_neg c, if_pos rfl]
        rw [if_neg c] at hs
        rw [← hs]
        exact ih (j + 1) (by omega) (by omega)
theorem hi_m {m : S9} {T : Nat} {V : Nat → Nat} (hT : T < 64) (hth : x9_there m = nI T) (hV : ∀ i, i < 6 → x9_temper m i = nI (V i) ∧ V i ≤ 20) : ∀ n j, j ≤ 6 → 7 ≤ n + j → lp_X9_highest_4 m n (nI (hiN T V j)) (nI j) = some (nI (hiN T V 6)) := by
  intro n
  induction n with
  | zero => intro j h1 h2; omega
  | succ n ih =>
    intro j h1 h2
    show bd_X9_highest_4 m (lp_X9_highest_4 m n) _ _ = _
    unfold bd_X9_highest_4
    by_cases hj : j = 6
    · subst hj
      rw [if_pos (by decide)]
    · have hj6 : j < 6 := by omega
      have hb := hiN_le (T := T) (fun i hi => (hV i hi).2) j (by omega)
      have h3 := (hV j hj6).2
      rw [if_neg (no6 hj6), nI_1, isOne_n hT hth hj6, bs]
      have hs : hiN T V (j + 1) = if T.testBit j = true then max (hiN T V j) (V j) else hiN T V j := rfl
      by_cases c : T.testBit j = true
      · rw [if_pos c, if_neg one_ne, ck_in (vp_in_nI (by omega) (by decide)), tcl (by omega), (hV j hj6).1]
        rw [if_pos c] at hs
        by_cases q : V j ≤ hiN T V j
        · rw [if_pos ((nI_leI (by omega) (by omega)).mpr q)]
          rw [Nat.max_eq_left q] at hs
          rw [← hs]
          exact ih (j + 1) (by omega) (by omega)
        · rw [if_neg (fun z => q ((nI_leI (by omega) (by omega)).mp z))]
          rw [Nat.max_eq_right (by omega)] at hs
          rw [← hs]
          exact ih (j + 1) (by omega) (by omega)
      · rw [if_neg c, if_pos rfl]
        rw [if_neg c] at hs
        rw [← hs]
        exact ih (j + 1) (by omega) (by omega)
/-- the tempers of the town, of both sides -/
theorem tempers {t : S6} {m : S9} (h : RTm t m) : ∃ (T l : Nat) (V : Nat → Nat), T < 64 ∧ x6_there t = nI T ∧ x9_there m = nI T ∧ 1 ≤ l ∧ l ≤ 20 ∧ x6_limit t = nI l ∧ x9_limit m = nI l ∧ (∀ i, i < 6 → x6_facts t (i * 6 + 0) = nI (V i) ∧ V i ≤ 20) ∧ (∀ i, i < 6 → x9_temper m i = nI (V i) ∧ V i ≤ 20) ∧ (∀ i, i < 6 → T.testBit i = true → V i ≤ l) := by
  obtain ⟨T, l, e, c, b1, b2, b3, b4, b5, b6, b7, b8, b9, c0, c1, c2, c3, c4, c5, d1, d2⟩ := h.2
  have hy : ∀ i, i < 6 → x9_temper m i = nI (NV (x9_temper m i)) ∧ NV (x9_temper m i) ≤ 20 := fun i hi => by
    obtain ⟨v, v1, v2, -⟩ := c0 i hi
    exact NV_of (by decide) v1 v2
  refine ⟨T, l, fun i => NV (x9_temper m i), b1, h.1.1.trans b2, b2, b3, b4, h.1.2.1.trans b5, b5, fun i hi => ⟨(h.1.2.2.2.2.1 i hi 0 (by decide)).trans (hy i hi).1, (hy i hi).2⟩, hy, fun i hi hb => ?_⟩
  obtain ⟨v, v1, v2, v3⟩ := c0 i hi
  have : x9_temper m i = nI v := v2
  show NV (x9_temper m i) ≤ l
  rw [this, NV_n (by omega)]
  exact v3 hb
theorem ok_set : hF_set RR := by
  intro x1 x2 s m j0 j1 hR
  obtain ⟨T, l, V, b1, b2, b3, b4, b5, b6, b7, b8, b9, b10⟩ := tempers hR.1
  have hT := hR.1.1
  unfold sem_X8_set sem_X9_set
  rcases gd x1 0 1 (by decide) (by decide) (a := 0) (b := 1) (A := 0) (B := 1) rfl rfl rfl rfl with ⟨k, -, hk, rfl, e1, -⟩ | ⟨e1, -, e3⟩
  · rw [e1, bs, if_neg one_ne]
    have hk01 : k = 0 ∨ k = 1 := by omega
    rcases hk01 with rfl | rfl
    · rw [if_pos (show nI 0 = 0 from rfl), if_pos (show nI 0 = 0 from rfl)]
      unfold sem_X8_setLimit jn_X9_set_21
      rw [if_pos (show nI 0 = 0 from rfl)]
      unfold jn_X9_set_34
      rcases gd x2 1 20 (by decide) (by decide) (a := 1) (b := 20) (A := 1) (B := 20) rfl rfl rfl rfl with ⟨w, hw1, hw2, rfl, e1, e2⟩ | ⟨e1, e2, -⟩
      · rw [e1, e2, bs, bs, if_neg one_ne, if_neg one_ne, if_pos (show nI 0 = 0 from rfl)]
        have q1 : sem_X6_highestTemper (x8_town s) = some (nI (hiN T V 6)) := by
          unfold sem_X6_highestTemper
          rw [show lp_X6_highestTemper_4 (x8_town s) FUEL 0 0 = _ from hi_x b1 b2 b8 FUEL 0 (by omega) (by decide)]; rfl
        have q2 : sem_X9_highest m = some (nI (hiN T V 6)) := by
          unfold sem_X9_highest
          rw [show lp_X9_highest_4 m FUEL 0 0 = _ from hi_m b1 b3 b9 FUEL 0 (by omega) (by decide)]; rfl
        rw [q1, q2, bs, bs]
        have hb := hiN_le (T := T) (fun i hi => (b9 i hi).2) 6 (by omega)
        by_cases c : nI (hiN T V 6) ≤ nI w
        · rw [if_pos c, if_pos c, bs]
          have hcn := (nI_leI (by omega) (by omega)).mp c
          unfold jn_X9_set_58
          rw [if_pos (show nI 0 = 0 from rfl)]
          unfold jn_X9_set_73
          rw [if_pos (show nI 0 = 0 from rfl)]
          unfold jn_X9_set_87
          rw [if_neg (show ¬ nI 0 = 1 by decide)]
          refine ⟨x6_limit (x8_town s), _, _, rfl, by rw [hT.2.1], ?_⟩
          refine hR.town ⟨⟨hT.1, rfl, hT.2.2⟩, ?_⟩ rfl rfl rfl rfl rfl rfl rfl
          obtain ⟨T', l', e, c', d1, d2, d3, d4, d5, d6⟩ := hR.1.2
          have eT : T' = T := (nI_eq (by omega) (by omega)).mp (d2.symm.trans b3)
          subst eT
          obtain ⟨d6, d7, d8, d9, f0, f1⟩ := d6
          refine ⟨T', w, e, c', d1, d2, hw1, hw2, rfl, d6, d7, d8, d9, fun i hi => ⟨V i, (b9 i hi).2, (b9 i hi).1, fun hb => ?_⟩, f1⟩
          have := hiN_ge (V := V) hb 6 hi
          omega
        · rw [if_neg c, if_neg c]
          exact ⟨_, _, _, rfl, rfl, hR⟩
      · rw [e1, e2]
        exact ⟨_, _, _, rfl, rfl, hR⟩
    · rw [if_neg (show ¬ nI 1 = 0 by decide), if_pos (show nI 1 = 1 by decide)]
      rw [if_neg (show ¬ nI 1 = 0 by decide)]
      unfold sem_X8_setEars jn_X9_set_21
      rw [if_neg (show ¬ nI 1 = 0 by decide)]
      unfold jn_X9_set_34
      rcases gd x2 0 9 (by decide) (by decide) (a := 0) (b := 9) (A := 0) (B := 9) rfl rfl rfl rfl with ⟨w, hw1, hw2, rfl, e1, e2⟩ | ⟨e1, e2, -⟩
      · rw [e1, e2, bs, bs, if_neg one_ne, if_neg one_ne, if_neg (show ¬ nI 1 = 0 by decide)]
        unfold jn_X9_set_58
        rw [if_neg (show ¬ nI 1 = 0 by decide)]
        unfold jn_X9_set_73
        rw [if_neg (show ¬ nI 1 = 0 by decide)]
        unfold jn_X9_set_87
        rw [if_pos (show nI 1 = 1 by decide), bs]
        refine ⟨x6_ears (x8_town s), _, _, rfl, by rw [hT.2.2.1], ?_⟩
        refine hR.town ⟨⟨hT.1, hT.2.1, rfl, hT.2.2.2⟩, ?_⟩ rfl rfl rfl rfl rfl rfl rfl
        obtain ⟨T', l', e, c', d1, d2, d3, d4, d5, d6, d7, d8⟩ := hR.1.2
        exact ⟨T', l', w, c', d1, d2, d3, d4, d5, hw2, rfl, d8⟩
      · rw [e1, e2]
        exact ⟨_, _, _, rfl, rfl, hR⟩
  · rw [e1, bs, if_pos rfl]
    rw [if_neg (fun z => e3 (by rw [z]; decide)), if_neg (fun z => e3 (by rw [z]; decide))]
    exact ⟨_, _, _, rfl, rfl, hR⟩
theorem mod60 : ∀ j, j < 70 → 10 ≤ j → nI j / 10 - 1 = nI (j / 10 - 1) ∧ jrem (nI j) 10 = nI (j % 10) ∧ j / 10 - 1 < 6 := by decide +kernel
theorem ok_told : hF_told RR := by
  intro x1 s m j0 j1 hR
  obtain ⟨T, l, V, b1, b2, b3, b4, b5, b6, b7, b8, b9, b10⟩ := tempers hR.1
  have hT := hR.1.1
  unfold sem_X8_told sem_X9_told
  rcases gd x1 10 69 (by decide) (by decide) (a := 10) (b := 69) (A := 10) (B := 69) rfl rfl rfl rfl with ⟨j, hj1, hj2, rfl, e1, -⟩ | ⟨e1, -, e3⟩
  · rw [e1, bs, if_neg one_ne]
    rw [if_neg (nI_neL (x := 0) (c := 0) rfl (by omega) (by omega) (by decide)), if_neg (nI_neL (x := 1) (c := 1) rfl (by omega) (by omega) (by decide)), if_neg (nI_neL (x := 2) (c := 2) rfl (by omega) (by omega) (by decide)), if_neg (nI_neL (x := 3) (c := 3) rfl (by omega) (by omega) (by decide)), if_neg (nI_neL (x := 4) (c := 4) rfl (by omega) (by omega) (by decide))]
    obtain ⟨m1, m2, m3⟩ := mod60 j (by omega) hj1
    unfold sem_X8_toldOfOne sem_X9_toldOf
    rw [m1, m2, has_n b1 b2 m3, isOne_n b1 b3 m3, bs]
    have hck : vp_in (nI (j / 10 - 1)) 6 := vp_in_nI m3 (by decide)
    have hf : ∀ f, f < 6 → x6_facts (x8_town s) ((j / 10 - 1) * 6 + f) = mF m (j / 10 - 1) f := fun f hf => hT.2.2.2.2.1 _ m3 f hf
    rw [within_eq]
    by_cases c : T.testBit (j / 10 - 1) = true
    · rw [if_pos c, if_neg one_ne, bs, bs]
      simp only [ck_in hck, tcl (show j / 10 - 1 < 2 ^ 31 by omega)]
      rw [if_neg one_ne]
      by_cases c6 : j % 10 < 6
      · have hw : (10 : Int32) ≤ nI j ∧ nI j ≤ 65 := ⟨(nI_leI (a := 10) (b := j) (by decide) (by omega)).mpr (by omega), (nI_leI (a := j) (b := 65) (by omega) (by decide)).mpr (by omega)⟩
        rw [if_pos hw, if_neg one_ne, if_neg (no6 c6), get_n m3 c6, bs, hf _ c6]
        have hcs : j % 10 = 0 ∨ j % 10 = 1 ∨ j % 10 = 2 ∨ j % 10 = 3 ∨ j % 10 = 4 ∨ j % 10 = 5 := by omega
        rcases hcs with q | q | q | q | q | q <;> rw [q] <;> exact ⟨_, rfl, rfl, hR⟩
      · have hne2 : ∀ d, d < 6 → ¬ nI (j % 10) = nI d := fun d hd z => by
          have := (nI_eq (by omega) (by omega)).mp z
          omega
        have h6 : (6 : Int32) ≤ nI (j % 10) := (nI_leI (a := 6) (b := j % 10) (by decide) (by omega)).mpr (by omega)
        rw [if_neg (nI_neL (x := 0) (c := 0) rfl (by omega) (by omega) (by decide)), if_neg (nI_neL (x := 1) (c := 1) rfl (by omega) (by omega) (by decide)), if_neg (nI_neL (x := 2) (c := 2) rfl (by omega) (by omega) (by decide)), if_neg (nI_neL (x := 3) (c := 3) rfl (by omega) (by omega) (by decide)), if_neg (nI_neL (x := 4) (c := 4) rfl (by omega) (by omega) (by decide)), if_neg (nI_neL (x := 5) (c := 5) rfl (by omega) (by omega) (by decide)), if_pos h6]
        by_cases hw : (10 : Int32) ≤ nI j ∧ nI j ≤ 65
        · rw [if_pos hw, if_neg one_ne]; exact ⟨_, rfl, rfl, hR⟩
        · rw [if_neg hw, if_pos rfl]; exact ⟨_, rfl, rfl, hR⟩
    · rw [if_neg c, if_pos rfl, bs, bs, if_pos rfl]
      by_cases hw : (10 : Int32) ≤ nI j ∧ nI j ≤ 65
      · rw [if_pos hw, if_neg one_ne]; exact ⟨_, rfl, rfl, hR⟩
      · rw [if_neg hw, if_pos rfl]; exact ⟨_, rfl, rfl, hR⟩
  · rw [e1, bs, if_pos rfl]
    have hP := hR.2.1.1
    by_cases q0 : x1 = 0
    · rw [if_pos q0, if_pos q0, hP]; exact ⟨_, rfl, rfl, hR⟩
    · rw [if_neg q0, if_neg q0]
      by_cases q1 : x1 = 1
      · rw [if_pos q1, if_pos q1, hT.1]; exact ⟨_, rfl, rfl, hR⟩
      · rw [if_neg q1, if_neg q1]
        by_cases q2 : x1 = 2
        · rw [if_pos q2, if_pos q2, hT.2.1]; exact ⟨_, rfl, rfl, hR⟩
        · rw [if_neg q2, if_neg q2]
          by_cases q3 : x1 = 3
          · rw [if_pos q3, if_pos q3, hT.2.2.1]; exact ⟨_, rfl, rfl, hR⟩
          · rw [if_neg q3, if_neg q3]
            by_cases q4 : x1 = 4
            · rw [if_pos q4, if_pos q4, hT.2.2.2.1]; exact ⟨_, rfl, rfl, hR⟩
            · rw [if_neg q4, if_neg q4]
              unfold sem_X8_toldOfOne
              have hw : ¬ ((10 : Int32) ≤ x1 ∧ x1 ≤ 65) := fun z => e3 ⟨z.1, Int32.le_trans z.2 (by decide)⟩
              rw [within_eq, if_neg hw, bs, if_pos rfl]
              exact ⟨_, rfl, rfl, hR⟩
