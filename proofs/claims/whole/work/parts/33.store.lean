/-! the town kept aside and laid again -/
def hV (m : S9) (f i : Nat) : Int32 := if f = 0 then x9_temper m i else if f = 1 then x9_stamps m i else if f = 2 then x9_purse m i else if f = 3 then x9_yard m i else x9_cause m i
def up5 (h : Nat → Int32) (j : Nat) (a b c d e : Int32) : Nat → Int32 := upd (upd (upd (upd (upd h j a) (6 + j) b) (12 + j) c) (18 + j) d) (24 + j) e
theorem up5_n (h : Nat → Int32) {j i f : Nat} (hj : j < 6) (hi : i < 6) (hf : f < 5) {a b c d e : Int32} : up5 h j a b c d e (6 * f + i) = if i = j then (if f = 0 then a else if f = 1 then b else if f = 2 then c else if f = 3 then d else e) else h (6 * f + i) := by
  unfold up5 upd
  have hf5 : f = 0 ∨ f = 1 ∨ f = 2 ∨ f = 3 ∨ f = 4 := by omega
  by_cases q : i = j
  · subst q
    rw [if_pos rfl]
    rcases hf5 with rfl | rfl | rfl | rfl | rfl
    · rw [if_neg (by omega), if_neg (by omega), if_neg (by omega), if_neg (by omega), if_pos (by omega), if_pos rfl]
    · rw [if_neg (by omega), if_neg (by omega), if_neg (by omega), if_pos (by omega), if_neg (by decide), if_pos rfl]
    · rw [if_neg (by omega), if_neg (by omega), if_pos (by omega), if_neg (by decide), if_neg (by decide), if_pos rfl]
    · rw [if_neg (by omega), if_pos (by omega), if_neg (by decide), if_neg (by decide), if_neg (by decide), if_pos rfl]
    · rw [if_pos (by omega), if_neg (by decide), if_neg (by decide), if_neg (by decide), if_neg (by decide)]
  · rw [if_neg q, if_neg (by omega), if_neg (by omega), if_neg (by omega), if_neg (by omega), if_neg (by omega)]
theorem hhad_1 (m : S9) (v : Nat → Int32) : x9_temper (p9_had m v) = x9_temper m := rfl
theorem hhad_2 (m : S9) (v : Nat → Int32) : x9_stamps (p9_had m v) = x9_stamps m := rfl
theorem hhad_3 (m : S9) (v : Nat → Int32) : x9_purse (p9_had m v) = x9_purse m := rfl
theorem hhad_4 (m : S9) (v : Nat → Int32) : x9_yard (p9_had m v) = x9_yard m := rfl
theorem hhad_5 (m : S9) (v : Nat → Int32) : x9_cause (p9_had m v) = x9_cause m := rfl
theorem hhad_6 (m : S9) (v : Nat → Int32) : x9_had (p9_had m v) = v := rfl
theorem hhad_7 (m : S9) (v w : Nat → Int32) : p9_had (p9_had m v) w = p9_had m w := rfl
theorem hVhad (m : S9) (v : Nat → Int32) : hV (p9_had m v) = hV m := rfl
theorem store_had_lp : ∀ n j, j ≤ 6 → 7 ≤ n + j → ∀ m, ∃ H, lp_X9_store_had_2 n (nI j) m = some (p9_had m H) ∧ ∀ i f, i < 6 → f < 5 → H (6 * f + i) = if j ≤ i then hV m f i else x9_had m (6 * f + i) := by
  intro n
  induction n with
  | zero => intro j h1 h2; omega
  | succ n ih =>
    intro j h1 h2 m
    show ∃ H, bd_X9_store_had_2 (lp_X9_store_had_2 n) (nI j) m = _ ∧ _
    unfold bd_X9_store_had_2
    by_cases hj : j = 6
    · subst hj
      rw [if_pos (by decide)]
      exact ⟨x9_had m, rfl, fun i f hi hf => by rw [if_neg (by omega)]⟩
    · have hj6 : j < 6 := by omega
      rw [if_neg (no6 hj6)]
      simp only [show (6 : Int32) + nI j = nI (6 + j) from nI_add 6 j, show (12 : Int32) + nI j = nI (12 + j) from nI_add 12 j, show (18 : Int32) + nI j = nI (18 + j) from nI_add 18 j, show (24 : Int32) + nI j = nI (24 + j) from nI_add 24 j, ck_in (vp_in_nI hj6 (by decide : 6 < 2 ^ 31)), ck_in (vp_in_nI (show j < 30 by omega) (by decide : 30 < 2 ^ 31)), ck_in (vp_in_nI (show 6 + j < 30 by omega) (by decide : 30 < 2 ^ 31)), ck_in (vp_in_nI (show 12 + j < 30 by omega) (by decide : 30 < 2 ^ 31)), ck_in (vp_in_nI (show 18 + j < 30 by omega) (by decide : 30 < 2 ^ 31)), ck_in (vp_in_nI (show 24 + j < 30 by omega) (by decide : 30 < 2 ^ 31)), tcl (show j < 2 ^ 31 by omega), tcl (show 6 + j < 2 ^ 31 by omega), tcl (show 12 + j < 2 ^ 31 by omega), tcl (show 18 + j < 2 ^ 31 by omega), tcl (show 24 + j < 2 ^ 31 by omega), hhad_1, hhad_2, hhad_3, hhad_4, hhad_5, hhad_6, hhad_7, nI_1]
      obtain ⟨H, y1, y2⟩ := ih (j + 1) (by omega) (by omega) (p9_had m (up5 (x9_had m) j (x9_temper m j) (x9_stamps m j) (x9_purse m j) (x9_yard m j) (x9_cause m j)))
      refine ⟨H, y1, fun i f hi hf => ?_⟩
      rw [y2 i f hi hf, hVhad]
      by_cases q : j + 1 ≤ i
      · rw [if_pos q, if_pos (by omega)]
      · rw [if_neg q]
        show up5 _ j _ _ _ _ _ (6 * f + i) = _
        rw [up5_n _ hj6 hi hf]
        by_cases q2 : i = j
        · rw [if_pos q2, if_pos (show j ≤ i by omega), q2]
          rfl
        · rw [if_neg q2, if_neg (show ¬ j ≤ i by omega)]
theorem store_had_n (m : S9) : ∃ H, sem_X9_store_had m = some (p9_had m H) ∧ ∀ i f, i < 6 → f < 5 → H (6 * f + i) = hV m f i := by
  obtain ⟨H, y1, y2⟩ := store_had_lp FUEL 0 (by omega) (by rw [fuel_s]; omega) m
  refine ⟨H, ?_, fun i f hi hf => by rw [y2 i f hi hf, if_pos (by omega)]⟩
  unfold sem_X9_store_had
  rw [show lp_X9_store_had_2 FUEL 0 m = lp_X9_store_had_2 FUEL (nI 0) m from rfl, y1, bs]
theorem hleaves_1 (m : S9) (v : Nat → Int32) : x9_temper (p9_leaves m v) = x9_temper m := rfl
theorem hleaves_2 (m : S9) (v : Nat → Int32) : x9_stamps (p9_leaves m v) = x9_stamps m := rfl
theorem hleaves_3 (m : S9) (v : Nat → Int32) : x9_purse (p9_leaves m v) = x9_purse m := rfl
theorem hleaves_4 (m : S9) (v : Nat → Int32) : x9_yard (p9_leaves m v) = x9_yard m := rfl
theorem hleaves_5 (m : S9) (v : Nat → Int32) : x9_cause (p9_leaves m v) = x9_cause m := rfl
theorem hleaves_6 (m : S9) (v : Nat → Int32) : x9_leaves (p9_leaves m v) = v := rfl
theorem hleaves_7 (m : S9) (v w : Nat → Int32) : p9_leaves (p9_leaves m v) w = p9_leaves m w := rfl
theorem hVleaves (m : S9) (v : Nat → Int32) : hV (p9_leaves m v) = hV m := rfl
theorem store_leaves_lp : ∀ n j, j ≤ 6 → 7 ≤ n + j → ∀ m, ∃ H, lp_X9_store_leaves_2 n (nI j) m = some (p9_leaves m H) ∧ ∀ i f, i < 6 → f < 5 → H (6 * f + i) = if j ≤ i then hV m f i else x9_leaves m (6 * f + i) := by
  intro n
  induction n with
  | zero => intro j h1 h2; omega
  | succ n ih =>
    intro j h1 h2 m
    show ∃ H, bd_X9_store_leaves_2 (lp_X9_store_leaves_2 n) (nI j) m = _ ∧ _
    unfold bd_X9_store_leaves_2
    by_cases hj : j = 6
    · subst hj
      rw [if_pos (by decide)]
      exact ⟨x9_leaves m, rfl, fun i f hi hf => by rw [if_neg (by omega)]⟩
    · have hj6 : j < 6 := by omega
      rw [if_neg (no6 hj6)]
      simp only [show (6 : Int32) + nI j = nI (6 + j) from nI_add 6 j, show (12 : Int32) + nI j = nI (12 + j) from nI_add 12 j, show (18 : Int32) + nI j = nI (18 + j) from nI_add 18 j, show (24 : Int32) + nI j = nI (24 + j) from nI_add 24 j, ck_in (vp_in_nI hj6 (by decide : 6 < 2 ^ 31)), ck_in (vp_in_nI (show j < 30 by omega) (by decide : 30 < 2 ^ 31)), ck_in (vp_in_nI (show 6 + j < 30 by omega) (by decide : 30 < 2 ^ 31)), ck_in (vp_in_nI (show 12 + j < 30 by omega) (by decide : 30 < 2 ^ 31)), ck_in (vp_in_nI (show 18 + j < 30 by omega) (by decide : 30 < 2 ^ 31)), ck_in (vp_in_nI (show 24 + j < 30 by omega) (by decide : 30 < 2 ^ 31)), tcl (show j < 2 ^ 31 by omega), tcl (show 6 + j < 2 ^ 31 by omega), tcl (show 12 + j < 2 ^ 31 by omega), tcl (show 18 + j < 2 ^ 31 by omega), tcl (show 24 + j < 2 ^ 31 by omega), hleaves_1, hleaves_2, hleaves_3, hleaves_4, hleaves_5, hleaves_6, hleaves_7, nI_1]
      obtain ⟨H, y1, y2⟩ := ih (j + 1) (by omega) (by omega) (p9_leaves m (up5 (x9_leaves m) j (x9_temper m j) (x9_stamps m j) (x9_purse m j) (x9_yard m j) (x9_cause m j)))
      refine ⟨H, y1, fun i f hi hf => ?_⟩
      rw [y2 i f hi hf, hVleaves]
      by_cases q : j + 1 ≤ i
      · rw [if_pos q, if_pos (by omega)]
      · rw [if_neg q]
        show up5 _ j _ _ _ _ _ (6 * f + i) = _
        rw [up5_n _ hj6 hi hf]
        by_cases q2 : i = j
        · rw [if_pos q2, if_pos (show j ≤ i by omega), q2]
          rfl
        · rw [if_neg q2, if_neg (show ¬ j ≤ i by omega)]
theorem store_leaves_n (m : S9) : ∃ H, sem_X9_store_leaves m = some (p9_leaves m H) ∧ ∀ i f, i < 6 → f < 5 → H (6 * f + i) = hV m f i := by
  obtain ⟨H, y1, y2⟩ := store_leaves_lp FUEL 0 (by omega) (by rw [fuel_s]; omega) m
  refine ⟨H, ?_, fun i f hi hf => by rw [y2 i f hi hf, if_pos (by omega)]⟩
  unfold sem_X9_store_leaves
  rw [show lp_X9_store_leaves_2 FUEL 0 m = lp_X9_store_leaves_2 FUEL (nI 0) m from rfl, y1, bs]
def frL (m : S9) := (m.1, x9_permits m, x9_sightOne m, x9_sightHeard m, m.2.2)
theorem l_st (m : S9) (v : Nat → Int32) : x9_stamps (p9_temper m v) = x9_stamps m := rfl
theorem l_ut (m : S9) (v : Nat → Int32) : x9_purse (p9_temper m v) = x9_purse m := rfl
theorem l_yt (m : S9) (v : Nat → Int32) : x9_yard (p9_temper m v) = x9_yard m := rfl
theorem l_ys (m : S9) (v : Nat → Int32) : x9_yard (p9_stamps m v) = x9_yard m := rfl
theorem l_yu (m : S9) (v : Nat → Int32) : x9_yard (p9_purse m v) = x9_yard m := rfl
theorem l_cs (m : S9) (v : Nat → Int32) : x9_cause (p9_stamps m v) = x9_cause m := rfl
theorem l_cu (m : S9) (v : Nat → Int32) : x9_cause (p9_purse m v) = x9_cause m := rfl
theorem l_cy (m : S9) (v : Nat → Int32) : x9_cause (p9_yard m v) = x9_cause m := rfl
def ly (m : S9) (j : Nat) (a b c d e : Int32) : S9 := p9_cause (p9_yard (p9_purse (p9_stamps (p9_temper m (upd (x9_temper m) j a)) (upd (x9_stamps m) j b)) (upd (x9_purse m) j c)) (upd (x9_yard m) j d)) (upd (x9_cause m) j e)
theorem ly_V (m : S9) (j i f : Nat) (h : Nat → Int32) (hf : f < 5) : hV (ly m j (h j) (h (6 + j)) (h (12 + j)) (h (18 + j)) (h (24 + j))) f i = if i = j then h (6 * f + j) else hV m f i := by
  show (if f = 0 then upd (x9_temper m) j (h j) i else if f = 1 then upd (x9_stamps m) j (h (6 + j)) i else if f = 2 then upd (x9_purse m) j (h (12 + j)) i else if f = 3 then upd (x9_yard m) j (h (18 + j)) i else upd (x9_cause m) j (h (24 + j)) i) = _
  have hf5 : f = 0 ∨ f = 1 ∨ f = 2 ∨ f = 3 ∨ f = 4 := by omega
  by_cases q : i = j
  · subst q
    rw [if_pos rfl, upd_eq, upd_eq, upd_eq, upd_eq, upd_eq]
    rcases hf5 with rfl | rfl | rfl | rfl | rfl
    · rw [if_pos rfl, show 6 * 0 + i = i by omega]
    · rw [if_neg (by decide), if_pos rfl]
    · rw [if_neg (by decide), if_neg (by decide), if_pos rfl]
    · rw [if_neg (by decide), if_neg (by decide), if_neg (by decide), if_pos rfl]
    · rw [if_neg (by decide), if_neg (by decide), if_neg (by decide), if_neg (by decide)]
  · rw [if_neg q, upd_ne q, upd_ne q, upd_ne q, upd_ne q, upd_ne q]
    rfl
theorem ly_fr (m : S9) (j : Nat) (a b c d e : Int32) : frL (ly m j a b c d e) = frL m := rfl
theorem khad_1 (m : S9) (v : Nat → Int32) : x9_had (p9_temper m v) = x9_had m := rfl
theorem khad_2 (m : S9) (v : Nat → Int32) : x9_had (p9_stamps m v) = x9_had m := rfl
theorem khad_3 (m : S9) (v : Nat → Int32) : x9_had (p9_purse m v) = x9_had m := rfl
theorem khad_4 (m : S9) (v : Nat → Int32) : x9_had (p9_yard m v) = x9_had m := rfl
theorem khad_5 (m : S9) (j : Nat) (a b c d e : Int32) : x9_had (ly m j a b c d e) = x9_had m := rfl
theorem lay_had_lp : ∀ n j, j ≤ 6 → 7 ≤ n + j → ∀ m, ∃ m2, lp_X9_lay_had_2 n (nI j) m = some m2 ∧ frL m2 = frL m ∧ ∀ i f, i < 6 → f < 5 → hV m2 f i = if j ≤ i then x9_had m (6 * f + i) else hV m f i := by
  intro n
  induction n with
  | zero => intro j h1 h2; omega
  | succ n ih =>
    intro j h1 h2 m
    show ∃ m2, bd_X9_lay_had_2 (lp_X9_lay_had_2 n) (nI j) m = _ ∧ _
    unfold bd_X9_lay_had_2
    by_cases hj : j = 6
    · subst hj
      rw [if_pos (by decide)]
      exact ⟨m, rfl, rfl, fun i f hi hf => by rw [if_neg (by omega)]⟩
    · have hj6 : j < 6 := by omega
      rw [if_neg (no6 hj6)]
      simp only [show (6 : Int32) + nI j = nI (6 + j) from nI_add 6 j, show (12 : Int32) + nI j = nI (12 + j) from nI_add 12 j, show (18 : Int32) + nI j = nI (18 + j) from nI_add 18 j, show (24 : Int32) + nI j = nI (24 + j) from nI_add 24 j, ck_in (vp_in_nI hj6 (by decide : 6 < 2 ^ 31)), ck_in (vp_in_nI (show j < 30 by omega) (by decide : 30 < 2 ^ 31)), ck_in (vp_in_nI (show 6 + j < 30 by omega) (by decide : 30 < 2 ^ 31)), ck_in (vp_in_nI (show 12 + j < 30 by omega) (by decide : 30 < 2 ^ 31)), ck_in (vp_in_nI (show 18 + j < 30 by omega) (by decide : 30 < 2 ^ 31)), ck_in (vp_in_nI (show 24 + j < 30 by omega) (by decide : 30 < 2 ^ 31)), tcl (show j < 2 ^ 31 by omega), tcl (show 6 + j < 2 ^ 31 by omega), tcl (show 12 + j < 2 ^ 31 by omega), tcl (show 18 + j < 2 ^ 31 by omega), tcl (show 24 + j < 2 ^ 31 by omega), khad_1, khad_2, khad_3, khad_4, l_st, l_ut, l_yt, l_ys, l_yu, l_cs, l_cu, l_cy, g_us, b_ct, nI_1]
      obtain ⟨m2, y1, y2, y3⟩ := ih (j + 1) (by omega) (by omega) (ly m j (x9_had m j) (x9_had m (6 + j)) (x9_had m (12 + j)) (x9_had m (18 + j)) (x9_had m (24 + j)))
      refine ⟨m2, y1, y2.trans (ly_fr _ _ _ _ _ _ _), fun i f hi hf => ?_⟩
      rw [y3 i f hi hf, khad_5, ly_V _ _ _ _ _ hf]
      by_cases q : j + 1 ≤ i
      · rw [if_pos q, if_pos (show j ≤ i by omega)]
      · rw [if_neg q]
        by_cases q2 : i = j
        · rw [if_pos q2, if_pos (show j ≤ i by omega), q2]
        · rw [if_neg q2, if_neg (show ¬ j ≤ i by omega)]
theorem lay_had_n (m : S9) : ∃ m2, sem_X9_lay_had m = some m2 ∧ frL m2 = frL m ∧ ∀ i f, i < 6 → f < 5 → hV m2 f i = x9_had m (6 * f + i) := by
  obtain ⟨m2, y1, y2, y3⟩ := lay_had_lp FUEL 0 (by omega) (by rw [fuel_s]; omega) m
  refine ⟨m2, ?_, y2, fun i f hi hf => by rw [y3 i f hi hf, if_pos (by omega)]⟩
  unfold sem_X9_lay_had
  rw [show lp_X9_lay_had_2 FUEL 0 m = lp_X9_lay_had_2 FUEL (nI 0) m from rfl, y1, bs]
theorem kleaves_1 (m : S9) (v : Nat → Int32) : x9_leaves (p9_temper m v) = x9_leaves m := rfl
theorem kleaves_2 (m : S9) (v : Nat → Int32) : x9_leaves (p9_stamps m v) = x9_leaves m := rfl
theorem kleaves_3 (m : S9) (v : Nat → Int32) : x9_leaves (p9_purse m v) = x9_leaves m := rfl
theorem kleaves_4 (m : S9) (v : Nat → Int32) : x9_leaves (p9_yard m v) = x9_leaves m := rfl
theorem kleaves_5 (m : S9) (j : Nat) (a b c d e : Int32) : x9_leaves (ly m j a b c d e) = x9_leaves m := rfl
theorem lay_leaves_lp : ∀ n j, j ≤ 6 → 7 ≤ n + j → ∀ m, ∃ m2, lp_X9_lay_leaves_2 n (nI j) m = some m2 ∧ frL m2 = frL m ∧ ∀ i f, i < 6 → f < 5 → hV m2 f i = if j ≤ i then x9_leaves m (6 * f + i) else hV m f i := by
  intro n
  induction n with
  | zero => intro j h1 h2; omega
  | succ n ih =>
    intro j h1 h2 m
    show ∃ m2, bd_X9_lay_leaves_2 (lp_X9_lay_leaves_2 n) (nI j) m = _ ∧ _
    unfold bd_X9_lay_leaves_2
    by_cases hj : j = 6
    · subst hj
      rw [if_pos (by decide)]
      exact ⟨m, rfl, rfl, fun i f hi hf => by rw [if_neg (by omega)]⟩
    · have hj6 : j < 6 := by omega
      rw [if_neg (no6 hj6)]
      simp only [show (6 : Int32) + nI j = nI (6 + j) from nI_add 6 j, show (12 : Int32) + nI j = nI (12 + j) from nI_add 12 j, show (18 : Int32) + nI j = nI (18 + j) from nI_add 18 j, show (24 : Int32) + nI j = nI (24 + j) from nI_add 24 j, ck_in (vp_in_nI hj6 (by decide : 6 < 2 ^ 31)), ck_in (vp_in_nI (show j < 30 by omega) (by decide : 30 < 2 ^ 31)), ck_in (vp_in_nI (show 6 + j < 30 by omega) (by decide : 30 < 2 ^ 31)), ck_in (vp_in_nI (show 12 + j < 30 by omega) (by decide : 30 < 2 ^ 31)), ck_in (vp_in_nI (show 18 + j < 30 by omega) (by decide : 30 < 2 ^ 31)), ck_in (vp_in_nI (show 24 + j < 30 by omega) (by decide : 30 < 2 ^ 31)), tcl (show j < 2 ^ 31 by omega), tcl (show 6 + j < 2 ^ 31 by omega), tcl (show 12 + j < 2 ^ 31 by omega), tcl (show 18 + j < 2 ^ 31 by omega), tcl (show 24 + j < 2 ^ 31 by omega), kleaves_1, kleaves_2, kleaves_3, kleaves_4, l_st, l_ut, l_yt, l_ys, l_yu, l_cs, l_cu, l_cy, g_us, b_ct, nI_1]
      obtain ⟨m2, y1, y2, y3⟩ := ih (j + 1) (by omega) (by omega) (ly m j (x9_leaves m j) (x9_leaves m (6 + j)) (x9_leaves m (12 + j)) (x9_leaves m (18 + j)) (x9_leaves m (24 + j)))
      refine ⟨m2, y1, y2.trans (ly_fr _ _ _ _ _ _ _), fun i f hi hf => ?_⟩
      rw [y3 i f hi hf, kleaves_5, ly_V _ _ _ _ _ hf]
      by_cases q : j + 1 ≤ i
      · rw [if_pos q, if_pos (show j ≤ i by omega)]
      · rw [if_neg q]
        by_cases q2 : i = j
        · rw [if_pos q2, if_pos (show j ≤ i by omega), q2]
        · rw [if_neg q2, if_neg (show ¬ j ≤ i by omega)]
theorem lay_leaves_n (m : S9) : ∃ m2, sem_X9_lay_leaves m = some m2 ∧ frL m2 = frL m ∧ ∀ i f, i < 6 → f < 5 → hV m2 f i = x9_leaves m (6 * f + i) := by
  obtain ⟨m2, y1, y2, y3⟩ := lay_leaves_lp FUEL 0 (by omega) (by rw [fuel_s]; omega) m
  refine ⟨m2, ?_, y2, fun i f hi hf => by rw [y3 i f hi hf, if_pos (by omega)]⟩
  unfold sem_X9_lay_leaves
  rw [show lp_X9_lay_leaves_2 FUEL 0 m = lp_X9_lay_leaves_2 FUEL (nI 0) m from rfl, y1, bs]
