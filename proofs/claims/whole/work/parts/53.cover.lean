/-! cover: the reference's numbers -/
theorem m10 (a : Nat) : nI a * 10 = nI (a * 10) := pk_mul a 10
theorem c_st {m : S9} {T k : Nat} (hT6 : T < 64) (hth : x9_there m = nI T) (hk : k < 6) (x2 x3 : Int32) (kc : Int32 → Int32 → Int32 → Int32 → Int32 → Int32 → Int32 → Int32 → S9 → Option ((Int32 × S9) ⊕ (Int32 × Int32 × Int32 × S9))) {L F G S A B P D : Nat} (hL : L < 2 ^ 31) (hF : F < 2 ^ 31) (hG : G < 2 ^ 31) (hD : x9_coverDigits m = nI D) (hok : T.testBit k = true ∨ L % 3 = 2) : bd_X9_covered_31 x2 x3 kc (nI L) (nI F) (nI G) (nI S) (nI A) (nI B) (nI P) (nI k) m = kc (nI (L / 3)) (nI (F / 10)) (nI (G / 10)) (nI (S + (if L % 3 = 0 then F % 10 else if L % 3 = 1 then G % 10 else 0))) (nI (A + (if L % 3 = 0 then 1 else 0))) (nI (B + (if L % 3 = 1 then 1 else 0))) (nI (P * 10)) (nI k - 1) (p9_coverDigits m (nI (D + P * (if T.testBit k = true then L % 3 else 3)))) := by
  unfold bd_X9_covered_31 jn_X9_covered_66 jn_X9_covered_96 jn_X9_covered_111 jn_X9_covered_127 jn_X9_covered_152
  rw [if_neg (no0 (by omega)), isOne_n hT6 hth hk, bs, show jrem (nI L) 3 = nI (L % 3) from jrem_n hL (by decide) (by decide), show nI L / 3 = nI (L / 3) from div_n hL (by decide) (by decide), show nI F / 10 = nI (F / 10) from div_n hF (by decide) (by decide), show nI G / 10 = nI (G / 10) from div_n hG (by decide) (by decide), show jrem (nI F) 10 = nI (F % 10) from jrem_n hF (by decide) (by decide), show jrem (nI G) 10 = nI (G % 10) from jrem_n hG (by decide) (by decide), m10]
  simp only [bs, hD]
  have e3 : nI P * 3 = nI (P * 3) := pk_mul P 3
  have eS0 : ∀ a : Nat, nI a + 0 = nI (a + 0) := fun a => nI_add a 0
  have hr : L % 3 = 0 ∨ L % 3 = 1 ∨ L % 3 = 2 := by omega
  by_cases c : T.testBit k = true
  · simp only [if_pos c, if_neg one_ne]
    rcases hr with r | r | r
    · rw [r]
      simp only [if_pos (show nI 0 = 0 from rfl), if_neg (show ¬ nI 0 = 1 by decide), nI_add, nI_1, eS0, pk_mul]
      rfl
    · rw [r]
      simp only [if_pos (show nI 1 = 1 from rfl), if_neg (show ¬ nI 1 = 0 by decide), nI_add, nI_1, eS0, pk_mul]
      rfl
    · rw [r]
      simp only [if_neg (show ¬ nI 2 = 1 by decide), if_neg (show ¬ nI 2 = 0 by decide), nI_add, nI_1, eS0, pk_mul]
      rfl
  · have r : L % 3 = 2 := by
      rcases hok with z | z
      · exact absurd z c
      · exact z
    simp only [if_neg c, if_pos (rfl : (0 : Int32) = 0)]
    rw [r]
    simp only [if_neg (show ¬ nI 2 = 1 by decide), if_neg (show ¬ nI 2 = 0 by decide), if_pos (show nI 2 = 2 from rfl), nI_add, nI_1, eS0, e3]
    rfl
theorem c_no {m : S9} {T k : Nat} (hT6 : T < 64) (hth : x9_there m = nI T) (hk : k < 6) (x2 x3 : Int32) (kc : Int32 → Int32 → Int32 → Int32 → Int32 → Int32 → Int32 → Int32 → S9 → Option ((Int32 × S9) ⊕ (Int32 × Int32 × Int32 × S9))) {L : Nat} (x7 x8 x9 x10 x11 x12 : Int32) (hL : L < 2 ^ 31) (hb : ¬ T.testBit k = true) (h2 : ¬ L % 3 = 2) : bd_X9_covered_31 x2 x3 kc (nI L) x7 x8 x9 x10 x11 x12 (nI k) m = some (Sum.inl (-6, m)) := by
  unfold bd_X9_covered_31
  rw [if_neg (no0 (by omega)), isOne_n hT6 hth hk, bs, if_neg hb, if_pos rfl, show jrem (nI L) 3 = nI (L % 3) from jrem_n hL (by decide) (by decide), if_neg (show ¬ nI (L % 3) = 2 from fun z => h2 ((nI_eq (a := L % 3) (b := 2) (by omega) (by decide)).mp z))]
theorem cvK_mono (tt : Nat → Bool) (x : Nat) : ∀ n, cvK tt x n → ∀ k, k ≤ n → cvK tt x k := by
  intro n
  induction n with
  | zero => intro h k hk; rw [show k = 0 by omega]; exact h
  | succ n ih =>
    intro h k hk
    by_cases q : k = n + 1
    · rw [q]; exact h
    · exact ih h.1 k (by omega)
theorem d_pp (m : S9) (a b : Int32) : p9_coverDigits (p9_coverDigits m a) b = p9_coverDigits m b := rfl
theorem cv_lp {m : S9} {T X Y x : Nat} (hT6 : T < 64) (hth : x9_there m = nI T) (hX : X < 2 ^ 31) (hY : Y < 2 ^ 31) (hx : x < 2 ^ 31) (x2 x3 : Int32) : ∀ f n, n ≤ 6 → 7 ≤ f + n → cvK (tb6 T) x n →
    ((cvK (tb6 T) x 6 → lp_X9_covered_31 x2 x3 f (nI (x / 3 ^ n)) (nI (X / 10 ^ n)) (nI (Y / 10 ^ n)) (nI (cvS (wt X) (wt Y) x n)) (nI (cvA x n)) (nI (cvB x n)) (nI (10 ^ n)) (nI (6 - n) - 1) (p9_coverDigits m (nI (cvD (tb6 T) x n))) = some (Sum.inr (nI (cvS (wt X) (wt Y) x 6), nI (cvA x 6), nI (cvB x 6), p9_coverDigits m (nI (cvD (tb6 T) x 6))))) ∧
     (¬ cvK (tb6 T) x 6 → ∃ v, lp_X9_covered_31 x2 x3 f (nI (x / 3 ^ n)) (nI (X / 10 ^ n)) (nI (Y / 10 ^ n)) (nI (cvS (wt X) (wt Y) x n)) (nI (cvA x n)) (nI (cvB x n)) (nI (10 ^ n)) (nI (6 - n) - 1) (p9_coverDigits m (nI (cvD (tb6 T) x n))) = some (Sum.inl (-6, p9_coverDigits m v)))) := by
  intro f
  induction f with
  | zero => intro n h1 h2; omega
  | succ f ih =>
    intro n h1 h2 hK
    show (cvK (tb6 T) x 6 → bd_X9_covered_31 x2 x3 (lp_X9_covered_31 x2 x3 f) (nI (x / 3 ^ n)) (nI (X / 10 ^ n)) (nI (Y / 10 ^ n)) (nI (cvS (wt X) (wt Y) x n)) (nI (cvA x n)) (nI (cvB x n)) (nI (10 ^ n)) (nI (6 - n) - 1) (p9_coverDigits m (nI (cvD (tb6 T) x n))) = _) ∧ (¬ cvK (tb6 T) x 6 → ∃ v, bd_X9_covered_31 x2 x3 (lp_X9_covered_31 x2 x3 f) (nI (x / 3 ^ n)) (nI (X / 10 ^ n)) (nI (Y / 10 ^ n)) (nI (cvS (wt X) (wt Y) x n)) (nI (cvA x n)) (nI (cvB x n)) (nI (10 ^ n)) (nI (6 - n) - 1) (p9_coverDigits m (nI (cvD (tb6 T) x n))) = _)
    by_cases q : n = 6
    · subst q
      constructor
      · intro _
        unfold bd_X9_covered_31
        rw [if_pos (by decide)]
      · intro h; exact absurd hK h
    · have hLx : x / 3 ^ n < 2 ^ 31 := Nat.lt_of_le_of_lt (Nat.div_le_self _ _) hx
      have hFx : X / 10 ^ n < 2 ^ 31 := Nat.lt_of_le_of_lt (Nat.div_le_self _ _) hX
      have hGx : Y / 10 ^ n < 2 ^ 31 := Nat.lt_of_le_of_lt (Nat.div_le_self _ _) hY
      have hth2 : x9_there (p9_coverDigits m (nI (cvD (tb6 T) x n))) = nI T := hth
      rw [show 6 - n = (5 - n) + 1 by omega, nI_pred]
      by_cases hok : T.testBit (5 - n) = true ∨ x / 3 ^ n % 3 = 2
      · rw [c_st (D := cvD (tb6 T) x n) hT6 hth2 (show 5 - n < 6 by omega) x2 x3 (lp_X9_covered_31 x2 x3 f) hLx hFx hGx rfl hok, d_pp, Nat.div_div_eq_div_mul, Nat.div_div_eq_div_mul, Nat.div_div_eq_div_mul, ← Nat.pow_succ, ← Nat.pow_succ]
        have hK2 : cvK (tb6 T) x (n + 1) := ⟨hK, hok⟩
        have h := ih (n + 1) (by omega) (by omega) hK2
        rw [show 6 - (n + 1) = 5 - n by omega] at h
        exact h
      · constructor
        · intro h6
          exact absurd (cvK_mono (tb6 T) x 6 h6 (n + 1) (by omega)).2 hok
        · intro _
          rw [c_no hT6 hth2 (show 5 - n < 6 by omega) x2 x3 _ _ _ _ _ _ _ hLx (fun z => hok (Or.inl z)) (fun z => hok (Or.inr z))]
          exact ⟨_, rfl⟩
theorem cvAB (x : Nat) : ∀ n, cvA x n ≤ n ∧ cvB x n ≤ n := by
  intro n
  induction n with
  | zero => exact ⟨Nat.le_refl _, Nat.le_refl _⟩
  | succ n ih =>
    obtain ⟨h1, h2⟩ := ih
    constructor
    · show cvA x n + (if dg x n = 0 then 1 else 0) ≤ n + 1
      split <;> omega
    · show cvB x n + (if dg x n = 1 then 1 else 0) ≤ n + 1
      split <;> omega
theorem cvS_le (X Y x : Nat) : ∀ n, cvS (wt X) (wt Y) x n ≤ 9 * n := by
  intro n
  induction n with
  | zero => exact Nat.le_refl _
  | succ n ih =>
    have h1 := wt_le X n
    have h2 := wt_le Y n
    show cvS (wt X) (wt Y) x n + (if dg x n = 0 then wt X n else if dg x n = 1 then wt Y n else 0) ≤ _
    split
    · omega
    · split <;> omega
theorem cov_n {m : S9} {T X Y x a b : Nat} (hT6 : T < 64) (hth : x9_there m = nI T) (hX : X < 2 ^ 31) (hY : Y < 2 ^ 31) (hx : x < 2 ^ 31) (ha : a ≤ 6) (hb : b ≤ 6) : ∃ r v, sem_X9_covered (nI x) (nI a) (nI b) (nI X) (nI Y) m = some (r, p9_coverDigits m v) ∧ ((Fz (tb6 T) 6 a b x ∧ r = nI (cvS (wt X) (wt Y) x 6) ∧ v = nI (cvD (tb6 T) x 6)) ∨ (¬ Fz (tb6 T) 6 a b x ∧ r = -6)) := by
  obtain ⟨h1, h2⟩ := cv_lp (x := x) hT6 hth hX hY hx (nI a) (nI b) FUEL 0 (by decide) (by rw [fuel_s]; omega) trivial
  obtain ⟨hA, hB⟩ := cvAB x 6
  have e0 : ∀ z : Nat, z / 10 ^ 0 = z := fun z => by rw [Nat.pow_zero, Nat.div_one]
  rw [e0 X, e0 Y, show x / 3 ^ 0 = x by rw [Nat.pow_zero, Nat.div_one]] at h1 h2
  unfold sem_X9_covered
  by_cases hK : cvK (tb6 T) x 6
  · have h1' : lp_X9_covered_31 (nI a) (nI b) FUEL (nI x) (nI X) (nI Y) 0 0 0 1 5 (p9_coverDigits m 0) = some (Sum.inr (nI (cvS (wt X) (wt Y) x 6), nI (cvA x 6), nI (cvB x 6), p9_coverDigits m (nI (cvD (tb6 T) x 6)))) := h1 hK
    rw [h1', bs]
    show ∃ r v, (if nI a < nI (cvA x 6) then some (-6, p9_coverDigits m (nI (cvD (tb6 T) x 6))) else if nI b < nI (cvB x 6) then some (-6, p9_coverDigits m (nI (cvD (tb6 T) x 6))) else some (nI (cvS (wt X) (wt Y) x 6), p9_coverDigits m (nI (cvD (tb6 T) x 6)))) = some (r, p9_coverDigits m v) ∧ _
    by_cases c1 : cvA x 6 ≤ a
    · rw [if_neg (nI_nlt c1 (by omega))]
      by_cases c2 : cvB x 6 ≤ b
      · rw [if_neg (nI_nlt c2 (by omega))]
        exact ⟨_, _, rfl, Or.inl ⟨⟨hK, c1, c2⟩, rfl, rfl⟩⟩
      · rw [if_pos (nI_lt (by omega) (by omega))]
        exact ⟨_, _, rfl, Or.inr ⟨fun z => c2 z.2.2, rfl⟩⟩
    · rw [if_pos (nI_lt (by omega) (by omega))]
      exact ⟨_, _, rfl, Or.inr ⟨fun z => c1 z.2.1, rfl⟩⟩
  · obtain ⟨v, h⟩ := h2 hK
    have h' : lp_X9_covered_31 (nI a) (nI b) FUEL (nI x) (nI X) (nI Y) 0 0 0 1 5 (p9_coverDigits m 0) = some (Sum.inl (-6, p9_coverDigits m v)) := h
    rw [h', bs]
    exact ⟨_, _, rfl, Or.inr ⟨fun z => hK z.1, rfl⟩⟩
def Iv (T X Y a b N : Nat) (best told : Int32) : Prop := (best = -6 ∧ ∀ x, x < N → ¬ Fz (tb6 T) 6 a b x) ∨ ∃ x0 r, x0 < N ∧ Fz (tb6 T) 6 a b x0 ∧ cvS (wt X) (wt Y) x0 6 = r ∧ best = nI r ∧ told = nI (cvD (tb6 T) x0 6) ∧ (∀ x, x < N → Fz (tb6 T) 6 a b x → cvS (wt X) (wt Y) x 6 ≤ r) ∧ ∀ x, x < x0 → Fz (tb6 T) 6 a b x → cvS (wt X) (wt Y) x 6 < r
theorem n6_le {r : Nat} (h : r < 2 ^ 31) : (-6 : Int32) ≤ nI r ∧ ¬ nI r ≤ (-6 : Int32) := by
  rw [Int32.le_iff_toInt_le, Int32.le_iff_toInt_le, nI_toInt h, show (-6 : Int32).toInt = -6 from by decide]
  omega
theorem cover_lp {T X Y a b : Nat} (hT6 : T < 64) (hX : X < 2 ^ 31) (hY : Y < 2 ^ 31) (ha : a ≤ 6) (hb : b ≤ 6) (x5 : Int32) : ∀ f N, N ≤ 729 → 730 ≤ f + N → ∀ best told (m : S9), x9_there m = nI T → Iv T X Y a b N best told → ∃ best2 told2 w, lp_X9_cover_73 (nI a) (nI b) (nI X) (nI Y) x5 f best told (nI N) m = some (best2, told2, p9_coverDigits m w) ∧ Iv T X Y a b 729 best2 told2 := by
  intro f
  induction f with
  | zero => intro N h1 h2; omega
  | succ f ih =>
    intro N h1 h2 best told m hth hI
    show ∃ best2 told2 w, bd_X9_cover_73 (nI a) (nI b) (nI X) (nI Y) x5 (lp_X9_cover_73 (nI a) (nI b) (nI X) (nI Y) x5 f) best told (nI N) m = _ ∧ _
    unfold bd_X9_cover_73 jn_X9_cover_110
    by_cases q : N = 729
    · subst q
      rw [if_pos (by decide)]
      exact ⟨best, told, x9_coverDigits m, rfl, hI⟩
    · obtain ⟨r, v, e, hr⟩ := cov_n (x := N) hT6 hth hX hY (by omega) ha hb
      rw [if_neg (show ¬ (729 : Int32) ≤ nI N from nI_ge (a := N) (b := 729) (by omega) (by decide)), e, bs, nI_1]
      show ∃ best2 told2 w, (if r ≤ best then (if r ≤ best then lp_X9_cover_73 (nI a) (nI b) (nI X) (nI Y) x5 f best told (nI (N + 1)) (p9_coverDigits m v) else lp_X9_cover_73 (nI a) (nI b) (nI X) (nI Y) x5 f r told (nI (N + 1)) (p9_coverDigits m v)) else (if r ≤ best then lp_X9_cover_73 (nI a) (nI b) (nI X) (nI Y) x5 f best v (nI (N + 1)) (p9_coverDigits m v) else lp_X9_cover_73 (nI a) (nI b) (nI X) (nI Y) x5 f r v (nI (N + 1)) (p9_coverDigits m v))) = _ ∧ _
      have hS := cvS_le X Y N 6
      by_cases c : r ≤ best
      · rw [if_pos c, if_pos c]
        have hI2 : Iv T X Y a b (N + 1) best told := by
          rcases hI with ⟨i1, i2⟩ | ⟨x0, r0, i1, i2, i3, i4, i5, i6, i7⟩
          · refine Or.inl ⟨i1, fun x hx => ?_⟩
            by_cases z : x = N
            · subst z
              rcases hr with ⟨p1, p2, p3⟩ | ⟨p1, p2⟩
              · exfalso
                rw [i1, p2] at c
                exact (n6_le (by omega)).2 c
              · exact p1
            · exact i2 x (by omega)
          · refine Or.inr ⟨x0, r0, by omega, i2, i3, i4, i5, fun x hx hF => ?_, i7⟩
            by_cases z : x = N
            · subst z
              rcases hr with ⟨p1, p2, p3⟩ | ⟨p1, p2⟩
              · have hS0 := cvS_le X Y x0 6
                rw [i4, p2] at c
                exact (nI_leI (by omega) (by omega)).mp c
              · exact absurd hF p1
            · exact i6 x (by omega) hF
        obtain ⟨b2, t2, w, g1, g2⟩ := ih (N + 1) (by omega) (by omega) best told (p9_coverDigits m v) hth hI2
        exact ⟨b2, t2, w, g1, g2⟩
      · rw [if_neg c, if_neg c]
        have hI2 : Iv T X Y a b (N + 1) r v := by
          rcases hr with ⟨p1, p2, p3⟩ | ⟨p1, p2⟩
          · refine Or.inr ⟨N, cvS (wt X) (wt Y) N 6, by omega, p1, rfl, p2, p3, fun x hx hF => ?_, fun x hx hF => ?_⟩
            · by_cases z : x = N
              · rw [z]; exact Nat.le_refl _
              · rcases hI with ⟨i1, i2⟩ | ⟨x0, r0, i1, i2, i3, i4, i5, i6, i7⟩
                · exact absurd hF (i2 x (by omega))
                · have h := i6 x (by omega) hF
                  have hS0 := cvS_le X Y x0 6
                  rw [i4, p2] at c
                  have : r0 < cvS (wt X) (wt Y) N 6 := by
                    by_cases y : r0 < cvS (wt X) (wt Y) N 6
                    · exact y
                    · exact absurd (nI_le (by omega) (by omega)) c
                  omega
            · rcases hI with ⟨i1, i2⟩ | ⟨x0, r0, i1, i2, i3, i4, i5, i6, i7⟩
              · exact absurd hF (i2 x hx)
              · have h := i6 x hx hF
                have hS0 := cvS_le X Y x0 6
                rw [i4, p2] at c
                have : r0 < cvS (wt X) (wt Y) N 6 := by
                  by_cases y : r0 < cvS (wt X) (wt Y) N 6
                  · exact y
                  · exact absurd (nI_le (by omega) (by omega)) c
                omega
          · exfalso
            rcases hI with ⟨i1, i2⟩ | ⟨x0, r0, i1, i2, i3, i4, i5, i6, i7⟩
            · rw [i1, p2] at c
              exact c (by decide)
            · have hS0 := cvS_le X Y x0 6
              rw [i4, p2] at c
              exact c (n6_le (by omega)).1
        obtain ⟨b2, t2, w, g1, g2⟩ := ih (N + 1) (by omega) (by omega) r v (p9_coverDigits m v) hth hI2
        exact ⟨b2, t2, w, g1, g2⟩
theorem Iv_end {T X Y a b : Nat} {best told : Int32} (h : Iv T X Y a b 729 best told) : best = nI (Mx (tb6 T) (wt X) (wt Y) 6 a b) ∧ told = nI (Gd (tb6 T) (wt X) (wt Y) 6 a b) := by
  obtain ⟨y0, ⟨c1, c2, c3, c4, c5⟩, c6⟩ := bz_n (tb6 T) (wt X) (wt Y) 6 a b
  have c1' : y0 < 729 := c1
  rcases h with ⟨i1, i2⟩ | ⟨x0, r0, i1, i2, i3, i4, i5, i6, i7⟩
  · exact absurd c2 (i2 y0 c1')
  · have h1 := c4 x0 i1 i2
    have h2 := i6 y0 c1' c2
    have hr : r0 = Mx (tb6 T) (wt X) (wt Y) 6 a b := by omega
    have hx : x0 = y0 := by
      by_cases z : x0 < y0
      · have := c5 x0 z i2; omega
      · by_cases z2 : y0 < x0
        · have := i7 y0 z2 c2; omega
        · omega
    subst hx
    exact ⟨by rw [i4, hr], by rw [i5, c6]⟩
theorem ok_cover : hF_cover RR := by
  intro x1 x2 x3 x4 x5 s m j0 j1 hR
  obtain ⟨T, l, e, c, b1, b2, -⟩ := hR.1.2
  have hthx : x6_there (x8_town s) = nI T := hR.1.1.1.trans b2
  unfold sem_X8_cover sem_X9_cover
  rcases gd x1 0 6 (by decide) (by decide) (a := 0) (b := 6) (A := 0) (B := 6) rfl rfl rfl rfl with ⟨a, -, ha, rfl, e1, e2⟩ | ⟨e1, e2, -⟩
  · rw [e1, e2, bs, bs, if_neg one_ne, if_neg one_ne]
    rcases gd x2 0 6 (by decide) (by decide) (a := 0) (b := 6) (A := 0) (B := 6) rfl rfl rfl rfl with ⟨b, -, hb, rfl, e1, e2⟩ | ⟨e1, e2, -⟩
    · rw [e1, e2, bs, bs, if_neg one_ne, if_neg one_ne]
      rcases gd x3 0 999999 (by decide) (by decide) (a := 0) (b := 999999) (A := 0) (B := 999999) rfl rfl rfl rfl with ⟨X, -, hX, rfl, e1, e2⟩ | ⟨e1, e2, -⟩
      · rw [e1, e2, bs, bs, if_neg one_ne, if_neg one_ne]
        rcases gd x4 0 999999 (by decide) (by decide) (a := 0) (b := 999999) (A := 0) (B := 999999) rfl rfl rfl rfl with ⟨Y, -, hY, rfl, e1, e2⟩ | ⟨e1, e2, -⟩
        · rw [e1, e2, bs, bs, if_neg one_ne, if_neg one_ne]
          rcases gd x5 0 1 (by decide) (by decide) (a := 0) (b := 1) (A := 0) (B := 1) rfl rfl rfl rfl with ⟨w, -, hw, rfl, e1, e2⟩ | ⟨e1, e2, -⟩
          · rw [e1, e2, bs, bs, if_neg one_ne, if_neg one_ne]
            obtain ⟨s0, a1, a2, a3, a4⟩ := reck0 b1 (show X < 2 ^ 31 by omega) (show Y < 2 ^ 31 by omega) hthx (x8_covering s) hR.2.2.2.2.2
            obtain ⟨best, told, v, g1, g2⟩ := cover_lp (a := a) (b := b) b1 (show X < 2 ^ 31 by omega) (show Y < 2 ^ 31 by omega) ha hb (nI w) FUEL 0 (Nat.zero_le _) (by rw [fuel_s]; omega) (-6) 0 m b2 (Or.inl ⟨rfl, fun x hx => by omega⟩)
            obtain ⟨h1, h2⟩ := Iv_end g2
            have g1' : lp_X9_cover_73 (nI a) (nI b) (nI X) (nI Y) (nI w) FUEL (-6) 0 0 m = some (best, told, p9_coverDigits m v) := g1
            have hRR : RR (p8_covering s s0) (p9_coverDigits m v) j0 j1 := (hR.core (rfl : coreM (p9_coverDigits m v) = coreM m)).coreX rfl rfl (fun _ _ _ => rfl) (fun q p1 p2 => a4 q p1)
            rw [a1, bs, g1', bs]
            have hw2 : w = 0 ∨ w = 1 := by omega
            rcases hw2 with rfl | rfl
            · rw [if_pos (show nI 0 = 0 from rfl), if_pos (show nI 0 = 0 from rfl)]
              have hmo : sem_X0_mostFrom 0 (nI a) (nI b) (x8_covering (p8_covering s s0)) = some (nI (Mx (tb6 T) (wt X) (wt Y) 6 a b)) := (mo_n s0 (w := 0) (by decide) ha hb).trans (congrArg some (a3 6 (Nat.le_refl _) a b ha hb))
              rw [hmo, bs]
              exact ⟨_, _, _, rfl, by rw [h1], hRR⟩
            · rw [if_neg (show ¬ nI 1 = 0 by decide), if_neg (show ¬ nI 1 = 0 by decide)]
              have hho := hold_lp b1 (show X < 2 ^ 31 by omega) (show Y < 2 ^ 31 by omega) a2 a3 FUEL 6 (Nat.le_refl _) (by rw [fuel_s]; omega) 0 a b ha hb
              have hho' : lp_X0_holders_11 (x8_covering (p8_covering s s0)) FUEL 0 (nI a) (nI b) 0 = some (nI (Gd (tb6 T) (wt X) (wt Y) 6 a b)) := by
                rw [Nat.zero_mul, Nat.zero_add] at hho
                exact hho
              unfold sem_X0_holders
              rw [hho', bs, bs]
              exact ⟨_, _, _, rfl, by rw [h2], hRR⟩
          · rw [e1, e2]; exact ⟨_, _, _, rfl, rfl, hR⟩
        · rw [e1, e2]; exact ⟨_, _, _, rfl, rfl, hR⟩
      · rw [e1, e2]; exact ⟨_, _, _, rfl, rfl, hR⟩
    · rw [e1, e2]; exact ⟨_, _, _, rfl, rfl, hR⟩
  · rw [e1, e2]; exact ⟨_, _, _, rfl, rfl, hR⟩
