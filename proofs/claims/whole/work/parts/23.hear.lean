/-! sets of ones as bits; who hears -/
def mk6 (P : Nat → Bool) : Nat := (P 0).toNat + 2 * (P 1).toNat + 4 * (P 2).toNat + 8 * (P 3).toNat + 16 * (P 4).toNat + 32 * (P 5).toNat
def rs (P : Nat → Bool) (j : Nat) : Nat → Bool := fun i => P i && decide (i < j)
theorem mk6_lt (P : Nat → Bool) : mk6 P < 64 := by
  unfold mk6
  have h0 := Bool.toNat_le (P 0)
  have h1 := Bool.toNat_le (P 1)
  have h2 := Bool.toNat_le (P 2)
  have h3 := Bool.toNat_le (P 3)
  have h4 := Bool.toNat_le (P 4)
  have h5 := Bool.toNat_le (P 5)
  omega
theorem mk6_b : ∀ p0 p1 p2 p3 p4 p5 : Bool, ∀ i, i < 6 → (p0.toNat + 2 * p1.toNat + 4 * p2.toNat + 8 * p3.toNat + 16 * p4.toNat + 32 * p5.toNat).testBit i = (if i = 0 then p0 else if i = 1 then p1 else if i = 2 then p2 else if i = 3 then p3 else if i = 4 then p4 else p5) := by decide +kernel
theorem mk6_bit (P : Nat → Bool) {i : Nat} (hi : i < 6) : (mk6 P).testBit i = P i := by
  unfold mk6
  rw [mk6_b _ _ _ _ _ _ i hi]
  match i, hi with
  | 0, _ => rfl
  | 1, _ => rfl
  | 2, _ => rfl
  | 3, _ => rfl
  | 4, _ => rfl
  | 5, _ => rfl
  | i + 6, h => omega
theorem mk6_s : ∀ p0 p1 p2 p3 p4 p5 : Bool, ∀ j, j < 6 →
  ((p0 && decide (0 < j + 1)).toNat + 2 * (p1 && decide (1 < j + 1)).toNat + 4 * (p2 && decide (2 < j + 1)).toNat + 8 * (p3 && decide (3 < j + 1)).toNat + 16 * (p4 && decide (4 < j + 1)).toNat + 32 * (p5 && decide (5 < j + 1)).toNat) =
  (if (if j = 0 then p0 else if j = 1 then p1 else if j = 2 then p2 else if j = 3 then p3 else if j = 4 then p4 else p5) = true then ((p0 && decide (0 < j)).toNat + 2 * (p1 && decide (1 < j)).toNat + 4 * (p2 && decide (2 < j)).toNat + 8 * (p3 && decide (3 < j)).toNat + 16 * (p4 && decide (4 < j)).toNat + 32 * (p5 && decide (5 < j)).toNat) ||| 1 <<< j else ((p0 && decide (0 < j)).toNat + 2 * (p1 && decide (1 < j)).toNat + 4 * (p2 && decide (2 < j)).toNat + 8 * (p3 && decide (3 < j)).toNat + 16 * (p4 && decide (4 < j)).toNat + 32 * (p5 && decide (5 < j)).toNat)) := by decide +kernel
theorem sel6 (P : Nat → Bool) {j : Nat} (hj : j < 6) : (if j = 0 then P 0 else if j = 1 then P 1 else if j = 2 then P 2 else if j = 3 then P 3 else if j = 4 then P 4 else P 5) = P j := by
  match j, hj with
  | 0, _ => rfl
  | 1, _ => rfl
  | 2, _ => rfl
  | 3, _ => rfl
  | 4, _ => rfl
  | 5, _ => rfl
  | j + 6, h => omega
theorem mk6_step (P : Nat → Bool) {j : Nat} (hj : j < 6) : mk6 (rs P (j + 1)) = if P j = true then mk6 (rs P j) ||| 1 <<< j else mk6 (rs P j) := by
  have h := mk6_s (P 0) (P 1) (P 2) (P 3) (P 4) (P 5) j hj
  rw [sel6 P hj] at h
  exact h
theorem mk6_0 (P : Nat → Bool) : mk6 (rs P 0) = 0 := by simp [mk6, rs]
theorem mk6_6 (P : Nat → Bool) : mk6 (rs P 6) = mk6 P := by simp [mk6, rs]
theorem mk6_T {T : Nat} (hT : T < 64) : mk6 (fun i => T.testBit i) = T := by
  revert hT; revert T
  decide +kernel
/-- the bit of j joins the set or not, as a number of the machine -/
theorem mk6_or (P : Nat → Bool) {j : Nat} (hj : j < 6) (h : P j = true) : nI (mk6 (rs P j)) ||| ((1 : Int32) <<< (nI j &&& 31)) = nI (mk6 (rs P (j + 1))) := by
  rw [bit_or _ (mk6_lt _) j hj, mk6_step P hj, if_pos h]
theorem mk6_no (P : Nat → Bool) {j : Nat} (hj : j < 6) (h : ¬ P j = true) : nI (mk6 (rs P j)) = nI (mk6 (rs P (j + 1))) := by
  rw [mk6_step P hj, if_neg h]
def NV (x : Int32) : Nat := x.toNatClampNeg
theorem NV_n {k : Nat} (h : k < 2 ^ 31) : NV (nI k) = k := nI_clamp h
theorem NV_of {x : Int32} {v b : Nat} (hb : b < 2 ^ 31) (h : v ≤ b) (e : x = nI v) : x = nI (NV x) ∧ NV x ≤ b := by
  subst e; rw [NV_n (by omega)]; exact ⟨rfl, h⟩
/-- how far apart -/
def far (a b : Nat) : Nat := (a - b) + (b - a)
theorem near_x : ∀ a, a < 10 → ∀ b, b < 10 → ∀ e, e < 10 → (nI e < jabs (nI a - nI b) ↔ ¬ far b a ≤ e) := by decide +kernel
theorem near_m : ∀ a, a < 10 → ∀ b, b < 10 → ∀ e, e < 10 → ((nI e < nI b - nI a ∨ nI e < -(nI b - nI a)) ↔ ¬ far b a ≤ e) := by decide +kernel
def hp (T e : Nat) (Y : Nat → Nat) (k : Nat) : Nat → Bool := fun i => !(i == k) && (T.testBit i && decide (far (Y i) (Y k) ≤ e))
theorem nI_inj6 {i k : Nat} (hi : i < 6) (hk : k < 6) : (nI i = nI k) ↔ i = k := nI_eq (by omega) (by omega)
theorem hear_xl {t : S6} {T e : Nat} {Y : Nat → Nat} (hT : T < 64) (hth : x6_there t = nI T) (he : e ≤ 9) (hea : x6_ears t = nI e) (hY : ∀ i, i < 6 → x6_facts t (i * 6 + 4) = nI (Y i) ∧ Y i ≤ 9) {k : Nat} (hk : k < 6) :
    ∀ n j, j ≤ 6 → 7 ≤ n + j → lp_X6_hearers_12 (nI k) (nI (Y k)) t n (nI (mk6 (rs (hp T e Y k) j))) (nI j) = some (nI (mk6 (hp T e Y k))) := by
  intro n
  induction n with
  | zero => intro j h1 h2; omega
  | succ n ih =>
    intro j h1 h2
    show bd_X6_hearers_12 (nI k) (nI (Y k)) t (lp_X6_hearers_12 (nI k) (nI (Y k)) t n) _ _ = _
    unfold bd_X6_hearers_12
    by_cases hj : j = 6
    · subst hj
      rw [if_pos (by decide), mk6_6]
    · have hj6 : j < 6 := by omega
      rw [if_neg (no6 hj6), nI_1]
      have hb : hp T e Y k j = (!(j == k) && (T.testBit j && decide (far (Y j) (Y k) ≤ e))) := rfl
      by_cases c1 : j = k
      · rw [if_pos ((nI_inj6 hj6 hk).mpr c1), mk6_no _ hj6 (by rw [hb]; simp [c1])]
        exact ih (j + 1) (by omega) (by omega)
      · rw [if_neg (fun z => c1 ((nI_inj6 hj6 hk).mp z)), has_n hT hth hj6, bs]
        by_cases c2 : T.testBit j = true
        · rw [if_pos c2, if_neg one_ne, get_l hj6 4 (by decide) 4 rfl, bs, (hY j hj6).1, hea]
          have hn := near_x (Y k) (by have := (hY k hk).2; omega) (Y j) (by have := (hY j hj6).2; omega) e (by omega)
          by_cases c3 : far (Y j) (Y k) ≤ e
          · rw [if_neg (fun z => hn.mp z c3), mk6_or _ hj6 (by rw [hb]; simp [c1, c2, c3])]
            exact ih (j + 1) (by omega) (by omega)
          · rw [if_pos (hn.mpr c3), mk6_no _ hj6 (by rw [hb]; simp [c3])]
            exact ih (j + 1) (by omega) (by omega)
        · rw [if_neg c2, if_pos rfl, mk6_no _ hj6 (by rw [hb]; simp [c2])]
          exact ih (j + 1) (by omega) (by omega)
theorem hear_x {t : S6} {T e : Nat} {Y : Nat → Nat} (hT : T < 64) (hth : x6_there t = nI T) (he : e ≤ 9) (hea : x6_ears t = nI e) (hY : ∀ i, i < 6 → x6_facts t (i * 6 + 4) = nI (Y i) ∧ Y i ≤ 9) {k : Nat} (hk : k < 6) : sem_X6_hearers (nI k) t = some (nI (mk6 (hp T e Y k))) := by
  unfold sem_X6_hearers
  rw [get_l hk 4 (by decide) 4 rfl, bs, (hY k hk).1]
  have h := hear_xl hT hth he hea hY hk FUEL 0 (by omega) (by decide)
  rw [mk6_0] at h
  rw [show (0 : Int32) = nI 0 from rfl, h]
  rfl
theorem near_n {m : S9} {e : Nat} {Y : Nat → Nat} (he : e ≤ 9) (hea : x9_ears m = nI e) (hY : ∀ i, i < 6 → x9_yard m i = nI (Y i) ∧ Y i ≤ 9) {k j : Nat} (hk : k < 6) (hj : j < 6) : sem_X9_isNear (nI j) (nI k) m = some (if far (Y j) (Y k) ≤ e then 1 else 0) := by
  unfold sem_X9_isNear
  rw [ck_in (vp_in_nI (by omega) (by decide)), ck_in (vp_in_nI (by omega) (by decide)), tcl (by omega), tcl (by omega), (hY j hj).1, (hY k hk).1, hea]
  have hn := near_m (Y k) (by have := (hY k hk).2; omega) (Y j) (by have := (hY j hj).2; omega) e (by omega)
  by_cases c : far (Y j) (Y k) ≤ e
  · rw [if_neg (fun z => hn.mp (Or.inl z) c), if_neg (fun z => hn.mp (Or.inr z) c), if_pos c]
  · rw [if_neg c]
    rcases hn.mpr c with z | z
    · rw [if_pos z]
    · by_cases z2 : nI e < nI (Y j) - nI (Y k)
      · rw [if_pos z2]
      · rw [if_neg z2, if_pos z]
theorem hear_ml {m : S9} {T e : Nat} {Y : Nat → Nat} (hT : T < 64) (hth : x9_there m = nI T) (he : e ≤ 9) (hea : x9_ears m = nI e) (hY : ∀ i, i < 6 → x9_yard m i = nI (Y i) ∧ Y i ≤ 9) {k : Nat} (hk : k < 6) :
    ∀ n j, j ≤ 6 → 7 ≤ n + j → lp_X9_heardBy_4 (nI k) m n (nI (mk6 (rs (hp T e Y k) j))) (nI j) = some (nI (mk6 (hp T e Y k))) := by
  intro n
  induction n with
  | zero => intro j h1 h2; omega
  | succ n ih =>
    intro j h1 h2
    show bd_X9_heardBy_4 (nI k) m (lp_X9_heardBy_4 (nI k) m n) _ _ = _
    unfold bd_X9_heardBy_4
    by_cases hj : j = 6
    · subst hj
      rw [if_pos (by decide), mk6_6]
    · have hj6 : j < 6 := by omega
      have hb : hp T e Y k j = (!(j == k) && (T.testBit j && decide (far (Y j) (Y k) ≤ e))) := rfl
      rw [if_neg (no6 hj6), nI_1, isOne_n hT hth hj6, bs, Int32.or_zero]
      by_cases c2 : T.testBit j = true
      · rw [if_pos c2, if_neg one_ne]
        by_cases c1 : j = k
        · rw [if_pos ((nI_inj6 hj6 hk).mpr c1), mk6_no _ hj6 (by rw [hb]; simp [c1])]
          exact ih (j + 1) (by omega) (by omega)
        · rw [if_neg (fun z => c1 ((nI_inj6 hj6 hk).mp z)), near_n he hea hY hk hj6, bs]
          by_cases c3 : far (Y j) (Y k) ≤ e
          · rw [if_pos c3, if_neg one_ne, mk6_or _ hj6 (by rw [hb]; simp [c1, c2, c3])]
            exact ih (j + 1) (by omega) (by omega)
          · rw [if_neg c3, if_pos rfl, mk6_no _ hj6 (by rw [hb]; simp [c3])]
            exact ih (j + 1) (by omega) (by omega)
      · rw [if_neg c2, if_pos rfl, mk6_no _ hj6 (by rw [hb]; simp [c2])]
        exact ih (j + 1) (by omega) (by omega)
theorem hear_m {m : S9} {T e : Nat} {Y : Nat → Nat} (hT : T < 64) (hth : x9_there m = nI T) (he : e ≤ 9) (hea : x9_ears m = nI e) (hY : ∀ i, i < 6 → x9_yard m i = nI (Y i) ∧ Y i ≤ 9) {k : Nat} (hk : k < 6) : sem_X9_heardBy (nI k) m = some (nI (mk6 (hp T e Y k))) := by
  unfold sem_X9_heardBy
  have h := hear_ml hT hth he hea hY hk FUEL 0 (by omega) (by decide)
  rw [mk6_0] at h
  rw [show (0 : Int32) = nI 0 from rfl, h]
  rfl
/-- the yards of the town, of both sides -/
theorem yards {t : S6} {m : S9} (h : RTm t m) : ∃ (T e : Nat) (Y : Nat → Nat), T < 64 ∧ x6_there t = nI T ∧ x9_there m = nI T ∧ e ≤ 9 ∧ x6_ears t = nI e ∧ x9_ears m = nI e ∧ (∀ i, i < 6 → x6_facts t (i * 6 + 4) = nI (Y i) ∧ Y i ≤ 9) ∧ (∀ i, i < 6 → x9_yard m i = nI (Y i) ∧ Y i ≤ 9) := by
  obtain ⟨T, l, e, c, b1, b2, b3, b4, b5, b6, b7, b8, b9, c0, c1, c2, c3, c4, c5, d1, d2⟩ := h.2
  have hy : ∀ i, i < 6 → x9_yard m i = nI (NV (x9_yard m i)) ∧ NV (x9_yard m i) ≤ 9 := fun i hi => by
    obtain ⟨v, v1, v2⟩ := c4 i hi
    exact NV_of (by decide) v1 v2
  exact ⟨T, e, fun i => NV (x9_yard m i), b1, h.1.1.trans b2, b2, b6, h.1.2.2.1.trans b7, b7, fun i hi => ⟨(h.1.2.2.2.2.1 i hi 4 (by decide)).trans (hy i hi).1, (hy i hi).2⟩, hy⟩
theorem ok_hears : hF_hears RR := by
  intro x1 s m j0 j1 hR
  unfold sem_X8_hears sem_X9_hears
  obtain ⟨T, e, Y, b1, b2, b3, b4, b5, b6, b7, b8⟩ := yards hR.1
  rcases gone x1 b1 b2 b3 with ⟨k, hk, rfl, hbit, e1, e2⟩ | ⟨e1, e2⟩
  · rw [e1, e2, bs, bs, if_neg one_ne, if_neg one_ne, hear_x b1 b2 b4 b5 b7 hk, hear_m b1 b3 b4 b6 b8 hk]
    exact ⟨_, rfl, rfl, hR⟩
  · rw [e1, e2]; exact ⟨_, rfl, rfl, hR⟩
