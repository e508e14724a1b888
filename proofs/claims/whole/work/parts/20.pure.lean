/-! PURE HALF: numbers -/
theorem l0 : (0 : Int64) = lN 0 := rfl
theorem in_eq (a b c : Int64) : sem_X9_in a b c = some (if b ≤ a ∧ a ≤ c then 1 else 0) := by
  unfold sem_X9_in
  simp only [lg_cmp_lt, lg_cmp_gt]
  by_cases h1 : a < b
  · rw [if_pos h1, if_neg (fun h => absurd h1 (Int64.not_lt.mpr h.1))]
  · rw [if_neg h1]
    by_cases h2 : c < a
    · rw [if_pos h2, if_neg (fun h => absurd h2 (Int64.not_lt.mpr h.2))]
    · rw [if_neg h2, if_pos ⟨Int64.not_lt.mp h1, Int64.not_lt.mp h2⟩]
theorem within_eq (a b c : Int32) : sem_X8_within a b c = some (if b ≤ a ∧ a ≤ c then 1 else 0) := by
  unfold sem_X8_within
  by_cases h1 : a < b
  · rw [if_pos h1, if_neg (fun h => absurd h1 (Int32.not_lt.mpr h.1))]
  · rw [if_neg h1]
    by_cases h2 : c < a
    · rw [if_pos h2, if_neg (fun h => absurd h2 (Int32.not_lt.mpr h.2))]
    · rw [if_neg h2, if_pos ⟨Int32.not_lt.mp h1, Int32.not_lt.mp h2⟩]
theorem wide_le (a b : Int32) : a.toInt64 ≤ b.toInt64 ↔ a ≤ b := by
  rw [Int64.le_iff_toInt_le, Int32.le_iff_toInt_le, Int32.toInt_toInt64, Int32.toInt_toInt64]
/-- a number within two bounds, or not: for both sides at once -/
theorem gd (x : Int32) (lo hi : Nat) (hlo : lo < 2 ^ 31) (hhi : hi < 2 ^ 31) {a b : Int64} {A B : Int32} (ha : a = lN lo) (hb : b = lN hi) (hA : A = nI lo) (hB : B = nI hi) :
    (∃ j : Nat, lo ≤ j ∧ j ≤ hi ∧ x = nI j ∧ sem_X9_in x.toInt64 a b = some 1 ∧ sem_X8_within x A B = some 1) ∨ (sem_X9_in x.toInt64 a b = some 0 ∧ sem_X8_within x A B = some 0 ∧ ¬ (nI lo ≤ x ∧ x ≤ nI hi)) := by
  subst ha; subst hb; subst hA; subst hB
  rw [in_eq, within_eq, ← nI_l hlo, ← nI_l hhi]
  simp only [wide_le]
  by_cases h : nI lo ≤ x ∧ x ≤ nI hi
  · rw [if_pos h]
    obtain ⟨h1, h2⟩ := h
    have h0 : ¬ x < 0 := by
      intro h3
      have h4 : (0 : Int32) ≤ nI lo := nI_pos' hlo
      rw [Int32.lt_iff_toInt_lt] at h3
      rw [Int32.le_iff_toInt_le] at h4 h1
      omega
    obtain ⟨j, hj, rfl⟩ := nI_of h0
    rw [nI_leI hlo hj] at h1
    rw [nI_leI hj hhi] at h2
    exact Or.inl ⟨j, h1, h2, rfl, rfl, rfl⟩
  · rw [if_neg h]
    exact Or.inr ⟨rfl, rfl, h⟩
theorem one_ne : ¬ ((1 : Int32) = 0) := by decide
/-- the bits of the town -/
theorem bit_n : ∀ T, T < 64 → ∀ k, k < 6 → ((nI T >>> (nI k &&& 31)) &&& 1 = 1 ↔ T.testBit k = true) := by decide +kernel
theorem bit_or : ∀ T, T < 64 → ∀ k, k < 6 → nI T ||| ((1 : Int32) <<< (nI k &&& 31)) = nI (T ||| 1 <<< k) := by decide +kernel
theorem bit_or_lt : ∀ T, T < 64 → ∀ k, k < 6 → T ||| 1 <<< k < 64 := by decide +kernel
theorem bit_clr : ∀ T, T < 64 → ∀ k, k < 6 → nI T &&& (((1 : Int32) <<< (nI k &&& 31)) ^^^ (-1 : Int32)) = nI (T - (T &&& 1 <<< k)) := by decide +kernel
theorem bit_ort : ∀ T, T < 64 → ∀ k, k < 6 → ∀ i, i < 6 → ((T ||| 1 <<< k).testBit i = true ↔ (i = k ∨ T.testBit i = true)) := by decide +kernel
theorem bit_clrt : ∀ T, T < 64 → ∀ k, k < 6 → ∀ i, i < 6 → ((T - (T &&& 1 <<< k)).testBit i = true ↔ (i ≠ k ∧ T.testBit i = true)) := by decide +kernel
def pop6 (T : Nat) : Nat := (if T.testBit 0 then 1 else 0) + (if T.testBit 1 then 1 else 0) + (if T.testBit 2 then 1 else 0) + (if T.testBit 3 then 1 else 0) + (if T.testBit 4 then 1 else 0) + (if T.testBit 5 then 1 else 0)
theorem cnt_x : ∀ T, T < 64 → sem_J6_bitCount_0f7a4 (nI T) = some (nI (pop6 T)) := by decide +kernel
theorem lp_ones_s (n : Nat) (x1 x2 : Int32) : lp_X9_ones_4 (n + 1) x1 x2 = (if (x2 : Int32) = 0 then (some x1) else lp_X9_ones_4 n (x1 + 1) (x2 &&& (x2 - 1))) := rfl
def fuel_s : FUEL = 4000 + 96 := rfl
theorem cnt_m0 : ∀ T, T < 64 → lp_X9_ones_4 8 0 (nI T) = some (nI (pop6 T)) := by decide +kernel
theorem lp_ones_m : ∀ (n k : Nat) (x1 x2 r : Int32), lp_X9_ones_4 n x1 x2 = some r → lp_X9_ones_4 (n + k) x1 x2 = some r := by
  intro n
  induction n with
  | zero => intro k x1 x2 r h; cases h
  | succ n ih =>
    intro k x1 x2 r h
    rw [show n + 1 + k = (n + k) + 1 by omega, lp_ones_s]
    rw [lp_ones_s] at h
    by_cases c : x2 = 0
    · rw [if_pos c] at h ⊢; exact h
    · rw [if_neg c] at h ⊢; exact ih k _ _ _ h
theorem cnt_m (T : Nat) (h : T < 64) : sem_X9_ones (nI T) = some (nI (pop6 T)) := by
  unfold sem_X9_ones
  rw [show FUEL = 8 + 4088 from rfl, lp_ones_m 8 4088 _ _ _ (cnt_m0 T h)]
  rfl
theorem bs {α β : Type} (a : α) (f : α → Option β) : (some a).bind f = f a := rfl
theorem no6 {k : Nat} (h : k < 6) : ¬ (6 : Int32) ≤ nI k := nI_ge h (by decide)
theorem no0 {k : Nat} (h : k < 2 ^ 31) : ¬ nI k < 0 := nI_pos h
theorem fl_s {A : Type} (f : Nat → A) : f FUEL = f (4095 + 1) := rfl
