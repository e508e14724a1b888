/-! risk: hours, the sum, the divisor -/
theorem z021 : vp_in (0 : Int32) 21 := vp_in_nI (n := 0) (by decide) (by decide)
theorem AL.z (f : Nat → Int64) (h : ∀ i, i < 21 → f i = 0) : AL f (fun _ => 0) := fun i hi => h i hi
theorem sm_z : ∀ n, sm (fun _ => 0) n = 0 := by
  intro n
  induction n with
  | zero => rfl
  | succ n ih => show sm (fun _ => 0) n + 0 = 0; rw [ih]
/-- one hour on both sides -/
def HR (o : S2) (m : S9) (l : Nat) (h : Nat) : Prop := ∃ p M, x2_limit o = nI l ∧ x9_limit m = nI l ∧ AL (x2_parts o) p ∧ AL (x9_parts m) p ∧ x2_whole o = lN (10 ^ h) ∧ x2_slips o = lN M ∧ x9_meanParts m = lN M ∧ sm p 21 ≤ 10 ^ h ∧ M ≤ h * 10 ^ h
theorem one_hour {l w t g h : Nat} (hl : l ≤ 20) (h1 : 1 ≤ w) (hw : w ≤ 9) (ht : t ≤ 10) (hg : g ≤ 1) {o : S2} {m : S9} (hH : HR o m l h) : ∃ o2 m2, sem_X2_passHour (nI w) (nI t) (nI g) o = some o2 ∧ sem_X9_riskHour (nI w) (nI t) (nI g) m = some m2 ∧ HR o2 m2 l (h + 1) ∧ coreM m2 = coreM m := by
  obtain ⟨p, M, e1, e2, e3, e4, e5, e6, e7, e8, e9⟩ := hH
  obtain ⟨P, a1, a2⟩ := zero_c (nI w) (nI t) (nI g) FUEL 0 (by decide) (by rw [fuel_s]; omega) o
  obtain ⟨Q, b1, b2⟩ := zero_m (nI w) (nI t) (nI g) FUEL 0 (by decide) (by rw [fuel_s]; omega) m
  have a3 : AL P (fun _ => 0) := AL.z P (fun i hi => by rw [a2 i hi, if_pos (Nat.zero_le _)])
  have b3 : AL Q (fun _ => 0) := AL.z Q (fun i hi => by rw [b2 i hi, if_pos (Nat.zero_le _)])
  have em : x9_meanParts (p9_meanParts (p9_partsThen m Q) (x9_meanParts (p9_partsThen m Q) * 10)) = lN (M * 10 + 0) := by
    show x9_meanParts m * 10 = _
    rw [e7]
    exact lN_mul M 10
  obtain ⟨N, R, A2, B2, sl2, c1, c2, c3, c4, c5, c6⟩ := hour_lp hl h1 hw ht hg (M * 10) p FUEL 0 (Nat.zero_le _) (by rw [fuel_s]; omega) (fun _ => 0) (fun _ => 0) 0 (p2_next o P) (p9_meanParts (p9_partsThen m Q) (x9_meanParts (p9_partsThen m Q) * 10)) e1 e2 e3 e4 a3 b3 em (fun i => by split <;> rfl) (by rw [sm_z]; rfl)
  have c1' : lp_X2_passHour_30 (nI w) (nI t) (nI g) FUEL 0 0 (p2_next o P) = some (lN sl2, p2_next (p2_next o P) N) := c1
  have c2' : lp_X9_riskHour_39 (nI w) (nI t) (nI g) FUEL 0 (p9_meanParts (p9_partsThen m Q) (x9_meanParts (p9_partsThen m Q) * 10)) = some (p9_partsThen (p9_meanParts (p9_meanParts (p9_partsThen m Q) (x9_meanParts (p9_partsThen m Q) * 10)) (lN (M * 10 + sl2))) R) := c2
  obtain ⟨V, d1, d2⟩ := copy_m FUEL 0 (by decide) (by rw [fuel_s]; omega) (p9_partsThen (p9_meanParts (p9_meanParts (p9_partsThen m Q) (x9_meanParts (p9_partsThen m Q) * 10)) (lN (M * 10 + sl2))) R)
  have a1' : lp_X2_passHour_3 (nI w) (nI t) (nI g) FUEL 0 o = some (p2_next o P) := a1
  have b1' : lp_X9_riskHour_3 (nI w) (nI t) (nI g) FUEL 0 m = some (p9_partsThen m Q) := b1
  have d1' : lp_X9_riskHour_177 FUEL 0 (p9_partsThen (p9_meanParts (p9_meanParts (p9_partsThen m Q) (x9_meanParts (p9_partsThen m Q) * 10)) (lN (M * 10 + sl2))) R) = some (p9_parts (p9_partsThen (p9_meanParts (p9_meanParts (p9_partsThen m Q) (x9_meanParts (p9_partsThen m Q) * 10)) (lN (M * 10 + sl2))) R) V) := d1
  have hV : AL V B2 := fun i hi => by rw [d2 i hi, if_pos (Nat.zero_le _)]; exact c4 i hi
  have hsl : sm p (l + 1) ≤ sm p 21 := sm_mono p _ _ (by omega)
  have hB : sm B2 21 ≤ 10 ^ (h + 1) := by
    have hb2 : sm B2 21 ≤ sm A2 21 + sl2 := by
      by_cases x : g = 1
      · have : sm B2 21 = sm (upN A2 0 (A2 0 + sl2)) 21 := sm_congr _ _ 21 (fun i hi => by
          rw [c5 i]
          unfold upN
          by_cases y : i = 0
          · rw [if_pos ⟨y, x⟩, if_pos y, y]
          · rw [if_neg (fun z => y z.1), if_neg y]; rfl)
        rw [this, sm_up _ _ _ 21 (by decide)]
        exact Nat.le_refl _
      · have : sm B2 21 = sm A2 21 := sm_congr _ _ 21 (fun i hi => by rw [c5 i, if_neg (fun z => x z.2)]; rfl)
        omega
    rw [Nat.pow_succ]
    omega
  have hM : M * 10 + sl2 ≤ (h + 1) * 10 ^ (h + 1) := by
    have h2 : sl2 ≤ 10 * 10 ^ h := by omega
    have h3 : M * 10 ≤ h * 10 ^ h * 10 := Nat.mul_le_mul_right 10 e9
    have h4 : (h + 1) * 10 ^ (h + 1) = h * 10 ^ h * 10 + 10 * 10 ^ h := by
      rw [Nat.pow_succ, Nat.add_mul, Nat.one_mul, Nat.mul_assoc, Nat.mul_comm 10 (10 ^ h)]
    omega
  have hN : ∀ (X : Nat → Int64), AL X B2 → AL (va_cpy X (x2_parts o) 0 0 21) B2 := fun X hX i hi => by
    rw [pk_cpy_in (by omega) (by omega), show 0 + (i - 0) = i by omega]
    exact hX i hi
  have ew : lN (10 ^ h) * 10 = lN (10 ^ (h + 1)) := by rw [Nat.pow_succ]; exact lN_mul (10 ^ h) 10
  have es : lN M * 10 + lN sl2 = lN (M * 10 + sl2) := by rw [← lN_add, ← lN_mul]; rfl
  have hX9 : sem_X9_riskHour (nI w) (nI t) (nI g) m = some (p9_parts (p9_partsThen (p9_meanParts (p9_meanParts (p9_partsThen m Q) (x9_meanParts (p9_partsThen m Q) * 10)) (lN (M * 10 + sl2))) R) V) := by
    unfold sem_X9_riskHour
    rw [b1', bs, c2', bs, d1', bs]
  have hg2 : g = 0 ∨ g = 1 := by omega
  rcases hg2 with rfl | rfl
  · refine ⟨jn_X2_passHour_144 (lN sl2) (p2_next (p2_next o P) N) |>.getD o, _, ?_, hX9, ⟨B2, M * 10 + sl2, ?_⟩, rfl⟩
    · unfold sem_X2_passHour
      rw [a1', bs, c1', bs, if_pos (show nI 0 = 0 from rfl)]
      rfl
    · refine ⟨e1, e2, hN N (fun i hi => ?_), hV, ?_, ?_, rfl, hB, hM⟩
      · rw [c3 i hi, c5 i, if_neg (fun z => by cases z.2)]; rfl
      · show x2_whole o * 10 = _
        rw [e5, ew]
      · show x2_slips o * 10 + lN sl2 = _
        rw [e6, es]
  · refine ⟨jn_X2_passHour_144 (lN sl2) (p2_next (p2_next (p2_next o P) N) (vp_updL N 0 (N 0 + lN sl2))) |>.getD o, _, ?_, hX9, ⟨B2, M * 10 + sl2, ?_⟩, rfl⟩
    · unfold sem_X2_passHour
      rw [a1', bs, c1', bs, if_neg (show ¬ nI 1 = 0 by decide), ck_in z021]
      rfl
    · refine ⟨e1, e2, hN (vp_updL N 0 (N 0 + lN sl2)) (fun i hi => ?_), hV, ?_, ?_, rfl, hB, hM⟩
      · rw [c5 i]
        by_cases y : i = 0
        · subst y
          rw [pk_uLs, if_pos ⟨rfl, rfl⟩, c3 0 (by decide), lN_add]
        · rw [pk_uLn y, if_neg (fun z => y z.1), c3 i hi]; rfl
      · show x2_whole o * 10 = _
        rw [e5, ew]
      · show x2_slips o * 10 + lN sl2 = _
        rw [e6, es]
theorem od_p (s : S8) (o : S2) : x8_odds (p8_odds s o) = o := rfl
theorem od_q (s : S8) (o q : S2) : p8_odds (p8_odds s o) q = p8_odds s q := rfl
theorem hours_lp (s : S8) {l w t g mm : Nat} (hl : l ≤ 20) (h1 : 1 ≤ w) (hw : w ≤ 9) (ht : t ≤ 10) (hg : g ≤ 1) (hm : mm ≤ 8) (x6 : Int32) : ∀ n h, h ≤ mm → mm + 1 ≤ n + h → ∀ o m, HR o m l h → ∃ o2 m2, lp_X8_risk_88 (nI mm) (nI w) (nI t) (nI g) x6 n (nI h) (p8_odds s o) = some (p8_odds s o2) ∧ lp_X9_risk_134 (nI mm) (nI w) (nI t) (nI g) x6 n (lN (10 ^ h)) (nI h) m = some (lN (10 ^ mm), m2) ∧ HR o2 m2 l mm ∧ coreM m2 = coreM m := by
  intro n
  induction n with
  | zero => intro h q1 q2; omega
  | succ n ih =>
    intro h q1 q2 o m hH
    show ∃ o2 m2, bd_X8_risk_88 (nI mm) (nI w) (nI t) (nI g) x6 (lp_X8_risk_88 (nI mm) (nI w) (nI t) (nI g) x6 n) (nI h) (p8_odds s o) = _ ∧ bd_X9_risk_134 (nI mm) (nI w) (nI t) (nI g) x6 (lp_X9_risk_134 (nI mm) (nI w) (nI t) (nI g) x6 n) (lN (10 ^ h)) (nI h) m = _ ∧ _
    unfold bd_X8_risk_88 bd_X9_risk_134 jn_X9_risk_155
    by_cases q : h = mm
    · subst q
      rw [if_pos (nI_le (Nat.le_refl _) (by omega)), if_pos (nI_le (Nat.le_refl _) (by omega))]
      exact ⟨o, m, rfl, rfl, hH, rfl⟩
    · rw [if_neg (nI_ge (by omega) (by omega)), if_neg (nI_ge (by omega) (by omega)), od_p]
      obtain ⟨o2, m2, a1, a2, a3, a4⟩ := one_hour hl h1 hw ht hg hH
      obtain ⟨o3, m3, b1, b2, b3, b4⟩ := ih (h + 1) (by omega) (by omega) o2 m2 a3
      have ew : lN (10 ^ h) * 10 = lN (10 ^ (h + 1)) := by rw [Nat.pow_succ]; exact lN_mul (10 ^ h) 10
      refine ⟨o3, m3, ?_, ?_, b3, b4.trans a4⟩
      · have hg2 : g = 0 ∨ g = 1 := by omega
        rcases hg2 with rfl | rfl
        · have a1' : sem_X2_passHour (nI w) (nI t) 0 o = some o2 := a1
          rw [if_neg (show ¬ nI 0 = 1 by decide), a1', bs, od_q, nI_1]
          exact b1
        · have a1' : sem_X2_passHour (nI w) (nI t) 1 o = some o2 := a1
          rw [if_pos (show nI 1 = 1 from rfl), a1', bs, od_q, nI_1]
          exact b1
      · have hg2 : g = 0 ∨ g = 1 := by omega
        rcases hg2 with rfl | rfl
        · have a2' : sem_X9_riskHour (nI w) (nI t) 0 m = some m2 := a2
          rw [if_neg (show ¬ nI 0 = 1 by decide), a2', bs, ew, nI_1]
          exact b2
        · have a2' : sem_X9_riskHour (nI w) (nI t) 1 m = some m2 := a2
          rw [if_pos (show nI 1 = 1 from rfl), a2', bs, ew, nI_1]
          exact b2
theorem calm_c {o : S2} {p : Nat → Nat} (h : AL (x2_parts o) p) : ∀ n j, j ≤ 21 → 22 ≤ n + j → lp_X2_calm_4 o n (lN (sm p j)) (nI j) = some (lN (sm p 21)) := by
  intro n
  induction n with
  | zero => intro j h1 h2; omega
  | succ n ih =>
    intro j h1 h2
    show bd_X2_calm_4 o (lp_X2_calm_4 o n) (lN (sm p j)) (nI j) = _
    unfold bd_X2_calm_4
    by_cases q : j = 21
    · rw [if_pos ((c20 j h1).1.mpr q), q]
    · rw [if_neg (fun z => q ((c20 j h1).1.mp z)), ck_in (vp_in_nI (by omega) (by decide)), tcl (by omega), nI_1, h j (by omega), lN_add]
      exact ih (j + 1) (by omega) (by omega)
theorem calm_m {m : S9} {p : Nat → Nat} (h : AL (x9_parts m) p) (x5 x6 : Int32) (x8 : Int64) : ∀ n j, j ≤ 21 → 22 ≤ n + j → lp_X9_risk_178 x5 x6 x8 m n (lN (sm p j)) (nI j) = some (lN (sm p 21)) := by
  intro n
  induction n with
  | zero => intro j h1 h2; omega
  | succ n ih =>
    intro j h1 h2
    show bd_X9_risk_178 x5 x6 x8 m (lp_X9_risk_178 x5 x6 x8 m n) (lN (sm p j)) (nI j) = _
    unfold bd_X9_risk_178
    by_cases q : j = 21
    · rw [if_pos ((c20 j h1).2.mpr q), q]
    · rw [if_neg (fun z => q ((c20 j h1).2.mp z)), ck_in (vp_in_nI (by omega) (by decide)), tcl (by omega), nI_1, h j (by omega), lN_add]
      exact ih (j + 1) (by omega) (by omega)
/-! the greatest divisor -/
theorem gc1 (a b : Nat) : Nat.gcd a b = Nat.gcd b (a % b) := by rw [Nat.gcd_comm a b, Nat.gcd_rec, Nat.gcd_comm]
theorem lz {b : Nat} (hb : b < 2 ^ 63) : (lN b = 0) ↔ b = 0 := pk_lEQ hb (by decide)
theorem gc_c0 {a k : Nat} (n : Nat) (hk : k < 1000) : lp_X8_commonDivisor_9 (n + 1) (lN a) (lN 0) (nI k) = some (lN a) := by
  show bd_X8_commonDivisor_9 (lp_X8_commonDivisor_9 n) (lN a) (lN 0) (nI k) = _
  unfold bd_X8_commonDivisor_9
  rw [if_neg (show ¬ (1000 : Int32) ≤ nI k from nI_ge hk (by decide)), if_pos ((lg_cmp_eq (lN 0) 0).mpr rfl)]
theorem gc_c1 {a b k : Nat} (n : Nat) (hk : k < 1000) (ha : a < 2 ^ 63) (hb : b < 2 ^ 63) (h0 : 0 < b) : lp_X8_commonDivisor_9 (n + 1) (lN a) (lN b) (nI k) = lp_X8_commonDivisor_9 n (lN b) (lN (a % b)) (nI (k + 1)) := by
  show bd_X8_commonDivisor_9 (lp_X8_commonDivisor_9 n) (lN a) (lN b) (nI k) = _
  unfold bd_X8_commonDivisor_9 dzl
  rw [if_neg (show ¬ (1000 : Int32) ≤ nI k from nI_ge hk (by decide)), if_neg (fun z => by have := (lz hb).mp ((lg_cmp_eq _ _).mp z); omega), if_neg (fun z => by have := (lz hb).mp z; omega), jreml_n ha h0 hb, nI_1]
theorem half {a b : Nat} (h0 : 0 < b) (h1 : 0 < a % b) {N : Nat} (hN : b < 2 ^ (N + 1)) : b % (a % b) < 2 ^ N := by
  have h2 : a % b < b := Nat.mod_lt _ h0
  have h3 : b % (a % b) < a % b := Nat.mod_lt _ h1
  have h4 : b % (a % b) ≤ b - a % b := by
    rw [Nat.mod_eq_sub_mod (by omega)]
    exact Nat.mod_le _ _
  rw [Nat.pow_succ] at hN
  omega
theorem gc_c : ∀ N n k a b, b < 2 ^ N → a < 2 ^ 63 → b < 2 ^ 63 → 2 * N + 1 ≤ n → k + 2 * N < 1000 → lp_X8_commonDivisor_9 n (lN a) (lN b) (nI k) = some (lN (Nat.gcd a b)) := by
  intro N
  induction N with
  | zero =>
    intro n k a b h1 h2 h3 h4 h5
    obtain ⟨n', rfl⟩ : ∃ n', n = n' + 1 := ⟨n - 1, by omega⟩
    have hb : b = 0 := by rw [Nat.pow_zero] at h1; omega
    subst hb
    rw [gc_c0 n' (by omega), Nat.gcd_zero_right]
  | succ N ih =>
    intro n k a b h1 h2 h3 h4 h5
    obtain ⟨n', rfl⟩ : ∃ n', n = n' + 1 + 1 := ⟨n - 2, by omega⟩
    by_cases q : b = 0
    · subst q
      rw [gc_c0 (n' + 1) (by omega), Nat.gcd_zero_right]
    · have hr : a % b < b := Nat.mod_lt _ (by omega)
      rw [gc_c1 (n' + 1) (by omega) h2 h3 (by omega), gc1]
      by_cases q2 : a % b = 0
      · rw [q2, gc_c0 n' (by omega), Nat.gcd_zero_right]
      · rw [gc_c1 n' (by omega) h3 (by omega) (by omega), gc1 b]
        have h6 := half (a := a) (b := b) (by omega) (by omega) h1
        exact ih n' (k + 1 + 1) _ _ h6 (by omega) (Nat.lt_of_lt_of_le (Nat.mod_lt _ (by omega)) (by omega)) (by omega) (by omega)
theorem gc_m0 {a : Nat} (x0 x2 : Int64) (x4 : Int32) (n : Nat) : lp_X9_lowest_6 x0 x2 x4 (n + 1) (lN a) (lN 0) = some (lN a) := by
  show bd_X9_lowest_6 x0 x2 x4 (lp_X9_lowest_6 x0 x2 x4 n) (lN a) (lN 0) = _
  unfold bd_X9_lowest_6
  rw [if_pos ((lg_cmp_eq (lN 0) 0).mpr rfl)]
theorem gc_m1 {a b : Nat} (x0 x2 : Int64) (x4 : Int32) (n : Nat) (ha : a < 2 ^ 63) (hb : b < 2 ^ 63) (h0 : 0 < b) : lp_X9_lowest_6 x0 x2 x4 (n + 1) (lN a) (lN b) = lp_X9_lowest_6 x0 x2 x4 n (lN b) (lN (a % b)) := by
  show bd_X9_lowest_6 x0 x2 x4 (lp_X9_lowest_6 x0 x2 x4 n) (lN a) (lN b) = _
  unfold bd_X9_lowest_6 dzl
  rw [if_neg (fun z => by have := (lz hb).mp ((lg_cmp_eq _ _).mp z); omega), if_neg (fun z => by have := (lz hb).mp z; omega), jreml_n ha h0 hb]
theorem gc_m (x0 x2 : Int64) (x4 : Int32) : ∀ N n a b, b < 2 ^ N → a < 2 ^ 63 → b < 2 ^ 63 → 2 * N + 1 ≤ n → lp_X9_lowest_6 x0 x2 x4 n (lN a) (lN b) = some (lN (Nat.gcd a b)) := by
  intro N
  induction N with
  | zero =>
    intro n a b h1 h2 h3 h4
    obtain ⟨n', rfl⟩ : ∃ n', n = n' + 1 := ⟨n - 1, by omega⟩
    have hb : b = 0 := by rw [Nat.pow_zero] at h1; omega
    subst hb
    rw [gc_m0 x0 x2 x4 n', Nat.gcd_zero_right]
  | succ N ih =>
    intro n a b h1 h2 h3 h4
    obtain ⟨n', rfl⟩ : ∃ n', n = n' + 1 + 1 := ⟨n - 2, by omega⟩
    by_cases q : b = 0
    · subst q
      rw [gc_m0 x0 x2 x4 (n' + 1), Nat.gcd_zero_right]
    · have hr : a % b < b := Nat.mod_lt _ (by omega)
      rw [gc_m1 x0 x2 x4 (n' + 1) h2 h3 (by omega), gc1]
      by_cases q2 : a % b = 0
      · rw [q2, gc_m0 x0 x2 x4 n', Nat.gcd_zero_right]
      · rw [gc_m1 x0 x2 x4 n' h3 (by omega) (by omega), gc1 b]
        have h6 := half (a := a) (b := b) (by omega) (by omega) h1
        exact ih n' _ _ h6 (by omega) (Nat.lt_of_lt_of_le (Nat.mod_lt _ (by omega)) (by omega)) (by omega)
theorem cd_n {U A : Nat} (hU : U < 2 ^ 63) (hA : A < 2 ^ 63) (h0 : 0 < A) : sem_X8_commonDivisor (lN U) (lN A) = some (lN (Nat.gcd U A)) := by
  unfold sem_X8_commonDivisor
  rw [show (0 : Int32) = nI 0 from rfl, gc_c 63 FUEL 0 U A hA hU hA (by rw [fuel_s]; omega) (by decide), bs]
  have hg : 0 < Nat.gcd U A := Nat.gcd_pos_of_pos_right _ h0
  have hg2 : Nat.gcd U A ≤ A := Nat.gcd_le_right _ h0
  unfold jmaxl
  rw [if_neg (fun z => by
    have := (pk_lLT (a := Nat.gcd U A) (b := 1) (by omega) (by decide)).mp z
    omega)]
theorem low_n {U A : Nat} (hU : U < 2 ^ 63) (hA : A < 2 ^ 63) (h0 : 0 < A) (q : Nat) : sem_X9_lowest (lN U) (lN A) (nI q) = (if nI q = 0 then some (lN U / lN (Nat.gcd U A)) else some (lN A / lN (Nat.gcd U A))) := by
  unfold sem_X9_lowest
  rw [gc_m (lN U) (lN A) (nI q) 63 FUEL A U hU hA hU (by rw [fuel_s]; omega), bs, Nat.gcd_comm A U]
  have hg : 0 < Nat.gcd U A := Nat.gcd_pos_of_pos_right _ h0
  have hg2 : Nat.gcd U A ≤ A := Nat.gcd_le_right _ h0
  have hz : ¬ lN (Nat.gcd U A) = 0 := fun z => by have := (lz (by omega)).mp z; omega
  unfold dzl
  rw [if_neg hz, if_neg hz]
theorem frac_n (s : S8) {U A : Nat} (hU : U < 2 ^ 63) (hA : A < 2 ^ 63) (h0 : 0 < A) (hw : x2_whole (x8_odds s) = lN A) (q : Nat) : jn_X8_risk_143 (nI q) (lN U) s = (if nI q = 0 then some (lN U / lN (Nat.gcd U A), s) else some (lN A / lN (Nat.gcd U A), s)) := by
  unfold jn_X8_risk_143 jn_X8_risk_162
  rw [hw, cd_n hU hA h0, bs, bs]
  have hg : 0 < Nat.gcd U A := Nat.gcd_pos_of_pos_right _ h0
  have hg2 : Nat.gcd U A ≤ A := Nat.gcd_le_right _ h0
  have hz : ¬ lN (Nat.gcd U A) = 0 := fun z => by have := (lz (by omega)).mp z; omega
  unfold dzl
  rw [if_neg hz, if_neg hz]
theorem bnd : ∀ h, h ≤ 8 → 10 ^ h ≤ 100000000 ∧ h * 10 ^ h ≤ 800000000 ∧ 0 < 10 ^ h := by decide
theorem R55 (x1 x2 x3 x4 x5 x6 : Int32) (m : S9) : jn_X9_risk_55 x1 x2 x3 x4 x5 x6 m = some (-1000000000000000002, m) := rfl
theorem ok_risk : hF_risk RR := by
  intro x1 x2 x3 x4 x5 x6 s m j0 j1 hR
  obtain ⟨T, l, e, c, b1, b2, b3, b4, b5, -⟩ := hR.1.2
  have hlx : x6_limit (x8_town s) = nI l := hR.1.1.2.1.trans b5
  unfold sem_X8_risk sem_X9_risk
  rw [hlx, b5]
  rcases gd x1 0 l (by decide) (by omega) (a := 0) (b := (nI l).toInt64) (A := 0) (B := nI l) rfl (nI_l (by omega)) rfl rfl with ⟨v, -, hv, rfl, e1, e2⟩ | ⟨e1, e2, -⟩
  · rw [e1, e2, bs, bs, if_neg one_ne, if_neg one_ne]
    rcases gd x2 0 8 (by decide) (by decide) (a := 0) (b := 8) (A := 0) (B := 8) rfl rfl rfl rfl with ⟨mm, -, hmm, rfl, e1, e2⟩ | ⟨e1, e2, -⟩
    · rw [e1, e2, bs, bs, if_neg one_ne, if_neg one_ne]
      rcases gd x3 1 9 (by decide) (by decide) (a := 1) (b := 9) (A := 1) (B := 9) rfl rfl rfl rfl with ⟨w, hw1, hw, rfl, e1, e2⟩ | ⟨e1, e2, -⟩
      · rw [e1, e2, bs, bs, if_neg one_ne, if_neg one_ne]
        rcases gd x4 0 10 (by decide) (by decide) (a := 0) (b := 10) (A := 0) (B := 10) rfl rfl rfl rfl with ⟨t, -, ht, rfl, e1, e2⟩ | ⟨e1, e2, -⟩
        · rw [e1, e2, bs, bs, if_neg one_ne, if_neg one_ne]
          unfold jn_X9_risk_56
          rw [if_neg one_ne]
          rcases gd x5 0 1 (by decide) (by decide) (a := 0) (b := 1) (A := 0) (B := 1) rfl rfl rfl rfl with ⟨g, -, hg, rfl, e1, e2⟩ | ⟨e1, e2, -⟩
          · rw [e1, e2, bs, bs, if_neg one_ne, if_neg one_ne]
            rcases gd x6 0 1 (by decide) (by decide) (a := 0) (b := 1) (A := 0) (B := 1) rfl rfl rfl rfl with ⟨pt, -, hpt, rfl, e1, e2⟩ | ⟨e1, e2, -⟩
            · rw [e1, e2, bs, bs, if_neg one_ne, if_neg one_ne]
              obtain ⟨P, a1, a2⟩ := first_c v (by omega) FUEL 0 (by decide) (by rw [fuel_s]; omega) (p2_slips (p2_whole (p2_limit (x8_odds s) (jmin (nI l) 20)) 1) 0)
              obtain ⟨Q, c1, c2⟩ := first_m (nI mm) (nI w) (nI t) (nI g) (nI pt) v (by omega) FUEL 0 (by decide) (by rw [fuel_s]; omega) m
              have eb : sem_X2_begin (nI v) (nI l) (x8_odds s) = some (p2_parts (p2_slips (p2_whole (p2_limit (x8_odds s) (jmin (nI l) 20)) 1) 0) P) := by
                unfold sem_X2_begin
                rw [show (0 : Int32) = nI 0 from rfl, a1]
                rfl
              have hl20 : jmin (nI l) 20 = nI l := by
                rw [show (20 : Int32) = nI 20 from rfl, jmin_n (by omega) (by decide), Nat.min_eq_left b4]
              have hsm : sm (fun i => if i = v then 1 else 0) 21 = 1 := by
                have h0 : sm (fun i => if i = v then 1 else 0) 21 = sm (upN (fun _ => 0) v (0 + 1)) 21 := sm_congr _ _ 21 (fun i hi => rfl)
                rw [h0]
                have := sm_up (fun _ => 0) v 1 21 (by omega)
                rw [sm_z] at this
                exact this
              have hH : HR (p2_parts (p2_slips (p2_whole (p2_limit (x8_odds s) (jmin (nI l) 20)) 1) 0) P) (p9_meanParts (p9_parts m Q) 0) l 0 :=
                ⟨fun i => if i = v then 1 else 0, 0, hl20, b5, fun i hi => by
                  show P i = _
                  rw [a2 i hi, if_pos (Nat.zero_le _)], fun i hi => by
                  show Q i = _
                  rw [c2 i hi, if_pos (Nat.zero_le _)], rfl, rfl, rfl, by rw [hsm]; exact Nat.le_refl _, Nat.le_of_eq (by simp)⟩
              obtain ⟨o3, m3, d1, d2, ⟨p, M, f1, f2, f3, f4, f5, f6, f7, f8, f9⟩, d4⟩ := hours_lp s b4 hw1 hw ht hg hmm (nI pt) FUEL 0 (Nat.zero_le _) (by rw [fuel_s]; omega) _ _ hH
              have d1' : lp_X8_risk_88 (nI mm) (nI w) (nI t) (nI g) (nI pt) FUEL 0 (p8_odds s (p2_parts (p2_slips (p2_whole (p2_limit (x8_odds s) (jmin (nI l) 20)) 1) 0) P)) = some (p8_odds s o3) := d1
              have d2' : lp_X9_risk_134 (nI mm) (nI w) (nI t) (nI g) (nI pt) FUEL 1 0 (p9_meanParts (p9_parts m Q) 0) = some (lN (10 ^ mm), m3) := d2
              have c1' : lp_X9_risk_92 (nI v) (nI mm) (nI w) (nI t) (nI g) (nI pt) FUEL 0 m = some (p9_parts m Q) := c1
              have k1 : sem_X2_calm o3 = some (lN (sm p 21)) := by
                unfold sem_X2_calm
                have := calm_c f3 FUEL 0 (by decide) (by rw [fuel_s]; omega)
                have t2 : lp_X2_calm_4 o3 FUEL 0 0 = some (lN (sm p 21)) := this
                rw [t2]; rfl
              have k2 : lp_X9_risk_178 (nI g) (nI pt) (lN (10 ^ mm)) m3 FUEL 0 0 = some (lN (sm p 21)) := calm_m f4 _ _ _ FUEL 0 (by decide) (by rw [fuel_s]; omega)
              obtain ⟨n1, n2, n3⟩ := bnd mm hmm
              have hRR : RR (p8_odds s o3) m3 j0 j1 := (hR.core (m2 := m3) d4).coreX rfl rfl (fun _ _ _ => rfl) (fun _ _ _ => rfl)
              rw [eb, bs, d1', bs, c1', bs, d2', bs, od_p]
              show ∃ r s2 m2, _ = some (r, s2) ∧ ((lp_X9_risk_178 (nI g) (nI pt) (lN (10 ^ mm)) m3 FUEL 0 0).bind fun o14 => _) = some (r, m2) ∧ _
              rw [k2, bs, k1, bs, f6]
              have hg2 : g = 0 ∨ g = 1 := by omega
              rcases hg2 with rfl | rfl
              · rw [if_pos (show nI 0 = 0 from rfl), if_pos (show nI 0 = 0 from rfl)]
                have hw2 := frac_n (p8_odds s o3) (U := sm p 21) (A := 10 ^ mm) (by omega) (by omega) n3 f5 pt
                rw [hw2]
                show ∃ r s2 m2, _ = some (r, s2) ∧ ((sem_X9_lowest (lN (sm p 21)) (lN (10 ^ mm)) (nI pt)).bind fun r18 => some (r18, m3)) = some (r, m2) ∧ _
                rw [low_n (by omega) (by omega) n3]
                by_cases q : nI pt = 0
                · rw [if_pos q, if_pos q]; exact ⟨_, _, _, rfl, rfl, hRR⟩
                · rw [if_neg q, if_neg q]; exact ⟨_, _, _, rfl, rfl, hRR⟩
              · rw [if_neg (show ¬ nI 1 = 0 by decide), if_neg (show ¬ nI 1 = 0 by decide)]
                have hw2 := frac_n (p8_odds s o3) (U := M) (A := 10 ^ mm) (by omega) (by omega) n3 f5 pt
                rw [hw2]
                show ∃ r s2 m2, _ = some (r, s2) ∧ ((sem_X9_lowest (x9_meanParts m3) (lN (10 ^ mm)) (nI pt)).bind fun r16 => some (r16, m3)) = some (r, m2) ∧ _
                rw [f7, low_n (by omega) (by omega) n3]
                by_cases q : nI pt = 0
                · rw [if_pos q, if_pos q]; exact ⟨_, _, _, rfl, rfl, hRR⟩
                · rw [if_neg q, if_neg q]; exact ⟨_, _, _, rfl, rfl, hRR⟩
            · rw [e1, e2]; exact ⟨_, _, _, rfl, rfl, hR⟩
          · rw [e1, e2]; exact ⟨_, _, _, rfl, rfl, hR⟩
        · rw [e1, e2]; exact ⟨_, _, _, rfl, rfl, hR⟩
      · rw [e1, e2]; exact ⟨_, _, _, rfl, rfl, hR⟩
    · rw [e1, e2]; exact ⟨_, _, _, rfl, rfl, hR⟩
  · rw [e1, e2]; exact ⟨_, _, _, rfl, rfl, hR⟩
