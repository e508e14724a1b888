/-! cover: the class's table -/
theorem jmax_no {a : Nat} (ha : a < 2 ^ 31) : jmax (nI a) (-6) = nI a := by
  unfold jmax
  have h : ¬ nI a < -6 := by
    intro z
    rw [Int32.lt_iff_toInt_lt, nI_toInt ha, show (-6 : Int32).toInt = -6 from by decide] at z
    omega
  rw [if_neg h]
theorem mo_n (s : S0) {w a b : Nat} (hw : w ≤ 6) (ha : a ≤ 6) (hb : b ≤ 6) : sem_X0_mostFrom (nI w) (nI a) (nI b) s = some (x0_most s ((w * 7 + a) * 7 + b)) := by
  unfold sem_X0_mostFrom
  have e : (nI w * 7 + nI a) * 7 + nI b = nI ((w * 7 + a) * 7 + b) := by
    rw [show nI w * 7 = nI (w * 7) from pk_mul w 7, nI_add, show nI (w * 7 + a) * 7 = nI ((w * 7 + a) * 7) from pk_mul (w * 7 + a) 7, nI_add]
  rw [wn (A := 0) (B := 6) w 0 6 (Nat.zero_le _) hw (by decide) rfl rfl, bs, if_neg one_ne, wn (A := 0) (B := 6) a 0 6 (Nat.zero_le _) ha (by decide) rfl rfl, bs, if_neg one_ne, wn (A := 0) (B := 6) b 0 6 (Nat.zero_le _) hb (by decide) rfl rfl, bs, if_neg one_ne, e, ck_in (vp_in_nI (by omega) (by decide)), tcl (by omega)]
def tb6 (T : Nat) : Nat → Bool := fun n => T.testBit (5 - n)
/-- the row of n ones left -/
def RO (s : S0) (T X Y n : Nat) : Prop := ∀ a b, a ≤ 6 → b ≤ 6 → x0_most s (((6 - n) * 7 + a) * 7 + b) = nI (Mx (tb6 T) (wt X) (wt Y) n a b)
def HD (s : S0) (T X Y : Nat) : Prop := x0_there s = nI T ∧ x0_first s = nI X ∧ x0_second s = nI Y
theorem bf_n {s : S0} {T X Y n a b : Nat} (hH : HD s T X Y) (hX : X < 2 ^ 31) (hn : n < 6) (ha : a ≤ 6) (hb : b ≤ 6) (hR : RO s T X Y n) : sem_X0_byFirst (nI (5 - n)) (nI a) (nI b) s = some (if 0 < a then nI (wt X n + Mx (tb6 T) (wt X) (wt Y) n (a - 1) b) else -6) := by
  unfold sem_X0_byFirst
  by_cases q : 0 < a
  · rw [if_neg (nI_nle q (by omega)), if_pos q, hH.2.1, dig_n hX (by omega), bs, nI_1, show 5 - n + 1 = 6 - n by omega, show nI a - 1 = nI (a - 1) by rw [show a = a - 1 + 1 by omega, nI_pred]; rfl, mo_n s (by omega) (by omega) hb, bs, hR (a - 1) b (by omega) hb, nI_add, show 5 - (5 - n) = n by omega]
    rfl
  · rw [show a = 0 by omega, if_pos (show nI 0 ≤ 0 by decide), if_neg (by decide)]
theorem bse_n {s : S0} {T X Y n a b : Nat} (hH : HD s T X Y) (hY : Y < 2 ^ 31) (hn : n < 6) (ha : a ≤ 6) (hb : b ≤ 6) (hR : RO s T X Y n) : sem_X0_bySecond (nI (5 - n)) (nI a) (nI b) s = some (if 0 < b then nI (wt Y n + Mx (tb6 T) (wt X) (wt Y) n a (b - 1)) else -6) := by
  unfold sem_X0_bySecond
  by_cases q : 0 < b
  · rw [if_neg (nI_nle q (by omega)), if_pos q, hH.2.2, dig_n hY (by omega), bs, nI_1, show 5 - n + 1 = 6 - n by omega, show nI b - 1 = nI (b - 1) by rw [show b = b - 1 + 1 by omega, nI_pred]; rfl, mo_n s (by omega) ha (by omega), bs, hR a (b - 1) ha (by omega), nI_add, show 5 - (5 - n) = n by omega]
    rfl
  · rw [show b = 0 by omega, if_pos (show nI 0 ≤ 0 by decide), if_neg (by decide)]
theorem be_n {s : S0} {T X Y n a b : Nat} (hT6 : T < 64) (hH : HD s T X Y) (hX : X < 2 ^ 31) (hY : Y < 2 ^ 31) (hn : n < 6) (ha : a ≤ 6) (hb : b ≤ 6) (hR : RO s T X Y n) : sem_X0_best (nI (5 - n)) (nI a) (nI b) s = some (nI (Mx (tb6 T) (wt X) (wt Y) (n + 1) a b)) := by
  unfold sem_X0_best
  have hB := Mx_le (tb6 T) (wt X) (wt Y) (wt_le X) (wt_le Y) n
  have hx := wt_le X n
  have hy := wt_le Y n
  have h1 := hB a b
  have h2 := hB (a - 1) b
  have h3 := hB a (b - 1)
  rw [nI_1, show 5 - n + 1 = 6 - n by omega, mo_n s (by omega) ha hb, bs, hR a b ha hb, hH.1]
  have hM : Mx (tb6 T) (wt X) (wt Y) (n + 1) a b = if tb6 T n = true then max (max (Mx (tb6 T) (wt X) (wt Y) n a b) (if 0 < a then wt X n + Mx (tb6 T) (wt X) (wt Y) n (a - 1) b else 0)) (if 0 < b then wt Y n + Mx (tb6 T) (wt X) (wt Y) n a (b - 1) else 0) else Mx (tb6 T) (wt X) (wt Y) n a b := rfl
  have hbit := bit_n T hT6 (5 - n) (by omega)
  by_cases c : T.testBit (5 - n) = true
  · have c2 : tb6 T n = true := c
    rw [if_pos (hbit.mpr c), bf_n hH hX hn ha hb hR, bs, bse_n hH hY hn ha hb hR, bs, hM, if_pos c2]
    by_cases p : 0 < a
    · rw [if_pos p, if_pos p, jmax_n (by omega) (by omega)]
      by_cases q : 0 < b
      · rw [if_pos q, if_pos q, jmax_n (by omega) (by omega)]
      · rw [if_neg q, if_neg q, jmax_no (by omega), Nat.max_eq_left (Nat.zero_le _)]
    · rw [if_neg p, if_neg p, jmax_no (by omega), Nat.max_eq_left (Nat.zero_le _)]
      by_cases q : 0 < b
      · rw [if_pos q, if_pos q, jmax_n (by omega) (by omega)]
      · rw [if_neg q, if_neg q, jmax_no (by omega), Nat.max_eq_left (Nat.zero_le _)]
  · have c2 : ¬ tb6 T n = true := c
    rw [if_neg (fun z => c (hbit.mp z)), hM, if_neg c2]
theorem le7 : ∀ j, j ≤ 7 → ((7 : Int32) ≤ nI j ↔ j = 7) := by decide +kernel
theorem b_lp {T X Y n a : Nat} (hT6 : T < 64) (hX : X < 2 ^ 31) (hY : Y < 2 ^ 31) (hn : n < 6) (ha : a ≤ 6) (t : S6) : ∀ f b, b ≤ 7 → 8 ≤ f + b → ∀ s : S0, HD s T X Y → RO s T X Y n → ∃ P, lp_X0_reckon_39 (nI (5 - n)) (nI a) t f (nI b) s = some (p0_most s P) ∧ (∀ q, ¬ (((5 - n) * 7 + a) * 7 + b ≤ q ∧ q ≤ ((5 - n) * 7 + a) * 7 + 6) → P q = x0_most s q) ∧ ∀ i, b ≤ i → i ≤ 6 → P (((5 - n) * 7 + a) * 7 + i) = nI (Mx (tb6 T) (wt X) (wt Y) (n + 1) a i) := by
  intro f
  induction f with
  | zero => intro b h1 h2; omega
  | succ f ih =>
    intro b h1 h2 s hH hR
    show ∃ P, bd_X0_reckon_39 (nI (5 - n)) (nI a) t (lp_X0_reckon_39 (nI (5 - n)) (nI a) t f) (nI b) s = _ ∧ _
    unfold bd_X0_reckon_39
    by_cases q : b = 7
    · rw [if_pos ((le7 b h1).mpr q)]
      exact ⟨x0_most s, rfl, fun _ _ => rfl, fun i p1 p2 => by omega⟩
    · have e : (nI (5 - n) * 7 + nI a) * 7 + nI b = nI (((5 - n) * 7 + a) * 7 + b) := by
        rw [show nI (5 - n) * 7 = nI ((5 - n) * 7) from pk_mul (5 - n) 7, nI_add, show nI ((5 - n) * 7 + a) * 7 = nI (((5 - n) * 7 + a) * 7) from pk_mul ((5 - n) * 7 + a) 7, nI_add]
      rw [if_neg (fun z => q ((le7 b h1).mp z)), be_n hT6 hH hX hY hn ha (by omega) hR, bs, e, ck_in (vp_in_nI (by omega) (by decide)), tcl (by omega), nI_1]
      obtain ⟨z0, hz0⟩ : ∃ z0, z0 = nI (Mx (tb6 T) (wt X) (wt Y) (n + 1) a b) := ⟨_, rfl⟩
      rw [← hz0]
      have hR2 : RO (p0_most s (upd (x0_most s) (((5 - n) * 7 + a) * 7 + b) z0)) T X Y n := by
        intro a' b' p1 p2
        show upd (x0_most s) (((5 - n) * 7 + a) * 7 + b) z0 _ = _
        rw [pk_un (by omega)]
        exact hR a' b' p1 p2
      obtain ⟨P, g1, g2, g3⟩ := ih (b + 1) (by omega) (by omega) (p0_most s (upd (x0_most s) (((5 - n) * 7 + a) * 7 + b) z0)) hH hR2
      refine ⟨P, g1, fun q hq => ?_, fun i p1 p2 => ?_⟩
      · rw [g2 q (by omega)]
        show upd (x0_most s) (((5 - n) * 7 + a) * 7 + b) z0 q = _
        rw [pk_un (by omega)]
      · by_cases w : i = b
        · subst w
          rw [g2 _ (by omega), ← hz0]
          exact pk_us
        · exact g3 i (by omega) p2
theorem a_lp {T X Y n : Nat} (hT6 : T < 64) (hX : X < 2 ^ 31) (hY : Y < 2 ^ 31) (hn : n < 6) (t : S6) : ∀ f a, a ≤ 7 → 8 ≤ f + a → ∀ s : S0, HD s T X Y → RO s T X Y n → ∃ P, lp_X0_reckon_29 (nI (5 - n)) t f (nI a) s = some (p0_most s P) ∧ (∀ q, ¬ (((5 - n) * 7 + a) * 7 ≤ q ∧ q ≤ ((5 - n) * 7 + 6) * 7 + 6) → P q = x0_most s q) ∧ ∀ i j, a ≤ i → i ≤ 6 → j ≤ 6 → P (((5 - n) * 7 + i) * 7 + j) = nI (Mx (tb6 T) (wt X) (wt Y) (n + 1) i j) := by
  intro f
  induction f with
  | zero => intro a h1 h2; omega
  | succ f ih =>
    intro a h1 h2 s hH hR
    show ∃ P, bd_X0_reckon_29 (nI (5 - n)) t (lp_X0_reckon_29 (nI (5 - n)) t f) (nI a) s = _ ∧ _
    unfold bd_X0_reckon_29
    by_cases q : a = 7
    · rw [if_pos ((le7 a h1).mpr q)]
      exact ⟨x0_most s, rfl, fun _ _ => rfl, fun i j p1 p2 => by omega⟩
    · obtain ⟨P1, a1, a2, a3⟩ := b_lp (a := a) hT6 hX hY hn (by omega) t FUEL 0 (by decide) (by rw [fuel_s]; omega) s hH hR
      have a1' : lp_X0_reckon_39 (nI (5 - n)) (nI a) t FUEL 0 s = some (p0_most s P1) := a1
      rw [if_neg (fun z => q ((le7 a h1).mp z)), a1', bs, nI_1]
      have hR2 : RO (p0_most s P1) T X Y n := by
        intro a' b' p1 p2
        show P1 _ = _
        rw [a2 _ (by omega)]
        exact hR a' b' p1 p2
      obtain ⟨P, g1, g2, g3⟩ := ih (a + 1) (by omega) (by omega) (p0_most s P1) hH hR2
      refine ⟨P, g1, fun q hq => ?_, fun i j p1 p2 p3 => ?_⟩
      · rw [g2 q (by omega)]
        exact a2 q (by omega)
      · by_cases w : i = a
        · subst w
          rw [g2 _ (by omega)]
          exact a3 j (Nat.zero_le _) p3
        · exact g3 i j (by omega) p2 p3
theorem who_lp {T X Y : Nat} (hT6 : T < 64) (hX : X < 2 ^ 31) (hY : Y < 2 ^ 31) (t : S6) : ∀ f H, H ≤ 6 → 7 ≤ f + H → ∀ s : S0, HD s T X Y → (∀ n, n ≤ H → RO s T X Y n) → ∃ s2, lp_X0_reckon_21 t f (nI (6 - H) - 1) s = some s2 ∧ HD s2 T X Y ∧ (∀ n, n ≤ 6 → RO s2 T X Y n) ∧ ∀ q, 294 ≤ q → x0_most s2 q = x0_most s q := by
  intro f
  induction f with
  | zero => intro H h1 h2; omega
  | succ f ih =>
    intro H h1 h2 s hH hR
    show ∃ s2, bd_X0_reckon_21 t (lp_X0_reckon_21 t f) (nI (6 - H) - 1) s = _ ∧ _
    unfold bd_X0_reckon_21
    by_cases q : H = 6
    · subst q
      rw [if_pos (by decide)]
      exact ⟨s, rfl, hH, hR, fun _ _ => rfl⟩
    · obtain ⟨P, a1, a2, a3⟩ := a_lp hT6 hX hY (show H < 6 by omega) t FUEL 0 (by decide) (by rw [fuel_s]; omega) s hH (hR H (Nat.le_refl _))
      have a1' : lp_X0_reckon_29 (nI (5 - H)) t FUEL 0 s = some (p0_most s P) := a1
      rw [show 6 - H = (5 - H) + 1 by omega, nI_pred, if_neg (no0 (by omega)), a1', bs]
      have hR2 : ∀ n, n ≤ H + 1 → RO (p0_most s P) T X Y n := by
        intro n hn a b p1 p2
        show P _ = _
        by_cases z : n = H + 1
        · subst z
          rw [show 6 - (H + 1) = 5 - H by omega]
          exact a3 a b (Nat.zero_le _) p1 p2
        · rw [a2 _ (by omega)]
          exact hR n (by omega) a b p1 p2
      obtain ⟨s2, g1, g2, g3, g4⟩ := ih (H + 1) (by omega) (by omega) (p0_most s P) hH hR2
      rw [show 6 - (H + 1) = 5 - H by omega] at g1
      refine ⟨s2, g1, g2, g3, fun q hq => ?_⟩
      rw [g4 q hq]
      exact a2 q (by omega)
theorem reck0 {T X Y : Nat} (hT6 : T < 64) (hX : X < 2 ^ 31) (hY : Y < 2 ^ 31) {t : S6} (ht : x6_there t = nI T) (s : S0) (hz : ∀ q, 294 ≤ q → q < 343 → x0_most s q = 0) : ∃ s2, sem_X0_reckon (nI X) (nI Y) s t = some s2 ∧ HD s2 T X Y ∧ (∀ n, n ≤ 6 → RO s2 T X Y n) ∧ ∀ q, 294 ≤ q → x0_most s2 q = x0_most s q := by
  obtain ⟨s2, g1, g2, g3, g4⟩ := who_lp hT6 hX hY t FUEL 0 (Nat.zero_le _) (by rw [fuel_s]; omega) (p0_second (p0_first (p0_there s (x6_there t)) (nI X)) (nI Y)) ⟨ht, rfl, rfl⟩ (fun n hn a b p1 p2 => by
    have h0 : n = 0 := by omega
    subst h0
    exact hz _ (by omega) (by omega))
  have g1' : lp_X0_reckon_21 t FUEL 5 (p0_second (p0_first (p0_there s (x6_there t)) (nI X)) (nI Y)) = some s2 := g1
  refine ⟨s2, ?_, g2, g3, g4⟩
  unfold sem_X0_reckon
  rw [g1', bs]
theorem n6_ne {a : Nat} (ha : a < 2 ^ 31) : ¬ (-6 : Int32) = nI a := fun z => by
  have h := congrArg Int32.toInt z
  rw [nI_toInt ha, show (-6 : Int32).toInt = -6 from by decide] at h
  omega
theorem hold_lp {s : S0} {T X Y : Nat} (hT6 : T < 64) (hX : X < 2 ^ 31) (hY : Y < 2 ^ 31) (hH : HD s T X Y) (hR : ∀ n, n ≤ 6 → RO s T X Y n) : ∀ f n, n ≤ 6 → n + 1 ≤ f → ∀ num a b, a ≤ 6 → b ≤ 6 → lp_X0_holders_11 s f (nI num) (nI a) (nI b) (nI (6 - n)) = some (nI (num * 10 ^ n + Gd (tb6 T) (wt X) (wt Y) n a b)) := by
  intro f
  induction f with
  | zero => intro n h1 h2; omega
  | succ f ih =>
    intro n h1 h2 num a b ha hb
    show bd_X0_holders_11 s (lp_X0_holders_11 s f) (nI num) (nI a) (nI b) (nI (6 - n)) = _
    unfold bd_X0_holders_11
    cases n with
    | zero =>
      rw [if_pos (by decide), Nat.pow_zero, Nat.mul_one]
      rfl
    | succ n =>
      have hn : n < 6 := by omega
      have hB := Mx_le (tb6 T) (wt X) (wt Y) (wt_le X) (wt_le Y)
      have h1' := hB n (a - 1) b
      have h2' := hB n a (b - 1)
      have h3' := hB (n + 1) a b
      have hx := wt_le X n
      have hy := wt_le Y n
      have hG : Gd (tb6 T) (wt X) (wt Y) (n + 1) a b = if tb6 T n = true then (if 0 < a ∧ wt X n + Mx (tb6 T) (wt X) (wt Y) n (a - 1) b = Mx (tb6 T) (wt X) (wt Y) (n + 1) a b then Gd (tb6 T) (wt X) (wt Y) n (a - 1) b else if 0 < b ∧ wt Y n + Mx (tb6 T) (wt X) (wt Y) n a (b - 1) = Mx (tb6 T) (wt X) (wt Y) (n + 1) a b then 1 * 10 ^ n + Gd (tb6 T) (wt X) (wt Y) n a (b - 1) else 2 * 10 ^ n + Gd (tb6 T) (wt X) (wt Y) n a b) else 3 * 10 ^ n + Gd (tb6 T) (wt X) (wt Y) n a b := rfl
      have hnum : ∀ h g, (10 * num + h) * 10 ^ n + g = num * 10 ^ (n + 1) + (h * 10 ^ n + g) := by
        intro h g
        rw [Nat.pow_succ, Nat.add_mul, Nat.mul_comm 10 num, Nat.mul_assoc, Nat.mul_comm 10 (10 ^ n), Nat.add_assoc]
      have e10 : ∀ h, (10 : Int32) * nI num + nI h = nI (10 * num + h) := fun h => by
        rw [show (10 : Int32) * nI num = nI (10 * num) from pk_mul 10 num, nI_add]
      rw [show 6 - (n + 1) = 5 - n by omega, if_neg (no6 (by omega)), mo_n s (by omega) ha hb, bs, hH.1]
      have hr := hR (n + 1) (by omega) a b ha hb
      rw [show 6 - (n + 1) = 5 - n by omega] at hr
      rw [hr, hG]
      by_cases c : T.testBit (5 - n) = true
      · have c2 : tb6 T n = true := c
        rw [if_neg (fun z => (q6 T hT6 (5 - n) (by omega)).mp z c), if_pos c2, bf_n hH hX hn ha hb (hR n (by omega)), bs, bse_n hH hY hn ha hb (hR n (by omega))]
        by_cases p : 0 < a ∧ wt X n + Mx (tb6 T) (wt X) (wt Y) n (a - 1) b = Mx (tb6 T) (wt X) (wt Y) (n + 1) a b
        · rw [if_pos p, if_pos p.1, p.2, if_pos rfl, show nI a - 1 = nI (a - 1) by rw [show a = a - 1 + 1 by omega, nI_pred]; rfl, nI_1, show (5 - n) + 1 = 6 - n by omega, show (10 : Int32) * nI num + 0 = nI (10 * num + 0) from e10 0, ih n (by omega) (by omega) (10 * num + 0) (a - 1) b (by omega) hb, hnum, Nat.zero_mul, Nat.zero_add]
        · have e0 : ¬ (if 0 < a then nI (wt X n + Mx (tb6 T) (wt X) (wt Y) n (a - 1) b) else (-6 : Int32)) = nI (Mx (tb6 T) (wt X) (wt Y) (n + 1) a b) := by
            by_cases z : 0 < a
            · rw [if_pos z]
              exact fun y => p ⟨z, (nI_eq (by omega) (by omega)).mp y⟩
            · rw [if_neg z]
              exact n6_ne (by omega)
          rw [if_neg p, if_neg e0, bs]
          by_cases p2 : 0 < b ∧ wt Y n + Mx (tb6 T) (wt X) (wt Y) n a (b - 1) = Mx (tb6 T) (wt X) (wt Y) (n + 1) a b
          · rw [if_pos p2, if_pos p2.1, p2.2, if_pos rfl, show nI b - 1 = nI (b - 1) by rw [show b = b - 1 + 1 by omega, nI_pred]; rfl, nI_1, show (5 - n) + 1 = 6 - n by omega, show (10 : Int32) * nI num + 1 = nI (10 * num + 1) from e10 1, ih n (by omega) (by omega) (10 * num + 1) a (b - 1) ha (by omega), hnum]
          · have e1 : ¬ (if 0 < b then nI (wt Y n + Mx (tb6 T) (wt X) (wt Y) n a (b - 1)) else (-6 : Int32)) = nI (Mx (tb6 T) (wt X) (wt Y) (n + 1) a b) := by
              by_cases z : 0 < b
              · rw [if_pos z]
                exact fun y => p2 ⟨z, (nI_eq (by omega) (by omega)).mp y⟩
              · rw [if_neg z]
                exact n6_ne (by omega)
            rw [if_neg p2, if_neg e1, nI_1, show (5 - n) + 1 = 6 - n by omega, show (10 : Int32) * nI num + 2 = nI (10 * num + 2) from e10 2, ih n (by omega) (by omega) (10 * num + 2) a b ha hb, hnum]
      · have c2 : ¬ tb6 T n = true := c
        rw [if_pos ((q6 T hT6 (5 - n) (by omega)).mpr c), if_neg c2, nI_1, show (5 - n) + 1 = 6 - n by omega, show (10 : Int32) * nI num + 3 = nI (10 * num + 3) from e10 3, ih n (by omega) (by omega) (10 * num + 3) a b ha hb, hnum]
