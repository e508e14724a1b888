/-! spend: the class's table -/
theorem div_n {a d : Nat} (ha : a < 2 ^ 31) (h0 : 0 < d) (hd : d < 2 ^ 31) : nI a / nI d = nI (a / d) := pk_div ha h0 hd
theorem dig_lp : ∀ n j X, j ≤ 6 → 7 ≤ n + j → X < 2 ^ 31 → lp_X8_digitOf_6 n (nI X) (nI j) = some (nI (X / 10 ^ (6 - j))) := by
  intro n
  induction n with
  | zero => intro j X h1 h2; omega
  | succ n ih =>
    intro j X h1 h2 hX
    show bd_X8_digitOf_6 (lp_X8_digitOf_6 n) (nI X) (nI j) = _
    unfold bd_X8_digitOf_6
    by_cases hj : j = 6
    · subst hj
      rw [if_pos (by decide), Nat.sub_self, Nat.pow_zero, Nat.div_one]
    · rw [if_neg (no6 (by omega)), show nI X / 10 = nI (X / 10) from div_n hX (by decide) (by decide), nI_1, ih (j + 1) (X / 10) (by omega) (by omega) (by omega), Nat.div_div_eq_div_mul, show 6 - j = (6 - (j + 1)) + 1 by omega, Nat.pow_succ, Nat.mul_comm]
theorem dig_n {X h : Nat} (hX : X < 2 ^ 31) (hh : h < 6) : sem_X8_digitOf (nI X) (nI h) = some (nI (X / 10 ^ (5 - h) % 10)) := by
  unfold sem_X8_digitOf
  rw [nI_1, dig_lp FUEL (h + 1) X (by omega) (by rw [fuel_s]; omega) hX, bs, show 6 - (h + 1) = 5 - h by omega]
  have hlt : X / 10 ^ (5 - h) < 2 ^ 31 := Nat.lt_of_le_of_lt (Nat.div_le_self _ _) hX
  rw [show jrem (nI (X / 10 ^ (5 - h))) 10 = nI (X / 10 ^ (5 - h) % 10) from jrem_n hlt (by decide) (by decide)]
/-- the weights of a number, by the hours that are left behind them -/
def wt (W : Nat) : Nat → Nat := fun n => W / 10 ^ n % 10
theorem wt_le (W n : Nat) : wt W n ≤ 9 := by unfold wt; omega
theorem wn (x a b : Nat) (ha : a ≤ x) (hx : x ≤ b) (hb : b < 2 ^ 31) {A B : Int32} (hA : A = nI a) (hB : B = nI b) : sem_X8_within (nI x) A B = some 1 := by
  rw [within_eq, hA, hB, if_pos ⟨nI_le ha (by omega), nI_le hx hb⟩]
theorem few_n (s : S5) {h v j : Nat} (hh : h ≤ 6) (hv : v ≤ 20) (hj : j ≤ 6) : sem_X5_fewestStamps (nI h) (nI v) (nI j) s = some (x5_table s ((h * 21 + v) * 7 + j)) := by
  unfold sem_X5_fewestStamps
  rw [wn (A := 0) (B := 6) h 0 6 (Nat.zero_le _) hh (by decide) rfl rfl, bs, if_neg one_ne, wn (A := 0) (B := 20) v 0 20 (Nat.zero_le _) hv (by decide) rfl rfl, bs, if_neg one_ne, wn (A := 0) (B := 6) j 0 6 (Nat.zero_le _) hj (by decide) rfl rfl, bs, if_neg one_ne]
  have e : (nI h * 21 + nI v) * 7 + nI j = nI ((h * 21 + v) * 7 + j) := by
    rw [show nI h * 21 = nI (h * 21) from pk_mul h 21, nI_add, show nI (h * 21 + v) * 7 = nI ((h * 21 + v) * 7) from pk_mul (h * 21 + v) 7, nI_add]
  rw [e, ck_in (vp_in_nI (by omega) (by decide)), tcl (by omega)]
theorem sl_n {s : S5} {w : Nat → Nat} {l n v : Nat} (hw : ∀ n, w n ≤ 9) (hn : n < 6) (hv : v ≤ 20) (hl : l ≤ 20) (hm : x5_mishaps s (5 - n) = nI (w n)) (hli : x5_limit s = nI l) : sem_X5_slips (nI (5 - n)) (nI v) s = some (nI (ds w l n v)) := by
  have := hw n
  unfold sem_X5_slips
  rw [ck_in (vp_in_nI (by omega) (by decide)), tcl (by omega), hm, hli, nI_add]
  unfold ds
  by_cases q : l < v + w n
  · rw [if_neg (nI_ge q (by omega)), if_pos q]; rfl
  · rw [if_pos (nI_le (by omega) (by omega)), if_neg q]; rfl
theorem am_n {s : S5} {w : Nat → Nat} {l n v : Nat} (hw : ∀ n, w n ≤ 9) (hn : n < 6) (hv : v ≤ 20) (hl : l ≤ 20) (hm : x5_mishaps s (5 - n) = nI (w n)) (hli : x5_limit s = nI l) : sem_X5_afterMishap (nI (5 - n)) (nI v) s = some (nI (am w l n v)) := by
  unfold sem_X5_afterMishap
  rw [sl_n hw hn hv hl hm hli, bs]
  unfold ds am
  by_cases q : l < v + w n
  · rw [if_pos q, if_pos q, if_neg (show ¬ nI 1 = 0 by decide)]; rfl
  · rw [if_neg q, if_neg q, if_pos (show nI 0 = 0 from rfl), ck_in (vp_in_nI (by omega) (by decide)), tcl (by omega), hm, nI_add]
theorem sj_n {s : S5} {w : Nat → Nat} {l n v : Nat} (hw : ∀ n, w n ≤ 9) (hn : n < 6) (hv : v ≤ 20) (hl : l ≤ 20) (hm : x5_mishaps s (5 - n) = nI (w n)) (hli : x5_limit s = nI l) (j : Nat) : sem_X5_slipsLeft (nI (5 - n)) (nI v) (nI j) s = some (nI j - nI (ds w l n v)) := by
  unfold sem_X5_slipsLeft
  rw [sl_n hw hn hv hl hm hli, bs]
  unfold ds
  by_cases q : l < v + w n
  · rw [if_pos q, if_neg (show ¬ nI 1 = 0 by decide)]; rfl
  · rw [if_neg q, if_pos (show nI 0 = 0 from rfl), show nI j - nI 0 = nI j from pk_sub (Nat.zero_le _)]
theorem ah_n {a y : Nat} (ha : a ≤ 20) (hy : y ≤ a) : sem_X5_afterHour (nI a) (nI y) = some (nI (nx a y)) := by
  unfold sem_X5_afterHour nx
  rw [pk_sub hy, jm_n (a - y) (by omega)]
theorem ah_o {a y : Nat} (ha : a ≤ 20) (hy : y ≤ 20) (hy2 : a < y) : sem_X5_afterHour (nI a) (nI y) = some (nI (nx a y)) := by
  unfold sem_X5_afterHour nx
  have h : ∀ a, a ≤ 20 → ∀ y, y ≤ 20 → a < y → jmax 0 ((nI a - nI y) - 1) = nI (a - y - 1) := by decide +kernel
  rw [h a ha y hy hy2]
/-- the least over the strengths -/
theorem cheap_lp {s : S5} {h a j most : Nat} (ha : a ≤ 20) (hmost : most ≤ a) {T : Nat → Nat} (hT : ∀ y, y ≤ most → sem_X5_fewestStamps (nI h) (nI (nx a y)) (nI j) s = some (nI (T y)) ∧ T y ≤ 1000) : ∀ n y best, y ≤ most + 1 → most + 2 ≤ n + y → best ≤ 1000 → ∃ r, lp_X5_cheapest_24 (nI h) (nI a) (nI j) (nI most) s n (nI best) (nI y) = some (nI r) ∧ r ≤ best ∧ (∀ i, y ≤ i → i ≤ most → r ≤ i + T i) ∧ (r = best ∨ ∃ i, y ≤ i ∧ i ≤ most ∧ r = i + T i) := by
  intro n
  induction n with
  | zero => intro y best h1 h2; omega
  | succ n ih =>
    intro y best h1 h2 h3
    show ∃ r, bd_X5_cheapest_24 (nI h) (nI a) (nI j) (nI most) s (lp_X5_cheapest_24 (nI h) (nI a) (nI j) (nI most) s n) (nI best) (nI y) = _ ∧ _
    unfold bd_X5_cheapest_24
    by_cases q : y = most + 1
    · subst q
      rw [if_pos (nI_lt (Nat.lt_succ_self _) (by omega))]
      exact ⟨best, rfl, Nat.le_refl _, fun i p1 p2 => by omega, Or.inl rfl⟩
    · obtain ⟨t1, t2⟩ := hT y (by omega)
      rw [if_neg (nI_nlt (by omega) (by omega)), ah_n ha (by omega), bs, t1, bs, nI_add, jmin_n (by omega) (by omega), nI_1]
      obtain ⟨r, r1, r2, r3, r4⟩ := ih (y + 1) (min best (y + T y)) (by omega) (by omega) (by omega)
      refine ⟨r, r1, by omega, fun i p1 p2 => ?_, ?_⟩
      · by_cases z : i = y
        · subst z; omega
        · exact r3 i (by omega) p2
      · rcases r4 with r4 | ⟨i, p1, p2, p3⟩
        · by_cases z : best ≤ y + T y
          · exact Or.inl (by omega)
          · exact Or.inr ⟨y, Nat.le_refl _, by omega, by omega⟩
        · exact Or.inr ⟨i, by omega, p2, p3⟩
/-- the row of n hours left stands -/
def RD (s : S5) (w : Nat → Nat) (l n : Nat) : Prop := ∀ v j, v ≤ l → j ≤ 6 → ∃ x, x5_table s (((6 - n) * 21 + v) * 7 + j) = nI x ∧ SD w l n v j x
theorem cheap_n {s : S5} {w : Nat → Nat} {l n v j : Nat} (hn : n < 6) (hl : l ≤ 20) (hj : j ≤ 6) (hR : RD s w l n) : ∃ x, sem_X5_cheapest (nI (5 - n) + 1) (nI (am w l n v)) (nI j - nI (ds w l n v)) s = some (nI x) ∧ SD w l (n + 1) v j x := by
  have ha := am_le w (l := l) (n := n) (v := v)
  have hd := ds_le w l n v
  unfold sem_X5_cheapest
  by_cases q : j < ds w l n v
  · rw [if_neg (fun z => by have := (sub_ge0 (a := j) (g := ds w l n v) (by omega) (by omega)).mp z; omega)]
    exact ⟨1000, rfl, SDno q⟩
  · rw [if_pos ((sub_ge0 (by omega) (by omega)).mpr (by omega)), pk_sub (by omega), nI_1, show 5 - n + 1 = 6 - n by omega, show jmin 9 (nI (am w l n v)) = nI (min 9 (am w l n v)) from jmin_n (a := 9) (by decide) (by omega)]
    have hx : ∀ y, ∃ x, x5_table s (((6 - n) * 21 + nx (am w l n v) y) * 7 + (j - ds w l n v)) = nI x ∧ SD w l n (nx (am w l n v) y) (j - ds w l n v) x := fun y => hR _ _ (by unfold nx; omega) (by omega)
    obtain ⟨T, hT⟩ : ∃ T : Nat → Nat, ∀ y, x5_table s (((6 - n) * 21 + nx (am w l n v) y) * 7 + (j - ds w l n v)) = nI (T y) ∧ SD w l n (nx (am w l n v) y) (j - ds w l n v) (T y) := ⟨fun y => Classical.choose (hx y), fun y => Classical.choose_spec (hx y)⟩
    obtain ⟨r, r1, r2, r3, r4⟩ := cheap_lp (s := s) (h := 6 - n) (a := am w l n v) (j := j - ds w l n v) (most := min 9 (am w l n v)) (by omega) (by omega) (T := T) (fun y hy => ⟨by rw [few_n s (by omega) (by unfold nx; omega) (by omega), (hT y).1], (hT y).2.1⟩) FUEL 0 1000 (Nat.zero_le _) (by rw [fuel_s]; omega) (Nat.le_refl _)
    have r1' : lp_X5_cheapest_24 (nI (6 - n)) (nI (am w l n v)) (nI (j - ds w l n v)) (nI (min 9 (am w l n v))) s FUEL 1000 0 = some (nI r) := r1
    rw [r1', bs]
    refine ⟨r, rfl, SDstep (T := T) (by omega) (fun y h1 h2 => (hT y).2) r2 (fun y h1 h2 => r3 y (Nat.zero_le _) (by omega)) ?_⟩
    rcases r4 with r4 | ⟨i, p1, p2, p3⟩
    · exact Or.inl r4
    · exact Or.inr ⟨i, by omega, by omega, p3⟩
theorem row_lp {w : Nat → Nat} {l n v : Nat} (hw : ∀ n, w n ≤ 9) (hn : n < 6) (hl : l ≤ 20) (hv : v ≤ l) : ∀ f j, j ≤ 7 → 8 ≤ f + j → ∀ s : S5, x5_limit s = nI l → x5_mishaps s (5 - n) = nI (w n) → RD s w l n →
    ∃ P, lp_X5_reckonFrom_21 (nI (5 - n)) (nI v) (nI (am w l n v)) (nI (((5 - n) * 21 + v) * 7)) f (nI j) s = some (p5_table s P) ∧ (∀ q, ¬ (((5 - n) * 21 + v) * 7 + j ≤ q ∧ q ≤ ((5 - n) * 21 + v) * 7 + 6) → P q = x5_table s q) ∧ ∀ i, j ≤ i → i ≤ 6 → ∃ x, P (((5 - n) * 21 + v) * 7 + i) = nI x ∧ SD w l (n + 1) v i x := by
  intro f
  induction f with
  | zero => intro j h1 h2; omega
  | succ f ih =>
    intro j h1 h2 s hs hm hR
    show ∃ P, bd_X5_reckonFrom_21 (nI (5 - n)) (nI v) (nI (am w l n v)) (nI (((5 - n) * 21 + v) * 7)) (lp_X5_reckonFrom_21 (nI (5 - n)) (nI v) (nI (am w l n v)) (nI (((5 - n) * 21 + v) * 7)) f) (nI j) s = _ ∧ _
    unfold bd_X5_reckonFrom_21
    by_cases q : j = 7
    · subst q
      rw [if_pos (by decide)]
      exact ⟨x5_table s, rfl, fun _ _ => rfl, fun i p1 p2 => by omega⟩
    · obtain ⟨x, x1, x2⟩ := cheap_n (v := v) (j := j) hn hl (by omega) hR
      rw [if_neg (show ¬ (7 : Int32) ≤ nI j from nI_ge (a := j) (b := 7) (by omega) (by decide)), sj_n hw hn (by omega) hl hm hs, bs, x1, bs, nI_add, ck_in (vp_in_nI (by omega) (by decide)), tcl (by omega), nI_1]
      have hR2 : RD (p5_table s (upd (x5_table s) (((5 - n) * 21 + v) * 7 + j) (nI x))) w l n := by
        intro v' j' p1 p2
        obtain ⟨y, y1, y2⟩ := hR v' j' p1 p2
        refine ⟨y, ?_, y2⟩
        show upd (x5_table s) (((5 - n) * 21 + v) * 7 + j) (nI x) _ = _
        rw [pk_un (by omega), y1]
      obtain ⟨P, g1, g2, g3⟩ := ih (j + 1) (by omega) (by omega) (p5_table s (upd (x5_table s) (((5 - n) * 21 + v) * 7 + j) (nI x))) hs hm hR2
      refine ⟨P, g1, fun q hq => ?_, fun i p1 p2 => ?_⟩
      · rw [g2 q (by omega)]
        show upd (x5_table s) (((5 - n) * 21 + v) * 7 + j) (nI x) q = _
        rw [pk_un (by omega)]
      · by_cases z : i = j
        · subst z
          refine ⟨x, ?_, x2⟩
          rw [g2 _ (by omega)]
          exact pk_us
        · exact g3 i (by omega) p2
theorem from_n {w : Nat → Nat} {l n v : Nat} (hw : ∀ n, w n ≤ 9) (hn : n < 6) (hl : l ≤ 20) (hv : v ≤ l) (s : S5) (hs : x5_limit s = nI l) (hm : x5_mishaps s (5 - n) = nI (w n)) (hR : RD s w l n) :
    ∃ P, sem_X5_reckonFrom (nI (5 - n)) (nI v) s = some (p5_table s P) ∧ (∀ q, ¬ (((5 - n) * 21 + v) * 7 ≤ q ∧ q ≤ ((5 - n) * 21 + v) * 7 + 6) → P q = x5_table s q) ∧ ∀ i, i ≤ 6 → ∃ x, P (((5 - n) * 21 + v) * 7 + i) = nI x ∧ SD w l (n + 1) v i x := by
  obtain ⟨P, g1, g2, g3⟩ := row_lp hw hn hl hv FUEL 0 (by decide) (by rw [fuel_s]; omega) s hs hm hR
  refine ⟨P, ?_, fun q hq => g2 q (by omega), fun i hi => g3 i (Nat.zero_le _) hi⟩
  unfold sem_X5_reckonFrom
  have e : (nI (5 - n) * 21 + nI v) * 7 = nI (((5 - n) * 21 + v) * 7) := by
    rw [show nI (5 - n) * 21 = nI ((5 - n) * 21) from pk_mul (5 - n) 21, nI_add, show nI ((5 - n) * 21 + v) * 7 = nI (((5 - n) * 21 + v) * 7) from pk_mul ((5 - n) * 21 + v) 7]
  have g1' : lp_X5_reckonFrom_21 (nI (5 - n)) (nI v) (nI (am w l n v)) (nI (((5 - n) * 21 + v) * 7)) FUEL 0 s = some (p5_table s P) := g1
  rw [am_n hw hn (by omega) hl hm hs, bs, e, g1', bs]
theorem tem_lp {w : Nat → Nat} {l n : Nat} (hw : ∀ n, w n ≤ 9) (hn : n < 6) (hl : l ≤ 20) (x1 : Int32) : ∀ f v, v ≤ l + 1 → l + 2 ≤ f + v → ∀ s : S5, x5_limit s = nI l → x5_mishaps s (5 - n) = nI (w n) → RD s w l n →
    ∃ P, lp_X5_reckon_30 x1 (nI (5 - n)) f (nI v) s = some (p5_table s P) ∧ (∀ q, ¬ (((5 - n) * 21 + v) * 7 ≤ q ∧ q < ((5 - n) * 21 + l + 1) * 7) → P q = x5_table s q) ∧ ∀ u i, v ≤ u → u ≤ l → i ≤ 6 → ∃ x, P (((5 - n) * 21 + u) * 7 + i) = nI x ∧ SD w l (n + 1) u i x := by
  intro f
  induction f with
  | zero => intro v h1 h2; omega
  | succ f ih =>
    intro v h1 h2 s hs hm hR
    show ∃ P, bd_X5_reckon_30 x1 (nI (5 - n)) (lp_X5_reckon_30 x1 (nI (5 - n)) f) (nI v) s = _ ∧ _
    unfold bd_X5_reckon_30
    by_cases q : v = l + 1
    · subst q
      rw [hs, if_pos (nI_lt (Nat.lt_succ_self _) (by omega))]
      exact ⟨x5_table s, rfl, fun _ _ => rfl, fun u i p1 p2 => by omega⟩
    · obtain ⟨P1, a1, a2, a3⟩ := from_n hw hn hl (show v ≤ l by omega) s hs hm hR
      rw [hs, if_neg (nI_nlt (by omega) (by omega)), a1, bs, nI_1]
      have hR2 : RD (p5_table s P1) w l n := by
        intro v' j' p1 p2
        obtain ⟨y, y1, y2⟩ := hR v' j' p1 p2
        refine ⟨y, ?_, y2⟩
        show P1 _ = _
        rw [a2 _ (by omega), y1]
      obtain ⟨P, g1, g2, g3⟩ := ih (v + 1) (by omega) (by omega) (p5_table s P1) hs hm hR2
      refine ⟨P, g1, fun q hq => ?_, fun u i p1 p2 p3 => ?_⟩
      · rw [g2 q (by omega)]
        exact a2 q (by omega)
      · by_cases z : u = v
        · subst z
          obtain ⟨x, x1, x2⟩ := a3 i p3
          refine ⟨x, ?_, x2⟩
          rw [g2 _ (by omega)]
          exact x1
        · exact g3 u i (by omega) p2 p3
/-- all rows of at most H hours left stand -/
def TS5 (s : S5) (w : Nat → Nat) (l H : Nat) : Prop := x5_limit s = nI l ∧ (∀ n, n ≤ H → RD s w l n) ∧ (∀ n, n < H → x5_mishaps s (5 - n) = nI (w n))
theorem all_lp5 {W l : Nat} (hW : W < 2 ^ 31) (hl : l ≤ 20) : ∀ f H, H ≤ 6 → 7 ≤ f + H → ∀ s : S5, TS5 s (wt W) l H → ∃ s2, lp_X5_reckon_12 (nI W) f (nI (6 - H) - 1) s = some s2 ∧ TS5 s2 (wt W) l 6 ∧ ∀ q, 882 ≤ q → x5_table s2 q = x5_table s q := by
  intro f
  induction f with
  | zero => intro H h1 h2; omega
  | succ f ih =>
    intro H h1 h2 s hS
    show ∃ s2, bd_X5_reckon_12 (nI W) (lp_X5_reckon_12 (nI W) f) (nI (6 - H) - 1) s = _ ∧ _
    unfold bd_X5_reckon_12
    by_cases q : H = 6
    · subst q
      rw [if_pos (by decide)]
      exact ⟨s, rfl, hS, fun _ _ => rfl⟩
    · rw [show 6 - H = (5 - H) + 1 by omega, nI_pred, if_neg (no0 (by omega)), dig_n hW (by omega), bs, show 5 - (5 - H) = H by omega, ck_in (vp_in_nI (by omega) (by decide)), tcl (by omega)]
      have hm : x5_mishaps (p5_mishaps s (upd (x5_mishaps s) (5 - H) (nI (W / 10 ^ H % 10)))) (5 - H) = nI (wt W H) := pk_us
      obtain ⟨P, a1, a2, a3⟩ := tem_lp (wt_le W) (show H < 6 by omega) hl (nI W) FUEL 0 (Nat.zero_le _) (by rw [fuel_s]; omega) (p5_mishaps s (upd (x5_mishaps s) (5 - H) (nI (W / 10 ^ H % 10)))) hS.1 hm (hS.2.1 H (Nat.le_refl _))
      have a1' : lp_X5_reckon_30 (nI W) (nI (5 - H)) FUEL 0 (p5_mishaps s (upd (x5_mishaps s) (5 - H) (nI (W / 10 ^ H % 10)))) = _ := a1
      rw [a1', bs]
      have hS2 : TS5 (p5_table (p5_mishaps s (upd (x5_mishaps s) (5 - H) (nI (W / 10 ^ H % 10)))) P) (wt W) l (H + 1) := by
        refine ⟨hS.1, fun n hn v j p1 p2 => ?_, fun n hn => ?_⟩
        · by_cases z : n = H + 1
          · subst z
            obtain ⟨x, x1, x2⟩ := a3 v j (Nat.zero_le _) p1 p2
            refine ⟨x, ?_, x2⟩
            show P _ = _
            rw [show 6 - (H + 1) = 5 - H by omega]
            exact x1
          · obtain ⟨x, x1, x2⟩ := hS.2.1 n (by omega) v j p1 p2
            refine ⟨x, ?_, x2⟩
            show P _ = _
            rw [a2 _ (by omega)]
            exact x1
        · show upd (x5_mishaps s) (5 - H) (nI (W / 10 ^ H % 10)) (5 - n) = _
          by_cases z : n = H
          · subst z; exact pk_us
          · rw [pk_un (by omega)]; exact hS.2.2 n (by omega)
      obtain ⟨s2, g1, g2, g3⟩ := ih (H + 1) (by omega) (by omega) _ hS2
      rw [show 6 - (H + 1) = 5 - H by omega] at g1
      refine ⟨s2, g1, g2, fun q hq => ?_⟩
      rw [g3 q hq]
      exact a2 q (by omega)
theorem reckon5 {W l : Nat} (hW : W < 2 ^ 31) (hl : l ≤ 20) (s : S5) (hz : ∀ q, 882 ≤ q → q < 1029 → x5_table s q = 0) : ∃ s2, sem_X5_reckon (nI W) (nI l) s = some s2 ∧ TS5 s2 (wt W) l 6 ∧ ∀ q, 882 ≤ q → x5_table s2 q = x5_table s q := by
  have hl20 : jmin (nI l) 20 = nI l := by
    rw [show (20 : Int32) = nI 20 from rfl, jmin_n (by omega) (by decide), Nat.min_eq_left hl]
  have h0 : TS5 (p5_limit s (jmin (nI l) 20)) (wt W) l 0 := by
    refine ⟨hl20, fun n hn v j p1 p2 => ?_, fun n hn => by omega⟩
    have : n = 0 := by omega
    subst this
    refine ⟨0, ?_, SD0 _ _ _ _⟩
    show x5_table s _ = _
    exact hz _ (by omega) (by omega)
  obtain ⟨s2, g1, g2, g3⟩ := all_lp5 hW hl FUEL 0 (Nat.zero_le _) (by rw [fuel_s]; omega) _ h0
  refine ⟨s2, ?_, g2, g3⟩
  unfold sem_X5_reckon
  have g1' : lp_X5_reckon_12 (nI W) FUEL 5 (p5_limit s (jmin (nI l) 20)) = some s2 := g1
  rw [g1', bs]
