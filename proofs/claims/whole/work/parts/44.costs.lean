/-! spend: the reference's table -/
theorem lay_lp {W : Nat} (hW : W < 2 ^ 31) : ∀ f H, H ≤ 6 → 7 ≤ f + H → ∀ m : S9, ∃ Q, lp_X9_layWeights_4 f (nI (W / 10 ^ H)) (nI (6 - H) - 1) m = some (p9_weight m Q) ∧ ∀ i, i < 6 → Q i = if i + H ≤ 5 then nI (wt W (5 - i)) else x9_weight m i := by
  intro f
  induction f with
  | zero => intro H h1 h2; omega
  | succ f ih =>
    intro H h1 h2 m
    show ∃ Q, bd_X9_layWeights_4 (lp_X9_layWeights_4 f) (nI (W / 10 ^ H)) (nI (6 - H) - 1) m = _ ∧ _
    unfold bd_X9_layWeights_4
    by_cases q : H = 6
    · subst q
      rw [if_pos (by decide)]
      exact ⟨x9_weight m, rfl, fun i hi => by rw [if_neg (by omega)]⟩
    · have hlt : W / 10 ^ H < 2 ^ 31 := Nat.lt_of_le_of_lt (Nat.div_le_self _ _) hW
      rw [show 6 - H = (5 - H) + 1 by omega, nI_pred, if_neg (no0 (by omega)), ck_in (vp_in_nI (by omega) (by decide)), tcl (by omega), show nI (W / 10 ^ H) / 10 = nI (W / 10 ^ H / 10) from div_n hlt (by decide) (by decide), show jrem (nI (W / 10 ^ H)) 10 = nI (W / 10 ^ H % 10) from jrem_n hlt (by decide) (by decide), Nat.div_div_eq_div_mul, ← Nat.pow_succ]
      obtain ⟨Q, g1, g2⟩ := ih (H + 1) (by omega) (by omega) (p9_weight m (upd (x9_weight m) (5 - H) (nI (W / 10 ^ H % 10))))
      rw [show 6 - (H + 1) = 5 - H by omega] at g1
      refine ⟨Q, g1, fun i hi => ?_⟩
      rw [g2 i hi]
      show (if i + (H + 1) ≤ 5 then _ else upd (x9_weight m) (5 - H) (nI (W / 10 ^ H % 10)) i) = _
      by_cases z : i = 5 - H
      · rw [if_neg (show ¬ i + (H + 1) ≤ 5 by omega), if_pos (show i + H ≤ 5 by omega), z, pk_us, show 5 - (5 - H) = H by omega]
        rfl
      · rw [pk_un z]
        by_cases z2 : i + H ≤ 5
        · rw [if_pos (show i + (H + 1) ≤ 5 by omega), if_pos z2]
        · rw [if_neg (show ¬ i + (H + 1) ≤ 5 by omega), if_neg z2]
theorem si_n {m : S9} {w : Nat → Nat} {l n v : Nat} (hw : ∀ n, w n ≤ 9) (hn : n < 6) (hv : v ≤ 20) (hl : l ≤ 20) (hm : x9_weight m (5 - n) = nI (w n)) (hli : x9_limit m = nI l) : sem_X9_slipsIn (nI (5 - n)) (nI v) m = some (nI (ds w l n v)) := by
  have := hw n
  unfold sem_X9_slipsIn
  rw [ck_in (vp_in_nI (by omega) (by decide)), tcl (by omega), hm, hli, nI_add]
  unfold ds
  by_cases q : l < v + w n
  · rw [if_neg (nI_ge q (by omega)), if_pos q]; rfl
  · rw [if_pos (nI_le (by omega) (by omega)), if_neg q]; rfl
theorem at_ix (h v k : Nat) : sem_X9_at (nI h) (nI v) (nI k) = some (nI (441 * h + 21 * v + k)) := by
  unfold sem_X9_at
  rw [show (441 : Int32) * nI h = nI (441 * h) from pk_mul 441 h, show (21 : Int32) * nI v = nI (21 * v) from pk_mul 21 v, nI_add, nI_add]
/-- the row of n hours left -/
def RC (m : S9) (w : Nat → Nat) (l n : Nat) : Prop := ∀ v k, v ≤ l → k ≤ 20 → ∃ x, x9_costs m (441 * (6 - n) + 21 * v + k) = nI x ∧ SC w l n v k x
theorem cost_n {m : S9} {w : Nat → Nat} {l n v k : Nat} (hw : ∀ n, w n ≤ 9) (hn : n < 6) (hl : l ≤ 20) (hv : v ≤ l) (hk : k ≤ 20) (hm : x9_weight m (5 - n) = nI (w n)) (hli : x9_limit m = nI l) {X : Nat → Nat} (hX : ∀ y, y ≤ am w l n v → y ≤ k → x9_costs m (441 * (6 - n) + 21 * nx (am w l n v) y + (k - y)) = nI (X y)) {y : Nat} (hy : y < 2 ^ 31) : sem_X9_costBy (nI (5 - n)) (nI v) (nI k) (nI y) m = some (nI (cb w l n v k X y)) := by
  have ha := am_le w (l := l) (n := n) (v := v)
  have hwn := hw n
  unfold sem_X9_costBy
  rw [si_n hw hn (by omega) hl hm hli, bs]
  have e1 : (if nI (ds w l n v) = 0 then ck 6 (nI (5 - n)) (jn_X9_costBy_25 (nI (5 - n)) (nI k) (nI y) (nI (ds w l n v)) (nI v + x9_weight m (nI (5 - n)).toNatClampNeg) m) else jn_X9_costBy_25 (nI (5 - n)) (nI k) (nI y) (nI (ds w l n v)) 0 m) = jn_X9_costBy_25 (nI (5 - n)) (nI k) (nI y) (nI (ds w l n v)) (nI (am w l n v)) m := by
    unfold ds am
    by_cases q : l < v + w n
    · rw [if_pos q, if_pos q, if_neg (show ¬ nI 1 = 0 by decide)]; rfl
    · rw [if_neg q, if_neg q, if_pos (show nI 0 = 0 from rfl), ck_in (vp_in_nI (by omega) (by decide)), tcl (by omega), hm, nI_add]
  rw [e1]
  unfold jn_X9_costBy_25 cb
  by_cases q1 : am w l n v < y
  · rw [if_pos (nI_lt q1 hy), if_pos (Or.inl q1)]; rfl
  · rw [if_neg (nI_nlt (by omega) (by omega))]
    by_cases q2 : k < y
    · rw [if_neg (nI_ge q2 hy), if_pos (Or.inr q2)]; rfl
    · rw [if_pos (nI_le (by omega) (by omega)), if_neg (show ¬ (am w l n v < y ∨ k < y) by omega), pk_sub (by omega)]
      have hj : ∀ d, jn_X9_costBy_61 (nI (5 - n)) (nI k) (nI y) (nI (am w l n v - y)) (nI d) m = some (nI (d + y + X y)) := by
        intro d
        have e2 : jn_X9_costBy_61 (nI (5 - n)) (nI k) (nI y) (nI (am w l n v - y)) (nI d) m = jn_X9_costBy_84 (nI k) (nI y) (nI (d + y)) (nI (6 - n)) (nI (nx (am w l n v) y)) m := by
          unfold jn_X9_costBy_61 nx
          rw [nI_1, nI_add, show 5 - n + 1 = 6 - n by omega]
          by_cases z : am w l n v - y = 0
          · rw [z, if_pos (by decide)]; rfl
          · rw [if_neg (nI_nle (by omega) (by omega)), show am w l n v - y = (am w l n v - y - 1) + 1 by omega, nI_pred]; rfl
        rw [e2]
        unfold jn_X9_costBy_84
        have hnx : nx (am w l n v) y ≤ 20 := by unfold nx; omega
        rw [pk_sub (by omega), at_ix, bs, ck_in (vp_in_nI (by omega) (by decide)), tcl (by omega), hX y (by omega) (by omega), nI_add]
      unfold ds
      by_cases z : l < v + w n
      · rw [if_pos z, if_neg (show ¬ nI 1 = 0 by decide)]; exact hj 100
      · rw [if_neg z, if_pos (show nI 0 = 0 from rfl)]; exact hj 0
theorem least_lp {m : S9} {x1 x2 x3 : Int32} {V : Nat → Nat} (hV : ∀ y, y ≤ 9 → sem_X9_costBy x1 x2 x3 (nI y) m = some (nI (V y)) ∧ V y ≤ 100000) : ∀ n y best, y ≤ 10 → 11 ≤ n + y → best ≤ 100000 → ∃ r, lp_X9_leastCost_7 x1 x2 x3 m n (nI best) (nI y) = some (nI r) ∧ r ≤ best ∧ (∀ i, y ≤ i → i ≤ 9 → r ≤ V i) ∧ (r = best ∨ ∃ i, y ≤ i ∧ i ≤ 9 ∧ r = V i) := by
  intro n
  induction n with
  | zero => intro y best h1 h2; omega
  | succ n ih =>
    intro y best h1 h2 h3
    show ∃ r, bd_X9_leastCost_7 x1 x2 x3 m (lp_X9_leastCost_7 x1 x2 x3 m n) (nI best) (nI y) = _ ∧ _
    unfold bd_X9_leastCost_7
    by_cases q : y = 10
    · subst q
      rw [if_pos (by decide)]
      exact ⟨best, rfl, Nat.le_refl _, fun i p1 p2 => by omega, Or.inl rfl⟩
    · obtain ⟨t1, t2⟩ := hV y (by omega)
      rw [if_neg (show ¬ (10 : Int32) ≤ nI y from nI_ge (a := y) (b := 10) (by omega) (by decide)), t1, bs, nI_1]
      have e : (if nI best ≤ nI (V y) then lp_X9_leastCost_7 x1 x2 x3 m n (nI best) (nI (y + 1)) else lp_X9_leastCost_7 x1 x2 x3 m n (nI (V y)) (nI (y + 1))) = lp_X9_leastCost_7 x1 x2 x3 m n (nI (min best (V y))) (nI (y + 1)) := by
        by_cases z : best ≤ V y
        · rw [if_pos (nI_le z (by omega)), Nat.min_eq_left z]
        · rw [if_neg (nI_ge (by omega) (by omega)), Nat.min_eq_right (by omega)]
      rw [e]
      obtain ⟨r, r1, r2, r3, r4⟩ := ih (y + 1) (min best (V y)) (by omega) (by omega) (by omega)
      refine ⟨r, r1, by omega, fun i p1 p2 => ?_, ?_⟩
      · by_cases z : i = y
        · subst z; omega
        · exact r3 i (by omega) p2
      · rcases r4 with r4 | ⟨i, p1, p2, p3⟩
        · by_cases z : best ≤ V y
          · exact Or.inl (by omega)
          · exact Or.inr ⟨y, Nat.le_refl _, by omega, by omega⟩
        · exact Or.inr ⟨i, by omega, p2, p3⟩
theorem RC_X {m : S9} {w : Nat → Nat} {l n v k : Nat} (hk : k ≤ 20) (hR : RC m w l n) : ∃ X : Nat → Nat, ∀ y, y ≤ k → x9_costs m (441 * (6 - n) + 21 * nx (am w l n v) y + (k - y)) = nI (X y) ∧ SC w l n (nx (am w l n v) y) (k - y) (X y) := by
  have ha := am_le w (l := l) (n := n) (v := v)
  have hx : ∀ y, ∃ x, y ≤ k → x9_costs m (441 * (6 - n) + 21 * nx (am w l n v) y + (k - y)) = nI x ∧ SC w l n (nx (am w l n v) y) (k - y) x := fun y => by
    by_cases q : y ≤ k
    · obtain ⟨x, h⟩ := hR (nx (am w l n v) y) (k - y) (by unfold nx; omega) (by omega)
      exact ⟨x, fun _ => h⟩
    · exact ⟨0, fun z => absurd z q⟩
  exact ⟨fun y => Classical.choose (hx y), fun y => Classical.choose_spec (hx y)⟩
theorem cb_le {w : Nat → Nat} {l n v k : Nat} {X : Nat → Nat} (hn : n ≤ 6) (hX : ∀ y, y ≤ k → SC w l n (nx (am w l n v) y) (k - y) (X y)) {y : Nat} (hy : y ≤ 9) : cb w l n v k X y ≤ 100000 := by
  unfold cb
  have := ds_le w l n v
  by_cases q : am w l n v < y ∨ k < y
  · rw [if_pos q]; exact Nat.le_refl _
  · rw [if_neg q]
    have := SC_bd (hX y (by omega))
    omega
theorem least_n {m : S9} {w : Nat → Nat} {l n v k : Nat} (hw : ∀ n, w n ≤ 9) (hn : n < 6) (hl : l ≤ 20) (hv : v ≤ l) (hk : k ≤ 20) (hm : x9_weight m (5 - n) = nI (w n)) (hli : x9_limit m = nI l) (hR : RC m w l n) : ∃ x, sem_X9_leastCost (nI (5 - n)) (nI v) (nI k) m = some (nI x) ∧ SC w l (n + 1) v k x := by
  obtain ⟨X, hX⟩ := RC_X (v := v) hk hR
  obtain ⟨r, r1, r2, r3, r4⟩ := least_lp (m := m) (x1 := nI (5 - n)) (x2 := nI v) (x3 := nI k) (V := cb w l n v k X) (fun y hy => ⟨cost_n hw hn hl hv hk hm hli (fun y p1 p2 => (hX y p2).1) (by omega), cb_le (by omega) (fun y p => (hX y p).2) hy⟩) FUEL 0 100000 (by decide) (by rw [fuel_s]; omega) (Nat.le_refl _)
  have r1' : lp_X9_leastCost_7 (nI (5 - n)) (nI v) (nI k) m FUEL 100000 0 = some (nI r) := r1
  unfold sem_X9_leastCost
  rw [r1', bs]
  refine ⟨r, rfl, SCstep (X := X) (by omega) (fun y p1 p2 p3 => (hX y p3).2) (fun y p => r3 y (Nat.zero_le _) p) ?_⟩
  rcases r4 with r4 | ⟨i, p1, p2, p3⟩
  · exact Or.inl r4
  · exact Or.inr ⟨i, p2, p3⟩
/-- the row of n hours left is being laid: h its hour -/
def frK (m : S9) := (coreM m, x9_weight m)
theorem left_lp {w : Nat → Nat} {l H v : Nat} (hw : ∀ n, w n ≤ 9) (hH : H ≤ 6) (hl : l ≤ 20) (hv : v ≤ l) : ∀ f k, k ≤ 21 → 22 ≤ f + k → ∀ m : S9, x9_limit m = nI l → (∀ h, h < 6 → x9_weight m h = nI (w (5 - h))) → (∀ n, n + 1 = H → RC m w l n) →
    ∃ C, lp_X9_findCosts_25 (nI (6 - H)) (nI v) f (nI k) m = some (p9_costs m C) ∧ (∀ q, ¬ (441 * (6 - H) + 21 * v + k ≤ q ∧ q ≤ 441 * (6 - H) + 21 * v + 20) → C q = x9_costs m q) ∧ ∀ i, k ≤ i → i ≤ 20 → ∃ x, C (441 * (6 - H) + 21 * v + i) = nI x ∧ SC w l H v i x := by
  intro f
  induction f with
  | zero => intro k h1 h2; omega
  | succ f ih =>
    intro k h1 h2 m hli hm hR
    show ∃ C, bd_X9_findCosts_25 (nI (6 - H)) (nI v) (lp_X9_findCosts_25 (nI (6 - H)) (nI v) f) (nI k) m = _ ∧ _
    unfold bd_X9_findCosts_25
    by_cases q : k = 21
    · subst q
      rw [if_pos (by decide)]
      exact ⟨x9_costs m, rfl, fun _ _ => rfl, fun i p1 p2 => by omega⟩
    · have hx : ∃ x, SC w l H v k x ∧ (if nI (6 - H) = 6 then ck 3087 (nI (441 * (6 - H) + 21 * v + k)) (lp_X9_findCosts_25 (nI (6 - H)) (nI v) f (nI (k + 1)) (p9_costs m (upd (x9_costs m) (nI (441 * (6 - H) + 21 * v + k)).toNatClampNeg 0))) else (sem_X9_leastCost (nI (6 - H)) (nI v) (nI k) m).bind fun r5 => ck 3087 (nI (441 * (6 - H) + 21 * v + k)) (lp_X9_findCosts_25 (nI (6 - H)) (nI v) f (nI (k + 1)) (p9_costs m (upd (x9_costs m) (nI (441 * (6 - H) + 21 * v + k)).toNatClampNeg r5)))) = lp_X9_findCosts_25 (nI (6 - H)) (nI v) f (nI (k + 1)) (p9_costs m (upd (x9_costs m) (441 * (6 - H) + 21 * v + k) (nI x))) := by
        by_cases z : H = 0
        · subst z
          refine ⟨0, SC0 _ _ _ _, ?_⟩
          rw [if_pos (show nI (6 - 0) = 6 from rfl), ck_in (vp_in_nI (by omega) (by decide)), tcl (by omega)]
          rfl
        · obtain ⟨n, rfl⟩ : ∃ n, H = n + 1 := ⟨H - 1, by omega⟩
          obtain ⟨x, x1, x2⟩ := least_n (m := m) (k := k) hw (show n < 6 by omega) hl hv (by omega) (by rw [hm _ (by omega), show 5 - (5 - n) = n by omega]) hli (hR n rfl)
          refine ⟨x, x2, ?_⟩
          rw [if_neg (fun z => by have := (nI_eq (a := 6 - (n + 1)) (b := 6) (by omega) (by decide)).mp z; omega), show 6 - (n + 1) = 5 - n by omega, x1, bs, ck_in (vp_in_nI (by omega) (by decide)), tcl (by omega)]
      obtain ⟨x, x1, x2⟩ := hx
      rw [if_neg (show ¬ (21 : Int32) ≤ nI k from nI_ge (a := k) (b := 21) (by omega) (by decide)), at_ix, bs, nI_1, x2]
      have hR2 : ∀ n, n + 1 = H → RC (p9_costs m (upd (x9_costs m) (441 * (6 - H) + 21 * v + k) (nI x))) w l n := by
        intro n hn v' k' p1 p2
        obtain ⟨y, y1, y2⟩ := hR n hn v' k' p1 p2
        refine ⟨y, ?_, y2⟩
        show upd (x9_costs m) (441 * (6 - H) + 21 * v + k) (nI x) _ = _
        rw [pk_un (by omega), y1]
      obtain ⟨C, g1, g2, g3⟩ := ih (k + 1) (by omega) (by omega) (p9_costs m (upd (x9_costs m) (441 * (6 - H) + 21 * v + k) (nI x))) hli hm hR2
      refine ⟨C, g1, fun q hq => ?_, fun i p1 p2 => ?_⟩
      · rw [g2 q (by omega)]
        show upd (x9_costs m) (441 * (6 - H) + 21 * v + k) (nI x) q = _
        rw [pk_un (by omega)]
      · by_cases z : i = k
        · subst z
          refine ⟨x, ?_, x1⟩
          rw [g2 _ (by omega)]
          exact pk_us
        · exact g3 i (by omega) p2
theorem vs_lp {w : Nat → Nat} {l H : Nat} (hw : ∀ n, w n ≤ 9) (hH : H ≤ 6) (hl : l ≤ 20) : ∀ f v, v ≤ l + 1 → l + 2 ≤ f + v → ∀ m : S9, x9_limit m = nI l → (∀ h, h < 6 → x9_weight m h = nI (w (5 - h))) → (∀ n, n + 1 = H → RC m w l n) →
    ∃ C, lp_X9_findCosts_14 (nI (6 - H)) f (nI v) m = some (p9_costs m C) ∧ (∀ q, ¬ (441 * (6 - H) + 21 * v ≤ q ∧ q ≤ 441 * (6 - H) + 21 * l + 20) → C q = x9_costs m q) ∧ ∀ u i, v ≤ u → u ≤ l → i ≤ 20 → ∃ x, C (441 * (6 - H) + 21 * u + i) = nI x ∧ SC w l H u i x := by
  intro f
  induction f with
  | zero => intro v h1 h2; omega
  | succ f ih =>
    intro v h1 h2 m hli hm hR
    show ∃ C, bd_X9_findCosts_14 (nI (6 - H)) (lp_X9_findCosts_14 (nI (6 - H)) f) (nI v) m = _ ∧ _
    unfold bd_X9_findCosts_14
    by_cases q : v = l + 1
    · subst q
      rw [hli, if_pos (nI_lt (Nat.lt_succ_self _) (by omega))]
      exact ⟨x9_costs m, rfl, fun _ _ => rfl, fun u i p1 p2 => by omega⟩
    · obtain ⟨C1, a1, a2, a3⟩ := left_lp hw hH hl (show v ≤ l by omega) FUEL 0 (Nat.zero_le _) (by rw [fuel_s]; omega) m hli hm hR
      have a1' : lp_X9_findCosts_25 (nI (6 - H)) (nI v) FUEL 0 m = some (p9_costs m C1) := a1
      rw [hli, if_neg (nI_nlt (by omega) (by omega)), a1', bs, nI_1]
      have hR2 : ∀ n, n + 1 = H → RC (p9_costs m C1) w l n := by
        intro n hn v' k' p1 p2
        obtain ⟨y, y1, y2⟩ := hR n hn v' k' p1 p2
        refine ⟨y, ?_, y2⟩
        show C1 _ = _
        rw [a2 _ (by omega), y1]
      obtain ⟨C, g1, g2, g3⟩ := ih (v + 1) (by omega) (by omega) (p9_costs m C1) hli hm hR2
      refine ⟨C, g1, fun q hq => ?_, fun u i p1 p2 p3 => ?_⟩
      · rw [g2 q (by omega)]
        exact a2 q (by omega)
      · by_cases z : u = v
        · subst z
          obtain ⟨x, x1, x2⟩ := a3 i (Nat.zero_le _) p3
          refine ⟨x, ?_, x2⟩
          rw [g2 _ (by omega)]
          exact x1
        · exact g3 u i (by omega) p2 p3
def TS9 (m : S9) (w : Nat → Nat) (l H : Nat) : Prop := x9_limit m = nI l ∧ (∀ h, h < 6 → x9_weight m h = nI (w (5 - h))) ∧ ∀ n, n < H → RC m w l n
theorem all_lp9 {w : Nat → Nat} {l : Nat} (hw : ∀ n, w n ≤ 9) (hl : l ≤ 20) : ∀ f H, H ≤ 7 → 8 ≤ f + H → ∀ m : S9, TS9 m w l H → ∃ C, lp_X9_findCosts_8 f (nI (7 - H) - 1) m = some (p9_costs m C) ∧ TS9 (p9_costs m C) w l 7 := by
  intro f
  induction f with
  | zero => intro H h1 h2; omega
  | succ f ih =>
    intro H h1 h2 m hS
    show ∃ C, bd_X9_findCosts_8 (lp_X9_findCosts_8 f) (nI (7 - H) - 1) m = _ ∧ _
    unfold bd_X9_findCosts_8
    by_cases q : H = 7
    · subst q
      rw [if_pos (by decide)]
      exact ⟨x9_costs m, rfl, hS⟩
    · obtain ⟨C1, a1, a2, a3⟩ := vs_lp hw (show H ≤ 6 by omega) hl FUEL 0 (Nat.zero_le _) (by rw [fuel_s]; omega) m hS.1 hS.2.1 (fun n hn => hS.2.2 n (by omega))
      have a1' : lp_X9_findCosts_14 (nI (6 - H)) FUEL 0 m = some (p9_costs m C1) := a1
      rw [show 7 - H = (6 - H) + 1 by omega, nI_pred, if_neg (no0 (by omega)), a1', bs]
      have hS2 : TS9 (p9_costs m C1) w l (H + 1) := by
        refine ⟨hS.1, hS.2.1, fun n hn v k p1 p2 => ?_⟩
        by_cases z : n = H
        · subst z
          exact a3 v k (Nat.zero_le _) p1 p2
        · obtain ⟨x, x1, x2⟩ := hS.2.2 n (by omega) v k p1 p2
          refine ⟨x, ?_, x2⟩
          show C1 _ = _
          rw [a2 _ (by omega)]
          exact x1
      obtain ⟨C, g1, g2⟩ := ih (H + 1) (by omega) (by omega) _ hS2
      rw [show 7 - (H + 1) = 6 - H by omega] at g1
      exact ⟨C, g1, g2⟩
theorem find9 {W l : Nat} (hW : W < 2 ^ 31) (hl : l ≤ 20) (m : S9) (hli : x9_limit m = nI l) : ∃ m2, sem_X9_findCosts (nI W) m = some m2 ∧ TS9 m2 (wt W) l 7 ∧ coreM m2 = coreM m := by
  obtain ⟨Q, a1, a2⟩ := lay_lp hW FUEL 0 (Nat.zero_le _) (by rw [fuel_s]; omega) m
  rw [Nat.pow_zero, Nat.div_one] at a1
  have a1' : lp_X9_layWeights_4 FUEL (nI W) 5 m = some (p9_weight m Q) := a1
  have h0 : TS9 (p9_weight m Q) (wt W) l 0 := ⟨hli, fun h hh => by
    show Q h = _
    rw [a2 h hh, if_pos (show h + 0 ≤ 5 by omega)], fun n hn => by omega⟩
  obtain ⟨C, g1, g2⟩ := all_lp9 (wt_le W) hl FUEL 0 (by decide) (by rw [fuel_s]; omega) _ h0
  have g1' : lp_X9_findCosts_8 FUEL 6 (p9_weight m Q) = some (p9_costs (p9_weight m Q) C) := g1
  refine ⟨p9_costs (p9_weight m Q) C, ?_, g2, rfl⟩
  unfold sem_X9_findCosts sem_X9_layWeights
  rw [a1', bs, bs, g1', bs]
