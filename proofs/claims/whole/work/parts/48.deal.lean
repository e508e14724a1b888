/-! deal: who gets what -/
theorem pc_lp {s : S1} {T k L gl f : Nat} {wd : Int32} (hT : T < 64) (hs : x1_there s = nI T) (hk : k < 6) (hb : T.testBit k = true) (hL : L ≤ 20) (hg : gl ≤ L) {V : Nat → Nat} (hV : ∀ p, p ≤ L → sem_X1_withPart (nI k) (nI L) (nI p) s = some (nI (V p)) ∧ V p ≤ 2000) (hf : x1_fewest s (k * 21 + L) = nI f) (hf2 : f ≤ 1000) (he : V gl = f) (hne : ∀ i, i < gl → ¬ V i = f) : ∀ n i, i ≤ gl → 22 ≤ n + i → lp_X1_partOf_29 wd (nI L) (nI k) s n (nI i) = some (nI gl) := by
  intro n
  induction n with
  | zero => intro i h1 h2; omega
  | succ n ih =>
    intro i h1 h2
    show bd_X1_partOf_29 wd (nI L) (nI k) s (lp_X1_partOf_29 wd (nI L) (nI k) s n) (nI i) = _
    unfold bd_X1_partOf_29
    rw [mf_n hT hs hk, bs, if_pos hb]
    by_cases q : i = L
    · rw [q, if_pos (nI_le (Nat.le_refl _) (by omega)), show gl = L by omega]
    · obtain ⟨t1, t2⟩ := hV i (by omega)
      rw [if_neg (nI_ge (by omega) (by omega)), t1, bs, ff_n s (by omega) hL, bs, hf, nI_1]
      by_cases z : i = gl
      · subst z
        rw [if_pos (by rw [he])]
      · rw [if_neg (fun y => hne i (by omega) ((nI_eq (by omega) (by omega)).mp y))]
        exact ih (i + 1) (by omega) (by omega)
theorem pc_no {s : S1} {T k : Nat} {wd x : Int32} (hT : T < 64) (hs : x1_there s = nI T) (hk : k < 6) (hb : ¬ T.testBit k = true) : lp_X1_partOf_29 wd x (nI k) s FUEL 0 = some 0 := by
  rw [show FUEL = 4095 + 1 from rfl]
  show bd_X1_partOf_29 wd x (nI k) s (lp_X1_partOf_29 wd x (nI k) s 4095) 0 = _
  unfold bd_X1_partOf_29
  rw [mf_n hT hs hk, bs, if_neg hb, if_pos (by decide)]
theorem pm_lp {m : S9} {k L gl g : Nat} {wd : Int32} (hk : k < 6) (hL : L ≤ 20) (hg : gl ≤ L) {V : Nat → Nat} (hV : ∀ p, p ≤ L → sem_X9_slipsBy (nI k) (nI L) (nI p) m = some (nI (V p)) ∧ V p ≤ 200000) (hf : x9_slipsFrom m (21 * k + L) = nI g) (hf2 : g ≤ 100000) (he : V gl = g) (hne : ∀ i, i < gl → ¬ V i = g) : ∀ n i, i ≤ gl → 22 ≤ n + i → lp_X9_deal_97 wd (nI L) (nI k) m n (nI i) = some (nI gl) := by
  intro n
  induction n with
  | zero => intro i h1 h2; omega
  | succ n ih =>
    intro i h1 h2
    show bd_X9_deal_97 wd (nI L) (nI k) m (lp_X9_deal_97 wd (nI L) (nI k) m n) (nI i) = _
    unfold bd_X9_deal_97
    obtain ⟨t1, t2⟩ := hV i (by omega)
    rw [t1, bs, show (21 : Int32) * nI k = nI (21 * k) from pk_mul 21 k, nI_add, ck_in (vp_in_nI (by omega) (by decide)), tcl (by omega), hf, nI_1]
    by_cases z : i = gl
    · subst z
      rw [if_pos (by rw [he])]
    · rw [if_neg (fun y => hne i (by omega) ((nI_eq (by omega) (by omega)).mp y))]
      exact ih (i + 1) (by omega) (by omega)
/-- what one who is there gets: for both sides -/
theorem gets_n {T : Nat} (hT : T < 64) {A : Nat → Nat → Nat} {s : S1} {m : S9} (hD : DI T A s m 6) {k L : Nat} {wd : Int32} (hk : k < 6) (hb : T.testBit k = true) (hL : L ≤ 20) : ∃ gl, gl ≤ L ∧ lp_X1_partOf_29 wd (nI L) (nI k) s FUEL 0 = some (nI gl) ∧ lp_X9_deal_97 wd (nI L) (nI k) m FUEL 0 = some (nI gl) := by
  obtain ⟨d1, d2, d3, d4⟩ := hD
  obtain ⟨f, g, y1, y2, y3⟩ := d3 k (by omega) (by omega) L hL
  have hf36 := Rl_fin y3 (Nat.le_refl k) hk hb
  have hgb := (Rl_f y3).2
  obtain ⟨hal, hat⟩ := d4 k (by omega) hk hb
  obtain ⟨F, G, hFG⟩ := RW_fun (d3 (k + 1) (by omega) (by omega))
  obtain ⟨v, v1, v2, v3⟩ := d2.2 k hk hb
  have hex : ∃ p, p ≤ L ∧ (A k p + F (L - p) = f) := by
    obtain ⟨p, f2, w1, w2, w3, w4⟩ := hat L f hL y1 (by omega) hf36
    refine ⟨p, w1, ?_⟩
    have h := (hFG (L - p) (by omega)).1
    have hF := (Rl_f (hFG (L - p) (by omega)).2.2).1
    have : F (L - p) = f2 := (nI_eq (by omega) (by omega)).mp (h.symm.trans w2)
    omega
  obtain ⟨gl, q1, q2, q3⟩ := least_of (fun p => A k p + F (L - p) = f) L hex
  have hiff : ∀ p, p ≤ L → ((A k p + F (L - p) = f) ↔ (A k p + G (L - p) = g)) := fun p hp => Rl_iff (v3 p (by omega)).1 y3 hf36 (hFG (L - p) (by omega)).2.2
  refine ⟨gl, q1, ?_, ?_⟩
  · exact pc_lp hT d1 hk hb hL q1 (V := fun p => A k p + F (L - p)) (fun p hp => ⟨by
      rw [wp_n hT d1 hk hL hp, if_pos hb, hal p (by omega), (hFG (L - p) (by omega)).1, nI_add], by
      have := (v3 p (by omega)).1
      have := (Rl_f (hFG (L - p) (by omega)).2.2).1
      show A k p + F (L - p) ≤ 2000
      omega⟩) y1 (by omega) q2 q3 FUEL 0 (Nat.zero_le _) (by rw [fuel_s]; omega)
  · exact pm_lp hk hL q1 (V := fun p => A k p + G (L - p)) (fun p hp => ⟨by
      obtain ⟨z1, c, z2, z3, z4⟩ := v3 p (by omega)
      rw [sb_n hk hL hp v1 v2 z3 z2, z4, (hFG (L - p) (by omega)).2.1, nI_add], by
      have := (v3 p (by omega)).1
      have := (Rl_f (hFG (L - p) (by omega)).2.2).2
      show A k p + G (L - p) ≤ 200000
      omega⟩) y2 hgb ((hiff gl q1).mp q2) (fun i hi hz => q3 i hi ((hiff i (by omega)).mpr hz)) FUEL 0 (Nat.zero_le _) (by rw [fuel_s]; omega)
theorem part_lp {T : Nat} (hT : T < 64) {A : Nat → Nat → Nat} {s : S1} {m : S9} (hD : DI T A s m 6) {w : Nat} (hw : w < 6) (hbw : T.testBit w = true) : ∀ n k, k ≤ w + 1 → 8 ≤ n + k → ∀ left part (gets : Int32), part ≤ left → left ≤ 20 → (k = w + 1 → gets = nI part) → ∃ r, lp_X1_partOf_8 (nI w) s n (nI left) (nI part) (nI k) = some r ∧ lp_X9_deal_79 (nI w) m n (nI (left - part)) gets (nI k) = some r := by
  intro n
  induction n with
  | zero => intro k h1 h2; omega
  | succ n ih =>
    intro k h1 h2 left part gets h3 h4 h5
    show ∃ r, bd_X1_partOf_8 (nI w) s (lp_X1_partOf_8 (nI w) s n) (nI left) (nI part) (nI k) = some r ∧ bd_X9_deal_79 (nI w) m (lp_X9_deal_79 (nI w) m n) (nI (left - part)) gets (nI k) = some r
    unfold bd_X1_partOf_8 bd_X9_deal_79
    by_cases q : k = w + 1
    · rw [if_pos (nI_lt (by omega) (by omega)), if_pos (nI_lt (by omega) (by omega))]
      exact ⟨nI part, rfl, by rw [h5 q]⟩
    · rw [if_neg (nI_nlt (by omega) (by omega)), if_neg (nI_nlt (by omega) (by omega)), if_neg (no6 (by omega)), pk_sub h3, isOne_n hT hD.2.1.1 (by omega), bs, nI_1]
      by_cases hb : T.testBit k = true
      · obtain ⟨gl, g1, g2, g3⟩ := gets_n hT hD (k := k) (L := left - part) (wd := nI w) (by omega) hb (by omega)
        rw [g2, bs, if_pos hb, if_neg one_ne, g3, bs, pk_sub g1]
        exact ih (k + 1) (by omega) (by omega) (left - part) gl (nI gl) g1 (by omega) (fun _ => rfl)
      · rw [pc_no hT hD.1 (by omega) hb, bs, if_neg hb, if_pos rfl]
        obtain ⟨r, r1, r2⟩ := ih (k + 1) (by omega) (by omega) (left - part) 0 gets (Nat.zero_le _) (by omega) (fun z => by
          have : k = w := by omega
          rw [this] at hb
          exact absurd hbw hb)
        exact ⟨r, r1, r2⟩
theorem nI_n1 : ∀ {w : Nat}, w < 6 → ¬ nI w = -1 := by decide +kernel
theorem some_one : ∀ T, T < 64 → T ≠ 0 → ∃ i, i < 6 ∧ T.testBit i = true := by decide +kernel
theorem core_t {m m1 : S9} (h : coreM m1 = coreM m) : x9_there m1 = x9_there m ∧ x9_temper m1 = x9_temper m ∧ x9_limit m1 = x9_limit m := by
  simp only [coreM, Prod.mk.injEq] at h
  obtain ⟨h1, h2, -⟩ := h
  unfold x9_there x9_temper x9_limit
  rw [h1, h2]
  exact ⟨rfl, rfl, rfl⟩
theorem deal_n {s : S8} {m : S9} {j0 j1 : Option S6} (hR : RR s m j0 j1) {T l W : Nat} (hT : T < 64) (hth : x9_there m = nI T) (hl : l ≤ 20) (hli : x9_limit m = nI l) (hW : W ≤ 999999) (hc0 : ∀ i, i < 6 → ∃ v, v ≤ 20 ∧ mF m i 0 = nI v ∧ (T.testBit i = true → v ≤ l)) :
    ∃ s5 s2 m2 A, sem_X5_reckon (nI W) (nI l) (x8_thrift s) = some s5 ∧ sem_X1_reckon (x8_dealing s) (x8_town s) s5 = some s2 ∧ sem_X9_findDeals (nI W) m = some m2 ∧ DI T A s2 m2 6 ∧ RR (p8_dealing (p8_thrift s s5) s2) m2 j0 j1 ∧ RR s m2 j0 j1 := by
  obtain ⟨s5, a1, a2, a3⟩ := reckon5 (W := W) (l := l) (by omega) hl (x8_thrift s) hR.2.2.2.2.1
  obtain ⟨m1, c1, c2, c3⟩ := find9 (W := W) (l := l) (by omega) hl m hli
  obtain ⟨t1, t2, t3⟩ := core_t c3
  have hdo : ∀ k, k < 6 → T.testBit k = true → ∃ v, v ≤ 20 ∧ x9_temper m k = nI v ∧ NV (x9_temper m k) = v ∧ ∀ p, p ≤ 20 → ∃ c jj, c < 2 ^ 31 ∧ x9_costs m1 (21 * v + p) = nI c ∧ c / 100 = jj ∧ jj ≤ 6 ∧ sem_X5_fewestSlips (nI v) (nI p) s5 = some (nI jj) := by
    intro k hk hb
    obtain ⟨v, v1, v2, v3⟩ := hc0 k hk
    have v4 : x9_temper m k = nI v := v2
    refine ⟨v, v1, v4, by rw [v4, NV_n (by omega)], fun p hp => ?_⟩
    obtain ⟨x, x1, x2⟩ := c2.2.2 6 (by decide) v p (v3 hb) hp
    obtain ⟨jj, ss, y1, hO⟩ := Op_of x2 hp
    have hj6 := (Pl_le _ l 6 v jj ss hO.1).1
    have hss := hO.2.1
    have x1' : x9_costs m1 (441 * 0 + 21 * v + p) = nI x := x1
    rw [show 441 * 0 + 21 * v + p = 21 * v + p by omega] at x1'
    exact ⟨x, jj, by omega, x1', by omega, hj6, slips_n hl (v3 hb) (a2.2.1 6 (Nat.le_refl _)) hO⟩
  obtain ⟨A, hA⟩ : ∃ A : Nat → Nat → Nat, ∀ k p, A k p = NV (x9_costs m1 (21 * NV (x9_temper m k) + p)) / 100 := ⟨_, fun _ _ => rfl⟩
  have hA9 : AW9 T m1 A := by
    refine ⟨t1.trans hth, fun k hk hb => ?_⟩
    obtain ⟨v, v1, v2, v3, v4⟩ := hdo k hk hb
    refine ⟨v, v1, by rw [t2]; exact v2, fun p hp => ?_⟩
    obtain ⟨c, jj, y1, y2, y3, y4, y5⟩ := v4 p hp
    have hAk : A k p = jj := by rw [hA, v3, y2, NV_n y1, y3]
    exact ⟨by omega, c, y1, y2, by omega⟩
  have ht : ∀ k, k < 6 → ∃ v, v ≤ 20 ∧ x6_facts (x8_town s) (k * 6 + 0) = nI v ∧ (T.testBit k = true → ∀ p, p ≤ 20 → sem_X5_fewestSlips (nI v) (nI p) s5 = some (nI (A k p))) := by
    intro k hk
    obtain ⟨v, v1, v2, v3⟩ := hc0 k hk
    refine ⟨v, v1, (hR.1.1.2.2.2.2.1 k hk 0 (by decide)).trans v2, fun hb p hp => ?_⟩
    obtain ⟨v', w1, w2, w3, w4⟩ := hdo k hk hb
    have hvv : v' = v := (nI_eq (by omega) (by omega)).mp (w2.symm.trans (show x9_temper m k = nI v from v2))
    subst hvv
    obtain ⟨c, jj, y1, y2, y3, y4, y5⟩ := w4 p hp
    rw [y5, hA, w3, y2, NV_n y1, y3]
  obtain ⟨s2, Q, g1, g2, g3⟩ := tables_n hT (hR.1.1.1.trans hth) ht (x8_dealing s) m1 hA9
  have hRm : RR s (p9_slipsFrom m1 Q) j0 j1 := hR.core (c3 : coreM (p9_slipsFrom m1 Q) = coreM m)
  refine ⟨s5, s2, p9_slipsFrom m1 Q, A, a1, g1, ?_, g3, hRm.coreX rfl rfl (fun q p1 p2 => a3 q p1) (fun _ _ _ => rfl), hRm⟩
  unfold sem_X9_findDeals
  rw [c1, bs, g2, bs]
theorem ok_deal : hF_deal RR := by
  intro x1 x2 x3 s m j0 j1 hR
  obtain ⟨T, l, e, c, b1, b2, b3, b4, b5, b6, b7, b8, b9, c0, -⟩ := hR.1.2
  have hlx : x6_limit (x8_town s) = nI l := hR.1.1.2.1.trans b5
  have hthx : x6_there (x8_town s) = nI T := hR.1.1.1.trans b2
  have main : (x3 = -1 ∨ ∃ w, w < 6 ∧ x3 = nI w ∧ T.testBit w = true) → ∃ (r : Int32) (s2 : S8) (m2 : S9), jn_X8_deal_18 x1 x2 x3 s = some (r, s2) ∧ jn_X9_deal_15 x1 x2 x3 m = some (r, m2) ∧ RR s2 m2 j0 j1 := by
    intro hx3
    unfold jn_X8_deal_18 jn_X9_deal_15
    rcases gd x1 0 20 (by decide) (by decide) (a := 0) (b := 20) (A := 0) (B := 20) rfl rfl rfl rfl with ⟨k, -, hk, rfl, e1, e2⟩ | ⟨e1, e2, -⟩
    · rw [e1, e2, bs, bs, if_neg one_ne, if_neg one_ne]
      rcases gd x2 0 999999 (by decide) (by decide) (a := 0) (b := 999999) (A := 0) (B := 999999) rfl rfl rfl rfl with ⟨W, -, hW, rfl, e1, e2⟩ | ⟨e1, e2, -⟩
      · rw [e1, e2, bs, bs, if_neg one_ne, if_neg one_ne, hthx, hlx]
        obtain ⟨s5, s2, m2, A, g1, g2, g3, g4, g5, g6⟩ := deal_n hR b1 b2 b4 b5 hW c0
        have g2' : sem_X1_reckon (x8_dealing (p8_thrift s s5)) (x8_town (p8_thrift s s5)) (x8_thrift (p8_thrift s s5)) = some s2 := g2
        rw [g1, bs, g2', bs, g3, bs, g4.2.1.1]
        by_cases hT0 : T = 0
        · subst hT0
          rw [if_pos (show nI 0 = 0 from rfl), if_pos (show nI 0 = 0 from rfl)]
          rcases hx3 with rfl | ⟨w, w1, rfl, w2⟩
          · rw [if_pos rfl]; exact ⟨0, s, m2, rfl, rfl, g6⟩
          · simp at w2
        · have hTn : ¬ nI T = 0 := nI_ne0 (by omega) (by omega)
          rw [if_neg hTn, if_neg hTn]
          rcases hx3 with rfl | ⟨w, w1, rfl, w2⟩
          · rw [if_pos rfl, if_pos rfl]
            obtain ⟨f, g, y1, y2, y3⟩ := g4.2.2.1 0 (by decide) (by decide) k hk
            obtain ⟨i, i1, i2⟩ := some_one T b1 hT0
            have hf := Rl_fin y3 (Nat.zero_le i) i1 i2
            have hfg : f = g := by
              rcases y3 with ⟨z, -⟩ | ⟨z, -⟩
              · exact z
              · omega
            have e : sem_X1_fewestFrom 0 (nI k) (x8_dealing (p8_dealing (p8_thrift s s5) s2)) = some (nI f) := (ff_n s2 (k := 0) (by decide) hk).trans (congrArg some y1)
            have y2' : x9_slipsFrom m2 k = nI g := by
              rw [show 21 * 0 + k = k by omega] at y2
              exact y2
            rw [e, bs, ck_in (vp_in_nI (by omega) (by decide)), tcl (by omega), y2', hfg]
            exact ⟨_, _, _, rfl, rfl, g5⟩
          · have hw : ¬ nI w = -1 := nI_n1 w1
            rw [if_neg hw, if_neg hw]
            obtain ⟨r, r1, r2⟩ := part_lp b1 g4 w1 w2 FUEL 0 (Nat.zero_le _) (by rw [fuel_s]; omega) k 0 0 (Nat.zero_le _) hk (fun z => by omega)
            have r1' : lp_X1_partOf_8 (nI w) (x8_dealing (p8_dealing (p8_thrift s s5) s2)) FUEL (nI k) 0 0 = some r := r1
            have r2' : lp_X9_deal_79 (nI w) m2 FUEL (nI k) 0 0 = some r := r2
            unfold sem_X1_partOf
            rw [r1', bs, bs, r2', bs]
            exact ⟨_, _, _, rfl, rfl, g5⟩
      · rw [e1, e2]; exact ⟨_, _, _, rfl, rfl, hR⟩
    · rw [e1, e2]; exact ⟨_, _, _, rfl, rfl, hR⟩
  unfold sem_X8_deal sem_X9_deal
  by_cases q : x3 = -1
  · rw [if_pos q, if_pos q]
    exact main (Or.inl q)
  · rw [if_neg q, if_neg q]
    rcases gone x3 b1 hthx b2 with ⟨w, w1, rfl, w2, e1, e2⟩ | ⟨e1, e2⟩
    · rw [e1, e2, bs, bs, if_neg one_ne, if_neg one_ne]
      exact main (Or.inr ⟨w, w1, rfl, w2⟩)
    · rw [e1, e2]; exact ⟨_, _, _, rfl, rfl, hR⟩
