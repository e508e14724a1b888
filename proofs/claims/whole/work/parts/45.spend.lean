/-! spend -/
theorem SC_uniq {w : Nat → Nat} {l n v k j s x : Nat} (h : Op w l n v k j s) (hx : SC w l n v k x) : x = 100 * j + s := by
  obtain ⟨h1, h2, h3, h4⟩ := h
  have a1 := hx.1 j s h1 h2
  obtain ⟨j2, s2, b1, b2, b3⟩ := hx.2
  have a2 := h4.1 j2 s2 b1 b2
  omega
theorem slips_lp {s : S5} {w : Nat → Nat} {l v k j0 s0 : Nat} (hl : l ≤ 20) (hv : v ≤ l) (hR : RD s w l 6) (hO : Op w l 6 v k j0 s0) : ∀ f j, j ≤ j0 → 7 ≤ f + j → lp_X5_fewestSlips_2 (nI v) (nI k) s f (nI j) = some (if j0 = 6 then Sum.inr () else Sum.inl (nI j0)) := by
  have hj6 := (Pl_le w l 6 v j0 s0 hO.1).1
  have hk := hO.2.2.1
  intro f
  induction f with
  | zero => intro j h1 h2; omega
  | succ f ih =>
    intro j h1 h2
    show bd_X5_fewestSlips_2 (nI v) (nI k) s (lp_X5_fewestSlips_2 (nI v) (nI k) s f) (nI j) = _
    unfold bd_X5_fewestSlips_2
    by_cases q : j = 6
    · subst q
      rw [if_pos (by decide), if_pos (show j0 = 6 by omega)]
    · obtain ⟨x, x1, x2⟩ := hR v j hv (by omega)
      have e : sem_X5_fewestStamps 0 (nI v) (nI j) s = some (nI x) := (few_n s (h := 0) (v := v) (j := j) (by decide) (by omega) (by omega)).trans (congrArg some x1)
      rw [if_neg (no6 (by omega)), e, bs]
      by_cases z : j = j0
      · subst z
        have hx := Op_D hO x2
        have h2s := hO.2.1
        rw [if_neg (nI_nlt (by omega) (by omega)), if_neg q]
      · have hx := Op_less hO (show j < j0 by omega) x2
        have hx2 := x2.1
        rw [if_pos (nI_lt hx (by omega)), nI_1]
        exact ih (j + 1) (by omega) (by omega)
theorem slips_n {s : S5} {w : Nat → Nat} {l v k j0 s0 : Nat} (hl : l ≤ 20) (hv : v ≤ l) (hR : RD s w l 6) (hO : Op w l 6 v k j0 s0) : sem_X5_fewestSlips (nI v) (nI k) s = some (nI j0) := by
  unfold sem_X5_fewestSlips
  rw [show (0 : Int32) = nI 0 from rfl, slips_lp hl hv hR hO FUEL 0 (Nat.zero_le _) (by rw [fuel_s]; omega), bs]
  by_cases q : j0 = 6
  · rw [if_pos q, q]; rfl
  · rw [if_neg q]; rfl
theorem str_c {s : S5} {x3 : Int32} {w : Nat → Nat} {l n j s0 gl : Nat} {a : Nat} (hn : n < 6) (ha : a ≤ 20) (hj : j ≤ 6) (hs0 : s0 ≤ 20) (hg : gl ≤ 9) (hga : gl ≤ a) {T : Nat → Nat} (hT : ∀ y, y ≤ gl → x5_table s (((6 - n) * 21 + nx a y) * 7 + j) = nI (T y) ∧ T y ≤ 1000) (he : gl + T gl = s0) (hne : ∀ i, i < gl → ¬ i + T i = s0) : ∀ f i, i ≤ gl → 10 ≤ f + i → lp_X5_strengths_55 x3 (nI j) (nI (5 - n)) (nI s0) (nI a) s f (nI i) = some (nI gl) := by
  intro f
  induction f with
  | zero => intro i h1 h2; omega
  | succ f ih =>
    intro i h1 h2
    show bd_X5_strengths_55 x3 (nI j) (nI (5 - n)) (nI s0) (nI a) s (lp_X5_strengths_55 x3 (nI j) (nI (5 - n)) (nI s0) (nI a) s f) (nI i) = _
    unfold bd_X5_strengths_55
    by_cases q : i = 9
    · subst q
      rw [if_pos (by decide), show gl = 9 by omega]
    · obtain ⟨t1, t2⟩ := hT i h1
      rw [if_neg (show ¬ (9 : Int32) ≤ nI i from nI_ge (a := i) (b := 9) (by omega) (by decide)), ah_n ha (by omega), bs, nI_1, show 5 - n + 1 = 6 - n by omega, few_n s (by omega) (by unfold nx; omega) hj, bs, t1, nI_add, nI_1]
      by_cases z : i = gl
      · subst z
        rw [if_pos (by rw [he])]
      · rw [if_neg (fun y => hne i (by omega) ((nI_eq (by omega) (by omega)).mp y))]
        exact ih (i + 1) (by omega) (by omega)
theorem str_m {m : S9} {x3 : Int32} {w : Nat → Nat} {l n v k c gl : Nat} (hk : k ≤ 20) (hn : n < 6) (hl : l ≤ 20) (hv : v ≤ l) {V : Nat → Nat} (hg : gl ≤ 9) (hV : ∀ y, y ≤ 9 → sem_X9_costBy (nI (5 - n)) (nI v) (nI k) (nI y) m = some (nI (V y)) ∧ V y ≤ 100000) (hc : x9_costs m (441 * (5 - n) + 21 * v + k) = nI c) (hc2 : c ≤ 100000) (he : V gl = c) (hne : ∀ i, i < gl → ¬ V i = c) : ∀ f i, i ≤ gl → 10 ≤ f + i → lp_X9_strengths_21 x3 (nI v) (nI k) (nI (5 - n)) m f (nI i) = some (nI gl) := by
  intro f
  induction f with
  | zero => intro i h1 h2; omega
  | succ f ih =>
    intro i h1 h2
    show bd_X9_strengths_21 x3 (nI v) (nI k) (nI (5 - n)) m (lp_X9_strengths_21 x3 (nI v) (nI k) (nI (5 - n)) m f) (nI i) = _
    unfold bd_X9_strengths_21
    obtain ⟨t1, t2⟩ := hV i (by omega)
    rw [t1, bs, at_ix, bs, ck_in (vp_in_nI (by omega) (by decide)), tcl (by omega), hc, nI_1]
    by_cases z : i = gl
    · subst z
      rw [if_pos (by rw [he])]
    · rw [if_neg (fun y => hne i (by omega) ((nI_eq (by omega) (by omega)).mp y))]
      exact ih (i + 1) (by omega) (by omega)
theorem jn84_n (kc : Int32 → Int32 → Int32 → Int32 → Option Int32) (x3 : Int32) {k h y d : Nat} (hy : y ≤ k) (hd : d < 2 ^ 31) (m : S9) : jn_X9_strengths_84 kc x3 (nI k) (nI h) (nI y) (nI d) m = kc (10 * x3 + nI y) (nI (d - 1)) (nI (k - y)) (nI (h + 1)) := by
  unfold jn_X9_strengths_84 jn_X9_strengths_99
  rw [pk_sub hy, nI_1]
  by_cases z : d = 0
  · subst z
    rw [if_pos (show nI 0 ≤ 0 by decide)]; rfl
  · rw [if_neg (nI_nle (by omega) hd), show d = (d - 1) + 1 by omega, nI_pred]; rfl
theorem str_lp {s : S5} {m : S9} {w : Nat → Nat} {l : Nat} (hw : ∀ n, w n ≤ 9) (hl : l ≤ 20) (h5 : TS5 s w l 6) (h9 : TS9 m w l 7) : ∀ f n, n ≤ 6 → 7 ≤ f + (6 - n) → ∀ (x3 : Int32) v k j s0, v ≤ l → Op w l n v k j s0 → ∃ r, lp_X5_strengths_11 s f x3 (nI v) (nI j) (nI (6 - n)) = some r ∧ lp_X9_strengths_11 m f x3 (nI v) (nI k) (nI (6 - n)) = some r := by
  intro f
  induction f with
  | zero => intro n h1 h2; omega
  | succ f ih =>
    intro n h1 h2 x3 v k j s0 hv hO
    show ∃ r, bd_X5_strengths_11 s (lp_X5_strengths_11 s f) x3 (nI v) (nI j) (nI (6 - n)) = some r ∧ bd_X9_strengths_11 m (lp_X9_strengths_11 m f) x3 (nI v) (nI k) (nI (6 - n)) = some r
    unfold bd_X5_strengths_11 bd_X9_strengths_11 jn_X5_strengths_93
    cases n with
    | zero =>
      rw [if_pos (by decide), if_pos (by decide)]
      exact ⟨x3, rfl, rfl⟩
    | succ n =>
      have hn : n < 6 := by omega
      have hk := hO.2.2.1
      have hs0 := hO.2.1
      have hj7 := (Pl_le w l (n + 1) v j s0 hO.1).1
      have hd := Op_ds hO
      have ha := am_le w (l := l) (n := n) (v := v)
      rw [show 6 - (n + 1) = 5 - n by omega, if_neg (no6 (by omega)), if_neg (no6 (by omega))]
      obtain ⟨x, x1, x2⟩ := h5.2.1 (n + 1) h1 v j hv (by omega)
      rw [show 6 - (n + 1) = 5 - n by omega] at x1
      have hxs := Op_D hO x2
      subst hxs
      obtain ⟨X, hX⟩ := RC_X (v := v) hk (h9.2.2 n (by omega))
      have hx : ∀ y, ∃ x, x5_table s (((6 - n) * 21 + nx (am w l n v) y) * 7 + (j - ds w l n v)) = nI x ∧ SD w l n (nx (am w l n v) y) (j - ds w l n v) x := fun y => h5.2.1 n (by omega) _ _ (by unfold nx; omega) (by omega)
      obtain ⟨T, hT⟩ : ∃ T : Nat → Nat, ∀ y, x5_table s (((6 - n) * 21 + nx (am w l n v) y) * 7 + (j - ds w l n v)) = nI (T y) ∧ SD w l n (nx (am w l n v) y) (j - ds w l n v) (T y) := ⟨fun y => Classical.choose (hx y), fun y => Classical.choose_spec (hx y)⟩
      obtain ⟨gl, g1, ⟨g2, g3⟩, g4⟩ := least_of (fun y => y ≤ am w l n v ∧ y + T y = x) 9 (by
        obtain ⟨y, y1, y2, y3⟩ := Op_ex hO (T := T) (fun y _ _ => (hT y).2)
        exact ⟨y, y1, y2, y3⟩)
      have hne : ∀ i, i < gl → ¬ i + T i = x := fun i hi hz => g4 i hi ⟨by omega, hz⟩
      have hmw : x9_weight m (5 - n) = nI (w n) := by rw [h9.2.1 _ (by omega), show 5 - (5 - n) = n by omega]
      have hmm := h5.2.2 n (by omega)
      obtain ⟨c, c1, c2⟩ := h9.2.2 (n + 1) (by omega) v k hv hk
      rw [show 6 - (n + 1) = 5 - n by omega] at c1
      have hc := SC_uniq hO c2
      obtain ⟨hgk, hO2⟩ := Op_next hO g1 g2 (hT gl).2 (fun y => (hX gl y).2) g3
      have e5 : lp_X5_strengths_55 x3 (nI (j - ds w l n v)) (nI (5 - n)) (nI x) (nI (am w l n v)) s FUEL 0 = some (nI gl) := str_c (w := w) (l := l) hn (by omega) (by omega) (by omega) g1 g2 (fun y _ => ⟨(hT y).1, (hT y).2.1⟩) g3 hne FUEL 0 (Nat.zero_le _) (by rw [fuel_s]; omega)
      have hcb : ∀ i, i ≤ gl → (cb w l n v k X i = c ↔ i + T i = x) := by
        intro i hi
        rw [Op_iff hO (show i ≤ 9 by omega) (show i ≤ am w l n v by omega) (hT i).2 (fun y => (hX i y).2), hc]
        unfold cb
        by_cases z : am w l n v < i ∨ k < i
        · rw [if_pos z]
          exact ⟨fun y => by omega, fun y => by omega⟩
        · rw [if_neg z]
          exact ⟨fun y => ⟨by omega, y⟩, fun y => y.2⟩
      have e9 : lp_X9_strengths_21 x3 (nI v) (nI k) (nI (5 - n)) m FUEL 0 = some (nI gl) := str_m (w := w) (l := l) hk hn hl hv g1 (V := cb w l n v k X) (fun y hy => ⟨cost_n hw hn hl hv hk hmw h9.1 (fun y p1 p2 => (hX y p2).1) (by omega), cb_le (by omega) (fun y p => (hX y p).2) hy⟩) c1 (by omega) ((hcb gl (Nat.le_refl _)).mpr g3) (fun i hi hz => hne i hi ((hcb i (by omega)).mp hz)) FUEL 0 (Nat.zero_le _) (by rw [fuel_s]; omega)
      rw [few_n s (by omega) (by omega) (by omega), bs, x1, am_n hw hn (by omega) hl hmm h5.1, bs, sj_n hw hn (by omega) hl hmm h5.1, bs, pk_sub hd, e5, bs, ah_n (by omega) g2, bs, nI_1, e9, bs, si_n hw hn (by omega) hl hmw h9.1, bs]
      have e6 : (if nI (ds w l n v) = 0 then ck 6 (nI (5 - n)) (jn_X9_strengths_84 (lp_X9_strengths_11 m f) x3 (nI k) (nI (5 - n)) (nI gl) (nI v + x9_weight m (nI (5 - n)).toNatClampNeg - nI gl) m) else jn_X9_strengths_84 (lp_X9_strengths_11 m f) x3 (nI k) (nI (5 - n)) (nI gl) 0 m) = lp_X9_strengths_11 m f (10 * x3 + nI gl) (nI (nx (am w l n v) gl)) (nI (k - gl)) (nI (5 - n + 1)) := by
        have hb : (if nI (ds w l n v) = 0 then ck 6 (nI (5 - n)) (jn_X9_strengths_84 (lp_X9_strengths_11 m f) x3 (nI k) (nI (5 - n)) (nI gl) (nI v + x9_weight m (nI (5 - n)).toNatClampNeg - nI gl) m) else jn_X9_strengths_84 (lp_X9_strengths_11 m f) x3 (nI k) (nI (5 - n)) (nI gl) 0 m) = jn_X9_strengths_84 (lp_X9_strengths_11 m f) x3 (nI k) (nI (5 - n)) (nI gl) (nI (am w l n v - gl)) m := by
          unfold ds am at *
          by_cases q : l < v + w n
          · simp only [if_pos q] at *
            rw [if_neg (show ¬ nI 1 = 0 by decide), show gl = 0 by omega]; rfl
          · simp only [if_neg q] at *
            rw [if_pos (show nI 0 = 0 from rfl), ck_in (vp_in_nI (by omega) (by decide)), tcl (by omega), hmw, nI_add, pk_sub (by omega)]
        rw [hb, jn84_n _ x3 hgk (by omega)]
        rfl
      rw [e6, show 5 - n + 1 = 6 - n by omega]
      exact ih n (by omega) (by omega) (10 * x3 + nI gl) _ _ _ _ (by unfold nx; omega) hO2
theorem ok_spend : hF_spend RR := by
  intro x1 x2 x3 x4 s m j0 j1 hR
  obtain ⟨T, l, e, c, b1, b2, b3, b4, b5, -⟩ := hR.1.2
  have hlx : x6_limit (x8_town s) = nI l := hR.1.1.2.1.trans b5
  unfold sem_X8_spend sem_X9_spend
  rw [hlx, b5]
  rcases gd x1 0 l (by decide) (by omega) (a := 0) (b := (nI l).toInt64) (A := 0) (B := nI l) rfl (nI_l (by omega)) rfl rfl with ⟨v, -, hv, rfl, e1, e2⟩ | ⟨e1, e2, -⟩
  · rw [e1, e2, bs, bs, if_neg one_ne, if_neg one_ne]
    rcases gd x2 0 20 (by decide) (by decide) (a := 0) (b := 20) (A := 0) (B := 20) rfl rfl rfl rfl with ⟨k, -, hk, rfl, e1, e2⟩ | ⟨e1, e2, -⟩
    · rw [e1, e2, bs, bs, if_neg one_ne, if_neg one_ne]
      rcases gd x3 0 999999 (by decide) (by decide) (a := 0) (b := 999999) (A := 0) (B := 999999) rfl rfl rfl rfl with ⟨W, -, hW, rfl, e1, e2⟩ | ⟨e1, e2, -⟩
      · rw [e1, e2, bs, bs, if_neg one_ne, if_neg one_ne]
        rcases gd x4 0 2 (by decide) (by decide) (a := 0) (b := 2) (A := 0) (B := 2) rfl rfl rfl rfl with ⟨wh, -, hwh, rfl, e1, e2⟩ | ⟨e1, e2, -⟩
        · rw [e1, e2, bs, bs, if_neg one_ne, if_neg one_ne]
          obtain ⟨s5, a1, a2, a3⟩ := reckon5 (W := W) (l := l) (by omega) b4 (x8_thrift s) hR.2.2.2.2.1
          obtain ⟨m2, c1, c2, c3⟩ := find9 (W := W) (l := l) (by omega) b4 m b5
          have hRR : RR (p8_thrift s s5) m2 j0 j1 := (hR.core c3).coreX rfl rfl (fun q p1 p2 => a3 q p1) (fun _ _ _ => rfl)
          obtain ⟨x, x1, x2⟩ := c2.2.2 6 (by decide) v k hv hk
          obtain ⟨jj, ss, y1, hO⟩ := Op_of x2 hk
          have hj6 := (Pl_le _ l 6 v jj ss hO.1).1
          have hss := hO.2.1
          have f1 : sem_X5_fewestSlips (nI v) (nI k) (x8_thrift (p8_thrift s s5)) = some (nI jj) := slips_n b4 hv (a2.2.1 6 (Nat.le_refl _)) hO
          have f2 : sem_X9_at 0 (nI v) (nI k) = some (nI (441 * 0 + 21 * v + k)) := at_ix 0 v k
          have x1' : x9_costs m2 (441 * 0 + 21 * v + k) = nI x := x1
          rw [a1, bs, f1, bs, c1, bs, f2, bs, ck_in (vp_in_nI (by omega) (by decide)), tcl (by omega), x1']
          have hw3 : wh = 0 ∨ wh = 1 ∨ wh = 2 := by omega
          rcases hw3 with rfl | rfl | rfl
          · refine ⟨nI jj, _, m2, rfl, ?_, hRR⟩
            rw [if_pos (show nI 0 = 0 from rfl), show nI x / 100 = nI (x / 100) from div_n (by omega) (by decide) (by decide), show x / 100 = jj by omega]
          · refine ⟨nI ss, _, m2, ?_, ?_, hRR⟩
            · obtain ⟨z, z1, z2⟩ := a2.2.1 6 (Nat.le_refl _) v jj hv hj6
              have e : sem_X5_fewestStamps 0 (nI v) (nI jj) (x8_thrift (p8_thrift s s5)) = some (nI z) := (few_n s5 (h := 0) (v := v) (j := jj) (by decide) (by omega) hj6).trans (congrArg some z1)
              rw [if_neg (show ¬ nI 1 = 0 by decide), if_pos (show nI 1 = 1 from rfl), e, bs, Op_D hO z2]
            · rw [if_neg (show ¬ nI 1 = 0 by decide), if_pos (show nI 1 = 1 from rfl), show jrem (nI x) 100 = nI (x % 100) from jrem_n (by omega) (by decide) (by decide), show x % 100 = ss by omega]
          · obtain ⟨r, r1, r2⟩ := str_lp (wt_le W) b4 a2 c2 FUEL 6 (Nat.le_refl _) (by rw [fuel_s]; omega) 0 v k jj ss hv hO
            have r1' : lp_X5_strengths_11 (x8_thrift (p8_thrift s s5)) FUEL 0 (nI v) (nI jj) 0 = some r := r1
            have r2' : lp_X9_strengths_11 m2 FUEL 0 (nI v) (nI k) 0 = some r := r2
            refine ⟨r, _, m2, ?_, ?_, hRR⟩
            · rw [if_neg (show ¬ nI 2 = 0 by decide), if_neg (show ¬ nI 2 = 1 by decide)]
              unfold sem_X5_strengths
              rw [r1']; rfl
            · rw [if_neg (show ¬ nI 2 = 0 by decide), if_neg (show ¬ nI 2 = 1 by decide)]
              unfold sem_X9_strengths
              rw [r2']; rfl
        · rw [e1, e2]; exact ⟨_, _, _, rfl, rfl, hR⟩
      · rw [e1, e2]; exact ⟨_, _, _, rfl, rfl, hR⟩
    · rw [e1, e2]; exact ⟨_, _, _, rfl, rfl, hR⟩
  · rw [e1, e2]; exact ⟨_, _, _, rfl, rfl, hR⟩
