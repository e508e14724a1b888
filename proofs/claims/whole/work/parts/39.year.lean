/-! year -/
theorem jreml_n {a d : Nat} (ha : a < 2 ^ 63) (h0 : 0 < d) (hd : d < 2 ^ 63) : jreml (lN a) (lN d) = lN (a % d) := pk_lRem ha h0 hd
theorem yx_c {x : Nat} (hx : x < 65537) : jrem (75 * nI x + 74) 65537 = nI ((75 * x + 74) % 65537) := by
  rw [show (75 : Int32) * nI x = nI (75 * x) from pk_mul 75 x, show nI (75 * x) + 74 = nI (75 * x + 74) from nI_add (75 * x) 74]
  exact jrem_n (by omega) (by decide) (by decide)
theorem yx_m {x : Nat} (hx : x < 65537) : Int64.toInt32 (jreml (75 * Int32.toInt64 (nI x) + 74) 65537) = nI ((75 * x + 74) % 65537) := by
  rw [nI_l (by omega), show (75 : Int64) * lN x = lN (75 * x) from lN_mul 75 x, show lN (75 * x) + 74 = lN (75 * x + 74) from lN_add (75 * x) 74, show jreml (lN (75 * x + 74)) 65537 = lN ((75 * x + 74) % 65537) from jreml_n (by omega) (by decide) (by decide), lN_i]
theorem y_end {t : S7} {m : S9} {cls : Option (Int32 × S7)} {a w o u : Int32} (h : ActOk t m cls a w o u) (hT : TR t m) : ∃ (t2 : Int32 × S7) (m2 : S9), cls = some t2 ∧ TR t2.2 m2 ∧ frA m2 = frA m ∧ ∀ (kc : S9 → Option S9), ((sem_X9_whyNot a w o u m).bind fun r11 => (if (r11 : Int32) = 0 then ((sem_X9_happen a w o u m).bind fun r13 => kc r13) else kc m)) = kc m2 := by
  obtain ⟨r, t2, h1, h2, h3, h4, h5⟩ := h
  by_cases q : r = 0
  · subst q
    obtain ⟨m2, g1, g2⟩ := h5 rfl
    refine ⟨(nI 0, t2), m2, h2, g2.1, g2.2.2.2.2, fun kc => ?_⟩
    rw [h3, bs, if_pos (show nI 0 = 0 from rfl), g1, bs]
  · have e := h4 q
    subst e
    refine ⟨(nI r, t2), m, h2, hT, rfl, fun kc => ?_⟩
    rw [h3, bs, if_neg (nI_ne0 (by omega) (by omega))]
theorem draw_n {t : S7} {m : S9} (h : TR t m) {y : Nat} (hy : y < 65537) (x2 x3 x5 : Int32) : ∃ t2 m2, sem_X7_draw (nI y) t = some t2 ∧ TR t2 m2 ∧ frA m2 = frA m ∧ ∀ kc : Int32 → Int32 → S9 → Option S9,
    ((sem_X9_actBy (jrem ((nI y) / 6) 8) ).bind fun r15 => (if (r15 : Int32) = 0 then (jn_X9_year_118 kc x2 x3 (nI y) x5 r15 ((nI y) / 48) (jrem ((nI y) / 48) 4) m) else (jn_X9_year_118 kc x2 x3 (nI y) x5 r15 ((nI y) / 48) (jrem ((nI y) / 48) 6) m))) = kc (nI y) (x5 + 1) m2 := by
  have d6 : nI y / 6 = nI (y / 6) := pk_div (a := y) (d := 6) (by omega) (by decide) (by decide)
  have d48 : nI y / 48 = nI (y / 48) := pk_div (a := y) (d := 48) (by omega) (by decide) (by decide)
  have d192 : nI y / 192 = nI (y / 192) := pk_div (a := y) (d := 192) (by omega) (by decide) (by decide)
  have r6 : jrem (nI y) 6 = nI (y % 6) := jrem_n (a := y) (d := 6) (by omega) (by decide) (by decide)
  have r8 : jrem (nI (y / 6)) 8 = nI (y / 6 % 8) := jrem_n (a := y / 6) (d := 8) (by omega) (by decide) (by decide)
  have q4 : jrem (nI (y / 48)) 4 = nI (y / 48 % 4) := jrem_n (a := y / 48) (d := 4) (by omega) (by decide) (by decide)
  have q5 : jrem (nI (y / 48)) 5 = nI (y / 48 % 5) := jrem_n (a := y / 48) (d := 5) (by omega) (by decide) (by decide)
  have q6 : jrem (nI (y / 48)) 6 = nI (y / 48 % 6) := jrem_n (a := y / 48) (d := 6) (by omega) (by decide) (by decide)
  have q10 : jrem (nI (y / 48)) 10 = nI (y / 48 % 10) := jrem_n (a := y / 48) (d := 10) (by omega) (by decide) (by decide)
  have q9 : jrem (nI (y / 192)) 9 = nI (y / 192 % 9) := jrem_n (a := y / 192) (d := 9) (by omega) (by decide) (by decide)
  have a9 : 1 + nI (y / 192 % 9) = nI (1 + y / 192 % 9) := nI_add 1 (y / 192 % 9)
  have a5 : 1 + nI (y / 48 % 5) = nI (1 + y / 48 % 5) := nI_add 1 (y / 48 % 5)
  have l6 : y % 6 < 6 := Nat.mod_lt _ (by decide)
  have l10 : y / 48 % 10 < 10 := Nat.mod_lt _ (by decide)
  have l4 : y / 48 % 4 < 4 := Nat.mod_lt _ (by decide)
  have l5 : y / 48 % 5 < 5 := Nat.mod_lt _ (by decide)
  have l66 : y / 48 % 6 < 6 := Nat.mod_lt _ (by decide)
  have l9 : y / 192 % 9 < 9 := Nat.mod_lt _ (by decide)
  have l8 : y / 6 % 8 < 8 := Nat.mod_lt _ (by decide)
  unfold sem_X7_draw jn_X7_draw_60 jn_X7_draw_82 jn_X9_year_118 jn_X9_year_169
  rw [d6, r8, d48, r6, d192, q9, a9]
  simp only [q4, q5, q6, q10, a5]
  have h8 : y / 6 % 8 = 0 ∨ y / 6 % 8 = 1 ∨ y / 6 % 8 = 2 ∨ y / 6 % 8 = 3 ∨ y / 6 % 8 = 4 ∨ y / 6 % 8 = 5 ∨ y / 6 % 8 = 6 ∨ y / 6 % 8 = 7 := by omega
  have A0 := y_end (suffer_n h l6 (show 1 + y / 192 % 9 ≤ 9 by omega) (show y / 48 % 4 ≤ 3 by omega)) h
  have A1 := y_end (swear_n h l6 (show 1 + y / 48 % 5 ≤ 9 by omega) (nI (y / 48 % 6))) h
  have A2 := y_end (sell_n h l6 (show 1 ≤ 9 by decide) l66) h
  have A3 := y_end (walk_n h l6 (show y / 48 % 10 ≤ 9 by omega) (nI (y / 48 % 6))) h
  have A4 := y_end (end_n h (nI (y % 6)) (nI (y / 48 % 6)) (nI (y / 48 % 10))) h
  rcases h8 with e | e | e | e | e | e | e | e
  · obtain ⟨t2, m2, g1, g2, g3, g4⟩ := A0
    rw [e]
    refine ⟨t2.2, m2, by show (sem_X7_suffer _ _ _ t).bind _ = _; rw [g1]; rfl, g2, g3, fun kc => g4 (fun z => kc (nI y) (x5 + 1) z)⟩
  · obtain ⟨t2, m2, g1, g2, g3, g4⟩ := A0
    rw [e]
    refine ⟨t2.2, m2, by show (sem_X7_suffer _ _ _ t).bind _ = _; rw [g1]; rfl, g2, g3, fun kc => g4 (fun z => kc (nI y) (x5 + 1) z)⟩
  · obtain ⟨t2, m2, g1, g2, g3, g4⟩ := A0
    rw [e]
    refine ⟨t2.2, m2, by show (sem_X7_suffer _ _ _ t).bind _ = _; rw [g1]; rfl, g2, g3, fun kc => g4 (fun z => kc (nI y) (x5 + 1) z)⟩
  · obtain ⟨t2, m2, g1, g2, g3, g4⟩ := A1
    rw [e]
    refine ⟨t2.2, m2, by show (sem_X7_swear _ _ t).bind _ = _; rw [g1]; rfl, g2, g3, fun kc => g4 (fun z => kc (nI y) (x5 + 1) z)⟩
  · obtain ⟨t2, m2, g1, g2, g3, g4⟩ := A1
    rw [e]
    refine ⟨t2.2, m2, by show (sem_X7_swear _ _ t).bind _ = _; rw [g1]; rfl, g2, g3, fun kc => g4 (fun z => kc (nI y) (x5 + 1) z)⟩
  · obtain ⟨t2, m2, g1, g2, g3, g4⟩ := A2
    rw [e]
    refine ⟨t2.2, m2, by show (sem_X7_sell _ (nI 1) _ t).bind _ = _; rw [g1]; rfl, g2, g3, fun kc => g4 (fun z => kc (nI y) (x5 + 1) z)⟩
  · obtain ⟨t2, m2, g1, g2, g3, g4⟩ := A3
    rw [e]
    refine ⟨t2.2, m2, by show (sem_X7_walk _ _ t).bind _ = _; rw [g1]; rfl, g2, g3, fun kc => g4 (fun z => kc (nI y) (x5 + 1) z)⟩
  · obtain ⟨t2, m2, g1, g2, g3, g4⟩ := A4
    rw [e]
    refine ⟨t2.2, m2, by rw [if_neg (by decide : ¬ nI 7 = 0), if_neg (by decide : ¬ nI 7 = 1), if_neg (by decide : ¬ nI 7 = 2), if_neg (by decide : ¬ nI 7 = 3), if_neg (by decide : ¬ nI 7 = 4), if_neg (by decide : ¬ nI 7 = 5), if_neg (by decide : ¬ nI 7 = 6), g1]; rfl, g2, g3, fun kc => g4 (fun z => kc (nI y) (x5 + 1) z)⟩
theorem tr_tr (s : S8) (t : S7) : x8_trial (p8_trial s t) = t := rfl
theorem tr_p (s : S8) (t t2 : S7) : p8_trial (p8_trial s t) t2 = p8_trial s t2 := rfl
theorem year_lp (s : S8) {M : Nat} (hM : M ≤ 99) (x3 : Int32) : ∀ n e, e ≤ M → M + 1 ≤ n + e → ∀ x t m, x < 65537 → TR t m → ∃ t2 m2, lp_X8_year_50 (nI M) x3 n (nI x) (nI e) (p8_trial s t) = some (p8_trial s t2) ∧ lp_X9_year_57 (nI M) x3 n (nI x) (nI e) m = some m2 ∧ TR t2 m2 ∧ frA m2 = frA m := by
  intro n
  induction n with
  | zero => intro e h1 h2; omega
  | succ n ih =>
    intro e h1 h2 x t m hx h
    show ∃ t2 m2, bd_X8_year_50 (nI M) x3 (lp_X8_year_50 (nI M) x3 n) (nI x) (nI e) (p8_trial s t) = _ ∧ bd_X9_year_57 (nI M) x3 (lp_X9_year_57 (nI M) x3 n) (nI x) (nI e) m = _ ∧ _
    unfold bd_X8_year_50 bd_X9_year_57
    by_cases hj : e = M
    · subst hj
      rw [if_pos (nI_le (Nat.le_refl _) (by omega)), if_pos (nI_le (Nat.le_refl _) (by omega))]
      exact ⟨t, m, rfl, rfl, h, rfl⟩
    · rw [if_neg (nI_ge (by omega) (by omega)), if_neg (nI_ge (by omega) (by omega)), yx_c hx, tr_tr]
      simp only [yx_m hx]
      have hy : (75 * x + 74) % 65537 < 65537 := Nat.mod_lt _ (by decide)
      obtain ⟨t2, m2, g1, g2, g3, g4⟩ := draw_n h hy (nI M) x3 (nI e)
      rw [g1, bs, g4, tr_p, nI_1]
      obtain ⟨t3, m3, y1, y2, y3, y4⟩ := ih (e + 1) (by omega) (by omega) _ t2 m2 hy g2
      exact ⟨t3, m3, y1, y2, y3, y4.trans g3⟩
theorem all_lp {t : S6} {m : S9} (h : RTm t m) (x3 : Int32) : ∀ n j, j ≤ 6 → 7 ≤ n + j → ∀ a, ∃ r, lp_X6_allTempers_4 t n a (nI j) = some r ∧ lp_X9_year_216 x3 m n a (nI j) = some r := by
  intro n
  induction n with
  | zero => intro j h1 h2; omega
  | succ n ih =>
    intro j h1 h2 a
    show ∃ r, bd_X6_allTempers_4 t (lp_X6_allTempers_4 t n) a (nI j) = _ ∧ bd_X9_year_216 x3 m (lp_X9_year_216 x3 m n) a (nI j) = _
    unfold bd_X6_allTempers_4 bd_X9_year_216
    by_cases hj : j = 6
    · subst hj
      rw [if_pos (by decide), if_pos (by decide)]
      exact ⟨a, rfl, rfl⟩
    · have hj6 : j < 6 := by omega
      obtain ⟨T, l, e, c, b1, b2, -⟩ := h.2
      rw [if_neg (no6 hj6), if_neg (no6 hj6), has_n b1 (h.1.1.trans b2) hj6, isOne_n b1 b2 hj6, bs, bs]
      by_cases q : T.testBit j = true
      · rw [if_pos q, if_neg one_ne, if_neg one_ne, get_l hj6 0 (by decide) 0 rfl, bs, ck_in (vp_in_nI hj6 (by decide)), tcl (by omega), h.1.2.2.2.2.1 j hj6 0 (by decide), show mF m j 0 = x9_temper m j from rfl, nI_1]
        exact ih (j + 1) (by omega) (by omega) _
      · rw [if_neg q, if_pos rfl, if_pos rfl, nI_1, Int32.add_zero]
        exact ih (j + 1) (by omega) (by omega) _
def bcy (m : S9) : S9 := p9_paid (p9_firstHeard (p9_firstWho (p9_firstSlip (p9_slipMany m 0) (-6)) (-6)) 0) 0
theorem bcy_e (m : S9) : sem_X9_beginCount m = some (bcy m) := rfl
theorem bcy_TR {t : S6} {m : S9} (H : Nat → Int32) (h : RTm t m) : RTm t (bcy (p9_had m H)) := h
theorem bcy_TS (t : S7) (v : S6) (m : S9) : TS (tb t v) (bcy m) := ⟨rfl, rfl, rfl, rfl⟩
theorem frA_had {m m3 : S9} {H : Nat → Int32} (h : frA m3 = frA (bcy (p9_had m H))) : m3.1 = m.1 ∧ x9_permits m3 = x9_permits m ∧ x9_sightOne m3 = x9_sightOne m ∧ x9_sightHeard m3 = x9_sightHeard m ∧ x9_had m3 = H ∧ x9_pad m3 = x9_pad m ∧ x9_padMany m3 = x9_padMany m ∧ x9_kept m3 = x9_kept m ∧ x9_isKept m3 = x9_isKept m := by
  simp only [frA, Prod.mk.injEq] at h
  obtain ⟨a1, a2, a3, a4, a5, a6, a7, a8⟩ := h
  refine ⟨a1, a2, a3, a4, congrArg (fun z => z.1.1) a8, congrArg (fun z => z.1) a5, congrArg (fun z => z.2) a5, congrArg (fun z => z.2.2.2.2.1) a8, congrArg (fun z => z.2.2.2.2.2.1) a8⟩
theorem frL_cnt {m m2 : S9} (h : m2.2.2 = m.2.2) : x9_slipMany m2 = x9_slipMany m ∧ x9_paid m2 = x9_paid m := by
  unfold x9_slipMany x9_paid
  rw [h]
  exact ⟨rfl, rfl⟩
theorem ok_year : hF_year RR := by
  intro x1 x2 x3 s m j0 j1 hR
  unfold sem_X8_year sem_X9_year
  rcases gd x1 0 9999 (by decide) (by decide) (a := 0) (b := 9999) (A := 0) (B := 9999) rfl rfl rfl rfl with ⟨sd, -, hsd, rfl, e1, e2⟩ | ⟨e1, e2, -⟩
  · rw [e1, e2, bs, bs, if_neg one_ne, if_neg one_ne]
    rcases gd x2 1 99 (by decide) (by decide) (a := 1) (b := 99) (A := 1) (B := 99) rfl rfl rfl rfl with ⟨M, -, hM, rfl, e1, e2⟩ | ⟨e1, e2, -⟩
    · rw [e1, e2, bs, bs, if_neg one_ne, if_neg one_ne]
      rcases gd x3 0 2 (by decide) (by decide) (a := 0) (b := 2) (A := 0) (B := 2) rfl rfl rfl rfl with ⟨w, -, hw, rfl, e1, e2⟩ | ⟨e1, e2, -⟩
      · rw [e1, e2, bs, bs, if_neg one_ne, if_neg one_ne]
        obtain ⟨H, w1, w2⟩ := store_had_n m
        obtain ⟨v, z1, z2⟩ := take_n (x7_town (x8_trial s)) (x8_town s)
        have eb : sem_X7_begin (x8_trial s) (x8_town s) = some (tb (x8_trial s) v) := by
          unfold sem_X7_begin
          rw [z1, bs]
          rfl
        have hTv : RTm v (bcy (p9_had m H)) := bcy_TR H ⟨z2 hR.1.1, hR.1.2⟩
        have hTR : TR (tb (x8_trial s) v) (bcy (p9_had m H)) := ⟨hTv, bcy_TS _ _ _⟩
        obtain ⟨t3, m3, y1, y2, y3, y4⟩ := year_lp s hM (nI w) FUEL 0 (Nat.zero_le _) (by rw [fuel_s]; omega) sd _ _ (by omega) hTR
        obtain ⟨r, g1, g2⟩ := all_lp y3.1 (nI w) FUEL 0 (by decide) (by rw [fuel_s]; omega) 0
        obtain ⟨m6, k1, k2, k3⟩ := lay_had_n m3
        obtain ⟨f1, f2, f3, f4, f5, f6, f7, f8, f9⟩ := frA_had y4
        obtain ⟨u1, u2, u3, u4, u5⟩ := frL_rest k2
        obtain ⟨v1, v2, v3, v4, v5⟩ := frL_pad u5
        obtain ⟨n1, n2⟩ := frL_cnt u5
        have hv : ∀ i f, i < 6 → f < 5 → hV m6 f i = hV m f i := fun i f hi hf => by rw [k3 i f hi hf, f5, w2 i f hi hf]
        have hT : RTm (x8_town s) m6 := RTm.move hR.1 (u1.trans f1) (u2.trans f2) (u3.trans f3) (u4.trans f4) hv
        have hRR : RR (p8_trial s t3) m6 j0 j1 := hR.town hT rfl rfl rfl (v1.trans f6) (v2.trans f7) (v3.trans f8) (v4.trans f9)
        have y1' : lp_X8_year_50 (nI M) (nI w) FUEL (nI sd) 0 (p8_trial s (tb (x8_trial s) v)) = some (p8_trial s t3) := y1
        have y2' : lp_X9_year_57 (nI M) (nI w) FUEL (nI sd) 0 (bcy (p9_had m H)) = some m3 := y2
        have g1' : sem_X6_allTempers (x7_town t3) = some r := by
          unfold sem_X6_allTempers
          have g0 : lp_X6_allTempers_4 (x7_town t3) FUEL 0 0 = some r := g1
          rw [g0]; rfl
        have g2' : lp_X9_year_216 (nI w) m3 FUEL 0 0 = some r := g2
        rw [eb, bs, y1', bs, w1, bs, bcy_e, bs, y2', bs, g2', bs, k1, bs]
        obtain ⟨s1, s2, -, -⟩ := y3.2
        have hw3 : w = 0 ∨ w = 1 ∨ w = 2 := by omega
        rcases hw3 with rfl | rfl | rfl
        · exact ⟨x7_slips t3, _, m6, rfl, by show some (x9_slipMany m6, m6) = _; rw [n1, s1], hRR⟩
        · exact ⟨x7_paid t3, _, m6, rfl, by show some (x9_paid m6, m6) = _; rw [n2, s2], hRR⟩
        · exact ⟨r, _, m6, by show (sem_X6_allTempers (x7_town t3)).bind _ = _; rw [g1']; rfl, rfl, hRR⟩
      · rw [e1, e2]; exact ⟨_, _, _, rfl, rfl, hR⟩
    · rw [e1, e2]; exact ⟨_, _, _, rfl, rfl, hR⟩
  · rw [e1, e2]; exact ⟨_, _, _, rfl, rfl, hR⟩
