/-! a mishap and a slip -/
theorem jmin_n {a b : Nat} (ha : a < 2 ^ 31) (hb : b < 2 ^ 31) : jmin (nI a) (nI b) = nI (min a b) := by
  unfold jmin
  by_cases c : a ≤ b
  · have h := (nI_leI ha hb).mpr c
    have h2 : ¬ nI b < nI a := fun z => by have := (nI_ltI hb ha).mp z; omega
    first
      | rw [if_pos h, Nat.min_eq_left c]
      | rw [if_neg h2, Nat.min_eq_left c]
      | (by_cases q : nI a < nI b
         · rw [if_pos q, Nat.min_eq_left c]
         · rw [if_neg q]
           have : b ≤ a := by
             by_cases w : a < b
             · exact absurd ((nI_ltI ha hb).mpr w) q
             · omega
           rw [show a = b by omega, Nat.min_self])
  · have h : ¬ nI a ≤ nI b := fun z => c ((nI_leI ha hb).mp z)
    have h2 : nI b < nI a := (nI_ltI hb ha).mpr (by omega)
    have h3 : ¬ nI a < nI b := fun z => by have := (nI_ltI ha hb).mp z; omega
    first
      | rw [if_neg h, Nat.min_eq_right (by omega)]
      | rw [if_pos h2, Nat.min_eq_right (by omega)]
      | rw [if_neg h3, Nat.min_eq_right (by omega)]
theorem s_pu (m : S9) (v : Nat → Int32) : x9_paid (p9_purse m v) = x9_paid m := rfl
theorem s_tp (m : S9) (v : Int32) : x9_temper (p9_paid m v) = x9_temper m := rfl
theorem s_tu (m : S9) (v : Nat → Int32) : x9_temper (p9_purse m v) = x9_temper m := rfl
theorem s_st (m : S9) (v : Nat → Int32) : x9_slipMany (p9_temper m v) = x9_slipMany m := rfl
theorem s_sp (m : S9) (v : Int32) : x9_slipMany (p9_paid m v) = x9_slipMany m := rfl
theorem s_su (m : S9) (v : Nat → Int32) : x9_slipMany (p9_purse m v) = x9_slipMany m := rfl
theorem s_sh (m : S9) (v : Int32) : x9_slipMany (p9_firstHeard m v) = x9_slipMany m := rfl
theorem s_sw (m : S9) (v : Int32) : x9_slipMany (p9_firstWho m v) = x9_slipMany m := rfl
theorem s_sf (m : S9) (v : Int32) : x9_slipMany (p9_firstSlip m v) = x9_slipMany m := rfl
theorem s_at (m : S9) (v : Nat → Int32) : x9_actNow (p9_temper m v) = x9_actNow m := rfl
theorem s_ap (m : S9) (v : Int32) : x9_actNow (p9_paid m v) = x9_actNow m := rfl
theorem s_au (m : S9) (v : Nat → Int32) : x9_actNow (p9_purse m v) = x9_actNow m := rfl
def sl (m : S9) (k : Nat) (y : Int32) : S9 := p9_temper (p9_paid (p9_purse m (upd (x9_purse m) k (x9_purse m k - y))) (x9_paid m + y)) (upd (x9_temper m) k 0)
theorem slip_jn (m : S9) {k : Nat} (hk : k < 6) (x y : Int32) : jn_X9_slip_38 (nI k) x y m = if x9_slipMany m = 0 then some (p9_slipMany (p9_firstHeard (p9_firstWho (p9_firstSlip (sl m k y) (x9_actNow m)) (nI k)) x) (x9_slipMany m + 1)) else some (p9_slipMany (sl m k y) (x9_slipMany m + 1)) := by
  unfold jn_X9_slip_38 sl
  simp only [ck_in (vp_in_nI hk (by decide : 6 < 2 ^ 31)), tcl (show k < 2 ^ 31 by omega), s_pu, s_tp, s_tu, s_st, s_sp, s_su, s_sh, s_sw, s_sf, s_at, s_ap, s_au]
theorem mF_sm (m : S9) (v : Int32) : mF (p9_slipMany m v) = mF m := rfl
theorem mF_fh (m : S9) (v : Int32) : mF (p9_firstHeard m v) = mF m := rfl
theorem mF_fw (m : S9) (v : Int32) : mF (p9_firstWho m v) = mF m := rfl
theorem mF_fs (m : S9) (v : Int32) : mF (p9_firstSlip m v) = mF m := rfl
theorem mF_pd (m : S9) (v : Int32) : mF (p9_paid m v) = mF m := rfl
theorem mF_sl (m : S9) (k : Nat) (y : Int32) : mF (sl m k y) = updF (updF (mF m) k 3 (x9_purse m k - y)) k 0 0 := by
  show mF (p9_temper (p9_paid (p9_purse m (upd (x9_purse m) k (x9_purse m k - y))) (x9_paid m + y)) (upd (x9_temper (p9_paid (p9_purse m (upd (x9_purse m) k (x9_purse m k - y))) (x9_paid m + y))) k 0)) = _
  rw [mF_s0, mF_pd, mF_s3]
theorem pop6_le (T : Nat) : pop6 T ≤ 6 := by
  unfold pop6
  repeat' split
  all_goals omega
theorem slip_n {t : S7} {m : S9} (hT : RT (x7_town t) (x9_there m) (x9_limit m) (x9_ears m) (x9_sights m) (mF m) (x9_sightOne m) (x9_sightHeard m)) (hS : TS t m) {T e : Nat} (b1 : T < 64) (b2 : x9_there m = nI T) (b6 : e ≤ 9) (b7 : x9_ears m = nI e) (c4 : ∀ i, i < 6 → ∃ v, v ≤ 9 ∧ mF m i 4 = nI v) {k w p : Nat} (hk : k < 6) (hw : x9_temper m k = nI w) (hw2 : w ≤ 40) (hpu : x9_purse m k = nI p) (hp2 : p ≤ 999) :
    ∃ t2 m2 p2, p2 ≤ 999 ∧ sem_X7_slip (nI k) t = some t2 ∧ sem_X9_slip (nI k) m = some m2 ∧ RT (x7_town t2) (x9_there m) (x9_limit m) (x9_ears m) (x9_sights m) (updF (updF (mF m) k 3 (nI p2)) k 0 0) (x9_sightOne m) (x9_sightHeard m) ∧ mF m2 = updF (updF (mF m) k 3 (nI p2)) k 0 0 ∧ TS t2 m2 ∧ (x7_acts t = x9_actNow m → x7_firstSlip t = x9_firstSlip m → x7_firstSlip t2 = x9_firstSlip m2) ∧ x7_acts t2 = x7_acts t ∧ x7_reason t2 = x7_reason t ∧ frA m2 = frA m := by
  have hy : ∀ i, i < 6 → x9_yard m i = nI (NV (x9_yard m i)) ∧ NV (x9_yard m i) ≤ 9 := fun i hi => by
    obtain ⟨v, v1, v2⟩ := c4 i hi
    exact NV_of (by decide) v1 v2
  have hyx : ∀ i, i < 6 → x6_facts (x7_town t) (i * 6 + 4) = nI (NV (x9_yard m i)) ∧ NV (x9_yard m i) ≤ 9 := fun i hi => ⟨(hT.2.2.2.2.1 i hi 4 (by decide)).trans (hy i hi).1, (hy i hi).2⟩
  have hx := hear_x b1 (hT.1.trans b2) b6 (hT.2.2.1.trans b7) (Y := fun i => NV (x9_yard m i)) hyx hk
  have hm := hear_m b1 b2 b6 b7 (Y := fun i => NV (x9_yard m i)) hy hk
  obtain ⟨h, hh, hb⟩ : ∃ h, h ≤ 6 ∧ pop6 (mk6 (hp T e (fun i => NV (x9_yard m i)) k)) = h := ⟨_, pop6_le _, rfl⟩
  have f3 : x6_facts (x7_town t) (k * 6 + 3) = nI p := (hT.2.2.2.2.1 k hk 3 (by decide)).trans hpu
  have f0 : x6_facts (x7_town t) (k * 6 + 0) = nI w := (hT.2.2.2.2.1 k hk 0 (by decide)).trans hw
  have hwh : w * h ≤ 240 := Nat.mul_le_mul hw2 hh
  obtain ⟨pr, hpr⟩ : ∃ pr, pr = min p (w * h) := ⟨_, rfl⟩
  have hle : pr ≤ p := by omega
  have ejm : jmin (nI p) (nI w * nI h) = nI pr := by rw [pk_mul, jmin_n (by omega) (by omega), hpr]
  have em : (if nI p ≤ nI w * nI h then jn_X9_slip_38 (nI k) (nI h) (nI p) m else jn_X9_slip_38 (nI k) (nI h) (nI w * nI h) m) = jn_X9_slip_38 (nI k) (nI h) (nI pr) m := by
    rw [pk_mul]
    by_cases q : p ≤ w * h
    · rw [if_pos ((nI_leI (by omega) (by omega)).mpr q), show pr = p by omega]
    · rw [if_neg (fun z => q ((nI_leI (by omega) (by omega)).mp z)), show pr = w * h by omega]
  unfold sem_X7_slip sem_X9_slip
  rw [hx, bs, cnt_x _ (mk6_lt _), bs, hb, get_l hk 3 (by decide) 3 rfl, bs, get_l hk 0 (by decide) 0 rfl, bs, f3, f0, ejm, pk_sub hle, hm, bs, cnt_m _ (mk6_lt _), bs, hb, ck_in (vp_in_nI hk (by decide)), ck_in (vp_in_nI hk (by decide)), tcl (by omega), hpu, hw, em, slip_jn m hk, put_l hk 3 (by decide) 3 _ rfl, bs, put_l hk 0 (by decide) 0 _ rfl, bs]
  have hq := (hT.put hk (by decide : 3 < 6) (nI (p - pr))).put hk (by decide : 0 < 6) 0
  have hmF : mF (sl m k (nI pr)) = updF (updF (mF m) k 3 (nI (p - pr))) k 0 0 := by rw [mF_sl, hpu, pk_sub hle]
  obtain ⟨s1, s2, s3, s4⟩ := hS
  have es : ∀ A B, x7_slips (p7_town (p7_town t A) B) = x9_slipMany m := fun A B => s1
  rw [es]
  unfold jn_X7_slip_87
  by_cases q : x9_slipMany m = 0
  · rw [if_pos q, if_pos q]
    refine ⟨_, _, p - pr, by omega, rfl, rfl, hq, ?_, ⟨?_, ?_, rfl, rfl⟩, fun z _ => z, rfl, rfl, rfl⟩
    · rw [mF_sm, mF_fh, mF_fw, mF_fs]; exact hmF
    · show x7_slips t + 1 = x9_slipMany m + 1
      rw [s1]
    · show x7_paid t + nI pr = x9_paid m + nI pr
      rw [s2]
  · rw [if_neg q, if_neg q]
    refine ⟨_, _, p - pr, by omega, rfl, rfl, hq, ?_, ⟨?_, ?_, s3, s4⟩, fun _ z => z, rfl, rfl, rfl⟩
    · rw [mF_sm]; exact hmF
    · show x7_slips t + 1 = x9_slipMany m + 1
      rw [s1]
    · show x7_paid t + nI pr = x9_paid m + nI pr
      rw [s2]
theorem frA_all {m m2 : S9} (h : frA m2 = frA m) : x9_there m2 = x9_there m ∧ x9_limit m2 = x9_limit m ∧ x9_ears m2 = x9_ears m ∧ x9_sights m2 = x9_sights m ∧ x9_sightOne m2 = x9_sightOne m ∧ x9_sightHeard m2 = x9_sightHeard m := by
  simp only [frA, Prod.mk.injEq] at h
  obtain ⟨h1, h2, h3, h4, -⟩ := h
  exact ⟨congrArg (·.1) h1, congrArg (·.2.1) h1, congrArg (·.2.2.1) h1, congrArg (·.2.2.2) h1, h3, h4⟩
theorem b_tc (m : S9) (v : Nat → Int32) : x9_temper (p9_cause m v) = x9_temper m := rfl
theorem b_tt (m : S9) (v : Nat → Int32) : x9_temper (p9_temper m v) = v := rfl
theorem b_ct (m : S9) (v : Nat → Int32) : x9_cause (p9_temper m v) = x9_cause m := rfl
theorem b_lc (m : S9) (v : Nat → Int32) : x9_limit (p9_cause m v) = x9_limit m := rfl
theorem b_lt (m : S9) (v : Nat → Int32) : x9_limit (p9_temper m v) = x9_limit m := rfl
def mb (m : S9) (k : Nat) (x y : Int32) : S9 := p9_cause (p9_temper m (upd (x9_temper m) k y)) (upd (x9_cause m) k x)
theorem befall_n (m : S9) {k : Nat} (hk : k < 6) (x y : Int32) : sem_X9_befall (nI k) x y m = if x9_temper m k + y ≤ x9_limit m then some (mb m k x (x9_temper m k + y)) else sem_X9_slip (nI k) (mb m k x (x9_temper m k + y)) := by
  unfold sem_X9_befall mb
  simp only [ck_in (vp_in_nI hk (by decide : 6 < 2 ^ 31)), tcl (show k < 2 ^ 31 by omega), b_tc, b_tt, b_ct, b_lc, b_lt, upd_eq]
  by_cases q : x9_temper m k + y ≤ x9_limit m
  · rw [if_pos q, if_pos q]
  · rw [if_neg q, if_neg q]
    generalize sem_X9_slip _ _ = z
    cases z <;> rfl
theorem mF_mb (m : S9) (k : Nat) (x y : Int32) : mF (mb m k x y) = updF (updF (mF m) k 0 y) k 5 x := by
  show mF (p9_cause (p9_temper m (upd (x9_temper m) k y)) (upd (x9_cause (p9_temper m (upd (x9_temper m) k y))) k x)) = _
  rw [mF_s5, mF_s0]
theorem updF_comm (F : Nat → Nat → Int32) (k : Nat) (x y : Int32) : updF (updF F k 5 x) k 0 y = updF (updF F k 0 y) k 5 x := by
  funext i f
  unfold updF
  by_cases q : i = k
  · by_cases q2 : f = 0
    · subst q2; simp [q]
    · simp [q, q2]
  · simp [q]
theorem updF_over (F : Nat → Nat → Int32) (k : Nat) (w c p z : Int32) : updF (updF (updF (updF F k 0 w) k 5 c) k 3 p) k 0 z = updF (updF (updF F k 5 c) k 3 p) k 0 z := by
  funext i f
  unfold updF
  by_cases q : i = k
  · by_cases q2 : f = 0
    · simp [q, q2]
    · simp [q, q2]
  · simp [q]
theorem suffer_n {t : S7} {m : S9} (h : TR t m) {k g c2 : Nat} (hk : k < 6) (hg : g ≤ 9) (hc2 : c2 ≤ 3) : ActOk t m (sem_X7_suffer (nI k) (nI c2) (nI g) t) 0 (nI k) (nI c2) (nI g) := by
  obtain ⟨T, l, e, c, b1, b2, b3, b4, b5, b6, b7, b8, b9, c0, c1, c2', c3, c4, c5, d1, d2⟩ := h.1.2
  unfold ActOk sem_X7_suffer
  rw [has_n b1 (h.1.1.1.trans b2) hk, bs]
  by_cases q : T.testBit k = true
  · obtain ⟨v0, v01, v02, v03⟩ := c0 k hk
    obtain ⟨p, p1, p2⟩ := c3 k hk
    have e0 : x9_temper m k = nI v0 := v02
    have e3 : x9_purse m k = nI p := p2
    rw [why0 b1 b2 hk q, if_pos q, if_neg one_ne, get_l hk 0 (by decide) 0 rfl, bs, put_l hk 5 (by decide) 5 _ rfl, bs, put_l hk 0 (by decide) 0 _ rfl, bs, fct h hk (by decide : 0 < 6), v02, nI_add]
    have hRT := (h.1.1.put hk (by decide : 5 < 6) (nI c2)).put hk (by decide : 0 < 6) (nI (v0 + g))
    rw [updF_comm, ← mF_mb] at hRT
    have hlx : ∀ A B : S6, x6_limit (x7_town (p7_town (p7_town t A) B)) = x6_limit B := fun A B => rfl
    have hh : sem_X9_happen 0 (nI k) (nI c2) (nI g) m = (if nI (v0 + g) ≤ nI l then some (mb m k (nI c2) (nI (v0 + g))) else sem_X9_slip (nI k) (mb m k (nI c2) (nI (v0 + g)))) := by
      unfold sem_X9_happen
      rw [if_pos rfl, befall_n m hk, e0, nI_add, b5]
      generalize (if nI (v0 + g) ≤ nI l then some (mb m k (nI c2) (nI (v0 + g))) else sem_X9_slip (nI k) (mb m k (nI c2) (nI (v0 + g)))) = z
      cases z <;> rfl
    rw [hh, hlx]
    have hl3 : ∀ V W, x6_limit (p6_facts (x7_town (p7_town t (p6_facts (x7_town t) V))) W) = nI l := fun V W => (h.1.1.2.1.trans b5 : x6_limit (x7_town t) = nI l)
    rw [hl3]
    by_cases z : nI (v0 + g) ≤ nI l
    · have zl : v0 + g ≤ l := (nI_leI (by omega) (by omega)).mp z
      rw [if_pos z, if_pos z]
      refine ⟨0, _, by decide, rfl, rfl, fun z => absurd rfl z, fun _ => ⟨_, rfl, ⟨⟨hRT, ?_⟩, h.2⟩, fun _ z => z, rfl, rfl, rfl⟩⟩
      rw [mF_mb]
      exact (h.1.2.put0 b1 b2 b4 b5 (by omega) (fun _ => zl)).put5 (Or.inr ⟨c2, hc2, rfl⟩)
    · rw [if_neg z, if_neg z]
      obtain ⟨t2, m2, p3, y0, y1, y2, y3, y4, y5, y6, y7, y8, y9⟩ := slip_n (t := p7_town (p7_town t (p6_facts (x7_town t) (upd (x6_facts (x7_town t)) (k * 6 + 5) (nI c2)))) (p6_facts (x7_town (p7_town t (p6_facts (x7_town t) (upd (x6_facts (x7_town t)) (k * 6 + 5) (nI c2))))) (upd (x6_facts (x7_town (p7_town t (p6_facts (x7_town t) (upd (x6_facts (x7_town t)) (k * 6 + 5) (nI c2)))))) (k * 6 + 0) (nI (v0 + g))))) (m := mb m k (nI c2) (nI (v0 + g))) hRT h.2 b1 b2 b6 b7 c4 hk (w := v0 + g) (p := p) upd_eq (by omega) e3 p1
      rw [y1, bs, y2]
      have hf : frA m2 = frA m := y9.trans rfl
      obtain ⟨f1, f2, f3, f4, f5, f6⟩ := frA_all hf
      refine ⟨0, t2, by decide, rfl, rfl, fun z => absurd rfl z, fun _ => ⟨m2, rfl, ⟨⟨?_, ?_⟩, y5⟩, y6, y7, y8, hf⟩⟩
      · rw [f1, f2, f3, f4, f5, f6, y4]; exact y3
      · rw [f1, f2, f3, f4, f5, f6, y4, mF_mb, updF_over]
        exact ((h.1.2.put5 (Or.inr ⟨c2, hc2, rfl⟩)).put3 y0).put0 b1 b2 b4 b5 (w := 0) (by decide) (fun _ => Nat.zero_le _)
  · rw [why_no b1 b2 hk q (by decide), if_neg q, if_pos rfl]
    exact ⟨1, t, by decide, rfl, rfl, fun _ => rfl, fun z => by cases z⟩
