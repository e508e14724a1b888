/-! a mishap and a slip -/
theorem jmin_n {a b : Nat} (ha : a < 2 ^ 31) (hb : b < 2 ^ 31) : jmin (nI a) (nI b) = nI (min a b) := by
  unfold jmin
  by_cases c : a ≤ b
  · have h := (nI_leI ha hb).mpr c
    have h2 : ¬ nI b < nI a := fun z => by have := (nI_ltI hb ha).mp z; omega
    first
      | rw [if_pos h, Nat.min_eq_left c]
      | rw [if_neg h2, Nat.min_eq_left c]
      | (by_cases q : nI a < nI b
         · rw [if_pos q, Nat.min_eq_left c]
         · rw [if_neg q]
           have : b ≤ a := by
             by_cases w : a < b
             · exact absurd ((nI_ltI ha hb).mpr w) q
             · omega
           rw [show a = b by omega, Nat.min_self])
  · have h : ¬ nI a ≤ nI b := fun z => c ((nI_leI ha hb).mp z)
    have h2 : nI b < nI a := (nI_ltI hb ha).mpr (by omega)
    have h3 : ¬ nI a < nI b := fun z => by have := (nI_ltI ha hb).mp z; omega
    first
      | rw [if_neg h, Nat.min_eq_right (by omega)]
      | rw [if_pos h2, Nat.min_eq_right (by omega)]
      | rw [if_neg h3, Nat.min_eq_right (by omega)]
theorem s_pu (m : S9) (v : Nat → Int32) : x9_paid (p9_purse m v) = x9_paid m := rfl
theorem s_tp (m : S9) (v : Int32) : x9_temper (p9_paid m v) = x9_temper m := rfl
theorem s_tu (m : S9) (v : Nat → Int32) : x9_temper (p9_purse m v) = x9_temper m := rfl
theorem s_st (m : S9) (v : Nat → Int32) : x9_slipMany (p9_temper m v) = x9_slipMany m := rfl
theorem s_sp (m : S9) (v : Int32) : x9_slipMany (p9_paid m v) = x9_slipMany m := rfl
theorem s_su (m : S9) (v : Nat → Int32) : x9_slipMany (p9_purse m v) = x9_slipMany m := rfl
theorem s_sh (m : S9) (v : Int32) : x9_slipMany (p9_firstHeard m v) = x9_slipMany m := rfl
theorem s_sw (m : S9) (v : Int32) : x9_slipMany (p9_firstWho m v) = x9_slipMany m := rfl
theorem s_sf (m : S9) (v : Int32) : x9_slipMany (p9_firstSlip m v) = x9_slipMany m := rfl
theorem s_at (m : S9) (v : Nat → Int32) : x9_actNow (p9_temper m v) = x9_actNow m := rfl
theorem s_ap (m : S9) (v : Int32) : x9_actNow (p9_paid m v) = x9_actNow m := rfl
theorem s_au (m : S9) (v : Nat → Int32) : x9_actNow (p9_purse m v) = x9_actNow m := rfl
def sl (m : S9) (k : Nat) (y : Int32) : S9 := p9_temper (p9_paid (p9_purse m (upd (x9_purse m) k (x9_purse m k - y))) (x9_paid m + y)) (upd (x9_temper m) k 0)
theorem slip_jn (m : S9) {k : Nat} (hk : k < 6) (x y : Int32) : jn_X9_slip_38 (nI k) x y m = if x9_slipMany m = 0 then some (p9_slipMany (p9_firstHeard (p9_firstWho (p9_firstSlip (sl m k y) (x9_actNow m)) (nI k)) x) (x9_slipMany m + 1)) else some (p9_slipMany (sl m k y) (x9_slipMany m + 1)) := by
  unfold jn_X9_slip_38 sl
  simp only [ck_in (vp_in_nI hk (by decide : 6 < 2 ^ 31)), tcl (show k < 2 ^ 31 by omega), s_pu, s_tp, s_tu, s_st, s_sp, s_su, s_sh, s_sw, s_sf, s_at, s_ap, s_au]
theorem mF_sm (m : S9) (v : Int32) : mF (p9_slipMany m v) = mF m := rfl
theorem mF_fh (m : S9) (v : Int32) : mF (p9_firstHeard m v) = mF m := rfl
theorem mF_fw (m : S9) (v : Int32) : mF (p9_firstWho m v) = mF m := rfl
theorem mF_fs (m : S9) (v : Int32) : mF (p9_firstSlip m v) = mF m := rfl
theorem mF_pd (m : S9) (v : Int32) : mF (p9_paid m v) = mF m := rfl
theorem mF_sl (m : S9) (k : Nat) (y : Int32) : mF (sl m k y) = updF (updF (mF m) k 3 (x9_purse m k - y)) k 0 0 := by
  show mF (p9_temper (p9_paid (p9_purse m (upd (x9_purse m) k (x9_purse m k - y))) (x9_paid m + y)) (upd (x9_temper (p9_paid (p9_purse m (upd (x9_purse m) k (x9_purse m k - y))) (x9_paid m + y))) k 0)) = _
  rw [mF_s0, mF_pd, mF_s3]
theorem pop6_le (T : Nat) : pop6 T ≤ 6 := by
  unfold pop6
  repeat' split
  all_goals omega
theorem slip_n {t : S7} {m : S9} (hT : RT (x7_town t) (x9_there m) (x9_limit m) (x9_ears m) (x9_sights m) (mF m) (x9_sightOne m) (x9_sightHeard m)) (hS : TS t m) {T e : Nat} (b1 : T < 64) (b2 : x9_there m = nI T) (b6 : e ≤ 9) (b7 : x9_ears m = nI e) (c4 : ∀ i, i < 6 → ∃ v, v ≤ 9 ∧ mF m i 4 = nI v) {k w p : Nat} (hk : k < 6) (hw : x9_temper m k = nI w) (hw2 : w ≤ 40) (hpu : x9_purse m k = nI p) (hp2 : p ≤ 999) :
    ∃ t2 m2 p2, p2 ≤ 999 ∧ sem_X7_slip (nI k) t = some t2 ∧ sem_X9_slip (nI k) m = some m2 ∧ RT (x7_town t2) (x9_there m) (x9_limit m) (x9_ears m) (x9_sights m) (updF (updF (mF m) k 3 (nI p2)) k 0 0) (x9_sightOne m) (x9_sightHeard m) ∧ mF m2 = updF (updF (mF m) k 3 (nI p2)) k 0 0 ∧ TS t2 m2 ∧ (x7_acts t = x9_actNow m → x7_firstSlip t = x9_firstSlip m → x7_firstSlip t2 = x9_firstSlip m2) ∧ x7_acts t2 = x7_acts t ∧ x7_reason t2 = x7_reason t ∧ frA m2 = frA m := by
  have hy : ∀ i, i < 6 → x9_yard m i = nI (NV (x9_yard m i)) ∧ NV (x9_yard m i) ≤ 9 := fun i hi => by
    obtain ⟨v, v1, v2⟩ := c4 i hi
    exact NV_of (by decide) v1 v2
  have hyx : ∀ i, i < 6 → x6_facts (x7_town t) (i * 6 + 4) = nI (NV (x9_yard m i)) ∧ NV (x9_yard m i) ≤ 9 := fun i hi => ⟨(hT.2.2.2.2.1 i hi 4 (by decide)).trans (hy i hi).1, (hy i hi).2⟩
  have hx := hear_x b1 (hT.1.trans b2) b6 (hT.2.2.1.trans b7) (Y := fun i => NV (x9_yard m i)) hyx hk
  have hm := hear_m b1 b2 b6 b7 (Y := fun i => NV (x9_yard m i)) hy hk
  obtain ⟨h, hh, hb⟩ : ∃ h, h ≤ 6 ∧ pop6 (mk6 (hp T e (fun i => NV (x9_yard m i)) k)) = h := ⟨_, pop6_le _, rfl⟩
  have f3 : x6_facts (x7_town t) (k * 6 + 3) = nI p := (hT.2.2.2.2.1 k hk 3 (by decide)).trans hpu
  have f0 : x6_facts (x7_town t) (k * 6 + 0) = nI w := (hT.2.2.2.2.1 k hk 0 (by decide)).trans hw
  have hwh : w * h ≤ 240 := Nat.mul_le_mul hw2 hh
  obtain ⟨pr, hpr⟩ : ∃ pr, pr = min p (w * h) := ⟨_, rfl⟩
  have hle : pr ≤ p := by omega
  have ejm : jmin (nI p) (nI w * nI h) = nI pr := by rw [pk_mul, jmin_n (by omega) (by omega), hpr]
  have em : (if nI p ≤ nI w * nI h then jn_X9_slip_38 (nI k) (nI h) (nI p) m else jn_X9_slip_38 (nI k) (nI h) (nI w * nI h) m) = jn_X9_slip_38 (nI k) (nI h) (nI pr) m := by
    rw [pk_mul]
    by_cases q : p ≤ w * h
    · rw [if_pos ((nI_leI (by omega) (by omega)).mpr q), show pr = p by omega]
    · rw [if_neg (fun z => q ((nI_leI (by omega) (by omega)).mp z)), show pr = w * h by omega]
  unfold sem_X7_slip sem_X9_slip
  rw [hx, bs, cnt_x _ (mk6_lt _), bs, hb, get_l hk 3 (by decide) 3 rfl, bs, get_l hk 0 (by decide) 0 rfl, bs, f3, f0, ejm, pk_sub hle, hm, bs, cnt_m _ (mk6_lt _), bs, hb, ck_in (vp_in_nI hk (by decide)), ck_in (vp_in_nI hk (by decide)), tcl (by omega), hpu, hw, em, slip_jn m hk, put_l hk 3 (by decide) 3 _ rfl, bs, put_l hk 0 (by decide) 0 _ rfl, bs]
  have hq := (hT.put hk (by decide : 3 < 6) (nI (p - pr))).put hk (by decide : 0 < 6) 0
  have hmF : mF (sl m k (nI pr)) = updF (updF (mF m) k 3 (nI (p - pr))) k 0 0 := by rw [mF_sl, hpu, pk_sub hle]
  obtain ⟨s1, s2, s3, s4⟩ := hS
  have es : ∀ A B, x7_slips (p7_town (p7_town t A) B) = x9_slipMany m := fun A B => s1
  rw [es]
  unfold jn_X7_slip_87
  by_cases q : x9_slipMany m = 0
  · rw [if_pos q, if_pos q]
    refine ⟨_, _, p - pr, by omega, rfl, rfl, hq, ?_, ⟨?_, ?_, rfl, rfl⟩, fun z _ => z, rfl, rfl, rfl⟩
    · rw [mF_sm, mF_fh, mF_fw, mF_fs]; exact hmF
    · show x7_slips t + 1 = x9_slipMany m + 1
      rw [s1]
    · show x7_paid t + nI pr = x9_paid m + nI pr
      rw [s2]
  · rw [if_neg q, if_neg q]
    refine ⟨_, _, p - pr, by omega, rfl, rfl, hq, ?_, ⟨?_, ?_, s3, s4⟩, fun _ z => z, rfl, rfl, rfl⟩
    · rw [mF_sm]; exact hmF
    · show x7_slips t + 1 = x9_slipMany m + 1
      rw [s1]
    · show x7_paid t + nI pr = x9_paid m + nI pr
      rw [s2]
