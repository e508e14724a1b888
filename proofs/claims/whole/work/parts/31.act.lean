/-! one act: the trial of the class against the reference's live fields -/
def TS (t : S7) (m : S9) : Prop := x7_slips t = x9_slipMany m ∧ x7_paid t = x9_paid m ∧ x7_firstWho t = x9_firstWho m ∧ x7_firstHeard t = x9_firstHeard m
def TR (t : S7) (m : S9) : Prop := RTm (x7_town t) m ∧ TS t m
def frA (m : S9) := (m.1, x9_permits m, x9_sightOne m, x9_sightHeard m, m.2.2.1, m.2.2.2.1, x9_actNow m, m.2.2.2.2.2)
def Did (t : S7) (m : S9) (t2 : S7) (m2 : S9) : Prop := TR t2 m2 ∧ (x7_acts t = x9_actNow m → x7_firstSlip t = x9_firstSlip m → x7_firstSlip t2 = x9_firstSlip m2) ∧ x7_acts t2 = x7_acts t ∧ x7_reason t2 = x7_reason t ∧ frA m2 = frA m
theorem frA_now {m m2 : S9} (h : frA m2 = frA m) : x9_actNow m2 = x9_actNow m := by
  simp only [frA, Prod.mk.injEq] at h
  exact h.2.2.2.2.2.2.1
theorem Did.refl {t : S7} {m : S9} (h : TR t m) : Did t m t m := ⟨h, fun _ z => z, rfl, rfl, rfl⟩
theorem Did.trans {t t2 t3 : S7} {m m2 m3 : S9} (h : Did t m t2 m2) (g : Did t2 m2 t3 m3) : Did t m t3 m3 :=
  ⟨g.1, fun z y => g.2.1 (by rw [h.2.2.1, frA_now h.2.2.2.2]; exact z) (h.2.1 z y), g.2.2.1.trans h.2.2.1, g.2.2.2.1.trans h.2.2.2.1, g.2.2.2.2.trans h.2.2.2.2⟩
def ActOk (t : S7) (m : S9) (cls : Option (Int32 × S7)) (a w o u : Int32) : Prop := ∃ (r : Nat) (t2 : S7), r ≤ 6 ∧ cls = some (nI r, t2) ∧ sem_X9_whyNot a w o u m = some (nI r) ∧ (r ≠ 0 → t2 = t) ∧ (r = 0 → ∃ m2, sem_X9_happen a w o u m = some m2 ∧ Did t m t2 m2)
theorem fct {t : S7} {m : S9} (h : TR t m) {k f : Nat} (hk : k < 6) (hf : f < 6) : x6_facts (x7_town t) (k * 6 + f) = mF m k f := h.1.1.2.2.2.2.1 k hk f hf
theorem why_no {m : S9} {T k : Nat} (hT : T < 64) (hm : x9_there m = nI T) (hk : k < 6) (hb : ¬ T.testBit k = true) {a : Int32} (ha : ¬ a = 4) (o u : Int32) : sem_X9_whyNot a (nI k) o u m = some 1 := by
  unfold sem_X9_whyNot
  rw [if_neg ha, isOne_n hT hm hk, bs, if_neg hb, if_pos rfl]
theorem why0 {m : S9} {T k : Nat} (hT : T < 64) (hm : x9_there m = nI T) (hk : k < 6) (hb : T.testBit k = true) (o u : Int32) : sem_X9_whyNot 0 (nI k) o u m = some 0 := by
  unfold sem_X9_whyNot
  rw [if_neg (by decide : ¬ (0 : Int32) = 4), isOne_n hT hm hk, bs, if_pos hb, if_neg one_ne]
  rfl
theorem why3 {m : S9} {T k : Nat} (hT : T < 64) (hm : x9_there m = nI T) (hk : k < 6) (hb : T.testBit k = true) (o u : Int32) : sem_X9_whyNot 3 (nI k) o u m = if x9_yard m k = u then some 2 else some 0 := by
  unfold sem_X9_whyNot
  rw [if_neg (by decide : ¬ (3 : Int32) = 4), isOne_n hT hm hk, bs, if_pos hb, if_neg one_ne, if_neg (by decide : ¬ (3 : Int32) = 1), if_neg (by decide : ¬ (3 : Int32) = 2), if_pos rfl, ck_in (vp_in_nI hk (by decide)), tcl (by omega)]
theorem why1 {m : S9} {T k : Nat} (hT : T < 64) (hm : x9_there m = nI T) (hk : k < 6) (hb : T.testBit k = true) (o u : Int32) : sem_X9_whyNot 1 (nI k) o u m = if u ≤ x9_temper m k then (if x9_cause m k < 0 then some 4 else if (x9_permits m k >>> (x9_cause m k &&& 31)) &&& 1 = 0 then some 4 else if u ≤ x9_stamps m k then some 0 else some 5) else some 3 := by
  unfold sem_X9_whyNot sem_X9_whyNotSwear
  rw [if_neg (by decide : ¬ (1 : Int32) = 4), isOne_n hT hm hk, bs, if_pos hb, if_neg one_ne, if_pos rfl]
  simp only [ck_in (vp_in_nI hk (by decide : 6 < 2 ^ 31)), tcl (show k < 2 ^ 31 by omega)]
  generalize (if u ≤ x9_temper m k then (if x9_cause m k < 0 then some 4 else if (x9_permits m k >>> (x9_cause m k &&& 31)) &&& 1 = 0 then some 4 else if u ≤ x9_stamps m k then some (0 : Int32) else some 5) else some 3) = z
  cases z <;> rfl
theorem why2 {m : S9} {T k k2 : Nat} (hT : T < 64) (hm : x9_there m = nI T) (hk : k < 6) (hb : T.testBit k = true) (hk2 : k2 < 6) (u : Int32) : sem_X9_whyNot 2 (nI k) (nI k2) u m = if T.testBit k2 = true then (if nI k = nI k2 then some 2 else if u ≤ x9_stamps m k then (if x9_purse m k2 < u then some 6 else if 99 < x9_stamps m k2 + u then some 6 else if x9_purse m k + u ≤ 999 then some 0 else some 6) else some 5) else some 1 := by
  unfold sem_X9_whyNot sem_X9_whyNotSell
  rw [if_neg (by decide : ¬ (2 : Int32) = 4), isOne_n hT hm hk, bs, if_pos hb, if_neg one_ne, if_neg (by decide : ¬ (2 : Int32) = 1), if_pos rfl, isOne_n hT hm hk2, bs]
  by_cases q : T.testBit k2 = true
  · simp only [if_pos q, if_neg one_ne, ck_in (vp_in_nI hk (by decide : 6 < 2 ^ 31)), tcl (show k < 2 ^ 31 by omega), ck_in (vp_in_nI hk2 (by decide : 6 < 2 ^ 31)), tcl (show k2 < 2 ^ 31 by omega)]
    generalize (if nI k = nI k2 then some 2 else if u ≤ x9_stamps m k then (if x9_purse m k2 < u then some 6 else if 99 < x9_stamps m k2 + u then some 6 else if x9_purse m k + u ≤ 999 then some (0 : Int32) else some 6) else some 5) = z
    cases z <;> rfl
  · rw [if_neg q, if_neg q, if_pos rfl]
    rfl
theorem walk_n {t : S7} {m : S9} (h : TR t m) {k y : Nat} (hk : k < 6) (hy : y ≤ 9) (o : Int32) : ActOk t m (sem_X7_walk (nI k) (nI y) t) 3 (nI k) o (nI y) := by
  obtain ⟨T, l, e, c, b1, b2, b3, b4, b5, b6, b7, b8, b9, c0, c1, c2, c3, c4, c5, d1, d2⟩ := h.1.2
  unfold ActOk sem_X7_walk
  rw [has_n b1 (h.1.1.1.trans b2) hk, bs]
  by_cases q : T.testBit k = true
  · rw [why3 b1 b2 hk q, if_pos q, if_neg one_ne, get_l hk 4 (by decide) 4 rfl, bs, fct h hk (by decide), show mF m k 4 = x9_yard m k from rfl]
    by_cases z : x9_yard m k = nI y
    · rw [if_pos z, if_pos z]
      exact ⟨2, t, by decide, rfl, rfl, fun _ => rfl, fun z => by cases z⟩
    · rw [if_neg z, if_neg z, put_l hk 4 (by decide) 4 _ rfl, bs]
      refine ⟨0, _, by decide, rfl, rfl, fun z => absurd rfl z, fun _ => ⟨p9_yard m (upd (x9_yard m) k (nI y)), ?_, ⟨⟨⟨?_, ?_⟩, h.2⟩, fun _ z => z, rfl, rfl, rfl⟩⟩⟩
      · unfold sem_X9_happen
        rw [if_neg (by decide), if_neg (by decide), if_neg (by decide), if_pos rfl, ck_in (vp_in_nI hk (by decide)), tcl (by omega)]
      · rw [mF_s4]; exact h.1.1.put hk (by decide) _
      · rw [mF_s4]; exact h.1.2.put4 hy
  · rw [why_no b1 b2 hk q (by decide), if_neg q, if_pos rfl]
    exact ⟨1, t, by decide, rfl, rfl, fun _ => rfl, fun z => by cases z⟩
theorem sub_lt0 {a g : Nat} (ha : a < 2 ^ 30) (hg : g < 2 ^ 30) : (nI a - nI g < 0) ↔ a < g := by
  rw [Int32.lt_iff_toInt_lt, pk_sub_toInt ha hg, show (0 : Int32).toInt = 0 from by decide]
  omega
theorem sub_ge0 {a g : Nat} (ha : a < 2 ^ 30) (hg : g < 2 ^ 30) : (0 ≤ nI a - nI g) ↔ g ≤ a := by
  rw [Int32.le_iff_toInt_le, pk_sub_toInt ha hg, show (0 : Int32).toInt = 0 from by decide]
  omega
theorem swear_n {t : S7} {m : S9} (h : TR t m) {k g : Nat} (hk : k < 6) (hg : g ≤ 9) (o : Int32) : ActOk t m (sem_X7_swear (nI k) (nI g) t) 1 (nI k) o (nI g) := by
  obtain ⟨T, l, e, c, b1, b2, b3, b4, b5, b6, b7, b8, b9, c0, c1, c2, c3, c4, c5, d1, d2⟩ := h.1.2
  unfold ActOk sem_X7_swear
  rw [has_n b1 (h.1.1.1.trans b2) hk, bs]
  by_cases q : T.testBit k = true
  · obtain ⟨v0, v01, v02, v03⟩ := c0 k hk
    obtain ⟨v2, v21, v22⟩ := c2 k hk
    have e0 : x9_temper m k = nI v0 := v02
    have e2 : x9_stamps m k = nI v2 := v22
    rw [why1 b1 b2 hk q, if_pos q, if_neg one_ne, get_l hk 0 (by decide) 0 rfl, bs, get_l hk 2 (by decide) 2 rfl, bs, get_l hk 5 (by decide) 5 rfl, bs, get_l hk 1 (by decide) 1 rfl, bs, fct h hk (by decide : 0 < 6), fct h hk (by decide : 1 < 6), fct h hk (by decide : 2 < 6), fct h hk (by decide : 5 < 6), show mF m k 5 = x9_cause m k from rfl, show mF m k 1 = x9_permits m k from rfl, v02, v22, e0, e2]
    by_cases p0 : nI g ≤ nI v0
    · rw [if_pos p0, if_pos p0]
      by_cases p1 : x9_cause m k = -6
      · rw [if_pos p1, if_pos (by rw [p1]; decide)]
        exact ⟨4, t, by decide, rfl, rfl, fun _ => rfl, fun z => by cases z⟩
      · have hc : ¬ x9_cause m k < 0 := by
          rcases c5 k hk with z | ⟨w, w1, w2⟩
          · exact absurd z p1
          · rw [show x9_cause m k = nI w from w2]; exact no0 (by omega)
        rw [if_neg p1, if_neg hc]
        by_cases p2 : (x9_permits m k >>> (x9_cause m k &&& 31)) &&& 1 = 0
        · rw [if_pos p2, if_pos p2]
          exact ⟨4, t, by decide, rfl, rfl, fun _ => rfl, fun z => by cases z⟩
        · rw [if_neg p2, if_neg p2]
          by_cases p3 : nI g ≤ nI v2
          · have g0 : g ≤ v0 := (nI_leI (by omega) (by omega)).mp p0
            have g2 : g ≤ v2 := (nI_leI (by omega) (by omega)).mp p3
            rw [if_pos p3, if_pos p3, put_l hk 0 (by decide) 0 _ rfl, bs, put_l hk 2 (by decide) 2 _ rfl, bs, pk_sub g0, pk_sub g2]
            refine ⟨0, _, by decide, rfl, rfl, fun z => absurd rfl z, fun _ => ⟨p9_stamps (p9_temper m (upd (x9_temper m) k (nI (v0 - g)))) (upd (x9_stamps (p9_temper m (upd (x9_temper m) k (nI (v0 - g))))) k (nI (v2 - g))), ?_, ⟨⟨⟨?_, ?_⟩, h.2⟩, fun _ z => z, rfl, rfl, rfl⟩⟩⟩
            · unfold sem_X9_happen
              rw [if_neg (by decide), if_pos rfl, ck_in (vp_in_nI hk (by decide)), tcl (by omega), e0, pk_sub g0, ck_in (vp_in_nI hk (by decide)), show ∀ V, x9_stamps (p9_temper m V) k = nI v2 from fun V => e2, pk_sub g2]
            · rw [mF_s2, mF_s0]; exact (h.1.1.put hk (by decide) _).put hk (by decide) _
            · rw [mF_s2, mF_s0]; exact (h.1.2.put0 b1 b2 b4 b5 (by omega) (fun z => by have := v03 z; omega)).put2 (by omega)
          · rw [if_neg p3, if_neg p3]
            exact ⟨5, t, by decide, rfl, rfl, fun _ => rfl, fun z => by cases z⟩
    · rw [if_neg p0, if_neg p0]
      exact ⟨3, t, by decide, rfl, rfl, fun _ => rfl, fun z => by cases z⟩
  · rw [why_no b1 b2 hk q (by decide), if_neg q, if_pos rfl]
    exact ⟨1, t, by decide, rfl, rfl, fun _ => rfl, fun z => by cases z⟩
theorem g_ss (m : S9) (v : Nat → Int32) : x9_stamps (p9_stamps m v) = v := rfl
theorem g_us (m : S9) (v : Nat → Int32) : x9_purse (p9_stamps m v) = x9_purse m := rfl
theorem g_uu (m : S9) (v : Nat → Int32) : x9_purse (p9_purse m v) = v := rfl
def sold (m : S9) (k k2 a b c d : Nat) : S9 :=
  let m1 := p9_stamps m (upd (x9_stamps m) k (nI a))
  let m2 := p9_stamps m1 (upd (x9_stamps m1) k2 (nI b))
  let m3 := p9_purse m2 (upd (x9_purse m2) k (nI c))
  p9_purse m3 (upd (x9_purse m3) k2 (nI d))
theorem mF_sold (m : S9) (k k2 a b c d : Nat) : mF (sold m k k2 a b c d) = updF (updF (updF (updF (mF m) k 2 (nI a)) k2 2 (nI b)) k 3 (nI c)) k2 3 (nI d) := by
  unfold sold
  rw [mF_s3, mF_s3, mF_s2, mF_s2]
theorem sell_n {t : S7} {m : S9} (h : TR t m) {k g k2 : Nat} (hk : k < 6) (hg : g ≤ 9) (hk2 : k2 < 6) : ActOk t m (sem_X7_sell (nI k) (nI g) (nI k2) t) 2 (nI k) (nI k2) (nI g) := by
  obtain ⟨T, l, e, c, b1, b2, b3, b4, b5, b6, b7, b8, b9, c0, c1, c2, c3, c4, c5, d1, d2⟩ := h.1.2
  unfold ActOk sem_X7_sell
  rw [has_n b1 (h.1.1.1.trans b2) hk, bs]
  by_cases q : T.testBit k = true
  · rw [why2 b1 b2 hk q hk2, if_pos q, if_neg one_ne, has_n b1 (h.1.1.1.trans b2) hk2, bs]
    by_cases q2 : T.testBit k2 = true
    · rw [if_pos q2, if_pos q2, if_neg one_ne]
      by_cases p0 : nI k = nI k2
      · rw [if_pos p0, if_pos p0]
        exact ⟨2, t, by decide, rfl, rfl, fun _ => rfl, fun z => by cases z⟩
      · have hne : k ≠ k2 := fun z => p0 (by rw [z])
        obtain ⟨a, a1, a2⟩ := c2 k hk
        obtain ⟨b, f1, f2⟩ := c2 k2 hk2
        obtain ⟨cc, g1, g2⟩ := c3 k hk
        obtain ⟨d, h1, h2⟩ := c3 k2 hk2
        have a3 : x9_stamps m k = nI a := a2
        have f3 : x9_stamps m k2 = nI b := f2
        have g3 : x9_purse m k = nI cc := g2
        have h3 : x9_purse m k2 = nI d := h2
        rw [if_neg p0, if_neg p0, get_l hk 2 (by decide) 2 rfl, bs, get_l hk2 2 (by decide) 2 rfl, bs, get_l hk 3 (by decide) 3 rfl, bs, get_l hk2 3 (by decide) 3 rfl, bs, fct h hk (by decide : 2 < 6), fct h hk2 (by decide : 2 < 6), fct h hk (by decide : 3 < 6), fct h hk2 (by decide : 3 < 6), a2, f2, g2, h2, a3, f3, g3, h3, nI_add, nI_add]
        by_cases p1 : g ≤ a
        · rw [if_pos ((sub_ge0 (by omega) (by omega)).mpr p1), if_pos ((nI_leI (by omega) (by omega)).mpr p1)]
          by_cases p2 : d < g
          · rw [if_pos ((sub_lt0 (by omega) (by omega)).mpr p2), if_pos ((nI_ltI (by omega) (by omega)).mpr p2)]
            exact ⟨6, t, by decide, rfl, rfl, fun _ => rfl, fun z => by cases z⟩
          · rw [if_neg (fun z => p2 ((sub_lt0 (by omega) (by omega)).mp z)), if_neg (fun z => p2 ((nI_ltI (by omega) (by omega)).mp z))]
            have e99 : ((99 : Int32) < nI (b + g)) ↔ 99 < b + g := nI_ltI (a := 99) (b := b + g) (by decide) (by omega)
            have e999 : (nI (cc + g) ≤ (999 : Int32)) ↔ cc + g ≤ 999 := nI_leI (a := cc + g) (b := 999) (by omega) (by decide)
            by_cases p3 : 99 < b + g
            · rw [if_pos (e99.mpr p3), if_pos (e99.mpr p3)]
              exact ⟨6, t, by decide, rfl, rfl, fun _ => rfl, fun z => by cases z⟩
            · rw [if_neg (fun z => p3 (e99.mp z)), if_neg (fun z => p3 (e99.mp z))]
              by_cases p4 : cc + g ≤ 999
              · rw [if_pos (e999.mpr p4), if_pos (e999.mpr p4), put_l hk 2 (by decide) 2 _ rfl, bs, put_l hk2 2 (by decide) 2 _ rfl, bs, put_l hk 3 (by decide) 3 _ rfl, bs, put_l hk2 3 (by decide) 3 _ rfl, bs, pk_sub p1, pk_sub (by omega)]
                refine ⟨0, _, by decide, rfl, rfl, fun z => absurd rfl z, fun _ => ⟨sold m k k2 (a - g) (b + g) (cc + g) (d - g), ?_, ⟨⟨⟨?_, ?_⟩, h.2⟩, fun _ z => z, rfl, rfl, rfl⟩⟩⟩
                · unfold sem_X9_happen
                  rw [if_neg (by decide), if_neg (by decide), if_pos rfl]
                  unfold sold
                  simp only [ck_in (vp_in_nI hk (by decide : 6 < 2 ^ 31)), tcl (show k < 2 ^ 31 by omega), ck_in (vp_in_nI hk2 (by decide : 6 < 2 ^ 31)), tcl (show k2 < 2 ^ 31 by omega), g_ss, g_us, g_uu, upd_ne (Ne.symm hne), a3, f3, g3, h3, nI_add, pk_sub p1, pk_sub (show g ≤ d by omega)]
                · rw [mF_sold]; exact (((h.1.1.put hk (by decide) _).put hk2 (by decide) _).put hk (by decide) _).put hk2 (by decide) _
                · rw [mF_sold]; exact (((h.1.2.put2 (by omega)).put2 (by omega)).put3 (by omega)).put3 (by omega)
              · rw [if_neg (fun z => p4 (e999.mp z)), if_neg (fun z => p4 (e999.mp z))]
                exact ⟨6, t, by decide, rfl, rfl, fun _ => rfl, fun z => by cases z⟩
        · rw [if_neg (fun z => p1 ((sub_ge0 (by omega) (by omega)).mp z)), if_neg (fun z => p1 ((nI_leI (by omega) (by omega)).mp z))]
          exact ⟨5, t, by decide, rfl, rfl, fun _ => rfl, fun z => by cases z⟩
    · rw [if_neg q2, if_neg q2, if_pos rfl]
      exact ⟨1, t, by decide, rfl, rfl, fun _ => rfl, fun z => by cases z⟩
  · rw [why_no b1 b2 hk q (by decide), if_neg q, if_pos rfl]
    exact ⟨1, t, by decide, rfl, rfl, fun _ => rfl, fun z => by cases z⟩
theorem dec_n : ∀ v, v ≤ 20 → jmax 0 (nI v - 1) = nI (v - 1) ∧ (if nI v ≤ 0 then nI v - 0 else nI v - 1) = nI (v - 1) := by decide +kernel
theorem end_lp : ∀ n j, j ≤ 6 → 7 ≤ n + j → ∀ t m, TR t m → ∃ t2 m2, lp_X7_endHour_2 n (nI j) t = some t2 ∧ lp_X9_endHour_2 n (nI j) m = some m2 ∧ Did t m t2 m2 := by
  intro n
  induction n with
  | zero => intro j h1 h2; omega
  | succ n ih =>
    intro j h1 h2 t m h
    show ∃ t2 m2, bd_X7_endHour_2 (lp_X7_endHour_2 n) (nI j) t = some t2 ∧ bd_X9_endHour_2 (lp_X9_endHour_2 n) (nI j) m = some m2 ∧ _
    unfold bd_X7_endHour_2 bd_X9_endHour_2
    by_cases hj : j = 6
    · subst hj
      rw [if_pos (by decide), if_pos (by decide)]
      exact ⟨t, m, rfl, rfl, Did.refl h⟩
    · have hj6 : j < 6 := by omega
      obtain ⟨T, l, e, c, b1, b2, b3, b4, b5, b6, b7, b8, b9, c0, c1, c2, c3, c4, c5, d1, d2⟩ := h.1.2
      obtain ⟨v0, v01, v02, v03⟩ := c0 j hj6
      have e0 : x9_temper m j = nI v0 := v02
      obtain ⟨z1, z2⟩ := dec_n v0 v01
      rw [if_neg (no6 hj6), if_neg (no6 hj6), get_l hj6 0 (by decide) 0 rfl, bs, put_l hj6 0 (by decide) 0 _ rfl, bs, ck_in (vp_in_nI hj6 (by decide)), tcl (by omega), fct h hj6 (by decide : 0 < 6), v02, e0, z1, nI_1]
      have hd : Did t m (p7_town t (p6_facts (x7_town t) (upd (x6_facts (x7_town t)) (j * 6 + 0) (nI (v0 - 1))))) (p9_temper m (upd (x9_temper m) j (nI (v0 - 1)))) := by
        refine ⟨⟨⟨?_, ?_⟩, h.2⟩, fun _ z => z, rfl, rfl, rfl⟩
        · rw [mF_s0]; exact h.1.1.put hj6 (by decide) _
        · rw [mF_s0]; exact h.1.2.put0 b1 b2 b4 b5 (by omega) (fun z => by have := v03 z; omega)
      obtain ⟨t2, m2, y1, y2, y3⟩ := ih (j + 1) (by omega) (by omega) _ _ hd.1
      refine ⟨t2, m2, y1, ?_, hd.trans y3⟩
      rw [← y2, ← z2]
      by_cases w : nI v0 ≤ 0
      · rw [if_pos w, if_pos w]
      · rw [if_neg w, if_neg w]
theorem end_n {t : S7} {m : S9} (h : TR t m) (w o u : Int32) : ActOk t m (sem_X7_endHour t) 4 w o u := by
  unfold ActOk sem_X7_endHour
  obtain ⟨t2, m2, y1, y2, y3⟩ := end_lp FUEL 0 (by omega) (by rw [fuel_s]; omega) t m h
  have y4 : lp_X7_endHour_2 FUEL 0 t = some t2 := y1
  have y5 : lp_X9_endHour_2 FUEL 0 m = some m2 := y2
  rw [y4, bs]
  refine ⟨0, t2, by decide, rfl, ?_, fun z => absurd rfl z, fun _ => ⟨m2, ?_, y3⟩⟩
  · unfold sem_X9_whyNot
    rw [if_pos rfl]
    rfl
  · unfold sem_X9_happen sem_X9_endHour
    rw [if_neg (by decide), if_neg (by decide), if_neg (by decide), if_neg (by decide), y5, bs]
    rfl
