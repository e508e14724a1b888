/-! one act: the trial of the class against the reference's live fields -/
def TS (t : S7) (m : S9) : Prop := x7_slips t = x9_slipMany m ∧ x7_paid t = x9_paid m ∧ x7_firstWho t = x9_firstWho m ∧ x7_firstHeard t = x9_firstHeard m
def TR (t : S7) (m : S9) : Prop := RTm (x7_town t) m ∧ TS t m
def frA (m : S9) := (m.1, x9_permits m, x9_sightOne m, x9_sightHeard m, m.2.2.1, m.2.2.2.1, x9_actNow m, m.2.2.2.2.2)
def Did (t : S7) (m : S9) (t2 : S7) (m2 : S9) : Prop := TR t2 m2 ∧ (x7_acts t = x9_actNow m → x7_firstSlip t = x9_firstSlip m → x7_firstSlip t2 = x9_firstSlip m2) ∧ x7_acts t2 = x7_acts t ∧ x7_reason t2 = x7_reason t ∧ frA m2 = frA m
theorem frA_now {m m2 : S9} (h : frA m2 = frA m) : x9_actNow m2 = x9_actNow m := by
  simp only [frA, Prod.mk.injEq] at h
  exact h.2.2.2.2.2.2.1
theorem Did.refl {t : S7} {m : S9} (h : TR t m) : Did t m t m := ⟨h, fun _ z => z, rfl, rfl, rfl⟩
theorem Did.trans {t t2 t3 : S7} {m m2 m3 : S9} (h : Did t m t2 m2) (g : Did t2 m2 t3 m3) : Did t m t3 m3 :=
  ⟨g.1, fun z y => g.2.1 (by rw [h.2.2.1, frA_now h.2.2.2.2]; exact z) (h.2.1 z y), g.2.2.1.trans h.2.2.1, g.2.2.2.1.trans h.2.2.2.1, g.2.2.2.2.trans h.2.2.2.2⟩
def ActOk (t : S7) (m : S9) (cls : Option (Int32 × S7)) (a w o u : Int32) : Prop := ∃ (r : Nat) (t2 : S7), r ≤ 6 ∧ cls = some (nI r, t2) ∧ sem_X9_whyNot a w o u m = some (nI r) ∧ (r ≠ 0 → t2 = t) ∧ (r = 0 → ∃ m2, sem_X9_happen a w o u m = some m2 ∧ Did t m t2 m2)
theorem fct {t : S7} {m : S9} (h : TR t m) {k f : Nat} (hk : k < 6) (hf : f < 6) : x6_facts (x7_town t) (k * 6 + f) = mF m k f := h.1.1.2.2.2.2.1 k hk f hf
theorem why_no {m : S9} {T k : Nat} (hT : T < 64) (hm : x9_there m = nI T) (hk : k < 6) (hb : ¬ T.testBit k = true) {a : Int32} (ha : ¬ a = 4) (o u : Int32) : sem_X9_whyNot a (nI k) o u m = some 1 := by
  unfold sem_X9_whyNot
  rw [if_neg ha, isOne_n hT hm hk, bs, if_neg hb, if_pos rfl]
theorem why0 {m : S9} {T k : Nat} (hT : T < 64) (hm : x9_there m = nI T) (hk : k < 6) (hb : T.testBit k = true) (o u : Int32) : sem_X9_whyNot 0 (nI k) o u m = some 0 := by
  unfold sem_X9_whyNot
  rw [if_neg (by decide : ¬ (0 : Int32) = 4), isOne_n hT hm hk, bs, if_pos hb, if_neg one_ne]
  rfl
theorem why3 {m : S9} {T k : Nat} (hT : T < 64) (hm : x9_there m = nI T) (hk : k < 6) (hb : T.testBit k = true) (o u : Int32) : sem_X9_whyNot 3 (nI k) o u m = if x9_yard m k = u then some 2 else some 0 := by
  unfold sem_X9_whyNot
  rw [if_neg (by decide : ¬ (3 : Int32) = 4), isOne_n hT hm hk, bs, if_pos hb, if_neg one_ne, if_neg (by decide : ¬ (3 : Int32) = 1), if_neg (by decide : ¬ (3 : Int32) = 2), if_pos rfl, ck_in (vp_in_nI hk (by decide)), tcl (by omega)]
theorem why1 {m : S9} {T k : Nat} (hT : T < 64) (hm : x9_there m = nI T) (hk : k < 6) (hb : T.testBit k = true) (o u : Int32) : sem_X9_whyNot 1 (nI k) o u m = if u ≤ x9_temper m k then (if x9_cause m k < 0 then some 4 else if (x9_permits m k >>> (x9_cause m k &&& 31)) &&& 1 = 0 then some 4 else if u ≤ x9_stamps m k then some 0 else some 5) else some 3 := by
  unfold sem_X9_whyNot sem_X9_whyNotSwear
  rw [if_neg (by decide : ¬ (1 : Int32) = 4), isOne_n hT hm hk, bs, if_pos hb, if_neg one_ne, if_pos rfl]
  simp only [ck_in (vp_in_nI hk (by decide : 6 < 2 ^ 31)), tcl (show k < 2 ^ 31 by omega)]
  generalize (if u ≤ x9_temper m k then (if x9_cause m k < 0 then some 4 else if (x9_permits m k >>> (x9_cause m k &&& 31)) &&& 1 = 0 then some 4 else if u ≤ x9_stamps m k then some (0 : Int32) else some 5) else some 3) = z
  cases z <;> rfl
theorem why2 {m : S9} {T k k2 : Nat} (hT : T < 64) (hm : x9_there m = nI T) (hk : k < 6) (hb : T.testBit k = true) (hk2 : k2 < 6) (u : Int32) : sem_X9_whyNot 2 (nI k) (nI k2) u m = if T.testBit k2 = true then (if nI k = nI k2 then some 2 else if u ≤ x9_stamps m k then (if x9_purse m k2 < u then some 6 else if 99 < x9_stamps m k2 + u then some 6 else if x9_purse m k + u ≤ 999 then some 0 else some 6) else some 5) else some 1 := by
  unfold sem_X9_whyNot sem_X9_whyNotSell
  rw [if_neg (by decide : ¬ (2 : Int32) = 4), isOne_n hT hm hk, bs, if_pos hb, if_neg one_ne, if_neg (by decide : ¬ (2 : Int32) = 1), if_pos rfl, isOne_n hT hm hk2, bs]
  by_cases q : T.testBit k2 = true
  · simp only [if_pos q, if_neg one_ne, ck_in (vp_in_nI hk (by decide : 6 < 2 ^ 31)), tcl (show k < 2 ^ 31 by omega), ck_in (vp_in_nI hk2 (by decide : 6 < 2 ^ 31)), tcl (show k2 < 2 ^ 31 by omega)]
    generalize (if nI k = nI k2 then some 2 else if u ≤ x9_stamps m k then (if x9_purse m k2 < u then some 6 else if 99 < x9_stamps m k2 + u then some 6 else if x9_purse m k + u ≤ 999 then some (0 : Int32) else some 6) else some 5) = z
    cases z <;> rfl
  · rw [if_neg q, if_neg q, if_pos rfl]
    rfl
theorem walk_n {t : S7} {m : S9} (h : TR t m) {k y : Nat} (hk : k < 6) (hy : y ≤ 9) (o : Int32) : ActOk t m (sem_X7_walk (nI k) (nI y) t) 3 (nI k) o (nI y) := by
  obtain ⟨T, l, e, c, b1, b2, b3, b4, b5, b6, b7, b8, b9, c0, c1, c2, c3, c4, c5, d1, d2⟩ := h.1.2
  unfold ActOk sem_X7_walk
  rw [has_n b1 (h.1.1.1.trans b2) hk, bs]
  by_cases q : T.testBit k = true
  · rw [why3 b1 b2 hk q, if_pos q, if_neg one_ne, get_l hk 4 (by decide) 4 rfl, bs, fct h hk (by decide), show mF m k 4 = x9_yard m k from rfl]
    by_cases z : x9_yard m k = nI y
    · rw [if_pos z, if_pos z]
      exact ⟨2, t, by decide, rfl, rfl, fun _ => rfl, fun z => by cases z⟩
    · rw [if_neg z, if_neg z, put_l hk 4 (by decide) 4 _ rfl, bs]
      refine ⟨0, _, by decide, rfl, rfl, fun z => absurd rfl z, fun _ => ⟨p9_yard m (upd (x9_yard m) k (nI y)), ?_, ⟨⟨⟨?_, ?_⟩, h.2⟩, fun _ z => z, rfl, rfl, rfl⟩⟩⟩
      · unfold sem_X9_happen
        rw [if_neg (by decide), if_neg (by decide), if_neg (by decide), if_pos rfl, ck_in (vp_in_nI hk (by decide)), tcl (by omega)]
      · rw [mF_s4]; exact h.1.1.put hk (by decide) _
      · rw [mF_s4]; exact h.1.2.put4 hy
  · rw [why_no b1 b2 hk q (by decide), if_neg q, if_pos rfl]
    exact ⟨1, t, by decide, rfl, rfl, fun _ => rfl, fun z => by cases z⟩
