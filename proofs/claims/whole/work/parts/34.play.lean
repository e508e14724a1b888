/-! the pad played: the class reads the pad again, the reference its rows -/
theorem att_n {t : S7} {m : S9} (h : TR t m) {p : S3} {P : Nat → Int32} {c q s e : Nat} (hc : c ≤ 60) (hp : x3_count p = nI c) (hsg : ∀ j, j < 60 → x3_signs p j = P j) (he : e ≤ c) (hr : Row P m q s e) :
    s < e ∧ e ≤ s + 4 ∧ sem_X3_lengthAt (nI s) p = some (nI (e - s)) ∧ ∃ cls, ActOk t m cls (x9_act m q) (x9_who m q) (x9_other m q) (x9_much m q) ∧ sem_X7_attempt (nI s) t p = cls.bind fun r => jn_X7_attempt_140 (p7_reason r.2 r.1) p := by
  have hse : s < e := by unfold Row at hr; omega
  have hse4 : e ≤ s + 4 := by unfold Row at hr; omega
  have e1 : sem_X3_at (nI s) p = some (P s) := by rw [at_n hc hp (by omega), if_pos (by omega), hsg s (by omega)]
  obtain ⟨v1, ev1, hv1⟩ : ∃ v, sem_X3_at (nI s + 1) p = some v ∧ (s + 1 < c → v = P (s + 1)) := by
    refine ⟨_, by rw [nI_1, at_n hc hp (by omega)], fun z => by rw [if_pos z, hsg _ (by omega)]⟩
  obtain ⟨v2, ev2, hv2⟩ : ∃ v, sem_X3_at (nI s + 2) p = some v ∧ (s + 2 < c → v = P (s + 2)) := by
    refine ⟨_, by rw [show (2 : Int32) = nI 2 from rfl, nI_add, at_n hc hp (by omega)], fun z => by rw [if_pos z, hsg _ (by omega)]⟩
  obtain ⟨v3, ev3, hv3⟩ : ∃ v, sem_X3_at (nI s + 3) p = some v ∧ (s + 3 < c → v = P (s + 3)) := by
    refine ⟨_, by rw [show (3 : Int32) = nI 3 from rfl, nI_add, at_n hc hp (by omega)], fun z => by rw [if_pos z, hsg _ (by omega)]⟩
  refine ⟨hse, hse4, ?_⟩
  unfold sem_X7_attempt
  rw [e1, bs, ev1, ev2]
  have hx0 := hsg s (by omega)
  rcases hr with ⟨r1, r2, r3⟩ | ⟨hL, hr⟩
  · refine ⟨by rw [len_dot hc hp (by omega) (hx0.trans r1), show e - s = 1 by omega], sem_X7_endHour t, by rw [r2]; exact end_n h _ _ _, ?_⟩
    rcases letter (P s) with ⟨k, -, -, -, eo⟩ | ⟨-, eo⟩
    · rw [eo, bs, bs, bs, bs, if_pos r1]
    · rw [eo, bs, bs, bs, bs, if_pos r1]
  · have h46 : ¬ P s = 46 := lt46 hL
    have h46x : ¬ x3_signs p s = 46 := by rw [hx0]; exact h46
    obtain ⟨k, hk, hPs, hwho⟩ := hL
    have eo : sem_X3_oneOf (P s) = some (nI k) := by
      rcases letter (P s) with ⟨k', hk', ek, -, eo⟩ | ⟨en, -⟩
      · rw [eo]
        have := (nI_eq (a := 65 + k') (b := 65 + k) (by omega) (by omega)).mp (ek.symm.trans hPs)
        rw [show k' = k by omega]
      · exfalso
        rw [hPs] at en
        unfold sem_X9_isLetter at en
        rw [in_eq, nI_l (by omega), if_pos ⟨(lN_le (a := 65) (b := 65 + k) (by decide) (by omega)).mpr (by omega), (lN_le (a := 65 + k) (b := 70) (by omega) (by decide)).mpr (by omega)⟩] at en
        exact absurd en (by decide)
    rw [eo, bs, bs, bs, bs, if_neg h46, hwho]
    rcases hr with ⟨hT, ⟨g, g1, g2, g3, g4⟩, r3⟩ | ⟨r1, r2, ⟨g, g1, g2, g3, g4⟩, ⟨k2, hk2, z1, z2⟩, r3⟩ | ⟨r1, r2, ⟨g, g1, g2, g3, g4⟩, r3⟩
    · have ev : v1 = P (s + 1) := hv1 (by omega)
      rw [hv2 (by omega), g3, dig48, g4, ev]
      rcases hT with ⟨r1, r2⟩ | ⟨c2, hc2, r2, r4⟩
      · refine ⟨by rw [len_3 hc hp (by omega) h46x (by rw [hsg _ (by omega), r1]; decide), show e - s = 3 by omega], sem_X7_swear (nI k) (nI g) t, by rw [r2]; exact swear_n h hk g2 _, ?_⟩
        rw [if_pos r1]
      · have n1 : ¬ P (s + 1) = 33 := by rintro z; rw [z] at hc2; unfold Cs at hc2; revert hc2; simp (decide := true)
        have n2 : ¬ P (s + 1) = 62 := by rintro z; rw [z] at hc2; unfold Cs at hc2; revert hc2; simp (decide := true)
        have n3 : ¬ P (s + 1) = 64 := by rintro z; rw [z] at hc2; unfold Cs at hc2; revert hc2; simp (decide := true)
        have ec : sem_X3_causeOf (P (s + 1)) = some (nI c2) ∧ c2 ≤ 3 := by
          rcases hc2 with ⟨a, rfl⟩ | ⟨a, rfl⟩ | ⟨a, rfl⟩ | ⟨a, rfl⟩ <;> rw [a] <;> exact ⟨rfl, by decide⟩
        refine ⟨by rw [len_3 hc hp (by omega) h46x (by rw [hsg _ (by omega)]; exact n2), show e - s = 3 by omega], sem_X7_suffer (nI k) (nI c2) (nI g) t, by rw [r2, r4]; exact suffer_n h hk g2 ec.2, ?_⟩
        rw [if_neg n1, if_neg n2, if_neg n3, ec.1, bs]
    · rw [hv2 (by omega), g3, dig48, g4, hv1 (by omega), ev3, hv3 (by omega), z1, z2, r2]
      refine ⟨by rw [len_4 hc hp (by omega) h46x (by rw [hsg _ (by omega), r1]), show e - s = 4 by omega], sem_X7_sell (nI k) (nI g) (nI k2) t, sell_n h hk g2 hk2, ?_⟩
      have eo2 : sem_X3_oneOf (nI (65 + k2)) = some (nI k2) := by
        rcases letter (nI (65 + k2)) with ⟨k', hk', ek, -, eo⟩ | ⟨en, -⟩
        · rw [eo]
          have := (nI_eq (a := 65 + k') (b := 65 + k2) (by omega) (by omega)).mp ek.symm
          rw [show k' = k2 by omega]
        · exfalso
          unfold sem_X9_isLetter at en
          rw [in_eq, nI_l (by omega), if_pos ⟨(lN_le (a := 65) (b := 65 + k2) (by decide) (by omega)).mpr (by omega), (lN_le (a := 65 + k2) (b := 70) (by omega) (by decide)).mpr (by omega)⟩] at en
          exact absurd en (by decide)
      rw [if_neg (by rw [r1]; decide), if_pos r1, bs, eo2, bs]
    · rw [hv2 (by omega), g3, dig48, g4, hv1 (by omega), r2]
      refine ⟨by rw [len_3 hc hp (by omega) h46x (by rw [hsg _ (by omega), r1]; decide), show e - s = 3 by omega], sem_X7_walk (nI k) (nI g) t, walk_n h hk g2 _, ?_⟩
      rw [if_neg (by rw [r1]; decide), if_neg (by rw [r1]; decide), if_pos r1]
def frC (m : S9) := (m.1, x9_permits m, x9_sightOne m, x9_sightHeard m, m.2.2.1, m.2.2.2.1, x9_had m, x9_leaves m, m.2.2.2.2.2.2)
theorem frC_rows {m m2 : S9} (h : frC m2 = frC m) : (∀ q, rowEq m m2 q) ∧ x9_acts m2 = x9_acts m := by
  simp only [frC, Prod.mk.injEq] at h
  have e := h.2.2.2.2.2.1
  refine ⟨fun q => ⟨?_, ?_, ?_, ?_⟩, ?_⟩
  · exact congrArg (fun z => z.1 q) e
  · exact congrArg (fun z => z.2.1 q) e
  · exact congrArg (fun z => z.2.2.1 q) e
  · exact congrArg (fun z => z.2.2.2.1 q) e
  · exact congrArg (fun z => z.2.2.2.2) e
theorem frA_C {m m2 : S9} (h : frA m2 = frA m) : frC m2 = frC m ∧ x9_badAct m2 = x9_badAct m ∧ x9_badWhy m2 = x9_badWhy m := by
  simp only [frA, Prod.mk.injEq] at h
  obtain ⟨h1, h2, h3, h4, h5, h6, h7, h8⟩ := h
  have a1 : x9_had m2 = x9_had m := congrArg (fun z => z.1.1) h8
  have a2 : x9_leaves m2 = x9_leaves m := congrArg (fun z => z.1.2.1) h8
  have a3 : m2.2.2.2.2.2.2 = m.2.2.2.2.2.2 := congrArg (fun z => z.2) h8
  refine ⟨?_, congrArg (fun z => z.1.2.2.1) h8, congrArg (fun z => z.1.2.2.2) h8⟩
  unfold frC
  rw [h1, h2, h3, h4, h5, h6, a1, a2, a3]
theorem go_s (kc : Int32 → S9 → Option S9) {m : S9} {A q : Nat} (ha : x9_acts m = nI A) (hA : A ≤ 60) (hq : q < A) (hb : x9_badAct m = -6) : bd_X9_goHours_18 kc (nI q) m = (sem_X9_whyNot (x9_act m q) (x9_who m q) (x9_other m q) (x9_much m q) (p9_actNow m (nI q))).bind fun r13 => if r13 ≤ 0 then jn_X9_goHours_78 kc (nI q) r13 (-6) (p9_actNow m (nI q)) else jn_X9_goHours_78 kc (nI q) r13 (nI q) (p9_actNow m (nI q)) := by
  unfold bd_X9_goHours_18
  rw [ha, if_neg (fun z => by have := (nI_leI (by omega) (by omega)).mp z; omega), hb, if_neg (by decide), ck_in (vp_in_nI (by omega) (by decide)), ck_in (vp_in_nI (by omega) (by decide)), ck_in (vp_in_nI (by omega) (by decide)), ck_in (vp_in_nI (by omega) (by decide)), tcl (by omega)]
  rfl
def ok1 (m : S9) (q : Nat) : S9 := p9_badWhy (p9_badAct (p9_actNow m (nI q)) (-6)) (-6)
theorem why_ok1 (a w o u : Int32) (m : S9) (q : Nat) : sem_X9_whyNot a w o u (p9_actNow m (nI q)) = sem_X9_whyNot a w o u (ok1 m q) := rfl
theorem go_0 (kc : Int32 → S9 → Option S9) {m : S9} {q : Nat} (hq : q < 60) : jn_X9_goHours_78 kc (nI q) (nI 0) (-6) (p9_actNow m (nI q)) = (sem_X9_happen (x9_act m q) (x9_who m q) (x9_other m q) (x9_much m q) (ok1 m q)).bind fun m2 => kc (nI (q + 1)) m2 := by
  unfold jn_X9_goHours_78 jn_X9_goHours_92
  rw [if_pos (by decide), if_pos (show nI 0 = 0 from rfl), ck_in (vp_in_nI (by omega) (by decide)), ck_in (vp_in_nI (by omega) (by decide)), ck_in (vp_in_nI (by omega) (by decide)), ck_in (vp_in_nI (by omega) (by decide)), tcl (by omega), nI_1]
  rfl
def no1 (m : S9) (q r : Nat) : S9 := p9_badWhy (p9_badAct (p9_actNow m (nI q)) (nI q)) (nI r)
theorem go_no (kc : Int32 → S9 → Option S9) {m : S9} {q r : Nat} (h1 : 1 ≤ r) (h2 : r ≤ 6) : jn_X9_goHours_78 kc (nI q) (nI r) (nI q) (p9_actNow m (nI q)) = kc (nI (q + 1)) (no1 m q r) := by
  have e : ¬ nI r ≤ 0 := fun z => by have := (nI_leI (a := r) (b := 0) (by omega) (by decide)).mp z; omega
  have e2 : ¬ nI r = 0 := fun z => e (by rw [z]; decide)
  unfold jn_X9_goHours_78 jn_X9_goHours_92
  rw [if_neg e, if_neg e2, nI_1]
  rfl
theorem go_end (n : Nat) {m : S9} {q : Nat} (x : Int32) (hq : q < 60) (hb : x9_badAct m = nI q) : lp_X9_goHours_18 (n + 1) x m = some m := by
  show bd_X9_goHours_18 (lp_X9_goHours_18 n) x m = _
  unfold bd_X9_goHours_18
  rw [hb, if_pos (show (0 : Int32) ≤ nI q from nI_pos' (by omega))]
  by_cases z : x9_acts m ≤ x
  · rw [if_pos z]
  · rw [if_neg z]
theorem TR_ok1 {t : S7} {m : S9} (h : TR t m) (q : Nat) : TR t (ok1 m q) := h
theorem frC_ok1 (m : S9) (q : Nat) : frC (ok1 m q) = frC m := rfl
theorem frC_no1 (m : S9) (q r : Nat) : frC (no1 m q r) = frC m := rfl
