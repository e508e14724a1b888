/-! fault: the two readings of the pad -/
theorem nI_n6 {k : Nat} (h : k < 2 ^ 31) : ¬ nI k = -6 := fun z => no0 h (by rw [z]; decide)
/-- a letter of one of the six, or not: for both sides at once -/
theorem letter (x : Int32) : (∃ k : Nat, k < 6 ∧ x = nI (65 + k) ∧ sem_X9_isLetter x = some 1 ∧ sem_X3_oneOf x = some (nI k)) ∨ (sem_X9_isLetter x = some 0 ∧ sem_X3_oneOf x = some (-6)) := by
  unfold sem_X9_isLetter sem_X3_oneOf
  rcases gd x 65 70 (by decide) (by decide) (a := 65) (b := 70) (A := 65) (B := 70) rfl rfl rfl rfl with ⟨j, h1, h2, rfl, e1, e2⟩ | ⟨e1, e2, e3⟩
  · rw [e1, e2, bs, bs, if_neg one_ne]
    obtain ⟨k, rfl⟩ : ∃ k, j = 65 + k := ⟨j - 65, by omega⟩
    refine Or.inl ⟨k, by omega, rfl, rfl, ?_⟩
    rw [show (65 : Int32) = nI 65 from rfl, pk_sub (by omega), show 65 + k - 65 = k by omega]
  · rw [e1, e2, bs, bs]
    exact Or.inr ⟨rfl, rfl⟩
theorem let65 {k : Nat} : nI (65 + k) - 65 = nI k := by
  rw [show (65 : Int32) = nI 65 from rfl, pk_sub (by omega), show 65 + k - 65 = k by omega]
theorem dig48 {k : Nat} : nI (48 + k) - 48 = nI k := by
  rw [show (48 : Int32) = nI 48 from rfl, pk_sub (by omega), show 48 + k - 48 = k by omega]
theorem at_n {p : S3} {c : Nat} (hc : c ≤ 60) (h : x3_count p = nI c) {j : Nat} (hj : j < 100) : sem_X3_at (nI j) p = some (if j < c then x3_signs p j else 0) := by
  unfold sem_X3_at
  rw [if_neg (nI_pos (by omega)), h]
  by_cases q : j < c
  · rw [if_neg (fun z => by have := (nI_leI (by omega) (by omega)).mp z; omega), if_neg (show ¬ (60 : Int32) ≤ nI j from nI_ge (a := j) (b := 60) (by omega) (by decide)), ck_in (vp_in_nI (by omega) (by decide)), tcl (by omega), if_pos q]
  · rw [if_pos ((nI_leI (by omega) (by omega)).mpr (by omega)), if_neg q]
/-- a cause's sign -/
def Cs (v : Int32) (c : Nat) : Prop := (v = 104 ∧ c = 0) ∨ (v = 114 ∧ c = 1) ∨ (v = 116 ∧ c = 2) ∨ (v = 107 ∧ c = 3)
/-- a digit -/
def Dg (lo : Nat) (v w : Int32) : Prop := ∃ g, lo ≤ g ∧ g ≤ 9 ∧ v = nI (48 + g) ∧ w = nI g
def Lt (v w : Int32) : Prop := ∃ k, k < 6 ∧ v = nI (65 + k) ∧ w = nI k
/-- the row q of the reference holds the act that stands from s to t -/
def Two (P : Nat → Int32) (m : S9) (q s : Nat) : Prop := (P (s + 1) = 33 ∧ x9_act m q = 1) ∨ ∃ c, Cs (P (s + 1)) c ∧ x9_act m q = 0 ∧ x9_other m q = nI c
def Row (P : Nat → Int32) (m : S9) (q s t : Nat) : Prop := (P s = 46 ∧ x9_act m q = 4 ∧ t = s + 1) ∨ (Lt (P s) (x9_who m q) ∧ ((Two P m q s ∧ Dg 1 (P (s + 2)) (x9_much m q) ∧ t = s + 3) ∨ (P (s + 1) = 62 ∧ x9_act m q = 2 ∧ Dg 1 (P (s + 2)) (x9_much m q) ∧ Lt (P (s + 3)) (x9_other m q) ∧ t = s + 4) ∨ (P (s + 1) = 64 ∧ x9_act m q = 3 ∧ Dg 0 (P (s + 2)) (x9_much m q) ∧ t = s + 3)))
def rowEq (m m2 : S9) (q : Nat) : Prop := x9_act m2 q = x9_act m q ∧ x9_who m2 q = x9_who m q ∧ x9_other m2 q = x9_other m q ∧ x9_much m2 q = x9_much m q
theorem Row.eq {P : Nat → Int32} {m m2 : S9} {q s t : Nat} (h : Row P m q s t) (e : rowEq m m2 q) : Row P m2 q s t := by
  obtain ⟨e1, e2, e3, e4⟩ := e
  unfold Row Two at h ⊢
  rw [e1, e2, e3, e4]; exact h
/-- what is read of the act under way -/
def Part (P : Nat → Int32) (m : S9) (a s p : Nat) (d : Int32) : Prop := (d = 0 ∧ p = s) ∨ (d = 1 ∧ p = s + 1 ∧ Lt (P s) (x9_who m a)) ∨ (d = 2 ∧ p = s + 2 ∧ Lt (P s) (x9_who m a) ∧ Two P m a s) ∨ (d = 3 ∧ p = s + 2 ∧ Lt (P s) (x9_who m a) ∧ P (s + 1) = 62 ∧ x9_act m a = 2) ∨ (d = 4 ∧ p = s + 2 ∧ Lt (P s) (x9_who m a) ∧ P (s + 1) = 64 ∧ x9_act m a = 3) ∨ (d = 5 ∧ p = s + 3 ∧ Lt (P s) (x9_who m a) ∧ P (s + 1) = 62 ∧ x9_act m a = 2 ∧ Dg 1 (P (s + 2)) (x9_much m a))
def Rd (M : S9) (s : Nat) (m : S9) (a : Nat) (st : Nat → Nat) : Prop := coreM m = coreM M ∧ x9_acts m = nI a ∧ a ≤ s ∧ st 0 = 0 ∧ st a = s ∧ ∀ q, q < a → Row (x9_pad M) m q (st q) (st (q + 1))
def Inv (M : S9) (s p : Nat) (d : Int32) (m : S9) : Prop := ∃ a st, Rd M s m a st ∧ Part (x9_pad M) m a s p d
theorem shut {M m m2 : S9} {s a p : Nat} {st : Nat → Nat} (h : Rd M s m a st) (hc : coreM m2 = coreM m) (ha : x9_acts m2 = nI (a + 1)) (hp : s ≤ p) (he : ∀ q, q < a → rowEq m m2 q) (hn : Row (x9_pad M) m2 a s (p + 1)) : Inv M (p + 1) (p + 1) 0 m2 := by
  obtain ⟨h1, h2, h3, h4, h5, h6⟩ := h
  refine ⟨a + 1, fun q => if q ≤ a then st q else p + 1, ⟨hc.trans h1, ha, by omega, ?_, ?_, fun q hq => ?_⟩, Or.inl ⟨rfl, rfl⟩⟩
  · show (if 0 ≤ a then st 0 else p + 1) = 0
    rw [if_pos (by omega), h4]
  · show (if a + 1 ≤ a then st (a + 1) else p + 1) = p + 1
    rw [if_neg (by omega)]
  · show Row _ _ q (if q ≤ a then st q else p + 1) (if q + 1 ≤ a then st (q + 1) else p + 1)
    rw [if_pos (by omega)]
    by_cases z : q = a
    · subst z
      rw [if_neg (by omega), h5]; exact hn
    · rw [if_pos (by omega)]
      exact (h6 q (by omega)).eq (he q (by omega))
theorem stay {M m m2 : S9} {s a p : Nat} {d : Int32} {st : Nat → Nat} (h : Rd M s m a st) (hc : coreM m2 = coreM m) (ha : x9_acts m2 = nI a) (he : ∀ q, q < a → rowEq m m2 q) (hn : Part (x9_pad M) m2 a s p d) : Inv M s p d m2 := by
  obtain ⟨h1, h2, h3, h4, h5, h6⟩ := h
  exact ⟨a, st, ⟨hc.trans h1, ha, h3, h4, h5, fun q hq => (h6 q hq).eq (he q hq)⟩, hn⟩
/-- the reference begins an act -/
def bg (m : S9) (a : Nat) (w : Int32) : S9 := p9_act (p9_much (p9_other (p9_who m (upd (x9_who m) a w)) (upd (x9_other m) a 0)) (upd (x9_much m) a 0)) (upd (x9_act m) a 4)
theorem g_aw (m : S9) (v : Nat → Int32) : x9_acts (p9_who m v) = x9_acts m := rfl
theorem g_ao (m : S9) (v : Nat → Int32) : x9_acts (p9_other m v) = x9_acts m := rfl
theorem g_am (m : S9) (v : Nat → Int32) : x9_acts (p9_much m v) = x9_acts m := rfl
theorem g_aa (m : S9) (v : Nat → Int32) : x9_acts (p9_act m v) = x9_acts m := rfl
theorem g_ow (m : S9) (v : Nat → Int32) : x9_other (p9_who m v) = x9_other m := rfl
theorem g_oa (m : S9) (v : Nat → Int32) : x9_other (p9_act m v) = x9_other m := rfl
theorem g_mw (m : S9) (v : Nat → Int32) : x9_much (p9_who m v) = x9_much m := rfl
theorem g_mo (m : S9) (v : Nat → Int32) : x9_much (p9_other m v) = x9_much m := rfl
theorem g_kw (m : S9) (v : Nat → Int32) : x9_act (p9_who m v) = x9_act m := rfl
theorem g_ko (m : S9) (v : Nat → Int32) : x9_act (p9_other m v) = x9_act m := rfl
theorem g_km (m : S9) (v : Nat → Int32) : x9_act (p9_much m v) = x9_act m := rfl
theorem bg_core (m : S9) (a : Nat) (w : Int32) : coreM (bg m a w) = coreM m := rfl
theorem bg_acts (m : S9) (a : Nat) (w : Int32) : x9_acts (bg m a w) = x9_acts m := rfl
theorem upd_ne {f : Nat → Int32} {k j : Nat} {v : Int32} (h : j ≠ k) : upd f k v j = f j := if_neg h
theorem upd_eq {f : Nat → Int32} {k : Nat} {v : Int32} : upd f k v k = v := if_pos rfl
theorem bg_row {m : S9} {a q : Nat} {w : Int32} (h : q < a) : rowEq m (bg m a w) q := ⟨upd_ne (by omega), upd_ne (by omega), upd_ne (by omega), upd_ne (by omega)⟩
theorem begin_jn {m : S9} {a : Nat} (ha : x9_acts m = nI a) (h60 : a < 60) (x w : Int32) : jn_X9_begin_23 x (nI a) w m = ((sem_X9_isLetter x).bind fun r5 => if r5 = 0 then (if x = 46 then some (0, p9_acts (bg m a w) (nI (a + 1))) else some (-6, bg m a w)) else some (1, bg m a w)) := by
  have hin : vp_in (nI a) 60 := vp_in_nI h60 (by decide)
  unfold jn_X9_begin_23 sem_X9_close bg
  simp only [g_aw, g_ao, g_am, g_aa, g_ow, g_mw, g_mo, g_kw, g_ko, g_km, ha, ck_in hin, tcl (show a < 2 ^ 31 by omega), bs, nI_1]
theorem bz1 {α : Type} (u : Option α) : bz 1 u = u := if_pos (Or.inr rfl)
theorem bz0 {α : Type} (u : Option α) : bz 0 u = u := if_pos (Or.inl rfl)
/-- the class: may this sign stand here -/
theorem can0 {p : S3} {c s : Nat} (hc : c ≤ 60) (h : x3_count p = nI c) (hs : s < c) : sem_X3_canStand (nI s) (nI s) p = (if x3_signs p s = 46 then some 1 else (sem_X3_oneOf (x3_signs p s)).bind fun r3 => if r3 = -6 then some 0 else some 1) := by
  unfold sem_X3_canStand
  rw [at_n hc h (by omega), if_pos hs, bs, pk_sub (Nat.le_refl s), show s - s = 0 by omega, if_pos (show nI 0 = 0 from rfl)]
theorem can1 {p : S3} {c s : Nat} (hc : c ≤ 60) (h : x3_count p = nI c) (hs : s + 1 < c) : sem_X3_canStand (nI s) (nI (s + 1)) p = (if x3_signs p (s + 1) = 33 then some 1 else if x3_signs p (s + 1) = 62 then some 1 else if x3_signs p (s + 1) = 64 then some 1 else (sem_X3_causeOf (x3_signs p (s + 1))).bind fun r3 => if r3 = -6 then some 0 else some 1) := by
  unfold sem_X3_canStand
  rw [at_n hc h (by omega), if_pos hs, bs, pk_sub (by omega), show s + 1 - s = 1 by omega, if_neg (by decide : ¬ nI 1 = 0), if_pos (show nI 1 = 1 from rfl)]
theorem can2 {p : S3} {c s : Nat} (hc : c ≤ 60) (h : x3_count p = nI c) (hs : s + 2 < c) : sem_X3_canStand (nI s) (nI (s + 2)) p = (if x3_signs p (s + 1) = 64 then sem_X8_within (x3_signs p (s + 2)) 48 57 else sem_X8_within (x3_signs p (s + 2)) 49 57) := by
  unfold sem_X3_canStand
  rw [at_n hc h (by omega), if_pos hs, bs, pk_sub (by omega), show s + 2 - s = 2 by omega, if_neg (by decide : ¬ nI 2 = 0), if_neg (by decide : ¬ nI 2 = 1), if_pos (show nI 2 = 2 from rfl), nI_1, at_n hc h (by omega), if_pos (by omega), bs]
  simp only [within_eq, bs]
  by_cases q : x3_signs p (s + 1) = 64
  · rw [if_pos q, if_pos q]
    by_cases q2 : (48 : Int32) ≤ x3_signs p (s + 2) ∧ x3_signs p (s + 2) ≤ 57
    · rw [if_pos q2, bz1]
    · rw [if_neg q2, bz0]
  · rw [if_neg q, if_neg q]
    by_cases q2 : (49 : Int32) ≤ x3_signs p (s + 2) ∧ x3_signs p (s + 2) ≤ 57
    · rw [if_pos q2, bz1]
    · rw [if_neg q2, bz0]
theorem can3 {p : S3} {c s : Nat} (hc : c ≤ 60) (h : x3_count p = nI c) (hs : s + 3 < c) : sem_X3_canStand (nI s) (nI (s + 3)) p = ((sem_X3_oneOf (x3_signs p (s + 3))).bind fun r3 => if r3 = -6 then some 0 else some 1) := by
  unfold sem_X3_canStand
  rw [at_n hc h (by omega), if_pos hs, bs, pk_sub (by omega), show s + 3 - s = 3 by omega, if_neg (by decide : ¬ nI 3 = 0), if_neg (by decide : ¬ nI 3 = 1), if_neg (by decide : ¬ nI 3 = 2)]
theorem len_dot {p : S3} {c s : Nat} (hc : c ≤ 60) (h : x3_count p = nI c) (hs : s < c) (hd : x3_signs p s = 46) : sem_X3_lengthAt (nI s) p = some (nI 1) := by
  unfold sem_X3_lengthAt
  rw [at_n hc h (by omega), if_pos hs, bs, if_pos hd]
  rfl
theorem len_no {p : S3} {c s : Nat} (hc : c ≤ 60) (h : x3_count p = nI c) (hs : s < c) (hd : ¬ x3_signs p s = 46) : ∃ l, (l = 3 ∨ l = 4) ∧ sem_X3_lengthAt (nI s) p = some (nI l) := by
  unfold sem_X3_lengthAt
  rw [at_n hc h (by omega), if_pos hs, bs, if_neg hd, nI_1, at_n hc h (by omega), bs]
  by_cases q : (if s + 1 < c then x3_signs p (s + 1) else 0) = 62
  · rw [if_pos q]; exact ⟨4, Or.inr rfl, rfl⟩
  · rw [if_neg q]; exact ⟨3, Or.inl rfl, rfl⟩
theorem len_3 {p : S3} {c s : Nat} (hc : c ≤ 60) (h : x3_count p = nI c) (hs : s + 1 < c) (hd : ¬ x3_signs p s = 46) (h1 : ¬ x3_signs p (s + 1) = 62) : sem_X3_lengthAt (nI s) p = some (nI 3) := by
  unfold sem_X3_lengthAt
  rw [at_n hc h (by omega), if_pos (by omega), bs, if_neg hd, nI_1, at_n hc h (by omega), if_pos hs, bs, if_neg h1]
  rfl
theorem len_4 {p : S3} {c s : Nat} (hc : c ≤ 60) (h : x3_count p = nI c) (hs : s + 1 < c) (hd : ¬ x3_signs p s = 46) (h1 : x3_signs p (s + 1) = 62) : sem_X3_lengthAt (nI s) p = some (nI 4) := by
  unfold sem_X3_lengthAt
  rw [at_n hc h (by omega), if_pos (by omega), bs, if_neg hd, nI_1, at_n hc h (by omega), if_pos hs, bs, if_pos h1]
  rfl
theorem lt46 {v w : Int32} (h : Lt v w) : ¬ v = 46 := by
  obtain ⟨k, hk, rfl, -⟩ := h
  exact fun z => by have := (nI_eq (a := 65 + k) (b := 46) (by omega) (by decide)).mp z; omega
/-- the reference reads the second sign -/
theorem deed_n {m : S9} {a : Nat} (ha : x9_acts m = nI a) (h60 : a < 60) (x : Int32) :
    (∃ c, Cs x c ∧ c ≤ 3 ∧ sem_X3_causeOf x = some (nI c) ∧ sem_X9_deed x m = some (2, p9_other (p9_act m (upd (x9_act m) a 0)) (upd (x9_other m) a (nI c)))) ∨
    (sem_X3_causeOf x = some (-6) ∧ ∃ r k, sem_X9_deed x m = some (r, p9_other (p9_act m (upd (x9_act m) a k)) (upd (x9_other m) a 0)) ∧ ((x = 33 ∧ r = 2 ∧ k = 1) ∨ (x = 62 ∧ r = 3 ∧ k = 2) ∨ (x = 64 ∧ r = 4 ∧ k = 3) ∨ (r = -6 ∧ ¬ x = 33 ∧ ¬ x = 62 ∧ ¬ x = 64))) := by
  have hin : vp_in (nI a) 60 := vp_in_nI h60 (by decide)
  have e : ∀ y : Int32, jn_X9_deed_42 x y m = (if y < 0 then (if x = 33 then some (2, p9_other (p9_act m (upd (x9_act m) a 1)) (upd (x9_other m) a 0)) else if x = 62 then some (3, p9_other (p9_act m (upd (x9_act m) a 2)) (upd (x9_other m) a 0)) else if x = 64 then some (4, p9_other (p9_act m (upd (x9_act m) a 3)) (upd (x9_other m) a 0)) else some (-6, p9_other (p9_act m (upd (x9_act m) a 3)) (upd (x9_other m) a 0))) else some (2, p9_other (p9_act m (upd (x9_act m) a 0)) (upd (x9_other m) a y))) := by
    intro y
    unfold jn_X9_deed_42 jn_X9_deed_80 jn_X9_deed_98
    simp only [g_aa, g_oa, ha, ck_in hin, tcl (show a < 2 ^ 31 by omega)]
    by_cases hy : y < 0
    · have hy2 : ¬ 0 ≤ y := Int32.not_le.mpr hy
      simp only [if_pos hy, if_neg hy2]
      by_cases q : x = 33
      · simp only [if_pos q]
      · simp only [if_neg q]
        by_cases q : x = 62
        · simp only [if_pos q]
        · simp only [if_neg q]
    · have hy2 : 0 ≤ y := Int32.not_lt.mp hy
      simp only [if_neg hy, if_pos hy2]
  unfold sem_X9_deed sem_X3_causeOf Cs
  by_cases q1 : x = 104
  · rw [if_pos q1, if_pos q1, e]; exact Or.inl ⟨0, Or.inl ⟨q1, rfl⟩, by decide, rfl, rfl⟩
  by_cases q2 : x = 114
  · subst q2; rw [e, e]; exact Or.inl ⟨1, Or.inr (Or.inl ⟨rfl, rfl⟩), by decide, rfl, rfl⟩
  by_cases q3 : x = 116
  · subst q3; rw [e, e, e]; exact Or.inl ⟨2, Or.inr (Or.inr (Or.inl ⟨rfl, rfl⟩)), by decide, rfl, rfl⟩
  by_cases q4 : x = 107
  · subst q4; rw [e, e, e, e]; exact Or.inl ⟨3, Or.inr (Or.inr (Or.inr ⟨rfl, rfl⟩)), by decide, rfl, rfl⟩
  rw [if_neg q1, if_neg q2, if_neg q3, if_neg q4, if_neg q1, if_neg q4, if_neg q2, if_neg q3, e, if_pos (by decide)]
  refine Or.inr ⟨rfl, ?_⟩
  by_cases p1 : x = 33
  · rw [if_pos p1]; exact ⟨2, 1, rfl, Or.inl ⟨p1, rfl, rfl⟩⟩
  by_cases p2 : x = 62
  · rw [if_neg p1, if_pos p2]; exact ⟨3, 2, rfl, Or.inr (Or.inl ⟨p2, rfl, rfl⟩)⟩
  by_cases p3 : x = 64
  · rw [if_neg p1, if_neg p2, if_pos p3]; exact ⟨4, 3, rfl, Or.inr (Or.inr (Or.inl ⟨p3, rfl, rfl⟩))⟩
  rw [if_neg p1, if_neg p2, if_neg p3]; exact ⟨-6, 3, rfl, Or.inr (Or.inr (Or.inr ⟨rfl, p1, p2, p3⟩))⟩
theorem ac_core (m : S9) (v : Int32) : coreM (p9_acts m v) = coreM m := rfl
theorem ac_acts (m : S9) (v : Int32) : x9_acts (p9_acts m v) = v := rfl
theorem ac_row (m : S9) (v : Int32) (q : Nat) : rowEq m (p9_acts m v) q := ⟨rfl, rfl, rfl, rfl⟩
theorem rowEq.trans {m m2 m3 : S9} {q : Nat} (h : rowEq m m2 q) (h2 : rowEq m2 m3 q) : rowEq m m3 q := ⟨h2.1.trans h.1, h2.2.1.trans h.2.1, h2.2.2.1.trans h.2.2.1, h2.2.2.2.trans h.2.2.2⟩
theorem bg_act (m : S9) (a : Nat) (w : Int32) : x9_act (bg m a w) a = 4 := upd_eq
theorem n46 {k : Nat} (hk : k < 6) : ¬ nI (65 + k) = 46 := fun z => by have := (nI_eq (a := 65 + k) (b := 46) (by omega) (by decide)).mp z; omega
def stepOk (M m : S9) (p : S3) (s j : Nat) (d : Int32) : Prop :=
  (sem_X3_canStand (nI s) (nI j) p = some 0 ∧ ∃ r m2, sem_X9_readOn d (x9_pad M j) m = some (r, m2) ∧ ¬ 0 ≤ r ∧ coreM m2 = coreM M) ∨
  (sem_X3_canStand (nI s) (nI j) p = some 1 ∧ ∃ d2 s2 m2 l, sem_X9_readOn d (x9_pad M j) m = some (d2, m2) ∧ 0 ≤ d2 ∧ Inv M s2 (j + 1) d2 m2 ∧ sem_X3_lengthAt (nI s) p = some (nI l) ∧ l ≤ 4 ∧ ((j + 1 = s + l ∧ s2 = j + 1) ∨ (j + 1 ≠ s + l ∧ s2 = s)))
theorem step0 {M m : S9} {p : S3} {c s a : Nat} {st : Nat → Nat} (hc : c ≤ 60) (h : x3_count p = nI c) (hsg : ∀ j, j < 60 → x3_signs p j = x9_pad M j) (hj : s < c) (hR : Rd M s m a st) : stepOk M m p s s 0 := by
  unfold stepOk
  have ha := hR.2.1
  have hs := hR.2.2.1
  have hx := hsg s (by omega)
  rw [can0 hc h hj, hx]
  have e0 : ∀ x, sem_X9_readOn 0 x m = (sem_X9_begin x m).bind fun r13 => some (r13.1, r13.2) := fun x => by unfold sem_X9_readOn; rw [if_pos rfl]
  rw [e0]
  unfold sem_X9_begin
  rw [ha]
  rcases letter (x9_pad M s) with ⟨k, hk, ex, e1, e2⟩ | ⟨e1, e2⟩
  · rw [e1, e2, ex, bs, bs, if_neg one_ne, begin_jn ha (by omega), ← ex, e1, bs, if_neg one_ne, ex, if_neg (n46 hk), if_neg (nI_n6 (by omega)), let65]
    obtain ⟨l, hl, el⟩ := len_no hc h hj (by rw [hx, ex]; exact n46 hk)
    refine Or.inr ⟨rfl, 1, s, bg m a (nI k), l, rfl, by decide, ?_, el, by omega, Or.inr ⟨by omega, rfl⟩⟩
    exact stay hR (bg_core _ _ _) ((bg_acts _ _ _).trans ha) (fun q hq => bg_row hq) (Or.inr (Or.inl ⟨rfl, rfl, k, hk, ex, upd_eq⟩))
  · rw [e1, e2, bs, bs, if_pos rfl, begin_jn ha (by omega), e1, bs, if_pos rfl, if_pos rfl]
    by_cases q : x9_pad M s = 46
    · rw [if_pos q, if_pos q]
      refine Or.inr ⟨rfl, 0, s + 1, _, 1, rfl, by decide, ?_, len_dot hc h hj (hx.trans q), by decide, Or.inl ⟨rfl, rfl⟩⟩
      have hrow : Row (x9_pad M) (bg m a 0) a s (s + 1) := Or.inl ⟨q, bg_act _ _ _, rfl⟩
      exact shut hR ((ac_core _ _).trans (bg_core _ _ _)) (ac_acts _ _) (Nat.le_refl _) (fun q hq => (bg_row hq).trans (ac_row _ _ _)) (hrow.eq (ac_row _ _ _))
    · rw [if_neg q, if_neg q]
      exact Or.inl ⟨rfl, -6, _, rfl, by decide, (bg_core _ _ _).trans hR.1⟩
theorem step1 {M m : S9} {p : S3} {c s a : Nat} {st : Nat → Nat} (hc : c ≤ 60) (h : x3_count p = nI c) (hsg : ∀ j, j < 60 → x3_signs p j = x9_pad M j) (hj : s + 1 < c) (hR : Rd M s m a st) (hL : Lt (x9_pad M s) (x9_who m a)) : stepOk M m p s (s + 1) 1 := by
  unfold stepOk
  have ha := hR.2.1
  have hs := hR.2.2.1
  have hx := hsg (s + 1) (by omega)
  have hx0 := hsg s (by omega)
  have h46 : ¬ x3_signs p s = 46 := by rw [hx0]; exact lt46 hL
  rw [can1 hc h hj, hx]
  have e0 : ∀ x, sem_X9_readOn 1 x m = (sem_X9_deed x m).bind fun r13 => some (r13.1, r13.2) := fun x => by unfold sem_X9_readOn; rw [if_neg (by decide), if_pos rfl]
  rw [e0]
  have hcore : ∀ u v, coreM (p9_other (p9_act m u) v) = coreM m := fun u v => rfl
  have hrow : ∀ (k w : Int32) q, q < a → rowEq m (p9_other (p9_act m (upd (x9_act m) a k)) (upd (x9_other m) a w)) q := fun k w q hq => ⟨upd_ne (by omega), rfl, upd_ne (by omega), rfl⟩
  rcases deed_n ha (by omega) (x9_pad M (s + 1)) with ⟨c2, hc2, hc3, e1, e2⟩ | ⟨e1, r, k, e2, e3⟩
  · have n1 : ¬ x9_pad M (s + 1) = 33 := by rintro z; rw [z] at hc2; unfold Cs at hc2; revert hc2; simp (decide := true)
    have n2 : ¬ x9_pad M (s + 1) = 62 := by rintro z; rw [z] at hc2; unfold Cs at hc2; revert hc2; simp (decide := true)
    have n3 : ¬ x9_pad M (s + 1) = 64 := by rintro z; rw [z] at hc2; unfold Cs at hc2; revert hc2; simp (decide := true)
    rw [e1, e2, bs, bs, if_neg n1, if_neg n2, if_neg n3, if_neg (nI_n6 (by omega))]
    refine Or.inr ⟨rfl, 2, s, _, 3, rfl, by decide, ?_, len_3 hc h hj h46 (by rw [hx]; exact n2), by decide, Or.inr ⟨by omega, rfl⟩⟩
    exact stay hR (hcore _ _) ha (hrow _ _) (Or.inr (Or.inr (Or.inl ⟨rfl, rfl, hL, Or.inr ⟨c2, hc2, upd_eq, upd_eq⟩⟩)))
  · rw [e1, e2, bs, bs]
    rcases e3 with ⟨q, rfl, rfl⟩ | ⟨q, rfl, rfl⟩ | ⟨q, rfl, rfl⟩ | ⟨rfl, q1, q2, q3⟩
    · rw [if_pos q]
      refine Or.inr ⟨rfl, 2, s, _, 3, rfl, by decide, ?_, len_3 hc h hj h46 (by rw [hx, q]; decide), by decide, Or.inr ⟨by omega, rfl⟩⟩
      exact stay hR (hcore _ _) ha (hrow _ _) (Or.inr (Or.inr (Or.inl ⟨rfl, rfl, hL, Or.inl ⟨q, upd_eq⟩⟩)))
    · rw [if_neg (by rw [q]; decide), if_pos q]
      refine Or.inr ⟨rfl, 3, s, _, 4, rfl, by decide, ?_, len_4 hc h hj h46 (by rw [hx, q]), by decide, Or.inr ⟨by omega, rfl⟩⟩
      exact stay hR (hcore _ _) ha (hrow _ _) (Or.inr (Or.inr (Or.inr (Or.inl ⟨rfl, rfl, hL, q, upd_eq⟩))))
    · rw [if_neg (by rw [q]; decide), if_neg (by rw [q]; decide), if_pos q]
      refine Or.inr ⟨rfl, 4, s, _, 3, rfl, by decide, ?_, len_3 hc h hj h46 (by rw [hx, q]; decide), by decide, Or.inr ⟨by omega, rfl⟩⟩
      exact stay hR (hcore _ _) ha (hrow _ _) (Or.inr (Or.inr (Or.inr (Or.inr (Or.inl ⟨rfl, rfl, hL, q, upd_eq⟩)))))
    · rw [if_neg q1, if_neg q2, if_neg q3, if_pos rfl]
      exact Or.inl ⟨rfl, -6, _, rfl, by decide, (hcore _ _).trans hR.1⟩
def mu (m : S9) (a : Nat) (w : Int32) : S9 := p9_much m (upd (x9_much m) a w)
theorem mu_core (m : S9) (a : Nat) (w : Int32) : coreM (mu m a w) = coreM m := rfl
theorem mu_acts (m : S9) (a : Nat) (w : Int32) : x9_acts (mu m a w) = x9_acts m := rfl
theorem mu_act (m : S9) (a : Nat) (w : Int32) : x9_act (mu m a w) = x9_act m := rfl
theorem mu_who (m : S9) (a : Nat) (w : Int32) : x9_who (mu m a w) = x9_who m := rfl
theorem mu_other (m : S9) (a : Nat) (w : Int32) : x9_other (mu m a w) = x9_other m := rfl
theorem mu_much (m : S9) (a : Nat) (w : Int32) : x9_much (mu m a w) a = w := upd_eq
theorem mu_row {m : S9} {a q : Nat} {w : Int32} (h : q < a) : rowEq m (mu m a w) q := ⟨rfl, rfl, rfl, upd_ne (by omega)⟩
theorem rd2 {m : S9} {a : Nat} (ha : x9_acts m = nI a) (h60 : a < 60) (x : Int32) : sem_X9_readOn 2 x m = jn_X9_readOn_85 2 (Int32.toInt64 x) 49 (mu m a (x - 48)) := by
  unfold sem_X9_readOn
  rw [if_neg (by decide), if_neg (by decide), if_neg (by decide), ha, ck_in (vp_in_nI h60 (by decide)), if_neg (by decide), tcl (by omega)]
  rfl
theorem rd3 {m : S9} {a : Nat} (ha : x9_acts m = nI a) (h60 : a < 60) (x : Int32) : sem_X9_readOn 3 x m = jn_X9_readOn_85 3 (Int32.toInt64 x) 49 (mu m a (x - 48)) := by
  unfold sem_X9_readOn
  rw [if_neg (by decide), if_neg (by decide), if_neg (by decide), ha, ck_in (vp_in_nI h60 (by decide)), if_neg (by decide), tcl (by omega)]
  rfl
theorem rd4 {m : S9} {a : Nat} (ha : x9_acts m = nI a) (h60 : a < 60) (x : Int32) : sem_X9_readOn 4 x m = jn_X9_readOn_85 4 (Int32.toInt64 x) 48 (mu m a (x - 48)) := by
  unfold sem_X9_readOn
  rw [if_neg (by decide), if_neg (by decide), if_neg (by decide), ha, ck_in (vp_in_nI h60 (by decide)), if_pos rfl, tcl (by omega)]
  rfl
theorem jn85 {m : S9} {a : Nat} (ha : x9_acts m = nI a) (d : Int32) (x lo : Int64) : jn_X9_readOn_85 d x lo m = (sem_X9_in x lo 57).bind fun r1 => if r1 = 0 then some (-6, m) else if d = 3 then some (5, m) else some (0, p9_acts m (nI (a + 1))) := by
  unfold jn_X9_readOn_85 sem_X9_close
  rw [ha, nI_1]
  rfl
def ot (m : S9) (a : Nat) (w : Int32) : S9 := p9_other m (upd (x9_other m) a w)
theorem rd5 {m : S9} {a : Nat} (ha : x9_acts m = nI a) (h60 : a < 60) (x : Int32) : sem_X9_readOn 5 x m = (sem_X9_isLetter x).bind fun r7 => if r7 = 0 then some (-6, ot m a (x - 65)) else some (0, p9_acts (ot m a (x - 65)) (nI (a + 1))) := by
  unfold sem_X9_readOn sem_X9_close
  rw [if_neg (by decide), if_neg (by decide), if_pos rfl, ha, ck_in (vp_in_nI h60 (by decide)), tcl (by omega)]
  simp only [g_ao, ha, nI_1, bs]
  rfl
theorem ot_core (m : S9) (a : Nat) (w : Int32) : coreM (ot m a w) = coreM m := rfl
theorem ot_acts (m : S9) (a : Nat) (w : Int32) : x9_acts (ot m a w) = x9_acts m := rfl
theorem ot_act (m : S9) (a : Nat) (w : Int32) : x9_act (ot m a w) = x9_act m := rfl
theorem ot_who (m : S9) (a : Nat) (w : Int32) : x9_who (ot m a w) = x9_who m := rfl
theorem ot_much (m : S9) (a : Nat) (w : Int32) : x9_much (ot m a w) = x9_much m := rfl
theorem ot_other (m : S9) (a : Nat) (w : Int32) : x9_other (ot m a w) a = w := upd_eq
theorem ot_row {m : S9} {a q : Nat} {w : Int32} (h : q < a) : rowEq m (ot m a w) q := ⟨rfl, rfl, upd_ne (by omega), rfl⟩
theorem step2 {M m : S9} {p : S3} {c s a : Nat} {st : Nat → Nat} (hc : c ≤ 60) (h : x3_count p = nI c) (hsg : ∀ j, j < 60 → x3_signs p j = x9_pad M j) (hj : s + 2 < c) (hR : Rd M s m a st) (hL : Lt (x9_pad M s) (x9_who m a)) (hT : Two (x9_pad M) m a s) : stepOk M m p s (s + 2) 2 := by
  unfold stepOk
  have ha := hR.2.1
  have hs := hR.2.2.1
  have hx := hsg (s + 2) (by omega)
  have hx1 := hsg (s + 1) (by omega)
  have hx0 := hsg s (by omega)
  have h46 : ¬ x3_signs p s = 46 := by rw [hx0]; exact lt46 hL
  have n3 : ¬ x9_pad M (s + 1) = 64 ∧ ¬ x9_pad M (s + 1) = 62 := by
    rcases hT with ⟨z, -⟩ | ⟨c2, hc2, -⟩
    · rw [z]; decide
    · constructor
      · rintro z; rw [z] at hc2; unfold Cs at hc2; revert hc2; simp (decide := true)
      · rintro z; rw [z] at hc2; unfold Cs at hc2; revert hc2; simp (decide := true)
  rw [can2 hc h hj, hx, hx1, if_neg n3.1, rd2 ha (by omega), jn85 ((mu_acts _ _ _).trans ha)]
  rcases gd (x9_pad M (s + 2)) 49 57 (by decide) (by decide) (a := 49) (b := 57) (A := 49) (B := 57) rfl rfl rfl rfl with ⟨j, h1, h2, ex, e1, e2⟩ | ⟨e1, e2, e3⟩
  · obtain ⟨g, rfl⟩ : ∃ g, j = 48 + g := ⟨j - 48, by omega⟩
    rw [e1, e2, bs, if_neg one_ne, if_neg (by decide)]
    refine Or.inr ⟨rfl, 0, s + 3, _, 3, rfl, by decide, ?_, len_3 hc h (by omega) h46 (by rw [hx1]; exact n3.2), by decide, Or.inl ⟨rfl, rfl⟩⟩
    have hrow : Row (x9_pad M) (mu m a (x9_pad M (s + 2) - 48)) a s (s + 2 + 1) := by
      refine Or.inr ⟨by rw [mu_who]; exact hL, Or.inl ⟨?_, ⟨g, by omega, by omega, ex, by rw [mu_much, ex, dig48]⟩, rfl⟩⟩
      unfold Two; rw [mu_act, mu_other]; exact hT
    exact shut hR ((ac_core _ _).trans (mu_core _ _ _)) (ac_acts _ _) (by omega) (fun q hq => (mu_row hq).trans (ac_row _ _ _)) (hrow.eq (ac_row _ _ _))
  · rw [e1, e2, bs, if_pos rfl]
    exact Or.inl ⟨rfl, -6, _, rfl, by decide, (mu_core _ _ _).trans hR.1⟩
theorem step3 {M m : S9} {p : S3} {c s a : Nat} {st : Nat → Nat} (hc : c ≤ 60) (h : x3_count p = nI c) (hsg : ∀ j, j < 60 → x3_signs p j = x9_pad M j) (hj : s + 2 < c) (hR : Rd M s m a st) (hL : Lt (x9_pad M s) (x9_who m a)) (hK : x9_pad M (s + 1) = 62) (hA : x9_act m a = 2) : stepOk M m p s (s + 2) 3 := by
  unfold stepOk
  have ha := hR.2.1
  have hs := hR.2.2.1
  have hx := hsg (s + 2) (by omega)
  have hx1 := hsg (s + 1) (by omega)
  have hx0 := hsg s (by omega)
  have h46 : ¬ x3_signs p s = 46 := by rw [hx0]; exact lt46 hL
  rw [can2 hc h hj, hx, hx1, if_neg (by rw [hK]; decide), rd3 ha (by omega), jn85 ((mu_acts _ _ _).trans ha)]
  rcases gd (x9_pad M (s + 2)) 49 57 (by decide) (by decide) (a := 49) (b := 57) (A := 49) (B := 57) rfl rfl rfl rfl with ⟨j, h1, h2, ex, e1, e2⟩ | ⟨e1, e2, e3⟩
  · obtain ⟨g, rfl⟩ : ∃ g, j = 48 + g := ⟨j - 48, by omega⟩
    rw [e1, e2, bs, if_neg one_ne, if_pos rfl]
    refine Or.inr ⟨rfl, 5, s, _, 4, rfl, by decide, ?_, len_4 hc h (by omega) h46 (by rw [hx1]; exact hK), by decide, Or.inr ⟨by omega, rfl⟩⟩
    exact stay hR (mu_core _ _ _) ((mu_acts _ _ _).trans ha) (fun q hq => mu_row hq) (Or.inr (Or.inr (Or.inr (Or.inr (Or.inr ⟨rfl, rfl, by rw [mu_who]; exact hL, hK, by rw [mu_act]; exact hA, g, by omega, by omega, ex, by rw [mu_much, ex, dig48]⟩)))))
  · rw [e1, e2, bs, if_pos rfl]
    exact Or.inl ⟨rfl, -6, _, rfl, by decide, (mu_core _ _ _).trans hR.1⟩
theorem step4 {M m : S9} {p : S3} {c s a : Nat} {st : Nat → Nat} (hc : c ≤ 60) (h : x3_count p = nI c) (hsg : ∀ j, j < 60 → x3_signs p j = x9_pad M j) (hj : s + 2 < c) (hR : Rd M s m a st) (hL : Lt (x9_pad M s) (x9_who m a)) (hK : x9_pad M (s + 1) = 64) (hA : x9_act m a = 3) : stepOk M m p s (s + 2) 4 := by
  unfold stepOk
  have ha := hR.2.1
  have hs := hR.2.2.1
  have hx := hsg (s + 2) (by omega)
  have hx1 := hsg (s + 1) (by omega)
  have hx0 := hsg s (by omega)
  have h46 : ¬ x3_signs p s = 46 := by rw [hx0]; exact lt46 hL
  rw [can2 hc h hj, hx, hx1, if_pos hK, rd4 ha (by omega), jn85 ((mu_acts _ _ _).trans ha)]
  rcases gd (x9_pad M (s + 2)) 48 57 (by decide) (by decide) (a := 48) (b := 57) (A := 48) (B := 57) rfl rfl rfl rfl with ⟨j, h1, h2, ex, e1, e2⟩ | ⟨e1, e2, e3⟩
  · obtain ⟨g, rfl⟩ : ∃ g, j = 48 + g := ⟨j - 48, by omega⟩
    rw [e1, e2, bs, if_neg one_ne, if_neg (by decide)]
    refine Or.inr ⟨rfl, 0, s + 3, _, 3, rfl, by decide, ?_, len_3 hc h (by omega) h46 (by rw [hx1, hK]; decide), by decide, Or.inl ⟨rfl, rfl⟩⟩
    have hrow : Row (x9_pad M) (mu m a (x9_pad M (s + 2) - 48)) a s (s + 2 + 1) := Or.inr ⟨by rw [mu_who]; exact hL, Or.inr (Or.inr ⟨hK, by rw [mu_act]; exact hA, ⟨g, by omega, by omega, ex, by rw [mu_much, ex, dig48]⟩, rfl⟩)⟩
    exact shut hR ((ac_core _ _).trans (mu_core _ _ _)) (ac_acts _ _) (by omega) (fun q hq => (mu_row hq).trans (ac_row _ _ _)) (hrow.eq (ac_row _ _ _))
  · rw [e1, e2, bs, if_pos rfl]
    exact Or.inl ⟨rfl, -6, _, rfl, by decide, (mu_core _ _ _).trans hR.1⟩
theorem step5 {M m : S9} {p : S3} {c s a : Nat} {st : Nat → Nat} (hc : c ≤ 60) (h : x3_count p = nI c) (hsg : ∀ j, j < 60 → x3_signs p j = x9_pad M j) (hj : s + 3 < c) (hR : Rd M s m a st) (hL : Lt (x9_pad M s) (x9_who m a)) (hK : x9_pad M (s + 1) = 62) (hA : x9_act m a = 2) (hD : Dg 1 (x9_pad M (s + 2)) (x9_much m a)) : stepOk M m p s (s + 3) 5 := by
  unfold stepOk
  have ha := hR.2.1
  have hs := hR.2.2.1
  have hx := hsg (s + 3) (by omega)
  have hx1 := hsg (s + 1) (by omega)
  have hx0 := hsg s (by omega)
  have h46 : ¬ x3_signs p s = 46 := by rw [hx0]; exact lt46 hL
  rw [can3 hc h hj, hx, rd5 ha (by omega)]
  rcases letter (x9_pad M (s + 3)) with ⟨k, hk, ex, e1, e2⟩ | ⟨e1, e2⟩
  · rw [e1, e2, bs, bs, if_neg one_ne, if_neg (nI_n6 (by omega))]
    refine Or.inr ⟨rfl, 0, s + 4, _, 4, rfl, by decide, ?_, len_4 hc h (by omega) h46 (by rw [hx1]; exact hK), by decide, Or.inl ⟨rfl, rfl⟩⟩
    have hrow : Row (x9_pad M) (ot m a (x9_pad M (s + 3) - 65)) a s (s + 3 + 1) := Or.inr ⟨by rw [ot_who]; exact hL, Or.inr (Or.inl ⟨hK, by rw [ot_act]; exact hA, by rw [ot_much]; exact hD, ⟨k, hk, ex, by rw [ot_other, ex, let65]⟩, rfl⟩)⟩
    exact shut hR ((ac_core _ _).trans (ot_core _ _ _)) (ac_acts _ _) (by omega) (fun q hq => (ot_row hq).trans (ac_row _ _ _)) (hrow.eq (ac_row _ _ _))
  · rw [e1, e2, bs, bs, if_pos rfl, if_pos rfl]
    exact Or.inl ⟨rfl, -6, _, rfl, by decide, (ot_core _ _ _).trans hR.1⟩
theorem core_pad {m m2 : S9} (hc : coreM m2 = coreM m) : x9_pad m2 = x9_pad m ∧ x9_padMany m2 = x9_padMany m := by
  obtain ⟨g1, g2, g3, g4, g5, g6, g7, g8, g9, g10⟩ := m
  obtain ⟨n1, n2, n3, n4, n5, n6, n7, n8, n9, n10⟩ := m2
  simp only [coreM, Prod.mk.injEq] at hc
  obtain ⟨rfl, rfl, rfl, rfl⟩ := hc
  exact ⟨rfl, rfl⟩
theorem Inv.le {M m : S9} {s j : Nat} {d : Int32} (h : Inv M s j d m) : s ≤ j := by
  obtain ⟨a, st, -, hp⟩ := h
  unfold Part at hp
  omega
theorem Inv.step {M m : S9} {p : S3} {c s j : Nat} {d : Int32} (hc : c ≤ 60) (h : x3_count p = nI c) (hsg : ∀ j, j < 60 → x3_signs p j = x9_pad M j) (hj : j < c) (hI : Inv M s j d m) : stepOk M m p s j d := by
  obtain ⟨a, st, hR, hp⟩ := hI
  rcases hp with ⟨rfl, rfl⟩ | ⟨rfl, rfl, h1⟩ | ⟨rfl, rfl, h1, h2⟩ | ⟨rfl, rfl, h1, h2, h3⟩ | ⟨rfl, rfl, h1, h2, h3⟩ | ⟨rfl, rfl, h1, h2, h3, h4⟩
  · exact step0 hc h hsg hj hR
  · exact step1 hc h hsg hj hR h1
  · exact step2 hc h hsg hj hR h1 h2
  · exact step3 hc h hsg hj hR h1 h2 h3
  · exact step4 hc h hsg hj hR h1 h2 h3
  · exact step5 hc h hsg hj hR h1 h2 h3 h4
theorem fault_lp {M : S9} {p : S3} {c : Nat} (hc : c ≤ 60) (h : x3_count p = nI c) (hM : x9_padMany M = nI c) (hsg : ∀ j, j < 60 → x3_signs p j = x9_pad M j) : ∀ n j, j ≤ c → c + 1 ≤ n + j → ∀ s d m, Inv M s j d m →
    (∃ q m2, q < c ∧ lp_X3_firstFault_4 p n (nI s) (nI j) = some (Sum.inl (nI q)) ∧ lp_X9_fault_9 n d (nI j) m = some (Sum.inl (nI q, m2)) ∧ coreM m2 = coreM M) ∨
    (∃ s2 d2 m2, lp_X3_firstFault_4 p n (nI s) (nI j) = some (Sum.inr (nI s2)) ∧ lp_X9_fault_9 n d (nI j) m = some (Sum.inr (d2, m2)) ∧ Inv M s2 c d2 m2) := by
  intro n
  induction n with
  | zero => intro j h1 h2; omega
  | succ n ih =>
    intro j h1 h2 s d m hI
    have hcm : coreM m = coreM M := by obtain ⟨a, st, hR, -⟩ := hI; exact hR.1
    obtain ⟨ep, em⟩ := core_pad hcm
    have hs := hI.le
    rw [show lp_X3_firstFault_4 p (n + 1) (nI s) (nI j) = bd_X3_firstFault_4 p (lp_X3_firstFault_4 p n) (nI s) (nI j) from rfl, show lp_X9_fault_9 (n + 1) d (nI j) m = bd_X9_fault_9 (lp_X9_fault_9 n) d (nI j) m from rfl]
    unfold bd_X3_firstFault_4 bd_X9_fault_9
    rw [h, em, hM]
    by_cases q : c ≤ j
    · have e : j = c := by omega
      subst e
      rw [if_pos ((nI_leI (by omega) (by omega)).mpr (Nat.le_refl _)), if_pos ((nI_leI (by omega) (by omega)).mpr (Nat.le_refl _))]
      exact Or.inr ⟨s, d, m, rfl, rfl, hI⟩
    · have q2 : ¬ nI c ≤ nI j := fun z => q ((nI_leI (by omega) (by omega)).mp z)
      rw [if_neg q2, if_neg q2, ck_in (vp_in_nI (by omega) (by decide)), tcl (by omega), ep]
      rcases hI.step hc h hsg (by omega) with ⟨e1, r, m2, e2, e3, e4⟩ | ⟨e1, d2, s2, m2, l, e2, e3, e4, e5, e6, e7⟩
      · rw [e1, e2, bs, bs, if_pos rfl, if_neg e3]
        exact Or.inl ⟨j, m2, by omega, rfl, rfl, e4⟩
      · rw [e1, e2, bs, bs, if_neg one_ne, if_pos e3, e5, bs, pk_sub hs, nI_1, nI_1]
        rcases e7 with ⟨z1, z2⟩ | ⟨z1, z2⟩
        · subst z2
          rw [if_pos (by rw [nI_eq (by omega) (by omega)]; omega)]
          exact ih (j + 1) (by omega) (by omega) _ _ _ e4
        · subst z2
          rw [if_neg (by rw [nI_eq (by omega) (by omega)]; omega)]
          exact ih (j + 1) (by omega) (by omega) _ _ _ e4
theorem Inv.end_ {M m : S9} {s c : Nat} {d : Int32} (h : Inv M s c d m) : (d = 0 ∧ s = c) ∨ (¬ d = 0 ∧ s < c) := by
  obtain ⟨a, st, -, hp⟩ := h
  rcases hp with ⟨rfl, rfl⟩ | ⟨rfl, rfl, h1⟩ | ⟨rfl, rfl, h1, h2⟩ | ⟨rfl, rfl, h1, h2, h3⟩ | ⟨rfl, rfl, h1, h2, h3⟩ | ⟨rfl, rfl, h1, h2, h3, h4⟩
  · exact Or.inl ⟨rfl, rfl⟩
  · exact Or.inr ⟨by decide, by omega⟩
  · exact Or.inr ⟨by decide, by omega⟩
  · exact Or.inr ⟨by decide, by omega⟩
  · exact Or.inr ⟨by decide, by omega⟩
  · exact Or.inr ⟨by decide, by omega⟩
/-- the whole pad: a fault at the same place for both, or none, and then the reference's rows hold its acts -/
theorem fault_n {M : S9} {p : S3} (hP : RP p M) : ∃ c, c ≤ 60 ∧ x3_count p = nI c ∧ x9_padMany M = nI c ∧
    ((∃ q m2, q ≤ c ∧ sem_X3_firstFault p = some (nI q) ∧ sem_X9_fault M = some (nI q, m2) ∧ coreM m2 = coreM M) ∨
    (∃ m2, sem_X3_firstFault p = some (-6) ∧ sem_X9_fault M = some (-6, m2) ∧ Inv M c c 0 m2)) := by
  obtain ⟨p1, ⟨c, hc, p2⟩, p3⟩ := hP
  have h := p1.trans p2
  refine ⟨c, hc, h, p2, ?_⟩
  unfold sem_X3_firstFault sem_X9_fault
  have hI : Inv M 0 0 0 (p9_acts M 0) := ⟨0, fun _ => 0, ⟨ac_core _ _, ac_acts _ _, Nat.le_refl _, rfl, rfl, fun q hq => by omega⟩, Or.inl ⟨rfl, rfl⟩⟩
  rcases fault_lp hc h p2 p3 FUEL 0 (by omega) (by rw [fuel_s]; omega) 0 0 _ hI with ⟨q, m2, hq, e1, e2, e3⟩ | ⟨s2, d2, m2, e1, e2, e3⟩
  · refine Or.inl ⟨q, m2, by omega, ?_, ?_, e3⟩
    · rw [show (0 : Int32) = nI 0 from rfl, e1]; rfl
    · rw [show lp_X9_fault_9 FUEL 0 0 (p9_acts M 0) = lp_X9_fault_9 FUEL 0 (nI 0) (p9_acts M 0) from rfl, e2]; rfl
  · have em : x9_padMany m2 = nI c := by
      obtain ⟨a, st, hR, -⟩ := e3
      exact (core_pad hR.1).2.trans p2
    rw [show lp_X3_firstFault_4 p FUEL 0 0 = lp_X3_firstFault_4 p FUEL (nI 0) (nI 0) from rfl, show lp_X9_fault_9 FUEL 0 0 (p9_acts M 0) = lp_X9_fault_9 FUEL 0 (nI 0) (p9_acts M 0) from rfl, e1, e2, bs, bs]
    rcases e3.end_ with ⟨rfl, rfl⟩ | ⟨z1, z2⟩
    · refine Or.inr ⟨m2, ?_, ?_, e3⟩
      · show (if x3_count p ≤ nI s2 then some (-6) else some (x3_count p)) = _
        rw [h, if_pos ((nI_leI (by omega) (by omega)).mpr (Nat.le_refl _))]
      · show (if (0 : Int32) = 0 then some ((-6 : Int32), m2) else some (x9_padMany m2, m2)) = _
        rw [if_pos rfl]
    · refine Or.inl ⟨c, m2, Nat.le_refl _, ?_, ?_, ?_⟩
      · show (if x3_count p ≤ nI s2 then some (-6) else some (x3_count p)) = _
        rw [h, if_neg (fun z => by have := (nI_leI (by omega) (by omega)).mp z; omega)]
      · show (if d2 = 0 then some ((-6 : Int32), m2) else some (x9_padMany m2, m2)) = _
        rw [if_neg z1, em]
      · obtain ⟨a, st, hR, -⟩ := e3
        exact hR.1
theorem ok_fault : hF_fault RR := by
  intro s m j0 j1 hR
  unfold sem_X8_fault
  obtain ⟨c, -, -, -, ⟨q, m2, -, e1, e2, e3⟩ | ⟨m2, e1, e2, e3⟩⟩ := fault_n hR.2.1
  · exact ⟨nI q, m2, by rw [e1, bs], e2, hR.core e3⟩
  · obtain ⟨a, st, hR2, -⟩ := e3
    exact ⟨-6, m2, by rw [e1, bs], e2, hR.core hR2.1⟩
