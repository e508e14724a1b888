/-! seats: rows by the set of those still to be seated -/
def rm (R k : Nat) : Nat := R - (R &&& 1 <<< k)
def wy (tv : Nat → Nat) (v : Nat) : Nat → Nat → Nat → Nat
  | 0, _, _ => 1
  | n + 1, R, last => sm (fun k => if R.testBit k = true ∧ (last = 6 ∨ tv last + tv k ≤ v) then wy tv v n (rm R k) k else 0) 6
def WY (tv : Nat → Nat) (v R last : Nat) : Nat := wy tv v (pop6 R) R last
def tm (tv : Nat → Nat) (v R last k : Nat) : Nat := if R.testBit k = true ∧ (last = 6 ∨ tv last + tv k ≤ v) then WY tv v (rm R k) k else 0
theorem q1 : ∀ T, T < 64 → ∀ R, R < 64 → (nI R &&& (nI T ^^^ (-1 : Int32)) = 0 ↔ R &&& T = R) := by decide +kernel
theorem q2 : ∀ T, T < 64 → ∀ S, S < 64 → S &&& T = S → (T - S < 64 ∧ (T - S = 0 ↔ S = T)) := by decide +kernel
theorem q2a0 : ∀ T, T < 64 → ∀ S, S < 64 → S &&& T = S → ∀ k, k < 6 → (T - S).testBit k = (T.testBit k && !S.testBit k) := by decide +kernel
theorem q2a {T : Nat} (hT : T < 64) {S : Nat} (hS : S < 64) (h : S &&& T = S) {k : Nat} (hk : k < 6) : ((T - S).testBit k = true ↔ (T.testBit k = true ∧ ¬ S.testBit k = true)) := by
  rw [q2a0 T hT S hS h k hk]
  cases T.testBit k <;> cases S.testBit k <;> simp
theorem q2b : ∀ T, T < 64 → ∀ S, S < 64 → S &&& T = S → ∀ k, k < 6 → T.testBit k = true → (S ||| 1 <<< k) &&& T = S ||| 1 <<< k := by decide +kernel
theorem q2c : ∀ T, T < 64 → ∀ S, S < 64 → S &&& T = S → ∀ k, k < 6 → (T - S).testBit k = true → rm (T - S) k = T - (S ||| 1 <<< k) := by decide +kernel
theorem q3 : ∀ R, R < 64 → (pop6 R = 0 ↔ R = 0) ∧ pop6 R ≤ 6 ∧ ∀ k, k < 6 → R.testBit k = true → rm R k < R ∧ pop6 (rm R k) + 1 = pop6 R := by decide +kernel
theorem q4 : ∀ T, T < 64 → ∀ R, R < 64 → R &&& T = R → ∀ k, k < 6 → rm R k &&& T = rm R k := by decide +kernel
theorem q5 : ∀ S, S < 64 → ∀ k, k < 6 → S ||| 1 <<< k < 64 ∧ (S ||| 1 <<< k).testBit k = true ∧ (¬ S.testBit k = true → S < S ||| 1 <<< k) ∧ 0 < S ||| 1 <<< k := by decide +kernel
theorem q6 : ∀ S, S < 64 → ∀ k, k < 6 → ((nI S >>> (nI k &&& 31)) &&& 1 = 0 ↔ ¬ S.testBit k = true) := by decide +kernel
theorem q7 : ∀ k, k < 6 → (1 : Int32) <<< (nI k &&& 31) = nI (0 ||| 1 <<< k) := by decide +kernel
theorem sm_le (p : Nat → Nat) (B : Nat) : ∀ n, (∀ i, i < n → p i ≤ B) → sm p n ≤ n * B := by
  intro n
  induction n with
  | zero => intro _; exact Nat.zero_le _
  | succ n ih =>
    intro h
    have h1 := ih (fun i hi => h i (by omega))
    have h2 := h n (by omega)
    show sm p n + p n ≤ _
    rw [Nat.add_mul, Nat.one_mul]
    omega
theorem wy_le (tv : Nat → Nat) (v : Nat) : ∀ n R last, wy tv v n R last ≤ 6 ^ n := by
  intro n
  induction n with
  | zero => intro R last; exact Nat.le_refl _
  | succ n ih =>
    intro R last
    show sm (fun k => if R.testBit k = true ∧ (last = 6 ∨ tv last + tv k ≤ v) then wy tv v n (rm R k) k else 0) 6 ≤ _
    rw [Nat.pow_succ, Nat.mul_comm]
    refine sm_le _ _ 6 (fun i hi => ?_)
    show (if R.testBit i = true ∧ (last = 6 ∨ tv last + tv i ≤ v) then wy tv v n (rm R i) i else 0) ≤ 6 ^ n
    split
    · exact ih _ _
    · exact Nat.zero_le _
theorem p6b : ∀ n, n ≤ 6 → 6 ^ n ≤ 46656 := by decide
theorem WY_le (tv : Nat → Nat) (v : Nat) {R : Nat} (hR : R < 64) (last : Nat) : WY tv v R last ≤ 46656 := Nat.le_trans (wy_le tv v _ _ _) (p6b _ (q3 R hR).2.1)
theorem WY_0 (tv : Nat → Nat) (v last : Nat) : WY tv v 0 last = 1 := rfl
theorem rm_lt {R : Nat} (hR : R < 64) (k : Nat) : rm R k < 64 := by unfold rm; omega
theorem WY_s (tv : Nat → Nat) (v : Nat) {R : Nat} (hR : R < 64) (h0 : R ≠ 0) (last : Nat) : WY tv v R last = sm (tm tv v R last) 6 := by
  obtain ⟨a1, a2, a3⟩ := q3 R hR
  obtain ⟨n, hn⟩ : ∃ n, pop6 R = n + 1 := ⟨pop6 R - 1, by have : pop6 R ≠ 0 := fun z => h0 (a1.mp z); omega⟩
  unfold WY
  rw [hn]
  show sm (fun k => if R.testBit k = true ∧ (last = 6 ∨ tv last + tv k ≤ v) then wy tv v n (rm R k) k else 0) 6 = _
  refine sm_congr _ _ 6 (fun i hi => ?_)
  show (if R.testBit i = true ∧ (last = 6 ∨ tv last + tv i ≤ v) then wy tv v n (rm R i) i else 0) = tm tv v R last i
  unfold tm
  by_cases c : R.testBit i = true ∧ (last = 6 ∨ tv last + tv i ≤ v)
  · rw [if_pos c, if_pos c]
    unfold WY
    rw [show pop6 (rm R i) = n by have := (a3 i hi c.1).2; omega]
  · rw [if_neg c, if_neg c]
theorem tm_le (tv : Nat → Nat) (v : Nat) {R : Nat} (hR : R < 64) (last k : Nat) : tm tv v R last k ≤ 46656 := by
  unfold tm
  split
  · exact WY_le tv v (rm_lt hR k) k
  · exact Nat.zero_le _
theorem sm_pos (p : Nat → Nat) : ∀ n, 0 < sm p n → ∃ i, i < n ∧ 0 < p i := by
  intro n
  induction n with
  | zero => intro h; exact absurd h (Nat.lt_irrefl 0)
  | succ n ih =>
    intro h
    have h1 : 0 < sm p n + p n := h
    by_cases q : 0 < p n
    · exact ⟨n, by omega, q⟩
    · obtain ⟨i, i1, i2⟩ := ih (by omega)
      exact ⟨i, by omega, i2⟩
theorem sm_pos' (p : Nat → Nat) {i : Nat} : ∀ n, i < n → 0 < p i → 0 < sm p n := by
  intro n
  induction n with
  | zero => intro h; omega
  | succ n ih =>
    intro h h2
    show 0 < sm p n + p n
    by_cases q : i = n
    · rw [← q]; omega
    · have := ih (by omega) h2
      omega
/-! the class's table -/
def TV (s : S4) (tv : Nat → Nat) (v T : Nat) : Prop := (∀ i, i < 6 → x4_tempers s i = nI (tv i)) ∧ x4_most s = nI v ∧ x4_everybody s = nI T
theorem ways_n (s : S4) {R last : Nat} (hR : R < 64) (hl : last ≤ 6) : sem_X4_ways (nI R) (nI last) s = some (x4_ways s (R * 7 + last)) := by
  unfold sem_X4_ways
  rw [wn (A := 0) (B := 63) R 0 63 (Nat.zero_le _) (by omega) (by decide) rfl rfl, bs, if_neg one_ne, wn (A := 0) (B := 6) last 0 6 (Nat.zero_le _) hl (by decide) rfl rfl, bs, if_neg one_ne, show nI R * 7 = nI (R * 7) from pk_mul R 7, nI_add, ck_in (vp_in_nI (by omega) (by decide)), tcl (by omega)]
theorem follow_n {s : S4} {tv : Nat → Nat} {v T last k : Nat} (hT : TV s tv v T) (htv : ∀ i, i < 6 → tv i ≤ 20) (hv : v ≤ 40) (hl : last ≤ 6) (hk : k < 6) : sem_X4_canFollow (nI last) (nI k) s = some (if last = 6 ∨ tv last + tv k ≤ v then 1 else 0) := by
  unfold sem_X4_canFollow
  by_cases q : last = 6
  · rw [q, if_pos (show nI 6 = 6 from rfl), if_pos (Or.inl rfl)]
  · have h1 := htv last (by omega)
    have h2 := htv k hk
    rw [if_neg (show ¬ nI last = 6 from fun z => q ((nI_eq (a := last) (b := 6) (by omega) (by decide)).mp z)), ck_in (vp_in_nI (by omega) (by decide)), ck_in (vp_in_nI hk (by decide)), tcl (by omega), tcl (by omega), hT.1 last (by omega), hT.1 k hk, hT.2.1, nI_add]
    by_cases c : tv last + tv k ≤ v
    · rw [if_neg (nI_nlt c (by omega)), if_pos (Or.inr c)]
    · rw [if_pos (nI_lt (by omega) (by omega)), if_neg (fun z => by rcases z with z | z <;> omega)]
theorem by_n {s : S4} {tv : Nat → Nat} {v T R last k : Nat} (hT : TV s tv v T) (htv : ∀ i, i < 6 → tv i ≤ 20) (hv : v ≤ 40) (hR : R < 64) (hl : last ≤ 6) (hk : k < 6) (hW : R.testBit k = true → x4_ways s (rm R k * 7 + k) = nI (WY tv v (rm R k) k)) : sem_X4_waysBy (nI R) (nI last) (nI k) s = some (nI (tm tv v R last k)) := by
  unfold sem_X4_waysBy jn_X4_waysBy_14 tm
  have h := bit_n R hR k hk
  by_cases c : R.testBit k = true
  · rw [if_pos (h.mpr c), if_neg one_ne, follow_n hT htv hv hl hk, bs]
    by_cases d : last = 6 ∨ tv last + tv k ≤ v
    · rw [if_pos d, if_neg one_ne, if_pos ⟨c, d⟩, bit_clr R hR k hk]
      show (sem_X4_ways (nI (rm R k)) (nI k) s).bind _ = _
      rw [ways_n s (rm_lt hR k) (by omega), bs, hW c]
    · rw [if_neg d, if_pos rfl, if_neg (fun z => d z.2)]; rfl
  · rw [if_neg (fun z => c (h.mp z)), if_pos rfl, if_neg (fun z => c z.1)]; rfl
theorem on_lp {s : S4} {tv : Nat → Nat} {v T R last : Nat} (hT : TV s tv v T) (htv : ∀ i, i < 6 → tv i ≤ 20) (hv : v ≤ 40) (hR : R < 64) (hl : last ≤ 6) (hW : ∀ k, k < 6 → R.testBit k = true → x4_ways s (rm R k * 7 + k) = nI (WY tv v (rm R k) k)) : ∀ n j, j ≤ 6 → 7 ≤ n + j → lp_X4_waysOn_5 (nI R) (nI last) s n (nI (sm (tm tv v R last) j)) (nI j) = some (nI (sm (tm tv v R last) 6)) := by
  intro n
  induction n with
  | zero => intro j h1 h2; omega
  | succ n ih =>
    intro j h1 h2
    show bd_X4_waysOn_5 (nI R) (nI last) s (lp_X4_waysOn_5 (nI R) (nI last) s n) (nI (sm (tm tv v R last) j)) (nI j) = _
    unfold bd_X4_waysOn_5
    by_cases q : j = 6
    · subst q
      rw [if_pos (by decide)]
    · rw [if_neg (no6 (by omega)), by_n hT htv hv hR hl (by omega) (hW j (by omega)), bs, nI_add, nI_1]
      exact ih (j + 1) (by omega) (by omega)
theorem on_n {s : S4} {tv : Nat → Nat} {v T R last : Nat} (hT : TV s tv v T) (htv : ∀ i, i < 6 → tv i ≤ 20) (hv : v ≤ 40) (hR : R < 64) (h0 : R ≠ 0) (hl : last ≤ 6) (hW : ∀ k, k < 6 → R.testBit k = true → x4_ways s (rm R k * 7 + k) = nI (WY tv v (rm R k) k)) : sem_X4_waysOn (nI R) (nI last) s = some (nI (WY tv v R last)) := by
  unfold sem_X4_waysOn
  have h := on_lp hT htv hv hR hl hW FUEL 0 (by decide) (by rw [fuel_s]; omega)
  have h' : lp_X4_waysOn_5 (nI R) (nI last) s FUEL 0 0 = some (nI (sm (tm tv v R last) 6)) := h
  rw [h', bs, WY_s tv v hR h0]
theorem last_lp {tv : Nat → Nat} {v T R : Nat} {t : S6} (htv : ∀ i, i < 6 → tv i ≤ 20) (hv : v ≤ 40) (hR : R < 64) : ∀ n last, last ≤ 7 → 8 ≤ n + last → ∀ s : S4, TV s tv v T → (∀ k, k < 6 → R.testBit k = true → x4_ways s (rm R k * 7 + k) = nI (WY tv v (rm R k) k)) → ∃ P, lp_X4_reckon_68 (nI R) 1 t n (nI last) s = some (p4_ways s P) ∧ (∀ q, ¬ (R * 7 + last ≤ q ∧ q ≤ R * 7 + 6) → P q = x4_ways s q) ∧ ∀ i, last ≤ i → i ≤ 6 → P (R * 7 + i) = nI (WY tv v R i) := by
  intro n
  induction n with
  | zero => intro last h1 h2; omega
  | succ n ih =>
    intro last h1 h2 s hT hW
    show ∃ P, bd_X4_reckon_68 (nI R) 1 t (lp_X4_reckon_68 (nI R) 1 t n) (nI last) s = _ ∧ _
    unfold bd_X4_reckon_68
    rw [if_neg one_ne]
    by_cases q : last = 7
    · subst q
      rw [if_pos (by decide)]
      exact ⟨x4_ways s, rfl, fun _ _ => rfl, fun i p1 p2 => by omega⟩
    · have e : (if nI R = 0 then ck 448 (nI R * 7 + nI last) (lp_X4_reckon_68 (nI R) 1 t n (nI last + 1) (p4_ways s (upd (x4_ways s) (nI R * 7 + nI last).toNatClampNeg 1))) else (sem_X4_waysOn (nI R) (nI last) s).bind fun r6 => ck 448 (nI R * 7 + nI last) (lp_X4_reckon_68 (nI R) 1 t n (nI last + 1) (p4_ways s (upd (x4_ways s) (nI R * 7 + nI last).toNatClampNeg r6)))) = lp_X4_reckon_68 (nI R) 1 t n (nI (last + 1)) (p4_ways s (upd (x4_ways s) (R * 7 + last) (nI (WY tv v R last)))) := by
        rw [show nI R * 7 = nI (R * 7) from pk_mul R 7, nI_add, nI_1, tcl (by omega)]
        by_cases z : R = 0
        · subst z
          rw [if_pos (show nI 0 = 0 from rfl), ck_in (vp_in_nI (by omega) (by decide)), WY_0]
          rfl
        · rw [if_neg (nI_ne0 (by omega) (by omega)), on_n hT htv hv hR z (by omega) hW, bs, ck_in (vp_in_nI (by omega) (by decide))]
      rw [if_neg (show ¬ (7 : Int32) ≤ nI last from nI_ge (a := last) (b := 7) (by omega) (by decide)), e]
      have hW2 : ∀ k, k < 6 → R.testBit k = true → x4_ways (p4_ways s (upd (x4_ways s) (R * 7 + last) (nI (WY tv v R last)))) (rm R k * 7 + k) = nI (WY tv v (rm R k) k) := by
        intro k hk hb
        have hlt := ((q3 R hR).2.2 k hk hb).1
        show upd (x4_ways s) (R * 7 + last) (nI (WY tv v R last)) _ = _
        rw [pk_un (by omega)]
        exact hW k hk hb
      obtain ⟨P, g1, g2, g3⟩ := ih (last + 1) (by omega) (by omega) (p4_ways s (upd (x4_ways s) (R * 7 + last) (nI (WY tv v R last)))) hT hW2
      refine ⟨P, g1, fun q hq => ?_, fun i p1 p2 => ?_⟩
      · rw [g2 q (by omega)]
        show upd (x4_ways s) (R * 7 + last) (nI (WY tv v R last)) q = _
        rw [pk_un (by omega)]
      · by_cases z : i = last
        · subst z
          rw [g2 _ (by omega)]
          exact pk_us
        · exact g3 i (by omega) p2
def WR (s : S4) (tv : Nat → Nat) (v T N : Nat) : Prop := ∀ R, R < N → R &&& T = R → ∀ last, last ≤ 6 → x4_ways s (R * 7 + last) = nI (WY tv v R last)
theorem no_lp (R : Nat) (t : S6) (s : S4) : lp_X4_reckon_68 (nI R) 0 t FUEL 0 s = some s := by
  rw [show FUEL = 4095 + 1 from rfl]
  show bd_X4_reckon_68 (nI R) 0 t (lp_X4_reckon_68 (nI R) 0 t 4095) 0 s = _
  unfold bd_X4_reckon_68
  rw [if_pos rfl]
theorem sets_lp {tv : Nat → Nat} {v T : Nat} {t : S6} (hT6 : T < 64) (htv : ∀ i, i < 6 → tv i ≤ 20) (hv : v ≤ 40) : ∀ n R, R ≤ 64 → 65 ≤ n + R → ∀ s : S4, TV s tv v T → WR s tv v T R → ∃ s2, lp_X4_reckon_41 t n (nI R) s = some s2 ∧ TV s2 tv v T ∧ WR s2 tv v T 64 := by
  intro n
  induction n with
  | zero => intro R h1 h2; omega
  | succ n ih =>
    intro R h1 h2 s hT hW
    show ∃ s2, bd_X4_reckon_41 t (lp_X4_reckon_41 t n) (nI R) s = _ ∧ _
    unfold bd_X4_reckon_41 jn_X4_reckon_63
    by_cases q : R = 64
    · subst q
      rw [if_pos (by decide)]
      exact ⟨s, rfl, hT, hW⟩
    · have hR : R < 64 := by omega
      rw [if_neg (show ¬ (64 : Int32) ≤ nI R from nI_ge (a := R) (b := 64) hR (by decide)), hT.2.2]
      by_cases c : R &&& T = R
      · obtain ⟨P, g1, g2, g3⟩ := last_lp (T := T) (R := R) (t := t) htv hv hR FUEL 0 (by decide) (by rw [fuel_s]; omega) s hT (fun k hk hb => hW _ ((q3 R hR).2.2 k hk hb).1 (q4 T hT6 R hR c k hk) k (by omega))
        have g1' : lp_X4_reckon_68 (nI R) 1 t FUEL 0 s = some (p4_ways s P) := g1
        rw [if_pos ((q1 T hT6 R hR).mpr c), g1', bs, nI_1]
        refine ih (R + 1) (by omega) (by omega) (p4_ways s P) hT (fun R' p1 p2 last p3 => ?_)
        show P _ = _
        by_cases z : R' = R
        · subst z; exact g3 last (Nat.zero_le _) p3
        · rw [g2 _ (by omega)]
          exact hW R' (by omega) p2 last p3
      · rw [if_neg (fun z => c ((q1 T hT6 R hR).mp z)), no_lp, bs, nI_1]
        refine ih (R + 1) (by omega) (by omega) s hT (fun R' p1 p2 last p3 => ?_)
        by_cases z : R' = R
        · subst z; exact absurd p2 c
        · exact hW R' (by omega) p2 last p3
theorem temp_lp {t : S6} {tv : Nat → Nat} (ht : ∀ i, i < 6 → x6_facts t (i * 6 + 0) = nI (tv i)) : ∀ n j, j ≤ 6 → 7 ≤ n + j → ∀ s : S4, ∃ P, lp_X4_reckon_15 t n (nI j) s = some (p4_tempers s P) ∧ ∀ i, i < 6 → P i = if j ≤ i then nI (tv i) else x4_tempers s i := by
  intro n
  induction n with
  | zero => intro j h1 h2; omega
  | succ n ih =>
    intro j h1 h2 s
    show ∃ P, bd_X4_reckon_15 t (lp_X4_reckon_15 t n) (nI j) s = _ ∧ _
    unfold bd_X4_reckon_15
    by_cases q : j = 6
    · subst q
      rw [if_pos (by decide)]
      exact ⟨x4_tempers s, rfl, fun i hi => by rw [if_neg (by omega)]⟩
    · rw [if_neg (no6 (by omega)), get_l (show j < 6 by omega) 0 (by decide) 0 rfl, bs, ht j (by omega), ck_in (vp_in_nI (by omega) (by decide)), tcl (by omega), nI_1]
      obtain ⟨P, g1, g2⟩ := ih (j + 1) (by omega) (by omega) (p4_tempers s (upd (x4_tempers s) j (nI (tv j))))
      refine ⟨P, g1, fun i hi => ?_⟩
      rw [g2 i hi]
      show (if j + 1 ≤ i then nI (tv i) else upd (x4_tempers s) j (nI (tv j)) i) = _
      by_cases w : i = j
      · rw [if_neg (show ¬ j + 1 ≤ i by omega), if_pos (show j ≤ i by omega), w, pk_us]
      · rw [pk_un w]
        by_cases w2 : j ≤ i
        · rw [if_pos (show j + 1 ≤ i by omega), if_pos w2]
        · rw [if_neg (show ¬ j + 1 ≤ i by omega), if_neg w2]
theorem seat_c {t : S6} {tv : Nat → Nat} {v T : Nat} (hT6 : T < 64) (hth : x6_there t = nI T) (ht : ∀ i, i < 6 → x6_facts t (i * 6 + 0) = nI (tv i)) (htv : ∀ i, i < 6 → tv i ≤ 20) (hv : v ≤ 40) (s : S4) : ∃ s2, sem_X4_reckon (nI v) s t = some s2 ∧ TV s2 tv v T ∧ WR s2 tv v T 64 := by
  obtain ⟨P, a1, a2⟩ := temp_lp ht FUEL 0 (by decide) (by rw [fuel_s]; omega) (p4_everybody (p4_most s (nI v)) (x6_there t))
  have hTV : TV (p4_tempers (p4_everybody (p4_most s (nI v)) (x6_there t)) P) tv v T := ⟨fun i hi => by
    show P i = _
    rw [a2 i hi, if_pos (Nat.zero_le _)], rfl, hth⟩
  obtain ⟨s2, g1, g2, g3⟩ := sets_lp (t := t) hT6 htv hv FUEL 0 (by decide) (by rw [fuel_s]; omega) _ hTV (fun R h => by omega)
  have a1' : lp_X4_reckon_15 t FUEL 0 (p4_everybody (p4_most s (nI v)) (x6_there t)) = some (p4_tempers (p4_everybody (p4_most s (nI v)) (x6_there t)) P) := a1
  have g1' : lp_X4_reckon_41 t FUEL 0 (p4_tempers (p4_everybody (p4_most s (nI v)) (x6_there t)) P) = some s2 := g1
  refine ⟨s2, ?_, g2, g3⟩
  unfold sem_X4_reckon
  rw [a1', bs, g1', bs]
