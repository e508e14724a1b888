/-! seats: the reference's table, and both first rows -/
theorem sub_in : ∀ T, T < 64 → ∀ S, S < 64 → S &&& T = S → (T - S) &&& T = T - S := by decide +kernel
def TW (m : S9) (tv : Nat → Nat) (T : Nat) : Prop := x9_there m = nI T ∧ ∀ i, i < 6 → x9_temper m i = nI (tv i)
theorem sit_n {m : S9} {tv : Nat → Nat} {v T last k : Nat} (hT : TW m tv T) (htv : ∀ i, i < 6 → tv i ≤ 20) (hv : v ≤ 40) (hl : last < 6) (hk : k < 6) : sem_X9_maySit (nI last) (nI k) (nI v) m = some (if tv last + tv k ≤ v then 1 else 0) := by
  have h1 := htv last hl
  have h2 := htv k hk
  unfold sem_X9_maySit
  rw [ck_in (vp_in_nI hl (by decide)), ck_in (vp_in_nI hk (by decide)), tcl (by omega), tcl (by omega), hT.2 last hl, hT.2 k hk, nI_add]
  by_cases c : tv last + tv k ≤ v
  · rw [if_neg (nI_nlt c (by omega)), if_pos c]
  · rw [if_pos (nI_lt (by omega) (by omega)), if_neg c]
/-- the entries of the sets above N stand: those that are seated, and who was last -/
def WM (m : S9) (tv : Nat → Nat) (v T N : Nat) : Prop := ∀ S, N ≤ S → S < 64 → S &&& T = S → ∀ k, k < 6 → S.testBit k = true → x9_waysOn m (6 * S + k) = nI (WY tv v (T - S) k)
theorem or_n {S k : Nat} (hS : S < 64) (hk : k < 6) : (6 : Int32) * (nI S ||| (1 : Int32) <<< (nI k &&& 31)) + nI k = nI (6 * (S ||| 1 <<< k) + k) := by
  rw [bit_or S hS k hk, show (6 : Int32) * nI (S ||| 1 <<< k) = nI (6 * (S ||| 1 <<< k)) from pk_mul 6 _, nI_add]
theorem wf_lp {m : S9} {tv : Nat → Nat} {v T S last c0 : Nat} (hT6 : T < 64) (hT : TW m tv T) (htv : ∀ i, i < 6 → tv i ≤ 20) (hv : v ≤ 40) (hS : S < 64) (hST : S &&& T = S) (hl : last < 6) (hW : WM m tv v T (S + 1)) : ∀ n j, j ≤ 6 → 7 ≤ n + j → lp_X9_waysFrom_18 (nI S) (nI last) (nI v) m n (nI (c0 + sm (tm tv v (T - S) last) j)) (nI j) = some (nI (c0 + sm (tm tv v (T - S) last) 6)) := by
  intro n
  induction n with
  | zero => intro j h1 h2; omega
  | succ n ih =>
    intro j h1 h2
    show bd_X9_waysFrom_18 (nI S) (nI last) (nI v) m (lp_X9_waysFrom_18 (nI S) (nI last) (nI v) m n) (nI (c0 + sm (tm tv v (T - S) last) j)) (nI j) = _
    unfold bd_X9_waysFrom_18 jn_X9_waysFrom_58 jn_X9_waysFrom_59
    by_cases q : j = 6
    · subst q
      rw [if_pos (by decide)]
    · have hj : j < 6 := by omega
      have hs : c0 + sm (tm tv v (T - S) last) (j + 1) = c0 + sm (tm tv v (T - S) last) j + tm tv v (T - S) last j := by
        show c0 + (sm (tm tv v (T - S) last) j + tm tv v (T - S) last j) = _
        omega
      have hnext := ih (j + 1) (by omega) (by omega)
      rw [hs] at hnext
      rw [if_neg (no6 hj), isOne_n hT6 hT.1 hj, bs]
      by_cases c1 : T.testBit j = true
      · rw [if_pos c1, if_neg one_ne]
        by_cases c2 : S.testBit j = true
        · rw [if_neg (fun z => (q6 S hS j hj).mp z c2), if_pos rfl, Int32.add_zero, nI_1]
          have e : tm tv v (T - S) last j = 0 := by
            unfold tm
            rw [if_neg (fun z => ((q2a hT6 hS hST hj).mp z.1).2 c2)]
          rw [e, Nat.add_zero] at hnext
          exact hnext
        · rw [if_pos ((q6 S hS j hj).mpr c2), sit_n hT htv hv hl hj, bs]
          by_cases c3 : tv last + tv j ≤ v
          · obtain ⟨p1, p2, p3, p4⟩ := q5 S hS j hj
            have hb : (T - S).testBit j = true := (q2a hT6 hS hST hj).mpr ⟨c1, c2⟩
            have e : tm tv v (T - S) last j = WY tv v (T - (S ||| 1 <<< j)) j := by
              unfold tm
              rw [if_pos ⟨hb, Or.inr c3⟩, q2c T hT6 S hS hST j hj hb]
            have hw := hW (S ||| 1 <<< j) (p3 c2) p1 (q2b T hT6 S hS hST j hj c1) j hj p2
            rw [if_pos c3, if_neg one_ne, if_neg one_ne, or_n hS hj, ck_in (vp_in_nI (by omega) (by decide)), tcl (by omega), hw, nI_add, nI_1]
            rw [e] at hnext
            exact hnext
          · rw [if_neg c3, if_pos rfl, if_pos rfl, Int32.add_zero, nI_1]
            have e : tm tv v (T - S) last j = 0 := by
              unfold tm
              rw [if_neg (fun z => by rcases z.2 with z | z <;> omega)]
            rw [e, Nat.add_zero] at hnext
            exact hnext
      · rw [if_neg c1, if_pos rfl, if_pos rfl, Int32.add_zero, nI_1]
        have e : tm tv v (T - S) last j = 0 := by
          unfold tm
          rw [if_neg (fun z => c1 ((q2a hT6 hS hST hj).mp z.1).1)]
        rw [e, Nat.add_zero] at hnext
        exact hnext
theorem wf_n {m : S9} {tv : Nat → Nat} {v T S last : Nat} (hT6 : T < 64) (hT : TW m tv T) (htv : ∀ i, i < 6 → tv i ≤ 20) (hv : v ≤ 40) (hS : S < 64) (hST : S &&& T = S) (hl : last < 6) (hW : WM m tv v T (S + 1)) : sem_X9_waysFrom (nI S) (nI last) (nI v) m = some (nI (WY tv v (T - S) last)) := by
  unfold sem_X9_waysFrom jn_X9_waysFrom_13
  obtain ⟨a1, a2⟩ := q2 T hT6 S hS hST
  rw [hT.1]
  by_cases c : S = T
  · have h := wf_lp (c0 := 1) hT6 hT htv hv hS hST hl hW FUEL 0 (by decide) (by rw [fuel_s]; omega)
    have h' : lp_X9_waysFrom_18 (nI S) (nI last) (nI v) m FUEL 1 0 = some (nI (1 + sm (tm tv v (T - S) last) 6)) := h
    have e0 : T - S = 0 := a2.mpr c
    have e : sm (tm tv v (T - S) last) 6 = 0 := by
      rw [e0]
      have : sm (tm tv v 0 last) 6 = sm (fun _ => 0) 6 := sm_congr _ _ 6 (fun i hi => by
        unfold tm
        rw [if_neg (fun z => by simp at z)])
      rw [this, sm_z]
    rw [if_pos (by rw [c]), h', bs, e, e0, WY_0]
  · have h := wf_lp (c0 := 0) hT6 hT htv hv hS hST hl hW FUEL 0 (by decide) (by rw [fuel_s]; omega)
    have h' : lp_X9_waysFrom_18 (nI S) (nI last) (nI v) m FUEL 0 0 = some (nI (0 + sm (tm tv v (T - S) last) 6)) := h
    rw [if_neg (fun z => c ((nI_eq (by omega) (by omega)).mp z)), h', bs, Nat.zero_add, ← WY_s tv v a1 (fun z => c (a2.mp z))]
theorem ks_lp {tv : Nat → Nat} {v T S : Nat} (x2 : Int32) (hT6 : T < 64) (htv : ∀ i, i < 6 → tv i ≤ 20) (hv : v ≤ 40) (hS : S < 64) : ∀ n k, k ≤ 6 → 7 ≤ n + k → ∀ m : S9, TW m tv T → WM m tv v T (S + 1) → ∃ Q, lp_X9_seats_35 (nI v) x2 (nI S) n (nI k) m = some (p9_waysOn m Q) ∧ (∀ q, ¬ (6 * S + k ≤ q ∧ q ≤ 6 * S + 5) → Q q = x9_waysOn m q) ∧ ∀ i, k ≤ i → i < 6 → S &&& T = S → S.testBit i = true → Q (6 * S + i) = nI (WY tv v (T - S) i) := by
  intro n
  induction n with
  | zero => intro k h1 h2; omega
  | succ n ih =>
    intro k h1 h2 m hT hW
    show ∃ Q, bd_X9_seats_35 (nI v) x2 (nI S) (lp_X9_seats_35 (nI v) x2 (nI S) n) (nI k) m = _ ∧ _
    unfold bd_X9_seats_35 jn_X9_seats_67 jn_X9_seats_68
    by_cases q : k = 6
    · subst q
      rw [if_pos (by decide)]
      exact ⟨x9_waysOn m, rfl, fun _ _ => rfl, fun i p1 p2 => by omega⟩
    · have hk : k < 6 := by omega
      have hix : (6 : Int32) * nI S + nI k = nI (6 * S + k) := by rw [show (6 : Int32) * nI S = nI (6 * S) from pk_mul 6 S, nI_add]
      have hrest : ∀ z : Int32, (S &&& T = S → S.testBit k = true → z = nI (WY tv v (T - S) k)) → ∃ Q, lp_X9_seats_35 (nI v) x2 (nI S) n (nI (k + 1)) (p9_waysOn m (upd (x9_waysOn m) (6 * S + k) z)) = some (p9_waysOn m Q) ∧ (∀ q, ¬ (6 * S + k ≤ q ∧ q ≤ 6 * S + 5) → Q q = x9_waysOn m q) ∧ ∀ i, k ≤ i → i < 6 → S &&& T = S → S.testBit i = true → Q (6 * S + i) = nI (WY tv v (T - S) i) := by
        intro z hz
        have hW2 : WM (p9_waysOn m (upd (x9_waysOn m) (6 * S + k) z)) tv v T (S + 1) := by
          intro S' p1 p2 p3 k' p4 p5
          show upd (x9_waysOn m) (6 * S + k) z _ = _
          rw [pk_un (by omega)]
          exact hW S' p1 p2 p3 k' p4 p5
        obtain ⟨Q, g1, g2, g3⟩ := ih (k + 1) (by omega) (by omega) (p9_waysOn m (upd (x9_waysOn m) (6 * S + k) z)) hT hW2
        refine ⟨Q, g1, fun q hq => ?_, fun i p1 p2 p3 p4 => ?_⟩
        · rw [g2 q (by omega)]
          show upd (x9_waysOn m) (6 * S + k) z q = _
          rw [pk_un (by omega)]
        · by_cases w : i = k
          · subst w
            rw [g2 _ (by omega)]
            show upd (x9_waysOn m) (6 * S + i) z (6 * S + i) = _
            rw [pk_us]
            exact hz p3 p4
          · exact g3 i (by omega) p2 p3 p4
      rw [if_neg (no6 hk), hT.1, hix, tcl (by omega), nI_1]
      by_cases c1 : S &&& T = S
      · rw [if_pos ((q1 T hT6 S hS).mpr c1)]
        by_cases c2 : S.testBit k = true
        · rw [if_pos ((bit_n S hS k hk).mpr c2), if_neg one_ne, wf_n hT6 hT htv hv hS c1 hk hW, bs, ck_in (vp_in_nI (by omega) (by decide))]
          exact hrest _ (fun _ _ => rfl)
        · rw [if_neg (fun z => c2 ((bit_n S hS k hk).mp z)), if_pos rfl, ck_in (vp_in_nI (by omega) (by decide))]
          exact hrest _ (fun _ z => absurd z c2)
      · rw [if_neg (fun z => c1 ((q1 T hT6 S hS).mp z)), if_pos rfl, ck_in (vp_in_nI (by omega) (by decide))]
        exact hrest _ (fun z _ => absurd z c1)
theorem down_lp {tv : Nat → Nat} {v T : Nat} (x2 : Int32) (hT6 : T < 64) (htv : ∀ i, i < 6 → tv i ≤ 20) (hv : v ≤ 40) : ∀ n S, S ≤ 63 → S + 1 ≤ n → ∀ m : S9, TW m tv T → WM m tv v T (S + 1) → ∃ Q, lp_X9_seats_28 (nI v) x2 n (nI S) m = some (p9_waysOn m Q) ∧ WM (p9_waysOn m Q) tv v T 1 := by
  intro n
  induction n with
  | zero => intro S h1 h2; omega
  | succ n ih =>
    intro S h1 h2 m hT hW
    show ∃ Q, bd_X9_seats_28 (nI v) x2 (lp_X9_seats_28 (nI v) x2 n) (nI S) m = _ ∧ _
    unfold bd_X9_seats_28
    by_cases q : S = 0
    · subst q
      rw [if_pos (by decide)]
      exact ⟨x9_waysOn m, rfl, hW⟩
    · obtain ⟨Q1, a1, a2, a3⟩ := ks_lp x2 hT6 htv hv (show S < 64 by omega) FUEL 0 (by decide) (by rw [fuel_s]; omega) m hT hW
      have a1' : lp_X9_seats_35 (nI v) x2 (nI S) FUEL 0 m = some (p9_waysOn m Q1) := a1
      have hW2 : WM (p9_waysOn m Q1) tv v T (S - 1 + 1) := by
        intro S' p1 p2 p3 k p4 p5
        show Q1 _ = _
        by_cases z : S' = S
        · subst z
          exact a3 k (Nat.zero_le _) p4 p3 p5
        · rw [a2 _ (by omega)]
          exact hW S' (by omega) p2 p3 k p4 p5
      obtain ⟨Q, g1, g2⟩ := ih (S - 1) (by omega) (by omega) (p9_waysOn m Q1) hT hW2
      rw [if_neg (nI_nle (by omega) (by omega)), a1', bs, show S = S - 1 + 1 by omega, nI_pred]
      exact ⟨Q, g1, g2⟩
theorem seat_m {tv : Nat → Nat} {v T : Nat} (x2 : Int32) (hT6 : T < 64) (htv : ∀ i, i < 6 → tv i ≤ 20) (hv : v ≤ 40) (m : S9) (hT : TW m tv T) : ∃ Q, lp_X9_seats_28 (nI v) x2 FUEL 63 m = some (p9_waysOn m Q) ∧ WM (p9_waysOn m Q) tv v T 1 :=
  down_lp x2 hT6 htv hv FUEL 63 (by decide) (by rw [fuel_s]; omega) m hT (fun S p1 p2 => by omega)
/-! how many -/
theorem many_lp {m : S9} {tv : Nat → Nat} {v T c0 : Nat} (hT6 : T < 64) (hT : TW m tv T) (hW : WM m tv v T 1) : ∀ n j, j ≤ 6 → 7 ≤ n + j → lp_X9_seats_138 m n (nI (c0 + sm (tm tv v T 6) j)) (nI j) = some (nI (c0 + sm (tm tv v T 6) 6)) := by
  intro n
  induction n with
  | zero => intro j h1 h2; omega
  | succ n ih =>
    intro j h1 h2
    show bd_X9_seats_138 m (lp_X9_seats_138 m n) (nI (c0 + sm (tm tv v T 6) j)) (nI j) = _
    unfold bd_X9_seats_138
    by_cases q : j = 6
    · subst q
      rw [if_pos (by decide)]
    · have hj : j < 6 := by omega
      have hs : c0 + sm (tm tv v T 6) (j + 1) = c0 + sm (tm tv v T 6) j + tm tv v T 6 j := by
        show c0 + (sm (tm tv v T 6) j + tm tv v T 6 j) = _
        omega
      have hnext := ih (j + 1) (by omega) (by omega)
      rw [hs] at hnext
      rw [if_neg (no6 hj), isOne_n hT6 hT.1 hj, bs]
      have h0 : (0 : Nat) &&& T = 0 := Nat.zero_and T
      by_cases c1 : T.testBit j = true
      · obtain ⟨p1, p2, p3, p4⟩ := q5 0 (by decide) j hj
        have hb : (T - 0).testBit j = true := by rw [Nat.sub_zero]; exact c1
        have e : tm tv v T 6 j = WY tv v (T - (0 ||| 1 <<< j)) j := by
          have hrm := q2c T hT6 0 (by decide) h0 j hj hb
          rw [Nat.sub_zero] at hrm
          unfold tm
          rw [if_pos ⟨c1, Or.inl rfl⟩, hrm]
        have hw := hW (0 ||| 1 <<< j) p4 p1 (q2b T hT6 0 (by decide) h0 j hj c1) j hj p2
        have hix : (6 : Int32) * (1 : Int32) <<< (nI j &&& 31) + nI j = nI (6 * (0 ||| 1 <<< j) + j) := by
          rw [q7 j hj, show (6 : Int32) * nI (0 ||| 1 <<< j) = nI (6 * (0 ||| 1 <<< j)) from pk_mul 6 _, nI_add]
        rw [if_pos c1, if_neg one_ne, hix, ck_in (vp_in_nI (by omega) (by decide)), tcl (by omega), hw, nI_add, nI_1]
        rw [e] at hnext
        exact hnext
      · rw [if_neg c1, if_pos rfl, Int32.add_zero, nI_1]
        have e : tm tv v T 6 j = 0 := by
          unfold tm
          rw [if_neg (fun z => c1 z.1)]
        rw [e, Nat.add_zero] at hnext
        exact hnext
theorem many_n {m : S9} {tv : Nat → Nat} {v T : Nat} (hT6 : T < 64) (hT : TW m tv T) (hW : WM m tv v T 1) : (if x9_there m = 0 then jn_X9_seats_134 1 m else jn_X9_seats_134 0 m) = some (nI (WY tv v T 6), m) := by
  unfold jn_X9_seats_134
  rw [hT.1]
  by_cases c : T = 0
  · subst c
    have h := many_lp (c0 := 1) hT6 hT hW FUEL 0 (by decide) (by rw [fuel_s]; omega)
    have e : sm (tm tv v 0 6) 6 = 0 := by
      have : sm (tm tv v 0 6) 6 = sm (fun _ => 0) 6 := sm_congr _ _ 6 (fun i hi => by
        unfold tm
        rw [if_neg (fun z => by simp at z)])
      rw [this, sm_z]
    rw [e] at h
    have h' : lp_X9_seats_138 m FUEL 1 0 = some (nI (1 + 0)) := h
    rw [if_pos (show nI 0 = 0 from rfl), h', bs, WY_0]
  · have h := many_lp (c0 := 0) hT6 hT hW FUEL 0 (by decide) (by rw [fuel_s]; omega)
    have h' : lp_X9_seats_138 m FUEL 0 0 = some (nI (0 + sm (tm tv v T 6) 6)) := h
    rw [if_neg (nI_ne0 (by omega) (by omega)), h', bs, Nat.zero_add, ← WY_s tv v hT6 c]
/-! the first row -/
theorem fc_lp {s : S4} {tv : Nat → Nat} {v T R last gl : Nat} (hT : TV s tv v T) (htv : ∀ i, i < 6 → tv i ≤ 20) (hv : v ≤ 40) (hR : R < 64) (hl : last ≤ 6) (hW : ∀ k, k < 6 → R.testBit k = true → x4_ways s (rm R k * 7 + k) = nI (WY tv v (rm R k) k)) (hg : gl < 6) (h1 : 0 < tm tv v R last gl) (h2 : ∀ i, i < gl → ¬ 0 < tm tv v R last i) (x1 x4 : Int32) : ∀ n j, j ≤ gl → 7 ≤ n + j → lp_X4_firstRow_37 x1 (nI R) (nI last) x4 s n (nI j) = some (nI gl) := by
  intro n
  induction n with
  | zero => intro j p1 p2; omega
  | succ n ih =>
    intro j p1 p2
    show bd_X4_firstRow_37 x1 (nI R) (nI last) x4 s (lp_X4_firstRow_37 x1 (nI R) (nI last) x4 s n) (nI j) = _
    unfold bd_X4_firstRow_37
    by_cases q : j = 5
    · subst q
      rw [if_pos (by decide), show gl = 5 by omega]
    · have hb := tm_le tv v hR last j
      rw [if_neg (show ¬ (5 : Int32) ≤ nI j from nI_ge (a := j) (b := 5) (by omega) (by decide)), by_n hT htv hv hR hl (by omega) (hW j (by omega)), bs, nI_1]
      by_cases z : j = gl
      · subst z
        rw [if_neg (nI_ne0 h1 (by omega))]
      · have h0 := h2 j (by omega)
        rw [show tm tv v R last j = 0 by omega, if_pos (show nI 0 = 0 from rfl)]
        exact ih (j + 1) (by omega) (by omega)
/-- who was last, as the reference has it -/
def lm (last : Nat) : Int32 := if last = 6 then -6 else nI last
theorem fm_st {m : S9} {tv : Nat → Nat} {v T S last k : Nat} (hT6 : T < 64) (hT : TW m tv T) (htv : ∀ i, i < 6 → tv i ≤ 20) (hv : v ≤ 40) (hS : S < 64) (hST : S &&& T = S) (hl : last ≤ 6) (hW : WM m tv v T 1) (hk : k < 6) (x2 : Int32) (kc : Int32 → Int32 → Option Int32) (acc : Int32) : bd_X9_firstSeats_23 (nI v) x2 (nI S) (lm last) m kc acc (nI k) = if 0 < tm tv v (T - S) last k then kc (nI k) (nI k - 1) else kc acc (nI k - 1) := by
  unfold bd_X9_firstSeats_23 jn_X9_firstSeats_67 jn_X9_firstSeats_63 jn_X9_firstSeats_68
  rw [if_neg (no0 (by omega)), isOne_n hT6 hT.1 hk, bs]
  have key : T.testBit k = true → ¬ S.testBit k = true → (last = 6 ∨ tv last + tv k ≤ v) → (if (1 : Int32) = 0 then kc acc (nI k - 1) else ck 384 (6 * (nI S ||| (1 : Int32) <<< (nI k &&& 31)) + nI k) (if x9_waysOn m (6 * (nI S ||| (1 : Int32) <<< (nI k &&& 31)) + nI k).toNatClampNeg ≤ 0 then kc acc (nI k - 1) else kc (nI k) (nI k - 1))) = if 0 < tm tv v (T - S) last k then kc (nI k) (nI k - 1) else kc acc (nI k - 1) := by
    intro c1 c2 c3
    obtain ⟨p1, p2, p3, p4⟩ := q5 S hS k hk
    have hb : (T - S).testBit k = true := (q2a hT6 hS hST hk).mpr ⟨c1, c2⟩
    have e : tm tv v (T - S) last k = WY tv v (T - (S ||| 1 <<< k)) k := by
      unfold tm
      rw [if_pos ⟨hb, c3⟩, q2c T hT6 S hS hST k hk hb]
    have hw := hW (S ||| 1 <<< k) p4 p1 (q2b T hT6 S hS hST k hk c1) k hk p2
    have hB := WY_le tv v (R := T - (S ||| 1 <<< k)) (by omega) k
    rw [if_neg one_ne, or_n hS hk, ck_in (vp_in_nI (by omega) (by decide)), tcl (by omega), hw, e]
    by_cases z : 0 < WY tv v (T - (S ||| 1 <<< k)) k
    · rw [if_neg (nI_nle z (by omega)), if_pos z]
    · rw [show WY tv v (T - (S ||| 1 <<< k)) k = 0 by omega, if_pos (by decide), if_neg (by decide)]
  by_cases c1 : T.testBit k = true
  · rw [if_pos c1, if_neg one_ne]
    by_cases c2 : S.testBit k = true
    · have e : tm tv v (T - S) last k = 0 := by
        unfold tm
        rw [if_neg (fun z => ((q2a hT6 hS hST hk).mp z.1).2 c2)]
      rw [if_neg (fun z => (q6 S hS k hk).mp z c2), if_pos rfl, e, if_neg (by decide)]
    · rw [if_pos ((q6 S hS k hk).mpr c2)]
      by_cases c3 : last = 6
      · have hlm : lm last < 0 := by unfold lm; rw [if_pos c3]; decide
        rw [if_pos hlm]
        exact key c1 c2 (Or.inl c3)
      · have hlm : lm last = nI last := by unfold lm; rw [if_neg c3]
        rw [hlm, if_neg (no0 (by omega)), sit_n hT htv hv (by omega) hk, bs]
        by_cases c4 : tv last + tv k ≤ v
        · rw [if_pos c4, if_neg one_ne]
          exact key c1 c2 (Or.inr c4)
        · have e : tm tv v (T - S) last k = 0 := by
            unfold tm
            rw [if_neg (fun z => by rcases z.2 with z | z <;> omega)]
          rw [if_neg c4, if_pos rfl, if_pos rfl, e, if_neg (by decide)]
  · have e : tm tv v (T - S) last k = 0 := by
      unfold tm
      rw [if_neg (fun z => c1 ((q2a hT6 hS hST hk).mp z.1).1)]
    rw [if_neg c1, if_pos rfl, if_pos rfl, e, if_neg (by decide)]
theorem fm_no {m : S9} {tv : Nat → Nat} {v T S last : Nat} (hT6 : T < 64) (hT : TW m tv T) (htv : ∀ i, i < 6 → tv i ≤ 20) (hv : v ≤ 40) (hS : S < 64) (hST : S &&& T = S) (hl : last ≤ 6) (hW : WM m tv v T 1) (h0 : ∀ i, i < 6 → ¬ 0 < tm tv v (T - S) last i) (x2 : Int32) : ∀ n j, j ≤ 6 → j + 1 ≤ n → ∀ acc, lp_X9_firstSeats_23 (nI v) x2 (nI S) (lm last) m n acc (nI j - 1) = some acc := by
  intro n
  induction n with
  | zero => intro j p1 p2; omega
  | succ n ih =>
    intro j p1 p2 acc
    show bd_X9_firstSeats_23 (nI v) x2 (nI S) (lm last) m (lp_X9_firstSeats_23 (nI v) x2 (nI S) (lm last) m n) acc (nI j - 1) = _
    by_cases q : j = 0
    · subst q
      unfold bd_X9_firstSeats_23
      rw [if_pos (by decide)]
    · rw [show j = (j - 1) + 1 by omega, nI_pred, fm_st hT6 hT htv hv hS hST hl hW (by omega), if_neg (h0 _ (by omega))]
      exact ih (j - 1) (by omega) (by omega) acc
theorem fm_lp {m : S9} {tv : Nat → Nat} {v T S last gl : Nat} (hT6 : T < 64) (hT : TW m tv T) (htv : ∀ i, i < 6 → tv i ≤ 20) (hv : v ≤ 40) (hS : S < 64) (hST : S &&& T = S) (hl : last ≤ 6) (hW : WM m tv v T 1) (hg : gl < 6) (h1 : 0 < tm tv v (T - S) last gl) (h2 : ∀ i, i < gl → ¬ 0 < tm tv v (T - S) last i) (x2 : Int32) : ∀ n j, j ≤ 6 → j + 1 ≤ n → ∀ acc, lp_X9_firstSeats_23 (nI v) x2 (nI S) (lm last) m n acc (nI j - 1) = some (if gl < j then nI gl else acc) := by
  intro n
  induction n with
  | zero => intro j p1 p2; omega
  | succ n ih =>
    intro j p1 p2 acc
    show bd_X9_firstSeats_23 (nI v) x2 (nI S) (lm last) m (lp_X9_firstSeats_23 (nI v) x2 (nI S) (lm last) m n) acc (nI j - 1) = _
    by_cases q : j = 0
    · subst q
      unfold bd_X9_firstSeats_23
      rw [if_pos (by decide), if_neg (by omega)]
    · rw [show nI j - 1 = nI (j - 1) by rw [show nI j = nI ((j - 1) + 1) by rw [show j - 1 + 1 = j by omega], nI_pred], fm_st hT6 hT htv hv hS hST hl hW (by omega)]
      by_cases c : 0 < tm tv v (T - S) last (j - 1)
      · rw [if_pos c, ih (j - 1) (by omega) (by omega)]
        by_cases z : gl < j - 1
        · rw [if_pos z, if_pos (by omega)]
        · have hge : ¬ j - 1 < gl := fun z => h2 _ z c
          rw [if_neg z, if_pos (by omega), show j - 1 = gl by omega]
      · rw [if_neg c, ih (j - 1) (by omega) (by omega)]
        by_cases z : gl < j - 1
        · rw [if_pos z, if_pos (by omega)]
        · have hne : ¬ j - 1 = gl := fun z => c (by rw [z]; exact h1)
          rw [if_neg z, if_neg (by omega)]
theorem row_lp2 {s : S4} {m : S9} {tv : Nat → Nat} {v T : Nat} (hT6 : T < 64) (hT : TV s tv v T) (hWs : WR s tv v T 64) (hTm : TW m tv T) (hWm : WM m tv v T 1) (htv : ∀ i, i < 6 → tv i ≤ 20) (hv : v ≤ 40) : ∀ n S last, S < 64 → S &&& T = S → last ≤ 6 → pop6 (T - S) + 1 ≤ n → 0 < WY tv v (T - S) last → ∀ (x1 : Int32) x4, x4 + pop6 (T - S) ≤ 6 → ∃ r, lp_X4_firstRow_23 s n x1 (nI (T - S)) (nI last) (nI x4) = some r ∧ lp_X9_firstSeats_8 (nI v) m n x1 (nI S) (lm last) = some (Sum.inr r) := by
  intro n
  induction n with
  | zero => intro S last h1 h2 h3 h4; omega
  | succ n ih =>
    intro S last hS hST hl hp hpos x1 x4 hx4
    show ∃ r, bd_X4_firstRow_23 s (lp_X4_firstRow_23 s n) x1 (nI (T - S)) (nI last) (nI x4) = some r ∧ bd_X9_firstSeats_8 (nI v) m (lp_X9_firstSeats_8 (nI v) m n) x1 (nI S) (lm last) = some (Sum.inr r)
    unfold bd_X4_firstRow_23 bd_X9_firstSeats_8 jn_X4_firstRow_60
    obtain ⟨a1, a2⟩ := q2 T hT6 S hS hST
    rw [hTm.1]
    by_cases c : S = T
    · have e0 : T - S = 0 := a2.mpr c
      rw [if_pos (show nI S = nI T by rw [c]), e0, if_pos (show nI 0 = 0 from rfl)]
      by_cases z : (6 : Int32) ≤ nI x4
      · rw [if_pos z]; exact ⟨x1, rfl, rfl⟩
      · rw [if_neg z]; exact ⟨x1, rfl, rfl⟩
    · have h0 : T - S ≠ 0 := fun z => c (a2.mp z)
      obtain ⟨b1, b2, b3⟩ := q3 (T - S) a1
      have hp0 : pop6 (T - S) ≠ 0 := fun z => h0 (b1.mp z)
      rw [WY_s tv v a1 h0] at hpos
      obtain ⟨i, i1, i2⟩ := sm_pos _ 6 hpos
      obtain ⟨gl, g1, g2, g3⟩ := least_of (fun k => 0 < tm tv v (T - S) last k) 5 ⟨i, by omega, i2⟩
      have hsub : (T - S) &&& T = T - S := by
        exact sub_in T hT6 S hS hST
      have hWk : ∀ k, k < 6 → (T - S).testBit k = true → x4_ways s (rm (T - S) k * 7 + k) = nI (WY tv v (rm (T - S) k) k) := fun k hk hb => hWs _ (rm_lt a1 k) (q4 T hT6 (T - S) a1 hsub k hk) k (by omega)
      have e1 : lp_X4_firstRow_37 x1 (nI (T - S)) (nI last) (nI x4) s FUEL 0 = some (nI gl) := fc_lp hT htv hv a1 hl hWk (by omega) g2 g3 x1 (nI x4) FUEL 0 (Nat.zero_le _) (by rw [fuel_s]; omega)
      have e2 : lp_X9_firstSeats_23 (nI v) x1 (nI S) (lm last) m FUEL (-6) 5 = some (nI gl) := by
        have h := fm_lp hT6 hTm htv hv hS hST hl hWm (show gl < 6 by omega) g2 g3 x1 FUEL 6 (Nat.le_refl _) (by rw [fuel_s]; omega) (-6)
        rw [if_pos (by omega)] at h
        exact h
      rw [if_neg (fun z => c ((nI_eq (by omega) (by omega)).mp z)), e2, bs, if_pos (nI_pos' (by omega)), if_neg (no6 (by omega)), if_neg (nI_ne0 (by omega) (by omega)), e1, bs, nI_1]
      have hcond : (T - S).testBit gl = true ∧ (last = 6 ∨ tv last + tv gl ≤ v) := by
        by_cases z : (T - S).testBit gl = true ∧ (last = 6 ∨ tv last + tv gl ≤ v)
        · exact z
        · exfalso
          unfold tm at g2
          rw [if_neg z] at g2
          omega
      have hrm := q2c T hT6 S hS hST gl (by omega) hcond.1
      obtain ⟨p1, p2, p3, p4⟩ := q5 S hS gl (by omega)
      have hTb := ((q2a hT6 hS hST (show gl < 6 by omega)).mp hcond.1).1
      have hpos2 : 0 < WY tv v (T - (S ||| 1 <<< gl)) gl := by
        unfold tm at g2
        rw [if_pos hcond, hrm] at g2
        exact g2
      have hpp := (b3 gl (by omega) hcond.1).2
      rw [hrm] at hpp
      rw [bit_clr (T - S) a1 gl (by omega), bit_or S hS gl (by omega)]
      have e3 : nI (T - S - (T - S &&& 1 <<< gl)) = nI (T - (S ||| 1 <<< gl)) := by rw [← hrm]; rfl
      have e4 : nI gl = lm gl := by unfold lm; rw [if_neg (by omega)]
      rw [e3]
      obtain ⟨r, r1, r2⟩ := ih (S ||| 1 <<< gl) gl p1 (q2b T hT6 S hS hST gl (by omega) hTb) (by omega) (by omega) hpos2 (10 * x1 + nI gl) (x4 + 1) (by omega)
      rw [← e4] at r2
      exact ⟨r, r1, r2⟩
theorem ok_seats : hF_seats RR := by
  intro x1 x2 s m j0 j1 hR
  obtain ⟨T, l, e, c, b1, b2, b3, b4, b5, b6, b7, b8, b9, c0, -⟩ := hR.1.2
  have hthx : x6_there (x8_town s) = nI T := hR.1.1.1.trans b2
  unfold sem_X8_seats sem_X9_seats
  rcases gd x1 0 40 (by decide) (by decide) (a := 0) (b := 40) (A := 0) (B := 40) rfl rfl rfl rfl with ⟨v, -, hv, rfl, e1, e2⟩ | ⟨e1, e2, -⟩
  · rw [e1, e2, bs, bs, if_neg one_ne, if_neg one_ne]
    rcases gd x2 0 1 (by decide) (by decide) (a := 0) (b := 1) (A := 0) (B := 1) rfl rfl rfl rfl with ⟨w, -, hw, rfl, e1, e2⟩ | ⟨e1, e2, -⟩
    · rw [e1, e2, bs, bs, if_neg one_ne, if_neg one_ne]
      have htm : ∀ i, i < 6 → x9_temper m i = nI (NV (x9_temper m i)) ∧ NV (x9_temper m i) ≤ 20 := fun i hi => by
        obtain ⟨z, z1, z2, -⟩ := c0 i hi
        exact NV_of (by decide) z1 z2
      obtain ⟨tv, htv⟩ : ∃ tv : Nat → Nat, ∀ i, tv i = NV (x9_temper m i) := ⟨_, fun _ => rfl⟩
      have ht20 : ∀ i, i < 6 → tv i ≤ 20 := fun i hi => by rw [htv]; exact (htm i hi).2
      have htx : ∀ i, i < 6 → x6_facts (x8_town s) (i * 6 + 0) = nI (tv i) := fun i hi => by
        rw [htv]
        exact (hR.1.1.2.2.2.2.1 i hi 0 (by decide)).trans (htm i hi).1
      have hTm : TW m tv T := ⟨b2, fun i hi => by rw [htv]; exact (htm i hi).1⟩
      obtain ⟨s4, a1, a2, a3⟩ := seat_c b1 hthx htx ht20 hv (x8_seating s)
      obtain ⟨Q, d1, d2⟩ := seat_m (nI w) b1 ht20 hv m hTm
      have hTm2 : TW (p9_waysOn m Q) tv T := hTm
      have hRR : RR (p8_seating s s4) (p9_waysOn m Q) j0 j1 := (hR.core (rfl : coreM (p9_waysOn m Q) = coreM m)).coreX rfl rfl (fun _ _ _ => rfl) (fun _ _ _ => rfl)
      have hB := WY_le tv v b1 6
      have hrows : sem_X4_rows (x8_seating (p8_seating s s4)) = some (nI (WY tv v T 6)) := by
        unfold sem_X4_rows
        have e : sem_X4_ways (x4_everybody (x8_seating (p8_seating s s4))) 6 (x8_seating (p8_seating s s4)) = some (x4_ways s4 (T * 7 + 6)) := by
          rw [show x4_everybody (x8_seating (p8_seating s s4)) = nI T from a2.2.2]
          exact ways_n s4 (R := T) (last := 6) b1 (Nat.le_refl _)
        rw [e, bs, a3 T b1 (Nat.and_self T) 6 (Nat.le_refl _)]
      rw [a1, bs, d1, bs]
      have hw2 : w = 0 ∨ w = 1 := by omega
      rcases hw2 with rfl | rfl
      · rw [if_pos (show nI 0 = 0 from rfl), hrows, bs, if_neg (show ¬ nI 0 = 1 by decide), many_n b1 hTm2 d2]
        exact ⟨_, _, _, rfl, rfl, hRR⟩
      · rw [if_neg (show ¬ nI 1 = 0 by decide), if_pos (show nI 1 = 1 from rfl)]
        unfold sem_X4_firstRow sem_X9_firstSeats
        rw [hrows, bs]
        have hpT := (q3 T b1).2.1
        by_cases z : 0 < WY tv v T 6
        · obtain ⟨r, r1, r2⟩ := row_lp2 b1 a2 a3 hTm2 d2 ht20 hv FUEL 0 6 (by decide) (Nat.zero_and T) (Nat.le_refl _) (by rw [Nat.sub_zero, fuel_s]; omega) (by rw [Nat.sub_zero]; exact z) 0 0 (by rw [Nat.sub_zero]; omega)
          rw [Nat.sub_zero] at r1
          have r1' : lp_X4_firstRow_23 (x8_seating (p8_seating s s4)) FUEL 0 (x4_everybody (x8_seating (p8_seating s s4))) 6 0 = some r := by
            rw [show x4_everybody (x8_seating (p8_seating s s4)) = nI T from a2.2.2]
            exact r1
          have r2' : lp_X9_firstSeats_8 (nI v) (p9_waysOn m Q) FUEL 0 0 (-6) = some (Sum.inr r) := r2
          rw [if_neg (nI_ne0 z (by omega)), r1', bs, bs, r2', bs]
          exact ⟨r, _, _, rfl, rfl, hRR⟩
        · have hz : WY tv v T 6 = 0 := by omega
          have hT0 : T ≠ 0 := fun y => by rw [y, WY_0] at hz; omega
          rw [hz, if_pos (show nI 0 = 0 from rfl)]
          have hno : ∀ i, i < 6 → ¬ 0 < tm tv v (T - 0) 6 i := fun i hi hp => by
            rw [Nat.sub_zero] at hp
            have := sm_pos' (tm tv v T 6) 6 hi hp
            rw [← WY_s tv v b1 hT0] at this
            omega
          have h := fm_no b1 hTm2 ht20 hv (show 0 < 64 by decide) (Nat.zero_and T) (Nat.le_refl 6) d2 hno 0 FUEL 6 (Nat.le_refl _) (by rw [fuel_s]; omega) (-6)
          have h' : lp_X9_firstSeats_23 (nI v) 0 0 (-6) (p9_waysOn m Q) FUEL (-6) 5 = some (-6) := h
          have h2 : lp_X9_firstSeats_8 (nI v) (p9_waysOn m Q) FUEL 0 0 (-6) = some (Sum.inl (-6)) := by
            rw [show FUEL = 4095 + 1 from rfl]
            show bd_X9_firstSeats_8 (nI v) (p9_waysOn m Q) (lp_X9_firstSeats_8 (nI v) (p9_waysOn m Q) 4095) 0 0 (-6) = _
            unfold bd_X9_firstSeats_8
            rw [hTm2.1, if_neg (show ¬ (0 : Int32) = nI T from fun y => hT0 ((nI_eq (a := 0) (b := T) (by decide) (by omega)).mp y).symm), h', bs, if_neg (by decide)]
          rw [h2, bs]
          exact ⟨-6, _, _, rfl, rfl, hRR⟩
    · rw [e1, e2]; exact ⟨_, _, _, rfl, rfl, hR⟩
  · rw [e1, e2]; exact ⟨_, _, _, rfl, rfl, hR⟩
