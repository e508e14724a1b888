/-! risk: an hour of the odds on both sides -/
def upN (p : Nat → Nat) (k x : Nat) : Nat → Nat := fun j => if j = k then x else p j
def sm (p : Nat → Nat) : Nat → Nat
  | 0 => 0
  | n + 1 => sm p n + p n
theorem sm_out (p : Nat → Nat) (k x : Nat) : ∀ n, n ≤ k → sm (upN p k x) n = sm p n := by
  intro n
  induction n with
  | zero => intro _; rfl
  | succ n ih =>
    intro h
    show sm (upN p k x) n + upN p k x n = sm p n + p n
    rw [ih (by omega)]
    unfold upN
    rw [if_neg (by omega)]
theorem sm_up (p : Nat → Nat) (k x : Nat) : ∀ n, k < n → sm (upN p k (p k + x)) n = sm p n + x := by
  intro n
  induction n with
  | zero => intro h; omega
  | succ n ih =>
    intro h
    show sm (upN p k (p k + x)) n + upN p k (p k + x) n = sm p n + p n + x
    by_cases q : k = n
    · subst q
      rw [sm_out p k _ k (Nat.le_refl _)]
      unfold upN
      rw [if_pos rfl]
      omega
    · rw [ih (by omega)]
      unfold upN
      rw [if_neg (by omega)]
      omega
theorem sm_mono (p : Nat → Nat) : ∀ a b, a ≤ b → sm p a ≤ sm p b := by
  intro a b h
  induction b with
  | zero => rw [show a = 0 by omega]; exact Nat.le_refl _
  | succ b ih =>
    by_cases q : a = b + 1
    · rw [q]; exact Nat.le_refl _
    · have := ih (by omega)
      show sm p a ≤ sm p b + p b
      omega
theorem sm_congr (p q : Nat → Nat) : ∀ n, (∀ i, i < n → p i = q i) → sm p n = sm q n := by
  intro n
  induction n with
  | zero => intro _; rfl
  | succ n ih =>
    intro h
    show sm p n + p n = sm q n + q n
    rw [ih (fun i hi => h i (by omega)), h n (by omega)]
def AL (f : Nat → Int64) (A : Nat → Nat) : Prop := ∀ i, i < 21 → f i = lN (A i)
theorem AL.up {f : Nat → Int64} {A : Nat → Nat} (h : AL f A) (k x : Nat) : AL (vp_updL f k (lN x)) (upN A k x) := by
  intro i hi
  unfold upN
  by_cases q : i = k
  · rw [q, pk_uLs, if_pos rfl]
  · rw [pk_uLn q, if_neg q, h i hi]
theorem c20 : ∀ j, j ≤ 21 → ((20 : Int32) < nI j ↔ j = 21) ∧ ((21 : Int32) ≤ nI j ↔ j = 21) := by decide +kernel
theorem bh_n : ∀ v, v ≤ 30 → sem_X9_behindHour (nI v) = some (nI (v - 1)) := by decide +kernel
theorem jm_n : ∀ v, v ≤ 30 → jmax 0 (nI v - 1) = nI (v - 1) := by decide +kernel
theorem zero_c (x1 x2 x3 : Int32) : ∀ n j, j ≤ 21 → 22 ≤ n + j → ∀ s : S2, ∃ P, lp_X2_passHour_3 x1 x2 x3 n (nI j) s = some (p2_next s P) ∧ ∀ i, i < 21 → P i = if j ≤ i then 0 else x2_next s i := by
  intro n
  induction n with
  | zero => intro j h1 h2; omega
  | succ n ih =>
    intro j h1 h2 s
    show ∃ P, bd_X2_passHour_3 x1 x2 x3 (lp_X2_passHour_3 x1 x2 x3 n) (nI j) s = _ ∧ _
    unfold bd_X2_passHour_3
    by_cases q : j = 21
    · rw [if_pos ((c20 j h1).1.mpr q)]
      exact ⟨x2_next s, rfl, fun i hi => by rw [if_neg (by omega)]⟩
    · rw [if_neg (fun z => q ((c20 j h1).1.mp z)), ck_in (vp_in_nI (by omega) (by decide)), tcl (by omega), nI_1]
      obtain ⟨P, g1, g2⟩ := ih (j + 1) (by omega) (by omega) (p2_next s (vp_updL (x2_next s) j 0))
      refine ⟨P, g1, fun i hi => ?_⟩
      rw [g2 i hi]
      show (if j + 1 ≤ i then (0 : Int64) else vp_updL (x2_next s) j 0 i) = _
      by_cases w : i = j
      · rw [if_neg (by omega), if_pos (by omega), w, pk_uLs]
      · by_cases w2 : j ≤ i
        · rw [if_pos (by omega), if_pos w2]
        · rw [if_neg (by omega), if_neg w2, pk_uLn w]
theorem zero_m (x1 x2 x3 : Int32) : ∀ n j, j ≤ 21 → 22 ≤ n + j → ∀ s : S9, ∃ P, lp_X9_riskHour_3 x1 x2 x3 n (nI j) s = some (p9_partsThen s P) ∧ ∀ i, i < 21 → P i = if j ≤ i then 0 else x9_partsThen s i := by
  intro n
  induction n with
  | zero => intro j h1 h2; omega
  | succ n ih =>
    intro j h1 h2 s
    show ∃ P, bd_X9_riskHour_3 x1 x2 x3 (lp_X9_riskHour_3 x1 x2 x3 n) (nI j) s = _ ∧ _
    unfold bd_X9_riskHour_3
    by_cases q : j = 21
    · rw [if_pos ((c20 j h1).2.mpr q)]
      exact ⟨x9_partsThen s, rfl, fun i hi => by rw [if_neg (by omega)]⟩
    · rw [if_neg (fun z => q ((c20 j h1).2.mp z)), ck_in (vp_in_nI (by omega) (by decide)), tcl (by omega), nI_1]
      obtain ⟨P, g1, g2⟩ := ih (j + 1) (by omega) (by omega) (p9_partsThen s (vp_updL (x9_partsThen s) j 0))
      refine ⟨P, g1, fun i hi => ?_⟩
      rw [g2 i hi]
      show (if j + 1 ≤ i then (0 : Int64) else vp_updL (x9_partsThen s) j 0 i) = _
      by_cases w : i = j
      · rw [if_neg (by omega), if_pos (by omega), w, pk_uLs]
      · by_cases w2 : j ≤ i
        · rw [if_pos (by omega), if_pos w2]
        · rw [if_neg (by omega), if_neg w2, pk_uLn w]
theorem copy_m : ∀ n j, j ≤ 21 → 22 ≤ n + j → ∀ s : S9, ∃ P, lp_X9_riskHour_177 n (nI j) s = some (p9_parts s P) ∧ ∀ i, i < 21 → P i = if j ≤ i then x9_partsThen s i else x9_parts s i := by
  intro n
  induction n with
  | zero => intro j h1 h2; omega
  | succ n ih =>
    intro j h1 h2 s
    show ∃ P, bd_X9_riskHour_177 (lp_X9_riskHour_177 n) (nI j) s = _ ∧ _
    unfold bd_X9_riskHour_177
    by_cases q : j = 21
    · rw [if_pos ((c20 j h1).2.mpr q)]
      exact ⟨x9_parts s, rfl, fun i hi => by rw [if_neg (by omega)]⟩
    · rw [if_neg (fun z => q ((c20 j h1).2.mp z)), ck_in (vp_in_nI (by omega) (by decide)), ck_in (vp_in_nI (by omega) (by decide)), tcl (by omega), nI_1]
      obtain ⟨P, g1, g2⟩ := ih (j + 1) (by omega) (by omega) (p9_parts s (vp_updL (x9_parts s) j (x9_partsThen s j)))
      refine ⟨P, g1, fun i hi => ?_⟩
      rw [g2 i hi]
      show (if j + 1 ≤ i then x9_partsThen s i else vp_updL (x9_parts s) j (x9_partsThen s j) i) = _
      by_cases w : i = j
      · rw [if_neg (by omega), if_pos (by omega), w, pk_uLs]
      · by_cases w2 : j ≤ i
        · rw [if_pos (by omega), if_pos w2]
        · rw [if_neg (by omega), if_neg w2, pk_uLn w]
theorem first_c (v : Nat) (hv : v ≤ 20) : ∀ n j, j ≤ 21 → 22 ≤ n + j → ∀ s : S2, ∃ P, lp_X2_begin_22 (nI v) n (nI j) s = some (p2_parts s P) ∧ ∀ i, i < 21 → P i = if j ≤ i then lN (if i = v then 1 else 0) else x2_parts s i := by
  intro n
  induction n with
  | zero => intro j h1 h2; omega
  | succ n ih =>
    intro j h1 h2 s
    show ∃ P, bd_X2_begin_22 (nI v) (lp_X2_begin_22 (nI v) n) (nI j) s = _ ∧ _
    unfold bd_X2_begin_22
    by_cases q : j = 21
    · rw [if_pos ((c20 j h1).1.mpr q)]
      exact ⟨x2_parts s, rfl, fun i hi => by rw [if_neg (by omega)]⟩
    · rw [if_neg (fun z => q ((c20 j h1).1.mp z)), ck_in (vp_in_nI (by omega) (by decide)), ck_in (vp_in_nI (by omega) (by decide)), tcl (by omega), nI_1]
      have e : (if nI j = nI v then lp_X2_begin_22 (nI v) n (nI (j + 1)) (p2_parts s (vp_updL (x2_parts s) j 1)) else lp_X2_begin_22 (nI v) n (nI (j + 1)) (p2_parts s (vp_updL (x2_parts s) j 0))) = lp_X2_begin_22 (nI v) n (nI (j + 1)) (p2_parts s (vp_updL (x2_parts s) j (lN (if j = v then 1 else 0)))) := by
        by_cases w : j = v
        · rw [if_pos (by rw [w]), if_pos w]; rfl
        · rw [if_neg (fun z => w ((nI_eq (by omega) (by omega)).mp z)), if_neg w]; rfl
      rw [e]
      obtain ⟨P, g1, g2⟩ := ih (j + 1) (by omega) (by omega) (p2_parts s (vp_updL (x2_parts s) j (lN (if j = v then 1 else 0))))
      refine ⟨P, g1, fun i hi => ?_⟩
      rw [g2 i hi]
      show (if j + 1 ≤ i then lN (if i = v then 1 else 0) else vp_updL (x2_parts s) j (lN (if j = v then 1 else 0)) i) = _
      by_cases w : i = j
      · rw [if_neg (show ¬ j + 1 ≤ i by omega), if_pos (show j ≤ i by omega), w, pk_uLs]
      · by_cases w2 : j ≤ i
        · rw [if_pos (show j + 1 ≤ i by omega), if_pos w2]
        · rw [if_neg (show ¬ j + 1 ≤ i by omega), if_neg w2, pk_uLn w]
theorem first_m (x2 x3 x4 x5 x6 : Int32) (v : Nat) (hv : v ≤ 20) : ∀ n j, j ≤ 21 → 22 ≤ n + j → ∀ s : S9, ∃ P, lp_X9_risk_92 (nI v) x2 x3 x4 x5 x6 n (nI j) s = some (p9_parts s P) ∧ ∀ i, i < 21 → P i = if j ≤ i then lN (if i = v then 1 else 0) else x9_parts s i := by
  intro n
  induction n with
  | zero => intro j h1 h2; omega
  | succ n ih =>
    intro j h1 h2 s
    show ∃ P, bd_X9_risk_92 (nI v) x2 x3 x4 x5 x6 (lp_X9_risk_92 (nI v) x2 x3 x4 x5 x6 n) (nI j) s = _ ∧ _
    unfold bd_X9_risk_92
    by_cases q : j = 21
    · rw [if_pos ((c20 j h1).2.mpr q)]
      exact ⟨x9_parts s, rfl, fun i hi => by rw [if_neg (by omega)]⟩
    · rw [if_neg (fun z => q ((c20 j h1).2.mp z)), ck_in (vp_in_nI (by omega) (by decide)), ck_in (vp_in_nI (by omega) (by decide)), tcl (by omega), nI_1]
      have e : (if nI j = nI v then lp_X9_risk_92 (nI v) x2 x3 x4 x5 x6 n (nI (j + 1)) (p9_parts s (vp_updL (x9_parts s) j 1)) else lp_X9_risk_92 (nI v) x2 x3 x4 x5 x6 n (nI (j + 1)) (p9_parts s (vp_updL (x9_parts s) j 0))) = lp_X9_risk_92 (nI v) x2 x3 x4 x5 x6 n (nI (j + 1)) (p9_parts s (vp_updL (x9_parts s) j (lN (if j = v then 1 else 0)))) := by
        by_cases w : j = v
        · rw [if_pos (by rw [w]), if_pos w]; rfl
        · rw [if_neg (fun z => w ((nI_eq (by omega) (by omega)).mp z)), if_neg w]; rfl
      rw [e]
      obtain ⟨P, g1, g2⟩ := ih (j + 1) (by omega) (by omega) (p9_parts s (vp_updL (x9_parts s) j (lN (if j = v then 1 else 0))))
      refine ⟨P, g1, fun i hi => ?_⟩
      rw [g2 i hi]
      show (if j + 1 ≤ i then lN (if i = v then 1 else 0) else vp_updL (x9_parts s) j (lN (if j = v then 1 else 0)) i) = _
      by_cases w : i = j
      · rw [if_neg (show ¬ j + 1 ≤ i by omega), if_pos (show j ≤ i by omega), w, pk_uLs]
      · by_cases w2 : j ≤ i
        · rw [if_pos (show j + 1 ≤ i by omega), if_pos w2]
        · rw [if_neg (show ¬ j + 1 ≤ i by omega), if_neg w2, pk_uLn w]
theorem k_lt (m : S9) (v : Int64) : x9_limit (p9_meanParts m v) = x9_limit m := rfl
theorem k_pm (m : S9) (v : Int64) : x9_partsThen (p9_meanParts m v) = x9_partsThen m := rfl
theorem k_qm (m : S9) (v : Int64) : x9_parts (p9_meanParts m v) = x9_parts m := rfl
theorem k_pp (m : S9) (v : Nat → Int64) : x9_partsThen (p9_partsThen m v) = v := rfl
theorem k_qp (m : S9) (v : Nat → Int64) : x9_parts (p9_partsThen m v) = x9_parts m := rfl
theorem k_mp (m : S9) (v : Nat → Int64) : x9_meanParts (p9_partsThen m v) = x9_meanParts m := rfl
theorem k_pq (m : S9) (v w : Nat → Int64) : p9_partsThen (p9_partsThen m v) w = p9_partsThen m w := rfl
theorem k_nn (s : S2) (v : Nat → Int64) : x2_next (p2_next s v) = v := rfl
theorem k_nm (s : S2) (v w : Nat → Int64) : p2_next (p2_next s v) w = p2_next s w := rfl
theorem k_nl (s : S2) (v : Nat → Int64) : x2_limit (p2_next s v) = x2_limit s := rfl
theorem k_nq (s : S2) (v : Nat → Int64) : x2_parts (p2_next s v) = x2_parts s := rfl
/-- the reference's step at one temper -/
theorem hour_mn {l w t g j : Nat} (hl : l ≤ 20) (hw : w ≤ 9) (ht : t ≤ 10) (hj : j ≤ l) (kc : Int32 → S9 → Option S9) (m : S9) {p B : Nat → Nat} {mean : Nat} (hlm : x9_limit m = nI l) (hp : AL (x9_parts m) p) (hB : AL (x9_partsThen m) B) (hm : x9_meanParts m = lN mean) (hq : j + w ≤ l) (h1 : 1 ≤ w) :
    ∃ Q, bd_X9_riskHour_39 (nI w) (nI t) (nI g) kc (nI j) m = kc (nI (j + 1)) (p9_partsThen (p9_meanParts m (lN mean)) Q) ∧ AL Q (upN (upN B (j - 1) (B (j - 1) + (10 - t) * p j)) (j + w - 1) (upN B (j - 1) (B (j - 1) + (10 - t) * p j) (j + w - 1) + t * p j)) := by
  unfold bd_X9_riskHour_39 jn_X9_riskHour_64 jn_X9_riskHour_90 jn_X9_riskHour_141 jn_X9_riskHour_156
  rw [hlm, if_neg (nI_nlt hj (by omega)), nI_add, if_pos (nI_le hq (by omega)), if_pos rfl, bh_n j (by omega), bs, if_pos rfl, bh_n (j + w) (by omega), bs, if_pos rfl]
  simp only [ck_in (vp_in_nI (show j < 21 by omega) (by decide)), ck_in (vp_in_nI (show j - 1 < 21 by omega) (by decide)), ck_in (vp_in_nI (show j + w - 1 < 21 by omega) (by decide)), tcl (show j < 2 ^ 31 by omega), tcl (show j - 1 < 2 ^ 31 by omega), tcl (show j + w - 1 < 2 ^ 31 by omega), k_pm, k_qm, k_pp, k_qp, k_pq, hm, Int64.add_zero, nI_1]
  rw [nI_l (show t < 2 ^ 31 by omega), hp j (by omega), show (10 : Int64) - lN t = lN (10 - t) from lN_sub ht, lN_mul, lN_mul, hB (j - 1) (by omega), lN_add]
  refine ⟨_, rfl, ?_⟩
  have h2 := AL.up hB (j - 1) (B (j - 1) + (10 - t) * p j)
  rw [h2 (j + w - 1) (by omega), lN_add]
  exact AL.up h2 _ _
theorem hour_ms {l w t g j : Nat} (hl : l ≤ 20) (hw : w ≤ 9) (ht : t ≤ 10) (hj : j ≤ l) (kc : Int32 → S9 → Option S9) (m : S9) {p B : Nat → Nat} {mean : Nat} (hlm : x9_limit m = nI l) (hp : AL (x9_parts m) p) (hB : AL (x9_partsThen m) B) (hm : x9_meanParts m = lN mean) (hq : l < j + w) (hg : g ≤ 1) :
    ∃ Q, bd_X9_riskHour_39 (nI w) (nI t) (nI g) kc (nI j) m = kc (nI (j + 1)) (p9_partsThen (p9_meanParts m (lN (mean + t * p j))) Q) ∧ AL Q (upN (upN B (j - 1) (B (j - 1) + (10 - t) * p j)) 0 (upN B (j - 1) (B (j - 1) + (10 - t) * p j) 0 + if g = 1 then t * p j else 0)) := by
  unfold bd_X9_riskHour_39 jn_X9_riskHour_64 jn_X9_riskHour_90 jn_X9_riskHour_141 jn_X9_riskHour_156
  rw [hlm, if_neg (nI_nlt hj (by omega)), nI_add, if_neg (nI_ge hq (by omega)), if_neg one_ne, bh_n j (by omega), bs, if_neg one_ne, if_neg one_ne]
  have z0 : vp_in (0 : Int32) 21 := vp_in_nI (n := 0) (by decide) (by decide)
  have c0 : (0 : Int32).toNatClampNeg = 0 := rfl
  simp only [ck_in (vp_in_nI (show j < 21 by omega) (by decide)), ck_in (vp_in_nI (show j - 1 < 21 by omega) (by decide)), ck_in z0, c0, tcl (show j < 2 ^ 31 by omega), tcl (show j - 1 < 2 ^ 31 by omega), k_pm, k_qm, k_pp, k_qp, k_pq, hm, nI_1]
  rw [nI_l (show t < 2 ^ 31 by omega), hp j (by omega), show (10 : Int64) - lN t = lN (10 - t) from lN_sub ht, lN_mul, lN_mul, hB (j - 1) (by omega), lN_add, lN_add]
  have h2 := AL.up hB (j - 1) (B (j - 1) + (10 - t) * p j)
  have hg2 : g = 0 ∨ g = 1 := by omega
  rcases hg2 with rfl | rfl
  · rw [if_pos (show nI 0 = 0 from rfl), h2 0 (by decide), if_neg (by decide)]
    refine ⟨_, rfl, ?_⟩
    rw [Int64.add_zero]
    exact AL.up h2 _ _
  · rw [if_neg (show ¬ nI 1 = 0 by decide), h2 0 (by decide), if_pos rfl, lN_add]
    exact ⟨_, rfl, AL.up h2 _ _⟩
/-- the class's step -/
theorem hour_cn {l w t g j : Nat} (hl : l ≤ 20) (hw : w ≤ 9) (ht : t ≤ 10) (hj : j ≤ l) (kc : Int64 → Int32 → S2 → Option (Int64 × S2)) (o : S2) {p A : Nat → Nat} (x : Int64) (hlo : x2_limit o = nI l) (hp : AL (x2_parts o) p) (hA : AL (x2_next o) A) (hq : j + w ≤ l) (h1 : 1 ≤ w) :
    ∃ Q, bd_X2_passHour_30 (nI w) (nI t) (nI g) kc x (nI j) o = kc x (nI (j + 1)) (p2_next o Q) ∧ AL Q (upN (upN A (j - 1) (A (j - 1) + (10 - t) * p j)) (j + w - 1) (upN A (j - 1) (A (j - 1) + (10 - t) * p j) (j + w - 1) + t * p j)) := by
  unfold bd_X2_passHour_30
  rw [hlo, if_neg (nI_nlt hj (by omega)), nI_add]
  simp only [k_nl, hlo, jm_n j (show j ≤ 30 by omega), jm_n (j + w) (show j + w ≤ 30 by omega)]
  rw [if_pos (nI_le hq (by omega))]
  simp only [ck_in (vp_in_nI (show j < 21 by omega) (by decide)), ck_in (vp_in_nI (show j - 1 < 21 by omega) (by decide)), ck_in (vp_in_nI (show j + w - 1 < 21 by omega) (by decide)), tcl (show j < 2 ^ 31 by omega), tcl (show j - 1 < 2 ^ 31 by omega), tcl (show j + w - 1 < 2 ^ 31 by omega), k_nn, k_nm, nI_1]
  rw [show (10 : Int32) - nI t = nI (10 - t) from pk_sub ht, nI_l (show t < 2 ^ 31 by omega), nI_l (show 10 - t < 2 ^ 31 by omega), hp j (by omega), lN_mul, lN_mul, hA (j - 1) (by omega), lN_add, Nat.mul_comm (p j) (10 - t), Nat.mul_comm (p j) t]
  refine ⟨_, rfl, ?_⟩
  have h2 := AL.up hA (j - 1) (A (j - 1) + (10 - t) * p j)
  rw [h2 (j + w - 1) (by omega), lN_add]
  exact AL.up h2 _ _
theorem hour_cs {l w t g j : Nat} (hl : l ≤ 20) (hw : w ≤ 9) (ht : t ≤ 10) (hj : j ≤ l) (kc : Int64 → Int32 → S2 → Option (Int64 × S2)) (o : S2) {p A : Nat → Nat} (x : Nat) (hlo : x2_limit o = nI l) (hp : AL (x2_parts o) p) (hA : AL (x2_next o) A) (hq : l < j + w) :
    ∃ Q, bd_X2_passHour_30 (nI w) (nI t) (nI g) kc (lN x) (nI j) o = kc (lN (x + t * p j)) (nI (j + 1)) (p2_next o Q) ∧ AL Q (upN A (j - 1) (A (j - 1) + (10 - t) * p j)) := by
  unfold bd_X2_passHour_30
  rw [hlo, if_neg (nI_nlt hj (by omega)), nI_add]
  simp only [k_nl, hlo, jm_n j (show j ≤ 30 by omega)]
  rw [if_neg (nI_ge hq (by omega))]
  simp only [ck_in (vp_in_nI (show j < 21 by omega) (by decide)), ck_in (vp_in_nI (show j - 1 < 21 by omega) (by decide)), tcl (show j < 2 ^ 31 by omega), tcl (show j - 1 < 2 ^ 31 by omega), nI_1]
  rw [show (10 : Int32) - nI t = nI (10 - t) from pk_sub ht, nI_l (show t < 2 ^ 31 by omega), nI_l (show 10 - t < 2 ^ 31 by omega), hp j (by omega), lN_mul, lN_mul, hA (j - 1) (by omega), lN_add, lN_add, Nat.mul_comm (p j) (10 - t), Nat.mul_comm (p j) t]
  exact ⟨_, rfl, AL.up hA _ _⟩
theorem t10 (t x : Nat) (ht : t ≤ 10) : (10 - t) * x + t * x = 10 * x := by rw [← Nat.add_mul]; congr 1; omega
theorem hour_lp {l w t g : Nat} (hl : l ≤ 20) (h1 : 1 ≤ w) (hw : w ≤ 9) (ht : t ≤ 10) (hg : g ≤ 1) (M : Nat) (p : Nat → Nat) : ∀ n j, j ≤ l + 1 → l + 2 ≤ n + j → ∀ (A B : Nat → Nat) (sl : Nat) (o : S2) (m : S9), x2_limit o = nI l → x9_limit m = nI l → AL (x2_parts o) p → AL (x9_parts m) p → AL (x2_next o) A → AL (x9_partsThen m) B → x9_meanParts m = lN (M + sl) → (∀ i, B i = A i + if i = 0 ∧ g = 1 then sl else 0) → sm A 21 + sl = 10 * sm p j →
    ∃ N Q A2 B2 sl2, lp_X2_passHour_30 (nI w) (nI t) (nI g) n (lN sl) (nI j) o = some (lN sl2, p2_next o N) ∧ lp_X9_riskHour_39 (nI w) (nI t) (nI g) n (nI j) m = some (p9_partsThen (p9_meanParts m (lN (M + sl2))) Q) ∧ AL N A2 ∧ AL Q B2 ∧ (∀ i, B2 i = A2 i + if i = 0 ∧ g = 1 then sl2 else 0) ∧ sm A2 21 + sl2 = 10 * sm p (l + 1) := by
  intro n
  induction n with
  | zero => intro j q1 q2; omega
  | succ n ih =>
    intro j q1 q2 A B sl o m e1 e2 e3 e4 e5 e6 e7 e8 e9
    show ∃ N Q A2 B2 sl2, bd_X2_passHour_30 (nI w) (nI t) (nI g) (lp_X2_passHour_30 (nI w) (nI t) (nI g) n) (lN sl) (nI j) o = _ ∧ bd_X9_riskHour_39 (nI w) (nI t) (nI g) (lp_X9_riskHour_39 (nI w) (nI t) (nI g) n) (nI j) m = _ ∧ _
    by_cases q : j = l + 1
    · subst q
      unfold bd_X2_passHour_30 bd_X9_riskHour_39
      rw [e1, e2, if_pos (nI_lt (Nat.lt_succ_self _) (by omega)), if_pos (nI_lt (Nat.lt_succ_self _) (by omega))]
      refine ⟨x2_next o, x9_partsThen m, A, B, sl, rfl, ?_, e5, e6, e8, e9⟩
      rw [← e7]
      rfl
    · have hj : j ≤ l := by omega
      have hs : sm p (j + 1) = sm p j + p j := rfl
      have ht10 := t10 t (p j) ht
      by_cases z : j + w ≤ l
      · obtain ⟨N1, c1, c2⟩ := hour_cn (g := g) hl hw ht hj (lp_X2_passHour_30 (nI w) (nI t) (nI g) n) o (lN sl) e1 e3 e5 z h1
        obtain ⟨Q1, d1, d2⟩ := hour_mn (g := g) hl hw ht hj (lp_X9_riskHour_39 (nI w) (nI t) (nI g) n) m e2 e4 e6 e7 z h1
        rw [c1, d1]
        have hrel : ∀ i, (upN (upN B (j - 1) (B (j - 1) + (10 - t) * p j)) (j + w - 1) (upN B (j - 1) (B (j - 1) + (10 - t) * p j) (j + w - 1) + t * p j)) i = (upN (upN A (j - 1) (A (j - 1) + (10 - t) * p j)) (j + w - 1) (upN A (j - 1) (A (j - 1) + (10 - t) * p j) (j + w - 1) + t * p j)) i + if i = 0 ∧ g = 1 then sl else 0 := by
          have hr1 : ∀ i, upN B (j - 1) (B (j - 1) + (10 - t) * p j) i = upN A (j - 1) (A (j - 1) + (10 - t) * p j) i + if i = 0 ∧ g = 1 then sl else 0 := by
            intro i
            unfold upN
            by_cases y : i = j - 1
            · rw [if_pos y, if_pos y, e8 (j - 1), ← y]; omega
            · rw [if_neg y, if_neg y, e8 i]
          intro i
          show (if i = j + w - 1 then _ else upN B (j - 1) (B (j - 1) + (10 - t) * p j) i) = (if i = j + w - 1 then _ else upN A (j - 1) (A (j - 1) + (10 - t) * p j) i) + _
          by_cases y : i = j + w - 1
          · rw [if_pos y, if_pos y, hr1 (j + w - 1), ← y]; omega
          · rw [if_neg y, if_neg y, hr1 i]
        have hsum : sm (upN (upN A (j - 1) (A (j - 1) + (10 - t) * p j)) (j + w - 1) (upN A (j - 1) (A (j - 1) + (10 - t) * p j) (j + w - 1) + t * p j)) 21 + sl = 10 * sm p (j + 1) := by
          rw [sm_up _ _ _ 21 (by omega), sm_up _ _ _ 21 (by omega), hs]
          omega
        obtain ⟨N, Q, A2, B2, sl2, y1, y2, y3⟩ := ih (j + 1) (by omega) (by omega) _ _ sl (p2_next o N1) (p9_partsThen (p9_meanParts m (lN (M + sl))) Q1) e1 e2 e3 e4 c2 d2 rfl hrel hsum
        exact ⟨N, Q, A2, B2, sl2, y1, y2, y3⟩
      · obtain ⟨N1, c1, c2⟩ := hour_cs (g := g) hl hw ht hj (lp_X2_passHour_30 (nI w) (nI t) (nI g) n) o sl e1 e3 e5 (by omega)
        obtain ⟨Q1, d1, d2⟩ := hour_ms (g := g) hl hw ht hj (lp_X9_riskHour_39 (nI w) (nI t) (nI g) n) m e2 e4 e6 e7 (by omega) hg
        rw [c1, d1]
        have hrel : ∀ i, (upN (upN B (j - 1) (B (j - 1) + (10 - t) * p j)) 0 (upN B (j - 1) (B (j - 1) + (10 - t) * p j) 0 + if g = 1 then t * p j else 0)) i = upN A (j - 1) (A (j - 1) + (10 - t) * p j) i + if i = 0 ∧ g = 1 then sl + t * p j else 0 := by
          have hr1 : ∀ i, upN B (j - 1) (B (j - 1) + (10 - t) * p j) i = upN A (j - 1) (A (j - 1) + (10 - t) * p j) i + if i = 0 ∧ g = 1 then sl else 0 := by
            intro i
            unfold upN
            by_cases y : i = j - 1
            · rw [if_pos y, if_pos y, e8 (j - 1), ← y]; omega
            · rw [if_neg y, if_neg y, e8 i]
          intro i
          show (if i = 0 then _ else upN B (j - 1) (B (j - 1) + (10 - t) * p j) i) = _
          by_cases y : i = 0
          · subst y
            rw [if_pos rfl, hr1 0]
            by_cases x : g = 1
            · rw [if_pos ⟨rfl, x⟩, if_pos x, if_pos ⟨rfl, x⟩]; omega
            · rw [if_neg (fun z => x z.2), if_neg x, if_neg (fun z => x z.2)]
          · rw [if_neg y, hr1 i, if_neg (fun z => y z.1), if_neg (fun z => y z.1)]
        have hsum : sm (upN A (j - 1) (A (j - 1) + (10 - t) * p j)) 21 + (sl + t * p j) = 10 * sm p (j + 1) := by
          rw [sm_up _ _ _ 21 (by omega), hs]
          omega
        have em : x9_meanParts (p9_partsThen (p9_meanParts m (lN (M + sl + t * p j))) Q1) = lN (M + (sl + t * p j)) := by rw [← Nat.add_assoc]; rfl
        obtain ⟨N, Q, A2, B2, sl2, y1, y2, y3⟩ := ih (j + 1) (by omega) (by omega) _ _ (sl + t * p j) (p2_next o N1) (p9_partsThen (p9_meanParts m (lN (M + sl + t * p j))) Q1) e1 e2 e3 e4 c2 d2 em hrel hsum
        exact ⟨N, Q, A2, B2, sl2, y1, y2, y3⟩
