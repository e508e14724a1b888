/-! deal -/
theorem any_lp (u : S5) {v : Nat} (hv : v ≤ 20) (x2 : Int32) : ∀ f j, j ≤ 6 → 7 ≤ f + j → ∃ r, lp_X5_fewestSlips_2 (nI v) x2 u f (nI j) = some r := by
  intro f
  induction f with
  | zero => intro j h1 h2; omega
  | succ f ih =>
    intro j h1 h2
    show ∃ r, bd_X5_fewestSlips_2 (nI v) x2 u (lp_X5_fewestSlips_2 (nI v) x2 u f) (nI j) = some r
    unfold bd_X5_fewestSlips_2
    by_cases q : j = 6
    · subst q
      rw [if_pos (by decide)]
      exact ⟨_, rfl⟩
    · have e : sem_X5_fewestStamps 0 (nI v) (nI j) u = _ := few_n u (h := 0) (v := v) (j := j) (by decide) hv (by omega)
      rw [if_neg (no6 (by omega)), e, bs, nI_1]
      by_cases z : x2 < x5_table u ((0 * 21 + v) * 7 + j)
      · rw [if_pos z]; exact ih (j + 1) (by omega) (by omega)
      · rw [if_neg z]; exact ⟨_, rfl⟩
theorem any_n (u : S5) {v : Nat} (hv : v ≤ 20) (x2 : Int32) : ∃ r, sem_X5_fewestSlips (nI v) x2 u = some r := by
  obtain ⟨r, h⟩ := any_lp u hv x2 FUEL 0 (by decide) (by rw [fuel_s]; omega)
  have h' : lp_X5_fewestSlips_2 (nI v) x2 u FUEL 0 = some r := h
  unfold sem_X5_fewestSlips
  rw [h', bs]
  cases r with
  | inl r => exact ⟨_, rfl⟩
  | inr r => exact ⟨_, rfl⟩
theorem i21 : ∀ j, j ≤ 21 → ((21 : Int32) ≤ nI j ↔ j = 21) := fun j h => (c20 j h).2
theorem alone_lp {t : S6} {u : S5} {k v : Nat} (hk : k < 6) (hv : v ≤ 20) (ht : x6_facts t (k * 6 + 0) = nI v) : ∀ f j, j ≤ 21 → 22 ≤ f + j → ∀ s : S1, ∃ P, lp_X1_reckon_51 (nI k) t u f (nI j) s = some (p1_alone s P) ∧ (∀ q, ¬ (k * 21 + j ≤ q ∧ q ≤ k * 21 + 20) → P q = x1_alone s q) ∧ ∀ i, j ≤ i → i ≤ 20 → sem_X5_fewestSlips (nI v) (nI i) u = some (P (k * 21 + i)) := by
  intro f
  induction f with
  | zero => intro j h1 h2; omega
  | succ f ih =>
    intro j h1 h2 s
    show ∃ P, bd_X1_reckon_51 (nI k) t u (lp_X1_reckon_51 (nI k) t u f) (nI j) s = _ ∧ _
    unfold bd_X1_reckon_51
    by_cases q : j = 21
    · rw [if_pos ((i21 j h1).mpr q)]
      exact ⟨x1_alone s, rfl, fun _ _ => rfl, fun i p1 p2 => by omega⟩
    · obtain ⟨r, hr⟩ := any_n u hv (nI j)
      rw [if_neg (fun z => q ((i21 j h1).mp z)), get_l hk 0 (by decide) 0 rfl, bs, ht, hr, bs, show nI k * 21 = nI (k * 21) from pk_mul k 21, nI_add, ck_in (vp_in_nI (by omega) (by decide)), tcl (by omega), nI_1]
      obtain ⟨P, g1, g2, g3⟩ := ih (j + 1) (by omega) (by omega) (p1_alone s (upd (x1_alone s) (k * 21 + j) r))
      refine ⟨P, g1, fun q hq => ?_, fun i p1 p2 => ?_⟩
      · rw [g2 q (by omega)]
        show upd (x1_alone s) (k * 21 + j) r q = _
        rw [pk_un (by omega)]
      · by_cases z : i = j
        · subst z
          rw [hr, g2 _ (by omega)]
          exact congrArg some pk_us.symm
        · exact g3 i (by omega) p2
theorem row6_c {t : S6} {u : S5} : ∀ f j, j ≤ 21 → 22 ≤ f + j → ∀ s : S1, ∃ P, lp_X1_reckon_10 t u f (nI j) s = some (p1_fewest s P) ∧ (∀ q, ¬ (126 + j ≤ q ∧ q ≤ 126 + 20) → P q = x1_fewest s q) ∧ ∀ i, j ≤ i → i ≤ 20 → P (126 + i) = nI (if i = 0 then 0 else 1000) := by
  intro f
  induction f with
  | zero => intro j h1 h2; omega
  | succ f ih =>
    intro j h1 h2 s
    show ∃ P, bd_X1_reckon_10 t u (lp_X1_reckon_10 t u f) (nI j) s = _ ∧ _
    unfold bd_X1_reckon_10
    by_cases q : j = 21
    · rw [if_pos ((i21 j h1).mpr q)]
      exact ⟨x1_fewest s, rfl, fun _ _ => rfl, fun i p1 p2 => by omega⟩
    · rw [if_neg (fun z => q ((i21 j h1).mp z)), show (126 : Int32) + nI j = nI (126 + j) from nI_add 126 j, ck_in (vp_in_nI (by omega) (by decide)), ck_in (vp_in_nI (by omega) (by decide)), tcl (by omega), nI_1]
      have e : (if nI j = 0 then lp_X1_reckon_10 t u f (nI (j + 1)) (p1_fewest s (upd (x1_fewest s) (126 + j) 0)) else lp_X1_reckon_10 t u f (nI (j + 1)) (p1_fewest s (upd (x1_fewest s) (126 + j) 1000))) = lp_X1_reckon_10 t u f (nI (j + 1)) (p1_fewest s (upd (x1_fewest s) (126 + j) (nI (if j = 0 then 0 else 1000)))) := by
        by_cases z : j = 0
        · subst z; rw [if_pos (show nI 0 = 0 from rfl)]; rfl
        · rw [if_neg (nI_ne0 (by omega) (by omega)), if_neg z]; rfl
      rw [e]
      obtain ⟨P, g1, g2, g3⟩ := ih (j + 1) (by omega) (by omega) (p1_fewest s (upd (x1_fewest s) (126 + j) (nI (if j = 0 then 0 else 1000))))
      refine ⟨P, g1, fun q hq => ?_, fun i p1 p2 => ?_⟩
      · rw [g2 q (by omega)]
        show upd (x1_fewest s) (126 + j) _ q = _
        rw [pk_un (by omega)]
      · by_cases z : i = j
        · subst z
          rw [g2 _ (by omega)]
          exact pk_us
        · exact g3 i (by omega) p2
theorem row6_m : ∀ f j, j ≤ 21 → 22 ≤ f + j → ∀ m : S9, ∃ P, lp_X9_findDeals_14 (nI 6) f (nI j) m = some (p9_slipsFrom m P) ∧ (∀ q, ¬ (126 + j ≤ q ∧ q ≤ 126 + 20) → P q = x9_slipsFrom m q) ∧ ∀ i, j ≤ i → i ≤ 20 → P (126 + i) = nI (if i = 0 then 0 else 100000) := by
  intro f
  induction f with
  | zero => intro j h1 h2; omega
  | succ f ih =>
    intro j h1 h2 m
    show ∃ P, bd_X9_findDeals_14 (nI 6) (lp_X9_findDeals_14 (nI 6) f) (nI j) m = _ ∧ _
    unfold bd_X9_findDeals_14
    by_cases q : j = 21
    · rw [if_pos ((i21 j h1).mpr q)]
      exact ⟨x9_slipsFrom m, rfl, fun _ _ => rfl, fun i p1 p2 => by omega⟩
    · rw [if_neg (fun z => q ((i21 j h1).mp z)), if_pos (show nI 6 = 6 from rfl), show (21 : Int32) * nI 6 + nI j = nI (126 + j) from nI_add 126 j, ck_in (vp_in_nI (by omega) (by decide)), ck_in (vp_in_nI (by omega) (by decide)), tcl (by omega), nI_1]
      have e : (if nI j = 0 then lp_X9_findDeals_14 (nI 6) f (nI (j + 1)) (p9_slipsFrom m (upd (x9_slipsFrom m) (126 + j) 0)) else lp_X9_findDeals_14 (nI 6) f (nI (j + 1)) (p9_slipsFrom m (upd (x9_slipsFrom m) (126 + j) 100000))) = lp_X9_findDeals_14 (nI 6) f (nI (j + 1)) (p9_slipsFrom m (upd (x9_slipsFrom m) (126 + j) (nI (if j = 0 then 0 else 100000)))) := by
        by_cases z : j = 0
        · subst z; rw [if_pos (show nI 0 = 0 from rfl)]; rfl
        · rw [if_neg (nI_ne0 (by omega) (by omega)), if_neg z]; rfl
      rw [e]
      obtain ⟨P, g1, g2, g3⟩ := ih (j + 1) (by omega) (by omega) (p9_slipsFrom m (upd (x9_slipsFrom m) (126 + j) (nI (if j = 0 then 0 else 100000))))
      refine ⟨P, g1, fun q hq => ?_, fun i p1 p2 => ?_⟩
      · rw [g2 q (by omega)]
        show upd (x9_slipsFrom m) (126 + j) _ q = _
        rw [pk_un (by omega)]
      · by_cases z : i = j
        · subst z
          rw [g2 _ (by omega)]
          exact pk_us
        · exact g3 i (by omega) p2
def AtP (s : S1) (A : Nat → Nat → Nat) (k st f : Nat) : Prop := f ≤ 36 → ∃ p f2, p ≤ st ∧ x1_fewest s ((k + 1) * 21 + (st - p)) = nI f2 ∧ f2 ≤ 1000 ∧ A k p + f2 = f
theorem cells_lp {T : Nat} (hT : T < 64) {A : Nat → Nat → Nat} {t : S6} {u : S5} {k : Nat} (hk : k < 6) : ∀ f j, j ≤ 21 → 22 ≤ f + j → ∀ (s : S1) (m : S9), x1_there s = nI T → AW9 T m A → (T.testBit k = true → ∀ p, p ≤ 20 → x1_alone s (k * 21 + p) = nI (A k p)) → RW T s m (k + 1) →
    ∃ P Q, lp_X1_reckon_91 (nI k) t u f (nI j) s = some (p1_fewest s P) ∧ lp_X9_findDeals_14 (nI k) f (nI j) m = some (p9_slipsFrom m Q) ∧ (∀ q, ¬ (k * 21 + j ≤ q ∧ q ≤ k * 21 + 20) → P q = x1_fewest s q) ∧ (∀ q, ¬ (21 * k + j ≤ q ∧ q ≤ 21 * k + 20) → Q q = x9_slipsFrom m q) ∧ ∀ i, j ≤ i → i ≤ 20 → ∃ f g, P (k * 21 + i) = nI f ∧ Q (21 * k + i) = nI g ∧ Rl T k i f g ∧ (T.testBit k = true → AtP s A k i f) := by
  intro f
  induction f with
  | zero => intro j h1 h2; omega
  | succ f ih =>
    intro j h1 h2 s m e1 e2 e3 e4
    show ∃ P Q, bd_X1_reckon_91 (nI k) t u (lp_X1_reckon_91 (nI k) t u f) (nI j) s = _ ∧ bd_X9_findDeals_14 (nI k) (lp_X9_findDeals_14 (nI k) f) (nI j) m = _ ∧ _
    unfold bd_X1_reckon_91 bd_X9_findDeals_14
    by_cases q : j = 21
    · rw [if_pos ((i21 j h1).mpr q), if_pos ((i21 j h1).mpr q)]
      exact ⟨x1_fewest s, x9_slipsFrom m, rfl, rfl, fun _ _ => rfl, fun _ _ => rfl, fun i p1 p2 => by omega⟩
    · obtain ⟨a, b, a1, a2, a3⟩ := cell_n hT hk (show j ≤ 20 by omega) e1 e2 e3 e4
      have hk6 : ¬ nI k = 6 := fun z => by have := (nI_eq (a := k) (b := 6) (by omega) (by decide)).mp z; omega
      rw [if_neg (fun z => q ((i21 j h1).mp z)), if_neg (fun z => q ((i21 j h1).mp z)), if_neg hk6, a1, bs, a2, bs, show nI k * 21 = nI (k * 21) from pk_mul k 21, show (21 : Int32) * nI k = nI (21 * k) from pk_mul 21 k, nI_add, nI_add, ck_in (vp_in_nI (by omega) (by decide)), tcl (by omega), ck_in (vp_in_nI (by omega) (by decide)), tcl (by omega), nI_1]
      have hR2 : RW T (p1_fewest s (upd (x1_fewest s) (k * 21 + j) (nI a))) (p9_slipsFrom m (upd (x9_slipsFrom m) (21 * k + j) (nI b))) (k + 1) := by
        intro st hst
        obtain ⟨f', g', y1, y2, y3⟩ := e4 st hst
        refine ⟨f', g', ?_, ?_, y3⟩
        · show upd (x1_fewest s) (k * 21 + j) (nI a) _ = _
          rw [pk_un (by omega), y1]
        · show upd (x9_slipsFrom m) (21 * k + j) (nI b) _ = _
          rw [pk_un (by omega), y2]
      obtain ⟨P, Q, g1, g2, g3, g4, g5⟩ := ih (j + 1) (by omega) (by omega) (p1_fewest s (upd (x1_fewest s) (k * 21 + j) (nI a))) (p9_slipsFrom m (upd (x9_slipsFrom m) (21 * k + j) (nI b))) e1 e2 e3 hR2
      refine ⟨P, Q, g1, g2, fun q hq => ?_, fun q hq => ?_, fun i p1 p2 => ?_⟩
      · rw [g3 q (by omega)]
        show upd (x1_fewest s) (k * 21 + j) (nI a) q = _
        rw [pk_un (by omega)]
      · rw [g4 q (by omega)]
        show upd (x9_slipsFrom m) (21 * k + j) (nI b) q = _
        rw [pk_un (by omega)]
      · by_cases z : i = j
        · subst z
          refine ⟨a, b, ?_, ?_, a3, fun hb ha36 => ?_⟩
          · rw [g3 _ (by omega)]; exact pk_us
          · rw [g4 _ (by omega)]; exact pk_us
          · obtain ⟨F, G, hFG⟩ := RW_fun e4
            obtain ⟨v, v1, v2, v3⟩ := e2.2 k hk hb
            obtain ⟨p, y1, y2⟩ := from_p (m := m) hT hk p2 e1 hb (fun p hp => (v3 p hp).1) (e3 hb) (F := F) (fun p hp => ⟨(hFG p hp).1, (Rl_f (hFG p hp).2.2).1⟩) a1 ha36
            exact ⟨p, F (i - p), y1, (hFG (i - p) (by omega)).1, (Rl_f (hFG (i - p) (by omega)).2.2).1, y2⟩
        · obtain ⟨f', g', y1, y2, y3, y4⟩ := g5 i (by omega) p2
          refine ⟨f', g', y1, y2, y3, fun hb h36 => ?_⟩
          obtain ⟨p, f2, w1, w2, w3, w4⟩ := y4 hb h36
          refine ⟨p, f2, w1, ?_, w3, w4⟩
          rw [← w2]
          show _ = upd (x1_fewest s) (k * 21 + j) (nI a) _
          rw [pk_un (by omega)]
/-- the rows from 6 - H on stand -/
def DI (T : Nat) (A : Nat → Nat → Nat) (s : S1) (m : S9) (H : Nat) : Prop := x1_there s = nI T ∧ AW9 T m A ∧ (∀ k, 6 - H ≤ k → k ≤ 6 → RW T s m k) ∧ ∀ k, 6 - H ≤ k → k < 6 → T.testBit k = true → (∀ p, p ≤ 20 → x1_alone s (k * 21 + p) = nI (A k p)) ∧ ∀ st f, st ≤ 20 → x1_fewest s (k * 21 + st) = nI f → f ≤ 1000 → AtP s A k st f
theorem rows_lp {T : Nat} (hT : T < 64) {A : Nat → Nat → Nat} {t : S6} {u : S5} (ht : ∀ k, k < 6 → ∃ v, v ≤ 20 ∧ x6_facts t (k * 6 + 0) = nI v ∧ (T.testBit k = true → ∀ p, p ≤ 20 → sem_X5_fewestSlips (nI v) (nI p) u = some (nI (A k p)))) : ∀ f H, H ≤ 6 → 7 ≤ f + H → ∀ (s : S1) (m : S9), DI T A s m H → ∃ s2 Q, lp_X1_reckon_44 t u f (nI (6 - H) - 1) s = some s2 ∧ lp_X9_findDeals_8 f (nI (6 - H) - 1) m = some (p9_slipsFrom m Q) ∧ DI T A s2 (p9_slipsFrom m Q) 6 := by
  intro f
  induction f with
  | zero => intro H h1 h2; omega
  | succ f ih =>
    intro H h1 h2 s m hD
    show ∃ s2 Q, bd_X1_reckon_44 t u (lp_X1_reckon_44 t u f) (nI (6 - H) - 1) s = _ ∧ bd_X9_findDeals_8 (lp_X9_findDeals_8 f) (nI (6 - H) - 1) m = _ ∧ _
    unfold bd_X1_reckon_44 bd_X9_findDeals_8
    by_cases q : H = 6
    · subst q
      rw [if_pos (by decide), if_pos (by decide)]
      exact ⟨s, x9_slipsFrom m, rfl, rfl, hD⟩
    · obtain ⟨d1, d2, d3, d4⟩ := hD
      obtain ⟨k, hk⟩ : ∃ k, k = 5 - H := ⟨_, rfl⟩
      have hk6 : k < 6 := by omega
      obtain ⟨v, v1, v2, v3⟩ := ht k hk6
      obtain ⟨P, a1, a2, a3⟩ := alone_lp (u := u) hk6 v1 v2 FUEL 0 (by decide) (by rw [fuel_s]; omega) s
      have a1' : lp_X1_reckon_51 (nI k) t u FUEL 0 s = some (p1_alone s P) := a1
      have hal : T.testBit k = true → ∀ p, p ≤ 20 → x1_alone (p1_alone s P) (k * 21 + p) = nI (A k p) := by
        intro hb p hp
        have h := a3 p (Nat.zero_le _) hp
        rw [v3 hb p hp] at h
        injection h with h
        exact h.symm
      have hR1 : RW T (p1_alone s P) m (k + 1) := d3 (k + 1) (by omega) (by omega)
      obtain ⟨F, G, b1, b2, b3, b4, b5⟩ := cells_lp hT (t := t) (u := u) hk6 FUEL 0 (by decide) (by rw [fuel_s]; omega) (p1_alone s P) m d1 d2 hal hR1
      have b1' : lp_X1_reckon_91 (nI k) t u FUEL 0 (p1_alone s P) = some (p1_fewest (p1_alone s P) F) := b1
      have b2' : lp_X9_findDeals_14 (nI k) FUEL 0 m = some (p9_slipsFrom m G) := b2
      rw [show 6 - H = k + 1 by omega, nI_pred, if_neg (no0 (by omega)), if_neg (no0 (by omega)), a1', bs, b1', bs, b2', bs]
      have hD2 : DI T A (p1_fewest (p1_alone s P) F) (p9_slipsFrom m G) (H + 1) := by
        refine ⟨d1, d2, fun k' p1 p2 st hst => ?_, fun k' p1 p2 hb => ⟨fun p hp => ?_, fun st fv hst hfe hfb => ?_⟩⟩
        · by_cases z : k' = k
          · subst z
            obtain ⟨f', g', y1, y2, y3, -⟩ := b5 st (Nat.zero_le _) hst
            exact ⟨f', g', y1, y2, y3⟩
          · obtain ⟨f', g', y1, y2, y3⟩ := d3 k' (by omega) p2 st hst
            refine ⟨f', g', ?_, ?_, y3⟩
            · show F _ = _
              rw [b3 _ (by omega)]; exact y1
            · show G _ = _
              rw [b4 _ (by omega)]; exact y2
        · by_cases z : k' = k
          · subst z
            exact hal hb p hp
          · show P _ = _
            rw [a2 _ (by omega)]
            exact (d4 k' (by omega) p2 hb).1 p hp
        · intro h36
          by_cases z : k' = k
          · subst z
            obtain ⟨f', g', y1, y2, y3, y4⟩ := b5 st (Nat.zero_le _) hst
            have hfe' : F (k' * 21 + st) = nI fv := hfe
            have hff : f' = fv := (nI_eq (by have := (Rl_f y3).1; omega) (by omega)).mp (y1.symm.trans hfe')
            subst hff
            obtain ⟨p, f2, w1, w2, w3, w4⟩ := y4 hb h36
            refine ⟨p, f2, w1, ?_, w3, w4⟩
            show F _ = _
            rw [b3 _ (by omega)]
            exact w2
          · have hfe' : x1_fewest s (k' * 21 + st) = nI fv := by
              rw [← hfe]
              show _ = F _
              rw [b3 _ (by omega)]
              rfl
            obtain ⟨p, f2, w1, w2, w3, w4⟩ := (d4 k' (by omega) p2 hb).2 st fv hst hfe' hfb h36
            refine ⟨p, f2, w1, ?_, w3, w4⟩
            show F _ = _
            rw [b3 _ (by omega)]
            exact w2
      obtain ⟨s2, Q, g1, g2, g3⟩ := ih (H + 1) (by omega) (by omega) _ _ hD2
      rw [show 6 - (H + 1) = k by omega] at g1 g2
      exact ⟨s2, Q, g1, g2, g3⟩
theorem tables_n {T : Nat} (hT : T < 64) {A : Nat → Nat → Nat} {t : S6} {u : S5} (htt : x6_there t = nI T) (ht : ∀ k, k < 6 → ∃ v, v ≤ 20 ∧ x6_facts t (k * 6 + 0) = nI v ∧ (T.testBit k = true → ∀ p, p ≤ 20 → sem_X5_fewestSlips (nI v) (nI p) u = some (nI (A k p)))) (s : S1) (m : S9) (hA : AW9 T m A) : ∃ s2 Q, sem_X1_reckon s t u = some s2 ∧ lp_X9_findDeals_8 FUEL 6 m = some (p9_slipsFrom m Q) ∧ DI T A s2 (p9_slipsFrom m Q) 6 := by
  obtain ⟨P, a1, a2, a3⟩ := row6_c (t := t) (u := u) FUEL 0 (by decide) (by rw [fuel_s]; omega) (p1_there s (x6_there t))
  obtain ⟨G, b1, b2, b3⟩ := row6_m FUEL 0 (by decide) (by rw [fuel_s]; omega) m
  have a1' : lp_X1_reckon_10 t u FUEL 0 (p1_there s (x6_there t)) = some (p1_fewest (p1_there s (x6_there t)) P) := a1
  have b1' : lp_X9_findDeals_14 6 FUEL 0 m = some (p9_slipsFrom m G) := b1
  have hD : DI T A (p1_fewest (p1_there s (x6_there t)) P) (p9_slipsFrom m G) 0 := by
    refine ⟨htt, hA, fun k p1 p2 st hst => ?_, fun k p1 p2 => by omega⟩
    have hk : k = 6 := by omega
    subst hk
    refine ⟨if st = 0 then 0 else 1000, if st = 0 then 0 else 100000, a3 st (Nat.zero_le _) hst, b3 st (Nat.zero_le _) hst, ?_⟩
    by_cases z : st = 0
    · rw [if_pos z, if_pos z]; exact Or.inl ⟨rfl, Nat.zero_le _⟩
    · rw [if_neg z, if_neg z]; exact Or.inr ⟨rfl, rfl, z, fun i h1 h2 => by omega⟩
  have hF : FUEL = 4095 + 1 := rfl
  obtain ⟨s2, Q, g1, g2, g3⟩ := rows_lp hT ht 4095 0 (Nat.zero_le _) (by decide) _ _ hD
  obtain ⟨s3, Q3, g4, g5, g6⟩ := rows_lp hT ht FUEL 0 (Nat.zero_le _) (by rw [fuel_s]; omega) _ _ hD
  have g4' : lp_X1_reckon_44 t u FUEL 5 (p1_fewest (p1_there s (x6_there t)) P) = some s3 := g4
  have gm : ∀ n e1 e2 z1 z2, lp_X1_reckon_44 t u n e1 e2 = some z1 → lp_X1_reckon_44 t u (n + 1) e1 e2 = some z2 → z1 = z2 := by
    intro n
    induction n with
    | zero => intro e1 e2 z1 z2 h; cases h
    | succ n ih =>
      intro e1 e2 z1 z2 h h'
      have h1 : bd_X1_reckon_44 t u (lp_X1_reckon_44 t u n) e1 e2 = some z1 := h
      have h2 : bd_X1_reckon_44 t u (lp_X1_reckon_44 t u (n + 1)) e1 e2 = some z2 := h'
      unfold bd_X1_reckon_44 at h1 h2
      by_cases c : e1 < 0
      · rw [if_pos c] at h1 h2
        exact Option.some.inj (h1.symm.trans h2)
      · rw [if_neg c] at h1 h2
        cases w : lp_X1_reckon_51 e1 t u FUEL 0 e2 with
        | none => rw [w] at h1; cases h1
        | some o =>
          rw [w, bs] at h1 h2
          cases w2 : lp_X1_reckon_91 e1 t u FUEL 0 o with
          | none => rw [w2] at h1; cases h1
          | some o2 =>
            rw [w2, bs] at h1 h2
            exact ih _ _ _ _ h1 h2
  have e23 : s2 = s3 := gm 4095 _ _ _ _ g1 g4
  subst e23
  refine ⟨s2, Q, ?_, ?_, g3⟩
  · unfold sem_X1_reckon
    rw [a1', bs, g4', bs]
  · rw [hF]
    show bd_X9_findDeals_8 (lp_X9_findDeals_8 4095) 6 m = _
    unfold bd_X9_findDeals_8
    rw [if_neg (by decide), b1', bs]
    exact g2
