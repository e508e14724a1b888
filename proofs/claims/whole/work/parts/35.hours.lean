/-! the pad played: the loops -/
def St (t : S7) (m m0 : S9) (q : Nat) : Prop := TR t m ∧ x7_acts t = nI q ∧ x7_firstSlip t = x9_firstSlip m ∧ x9_badAct m = -6 ∧ frC m = frC m0
theorem jn140 (t : S7) (p : S3) : jn_X7_attempt_140 t p = some (if x7_reason t = 0 then p7_acts t (x7_acts t + 1) else t) := by
  unfold jn_X7_attempt_140
  by_cases z : x7_reason t = 0
  · rw [if_pos z, if_pos z]
  · rw [if_neg z, if_neg z]
theorem play_lp {p : S3} {m0 : S9} {c A : Nat} {st : Nat → Nat} (s : S8) (hs : x8_pad s = p) (hc : c ≤ 60) (hp : x3_count p = nI c) (hsg : ∀ j, j < 60 → x3_signs p j = x9_pad m0 j) (hA : A ≤ 60) (ha : x9_acts m0 = nI A) (hst : st A = c) (hr : ∀ q, q < A → Row (x9_pad m0) m0 q (st q) (st (q + 1))) (hle : ∀ q, q ≤ A → st q ≤ c) :
    ∀ n q, q ≤ A → A + 2 ≤ n + q → ∀ t m, St t m m0 q →
    (∃ t2 m2, lp_X8_playPad_28 n (nI (st q)) (p8_trial s t) = some (Sum.inr (p8_trial s t2)) ∧ lp_X9_goHours_18 n (nI q) m = some m2 ∧ St t2 m2 m0 A ∧ (q < A → x9_badWhy m2 = -6) ∧ (q = A → m2 = m)) ∨
    (∃ t2 m2 q2 r, q2 < A ∧ 1 ≤ r ∧ r ≤ 6 ∧ lp_X8_playPad_28 n (nI (st q)) (p8_trial s t) = some (Sum.inl (-3, p8_trial s t2)) ∧ lp_X9_goHours_18 n (nI q) m = some m2 ∧ x7_acts t2 = nI q2 ∧ x7_reason t2 = nI r ∧ x9_badAct m2 = nI q2 ∧ x9_badWhy m2 = nI r ∧ frC m2 = frC m0) := by
  intro n
  induction n with
  | zero => intro q h1 h2; omega
  | succ n ih =>
    intro q h1 h2 t m ⟨hT, hac, hfs, hba, hfr⟩
    obtain ⟨hrw, hacts⟩ := frC_rows hfr
    have ham : x9_acts m = nI A := hacts.trans ha
    have eX : lp_X8_playPad_28 (n + 1) (nI (st q)) (p8_trial s t) = bd_X8_playPad_28 (lp_X8_playPad_28 n) (nI (st q)) (p8_trial s t) := rfl
    have eM : lp_X9_goHours_18 (n + 1) (nI q) m = bd_X9_goHours_18 (lp_X9_goHours_18 n) (nI q) m := rfl
    rw [eX, eM]
    have epad : ∀ t', x8_pad (p8_trial s t') = p := fun t' => hs
    have etr : ∀ t', x8_trial (p8_trial s t') = t' := fun t' => rfl
    have epp : ∀ t', p8_trial (p8_trial s t) t' = p8_trial s t' := fun t' => rfl
    by_cases hq : q = A
    · subst hq
      refine Or.inl ⟨t, m, ?_, ?_, ⟨hT, hac, hfs, hba, hfr⟩, fun z => by omega, fun _ => rfl⟩
      · unfold bd_X8_playPad_28
        rw [epad, hp, hst, if_pos ((nI_leI (by omega) (by omega)).mpr (Nat.le_refl _))]
      · unfold bd_X9_goHours_18
        rw [ham, if_pos ((nI_leI (by omega) (by omega)).mpr (Nat.le_refl _))]
    · have hqA : q < A := by omega
      have hRow := (hr q hqA).eq (hrw q)
      have hse := hle (q + 1) (by omega)
      obtain ⟨g1, g2, g3, cls, g4, g5⟩ := att_n (m := m) hT hc hp hsg hse hRow
      obtain ⟨g1', g2', g3', cls1, g4', g5'⟩ := att_n (m := ok1 m q) (TR_ok1 hT q) hc hp hsg hse (hRow.eq ⟨rfl, rfl, rfl, rfl⟩)
      obtain ⟨r, t2, k1, k2, k3, k4, k5⟩ := g4'
      rw [go_s _ ham hA hqA hba, why_ok1]
      unfold bd_X8_playPad_28
      rw [epad, etr, hp, if_neg (fun z => by have := (nI_leI (by omega) (by omega)).mp z; omega), g5', k2, bs, jn140, bs]
      have k3' : sem_X9_whyNot (x9_act m q) (x9_who m q) (x9_other m q) (x9_much m q) (ok1 m q) = some (nI r) := k3
      rw [k3', bs]
      by_cases hr0 : r = 0
      · subst hr0
        obtain ⟨m2, w1, w2, w3, w4, w5, w6⟩ := k5 rfl
        have w1' : sem_X9_happen (x9_act m q) (x9_who m q) (x9_other m q) (x9_much m q) (ok1 m q) = some m2 := w1
        rw [if_pos (show nI 0 ≤ 0 by decide), go_0 _ (by omega), w1', bs]
        have e7 : x7_reason (p7_reason t2 (nI 0)) = 0 := rfl
        rw [if_pos e7, epp, etr]
        have e8 : x7_reason (p7_acts (p7_reason t2 (nI 0)) (x7_acts (p7_reason t2 (nI 0)) + 1)) = 0 := rfl
        rw [if_pos e8, epad, g3, bs]
        have e9 : jmax 1 (nI (st (q + 1) - st q)) = nI (st (q + 1) - st q) := by
          rw [show (1 : Int32) = nI 1 from rfl, jmax_n (by decide) (by omega), Nat.max_eq_right (by omega)]
        rw [e9, nI_add, show st q + (st (q + 1) - st q) = st (q + 1) by omega]
        obtain ⟨f1, f2, f3⟩ := frA_C w6
        have hSt : St (p7_acts (p7_reason t2 (nI 0)) (x7_acts (p7_reason t2 (nI 0)) + 1)) m2 m0 (q + 1) := by
          refine ⟨w2, ?_, ?_, ?_, ?_⟩
          · show x7_acts t2 + 1 = _
            rw [w4, hac, nI_1]
          · exact w3 hac hfs
          · rw [f2]; rfl
          · rw [f1, frC_ok1]; exact hfr
        have hbw : x9_badWhy m2 = -6 := by rw [f3]; rfl
        rcases ih (q + 1) (by omega) (by omega) _ _ hSt with ⟨t3, m3, y1, y2, y3, y4, y5⟩ | ⟨t3, m3, q2, r2, y0, y1, y2, y3, y4, y5⟩
        · refine Or.inl ⟨t3, m3, y1, y2, y3, fun _ => ?_, fun z => by omega⟩
          by_cases z : q + 1 = A
          · rw [y5 z]; exact hbw
          · exact y4 (by omega)
        · exact Or.inr ⟨t3, m3, q2, r2, y0, y1, y2, y3, y4, y5⟩
      · have hr1 : 1 ≤ r := by omega
        have e : ¬ nI r ≤ 0 := fun z => by have := (nI_leI (a := r) (b := 0) (by omega) (by decide)).mp z; omega
        have e2 : ¬ nI r = 0 := fun z => e (by rw [z]; decide)
        have ht2 := k4 hr0
        subst ht2
        have e7 : x7_reason (p7_reason t2 (nI r)) = nI r := rfl
        have e10 : ¬ x7_reason (p7_reason t2 (nI r)) = 0 := by rw [e7]; exact e2
        rw [if_neg e, go_no _ hr1 k1, if_neg e10, epp, etr, if_neg e10]
        obtain ⟨n', rfl⟩ : ∃ n', n = n' + 1 := ⟨n - 1, by omega⟩
        refine Or.inr ⟨p7_reason t2 (nI r), no1 m q r, q, r, hqA, hr1, k1, rfl, go_end n' _ (by omega) rfl, hac, rfl, rfl, rfl, ?_⟩
        rw [frC_no1]; exact hfr
