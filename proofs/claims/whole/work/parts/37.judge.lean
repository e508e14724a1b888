/-! judge -/
theorem frL_s {m5 m4 : S9} {L : Nat → Int32} (h : frL m5 = frL (p9_leaves m4 L)) : x9_slipMany m5 = x9_slipMany m4 ∧ x9_firstSlip m5 = x9_firstSlip m4 ∧ x9_firstWho m5 = x9_firstWho m4 ∧ x9_firstHeard m5 = x9_firstHeard m4 ∧ x9_paid m5 = x9_paid m4 ∧ x9_leaves m5 = L := by
  simp only [frL, Prod.mk.injEq] at h
  have e := h.2.2.2.2
  exact ⟨congrArg (fun z => z.2.2.1.1) e, congrArg (fun z => z.2.2.1.2.1) e, congrArg (fun z => z.2.2.1.2.2.1) e, congrArg (fun z => z.2.2.1.2.2.2.1) e, congrArg (fun z => z.2.2.1.2.2.2.2.1) e, congrArg (fun z => z.2.2.2.1.2.1) e⟩
theorem ok_slipped : hF_slipped RR := by
  intro x1 s m j0 j1 hR
  unfold sem_X8_slipped sem_X9_slipped
  rcases gd x1 0 3 (by decide) (by decide) (a := 0) (b := 3) (A := 0) (B := 3) rfl rfl rfl rfl with ⟨k, -, hk, rfl, e1, e2⟩ | ⟨e1, e2, -⟩
  · rw [e1, e2, bs, bs, if_neg one_ne, if_neg one_ne]
    rcases refuse hR with ⟨m5, h1, h2, h3⟩ | ⟨t2, m4, m5, L, A, h1, h2, h3, h4, h5, h6, h7, h8, h9, h10, h11⟩ | ⟨t2, m5, q, r, h1, h2, h3, h4, h5, h6, h7⟩
    · rw [h1, h2, bs, bs]; exact ⟨_, _, _, rfl, rfl, h3⟩
    · rw [h1, h2, bs, bs, if_pos rfl, if_pos rfl]
      obtain ⟨f1, f2, f3, f4, f5, f6⟩ := frL_s h10
      obtain ⟨s1, s2, s3, s4⟩ := h4.2
      rw [f2, f3, f4, f5, ← h7, ← s2, ← s3, ← s4]
      by_cases q0 : nI k = 0
      · rw [if_pos q0, if_pos q0]; exact ⟨_, _, _, rfl, rfl, h3⟩
      · rw [if_neg q0, if_neg q0]
        by_cases q1 : nI k = 1
        · rw [if_pos q1, if_pos q1]; exact ⟨_, _, _, rfl, rfl, h3⟩
        · rw [if_neg q1, if_neg q1]
          by_cases q2 : nI k = 2
          · rw [if_pos q2, if_pos q2]; exact ⟨_, _, _, rfl, rfl, h3⟩
          · rw [if_neg q2, if_neg q2]; exact ⟨_, _, _, rfl, rfl, h3⟩
    · rw [h1, h2, bs, bs]; exact ⟨_, _, _, rfl, rfl, h3⟩
  · rw [e1, e2]; exact ⟨_, _, _, rfl, rfl, hR⟩
theorem ok_judge : hF_judge RR := by
  intro x1 s m j0 j1 hR
  unfold sem_X8_judge sem_X9_judge
  rcases gd x1 0 2 (by decide) (by decide) (a := 0) (b := 2) (A := 0) (B := 2) rfl rfl rfl rfl with ⟨k, -, hk, rfl, e1, e2⟩ | ⟨e1, e2, -⟩
  · rw [e1, e2, bs, bs, if_neg one_ne, if_neg one_ne]
    have hk3 : k = 0 ∨ k = 1 ∨ k = 2 := by omega
    rcases refuse hR with ⟨m5, h1, h2, h3⟩ | ⟨t2, m4, m5, L, A, h1, h2, h3, h4, h5, h6, h7, h8, h9, h10, h11⟩ | ⟨t2, m5, q, r, h1, h2, h3, h4, h5, h6, h7⟩
    · rw [h1, h2, bs, bs]; exact ⟨_, _, _, rfl, rfl, h3⟩
    · rw [h1, h2, bs, bs]
      obtain ⟨f1, -⟩ := frL_s h10
      have s1 := h4.2.1
      rcases hk3 with rfl | rfl | rfl
      · exact ⟨-6, _, m5, rfl, by show some (x9_badAct m5, m5) = _; rw [h8], h3⟩
      · exact ⟨-6, _, m5, rfl, by show some (x9_badWhy m5, m5) = _; rw [h9], h3⟩
      · exact ⟨x7_slips t2, _, m5, rfl, by show some (x9_slipMany m5, m5) = _; rw [f1, s1], h3⟩
    · rw [h1, h2, bs, bs]
      rcases hk3 with rfl | rfl | rfl
      · exact ⟨nI q, _, m5, by show some (x7_acts t2, _) = _; rw [h4], by show some (x9_badAct m5, m5) = _; rw [h6], h3⟩
      · exact ⟨nI r, _, m5, by show some (x7_reason t2, _) = _; rw [h5], by show some (x9_badWhy m5, m5) = _; rw [h7], h3⟩
      · exact ⟨-3, _, m5, rfl, rfl, h3⟩
  · rw [e1, e2]; exact ⟨_, _, _, rfl, rfl, hR⟩
theorem ok_behind : hF_behind RR := by
  intro x1 x2 s m j0 j1 hR
  unfold sem_X8_behind sem_X9_behind
  obtain ⟨T, l, e, c, b1, b2, -⟩ := hR.1.2
  rcases gone x1 b1 (hR.1.1.1.trans b2) b2 with ⟨k, hk, rfl, hbit, e1, e2⟩ | ⟨e1, e2⟩
  · rw [e1, e2, bs, bs, if_neg one_ne, if_neg one_ne]
    rcases gd x2 0 4 (by decide) (by decide) (a := 0) (b := 4) (A := 0) (B := 4) rfl rfl rfl rfl with ⟨f, -, hf, rfl, e1, e2⟩ | ⟨e1, e2, -⟩
    · rw [e1, e2, bs, bs, if_neg one_ne, if_neg one_ne]
      rcases refuse hR with ⟨m5, h1, h2, h3⟩ | ⟨t2, m4, m5, L, A, h1, h2, h3, h4, h5, h6, h7, h8, h9, h10, h11⟩ | ⟨t2, m5, q, r, h1, h2, h3, h4, h5, h6, h7⟩
      · rw [h1, h2, bs, bs]; exact ⟨_, _, _, rfl, rfl, h3⟩
      · rw [h1, h2, bs, bs, if_pos rfl, if_pos rfl, show (6 : Int32) * nI f = nI (6 * f) from pk_mul 6 f, nI_add, ck_in (vp_in_nI (by omega) (by decide)), tcl (by omega), (frL_s h10).2.2.2.2.2, h11 k f hk (by omega)]
        have hx : x8_trial (p8_trial s t2) = t2 := rfl
        rw [hx]
        have hf5 : f = 0 ∨ f = 1 ∨ f = 2 ∨ f = 3 ∨ f = 4 := by omega
        rcases hf5 with rfl | rfl | rfl | rfl | rfl
        · rw [if_pos (show nI 0 = 0 from rfl), get_l hk 0 (by decide) 0 rfl, bs, fct h4 hk (by decide)]
          exact ⟨_, _, _, rfl, rfl, h3⟩
        · rw [if_neg (show ¬ nI 1 = 0 by decide), get_l hk 2 (by decide) (nI 1 + 1) rfl, bs, fct h4 hk (by decide)]
          exact ⟨_, _, _, rfl, rfl, h3⟩
        · rw [if_neg (show ¬ nI 2 = 0 by decide), get_l hk 3 (by decide) (nI 2 + 1) rfl, bs, fct h4 hk (by decide)]
          exact ⟨_, _, _, rfl, rfl, h3⟩
        · rw [if_neg (show ¬ nI 3 = 0 by decide), get_l hk 4 (by decide) (nI 3 + 1) rfl, bs, fct h4 hk (by decide)]
          exact ⟨_, _, _, rfl, rfl, h3⟩
        · rw [if_neg (show ¬ nI 4 = 0 by decide), get_l hk 5 (by decide) (nI 4 + 1) rfl, bs, fct h4 hk (by decide)]
          exact ⟨_, _, _, rfl, rfl, h3⟩
      · rw [h1, h2, bs, bs]; exact ⟨_, _, _, rfl, rfl, h3⟩
    · rw [e1, e2]; exact ⟨_, _, _, rfl, rfl, hR⟩
  · rw [e1, e2]; exact ⟨_, _, _, rfl, rfl, hR⟩
