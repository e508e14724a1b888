/-! done -/
theorem frL_rest {m m2 : S9} (h : frL m2 = frL m) : m2.1 = m.1 ∧ x9_permits m2 = x9_permits m ∧ x9_sightOne m2 = x9_sightOne m ∧ x9_sightHeard m2 = x9_sightHeard m ∧ m2.2.2 = m.2.2 := by
  simp only [frL, Prod.mk.injEq] at h
  exact h
theorem frL_pad {m m2 : S9} (h : m2.2.2 = m.2.2) : x9_pad m2 = x9_pad m ∧ x9_padMany m2 = x9_padMany m ∧ x9_kept m2 = x9_kept m ∧ x9_isKept m2 = x9_isKept m ∧ x9_acts m2 = x9_acts m := by
  unfold x9_pad x9_padMany x9_kept x9_isKept x9_acts
  rw [h]
  exact ⟨rfl, rfl, rfl, rfl, rfl⟩
theorem RP_0 (p : S3) (m : S9) (h : ∀ j, j < 60 → x3_signs p j = x9_pad m j) : RP (p3_count p 0) (p9_padMany m 0) := ⟨rfl, ⟨0, by decide, rfl⟩, h⟩
theorem RR_wiped {s : S8} {m : S9} {j0 j1 : Option S6} (h : RR s m j0 j1) : RR (p8_pad s (p3_count (x8_pad s) 0)) (p9_padMany m 0) j0 j1 :=
  h.pad (RP_0 _ _ h.2.1.2.2) rfl rfl rfl rfl rfl rfl rfl
theorem ok_done : hF_done RR := by
  intro s m j0 j1 hR
  unfold sem_X8_done sem_X9_done
  rcases refuse hR with ⟨m5, h1, h2, h3⟩ | ⟨t2, m4, m5, L, A, h1, h2, h3, h4, h5, h6, h7, h8, h9, h10, h11⟩ | ⟨t2, m5, q, r, h1, h2, h3, h4, h5, h6, h7⟩
  · rw [h1, h2, bs, bs]; exact ⟨_, _, _, rfl, rfl, h3⟩
  · rw [h1, h2, bs, bs, if_pos rfl, if_pos rfl]
    obtain ⟨v, z1, z2⟩ := take_n (x8_town (p8_trial s t2)) (x7_town t2)
    obtain ⟨m6, k1, k2, k3⟩ := lay_leaves_n m5
    have z1' : sem_X6_takeFrom (x8_town (p8_trial s t2)) (x7_town (x8_trial (p8_trial s t2))) = some v := z1
    rw [z1', k1, bs, bs]
    obtain ⟨u1, u2, u3, u4, u5⟩ := frL_rest k2
    obtain ⟨v1, v2, v3, v4, v5⟩ := frL_rest h10
    obtain ⟨w1, w2, w3, w4, w5⟩ := frL_pad u5
    have hL : x9_leaves m5 = L := (frL_s h10).2.2.2.2.2
    have hv : ∀ i f, i < 6 → f < 5 → hV m6 f i = hV m4 f i := fun i f hi hf => by rw [k3 i f hi hf, hL, h11 i f hi hf]
    have hT : RTm v m6 := RTm.move ⟨z2 h4.1.1, h4.1.2⟩ (u1.trans v1) (u2.trans v2) (u3.trans v3) (u4.trans v4) hv
    have hRR : RR (p8_town (p8_trial s t2) v) m6 j0 j1 := h3.town hT rfl rfl rfl w1 w2 w3 w4
    refine ⟨nI A, _, _, ?_, ?_, RR_wiped hRR⟩
    · show some (x7_acts t2, _) = _
      rw [h5]
    · show some (x9_acts m6, _) = _
      rw [w5, h6]
  · rw [h1, h2, bs, bs]; exact ⟨_, _, _, rfl, rfl, h3⟩
