/-! done -/
theorem ok_done : hF_done RR := by
  intro s m j0 j1 hR
  unfold sem_X8_done sem_X9_done
  rcases refuse hR with ⟨m5, h1, h2, h3⟩ | ⟨t2, m4, m5, L, A, h1, h2, h3, h4, h5, h6, h7, h8, h9, h10, h11⟩ | ⟨t2, m5, q, r, h1, h2, h3, h4, h5, h6, h7⟩
  · rw [h1, h2, bs, bs]; exact ⟨_, _, _, rfl, rfl, h3⟩
  · rw [h1, h2, bs, bs, if_pos rfl, if_pos rfl]
    obtain ⟨v, z1, z2⟩ := take_n (x8_town (p8_trial s t2)) (x7_town t2)
    obtain ⟨m6, k1, k2, k3⟩ := lay_leaves_n m5
    have z1' : sem_X6_takeFrom (x8_town (p8_trial s t2)) (x7_town (x8_trial (p8_trial s t2))) = some v := z1
    rw [z1', k1, bs, bs]
    sorry
  · rw [h1, h2, bs, bs]; exact ⟨_, _, _, rfl, rfl, h3⟩
