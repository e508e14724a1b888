/-! the simple calls -/
theorem jrem_n {a d : Nat} (ha : a < 2 ^ 31) (h0 : 0 < d) (hd : d < 2 ^ 31) : jrem (nI a) (nI d) = nI (a % d) := pk_rem ha h0 hd
theorem ok_wipe : hF_wipe RR := by
  intro s m j0 j1 hR
  refine ⟨_, _, _, rfl, by rw [sem_X9_wipe, hR.2.1.1], ?_⟩
  exact hR.pad ⟨rfl, ⟨0, by decide, rfl⟩, hR.2.1.2.2⟩ rfl rfl rfl rfl rfl rfl rfl
theorem ok_forget : hF_forget RR := by
  intro s m j0 j1 hR
  have hT := hR.1
  refine ⟨_, _, _, rfl, by rw [sem_X9_forget, hT.1.2.2.2.1], ?_⟩
  refine hR.town ⟨?_, ?_⟩ rfl rfl rfl rfl rfl rfl rfl
  · obtain ⟨a1, a2, a3, a4, a5, a6, a7⟩ := hT.1
    exact ⟨a1, a2, a3, rfl, a5, a6, a7⟩
  · obtain ⟨T', l', e, c, b1, b2, b3, b4, b5, b6, b7, b8, b9, c0, c1, c2, c3, c4, c5, d1, d2⟩ := hT.2
    exact ⟨T', l', e, 0, b1, b2, b3, b4, b5, b6, b7, by decide, rfl, c0, c1, c2, c3, c4, c5, d1, d2⟩
theorem ok_quarrel : hF_quarrel RR := by
  intro x1 x2 x3 s m j0 j1 hR
  unfold sem_X8_quarrel sem_X9_quarrel
  rcases gd x1 0 99 (by decide) (by decide) (a := 0) (b := 99) (A := 0) (B := 99) rfl rfl rfl rfl with ⟨a, -, ha, rfl, e1, e2⟩ | ⟨e1, e2, -⟩
  · rw [e1, e2, bs, bs, if_neg one_ne, if_neg one_ne]
    rcases gd x2 1 9 (by decide) (by decide) (a := 1) (b := 9) (A := 1) (B := 9) rfl rfl rfl rfl with ⟨b, hb0, hb, rfl, e1, e2⟩ | ⟨e1, e2, -⟩
    · rw [e1, e2, bs, bs, if_neg one_ne, if_neg one_ne]
      rcases gd x3 0 1 (by decide) (by decide) (a := 0) (b := 1) (A := 0) (B := 1) rfl rfl rfl rfl with ⟨c, -, hc, rfl, e1, e2⟩ | ⟨e1, e2, -⟩
      · rw [e1, e2, bs, bs, if_neg one_ne, if_neg one_ne, nI_1]
        rw [jrem_n (by omega) (by omega) (by omega)]
        have hz : ¬ nI (b + 1) = 0 := nI_ne0 (by omega) (by omega)
        unfold dz
        rw [if_neg hz, if_neg hz]
        have hm : a % (b + 1) < 100 := by
          have := Nat.mod_lt a (show b + 1 > 0 by omega)
          omega
        have h1 : (nI (a % (b + 1)) = 0) ↔ a % (b + 1) = 0 := nI_eq (a := a % (b + 1)) (b := 0) (by omega) (by decide)
        have h2 : (nI (a % (b + 1)) ≤ 0) ↔ a % (b + 1) ≤ 0 := nI_leI (a := a % (b + 1)) (b := 0) (by omega) (by decide)
        have h3 : (nI (a % (b + 1)) ≤ 0) ↔ (nI (a % (b + 1)) = 0) := by rw [h1, h2]; omega
        simp only [h3]
        by_cases q : nI c = 0
        · rw [if_pos q]
          by_cases q2 : nI (a % (b + 1)) = 0
          · rw [if_pos q2]; exact ⟨_, rfl, rfl, hR⟩
          · rw [if_neg q2]; exact ⟨_, rfl, rfl, hR⟩
        · rw [if_neg q]
          by_cases q2 : nI (a % (b + 1)) = 0
          · rw [if_pos q2]; exact ⟨_, rfl, rfl, hR⟩
          · rw [if_neg q2]; exact ⟨_, rfl, rfl, hR⟩
      · rw [e1, e2]; exact ⟨_, rfl, rfl, hR⟩
    · rw [e1, e2]; exact ⟨_, rfl, rfl, hR⟩
  · rw [e1, e2]; exact ⟨_, rfl, rfl, hR⟩
theorem ok_say : hF_say RR := by
  intro x1 s m j0 j1 hR
  unfold sem_X8_say sem_X9_say
  rcases gd x1 33 126 (by decide) (by decide) (a := 33) (b := 126) (A := 33) (B := 126) rfl rfl rfl rfl with ⟨a, ha0, ha, rfl, e1, e2⟩ | ⟨e1, e2, -⟩
  · rw [e1, e2, bs, bs, if_neg one_ne, if_neg one_ne]
    obtain ⟨p1, ⟨c, hc, p2⟩, p3⟩ := hR.2.1
    rw [p1, p2]
    have h60 : (nI c = 60) ↔ c = 60 := nI_eq (a := c) (b := 60) (by omega) (by decide)
    have hl60 : (nI c < 60) ↔ c < 60 := nI_ltI (a := c) (b := 60) (by omega) (by decide)
    by_cases q : c = 60
    · rw [if_neg (fun z => by have := hl60.mp z; omega), if_pos (h60.mpr q)]
      exact ⟨_, _, _, rfl, rfl, hR⟩
    · rw [if_pos (hl60.mpr (by omega)), if_neg (fun z => q (h60.mp z))]
      have hin : vp_in (nI c) 60 := vp_in_nI (by omega) (by decide)
      have ew : sem_X8_within (nI c) 0 59 = some 1 := by
        rw [within_eq, if_pos]
        exact ⟨(nI_leI (a := 0) (b := c) (by decide) (by omega)).mpr (by omega), (nI_leI (a := c) (b := 59) (by omega) (by decide)).mpr (by omega)⟩
      have ea : sem_X3_add (nI a) (x8_pad s) = some (p3_count (p3_signs (x8_pad s) (upd (x3_signs (x8_pad s)) c (nI a))) (nI (c + 1))) := by
        unfold sem_X3_add
        have e5 : ∀ V, x3_count (p3_signs (x8_pad s) V) = nI c := fun V => p1.trans p2
        rw [p1, p2, ew, bs, if_neg one_ne, ck_in hin, tcl (by omega), e5, nI_1]
      have e6 : ∀ V, x9_padMany (p9_pad m V) = nI c := fun V => p2
      rw [ea, bs, ck_in hin, tcl (by omega), e6, nI_1]
      refine ⟨_, _, _, rfl, rfl, ?_⟩
      refine hR.pad ⟨rfl, ⟨c + 1, by omega, rfl⟩, fun j hj => ?_⟩ rfl rfl rfl rfl rfl rfl rfl
      show upd (x3_signs (x8_pad s)) c (nI a) j = upd (x9_pad m) c (nI a) j
      unfold upd
      rw [p3 j hj]
  · rw [e1, e2]; exact ⟨_, _, _, rfl, rfl, hR⟩
theorem ok_permit : hF_permit RR := by
  intro x1 x2 s m j0 j1 hR
  unfold sem_X8_permit sem_X9_permit
  obtain ⟨T, l, e, c, b1, b2, b3, b4, b5, b6, b7, b8, b9, c0, c1, c2, c3, c4, c5, d1, d2⟩ := hR.1.2
  rcases gone x1 b1 (hR.1.1.1.trans b2) b2 with ⟨k, hk, rfl, hbit, e1, e2⟩ | ⟨e1, e2⟩
  · rw [e1, e2, bs, bs, if_neg one_ne, if_neg one_ne]
    rcases gd x2 0 15 (by decide) (by decide) (a := 0) (b := 15) (A := 0) (B := 15) rfl rfl rfl rfl with ⟨w, -, hw, rfl, e1, e2⟩ | ⟨e1, e2, -⟩
    · rw [e1, e2, bs, bs, if_neg one_ne, if_neg one_ne]
      rw [get_l hk 1 (by decide) 1 rfl, bs, put_l hk 1 (by decide) 1 _ rfl, bs, ck_in (vp_in_nI (by omega) (by decide)), tcl (by omega)]
      have h5 := hR.1.1.2.2.2.2.1 k hk 1 (by decide)
      refine ⟨_, _, _, rfl, by rw [h5]; rfl, ?_⟩
      refine hR.town ⟨?_, ?_⟩ rfl rfl rfl rfl rfl rfl rfl
      · rw [mF_s1]; exact hR.1.1.put hk (by decide) _
      · rw [mF_s1]; exact hR.1.2.put1 hw
    · rw [e1, e2]; exact ⟨_, _, _, rfl, rfl, hR⟩
  · rw [e1, e2]; exact ⟨_, _, _, rfl, rfl, hR⟩
