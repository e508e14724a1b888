/-! playing the whole pad -/
theorem RTm.move {t : S6} {m m2 : S9} (h : RTm t m) (e1 : m2.1 = m.1) (e2 : x9_permits m2 = x9_permits m) (e3 : x9_sightOne m2 = x9_sightOne m) (e4 : x9_sightHeard m2 = x9_sightHeard m) (hv : ∀ i f, i < 6 → f < 5 → hV m2 f i = hV m f i) : RTm t m2 := by
  have a1 : x9_there m2 = x9_there m := congrArg (fun z => z.1) e1
  have a2 : x9_limit m2 = x9_limit m := congrArg (fun z => z.2.1) e1
  have a3 : x9_ears m2 = x9_ears m := congrArg (fun z => z.2.2.1) e1
  have a4 : x9_sights m2 = x9_sights m := congrArg (fun z => z.2.2.2) e1
  have hF : ∀ i, i < 6 → ∀ f, f < 6 → mF m2 i f = mF m i f := by
    intro i hi f hf
    match f, hf with
    | 0, _ => exact hv i 0 hi (by decide)
    | 1, _ => show x9_permits m2 i = x9_permits m i; rw [e2]
    | 2, _ => exact hv i 1 hi (by decide)
    | 3, _ => exact hv i 2 hi (by decide)
    | 4, _ => exact hv i 3 hi (by decide)
    | 5, _ => exact hv i 4 hi (by decide)
    | f + 6, h => omega
  unfold RTm
  rw [a1, a2, a3, a4, e3, e4]
  exact ⟨h.1.congr hF (fun _ _ => rfl) (fun _ _ => rfl), h.2.congr hF (fun _ _ => rfl) (fun _ _ => rfl)⟩
def bc (m : S9) : S9 := p9_badWhy (p9_badAct (p9_paid (p9_firstHeard (p9_firstWho (p9_firstSlip (p9_slipMany m 0) (-6)) (-6)) 0) 0) (-6)) (-6)
theorem bc_TR {t : S6} {m : S9} (h : RTm t m) : RTm t (bc m) := h
theorem bc_frC (m : S9) : frC (bc m) = frC m := rfl
theorem go_bc (m : S9) : sem_X9_goHours m = (lp_X9_goHours_18 FUEL 0 (bc m)).bind fun o => some o := rfl
def tb (t : S7) (v : S6) : S7 := p7_firstHeard (p7_firstWho (p7_firstSlip (p7_paid (p7_slips (p7_reason (p7_acts (p7_town t v) 0) 0) 0) 0) (-6)) (-6)) 0
theorem st_le {M : S9} {c a : Nat} {m : S9} {st : Nat → Nat} (hR : Rd M c m a st) : ∀ q, q ≤ a → st q ≤ c := by
  obtain ⟨-, -, -, -, h5, h6⟩ := hR
  have : ∀ d, d ≤ a → st (a - d) ≤ c := by
    intro d
    induction d with
    | zero => intro _; rw [show a - 0 = a by omega, h5]; exact Nat.le_refl _
    | succ d ih =>
      intro hd
      have h1 := ih (by omega)
      have h2 := h6 (a - (d + 1)) (by omega)
      rw [show a - (d + 1) + 1 = a - d by omega] at h2
      have h3 : st (a - (d + 1)) < st (a - d) := by unfold Row at h2; omega
      omega
  intro q hq
  have := this (a - q) (by omega)
  rw [show a - (a - q) = q by omega] at this
  exact this
theorem bc_row (m : S9) (q : Nat) : rowEq m (bc m) q := ⟨rfl, rfl, rfl, rfl⟩
theorem had_row (m : S9) (v : Nat → Int32) (q : Nat) : rowEq m (p9_had m v) q := ⟨rfl, rfl, rfl, rfl⟩
theorem had_TR {t : S6} {m : S9} (h : RTm t m) (v : Nat → Int32) : RTm t (p9_had m v) := h
theorem bc_pad (m : S9) : x9_pad (bc m) = x9_pad m := rfl
theorem had_pad (m : S9) (v : Nat → Int32) : x9_pad (p9_had m v) = x9_pad m := rfl
theorem bc_acts (m : S9) : x9_acts (bc m) = x9_acts m := rfl
theorem had_acts (m : S9) (v : Nat → Int32) : x9_acts (p9_had m v) = x9_acts m := rfl
theorem tb_town (t : S7) (v : S6) : x7_town (tb t v) = v := rfl
theorem tb_TS (t : S7) (v : S6) (m : S9) : TS (tb t v) (bc m) := ⟨rfl, rfl, rfl, rfl⟩
theorem tb_St {t : S7} {v : S6} {m : S9} (h : RTm v m) : St (tb t v) (bc m) (bc m) 0 := ⟨⟨bc_TR h, tb_TS t v m⟩, rfl, rfl, rfl, rfl⟩
theorem back {m2 m4 m5 : S9} {H L : Nat → Int32} (h4 : frC m4 = frC (bc (p9_had m2 H))) (h5 : frL m5 = frL (p9_leaves m4 L)) : (m5.1 = m2.1 ∧ x9_permits m5 = x9_permits m2 ∧ x9_sightOne m5 = x9_sightOne m2 ∧ x9_sightHeard m5 = x9_sightHeard m2) ∧ (x9_pad m5 = x9_pad m2 ∧ x9_padMany m5 = x9_padMany m2 ∧ x9_kept m5 = x9_kept m2 ∧ x9_isKept m5 = x9_isKept m2) ∧ x9_had (p9_leaves m4 L) = H ∧ x9_badAct m5 = x9_badAct m4 ∧ x9_badWhy m5 = x9_badWhy m4 ∧ x9_acts m5 = x9_acts m2 := by
  simp only [frC, frL, Prod.mk.injEq] at h4 h5
  obtain ⟨a1, a2, a3, a4, a5, a6, a7, a8, a9⟩ := h4
  obtain ⟨b1, b2, b3, b4, b5⟩ := h5
  refine ⟨⟨b1.trans a1, b2.trans a2, b3.trans a3, b4.trans a4⟩, ⟨?_, ?_, ?_, ?_⟩, a7, ?_, ?_, ?_⟩
  · exact (congrArg (fun z => z.1.1) b5).trans (congrArg (fun z => z.1) a5)
  · exact (congrArg (fun z => z.1.2) b5).trans (congrArg (fun z => z.2) a5)
  · exact (congrArg (fun z => z.2.2.2.2.2.2.2.1) b5).trans (congrArg (fun z => z.2.2.2.1) a9)
  · exact (congrArg (fun z => z.2.2.2.2.2.2.2.2.1) b5).trans (congrArg (fun z => z.2.2.2.2.1) a9)
  · exact congrArg (fun z => z.2.2.2.1.2.2.1) b5
  · exact congrArg (fun z => z.2.2.2.1.2.2.2) b5
  · exact (congrArg (fun z => z.2.1.2.2.2.2) b5).trans (congrArg (fun z => z.2.2.2.2) a6)
theorem refuse {s : S8} {m : S9} {j0 j1 : Option S6} (hR : RR s m j0 j1) :
    (∃ m5, sem_X8_playPad s = some (-5, s) ∧ sem_X9_refusal m = some (-5, m5) ∧ RR s m5 j0 j1) ∨
    (∃ t2 m4 m5 L A, sem_X8_playPad s = some (0, p8_trial s t2) ∧ sem_X9_refusal m = some (-6, m5) ∧ RR (p8_trial s t2) m5 j0 j1 ∧ TR t2 m4 ∧ x7_acts t2 = nI A ∧ x9_acts m5 = nI A ∧ x7_firstSlip t2 = x9_firstSlip m4 ∧ x9_badAct m5 = -6 ∧ x9_badWhy m5 = -6 ∧ frL m5 = frL (p9_leaves m4 L) ∧ ∀ i f, i < 6 → f < 5 → L (6 * f + i) = hV m4 f i) ∨
    (∃ t2 m5 q r, sem_X8_playPad s = some (-3, p8_trial s t2) ∧ sem_X9_refusal m = some (-3, m5) ∧ RR (p8_trial s t2) m5 j0 j1 ∧ x7_acts t2 = nI q ∧ x7_reason t2 = nI r ∧ x9_badAct m5 = nI q ∧ x9_badWhy m5 = nI r) := by
  obtain ⟨c, hc, hp, hpm, ⟨q, m2, hq, e1, e2, e3⟩ | ⟨m2, e1, e2, a, st, hRd, -⟩⟩ := fault_n hR.2.1
  · refine Or.inl ⟨m2, ?_, ?_, hR.core e3⟩
    · unfold sem_X8_playPad
      rw [e1, bs, if_neg (nI_n6 (by omega))]
    · unfold sem_X9_refusal
      rw [e2, bs, if_neg (no0 (by omega))]
  · have hR2 : RR s m2 j0 j1 := hR.core hRd.1
    obtain ⟨H, w1, w2⟩ := store_had_n m2
    obtain ⟨v, z1, z2⟩ := take_n (x7_town (x8_trial s)) (x8_town s)
    have epd : x9_pad (bc (p9_had m2 H)) = x9_pad m2 := (bc_pad _).trans (had_pad _ _)
    have hsg : ∀ j, j < 60 → x3_signs (x8_pad s) j = x9_pad (bc (p9_had m2 H)) j := fun j hj => by rw [epd]; exact hR2.2.1.2.2 j hj
    have hTv : RTm v (p9_had m2 H) := had_TR ⟨z2 hR2.1.1, hR2.1.2⟩ H
    have hSt := tb_St (t := x8_trial s) hTv
    have hrows : ∀ q, q < a → Row (x9_pad (bc (p9_had m2 H))) (bc (p9_had m2 H)) q (st q) (st (q + 1)) := fun q hq => by
      rw [epd, (core_pad hRd.1).1]
      exact ((hRd.2.2.2.2.2 q hq).eq (had_row m2 H q)).eq (bc_row _ q)
    have hac : a ≤ 60 := Nat.le_trans hRd.2.2.1 hc
    have eb : sem_X7_begin (x8_trial s) (x8_town s) = some (tb (x8_trial s) v) := by
      unfold sem_X7_begin
      rw [z1, bs]
      rfl
    have ha2 : x9_acts (bc (p9_had m2 H)) = nI a := (bc_acts _).trans ((had_acts _ _).trans hRd.2.1)
    have e0 : st 0 = 0 := hRd.2.2.2.1
    have key := play_lp s rfl hc hp hsg hac ha2 hRd.2.2.2.2.1 hrows (st_le hRd) FUEL 0 (Nat.zero_le _) (by rw [fuel_s]; omega) _ _ hSt
    rw [e0] at key
    rcases key with ⟨t2, m4, y1, y2, ⟨y3, y4, y5, y6, y7⟩, y8, y9⟩ | ⟨t2, m4, q2, r, y0, y1, y2, y3, y4, y5, y6, y7, y8, y9⟩
    · obtain ⟨L, l1, l2⟩ := store_leaves_n m4
      obtain ⟨m5, k1, k2, k3⟩ := lay_had_n (p9_leaves m4 L)
      obtain ⟨⟨u1, u2, u3, u4⟩, ⟨u5, u6, u7, u8⟩, u9, n1, n2, n3⟩ := back y7 k2
      have hv : ∀ i f, i < 6 → f < 5 → hV m5 f i = hV m2 f i := fun i f hi hf => by rw [k3 i f hi hf, u9, w2 i f hi hf]
      have hRR : RR (p8_trial s t2) m5 j0 j1 := hR2.town (RTm.move hR2.1 u1 u2 u3 u4 hv) rfl rfl rfl u5 u6 u7 u8
      have hbw : x9_badWhy m4 = -6 := by
        by_cases z : 0 < a
        · exact y8 z
        · rw [y9 (by omega)]; rfl
      refine Or.inr (Or.inl ⟨t2, m4, m5, L, a, ?_, ?_, hRR, y3, y4, n3.trans hRd.2.1, y5, n1.trans y6, n2.trans hbw, k2, l2⟩)
      · unfold sem_X8_playPad
        rw [e1, bs, if_pos rfl, eb, bs]
        show (lp_X8_playPad_28 FUEL (nI 0) (p8_trial s (tb (x8_trial s) v))).bind _ = _
        rw [y1]; rfl
      · unfold sem_X9_refusal
        rw [e2, bs, if_pos (show (-6 : Int32) < 0 by decide), w1, bs, go_bc, show lp_X9_goHours_18 FUEL 0 (bc (p9_had m2 H)) = lp_X9_goHours_18 FUEL (nI 0) (bc (p9_had m2 H)) from rfl, y2, bs, bs, l1, bs, k1, bs, if_pos (by rw [n1, y6]; decide)]
    · obtain ⟨L, l1, l2⟩ := store_leaves_n m4
      obtain ⟨m5, k1, k2, k3⟩ := lay_had_n (p9_leaves m4 L)
      obtain ⟨⟨u1, u2, u3, u4⟩, ⟨u5, u6, u7, u8⟩, u9, n1, n2, n3⟩ := back y9 k2
      have hv : ∀ i f, i < 6 → f < 5 → hV m5 f i = hV m2 f i := fun i f hi hf => by rw [k3 i f hi hf, u9, w2 i f hi hf]
      have hRR : RR (p8_trial s t2) m5 j0 j1 := hR2.town (RTm.move hR2.1 u1 u2 u3 u4 hv) rfl rfl rfl u5 u6 u7 u8
      refine Or.inr (Or.inr ⟨t2, m5, q2, r, ?_, ?_, hRR, y5, y6, n1.trans y7, n2.trans y8⟩)
      · unfold sem_X8_playPad
        rw [e1, bs, if_pos rfl, eb, bs]
        show (lp_X8_playPad_28 FUEL (nI 0) (p8_trial s (tb (x8_trial s) v))).bind _ = _
        rw [y3]; rfl
      · unfold sem_X9_refusal
        rw [e2, bs, if_pos (show (-6 : Int32) < 0 by decide), w1, bs, go_bc, show lp_X9_goHours_18 FUEL 0 (bc (p9_had m2 H)) = lp_X9_goHours_18 FUEL (nI 0) (bc (p9_had m2 H)) from rfl, y4, bs, bs, l1, bs, k1, bs, if_neg (by rw [n1, y7]; exact no0 (by omega))]
