/-! deal: the tables of both sides, row by row -/
/-- the class's number f and the reference's g of the ones from k on with st stamps -/
def Rl (T k st f g : Nat) : Prop := (f = g ∧ f ≤ 6 * (6 - k)) ∨ (f = 1000 ∧ g = 100000 ∧ st ≠ 0 ∧ ∀ i, k ≤ i → i < 6 → ¬ T.testBit i = true)
theorem Rl_f {T k st f g : Nat} (h : Rl T k st f g) : f ≤ 1000 ∧ g ≤ 100000 := by
  rcases h with ⟨h1, h2⟩ | ⟨h1, h2, -⟩ <;> omega
theorem Rl_skip {T k st f g : Nat} (hk : k < 6) (hb : ¬ T.testBit k = true) (h : Rl T (k + 1) st f g) : Rl T k st f g := by
  rcases h with ⟨h1, h2⟩ | ⟨h1, h2, h3, h4⟩
  · exact Or.inl ⟨h1, by omega⟩
  · refine Or.inr ⟨h1, h2, h3, fun i p1 p2 => ?_⟩
    by_cases q : i = k
    · rw [q]; exact hb
    · exact h4 i (by omega) p2
theorem Rl_iff {T k st f g p a f2 g2 : Nat} (ha : a ≤ 6) (h : Rl T k st f g) (hfin : f ≤ 36) (h2 : Rl T (k + 1) (st - p) f2 g2) : (a + f2 = f) ↔ (a + g2 = g) := by
  rcases h with ⟨h1, h3⟩ | ⟨h1, -⟩
  · rcases h2 with ⟨y1, y2⟩ | ⟨y1, y2, -⟩
    · omega
    · omega
  · omega
theorem Rl_fin {T k st f g i : Nat} (h : Rl T k st f g) (hk : k ≤ i) (hi : i < 6) (hb : T.testBit i = true) : f ≤ 36 := by
  rcases h with ⟨h1, h3⟩ | ⟨h1, -, -, h4⟩
  · omega
  · exact absurd hb (h4 i hk hi)
theorem Rl_step {T k st f g : Nat} {A F G : Nat → Nat} (hk : k < 6) (hA : ∀ p, p ≤ st → A p ≤ 6) (hR : ∀ p, p ≤ st → Rl T (k + 1) p (F p) (G p)) (hf2 : ∀ p, p ≤ st → f ≤ A p + F (st - p)) (hf3 : f = 1000 ∨ ∃ p, p ≤ st ∧ f = A p + F (st - p)) (hg2 : ∀ p, p ≤ st → g ≤ A p + G (st - p)) (hg3 : g = 100000 ∨ ∃ p, p ≤ st ∧ g = A p + G (st - p)) : Rl T k st f g := by
  have h0 : ∃ p, p ≤ st ∧ F (st - p) = G (st - p) ∧ F (st - p) ≤ 6 * (6 - (k + 1)) := by
    refine ⟨st, Nat.le_refl _, ?_⟩
    rcases hR (st - st) (by omega) with h | ⟨-, -, h, -⟩
    · exact h
    · omega
  obtain ⟨p0, q1, q2, q3⟩ := h0
  have a0 := hA p0 q1
  have b0 := hf2 p0 q1
  have c0 := hg2 p0 q1
  have hfg : f ≤ g := by
    rcases hg3 with h | ⟨p, p1, p2⟩
    · omega
    · rcases hR (st - p) (by omega) with ⟨y1, y2⟩ | ⟨y1, y2, -⟩
      · have := hf2 p p1; omega
      · omega
  have hgf : g ≤ f := by
    rcases hf3 with h | ⟨p, p1, p2⟩
    · omega
    · rcases hR (st - p) (by omega) with ⟨y1, y2⟩ | ⟨y1, y2, -⟩
      · have := hg2 p p1; omega
      · omega
  exact Or.inl ⟨by omega, by omega⟩
theorem ff_n (s : S1) {k st : Nat} (hk : k ≤ 6) (hs : st ≤ 20) : sem_X1_fewestFrom (nI k) (nI st) s = some (x1_fewest s (k * 21 + st)) := by
  unfold sem_X1_fewestFrom jn_X1_fewestFrom_25
  rw [wn (A := 0) (B := 6) k 0 6 (Nat.zero_le _) hk (by decide) rfl rfl, bs, if_neg one_ne, wn (A := 0) (B := 20) st 0 20 (Nat.zero_le _) hs (by decide) rfl rfl, bs, if_neg one_ne, if_neg one_ne, show nI k * 21 = nI (k * 21) from pk_mul k 21, nI_add, ck_in (vp_in_nI (by omega) (by decide)), tcl (by omega)]
theorem mf_n {s : S1} {T k : Nat} (hT : T < 64) (hs : x1_there s = nI T) (hk : k < 6) (x : Int32) : sem_X1_mostFor (nI k) x s = some (if T.testBit k = true then x else 0) := by
  unfold sem_X1_mostFor
  rw [hs]
  have h := bit_n T hT k hk
  by_cases c : T.testBit k = true
  · rw [if_pos (h.mpr c), if_pos c]
  · rw [if_neg (fun z => c (h.mp z)), if_neg c]
theorem wp_n {s : S1} {T k st p : Nat} (hT : T < 64) (hs : x1_there s = nI T) (hk : k < 6) (hst : st ≤ 20) (hp : p ≤ st) : sem_X1_withPart (nI k) (nI st) (nI p) s = some ((if T.testBit k = true then x1_alone s (k * 21 + p) else 0) + x1_fewest s ((k + 1) * 21 + (st - p))) := by
  unfold sem_X1_withPart jn_X1_withPart_17 jn_X1_withPart_43 jn_X1_withPart_69 jn_X1_withPart_70
  have e1 : sem_X8_within (nI k) 0 5 = some 1 := wn (A := 0) (B := 5) k 0 5 (Nat.zero_le _) (by omega) (by decide) rfl rfl
  have e2 : sem_X8_within (nI p) 0 20 = some 1 := wn (A := 0) (B := 20) p 0 20 (Nat.zero_le _) (by omega) (by decide) rfl rfl
  rw [hs, e1, bs, bs, if_neg one_ne, if_neg one_ne, e2, bs, bs, if_neg one_ne, if_neg one_ne, if_neg one_ne, if_neg one_ne, nI_1, pk_sub hp, ff_n s (by omega) (by omega), bs, bs, show nI k * 21 = nI (k * 21) from pk_mul k 21, nI_add, ck_in (vp_in_nI (by omega) (by decide)), tcl (by omega), if_pos rfl]
  have h := bit_n T hT k hk
  by_cases c : T.testBit k = true
  · rw [if_pos (h.mpr c), if_pos c]
  · rw [if_neg (fun z => c (h.mp z)), if_neg c]
theorem sb_n {m : S9} {k st p v : Nat} (hk : k < 6) (hst : st ≤ 20) (hp : p ≤ st) (hv : v ≤ 20) (ht : x9_temper m k = nI v) {c : Nat} (hc : x9_costs m (21 * v + p) = nI c) (hc2 : c < 2 ^ 31) : sem_X9_slipsBy (nI k) (nI st) (nI p) m = some (nI (c / 100) + x9_slipsFrom m (21 * (k + 1) + (st - p))) := by
  unfold sem_X9_slipsBy
  have e : sem_X9_at 0 (nI v) (nI p) = some (nI (21 * v + p)) := by
    have h := at_ix 0 v p
    rw [show 441 * 0 + 21 * v + p = 21 * v + p by omega] at h
    exact h
  rw [ck_in (vp_in_nI (by omega) (by decide)), tcl (by omega), ht, e, bs, ck_in (vp_in_nI (by omega) (by decide)), tcl (by omega), hc, nI_1, show (21 : Int32) * nI (k + 1) = nI (21 * (k + 1)) from pk_mul 21 (k + 1), nI_add, pk_sub (by omega), show 21 * (k + 1) + st - p = 21 * (k + 1) + (st - p) by omega, ck_in (vp_in_nI (by omega) (by decide)), tcl (by omega), show nI c / 100 = nI (c / 100) from div_n hc2 (by decide) (by decide)]
theorem lo_lp {s : S1} {T k st most : Nat} (hT : T < 64) (hs : x1_there s = nI T) (hk : k < 6) (hst : st ≤ 20) (hm : most = if T.testBit k = true then st else 0) {V : Nat → Nat} (hV : ∀ p, p ≤ most → sem_X1_withPart (nI k) (nI st) (nI p) s = some (nI (V p)) ∧ V p ≤ 2000) : ∀ n y best, y ≤ most + 1 → most + 2 ≤ n + y → best ≤ 1000 → ∃ r, lp_X1_leastOver_7 (nI k) (nI st) s n (nI best) (nI y) = some (nI r) ∧ r ≤ best ∧ (∀ i, y ≤ i → i ≤ most → r ≤ V i) ∧ (r = best ∨ ∃ i, y ≤ i ∧ i ≤ most ∧ r = V i) := by
  have hm20 : most ≤ 20 := by rw [hm]; split <;> omega
  have em : sem_X1_mostFor (nI k) (nI st) s = some (nI most) := by
    rw [mf_n hT hs hk, hm]
    by_cases c : T.testBit k = true
    · rw [if_pos c, if_pos c]
    · rw [if_neg c, if_neg c]; rfl
  intro n
  induction n with
  | zero => intro y best h1 h2; omega
  | succ n ih =>
    intro y best h1 h2 h3
    show ∃ r, bd_X1_leastOver_7 (nI k) (nI st) s (lp_X1_leastOver_7 (nI k) (nI st) s n) (nI best) (nI y) = _ ∧ _
    unfold bd_X1_leastOver_7
    rw [em, bs]
    by_cases q : y = most + 1
    · subst q
      rw [if_pos (nI_lt (Nat.lt_succ_self _) (by omega))]
      exact ⟨best, rfl, Nat.le_refl _, fun i p1 p2 => by omega, Or.inl rfl⟩
    · obtain ⟨t1, t2⟩ := hV y (by omega)
      rw [if_neg (nI_nlt (by omega) (by omega)), t1, bs, jmin_n (by omega) (by omega), nI_1]
      obtain ⟨r, r1, r2, r3, r4⟩ := ih (y + 1) (min best (V y)) (by omega) (by omega) (by omega)
      refine ⟨r, r1, by omega, fun i p1 p2 => ?_, ?_⟩
      · by_cases z : i = y
        · subst z; omega
        · exact r3 i (by omega) p2
      · rcases r4 with r4 | ⟨i, p1, p2, p3⟩
        · by_cases z : best ≤ V y
          · exact Or.inl (by omega)
          · exact Or.inr ⟨y, Nat.le_refl _, by omega, by omega⟩
        · exact Or.inr ⟨i, by omega, p2, p3⟩
theorem fs_lp {m : S9} {k st : Nat} (hst : st ≤ 20) {V : Nat → Nat} (hV : ∀ p, p ≤ st → sem_X9_slipsBy (nI k) (nI st) (nI p) m = some (nI (V p)) ∧ V p ≤ 200000) : ∀ n y best, y ≤ st + 1 → st + 2 ≤ n + y → best ≤ 100000 → ∃ r, lp_X9_fewestSlips_28 (nI k) (nI st) m n (nI best) (nI y) = some (nI r) ∧ r ≤ best ∧ (∀ i, y ≤ i → i ≤ st → r ≤ V i) ∧ (r = best ∨ ∃ i, y ≤ i ∧ i ≤ st ∧ r = V i) := by
  intro n
  induction n with
  | zero => intro y best h1 h2; omega
  | succ n ih =>
    intro y best h1 h2 h3
    show ∃ r, bd_X9_fewestSlips_28 (nI k) (nI st) m (lp_X9_fewestSlips_28 (nI k) (nI st) m n) (nI best) (nI y) = _ ∧ _
    unfold bd_X9_fewestSlips_28
    by_cases q : y = st + 1
    · subst q
      rw [if_pos (nI_lt (Nat.lt_succ_self _) (by omega))]
      exact ⟨best, rfl, Nat.le_refl _, fun i p1 p2 => by omega, Or.inl rfl⟩
    · obtain ⟨t1, t2⟩ := hV y (by omega)
      rw [if_neg (nI_nlt (by omega) (by omega)), t1, bs, nI_1]
      have e : (if nI best ≤ nI (V y) then lp_X9_fewestSlips_28 (nI k) (nI st) m n (nI best) (nI (y + 1)) else lp_X9_fewestSlips_28 (nI k) (nI st) m n (nI (V y)) (nI (y + 1))) = lp_X9_fewestSlips_28 (nI k) (nI st) m n (nI (min best (V y))) (nI (y + 1)) := by
        by_cases z : best ≤ V y
        · rw [if_pos (nI_le z (by omega)), Nat.min_eq_left z]
        · rw [if_neg (nI_ge (by omega) (by omega)), Nat.min_eq_right (by omega)]
      rw [e]
      obtain ⟨r, r1, r2, r3, r4⟩ := ih (y + 1) (min best (V y)) (by omega) (by omega) (by omega)
      refine ⟨r, r1, by omega, fun i p1 p2 => ?_, ?_⟩
      · by_cases z : i = y
        · subst z; omega
        · exact r3 i (by omega) p2
      · rcases r4 with r4 | ⟨i, p1, p2, p3⟩
        · by_cases z : best ≤ V y
          · exact Or.inl (by omega)
          · exact Or.inr ⟨y, Nat.le_refl _, by omega, by omega⟩
        · exact Or.inr ⟨i, by omega, p2, p3⟩
/-- the row k of both sides stands -/
def RW (T : Nat) (s : S1) (m : S9) (k : Nat) : Prop := ∀ st, st ≤ 20 → ∃ f g, x1_fewest s (k * 21 + st) = nI f ∧ x9_slipsFrom m (21 * k + st) = nI g ∧ Rl T k st f g
/-- of the reference: what each one who is there does alone -/
def AW9 (T : Nat) (m : S9) (A : Nat → Nat → Nat) : Prop := x9_there m = nI T ∧ ∀ k, k < 6 → T.testBit k = true → ∃ v, v ≤ 20 ∧ x9_temper m k = nI v ∧ ∀ p, p ≤ 20 → A k p ≤ 6 ∧ ∃ c, c < 2 ^ 31 ∧ x9_costs m (21 * v + p) = nI c ∧ c / 100 = A k p
theorem RW_fun {T : Nat} {s : S1} {m : S9} {k : Nat} (h : RW T s m k) : ∃ F G : Nat → Nat, ∀ st, st ≤ 20 → x1_fewest s (k * 21 + st) = nI (F st) ∧ x9_slipsFrom m (21 * k + st) = nI (G st) ∧ Rl T k st (F st) (G st) := by
  have hx : ∀ st, ∃ f g, st ≤ 20 → x1_fewest s (k * 21 + st) = nI f ∧ x9_slipsFrom m (21 * k + st) = nI g ∧ Rl T k st f g := fun st => by
    by_cases q : st ≤ 20
    · obtain ⟨f, g, h1⟩ := h st q
      exact ⟨f, g, fun _ => h1⟩
    · exact ⟨0, 0, fun z => absurd z q⟩
  exact ⟨fun st => Classical.choose (hx st), fun st => Classical.choose (Classical.choose_spec (hx st)), fun st => Classical.choose_spec (Classical.choose_spec (hx st))⟩
theorem cell_n {T : Nat} (hT : T < 64) {s : S1} {m : S9} {A : Nat → Nat → Nat} {k st : Nat} (hk : k < 6) (hst : st ≤ 20) (hs : x1_there s = nI T) (hA9 : AW9 T m A) (hal : T.testBit k = true → ∀ p, p ≤ 20 → x1_alone s (k * 21 + p) = nI (A k p)) (hR : RW T s m (k + 1)) :
    ∃ f g, sem_X1_leastOver (nI k) (nI st) s = some (nI f) ∧ sem_X9_fewestSlips (nI k) (nI st) m = some (nI g) ∧ Rl T k st f g := by
  obtain ⟨F, G, hFG⟩ := RW_fun hR
  unfold sem_X1_leastOver sem_X9_fewestSlips
  rw [isOne_n hT hA9.1 hk, bs]
  by_cases q : T.testBit k = true
  · obtain ⟨v, v1, v2, v3⟩ := hA9.2 k hk q
    have hm : st = if T.testBit k = true then st else 0 := by rw [if_pos q]
    obtain ⟨f, a1, a2, a3, a4⟩ := lo_lp hT hs hk hst hm (V := fun p => A k p + F (st - p)) (fun p hp => ⟨by
      rw [wp_n hT hs hk hst hp, if_pos q, hal q p (by omega), (hFG (st - p) (by omega)).1, nI_add], by
      have := (v3 p (by omega)).1
      have := (Rl_f (hFG (st - p) (by omega)).2.2).1
      show A k p + F (st - p) ≤ 2000
      omega⟩) FUEL 0 1000 (Nat.zero_le _) (by rw [fuel_s]; omega) (Nat.le_refl _)
    obtain ⟨g, b1, b2, b3, b4⟩ := fs_lp (m := m) (k := k) hst (V := fun p => A k p + G (st - p)) (fun p hp => ⟨by
      obtain ⟨y1, c, y2, y3, y4⟩ := v3 p (by omega)
      rw [sb_n hk hst hp v1 v2 y3 y2, y4, (hFG (st - p) (by omega)).2.1, nI_add], by
      have := (v3 p (by omega)).1
      have := (Rl_f (hFG (st - p) (by omega)).2.2).2
      show A k p + G (st - p) ≤ 200000
      omega⟩) FUEL 0 100000 (Nat.zero_le _) (by rw [fuel_s]; omega) (Nat.le_refl _)
    have a1' : lp_X1_leastOver_7 (nI k) (nI st) s FUEL 1000 0 = some (nI f) := a1
    have b1' : lp_X9_fewestSlips_28 (nI k) (nI st) m FUEL 100000 0 = some (nI g) := b1
    rw [if_pos q, if_neg one_ne, a1', bs, b1', bs]
    refine ⟨f, g, rfl, rfl, Rl_step (A := A k) (F := F) (G := G) hk (fun p hp => (v3 p (by omega)).1) (fun p hp => (hFG p (by omega)).2.2) (fun p hp => a3 p (Nat.zero_le _) hp) ?_ (fun p hp => b3 p (Nat.zero_le _) hp) ?_⟩
    · rcases a4 with z | ⟨i, -, z1, z2⟩
      · exact Or.inl z
      · exact Or.inr ⟨i, z1, z2⟩
    · rcases b4 with z | ⟨i, -, z1, z2⟩
      · exact Or.inl z
      · exact Or.inr ⟨i, z1, z2⟩
  · have hm : 0 = if T.testBit k = true then st else 0 := by rw [if_neg q]
    obtain ⟨f, a1, a2, a3, a4⟩ := lo_lp hT hs hk hst hm (V := fun _ => F st) (fun p hp => ⟨by
      have hp0 : p = 0 := by omega
      subst hp0
      rw [wp_n hT hs hk hst (Nat.zero_le _), if_neg q, Nat.sub_zero, (hFG st hst).1, show (0 : Int32) = nI 0 from rfl, nI_add, Nat.zero_add], by
      have := (Rl_f (hFG st hst).2.2).1
      show F st ≤ 2000
      omega⟩) FUEL 0 1000 (Nat.zero_le _) (by rw [fuel_s]; omega) (Nat.le_refl _)
    have a1' : lp_X1_leastOver_7 (nI k) (nI st) s FUEL 1000 0 = some (nI f) := a1
    have hf : f = F st := by
      have h1 := a3 0 (Nat.zero_le _) (Nat.le_refl _)
      have h2 := (Rl_f (hFG st hst).2.2).1
      rcases a4 with z | ⟨i, -, z1, z2⟩
      · have h3 : f ≤ F st := h1
        omega
      · exact z2
    rw [if_neg q, if_pos rfl, a1', bs, nI_1, show (21 : Int32) * nI (k + 1) = nI (21 * (k + 1)) from pk_mul 21 (k + 1), nI_add, ck_in (vp_in_nI (by omega) (by decide)), tcl (by omega), (hFG st hst).2.1]
    exact ⟨f, G st, rfl, rfl, by rw [hf]; exact Rl_skip hk q (hFG st hst).2.2⟩
/-- where the best of a row that is there comes from -/
theorem from_p {T : Nat} (hT : T < 64) {s : S1} {m : S9} {A : Nat → Nat → Nat} {k st : Nat} (hk : k < 6) (hst : st ≤ 20) (hs : x1_there s = nI T) (hb : T.testBit k = true) (hA6 : ∀ p, p ≤ 20 → A k p ≤ 6) (hal : ∀ p, p ≤ 20 → x1_alone s (k * 21 + p) = nI (A k p)) {F : Nat → Nat} (hF : ∀ p, p ≤ 20 → x1_fewest s ((k + 1) * 21 + p) = nI (F p) ∧ F p ≤ 1000) {f : Nat} (hf : sem_X1_leastOver (nI k) (nI st) s = some (nI f)) (hf2 : f ≤ 36) : ∃ p, p ≤ st ∧ A k p + F (st - p) = f := by
  unfold sem_X1_leastOver at hf
  have hm : st = if T.testBit k = true then st else 0 := by rw [if_pos hb]
  obtain ⟨r, a1, a2, a3, a4⟩ := lo_lp hT hs hk hst hm (V := fun p => A k p + F (st - p)) (fun p hp => ⟨by
    rw [wp_n hT hs hk hst hp, if_pos hb, hal p (by omega), (hF (st - p) (by omega)).1, nI_add], by
    have := hA6 p (by omega)
    have := (hF (st - p) (by omega)).2
    show A k p + F (st - p) ≤ 2000
    omega⟩) FUEL 0 1000 (Nat.zero_le _) (by rw [fuel_s]; omega) (Nat.le_refl _)
  have a1' : lp_X1_leastOver_7 (nI k) (nI st) s FUEL 1000 0 = some (nI r) := a1
  rw [a1', bs] at hf
  injection hf with hf
  have hrf : r = f := (nI_eq (by omega) (by omega)).mp hf
  subst hrf
  rcases a4 with z | ⟨i, -, z1, z2⟩
  · omega
  · exact ⟨i, z1, z2.symm⟩
