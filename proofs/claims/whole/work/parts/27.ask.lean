/-! who, ask -/
def wP (T e c : Nat) (Y O : Nat → Nat) (B : Nat) : Nat → Bool := fun b => T.testBit b && allN (fP T e Y O B b) c
theorem who_x {t : S6} {T e c B : Nat} {Y O : Nat → Nat} (hT : T < 64) (hth : x6_there t = nI T) (he : e ≤ 9) (hea : x6_ears t = nI e) (hY : ∀ i, i < 6 → x6_facts t (i * 6 + 4) = nI (Y i) ∧ Y i ≤ 9) (hc : c ≤ 8) (hsi : x6_sights t = nI c) (hB : B < 256) (hhb : x6_heardBits t = nI B) (hO : ∀ i, i < 8 → x6_asked t i = nI (O i) ∧ O i < 6) : sem_X6_suspects t = some (nI (mk6 (wP T e c Y O B))) := by
  have hf : ∀ b, b < 6 → sem_X6_allSightsFit (nI b) t = some (if allN (fP T e Y O B b) c = true then 1 else 0) := by
    intro b hb
    unfold sem_X6_allSightsFit
    rw [show lp_X6_allSightsFit_2 (nI b) t FUEL 0 = _ from fit_xl hT hth he hea hY hc hsi hB hhb hO hb FUEL 0 (by omega) (by decide) rfl, bs]
    by_cases q : allN (fP T e Y O B b) c = true
    · rw [if_pos q, if_pos q]; rfl
    · rw [if_neg q, if_neg q]; rfl
  have hl : ∀ n j, j ≤ 6 → 7 ≤ n + j → lp_X6_suspects_4 t n (nI (mk6 (rs (wP T e c Y O B) j))) (nI j) = some (nI (mk6 (wP T e c Y O B))) := by
    intro n
    induction n with
    | zero => intro j h1 h2; omega
    | succ n ih =>
      intro j h1 h2
      show bd_X6_suspects_4 t (lp_X6_suspects_4 t n) _ _ = _
      unfold bd_X6_suspects_4
      by_cases hj : j = 6
      · subst hj
        rw [if_pos (by decide), mk6_6]
      · have hj6 : j < 6 := by omega
        have hb : wP T e c Y O B j = (T.testBit j && allN (fP T e Y O B j) c) := rfl
        rw [if_neg (no6 hj6), nI_1, has_n hT hth hj6, bs]
        by_cases c2 : T.testBit j = true
        · rw [if_pos c2, if_neg one_ne, hf j hj6, bs]
          by_cases c3 : allN (fP T e Y O B j) c = true
          · rw [if_pos c3, if_neg one_ne, mk6_or _ hj6 (by rw [hb, c2, c3]; rfl)]
            exact ih (j + 1) (by omega) (by omega)
          · rw [if_neg c3, if_pos rfl, mk6_no _ hj6 (by rw [hb]; simp [c3])]
            exact ih (j + 1) (by omega) (by omega)
        · rw [if_neg c2, if_pos rfl, mk6_no _ hj6 (by rw [hb]; simp [c2])]
          exact ih (j + 1) (by omega) (by omega)
  unfold sem_X6_suspects
  have h := hl FUEL 0 (by omega) (by decide)
  rw [mk6_0] at h
  rw [show (0 : Int32) = nI 0 from rfl, h]
  rfl
theorem who_m {m : S9} {T e c B : Nat} {Y O : Nat → Nat} (hT : T < 64) (hth : x9_there m = nI T) (he : e ≤ 9) (hea : x9_ears m = nI e) (hY : ∀ i, i < 6 → x9_yard m i = nI (Y i) ∧ Y i ≤ 9) (hc : c ≤ 8) (hsi : x9_sights m = nI c) (hH : ∀ i, i < 8 → x9_sightHeard m i = if B.testBit i = true then 1 else 0) (hO : ∀ i, i < 8 → x9_sightOne m i = nI (O i)) (hO6 : ∀ i, i < 8 → O i < 6) : sem_X9_who m = some (nI (mk6 (wP T e c Y O B))) := by
  have hf : ∀ b, b < 6 → sem_X9_fits (nI b) m = some (if wP T e c Y O B b = true then 1 else 0) := by
    intro b hb
    unfold sem_X9_fits
    rw [isOne_n hT hth hb, bs]
    have h := fit_ml hT hth he hea hY hc hsi hH hO hO6 hb (T.testBit b) FUEL 0 (by omega) (by decide)
    rw [show (T.testBit b && allN (fP T e Y O B b) 0) = T.testBit b by simp [allN]] at h
    rw [show (0 : Int32) = nI 0 from rfl]
    rw [show nI 0 = (0 : Int32) from rfl] at h ⊢
    rw [h, bs]
    unfold bz wP
    by_cases q : (T.testBit b && allN (fP T e Y O B b) c) = true
    · rw [if_pos q, if_pos (Or.inr rfl)]
    · rw [if_neg q, if_pos (Or.inl rfl)]
  have hl : ∀ n j, j ≤ 6 → 7 ≤ n + j → lp_X9_who_4 m n (nI (mk6 (rs (wP T e c Y O B) j))) (nI j) = some (nI (mk6 (wP T e c Y O B))) := by
    intro n
    induction n with
    | zero => intro j h1 h2; omega
    | succ n ih =>
      intro j h1 h2
      show bd_X9_who_4 m (lp_X9_who_4 m n) _ _ = _
      unfold bd_X9_who_4
      by_cases hj : j = 6
      · subst hj
        rw [if_pos (by decide), mk6_6]
      · have hj6 : j < 6 := by omega
        rw [if_neg (no6 hj6), nI_1, hf j hj6, bs, Int32.or_zero]
        by_cases c3 : wP T e c Y O B j = true
        · rw [if_pos c3, if_neg one_ne, mk6_or _ hj6 c3]
          exact ih (j + 1) (by omega) (by omega)
        · rw [if_neg c3, if_pos rfl, mk6_no _ hj6 c3]
          exact ih (j + 1) (by omega) (by omega)
  unfold sem_X9_who
  have h := hl FUEL 0 (by omega) (by decide)
  rw [mk6_0] at h
  rw [show (0 : Int32) = nI 0 from rfl, h]
  rfl
theorem ok_who : hF_who RR := by
  intro s m j0 j1 hR
  obtain ⟨T, e, Y, b1, b2, b3, b4, b5, b6, b7, b8⟩ := yards hR.1
  obtain ⟨c, B, O, a1, a2, a3, a4, a5, a6, a7, a8⟩ := sights hR.1
  unfold sem_X8_who
  rw [who_x b1 b2 b4 b5 b7 a1 a2 a4 a5 a7, who_m b1 b3 b4 b6 b8 a1 a3 a6 a8 (fun i hi => (a7 i hi).2), bs]
  exact ⟨_, rfl, rfl, hR⟩
def cN (P : Nat → Bool) : Nat → Nat
  | 0 => 0
  | j + 1 => if P j = true then cN P j + 1 else cN P j
theorem cN_le {P Q : Nat → Bool} (h : ∀ i, P i = true → Q i = true) : ∀ j, cN P j ≤ cN Q j
  | 0 => Nat.le_refl _
  | j + 1 => by
    have h1 := cN_le h j
    unfold cN
    by_cases c : P j = true
    · rw [if_pos c, if_pos (h j c)]; omega
    · rw [if_neg c]
      by_cases d : Q j = true
      · rw [if_pos d]; omega
      · rw [if_neg d]; exact h1
theorem cN_b (P : Nat → Bool) : ∀ j, cN P j ≤ j
  | 0 => Nat.le_refl _
  | j + 1 => by
    have h1 := cN_b P j
    unfold cN
    by_cases c : P j = true
    · rw [if_pos c]; omega
    · rw [if_neg c]; omega
theorem pop_cN : ∀ W, W < 64 → pop6 W = cN (fun i => W.testBit i) 6 := by decide +kernel
/-- how many are left at the most when this one is asked -/
def mlN (W e : Nat) (Y : Nat → Nat) (k : Nat) : Nat := max (cN (fun b => W.testBit b && sy e Y k b) 6) (pop6 W - cN (fun b => W.testBit b && sy e Y k b) 6)
theorem mlN_le {W e : Nat} {Y : Nat → Nat} {k : Nat} (hW : W < 64) : mlN W e Y k ≤ 6 := by
  unfold mlN
  have h1 := cN_b (fun b => W.testBit b && sy e Y k b) 6
  have h2 := cN_b (fun i => W.testBit i) 6
  rw [pop_cN W hW]
  omega
theorem ml_x {t : S6} {T e W : Nat} {Y : Nat → Nat} (hT : T < 64) (hth : x6_there t = nI T) (he : e ≤ 9) (hea : x6_ears t = nI e) (hY : ∀ i, i < 6 → x6_facts t (i * 6 + 4) = nI (Y i) ∧ Y i ≤ 9) (hW : W < 64) {k : Nat} (hk : k < 6) (hbit : T.testBit k = true) : sem_X6_mostLeft (nI W) (nI k) t = some (nI (mlN W e Y k)) := by
  have hl : ∀ n j, j ≤ 6 → 7 ≤ n + j → lp_X6_mostLeft_5 (nI W) (nI k) t n (nI (cN (fun b => W.testBit b && sy e Y k b) j)) (nI j) = some (nI (cN (fun b => W.testBit b && sy e Y k b) 6)) := by
    intro n
    induction n with
    | zero => intro j h1 h2; omega
    | succ n ih =>
      intro j h1 h2
      show bd_X6_mostLeft_5 (nI W) (nI k) t (lp_X6_mostLeft_5 (nI W) (nI k) t n) _ _ = _
      unfold bd_X6_mostLeft_5
      by_cases hj : j = 6
      · subst hj
        rw [if_pos (by decide)]
      · have hj6 : j < 6 := by omega
        have hih := ih (j + 1) (by omega) (by omega)
        unfold cN at hih
        rw [if_neg (no6 hj6), nI_1, nI_1]
        have hbw := bit64 hW hj6
        by_cases c1 : W.testBit j = true
        · rw [if_pos (hbw.mpr c1), say_x hT hth he hea hY hk hj6 hbit, bs]
          by_cases c2 : sy e Y k j = true
          · rw [if_pos c2, if_neg one_ne]
            rw [if_pos (by simp [c1, c2])] at hih
            exact hih
          · rw [if_neg c2, if_pos rfl]
            rw [if_neg (by simp [c2])] at hih
            exact hih
        · rw [if_neg (fun z => c1 (hbw.mp z))]
          rw [if_neg (by simp [c1])] at hih
          exact hih
  unfold sem_X6_mostLeft
  rw [show lp_X6_mostLeft_5 (nI W) (nI k) t FUEL 0 0 = _ from hl FUEL 0 (by omega) (by decide), bs, cnt_x W hW, bs]
  have h3 : cN (fun b => W.testBit b && sy e Y k b) 6 ≤ pop6 W := by
    rw [pop_cN W hW]
    exact cN_le (fun i h => by simp at h; exact h.1) 6
  have h4 := cN_b (fun i => W.testBit i) 6
  have h5 : pop6 W ≤ 6 := by rw [pop_cN W hW]; exact h4
  rw [pk_sub h3, jmax_n (by omega) (by omega)]
  rfl
theorem ml_m {m : S9} {e W : Nat} {Y : Nat → Nat} (he : e ≤ 9) (hea : x9_ears m = nI e) (hY : ∀ i, i < 6 → x9_yard m i = nI (Y i) ∧ Y i ≤ 9) (hW : W < 64) {k : Nat} (hk : k < 6) : sem_X9_mostLeft (nI W) (nI k) m = some (nI (mlN W e Y k)) := by
  have hl : ∀ n j, j ≤ 6 → 7 ≤ n + j → lp_X9_mostLeft_5 (nI W) (nI k) m n (nI (cN (fun b => W.testBit b && sy e Y k b) j)) (nI j) = some (nI (cN (fun b => W.testBit b && sy e Y k b) 6)) := by
    intro n
    induction n with
    | zero => intro j h1 h2; omega
    | succ n ih =>
      intro j h1 h2
      show bd_X9_mostLeft_5 (nI W) (nI k) m (lp_X9_mostLeft_5 (nI W) (nI k) m n) _ _ = _
      unfold bd_X9_mostLeft_5
      by_cases hj : j = 6
      · subst hj
        rw [if_pos (by decide)]
      · have hj6 : j < 6 := by omega
        have hih := ih (j + 1) (by omega) (by omega)
        unfold cN at hih
        rw [if_neg (no6 hj6), nI_1, nI_1, Int32.add_zero]
        have hbw := bit64 hW hj6
        by_cases c1 : W.testBit j = true
        · rw [if_pos (hbw.mpr c1), say_m he hea hY hk hj6, bs]
          by_cases c2 : sy e Y k j = true
          · rw [if_pos c2, if_neg one_ne]
            rw [if_pos (by simp [c1, c2])] at hih
            exact hih
          · rw [if_neg c2, if_pos rfl]
            rw [if_neg (by simp [c2])] at hih
            exact hih
        · rw [if_neg (fun z => c1 (hbw.mp z))]
          rw [if_neg (by simp [c1])] at hih
          exact hih
  unfold sem_X9_mostLeft
  rw [show lp_X9_mostLeft_5 (nI W) (nI k) m FUEL 0 0 = _ from hl FUEL 0 (by omega) (by decide), bs, cnt_m W hW, bs]
  have h3 : cN (fun b => W.testBit b && sy e Y k b) 6 ≤ pop6 W := by
    rw [pop_cN W hW]
    exact cN_le (fun i h => by simp at h; exact h.1) 6
  have h4 := cN_b (fun i => W.testBit i) 6
  have h5 : pop6 W ≤ 6 := by rw [pop_cN W hW]; exact h4
  rw [pk_sub h3]
  unfold mlN
  by_cases c : cN (fun b => W.testBit b && sy e Y k b) 6 ≤ pop6 W - cN (fun b => W.testBit b && sy e Y k b) 6
  · rw [if_pos ((nI_leI (by omega) (by omega)).mpr c), Nat.max_eq_right c]
  · rw [if_neg (fun z => c ((nI_leI (by omega) (by omega)).mp z)), Nat.max_eq_left (by omega)]
/-- the best so far: nobody, or one who is there -/
def askI (T W e : Nat) (Y : Nat → Nat) (j : Nat) (bx fx : Int32) : Prop := (bx = -6 ∧ fx = 7 ∧ ∀ i, i < j → ¬ T.testBit i = true) ∨ ∃ b, b < 6 ∧ T.testBit b = true ∧ bx = nI b ∧ fx = nI (mlN W e Y b)
theorem ok_ask : hF_ask RR := by
  intro x1 s m j0 j1 hR
  obtain ⟨T, e, Y, b1, b2, b3, b4, b5, b6, b7, b8⟩ := yards hR.1
  obtain ⟨c, B, O, a1, a2, a3, a4, a5, a6, a7, a8⟩ := sights hR.1
  unfold sem_X8_ask sem_X9_ask
  rcases gd x1 0 1 (by decide) (by decide) (a := 0) (b := 1) (A := 0) (B := 1) rfl rfl rfl rfl with ⟨q, -, hq, rfl, e1, e2⟩ | ⟨e1, e2, -⟩
  · rw [e1, e2, bs, bs, if_neg one_ne, if_neg one_ne]
    rw [who_x b1 b2 b4 b5 b7 a1 a2 a4 a5 a7, who_m b1 b3 b4 b6 b8 a1 a3 a6 a8 (fun i hi => (a7 i hi).2), bs, bs]
    obtain ⟨W, hWe⟩ : ∃ W, W = mk6 (wP T e c Y O B) := ⟨_, rfl⟩
    have hW : W < 64 := by rw [hWe]; exact mk6_lt _
    have hWT : ∀ i, i < 6 → W.testBit i = true → T.testBit i = true := by
      intro i hi h
      rw [hWe, mk6_bit _ hi] at h
      unfold wP at h
      simp at h
      exact h.1
    rw [← hWe]
    clear hWe
    have hw0 : (nI W = 0) ↔ W = 0 := nI_eq (a := W) (b := 0) (by omega) (by decide)
    by_cases w0 : W = 0
    · rw [if_pos (hw0.mpr w0)]
      have hm : lp_X9_ask_24 (nI q) (nI W) m FUEL (-6) 0 = some (-6) := by
        show bd_X9_ask_24 (nI q) (nI W) m (lp_X9_ask_24 (nI q) (nI W) m 4095) (-6) 0 = _
        unfold bd_X9_ask_24
        rw [if_neg (by decide), if_pos (hw0.mpr w0)]
      rw [hm, bs]
      unfold jn_X9_ask_77
      rw [if_pos (by decide)]
      exact ⟨_, rfl, rfl, hR⟩
    · have hwn : ¬ nI W = 0 := fun z => w0 (hw0.mp z)
      rw [if_neg hwn]
      have hl : ∀ n j bx fx, j ≤ 6 → 7 ≤ n + j → askI T W e Y j bx fx → ∃ by_ fy, lp_X8_ask_37 (nI q) (nI W) s n bx fx (nI j) = some (by_, fy) ∧ lp_X9_ask_24 (nI q) (nI W) m n bx (nI j) = some by_ ∧ askI T W e Y 6 by_ fy := by
        intro n
        induction n with
        | zero => intro j bx fx h1 h2; omega
        | succ n ih =>
          intro j bx fx h1 h2 h3
          show ∃ by_ fy, bd_X8_ask_37 (nI q) (nI W) s (lp_X8_ask_37 (nI q) (nI W) s n) bx fx (nI j) = some (by_, fy) ∧ bd_X9_ask_24 (nI q) (nI W) m (lp_X9_ask_24 (nI q) (nI W) m n) bx (nI j) = some by_ ∧ _
          unfold bd_X8_ask_37 bd_X9_ask_24
          by_cases hj : j = 6
          · subst hj
            rw [if_pos (by decide), if_pos (by decide)]
            exact ⟨bx, fx, rfl, rfl, h3⟩
          · have hj6 : j < 6 := by omega
            rw [if_neg (no6 hj6), if_neg (no6 hj6), if_neg hwn, has_n b1 b2 hj6, isOne_n b1 b3 hj6, bs, bs]
            unfold jn_X8_ask_71
            simp only [nI_1]
            by_cases cT : T.testBit j = true
            · rw [if_pos cT, if_neg one_ne, if_neg one_ne, ml_x b1 b2 b4 b5 b7 hW hj6 cT, bs]
              have hm6 := mlN_le (e := e) (Y := Y) (k := j) hW
              rcases h3 with ⟨rfl, rfl, h5⟩ | ⟨b, hb, hbT, rfl, rfl⟩
              · rw [if_neg (show ¬ (7 : Int32) ≤ nI (mlN W e Y j) from nI_ge (b := 7) (by omega) (by decide)), if_pos (by decide)]
                exact ih (j + 1) _ _ (by omega) (by omega) (Or.inr ⟨j, hj6, cT, rfl, rfl⟩)
              · have hmb := mlN_le (e := e) (Y := Y) (k := b) hW
                rw [if_neg (nI_pos (by omega)), ml_m b4 b6 b8 hW hj6, ml_m b4 b6 b8 hW hb, bs, bs]
                by_cases cl : nI (mlN W e Y b) ≤ nI (mlN W e Y j)
                · rw [if_pos cl, if_pos cl]
                  exact ih (j + 1) _ _ (by omega) (by omega) (Or.inr ⟨b, hb, hbT, rfl, rfl⟩)
                · rw [if_neg cl, if_neg cl]
                  exact ih (j + 1) _ _ (by omega) (by omega) (Or.inr ⟨j, hj6, cT, rfl, rfl⟩)
            · rw [if_neg cT, if_pos rfl, if_pos rfl]
              rcases h3 with ⟨rfl, rfl, h5⟩ | ⟨b, hb, hbT, rfl, rfl⟩
              · rw [if_pos (by decide)]
                refine ih (j + 1) _ _ (by omega) (by omega) (Or.inl ⟨rfl, rfl, fun i hi => ?_⟩)
                by_cases z : i = j
                · rw [z]; exact cT
                · exact h5 i (by omega)
              · have hmb := mlN_le (e := e) (Y := Y) (k := b) hW
                rw [if_pos (show nI (mlN W e Y b) ≤ (7 : Int32) from nI_le (b := 7) (by omega) (by decide))]
                exact ih (j + 1) _ _ (by omega) (by omega) (Or.inr ⟨b, hb, hbT, rfl, rfl⟩)
      obtain ⟨by_, fy, g1, g2, g3⟩ := hl FUEL 0 (-6) 7 (by omega) (by decide) (Or.inl ⟨rfl, rfl, fun i hi => by omega⟩)
      rw [show (0 : Int32) = nI 0 from rfl, g1, g2, bs, bs]
      rcases g3 with ⟨-, -, g5⟩ | ⟨b, hb, hbT, rfl, rfl⟩
      · exfalso
        apply w0
        have : ∀ W, W < 64 → (∀ i, i < 6 → ¬ W.testBit i = true) → W = 0 := by decide +kernel
        exact this W hW (fun i hi h => g5 i hi (hWT i hi h))
      · unfold jn_X9_ask_77
        rw [if_neg (nI_pos (by omega)), ml_m b4 b6 b8 hW hb, bs]
        have hq01 : q = 0 ∨ q = 1 := by omega
        rcases hq01 with rfl | rfl
        · exact ⟨_, rfl, rfl, hR⟩
        · exact ⟨_, rfl, rfl, hR⟩
  · rw [e1, e2]; exact ⟨_, rfl, rfl, hR⟩
