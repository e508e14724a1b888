/-! sights: seen, who, ask -/
theorem hb_n : ∀ B, B < 256 → ∀ e, e < 8 → ((nI B >>> (nI e &&& 31)) &&& 1 = 1 ↔ B.testBit e = true) := by decide +kernel
theorem hb_or : ∀ B, B < 256 → ∀ c, c < 8 → nI B ||| ((1 : Int32) <<< (nI c &&& 31)) = nI (B ||| 1 <<< c) ∧ B ||| 1 <<< c < 256 := by decide +kernel
theorem hb_cl : ∀ B, B < 256 → ∀ c, c < 8 → nI B &&& (((1 : Int32) <<< (nI c &&& 31)) ^^^ (-1 : Int32)) = nI (B - (B &&& 1 <<< c)) ∧ B - (B &&& 1 <<< c) < 256 := by decide +kernel
theorem hb_ort : ∀ B, B < 256 → ∀ c, c < 8 → ∀ e, e < 8 → ((B ||| 1 <<< c).testBit e = true ↔ (e = c ∨ B.testBit e = true)) := by decide +kernel
theorem hb_clt : ∀ B, B < 256 → ∀ c, c < 8 → ∀ e, e < 8 → ((B - (B &&& 1 <<< c)).testBit e = true ↔ (e ≠ c ∧ B.testBit e = true)) := by decide +kernel
theorem ok_seen : hF_seen RR := by
  intro x1 x2 s m j0 j1 hx hR
  unfold sem_X8_seen sem_X9_seen
  have hT := hR.1.1
  obtain ⟨T, l, e, c, b1, b2, b3, b4, b5, b6, b7, b8, b9, c0, c1, c2, c3, c4, c5, d1, d2⟩ := hR.1.2
  rcases gone x1 b1 (hT.1.trans b2) b2 with ⟨k, hk, rfl, hbit, e1, e2⟩ | ⟨e1, e2⟩
  · rw [e1, e2, bs, bs, if_neg one_ne, if_neg one_ne]
    have hsx : x6_sights (x8_town s) = nI c := hT.2.2.2.1.trans b9
    rw [hsx, b9]
    have h8 : (nI c = 8) ↔ c = 8 := nI_eq (a := c) (b := 8) (by omega) (by decide)
    have hl8 : (nI c < 8) ↔ c < 8 := nI_ltI (a := c) (b := 8) (by omega) (by decide)
    by_cases q : c = 8
    · rw [if_neg (fun z => by have := hl8.mp z; omega), if_pos (h8.mpr q)]
      exact ⟨_, _, _, rfl, rfl, hR⟩
    · have hc8 : c < 8 := by omega
      rw [if_pos (hl8.mpr hc8), if_neg (fun z => q (h8.mp z))]
      have hin : vp_in (nI c) 8 := vp_in_nI hc8 (by decide)
      have ew : sem_X8_within (nI c) 0 7 = some 1 := by
        rw [within_eq, if_pos]
        exact ⟨(nI_leI (a := 0) (b := c) (by decide) (by omega)).mpr (by omega), (nI_leI (a := c) (b := 7) (by omega) (by decide)).mpr (by omega)⟩
      obtain ⟨B, hB, hB1, hB2⟩ := hT.2.2.2.2.2.2
      have hsx2 : ∀ V, x6_sights (p6_asked (x8_town s) V) = nI c := fun V => hsx
      have hhb : ∀ V, x6_heardBits (p6_asked (x8_town s) V) = nI B := fun V => hB1
      have hmid : ∀ V, x9_sights (p9_sightOne m V) = nI c := fun V => b9
      unfold sem_X6_addSight
      rw [hsx, ew, bs, if_neg one_ne]
      simp only [ck_in hin, tcl (show c < 2 ^ 31 by omega), hhb, hmid]
      have ask8 : ∀ i, i < 8 → upd (x6_asked (x8_town s)) c (nI k) i = upd (x9_sightOne m) c (nI k) i := fun i hi => by
        unfold upd
        rw [hT.2.2.2.2.2.1 i hi]
      have hO : ∀ i, i < 8 → ∃ v, v ≤ 5 ∧ upd (x9_sightOne m) c (nI k) i = nI v := fun i hi => by
        unfold upd
        by_cases z : i = c
        · rw [if_pos z]; exact ⟨k, by omega, rfl⟩
        · rw [if_neg z]; exact d1 i hi
      rcases hx with rfl | rfl
      · rw [if_pos rfl, if_pos rfl]
        unfold jn_X9_seen_49
        rw [ck_in hin]
        simp only [tcl (show c < 2 ^ 31 by omega)]
        refine ⟨x6_sights (x8_town s) + 1, p8_town s (p6_sights (p6_heardBits (p6_asked (x8_town s) (upd (x6_asked (x8_town s)) c (nI k))) (nI B &&& (((1 : Int32) <<< (nI c &&& 31)) ^^^ (-1 : Int32)))) (x6_sights (x8_town s) + 1)), p9_sights (p9_sightHeard (p9_sightOne m (upd (x9_sightOne m) c (nI k))) (upd (x9_sightHeard m) c 0)) (x9_sights m + 1), rfl, ?_, ?_⟩
        · rw [hsx, ← b9]; rfl
        · refine hR.town ⟨⟨hT.1, hT.2.1, hT.2.2.1, ?_, hT.2.2.2.2.1, ask8, ?_⟩, ?_⟩ rfl rfl rfl rfl rfl rfl rfl
          · show x6_sights (x8_town s) + 1 = x9_sights m + 1
            rw [hsx, b9]
          · obtain ⟨g1, g2⟩ := hb_cl B hB c hc8
            refine ⟨B - (B &&& 1 <<< c), g2, g1, fun i hi => ?_⟩
            rw [hb_clt B hB c hc8 i hi]
            show _ ↔ upd (x9_sightHeard m) c 0 i = 1
            unfold upd
            by_cases z : i = c
            · rw [if_pos z]
              constructor
              · intro y; exact absurd z y.1
              · intro y; exact absurd y (by decide)
            · rw [if_neg z, hB2 i hi]
              exact ⟨fun y => y.2, fun y => ⟨z, y⟩⟩
          · refine ⟨T, l, e, c + 1, b1, b2, b3, b4, b5, b6, b7, by omega, (by show x9_sights m + 1 = _; rw [b9, nI_1]), c0, c1, c2, c3, c4, c5, hO, fun i hi => ?_⟩
            show upd (x9_sightHeard m) c 0 i = 0 ∨ upd (x9_sightHeard m) c 0 i = 1
            unfold upd
            by_cases z : i = c
            · rw [if_pos z]; exact Or.inl rfl
            · rw [if_neg z]; exact d2 i hi
      · rw [if_neg one_ne, if_neg one_ne]
        unfold jn_X9_seen_49
        rw [ck_in hin]
        simp only [tcl (show c < 2 ^ 31 by omega)]
        refine ⟨x6_sights (x8_town s) + 1, p8_town s (p6_sights (p6_heardBits (p6_asked (x8_town s) (upd (x6_asked (x8_town s)) c (nI k))) (nI B ||| ((1 : Int32) <<< (nI c &&& 31)))) (x6_sights (x8_town s) + 1)), p9_sights (p9_sightHeard (p9_sightOne m (upd (x9_sightOne m) c (nI k))) (upd (x9_sightHeard m) c 1)) (x9_sights m + 1), rfl, ?_, ?_⟩
        · rw [hsx, ← b9]; rfl
        · refine hR.town ⟨⟨hT.1, hT.2.1, hT.2.2.1, ?_, hT.2.2.2.2.1, ask8, ?_⟩, ?_⟩ rfl rfl rfl rfl rfl rfl rfl
          · show x6_sights (x8_town s) + 1 = x9_sights m + 1
            rw [hsx, b9]
          · obtain ⟨g1, g2⟩ := hb_or B hB c hc8
            refine ⟨B ||| 1 <<< c, g2, g1, fun i hi => ?_⟩
            rw [hb_ort B hB c hc8 i hi]
            show _ ↔ upd (x9_sightHeard m) c 1 i = 1
            unfold upd
            by_cases z : i = c
            · rw [if_pos z]
              exact ⟨fun _ => rfl, fun _ => Or.inl z⟩
            · rw [if_neg z]
              exact ⟨fun y => y.elim (fun w => absurd w z) (fun w => (hB2 i hi).mp w), fun y => Or.inr ((hB2 i hi).mpr y)⟩
          · refine ⟨T, l, e, c + 1, b1, b2, b3, b4, b5, b6, b7, by omega, (by show x9_sights m + 1 = _; rw [b9, nI_1]), c0, c1, c2, c3, c4, c5, hO, fun i hi => ?_⟩
            show upd (x9_sightHeard m) c 1 i = 0 ∨ upd (x9_sightHeard m) c 1 i = 1
            unfold upd
            by_cases z : i = c
            · rw [if_pos z]; exact Or.inr rfl
            · rw [if_neg z]; exact d2 i hi
  · rw [e1, e2]; exact ⟨_, _, _, rfl, rfl, hR⟩
/-- one would say that it heard -/
def sy (e : Nat) (Y : Nat → Nat) (k b : Nat) : Bool := (k == b) || decide (far (Y k) (Y b) ≤ e)
theorem bit64 {B : Nat} (hB : B < 64) {k : Nat} (hk : k < 6) : ((nI B >>> (nI k &&& 31)) &&& 1 = 1) ↔ B.testBit k = true := bit_n B hB k hk
theorem say_x {t : S6} {T e : Nat} {Y : Nat → Nat} (hT : T < 64) (hth : x6_there t = nI T) (he : e ≤ 9) (hea : x6_ears t = nI e) (hY : ∀ i, i < 6 → x6_facts t (i * 6 + 4) = nI (Y i) ∧ Y i ≤ 9) {k b : Nat} (hk : k < 6) (hb : b < 6) (hbit : T.testBit k = true) : sem_X6_saysHeard (nI k) (nI b) t = some (if sy e Y k b then 1 else 0) := by
  unfold sem_X6_saysHeard
  by_cases c : k = b
  · rw [if_pos ((nI_inj6 hk hb).mpr c)]
    simp [sy, c]
  · rw [if_neg (fun z => c ((nI_inj6 hk hb).mp z)), hear_x hT hth he hea hY hb, bs]
    have h := bit64 (mk6_lt (hp T e Y b)) hk
    rw [mk6_bit _ hk] at h
    by_cases c2 : far (Y k) (Y b) ≤ e
    · rw [if_pos (h.mpr (by simp [hp, c, hbit, c2]))]
      simp [sy, c, c2]
    · rw [if_neg (fun z => by have := h.mp z; simp [hp, c2] at this)]
      simp [sy, c, c2]
theorem say_m {m : S9} {e : Nat} {Y : Nat → Nat} (he : e ≤ 9) (hea : x9_ears m = nI e) (hY : ∀ i, i < 6 → x9_yard m i = nI (Y i) ∧ Y i ≤ 9) {k b : Nat} (hk : k < 6) (hb : b < 6) : sem_X9_wouldHear (nI k) (nI b) m = some (if sy e Y k b then 1 else 0) := by
  unfold sem_X9_wouldHear
  by_cases c : k = b
  · rw [if_pos ((nI_inj6 hk hb).mpr c)]
    simp [sy, c]
  · rw [if_neg (fun z => c ((nI_inj6 hk hb).mp z)), near_n he hea hY hb hk, bs]
    by_cases c2 : far (Y k) (Y b) ≤ e
    · rw [if_pos c2, if_neg one_ne]
      simp [sy, c2]
    · rw [if_neg c2, if_pos rfl]
      simp [sy, c, c2]
def allN (P : Nat → Bool) : Nat → Bool
  | 0 => true
  | j + 1 => allN P j && P j
theorem allN_f {P : Nat → Bool} {i : Nat} (h : P i = false) : ∀ j, i < j → allN P j = false
  | 0, z => by omega
  | j + 1, z => by
    unfold allN
    by_cases q : i = j
    · subst q; rw [h]; simp
    · rw [allN_f h j (by omega)]; rfl
/-- the sights, of both sides -/
theorem sights {t : S6} {m : S9} (h : RTm t m) : ∃ (c B : Nat) (O : Nat → Nat), c ≤ 8 ∧ x6_sights t = nI c ∧ x9_sights m = nI c ∧ B < 256 ∧ x6_heardBits t = nI B ∧ (∀ i, i < 8 → x9_sightHeard m i = if B.testBit i = true then 1 else 0) ∧ (∀ i, i < 8 → x6_asked t i = nI (O i) ∧ O i < 6) ∧ (∀ i, i < 8 → x9_sightOne m i = nI (O i)) := by
  obtain ⟨T, l, e, c, b1, b2, b3, b4, b5, b6, b7, b8, b9, c0, c1, c2, c3, c4, c5, d1, d2⟩ := h.2
  obtain ⟨B, hB, hB1, hB2⟩ := h.1.2.2.2.2.2.2
  have hy : ∀ i, i < 8 → x9_sightOne m i = nI (NV (x9_sightOne m i)) ∧ NV (x9_sightOne m i) ≤ 5 := fun i hi => by
    obtain ⟨v, v1, v2⟩ := d1 i hi
    exact NV_of (by decide) v1 v2
  refine ⟨c, B, fun i => NV (x9_sightOne m i), b8, h.1.2.2.2.1.trans b9, b9, hB, hB1, fun i hi => ?_, fun i hi => ⟨(h.1.2.2.2.2.2.1 i hi).trans (hy i hi).1, by have := (hy i hi).2; show NV _ < 6; omega⟩, fun i hi => (hy i hi).1⟩
  by_cases q : B.testBit i = true
  · rw [if_pos q]; exact (hB2 i hi).mp q
  · rw [if_neg q]
    rcases d2 i hi with z | z
    · exact z
    · exact absurd ((hB2 i hi).mpr z) q
def fP (T e : Nat) (Y O : Nat → Nat) (B b : Nat) : Nat → Bool := fun i => T.testBit (O i) && (sy e Y (O i) b == B.testBit i)
theorem fit_xl {t : S6} {T e c B : Nat} {Y O : Nat → Nat} (hT : T < 64) (hth : x6_there t = nI T) (he : e ≤ 9) (hea : x6_ears t = nI e) (hY : ∀ i, i < 6 → x6_facts t (i * 6 + 4) = nI (Y i) ∧ Y i ≤ 9) (hc : c ≤ 8) (hsi : x6_sights t = nI c) (hB : B < 256) (hhb : x6_heardBits t = nI B) (hO : ∀ i, i < 8 → x6_asked t i = nI (O i) ∧ O i < 6) {b : Nat} (hb : b < 6) :
    ∀ n i, i ≤ c → 9 ≤ n + i → allN (fP T e Y O B b) i = true → lp_X6_allSightsFit_2 (nI b) t n (nI i) = some (if allN (fP T e Y O B b) c = true then Sum.inr () else Sum.inl 0) := by
  intro n
  induction n with
  | zero => intro i h1 h2; omega
  | succ n ih =>
    intro i h1 h2 h3
    show bd_X6_allSightsFit_2 (nI b) t (lp_X6_allSightsFit_2 (nI b) t n) _ = _
    unfold bd_X6_allSightsFit_2
    rw [hsi, hhb]
    by_cases q : i = c
    · subst q
      rw [if_pos (nI_le (Nat.le_refl _) (by omega)), if_pos h3]
    · have hi8 : i < 8 := by omega
      rw [if_neg (nI_ge (by omega) (by omega)), if_neg (show ¬ (8 : Int32) ≤ nI i from nI_ge (a := i) (b := 8) hi8 (by decide))]
      have key : ∀ (y : Bool), B.testBit i = y → jn_X6_allSightsFit_33 (lp_X6_allSightsFit_2 (nI b) t n) (nI b) (nI i) (if y = true then 1 else 0) t = some (if allN (fP T e Y O B b) c = true then Sum.inr () else Sum.inl 0) := by
        intro y hy
        unfold jn_X6_allSightsFit_33
        rw [ck_in (vp_in_nI hi8 (by decide)), tcl (by omega), (hO i hi8).1, has_n hT hth (hO i hi8).2, bs]
        have hP : fP T e Y O B b i = (T.testBit (O i) && (sy e Y (O i) b == y)) := by unfold fP; rw [hy]
        by_cases c1 : T.testBit (O i) = true
        · rw [if_pos c1, if_neg one_ne, say_x hT hth he hea hY (hO i hi8).2 hb c1, bs, nI_1]
          rw [c1] at hP
          have hn : allN (fP T e Y O B b) (i + 1) = (allN (fP T e Y O B b) i && fP T e Y O B b i) := rfl
          cases hs : sy e Y (O i) b <;> cases y <;> rw [hs] at hP
          · rw [if_pos (by decide)]; exact ih (i + 1) (by omega) (by omega) (by rw [hn, h3, hP]; rfl)
          · rw [if_neg (by decide), allN_f (P := fP T e Y O B b) (i := i) (by rw [hP]; rfl) c (by omega)]; rfl
          · rw [if_neg (by decide), allN_f (P := fP T e Y O B b) (i := i) (by rw [hP]; rfl) c (by omega)]; rfl
          · rw [if_pos (by decide)]; exact ih (i + 1) (by omega) (by omega) (by rw [hn, h3, hP]; rfl)
        · rw [if_neg c1, if_pos rfl, allN_f (P := fP T e Y O B b) (i := i) (by rw [hP]; simp [c1]) c (by omega)]; rfl
      have hbit := hb_n B hB i hi8
      cases hy : B.testBit i with
      | true => rw [if_pos (hbit.mpr hy)]; exact key true hy
      | false => rw [if_neg (fun z => by rw [hbit, hy] at z; cases z)]; exact key false hy
theorem fit_ml {m : S9} {T e c B : Nat} {Y O : Nat → Nat} (hT : T < 64) (hth : x9_there m = nI T) (he : e ≤ 9) (hea : x9_ears m = nI e) (hY : ∀ i, i < 6 → x9_yard m i = nI (Y i) ∧ Y i ≤ 9) (hc : c ≤ 8) (hsi : x9_sights m = nI c) (hH : ∀ i, i < 8 → x9_sightHeard m i = if B.testBit i = true then 1 else 0) (hO : ∀ i, i < 8 → x9_sightOne m i = nI (O i)) (hO6 : ∀ i, i < 8 → O i < 6) {b : Nat} (hb : b < 6) (z0 : Bool) :
    ∀ n i, i ≤ c → 9 ≤ n + i → lp_X9_fits_8 (nI b) m n (if (z0 && allN (fP T e Y O B b) i) = true then 1 else 0) (nI i) = some (if (z0 && allN (fP T e Y O B b) c) = true then 1 else 0) := by
  intro n
  induction n with
  | zero => intro i h1 h2; omega
  | succ n ih =>
    intro i h1 h2
    show bd_X9_fits_8 (nI b) m (lp_X9_fits_8 (nI b) m n) _ _ = _
    unfold bd_X9_fits_8
    rw [hsi]
    by_cases q : i = c
    · subst q
      rw [if_pos (nI_le (Nat.le_refl _) (by omega))]
    · have hi8 : i < 8 := by omega
      have hn : allN (fP T e Y O B b) (i + 1) = (allN (fP T e Y O B b) i && fP T e Y O B b i) := rfl
      have hih := ih (i + 1) (by omega) (by omega)
      rw [if_neg (nI_ge (by omega) (by omega))]
      simp only [ck_in (show vp_in (nI i) 8 from vp_in_nI hi8 (by decide)), tcl (show i < 2 ^ 31 by omega), nI_1]
      cases hz : (z0 && allN (fP T e Y O B b) i) with
      | false =>
        rw [if_pos (by decide)]
        have : (z0 && allN (fP T e Y O B b) (i + 1)) = false := by rw [hn, ← Bool.and_assoc, hz]; rfl
        rw [this, if_neg (by decide)] at hih
        exact hih
      | true =>
        rw [if_pos rfl, if_neg one_ne, hO i hi8, isOne_n hT hth (hO6 i hi8), bs]
        have hnx : (z0 && allN (fP T e Y O B b) (i + 1)) = fP T e Y O B b i := by rw [hn, ← Bool.and_assoc, hz]; rfl
        rw [hnx] at hih
        by_cases c1 : T.testBit (O i) = true
        · rw [if_pos c1, if_neg one_ne, say_m he hea hY (hO6 i hi8) hb, bs, hH i hi8]
          have hP : fP T e Y O B b i = (sy e Y (O i) b == B.testBit i) := by unfold fP; rw [c1]; rfl
          rw [hP] at hih
          unfold jn_X9_fits_59
          rw [nI_1]
          cases hs : sy e Y (O i) b <;> cases hy : B.testBit i <;> rw [hs, hy] at hih
          · rw [if_neg (by decide), if_pos (by decide)]; exact hih
          · rw [if_pos (by decide), if_neg (by decide)]; exact hih
          · rw [if_neg (by decide), if_neg (by decide)]; exact hih
          · rw [if_pos (by decide), if_pos (by decide)]; exact hih
        · rw [if_neg c1, if_pos rfl]
          have hP : fP T e Y O B b i = false := by unfold fP; simp [c1]
          rw [hP, if_neg (by decide)] at hih
          exact hih
