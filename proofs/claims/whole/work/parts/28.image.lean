/-! images -/
theorem RT.congr {t : S6} {th li ea si : Int32} {F F2 : Nat → Nat → Int32} {O O2 Hd Hd2 : Nat → Int32} (h : RT t th li ea si F O Hd) (hF : ∀ i, i < 6 → ∀ f, f < 6 → F2 i f = F i f) (hO : ∀ e, e < 8 → O2 e = O e) (hH : ∀ e, e < 8 → Hd2 e = Hd e) : RT t th li ea si F2 O2 Hd2 := by
  obtain ⟨a1, a2, a3, a4, a5, a6, B, a7, a8, a9⟩ := h
  exact ⟨a1, a2, a3, a4, fun i hi f hf => by rw [hF i hi f hf]; exact a5 i hi f hf, fun e he => by rw [hO e he]; exact a6 e he, B, a7, a8, fun e he => by rw [hH e he]; exact a9 e he⟩
theorem BT.congr {th li ea si : Int32} {F F2 : Nat → Nat → Int32} {O O2 Hd Hd2 : Nat → Int32} (h : BT th li ea si F O Hd) (hF : ∀ i, i < 6 → ∀ f, f < 6 → F2 i f = F i f) (hO : ∀ e, e < 8 → O2 e = O e) (hH : ∀ e, e < 8 → Hd2 e = Hd e) : BT th li ea si F2 O2 Hd2 := by
  obtain ⟨T, l, e, c, b1, b2, b3, b4, b5, b6, b7, b8, b9, c0, c1, c2, c3, c4, c5, d1, d2⟩ := h
  exact ⟨T, l, e, c, b1, b2, b3, b4, b5, b6, b7, b8, b9, fun i hi => by rw [hF i hi 0 (by decide)]; exact c0 i hi, fun i hi => by rw [hF i hi 1 (by decide)]; exact c1 i hi, fun i hi => by rw [hF i hi 2 (by decide)]; exact c2 i hi, fun i hi => by rw [hF i hi 3 (by decide)]; exact c3 i hi, fun i hi => by rw [hF i hi 4 (by decide)]; exact c4 i hi, fun i hi => by rw [hF i hi 5 (by decide)]; exact c5 i hi, fun k hk => by rw [hO k hk]; exact d1 k hk, fun k hk => by rw [hH k hk]; exact d2 k hk⟩
/-- a town takes over another's values -/
theorem take_n (a t : S6) : ∃ v, sem_X6_takeFrom a t = some v ∧ ∀ {th li ea si : Int32} {F : Nat → Nat → Int32} {O Hd : Nat → Int32}, RT t th li ea si F O Hd → RT v th li ea si F O Hd := by
  refine ⟨_, rfl, fun h => ?_⟩
  obtain ⟨a1, a2, a3, a4, a5, a6, a7⟩ := h
  refine ⟨a1, a2, a3, a4, fun i hi f hf => ?_, fun e he => ?_, a7⟩
  · show va_cpy (x6_facts t) (x6_facts a) 0 0 36 (i * 6 + f) = _
    rw [pk_cpy_in (by omega) (by omega)]
    rw [show 0 + (i * 6 + f - 0) = i * 6 + f by omega]
    exact a5 i hi f hf
  · show va_cpy (x6_asked t) (x6_asked a) 0 0 8 e = _
    rw [pk_cpy_in (by omega) (by omega)]
    rw [show 0 + (e - 0) = e by omega]
    exact a6 e he
theorem upd_self (f : Nat → Int32) (k : Nat) : upd f k (f k) = f := by
  funext j
  unfold upd
  by_cases h : j = k
  · rw [if_pos h, h]
  · rw [if_neg h]
def Wst (m : S9) (p : Nat) (K : Nat → Int32) : S9 := p9_keptAt (p9_kept m K) (nI p)
theorem pass_w {m : S9} (hw : x9_isWriting m = 1) {p : Nat} (hp : p < 120) (v : Int32) (K : Nat → Int32) : sem_X9_pass v (Wst m p K) = some (v, Wst m (p + 1) (upd K p v)) := by
  have e1 : x9_isWriting (Wst m p K) = 1 := hw
  have e2 : x9_keptAt (Wst m p K) = nI p := rfl
  unfold sem_X9_pass
  rw [e1, if_neg one_ne]
  unfold jn_X9_pass_20
  rw [e2, ck_in (vp_in_nI hp (by decide)), tcl (by omega)]
  show some (v, p9_keptAt (p9_kept m (upd K p v)) (nI p + 1)) = _
  rw [nI_1]
  rfl
/-- what an image of this state holds, in the order in which it is kept -/
def vals (m : S9) : Nat → Int32 := fun j =>
  if j = 0 then x9_there m else if j = 1 then x9_limit m else if j = 2 then x9_ears m else if j = 3 then x9_sights m else if j < 40 then mF m ((j - 4) / 6) ((j - 4) % 6) else if (j - 40) % 2 = 0 then x9_sightOne m ((j - 40) / 2) else x9_sightHeard m ((j - 40) / 2)
theorem vals_f (m : S9) {i f : Nat} (hi : i < 6) (hf : f < 6) : vals m (4 + 6 * i + f) = mF m i f := by
  unfold vals
  rw [if_neg (by omega), if_neg (by omega), if_neg (by omega), if_neg (by omega), if_pos (by omega), show (4 + 6 * i + f - 4) / 6 = i by omega, show (4 + 6 * i + f - 4) % 6 = f by omega]
theorem vals_o (m : S9) (e : Nat) : vals m (40 + 2 * e) = x9_sightOne m e := by
  unfold vals
  rw [if_neg (by omega), if_neg (by omega), if_neg (by omega), if_neg (by omega), if_neg (by omega), if_pos (by omega), show (40 + 2 * e - 40) / 2 = e by omega]
theorem vals_h (m : S9) (e : Nat) : vals m (41 + 2 * e) = x9_sightHeard m e := by
  unfold vals
  rw [if_neg (by omega), if_neg (by omega), if_neg (by omega), if_neg (by omega), if_neg (by omega), if_neg (by omega), show (41 + 2 * e - 40) / 2 = e by omega]
def KW (b : Nat) (V : Nat → Int32) (j : Nat) (K : Nat → Int32) : Nat → Int32 := fun q => if b ≤ q ∧ q < b + j then V (q - b) else K q
theorem KW_s (b : Nat) (V : Nat → Int32) (j : Nat) (K : Nat → Int32) : upd (KW b V j K) (b + j) (V j) = KW b V (j + 1) K := by
  funext q
  unfold upd KW
  by_cases h : q = b + j
  · rw [if_pos h, if_pos (by omega), show q - b = j by omega]
  · rw [if_neg h]
    by_cases h2 : b ≤ q ∧ q < b + j
    · rw [if_pos h2, if_pos (by omega)]
    · rw [if_neg h2, if_neg (by omega)]
theorem KW_0 (b : Nat) (V : Nat → Int32) (K : Nat → Int32) : KW b V 0 K = K := by
  funext q
  unfold KW
  rw [if_neg (by omega)]
def Stw (m : S9) (b j : Nat) : S9 := Wst m (b + j) (KW b (vals m) j (x9_kept m))
theorem passS {m : S9} (hw : x9_isWriting m = 1) {b j : Nat} (hj : b + j < 120) {v : Int32} (hv : v = vals m j) : sem_X9_pass v (Stw m b j) = some (v, Stw m b (j + 1)) := by
  unfold Stw
  rw [pass_w hw hj, hv, KW_s]
  rfl
theorem stw_te (m : S9) (b j k : Nat) : p9_temper (Stw m b j) (upd (x9_temper (Stw m b j)) k (x9_temper m k)) = Stw m b j := by
  rw [show upd (x9_temper (Stw m b j)) k (x9_temper m k) = x9_temper (Stw m b j) from upd_self _ k]; rfl
theorem stw_pe (m : S9) (b j k : Nat) : p9_permits (Stw m b j) (upd (x9_permits (Stw m b j)) k (x9_permits m k)) = Stw m b j := by
  rw [show upd (x9_permits (Stw m b j)) k (x9_permits m k) = x9_permits (Stw m b j) from upd_self _ k]; rfl
theorem stw_st (m : S9) (b j k : Nat) : p9_stamps (Stw m b j) (upd (x9_stamps (Stw m b j)) k (x9_stamps m k)) = Stw m b j := by
  rw [show upd (x9_stamps (Stw m b j)) k (x9_stamps m k) = x9_stamps (Stw m b j) from upd_self _ k]; rfl
theorem stw_pu (m : S9) (b j k : Nat) : p9_purse (Stw m b j) (upd (x9_purse (Stw m b j)) k (x9_purse m k)) = Stw m b j := by
  rw [show upd (x9_purse (Stw m b j)) k (x9_purse m k) = x9_purse (Stw m b j) from upd_self _ k]; rfl
theorem stw_ya (m : S9) (b j k : Nat) : p9_yard (Stw m b j) (upd (x9_yard (Stw m b j)) k (x9_yard m k)) = Stw m b j := by
  rw [show upd (x9_yard (Stw m b j)) k (x9_yard m k) = x9_yard (Stw m b j) from upd_self _ k]; rfl
theorem stw_ca (m : S9) (b j k : Nat) : p9_cause (Stw m b j) (upd (x9_cause (Stw m b j)) k (x9_cause m k)) = Stw m b j := by
  rw [show upd (x9_cause (Stw m b j)) k (x9_cause m k) = x9_cause (Stw m b j) from upd_self _ k]; rfl
theorem stw_so (m : S9) (b j k : Nat) : p9_sightOne (Stw m b j) (upd (x9_sightOne (Stw m b j)) k (x9_sightOne m k)) = Stw m b j := by
  rw [show upd (x9_sightOne (Stw m b j)) k (x9_sightOne m k) = x9_sightOne (Stw m b j) from upd_self _ k]; rfl
theorem stw_sh (m : S9) (b j k : Nat) : p9_sightHeard (Stw m b j) (upd (x9_sightHeard (Stw m b j)) k (x9_sightHeard m k)) = Stw m b j := by
  rw [show upd (x9_sightHeard (Stw m b j)) k (x9_sightHeard m k) = x9_sightHeard (Stw m b j) from upd_self _ k]; rfl
theorem gw_te (m : S9) (b j : Nat) : x9_temper (Stw m b j) = x9_temper m := rfl
theorem gw_pe (m : S9) (b j : Nat) : x9_permits (Stw m b j) = x9_permits m := rfl
theorem gw_st (m : S9) (b j : Nat) : x9_stamps (Stw m b j) = x9_stamps m := rfl
theorem gw_pu (m : S9) (b j : Nat) : x9_purse (Stw m b j) = x9_purse m := rfl
theorem gw_ya (m : S9) (b j : Nat) : x9_yard (Stw m b j) = x9_yard m := rfl
theorem gw_ca (m : S9) (b j : Nat) : x9_cause (Stw m b j) = x9_cause m := rfl
theorem gw_so (m : S9) (b j : Nat) : x9_sightOne (Stw m b j) = x9_sightOne m := rfl
theorem gw_sh (m : S9) (b j : Nat) : x9_sightHeard (Stw m b j) = x9_sightHeard m := rfl
theorem ws1 {m : S9} (hw : x9_isWriting m = 1) {b : Nat} (hb : b ≤ 60) : ∀ n i, i ≤ 6 → 7 ≤ n + i → lp_X9_passAll_50 n (nI i) (Stw m b (4 + 6 * i)) = some (Stw m b 40) := by
  intro n
  induction n with
  | zero => intro i h1 h2; omega
  | succ n ih =>
    intro i h1 h2
    show bd_X9_passAll_50 (lp_X9_passAll_50 n) _ _ = _
    unfold bd_X9_passAll_50
    by_cases hi : i = 6
    · subst hi
      rw [if_pos (by decide)]
    · have hi6 : i < 6 := by omega
      rw [if_neg (no6 hi6), nI_1]
      simp only [ck_in (show vp_in (nI i) 6 from vp_in_nI hi6 (by decide)), tcl (show i < 2 ^ 31 by omega)]
      rw [passS hw (j := 4 + 6 * i) (by omega) (v := x9_temper (Stw m b (4 + 6 * i)) i) (by rw [show 4 + 6 * i = 4 + 6 * i + 0 by omega, vals_f m hi6 (by decide)]; rfl), bs]
      dsimp only
      rw [gw_te m b (4 + 6 * i), stw_te]
      rw [passS hw (j := 4 + 6 * i + 1) (by omega) (v := x9_permits (Stw m b (4 + 6 * i + 1)) i) (by rw [vals_f m hi6 (by decide)]; rfl), bs]
      dsimp only
      rw [gw_pe m b (4 + 6 * i + 1), stw_pe]
      rw [passS hw (j := 4 + 6 * i + 2) (by omega) (v := x9_stamps (Stw m b (4 + 6 * i + 2)) i) (by rw [vals_f m hi6 (by decide)]; rfl), bs]
      dsimp only
      rw [gw_st m b (4 + 6 * i + 2), stw_st]
      rw [passS hw (j := 4 + 6 * i + 3) (by omega) (v := x9_purse (Stw m b (4 + 6 * i + 3)) i) (by rw [vals_f m hi6 (by decide)]; rfl), bs]
      dsimp only
      rw [gw_pu m b (4 + 6 * i + 3), stw_pu]
      rw [passS hw (j := 4 + 6 * i + 4) (by omega) (v := x9_yard (Stw m b (4 + 6 * i + 4)) i) (by rw [vals_f m hi6 (by decide)]; rfl), bs]
      dsimp only
      rw [gw_ya m b (4 + 6 * i + 4), stw_ya]
      rw [passS hw (j := 4 + 6 * i + 5) (by omega) (v := x9_cause (Stw m b (4 + 6 * i + 5)) i) (by rw [vals_f m hi6 (by decide)]; rfl), bs]
      dsimp only
      rw [gw_ca m b (4 + 6 * i + 5), stw_ca]
      have h := ih (i + 1) (by omega) (by omega)
      rw [show 4 + 6 * (i + 1) = 4 + 6 * i + 5 + 1 by omega] at h
      exact h
theorem ws2 {m : S9} (hw : x9_isWriting m = 1) {b : Nat} (hb : b ≤ 60) : ∀ n i, i ≤ 8 → 9 ≤ n + i → lp_X9_passAll_160 n (nI i) (Stw m b (40 + 2 * i)) = some (Stw m b 56) := by
  intro n
  induction n with
  | zero => intro i h1 h2; omega
  | succ n ih =>
    intro i h1 h2
    show bd_X9_passAll_160 (lp_X9_passAll_160 n) _ _ = _
    unfold bd_X9_passAll_160
    by_cases hi : i = 8
    · subst hi
      rw [if_pos (by decide)]
    · have hi8 : i < 8 := by omega
      rw [if_neg (show ¬ (8 : Int32) ≤ nI i from nI_ge (a := i) (b := 8) hi8 (by decide)), nI_1]
      simp only [ck_in (show vp_in (nI i) 8 from vp_in_nI hi8 (by decide)), tcl (show i < 2 ^ 31 by omega)]
      rw [passS hw (j := 40 + 2 * i) (by omega) (v := x9_sightOne (Stw m b (40 + 2 * i)) i) (by rw [vals_o]; rfl), bs]
      dsimp only
      rw [gw_so m b (40 + 2 * i), stw_so]
      rw [passS hw (j := 40 + 2 * i + 1) (by omega) (v := x9_sightHeard (Stw m b (40 + 2 * i + 1)) i) (by rw [show 40 + 2 * i + 1 = 41 + 2 * i by omega, vals_h]; rfl), bs]
      dsimp only
      rw [gw_sh m b (40 + 2 * i + 1), stw_sh]
      have h := ih (i + 1) (by omega) (by omega)
      rw [show 40 + 2 * (i + 1) = 40 + 2 * i + 1 + 1 by omega] at h
      exact h
theorem passAll_w {m : S9} (hw : x9_isWriting m = 1) {b : Nat} (hb : b ≤ 60) : sem_X9_passAll (Stw m b 0) = some (Stw m b 56) := by
  unfold sem_X9_passAll
  rw [passS hw (j := 0) (by omega) (v := x9_there (Stw m b 0)) rfl, bs]
  dsimp only
  rw [show p9_there (Stw m b (0 + 1)) (x9_there (Stw m b 0)) = Stw m b 1 from rfl]
  rw [passS hw (j := 1) (by omega) (v := x9_limit (Stw m b 1)) rfl, bs]
  dsimp only
  rw [show p9_limit (Stw m b (1 + 1)) (x9_limit (Stw m b 1)) = Stw m b 2 from rfl]
  rw [passS hw (j := 2) (by omega) (v := x9_ears (Stw m b 2)) rfl, bs]
  dsimp only
  rw [show p9_ears (Stw m b (2 + 1)) (x9_ears (Stw m b 2)) = Stw m b 3 from rfl]
  rw [passS hw (j := 3) (by omega) (v := x9_sights (Stw m b 3)) rfl, bs]
  dsimp only
  rw [show p9_sights (Stw m b (3 + 1)) (x9_sights (Stw m b 3)) = Stw m b 4 from rfl]
  rw [show lp_X9_passAll_50 FUEL 0 (Stw m b 4) = _ from ws1 hw hb FUEL 0 (by omega) (by decide), bs]
  rw [show lp_X9_passAll_160 FUEL 0 (Stw m b 40) = _ from ws2 hw hb FUEL 0 (by omega) (by decide), bs]
/-- the image k is kept: the state behind -/
theorem image_m (m : S9) {k : Nat} (hk : k < 2) : ∃ m2, sem_X9_image (nI k) m = some (1, m2) ∧ m2.1 = m.1 ∧ m2.2.1 = m.2.1 ∧ m2.2.2.1 = m.2.2.1 ∧ (∀ q, x9_kept m2 q = if 60 * k ≤ q ∧ q < 60 * k + 56 then vals m (q - 60 * k) else x9_kept m q) ∧ x9_isKept m2 = upd (x9_isKept m) k 1 := by
  have e : sem_X9_in (nI k).toInt64 0 1 = some 1 := by
    rw [in_eq, nI_l (by omega), if_pos]
    exact ⟨(lN_le (a := 0) (b := k) (by decide) (by omega)).mpr (by omega), (lN_le (a := k) (b := 1) (by omega) (by decide)).mpr (by omega)⟩
  have e60 : (60 : Int32) * nI k = nI (60 * k) := pk_mul 60 k
  have h := passAll_w (m := p9_isWriting m 1) rfl (b := 60 * k) (by omega)
  unfold sem_X9_image
  rw [e, bs, if_neg one_ne, e60]
  have e0 : p9_isWriting (p9_keptAt m (nI (60 * k))) 1 = Stw (p9_isWriting m 1) (60 * k) 0 := by
    unfold Stw Wst
    rw [KW_0]
    rfl
  rw [e0, h, bs, ck_in (vp_in_nI hk (by decide)), tcl (by omega)]
  refine ⟨_, rfl, rfl, rfl, rfl, fun q => rfl, ?_⟩
  rfl
theorem RI.other {m m2 : S9} {k : Nat} {j : Option S6} (h : RI j m k) (h1 : x9_isKept m2 k = x9_isKept m k) (h2 : ∀ q, 60 * k ≤ q → q < 60 * k + 56 → x9_kept m2 q = x9_kept m q) : RI j m2 k := by
  cases j with
  | none => exact h1.trans h
  | some t =>
    obtain ⟨a1, a2, a3⟩ := h
    refine ⟨h1.trans a1, ?_, ?_⟩
    · rw [h2 (60 * k) (by omega) (by omega), h2 (60 * k + 1) (by omega) (by omega), h2 (60 * k + 2) (by omega) (by omega), h2 (60 * k + 3) (by omega) (by omega)]
      exact a2.congr (fun i hi f hf => h2 _ (by omega) (by omega)) (fun e he => h2 _ (by omega) (by omega)) (fun e he => h2 _ (by omega) (by omega))
    · rw [h2 (60 * k) (by omega) (by omega), h2 (60 * k + 1) (by omega) (by omega), h2 (60 * k + 2) (by omega) (by omega), h2 (60 * k + 3) (by omega) (by omega)]
      exact a3.congr (fun i hi f hf => h2 _ (by omega) (by omega)) (fun e he => h2 _ (by omega) (by omega)) (fun e he => h2 _ (by omega) (by omega))
theorem RTk_new {s : S8} {m m2 : S9} {k : Nat} (hR : RTm (x8_town s) m) (v : S6) (hv : ∀ {th li ea si : Int32} {F : Nat → Nat → Int32} {O Hd : Nat → Int32}, RT (x8_town s) th li ea si F O Hd → RT v th li ea si F O Hd) (h2 : ∀ q, x9_kept m2 q = if 60 * k ≤ q ∧ q < 60 * k + 56 then vals m (q - 60 * k) else x9_kept m q) : RTk v m2 k := by
  have hq : ∀ j, j < 56 → x9_kept m2 (60 * k + j) = vals m j := fun j hj => by
    rw [h2, if_pos (by omega), show 60 * k + j - 60 * k = j by omega]
  have q0 : x9_kept m2 (60 * k) = x9_there m := hq 0 (by decide)
  have q1 : x9_kept m2 (60 * k + 1) = x9_limit m := hq 1 (by decide)
  have q2 : x9_kept m2 (60 * k + 2) = x9_ears m := hq 2 (by decide)
  have q3 : x9_kept m2 (60 * k + 3) = x9_sights m := hq 3 (by decide)
  have qF : ∀ i, i < 6 → ∀ f, f < 6 → kF m2 k i f = mF m i f := fun i hi f hf => by
    unfold kF
    rw [show 60 * k + 4 + 6 * i + f = 60 * k + (4 + 6 * i + f) by omega, hq _ (by omega), vals_f m hi hf]
  have qO : ∀ e, e < 8 → x9_kept m2 (60 * k + 40 + 2 * e) = x9_sightOne m e := fun e he => by
    rw [show 60 * k + 40 + 2 * e = 60 * k + (40 + 2 * e) by omega, hq _ (by omega), vals_o]
  have qH : ∀ e, e < 8 → x9_kept m2 (60 * k + 41 + 2 * e) = x9_sightHeard m e := fun e he => by
    rw [show 60 * k + 41 + 2 * e = 60 * k + (41 + 2 * e) by omega, hq _ (by omega), vals_h]
  unfold RTk
  rw [q0, q1, q2, q3]
  exact ⟨(hv hR.1).congr qF qO qH, hR.2.congr qF qO qH⟩
theorem RR.mk {s s2 : S8} {m m2 : S9} {j0 j1 k0 k1 : Option S6} (h : RR s m j0 j1) (ht : RTm (x8_town s2) m2) (h1 : x8_pad s2 = x8_pad s) (h2 : x8_thrift s2 = x8_thrift s) (h3 : x8_covering s2 = x8_covering s) (e1 : m2.2.2.1 = m.2.2.1) (i0 : RI k0 m2 0) (i1 : RI k1 m2 1) : RR s2 m2 k0 k1 := by
  obtain ⟨-, a2, -, -, a5, a6⟩ := h
  refine ⟨ht, ?_, i0, i1, by rw [h2]; exact a5, by rw [h3]; exact a6⟩
  rw [h1]
  unfold RP x9_padMany x9_pad at a2 ⊢
  rw [e1]
  exact a2
theorem RTm.same {t : S6} {m m2 : S9} (h : RTm t m) (e0 : m2.1 = m.1) (e1 : m2.2.1 = m.2.1) : RTm t m2 := by
  have q1 : mF m2 = mF m := by
    funext i f
    unfold mF x9_temper x9_permits x9_stamps x9_purse x9_yard x9_cause
    rw [e1]
  unfold RTm at h ⊢
  rw [q1]
  unfold x9_there x9_limit x9_ears x9_sights x9_sightOne x9_sightHeard at h ⊢
  rw [e0, e1]
  exact h
theorem ok_image : hF_image RR := by
  intro x1 s m j0 j1 hR
  rcases gd x1 0 1 (by decide) (by decide) (a := 0) (b := 1) (A := 0) (B := 1) rfl rfl rfl rfl with ⟨k, -, hk, rfl, e1, e2⟩ | ⟨e1, e2, -⟩
  · obtain ⟨m2, h1, h2, h3, h4, h5, h6⟩ := image_m m (k := k) (by omega)
    have hk01 : k = 0 ∨ k = 1 := by omega
    rcases hk01 with rfl | rfl
    · obtain ⟨v, v1, v2⟩ := take_n (j0.getD i6) (x8_town s)
      refine Or.inr (Or.inl ⟨rfl, v, m2, v1, h1, ?_⟩)
      refine hR.mk (hR.1.same h2 h3) rfl rfl rfl h4 ⟨by rw [h6]; rfl, RTk_new hR.1 v v2 h5⟩ ?_
      refine hR.2.2.2.1.other (by rw [h6]; rfl) (fun q q1 q2 => ?_)
      rw [h5, if_neg (by omega)]
    · obtain ⟨v, v1, v2⟩ := take_n (j1.getD i6) (x8_town s)
      refine Or.inr (Or.inr ⟨rfl, v, m2, v1, h1, ?_⟩)
      refine hR.mk (hR.1.same h2 h3) rfl rfl rfl h4 ?_ ⟨by rw [h6]; rfl, RTk_new hR.1 v v2 h5⟩
      refine hR.2.2.1.other (by rw [h6]; rfl) (fun q q1 q2 => ?_)
      rw [h5, if_neg (by omega)]
  · refine Or.inl ⟨e2, m, ?_, hR⟩
    unfold sem_X9_image
    rw [e1]; rfl
