/-! restore -/
abbrev L4 : Type := Int32 × Int32 × Int32 × Int32
abbrev L8 : Type := (Nat → Int32) × (Nat → Int32) × (Nat → Int32) × (Nat → Int32) × (Nat → Int32) × (Nat → Int32) × (Nat → Int32) × (Nat → Int32)
def Lv (m : S9) (a : L4) (b : L8) (p : Nat) : S9 := (a, b, m.2.2.1, m.2.2.2.1, m.2.2.2.2.1, m.2.2.2.2.2.1, m.2.2.2.2.2.2.1, m.2.2.2.2.2.2.2.1, m.2.2.2.2.2.2.2.2.1, x9_kept m, x9_isKept m, nI p, 0)
theorem pass_r (m : S9) (a : L4) (b : L8) {p : Nat} (hp : p < 120) (v : Int32) : sem_X9_pass v (Lv m a b p) = some (x9_kept m p, Lv m a b (p + 1)) := by
  have e1 : x9_isWriting (Lv m a b p) = 0 := rfl
  have e2 : x9_keptAt (Lv m a b p) = nI p := rfl
  have e3 : x9_kept (Lv m a b p) = x9_kept m := rfl
  unfold sem_X9_pass
  rw [e1, if_pos rfl]
  unfold jn_X9_pass_20
  simp only [e2, e3, ck_in (show vp_in (nI p) 120 from vp_in_nI hp (by decide)), tcl (show p < 2 ^ 31 by omega), upd_self]
  show some (x9_kept m p, p9_keptAt (Lv m a b p) (nI p + 1)) = _
  rw [nI_1]
  rfl
def ld (K : Nat → Int32) (o : Nat → Int32) (i : Nat) : Nat → Int32 := fun q => if q < i then K q else o q
theorem ld_s (K o : Nat → Int32) (i : Nat) : upd (ld K o i) i (K i) = ld K o (i + 1) := by
  funext q
  unfold upd ld
  by_cases h : q = i
  · rw [if_pos h, if_pos (by omega), h]
  · rw [if_neg h]
    by_cases h2 : q < i
    · rw [if_pos h2, if_pos (by omega)]
    · rw [if_neg h2, if_neg (by omega)]
theorem ld_0 (K o : Nat → Int32) : ld K o 0 = o := by
  funext q
  unfold ld
  rw [if_neg (by omega)]
def kc (m : S9) (b f : Nat) : Nat → Int32 := fun q => x9_kept m (b + 4 + 6 * q + f)
def ko (m : S9) (b f : Nat) : Nat → Int32 := fun q => x9_kept m (b + 40 + f + 2 * q)
def B8 (m : S9) (b i j : Nat) : L8 := (ld (kc m b 0) (x9_temper m) i, ld (kc m b 1) (x9_permits m) i, ld (kc m b 2) (x9_stamps m) i, ld (kc m b 3) (x9_purse m) i, ld (kc m b 4) (x9_yard m) i, ld (kc m b 5) (x9_cause m) i, ld (ko m b 0) (x9_sightOne m) j, ld (ko m b 1) (x9_sightHeard m) j)
theorem rs1 (m : S9) (a : L4) {b : Nat} (hb : b ≤ 60) : ∀ n i, i ≤ 6 → 7 ≤ n + i → lp_X9_passAll_50 n (nI i) (Lv m a (B8 m b i 0) (b + 4 + 6 * i)) = some (Lv m a (B8 m b 6 0) (b + 40)) := by
  intro n
  induction n with
  | zero => intro i h1 h2; omega
  | succ n ih =>
    intro i h1 h2
    show bd_X9_passAll_50 (lp_X9_passAll_50 n) _ _ = _
    unfold bd_X9_passAll_50
    by_cases hi : i = 6
    · subst hi
      rw [if_pos (by decide)]
    · have hi6 : i < 6 := by omega
      rw [if_neg (no6 hi6), nI_1]
      simp only [ck_in (show vp_in (nI i) 6 from vp_in_nI hi6 (by decide)), tcl (show i < 2 ^ 31 by omega)]
      rw [pass_r m a _ (p := b + 4 + 6 * i) (by omega), bs]
      dsimp only
      rw [show p9_temper (Lv m a (B8 m b i 0) (b + 4 + 6 * i + 1)) (upd (x9_temper (Lv m a (B8 m b i 0) (b + 4 + 6 * i + 1))) i (x9_kept m (b + 4 + 6 * i))) = Lv m a (upd (ld (kc m b 0) (x9_temper m) i) i (kc m b 0 i), (B8 m b i 0).2) (b + 4 + 6 * i + 1) from rfl, ld_s]
      rw [pass_r m a _ (p := b + 4 + 6 * i + 1) (by omega), bs]
      dsimp only
      rw [show p9_permits (Lv m a (ld (kc m b 0) (x9_temper m) (i + 1), (B8 m b i 0).2) (b + 4 + 6 * i + 1 + 1)) (upd (x9_permits (Lv m a (ld (kc m b 0) (x9_temper m) (i + 1), (B8 m b i 0).2) (b + 4 + 6 * i + 1 + 1))) i (x9_kept m (b + 4 + 6 * i + 1))) = Lv m a (ld (kc m b 0) (x9_temper m) (i + 1), upd (ld (kc m b 1) (x9_permits m) i) i (kc m b 1 i), (B8 m b i 0).2.2) (b + 4 + 6 * i + 2) from rfl, ld_s]
      rw [pass_r m a _ (p := b + 4 + 6 * i + 2) (by omega), bs]
      dsimp only
      rw [show p9_stamps (Lv m a (ld (kc m b 0) (x9_temper m) (i + 1), ld (kc m b 1) (x9_permits m) (i + 1), (B8 m b i 0).2.2) (b + 4 + 6 * i + 2 + 1)) (upd (x9_stamps (Lv m a (ld (kc m b 0) (x9_temper m) (i + 1), ld (kc m b 1) (x9_permits m) (i + 1), (B8 m b i 0).2.2) (b + 4 + 6 * i + 2 + 1))) i (x9_kept m (b + 4 + 6 * i + 2))) = Lv m a (ld (kc m b 0) (x9_temper m) (i + 1), ld (kc m b 1) (x9_permits m) (i + 1), upd (ld (kc m b 2) (x9_stamps m) i) i (kc m b 2 i), (B8 m b i 0).2.2.2) (b + 4 + 6 * i + 3) from rfl, ld_s]
      rw [pass_r m a _ (p := b + 4 + 6 * i + 3) (by omega), bs]
      dsimp only
      rw [show p9_purse (Lv m a (ld (kc m b 0) (x9_temper m) (i + 1), ld (kc m b 1) (x9_permits m) (i + 1), ld (kc m b 2) (x9_stamps m) (i + 1), (B8 m b i 0).2.2.2) (b + 4 + 6 * i + 3 + 1)) (upd (x9_purse (Lv m a (ld (kc m b 0) (x9_temper m) (i + 1), ld (kc m b 1) (x9_permits m) (i + 1), ld (kc m b 2) (x9_stamps m) (i + 1), (B8 m b i 0).2.2.2) (b + 4 + 6 * i + 3 + 1))) i (x9_kept m (b + 4 + 6 * i + 3))) = Lv m a (ld (kc m b 0) (x9_temper m) (i + 1), ld (kc m b 1) (x9_permits m) (i + 1), ld (kc m b 2) (x9_stamps m) (i + 1), upd (ld (kc m b 3) (x9_purse m) i) i (kc m b 3 i), (B8 m b i 0).2.2.2.2) (b + 4 + 6 * i + 4) from rfl, ld_s]
      rw [pass_r m a _ (p := b + 4 + 6 * i + 4) (by omega), bs]
      dsimp only
      rw [show p9_yard (Lv m a (ld (kc m b 0) (x9_temper m) (i + 1), ld (kc m b 1) (x9_permits m) (i + 1), ld (kc m b 2) (x9_stamps m) (i + 1), ld (kc m b 3) (x9_purse m) (i + 1), (B8 m b i 0).2.2.2.2) (b + 4 + 6 * i + 4 + 1)) (upd (x9_yard (Lv m a (ld (kc m b 0) (x9_temper m) (i + 1), ld (kc m b 1) (x9_permits m) (i + 1), ld (kc m b 2) (x9_stamps m) (i + 1), ld (kc m b 3) (x9_purse m) (i + 1), (B8 m b i 0).2.2.2.2) (b + 4 + 6 * i + 4 + 1))) i (x9_kept m (b + 4 + 6 * i + 4))) = Lv m a (ld (kc m b 0) (x9_temper m) (i + 1), ld (kc m b 1) (x9_permits m) (i + 1), ld (kc m b 2) (x9_stamps m) (i + 1), ld (kc m b 3) (x9_purse m) (i + 1), upd (ld (kc m b 4) (x9_yard m) i) i (kc m b 4 i), (B8 m b i 0).2.2.2.2.2) (b + 4 + 6 * i + 5) from rfl, ld_s]
      rw [pass_r m a _ (p := b + 4 + 6 * i + 5) (by omega), bs]
      dsimp only
      rw [show p9_cause (Lv m a (ld (kc m b 0) (x9_temper m) (i + 1), ld (kc m b 1) (x9_permits m) (i + 1), ld (kc m b 2) (x9_stamps m) (i + 1), ld (kc m b 3) (x9_purse m) (i + 1), ld (kc m b 4) (x9_yard m) (i + 1), (B8 m b i 0).2.2.2.2.2) (b + 4 + 6 * i + 5 + 1)) (upd (x9_cause (Lv m a (ld (kc m b 0) (x9_temper m) (i + 1), ld (kc m b 1) (x9_permits m) (i + 1), ld (kc m b 2) (x9_stamps m) (i + 1), ld (kc m b 3) (x9_purse m) (i + 1), ld (kc m b 4) (x9_yard m) (i + 1), (B8 m b i 0).2.2.2.2.2) (b + 4 + 6 * i + 5 + 1))) i (x9_kept m (b + 4 + 6 * i + 5))) = Lv m a (ld (kc m b 0) (x9_temper m) (i + 1), ld (kc m b 1) (x9_permits m) (i + 1), ld (kc m b 2) (x9_stamps m) (i + 1), ld (kc m b 3) (x9_purse m) (i + 1), ld (kc m b 4) (x9_yard m) (i + 1), upd (ld (kc m b 5) (x9_cause m) i) i (kc m b 5 i), (B8 m b i 0).2.2.2.2.2.2) (b + 4 + 6 * i + 6) from rfl, ld_s]
      have h := ih (i + 1) (by omega) (by omega)
      rw [show b + 4 + 6 * (i + 1) = b + 4 + 6 * i + 6 by omega] at h
      exact h
theorem rs2 (m : S9) (a : L4) {b : Nat} (hb : b ≤ 60) : ∀ n i, i ≤ 8 → 9 ≤ n + i → lp_X9_passAll_160 n (nI i) (Lv m a (B8 m b 6 i) (b + 40 + 2 * i)) = some (Lv m a (B8 m b 6 8) (b + 56)) := by
  intro n
  induction n with
  | zero => intro i h1 h2; omega
  | succ n ih =>
    intro i h1 h2
    show bd_X9_passAll_160 (lp_X9_passAll_160 n) _ _ = _
    unfold bd_X9_passAll_160
    by_cases hi : i = 8
    · subst hi
      rw [if_pos (by decide)]
    · have hi8 : i < 8 := by omega
      rw [if_neg (show ¬ (8 : Int32) ≤ nI i from nI_ge (a := i) (b := 8) hi8 (by decide)), nI_1]
      simp only [ck_in (show vp_in (nI i) 8 from vp_in_nI hi8 (by decide)), tcl (show i < 2 ^ 31 by omega)]
      rw [pass_r m a _ (p := b + 40 + 2 * i) (by omega), bs]
      dsimp only
      have k0 : x9_kept m (b + 40 + 2 * i) = ko m b 0 i := rfl
      have k1 : x9_kept m (b + 40 + 2 * i + 1) = ko m b 1 i := by unfold ko; rw [show b + 40 + 2 * i + 1 = b + 40 + 1 + 2 * i by omega]
      rw [k0]
      rw [show p9_sightOne (Lv m a (B8 m b 6 i) (b + 40 + 2 * i + 1)) (upd (x9_sightOne (Lv m a (B8 m b 6 i) (b + 40 + 2 * i + 1))) i (ko m b 0 i)) = Lv m a (ld (kc m b 0) (x9_temper m) 6, ld (kc m b 1) (x9_permits m) 6, ld (kc m b 2) (x9_stamps m) 6, ld (kc m b 3) (x9_purse m) 6, ld (kc m b 4) (x9_yard m) 6, ld (kc m b 5) (x9_cause m) 6, upd (ld (ko m b 0) (x9_sightOne m) i) i (ko m b 0 i), ld (ko m b 1) (x9_sightHeard m) i) (b + 40 + 2 * i + 1) from rfl, ld_s]
      rw [pass_r m a _ (p := b + 40 + 2 * i + 1) (by omega), bs, k1]
      dsimp only
      rw [show p9_sightHeard (Lv m a (ld (kc m b 0) (x9_temper m) 6, ld (kc m b 1) (x9_permits m) 6, ld (kc m b 2) (x9_stamps m) 6, ld (kc m b 3) (x9_purse m) 6, ld (kc m b 4) (x9_yard m) 6, ld (kc m b 5) (x9_cause m) 6, ld (ko m b 0) (x9_sightOne m) (i + 1), ld (ko m b 1) (x9_sightHeard m) i) (b + 40 + 2 * i + 1 + 1)) (upd (x9_sightHeard (Lv m a (ld (kc m b 0) (x9_temper m) 6, ld (kc m b 1) (x9_permits m) 6, ld (kc m b 2) (x9_stamps m) 6, ld (kc m b 3) (x9_purse m) 6, ld (kc m b 4) (x9_yard m) 6, ld (kc m b 5) (x9_cause m) 6, ld (ko m b 0) (x9_sightOne m) (i + 1), ld (ko m b 1) (x9_sightHeard m) i) (b + 40 + 2 * i + 1 + 1))) i (ko m b 1 i)) = Lv m a (ld (kc m b 0) (x9_temper m) 6, ld (kc m b 1) (x9_permits m) 6, ld (kc m b 2) (x9_stamps m) 6, ld (kc m b 3) (x9_purse m) 6, ld (kc m b 4) (x9_yard m) 6, ld (kc m b 5) (x9_cause m) 6, ld (ko m b 0) (x9_sightOne m) (i + 1), upd (ld (ko m b 1) (x9_sightHeard m) i) i (ko m b 1 i)) (b + 40 + 2 * i + 2) from rfl, ld_s]
      have h := ih (i + 1) (by omega) (by omega)
      rw [show b + 40 + 2 * (i + 1) = b + 40 + 2 * i + 2 by omega] at h
      exact h
theorem passAll_r (m : S9) {b : Nat} (hb : b ≤ 60) : sem_X9_passAll (p9_isWriting (p9_keptAt m (nI b)) 0) = some (Lv m (x9_kept m b, x9_kept m (b + 1), x9_kept m (b + 2), x9_kept m (b + 3)) (B8 m b 6 8) (b + 56)) := by
  have e0 : p9_isWriting (p9_keptAt m (nI b)) 0 = Lv m (x9_there m, x9_limit m, x9_ears m, x9_sights m) (B8 m b 0 0) b := by
    unfold Lv B8
    rw [ld_0, ld_0, ld_0, ld_0, ld_0, ld_0, ld_0, ld_0]
    rfl
  rw [e0]
  unfold sem_X9_passAll
  rw [pass_r m _ _ (p := b) (by omega), bs]
  dsimp only
  rw [show p9_there (Lv m (x9_there m, x9_limit m, x9_ears m, x9_sights m) (B8 m b 0 0) (b + 1)) (x9_kept m b) = Lv m (x9_kept m b, x9_limit m, x9_ears m, x9_sights m) (B8 m b 0 0) (b + 1) from rfl]
  rw [pass_r m _ _ (p := b + 1) (by omega), bs]
  dsimp only
  rw [show p9_limit (Lv m (x9_kept m b, x9_limit m, x9_ears m, x9_sights m) (B8 m b 0 0) (b + 1 + 1)) (x9_kept m (b + 1)) = Lv m (x9_kept m b, x9_kept m (b + 1), x9_ears m, x9_sights m) (B8 m b 0 0) (b + 2) from rfl]
  rw [pass_r m _ _ (p := b + 2) (by omega), bs]
  dsimp only
  rw [show p9_ears (Lv m (x9_kept m b, x9_kept m (b + 1), x9_ears m, x9_sights m) (B8 m b 0 0) (b + 2 + 1)) (x9_kept m (b + 2)) = Lv m (x9_kept m b, x9_kept m (b + 1), x9_kept m (b + 2), x9_sights m) (B8 m b 0 0) (b + 3) from rfl]
  rw [pass_r m _ _ (p := b + 3) (by omega), bs]
  dsimp only
  rw [show p9_sights (Lv m (x9_kept m b, x9_kept m (b + 1), x9_kept m (b + 2), x9_sights m) (B8 m b 0 0) (b + 3 + 1)) (x9_kept m (b + 3)) = Lv m (x9_kept m b, x9_kept m (b + 1), x9_kept m (b + 2), x9_kept m (b + 3)) (B8 m b 0 0) (b + 4 + 6 * 0) from rfl]
  rw [show lp_X9_passAll_50 FUEL 0 _ = _ from rs1 m _ hb FUEL 0 (by omega) (by decide), bs]
  rw [show lp_X9_passAll_160 FUEL 0 _ = _ from rs2 m _ hb FUEL 0 (by omega) (by decide), bs]
theorem ok_restore : hF_restore RR := by
  intro x1 s m j0 j1 hR
  rcases gd x1 0 1 (by decide) (by decide) (a := 0) (b := 1) (A := 0) (B := 1) rfl rfl rfl rfl with ⟨k, -, hk, rfl, e1, e2⟩ | ⟨e1, e2, -⟩
  · have no : x9_isKept m k = 0 → sem_X9_restore (nI k) m = some (-3, m) := fun h => by
      unfold sem_X9_restore
      rw [e1, bs, if_neg one_ne, ck_in (vp_in_nI (by omega) (by decide)), tcl (by omega), if_pos h]
    have yes : x9_isKept m k = 1 → sem_X9_restore (nI k) m = some (1, Lv m (x9_kept m (60 * k), x9_kept m (60 * k + 1), x9_kept m (60 * k + 2), x9_kept m (60 * k + 3)) (B8 m (60 * k) 6 8) (60 * k + 56)) := fun h => by
      unfold sem_X9_restore
      rw [e1, bs, if_neg one_ne, ck_in (vp_in_nI (by omega) (by decide)), tcl (by omega), h, if_neg one_ne]
      rw [show (60 : Int32) * nI k = nI (60 * k) from pk_mul 60 k, passAll_r m (by omega), bs]
    have keepI : ∀ (q : Nat) (j : Option S6), RI j m q → RI j (Lv m (x9_kept m (60 * k), x9_kept m (60 * k + 1), x9_kept m (60 * k + 2), x9_kept m (60 * k + 3)) (B8 m (60 * k) 6 8) (60 * k + 56)) q := fun q j h => h.other rfl (fun _ _ _ => rfl)
    have back : ∀ (t v : S6), RTk t m k → (∀ {th li ea si : Int32} {F : Nat → Nat → Int32} {O Hd : Nat → Int32}, RT t th li ea si F O Hd → RT v th li ea si F O Hd) → RTm v (Lv m (x9_kept m (60 * k), x9_kept m (60 * k + 1), x9_kept m (60 * k + 2), x9_kept m (60 * k + 3)) (B8 m (60 * k) 6 8) (60 * k + 56)) := fun t v h hv => by
      have qF : ∀ i, i < 6 → ∀ f, f < 6 → mF (Lv m (x9_kept m (60 * k), x9_kept m (60 * k + 1), x9_kept m (60 * k + 2), x9_kept m (60 * k + 3)) (B8 m (60 * k) 6 8) (60 * k + 56)) i f = kF m k i f := fun i hi f hf => by
        match f, hf with
        | 0, _ => exact if_pos hi
        | 1, _ => exact if_pos hi
        | 2, _ => exact if_pos hi
        | 3, _ => exact if_pos hi
        | 4, _ => exact if_pos hi
        | 5, _ => exact if_pos hi
        | f + 6, h => omega
      have qO : ∀ e, e < 8 → x9_sightOne (Lv m (x9_kept m (60 * k), x9_kept m (60 * k + 1), x9_kept m (60 * k + 2), x9_kept m (60 * k + 3)) (B8 m (60 * k) 6 8) (60 * k + 56)) e = x9_kept m (60 * k + 40 + 2 * e) := fun e he => if_pos he
      have qH : ∀ e, e < 8 → x9_sightHeard (Lv m (x9_kept m (60 * k), x9_kept m (60 * k + 1), x9_kept m (60 * k + 2), x9_kept m (60 * k + 3)) (B8 m (60 * k) 6 8) (60 * k + 56)) e = x9_kept m (60 * k + 41 + 2 * e) := fun e he => if_pos he
      exact ⟨(hv h.1).congr qF qO qH, h.2.congr qF qO qH⟩
    have hk01 : k = 0 ∨ k = 1 := by omega
    rcases hk01 with rfl | rfl
    · refine Or.inr (Or.inl ⟨rfl, ?_⟩)
      have hI := hR.2.2.1
      cases j0 with
      | none => exact Or.inl ⟨rfl, m, no hI, hR⟩
      | some t =>
        obtain ⟨v, v1, v2⟩ := take_n (x8_town s) t
        refine Or.inr ⟨t, v, _, rfl, v1, yes hI.1, ?_⟩
        exact hR.mk (back t v hI.2 v2) rfl rfl rfl rfl (keepI 0 _ hI) (keepI 1 _ hR.2.2.2.1)
    · refine Or.inr (Or.inr ⟨rfl, ?_⟩)
      have hI := hR.2.2.2.1
      cases j1 with
      | none => exact Or.inl ⟨rfl, m, no hI, hR⟩
      | some t =>
        obtain ⟨v, v1, v2⟩ := take_n (x8_town s) t
        refine Or.inr ⟨t, v, _, rfl, v1, yes hI.1, ?_⟩
        exact hR.mk (back t v hI.2 v2) rfl rfl rfl rfl (keepI 0 _ hR.2.2.1) (keepI 1 _ hI)
  · refine Or.inl ⟨e2, m, ?_, hR⟩
    unfold sem_X9_restore
    rw [e1]; rfl
