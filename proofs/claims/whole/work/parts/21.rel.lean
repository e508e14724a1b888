/-! the relation between the class's state and the reference's -/
theorem has_n {T : Nat} (hT : T < 64) {s : S6} (hs : x6_there s = nI T) {k : Nat} (hk : k < 6) : sem_X6_has (nI k) s = some (if T.testBit k then 1 else 0) := by
  unfold sem_X6_has
  rw [if_neg (nI_pos (by omega)), if_neg (no6 hk), hs]
  have h := bit_n T hT k hk
  by_cases c : T.testBit k = true
  · rw [if_pos (h.mpr c), if_pos c]
  · rw [if_neg (fun z => c (h.mp z)), if_neg c]
theorem has_out {s : S6} {x : Int32} (h : ¬ (nI 0 ≤ x ∧ x ≤ nI 5)) : sem_X6_has x s = some 0 := by
  unfold sem_X6_has
  by_cases c : x < 0
  · rw [if_pos c]
  · rw [if_neg c]
    by_cases c2 : (6 : Int32) ≤ x
    · rw [if_pos c2]
    · exfalso
      apply h
      rw [Int32.lt_iff_toInt_lt] at c
      rw [Int32.le_iff_toInt_le] at c2
      rw [Int32.le_iff_toInt_le, Int32.le_iff_toInt_le]
      have e0 : (nI 0).toInt = 0 := rfl
      have e5 : (nI 5).toInt = 5 := rfl
      have e6 : (6 : Int32).toInt = 6 := rfl
      have ez : (0 : Int32).toInt = 0 := rfl
      omega
theorem isOne_n {T : Nat} (hT : T < 64) {m : S9} (hm : x9_there m = nI T) {k : Nat} (hk : k < 6) : sem_X9_isOne (nI k) m = some (if T.testBit k then 1 else 0) := by
  unfold sem_X9_isOne
  have e : sem_X9_in (nI k).toInt64 0 5 = some 1 := by
    rw [in_eq, nI_l (by omega)]
    rw [if_pos]
    exact ⟨(lN_le (a := 0) (b := k) (by decide) (by omega)).mpr (by omega), (lN_le (a := k) (b := 5) (by omega) (by decide)).mpr (by omega)⟩
  rw [e, hm, bs, if_neg one_ne]
  have h := bit_n T hT k hk
  by_cases c : T.testBit k = true
  · rw [if_pos (h.mpr c), if_pos c]
  · rw [if_neg (fun z => c (h.mp z)), if_neg c]
theorem isOne_out {m : S9} {x : Int32} (h : sem_X9_in x.toInt64 0 5 = some 0) : sem_X9_isOne x m = some 0 := by
  unfold sem_X9_isOne
  rw [h]
  rfl
/-- is this one there: for both sides at once -/
theorem gone (x : Int32) {T : Nat} (hT : T < 64) {s : S6} {m : S9} (hs : x6_there s = nI T) (hm : x9_there m = nI T) :
    (∃ k : Nat, k < 6 ∧ x = nI k ∧ T.testBit k = true ∧ sem_X6_has x s = some 1 ∧ sem_X9_isOne x m = some 1) ∨ (sem_X6_has x s = some 0 ∧ sem_X9_isOne x m = some 0) := by
  rcases gd x 0 5 (by decide) (by decide) (a := 0) (b := 5) (A := 0) (B := 5) rfl rfl rfl rfl with ⟨k, -, hk, rfl, e1, e2⟩ | ⟨e1, e2, e3⟩
  · rw [has_n hT hs (by omega), isOne_n hT hm (by omega)]
    by_cases c : T.testBit k = true
    · exact Or.inl ⟨k, by omega, rfl, c, by rw [if_pos c], by rw [if_pos c]⟩
    · exact Or.inr ⟨by rw [if_neg c], by rw [if_neg c]⟩
  · exact Or.inr ⟨has_out e3, isOne_out e1⟩
theorem tcl {k : Nat} (h : k < 2 ^ 31) : (nI k).toNatClampNeg = k := nI_clamp h
theorem ix6 {i f : Nat} (hi : i < 6) (hf : f < 6) : (nI i * 6 + nI f) = nI (i * 6 + f) := by
  have h : nI i * nI 6 = nI (i * 6) := pk_mul i 6
  rw [show (6 : Int32) = nI 6 from rfl, h, nI_add]
theorem get_n {s : S6} {i f : Nat} (hi : i < 6) (hf : f < 6) : sem_X6_get (nI i) (nI f) s = some (x6_facts s (i * 6 + f)) := by
  unfold sem_X6_get
  rw [if_neg (nI_pos (by omega)), if_neg (no6 hi), if_neg (nI_pos (by omega)), if_neg (no6 hf), ix6 hi hf]
  rw [ck_in (vp_in_nI (by omega) (by omega)), tcl (by omega)]
theorem put_n {s : S6} {i f : Nat} (hi : i < 6) (hf : f < 6) (v : Int32) : sem_X6_put (nI i) (nI f) v s = some (p6_facts s (upd (x6_facts s) (i * 6 + f) v)) := by
  unfold sem_X6_put
  rw [if_neg (nI_pos (by omega)), if_neg (no6 hi), if_neg (nI_pos (by omega)), if_neg (no6 hf), ix6 hi hf]
  rw [ck_in (vp_in_nI (by omega) (by omega)), tcl (by omega)]
theorem get_l {s : S6} {i : Nat} (hi : i < 6) (f : Nat) (hf : f < 6) (v : Int32) (hv : v = nI f) : sem_X6_get (nI i) v s = some (x6_facts s (i * 6 + f)) := by rw [hv]; exact get_n hi hf
theorem put_l {s : S6} {i : Nat} (hi : i < 6) (f : Nat) (hf : f < 6) (v w : Int32) (hv : v = nI f) : sem_X6_put (nI i) v w s = some (p6_facts s (upd (x6_facts s) (i * 6 + f) w)) := by rw [hv]; exact put_n hi hf w
/-- what the reference's rows hold of the one i, in the order of the class's facts -/
def mF (m : S9) : Nat → Nat → Int32 := fun i f => match f with
  | 0 => x9_temper m i
  | 1 => x9_permits m i
  | 2 => x9_stamps m i
  | 3 => x9_purse m i
  | 4 => x9_yard m i
  | 5 => x9_cause m i
  | _ => 0
/-- a town of the class holds these values -/
def RT (t : S6) (th li ea si : Int32) (F : Nat → Nat → Int32) (O Hd : Nat → Int32) : Prop :=
  x6_there t = th ∧ x6_limit t = li ∧ x6_ears t = ea ∧ x6_sights t = si ∧ (∀ i, i < 6 → ∀ f, f < 6 → x6_facts t (i * 6 + f) = F i f) ∧ (∀ e, e < 8 → x6_asked t e = O e) ∧ (∃ B, B < 256 ∧ x6_heardBits t = nI B ∧ ∀ e, e < 8 → (B.testBit e = true ↔ Hd e = 1))
/-- the bounds of the values -/
def BT (th li ea si : Int32) (F : Nat → Nat → Int32) (O Hd : Nat → Int32) : Prop :=
  ∃ T l e c : Nat, T < 64 ∧ th = nI T ∧ 1 ≤ l ∧ l ≤ 20 ∧ li = nI l ∧ e ≤ 9 ∧ ea = nI e ∧ c ≤ 8 ∧ si = nI c ∧
    (∀ i, i < 6 → ∃ v, v ≤ 20 ∧ F i 0 = nI v ∧ (T.testBit i = true → v ≤ l)) ∧ (∀ i, i < 6 → ∃ v, v ≤ 15 ∧ F i 1 = nI v) ∧ (∀ i, i < 6 → ∃ v, v ≤ 99 ∧ F i 2 = nI v) ∧ (∀ i, i < 6 → ∃ v, v ≤ 999 ∧ F i 3 = nI v) ∧ (∀ i, i < 6 → ∃ v, v ≤ 9 ∧ F i 4 = nI v) ∧ (∀ i, i < 6 → F i 5 = -6 ∨ ∃ v, v ≤ 3 ∧ F i 5 = nI v) ∧
    (∀ k, k < 8 → ∃ v, v ≤ 5 ∧ O k = nI v) ∧ (∀ k, k < 8 → Hd k = 0 ∨ Hd k = 1)
def RTm (t : S6) (m : S9) : Prop := RT t (x9_there m) (x9_limit m) (x9_ears m) (x9_sights m) (mF m) (x9_sightOne m) (x9_sightHeard m) ∧ BT (x9_there m) (x9_limit m) (x9_ears m) (x9_sights m) (mF m) (x9_sightOne m) (x9_sightHeard m)
/-- the image k of the reference -/
def kF (m : S9) (k : Nat) : Nat → Nat → Int32 := fun i f => x9_kept m (60 * k + 4 + 6 * i + f)
def RTk (t : S6) (m : S9) (k : Nat) : Prop := RT t (x9_kept m (60 * k)) (x9_kept m (60 * k + 1)) (x9_kept m (60 * k + 2)) (x9_kept m (60 * k + 3)) (kF m k) (fun e => x9_kept m (60 * k + 40 + 2 * e)) (fun e => x9_kept m (60 * k + 41 + 2 * e)) ∧ BT (x9_kept m (60 * k)) (x9_kept m (60 * k + 1)) (x9_kept m (60 * k + 2)) (x9_kept m (60 * k + 3)) (kF m k) (fun e => x9_kept m (60 * k + 40 + 2 * e)) (fun e => x9_kept m (60 * k + 41 + 2 * e))
def RI (j : Option S6) (m : S9) (k : Nat) : Prop := match j with
  | none => x9_isKept m k = 0
  | some t => x9_isKept m k = 1 ∧ RTk t m k
def RP (p : S3) (m : S9) : Prop := x3_count p = x9_padMany m ∧ (∃ c, c ≤ 60 ∧ x9_padMany m = nI c) ∧ (∀ j, j < 60 → x3_signs p j = x9_pad m j)
def RR : lawR := fun s m j0 j1 => RTm (x8_town s) m ∧ RP (x8_pad s) m ∧ RI j0 m 0 ∧ RI j1 m 1 ∧ (∀ q, 882 ≤ q → q < 1029 → x5_table (x8_thrift s) q = 0) ∧ (∀ q, 294 ≤ q → q < 343 → x0_most (x8_covering s) q = 0)
/-- what of the reference's state the relation speaks of -/
def coreM (m : S9) := (m.1, m.2.1, m.2.2.1, m.2.2.2.2.2.2.2.2.2)
theorem RR.core {s : S8} {m m2 : S9} {j0 j1 : Option S6} (h : RR s m j0 j1) (hc : coreM m2 = coreM m) : RR s m2 j0 j1 := by
  obtain ⟨g1, g2, g3, g4, g5, g6, g7, g8, g9, g10⟩ := m
  obtain ⟨n1, n2, n3, n4, n5, n6, n7, n8, n9, n10⟩ := m2
  simp only [coreM, Prod.mk.injEq] at hc
  obtain ⟨rfl, rfl, rfl, rfl⟩ := hc
  exact h
/-- of the class's -/
theorem RR.coreX {s s2 : S8} {m : S9} {j0 j1 : Option S6} (h : RR s m j0 j1) (h1 : x8_town s2 = x8_town s) (h2 : x8_pad s2 = x8_pad s) (h3 : ∀ q, 882 ≤ q → q < 1029 → x5_table (x8_thrift s2) q = x5_table (x8_thrift s) q) (h4 : ∀ q, 294 ≤ q → q < 343 → x0_most (x8_covering s2) q = x0_most (x8_covering s) q) : RR s2 m j0 j1 := by
  obtain ⟨a1, a2, a3, a4, a5, a6⟩ := h
  exact ⟨by rw [h1]; exact a1, by rw [h2]; exact a2, a3, a4, fun q p1 p2 => by rw [h3 q p1 p2]; exact a5 q p1 p2, fun q p1 p2 => by rw [h4 q p1 p2]; exact a6 q p1 p2⟩
theorem RR_init : RR i8 i9 none none := by
  refine ⟨⟨⟨rfl, rfl, rfl, rfl, ?_, fun e _ => rfl, ?_⟩, ?_⟩, ⟨rfl, ⟨0, by decide, rfl⟩, fun j _ => rfl⟩, rfl, rfl, fun q _ _ => rfl, fun q _ _ => rfl⟩
  · intro i hi f hf
    match f, hf with
    | 0, _ => rfl
    | 1, _ => rfl
    | 2, _ => rfl
    | 3, _ => rfl
    | 4, _ => rfl
    | 5, _ => rfl
    | f + 6, h => omega
  · refine ⟨0, by decide, rfl, fun e he => ?_⟩
    constructor
    · intro h; simp at h
    · intro h; cases h
  · exact ⟨0, 9, 2, 0, by decide, rfl, by decide, by decide, rfl, by decide, rfl, by decide, rfl, fun i _ => ⟨0, by decide, rfl, fun _ => by decide⟩, fun i _ => ⟨0, by decide, rfl⟩, fun i _ => ⟨0, by decide, rfl⟩, fun i _ => ⟨0, by decide, rfl⟩, fun i _ => ⟨0, by decide, rfl⟩, fun i _ => Or.inr ⟨0, by decide, rfl⟩, fun k _ => ⟨0, by decide, rfl⟩, fun k _ => Or.inl rfl⟩

theorem RR.town {s s2 : S8} {m m2 : S9} {j0 j1 : Option S6} (h : RR s m j0 j1) (ht : RTm (x8_town s2) m2) (h1 : x8_pad s2 = x8_pad s) (h2 : x8_thrift s2 = x8_thrift s) (h3 : x8_covering s2 = x8_covering s) (e1 : x9_pad m2 = x9_pad m) (e2 : x9_padMany m2 = x9_padMany m) (e3 : x9_kept m2 = x9_kept m) (e4 : x9_isKept m2 = x9_isKept m) : RR s2 m2 j0 j1 := by
  obtain ⟨-, a2, a3, a4, a5, a6⟩ := h
  refine ⟨ht, ?_, ?_, ?_, by rw [h2]; exact a5, by rw [h3]; exact a6⟩
  · rw [h1]
    obtain ⟨p1, p2, p3⟩ := a2
    exact ⟨by rw [e2]; exact p1, by rw [e2]; exact p2, by rw [e1]; exact p3⟩
  · cases j0 with
    | none => show x9_isKept m2 0 = 0; rw [e4]; exact a3
    | some t =>
      obtain ⟨b1, b2⟩ := a3
      refine ⟨by rw [e4]; exact b1, ?_⟩
      unfold RTk kF at b2 ⊢
      rw [e3]; exact b2
  · cases j1 with
    | none => show x9_isKept m2 1 = 0; rw [e4]; exact a4
    | some t =>
      obtain ⟨b1, b2⟩ := a4
      refine ⟨by rw [e4]; exact b1, ?_⟩
      unfold RTk kF at b2 ⊢
      rw [e3]; exact b2
theorem RR.pad {s s2 : S8} {m m2 : S9} {j0 j1 : Option S6} (h : RR s m j0 j1) (hp : RP (x8_pad s2) m2) (h1 : x8_town s2 = x8_town s) (h2 : x8_thrift s2 = x8_thrift s) (h3 : x8_covering s2 = x8_covering s) (e0 : m2.1 = m.1) (e1 : m2.2.1 = m.2.1) (e3 : x9_kept m2 = x9_kept m) (e4 : x9_isKept m2 = x9_isKept m) : RR s2 m2 j0 j1 := by
  obtain ⟨a1, -, a3, a4, a5, a6⟩ := h
  refine ⟨?_, hp, ?_, ?_, by rw [h2]; exact a5, by rw [h3]; exact a6⟩
  · rw [h1]
    have q1 : mF m2 = mF m := by
      funext i f
      unfold mF x9_temper x9_permits x9_stamps x9_purse x9_yard x9_cause
      rw [e1]
    unfold RTm at a1 ⊢
    rw [q1]
    unfold x9_there x9_limit x9_ears x9_sights x9_sightOne x9_sightHeard at a1 ⊢
    rw [e0, e1]
    exact a1
  · cases j0 with
    | none => show x9_isKept m2 0 = 0; rw [e4]; exact a3
    | some t =>
      obtain ⟨b1, b2⟩ := a3
      refine ⟨by rw [e4]; exact b1, ?_⟩
      unfold RTk kF at b2 ⊢
      rw [e3]; exact b2
  · cases j1 with
    | none => show x9_isKept m2 1 = 0; rw [e4]; exact a4
    | some t =>
      obtain ⟨b1, b2⟩ := a4
      refine ⟨by rw [e4]; exact b1, ?_⟩
      unfold RTk kF at b2 ⊢
      rw [e3]; exact b2
/-- one fact of one changes -/
def updF (F : Nat → Nat → Int32) (k f : Nat) (v : Int32) : Nat → Nat → Int32 := fun i g9 => if i = k ∧ g9 = f then v else F i g9
theorem mF_s0 (m : S9) (k : Nat) (v : Int32) : mF (p9_temper m (upd (x9_temper m) k v)) = updF (mF m) k 0 v := by
  funext i g9
  match g9 with
  | 0 =>
    show (if i = k then v else x9_temper m i) = (if i = k ∧ 0 = 0 then v else x9_temper m i)
    by_cases h : i = k
    · rw [if_pos h, if_pos ⟨h, rfl⟩]
    · rw [if_neg h, if_neg (fun z => h z.1)]
  | 1 =>
    show mF m i 1 = (if i = k ∧ 1 = 0 then v else mF m i 1)
    rw [if_neg (fun z => absurd z.2 (by decide))]
  | 2 =>
    show mF m i 2 = (if i = k ∧ 2 = 0 then v else mF m i 2)
    rw [if_neg (fun z => absurd z.2 (by decide))]
  | 3 =>
    show mF m i 3 = (if i = k ∧ 3 = 0 then v else mF m i 3)
    rw [if_neg (fun z => absurd z.2 (by decide))]
  | 4 =>
    show mF m i 4 = (if i = k ∧ 4 = 0 then v else mF m i 4)
    rw [if_neg (fun z => absurd z.2 (by decide))]
  | 5 =>
    show mF m i 5 = (if i = k ∧ 5 = 0 then v else mF m i 5)
    rw [if_neg (fun z => absurd z.2 (by decide))]
  | g9 + 6 =>
    show (0 : Int32) = (if i = k ∧ g9 + 6 = 0 then v else 0)
    rw [if_neg (fun z => by omega)]
theorem mF_s1 (m : S9) (k : Nat) (v : Int32) : mF (p9_permits m (upd (x9_permits m) k v)) = updF (mF m) k 1 v := by
  funext i g9
  match g9 with
  | 0 =>
    show mF m i 0 = (if i = k ∧ 0 = 1 then v else mF m i 0)
    rw [if_neg (fun z => absurd z.2 (by decide))]
  | 1 =>
    show (if i = k then v else x9_permits m i) = (if i = k ∧ 1 = 1 then v else x9_permits m i)
    by_cases h : i = k
    · rw [if_pos h, if_pos ⟨h, rfl⟩]
    · rw [if_neg h, if_neg (fun z => h z.1)]
  | 2 =>
    show mF m i 2 = (if i = k ∧ 2 = 1 then v else mF m i 2)
    rw [if_neg (fun z => absurd z.2 (by decide))]
  | 3 =>
    show mF m i 3 = (if i = k ∧ 3 = 1 then v else mF m i 3)
    rw [if_neg (fun z => absurd z.2 (by decide))]
  | 4 =>
    show mF m i 4 = (if i = k ∧ 4 = 1 then v else mF m i 4)
    rw [if_neg (fun z => absurd z.2 (by decide))]
  | 5 =>
    show mF m i 5 = (if i = k ∧ 5 = 1 then v else mF m i 5)
    rw [if_neg (fun z => absurd z.2 (by decide))]
  | g9 + 6 =>
    show (0 : Int32) = (if i = k ∧ g9 + 6 = 1 then v else 0)
    rw [if_neg (fun z => by omega)]
theorem mF_s2 (m : S9) (k : Nat) (v : Int32) : mF (p9_stamps m (upd (x9_stamps m) k v)) = updF (mF m) k 2 v := by
  funext i g9
  match g9 with
  | 0 =>
    show mF m i 0 = (if i = k ∧ 0 = 2 then v else mF m i 0)
    rw [if_neg (fun z => absurd z.2 (by decide))]
  | 1 =>
    show mF m i 1 = (if i = k ∧ 1 = 2 then v else mF m i 1)
    rw [if_neg (fun z => absurd z.2 (by decide))]
  | 2 =>
    show (if i = k then v else x9_stamps m i) = (if i = k ∧ 2 = 2 then v else x9_stamps m i)
    by_cases h : i = k
    · rw [if_pos h, if_pos ⟨h, rfl⟩]
    · rw [if_neg h, if_neg (fun z => h z.1)]
  | 3 =>
    show mF m i 3 = (if i = k ∧ 3 = 2 then v else mF m i 3)
    rw [if_neg (fun z => absurd z.2 (by decide))]
  | 4 =>
    show mF m i 4 = (if i = k ∧ 4 = 2 then v else mF m i 4)
    rw [if_neg (fun z => absurd z.2 (by decide))]
  | 5 =>
    show mF m i 5 = (if i = k ∧ 5 = 2 then v else mF m i 5)
    rw [if_neg (fun z => absurd z.2 (by decide))]
  | g9 + 6 =>
    show (0 : Int32) = (if i = k ∧ g9 + 6 = 2 then v else 0)
    rw [if_neg (fun z => by omega)]
theorem mF_s3 (m : S9) (k : Nat) (v : Int32) : mF (p9_purse m (upd (x9_purse m) k v)) = updF (mF m) k 3 v := by
  funext i g9
  match g9 with
  | 0 =>
    show mF m i 0 = (if i = k ∧ 0 = 3 then v else mF m i 0)
    rw [if_neg (fun z => absurd z.2 (by decide))]
  | 1 =>
    show mF m i 1 = (if i = k ∧ 1 = 3 then v else mF m i 1)
    rw [if_neg (fun z => absurd z.2 (by decide))]
  | 2 =>
    show mF m i 2 = (if i = k ∧ 2 = 3 then v else mF m i 2)
    rw [if_neg (fun z => absurd z.2 (by decide))]
  | 3 =>
    show (if i = k then v else x9_purse m i) = (if i = k ∧ 3 = 3 then v else x9_purse m i)
    by_cases h : i = k
    · rw [if_pos h, if_pos ⟨h, rfl⟩]
    · rw [if_neg h, if_neg (fun z => h z.1)]
  | 4 =>
    show mF m i 4 = (if i = k ∧ 4 = 3 then v else mF m i 4)
    rw [if_neg (fun z => absurd z.2 (by decide))]
  | 5 =>
    show mF m i 5 = (if i = k ∧ 5 = 3 then v else mF m i 5)
    rw [if_neg (fun z => absurd z.2 (by decide))]
  | g9 + 6 =>
    show (0 : Int32) = (if i = k ∧ g9 + 6 = 3 then v else 0)
    rw [if_neg (fun z => by omega)]
theorem mF_s4 (m : S9) (k : Nat) (v : Int32) : mF (p9_yard m (upd (x9_yard m) k v)) = updF (mF m) k 4 v := by
  funext i g9
  match g9 with
  | 0 =>
    show mF m i 0 = (if i = k ∧ 0 = 4 then v else mF m i 0)
    rw [if_neg (fun z => absurd z.2 (by decide))]
  | 1 =>
    show mF m i 1 = (if i = k ∧ 1 = 4 then v else mF m i 1)
    rw [if_neg (fun z => absurd z.2 (by decide))]
  | 2 =>
    show mF m i 2 = (if i = k ∧ 2 = 4 then v else mF m i 2)
    rw [if_neg (fun z => absurd z.2 (by decide))]
  | 3 =>
    show mF m i 3 = (if i = k ∧ 3 = 4 then v else mF m i 3)
    rw [if_neg (fun z => absurd z.2 (by decide))]
  | 4 =>
    show (if i = k then v else x9_yard m i) = (if i = k ∧ 4 = 4 then v else x9_yard m i)
    by_cases h : i = k
    · rw [if_pos h, if_pos ⟨h, rfl⟩]
    · rw [if_neg h, if_neg (fun z => h z.1)]
  | 5 =>
    show mF m i 5 = (if i = k ∧ 5 = 4 then v else mF m i 5)
    rw [if_neg (fun z => absurd z.2 (by decide))]
  | g9 + 6 =>
    show (0 : Int32) = (if i = k ∧ g9 + 6 = 4 then v else 0)
    rw [if_neg (fun z => by omega)]
theorem mF_s5 (m : S9) (k : Nat) (v : Int32) : mF (p9_cause m (upd (x9_cause m) k v)) = updF (mF m) k 5 v := by
  funext i g9
  match g9 with
  | 0 =>
    show mF m i 0 = (if i = k ∧ 0 = 5 then v else mF m i 0)
    rw [if_neg (fun z => absurd z.2 (by decide))]
  | 1 =>
    show mF m i 1 = (if i = k ∧ 1 = 5 then v else mF m i 1)
    rw [if_neg (fun z => absurd z.2 (by decide))]
  | 2 =>
    show mF m i 2 = (if i = k ∧ 2 = 5 then v else mF m i 2)
    rw [if_neg (fun z => absurd z.2 (by decide))]
  | 3 =>
    show mF m i 3 = (if i = k ∧ 3 = 5 then v else mF m i 3)
    rw [if_neg (fun z => absurd z.2 (by decide))]
  | 4 =>
    show mF m i 4 = (if i = k ∧ 4 = 5 then v else mF m i 4)
    rw [if_neg (fun z => absurd z.2 (by decide))]
  | 5 =>
    show (if i = k then v else x9_cause m i) = (if i = k ∧ 5 = 5 then v else x9_cause m i)
    by_cases h : i = k
    · rw [if_pos h, if_pos ⟨h, rfl⟩]
    · rw [if_neg h, if_neg (fun z => h z.1)]
  | g9 + 6 =>
    show (0 : Int32) = (if i = k ∧ g9 + 6 = 5 then v else 0)
    rw [if_neg (fun z => by omega)]
theorem RT.put {t : S6} {th li ea si : Int32} {F : Nat → Nat → Int32} {O Hd : Nat → Int32} (h : RT t th li ea si F O Hd) {k f : Nat} (hk : k < 6) (hf : f < 6) (v : Int32) : RT (p6_facts t (upd (x6_facts t) (k * 6 + f) v)) th li ea si (updF F k f v) O Hd := by
  obtain ⟨a1, a2, a3, a4, a5, a6, a7⟩ := h
  refine ⟨a1, a2, a3, a4, fun i hi g9 hg => ?_, a6, a7⟩
  show upd (x6_facts t) (k * 6 + f) v (i * 6 + g9) = updF F k f v i g9
  unfold upd updF
  by_cases c : i = k ∧ g9 = f
  · rw [if_pos c, if_pos (by omega)]
  · rw [if_neg c, if_neg (by omega)]
    exact a5 i hi g9 hg
theorem BT.put0 {th li ea si : Int32} {F : Nat → Nat → Int32} {O Hd : Nat → Int32} (h : BT th li ea si F O Hd) {T l : Nat} (hT : T < 64) (hth : th = nI T) (hl : l ≤ 20) (hli : li = nI l) {k w : Nat} (hw : w ≤ 20) (hw2 : T.testBit k = true → w ≤ l) : BT th li ea si (updF F k 0 (nI w)) O Hd := by
  obtain ⟨T', l', e, c, b1, b2, b3, b4, b5, b6, b7, b8, b9, c0, c1, c2, c3, c4, c5, d1, d2⟩ := h
  have eT : T' = T := (nI_eq (by omega) (by omega)).mp (b2.symm.trans hth)
  have el : l' = l := (nI_eq (by omega) (by omega)).mp (b5.symm.trans hli)
  subst eT; subst el
  refine ⟨T', l', e, c, b1, b2, b3, b4, b5, b6, b7, b8, b9, fun i hi => ?_, ?_, ?_, ?_, ?_, ?_, d1, d2⟩
  · by_cases q : i = k
    · subst q
      exact ⟨w, hw, by unfold updF; rw [if_pos ⟨rfl, rfl⟩], hw2⟩
    · obtain ⟨v, v1, v2, v3⟩ := c0 i hi
      exact ⟨v, v1, by unfold updF; rw [if_neg (fun z => q z.1)]; exact v2, v3⟩
  · intro i hi; unfold updF; rw [if_neg (fun z => absurd z.2 (by decide))]; exact c1 i hi
  · intro i hi; unfold updF; rw [if_neg (fun z => absurd z.2 (by decide))]; exact c2 i hi
  · intro i hi; unfold updF; rw [if_neg (fun z => absurd z.2 (by decide))]; exact c3 i hi
  · intro i hi; unfold updF; rw [if_neg (fun z => absurd z.2 (by decide))]; exact c4 i hi
  · intro i hi; unfold updF; rw [if_neg (fun z => absurd z.2 (by decide))]; exact c5 i hi
theorem BT.put1 {th li ea si : Int32} {F : Nat → Nat → Int32} {O Hd : Nat → Int32} (h : BT th li ea si F O Hd) {k w : Nat} (hw : w ≤ 15) : BT th li ea si (updF F k 1 (nI w)) O Hd := by
  obtain ⟨T', l', e, c, b1, b2, b3, b4, b5, b6, b7, b8, b9, c0, c1, c2, c3, c4, c5, d1, d2⟩ := h
  refine ⟨T', l', e, c, b1, b2, b3, b4, b5, b6, b7, b8, b9, ?_, ?_, ?_, ?_, ?_, ?_, d1, d2⟩
  · intro i hi; unfold updF; rw [if_neg (fun z => absurd z.2 (by decide))]; exact c0 i hi
  · intro i hi
    by_cases q : i = k
    · subst q
      exact ⟨w, hw, by unfold updF; rw [if_pos ⟨rfl, rfl⟩]⟩
    · unfold updF; rw [if_neg (fun z => q z.1)]; exact c1 i hi
  · intro i hi; unfold updF; rw [if_neg (fun z => absurd z.2 (by decide))]; exact c2 i hi
  · intro i hi; unfold updF; rw [if_neg (fun z => absurd z.2 (by decide))]; exact c3 i hi
  · intro i hi; unfold updF; rw [if_neg (fun z => absurd z.2 (by decide))]; exact c4 i hi
  · intro i hi; unfold updF; rw [if_neg (fun z => absurd z.2 (by decide))]; exact c5 i hi
theorem BT.put2 {th li ea si : Int32} {F : Nat → Nat → Int32} {O Hd : Nat → Int32} (h : BT th li ea si F O Hd) {k w : Nat} (hw : w ≤ 99) : BT th li ea si (updF F k 2 (nI w)) O Hd := by
  obtain ⟨T', l', e, c, b1, b2, b3, b4, b5, b6, b7, b8, b9, c0, c1, c2, c3, c4, c5, d1, d2⟩ := h
  refine ⟨T', l', e, c, b1, b2, b3, b4, b5, b6, b7, b8, b9, ?_, ?_, ?_, ?_, ?_, ?_, d1, d2⟩
  · intro i hi; unfold updF; rw [if_neg (fun z => absurd z.2 (by decide))]; exact c0 i hi
  · intro i hi; unfold updF; rw [if_neg (fun z => absurd z.2 (by decide))]; exact c1 i hi
  · intro i hi
    by_cases q : i = k
    · subst q
      exact ⟨w, hw, by unfold updF; rw [if_pos ⟨rfl, rfl⟩]⟩
    · unfold updF; rw [if_neg (fun z => q z.1)]; exact c2 i hi
  · intro i hi; unfold updF; rw [if_neg (fun z => absurd z.2 (by decide))]; exact c3 i hi
  · intro i hi; unfold updF; rw [if_neg (fun z => absurd z.2 (by decide))]; exact c4 i hi
  · intro i hi; unfold updF; rw [if_neg (fun z => absurd z.2 (by decide))]; exact c5 i hi
theorem BT.put3 {th li ea si : Int32} {F : Nat → Nat → Int32} {O Hd : Nat → Int32} (h : BT th li ea si F O Hd) {k w : Nat} (hw : w ≤ 999) : BT th li ea si (updF F k 3 (nI w)) O Hd := by
  obtain ⟨T', l', e, c, b1, b2, b3, b4, b5, b6, b7, b8, b9, c0, c1, c2, c3, c4, c5, d1, d2⟩ := h
  refine ⟨T', l', e, c, b1, b2, b3, b4, b5, b6, b7, b8, b9, ?_, ?_, ?_, ?_, ?_, ?_, d1, d2⟩
  · intro i hi; unfold updF; rw [if_neg (fun z => absurd z.2 (by decide))]; exact c0 i hi
  · intro i hi; unfold updF; rw [if_neg (fun z => absurd z.2 (by decide))]; exact c1 i hi
  · intro i hi; unfold updF; rw [if_neg (fun z => absurd z.2 (by decide))]; exact c2 i hi
  · intro i hi
    by_cases q : i = k
    · subst q
      exact ⟨w, hw, by unfold updF; rw [if_pos ⟨rfl, rfl⟩]⟩
    · unfold updF; rw [if_neg (fun z => q z.1)]; exact c3 i hi
  · intro i hi; unfold updF; rw [if_neg (fun z => absurd z.2 (by decide))]; exact c4 i hi
  · intro i hi; unfold updF; rw [if_neg (fun z => absurd z.2 (by decide))]; exact c5 i hi
theorem BT.put4 {th li ea si : Int32} {F : Nat → Nat → Int32} {O Hd : Nat → Int32} (h : BT th li ea si F O Hd) {k w : Nat} (hw : w ≤ 9) : BT th li ea si (updF F k 4 (nI w)) O Hd := by
  obtain ⟨T', l', e, c, b1, b2, b3, b4, b5, b6, b7, b8, b9, c0, c1, c2, c3, c4, c5, d1, d2⟩ := h
  refine ⟨T', l', e, c, b1, b2, b3, b4, b5, b6, b7, b8, b9, ?_, ?_, ?_, ?_, ?_, ?_, d1, d2⟩
  · intro i hi; unfold updF; rw [if_neg (fun z => absurd z.2 (by decide))]; exact c0 i hi
  · intro i hi; unfold updF; rw [if_neg (fun z => absurd z.2 (by decide))]; exact c1 i hi
  · intro i hi; unfold updF; rw [if_neg (fun z => absurd z.2 (by decide))]; exact c2 i hi
  · intro i hi; unfold updF; rw [if_neg (fun z => absurd z.2 (by decide))]; exact c3 i hi
  · intro i hi
    by_cases q : i = k
    · subst q
      exact ⟨w, hw, by unfold updF; rw [if_pos ⟨rfl, rfl⟩]⟩
    · unfold updF; rw [if_neg (fun z => q z.1)]; exact c4 i hi
  · intro i hi; unfold updF; rw [if_neg (fun z => absurd z.2 (by decide))]; exact c5 i hi
theorem BT.put5 {th li ea si : Int32} {F : Nat → Nat → Int32} {O Hd : Nat → Int32} (h : BT th li ea si F O Hd) {k : Nat} {v : Int32} (hv : v = -6 ∨ ∃ w, w ≤ 3 ∧ v = nI w) : BT th li ea si (updF F k 5 v) O Hd := by
  obtain ⟨T', l', e, c, b1, b2, b3, b4, b5, b6, b7, b8, b9, c0, c1, c2, c3, c4, c5, d1, d2⟩ := h
  refine ⟨T', l', e, c, b1, b2, b3, b4, b5, b6, b7, b8, b9, ?_, ?_, ?_, ?_, ?_, ?_, d1, d2⟩
  · intro i hi; unfold updF; rw [if_neg (fun z => absurd z.2 (by decide))]; exact c0 i hi
  · intro i hi; unfold updF; rw [if_neg (fun z => absurd z.2 (by decide))]; exact c1 i hi
  · intro i hi; unfold updF; rw [if_neg (fun z => absurd z.2 (by decide))]; exact c2 i hi
  · intro i hi; unfold updF; rw [if_neg (fun z => absurd z.2 (by decide))]; exact c3 i hi
  · intro i hi; unfold updF; rw [if_neg (fun z => absurd z.2 (by decide))]; exact c4 i hi
  · intro i hi
    by_cases q : i = k
    · subst q
      unfold updF; rw [if_pos ⟨rfl, rfl⟩]; exact hv
    · unfold updF; rw [if_neg (fun z => q z.1)]; exact c5 i hi
