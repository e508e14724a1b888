/-! spend: ways through the hours; n hours are left, w n is the weight of the mishap behind which n hours are left -/
def am (w : Nat → Nat) (l n v : Nat) : Nat := if l < v + w n then 0 else v + w n
def ds (w : Nat → Nat) (l n v : Nat) : Nat := if l < v + w n then 1 else 0
def nx (a y : Nat) : Nat := a - y - 1
def Pl (w : Nat → Nat) (l : Nat) : Nat → Nat → Nat → Nat → Prop
  | 0, _, j, s => j = 0 ∧ s = 0
  | n + 1, v, j, s => ∃ y j' s', y ≤ 9 ∧ y ≤ am w l n v ∧ Pl w l n (nx (am w l n v) y) j' s' ∧ j = j' + ds w l n v ∧ s = s' + y
theorem am_le (w : Nat → Nat) {l n v : Nat} : am w l n v ≤ l := by unfold am; split <;> omega
theorem ds_le (w : Nat → Nat) (l n v : Nat) : ds w l n v ≤ 1 := by unfold ds; split <;> omega
theorem Pl_le (w : Nat → Nat) (l : Nat) : ∀ n v j s, Pl w l n v j s → j ≤ n ∧ s ≤ 9 * n := by
  intro n
  induction n with
  | zero => intro v j s h; obtain ⟨h1, h2⟩ := h; omega
  | succ n ih =>
    intro v j s h
    obtain ⟨y, j', s', h1, h2, h3, h4, h5⟩ := h
    have := ih _ _ _ h3
    have := ds_le w l n v
    omega
theorem Pl_ex (w : Nat → Nat) (l : Nat) : ∀ n v, ∃ j, Pl w l n v j 0 := by
  intro n
  induction n with
  | zero => intro v; exact ⟨0, rfl, rfl⟩
  | succ n ih =>
    intro v
    obtain ⟨j, h⟩ := ih (nx (am w l n v) 0)
    exact ⟨j + ds w l n v, 0, j, 0, Nat.zero_le _, Nat.zero_le _, h, rfl, rfl⟩
/-- the class's number: the fewest stamps with at most j slips, or 1000 -/
def SD (w : Nat → Nat) (l n v j x : Nat) : Prop := x ≤ 1000 ∧ (∀ j' s, Pl w l n v j' s → j' ≤ j → x ≤ s) ∧ (x = 1000 ∨ ∃ j' s, Pl w l n v j' s ∧ j' ≤ j ∧ x = s)
/-- the reference's number: slips and stamps of the best with at most k stamps -/
def SC (w : Nat → Nat) (l n v k x : Nat) : Prop := (∀ j s, Pl w l n v j s → s ≤ k → x ≤ 100 * j + s) ∧ ∃ j s, Pl w l n v j s ∧ s ≤ k ∧ x = 100 * j + s
theorem SD0 (w : Nat → Nat) (l v j : Nat) : SD w l 0 v j 0 := ⟨by decide, fun _ _ _ _ => Nat.zero_le _, Or.inr ⟨0, 0, ⟨rfl, rfl⟩, Nat.zero_le _, rfl⟩⟩
theorem SC0 (w : Nat → Nat) (l v k : Nat) : SC w l 0 v k 0 := ⟨fun _ _ _ _ => Nat.zero_le _, ⟨0, 0, ⟨rfl, rfl⟩, Nat.zero_le _, rfl⟩⟩
theorem SDno {w : Nat → Nat} {l n v j : Nat} (h : j < ds w l n v) : SD w l (n + 1) v j 1000 := by
  refine ⟨Nat.le_refl _, fun j' s hp hj => ?_, Or.inl rfl⟩
  obtain ⟨y, j2, s2, h1, h2, h3, h4, h5⟩ := hp
  omega
theorem SDstep {w : Nat → Nat} {l n v j r : Nat} {T : Nat → Nat} (hd : ds w l n v ≤ j) (hT : ∀ y, y ≤ 9 → y ≤ am w l n v → SD w l n (nx (am w l n v) y) (j - ds w l n v) (T y)) (h1 : r ≤ 1000) (h2 : ∀ y, y ≤ 9 → y ≤ am w l n v → r ≤ y + T y) (h3 : r = 1000 ∨ ∃ y, y ≤ 9 ∧ y ≤ am w l n v ∧ r = y + T y) : SD w l (n + 1) v j r := by
  refine ⟨h1, fun j' s hp hj => ?_, ?_⟩
  · obtain ⟨y, j2, s2, g1, g2, g3, g4, g5⟩ := hp
    have := (hT y g1 g2).2.1 j2 s2 g3 (by omega)
    have := h2 y g1 g2
    omega
  · rcases h3 with h3 | ⟨y, y1, y2, y3⟩
    · exact Or.inl h3
    · rcases (hT y y1 y2).2.2 with q | ⟨j2, s2, q1, q2, q3⟩
      · exact Or.inl (by omega)
      · exact Or.inr ⟨j2 + ds w l n v, s2 + y, ⟨y, j2, s2, y1, y2, q1, rfl, rfl⟩, by omega, by omega⟩
theorem SC_bd {w : Nat → Nat} {l n v k x : Nat} (h : SC w l n v k x) : x ≤ 109 * n := by
  obtain ⟨j, s, h1, h2, h3⟩ := h.2
  have := Pl_le w l n v j s h1
  omega
/-- what the reference's costBy answers -/
def cb (w : Nat → Nat) (l n v k : Nat) (X : Nat → Nat) (y : Nat) : Nat := if am w l n v < y ∨ k < y then 100000 else 100 * ds w l n v + y + X y
theorem SCstep {w : Nat → Nat} {l n v k r : Nat} {X : Nat → Nat} (hn : n ≤ 6) (hX : ∀ y, y ≤ 9 → y ≤ am w l n v → y ≤ k → SC w l n (nx (am w l n v) y) (k - y) (X y)) (h2 : ∀ y, y ≤ 9 → r ≤ cb w l n v k X y) (h3 : r = 100000 ∨ ∃ y, y ≤ 9 ∧ r = cb w l n v k X y) : SC w l (n + 1) v k r := by
  have hz := ds_le w l n v
  have hr : r < 100000 := by
    have a1 := h2 0 (by decide)
    unfold cb at a1
    rw [if_neg (by omega)] at a1
    have a2 := SC_bd (hX 0 (by decide) (by omega) (by omega))
    omega
  constructor
  · intro j s hp hs
    obtain ⟨y, j2, s2, g1, g2, g3, g4, g5⟩ := hp
    have a1 := h2 y g1
    unfold cb at a1
    rw [if_neg (by omega)] at a1
    have a2 := (hX y g1 g2 (by omega)).1 j2 s2 g3 (by omega)
    omega
  · rcases h3 with h3 | ⟨y, y1, y2⟩
    · omega
    · unfold cb at y2
      by_cases q : am w l n v < y ∨ k < y
      · rw [if_pos q] at y2; omega
      · rw [if_neg q] at y2
        obtain ⟨j2, s2, q1, q2, q3⟩ := (hX y y1 (by omega) (by omega)).2
        exact ⟨j2 + ds w l n v, s2 + y, ⟨y, j2, s2, y1, by omega, q1, rfl, rfl⟩, by omega, by omega⟩
/-- the best with at most k stamps -/
def Op (w : Nat → Nat) (l n v k j s : Nat) : Prop := Pl w l n v j s ∧ s ≤ k ∧ k ≤ 20 ∧ SC w l n v k (100 * j + s)
theorem Op_of {w : Nat → Nat} {l n v k x : Nat} (h : SC w l n v k x) (hk : k ≤ 20) : ∃ j s, x = 100 * j + s ∧ Op w l n v k j s := by
  obtain ⟨j, s, h1, h2, h3⟩ := h.2
  exact ⟨j, s, h3, h1, h2, hk, h3 ▸ h⟩
theorem Op_D {w : Nat → Nat} {l n v k j s y : Nat} (h : Op w l n v k j s) (hy : SD w l n v j y) : y = s := by
  obtain ⟨h1, h2, h3, h4⟩ := h
  have a1 := hy.2.1 j s h1 (Nat.le_refl _)
  rcases hy.2.2 with q | ⟨j2, s2, q1, q2, q3⟩
  · omega
  · have := h4.1 j2 s2 q1 (by omega)
    omega
theorem Op_less {w : Nat → Nat} {l n v k j s y j' : Nat} (h : Op w l n v k j s) (hj : j' < j) (hy : SD w l n v j' y) : k < y := by
  obtain ⟨h1, h2, h3, h4⟩ := h
  rcases hy.2.2 with q | ⟨j2, s2, q1, q2, q3⟩
  · omega
  · by_cases z : k < y
    · exact z
    · have := h4.1 j2 s2 q1 (by omega)
      omega
/-- both sides hold the same strengths for the best -/
theorem Op_iff {w : Nat → Nat} {l n v k j s y T X : Nat} (h : Op w l (n + 1) v k j s) (hy : y ≤ 9) (hya : y ≤ am w l n v) (hT : SD w l n (nx (am w l n v) y) (j - ds w l n v) T) (hX : y ≤ k → SC w l n (nx (am w l n v) y) (k - y) X) : (y + T = s) ↔ (y ≤ k ∧ 100 * ds w l n v + y + X = 100 * j + s) := by
  obtain ⟨h1, h2, h3, h4⟩ := h
  have hdj : ds w l n v ≤ j := by
    obtain ⟨y, j2, s2, g1, g2, g3, g4, g5⟩ := h1
    omega
  constructor
  · intro e
    have hyk : y ≤ k := by omega
    refine ⟨hyk, ?_⟩
    have hx := hX hyk
    rcases hT.2.2 with q | ⟨j2, s2, q1, q2, q3⟩
    · omega
    · have a1 := h4.1 (j2 + ds w l n v) (s2 + y) ⟨y, j2, s2, hy, hya, q1, rfl, rfl⟩ (by omega)
      have a2 : j2 = j - ds w l n v := by omega
      have a3 := hx.1 j2 s2 q1 (by omega)
      obtain ⟨j5, s5, p1, p2, p3⟩ := hx.2
      have a4 := h4.1 (j5 + ds w l n v) (s5 + y) ⟨y, j5, s5, hy, hya, p1, rfl, rfl⟩ (by omega)
      omega
  · rintro ⟨hyk, e⟩
    have hx := hX hyk
    obtain ⟨j5, s5, p1, p2, p3⟩ := hx.2
    have a1 : j = j5 + ds w l n v ∧ s = s5 + y := by omega
    have a2 := hT.2.1 j5 s5 p1 (by omega)
    rcases hT.2.2 with q | ⟨j2, s2, q1, q2, q3⟩
    · omega
    · have a4 := h4.1 (j2 + ds w l n v) (s2 + y) ⟨y, j2, s2, hy, hya, q1, rfl, rfl⟩ (by omega)
      omega
theorem Op_ds {w : Nat → Nat} {l n v k j s : Nat} (h : Op w l (n + 1) v k j s) : ds w l n v ≤ j := by
  obtain ⟨y, j2, s2, g1, g2, g3, g4, g5⟩ := h.1
  omega
theorem Op_ex {w : Nat → Nat} {l n v k j s : Nat} (h : Op w l (n + 1) v k j s) {T : Nat → Nat} (hT : ∀ y, y ≤ 9 → y ≤ am w l n v → SD w l n (nx (am w l n v) y) (j - ds w l n v) (T y)) : ∃ y, y ≤ 9 ∧ y ≤ am w l n v ∧ y + T y = s := by
  obtain ⟨h1, h2, h3, h4⟩ := h
  obtain ⟨y, j2, s2, g1, g2, g3, g4, g5⟩ := h1
  refine ⟨y, g1, g2, ?_⟩
  have a1 := (hT y g1 g2).2.1 j2 s2 g3 (by omega)
  rcases (hT y g1 g2).2.2 with q | ⟨j5, s5, q1, q2, q3⟩
  · omega
  · have a4 := h4.1 (j5 + ds w l n v) (s5 + y) ⟨y, j5, s5, g1, g2, q1, rfl, rfl⟩ (by omega)
    omega
theorem Op_next {w : Nat → Nat} {l n v k j s y T X : Nat} (h : Op w l (n + 1) v k j s) (hy : y ≤ 9) (hya : y ≤ am w l n v) (hT : SD w l n (nx (am w l n v) y) (j - ds w l n v) T) (hX : y ≤ k → SC w l n (nx (am w l n v) y) (k - y) X) (e : y + T = s) : y ≤ k ∧ Op w l n (nx (am w l n v) y) (k - y) (j - ds w l n v) (s - y) := by
  obtain ⟨hyk, e2⟩ := (Op_iff h hy hya hT hX).mp e
  have hd := Op_ds h
  obtain ⟨h1, h2, h3, h4⟩ := h
  have hx := hX hyk
  have ex : X = 100 * (j - ds w l n v) + (s - y) := by omega
  refine ⟨hyk, ?_, by omega, by omega, ex ▸ hx⟩
  rcases hT.2.2 with q | ⟨j2, s2, q1, q2, q3⟩
  · omega
  · have a3 := hx.1 j2 s2 q1 (by omega)
    have : j2 = j - ds w l n v := by omega
    have h5 : s2 = s - y := by omega
    rw [← this, ← h5]
    exact q1
/-- the least of some numbers -/
theorem least_of (P : Nat → Prop) : ∀ N, (∃ y, y ≤ N ∧ P y) → ∃ y, y ≤ N ∧ P y ∧ ∀ i, i < y → ¬ P i := by
  intro N
  induction N with
  | zero => rintro ⟨y, h1, h2⟩; exact ⟨y, h1, h2, fun i hi => by omega⟩
  | succ N ih =>
    rintro ⟨y, h1, h2⟩
    by_cases q : ∃ y, y ≤ N ∧ P y
    · obtain ⟨y, a1, a2, a3⟩ := ih q
      exact ⟨y, by omega, a2, a3⟩
    · exact ⟨y, h1, h2, fun i hi hp => q ⟨i, by omega, hp⟩⟩
