/-! cover: the ways as numbers by three; n ones are left; X, Y the weights, tt n whether the first of them is there -/
def dg (x n : Nat) : Nat := x / 3 ^ n % 3
def cvS (X Y : Nat → Nat) (x : Nat) : Nat → Nat
  | 0 => 0
  | n + 1 => cvS X Y x n + (if dg x n = 0 then X n else if dg x n = 1 then Y n else 0)
def cvA (x : Nat) : Nat → Nat
  | 0 => 0
  | n + 1 => cvA x n + (if dg x n = 0 then 1 else 0)
def cvB (x : Nat) : Nat → Nat
  | 0 => 0
  | n + 1 => cvB x n + (if dg x n = 1 then 1 else 0)
def cvK (tt : Nat → Bool) (x : Nat) : Nat → Prop
  | 0 => True
  | n + 1 => cvK tt x n ∧ (tt n = true ∨ dg x n = 2)
def cvD (tt : Nat → Bool) (x : Nat) : Nat → Nat
  | 0 => 0
  | n + 1 => cvD tt x n + 10 ^ n * (if tt n = true then dg x n else 3)
def Mx (tt : Nat → Bool) (X Y : Nat → Nat) : Nat → Nat → Nat → Nat
  | 0, _, _ => 0
  | n + 1, a, b => if tt n = true then max (max (Mx tt X Y n a b) (if 0 < a then X n + Mx tt X Y n (a - 1) b else 0)) (if 0 < b then Y n + Mx tt X Y n a (b - 1) else 0) else Mx tt X Y n a b
def Gd (tt : Nat → Bool) (X Y : Nat → Nat) : Nat → Nat → Nat → Nat
  | 0, _, _ => 0
  | n + 1, a, b => if tt n = true then (if 0 < a ∧ X n + Mx tt X Y n (a - 1) b = Mx tt X Y (n + 1) a b then Gd tt X Y n (a - 1) b else if 0 < b ∧ Y n + Mx tt X Y n a (b - 1) = Mx tt X Y (n + 1) a b then 1 * 10 ^ n + Gd tt X Y n a (b - 1) else 2 * 10 ^ n + Gd tt X Y n a b) else 3 * 10 ^ n + Gd tt X Y n a b
def Fz (tt : Nat → Bool) (n a b x : Nat) : Prop := cvK tt x n ∧ cvA x n ≤ a ∧ cvB x n ≤ b
def Bz (tt : Nat → Bool) (X Y : Nat → Nat) (n a b r x0 : Nat) : Prop := x0 < 3 ^ n ∧ Fz tt n a b x0 ∧ cvS X Y x0 n = r ∧ (∀ x, x < 3 ^ n → Fz tt n a b x → cvS X Y x n ≤ r) ∧ ∀ x, x < x0 → Fz tt n a b x → cvS X Y x n < r
theorem cv_congr (tt : Nat → Bool) (X Y : Nat → Nat) (x y : Nat) : ∀ n, (∀ m, m < n → dg x m = dg y m) → cvS X Y x n = cvS X Y y n ∧ cvA x n = cvA y n ∧ cvB x n = cvB y n ∧ (cvK tt x n ↔ cvK tt y n) ∧ cvD tt x n = cvD tt y n := by
  intro n
  induction n with
  | zero => intro _; exact ⟨rfl, rfl, rfl, Iff.rfl, rfl⟩
  | succ n ih =>
    intro h
    obtain ⟨h1, h2, h3, h4, h5⟩ := ih (fun m hm => h m (by omega))
    have e := h n (by omega)
    refine ⟨?_, ?_, ?_, ?_, ?_⟩
    · show cvS X Y x n + _ = cvS X Y y n + _
      rw [h1, e]
    · show cvA x n + _ = cvA y n + _
      rw [h2, e]
    · show cvB x n + _ = cvB y n + _
      rw [h3, e]
    · show (cvK tt x n ∧ _) ↔ (cvK tt y n ∧ _)
      rw [h4, e]
    · show cvD tt x n + _ = cvD tt y n + _
      rw [h5, e]
theorem dg_low (d y n m : Nat) (h : m < n) : dg (d * 3 ^ n + y) m = dg y m := by
  unfold dg
  have e : d * 3 ^ n = 3 ^ m * (d * 3 ^ (n - m - 1) * 3) := by
    have h3 : 3 ^ n = 3 ^ m * (3 ^ (n - m - 1) * 3) := by
      rw [← Nat.pow_succ, ← Nat.pow_add]
      congr 1
      omega
    rw [h3]
    generalize 3 ^ m = p
    generalize 3 ^ (n - m - 1) = q
    rw [Nat.mul_left_comm, Nat.mul_assoc d q 3]
  rw [e, Nat.mul_add_div (Nat.pow_pos (by decide)), Nat.add_comm, Nat.add_mul_mod_self_right]
theorem dg_top (d y n : Nat) (hd : d < 3) (hy : y < 3 ^ n) : dg (d * 3 ^ n + y) n = d := by
  unfold dg
  rw [Nat.mul_comm, Nat.mul_add_div (Nat.pow_pos (by decide)), Nat.div_eq_of_lt hy, Nat.add_zero, Nat.mod_eq_of_lt hd]
theorem cut_n (x n : Nat) (hx : x < 3 ^ (n + 1)) : ∃ d y, d < 3 ∧ y < 3 ^ n ∧ x = d * 3 ^ n + y := by
  have hp : 0 < 3 ^ n := Nat.pow_pos (by decide)
  refine ⟨x / 3 ^ n, x % 3 ^ n, ?_, Nat.mod_lt _ hp, ?_⟩
  · rw [Nat.pow_succ] at hx
    exact (Nat.div_lt_iff_lt_mul hp).mpr (by rw [Nat.mul_comm]; exact hx)
  · rw [Nat.mul_comm]; exact (Nat.div_add_mod x (3 ^ n)).symm
theorem up_n (tt : Nat → Bool) (X Y : Nat → Nat) {d y n : Nat} (hd : d < 3) (hy : y < 3 ^ n) : cvS X Y (d * 3 ^ n + y) (n + 1) = cvS X Y y n + (if d = 0 then X n else if d = 1 then Y n else 0) ∧ cvA (d * 3 ^ n + y) (n + 1) = cvA y n + (if d = 0 then 1 else 0) ∧ cvB (d * 3 ^ n + y) (n + 1) = cvB y n + (if d = 1 then 1 else 0) ∧ (cvK tt (d * 3 ^ n + y) (n + 1) ↔ (cvK tt y n ∧ (tt n = true ∨ d = 2))) ∧ cvD tt (d * 3 ^ n + y) (n + 1) = cvD tt y n + 10 ^ n * (if tt n = true then d else 3) := by
  obtain ⟨h1, h2, h3, h4, h5⟩ := cv_congr tt X Y (d * 3 ^ n + y) y n (fun m hm => dg_low d y n m hm)
  have e := dg_top d y n hd hy
  refine ⟨?_, ?_, ?_, ?_, ?_⟩
  · show cvS X Y (d * 3 ^ n + y) n + _ = _
    rw [h1, e]
  · show cvA (d * 3 ^ n + y) n + _ = _
    rw [h2, e]
  · show cvB (d * 3 ^ n + y) n + _ = _
    rw [h3, e]
  · show (cvK tt (d * 3 ^ n + y) n ∧ _) ↔ _
    rw [h4, e]
  · show cvD tt (d * 3 ^ n + y) n + _ = _
    rw [h5, e]
theorem lt3 {d e y z P : Nat} (hy : y < P) (hz : z < P) (h : d * P + y < e * P + z) : d < e ∨ (d = e ∧ y < z) := by
  by_cases q : d < e
  · exact Or.inl q
  · by_cases q2 : d = e
    · subst q2; exact Or.inr ⟨rfl, by omega⟩
    · exfalso
      have h1 : e + 1 ≤ d := by omega
      have h2 : (e + 1) * P ≤ d * P := Nat.mul_le_mul_right P h1
      rw [Nat.add_mul, Nat.one_mul] at h2
      omega
theorem bz_n (tt : Nat → Bool) (X Y : Nat → Nat) : ∀ n a b, ∃ x0, Bz tt X Y n a b (Mx tt X Y n a b) x0 ∧ cvD tt x0 n = Gd tt X Y n a b := by
  intro n
  induction n with
  | zero =>
    intro a b
    exact ⟨0, ⟨by decide, ⟨trivial, Nat.zero_le _, Nat.zero_le _⟩, rfl, fun x _ _ => Nat.le_refl _, fun x h => by omega⟩, rfl⟩
  | succ n ih =>
    intro a b
    have hP : 3 ^ (n + 1) = 3 * 3 ^ n := by rw [Nat.pow_succ, Nat.mul_comm]
    by_cases ht : tt n = true
    · have hM : Mx tt X Y (n + 1) a b = max (max (Mx tt X Y n a b) (if 0 < a then X n + Mx tt X Y n (a - 1) b else 0)) (if 0 < b then Y n + Mx tt X Y n a (b - 1) else 0) := by
        show (if tt n = true then _ else _) = _
        rw [if_pos ht]
      have hG : Gd tt X Y (n + 1) a b = (if 0 < a ∧ X n + Mx tt X Y n (a - 1) b = Mx tt X Y (n + 1) a b then Gd tt X Y n (a - 1) b else if 0 < b ∧ Y n + Mx tt X Y n a (b - 1) = Mx tt X Y (n + 1) a b then 1 * 10 ^ n + Gd tt X Y n a (b - 1) else 2 * 10 ^ n + Gd tt X Y n a b) := by
        show (if tt n = true then _ else _) = _
        rw [if_pos ht]
      obtain ⟨M, hMe⟩ : ∃ M, M = Mx tt X Y (n + 1) a b := ⟨_, rfl⟩
      have l2 : Mx tt X Y n a b ≤ M := by rw [hMe, hM]; omega
      have l0 : 0 < a → X n + Mx tt X Y n (a - 1) b ≤ M := fun h => by rw [hMe, hM, if_pos h]; omega
      have l1 : 0 < b → Y n + Mx tt X Y n a (b - 1) ≤ M := fun h => by rw [hMe, hM, if_pos h]; omega
      have lo : (0 < a ∧ X n + Mx tt X Y n (a - 1) b = M) ∨ (0 < b ∧ Y n + Mx tt X Y n a (b - 1) = M) ∨ Mx tt X Y n a b = M := by
        have h0 := hMe.trans hM
        by_cases ha : 0 < a
        · by_cases hb : 0 < b
          · rw [if_pos ha, if_pos hb] at h0; omega
          · rw [if_pos ha, if_neg hb] at h0; omega
        · by_cases hb : 0 < b
          · rw [if_neg ha, if_pos hb] at h0; omega
          · rw [if_neg ha, if_neg hb] at h0; omega
      have b0 : ∀ y, y < 3 ^ n → Fz tt (n + 1) a b (0 * 3 ^ n + y) → 0 < a ∧ Fz tt n (a - 1) b y ∧ cvS X Y (0 * 3 ^ n + y) (n + 1) = cvS X Y y n + X n := by
        intro y hy hF
        obtain ⟨u1, u2, u3, u4, -⟩ := up_n tt X Y (d := 0) (by decide) hy
        obtain ⟨f1, f2, f3⟩ := hF
        rw [u2, if_pos rfl] at f2
        rw [u3, if_neg (by decide)] at f3
        exact ⟨by omega, ⟨(u4.mp f1).1, by omega, by omega⟩, by rw [u1, if_pos rfl]⟩
      have b1 : ∀ y, y < 3 ^ n → Fz tt (n + 1) a b (1 * 3 ^ n + y) → 0 < b ∧ Fz tt n a (b - 1) y ∧ cvS X Y (1 * 3 ^ n + y) (n + 1) = cvS X Y y n + Y n := by
        intro y hy hF
        obtain ⟨u1, u2, u3, u4, -⟩ := up_n tt X Y (d := 1) (by decide) hy
        obtain ⟨f1, f2, f3⟩ := hF
        rw [u2, if_neg (by decide)] at f2
        rw [u3, if_pos rfl] at f3
        exact ⟨by omega, ⟨(u4.mp f1).1, by omega, by omega⟩, by rw [u1, if_neg (by decide), if_pos rfl]⟩
      have b2 : ∀ y, y < 3 ^ n → Fz tt (n + 1) a b (2 * 3 ^ n + y) → Fz tt n a b y ∧ cvS X Y (2 * 3 ^ n + y) (n + 1) = cvS X Y y n := by
        intro y hy hF
        obtain ⟨u1, u2, u3, u4, -⟩ := up_n tt X Y (d := 2) (by decide) hy
        obtain ⟨f1, f2, f3⟩ := hF
        rw [u2, if_neg (by decide)] at f2
        rw [u3, if_neg (by decide)] at f3
        exact ⟨⟨(u4.mp f1).1, by omega, by omega⟩, by rw [u1, if_neg (by decide), if_neg (by decide)]; rfl⟩
      have s0 : ∀ y, y < 3 ^ n → Fz tt (n + 1) a b (0 * 3 ^ n + y) → 0 < a ∧ cvS X Y (0 * 3 ^ n + y) (n + 1) ≤ X n + Mx tt X Y n (a - 1) b := by
        intro y hy hF
        obtain ⟨p1, p2, p3⟩ := b0 y hy hF
        obtain ⟨x0, ⟨c1, c2, c3, c4, c5⟩, -⟩ := ih (a - 1) b
        have := c4 y hy p2
        exact ⟨p1, by omega⟩
      have s1 : ∀ y, y < 3 ^ n → Fz tt (n + 1) a b (1 * 3 ^ n + y) → 0 < b ∧ cvS X Y (1 * 3 ^ n + y) (n + 1) ≤ Y n + Mx tt X Y n a (b - 1) := by
        intro y hy hF
        obtain ⟨p1, p2, p3⟩ := b1 y hy hF
        obtain ⟨x0, ⟨c1, c2, c3, c4, c5⟩, -⟩ := ih a (b - 1)
        have := c4 y hy p2
        exact ⟨p1, by omega⟩
      have s2 : ∀ y, y < 3 ^ n → Fz tt (n + 1) a b (2 * 3 ^ n + y) → cvS X Y (2 * 3 ^ n + y) (n + 1) ≤ Mx tt X Y n a b := by
        intro y hy hF
        obtain ⟨p2, p3⟩ := b2 y hy hF
        obtain ⟨x0, ⟨c1, c2, c3, c4, c5⟩, -⟩ := ih a b
        have := c4 y hy p2
        omega
      have hall : ∀ x, x < 3 ^ (n + 1) → Fz tt (n + 1) a b x → cvS X Y x (n + 1) ≤ M := by
        intro x hx hF
        obtain ⟨d, y, hd, hy, rfl⟩ := cut_n x n hx
        have hd3 : d = 0 ∨ d = 1 ∨ d = 2 := by omega
        rcases hd3 with rfl | rfl | rfl
        · obtain ⟨p1, p2⟩ := s0 y hy hF
          have := l0 p1; omega
        · obtain ⟨p1, p2⟩ := s1 y hy hF
          have := l1 p1; omega
        · have := s2 y hy hF; omega
      rw [hG, ← hMe]
      by_cases q0 : 0 < a ∧ X n + Mx tt X Y n (a - 1) b = M
      · rw [if_pos q0]
        obtain ⟨y0, ⟨c1, ⟨f1, f2, f3⟩, c3, c4, c5⟩, c6⟩ := ih (a - 1) b
        obtain ⟨u1, u2, u3, u4, u5⟩ := up_n tt X Y (d := 0) (by decide) c1
        refine ⟨0 * 3 ^ n + y0, ⟨by omega, ⟨u4.mpr ⟨f1, Or.inl ht⟩, by rw [u2, if_pos rfl]; omega, by rw [u3, if_neg (by decide)]; omega⟩, by rw [u1, if_pos rfl]; omega, hall, ?_⟩, by rw [u5, if_pos ht, Nat.mul_zero]; omega⟩
        intro x hx hF
        obtain ⟨d, y, hd, hy, rfl⟩ := cut_n x n (by omega)
        rcases lt3 hy c1 hx with z | ⟨z, z2⟩
        · omega
        · subst z
          obtain ⟨p1, p2, p3⟩ := b0 y hy hF
          have := c5 y z2 p2
          omega
      · rw [if_neg q0]
        have n0 : ∀ y, y < 3 ^ n → Fz tt (n + 1) a b (0 * 3 ^ n + y) → cvS X Y (0 * 3 ^ n + y) (n + 1) < M := by
          intro y hy hF
          obtain ⟨p1, p2⟩ := s0 y hy hF
          have h1 := l0 p1
          have h2 : ¬ X n + Mx tt X Y n (a - 1) b = M := fun z => q0 ⟨p1, z⟩
          omega
        by_cases q1 : 0 < b ∧ Y n + Mx tt X Y n a (b - 1) = M
        · rw [if_pos q1]
          obtain ⟨y0, ⟨c1, ⟨f1, f2, f3⟩, c3, c4, c5⟩, c6⟩ := ih a (b - 1)
          obtain ⟨u1, u2, u3, u4, u5⟩ := up_n tt X Y (d := 1) (by decide) c1
          refine ⟨1 * 3 ^ n + y0, ⟨by omega, ⟨u4.mpr ⟨f1, Or.inl ht⟩, by rw [u2, if_neg (by decide)]; omega, by rw [u3, if_pos rfl]; omega⟩, by rw [u1, if_neg (by decide), if_pos rfl]; omega, hall, ?_⟩, by rw [u5, if_pos ht, Nat.mul_one]; omega⟩
          intro x hx hF
          obtain ⟨d, y, hd, hy, rfl⟩ := cut_n x n (by omega)
          rcases lt3 hy c1 hx with z | ⟨z, z2⟩
          · have : d = 0 := by omega
            subst this
            exact n0 y hy hF
          · subst z
            obtain ⟨p1, p2, p3⟩ := b1 y hy hF
            have := c5 y z2 p2
            omega
        · rw [if_neg q1]
          have n1 : ∀ y, y < 3 ^ n → Fz tt (n + 1) a b (1 * 3 ^ n + y) → cvS X Y (1 * 3 ^ n + y) (n + 1) < M := by
            intro y hy hF
            obtain ⟨p1, p2⟩ := s1 y hy hF
            have h1 := l1 p1
            have h2 : ¬ Y n + Mx tt X Y n a (b - 1) = M := fun z => q1 ⟨p1, z⟩
            omega
          have q2 : Mx tt X Y n a b = M := by
            rcases lo with z | z | z
            · exact absurd z q0
            · exact absurd z q1
            · exact z
          obtain ⟨y0, ⟨c1, ⟨f1, f2, f3⟩, c3, c4, c5⟩, c6⟩ := ih a b
          obtain ⟨u1, u2, u3, u4, u5⟩ := up_n tt X Y (d := 2) (by decide) c1
          refine ⟨2 * 3 ^ n + y0, ⟨by omega, ⟨u4.mpr ⟨f1, Or.inl ht⟩, by rw [u2, if_neg (by decide)]; omega, by rw [u3, if_neg (by decide)]; omega⟩, by rw [u1, if_neg (by decide), if_neg (by decide)]; omega, hall, ?_⟩, by rw [u5, if_pos ht]; omega⟩
          intro x hx hF
          obtain ⟨d, y, hd, hy, rfl⟩ := cut_n x n (by omega)
          rcases lt3 hy c1 hx with z | ⟨z, z2⟩
          · have hd2 : d = 0 ∨ d = 1 := by omega
            rcases hd2 with rfl | rfl
            · exact n0 y hy hF
            · exact n1 y hy hF
          · subst z
            obtain ⟨p2, p3⟩ := b2 y hy hF
            have := c5 y z2 p2
            omega
    · have hM : Mx tt X Y (n + 1) a b = Mx tt X Y n a b := by
        show (if tt n = true then _ else _) = _
        rw [if_neg ht]
      have hG : Gd tt X Y (n + 1) a b = 3 * 10 ^ n + Gd tt X Y n a b := by
        show (if tt n = true then _ else _) = _
        rw [if_neg ht]
      rw [hM, hG]
      have b2 : ∀ d y, d < 3 → y < 3 ^ n → Fz tt (n + 1) a b (d * 3 ^ n + y) → d = 2 ∧ Fz tt n a b y ∧ cvS X Y (d * 3 ^ n + y) (n + 1) = cvS X Y y n := by
        intro d y hd hy hF
        obtain ⟨u1, u2, u3, u4, -⟩ := up_n tt X Y hd hy
        obtain ⟨f1, f2, f3⟩ := hF
        have hd2 : d = 2 := by
          rcases (u4.mp f1).2 with z | z
          · exact absurd z ht
          · exact z
        subst hd2
        rw [u2, if_neg (by decide)] at f2
        rw [u3, if_neg (by decide)] at f3
        exact ⟨rfl, ⟨(u4.mp f1).1, by omega, by omega⟩, by rw [u1, if_neg (by decide), if_neg (by decide)]; rfl⟩
      obtain ⟨y0, ⟨c1, ⟨f1, f2, f3⟩, c3, c4, c5⟩, c6⟩ := ih a b
      obtain ⟨u1, u2, u3, u4, u5⟩ := up_n tt X Y (d := 2) (by decide) c1
      refine ⟨2 * 3 ^ n + y0, ⟨by omega, ⟨u4.mpr ⟨f1, Or.inr rfl⟩, by rw [u2, if_neg (by decide)]; omega, by rw [u3, if_neg (by decide)]; omega⟩, by rw [u1, if_neg (by decide), if_neg (by decide)]; omega, fun x hx hF => ?_, fun x hx hF => ?_⟩, by rw [u5, if_neg ht]; omega⟩
      · obtain ⟨d, y, hd, hy, rfl⟩ := cut_n x n hx
        obtain ⟨p1, p2, p3⟩ := b2 d y hd hy hF
        have := c4 y hy p2
        omega
      · obtain ⟨d, y, hd, hy, rfl⟩ := cut_n x n (by omega)
        obtain ⟨p1, p2, p3⟩ := b2 d y hd hy hF
        subst p1
        rcases lt3 hy c1 hx with z | ⟨z, z2⟩
        · omega
        · have := c5 y z2 p2
          omega
theorem Mx_le (tt : Nat → Bool) (X Y : Nat → Nat) (hX : ∀ n, X n ≤ 9) (hY : ∀ n, Y n ≤ 9) : ∀ n a b, Mx tt X Y n a b ≤ 9 * n := by
  intro n
  induction n with
  | zero => intro a b; exact Nat.le_refl _
  | succ n ih =>
    intro a b
    show (if tt n = true then max (max (Mx tt X Y n a b) (if 0 < a then X n + Mx tt X Y n (a - 1) b else 0)) (if 0 < b then Y n + Mx tt X Y n a (b - 1) else 0) else Mx tt X Y n a b) ≤ _
    have h1 := ih a b
    have h2 := ih (a - 1) b
    have h3 := ih a (b - 1)
    have h4 := hX n
    have h5 := hY n
    by_cases ht : tt n = true
    · rw [if_pos ht]
      by_cases ha : 0 < a
      · by_cases hb : 0 < b
        · rw [if_pos ha, if_pos hb]; omega
        · rw [if_pos ha, if_neg hb]; omega
      · by_cases hb : 0 < b
        · rw [if_neg ha, if_pos hb]; omega
        · rw [if_neg ha, if_neg hb]; omega
    · rw [if_neg ht]; omega
