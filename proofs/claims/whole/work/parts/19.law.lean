/-! the law's world and its cases; R: what holds between the class's state, the reference's, and the two images -/
def twC (Δ : gD) (i : Option ((Nat → Nat) × S6)) : va_W := match i with
  | none => []
  | some x => cs6 x.1 Δ x.2
def imF (i0 i1 : Option ((Nat → Nat) × S6)) : Nat → Option Nat := fun j => match j with
  | 0 => i0.map (fun x => x.1 0)
  | 1 => i1.map (fun x => x.1 0)
  | _ + 2 => none
def kC (i : Option ((Nat → Nat) × S6)) : Nat := match i with
  | none => 0
  | some _ => 3
def kN (i : Option ((Nat → Nat) × S6)) : Nat := match i with
  | none => 0
  | some _ => 51
abbrev LS8 (a d : Nat → Nat) (Δ : gD) (m : S9) (i0 i1 : Option ((Nat → Nat) × S6)) : va_W := cs9 d Δ m ++ ([imC a Δ (imF i0 i1)] ++ (twC Δ i0 ++ twC Δ i1))
abbrev LS9 (a : Nat → Nat) (Δ : gD) (i0 i1 : Option ((Nat → Nat) × S6)) : va_W := [imC a Δ (imF i0 i1)] ++ (twC Δ i0 ++ twC Δ i1)
abbrev LW (a d : Nat → Nat) (Δ : gD) (s : S8) (m : S9) (i0 i1 : Option ((Nat → Nat) × S6)) : va_W := cs8 a Δ s ++ (cs9 d Δ m ++ ([imC a Δ (imF i0 i1)] ++ (twC Δ i0 ++ twC Δ i1)))
abbrev lawR : Type := S8 → S9 → Option S6 → Option S6 → Prop
abbrev sd (i : Option ((Nat → Nat) × S6)) : Option S6 := i.map (fun x => x.2)
def hF_one (R : lawR) : Prop := ∀ (x1 : Int32) (x2 : Int32) (x3 : Int32) (x4 : Int32) (x5 : Int32) (s : S8) (m : S9) (j0 j1 : Option S6), R s m j0 j1 → ∃ (r : Int32) (s2 : S8) (m2 : S9), sem_X8_one x1 x2 x3 x4 x5 s = some (r, s2) ∧ sem_X9_one x1 x2 x3 x4 x5 m = some (r, m2) ∧ R s2 m2 j0 j1
def hF_leave (R : lawR) : Prop := ∀ (x1 : Int32) (s : S8) (m : S9) (j0 j1 : Option S6), R s m j0 j1 → ∃ (r : Int32) (s2 : S8) (m2 : S9), sem_X8_leave x1 s = some (r, s2) ∧ sem_X9_leave x1 m = some (r, m2) ∧ R s2 m2 j0 j1
def hF_permit (R : lawR) : Prop := ∀ (x1 : Int32) (x2 : Int32) (s : S8) (m : S9) (j0 j1 : Option S6), R s m j0 j1 → ∃ (r : Int32) (s2 : S8) (m2 : S9), sem_X8_permit x1 x2 s = some (r, s2) ∧ sem_X9_permit x1 x2 m = some (r, m2) ∧ R s2 m2 j0 j1
def hF_set (R : lawR) : Prop := ∀ (x1 : Int32) (x2 : Int32) (s : S8) (m : S9) (j0 j1 : Option S6), R s m j0 j1 → ∃ (r : Int32) (s2 : S8) (m2 : S9), sem_X8_set x1 x2 s = some (r, s2) ∧ sem_X9_set x1 x2 m = some (r, m2) ∧ R s2 m2 j0 j1
def hF_say (R : lawR) : Prop := ∀ (x1 : Int32) (s : S8) (m : S9) (j0 j1 : Option S6), R s m j0 j1 → ∃ (r : Int32) (s2 : S8) (m2 : S9), sem_X8_say x1 s = some (r, s2) ∧ sem_X9_say x1 m = some (r, m2) ∧ R s2 m2 j0 j1
def hF_wipe (R : lawR) : Prop := ∀  (s : S8) (m : S9) (j0 j1 : Option S6), R s m j0 j1 → ∃ (r : Int32) (s2 : S8) (m2 : S9), sem_X8_wipe  s = some (r, s2) ∧ sem_X9_wipe  m = some (r, m2) ∧ R s2 m2 j0 j1
def hF_fault (R : lawR) : Prop := ∀  (s : S8) (m : S9) (j0 j1 : Option S6), R s m j0 j1 → ∃ (r : Int32) (m2 : S9), sem_X8_fault  s = some r ∧ sem_X9_fault  m = some (r, m2) ∧ R s m2 j0 j1
def hF_judge (R : lawR) : Prop := ∀ (x1 : Int32) (s : S8) (m : S9) (j0 j1 : Option S6), R s m j0 j1 → ∃ (r : Int32) (s2 : S8) (m2 : S9), sem_X8_judge x1 s = some (r, s2) ∧ sem_X9_judge x1 m = some (r, m2) ∧ R s2 m2 j0 j1
def hF_behind (R : lawR) : Prop := ∀ (x1 : Int32) (x2 : Int32) (s : S8) (m : S9) (j0 j1 : Option S6), R s m j0 j1 → ∃ (r : Int32) (s2 : S8) (m2 : S9), sem_X8_behind x1 x2 s = some (r, s2) ∧ sem_X9_behind x1 x2 m = some (r, m2) ∧ R s2 m2 j0 j1
def hF_slipped (R : lawR) : Prop := ∀ (x1 : Int32) (s : S8) (m : S9) (j0 j1 : Option S6), R s m j0 j1 → ∃ (r : Int32) (s2 : S8) (m2 : S9), sem_X8_slipped x1 s = some (r, s2) ∧ sem_X9_slipped x1 m = some (r, m2) ∧ R s2 m2 j0 j1
def hF_done (R : lawR) : Prop := ∀  (s : S8) (m : S9) (j0 j1 : Option S6), R s m j0 j1 → ∃ (r : Int32) (s2 : S8) (m2 : S9), sem_X8_done  s = some (r, s2) ∧ sem_X9_done  m = some (r, m2) ∧ R s2 m2 j0 j1
def hF_hears (R : lawR) : Prop := ∀ (x1 : Int32) (s : S8) (m : S9) (j0 j1 : Option S6), R s m j0 j1 → ∃ (r : Int32), sem_X8_hears x1 s = some r ∧ sem_X9_hears x1 m = some r ∧ R s m j0 j1
def hF_spend (R : lawR) : Prop := ∀ (x1 : Int32) (x2 : Int32) (x3 : Int32) (x4 : Int32) (s : S8) (m : S9) (j0 j1 : Option S6), R s m j0 j1 → ∃ (r : Int32) (s2 : S8) (m2 : S9), sem_X8_spend x1 x2 x3 x4 s = some (r, s2) ∧ sem_X9_spend x1 x2 x3 x4 m = some (r, m2) ∧ R s2 m2 j0 j1
def hF_deal (R : lawR) : Prop := ∀ (x1 : Int32) (x2 : Int32) (x3 : Int32) (s : S8) (m : S9) (j0 j1 : Option S6), R s m j0 j1 → ∃ (r : Int32) (s2 : S8) (m2 : S9), sem_X8_deal x1 x2 x3 s = some (r, s2) ∧ sem_X9_deal x1 x2 x3 m = some (r, m2) ∧ R s2 m2 j0 j1
def hF_seats (R : lawR) : Prop := ∀ (x1 : Int32) (x2 : Int32) (s : S8) (m : S9) (j0 j1 : Option S6), R s m j0 j1 → ∃ (r : Int32) (s2 : S8) (m2 : S9), sem_X8_seats x1 x2 s = some (r, s2) ∧ sem_X9_seats x1 x2 m = some (r, m2) ∧ R s2 m2 j0 j1
def hF_cover (R : lawR) : Prop := ∀ (x1 : Int32) (x2 : Int32) (x3 : Int32) (x4 : Int32) (x5 : Int32) (s : S8) (m : S9) (j0 j1 : Option S6), R s m j0 j1 → ∃ (r : Int32) (s2 : S8) (m2 : S9), sem_X8_cover x1 x2 x3 x4 x5 s = some (r, s2) ∧ sem_X9_cover x1 x2 x3 x4 x5 m = some (r, m2) ∧ R s2 m2 j0 j1
def hF_risk (R : lawR) : Prop := ∀ (x1 : Int32) (x2 : Int32) (x3 : Int32) (x4 : Int32) (x5 : Int32) (x6 : Int32) (s : S8) (m : S9) (j0 j1 : Option S6), R s m j0 j1 → ∃ (r : Int64) (s2 : S8) (m2 : S9), sem_X8_risk x1 x2 x3 x4 x5 x6 s = some (r, s2) ∧ sem_X9_risk x1 x2 x3 x4 x5 x6 m = some (r, m2) ∧ R s2 m2 j0 j1
def hF_seen (R : lawR) : Prop := ∀ (x1 : Int32) (x2 : Int32) (s : S8) (m : S9) (j0 j1 : Option S6), ((x2 = 0) ∨ x2 = 1) → R s m j0 j1 → ∃ (r : Int32) (s2 : S8) (m2 : S9), sem_X8_seen x1 x2 s = some (r, s2) ∧ sem_X9_seen x1 x2 m = some (r, m2) ∧ R s2 m2 j0 j1
def hF_forget (R : lawR) : Prop := ∀  (s : S8) (m : S9) (j0 j1 : Option S6), R s m j0 j1 → ∃ (r : Int32) (s2 : S8) (m2 : S9), sem_X8_forget  s = some (r, s2) ∧ sem_X9_forget  m = some (r, m2) ∧ R s2 m2 j0 j1
def hF_who (R : lawR) : Prop := ∀  (s : S8) (m : S9) (j0 j1 : Option S6), R s m j0 j1 → ∃ (r : Int32), sem_X8_who  s = some r ∧ sem_X9_who  m = some r ∧ R s m j0 j1
def hF_ask (R : lawR) : Prop := ∀ (x1 : Int32) (s : S8) (m : S9) (j0 j1 : Option S6), R s m j0 j1 → ∃ (r : Int32), sem_X8_ask x1 s = some r ∧ sem_X9_ask x1 m = some r ∧ R s m j0 j1
def hF_quarrel (R : lawR) : Prop := ∀ (x1 : Int32) (x2 : Int32) (x3 : Int32) (s : S8) (m : S9) (j0 j1 : Option S6), R s m j0 j1 → ∃ (r : Int32), sem_X8_quarrel x1 x2 x3 s = some r ∧ sem_X9_quarrel x1 x2 x3 m = some r ∧ R s m j0 j1
def hF_year (R : lawR) : Prop := ∀ (x1 : Int32) (x2 : Int32) (x3 : Int32) (s : S8) (m : S9) (j0 j1 : Option S6), R s m j0 j1 → ∃ (r : Int32) (s2 : S8) (m2 : S9), sem_X8_year x1 x2 x3 s = some (r, s2) ∧ sem_X9_year x1 x2 x3 m = some (r, m2) ∧ R s2 m2 j0 j1
def hF_told (R : lawR) : Prop := ∀ (x1 : Int32) (s : S8) (m : S9) (j0 j1 : Option S6), R s m j0 j1 → ∃ (r : Int32), sem_X8_told x1 s = some r ∧ sem_X9_told x1 m = some r ∧ R s m j0 j1
def hF_image (R : lawR) : Prop := ∀ (x1 : Int32) (s : S8) (m : S9) (j0 j1 : Option S6), R s m j0 j1 →
  (sem_X8_within x1 0 1 = some 0 ∧ ∃ m2 : S9, sem_X9_image x1 m = some (-2, m2) ∧ R s m2 j0 j1) ∨
  (x1 = 0 ∧ ∃ (v : S6) (m2 : S9), sem_X6_takeFrom (j0.getD i6) (x8_town s) = some v ∧ sem_X9_image x1 m = some (1, m2) ∧ R s m2 (some v) j1) ∨
  (x1 = 1 ∧ ∃ (v : S6) (m2 : S9), sem_X6_takeFrom (j1.getD i6) (x8_town s) = some v ∧ sem_X9_image x1 m = some (1, m2) ∧ R s m2 j0 (some v))
def hF_restore (R : lawR) : Prop := ∀ (x1 : Int32) (s : S8) (m : S9) (j0 j1 : Option S6), R s m j0 j1 →
  (sem_X8_within x1 0 1 = some 0 ∧ ∃ m2 : S9, sem_X9_restore x1 m = some (-2, m2) ∧ R s m2 j0 j1) ∨
  (x1 = 0 ∧ ((j0 = none ∧ ∃ m2 : S9, sem_X9_restore x1 m = some (-3, m2) ∧ R s m2 j0 j1) ∨ (∃ (t v : S6) (m2 : S9), j0 = some t ∧ sem_X6_takeFrom (x8_town s) t = some v ∧ sem_X9_restore x1 m = some (1, m2) ∧ R (p8_town s v) m2 j0 j1))) ∨
  (x1 = 1 ∧ ((j1 = none ∧ ∃ m2 : S9, sem_X9_restore x1 m = some (-3, m2) ∧ R s m2 j0 j1) ∨ (∃ (t v : S6) (m2 : S9), j1 = some t ∧ sem_X6_takeFrom (x8_town s) t = some v ∧ sem_X9_restore x1 m = some (1, m2) ∧ R (p8_town s v) m2 j0 j1)))
set_option maxHeartbeats 1000000 in
set_option maxRecDepth 100000 in
theorem case_one {Γ : gT} {Δ : gD} {A : Nat → Prop} {a d : Nat → Nat} {bq Ls : Nat} {xs : Nat → Int32} {k n : Nat} (C : gOk Γ cL_law 4 RL) (hK : KD Δ (sOf Γ)) (hA : ∀ q, (sOf Γ).heap.size ≤ q → A q) (hX : va_X bq Ls xs (sOf Γ) (sOf Γ).heap) (hbl : bq < (sOf Γ).heap.size) (hbA : ¬ A bq) (hk : k ≤ room_1.cells ∧ n ≤ room_1.slots) (R : lawR) (hf : hF_one R) {i : Int32} (hi1 : vp_in (i + 1) Ls) (hi2 : vp_in (i + 2) Ls) (hi3 : vp_in (i + 3) Ls) (hi4 : vp_in (i + 4) Ls) (hi5 : vp_in (i + 5) Ls) (hi6 : vp_in (i + 6) Ls) {s : S8} {m : S9} {i0 i1 : Option ((Nat → Nat) × S6)} (hR : R s m (sd i0) (sd i1)) {H : Heap} {L : List Loc} (hP : va_P Δ.1 classes (LW a d Δ s m i0 i1) H) (hD : va_D A (LW a d Δ s m i0 i1)) (hS : va_S A (sOf Γ).heap H L) (kk : ∀ (H : Heap) (L : List Loc) (s : S8) (m : S9), R s m (sd i0) (sd i1) → va_P Δ.1 classes (LW a d Δ s m i0 i1) H → va_D A (LW a d Δ s m i0 i1) → va_S A (sOf Γ).heap H L → g Γ room_1 4 H L k n 989 [(0, .ref bq), (1, .ref (a 0)), (2, .ref (d 0)), (3, .int i)] []) : g Γ room_1 4 H L k n 152 [(0, .ref bq), (1, .ref (a 0)), (2, .ref (d 0)), (3, .int i)] [] := by
  refine g_aload_n C 153 rfl dL_law_152 1 rfl ?_
  refine g_aload_n C 154 rfl dL_law_153 0 rfl ?_
  refine g_iload_n C 155 rfl dL_law_154 3 rfl ?_
  refine g_iconst 1 C 156 rfl dL_law_155 ki_1 ?_
  refine g_iadd C 157 rfl dL_law_156 ?_
  refine g_sld C 158 rfl dL_law_157 hX hbl hbA hS hi1 ?_
  refine g_aload_n C 159 rfl dL_law_158 0 rfl ?_
  refine g_iload_n C 160 rfl dL_law_159 3 rfl ?_
  refine g_iconst 2 C 161 rfl dL_law_160 ki_2 ?_
  refine g_iadd C 162 rfl dL_law_161 ?_
  refine g_sld C 163 rfl dL_law_162 hX hbl hbA hS hi2 ?_
  refine g_aload_n C 164 rfl dL_law_163 0 rfl ?_
  refine g_iload_n C 165 rfl dL_law_164 3 rfl ?_
  refine g_iconst 3 C 166 rfl dL_law_165 ki_3 ?_
  refine g_iadd C 167 rfl dL_law_166 ?_
  refine g_sld C 168 rfl dL_law_167 hX hbl hbA hS hi3 ?_
  refine g_aload_n C 169 rfl dL_law_168 0 rfl ?_
  refine g_iload_n C 170 rfl dL_law_169 3 rfl ?_
  refine g_iconst 4 C 171 rfl dL_law_170 ki_4 ?_
  refine g_iadd C 172 rfl dL_law_171 ?_
  refine g_sld C 173 rfl dL_law_172 hX hbl hbA hS hi4 ?_
  refine g_aload_n C 174 rfl dL_law_173 0 rfl ?_
  refine g_iload_n C 175 rfl dL_law_174 3 rfl ?_
  refine g_iconst 5 C 176 rfl dL_law_175 ki_5 ?_
  refine g_iadd C 177 rfl dL_law_176 ?_
  refine g_sld C 178 rfl dL_law_177 hX hbl hbA hS hi5 ?_
  obtain ⟨r, s2, m2, ex, em, hR2⟩ := hf (xs ((i + 1) : Int32).toNatClampNeg) (xs ((i + 2) : Int32).toNatClampNeg) (xs ((i + 3) : Int32).toNatClampNeg) (xs ((i + 4) : Int32).toNatClampNeg) (xs ((i + 5) : Int32).toNatClampNeg) s m _ _ hR
  refine g_callWB (rest := []) [] (LS8 a d Δ m i0 i1) C 181 rfl dL_law_178 (c_X8_one Γ.2.1 Δ a (xs ((i + 1) : Int32).toNatClampNeg) (xs ((i + 2) : Int32).toNatClampNeg) (xs ((i + 3) : Int32).toNatClampNeg) (xs ((i + 4) : Int32).toNatClampNeg) (xs ((i + 5) : Int32).toNatClampNeg) s ex) mv_X8_one ml_L_13 hK hP hD hS hA rfl rfl rfl rfl rfl rfl ⟨Nat.le_of_ble_eq_true rfl, Nat.le_of_ble_eq_true rfl⟩ (Nat.le_of_ble_eq_true rfl) hk (fun H L hP hD hS => ?_)
  refine g_aload_n C 182 rfl dL_law_181 2 rfl ?_
  refine g_aload_n C 183 rfl dL_law_182 0 rfl ?_
  refine g_iload_n C 184 rfl dL_law_183 3 rfl ?_
  refine g_iconst 1 C 185 rfl dL_law_184 ki_1 ?_
  refine g_iadd C 186 rfl dL_law_185 ?_
  refine g_sld C 187 rfl dL_law_186 hX hbl hbA hS hi1 ?_
  refine g_aload_n C 188 rfl dL_law_187 0 rfl ?_
  refine g_iload_n C 189 rfl dL_law_188 3 rfl ?_
  refine g_iconst 2 C 190 rfl dL_law_189 ki_2 ?_
  refine g_iadd C 191 rfl dL_law_190 ?_
  refine g_sld C 192 rfl dL_law_191 hX hbl hbA hS hi2 ?_
  refine g_aload_n C 193 rfl dL_law_192 0 rfl ?_
  refine g_iload_n C 194 rfl dL_law_193 3 rfl ?_
  refine g_iconst 3 C 195 rfl dL_law_194 ki_3 ?_
  refine g_iadd C 196 rfl dL_law_195 ?_
  refine g_sld C 197 rfl dL_law_196 hX hbl hbA hS hi3 ?_
  refine g_aload_n C 198 rfl dL_law_197 0 rfl ?_
  refine g_iload_n C 199 rfl dL_law_198 3 rfl ?_
  refine g_iconst 4 C 200 rfl dL_law_199 ki_4 ?_
  refine g_iadd C 201 rfl dL_law_200 ?_
  refine g_sld C 202 rfl dL_law_201 hX hbl hbA hS hi4 ?_
  refine g_aload_n C 203 rfl dL_law_202 0 rfl ?_
  refine g_iload_n C 204 rfl dL_law_203 3 rfl ?_
  refine g_iconst 5 C 205 rfl dL_law_204 ki_5 ?_
  refine g_iadd C 206 rfl dL_law_205 ?_
  refine g_sld C 207 rfl dL_law_206 hX hbl hbA hS hi5 ?_
  refine g_callWB (rest := [.int r]) (cs8 a Δ s2) (LS9 a Δ i0 i1) C 210 rfl dL_law_207 (c_X9_one Γ.2.1 Δ d (xs ((i + 1) : Int32).toNatClampNeg) (xs ((i + 2) : Int32).toNatClampNeg) (xs ((i + 3) : Int32).toNatClampNeg) (xs ((i + 4) : Int32).toNatClampNeg) (xs ((i + 5) : Int32).toNatClampNeg) m em) mv_X9_one ml_L_17 hK hP hD hS hA rfl rfl rfl rfl rfl rfl ⟨Nat.le_of_ble_eq_true rfl, Nat.le_of_ble_eq_true rfl⟩ (Nat.le_of_ble_eq_true rfl) hk (fun H L hP hD hS => ?_)
  refine s_icmp_eq C 989 213 rfl dL_law_210 (by decide) (u := some ()) (v := none) (r := some ()) (if_pos rfl) (fun _ => ?_) (fun h => by cases h)
  exact kk H L s2 m2 hR2 hP hD hS
set_option maxHeartbeats 1000000 in
set_option maxRecDepth 100000 in
theorem case_leave {Γ : gT} {Δ : gD} {A : Nat → Prop} {a d : Nat → Nat} {bq Ls : Nat} {xs : Nat → Int32} {k n : Nat} (C : gOk Γ cL_law 4 RL) (hK : KD Δ (sOf Γ)) (hA : ∀ q, (sOf Γ).heap.size ≤ q → A q) (hX : va_X bq Ls xs (sOf Γ) (sOf Γ).heap) (hbl : bq < (sOf Γ).heap.size) (hbA : ¬ A bq) (hk : k ≤ room_1.cells ∧ n ≤ room_1.slots) (R : lawR) (hf : hF_leave R) {i : Int32} (hi1 : vp_in (i + 1) Ls) (hi2 : vp_in (i + 2) Ls) (hi3 : vp_in (i + 3) Ls) (hi4 : vp_in (i + 4) Ls) (hi5 : vp_in (i + 5) Ls) (hi6 : vp_in (i + 6) Ls) {s : S8} {m : S9} {i0 i1 : Option ((Nat → Nat) × S6)} (hR : R s m (sd i0) (sd i1)) {H : Heap} {L : List Loc} (hP : va_P Δ.1 classes (LW a d Δ s m i0 i1) H) (hD : va_D A (LW a d Δ s m i0 i1)) (hS : va_S A (sOf Γ).heap H L) (kk : ∀ (H : Heap) (L : List Loc) (s : S8) (m : S9), R s m (sd i0) (sd i1) → va_P Δ.1 classes (LW a d Δ s m i0 i1) H → va_D A (LW a d Δ s m i0 i1) → va_S A (sOf Γ).heap H L → g Γ room_1 4 H L k n 989 [(0, .ref bq), (1, .ref (a 0)), (2, .ref (d 0)), (3, .int i)] []) : g Γ room_1 4 H L k n 215 [(0, .ref bq), (1, .ref (a 0)), (2, .ref (d 0)), (3, .int i)] [] := by
  refine g_aload_n C 216 rfl dL_law_215 1 rfl ?_
  refine g_aload_n C 217 rfl dL_law_216 0 rfl ?_
  refine g_iload_n C 218 rfl dL_law_217 3 rfl ?_
  refine g_iconst 1 C 219 rfl dL_law_218 ki_1 ?_
  refine g_iadd C 220 rfl dL_law_219 ?_
  refine g_sld C 221 rfl dL_law_220 hX hbl hbA hS hi1 ?_
  obtain ⟨r, s2, m2, ex, em, hR2⟩ := hf (xs ((i + 1) : Int32).toNatClampNeg) s m _ _ hR
  refine g_callWB (rest := []) [] (LS8 a d Δ m i0 i1) C 224 rfl dL_law_221 (c_X8_leave Γ.2.1 Δ a (xs ((i + 1) : Int32).toNatClampNeg) s ex) mv_X8_leave ml_L_18 hK hP hD hS hA rfl rfl rfl rfl rfl rfl ⟨Nat.le_of_ble_eq_true rfl, Nat.le_of_ble_eq_true rfl⟩ (Nat.le_of_ble_eq_true rfl) hk (fun H L hP hD hS => ?_)
  refine g_aload_n C 225 rfl dL_law_224 2 rfl ?_
  refine g_aload_n C 226 rfl dL_law_225 0 rfl ?_
  refine g_iload_n C 227 rfl dL_law_226 3 rfl ?_
  refine g_iconst 1 C 228 rfl dL_law_227 ki_1 ?_
  refine g_iadd C 229 rfl dL_law_228 ?_
  refine g_sld C 230 rfl dL_law_229 hX hbl hbA hS hi1 ?_
  refine g_callWB (rest := [.int r]) (cs8 a Δ s2) (LS9 a Δ i0 i1) C 233 rfl dL_law_230 (c_X9_leave Γ.2.1 Δ d (xs ((i + 1) : Int32).toNatClampNeg) m em) mv_X9_leave ml_L_22 hK hP hD hS hA rfl rfl rfl rfl rfl rfl ⟨Nat.le_of_ble_eq_true rfl, Nat.le_of_ble_eq_true rfl⟩ (Nat.le_of_ble_eq_true rfl) hk (fun H L hP hD hS => ?_)
  refine s_icmp_eq C 989 236 rfl dL_law_233 (by decide) (u := some ()) (v := none) (r := some ()) (if_pos rfl) (fun _ => ?_) (fun h => by cases h)
  exact kk H L s2 m2 hR2 hP hD hS
set_option maxHeartbeats 1000000 in
set_option maxRecDepth 100000 in
theorem case_permit {Γ : gT} {Δ : gD} {A : Nat → Prop} {a d : Nat → Nat} {bq Ls : Nat} {xs : Nat → Int32} {k n : Nat} (C : gOk Γ cL_law 4 RL) (hK : KD Δ (sOf Γ)) (hA : ∀ q, (sOf Γ).heap.size ≤ q → A q) (hX : va_X bq Ls xs (sOf Γ) (sOf Γ).heap) (hbl : bq < (sOf Γ).heap.size) (hbA : ¬ A bq) (hk : k ≤ room_1.cells ∧ n ≤ room_1.slots) (R : lawR) (hf : hF_permit R) {i : Int32} (hi1 : vp_in (i + 1) Ls) (hi2 : vp_in (i + 2) Ls) (hi3 : vp_in (i + 3) Ls) (hi4 : vp_in (i + 4) Ls) (hi5 : vp_in (i + 5) Ls) (hi6 : vp_in (i + 6) Ls) {s : S8} {m : S9} {i0 i1 : Option ((Nat → Nat) × S6)} (hR : R s m (sd i0) (sd i1)) {H : Heap} {L : List Loc} (hP : va_P Δ.1 classes (LW a d Δ s m i0 i1) H) (hD : va_D A (LW a d Δ s m i0 i1)) (hS : va_S A (sOf Γ).heap H L) (kk : ∀ (H : Heap) (L : List Loc) (s : S8) (m : S9), R s m (sd i0) (sd i1) → va_P Δ.1 classes (LW a d Δ s m i0 i1) H → va_D A (LW a d Δ s m i0 i1) → va_S A (sOf Γ).heap H L → g Γ room_1 4 H L k n 989 [(0, .ref bq), (1, .ref (a 0)), (2, .ref (d 0)), (3, .int i)] []) : g Γ room_1 4 H L k n 238 [(0, .ref bq), (1, .ref (a 0)), (2, .ref (d 0)), (3, .int i)] [] := by
  refine g_aload_n C 239 rfl dL_law_238 1 rfl ?_
  refine g_aload_n C 240 rfl dL_law_239 0 rfl ?_
  refine g_iload_n C 241 rfl dL_law_240 3 rfl ?_
  refine g_iconst 1 C 242 rfl dL_law_241 ki_1 ?_
  refine g_iadd C 243 rfl dL_law_242 ?_
  refine g_sld C 244 rfl dL_law_243 hX hbl hbA hS hi1 ?_
  refine g_aload_n C 245 rfl dL_law_244 0 rfl ?_
  refine g_iload_n C 246 rfl dL_law_245 3 rfl ?_
  refine g_iconst 2 C 247 rfl dL_law_246 ki_2 ?_
  refine g_iadd C 248 rfl dL_law_247 ?_
  refine g_sld C 249 rfl dL_law_248 hX hbl hbA hS hi2 ?_
  obtain ⟨r, s2, m2, ex, em, hR2⟩ := hf (xs ((i + 1) : Int32).toNatClampNeg) (xs ((i + 2) : Int32).toNatClampNeg) s m _ _ hR
  refine g_callWB (rest := []) [] (LS8 a d Δ m i0 i1) C 252 rfl dL_law_249 (c_X8_permit Γ.2.1 Δ a (xs ((i + 1) : Int32).toNatClampNeg) (xs ((i + 2) : Int32).toNatClampNeg) s ex) mv_X8_permit ml_L_23 hK hP hD hS hA rfl rfl rfl rfl rfl rfl ⟨Nat.le_of_ble_eq_true rfl, Nat.le_of_ble_eq_true rfl⟩ (Nat.le_of_ble_eq_true rfl) hk (fun H L hP hD hS => ?_)
  refine g_aload_n C 253 rfl dL_law_252 2 rfl ?_
  refine g_aload_n C 254 rfl dL_law_253 0 rfl ?_
  refine g_iload_n C 255 rfl dL_law_254 3 rfl ?_
  refine g_iconst 1 C 256 rfl dL_law_255 ki_1 ?_
  refine g_iadd C 257 rfl dL_law_256 ?_
  refine g_sld C 258 rfl dL_law_257 hX hbl hbA hS hi1 ?_
  refine g_aload_n C 259 rfl dL_law_258 0 rfl ?_
  refine g_iload_n C 260 rfl dL_law_259 3 rfl ?_
  refine g_iconst 2 C 261 rfl dL_law_260 ki_2 ?_
  refine g_iadd C 262 rfl dL_law_261 ?_
  refine g_sld C 263 rfl dL_law_262 hX hbl hbA hS hi2 ?_
  refine g_callWB (rest := [.int r]) (cs8 a Δ s2) (LS9 a Δ i0 i1) C 266 rfl dL_law_263 (c_X9_permit Γ.2.1 Δ d (xs ((i + 1) : Int32).toNatClampNeg) (xs ((i + 2) : Int32).toNatClampNeg) m em) mv_X9_permit ml_L_27 hK hP hD hS hA rfl rfl rfl rfl rfl rfl ⟨Nat.le_of_ble_eq_true rfl, Nat.le_of_ble_eq_true rfl⟩ (Nat.le_of_ble_eq_true rfl) hk (fun H L hP hD hS => ?_)
  refine s_icmp_eq C 989 269 rfl dL_law_266 (by decide) (u := some ()) (v := none) (r := some ()) (if_pos rfl) (fun _ => ?_) (fun h => by cases h)
  exact kk H L s2 m2 hR2 hP hD hS
set_option maxHeartbeats 1000000 in
set_option maxRecDepth 100000 in
theorem case_set {Γ : gT} {Δ : gD} {A : Nat → Prop} {a d : Nat → Nat} {bq Ls : Nat} {xs : Nat → Int32} {k n : Nat} (C : gOk Γ cL_law 4 RL) (hK : KD Δ (sOf Γ)) (hA : ∀ q, (sOf Γ).heap.size ≤ q → A q) (hX : va_X bq Ls xs (sOf Γ) (sOf Γ).heap) (hbl : bq < (sOf Γ).heap.size) (hbA : ¬ A bq) (hk : k ≤ room_1.cells ∧ n ≤ room_1.slots) (R : lawR) (hf : hF_set R) {i : Int32} (hi1 : vp_in (i + 1) Ls) (hi2 : vp_in (i + 2) Ls) (hi3 : vp_in (i + 3) Ls) (hi4 : vp_in (i + 4) Ls) (hi5 : vp_in (i + 5) Ls) (hi6 : vp_in (i + 6) Ls) {s : S8} {m : S9} {i0 i1 : Option ((Nat → Nat) × S6)} (hR : R s m (sd i0) (sd i1)) {H : Heap} {L : List Loc} (hP : va_P Δ.1 classes (LW a d Δ s m i0 i1) H) (hD : va_D A (LW a d Δ s m i0 i1)) (hS : va_S A (sOf Γ).heap H L) (kk : ∀ (H : Heap) (L : List Loc) (s : S8) (m : S9), R s m (sd i0) (sd i1) → va_P Δ.1 classes (LW a d Δ s m i0 i1) H → va_D A (LW a d Δ s m i0 i1) → va_S A (sOf Γ).heap H L → g Γ room_1 4 H L k n 989 [(0, .ref bq), (1, .ref (a 0)), (2, .ref (d 0)), (3, .int i)] []) : g Γ room_1 4 H L k n 271 [(0, .ref bq), (1, .ref (a 0)), (2, .ref (d 0)), (3, .int i)] [] := by
  refine g_aload_n C 272 rfl dL_law_271 1 rfl ?_
  refine g_aload_n C 273 rfl dL_law_272 0 rfl ?_
  refine g_iload_n C 274 rfl dL_law_273 3 rfl ?_
  refine g_iconst 1 C 275 rfl dL_law_274 ki_1 ?_
  refine g_iadd C 276 rfl dL_law_275 ?_
  refine g_sld C 277 rfl dL_law_276 hX hbl hbA hS hi1 ?_
  refine g_aload_n C 278 rfl dL_law_277 0 rfl ?_
  refine g_iload_n C 279 rfl dL_law_278 3 rfl ?_
  refine g_iconst 2 C 280 rfl dL_law_279 ki_2 ?_
  refine g_iadd C 281 rfl dL_law_280 ?_
  refine g_sld C 282 rfl dL_law_281 hX hbl hbA hS hi2 ?_
  obtain ⟨r, s2, m2, ex, em, hR2⟩ := hf (xs ((i + 1) : Int32).toNatClampNeg) (xs ((i + 2) : Int32).toNatClampNeg) s m _ _ hR
  refine g_callWB (rest := []) [] (LS8 a d Δ m i0 i1) C 285 rfl dL_law_282 (c_X8_set Γ.2.1 Δ a (xs ((i + 1) : Int32).toNatClampNeg) (xs ((i + 2) : Int32).toNatClampNeg) s ex) mv_X8_set ml_L_28 hK hP hD hS hA rfl rfl rfl rfl rfl rfl ⟨Nat.le_of_ble_eq_true rfl, Nat.le_of_ble_eq_true rfl⟩ (Nat.le_of_ble_eq_true rfl) hk (fun H L hP hD hS => ?_)
  refine g_aload_n C 286 rfl dL_law_285 2 rfl ?_
  refine g_aload_n C 287 rfl dL_law_286 0 rfl ?_
  refine g_iload_n C 288 rfl dL_law_287 3 rfl ?_
  refine g_iconst 1 C 289 rfl dL_law_288 ki_1 ?_
  refine g_iadd C 290 rfl dL_law_289 ?_
  refine g_sld C 291 rfl dL_law_290 hX hbl hbA hS hi1 ?_
  refine g_aload_n C 292 rfl dL_law_291 0 rfl ?_
  refine g_iload_n C 293 rfl dL_law_292 3 rfl ?_
  refine g_iconst 2 C 294 rfl dL_law_293 ki_2 ?_
  refine g_iadd C 295 rfl dL_law_294 ?_
  refine g_sld C 296 rfl dL_law_295 hX hbl hbA hS hi2 ?_
  refine g_callWB (rest := [.int r]) (cs8 a Δ s2) (LS9 a Δ i0 i1) C 299 rfl dL_law_296 (c_X9_set Γ.2.1 Δ d (xs ((i + 1) : Int32).toNatClampNeg) (xs ((i + 2) : Int32).toNatClampNeg) m em) mv_X9_set ml_L_31 hK hP hD hS hA rfl rfl rfl rfl rfl rfl ⟨Nat.le_of_ble_eq_true rfl, Nat.le_of_ble_eq_true rfl⟩ (Nat.le_of_ble_eq_true rfl) hk (fun H L hP hD hS => ?_)
  refine s_icmp_eq C 989 302 rfl dL_law_299 (by decide) (u := some ()) (v := none) (r := some ()) (if_pos rfl) (fun _ => ?_) (fun h => by cases h)
  exact kk H L s2 m2 hR2 hP hD hS
set_option maxHeartbeats 1000000 in
set_option maxRecDepth 100000 in
theorem case_say {Γ : gT} {Δ : gD} {A : Nat → Prop} {a d : Nat → Nat} {bq Ls : Nat} {xs : Nat → Int32} {k n : Nat} (C : gOk Γ cL_law 4 RL) (hK : KD Δ (sOf Γ)) (hA : ∀ q, (sOf Γ).heap.size ≤ q → A q) (hX : va_X bq Ls xs (sOf Γ) (sOf Γ).heap) (hbl : bq < (sOf Γ).heap.size) (hbA : ¬ A bq) (hk : k ≤ room_1.cells ∧ n ≤ room_1.slots) (R : lawR) (hf : hF_say R) {i : Int32} (hi1 : vp_in (i + 1) Ls) (hi2 : vp_in (i + 2) Ls) (hi3 : vp_in (i + 3) Ls) (hi4 : vp_in (i + 4) Ls) (hi5 : vp_in (i + 5) Ls) (hi6 : vp_in (i + 6) Ls) {s : S8} {m : S9} {i0 i1 : Option ((Nat → Nat) × S6)} (hR : R s m (sd i0) (sd i1)) {H : Heap} {L : List Loc} (hP : va_P Δ.1 classes (LW a d Δ s m i0 i1) H) (hD : va_D A (LW a d Δ s m i0 i1)) (hS : va_S A (sOf Γ).heap H L) (kk : ∀ (H : Heap) (L : List Loc) (s : S8) (m : S9), R s m (sd i0) (sd i1) → va_P Δ.1 classes (LW a d Δ s m i0 i1) H → va_D A (LW a d Δ s m i0 i1) → va_S A (sOf Γ).heap H L → g Γ room_1 4 H L k n 989 [(0, .ref bq), (1, .ref (a 0)), (2, .ref (d 0)), (3, .int i)] []) : g Γ room_1 4 H L k n 304 [(0, .ref bq), (1, .ref (a 0)), (2, .ref (d 0)), (3, .int i)] [] := by
  refine g_aload_n C 305 rfl dL_law_304 1 rfl ?_
  refine g_aload_n C 306 rfl dL_law_305 0 rfl ?_
  refine g_iload_n C 307 rfl dL_law_306 3 rfl ?_
  refine g_iconst 1 C 308 rfl dL_law_307 ki_1 ?_
  refine g_iadd C 309 rfl dL_law_308 ?_
  refine g_sld C 310 rfl dL_law_309 hX hbl hbA hS hi1 ?_
  obtain ⟨r, s2, m2, ex, em, hR2⟩ := hf (xs ((i + 1) : Int32).toNatClampNeg) s m _ _ hR
  refine g_callWB (rest := []) [] (LS8 a d Δ m i0 i1) C 313 rfl dL_law_310 (c_X8_say Γ.2.1 Δ a (xs ((i + 1) : Int32).toNatClampNeg) s ex) mv_X8_say ml_L_32 hK hP hD hS hA rfl rfl rfl rfl rfl rfl ⟨Nat.le_of_ble_eq_true rfl, Nat.le_of_ble_eq_true rfl⟩ (Nat.le_of_ble_eq_true rfl) hk (fun H L hP hD hS => ?_)
  refine g_aload_n C 314 rfl dL_law_313 2 rfl ?_
  refine g_aload_n C 315 rfl dL_law_314 0 rfl ?_
  refine g_iload_n C 316 rfl dL_law_315 3 rfl ?_
  refine g_iconst 1 C 317 rfl dL_law_316 ki_1 ?_
  refine g_iadd C 318 rfl dL_law_317 ?_
  refine g_sld C 319 rfl dL_law_318 hX hbl hbA hS hi1 ?_
  refine g_callWB (rest := [.int r]) (cs8 a Δ s2) (LS9 a Δ i0 i1) C 322 rfl dL_law_319 (c_X9_say Γ.2.1 Δ d (xs ((i + 1) : Int32).toNatClampNeg) m em) mv_X9_say ml_L_35 hK hP hD hS hA rfl rfl rfl rfl rfl rfl ⟨Nat.le_of_ble_eq_true rfl, Nat.le_of_ble_eq_true rfl⟩ (Nat.le_of_ble_eq_true rfl) hk (fun H L hP hD hS => ?_)
  refine s_icmp_eq C 989 325 rfl dL_law_322 (by decide) (u := some ()) (v := none) (r := some ()) (if_pos rfl) (fun _ => ?_) (fun h => by cases h)
  exact kk H L s2 m2 hR2 hP hD hS
set_option maxHeartbeats 1000000 in
set_option maxRecDepth 100000 in
theorem case_wipe {Γ : gT} {Δ : gD} {A : Nat → Prop} {a d : Nat → Nat} {bq Ls : Nat} {xs : Nat → Int32} {k n : Nat} (C : gOk Γ cL_law 4 RL) (hK : KD Δ (sOf Γ)) (hA : ∀ q, (sOf Γ).heap.size ≤ q → A q) (hX : va_X bq Ls xs (sOf Γ) (sOf Γ).heap) (hbl : bq < (sOf Γ).heap.size) (hbA : ¬ A bq) (hk : k ≤ room_1.cells ∧ n ≤ room_1.slots) (R : lawR) (hf : hF_wipe R) {i : Int32} (hi1 : vp_in (i + 1) Ls) (hi2 : vp_in (i + 2) Ls) (hi3 : vp_in (i + 3) Ls) (hi4 : vp_in (i + 4) Ls) (hi5 : vp_in (i + 5) Ls) (hi6 : vp_in (i + 6) Ls) {s : S8} {m : S9} {i0 i1 : Option ((Nat → Nat) × S6)} (hR : R s m (sd i0) (sd i1)) {H : Heap} {L : List Loc} (hP : va_P Δ.1 classes (LW a d Δ s m i0 i1) H) (hD : va_D A (LW a d Δ s m i0 i1)) (hS : va_S A (sOf Γ).heap H L) (kk : ∀ (H : Heap) (L : List Loc) (s : S8) (m : S9), R s m (sd i0) (sd i1) → va_P Δ.1 classes (LW a d Δ s m i0 i1) H → va_D A (LW a d Δ s m i0 i1) → va_S A (sOf Γ).heap H L → g Γ room_1 4 H L k n 989 [(0, .ref bq), (1, .ref (a 0)), (2, .ref (d 0)), (3, .int i)] []) : g Γ room_1 4 H L k n 327 [(0, .ref bq), (1, .ref (a 0)), (2, .ref (d 0)), (3, .int i)] [] := by
  refine g_aload_n C 328 rfl dL_law_327 1 rfl ?_
  obtain ⟨r, s2, m2, ex, em, hR2⟩ := hf  s m _ _ hR
  refine g_callWB (rest := []) [] (LS8 a d Δ m i0 i1) C 331 rfl dL_law_328 (c_X8_wipe Γ.2.1 Δ a  s ex) mv_X8_wipe ml_L_36 hK hP hD hS hA rfl rfl rfl rfl rfl rfl ⟨Nat.le_of_ble_eq_true rfl, Nat.le_of_ble_eq_true rfl⟩ (Nat.le_of_ble_eq_true rfl) hk (fun H L hP hD hS => ?_)
  refine g_aload_n C 332 rfl dL_law_331 2 rfl ?_
  refine g_callWB (rest := [.int r]) (cs8 a Δ s2) (LS9 a Δ i0 i1) C 335 rfl dL_law_332 (c_X9_wipe Γ.2.1 Δ d  m em) mv_X9_wipe ml_L_40 hK hP hD hS hA rfl rfl rfl rfl rfl rfl ⟨Nat.le_of_ble_eq_true rfl, Nat.le_of_ble_eq_true rfl⟩ (Nat.le_of_ble_eq_true rfl) hk (fun H L hP hD hS => ?_)
  refine s_icmp_eq C 989 338 rfl dL_law_335 (by decide) (u := some ()) (v := none) (r := some ()) (if_pos rfl) (fun _ => ?_) (fun h => by cases h)
  exact kk H L s2 m2 hR2 hP hD hS
set_option maxHeartbeats 1000000 in
set_option maxRecDepth 100000 in
theorem case_fault {Γ : gT} {Δ : gD} {A : Nat → Prop} {a d : Nat → Nat} {bq Ls : Nat} {xs : Nat → Int32} {k n : Nat} (C : gOk Γ cL_law 4 RL) (hK : KD Δ (sOf Γ)) (hA : ∀ q, (sOf Γ).heap.size ≤ q → A q) (hX : va_X bq Ls xs (sOf Γ) (sOf Γ).heap) (hbl : bq < (sOf Γ).heap.size) (hbA : ¬ A bq) (hk : k ≤ room_1.cells ∧ n ≤ room_1.slots) (R : lawR) (hf : hF_fault R) {i : Int32} (hi1 : vp_in (i + 1) Ls) (hi2 : vp_in (i + 2) Ls) (hi3 : vp_in (i + 3) Ls) (hi4 : vp_in (i + 4) Ls) (hi5 : vp_in (i + 5) Ls) (hi6 : vp_in (i + 6) Ls) {s : S8} {m : S9} {i0 i1 : Option ((Nat → Nat) × S6)} (hR : R s m (sd i0) (sd i1)) {H : Heap} {L : List Loc} (hP : va_P Δ.1 classes (LW a d Δ s m i0 i1) H) (hD : va_D A (LW a d Δ s m i0 i1)) (hS : va_S A (sOf Γ).heap H L) (kk : ∀ (H : Heap) (L : List Loc) (s : S8) (m : S9), R s m (sd i0) (sd i1) → va_P Δ.1 classes (LW a d Δ s m i0 i1) H → va_D A (LW a d Δ s m i0 i1) → va_S A (sOf Γ).heap H L → g Γ room_1 4 H L k n 989 [(0, .ref bq), (1, .ref (a 0)), (2, .ref (d 0)), (3, .int i)] []) : g Γ room_1 4 H L k n 340 [(0, .ref bq), (1, .ref (a 0)), (2, .ref (d 0)), (3, .int i)] [] := by
  refine g_aload_n C 341 rfl dL_law_340 1 rfl ?_
  obtain ⟨r, m2, ex, em, hR2⟩ := hf  s m _ _ hR
  refine g_callRV (rest := []) C 344 rfl dL_law_341 (c_X8_fault Γ.2.1 Δ a  s ex) mv_X8_fault ml_L_41 hK (cutB (P := []) (S := LS8 a d Δ m i0 i1) hP) rfl rfl rfl rfl rfl ⟨Nat.le_of_ble_eq_true rfl, Nat.le_of_ble_eq_true rfl⟩ (Nat.le_of_ble_eq_true rfl) hk ?_
  refine g_aload_n C 345 rfl dL_law_344 2 rfl ?_
  refine g_callWB (rest := [.int r]) (cs8 a Δ s) (LS9 a Δ i0 i1) C 348 rfl dL_law_345 (c_X9_fault Γ.2.1 Δ d  m em) mv_X9_fault ml_L_44 hK hP hD hS hA rfl rfl rfl rfl rfl rfl ⟨Nat.le_of_ble_eq_true rfl, Nat.le_of_ble_eq_true rfl⟩ (Nat.le_of_ble_eq_true rfl) hk (fun H L hP hD hS => ?_)
  refine s_icmp_eq C 989 351 rfl dL_law_348 (by decide) (u := some ()) (v := none) (r := some ()) (if_pos rfl) (fun _ => ?_) (fun h => by cases h)
  exact kk H L s m2 hR2 hP hD hS
set_option maxHeartbeats 1000000 in
set_option maxRecDepth 100000 in
theorem case_judge {Γ : gT} {Δ : gD} {A : Nat → Prop} {a d : Nat → Nat} {bq Ls : Nat} {xs : Nat → Int32} {k n : Nat} (C : gOk Γ cL_law 4 RL) (hK : KD Δ (sOf Γ)) (hA : ∀ q, (sOf Γ).heap.size ≤ q → A q) (hX : va_X bq Ls xs (sOf Γ) (sOf Γ).heap) (hbl : bq < (sOf Γ).heap.size) (hbA : ¬ A bq) (hk : k ≤ room_1.cells ∧ n ≤ room_1.slots) (R : lawR) (hf : hF_judge R) {i : Int32} (hi1 : vp_in (i + 1) Ls) (hi2 : vp_in (i + 2) Ls) (hi3 : vp_in (i + 3) Ls) (hi4 : vp_in (i + 4) Ls) (hi5 : vp_in (i + 5) Ls) (hi6 : vp_in (i + 6) Ls) {s : S8} {m : S9} {i0 i1 : Option ((Nat → Nat) × S6)} (hR : R s m (sd i0) (sd i1)) {H : Heap} {L : List Loc} (hP : va_P Δ.1 classes (LW a d Δ s m i0 i1) H) (hD : va_D A (LW a d Δ s m i0 i1)) (hS : va_S A (sOf Γ).heap H L) (kk : ∀ (H : Heap) (L : List Loc) (s : S8) (m : S9), R s m (sd i0) (sd i1) → va_P Δ.1 classes (LW a d Δ s m i0 i1) H → va_D A (LW a d Δ s m i0 i1) → va_S A (sOf Γ).heap H L → g Γ room_1 4 H L k n 989 [(0, .ref bq), (1, .ref (a 0)), (2, .ref (d 0)), (3, .int i)] []) : g Γ room_1 4 H L k n 353 [(0, .ref bq), (1, .ref (a 0)), (2, .ref (d 0)), (3, .int i)] [] := by
  refine g_aload_n C 354 rfl dL_law_353 1 rfl ?_
  refine g_aload_n C 355 rfl dL_law_354 0 rfl ?_
  refine g_iload_n C 356 rfl dL_law_355 3 rfl ?_
  refine g_iconst 1 C 357 rfl dL_law_356 ki_1 ?_
  refine g_iadd C 358 rfl dL_law_357 ?_
  refine g_sld C 359 rfl dL_law_358 hX hbl hbA hS hi1 ?_
  obtain ⟨r, s2, m2, ex, em, hR2⟩ := hf (xs ((i + 1) : Int32).toNatClampNeg) s m _ _ hR
  refine g_callWB (rest := []) [] (LS8 a d Δ m i0 i1) C 362 rfl dL_law_359 (c_X8_judge Γ.2.1 Δ a (xs ((i + 1) : Int32).toNatClampNeg) s ex) mv_X8_judge ml_L_45 hK hP hD hS hA rfl rfl rfl rfl rfl rfl ⟨Nat.le_of_ble_eq_true rfl, Nat.le_of_ble_eq_true rfl⟩ (Nat.le_of_ble_eq_true rfl) hk (fun H L hP hD hS => ?_)
  refine g_aload_n C 363 rfl dL_law_362 2 rfl ?_
  refine g_aload_n C 364 rfl dL_law_363 0 rfl ?_
  refine g_iload_n C 365 rfl dL_law_364 3 rfl ?_
  refine g_iconst 1 C 366 rfl dL_law_365 ki_1 ?_
  refine g_iadd C 367 rfl dL_law_366 ?_
  refine g_sld C 368 rfl dL_law_367 hX hbl hbA hS hi1 ?_
  refine g_callWB (rest := [.int r]) (cs8 a Δ s2) (LS9 a Δ i0 i1) C 371 rfl dL_law_368 (c_X9_judge Γ.2.1 Δ d (xs ((i + 1) : Int32).toNatClampNeg) m em) mv_X9_judge ml_L_48 hK hP hD hS hA rfl rfl rfl rfl rfl rfl ⟨Nat.le_of_ble_eq_true rfl, Nat.le_of_ble_eq_true rfl⟩ (Nat.le_of_ble_eq_true rfl) hk (fun H L hP hD hS => ?_)
  refine s_icmp_eq C 989 374 rfl dL_law_371 (by decide) (u := some ()) (v := none) (r := some ()) (if_pos rfl) (fun _ => ?_) (fun h => by cases h)
  exact kk H L s2 m2 hR2 hP hD hS
set_option maxHeartbeats 1000000 in
set_option maxRecDepth 100000 in
theorem case_behind {Γ : gT} {Δ : gD} {A : Nat → Prop} {a d : Nat → Nat} {bq Ls : Nat} {xs : Nat → Int32} {k n : Nat} (C : gOk Γ cL_law 4 RL) (hK : KD Δ (sOf Γ)) (hA : ∀ q, (sOf Γ).heap.size ≤ q → A q) (hX : va_X bq Ls xs (sOf Γ) (sOf Γ).heap) (hbl : bq < (sOf Γ).heap.size) (hbA : ¬ A bq) (hk : k ≤ room_1.cells ∧ n ≤ room_1.slots) (R : lawR) (hf : hF_behind R) {i : Int32} (hi1 : vp_in (i + 1) Ls) (hi2 : vp_in (i + 2) Ls) (hi3 : vp_in (i + 3) Ls) (hi4 : vp_in (i + 4) Ls) (hi5 : vp_in (i + 5) Ls) (hi6 : vp_in (i + 6) Ls) {s : S8} {m : S9} {i0 i1 : Option ((Nat → Nat) × S6)} (hR : R s m (sd i0) (sd i1)) {H : Heap} {L : List Loc} (hP : va_P Δ.1 classes (LW a d Δ s m i0 i1) H) (hD : va_D A (LW a d Δ s m i0 i1)) (hS : va_S A (sOf Γ).heap H L) (kk : ∀ (H : Heap) (L : List Loc) (s : S8) (m : S9), R s m (sd i0) (sd i1) → va_P Δ.1 classes (LW a d Δ s m i0 i1) H → va_D A (LW a d Δ s m i0 i1) → va_S A (sOf Γ).heap H L → g Γ room_1 4 H L k n 989 [(0, .ref bq), (1, .ref (a 0)), (2, .ref (d 0)), (3, .int i)] []) : g Γ room_1 4 H L k n 376 [(0, .ref bq), (1, .ref (a 0)), (2, .ref (d 0)), (3, .int i)] [] := by
  refine g_aload_n C 377 rfl dL_law_376 1 rfl ?_
  refine g_aload_n C 378 rfl dL_law_377 0 rfl ?_
  refine g_iload_n C 379 rfl dL_law_378 3 rfl ?_
  refine g_iconst 1 C 380 rfl dL_law_379 ki_1 ?_
  refine g_iadd C 381 rfl dL_law_380 ?_
  refine g_sld C 382 rfl dL_law_381 hX hbl hbA hS hi1 ?_
  refine g_aload_n C 383 rfl dL_law_382 0 rfl ?_
  refine g_iload_n C 384 rfl dL_law_383 3 rfl ?_
  refine g_iconst 2 C 385 rfl dL_law_384 ki_2 ?_
  refine g_iadd C 386 rfl dL_law_385 ?_
  refine g_sld C 387 rfl dL_law_386 hX hbl hbA hS hi2 ?_
  obtain ⟨r, s2, m2, ex, em, hR2⟩ := hf (xs ((i + 1) : Int32).toNatClampNeg) (xs ((i + 2) : Int32).toNatClampNeg) s m _ _ hR
  refine g_callWB (rest := []) [] (LS8 a d Δ m i0 i1) C 390 rfl dL_law_387 (c_X8_behind Γ.2.1 Δ a (xs ((i + 1) : Int32).toNatClampNeg) (xs ((i + 2) : Int32).toNatClampNeg) s ex) mv_X8_behind ml_L_49 hK hP hD hS hA rfl rfl rfl rfl rfl rfl ⟨Nat.le_of_ble_eq_true rfl, Nat.le_of_ble_eq_true rfl⟩ (Nat.le_of_ble_eq_true rfl) hk (fun H L hP hD hS => ?_)
  refine g_aload_n C 391 rfl dL_law_390 2 rfl ?_
  refine g_aload_n C 392 rfl dL_law_391 0 rfl ?_
  refine g_iload_n C 393 rfl dL_law_392 3 rfl ?_
  refine g_iconst 1 C 394 rfl dL_law_393 ki_1 ?_
  refine g_iadd C 395 rfl dL_law_394 ?_
  refine g_sld C 396 rfl dL_law_395 hX hbl hbA hS hi1 ?_
  refine g_aload_n C 397 rfl dL_law_396 0 rfl ?_
  refine g_iload_n C 398 rfl dL_law_397 3 rfl ?_
  refine g_iconst 2 C 399 rfl dL_law_398 ki_2 ?_
  refine g_iadd C 400 rfl dL_law_399 ?_
  refine g_sld C 401 rfl dL_law_400 hX hbl hbA hS hi2 ?_
  refine g_callWB (rest := [.int r]) (cs8 a Δ s2) (LS9 a Δ i0 i1) C 404 rfl dL_law_401 (c_X9_behind Γ.2.1 Δ d (xs ((i + 1) : Int32).toNatClampNeg) (xs ((i + 2) : Int32).toNatClampNeg) m em) mv_X9_behind ml_L_52 hK hP hD hS hA rfl rfl rfl rfl rfl rfl ⟨Nat.le_of_ble_eq_true rfl, Nat.le_of_ble_eq_true rfl⟩ (Nat.le_of_ble_eq_true rfl) hk (fun H L hP hD hS => ?_)
  refine s_icmp_eq C 989 407 rfl dL_law_404 (by decide) (u := some ()) (v := none) (r := some ()) (if_pos rfl) (fun _ => ?_) (fun h => by cases h)
  exact kk H L s2 m2 hR2 hP hD hS
set_option maxHeartbeats 1000000 in
set_option maxRecDepth 100000 in
theorem case_slipped {Γ : gT} {Δ : gD} {A : Nat → Prop} {a d : Nat → Nat} {bq Ls : Nat} {xs : Nat → Int32} {k n : Nat} (C : gOk Γ cL_law 4 RL) (hK : KD Δ (sOf Γ)) (hA : ∀ q, (sOf Γ).heap.size ≤ q → A q) (hX : va_X bq Ls xs (sOf Γ) (sOf Γ).heap) (hbl : bq < (sOf Γ).heap.size) (hbA : ¬ A bq) (hk : k ≤ room_1.cells ∧ n ≤ room_1.slots) (R : lawR) (hf : hF_slipped R) {i : Int32} (hi1 : vp_in (i + 1) Ls) (hi2 : vp_in (i + 2) Ls) (hi3 : vp_in (i + 3) Ls) (hi4 : vp_in (i + 4) Ls) (hi5 : vp_in (i + 5) Ls) (hi6 : vp_in (i + 6) Ls) {s : S8} {m : S9} {i0 i1 : Option ((Nat → Nat) × S6)} (hR : R s m (sd i0) (sd i1)) {H : Heap} {L : List Loc} (hP : va_P Δ.1 classes (LW a d Δ s m i0 i1) H) (hD : va_D A (LW a d Δ s m i0 i1)) (hS : va_S A (sOf Γ).heap H L) (kk : ∀ (H : Heap) (L : List Loc) (s : S8) (m : S9), R s m (sd i0) (sd i1) → va_P Δ.1 classes (LW a d Δ s m i0 i1) H → va_D A (LW a d Δ s m i0 i1) → va_S A (sOf Γ).heap H L → g Γ room_1 4 H L k n 989 [(0, .ref bq), (1, .ref (a 0)), (2, .ref (d 0)), (3, .int i)] []) : g Γ room_1 4 H L k n 409 [(0, .ref bq), (1, .ref (a 0)), (2, .ref (d 0)), (3, .int i)] [] := by
  refine g_aload_n C 410 rfl dL_law_409 1 rfl ?_
  refine g_aload_n C 411 rfl dL_law_410 0 rfl ?_
  refine g_iload_n C 412 rfl dL_law_411 3 rfl ?_
  refine g_iconst 1 C 413 rfl dL_law_412 ki_1 ?_
  refine g_iadd C 414 rfl dL_law_413 ?_
  refine g_sld C 415 rfl dL_law_414 hX hbl hbA hS hi1 ?_
  obtain ⟨r, s2, m2, ex, em, hR2⟩ := hf (xs ((i + 1) : Int32).toNatClampNeg) s m _ _ hR
  refine g_callWB (rest := []) [] (LS8 a d Δ m i0 i1) C 418 rfl dL_law_415 (c_X8_slipped Γ.2.1 Δ a (xs ((i + 1) : Int32).toNatClampNeg) s ex) mv_X8_slipped ml_L_53 hK hP hD hS hA rfl rfl rfl rfl rfl rfl ⟨Nat.le_of_ble_eq_true rfl, Nat.le_of_ble_eq_true rfl⟩ (Nat.le_of_ble_eq_true rfl) hk (fun H L hP hD hS => ?_)
  refine g_aload_n C 419 rfl dL_law_418 2 rfl ?_
  refine g_aload_n C 420 rfl dL_law_419 0 rfl ?_
  refine g_iload_n C 421 rfl dL_law_420 3 rfl ?_
  refine g_iconst 1 C 422 rfl dL_law_421 ki_1 ?_
  refine g_iadd C 423 rfl dL_law_422 ?_
  refine g_sld C 424 rfl dL_law_423 hX hbl hbA hS hi1 ?_
  refine g_callWB (rest := [.int r]) (cs8 a Δ s2) (LS9 a Δ i0 i1) C 427 rfl dL_law_424 (c_X9_slipped Γ.2.1 Δ d (xs ((i + 1) : Int32).toNatClampNeg) m em) mv_X9_slipped ml_L_56 hK hP hD hS hA rfl rfl rfl rfl rfl rfl ⟨Nat.le_of_ble_eq_true rfl, Nat.le_of_ble_eq_true rfl⟩ (Nat.le_of_ble_eq_true rfl) hk (fun H L hP hD hS => ?_)
  refine s_icmp_eq C 989 430 rfl dL_law_427 (by decide) (u := some ()) (v := none) (r := some ()) (if_pos rfl) (fun _ => ?_) (fun h => by cases h)
  exact kk H L s2 m2 hR2 hP hD hS
set_option maxHeartbeats 1000000 in
set_option maxRecDepth 100000 in
theorem case_done {Γ : gT} {Δ : gD} {A : Nat → Prop} {a d : Nat → Nat} {bq Ls : Nat} {xs : Nat → Int32} {k n : Nat} (C : gOk Γ cL_law 4 RL) (hK : KD Δ (sOf Γ)) (hA : ∀ q, (sOf Γ).heap.size ≤ q → A q) (hX : va_X bq Ls xs (sOf Γ) (sOf Γ).heap) (hbl : bq < (sOf Γ).heap.size) (hbA : ¬ A bq) (hk : k ≤ room_1.cells ∧ n ≤ room_1.slots) (R : lawR) (hf : hF_done R) {i : Int32} (hi1 : vp_in (i + 1) Ls) (hi2 : vp_in (i + 2) Ls) (hi3 : vp_in (i + 3) Ls) (hi4 : vp_in (i + 4) Ls) (hi5 : vp_in (i + 5) Ls) (hi6 : vp_in (i + 6) Ls) {s : S8} {m : S9} {i0 i1 : Option ((Nat → Nat) × S6)} (hR : R s m (sd i0) (sd i1)) {H : Heap} {L : List Loc} (hP : va_P Δ.1 classes (LW a d Δ s m i0 i1) H) (hD : va_D A (LW a d Δ s m i0 i1)) (hS : va_S A (sOf Γ).heap H L) (kk : ∀ (H : Heap) (L : List Loc) (s : S8) (m : S9), R s m (sd i0) (sd i1) → va_P Δ.1 classes (LW a d Δ s m i0 i1) H → va_D A (LW a d Δ s m i0 i1) → va_S A (sOf Γ).heap H L → g Γ room_1 4 H L k n 989 [(0, .ref bq), (1, .ref (a 0)), (2, .ref (d 0)), (3, .int i)] []) : g Γ room_1 4 H L k n 432 [(0, .ref bq), (1, .ref (a 0)), (2, .ref (d 0)), (3, .int i)] [] := by
  refine g_aload_n C 433 rfl dL_law_432 1 rfl ?_
  obtain ⟨r, s2, m2, ex, em, hR2⟩ := hf  s m _ _ hR
  refine g_callWB (rest := []) [] (LS8 a d Δ m i0 i1) C 436 rfl dL_law_433 (c_X8_done Γ.2.1 Δ a  s ex) mv_X8_done ml_L_57 hK hP hD hS hA rfl rfl rfl rfl rfl rfl ⟨Nat.le_of_ble_eq_true rfl, Nat.le_of_ble_eq_true rfl⟩ (Nat.le_of_ble_eq_true rfl) hk (fun H L hP hD hS => ?_)
  refine g_aload_n C 437 rfl dL_law_436 2 rfl ?_
  refine g_callWB (rest := [.int r]) (cs8 a Δ s2) (LS9 a Δ i0 i1) C 440 rfl dL_law_437 (c_X9_done Γ.2.1 Δ d  m em) mv_X9_done ml_L_60 hK hP hD hS hA rfl rfl rfl rfl rfl rfl ⟨Nat.le_of_ble_eq_true rfl, Nat.le_of_ble_eq_true rfl⟩ (Nat.le_of_ble_eq_true rfl) hk (fun H L hP hD hS => ?_)
  refine s_icmp_eq C 989 443 rfl dL_law_440 (by decide) (u := some ()) (v := none) (r := some ()) (if_pos rfl) (fun _ => ?_) (fun h => by cases h)
  exact kk H L s2 m2 hR2 hP hD hS
set_option maxHeartbeats 1000000 in
set_option maxRecDepth 100000 in
theorem case_hears {Γ : gT} {Δ : gD} {A : Nat → Prop} {a d : Nat → Nat} {bq Ls : Nat} {xs : Nat → Int32} {k n : Nat} (C : gOk Γ cL_law 4 RL) (hK : KD Δ (sOf Γ)) (hA : ∀ q, (sOf Γ).heap.size ≤ q → A q) (hX : va_X bq Ls xs (sOf Γ) (sOf Γ).heap) (hbl : bq < (sOf Γ).heap.size) (hbA : ¬ A bq) (hk : k ≤ room_1.cells ∧ n ≤ room_1.slots) (R : lawR) (hf : hF_hears R) {i : Int32} (hi1 : vp_in (i + 1) Ls) (hi2 : vp_in (i + 2) Ls) (hi3 : vp_in (i + 3) Ls) (hi4 : vp_in (i + 4) Ls) (hi5 : vp_in (i + 5) Ls) (hi6 : vp_in (i + 6) Ls) {s : S8} {m : S9} {i0 i1 : Option ((Nat → Nat) × S6)} (hR : R s m (sd i0) (sd i1)) {H : Heap} {L : List Loc} (hP : va_P Δ.1 classes (LW a d Δ s m i0 i1) H) (hD : va_D A (LW a d Δ s m i0 i1)) (hS : va_S A (sOf Γ).heap H L) (kk : ∀ (H : Heap) (L : List Loc) (s : S8) (m : S9), R s m (sd i0) (sd i1) → va_P Δ.1 classes (LW a d Δ s m i0 i1) H → va_D A (LW a d Δ s m i0 i1) → va_S A (sOf Γ).heap H L → g Γ room_1 4 H L k n 989 [(0, .ref bq), (1, .ref (a 0)), (2, .ref (d 0)), (3, .int i)] []) : g Γ room_1 4 H L k n 445 [(0, .ref bq), (1, .ref (a 0)), (2, .ref (d 0)), (3, .int i)] [] := by
  refine g_aload_n C 446 rfl dL_law_445 1 rfl ?_
  refine g_aload_n C 447 rfl dL_law_446 0 rfl ?_
  refine g_iload_n C 448 rfl dL_law_447 3 rfl ?_
  refine g_iconst 1 C 449 rfl dL_law_448 ki_1 ?_
  refine g_iadd C 450 rfl dL_law_449 ?_
  refine g_sld C 451 rfl dL_law_450 hX hbl hbA hS hi1 ?_
  obtain ⟨r, ex, em, hR2⟩ := hf (xs ((i + 1) : Int32).toNatClampNeg) s m _ _ hR
  refine g_callRV (rest := []) C 454 rfl dL_law_451 (c_X8_hears Γ.2.1 Δ a (xs ((i + 1) : Int32).toNatClampNeg) s ex) mv_X8_hears ml_L_61 hK (cutB (P := []) (S := LS8 a d Δ m i0 i1) hP) rfl rfl rfl rfl rfl ⟨Nat.le_of_ble_eq_true rfl, Nat.le_of_ble_eq_true rfl⟩ (Nat.le_of_ble_eq_true rfl) hk ?_
  refine g_aload_n C 455 rfl dL_law_454 2 rfl ?_
  refine g_aload_n C 456 rfl dL_law_455 0 rfl ?_
  refine g_iload_n C 457 rfl dL_law_456 3 rfl ?_
  refine g_iconst 1 C 458 rfl dL_law_457 ki_1 ?_
  refine g_iadd C 459 rfl dL_law_458 ?_
  refine g_sld C 460 rfl dL_law_459 hX hbl hbA hS hi1 ?_
  refine g_callRV (rest := [.int r]) C 463 rfl dL_law_460 (c_X9_hears Γ.2.1 Δ d (xs ((i + 1) : Int32).toNatClampNeg) m em) mv_X9_hears ml_L_64 hK (cutB (P := cs8 a Δ s) (S := LS9 a Δ i0 i1) hP) rfl rfl rfl rfl rfl ⟨Nat.le_of_ble_eq_true rfl, Nat.le_of_ble_eq_true rfl⟩ (Nat.le_of_ble_eq_true rfl) hk ?_
  refine s_icmp_eq C 989 466 rfl dL_law_463 (by decide) (u := some ()) (v := none) (r := some ()) (if_pos rfl) (fun _ => ?_) (fun h => by cases h)
  exact kk H L s m hR2 hP hD hS
set_option maxHeartbeats 1000000 in
set_option maxRecDepth 100000 in
theorem case_spend {Γ : gT} {Δ : gD} {A : Nat → Prop} {a d : Nat → Nat} {bq Ls : Nat} {xs : Nat → Int32} {k n : Nat} (C : gOk Γ cL_law 4 RL) (hK : KD Δ (sOf Γ)) (hA : ∀ q, (sOf Γ).heap.size ≤ q → A q) (hX : va_X bq Ls xs (sOf Γ) (sOf Γ).heap) (hbl : bq < (sOf Γ).heap.size) (hbA : ¬ A bq) (hk : k ≤ room_1.cells ∧ n ≤ room_1.slots) (R : lawR) (hf : hF_spend R) {i : Int32} (hi1 : vp_in (i + 1) Ls) (hi2 : vp_in (i + 2) Ls) (hi3 : vp_in (i + 3) Ls) (hi4 : vp_in (i + 4) Ls) (hi5 : vp_in (i + 5) Ls) (hi6 : vp_in (i + 6) Ls) {s : S8} {m : S9} {i0 i1 : Option ((Nat → Nat) × S6)} (hR : R s m (sd i0) (sd i1)) {H : Heap} {L : List Loc} (hP : va_P Δ.1 classes (LW a d Δ s m i0 i1) H) (hD : va_D A (LW a d Δ s m i0 i1)) (hS : va_S A (sOf Γ).heap H L) (kk : ∀ (H : Heap) (L : List Loc) (s : S8) (m : S9), R s m (sd i0) (sd i1) → va_P Δ.1 classes (LW a d Δ s m i0 i1) H → va_D A (LW a d Δ s m i0 i1) → va_S A (sOf Γ).heap H L → g Γ room_1 4 H L k n 989 [(0, .ref bq), (1, .ref (a 0)), (2, .ref (d 0)), (3, .int i)] []) : g Γ room_1 4 H L k n 468 [(0, .ref bq), (1, .ref (a 0)), (2, .ref (d 0)), (3, .int i)] [] := by
  refine g_aload_n C 469 rfl dL_law_468 1 rfl ?_
  refine g_aload_n C 470 rfl dL_law_469 0 rfl ?_
  refine g_iload_n C 471 rfl dL_law_470 3 rfl ?_
  refine g_iconst 1 C 472 rfl dL_law_471 ki_1 ?_
  refine g_iadd C 473 rfl dL_law_472 ?_
  refine g_sld C 474 rfl dL_law_473 hX hbl hbA hS hi1 ?_
  refine g_aload_n C 475 rfl dL_law_474 0 rfl ?_
  refine g_iload_n C 476 rfl dL_law_475 3 rfl ?_
  refine g_iconst 2 C 477 rfl dL_law_476 ki_2 ?_
  refine g_iadd C 478 rfl dL_law_477 ?_
  refine g_sld C 479 rfl dL_law_478 hX hbl hbA hS hi2 ?_
  refine g_aload_n C 480 rfl dL_law_479 0 rfl ?_
  refine g_iload_n C 481 rfl dL_law_480 3 rfl ?_
  refine g_iconst 3 C 482 rfl dL_law_481 ki_3 ?_
  refine g_iadd C 483 rfl dL_law_482 ?_
  refine g_sld C 484 rfl dL_law_483 hX hbl hbA hS hi3 ?_
  refine g_aload_n C 485 rfl dL_law_484 0 rfl ?_
  refine g_iload_n C 486 rfl dL_law_485 3 rfl ?_
  refine g_iconst 4 C 487 rfl dL_law_486 ki_4 ?_
  refine g_iadd C 488 rfl dL_law_487 ?_
  refine g_sld C 489 rfl dL_law_488 hX hbl hbA hS hi4 ?_
  obtain ⟨r, s2, m2, ex, em, hR2⟩ := hf (xs ((i + 1) : Int32).toNatClampNeg) (xs ((i + 2) : Int32).toNatClampNeg) (xs ((i + 3) : Int32).toNatClampNeg) (xs ((i + 4) : Int32).toNatClampNeg) s m _ _ hR
  refine g_callWB (rest := []) [] (LS8 a d Δ m i0 i1) C 492 rfl dL_law_489 (c_X8_spend Γ.2.1 Δ a (xs ((i + 1) : Int32).toNatClampNeg) (xs ((i + 2) : Int32).toNatClampNeg) (xs ((i + 3) : Int32).toNatClampNeg) (xs ((i + 4) : Int32).toNatClampNeg) s ex) mv_X8_spend ml_L_65 hK hP hD hS hA rfl rfl rfl rfl rfl rfl ⟨Nat.le_of_ble_eq_true rfl, Nat.le_of_ble_eq_true rfl⟩ (Nat.le_of_ble_eq_true rfl) hk (fun H L hP hD hS => ?_)
  refine g_aload_n C 493 rfl dL_law_492 2 rfl ?_
  refine g_aload_n C 494 rfl dL_law_493 0 rfl ?_
  refine g_iload_n C 495 rfl dL_law_494 3 rfl ?_
  refine g_iconst 1 C 496 rfl dL_law_495 ki_1 ?_
  refine g_iadd C 497 rfl dL_law_496 ?_
  refine g_sld C 498 rfl dL_law_497 hX hbl hbA hS hi1 ?_
  refine g_aload_n C 499 rfl dL_law_498 0 rfl ?_
  refine g_iload_n C 500 rfl dL_law_499 3 rfl ?_
  refine g_iconst 2 C 501 rfl dL_law_500 ki_2 ?_
  refine g_iadd C 502 rfl dL_law_501 ?_
  refine g_sld C 503 rfl dL_law_502 hX hbl hbA hS hi2 ?_
  refine g_aload_n C 504 rfl dL_law_503 0 rfl ?_
  refine g_iload_n C 505 rfl dL_law_504 3 rfl ?_
  refine g_iconst 3 C 506 rfl dL_law_505 ki_3 ?_
  refine g_iadd C 507 rfl dL_law_506 ?_
  refine g_sld C 508 rfl dL_law_507 hX hbl hbA hS hi3 ?_
  refine g_aload_n C 509 rfl dL_law_508 0 rfl ?_
  refine g_iload_n C 510 rfl dL_law_509 3 rfl ?_
  refine g_iconst 4 C 511 rfl dL_law_510 ki_4 ?_
  refine g_iadd C 512 rfl dL_law_511 ?_
  refine g_sld C 513 rfl dL_law_512 hX hbl hbA hS hi4 ?_
  refine g_callWB (rest := [.int r]) (cs8 a Δ s2) (LS9 a Δ i0 i1) C 516 rfl dL_law_513 (c_X9_spend Γ.2.1 Δ d (xs ((i + 1) : Int32).toNatClampNeg) (xs ((i + 2) : Int32).toNatClampNeg) (xs ((i + 3) : Int32).toNatClampNeg) (xs ((i + 4) : Int32).toNatClampNeg) m em) mv_X9_spend ml_L_69 hK hP hD hS hA rfl rfl rfl rfl rfl rfl ⟨Nat.le_of_ble_eq_true rfl, Nat.le_of_ble_eq_true rfl⟩ (Nat.le_of_ble_eq_true rfl) hk (fun H L hP hD hS => ?_)
  refine s_icmp_eq C 989 519 rfl dL_law_516 (by decide) (u := some ()) (v := none) (r := some ()) (if_pos rfl) (fun _ => ?_) (fun h => by cases h)
  exact kk H L s2 m2 hR2 hP hD hS
set_option maxHeartbeats 1000000 in
set_option maxRecDepth 100000 in
theorem case_deal {Γ : gT} {Δ : gD} {A : Nat → Prop} {a d : Nat → Nat} {bq Ls : Nat} {xs : Nat → Int32} {k n : Nat} (C : gOk Γ cL_law 4 RL) (hK : KD Δ (sOf Γ)) (hA : ∀ q, (sOf Γ).heap.size ≤ q → A q) (hX : va_X bq Ls xs (sOf Γ) (sOf Γ).heap) (hbl : bq < (sOf Γ).heap.size) (hbA : ¬ A bq) (hk : k ≤ room_1.cells ∧ n ≤ room_1.slots) (R : lawR) (hf : hF_deal R) {i : Int32} (hi1 : vp_in (i + 1) Ls) (hi2 : vp_in (i + 2) Ls) (hi3 : vp_in (i + 3) Ls) (hi4 : vp_in (i + 4) Ls) (hi5 : vp_in (i + 5) Ls) (hi6 : vp_in (i + 6) Ls) {s : S8} {m : S9} {i0 i1 : Option ((Nat → Nat) × S6)} (hR : R s m (sd i0) (sd i1)) {H : Heap} {L : List Loc} (hP : va_P Δ.1 classes (LW a d Δ s m i0 i1) H) (hD : va_D A (LW a d Δ s m i0 i1)) (hS : va_S A (sOf Γ).heap H L) (kk : ∀ (H : Heap) (L : List Loc) (s : S8) (m : S9), R s m (sd i0) (sd i1) → va_P Δ.1 classes (LW a d Δ s m i0 i1) H → va_D A (LW a d Δ s m i0 i1) → va_S A (sOf Γ).heap H L → g Γ room_1 4 H L k n 989 [(0, .ref bq), (1, .ref (a 0)), (2, .ref (d 0)), (3, .int i)] []) : g Γ room_1 4 H L k n 521 [(0, .ref bq), (1, .ref (a 0)), (2, .ref (d 0)), (3, .int i)] [] := by
  refine g_aload_n C 522 rfl dL_law_521 1 rfl ?_
  refine g_aload_n C 523 rfl dL_law_522 0 rfl ?_
  refine g_iload_n C 524 rfl dL_law_523 3 rfl ?_
  refine g_iconst 1 C 525 rfl dL_law_524 ki_1 ?_
  refine g_iadd C 526 rfl dL_law_525 ?_
  refine g_sld C 527 rfl dL_law_526 hX hbl hbA hS hi1 ?_
  refine g_aload_n C 528 rfl dL_law_527 0 rfl ?_
  refine g_iload_n C 529 rfl dL_law_528 3 rfl ?_
  refine g_iconst 2 C 530 rfl dL_law_529 ki_2 ?_
  refine g_iadd C 531 rfl dL_law_530 ?_
  refine g_sld C 532 rfl dL_law_531 hX hbl hbA hS hi2 ?_
  refine g_aload_n C 533 rfl dL_law_532 0 rfl ?_
  refine g_iload_n C 534 rfl dL_law_533 3 rfl ?_
  refine g_iconst 3 C 535 rfl dL_law_534 ki_3 ?_
  refine g_iadd C 536 rfl dL_law_535 ?_
  refine g_sld C 537 rfl dL_law_536 hX hbl hbA hS hi3 ?_
  obtain ⟨r, s2, m2, ex, em, hR2⟩ := hf (xs ((i + 1) : Int32).toNatClampNeg) (xs ((i + 2) : Int32).toNatClampNeg) (xs ((i + 3) : Int32).toNatClampNeg) s m _ _ hR
  refine g_callWB (rest := []) [] (LS8 a d Δ m i0 i1) C 540 rfl dL_law_537 (c_X8_deal Γ.2.1 Δ a (xs ((i + 1) : Int32).toNatClampNeg) (xs ((i + 2) : Int32).toNatClampNeg) (xs ((i + 3) : Int32).toNatClampNeg) s ex) mv_X8_deal ml_L_70 hK hP hD hS hA rfl rfl rfl rfl rfl rfl ⟨Nat.le_of_ble_eq_true rfl, Nat.le_of_ble_eq_true rfl⟩ (Nat.le_of_ble_eq_true rfl) hk (fun H L hP hD hS => ?_)
  refine g_aload_n C 541 rfl dL_law_540 2 rfl ?_
  refine g_aload_n C 542 rfl dL_law_541 0 rfl ?_
  refine g_iload_n C 543 rfl dL_law_542 3 rfl ?_
  refine g_iconst 1 C 544 rfl dL_law_543 ki_1 ?_
  refine g_iadd C 545 rfl dL_law_544 ?_
  refine g_sld C 546 rfl dL_law_545 hX hbl hbA hS hi1 ?_
  refine g_aload_n C 547 rfl dL_law_546 0 rfl ?_
  refine g_iload_n C 548 rfl dL_law_547 3 rfl ?_
  refine g_iconst 2 C 549 rfl dL_law_548 ki_2 ?_
  refine g_iadd C 550 rfl dL_law_549 ?_
  refine g_sld C 551 rfl dL_law_550 hX hbl hbA hS hi2 ?_
  refine g_aload_n C 552 rfl dL_law_551 0 rfl ?_
  refine g_iload_n C 553 rfl dL_law_552 3 rfl ?_
  refine g_iconst 3 C 554 rfl dL_law_553 ki_3 ?_
  refine g_iadd C 555 rfl dL_law_554 ?_
  refine g_sld C 556 rfl dL_law_555 hX hbl hbA hS hi3 ?_
  refine g_callWB (rest := [.int r]) (cs8 a Δ s2) (LS9 a Δ i0 i1) C 559 rfl dL_law_556 (c_X9_deal Γ.2.1 Δ d (xs ((i + 1) : Int32).toNatClampNeg) (xs ((i + 2) : Int32).toNatClampNeg) (xs ((i + 3) : Int32).toNatClampNeg) m em) mv_X9_deal ml_L_74 hK hP hD hS hA rfl rfl rfl rfl rfl rfl ⟨Nat.le_of_ble_eq_true rfl, Nat.le_of_ble_eq_true rfl⟩ (Nat.le_of_ble_eq_true rfl) hk (fun H L hP hD hS => ?_)
  refine s_icmp_eq C 989 562 rfl dL_law_559 (by decide) (u := some ()) (v := none) (r := some ()) (if_pos rfl) (fun _ => ?_) (fun h => by cases h)
  exact kk H L s2 m2 hR2 hP hD hS
set_option maxHeartbeats 1000000 in
set_option maxRecDepth 100000 in
theorem case_seats {Γ : gT} {Δ : gD} {A : Nat → Prop} {a d : Nat → Nat} {bq Ls : Nat} {xs : Nat → Int32} {k n : Nat} (C : gOk Γ cL_law 4 RL) (hK : KD Δ (sOf Γ)) (hA : ∀ q, (sOf Γ).heap.size ≤ q → A q) (hX : va_X bq Ls xs (sOf Γ) (sOf Γ).heap) (hbl : bq < (sOf Γ).heap.size) (hbA : ¬ A bq) (hk : k ≤ room_1.cells ∧ n ≤ room_1.slots) (R : lawR) (hf : hF_seats R) {i : Int32} (hi1 : vp_in (i + 1) Ls) (hi2 : vp_in (i + 2) Ls) (hi3 : vp_in (i + 3) Ls) (hi4 : vp_in (i + 4) Ls) (hi5 : vp_in (i + 5) Ls) (hi6 : vp_in (i + 6) Ls) {s : S8} {m : S9} {i0 i1 : Option ((Nat → Nat) × S6)} (hR : R s m (sd i0) (sd i1)) {H : Heap} {L : List Loc} (hP : va_P Δ.1 classes (LW a d Δ s m i0 i1) H) (hD : va_D A (LW a d Δ s m i0 i1)) (hS : va_S A (sOf Γ).heap H L) (kk : ∀ (H : Heap) (L : List Loc) (s : S8) (m : S9), R s m (sd i0) (sd i1) → va_P Δ.1 classes (LW a d Δ s m i0 i1) H → va_D A (LW a d Δ s m i0 i1) → va_S A (sOf Γ).heap H L → g Γ room_1 4 H L k n 989 [(0, .ref bq), (1, .ref (a 0)), (2, .ref (d 0)), (3, .int i)] []) : g Γ room_1 4 H L k n 564 [(0, .ref bq), (1, .ref (a 0)), (2, .ref (d 0)), (3, .int i)] [] := by
  refine g_aload_n C 565 rfl dL_law_564 1 rfl ?_
  refine g_aload_n C 566 rfl dL_law_565 0 rfl ?_
  refine g_iload_n C 567 rfl dL_law_566 3 rfl ?_
  refine g_iconst 1 C 568 rfl dL_law_567 ki_1 ?_
  refine g_iadd C 569 rfl dL_law_568 ?_
  refine g_sld C 570 rfl dL_law_569 hX hbl hbA hS hi1 ?_
  refine g_aload_n C 571 rfl dL_law_570 0 rfl ?_
  refine g_iload_n C 572 rfl dL_law_571 3 rfl ?_
  refine g_iconst 2 C 573 rfl dL_law_572 ki_2 ?_
  refine g_iadd C 574 rfl dL_law_573 ?_
  refine g_sld C 575 rfl dL_law_574 hX hbl hbA hS hi2 ?_
  obtain ⟨r, s2, m2, ex, em, hR2⟩ := hf (xs ((i + 1) : Int32).toNatClampNeg) (xs ((i + 2) : Int32).toNatClampNeg) s m _ _ hR
  refine g_callWB (rest := []) [] (LS8 a d Δ m i0 i1) C 578 rfl dL_law_575 (c_X8_seats Γ.2.1 Δ a (xs ((i + 1) : Int32).toNatClampNeg) (xs ((i + 2) : Int32).toNatClampNeg) s ex) mv_X8_seats ml_L_75 hK hP hD hS hA rfl rfl rfl rfl rfl rfl ⟨Nat.le_of_ble_eq_true rfl, Nat.le_of_ble_eq_true rfl⟩ (Nat.le_of_ble_eq_true rfl) hk (fun H L hP hD hS => ?_)
  refine g_aload_n C 579 rfl dL_law_578 2 rfl ?_
  refine g_aload_n C 580 rfl dL_law_579 0 rfl ?_
  refine g_iload_n C 581 rfl dL_law_580 3 rfl ?_
  refine g_iconst 1 C 582 rfl dL_law_581 ki_1 ?_
  refine g_iadd C 583 rfl dL_law_582 ?_
  refine g_sld C 584 rfl dL_law_583 hX hbl hbA hS hi1 ?_
  refine g_aload_n C 585 rfl dL_law_584 0 rfl ?_
  refine g_iload_n C 586 rfl dL_law_585 3 rfl ?_
  refine g_iconst 2 C 587 rfl dL_law_586 ki_2 ?_
  refine g_iadd C 588 rfl dL_law_587 ?_
  refine g_sld C 589 rfl dL_law_588 hX hbl hbA hS hi2 ?_
  refine g_callWB (rest := [.int r]) (cs8 a Δ s2) (LS9 a Δ i0 i1) C 592 rfl dL_law_589 (c_X9_seats Γ.2.1 Δ d (xs ((i + 1) : Int32).toNatClampNeg) (xs ((i + 2) : Int32).toNatClampNeg) m em) mv_X9_seats ml_L_78 hK hP hD hS hA rfl rfl rfl rfl rfl rfl ⟨Nat.le_of_ble_eq_true rfl, Nat.le_of_ble_eq_true rfl⟩ (Nat.le_of_ble_eq_true rfl) hk (fun H L hP hD hS => ?_)
  refine s_icmp_eq C 989 595 rfl dL_law_592 (by decide) (u := some ()) (v := none) (r := some ()) (if_pos rfl) (fun _ => ?_) (fun h => by cases h)
  exact kk H L s2 m2 hR2 hP hD hS
set_option maxHeartbeats 1000000 in
set_option maxRecDepth 100000 in
theorem case_cover {Γ : gT} {Δ : gD} {A : Nat → Prop} {a d : Nat → Nat} {bq Ls : Nat} {xs : Nat → Int32} {k n : Nat} (C : gOk Γ cL_law 4 RL) (hK : KD Δ (sOf Γ)) (hA : ∀ q, (sOf Γ).heap.size ≤ q → A q) (hX : va_X bq Ls xs (sOf Γ) (sOf Γ).heap) (hbl : bq < (sOf Γ).heap.size) (hbA : ¬ A bq) (hk : k ≤ room_1.cells ∧ n ≤ room_1.slots) (R : lawR) (hf : hF_cover R) {i : Int32} (hi1 : vp_in (i + 1) Ls) (hi2 : vp_in (i + 2) Ls) (hi3 : vp_in (i + 3) Ls) (hi4 : vp_in (i + 4) Ls) (hi5 : vp_in (i + 5) Ls) (hi6 : vp_in (i + 6) Ls) {s : S8} {m : S9} {i0 i1 : Option ((Nat → Nat) × S6)} (hR : R s m (sd i0) (sd i1)) {H : Heap} {L : List Loc} (hP : va_P Δ.1 classes (LW a d Δ s m i0 i1) H) (hD : va_D A (LW a d Δ s m i0 i1)) (hS : va_S A (sOf Γ).heap H L) (kk : ∀ (H : Heap) (L : List Loc) (s : S8) (m : S9), R s m (sd i0) (sd i1) → va_P Δ.1 classes (LW a d Δ s m i0 i1) H → va_D A (LW a d Δ s m i0 i1) → va_S A (sOf Γ).heap H L → g Γ room_1 4 H L k n 989 [(0, .ref bq), (1, .ref (a 0)), (2, .ref (d 0)), (3, .int i)] []) : g Γ room_1 4 H L k n 597 [(0, .ref bq), (1, .ref (a 0)), (2, .ref (d 0)), (3, .int i)] [] := by
  refine g_aload_n C 598 rfl dL_law_597 1 rfl ?_
  refine g_aload_n C 599 rfl dL_law_598 0 rfl ?_
  refine g_iload_n C 600 rfl dL_law_599 3 rfl ?_
  refine g_iconst 1 C 601 rfl dL_law_600 ki_1 ?_
  refine g_iadd C 602 rfl dL_law_601 ?_
  refine g_sld C 603 rfl dL_law_602 hX hbl hbA hS hi1 ?_
  refine g_aload_n C 604 rfl dL_law_603 0 rfl ?_
  refine g_iload_n C 605 rfl dL_law_604 3 rfl ?_
  refine g_iconst 2 C 606 rfl dL_law_605 ki_2 ?_
  refine g_iadd C 607 rfl dL_law_606 ?_
  refine g_sld C 608 rfl dL_law_607 hX hbl hbA hS hi2 ?_
  refine g_aload_n C 609 rfl dL_law_608 0 rfl ?_
  refine g_iload_n C 610 rfl dL_law_609 3 rfl ?_
  refine g_iconst 3 C 611 rfl dL_law_610 ki_3 ?_
  refine g_iadd C 612 rfl dL_law_611 ?_
  refine g_sld C 613 rfl dL_law_612 hX hbl hbA hS hi3 ?_
  refine g_aload_n C 614 rfl dL_law_613 0 rfl ?_
  refine g_iload_n C 615 rfl dL_law_614 3 rfl ?_
  refine g_iconst 4 C 616 rfl dL_law_615 ki_4 ?_
  refine g_iadd C 617 rfl dL_law_616 ?_
  refine g_sld C 618 rfl dL_law_617 hX hbl hbA hS hi4 ?_
  refine g_aload_n C 619 rfl dL_law_618 0 rfl ?_
  refine g_iload_n C 620 rfl dL_law_619 3 rfl ?_
  refine g_iconst 5 C 621 rfl dL_law_620 ki_5 ?_
  refine g_iadd C 622 rfl dL_law_621 ?_
  refine g_sld C 623 rfl dL_law_622 hX hbl hbA hS hi5 ?_
  obtain ⟨r, s2, m2, ex, em, hR2⟩ := hf (xs ((i + 1) : Int32).toNatClampNeg) (xs ((i + 2) : Int32).toNatClampNeg) (xs ((i + 3) : Int32).toNatClampNeg) (xs ((i + 4) : Int32).toNatClampNeg) (xs ((i + 5) : Int32).toNatClampNeg) s m _ _ hR
  refine g_callWB (rest := []) [] (LS8 a d Δ m i0 i1) C 626 rfl dL_law_623 (c_X8_cover Γ.2.1 Δ a (xs ((i + 1) : Int32).toNatClampNeg) (xs ((i + 2) : Int32).toNatClampNeg) (xs ((i + 3) : Int32).toNatClampNeg) (xs ((i + 4) : Int32).toNatClampNeg) (xs ((i + 5) : Int32).toNatClampNeg) s ex) mv_X8_cover ml_L_79 hK hP hD hS hA rfl rfl rfl rfl rfl rfl ⟨Nat.le_of_ble_eq_true rfl, Nat.le_of_ble_eq_true rfl⟩ (Nat.le_of_ble_eq_true rfl) hk (fun H L hP hD hS => ?_)
  refine g_aload_n C 627 rfl dL_law_626 2 rfl ?_
  refine g_aload_n C 628 rfl dL_law_627 0 rfl ?_
  refine g_iload_n C 629 rfl dL_law_628 3 rfl ?_
  refine g_iconst 1 C 630 rfl dL_law_629 ki_1 ?_
  refine g_iadd C 631 rfl dL_law_630 ?_
  refine g_sld C 632 rfl dL_law_631 hX hbl hbA hS hi1 ?_
  refine g_aload_n C 633 rfl dL_law_632 0 rfl ?_
  refine g_iload_n C 634 rfl dL_law_633 3 rfl ?_
  refine g_iconst 2 C 635 rfl dL_law_634 ki_2 ?_
  refine g_iadd C 636 rfl dL_law_635 ?_
  refine g_sld C 637 rfl dL_law_636 hX hbl hbA hS hi2 ?_
  refine g_aload_n C 638 rfl dL_law_637 0 rfl ?_
  refine g_iload_n C 639 rfl dL_law_638 3 rfl ?_
  refine g_iconst 3 C 640 rfl dL_law_639 ki_3 ?_
  refine g_iadd C 641 rfl dL_law_640 ?_
  refine g_sld C 642 rfl dL_law_641 hX hbl hbA hS hi3 ?_
  refine g_aload_n C 643 rfl dL_law_642 0 rfl ?_
  refine g_iload_n C 644 rfl dL_law_643 3 rfl ?_
  refine g_iconst 4 C 645 rfl dL_law_644 ki_4 ?_
  refine g_iadd C 646 rfl dL_law_645 ?_
  refine g_sld C 647 rfl dL_law_646 hX hbl hbA hS hi4 ?_
  refine g_aload_n C 648 rfl dL_law_647 0 rfl ?_
  refine g_iload_n C 649 rfl dL_law_648 3 rfl ?_
  refine g_iconst 5 C 650 rfl dL_law_649 ki_5 ?_
  refine g_iadd C 651 rfl dL_law_650 ?_
  refine g_sld C 652 rfl dL_law_651 hX hbl hbA hS hi5 ?_
  refine g_callWB (rest := [.int r]) (cs8 a Δ s2) (LS9 a Δ i0 i1) C 655 rfl dL_law_652 (c_X9_cover Γ.2.1 Δ d (xs ((i + 1) : Int32).toNatClampNeg) (xs ((i + 2) : Int32).toNatClampNeg) (xs ((i + 3) : Int32).toNatClampNeg) (xs ((i + 4) : Int32).toNatClampNeg) (xs ((i + 5) : Int32).toNatClampNeg) m em) mv_X9_cover ml_L_82 hK hP hD hS hA rfl rfl rfl rfl rfl rfl ⟨Nat.le_of_ble_eq_true rfl, Nat.le_of_ble_eq_true rfl⟩ (Nat.le_of_ble_eq_true rfl) hk (fun H L hP hD hS => ?_)
  refine s_icmp_eq C 989 658 rfl dL_law_655 (by decide) (u := some ()) (v := none) (r := some ()) (if_pos rfl) (fun _ => ?_) (fun h => by cases h)
  exact kk H L s2 m2 hR2 hP hD hS
set_option maxHeartbeats 1000000 in
set_option maxRecDepth 100000 in
theorem case_risk {Γ : gT} {Δ : gD} {A : Nat → Prop} {a d : Nat → Nat} {bq Ls : Nat} {xs : Nat → Int32} {k n : Nat} (C : gOk Γ cL_law 4 RL) (hK : KD Δ (sOf Γ)) (hA : ∀ q, (sOf Γ).heap.size ≤ q → A q) (hX : va_X bq Ls xs (sOf Γ) (sOf Γ).heap) (hbl : bq < (sOf Γ).heap.size) (hbA : ¬ A bq) (hk : k ≤ room_1.cells ∧ n ≤ room_1.slots) (R : lawR) (hf : hF_risk R) {i : Int32} (hi1 : vp_in (i + 1) Ls) (hi2 : vp_in (i + 2) Ls) (hi3 : vp_in (i + 3) Ls) (hi4 : vp_in (i + 4) Ls) (hi5 : vp_in (i + 5) Ls) (hi6 : vp_in (i + 6) Ls) {s : S8} {m : S9} {i0 i1 : Option ((Nat → Nat) × S6)} (hR : R s m (sd i0) (sd i1)) {H : Heap} {L : List Loc} (hP : va_P Δ.1 classes (LW a d Δ s m i0 i1) H) (hD : va_D A (LW a d Δ s m i0 i1)) (hS : va_S A (sOf Γ).heap H L) (kk : ∀ (H : Heap) (L : List Loc) (s : S8) (m : S9), R s m (sd i0) (sd i1) → va_P Δ.1 classes (LW a d Δ s m i0 i1) H → va_D A (LW a d Δ s m i0 i1) → va_S A (sOf Γ).heap H L → g Γ room_1 4 H L k n 989 [(0, .ref bq), (1, .ref (a 0)), (2, .ref (d 0)), (3, .int i)] []) : g Γ room_1 4 H L k n 660 [(0, .ref bq), (1, .ref (a 0)), (2, .ref (d 0)), (3, .int i)] [] := by
  refine g_aload_n C 661 rfl dL_law_660 1 rfl ?_
  refine g_aload_n C 662 rfl dL_law_661 0 rfl ?_
  refine g_iload_n C 663 rfl dL_law_662 3 rfl ?_
  refine g_iconst 1 C 664 rfl dL_law_663 ki_1 ?_
  refine g_iadd C 665 rfl dL_law_664 ?_
  refine g_sld C 666 rfl dL_law_665 hX hbl hbA hS hi1 ?_
  refine g_aload_n C 667 rfl dL_law_666 0 rfl ?_
  refine g_iload_n C 668 rfl dL_law_667 3 rfl ?_
  refine g_iconst 2 C 669 rfl dL_law_668 ki_2 ?_
  refine g_iadd C 670 rfl dL_law_669 ?_
  refine g_sld C 671 rfl dL_law_670 hX hbl hbA hS hi2 ?_
  refine g_aload_n C 672 rfl dL_law_671 0 rfl ?_
  refine g_iload_n C 673 rfl dL_law_672 3 rfl ?_
  refine g_iconst 3 C 674 rfl dL_law_673 ki_3 ?_
  refine g_iadd C 675 rfl dL_law_674 ?_
  refine g_sld C 676 rfl dL_law_675 hX hbl hbA hS hi3 ?_
  refine g_aload_n C 677 rfl dL_law_676 0 rfl ?_
  refine g_iload_n C 678 rfl dL_law_677 3 rfl ?_
  refine g_iconst 4 C 679 rfl dL_law_678 ki_4 ?_
  refine g_iadd C 680 rfl dL_law_679 ?_
  refine g_sld C 681 rfl dL_law_680 hX hbl hbA hS hi4 ?_
  refine g_aload_n C 682 rfl dL_law_681 0 rfl ?_
  refine g_iload_n C 683 rfl dL_law_682 3 rfl ?_
  refine g_iconst 5 C 684 rfl dL_law_683 ki_5 ?_
  refine g_iadd C 685 rfl dL_law_684 ?_
  refine g_sld C 686 rfl dL_law_685 hX hbl hbA hS hi5 ?_
  refine g_aload_n C 687 rfl dL_law_686 0 rfl ?_
  refine g_iload_n C 688 rfl dL_law_687 3 rfl ?_
  refine g_bipush 6 C 690 rfl dL_law_688 kb_6 ?_
  refine g_iadd C 691 rfl dL_law_690 ?_
  refine g_sld C 692 rfl dL_law_691 hX hbl hbA hS hi6 ?_
  obtain ⟨r, s2, m2, ex, em, hR2⟩ := hf (xs ((i + 1) : Int32).toNatClampNeg) (xs ((i + 2) : Int32).toNatClampNeg) (xs ((i + 3) : Int32).toNatClampNeg) (xs ((i + 4) : Int32).toNatClampNeg) (xs ((i + 5) : Int32).toNatClampNeg) (xs ((i + 6) : Int32).toNatClampNeg) s m _ _ hR
  refine g_callWB (rest := []) [] (LS8 a d Δ m i0 i1) C 695 rfl dL_law_692 (c_X8_risk Γ.2.1 Δ a (xs ((i + 1) : Int32).toNatClampNeg) (xs ((i + 2) : Int32).toNatClampNeg) (xs ((i + 3) : Int32).toNatClampNeg) (xs ((i + 4) : Int32).toNatClampNeg) (xs ((i + 5) : Int32).toNatClampNeg) (xs ((i + 6) : Int32).toNatClampNeg) s ex) mv_X8_risk ml_L_83 hK hP hD hS hA rfl rfl rfl rfl rfl rfl ⟨Nat.le_of_ble_eq_true rfl, Nat.le_of_ble_eq_true rfl⟩ (Nat.le_of_ble_eq_true rfl) hk (fun H L hP hD hS => ?_)
  refine g_aload_n C 696 rfl dL_law_695 2 rfl ?_
  refine g_aload_n C 697 rfl dL_law_696 0 rfl ?_
  refine g_iload_n C 698 rfl dL_law_697 3 rfl ?_
  refine g_iconst 1 C 699 rfl dL_law_698 ki_1 ?_
  refine g_iadd C 700 rfl dL_law_699 ?_
  refine g_sld C 701 rfl dL_law_700 hX hbl hbA hS hi1 ?_
  refine g_aload_n C 702 rfl dL_law_701 0 rfl ?_
  refine g_iload_n C 703 rfl dL_law_702 3 rfl ?_
  refine g_iconst 2 C 704 rfl dL_law_703 ki_2 ?_
  refine g_iadd C 705 rfl dL_law_704 ?_
  refine g_sld C 706 rfl dL_law_705 hX hbl hbA hS hi2 ?_
  refine g_aload_n C 707 rfl dL_law_706 0 rfl ?_
  refine g_iload_n C 708 rfl dL_law_707 3 rfl ?_
  refine g_iconst 3 C 709 rfl dL_law_708 ki_3 ?_
  refine g_iadd C 710 rfl dL_law_709 ?_
  refine g_sld C 711 rfl dL_law_710 hX hbl hbA hS hi3 ?_
  refine g_aload_n C 712 rfl dL_law_711 0 rfl ?_
  refine g_iload_n C 713 rfl dL_law_712 3 rfl ?_
  refine g_iconst 4 C 714 rfl dL_law_713 ki_4 ?_
  refine g_iadd C 715 rfl dL_law_714 ?_
  refine g_sld C 716 rfl dL_law_715 hX hbl hbA hS hi4 ?_
  refine g_aload_n C 717 rfl dL_law_716 0 rfl ?_
  refine g_iload_n C 718 rfl dL_law_717 3 rfl ?_
  refine g_iconst 5 C 719 rfl dL_law_718 ki_5 ?_
  refine g_iadd C 720 rfl dL_law_719 ?_
  refine g_sld C 721 rfl dL_law_720 hX hbl hbA hS hi5 ?_
  refine g_aload_n C 722 rfl dL_law_721 0 rfl ?_
  refine g_iload_n C 723 rfl dL_law_722 3 rfl ?_
  refine g_bipush 6 C 725 rfl dL_law_723 kb_6 ?_
  refine g_iadd C 726 rfl dL_law_725 ?_
  refine g_sld C 727 rfl dL_law_726 hX hbl hbA hS hi6 ?_
  refine g_callWB (rest := [.long r]) (cs8 a Δ s2) (LS9 a Δ i0 i1) C 730 rfl dL_law_727 (c_X9_risk Γ.2.1 Δ d (xs ((i + 1) : Int32).toNatClampNeg) (xs ((i + 2) : Int32).toNatClampNeg) (xs ((i + 3) : Int32).toNatClampNeg) (xs ((i + 4) : Int32).toNatClampNeg) (xs ((i + 5) : Int32).toNatClampNeg) (xs ((i + 6) : Int32).toNatClampNeg) m em) mv_X9_risk ml_L_87 hK hP hD hS hA rfl rfl rfl rfl rfl rfl ⟨Nat.le_of_ble_eq_true rfl, Nat.le_of_ble_eq_true rfl⟩ (Nat.le_of_ble_eq_true rfl) hk (fun H L hP hD hS => ?_)
  refine g_lcmp C 731 rfl dL_law_730 ?_
  refine s_if_eq C 989 734 rfl dL_law_731 (by decide) (u := some ()) (v := none) (r := some ()) (if_pos ((lg_cmp_eq r r).mpr rfl)) (fun _ => ?_) (fun h => by cases h)
  exact kk H L s2 m2 hR2 hP hD hS
set_option maxHeartbeats 1000000 in
set_option maxRecDepth 100000 in
theorem case_seen {Γ : gT} {Δ : gD} {A : Nat → Prop} {a d : Nat → Nat} {bq Ls : Nat} {xs : Nat → Int32} {k n : Nat} (C : gOk Γ cL_law 4 RL) (hK : KD Δ (sOf Γ)) (hA : ∀ q, (sOf Γ).heap.size ≤ q → A q) (hX : va_X bq Ls xs (sOf Γ) (sOf Γ).heap) (hbl : bq < (sOf Γ).heap.size) (hbA : ¬ A bq) (hk : k ≤ room_1.cells ∧ n ≤ room_1.slots) (R : lawR) (hf : hF_seen R) {i : Int32} (hi1 : vp_in (i + 1) Ls) (hi2 : vp_in (i + 2) Ls) (hi3 : vp_in (i + 3) Ls) (hi4 : vp_in (i + 4) Ls) (hi5 : vp_in (i + 5) Ls) (hi6 : vp_in (i + 6) Ls) {s : S8} {m : S9} {i0 i1 : Option ((Nat → Nat) × S6)} (hR : R s m (sd i0) (sd i1)) {H : Heap} {L : List Loc} (hP : va_P Δ.1 classes (LW a d Δ s m i0 i1) H) (hD : va_D A (LW a d Δ s m i0 i1)) (hS : va_S A (sOf Γ).heap H L) (kk : ∀ (H : Heap) (L : List Loc) (s : S8) (m : S9), R s m (sd i0) (sd i1) → va_P Δ.1 classes (LW a d Δ s m i0 i1) H → va_D A (LW a d Δ s m i0 i1) → va_S A (sOf Γ).heap H L → g Γ room_1 4 H L k n 989 [(0, .ref bq), (1, .ref (a 0)), (2, .ref (d 0)), (3, .int i)] []) : g Γ room_1 4 H L k n 736 [(0, .ref bq), (1, .ref (a 0)), (2, .ref (d 0)), (3, .int i)] [] := by
  refine g_aload_n C 737 rfl dL_law_736 1 rfl ?_
  refine g_aload_n C 738 rfl dL_law_737 0 rfl ?_
  refine g_iload_n C 739 rfl dL_law_738 3 rfl ?_
  refine g_iconst 1 C 740 rfl dL_law_739 ki_1 ?_
  refine g_iadd C 741 rfl dL_law_740 ?_
  refine g_sld C 742 rfl dL_law_741 hX hbl hbA hS hi1 ?_
  refine g_aload_n C 743 rfl dL_law_742 0 rfl ?_
  refine g_iload_n C 744 rfl dL_law_743 3 rfl ?_
  refine g_iconst 2 C 745 rfl dL_law_744 ki_2 ?_
  refine g_iadd C 746 rfl dL_law_745 ?_
  refine g_sld C 747 rfl dL_law_746 hX hbl hbA hS hi2 ?_
  by_cases hc747 : (xs ((i + 2) : Int32).toNatClampNeg) = 0
  · refine s_if_eq C 754 750 rfl dL_law_747 (by decide) (u := some ()) (v := none) (r := some ()) (if_pos hc747) (fun _ => ?_) (fun h => by cases h)
    refine g_iconst 0 C 755 rfl dL_law_754 ki_0 ?_
    obtain ⟨r, s2, m2, ex, em, hR2⟩ := hf (xs ((i + 1) : Int32).toNatClampNeg) 0 s m _ _ (by first | exact Or.inl rfl | exact Or.inr rfl) hR
    refine g_callWB (rest := []) [] (LS8 a d Δ m i0 i1) C 758 rfl dL_law_755 (c_X8_seen Γ.2.1 Δ a (xs ((i + 1) : Int32).toNatClampNeg) 0 s ex) mv_X8_seen ml_L_88 hK hP hD hS hA rfl rfl rfl rfl rfl rfl ⟨Nat.le_of_ble_eq_true rfl, Nat.le_of_ble_eq_true rfl⟩ (Nat.le_of_ble_eq_true rfl) hk (fun H L hP hD hS => ?_)
    refine g_aload_n C 759 rfl dL_law_758 2 rfl ?_
    refine g_aload_n C 760 rfl dL_law_759 0 rfl ?_
    refine g_iload_n C 761 rfl dL_law_760 3 rfl ?_
    refine g_iconst 1 C 762 rfl dL_law_761 ki_1 ?_
    refine g_iadd C 763 rfl dL_law_762 ?_
    refine g_sld C 764 rfl dL_law_763 hX hbl hbA hS hi1 ?_
    refine g_aload_n C 765 rfl dL_law_764 0 rfl ?_
    refine g_iload_n C 766 rfl dL_law_765 3 rfl ?_
    refine g_iconst 2 C 767 rfl dL_law_766 ki_2 ?_
    refine g_iadd C 768 rfl dL_law_767 ?_
    refine g_sld C 769 rfl dL_law_768 hX hbl hbA hS hi2 ?_
    refine s_if_eq C 776 772 rfl dL_law_769 (by decide) (u := some ()) (v := none) (r := some ()) (if_pos hc747) (fun _ => ?_) (fun h => by cases h)
    refine g_iconst 0 C 777 rfl dL_law_776 ki_0 ?_
    refine g_callWB (rest := [.int r]) (cs8 a Δ s2) (LS9 a Δ i0 i1) C 780 rfl dL_law_777 (c_X9_seen Γ.2.1 Δ d (xs ((i + 1) : Int32).toNatClampNeg) 0 m em) mv_X9_seen ml_L_92 hK hP hD hS hA rfl rfl rfl rfl rfl rfl ⟨Nat.le_of_ble_eq_true rfl, Nat.le_of_ble_eq_true rfl⟩ (Nat.le_of_ble_eq_true rfl) hk (fun H L hP hD hS => ?_)
    refine s_icmp_eq C 989 783 rfl dL_law_780 (by decide) (u := some ()) (v := none) (r := some ()) (if_pos rfl) (fun _ => ?_) (fun h => by cases h)
    exact kk H L s2 m2 hR2 hP hD hS
  · refine s_if_eq C 754 750 rfl dL_law_747 (by decide) (u := none) (v := some ()) (r := some ()) (if_neg hc747) (fun h => by cases h) (fun _ => ?_)
    refine g_iconst 1 C 751 rfl dL_law_750 ki_1 ?_
    refine g_goto C 755 dL_law_751 (by decide) ?_
    obtain ⟨r, s2, m2, ex, em, hR2⟩ := hf (xs ((i + 1) : Int32).toNatClampNeg) 1 s m _ _ (by first | exact Or.inl rfl | exact Or.inr rfl) hR
    refine g_callWB (rest := []) [] (LS8 a d Δ m i0 i1) C 758 rfl dL_law_755 (c_X8_seen Γ.2.1 Δ a (xs ((i + 1) : Int32).toNatClampNeg) 1 s ex) mv_X8_seen ml_L_88 hK hP hD hS hA rfl rfl rfl rfl rfl rfl ⟨Nat.le_of_ble_eq_true rfl, Nat.le_of_ble_eq_true rfl⟩ (Nat.le_of_ble_eq_true rfl) hk (fun H L hP hD hS => ?_)
    refine g_aload_n C 759 rfl dL_law_758 2 rfl ?_
    refine g_aload_n C 760 rfl dL_law_759 0 rfl ?_
    refine g_iload_n C 761 rfl dL_law_760 3 rfl ?_
    refine g_iconst 1 C 762 rfl dL_law_761 ki_1 ?_
    refine g_iadd C 763 rfl dL_law_762 ?_
    refine g_sld C 764 rfl dL_law_763 hX hbl hbA hS hi1 ?_
    refine g_aload_n C 765 rfl dL_law_764 0 rfl ?_
    refine g_iload_n C 766 rfl dL_law_765 3 rfl ?_
    refine g_iconst 2 C 767 rfl dL_law_766 ki_2 ?_
    refine g_iadd C 768 rfl dL_law_767 ?_
    refine g_sld C 769 rfl dL_law_768 hX hbl hbA hS hi2 ?_
    refine s_if_eq C 776 772 rfl dL_law_769 (by decide) (u := none) (v := some ()) (r := some ()) (if_neg hc747) (fun h => by cases h) (fun _ => ?_)
    refine g_iconst 1 C 773 rfl dL_law_772 ki_1 ?_
    refine g_goto C 777 dL_law_773 (by decide) ?_
    refine g_callWB (rest := [.int r]) (cs8 a Δ s2) (LS9 a Δ i0 i1) C 780 rfl dL_law_777 (c_X9_seen Γ.2.1 Δ d (xs ((i + 1) : Int32).toNatClampNeg) 1 m em) mv_X9_seen ml_L_92 hK hP hD hS hA rfl rfl rfl rfl rfl rfl ⟨Nat.le_of_ble_eq_true rfl, Nat.le_of_ble_eq_true rfl⟩ (Nat.le_of_ble_eq_true rfl) hk (fun H L hP hD hS => ?_)
    refine s_icmp_eq C 989 783 rfl dL_law_780 (by decide) (u := some ()) (v := none) (r := some ()) (if_pos rfl) (fun _ => ?_) (fun h => by cases h)
    exact kk H L s2 m2 hR2 hP hD hS
set_option maxHeartbeats 1000000 in
set_option maxRecDepth 100000 in
theorem case_forget {Γ : gT} {Δ : gD} {A : Nat → Prop} {a d : Nat → Nat} {bq Ls : Nat} {xs : Nat → Int32} {k n : Nat} (C : gOk Γ cL_law 4 RL) (hK : KD Δ (sOf Γ)) (hA : ∀ q, (sOf Γ).heap.size ≤ q → A q) (hX : va_X bq Ls xs (sOf Γ) (sOf Γ).heap) (hbl : bq < (sOf Γ).heap.size) (hbA : ¬ A bq) (hk : k ≤ room_1.cells ∧ n ≤ room_1.slots) (R : lawR) (hf : hF_forget R) {i : Int32} (hi1 : vp_in (i + 1) Ls) (hi2 : vp_in (i + 2) Ls) (hi3 : vp_in (i + 3) Ls) (hi4 : vp_in (i + 4) Ls) (hi5 : vp_in (i + 5) Ls) (hi6 : vp_in (i + 6) Ls) {s : S8} {m : S9} {i0 i1 : Option ((Nat → Nat) × S6)} (hR : R s m (sd i0) (sd i1)) {H : Heap} {L : List Loc} (hP : va_P Δ.1 classes (LW a d Δ s m i0 i1) H) (hD : va_D A (LW a d Δ s m i0 i1)) (hS : va_S A (sOf Γ).heap H L) (kk : ∀ (H : Heap) (L : List Loc) (s : S8) (m : S9), R s m (sd i0) (sd i1) → va_P Δ.1 classes (LW a d Δ s m i0 i1) H → va_D A (LW a d Δ s m i0 i1) → va_S A (sOf Γ).heap H L → g Γ room_1 4 H L k n 989 [(0, .ref bq), (1, .ref (a 0)), (2, .ref (d 0)), (3, .int i)] []) : g Γ room_1 4 H L k n 785 [(0, .ref bq), (1, .ref (a 0)), (2, .ref (d 0)), (3, .int i)] [] := by
  refine g_aload_n C 786 rfl dL_law_785 1 rfl ?_
  obtain ⟨r, s2, m2, ex, em, hR2⟩ := hf  s m _ _ hR
  refine g_callWB (rest := []) [] (LS8 a d Δ m i0 i1) C 789 rfl dL_law_786 (c_X8_forget Γ.2.1 Δ a  s ex) mv_X8_forget ml_L_93 hK hP hD hS hA rfl rfl rfl rfl rfl rfl ⟨Nat.le_of_ble_eq_true rfl, Nat.le_of_ble_eq_true rfl⟩ (Nat.le_of_ble_eq_true rfl) hk (fun H L hP hD hS => ?_)
  refine g_aload_n C 790 rfl dL_law_789 2 rfl ?_
  refine g_callWB (rest := [.int r]) (cs8 a Δ s2) (LS9 a Δ i0 i1) C 793 rfl dL_law_790 (c_X9_forget Γ.2.1 Δ d  m em) mv_X9_forget ml_L_96 hK hP hD hS hA rfl rfl rfl rfl rfl rfl ⟨Nat.le_of_ble_eq_true rfl, Nat.le_of_ble_eq_true rfl⟩ (Nat.le_of_ble_eq_true rfl) hk (fun H L hP hD hS => ?_)
  refine s_icmp_eq C 989 796 rfl dL_law_793 (by decide) (u := some ()) (v := none) (r := some ()) (if_pos rfl) (fun _ => ?_) (fun h => by cases h)
  exact kk H L s2 m2 hR2 hP hD hS
set_option maxHeartbeats 1000000 in
set_option maxRecDepth 100000 in
theorem case_who {Γ : gT} {Δ : gD} {A : Nat → Prop} {a d : Nat → Nat} {bq Ls : Nat} {xs : Nat → Int32} {k n : Nat} (C : gOk Γ cL_law 4 RL) (hK : KD Δ (sOf Γ)) (hA : ∀ q, (sOf Γ).heap.size ≤ q → A q) (hX : va_X bq Ls xs (sOf Γ) (sOf Γ).heap) (hbl : bq < (sOf Γ).heap.size) (hbA : ¬ A bq) (hk : k ≤ room_1.cells ∧ n ≤ room_1.slots) (R : lawR) (hf : hF_who R) {i : Int32} (hi1 : vp_in (i + 1) Ls) (hi2 : vp_in (i + 2) Ls) (hi3 : vp_in (i + 3) Ls) (hi4 : vp_in (i + 4) Ls) (hi5 : vp_in (i + 5) Ls) (hi6 : vp_in (i + 6) Ls) {s : S8} {m : S9} {i0 i1 : Option ((Nat → Nat) × S6)} (hR : R s m (sd i0) (sd i1)) {H : Heap} {L : List Loc} (hP : va_P Δ.1 classes (LW a d Δ s m i0 i1) H) (hD : va_D A (LW a d Δ s m i0 i1)) (hS : va_S A (sOf Γ).heap H L) (kk : ∀ (H : Heap) (L : List Loc) (s : S8) (m : S9), R s m (sd i0) (sd i1) → va_P Δ.1 classes (LW a d Δ s m i0 i1) H → va_D A (LW a d Δ s m i0 i1) → va_S A (sOf Γ).heap H L → g Γ room_1 4 H L k n 989 [(0, .ref bq), (1, .ref (a 0)), (2, .ref (d 0)), (3, .int i)] []) : g Γ room_1 4 H L k n 798 [(0, .ref bq), (1, .ref (a 0)), (2, .ref (d 0)), (3, .int i)] [] := by
  refine g_aload_n C 799 rfl dL_law_798 1 rfl ?_
  obtain ⟨r, ex, em, hR2⟩ := hf  s m _ _ hR
  refine g_callRV (rest := []) C 802 rfl dL_law_799 (c_X8_who Γ.2.1 Δ a  s ex) mv_X8_who ml_L_97 hK (cutB (P := []) (S := LS8 a d Δ m i0 i1) hP) rfl rfl rfl rfl rfl ⟨Nat.le_of_ble_eq_true rfl, Nat.le_of_ble_eq_true rfl⟩ (Nat.le_of_ble_eq_true rfl) hk ?_
  refine g_aload_n C 803 rfl dL_law_802 2 rfl ?_
  refine g_callRV (rest := [.int r]) C 806 rfl dL_law_803 (c_X9_who Γ.2.1 Δ d  m em) mv_X9_who ml_L_100 hK (cutB (P := cs8 a Δ s) (S := LS9 a Δ i0 i1) hP) rfl rfl rfl rfl rfl ⟨Nat.le_of_ble_eq_true rfl, Nat.le_of_ble_eq_true rfl⟩ (Nat.le_of_ble_eq_true rfl) hk ?_
  refine s_icmp_eq C 989 809 rfl dL_law_806 (by decide) (u := some ()) (v := none) (r := some ()) (if_pos rfl) (fun _ => ?_) (fun h => by cases h)
  exact kk H L s m hR2 hP hD hS
set_option maxHeartbeats 1000000 in
set_option maxRecDepth 100000 in
theorem case_ask {Γ : gT} {Δ : gD} {A : Nat → Prop} {a d : Nat → Nat} {bq Ls : Nat} {xs : Nat → Int32} {k n : Nat} (C : gOk Γ cL_law 4 RL) (hK : KD Δ (sOf Γ)) (hA : ∀ q, (sOf Γ).heap.size ≤ q → A q) (hX : va_X bq Ls xs (sOf Γ) (sOf Γ).heap) (hbl : bq < (sOf Γ).heap.size) (hbA : ¬ A bq) (hk : k ≤ room_1.cells ∧ n ≤ room_1.slots) (R : lawR) (hf : hF_ask R) {i : Int32} (hi1 : vp_in (i + 1) Ls) (hi2 : vp_in (i + 2) Ls) (hi3 : vp_in (i + 3) Ls) (hi4 : vp_in (i + 4) Ls) (hi5 : vp_in (i + 5) Ls) (hi6 : vp_in (i + 6) Ls) {s : S8} {m : S9} {i0 i1 : Option ((Nat → Nat) × S6)} (hR : R s m (sd i0) (sd i1)) {H : Heap} {L : List Loc} (hP : va_P Δ.1 classes (LW a d Δ s m i0 i1) H) (hD : va_D A (LW a d Δ s m i0 i1)) (hS : va_S A (sOf Γ).heap H L) (kk : ∀ (H : Heap) (L : List Loc) (s : S8) (m : S9), R s m (sd i0) (sd i1) → va_P Δ.1 classes (LW a d Δ s m i0 i1) H → va_D A (LW a d Δ s m i0 i1) → va_S A (sOf Γ).heap H L → g Γ room_1 4 H L k n 989 [(0, .ref bq), (1, .ref (a 0)), (2, .ref (d 0)), (3, .int i)] []) : g Γ room_1 4 H L k n 811 [(0, .ref bq), (1, .ref (a 0)), (2, .ref (d 0)), (3, .int i)] [] := by
  refine g_aload_n C 812 rfl dL_law_811 1 rfl ?_
  refine g_aload_n C 813 rfl dL_law_812 0 rfl ?_
  refine g_iload_n C 814 rfl dL_law_813 3 rfl ?_
  refine g_iconst 1 C 815 rfl dL_law_814 ki_1 ?_
  refine g_iadd C 816 rfl dL_law_815 ?_
  refine g_sld C 817 rfl dL_law_816 hX hbl hbA hS hi1 ?_
  obtain ⟨r, ex, em, hR2⟩ := hf (xs ((i + 1) : Int32).toNatClampNeg) s m _ _ hR
  refine g_callRV (rest := []) C 820 rfl dL_law_817 (c_X8_ask Γ.2.1 Δ a (xs ((i + 1) : Int32).toNatClampNeg) s ex) mv_X8_ask ml_L_101 hK (cutB (P := []) (S := LS8 a d Δ m i0 i1) hP) rfl rfl rfl rfl rfl ⟨Nat.le_of_ble_eq_true rfl, Nat.le_of_ble_eq_true rfl⟩ (Nat.le_of_ble_eq_true rfl) hk ?_
  refine g_aload_n C 821 rfl dL_law_820 2 rfl ?_
  refine g_aload_n C 822 rfl dL_law_821 0 rfl ?_
  refine g_iload_n C 823 rfl dL_law_822 3 rfl ?_
  refine g_iconst 1 C 824 rfl dL_law_823 ki_1 ?_
  refine g_iadd C 825 rfl dL_law_824 ?_
  refine g_sld C 826 rfl dL_law_825 hX hbl hbA hS hi1 ?_
  refine g_callRV (rest := [.int r]) C 829 rfl dL_law_826 (c_X9_ask Γ.2.1 Δ d (xs ((i + 1) : Int32).toNatClampNeg) m em) mv_X9_ask ml_L_104 hK (cutB (P := cs8 a Δ s) (S := LS9 a Δ i0 i1) hP) rfl rfl rfl rfl rfl ⟨Nat.le_of_ble_eq_true rfl, Nat.le_of_ble_eq_true rfl⟩ (Nat.le_of_ble_eq_true rfl) hk ?_
  refine s_icmp_eq C 989 832 rfl dL_law_829 (by decide) (u := some ()) (v := none) (r := some ()) (if_pos rfl) (fun _ => ?_) (fun h => by cases h)
  exact kk H L s m hR2 hP hD hS
set_option maxHeartbeats 1000000 in
set_option maxRecDepth 100000 in
theorem case_quarrel {Γ : gT} {Δ : gD} {A : Nat → Prop} {a d : Nat → Nat} {bq Ls : Nat} {xs : Nat → Int32} {k n : Nat} (C : gOk Γ cL_law 4 RL) (hK : KD Δ (sOf Γ)) (hA : ∀ q, (sOf Γ).heap.size ≤ q → A q) (hX : va_X bq Ls xs (sOf Γ) (sOf Γ).heap) (hbl : bq < (sOf Γ).heap.size) (hbA : ¬ A bq) (hk : k ≤ room_1.cells ∧ n ≤ room_1.slots) (R : lawR) (hf : hF_quarrel R) {i : Int32} (hi1 : vp_in (i + 1) Ls) (hi2 : vp_in (i + 2) Ls) (hi3 : vp_in (i + 3) Ls) (hi4 : vp_in (i + 4) Ls) (hi5 : vp_in (i + 5) Ls) (hi6 : vp_in (i + 6) Ls) {s : S8} {m : S9} {i0 i1 : Option ((Nat → Nat) × S6)} (hR : R s m (sd i0) (sd i1)) {H : Heap} {L : List Loc} (hP : va_P Δ.1 classes (LW a d Δ s m i0 i1) H) (hD : va_D A (LW a d Δ s m i0 i1)) (hS : va_S A (sOf Γ).heap H L) (kk : ∀ (H : Heap) (L : List Loc) (s : S8) (m : S9), R s m (sd i0) (sd i1) → va_P Δ.1 classes (LW a d Δ s m i0 i1) H → va_D A (LW a d Δ s m i0 i1) → va_S A (sOf Γ).heap H L → g Γ room_1 4 H L k n 989 [(0, .ref bq), (1, .ref (a 0)), (2, .ref (d 0)), (3, .int i)] []) : g Γ room_1 4 H L k n 834 [(0, .ref bq), (1, .ref (a 0)), (2, .ref (d 0)), (3, .int i)] [] := by
  refine g_aload_n C 835 rfl dL_law_834 1 rfl ?_
  refine g_aload_n C 836 rfl dL_law_835 0 rfl ?_
  refine g_iload_n C 837 rfl dL_law_836 3 rfl ?_
  refine g_iconst 1 C 838 rfl dL_law_837 ki_1 ?_
  refine g_iadd C 839 rfl dL_law_838 ?_
  refine g_sld C 840 rfl dL_law_839 hX hbl hbA hS hi1 ?_
  refine g_aload_n C 841 rfl dL_law_840 0 rfl ?_
  refine g_iload_n C 842 rfl dL_law_841 3 rfl ?_
  refine g_iconst 2 C 843 rfl dL_law_842 ki_2 ?_
  refine g_iadd C 844 rfl dL_law_843 ?_
  refine g_sld C 845 rfl dL_law_844 hX hbl hbA hS hi2 ?_
  refine g_aload_n C 846 rfl dL_law_845 0 rfl ?_
  refine g_iload_n C 847 rfl dL_law_846 3 rfl ?_
  refine g_iconst 3 C 848 rfl dL_law_847 ki_3 ?_
  refine g_iadd C 849 rfl dL_law_848 ?_
  refine g_sld C 850 rfl dL_law_849 hX hbl hbA hS hi3 ?_
  obtain ⟨r, ex, em, hR2⟩ := hf (xs ((i + 1) : Int32).toNatClampNeg) (xs ((i + 2) : Int32).toNatClampNeg) (xs ((i + 3) : Int32).toNatClampNeg) s m _ _ hR
  refine g_callRV (rest := []) C 853 rfl dL_law_850 (c_X8_quarrel Γ.2.1 Δ a (xs ((i + 1) : Int32).toNatClampNeg) (xs ((i + 2) : Int32).toNatClampNeg) (xs ((i + 3) : Int32).toNatClampNeg) s ex) mv_X8_quarrel ml_L_105 hK (cutB (P := []) (S := LS8 a d Δ m i0 i1) hP) rfl rfl rfl rfl rfl ⟨Nat.le_of_ble_eq_true rfl, Nat.le_of_ble_eq_true rfl⟩ (Nat.le_of_ble_eq_true rfl) hk ?_
  refine g_aload_n C 854 rfl dL_law_853 2 rfl ?_
  refine g_aload_n C 855 rfl dL_law_854 0 rfl ?_
  refine g_iload_n C 856 rfl dL_law_855 3 rfl ?_
  refine g_iconst 1 C 857 rfl dL_law_856 ki_1 ?_
  refine g_iadd C 858 rfl dL_law_857 ?_
  refine g_sld C 859 rfl dL_law_858 hX hbl hbA hS hi1 ?_
  refine g_aload_n C 860 rfl dL_law_859 0 rfl ?_
  refine g_iload_n C 861 rfl dL_law_860 3 rfl ?_
  refine g_iconst 2 C 862 rfl dL_law_861 ki_2 ?_
  refine g_iadd C 863 rfl dL_law_862 ?_
  refine g_sld C 864 rfl dL_law_863 hX hbl hbA hS hi2 ?_
  refine g_aload_n C 865 rfl dL_law_864 0 rfl ?_
  refine g_iload_n C 866 rfl dL_law_865 3 rfl ?_
  refine g_iconst 3 C 867 rfl dL_law_866 ki_3 ?_
  refine g_iadd C 868 rfl dL_law_867 ?_
  refine g_sld C 869 rfl dL_law_868 hX hbl hbA hS hi3 ?_
  refine g_callRV (rest := [.int r]) C 872 rfl dL_law_869 (c_X9_quarrel Γ.2.1 Δ d (xs ((i + 1) : Int32).toNatClampNeg) (xs ((i + 2) : Int32).toNatClampNeg) (xs ((i + 3) : Int32).toNatClampNeg) m em) mv_X9_quarrel ml_L_108 hK (cutB (P := cs8 a Δ s) (S := LS9 a Δ i0 i1) hP) rfl rfl rfl rfl rfl ⟨Nat.le_of_ble_eq_true rfl, Nat.le_of_ble_eq_true rfl⟩ (Nat.le_of_ble_eq_true rfl) hk ?_
  refine s_icmp_eq C 989 875 rfl dL_law_872 (by decide) (u := some ()) (v := none) (r := some ()) (if_pos rfl) (fun _ => ?_) (fun h => by cases h)
  exact kk H L s m hR2 hP hD hS
set_option maxHeartbeats 1000000 in
set_option maxRecDepth 100000 in
theorem case_year {Γ : gT} {Δ : gD} {A : Nat → Prop} {a d : Nat → Nat} {bq Ls : Nat} {xs : Nat → Int32} {k n : Nat} (C : gOk Γ cL_law 4 RL) (hK : KD Δ (sOf Γ)) (hA : ∀ q, (sOf Γ).heap.size ≤ q → A q) (hX : va_X bq Ls xs (sOf Γ) (sOf Γ).heap) (hbl : bq < (sOf Γ).heap.size) (hbA : ¬ A bq) (hk : k ≤ room_1.cells ∧ n ≤ room_1.slots) (R : lawR) (hf : hF_year R) {i : Int32} (hi1 : vp_in (i + 1) Ls) (hi2 : vp_in (i + 2) Ls) (hi3 : vp_in (i + 3) Ls) (hi4 : vp_in (i + 4) Ls) (hi5 : vp_in (i + 5) Ls) (hi6 : vp_in (i + 6) Ls) {s : S8} {m : S9} {i0 i1 : Option ((Nat → Nat) × S6)} (hR : R s m (sd i0) (sd i1)) {H : Heap} {L : List Loc} (hP : va_P Δ.1 classes (LW a d Δ s m i0 i1) H) (hD : va_D A (LW a d Δ s m i0 i1)) (hS : va_S A (sOf Γ).heap H L) (kk : ∀ (H : Heap) (L : List Loc) (s : S8) (m : S9), R s m (sd i0) (sd i1) → va_P Δ.1 classes (LW a d Δ s m i0 i1) H → va_D A (LW a d Δ s m i0 i1) → va_S A (sOf Γ).heap H L → g Γ room_1 4 H L k n 989 [(0, .ref bq), (1, .ref (a 0)), (2, .ref (d 0)), (3, .int i)] []) : g Γ room_1 4 H L k n 877 [(0, .ref bq), (1, .ref (a 0)), (2, .ref (d 0)), (3, .int i)] [] := by
  refine g_aload_n C 878 rfl dL_law_877 1 rfl ?_
  refine g_aload_n C 879 rfl dL_law_878 0 rfl ?_
  refine g_iload_n C 880 rfl dL_law_879 3 rfl ?_
  refine g_iconst 1 C 881 rfl dL_law_880 ki_1 ?_
  refine g_iadd C 882 rfl dL_law_881 ?_
  refine g_sld C 883 rfl dL_law_882 hX hbl hbA hS hi1 ?_
  refine g_aload_n C 884 rfl dL_law_883 0 rfl ?_
  refine g_iload_n C 885 rfl dL_law_884 3 rfl ?_
  refine g_iconst 2 C 886 rfl dL_law_885 ki_2 ?_
  refine g_iadd C 887 rfl dL_law_886 ?_
  refine g_sld C 888 rfl dL_law_887 hX hbl hbA hS hi2 ?_
  refine g_aload_n C 889 rfl dL_law_888 0 rfl ?_
  refine g_iload_n C 890 rfl dL_law_889 3 rfl ?_
  refine g_iconst 3 C 891 rfl dL_law_890 ki_3 ?_
  refine g_iadd C 892 rfl dL_law_891 ?_
  refine g_sld C 893 rfl dL_law_892 hX hbl hbA hS hi3 ?_
  obtain ⟨r, s2, m2, ex, em, hR2⟩ := hf (xs ((i + 1) : Int32).toNatClampNeg) (xs ((i + 2) : Int32).toNatClampNeg) (xs ((i + 3) : Int32).toNatClampNeg) s m _ _ hR
  refine g_callWB (rest := []) [] (LS8 a d Δ m i0 i1) C 896 rfl dL_law_893 (c_X8_year Γ.2.1 Δ a (xs ((i + 1) : Int32).toNatClampNeg) (xs ((i + 2) : Int32).toNatClampNeg) (xs ((i + 3) : Int32).toNatClampNeg) s ex) mv_X8_year ml_L_109 hK hP hD hS hA rfl rfl rfl rfl rfl rfl ⟨Nat.le_of_ble_eq_true rfl, Nat.le_of_ble_eq_true rfl⟩ (Nat.le_of_ble_eq_true rfl) hk (fun H L hP hD hS => ?_)
  refine g_aload_n C 897 rfl dL_law_896 2 rfl ?_
  refine g_aload_n C 898 rfl dL_law_897 0 rfl ?_
  refine g_iload_n C 899 rfl dL_law_898 3 rfl ?_
  refine g_iconst 1 C 900 rfl dL_law_899 ki_1 ?_
  refine g_iadd C 901 rfl dL_law_900 ?_
  refine g_sld C 902 rfl dL_law_901 hX hbl hbA hS hi1 ?_
  refine g_aload_n C 903 rfl dL_law_902 0 rfl ?_
  refine g_iload_n C 904 rfl dL_law_903 3 rfl ?_
  refine g_iconst 2 C 905 rfl dL_law_904 ki_2 ?_
  refine g_iadd C 906 rfl dL_law_905 ?_
  refine g_sld C 907 rfl dL_law_906 hX hbl hbA hS hi2 ?_
  refine g_aload_n C 908 rfl dL_law_907 0 rfl ?_
  refine g_iload_n C 909 rfl dL_law_908 3 rfl ?_
  refine g_iconst 3 C 910 rfl dL_law_909 ki_3 ?_
  refine g_iadd C 911 rfl dL_law_910 ?_
  refine g_sld C 912 rfl dL_law_911 hX hbl hbA hS hi3 ?_
  refine g_callWB (rest := [.int r]) (cs8 a Δ s2) (LS9 a Δ i0 i1) C 915 rfl dL_law_912 (c_X9_year Γ.2.1 Δ d (xs ((i + 1) : Int32).toNatClampNeg) (xs ((i + 2) : Int32).toNatClampNeg) (xs ((i + 3) : Int32).toNatClampNeg) m em) mv_X9_year ml_L_112 hK hP hD hS hA rfl rfl rfl rfl rfl rfl ⟨Nat.le_of_ble_eq_true rfl, Nat.le_of_ble_eq_true rfl⟩ (Nat.le_of_ble_eq_true rfl) hk (fun H L hP hD hS => ?_)
  refine s_icmp_eq C 989 918 rfl dL_law_915 (by decide) (u := some ()) (v := none) (r := some ()) (if_pos rfl) (fun _ => ?_) (fun h => by cases h)
  exact kk H L s2 m2 hR2 hP hD hS
set_option maxHeartbeats 1000000 in
set_option maxRecDepth 100000 in
theorem case_told {Γ : gT} {Δ : gD} {A : Nat → Prop} {a d : Nat → Nat} {bq Ls : Nat} {xs : Nat → Int32} {k n : Nat} (C : gOk Γ cL_law 4 RL) (hK : KD Δ (sOf Γ)) (hA : ∀ q, (sOf Γ).heap.size ≤ q → A q) (hX : va_X bq Ls xs (sOf Γ) (sOf Γ).heap) (hbl : bq < (sOf Γ).heap.size) (hbA : ¬ A bq) (hk : k ≤ room_1.cells ∧ n ≤ room_1.slots) (R : lawR) (hf : hF_told R) {i : Int32} (hi1 : vp_in (i + 1) Ls) (hi2 : vp_in (i + 2) Ls) (hi3 : vp_in (i + 3) Ls) (hi4 : vp_in (i + 4) Ls) (hi5 : vp_in (i + 5) Ls) (hi6 : vp_in (i + 6) Ls) {s : S8} {m : S9} {i0 i1 : Option ((Nat → Nat) × S6)} (hR : R s m (sd i0) (sd i1)) {H : Heap} {L : List Loc} (hP : va_P Δ.1 classes (LW a d Δ s m i0 i1) H) (hD : va_D A (LW a d Δ s m i0 i1)) (hS : va_S A (sOf Γ).heap H L) (kk : ∀ (H : Heap) (L : List Loc) (s : S8) (m : S9), R s m (sd i0) (sd i1) → va_P Δ.1 classes (LW a d Δ s m i0 i1) H → va_D A (LW a d Δ s m i0 i1) → va_S A (sOf Γ).heap H L → g Γ room_1 4 H L k n 989 [(0, .ref bq), (1, .ref (a 0)), (2, .ref (d 0)), (3, .int i)] []) : g Γ room_1 4 H L k n 966 [(0, .ref bq), (1, .ref (a 0)), (2, .ref (d 0)), (3, .int i)] [] := by
  refine g_aload_n C 967 rfl dL_law_966 1 rfl ?_
  refine g_aload_n C 968 rfl dL_law_967 0 rfl ?_
  refine g_iload_n C 969 rfl dL_law_968 3 rfl ?_
  refine g_iconst 1 C 970 rfl dL_law_969 ki_1 ?_
  refine g_iadd C 971 rfl dL_law_970 ?_
  refine g_sld C 972 rfl dL_law_971 hX hbl hbA hS hi1 ?_
  obtain ⟨r, ex, em, hR2⟩ := hf (xs ((i + 1) : Int32).toNatClampNeg) s m _ _ hR
  refine g_callRV (rest := []) C 975 rfl dL_law_972 (c_X8_told Γ.2.1 Δ a (xs ((i + 1) : Int32).toNatClampNeg) s ex) mv_X8_told ml_L_121 hK (cutB (P := []) (S := LS8 a d Δ m i0 i1) hP) rfl rfl rfl rfl rfl ⟨Nat.le_of_ble_eq_true rfl, Nat.le_of_ble_eq_true rfl⟩ (Nat.le_of_ble_eq_true rfl) hk ?_
  refine g_aload_n C 976 rfl dL_law_975 2 rfl ?_
  refine g_aload_n C 977 rfl dL_law_976 0 rfl ?_
  refine g_iload_n C 978 rfl dL_law_977 3 rfl ?_
  refine g_iconst 1 C 979 rfl dL_law_978 ki_1 ?_
  refine g_iadd C 980 rfl dL_law_979 ?_
  refine g_sld C 981 rfl dL_law_980 hX hbl hbA hS hi1 ?_
  refine g_callRV (rest := [.int r]) C 984 rfl dL_law_981 (c_X9_told Γ.2.1 Δ d (xs ((i + 1) : Int32).toNatClampNeg) m em) mv_X9_told ml_L_124 hK (cutB (P := cs8 a Δ s) (S := LS9 a Δ i0 i1) hP) rfl rfl rfl rfl rfl ⟨Nat.le_of_ble_eq_true rfl, Nat.le_of_ble_eq_true rfl⟩ (Nat.le_of_ble_eq_true rfl) hk ?_
  refine s_icmp_eq C 989 987 rfl dL_law_984 (by decide) (u := some ()) (v := none) (r := some ()) (if_pos rfl) (fun _ => ?_) (fun h => by cases h)
  exact kk H L s m hR2 hP hD hS
