/-! images: the calls image and restore of the class, by cases of what stands in the row of images -/
abbrev imC (a : Nat → Nat) (Δ : gD) (f : Nat → Option Nat) : Nat × va_E := (a 24, .inl (Δ.2.2.2.2, 2, .inr (.inr (.inr (.inr f)))))
section IM
variable {Γ : gT} {R : Room} {nL : Nat} {H : Heap} {L : List Loc} {k n : Nat} {pc : Nat} {lv : List (Nat × Value)} {st : List Value} {cc : ByteArray} {own : String} {Δ : gD} {A : Nat → Prop} {ws : va_W}
theorem g_aldT {a N : Nat} {f : Nat → Option Nat} {i : Int32} (v : Value) (C : gOk Γ cc nL own) (q : Nat) (hp : pc + 1 = q) (hd : decode cc pc = .ok (.aaload, 1)) (hK : KD Δ (sOf Γ)) (hP : va_P Δ.1 classes ws H) (q0 : Nat) (ha : ws[q0]? = some (a, .inl (Δ.2.2.2.2, N, .inr (.inr (.inr (.inr f)))))) (hi : vp_in i N) (hv : va_rf (f i.toNatClampNeg) = v) (kk : g Γ R nL H L k n q lv (v :: st)) : g Γ R nL H L k n pc lv (.int i :: .ref a :: st) := fun ls hls => va_aldq C.1 C.2.1 hK.1 hP q0 3 ha rfl hi hd (by rw [hp, hv]; exact kk ls hls)
theorem g_astT {a N v ci : Nat} {vs : List Value} {f : Nat → Option Nat} {i : Int32} (ws2 : va_W) (C : gOk Γ cc nL own) (q : Nat) (hp : pc + 1 = q) (hd : decode cc pc = .ok (.aastore, 1)) (hK : KD Δ (sOf Γ)) (hP : va_P Δ.1 classes ws H) (hD : va_D A ws) (hS : va_S A (sOf Γ).heap H L) (q0 qk : Nat) (ha : ws[q0]? = some (a, .inl (Δ.2.2.2.2, N, .inr (.inr (.inr (.inr f)))))) (hv : ws[qk]? = some (v, .inr (ci, vs))) (hc : classes[ci]? = some (RX6, TX6, 7)) (hi : vp_in i N) (hw : ws.set q0 (a, .inl (Δ.2.2.2.2, N, .inr (.inr (.inr (.inr (va_up f i.toNatClampNeg (some v))))))) = ws2)
    (kk : ∀ (H : Heap) (L : List Loc), va_P Δ.1 classes ws2 H → va_D A ws2 → va_S A (sOf Γ).heap H L → g Γ R nL H L k n q lv st) : g Γ R nL H L k n pc lv (.ref v :: .int i :: .ref a :: st) := fun ls hls => va_astq C.1 C.2.1 hK.1 hP hD hS q0 3 qk ci (r := (RX6, TX6, 7)) ha rfl hv hc hi hd (fun H1 L1 hP1 hD1 hS1 => by rw [hp]; exact kk H1 L1 (hw ▸ hP1) (hw ▸ hD1) hS1 ls hls)
theorem g_nn {x : Nat} {off : Int} (C : gOk Γ cc nL own) (q : Nat) (hd : decode cc pc = .ok (.ifnonnull off, 3)) (ht : (pc : Int) + off = (q : Int)) (kk : g Γ R nL H L k n q lv st) : g Γ R nL H L k n pc lv (.ref x :: st) := fun ls hls => lv_ifnonnull C.1 C.2.1 hd ht (kk ls hls)
theorem g_nnN {off : Int} (C : gOk Γ cc nL own) (q : Nat) (hp : pc + 3 = q) (hd : decode cc pc = .ok (.ifnonnull off, 3)) (kk : g Γ R nL H L k n q lv st) : g Γ R nL H L k n pc lv (.null :: st) := fun ls hls => lv_ifnonnullN C.1 C.2.1 hd (by rw [hp]; exact kk ls hls)
end IM
def MNq (Δ : gD) (ws : va_W) (v : Value) (w1 : (Nat → Nat) → va_W) (sz : Nat) : Array Value → State → Outcome → State → Prop := fun _ st o t => (∃ b : Nat → Nat, o = .returned (some v) ∧ va_P Δ.1 classes (w1 b) t.heap ∧ va_D (va_A ws sz) (w1 b)) ∧ va_F (va_A ws sz) st t
/-- a call that makes cells -/
def MN (l : Launch) (y : MethodName) (b : ByteArray) (n : Nat) (ret : Option FieldType) (Δ : gD) (ws : va_W) (As : List Value) (mc ms f x : Nat) (v : Value) (w1 : (Nat → Nat) → va_W) : Prop :=
  ∀ sz : Nat, Met l y (.code y b n ret :: AW) { frames := f, cells := mc, slots := ms, locals := x } (MWp Δ ws As sz) (MNq Δ ws v w1 sz) mc ms (va_A ws sz)
theorem MN.of {l : Launch} {y : MethodName} {b : ByteArray} {n : Nat} {Δ : gD} {ws : va_W} {As : List Value} {mc ms f x : Nat} {v : Int32} {w1 : (Nat → Nat) → va_W} (hy : plainName y.cls = true) (hn : (lg_sl As).length ≤ n)
    (body : ∀ (Γ : gT) (A : Nat → Prop) (H : Heap), Γ.2.1 = l → gOk Γ b n y.cls → KD Δ (sOf Γ) → va_P Δ.1 classes ws H → va_D A ws → va_S A (sOf Γ).heap H [] → (∀ q, (sOf Γ).heap.size ≤ q → A q) →
      (∀ (b9 : Nat → Nat) (H : Heap) (L : List Loc), va_P Δ.1 classes (w1 b9) H → va_D A (w1 b9) → va_S A (sOf Γ).heap H L → ∀ (pc : Nat) (lv : List (Nat × Value)), decode b pc = .ok (.ireturn, 1) → g Γ { frames := f, cells := mc, slots := ms, locals := x } n H L mc ms pc lv [.int v]) →
      g Γ { frames := f, cells := mc, slots := ms, locals := x } n H [] 0 0 0 (lv_args 0 As) []) : MN l y b n (some .int) Δ ws As mc ms f x (.int v) w1 := by
  intro sz
  refine Met.ofW (cc := b) (maxL := n) (ret := some .int) hy rfl ?_
  intro p e s m args below meth c s₁ B hml hv
  obtain ⟨rfl, rfl, hP, hK, hD0⟩ := hv
  have hr := B.returns
  have hts := atoms_spec (ws := .code y b n (some .int) :: AW) B.pre
  have hlocks := B.notSynchronized
  have hl := lv_entry As hn
  rw [lg_entry_eq]
  refine body (p, l, e, s, m, As.toArray, below, meth, c, MQ below (MNq Δ ws (.int v) w1 s.heap.size) As.toArray s mc ms (va_A ws s.heap.size)) (va_A ws s.heap.size) s.heap rfl ⟨B.exec, B.bytes, hml, findClass_of_methodNamed B.named, fun w h => hts w (List.mem_cons_of_mem _ h)⟩ hK hP (hD0.self (sz := s.heap.size)) va_S.rf (fun q h => Or.inr h) ?_ _ hl
  intro b9 H L hP2 hD2 hS2 pc lv hd ls hls
  show W p l e _ s m As.toArray below meth c H L mc ms (MQ below (MNq Δ ws (.int v) w1 s.heap.size) As.toArray s mc ms (va_A ws s.heap.size)) (F0 m pc ls [.int v])
  exact W.zret B.exec B.bytes hr rfl (fun t ht hW => ⟨⟨b9, rfl, by rw [ht]; exact hP2, hD2⟩, hS2.F ht⟩) hS2.2.2 hd
set_option maxHeartbeats 1000000 in
set_option maxRecDepth 100000 in
theorem c_X8_image_out (l : Launch) (Δ : gD) (a : Nat → Nat) (x1 : Int32) (s : S8) (h1 : sem_X8_within x1 0 1 = some 0) : MR l yX8_image cX8_image 2 (some .int) Δ (cs8 a Δ s) [.ref (a 0), .int x1] 2 80 (.int (-2)) := by
  refine MR.of (by decide) (Nat.le_of_ble_eq_true rfl) ?_
  intro Γ H hl C hK hP hR
  subst hl
  show g Γ { frames := 2, cells := 0, slots := 0, locals := 80 } 2 H [] 0 0 0 [(0, .ref (a 0)), (1, .int x1)] []
  refine g_iload_n C 1 rfl dX8_image_0 1 rfl ?_
  refine g_iconst 0 C 2 rfl dX8_image_1 ki_0 ?_
  refine g_iconst 1 C 3 rfl dX8_image_2 ki_1 ?_
  refine g_callRS (rest := []) C 6 rfl dX8_image_3 (c_X8_within Γ.2.1 Δ x1 0 1 h1) mv_X8_within (Or.inl ml_X8_69) hK rfl rfl ⟨Nat.le_of_ble_eq_true rfl, Nat.le_of_ble_eq_true rfl⟩ (Nat.le_of_ble_eq_true rfl) ⟨Nat.zero_le _, Nat.zero_le _⟩ ?_
  refine s_if_ne C 12 9 rfl dX8_image_6 (by decide) (u := some ()) (v := none) (r := some ()) rfl (fun h => by cases h) (fun _ => ?_)
  refine g_bipush (-2) C 11 rfl dX8_image_9 kb_m2 ?_
  exact r_int hR rfl dX8_image_11 rfl rfl
set_option maxHeartbeats 1000000 in
set_option maxRecDepth 100000 in
theorem c_X8_restore_out (l : Launch) (Δ : gD) (a : Nat → Nat) (x1 : Int32) (s : S8) (h1 : sem_X8_within x1 0 1 = some 0) : MR l yX8_restore cX8_restore 2 (some .int) Δ (cs8 a Δ s) [.ref (a 0), .int x1] 2 80 (.int (-2)) := by
  refine MR.of (by decide) (Nat.le_of_ble_eq_true rfl) ?_
  intro Γ H hl C hK hP hR
  subst hl
  show g Γ { frames := 2, cells := 0, slots := 0, locals := 80 } 2 H [] 0 0 0 [(0, .ref (a 0)), (1, .int x1)] []
  refine g_iload_n C 1 rfl dX8_restore_0 1 rfl ?_
  refine g_iconst 0 C 2 rfl dX8_restore_1 ki_0 ?_
  refine g_iconst 1 C 3 rfl dX8_restore_2 ki_1 ?_
  refine g_callRS (rest := []) C 6 rfl dX8_restore_3 (c_X8_within Γ.2.1 Δ x1 0 1 h1) mv_X8_within (Or.inl ml_X8_69) hK rfl rfl ⟨Nat.le_of_ble_eq_true rfl, Nat.le_of_ble_eq_true rfl⟩ (Nat.le_of_ble_eq_true rfl) ⟨Nat.zero_le _, Nat.zero_le _⟩ ?_
  refine s_if_ne C 12 9 rfl dX8_restore_6 (by decide) (u := some ()) (v := none) (r := some ()) rfl (fun h => by cases h) (fun _ => ?_)
  refine g_bipush (-2) C 11 rfl dX8_restore_9 kb_m2 ?_
  exact r_int hR rfl dX8_restore_11 rfl rfl
set_option maxHeartbeats 1000000 in
set_option maxRecDepth 100000 in
theorem c_X8_restore_none (l : Launch) (Δ : gD) (a : Nat → Nat) (x1 : Int32) (s : S8) (f : Nat → Option Nat) (h1 : sem_X8_within x1 0 1 = some 1) (hi : vp_in x1 2) (hf : f x1.toNatClampNeg = none) : MR l yX8_restore cX8_restore 2 (some .int) Δ (cs8 a Δ s ++ [imC a Δ f]) [.ref (a 0), .int x1] 2 80 (.int (-3)) := by
  refine MR.of (by decide) (Nat.le_of_ble_eq_true rfl) ?_
  intro Γ H hl C hK hP hR
  subst hl
  show g Γ { frames := 2, cells := 0, slots := 0, locals := 80 } 2 H [] 0 0 0 [(0, .ref (a 0)), (1, .int x1)] []
  refine g_iload_n C 1 rfl dX8_restore_0 1 rfl ?_
  refine g_iconst 0 C 2 rfl dX8_restore_1 ki_0 ?_
  refine g_iconst 1 C 3 rfl dX8_restore_2 ki_1 ?_
  refine g_callRS (rest := []) C 6 rfl dX8_restore_3 (c_X8_within Γ.2.1 Δ x1 0 1 h1) mv_X8_within (Or.inl ml_X8_69) hK rfl rfl ⟨Nat.le_of_ble_eq_true rfl, Nat.le_of_ble_eq_true rfl⟩ (Nat.le_of_ble_eq_true rfl) ⟨Nat.zero_le _, Nat.zero_le _⟩ ?_
  refine s_if_ne C 12 9 rfl dX8_restore_6 (by decide) (u := none) (v := some ()) (r := some ()) rfl (fun _ => ?_) (fun h => by cases h)
  refine g_aload_n C 13 rfl dX8_restore_12 0 rfl ?_
  refine g_get (v := .ref (a 24)) (fs := fl8 a s) C 16 rfl dX8_restore_13 hK hP la_X8 0 3 (Nat.le_of_ble_eq_true rfl) fl_X8_30 rfl rfl rfl rfl ?_
  refine g_iload_n C 17 rfl dX8_restore_16 1 rfl ?_
  refine g_aldT .null C 18 rfl dX8_restore_17 hK hP 24 rfl hi (by rw [hf]; rfl) ?_
  refine g_nnN C 21 rfl dX8_restore_18 ?_
  refine g_bipush (-3) C 23 rfl dX8_restore_21 kb_m3 ?_
  exact r_int hR rfl dX8_restore_23 rfl rfl
theorem shI_r (a b : Nat → Nat) (Δ : gD) (s : S8) (f : Nat → Option Nat) (t : S6) (v : S6) : Shp (cs8 a Δ s ++ ([imC a Δ f] ++ cs6 b Δ t)) (cs6 (fun i => a (i + 1)) Δ (x8_town s) ++ cs6 b Δ t) (cs6 (fun i => a (i + 1)) Δ v ++ cs6 b Δ t) (cs8 a Δ (p8_town s v) ++ ([imC a Δ f] ++ cs6 b Δ t)) := ⟨[1, 2, 3, 25, 26, 27], [0, 4, 5, 6, 7, 8, 9, 10, 11, 12, 13, 14, 15, 16, 17, 18, 19, 20, 21, 22, 23, 24], [0, 22, 23, 24, 1, 2, 3, 4, 5, 6, 7, 8, 9, 10, 11, 12, 13, 14, 15, 16, 17, 18, 19, 20, 21, 25, 26, 27], ([0, 4, 5, 6, 7, 8, 9, 10, 11, 12, 13, 14, 15, 16, 17, 18, 19, 20, 21, 22, 23, 24] : List Nat).filterMap (fun i => (cs8 a Δ s ++ ([imC a Δ f] ++ cs6 b Δ t))[i]?), rfl, by decide, rfl, by decide, by decide, rfl, rfl, rfl⟩
theorem shI_i (a b : Nat → Nat) (Δ : gD) (s : S8) (f : Nat → Option Nat) (t : S6) (v : S6) : Shp (cs8 a Δ s ++ ([imC a Δ f] ++ cs6 b Δ t)) (cs6 b Δ t ++ cs6 (fun i => a (i + 1)) Δ (x8_town s)) (cs6 b Δ v ++ cs6 (fun i => a (i + 1)) Δ (x8_town s)) (cs8 a Δ s ++ ([imC a Δ f] ++ cs6 b Δ v)) := ⟨[25, 26, 27, 1, 2, 3], [0, 4, 5, 6, 7, 8, 9, 10, 11, 12, 13, 14, 15, 16, 17, 18, 19, 20, 21, 22, 23, 24], [0, 25, 26, 27, 1, 2, 3, 4, 5, 6, 7, 8, 9, 10, 11, 12, 13, 14, 15, 16, 17, 18, 19, 20, 21, 22, 23, 24], ([0, 4, 5, 6, 7, 8, 9, 10, 11, 12, 13, 14, 15, 16, 17, 18, 19, 20, 21, 22, 23, 24] : List Nat).filterMap (fun i => (cs8 a Δ s ++ ([imC a Δ f] ++ cs6 b Δ t))[i]?), rfl, by decide, rfl, by decide, by decide, rfl, rfl, rfl⟩
set_option maxHeartbeats 1000000 in
set_option maxRecDepth 100000 in
theorem c_X8_restore_some (l : Launch) (Δ : gD) (a b : Nat → Nat) (x1 : Int32) (s : S8) (f : Nat → Option Nat) (t v : S6) (h1 : sem_X8_within x1 0 1 = some 1) (hi : vp_in x1 2) (hf : f x1.toNatClampNeg = some (b 0)) (h2 : sem_X6_takeFrom (x8_town s) t = some v) : MW l yX8_restore cX8_restore 2 (some .int) Δ (cs8 a Δ s ++ ([imC a Δ f] ++ cs6 b Δ t)) [.ref (a 0), .int x1] 2 80 (some (.int 1)) (cs8 a Δ (p8_town s v) ++ ([imC a Δ f] ++ cs6 b Δ t)) := by
  refine MW.of (by decide) (Nat.le_of_ble_eq_true rfl) ?_
  intro Γ A H hl C hK hP hD hS hA hR
  subst hl
  show g Γ { frames := 2, cells := 0, slots := 0, locals := 80 } 2 H [] 0 0 0 [(0, .ref (a 0)), (1, .int x1)] []
  refine g_iload_n C 1 rfl dX8_restore_0 1 rfl ?_
  refine g_iconst 0 C 2 rfl dX8_restore_1 ki_0 ?_
  refine g_iconst 1 C 3 rfl dX8_restore_2 ki_1 ?_
  refine g_callRS (rest := []) C 6 rfl dX8_restore_3 (c_X8_within Γ.2.1 Δ x1 0 1 h1) mv_X8_within (Or.inl ml_X8_69) hK rfl rfl ⟨Nat.le_of_ble_eq_true rfl, Nat.le_of_ble_eq_true rfl⟩ (Nat.le_of_ble_eq_true rfl) ⟨Nat.zero_le _, Nat.zero_le _⟩ ?_
  refine s_if_ne C 12 9 rfl dX8_restore_6 (by decide) (u := none) (v := some ()) (r := some ()) rfl (fun _ => ?_) (fun h => by cases h)
  refine g_aload_n C 13 rfl dX8_restore_12 0 rfl ?_
  refine g_get (v := .ref (a 24)) (fs := fl8 a s) C 16 rfl dX8_restore_13 hK hP la_X8 0 3 (Nat.le_of_ble_eq_true rfl) fl_X8_30 rfl rfl rfl rfl ?_
  refine g_iload_n C 17 rfl dX8_restore_16 1 rfl ?_
  refine g_aldT (.ref (b 0)) C 18 rfl dX8_restore_17 hK hP 24 rfl hi (by rw [hf]; rfl) ?_
  refine g_nn C 24 dX8_restore_18 (by decide) ?_
  refine g_aload_n C 25 rfl dX8_restore_24 0 rfl ?_
  refine g_get (v := .ref (a 1)) (fs := fl8 a s) C 28 rfl dX8_restore_25 hK hP la_X8 0 0 (Nat.le_of_ble_eq_true rfl) fl_X8_10 rfl rfl rfl rfl ?_
  refine g_aload_n C 29 rfl dX8_restore_28 0 rfl ?_
  refine g_get (v := .ref (a 24)) (fs := fl8 a s) C 32 rfl dX8_restore_29 hK hP la_X8 0 3 (Nat.le_of_ble_eq_true rfl) fl_X8_30 rfl rfl rfl rfl ?_
  refine g_iload_n C 33 rfl dX8_restore_32 1 rfl ?_
  refine g_aldT (.ref (b 0)) C 34 rfl dX8_restore_33 hK hP 24 rfl hi (by rw [hf]; rfl) ?_
  refine g_callWV (rest := []) (cs8 a Δ (p8_town s v) ++ ([imC a Δ f] ++ cs6 b Δ t)) C 37 rfl dX8_restore_34 (c_X6_takeFrom Γ.2.1 Δ (fun i => a (i + 1)) b (x8_town s) t h2) mv_X6_takeFrom ml_X8_147 hK hP hD hS hA (shI_r a b Δ s f t v) rfl rfl rfl rfl rfl ⟨Nat.le_of_ble_eq_true rfl, Nat.le_of_ble_eq_true rfl⟩ (Nat.le_of_ble_eq_true rfl) ⟨Nat.zero_le _, Nat.zero_le _⟩ (fun H L hP hD hS => ?_)
  refine g_iconst 1 C 38 rfl dX8_restore_37 ki_1 ?_
  exact w_int (S := S8) (ws := fun s => cs8 a Δ s ++ ([imC a Δ f] ++ cs6 b Δ t)) (res := (1, p8_town s v)) (u := p8_town s v) hR rfl hP hS dX8_restore_38 rfl rfl
set_option maxHeartbeats 1000000 in
set_option maxRecDepth 100000 in
theorem c_X8_image_old (l : Launch) (Δ : gD) (a b : Nat → Nat) (x1 : Int32) (s : S8) (f : Nat → Option Nat) (t v : S6) (h1 : sem_X8_within x1 0 1 = some 1) (hi : vp_in x1 2) (hf : f x1.toNatClampNeg = some (b 0)) (h2 : sem_X6_takeFrom t (x8_town s) = some v) : MW l yX8_image cX8_image 2 (some .int) Δ (cs8 a Δ s ++ ([imC a Δ f] ++ cs6 b Δ t)) [.ref (a 0), .int x1] 2 80 (some (.int 1)) (cs8 a Δ s ++ ([imC a Δ f] ++ cs6 b Δ v)) := by
  refine MW.of (by decide) (Nat.le_of_ble_eq_true rfl) ?_
  intro Γ A H hl C hK hP hD hS hA hR
  subst hl
  show g Γ { frames := 2, cells := 0, slots := 0, locals := 80 } 2 H [] 0 0 0 [(0, .ref (a 0)), (1, .int x1)] []
  refine g_iload_n C 1 rfl dX8_image_0 1 rfl ?_
  refine g_iconst 0 C 2 rfl dX8_image_1 ki_0 ?_
  refine g_iconst 1 C 3 rfl dX8_image_2 ki_1 ?_
  refine g_callRS (rest := []) C 6 rfl dX8_image_3 (c_X8_within Γ.2.1 Δ x1 0 1 h1) mv_X8_within (Or.inl ml_X8_69) hK rfl rfl ⟨Nat.le_of_ble_eq_true rfl, Nat.le_of_ble_eq_true rfl⟩ (Nat.le_of_ble_eq_true rfl) ⟨Nat.zero_le _, Nat.zero_le _⟩ ?_
  refine s_if_ne C 12 9 rfl dX8_image_6 (by decide) (u := none) (v := some ()) (r := some ()) rfl (fun _ => ?_) (fun h => by cases h)
  refine g_aload_n C 13 rfl dX8_image_12 0 rfl ?_
  refine g_get (v := .ref (a 24)) (fs := fl8 a s) C 16 rfl dX8_image_13 hK hP la_X8 0 3 (Nat.le_of_ble_eq_true rfl) fl_X8_30 rfl rfl rfl rfl ?_
  refine g_iload_n C 17 rfl dX8_image_16 1 rfl ?_
  refine g_aldT (.ref (b 0)) C 18 rfl dX8_image_17 hK hP 24 rfl hi (by rw [hf]; rfl) ?_
  refine g_nn C 34 dX8_image_18 (by decide) ?_
  refine g_aload_n C 35 rfl dX8_image_34 0 rfl ?_
  refine g_get (v := .ref (a 24)) (fs := fl8 a s) C 38 rfl dX8_image_35 hK hP la_X8 0 3 (Nat.le_of_ble_eq_true rfl) fl_X8_30 rfl rfl rfl rfl ?_
  refine g_iload_n C 39 rfl dX8_image_38 1 rfl ?_
  refine g_aldT (.ref (b 0)) C 40 rfl dX8_image_39 hK hP 24 rfl hi (by rw [hf]; rfl) ?_
  refine g_aload_n C 41 rfl dX8_image_40 0 rfl ?_
  refine g_get (v := .ref (a 1)) (fs := fl8 a s) C 44 rfl dX8_image_41 hK hP la_X8 0 0 (Nat.le_of_ble_eq_true rfl) fl_X8_10 rfl rfl rfl rfl ?_
  refine g_callWV (rest := []) (cs8 a Δ s ++ ([imC a Δ f] ++ cs6 b Δ v)) C 47 rfl dX8_image_44 (c_X6_takeFrom Γ.2.1 Δ b (fun i => a (i + 1)) t (x8_town s) h2) mv_X6_takeFrom ml_X8_147 hK hP hD hS hA (shI_i a b Δ s f t v) rfl rfl rfl rfl rfl ⟨Nat.le_of_ble_eq_true rfl, Nat.le_of_ble_eq_true rfl⟩ (Nat.le_of_ble_eq_true rfl) ⟨Nat.zero_le _, Nat.zero_le _⟩ (fun H L hP hD hS => ?_)
  refine g_iconst 1 C 48 rfl dX8_image_47 ki_1 ?_
  exact w_int (S := S6) (ws := fun t => cs8 a Δ s ++ ([imC a Δ f] ++ cs6 b Δ t)) (res := (1, v)) (u := v) hR rfl hP hS dX8_image_48 rfl rfl
set_option maxHeartbeats 1000000 in
set_option maxRecDepth 100000 in
theorem c_X8_image_new (l : Launch) (Δ : gD) (a : Nat → Nat) (x1 : Int32) (s : S8) (f : Nat → Option Nat) (v : S6) (h1 : sem_X8_within x1 0 1 = some 1) (hi : vp_in x1 2) (hf : f x1.toNatClampNeg = none) (h2 : sem_X6_takeFrom i6 (x8_town s) = some v) : MN l yX8_image cX8_image 2 (some .int) Δ (cs8 a Δ s ++ [imC a Δ f]) [.ref (a 0), .int x1] 3 51 3 80 (.int 1) (fun b => cs8 a Δ s ++ ([imC a Δ (va_up f x1.toNatClampNeg (some (b 0)))] ++ cs6 b Δ v)) := by
  refine MN.of (by decide) (Nat.le_of_ble_eq_true rfl) ?_
  intro Γ A H hl C hK hP hD hS hA hR
  subst hl
  show g Γ { frames := 3, cells := 3, slots := 51, locals := 80 } 2 H [] 0 0 0 [(0, .ref (a 0)), (1, .int x1)] []
  refine g_iload_n C 1 rfl dX8_image_0 1 rfl ?_
  refine g_iconst 0 C 2 rfl dX8_image_1 ki_0 ?_
  refine g_iconst 1 C 3 rfl dX8_image_2 ki_1 ?_
  refine g_callRS (rest := []) C 6 rfl dX8_image_3 (c_X8_within Γ.2.1 Δ x1 0 1 h1) mv_X8_within (Or.inl ml_X8_69) hK rfl rfl ⟨Nat.le_of_ble_eq_true rfl, Nat.le_of_ble_eq_true rfl⟩ (Nat.le_of_ble_eq_true rfl) ⟨Nat.zero_le _, Nat.zero_le _⟩ ?_
  refine s_if_ne C 12 9 rfl dX8_image_6 (by decide) (u := none) (v := some ()) (r := some ()) rfl (fun _ => ?_) (fun h => by cases h)
  refine g_aload_n C 13 rfl dX8_image_12 0 rfl ?_
  refine g_get (v := .ref (a 24)) (fs := fl8 a s) C 16 rfl dX8_image_13 hK hP la_X8 0 3 (Nat.le_of_ble_eq_true rfl) fl_X8_30 rfl rfl rfl rfl ?_
  refine g_iload_n C 17 rfl dX8_image_16 1 rfl ?_
  refine g_aldT .null C 18 rfl dX8_image_17 hK hP 24 rfl hi (by rw [hf]; rfl) ?_
  refine g_nnN C 21 rfl dX8_image_18 ?_
  refine g_aload_n C 22 rfl dX8_image_21 0 rfl ?_
  refine g_get (v := .ref (a 24)) (fs := fl8 a s) C 25 rfl dX8_image_22 hK hP la_X8 0 3 (Nat.le_of_ble_eq_true rfl) fl_X8_30 rfl rfl rfl rfl ?_
  refine g_iload_n C 26 rfl dX8_image_25 1 rfl ?_
  refine g_new C 29 rfl dX8_image_26 la_X6 tyX6_ok cl_X8_7 it_X6 ini_X6 hK hP hD hS hA (ci := 6) rfl [.null, .null, .int 0, .int 0, .int 0, .int 0, .int 0] (fun j hj => by match j, hj with | 0, _ => rfl | 1, _ => rfl | 2, _ => rfl | 3, _ => rfl | 4, _ => rfl | 5, _ => rfl | 6, _ => rfl | j + 7, h => omega) (Nat.le_of_ble_eq_true rfl) (Nat.le_of_ble_eq_true rfl) (fun q1 H hP hD hS => ?_)
  refine g_dup C 30 rfl dX8_image_29 rfl ?_
  refine g_callI C 33 rfl dX8_image_30 (n_X6 Γ.2.1 Δ) co_X6_init im_X6_init ini_X6 ml_X8_9 rfl ⟨by decide +kernel, by decide +kernel, by decide +kernel⟩ hK hP hD hS hA [25] [0, 1, 2, 3, 4, 5, 6, 7, 8, 9, 10, 11, 12, 13, 14, 15, 16, 17, 18, 19, 20, 21, 22, 23, 24] rfl (wr := cs8 a Δ s ++ [imC a Δ f]) rfl (by decide) (by decide) (by decide) ⟨Nat.le_of_ble_eq_true rfl, Nat.le_of_ble_eq_true rfl⟩ (Nat.le_of_ble_eq_true rfl) ⟨Nat.le_of_ble_eq_true rfl, Nat.le_of_ble_eq_true rfl⟩ (fun b H L hb0 hP9 hD9 hS => ?_)
  clear hP hD
  subst hb0
  have hP := hP9
  have hD := hD9
  clear hP9 hD9
  refine g_astT (cs8 a Δ s ++ ([imC a Δ (va_up f x1.toNatClampNeg (some (b 0)))] ++ cs6 b Δ i6)) C 34 rfl dX8_image_33 hK hP hD hS 24 25 rfl rfl (ci := 6) rfl hi rfl (fun H L hP hD hS => ?_)
  refine g_aload_n C 35 rfl dX8_image_34 0 rfl ?_
  refine g_get (v := .ref (a 24)) (fs := fl8 a s) C 38 rfl dX8_image_35 hK hP la_X8 0 3 (Nat.le_of_ble_eq_true rfl) fl_X8_30 rfl rfl rfl rfl ?_
  refine g_iload_n C 39 rfl dX8_image_38 1 rfl ?_
  refine g_aldT (.ref (b 0)) C 40 rfl dX8_image_39 hK hP 24 rfl hi (by simp [va_up, va_rf]) ?_
  refine g_aload_n C 41 rfl dX8_image_40 0 rfl ?_
  refine g_get (v := .ref (a 1)) (fs := fl8 a s) C 44 rfl dX8_image_41 hK hP la_X8 0 0 (Nat.le_of_ble_eq_true rfl) fl_X8_10 rfl rfl rfl rfl ?_
  refine g_callWV (rest := []) (cs8 a Δ s ++ ([imC a Δ (va_up f x1.toNatClampNeg (some (b 0)))] ++ cs6 b Δ v)) C 47 rfl dX8_image_44 (c_X6_takeFrom Γ.2.1 Δ b (fun i => a (i + 1)) i6 (x8_town s) h2) mv_X6_takeFrom ml_X8_147 hK hP hD hS hA (shI_i a b Δ s (va_up f x1.toNatClampNeg (some (b 0))) i6 v) rfl rfl rfl rfl rfl ⟨Nat.le_of_ble_eq_true rfl, Nat.le_of_ble_eq_true rfl⟩ (Nat.le_of_ble_eq_true rfl) ⟨Nat.le_of_ble_eq_true rfl, Nat.le_of_ble_eq_true rfl⟩ (fun H L hP hD hS => ?_)
  refine g_iconst 1 C 48 rfl dX8_image_47 ki_1 ?_
  exact hR b _ _ hP hD hS _ _ dX8_image_48
