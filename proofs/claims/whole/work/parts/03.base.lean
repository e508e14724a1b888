/-! THE BASE: one judgement g over the kit's W with the machine's names in one tuple, a row an instruction; contracts of readers (MR) and writers (MW) -/
def AW : List Cond := lw_tbl.filter goodWord
theorem mAW {w : Cond} (i : Nat) (h : lw_tbl[i]? = some w) (hg : goodWord w = true) : w ∈ AW := List.mem_filter.mpr ⟨List.mem_of_getElem? h, hg⟩
theorem mA0 {w : Cond} (i : Nat) (h : (k2_sels lw_privs)[i]? = some w) (hg : goodWord w = true) : w ∈ AW := List.mem_filter.mpr ⟨List.mem_append_left _ (List.mem_of_getElem? h), hg⟩
theorem mA1 {w : Cond} (i : Nat) (h : tables_1_1[i]? = some w) (hg : goodWord w = true) : w ∈ AW := List.mem_filter.mpr ⟨List.mem_append_right _ (List.mem_append_left _ (List.mem_of_getElem? h)), hg⟩
theorem mA2 {w : Cond} (i : Nat) (h : tables_1_2[i]? = some w) (hg : goodWord w = true) : w ∈ AW := List.mem_filter.mpr ⟨List.mem_append_right _ (List.mem_append_right _ (List.mem_append_left _ (List.mem_of_getElem? h))), hg⟩
theorem mA3 {w : Cond} (i : Nat) (h : tables_1_3[i]? = some w) (hg : goodWord w = true) : w ∈ AW := List.mem_filter.mpr ⟨List.mem_append_right _ (List.mem_append_right _ (List.mem_append_right _ (List.mem_append_left _ (List.mem_of_getElem? h)))), hg⟩
theorem mA4 {w : Cond} (i : Nat) (h : tables_1_4[i]? = some w) (hg : goodWord w = true) : w ∈ AW := List.mem_filter.mpr ⟨List.mem_append_right _ (List.mem_append_right _ (List.mem_append_right _ (List.mem_append_right _ (List.mem_append_left _ (List.mem_of_getElem? h))))), hg⟩
theorem mA5 {w : Cond} (i : Nat) (h : tables_1_5[i]? = some w) (hg : goodWord w = true) : w ∈ AW := List.mem_filter.mpr ⟨List.mem_append_right _ (List.mem_append_right _ (List.mem_append_right _ (List.mem_append_right _ (List.mem_append_right _ (List.mem_of_getElem? h))))), hg⟩
theorem gAW {y : MethodName} {b : ByteArray} {n : Nat} {r : Option FieldType} (h : Cond.code y b n r ∈ AW) : GoodIn AW (.code y b n r :: AW) := by
  intro w hw
  have hm : w ∈ AW := by
    rcases List.mem_cons.mp hw with h0 | h1
    · rw [h0]; exact h
    · exact h1
  exact ⟨hm, good_of_word (List.mem_filter.mp hm).2⟩
abbrev classes : List vw_C := [(RX0, TX0, 4), (RX1, TX1, 3), (RX2, TX2, 5), (RX3, TX3, 2), (RX4, TX4, 4), (RX5, TX5, 3), (RX6, TX6, 7), (RX7, TX7, 8), (RX8, TX8, 9), (RX9, TX9, 41)]
abbrev gT : Type := Program × Launch × Env × State × MethodId × Array Value × List Frame × Method × Code × (State → Prop)
abbrev gD : Type := va_G × ClassId × ClassId × ClassId × ClassId
abbrev tysD (Δ : gD) : List (ClassId × FieldType) := [(Δ.2.1, .int), (Δ.2.2.1, .long), (Δ.2.2.2.1, .boolean), (Δ.2.2.2.2, .object "OathPermit$Town")]
def NWL : List Cond := [Cond.methodLinkNest RX3 19 yX8_within "OathPermit", Cond.methodLinkNest RX5 28 yX8_digitOf "OathPermit", Cond.methodLinkNest RX5 58 yX8_within "OathPermit", Cond.methodLinkNest RX1 49 yX8_within "OathPermit", Cond.methodLinkNest RX4 47 yX8_within "OathPermit", Cond.methodLinkNest RX0 50 yX8_within "OathPermit", Cond.methodLinkNest RX0 47 yX8_digitOf "OathPermit", Cond.methodLinkNest RX6 69 yX8_within "OathPermit"]
def KD (Δ : gD) (U : State) : Prop := va_K Δ.1 classes (tysD Δ) U ∧ (∀ w ∈ NWL, va_Nw w U) ∧ va_AO "OathPermit$Town" U
theorem NWL_form : ∀ w ∈ NWL, ∃ (a : String) (i : Nat) (x : MethodName) (h : String), w = .methodLinkNest a i x h := by
  intro w hw
  simp only [NWL, List.mem_cons, List.not_mem_nil, or_false] at hw
  rcases hw with rfl | rfl | rfl | rfl | rfl | rfl | rfl | rfl <;> exact ⟨_, _, _, _, rfl⟩
theorem KD.warm {Δ : gD} {s U : State} (hW : s.WarmedH U.vm) (h : KD Δ s) : KD Δ U := ⟨va_K.moved hW.alike h.1, fun w hw => by
  obtain ⟨a, i, x, h9, rfl⟩ := NWL_form w hw
  exact va_Nw.warmM hW (h.2.1 _ hw), va_AO.moved hW.alike h.2.2⟩
theorem KD.calling {Δ : gD} {U : State} {g9 : JFrame} {mk : MethodId} {a9 : Array Value} (h : KD Δ U) : KD Δ (U.calling g9 mk a9) := ⟨va_K.moved (u := U) (U := U.calling g9 mk a9) (Vm.Alike.refl U.vm) h.1, fun w hw => by
  obtain ⟨a, i, x, h9, rfl⟩ := NWL_form w hw
  exact va_Nw.same (u := U) (U := U.calling g9 mk a9) rfl rfl (h.2.1 _ hw), va_AO.moved (u := U) (U := U.calling g9 mk a9) (Vm.Alike.refl U.vm) h.2.2⟩
def g (Γ : gT) (R : Room) (nL : Nat) (H : Heap) (L : List Loc) (k n : Nat) (pc : Nat) (lv : List (Nat × Value)) (st : List Value) : Prop :=
  ∀ ls : Array Slot, lv_has ls nL lv → W Γ.1 Γ.2.1 Γ.2.2.1 R Γ.2.2.2.1 Γ.2.2.2.2.1 Γ.2.2.2.2.2.1 Γ.2.2.2.2.2.2.1 Γ.2.2.2.2.2.2.2.1 Γ.2.2.2.2.2.2.2.2.1 H L k n Γ.2.2.2.2.2.2.2.2.2 (F0 Γ.2.2.2.2.1 pc ls st)
def gOk (Γ : gT) (cc : ByteArray) (nL : Nat) (own : String) : Prop :=
  Γ.1.tables.exec = Jvm.exec ∧ Γ.2.2.2.2.2.2.2.2.1.code = cc ∧ Γ.2.2.2.2.2.2.2.2.1.maxLocals = nL ∧ Γ.2.2.2.1.vm.findClass own = some Γ.2.2.2.2.1.cls ∧ (∀ w ∈ AW, w.before Γ.2.2.2.2.2.1 Γ.2.2.2.1 = true)
abbrev sOf (Γ : gT) : State := Γ.2.2.2.1
def jrem (x y : Int32) : Int32 := x - x / y * y
def jreml (x y : Int64) : Int64 := x - x / y * y
def jmax (x y : Int32) : Int32 := if x < y then y else x
def jmin (x y : Int32) : Int32 := if y < x then y else x
def jabs (x : Int32) : Int32 := if 0 ≤ x then x else 0 - x
def jmaxl (x y : Int64) : Int64 := if y < x then x else y
section G
variable {Γ : gT} {R : Room} {nL : Nat} {H : Heap} {L : List Loc} {k n : Nat} {pc : Nat} {lv : List (Nat × Value)} {st : List Value} {cc : ByteArray} {own : String}
theorem g_sub {lv' : List (Nat × Value)} (ks : List Nat) (h : lv_pick lv ks = lv') (kk : g Γ R nL H L k n pc lv' st) : g Γ R nL H L k n pc lv st := fun ls hls => kk ls (lv_sub hls ks h)
theorem g_at {q : Nat} (h : pc = q) (kk : g Γ R nL H L k n q lv st) : g Γ R nL H L k n pc lv st := h ▸ kk
theorem g_iload {i : Nat} {x : Int32} (C : gOk Γ cc nL own) (q : Nat) (hp : pc + 2 = q) (hd : decode cc pc = .ok (.iload i, 2)) (j : Nat) (hl : lv[j]? = some (i, .int x)) (kk : g Γ R nL H L k n q lv (.int x :: st)) : g Γ R nL H L k n pc lv st := fun ls hls => lv_iload C.1 C.2.1 hd (lv_at hls j hl) (by rw [hp]; exact kk ls hls)
theorem g_iload_n {i : Fin 4} {x : Int32} (C : gOk Γ cc nL own) (q : Nat) (hp : pc + 1 = q) (hd : decode cc pc = .ok (.iload_n i, 1)) (j : Nat) (hl : lv[j]? = some ((i : Nat), .int x)) (kk : g Γ R nL H L k n q lv (.int x :: st)) : g Γ R nL H L k n pc lv st := fun ls hls => lv_iload_n C.1 C.2.1 hd rfl (lv_at hls j hl) (by rw [hp]; exact kk ls hls)
theorem g_lload {i : Nat} {x : Int64} (C : gOk Γ cc nL own) (q : Nat) (hp : pc + 2 = q) (hd : decode cc pc = .ok (.lload i, 2)) (j : Nat) (hl : lv[j]? = some (i, .long x)) (kk : g Γ R nL H L k n q lv (.long x :: st)) : g Γ R nL H L k n pc lv st := fun ls hls => lv_lload C.1 C.2.1 hd (lv_at hls j hl) (by rw [hp]; exact kk ls hls)
theorem g_lload_n {i : Fin 4} {x : Int64} (C : gOk Γ cc nL own) (q : Nat) (hp : pc + 1 = q) (hd : decode cc pc = .ok (.lload_n i, 1)) (j : Nat) (hl : lv[j]? = some ((i : Nat), .long x)) (kk : g Γ R nL H L k n q lv (.long x :: st)) : g Γ R nL H L k n pc lv st := fun ls hls => lv_lload_n C.1 C.2.1 hd rfl (lv_at hls j hl) (by rw [hp]; exact kk ls hls)
theorem g_aload_n {i : Fin 4} {x : Nat} (C : gOk Γ cc nL own) (q : Nat) (hp : pc + 1 = q) (hd : decode cc pc = .ok (.aload_n i, 1)) (j : Nat) (hl : lv[j]? = some ((i : Nat), .ref x)) (kk : g Γ R nL H L k n q lv (.ref x :: st)) : g Γ R nL H L k n pc lv st := fun ls hls => lv_aload_n C.1 C.2.1 hd rfl (lv_at hls j hl) (by rw [hp]; exact kk ls hls)
theorem g_iconst {i : Int} (v : Int32) (C : gOk Γ cc nL own) (q : Nat) (hp : pc + 1 = q) (hd : decode cc pc = .ok (.iconst i, 1)) (hv : Int32.ofInt i = v) (kk : g Γ R nL H L k n q lv (.int v :: st)) : g Γ R nL H L k n pc lv st := fun ls hls => lv_iconst C.1 C.2.1 hd hv (by rw [hp]; exact kk ls hls)
theorem g_bipush {i : Int} (v : Int32) (C : gOk Γ cc nL own) (q : Nat) (hp : pc + 2 = q) (hd : decode cc pc = .ok (.bipush i, 2)) (hv : (Int8.ofInt i).toInt32 = v) (kk : g Γ R nL H L k n q lv (.int v :: st)) : g Γ R nL H L k n pc lv st := fun ls hls => lv_bipush C.1 C.2.1 hd hv (by rw [hp]; exact kk ls hls)
theorem g_sipush {i : Int} (v : Int32) (C : gOk Γ cc nL own) (q : Nat) (hp : pc + 3 = q) (hd : decode cc pc = .ok (.sipush i, 3)) (hv : (Int16.ofInt i).toInt32 = v) (kk : g Γ R nL H L k n q lv (.int v :: st)) : g Γ R nL H L k n pc lv st := fun ls hls => lv_sipush C.1 C.2.1 hd hv (by rw [hp]; exact kk ls hls)
theorem g_lconst {i : Fin 2} (v : Int64) (C : gOk Γ cc nL own) (q : Nat) (hp : pc + 1 = q) (hd : decode cc pc = .ok (.lconst i, 1)) (hv : Int64.ofNat (i : Nat) = v) (kk : g Γ R nL H L k n q lv (.long v :: st)) : g Γ R nL H L k n pc lv st := fun ls hls => lv_lconst C.1 C.2.1 hd hv (by rw [hp]; exact kk ls hls)
theorem g_ldc {i : Nat} (v : Int32) (C : gOk Γ cc nL own) (q : Nat) (hp : pc + 2 = q) (hd : decode cc pc = .ok (.ldc i, 2)) (hw : Cond.constant own i v ∈ AW) (kk : g Γ R nL H L k n q lv (.int v :: st)) : g Γ R nL H L k n pc lv st := fun ls hls => lv_ldc C.1 C.2.1 C.2.2.2.1 (C.2.2.2.2 _ hw) hd (by rw [hp]; exact kk ls hls)
theorem g_ldc_w {i : Nat} (v : Int32) (C : gOk Γ cc nL own) (q : Nat) (hp : pc + 3 = q) (hd : decode cc pc = .ok (.ldc_w i, 3)) (hw : Cond.constant own i v ∈ AW) (kk : g Γ R nL H L k n q lv (.int v :: st)) : g Γ R nL H L k n pc lv st := fun ls hls => lv_ldcw C.1 C.2.1 C.2.2.2.1 (C.2.2.2.2 _ hw) hd (by rw [hp]; exact kk ls hls)
theorem g_ldc2 {i : Nat} (v : Int64) (C : gOk Γ cc nL own) (q : Nat) (hp : pc + 3 = q) (hd : decode cc pc = .ok (.ldc2_w i, 3)) (hw : Cond.constantLong own i v ∈ AW) (kk : g Γ R nL H L k n q lv (.long v :: st)) : g Γ R nL H L k n pc lv st := fun ls hls => lv_ldc2 C.1 C.2.1 C.2.2.2.1 (C.2.2.2.2 _ hw) hd (by rw [hp]; exact kk ls hls)
theorem g_iadd {x y : Int32} (C : gOk Γ cc nL own) (q : Nat) (hp : pc + 1 = q) (hd : decode cc pc = .ok (.iadd, 1)) (kk : g Γ R nL H L k n q lv (.int (x + y) :: st)) : g Γ R nL H L k n pc lv (.int y :: .int x :: st) := fun ls hls => lv_iadd C.1 C.2.1 hd (by rw [hp]; exact kk ls hls)
theorem g_isub {x y : Int32} (C : gOk Γ cc nL own) (q : Nat) (hp : pc + 1 = q) (hd : decode cc pc = .ok (.isub, 1)) (kk : g Γ R nL H L k n q lv (.int (x - y) :: st)) : g Γ R nL H L k n pc lv (.int y :: .int x :: st) := fun ls hls => lv_isub C.1 C.2.1 hd (by rw [hp]; exact kk ls hls)
theorem g_imul {x y : Int32} (C : gOk Γ cc nL own) (q : Nat) (hp : pc + 1 = q) (hd : decode cc pc = .ok (.imul, 1)) (kk : g Γ R nL H L k n q lv (.int (x * y) :: st)) : g Γ R nL H L k n pc lv (.int y :: .int x :: st) := fun ls hls => lv_imul C.1 C.2.1 hd (by rw [hp]; exact kk ls hls)
theorem g_iand {x y : Int32} (C : gOk Γ cc nL own) (q : Nat) (hp : pc + 1 = q) (hd : decode cc pc = .ok (.iand, 1)) (kk : g Γ R nL H L k n q lv (.int (x &&& y) :: st)) : g Γ R nL H L k n pc lv (.int y :: .int x :: st) := fun ls hls => lv_iand C.1 C.2.1 hd (by rw [hp]; exact kk ls hls)
theorem g_ior {x y : Int32} (C : gOk Γ cc nL own) (q : Nat) (hp : pc + 1 = q) (hd : decode cc pc = .ok (.ior, 1)) (kk : g Γ R nL H L k n q lv (.int (x ||| y) :: st)) : g Γ R nL H L k n pc lv (.int y :: .int x :: st) := fun ls hls => lv_ior C.1 C.2.1 hd (by rw [hp]; exact kk ls hls)
theorem g_ixor {x y : Int32} (C : gOk Γ cc nL own) (q : Nat) (hp : pc + 1 = q) (hd : decode cc pc = .ok (.ixor, 1)) (kk : g Γ R nL H L k n q lv (.int (x ^^^ y) :: st)) : g Γ R nL H L k n pc lv (.int y :: .int x :: st) := fun ls hls => lv_ixor C.1 C.2.1 hd (by rw [hp]; exact kk ls hls)
theorem g_ishl {x y : Int32} (C : gOk Γ cc nL own) (q : Nat) (hp : pc + 1 = q) (hd : decode cc pc = .ok (.ishl, 1)) (kk : g Γ R nL H L k n q lv (.int (x <<< (y &&& 31)) :: st)) : g Γ R nL H L k n pc lv (.int y :: .int x :: st) := fun ls hls => lv_ishl C.1 C.2.1 hd (by rw [hp]; exact kk ls hls)
theorem g_ishr {x y : Int32} (C : gOk Γ cc nL own) (q : Nat) (hp : pc + 1 = q) (hd : decode cc pc = .ok (.ishr, 1)) (kk : g Γ R nL H L k n q lv (.int (x >>> (y &&& 31)) :: st)) : g Γ R nL H L k n pc lv (.int y :: .int x :: st) := fun ls hls => lv_ishr C.1 C.2.1 hd (by rw [hp]; exact kk ls hls)
theorem g_iushr {x y : Int32} (C : gOk Γ cc nL own) (q : Nat) (hp : pc + 1 = q) (hd : decode cc pc = .ok (.iushr, 1)) (kk : g Γ R nL H L k n q lv (.int (x.toUInt32 >>> (y.toUInt32 &&& Int32.toUInt32 31)).toInt32 :: st)) : g Γ R nL H L k n pc lv (.int y :: .int x :: st) := fun ls hls => lv_iushr C.1 C.2.1 hd rfl (by rw [hp]; exact kk ls hls)
theorem g_idiv {x y : Int32} (C : gOk Γ cc nL own) (q : Nat) (hp : pc + 1 = q) (hd : decode cc pc = .ok (.idiv, 1)) (hne : ¬ y = 0) (kk : g Γ R nL H L k n q lv (.int (x / y) :: st)) : g Γ R nL H L k n pc lv (.int y :: .int x :: st) := fun ls hls => lv_idiv C.1 C.2.1 hd hne (by rw [hp]; exact kk ls hls)
theorem g_irem {x y : Int32} (C : gOk Γ cc nL own) (q : Nat) (hp : pc + 1 = q) (hd : decode cc pc = .ok (.irem, 1)) (hne : ¬ y = 0) (kk : g Γ R nL H L k n q lv (.int (jrem x y) :: st)) : g Γ R nL H L k n pc lv (.int y :: .int x :: st) := fun ls hls => lv_irem C.1 C.2.1 hd hne (by rw [hp]; exact kk ls hls)
theorem g_ineg {x : Int32} (C : gOk Γ cc nL own) (q : Nat) (hp : pc + 1 = q) (hd : decode cc pc = .ok (.ineg, 1)) (kk : g Γ R nL H L k n q lv (.int (-x) :: st)) : g Γ R nL H L k n pc lv (.int x :: st) := fun ls hls => lv_ineg C.1 C.2.1 hd (by rw [hp]; exact kk ls hls)
theorem g_ladd {x y : Int64} (C : gOk Γ cc nL own) (q : Nat) (hp : pc + 1 = q) (hd : decode cc pc = .ok (.ladd, 1)) (kk : g Γ R nL H L k n q lv (.long (x + y) :: st)) : g Γ R nL H L k n pc lv (.long y :: .long x :: st) := fun ls hls => lv_ladd C.1 C.2.1 hd (by rw [hp]; exact kk ls hls)
theorem g_lsub {x y : Int64} (C : gOk Γ cc nL own) (q : Nat) (hp : pc + 1 = q) (hd : decode cc pc = .ok (.lsub, 1)) (kk : g Γ R nL H L k n q lv (.long (x - y) :: st)) : g Γ R nL H L k n pc lv (.long y :: .long x :: st) := fun ls hls => lv_lsub C.1 C.2.1 hd (by rw [hp]; exact kk ls hls)
theorem g_lmul {x y : Int64} (C : gOk Γ cc nL own) (q : Nat) (hp : pc + 1 = q) (hd : decode cc pc = .ok (.lmul, 1)) (kk : g Γ R nL H L k n q lv (.long (x * y) :: st)) : g Γ R nL H L k n pc lv (.long y :: .long x :: st) := fun ls hls => lv_lmul C.1 C.2.1 hd (by rw [hp]; exact kk ls hls)
theorem g_ldiv {x y : Int64} (C : gOk Γ cc nL own) (q : Nat) (hp : pc + 1 = q) (hd : decode cc pc = .ok (.ldiv, 1)) (hne : ¬ y = 0) (kk : g Γ R nL H L k n q lv (.long (x / y) :: st)) : g Γ R nL H L k n pc lv (.long y :: .long x :: st) := fun ls hls => lv_ldiv C.1 C.2.1 hd hne (by rw [hp]; exact kk ls hls)
theorem g_lrem {x y : Int64} (C : gOk Γ cc nL own) (q : Nat) (hp : pc + 1 = q) (hd : decode cc pc = .ok (.lrem, 1)) (hne : ¬ y = 0) (kk : g Γ R nL H L k n q lv (.long (jreml x y) :: st)) : g Γ R nL H L k n pc lv (.long y :: .long x :: st) := fun ls hls => lv_lrem C.1 C.2.1 hd hne (by rw [hp]; exact kk ls hls)
theorem g_lcmp {x y : Int64} (C : gOk Γ cc nL own) (q : Nat) (hp : pc + 1 = q) (hd : decode cc pc = .ok (.lcmp, 1)) (kk : g Γ R nL H L k n q lv (.int (lg_cmp x y) :: st)) : g Γ R nL H L k n pc lv (.long y :: .long x :: st) := fun ls hls => W.lcmp C.1 C.2.1 hd (by rw [hp]; exact kk ls hls)
theorem g_i2l {x : Int32} (C : gOk Γ cc nL own) (q : Nat) (hp : pc + 1 = q) (hd : decode cc pc = .ok (.i2l, 1)) (kk : g Γ R nL H L k n q lv (.long x.toInt64 :: st)) : g Γ R nL H L k n pc lv (.int x :: st) := fun ls hls => lv_i2l C.1 C.2.1 hd rfl (by rw [hp]; exact kk ls hls)
theorem g_l2i {x : Int64} (C : gOk Γ cc nL own) (q : Nat) (hp : pc + 1 = q) (hd : decode cc pc = .ok (.l2i, 1)) (kk : g Γ R nL H L k n q lv (.int x.toInt32 :: st)) : g Γ R nL H L k n pc lv (.long x :: st) := fun ls hls => lv_l2i C.1 C.2.1 hd rfl (by rw [hp]; exact kk ls hls)
theorem g_dup {v : Value} (C : gOk Γ cc nL own) (q : Nat) (hp : pc + 1 = q) (hd : decode cc pc = .ok (.dup, 1)) (hv : v.category = 1) (kk : g Γ R nL H L k n q lv (v :: v :: st)) : g Γ R nL H L k n pc lv (v :: st) := fun ls hls => lv_dup C.1 C.2.1 hd hv (by rw [hp]; exact kk ls hls)
theorem g_dup2 {v w : Value} (C : gOk Γ cc nL own) (q : Nat) (hp : pc + 1 = q) (hd : decode cc pc = .ok (.dup2, 1)) (hv : v.category = 1) (hw : w.category = 1) (kk : g Γ R nL H L k n q lv (v :: w :: v :: w :: st)) : g Γ R nL H L k n pc lv (v :: w :: st) := fun ls hls => lv_dup2_11 C.1 C.2.1 hd hv hw (by rw [hp]; exact kk ls hls)
theorem g_pop {v : Value} (C : gOk Γ cc nL own) (q : Nat) (hp : pc + 1 = q) (hd : decode cc pc = .ok (.pop, 1)) (hv : v.category = 1) (kk : g Γ R nL H L k n q lv st) : g Γ R nL H L k n pc lv (v :: st) := fun ls hls => lv_pop C.1 C.2.1 hd hv (by rw [hp]; exact kk ls hls)
theorem g_goto {off : Int} (C : gOk Γ cc nL own) (q : Nat) (hd : decode cc pc = .ok (.goto off, 3)) (ht : (pc : Int) + off = (q : Int)) (kk : g Γ R nL H L k n q lv st) : g Γ R nL H L k n pc lv st := fun ls hls => lv_goto C.1 C.2.1 hd ht (kk ls hls)
theorem g_istore {i : Nat} {x : Int32} (lv2 : List (Nat × Value)) (C : gOk Γ cc nL own) (q : Nat) (hp : pc + 2 = q) (hd : decode cc pc = .ok (.istore i, 2)) (hn : i < nL) (hl : (i, Value.int x) :: lv.filter (fun q => !(q.1 == i) && !(q.1 + 1 == i && q.2.category == 2)) = lv2) (kk : g Γ R nL H L k n q lv2 st) : g Γ R nL H L k n pc lv (.int x :: st) := fun ls hls => lv_istore C.1 C.2.1 hd hls hn hl (fun ls2 hls2 => by rw [hp]; exact kk ls2 hls2)
theorem g_istore_n {i : Fin 4} {x : Int32} (lv2 : List (Nat × Value)) (C : gOk Γ cc nL own) (q : Nat) (hp : pc + 1 = q) (hd : decode cc pc = .ok (.istore_n i, 1)) (hn : (i : Nat) < nL) (hl : ((i : Nat), Value.int x) :: lv.filter (fun q => !(q.1 == (i : Nat)) && !(q.1 + 1 == (i : Nat) && q.2.category == 2)) = lv2) (kk : g Γ R nL H L k n q lv2 st) : g Γ R nL H L k n pc lv (.int x :: st) := fun ls hls => lv_istore_n C.1 C.2.1 hd rfl hls hn hl (fun ls2 hls2 => by rw [hp]; exact kk ls2 hls2)
theorem g_lstore {i : Nat} {x : Int64} (lv2 : List (Nat × Value)) (C : gOk Γ cc nL own) (q : Nat) (hp : pc + 2 = q) (hd : decode cc pc = .ok (.lstore i, 2)) (hn : i + 1 < nL) (hl : (i, Value.long x) :: lv.filter (fun q => !(q.1 == i) && (!(q.1 == i + 1) && !(q.1 + 1 == i && q.2.category == 2))) = lv2) (kk : g Γ R nL H L k n q lv2 st) : g Γ R nL H L k n pc lv (.long x :: st) := fun ls hls => lv_lstore C.1 C.2.1 hd hls hn hl (fun ls2 hls2 => by rw [hp]; exact kk ls2 hls2)
theorem g_lstore_n {i : Fin 4} {x : Int64} (lv2 : List (Nat × Value)) (C : gOk Γ cc nL own) (q : Nat) (hp : pc + 1 = q) (hd : decode cc pc = .ok (.lstore_n i, 1)) (hn : (i : Nat) + 1 < nL) (hl : ((i : Nat), Value.long x) :: lv.filter (fun q => !(q.1 == (i : Nat)) && (!(q.1 == (i : Nat) + 1) && !(q.1 + 1 == (i : Nat) && q.2.category == 2))) = lv2) (kk : g Γ R nL H L k n q lv2 st) : g Γ R nL H L k n pc lv (.long x :: st) := fun ls hls => lv_lstore_n C.1 C.2.1 hd rfl hls hn hl (fun ls2 hls2 => by rw [hp]; exact kk ls2 hls2)
theorem g_astore_n {i : Fin 4} {x : Nat} (lv2 : List (Nat × Value)) (C : gOk Γ cc nL own) (q : Nat) (hp : pc + 1 = q) (hd : decode cc pc = .ok (.astore_n i, 1)) (hn : (i : Nat) < nL) (hl : ((i : Nat), Value.ref x) :: lv.filter (fun q => !(q.1 == (i : Nat)) && !(q.1 + 1 == (i : Nat) && q.2.category == 2)) = lv2) (kk : g Γ R nL H L k n q lv2 st) : g Γ R nL H L k n pc lv (.ref x :: st) := fun ls hls => lv_astore_n C.1 C.2.1 hd rfl hls hn hl (fun ls2 hls2 => by rw [hp]; exact kk ls2 hls2)
theorem g_iinc {i : Nat} {d : Int} {x : Int32} (v : Int32) (lv2 : List (Nat × Value)) (C : gOk Γ cc nL own) (q : Nat) (hp : pc + 3 = q) (hd : decode cc pc = .ok (.iinc i d, 3)) (j : Nat) (hk : lv[j]? = some (i, .int x)) (hv : x + Int32.ofInt d = v) (hn : i < nL) (hl : (i, Value.int v) :: lv.filter (fun q => !(q.1 == i) && !(q.1 + 1 == i && q.2.category == 2)) = lv2) (kk : g Γ R nL H L k n q lv2 st) : g Γ R nL H L k n pc lv st := fun ls hls => lv_iinc C.1 C.2.1 hd hls (k := j) hk hv hn hl (fun ls2 hls2 => by rw [hp]; exact kk ls2 hls2)
theorem s_if_eq {x : Int32} {α : Type} {u v : Option α} {r : Option α} {off : Int} (C : gOk Γ cc nL own) (qt qf : Nat) (hp : pc + 3 = qf) (hd : decode cc pc = .ok (.ifCond .eq off, 3)) (ht : (pc : Int) + off = (qt : Int)) (hq : (if x = 0 then u else v) = r) (kt : u = r → g Γ R nL H L k n qt lv st) (kf : v = r → g Γ R nL H L k n qf lv st) : g Γ R nL H L k n pc lv (.int x :: st) := fun ls hls => lv_if_eq C.1 C.2.1 hd ht (fun c => kt (by rw [if_pos c] at hq; exact hq) ls hls) (fun c => by rw [hp]; exact kf (by rw [if_neg c] at hq; exact hq) ls hls)
theorem s_icmp_eq {x y : Int32} {α : Type} {u v : Option α} {r : Option α} {off : Int} (C : gOk Γ cc nL own) (qt qf : Nat) (hp : pc + 3 = qf) (hd : decode cc pc = .ok (.if_icmp .eq off, 3)) (ht : (pc : Int) + off = (qt : Int)) (hq : (if x = y then u else v) = r) (kt : u = r → g Γ R nL H L k n qt lv st) (kf : v = r → g Γ R nL H L k n qf lv st) : g Γ R nL H L k n pc lv (.int y :: .int x :: st) := fun ls hls => lv_icmp_eq C.1 C.2.1 hd ht (fun c => kt (by rw [if_pos c] at hq; exact hq) ls hls) (fun c => by rw [hp]; exact kf (by rw [if_neg c] at hq; exact hq) ls hls)
theorem s_if_ne {x : Int32} {α : Type} {u v : Option α} {r : Option α} {off : Int} (C : gOk Γ cc nL own) (qt qf : Nat) (hp : pc + 3 = qf) (hd : decode cc pc = .ok (.ifCond .ne off, 3)) (ht : (pc : Int) + off = (qt : Int)) (hq : (if x = 0 then u else v) = r) (kt : v = r → g Γ R nL H L k n qt lv st) (kf : u = r → g Γ R nL H L k n qf lv st) : g Γ R nL H L k n pc lv (.int x :: st) := fun ls hls => lv_if_ne C.1 C.2.1 hd ht (fun c => kt (by rw [if_neg c] at hq; exact hq) ls hls) (fun c => by rw [hp]; exact kf (by rw [if_pos c] at hq; exact hq) ls hls)
theorem s_icmp_ne {x y : Int32} {α : Type} {u v : Option α} {r : Option α} {off : Int} (C : gOk Γ cc nL own) (qt qf : Nat) (hp : pc + 3 = qf) (hd : decode cc pc = .ok (.if_icmp .ne off, 3)) (ht : (pc : Int) + off = (qt : Int)) (hq : (if x = y then u else v) = r) (kt : v = r → g Γ R nL H L k n qt lv st) (kf : u = r → g Γ R nL H L k n qf lv st) : g Γ R nL H L k n pc lv (.int y :: .int x :: st) := fun ls hls => lv_icmp_ne C.1 C.2.1 hd ht (fun c => kt (by rw [if_neg c] at hq; exact hq) ls hls) (fun c => by rw [hp]; exact kf (by rw [if_pos c] at hq; exact hq) ls hls)
theorem s_if_lt {x : Int32} {α : Type} {u v : Option α} {r : Option α} {off : Int} (C : gOk Γ cc nL own) (qt qf : Nat) (hp : pc + 3 = qf) (hd : decode cc pc = .ok (.ifCond .lt off, 3)) (ht : (pc : Int) + off = (qt : Int)) (hq : (if x < 0 then u else v) = r) (kt : u = r → g Γ R nL H L k n qt lv st) (kf : v = r → g Γ R nL H L k n qf lv st) : g Γ R nL H L k n pc lv (.int x :: st) := fun ls hls => lv_if_lt C.1 C.2.1 hd ht (fun c => kt (by rw [if_pos c] at hq; exact hq) ls hls) (fun c => by rw [hp]; exact kf (by rw [if_neg c] at hq; exact hq) ls hls)
theorem s_icmp_lt {x y : Int32} {α : Type} {u v : Option α} {r : Option α} {off : Int} (C : gOk Γ cc nL own) (qt qf : Nat) (hp : pc + 3 = qf) (hd : decode cc pc = .ok (.if_icmp .lt off, 3)) (ht : (pc : Int) + off = (qt : Int)) (hq : (if x < y then u else v) = r) (kt : u = r → g Γ R nL H L k n qt lv st) (kf : v = r → g Γ R nL H L k n qf lv st) : g Γ R nL H L k n pc lv (.int y :: .int x :: st) := fun ls hls => lv_icmp_lt C.1 C.2.1 hd ht (fun c => kt (by rw [if_pos c] at hq; exact hq) ls hls) (fun c => by rw [hp]; exact kf (by rw [if_neg c] at hq; exact hq) ls hls)
theorem s_if_ge {x : Int32} {α : Type} {u v : Option α} {r : Option α} {off : Int} (C : gOk Γ cc nL own) (qt qf : Nat) (hp : pc + 3 = qf) (hd : decode cc pc = .ok (.ifCond .ge off, 3)) (ht : (pc : Int) + off = (qt : Int)) (hq : (if 0 ≤ x then u else v) = r) (kt : u = r → g Γ R nL H L k n qt lv st) (kf : v = r → g Γ R nL H L k n qf lv st) : g Γ R nL H L k n pc lv (.int x :: st) := fun ls hls => lv_if_ge C.1 C.2.1 hd ht (fun c => kt (by rw [if_pos c] at hq; exact hq) ls hls) (fun c => by rw [hp]; exact kf (by rw [if_neg c] at hq; exact hq) ls hls)
theorem s_icmp_ge {x y : Int32} {α : Type} {u v : Option α} {r : Option α} {off : Int} (C : gOk Γ cc nL own) (qt qf : Nat) (hp : pc + 3 = qf) (hd : decode cc pc = .ok (.if_icmp .ge off, 3)) (ht : (pc : Int) + off = (qt : Int)) (hq : (if y ≤ x then u else v) = r) (kt : u = r → g Γ R nL H L k n qt lv st) (kf : v = r → g Γ R nL H L k n qf lv st) : g Γ R nL H L k n pc lv (.int y :: .int x :: st) := fun ls hls => lv_icmp_ge C.1 C.2.1 hd ht (fun c => kt (by rw [if_pos c] at hq; exact hq) ls hls) (fun c => by rw [hp]; exact kf (by rw [if_neg c] at hq; exact hq) ls hls)
theorem s_if_gt {x : Int32} {α : Type} {u v : Option α} {r : Option α} {off : Int} (C : gOk Γ cc nL own) (qt qf : Nat) (hp : pc + 3 = qf) (hd : decode cc pc = .ok (.ifCond .gt off, 3)) (ht : (pc : Int) + off = (qt : Int)) (hq : (if 0 < x then u else v) = r) (kt : u = r → g Γ R nL H L k n qt lv st) (kf : v = r → g Γ R nL H L k n qf lv st) : g Γ R nL H L k n pc lv (.int x :: st) := fun ls hls => lv_if_gt C.1 C.2.1 hd ht (fun c => kt (by rw [if_pos c] at hq; exact hq) ls hls) (fun c => by rw [hp]; exact kf (by rw [if_neg c] at hq; exact hq) ls hls)
theorem s_icmp_gt {x y : Int32} {α : Type} {u v : Option α} {r : Option α} {off : Int} (C : gOk Γ cc nL own) (qt qf : Nat) (hp : pc + 3 = qf) (hd : decode cc pc = .ok (.if_icmp .gt off, 3)) (ht : (pc : Int) + off = (qt : Int)) (hq : (if y < x then u else v) = r) (kt : u = r → g Γ R nL H L k n qt lv st) (kf : v = r → g Γ R nL H L k n qf lv st) : g Γ R nL H L k n pc lv (.int y :: .int x :: st) := fun ls hls => lv_icmp_gt C.1 C.2.1 hd ht (fun c => kt (by rw [if_pos c] at hq; exact hq) ls hls) (fun c => by rw [hp]; exact kf (by rw [if_neg c] at hq; exact hq) ls hls)
theorem s_if_le {x : Int32} {α : Type} {u v : Option α} {r : Option α} {off : Int} (C : gOk Γ cc nL own) (qt qf : Nat) (hp : pc + 3 = qf) (hd : decode cc pc = .ok (.ifCond .le off, 3)) (ht : (pc : Int) + off = (qt : Int)) (hq : (if x ≤ 0 then u else v) = r) (kt : u = r → g Γ R nL H L k n qt lv st) (kf : v = r → g Γ R nL H L k n qf lv st) : g Γ R nL H L k n pc lv (.int x :: st) := fun ls hls => lv_if_le C.1 C.2.1 hd ht (fun c => kt (by rw [if_pos c] at hq; exact hq) ls hls) (fun c => by rw [hp]; exact kf (by rw [if_neg c] at hq; exact hq) ls hls)
theorem s_icmp_le {x y : Int32} {α : Type} {u v : Option α} {r : Option α} {off : Int} (C : gOk Γ cc nL own) (qt qf : Nat) (hp : pc + 3 = qf) (hd : decode cc pc = .ok (.if_icmp .le off, 3)) (ht : (pc : Int) + off = (qt : Int)) (hq : (if x ≤ y then u else v) = r) (kt : u = r → g Γ R nL H L k n qt lv st) (kf : v = r → g Γ R nL H L k n qf lv st) : g Γ R nL H L k n pc lv (.int y :: .int x :: st) := fun ls hls => lv_icmp_le C.1 C.2.1 hd ht (fun c => kt (by rw [if_pos c] at hq; exact hq) ls hls) (fun c => by rw [hp]; exact kf (by rw [if_neg c] at hq; exact hq) ls hls)
theorem g_tblOut {dflt lo hi : Int} {offs : Array Int} {len : Nat} {x : Int32} (C : gOk Γ cc nL own) (q : Nat) (hd : decode cc pc = .ok (.tableswitch dflt lo hi offs, len)) (h : x.toInt < lo ∨ hi < x.toInt) (ht : (pc : Int) + dflt = (q : Int)) (kk : g Γ R nL H L k n q lv st) : g Γ R nL H L k n pc lv (.int x :: st) := fun ls hls => lv_tableOut C.1 C.2.1 hd h ht (kk ls hls)
theorem g_tblIn {dflt lo hi : Int} {offs : Array Int} {len : Nat} {x : Int32} {off : Int} (C : gOk Γ cc nL own) (q : Nat) (hd : decode cc pc = .ok (.tableswitch dflt lo hi offs, len)) (h1 : ¬ x.toInt < lo) (h2 : ¬ hi < x.toInt) (ho : offs[(x.toInt - lo).toNat]? = some off) (ht : (pc : Int) + off = (q : Int)) (kk : g Γ R nL H L k n q lv st) : g Γ R nL H L k n pc lv (.int x :: st) := fun ls hls => lv_tableIn C.1 C.2.1 hd h1 h2 ho ht (kk ls hls)
theorem g_lkp {dflt : Int} {ps : Array (Int × Int)} {len : Nat} {x : Int32} {off : Int} (C : gOk Γ cc nL own) (q : Nat) (hd : decode cc pc = .ok (.lookupswitch dflt ps, len)) (hp : (ps.toList.zip (ps.toList.drop 1)).all (fun (a, next) => a.1 < next.1) = true) (ho : Op.lookupswitch.offset ps.toList dflt x.toInt = off) (ht : (pc : Int) + off = (q : Int)) (kk : g Γ R nL H L k n q lv st) : g Γ R nL H L k n pc lv (.int x :: st) := fun ls hls => lv_lookup C.1 C.2.1 hd hp ho ht (kk ls hls)
/-- checked array reads and divisions in the pure functions -/
def ck {α : Type} (n : Nat) (i : Int32) (x : Option α) : Option α := if i < 0 ∨ n ≤ i.toNatClampNeg then none else x
def dz {α : Type} (y : Int32) (x : Option α) : Option α := if y = 0 then none else x
def dzl {α : Type} (y : Int64) (x : Option α) : Option α := if y = 0 then none else x
theorem ck_some {α : Type} {n : Nat} {i : Int32} {x : Option α} {r : α} (h : ck n i x = some r) : vp_in i n ∧ x = some r := by
  unfold ck at h
  by_cases c : i < 0 ∨ n ≤ i.toNatClampNeg
  · rw [if_pos c] at h; cases h
  · rw [if_neg c] at h; exact ⟨c, h⟩
theorem ck_in {α : Type} {n : Nat} {i : Int32} {x : Option α} (h : vp_in i n) : ck n i x = x := if_neg h
theorem dz_some {α : Type} {y : Int32} {x : Option α} {r : α} (h : dz y x = some r) : (¬ y = 0) ∧ x = some r := by
  unfold dz at h
  by_cases c : y = 0
  · rw [if_pos c] at h; cases h
  · rw [if_neg c] at h; exact ⟨c, h⟩
theorem dzl_some {α : Type} {y : Int64} {x : Option α} {r : α} (h : dzl y x = some r) : (¬ y = 0) ∧ x = some r := by
  unfold dzl at h
  by_cases c : y = 0
  · rw [if_pos c] at h; cases h
  · rw [if_neg c] at h; exact ⟨c, h⟩
theorem g_get {Δ : gD} {ref C0 : String} {T : u_T} {N ci idx : Nat} {ws : va_W} {a : Nat} {v : Value} (C : gOk Γ cc nL own) (q : Nat) (hp : pc + 3 = q) (hd : decode cc pc = .ok (.getfield idx, 3)) (hK : KD Δ (sOf Γ)) (hP : va_P Δ.1 classes ws H) (hin : ∀ w ∈ u_ws C0 T N, w ∈ AW) (q0 kf : Nat) (hk : kf < N) (hl : Cond.fieldLink own idx ref (T kf).2.1 (T kf).2.2.1 ∈ AW) (href : (T kf).1 = ref) {fs : List Value} (he : ws[q0]? = some (a, .inr (ci, fs))) (hc : classes[ci]? = some (C0, T, N)) (hv : fs[kf]? = some v) (kk : g Γ R nL H L k n q lv (v :: st)) : g Γ R nL H L k n pc lv (.ref a :: st) := fun ls hls => va_get C.1 C.2.1 C.2.2.2.2 hin C.2.2.2.1 hK.1 hP q0 he hc kf hk (C.2.2.2.2 _ hl) (fun _ h9 => by rw [← href]; exact h9) hv hd (by rw [hp]; exact kk ls hls)
theorem g_put {Δ : gD} {ref C0 : String} {T : u_T} {N ci idx : Nat} {A : Nat → Prop} {ws : va_W} {a : Nat} {v : Value} (ws2 : va_W) (C : gOk Γ cc nL own) (q : Nat) (hp : pc + 3 = q) (hd : decode cc pc = .ok (.putfield idx, 3)) (hK : KD Δ (sOf Γ)) (hP : va_P Δ.1 classes ws H) (hD : va_D A ws) (hS : va_S A (sOf Γ).heap H L) (hin : ∀ w ∈ u_ws C0 T N, w ∈ AW) {ty0 : Nat → FieldType} (hty : ∀ k, k < N → parseFieldDescriptor (T k).2.2.1 = some (ty0 k)) (hnm : ∀ a, a < N → ∀ b, b < N → a ≠ b → (T a).2.1 ≠ (T b).2.1) (q0 kf : Nat) (hk : kf < N) (hl : Cond.fieldLink own idx ref (T kf).2.1 (T kf).2.2.1 ∈ AW) (href : (T kf).1 = ref) {fs : List Value} (he : ws[q0]? = some (a, .inr (ci, fs))) (hc : classes[ci]? = some (C0, T, N)) (hfin : (T kf).2.2.2 = false) (hn : narrow (ty0 kf) v = v) (hfit : fits (ty0 kf) v = true) (hlen : kf < fs.length) (hw : ws.set q0 (a, .inr (ci, fs.set kf v)) = ws2)
    (kk : ∀ (H : Heap) (L : List Loc), va_P Δ.1 classes ws2 H → va_D A ws2 → va_S A (sOf Γ).heap H L → g Γ R nL H L k n q lv st) : g Γ R nL H L k n pc lv (v :: .ref a :: st) := fun ls hls => va_put C.1 C.2.1 C.2.2.2.2 hin ty0 hty hnm C.2.2.2.1 hK.1 hP hD hS q0 he hc kf hk (C.2.2.2.2 _ hl) (fun _ h9 => by rw [← href]; exact h9) hfin (hty kf hk) hn hfit hlen hd (fun H1 L1 hP1 hD1 hS1 => by rw [hp]; exact kk H1 L1 (hw ▸ hP1) (hw ▸ hD1) hS1 ls hls)
theorem s_iald {Δ : gD} {ws : va_W} {a N : Nat} {f : Nat → Int32} {i : Int32} {α : Type} {u : Option α} {r : α} (C : gOk Γ cc nL own) (q : Nat) (hp : pc + 1 = q) (hd : decode cc pc = .ok (.iaload, 1)) (hK : KD Δ (sOf Γ)) (hP : va_P Δ.1 classes ws H) (q0 : Nat) (ha : ws[q0]? = some (a, .inl (Δ.2.1, N, .inl f))) (hq : ck N i u = some r) (kk : u = some r → vp_in i N → g Γ R nL H L k n q lv (.int (f i.toNatClampNeg) :: st)) : g Γ R nL H L k n pc lv (.int i :: .ref a :: st) := fun ls hls => va_iald C.1 C.2.1 hK.1 hP q0 0 ha rfl (ck_some hq).1 hd (by rw [hp]; exact kk (ck_some hq).2 (ck_some hq).1 ls hls)
theorem s_lald {Δ : gD} {ws : va_W} {a N : Nat} {f : Nat → Int64} {i : Int32} {α : Type} {u : Option α} {r : α} (C : gOk Γ cc nL own) (q : Nat) (hp : pc + 1 = q) (hd : decode cc pc = .ok (.laload, 1)) (hK : KD Δ (sOf Γ)) (hP : va_P Δ.1 classes ws H) (q0 : Nat) (ha : ws[q0]? = some (a, .inl (Δ.2.2.1, N, .inr (.inl f)))) (hq : ck N i u = some r) (kk : u = some r → vp_in i N → g Γ R nL H L k n q lv (.long (f i.toNatClampNeg) :: st)) : g Γ R nL H L k n pc lv (.int i :: .ref a :: st) := fun ls hls => va_lald C.1 C.2.1 hK.1 hP q0 1 ha rfl (ck_some hq).1 hd (by rw [hp]; exact kk (ck_some hq).2 (ck_some hq).1 ls hls)
theorem s_zald {Δ : gD} {ws : va_W} {a N : Nat} {f : Nat → Int32} {i : Int32} {α : Type} {u : Option α} {r : α} (C : gOk Γ cc nL own) (q : Nat) (hp : pc + 1 = q) (hd : decode cc pc = .ok (.baload, 1)) (hK : KD Δ (sOf Γ)) (hP : va_P Δ.1 classes ws H) (q0 : Nat) (ha : ws[q0]? = some (a, .inl (Δ.2.2.2.1, N, .inl f))) (hq : ck N i u = some r) (kk : u = some r → vp_in i N → g Γ R nL H L k n q lv (.int (f i.toNatClampNeg) :: st)) : g Γ R nL H L k n pc lv (.int i :: .ref a :: st) := fun ls hls => va_zald C.1 C.2.1 hK.1 hP q0 2 ha rfl (ck_some hq).1 hd (by rw [hp]; exact kk (ck_some hq).2 (ck_some hq).1 ls hls)
/-- an array read over again at a place that is known -/
theorem g_iald {Δ : gD} {ws : va_W} {a N : Nat} {f : Nat → Int32} {i : Int32} (C : gOk Γ cc nL own) (q : Nat) (hp : pc + 1 = q) (hd : decode cc pc = .ok (.iaload, 1)) (hK : KD Δ (sOf Γ)) (hP : va_P Δ.1 classes ws H) (q0 : Nat) (ha : ws[q0]? = some (a, .inl (Δ.2.1, N, .inl f))) (hi : vp_in i N) (kk : g Γ R nL H L k n q lv (.int (f i.toNatClampNeg) :: st)) : g Γ R nL H L k n pc lv (.int i :: .ref a :: st) := fun ls hls => va_iald C.1 C.2.1 hK.1 hP q0 0 ha rfl hi hd (by rw [hp]; exact kk ls hls)
theorem s_iast {Δ : gD} {A : Nat → Prop} {ws : va_W} {a N : Nat} {f : Nat → Int32} {i x : Int32} {α : Type} {u : Option α} {r : α} (ws2 : va_W) (C : gOk Γ cc nL own) (q : Nat) (hp : pc + 1 = q) (hd : decode cc pc = .ok (.iastore, 1)) (hK : KD Δ (sOf Γ)) (hP : va_P Δ.1 classes ws H) (hD : va_D A ws) (hS : va_S A (sOf Γ).heap H L) (q0 : Nat) (ha : ws[q0]? = some (a, .inl (Δ.2.1, N, .inl f))) (hq : ck N i u = some r) (hw : ws.set q0 (a, .inl (Δ.2.1, N, .inl (upd f i.toNatClampNeg x))) = ws2) (kk : u = some r → vp_in i N → ∀ (H : Heap) (L : List Loc), va_P Δ.1 classes ws2 H → va_D A ws2 → va_S A (sOf Γ).heap H L → g Γ R nL H L k n q lv st) : g Γ R nL H L k n pc lv (.int x :: .int i :: .ref a :: st) := fun ls hls => va_iast C.1 C.2.1 hK.1 hP hD hS q0 0 ha rfl (ck_some hq).1 hd (fun H1 L1 hP1 hD1 hS1 => by rw [hp]; exact kk (ck_some hq).2 (ck_some hq).1 H1 L1 (hw ▸ hP1) (hw ▸ hD1) hS1 ls hls)
theorem g_iast {Δ : gD} {A : Nat → Prop} {ws : va_W} {a N : Nat} {f : Nat → Int32} {i x : Int32} (ws2 : va_W) (C : gOk Γ cc nL own) (q : Nat) (hp : pc + 1 = q) (hd : decode cc pc = .ok (.iastore, 1)) (hK : KD Δ (sOf Γ)) (hP : va_P Δ.1 classes ws H) (hD : va_D A ws) (hS : va_S A (sOf Γ).heap H L) (q0 : Nat) (ha : ws[q0]? = some (a, .inl (Δ.2.1, N, .inl f))) (hi : vp_in i N) (hw : ws.set q0 (a, .inl (Δ.2.1, N, .inl (upd f i.toNatClampNeg x))) = ws2) (kk : ∀ (H : Heap) (L : List Loc), va_P Δ.1 classes ws2 H → va_D A ws2 → va_S A (sOf Γ).heap H L → g Γ R nL H L k n q lv st) : g Γ R nL H L k n pc lv (.int x :: .int i :: .ref a :: st) := fun ls hls => va_iast C.1 C.2.1 hK.1 hP hD hS q0 0 ha rfl hi hd (fun H1 L1 hP1 hD1 hS1 => by rw [hp]; exact kk H1 L1 (hw ▸ hP1) (hw ▸ hD1) hS1 ls hls)
theorem s_last {Δ : gD} {A : Nat → Prop} {ws : va_W} {a N : Nat} {f : Nat → Int64} {i : Int32} {x : Int64} {α : Type} {u : Option α} {r : α} (ws2 : va_W) (C : gOk Γ cc nL own) (q : Nat) (hp : pc + 1 = q) (hd : decode cc pc = .ok (.lastore, 1)) (hK : KD Δ (sOf Γ)) (hP : va_P Δ.1 classes ws H) (hD : va_D A ws) (hS : va_S A (sOf Γ).heap H L) (q0 : Nat) (ha : ws[q0]? = some (a, .inl (Δ.2.2.1, N, .inr (.inl f)))) (hq : ck N i u = some r) (hw : ws.set q0 (a, .inl (Δ.2.2.1, N, .inr (.inl (vp_updL f i.toNatClampNeg x)))) = ws2) (kk : u = some r → vp_in i N → ∀ (H : Heap) (L : List Loc), va_P Δ.1 classes ws2 H → va_D A ws2 → va_S A (sOf Γ).heap H L → g Γ R nL H L k n q lv st) : g Γ R nL H L k n pc lv (.long x :: .int i :: .ref a :: st) := fun ls hls => va_last C.1 C.2.1 hK.1 hP hD hS q0 1 ha rfl (ck_some hq).1 hd (fun H1 L1 hP1 hD1 hS1 => by rw [hp]; exact kk (ck_some hq).2 (ck_some hq).1 H1 L1 (hw ▸ hP1) (hw ▸ hD1) hS1 ls hls)
theorem g_last {Δ : gD} {A : Nat → Prop} {ws : va_W} {a N : Nat} {f : Nat → Int64} {i : Int32} {x : Int64} (ws2 : va_W) (C : gOk Γ cc nL own) (q : Nat) (hp : pc + 1 = q) (hd : decode cc pc = .ok (.lastore, 1)) (hK : KD Δ (sOf Γ)) (hP : va_P Δ.1 classes ws H) (hD : va_D A ws) (hS : va_S A (sOf Γ).heap H L) (q0 : Nat) (ha : ws[q0]? = some (a, .inl (Δ.2.2.1, N, .inr (.inl f)))) (hi : vp_in i N) (hw : ws.set q0 (a, .inl (Δ.2.2.1, N, .inr (.inl (vp_updL f i.toNatClampNeg x)))) = ws2) (kk : ∀ (H : Heap) (L : List Loc), va_P Δ.1 classes ws2 H → va_D A ws2 → va_S A (sOf Γ).heap H L → g Γ R nL H L k n q lv st) : g Γ R nL H L k n pc lv (.long x :: .int i :: .ref a :: st) := fun ls hls => va_last C.1 C.2.1 hK.1 hP hD hS q0 1 ha rfl hi hd (fun H1 L1 hP1 hD1 hS1 => by rw [hp]; exact kk H1 L1 (hw ▸ hP1) (hw ▸ hD1) hS1 ls hls)
theorem g_lald {Δ : gD} {ws : va_W} {a N : Nat} {f : Nat → Int64} {i : Int32} (C : gOk Γ cc nL own) (q : Nat) (hp : pc + 1 = q) (hd : decode cc pc = .ok (.laload, 1)) (hK : KD Δ (sOf Γ)) (hP : va_P Δ.1 classes ws H) (q0 : Nat) (ha : ws[q0]? = some (a, .inl (Δ.2.2.1, N, .inr (.inl f)))) (hi : vp_in i N) (kk : g Γ R nL H L k n q lv (.long (f i.toNatClampNeg) :: st)) : g Γ R nL H L k n pc lv (.int i :: .ref a :: st) := fun ls hls => va_lald C.1 C.2.1 hK.1 hP q0 1 ha rfl hi hd (by rw [hp]; exact kk ls hls)
theorem s_zast {Δ : gD} {A : Nat → Prop} {ws : va_W} {a N : Nat} {f : Nat → Int32} {i x : Int32} {α : Type} {u : Option α} {r : α} (ws2 : va_W) (C : gOk Γ cc nL own) (q : Nat) (hp : pc + 1 = q) (hd : decode cc pc = .ok (.bastore, 1)) (hK : KD Δ (sOf Γ)) (hP : va_P Δ.1 classes ws H) (hD : va_D A ws) (hS : va_S A (sOf Γ).heap H L) (q0 : Nat) (ha : ws[q0]? = some (a, .inl (Δ.2.2.2.1, N, .inl f))) (hq : ck N i u = some r) (hw : ws.set q0 (a, .inl (Δ.2.2.2.1, N, .inl (upd f i.toNatClampNeg (vp_nar .boolean x)))) = ws2) (kk : u = some r → vp_in i N → ∀ (H : Heap) (L : List Loc), va_P Δ.1 classes ws2 H → va_D A ws2 → va_S A (sOf Γ).heap H L → g Γ R nL H L k n q lv st) : g Γ R nL H L k n pc lv (.int x :: .int i :: .ref a :: st) := fun ls hls => va_zast C.1 C.2.1 hK.1 hP hD hS q0 2 ha rfl (ck_some hq).1 hd (fun H1 L1 hP1 hD1 hS1 => by rw [hp]; exact kk (ck_some hq).2 (ck_some hq).1 H1 L1 (hw ▸ hP1) (hw ▸ hD1) hS1 ls hls)
theorem g_mmax {x y : Int32} {idx : Nat} (C : gOk Γ cc nL own) (q : Nat) (hp : pc + 3 = q) (hd : decode cc pc = .ok (.invokestatic idx, 3)) (hl : Cond.methodLink own idx Lib.Math.max.name ∈ AW) (hw : Cond.static Lib.Math.max.name ∈ AW ∧ Cond.initialized "java/lang/Math" ∈ AW ∧ Cond.code Lib.Math.max.name Lib.Math.max.code 2 (some .int) ∈ AW) (hR : 1 ≤ R.frames ∧ (st.map fun v => v.category).sum + 13 ≤ R.locals) (hk : k ≤ R.cells ∧ n ≤ R.slots) (kk : g Γ R nL H L k n q lv (.int (jmax x y) :: st)) : g Γ R nL H L k n pc lv (.int y :: .int x :: st) := fun ls hls => va_mmax C.1 C.2.1 (C.2.2.1.trans hls.1.symm) C.2.2.2.1 (C.2.2.2.2 _ hl) (C.2.2.2.2 _ hw.1) (C.2.2.2.2 _ hw.2.1) (C.2.2.2.2 _ hw.2.2) hR.1 hR.2 hk.1 hk.2 hd (by rw [hp]; exact kk ls hls)
theorem g_mmin {x y : Int32} {idx : Nat} (C : gOk Γ cc nL own) (q : Nat) (hp : pc + 3 = q) (hd : decode cc pc = .ok (.invokestatic idx, 3)) (hl : Cond.methodLink own idx Lib.Math.min.name ∈ AW) (hw : Cond.static Lib.Math.min.name ∈ AW ∧ Cond.initialized "java/lang/Math" ∈ AW ∧ Cond.code Lib.Math.min.name Lib.Math.min.code 2 (some .int) ∈ AW) (hR : 1 ≤ R.frames ∧ (st.map fun v => v.category).sum + 13 ≤ R.locals) (hk : k ≤ R.cells ∧ n ≤ R.slots) (kk : g Γ R nL H L k n q lv (.int (jmin x y) :: st)) : g Γ R nL H L k n pc lv (.int y :: .int x :: st) := fun ls hls => va_mmin C.1 C.2.1 (C.2.2.1.trans hls.1.symm) C.2.2.2.1 (C.2.2.2.2 _ hl) (C.2.2.2.2 _ hw.1) (C.2.2.2.2 _ hw.2.1) (C.2.2.2.2 _ hw.2.2) hR.1 hR.2 hk.1 hk.2 hd (by rw [hp]; exact kk ls hls)
theorem g_mabs {x : Int32} {idx : Nat} (C : gOk Γ cc nL own) (q : Nat) (hp : pc + 3 = q) (hd : decode cc pc = .ok (.invokestatic idx, 3)) (hl : Cond.methodLink own idx Lib.Math.abs.name ∈ AW) (hw : Cond.static Lib.Math.abs.name ∈ AW ∧ Cond.initialized "java/lang/Math" ∈ AW ∧ Cond.code Lib.Math.abs.name Lib.Math.abs.code 1 (some .int) ∈ AW) (hR : 1 ≤ R.frames ∧ (st.map fun v => v.category).sum + 13 ≤ R.locals) (hk : k ≤ R.cells ∧ n ≤ R.slots) (kk : g Γ R nL H L k n q lv (.int (jabs x) :: st)) : g Γ R nL H L k n pc lv (.int x :: st) := fun ls hls => va_mabs C.1 C.2.1 (C.2.2.1.trans hls.1.symm) C.2.2.2.1 (C.2.2.2.2 _ hl) (C.2.2.2.2 _ hw.1) (C.2.2.2.2 _ hw.2.1) (C.2.2.2.2 _ hw.2.2) hR.1 hR.2 hk.1 hk.2 hd (by rw [hp]; exact kk ls hls)
theorem g_mmaxl {x y : Int64} {idx : Nat} (C : gOk Γ cc nL own) (q : Nat) (hp : pc + 3 = q) (hd : decode cc pc = .ok (.invokestatic idx, 3)) (hl : Cond.methodLink own idx Lib.MathLoose.max_long.x ∈ AW) (hw : Cond.static Lib.MathLoose.max_long.x ∈ AW ∧ Cond.initialized "java/lang/Math" ∈ AW ∧ Cond.code Lib.MathLoose.max_long.x Lib.MathLoose.max_long.code 4 (some .long) ∈ AW) (hR : 1 ≤ R.frames ∧ (st.map fun v => v.category).sum + 15 ≤ R.locals) (hk : k ≤ R.cells ∧ n ≤ R.slots) (kk : g Γ R nL H L k n q lv (.long (jmaxl x y) :: st)) : g Γ R nL H L k n pc lv (.long y :: .long x :: st) := fun ls hls => va_mmax_long C.1 C.2.1 (C.2.2.1.trans hls.1.symm) C.2.2.2.1 (C.2.2.2.2 _ hl) (C.2.2.2.2 _ hw.1) (C.2.2.2.2 _ hw.2.1) (C.2.2.2.2 _ hw.2.2) hR.1 hR.2 hk.1 hk.2 hd (by rw [hp]; exact kk ls hls)
end G
/-! contracts -/
def MRp (Δ : gD) (ws : va_W) (As : List Value) : Array Value → State → Prop := va_Pc As (fun U => va_P Δ.1 classes ws U.heap ∧ KD Δ U)
def MRq (v : Value) : Array Value → State → Outcome → State → Prop := fun _ st o t => o = .returned (some v) ∧ t.heap = st.heap
def MR (l : Launch) (y : MethodName) (b : ByteArray) (n : Nat) (ret : Option FieldType) (Δ : gD) (ws : va_W) (As : List Value) (f x : Nat) (v : Value) : Prop :=
  Met l y (.code y b n ret :: AW) { frames := f, cells := 0, slots := 0, locals := x } (MRp Δ ws As) (MRq v) 0 0 (fun _ => False)
def MWp (Δ : gD) (ws : va_W) (As : List Value) (sz : Nat) : Array Value → State → Prop := va_Pc As (fun U => U.heap.size = sz ∧ va_P Δ.1 classes ws U.heap ∧ KD Δ U ∧ va_D (fun _ => True) ws)
def MWq (Δ : gD) (ws : va_W) (v : Option Value) (ws2 : va_W) (sz : Nat) : Array Value → State → Outcome → State → Prop := fun _ st o t => (o = .returned v ∧ va_P Δ.1 classes ws2 t.heap) ∧ va_F (va_A ws sz) st t
def MW (l : Launch) (y : MethodName) (b : ByteArray) (n : Nat) (ret : Option FieldType) (Δ : gD) (ws : va_W) (As : List Value) (f x : Nat) (v : Option Value) (ws2 : va_W) : Prop :=
  ∀ sz : Nat, Met l y (.code y b n ret :: AW) { frames := f, cells := 0, slots := 0, locals := x } (MWp Δ ws As sz) (MWq Δ ws v ws2 sz) 0 0 (va_A ws sz)
theorem MRp.blind {Δ : gD} {ws : va_W} {As : List Value} : FrameBlind (MRp Δ ws As) := fun a U g mk q => by
  obtain ⟨q0, qP, qK⟩ := q
  exact ⟨q0, qP, qK.calling⟩
theorem MWp.blind {Δ : gD} {ws : va_W} {As : List Value} {sz : Nat} : FrameBlind (MWp Δ ws As sz) := fun a U g mk q => by
  obtain ⟨q0, q1, qP, qK, qD⟩ := q
  exact ⟨q0, q1, qP, qK.calling, qD⟩
/-- what may return: at an ireturn (lreturn) with this value, nothing changed -/
def rtOk (cc : ByteArray) (ret : Option FieldType) (v : Value) (pc : Nat) : Prop :=
  (decode cc pc = .ok (.ireturn, 1) ∧ ∃ (ty : FieldType) (x : Int32), ret = some ty ∧ v = .int x ∧ narrow ty (.int x) = .int x) ∨ (decode cc pc = .ok (.lreturn, 1) ∧ ret = some .long ∧ ∃ x : Int64, v = .long x)
def gRet (Γ : gT) (R : Room) (nL : Nat) (cc : ByteArray) (ret : Option FieldType) (H : Heap) (v : Value) : Prop := ∀ (pc : Nat) (lv : List (Nat × Value)), rtOk cc ret v pc → g Γ R nL H [] 0 0 pc lv [v]
theorem MR.of {l : Launch} {y : MethodName} {b : ByteArray} {n : Nat} {ret : Option FieldType} {Δ : gD} {ws : va_W} {As : List Value} {f x : Nat} {v : Value} (hy : plainName y.cls = true) (hn : (lg_sl As).length ≤ n)
    (body : ∀ (Γ : gT) (H : Heap), Γ.2.1 = l → gOk Γ b n y.cls → KD Δ (sOf Γ) → va_P Δ.1 classes ws H → gRet Γ { frames := f, cells := 0, slots := 0, locals := x } n b ret H v → g Γ { frames := f, cells := 0, slots := 0, locals := x } n H [] 0 0 0 (lv_args 0 As) []) : MR l y b n ret Δ ws As f x v := by
  refine Met.ofW (cc := b) (maxL := n) (ret := ret) hy rfl ?_
  intro p e s m args below meth c s₁ B hml hv
  obtain ⟨rfl, hP, hK⟩ := hv
  have hr := B.returns
  have hts := atoms_spec (ws := .code y b n ret :: AW) B.pre
  have hlocks := B.notSynchronized
  have hl := lv_entry As hn
  rw [lg_entry_eq]
  refine body (p, l, e, s, m, As.toArray, below, meth, c, MQ below (MRq v) As.toArray s 0 0 (fun _ => False)) s.heap rfl ⟨B.exec, B.bytes, hml, findClass_of_methodNamed B.named, fun w h => hts w (List.mem_cons_of_mem _ h)⟩ hK hP ?_ _ hl
  intro pc lv hrt ls hls
  rcases hrt with ⟨hd, ty, x9, h1, h2, h3⟩ | ⟨hd, h1, x9, h2⟩
  · subst h2
    show W p l e _ s m As.toArray below meth c s.heap [] 0 0 (MQ below (MRq (.int x9)) As.toArray s 0 0 (fun _ => False)) (F0 m pc ls [.int x9])
    exact W.zret B.exec B.bytes (hr.trans h1) h3 (fun t ht hW => ⟨rfl, ht⟩) (fun q hq => by cases hq) hd
  · subst h2
    show W p l e _ s m As.toArray below meth c s.heap [] 0 0 (MQ below (MRq (.long x9)) As.toArray s 0 0 (fun _ => False)) (F0 m pc ls [.long x9])
    exact W.lret B.exec B.bytes (hr.trans h1) (fun t ht hW => ⟨rfl, ht⟩) (fun q hq => by cases hq) hd
def rvOk (cc : ByteArray) (ret : Option FieldType) (v : Option Value) (pc : Nat) (st : List Value) : Prop :=
  (∃ w : Value, v = some w ∧ st = [w] ∧ rtOk cc ret w pc) ∨ (decode cc pc = .ok (.return_, 1) ∧ ret = none ∧ v = none ∧ st = [])
def gRetW (Γ : gT) (R : Room) (nL : Nat) (cc : ByteArray) (ret : Option FieldType) (Δ : gD) (A : Nat → Prop) (v : Option Value) (ws2 : va_W) : Prop := ∀ (H : Heap) (L : List Loc), va_P Δ.1 classes ws2 H → va_S A (sOf Γ).heap H L → ∀ (pc : Nat) (lv : List (Nat × Value)) (st : List Value), rvOk cc ret v pc st → g Γ R nL H L 0 0 pc lv st
theorem MW.of {l : Launch} {y : MethodName} {b : ByteArray} {n : Nat} {ret : Option FieldType} {Δ : gD} {ws : va_W} {As : List Value} {f x : Nat} {v : Option Value} {ws2 : va_W} (hy : plainName y.cls = true) (hn : (lg_sl As).length ≤ n)
    (body : ∀ (Γ : gT) (A : Nat → Prop) (H : Heap), Γ.2.1 = l → gOk Γ b n y.cls → KD Δ (sOf Γ) → va_P Δ.1 classes ws H → va_D A ws → va_S A (sOf Γ).heap H [] → (∀ q, (sOf Γ).heap.size ≤ q → A q) → gRetW Γ { frames := f, cells := 0, slots := 0, locals := x } n b ret Δ A v ws2 → g Γ { frames := f, cells := 0, slots := 0, locals := x } n H [] 0 0 0 (lv_args 0 As) []) : MW l y b n ret Δ ws As f x v ws2 := by
  intro sz
  refine Met.ofW (cc := b) (maxL := n) (ret := ret) hy rfl ?_
  intro p e s m args below meth c s₁ B hml hv
  obtain ⟨rfl, rfl, hP, hK, hD0⟩ := hv
  have hr := B.returns
  have hts := atoms_spec (ws := .code y b n ret :: AW) B.pre
  have hlocks := B.notSynchronized
  have hl := lv_entry As hn
  rw [lg_entry_eq]
  refine body (p, l, e, s, m, As.toArray, below, meth, c, MQ below (MWq Δ ws v ws2 s.heap.size) As.toArray s 0 0 (va_A ws s.heap.size)) (va_A ws s.heap.size) s.heap rfl ⟨B.exec, B.bytes, hml, findClass_of_methodNamed B.named, fun w h => hts w (List.mem_cons_of_mem _ h)⟩ hK hP (hD0.self (sz := s.heap.size)) va_S.rf (fun q h => Or.inr h) ?_ _ hl
  intro H L hP2 hS2 pc lv st hrt ls hls
  rcases hrt with ⟨w, rfl, rfl, hrt⟩ | ⟨hd, h1, rfl, rfl⟩
  · rcases hrt with ⟨hd, ty, x9, h1, h2, h3⟩ | ⟨hd, h1, x9, h2⟩
    · subst h2
      show W p l e _ s m As.toArray below meth c H L 0 0 (MQ below (MWq Δ ws (some (.int x9)) ws2 s.heap.size) As.toArray s 0 0 (va_A ws s.heap.size)) (F0 m pc ls [.int x9])
      exact W.zret B.exec B.bytes (hr.trans h1) h3 (fun t ht hW => ⟨⟨rfl, by rw [ht]; exact hP2⟩, hS2.F ht⟩) hS2.2.2 hd
    · subst h2
      show W p l e _ s m As.toArray below meth c H L 0 0 (MQ below (MWq Δ ws (some (.long x9)) ws2 s.heap.size) As.toArray s 0 0 (va_A ws s.heap.size)) (F0 m pc ls [.long x9])
      exact W.lret B.exec B.bytes (hr.trans h1) (fun t ht hW => ⟨⟨rfl, by rw [ht]; exact hP2⟩, hS2.F ht⟩) hS2.2.2 hd
  · show W p l e _ s m As.toArray below meth c H L 0 0 (MQ below (MWq Δ ws none ws2 s.heap.size) As.toArray s 0 0 (va_A ws s.heap.size)) (F0 m pc ls [])
    exact W.vret B.exec B.bytes (hr.trans h1) (fun t ht hW => ⟨⟨rfl, by rw [ht]; exact hP2⟩, hS2.F ht⟩) hS2.2.2 hd
/-! calls -/
def VF (y : MethodName) (b : ByteArray) (n : Nat) (ret : Option FieldType) (np : Nat) : Prop := Cond.code y b n ret ∈ AW ∧ Cond.instanceMethod y ∈ AW ∧ Cond.selects y.cls y y ∈ AW ∧ Cond.initialized y.cls ∈ AW ∧ (y.cls ≠ "java/lang/invoke/MethodHandle" ∧ y.cls ≠ "java/lang/invoke/VarHandle" ∧ (parseMethodDescriptor y.desc).map (fun d => d.parameters.length) = some np)
def SF (y : MethodName) (b : ByteArray) (n : Nat) (ret : Option FieldType) (np : Nat) : Prop := Cond.code y b n ret ∈ AW ∧ Cond.static y ∈ AW ∧ Cond.initialized y.cls ∈ AW ∧ (y.cls ≠ "java/lang/invoke/MethodHandle" ∧ y.cls ≠ "java/lang/invoke/VarHandle" ∧ (parseMethodDescriptor y.desc).map (fun d => d.parameters.length) = some np)
/-- a link to a method, from its own class or a nest mate's -/
def LK (own : String) (idx : Nat) (y : MethodName) : Prop := Cond.methodLink own idx y ∈ AW ∨ ∃ host : String, Cond.methodLinkNest own idx y host ∈ NWL
section G2
variable {Γ : gT} {R : Room} {nL : Nat} {H : Heap} {L : List Loc} {k n n2 : Nat} {pc : Nat} {lv : List (Nat × Value)} {rest : List Value} {cc : ByteArray} {own : String}
theorem runV_of {y : MethodName} {b : ByteArray} {nz np : Nat} {ret : Option FieldType} {rm : Room} {Pc : Array Value → State → Prop} {Qc : Array Value → State → Outcome → State → Prop} {free : Addr → Prop} {idx : Nat} {a : Nat} {As : List Value} {g0 : JFrame}
    (C : gOk Γ cc nL own) (hM : Met Γ.2.1 y (.code y b nz ret :: AW) rm Pc Qc 0 0 free) (hz : VF y b nz ret np) (hl : Cond.methodLink own idx y ∈ AW) (hrc : rm.cells = 0 ∧ rm.slots = 0) (hR : rm.frames + 1 ≤ R.frames ∧ 8 + (nz + 11) + rm.locals ≤ R.locals)
    (hp : PreV (sOf Γ) H y.cls a Pc As) (hg : g0.method = Γ.2.2.2.2.1) (hn : As.length = np) (hsize : g0.locals.size = nL) (hstack : g0.stack = As.reverse ++ .ref a :: rest) (hW : 2 * g0.monitorRoom + (rest.map fun v => v.category).sum ≤ 8) (hdg : decode cc g0.pc = .ok (.invokevirtual idx, 3)) (hf : k ≤ R.cells ∧ n ≤ R.slots) :
    va_Run Γ.1 Γ.2.1 Γ.2.2.1 R (sOf Γ) Γ.2.2.2.2.1 Γ.2.2.2.2.2.1 Γ.2.2.2.2.2.2.1 Γ.2.2.2.2.2.2.2.1 Γ.2.2.2.2.2.2.2.2.1 H L k n 0 0 g0 rest (Qc (Value.ref a :: As).toArray) free :=
  va_runV (Ts := AW) ⟨C.1, C.2.1, C.2.2.1, C.2.2.2.1, C.2.2.2.2⟩ hM ⟨callB_of np C.2.2.2.2 (gAW hz.1) rfl hrc.1 hrc.2 (C.2.2.2.2 _ hz.2.2.2.1) (C.2.2.2.2 _ hl) hz.2.2.2.2 hR, C.2.2.2.2 _ hz.2.1, C.2.2.2.2 _ hz.2.2.1⟩ hp hg hn hsize hstack hW hdg hf
theorem runS_of {y : MethodName} {b : ByteArray} {nz np : Nat} {ret : Option FieldType} {rm : Room} {Pc : Array Value → State → Prop} {Qc : Array Value → State → Outcome → State → Prop} {free : Addr → Prop} {idx : Nat} {As : List Value} {g0 : JFrame}
    (C : gOk Γ cc nL own) (hM : Met Γ.2.1 y (.code y b nz ret :: AW) rm Pc Qc 0 0 free) (hz : SF y b nz ret np) (hl : LK own idx y) (hNW : ∀ w ∈ NWL, va_Nw w (sOf Γ)) (hrc : rm.cells = 0 ∧ rm.slots = 0) (hR : rm.frames + 1 ≤ R.frames ∧ 8 + (nz + 11) + rm.locals ≤ R.locals)
    (hp : PreS (sOf Γ) H Pc As) (hg : g0.method = Γ.2.2.2.2.1) (hn : As.length = np) (hsize : g0.locals.size = nL) (hstack : g0.stack = As.reverse ++ rest) (hW : 2 * g0.monitorRoom + (rest.map fun v => v.category).sum ≤ 8) (hdg : decode cc g0.pc = .ok (.invokestatic idx, 3)) (hf : k ≤ R.cells ∧ n ≤ R.slots) :
    va_Run Γ.1 Γ.2.1 Γ.2.2.1 R (sOf Γ) Γ.2.2.2.2.1 Γ.2.2.2.2.2.1 Γ.2.2.2.2.2.2.1 Γ.2.2.2.2.2.2.2.1 Γ.2.2.2.2.2.2.2.2.1 H L k n 0 0 g0 rest (Qc As.toArray) free := by
  rcases hl with hl | ⟨host, hl⟩
  · exact va_runS (Ts := AW) ⟨C.1, C.2.1, C.2.2.1, C.2.2.2.1, C.2.2.2.2⟩ hM ⟨callB_of np C.2.2.2.2 (gAW hz.1) rfl hrc.1 hrc.2 (C.2.2.2.2 _ hz.2.2.1) (C.2.2.2.2 _ hl) hz.2.2.2 hR, C.2.2.2.2 _ hz.2.1⟩ hp hg hn hsize hstack hW hdg hf
  · exact va_runSN (Ts := AW) ⟨C.1, C.2.1, C.2.2.1, C.2.2.2.1, C.2.2.2.2⟩ hM ⟨va_cnB np C.2.2.2.2 (gAW hz.1) rfl hrc.1 hrc.2 (hNW _ hl) (C.2.2.2.2 _ hz.2.2.1) hz.2.2.2 hR, C.2.2.2.2 _ hz.2.1, trivial⟩ hp hg hn hsize hstack hW hdg hf
theorem g_recv {Δ : gD} {ws : va_W} {q0 a ci : Nat} {fs : List Value} {q : vw_C} {cls : String} (hK : KD Δ (sOf Γ)) (hP : va_P Δ.1 classes ws H) (he : ws[q0]? = some (a, .inr (ci, fs))) (hc : classes[ci]? = some q) (hq : q.1 = cls) : ∃ cell : Cell, H[a]? = some cell ∧ cell.vm.isStatics = false ∧ (sOf Γ).vm.findClass cls = some cell.cls := by
  subst hq
  exact va_recv hK.1 hP hc he
theorem endR {ls : Array Slot} {v : Value} {As : Array Value} {st0 : List Value} (hr : va_Run Γ.1 Γ.2.1 Γ.2.2.1 R (sOf Γ) Γ.2.2.2.2.1 Γ.2.2.2.2.2.1 Γ.2.2.2.2.2.2.1 Γ.2.2.2.2.2.2.2.1 Γ.2.2.2.2.2.2.2.2.1 H L k n 0 0 (F0 Γ.2.2.2.2.1 pc ls st0) rest (MRq v As) (fun _ => False)) (hls : lv_has ls nL lv) (kk : g Γ R nL H L k n (pc + 3) lv (v :: rest)) :
    W Γ.1 Γ.2.1 Γ.2.2.1 R (sOf Γ) Γ.2.2.2.2.1 Γ.2.2.2.2.2.1 Γ.2.2.2.2.2.2.1 Γ.2.2.2.2.2.2.2.1 Γ.2.2.2.2.2.2.2.2.1 H L k n Γ.2.2.2.2.2.2.2.2.2 (F0 Γ.2.2.2.2.1 pc ls st0) := by
  intro T hT X
  obtain ⟨v9, st₀, t, T', L9, h0, X', hL, e1, e2, ⟨hv, hh⟩, st⟩ := hr T hT X
  cases hv
  obtain ⟨t2, a1, b1⟩ := kk ls hls T' (by rw [e1, hh, h0]) (Stand.forget X' (fun q h => (hL q h).elim))
  exact ⟨t2, st t2 a1, b1⟩
theorem g_callRV {Δ : gD} {wc : va_W} {a : Nat} {As : List Value} {y : MethodName} {b : ByteArray} {nz np f x : Nat} {ret : Option FieldType} {v : Value} {idx ci : Nat} {fs : List Value} {q0 : vw_C} {st0 : List Value} (C : gOk Γ cc nL own) (q : Nat) (hp : pc + 3 = q) (hd : decode cc pc = .ok (.invokevirtual idx, 3)) (hM : MR Γ.2.1 y b nz ret Δ wc (.ref a :: As) f x v) (hz : VF y b nz ret np) (hl : Cond.methodLink own idx y ∈ AW) (hK : KD Δ (sOf Γ)) (hP : va_P Δ.1 classes wc H) (he : wc[0]? = some (a, .inr (ci, fs))) (hc : classes[ci]? = some q0) (hq : q0.1 = y.cls) (hn : As.length = np) (hst : As.reverse ++ .ref a :: rest = st0) (hR : f + 1 ≤ R.frames ∧ 8 + (nz + 11) + x ≤ R.locals) (hW : (rest.map fun v => v.category).sum ≤ 8) (hf : k ≤ R.cells ∧ n ≤ R.slots) (kk : g Γ R nL H L k n q lv (v :: rest)) : g Γ R nL H L k n pc lv st0 := by
  intro ls hls
  subst hst
  subst hp
  exact endR (runV_of C hM hz hl ⟨rfl, rfl⟩ hR ⟨MRp.blind, g_recv hK hP he hc hq, fun U hU hW9 => ⟨rfl, by rw [hU]; exact hP, KD.warm hW9 hK⟩⟩ rfl hn hls.1 rfl (by show 2 * 0 + _ ≤ 8; omega) hd hf) hls kk
theorem g_callRS {Δ : gD} {As : List Value} {y : MethodName} {b : ByteArray} {nz np f x : Nat} {ret : Option FieldType} {v : Value} {idx : Nat} {st0 : List Value} (C : gOk Γ cc nL own) (q : Nat) (hp : pc + 3 = q) (hd : decode cc pc = .ok (.invokestatic idx, 3)) (hM : MR Γ.2.1 y b nz ret Δ [] As f x v) (hz : SF y b nz ret np) (hl : LK own idx y) (hK : KD Δ (sOf Γ)) (hn : As.length = np) (hst : As.reverse ++ rest = st0) (hR : f + 1 ≤ R.frames ∧ 8 + (nz + 11) + x ≤ R.locals) (hW : (rest.map fun v => v.category).sum ≤ 8) (hf : k ≤ R.cells ∧ n ≤ R.slots) (kk : g Γ R nL H L k n q lv (v :: rest)) : g Γ R nL H L k n pc lv st0 := by
  intro ls hls
  subst hst
  subst hp
  exact endR (runS_of C hM hz hl hK.2.1 ⟨rfl, rfl⟩ hR ⟨MRp.blind, fun U hU hW9 => ⟨rfl, fun k9 q9 h9 => by simp at h9, KD.warm hW9 hK⟩⟩ rfl hn hls.1 rfl (by show 2 * 0 + _ ≤ 8; omega) hd hf) hls kk
theorem va_D.same {A : Nat → Prop} {ws ws2 : va_W} (h : va_D A ws) (he : ws2.map Prod.fst = ws.map Prod.fst) : va_D A ws2 := by
  have key : ∀ (i : Nat) (p : Nat × va_E), ws2[i]? = some p → ∃ p2, ws[i]? = some p2 ∧ p2.1 = p.1 := by
    intro i p hp
    have h1 : (ws2.map Prod.fst)[i]? = some p.1 := by rw [List.getElem?_map, hp]; rfl
    rw [he, List.getElem?_map] at h1
    cases h2 : ws[i]? with
    | none => rw [h2] at h1; cases h1
    | some p2 => rw [h2] at h1; exact ⟨p2, rfl, Option.some.inj h1⟩
  refine ⟨fun i j p q hp hq e => ?_, fun k q hq => ?_⟩
  · obtain ⟨p2, h1, e1⟩ := key i p hp
    obtain ⟨q2, h2, e2⟩ := key j q hq
    exact h.1 i j p2 q2 h1 h2 (by rw [e1, e2, e])
  · obtain ⟨q2, h2, e2⟩ := key k q hq
    rw [← e2]; exact h.2 k q2 h2
def Shp (ws wc w1 ws2 : va_W) : Prop := ∃ (isC isR isP : List Nat) (wr : va_W), isC.map (fun i => ws[i]?) = wc.map some ∧ va_nd isC = true ∧ isR.map (fun i => ws[i]?) = wr.map some ∧ va_nd isR = true ∧ (∀ i ∈ isR, i ∉ isC) ∧ isP.filterMap (fun i => (wr ++ w1)[i]?) = ws2 ∧ ws2.map Prod.fst = ws.map Prod.fst ∧ w1.map Prod.fst = wc.map Prod.fst
theorem g_callWV {Δ : gD} {A : Nat → Prop} {ws wc w1 : va_W} {a : Nat} {As : List Value} {y : MethodName} {b : ByteArray} {nz np f x : Nat} {ret : Option FieldType} {v : Option Value} {idx ci : Nat} {fs : List Value} {q0 : vw_C} {st0 : List Value} (ws2 : va_W) (C : gOk Γ cc nL own) (q : Nat) (hp : pc + 3 = q) (hd : decode cc pc = .ok (.invokevirtual idx, 3)) (hM : MW Γ.2.1 y b nz ret Δ wc (.ref a :: As) f x v w1) (hz : VF y b nz ret np) (hl : Cond.methodLink own idx y ∈ AW) (hK : KD Δ (sOf Γ)) (hP : va_P Δ.1 classes ws H) (hD : va_D A ws) (hS : va_S A (sOf Γ).heap H L) (hA : ∀ q, (sOf Γ).heap.size ≤ q → A q) (hsh : Shp ws wc w1 ws2) (he : wc[0]? = some (a, .inr (ci, fs))) (hc : classes[ci]? = some q0) (hq : q0.1 = y.cls) (hn : As.length = np) (hst : As.reverse ++ .ref a :: rest = st0) (hR : f + 1 ≤ R.frames ∧ 8 + (nz + 11) + x ≤ R.locals) (hW : (rest.map fun v => v.category).sum ≤ 8) (hf : k ≤ R.cells ∧ n ≤ R.slots)
    (kk : ∀ (H : Heap) (L : List Loc), va_P Δ.1 classes ws2 H → va_D A ws2 → va_S A (sOf Γ).heap H L → g Γ R nL H L k n q lv (v.toList ++ rest)) : g Γ R nL H L k n pc lv st0 := by
  intro ls hls
  subst hst
  subst hp
  obtain ⟨isC, isR, isP, wr, hC, hC2, hRr, hRn, hdis, hPm, had, had1⟩ := hsh
  have hPc : va_P Δ.1 classes wc H := by
    intro k9 q9 h9
    have h1 : (isC.map (fun i => ws[i]?))[k9]? = some (some q9) := by rw [hC, List.getElem?_map, h9]; rfl
    rw [List.getElem?_map] at h1
    cases hi : isC[k9]? with
    | none => rw [hi] at h1; cases h1
    | some i => rw [hi] at h1; exact hP i q9 (Option.some.inj h1)
  have hDc : va_D A wc := hD.sub isC hC2 hC
  have hFc : ∀ q, va_A wc H.size q → A q := va_free hD hS hA isC hC
  have hr := runV_of (R := R) (L := L) (k := k) (n := n) (rest := rest) (g0 := F0 Γ.2.2.2.2.1 pc ls (As.reverse ++ .ref a :: rest)) C (hM H.size) hz hl ⟨rfl, rfl⟩ hR ⟨MWp.blind, g_recv hK hPc he hc hq, fun U hU hW9 => ⟨rfl, by rw [hU], by rw [hU]; exact hPc, KD.warm hW9 hK, hDc.weaken (fun _ _ _ _ => trivial)⟩⟩ rfl hn hls.1 rfl (by show 2 * 0 + _ ≤ 8; omega) hd hf
  intro T hT X
  obtain ⟨v9, st₀, t, T', L9, h0, X', hL, e1, e2, ⟨⟨hv, hp1⟩, hz9, hk9⟩, st⟩ := hr T hT X
  cases hv
  rw [h0] at hz9 hk9
  have hD1 : va_D (va_A wc H.size) w1 := (hDc.self (sz := H.size)).same had1
  obtain ⟨hPj, -⟩ := va_join hP hD isC isR hC hRr hRn hdis hk9 hFc hp1 hD1
  have hS2 : va_S A (sOf Γ).heap T'.heap (L ++ L9) := ⟨Nat.le_trans hS.1 (by rw [e1]; exact hz9), fun q h1 h2 => by rw [e1, hk9 q (Nat.lt_of_lt_of_le h1 hS.1) (fun z => h2 (hFc q z))]; exact hS.2.1 q h1 h2, fun q hq => by
      rcases List.mem_append.mp hq with h | h
      · exact hS.2.2 q h
      · exact hFc _ (hL q h)⟩
  obtain ⟨t2, a1, b1⟩ := kk T'.heap (L ++ L9) (by rw [e1]; exact hPj.sub isP hPm) (hD.same had) hS2 ls hls T' rfl X'
  exact ⟨t2, st t2 a1, b1⟩
theorem va_P_cut {Δ : gD} {ws wc : va_W} (hP : va_P Δ.1 classes ws H) (isC : List Nat) (hC : isC.filterMap (fun i => ws[i]?) = wc) : va_P Δ.1 classes wc H := hP.sub isC hC
theorem bindE {α β : Type} {x : Option α} {f : α → Option β} {r : β} (h : x.bind f = some r) : ∃ y, x = some y ∧ f y = some r := by
  cases x with
  | none => cases h
  | some y => exact ⟨y, rfl, h⟩
theorem if_t {α : Type} {c : Prop} [Decidable c] {u v r : α} (h : c) (hq : (if c then u else v) = r) : u = r := by rw [if_pos h] at hq; exact hq
theorem if_f {α : Type} {c : Prop} [Decidable c] {u v r : α} (h : ¬ c) (hq : (if c then u else v) = r) : v = r := by rw [if_neg h] at hq; exact hq
theorem r_int {res e : Int32} {ret : Option FieldType} {ty : FieldType} (hR : gRet Γ R nL cc ret H (.int res)) (hq : some e = some res) (hd : decode cc pc = .ok (.ireturn, 1)) (hr : ret = some ty) (hn : narrow ty (.int e) = .int e) : g Γ R nL H [] 0 0 pc lv [.int e] := by
  rw [← Option.some.inj hq] at hR
  exact hR _ _ (Or.inl ⟨hd, ty, e, hr, rfl, hn⟩)
theorem r_long {res e : Int64} {ret : Option FieldType} (hR : gRet Γ R nL cc ret H (.long res)) (hq : some e = some res) (hd : decode cc pc = .ok (.lreturn, 1)) (hr : ret = some .long) : g Γ R nL H [] 0 0 pc lv [.long e] := by
  rw [← Option.some.inj hq] at hR
  exact hR _ _ (Or.inr ⟨hd, hr, e, rfl⟩)
theorem w_int {S : Type} {Δ : gD} {A : Nat → Prop} {ws : S → va_W} {u : S} {e : Int32} {res : Int32 × S} {ret : Option FieldType} {ty : FieldType} (hR : gRetW Γ R nL cc ret Δ A (some (.int res.1)) (ws res.2)) (hq : some (e, u) = some res) (hP : va_P Δ.1 classes (ws u) H) (hS : va_S A (sOf Γ).heap H L) (hd : decode cc pc = .ok (.ireturn, 1)) (hr : ret = some ty) (hn : narrow ty (.int e) = .int e) : g Γ R nL H L 0 0 pc lv [.int e] := by
  cases hq
  exact hR H L hP hS _ _ _ (Or.inl ⟨.int e, rfl, rfl, Or.inl ⟨hd, ty, e, hr, rfl, hn⟩⟩)
theorem w_long {S : Type} {Δ : gD} {A : Nat → Prop} {ws : S → va_W} {u : S} {e : Int64} {res : Int64 × S} {ret : Option FieldType} (hR : gRetW Γ R nL cc ret Δ A (some (.long res.1)) (ws res.2)) (hq : some (e, u) = some res) (hP : va_P Δ.1 classes (ws u) H) (hS : va_S A (sOf Γ).heap H L) (hd : decode cc pc = .ok (.lreturn, 1)) (hr : ret = some .long) : g Γ R nL H L 0 0 pc lv [.long e] := by
  cases hq
  exact hR H L hP hS _ _ _ (Or.inl ⟨.long e, rfl, rfl, Or.inr ⟨hd, hr, e, rfl⟩⟩)
theorem w_void {S : Type} {Δ : gD} {A : Nat → Prop} {ws : S → va_W} {u : S} {res : S} {ret : Option FieldType} (hR : gRetW Γ R nL cc ret Δ A none (ws res)) (hq : some u = some res) (hP : va_P Δ.1 classes (ws u) H) (hS : va_S A (sOf Γ).heap H L) (hd : decode cc pc = .ok (.return_, 1)) (hr : ret = none) : g Γ R nL H L 0 0 pc lv [] := by
  cases hq
  exact hR H L hP hS _ _ _ (Or.inr ⟨hd, hr, rfl, rfl⟩)
theorem g_acpI {Δ : gD} {A : Nat → Prop} {ws : va_W} {a0 a1 n0 n1 : Nat} {f f2 : Nat → Int32} {n : Int32} {idx : Nat} {rest : List Value} (ws2 : va_W) (nn : Nat) (C : gOk Γ cc nL own) (q : Nat) (hp : pc + 3 = q) (hd : decode cc pc = .ok (.invokestatic idx, 3)) (hl : Cond.methodLink own idx arraycopyName ∈ AW) (hw : Cond.native arraycopyName ∈ AW ∧ Cond.static arraycopyName ∈ AW ∧ Cond.initialized "java/lang/System" ∈ AW) (hK : KD Δ (sOf Γ)) (hP : va_P Δ.1 classes ws H) (hD : va_D A ws) (hS : va_S A (sOf Γ).heap H L) (q0 q1 : Nat) (ha0 : ws[q0]? = some (a0, .inl (Δ.2.1, n0, .inl f))) (ha1 : ws[q1]? = some (a1, .inl (Δ.2.1, n1, .inl f2))) (hn : n.toNatClampNeg = nn) (hn0 : ¬ n < 0) (h4 : nn ≤ n0) (h5 : nn ≤ n1) (hR : 1 ≤ R.frames ∧ (rest.map fun v => v.category).sum + (nativeFrameWords "java/lang/System" "arraycopy" 5 + 11) ≤ R.locals) (hw2 : ws.set q1 (a1, .inl (Δ.2.1, n1, .inl (va_cpy f f2 0 0 nn))) = ws2)
    (kk : ∀ (H : Heap) (L : List Loc), va_P Δ.1 classes ws2 H → va_D A ws2 → va_S A (sOf Γ).heap H L → g Γ R nL H L k n2 q lv rest) : g Γ R nL H L k n2 pc lv (.int n :: .int 0 :: .ref a1 :: .int 0 :: .ref a0 :: rest) := fun ls hls => by
  subst hn
  refine va_copyi C.1 C.2.1 (C.2.2.1.trans hls.1.symm) C.2.2.2.1 (C.2.2.2.2 _ hl) (C.2.2.2.2 _ hw.1) (C.2.2.2.2 _ hw.2.1) (C.2.2.2.2 _ hw.2.2) hK.1 hP hD hS q0 q1 0 0 ha0 ha1 rfl rfl rfl (by decide) (by decide) hn0 (by simpa using h4) (by simpa using h5) (fun i hi => rfl) hR.1 hR.2 hd (fun H1 L1 hP1 hD1 hS1 => ?_)
  rw [hp]
  exact kk H1 L1 (hw2 ▸ hP1) (hw2 ▸ hD1) hS1 ls hls
theorem g_acpL {Δ : gD} {A : Nat → Prop} {ws : va_W} {a0 a1 n0 n1 : Nat} {f f2 : Nat → Int64} {n : Int32} {idx : Nat} {rest : List Value} (ws2 : va_W) (nn : Nat) (C : gOk Γ cc nL own) (q : Nat) (hp : pc + 3 = q) (hd : decode cc pc = .ok (.invokestatic idx, 3)) (hl : Cond.methodLink own idx arraycopyName ∈ AW) (hw : Cond.native arraycopyName ∈ AW ∧ Cond.static arraycopyName ∈ AW ∧ Cond.initialized "java/lang/System" ∈ AW) (hK : KD Δ (sOf Γ)) (hP : va_P Δ.1 classes ws H) (hD : va_D A ws) (hS : va_S A (sOf Γ).heap H L) (q0 q1 : Nat) (ha0 : ws[q0]? = some (a0, .inl (Δ.2.2.1, n0, .inr (.inl f)))) (ha1 : ws[q1]? = some (a1, .inl (Δ.2.2.1, n1, .inr (.inl f2)))) (hn : n.toNatClampNeg = nn) (hn0 : ¬ n < 0) (h4 : nn ≤ n0) (h5 : nn ≤ n1) (hR : 1 ≤ R.frames ∧ (rest.map fun v => v.category).sum + (nativeFrameWords "java/lang/System" "arraycopy" 5 + 11) ≤ R.locals) (hw2 : ws.set q1 (a1, .inl (Δ.2.2.1, n1, .inr (.inl (va_cpy f f2 0 0 nn)))) = ws2)
    (kk : ∀ (H : Heap) (L : List Loc), va_P Δ.1 classes ws2 H → va_D A ws2 → va_S A (sOf Γ).heap H L → g Γ R nL H L k n2 q lv rest) : g Γ R nL H L k n2 pc lv (.int n :: .int 0 :: .ref a1 :: .int 0 :: .ref a0 :: rest) := fun ls hls => by
  subst hn
  refine va_copyl C.1 C.2.1 (C.2.2.1.trans hls.1.symm) C.2.2.2.1 (C.2.2.2.2 _ hl) (C.2.2.2.2 _ hw.1) (C.2.2.2.2 _ hw.2.1) (C.2.2.2.2 _ hw.2.2) hK.1 hP hD hS q0 q1 1 1 ha0 ha1 rfl rfl rfl (by decide) (by decide) hn0 (by simpa using h4) (by simpa using h5) (fun i hi => rfl) hR.1 hR.2 hd (fun H1 L1 hP1 hD1 hS1 => ?_)
  rw [hp]
  exact kk H1 L1 (hw2 ▸ hP1) (hw2 ▸ hD1) hS1 ls hls
theorem narrow_z {x : Int32} (h : x = 0 ∨ x = 1) : narrow .boolean (.int x) = .int x := by rcases h with rfl | rfl <;> rfl
def bz {α : Type} (x : Int32) (u : Option α) : Option α := if x = 0 ∨ x = 1 then u else none
theorem bz_some {α : Type} {x : Int32} {u : Option α} {r : α} (h : bz x u = some r) : (x = 0 ∨ x = 1) ∧ u = some r := by
  unfold bz at h
  by_cases c : x = 0 ∨ x = 1
  · rw [if_pos c] at h; exact ⟨c, h⟩
  · rw [if_neg c] at h; cases h
def sumc {α β γ : Type} (f : α → γ) (g9 : β → γ) : α ⊕ β → γ
  | .inl a => f a
  | .inr b => g9 b
def FUEL : Nat := 4096
end G2
