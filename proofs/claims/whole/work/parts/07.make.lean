/-! making: new objects and arrays, constructors -/
theorem cA_I {Δ : gD} {s : State} {cA : ClassId} (h : va_K Δ.1 classes (tysD Δ ++ [(cA, .int)]) s) : cA = Δ.2.1 := by
  have h1 : s.vm.findClass ("[" ++ FieldType.int.toString) = some cA := (h.2 4 _ rfl).2
  have h2 : s.vm.findClass ("[" ++ FieldType.int.toString) = some Δ.2.1 := (h.2 0 _ rfl).2
  rw [h1] at h2; exact Option.some.inj h2
theorem cA_J {Δ : gD} {s : State} {cA : ClassId} (h : va_K Δ.1 classes (tysD Δ ++ [(cA, .long)]) s) : cA = Δ.2.2.1 := by
  have h1 : s.vm.findClass ("[" ++ FieldType.long.toString) = some cA := (h.2 4 _ rfl).2
  have h2 : s.vm.findClass ("[" ++ FieldType.long.toString) = some Δ.2.2.1 := (h.2 1 _ rfl).2
  rw [h1] at h2; exact Option.some.inj h2
theorem cA_Z {Δ : gD} {s : State} {cA : ClassId} (h : va_K Δ.1 classes (tysD Δ ++ [(cA, .boolean)]) s) : cA = Δ.2.2.2.1 := by
  have h1 : s.vm.findClass ("[" ++ FieldType.boolean.toString) = some cA := (h.2 4 _ rfl).2
  have h2 : s.vm.findClass ("[" ++ FieldType.boolean.toString) = some Δ.2.2.2.1 := (h.2 2 _ rfl).2
  rw [h1] at h2; exact Option.some.inj h2
theorem cA_T {Δ : gD} {s : State} {cA : ClassId} (h : va_K Δ.1 classes (tysD Δ ++ [(cA, .object "OathPermit$Town")]) s) : cA = Δ.2.2.2.2 := by
  obtain ⟨_, _, _, _, _, h1⟩ := (h.2 4 _ rfl).2
  obtain ⟨_, _, _, _, _, h2⟩ := (h.2 3 _ rfl).2
  rw [h1] at h2; exact Option.some.inj h2
section MK
variable {Γ : gT} {R : Room} {nL : Nat} {H : Heap} {L : List Loc} {k n : Nat} {pc : Nat} {lv : List (Nat × Value)} {st : List Value} {cc : ByteArray} {own : String} {Δ : gD} {A : Nat → Prop} {ws : va_W}
theorem g_widen (k2 n2 : Nat) (h1 : k ≤ k2) (h2 : n ≤ n2) (kk : g Γ R nL H L k2 n2 pc lv st) : g Γ R nL H L k n pc lv st := fun ls hls => W.widen (k := k2) (n := n2) h1 h2 (kk ls hls)
theorem g_new {C0 : String} {T : u_T} {N ci idx : Nat} {ty : Nat → FieldType} (C : gOk Γ cc nL own) (q : Nat) (hp : pc + 3 = q) (hd : decode cc pc = .ok (.new idx, 3)) (hin : ∀ w ∈ u_ws C0 T N, w ∈ AW) (hty : ∀ k, k < N → parseFieldDescriptor (T k).2.2.1 = some (ty k)) (hcl : Cond.classLink own idx C0 ∈ AW) (hit : Cond.instantiable C0 N ∈ AW) (hini : Cond.initialized C0 ∈ AW) (hK : KD Δ (sOf Γ)) (hP : va_P Δ.1 classes ws H) (hD : va_D A ws) (hS : va_S A (sOf Γ).heap H L) (hA : ∀ q, (sOf Γ).heap.size ≤ q → A q) (hc : classes[ci]? = some (C0, T, N)) (fs : List Value) (hfs : ∀ j, j < N → defaultValue (ty j) = vp_V fs j) (hcells : k + 1 ≤ R.cells) (hslots : n + N ≤ R.slots)
    (kk : ∀ (a : Nat) (H : Heap), va_P Δ.1 classes (ws ++ [(a, .inr (ci, fs))]) H → va_D A (ws ++ [(a, .inr (ci, fs))]) → va_S A (sOf Γ).heap H L → g Γ R nL H L (k + 1) (n + N) q lv (.ref a :: st)) : g Γ R nL H L k n pc lv st := fun ls hls => va_new C.1 C.2.1 C.2.2.2.2 hin ty hty C.2.2.2.1 (C.2.2.2.2 _ hcl) (C.2.2.2.2 _ hit) (C.2.2.2.2 _ hini) hK.1 hP hD hS hA hc hfs hcells hslots hd (fun a H1 hP1 hD1 hS1 => by rw [hp]; exact kk a H1 hP1 hD1 hS1 ls hls)
theorem g_newI {v : Int32} (N : Nat) (C : gOk Γ cc nL own) (q : Nat) (hp : pc + 2 = q) (hd : decode cc pc = .ok (.newarray .int, 2)) (hac : Cond.arrayClass .int ∈ AW) (hK : KD Δ (sOf Γ)) (hP : va_P Δ.1 classes ws H) (hD : va_D A ws) (hS : va_S A (sOf Γ).heap H L) (hA : ∀ q, (sOf Γ).heap.size ≤ q → A q) (hv : v.toNatClampNeg = N) (hn : ¬ v < 0) (hb : N * componentBytes .int ≤ 536870912) (hc : k + 1 ≤ R.cells) (hs : n + N ≤ R.slots)
    (kk : ∀ (a : Nat) (H : Heap), va_P Δ.1 classes (ws ++ [(a, .inl (Δ.2.1, N, .inl (fun _ => 0)))]) H → va_D A (ws ++ [(a, .inl (Δ.2.1, N, .inl (fun _ => 0)))]) → va_S A (sOf Γ).heap H L → g Γ R nL H L (k + 1) (n + N) q lv (.ref a :: st)) : g Γ R nL H L k n pc lv (.int v :: st) := fun ls hls => va_newa (atype := .int) C.1 C.2.1 (C.2.2.2.2 _ hac) rfl hK.1 hP hD hS hA (a0 := (N, .inl (fun _ => 0))) (fun _ => rfl) hn hv hb hc hs hd (fun a cA H1 hK1 hP1 hD1 hS1 => by
  have e := cA_I hK1
  subst e
  rw [hp]
  exact kk a H1 hP1 hD1 hS1 ls hls)
theorem g_newJ {v : Int32} (N : Nat) (C : gOk Γ cc nL own) (q : Nat) (hp : pc + 2 = q) (hd : decode cc pc = .ok (.newarray .long, 2)) (hac : Cond.arrayClass .long ∈ AW) (hK : KD Δ (sOf Γ)) (hP : va_P Δ.1 classes ws H) (hD : va_D A ws) (hS : va_S A (sOf Γ).heap H L) (hA : ∀ q, (sOf Γ).heap.size ≤ q → A q) (hv : v.toNatClampNeg = N) (hn : ¬ v < 0) (hb : N * componentBytes .long ≤ 536870912) (hc : k + 1 ≤ R.cells) (hs : n + N ≤ R.slots)
    (kk : ∀ (a : Nat) (H : Heap), va_P Δ.1 classes (ws ++ [(a, .inl (Δ.2.2.1, N, .inr (.inl (fun _ => 0))))]) H → va_D A (ws ++ [(a, .inl (Δ.2.2.1, N, .inr (.inl (fun _ => 0))))]) → va_S A (sOf Γ).heap H L → g Γ R nL H L (k + 1) (n + N) q lv (.ref a :: st)) : g Γ R nL H L k n pc lv (.int v :: st) := fun ls hls => va_newa (atype := .long) C.1 C.2.1 (C.2.2.2.2 _ hac) rfl hK.1 hP hD hS hA (a0 := (N, .inr (.inl (fun _ => 0)))) (fun _ => rfl) hn hv hb hc hs hd (fun a cA H1 hK1 hP1 hD1 hS1 => by
  have e := cA_J hK1
  subst e
  rw [hp]
  exact kk a H1 hP1 hD1 hS1 ls hls)
theorem g_newZ {v : Int32} (N : Nat) (C : gOk Γ cc nL own) (q : Nat) (hp : pc + 2 = q) (hd : decode cc pc = .ok (.newarray .boolean, 2)) (hac : Cond.arrayClass .boolean ∈ AW) (hK : KD Δ (sOf Γ)) (hP : va_P Δ.1 classes ws H) (hD : va_D A ws) (hS : va_S A (sOf Γ).heap H L) (hA : ∀ q, (sOf Γ).heap.size ≤ q → A q) (hv : v.toNatClampNeg = N) (hn : ¬ v < 0) (hb : N * componentBytes .boolean ≤ 536870912) (hc : k + 1 ≤ R.cells) (hs : n + N ≤ R.slots)
    (kk : ∀ (a : Nat) (H : Heap), va_P Δ.1 classes (ws ++ [(a, .inl (Δ.2.2.2.1, N, .inl (fun _ => 0)))]) H → va_D A (ws ++ [(a, .inl (Δ.2.2.2.1, N, .inl (fun _ => 0)))]) → va_S A (sOf Γ).heap H L → g Γ R nL H L (k + 1) (n + N) q lv (.ref a :: st)) : g Γ R nL H L k n pc lv (.int v :: st) := fun ls hls => va_newa (atype := .boolean) C.1 C.2.1 (C.2.2.2.2 _ hac) rfl hK.1 hP hD hS hA (a0 := (N, .inl (fun _ => 0))) (fun _ => rfl) hn hv hb hc hs hd (fun a cA H1 hK1 hP1 hD1 hS1 => by
  have e := cA_Z hK1
  subst e
  rw [hp]
  exact kk a H1 hP1 hD1 hS1 ls hls)
theorem g_newT {v : Int32} {idx : Nat} (N : Nat) (C : gOk Γ cc nL own) (q : Nat) (hp : pc + 3 = q) (hd : decode cc pc = .ok (.anewarray idx, 3)) (hcl : Cond.classLink own idx "OathPermit$Town" ∈ AW) (hK : KD Δ (sOf Γ)) (hP : va_P Δ.1 classes ws H) (hD : va_D A ws) (hS : va_S A (sOf Γ).heap H L) (hA : ∀ q, (sOf Γ).heap.size ≤ q → A q) (hv : v.toNatClampNeg = N) (hn : ¬ v < 0) (hb : N * 4 ≤ 536870912) (hc : k + 1 ≤ R.cells) (hs : n + N ≤ R.slots)
    (kk : ∀ (a : Nat) (H : Heap), va_P Δ.1 classes (ws ++ [(a, .inl (Δ.2.2.2.2, N, .inr (.inr (.inr (.inr (fun _ => none))))))]) H → va_D A (ws ++ [(a, .inl (Δ.2.2.2.2, N, .inr (.inr (.inr (.inr (fun _ => none))))))]) → va_S A (sOf Γ).heap H L → g Γ R nL H L (k + 1) (n + N) q lv (.ref a :: st)) : g Γ R nL H L k n pc lv (.int v :: st) := fun ls hls => va_newq C.1 C.2.1 C.2.2.2.1 (C.2.2.2.2 _ hcl) hK.2.2 hK.1 hP hD hS hA hn hv hb hc hs hd (fun a cA H1 hK1 hP1 hD1 hS1 => by
  have e := cA_T hK1
  subst e
  rw [hp]
  exact kk a H1 hP1 hD1 hS1 ls hls)
theorem g_putF {ref C0 : String} {T : u_T} {N ci idx : Nat} {a : Nat} {v : Value} (ws2 : va_W) (C : gOk Γ cc nL own) (hname : Γ.2.2.2.2.2.2.2.1.name = "<init>") (q : Nat) (hp : pc + 3 = q) (hd : decode cc pc = .ok (.putfield idx, 3)) (hK : KD Δ (sOf Γ)) (hP : va_P Δ.1 classes ws H) (hD : va_D A ws) (hS : va_S A (sOf Γ).heap H L) (hin : ∀ w ∈ u_ws C0 T N, w ∈ AW) {ty0 : Nat → FieldType} (hty : ∀ k, k < N → parseFieldDescriptor (T k).2.2.1 = some (ty0 k)) (hnm : ∀ a, a < N → ∀ b, b < N → a ≠ b → (T a).2.1 ≠ (T b).2.1) (q0 kf : Nat) (hk : kf < N) (hl : Cond.fieldLink own idx ref (T kf).2.1 (T kf).2.2.1 ∈ AW) (href : (T kf).1 = ref) {fs : List Value} (he : ws[q0]? = some (a, .inr (ci, fs))) (hc : classes[ci]? = some (C0, T, N)) (hfin : (T kf).2.2.2 = true) (hdecl : (T kf).1 = own) (hn : narrow (ty0 kf) v = v) (hfit : fits (ty0 kf) v = true) (hlen : kf < fs.length) (hw : ws.set q0 (a, .inr (ci, fs.set kf v)) = ws2)
    (kk : ∀ (H : Heap) (L : List Loc), va_P Δ.1 classes ws2 H → va_D A ws2 → va_S A (sOf Γ).heap H L → g Γ R nL H L k n q lv st) : g Γ R nL H L k n pc lv (v :: .ref a :: st) := fun ls hls => va_putF C.1 C.2.1 C.2.2.2.2 hin ty0 hty hnm C.2.2.2.1 hK.1 hP hD hS q0 he hc kf hk (C.2.2.2.2 _ hl) (fun _ h9 => by rw [← href]; exact h9) hfin hname hdecl (hty kf hk) hn hfit hlen hd (fun H1 L1 hP1 hD1 hS1 => by rw [hp]; exact kk H1 L1 (hw ▸ hP1) (hw ▸ hD1) hS1 ls hls)
theorem g_objInit {idx a : Nat} (C : gOk Γ cc nL own) (q : Nat) (hp : pc + 3 = q) (hd : decode cc pc = .ok (.invokespecial idx, 3)) (hl : Cond.methodLink own idx Lib.objectInit ∈ AW) (him : Cond.instanceMethod Lib.objectInit ∈ AW) (hco : Cond.code Lib.objectInit ⟨#[0xb1]⟩ 1 none ∈ AW) (hR : 1 ≤ R.frames ∧ 12 ≤ R.locals) (kk : g Γ R nL H L k n q lv []) : g Γ R nL H L k n pc lv [.ref a] := fun ls hls => W.objInit C.1 C.2.1 C.2.2.2.1 (C.2.2.2.2 _ hl) (C.2.2.2.2 _ him) (C.2.2.2.2 _ hco) rfl (hls.1.trans C.2.2.1.symm) rfl hd hR.1 (by simpa using hR.2) (W.eq (g2 := F0 Γ.2.2.2.2.1 q ls []) (by rw [← hp]) (kk ls hls))
end MK
def MIq (Δ : gD) (h : Nat) (e0 : va_E) (w1 : (Nat → Nat) → va_W) (sz : Nat) : Array Value → State → Outcome → State → Prop := fun _ st o t => (∃ a : Nat → Nat, a 0 = h ∧ o = .returned none ∧ va_P Δ.1 classes (w1 a) t.heap ∧ va_D (va_A [(h, e0)] sz) (w1 a)) ∧ va_F (va_A [(h, e0)] sz) st t
def MI (l : Launch) (y : MethodName) (b : ByteArray) (n : Nat) (Δ : gD) (e0 : va_E) (mc ms f x : Nat) (w1 : (Nat → Nat) → va_W) : Prop :=
  ∀ h sz : Nat, Met l y (.code y b n none :: AW) { frames := f, cells := mc, slots := ms, locals := x } (MWp Δ [(h, e0)] [.ref h] sz) (MIq Δ h e0 w1 sz) mc ms (va_A [(h, e0)] sz)
theorem MI.of {l : Launch} {y : MethodName} {b : ByteArray} {n : Nat} {Δ : gD} {e0 : va_E} {mc ms f x : Nat} {w1 : (Nat → Nat) → va_W} (hy : plainName y.cls = true) (hyn : y.name = "<init>") (hn : 1 ≤ n)
    (body : ∀ (Γ : gT) (A : Nat → Prop) (H : Heap) (h : Nat), Γ.2.1 = l → gOk Γ b n y.cls → Γ.2.2.2.2.2.2.2.1.name = "<init>" → KD Δ (sOf Γ) → va_P Δ.1 classes [(h, e0)] H → va_D A [(h, e0)] → va_S A (sOf Γ).heap H [] → (∀ q, (sOf Γ).heap.size ≤ q → A q) →
      (∀ (a : Nat → Nat) (H : Heap) (L : List Loc), a 0 = h → va_P Δ.1 classes (w1 a) H → va_D A (w1 a) → va_S A (sOf Γ).heap H L → ∀ (pc : Nat) (lv : List (Nat × Value)), decode b pc = .ok (.return_, 1) → g Γ { frames := f, cells := mc, slots := ms, locals := x } n H L mc ms pc lv []) →
      g Γ { frames := f, cells := mc, slots := ms, locals := x } n H [] 0 0 0 [(0, .ref h)] []) : MI l y b n Δ e0 mc ms f x w1 := by
  intro h sz
  refine Met.ofW (cc := b) (maxL := n) (ret := none) hy rfl ?_
  intro p e s m args below meth c s₁ B hml hv
  obtain ⟨rfl, rfl, hP, hK, hD0⟩ := hv
  have hr := B.returns
  have hts := atoms_spec (ws := .code y b n none :: AW) B.pre
  have hlocks := B.notSynchronized
  have hl := lv_entry [.ref h] (n := n) (by simpa [lg_sl, Value.category] using hn)
  rw [lg_entry_eq]
  refine body (p, l, e, s, m, [Value.ref h].toArray, below, meth, c, MQ below (MIq Δ h e0 w1 s.heap.size) [Value.ref h].toArray s mc ms (va_A [(h, e0)] s.heap.size)) (va_A [(h, e0)] s.heap.size) s.heap h rfl ⟨B.exec, B.bytes, hml, findClass_of_methodNamed B.named, fun w h => hts w (List.mem_cons_of_mem _ h)⟩ ((name_of_methodNamed B.named B.method).1.trans hyn) hK hP (hD0.self (sz := s.heap.size)) va_S.rf (fun q h => Or.inr h) ?_ _ hl
  intro a H L ha hP2 hD2 hS2 pc lv hd ls hls
  show W p l e _ s m [Value.ref h].toArray below meth c H L mc ms (MQ below (MIq Δ h e0 w1 s.heap.size) [Value.ref h].toArray s mc ms (va_A [(h, e0)] s.heap.size)) (F0 m pc ls [])
  exact W.vret B.exec B.bytes hr (fun t ht hW => ⟨⟨a, ha, rfl, by rw [ht]; exact hP2, hD2⟩, hS2.F ht⟩) hS2.2.2 hd
section MK2
variable {Γ : gT} {R : Room} {nL : Nat} {H : Heap} {L : List Loc} {k n : Nat} {pc : Nat} {lv : List (Nat × Value)} {rest : List Value} {cc : ByteArray} {own : String} {Δ : gD} {A : Nat → Prop} {ws : va_W}
theorem runI_of {ls : Array Slot} {y : MethodName} {b : ByteArray} {nz mc ms f x : Nat} {Pc : Array Value → State → Prop} {Qc : Array Value → State → Outcome → State → Prop} {free : Addr → Prop} {idx : Nat} {h : Nat} (C : gOk Γ cc nL own) (hM : Met Γ.2.1 y (.code y b nz none :: AW) { frames := f, cells := mc, slots := ms, locals := x } Pc Qc mc ms free) (hco : Cond.code y b nz none ∈ AW) (him : Cond.instanceMethod y ∈ AW) (hini : Cond.initialized y.cls ∈ AW) (hl : Cond.methodLink own idx y ∈ AW) (hyn : y.name = "<init>") (hy9 : y.cls ≠ "java/lang/invoke/MethodHandle" ∧ y.cls ≠ "java/lang/invoke/VarHandle" ∧ (parseMethodDescriptor y.desc).map (fun d => d.parameters.length) = some 0) (hR : f + 1 ≤ R.frames ∧ 8 + (nz + 11) + x ≤ R.locals) (hp : PreS (sOf Γ) H Pc [.ref h]) (hsize : ls.size = nL) (hW : 2 * (F0 Γ.2.2.2.2.1 pc ls (.ref h :: rest)).monitorRoom + (rest.map fun v => v.category).sum ≤ 8) (hd : decode cc pc = .ok (.invokespecial idx, 3)) (hf : k + mc ≤ R.cells ∧ n + ms ≤ R.slots) :
    va_Run Γ.1 Γ.2.1 Γ.2.2.1 R (sOf Γ) Γ.2.2.2.2.1 Γ.2.2.2.2.2.1 Γ.2.2.2.2.2.2.1 Γ.2.2.2.2.2.2.2.1 Γ.2.2.2.2.2.2.2.2.1 H L k n mc ms (F0 Γ.2.2.2.2.1 pc ls (.ref h :: rest)) rest (Qc [Value.ref h].toArray) free :=
  va_runI (As := []) (Ts := AW) ⟨C.1, C.2.1, C.2.2.1, C.2.2.2.1, C.2.2.2.2⟩ hM ⟨callB_of 0 C.2.2.2.2 (gAW hco) rfl rfl rfl (C.2.2.2.2 _ hini) (C.2.2.2.2 _ hl) hy9 hR, hyn, C.2.2.2.2 _ him⟩ hp rfl rfl hsize rfl hW hd hf
theorem g_callI {wr : va_W} {h : Nat} {e0 : va_E} {y : MethodName} {b : ByteArray} {nz mc ms f x idx : Nat} {w1 : (Nat → Nat) → va_W} (C : gOk Γ cc nL own) (q : Nat) (hp : pc + 3 = q) (hd : decode cc pc = .ok (.invokespecial idx, 3)) (hM : MI Γ.2.1 y b nz Δ e0 mc ms f x w1) (hco : Cond.code y b nz none ∈ AW) (him : Cond.instanceMethod y ∈ AW) (hini : Cond.initialized y.cls ∈ AW) (hl : Cond.methodLink own idx y ∈ AW) (hyn : y.name = "<init>") (hy9 : y.cls ≠ "java/lang/invoke/MethodHandle" ∧ y.cls ≠ "java/lang/invoke/VarHandle" ∧ (parseMethodDescriptor y.desc).map (fun d => d.parameters.length) = some 0) (hK : KD Δ (sOf Γ)) (hP : va_P Δ.1 classes ws H) (hD : va_D A ws) (hS : va_S A (sOf Γ).heap H L) (hA : ∀ q, (sOf Γ).heap.size ≤ q → A q) (isC isR : List Nat) (hC : isC.map (fun i => ws[i]?) = [(h, e0)].map some) (hRr : isR.map (fun i => ws[i]?) = wr.map some) (hRn : va_nd isR = true) (hC2 : va_nd isC = true) (hdis : ∀ i ∈ isR, i ∉ isC) (hR : f + 1 ≤ R.frames ∧ 8 + (nz + 11) + x ≤ R.locals) (hW : (rest.map fun v => v.category).sum ≤ 8) (hf : k + mc ≤ R.cells ∧ n + ms ≤ R.slots)
    (kk : ∀ (a : Nat → Nat) (H : Heap) (L : List Loc), a 0 = h → va_P Δ.1 classes (wr ++ w1 a) H → va_D A (wr ++ w1 a) → va_S A (sOf Γ).heap H L → g Γ R nL H L (k + mc) (n + ms) q lv rest) : g Γ R nL H L k n pc lv (.ref h :: rest) := by
  intro ls hls
  subst hp
  have hPc : va_P Δ.1 classes [(h, e0)] H := by
    intro k9 q9 h9
    have h1 : (isC.map (fun i => ws[i]?))[k9]? = some (some q9) := by rw [hC, List.getElem?_map, h9]; rfl
    rw [List.getElem?_map] at h1
    cases hi : isC[k9]? with
    | none => rw [hi] at h1; cases h1
    | some i => rw [hi] at h1; exact hP i q9 (Option.some.inj h1)
  have hDc : va_D A [(h, e0)] := hD.sub isC hC2 hC
  have hFc : ∀ q, va_A [(h, e0)] H.size q → A q := va_free hD hS hA isC hC
  have hr := runI_of (L := L) (k := k) (n := n) (rest := rest) (ls := ls) C (hM h H.size) hco him hini hl hyn hy9 hR ⟨MWp.blind, fun U hU hW9 => ⟨rfl, by rw [hU], by rw [hU]; exact hPc, KD.warm hW9 hK, hDc.weaken (fun _ _ _ _ => trivial)⟩⟩ hls.1 (by show 2 * 0 + _ ≤ 8; omega) hd hf
  intro T hT X
  obtain ⟨v9, st₀, t, T', L9, h0, X', hL, e1, e2, ⟨⟨a, ha, hv, hp1, hd1⟩, hz9, hk9⟩, st⟩ := hr T hT X
  cases hv
  rw [h0] at hz9 hk9
  obtain ⟨hPj, hDj⟩ := va_join hP hD isC isR hC hRr hRn hdis hk9 hFc hp1 hd1
  have hS2 : va_S A (sOf Γ).heap T'.heap (L ++ L9) := ⟨Nat.le_trans hS.1 (by rw [e1]; exact hz9), fun q h1 h2 => by rw [e1, hk9 q (Nat.lt_of_lt_of_le h1 hS.1) (fun z => h2 (hFc q z))]; exact hS.2.1 q h1 h2, fun q hq => by
      rcases List.mem_append.mp hq with h | h
      · exact hS.2.2 q h
      · exact hFc _ (hL q h)⟩
  obtain ⟨t2, a1, b1⟩ := kk a T'.heap (L ++ L9) ha (by rw [e1]; exact hPj) hDj hS2 ls hls T' rfl X'
  exact ⟨t2, st t2 a1, b1⟩
end MK2
