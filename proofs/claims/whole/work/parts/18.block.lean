/-! calls out of a block of a world, the law's world, the law's cases -/
theorem cutB {Δ : gD} {P wc S : va_W} {H : Heap} (hP : va_P Δ.1 classes (P ++ (wc ++ S)) H) : va_P Δ.1 classes wc H := by
  intro k q hk
  have hl : k < wc.length := (List.getElem?_eq_some_iff.mp hk).1
  refine hP (P.length + k) q ?_
  rw [List.getElem?_append_right (by omega), List.getElem?_append_left (by omega)]
  rw [show P.length + k - P.length = k by omega]
  exact hk
theorem cutBD {A : Nat → Prop} {P wc S : va_W} (hD : va_D A (P ++ (wc ++ S))) : va_D A wc := by
  have key : ∀ (k : Nat) (q : Nat × va_E), wc[k]? = some q → (P ++ (wc ++ S))[P.length + k]? = some q := by
    intro k q hk
    have hl : k < wc.length := (List.getElem?_eq_some_iff.mp hk).1
    rw [List.getElem?_append_right (by omega), List.getElem?_append_left (by omega)]
    rw [show P.length + k - P.length = k by omega]
    exact hk
  refine ⟨fun i j p q hp hq e => ?_, fun k q hk => hD.2 _ q (key k q hk)⟩
  have h1 := hD.1 _ _ p q (key i p hp) (key j q hq) e
  omega
theorem freeB {A : Nat → Prop} {P wc S : va_W} {H0 H : Heap} {L : List Loc} (hD : va_D A (P ++ (wc ++ S))) (hS : va_S A H0 H L) (hA : ∀ q, H0.size ≤ q → A q) : ∀ q, va_A wc H.size q → A q := by
  intro q h
  rcases h with ⟨k, e, h⟩ | h
  · exact (cutBD hD).2 k (q, e) h
  · exact hA q (Nat.le_trans hS.1 h)
theorem joinB {Δ : gD} {A : Nat → Prop} {P wc w1 S : va_W} {H H1 : Heap} (hP : va_P Δ.1 classes (P ++ (wc ++ S)) H) (hD : va_D A (P ++ (wc ++ S))) (hk : ∀ q : Nat, q < H.size → ¬ va_A wc H.size q → H1[q]? = H[q]?) (hP1 : va_P Δ.1 classes w1 H1) : va_P Δ.1 classes (P ++ (w1 ++ S)) H1 := by
  have keep : ∀ (i : Nat) (q : Nat × va_E), (P ++ (wc ++ S))[i]? = some q → (i < P.length ∨ P.length + wc.length ≤ i) → va_at Δ.1 classes q H1 := by
    intro i q hi ho
    have h0 := hP i q hi
    refine va_at.kept h0 (hk q.1 h0.lt ?_)
    rintro (⟨k, e, hk9⟩ | hge)
    · have hl : k < wc.length := (List.getElem?_eq_some_iff.mp hk9).1
      have h1 : (P ++ (wc ++ S))[P.length + k]? = some (q.1, e) := by
        rw [List.getElem?_append_right (by omega), List.getElem?_append_left (by omega)]
        rw [show P.length + k - P.length = k by omega]
        exact hk9
      have := hD.1 i (P.length + k) q (q.1, e) hi h1 rfl
      omega
    · exact absurd h0.lt (by omega)
  intro k q hq
  by_cases h1 : k < P.length
  · rw [List.getElem?_append_left h1] at hq
    exact keep k q (by rw [List.getElem?_append_left h1]; exact hq) (Or.inl h1)
  · rw [List.getElem?_append_right (by omega)] at hq
    by_cases h2 : k - P.length < w1.length
    · rw [List.getElem?_append_left h2] at hq
      exact hP1 _ q hq
    · rw [List.getElem?_append_right (by omega)] at hq
      refine keep (P.length + (wc.length + (k - P.length - w1.length))) q ?_ (Or.inr (by omega))
      rw [List.getElem?_append_right (by omega), List.getElem?_append_right (by omega)]
      rw [show P.length + (wc.length + (k - P.length - w1.length)) - P.length - wc.length = k - P.length - w1.length by omega]
      exact hq
theorem joinBD {Δ : gD} {A : Nat → Prop} {P wc w1 S : va_W} {H : Heap} (hP : va_P Δ.1 classes (P ++ (wc ++ S)) H) (hD : va_D A (P ++ (wc ++ S))) (hF : ∀ (k : Nat) (q : Nat × va_E), w1[k]? = some q → va_A wc H.size q.1 → A q.1) (hD1 : va_D (va_A wc H.size) w1) : va_D A (P ++ (w1 ++ S)) := by
  have old : ∀ (i : Nat) (q : Nat × va_E), (P ++ (wc ++ S))[i]? = some q → (i < P.length ∨ P.length + wc.length ≤ i) → ¬ va_A wc H.size q.1 := by
    intro i q hi ho
    have h0 := hP i q hi
    rintro (⟨k, e, hk9⟩ | hge)
    · have hl : k < wc.length := (List.getElem?_eq_some_iff.mp hk9).1
      have h1 : (P ++ (wc ++ S))[P.length + k]? = some (q.1, e) := by
        rw [List.getElem?_append_right (by omega), List.getElem?_append_left (by omega)]
        rw [show P.length + k - P.length = k by omega]
        exact hk9
      have := hD.1 i (P.length + k) q (q.1, e) hi h1 rfl
      omega
    · exact absurd h0.lt (by omega)
  -- where an entry of the new list stands: in w1, or in the old list out of wc
  have cl : ∀ (k : Nat) (q : Nat × va_E), (P ++ (w1 ++ S))[k]? = some q → (P.length ≤ k ∧ k < P.length + w1.length ∧ w1[k - P.length]? = some q) ∨ (∃ i, (P ++ (wc ++ S))[i]? = some q ∧ (i < P.length ∨ P.length + wc.length ≤ i) ∧ ((k < P.length ∧ i = k) ∨ (P.length + w1.length ≤ k ∧ i = k - w1.length + wc.length))) := by
    intro k q hq
    by_cases h1 : k < P.length
    · rw [List.getElem?_append_left h1] at hq
      exact Or.inr ⟨k, by rw [List.getElem?_append_left h1]; exact hq, Or.inl h1, Or.inl ⟨h1, rfl⟩⟩
    · rw [List.getElem?_append_right (by omega)] at hq
      by_cases h2 : k - P.length < w1.length
      · rw [List.getElem?_append_left h2] at hq
        exact Or.inl ⟨by omega, by omega, hq⟩
      · rw [List.getElem?_append_right (by omega)] at hq
        refine Or.inr ⟨k - w1.length + wc.length, ?_, Or.inr (by omega), Or.inr ⟨by omega, rfl⟩⟩
        rw [List.getElem?_append_right (by omega), List.getElem?_append_right (by omega)]
        rw [show k - w1.length + wc.length - P.length - wc.length = k - P.length - w1.length by omega]
        exact hq
  refine ⟨fun i j p q hp hq e => ?_, fun k q hk => ?_⟩
  · rcases cl i p hp with ⟨a1, a2, a3⟩ | ⟨i2, a1, a2, a3⟩
    · rcases cl j q hq with ⟨b1, b2, b3⟩ | ⟨j2, b1, b2, b3⟩
      · have := hD1.1 _ _ p q a3 b3 e
        omega
      · exact absurd (by rw [← e]; exact hD1.2 _ p a3) (old j2 q b1 b2)
    · rcases cl j q hq with ⟨b1, b2, b3⟩ | ⟨j2, b1, b2, b3⟩
      · exact absurd (by rw [e]; exact hD1.2 _ q b3) (old i2 p a1 a2)
      · have := hD.1 i2 j2 p q a1 b1 e
        omega
  · rcases cl k q hk with ⟨a1, a2, a3⟩ | ⟨i2, a1, a2, a3⟩
    · exact hF _ q a3 (hD1.2 _ q a3)
    · exact hD.2 i2 q a1
section BK
variable {Γ : gT} {R : Room} {nL : Nat} {H : Heap} {L : List Loc} {k n : Nat} {pc : Nat} {lv : List (Nat × Value)} {rest : List Value} {cc : ByteArray} {own : String}
theorem g_callWB {Δ : gD} {A : Nat → Prop} {wc w1 : va_W} (P S : va_W) {a : Nat} {As : List Value} {y : MethodName} {b : ByteArray} {nz np f x : Nat} {ret : Option FieldType} {v : Option Value} {idx ci : Nat} {fs : List Value} {q0 : vw_C} {st0 : List Value} (C : gOk Γ cc nL own) (q : Nat) (hp : pc + 3 = q) (hd : decode cc pc = .ok (.invokevirtual idx, 3)) (hM : MW Γ.2.1 y b nz ret Δ wc (.ref a :: As) f x v w1) (hz : VF y b nz ret np) (hl : Cond.methodLink own idx y ∈ AW) (hK : KD Δ (sOf Γ)) (hP : va_P Δ.1 classes (P ++ (wc ++ S)) H) (hD : va_D A (P ++ (wc ++ S))) (hS : va_S A (sOf Γ).heap H L) (hA : ∀ q, (sOf Γ).heap.size ≤ q → A q) (had : w1.map Prod.fst = wc.map Prod.fst) (he : wc[0]? = some (a, .inr (ci, fs))) (hc : classes[ci]? = some q0) (hq : q0.1 = y.cls) (hn : As.length = np) (hst : As.reverse ++ .ref a :: rest = st0) (hR : f + 1 ≤ R.frames ∧ 8 + (nz + 11) + x ≤ R.locals) (hW : (rest.map fun v => v.category).sum ≤ 8) (hf : k ≤ R.cells ∧ n ≤ R.slots)
    (kk : ∀ (H : Heap) (L : List Loc), va_P Δ.1 classes (P ++ (w1 ++ S)) H → va_D A (P ++ (w1 ++ S)) → va_S A (sOf Γ).heap H L → g Γ R nL H L k n q lv (v.toList ++ rest)) : g Γ R nL H L k n pc lv st0 := by
  intro ls hls
  subst hst
  subst hp
  have hPc := cutB hP
  have hDc := cutBD hD
  have hFc : ∀ q, va_A wc H.size q → A q := freeB hD hS hA
  have hr := runV_of (R := R) (L := L) (k := k) (n := n) (rest := rest) (g0 := F0 Γ.2.2.2.2.1 pc ls (As.reverse ++ .ref a :: rest)) C (hM H.size) hz hl ⟨rfl, rfl⟩ hR ⟨MWp.blind, g_recv hK hPc he hc hq, fun U hU hW9 => ⟨rfl, by rw [hU], by rw [hU]; exact hPc, KD.warm hW9 hK, hDc.weaken (fun _ _ _ _ => trivial)⟩⟩ rfl hn hls.1 rfl (by show 2 * 0 + _ ≤ 8; omega) hd hf
  intro T hT X
  obtain ⟨v9, st₀, t, T', L9, h0, X', hL, e1, e2, ⟨⟨hv, hp1⟩, hz9, hk9⟩, st⟩ := hr T hT X
  cases hv
  rw [h0] at hz9 hk9
  have hPj := joinB hP hD hk9 hp1
  have hS2 : va_S A (sOf Γ).heap T'.heap (L ++ L9) := ⟨Nat.le_trans hS.1 (by rw [e1]; exact hz9), fun q h1 h2 => by rw [e1, hk9 q (Nat.lt_of_lt_of_le h1 hS.1) (fun z => h2 (hFc q z))]; exact hS.2.1 q h1 h2, fun q hq => by
      rcases List.mem_append.mp hq with h | h
      · exact hS.2.2 q h
      · exact hFc _ (hL q h)⟩
  obtain ⟨t2, a1, b1⟩ := kk T'.heap (L ++ L9) (by rw [e1]; exact hPj) (hD.same (by simp only [List.map_append, had])) hS2 ls hls T' rfl X'
  exact ⟨t2, st t2 a1, b1⟩
theorem g_callNB {Δ : gD} {A : Nat → Prop} {wc : va_W} {w1 : (Nat → Nat) → va_W} (P S : va_W) {a : Nat} {As : List Value} {y : MethodName} {b : ByteArray} {nz np mc ms f x : Nat} {ret : Option FieldType} {v : Value} {idx ci : Nat} {fs : List Value} {q0 : vw_C} {st0 : List Value} (C : gOk Γ cc nL own) (q : Nat) (hp : pc + 3 = q) (hd : decode cc pc = .ok (.invokevirtual idx, 3)) (hM : MN Γ.2.1 y b nz ret Δ wc (.ref a :: As) mc ms f x v w1) (hz : VF y b nz ret np) (hl : Cond.methodLink own idx y ∈ AW) (hK : KD Δ (sOf Γ)) (hP : va_P Δ.1 classes (P ++ (wc ++ S)) H) (hD : va_D A (P ++ (wc ++ S))) (hS : va_S A (sOf Γ).heap H L) (hA : ∀ q, (sOf Γ).heap.size ≤ q → A q) (he : wc[0]? = some (a, .inr (ci, fs))) (hc : classes[ci]? = some q0) (hq : q0.1 = y.cls) (hn : As.length = np) (hst : As.reverse ++ .ref a :: rest = st0) (hR : f + 1 ≤ R.frames ∧ 8 + (nz + 11) + x ≤ R.locals) (hW : (rest.map fun v => v.category).sum ≤ 8) (hf : k + mc ≤ R.cells ∧ n + ms ≤ R.slots)
    (kk : ∀ (b : Nat → Nat) (H : Heap) (L : List Loc), va_P Δ.1 classes (P ++ (w1 b ++ S)) H → va_D A (P ++ (w1 b ++ S)) → va_S A (sOf Γ).heap H L → g Γ R nL H L (k + mc) (n + ms) q lv (v :: rest)) : g Γ R nL H L k n pc lv st0 := by
  intro ls hls
  subst hst
  subst hp
  have hPc := cutB hP
  have hDc := cutBD hD
  have hFc : ∀ q, va_A wc H.size q → A q := freeB hD hS hA
  have hr := va_runV (R := R) (locs := L) (cells := k) (slots := n) (p := Γ.1) (l := Γ.2.1) (e := Γ.2.2.1) (s := sOf Γ) (m := Γ.2.2.2.2.1) (args := Γ.2.2.2.2.2.1) (below := Γ.2.2.2.2.2.2.1) (meth := Γ.2.2.2.2.2.2.2.1) (c := Γ.2.2.2.2.2.2.2.2.1) (rest := rest) (g := F0 Γ.2.2.2.2.1 pc ls (As.reverse ++ .ref a :: rest)) (Ts := AW) ⟨C.1, C.2.1, C.2.2.1, C.2.2.2.1, C.2.2.2.2⟩ (hM H.size) ⟨callB_of np C.2.2.2.2 (gAW hz.1) rfl rfl rfl (C.2.2.2.2 _ hz.2.2.2.1) (C.2.2.2.2 _ hl) hz.2.2.2.2 hR, C.2.2.2.2 _ hz.2.1, C.2.2.2.2 _ hz.2.2.1⟩ (H := H) ⟨MWp.blind, g_recv hK hPc he hc hq, fun U hU hW9 => ⟨rfl, by rw [hU], by rw [hU]; exact hPc, KD.warm hW9 hK, hDc.weaken (fun _ _ _ _ => trivial)⟩⟩ rfl hn hls.1 rfl (by show 2 * 0 + _ ≤ 8; omega) hd hf
  intro T hT X
  obtain ⟨v9, st₀, t, T', L9, h0, X', hL, e1, e2, ⟨⟨b9, hv, hp1, hd1⟩, hz9, hk9⟩, st⟩ := hr T hT X
  cases hv
  rw [h0] at hz9 hk9
  have hPj := joinB hP hD hk9 hp1
  have hDj := joinBD hP hD (fun k q hk h => hFc q.1 h) hd1
  have hS2 : va_S A (sOf Γ).heap T'.heap (L ++ L9) := ⟨Nat.le_trans hS.1 (by rw [e1]; exact hz9), fun q h1 h2 => by rw [e1, hk9 q (Nat.lt_of_lt_of_le h1 hS.1) (fun z => h2 (hFc q z))]; exact hS.2.1 q h1 h2, fun q hq => by
      rcases List.mem_append.mp hq with h | h
      · exact hS.2.2 q h
      · exact hFc _ (hL q h)⟩
  obtain ⟨t2, a1, b1⟩ := kk b9 T'.heap (L ++ L9) (by rw [e1]; exact hPj) hDj hS2 ls hls T' rfl X'
  exact ⟨t2, st t2 a1, b1⟩
theorem g_sld {A : Nat → Prop} {bq Ls : Nat} {xs : Nat → Int32} {i : Int32} {st : List Value} (C : gOk Γ cc nL own) (q : Nat) (hp : pc + 1 = q) (hd : decode cc pc = .ok (.iaload, 1)) (hX : va_X bq Ls xs (sOf Γ) (sOf Γ).heap) (hbl : bq < (sOf Γ).heap.size) (hbA : ¬ A bq) (hS : va_S A (sOf Γ).heap H L) (hin : vp_in i Ls) (kk : g Γ R nL H L k n q lv (.int (xs i.toNatClampNeg) :: st)) : g Γ R nL H L k n pc lv (.int i :: .ref bq :: st) := fun ls hls => va_sld C.1 C.2.1 hX hbl hbA hS hin hd (by rw [hp]; exact kk ls hls)
theorem g_slen {A : Nat → Prop} {bq Ls : Nat} {xs : Nat → Int32} {st : List Value} (C : gOk Γ cc nL own) (q : Nat) (hp : pc + 1 = q) (hd : decode cc pc = .ok (.arraylength, 1)) (hX : va_X bq Ls xs (sOf Γ) (sOf Γ).heap) (hbl : bq < (sOf Γ).heap.size) (hbA : ¬ A bq) (hS : va_S A (sOf Γ).heap H L) (kk : g Γ R nL H L k n q lv (.int (nI Ls) :: st)) : g Γ R nL H L k n pc lv (.ref bq :: st) := fun ls hls => va_slen C.1 C.2.1 hX hbl hbA hS hd (by rw [hp]; exact kk ls hls)
end BK
