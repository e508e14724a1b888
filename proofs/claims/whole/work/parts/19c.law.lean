/-! THE CLAIM OUT OF ONE WALK OF THE LAW'S BODY. Your part is whole_start (and what it stands on); all else here is the same for every law, but numbers. -/
def R_law : String := "OathPermitLaw"
def lw_P (b : Addr) (xs : List Int32) (args : Array Value) (s : State) : Prop := args = #[.ref b] ∧ s.IntsAt b xs ∧ xs.length ≤ 3584 ∧ (Jvm.Cond.and given_1 narrow_1).before args s = true
def lw_Q (_ : Array Value) (s : State) (o : Outcome) (t : State) : Prop := o = .returned (some (.int 1)) ∧ Framed s o t [] 600000 7302250
def lw_Z (below : List Frame) (a : Array Value) (s : State) : State → Prop := fun t => ∃ o, t.status = .running ∧ Ended t below o ∧ lw_Q a s o t
/-- the law's own end, with 1 on the stack, nothing written that was there before, its room as the claim has it -/
theorem lw_ret {p : Program} {l : Launch} {e : Env} {s : State} {m : MethodId} {below : List Frame} {meth : Method} {c : Code} {b : Nat} (hx : p.tables.exec = Jvm.exec) (hb : c.code = code) (hr : meth.sig.returnType = ret) (hlocks : meth.locks = false) {pc : Nat} {H : Heap} {ls : Array Slot} (hdg : decode code pc = .ok (.ireturn, 1)) : W p l e room_1 s m #[Value.ref b] below meth c H [] 600000 7302250 (lw_Z below #[Value.ref b] s) (F0 m pc ls [.int 1]) := by
  intro T hT X
  obtain ⟨fs, hret, hrun, hended, hW, hframe⟩ := X.leave (v := some (.int 1)) (hlocks := hlocks) (fun h => by rw [hr] at h; cases h)
  have hmeth' : T.vm.method? m = some meth := X.method'
  refine ⟨T.setFrames fs, ?_, .returned (some (.int 1)), hrun, hended, rfl, ⟨_, rfl⟩, hW, hframe⟩
  jvm_step X.here [X.here.top, hx, hb, hdg, hmeth', hr, ret, narrow_b1]
  (try refine ⟨rfl, ?_⟩); (try refine ⟨rfl, ?_⟩)
  first | (intro acts; rw [hret _ acts rfl rfl rfl]) | rw [hret _ _ rfl rfl rfl]
  exact Steps.refl _
/-- what holds at the law's entry: the machine, the code, the tables' words (any of lw_tbl by 'hts w (by decide +kernel)'), the script of L ints xs at the cell b, what the Statement gives of the start (any of its parts by flat_of_before) -/
def lw_At (p : Program) (s : State) (m : MethodId) (meth : Method) (c : Code) (b L : Nat) (xs : Nat → Int32) : Prop :=
  p.tables.exec = Jvm.exec ∧ c.code = code ∧ meth.sig.returnType = ret ∧ c.maxLocals = 4 ∧ s.vm.findClass R_law = some m.cls ∧ (∀ w ∈ lw_tbl, w.before #[Value.ref b] s = true) ∧ va_X b L xs s s.heap ∧ b < s.heap.size ∧ meth.locks = false ∧ (Jvm.Cond.and given_1 narrow_1).before #[Value.ref b] s = true
def LawAll (R : lawR) : Prop := hF_one R ∧ hF_leave R ∧ hF_permit R ∧ hF_set R ∧ hF_say R ∧ hF_wipe R ∧ hF_fault R ∧ hF_judge R ∧ hF_behind R ∧ hF_slipped R ∧ hF_done R ∧ hF_hears R ∧ hF_spend R ∧ hF_deal R ∧ hF_seats R ∧ hF_cover R ∧ hF_risk R ∧ hF_seen R ∧ hF_forget R ∧ hF_who R ∧ hF_ask R ∧ hF_quarrel R ∧ hF_year R ∧ hF_image R ∧ hF_restore R ∧ hF_told R
theorem imF_none : imF none none = fun _ => none := by
  funext j
  match j with
  | 0 => rfl
  | 1 => rfl
  | j + 2 => rfl
theorem kC_le (i : Option ((Nat → Nat) × S6)) : kC i ≤ 3 := by cases i <;> simp [kC]
theorem kN_le (i : Option ((Nat → Nat) × S6)) : kN i ≤ 51 := by cases i <;> simp [kN]
theorem rm_c : room_1.cells = 600000 := rfl
theorem rm_s : room_1.slots = 7302250 := rfl
theorem ix_in {q Ls : Nat} (hLs : Ls ≤ 3584) (j : Nat) (h : q + j < Ls) : vp_in (nI q + nI j) Ls := by
  rw [nI_add]
  exact vp_in_nI h (by omega)
theorem ex_le {q Ls : Nat} (hLs : Ls ≤ 3584) (hq : q ≤ Ls + 7) (h : ¬ nI Ls - 7 < nI q) : q + 7 ≤ Ls := by
  by_cases h1 : 7 ≤ Ls
  · have e : nI Ls - 7 = nI (Ls - 7) := pk_sub (a := Ls) (b := 7) h1
    rw [e, nI_ltI (by omega) (by omega)] at h
    omega
  · exfalso
    apply h
    have e : (nI Ls - nI 7).toInt = (Ls : Int) - 7 := pk_sub_toInt (by omega) (by omega)
    rw [Int32.lt_iff_toInt_lt]
    have e2 : (nI q).toInt = (q : Int) := nI_toInt (by omega)
    rw [e2]
    have e3 : (nI Ls - 7).toInt = (Ls : Int) - 7 := e
    rw [e3]
    omega
set_option maxHeartbeats 4000000 in
set_option maxRecDepth 100000 in
theorem law_loop {Γ : gT} {Δ : gD} {A : Nat → Prop} {a d : Nat → Nat} {bq Ls : Nat} {xs : Nat → Int32} (C : gOk Γ cL_law 4 RL) (hK : KD Δ (sOf Γ)) (hA : ∀ q, (sOf Γ).heap.size ≤ q → A q) (hX : va_X bq Ls xs (sOf Γ) (sOf Γ).heap) (hbl : bq < (sOf Γ).heap.size) (hbA : ¬ A bq) (hLs : Ls ≤ 3584) (R : lawR) (hall : LawAll R)
    (hend : ∀ (H : Heap) (L : List Loc) (lv : List (Nat × Value)), va_S A (sOf Γ).heap H L → g Γ room_1 4 H L 600000 7302250 996 lv [.int 1]) :
    ∀ (N q : Nat), q ≤ Ls + 7 → Ls + 8 ≤ q + N → ∀ (s : S8) (m : S9) (i0 i1 : Option ((Nat → Nat) × S6)) (H : Heap) (L : List Loc), R s m (sd i0) (sd i1) → va_P Δ.1 classes (LW a d Δ s m i0 i1) H → va_D A (LW a d Δ s m i0 i1) → va_S A (sOf Γ).heap H L → g Γ room_1 4 H L (49 + kC i0 + kC i1) (6590 + kN i0 + kN i1) 18 [(0, .ref bq), (1, .ref (a 0)), (2, .ref (d 0)), (3, .int (nI q))] [] := by
  intro N
  induction N with
  | zero => intro q h1 h2; exact absurd h2 (by omega)
  | succ N ih =>
    intro q hq hN s m i0 i1 H L hR hP hD hS
    have hkA : ∀ i0 i1 : Option ((Nat → Nat) × S6), 49 + kC i0 + kC i1 ≤ room_1.cells ∧ 6590 + kN i0 + kN i1 ≤ room_1.slots := fun i0 i1 => by
      have := kC_le i0; have := kC_le i1; have := kN_le i0; have := kN_le i1
      rw [rm_c, rm_s]; omega
    have hkB : ∀ i0 i1 : Option ((Nat → Nat) × S6), 49 + kC i0 + kC i1 + 3 ≤ room_1.cells ∧ 6590 + kN i0 + kN i1 + 51 ≤ room_1.slots := fun i0 i1 => by
      have := kC_le i0; have := kC_le i1; have := kN_le i0; have := kN_le i1
      rw [rm_c, rm_s]; omega
    have hk := hkA i0 i1
    refine g_iload_n C 19 rfl dL_law_18 3 rfl ?_
    refine g_aload_n C 20 rfl dL_law_19 0 rfl ?_
    refine g_slen C 21 rfl dL_law_20 hX hbl hbA hS ?_
    refine g_bipush 7 C 23 rfl dL_law_21 kb_7 ?_
    refine g_isub C 24 rfl dL_law_23 ?_
    by_cases hc : nI Ls - 7 < nI q
    · refine s_icmp_gt C 995 27 rfl dL_law_24 (by decide) (u := some ()) (v := none) (r := some ()) (if_pos hc) (fun _ => ?_) (fun h => by cases h)
      refine g_iconst 1 C 996 rfl dL_law_995 ki_1 ?_
      have := kC_le i0; have := kC_le i1; have := kN_le i0; have := kN_le i1
      exact g_widen 600000 7302250 (by omega) (by omega) (hend H L _ hS)
    · refine s_icmp_gt C 995 27 rfl dL_law_24 (by decide) (u := none) (v := some ()) (r := some ()) (if_neg hc) (fun h => by cases h) (fun _ => ?_)
      have h7 := ex_le hLs hq hc
      have hi0 : vp_in (nI q) Ls := vp_in_nI (by omega) (by omega)
      have hi1 : vp_in (nI q + 1) Ls := ix_in hLs 1 (by omega)
      have hi2 : vp_in (nI q + 2) Ls := ix_in hLs 2 (by omega)
      have hi3 : vp_in (nI q + 3) Ls := ix_in hLs 3 (by omega)
      have hi4 : vp_in (nI q + 4) Ls := ix_in hLs 4 (by omega)
      have hi5 : vp_in (nI q + 5) Ls := ix_in hLs 5 (by omega)
      have hi6 : vp_in (nI q + 6) Ls := ix_in hLs 6 (by omega)
      have kk : ∀ (H : Heap) (L : List Loc) (s : S8) (m : S9) (i0 i1 : Option ((Nat → Nat) × S6)), R s m (sd i0) (sd i1) → va_P Δ.1 classes (LW a d Δ s m i0 i1) H → va_D A (LW a d Δ s m i0 i1) → va_S A (sOf Γ).heap H L → g Γ room_1 4 H L (49 + kC i0 + kC i1) (6590 + kN i0 + kN i1) 989 [(0, .ref bq), (1, .ref (a 0)), (2, .ref (d 0)), (3, .int (nI q))] [] := by
        intro H L s m i0 i1 hR hP hD hS
        refine g_iinc (nI (q + 7)) [(3, .int (nI (q + 7))), (0, .ref bq), (1, .ref (a 0)), (2, .ref (d 0))] C 992 rfl dL_law_989 3 rfl ((ii_7 _).trans (nI_add q 7)) (by decide) rfl ?_
        refine g_goto C 18 dL_law_992 (by decide) ?_
        exact g_sub [1, 2, 3, 0] rfl (ih (q + 7) (by omega) (by omega) s m i0 i1 H L hR hP hD hS)
      have kk1 : ∀ (H : Heap) (L : List Loc) (s : S8) (m : S9), R s m (sd i0) (sd i1) → va_P Δ.1 classes (LW a d Δ s m i0 i1) H → va_D A (LW a d Δ s m i0 i1) → va_S A (sOf Γ).heap H L → g Γ room_1 4 H L (49 + kC i0 + kC i1) (6590 + kN i0 + kN i1) 989 [(0, .ref bq), (1, .ref (a 0)), (2, .ref (d 0)), (3, .int (nI q))] [] := fun H L s m => kk H L s m i0 i1
      refine g_aload_n C 28 rfl dL_law_27 0 rfl ?_
      refine g_iload_n C 29 rfl dL_law_28 3 rfl ?_
      refine g_sld C 30 rfl dL_law_29 hX hbl hbA hS hi0 ?_
      refine g_bipush 31 C 32 rfl dL_law_30 kb_31 ?_
      refine g_iand C 33 rfl dL_law_32 ?_
      generalize ((xs (nI q).toNatClampNeg) &&& (31 : Int32)) = sel
      by_cases c0 : sel = 0
      · refine g_tblIn C 152 dL_law_33 (by rw [c0]; decide) (by rw [c0]; decide) (off := 119) (by rw [c0]; rfl) (by decide) ?_
        exact case_one C hK hA hX hbl hbA hk R (hall.1) hi1 hi2 hi3 hi4 hi5 hi6 hR hP hD hS kk1
      by_cases c1 : sel = 1
      · refine g_tblIn C 215 dL_law_33 (by rw [c1]; decide) (by rw [c1]; decide) (off := 182) (by rw [c1]; rfl) (by decide) ?_
        exact case_leave C hK hA hX hbl hbA hk R (hall.2.1) hi1 hi2 hi3 hi4 hi5 hi6 hR hP hD hS kk1
      by_cases c2 : sel = 2
      · refine g_tblIn C 238 dL_law_33 (by rw [c2]; decide) (by rw [c2]; decide) (off := 205) (by rw [c2]; rfl) (by decide) ?_
        exact case_permit C hK hA hX hbl hbA hk R (hall.2.2.1) hi1 hi2 hi3 hi4 hi5 hi6 hR hP hD hS kk1
      by_cases c3 : sel = 3
      · refine g_tblIn C 271 dL_law_33 (by rw [c3]; decide) (by rw [c3]; decide) (off := 238) (by rw [c3]; rfl) (by decide) ?_
        exact case_set C hK hA hX hbl hbA hk R (hall.2.2.2.1) hi1 hi2 hi3 hi4 hi5 hi6 hR hP hD hS kk1
      by_cases c4 : sel = 4
      · refine g_tblIn C 304 dL_law_33 (by rw [c4]; decide) (by rw [c4]; decide) (off := 271) (by rw [c4]; rfl) (by decide) ?_
        exact case_say C hK hA hX hbl hbA hk R (hall.2.2.2.2.1) hi1 hi2 hi3 hi4 hi5 hi6 hR hP hD hS kk1
      by_cases c5 : sel = 5
      · refine g_tblIn C 327 dL_law_33 (by rw [c5]; decide) (by rw [c5]; decide) (off := 294) (by rw [c5]; rfl) (by decide) ?_
        exact case_wipe C hK hA hX hbl hbA hk R (hall.2.2.2.2.2.1) hi1 hi2 hi3 hi4 hi5 hi6 hR hP hD hS kk1
      by_cases c6 : sel = 6
      · refine g_tblIn C 340 dL_law_33 (by rw [c6]; decide) (by rw [c6]; decide) (off := 307) (by rw [c6]; rfl) (by decide) ?_
        exact case_fault C hK hA hX hbl hbA hk R (hall.2.2.2.2.2.2.1) hi1 hi2 hi3 hi4 hi5 hi6 hR hP hD hS kk1
      by_cases c7 : sel = 7
      · refine g_tblIn C 353 dL_law_33 (by rw [c7]; decide) (by rw [c7]; decide) (off := 320) (by rw [c7]; rfl) (by decide) ?_
        exact case_judge C hK hA hX hbl hbA hk R (hall.2.2.2.2.2.2.2.1) hi1 hi2 hi3 hi4 hi5 hi6 hR hP hD hS kk1
      by_cases c8 : sel = 8
      · refine g_tblIn C 376 dL_law_33 (by rw [c8]; decide) (by rw [c8]; decide) (off := 343) (by rw [c8]; rfl) (by decide) ?_
        exact case_behind C hK hA hX hbl hbA hk R (hall.2.2.2.2.2.2.2.2.1) hi1 hi2 hi3 hi4 hi5 hi6 hR hP hD hS kk1
      by_cases c9 : sel = 9
      · refine g_tblIn C 409 dL_law_33 (by rw [c9]; decide) (by rw [c9]; decide) (off := 376) (by rw [c9]; rfl) (by decide) ?_
        exact case_slipped C hK hA hX hbl hbA hk R (hall.2.2.2.2.2.2.2.2.2.1) hi1 hi2 hi3 hi4 hi5 hi6 hR hP hD hS kk1
      by_cases c10 : sel = 10
      · refine g_tblIn C 432 dL_law_33 (by rw [c10]; decide) (by rw [c10]; decide) (off := 399) (by rw [c10]; rfl) (by decide) ?_
        exact case_done C hK hA hX hbl hbA hk R (hall.2.2.2.2.2.2.2.2.2.2.1) hi1 hi2 hi3 hi4 hi5 hi6 hR hP hD hS kk1
      by_cases c11 : sel = 11
      · refine g_tblIn C 445 dL_law_33 (by rw [c11]; decide) (by rw [c11]; decide) (off := 412) (by rw [c11]; rfl) (by decide) ?_
        exact case_hears C hK hA hX hbl hbA hk R (hall.2.2.2.2.2.2.2.2.2.2.2.1) hi1 hi2 hi3 hi4 hi5 hi6 hR hP hD hS kk1
      by_cases c12 : sel = 12
      · refine g_tblIn C 468 dL_law_33 (by rw [c12]; decide) (by rw [c12]; decide) (off := 435) (by rw [c12]; rfl) (by decide) ?_
        exact case_spend C hK hA hX hbl hbA hk R (hall.2.2.2.2.2.2.2.2.2.2.2.2.1) hi1 hi2 hi3 hi4 hi5 hi6 hR hP hD hS kk1
      by_cases c13 : sel = 13
      · refine g_tblIn C 521 dL_law_33 (by rw [c13]; decide) (by rw [c13]; decide) (off := 488) (by rw [c13]; rfl) (by decide) ?_
        exact case_deal C hK hA hX hbl hbA hk R (hall.2.2.2.2.2.2.2.2.2.2.2.2.2.1) hi1 hi2 hi3 hi4 hi5 hi6 hR hP hD hS kk1
      by_cases c14 : sel = 14
      · refine g_tblIn C 564 dL_law_33 (by rw [c14]; decide) (by rw [c14]; decide) (off := 531) (by rw [c14]; rfl) (by decide) ?_
        exact case_seats C hK hA hX hbl hbA hk R (hall.2.2.2.2.2.2.2.2.2.2.2.2.2.2.1) hi1 hi2 hi3 hi4 hi5 hi6 hR hP hD hS kk1
      by_cases c15 : sel = 15
      · refine g_tblIn C 597 dL_law_33 (by rw [c15]; decide) (by rw [c15]; decide) (off := 564) (by rw [c15]; rfl) (by decide) ?_
        exact case_cover C hK hA hX hbl hbA hk R (hall.2.2.2.2.2.2.2.2.2.2.2.2.2.2.2.1) hi1 hi2 hi3 hi4 hi5 hi6 hR hP hD hS kk1
      by_cases c16 : sel = 16
      · refine g_tblIn C 660 dL_law_33 (by rw [c16]; decide) (by rw [c16]; decide) (off := 627) (by rw [c16]; rfl) (by decide) ?_
        exact case_risk C hK hA hX hbl hbA hk R (hall.2.2.2.2.2.2.2.2.2.2.2.2.2.2.2.2.1) hi1 hi2 hi3 hi4 hi5 hi6 hR hP hD hS kk1
      by_cases c17 : sel = 17
      · refine g_tblIn C 736 dL_law_33 (by rw [c17]; decide) (by rw [c17]; decide) (off := 703) (by rw [c17]; rfl) (by decide) ?_
        exact case_seen C hK hA hX hbl hbA hk R (hall.2.2.2.2.2.2.2.2.2.2.2.2.2.2.2.2.2.1) hi1 hi2 hi3 hi4 hi5 hi6 hR hP hD hS kk1
      by_cases c18 : sel = 18
      · refine g_tblIn C 785 dL_law_33 (by rw [c18]; decide) (by rw [c18]; decide) (off := 752) (by rw [c18]; rfl) (by decide) ?_
        exact case_forget C hK hA hX hbl hbA hk R (hall.2.2.2.2.2.2.2.2.2.2.2.2.2.2.2.2.2.2.1) hi1 hi2 hi3 hi4 hi5 hi6 hR hP hD hS kk1
      by_cases c19 : sel = 19
      · refine g_tblIn C 798 dL_law_33 (by rw [c19]; decide) (by rw [c19]; decide) (off := 765) (by rw [c19]; rfl) (by decide) ?_
        exact case_who C hK hA hX hbl hbA hk R (hall.2.2.2.2.2.2.2.2.2.2.2.2.2.2.2.2.2.2.2.1) hi1 hi2 hi3 hi4 hi5 hi6 hR hP hD hS kk1
      by_cases c20 : sel = 20
      · refine g_tblIn C 811 dL_law_33 (by rw [c20]; decide) (by rw [c20]; decide) (off := 778) (by rw [c20]; rfl) (by decide) ?_
        exact case_ask C hK hA hX hbl hbA hk R (hall.2.2.2.2.2.2.2.2.2.2.2.2.2.2.2.2.2.2.2.2.1) hi1 hi2 hi3 hi4 hi5 hi6 hR hP hD hS kk1
      by_cases c21 : sel = 21
      · refine g_tblIn C 834 dL_law_33 (by rw [c21]; decide) (by rw [c21]; decide) (off := 801) (by rw [c21]; rfl) (by decide) ?_
        exact case_quarrel C hK hA hX hbl hbA hk R (hall.2.2.2.2.2.2.2.2.2.2.2.2.2.2.2.2.2.2.2.2.2.1) hi1 hi2 hi3 hi4 hi5 hi6 hR hP hD hS kk1
      by_cases c22 : sel = 22
      · refine g_tblIn C 877 dL_law_33 (by rw [c22]; decide) (by rw [c22]; decide) (off := 844) (by rw [c22]; rfl) (by decide) ?_
        exact case_year C hK hA hX hbl hbA hk R (hall.2.2.2.2.2.2.2.2.2.2.2.2.2.2.2.2.2.2.2.2.2.2.1) hi1 hi2 hi3 hi4 hi5 hi6 hR hP hD hS kk1
      by_cases c23 : sel = 23
      · refine g_tblIn C 920 dL_law_33 (by rw [c23]; decide) (by rw [c23]; decide) (off := 887) (by rw [c23]; rfl) (by decide) ?_
        exact case_image C hK hA hX hbl hbA R hkA hkB (hall.2.2.2.2.2.2.2.2.2.2.2.2.2.2.2.2.2.2.2.2.2.2.2.1) hi1 hR hP hD hS kk
      by_cases c24 : sel = 24
      · refine g_tblIn C 943 dL_law_33 (by rw [c24]; decide) (by rw [c24]; decide) (off := 910) (by rw [c24]; rfl) (by decide) ?_
        exact case_restore C hK hA hX hbl hbA R hkA hkB (hall.2.2.2.2.2.2.2.2.2.2.2.2.2.2.2.2.2.2.2.2.2.2.2.2.1) hi1 hR hP hD hS kk
      by_cases c25 : sel = 25
      · refine g_tblIn C 966 dL_law_33 (by rw [c25]; decide) (by rw [c25]; decide) (off := 933) (by rw [c25]; rfl) (by decide) ?_
        exact case_told C hK hA hX hbl hbA hk R (hall.2.2.2.2.2.2.2.2.2.2.2.2.2.2.2.2.2.2.2.2.2.2.2.2.2) hi1 hi2 hi3 hi4 hi5 hi6 hR hP hD hS kk1
      refine g_tblOut C 989 dL_law_33 (by have n0 := lv_neT (a := 0) c0 (by decide); have n1 := lv_neT (a := 1) c1 (by decide); have n2 := lv_neT (a := 2) c2 (by decide); have n3 := lv_neT (a := 3) c3 (by decide); have n4 := lv_neT (a := 4) c4 (by decide); have n5 := lv_neT (a := 5) c5 (by decide); have n6 := lv_neT (a := 6) c6 (by decide); have n7 := lv_neT (a := 7) c7 (by decide); have n8 := lv_neT (a := 8) c8 (by decide); have n9 := lv_neT (a := 9) c9 (by decide); have n10 := lv_neT (a := 10) c10 (by decide); have n11 := lv_neT (a := 11) c11 (by decide); have n12 := lv_neT (a := 12) c12 (by decide); have n13 := lv_neT (a := 13) c13 (by decide); have n14 := lv_neT (a := 14) c14 (by decide); have n15 := lv_neT (a := 15) c15 (by decide); have n16 := lv_neT (a := 16) c16 (by decide); have n17 := lv_neT (a := 17) c17 (by decide); have n18 := lv_neT (a := 18) c18 (by decide); have n19 := lv_neT (a := 19) c19 (by decide); have n20 := lv_neT (a := 20) c20 (by decide); have n21 := lv_neT (a := 21) c21 (by decide); have n22 := lv_neT (a := 22) c22 (by decide); have n23 := lv_neT (a := 23) c23 (by decide); have n24 := lv_neT (a := 24) c24 (by decide); have n25 := lv_neT (a := 25) c25 (by decide); omega) (by decide) ?_
      exact kk H L s m i0 i1 hR hP hD hS
set_option maxHeartbeats 4000000 in
set_option maxRecDepth 100000 in
theorem whole_of (R : lawR) (hall : LawAll R) (h00 : R i8 i9 none none) {p : Program} {e : Env} {s : State} {m : MethodId} {below : List Frame} {meth : Method} {c : Code} (l : Launch) {b L : Nat} {xs : Nat → Int32} (hL : L ≤ 3584) (C0 : lw_At p s m meth c b L xs) : W p l e room_1 s m #[Value.ref b] below meth c s.heap [] 0 0 (lw_Z below #[Value.ref b] s) (entryFrame m ([Value.ref b] : List Value).toArray 4) := by
  obtain ⟨hx, hb, hr, hml, hown, hts, hX, hbl, hlocks, hgv⟩ := id C0
  have hAW : ∀ w ∈ AW, w.before #[Value.ref b] s = true := fun w hw => hts w (List.mem_filter.mp hw).1
  obtain ⟨c0, iS0, hKn0⟩ := u_known (C := RX0) (T := TX0) (N := 4) (n := 4) hAW la_X0 (hAW _ it_X0)
  obtain ⟨c1, iS1, hKn1⟩ := u_known (C := RX1) (T := TX1) (N := 3) (n := 3) hAW la_X1 (hAW _ it_X1)
  obtain ⟨c2, iS2, hKn2⟩ := u_known (C := RX2) (T := TX2) (N := 5) (n := 5) hAW la_X2 (hAW _ it_X2)
  obtain ⟨c3, iS3, hKn3⟩ := u_known (C := RX3) (T := TX3) (N := 2) (n := 2) hAW la_X3 (hAW _ it_X3)
  obtain ⟨c4, iS4, hKn4⟩ := u_known (C := RX4) (T := TX4) (N := 4) (n := 4) hAW la_X4 (hAW _ it_X4)
  obtain ⟨c5, iS5, hKn5⟩ := u_known (C := RX5) (T := TX5) (N := 3) (n := 3) hAW la_X5 (hAW _ it_X5)
  obtain ⟨c6, iS6, hKn6⟩ := u_known (C := RX6) (T := TX6) (N := 7) (n := 7) hAW la_X6 (hAW _ it_X6)
  obtain ⟨c7, iS7, hKn7⟩ := u_known (C := RX7) (T := TX7) (N := 8) (n := 8) hAW la_X7 (hAW _ it_X7)
  obtain ⟨c8, iS8, hKn8⟩ := u_known (C := RX8) (T := TX8) (N := 9) (n := 9) hAW la_X8 (hAW _ it_X8)
  obtain ⟨c9, iS9, hKn9⟩ := u_known (C := RX9) (T := TX9) (N := 41) (n := 41) hAW la_X9 (hAW _ it_X9)
  obtain ⟨cI, kI, pI, h1I, h2I, h3I⟩ := Cond.arrayClass_spec (hAW _ ac_int)
  obtain ⟨cJ, kJ, pJ, h1J, h2J, h3J⟩ := Cond.arrayClass_spec (hAW _ ac_long)
  obtain ⟨cZ, kZ, pZ, h1Z, h2Z, h3Z⟩ := Cond.arrayClass_spec (hAW _ ac_boolean)
  have hAO : (Cond.arrayOver (.object "OathPermit$Town")).before #[Value.ref b] s = true := hts _ ao_tbl
  obtain ⟨pT, cT, kT, h0T, -, h2T, h3T, h4T⟩ := Cond.arrayOver_spec hAO
  obtain ⟨Δ, hΔ⟩ : ∃ Δ : gD, Δ = ((fun k => [c0, c1, c2, c3, c4, c5, c6, c7, c8, c9].getD k c0, fun k => [iS0, iS1, iS2, iS3, iS4, iS5, iS6, iS7, iS8, iS9].getD k iS0), cI, cJ, cZ, cT) := ⟨_, rfl⟩
  have hK : KD Δ s := by
    subst hΔ
    refine ⟨⟨?_, ?_⟩, ?_, va_AO.of hAO⟩
    · intro k q hq
      match k, hq with
      | 0, hq => cases hq; exact hKn0
      | 1, hq => cases hq; exact hKn1
      | 2, hq => cases hq; exact hKn2
      | 3, hq => cases hq; exact hKn3
      | 4, hq => cases hq; exact hKn4
      | 5, hq => cases hq; exact hKn5
      | 6, hq => cases hq; exact hKn6
      | 7, hq => cases hq; exact hKn7
      | 8, hq => cases hq; exact hKn8
      | 9, hq => cases hq; exact hKn9
      | k + 10, hq => simp [classes] at hq
    · intro k q hq
      match k, hq with
      | 0, hq => cases hq; exact ⟨fun n z => ⟨fun k h => (by cases h), kI, h2I, pI, h3I⟩, h1I⟩
      | 1, hq => cases hq; exact ⟨fun n z => ⟨fun k h => (by cases h), kJ, h2J, pJ, h3J⟩, h1J⟩
      | 2, hq => cases hq; exact ⟨fun n z => ⟨fun k h => (by cases h), kZ, h2Z, pZ, h3Z⟩, h1Z⟩
      | 3, hq => cases hq; exact ⟨fun n z => ⟨fun k h => (by cases h), kT, h2T, pT, h3T⟩, ⟨kT, pT, h2T, h3T, h0T, h4T⟩⟩
      | k + 4, hq => simp [tysD] at hq
    · intro w hw
      obtain ⟨a9, i9, x9, h9, rfl⟩ := NWL_form w hw
      exact va_Nw.of rfl (hts _ (NWL_tbl _ hw))
  clear hΔ
  have hS0 : va_S (fun q : Nat => s.heap.size ≤ q) s.heap s.heap [] := va_S.rf
  have hl := lv_entry ([.ref b]) (n := 4) (Nat.le_of_ble_eq_true rfl)
  rw [lg_entry_eq]
  suffices hg : ∀ Γ : gT, Γ = (p, l, e, s, m, #[Value.ref b], below, meth, c, lw_Z below #[Value.ref b] s) → g Γ room_1 4 s.heap [] 0 0 0 [(0, .ref b)] [] from hg _ rfl _ hl
  intro Γ hΓ
  have C : gOk Γ cL_law 4 RL := by subst hΓ; exact ⟨hx, hb, hml, hown, hAW⟩
  have hK : KD Δ (sOf Γ) := by subst hΓ; exact hK
  obtain ⟨A, hAe⟩ : ∃ A : Nat → Prop, A = fun q : Nat => (sOf Γ).heap.size ≤ q := ⟨_, rfl⟩
  have hA : ∀ q, (sOf Γ).heap.size ≤ q → A q := fun q h => by rw [hAe]; exact h
  have hX : va_X b L xs (sOf Γ) (sOf Γ).heap := by subst hΓ; exact hX
  have hbl : b < (sOf Γ).heap.size := by subst hΓ; exact hbl
  have hbA : ¬ A b := by rw [hAe]; exact Nat.not_le.mpr hbl
  have hS : va_S A (sOf Γ).heap (sOf Γ).heap [] := va_S.rf
  have hP : va_P Δ.1 classes [] (sOf Γ).heap := fun k q h => by simp at h
  have hD : va_D A [] := ⟨fun i j p q h => by simp at h, fun k q h => by simp at h⟩
  have hend : ∀ (H : Heap) (L : List Loc) (lv : List (Nat × Value)), va_S A (sOf Γ).heap H L → g Γ room_1 4 H L 600000 7302250 996 lv [.int 1] := by
    subst hAe
    subst hΓ
    intro H L lv hS ls hls
    refine va_forget (fun q hq => hS.2.2 q hq) ?_
    exact lw_ret hx hb hr hlocks dL_law_996
  have hh : s.heap = (sOf Γ).heap := by subst hΓ; rfl
  rw [hh]
  clear hΓ hAe hh
  refine g_new C 3 rfl dL_law_0 la_X8 tyX8_ok cl_L_7 it_X8 ini_X8 hK hP hD hS hA (ci := 8) rfl [.null, .null, .null, .null, .null, .null, .null, .null, .null] (fun j hj => by match j, hj with | 0, _ => rfl | 1, _ => rfl | 2, _ => rfl | 3, _ => rfl | 4, _ => rfl | 5, _ => rfl | 6, _ => rfl | 7, _ => rfl | 8, _ => rfl | j + 9, h => omega) (by decide) (by decide) (fun q1 H hP hD hS => ?_)
  refine g_dup C 4 rfl dL_law_3 rfl ?_
  refine g_callI C 7 rfl dL_law_4 (n_X8 Γ.2.1 Δ) co_X8_init im_X8_init ini_X8 ml_L_9 rfl ⟨by decide +kernel, by decide +kernel, by decide +kernel⟩ hK hP hD hS hA [0] [] rfl (wr := []) rfl (by decide) (by decide) (by decide) ⟨Nat.le_of_ble_eq_true rfl, Nat.le_of_ble_eq_true rfl⟩ (Nat.le_of_ble_eq_true rfl) ⟨by decide, by decide⟩ (fun a H L9 ha hP9 hD9 hS => ?_)
  clear hP hD
  subst ha
  refine g_astore_n [(1, .ref (a 0)), (0, .ref b)] C 8 rfl dL_law_7 (by decide) rfl ?_
  refine g_new C 11 rfl dL_law_8 la_X9 tyX9_ok cl_L_10 it_X9 ini_X9 hK hP9 hD9 hS hA (ci := 9) rfl [.int 0, .int 0, .int 0, .null, .null, .null, .null, .null, .null, .null, .null, .int 0, .null, .int 0, .null, .null, .null, .null, .int 0, .int 0, .int 0, .int 0, .int 0, .int 0, .int 0, .null, .null, .int 0, .int 0, .null, .null, .null, .null, .int 0, .null, .null, .long 0, .null, .null, .int 0, .int 0] (fun j hj => by match j, hj with | 0, _ => rfl | 1, _ => rfl | 2, _ => rfl | 3, _ => rfl | 4, _ => rfl | 5, _ => rfl | 6, _ => rfl | 7, _ => rfl | 8, _ => rfl | 9, _ => rfl | 10, _ => rfl | 11, _ => rfl | 12, _ => rfl | 13, _ => rfl | 14, _ => rfl | 15, _ => rfl | 16, _ => rfl | 17, _ => rfl | 18, _ => rfl | 19, _ => rfl | 20, _ => rfl | 21, _ => rfl | 22, _ => rfl | 23, _ => rfl | 24, _ => rfl | 25, _ => rfl | 26, _ => rfl | 27, _ => rfl | 28, _ => rfl | 29, _ => rfl | 30, _ => rfl | 31, _ => rfl | 32, _ => rfl | 33, _ => rfl | 34, _ => rfl | 35, _ => rfl | 36, _ => rfl | 37, _ => rfl | 38, _ => rfl | 39, _ => rfl | 40, _ => rfl | j + 41, h => omega) (by decide) (by decide) (fun q2 H hP hD hS => ?_)
  clear hP9 hD9
  refine g_dup C 12 rfl dL_law_11 rfl ?_
  refine g_callI C 15 rfl dL_law_12 (n_X9 Γ.2.1 Δ) co_X9_init im_X9_init ini_X9 ml_L_12 rfl ⟨by decide +kernel, by decide +kernel, by decide +kernel⟩ hK hP hD hS hA [25] [0, 1, 2, 3, 4, 5, 6, 7, 8, 9, 10, 11, 12, 13, 14, 15, 16, 17, 18, 19, 20, 21, 22, 23, 24] rfl (wr := cs8 a Δ i8 ++ [imC a Δ (fun _ => none)]) rfl (by decide) (by decide) (by decide) ⟨Nat.le_of_ble_eq_true rfl, Nat.le_of_ble_eq_true rfl⟩ (Nat.le_of_ble_eq_true rfl) ⟨by decide, by decide⟩ (fun d H L9 hd hP9 hD9 hS => ?_)
  clear hP hD
  subst hd
  rw [← imF_none] at hP9 hD9
  have hP : va_P Δ.1 classes (LW a d Δ i8 i9 none none) H := hP9.sub [0, 1, 2, 3, 4, 5, 6, 7, 8, 9, 10, 11, 12, 13, 14, 15, 16, 17, 18, 19, 20, 21, 22, 23, 25, 26, 27, 28, 29, 30, 31, 32, 33, 34, 35, 36, 37, 38, 39, 40, 41, 42, 43, 44, 45, 46, 47, 48, 24] rfl
  have hD : va_D A (LW a d Δ i8 i9 none none) := hD9.sub [0, 1, 2, 3, 4, 5, 6, 7, 8, 9, 10, 11, 12, 13, 14, 15, 16, 17, 18, 19, 20, 21, 22, 23, 25, 26, 27, 28, 29, 30, 31, 32, 33, 34, 35, 36, 37, 38, 39, 40, 41, 42, 43, 44, 45, 46, 47, 48, 24] (by decide) rfl
  clear hP9 hD9
  refine g_astore_n [(2, .ref (d 0)), (1, .ref (a 0)), (0, .ref b)] C 16 rfl dL_law_15 (by decide) rfl ?_
  refine g_iconst 0 C 17 rfl dL_law_16 ki_0 ?_
  refine g_istore_n [(3, .int 0), (2, .ref (d 0)), (1, .ref (a 0)), (0, .ref b)] C 18 rfl dL_law_17 (by decide) rfl ?_
  refine g_sub [3, 2, 1, 0] rfl ?_
  exact law_loop C hK hA hX hbl hbA hL R hall hend (L + 8) 0 (by omega) (by omega) i8 i9 none none H _ h00 hP hD hS
