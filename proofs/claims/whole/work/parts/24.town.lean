/-! one, leave, set, told, seen -/
theorem RT.there {t : S6} {th li ea si : Int32} {F : Nat → Nat → Int32} {O Hd : Nat → Int32} (h : RT t th li ea si F O Hd) (v : Int32) : RT (p6_there t v) v li ea si F O Hd := ⟨rfl, h.2⟩
theorem settle_n {t : S6} {k : Nat} (hk : k < 6) (a b c d : Int32) : ∃ t2, sem_X6_settle (nI k) a b c d t = some t2 ∧ ∀ {th li ea si : Int32} {F : Nat → Nat → Int32} {O Hd : Nat → Int32}, RT t th li ea si F O Hd → RT t2 (x6_there t ||| ((1 : Int32) <<< (nI k &&& 31))) li ea si (updF (updF (updF (updF (updF (updF F k 0 a) k 1 0) k 2 b) k 3 c) k 4 d) k 5 (-6)) O Hd := by
  unfold sem_X6_settle
  rw [put_l hk 0 (by decide) 0 _ rfl, bs, put_l hk 1 (by decide) 1 _ rfl, bs, put_l hk 2 (by decide) 2 _ rfl, bs, put_l hk 3 (by decide) 3 _ rfl, bs, put_l hk 4 (by decide) 4 _ rfl, bs, put_l hk 5 (by decide) 5 _ rfl, bs]
  refine ⟨_, rfl, fun h => ?_⟩
  exact (((((((h.there _).put hk (by decide) _).put hk (by decide) _).put hk (by decide) _).put hk (by decide) _).put hk (by decide) _).put hk (by decide) _)
def setOne (m : S9) (k : Nat) (V a b c d : Int32) : S9 :=
  let m1 := p9_there m V
  let m2 := p9_temper m1 (upd (x9_temper m1) k a)
  let m3 := p9_permits m2 (upd (x9_permits m2) k 0)
  let m4 := p9_stamps m3 (upd (x9_stamps m3) k b)
  let m5 := p9_purse m4 (upd (x9_purse m4) k c)
  let m6 := p9_yard m5 (upd (x9_yard m5) k d)
  p9_cause m6 (upd (x9_cause m6) k (-6))
theorem mF_one (m : S9) (k : Nat) (V a b c d : Int32) : mF (setOne m k V a b c d) = updF (updF (updF (updF (updF (updF (mF m) k 0 a) k 1 0) k 2 b) k 3 c) k 4 d) k 5 (-6) := by
  unfold setOne
  rw [mF_s5, mF_s4, mF_s3, mF_s2, mF_s1, mF_s0]
  rfl
theorem BT.one {li ea si : Int32} {F : Nat → Nat → Int32} {O Hd : Nat → Int32} {T l k w2 w3 w4 w5 : Nat} (h : BT (nI T) li ea si F O Hd) (hT : T < 64) (hl : l ≤ 20) (hli : li = nI l) (hk : k < 6) (h2 : w2 ≤ l) (h3 : w3 ≤ 99) (h4 : w4 ≤ 999) (h5 : w5 ≤ 9) : BT (nI (T ||| 1 <<< k)) li ea si (updF (updF (updF (updF (updF (updF F k 0 (nI w2)) k 1 0) k 2 (nI w3)) k 3 (nI w4)) k 4 (nI w5)) k 5 (-6)) O Hd := by
  have h9 := (((((h.put0 (k := k) (w := w2) hT rfl hl hli (by omega) (fun _ => h2)).put1 (k := k) (w := 0) (by decide)).put2 (k := k) h3).put3 (k := k) h4).put4 (k := k) h5).put5 (k := k) (v := -6) (Or.inl rfl)
  obtain ⟨T', l', e, c, b1, b2, b3, b4, b5, b6, b7, b8, b9, c0, c1, c2, c3, c4, c5, d1, d2⟩ := h9
  have eT : T' = T := (nI_eq (by omega) (by omega)).mp b2.symm
  have el : l' = l := (nI_eq (by omega) (by omega)).mp (b5.symm.trans hli)
  subst eT; subst el
  refine ⟨T' ||| 1 <<< k, l', e, c, bit_or_lt _ b1 k hk, rfl, b3, b4, b5, b6, b7, b8, b9, fun i hi => ?_, c1, c2, c3, c4, c5, d1, d2⟩
  by_cases q : i = k
  · subst q
    refine ⟨w2, by omega, ?_, fun _ => h2⟩
    simp [updF]
  · obtain ⟨v, v1, v2, v3⟩ := c0 i hi
    refine ⟨v, v1, v2, fun hb => v3 ?_⟩
    rcases (bit_ort T' b1 k hk i hi).mp hb with z | z
    · exact absurd z q
    · exact z
theorem ok_one : hF_one RR := by
  intro x1 x2 x3 x4 x5 s m j0 j1 hR
  unfold sem_X8_one sem_X9_one
  obtain ⟨T, l, e, c, b1, b2, b3, b4, b5, b6, b7, b8, b9, c0, c1, c2, c3, c4, c5, d1, d2⟩ := hR.1.2
  have hT := hR.1.1
  rcases gd x1 0 5 (by decide) (by decide) (a := 0) (b := 5) (A := 0) (B := 5) rfl rfl rfl rfl with ⟨k, -, hk5, rfl, e1, e2⟩ | ⟨e1, e2, -⟩
  · have hk : k < 6 := by omega
    rw [e1, e2, bs, bs, if_neg one_ne, if_neg one_ne]
    have hl64 : (x9_limit m).toInt64 = lN l := by rw [b5, nI_l (by omega)]
    rcases gd x2 0 l (by decide) (by omega) (a := 0) (b := (x9_limit m).toInt64) (A := 0) (B := x6_limit (x8_town s)) rfl hl64 rfl (hT.2.1.trans b5) with ⟨w2, -, hw2, rfl, e1, e2⟩ | ⟨e1, e2, -⟩
    · rw [e1, e2, bs, bs, if_neg one_ne, if_neg one_ne]
      rcases gd x3 0 99 (by decide) (by decide) (a := 0) (b := 99) (A := 0) (B := 99) rfl rfl rfl rfl with ⟨w3, -, hw3, rfl, e1, e2⟩ | ⟨e1, e2, -⟩
      · rw [e1, e2, bs, bs, if_neg one_ne, if_neg one_ne]
        rcases gd x4 0 999 (by decide) (by decide) (a := 0) (b := 999) (A := 0) (B := 999) rfl rfl rfl rfl with ⟨w4, -, hw4, rfl, e1, e2⟩ | ⟨e1, e2, -⟩
        · rw [e1, e2, bs, bs, if_neg one_ne, if_neg one_ne]
          rcases gd x5 0 9 (by decide) (by decide) (a := 0) (b := 9) (A := 0) (B := 9) rfl rfl rfl rfl with ⟨w5, -, hw5, rfl, e1, e2⟩ | ⟨e1, e2, -⟩
          · rw [e1, e2, bs, bs, if_neg one_ne, if_neg one_ne]
            have hin : vp_in (nI k) 6 := vp_in_nI (by omega) (by decide)
            obtain ⟨t2, ht2, hRT⟩ := settle_n (t := x8_town s) hk (nI w2) (nI w3) (nI w4) (nI w5)
            have hRT2 := hRT hT
            have hthx : x6_there (x8_town s) ||| ((1 : Int32) <<< (nI k &&& 31)) = nI (T ||| 1 <<< k) := by rw [hT.1, b2, bit_or T b1 k hk]
            rw [hthx] at hRT2
            have hcx : sem_X6_count (x8_town (p8_town s t2)) = some (nI (pop6 (T ||| 1 <<< k))) := by
              unfold sem_X6_count
              rw [show x6_there (x8_town (p8_town s t2)) = nI (T ||| 1 <<< k) from hRT2.1, cnt_x _ (bit_or_lt T b1 k hk)]
              rfl
            rw [ht2, bs, hcx, bs]
            simp only [ck_in hin, tcl (show k < 2 ^ 31 by omega)]
            refine ⟨nI (pop6 (T ||| 1 <<< k)), p8_town s t2, setOne m k (x9_there m ||| ((1 : Int32) <<< (nI k &&& 31))) (nI w2) (nI w3) (nI w4) (nI w5), rfl, ?_, ?_⟩
            · show (sem_X9_ones (x9_there (setOne m k (x9_there m ||| ((1 : Int32) <<< (nI k &&& 31))) (nI w2) (nI w3) (nI w4) (nI w5)))).bind (fun r => some (r, setOne m k (x9_there m ||| ((1 : Int32) <<< (nI k &&& 31))) (nI w2) (nI w3) (nI w4) (nI w5))) = _
              have e9 : sem_X9_ones (x9_there (setOne m k (x9_there m ||| ((1 : Int32) <<< (nI k &&& 31))) (nI w2) (nI w3) (nI w4) (nI w5))) = some (nI (pop6 (T ||| 1 <<< k))) := by
                show sem_X9_ones (x9_there m ||| ((1 : Int32) <<< (nI k &&& 31))) = _
                rw [b2, bit_or T b1 k hk, cnt_m _ (bit_or_lt T b1 k hk)]
              rw [e9, bs]
            · refine hR.town ?_ rfl rfl rfl rfl rfl rfl rfl
              have hth : x9_there (setOne m k (x9_there m ||| ((1 : Int32) <<< (nI k &&& 31))) (nI w2) (nI w3) (nI w4) (nI w5)) = nI (T ||| 1 <<< k) := by
                show x9_there m ||| ((1 : Int32) <<< (nI k &&& 31)) = _
                rw [b2, bit_or T b1 k hk]
              unfold RTm
              rw [hth, mF_one]
              refine ⟨hRT2, ?_⟩
              have hB := hR.1.2
              rw [b2] at hB
              exact hB.one b1 b4 b5 hk hw2 hw3 hw4 hw5
          · rw [e1, e2]; exact ⟨_, _, _, rfl, rfl, hR⟩
        · rw [e1, e2]; exact ⟨_, _, _, rfl, rfl, hR⟩
      · rw [e1, e2]; exact ⟨_, _, _, rfl, rfl, hR⟩
    · rw [e1, e2]; exact ⟨_, _, _, rfl, rfl, hR⟩
  · rw [e1, e2]; exact ⟨_, _, _, rfl, rfl, hR⟩
theorem ok_leave : hF_leave RR := by
  intro x1 s m j0 j1 hR
  unfold sem_X8_leave sem_X9_leave
  have hT := hR.1.1
  obtain ⟨T, l, e, c, b1, b2, b3, b4, b5, b6, b7, b8, b9, c0, c1, c2, c3, c4, c5, d1, d2⟩ := hR.1.2
  rcases gone x1 b1 (hT.1.trans b2) b2 with ⟨k, hk, rfl, hbit, e1, e2⟩ | ⟨e1, e2⟩
  · rw [e1, e2, bs, bs, if_neg one_ne, if_neg one_ne]
    have hlt : T - (T &&& 1 <<< k) < 64 := by omega
    have hv : x6_there (x8_town s) &&& (((1 : Int32) <<< (nI k &&& 31)) ^^^ (-1 : Int32)) = nI (T - (T &&& 1 <<< k)) := by rw [hT.1, b2, bit_clr T b1 k hk]
    have hvm : x9_there m &&& (((1 : Int32) <<< (nI k &&& 31)) ^^^ (-1 : Int32)) = nI (T - (T &&& 1 <<< k)) := by rw [b2, bit_clr T b1 k hk]
    have er : sem_X6_remove (nI k) (x8_town s) = some (p6_there (x8_town s) (nI (T - (T &&& 1 <<< k)))) := by unfold sem_X6_remove; rw [hv]
    rw [er, bs, hvm]
    have ec : sem_X6_count (x8_town (p8_town s (p6_there (x8_town s) (nI (T - (T &&& 1 <<< k)))))) = some (nI (pop6 (T - (T &&& 1 <<< k)))) := by
      unfold sem_X6_count
      rw [show x6_there (x8_town (p8_town s (p6_there (x8_town s) (nI (T - (T &&& 1 <<< k)))))) = nI (T - (T &&& 1 <<< k)) from rfl, cnt_x _ hlt]
      rfl
    have em : sem_X9_ones (x9_there (p9_there m (nI (T - (T &&& 1 <<< k))))) = some (nI (pop6 (T - (T &&& 1 <<< k)))) := cnt_m _ hlt
    rw [ec, em, bs, bs]
    refine ⟨_, _, _, rfl, rfl, ?_⟩
    refine hR.town ⟨hT.there _, ?_⟩ rfl rfl rfl rfl rfl rfl rfl
    refine ⟨T - (T &&& 1 <<< k), l, e, c, hlt, rfl, b3, b4, b5, b6, b7, b8, b9, fun i hi => ?_, c1, c2, c3, c4, c5, d1, d2⟩
    obtain ⟨v, v1, v2, v3⟩ := c0 i hi
    exact ⟨v, v1, v2, fun hb => v3 ((bit_clrt T b1 k hk i hi).mp hb).2⟩
  · rw [e1, e2]; exact ⟨_, _, _, rfl, rfl, hR⟩
