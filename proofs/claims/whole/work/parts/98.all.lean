/-! all calls keep the relation -/
theorem lawAll : LawAll RR := by
  refine ⟨ok_one, ok_leave, ok_permit, ok_set, ok_say, ok_wipe, ?_, ?_, ?_, ?_, ?_, ok_hears, ?_, ?_, ?_, ?_, ?_, ok_seen, ok_forget, ok_who, ok_ask, ok_quarrel, ?_, ?_, ?_, ok_told⟩
  · sorry
  · sorry
  · sorry
  · sorry
  · sorry
  · sorry
  · sorry
  · sorry
  · sorry
  · sorry
  · sorry
  · sorry
  · sorry
