/-! all calls keep the relation -/
theorem lawAll : LawAll RR := ⟨ok_one, ok_leave, ok_permit, ok_set, ok_say, ok_wipe, ok_fault, ok_judge, ok_behind, ok_slipped, ok_done, ok_hears, ok_spend, ok_deal, ok_seats, ok_cover, ok_risk, ok_seen, ok_forget, ok_who, ok_ask, ok_quarrel, ok_year, ok_image, ok_restore, ok_told⟩
