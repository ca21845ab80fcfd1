-- every call keeps the invariant
theorem inv_all : Sp_all Inv := ⟨sp_type, sp_clear, sp_way, sp_walker, sp_thing, sp_stage, sp_gives, sp_leaves, sp_goes, sp_undo, sp_now, sp_rest, sp_spent, sp_soonest, sp_helps, sp_leave, sp_eat, sp_truly, sp_odds, sp_book, sp_burn, sp_sacks, sp_mark, sp_keep, sp_back, sp_count, sp_trace⟩
