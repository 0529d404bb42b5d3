def iw_Rel (x m : iw_M) : Prop := x.1 0 11 = m.1 0 0
def iw_E (a b : Option (Int32 × iw_M)) : Prop := ∃ (r : Int32) (x m : iw_M), a = some (r, x) ∧ b = some (r, m) ∧ iw_Rel x m
theorem iw_rel0 : iw_Rel iw_zX iw_zM := sorry
theorem st_hand {x m : iw_M} (h : iw_Rel x m) (a0 : Int32) : iw_E (fX8_hand a0 x) (fX9_hand a0 m) := sorry
theorem st_kin {x m : iw_M} (h : iw_Rel x m) (a0 : Int32) (a1 : Int32) (a2 : Int32) (ha2 : a2 = 0 ∨ a2 = 1) : iw_E (fX8_kin a0 a1 a2 x) (fX9_kin a0 a1 a2 m) := sorry
theorem st_idea {x m : iw_M} (h : iw_Rel x m) (a0 : Int32) (a1 : Int32) (a2 : Int32) (a3 : Int32) : iw_E (fX8_idea a0 a1 a2 a3 x) (fX9_idea a0 a1 a2 a3 m) := sorry
theorem st_team {x m : iw_M} (h : iw_Rel x m) (a0 : Int32) (a1 : Int32) : iw_E (fX8_team a0 a1 x) (fX9_team a0 a1 m) := sorry
theorem st_set {x m : iw_M} (h : iw_Rel x m) (a0 : Int32) (a1 : Int32) : iw_E (fX8_set a0 a1 x) (fX9_set a0 a1 m) := sorry
theorem st_like {x m : iw_M} (h : iw_Rel x m) (a0 : Int32) (a1 : Int32) : iw_E (fX8_like a0 a1 x) (fX9_like a0 a1 m) := sorry
theorem st_family {x m : iw_M} (h : iw_Rel x m) (a0 : Int32) : iw_E (fX8_family a0 x) (fX9_family a0 m) := sorry
theorem st_head {x m : iw_M} (h : iw_Rel x m) (a0 : Int32) : iw_E (fX8_head a0 x) (fX9_head a0 m) := sorry
theorem st_share {x m : iw_M} (h : iw_Rel x m) (a0 : Int32) : iw_E (fX8_share a0 x) (fX9_share a0 m) := sorry
theorem st_judge {x m : iw_M} (h : iw_Rel x m) (a0 : Int32) (a1 : Int32) (ha1 : a1 = 0 ∨ a1 = 1) : iw_E (fX8_judge a0 a1 x) (fX9_judge a0 a1 m) := sorry
theorem st_may {x m : iw_M} (h : iw_Rel x m) (a0 : Int32) (a1 : Int32) : iw_E (fX8_may a0 a1 x) (fX9_may a0 a1 m) := sorry
theorem st_judgeOf {x m : iw_M} (h : iw_Rel x m) (a0 : Int32) (a1 : Int32) : iw_E (fX8_judgeOf a0 a1 x) (fX9_judgeOf a0 a1 m) := sorry
theorem st_decide {x m : iw_M} (h : iw_Rel x m) (a0 : Int32) (a1 : Int32) (a2 : Int32) (a3 : Int32) (ha1 : a1 = 0 ∨ a1 = 1) (ha2 : a2 = 0 ∨ a2 = 1) (ha3 : a3 = 0 ∨ a3 = 1) : iw_E (fX8_decide a0 a1 a2 a3 x) (fX9_decide a0 a1 a2 a3 m) := sorry
theorem st_days {x m : iw_M} (h : iw_Rel x m) (a0 : Int32) : iw_E (fX8_days a0 x) (fX9_days a0 m) := sorry
theorem st_bench {x m : iw_M} (h : iw_Rel x m) (a0 : Int32) (a1 : Int32) (a2 : Int32) : iw_E (fX8_bench a0 a1 a2 x) (fX9_bench a0 a1 a2 m) := sorry
theorem st_measure {x m : iw_M} (h : iw_Rel x m) (a0 : Int32) (a1 : Int32) (a2 : Int32) (a3 : Int32) (ha2 : a2 = 0 ∨ a2 = 1) : iw_E (fX8_measure a0 a1 a2 a3 x) (fX9_measure a0 a1 a2 a3 m) := sorry
theorem st_saved {x m : iw_M} (h : iw_Rel x m) (a0 : Int32) (a1 : Int32) (a2 : Int32) : iw_E (fX8_saved a0 a1 a2 x) (fX9_saved a0 a1 a2 m) := sorry
theorem st_harm {x m : iw_M} (h : iw_Rel x m) (a0 : Int32) (a1 : Int32) : iw_E (fX8_harm a0 a1 x) (fX9_harm a0 a1 m) := sorry
theorem st_worth {x m : iw_M} (h : iw_Rel x m) (a0 : Int32) : iw_E (fX8_worth a0 x) (fX9_worth a0 m) := sorry
theorem st_rule {x m : iw_M} (h : iw_Rel x m) (a0 : Int32) (a1 : Int32) (a2 : Int32) (a3 : Int32) : iw_E (fX8_rule a0 a1 a2 a3 x) (fX9_rule a0 a1 a2 a3 m) := sorry
theorem st_ruleOf {x m : iw_M} (h : iw_Rel x m) (a0 : Int32) : iw_E (fX8_ruleOf a0 x) (fX9_ruleOf a0 m) := sorry
theorem st_work {x m : iw_M} (h : iw_Rel x m) (a0 : Int32) (a1 : Int32) : iw_E (fX8_work a0 a1 x) (fX9_work a0 a1 m) := sorry
theorem st_ledBack {x m : iw_M} (h : iw_Rel x m) (a0 : Int32) : iw_E (fX8_ledBack a0 x) (fX9_ledBack a0 m) := sorry
theorem st_reopen {x m : iw_M} (h : iw_Rel x m) (a0 : Int32) : iw_E (fX8_reopen a0 x) (fX9_reopen a0 m) := sorry
theorem st_other {x m : iw_M} (h : iw_Rel x m) (a0 : Int32) (a1 : Int32) (a2 : Int32) : iw_E (fX8_other a0 a1 a2 x) (fX9_other a0 a1 a2 m) := sorry
theorem st_coins {x m : iw_M} (h : iw_Rel x m) (a0 : Int32) (a1 : Int32) : iw_E (fX8_coins a0 a1 x) (fX9_coins a0 a1 m) := sorry
theorem st_ideaOf {x m : iw_M} (h : iw_Rel x m) (a0 : Int32) (a1 : Int32) : iw_E (fX8_ideaOf a0 a1 x) (fX9_ideaOf a0 a1 m) := sorry
theorem st_count {x m : iw_M} (h : iw_Rel x m) (a0 : Int32) : iw_E (fX8_count a0 x) (fX9_count a0 m) := sorry
