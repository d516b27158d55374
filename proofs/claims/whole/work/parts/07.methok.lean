theorem tok0_has : TbOk M0_has := TbOk_of (by decide +kernel)
theorem ok0_has : MOk M0_has := ⟨tok0_has, cn0.1, (tm2 55 rfl rfl), cn0.2, ci0, by decide +kernel⟩
theorem ow0_has : OwnOk M0_has := fun o h => by cases h
theorem sm0_has : Cond.static (M_nm M0_has) ∈ tW := (tm2 54 rfl rfl)
theorem tok1_init : TbOk M1_init := TbOk_of (by decide +kernel)
theorem ok1_init : MOk M1_init := ⟨tok1_init, cn1.1, (tm1 177 rfl rfl), cn1.2, ci1, by decide +kernel⟩
theorem ow1_init : OwnOk M1_init := fun o h => by cases h; rfl
theorem im1_init : Cond.instanceMethod (M_nm M1_init) ∈ tW := (tm1 176 rfl rfl)
theorem tok1_countPairs : TbOk M1_countPairs := TbOk_of (by decide +kernel)
theorem ok1_countPairs : MOk M1_countPairs := ⟨tok1_countPairs, cn1.1, (tm3 137 rfl rfl), cn1.2, ci1, by decide +kernel⟩
theorem ow1_countPairs : OwnOk M1_countPairs := fun o h => by cases h; rfl
theorem im1_countPairs : Cond.instanceMethod (M_nm M1_countPairs) ∈ tW := (tm3 135 rfl rfl)
theorem se1_countPairs : Cond.selects (M_nm M1_countPairs).cls (M_nm M1_countPairs) (M_nm M1_countPairs) ∈ tW := (tm3 136 rfl rfl)
theorem tok1_findNext : TbOk M1_findNext := TbOk_of (by decide +kernel)
theorem ok1_findNext : MOk M1_findNext := ⟨tok1_findNext, cn1.1, (tm3 142 rfl rfl), cn1.2, ci1, by decide +kernel⟩
theorem ow1_findNext : OwnOk M1_findNext := fun o h => by cases h; rfl
theorem im1_findNext : Cond.instanceMethod (M_nm M1_findNext) ∈ tW := (tm3 141 rfl rfl)
theorem se1_findNext : Cond.selects (M_nm M1_findNext).cls (M_nm M1_findNext) (M_nm M1_findNext) ∈ tW := pm1 12 rfl
theorem tok1_lowestOf : TbOk M1_lowestOf := TbOk_of (by decide +kernel)
theorem ok1_lowestOf : MOk M1_lowestOf := ⟨tok1_lowestOf, cn1.1, (tm3 145 rfl rfl), cn1.2, ci1, by decide +kernel⟩
theorem ow1_lowestOf : OwnOk M1_lowestOf := fun o h => by cases h; rfl
theorem sm1_lowestOf : Cond.static (M_nm M1_lowestOf) ∈ tW := (tm3 144 rfl rfl)
theorem tok1_pairAlong : TbOk M1_pairAlong := TbOk_of (by decide +kernel)
theorem ok1_pairAlong : MOk M1_pairAlong := ⟨tok1_pairAlong, cn1.1, (tm3 149 rfl rfl), cn1.2, ci1, by decide +kernel⟩
theorem ow1_pairAlong : OwnOk M1_pairAlong := fun o h => by cases h; rfl
theorem im1_pairAlong : Cond.instanceMethod (M_nm M1_pairAlong) ∈ tW := (tm3 148 rfl rfl)
theorem se1_pairAlong : Cond.selects (M_nm M1_pairAlong).cls (M_nm M1_pairAlong) (M_nm M1_pairAlong) ∈ tW := pm1 13 rfl
theorem tok2_init : TbOk M2_init := TbOk_of (by decide +kernel)
theorem ok2_init : MOk M2_init := ⟨tok2_init, cn2.1, (tm1 193 rfl rfl), cn2.2, ci2, by decide +kernel⟩
theorem ow2_init : OwnOk M2_init := fun o h => by cases h; rfl
theorem im2_init : Cond.instanceMethod (M_nm M2_init) ∈ tW := (tm1 192 rfl rfl)
theorem tok2_countFor : TbOk M2_countFor := TbOk_of (by decide +kernel)
theorem ok2_countFor : MOk M2_countFor := ⟨tok2_countFor, cn2.1, (tm3 158 rfl rfl), cn2.2, ci2, by decide +kernel⟩
theorem ow2_countFor : OwnOk M2_countFor := fun o h => by cases h; rfl
theorem im2_countFor : Cond.instanceMethod (M_nm M2_countFor) ∈ tW := (tm3 156 rfl rfl)
theorem se2_countFor : Cond.selects (M_nm M2_countFor).cls (M_nm M2_countFor) (M_nm M2_countFor) ∈ tW := (tm3 157 rfl rfl)
theorem tok2_listMembers : TbOk M2_listMembers := TbOk_of (by decide +kernel)
theorem ok2_listMembers : MOk M2_listMembers := ⟨tok2_listMembers, cn2.1, (tm3 162 rfl rfl), cn2.2, ci2, by decide +kernel⟩
theorem ow2_listMembers : OwnOk M2_listMembers := fun o h => by cases h; rfl
theorem im2_listMembers : Cond.instanceMethod (M_nm M2_listMembers) ∈ tW := (tm3 161 rfl rfl)
theorem se2_listMembers : Cond.selects (M_nm M2_listMembers).cls (M_nm M2_listMembers) (M_nm M2_listMembers) ∈ tW := pm1 14 rfl
theorem tok2_listNeeds : TbOk M2_listNeeds := TbOk_of (by decide +kernel)
theorem ok2_listNeeds : MOk M2_listNeeds := ⟨tok2_listNeeds, cn2.1, (tm3 167 rfl rfl), cn2.2, ci2, by decide +kernel⟩
theorem ow2_listNeeds : OwnOk M2_listNeeds := fun o h => by cases h; rfl
theorem im2_listNeeds : Cond.instanceMethod (M_nm M2_listNeeds) ∈ tW := (tm3 166 rfl rfl)
theorem se2_listNeeds : Cond.selects (M_nm M2_listNeeds).cls (M_nm M2_listNeeds) (M_nm M2_listNeeds) ∈ tW := pm1 15 rfl
theorem tok2_goOnFrom : TbOk M2_goOnFrom := TbOk_of (by decide +kernel)
theorem ok2_goOnFrom : MOk M2_goOnFrom := ⟨tok2_goOnFrom, cn2.1, (tm3 171 rfl rfl), cn2.2, ci2, by decide +kernel⟩
theorem ow2_goOnFrom : OwnOk M2_goOnFrom := fun o h => by cases h; rfl
theorem im2_goOnFrom : Cond.instanceMethod (M_nm M2_goOnFrom) ∈ tW := (tm3 170 rfl rfl)
theorem se2_goOnFrom : Cond.selects (M_nm M2_goOnFrom).cls (M_nm M2_goOnFrom) (M_nm M2_goOnFrom) ∈ tW := pm2 0 rfl
theorem tok3_init : TbOk M3_init := TbOk_of (by decide +kernel)
theorem ok3_init : MOk M3_init := ⟨tok3_init, cn3.1, (tm1 107 rfl rfl), cn3.2, ci3, by decide +kernel⟩
theorem ow3_init : OwnOk M3_init := fun o h => by cases h; rfl
theorem im3_init : Cond.instanceMethod (M_nm M3_init) ∈ tW := (tm1 106 rfl rfl)
theorem tok3_beforeSets : TbOk M3_beforeSets := TbOk_of (by decide +kernel)
theorem ok3_beforeSets : MOk M3_beforeSets := ⟨tok3_beforeSets, cn3.1, (tm2 48 rfl rfl), cn3.2, ci3, by decide +kernel⟩
theorem ow3_beforeSets : OwnOk M3_beforeSets := fun o h => by cases h; rfl
theorem im3_beforeSets : Cond.instanceMethod (M_nm M3_beforeSets) ∈ tW := (tm2 46 rfl rfl)
theorem se3_beforeSets : Cond.selects (M_nm M3_beforeSets).cls (M_nm M3_beforeSets) (M_nm M3_beforeSets) ∈ tW := (tm2 47 rfl rfl)
theorem tok3_hasDetour : TbOk M3_hasDetour := TbOk_of (by decide +kernel)
theorem ok3_hasDetour : MOk M3_hasDetour := ⟨tok3_hasDetour, cn3.1, (tm3 67 rfl rfl), cn3.2, ci3, by decide +kernel⟩
theorem ow3_hasDetour : OwnOk M3_hasDetour := fun o h => by cases h; rfl
theorem im3_hasDetour : Cond.instanceMethod (M_nm M3_hasDetour) ∈ tW := (tm3 65 rfl rfl)
theorem se3_hasDetour : Cond.selects (M_nm M3_hasDetour).cls (M_nm M3_hasDetour) (M_nm M3_hasDetour) ∈ tW := (tm3 66 rfl rfl)
theorem tok3_heights : TbOk M3_heights := TbOk_of (by decide +kernel)
theorem ok3_heights : MOk M3_heights := ⟨tok3_heights, cn3.1, (tm2 161 rfl rfl), cn3.2, ci3, by decide +kernel⟩
theorem ow3_heights : OwnOk M3_heights := fun o h => by cases h; rfl
theorem im3_heights : Cond.instanceMethod (M_nm M3_heights) ∈ tW := (tm2 159 rfl rfl)
theorem se3_heights : Cond.selects (M_nm M3_heights).cls (M_nm M3_heights) (M_nm M3_heights) ∈ tW := (tm2 160 rfl rfl)
theorem tok3_raisePredecessors : TbOk M3_raisePredecessors := TbOk_of (by decide +kernel)
theorem ok3_raisePredecessors : MOk M3_raisePredecessors := ⟨tok3_raisePredecessors, cn3.1, (tm2 169 rfl rfl), cn3.2, ci3, by decide +kernel⟩
theorem ow3_raisePredecessors : OwnOk M3_raisePredecessors := fun o h => by cases h; rfl
theorem im3_raisePredecessors : Cond.instanceMethod (M_nm M3_raisePredecessors) ∈ tW := (tm2 168 rfl rfl)
theorem se3_raisePredecessors : Cond.selects (M_nm M3_raisePredecessors).cls (M_nm M3_raisePredecessors) (M_nm M3_raisePredecessors) ∈ tW := pm1 3 rfl
theorem tok3_leads : TbOk M3_leads := TbOk_of (by decide +kernel)
theorem ok3_leads : MOk M3_leads := ⟨tok3_leads, cn3.1, (tm3 123 rfl rfl), cn3.2, ci3, by decide +kernel⟩
theorem ow3_leads : OwnOk M3_leads := fun o h => by cases h; rfl
theorem im3_leads : Cond.instanceMethod (M_nm M3_leads) ∈ tW := (tm3 121 rfl rfl)
theorem se3_leads : Cond.selects (M_nm M3_leads).cls (M_nm M3_leads) (M_nm M3_leads) ∈ tW := (tm3 122 rfl rfl)
theorem tok3_raiseLead : TbOk M3_raiseLead := TbOk_of (by decide +kernel)
theorem ok3_raiseLead : MOk M3_raiseLead := ⟨tok3_raiseLead, cn3.1, (tm3 127 rfl rfl), cn3.2, ci3, by decide +kernel⟩
theorem ow3_raiseLead : OwnOk M3_raiseLead := fun o h => by cases h; rfl
theorem im3_raiseLead : Cond.instanceMethod (M_nm M3_raiseLead) ∈ tW := (tm3 126 rfl rfl)
theorem se3_raiseLead : Cond.selects (M_nm M3_raiseLead).cls (M_nm M3_raiseLead) (M_nm M3_raiseLead) ∈ tW := pm1 11 rfl
theorem tok4_init : TbOk M4_init := TbOk_of (by decide +kernel)
theorem ok4_init : MOk M4_init := ⟨tok4_init, cn4.1, (tm1 144 rfl rfl), cn4.2, ci4, by decide +kernel⟩
theorem ow4_init : OwnOk M4_init := fun o h => by cases h; rfl
theorem im4_init : Cond.instanceMethod (M_nm M4_init) ∈ tW := (tm1 143 rfl rfl)
theorem tok4_make : TbOk M4_make := TbOk_of (by decide +kernel)
theorem ok4_make : MOk M4_make := ⟨tok4_make, cn4.1, (tm3 76 rfl rfl), cn4.2, ci4, by decide +kernel⟩
theorem ow4_make : OwnOk M4_make := fun o h => by cases h; rfl
theorem im4_make : Cond.instanceMethod (M_nm M4_make) ∈ tW := (tm3 74 rfl rfl)
theorem se4_make : Cond.selects (M_nm M4_make).cls (M_nm M4_make) (M_nm M4_make) ∈ tW := (tm3 75 rfl rfl)
theorem tok4_endCompleted : TbOk M4_endCompleted := TbOk_of (by decide +kernel)
theorem ok4_endCompleted : MOk M4_endCompleted := ⟨tok4_endCompleted, cn4.1, (tm3 84 rfl rfl), cn4.2, ci4, by decide +kernel⟩
theorem ow4_endCompleted : OwnOk M4_endCompleted := fun o h => by cases h; rfl
theorem im4_endCompleted : Cond.instanceMethod (M_nm M4_endCompleted) ∈ tW := (tm3 83 rfl rfl)
theorem se4_endCompleted : Cond.selects (M_nm M4_endCompleted).cls (M_nm M4_endCompleted) (M_nm M4_endCompleted) ∈ tW := pm1 6 rfl
theorem tok4_findStartable : TbOk M4_findStartable := TbOk_of (by decide +kernel)
theorem ok4_findStartable : MOk M4_findStartable := ⟨tok4_findStartable, cn4.1, (tm3 89 rfl rfl), cn4.2, ci4, by decide +kernel⟩
theorem ow4_findStartable : OwnOk M4_findStartable := fun o h => by cases h; rfl
theorem im4_findStartable : Cond.instanceMethod (M_nm M4_findStartable) ∈ tW := (tm3 88 rfl rfl)
theorem se4_findStartable : Cond.selects (M_nm M4_findStartable).cls (M_nm M4_findStartable) (M_nm M4_findStartable) ∈ tW := pm1 7 rfl
theorem tok4_startItems : TbOk M4_startItems := TbOk_of (by decide +kernel)
theorem ok4_startItems : MOk M4_startItems := ⟨tok4_startItems, cn4.1, (tm3 94 rfl rfl), cn4.2, ci4, by decide +kernel⟩
theorem ow4_startItems : OwnOk M4_startItems := fun o h => by cases h; rfl
theorem im4_startItems : Cond.instanceMethod (M_nm M4_startItems) ∈ tW := (tm3 93 rfl rfl)
theorem se4_startItems : Cond.selects (M_nm M4_startItems).cls (M_nm M4_startItems) (M_nm M4_startItems) ∈ tW := pm1 8 rfl
theorem tok4_bestStartable : TbOk M4_bestStartable := TbOk_of (by decide +kernel)
theorem ok4_bestStartable : MOk M4_bestStartable := ⟨tok4_bestStartable, cn4.1, (tm3 98 rfl rfl), cn4.2, ci4, by decide +kernel⟩
theorem ow4_bestStartable : OwnOk M4_bestStartable := fun o h => by cases h; rfl
theorem im4_bestStartable : Cond.instanceMethod (M_nm M4_bestStartable) ∈ tW := (tm3 97 rfl rfl)
theorem se4_bestStartable : Cond.selects (M_nm M4_bestStartable).cls (M_nm M4_bestStartable) (M_nm M4_bestStartable) ∈ tW := pm1 9 rfl
theorem tok4_nextEnd : TbOk M4_nextEnd := TbOk_of (by decide +kernel)
theorem ok4_nextEnd : MOk M4_nextEnd := ⟨tok4_nextEnd, cn4.1, (tm3 104 rfl rfl), cn4.2, ci4, by decide +kernel⟩
theorem ow4_nextEnd : OwnOk M4_nextEnd := fun o h => by cases h; rfl
theorem im4_nextEnd : Cond.instanceMethod (M_nm M4_nextEnd) ∈ tW := (tm3 103 rfl rfl)
theorem se4_nextEnd : Cond.selects (M_nm M4_nextEnd).cls (M_nm M4_nextEnd) (M_nm M4_nextEnd) ∈ tW := pm1 10 rfl
theorem tok5_init : TbOk M5_init := TbOk_of (by decide +kernel)
theorem ok5_init : MOk M5_init := ⟨tok5_init, cn5.1, (tm1 26 rfl rfl), cn5.2, ci5, by decide +kernel⟩
theorem ow5_init : OwnOk M5_init := fun o h => by cases h; rfl
theorem im5_init : Cond.instanceMethod (M_nm M5_init) ∈ tW := (tm1 25 rfl rfl)
theorem tok5_holds : TbOk M5_holds := TbOk_of (by decide +kernel)
theorem ok5_holds : MOk M5_holds := ⟨tok5_holds, cn5.1, (tm2 44 rfl rfl), cn5.2, ci5, by decide +kernel⟩
theorem ow5_holds : OwnOk M5_holds := fun o h => by cases h; rfl
theorem im5_holds : Cond.instanceMethod (M_nm M5_holds) ∈ tW := (tm2 42 rfl rfl)
theorem se5_holds : Cond.selects (M_nm M5_holds).cls (M_nm M5_holds) (M_nm M5_holds) ∈ tW := (tm2 43 rfl rfl)
theorem tok5_isFull : TbOk M5_isFull := TbOk_of (by decide +kernel)
theorem ok5_isFull : MOk M5_isFull := ⟨tok5_isFull, cn5.1, (tm2 24 rfl rfl), cn5.2, ci5, by decide +kernel⟩
theorem ow5_isFull : OwnOk M5_isFull := fun o h => by cases h; rfl
theorem im5_isFull : Cond.instanceMethod (M_nm M5_isFull) ∈ tW := (tm2 22 rfl rfl)
theorem se5_isFull : Cond.selects (M_nm M5_isFull).cls (M_nm M5_isFull) (M_nm M5_isFull) ∈ tW := (tm2 23 rfl rfl)
theorem tok5_hasEnded : TbOk M5_hasEnded := TbOk_of (by decide +kernel)
theorem ok5_hasEnded : MOk M5_hasEnded := ⟨tok5_hasEnded, cn5.1, (tm2 107 rfl rfl), cn5.2, ci5, by decide +kernel⟩
theorem ow5_hasEnded : OwnOk M5_hasEnded := fun o h => by cases h; rfl
theorem im5_hasEnded : Cond.instanceMethod (M_nm M5_hasEnded) ∈ tW := (tm2 105 rfl rfl)
theorem se5_hasEnded : Cond.selects (M_nm M5_hasEnded).cls (M_nm M5_hasEnded) (M_nm M5_hasEnded) ∈ tW := (tm2 106 rfl rfl)
theorem tok5_hasFailed : TbOk M5_hasFailed := TbOk_of (by decide +kernel)
theorem ok5_hasFailed : MOk M5_hasFailed := ⟨tok5_hasFailed, cn5.1, (tm2 102 rfl rfl), cn5.2, ci5, by decide +kernel⟩
theorem ow5_hasFailed : OwnOk M5_hasFailed := fun o h => by cases h; rfl
theorem im5_hasFailed : Cond.instanceMethod (M_nm M5_hasFailed) ∈ tW := (tm2 100 rfl rfl)
theorem se5_hasFailed : Cond.selects (M_nm M5_hasFailed).cls (M_nm M5_hasFailed) (M_nm M5_hasFailed) ∈ tW := (tm2 101 rfl rfl)
theorem tok5_followsEdges : TbOk M5_followsEdges := TbOk_of (by decide +kernel)
theorem ok5_followsEdges : MOk M5_followsEdges := ⟨tok5_followsEdges, cn5.1, (tm2 76 rfl rfl), cn5.2, ci5, by decide +kernel⟩
theorem ow5_followsEdges : OwnOk M5_followsEdges := fun o h => by cases h; rfl
theorem im5_followsEdges : Cond.instanceMethod (M_nm M5_followsEdges) ∈ tW := (tm2 74 rfl rfl)
theorem se5_followsEdges : Cond.selects (M_nm M5_followsEdges).cls (M_nm M5_followsEdges) (M_nm M5_followsEdges) ∈ tW := (tm2 75 rfl rfl)
theorem tok5_isValid : TbOk M5_isValid := TbOk_of (by decide +kernel)
theorem ok5_isValid : MOk M5_isValid := ⟨tok5_isValid, cn5.1, (tm2 205 rfl rfl), cn5.2, ci5, by decide +kernel⟩
theorem ow5_isValid : OwnOk M5_isValid := fun o h => by cases h; rfl
theorem im5_isValid : Cond.instanceMethod (M_nm M5_isValid) ∈ tW := (tm2 203 rfl rfl)
theorem se5_isValid : Cond.selects (M_nm M5_isValid).cls (M_nm M5_isValid) (M_nm M5_isValid) ∈ tW := (tm2 204 rfl rfl)
theorem tok5_workLeft : TbOk M5_workLeft := TbOk_of (by decide +kernel)
theorem ok5_workLeft : MOk M5_workLeft := ⟨tok5_workLeft, cn5.1, (tm2 165 rfl rfl), cn5.2, ci5, by decide +kernel⟩
theorem ow5_workLeft : OwnOk M5_workLeft := fun o h => by cases h; rfl
theorem im5_workLeft : Cond.instanceMethod (M_nm M5_workLeft) ∈ tW := (tm2 163 rfl rfl)
theorem se5_workLeft : Cond.selects (M_nm M5_workLeft).cls (M_nm M5_workLeft) (M_nm M5_workLeft) ∈ tW := (tm2 164 rfl rfl)
theorem tok5_setIn : TbOk M5_setIn := TbOk_of (by decide +kernel)
theorem ok5_setIn : MOk M5_setIn := ⟨tok5_setIn, cn5.1, (tm2 213 rfl rfl), cn5.2, ci5, by decide +kernel⟩
theorem ow5_setIn : OwnOk M5_setIn := fun o h => by cases h; rfl
theorem im5_setIn : Cond.instanceMethod (M_nm M5_setIn) ∈ tW := (tm2 211 rfl rfl)
theorem se5_setIn : Cond.selects (M_nm M5_setIn).cls (M_nm M5_setIn) (M_nm M5_setIn) ∈ tW := (tm2 212 rfl rfl)
theorem tok5_unendedSet : TbOk M5_unendedSet := TbOk_of (by decide +kernel)
theorem ok5_unendedSet : MOk M5_unendedSet := ⟨tok5_unendedSet, cn5.1, (tm3 80 rfl rfl), cn5.2, ci5, by decide +kernel⟩
theorem ow5_unendedSet : OwnOk M5_unendedSet := fun o h => by cases h; rfl
theorem im5_unendedSet : Cond.instanceMethod (M_nm M5_unendedSet) ∈ tW := (tm3 78 rfl rfl)
theorem se5_unendedSet : Cond.selects (M_nm M5_unendedSet).cls (M_nm M5_unendedSet) (M_nm M5_unendedSet) ∈ tW := (tm3 79 rfl rfl)
theorem tok5_append : TbOk M5_append := TbOk_of (by decide +kernel)
theorem ok5_append : MOk M5_append := ⟨tok5_append, cn5.1, (tm2 28 rfl rfl), cn5.2, ci5, by decide +kernel⟩
theorem ow5_append : OwnOk M5_append := fun o h => by cases h; rfl
theorem im5_append : Cond.instanceMethod (M_nm M5_append) ∈ tW := (tm2 26 rfl rfl)
theorem se5_append : Cond.selects (M_nm M5_append).cls (M_nm M5_append) (M_nm M5_append) ∈ tW := (tm2 27 rfl rfl)
theorem tok5_startAnew : TbOk M5_startAnew := TbOk_of (by decide +kernel)
theorem ok5_startAnew : MOk M5_startAnew := ⟨tok5_startAnew, cn5.1, (tm2 32 rfl rfl), cn5.2, ci5, by decide +kernel⟩
theorem ow5_startAnew : OwnOk M5_startAnew := fun o h => by cases h; rfl
theorem im5_startAnew : Cond.instanceMethod (M_nm M5_startAnew) ∈ tW := (tm2 30 rfl rfl)
theorem se5_startAnew : Cond.selects (M_nm M5_startAnew).cls (M_nm M5_startAnew) (M_nm M5_startAnew) ∈ tW := (tm2 31 rfl rfl)
theorem tok5_makeReady : TbOk M5_makeReady := TbOk_of (by decide +kernel)
theorem ok5_makeReady : MOk M5_makeReady := ⟨tok5_makeReady, cn5.1, (tm2 36 rfl rfl), cn5.2, ci5, by decide +kernel⟩
theorem ow5_makeReady : OwnOk M5_makeReady := fun o h => by cases h; rfl
theorem im5_makeReady : Cond.instanceMethod (M_nm M5_makeReady) ∈ tW := (tm2 34 rfl rfl)
theorem se5_makeReady : Cond.selects (M_nm M5_makeReady).cls (M_nm M5_makeReady) (M_nm M5_makeReady) ∈ tW := (tm2 35 rfl rfl)
theorem tok5_removeItems : TbOk M5_removeItems := TbOk_of (by decide +kernel)
theorem ok5_removeItems : MOk M5_removeItems := ⟨tok5_removeItems, cn5.1, (tm2 149 rfl rfl), cn5.2, ci5, by decide +kernel⟩
theorem ow5_removeItems : OwnOk M5_removeItems := fun o h => by cases h; rfl
theorem im5_removeItems : Cond.instanceMethod (M_nm M5_removeItems) ∈ tW := (tm2 147 rfl rfl)
theorem se5_removeItems : Cond.selects (M_nm M5_removeItems).cls (M_nm M5_removeItems) (M_nm M5_removeItems) ∈ tW := (tm2 148 rfl rfl)
theorem tok5_predecessors : TbOk M5_predecessors := TbOk_of (by decide +kernel)
theorem ok5_predecessors : MOk M5_predecessors := ⟨tok5_predecessors, cn5.1, (tm2 52 rfl rfl), cn5.2, ci5, by decide +kernel⟩
theorem ow5_predecessors : OwnOk M5_predecessors := fun o h => by cases h; rfl
theorem im5_predecessors : Cond.instanceMethod (M_nm M5_predecessors) ∈ tW := (tm2 50 rfl rfl)
theorem se5_predecessors : Cond.selects (M_nm M5_predecessors).cls (M_nm M5_predecessors) (M_nm M5_predecessors) ∈ tW := (tm2 51 rfl rfl)
theorem tok5_edgeCount : TbOk M5_edgeCount := TbOk_of (by decide +kernel)
theorem ok5_edgeCount : MOk M5_edgeCount := ⟨tok5_edgeCount, cn5.1, (tm2 112 rfl rfl), cn5.2, ci5, by decide +kernel⟩
theorem ow5_edgeCount : OwnOk M5_edgeCount := fun o h => by cases h; rfl
theorem im5_edgeCount : Cond.instanceMethod (M_nm M5_edgeCount) ∈ tW := (tm2 110 rfl rfl)
theorem se5_edgeCount : Cond.selects (M_nm M5_edgeCount).cls (M_nm M5_edgeCount) (M_nm M5_edgeCount) ∈ tW := (tm2 111 rfl rfl)
theorem tok5_edgeKind : TbOk M5_edgeKind := TbOk_of (by decide +kernel)
theorem ok5_edgeKind : MOk M5_edgeKind := ⟨tok5_edgeKind, cn5.1, (tm3 38 rfl rfl), cn5.2, ci5, by decide +kernel⟩
theorem ow5_edgeKind : OwnOk M5_edgeKind := fun o h => by cases h; rfl
theorem im5_edgeKind : Cond.instanceMethod (M_nm M5_edgeKind) ∈ tW := (tm3 36 rfl rfl)
theorem se5_edgeKind : Cond.selects (M_nm M5_edgeKind).cls (M_nm M5_edgeKind) (M_nm M5_edgeKind) ∈ tW := (tm3 37 rfl rfl)
theorem tok5_putEdge : TbOk M5_putEdge := TbOk_of (by decide +kernel)
theorem ok5_putEdge : MOk M5_putEdge := ⟨tok5_putEdge, cn5.1, (tm2 80 rfl rfl), cn5.2, ci5, by decide +kernel⟩
theorem ow5_putEdge : OwnOk M5_putEdge := fun o h => by cases h; rfl
theorem im5_putEdge : Cond.instanceMethod (M_nm M5_putEdge) ∈ tW := (tm2 78 rfl rfl)
theorem se5_putEdge : Cond.selects (M_nm M5_putEdge).cls (M_nm M5_putEdge) (M_nm M5_putEdge) ∈ tW := (tm2 79 rfl rfl)
theorem tok5_dropEdge : TbOk M5_dropEdge := TbOk_of (by decide +kernel)
theorem ok5_dropEdge : MOk M5_dropEdge := ⟨tok5_dropEdge, cn5.1, (tm2 84 rfl rfl), cn5.2, ci5, by decide +kernel⟩
theorem ow5_dropEdge : OwnOk M5_dropEdge := fun o h => by cases h; rfl
theorem im5_dropEdge : Cond.instanceMethod (M_nm M5_dropEdge) ∈ tW := (tm2 82 rfl rfl)
theorem se5_dropEdge : Cond.selects (M_nm M5_dropEdge).cls (M_nm M5_dropEdge) (M_nm M5_dropEdge) ∈ tW := (tm2 83 rfl rfl)
theorem tok5_settle : TbOk M5_settle := TbOk_of (by decide +kernel)
theorem ok5_settle : MOk M5_settle := ⟨tok5_settle, cn5.1, (tm2 88 rfl rfl), cn5.2, ci5, by decide +kernel⟩
theorem ow5_settle : OwnOk M5_settle := fun o h => by cases h; rfl
theorem im5_settle : Cond.instanceMethod (M_nm M5_settle) ∈ tW := (tm2 86 rfl rfl)
theorem se5_settle : Cond.selects (M_nm M5_settle).cls (M_nm M5_settle) (M_nm M5_settle) ∈ tW := (tm2 87 rfl rfl)
theorem tok5_settleItem : TbOk M5_settleItem := TbOk_of (by decide +kernel)
theorem ok5_settleItem : MOk M5_settleItem := ⟨tok5_settleItem, cn5.1, (tm2 92 rfl rfl), cn5.2, ci5, by decide +kernel⟩
theorem ow5_settleItem : OwnOk M5_settleItem := fun o h => by cases h; rfl
theorem im5_settleItem : Cond.instanceMethod (M_nm M5_settleItem) ∈ tW := (tm2 91 rfl rfl)
theorem se5_settleItem : Cond.selects (M_nm M5_settleItem).cls (M_nm M5_settleItem) (M_nm M5_settleItem) ∈ tW := pm1 1 rfl
theorem tok5_stateByEdges : TbOk M5_stateByEdges := TbOk_of (by decide +kernel)
theorem ok5_stateByEdges : MOk M5_stateByEdges := ⟨tok5_stateByEdges, cn5.1, (tm2 97 rfl rfl), cn5.2, ci5, by decide +kernel⟩
theorem ow5_stateByEdges : OwnOk M5_stateByEdges := fun o h => by cases h; rfl
theorem im5_stateByEdges : Cond.instanceMethod (M_nm M5_stateByEdges) ∈ tW := (tm2 96 rfl rfl)
theorem se5_stateByEdges : Cond.selects (M_nm M5_stateByEdges).cls (M_nm M5_stateByEdges) (M_nm M5_stateByEdges) ∈ tW := pm1 2 rfl
theorem tok5_endAs : TbOk M5_endAs := TbOk_of (by decide +kernel)
theorem ok5_endAs : MOk M5_endAs := ⟨tok5_endAs, cn5.1, (tm2 209 rfl rfl), cn5.2, ci5, by decide +kernel⟩
theorem ow5_endAs : OwnOk M5_endAs := fun o h => by cases h; rfl
theorem im5_endAs : Cond.instanceMethod (M_nm M5_endAs) ∈ tW := (tm2 207 rfl rfl)
theorem se5_endAs : Cond.selects (M_nm M5_endAs).cls (M_nm M5_endAs) (M_nm M5_endAs) ∈ tW := (tm2 208 rfl rfl)
theorem tok5_comeBack : TbOk M5_comeBack := TbOk_of (by decide +kernel)
theorem ok5_comeBack : MOk M5_comeBack := ⟨tok5_comeBack, cn5.1, (tm2 222 rfl rfl), cn5.2, ci5, by decide +kernel⟩
theorem ow5_comeBack : OwnOk M5_comeBack := fun o h => by cases h; rfl
theorem im5_comeBack : Cond.instanceMethod (M_nm M5_comeBack) ∈ tW := (tm2 220 rfl rfl)
theorem se5_comeBack : Cond.selects (M_nm M5_comeBack).cls (M_nm M5_comeBack) (M_nm M5_comeBack) ∈ tW := (tm2 221 rfl rfl)
theorem tok5_passTick : TbOk M5_passTick := TbOk_of (by decide +kernel)
theorem ok5_passTick : MOk M5_passTick := ⟨tok5_passTick, cn5.1, (tm3 4 rfl rfl), cn5.2, ci5, by decide +kernel⟩
theorem ow5_passTick : OwnOk M5_passTick := fun o h => by cases h; rfl
theorem im5_passTick : Cond.instanceMethod (M_nm M5_passTick) ∈ tW := (tm3 2 rfl rfl)
theorem se5_passTick : Cond.selects (M_nm M5_passTick).cls (M_nm M5_passTick) (M_nm M5_passTick) ∈ tW := (tm3 3 rfl rfl)
theorem tok5_rankFor : TbOk M5_rankFor := TbOk_of (by decide +kernel)
theorem ok5_rankFor : MOk M5_rankFor := ⟨tok5_rankFor, cn5.1, (tm2 189 rfl rfl), cn5.2, ci5, by decide +kernel⟩
theorem ow5_rankFor : OwnOk M5_rankFor := fun o h => by cases h; rfl
theorem im5_rankFor : Cond.instanceMethod (M_nm M5_rankFor) ∈ tW := (tm2 187 rfl rfl)
theorem se5_rankFor : Cond.selects (M_nm M5_rankFor).cls (M_nm M5_rankFor) (M_nm M5_rankFor) ∈ tW := (tm2 188 rfl rfl)
theorem tok5_rankNow : TbOk M5_rankNow := TbOk_of (by decide +kernel)
theorem ok5_rankNow : MOk M5_rankNow := ⟨tok5_rankNow, cn5.1, (tm2 185 rfl rfl), cn5.2, ci5, by decide +kernel⟩
theorem ow5_rankNow : OwnOk M5_rankNow := fun o h => by cases h; rfl
theorem im5_rankNow : Cond.instanceMethod (M_nm M5_rankNow) ∈ tW := (tm2 183 rfl rfl)
theorem se5_rankNow : Cond.selects (M_nm M5_rankNow).cls (M_nm M5_rankNow) (M_nm M5_rankNow) ∈ tW := (tm2 184 rfl rfl)
theorem tok5_nextToReceive : TbOk M5_nextToReceive := TbOk_of (by decide +kernel)
theorem ok5_nextToReceive : MOk M5_nextToReceive := ⟨tok5_nextToReceive, cn5.1, (tm2 173 rfl rfl), cn5.2, ci5, by decide +kernel⟩
theorem ow5_nextToReceive : OwnOk M5_nextToReceive := fun o h => by cases h; rfl
theorem im5_nextToReceive : Cond.instanceMethod (M_nm M5_nextToReceive) ∈ tW := (tm2 171 rfl rfl)
theorem se5_nextToReceive : Cond.selects (M_nm M5_nextToReceive).cls (M_nm M5_nextToReceive) (M_nm M5_nextToReceive) ∈ tW := (tm2 172 rfl rfl)
theorem tok5_canBeReceived : TbOk M5_canBeReceived := TbOk_of (by decide +kernel)
theorem ok5_canBeReceived : MOk M5_canBeReceived := ⟨tok5_canBeReceived, cn5.1, (tm2 177 rfl rfl), cn5.2, ci5, by decide +kernel⟩
theorem ow5_canBeReceived : OwnOk M5_canBeReceived := fun o h => by cases h; rfl
theorem im5_canBeReceived : Cond.instanceMethod (M_nm M5_canBeReceived) ∈ tW := (tm2 176 rfl rfl)
theorem se5_canBeReceived : Cond.selects (M_nm M5_canBeReceived).cls (M_nm M5_canBeReceived) (M_nm M5_canBeReceived) ∈ tW := pm1 4 rfl
theorem tok5_inFlightOf : TbOk M5_inFlightOf := TbOk_of (by decide +kernel)
theorem ok5_inFlightOf : MOk M5_inFlightOf := ⟨tok5_inFlightOf, cn5.1, (tm2 181 rfl rfl), cn5.2, ci5, by decide +kernel⟩
theorem ow5_inFlightOf : OwnOk M5_inFlightOf := fun o h => by cases h; rfl
theorem im5_inFlightOf : Cond.instanceMethod (M_nm M5_inFlightOf) ∈ tW := (tm2 180 rfl rfl)
theorem se5_inFlightOf : Cond.selects (M_nm M5_inFlightOf).cls (M_nm M5_inFlightOf) (M_nm M5_inFlightOf) ∈ tW := pm1 5 rfl
theorem tok5_takeOut : TbOk M5_takeOut := TbOk_of (by decide +kernel)
theorem ok5_takeOut : MOk M5_takeOut := ⟨tok5_takeOut, cn5.1, (tm2 193 rfl rfl), cn5.2, ci5, by decide +kernel⟩
theorem ow5_takeOut : OwnOk M5_takeOut := fun o h => by cases h; rfl
theorem im5_takeOut : Cond.instanceMethod (M_nm M5_takeOut) ∈ tW := (tm2 191 rfl rfl)
theorem se5_takeOut : Cond.selects (M_nm M5_takeOut).cls (M_nm M5_takeOut) (M_nm M5_takeOut) ∈ tW := (tm2 192 rfl rfl)
theorem tok5_doomedBy : TbOk M5_doomedBy := TbOk_of (by decide +kernel)
theorem ok5_doomedBy : MOk M5_doomedBy := ⟨tok5_doomedBy, cn5.1, (tm3 59 rfl rfl), cn5.2, ci5, by decide +kernel⟩
theorem ow5_doomedBy : OwnOk M5_doomedBy := fun o h => by cases h; rfl
theorem im5_doomedBy : Cond.instanceMethod (M_nm M5_doomedBy) ∈ tW := (tm3 57 rfl rfl)
theorem se5_doomedBy : Cond.selects (M_nm M5_doomedBy).cls (M_nm M5_doomedBy) (M_nm M5_doomedBy) ∈ tW := (tm3 58 rfl rfl)
theorem tok5_copyAll : TbOk M5_copyAll := TbOk_of (by decide +kernel)
theorem ok5_copyAll : MOk M5_copyAll := ⟨tok5_copyAll, cn5.1, (tm3 239 rfl rfl), cn5.2, ci5, by decide +kernel⟩
theorem ow5_copyAll : OwnOk M5_copyAll := fun o h => by cases h; rfl
theorem im5_copyAll : Cond.instanceMethod (M_nm M5_copyAll) ∈ tW := (tm3 237 rfl rfl)
theorem se5_copyAll : Cond.selects (M_nm M5_copyAll).cls (M_nm M5_copyAll) (M_nm M5_copyAll) ∈ tW := (tm3 238 rfl rfl)
theorem tok5_copyItems : TbOk M5_copyItems := TbOk_of (by decide +kernel)
theorem ok5_copyItems : MOk M5_copyItems := ⟨tok5_copyItems, cn5.1, (tm3 225 rfl rfl), cn5.2, ci5, by decide +kernel⟩
theorem ow5_copyItems : OwnOk M5_copyItems := fun o h => by cases h; rfl
theorem im5_copyItems : Cond.instanceMethod (M_nm M5_copyItems) ∈ tW := (tm3 223 rfl rfl)
theorem se5_copyItems : Cond.selects (M_nm M5_copyItems).cls (M_nm M5_copyItems) (M_nm M5_copyItems) ∈ tW := (tm3 224 rfl rfl)
theorem tok5_copyRow : TbOk M5_copyRow := TbOk_of (by decide +kernel)
theorem ok5_copyRow : MOk M5_copyRow := ⟨tok5_copyRow, cn5.1, (tm3 228 rfl rfl), cn5.2, ci5, by decide +kernel⟩
theorem ow5_copyRow : OwnOk M5_copyRow := fun o h => by cases h; rfl
theorem sm5_copyRow : Cond.static (M_nm M5_copyRow) ∈ tW := (tm3 227 rfl rfl)
theorem tok6_init : TbOk M6_init := TbOk_of (by decide +kernel)
theorem ok6_init : MOk M6_init := ⟨tok6_init, cn6.1, (tm1 210 rfl rfl), cn6.2, ci6, by decide +kernel⟩
theorem ow6_init : OwnOk M6_init := fun o h => by cases h; rfl
theorem im6_init : Cond.instanceMethod (M_nm M6_init) ∈ tW := (tm1 209 rfl rfl)
theorem tok6_append : TbOk M6_append := TbOk_of (by decide +kernel)
theorem ok6_append : MOk M6_append := ⟨tok6_append, cn6.1, (tm3 179 rfl rfl), cn6.2, ci6, by decide +kernel⟩
theorem ow6_append : OwnOk M6_append := fun o h => by cases h; rfl
theorem im6_append : Cond.instanceMethod (M_nm M6_append) ∈ tW := (tm3 177 rfl rfl)
theorem se6_append : Cond.selects (M_nm M6_append).cls (M_nm M6_append) (M_nm M6_append) ∈ tW := (tm3 178 rfl rfl)
theorem tok6_read : TbOk M6_read := TbOk_of (by decide +kernel)
theorem ok6_read : MOk M6_read := ⟨tok6_read, cn6.1, (tm3 191 rfl rfl), cn6.2, ci6, by decide +kernel⟩
theorem ow6_read : OwnOk M6_read := fun o h => by cases h; rfl
theorem im6_read : Cond.instanceMethod (M_nm M6_read) ∈ tW := (tm3 189 rfl rfl)
theorem se6_read : Cond.selects (M_nm M6_read).cls (M_nm M6_read) (M_nm M6_read) ∈ tW := (tm3 190 rfl rfl)
theorem tok6_readItem : TbOk M6_readItem := TbOk_of (by decide +kernel)
theorem ok6_readItem : MOk M6_readItem := ⟨tok6_readItem, cn6.1, (tm3 196 rfl rfl), cn6.2, ci6, by decide +kernel⟩
theorem ow6_readItem : OwnOk M6_readItem := fun o h => by cases h; rfl
theorem im6_readItem : Cond.instanceMethod (M_nm M6_readItem) ∈ tW := (tm3 195 rfl rfl)
theorem se6_readItem : Cond.selects (M_nm M6_readItem).cls (M_nm M6_readItem) (M_nm M6_readItem) ∈ tW := pm2 1 rfl
theorem tok6_readEdges : TbOk M6_readEdges := TbOk_of (by decide +kernel)
theorem ok6_readEdges : MOk M6_readEdges := ⟨tok6_readEdges, cn6.1, (tm3 214 rfl rfl), cn6.2, ci6, by decide +kernel⟩
theorem ow6_readEdges : OwnOk M6_readEdges := fun o h => by cases h; rfl
theorem im6_readEdges : Cond.instanceMethod (M_nm M6_readEdges) ∈ tW := (tm3 213 rfl rfl)
theorem se6_readEdges : Cond.selects (M_nm M6_readEdges).cls (M_nm M6_readEdges) (M_nm M6_readEdges) ∈ tW := pm2 4 rfl
theorem tok6_readNumber : TbOk M6_readNumber := TbOk_of (by decide +kernel)
theorem ok6_readNumber : MOk M6_readNumber := ⟨tok6_readNumber, cn6.1, (tm3 208 rfl rfl), cn6.2, ci6, by decide +kernel⟩
theorem ow6_readNumber : OwnOk M6_readNumber := fun o h => by cases h; rfl
theorem im6_readNumber : Cond.instanceMethod (M_nm M6_readNumber) ∈ tW := (tm3 207 rfl rfl)
theorem se6_readNumber : Cond.selects (M_nm M6_readNumber).cls (M_nm M6_readNumber) (M_nm M6_readNumber) ∈ tW := pm2 3 rfl
theorem tok6_codeHere : TbOk M6_codeHere := TbOk_of (by decide +kernel)
theorem ok6_codeHere : MOk M6_codeHere := ⟨tok6_codeHere, cn6.1, (tm3 201 rfl rfl), cn6.2, ci6, by decide +kernel⟩
theorem ow6_codeHere : OwnOk M6_codeHere := fun o h => by cases h; rfl
theorem im6_codeHere : Cond.instanceMethod (M_nm M6_codeHere) ∈ tW := (tm3 200 rfl rfl)
theorem se6_codeHere : Cond.selects (M_nm M6_codeHere).cls (M_nm M6_codeHere) (M_nm M6_codeHere) ∈ tW := pm2 2 rfl
theorem tok6_isDigit : TbOk M6_isDigit := TbOk_of (by decide +kernel)
theorem ok6_isDigit : MOk M6_isDigit := ⟨tok6_isDigit, cn6.1, (tm3 204 rfl rfl), cn6.2, ci6, by decide +kernel⟩
theorem ow6_isDigit : OwnOk M6_isDigit := fun o h => by cases h; rfl
theorem sm6_isDigit : Cond.static (M_nm M6_isDigit) ∈ tW := (tm3 203 rfl rfl)
theorem tok7_init : TbOk M7_init := TbOk_of (by decide +kernel)
theorem ok7_init : MOk M7_init := ⟨tok7_init, cn7.1, (tm1 126 rfl rfl), cn7.2, ci7, by decide +kernel⟩
theorem ow7_init : OwnOk M7_init := fun o h => by cases h; rfl
theorem im7_init : Cond.instanceMethod (M_nm M7_init) ∈ tW := (tm1 125 rfl rfl)
theorem tok7_forget : TbOk M7_forget := TbOk_of (by decide +kernel)
theorem ok7_forget : MOk M7_forget := ⟨tok7_forget, cn7.1, (tm2 153 rfl rfl), cn7.2, ci7, by decide +kernel⟩
theorem ow7_forget : OwnOk M7_forget := fun o h => by cases h; rfl
theorem im7_forget : Cond.instanceMethod (M_nm M7_forget) ∈ tW := (tm2 151 rfl rfl)
theorem se7_forget : Cond.selects (M_nm M7_forget).cls (M_nm M7_forget) (M_nm M7_forget) ∈ tW := (tm2 152 rfl rfl)
theorem tok7_remember : TbOk M7_remember := TbOk_of (by decide +kernel)
theorem ok7_remember : MOk M7_remember := ⟨tok7_remember, cn7.1, (tm2 60 rfl rfl), cn7.2, ci7, by decide +kernel⟩
theorem ow7_remember : OwnOk M7_remember := fun o h => by cases h; rfl
theorem im7_remember : Cond.instanceMethod (M_nm M7_remember) ∈ tW := (tm2 58 rfl rfl)
theorem se7_remember : Cond.selects (M_nm M7_remember).cls (M_nm M7_remember) (M_nm M7_remember) ∈ tW := (tm2 59 rfl rfl)
theorem tok7_drawRings : TbOk M7_drawRings := TbOk_of (by decide +kernel)
theorem ok7_drawRings : MOk M7_drawRings := ⟨tok7_drawRings, cn7.1, (tm2 64 rfl rfl), cn7.2, ci7, by decide +kernel⟩
theorem ow7_drawRings : OwnOk M7_drawRings := fun o h => by cases h; rfl
theorem im7_drawRings : Cond.instanceMethod (M_nm M7_drawRings) ∈ tW := (tm2 63 rfl rfl)
theorem se7_drawRings : Cond.selects (M_nm M7_drawRings).cls (M_nm M7_drawRings) (M_nm M7_drawRings) ∈ tW := pm1 0 rfl
theorem tok7_predecessorsOfAll : TbOk M7_predecessorsOfAll := TbOk_of (by decide +kernel)
theorem ok7_predecessorsOfAll : MOk M7_predecessorsOfAll := ⟨tok7_predecessorsOfAll, cn7.1, (tm2 68 rfl rfl), cn7.2, ci7, by decide +kernel⟩
theorem ow7_predecessorsOfAll : OwnOk M7_predecessorsOfAll := fun o h => by cases h; rfl
theorem sm7_predecessorsOfAll : Cond.static (M_nm M7_predecessorsOfAll) ∈ tW := (tm2 67 rfl rfl)
theorem tok7_lowestSuccessor : TbOk M7_lowestSuccessor := TbOk_of (by decide +kernel)
theorem ok7_lowestSuccessor : MOk M7_lowestSuccessor := ⟨tok7_lowestSuccessor, cn7.1, (tm2 72 rfl rfl), cn7.2, ci7, by decide +kernel⟩
theorem ow7_lowestSuccessor : OwnOk M7_lowestSuccessor := fun o h => by cases h; rfl
theorem sm7_lowestSuccessor : Cond.static (M_nm M7_lowestSuccessor) ∈ tW := (tm2 71 rfl rfl)
theorem tok8_init : TbOk M8_init := TbOk_of (by decide +kernel)
theorem ok8_init : MOk M8_init := ⟨tok8_init, cn8.1, (tm1 18 rfl rfl), cn8.2, ci8, by decide +kernel⟩
theorem ow8_init : OwnOk M8_init := fun o h => by cases h; rfl
theorem im8_init : Cond.instanceMethod (M_nm M8_init) ∈ tW := (tm1 17 rfl rfl)
theorem tok8_add : TbOk M8_add := TbOk_of (by decide +kernel)
theorem ok8_add : MOk M8_add := ⟨tok8_add, cn8.1, (tm2 17 rfl rfl), cn8.2, ci8, by decide +kernel⟩
theorem ow8_add : OwnOk M8_add := fun o h => by cases h; rfl
theorem im8_add : Cond.instanceMethod (M_nm M8_add) ∈ tW := (tm2 15 rfl rfl)
theorem se8_add : Cond.selects (M_nm M8_add).cls (M_nm M8_add) (M_nm M8_add) ∈ tW := (tm2 16 rfl rfl)
theorem tok8_link : TbOk M8_link := TbOk_of (by decide +kernel)
theorem ok8_link : MOk M8_link := ⟨tok8_link, cn8.1, (tm2 40 rfl rfl), cn8.2, ci8, by decide +kernel⟩
theorem ow8_link : OwnOk M8_link := fun o h => by cases h; rfl
theorem im8_link : Cond.instanceMethod (M_nm M8_link) ∈ tW := (tm2 38 rfl rfl)
theorem se8_link : Cond.selects (M_nm M8_link).cls (M_nm M8_link) (M_nm M8_link) ∈ tW := (tm2 39 rfl rfl)
theorem tok8_witness : TbOk M8_witness := TbOk_of (by decide +kernel)
theorem ok8_witness : MOk M8_witness := ⟨tok8_witness, cn8.1, (tm2 122 rfl rfl), cn8.2, ci8, by decide +kernel⟩
theorem ow8_witness : OwnOk M8_witness := fun o h => by cases h; rfl
theorem im8_witness : Cond.instanceMethod (M_nm M8_witness) ∈ tW := (tm2 120 rfl rfl)
theorem se8_witness : Cond.selects (M_nm M8_witness).cls (M_nm M8_witness) (M_nm M8_witness) ∈ tW := (tm2 121 rfl rfl)
theorem tok8_unlink : TbOk M8_unlink := TbOk_of (by decide +kernel)
theorem ok8_unlink : MOk M8_unlink := ⟨tok8_unlink, cn8.1, (tm2 126 rfl rfl), cn8.2, ci8, by decide +kernel⟩
theorem ow8_unlink : OwnOk M8_unlink := fun o h => by cases h; rfl
theorem im8_unlink : Cond.instanceMethod (M_nm M8_unlink) ∈ tW := (tm2 124 rfl rfl)
theorem se8_unlink : Cond.selects (M_nm M8_unlink).cls (M_nm M8_unlink) (M_nm M8_unlink) ∈ tW := (tm2 125 rfl rfl)
theorem tok8_setPriority : TbOk M8_setPriority := TbOk_of (by decide +kernel)
theorem ok8_setPriority : MOk M8_setPriority := ⟨tok8_setPriority, cn8.1, (tm2 132 rfl rfl), cn8.2, ci8, by decide +kernel⟩
theorem ow8_setPriority : OwnOk M8_setPriority := fun o h => by cases h; rfl
theorem im8_setPriority : Cond.instanceMethod (M_nm M8_setPriority) ∈ tW := (tm2 130 rfl rfl)
theorem se8_setPriority : Cond.selects (M_nm M8_setPriority).cls (M_nm M8_setPriority) (M_nm M8_setPriority) ∈ tW := (tm2 131 rfl rfl)
theorem tok8_setPolicy : TbOk M8_setPolicy := TbOk_of (by decide +kernel)
theorem ok8_setPolicy : MOk M8_setPolicy := ⟨tok8_setPolicy, cn8.1, (tm2 137 rfl rfl), cn8.2, ci8, by decide +kernel⟩
theorem ow8_setPolicy : OwnOk M8_setPolicy := fun o h => by cases h; rfl
theorem im8_setPolicy : Cond.instanceMethod (M_nm M8_setPolicy) ∈ tW := (tm2 135 rfl rfl)
theorem se8_setPolicy : Cond.selects (M_nm M8_setPolicy).cls (M_nm M8_setPolicy) (M_nm M8_setPolicy) ∈ tW := (tm2 136 rfl rfl)
theorem tok8_setGroupLimit : TbOk M8_setGroupLimit := TbOk_of (by decide +kernel)
theorem ok8_setGroupLimit : MOk M8_setGroupLimit := ⟨tok8_setGroupLimit, cn8.1, (tm2 141 rfl rfl), cn8.2, ci8, by decide +kernel⟩
theorem ow8_setGroupLimit : OwnOk M8_setGroupLimit := fun o h => by cases h; rfl
theorem im8_setGroupLimit : Cond.instanceMethod (M_nm M8_setGroupLimit) ∈ tW := (tm2 139 rfl rfl)
theorem se8_setGroupLimit : Cond.selects (M_nm M8_setGroupLimit).cls (M_nm M8_setGroupLimit) (M_nm M8_setGroupLimit) ∈ tW := (tm2 140 rfl rfl)
theorem tok8_clear : TbOk M8_clear := TbOk_of (by decide +kernel)
theorem ok8_clear : MOk M8_clear := ⟨tok8_clear, cn8.1, (tm2 145 rfl rfl), cn8.2, ci8, by decide +kernel⟩
theorem ow8_clear : OwnOk M8_clear := fun o h => by cases h; rfl
theorem im8_clear : Cond.instanceMethod (M_nm M8_clear) ∈ tW := (tm2 143 rfl rfl)
theorem se8_clear : Cond.selects (M_nm M8_clear).cls (M_nm M8_clear) (M_nm M8_clear) ∈ tW := (tm2 144 rfl rfl)
theorem tok8_receive : TbOk M8_receive := TbOk_of (by decide +kernel)
theorem ok8_receive : MOk M8_receive := ⟨tok8_receive, cn8.1, (tm2 157 rfl rfl), cn8.2, ci8, by decide +kernel⟩
theorem ow8_receive : OwnOk M8_receive := fun o h => by cases h; rfl
theorem im8_receive : Cond.instanceMethod (M_nm M8_receive) ∈ tW := (tm2 155 rfl rfl)
theorem se8_receive : Cond.selects (M_nm M8_receive).cls (M_nm M8_receive) (M_nm M8_receive) ∈ tW := (tm2 156 rfl rfl)
theorem tok8_receipt : TbOk M8_receipt := TbOk_of (by decide +kernel)
theorem ok8_receipt : MOk M8_receipt := ⟨tok8_receipt, cn8.1, (tm2 197 rfl rfl), cn8.2, ci8, by decide +kernel⟩
theorem ow8_receipt : OwnOk M8_receipt := fun o h => by cases h; rfl
theorem im8_receipt : Cond.instanceMethod (M_nm M8_receipt) ∈ tW := (tm2 195 rfl rfl)
theorem se8_receipt : Cond.selects (M_nm M8_receipt).cls (M_nm M8_receipt) (M_nm M8_receipt) ∈ tW := (tm2 196 rfl rfl)
theorem tok8_finish : TbOk M8_finish := TbOk_of (by decide +kernel)
theorem ok8_finish : MOk M8_finish := ⟨tok8_finish, cn8.1, (tm2 201 rfl rfl), cn8.2, ci8, by decide +kernel⟩
theorem ow8_finish : OwnOk M8_finish := fun o h => by cases h; rfl
theorem im8_finish : Cond.instanceMethod (M_nm M8_finish) ∈ tW := (tm2 199 rfl rfl)
theorem se8_finish : Cond.selects (M_nm M8_finish).cls (M_nm M8_finish) (M_nm M8_finish) ∈ tW := (tm2 200 rfl rfl)
theorem tok8_giveBack : TbOk M8_giveBack := TbOk_of (by decide +kernel)
theorem ok8_giveBack : MOk M8_giveBack := ⟨tok8_giveBack, cn8.1, (tm2 218 rfl rfl), cn8.2, ci8, by decide +kernel⟩
theorem ow8_giveBack : OwnOk M8_giveBack := fun o h => by cases h; rfl
theorem im8_giveBack : Cond.instanceMethod (M_nm M8_giveBack) ∈ tW := (tm2 216 rfl rfl)
theorem se8_giveBack : Cond.selects (M_nm M8_giveBack).cls (M_nm M8_giveBack) (M_nm M8_giveBack) ∈ tW := (tm2 217 rfl rfl)
theorem tok8_extend : TbOk M8_extend := TbOk_of (by decide +kernel)
theorem ok8_extend : MOk M8_extend := ⟨tok8_extend, cn8.1, (tm2 226 rfl rfl), cn8.2, ci8, by decide +kernel⟩
theorem ow8_extend : OwnOk M8_extend := fun o h => by cases h; rfl
theorem im8_extend : Cond.instanceMethod (M_nm M8_extend) ∈ tW := (tm2 224 rfl rfl)
theorem se8_extend : Cond.selects (M_nm M8_extend).cls (M_nm M8_extend) (M_nm M8_extend) ∈ tW := (tm2 225 rfl rfl)
theorem tok8_cancel : TbOk M8_cancel := TbOk_of (by decide +kernel)
theorem ok8_cancel : MOk M8_cancel := ⟨tok8_cancel, cn8.1, (tm2 230 rfl rfl), cn8.2, ci8, by decide +kernel⟩
theorem ow8_cancel : OwnOk M8_cancel := fun o h => by cases h; rfl
theorem im8_cancel : Cond.instanceMethod (M_nm M8_cancel) ∈ tW := (tm2 228 rfl rfl)
theorem se8_cancel : Cond.selects (M_nm M8_cancel).cls (M_nm M8_cancel) (M_nm M8_cancel) ∈ tW := (tm2 229 rfl rfl)
theorem tok8_revive : TbOk M8_revive := TbOk_of (by decide +kernel)
theorem ok8_revive : MOk M8_revive := ⟨tok8_revive, cn8.1, (tm2 234 rfl rfl), cn8.2, ci8, by decide +kernel⟩
theorem ow8_revive : OwnOk M8_revive := fun o h => by cases h; rfl
theorem im8_revive : Cond.instanceMethod (M_nm M8_revive) ∈ tW := (tm2 232 rfl rfl)
theorem se8_revive : Cond.selects (M_nm M8_revive).cls (M_nm M8_revive) (M_nm M8_revive) ∈ tW := (tm2 233 rfl rfl)
theorem tok8_tick : TbOk M8_tick := TbOk_of (by decide +kernel)
theorem ok8_tick : MOk M8_tick := ⟨tok8_tick, cn8.1, (tm3 0 rfl rfl), cn8.2, ci8, by decide +kernel⟩
theorem ow8_tick : OwnOk M8_tick := fun o h => by cases h; rfl
theorem im8_tick : Cond.instanceMethod (M_nm M8_tick) ∈ tW := (tm2 238 rfl rfl)
theorem se8_tick : Cond.selects (M_nm M8_tick).cls (M_nm M8_tick) (M_nm M8_tick) ∈ tW := (tm2 239 rfl rfl)
theorem tok8_items : TbOk M8_items := TbOk_of (by decide +kernel)
theorem ok8_items : MOk M8_items := ⟨tok8_items, cn8.1, (tm3 9 rfl rfl), cn8.2, ci8, by decide +kernel⟩
theorem ow8_items : OwnOk M8_items := fun o h => by cases h; rfl
theorem im8_items : Cond.instanceMethod (M_nm M8_items) ∈ tW := (tm3 7 rfl rfl)
theorem se8_items : Cond.selects (M_nm M8_items).cls (M_nm M8_items) (M_nm M8_items) ∈ tW := (tm3 8 rfl rfl)
theorem tok8_edges : TbOk M8_edges := TbOk_of (by decide +kernel)
theorem ok8_edges : MOk M8_edges := ⟨tok8_edges, cn8.1, (tm3 13 rfl rfl), cn8.2, ci8, by decide +kernel⟩
theorem ow8_edges : OwnOk M8_edges := fun o h => by cases h; rfl
theorem im8_edges : Cond.instanceMethod (M_nm M8_edges) ∈ tW := (tm3 11 rfl rfl)
theorem se8_edges : Cond.selects (M_nm M8_edges).cls (M_nm M8_edges) (M_nm M8_edges) ∈ tW := (tm3 12 rfl rfl)
theorem tok8_time : TbOk M8_time := TbOk_of (by decide +kernel)
theorem ok8_time : MOk M8_time := ⟨tok8_time, cn8.1, (tm3 17 rfl rfl), cn8.2, ci8, by decide +kernel⟩
theorem ow8_time : OwnOk M8_time := fun o h => by cases h; rfl
theorem im8_time : Cond.instanceMethod (M_nm M8_time) ∈ tW := (tm3 15 rfl rfl)
theorem se8_time : Cond.selects (M_nm M8_time).cls (M_nm M8_time) (M_nm M8_time) ∈ tW := (tm3 16 rfl rfl)
theorem tok8_state : TbOk M8_state := TbOk_of (by decide +kernel)
theorem ok8_state : MOk M8_state := ⟨tok8_state, cn8.1, (tm3 21 rfl rfl), cn8.2, ci8, by decide +kernel⟩
theorem ow8_state : OwnOk M8_state := fun o h => by cases h; rfl
theorem im8_state : Cond.instanceMethod (M_nm M8_state) ∈ tW := (tm3 19 rfl rfl)
theorem se8_state : Cond.selects (M_nm M8_state).cls (M_nm M8_state) (M_nm M8_state) ∈ tW := (tm3 20 rfl rfl)
theorem tok8_itemsIn : TbOk M8_itemsIn := TbOk_of (by decide +kernel)
theorem ok8_itemsIn : MOk M8_itemsIn := ⟨tok8_itemsIn, cn8.1, (tm3 25 rfl rfl), cn8.2, ci8, by decide +kernel⟩
theorem ow8_itemsIn : OwnOk M8_itemsIn := fun o h => by cases h; rfl
theorem im8_itemsIn : Cond.instanceMethod (M_nm M8_itemsIn) ∈ tW := (tm3 23 rfl rfl)
theorem se8_itemsIn : Cond.selects (M_nm M8_itemsIn).cls (M_nm M8_itemsIn) (M_nm M8_itemsIn) ∈ tW := (tm3 24 rfl rfl)
theorem tok8_property : TbOk M8_property := TbOk_of (by decide +kernel)
theorem ok8_property : MOk M8_property := ⟨tok8_property, cn8.1, (tm3 30 rfl rfl), cn8.2, ci8, by decide +kernel⟩
theorem ow8_property : OwnOk M8_property := fun o h => by cases h; rfl
theorem im8_property : Cond.instanceMethod (M_nm M8_property) ∈ tW := (tm3 28 rfl rfl)
theorem se8_property : Cond.selects (M_nm M8_property).cls (M_nm M8_property) (M_nm M8_property) ∈ tW := (tm3 29 rfl rfl)
theorem tok8_edge : TbOk M8_edge := TbOk_of (by decide +kernel)
theorem ok8_edge : MOk M8_edge := ⟨tok8_edge, cn8.1, (tm3 34 rfl rfl), cn8.2, ci8, by decide +kernel⟩
theorem ow8_edge : OwnOk M8_edge := fun o h => by cases h; rfl
theorem im8_edge : Cond.instanceMethod (M_nm M8_edge) ∈ tW := (tm3 32 rfl rfl)
theorem se8_edge : Cond.selects (M_nm M8_edge).cls (M_nm M8_edge) (M_nm M8_edge) ∈ tW := (tm3 33 rfl rfl)
theorem tok8_rank : TbOk M8_rank := TbOk_of (by decide +kernel)
theorem ok8_rank : MOk M8_rank := ⟨tok8_rank, cn8.1, (tm3 42 rfl rfl), cn8.2, ci8, by decide +kernel⟩
theorem ow8_rank : OwnOk M8_rank := fun o h => by cases h; rfl
theorem im8_rank : Cond.instanceMethod (M_nm M8_rank) ∈ tW := (tm3 40 rfl rfl)
theorem se8_rank : Cond.selects (M_nm M8_rank).cls (M_nm M8_rank) (M_nm M8_rank) ∈ tW := (tm3 41 rfl rfl)
theorem tok8_height : TbOk M8_height := TbOk_of (by decide +kernel)
theorem ok8_height : MOk M8_height := ⟨tok8_height, cn8.1, (tm3 47 rfl rfl), cn8.2, ci8, by decide +kernel⟩
theorem ow8_height : OwnOk M8_height := fun o h => by cases h; rfl
theorem im8_height : Cond.instanceMethod (M_nm M8_height) ∈ tW := (tm3 45 rfl rfl)
theorem se8_height : Cond.selects (M_nm M8_height).cls (M_nm M8_height) (M_nm M8_height) ∈ tW := (tm3 46 rfl rfl)
theorem tok8_before : TbOk M8_before := TbOk_of (by decide +kernel)
theorem ok8_before : MOk M8_before := ⟨tok8_before, cn8.1, (tm3 51 rfl rfl), cn8.2, ci8, by decide +kernel⟩
theorem ow8_before : OwnOk M8_before := fun o h => by cases h; rfl
theorem im8_before : Cond.instanceMethod (M_nm M8_before) ∈ tW := (tm3 49 rfl rfl)
theorem se8_before : Cond.selects (M_nm M8_before).cls (M_nm M8_before) (M_nm M8_before) ∈ tW := (tm3 50 rfl rfl)
theorem tok8_wouldDoom : TbOk M8_wouldDoom := TbOk_of (by decide +kernel)
theorem ok8_wouldDoom : MOk M8_wouldDoom := ⟨tok8_wouldDoom, cn8.1, (tm3 55 rfl rfl), cn8.2, ci8, by decide +kernel⟩
theorem ow8_wouldDoom : OwnOk M8_wouldDoom := fun o h => by cases h; rfl
theorem im8_wouldDoom : Cond.instanceMethod (M_nm M8_wouldDoom) ∈ tW := (tm3 53 rfl rfl)
theorem se8_wouldDoom : Cond.selects (M_nm M8_wouldDoom).cls (M_nm M8_wouldDoom) (M_nm M8_wouldDoom) ∈ tW := (tm3 54 rfl rfl)
theorem tok8_isSuperfluous : TbOk M8_isSuperfluous := TbOk_of (by decide +kernel)
theorem ok8_isSuperfluous : MOk M8_isSuperfluous := ⟨tok8_isSuperfluous, cn8.1, (tm3 63 rfl rfl), cn8.2, ci8, by decide +kernel⟩
theorem ow8_isSuperfluous : OwnOk M8_isSuperfluous := fun o h => by cases h; rfl
theorem im8_isSuperfluous : Cond.instanceMethod (M_nm M8_isSuperfluous) ∈ tW := (tm3 61 rfl rfl)
theorem se8_isSuperfluous : Cond.selects (M_nm M8_isSuperfluous).cls (M_nm M8_isSuperfluous) (M_nm M8_isSuperfluous) ∈ tW := (tm3 62 rfl rfl)
theorem tok8_planLength : TbOk M8_planLength := TbOk_of (by decide +kernel)
theorem ok8_planLength : MOk M8_planLength := ⟨tok8_planLength, cn8.1, (tm3 72 rfl rfl), cn8.2, ci8, by decide +kernel⟩
theorem ow8_planLength : OwnOk M8_planLength := fun o h => by cases h; rfl
theorem im8_planLength : Cond.instanceMethod (M_nm M8_planLength) ∈ tW := (tm3 70 rfl rfl)
theorem se8_planLength : Cond.selects (M_nm M8_planLength).cls (M_nm M8_planLength) (M_nm M8_planLength) ∈ tW := (tm3 71 rfl rfl)
theorem tok8_planStart : TbOk M8_planStart := TbOk_of (by decide +kernel)
theorem ok8_planStart : MOk M8_planStart := ⟨tok8_planStart, cn8.1, (tm3 108 rfl rfl), cn8.2, ci8, by decide +kernel⟩
theorem ow8_planStart : OwnOk M8_planStart := fun o h => by cases h; rfl
theorem im8_planStart : Cond.instanceMethod (M_nm M8_planStart) ∈ tW := (tm3 106 rfl rfl)
theorem se8_planStart : Cond.selects (M_nm M8_planStart).cls (M_nm M8_planStart) (M_nm M8_planStart) ∈ tW := (tm3 107 rfl rfl)
theorem tok8_bestWorkers : TbOk M8_bestWorkers := TbOk_of (by decide +kernel)
theorem ok8_bestWorkers : MOk M8_bestWorkers := ⟨tok8_bestWorkers, cn8.1, (tm3 112 rfl rfl), cn8.2, ci8, by decide +kernel⟩
theorem ow8_bestWorkers : OwnOk M8_bestWorkers := fun o h => by cases h; rfl
theorem im8_bestWorkers : Cond.instanceMethod (M_nm M8_bestWorkers) ∈ tW := (tm3 110 rfl rfl)
theorem se8_bestWorkers : Cond.selects (M_nm M8_bestWorkers).cls (M_nm M8_bestWorkers) (M_nm M8_bestWorkers) ∈ tW := (tm3 111 rfl rfl)
theorem tok8_slack : TbOk M8_slack := TbOk_of (by decide +kernel)
theorem ok8_slack : MOk M8_slack := ⟨tok8_slack, cn8.1, (tm3 116 rfl rfl), cn8.2, ci8, by decide +kernel⟩
theorem ow8_slack : OwnOk M8_slack := fun o h => by cases h; rfl
theorem im8_slack : Cond.instanceMethod (M_nm M8_slack) ∈ tW := (tm3 114 rfl rfl)
theorem se8_slack : Cond.selects (M_nm M8_slack).cls (M_nm M8_slack) (M_nm M8_slack) ∈ tW := (tm3 115 rfl rfl)
theorem tok8_width : TbOk M8_width := TbOk_of (by decide +kernel)
theorem ok8_width : MOk M8_width := ⟨tok8_width, cn8.1, (tm3 131 rfl rfl), cn8.2, ci8, by decide +kernel⟩
theorem ow8_width : OwnOk M8_width := fun o h => by cases h; rfl
theorem im8_width : Cond.instanceMethod (M_nm M8_width) ∈ tW := (tm3 129 rfl rfl)
theorem se8_width : Cond.selects (M_nm M8_width).cls (M_nm M8_width) (M_nm M8_width) ∈ tW := (tm3 130 rfl rfl)
theorem tok8_orders : TbOk M8_orders := TbOk_of (by decide +kernel)
theorem ok8_orders : MOk M8_orders := ⟨tok8_orders, cn8.1, (tm3 153 rfl rfl), cn8.2, ci8, by decide +kernel⟩
theorem ow8_orders : OwnOk M8_orders := fun o h => by cases h; rfl
theorem im8_orders : Cond.instanceMethod (M_nm M8_orders) ∈ tW := (tm3 151 rfl rfl)
theorem se8_orders : Cond.selects (M_nm M8_orders).cls (M_nm M8_orders) (M_nm M8_orders) ∈ tW := (tm3 152 rfl rfl)
theorem tok8_write : TbOk M8_write := TbOk_of (by decide +kernel)
theorem ok8_write : MOk M8_write := ⟨tok8_write, cn8.1, (tm3 175 rfl rfl), cn8.2, ci8, by decide +kernel⟩
theorem ow8_write : OwnOk M8_write := fun o h => by cases h; rfl
theorem im8_write : Cond.instanceMethod (M_nm M8_write) ∈ tW := (tm3 173 rfl rfl)
theorem se8_write : Cond.selects (M_nm M8_write).cls (M_nm M8_write) (M_nm M8_write) ∈ tW := (tm3 174 rfl rfl)
theorem tok8_wipe : TbOk M8_wipe := TbOk_of (by decide +kernel)
theorem ok8_wipe : MOk M8_wipe := ⟨tok8_wipe, cn8.1, (tm3 183 rfl rfl), cn8.2, ci8, by decide +kernel⟩
theorem ow8_wipe : OwnOk M8_wipe := fun o h => by cases h; rfl
theorem im8_wipe : Cond.instanceMethod (M_nm M8_wipe) ∈ tW := (tm3 181 rfl rfl)
theorem se8_wipe : Cond.selects (M_nm M8_wipe).cls (M_nm M8_wipe) (M_nm M8_wipe) ∈ tW := (tm3 182 rfl rfl)
theorem tok8_fault : TbOk M8_fault := TbOk_of (by decide +kernel)
theorem ok8_fault : MOk M8_fault := ⟨tok8_fault, cn8.1, (tm3 187 rfl rfl), cn8.2, ci8, by decide +kernel⟩
theorem ow8_fault : OwnOk M8_fault := fun o h => by cases h; rfl
theorem im8_fault : Cond.instanceMethod (M_nm M8_fault) ∈ tW := (tm3 185 rfl rfl)
theorem se8_fault : Cond.selects (M_nm M8_fault).cls (M_nm M8_fault) (M_nm M8_fault) ∈ tW := (tm3 186 rfl rfl)
theorem tok8_load : TbOk M8_load := TbOk_of (by decide +kernel)
theorem ok8_load : MOk M8_load := ⟨tok8_load, cn8.1, (tm3 221 rfl rfl), cn8.2, ci8, by decide +kernel⟩
theorem ow8_load : OwnOk M8_load := fun o h => by cases h; rfl
theorem im8_load : Cond.instanceMethod (M_nm M8_load) ∈ tW := (tm3 219 rfl rfl)
theorem se8_load : Cond.selects (M_nm M8_load).cls (M_nm M8_load) (M_nm M8_load) ∈ tW := (tm3 220 rfl rfl)
theorem tok8_save : TbOk M8_save := TbOk_of (by decide +kernel)
theorem ok8_save : MOk M8_save := ⟨tok8_save, cn8.1, (tm3 235 rfl rfl), cn8.2, ci8, by decide +kernel⟩
theorem ow8_save : OwnOk M8_save := fun o h => by cases h; rfl
theorem im8_save : Cond.instanceMethod (M_nm M8_save) ∈ tW := (tm3 233 rfl rfl)
theorem se8_save : Cond.selects (M_nm M8_save).cls (M_nm M8_save) (M_nm M8_save) ∈ tW := (tm3 234 rfl rfl)
theorem tok8_restore : TbOk M8_restore := TbOk_of (by decide +kernel)
theorem ok8_restore : MOk M8_restore := ⟨tok8_restore, cn8.1, (tm4 4 rfl rfl), cn8.2, ci8, by decide +kernel⟩
theorem ow8_restore : OwnOk M8_restore := fun o h => by cases h; rfl
theorem im8_restore : Cond.instanceMethod (M_nm M8_restore) ∈ tW := (tm4 2 rfl rfl)
theorem se8_restore : Cond.selects (M_nm M8_restore).cls (M_nm M8_restore) (M_nm M8_restore) ∈ tW := (tm4 3 rfl rfl)
theorem tok8_isWithin : TbOk M8_isWithin := TbOk_of (by decide +kernel)
theorem ok8_isWithin : MOk M8_isWithin := ⟨tok8_isWithin, cn8.1, (tm2 20 rfl rfl), cn8.2, ci8, by decide +kernel⟩
theorem ow8_isWithin : OwnOk M8_isWithin := fun o h => by cases h; rfl
theorem sm8_isWithin : Cond.static (M_nm M8_isWithin) ∈ tW := (tm2 19 rfl rfl)
theorem tok9_init : TbOk M9_init := TbOk_of (by decide +kernel)
theorem ok9_init : MOk M9_init := ⟨tok9_init, cn9.1, (tm4 9 rfl rfl), cn9.2, ci9, by decide +kernel⟩
theorem ow9_init : OwnOk M9_init := fun o h => by cases h; rfl
theorem im9_init : Cond.instanceMethod (M_nm M9_init) ∈ tW := (tm4 8 rfl rfl)
theorem tok9_isIn : TbOk M9_isIn := TbOk_of (by decide +kernel)
theorem ok9_isIn : MOk M9_isIn := ⟨tok9_isIn, cn9.1, (tm4 96 rfl rfl), cn9.2, ci9, by decide +kernel⟩
theorem ow9_isIn : OwnOk M9_isIn := fun o h => by cases h; rfl
theorem sm9_isIn : Cond.static (M_nm M9_isIn) ∈ tW := (tm4 95 rfl rfl)
theorem tok9_isItem : TbOk M9_isItem := TbOk_of (by decide +kernel)
theorem ok9_isItem : MOk M9_isItem := ⟨tok9_isItem, cn9.1, (tm4 136 rfl rfl), cn9.2, ci9, by decide +kernel⟩
theorem ow9_isItem : OwnOk M9_isItem := fun o h => by cases h; rfl
theorem im9_isItem : Cond.instanceMethod (M_nm M9_isItem) ∈ tW := (tm4 135 rfl rfl)
theorem se9_isItem : Cond.selects (M_nm M9_isItem).cls (M_nm M9_isItem) (M_nm M9_isItem) ∈ tW := pm2 13 rfl
theorem tok9_of : TbOk M9_of := TbOk_of (by decide +kernel)
theorem ok9_of : MOk M9_of := ⟨tok9_of, cn9.1, (tm4 112 rfl rfl), cn9.2, ci9, by decide +kernel⟩
theorem ow9_of : OwnOk M9_of := fun o h => by cases h; rfl
theorem im9_of : Cond.instanceMethod (M_nm M9_of) ∈ tW := (tm4 111 rfl rfl)
theorem se9_of : Cond.selects (M_nm M9_of).cls (M_nm M9_of) (M_nm M9_of) ∈ tW := pm2 8 rfl
theorem tok9_set : TbOk M9_set := TbOk_of (by decide +kernel)
theorem ok9_set : MOk M9_set := ⟨tok9_set, cn9.1, (tm4 104 rfl rfl), cn9.2, ci9, by decide +kernel⟩
theorem ow9_set : OwnOk M9_set := fun o h => by cases h; rfl
theorem im9_set : Cond.instanceMethod (M_nm M9_set) ∈ tW := (tm4 103 rfl rfl)
theorem se9_set : Cond.selects (M_nm M9_set).cls (M_nm M9_set) (M_nm M9_set) ∈ tW := pm2 6 rfl
theorem tok9_kindOf : TbOk M9_kindOf := TbOk_of (by decide +kernel)
theorem ok9_kindOf : MOk M9_kindOf := ⟨tok9_kindOf, cn9.1, (tm4 120 rfl rfl), cn9.2, ci9, by decide +kernel⟩
theorem ow9_kindOf : OwnOk M9_kindOf := fun o h => by cases h; rfl
theorem im9_kindOf : Cond.instanceMethod (M_nm M9_kindOf) ∈ tW := (tm4 119 rfl rfl)
theorem se9_kindOf : Cond.selects (M_nm M9_kindOf).cls (M_nm M9_kindOf) (M_nm M9_kindOf) ∈ tW := pm2 10 rfl
theorem tok9_hasEnded : TbOk M9_hasEnded := TbOk_of (by decide +kernel)
theorem ok9_hasEnded : MOk M9_hasEnded := ⟨tok9_hasEnded, cn9.1, (tm4 124 rfl rfl), cn9.2, ci9, by decide +kernel⟩
theorem ow9_hasEnded : OwnOk M9_hasEnded := fun o h => by cases h; rfl
theorem im9_hasEnded : Cond.instanceMethod (M_nm M9_hasEnded) ∈ tW := (tm4 123 rfl rfl)
theorem se9_hasEnded : Cond.selects (M_nm M9_hasEnded).cls (M_nm M9_hasEnded) (M_nm M9_hasEnded) ∈ tW := pm2 11 rfl
theorem tok9_append : TbOk M9_append := TbOk_of (by decide +kernel)
theorem ok9_append : MOk M9_append := ⟨tok9_append, cn9.1, (tm4 100 rfl rfl), cn9.2, ci9, by decide +kernel⟩
theorem ow9_append : OwnOk M9_append := fun o h => by cases h; rfl
theorem im9_append : Cond.instanceMethod (M_nm M9_append) ∈ tW := (tm4 99 rfl rfl)
theorem se9_append : Cond.selects (M_nm M9_append).cls (M_nm M9_append) (M_nm M9_append) ∈ tW := pm2 5 rfl
theorem tok9_due : TbOk M9_due := TbOk_of (by decide +kernel)
theorem ok9_due : MOk M9_due := ⟨tok9_due, cn9.1, (tm4 116 rfl rfl), cn9.2, ci9, by decide +kernel⟩
theorem ow9_due : OwnOk M9_due := fun o h => by cases h; rfl
theorem im9_due : Cond.instanceMethod (M_nm M9_due) ∈ tW := (tm4 115 rfl rfl)
theorem se9_due : Cond.selects (M_nm M9_due).cls (M_nm M9_due) (M_nm M9_due) ∈ tW := pm2 9 rfl
theorem tok9_becomesReady : TbOk M9_becomesReady := TbOk_of (by decide +kernel)
theorem ok9_becomesReady : MOk M9_becomesReady := ⟨tok9_becomesReady, cn9.1, (tm4 128 rfl rfl), cn9.2, ci9, by decide +kernel⟩
theorem ow9_becomesReady : OwnOk M9_becomesReady := fun o h => by cases h; rfl
theorem im9_becomesReady : Cond.instanceMethod (M_nm M9_becomesReady) ∈ tW := (tm4 127 rfl rfl)
theorem se9_becomesReady : Cond.selects (M_nm M9_becomesReady).cls (M_nm M9_becomesReady) (M_nm M9_becomesReady) ∈ tW := pm2 12 rfl
theorem tok9_settle : TbOk M9_settle := TbOk_of (by decide +kernel)
theorem ok9_settle : MOk M9_settle := ⟨tok9_settle, cn9.1, (tm4 108 rfl rfl), cn9.2, ci9, by decide +kernel⟩
theorem ow9_settle : OwnOk M9_settle := fun o h => by cases h; rfl
theorem im9_settle : Cond.instanceMethod (M_nm M9_settle) ∈ tW := (tm4 107 rfl rfl)
theorem se9_settle : Cond.selects (M_nm M9_settle).cls (M_nm M9_settle) (M_nm M9_settle) ∈ tW := pm2 7 rfl
theorem tok9_add : TbOk M9_add := TbOk_of (by decide +kernel)
theorem ok9_add : MOk M9_add := ⟨tok9_add, cn9.1, (tm4 93 rfl rfl), cn9.2, ci9, by decide +kernel⟩
theorem ow9_add : OwnOk M9_add := fun o h => by cases h; rfl
theorem im9_add : Cond.instanceMethod (M_nm M9_add) ∈ tW := (tm4 91 rfl rfl)
theorem se9_add : Cond.selects (M_nm M9_add).cls (M_nm M9_add) (M_nm M9_add) ∈ tW := (tm4 92 rfl rfl)
theorem tok9_measureTo : TbOk M9_measureTo := TbOk_of (by decide +kernel)
theorem ok9_measureTo : MOk M9_measureTo := ⟨tok9_measureTo, cn9.1, (tm4 140 rfl rfl), cn9.2, ci9, by decide +kernel⟩
theorem ow9_measureTo : OwnOk M9_measureTo := fun o h => by cases h; rfl
theorem im9_measureTo : Cond.instanceMethod (M_nm M9_measureTo) ∈ tW := (tm4 139 rfl rfl)
theorem se9_measureTo : Cond.selects (M_nm M9_measureTo).cls (M_nm M9_measureTo) (M_nm M9_measureTo) ∈ tW := pm2 14 rfl
theorem tok9_keepPath : TbOk M9_keepPath := TbOk_of (by decide +kernel)
theorem ok9_keepPath : MOk M9_keepPath := ⟨tok9_keepPath, cn9.1, (tm4 144 rfl rfl), cn9.2, ci9, by decide +kernel⟩
theorem ow9_keepPath : OwnOk M9_keepPath := fun o h => by cases h; rfl
theorem im9_keepPath : Cond.instanceMethod (M_nm M9_keepPath) ∈ tW := (tm4 143 rfl rfl)
theorem se9_keepPath : Cond.selects (M_nm M9_keepPath).cls (M_nm M9_keepPath) (M_nm M9_keepPath) ∈ tW := pm2 15 rfl
theorem tok9_link : TbOk M9_link := TbOk_of (by decide +kernel)
theorem ok9_link : MOk M9_link := ⟨tok9_link, cn9.1, (tm4 132 rfl rfl), cn9.2, ci9, by decide +kernel⟩
theorem ow9_link : OwnOk M9_link := fun o h => by cases h; rfl
theorem im9_link : Cond.instanceMethod (M_nm M9_link) ∈ tW := (tm4 130 rfl rfl)
theorem se9_link : Cond.selects (M_nm M9_link).cls (M_nm M9_link) (M_nm M9_link) ∈ tW := (tm4 131 rfl rfl)
theorem tok9_witness : TbOk M9_witness := TbOk_of (by decide +kernel)
theorem ok9_witness : MOk M9_witness := ⟨tok9_witness, cn9.1, (tm4 152 rfl rfl), cn9.2, ci9, by decide +kernel⟩
theorem ow9_witness : OwnOk M9_witness := fun o h => by cases h; rfl
theorem im9_witness : Cond.instanceMethod (M_nm M9_witness) ∈ tW := (tm4 150 rfl rfl)
theorem se9_witness : Cond.selects (M_nm M9_witness).cls (M_nm M9_witness) (M_nm M9_witness) ∈ tW := (tm4 151 rfl rfl)
theorem tok9_unlink : TbOk M9_unlink := TbOk_of (by decide +kernel)
theorem ok9_unlink : MOk M9_unlink := ⟨tok9_unlink, cn9.1, (tm4 156 rfl rfl), cn9.2, ci9, by decide +kernel⟩
theorem ow9_unlink : OwnOk M9_unlink := fun o h => by cases h; rfl
theorem im9_unlink : Cond.instanceMethod (M_nm M9_unlink) ∈ tW := (tm4 154 rfl rfl)
theorem se9_unlink : Cond.selects (M_nm M9_unlink).cls (M_nm M9_unlink) (M_nm M9_unlink) ∈ tW := (tm4 155 rfl rfl)
theorem tok9_setPriority : TbOk M9_setPriority := TbOk_of (by decide +kernel)
theorem ok9_setPriority : MOk M9_setPriority := ⟨tok9_setPriority, cn9.1, (tm4 160 rfl rfl), cn9.2, ci9, by decide +kernel⟩
theorem ow9_setPriority : OwnOk M9_setPriority := fun o h => by cases h; rfl
theorem im9_setPriority : Cond.instanceMethod (M_nm M9_setPriority) ∈ tW := (tm4 158 rfl rfl)
theorem se9_setPriority : Cond.selects (M_nm M9_setPriority).cls (M_nm M9_setPriority) (M_nm M9_setPriority) ∈ tW := (tm4 159 rfl rfl)
theorem tok9_setPolicy : TbOk M9_setPolicy := TbOk_of (by decide +kernel)
theorem ok9_setPolicy : MOk M9_setPolicy := ⟨tok9_setPolicy, cn9.1, (tm4 164 rfl rfl), cn9.2, ci9, by decide +kernel⟩
theorem ow9_setPolicy : OwnOk M9_setPolicy := fun o h => by cases h; rfl
theorem im9_setPolicy : Cond.instanceMethod (M_nm M9_setPolicy) ∈ tW := (tm4 162 rfl rfl)
theorem se9_setPolicy : Cond.selects (M_nm M9_setPolicy).cls (M_nm M9_setPolicy) (M_nm M9_setPolicy) ∈ tW := (tm4 163 rfl rfl)
theorem tok9_setGroupLimit : TbOk M9_setGroupLimit := TbOk_of (by decide +kernel)
theorem ok9_setGroupLimit : MOk M9_setGroupLimit := ⟨tok9_setGroupLimit, cn9.1, (tm4 168 rfl rfl), cn9.2, ci9, by decide +kernel⟩
theorem ow9_setGroupLimit : OwnOk M9_setGroupLimit := fun o h => by cases h; rfl
theorem im9_setGroupLimit : Cond.instanceMethod (M_nm M9_setGroupLimit) ∈ tW := (tm4 166 rfl rfl)
theorem se9_setGroupLimit : Cond.selects (M_nm M9_setGroupLimit).cls (M_nm M9_setGroupLimit) (M_nm M9_setGroupLimit) ∈ tW := (tm4 167 rfl rfl)
theorem tok9_clear : TbOk M9_clear := TbOk_of (by decide +kernel)
theorem ok9_clear : MOk M9_clear := ⟨tok9_clear, cn9.1, (tm4 172 rfl rfl), cn9.2, ci9, by decide +kernel⟩
theorem ow9_clear : OwnOk M9_clear := fun o h => by cases h; rfl
theorem im9_clear : Cond.instanceMethod (M_nm M9_clear) ∈ tW := (tm4 170 rfl rfl)
theorem se9_clear : Cond.selects (M_nm M9_clear).cls (M_nm M9_clear) (M_nm M9_clear) ∈ tW := (tm4 171 rfl rfl)
theorem tok9_ownWork : TbOk M9_ownWork := TbOk_of (by decide +kernel)
theorem ok9_ownWork : MOk M9_ownWork := ⟨tok9_ownWork, cn9.1, (tm4 184 rfl rfl), cn9.2, ci9, by decide +kernel⟩
theorem ow9_ownWork : OwnOk M9_ownWork := fun o h => by cases h; rfl
theorem im9_ownWork : Cond.instanceMethod (M_nm M9_ownWork) ∈ tW := (tm4 183 rfl rfl)
theorem se9_ownWork : Cond.selects (M_nm M9_ownWork).cls (M_nm M9_ownWork) (M_nm M9_ownWork) ∈ tW := pm3 1 rfl
theorem tok9_measure : TbOk M9_measure := TbOk_of (by decide +kernel)
theorem ok9_measure : MOk M9_measure := ⟨tok9_measure, cn9.1, (tm4 180 rfl rfl), cn9.2, ci9, by decide +kernel⟩
theorem ow9_measure : OwnOk M9_measure := fun o h => by cases h; rfl
theorem im9_measure : Cond.instanceMethod (M_nm M9_measure) ∈ tW := (tm4 179 rfl rfl)
theorem se9_measure : Cond.selects (M_nm M9_measure).cls (M_nm M9_measure) (M_nm M9_measure) ∈ tW := pm3 0 rfl
theorem tok9_rankOf : TbOk M9_rankOf := TbOk_of (by decide +kernel)
theorem ok9_rankOf : MOk M9_rankOf := ⟨tok9_rankOf, cn9.1, (tm4 192 rfl rfl), cn9.2, ci9, by decide +kernel⟩
theorem ow9_rankOf : OwnOk M9_rankOf := fun o h => by cases h; rfl
theorem im9_rankOf : Cond.instanceMethod (M_nm M9_rankOf) ∈ tW := (tm4 191 rfl rfl)
theorem se9_rankOf : Cond.selects (M_nm M9_rankOf).cls (M_nm M9_rankOf) (M_nm M9_rankOf) ∈ tW := pm3 3 rfl
theorem tok9_canReceive : TbOk M9_canReceive := TbOk_of (by decide +kernel)
theorem ok9_canReceive : MOk M9_canReceive := ⟨tok9_canReceive, cn9.1, (tm4 188 rfl rfl), cn9.2, ci9, by decide +kernel⟩
theorem ow9_canReceive : OwnOk M9_canReceive := fun o h => by cases h; rfl
theorem im9_canReceive : Cond.instanceMethod (M_nm M9_canReceive) ∈ tW := (tm4 187 rfl rfl)
theorem se9_canReceive : Cond.selects (M_nm M9_canReceive).cls (M_nm M9_canReceive) (M_nm M9_canReceive) ∈ tW := pm3 2 rfl
theorem tok9_receive : TbOk M9_receive := TbOk_of (by decide +kernel)
theorem ok9_receive : MOk M9_receive := ⟨tok9_receive, cn9.1, (tm4 176 rfl rfl), cn9.2, ci9, by decide +kernel⟩
theorem ow9_receive : OwnOk M9_receive := fun o h => by cases h; rfl
theorem im9_receive : Cond.instanceMethod (M_nm M9_receive) ∈ tW := (tm4 174 rfl rfl)
theorem se9_receive : Cond.selects (M_nm M9_receive).cls (M_nm M9_receive) (M_nm M9_receive) ∈ tW := (tm4 175 rfl rfl)
theorem tok9_receipt : TbOk M9_receipt := TbOk_of (by decide +kernel)
theorem ok9_receipt : MOk M9_receipt := ⟨tok9_receipt, cn9.1, (tm4 196 rfl rfl), cn9.2, ci9, by decide +kernel⟩
theorem ow9_receipt : OwnOk M9_receipt := fun o h => by cases h; rfl
theorem im9_receipt : Cond.instanceMethod (M_nm M9_receipt) ∈ tW := (tm4 194 rfl rfl)
theorem se9_receipt : Cond.selects (M_nm M9_receipt).cls (M_nm M9_receipt) (M_nm M9_receipt) ∈ tW := (tm4 195 rfl rfl)
theorem tok9_isValid : TbOk M9_isValid := TbOk_of (by decide +kernel)
theorem ok9_isValid : MOk M9_isValid := ⟨tok9_isValid, cn9.1, (tm4 204 rfl rfl), cn9.2, ci9, by decide +kernel⟩
theorem ow9_isValid : OwnOk M9_isValid := fun o h => by cases h; rfl
theorem im9_isValid : Cond.instanceMethod (M_nm M9_isValid) ∈ tW := (tm4 203 rfl rfl)
theorem se9_isValid : Cond.selects (M_nm M9_isValid).cls (M_nm M9_isValid) (M_nm M9_isValid) ∈ tW := pm3 4 rfl
theorem tok9_finish : TbOk M9_finish := TbOk_of (by decide +kernel)
theorem ok9_finish : MOk M9_finish := ⟨tok9_finish, cn9.1, (tm4 200 rfl rfl), cn9.2, ci9, by decide +kernel⟩
theorem ow9_finish : OwnOk M9_finish := fun o h => by cases h; rfl
theorem im9_finish : Cond.instanceMethod (M_nm M9_finish) ∈ tW := (tm4 198 rfl rfl)
theorem se9_finish : Cond.selects (M_nm M9_finish).cls (M_nm M9_finish) (M_nm M9_finish) ∈ tW := (tm4 199 rfl rfl)
theorem tok9_comeBack : TbOk M9_comeBack := TbOk_of (by decide +kernel)
theorem ok9_comeBack : MOk M9_comeBack := ⟨tok9_comeBack, cn9.1, (tm4 212 rfl rfl), cn9.2, ci9, by decide +kernel⟩
theorem ow9_comeBack : OwnOk M9_comeBack := fun o h => by cases h; rfl
theorem im9_comeBack : Cond.instanceMethod (M_nm M9_comeBack) ∈ tW := (tm4 211 rfl rfl)
theorem se9_comeBack : Cond.selects (M_nm M9_comeBack).cls (M_nm M9_comeBack) (M_nm M9_comeBack) ∈ tW := pm3 5 rfl
theorem tok9_giveBack : TbOk M9_giveBack := TbOk_of (by decide +kernel)
theorem ok9_giveBack : MOk M9_giveBack := ⟨tok9_giveBack, cn9.1, (tm4 208 rfl rfl), cn9.2, ci9, by decide +kernel⟩
theorem ow9_giveBack : OwnOk M9_giveBack := fun o h => by cases h; rfl
theorem im9_giveBack : Cond.instanceMethod (M_nm M9_giveBack) ∈ tW := (tm4 206 rfl rfl)
theorem se9_giveBack : Cond.selects (M_nm M9_giveBack).cls (M_nm M9_giveBack) (M_nm M9_giveBack) ∈ tW := (tm4 207 rfl rfl)
theorem tok9_extend : TbOk M9_extend := TbOk_of (by decide +kernel)
theorem ok9_extend : MOk M9_extend := ⟨tok9_extend, cn9.1, (tm4 216 rfl rfl), cn9.2, ci9, by decide +kernel⟩
theorem ow9_extend : OwnOk M9_extend := fun o h => by cases h; rfl
theorem im9_extend : Cond.instanceMethod (M_nm M9_extend) ∈ tW := (tm4 214 rfl rfl)
theorem se9_extend : Cond.selects (M_nm M9_extend).cls (M_nm M9_extend) (M_nm M9_extend) ∈ tW := (tm4 215 rfl rfl)
theorem tok9_cancel : TbOk M9_cancel := TbOk_of (by decide +kernel)
theorem ok9_cancel : MOk M9_cancel := ⟨tok9_cancel, cn9.1, (tm4 220 rfl rfl), cn9.2, ci9, by decide +kernel⟩
theorem ow9_cancel : OwnOk M9_cancel := fun o h => by cases h; rfl
theorem im9_cancel : Cond.instanceMethod (M_nm M9_cancel) ∈ tW := (tm4 218 rfl rfl)
theorem se9_cancel : Cond.selects (M_nm M9_cancel).cls (M_nm M9_cancel) (M_nm M9_cancel) ∈ tW := (tm4 219 rfl rfl)
theorem tok9_revive : TbOk M9_revive := TbOk_of (by decide +kernel)
theorem ok9_revive : MOk M9_revive := ⟨tok9_revive, cn9.1, (tm4 224 rfl rfl), cn9.2, ci9, by decide +kernel⟩
theorem ow9_revive : OwnOk M9_revive := fun o h => by cases h; rfl
theorem im9_revive : Cond.instanceMethod (M_nm M9_revive) ∈ tW := (tm4 222 rfl rfl)
theorem se9_revive : Cond.selects (M_nm M9_revive).cls (M_nm M9_revive) (M_nm M9_revive) ∈ tW := (tm4 223 rfl rfl)
theorem tok9_tick : TbOk M9_tick := TbOk_of (by decide +kernel)
theorem ok9_tick : MOk M9_tick := ⟨tok9_tick, cn9.1, (tm4 228 rfl rfl), cn9.2, ci9, by decide +kernel⟩
theorem ow9_tick : OwnOk M9_tick := fun o h => by cases h; rfl
theorem im9_tick : Cond.instanceMethod (M_nm M9_tick) ∈ tW := (tm4 226 rfl rfl)
theorem se9_tick : Cond.selects (M_nm M9_tick).cls (M_nm M9_tick) (M_nm M9_tick) ∈ tW := (tm4 227 rfl rfl)
theorem tok9_items : TbOk M9_items := TbOk_of (by decide +kernel)
theorem ok9_items : MOk M9_items := ⟨tok9_items, cn9.1, (tm4 232 rfl rfl), cn9.2, ci9, by decide +kernel⟩
theorem ow9_items : OwnOk M9_items := fun o h => by cases h; rfl
theorem im9_items : Cond.instanceMethod (M_nm M9_items) ∈ tW := (tm4 230 rfl rfl)
theorem se9_items : Cond.selects (M_nm M9_items).cls (M_nm M9_items) (M_nm M9_items) ∈ tW := (tm4 231 rfl rfl)
theorem tok9_edges : TbOk M9_edges := TbOk_of (by decide +kernel)
theorem ok9_edges : MOk M9_edges := ⟨tok9_edges, cn9.1, (tm4 148 rfl rfl), cn9.2, ci9, by decide +kernel⟩
theorem ow9_edges : OwnOk M9_edges := fun o h => by cases h; rfl
theorem im9_edges : Cond.instanceMethod (M_nm M9_edges) ∈ tW := (tm4 146 rfl rfl)
theorem se9_edges : Cond.selects (M_nm M9_edges).cls (M_nm M9_edges) (M_nm M9_edges) ∈ tW := (tm4 147 rfl rfl)
theorem tok9_time : TbOk M9_time := TbOk_of (by decide +kernel)
theorem ok9_time : MOk M9_time := ⟨tok9_time, cn9.1, (tm4 237 rfl rfl), cn9.2, ci9, by decide +kernel⟩
theorem ow9_time : OwnOk M9_time := fun o h => by cases h; rfl
theorem im9_time : Cond.instanceMethod (M_nm M9_time) ∈ tW := (tm4 235 rfl rfl)
theorem se9_time : Cond.selects (M_nm M9_time).cls (M_nm M9_time) (M_nm M9_time) ∈ tW := (tm4 236 rfl rfl)
theorem tok9_state : TbOk M9_state := TbOk_of (by decide +kernel)
theorem ok9_state : MOk M9_state := ⟨tok9_state, cn9.1, (tm5 1 rfl rfl), cn9.2, ci9, by decide +kernel⟩
theorem ow9_state : OwnOk M9_state := fun o h => by cases h; rfl
theorem im9_state : Cond.instanceMethod (M_nm M9_state) ∈ tW := (tm4 239 rfl rfl)
theorem se9_state : Cond.selects (M_nm M9_state).cls (M_nm M9_state) (M_nm M9_state) ∈ tW := (tm5 0 rfl rfl)
theorem tok9_itemsIn : TbOk M9_itemsIn := TbOk_of (by decide +kernel)
theorem ok9_itemsIn : MOk M9_itemsIn := ⟨tok9_itemsIn, cn9.1, (tm5 5 rfl rfl), cn9.2, ci9, by decide +kernel⟩
theorem ow9_itemsIn : OwnOk M9_itemsIn := fun o h => by cases h; rfl
theorem im9_itemsIn : Cond.instanceMethod (M_nm M9_itemsIn) ∈ tW := (tm5 3 rfl rfl)
theorem se9_itemsIn : Cond.selects (M_nm M9_itemsIn).cls (M_nm M9_itemsIn) (M_nm M9_itemsIn) ∈ tW := (tm5 4 rfl rfl)
theorem tok9_property : TbOk M9_property := TbOk_of (by decide +kernel)
theorem ok9_property : MOk M9_property := ⟨tok9_property, cn9.1, (tm5 9 rfl rfl), cn9.2, ci9, by decide +kernel⟩
theorem ow9_property : OwnOk M9_property := fun o h => by cases h; rfl
theorem im9_property : Cond.instanceMethod (M_nm M9_property) ∈ tW := (tm5 7 rfl rfl)
theorem se9_property : Cond.selects (M_nm M9_property).cls (M_nm M9_property) (M_nm M9_property) ∈ tW := (tm5 8 rfl rfl)
theorem tok9_edge : TbOk M9_edge := TbOk_of (by decide +kernel)
theorem ok9_edge : MOk M9_edge := ⟨tok9_edge, cn9.1, (tm5 13 rfl rfl), cn9.2, ci9, by decide +kernel⟩
theorem ow9_edge : OwnOk M9_edge := fun o h => by cases h; rfl
theorem im9_edge : Cond.instanceMethod (M_nm M9_edge) ∈ tW := (tm5 11 rfl rfl)
theorem se9_edge : Cond.selects (M_nm M9_edge).cls (M_nm M9_edge) (M_nm M9_edge) ∈ tW := (tm5 12 rfl rfl)
theorem tok9_rank : TbOk M9_rank := TbOk_of (by decide +kernel)
theorem ok9_rank : MOk M9_rank := ⟨tok9_rank, cn9.1, (tm5 17 rfl rfl), cn9.2, ci9, by decide +kernel⟩
theorem ow9_rank : OwnOk M9_rank := fun o h => by cases h; rfl
theorem im9_rank : Cond.instanceMethod (M_nm M9_rank) ∈ tW := (tm5 15 rfl rfl)
theorem se9_rank : Cond.selects (M_nm M9_rank).cls (M_nm M9_rank) (M_nm M9_rank) ∈ tW := (tm5 16 rfl rfl)
theorem tok9_height : TbOk M9_height := TbOk_of (by decide +kernel)
theorem ok9_height : MOk M9_height := ⟨tok9_height, cn9.1, (tm5 21 rfl rfl), cn9.2, ci9, by decide +kernel⟩
theorem ow9_height : OwnOk M9_height := fun o h => by cases h; rfl
theorem im9_height : Cond.instanceMethod (M_nm M9_height) ∈ tW := (tm5 19 rfl rfl)
theorem se9_height : Cond.selects (M_nm M9_height).cls (M_nm M9_height) (M_nm M9_height) ∈ tW := (tm5 20 rfl rfl)
theorem tok9_layAhead : TbOk M9_layAhead := TbOk_of (by decide +kernel)
theorem ok9_layAhead : MOk M9_layAhead := ⟨tok9_layAhead, cn9.1, (tm5 29 rfl rfl), cn9.2, ci9, by decide +kernel⟩
theorem ow9_layAhead : OwnOk M9_layAhead := fun o h => by cases h; rfl
theorem im9_layAhead : Cond.instanceMethod (M_nm M9_layAhead) ∈ tW := (tm5 28 rfl rfl)
theorem se9_layAhead : Cond.selects (M_nm M9_layAhead).cls (M_nm M9_layAhead) (M_nm M9_layAhead) ∈ tW := pm3 6 rfl
theorem tok9_before : TbOk M9_before := TbOk_of (by decide +kernel)
theorem ok9_before : MOk M9_before := ⟨tok9_before, cn9.1, (tm5 25 rfl rfl), cn9.2, ci9, by decide +kernel⟩
theorem ow9_before : OwnOk M9_before := fun o h => by cases h; rfl
theorem im9_before : Cond.instanceMethod (M_nm M9_before) ∈ tW := (tm5 23 rfl rfl)
theorem se9_before : Cond.selects (M_nm M9_before).cls (M_nm M9_before) (M_nm M9_before) ∈ tW := (tm5 24 rfl rfl)
theorem tok9_wouldDoom : TbOk M9_wouldDoom := TbOk_of (by decide +kernel)
theorem ok9_wouldDoom : MOk M9_wouldDoom := ⟨tok9_wouldDoom, cn9.1, (tm5 33 rfl rfl), cn9.2, ci9, by decide +kernel⟩
theorem ow9_wouldDoom : OwnOk M9_wouldDoom := fun o h => by cases h; rfl
theorem im9_wouldDoom : Cond.instanceMethod (M_nm M9_wouldDoom) ∈ tW := (tm5 31 rfl rfl)
theorem se9_wouldDoom : Cond.selects (M_nm M9_wouldDoom).cls (M_nm M9_wouldDoom) (M_nm M9_wouldDoom) ∈ tW := (tm5 32 rfl rfl)
theorem tok9_isSuperfluous : TbOk M9_isSuperfluous := TbOk_of (by decide +kernel)
theorem ok9_isSuperfluous : MOk M9_isSuperfluous := ⟨tok9_isSuperfluous, cn9.1, (tm5 37 rfl rfl), cn9.2, ci9, by decide +kernel⟩
theorem ow9_isSuperfluous : OwnOk M9_isSuperfluous := fun o h => by cases h; rfl
theorem im9_isSuperfluous : Cond.instanceMethod (M_nm M9_isSuperfluous) ∈ tW := (tm5 35 rfl rfl)
theorem se9_isSuperfluous : Cond.selects (M_nm M9_isSuperfluous).cls (M_nm M9_isSuperfluous) (M_nm M9_isSuperfluous) ∈ tW := (tm5 36 rfl rfl)
theorem tok9_possibleAt : TbOk M9_possibleAt := TbOk_of (by decide +kernel)
theorem ok9_possibleAt : MOk M9_possibleAt := ⟨tok9_possibleAt, cn9.1, (tm5 49 rfl rfl), cn9.2, ci9, by decide +kernel⟩
theorem ow9_possibleAt : OwnOk M9_possibleAt := fun o h => by cases h; rfl
theorem im9_possibleAt : Cond.instanceMethod (M_nm M9_possibleAt) ∈ tW := (tm5 48 rfl rfl)
theorem se9_possibleAt : Cond.selects (M_nm M9_possibleAt).cls (M_nm M9_possibleAt) (M_nm M9_possibleAt) ∈ tW := pm3 8 rfl
theorem tok9_planRank : TbOk M9_planRank := TbOk_of (by decide +kernel)
theorem ok9_planRank : MOk M9_planRank := ⟨tok9_planRank, cn9.1, (tm5 53 rfl rfl), cn9.2, ci9, by decide +kernel⟩
theorem ow9_planRank : OwnOk M9_planRank := fun o h => by cases h; rfl
theorem im9_planRank : Cond.instanceMethod (M_nm M9_planRank) ∈ tW := (tm5 52 rfl rfl)
theorem se9_planRank : Cond.selects (M_nm M9_planRank).cls (M_nm M9_planRank) (M_nm M9_planRank) ∈ tW := pm3 9 rfl
theorem tok9_planned : TbOk M9_planned := TbOk_of (by decide +kernel)
theorem ok9_planned : MOk M9_planned := ⟨tok9_planned, cn9.1, (tm5 45 rfl rfl), cn9.2, ci9, by decide +kernel⟩
theorem ow9_planned : OwnOk M9_planned := fun o h => by cases h; rfl
theorem im9_planned : Cond.instanceMethod (M_nm M9_planned) ∈ tW := (tm5 44 rfl rfl)
theorem se9_planned : Cond.selects (M_nm M9_planned).cls (M_nm M9_planned) (M_nm M9_planned) ∈ tW := pm3 7 rfl
theorem tok9_planLength : TbOk M9_planLength := TbOk_of (by decide +kernel)
theorem ok9_planLength : MOk M9_planLength := ⟨tok9_planLength, cn9.1, (tm5 41 rfl rfl), cn9.2, ci9, by decide +kernel⟩
theorem ow9_planLength : OwnOk M9_planLength := fun o h => by cases h; rfl
theorem im9_planLength : Cond.instanceMethod (M_nm M9_planLength) ∈ tW := (tm5 39 rfl rfl)
theorem se9_planLength : Cond.selects (M_nm M9_planLength).cls (M_nm M9_planLength) (M_nm M9_planLength) ∈ tW := (tm5 40 rfl rfl)
theorem tok9_planStart : TbOk M9_planStart := TbOk_of (by decide +kernel)
theorem ok9_planStart : MOk M9_planStart := ⟨tok9_planStart, cn9.1, (tm5 57 rfl rfl), cn9.2, ci9, by decide +kernel⟩
theorem ow9_planStart : OwnOk M9_planStart := fun o h => by cases h; rfl
theorem im9_planStart : Cond.instanceMethod (M_nm M9_planStart) ∈ tW := (tm5 55 rfl rfl)
theorem se9_planStart : Cond.selects (M_nm M9_planStart).cls (M_nm M9_planStart) (M_nm M9_planStart) ∈ tW := (tm5 56 rfl rfl)
theorem tok9_bestWorkers : TbOk M9_bestWorkers := TbOk_of (by decide +kernel)
theorem ok9_bestWorkers : MOk M9_bestWorkers := ⟨tok9_bestWorkers, cn9.1, (tm5 61 rfl rfl), cn9.2, ci9, by decide +kernel⟩
theorem ow9_bestWorkers : OwnOk M9_bestWorkers := fun o h => by cases h; rfl
theorem im9_bestWorkers : Cond.instanceMethod (M_nm M9_bestWorkers) ∈ tW := (tm5 59 rfl rfl)
theorem se9_bestWorkers : Cond.selects (M_nm M9_bestWorkers).cls (M_nm M9_bestWorkers) (M_nm M9_bestWorkers) ∈ tW := (tm5 60 rfl rfl)
theorem tok9_slack : TbOk M9_slack := TbOk_of (by decide +kernel)
theorem ok9_slack : MOk M9_slack := ⟨tok9_slack, cn9.1, (tm5 65 rfl rfl), cn9.2, ci9, by decide +kernel⟩
theorem ow9_slack : OwnOk M9_slack := fun o h => by cases h; rfl
theorem im9_slack : Cond.instanceMethod (M_nm M9_slack) ∈ tW := (tm5 63 rfl rfl)
theorem se9_slack : Cond.selects (M_nm M9_slack).cls (M_nm M9_slack) (M_nm M9_slack) ∈ tW := (tm5 64 rfl rfl)
theorem tok9_isMatched : TbOk M9_isMatched := TbOk_of (by decide +kernel)
theorem ok9_isMatched : MOk M9_isMatched := ⟨tok9_isMatched, cn9.1, (tm5 73 rfl rfl), cn9.2, ci9, by decide +kernel⟩
theorem ow9_isMatched : OwnOk M9_isMatched := fun o h => by cases h; rfl
theorem im9_isMatched : Cond.instanceMethod (M_nm M9_isMatched) ∈ tW := (tm5 72 rfl rfl)
theorem se9_isMatched : Cond.selects (M_nm M9_isMatched).cls (M_nm M9_isMatched) (M_nm M9_isMatched) ∈ tW := pm3 10 rfl
theorem tok9_changePartners : TbOk M9_changePartners := TbOk_of (by decide +kernel)
theorem ok9_changePartners : MOk M9_changePartners := ⟨tok9_changePartners, cn9.1, (tm5 77 rfl rfl), cn9.2, ci9, by decide +kernel⟩
theorem ow9_changePartners : OwnOk M9_changePartners := fun o h => by cases h; rfl
theorem im9_changePartners : Cond.instanceMethod (M_nm M9_changePartners) ∈ tW := (tm5 76 rfl rfl)
theorem se9_changePartners : Cond.selects (M_nm M9_changePartners).cls (M_nm M9_changePartners) (M_nm M9_changePartners) ∈ tW := pm3 11 rfl
theorem tok9_width : TbOk M9_width := TbOk_of (by decide +kernel)
theorem ok9_width : MOk M9_width := ⟨tok9_width, cn9.1, (tm5 69 rfl rfl), cn9.2, ci9, by decide +kernel⟩
theorem ow9_width : OwnOk M9_width := fun o h => by cases h; rfl
theorem im9_width : Cond.instanceMethod (M_nm M9_width) ∈ tW := (tm5 67 rfl rfl)
theorem se9_width : Cond.selects (M_nm M9_width).cls (M_nm M9_width) (M_nm M9_width) ∈ tW := (tm5 68 rfl rfl)
theorem tok9_orders : TbOk M9_orders := TbOk_of (by decide +kernel)
theorem ok9_orders : MOk M9_orders := ⟨tok9_orders, cn9.1, (tm5 81 rfl rfl), cn9.2, ci9, by decide +kernel⟩
theorem ow9_orders : OwnOk M9_orders := fun o h => by cases h; rfl
theorem im9_orders : Cond.instanceMethod (M_nm M9_orders) ∈ tW := (tm5 79 rfl rfl)
theorem se9_orders : Cond.selects (M_nm M9_orders).cls (M_nm M9_orders) (M_nm M9_orders) ∈ tW := (tm5 80 rfl rfl)
theorem tok9_isLast : TbOk M9_isLast := TbOk_of (by decide +kernel)
theorem ok9_isLast : MOk M9_isLast := ⟨tok9_isLast, cn9.1, (tm5 86 rfl rfl), cn9.2, ci9, by decide +kernel⟩
theorem ow9_isLast : OwnOk M9_isLast := fun o h => by cases h; rfl
theorem im9_isLast : Cond.instanceMethod (M_nm M9_isLast) ∈ tW := (tm5 85 rfl rfl)
theorem se9_isLast : Cond.selects (M_nm M9_isLast).cls (M_nm M9_isLast) (M_nm M9_isLast) ∈ tW := pm3 12 rfl
theorem tok9_write : TbOk M9_write := TbOk_of (by decide +kernel)
theorem ok9_write : MOk M9_write := ⟨tok9_write, cn9.1, (tm5 90 rfl rfl), cn9.2, ci9, by decide +kernel⟩
theorem ow9_write : OwnOk M9_write := fun o h => by cases h; rfl
theorem im9_write : Cond.instanceMethod (M_nm M9_write) ∈ tW := (tm5 88 rfl rfl)
theorem se9_write : Cond.selects (M_nm M9_write).cls (M_nm M9_write) (M_nm M9_write) ∈ tW := (tm5 89 rfl rfl)
theorem tok9_wipe : TbOk M9_wipe := TbOk_of (by decide +kernel)
theorem ok9_wipe : MOk M9_wipe := ⟨tok9_wipe, cn9.1, (tm5 94 rfl rfl), cn9.2, ci9, by decide +kernel⟩
theorem ow9_wipe : OwnOk M9_wipe := fun o h => by cases h; rfl
theorem im9_wipe : Cond.instanceMethod (M_nm M9_wipe) ∈ tW := (tm5 92 rfl rfl)
theorem se9_wipe : Cond.selects (M_nm M9_wipe).cls (M_nm M9_wipe) (M_nm M9_wipe) ∈ tW := (tm5 93 rfl rfl)
theorem tok9_isDigit : TbOk M9_isDigit := TbOk_of (by decide +kernel)
theorem ok9_isDigit : MOk M9_isDigit := ⟨tok9_isDigit, cn9.1, (tm5 106 rfl rfl), cn9.2, ci9, by decide +kernel⟩
theorem ow9_isDigit : OwnOk M9_isDigit := fun o h => by cases h; rfl
theorem im9_isDigit : Cond.instanceMethod (M_nm M9_isDigit) ∈ tW := (tm5 105 rfl rfl)
theorem se9_isDigit : Cond.selects (M_nm M9_isDigit).cls (M_nm M9_isDigit) (M_nm M9_isDigit) ∈ tW := pm3 14 rfl
theorem tok9_fails : TbOk M9_fails := TbOk_of (by decide +kernel)
theorem ok9_fails : MOk M9_fails := ⟨tok9_fails, cn9.1, (tm5 110 rfl rfl), cn9.2, ci9, by decide +kernel⟩
theorem ow9_fails : OwnOk M9_fails := fun o h => by cases h; rfl
theorem im9_fails : Cond.instanceMethod (M_nm M9_fails) ∈ tW := (tm5 109 rfl rfl)
theorem se9_fails : Cond.selects (M_nm M9_fails).cls (M_nm M9_fails) (M_nm M9_fails) ∈ tW := pm3 15 rfl
theorem tok9_number : TbOk M9_number := TbOk_of (by decide +kernel)
theorem ok9_number : MOk M9_number := ⟨tok9_number, cn9.1, (tm5 114 rfl rfl), cn9.2, ci9, by decide +kernel⟩
theorem ow9_number : OwnOk M9_number := fun o h => by cases h; rfl
theorem im9_number : Cond.instanceMethod (M_nm M9_number) ∈ tW := (tm5 113 rfl rfl)
theorem se9_number : Cond.selects (M_nm M9_number).cls (M_nm M9_number) (M_nm M9_number) ∈ tW := pm4 0 rfl
theorem tok9_readItem : TbOk M9_readItem := TbOk_of (by decide +kernel)
theorem ok9_readItem : MOk M9_readItem := ⟨tok9_readItem, cn9.1, (tm5 102 rfl rfl), cn9.2, ci9, by decide +kernel⟩
theorem ow9_readItem : OwnOk M9_readItem := fun o h => by cases h; rfl
theorem im9_readItem : Cond.instanceMethod (M_nm M9_readItem) ∈ tW := (tm5 101 rfl rfl)
theorem se9_readItem : Cond.selects (M_nm M9_readItem).cls (M_nm M9_readItem) (M_nm M9_readItem) ∈ tW := pm3 13 rfl
theorem tok9_fault : TbOk M9_fault := TbOk_of (by decide +kernel)
theorem ok9_fault : MOk M9_fault := ⟨tok9_fault, cn9.1, (tm5 98 rfl rfl), cn9.2, ci9, by decide +kernel⟩
theorem ow9_fault : OwnOk M9_fault := fun o h => by cases h; rfl
theorem im9_fault : Cond.instanceMethod (M_nm M9_fault) ∈ tW := (tm5 96 rfl rfl)
theorem se9_fault : Cond.selects (M_nm M9_fault).cls (M_nm M9_fault) (M_nm M9_fault) ∈ tW := (tm5 97 rfl rfl)
theorem tok9_load : TbOk M9_load := TbOk_of (by decide +kernel)
theorem ok9_load : MOk M9_load := ⟨tok9_load, cn9.1, (tm5 118 rfl rfl), cn9.2, ci9, by decide +kernel⟩
theorem ow9_load : OwnOk M9_load := fun o h => by cases h; rfl
theorem im9_load : Cond.instanceMethod (M_nm M9_load) ∈ tW := (tm5 116 rfl rfl)
theorem se9_load : Cond.selects (M_nm M9_load).cls (M_nm M9_load) (M_nm M9_load) ∈ tW := (tm5 117 rfl rfl)
theorem tok9_save : TbOk M9_save := TbOk_of (by decide +kernel)
theorem ok9_save : MOk M9_save := ⟨tok9_save, cn9.1, (tm5 123 rfl rfl), cn9.2, ci9, by decide +kernel⟩
theorem ow9_save : OwnOk M9_save := fun o h => by cases h; rfl
theorem im9_save : Cond.instanceMethod (M_nm M9_save) ∈ tW := (tm5 121 rfl rfl)
theorem se9_save : Cond.selects (M_nm M9_save).cls (M_nm M9_save) (M_nm M9_save) ∈ tW := (tm5 122 rfl rfl)
theorem tok9_restore : TbOk M9_restore := TbOk_of (by decide +kernel)
theorem ok9_restore : MOk M9_restore := ⟨tok9_restore, cn9.1, (tm5 127 rfl rfl), cn9.2, ci9, by decide +kernel⟩
theorem ow9_restore : OwnOk M9_restore := fun o h => by cases h; rfl
theorem im9_restore : Cond.instanceMethod (M_nm M9_restore) ∈ tW := (tm5 125 rfl rfl)
theorem se9_restore : Cond.selects (M_nm M9_restore).cls (M_nm M9_restore) (M_nm M9_restore) ∈ tW := (tm5 126 rfl rfl)
theorem tok6_bitCount_0f7a4 : TbOk M6_bitCount_0f7a4 := TbOk_of (by decide +kernel)
theorem ok6_bitCount_0f7a4 : MOk M6_bitCount_0f7a4 := ⟨tok6_bitCount_0f7a4, by decide +kernel, (tm2 115 rfl rfl), ⟨by decide +kernel, by decide +kernel⟩, (tm1 11 rfl rfl), by decide +kernel⟩
theorem ow6_bitCount_0f7a4 : OwnOk M6_bitCount_0f7a4 := fun o h => by cases h
theorem sm6_bitCount_0f7a4 : Cond.static (M_nm M6_bitCount_0f7a4) ∈ tW := (tm2 114 rfl rfl)
