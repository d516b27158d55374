theorem lv1_0_has {y : MT} (h : (M_nm y).cls = RX1) : LkS y 21 M0_has := ⟨by rw [h]; exact (tm3 138 rfl rfl), sm0_has⟩
theorem lv1_1_findNext {y : MT} (h : (M_nm y).cls = RX1) : LkV y 27 M1_findNext := ⟨by rw [h]; exact (tm3 139 rfl rfl), im1_findNext, se1_findNext⟩
theorem lv1_1_lowestOf {y : MT} (h : (M_nm y).cls = RX1) : LkS y 31 M1_lowestOf := ⟨by rw [h]; exact (tm3 143 rfl rfl), sm1_lowestOf⟩
theorem lv1_1_pairAlong {y : MT} (h : (M_nm y).cls = RX1) : LkV y 35 M1_pairAlong := ⟨by rw [h]; exact (tm3 146 rfl rfl), im1_pairAlong, se1_pairAlong⟩
theorem lv2_2_listMembers {y : MT} (h : (M_nm y).cls = RX2) : LkV y 22 M2_listMembers := ⟨by rw [h]; exact (tm3 159 rfl rfl), im2_listMembers, se2_listMembers⟩
theorem lv2_2_listNeeds {y : MT} (h : (M_nm y).cls = RX2) : LkV y 26 M2_listNeeds := ⟨by rw [h]; exact (tm3 164 rfl rfl), im2_listNeeds, se2_listNeeds⟩
theorem lv2_2_goOnFrom {y : MT} (h : (M_nm y).cls = RX2) : LkV y 30 M2_goOnFrom := ⟨by rw [h]; exact (tm3 168 rfl rfl), im2_goOnFrom, se2_goOnFrom⟩
theorem lv2_0_has {y : MT} (h : (M_nm y).cls = RX2) : LkS y 34 M0_has := ⟨by rw [h]; exact (tm3 163 rfl rfl), sm0_has⟩
theorem lv3_5_predecessors {y : MT} (h : (M_nm y).cls = RX3) : LkV y 31 M5_predecessors := ⟨by rw [h]; exact (tm2 49 rfl rfl), im5_predecessors, se5_predecessors⟩
theorem lv3_0_has {y : MT} (h : (M_nm y).cls = RX3) : LkS y 35 M0_has := ⟨by rw [h]; exact (tm2 53 rfl rfl), sm0_has⟩
theorem lv3_3_beforeSets {y : MT} (h : (M_nm y).cls = RX3) : LkV y 41 M3_beforeSets := ⟨by rw [h]; exact (tm3 68 rfl rfl), im3_beforeSets, se3_beforeSets⟩
theorem lv3_5_workLeft {y : MT} (h : (M_nm y).cls = RX3) : LkV y 45 M5_workLeft := ⟨by rw [h]; exact (tm2 162 rfl rfl), im5_workLeft, se5_workLeft⟩
theorem lv3_3_raisePredecessors {y : MT} (h : (M_nm y).cls = RX3) : LkV y 48 M3_raisePredecessors := ⟨by rw [h]; exact (tm2 166 rfl rfl), im3_raisePredecessors, se3_raisePredecessors⟩
theorem lv3_3_raiseLead {y : MT} (h : (M_nm y).cls = RX3) : LkV y 52 M3_raiseLead := ⟨by rw [h]; exact (tm3 124 rfl rfl), im3_raiseLead, se3_raiseLead⟩
theorem lv4_5_unendedSet {y : MT} (h : (M_nm y).cls = RX4) : LkV y 37 M5_unendedSet := ⟨by rw [h]; exact (tm3 77 rfl rfl), im5_unendedSet, se5_unendedSet⟩
theorem lv4_4_endCompleted {y : MT} (h : (M_nm y).cls = RX4) : LkV y 46 M4_endCompleted := ⟨by rw [h]; exact (tm3 81 rfl rfl), im4_endCompleted, se4_endCompleted⟩
theorem lv4_4_findStartable {y : MT} (h : (M_nm y).cls = RX4) : LkV y 50 M4_findStartable := ⟨by rw [h]; exact (tm3 86 rfl rfl), im4_findStartable, se4_findStartable⟩
theorem lv4_4_startItems {y : MT} (h : (M_nm y).cls = RX4) : LkV y 54 M4_startItems := ⟨by rw [h]; exact (tm3 91 rfl rfl), im4_startItems, se4_startItems⟩
theorem lv4_4_nextEnd {y : MT} (h : (M_nm y).cls = RX4) : LkV y 58 M4_nextEnd := ⟨by rw [h]; exact (tm3 101 rfl rfl), im4_nextEnd, se4_nextEnd⟩
theorem lv4_0_has {y : MT} (h : (M_nm y).cls = RX4) : LkS y 62 M0_has := ⟨by rw [h]; exact (tm3 85 rfl rfl), sm0_has⟩
theorem lv4_5_predecessors {y : MT} (h : (M_nm y).cls = RX4) : LkV y 68 M5_predecessors := ⟨by rw [h]; exact (tm3 90 rfl rfl), im5_predecessors, se5_predecessors⟩
theorem lv4_4_bestStartable {y : MT} (h : (M_nm y).cls = RX4) : LkV y 71 M4_bestStartable := ⟨by rw [h]; exact (tm3 95 rfl rfl), im4_bestStartable, se4_bestStartable⟩
theorem lv4_5_holds {y : MT} (h : (M_nm y).cls = RX4) : LkV y 75 M5_holds := ⟨by rw [h]; exact (tm3 100 rfl rfl), im5_holds, se5_holds⟩
theorem lv4_5_rankFor {y : MT} (h : (M_nm y).cls = RX4) : LkV y 82 M5_rankFor := ⟨by rw [h]; exact (tm3 99 rfl rfl), im5_rankFor, se5_rankFor⟩
theorem lv5_5_hasEnded {y : MT} (h : (M_nm y).cls = RX5) : LkV y 67 M5_hasEnded := ⟨by rw [h]; exact (tm2 104 rfl rfl), im5_hasEnded, se5_hasEnded⟩
theorem lv5_5_setIn {y : MT} (h : (M_nm y).cls = RX5) : LkV y 71 M5_setIn := ⟨by rw [h]; exact (tm2 210 rfl rfl), im5_setIn, se5_setIn⟩
theorem lv5_5_startAnew {y : MT} (h : (M_nm y).cls = RX5) : LkV y 75 M5_startAnew := ⟨by rw [h]; exact (tm2 29 rfl rfl), im5_startAnew, se5_startAnew⟩
theorem lv5_5_predecessors {y : MT} (h : (M_nm y).cls = RX5) : LkV y 79 M5_predecessors := ⟨by rw [h]; exact (tm2 103 rfl rfl), im5_predecessors, se5_predecessors⟩
theorem lv5_6_bitCount_0f7a4 {y : MT} (h : (M_nm y).cls = RX5) : LkS y 82 M6_bitCount_0f7a4 := ⟨by rw [h]; exact (tm2 113 rfl rfl), sm6_bitCount_0f7a4⟩
theorem lv5_0_has {y : MT} (h : (M_nm y).cls = RX5) : LkS y 87 M0_has := ⟨by rw [h]; exact (tm2 98 rfl rfl), sm0_has⟩
theorem lv5_5_dropEdge {y : MT} (h : (M_nm y).cls = RX5) : LkV y 93 M5_dropEdge := ⟨by rw [h]; exact (tm2 81 rfl rfl), im5_dropEdge, se5_dropEdge⟩
theorem lv5_5_settleItem {y : MT} (h : (M_nm y).cls = RX5) : LkV y 97 M5_settleItem := ⟨by rw [h]; exact (tm2 89 rfl rfl), im5_settleItem, se5_settleItem⟩
theorem lv5_5_followsEdges {y : MT} (h : (M_nm y).cls = RX5) : LkV y 100 M5_followsEdges := ⟨by rw [h]; exact (tm2 93 rfl rfl), im5_followsEdges, se5_followsEdges⟩
theorem lv5_5_stateByEdges {y : MT} (h : (M_nm y).cls = RX5) : LkV y 103 M5_stateByEdges := ⟨by rw [h]; exact (tm2 94 rfl rfl), im5_stateByEdges, se5_stateByEdges⟩
theorem lv5_5_makeReady {y : MT} (h : (M_nm y).cls = RX5) : LkV y 106 M5_makeReady := ⟨by rw [h]; exact (tm2 108 rfl rfl), im5_makeReady, se5_makeReady⟩
theorem lv5_5_hasFailed {y : MT} (h : (M_nm y).cls = RX5) : LkV y 109 M5_hasFailed := ⟨by rw [h]; exact (tm2 99 rfl rfl), im5_hasFailed, se5_hasFailed⟩
theorem lv5_5_settle {y : MT} (h : (M_nm y).cls = RX5) : LkV y 112 M5_settle := ⟨by rw [h]; exact (tm2 214 rfl rfl), im5_settle, se5_settle⟩
theorem lv5_5_comeBack {y : MT} (h : (M_nm y).cls = RX5) : LkV y 115 M5_comeBack := ⟨by rw [h]; exact (tm3 5 rfl rfl), im5_comeBack, se5_comeBack⟩
theorem lv5_5_rankFor {y : MT} (h : (M_nm y).cls = RX5) : LkV y 118 M5_rankFor := ⟨by rw [h]; exact (tm2 186 rfl rfl), im5_rankFor, se5_rankFor⟩
theorem lv5_5_canBeReceived {y : MT} (h : (M_nm y).cls = RX5) : LkV y 122 M5_canBeReceived := ⟨by rw [h]; exact (tm2 174 rfl rfl), im5_canBeReceived, se5_canBeReceived⟩
theorem lv5_5_rankNow {y : MT} (h : (M_nm y).cls = RX5) : LkV y 125 M5_rankNow := ⟨by rw [h]; exact (tm2 182 rfl rfl), im5_rankNow, se5_rankNow⟩
theorem lv5_5_inFlightOf {y : MT} (h : (M_nm y).cls = RX5) : LkV y 129 M5_inFlightOf := ⟨by rw [h]; exact (tm2 178 rfl rfl), im5_inFlightOf, se5_inFlightOf⟩
theorem lv5_5_copyItems {y : MT} (h : (M_nm y).cls = RX5) : LkV y 132 M5_copyItems := ⟨by rw [h]; exact (tm4 0 rfl rfl), im5_copyItems, se5_copyItems⟩
theorem lv5_5_copyRow {y : MT} (h : (M_nm y).cls = RX5) : LkS y 136 M5_copyRow := ⟨by rw [h]; exact (tm3 226 rfl rfl), sm5_copyRow⟩
theorem ln6_5_init {y : MT} (h : (M_nm y).cls = RX6) : LkIN y 17 M5_init := ⟨by rw [h]; exact List.mem_of_getElem? (i := 6) rfl, im5_init, rfl⟩
theorem lv6_5_removeItems {y : MT} (h : (M_nm y).cls = RX6) : LkV y 29 M5_removeItems := ⟨by rw [h]; exact (tm3 192 rfl rfl), im5_removeItems, se5_removeItems⟩
theorem lv6_6_readItem {y : MT} (h : (M_nm y).cls = RX6) : LkV y 32 M6_readItem := ⟨by rw [h]; exact (tm3 193 rfl rfl), im6_readItem, se6_readItem⟩
theorem lv6_5_isFull {y : MT} (h : (M_nm y).cls = RX6) : LkV y 36 M5_isFull := ⟨by rw [h]; exact (tm3 197 rfl rfl), im5_isFull, se5_isFull⟩
theorem lv6_6_codeHere {y : MT} (h : (M_nm y).cls = RX6) : LkV y 40 M6_codeHere := ⟨by rw [h]; exact (tm3 198 rfl rfl), im6_codeHere, se6_codeHere⟩
theorem lv6_6_isDigit {y : MT} (h : (M_nm y).cls = RX6) : LkS y 43 M6_isDigit := ⟨by rw [h]; exact (tm3 202 rfl rfl), sm6_isDigit⟩
theorem lv6_6_readNumber {y : MT} (h : (M_nm y).cls = RX6) : LkV y 47 M6_readNumber := ⟨by rw [h]; exact (tm3 205 rfl rfl), im6_readNumber, se6_readNumber⟩
theorem ln6_8_isWithin {y : MT} (h : (M_nm y).cls = RX6) : LkSN y 50 M8_isWithin := ⟨by rw [h]; exact List.mem_of_getElem? (i := 7) rfl, sm8_isWithin⟩
theorem lv6_5_append {y : MT} (h : (M_nm y).cls = RX6) : LkV y 54 M5_append := ⟨by rw [h]; exact (tm3 210 rfl rfl), im5_append, se5_append⟩
theorem lv6_6_readEdges {y : MT} (h : (M_nm y).cls = RX6) : LkV y 58 M6_readEdges := ⟨by rw [h]; exact (tm3 211 rfl rfl), im6_readEdges, se6_readEdges⟩
theorem lv6_5_predecessors {y : MT} (h : (M_nm y).cls = RX6) : LkV y 62 M5_predecessors := ⟨by rw [h]; exact (tm3 215 rfl rfl), im5_predecessors, se5_predecessors⟩
theorem lv6_0_has {y : MT} (h : (M_nm y).cls = RX6) : LkS y 65 M0_has := ⟨by rw [h]; exact (tm3 216 rfl rfl), sm0_has⟩
theorem lv6_5_putEdge {y : MT} (h : (M_nm y).cls = RX6) : LkV y 71 M5_putEdge := ⟨by rw [h]; exact (tm3 217 rfl rfl), im5_putEdge, se5_putEdge⟩
theorem lv7_7_drawRings {y : MT} (h : (M_nm y).cls = RX7) : LkV y 22 M7_drawRings := ⟨by rw [h]; exact (tm2 61 rfl rfl), im7_drawRings, se7_drawRings⟩
theorem lv7_7_lowestSuccessor {y : MT} (h : (M_nm y).cls = RX7) : LkS y 26 M7_lowestSuccessor := ⟨by rw [h]; exact (tm2 70 rfl rfl), sm7_lowestSuccessor⟩
theorem lv7_0_has {y : MT} (h : (M_nm y).cls = RX7) : LkS y 29 M0_has := ⟨by rw [h]; exact (tm2 65 rfl rfl), sm0_has⟩
theorem lv7_7_predecessorsOfAll {y : MT} (h : (M_nm y).cls = RX7) : LkS y 35 M7_predecessorsOfAll := ⟨by rw [h]; exact (tm2 66 rfl rfl), sm7_predecessorsOfAll⟩
theorem lv7_5_predecessors {y : MT} (h : (M_nm y).cls = RX7) : LkV y 44 M5_predecessors := ⟨by rw [h]; exact (tm2 69 rfl rfl), im5_predecessors, se5_predecessors⟩
theorem ln8_5_init {y : MT} (h : (M_nm y).cls = RX8) : LkIN y 9 M5_init := ⟨by rw [h]; exact List.mem_of_getElem? (i := 0) rfl, im5_init, rfl⟩
theorem lv8_3_init {y : MT} (h : (M_nm y).cls = RX8) : LkI y 22 M3_init := ⟨by rw [h]; exact (tm1 105 rfl rfl), im3_init, rfl⟩
theorem ln8_7_init {y : MT} (h : (M_nm y).cls = RX8) : LkIN y 31 M7_init := ⟨by rw [h]; exact List.mem_of_getElem? (i := 1) rfl, im7_init, rfl⟩
theorem ln8_4_init {y : MT} (h : (M_nm y).cls = RX8) : LkIN y 38 M4_init := ⟨by rw [h]; exact List.mem_of_getElem? (i := 2) rfl, im4_init, rfl⟩
theorem ln8_1_init {y : MT} (h : (M_nm y).cls = RX8) : LkIN y 45 M1_init := ⟨by rw [h]; exact List.mem_of_getElem? (i := 3) rfl, im1_init, rfl⟩
theorem ln8_2_init {y : MT} (h : (M_nm y).cls = RX8) : LkIN y 52 M2_init := ⟨by rw [h]; exact List.mem_of_getElem? (i := 4) rfl, im2_init, rfl⟩
theorem ln8_6_init {y : MT} (h : (M_nm y).cls = RX8) : LkIN y 59 M6_init := ⟨by rw [h]; exact List.mem_of_getElem? (i := 5) rfl, im6_init, rfl⟩
theorem lv8_8_isWithin {y : MT} (h : (M_nm y).cls = RX8) : LkS y 64 M8_isWithin := ⟨by rw [h]; exact (tm2 18 rfl rfl), sm8_isWithin⟩
theorem lv8_5_isFull {y : MT} (h : (M_nm y).cls = RX8) : LkV y 68 M5_isFull := ⟨by rw [h]; exact (tm2 21 rfl rfl), im5_isFull, se5_isFull⟩
theorem lv8_5_append {y : MT} (h : (M_nm y).cls = RX8) : LkV y 72 M5_append := ⟨by rw [h]; exact (tm2 25 rfl rfl), im5_append, se5_append⟩
theorem lv8_5_makeReady {y : MT} (h : (M_nm y).cls = RX8) : LkV y 76 M5_makeReady := ⟨by rw [h]; exact (tm2 33 rfl rfl), im5_makeReady, se5_makeReady⟩
theorem lv8_5_holds {y : MT} (h : (M_nm y).cls = RX8) : LkV y 80 M5_holds := ⟨by rw [h]; exact (tm2 41 rfl rfl), im5_holds, se5_holds⟩
theorem lv8_3_beforeSets {y : MT} (h : (M_nm y).cls = RX8) : LkV y 84 M3_beforeSets := ⟨by rw [h]; exact (tm2 45 rfl rfl), im3_beforeSets, se3_beforeSets⟩
theorem lv8_0_has {y : MT} (h : (M_nm y).cls = RX8) : LkS y 88 M0_has := ⟨by rw [h]; exact (tm2 56 rfl rfl), sm0_has⟩
theorem lv8_7_remember {y : MT} (h : (M_nm y).cls = RX8) : LkV y 94 M7_remember := ⟨by rw [h]; exact (tm2 57 rfl rfl), im7_remember, se7_remember⟩
theorem lv8_5_followsEdges {y : MT} (h : (M_nm y).cls = RX8) : LkV y 98 M5_followsEdges := ⟨by rw [h]; exact (tm2 73 rfl rfl), im5_followsEdges, se5_followsEdges⟩
theorem lv8_5_putEdge {y : MT} (h : (M_nm y).cls = RX8) : LkV y 101 M5_putEdge := ⟨by rw [h]; exact (tm2 77 rfl rfl), im5_putEdge, se5_putEdge⟩
theorem lv8_5_settle {y : MT} (h : (M_nm y).cls = RX8) : LkV y 105 M5_settle := ⟨by rw [h]; exact (tm2 85 rfl rfl), im5_settle, se5_settle⟩
theorem lv8_5_edgeCount {y : MT} (h : (M_nm y).cls = RX8) : LkV y 108 M5_edgeCount := ⟨by rw [h]; exact (tm2 109 rfl rfl), im5_edgeCount, se5_edgeCount⟩
theorem lv8_5_predecessors {y : MT} (h : (M_nm y).cls = RX8) : LkV y 120 M5_predecessors := ⟨by rw [h]; exact (tm2 127 rfl rfl), im5_predecessors, se5_predecessors⟩
theorem lv8_5_dropEdge {y : MT} (h : (M_nm y).cls = RX8) : LkV y 124 M5_dropEdge := ⟨by rw [h]; exact (tm2 128 rfl rfl), im5_dropEdge, se5_dropEdge⟩
theorem lv8_5_hasEnded {y : MT} (h : (M_nm y).cls = RX8) : LkV y 127 M5_hasEnded := ⟨by rw [h]; exact (tm2 133 rfl rfl), im5_hasEnded, se5_hasEnded⟩
theorem lv8_5_removeItems {y : MT} (h : (M_nm y).cls = RX8) : LkV y 142 M5_removeItems := ⟨by rw [h]; exact (tm2 146 rfl rfl), im5_removeItems, se5_removeItems⟩
theorem lv8_7_forget {y : MT} (h : (M_nm y).cls = RX8) : LkV y 145 M7_forget := ⟨by rw [h]; exact (tm2 150 rfl rfl), im7_forget, se7_forget⟩
theorem lv8_3_heights {y : MT} (h : (M_nm y).cls = RX8) : LkV y 148 M3_heights := ⟨by rw [h]; exact (tm2 158 rfl rfl), im3_heights, se3_heights⟩
theorem lv8_5_nextToReceive {y : MT} (h : (M_nm y).cls = RX8) : LkV y 151 M5_nextToReceive := ⟨by rw [h]; exact (tm2 170 rfl rfl), im5_nextToReceive, se5_nextToReceive⟩
theorem lv8_5_takeOut {y : MT} (h : (M_nm y).cls = RX8) : LkV y 155 M5_takeOut := ⟨by rw [h]; exact (tm2 190 rfl rfl), im5_takeOut, se5_takeOut⟩
theorem lv8_5_isValid {y : MT} (h : (M_nm y).cls = RX8) : LkV y 161 M5_isValid := ⟨by rw [h]; exact (tm2 202 rfl rfl), im5_isValid, se5_isValid⟩
theorem lv8_5_endAs {y : MT} (h : (M_nm y).cls = RX8) : LkV y 164 M5_endAs := ⟨by rw [h]; exact (tm2 206 rfl rfl), im5_endAs, se5_endAs⟩
theorem lv8_5_comeBack {y : MT} (h : (M_nm y).cls = RX8) : LkV y 171 M5_comeBack := ⟨by rw [h]; exact (tm2 219 rfl rfl), im5_comeBack, se5_comeBack⟩
theorem lv8_5_hasFailed {y : MT} (h : (M_nm y).cls = RX8) : LkV y 183 M5_hasFailed := ⟨by rw [h]; exact (tm2 235 rfl rfl), im5_hasFailed, se5_hasFailed⟩
theorem lv8_5_startAnew {y : MT} (h : (M_nm y).cls = RX8) : LkV y 186 M5_startAnew := ⟨by rw [h]; exact (tm2 236 rfl rfl), im5_startAnew, se5_startAnew⟩
theorem lv8_5_passTick {y : MT} (h : (M_nm y).cls = RX8) : LkV y 190 M5_passTick := ⟨by rw [h]; exact (tm3 1 rfl rfl), im5_passTick, se5_passTick⟩
theorem lv8_5_setIn {y : MT} (h : (M_nm y).cls = RX8) : LkV y 193 M5_setIn := ⟨by rw [h]; exact (tm3 26 rfl rfl), im5_setIn, se5_setIn⟩
theorem lv8_5_edgeKind {y : MT} (h : (M_nm y).cls = RX8) : LkV y 211 M5_edgeKind := ⟨by rw [h]; exact (tm3 35 rfl rfl), im5_edgeKind, se5_edgeKind⟩
theorem lv8_5_rankNow {y : MT} (h : (M_nm y).cls = RX8) : LkV y 215 M5_rankNow := ⟨by rw [h]; exact (tm3 43 rfl rfl), im5_rankNow, se5_rankNow⟩
theorem lv8_5_doomedBy {y : MT} (h : (M_nm y).cls = RX8) : LkV y 218 M5_doomedBy := ⟨by rw [h]; exact (tm3 56 rfl rfl), im5_doomedBy, se5_doomedBy⟩
theorem lv8_3_hasDetour {y : MT} (h : (M_nm y).cls = RX8) : LkV y 221 M3_hasDetour := ⟨by rw [h]; exact (tm3 64 rfl rfl), im3_hasDetour, se3_hasDetour⟩
theorem lv8_4_make {y : MT} (h : (M_nm y).cls = RX8) : LkV y 224 M4_make := ⟨by rw [h]; exact (tm3 73 rfl rfl), im4_make, se4_make⟩
theorem lv8_3_leads {y : MT} (h : (M_nm y).cls = RX8) : LkV y 237 M3_leads := ⟨by rw [h]; exact (tm3 120 rfl rfl), im3_leads, se3_leads⟩
theorem lv8_5_unendedSet {y : MT} (h : (M_nm y).cls = RX8) : LkV y 240 M5_unendedSet := ⟨by rw [h]; exact (tm3 132 rfl rfl), im5_unendedSet, se5_unendedSet⟩
theorem lv8_6_bitCount_0f7a4 {y : MT} (h : (M_nm y).cls = RX8) : LkS y 243 M6_bitCount_0f7a4 := ⟨by rw [h]; exact (tm3 133 rfl rfl), sm6_bitCount_0f7a4⟩
theorem lv8_1_countPairs {y : MT} (h : (M_nm y).cls = RX8) : LkV y 248 M1_countPairs := ⟨by rw [h]; exact (tm3 134 rfl rfl), im1_countPairs, se1_countPairs⟩
theorem lv8_2_countFor {y : MT} (h : (M_nm y).cls = RX8) : LkV y 254 M2_countFor := ⟨by rw [h]; exact (tm3 155 rfl rfl), im2_countFor, se2_countFor⟩
theorem lv8_6_append {y : MT} (h : (M_nm y).cls = RX8) : LkV y 259 M6_append := ⟨by rw [h]; exact (tm3 176 rfl rfl), im6_append, se6_append⟩
theorem lv8_6_read {y : MT} (h : (M_nm y).cls = RX8) : LkV y 261 M6_read := ⟨by rw [h]; exact (tm3 188 rfl rfl), im6_read, se6_read⟩
theorem lv8_5_copyItems {y : MT} (h : (M_nm y).cls = RX8) : LkV y 267 M5_copyItems := ⟨by rw [h]; exact (tm3 222 rfl rfl), im5_copyItems, se5_copyItems⟩
theorem lv8_5_copyAll {y : MT} (h : (M_nm y).cls = RX8) : LkV y 270 M5_copyAll := ⟨by rw [h]; exact (tm3 236 rfl rfl), im5_copyAll, se5_copyAll⟩
theorem lv9_9_isIn {y : MT} (h : (M_nm y).cls = RX9) : LkS y 65 M9_isIn := ⟨by rw [h]; exact (tm4 94 rfl rfl), sm9_isIn⟩
theorem lv9_9_of {y : MT} (h : (M_nm y).cls = RX9) : LkV y 69 M9_of := ⟨by rw [h]; exact (tm4 109 rfl rfl), im9_of, se9_of⟩
theorem lv9_9_set {y : MT} (h : (M_nm y).cls = RX9) : LkV y 73 M9_set := ⟨by rw [h]; exact (tm4 101 rfl rfl), im9_set, se9_set⟩
theorem lv9_9_kindOf {y : MT} (h : (M_nm y).cls = RX9) : LkV y 77 M9_kindOf := ⟨by rw [h]; exact (tm4 117 rfl rfl), im9_kindOf, se9_kindOf⟩
theorem lv9_9_hasEnded {y : MT} (h : (M_nm y).cls = RX9) : LkV y 80 M9_hasEnded := ⟨by rw [h]; exact (tm4 121 rfl rfl), im9_hasEnded, se9_hasEnded⟩
theorem lv9_9_due {y : MT} (h : (M_nm y).cls = RX9) : LkV y 91 M9_due := ⟨by rw [h]; exact (tm4 113 rfl rfl), im9_due, se9_due⟩
theorem lv9_9_becomesReady {y : MT} (h : (M_nm y).cls = RX9) : LkV y 95 M9_becomesReady := ⟨by rw [h]; exact (tm4 125 rfl rfl), im9_becomesReady, se9_becomesReady⟩
theorem lv9_9_append {y : MT} (h : (M_nm y).cls = RX9) : LkV y 99 M9_append := ⟨by rw [h]; exact (tm4 97 rfl rfl), im9_append, se9_append⟩
theorem lv9_9_settle {y : MT} (h : (M_nm y).cls = RX9) : LkV y 103 M9_settle := ⟨by rw [h]; exact (tm4 105 rfl rfl), im9_settle, se9_settle⟩
theorem lv9_9_isItem {y : MT} (h : (M_nm y).cls = RX9) : LkV y 109 M9_isItem := ⟨by rw [h]; exact (tm4 133 rfl rfl), im9_isItem, se9_isItem⟩
theorem lv9_9_measureTo {y : MT} (h : (M_nm y).cls = RX9) : LkV y 112 M9_measureTo := ⟨by rw [h]; exact (tm4 137 rfl rfl), im9_measureTo, se9_measureTo⟩
theorem lv9_9_keepPath {y : MT} (h : (M_nm y).cls = RX9) : LkV y 116 M9_keepPath := ⟨by rw [h]; exact (tm4 141 rfl rfl), im9_keepPath, se9_keepPath⟩
theorem lv9_9_edges {y : MT} (h : (M_nm y).cls = RX9) : LkV y 119 M9_edges := ⟨by rw [h]; exact (tm4 145 rfl rfl), im9_edges, se9_edges⟩
theorem lv9_9_ownWork {y : MT} (h : (M_nm y).cls = RX9) : LkV y 123 M9_ownWork := ⟨by rw [h]; exact (tm4 181 rfl rfl), im9_ownWork, se9_ownWork⟩
theorem lv9_9_measure {y : MT} (h : (M_nm y).cls = RX9) : LkV y 126 M9_measure := ⟨by rw [h]; exact (tm4 177 rfl rfl), im9_measure, se9_measure⟩
theorem lv9_9_canReceive {y : MT} (h : (M_nm y).cls = RX9) : LkV y 129 M9_canReceive := ⟨by rw [h]; exact (tm4 185 rfl rfl), im9_canReceive, se9_canReceive⟩
theorem lv9_9_rankOf {y : MT} (h : (M_nm y).cls = RX9) : LkV y 132 M9_rankOf := ⟨by rw [h]; exact (tm4 189 rfl rfl), im9_rankOf, se9_rankOf⟩
theorem lv9_9_isValid {y : MT} (h : (M_nm y).cls = RX9) : LkV y 135 M9_isValid := ⟨by rw [h]; exact (tm4 201 rfl rfl), im9_isValid, se9_isValid⟩
theorem lv9_9_comeBack {y : MT} (h : (M_nm y).cls = RX9) : LkV y 139 M9_comeBack := ⟨by rw [h]; exact (tm4 209 rfl rfl), im9_comeBack, se9_comeBack⟩
theorem lv9_9_layAhead {y : MT} (h : (M_nm y).cls = RX9) : LkV y 142 M9_layAhead := ⟨by rw [h]; exact (tm5 26 rfl rfl), im9_layAhead, se9_layAhead⟩
theorem lv9_9_possibleAt {y : MT} (h : (M_nm y).cls = RX9) : LkV y 145 M9_possibleAt := ⟨by rw [h]; exact (tm5 46 rfl rfl), im9_possibleAt, se9_possibleAt⟩
theorem lv9_9_planRank {y : MT} (h : (M_nm y).cls = RX9) : LkV y 148 M9_planRank := ⟨by rw [h]; exact (tm5 50 rfl rfl), im9_planRank, se9_planRank⟩
theorem lv9_9_planned {y : MT} (h : (M_nm y).cls = RX9) : LkV y 152 M9_planned := ⟨by rw [h]; exact (tm5 42 rfl rfl), im9_planned, se9_planned⟩
theorem lv9_9_changePartners {y : MT} (h : (M_nm y).cls = RX9) : LkV y 155 M9_changePartners := ⟨by rw [h]; exact (tm5 74 rfl rfl), im9_changePartners, se9_changePartners⟩
theorem lv9_9_isMatched {y : MT} (h : (M_nm y).cls = RX9) : LkV y 158 M9_isMatched := ⟨by rw [h]; exact (tm5 70 rfl rfl), im9_isMatched, se9_isMatched⟩
theorem lv9_9_isLast {y : MT} (h : (M_nm y).cls = RX9) : LkV y 163 M9_isLast := ⟨by rw [h]; exact (tm5 83 rfl rfl), im9_isLast, se9_isLast⟩
theorem lv9_9_isDigit {y : MT} (h : (M_nm y).cls = RX9) : LkV y 175 M9_isDigit := ⟨by rw [h]; exact (tm5 103 rfl rfl), im9_isDigit, se9_isDigit⟩
theorem lv9_9_fails {y : MT} (h : (M_nm y).cls = RX9) : LkV y 179 M9_fails := ⟨by rw [h]; exact (tm5 107 rfl rfl), im9_fails, se9_fails⟩
theorem lv9_9_number {y : MT} (h : (M_nm y).cls = RX9) : LkV y 185 M9_number := ⟨by rw [h]; exact (tm5 111 rfl rfl), im9_number, se9_number⟩
theorem lv9_9_readItem {y : MT} (h : (M_nm y).cls = RX9) : LkV y 188 M9_readItem := ⟨by rw [h]; exact (tm5 99 rfl rfl), im9_readItem, se9_readItem⟩
theorem lv9_9_fault {y : MT} (h : (M_nm y).cls = RX9) : LkV y 191 M9_fault := ⟨by rw [h]; exact (tm5 119 rfl rfl), im9_fault, se9_fault⟩
theorem lvL_8_init {y : MT} (h : (M_nm y).cls = "DependencyQueueLaw") : LkI y 9 M8_init := ⟨by rw [h]; exact (tm1 16 rfl rfl), im8_init, rfl⟩
theorem lvL_9_init {y : MT} (h : (M_nm y).cls = "DependencyQueueLaw") : LkI y 12 M9_init := ⟨by rw [h]; exact (tm4 7 rfl rfl), im9_init, rfl⟩
theorem lvL_8_add {y : MT} (h : (M_nm y).cls = "DependencyQueueLaw") : LkV y 13 M8_add := ⟨by rw [h]; exact (tm2 14 rfl rfl), im8_add, se8_add⟩
theorem lvL_9_add {y : MT} (h : (M_nm y).cls = "DependencyQueueLaw") : LkV y 17 M9_add := ⟨by rw [h]; exact (tm4 90 rfl rfl), im9_add, se9_add⟩
theorem lvL_8_link {y : MT} (h : (M_nm y).cls = "DependencyQueueLaw") : LkV y 18 M8_link := ⟨by rw [h]; exact (tm2 37 rfl rfl), im8_link, se8_link⟩
theorem lvL_9_link {y : MT} (h : (M_nm y).cls = "DependencyQueueLaw") : LkV y 22 M9_link := ⟨by rw [h]; exact (tm4 129 rfl rfl), im9_link, se9_link⟩
theorem lvL_8_witness {y : MT} (h : (M_nm y).cls = "DependencyQueueLaw") : LkV y 23 M8_witness := ⟨by rw [h]; exact (tm2 119 rfl rfl), im8_witness, se8_witness⟩
theorem lvL_9_witness {y : MT} (h : (M_nm y).cls = "DependencyQueueLaw") : LkV y 27 M9_witness := ⟨by rw [h]; exact (tm4 149 rfl rfl), im9_witness, se9_witness⟩
theorem lvL_8_unlink {y : MT} (h : (M_nm y).cls = "DependencyQueueLaw") : LkV y 28 M8_unlink := ⟨by rw [h]; exact (tm2 123 rfl rfl), im8_unlink, se8_unlink⟩
theorem lvL_9_unlink {y : MT} (h : (M_nm y).cls = "DependencyQueueLaw") : LkV y 32 M9_unlink := ⟨by rw [h]; exact (tm4 153 rfl rfl), im9_unlink, se9_unlink⟩
theorem lvL_8_setPriority {y : MT} (h : (M_nm y).cls = "DependencyQueueLaw") : LkV y 33 M8_setPriority := ⟨by rw [h]; exact (tm2 129 rfl rfl), im8_setPriority, se8_setPriority⟩
theorem lvL_9_setPriority {y : MT} (h : (M_nm y).cls = "DependencyQueueLaw") : LkV y 36 M9_setPriority := ⟨by rw [h]; exact (tm4 157 rfl rfl), im9_setPriority, se9_setPriority⟩
theorem lvL_8_setPolicy {y : MT} (h : (M_nm y).cls = "DependencyQueueLaw") : LkV y 37 M8_setPolicy := ⟨by rw [h]; exact (tm2 134 rfl rfl), im8_setPolicy, se8_setPolicy⟩
theorem lvL_9_setPolicy {y : MT} (h : (M_nm y).cls = "DependencyQueueLaw") : LkV y 40 M9_setPolicy := ⟨by rw [h]; exact (tm4 161 rfl rfl), im9_setPolicy, se9_setPolicy⟩
theorem lvL_8_setGroupLimit {y : MT} (h : (M_nm y).cls = "DependencyQueueLaw") : LkV y 41 M8_setGroupLimit := ⟨by rw [h]; exact (tm2 138 rfl rfl), im8_setGroupLimit, se8_setGroupLimit⟩
theorem lvL_9_setGroupLimit {y : MT} (h : (M_nm y).cls = "DependencyQueueLaw") : LkV y 44 M9_setGroupLimit := ⟨by rw [h]; exact (tm4 165 rfl rfl), im9_setGroupLimit, se9_setGroupLimit⟩
theorem lvL_8_clear {y : MT} (h : (M_nm y).cls = "DependencyQueueLaw") : LkV y 45 M8_clear := ⟨by rw [h]; exact (tm2 142 rfl rfl), im8_clear, se8_clear⟩
theorem lvL_9_clear {y : MT} (h : (M_nm y).cls = "DependencyQueueLaw") : LkV y 49 M9_clear := ⟨by rw [h]; exact (tm4 169 rfl rfl), im9_clear, se9_clear⟩
theorem lvL_8_receive {y : MT} (h : (M_nm y).cls = "DependencyQueueLaw") : LkV y 50 M8_receive := ⟨by rw [h]; exact (tm2 154 rfl rfl), im8_receive, se8_receive⟩
theorem lvL_9_receive {y : MT} (h : (M_nm y).cls = "DependencyQueueLaw") : LkV y 53 M9_receive := ⟨by rw [h]; exact (tm4 173 rfl rfl), im9_receive, se9_receive⟩
theorem lvL_8_receipt {y : MT} (h : (M_nm y).cls = "DependencyQueueLaw") : LkV y 54 M8_receipt := ⟨by rw [h]; exact (tm2 194 rfl rfl), im8_receipt, se8_receipt⟩
theorem lvL_9_receipt {y : MT} (h : (M_nm y).cls = "DependencyQueueLaw") : LkV y 57 M9_receipt := ⟨by rw [h]; exact (tm4 193 rfl rfl), im9_receipt, se9_receipt⟩
theorem lvL_8_finish {y : MT} (h : (M_nm y).cls = "DependencyQueueLaw") : LkV y 58 M8_finish := ⟨by rw [h]; exact (tm2 198 rfl rfl), im8_finish, se8_finish⟩
theorem lvL_9_finish {y : MT} (h : (M_nm y).cls = "DependencyQueueLaw") : LkV y 61 M9_finish := ⟨by rw [h]; exact (tm4 197 rfl rfl), im9_finish, se9_finish⟩
theorem lvL_8_giveBack {y : MT} (h : (M_nm y).cls = "DependencyQueueLaw") : LkV y 62 M8_giveBack := ⟨by rw [h]; exact (tm2 215 rfl rfl), im8_giveBack, se8_giveBack⟩
theorem lvL_9_giveBack {y : MT} (h : (M_nm y).cls = "DependencyQueueLaw") : LkV y 65 M9_giveBack := ⟨by rw [h]; exact (tm4 205 rfl rfl), im9_giveBack, se9_giveBack⟩
theorem lvL_8_extend {y : MT} (h : (M_nm y).cls = "DependencyQueueLaw") : LkV y 66 M8_extend := ⟨by rw [h]; exact (tm2 223 rfl rfl), im8_extend, se8_extend⟩
theorem lvL_9_extend {y : MT} (h : (M_nm y).cls = "DependencyQueueLaw") : LkV y 69 M9_extend := ⟨by rw [h]; exact (tm4 213 rfl rfl), im9_extend, se9_extend⟩
theorem lvL_8_cancel {y : MT} (h : (M_nm y).cls = "DependencyQueueLaw") : LkV y 70 M8_cancel := ⟨by rw [h]; exact (tm2 227 rfl rfl), im8_cancel, se8_cancel⟩
theorem lvL_9_cancel {y : MT} (h : (M_nm y).cls = "DependencyQueueLaw") : LkV y 73 M9_cancel := ⟨by rw [h]; exact (tm4 217 rfl rfl), im9_cancel, se9_cancel⟩
theorem lvL_8_revive {y : MT} (h : (M_nm y).cls = "DependencyQueueLaw") : LkV y 74 M8_revive := ⟨by rw [h]; exact (tm2 231 rfl rfl), im8_revive, se8_revive⟩
theorem lvL_9_revive {y : MT} (h : (M_nm y).cls = "DependencyQueueLaw") : LkV y 77 M9_revive := ⟨by rw [h]; exact (tm4 221 rfl rfl), im9_revive, se9_revive⟩
theorem lvL_8_tick {y : MT} (h : (M_nm y).cls = "DependencyQueueLaw") : LkV y 78 M8_tick := ⟨by rw [h]; exact (tm2 237 rfl rfl), im8_tick, se8_tick⟩
theorem lvL_9_tick {y : MT} (h : (M_nm y).cls = "DependencyQueueLaw") : LkV y 81 M9_tick := ⟨by rw [h]; exact (tm4 225 rfl rfl), im9_tick, se9_tick⟩
theorem lvL_8_items {y : MT} (h : (M_nm y).cls = "DependencyQueueLaw") : LkV y 82 M8_items := ⟨by rw [h]; exact (tm3 6 rfl rfl), im8_items, se8_items⟩
theorem lvL_9_items {y : MT} (h : (M_nm y).cls = "DependencyQueueLaw") : LkV y 85 M9_items := ⟨by rw [h]; exact (tm4 229 rfl rfl), im9_items, se9_items⟩
theorem lvL_8_edges {y : MT} (h : (M_nm y).cls = "DependencyQueueLaw") : LkV y 86 M8_edges := ⟨by rw [h]; exact (tm3 10 rfl rfl), im8_edges, se8_edges⟩
theorem lvL_9_edges {y : MT} (h : (M_nm y).cls = "DependencyQueueLaw") : LkV y 89 M9_edges := ⟨by rw [h]; exact (tm4 233 rfl rfl), im9_edges, se9_edges⟩
theorem lvL_8_time {y : MT} (h : (M_nm y).cls = "DependencyQueueLaw") : LkV y 90 M8_time := ⟨by rw [h]; exact (tm3 14 rfl rfl), im8_time, se8_time⟩
theorem lvL_9_time {y : MT} (h : (M_nm y).cls = "DependencyQueueLaw") : LkV y 93 M9_time := ⟨by rw [h]; exact (tm4 234 rfl rfl), im9_time, se9_time⟩
theorem lvL_8_state {y : MT} (h : (M_nm y).cls = "DependencyQueueLaw") : LkV y 94 M8_state := ⟨by rw [h]; exact (tm3 18 rfl rfl), im8_state, se8_state⟩
theorem lvL_9_state {y : MT} (h : (M_nm y).cls = "DependencyQueueLaw") : LkV y 97 M9_state := ⟨by rw [h]; exact (tm4 238 rfl rfl), im9_state, se9_state⟩
theorem lvL_8_itemsIn {y : MT} (h : (M_nm y).cls = "DependencyQueueLaw") : LkV y 98 M8_itemsIn := ⟨by rw [h]; exact (tm3 22 rfl rfl), im8_itemsIn, se8_itemsIn⟩
theorem lvL_9_itemsIn {y : MT} (h : (M_nm y).cls = "DependencyQueueLaw") : LkV y 101 M9_itemsIn := ⟨by rw [h]; exact (tm5 2 rfl rfl), im9_itemsIn, se9_itemsIn⟩
theorem lvL_8_property {y : MT} (h : (M_nm y).cls = "DependencyQueueLaw") : LkV y 102 M8_property := ⟨by rw [h]; exact (tm3 27 rfl rfl), im8_property, se8_property⟩
theorem lvL_9_property {y : MT} (h : (M_nm y).cls = "DependencyQueueLaw") : LkV y 105 M9_property := ⟨by rw [h]; exact (tm5 6 rfl rfl), im9_property, se9_property⟩
theorem lvL_8_edge {y : MT} (h : (M_nm y).cls = "DependencyQueueLaw") : LkV y 106 M8_edge := ⟨by rw [h]; exact (tm3 31 rfl rfl), im8_edge, se8_edge⟩
theorem lvL_9_edge {y : MT} (h : (M_nm y).cls = "DependencyQueueLaw") : LkV y 109 M9_edge := ⟨by rw [h]; exact (tm5 10 rfl rfl), im9_edge, se9_edge⟩
theorem lvL_8_rank {y : MT} (h : (M_nm y).cls = "DependencyQueueLaw") : LkV y 110 M8_rank := ⟨by rw [h]; exact (tm3 39 rfl rfl), im8_rank, se8_rank⟩
theorem lvL_9_rank {y : MT} (h : (M_nm y).cls = "DependencyQueueLaw") : LkV y 113 M9_rank := ⟨by rw [h]; exact (tm5 14 rfl rfl), im9_rank, se9_rank⟩
theorem lvL_8_height {y : MT} (h : (M_nm y).cls = "DependencyQueueLaw") : LkV y 114 M8_height := ⟨by rw [h]; exact (tm3 44 rfl rfl), im8_height, se8_height⟩
theorem lvL_9_height {y : MT} (h : (M_nm y).cls = "DependencyQueueLaw") : LkV y 117 M9_height := ⟨by rw [h]; exact (tm5 18 rfl rfl), im9_height, se9_height⟩
theorem lvL_8_before {y : MT} (h : (M_nm y).cls = "DependencyQueueLaw") : LkV y 118 M8_before := ⟨by rw [h]; exact (tm3 48 rfl rfl), im8_before, se8_before⟩
theorem lvL_9_before {y : MT} (h : (M_nm y).cls = "DependencyQueueLaw") : LkV y 121 M9_before := ⟨by rw [h]; exact (tm5 22 rfl rfl), im9_before, se9_before⟩
theorem lvL_8_wouldDoom {y : MT} (h : (M_nm y).cls = "DependencyQueueLaw") : LkV y 122 M8_wouldDoom := ⟨by rw [h]; exact (tm3 52 rfl rfl), im8_wouldDoom, se8_wouldDoom⟩
theorem lvL_9_wouldDoom {y : MT} (h : (M_nm y).cls = "DependencyQueueLaw") : LkV y 125 M9_wouldDoom := ⟨by rw [h]; exact (tm5 30 rfl rfl), im9_wouldDoom, se9_wouldDoom⟩
theorem lvL_8_isSuperfluous {y : MT} (h : (M_nm y).cls = "DependencyQueueLaw") : LkV y 126 M8_isSuperfluous := ⟨by rw [h]; exact (tm3 60 rfl rfl), im8_isSuperfluous, se8_isSuperfluous⟩
theorem lvL_9_isSuperfluous {y : MT} (h : (M_nm y).cls = "DependencyQueueLaw") : LkV y 129 M9_isSuperfluous := ⟨by rw [h]; exact (tm5 34 rfl rfl), im9_isSuperfluous, se9_isSuperfluous⟩
theorem lvL_8_planLength {y : MT} (h : (M_nm y).cls = "DependencyQueueLaw") : LkV y 130 M8_planLength := ⟨by rw [h]; exact (tm3 69 rfl rfl), im8_planLength, se8_planLength⟩
theorem lvL_9_planLength {y : MT} (h : (M_nm y).cls = "DependencyQueueLaw") : LkV y 133 M9_planLength := ⟨by rw [h]; exact (tm5 38 rfl rfl), im9_planLength, se9_planLength⟩
theorem lvL_8_planStart {y : MT} (h : (M_nm y).cls = "DependencyQueueLaw") : LkV y 134 M8_planStart := ⟨by rw [h]; exact (tm3 105 rfl rfl), im8_planStart, se8_planStart⟩
theorem lvL_9_planStart {y : MT} (h : (M_nm y).cls = "DependencyQueueLaw") : LkV y 137 M9_planStart := ⟨by rw [h]; exact (tm5 54 rfl rfl), im9_planStart, se9_planStart⟩
theorem lvL_8_bestWorkers {y : MT} (h : (M_nm y).cls = "DependencyQueueLaw") : LkV y 138 M8_bestWorkers := ⟨by rw [h]; exact (tm3 109 rfl rfl), im8_bestWorkers, se8_bestWorkers⟩
theorem lvL_9_bestWorkers {y : MT} (h : (M_nm y).cls = "DependencyQueueLaw") : LkV y 141 M9_bestWorkers := ⟨by rw [h]; exact (tm5 58 rfl rfl), im9_bestWorkers, se9_bestWorkers⟩
theorem lvL_8_slack {y : MT} (h : (M_nm y).cls = "DependencyQueueLaw") : LkV y 142 M8_slack := ⟨by rw [h]; exact (tm3 113 rfl rfl), im8_slack, se8_slack⟩
theorem lvL_9_slack {y : MT} (h : (M_nm y).cls = "DependencyQueueLaw") : LkV y 145 M9_slack := ⟨by rw [h]; exact (tm5 62 rfl rfl), im9_slack, se9_slack⟩
theorem lvL_8_width {y : MT} (h : (M_nm y).cls = "DependencyQueueLaw") : LkV y 146 M8_width := ⟨by rw [h]; exact (tm3 128 rfl rfl), im8_width, se8_width⟩
theorem lvL_9_width {y : MT} (h : (M_nm y).cls = "DependencyQueueLaw") : LkV y 149 M9_width := ⟨by rw [h]; exact (tm5 66 rfl rfl), im9_width, se9_width⟩
theorem lvL_8_orders {y : MT} (h : (M_nm y).cls = "DependencyQueueLaw") : LkV y 150 M8_orders := ⟨by rw [h]; exact (tm3 150 rfl rfl), im8_orders, se8_orders⟩
theorem lvL_9_orders {y : MT} (h : (M_nm y).cls = "DependencyQueueLaw") : LkV y 154 M9_orders := ⟨by rw [h]; exact (tm5 78 rfl rfl), im9_orders, se9_orders⟩
theorem lvL_8_write {y : MT} (h : (M_nm y).cls = "DependencyQueueLaw") : LkV y 155 M8_write := ⟨by rw [h]; exact (tm3 172 rfl rfl), im8_write, se8_write⟩
theorem lvL_9_write {y : MT} (h : (M_nm y).cls = "DependencyQueueLaw") : LkV y 158 M9_write := ⟨by rw [h]; exact (tm5 87 rfl rfl), im9_write, se9_write⟩
theorem lvL_8_wipe {y : MT} (h : (M_nm y).cls = "DependencyQueueLaw") : LkV y 159 M8_wipe := ⟨by rw [h]; exact (tm3 180 rfl rfl), im8_wipe, se8_wipe⟩
theorem lvL_9_wipe {y : MT} (h : (M_nm y).cls = "DependencyQueueLaw") : LkV y 162 M9_wipe := ⟨by rw [h]; exact (tm5 91 rfl rfl), im9_wipe, se9_wipe⟩
theorem lvL_8_fault {y : MT} (h : (M_nm y).cls = "DependencyQueueLaw") : LkV y 163 M8_fault := ⟨by rw [h]; exact (tm3 184 rfl rfl), im8_fault, se8_fault⟩
theorem lvL_9_fault {y : MT} (h : (M_nm y).cls = "DependencyQueueLaw") : LkV y 166 M9_fault := ⟨by rw [h]; exact (tm5 95 rfl rfl), im9_fault, se9_fault⟩
theorem lvL_8_load {y : MT} (h : (M_nm y).cls = "DependencyQueueLaw") : LkV y 167 M8_load := ⟨by rw [h]; exact (tm3 218 rfl rfl), im8_load, se8_load⟩
theorem lvL_9_load {y : MT} (h : (M_nm y).cls = "DependencyQueueLaw") : LkV y 170 M9_load := ⟨by rw [h]; exact (tm5 115 rfl rfl), im9_load, se9_load⟩
theorem lvL_8_save {y : MT} (h : (M_nm y).cls = "DependencyQueueLaw") : LkV y 171 M8_save := ⟨by rw [h]; exact (tm3 232 rfl rfl), im8_save, se8_save⟩
theorem lvL_9_save {y : MT} (h : (M_nm y).cls = "DependencyQueueLaw") : LkV y 174 M9_save := ⟨by rw [h]; exact (tm5 120 rfl rfl), im9_save, se9_save⟩
theorem lvL_8_restore {y : MT} (h : (M_nm y).cls = "DependencyQueueLaw") : LkV y 175 M8_restore := ⟨by rw [h]; exact (tm4 1 rfl rfl), im8_restore, se8_restore⟩
theorem lvL_9_restore {y : MT} (h : (M_nm y).cls = "DependencyQueueLaw") : LkV y 178 M9_restore := ⟨by rw [h]; exact (tm5 124 rfl rfl), im9_restore, se9_restore⟩
