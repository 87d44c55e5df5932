set_option maxRecDepth 100000 in
theorem mwX7_faultNumber : zmk 1 (yX7_faultNumber, cX7_faultNumber, 1, (some .int), kX7_faultNumber) := ⟨tb3 (List.mem_of_getElem? (i := 21) rfl), tb1 (List.mem_of_getElem? (i := 4) rfl), ⟨tb3 (List.mem_of_getElem? (i := 19) rfl), tb3 (List.mem_of_getElem? (i := 20) rfl)⟩, by decide +kernel, by decide, by decide⟩
theorem okX7_faultNumber : zckM RX7 false cX7_faultNumber 1 0 kX7_faultNumber = true := by decide +kernel
set_option maxRecDepth 100000 in
theorem mwX7_faultPlace : zmk 1 (yX7_faultPlace, cX7_faultPlace, 1, (some .int), kX7_faultPlace) := ⟨tb3 (List.mem_of_getElem? (i := 4) rfl), tb1 (List.mem_of_getElem? (i := 4) rfl), ⟨tb3 (List.mem_of_getElem? (i := 2) rfl), tb3 (List.mem_of_getElem? (i := 3) rfl)⟩, by decide +kernel, by decide, by decide⟩
theorem okX7_faultPlace : zckM RX7 false cX7_faultPlace 1 0 kX7_faultPlace = true := by decide +kernel
set_option maxRecDepth 100000 in
theorem mwX7_readAll : zmk 1 (yX7_readAll, cX7_readAll, 2, (some (.object "JudgeHalves$Circuit")), kX7_readAll) := ⟨tb2 (List.mem_of_getElem? (i := 175) rfl), tb1 (List.mem_of_getElem? (i := 4) rfl), ⟨tb2 (List.mem_of_getElem? (i := 173) rfl), tb2 (List.mem_of_getElem? (i := 174) rfl)⟩, by decide +kernel, by decide, by decide⟩
theorem okX7_readAll : zckM RX7 false cX7_readAll 2 0 kX7_readAll = true := by decide +kernel
set_option maxRecDepth 100000 in
theorem mwX7_readLaw : zmk 1 (yX7_readLaw, cX7_readLaw, 1, (some .boolean), kX7_readLaw) := ⟨tb2 (List.mem_of_getElem? (i := 194) rfl), tb1 (List.mem_of_getElem? (i := 4) rfl), ⟨tb2 (List.mem_of_getElem? (i := 193) rfl), tb0 (List.mem_of_getElem? (i := 6) rfl)⟩, by decide +kernel, by decide, by decide⟩
theorem okX7_readLaw : zckM RX7 false cX7_readLaw 1 0 kX7_readLaw = true := by decide +kernel
set_option maxRecDepth 100000 in
theorem mwX7_readJudges : zmk 1 (yX7_readJudges, cX7_readJudges, 2, (some .boolean), kX7_readJudges) := ⟨tb2 (List.mem_of_getElem? (i := 223) rfl), tb1 (List.mem_of_getElem? (i := 4) rfl), ⟨tb2 (List.mem_of_getElem? (i := 222) rfl), tb0 (List.mem_of_getElem? (i := 12) rfl)⟩, by decide +kernel, by decide, by decide⟩
theorem okX7_readJudges : zckM RX7 false cX7_readJudges 2 0 kX7_readJudges = true := by decide +kernel
set_option maxRecDepth 100000 in
theorem mwX7_readMen : zmk 1 (yX7_readMen, cX7_readMen, 3, (some .boolean), kX7_readMen) := ⟨tb2 (List.mem_of_getElem? (i := 231) rfl), tb1 (List.mem_of_getElem? (i := 4) rfl), ⟨tb2 (List.mem_of_getElem? (i := 230) rfl), tb0 (List.mem_of_getElem? (i := 13) rfl)⟩, by decide +kernel, by decide, by decide⟩
theorem okX7_readMen : zckM RX7 false cX7_readMen 3 0 kX7_readMen = true := by decide +kernel
set_option maxRecDepth 100000 in
theorem mwX7_sortSeen : zmk 1 (yX7_sortSeen, cX7_sortSeen, 1, (some .int), kX7_sortSeen) := ⟨tb2 (List.mem_of_getElem? (i := 235) rfl), tb1 (List.mem_of_getElem? (i := 4) rfl), ⟨tb2 (List.mem_of_getElem? (i := 234) rfl), tb0 (List.mem_of_getElem? (i := 14) rfl)⟩, by decide +kernel, by decide, by decide⟩
theorem okX7_sortSeen : zckM RX7 false cX7_sortSeen 1 0 kX7_sortSeen = true := by decide +kernel
set_option maxRecDepth 100000 in
theorem mwX7_readPair : zmk 1 (yX7_readPair, cX7_readPair, 5, (some .boolean), kX7_readPair) := ⟨tb2 (List.mem_of_getElem? (i := 206) rfl), tb1 (List.mem_of_getElem? (i := 4) rfl), ⟨tb2 (List.mem_of_getElem? (i := 205) rfl), tb0 (List.mem_of_getElem? (i := 9) rfl)⟩, by decide +kernel, by decide, by decide⟩
theorem okX7_readPair : zckM RX7 false cX7_readPair 5 0 kX7_readPair = true := by decide +kernel
set_option maxRecDepth 100000 in
theorem mwX7_seesNumber : zmk 1 (yX7_seesNumber, cX7_seesNumber, 3, (some .boolean), kX7_seesNumber) := ⟨tb2 (List.mem_of_getElem? (i := 210) rfl), tb1 (List.mem_of_getElem? (i := 4) rfl), ⟨tb2 (List.mem_of_getElem? (i := 209) rfl), tb0 (List.mem_of_getElem? (i := 10) rfl)⟩, by decide +kernel, by decide, by decide⟩
theorem okX7_seesNumber : zckM RX7 false cX7_seesNumber 3 0 kX7_seesNumber = true := by decide +kernel
set_option maxRecDepth 100000 in
theorem mwX7_passesSign : zmk 1 (yX7_passesSign, cX7_passesSign, 2, (some .boolean), kX7_passesSign) := ⟨tb2 (List.mem_of_getElem? (i := 215) rfl), tb1 (List.mem_of_getElem? (i := 4) rfl), ⟨tb2 (List.mem_of_getElem? (i := 214) rfl), tb0 (List.mem_of_getElem? (i := 11) rfl)⟩, by decide +kernel, by decide, by decide⟩
theorem okX7_passesSign : zckM RX7 false cX7_passesSign 2 0 kX7_passesSign = true := by decide +kernel
set_option maxRecDepth 100000 in
theorem mwX7_seesLetter : zmk 1 (yX7_seesLetter, cX7_seesLetter, 2, (some .boolean), kX7_seesLetter) := ⟨tb2 (List.mem_of_getElem? (i := 198) rfl), tb1 (List.mem_of_getElem? (i := 4) rfl), ⟨tb2 (List.mem_of_getElem? (i := 197) rfl), tb0 (List.mem_of_getElem? (i := 7) rfl)⟩, by decide +kernel, by decide, by decide⟩
theorem okX7_seesLetter : zckM RX7 false cX7_seesLetter 2 0 kX7_seesLetter = true := by decide +kernel
set_option maxRecDepth 100000 in
theorem mwX7_faulty : zmk 1 (yX7_faulty, cX7_faulty, 2, (some .boolean), kX7_faulty) := ⟨tb2 (List.mem_of_getElem? (i := 202) rfl), tb1 (List.mem_of_getElem? (i := 4) rfl), ⟨tb2 (List.mem_of_getElem? (i := 201) rfl), tb0 (List.mem_of_getElem? (i := 8) rfl)⟩, by decide +kernel, by decide, by decide⟩
theorem okX7_faulty : zckM RX7 false cX7_faulty 2 0 kX7_faulty = true := by decide +kernel
set_option maxRecDepth 100000 in
theorem mwX7_byteAt : zmk 1 (yX7_byteAt, cX7_byteAt, 2, (some .int), kX7_byteAt) := ⟨tb2 (List.mem_of_getElem? (i := 183) rfl), tb1 (List.mem_of_getElem? (i := 4) rfl), ⟨tb2 (List.mem_of_getElem? (i := 182) rfl), tb0 (List.mem_of_getElem? (i := 4) rfl)⟩, by decide +kernel, by decide, by decide⟩
theorem okX7_byteAt : zckM RX7 false cX7_byteAt 2 0 kX7_byteAt = true := by decide +kernel
set_option maxRecDepth 100000 in
theorem mwX7_next : zmk 1 (yX7_next, cX7_next, 1, none, kX7_next) := ⟨tb2 (List.mem_of_getElem? (i := 179) rfl), tb1 (List.mem_of_getElem? (i := 4) rfl), ⟨tb2 (List.mem_of_getElem? (i := 178) rfl), tb0 (List.mem_of_getElem? (i := 3) rfl)⟩, by decide +kernel, by decide, by decide⟩
theorem okX7_next : zckM RX7 false cX7_next 1 0 kX7_next = true := by decide +kernel
set_option maxRecDepth 100000 in
theorem mwX7_lookAtNumber : zmk 1 (yX7_lookAtNumber, cX7_lookAtNumber, 2, none, kX7_lookAtNumber) := ⟨tb2 (List.mem_of_getElem? (i := 190) rfl), tb1 (List.mem_of_getElem? (i := 4) rfl), ⟨tb2 (List.mem_of_getElem? (i := 189) rfl), tb0 (List.mem_of_getElem? (i := 5) rfl)⟩, by decide +kernel, by decide, by decide⟩
theorem okX7_lookAtNumber : zckM RX7 false cX7_lookAtNumber 2 0 kX7_lookAtNumber = true := by decide +kernel
set_option maxRecDepth 100000 in
theorem mwX7_isFigure : zmk 0 (yX7_isFigure, cX7_isFigure, 1, (some .boolean), kX7_isFigure) := ⟨tb2 (List.mem_of_getElem? (i := 186) rfl), tb1 (List.mem_of_getElem? (i := 4) rfl), tb2 (List.mem_of_getElem? (i := 185) rfl), by decide +kernel, by decide, by decide⟩
theorem okX7_isFigure : zckM RX7 false cX7_isFigure 1 0 kX7_isFigure = true := by decide +kernel
set_option maxRecDepth 100000 in
theorem mwX8_init : zmk 2 (yX8_init, cX8_init, 1, none, kX8_init) := ⟨tb1 (List.mem_of_getElem? (i := 18) rfl), tb1 (List.mem_of_getElem? (i := 1) rfl), ⟨tb1 (List.mem_of_getElem? (i := 17) rfl), rfl, rfl⟩, by decide +kernel, by decide, by decide⟩
theorem okX8_init : zckM RX8 true cX8_init 1 0 kX8_init = true := by decide +kernel
set_option maxRecDepth 100000 in
theorem mwX8_row : zmk 1 (yX8_row, cX8_row, 4, (some .int), kX8_row) := ⟨tb2 (List.mem_of_getElem? (i := 86) rfl), tb1 (List.mem_of_getElem? (i := 1) rfl), ⟨tb2 (List.mem_of_getElem? (i := 84) rfl), tb2 (List.mem_of_getElem? (i := 85) rfl)⟩, by decide +kernel, by decide, by decide⟩
theorem okX8_row : zckM RX8 false cX8_row 4 0 kX8_row = true := by decide +kernel
set_option maxRecDepth 100000 in
theorem mwX8_set : zmk 1 (yX8_set, cX8_set, 5, (some .int), kX8_set) := ⟨tb2 (List.mem_of_getElem? (i := 111) rfl), tb1 (List.mem_of_getElem? (i := 1) rfl), ⟨tb2 (List.mem_of_getElem? (i := 109) rfl), tb2 (List.mem_of_getElem? (i := 110) rfl)⟩, by decide +kernel, by decide, by decide⟩
theorem okX8_set : zckM RX8 false cX8_set 5 0 kX8_set = true := by decide +kernel
set_option maxRecDepth 100000 in
theorem mwX8_copy : zmk 1 (yX8_copy, cX8_copy, 7, (some .int), kX8_copy) := ⟨tb2 (List.mem_of_getElem? (i := 134) rfl), tb1 (List.mem_of_getElem? (i := 1) rfl), ⟨tb2 (List.mem_of_getElem? (i := 132) rfl), tb2 (List.mem_of_getElem? (i := 133) rfl)⟩, by decide +kernel, by decide, by decide⟩
theorem okX8_copy : zckM RX8 false cX8_copy 7 0 kX8_copy = true := by decide +kernel
set_option maxRecDepth 100000 in
theorem mwX8_drop : zmk 1 (yX8_drop, cX8_drop, 2, (some .int), kX8_drop) := ⟨tb2 (List.mem_of_getElem? (i := 149) rfl), tb1 (List.mem_of_getElem? (i := 1) rfl), ⟨tb2 (List.mem_of_getElem? (i := 147) rfl), tb2 (List.mem_of_getElem? (i := 148) rfl)⟩, by decide +kernel, by decide, by decide⟩
theorem okX8_drop : zckM RX8 false cX8_drop 2 0 kX8_drop = true := by decide +kernel
set_option maxRecDepth 100000 in
theorem mwX8_feed : zmk 1 (yX8_feed, cX8_feed, 2, (some .int), kX8_feed) := ⟨tb2 (List.mem_of_getElem? (i := 158) rfl), tb1 (List.mem_of_getElem? (i := 1) rfl), ⟨tb2 (List.mem_of_getElem? (i := 156) rfl), tb2 (List.mem_of_getElem? (i := 157) rfl)⟩, by decide +kernel, by decide, by decide⟩
theorem okX8_feed : zckM RX8 false cX8_feed 2 0 kX8_feed = true := by decide +kernel
set_option maxRecDepth 100000 in
theorem mwX8_circuit : zmk 1 (yX8_circuit, cX8_circuit, 2, (some .int), kX8_circuit) := ⟨tb2 (List.mem_of_getElem? (i := 171) rfl), tb1 (List.mem_of_getElem? (i := 1) rfl), ⟨tb2 (List.mem_of_getElem? (i := 169) rfl), tb2 (List.mem_of_getElem? (i := 170) rfl)⟩, by decide +kernel, by decide, by decide⟩
theorem okX8_circuit : zckM RX8 false cX8_circuit 2 0 kX8_circuit = true := by decide +kernel
set_option maxRecDepth 100000 in
theorem mwX8_fault : zmk 1 (yX8_fault, cX8_fault, 1, (some .int), kX8_fault) := ⟨tb3 (List.mem_of_getElem? (i := 17) rfl), tb1 (List.mem_of_getElem? (i := 1) rfl), ⟨tb3 (List.mem_of_getElem? (i := 15) rfl), tb3 (List.mem_of_getElem? (i := 16) rfl)⟩, by decide +kernel, by decide, by decide⟩
theorem okX8_fault : zckM RX8 false cX8_fault 1 0 kX8_fault = true := by decide +kernel
set_option maxRecDepth 100000 in
theorem mwX8_undo : zmk 1 (yX8_undo, cX8_undo, 1, (some .int), kX8_undo) := ⟨tb3 (List.mem_of_getElem? (i := 25) rfl), tb1 (List.mem_of_getElem? (i := 1) rfl), ⟨tb3 (List.mem_of_getElem? (i := 23) rfl), tb3 (List.mem_of_getElem? (i := 24) rfl)⟩, by decide +kernel, by decide, by decide⟩
theorem okX8_undo : zckM RX8 false cX8_undo 1 0 kX8_undo = true := by decide +kernel
set_option maxRecDepth 100000 in
theorem mwX8_years : zmk 1 (yX8_years, cX8_years, 3, (some .int), kX8_years) := ⟨tb3 (List.mem_of_getElem? (i := 46) rfl), tb1 (List.mem_of_getElem? (i := 1) rfl), ⟨tb3 (List.mem_of_getElem? (i := 44) rfl), tb3 (List.mem_of_getElem? (i := 45) rfl)⟩, by decide +kernel, by decide, by decide⟩
theorem okX8_years : zckM RX8 false cX8_years 3 0 kX8_years = true := by decide +kernel
set_option maxRecDepth 100000 in
theorem mwX8_send : zmk 1 (yX8_send, cX8_send, 4, (some .int), kX8_send) := ⟨tb3 (List.mem_of_getElem? (i := 96) rfl), tb1 (List.mem_of_getElem? (i := 1) rfl), ⟨tb3 (List.mem_of_getElem? (i := 94) rfl), tb3 (List.mem_of_getElem? (i := 95) rfl)⟩, by decide +kernel, by decide, by decide⟩
theorem okX8_send : zckM RX8 false cX8_send 4 0 kX8_send = true := by decide +kernel
set_option maxRecDepth 100000 in
theorem mwX8_sentence : zmk 1 (yX8_sentence, cX8_sentence, 4, (some .int), kX8_sentence) := ⟨tb3 (List.mem_of_getElem? (i := 102) rfl), tb1 (List.mem_of_getElem? (i := 1) rfl), ⟨tb3 (List.mem_of_getElem? (i := 100) rfl), tb3 (List.mem_of_getElem? (i := 101) rfl)⟩, by decide +kernel, by decide, by decide⟩
theorem okX8_sentence : zckM RX8 false cX8_sentence 4 0 kX8_sentence = true := by decide +kernel
set_option maxRecDepth 100000 in
theorem mwX8_gate : zmk 1 (yX8_gate, cX8_gate, 4, (some .int), kX8_gate) := ⟨tb3 (List.mem_of_getElem? (i := 110) rfl), tb1 (List.mem_of_getElem? (i := 1) rfl), ⟨tb3 (List.mem_of_getElem? (i := 108) rfl), tb3 (List.mem_of_getElem? (i := 109) rfl)⟩, by decide +kernel, by decide, by decide⟩
theorem okX8_gate : zckM RX8 false cX8_gate 4 0 kX8_gate = true := by decide +kernel
set_option maxRecDepth 100000 in
theorem mwX8_severe : zmk 1 (yX8_severe, cX8_severe, 4, (some .int), kX8_severe) := ⟨tb3 (List.mem_of_getElem? (i := 114) rfl), tb1 (List.mem_of_getElem? (i := 1) rfl), ⟨tb3 (List.mem_of_getElem? (i := 112) rfl), tb3 (List.mem_of_getElem? (i := 113) rfl)⟩, by decide +kernel, by decide, by decide⟩
theorem okX8_severe : zckM RX8 false cX8_severe 4 0 kX8_severe = true := by decide +kernel
set_option maxRecDepth 100000 in
theorem mwX8_retry : zmk 1 (yX8_retry, cX8_retry, 4, (some .int), kX8_retry) := ⟨tb3 (List.mem_of_getElem? (i := 118) rfl), tb1 (List.mem_of_getElem? (i := 1) rfl), ⟨tb3 (List.mem_of_getElem? (i := 116) rfl), tb3 (List.mem_of_getElem? (i := 117) rfl)⟩, by decide +kernel, by decide, by decide⟩
theorem okX8_retry : zckM RX8 false cX8_retry 4 0 kX8_retry = true := by decide +kernel
set_option maxRecDepth 100000 in
theorem mwX8_man : zmk 1 (yX8_man, cX8_man, 3, (some .int), kX8_man) := ⟨tb3 (List.mem_of_getElem? (i := 126) rfl), tb1 (List.mem_of_getElem? (i := 1) rfl), ⟨tb3 (List.mem_of_getElem? (i := 124) rfl), tb3 (List.mem_of_getElem? (i := 125) rfl)⟩, by decide +kernel, by decide, by decide⟩
theorem okX8_man : zckM RX8 false cX8_man 3 0 kX8_man = true := by decide +kernel
set_option maxRecDepth 100000 in
theorem mwX8_judge : zmk 1 (yX8_judge, cX8_judge, 3, (some .int), kX8_judge) := ⟨tb3 (List.mem_of_getElem? (i := 131) rfl), tb1 (List.mem_of_getElem? (i := 1) rfl), ⟨tb3 (List.mem_of_getElem? (i := 129) rfl), tb3 (List.mem_of_getElem? (i := 130) rfl)⟩, by decide +kernel, by decide, by decide⟩
theorem okX8_judge : zckM RX8 false cX8_judge 3 0 kX8_judge = true := by decide +kernel
set_option maxRecDepth 100000 in
theorem mwX8_stand : zmk 1 (yX8_stand, cX8_stand, 2, (some .int), kX8_stand) := ⟨tb3 (List.mem_of_getElem? (i := 144) rfl), tb1 (List.mem_of_getElem? (i := 1) rfl), ⟨tb3 (List.mem_of_getElem? (i := 142) rfl), tb3 (List.mem_of_getElem? (i := 143) rfl)⟩, by decide +kernel, by decide, by decide⟩
theorem okX8_stand : zckM RX8 false cX8_stand 2 0 kX8_stand = true := by decide +kernel
set_option maxRecDepth 100000 in
theorem mwX8_ahead : zmk 1 (yX8_ahead, cX8_ahead, 5, (some .int), kX8_ahead) := ⟨tb3 (List.mem_of_getElem? (i := 148) rfl), tb1 (List.mem_of_getElem? (i := 1) rfl), ⟨tb3 (List.mem_of_getElem? (i := 146) rfl), tb3 (List.mem_of_getElem? (i := 147) rfl)⟩, by decide +kernel, by decide, by decide⟩
theorem okX8_ahead : zckM RX8 false cX8_ahead 5 0 kX8_ahead = true := by decide +kernel
set_option maxRecDepth 100000 in
theorem mwX8_by : zmk 1 (yX8_by, cX8_by, 3, (some .int), kX8_by) := ⟨tb3 (List.mem_of_getElem? (i := 158) rfl), tb1 (List.mem_of_getElem? (i := 1) rfl), ⟨tb3 (List.mem_of_getElem? (i := 156) rfl), tb3 (List.mem_of_getElem? (i := 157) rfl)⟩, by decide +kernel, by decide, by decide⟩
theorem okX8_by : zckM RX8 false cX8_by 3 0 kX8_by = true := by decide +kernel
set_option maxRecDepth 100000 in
theorem mwX8_when : zmk 1 (yX8_when, cX8_when, 3, (some .int), kX8_when) := ⟨tb3 (List.mem_of_getElem? (i := 162) rfl), tb1 (List.mem_of_getElem? (i := 1) rfl), ⟨tb3 (List.mem_of_getElem? (i := 160) rfl), tb3 (List.mem_of_getElem? (i := 161) rfl)⟩, by decide +kernel, by decide, by decide⟩
theorem okX8_when : zckM RX8 false cX8_when 3 0 kX8_when = true := by decide +kernel
set_option maxRecDepth 100000 in
theorem mwX8_sending : zmk 1 (yX8_sending, cX8_sending, 3, (some .int), kX8_sending) := ⟨tb3 (List.mem_of_getElem? (i := 172) rfl), tb1 (List.mem_of_getElem? (i := 1) rfl), ⟨tb3 (List.mem_of_getElem? (i := 170) rfl), tb3 (List.mem_of_getElem? (i := 171) rfl)⟩, by decide +kernel, by decide, by decide⟩
theorem okX8_sending : zckM RX8 false cX8_sending 3 0 kX8_sending = true := by decide +kernel
set_option maxRecDepth 100000 in
theorem mwX8_gates : zmk 1 (yX8_gates, cX8_gates, 3, (some .int), kX8_gates) := ⟨tb3 (List.mem_of_getElem? (i := 215) rfl), tb1 (List.mem_of_getElem? (i := 1) rfl), ⟨tb3 (List.mem_of_getElem? (i := 213) rfl), tb3 (List.mem_of_getElem? (i := 214) rfl)⟩, by decide +kernel, by decide, by decide⟩
theorem okX8_gates : zckM RX8 false cX8_gates 3 0 kX8_gates = true := by decide +kernel
set_option maxRecDepth 100000 in
theorem mwX8_let : zmk 1 (yX8_let, cX8_let, 3, (some .int), kX8_let) := ⟨tb3 (List.mem_of_getElem? (i := 235) rfl), tb1 (List.mem_of_getElem? (i := 1) rfl), ⟨tb3 (List.mem_of_getElem? (i := 233) rfl), tb3 (List.mem_of_getElem? (i := 234) rfl)⟩, by decide +kernel, by decide, by decide⟩
theorem okX8_let : zckM RX8 false cX8_let 3 0 kX8_let = true := by decide +kernel
set_option maxRecDepth 100000 in
theorem mwX8_closest : zmk 1 (yX8_closest, cX8_closest, 4, (some .int), kX8_closest) := ⟨tb4 (List.mem_of_getElem? (i := 17) rfl), tb1 (List.mem_of_getElem? (i := 1) rfl), ⟨tb4 (List.mem_of_getElem? (i := 15) rfl), tb4 (List.mem_of_getElem? (i := 16) rfl)⟩, by decide +kernel, by decide, by decide⟩
theorem okX8_closest : zckM RX8 false cX8_closest 4 0 kX8_closest = true := by decide +kernel
set_option maxRecDepth 100000 in
theorem mwX8_share : zmk 1 (yX8_share, cX8_share, 3, (some .int), kX8_share) := ⟨tb4 (List.mem_of_getElem? (i := 26) rfl), tb1 (List.mem_of_getElem? (i := 1) rfl), ⟨tb4 (List.mem_of_getElem? (i := 24) rfl), tb4 (List.mem_of_getElem? (i := 25) rfl)⟩, by decide +kernel, by decide, by decide⟩
theorem okX8_share : zckM RX8 false cX8_share 3 0 kX8_share = true := by decide +kernel
set_option maxRecDepth 100000 in
theorem mwX8_byTurns : zmk 1 (yX8_byTurns, cX8_byTurns, 5, (some .int), kX8_byTurns) := ⟨tb4 (List.mem_of_getElem? (i := 34) rfl), tb1 (List.mem_of_getElem? (i := 1) rfl), ⟨tb4 (List.mem_of_getElem? (i := 32) rfl), tb4 (List.mem_of_getElem? (i := 33) rfl)⟩, by decide +kernel, by decide, by decide⟩
theorem okX8_byTurns : zckM RX8 false cX8_byTurns 5 0 kX8_byTurns = true := by decide +kernel
set_option maxRecDepth 100000 in
theorem mwX8_who : zmk 1 (yX8_who, cX8_who, 7, (some .int), kX8_who) := ⟨tb4 (List.mem_of_getElem? (i := 53) rfl), tb1 (List.mem_of_getElem? (i := 1) rfl), ⟨tb4 (List.mem_of_getElem? (i := 51) rfl), tb4 (List.mem_of_getElem? (i := 52) rfl)⟩, by decide +kernel, by decide, by decide⟩
theorem okX8_who : zckM RX8 false cX8_who 7 0 kX8_who = true := by decide +kernel
set_option maxRecDepth 100000 in
theorem mwX8_severes : zmk 1 (yX8_severes, cX8_severes, 7, (some .int), kX8_severes) := ⟨tb4 (List.mem_of_getElem? (i := 99) rfl), tb1 (List.mem_of_getElem? (i := 1) rfl), ⟨tb4 (List.mem_of_getElem? (i := 97) rfl), tb4 (List.mem_of_getElem? (i := 98) rfl)⟩, by decide +kernel, by decide, by decide⟩
theorem okX8_severes : zckM RX8 false cX8_severes 7 0 kX8_severes = true := by decide +kernel
set_option maxRecDepth 100000 in
theorem mwX8_likes : zmk 1 (yX8_likes, cX8_likes, 7, (some .int), kX8_likes) := ⟨tb4 (List.mem_of_getElem? (i := 103) rfl), tb1 (List.mem_of_getElem? (i := 1) rfl), ⟨tb4 (List.mem_of_getElem? (i := 101) rfl), tb4 (List.mem_of_getElem? (i := 102) rfl)⟩, by decide +kernel, by decide, by decide⟩
theorem okX8_likes : zckM RX8 false cX8_likes 7 0 kX8_likes = true := by decide +kernel
set_option maxRecDepth 100000 in
theorem mwX8_fence : zmk 1 (yX8_fence, cX8_fence, 5, (some .long), kX8_fence) := ⟨tb4 (List.mem_of_getElem? (i := 107) rfl), tb1 (List.mem_of_getElem? (i := 1) rfl), ⟨tb4 (List.mem_of_getElem? (i := 105) rfl), tb4 (List.mem_of_getElem? (i := 106) rfl)⟩, by decide +kernel, by decide, by decide⟩
theorem okX8_fence : zckM RX8 false cX8_fence 5 0 kX8_fence = true := by decide +kernel
set_option maxRecDepth 100000 in
theorem mwX8_drawn : zmk 1 (yX8_drawn, cX8_drawn, 5, (some .int), kX8_drawn) := ⟨tb4 (List.mem_of_getElem? (i := 134) rfl), tb1 (List.mem_of_getElem? (i := 1) rfl), ⟨tb4 (List.mem_of_getElem? (i := 132) rfl), tb4 (List.mem_of_getElem? (i := 133) rfl)⟩, by decide +kernel, by decide, by decide⟩
theorem okX8_drawn : zckM RX8 false cX8_drawn 5 0 kX8_drawn = true := by decide +kernel
set_option maxRecDepth 100000 in
theorem mwX8_image : zmk 1 (yX8_image, cX8_image, 2, (some .int), kX8_image) := ⟨tb4 (List.mem_of_getElem? (i := 155) rfl), tb1 (List.mem_of_getElem? (i := 1) rfl), ⟨tb4 (List.mem_of_getElem? (i := 153) rfl), tb4 (List.mem_of_getElem? (i := 154) rfl)⟩, by decide +kernel, by decide, by decide⟩
theorem okX8_image : zckM RX8 false cX8_image 2 0 kX8_image = true := by decide +kernel
set_option maxRecDepth 100000 in
theorem mwX8_restore : zmk 1 (yX8_restore, cX8_restore, 2, (some .int), kX8_restore) := ⟨tb4 (List.mem_of_getElem? (i := 159) rfl), tb1 (List.mem_of_getElem? (i := 1) rfl), ⟨tb4 (List.mem_of_getElem? (i := 157) rfl), tb4 (List.mem_of_getElem? (i := 158) rfl)⟩, by decide +kernel, by decide, by decide⟩
theorem okX8_restore : zckM RX8 false cX8_restore 2 0 kX8_restore = true := by decide +kernel
set_option maxRecDepth 100000 in
theorem mwX8_kind : zmk 1 (yX8_kind, cX8_kind, 2, (some .int), kX8_kind) := ⟨tb4 (List.mem_of_getElem? (i := 163) rfl), tb1 (List.mem_of_getElem? (i := 1) rfl), ⟨tb4 (List.mem_of_getElem? (i := 161) rfl), tb4 (List.mem_of_getElem? (i := 162) rfl)⟩, by decide +kernel, by decide, by decide⟩
theorem okX8_kind : zckM RX8 false cX8_kind 2 0 kX8_kind = true := by decide +kernel
set_option maxRecDepth 100000 in
theorem mwX8_as : zmk 1 (yX8_as, cX8_as, 3, (some .int), kX8_as) := ⟨tb4 (List.mem_of_getElem? (i := 167) rfl), tb1 (List.mem_of_getElem? (i := 1) rfl), ⟨tb4 (List.mem_of_getElem? (i := 165) rfl), tb4 (List.mem_of_getElem? (i := 166) rfl)⟩, by decide +kernel, by decide, by decide⟩
theorem okX8_as : zckM RX8 false cX8_as 3 0 kX8_as = true := by decide +kernel
set_option maxRecDepth 100000 in
theorem mwX8_ask : zmk 1 (yX8_ask, cX8_ask, 3, (some .int), kX8_ask) := ⟨tb4 (List.mem_of_getElem? (i := 176) rfl), tb1 (List.mem_of_getElem? (i := 1) rfl), ⟨tb4 (List.mem_of_getElem? (i := 174) rfl), tb4 (List.mem_of_getElem? (i := 175) rfl)⟩, by decide +kernel, by decide, by decide⟩
theorem okX8_ask : zckM RX8 false cX8_ask 3 0 kX8_ask = true := by decide +kernel
set_option maxRecDepth 100000 in
theorem mwX8_trace : zmk 1 (yX8_trace, cX8_trace, 2, (some .int), kX8_trace) := ⟨tb4 (List.mem_of_getElem? (i := 206) rfl), tb1 (List.mem_of_getElem? (i := 1) rfl), ⟨tb4 (List.mem_of_getElem? (i := 204) rfl), tb4 (List.mem_of_getElem? (i := 205) rfl)⟩, by decide +kernel, by decide, by decide⟩
theorem okX8_trace : zckM RX8 false cX8_trace 2 0 kX8_trace = true := by decide +kernel
set_option maxRecDepth 100000 in
theorem mwX8_count : zmk 1 (yX8_count, cX8_count, 2, (some .int), kX8_count) := ⟨tb4 (List.mem_of_getElem? (i := 215) rfl), tb1 (List.mem_of_getElem? (i := 1) rfl), ⟨tb4 (List.mem_of_getElem? (i := 213) rfl), tb4 (List.mem_of_getElem? (i := 214) rfl)⟩, by decide +kernel, by decide, by decide⟩
theorem okX8_count : zckM RX8 false cX8_count 2 0 kX8_count = true := by decide +kernel
set_option maxRecDepth 100000 in
theorem mwX8_status : zmk 1 (yX8_status, cX8_status, 1, (some .int), kX8_status) := ⟨tb4 (List.mem_of_getElem? (i := 228) rfl), tb1 (List.mem_of_getElem? (i := 1) rfl), ⟨tb4 (List.mem_of_getElem? (i := 226) rfl), tb4 (List.mem_of_getElem? (i := 227) rfl)⟩, by decide +kernel, by decide, by decide⟩
theorem okX8_status : zckM RX8 false cX8_status 1 0 kX8_status = true := by decide +kernel
set_option maxRecDepth 100000 in
theorem mwX8_hasCircuit : zmk 1 (yX8_hasCircuit, cX8_hasCircuit, 1, (some .boolean), kX8_hasCircuit) := ⟨tb3 (List.mem_of_getElem? (i := 50) rfl), tb1 (List.mem_of_getElem? (i := 1) rfl), ⟨tb3 (List.mem_of_getElem? (i := 49) rfl), tb0 (List.mem_of_getElem? (i := 16) rfl)⟩, by decide +kernel, by decide, by decide⟩
theorem okX8_hasCircuit : zckM RX8 false cX8_hasCircuit 1 0 kX8_hasCircuit = true := by decide +kernel
set_option maxRecDepth 100000 in
theorem mwX8_isToldRow : zmk 1 (yX8_isToldRow, cX8_isToldRow, 3, (some .boolean), kX8_isToldRow) := ⟨tb4 (List.mem_of_getElem? (i := 57) rfl), tb1 (List.mem_of_getElem? (i := 1) rfl), ⟨tb4 (List.mem_of_getElem? (i := 56) rfl), tb0 (List.mem_of_getElem? (i := 25) rfl)⟩, by decide +kernel, by decide, by decide⟩
theorem okX8_isToldRow : zckM RX8 false cX8_isToldRow 3 0 kX8_isToldRow = true := by decide +kernel
set_option maxRecDepth 100000 in
theorem mwX8_found : zmk 1 (yX8_found, cX8_found, 2, (some .int), kX8_found) := ⟨tb2 (List.mem_of_getElem? (i := 97) rfl), tb1 (List.mem_of_getElem? (i := 1) rfl), ⟨tb2 (List.mem_of_getElem? (i := 96) rfl), tb0 (List.mem_of_getElem? (i := 0) rfl)⟩, by decide +kernel, by decide, by decide⟩
theorem okX8_found : zckM RX8 false cX8_found 2 0 kX8_found = true := by decide +kernel
set_option maxRecDepth 100000 in
theorem mwX8_foundNothing : zmk 1 (yX8_foundNothing, cX8_foundNothing, 2, (some .int), kX8_foundNothing) := ⟨tb2 (List.mem_of_getElem? (i := 107) rfl), tb1 (List.mem_of_getElem? (i := 1) rfl), ⟨tb2 (List.mem_of_getElem? (i := 106) rfl), tb0 (List.mem_of_getElem? (i := 1) rfl)⟩, by decide +kernel, by decide, by decide⟩
theorem okX8_foundNothing : zckM RX8 false cX8_foundNothing 2 0 kX8_foundNothing = true := by decide +kernel
set_option maxRecDepth 100000 in
theorem mwX8_isWithin : zmk 0 (yX8_isWithin, cX8_isWithin, 3, (some .boolean), kX8_isWithin) := ⟨tb2 (List.mem_of_getElem? (i := 92) rfl), tb1 (List.mem_of_getElem? (i := 1) rfl), tb2 (List.mem_of_getElem? (i := 91) rfl), by decide +kernel, by decide, by decide⟩
theorem okX8_isWithin : zckM RX8 false cX8_isWithin 3 0 kX8_isWithin = true := by decide +kernel
set_option maxRecDepth 100000 in
theorem mwX8_isOfKind : zmk 0 (yX8_isOfKind, cX8_isOfKind, 4, (some .boolean), kX8_isOfKind) := ⟨tb4 (List.mem_of_getElem? (i := 170) rfl), tb1 (List.mem_of_getElem? (i := 1) rfl), tb4 (List.mem_of_getElem? (i := 169) rfl), by decide +kernel, by decide, by decide⟩
theorem okX8_isOfKind : zckM RX8 false cX8_isOfKind 4 0 kX8_isOfKind = true := by decide +kernel
set_option maxRecDepth 100000 in
theorem mwX9_init : zmk 2 (yX9_init, cX9_init, 1, none, kX9_init) := ⟨tb4 (List.mem_of_getElem? (i := 233) rfl), tb1 (List.mem_of_getElem? (i := 10) rfl), ⟨tb4 (List.mem_of_getElem? (i := 232) rfl), rfl, rfl⟩, by decide +kernel, by decide, by decide⟩
theorem okX9_init : zckM RX9 true cX9_init 1 0 kX9_init = true := by decide +kernel
set_option maxRecDepth 100000 in
theorem mwX9_in : zmk 0 (yX9_in, cX9_in, 6, (some .boolean), kX9_in) := ⟨tb5 (List.mem_of_getElem? (i := 85) rfl), tb1 (List.mem_of_getElem? (i := 10) rfl), tb5 (List.mem_of_getElem? (i := 84) rfl), by decide +kernel, by decide, by decide⟩
theorem okX9_in : zckM RX9 false cX9_in 6 0 kX9_in = true := by decide +kernel
set_option maxRecDepth 100000 in
theorem mwX9_finding : zmk 1 (yX9_finding, cX9_finding, 2, (some .int), kX9_finding) := ⟨tb5 (List.mem_of_getElem? (i := 91) rfl), tb1 (List.mem_of_getElem? (i := 10) rfl), ⟨tb5 (List.mem_of_getElem? (i := 90) rfl), tb0 (List.mem_of_getElem? (i := 34) rfl)⟩, by decide +kernel, by decide, by decide⟩
theorem okX9_finding : zckM RX9 false cX9_finding 2 0 kX9_finding = true := by decide +kernel
set_option maxRecDepth 100000 in
theorem mwX9_isRow : zmk 0 (yX9_isRow, cX9_isRow, 1, (some .boolean), kX9_isRow) := ⟨tb5 (List.mem_of_getElem? (i := 81) rfl), tb1 (List.mem_of_getElem? (i := 10) rfl), tb5 (List.mem_of_getElem? (i := 80) rfl), by decide +kernel, by decide, by decide⟩
theorem okX9_isRow : zckM RX9 false cX9_isRow 1 0 kX9_isRow = true := by decide +kernel
set_option maxRecDepth 100000 in
theorem mwX9_row : zmk 1 (yX9_row, cX9_row, 5, (some .int), kX9_row) := ⟨tb5 (List.mem_of_getElem? (i := 78) rfl), tb1 (List.mem_of_getElem? (i := 10) rfl), ⟨tb5 (List.mem_of_getElem? (i := 76) rfl), tb5 (List.mem_of_getElem? (i := 77) rfl)⟩, by decide +kernel, by decide, by decide⟩
theorem okX9_row : zckM RX9 false cX9_row 5 0 kX9_row = true := by decide +kernel
set_option maxRecDepth 100000 in
theorem mwX9_set : zmk 1 (yX9_set, cX9_set, 4, (some .int), kX9_set) := ⟨tb5 (List.mem_of_getElem? (i := 96) rfl), tb1 (List.mem_of_getElem? (i := 10) rfl), ⟨tb5 (List.mem_of_getElem? (i := 94) rfl), tb5 (List.mem_of_getElem? (i := 95) rfl)⟩, by decide +kernel, by decide, by decide⟩
theorem okX9_set : zckM RX9 false cX9_set 4 0 kX9_set = true := by decide +kernel
set_option maxRecDepth 100000 in
theorem mwX9_copy : zmk 1 (yX9_copy, cX9_copy, 9, (some .int), kX9_copy) := ⟨tb5 (List.mem_of_getElem? (i := 100) rfl), tb1 (List.mem_of_getElem? (i := 10) rfl), ⟨tb5 (List.mem_of_getElem? (i := 98) rfl), tb5 (List.mem_of_getElem? (i := 99) rfl)⟩, by decide +kernel, by decide, by decide⟩
theorem okX9_copy : zckM RX9 false cX9_copy 9 0 kX9_copy = true := by decide +kernel
set_option maxRecDepth 100000 in
theorem mwX9_drop : zmk 1 (yX9_drop, cX9_drop, 2, (some .int), kX9_drop) := ⟨tb5 (List.mem_of_getElem? (i := 104) rfl), tb1 (List.mem_of_getElem? (i := 10) rfl), ⟨tb5 (List.mem_of_getElem? (i := 102) rfl), tb5 (List.mem_of_getElem? (i := 103) rfl)⟩, by decide +kernel, by decide, by decide⟩
theorem okX9_drop : zckM RX9 false cX9_drop 2 0 kX9_drop = true := by decide +kernel
