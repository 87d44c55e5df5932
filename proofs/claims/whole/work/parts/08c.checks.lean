set_option maxRecDepth 100000 in
theorem mwX9_feed : zmk 1 (yX9_feed, cX9_feed, 2, (some .int), kX9_feed) := ⟨tb5 (List.mem_of_getElem? (i := 108) rfl), tb1 (List.mem_of_getElem? (i := 10) rfl), ⟨tb5 (List.mem_of_getElem? (i := 106) rfl), tb5 (List.mem_of_getElem? (i := 107) rfl)⟩, by decide +kernel, by decide, by decide⟩
theorem okX9_feed : zckM RX9 false cX9_feed 2 0 kX9_feed = true := by decide +kernel
set_option maxRecDepth 100000 in
theorem mwX9_bad : zmk 1 (yX9_bad, cX9_bad, 2, none, kX9_bad) := ⟨tb5 (List.mem_of_getElem? (i := 143) rfl), tb1 (List.mem_of_getElem? (i := 10) rfl), ⟨tb5 (List.mem_of_getElem? (i := 142) rfl), tb0 (List.mem_of_getElem? (i := 39) rfl)⟩, by decide +kernel, by decide, by decide⟩
theorem okX9_bad : zckM RX9 false cX9_bad 2 0 kX9_bad = true := by decide +kernel
set_option maxRecDepth 100000 in
theorem mwX9_nextToken : zmk 1 (yX9_nextToken, cX9_nextToken, 1, none, kX9_nextToken) := ⟨tb5 (List.mem_of_getElem? (i := 126) rfl), tb1 (List.mem_of_getElem? (i := 10) rfl), ⟨tb5 (List.mem_of_getElem? (i := 125) rfl), tb0 (List.mem_of_getElem? (i := 36) rfl)⟩, by decide +kernel, by decide, by decide⟩
theorem okX9_nextToken : zckM RX9 false cX9_nextToken 1 0 kX9_nextToken = true := by decide +kernel
set_option maxRecDepth 100000 in
theorem mwX9_must : zmk 1 (yX9_must, cX9_must, 2, none, kX9_must) := ⟨tb5 (List.mem_of_getElem? (i := 139) rfl), tb1 (List.mem_of_getElem? (i := 10) rfl), ⟨tb5 (List.mem_of_getElem? (i := 138) rfl), tb0 (List.mem_of_getElem? (i := 38) rfl)⟩, by decide +kernel, by decide, by decide⟩
theorem okX9_must : zckM RX9 false cX9_must 2 0 kX9_must = true := by decide +kernel
set_option maxRecDepth 100000 in
theorem mwX9_isLetter : zmk 1 (yX9_isLetter, cX9_isLetter, 2, (some .boolean), kX9_isLetter) := ⟨tb5 (List.mem_of_getElem? (i := 135) rfl), tb1 (List.mem_of_getElem? (i := 10) rfl), ⟨tb5 (List.mem_of_getElem? (i := 134) rfl), tb0 (List.mem_of_getElem? (i := 37) rfl)⟩, by decide +kernel, by decide, by decide⟩
theorem okX9_isLetter : zckM RX9 false cX9_isLetter 2 0 kX9_isLetter = true := by decide +kernel
set_option maxRecDepth 100000 in
theorem mwX9_number : zmk 1 (yX9_number, cX9_number, 4, (some .int), kX9_number) := ⟨tb5 (List.mem_of_getElem? (i := 147) rfl), tb1 (List.mem_of_getElem? (i := 10) rfl), ⟨tb5 (List.mem_of_getElem? (i := 146) rfl), tb0 (List.mem_of_getElem? (i := 40) rfl)⟩, by decide +kernel, by decide, by decide⟩
theorem okX9_number : zckM RX9 false cX9_number 4 0 kX9_number = true := by decide +kernel
set_option maxRecDepth 100000 in
theorem mwX9_mustSign : zmk 1 (yX9_mustSign, cX9_mustSign, 2, none, kX9_mustSign) := ⟨tb5 (List.mem_of_getElem? (i := 151) rfl), tb1 (List.mem_of_getElem? (i := 10) rfl), ⟨tb5 (List.mem_of_getElem? (i := 150) rfl), tb0 (List.mem_of_getElem? (i := 41) rfl)⟩, by decide +kernel, by decide, by decide⟩
theorem okX9_mustSign : zckM RX9 false cX9_mustSign 2 0 kX9_mustSign = true := by decide +kernel
set_option maxRecDepth 100000 in
theorem mwX9_begin : zmk 1 (yX9_begin, cX9_begin, 1, none, kX9_begin) := ⟨tb5 (List.mem_of_getElem? (i := 122) rfl), tb1 (List.mem_of_getElem? (i := 10) rfl), ⟨tb5 (List.mem_of_getElem? (i := 121) rfl), tb0 (List.mem_of_getElem? (i := 35) rfl)⟩, by decide +kernel, by decide, by decide⟩
theorem okX9_begin : zckM RX9 false cX9_begin 1 0 kX9_begin = true := by decide +kernel
set_option maxRecDepth 100000 in
theorem mwX9_failed : zmk 1 (yX9_failed, cX9_failed, 1, (some .boolean), kX9_failed) := ⟨tb5 (List.mem_of_getElem? (i := 170) rfl), tb1 (List.mem_of_getElem? (i := 10) rfl), ⟨tb5 (List.mem_of_getElem? (i := 169) rfl), tb0 (List.mem_of_getElem? (i := 45) rfl)⟩, by decide +kernel, by decide, by decide⟩
theorem okX9_failed : zckM RX9 false cX9_failed 1 0 kX9_failed = true := by decide +kernel
set_option maxRecDepth 100000 in
theorem mwX9_fault : zmk 1 (yX9_fault, cX9_fault, 1, (some .int), kX9_fault) := ⟨tb5 (List.mem_of_getElem? (i := 114) rfl), tb1 (List.mem_of_getElem? (i := 10) rfl), ⟨tb5 (List.mem_of_getElem? (i := 112) rfl), tb5 (List.mem_of_getElem? (i := 113) rfl)⟩, by decide +kernel, by decide, by decide⟩
theorem okX9_fault : zckM RX9 false cX9_fault 1 0 kX9_fault = true := by decide +kernel
set_option maxRecDepth 100000 in
theorem mwX9_kindBy : zmk 0 (yX9_kindBy, cX9_kindBy, 1, (some .int), kX9_kindBy) := ⟨tb5 (List.mem_of_getElem? (i := 162) rfl), tb1 (List.mem_of_getElem? (i := 10) rfl), tb5 (List.mem_of_getElem? (i := 161) rfl), by decide +kernel, by decide, by decide⟩
theorem okX9_kindBy : zckM RX9 false cX9_kindBy 1 0 kX9_kindBy = true := by decide +kernel
set_option maxRecDepth 100000 in
theorem mwX9_isSort : zmk 1 (yX9_isSort, cX9_isSort, 1, (some .boolean), kX9_isSort) := ⟨tb5 (List.mem_of_getElem? (i := 159) rfl), tb1 (List.mem_of_getElem? (i := 10) rfl), ⟨tb5 (List.mem_of_getElem? (i := 158) rfl), tb0 (List.mem_of_getElem? (i := 43) rfl)⟩, by decide +kernel, by decide, by decide⟩
theorem okX9_isSort : zckM RX9 false cX9_isSort 1 0 kX9_isSort = true := by decide +kernel
set_option maxRecDepth 100000 in
theorem mwX9_readJudge : zmk 1 (yX9_readJudge, cX9_readJudge, 3, none, kX9_readJudge) := ⟨tb5 (List.mem_of_getElem? (i := 155) rfl), tb1 (List.mem_of_getElem? (i := 10) rfl), ⟨tb5 (List.mem_of_getElem? (i := 154) rfl), tb0 (List.mem_of_getElem? (i := 42) rfl)⟩, by decide +kernel, by decide, by decide⟩
theorem okX9_readJudge : zckM RX9 false cX9_readJudge 3 0 kX9_readJudge = true := by decide +kernel
set_option maxRecDepth 100000 in
theorem mwX9_readMan : zmk 1 (yX9_readMan, cX9_readMan, 5, none, kX9_readMan) := ⟨tb5 (List.mem_of_getElem? (i := 166) rfl), tb1 (List.mem_of_getElem? (i := 10) rfl), ⟨tb5 (List.mem_of_getElem? (i := 165) rfl), tb0 (List.mem_of_getElem? (i := 44) rfl)⟩, by decide +kernel, by decide, by decide⟩
theorem okX9_readMan : zckM RX9 false cX9_readMan 5 0 kX9_readMan = true := by decide +kernel
set_option maxRecDepth 100000 in
theorem mwX9_circuit : zmk 1 (yX9_circuit, cX9_circuit, 2, (some .int), kX9_circuit) := ⟨tb5 (List.mem_of_getElem? (i := 118) rfl), tb1 (List.mem_of_getElem? (i := 10) rfl), ⟨tb5 (List.mem_of_getElem? (i := 116) rfl), tb5 (List.mem_of_getElem? (i := 117) rfl)⟩, by decide +kernel, by decide, by decide⟩
theorem okX9_circuit : zckM RX9 false cX9_circuit 2 0 kX9_circuit = true := by decide +kernel
set_option maxRecDepth 100000 in
theorem mwX9_isThere : zmk 1 (yX9_isThere, cX9_isThere, 1, (some .boolean), kX9_isThere) := ⟨tb5 (List.mem_of_getElem? (i := 179) rfl), tb1 (List.mem_of_getElem? (i := 10) rfl), ⟨tb5 (List.mem_of_getElem? (i := 178) rfl), tb0 (List.mem_of_getElem? (i := 46) rfl)⟩, by decide +kernel, by decide, by decide⟩
theorem okX9_isThere : zckM RX9 false cX9_isThere 1 0 kX9_isThere = true := by decide +kernel
set_option maxRecDepth 100000 in
theorem mwX9_isMan : zmk 1 (yX9_isMan, cX9_isMan, 2, (some .boolean), kX9_isMan) := ⟨tb5 (List.mem_of_getElem? (i := 217) rfl), tb1 (List.mem_of_getElem? (i := 10) rfl), ⟨tb5 (List.mem_of_getElem? (i := 216) rfl), tb0 (List.mem_of_getElem? (i := 48) rfl)⟩, by decide +kernel, by decide, by decide⟩
theorem okX9_isMan : zckM RX9 false cX9_isMan 2 0 kX9_isMan = true := by decide +kernel
set_option maxRecDepth 100000 in
theorem mwX9_isJudge : zmk 1 (yX9_isJudge, cX9_isJudge, 2, (some .boolean), kX9_isJudge) := ⟨tb5 (List.mem_of_getElem? (i := 221) rfl), tb1 (List.mem_of_getElem? (i := 10) rfl), ⟨tb5 (List.mem_of_getElem? (i := 220) rfl), tb0 (List.mem_of_getElem? (i := 49) rfl)⟩, by decide +kernel, by decide, by decide⟩
theorem okX9_isJudge : zckM RX9 false cX9_isJudge 2 0 kX9_isJudge = true := by decide +kernel
set_option maxRecDepth 100000 in
theorem mwX9_bits : zmk 0 (yX9_bits, cX9_bits, 3, (some .int), kX9_bits) := ⟨tb6 (List.mem_of_getElem? (i := 51) rfl), tb1 (List.mem_of_getElem? (i := 10) rfl), tb6 (List.mem_of_getElem? (i := 50) rfl), by decide +kernel, by decide, by decide⟩
theorem okX9_bits : zckM RX9 false cX9_bits 3 0 kX9_bits = true := by decide +kernel
set_option maxRecDepth 100000 in
theorem mwX9_has : zmk 0 (yX9_has, cX9_has, 2, (some .boolean), kX9_has) := ⟨tb6 (List.mem_of_getElem? (i := 61) rfl), tb1 (List.mem_of_getElem? (i := 10) rfl), tb6 (List.mem_of_getElem? (i := 60) rfl), by decide +kernel, by decide, by decide⟩
theorem okX9_has : zckM RX9 false cX9_has 2 0 kX9_has = true := by decide +kernel
set_option maxRecDepth 100000 in
theorem mwX9_of : zmk 0 (yX9_of, cX9_of, 3, (some .int), kX9_of) := ⟨tb5 (List.mem_of_getElem? (i := 194) rfl), tb1 (List.mem_of_getElem? (i := 10) rfl), tb5 (List.mem_of_getElem? (i := 193) rfl), by decide +kernel, by decide, by decide⟩
theorem okX9_of : zckM RX9 false cX9_of 3 0 kX9_of = true := by decide +kernel
set_option maxRecDepth 100000 in
theorem mwX9_be : zmk 0 (yX9_be, cX9_be, 4, none, kX9_be) := ⟨tb5 (List.mem_of_getElem? (i := 197) rfl), tb1 (List.mem_of_getElem? (i := 10) rfl), tb5 (List.mem_of_getElem? (i := 196) rfl), by decide +kernel, by decide, by decide⟩
theorem okX9_be : zckM RX9 false cX9_be 4 0 kX9_be = true := by decide +kernel
set_option maxRecDepth 100000 in
theorem mwX9_severeOf : zmk 0 (yX9_severeOf, cX9_severeOf, 2, (some .int), kX9_severeOf) := ⟨tb5 (List.mem_of_getElem? (i := 206) rfl), tb1 (List.mem_of_getElem? (i := 10) rfl), tb5 (List.mem_of_getElem? (i := 205) rfl), by decide +kernel, by decide, by decide⟩
theorem okX9_severeOf : zckM RX9 false cX9_severeOf 2 0 kX9_severeOf = true := by decide +kernel
set_option maxRecDepth 100000 in
theorem mwX9_isOpen : zmk 0 (yX9_isOpen, cX9_isOpen, 2, (some .boolean), kX9_isOpen) := ⟨tb5 (List.mem_of_getElem? (i := 203) rfl), tb1 (List.mem_of_getElem? (i := 10) rfl), tb5 (List.mem_of_getElem? (i := 202) rfl), by decide +kernel, by decide, by decide⟩
theorem okX9_isOpen : zckM RX9 false cX9_isOpen 2 0 kX9_isOpen = true := by decide +kernel
set_option maxRecDepth 100000 in
theorem mwX9_those : zmk 0 (yX9_those, cX9_those, 4, (some .int), kX9_those) := ⟨tb5 (List.mem_of_getElem? (i := 209) rfl), tb1 (List.mem_of_getElem? (i := 10) rfl), tb5 (List.mem_of_getElem? (i := 208) rfl), by decide +kernel, by decide, by decide⟩
theorem okX9_those : zckM RX9 false cX9_those 4 0 kX9_those = true := by decide +kernel
set_option maxRecDepth 100000 in
theorem mwX9_whoIsBy : zmk 0 (yX9_whoIsBy, cX9_whoIsBy, 3, (some .int), kX9_whoIsBy) := ⟨tb5 (List.mem_of_getElem? (i := 191) rfl), tb1 (List.mem_of_getElem? (i := 10) rfl), tb5 (List.mem_of_getElem? (i := 190) rfl), by decide +kernel, by decide, by decide⟩
theorem okX9_whoIsBy : zckM RX9 false cX9_whoIsBy 3 0 kX9_whoIsBy = true := by decide +kernel
set_option maxRecDepth 100000 in
theorem mwX9_gainOf : zmk 0 (yX9_gainOf, cX9_gainOf, 6, (some .int), kX9_gainOf) := ⟨tb5 (List.mem_of_getElem? (i := 200) rfl), tb1 (List.mem_of_getElem? (i := 10) rfl), tb5 (List.mem_of_getElem? (i := 199) rfl), by decide +kernel, by decide, by decide⟩
theorem okX9_gainOf : zckM RX9 false cX9_gainOf 6 0 kX9_gainOf = true := by decide +kernel
set_option maxRecDepth 100000 in
theorem mwX9_yearBy : zmk 0 (yX9_yearBy, cX9_yearBy, 5, none, kX9_yearBy) := ⟨tb5 (List.mem_of_getElem? (i := 188) rfl), tb1 (List.mem_of_getElem? (i := 10) rfl), tb5 (List.mem_of_getElem? (i := 187) rfl), by decide +kernel, by decide, by decide⟩
theorem okX9_yearBy : zckM RX9 false cX9_yearBy 5 0 kX9_yearBy = true := by decide +kernel
set_option maxRecDepth 100000 in
theorem mwX9_yearsOf : zmk 0 (yX9_yearsOf, cX9_yearsOf, 3, none, kX9_yearsOf) := ⟨tb6 (List.mem_of_getElem? (i := 35) rfl), tb1 (List.mem_of_getElem? (i := 10) rfl), tb6 (List.mem_of_getElem? (i := 34) rfl), by decide +kernel, by decide, by decide⟩
theorem okX9_yearsOf : zckM RX9 false cX9_yearsOf 3 0 kX9_yearsOf = true := by decide +kernel
set_option maxRecDepth 100000 in
theorem mwX9_trustOf : zmk 0 (yX9_trustOf, cX9_trustOf, 4, (some .int), kX9_trustOf) := ⟨tb6 (List.mem_of_getElem? (i := 54) rfl), tb1 (List.mem_of_getElem? (i := 10) rfl), tb6 (List.mem_of_getElem? (i := 53) rfl), by decide +kernel, by decide, by decide⟩
theorem okX9_trustOf : zckM RX9 false cX9_trustOf 4 0 kX9_trustOf = true := by decide +kernel
set_option maxRecDepth 100000 in
theorem mwX9_comesAgain : zmk 0 (yX9_comesAgain, cX9_comesAgain, 4, none, kX9_comesAgain) := ⟨tb6 (List.mem_of_getElem? (i := 6) rfl), tb1 (List.mem_of_getElem? (i := 10) rfl), tb6 (List.mem_of_getElem? (i := 5) rfl), by decide +kernel, by decide, by decide⟩
theorem okX9_comesAgain : zckM RX9 false cX9_comesAgain 4 0 kX9_comesAgain = true := by decide +kernel
set_option maxRecDepth 100000 in
theorem mwX9_layThen : zmk 1 (yX9_layThen, cX9_layThen, 2, none, kX9_layThen) := ⟨tb6 (List.mem_of_getElem? (i := 32) rfl), tb1 (List.mem_of_getElem? (i := 10) rfl), ⟨tb6 (List.mem_of_getElem? (i := 31) rfl), tb0 (List.mem_of_getElem? (i := 51) rfl)⟩, by decide +kernel, by decide, by decide⟩
theorem okX9_layThen : zckM RX9 false cX9_layThen 2 0 kX9_layThen = true := by decide +kernel
set_option maxRecDepth 100000 in
theorem mwX9_keep : zmk 1 (yX9_keep, cX9_keep, 2, none, kX9_keep) := ⟨tb5 (List.mem_of_getElem? (i := 185) rfl), tb1 (List.mem_of_getElem? (i := 10) rfl), ⟨tb5 (List.mem_of_getElem? (i := 184) rfl), tb0 (List.mem_of_getElem? (i := 47) rfl)⟩, by decide +kernel, by decide, by decide⟩
theorem okX9_keep : zckM RX9 false cX9_keep 2 0 kX9_keep = true := by decide +kernel
set_option maxRecDepth 100000 in
theorem mwX9_years : zmk 1 (yX9_years, cX9_years, 3, (some .int), kX9_years) := ⟨tb5 (List.mem_of_getElem? (i := 175) rfl), tb1 (List.mem_of_getElem? (i := 10) rfl), ⟨tb5 (List.mem_of_getElem? (i := 173) rfl), tb5 (List.mem_of_getElem? (i := 174) rfl)⟩, by decide +kernel, by decide, by decide⟩
theorem okX9_years : zckM RX9 false cX9_years 3 0 kX9_years = true := by decide +kernel
set_option maxRecDepth 100000 in
theorem mwX9_send : zmk 1 (yX9_send, cX9_send, 4, (some .int), kX9_send) := ⟨tb5 (List.mem_of_getElem? (i := 213) rfl), tb1 (List.mem_of_getElem? (i := 10) rfl), ⟨tb5 (List.mem_of_getElem? (i := 211) rfl), tb5 (List.mem_of_getElem? (i := 212) rfl)⟩, by decide +kernel, by decide, by decide⟩
theorem okX9_send : zckM RX9 false cX9_send 4 0 kX9_send = true := by decide +kernel
set_option maxRecDepth 100000 in
theorem mwX9_sentence : zmk 1 (yX9_sentence, cX9_sentence, 4, (some .int), kX9_sentence) := ⟨tb5 (List.mem_of_getElem? (i := 225) rfl), tb1 (List.mem_of_getElem? (i := 10) rfl), ⟨tb5 (List.mem_of_getElem? (i := 223) rfl), tb5 (List.mem_of_getElem? (i := 224) rfl)⟩, by decide +kernel, by decide, by decide⟩
theorem okX9_sentence : zckM RX9 false cX9_sentence 4 0 kX9_sentence = true := by decide +kernel
set_option maxRecDepth 100000 in
theorem mwX9_turned : zmk 1 (yX9_turned, cX9_turned, 5, (some .int), kX9_turned) := ⟨tb5 (List.mem_of_getElem? (i := 234) rfl), tb1 (List.mem_of_getElem? (i := 10) rfl), ⟨tb5 (List.mem_of_getElem? (i := 233) rfl), tb0 (List.mem_of_getElem? (i := 50) rfl)⟩, by decide +kernel, by decide, by decide⟩
theorem okX9_turned : zckM RX9 false cX9_turned 5 0 kX9_turned = true := by decide +kernel
set_option maxRecDepth 100000 in
theorem mwX9_gate : zmk 1 (yX9_gate, cX9_gate, 3, (some .int), kX9_gate) := ⟨tb5 (List.mem_of_getElem? (i := 230) rfl), tb1 (List.mem_of_getElem? (i := 10) rfl), ⟨tb5 (List.mem_of_getElem? (i := 228) rfl), tb5 (List.mem_of_getElem? (i := 229) rfl)⟩, by decide +kernel, by decide, by decide⟩
theorem okX9_gate : zckM RX9 false cX9_gate 3 0 kX9_gate = true := by decide +kernel
set_option maxRecDepth 100000 in
theorem mwX9_severe : zmk 1 (yX9_severe, cX9_severe, 3, (some .int), kX9_severe) := ⟨tb5 (List.mem_of_getElem? (i := 238) rfl), tb1 (List.mem_of_getElem? (i := 10) rfl), ⟨tb5 (List.mem_of_getElem? (i := 236) rfl), tb5 (List.mem_of_getElem? (i := 237) rfl)⟩, by decide +kernel, by decide, by decide⟩
theorem okX9_severe : zckM RX9 false cX9_severe 3 0 kX9_severe = true := by decide +kernel
set_option maxRecDepth 100000 in
theorem mwX9_retry : zmk 1 (yX9_retry, cX9_retry, 4, (some .int), kX9_retry) := ⟨tb6 (List.mem_of_getElem? (i := 3) rfl), tb1 (List.mem_of_getElem? (i := 10) rfl), ⟨tb6 (List.mem_of_getElem? (i := 1) rfl), tb6 (List.mem_of_getElem? (i := 2) rfl)⟩, by decide +kernel, by decide, by decide⟩
theorem okX9_retry : zckM RX9 false cX9_retry 4 0 kX9_retry = true := by decide +kernel
set_option maxRecDepth 100000 in
theorem mwX9_undo : zmk 1 (yX9_undo, cX9_undo, 2, (some .int), kX9_undo) := ⟨tb6 (List.mem_of_getElem? (i := 10) rfl), tb1 (List.mem_of_getElem? (i := 10) rfl), ⟨tb6 (List.mem_of_getElem? (i := 8) rfl), tb6 (List.mem_of_getElem? (i := 9) rfl)⟩, by decide +kernel, by decide, by decide⟩
theorem okX9_undo : zckM RX9 false cX9_undo 2 0 kX9_undo = true := by decide +kernel
set_option maxRecDepth 100000 in
theorem mwX9_man : zmk 1 (yX9_man, cX9_man, 3, (some .int), kX9_man) := ⟨tb6 (List.mem_of_getElem? (i := 14) rfl), tb1 (List.mem_of_getElem? (i := 10) rfl), ⟨tb6 (List.mem_of_getElem? (i := 12) rfl), tb6 (List.mem_of_getElem? (i := 13) rfl)⟩, by decide +kernel, by decide, by decide⟩
theorem okX9_man : zckM RX9 false cX9_man 3 0 kX9_man = true := by decide +kernel
set_option maxRecDepth 100000 in
theorem mwX9_judge : zmk 1 (yX9_judge, cX9_judge, 5, (some .int), kX9_judge) := ⟨tb6 (List.mem_of_getElem? (i := 18) rfl), tb1 (List.mem_of_getElem? (i := 10) rfl), ⟨tb6 (List.mem_of_getElem? (i := 16) rfl), tb6 (List.mem_of_getElem? (i := 17) rfl)⟩, by decide +kernel, by decide, by decide⟩
theorem okX9_judge : zckM RX9 false cX9_judge 5 0 kX9_judge = true := by decide +kernel
set_option maxRecDepth 100000 in
theorem mwX9_stand : zmk 1 (yX9_stand, cX9_stand, 2, (some .int), kX9_stand) := ⟨tb6 (List.mem_of_getElem? (i := 22) rfl), tb1 (List.mem_of_getElem? (i := 10) rfl), ⟨tb6 (List.mem_of_getElem? (i := 20) rfl), tb6 (List.mem_of_getElem? (i := 21) rfl)⟩, by decide +kernel, by decide, by decide⟩
theorem okX9_stand : zckM RX9 false cX9_stand 2 0 kX9_stand = true := by decide +kernel
set_option maxRecDepth 100000 in
theorem mwX9_ahead : zmk 1 (yX9_ahead, cX9_ahead, 4, (some .int), kX9_ahead) := ⟨tb6 (List.mem_of_getElem? (i := 27) rfl), tb1 (List.mem_of_getElem? (i := 10) rfl), ⟨tb6 (List.mem_of_getElem? (i := 25) rfl), tb6 (List.mem_of_getElem? (i := 26) rfl)⟩, by decide +kernel, by decide, by decide⟩
theorem okX9_ahead : zckM RX9 false cX9_ahead 4 0 kX9_ahead = true := by decide +kernel
set_option maxRecDepth 100000 in
theorem mwX9_by : zmk 1 (yX9_by, cX9_by, 3, (some .int), kX9_by) := ⟨tb6 (List.mem_of_getElem? (i := 39) rfl), tb1 (List.mem_of_getElem? (i := 10) rfl), ⟨tb6 (List.mem_of_getElem? (i := 37) rfl), tb6 (List.mem_of_getElem? (i := 38) rfl)⟩, by decide +kernel, by decide, by decide⟩
theorem okX9_by : zckM RX9 false cX9_by 3 0 kX9_by = true := by decide +kernel
set_option maxRecDepth 100000 in
theorem mwX9_when : zmk 1 (yX9_when, cX9_when, 4, (some .int), kX9_when) := ⟨tb6 (List.mem_of_getElem? (i := 43) rfl), tb1 (List.mem_of_getElem? (i := 10) rfl), ⟨tb6 (List.mem_of_getElem? (i := 41) rfl), tb6 (List.mem_of_getElem? (i := 42) rfl)⟩, by decide +kernel, by decide, by decide⟩
theorem okX9_when : zckM RX9 false cX9_when 4 0 kX9_when = true := by decide +kernel
set_option maxRecDepth 100000 in
theorem mwX9_sending : zmk 1 (yX9_sending, cX9_sending, 9, (some .int), kX9_sending) := ⟨tb6 (List.mem_of_getElem? (i := 48) rfl), tb1 (List.mem_of_getElem? (i := 10) rfl), ⟨tb6 (List.mem_of_getElem? (i := 46) rfl), tb6 (List.mem_of_getElem? (i := 47) rfl)⟩, by decide +kernel, by decide, by decide⟩
theorem okX9_sending : zckM RX9 false cX9_sending 9 0 kX9_sending = true := by decide +kernel
set_option maxRecDepth 100000 in
theorem mwX9_gates : zmk 1 (yX9_gates, cX9_gates, 7, (some .int), kX9_gates) := ⟨tb6 (List.mem_of_getElem? (i := 58) rfl), tb1 (List.mem_of_getElem? (i := 10) rfl), ⟨tb6 (List.mem_of_getElem? (i := 56) rfl), tb6 (List.mem_of_getElem? (i := 57) rfl)⟩, by decide +kernel, by decide, by decide⟩
theorem okX9_gates : zckM RX9 false cX9_gates 7 0 kX9_gates = true := by decide +kernel
set_option maxRecDepth 100000 in
theorem mwX9_let : zmk 1 (yX9_let, cX9_let, 7, (some .int), kX9_let) := ⟨tb6 (List.mem_of_getElem? (i := 65) rfl), tb1 (List.mem_of_getElem? (i := 10) rfl), ⟨tb6 (List.mem_of_getElem? (i := 63) rfl), tb6 (List.mem_of_getElem? (i := 64) rfl)⟩, by decide +kernel, by decide, by decide⟩
theorem okX9_let : zckM RX9 false cX9_let 7 0 kX9_let = true := by decide +kernel
set_option maxRecDepth 100000 in
theorem mwX9_closest : zmk 1 (yX9_closest, cX9_closest, 6, (some .int), kX9_closest) := ⟨tb6 (List.mem_of_getElem? (i := 69) rfl), tb1 (List.mem_of_getElem? (i := 10) rfl), ⟨tb6 (List.mem_of_getElem? (i := 67) rfl), tb6 (List.mem_of_getElem? (i := 68) rfl)⟩, by decide +kernel, by decide, by decide⟩
theorem okX9_closest : zckM RX9 false cX9_closest 6 0 kX9_closest = true := by decide +kernel
set_option maxRecDepth 100000 in
theorem mwX9_dueTo : zmk 1 (yX9_dueTo, cX9_dueTo, 2, (some .int), kX9_dueTo) := ⟨tb6 (List.mem_of_getElem? (i := 78) rfl), tb1 (List.mem_of_getElem? (i := 10) rfl), ⟨tb6 (List.mem_of_getElem? (i := 77) rfl), tb0 (List.mem_of_getElem? (i := 52) rfl)⟩, by decide +kernel, by decide, by decide⟩
theorem okX9_dueTo : zckM RX9 false cX9_dueTo 2 0 kX9_dueTo = true := by decide +kernel
set_option maxRecDepth 100000 in
theorem mwX9_share : zmk 1 (yX9_share, cX9_share, 7, (some .int), kX9_share) := ⟨tb6 (List.mem_of_getElem? (i := 73) rfl), tb1 (List.mem_of_getElem? (i := 10) rfl), ⟨tb6 (List.mem_of_getElem? (i := 71) rfl), tb6 (List.mem_of_getElem? (i := 72) rfl)⟩, by decide +kernel, by decide, by decide⟩
theorem okX9_share : zckM RX9 false cX9_share 7 0 kX9_share = true := by decide +kernel
set_option maxRecDepth 100000 in
theorem mwX9_mayGive : zmk 1 (yX9_mayGive, cX9_mayGive, 3, (some .boolean), kX9_mayGive) := ⟨tb6 (List.mem_of_getElem? (i := 104) rfl), tb1 (List.mem_of_getElem? (i := 10) rfl), ⟨tb6 (List.mem_of_getElem? (i := 103) rfl), tb0 (List.mem_of_getElem? (i := 57) rfl)⟩, by decide +kernel, by decide, by decide⟩
theorem okX9_mayGive : zckM RX9 false cX9_mayGive 3 0 kX9_mayGive = true := by decide +kernel
set_option maxRecDepth 100000 in
theorem mwX9_afterTurns : zmk 1 (yX9_afterTurns, cX9_afterTurns, 7, (some .int), kX9_afterTurns) := ⟨tb6 (List.mem_of_getElem? (i := 100) rfl), tb1 (List.mem_of_getElem? (i := 10) rfl), ⟨tb6 (List.mem_of_getElem? (i := 99) rfl), tb0 (List.mem_of_getElem? (i := 56) rfl)⟩, by decide +kernel, by decide, by decide⟩
theorem okX9_afterTurns : zckM RX9 false cX9_afterTurns 7 0 kX9_afterTurns = true := by decide +kernel
set_option maxRecDepth 100000 in
theorem mwX9_fourth : zmk 1 (yX9_fourth, cX9_fourth, 8, (some .int), kX9_fourth) := ⟨tb6 (List.mem_of_getElem? (i := 96) rfl), tb1 (List.mem_of_getElem? (i := 10) rfl), ⟨tb6 (List.mem_of_getElem? (i := 95) rfl), tb0 (List.mem_of_getElem? (i := 55) rfl)⟩, by decide +kernel, by decide, by decide⟩
theorem okX9_fourth : zckM RX9 false cX9_fourth 8 0 kX9_fourth = true := by decide +kernel
set_option maxRecDepth 100000 in
theorem mwX9_third : zmk 1 (yX9_third, cX9_third, 8, (some .int), kX9_third) := ⟨tb6 (List.mem_of_getElem? (i := 92) rfl), tb1 (List.mem_of_getElem? (i := 10) rfl), ⟨tb6 (List.mem_of_getElem? (i := 91) rfl), tb0 (List.mem_of_getElem? (i := 54) rfl)⟩, by decide +kernel, by decide, by decide⟩
theorem okX9_third : zckM RX9 false cX9_third 8 0 kX9_third = true := by decide +kernel
set_option maxRecDepth 100000 in
theorem mwX9_second : zmk 1 (yX9_second, cX9_second, 8, (some .int), kX9_second) := ⟨tb6 (List.mem_of_getElem? (i := 88) rfl), tb1 (List.mem_of_getElem? (i := 10) rfl), ⟨tb6 (List.mem_of_getElem? (i := 87) rfl), tb0 (List.mem_of_getElem? (i := 53) rfl)⟩, by decide +kernel, by decide, by decide⟩
theorem okX9_second : zckM RX9 false cX9_second 8 0 kX9_second = true := by decide +kernel
set_option maxRecDepth 100000 in
theorem mwX9_byTurns : zmk 1 (yX9_byTurns, cX9_byTurns, 8, (some .int), kX9_byTurns) := ⟨tb6 (List.mem_of_getElem? (i := 82) rfl), tb1 (List.mem_of_getElem? (i := 10) rfl), ⟨tb6 (List.mem_of_getElem? (i := 80) rfl), tb6 (List.mem_of_getElem? (i := 81) rfl)⟩, by decide +kernel, by decide, by decide⟩
theorem okX9_byTurns : zckM RX9 false cX9_byTurns 8 0 kX9_byTurns = true := by decide +kernel
set_option maxRecDepth 100000 in
theorem mwX9_isSo : zmk 1 (yX9_isSo, cX9_isSo, 6, (some .boolean), kX9_isSo) := ⟨tb6 (List.mem_of_getElem? (i := 120) rfl), tb1 (List.mem_of_getElem? (i := 10) rfl), ⟨tb6 (List.mem_of_getElem? (i := 119) rfl), tb0 (List.mem_of_getElem? (i := 59) rfl)⟩, by decide +kernel, by decide, by decide⟩
theorem okX9_isSo : zckM RX9 false cX9_isSo 6 0 kX9_isSo = true := by decide +kernel
set_option maxRecDepth 100000 in
theorem mwX9_rowFound : zmk 1 (yX9_rowFound, cX9_rowFound, 4, (some .int), kX9_rowFound) := ⟨tb6 (List.mem_of_getElem? (i := 116) rfl), tb1 (List.mem_of_getElem? (i := 10) rfl), ⟨tb6 (List.mem_of_getElem? (i := 115) rfl), tb0 (List.mem_of_getElem? (i := 58) rfl)⟩, by decide +kernel, by decide, by decide⟩
theorem okX9_rowFound : zckM RX9 false cX9_rowFound 4 0 kX9_rowFound = true := by decide +kernel
set_option maxRecDepth 100000 in
theorem mwX9_isMany : zmk 0 (yX9_isMany, cX9_isMany, 2, (some .boolean), kX9_isMany) := ⟨tb6 (List.mem_of_getElem? (i := 111) rfl), tb1 (List.mem_of_getElem? (i := 10) rfl), tb6 (List.mem_of_getElem? (i := 110) rfl), by decide +kernel, by decide, by decide⟩
theorem okX9_isMany : zckM RX9 false cX9_isMany 2 0 kX9_isMany = true := by decide +kernel
set_option maxRecDepth 100000 in
theorem mwX9_who : zmk 1 (yX9_who, cX9_who, 11, (some .int), kX9_who) := ⟨tb6 (List.mem_of_getElem? (i := 108) rfl), tb1 (List.mem_of_getElem? (i := 10) rfl), ⟨tb6 (List.mem_of_getElem? (i := 106) rfl), tb6 (List.mem_of_getElem? (i := 107) rfl)⟩, by decide +kernel, by decide, by decide⟩
theorem okX9_who : zckM RX9 false cX9_who 11 0 kX9_who = true := by decide +kernel
set_option maxRecDepth 100000 in
theorem mwX9_severes : zmk 1 (yX9_severes, cX9_severes, 9, (some .int), kX9_severes) := ⟨tb6 (List.mem_of_getElem? (i := 124) rfl), tb1 (List.mem_of_getElem? (i := 10) rfl), ⟨tb6 (List.mem_of_getElem? (i := 122) rfl), tb6 (List.mem_of_getElem? (i := 123) rfl)⟩, by decide +kernel, by decide, by decide⟩
theorem okX9_severes : zckM RX9 false cX9_severes 9 0 kX9_severes = true := by decide +kernel
set_option maxRecDepth 100000 in
theorem mwX9_likes : zmk 1 (yX9_likes, cX9_likes, 10, (some .int), kX9_likes) := ⟨tb6 (List.mem_of_getElem? (i := 128) rfl), tb1 (List.mem_of_getElem? (i := 10) rfl), ⟨tb6 (List.mem_of_getElem? (i := 126) rfl), tb6 (List.mem_of_getElem? (i := 127) rfl)⟩, by decide +kernel, by decide, by decide⟩
theorem okX9_likes : zckM RX9 false cX9_likes 10 0 kX9_likes = true := by decide +kernel
set_option maxRecDepth 100000 in
theorem mwX9_fence : zmk 1 (yX9_fence, cX9_fence, 15, (some .long), kX9_fence) := ⟨tb6 (List.mem_of_getElem? (i := 132) rfl), tb1 (List.mem_of_getElem? (i := 10) rfl), ⟨tb6 (List.mem_of_getElem? (i := 130) rfl), tb6 (List.mem_of_getElem? (i := 131) rfl)⟩, by decide +kernel, by decide, by decide⟩
theorem okX9_fence : zckM RX9 false cX9_fence 15 0 kX9_fence = true := by decide +kernel
set_option maxRecDepth 100000 in
theorem mwX9_drawn : zmk 1 (yX9_drawn, cX9_drawn, 9, (some .int), kX9_drawn) := ⟨tb6 (List.mem_of_getElem? (i := 139) rfl), tb1 (List.mem_of_getElem? (i := 10) rfl), ⟨tb6 (List.mem_of_getElem? (i := 137) rfl), tb6 (List.mem_of_getElem? (i := 138) rfl)⟩, by decide +kernel, by decide, by decide⟩
theorem okX9_drawn : zckM RX9 false cX9_drawn 9 0 kX9_drawn = true := by decide +kernel
set_option maxRecDepth 100000 in
theorem mwX9_image : zmk 1 (yX9_image, cX9_image, 3, (some .int), kX9_image) := ⟨tb6 (List.mem_of_getElem? (i := 146) rfl), tb1 (List.mem_of_getElem? (i := 10) rfl), ⟨tb6 (List.mem_of_getElem? (i := 144) rfl), tb6 (List.mem_of_getElem? (i := 145) rfl)⟩, by decide +kernel, by decide, by decide⟩
theorem okX9_image : zckM RX9 false cX9_image 3 0 kX9_image = true := by decide +kernel
set_option maxRecDepth 100000 in
theorem mwX9_restore : zmk 1 (yX9_restore, cX9_restore, 3, (some .int), kX9_restore) := ⟨tb6 (List.mem_of_getElem? (i := 150) rfl), tb1 (List.mem_of_getElem? (i := 10) rfl), ⟨tb6 (List.mem_of_getElem? (i := 148) rfl), tb6 (List.mem_of_getElem? (i := 149) rfl)⟩, by decide +kernel, by decide, by decide⟩
theorem okX9_restore : zckM RX9 false cX9_restore 3 0 kX9_restore = true := by decide +kernel
set_option maxRecDepth 100000 in
theorem mwX9_isOf : zmk 0 (yX9_isOf, cX9_isOf, 2, (some .boolean), kX9_isOf) := ⟨tb6 (List.mem_of_getElem? (i := 161) rfl), tb1 (List.mem_of_getElem? (i := 10) rfl), tb6 (List.mem_of_getElem? (i := 160) rfl), by decide +kernel, by decide, by decide⟩
theorem okX9_isOf : zckM RX9 false cX9_isOf 2 0 kX9_isOf = true := by decide +kernel
set_option maxRecDepth 100000 in
theorem mwX9_kind : zmk 1 (yX9_kind, cX9_kind, 2, (some .int), kX9_kind) := ⟨tb6 (List.mem_of_getElem? (i := 154) rfl), tb1 (List.mem_of_getElem? (i := 10) rfl), ⟨tb6 (List.mem_of_getElem? (i := 152) rfl), tb6 (List.mem_of_getElem? (i := 153) rfl)⟩, by decide +kernel, by decide, by decide⟩
theorem okX9_kind : zckM RX9 false cX9_kind 2 0 kX9_kind = true := by decide +kernel
set_option maxRecDepth 100000 in
theorem mwX9_as : zmk 1 (yX9_as, cX9_as, 3, (some .int), kX9_as) := ⟨tb6 (List.mem_of_getElem? (i := 158) rfl), tb1 (List.mem_of_getElem? (i := 10) rfl), ⟨tb6 (List.mem_of_getElem? (i := 156) rfl), tb6 (List.mem_of_getElem? (i := 157) rfl)⟩, by decide +kernel, by decide, by decide⟩
theorem okX9_as : zckM RX9 false cX9_as 3 0 kX9_as = true := by decide +kernel
set_option maxRecDepth 100000 in
theorem mwX9_began : zmk 1 (yX9_began, cX9_began, 2, none, kX9_began) := ⟨tb6 (List.mem_of_getElem? (i := 177) rfl), tb1 (List.mem_of_getElem? (i := 10) rfl), ⟨tb6 (List.mem_of_getElem? (i := 176) rfl), tb0 (List.mem_of_getElem? (i := 62) rfl)⟩, by decide +kernel, by decide, by decide⟩
theorem okX9_began : zckM RX9 false cX9_began 2 0 kX9_began = true := by decide +kernel
set_option maxRecDepth 100000 in
theorem mwX9_plainSize : zmk 1 (yX9_plainSize, cX9_plainSize, 2, (some .int), kX9_plainSize) := ⟨tb6 (List.mem_of_getElem? (i := 181) rfl), tb1 (List.mem_of_getElem? (i := 10) rfl), ⟨tb6 (List.mem_of_getElem? (i := 180) rfl), tb0 (List.mem_of_getElem? (i := 63) rfl)⟩, by decide +kernel, by decide, by decide⟩
theorem okX9_plainSize : zckM RX9 false cX9_plainSize 2 0 kX9_plainSize = true := by decide +kernel
set_option maxRecDepth 100000 in
theorem mwX9_wrongedSize : zmk 1 (yX9_wrongedSize, cX9_wrongedSize, 4, (some .int), kX9_wrongedSize) := ⟨tb6 (List.mem_of_getElem? (i := 173) rfl), tb1 (List.mem_of_getElem? (i := 10) rfl), ⟨tb6 (List.mem_of_getElem? (i := 172) rfl), tb0 (List.mem_of_getElem? (i := 61) rfl)⟩, by decide +kernel, by decide, by decide⟩
theorem okX9_wrongedSize : zckM RX9 false cX9_wrongedSize 4 0 kX9_wrongedSize = true := by decide +kernel
set_option maxRecDepth 100000 in
theorem mwX9_markOf : zmk 1 (yX9_markOf, cX9_markOf, 4, (some .int), kX9_markOf) := ⟨tb6 (List.mem_of_getElem? (i := 185) rfl), tb1 (List.mem_of_getElem? (i := 10) rfl), ⟨tb6 (List.mem_of_getElem? (i := 184) rfl), tb0 (List.mem_of_getElem? (i := 64) rfl)⟩, by decide +kernel, by decide, by decide⟩
theorem okX9_markOf : zckM RX9 false cX9_markOf 4 0 kX9_markOf = true := by decide +kernel
set_option maxRecDepth 100000 in
theorem mwX9_sizeOf : zmk 1 (yX9_sizeOf, cX9_sizeOf, 4, (some .int), kX9_sizeOf) := ⟨tb6 (List.mem_of_getElem? (i := 169) rfl), tb1 (List.mem_of_getElem? (i := 10) rfl), ⟨tb6 (List.mem_of_getElem? (i := 168) rfl), tb0 (List.mem_of_getElem? (i := 60) rfl)⟩, by decide +kernel, by decide, by decide⟩
theorem okX9_sizeOf : zckM RX9 false cX9_sizeOf 4 0 kX9_sizeOf = true := by decide +kernel
set_option maxRecDepth 100000 in
theorem mwX9_ask : zmk 1 (yX9_ask, cX9_ask, 3, (some .int), kX9_ask) := ⟨tb6 (List.mem_of_getElem? (i := 165) rfl), tb1 (List.mem_of_getElem? (i := 10) rfl), ⟨tb6 (List.mem_of_getElem? (i := 163) rfl), tb6 (List.mem_of_getElem? (i := 164) rfl)⟩, by decide +kernel, by decide, by decide⟩
theorem okX9_ask : zckM RX9 false cX9_ask 3 0 kX9_ask = true := by decide +kernel
set_option maxRecDepth 100000 in
theorem mwX9_trace : zmk 1 (yX9_trace, cX9_trace, 2, (some .int), kX9_trace) := ⟨tb6 (List.mem_of_getElem? (i := 189) rfl), tb1 (List.mem_of_getElem? (i := 10) rfl), ⟨tb6 (List.mem_of_getElem? (i := 187) rfl), tb6 (List.mem_of_getElem? (i := 188) rfl)⟩, by decide +kernel, by decide, by decide⟩
theorem okX9_trace : zckM RX9 false cX9_trace 2 0 kX9_trace = true := by decide +kernel
set_option maxRecDepth 100000 in
theorem mwX9_count : zmk 1 (yX9_count, cX9_count, 4, (some .int), kX9_count) := ⟨tb6 (List.mem_of_getElem? (i := 193) rfl), tb1 (List.mem_of_getElem? (i := 10) rfl), ⟨tb6 (List.mem_of_getElem? (i := 191) rfl), tb6 (List.mem_of_getElem? (i := 192) rfl)⟩, by decide +kernel, by decide, by decide⟩
theorem okX9_count : zckM RX9 false cX9_count 4 0 kX9_count = true := by decide +kernel
set_option maxRecDepth 100000 in
theorem mwX9_status : zmk 1 (yX9_status, cX9_status, 1, (some .int), kX9_status) := ⟨tb6 (List.mem_of_getElem? (i := 197) rfl), tb1 (List.mem_of_getElem? (i := 10) rfl), ⟨tb6 (List.mem_of_getElem? (i := 195) rfl), tb6 (List.mem_of_getElem? (i := 196) rfl)⟩, by decide +kernel, by decide, by decide⟩
theorem okX9_status : zckM RX9 false cX9_status 1 0 kX9_status = true := by decide +kernel
