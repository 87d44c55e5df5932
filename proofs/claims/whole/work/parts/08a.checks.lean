theorem tb0 {w : Cond} (h : w ∈ k2_sels lw_privs) : w ∈ lw_tbl := List.mem_append_left _ h
theorem tbs {w : Cond} (h : w ∈ tables_1) : w ∈ lw_tbl := List.mem_append_right _ h
theorem tb1 {w : Cond} (h : w ∈ tables_1_1) : w ∈ lw_tbl := tbs (List.mem_append_left _ h)
theorem tb2 {w : Cond} (h : w ∈ tables_1_2) : w ∈ lw_tbl := tbs (List.mem_append_right _ (List.mem_append_left _ h))
theorem tb3 {w : Cond} (h : w ∈ tables_1_3) : w ∈ lw_tbl := tbs (List.mem_append_right _ (List.mem_append_right _ (List.mem_append_left _ h)))
theorem tb4 {w : Cond} (h : w ∈ tables_1_4) : w ∈ lw_tbl := tbs (List.mem_append_right _ (List.mem_append_right _ (List.mem_append_right _ (List.mem_append_left _ h))))
theorem tb5 {w : Cond} (h : w ∈ tables_1_5) : w ∈ lw_tbl := tbs (List.mem_append_right _ (List.mem_append_right _ (List.mem_append_right _ (List.mem_append_right _ (List.mem_append_left _ h)))))
theorem tb6 {w : Cond} (h : w ∈ tables_1_6) : w ∈ lw_tbl := tbs (List.mem_append_right _ (List.mem_append_right _ (List.mem_append_right _ (List.mem_append_right _ (List.mem_append_right _ h)))))
/-- a method's own words -/
def zmk (f : Nat) (q : zM) : Prop := Cond.code q.1 q.2.1 q.2.2.1 q.2.2.2.1 ∈ lw_tbl ∧ Cond.initialized q.1.cls ∈ lw_tbl ∧ (match f with
  | 0 => Cond.static q.1 ∈ lw_tbl
  | 1 => Cond.instanceMethod q.1 ∈ lw_tbl ∧ Cond.selects q.1.cls q.1 q.1 ∈ lw_tbl
  | _ => Cond.instanceMethod q.1 ∈ lw_tbl ∧ q.1.name = "<init>" ∧ q.2.2.2.1 = none) ∧ plainFor q.1 = true ∧ q.2.2.1 ≤ 60 ∧ (q.1.cls ≠ "java/lang/invoke/MethodHandle" ∧ q.1.cls ≠ "java/lang/invoke/VarHandle")
set_option maxRecDepth 100000 in
theorem mwJ6_bitCount_0f7a4 : zmk 0 (yJ6_bitCount_0f7a4, cJ6_bitCount_0f7a4, 1, (some .int), kJ6_bitCount_0f7a4) := ⟨tb4 (List.mem_of_getElem? (i := 2) rfl), tb1 (List.mem_of_getElem? (i := 13) rfl), tb4 (List.mem_of_getElem? (i := 1) rfl), by decide +kernel, by decide, by decide⟩
theorem okJ6_bitCount_0f7a4 : zckM RJ6 false cJ6_bitCount_0f7a4 1 0 kJ6_bitCount_0f7a4 = true := by decide +kernel
set_option maxRecDepth 100000 in
theorem mwJ9_floorMod_7cf53 : zmk 0 (yJ9_floorMod_7cf53, cJ9_floorMod_7cf53, 3, (some .int), kJ9_floorMod_7cf53) := ⟨tb3 (List.mem_of_getElem? (i := 41) rfl), tb1 (List.mem_of_getElem? (i := 12) rfl), tb3 (List.mem_of_getElem? (i := 40) rfl), by decide +kernel, by decide, by decide⟩
theorem okJ9_floorMod_7cf53 : zckM RJ9 false cJ9_floorMod_7cf53 3 0 kJ9_floorMod_7cf53 = true := by decide +kernel
set_option maxRecDepth 100000 in
theorem mwJ9_max_7cf53 : zmk 0 (yJ9_max_7cf53, cJ9_max_7cf53, 2, (some .int), kJ9_max_7cf53) := ⟨tb3 (List.mem_of_getElem? (i := 85) rfl), tb1 (List.mem_of_getElem? (i := 12) rfl), tb3 (List.mem_of_getElem? (i := 84) rfl), by decide +kernel, by decide, by decide⟩
theorem okJ9_max_7cf53 : zckM RJ9 false cJ9_max_7cf53 2 0 kJ9_max_7cf53 = true := by decide +kernel
set_option maxRecDepth 100000 in
theorem mwJ9_min_7cf53 : zmk 0 (yJ9_min_7cf53, cJ9_min_7cf53, 2, (some .int), kJ9_min_7cf53) := ⟨tb3 (List.mem_of_getElem? (i := 88) rfl), tb1 (List.mem_of_getElem? (i := 12) rfl), tb3 (List.mem_of_getElem? (i := 87) rfl), by decide +kernel, by decide, by decide⟩
theorem okJ9_min_7cf53 : zckM RJ9 false cJ9_min_7cf53 2 0 kJ9_min_7cf53 = true := by decide +kernel
set_option maxRecDepth 100000 in
theorem mwX0_init : zmk 2 (yX0_init, cX0_init, 1, none, kX0_init) := ⟨tb2 (List.mem_of_getElem? (i := 31) rfl), tb1 (List.mem_of_getElem? (i := 9) rfl), ⟨tb2 (List.mem_of_getElem? (i := 30) rfl), rfl, rfl⟩, by decide +kernel, by decide, by decide⟩
theorem okX0_init : zckM RX0 true cX0_init 1 0 kX0_init = true := by decide +kernel
set_option maxRecDepth 100000 in
theorem mwX0_askAnew : zmk 1 (yX0_askAnew, cX0_askAnew, 4, (some .int), kX0_askAnew) := ⟨tb4 (List.mem_of_getElem? (i := 180) rfl), tb1 (List.mem_of_getElem? (i := 9) rfl), ⟨tb4 (List.mem_of_getElem? (i := 178) rfl), tb4 (List.mem_of_getElem? (i := 179) rfl)⟩, by decide +kernel, by decide, by decide⟩
theorem okX0_askAnew : zckM RX0 false cX0_askAnew 4 0 kX0_askAnew = true := by decide +kernel
set_option maxRecDepth 100000 in
theorem mwX0_traced : zmk 1 (yX0_traced, cX0_traced, 2, (some .int), kX0_traced) := ⟨tb4 (List.mem_of_getElem? (i := 210) rfl), tb1 (List.mem_of_getElem? (i := 9) rfl), ⟨tb4 (List.mem_of_getElem? (i := 208) rfl), tb4 (List.mem_of_getElem? (i := 209) rfl)⟩, by decide +kernel, by decide, by decide⟩
theorem okX0_traced : zckM RX0 false cX0_traced 2 0 kX0_traced = true := by decide +kernel
set_option maxRecDepth 100000 in
theorem mwX0_answer : zmk 1 (yX0_answer, cX0_answer, 3, (some .int), kX0_answer) := ⟨tb4 (List.mem_of_getElem? (i := 185) rfl), tb1 (List.mem_of_getElem? (i := 9) rfl), ⟨tb4 (List.mem_of_getElem? (i := 184) rfl), tb0 (List.mem_of_getElem? (i := 30) rfl)⟩, by decide +kernel, by decide, by decide⟩
theorem okX0_answer : zckM RX0 false cX0_answer 3 0 kX0_answer = true := by decide +kernel
set_option maxRecDepth 100000 in
theorem mwX0_bodyFor : zmk 1 (yX0_bodyFor, cX0_bodyFor, 5, (some .int), kX0_bodyFor) := ⟨tb4 (List.mem_of_getElem? (i := 189) rfl), tb1 (List.mem_of_getElem? (i := 9) rfl), ⟨tb4 (List.mem_of_getElem? (i := 188) rfl), tb0 (List.mem_of_getElem? (i := 31) rfl)⟩, by decide +kernel, by decide, by decide⟩
theorem okX0_bodyFor : zckM RX0 false cX0_bodyFor 5 0 kX0_bodyFor = true := by decide +kernel
set_option maxRecDepth 100000 in
theorem mwX0_run : zmk 1 (yX0_run, cX0_run, 3, (some .int), kX0_run) := ⟨tb4 (List.mem_of_getElem? (i := 198) rfl), tb1 (List.mem_of_getElem? (i := 9) rfl), ⟨tb4 (List.mem_of_getElem? (i := 197) rfl), tb0 (List.mem_of_getElem? (i := 32) rfl)⟩, by decide +kernel, by decide, by decide⟩
theorem okX0_run : zckM RX0 false cX0_run 3 0 kX0_run = true := by decide +kernel
set_option maxRecDepth 100000 in
theorem mwX0_leave : zmk 1 (yX0_leave, cX0_leave, 2, none, kX0_leave) := ⟨tb4 (List.mem_of_getElem? (i := 202) rfl), tb1 (List.mem_of_getElem? (i := 9) rfl), ⟨tb4 (List.mem_of_getElem? (i := 201) rfl), tb0 (List.mem_of_getElem? (i := 33) rfl)⟩, by decide +kernel, by decide, by decide⟩
theorem okX0_leave : zckM RX0 false cX0_leave 2 0 kX0_leave = true := by decide +kernel
set_option maxRecDepth 100000 in
theorem mwX1_init : zmk 2 (yX1_init, cX1_init, 1, none, kX1_init) := ⟨tb1 (List.mem_of_getElem? (i := 45) rfl), tb1 (List.mem_of_getElem? (i := 3) rfl), ⟨tb1 (List.mem_of_getElem? (i := 44) rfl), rfl, rfl⟩, by decide +kernel, by decide, by decide⟩
theorem okX1_init : zckM RX1 true cX1_init 1 0 kX1_init = true := by decide +kernel
set_option maxRecDepth 100000 in
theorem mwX1_takeFrom : zmk 1 (yX1_takeFrom, cX1_takeFrom, 2, none, kX1_takeFrom) := ⟨tb3 (List.mem_of_getElem? (i := 8) rfl), tb1 (List.mem_of_getElem? (i := 3) rfl), ⟨tb3 (List.mem_of_getElem? (i := 6) rfl), tb3 (List.mem_of_getElem? (i := 7) rfl)⟩, by decide +kernel, by decide, by decide⟩
theorem okX1_takeFrom : zckM RX1 false cX1_takeFrom 2 0 kX1_takeFrom = true := by decide +kernel
set_option maxRecDepth 100000 in
theorem mwX1_begin : zmk 1 (yX1_begin, cX1_begin, 3, none, kX1_begin) := ⟨tb2 (List.mem_of_getElem? (i := 219) rfl), tb1 (List.mem_of_getElem? (i := 3) rfl), ⟨tb2 (List.mem_of_getElem? (i := 217) rfl), tb2 (List.mem_of_getElem? (i := 218) rfl)⟩, by decide +kernel, by decide, by decide⟩
theorem okX1_begin : zckM RX1 false cX1_begin 3 0 kX1_begin = true := by decide +kernel
set_option maxRecDepth 100000 in
theorem mwX1_addJudge : zmk 1 (yX1_addJudge, cX1_addJudge, 3, none, kX1_addJudge) := ⟨tb2 (List.mem_of_getElem? (i := 227) rfl), tb1 (List.mem_of_getElem? (i := 3) rfl), ⟨tb2 (List.mem_of_getElem? (i := 225) rfl), tb2 (List.mem_of_getElem? (i := 226) rfl)⟩, by decide +kernel, by decide, by decide⟩
theorem okX1_addJudge : zckM RX1 false cX1_addJudge 3 0 kX1_addJudge = true := by decide +kernel
set_option maxRecDepth 100000 in
theorem mwX1_addMan : zmk 1 (yX1_addMan, cX1_addMan, 4, none, kX1_addMan) := ⟨tb2 (List.mem_of_getElem? (i := 239) rfl), tb1 (List.mem_of_getElem? (i := 3) rfl), ⟨tb2 (List.mem_of_getElem? (i := 237) rfl), tb2 (List.mem_of_getElem? (i := 238) rfl)⟩, by decide +kernel, by decide, by decide⟩
theorem okX1_addMan : zckM RX1 false cX1_addMan 4 0 kX1_addMan = true := by decide +kernel
set_option maxRecDepth 100000 in
theorem mwX1_isMan : zmk 1 (yX1_isMan, cX1_isMan, 2, (some .boolean), kX1_isMan) := ⟨tb3 (List.mem_of_getElem? (i := 70) rfl), tb1 (List.mem_of_getElem? (i := 3) rfl), ⟨tb3 (List.mem_of_getElem? (i := 68) rfl), tb3 (List.mem_of_getElem? (i := 69) rfl)⟩, by decide +kernel, by decide, by decide⟩
theorem okX1_isMan : zckM RX1 false cX1_isMan 2 0 kX1_isMan = true := by decide +kernel
set_option maxRecDepth 100000 in
theorem mwX1_isJudge : zmk 1 (yX1_isJudge, cX1_isJudge, 2, (some .boolean), kX1_isJudge) := ⟨tb3 (List.mem_of_getElem? (i := 74) rfl), tb1 (List.mem_of_getElem? (i := 3) rfl), ⟨tb3 (List.mem_of_getElem? (i := 72) rfl), tb3 (List.mem_of_getElem? (i := 73) rfl)⟩, by decide +kernel, by decide, by decide⟩
theorem okX1_isJudge : zckM RX1 false cX1_isJudge 2 0 kX1_isJudge = true := by decide +kernel
set_option maxRecDepth 100000 in
theorem mwX1_isServing : zmk 1 (yX1_isServing, cX1_isServing, 2, (some .boolean), kX1_isServing) := ⟨tb3 (List.mem_of_getElem? (i := 106) rfl), tb1 (List.mem_of_getElem? (i := 3) rfl), ⟨tb3 (List.mem_of_getElem? (i := 104) rfl), tb3 (List.mem_of_getElem? (i := 105) rfl)⟩, by decide +kernel, by decide, by decide⟩
theorem okX1_isServing : zckM RX1 false cX1_isServing 2 0 kX1_isServing = true := by decide +kernel
set_option maxRecDepth 100000 in
theorem mwX1_isHoused : zmk 1 (yX1_isHoused, cX1_isHoused, 2, (some .boolean), kX1_isHoused) := ⟨tb3 (List.mem_of_getElem? (i := 66) rfl), tb1 (List.mem_of_getElem? (i := 3) rfl), ⟨tb3 (List.mem_of_getElem? (i := 64) rfl), tb3 (List.mem_of_getElem? (i := 65) rfl)⟩, by decide +kernel, by decide, by decide⟩
theorem okX1_isHoused : zckM RX1 false cX1_isHoused 2 0 kX1_isHoused = true := by decide +kernel
set_option maxRecDepth 100000 in
theorem mwX1_passYears : zmk 1 (yX1_passYears, cX1_passYears, 6, none, kX1_passYears) := ⟨tb3 (List.mem_of_getElem? (i := 58) rfl), tb1 (List.mem_of_getElem? (i := 3) rfl), ⟨tb3 (List.mem_of_getElem? (i := 56) rfl), tb3 (List.mem_of_getElem? (i := 57) rfl)⟩, by decide +kernel, by decide, by decide⟩
theorem okX1_passYears : zckM RX1 false cX1_passYears 6 0 kX1_passYears = true := by decide +kernel
set_option maxRecDepth 100000 in
theorem mwX1_moveIn : zmk 1 (yX1_moveIn, cX1_moveIn, 4, none, kX1_moveIn) := ⟨tb3 (List.mem_of_getElem? (i := 62) rfl), tb1 (List.mem_of_getElem? (i := 3) rfl), ⟨tb3 (List.mem_of_getElem? (i := 61) rfl), tb0 (List.mem_of_getElem? (i := 17) rfl)⟩, by decide +kernel, by decide, by decide⟩
theorem okX1_moveIn : zckM RX1 false cX1_moveIn 4 0 kX1_moveIn = true := by decide +kernel
set_option maxRecDepth 100000 in
theorem mwX1_liveBeside : zmk 1 (yX1_liveBeside, cX1_liveBeside, 3, none, kX1_liveBeside) := ⟨tb3 (List.mem_of_getElem? (i := 78) rfl), tb1 (List.mem_of_getElem? (i := 3) rfl), ⟨tb3 (List.mem_of_getElem? (i := 77) rfl), tb0 (List.mem_of_getElem? (i := 18) rfl)⟩, by decide +kernel, by decide, by decide⟩
theorem okX1_liveBeside : zckM RX1 false cX1_liveBeside 3 0 kX1_liveBeside = true := by decide +kernel
set_option maxRecDepth 100000 in
theorem mwX1_growthOf : zmk 1 (yX1_growthOf, cX1_growthOf, 6, (some .int), kX1_growthOf) := ⟨tb3 (List.mem_of_getElem? (i := 82) rfl), tb1 (List.mem_of_getElem? (i := 3) rfl), ⟨tb3 (List.mem_of_getElem? (i := 80) rfl), tb3 (List.mem_of_getElem? (i := 81) rfl)⟩, by decide +kernel, by decide, by decide⟩
theorem okX1_growthOf : zckM RX1 false cX1_growthOf 6 0 kX1_growthOf = true := by decide +kernel
set_option maxRecDepth 100000 in
theorem mwX1_tryAgain : zmk 1 (yX1_tryAgain, cX1_tryAgain, 4, none, kX1_tryAgain) := ⟨tb3 (List.mem_of_getElem? (i := 122) rfl), tb1 (List.mem_of_getElem? (i := 3) rfl), ⟨tb3 (List.mem_of_getElem? (i := 120) rfl), tb3 (List.mem_of_getElem? (i := 121) rfl)⟩, by decide +kernel, by decide, by decide⟩
theorem okX1_tryAgain : zckM RX1 false cX1_tryAgain 4 0 kX1_tryAgain = true := by decide +kernel
set_option maxRecDepth 100000 in
theorem mwX1_letOff : zmk 1 (yX1_letOff, cX1_letOff, 3, none, kX1_letOff) := ⟨tb4 (List.mem_of_getElem? (i := 13) rfl), tb1 (List.mem_of_getElem? (i := 3) rfl), ⟨tb4 (List.mem_of_getElem? (i := 11) rfl), tb4 (List.mem_of_getElem? (i := 12) rfl)⟩, by decide +kernel, by decide, by decide⟩
theorem okX1_letOff : zckM RX1 false cX1_letOff 3 0 kX1_letOff = true := by decide +kernel
set_option maxRecDepth 100000 in
theorem mwX1_whoAre : zmk 1 (yX1_whoAre, cX1_whoAre, 4, (some .int), kX1_whoAre) := ⟨tb3 (List.mem_of_getElem? (i := 92) rfl), tb1 (List.mem_of_getElem? (i := 3) rfl), ⟨tb3 (List.mem_of_getElem? (i := 90) rfl), tb3 (List.mem_of_getElem? (i := 91) rfl)⟩, by decide +kernel, by decide, by decide⟩
theorem okX1_whoAre : zckM RX1 false cX1_whoAre 4 0 kX1_whoAre = true := by decide +kernel
set_option maxRecDepth 100000 in
theorem mwX1_neighbourOf : zmk 1 (yX1_neighbourOf, cX1_neighbourOf, 3, (some .int), kX1_neighbourOf) := ⟨tb3 (List.mem_of_getElem? (i := 135) rfl), tb1 (List.mem_of_getElem? (i := 3) rfl), ⟨tb3 (List.mem_of_getElem? (i := 133) rfl), tb3 (List.mem_of_getElem? (i := 134) rfl)⟩, by decide +kernel, by decide, by decide⟩
theorem okX1_neighbourOf : zckM RX1 false cX1_neighbourOf 3 0 kX1_neighbourOf = true := by decide +kernel
set_option maxRecDepth 100000 in
theorem mwX1_waitersFor : zmk 1 (yX1_waitersFor, cX1_waitersFor, 4, (some .int), kX1_waitersFor) := ⟨tb3 (List.mem_of_getElem? (i := 140) rfl), tb1 (List.mem_of_getElem? (i := 3) rfl), ⟨tb3 (List.mem_of_getElem? (i := 138) rfl), tb3 (List.mem_of_getElem? (i := 139) rfl)⟩, by decide +kernel, by decide, by decide⟩
theorem okX1_waitersFor : zckM RX1 false cX1_waitersFor 4 0 kX1_waitersFor = true := by decide +kernel
set_option maxRecDepth 100000 in
theorem mwX1_trustOfAll : zmk 1 (yX1_trustOfAll, cX1_trustOfAll, 3, (some .int), kX1_trustOfAll) := ⟨tb3 (List.mem_of_getElem? (i := 223) rfl), tb1 (List.mem_of_getElem? (i := 3) rfl), ⟨tb3 (List.mem_of_getElem? (i := 221) rfl), tb3 (List.mem_of_getElem? (i := 222) rfl)⟩, by decide +kernel, by decide, by decide⟩
theorem okX1_trustOfAll : zckM RX1 false cX1_trustOfAll 3 0 kX1_trustOfAll = true := by decide +kernel
set_option maxRecDepth 100000 in
theorem mwX1_trustTowards : zmk 1 (yX1_trustTowards, cX1_trustTowards, 4, (some .int), kX1_trustTowards) := ⟨tb3 (List.mem_of_getElem? (i := 192) rfl), tb1 (List.mem_of_getElem? (i := 3) rfl), ⟨tb3 (List.mem_of_getElem? (i := 190) rfl), tb3 (List.mem_of_getElem? (i := 191) rfl)⟩, by decide +kernel, by decide, by decide⟩
theorem okX1_trustTowards : zckM RX1 false cX1_trustTowards 4 0 kX1_trustTowards = true := by decide +kernel
set_option maxRecDepth 100000 in
theorem mwX1_doneWith : zmk 1 (yX1_doneWith, cX1_doneWith, 4, (some .int), kX1_doneWith) := ⟨tb3 (List.mem_of_getElem? (i := 187) rfl), tb1 (List.mem_of_getElem? (i := 3) rfl), ⟨tb3 (List.mem_of_getElem? (i := 185) rfl), tb3 (List.mem_of_getElem? (i := 186) rfl)⟩, by decide +kernel, by decide, by decide⟩
theorem okX1_doneWith : zckM RX1 false cX1_doneWith 4 0 kX1_doneWith = true := by decide +kernel
set_option maxRecDepth 100000 in
theorem mwX1_closestTo : zmk 1 (yX1_closestTo, cX1_closestTo, 4, (some .int), kX1_closestTo) := ⟨tb4 (List.mem_of_getElem? (i := 21) rfl), tb1 (List.mem_of_getElem? (i := 3) rfl), ⟨tb4 (List.mem_of_getElem? (i := 19) rfl), tb4 (List.mem_of_getElem? (i := 20) rfl)⟩, by decide +kernel, by decide, by decide⟩
theorem okX1_closestTo : zckM RX1 false cX1_closestTo 4 0 kX1_closestTo = true := by decide +kernel
set_option maxRecDepth 100000 in
theorem mwX1_beansFor : zmk 1 (yX1_beansFor, cX1_beansFor, 7, (some .int), kX1_beansFor) := ⟨tb4 (List.mem_of_getElem? (i := 30) rfl), tb1 (List.mem_of_getElem? (i := 3) rfl), ⟨tb4 (List.mem_of_getElem? (i := 28) rfl), tb4 (List.mem_of_getElem? (i := 29) rfl)⟩, by decide +kernel, by decide, by decide⟩
theorem okX1_beansFor : zckM RX1 false cX1_beansFor 7 0 kX1_beansFor = true := by decide +kernel
set_option maxRecDepth 100000 in
theorem mwX2_init : zmk 2 (yX2_init, cX2_init, 1, none, kX2_init) := ⟨tb2 (List.mem_of_getElem? (i := 1) rfl), tb1 (List.mem_of_getElem? (i := 8) rfl), ⟨tb2 (List.mem_of_getElem? (i := 0) rfl), rfl, rfl⟩, by decide +kernel, by decide, by decide⟩
theorem okX2_init : zckM RX2 true cX2_init 1 0 kX2_init = true := by decide +kernel
set_option maxRecDepth 100000 in
theorem mwX2_hear : zmk 1 (yX2_hear, cX2_hear, 7, none, kX2_hear) := ⟨tb4 (List.mem_of_getElem? (i := 61) rfl), tb1 (List.mem_of_getElem? (i := 8) rfl), ⟨tb4 (List.mem_of_getElem? (i := 59) rfl), tb4 (List.mem_of_getElem? (i := 60) rfl)⟩, by decide +kernel, by decide, by decide⟩
theorem okX2_hear : zckM RX2 false cX2_hear 7 0 kX2_hear = true := by decide +kernel
set_option maxRecDepth 100000 in
theorem mwX2_tryAll : zmk 1 (yX2_tryAll, cX2_tryAll, 7, none, kX2_tryAll) := ⟨tb4 (List.mem_of_getElem? (i := 70) rfl), tb1 (List.mem_of_getElem? (i := 8) rfl), ⟨tb4 (List.mem_of_getElem? (i := 68) rfl), tb4 (List.mem_of_getElem? (i := 69) rfl)⟩, by decide +kernel, by decide, by decide⟩
theorem okX2_tryAll : zckM RX2 false cX2_tryAll 7 0 kX2_tryAll = true := by decide +kernel
set_option maxRecDepth 100000 in
theorem mwX2_suppose : zmk 1 (yX2_suppose, cX2_suppose, 4, none, kX2_suppose) := ⟨tb4 (List.mem_of_getElem? (i := 76) rfl), tb1 (List.mem_of_getElem? (i := 8) rfl), ⟨tb4 (List.mem_of_getElem? (i := 75) rfl), tb0 (List.mem_of_getElem? (i := 26) rfl)⟩, by decide +kernel, by decide, by decide⟩
theorem okX2_suppose : zckM RX2 false cX2_suppose 4 0 kX2_suppose = true := by decide +kernel
set_option maxRecDepth 100000 in
theorem mwX2_fits : zmk 1 (yX2_fits, cX2_fits, 2, (some .boolean), kX2_fits) := ⟨tb4 (List.mem_of_getElem? (i := 82) rfl), tb1 (List.mem_of_getElem? (i := 8) rfl), ⟨tb4 (List.mem_of_getElem? (i := 81) rfl), tb0 (List.mem_of_getElem? (i := 27) rfl)⟩, by decide +kernel, by decide, by decide⟩
theorem okX2_fits : zckM RX2 false cX2_fits 2 0 kX2_fits = true := by decide +kernel
set_option maxRecDepth 100000 in
theorem mwX2_bits : zmk 1 (yX2_bits, cX2_bits, 1, (some .int), kX2_bits) := ⟨tb4 (List.mem_of_getElem? (i := 87) rfl), tb1 (List.mem_of_getElem? (i := 8) rfl), ⟨tb4 (List.mem_of_getElem? (i := 85) rfl), tb4 (List.mem_of_getElem? (i := 86) rfl)⟩, by decide +kernel, by decide, by decide⟩
theorem okX2_bits : zckM RX2 false cX2_bits 1 0 kX2_bits = true := by decide +kernel
set_option maxRecDepth 100000 in
theorem mwX2_howMany : zmk 1 (yX2_howMany, cX2_howMany, 1, (some .int), kX2_howMany) := ⟨tb4 (List.mem_of_getElem? (i := 91) rfl), tb1 (List.mem_of_getElem? (i := 8) rfl), ⟨tb4 (List.mem_of_getElem? (i := 89) rfl), tb4 (List.mem_of_getElem? (i := 90) rfl)⟩, by decide +kernel, by decide, by decide⟩
theorem okX2_howMany : zckM RX2 false cX2_howMany 1 0 kX2_howMany = true := by decide +kernel
set_option maxRecDepth 100000 in
theorem mwX2_least : zmk 1 (yX2_least, cX2_least, 1, (some .int), kX2_least) := ⟨tb4 (List.mem_of_getElem? (i := 95) rfl), tb1 (List.mem_of_getElem? (i := 8) rfl), ⟨tb4 (List.mem_of_getElem? (i := 93) rfl), tb4 (List.mem_of_getElem? (i := 94) rfl)⟩, by decide +kernel, by decide, by decide⟩
theorem okX2_least : zckM RX2 false cX2_least 1 0 kX2_least = true := by decide +kernel
set_option maxRecDepth 100000 in
theorem mwX3_init : zmk 2 (yX3_init, cX3_init, 1, none, kX3_init) := ⟨tb1 (List.mem_of_getElem? (i := 178) rfl), tb1 (List.mem_of_getElem? (i := 6) rfl), ⟨tb1 (List.mem_of_getElem? (i := 177) rfl), rfl, rfl⟩, by decide +kernel, by decide, by decide⟩
theorem okX3_init : zckM RX3 true cX3_init 1 0 kX3_init = true := by decide +kernel
set_option maxRecDepth 100000 in
theorem mwX3_look : zmk 1 (yX3_look, cX3_look, 3, (some (.object "JudgeHalves$Circuit")), kX3_look) := ⟨tb3 (List.mem_of_getElem? (i := 152) rfl), tb1 (List.mem_of_getElem? (i := 6) rfl), ⟨tb3 (List.mem_of_getElem? (i := 150) rfl), tb3 (List.mem_of_getElem? (i := 151) rfl)⟩, by decide +kernel, by decide, by decide⟩
theorem okX3_look : zckM RX3 false cX3_look 3 0 kX3_look = true := by decide +kernel
set_option maxRecDepth 100000 in
theorem mwX3_firstYearAs : zmk 1 (yX3_firstYearAs, cX3_firstYearAs, 5, (some .int), kX3_firstYearAs) := ⟨tb3 (List.mem_of_getElem? (i := 166) rfl), tb1 (List.mem_of_getElem? (i := 6) rfl), ⟨tb3 (List.mem_of_getElem? (i := 164) rfl), tb3 (List.mem_of_getElem? (i := 165) rfl)⟩, by decide +kernel, by decide, by decide⟩
theorem okX3_firstYearAs : zckM RX3 false cX3_firstYearAs 5 0 kX3_firstYearAs = true := by decide +kernel
set_option maxRecDepth 100000 in
theorem mwX3_weighFences : zmk 1 (yX3_weighFences, cX3_weighFences, 7, none, kX3_weighFences) := ⟨tb4 (List.mem_of_getElem? (i := 112) rfl), tb1 (List.mem_of_getElem? (i := 6) rfl), ⟨tb4 (List.mem_of_getElem? (i := 110) rfl), tb4 (List.mem_of_getElem? (i := 111) rfl)⟩, by decide +kernel, by decide, by decide⟩
theorem okX3_weighFences : zckM RX3 false cX3_weighFences 7 0 kX3_weighFences = true := by decide +kernel
set_option maxRecDepth 100000 in
theorem mwX3_casesOf : zmk 0 (yX3_casesOf, cX3_casesOf, 6, (some .long), kX3_casesOf) := ⟨tb4 (List.mem_of_getElem? (i := 118) rfl), tb1 (List.mem_of_getElem? (i := 6) rfl), tb4 (List.mem_of_getElem? (i := 117) rfl), by decide +kernel, by decide, by decide⟩
theorem okX3_casesOf : zckM RX3 false cX3_casesOf 6 0 kX3_casesOf = true := by decide +kernel
set_option maxRecDepth 100000 in
theorem mwX3_reduce : zmk 1 (yX3_reduce, cX3_reduce, 8, none, kX3_reduce) := ⟨tb4 (List.mem_of_getElem? (i := 122) rfl), tb1 (List.mem_of_getElem? (i := 6) rfl), ⟨tb4 (List.mem_of_getElem? (i := 121) rfl), tb0 (List.mem_of_getElem? (i := 28) rfl)⟩, by decide +kernel, by decide, by decide⟩
theorem okX3_reduce : zckM RX3 false cX3_reduce 8 0 kX3_reduce = true := by decide +kernel
set_option maxRecDepth 100000 in
theorem mwX3_above : zmk 1 (yX3_above, cX3_above, 1, (some .long), kX3_above) := ⟨tb4 (List.mem_of_getElem? (i := 126) rfl), tb1 (List.mem_of_getElem? (i := 6) rfl), ⟨tb4 (List.mem_of_getElem? (i := 124) rfl), tb4 (List.mem_of_getElem? (i := 125) rfl)⟩, by decide +kernel, by decide, by decide⟩
theorem okX3_above : zckM RX3 false cX3_above 1 0 kX3_above = true := by decide +kernel
set_option maxRecDepth 100000 in
theorem mwX3_below : zmk 1 (yX3_below, cX3_below, 1, (some .long), kX3_below) := ⟨tb4 (List.mem_of_getElem? (i := 130) rfl), tb1 (List.mem_of_getElem? (i := 6) rfl), ⟨tb4 (List.mem_of_getElem? (i := 128) rfl), tb4 (List.mem_of_getElem? (i := 129) rfl)⟩, by decide +kernel, by decide, by decide⟩
theorem okX3_below : zckM RX3 false cX3_below 1 0 kX3_below = true := by decide +kernel
set_option maxRecDepth 100000 in
theorem mwX3_lookByDraws : zmk 1 (yX3_lookByDraws, cX3_lookByDraws, 7, (some (.object "JudgeHalves$Circuit")), kX3_lookByDraws) := ⟨tb4 (List.mem_of_getElem? (i := 139) rfl), tb1 (List.mem_of_getElem? (i := 6) rfl), ⟨tb4 (List.mem_of_getElem? (i := 137) rfl), tb4 (List.mem_of_getElem? (i := 138) rfl)⟩, by decide +kernel, by decide, by decide⟩
theorem okX3_lookByDraws : zckM RX3 false cX3_lookByDraws 7 0 kX3_lookByDraws = true := by decide +kernel
set_option maxRecDepth 100000 in
theorem mwX3_actOnDraw : zmk 1 (yX3_actOnDraw, cX3_actOnDraw, 5, none, kX3_actOnDraw) := ⟨tb4 (List.mem_of_getElem? (i := 145) rfl), tb1 (List.mem_of_getElem? (i := 6) rfl), ⟨tb4 (List.mem_of_getElem? (i := 144) rfl), tb0 (List.mem_of_getElem? (i := 29) rfl)⟩, by decide +kernel, by decide, by decide⟩
theorem okX3_actOnDraw : zckM RX3 false cX3_actOnDraw 5 0 kX3_actOnDraw = true := by decide +kernel
set_option maxRecDepth 100000 in
theorem mwX4_init : zmk 2 (yX4_init, cX4_init, 2, none, kX4_init) := ⟨tb1 (List.mem_of_getElem? (i := 159) rfl), tb1 (List.mem_of_getElem? (i := 5) rfl), ⟨tb1 (List.mem_of_getElem? (i := 158) rfl), rfl, rfl⟩, by decide +kernel, by decide, by decide⟩
theorem okX4_init : zckM RX4 true cX4_init 2 0 kX4_init = true := by decide +kernel
set_option maxRecDepth 100000 in
theorem mwX4_size : zmk 1 (yX4_size, cX4_size, 1, (some .int), kX4_size) := ⟨tb3 (List.mem_of_getElem? (i := 29) rfl), tb1 (List.mem_of_getElem? (i := 5) rfl), ⟨tb3 (List.mem_of_getElem? (i := 27) rfl), tb3 (List.mem_of_getElem? (i := 28) rfl)⟩, by decide +kernel, by decide, by decide⟩
theorem okX4_size : zckM RX4 false cX4_size 1 0 kX4_size = true := by decide +kernel
set_option maxRecDepth 100000 in
theorem mwX4_forget : zmk 1 (yX4_forget, cX4_forget, 1, none, kX4_forget) := ⟨tb3 (List.mem_of_getElem? (i := 13) rfl), tb1 (List.mem_of_getElem? (i := 5) rfl), ⟨tb3 (List.mem_of_getElem? (i := 11) rfl), tb3 (List.mem_of_getElem? (i := 12) rfl)⟩, by decide +kernel, by decide, by decide⟩
theorem okX4_forget : zckM RX4 false cX4_forget 1 0 kX4_forget = true := by decide +kernel
set_option maxRecDepth 100000 in
theorem mwX4_keep : zmk 1 (yX4_keep, cX4_keep, 3, none, kX4_keep) := ⟨tb3 (List.mem_of_getElem? (i := 54) rfl), tb1 (List.mem_of_getElem? (i := 5) rfl), ⟨tb3 (List.mem_of_getElem? (i := 52) rfl), tb3 (List.mem_of_getElem? (i := 53) rfl)⟩, by decide +kernel, by decide, by decide⟩
theorem okX4_keep : zckM RX4 false cX4_keep 3 0 kX4_keep = true := by decide +kernel
set_option maxRecDepth 100000 in
theorem mwX4_giveBack : zmk 1 (yX4_giveBack, cX4_giveBack, 2, none, kX4_giveBack) := ⟨tb3 (List.mem_of_getElem? (i := 34) rfl), tb1 (List.mem_of_getElem? (i := 5) rfl), ⟨tb3 (List.mem_of_getElem? (i := 32) rfl), tb3 (List.mem_of_getElem? (i := 33) rfl)⟩, by decide +kernel, by decide, by decide⟩
theorem okX4_giveBack : zckM RX4 false cX4_giveBack 2 0 kX4_giveBack = true := by decide +kernel
set_option maxRecDepth 100000 in
theorem mwX4_placeOf : zmk 1 (yX4_placeOf, cX4_placeOf, 2, (some .int), kX4_placeOf) := ⟨tb3 (List.mem_of_getElem? (i := 38) rfl), tb1 (List.mem_of_getElem? (i := 5) rfl), ⟨tb3 (List.mem_of_getElem? (i := 37) rfl), tb0 (List.mem_of_getElem? (i := 15) rfl)⟩, by decide +kernel, by decide, by decide⟩
theorem okX4_placeOf : zckM RX4 false cX4_placeOf 2 0 kX4_placeOf = true := by decide +kernel
set_option maxRecDepth 100000 in
theorem mwX5_init : zmk 2 (yX5_init, cX5_init, 1, none, kX5_init) := ⟨tb1 (List.mem_of_getElem? (i := 196) rfl), tb1 (List.mem_of_getElem? (i := 7) rfl), ⟨tb1 (List.mem_of_getElem? (i := 195) rfl), rfl, rfl⟩, by decide +kernel, by decide, by decide⟩
theorem okX5_init : zckM RX5 true cX5_init 1 0 kX5_init = true := by decide +kernel
set_option maxRecDepth 100000 in
theorem mwX5_bestSet : zmk 1 (yX5_bestSet, cX5_bestSet, 1, (some .int), kX5_bestSet) := ⟨tb3 (List.mem_of_getElem? (i := 227) rfl), tb1 (List.mem_of_getElem? (i := 7) rfl), ⟨tb3 (List.mem_of_getElem? (i := 225) rfl), tb3 (List.mem_of_getElem? (i := 226) rfl)⟩, by decide +kernel, by decide, by decide⟩
theorem okX5_bestSet : zckM RX5 false cX5_bestSet 1 0 kX5_bestSet = true := by decide +kernel
set_option maxRecDepth 100000 in
theorem mwX5_bestWorth : zmk 1 (yX5_bestWorth, cX5_bestWorth, 1, (some .int), kX5_bestWorth) := ⟨tb3 (List.mem_of_getElem? (i := 231) rfl), tb1 (List.mem_of_getElem? (i := 7) rfl), ⟨tb3 (List.mem_of_getElem? (i := 229) rfl), tb3 (List.mem_of_getElem? (i := 230) rfl)⟩, by decide +kernel, by decide, by decide⟩
theorem okX5_bestWorth : zckM RX5 false cX5_bestWorth 1 0 kX5_bestWorth = true := by decide +kernel
set_option maxRecDepth 100000 in
theorem mwX5_sentDone : zmk 1 (yX5_sentDone, cX5_sentDone, 1, (some .int), kX5_sentDone) := ⟨tb3 (List.mem_of_getElem? (i := 206) rfl), tb1 (List.mem_of_getElem? (i := 7) rfl), ⟨tb3 (List.mem_of_getElem? (i := 204) rfl), tb3 (List.mem_of_getElem? (i := 205) rfl)⟩, by decide +kernel, by decide, by decide⟩
theorem okX5_sentDone : zckM RX5 false cX5_sentDone 1 0 kX5_sentDone = true := by decide +kernel
set_option maxRecDepth 100000 in
theorem mwX5_sentJudge : zmk 1 (yX5_sentJudge, cX5_sentJudge, 2, (some .int), kX5_sentJudge) := ⟨tb3 (List.mem_of_getElem? (i := 210) rfl), tb1 (List.mem_of_getElem? (i := 7) rfl), ⟨tb3 (List.mem_of_getElem? (i := 208) rfl), tb3 (List.mem_of_getElem? (i := 209) rfl)⟩, by decide +kernel, by decide, by decide⟩
theorem okX5_sentJudge : zckM RX5 false cX5_sentJudge 2 0 kX5_sentJudge = true := by decide +kernel
set_option maxRecDepth 100000 in
theorem mwX5_planSending : zmk 1 (yX5_planSending, cX5_planSending, 5, none, kX5_planSending) := ⟨tb3 (List.mem_of_getElem? (i := 176) rfl), tb1 (List.mem_of_getElem? (i := 7) rfl), ⟨tb3 (List.mem_of_getElem? (i := 174) rfl), tb3 (List.mem_of_getElem? (i := 175) rfl)⟩, by decide +kernel, by decide, by decide⟩
theorem okX5_planSending : zckM RX5 false cX5_planSending 5 0 kX5_planSending = true := by decide +kernel
set_option maxRecDepth 100000 in
theorem mwX5_worthOfSending : zmk 1 (yX5_worthOfSending, cX5_worthOfSending, 5, (some .int), kX5_worthOfSending) := ⟨tb3 (List.mem_of_getElem? (i := 182) rfl), tb1 (List.mem_of_getElem? (i := 7) rfl), ⟨tb3 (List.mem_of_getElem? (i := 181) rfl), tb0 (List.mem_of_getElem? (i := 19) rfl)⟩, by decide +kernel, by decide, by decide⟩
theorem okX5_worthOfSending : zckM RX5 false cX5_worthOfSending 5 0 kX5_worthOfSending = true := by decide +kernel
set_option maxRecDepth 100000 in
theorem mwX5_sendFrom : zmk 1 (yX5_sendFrom, cX5_sendFrom, 3, none, kX5_sendFrom) := ⟨tb3 (List.mem_of_getElem? (i := 196) rfl), tb1 (List.mem_of_getElem? (i := 7) rfl), ⟨tb3 (List.mem_of_getElem? (i := 195) rfl), tb0 (List.mem_of_getElem? (i := 20) rfl)⟩, by decide +kernel, by decide, by decide⟩
theorem okX5_sendFrom : zckM RX5 false cX5_sendFrom 3 0 kX5_sendFrom = true := by decide +kernel
set_option maxRecDepth 100000 in
theorem mwX5_weighSending : zmk 1 (yX5_weighSending, cX5_weighSending, 5, none, kX5_weighSending) := ⟨tb3 (List.mem_of_getElem? (i := 201) rfl), tb1 (List.mem_of_getElem? (i := 7) rfl), ⟨tb3 (List.mem_of_getElem? (i := 200) rfl), tb0 (List.mem_of_getElem? (i := 21) rfl)⟩, by decide +kernel, by decide, by decide⟩
theorem okX5_weighSending : zckM RX5 false cX5_weighSending 5 0 kX5_weighSending = true := by decide +kernel
set_option maxRecDepth 100000 in
theorem mwX5_planGates : zmk 1 (yX5_planGates, cX5_planGates, 5, none, kX5_planGates) := ⟨tb3 (List.mem_of_getElem? (i := 219) rfl), tb1 (List.mem_of_getElem? (i := 7) rfl), ⟨tb3 (List.mem_of_getElem? (i := 217) rfl), tb3 (List.mem_of_getElem? (i := 218) rfl)⟩, by decide +kernel, by decide, by decide⟩
theorem okX5_planGates : zckM RX5 false cX5_planGates 5 0 kX5_planGates = true := by decide +kernel
set_option maxRecDepth 100000 in
theorem mwX5_planLettingOff : zmk 1 (yX5_planLettingOff, cX5_planLettingOff, 6, none, kX5_planLettingOff) := ⟨tb3 (List.mem_of_getElem? (i := 239) rfl), tb1 (List.mem_of_getElem? (i := 7) rfl), ⟨tb3 (List.mem_of_getElem? (i := 237) rfl), tb3 (List.mem_of_getElem? (i := 238) rfl)⟩, by decide +kernel, by decide, by decide⟩
theorem okX5_planLettingOff : zckM RX5 false cX5_planLettingOff 6 0 kX5_planLettingOff = true := by decide +kernel
set_option maxRecDepth 100000 in
theorem mwX5_nobodyWaitsWithout : zmk 1 (yX5_nobodyWaitsWithout, cX5_nobodyWaitsWithout, 4, (some .boolean), kX5_nobodyWaitsWithout) := ⟨tb4 (List.mem_of_getElem? (i := 9) rfl), tb1 (List.mem_of_getElem? (i := 7) rfl), ⟨tb4 (List.mem_of_getElem? (i := 8) rfl), tb0 (List.mem_of_getElem? (i := 22) rfl)⟩, by decide +kernel, by decide, by decide⟩
theorem okX5_nobodyWaitsWithout : zckM RX5 false cX5_nobodyWaitsWithout 4 0 kX5_nobodyWaitsWithout = true := by decide +kernel
set_option maxRecDepth 100000 in
theorem mwX5_playTurns : zmk 1 (yX5_playTurns, cX5_playTurns, 6, (some .int), kX5_playTurns) := ⟨tb4 (List.mem_of_getElem? (i := 38) rfl), tb1 (List.mem_of_getElem? (i := 7) rfl), ⟨tb4 (List.mem_of_getElem? (i := 36) rfl), tb4 (List.mem_of_getElem? (i := 37) rfl)⟩, by decide +kernel, by decide, by decide⟩
theorem okX5_playTurns : zckM RX5 false cX5_playTurns 6 0 kX5_playTurns = true := by decide +kernel
set_option maxRecDepth 100000 in
theorem mwX5_playFrom : zmk 1 (yX5_playFrom, cX5_playFrom, 8, (some .int), kX5_playFrom) := ⟨tb4 (List.mem_of_getElem? (i := 43) rfl), tb1 (List.mem_of_getElem? (i := 7) rfl), ⟨tb4 (List.mem_of_getElem? (i := 42) rfl), tb0 (List.mem_of_getElem? (i := 23) rfl)⟩, by decide +kernel, by decide, by decide⟩
theorem okX5_playFrom : zckM RX5 false cX5_playFrom 8 0 kX5_playFrom = true := by decide +kernel
set_option maxRecDepth 100000 in
theorem mwX5_outcome : zmk 1 (yX5_outcome, cX5_outcome, 1, (some .int), kX5_outcome) := ⟨tb4 (List.mem_of_getElem? (i := 47) rfl), tb1 (List.mem_of_getElem? (i := 7) rfl), ⟨tb4 (List.mem_of_getElem? (i := 46) rfl), tb0 (List.mem_of_getElem? (i := 24) rfl)⟩, by decide +kernel, by decide, by decide⟩
theorem okX5_outcome : zckM RX5 false cX5_outcome 1 0 kX5_outcome = true := by decide +kernel
set_option maxRecDepth 100000 in
theorem mwX6_init : zmk 2 (yX6_init, cX6_init, 1, none, kX6_init) := ⟨tb1 (List.mem_of_getElem? (i := 26) rfl), tb1 (List.mem_of_getElem? (i := 2) rfl), ⟨tb1 (List.mem_of_getElem? (i := 25) rfl), rfl, rfl⟩, by decide +kernel, by decide, by decide⟩
theorem okX6_init : zckM RX6 true cX6_init 1 0 kX6_init = true := by decide +kernel
set_option maxRecDepth 100000 in
theorem mwX6_isRow : zmk 0 (yX6_isRow, cX6_isRow, 1, (some .boolean), kX6_isRow) := ⟨tb2 (List.mem_of_getElem? (i := 89) rfl), tb1 (List.mem_of_getElem? (i := 2) rfl), tb2 (List.mem_of_getElem? (i := 88) rfl), by decide +kernel, by decide, by decide⟩
theorem okX6_isRow : zckM RX6 false cX6_isRow 1 0 kX6_isRow = true := by decide +kernel
set_option maxRecDepth 100000 in
theorem mwX6_isMissing : zmk 1 (yX6_isMissing, cX6_isMissing, 2, (some .boolean), kX6_isMissing) := ⟨tb2 (List.mem_of_getElem? (i := 119) rfl), tb1 (List.mem_of_getElem? (i := 2) rfl), ⟨tb2 (List.mem_of_getElem? (i := 117) rfl), tb2 (List.mem_of_getElem? (i := 118) rfl)⟩, by decide +kernel, by decide, by decide⟩
theorem okX6_isMissing : zckM RX6 false cX6_isMissing 2 0 kX6_isMissing = true := by decide +kernel
set_option maxRecDepth 100000 in
theorem mwX6_findingFor : zmk 1 (yX6_findingFor, cX6_findingFor, 4, (some .int), kX6_findingFor) := ⟨tb2 (List.mem_of_getElem? (i := 115) rfl), tb1 (List.mem_of_getElem? (i := 2) rfl), ⟨tb2 (List.mem_of_getElem? (i := 113) rfl), tb2 (List.mem_of_getElem? (i := 114) rfl)⟩, by decide +kernel, by decide, by decide⟩
theorem okX6_findingFor : zckM RX6 false cX6_findingFor 4 0 kX6_findingFor = true := by decide +kernel
set_option maxRecDepth 100000 in
theorem mwX6_findingForTwo : zmk 1 (yX6_findingForTwo, cX6_findingForTwo, 6, (some .int), kX6_findingForTwo) := ⟨tb2 (List.mem_of_getElem? (i := 138) rfl), tb1 (List.mem_of_getElem? (i := 2) rfl), ⟨tb2 (List.mem_of_getElem? (i := 136) rfl), tb2 (List.mem_of_getElem? (i := 137) rfl)⟩, by decide +kernel, by decide, by decide⟩
theorem okX6_findingForTwo : zckM RX6 false cX6_findingForTwo 6 0 kX6_findingForTwo = true := by decide +kernel
set_option maxRecDepth 100000 in
theorem mwX6_hasPlaces : zmk 1 (yX6_hasPlaces, cX6_hasPlaces, 4, (some .boolean), kX6_hasPlaces) := ⟨tb2 (List.mem_of_getElem? (i := 123) rfl), tb1 (List.mem_of_getElem? (i := 2) rfl), ⟨tb2 (List.mem_of_getElem? (i := 122) rfl), tb0 (List.mem_of_getElem? (i := 2) rfl)⟩, by decide +kernel, by decide, by decide⟩
theorem okX6_hasPlaces : zckM RX6 false cX6_hasPlaces 4 0 kX6_hasPlaces = true := by decide +kernel
set_option maxRecDepth 100000 in
theorem mwX6_make : zmk 1 (yX6_make, cX6_make, 5, none, kX6_make) := ⟨tb2 (List.mem_of_getElem? (i := 102) rfl), tb1 (List.mem_of_getElem? (i := 2) rfl), ⟨tb2 (List.mem_of_getElem? (i := 100) rfl), tb2 (List.mem_of_getElem? (i := 101) rfl)⟩, by decide +kernel, by decide, by decide⟩
theorem okX6_make : zckM RX6 false cX6_make 5 0 kX6_make = true := by decide +kernel
set_option maxRecDepth 100000 in
theorem mwX6_put : zmk 1 (yX6_put, cX6_put, 4, (some .int), kX6_put) := ⟨tb2 (List.mem_of_getElem? (i := 127) rfl), tb1 (List.mem_of_getElem? (i := 2) rfl), ⟨tb2 (List.mem_of_getElem? (i := 125) rfl), tb2 (List.mem_of_getElem? (i := 126) rfl)⟩, by decide +kernel, by decide, by decide⟩
theorem okX6_put : zckM RX6 false cX6_put 4 0 kX6_put = true := by decide +kernel
set_option maxRecDepth 100000 in
theorem mwX6_lowestBits : zmk 0 (yX6_lowestBits, cX6_lowestBits, 2, (some .int), kX6_lowestBits) := ⟨tb2 (List.mem_of_getElem? (i := 130) rfl), tb1 (List.mem_of_getElem? (i := 2) rfl), tb2 (List.mem_of_getElem? (i := 129) rfl), by decide +kernel, by decide, by decide⟩
theorem okX6_lowestBits : zckM RX6 false cX6_lowestBits 2 0 kX6_lowestBits = true := by decide +kernel
set_option maxRecDepth 100000 in
theorem mwX6_itemAt : zmk 1 (yX6_itemAt, cX6_itemAt, 3, (some .int), kX6_itemAt) := ⟨tb4 (List.mem_of_getElem? (i := 66) rfl), tb1 (List.mem_of_getElem? (i := 2) rfl), ⟨tb4 (List.mem_of_getElem? (i := 64) rfl), tb4 (List.mem_of_getElem? (i := 65) rfl)⟩, by decide +kernel, by decide, by decide⟩
theorem okX6_itemAt : zckM RX6 false cX6_itemAt 3 0 kX6_itemAt = true := by decide +kernel
set_option maxRecDepth 100000 in
theorem mwX6_move : zmk 1 (yX6_move, cX6_move, 6, none, kX6_move) := ⟨tb2 (List.mem_of_getElem? (i := 142) rfl), tb1 (List.mem_of_getElem? (i := 2) rfl), ⟨tb2 (List.mem_of_getElem? (i := 140) rfl), tb2 (List.mem_of_getElem? (i := 141) rfl)⟩, by decide +kernel, by decide, by decide⟩
theorem okX6_move : zckM RX6 false cX6_move 6 0 kX6_move = true := by decide +kernel
set_option maxRecDepth 100000 in
theorem mwX6_lose : zmk 1 (yX6_lose, cX6_lose, 3, (some .int), kX6_lose) := ⟨tb2 (List.mem_of_getElem? (i := 154) rfl), tb1 (List.mem_of_getElem? (i := 2) rfl), ⟨tb2 (List.mem_of_getElem? (i := 152) rfl), tb2 (List.mem_of_getElem? (i := 153) rfl)⟩, by decide +kernel, by decide, by decide⟩
theorem okX6_lose : zckM RX6 false cX6_lose 3 0 kX6_lose = true := by decide +kernel
set_option maxRecDepth 100000 in
theorem mwX6_howMany : zmk 1 (yX6_howMany, cX6_howMany, 3, (some .int), kX6_howMany) := ⟨tb4 (List.mem_of_getElem? (i := 219) rfl), tb1 (List.mem_of_getElem? (i := 2) rfl), ⟨tb4 (List.mem_of_getElem? (i := 217) rfl), tb4 (List.mem_of_getElem? (i := 218) rfl)⟩, by decide +kernel, by decide, by decide⟩
theorem okX6_howMany : zckM RX6 false cX6_howMany 3 0 kX6_howMany = true := by decide +kernel
set_option maxRecDepth 100000 in
theorem mwX7_init : zmk 2 (yX7_init, cX7_init, 1, none, kX7_init) := ⟨tb1 (List.mem_of_getElem? (i := 117) rfl), tb1 (List.mem_of_getElem? (i := 4) rfl), ⟨tb1 (List.mem_of_getElem? (i := 116) rfl), rfl, rfl⟩, by decide +kernel, by decide, by decide⟩
theorem okX7_init : zckM RX7 true cX7_init 1 0 kX7_init = true := by decide +kernel
set_option maxRecDepth 100000 in
theorem mwX7_size : zmk 1 (yX7_size, cX7_size, 1, (some .int), kX7_size) := ⟨tb4 (List.mem_of_getElem? (i := 224) rfl), tb1 (List.mem_of_getElem? (i := 4) rfl), ⟨tb4 (List.mem_of_getElem? (i := 222) rfl), tb4 (List.mem_of_getElem? (i := 223) rfl)⟩, by decide +kernel, by decide, by decide⟩
theorem okX7_size : zckM RX7 false cX7_size 1 0 kX7_size = true := by decide +kernel
set_option maxRecDepth 100000 in
theorem mwX7_isFull : zmk 1 (yX7_isFull, cX7_isFull, 1, (some .boolean), kX7_isFull) := ⟨tb2 (List.mem_of_getElem? (i := 162) rfl), tb1 (List.mem_of_getElem? (i := 4) rfl), ⟨tb2 (List.mem_of_getElem? (i := 160) rfl), tb2 (List.mem_of_getElem? (i := 161) rfl)⟩, by decide +kernel, by decide, by decide⟩
theorem okX7_isFull : zckM RX7 false cX7_isFull 1 0 kX7_isFull = true := by decide +kernel
set_option maxRecDepth 100000 in
theorem mwX7_add : zmk 1 (yX7_add, cX7_add, 2, (some .int), kX7_add) := ⟨tb2 (List.mem_of_getElem? (i := 167) rfl), tb1 (List.mem_of_getElem? (i := 4) rfl), ⟨tb2 (List.mem_of_getElem? (i := 165) rfl), tb2 (List.mem_of_getElem? (i := 166) rfl)⟩, by decide +kernel, by decide, by decide⟩
theorem okX7_add : zckM RX7 false cX7_add 2 0 kX7_add = true := by decide +kernel
