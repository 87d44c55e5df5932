set_option maxRecDepth 100000 in
theorem bX9_in_0 (X : Nat → Nat → Int32) (C : Nat → List zV → zS → Option zR) (L : List zK) (I : Nat → Nat → Int32) (J : Nat → Nat → Int64) (a1 : Int64) (a2 : Int64) (a3 : Int64) : zgo X C (some .boolean) kX9_in 0 [some (.inr (.inl a1)), none, some (.inr (.inl a2)), none, some (.inr (.inl a3)), none] [] (L, zB1, I, J) = if (lg_cmp a1 a2) < 0 then some (some (.inl 0), (L, zB1, I, J)) else if 0 < (lg_cmp a1 a3) then some (some (.inl 0), (L, zB1, I, J)) else some (some (.inl 1), (L, zB1, I, J)) := by
  rw [zgo_run X C _ _ [0] 12]
  rfl

set_option maxRecDepth 100000 in
theorem bX9_finding_0 (X : Nat → Nat → Int32) (C : Nat → List zV → zS → Option zR) (L : List zK) (I : Nat → Nat → Int32) (J : Nat → Nat → Int64) (a1 : Int32) : zgo X C (some .int) kX9_finding 0 [some (.inr (.inr (some (.inl 9, 283)))), some (.inl a1)] [] (L, zB1, I, J) = some (some (.inl ((-1000010) - a1)), (L, zB1, (zup I 283 1 a1), J)) := by
  rw [zgo_run X C _ _ [0] 8]
  rfl

set_option maxRecDepth 100000 in
theorem bX9_isRow_0 (X : Nat → Nat → Int32) (C : Nat → List zV → zS → Option zR) (L : List zK) (I : Nat → Nat → Int32) (J : Nat → Nat → Int64) (a1 : Int32) : zgo X C (some .boolean) kX9_isRow 0 [some (.inl a1)] [] (L, zB1, I, J) = cI (C 153 [.inr (.inl ((a1).toInt64)), .inr (.inl 0), .inr (.inl 7)] (L, zB1, I, J)) (fun r σ => zgo X C (some .boolean) kX9_isRow 9 [some (.inl a1)] [.inl r] σ) := by
  rw [zgo_run X C _ _ [0, 9] 6]
  rfl
set_option maxRecDepth 100000 in
theorem bX9_isRow_9 (X : Nat → Nat → Int32) (C : Nat → List zV → zS → Option zR) (L : List zK) (I : Nat → Nat → Int32) (J : Nat → Nat → Int64) (v0 : Int32) (s0 : Int32) : zgo X C (some .boolean) kX9_isRow 9 [some (.inl v0)] [.inl s0] (L, zB1, I, J) = zret (some .boolean) (some (.inl s0)) (L, zB1, I, J) := by
  rw [zgo_run X C _ _ [0, 9] 2]
  rfl

set_option maxRecDepth 100000 in
theorem bX9_row_0 (X : Nat → Nat → Int32) (C : Nat → List zV → zS → Option zR) (L : List zK) (I : Nat → Nat → Int32) (J : Nat → Nat → Int64) (a1 : Int32) (a2 : Int32) (a3 : Int32) : zgo X C (some .int) kX9_row 0 [some (.inr (.inr (some (.inl 9, 283)))), some (.inl a1), some (.inl a2), some (.inl a3), none] [] (L, zB1, I, J) = cI (C 155 [.inl a1] (L, zB1, (zup I 283 0 0), J)) (fun r σ => zgo X C (some .int) kX9_row 9 [some (.inr (.inr (some (.inl 9, 283)))), some (.inl a1), some (.inl a2), some (.inl a3), none] [.inl r] σ) := by
  rw [zgo_run X C _ _ [0, 9, 21, 47, 65] 6]
  rfl
set_option maxRecDepth 100000 in
theorem bX9_row_9 (X : Nat → Nat → Int32) (C : Nat → List zV → zS → Option zR) (L : List zK) (I : Nat → Nat → Int32) (J : Nat → Nat → Int64) (v1 : Int32) (v2 : Int32) (v3 : Int32) (s0 : Int32) : zgo X C (some .int) kX9_row 9 [some (.inr (.inr (some (.inl 9, 283)))), some (.inl v1), some (.inl v2), some (.inl v3), none] [.inl s0] (L, zB1, I, J) = if s0 = 0 then some (some (.inl (-1000001)), (L, zB1, I, J)) else cI (C 153 [.inr (.inl ((v2).toInt64)), .inr (.inl 0), .inr (.inl 2)] (L, zB1, I, J)) (fun r σ => zgo X C (some .int) kX9_row 21 [some (.inr (.inr (some (.inl 9, 283)))), some (.inl v1), some (.inl v2), some (.inl v3), none] [.inl r] σ) := by
  rw [zgo_run X C _ _ [0, 9, 21, 47, 65] 7]
  rfl
set_option maxRecDepth 100000 in
theorem bX9_row_21 (X : Nat → Nat → Int32) (C : Nat → List zV → zS → Option zR) (L : List zK) (I : Nat → Nat → Int32) (J : Nat → Nat → Int64) (v1 : Int32) (v2 : Int32) (v3 : Int32) (s0 : Int32) : zgo X C (some .int) kX9_row 21 [some (.inr (.inr (some (.inl 9, 283)))), some (.inl v1), some (.inl v2), some (.inl v3), none] [.inl s0] (L, zB1, I, J) = if s0 = 0 then some (some (.inl (-1000001)), (L, zB1, I, J)) else if v3 ≤ 40 then if 0 ≤ v3 then zbt (zin v1 8) (zbt (zin v1 8) (zgo X C (some .int) kX9_row 65 [some (.inr (.inr (some (.inl 9, 283)))), some (.inl v1), some (.inl v2), some (.inl v3), some (.inl 0)] [] (L, zB1, (zup (zup (zup I 283 1 0) 284 v1.toNatClampNeg v2) 285 v1.toNatClampNeg v3), J))) else cI (C 154 [.inr (.inr (some (.inl 9, 283))), .inl 4] (L, zB1, (zup I 283 1 0), J)) (fun r σ => zgo X C (some .int) kX9_row 47 [some (.inr (.inr (some (.inl 9, 283)))), some (.inl v1), some (.inl v2), some (.inl v3), none] [.inl r] σ) else some (some (.inl (-1000001)), (L, zB1, I, J)) := by
  rw [zgo_run X C _ _ [0, 9, 21, 47, 65] 22]
  rfl
set_option maxRecDepth 100000 in
theorem bX9_row_47 (X : Nat → Nat → Int32) (C : Nat → List zV → zS → Option zR) (L : List zK) (I : Nat → Nat → Int32) (J : Nat → Nat → Int64) (v1 : Int32) (v2 : Int32) (v3 : Int32) (s0 : Int32) : zgo X C (some .int) kX9_row 47 [some (.inr (.inr (some (.inl 9, 283)))), some (.inl v1), some (.inl v2), some (.inl v3), none] [.inl s0] (L, zB1, I, J) = some (some (.inl s0), (L, zB1, I, J)) := by
  rw [zgo_run X C _ _ [0, 9, 21, 47, 65] 2]
  rfl
set_option maxRecDepth 100000 in
theorem bX9_row_65 (X : Nat → Nat → Int32) (C : Nat → List zV → zS → Option zR) (L : List zK) (I : Nat → Nat → Int32) (J : Nat → Nat → Int64) (v1 : Int32) (v2 : Int32) (v3 : Int32) (v4 : Int32) : zgo X C (some .int) kX9_row 65 [some (.inr (.inr (some (.inl 9, 283)))), some (.inl v1), some (.inl v2), some (.inl v3), some (.inl v4)] [] (L, zB1, I, J) = if (40 : Int32) ≤ v4 then some (some (.inl v3), (L, zB1, I, J)) else zbt (zin ((40 * v1) + v4) 320) (zgo X C (some .int) kX9_row 65 [some (.inr (.inr (some (.inl 9, 283)))), some (.inl v1), some (.inl v2), some (.inl v3), some (.inl (v4 + 1))] [] (L, zB1, (zup I 286 ((40 * v1) + v4).toNatClampNeg 0), J)) := by
  rw [zgo_run X C _ _ [0, 9, 21, 47, 65] 15]
  rfl

set_option maxRecDepth 100000 in
theorem bX9_set_0 (X : Nat → Nat → Int32) (C : Nat → List zV → zS → Option zR) (L : List zK) (I : Nat → Nat → Int32) (J : Nat → Nat → Int64) (a1 : Int32) (a2 : Int32) (a3 : Int32) : zgo X C (some .int) kX9_set 0 [some (.inr (.inr (some (.inl 9, 283)))), some (.inl a1), some (.inl a2), some (.inl a3)] [] (L, zB1, I, J) = cI (C 155 [.inl a1] (L, zB1, (zup I 283 0 0), J)) (fun r σ => zgo X C (some .int) kX9_set 9 [some (.inr (.inr (some (.inl 9, 283)))), some (.inl a1), some (.inl a2), some (.inl a3)] [.inl r] σ) := by
  rw [zgo_run X C _ _ [0, 9, 34, 50, 58, 99] 6]
  rfl
set_option maxRecDepth 100000 in
theorem bX9_set_9 (X : Nat → Nat → Int32) (C : Nat → List zV → zS → Option zR) (L : List zK) (I : Nat → Nat → Int32) (J : Nat → Nat → Int64) (v1 : Int32) (v2 : Int32) (v3 : Int32) (s0 : Int32) : zgo X C (some .int) kX9_set 9 [some (.inr (.inr (some (.inl 9, 283)))), some (.inl v1), some (.inl v2), some (.inl v3)] [.inl s0] (L, zB1, I, J) = if s0 = 0 then some (some (.inl (-1000001)), (L, zB1, I, J)) else zbt (zin v1 8) (if 0 ≤ ((zup I 283 1 0) 284 v1.toNatClampNeg) then zbt (zin v1 8) (cI (C 153 [.inr (.inl ((v2).toInt64)), .inr (.inl 0), .inr (.inl (((((zup I 283 1 0) 285 v1.toNatClampNeg) - 1)).toInt64))] (L, zB1, (zup I 283 1 0), J)) (fun r σ => zgo X C (some .int) kX9_set 50 [some (.inr (.inr (some (.inl 9, 283)))), some (.inl v1), some (.inl v2), some (.inl v3)] [.inl r] σ)) else cI (C 154 [.inr (.inr (some (.inl 9, 283))), .inl 1] (L, zB1, (zup I 283 1 0), J)) (fun r σ => zgo X C (some .int) kX9_set 34 [some (.inr (.inr (some (.inl 9, 283)))), some (.inl v1), some (.inl v2), some (.inl v3)] [.inl r] σ)) := by
  rw [zgo_run X C _ _ [0, 9, 34, 50, 58, 99] 21]
  rfl
set_option maxRecDepth 100000 in
theorem bX9_set_34 (X : Nat → Nat → Int32) (C : Nat → List zV → zS → Option zR) (L : List zK) (I : Nat → Nat → Int32) (J : Nat → Nat → Int64) (v1 : Int32) (v2 : Int32) (v3 : Int32) (s0 : Int32) : zgo X C (some .int) kX9_set 34 [some (.inr (.inr (some (.inl 9, 283)))), some (.inl v1), some (.inl v2), some (.inl v3)] [.inl s0] (L, zB1, I, J) = some (some (.inl s0), (L, zB1, I, J)) := by
  rw [zgo_run X C _ _ [0, 9, 34, 50, 58, 99] 2]
  rfl
set_option maxRecDepth 100000 in
theorem bX9_set_50 (X : Nat → Nat → Int32) (C : Nat → List zV → zS → Option zR) (L : List zK) (I : Nat → Nat → Int32) (J : Nat → Nat → Int64) (v1 : Int32) (v2 : Int32) (v3 : Int32) (s0 : Int32) : zgo X C (some .int) kX9_set 50 [some (.inr (.inr (some (.inl 9, 283)))), some (.inl v1), some (.inl v2), some (.inl v3)] [.inl s0] (L, zB1, I, J) = if s0 = 0 then cI (C 154 [.inr (.inr (some (.inl 9, 283))), .inl 2] (L, zB1, I, J)) (fun r σ => zgo X C (some .int) kX9_set 58 [some (.inr (.inr (some (.inl 9, 283)))), some (.inl v1), some (.inl v2), some (.inl v3)] [.inl r] σ) else zbt (zin v1 8) (if (I 284 v1.toNatClampNeg) = 0 then zgo X C (some .int) kX9_set 99 [some (.inr (.inr (some (.inl 9, 283)))), some (.inl v1), some (.inl v2), some (.inl v3)] [.inl v3.toInt8.toInt32, .inl ((40 * v1) + v2), .inr (.inr (some (.inr (.int, 320), 286)))] (L, zB1, I, J) else zbt (zin v1 8) (if (I 284 v1.toNatClampNeg) = 1 then zgo X C (some .int) kX9_set 99 [some (.inr (.inr (some (.inl 9, 283)))), some (.inl v1), some (.inl v2), some (.inl v3)] [.inl v3.toInt16.toInt32, .inl ((40 * v1) + v2), .inr (.inr (some (.inr (.int, 320), 286)))] (L, zB1, I, J) else zgo X C (some .int) kX9_set 99 [some (.inr (.inr (some (.inl 9, 283)))), some (.inl v1), some (.inl v2), some (.inl v3)] [.inl v3, .inl ((40 * v1) + v2), .inr (.inr (some (.inr (.int, 320), 286)))] (L, zB1, I, J))) := by
  rw [zgo_run X C _ _ [0, 9, 34, 50, 58, 99] 23]
  rfl
set_option maxRecDepth 100000 in
theorem bX9_set_58 (X : Nat → Nat → Int32) (C : Nat → List zV → zS → Option zR) (L : List zK) (I : Nat → Nat → Int32) (J : Nat → Nat → Int64) (v1 : Int32) (v2 : Int32) (v3 : Int32) (s0 : Int32) : zgo X C (some .int) kX9_set 58 [some (.inr (.inr (some (.inl 9, 283)))), some (.inl v1), some (.inl v2), some (.inl v3)] [.inl s0] (L, zB1, I, J) = some (some (.inl s0), (L, zB1, I, J)) := by
  rw [zgo_run X C _ _ [0, 9, 34, 50, 58, 99] 2]
  rfl
set_option maxRecDepth 100000 in
theorem bX9_set_99 (X : Nat → Nat → Int32) (C : Nat → List zV → zS → Option zR) (L : List zK) (I : Nat → Nat → Int32) (J : Nat → Nat → Int64) (v1 : Int32) (v2 : Int32) (v3 : Int32) (s0 : Int32) (s1 : Int32) : zgo X C (some .int) kX9_set 99 [some (.inr (.inr (some (.inl 9, 283)))), some (.inl v1), some (.inl v2), some (.inl v3)] [.inl s0, .inl s1, .inr (.inr (some (.inr (.int, 320), 286)))] (L, zB1, I, J) = zbt (zin s1 320) (zbt (zin ((40 * v1) + v2) 320) (some (some (.inl ((zup I 286 s1.toNatClampNeg s0) 286 ((40 * v1) + v2).toNatClampNeg)), (L, zB1, (zup I 286 s1.toNatClampNeg s0), J)))) := by
  rw [zgo_run X C _ _ [0, 9, 34, 50, 58, 99] 11]
  rfl

set_option maxRecDepth 100000 in
theorem bX9_copy_0 (X : Nat → Nat → Int32) (C : Nat → List zV → zS → Option zR) (L : List zK) (I : Nat → Nat → Int32) (J : Nat → Nat → Int64) (a1 : Int32) (a2 : Int32) (a3 : Int32) (a4 : Int32) (a5 : Int32) : zgo X C (some .int) kX9_copy 0 [some (.inr (.inr (some (.inl 9, 283)))), some (.inl a1), some (.inl a2), some (.inl a3), some (.inl a4), some (.inl a5), none, none, none] [] (L, zB1, I, J) = cI (C 155 [.inl a1] (L, zB1, (zup I 283 0 0), J)) (fun r σ => zgo X C (some .int) kX9_copy 9 [some (.inr (.inr (some (.inl 9, 283)))), some (.inl a1), some (.inl a2), some (.inl a3), some (.inl a4), some (.inl a5), none, none, none] [.inl r] σ) := by
  rw [zgo_run X C _ _ [0, 9, 16, 50, 71, 126, 143, 167] 6]
  rfl
set_option maxRecDepth 100000 in
theorem bX9_copy_9 (X : Nat → Nat → Int32) (C : Nat → List zV → zS → Option zR) (L : List zK) (I : Nat → Nat → Int32) (J : Nat → Nat → Int64) (v1 : Int32) (v2 : Int32) (v3 : Int32) (v4 : Int32) (v5 : Int32) (s0 : Int32) : zgo X C (some .int) kX9_copy 9 [some (.inr (.inr (some (.inl 9, 283)))), some (.inl v1), some (.inl v2), some (.inl v3), some (.inl v4), some (.inl v5), none, none, none] [.inl s0] (L, zB1, I, J) = if s0 = 0 then some (some (.inl (-1000001)), (L, zB1, I, J)) else cI (C 155 [.inl v3] (L, zB1, I, J)) (fun r σ => zgo X C (some .int) kX9_copy 16 [some (.inr (.inr (some (.inl 9, 283)))), some (.inl v1), some (.inl v2), some (.inl v3), some (.inl v4), some (.inl v5), none, none, none] [.inl r] σ) := by
  rw [zgo_run X C _ _ [0, 9, 16, 50, 71, 126, 143, 167] 4]
  rfl
set_option maxRecDepth 100000 in
theorem bX9_copy_16 (X : Nat → Nat → Int32) (C : Nat → List zV → zS → Option zR) (L : List zK) (I : Nat → Nat → Int32) (J : Nat → Nat → Int64) (v1 : Int32) (v2 : Int32) (v3 : Int32) (v4 : Int32) (v5 : Int32) (s0 : Int32) : zgo X C (some .int) kX9_copy 16 [some (.inr (.inr (some (.inl 9, 283)))), some (.inl v1), some (.inl v2), some (.inl v3), some (.inl v4), some (.inl v5), none, none, none] [.inl s0] (L, zB1, I, J) = if s0 = 0 then some (some (.inl (-1000001)), (L, zB1, I, J)) else zbt (zin v1 8) (if ((zup I 283 1 0) 284 v1.toNatClampNeg) < 0 then cI (C 154 [.inr (.inr (some (.inl 9, 283))), .inl 1] (L, zB1, (zup I 283 1 0), J)) (fun r σ => zgo X C (some .int) kX9_copy 50 [some (.inr (.inr (some (.inl 9, 283)))), some (.inl v1), some (.inl v2), some (.inl v3), some (.inl v4), some (.inl v5), none, none, none] [.inl r] σ) else zbt (zin v3 8) (if 0 ≤ ((zup I 283 1 0) 284 v3.toNatClampNeg) then zbt (zin v1 8) (zbt (zin v3 8) (if ((zup I 283 1 0) 284 v1.toNatClampNeg) = ((zup I 283 1 0) 284 v3.toNatClampNeg) then if v2 < 0 then cI (C 154 [.inr (.inr (some (.inl 9, 283))), .inl 2] (L, zB1, (zup I 283 1 0), J)) (fun r σ => zgo X C (some .int) kX9_copy 126 [some (.inr (.inr (some (.inl 9, 283)))), some (.inl v1), some (.inl v2), some (.inl v3), some (.inl v4), some (.inl v5), none, none, none] [.inl r] σ) else if v4 < 0 then cI (C 154 [.inr (.inr (some (.inl 9, 283))), .inl 2] (L, zB1, (zup I 283 1 0), J)) (fun r σ => zgo X C (some .int) kX9_copy 126 [some (.inr (.inr (some (.inl 9, 283)))), some (.inl v1), some (.inl v2), some (.inl v3), some (.inl v4), some (.inl v5), none, none, none] [.inl r] σ) else if v5 < 0 then cI (C 154 [.inr (.inr (some (.inl 9, 283))), .inl 2] (L, zB1, (zup I 283 1 0), J)) (fun r σ => zgo X C (some .int) kX9_copy 126 [some (.inr (.inr (some (.inl 9, 283)))), some (.inl v1), some (.inl v2), some (.inl v3), some (.inl v4), some (.inl v5), none, none, none] [.inl r] σ) else zbt (zin v1 8) (if 0 < (lg_cmp ((v2).toInt64 + (v5).toInt64) ((((zup I 283 1 0) 285 v1.toNatClampNeg)).toInt64)) then cI (C 154 [.inr (.inr (some (.inl 9, 283))), .inl 2] (L, zB1, (zup I 283 1 0), J)) (fun r σ => zgo X C (some .int) kX9_copy 126 [some (.inr (.inr (some (.inl 9, 283)))), some (.inl v1), some (.inl v2), some (.inl v3), some (.inl v4), some (.inl v5), none, none, none] [.inl r] σ) else zbt (zin v3 8) (if (lg_cmp ((v4).toInt64 + (v5).toInt64) ((((zup I 283 1 0) 285 v3.toNatClampNeg)).toInt64)) ≤ 0 then if v2 < v4 then zgo X C (some .int) kX9_copy 143 [some (.inr (.inr (some (.inl 9, 283)))), some (.inl v1), some (.inl v2), some (.inl v3), some (.inl v4), some (.inl v5), some (.inl 0), some (.inl 0), none] [] (L, zB1, (zup I 283 1 0), J) else zgo X C (some .int) kX9_copy 143 [some (.inr (.inr (some (.inl 9, 283)))), some (.inl v1), some (.inl v2), some (.inl v3), some (.inl v4), some (.inl v5), some (.inl 1), some (.inl 0), none] [] (L, zB1, (zup I 283 1 0), J) else cI (C 154 [.inr (.inr (some (.inl 9, 283))), .inl 2] (L, zB1, (zup I 283 1 0), J)) (fun r σ => zgo X C (some .int) kX9_copy 126 [some (.inr (.inr (some (.inl 9, 283)))), some (.inl v1), some (.inl v2), some (.inl v3), some (.inl v4), some (.inl v5), none, none, none] [.inl r] σ))) else cI (C 154 [.inr (.inr (some (.inl 9, 283))), .inl 5] (L, zB1, (zup I 283 1 0), J)) (fun r σ => zgo X C (some .int) kX9_copy 71 [some (.inr (.inr (some (.inl 9, 283)))), some (.inl v1), some (.inl v2), some (.inl v3), some (.inl v4), some (.inl v5), none, none, none] [.inl r] σ))) else cI (C 154 [.inr (.inr (some (.inl 9, 283))), .inl 1] (L, zB1, (zup I 283 1 0), J)) (fun r σ => zgo X C (some .int) kX9_copy 50 [some (.inr (.inr (some (.inl 9, 283)))), some (.inl v1), some (.inl v2), some (.inl v3), some (.inl v4), some (.inl v5), none, none, none] [.inl r] σ))) := by
  rw [zgo_run X C _ _ [0, 9, 16, 50, 71, 126, 143, 167] 62]
  rfl
set_option maxRecDepth 100000 in
theorem bX9_copy_50 (X : Nat → Nat → Int32) (C : Nat → List zV → zS → Option zR) (L : List zK) (I : Nat → Nat → Int32) (J : Nat → Nat → Int64) (v1 : Int32) (v2 : Int32) (v3 : Int32) (v4 : Int32) (v5 : Int32) (s0 : Int32) : zgo X C (some .int) kX9_copy 50 [some (.inr (.inr (some (.inl 9, 283)))), some (.inl v1), some (.inl v2), some (.inl v3), some (.inl v4), some (.inl v5), none, none, none] [.inl s0] (L, zB1, I, J) = some (some (.inl s0), (L, zB1, I, J)) := by
  rw [zgo_run X C _ _ [0, 9, 16, 50, 71, 126, 143, 167] 2]
  rfl
set_option maxRecDepth 100000 in
theorem bX9_copy_71 (X : Nat → Nat → Int32) (C : Nat → List zV → zS → Option zR) (L : List zK) (I : Nat → Nat → Int32) (J : Nat → Nat → Int64) (v1 : Int32) (v2 : Int32) (v3 : Int32) (v4 : Int32) (v5 : Int32) (s0 : Int32) : zgo X C (some .int) kX9_copy 71 [some (.inr (.inr (some (.inl 9, 283)))), some (.inl v1), some (.inl v2), some (.inl v3), some (.inl v4), some (.inl v5), none, none, none] [.inl s0] (L, zB1, I, J) = some (some (.inl s0), (L, zB1, I, J)) := by
  rw [zgo_run X C _ _ [0, 9, 16, 50, 71, 126, 143, 167] 2]
  rfl
set_option maxRecDepth 100000 in
theorem bX9_copy_126 (X : Nat → Nat → Int32) (C : Nat → List zV → zS → Option zR) (L : List zK) (I : Nat → Nat → Int32) (J : Nat → Nat → Int64) (v1 : Int32) (v2 : Int32) (v3 : Int32) (v4 : Int32) (v5 : Int32) (s0 : Int32) : zgo X C (some .int) kX9_copy 126 [some (.inr (.inr (some (.inl 9, 283)))), some (.inl v1), some (.inl v2), some (.inl v3), some (.inl v4), some (.inl v5), none, none, none] [.inl s0] (L, zB1, I, J) = some (some (.inl s0), (L, zB1, I, J)) := by
  rw [zgo_run X C _ _ [0, 9, 16, 50, 71, 126, 143, 167] 2]
  rfl
set_option maxRecDepth 100000 in
theorem bX9_copy_143 (X : Nat → Nat → Int32) (C : Nat → List zV → zS → Option zR) (L : List zK) (I : Nat → Nat → Int32) (J : Nat → Nat → Int64) (v1 : Int32) (v2 : Int32) (v3 : Int32) (v4 : Int32) (v5 : Int32) (v6 : Int32) (v7 : Int32) (u8 : Option zV) : zgo X C (some .int) kX9_copy 143 [some (.inr (.inr (some (.inl 9, 283)))), some (.inl v1), some (.inl v2), some (.inl v3), some (.inl v4), some (.inl v5), some (.inl v6), some (.inl v7), u8] [] (L, zB1, I, J) = if v5 ≤ v7 then some (some (.inl v5), (L, zB1, I, J)) else if v6 = 0 then zgo X C (some .int) kX9_copy 167 [some (.inr (.inr (some (.inl 9, 283)))), some (.inl v1), some (.inl v2), some (.inl v3), some (.inl v4), some (.inl v5), some (.inl v6), some (.inl v7), u8] [.inl ((v5 - 1) - v7)] (L, zB1, I, J) else zgo X C (some .int) kX9_copy 167 [some (.inr (.inr (some (.inl 9, 283)))), some (.inl v1), some (.inl v2), some (.inl v3), some (.inl v4), some (.inl v5), some (.inl v6), some (.inl v7), u8] [.inl v7] (L, zB1, I, J) := by
  rw [zgo_run X C _ _ [0, 9, 16, 50, 71, 126, 143, 167] 11]
  rfl
set_option maxRecDepth 100000 in
theorem bX9_copy_167 (X : Nat → Nat → Int32) (C : Nat → List zV → zS → Option zR) (L : List zK) (I : Nat → Nat → Int32) (J : Nat → Nat → Int64) (v1 : Int32) (v2 : Int32) (v3 : Int32) (v4 : Int32) (v5 : Int32) (v6 : Int32) (v7 : Int32) (u8 : Option zV) (s0 : Int32) : zgo X C (some .int) kX9_copy 167 [some (.inr (.inr (some (.inl 9, 283)))), some (.inl v1), some (.inl v2), some (.inl v3), some (.inl v4), some (.inl v5), some (.inl v6), some (.inl v7), u8] [.inl s0] (L, zB1, I, J) = zbt (zin (((40 * v1) + v2) + s0) 320) (zbt (zin (((40 * v3) + v4) + s0) 320) (zgo X C (some .int) kX9_copy 143 [some (.inr (.inr (some (.inl 9, 283)))), some (.inl v1), some (.inl v2), some (.inl v3), some (.inl v4), some (.inl v5), some (.inl v6), some (.inl (v7 + 1)), some (.inl s0)] [] (L, zB1, (zup I 286 (((40 * v3) + v4) + s0).toNatClampNeg (I 286 (((40 * v1) + v2) + s0).toNatClampNeg)), J))) := by
  rw [zgo_run X C _ _ [0, 9, 16, 50, 71, 126, 143, 167] 24]
  rfl

set_option maxRecDepth 100000 in
theorem bX9_drop_0 (X : Nat → Nat → Int32) (C : Nat → List zV → zS → Option zR) (L : List zK) (I : Nat → Nat → Int32) (J : Nat → Nat → Int64) (a1 : Int32) : zgo X C (some .int) kX9_drop 0 [some (.inr (.inr (some (.inl 9, 283)))), some (.inl a1)] [] (L, zB1, I, J) = cI (C 155 [.inl a1] (L, zB1, (zup I 283 0 0), J)) (fun r σ => zgo X C (some .int) kX9_drop 9 [some (.inr (.inr (some (.inl 9, 283)))), some (.inl a1)] [.inl r] σ) := by
  rw [zgo_run X C _ _ [0, 9, 34] 6]
  rfl
set_option maxRecDepth 100000 in
theorem bX9_drop_9 (X : Nat → Nat → Int32) (C : Nat → List zV → zS → Option zR) (L : List zK) (I : Nat → Nat → Int32) (J : Nat → Nat → Int64) (v1 : Int32) (s0 : Int32) : zgo X C (some .int) kX9_drop 9 [some (.inr (.inr (some (.inl 9, 283)))), some (.inl v1)] [.inl s0] (L, zB1, I, J) = if s0 = 0 then some (some (.inl (-1000001)), (L, zB1, I, J)) else zbt (zin v1 8) (if 0 ≤ ((zup I 283 1 0) 284 v1.toNatClampNeg) then zbt (zin v1 8) (zbt (zin v1 8) (some (some (.inl ((zup (zup I 283 1 0) 284 v1.toNatClampNeg (-1)) 285 v1.toNatClampNeg)), (L, zB1, (zup (zup I 283 1 0) 284 v1.toNatClampNeg (-1)), J)))) else cI (C 154 [.inr (.inr (some (.inl 9, 283))), .inl 1] (L, zB1, (zup I 283 1 0), J)) (fun r σ => zgo X C (some .int) kX9_drop 34 [some (.inr (.inr (some (.inl 9, 283)))), some (.inl v1)] [.inl r] σ)) := by
  rw [zgo_run X C _ _ [0, 9, 34] 20]
  rfl
set_option maxRecDepth 100000 in
theorem bX9_drop_34 (X : Nat → Nat → Int32) (C : Nat → List zV → zS → Option zR) (L : List zK) (I : Nat → Nat → Int32) (J : Nat → Nat → Int64) (v1 : Int32) (s0 : Int32) : zgo X C (some .int) kX9_drop 34 [some (.inr (.inr (some (.inl 9, 283)))), some (.inl v1)] [.inl s0] (L, zB1, I, J) = some (some (.inl s0), (L, zB1, I, J)) := by
  rw [zgo_run X C _ _ [0, 9, 34] 2]
  rfl

set_option maxRecDepth 100000 in
theorem bX9_feed_0 (X : Nat → Nat → Int32) (C : Nat → List zV → zS → Option zR) (L : List zK) (I : Nat → Nat → Int32) (J : Nat → Nat → Int64) (a1 : Int32) : zgo X C (some .int) kX9_feed 0 [some (.inr (.inr (some (.inl 9, 283)))), some (.inl a1)] [] (L, zB1, I, J) = cI (C 153 [.inr (.inl ((a1).toInt64)), .inr (.inl 0), .inr (.inl 255)] (L, zB1, (zup I 283 0 0), J)) (fun r σ => zgo X C (some .int) kX9_feed 14 [some (.inr (.inr (some (.inl 9, 283)))), some (.inl a1)] [.inl r] σ) := by
  rw [zgo_run X C _ _ [0, 14] 9]
  rfl
set_option maxRecDepth 100000 in
theorem bX9_feed_14 (X : Nat → Nat → Int32) (C : Nat → List zV → zS → Option zR) (L : List zK) (I : Nat → Nat → Int32) (J : Nat → Nat → Int64) (v1 : Int32) (s0 : Int32) : zgo X C (some .int) kX9_feed 14 [some (.inr (.inr (some (.inl 9, 283)))), some (.inl v1)] [.inl s0] (L, zB1, I, J) = if s0 = 0 then some (some (.inl (-1000001)), (L, zB1, I, J)) else if (I 283 11) = 120 then some (some (.inl (-1000003)), (L, zB1, I, J)) else zbt (zin (I 283 11) 120) (some (some (.inl ((zup (zup I 291 (I 283 11).toNatClampNeg v1) 283 11 (((zup I 291 (I 283 11).toNatClampNeg v1) 283 11) + 1)) 283 11)), (L, zB1, (zup (zup I 291 (I 283 11).toNatClampNeg v1) 283 11 (((zup I 291 (I 283 11).toNatClampNeg v1) 283 11) + 1)), J))) := by
  rw [zgo_run X C _ _ [0, 14] 21]
  rfl

set_option maxRecDepth 100000 in
theorem bX9_bad_0 (X : Nat → Nat → Int32) (C : Nat → List zV → zS → Option zR) (L : List zK) (I : Nat → Nat → Int32) (J : Nat → Nat → Int64) (a1 : Int32) : zgo X C none kX9_bad 0 [some (.inr (.inr (some (.inl 9, 283)))), some (.inl a1)] [] (L, zB1, I, J) = if (I 283 16) = 0 then some (none, (L, zB1, (zup (zup I 283 16 a1) 283 17 ((zup I 283 16 a1) 283 13)), J)) else some (none, (L, zB1, I, J)) := by
  rw [zgo_run X C _ _ [0] 12]
  rfl

set_option maxRecDepth 100000 in
theorem bX9_nextToken_0 (X : Nat → Nat → Int32) (C : Nat → List zV → zS → Option zR) (L : List zK) (I : Nat → Nat → Int32) (J : Nat → Nat → Int64) : zgo X C none kX9_nextToken 0 [some (.inr (.inr (some (.inl 9, 283))))] [] (L, zB1, I, J) = if ((zup I 283 13 (I 283 12)) 283 11) ≤ ((zup I 283 13 (I 283 12)) 283 12) then zgo X C none kX9_nextToken 34 [some (.inr (.inr (some (.inl 9, 283))))] [.inl (-1000000), .inr (.inr (some (.inl 9, 283)))] (L, zB1, (zup I 283 13 (I 283 12)), J) else zbt (zin ((zup I 283 13 (I 283 12)) 283 12) 120) (zgo X C none kX9_nextToken 34 [some (.inr (.inr (some (.inl 9, 283))))] [.inl ((zup I 283 13 (I 283 12)) 291 ((zup I 283 13 (I 283 12)) 283 12).toNatClampNeg), .inr (.inr (some (.inl 9, 283)))] (L, zB1, (zup I 283 13 (I 283 12)), J)) := by
  rw [zgo_run X C _ _ [0, 34, 67, 88, 118, 142, 165, 195, 239, 255] 17]
  rfl
set_option maxRecDepth 100000 in
theorem bX9_nextToken_34 (X : Nat → Nat → Int32) (C : Nat → List zV → zS → Option zR) (L : List zK) (I : Nat → Nat → Int32) (J : Nat → Nat → Int64) (s0 : Int32) : zgo X C none kX9_nextToken 34 [some (.inr (.inr (some (.inl 9, 283))))] [.inl s0, .inr (.inr (some (.inl 9, 283)))] (L, zB1, I, J) = if ((zup I 283 15 s0) 283 12) = ((zup I 283 15 s0) 283 11) then zgo X C none kX9_nextToken 118 [some (.inr (.inr (some (.inl 9, 283))))] [.inl 1, .inr (.inr (some (.inl 9, 283)))] (L, zB1, (zup I 283 15 s0), J) else cI (C 153 [.inr (.inl ((((zup I 283 15 s0) 283 15)).toInt64)), .inr (.inl 97), .inr (.inl 122)] (L, zB1, (zup I 283 15 s0), J)) (fun r σ => zgo X C none kX9_nextToken 67 [some (.inr (.inr (some (.inl 9, 283))))] [.inl r, .inr (.inr (some (.inl 9, 283)))] σ) := by
  rw [zgo_run X C _ _ [0, 34, 67, 88, 118, 142, 165, 195, 239, 255] 14]
  rfl
set_option maxRecDepth 100000 in
theorem bX9_nextToken_67 (X : Nat → Nat → Int32) (C : Nat → List zV → zS → Option zR) (L : List zK) (I : Nat → Nat → Int32) (J : Nat → Nat → Int64) (s0 : Int32) : zgo X C none kX9_nextToken 67 [some (.inr (.inr (some (.inl 9, 283))))] [.inl s0, .inr (.inr (some (.inl 9, 283)))] (L, zB1, I, J) = if s0 = 0 then cI (C 153 [.inr (.inl (((I 283 15)).toInt64)), .inr (.inl 48), .inr (.inl 57)] (L, zB1, I, J)) (fun r σ => zgo X C none kX9_nextToken 88 [some (.inr (.inr (some (.inl 9, 283))))] [.inl r, .inr (.inr (some (.inl 9, 283)))] σ) else zgo X C none kX9_nextToken 118 [some (.inr (.inr (some (.inl 9, 283))))] [.inl 2, .inr (.inr (some (.inl 9, 283)))] (L, zB1, I, J) := by
  rw [zgo_run X C _ _ [0, 34, 67, 88, 118, 142, 165, 195, 239, 255] 8]
  rfl
set_option maxRecDepth 100000 in
theorem bX9_nextToken_88 (X : Nat → Nat → Int32) (C : Nat → List zV → zS → Option zR) (L : List zK) (I : Nat → Nat → Int32) (J : Nat → Nat → Int64) (s0 : Int32) : zgo X C none kX9_nextToken 88 [some (.inr (.inr (some (.inl 9, 283))))] [.inl s0, .inr (.inr (some (.inl 9, 283)))] (L, zB1, I, J) = if s0 = 0 then if (I 283 15) = 44 then zgo X C none kX9_nextToken 118 [some (.inr (.inr (some (.inl 9, 283))))] [.inl 4, .inr (.inr (some (.inl 9, 283)))] (L, zB1, I, J) else if (I 283 15) = 59 then zgo X C none kX9_nextToken 118 [some (.inr (.inr (some (.inl 9, 283))))] [.inl 4, .inr (.inr (some (.inl 9, 283)))] (L, zB1, I, J) else zgo X C none kX9_nextToken 118 [some (.inr (.inr (some (.inl 9, 283))))] [.inl 0, .inr (.inr (some (.inl 9, 283)))] (L, zB1, I, J) else zgo X C none kX9_nextToken 118 [some (.inr (.inr (some (.inl 9, 283))))] [.inl 3, .inr (.inr (some (.inl 9, 283)))] (L, zB1, I, J) := by
  rw [zgo_run X C _ _ [0, 34, 67, 88, 118, 142, 165, 195, 239, 255] 12]
  rfl
set_option maxRecDepth 100000 in
theorem bX9_nextToken_118 (X : Nat → Nat → Int32) (C : Nat → List zV → zS → Option zR) (L : List zK) (I : Nat → Nat → Int32) (J : Nat → Nat → Int64) (s0 : Int32) : zgo X C none kX9_nextToken 118 [some (.inr (.inr (some (.inl 9, 283))))] [.inl s0, .inr (.inr (some (.inl 9, 283)))] (L, zB1, I, J) = if ((zup I 283 14 s0) 283 11) ≤ ((zup I 283 14 s0) 283 12) then zgo X C none kX9_nextToken 142 [some (.inr (.inr (some (.inl 9, 283))))] [.inl 0, .inl ((zup I 283 14 s0) 283 12), .inr (.inr (some (.inl 9, 283)))] (L, zB1, (zup I 283 14 s0), J) else zgo X C none kX9_nextToken 142 [some (.inr (.inr (some (.inl 9, 283))))] [.inl 1, .inl ((zup I 283 14 s0) 283 12), .inr (.inr (some (.inl 9, 283)))] (L, zB1, (zup I 283 14 s0), J) := by
  rw [zgo_run X C _ _ [0, 34, 67, 88, 118, 142, 165, 195, 239, 255] 12]
  rfl
set_option maxRecDepth 100000 in
theorem bX9_nextToken_142 (X : Nat → Nat → Int32) (C : Nat → List zV → zS → Option zR) (L : List zK) (I : Nat → Nat → Int32) (J : Nat → Nat → Int64) (s0 : Int32) (s1 : Int32) : zgo X C none kX9_nextToken 142 [some (.inr (.inr (some (.inl 9, 283))))] [.inl s0, .inl s1, .inr (.inr (some (.inl 9, 283)))] (L, zB1, I, J) = if ((zup I 283 12 (s1 + s0)) 283 14) = 3 then zgo X C none kX9_nextToken 165 [some (.inr (.inr (some (.inl 9, 283))))] [] (L, zB1, (zup (zup I 283 12 (s1 + s0)) 283 15 (((zup I 283 12 (s1 + s0)) 283 15) - 48)), J) else some (none, (L, zB1, (zup I 283 12 (s1 + s0)), J)) := by
  rw [zgo_run X C _ _ [0, 34, 67, 88, 118, 142, 165, 195, 239, 255] 13]
  rfl
set_option maxRecDepth 100000 in
theorem bX9_nextToken_165 (X : Nat → Nat → Int32) (C : Nat → List zV → zS → Option zR) (L : List zK) (I : Nat → Nat → Int32) (J : Nat → Nat → Int64) : zgo X C none kX9_nextToken 165 [some (.inr (.inr (some (.inl 9, 283))))] [] (L, zB1, I, J) = if (I 283 11) ≤ (I 283 12) then zgo X C none kX9_nextToken 255 [some (.inr (.inr (some (.inl 9, 283))))] [] (L, zB1, I, J) else zbt (zin (I 283 12) 120) (cI (C 153 [.inr (.inl (((I 291 (I 283 12).toNatClampNeg)).toInt64)), .inr (.inl 48), .inr (.inl 57)] (L, zB1, I, J)) (fun r σ => zgo X C none kX9_nextToken 195 [some (.inr (.inr (some (.inl 9, 283))))] [.inl r] σ)) := by
  rw [zgo_run X C _ _ [0, 34, 67, 88, 118, 142, 165, 195, 239, 255] 15]
  rfl
set_option maxRecDepth 100000 in
theorem bX9_nextToken_195 (X : Nat → Nat → Int32) (C : Nat → List zV → zS → Option zR) (L : List zK) (I : Nat → Nat → Int32) (J : Nat → Nat → Int64) (s0 : Int32) : zgo X C none kX9_nextToken 195 [some (.inr (.inr (some (.inl 9, 283))))] [.inl s0] (L, zB1, I, J) = if s0 = 0 then zgo X C none kX9_nextToken 255 [some (.inr (.inr (some (.inl 9, 283))))] [] (L, zB1, I, J) else if (2 : Int32) ≤ ((I 283 12) - (I 283 13)) then zgo X C none kX9_nextToken 239 [some (.inr (.inr (some (.inl 9, 283))))] [.inl (I 283 15), .inr (.inr (some (.inl 9, 283)))] (L, zB1, I, J) else zbt (zin (I 283 12) 120) (zgo X C none kX9_nextToken 239 [some (.inr (.inr (some (.inl 9, 283))))] [.inl (((10 * (I 283 15)) + (I 291 (I 283 12).toNatClampNeg)) - 48), .inr (.inr (some (.inl 9, 283)))] (L, zB1, I, J)) := by
  rw [zgo_run X C _ _ [0, 34, 67, 88, 118, 142, 165, 195, 239, 255] 23]
  rfl
set_option maxRecDepth 100000 in
theorem bX9_nextToken_239 (X : Nat → Nat → Int32) (C : Nat → List zV → zS → Option zR) (L : List zK) (I : Nat → Nat → Int32) (J : Nat → Nat → Int64) (s0 : Int32) : zgo X C none kX9_nextToken 239 [some (.inr (.inr (some (.inl 9, 283))))] [.inl s0, .inr (.inr (some (.inl 9, 283)))] (L, zB1, I, J) = zgo X C none kX9_nextToken 165 [some (.inr (.inr (some (.inl 9, 283))))] [] (L, zB1, (zup (zup I 283 15 s0) 283 12 (((zup I 283 15 s0) 283 12) + 1)), J) := by
  rw [zgo_run X C _ _ [0, 34, 67, 88, 118, 142, 165, 195, 239, 255] 9]
  rfl
set_option maxRecDepth 100000 in
theorem bX9_nextToken_255 (X : Nat → Nat → Int32) (C : Nat → List zV → zS → Option zR) (L : List zK) (I : Nat → Nat → Int32) (J : Nat → Nat → Int64) : zgo X C none kX9_nextToken 255 [some (.inr (.inr (some (.inl 9, 283))))] [] (L, zB1, I, J) = if ((I 283 12) - (I 283 13)) ≤ 2 then some (none, (L, zB1, (zup I 283 14 3), J)) else some (none, (L, zB1, (zup I 283 14 0), J)) := by
  rw [zgo_run X C _ _ [0, 34, 67, 88, 118, 142, 165, 195, 239, 255] 13]
  rfl

set_option maxRecDepth 100000 in
theorem bX9_must_0 (X : Nat → Nat → Int32) (C : Nat → List zV → zS → Option zR) (L : List zK) (I : Nat → Nat → Int32) (J : Nat → Nat → Int64) (a1 : Int32) : zgo X C none kX9_must 0 [some (.inr (.inr (some (.inl 9, 283)))), some (.inl a1)] [] (L, zB1, I, J) = if a1 = 0 then cV (C 161 [.inr (.inr (some (.inl 9, 283))), .inl 1] (L, zB1, I, J)) (fun σ => zgo X C none kX9_must 9 [some (.inr (.inr (some (.inl 9, 283)))), some (.inl a1)] [] σ) else zgo X C none kX9_must 9 [some (.inr (.inr (some (.inl 9, 283)))), some (.inl a1)] [] (L, zB1, I, J) := by
  rw [zgo_run X C _ _ [0, 9, 20] 6]
  rfl
set_option maxRecDepth 100000 in
theorem bX9_must_9 (X : Nat → Nat → Int32) (C : Nat → List zV → zS → Option zR) (L : List zK) (I : Nat → Nat → Int32) (J : Nat → Nat → Int64) (v1 : Int32) : zgo X C none kX9_must 9 [some (.inr (.inr (some (.inl 9, 283)))), some (.inl v1)] [] (L, zB1, I, J) = if (I 283 16) = 0 then cV (C 162 [.inr (.inr (some (.inl 9, 283)))] (L, zB1, I, J)) (fun σ => zgo X C none kX9_must 20 [some (.inr (.inr (some (.inl 9, 283)))), some (.inl v1)] [] σ) else zgo X C none kX9_must 20 [some (.inr (.inr (some (.inl 9, 283)))), some (.inl v1)] [] (L, zB1, I, J) := by
  rw [zgo_run X C _ _ [0, 9, 20] 6]
  rfl
set_option maxRecDepth 100000 in
theorem bX9_must_20 (X : Nat → Nat → Int32) (C : Nat → List zV → zS → Option zR) (L : List zK) (I : Nat → Nat → Int32) (J : Nat → Nat → Int64) (v1 : Int32) : zgo X C none kX9_must 20 [some (.inr (.inr (some (.inl 9, 283)))), some (.inl v1)] [] (L, zB1, I, J) = some (none, (L, zB1, I, J)) := by
  rw [zgo_run X C _ _ [0, 9, 20] 2]
  rfl

set_option maxRecDepth 100000 in
theorem bX9_isLetter_0 (X : Nat → Nat → Int32) (C : Nat → List zV → zS → Option zR) (L : List zK) (I : Nat → Nat → Int32) (J : Nat → Nat → Int64) (a1 : Int32) : zgo X C (some .boolean) kX9_isLetter 0 [some (.inr (.inr (some (.inl 9, 283)))), some (.inl a1)] [] (L, zB1, I, J) = if (I 283 16) = 0 then if (I 283 14) = 2 then if (I 283 15) = a1 then some (some (.inl 1), (L, zB1, I, J)) else some (some (.inl 0), (L, zB1, I, J)) else some (some (.inl 0), (L, zB1, I, J)) else some (some (.inl 0), (L, zB1, I, J)) := by
  rw [zgo_run X C _ _ [0] 15]
  rfl

set_option maxRecDepth 100000 in
theorem bX9_number_0 (X : Nat → Nat → Int32) (C : Nat → List zV → zS → Option zR) (L : List zK) (I : Nat → Nat → Int32) (J : Nat → Nat → Int64) (a1 : Int32) (a2 : Int32) : zgo X C (some .int) kX9_number 0 [some (.inr (.inr (some (.inl 9, 283)))), some (.inl a1), some (.inl a2), none] [] (L, zB1, I, J) = if (I 283 16) = 0 then if (I 283 14) = 3 then zgo X C (some .int) kX9_number 20 [some (.inr (.inr (some (.inl 9, 283)))), some (.inl a1), some (.inl a2), none] [] (L, zB1, I, J) else cV (C 161 [.inr (.inr (some (.inl 9, 283))), .inl 1] (L, zB1, I, J)) (fun σ => zgo X C (some .int) kX9_number 20 [some (.inr (.inr (some (.inl 9, 283)))), some (.inl a1), some (.inl a2), none] [] σ) else zgo X C (some .int) kX9_number 20 [some (.inr (.inr (some (.inl 9, 283)))), some (.inl a1), some (.inl a2), none] [] (L, zB1, I, J) := by
  rw [zgo_run X C _ _ [0, 20, 39, 47, 62, 68] 11]
  rfl
set_option maxRecDepth 100000 in
theorem bX9_number_20 (X : Nat → Nat → Int32) (C : Nat → List zV → zS → Option zR) (L : List zK) (I : Nat → Nat → Int32) (J : Nat → Nat → Int64) (v1 : Int32) (v2 : Int32) : zgo X C (some .int) kX9_number 20 [some (.inr (.inr (some (.inl 9, 283)))), some (.inl v1), some (.inl v2), none] [] (L, zB1, I, J) = if (I 283 16) = 0 then cI (C 153 [.inr (.inl (((I 283 15)).toInt64)), .inr (.inl ((v1).toInt64)), .inr (.inl ((v2).toInt64))] (L, zB1, I, J)) (fun r σ => zgo X C (some .int) kX9_number 39 [some (.inr (.inr (some (.inl 9, 283)))), some (.inl v1), some (.inl v2), none] [.inl r] σ) else zgo X C (some .int) kX9_number 47 [some (.inr (.inr (some (.inl 9, 283)))), some (.inl v1), some (.inl v2), none] [] (L, zB1, I, J) := by
  rw [zgo_run X C _ _ [0, 20, 39, 47, 62, 68] 12]
  rfl
set_option maxRecDepth 100000 in
theorem bX9_number_39 (X : Nat → Nat → Int32) (C : Nat → List zV → zS → Option zR) (L : List zK) (I : Nat → Nat → Int32) (J : Nat → Nat → Int64) (v1 : Int32) (v2 : Int32) (s0 : Int32) : zgo X C (some .int) kX9_number 39 [some (.inr (.inr (some (.inl 9, 283)))), some (.inl v1), some (.inl v2), none] [.inl s0] (L, zB1, I, J) = if s0 = 0 then cV (C 161 [.inr (.inr (some (.inl 9, 283))), .inl 2] (L, zB1, I, J)) (fun σ => zgo X C (some .int) kX9_number 47 [some (.inr (.inr (some (.inl 9, 283)))), some (.inl v1), some (.inl v2), none] [] σ) else zgo X C (some .int) kX9_number 47 [some (.inr (.inr (some (.inl 9, 283)))), some (.inl v1), some (.inl v2), none] [] (L, zB1, I, J) := by
  rw [zgo_run X C _ _ [0, 20, 39, 47, 62, 68] 5]
  rfl
set_option maxRecDepth 100000 in
theorem bX9_number_47 (X : Nat → Nat → Int32) (C : Nat → List zV → zS → Option zR) (L : List zK) (I : Nat → Nat → Int32) (J : Nat → Nat → Int64) (v1 : Int32) (v2 : Int32) : zgo X C (some .int) kX9_number 47 [some (.inr (.inr (some (.inl 9, 283)))), some (.inl v1), some (.inl v2), none] [] (L, zB1, I, J) = if (I 283 16) = 0 then zgo X C (some .int) kX9_number 62 [some (.inr (.inr (some (.inl 9, 283)))), some (.inl v1), some (.inl v2), none] [.inl (I 283 15)] (L, zB1, I, J) else zgo X C (some .int) kX9_number 62 [some (.inr (.inr (some (.inl 9, 283)))), some (.inl v1), some (.inl v2), none] [.inl v1] (L, zB1, I, J) := by
  rw [zgo_run X C _ _ [0, 20, 39, 47, 62, 68] 7]
  rfl
set_option maxRecDepth 100000 in
theorem bX9_number_62 (X : Nat → Nat → Int32) (C : Nat → List zV → zS → Option zR) (L : List zK) (I : Nat → Nat → Int32) (J : Nat → Nat → Int64) (v1 : Int32) (v2 : Int32) (s0 : Int32) : zgo X C (some .int) kX9_number 62 [some (.inr (.inr (some (.inl 9, 283)))), some (.inl v1), some (.inl v2), none] [.inl s0] (L, zB1, I, J) = cV (C 163 [.inr (.inr (some (.inl 9, 283))), .inl 1] (L, zB1, I, J)) (fun σ => zgo X C (some .int) kX9_number 68 [some (.inr (.inr (some (.inl 9, 283)))), some (.inl v1), some (.inl v2), some (.inl s0)] [] σ) := by
  rw [zgo_run X C _ _ [0, 20, 39, 47, 62, 68] 5]
  rfl
set_option maxRecDepth 100000 in
theorem bX9_number_68 (X : Nat → Nat → Int32) (C : Nat → List zV → zS → Option zR) (L : List zK) (I : Nat → Nat → Int32) (J : Nat → Nat → Int64) (v1 : Int32) (v2 : Int32) (v3 : Int32) : zgo X C (some .int) kX9_number 68 [some (.inr (.inr (some (.inl 9, 283)))), some (.inl v1), some (.inl v2), some (.inl v3)] [] (L, zB1, I, J) = some (some (.inl v3), (L, zB1, I, J)) := by
  rw [zgo_run X C _ _ [0, 20, 39, 47, 62, 68] 3]
  rfl

set_option maxRecDepth 100000 in
theorem bX9_mustSign_0 (X : Nat → Nat → Int32) (C : Nat → List zV → zS → Option zR) (L : List zK) (I : Nat → Nat → Int32) (J : Nat → Nat → Int64) (a1 : Int32) : zgo X C none kX9_mustSign 0 [some (.inr (.inr (some (.inl 9, 283)))), some (.inl a1)] [] (L, zB1, I, J) = if (I 283 14) = 4 then if (I 283 15) = a1 then cV (C 163 [.inr (.inr (some (.inl 9, 283))), .inl 1] (L, zB1, I, J)) (fun σ => zgo X C none kX9_mustSign 25 [some (.inr (.inr (some (.inl 9, 283)))), some (.inl a1)] [] σ) else cV (C 163 [.inr (.inr (some (.inl 9, 283))), .inl 0] (L, zB1, I, J)) (fun σ => zgo X C none kX9_mustSign 25 [some (.inr (.inr (some (.inl 9, 283)))), some (.inl a1)] [] σ) else cV (C 163 [.inr (.inr (some (.inl 9, 283))), .inl 0] (L, zB1, I, J)) (fun σ => zgo X C none kX9_mustSign 25 [some (.inr (.inr (some (.inl 9, 283)))), some (.inl a1)] [] σ) := by
  rw [zgo_run X C _ _ [0, 25] 13]
  rfl
set_option maxRecDepth 100000 in
theorem bX9_mustSign_25 (X : Nat → Nat → Int32) (C : Nat → List zV → zS → Option zR) (L : List zK) (I : Nat → Nat → Int32) (J : Nat → Nat → Int64) (v1 : Int32) : zgo X C none kX9_mustSign 25 [some (.inr (.inr (some (.inl 9, 283)))), some (.inl v1)] [] (L, zB1, I, J) = some (none, (L, zB1, I, J)) := by
  rw [zgo_run X C _ _ [0, 25] 2]
  rfl

set_option maxRecDepth 100000 in
theorem bX9_begin_0 (X : Nat → Nat → Int32) (C : Nat → List zV → zS → Option zR) (L : List zK) (I : Nat → Nat → Int32) (J : Nat → Nat → Int64) : zgo X C none kX9_begin 0 [some (.inr (.inr (some (.inl 9, 283))))] [] (L, zB1, I, J) = cV (C 162 [.inr (.inr (some (.inl 9, 283)))] (L, zB1, (zup (zup I 283 12 0) 283 16 0), J)) (fun σ => zgo X C none kX9_begin 14 [some (.inr (.inr (some (.inl 9, 283))))] [] σ) := by
  rw [zgo_run X C _ _ [0, 14] 9]
  rfl
set_option maxRecDepth 100000 in
theorem bX9_begin_14 (X : Nat → Nat → Int32) (C : Nat → List zV → zS → Option zR) (L : List zK) (I : Nat → Nat → Int32) (J : Nat → Nat → Int64) : zgo X C none kX9_begin 14 [some (.inr (.inr (some (.inl 9, 283))))] [] (L, zB1, I, J) = some (none, (L, zB1, I, J)) := by
  rw [zgo_run X C _ _ [0, 14] 2]
  rfl

set_option maxRecDepth 100000 in
theorem bX9_failed_0 (X : Nat → Nat → Int32) (C : Nat → List zV → zS → Option zR) (L : List zK) (I : Nat → Nat → Int32) (J : Nat → Nat → Int64) : zgo X C (some .boolean) kX9_failed 0 [some (.inr (.inr (some (.inl 9, 283))))] [] (L, zB1, I, J) = if (I 283 16) = 0 then if (I 283 14) = 1 then zgo X C (some .boolean) kX9_failed 20 [some (.inr (.inr (some (.inl 9, 283))))] [] (L, zB1, I, J) else cV (C 161 [.inr (.inr (some (.inl 9, 283))), .inl 1] (L, zB1, I, J)) (fun σ => zgo X C (some .boolean) kX9_failed 20 [some (.inr (.inr (some (.inl 9, 283))))] [] σ) else zgo X C (some .boolean) kX9_failed 20 [some (.inr (.inr (some (.inl 9, 283))))] [] (L, zB1, I, J) := by
  rw [zgo_run X C _ _ [0, 20, 44] 11]
  rfl
set_option maxRecDepth 100000 in
theorem bX9_failed_20 (X : Nat → Nat → Int32) (C : Nat → List zV → zS → Option zR) (L : List zK) (I : Nat → Nat → Int32) (J : Nat → Nat → Int64) : zgo X C (some .boolean) kX9_failed 20 [some (.inr (.inr (some (.inl 9, 283))))] [] (L, zB1, I, J) = if ((zup I 283 11 0) 283 16) ≤ 0 then zgo X C (some .boolean) kX9_failed 44 [some (.inr (.inr (some (.inl 9, 283))))] [.inl ((zup I 283 11 0) 283 18), .inr (.inr (some (.inl 9, 283)))] (L, zB1, (zup I 283 11 0), J) else zgo X C (some .boolean) kX9_failed 44 [some (.inr (.inr (some (.inl 9, 283))))] [.inl ((zup I 283 11 0) 283 16), .inr (.inr (some (.inl 9, 283)))] (L, zB1, (zup I 283 11 0), J) := by
  rw [zgo_run X C _ _ [0, 20, 44] 11]
  rfl
set_option maxRecDepth 100000 in
theorem bX9_failed_44 (X : Nat → Nat → Int32) (C : Nat → List zV → zS → Option zR) (L : List zK) (I : Nat → Nat → Int32) (J : Nat → Nat → Int64) (s0 : Int32) : zgo X C (some .boolean) kX9_failed 44 [some (.inr (.inr (some (.inl 9, 283))))] [.inl s0, .inr (.inr (some (.inl 9, 283)))] (L, zB1, I, J) = if ((zup I 283 18 s0) 283 16) ≤ 0 then some (some (.inl 0), (L, zB1, (zup I 283 18 s0), J)) else some (some (.inl 1), (L, zB1, (zup I 283 18 s0), J)) := by
  rw [zgo_run X C _ _ [0, 20, 44] 8]
  rfl

set_option maxRecDepth 100000 in
theorem bX9_fault_0 (X : Nat → Nat → Int32) (C : Nat → List zV → zS → Option zR) (L : List zK) (I : Nat → Nat → Int32) (J : Nat → Nat → Int64) : zgo X C (some .int) kX9_fault 0 [some (.inr (.inr (some (.inl 9, 283))))] [] (L, zB1, I, J) = some (some (.inl ((zup I 283 0 0) 283 18)), (L, zB1, (zup I 283 0 0), J)) := by
  rw [zgo_run X C _ _ [0] 7]
  rfl

set_option maxRecDepth 100000 in
theorem bX9_kindBy_0 (X : Nat → Nat → Int32) (C : Nat → List zV → zS → Option zR) (L : List zK) (I : Nat → Nat → Int32) (J : Nat → Nat → Int64) (a1 : Int32) : zgo X C (some .int) kX9_kindBy 0 [some (.inl a1)] [] (L, zB1, I, J) = if a1 = 116 then some (some (.inl 1), (L, zB1, I, J)) else if a1 = 102 then some (some (.inl 2), (L, zB1, I, J)) else if a1 = 115 then some (some (.inl 3), (L, zB1, I, J)) else if a1 = 119 then some (some (.inl 4), (L, zB1, I, J)) else if a1 = 98 then some (some (.inl 5), (L, zB1, I, J)) else some (some (.inl (-1000000)), (L, zB1, I, J)) := by
  rw [zgo_run X C _ _ [0] 19]
  rfl

set_option maxRecDepth 100000 in
theorem bX9_isSort_0 (X : Nat → Nat → Int32) (C : Nat → List zV → zS → Option zR) (L : List zK) (I : Nat → Nat → Int32) (J : Nat → Nat → Int64) : zgo X C (some .boolean) kX9_isSort 0 [some (.inr (.inr (some (.inl 9, 283))))] [] (L, zB1, I, J) = if (I 283 16) = 0 then if (I 283 14) = 2 then cI (C 170 [.inl (I 283 15)] (L, zB1, I, J)) (fun r σ => zgo X C (some .boolean) kX9_isSort 22 [some (.inr (.inr (some (.inl 9, 283))))] [.inl r] σ) else some (some (.inl 0), (L, zB1, I, J)) else some (some (.inl 0), (L, zB1, I, J)) := by
  rw [zgo_run X C _ _ [0, 22] 11]
  rfl
set_option maxRecDepth 100000 in
theorem bX9_isSort_22 (X : Nat → Nat → Int32) (C : Nat → List zV → zS → Option zR) (L : List zK) (I : Nat → Nat → Int32) (J : Nat → Nat → Int64) (s0 : Int32) : zgo X C (some .boolean) kX9_isSort 22 [some (.inr (.inr (some (.inl 9, 283))))] [.inl s0] (L, zB1, I, J) = if s0 = (-1000000) then some (some (.inl 0), (L, zB1, I, J)) else some (some (.inl 1), (L, zB1, I, J)) := by
  rw [zgo_run X C _ _ [0, 22] 6]
  rfl

set_option maxRecDepth 100000 in
theorem bX9_readJudge_0 (X : Nat → Nat → Int32) (C : Nat → List zV → zS → Option zR) (L : List zK) (I : Nat → Nat → Int32) (J : Nat → Nat → Int64) : zgo X C none kX9_readJudge 0 [some (.inr (.inr (some (.inl 9, 283)))), none, none] [] (L, zB1, I, J) = cI (C 164 [.inr (.inr (some (.inl 9, 283))), .inl 106] (L, zB1, I, J)) (fun r σ => zgo X C none kX9_readJudge 6 [some (.inr (.inr (some (.inl 9, 283)))), none, none] [.inl r] σ) := by
  rw [zgo_run X C _ _ [0, 6, 24, 31, 34, 41, 48, 54, 61] 4]
  rfl
set_option maxRecDepth 100000 in
theorem bX9_readJudge_6 (X : Nat → Nat → Int32) (C : Nat → List zV → zS → Option zR) (L : List zK) (I : Nat → Nat → Int32) (J : Nat → Nat → Int64) (s0 : Int32) : zgo X C none kX9_readJudge 6 [some (.inr (.inr (some (.inl 9, 283)))), none, none] [.inl s0] (L, zB1, I, J) = if s0 = 0 then zgo X C none kX9_readJudge 24 [some (.inr (.inr (some (.inl 9, 283)))), none, none] [] (L, zB1, I, J) else zbt (zin 1 43) (if (I 288 (1 : Int32).toNatClampNeg) = 4 then cV (C 161 [.inr (.inr (some (.inl 9, 283))), .inl 3] (L, zB1, I, J)) (fun σ => zgo X C none kX9_readJudge 24 [some (.inr (.inr (some (.inl 9, 283)))), none, none] [] σ) else zgo X C none kX9_readJudge 24 [some (.inr (.inr (some (.inl 9, 283)))), none, none] [] (L, zB1, I, J)) := by
  rw [zgo_run X C _ _ [0, 6, 24, 31, 34, 41, 48, 54, 61] 11]
  rfl
set_option maxRecDepth 100000 in
theorem bX9_readJudge_24 (X : Nat → Nat → Int32) (C : Nat → List zV → zS → Option zR) (L : List zK) (I : Nat → Nat → Int32) (J : Nat → Nat → Int64) : zgo X C none kX9_readJudge 24 [some (.inr (.inr (some (.inl 9, 283)))), none, none] [] (L, zB1, I, J) = cI (C 164 [.inr (.inr (some (.inl 9, 283))), .inl 106] (L, zB1, I, J)) (fun r σ => zgo X C none kX9_readJudge 31 [some (.inr (.inr (some (.inl 9, 283)))), none, none] [.inl r, .inr (.inr (some (.inl 9, 283)))] σ) := by
  rw [zgo_run X C _ _ [0, 6, 24, 31, 34, 41, 48, 54, 61] 5]
  rfl
set_option maxRecDepth 100000 in
theorem bX9_readJudge_31 (X : Nat → Nat → Int32) (C : Nat → List zV → zS → Option zR) (L : List zK) (I : Nat → Nat → Int32) (J : Nat → Nat → Int64) (s0 : Int32) : zgo X C none kX9_readJudge 31 [some (.inr (.inr (some (.inl 9, 283)))), none, none] [.inl s0, .inr (.inr (some (.inl 9, 283)))] (L, zB1, I, J) = cV (C 163 [.inr (.inr (some (.inl 9, 283))), .inl s0] (L, zB1, I, J)) (fun σ => zgo X C none kX9_readJudge 34 [some (.inr (.inr (some (.inl 9, 283)))), none, none] [] σ) := by
  rw [zgo_run X C _ _ [0, 6, 24, 31, 34, 41, 48, 54, 61] 2]
  rfl
set_option maxRecDepth 100000 in
theorem bX9_readJudge_34 (X : Nat → Nat → Int32) (C : Nat → List zV → zS → Option zR) (L : List zK) (I : Nat → Nat → Int32) (J : Nat → Nat → Int64) : zgo X C none kX9_readJudge 34 [some (.inr (.inr (some (.inl 9, 283)))), none, none] [] (L, zB1, I, J) = cI (C 165 [.inr (.inr (some (.inl 9, 283))), .inl 0, .inl 9] (L, zB1, I, J)) (fun r σ => zgo X C none kX9_readJudge 41 [some (.inr (.inr (some (.inl 9, 283)))), none, none] [.inl r] σ) := by
  rw [zgo_run X C _ _ [0, 6, 24, 31, 34, 41, 48, 54, 61] 5]
  rfl
set_option maxRecDepth 100000 in
theorem bX9_readJudge_41 (X : Nat → Nat → Int32) (C : Nat → List zV → zS → Option zR) (L : List zK) (I : Nat → Nat → Int32) (J : Nat → Nat → Int64) (s0 : Int32) : zgo X C none kX9_readJudge 41 [some (.inr (.inr (some (.inl 9, 283)))), none, none] [.inl s0] (L, zB1, I, J) = cV (C 166 [.inr (.inr (some (.inl 9, 283))), .inl 44] (L, zB1, I, J)) (fun σ => zgo X C none kX9_readJudge 48 [some (.inr (.inr (some (.inl 9, 283)))), some (.inl s0), none] [] σ) := by
  rw [zgo_run X C _ _ [0, 6, 24, 31, 34, 41, 48, 54, 61] 5]
  rfl
set_option maxRecDepth 100000 in
theorem bX9_readJudge_48 (X : Nat → Nat → Int32) (C : Nat → List zV → zS → Option zR) (L : List zK) (I : Nat → Nat → Int32) (J : Nat → Nat → Int64) (v1 : Int32) : zgo X C none kX9_readJudge 48 [some (.inr (.inr (some (.inl 9, 283)))), some (.inl v1), none] [] (L, zB1, I, J) = cI (C 165 [.inr (.inr (some (.inl 9, 283))), .inl 0, .inl 1] (L, zB1, I, J)) (fun r σ => zgo X C none kX9_readJudge 54 [some (.inr (.inr (some (.inl 9, 283)))), some (.inl v1), none] [.inl r] σ) := by
  rw [zgo_run X C _ _ [0, 6, 24, 31, 34, 41, 48, 54, 61] 5]
  rfl
set_option maxRecDepth 100000 in
theorem bX9_readJudge_54 (X : Nat → Nat → Int32) (C : Nat → List zV → zS → Option zR) (L : List zK) (I : Nat → Nat → Int32) (J : Nat → Nat → Int64) (v1 : Int32) (s0 : Int32) : zgo X C none kX9_readJudge 54 [some (.inr (.inr (some (.inl 9, 283)))), some (.inl v1), none] [.inl s0] (L, zB1, I, J) = cV (C 166 [.inr (.inr (some (.inl 9, 283))), .inl 59] (L, zB1, I, J)) (fun σ => zgo X C none kX9_readJudge 61 [some (.inr (.inr (some (.inl 9, 283)))), some (.inl v1), some (.inl s0)] [] σ) := by
  rw [zgo_run X C _ _ [0, 6, 24, 31, 34, 41, 48, 54, 61] 5]
  rfl
set_option maxRecDepth 100000 in
theorem bX9_readJudge_61 (X : Nat → Nat → Int32) (C : Nat → List zV → zS → Option zR) (L : List zK) (I : Nat → Nat → Int32) (J : Nat → Nat → Int64) (v1 : Int32) (v2 : Int32) : zgo X C none kX9_readJudge 61 [some (.inr (.inr (some (.inl 9, 283)))), some (.inl v1), some (.inl v2)] [] (L, zB1, I, J) = if (I 283 16) = 0 then zbt (zin 1 43) (zbt (zin (5 + (2 * (I 288 (1 : Int32).toNatClampNeg))) 43) (zbt (zin 1 43) (zbt (zin (6 + (2 * ((zup I 288 (5 + (2 * (I 288 (1 : Int32).toNatClampNeg))).toNatClampNeg v1) 288 (1 : Int32).toNatClampNeg))) 43) (zbt (zin 1 43) (zbt (zin 1 43) (some (none, (L, zB1, (zup (zup (zup I 288 (5 + (2 * (I 288 (1 : Int32).toNatClampNeg))).toNatClampNeg v1) 288 (6 + (2 * ((zup I 288 (5 + (2 * (I 288 (1 : Int32).toNatClampNeg))).toNatClampNeg v1) 288 (1 : Int32).toNatClampNeg))).toNatClampNeg v2) 288 (1 : Int32).toNatClampNeg (((zup (zup I 288 (5 + (2 * (I 288 (1 : Int32).toNatClampNeg))).toNatClampNeg v1) 288 (6 + (2 * ((zup I 288 (5 + (2 * (I 288 (1 : Int32).toNatClampNeg))).toNatClampNeg v1) 288 (1 : Int32).toNatClampNeg))).toNatClampNeg v2) 288 (1 : Int32).toNatClampNeg) + 1)), J)))))))) else some (none, (L, zB1, I, J)) := by
  rw [zgo_run X C _ _ [0, 6, 24, 31, 34, 41, 48, 54, 61] 37]
  rfl

set_option maxRecDepth 100000 in
theorem bX9_readMan_0 (X : Nat → Nat → Int32) (C : Nat → List zV → zS → Option zR) (L : List zK) (I : Nat → Nat → Int32) (J : Nat → Nat → Int64) : zgo X C none kX9_readMan 0 [some (.inr (.inr (some (.inl 9, 283)))), none, none, none, none] [] (L, zB1, I, J) = cI (C 170 [.inl (I 283 15)] (L, zB1, I, J)) (fun r σ => zgo X C none kX9_readMan 7 [some (.inr (.inr (some (.inl 9, 283)))), none, none, none, none] [.inl r] σ) := by
  rw [zgo_run X C _ _ [0, 7, 24, 29, 42, 49, 56, 63] 4]
  rfl
set_option maxRecDepth 100000 in
theorem bX9_readMan_7 (X : Nat → Nat → Int32) (C : Nat → List zV → zS → Option zR) (L : List zK) (I : Nat → Nat → Int32) (J : Nat → Nat → Int64) (s0 : Int32) : zgo X C none kX9_readMan 7 [some (.inr (.inr (some (.inl 9, 283)))), none, none, none, none] [.inl s0] (L, zB1, I, J) = zbt (zin 0 43) (if (I 288 (0 : Int32).toNatClampNeg) = 6 then cV (C 161 [.inr (.inr (some (.inl 9, 283))), .inl 3] (L, zB1, I, J)) (fun σ => zgo X C none kX9_readMan 24 [some (.inr (.inr (some (.inl 9, 283)))), some (.inl s0), none, none, none] [] σ) else zgo X C none kX9_readMan 24 [some (.inr (.inr (some (.inl 9, 283)))), some (.inl s0), none, none, none] [] (L, zB1, I, J)) := by
  rw [zgo_run X C _ _ [0, 7, 24, 29, 42, 49, 56, 63] 11]
  rfl
set_option maxRecDepth 100000 in
theorem bX9_readMan_24 (X : Nat → Nat → Int32) (C : Nat → List zV → zS → Option zR) (L : List zK) (I : Nat → Nat → Int32) (J : Nat → Nat → Int64) (v1 : Int32) : zgo X C none kX9_readMan 24 [some (.inr (.inr (some (.inl 9, 283)))), some (.inl v1), none, none, none] [] (L, zB1, I, J) = cV (C 163 [.inr (.inr (some (.inl 9, 283))), .inl 1] (L, zB1, I, J)) (fun σ => zgo X C none kX9_readMan 29 [some (.inr (.inr (some (.inl 9, 283)))), some (.inl v1), none, none, none] [] σ) := by
  rw [zgo_run X C _ _ [0, 7, 24, 29, 42, 49, 56, 63] 4]
  rfl
set_option maxRecDepth 100000 in
theorem bX9_readMan_29 (X : Nat → Nat → Int32) (C : Nat → List zV → zS → Option zR) (L : List zK) (I : Nat → Nat → Int32) (J : Nat → Nat → Int64) (v1 : Int32) : zgo X C none kX9_readMan 29 [some (.inr (.inr (some (.inl 9, 283)))), some (.inl v1), none, none, none] [] (L, zB1, I, J) = zbt (zin 1 43) (cI (C 165 [.inr (.inr (some (.inl 9, 283))), .inl 0, .inl ((I 288 (1 : Int32).toNatClampNeg) - 1)] (L, zB1, I, J)) (fun r σ => zgo X C none kX9_readMan 42 [some (.inr (.inr (some (.inl 9, 283)))), some (.inl v1), none, none, none] [.inl r] σ)) := by
  rw [zgo_run X C _ _ [0, 7, 24, 29, 42, 49, 56, 63] 10]
  rfl
set_option maxRecDepth 100000 in
theorem bX9_readMan_42 (X : Nat → Nat → Int32) (C : Nat → List zV → zS → Option zR) (L : List zK) (I : Nat → Nat → Int32) (J : Nat → Nat → Int64) (v1 : Int32) (s0 : Int32) : zgo X C none kX9_readMan 42 [some (.inr (.inr (some (.inl 9, 283)))), some (.inl v1), none, none, none] [.inl s0] (L, zB1, I, J) = cV (C 166 [.inr (.inr (some (.inl 9, 283))), .inl 44] (L, zB1, I, J)) (fun σ => zgo X C none kX9_readMan 49 [some (.inr (.inr (some (.inl 9, 283)))), some (.inl v1), some (.inl s0), none, none] [] σ) := by
  rw [zgo_run X C _ _ [0, 7, 24, 29, 42, 49, 56, 63] 5]
  rfl
set_option maxRecDepth 100000 in
theorem bX9_readMan_49 (X : Nat → Nat → Int32) (C : Nat → List zV → zS → Option zR) (L : List zK) (I : Nat → Nat → Int32) (J : Nat → Nat → Int64) (v1 : Int32) (v2 : Int32) : zgo X C none kX9_readMan 49 [some (.inr (.inr (some (.inl 9, 283)))), some (.inl v1), some (.inl v2), none, none] [] (L, zB1, I, J) = cI (C 165 [.inr (.inr (some (.inl 9, 283))), .inl 1, .inl 30] (L, zB1, I, J)) (fun r σ => zgo X C none kX9_readMan 56 [some (.inr (.inr (some (.inl 9, 283)))), some (.inl v1), some (.inl v2), none, none] [.inl r] σ) := by
  rw [zgo_run X C _ _ [0, 7, 24, 29, 42, 49, 56, 63] 5]
  rfl
set_option maxRecDepth 100000 in
theorem bX9_readMan_56 (X : Nat → Nat → Int32) (C : Nat → List zV → zS → Option zR) (L : List zK) (I : Nat → Nat → Int32) (J : Nat → Nat → Int64) (v1 : Int32) (v2 : Int32) (s0 : Int32) : zgo X C none kX9_readMan 56 [some (.inr (.inr (some (.inl 9, 283)))), some (.inl v1), some (.inl v2), none, none] [.inl s0] (L, zB1, I, J) = cV (C 166 [.inr (.inr (some (.inl 9, 283))), .inl 59] (L, zB1, I, J)) (fun σ => zgo X C none kX9_readMan 63 [some (.inr (.inr (some (.inl 9, 283)))), some (.inl v1), some (.inl v2), some (.inl s0), none] [] σ) := by
  rw [zgo_run X C _ _ [0, 7, 24, 29, 42, 49, 56, 63] 5]
  rfl
set_option maxRecDepth 100000 in
theorem bX9_readMan_63 (X : Nat → Nat → Int32) (C : Nat → List zV → zS → Option zR) (L : List zK) (I : Nat → Nat → Int32) (J : Nat → Nat → Int64) (v1 : Int32) (v2 : Int32) (v3 : Int32) : zgo X C none kX9_readMan 63 [some (.inr (.inr (some (.inl 9, 283)))), some (.inl v1), some (.inl v2), some (.inl v3), none] [] (L, zB1, I, J) = if (I 283 16) = 0 then zbt (zin 0 43) (zbt (zin (13 + (5 * (I 288 (0 : Int32).toNatClampNeg))) 43) (zbt (zin ((13 + (5 * (I 288 (0 : Int32).toNatClampNeg))) + 1) 43) (zbt (zin ((13 + (5 * (I 288 (0 : Int32).toNatClampNeg))) + 2) 43) (zbt (zin ((13 + (5 * (I 288 (0 : Int32).toNatClampNeg))) + 3) 43) (zbt (zin ((13 + (5 * (I 288 (0 : Int32).toNatClampNeg))) + 4) 43) (zbt (zin 0 43) (zbt (zin 0 43) (some (none, (L, zB1, (zup (zup (zup (zup (zup (zup I 288 (13 + (5 * (I 288 (0 : Int32).toNatClampNeg))).toNatClampNeg v1) 288 ((13 + (5 * (I 288 (0 : Int32).toNatClampNeg))) + 1).toNatClampNeg v2) 288 ((13 + (5 * (I 288 (0 : Int32).toNatClampNeg))) + 2).toNatClampNeg v3) 288 ((13 + (5 * (I 288 (0 : Int32).toNatClampNeg))) + 3).toNatClampNeg 0) 288 ((13 + (5 * (I 288 (0 : Int32).toNatClampNeg))) + 4).toNatClampNeg 0) 288 (0 : Int32).toNatClampNeg (((zup (zup (zup (zup (zup I 288 (13 + (5 * (I 288 (0 : Int32).toNatClampNeg))).toNatClampNeg v1) 288 ((13 + (5 * (I 288 (0 : Int32).toNatClampNeg))) + 1).toNatClampNeg v2) 288 ((13 + (5 * (I 288 (0 : Int32).toNatClampNeg))) + 2).toNatClampNeg v3) 288 ((13 + (5 * (I 288 (0 : Int32).toNatClampNeg))) + 3).toNatClampNeg 0) 288 ((13 + (5 * (I 288 (0 : Int32).toNatClampNeg))) + 4).toNatClampNeg 0) 288 (0 : Int32).toNatClampNeg) + 1)), J)))))))))) else some (none, (L, zB1, I, J)) := by
  rw [zgo_run X C _ _ [0, 7, 24, 29, 42, 49, 56, 63] 55]
  rfl

set_option maxRecDepth 100000 in
theorem bX9_circuit_0 (X : Nat → Nat → Int32) (C : Nat → List zV → zS → Option zR) (L : List zK) (I : Nat → Nat → Int32) (J : Nat → Nat → Int64) : zgo X C (some .int) kX9_circuit 0 [some (.inr (.inr (some (.inl 9, 283)))), none] [] (L, zB1, I, J) = cV (C 167 [.inr (.inr (some (.inl 9, 283)))] (L, zB1, (zup I 283 0 0), J)) (fun σ => zgo X C (some .int) kX9_circuit 9 [some (.inr (.inr (some (.inl 9, 283)))), none] [] σ) := by
  rw [zgo_run X C _ _ [0, 9, 11, 37, 40, 52, 59, 71, 78, 82, 88, 95, 102, 110, 114, 121, 128, 146] 6]
  rfl
set_option maxRecDepth 100000 in
theorem bX9_circuit_9 (X : Nat → Nat → Int32) (C : Nat → List zV → zS → Option zR) (L : List zK) (I : Nat → Nat → Int32) (J : Nat → Nat → Int64) : zgo X C (some .int) kX9_circuit 9 [some (.inr (.inr (some (.inl 9, 283)))), none] [] (L, zB1, I, J) = zgo X C (some .int) kX9_circuit 11 [some (.inr (.inr (some (.inl 9, 283)))), some (.inl 0)] [] (L, zB1, I, J) := by
  rw [zgo_run X C _ _ [0, 9, 11, 37, 40, 52, 59, 71, 78, 82, 88, 95, 102, 110, 114, 121, 128, 146] 3]
  rfl
set_option maxRecDepth 100000 in
theorem bX9_circuit_11 (X : Nat → Nat → Int32) (C : Nat → List zV → zS → Option zR) (L : List zK) (I : Nat → Nat → Int32) (J : Nat → Nat → Int64) (v1 : Int32) : zgo X C (some .int) kX9_circuit 11 [some (.inr (.inr (some (.inl 9, 283)))), some (.inl v1)] [] (L, zB1, I, J) = if (43 : Int32) ≤ v1 then cI (C 164 [.inr (.inr (some (.inl 9, 283))), .inl 108] (L, zB1, I, J)) (fun r σ => zgo X C (some .int) kX9_circuit 37 [some (.inr (.inr (some (.inl 9, 283)))), some (.inl v1)] [.inl r, .inr (.inr (some (.inl 9, 283)))] σ) else zbt (zin v1 43) (zgo X C (some .int) kX9_circuit 11 [some (.inr (.inr (some (.inl 9, 283)))), some (.inl (v1 + 1))] [] (L, zB1, (zup I 288 v1.toNatClampNeg 0), J)) := by
  rw [zgo_run X C _ _ [0, 9, 11, 37, 40, 52, 59, 71, 78, 82, 88, 95, 102, 110, 114, 121, 128, 146] 11]
  rfl
set_option maxRecDepth 100000 in
theorem bX9_circuit_37 (X : Nat → Nat → Int32) (C : Nat → List zV → zS → Option zR) (L : List zK) (I : Nat → Nat → Int32) (J : Nat → Nat → Int64) (v1 : Int32) (s0 : Int32) : zgo X C (some .int) kX9_circuit 37 [some (.inr (.inr (some (.inl 9, 283)))), some (.inl v1)] [.inl s0, .inr (.inr (some (.inl 9, 283)))] (L, zB1, I, J) = cV (C 163 [.inr (.inr (some (.inl 9, 283))), .inl s0] (L, zB1, I, J)) (fun σ => zgo X C (some .int) kX9_circuit 40 [some (.inr (.inr (some (.inl 9, 283)))), some (.inl v1)] [] σ) := by
  rw [zgo_run X C _ _ [0, 9, 11, 37, 40, 52, 59, 71, 78, 82, 88, 95, 102, 110, 114, 121, 128, 146] 2]
  rfl
set_option maxRecDepth 100000 in
theorem bX9_circuit_40 (X : Nat → Nat → Int32) (C : Nat → List zV → zS → Option zR) (L : List zK) (I : Nat → Nat → Int32) (J : Nat → Nat → Int64) (v1 : Int32) : zgo X C (some .int) kX9_circuit 40 [some (.inr (.inr (some (.inl 9, 283)))), some (.inl v1)] [] (L, zB1, I, J) = cI (C 165 [.inr (.inr (some (.inl 9, 283))), .inl 1, .inl 9] (L, zB1, I, J)) (fun r σ => zgo X C (some .int) kX9_circuit 52 [some (.inr (.inr (some (.inl 9, 283)))), some (.inl v1)] [.inl r, .inl 2, .inr (.inr (some (.inr (.int, 43), 288)))] σ) := by
  rw [zgo_run X C _ _ [0, 9, 11, 37, 40, 52, 59, 71, 78, 82, 88, 95, 102, 110, 114, 121, 128, 146] 8]
  rfl
set_option maxRecDepth 100000 in
theorem bX9_circuit_52 (X : Nat → Nat → Int32) (C : Nat → List zV → zS → Option zR) (L : List zK) (I : Nat → Nat → Int32) (J : Nat → Nat → Int64) (v1 : Int32) (s0 : Int32) (s1 : Int32) : zgo X C (some .int) kX9_circuit 52 [some (.inr (.inr (some (.inl 9, 283)))), some (.inl v1)] [.inl s0, .inl s1, .inr (.inr (some (.inr (.int, 43), 288)))] (L, zB1, I, J) = zbt (zin s1 43) (cV (C 166 [.inr (.inr (some (.inl 9, 283))), .inl 44] (L, zB1, (zup I 288 s1.toNatClampNeg s0), J)) (fun σ => zgo X C (some .int) kX9_circuit 59 [some (.inr (.inr (some (.inl 9, 283)))), some (.inl v1)] [] σ)) := by
  rw [zgo_run X C _ _ [0, 9, 11, 37, 40, 52, 59, 71, 78, 82, 88, 95, 102, 110, 114, 121, 128, 146] 5]
  rfl
set_option maxRecDepth 100000 in
theorem bX9_circuit_59 (X : Nat → Nat → Int32) (C : Nat → List zV → zS → Option zR) (L : List zK) (I : Nat → Nat → Int32) (J : Nat → Nat → Int64) (v1 : Int32) : zgo X C (some .int) kX9_circuit 59 [some (.inr (.inr (some (.inl 9, 283)))), some (.inl v1)] [] (L, zB1, I, J) = cI (C 165 [.inr (.inr (some (.inl 9, 283))), .inl 1, .inl 60] (L, zB1, I, J)) (fun r σ => zgo X C (some .int) kX9_circuit 71 [some (.inr (.inr (some (.inl 9, 283)))), some (.inl v1)] [.inl r, .inl 3, .inr (.inr (some (.inr (.int, 43), 288)))] σ) := by
  rw [zgo_run X C _ _ [0, 9, 11, 37, 40, 52, 59, 71, 78, 82, 88, 95, 102, 110, 114, 121, 128, 146] 8]
  rfl
set_option maxRecDepth 100000 in
theorem bX9_circuit_71 (X : Nat → Nat → Int32) (C : Nat → List zV → zS → Option zR) (L : List zK) (I : Nat → Nat → Int32) (J : Nat → Nat → Int64) (v1 : Int32) (s0 : Int32) (s1 : Int32) : zgo X C (some .int) kX9_circuit 71 [some (.inr (.inr (some (.inl 9, 283)))), some (.inl v1)] [.inl s0, .inl s1, .inr (.inr (some (.inr (.int, 43), 288)))] (L, zB1, I, J) = zbt (zin s1 43) (cV (C 166 [.inr (.inr (some (.inl 9, 283))), .inl 59] (L, zB1, (zup I 288 s1.toNatClampNeg s0), J)) (fun σ => zgo X C (some .int) kX9_circuit 78 [some (.inr (.inr (some (.inl 9, 283)))), some (.inl v1)] [] σ)) := by
  rw [zgo_run X C _ _ [0, 9, 11, 37, 40, 52, 59, 71, 78, 82, 88, 95, 102, 110, 114, 121, 128, 146] 5]
  rfl
set_option maxRecDepth 100000 in
theorem bX9_circuit_78 (X : Nat → Nat → Int32) (C : Nat → List zV → zS → Option zR) (L : List zK) (I : Nat → Nat → Int32) (J : Nat → Nat → Int64) (v1 : Int32) : zgo X C (some .int) kX9_circuit 78 [some (.inr (.inr (some (.inl 9, 283)))), some (.inl v1)] [] (L, zB1, I, J) = cV (C 172 [.inr (.inr (some (.inl 9, 283)))] (L, zB1, I, J)) (fun σ => zgo X C (some .int) kX9_circuit 82 [some (.inr (.inr (some (.inl 9, 283)))), some (.inl v1)] [] σ) := by
  rw [zgo_run X C _ _ [0, 9, 11, 37, 40, 52, 59, 71, 78, 82, 88, 95, 102, 110, 114, 121, 128, 146] 3]
  rfl
set_option maxRecDepth 100000 in
theorem bX9_circuit_82 (X : Nat → Nat → Int32) (C : Nat → List zV → zS → Option zR) (L : List zK) (I : Nat → Nat → Int32) (J : Nat → Nat → Int64) (v1 : Int32) : zgo X C (some .int) kX9_circuit 82 [some (.inr (.inr (some (.inl 9, 283)))), some (.inl v1)] [] (L, zB1, I, J) = cI (C 164 [.inr (.inr (some (.inl 9, 283))), .inl 106] (L, zB1, I, J)) (fun r σ => zgo X C (some .int) kX9_circuit 88 [some (.inr (.inr (some (.inl 9, 283)))), some (.inl v1)] [.inl r] σ) := by
  rw [zgo_run X C _ _ [0, 9, 11, 37, 40, 52, 59, 71, 78, 82, 88, 95, 102, 110, 114, 121, 128, 146] 4]
  rfl
set_option maxRecDepth 100000 in
theorem bX9_circuit_88 (X : Nat → Nat → Int32) (C : Nat → List zV → zS → Option zR) (L : List zK) (I : Nat → Nat → Int32) (J : Nat → Nat → Int64) (v1 : Int32) (s0 : Int32) : zgo X C (some .int) kX9_circuit 88 [some (.inr (.inr (some (.inl 9, 283)))), some (.inl v1)] [.inl s0] (L, zB1, I, J) = if s0 = 0 then cI (C 171 [.inr (.inr (some (.inl 9, 283)))] (L, zB1, I, J)) (fun r σ => zgo X C (some .int) kX9_circuit 102 [some (.inr (.inr (some (.inl 9, 283)))), some (.inl v1)] [.inl r] σ) else cV (C 172 [.inr (.inr (some (.inl 9, 283)))] (L, zB1, I, J)) (fun σ => zgo X C (some .int) kX9_circuit 95 [some (.inr (.inr (some (.inl 9, 283)))), some (.inl v1)] [] σ) := by
  rw [zgo_run X C _ _ [0, 9, 11, 37, 40, 52, 59, 71, 78, 82, 88, 95, 102, 110, 114, 121, 128, 146] 4]
  rfl
set_option maxRecDepth 100000 in
theorem bX9_circuit_95 (X : Nat → Nat → Int32) (C : Nat → List zV → zS → Option zR) (L : List zK) (I : Nat → Nat → Int32) (J : Nat → Nat → Int64) (v1 : Int32) : zgo X C (some .int) kX9_circuit 95 [some (.inr (.inr (some (.inl 9, 283)))), some (.inl v1)] [] (L, zB1, I, J) = zgo X C (some .int) kX9_circuit 82 [some (.inr (.inr (some (.inl 9, 283)))), some (.inl v1)] [] (L, zB1, I, J) := by
  rw [zgo_run X C _ _ [0, 9, 11, 37, 40, 52, 59, 71, 78, 82, 88, 95, 102, 110, 114, 121, 128, 146] 2]
  rfl
set_option maxRecDepth 100000 in
theorem bX9_circuit_102 (X : Nat → Nat → Int32) (C : Nat → List zV → zS → Option zR) (L : List zK) (I : Nat → Nat → Int32) (J : Nat → Nat → Int64) (v1 : Int32) (s0 : Int32) : zgo X C (some .int) kX9_circuit 102 [some (.inr (.inr (some (.inl 9, 283)))), some (.inl v1)] [.inl s0] (L, zB1, I, J) = if s0 = 0 then cV (C 161 [.inr (.inr (some (.inl 9, 283))), .inl 1] (L, zB1, I, J)) (fun σ => zgo X C (some .int) kX9_circuit 110 [some (.inr (.inr (some (.inl 9, 283)))), some (.inl v1)] [] σ) else zgo X C (some .int) kX9_circuit 110 [some (.inr (.inr (some (.inl 9, 283)))), some (.inl v1)] [] (L, zB1, I, J) := by
  rw [zgo_run X C _ _ [0, 9, 11, 37, 40, 52, 59, 71, 78, 82, 88, 95, 102, 110, 114, 121, 128, 146] 5]
  rfl
set_option maxRecDepth 100000 in
theorem bX9_circuit_110 (X : Nat → Nat → Int32) (C : Nat → List zV → zS → Option zR) (L : List zK) (I : Nat → Nat → Int32) (J : Nat → Nat → Int64) (v1 : Int32) : zgo X C (some .int) kX9_circuit 110 [some (.inr (.inr (some (.inl 9, 283)))), some (.inl v1)] [] (L, zB1, I, J) = cI (C 171 [.inr (.inr (some (.inl 9, 283)))] (L, zB1, I, J)) (fun r σ => zgo X C (some .int) kX9_circuit 114 [some (.inr (.inr (some (.inl 9, 283)))), some (.inl v1)] [.inl r] σ) := by
  rw [zgo_run X C _ _ [0, 9, 11, 37, 40, 52, 59, 71, 78, 82, 88, 95, 102, 110, 114, 121, 128, 146] 3]
  rfl
set_option maxRecDepth 100000 in
theorem bX9_circuit_114 (X : Nat → Nat → Int32) (C : Nat → List zV → zS → Option zR) (L : List zK) (I : Nat → Nat → Int32) (J : Nat → Nat → Int64) (v1 : Int32) (s0 : Int32) : zgo X C (some .int) kX9_circuit 114 [some (.inr (.inr (some (.inl 9, 283)))), some (.inl v1)] [.inl s0] (L, zB1, I, J) = if s0 = 0 then cI (C 168 [.inr (.inr (some (.inl 9, 283)))] (L, zB1, I, J)) (fun r σ => zgo X C (some .int) kX9_circuit 128 [some (.inr (.inr (some (.inl 9, 283)))), some (.inl v1)] [.inl r] σ) else cV (C 173 [.inr (.inr (some (.inl 9, 283)))] (L, zB1, I, J)) (fun σ => zgo X C (some .int) kX9_circuit 121 [some (.inr (.inr (some (.inl 9, 283)))), some (.inl v1)] [] σ) := by
  rw [zgo_run X C _ _ [0, 9, 11, 37, 40, 52, 59, 71, 78, 82, 88, 95, 102, 110, 114, 121, 128, 146] 4]
  rfl
set_option maxRecDepth 100000 in
theorem bX9_circuit_121 (X : Nat → Nat → Int32) (C : Nat → List zV → zS → Option zR) (L : List zK) (I : Nat → Nat → Int32) (J : Nat → Nat → Int64) (v1 : Int32) : zgo X C (some .int) kX9_circuit 121 [some (.inr (.inr (some (.inl 9, 283)))), some (.inl v1)] [] (L, zB1, I, J) = zgo X C (some .int) kX9_circuit 110 [some (.inr (.inr (some (.inl 9, 283)))), some (.inl v1)] [] (L, zB1, I, J) := by
  rw [zgo_run X C _ _ [0, 9, 11, 37, 40, 52, 59, 71, 78, 82, 88, 95, 102, 110, 114, 121, 128, 146] 2]
  rfl
set_option maxRecDepth 100000 in
theorem bX9_circuit_128 (X : Nat → Nat → Int32) (C : Nat → List zV → zS → Option zR) (L : List zK) (I : Nat → Nat → Int32) (J : Nat → Nat → Int64) (v1 : Int32) (s0 : Int32) : zgo X C (some .int) kX9_circuit 128 [some (.inr (.inr (some (.inl 9, 283)))), some (.inl v1)] [.inl s0] (L, zB1, I, J) = if s0 = 0 then zgo X C (some .int) kX9_circuit 146 [some (.inr (.inr (some (.inl 9, 283)))), some (.inl 0)] [] (L, zB1, (zup I 283 9 0), J) else some (some (.inl ((-1000100) - (I 283 17))), (L, zB1, I, J)) := by
  rw [zgo_run X C _ _ [0, 9, 11, 37, 40, 52, 59, 71, 78, 82, 88, 95, 102, 110, 114, 121, 128, 146] 7]
  rfl
set_option maxRecDepth 100000 in
theorem bX9_circuit_146 (X : Nat → Nat → Int32) (C : Nat → List zV → zS → Option zR) (L : List zK) (I : Nat → Nat → Int32) (J : Nat → Nat → Int64) (v1 : Int32) : zgo X C (some .int) kX9_circuit 146 [some (.inr (.inr (some (.inl 9, 283)))), some (.inl v1)] [] (L, zB1, I, J) = if (43 : Int32) ≤ v1 then zbt (zin 0 43) (some (some (.inl (I 287 (0 : Int32).toNatClampNeg)), (L, zB1, I, J))) else zbt (zin v1 43) (zbt (zin v1 43) (zgo X C (some .int) kX9_circuit 146 [some (.inr (.inr (some (.inl 9, 283)))), some (.inl (v1 + 1))] [] (L, zB1, (zup I 287 v1.toNatClampNeg (I 288 v1.toNatClampNeg)), J))) := by
  rw [zgo_run X C _ _ [0, 9, 11, 37, 40, 52, 59, 71, 78, 82, 88, 95, 102, 110, 114, 121, 128, 146] 14]
  rfl

set_option maxRecDepth 100000 in
theorem bX9_isThere_0 (X : Nat → Nat → Int32) (C : Nat → List zV → zS → Option zR) (L : List zK) (I : Nat → Nat → Int32) (J : Nat → Nat → Int64) : zgo X C (some .boolean) kX9_isThere 0 [some (.inr (.inr (some (.inl 9, 283))))] [] (L, zB1, I, J) = zbt (zin 0 43) (if (I 287 (0 : Int32).toNatClampNeg) ≤ 0 then some (some (.inl 0), (L, zB1, I, J)) else some (some (.inl 1), (L, zB1, I, J))) := by
  rw [zgo_run X C _ _ [0] 9]
  rfl

set_option maxRecDepth 100000 in
theorem bX9_isMan_0 (X : Nat → Nat → Int32) (C : Nat → List zV → zS → Option zR) (L : List zK) (I : Nat → Nat → Int32) (J : Nat → Nat → Int64) (a1 : Int32) : zgo X C (some .boolean) kX9_isMan 0 [some (.inr (.inr (some (.inl 9, 283)))), some (.inl a1)] [] (L, zB1, I, J) = zbt (zin 0 43) (cI (C 153 [.inr (.inl ((a1).toInt64)), .inr (.inl 0), .inr (.inl ((((I 287 (0 : Int32).toNatClampNeg) - 1)).toInt64))] (L, zB1, I, J)) (fun r σ => zgo X C (some .boolean) kX9_isMan 15 [some (.inr (.inr (some (.inl 9, 283)))), some (.inl a1)] [.inl r] σ)) := by
  rw [zgo_run X C _ _ [0, 15] 12]
  rfl
set_option maxRecDepth 100000 in
theorem bX9_isMan_15 (X : Nat → Nat → Int32) (C : Nat → List zV → zS → Option zR) (L : List zK) (I : Nat → Nat → Int32) (J : Nat → Nat → Int64) (v1 : Int32) (s0 : Int32) : zgo X C (some .boolean) kX9_isMan 15 [some (.inr (.inr (some (.inl 9, 283)))), some (.inl v1)] [.inl s0] (L, zB1, I, J) = zret (some .boolean) (some (.inl s0)) (L, zB1, I, J) := by
  rw [zgo_run X C _ _ [0, 15] 2]
  rfl

set_option maxRecDepth 100000 in
theorem bX9_isJudge_0 (X : Nat → Nat → Int32) (C : Nat → List zV → zS → Option zR) (L : List zK) (I : Nat → Nat → Int32) (J : Nat → Nat → Int64) (a1 : Int32) : zgo X C (some .boolean) kX9_isJudge 0 [some (.inr (.inr (some (.inl 9, 283)))), some (.inl a1)] [] (L, zB1, I, J) = zbt (zin 1 43) (cI (C 153 [.inr (.inl ((a1).toInt64)), .inr (.inl 0), .inr (.inl ((((I 287 (1 : Int32).toNatClampNeg) - 1)).toInt64))] (L, zB1, I, J)) (fun r σ => zgo X C (some .boolean) kX9_isJudge 15 [some (.inr (.inr (some (.inl 9, 283)))), some (.inl a1)] [.inl r] σ)) := by
  rw [zgo_run X C _ _ [0, 15] 12]
  rfl
set_option maxRecDepth 100000 in
theorem bX9_isJudge_15 (X : Nat → Nat → Int32) (C : Nat → List zV → zS → Option zR) (L : List zK) (I : Nat → Nat → Int32) (J : Nat → Nat → Int64) (v1 : Int32) (s0 : Int32) : zgo X C (some .boolean) kX9_isJudge 15 [some (.inr (.inr (some (.inl 9, 283)))), some (.inl v1)] [.inl s0] (L, zB1, I, J) = zret (some .boolean) (some (.inl s0)) (L, zB1, I, J) := by
  rw [zgo_run X C _ _ [0, 15] 2]
  rfl

set_option maxRecDepth 100000 in
theorem bX9_bits_0 (X : Nat → Nat → Int32) (C : Nat → List zV → zS → Option zR) (L : List zK) (I : Nat → Nat → Int32) (J : Nat → Nat → Int64) (a1 : Int32) : zgo X C (some .int) kX9_bits 0 [some (.inl a1), none, none] [] (L, zB1, I, J) = zgo X C (some .int) kX9_bits 4 [some (.inl a1), some (.inl 0), some (.inl 0)] [] (L, zB1, I, J) := by
  rw [zgo_run X C _ _ [0, 4] 5]
  rfl
set_option maxRecDepth 100000 in
theorem bX9_bits_4 (X : Nat → Nat → Int32) (C : Nat → List zV → zS → Option zR) (L : List zK) (I : Nat → Nat → Int32) (J : Nat → Nat → Int64) (v0 : Int32) (v1 : Int32) (v2 : Int32) : zgo X C (some .int) kX9_bits 4 [some (.inl v0), some (.inl v1), some (.inl v2)] [] (L, zB1, I, J) = if (6 : Int32) ≤ v2 then some (some (.inl v1), (L, zB1, I, J)) else zgo X C (some .int) kX9_bits 4 [some (.inl v0), some (.inl (v1 + ((v0 >>> (v2 &&& 31)) &&& 1))), some (.inl (v2 + 1))] [] (L, zB1, I, J) := by
  rw [zgo_run X C _ _ [0, 4] 14]
  rfl

set_option maxRecDepth 100000 in
theorem bX9_has_0 (X : Nat → Nat → Int32) (C : Nat → List zV → zS → Option zR) (L : List zK) (I : Nat → Nat → Int32) (J : Nat → Nat → Int64) (a1 : Int32) (a2 : Int32) : zgo X C (some .boolean) kX9_has 0 [some (.inl a1), some (.inl a2)] [] (L, zB1, I, J) = if ((a1 >>> (a2 &&& 31)) &&& 1) = 1 then some (some (.inl 1), (L, zB1, I, J)) else some (some (.inl 0), (L, zB1, I, J)) := by
  rw [zgo_run X C _ _ [0] 11]
  rfl

set_option maxRecDepth 100000 in
theorem bX9_of_0 (X : Nat → Nat → Int32) (C : Nat → List zV → zS → Option zR) (L : List zK) (I : Nat → Nat → Int32) (J : Nat → Nat → Int64) (b : Nat) (a2 : Int32) (a3 : Int32) : zgo X C (some .int) kX9_of 0 [some (.inr (.inr (some (.inr (.int, 43), b)))), some (.inl a2), some (.inl a3)] [] (L, zB1, I, J) = zbt (zin ((13 + (5 * a2)) + a3) 43) (some (some (.inl (I b ((13 + (5 * a2)) + a3).toNatClampNeg)), (L, zB1, I, J))) := by
  rw [zgo_run X C _ _ [0] 11]
  rfl

set_option maxRecDepth 100000 in
theorem bX9_be_0 (X : Nat → Nat → Int32) (C : Nat → List zV → zS → Option zR) (L : List zK) (I : Nat → Nat → Int32) (J : Nat → Nat → Int64) (b : Nat) (a2 : Int32) (a3 : Int32) (a4 : Int32) : zgo X C none kX9_be 0 [some (.inr (.inr (some (.inr (.int, 43), b)))), some (.inl a2), some (.inl a3), some (.inl a4)] [] (L, zB1, I, J) = zbt (zin ((13 + (5 * a2)) + a3) 43) (some (none, (L, zB1, (zup I b ((13 + (5 * a2)) + a3).toNatClampNeg a4), J))) := by
  rw [zgo_run X C _ _ [0] 12]
  rfl

set_option maxRecDepth 100000 in
theorem bX9_severeOf_0 (X : Nat → Nat → Int32) (C : Nat → List zV → zS → Option zR) (L : List zK) (I : Nat → Nat → Int32) (J : Nat → Nat → Int64) (b : Nat) (a2 : Int32) : zgo X C (some .int) kX9_severeOf 0 [some (.inr (.inr (some (.inr (.int, 43), b)))), some (.inl a2)] [] (L, zB1, I, J) = zbt (zin (5 + (2 * a2)) 43) (some (some (.inl (I b (5 + (2 * a2)).toNatClampNeg)), (L, zB1, I, J))) := by
  rw [zgo_run X C _ _ [0] 9]
  rfl

set_option maxRecDepth 100000 in
theorem bX9_isOpen_0 (X : Nat → Nat → Int32) (C : Nat → List zV → zS → Option zR) (L : List zK) (I : Nat → Nat → Int32) (J : Nat → Nat → Int64) (b : Nat) (a2 : Int32) : zgo X C (some .boolean) kX9_isOpen 0 [some (.inr (.inr (some (.inr (.int, 43), b)))), some (.inl a2)] [] (L, zB1, I, J) = zbt (zin ((5 + (2 * a2)) + 1) 43) (if (I b ((5 + (2 * a2)) + 1).toNatClampNeg) = 1 then some (some (.inl 1), (L, zB1, I, J)) else some (some (.inl 0), (L, zB1, I, J))) := by
  rw [zgo_run X C _ _ [0] 15]
  rfl

set_option maxRecDepth 100000 in
theorem bX9_those_0 (X : Nat → Nat → Int32) (C : Nat → List zV → zS → Option zR) (L : List zK) (I : Nat → Nat → Int32) (J : Nat → Nat → Int64) (b : Nat) (a2 : Int32) : zgo X C (some .int) kX9_those 0 [some (.inr (.inr (some (.inr (.int, 43), b)))), some (.inl a2), none, none] [] (L, zB1, I, J) = zgo X C (some .int) kX9_those 4 [some (.inr (.inr (some (.inr (.int, 43), b)))), some (.inl a2), some (.inl 0), some (.inl 0)] [] (L, zB1, I, J) := by
  rw [zgo_run X C _ _ [0, 4, 18, 29] 5]
  rfl
set_option maxRecDepth 100000 in
theorem bX9_those_4 (X : Nat → Nat → Int32) (C : Nat → List zV → zS → Option zR) (L : List zK) (I : Nat → Nat → Int32) (J : Nat → Nat → Int64) (b : Nat) (v1 : Int32) (v2 : Int32) (v3 : Int32) : zgo X C (some .int) kX9_those 4 [some (.inr (.inr (some (.inr (.int, 43), b)))), some (.inl v1), some (.inl v2), some (.inl v3)] [] (L, zB1, I, J) = zbt (zin 0 43) (if (I b (0 : Int32).toNatClampNeg) ≤ v3 then some (some (.inl v2), (L, zB1, I, J)) else cI (C 180 [.inr (.inr (some (.inr (.int, 43), b))), .inl v3, .inl 3] (L, zB1, I, J)) (fun r σ => zgo X C (some .int) kX9_those 18 [some (.inr (.inr (some (.inr (.int, 43), b)))), some (.inl v1), some (.inl v2), some (.inl v3)] [.inl r, .inl v2] σ)) := by
  rw [zgo_run X C _ _ [0, 4, 18, 29] 11]
  rfl
set_option maxRecDepth 100000 in
theorem bX9_those_18 (X : Nat → Nat → Int32) (C : Nat → List zV → zS → Option zR) (L : List zK) (I : Nat → Nat → Int32) (J : Nat → Nat → Int64) (b : Nat) (v1 : Int32) (v2 : Int32) (v3 : Int32) (s0 : Int32) (s1 : Int32) : zgo X C (some .int) kX9_those 18 [some (.inr (.inr (some (.inr (.int, 43), b)))), some (.inl v1), some (.inl v2), some (.inl v3)] [.inl s0, .inl s1] (L, zB1, I, J) = if s0 = v1 then zgo X C (some .int) kX9_those 29 [some (.inr (.inr (some (.inr (.int, 43), b)))), some (.inl v1), some (.inl v2), some (.inl v3)] [.inl (1 <<< (v3 &&& 31)), .inl s1] (L, zB1, I, J) else zgo X C (some .int) kX9_those 29 [some (.inr (.inr (some (.inr (.int, 43), b)))), some (.inl v1), some (.inl v2), some (.inl v3)] [.inl 0, .inl s1] (L, zB1, I, J) := by
  rw [zgo_run X C _ _ [0, 4, 18, 29] 7]
  rfl
set_option maxRecDepth 100000 in
theorem bX9_those_29 (X : Nat → Nat → Int32) (C : Nat → List zV → zS → Option zR) (L : List zK) (I : Nat → Nat → Int32) (J : Nat → Nat → Int64) (b : Nat) (v1 : Int32) (v2 : Int32) (v3 : Int32) (s0 : Int32) (s1 : Int32) : zgo X C (some .int) kX9_those 29 [some (.inr (.inr (some (.inr (.int, 43), b)))), some (.inl v1), some (.inl v2), some (.inl v3)] [.inl s0, .inl s1] (L, zB1, I, J) = zgo X C (some .int) kX9_those 4 [some (.inr (.inr (some (.inr (.int, 43), b)))), some (.inl v1), some (.inl (s1 ||| s0)), some (.inl (v3 + 1))] [] (L, zB1, I, J) := by
  rw [zgo_run X C _ _ [0, 4, 18, 29] 5]
  rfl

set_option maxRecDepth 100000 in
theorem bX9_whoIsBy_0 (X : Nat → Nat → Int32) (C : Nat → List zV → zS → Option zR) (L : List zK) (I : Nat → Nat → Int32) (J : Nat → Nat → Int64) (b : Nat) (a2 : Int32) : zgo X C (some .int) kX9_whoIsBy 0 [some (.inr (.inr (some (.inr (.int, 43), b)))), some (.inl a2), none] [] (L, zB1, I, J) = zgo X C (some .int) kX9_whoIsBy 2 [some (.inr (.inr (some (.inr (.int, 43), b)))), some (.inl a2), some (.inl 0)] [] (L, zB1, I, J) := by
  rw [zgo_run X C _ _ [0, 2, 15, 25, 35] 3]
  rfl
set_option maxRecDepth 100000 in
theorem bX9_whoIsBy_2 (X : Nat → Nat → Int32) (C : Nat → List zV → zS → Option zR) (L : List zK) (I : Nat → Nat → Int32) (J : Nat → Nat → Int64) (b : Nat) (v1 : Int32) (v2 : Int32) : zgo X C (some .int) kX9_whoIsBy 2 [some (.inr (.inr (some (.inr (.int, 43), b)))), some (.inl v1), some (.inl v2)] [] (L, zB1, I, J) = zbt (zin 0 43) (if (I b (0 : Int32).toNatClampNeg) ≤ v2 then some (some (.inl (-1000000)), (L, zB1, I, J)) else cI (C 180 [.inr (.inr (some (.inr (.int, 43), b))), .inl v2, .inl 1] (L, zB1, I, J)) (fun r σ => zgo X C (some .int) kX9_whoIsBy 15 [some (.inr (.inr (some (.inr (.int, 43), b)))), some (.inl v1), some (.inl v2)] [.inl r] σ)) := by
  rw [zgo_run X C _ _ [0, 2, 15, 25, 35] 10]
  rfl
set_option maxRecDepth 100000 in
theorem bX9_whoIsBy_15 (X : Nat → Nat → Int32) (C : Nat → List zV → zS → Option zR) (L : List zK) (I : Nat → Nat → Int32) (J : Nat → Nat → Int64) (b : Nat) (v1 : Int32) (v2 : Int32) (s0 : Int32) : zgo X C (some .int) kX9_whoIsBy 15 [some (.inr (.inr (some (.inr (.int, 43), b)))), some (.inl v1), some (.inl v2)] [.inl s0] (L, zB1, I, J) = if s0 = v1 then cI (C 180 [.inr (.inr (some (.inr (.int, 43), b))), .inl v2, .inl 3] (L, zB1, I, J)) (fun r σ => zgo X C (some .int) kX9_whoIsBy 25 [some (.inr (.inr (some (.inr (.int, 43), b)))), some (.inl v1), some (.inl v2)] [.inl r] σ) else zgo X C (some .int) kX9_whoIsBy 2 [some (.inr (.inr (some (.inr (.int, 43), b)))), some (.inl v1), some (.inl (v2 + 1))] [] (L, zB1, I, J) := by
  rw [zgo_run X C _ _ [0, 2, 15, 25, 35] 7]
  rfl
set_option maxRecDepth 100000 in
theorem bX9_whoIsBy_25 (X : Nat → Nat → Int32) (C : Nat → List zV → zS → Option zR) (L : List zK) (I : Nat → Nat → Int32) (J : Nat → Nat → Int64) (b : Nat) (v1 : Int32) (v2 : Int32) (s0 : Int32) : zgo X C (some .int) kX9_whoIsBy 25 [some (.inr (.inr (some (.inr (.int, 43), b)))), some (.inl v1), some (.inl v2)] [.inl s0] (L, zB1, I, J) = if s0 = 1 then some (some (.inl v2), (L, zB1, I, J)) else cI (C 180 [.inr (.inr (some (.inr (.int, 43), b))), .inl v2, .inl 3] (L, zB1, I, J)) (fun r σ => zgo X C (some .int) kX9_whoIsBy 35 [some (.inr (.inr (some (.inr (.int, 43), b)))), some (.inl v1), some (.inl v2)] [.inl r] σ) := by
  rw [zgo_run X C _ _ [0, 2, 15, 25, 35] 7]
  rfl
set_option maxRecDepth 100000 in
theorem bX9_whoIsBy_35 (X : Nat → Nat → Int32) (C : Nat → List zV → zS → Option zR) (L : List zK) (I : Nat → Nat → Int32) (J : Nat → Nat → Int64) (b : Nat) (v1 : Int32) (v2 : Int32) (s0 : Int32) : zgo X C (some .int) kX9_whoIsBy 35 [some (.inr (.inr (some (.inr (.int, 43), b)))), some (.inl v1), some (.inl v2)] [.inl s0] (L, zB1, I, J) = if s0 = 3 then some (some (.inl v2), (L, zB1, I, J)) else zgo X C (some .int) kX9_whoIsBy 2 [some (.inr (.inr (some (.inr (.int, 43), b)))), some (.inl v1), some (.inl (v2 + 1))] [] (L, zB1, I, J) := by
  rw [zgo_run X C _ _ [0, 2, 15, 25, 35] 5]
  rfl

set_option maxRecDepth 100000 in
theorem bX9_gainOf_0 (X : Nat → Nat → Int32) (C : Nat → List zV → zS → Option zR) (L : List zK) (I : Nat → Nat → Int32) (J : Nat → Nat → Int64) (b : Nat) (a2 : Int32) : zgo X C (some .int) kX9_gainOf 0 [some (.inr (.inr (some (.inr (.int, 43), b)))), some (.inl a2), none, none, none, none] [] (L, zB1, I, J) = cI (C 180 [.inr (.inr (some (.inr (.int, 43), b))), .inl a2, .inl 1] (L, zB1, I, J)) (fun r σ => zgo X C (some .int) kX9_gainOf 6 [some (.inr (.inr (some (.inr (.int, 43), b)))), some (.inl a2), none, none, none, none] [.inl r] σ) := by
  rw [zgo_run X C _ _ [0, 6, 13, 24, 32, 36, 61, 82, 90] 5]
  rfl
set_option maxRecDepth 100000 in
theorem bX9_gainOf_6 (X : Nat → Nat → Int32) (C : Nat → List zV → zS → Option zR) (L : List zK) (I : Nat → Nat → Int32) (J : Nat → Nat → Int64) (b : Nat) (v1 : Int32) (s0 : Int32) : zgo X C (some .int) kX9_gainOf 6 [some (.inr (.inr (some (.inr (.int, 43), b)))), some (.inl v1), none, none, none, none] [.inl s0] (L, zB1, I, J) = cI (C 180 [.inr (.inr (some (.inr (.int, 43), b))), .inl v1, .inl 0] (L, zB1, I, J)) (fun r σ => zgo X C (some .int) kX9_gainOf 13 [some (.inr (.inr (some (.inr (.int, 43), b)))), some (.inl v1), some (.inl s0), none, none, none] [.inl r] σ) := by
  rw [zgo_run X C _ _ [0, 6, 13, 24, 32, 36, 61, 82, 90] 6]
  rfl
set_option maxRecDepth 100000 in
theorem bX9_gainOf_13 (X : Nat → Nat → Int32) (C : Nat → List zV → zS → Option zR) (L : List zK) (I : Nat → Nat → Int32) (J : Nat → Nat → Int64) (b : Nat) (v1 : Int32) (v2 : Int32) (s0 : Int32) : zgo X C (some .int) kX9_gainOf 13 [some (.inr (.inr (some (.inr (.int, 43), b)))), some (.inl v1), some (.inl v2), none, none, none] [.inl s0] (L, zB1, I, J) = if s0 < 4 then zbt (zin 2 43) (cI (C 182 [.inr (.inr (some (.inr (.int, 43), b))), .inl v2] (L, zB1, I, J)) (fun r σ => zgo X C (some .int) kX9_gainOf 61 [some (.inr (.inr (some (.inr (.int, 43), b)))), some (.inl v1), some (.inl v2), some (.inl s0), none, none] [.inl r, .inl (I b (2 : Int32).toNatClampNeg)] σ)) else cI (C 183 [.inr (.inr (some (.inr (.int, 43), b))), .inl v2] (L, zB1, I, J)) (fun r σ => zgo X C (some .int) kX9_gainOf 24 [some (.inr (.inr (some (.inr (.int, 43), b)))), some (.inl v1), some (.inl v2), some (.inl s0), none, none] [.inl r] σ) := by
  rw [zgo_run X C _ _ [0, 6, 13, 24, 32, 36, 61, 82, 90] 11]
  rfl
set_option maxRecDepth 100000 in
theorem bX9_gainOf_24 (X : Nat → Nat → Int32) (C : Nat → List zV → zS → Option zR) (L : List zK) (I : Nat → Nat → Int32) (J : Nat → Nat → Int64) (b : Nat) (v1 : Int32) (v2 : Int32) (v3 : Int32) (s0 : Int32) : zgo X C (some .int) kX9_gainOf 24 [some (.inr (.inr (some (.inr (.int, 43), b)))), some (.inl v1), some (.inl v2), some (.inl v3), none, none] [.inl s0] (L, zB1, I, J) = if s0 = 0 then zgo X C (some .int) kX9_gainOf 36 [some (.inr (.inr (some (.inr (.int, 43), b)))), some (.inl v1), some (.inl v2), some (.inl v3), none, none] [.inl 0] (L, zB1, I, J) else cI (C 182 [.inr (.inr (some (.inr (.int, 43), b))), .inl v2] (L, zB1, I, J)) (fun r σ => zgo X C (some .int) kX9_gainOf 32 [some (.inr (.inr (some (.inr (.int, 43), b)))), some (.inl v1), some (.inl v2), some (.inl v3), none, none] [.inl r] σ) := by
  rw [zgo_run X C _ _ [0, 6, 13, 24, 32, 36, 61, 82, 90] 5]
  rfl
set_option maxRecDepth 100000 in
theorem bX9_gainOf_32 (X : Nat → Nat → Int32) (C : Nat → List zV → zS → Option zR) (L : List zK) (I : Nat → Nat → Int32) (J : Nat → Nat → Int64) (b : Nat) (v1 : Int32) (v2 : Int32) (v3 : Int32) (s0 : Int32) : zgo X C (some .int) kX9_gainOf 32 [some (.inr (.inr (some (.inr (.int, 43), b)))), some (.inl v1), some (.inl v2), some (.inl v3), none, none] [.inl s0] (L, zB1, I, J) = zgo X C (some .int) kX9_gainOf 36 [some (.inr (.inr (some (.inr (.int, 43), b)))), some (.inl v1), some (.inl v2), some (.inl v3), none, none] [.inl s0] (L, zB1, I, J) := by
  rw [zgo_run X C _ _ [0, 6, 13, 24, 32, 36, 61, 82, 90] 2]
  rfl
set_option maxRecDepth 100000 in
theorem bX9_gainOf_36 (X : Nat → Nat → Int32) (C : Nat → List zV → zS → Option zR) (L : List zK) (I : Nat → Nat → Int32) (J : Nat → Nat → Int64) (b : Nat) (v1 : Int32) (v2 : Int32) (v3 : Int32) (s0 : Int32) : zgo X C (some .int) kX9_gainOf 36 [some (.inr (.inr (some (.inr (.int, 43), b)))), some (.inl v1), some (.inl v2), some (.inl v3), none, none] [.inl s0] (L, zB1, I, J) = if v3 = 5 then some (some (.inl (s0 + 1)), (L, zB1, I, J)) else some (some (.inl s0), (L, zB1, I, J)) := by
  rw [zgo_run X C _ _ [0, 6, 13, 24, 32, 36, 61, 82, 90] 10]
  rfl
set_option maxRecDepth 100000 in
theorem bX9_gainOf_61 (X : Nat → Nat → Int32) (C : Nat → List zV → zS → Option zR) (L : List zK) (I : Nat → Nat → Int32) (J : Nat → Nat → Int64) (b : Nat) (v1 : Int32) (v2 : Int32) (v3 : Int32) (s0 : Int32) (s1 : Int32) : zgo X C (some .int) kX9_gainOf 61 [some (.inr (.inr (some (.inr (.int, 43), b)))), some (.inl v1), some (.inl v2), some (.inl v3), none, none] [.inl s0, .inl s1] (L, zB1, I, J) = if (3 : Int32) = 0 then none else if 0 ≤ (s1 - (s0 / 3)) then cI (C 183 [.inr (.inr (some (.inr (.int, 43), b))), .inl v2] (L, zB1, I, J)) (fun r σ => zgo X C (some .int) kX9_gainOf 82 [some (.inr (.inr (some (.inr (.int, 43), b)))), some (.inl v1), some (.inl v2), some (.inl v3), some (.inl (s1 - (s0 / 3))), none] [.inl r, .inl (s1 - (s0 / 3))] σ) else cI (C 183 [.inr (.inr (some (.inr (.int, 43), b))), .inl v2] (L, zB1, I, J)) (fun r σ => zgo X C (some .int) kX9_gainOf 82 [some (.inr (.inr (some (.inr (.int, 43), b)))), some (.inl v1), some (.inl v2), some (.inl v3), some (.inl (s1 - (s0 / 3))), none] [.inl r, .inl 0] σ) := by
  rw [zgo_run X C _ _ [0, 6, 13, 24, 32, 36, 61, 82, 90] 12]
  rfl
set_option maxRecDepth 100000 in
theorem bX9_gainOf_82 (X : Nat → Nat → Int32) (C : Nat → List zV → zS → Option zR) (L : List zK) (I : Nat → Nat → Int32) (J : Nat → Nat → Int64) (b : Nat) (v1 : Int32) (v2 : Int32) (v3 : Int32) (v4 : Int32) (s0 : Int32) (s1 : Int32) : zgo X C (some .int) kX9_gainOf 82 [some (.inr (.inr (some (.inr (.int, 43), b)))), some (.inl v1), some (.inl v2), some (.inl v3), some (.inl v4), none] [.inl s0, .inl s1] (L, zB1, I, J) = if s0 = 0 then zgo X C (some .int) kX9_gainOf 90 [some (.inr (.inr (some (.inr (.int, 43), b)))), some (.inl v1), some (.inl v2), some (.inl v3), some (.inl v4), none] [.inl 0, .inl s1] (L, zB1, I, J) else zgo X C (some .int) kX9_gainOf 90 [some (.inr (.inr (some (.inr (.int, 43), b)))), some (.inl v1), some (.inl v2), some (.inl v3), some (.inl v4), none] [.inl 1, .inl s1] (L, zB1, I, J) := by
  rw [zgo_run X C _ _ [0, 6, 13, 24, 32, 36, 61, 82, 90] 4]
  rfl
set_option maxRecDepth 100000 in
theorem bX9_gainOf_90 (X : Nat → Nat → Int32) (C : Nat → List zV → zS → Option zR) (L : List zK) (I : Nat → Nat → Int32) (J : Nat → Nat → Int64) (b : Nat) (v1 : Int32) (v2 : Int32) (v3 : Int32) (v4 : Int32) (s0 : Int32) (s1 : Int32) : zgo X C (some .int) kX9_gainOf 90 [some (.inr (.inr (some (.inr (.int, 43), b)))), some (.inl v1), some (.inl v2), some (.inl v3), some (.inl v4), none] [.inl s0, .inl s1] (L, zB1, I, J) = if v3 = 3 then zbt (zin 4 43) (if (2 : Int32) = 0 then none else if ((I b (4 : Int32).toNatClampNeg) - (I b (4 : Int32).toNatClampNeg) / 2 * 2) = 1 then some (some (.inl (2 * (s1 + s0))), (L, zB1, I, J)) else some (some (.inl (s1 + s0)), (L, zB1, I, J))) else some (some (.inl (s1 + s0)), (L, zB1, I, J)) := by
  rw [zgo_run X C _ _ [0, 6, 13, 24, 32, 36, 61, 82, 90] 18]
  rfl

set_option maxRecDepth 100000 in
theorem bX9_yearBy_0 (X : Nat → Nat → Int32) (C : Nat → List zV → zS → Option zR) (L : List zK) (I : Nat → Nat → Int32) (J : Nat → Nat → Int64) (b : Nat) (a2 : Int32) : zgo X C none kX9_yearBy 0 [some (.inr (.inr (some (.inr (.int, 43), b)))), some (.inl a2), none, none, none] [] (L, zB1, I, J) = zgo X C none kX9_yearBy 2 [some (.inr (.inr (some (.inr (.int, 43), b)))), some (.inl a2), some (.inl 0), none, none] [] (L, zB1, I, J) := by
  rw [zgo_run X C _ _ [0, 2, 14, 28, 47, 58, 69, 85, 98, 108, 121, 141, 147, 160, 165, 171, 183, 197] 3]
  rfl
set_option maxRecDepth 100000 in
theorem bX9_yearBy_2 (X : Nat → Nat → Int32) (C : Nat → List zV → zS → Option zR) (L : List zK) (I : Nat → Nat → Int32) (J : Nat → Nat → Int64) (b : Nat) (v1 : Int32) (v2 : Int32) (u3 : Option zV) (u4 : Option zV) : zgo X C none kX9_yearBy 2 [some (.inr (.inr (some (.inr (.int, 43), b)))), some (.inl v1), some (.inl v2), u3, u4] [] (L, zB1, I, J) = zbt (zin 1 43) (if (I b (1 : Int32).toNatClampNeg) ≤ v2 then zgo X C none kX9_yearBy 85 [some (.inr (.inr (some (.inr (.int, 43), b)))), some (.inl v1), some (.inl 0), u3, u4] [] (L, zB1, I, J) else cI (C 185 [.inr (.inr (some (.inr (.int, 43), b))), .inl v2] (L, zB1, I, J)) (fun r σ => zgo X C none kX9_yearBy 14 [some (.inr (.inr (some (.inr (.int, 43), b)))), some (.inl v1), some (.inl v2), u3, u4] [.inl r] σ)) := by
  rw [zgo_run X C _ _ [0, 2, 14, 28, 47, 58, 69, 85, 98, 108, 121, 141, 147, 160, 165, 171, 183, 197] 9]
  rfl
set_option maxRecDepth 100000 in
theorem bX9_yearBy_14 (X : Nat → Nat → Int32) (C : Nat → List zV → zS → Option zR) (L : List zK) (I : Nat → Nat → Int32) (J : Nat → Nat → Int64) (b : Nat) (v1 : Int32) (v2 : Int32) (u3 : Option zV) (u4 : Option zV) (s0 : Int32) : zgo X C none kX9_yearBy 14 [some (.inr (.inr (some (.inr (.int, 43), b)))), some (.inl v1), some (.inl v2), u3, u4] [.inl s0] (L, zB1, I, J) = if s0 = (-1000000) then zgo X C none kX9_yearBy 28 [some (.inr (.inr (some (.inr (.int, 43), b)))), some (.inl v1), some (.inl v2), some (.inl 1), some (.inl 0)] [] (L, zB1, I, J) else zgo X C none kX9_yearBy 28 [some (.inr (.inr (some (.inr (.int, 43), b)))), some (.inl v1), some (.inl v2), some (.inl 0), some (.inl 0)] [] (L, zB1, I, J) := by
  rw [zgo_run X C _ _ [0, 2, 14, 28, 47, 58, 69, 85, 98, 108, 121, 141, 147, 160, 165, 171, 183, 197] 8]
  rfl
set_option maxRecDepth 100000 in
theorem bX9_yearBy_28 (X : Nat → Nat → Int32) (C : Nat → List zV → zS → Option zR) (L : List zK) (I : Nat → Nat → Int32) (J : Nat → Nat → Int64) (b : Nat) (v1 : Int32) (v2 : Int32) (v3 : Int32) (v4 : Int32) : zgo X C none kX9_yearBy 28 [some (.inr (.inr (some (.inr (.int, 43), b)))), some (.inl v1), some (.inl v2), some (.inl v3), some (.inl v4)] [] (L, zB1, I, J) = zbt (zin 0 43) (if (I b (0 : Int32).toNatClampNeg) ≤ v4 then zgo X C none kX9_yearBy 2 [some (.inr (.inr (some (.inr (.int, 43), b)))), some (.inl v1), some (.inl (v2 + 1)), some (.inl v3), some (.inl v4)] [] (L, zB1, I, J) else if v3 = 0 then zgo X C none kX9_yearBy 2 [some (.inr (.inr (some (.inr (.int, 43), b)))), some (.inl v1), some (.inl (v2 + 1)), some (.inl v3), some (.inl v4)] [] (L, zB1, I, J) else cI (C 180 [.inr (.inr (some (.inr (.int, 43), b))), .inl v4, .inl 1] (L, zB1, I, J)) (fun r σ => zgo X C none kX9_yearBy 47 [some (.inr (.inr (some (.inr (.int, 43), b)))), some (.inl v1), some (.inl v2), some (.inl v3), some (.inl v4)] [.inl r] σ)) := by
  rw [zgo_run X C _ _ [0, 2, 14, 28, 47, 58, 69, 85, 98, 108, 121, 141, 147, 160, 165, 171, 183, 197] 12]
  rfl
set_option maxRecDepth 100000 in
theorem bX9_yearBy_47 (X : Nat → Nat → Int32) (C : Nat → List zV → zS → Option zR) (L : List zK) (I : Nat → Nat → Int32) (J : Nat → Nat → Int64) (b : Nat) (v1 : Int32) (v2 : Int32) (v3 : Int32) (v4 : Int32) (s0 : Int32) : zgo X C none kX9_yearBy 47 [some (.inr (.inr (some (.inr (.int, 43), b)))), some (.inl v1), some (.inl v2), some (.inl v3), some (.inl v4)] [.inl s0] (L, zB1, I, J) = if s0 = v2 then cI (C 180 [.inr (.inr (some (.inr (.int, 43), b))), .inl v4, .inl 3] (L, zB1, I, J)) (fun r σ => zgo X C none kX9_yearBy 58 [some (.inr (.inr (some (.inr (.int, 43), b)))), some (.inl v1), some (.inl v2), some (.inl v3), some (.inl v4)] [.inl r] σ) else zgo X C none kX9_yearBy 28 [some (.inr (.inr (some (.inr (.int, 43), b)))), some (.inl v1), some (.inl v2), some (.inl v3), some (.inl (v4 + 1))] [] (L, zB1, I, J) := by
  rw [zgo_run X C _ _ [0, 2, 14, 28, 47, 58, 69, 85, 98, 108, 121, 141, 147, 160, 165, 171, 183, 197] 7]
  rfl
set_option maxRecDepth 100000 in
theorem bX9_yearBy_58 (X : Nat → Nat → Int32) (C : Nat → List zV → zS → Option zR) (L : List zK) (I : Nat → Nat → Int32) (J : Nat → Nat → Int64) (b : Nat) (v1 : Int32) (v2 : Int32) (v3 : Int32) (v4 : Int32) (s0 : Int32) : zgo X C none kX9_yearBy 58 [some (.inr (.inr (some (.inr (.int, 43), b)))), some (.inl v1), some (.inl v2), some (.inl v3), some (.inl v4)] [.inl s0] (L, zB1, I, J) = if s0 = 0 then cV (C 181 [.inr (.inr (some (.inr (.int, 43), b))), .inl v4, .inl 3, .inl 1] (L, zB1, I, J)) (fun σ => zgo X C none kX9_yearBy 69 [some (.inr (.inr (some (.inr (.int, 43), b)))), some (.inl v1), some (.inl v2), some (.inl v3), some (.inl v4)] [] σ) else zgo X C none kX9_yearBy 28 [some (.inr (.inr (some (.inr (.int, 43), b)))), some (.inl v1), some (.inl v2), some (.inl v3), some (.inl (v4 + 1))] [] (L, zB1, I, J) := by
  rw [zgo_run X C _ _ [0, 2, 14, 28, 47, 58, 69, 85, 98, 108, 121, 141, 147, 160, 165, 171, 183, 197] 7]
  rfl
set_option maxRecDepth 100000 in
theorem bX9_yearBy_69 (X : Nat → Nat → Int32) (C : Nat → List zV → zS → Option zR) (L : List zK) (I : Nat → Nat → Int32) (J : Nat → Nat → Int64) (b : Nat) (v1 : Int32) (v2 : Int32) (v3 : Int32) (v4 : Int32) : zgo X C none kX9_yearBy 69 [some (.inr (.inr (some (.inr (.int, 43), b)))), some (.inl v1), some (.inl v2), some (.inl v3), some (.inl v4)] [] (L, zB1, I, J) = zgo X C none kX9_yearBy 28 [some (.inr (.inr (some (.inr (.int, 43), b)))), some (.inl v1), some (.inl v2), some (.inl 0), some (.inl (v4 + 1))] [] (L, zB1, I, J) := by
  rw [zgo_run X C _ _ [0, 2, 14, 28, 47, 58, 69, 85, 98, 108, 121, 141, 147, 160, 165, 171, 183, 197] 5]
  rfl
set_option maxRecDepth 100000 in
theorem bX9_yearBy_85 (X : Nat → Nat → Int32) (C : Nat → List zV → zS → Option zR) (L : List zK) (I : Nat → Nat → Int32) (J : Nat → Nat → Int64) (b : Nat) (v1 : Int32) (v2 : Int32) (u3 : Option zV) (u4 : Option zV) : zgo X C none kX9_yearBy 85 [some (.inr (.inr (some (.inr (.int, 43), b)))), some (.inl v1), some (.inl v2), u3, u4] [] (L, zB1, I, J) = zbt (zin 0 43) (if (I b (0 : Int32).toNatClampNeg) ≤ v2 then zbt (zin 4 43) (zbt (zin 4 43) (some (none, (L, zB1, (zup I b (4 : Int32).toNatClampNeg ((I b (4 : Int32).toNatClampNeg) + 1)), J)))) else cI (C 180 [.inr (.inr (some (.inr (.int, 43), b))), .inl v2, .inl 3] (L, zB1, I, J)) (fun r σ => zgo X C none kX9_yearBy 98 [some (.inr (.inr (some (.inr (.int, 43), b)))), some (.inl v1), some (.inl v2), u3, u4] [.inl r] σ)) := by
  rw [zgo_run X C _ _ [0, 2, 14, 28, 47, 58, 69, 85, 98, 108, 121, 141, 147, 160, 165, 171, 183, 197] 14]
  rfl
set_option maxRecDepth 100000 in
theorem bX9_yearBy_98 (X : Nat → Nat → Int32) (C : Nat → List zV → zS → Option zR) (L : List zK) (I : Nat → Nat → Int32) (J : Nat → Nat → Int64) (b : Nat) (v1 : Int32) (v2 : Int32) (u3 : Option zV) (u4 : Option zV) (s0 : Int32) : zgo X C none kX9_yearBy 98 [some (.inr (.inr (some (.inr (.int, 43), b)))), some (.inl v1), some (.inl v2), u3, u4] [.inl s0] (L, zB1, I, J) = if s0 = 1 then cI (C 180 [.inr (.inr (some (.inr (.int, 43), b))), .inl v2, .inl 4] (L, zB1, I, J)) (fun r σ => zgo X C none kX9_yearBy 108 [some (.inr (.inr (some (.inr (.int, 43), b)))), some (.inl v1), some (.inl v2), u3, u4] [.inl r] σ) else zgo X C none kX9_yearBy 197 [some (.inr (.inr (some (.inr (.int, 43), b)))), some (.inl v1), some (.inl v2), u3, u4] [] (L, zB1, I, J) := by
  rw [zgo_run X C _ _ [0, 2, 14, 28, 47, 58, 69, 85, 98, 108, 121, 141, 147, 160, 165, 171, 183, 197] 7]
  rfl
set_option maxRecDepth 100000 in
theorem bX9_yearBy_108 (X : Nat → Nat → Int32) (C : Nat → List zV → zS → Option zR) (L : List zK) (I : Nat → Nat → Int32) (J : Nat → Nat → Int64) (b : Nat) (v1 : Int32) (v2 : Int32) (u3 : Option zV) (u4 : Option zV) (s0 : Int32) : zgo X C none kX9_yearBy 108 [some (.inr (.inr (some (.inr (.int, 43), b)))), some (.inl v1), some (.inl v2), u3, u4] [.inl s0] (L, zB1, I, J) = if v1 = 0 then cI (C 186 [.inr (.inr (some (.inr (.int, 43), b))), .inl v2] (L, zB1, I, J)) (fun r σ => zgo X C none kX9_yearBy 121 [some (.inr (.inr (some (.inr (.int, 43), b)))), some (.inl v1), some (.inl v2), u3, u4] [.inl r, .inl s0] σ) else zgo X C none kX9_yearBy 121 [some (.inr (.inr (some (.inr (.int, 43), b)))), some (.inl v1), some (.inl v2), u3, u4] [.inl 0, .inl s0] (L, zB1, I, J) := by
  rw [zgo_run X C _ _ [0, 2, 14, 28, 47, 58, 69, 85, 98, 108, 121, 141, 147, 160, 165, 171, 183, 197] 6]
  rfl
set_option maxRecDepth 100000 in
theorem bX9_yearBy_121 (X : Nat → Nat → Int32) (C : Nat → List zV → zS → Option zR) (L : List zK) (I : Nat → Nat → Int32) (J : Nat → Nat → Int64) (b : Nat) (v1 : Int32) (v2 : Int32) (u3 : Option zV) (u4 : Option zV) (s0 : Int32) (s1 : Int32) : zgo X C none kX9_yearBy 121 [some (.inr (.inr (some (.inr (.int, 43), b)))), some (.inl v1), some (.inl v2), u3, u4] [.inl s0, .inl s1] (L, zB1, I, J) = if (s1 + s0) ≤ 99 then cV (C 181 [.inr (.inr (some (.inr (.int, 43), b))), .inl v2, .inl 4, .inl (s1 + s0)] (L, zB1, I, J)) (fun σ => zgo X C none kX9_yearBy 141 [some (.inr (.inr (some (.inr (.int, 43), b)))), some (.inl v1), some (.inl v2), some (.inl (s1 + s0)), u4] [] σ) else cV (C 181 [.inr (.inr (some (.inr (.int, 43), b))), .inl v2, .inl 4, .inl 99] (L, zB1, I, J)) (fun σ => zgo X C none kX9_yearBy 141 [some (.inr (.inr (some (.inr (.int, 43), b)))), some (.inl v1), some (.inl v2), some (.inl (s1 + s0)), u4] [] σ) := by
  rw [zgo_run X C _ _ [0, 2, 14, 28, 47, 58, 69, 85, 98, 108, 121, 141, 147, 160, 165, 171, 183, 197] 12]
  rfl
set_option maxRecDepth 100000 in
theorem bX9_yearBy_141 (X : Nat → Nat → Int32) (C : Nat → List zV → zS → Option zR) (L : List zK) (I : Nat → Nat → Int32) (J : Nat → Nat → Int64) (b : Nat) (v1 : Int32) (v2 : Int32) (v3 : Int32) (u4 : Option zV) : zgo X C none kX9_yearBy 141 [some (.inr (.inr (some (.inr (.int, 43), b)))), some (.inl v1), some (.inl v2), some (.inl v3), u4] [] (L, zB1, I, J) = cI (C 180 [.inr (.inr (some (.inr (.int, 43), b))), .inl v2, .inl 0] (L, zB1, I, J)) (fun r σ => zgo X C none kX9_yearBy 147 [some (.inr (.inr (some (.inr (.int, 43), b)))), some (.inl v1), some (.inl v2), some (.inl v3), u4] [.inl r] σ) := by
  rw [zgo_run X C _ _ [0, 2, 14, 28, 47, 58, 69, 85, 98, 108, 121, 141, 147, 160, 165, 171, 183, 197] 5]
  rfl
set_option maxRecDepth 100000 in
theorem bX9_yearBy_147 (X : Nat → Nat → Int32) (C : Nat → List zV → zS → Option zR) (L : List zK) (I : Nat → Nat → Int32) (J : Nat → Nat → Int64) (b : Nat) (v1 : Int32) (v2 : Int32) (v3 : Int32) (u4 : Option zV) (s0 : Int32) : zgo X C none kX9_yearBy 147 [some (.inr (.inr (some (.inr (.int, 43), b)))), some (.inl v1), some (.inl v2), some (.inl v3), u4] [.inl s0] (L, zB1, I, J) = if s0 = 2 then zgo X C none kX9_yearBy 165 [some (.inr (.inr (some (.inr (.int, 43), b)))), some (.inl v1), some (.inl v2), some (.inl v3), u4] [] (L, zB1, I, J) else cI (C 180 [.inr (.inr (some (.inr (.int, 43), b))), .inl v2, .inl 2] (L, zB1, I, J)) (fun r σ => zgo X C none kX9_yearBy 160 [some (.inr (.inr (some (.inr (.int, 43), b)))), some (.inl v1), some (.inl v2), some (.inl v3), u4] [.inl r, .inl 2, .inl v2, .inr (.inr (some (.inr (.int, 43), b)))] σ) := by
  rw [zgo_run X C _ _ [0, 2, 14, 28, 47, 58, 69, 85, 98, 108, 121, 141, 147, 160, 165, 171, 183, 197] 10]
  rfl
set_option maxRecDepth 100000 in
theorem bX9_yearBy_160 (X : Nat → Nat → Int32) (C : Nat → List zV → zS → Option zR) (L : List zK) (I : Nat → Nat → Int32) (J : Nat → Nat → Int64) (b : Nat) (v1 : Int32) (v2 : Int32) (v3 : Int32) (u4 : Option zV) (s0 : Int32) (s1 : Int32) (s2 : Int32) (qs3 : Nat) : zgo X C none kX9_yearBy 160 [some (.inr (.inr (some (.inr (.int, 43), b)))), some (.inl v1), some (.inl v2), some (.inl v3), u4] [.inl s0, .inl s1, .inl s2, .inr (.inr (some (.inr (.int, 43), qs3)))] (L, zB1, I, J) = cV (C 181 [.inr (.inr (some (.inr (.int, 43), qs3))), .inl s2, .inl s1, .inl (s0 - 1)] (L, zB1, I, J)) (fun σ => zgo X C none kX9_yearBy 165 [some (.inr (.inr (some (.inr (.int, 43), b)))), some (.inl v1), some (.inl v2), some (.inl v3), u4] [] σ) := by
  rw [zgo_run X C _ _ [0, 2, 14, 28, 47, 58, 69, 85, 98, 108, 121, 141, 147, 160, 165, 171, 183, 197] 4]
  rfl
set_option maxRecDepth 100000 in
theorem bX9_yearBy_165 (X : Nat → Nat → Int32) (C : Nat → List zV → zS → Option zR) (L : List zK) (I : Nat → Nat → Int32) (J : Nat → Nat → Int64) (b : Nat) (v1 : Int32) (v2 : Int32) (v3 : Int32) (u4 : Option zV) : zgo X C none kX9_yearBy 165 [some (.inr (.inr (some (.inr (.int, 43), b)))), some (.inl v1), some (.inl v2), some (.inl v3), u4] [] (L, zB1, I, J) = cI (C 180 [.inr (.inr (some (.inr (.int, 43), b))), .inl v2, .inl 2] (L, zB1, I, J)) (fun r σ => zgo X C none kX9_yearBy 171 [some (.inr (.inr (some (.inr (.int, 43), b)))), some (.inl v1), some (.inl v2), some (.inl v3), u4] [.inl r] σ) := by
  rw [zgo_run X C _ _ [0, 2, 14, 28, 47, 58, 69, 85, 98, 108, 121, 141, 147, 160, 165, 171, 183, 197] 5]
  rfl
set_option maxRecDepth 100000 in
theorem bX9_yearBy_171 (X : Nat → Nat → Int32) (C : Nat → List zV → zS → Option zR) (L : List zK) (I : Nat → Nat → Int32) (J : Nat → Nat → Int64) (b : Nat) (v1 : Int32) (v2 : Int32) (v3 : Int32) (u4 : Option zV) (s0 : Int32) : zgo X C none kX9_yearBy 171 [some (.inr (.inr (some (.inr (.int, 43), b)))), some (.inl v1), some (.inl v2), some (.inl v3), u4] [.inl s0] (L, zB1, I, J) = if s0 = 0 then cI (C 180 [.inr (.inr (some (.inr (.int, 43), b))), .inl v2, .inl 4] (L, zB1, I, J)) (fun r σ => zgo X C none kX9_yearBy 183 [some (.inr (.inr (some (.inr (.int, 43), b)))), some (.inl v1), some (.inl v2), some (.inl v3), u4] [.inl r, .inl 3, .inl v2, .inr (.inr (some (.inr (.int, 43), b)))] σ) else zgo X C none kX9_yearBy 197 [some (.inr (.inr (some (.inr (.int, 43), b)))), some (.inl v1), some (.inl v2), some (.inl v3), u4] [] (L, zB1, I, J) := by
  rw [zgo_run X C _ _ [0, 2, 14, 28, 47, 58, 69, 85, 98, 108, 121, 141, 147, 160, 165, 171, 183, 197] 9]
  rfl
set_option maxRecDepth 100000 in
theorem bX9_yearBy_183 (X : Nat → Nat → Int32) (C : Nat → List zV → zS → Option zR) (L : List zK) (I : Nat → Nat → Int32) (J : Nat → Nat → Int64) (b : Nat) (v1 : Int32) (v2 : Int32) (v3 : Int32) (u4 : Option zV) (s0 : Int32) (s1 : Int32) (s2 : Int32) (qs3 : Nat) : zgo X C none kX9_yearBy 183 [some (.inr (.inr (some (.inr (.int, 43), b)))), some (.inl v1), some (.inl v2), some (.inl v3), u4] [.inl s0, .inl s1, .inl s2, .inr (.inr (some (.inr (.int, 43), qs3)))] (L, zB1, I, J) = zbt (zin 3 43) (if s0 < (I b (3 : Int32).toNatClampNeg) then cV (C 181 [.inr (.inr (some (.inr (.int, 43), qs3))), .inl s2, .inl s1, .inl 2] (L, zB1, I, J)) (fun σ => zgo X C none kX9_yearBy 197 [some (.inr (.inr (some (.inr (.int, 43), b)))), some (.inl v1), some (.inl v2), some (.inl v3), u4] [] σ) else cV (C 181 [.inr (.inr (some (.inr (.int, 43), qs3))), .inl s2, .inl s1, .inl 3] (L, zB1, I, J)) (fun σ => zgo X C none kX9_yearBy 197 [some (.inr (.inr (some (.inr (.int, 43), b)))), some (.inl v1), some (.inl v2), some (.inl v3), u4] [] σ)) := by
  rw [zgo_run X C _ _ [0, 2, 14, 28, 47, 58, 69, 85, 98, 108, 121, 141, 147, 160, 165, 171, 183, 197] 8]
  rfl
set_option maxRecDepth 100000 in
theorem bX9_yearBy_197 (X : Nat → Nat → Int32) (C : Nat → List zV → zS → Option zR) (L : List zK) (I : Nat → Nat → Int32) (J : Nat → Nat → Int64) (b : Nat) (v1 : Int32) (v2 : Int32) (u3 : Option zV) (u4 : Option zV) : zgo X C none kX9_yearBy 197 [some (.inr (.inr (some (.inr (.int, 43), b)))), some (.inl v1), some (.inl v2), u3, u4] [] (L, zB1, I, J) = zgo X C none kX9_yearBy 85 [some (.inr (.inr (some (.inr (.int, 43), b)))), some (.inl v1), some (.inl (v2 + 1)), u3, u4] [] (L, zB1, I, J) := by
  rw [zgo_run X C _ _ [0, 2, 14, 28, 47, 58, 69, 85, 98, 108, 121, 141, 147, 160, 165, 171, 183, 197] 3]
  rfl

set_option maxRecDepth 100000 in
theorem bX9_yearsOf_0 (X : Nat → Nat → Int32) (C : Nat → List zV → zS → Option zR) (L : List zK) (I : Nat → Nat → Int32) (J : Nat → Nat → Int64) (b : Nat) (a2 : Int32) : zgo X C none kX9_yearsOf 0 [some (.inr (.inr (some (.inr (.int, 43), b)))), some (.inl a2), none] [] (L, zB1, I, J) = zgo X C none kX9_yearsOf 2 [some (.inr (.inr (some (.inr (.int, 43), b)))), some (.inl a2), some (.inl 0)] [] (L, zB1, I, J) := by
  rw [zgo_run X C _ _ [0, 2, 12] 3]
  rfl
set_option maxRecDepth 100000 in
theorem bX9_yearsOf_2 (X : Nat → Nat → Int32) (C : Nat → List zV → zS → Option zR) (L : List zK) (I : Nat → Nat → Int32) (J : Nat → Nat → Int64) (b : Nat) (v1 : Int32) (v2 : Int32) : zgo X C none kX9_yearsOf 2 [some (.inr (.inr (some (.inr (.int, 43), b)))), some (.inl v1), some (.inl v2)] [] (L, zB1, I, J) = if v1 ≤ v2 then some (none, (L, zB1, I, J)) else cV (C 187 [.inr (.inr (some (.inr (.int, 43), b))), .inl 0] (L, zB1, I, J)) (fun σ => zgo X C none kX9_yearsOf 12 [some (.inr (.inr (some (.inr (.int, 43), b)))), some (.inl v1), some (.inl v2)] [] σ) := by
  rw [zgo_run X C _ _ [0, 2, 12] 7]
  rfl
set_option maxRecDepth 100000 in
theorem bX9_yearsOf_12 (X : Nat → Nat → Int32) (C : Nat → List zV → zS → Option zR) (L : List zK) (I : Nat → Nat → Int32) (J : Nat → Nat → Int64) (b : Nat) (v1 : Int32) (v2 : Int32) : zgo X C none kX9_yearsOf 12 [some (.inr (.inr (some (.inr (.int, 43), b)))), some (.inl v1), some (.inl v2)] [] (L, zB1, I, J) = zgo X C none kX9_yearsOf 2 [some (.inr (.inr (some (.inr (.int, 43), b)))), some (.inl v1), some (.inl (v2 + 1))] [] (L, zB1, I, J) := by
  rw [zgo_run X C _ _ [0, 2, 12] 3]
  rfl

set_option maxRecDepth 100000 in
theorem bX9_trustOf_0 (X : Nat → Nat → Int32) (C : Nat → List zV → zS → Option zR) (L : List zK) (I : Nat → Nat → Int32) (J : Nat → Nat → Int64) (b : Nat) (a2 : Int32) : zgo X C (some .int) kX9_trustOf 0 [some (.inr (.inr (some (.inr (.int, 43), b)))), some (.inl a2), none, none] [] (L, zB1, I, J) = zgo X C (some .int) kX9_trustOf 4 [some (.inr (.inr (some (.inr (.int, 43), b)))), some (.inl a2), some (.inl 0), some (.inl 0)] [] (L, zB1, I, J) := by
  rw [zgo_run X C _ _ [0, 4, 24, 28, 34, 38] 5]
  rfl
set_option maxRecDepth 100000 in
theorem bX9_trustOf_4 (X : Nat → Nat → Int32) (C : Nat → List zV → zS → Option zR) (L : List zK) (I : Nat → Nat → Int32) (J : Nat → Nat → Int64) (b : Nat) (v1 : Int32) (v2 : Int32) (v3 : Int32) : zgo X C (some .int) kX9_trustOf 4 [some (.inr (.inr (some (.inr (.int, 43), b)))), some (.inl v1), some (.inl v2), some (.inl v3)] [] (L, zB1, I, J) = zbt (zin 0 43) (if (I b (0 : Int32).toNatClampNeg) ≤ v3 then some (some (.inl v2), (L, zB1, I, J)) else if v1 = (-1000000) then zgo X C (some .int) kX9_trustOf 28 [some (.inr (.inr (some (.inr (.int, 43), b)))), some (.inl v1), some (.inl v2), some (.inl v3)] [.inl v2] (L, zB1, I, J) else cI (C 180 [.inr (.inr (some (.inr (.int, 43), b))), .inl v3, .inl 1] (L, zB1, I, J)) (fun r σ => zgo X C (some .int) kX9_trustOf 24 [some (.inr (.inr (some (.inr (.int, 43), b)))), some (.inl v1), some (.inl v2), some (.inl v3)] [.inl r, .inl v2] σ)) := by
  rw [zgo_run X C _ _ [0, 4, 24, 28, 34, 38] 14]
  rfl
set_option maxRecDepth 100000 in
theorem bX9_trustOf_24 (X : Nat → Nat → Int32) (C : Nat → List zV → zS → Option zR) (L : List zK) (I : Nat → Nat → Int32) (J : Nat → Nat → Int64) (b : Nat) (v1 : Int32) (v2 : Int32) (v3 : Int32) (s0 : Int32) (s1 : Int32) : zgo X C (some .int) kX9_trustOf 24 [some (.inr (.inr (some (.inr (.int, 43), b)))), some (.inl v1), some (.inl v2), some (.inl v3)] [.inl s0, .inl s1] (L, zB1, I, J) = if s0 = v1 then zgo X C (some .int) kX9_trustOf 28 [some (.inr (.inr (some (.inr (.int, 43), b)))), some (.inl v1), some (.inl v2), some (.inl v3)] [.inl s1] (L, zB1, I, J) else zgo X C (some .int) kX9_trustOf 38 [some (.inr (.inr (some (.inr (.int, 43), b)))), some (.inl v1), some (.inl v2), some (.inl v3)] [.inl 0, .inl s1] (L, zB1, I, J) := by
  rw [zgo_run X C _ _ [0, 4, 24, 28, 34, 38] 4]
  rfl
set_option maxRecDepth 100000 in
theorem bX9_trustOf_28 (X : Nat → Nat → Int32) (C : Nat → List zV → zS → Option zR) (L : List zK) (I : Nat → Nat → Int32) (J : Nat → Nat → Int64) (b : Nat) (v1 : Int32) (v2 : Int32) (v3 : Int32) (s0 : Int32) : zgo X C (some .int) kX9_trustOf 28 [some (.inr (.inr (some (.inr (.int, 43), b)))), some (.inl v1), some (.inl v2), some (.inl v3)] [.inl s0] (L, zB1, I, J) = cI (C 180 [.inr (.inr (some (.inr (.int, 43), b))), .inl v3, .inl 4] (L, zB1, I, J)) (fun r σ => zgo X C (some .int) kX9_trustOf 34 [some (.inr (.inr (some (.inr (.int, 43), b)))), some (.inl v1), some (.inl v2), some (.inl v3)] [.inl r, .inl s0] σ) := by
  rw [zgo_run X C _ _ [0, 4, 24, 28, 34, 38] 5]
  rfl
set_option maxRecDepth 100000 in
theorem bX9_trustOf_34 (X : Nat → Nat → Int32) (C : Nat → List zV → zS → Option zR) (L : List zK) (I : Nat → Nat → Int32) (J : Nat → Nat → Int64) (b : Nat) (v1 : Int32) (v2 : Int32) (v3 : Int32) (s0 : Int32) (s1 : Int32) : zgo X C (some .int) kX9_trustOf 34 [some (.inr (.inr (some (.inr (.int, 43), b)))), some (.inl v1), some (.inl v2), some (.inl v3)] [.inl s0, .inl s1] (L, zB1, I, J) = zgo X C (some .int) kX9_trustOf 38 [some (.inr (.inr (some (.inr (.int, 43), b)))), some (.inl v1), some (.inl v2), some (.inl v3)] [.inl s0, .inl s1] (L, zB1, I, J) := by
  rw [zgo_run X C _ _ [0, 4, 24, 28, 34, 38] 2]
  rfl
set_option maxRecDepth 100000 in
theorem bX9_trustOf_38 (X : Nat → Nat → Int32) (C : Nat → List zV → zS → Option zR) (L : List zK) (I : Nat → Nat → Int32) (J : Nat → Nat → Int64) (b : Nat) (v1 : Int32) (v2 : Int32) (v3 : Int32) (s0 : Int32) (s1 : Int32) : zgo X C (some .int) kX9_trustOf 38 [some (.inr (.inr (some (.inr (.int, 43), b)))), some (.inl v1), some (.inl v2), some (.inl v3)] [.inl s0, .inl s1] (L, zB1, I, J) = zgo X C (some .int) kX9_trustOf 4 [some (.inr (.inr (some (.inr (.int, 43), b)))), some (.inl v1), some (.inl (s1 + s0)), some (.inl (v3 + 1))] [] (L, zB1, I, J) := by
  rw [zgo_run X C _ _ [0, 4, 24, 28, 34, 38] 5]
  rfl

set_option maxRecDepth 100000 in
theorem bX9_comesAgain_0 (X : Nat → Nat → Int32) (C : Nat → List zV → zS → Option zR) (L : List zK) (I : Nat → Nat → Int32) (J : Nat → Nat → Int64) (b : Nat) (a2 : Int32) (a3 : Int32) (a4 : Int32) : zgo X C none kX9_comesAgain 0 [some (.inr (.inr (some (.inr (.int, 43), b)))), some (.inl a2), some (.inl a3), some (.inl a4)] [] (L, zB1, I, J) = cV (C 181 [.inr (.inr (some (.inr (.int, 43), b))), .inl a2, .inl 3, .inl 0] (L, zB1, I, J)) (fun σ => zgo X C none kX9_comesAgain 7 [some (.inr (.inr (some (.inr (.int, 43), b)))), some (.inl a2), some (.inl a3), some (.inl a4)] [] σ) := by
  rw [zgo_run X C _ _ [0, 7, 14, 21] 6]
  rfl
set_option maxRecDepth 100000 in
theorem bX9_comesAgain_7 (X : Nat → Nat → Int32) (C : Nat → List zV → zS → Option zR) (L : List zK) (I : Nat → Nat → Int32) (J : Nat → Nat → Int64) (b : Nat) (v1 : Int32) (v2 : Int32) (v3 : Int32) : zgo X C none kX9_comesAgain 7 [some (.inr (.inr (some (.inr (.int, 43), b)))), some (.inl v1), some (.inl v2), some (.inl v3)] [] (L, zB1, I, J) = cV (C 181 [.inr (.inr (some (.inr (.int, 43), b))), .inl v1, .inl 1, .inl v2] (L, zB1, I, J)) (fun σ => zgo X C none kX9_comesAgain 14 [some (.inr (.inr (some (.inr (.int, 43), b)))), some (.inl v1), some (.inl v2), some (.inl v3)] [] σ) := by
  rw [zgo_run X C _ _ [0, 7, 14, 21] 6]
  rfl
set_option maxRecDepth 100000 in
theorem bX9_comesAgain_14 (X : Nat → Nat → Int32) (C : Nat → List zV → zS → Option zR) (L : List zK) (I : Nat → Nat → Int32) (J : Nat → Nat → Int64) (b : Nat) (v1 : Int32) (v2 : Int32) (v3 : Int32) : zgo X C none kX9_comesAgain 14 [some (.inr (.inr (some (.inr (.int, 43), b)))), some (.inl v1), some (.inl v2), some (.inl v3)] [] (L, zB1, I, J) = cV (C 181 [.inr (.inr (some (.inr (.int, 43), b))), .inl v1, .inl 2, .inl v3] (L, zB1, I, J)) (fun σ => zgo X C none kX9_comesAgain 21 [some (.inr (.inr (some (.inr (.int, 43), b)))), some (.inl v1), some (.inl v2), some (.inl v3)] [] σ) := by
  rw [zgo_run X C _ _ [0, 7, 14, 21] 6]
  rfl
set_option maxRecDepth 100000 in
theorem bX9_comesAgain_21 (X : Nat → Nat → Int32) (C : Nat → List zV → zS → Option zR) (L : List zK) (I : Nat → Nat → Int32) (J : Nat → Nat → Int64) (b : Nat) (v1 : Int32) (v2 : Int32) (v3 : Int32) : zgo X C none kX9_comesAgain 21 [some (.inr (.inr (some (.inr (.int, 43), b)))), some (.inl v1), some (.inl v2), some (.inl v3)] [] (L, zB1, I, J) = some (none, (L, zB1, I, J)) := by
  rw [zgo_run X C _ _ [0, 7, 14, 21] 2]
  rfl

set_option maxRecDepth 100000 in
theorem bX9_layThen_0 (X : Nat → Nat → Int32) (C : Nat → List zV → zS → Option zR) (L : List zK) (I : Nat → Nat → Int32) (J : Nat → Nat → Int64) : zgo X C none kX9_layThen 0 [some (.inr (.inr (some (.inl 9, 283)))), none] [] (L, zB1, I, J) = zgo X C none kX9_layThen 2 [some (.inr (.inr (some (.inl 9, 283)))), some (.inl 0)] [] (L, zB1, I, J) := by
  rw [zgo_run X C _ _ [0, 2] 3]
  rfl
set_option maxRecDepth 100000 in
theorem bX9_layThen_2 (X : Nat → Nat → Int32) (C : Nat → List zV → zS → Option zR) (L : List zK) (I : Nat → Nat → Int32) (J : Nat → Nat → Int64) (v1 : Int32) : zgo X C none kX9_layThen 2 [some (.inr (.inr (some (.inl 9, 283)))), some (.inl v1)] [] (L, zB1, I, J) = if (43 : Int32) ≤ v1 then some (none, (L, zB1, I, J)) else zbt (zin v1 43) (zbt (zin v1 43) (zgo X C none kX9_layThen 2 [some (.inr (.inr (some (.inl 9, 283)))), some (.inl (v1 + 1))] [] (L, zB1, (zup I 289 v1.toNatClampNeg (I 287 v1.toNatClampNeg)), J))) := by
  rw [zgo_run X C _ _ [0, 2] 14]
  rfl

set_option maxRecDepth 100000 in
theorem bX9_keep_0 (X : Nat → Nat → Int32) (C : Nat → List zV → zS → Option zR) (L : List zK) (I : Nat → Nat → Int32) (J : Nat → Nat → Int64) : zgo X C none kX9_keep 0 [some (.inr (.inr (some (.inl 9, 283)))), none] [] (L, zB1, I, J) = if (I 283 9) = 24 then zgo X C none kX9_keep 11 [some (.inr (.inr (some (.inl 9, 283)))), some (.inl 0)] [] (L, zB1, I, J) else zgo X C none kX9_keep 51 [some (.inr (.inr (some (.inl 9, 283)))), some (.inl 0)] [] (L, zB1, I, J) := by
  rw [zgo_run X C _ _ [0, 11, 51] 7]
  rfl
set_option maxRecDepth 100000 in
theorem bX9_keep_11 (X : Nat → Nat → Int32) (C : Nat → List zV → zS → Option zR) (L : List zK) (I : Nat → Nat → Int32) (J : Nat → Nat → Int64) (v1 : Int32) : zgo X C none kX9_keep 11 [some (.inr (.inr (some (.inl 9, 283)))), some (.inl v1)] [] (L, zB1, I, J) = if (989 : Int32) ≤ v1 then zgo X C none kX9_keep 51 [some (.inr (.inr (some (.inl 9, 283)))), some (.inl 0)] [] (L, zB1, (zup I 283 9 ((I 283 9) - 1)), J) else zbt (zin (v1 + 43) 1032) (zbt (zin v1 1032) (zgo X C none kX9_keep 11 [some (.inr (.inr (some (.inl 9, 283)))), some (.inl (v1 + 1))] [] (L, zB1, (zup I 290 v1.toNatClampNeg (I 290 (v1 + 43).toNatClampNeg)), J))) := by
  rw [zgo_run X C _ _ [0, 11, 51] 16]
  rfl
set_option maxRecDepth 100000 in
theorem bX9_keep_51 (X : Nat → Nat → Int32) (C : Nat → List zV → zS → Option zR) (L : List zK) (I : Nat → Nat → Int32) (J : Nat → Nat → Int64) (v1 : Int32) : zgo X C none kX9_keep 51 [some (.inr (.inr (some (.inl 9, 283)))), some (.inl v1)] [] (L, zB1, I, J) = if (43 : Int32) ≤ v1 then some (none, (L, zB1, (zup I 283 9 ((I 283 9) + 1)), J)) else zbt (zin v1 43) (zbt (zin ((43 * (I 283 9)) + v1) 1032) (zgo X C none kX9_keep 51 [some (.inr (.inr (some (.inl 9, 283)))), some (.inl (v1 + 1))] [] (L, zB1, (zup I 290 ((43 * (I 283 9)) + v1).toNatClampNeg (I 287 v1.toNatClampNeg)), J))) := by
  rw [zgo_run X C _ _ [0, 11, 51] 19]
  rfl

set_option maxRecDepth 100000 in
theorem bX9_years_0 (X : Nat → Nat → Int32) (C : Nat → List zV → zS → Option zR) (L : List zK) (I : Nat → Nat → Int32) (J : Nat → Nat → Int64) (a1 : Int32) : zgo X C (some .int) kX9_years 0 [some (.inr (.inr (some (.inl 9, 283)))), some (.inl a1), none] [] (L, zB1, I, J) = cI (C 175 [.inr (.inr (some (.inl 9, 283)))] (L, zB1, (zup I 283 0 0), J)) (fun r σ => zgo X C (some .int) kX9_years 9 [some (.inr (.inr (some (.inl 9, 283)))), some (.inl a1), none] [.inl r] σ) := by
  rw [zgo_run X C _ _ [0, 9, 24, 49, 58, 66, 80] 6]
  rfl
set_option maxRecDepth 100000 in
theorem bX9_years_9 (X : Nat → Nat → Int32) (C : Nat → List zV → zS → Option zR) (L : List zK) (I : Nat → Nat → Int32) (J : Nat → Nat → Int64) (v1 : Int32) (s0 : Int32) : zgo X C (some .int) kX9_years 9 [some (.inr (.inr (some (.inl 9, 283)))), some (.inl v1), none] [.inl s0] (L, zB1, I, J) = if s0 = 0 then some (some (.inl (-1000002)), (L, zB1, I, J)) else cI (C 153 [.inr (.inl ((v1).toInt64)), .inr (.inl 1), .inr (.inl 24)] (L, zB1, I, J)) (fun r σ => zgo X C (some .int) kX9_years 24 [some (.inr (.inr (some (.inl 9, 283)))), some (.inl v1), none] [.inl r] σ) := by
  rw [zgo_run X C _ _ [0, 9, 24, 49, 58, 66, 80] 7]
  rfl
set_option maxRecDepth 100000 in
theorem bX9_years_24 (X : Nat → Nat → Int32) (C : Nat → List zV → zS → Option zR) (L : List zK) (I : Nat → Nat → Int32) (J : Nat → Nat → Int64) (v1 : Int32) (s0 : Int32) : zgo X C (some .int) kX9_years 24 [some (.inr (.inr (some (.inl 9, 283)))), some (.inl v1), none] [.inl s0] (L, zB1, I, J) = if s0 = 0 then some (some (.inl (-1000001)), (L, zB1, I, J)) else zbt (zin 4 43) (if ((I 287 (4 : Int32).toNatClampNeg) + v1) ≤ 999 then zgo X C (some .int) kX9_years 49 [some (.inr (.inr (some (.inl 9, 283)))), some (.inl v1), some (.inl 0)] [] (L, zB1, I, J) else some (some (.inl (-1000003)), (L, zB1, I, J))) := by
  rw [zgo_run X C _ _ [0, 9, 24, 49, 58, 66, 80] 12]
  rfl
set_option maxRecDepth 100000 in
theorem bX9_years_49 (X : Nat → Nat → Int32) (C : Nat → List zV → zS → Option zR) (L : List zK) (I : Nat → Nat → Int32) (J : Nat → Nat → Int64) (v1 : Int32) (v2 : Int32) : zgo X C (some .int) kX9_years 49 [some (.inr (.inr (some (.inl 9, 283)))), some (.inl v1), some (.inl v2)] [] (L, zB1, I, J) = if v1 ≤ v2 then cI (C 184 [.inr (.inr (some (.inr (.int, 43), 287))), .inl 3] (L, zB1, I, J)) (fun r σ => zgo X C (some .int) kX9_years 80 [some (.inr (.inr (some (.inl 9, 283)))), some (.inl v1), some (.inl v2)] [.inl r] σ) else cV (C 192 [.inr (.inr (some (.inl 9, 283)))] (L, zB1, I, J)) (fun σ => zgo X C (some .int) kX9_years 58 [some (.inr (.inr (some (.inl 9, 283)))), some (.inl v1), some (.inl v2)] [] σ) := by
  rw [zgo_run X C _ _ [0, 9, 24, 49, 58, 66, 80] 8]
  rfl
set_option maxRecDepth 100000 in
theorem bX9_years_58 (X : Nat → Nat → Int32) (C : Nat → List zV → zS → Option zR) (L : List zK) (I : Nat → Nat → Int32) (J : Nat → Nat → Int64) (v1 : Int32) (v2 : Int32) : zgo X C (some .int) kX9_years 58 [some (.inr (.inr (some (.inl 9, 283)))), some (.inl v1), some (.inl v2)] [] (L, zB1, I, J) = cV (C 187 [.inr (.inr (some (.inr (.int, 43), 287))), .inl 0] (L, zB1, I, J)) (fun σ => zgo X C (some .int) kX9_years 66 [some (.inr (.inr (some (.inl 9, 283)))), some (.inl v1), some (.inl v2)] [] σ) := by
  rw [zgo_run X C _ _ [0, 9, 24, 49, 58, 66, 80] 5]
  rfl
set_option maxRecDepth 100000 in
theorem bX9_years_66 (X : Nat → Nat → Int32) (C : Nat → List zV → zS → Option zR) (L : List zK) (I : Nat → Nat → Int32) (J : Nat → Nat → Int64) (v1 : Int32) (v2 : Int32) : zgo X C (some .int) kX9_years 66 [some (.inr (.inr (some (.inl 9, 283)))), some (.inl v1), some (.inl v2)] [] (L, zB1, I, J) = zgo X C (some .int) kX9_years 49 [some (.inr (.inr (some (.inl 9, 283)))), some (.inl v1), some (.inl (v2 + 1))] [] (L, zB1, I, J) := by
  rw [zgo_run X C _ _ [0, 9, 24, 49, 58, 66, 80] 3]
  rfl
set_option maxRecDepth 100000 in
theorem bX9_years_80 (X : Nat → Nat → Int32) (C : Nat → List zV → zS → Option zR) (L : List zK) (I : Nat → Nat → Int32) (J : Nat → Nat → Int64) (v1 : Int32) (v2 : Int32) (s0 : Int32) : zgo X C (some .int) kX9_years 80 [some (.inr (.inr (some (.inl 9, 283)))), some (.inl v1), some (.inl v2)] [.inl s0] (L, zB1, I, J) = some (some (.inl s0), (L, zB1, I, J)) := by
  rw [zgo_run X C _ _ [0, 9, 24, 49, 58, 66, 80] 2]
  rfl

set_option maxRecDepth 100000 in
theorem bX9_send_0 (X : Nat → Nat → Int32) (C : Nat → List zV → zS → Option zR) (L : List zK) (I : Nat → Nat → Int32) (J : Nat → Nat → Int64) (a1 : Int32) (a2 : Int32) : zgo X C (some .int) kX9_send 0 [some (.inr (.inr (some (.inl 9, 283)))), some (.inl a1), some (.inl a2), none] [] (L, zB1, I, J) = cI (C 176 [.inr (.inr (some (.inl 9, 283))), .inl a1] (L, zB1, (zup I 283 0 0), J)) (fun r σ => zgo X C (some .int) kX9_send 10 [some (.inr (.inr (some (.inl 9, 283)))), some (.inl a1), some (.inl a2), none] [.inl r] σ) := by
  rw [zgo_run X C _ _ [0, 10, 18, 33, 43, 52, 63] 7]
  rfl
set_option maxRecDepth 100000 in
theorem bX9_send_10 (X : Nat → Nat → Int32) (C : Nat → List zV → zS → Option zR) (L : List zK) (I : Nat → Nat → Int32) (J : Nat → Nat → Int64) (v1 : Int32) (v2 : Int32) (s0 : Int32) : zgo X C (some .int) kX9_send 10 [some (.inr (.inr (some (.inl 9, 283)))), some (.inl v1), some (.inl v2), none] [.inl s0] (L, zB1, I, J) = if s0 = 0 then some (some (.inl (-1000001)), (L, zB1, I, J)) else cI (C 177 [.inr (.inr (some (.inl 9, 283))), .inl v2] (L, zB1, I, J)) (fun r σ => zgo X C (some .int) kX9_send 18 [some (.inr (.inr (some (.inl 9, 283)))), some (.inl v1), some (.inl v2), none] [.inl r] σ) := by
  rw [zgo_run X C _ _ [0, 10, 18, 33, 43, 52, 63] 5]
  rfl
set_option maxRecDepth 100000 in
theorem bX9_send_18 (X : Nat → Nat → Int32) (C : Nat → List zV → zS → Option zR) (L : List zK) (I : Nat → Nat → Int32) (J : Nat → Nat → Int64) (v1 : Int32) (v2 : Int32) (s0 : Int32) : zgo X C (some .int) kX9_send 18 [some (.inr (.inr (some (.inl 9, 283)))), some (.inl v1), some (.inl v2), none] [.inl s0] (L, zB1, I, J) = if s0 = 0 then some (some (.inl (-1000001)), (L, zB1, I, J)) else cI (C 180 [.inr (.inr (some (.inr (.int, 43), 287))), .inl v1, .inl 3] (L, zB1, I, J)) (fun r σ => zgo X C (some .int) kX9_send 33 [some (.inr (.inr (some (.inl 9, 283)))), some (.inl v1), some (.inl v2), none] [.inl r] σ) := by
  rw [zgo_run X C _ _ [0, 10, 18, 33, 43, 52, 63] 7]
  rfl
set_option maxRecDepth 100000 in
theorem bX9_send_33 (X : Nat → Nat → Int32) (C : Nat → List zV → zS → Option zR) (L : List zK) (I : Nat → Nat → Int32) (J : Nat → Nat → Int64) (v1 : Int32) (v2 : Int32) (s0 : Int32) : zgo X C (some .int) kX9_send 33 [some (.inr (.inr (some (.inl 9, 283)))), some (.inl v1), some (.inl v2), none] [.inl s0] (L, zB1, I, J) = if s0 = 0 then cV (C 192 [.inr (.inr (some (.inl 9, 283)))] (L, zB1, I, J)) (fun σ => zgo X C (some .int) kX9_send 43 [some (.inr (.inr (some (.inl 9, 283)))), some (.inl v1), some (.inl v2), none] [] σ) else some (some (.inl (-1000002)), (L, zB1, I, J)) := by
  rw [zgo_run X C _ _ [0, 10, 18, 33, 43, 52, 63] 4]
  rfl
set_option maxRecDepth 100000 in
theorem bX9_send_43 (X : Nat → Nat → Int32) (C : Nat → List zV → zS → Option zR) (L : List zK) (I : Nat → Nat → Int32) (J : Nat → Nat → Int64) (v1 : Int32) (v2 : Int32) : zgo X C (some .int) kX9_send 43 [some (.inr (.inr (some (.inl 9, 283)))), some (.inl v1), some (.inl v2), none] [] (L, zB1, I, J) = cI (C 180 [.inr (.inr (some (.inr (.int, 43), 287))), .inl v1, .inl 1] (L, zB1, I, J)) (fun r σ => zgo X C (some .int) kX9_send 52 [some (.inr (.inr (some (.inl 9, 283)))), some (.inl v1), some (.inl v2), none] [.inl r] σ) := by
  rw [zgo_run X C _ _ [0, 10, 18, 33, 43, 52, 63] 6]
  rfl
set_option maxRecDepth 100000 in
theorem bX9_send_52 (X : Nat → Nat → Int32) (C : Nat → List zV → zS → Option zR) (L : List zK) (I : Nat → Nat → Int32) (J : Nat → Nat → Int64) (v1 : Int32) (v2 : Int32) (s0 : Int32) : zgo X C (some .int) kX9_send 52 [some (.inr (.inr (some (.inl 9, 283)))), some (.inl v1), some (.inl v2), none] [.inl s0] (L, zB1, I, J) = cV (C 181 [.inr (.inr (some (.inr (.int, 43), 287))), .inl v1, .inl 1, .inl v2] (L, zB1, I, J)) (fun σ => zgo X C (some .int) kX9_send 63 [some (.inr (.inr (some (.inl 9, 283)))), some (.inl v1), some (.inl v2), some (.inl s0)] [] σ) := by
  rw [zgo_run X C _ _ [0, 10, 18, 33, 43, 52, 63] 8]
  rfl
set_option maxRecDepth 100000 in
theorem bX9_send_63 (X : Nat → Nat → Int32) (C : Nat → List zV → zS → Option zR) (L : List zK) (I : Nat → Nat → Int32) (J : Nat → Nat → Int64) (v1 : Int32) (v2 : Int32) (v3 : Int32) : zgo X C (some .int) kX9_send 63 [some (.inr (.inr (some (.inl 9, 283)))), some (.inl v1), some (.inl v2), some (.inl v3)] [] (L, zB1, I, J) = some (some (.inl v3), (L, zB1, I, J)) := by
  rw [zgo_run X C _ _ [0, 10, 18, 33, 43, 52, 63] 3]
  rfl

set_option maxRecDepth 100000 in
theorem bX9_sentence_0 (X : Nat → Nat → Int32) (C : Nat → List zV → zS → Option zR) (L : List zK) (I : Nat → Nat → Int32) (J : Nat → Nat → Int64) (a1 : Int32) (a2 : Int32) : zgo X C (some .int) kX9_sentence 0 [some (.inr (.inr (some (.inl 9, 283)))), some (.inl a1), some (.inl a2), none] [] (L, zB1, I, J) = cI (C 176 [.inr (.inr (some (.inl 9, 283))), .inl a1] (L, zB1, (zup I 283 0 0), J)) (fun r σ => zgo X C (some .int) kX9_sentence 10 [some (.inr (.inr (some (.inl 9, 283)))), some (.inl a1), some (.inl a2), none] [.inl r] σ) := by
  rw [zgo_run X C _ _ [0, 10, 22, 37, 48, 57, 68] 7]
  rfl
set_option maxRecDepth 100000 in
theorem bX9_sentence_10 (X : Nat → Nat → Int32) (C : Nat → List zV → zS → Option zR) (L : List zK) (I : Nat → Nat → Int32) (J : Nat → Nat → Int64) (v1 : Int32) (v2 : Int32) (s0 : Int32) : zgo X C (some .int) kX9_sentence 10 [some (.inr (.inr (some (.inl 9, 283)))), some (.inl v1), some (.inl v2), none] [.inl s0] (L, zB1, I, J) = if s0 = 0 then some (some (.inl (-1000001)), (L, zB1, I, J)) else cI (C 153 [.inr (.inl ((v2).toInt64)), .inr (.inl 1), .inr (.inl 30)] (L, zB1, I, J)) (fun r σ => zgo X C (some .int) kX9_sentence 22 [some (.inr (.inr (some (.inl 9, 283)))), some (.inl v1), some (.inl v2), none] [.inl r] σ) := by
  rw [zgo_run X C _ _ [0, 10, 22, 37, 48, 57, 68] 7]
  rfl
set_option maxRecDepth 100000 in
theorem bX9_sentence_22 (X : Nat → Nat → Int32) (C : Nat → List zV → zS → Option zR) (L : List zK) (I : Nat → Nat → Int32) (J : Nat → Nat → Int64) (v1 : Int32) (v2 : Int32) (s0 : Int32) : zgo X C (some .int) kX9_sentence 22 [some (.inr (.inr (some (.inl 9, 283)))), some (.inl v1), some (.inl v2), none] [.inl s0] (L, zB1, I, J) = if s0 = 0 then some (some (.inl (-1000001)), (L, zB1, I, J)) else cI (C 180 [.inr (.inr (some (.inr (.int, 43), 287))), .inl v1, .inl 3] (L, zB1, I, J)) (fun r σ => zgo X C (some .int) kX9_sentence 37 [some (.inr (.inr (some (.inl 9, 283)))), some (.inl v1), some (.inl v2), none] [.inl r] σ) := by
  rw [zgo_run X C _ _ [0, 10, 22, 37, 48, 57, 68] 7]
  rfl
set_option maxRecDepth 100000 in
theorem bX9_sentence_37 (X : Nat → Nat → Int32) (C : Nat → List zV → zS → Option zR) (L : List zK) (I : Nat → Nat → Int32) (J : Nat → Nat → Int64) (v1 : Int32) (v2 : Int32) (s0 : Int32) : zgo X C (some .int) kX9_sentence 37 [some (.inr (.inr (some (.inl 9, 283)))), some (.inl v1), some (.inl v2), none] [.inl s0] (L, zB1, I, J) = if s0 ≤ 1 then cV (C 192 [.inr (.inr (some (.inl 9, 283)))] (L, zB1, I, J)) (fun σ => zgo X C (some .int) kX9_sentence 48 [some (.inr (.inr (some (.inl 9, 283)))), some (.inl v1), some (.inl v2), none] [] σ) else some (some (.inl (-1000002)), (L, zB1, I, J)) := by
  rw [zgo_run X C _ _ [0, 10, 22, 37, 48, 57, 68] 5]
  rfl
set_option maxRecDepth 100000 in
theorem bX9_sentence_48 (X : Nat → Nat → Int32) (C : Nat → List zV → zS → Option zR) (L : List zK) (I : Nat → Nat → Int32) (J : Nat → Nat → Int64) (v1 : Int32) (v2 : Int32) : zgo X C (some .int) kX9_sentence 48 [some (.inr (.inr (some (.inl 9, 283)))), some (.inl v1), some (.inl v2), none] [] (L, zB1, I, J) = cI (C 180 [.inr (.inr (some (.inr (.int, 43), 287))), .inl v1, .inl 2] (L, zB1, I, J)) (fun r σ => zgo X C (some .int) kX9_sentence 57 [some (.inr (.inr (some (.inl 9, 283)))), some (.inl v1), some (.inl v2), none] [.inl r] σ) := by
  rw [zgo_run X C _ _ [0, 10, 22, 37, 48, 57, 68] 6]
  rfl
set_option maxRecDepth 100000 in
theorem bX9_sentence_57 (X : Nat → Nat → Int32) (C : Nat → List zV → zS → Option zR) (L : List zK) (I : Nat → Nat → Int32) (J : Nat → Nat → Int64) (v1 : Int32) (v2 : Int32) (s0 : Int32) : zgo X C (some .int) kX9_sentence 57 [some (.inr (.inr (some (.inl 9, 283)))), some (.inl v1), some (.inl v2), none] [.inl s0] (L, zB1, I, J) = cV (C 181 [.inr (.inr (some (.inr (.int, 43), 287))), .inl v1, .inl 2, .inl v2] (L, zB1, I, J)) (fun σ => zgo X C (some .int) kX9_sentence 68 [some (.inr (.inr (some (.inl 9, 283)))), some (.inl v1), some (.inl v2), some (.inl s0)] [] σ) := by
  rw [zgo_run X C _ _ [0, 10, 22, 37, 48, 57, 68] 8]
  rfl
set_option maxRecDepth 100000 in
theorem bX9_sentence_68 (X : Nat → Nat → Int32) (C : Nat → List zV → zS → Option zR) (L : List zK) (I : Nat → Nat → Int32) (J : Nat → Nat → Int64) (v1 : Int32) (v2 : Int32) (v3 : Int32) : zgo X C (some .int) kX9_sentence 68 [some (.inr (.inr (some (.inl 9, 283)))), some (.inl v1), some (.inl v2), some (.inl v3)] [] (L, zB1, I, J) = some (some (.inl v3), (L, zB1, I, J)) := by
  rw [zgo_run X C _ _ [0, 10, 22, 37, 48, 57, 68] 3]
  rfl

set_option maxRecDepth 100000 in
theorem bX9_turned_0 (X : Nat → Nat → Int32) (C : Nat → List zV → zS → Option zR) (L : List zK) (I : Nat → Nat → Int32) (J : Nat → Nat → Int64) (a1 : Int32) (a2 : Int32) (a3 : Int32) : zgo X C (some .int) kX9_turned 0 [some (.inr (.inr (some (.inl 9, 283)))), some (.inl a1), some (.inl a2), some (.inl a3), none] [] (L, zB1, I, J) = cV (C 192 [.inr (.inr (some (.inl 9, 283)))] (L, zB1, I, J)) (fun σ => zgo X C (some .int) kX9_turned 4 [some (.inr (.inr (some (.inl 9, 283)))), some (.inl a1), some (.inl a2), some (.inl a3), none] [] σ) := by
  rw [zgo_run X C _ _ [0, 4] 3]
  rfl
set_option maxRecDepth 100000 in
theorem bX9_turned_4 (X : Nat → Nat → Int32) (C : Nat → List zV → zS → Option zR) (L : List zK) (I : Nat → Nat → Int32) (J : Nat → Nat → Int64) (v1 : Int32) (v2 : Int32) (v3 : Int32) : zgo X C (some .int) kX9_turned 4 [some (.inr (.inr (some (.inl 9, 283)))), some (.inl v1), some (.inl v2), some (.inl v3), none] [] (L, zB1, I, J) = zbt (zin ((5 + (2 * v1)) + v2) 43) (zbt (zin ((5 + (2 * v1)) + v2) 43) (some (some (.inl (I 287 ((5 + (2 * v1)) + v2).toNatClampNeg)), (L, zB1, (zup I 287 ((5 + (2 * v1)) + v2).toNatClampNeg v3), J)))) := by
  rw [zgo_run X C _ _ [0, 4] 25]
  rfl

set_option maxRecDepth 100000 in
theorem bX9_gate_0 (X : Nat → Nat → Int32) (C : Nat → List zV → zS → Option zR) (L : List zK) (I : Nat → Nat → Int32) (J : Nat → Nat → Int64) (a1 : Int32) (a2 : Int32) : zgo X C (some .int) kX9_gate 0 [some (.inr (.inr (some (.inl 9, 283)))), some (.inl a1), some (.inl a2)] [] (L, zB1, I, J) = cI (C 177 [.inr (.inr (some (.inl 9, 283))), .inl a1] (L, zB1, (zup I 283 0 0), J)) (fun r σ => zgo X C (some .int) kX9_gate 10 [some (.inr (.inr (some (.inl 9, 283)))), some (.inl a1), some (.inl a2)] [.inl r] σ) := by
  rw [zgo_run X C _ _ [0, 10, 20, 30] 7]
  rfl
set_option maxRecDepth 100000 in
theorem bX9_gate_10 (X : Nat → Nat → Int32) (C : Nat → List zV → zS → Option zR) (L : List zK) (I : Nat → Nat → Int32) (J : Nat → Nat → Int64) (v1 : Int32) (v2 : Int32) (s0 : Int32) : zgo X C (some .int) kX9_gate 10 [some (.inr (.inr (some (.inl 9, 283)))), some (.inl v1), some (.inl v2)] [.inl s0] (L, zB1, I, J) = if s0 = 0 then some (some (.inl (-1000001)), (L, zB1, I, J)) else cI (C 153 [.inr (.inl ((v2).toInt64)), .inr (.inl 0), .inr (.inl 1)] (L, zB1, I, J)) (fun r σ => zgo X C (some .int) kX9_gate 20 [some (.inr (.inr (some (.inl 9, 283)))), some (.inl v1), some (.inl v2)] [.inl r] σ) := by
  rw [zgo_run X C _ _ [0, 10, 20, 30] 7]
  rfl
set_option maxRecDepth 100000 in
theorem bX9_gate_20 (X : Nat → Nat → Int32) (C : Nat → List zV → zS → Option zR) (L : List zK) (I : Nat → Nat → Int32) (J : Nat → Nat → Int64) (v1 : Int32) (v2 : Int32) (s0 : Int32) : zgo X C (some .int) kX9_gate 20 [some (.inr (.inr (some (.inl 9, 283)))), some (.inl v1), some (.inl v2)] [.inl s0] (L, zB1, I, J) = if s0 = 0 then some (some (.inl (-1000001)), (L, zB1, I, J)) else cI (C 196 [.inr (.inr (some (.inl 9, 283))), .inl v1, .inl 1, .inl v2] (L, zB1, I, J)) (fun r σ => zgo X C (some .int) kX9_gate 30 [some (.inr (.inr (some (.inl 9, 283)))), some (.inl v1), some (.inl v2)] [.inl r] σ) := by
  rw [zgo_run X C _ _ [0, 10, 20, 30] 7]
  rfl
set_option maxRecDepth 100000 in
theorem bX9_gate_30 (X : Nat → Nat → Int32) (C : Nat → List zV → zS → Option zR) (L : List zK) (I : Nat → Nat → Int32) (J : Nat → Nat → Int64) (v1 : Int32) (v2 : Int32) (s0 : Int32) : zgo X C (some .int) kX9_gate 30 [some (.inr (.inr (some (.inl 9, 283)))), some (.inl v1), some (.inl v2)] [.inl s0] (L, zB1, I, J) = some (some (.inl s0), (L, zB1, I, J)) := by
  rw [zgo_run X C _ _ [0, 10, 20, 30] 3]
  rfl
