set_option maxRecDepth 100000 in
theorem bX8_row_0 (X : Nat → Nat → Int32) (C : Nat → List zV → zS → Option zR) (L : List zK) (I : Nat → Nat → Int32) (J : Nat → Nat → Int64) (a1 : Int32) (a2 : Int32) (a3 : Int32) : zgo X C (some .int) kX8_row 0 [some (.inr (.inr (some (.inl 8, 0)))), some (.inl a1), some (.inl a2), some (.inl a3)] [] (L, zB1, I, J) = cI (C 74 [.inl a1] (L, zB1, I, J)) (fun r σ => zgo X C (some .int) kX8_row 4 [some (.inr (.inr (some (.inl 8, 0)))), some (.inl a1), some (.inl a2), some (.inl a3)] [.inl r] σ) := by
  rw [zgo_run X C _ _ [0, 4, 13, 34, 45, 50] 3]
  rfl
set_option maxRecDepth 100000 in
theorem bX8_row_4 (X : Nat → Nat → Int32) (C : Nat → List zV → zS → Option zR) (L : List zK) (I : Nat → Nat → Int32) (J : Nat → Nat → Int64) (v1 : Int32) (v2 : Int32) (v3 : Int32) (s0 : Int32) : zgo X C (some .int) kX8_row 4 [some (.inr (.inr (some (.inl 8, 0)))), some (.inl v1), some (.inl v2), some (.inl v3)] [.inl s0] (L, zB1, I, J) = if s0 = 0 then some (some (.inl (-1000001)), (L, zB1, I, J)) else cI (C 150 [.inl v2, .inl 0, .inl 2] (L, zB1, I, J)) (fun r σ => zgo X C (some .int) kX8_row 13 [some (.inr (.inr (some (.inl 8, 0)))), some (.inl v1), some (.inl v2), some (.inl v3)] [.inl r] σ) := by
  rw [zgo_run X C _ _ [0, 4, 13, 34, 45, 50] 6]
  rfl
set_option maxRecDepth 100000 in
theorem bX8_row_13 (X : Nat → Nat → Int32) (C : Nat → List zV → zS → Option zR) (L : List zK) (I : Nat → Nat → Int32) (J : Nat → Nat → Int64) (v1 : Int32) (v2 : Int32) (v3 : Int32) (s0 : Int32) : zgo X C (some .int) kX8_row 13 [some (.inr (.inr (some (.inl 8, 0)))), some (.inl v1), some (.inl v2), some (.inl v3)] [.inl s0] (L, zB1, I, J) = if s0 = 0 then some (some (.inl (-1000001)), (L, zB1, I, J)) else if v3 ≤ 40 then if 0 ≤ v3 then cV (C 79 [.inr (.inr (some (.inl 6, 1))), .inl v1, .inl v2, .inl v3] (L, zB1, I, J)) (fun σ => zgo X C (some .int) kX8_row 45 [some (.inr (.inr (some (.inl 8, 0)))), some (.inl v1), some (.inl v2), some (.inl v3)] [] σ) else cI (C 148 [.inr (.inr (some (.inl 8, 0))), .inl 4] (L, zB1, I, J)) (fun r σ => zgo X C (some .int) kX8_row 34 [some (.inr (.inr (some (.inl 8, 0)))), some (.inl v1), some (.inl v2), some (.inl v3)] [.inl r] σ) else some (some (.inl (-1000001)), (L, zB1, I, J)) := by
  rw [zgo_run X C _ _ [0, 4, 13, 34, 45, 50] 13]
  rfl
set_option maxRecDepth 100000 in
theorem bX8_row_34 (X : Nat → Nat → Int32) (C : Nat → List zV → zS → Option zR) (L : List zK) (I : Nat → Nat → Int32) (J : Nat → Nat → Int64) (v1 : Int32) (v2 : Int32) (v3 : Int32) (s0 : Int32) : zgo X C (some .int) kX8_row 34 [some (.inr (.inr (some (.inl 8, 0)))), some (.inl v1), some (.inl v2), some (.inl v3)] [.inl s0] (L, zB1, I, J) = some (some (.inl s0), (L, zB1, I, J)) := by
  rw [zgo_run X C _ _ [0, 4, 13, 34, 45, 50] 2]
  rfl
set_option maxRecDepth 100000 in
theorem bX8_row_45 (X : Nat → Nat → Int32) (C : Nat → List zV → zS → Option zR) (L : List zK) (I : Nat → Nat → Int32) (J : Nat → Nat → Int64) (v1 : Int32) (v2 : Int32) (v3 : Int32) : zgo X C (some .int) kX8_row 45 [some (.inr (.inr (some (.inl 8, 0)))), some (.inl v1), some (.inl v2), some (.inl v3)] [] (L, zB1, I, J) = cI (C 149 [.inr (.inr (some (.inl 8, 0))), .inl v3] (L, zB1, I, J)) (fun r σ => zgo X C (some .int) kX8_row 50 [some (.inr (.inr (some (.inl 8, 0)))), some (.inl v1), some (.inl v2), some (.inl v3)] [.inl r] σ) := by
  rw [zgo_run X C _ _ [0, 4, 13, 34, 45, 50] 4]
  rfl
set_option maxRecDepth 100000 in
theorem bX8_row_50 (X : Nat → Nat → Int32) (C : Nat → List zV → zS → Option zR) (L : List zK) (I : Nat → Nat → Int32) (J : Nat → Nat → Int64) (v1 : Int32) (v2 : Int32) (v3 : Int32) (s0 : Int32) : zgo X C (some .int) kX8_row 50 [some (.inr (.inr (some (.inl 8, 0)))), some (.inl v1), some (.inl v2), some (.inl v3)] [.inl s0] (L, zB1, I, J) = some (some (.inl s0), (L, zB1, I, J)) := by
  rw [zgo_run X C _ _ [0, 4, 13, 34, 45, 50] 2]
  rfl

set_option maxRecDepth 100000 in
theorem bX8_set_0 (X : Nat → Nat → Int32) (C : Nat → List zV → zS → Option zR) (L : List zK) (I : Nat → Nat → Int32) (J : Nat → Nat → Int64) (a1 : Int32) (a2 : Int32) (a3 : Int32) : zgo X C (some .int) kX8_set 0 [some (.inr (.inr (some (.inl 8, 0)))), some (.inl a1), some (.inl a2), some (.inl a3), none] [] (L, zB1, I, J) = cI (C 74 [.inl a1] (L, zB1, I, J)) (fun r σ => zgo X C (some .int) kX8_set 4 [some (.inr (.inr (some (.inl 8, 0)))), some (.inl a1), some (.inl a2), some (.inl a3), none] [.inl r] σ) := by
  rw [zgo_run X C _ _ [0, 4, 20, 33, 45, 48] 3]
  rfl
set_option maxRecDepth 100000 in
theorem bX8_set_4 (X : Nat → Nat → Int32) (C : Nat → List zV → zS → Option zR) (L : List zK) (I : Nat → Nat → Int32) (J : Nat → Nat → Int64) (v1 : Int32) (v2 : Int32) (v3 : Int32) (s0 : Int32) : zgo X C (some .int) kX8_set 4 [some (.inr (.inr (some (.inl 8, 0)))), some (.inl v1), some (.inl v2), some (.inl v3), none] [.inl s0] (L, zB1, I, J) = if s0 = 0 then some (some (.inl (-1000001)), (L, zB1, I, J)) else cI (C 76 [.inr (.inr (some (.inl 6, 1))), .inl v1, .inl v2, .inl 1] (L, zB1, I, J)) (fun r σ => zgo X C (some .int) kX8_set 20 [some (.inr (.inr (some (.inl 8, 0)))), some (.inl v1), some (.inl v2), some (.inl v3), none] [.inl r] σ) := by
  rw [zgo_run X C _ _ [0, 4, 20, 33, 45, 48] 8]
  rfl
set_option maxRecDepth 100000 in
theorem bX8_set_20 (X : Nat → Nat → Int32) (C : Nat → List zV → zS → Option zR) (L : List zK) (I : Nat → Nat → Int32) (J : Nat → Nat → Int64) (v1 : Int32) (v2 : Int32) (v3 : Int32) (s0 : Int32) : zgo X C (some .int) kX8_set 20 [some (.inr (.inr (some (.inl 8, 0)))), some (.inl v1), some (.inl v2), some (.inl v3), none] [.inl s0] (L, zB1, I, J) = if s0 = 0 then cI (C 80 [.inr (.inr (some (.inl 6, 1))), .inl v1, .inl v2, .inl v3] (L, zB1, I, J)) (fun r σ => zgo X C (some .int) kX8_set 45 [some (.inr (.inr (some (.inl 8, 0)))), some (.inl v1), some (.inl v2), some (.inl v3), some (.inl s0)] [.inl r, .inr (.inr (some (.inl 8, 0)))] σ) else cI (C 148 [.inr (.inr (some (.inl 8, 0))), .inl s0] (L, zB1, I, J)) (fun r σ => zgo X C (some .int) kX8_set 33 [some (.inr (.inr (some (.inl 8, 0)))), some (.inl v1), some (.inl v2), some (.inl v3), some (.inl s0)] [.inl r] σ) := by
  rw [zgo_run X C _ _ [0, 4, 20, 33, 45, 48] 11]
  rfl
set_option maxRecDepth 100000 in
theorem bX8_set_33 (X : Nat → Nat → Int32) (C : Nat → List zV → zS → Option zR) (L : List zK) (I : Nat → Nat → Int32) (J : Nat → Nat → Int64) (v1 : Int32) (v2 : Int32) (v3 : Int32) (v4 : Int32) (s0 : Int32) : zgo X C (some .int) kX8_set 33 [some (.inr (.inr (some (.inl 8, 0)))), some (.inl v1), some (.inl v2), some (.inl v3), some (.inl v4)] [.inl s0] (L, zB1, I, J) = some (some (.inl s0), (L, zB1, I, J)) := by
  rw [zgo_run X C _ _ [0, 4, 20, 33, 45, 48] 2]
  rfl
set_option maxRecDepth 100000 in
theorem bX8_set_45 (X : Nat → Nat → Int32) (C : Nat → List zV → zS → Option zR) (L : List zK) (I : Nat → Nat → Int32) (J : Nat → Nat → Int64) (v1 : Int32) (v2 : Int32) (v3 : Int32) (v4 : Int32) (s0 : Int32) : zgo X C (some .int) kX8_set 45 [some (.inr (.inr (some (.inl 8, 0)))), some (.inl v1), some (.inl v2), some (.inl v3), some (.inl v4)] [.inl s0, .inr (.inr (some (.inl 8, 0)))] (L, zB1, I, J) = cI (C 149 [.inr (.inr (some (.inl 8, 0))), .inl s0] (L, zB1, I, J)) (fun r σ => zgo X C (some .int) kX8_set 48 [some (.inr (.inr (some (.inl 8, 0)))), some (.inl v1), some (.inl v2), some (.inl v3), some (.inl v4)] [.inl r] σ) := by
  rw [zgo_run X C _ _ [0, 4, 20, 33, 45, 48] 2]
  rfl
set_option maxRecDepth 100000 in
theorem bX8_set_48 (X : Nat → Nat → Int32) (C : Nat → List zV → zS → Option zR) (L : List zK) (I : Nat → Nat → Int32) (J : Nat → Nat → Int64) (v1 : Int32) (v2 : Int32) (v3 : Int32) (v4 : Int32) (s0 : Int32) : zgo X C (some .int) kX8_set 48 [some (.inr (.inr (some (.inl 8, 0)))), some (.inl v1), some (.inl v2), some (.inl v3), some (.inl v4)] [.inl s0] (L, zB1, I, J) = some (some (.inl s0), (L, zB1, I, J)) := by
  rw [zgo_run X C _ _ [0, 4, 20, 33, 45, 48] 2]
  rfl

set_option maxRecDepth 100000 in
theorem bX8_copy_0 (X : Nat → Nat → Int32) (C : Nat → List zV → zS → Option zR) (L : List zK) (I : Nat → Nat → Int32) (J : Nat → Nat → Int64) (a1 : Int32) (a2 : Int32) (a3 : Int32) (a4 : Int32) (a5 : Int32) : zgo X C (some .int) kX8_copy 0 [some (.inr (.inr (some (.inl 8, 0)))), some (.inl a1), some (.inl a2), some (.inl a3), some (.inl a4), some (.inl a5), none] [] (L, zB1, I, J) = cI (C 74 [.inl a1] (L, zB1, I, J)) (fun r σ => zgo X C (some .int) kX8_copy 4 [some (.inr (.inr (some (.inl 8, 0)))), some (.inl a1), some (.inl a2), some (.inl a3), some (.inl a4), some (.inl a5), none] [.inl r] σ) := by
  rw [zgo_run X C _ _ [0, 4, 11, 31, 44, 59, 65] 3]
  rfl
set_option maxRecDepth 100000 in
theorem bX8_copy_4 (X : Nat → Nat → Int32) (C : Nat → List zV → zS → Option zR) (L : List zK) (I : Nat → Nat → Int32) (J : Nat → Nat → Int64) (v1 : Int32) (v2 : Int32) (v3 : Int32) (v4 : Int32) (v5 : Int32) (s0 : Int32) : zgo X C (some .int) kX8_copy 4 [some (.inr (.inr (some (.inl 8, 0)))), some (.inl v1), some (.inl v2), some (.inl v3), some (.inl v4), some (.inl v5), none] [.inl s0] (L, zB1, I, J) = if s0 = 0 then some (some (.inl (-1000001)), (L, zB1, I, J)) else cI (C 74 [.inl v3] (L, zB1, I, J)) (fun r σ => zgo X C (some .int) kX8_copy 11 [some (.inr (.inr (some (.inl 8, 0)))), some (.inl v1), some (.inl v2), some (.inl v3), some (.inl v4), some (.inl v5), none] [.inl r] σ) := by
  rw [zgo_run X C _ _ [0, 4, 11, 31, 44, 59, 65] 4]
  rfl
set_option maxRecDepth 100000 in
theorem bX8_copy_11 (X : Nat → Nat → Int32) (C : Nat → List zV → zS → Option zR) (L : List zK) (I : Nat → Nat → Int32) (J : Nat → Nat → Int64) (v1 : Int32) (v2 : Int32) (v3 : Int32) (v4 : Int32) (v5 : Int32) (s0 : Int32) : zgo X C (some .int) kX8_copy 11 [some (.inr (.inr (some (.inl 8, 0)))), some (.inl v1), some (.inl v2), some (.inl v3), some (.inl v4), some (.inl v5), none] [.inl s0] (L, zB1, I, J) = if s0 = 0 then some (some (.inl (-1000001)), (L, zB1, I, J)) else cI (C 77 [.inr (.inr (some (.inl 6, 1))), .inl v1, .inl v2, .inl v3, .inl v4, .inl v5] (L, zB1, I, J)) (fun r σ => zgo X C (some .int) kX8_copy 31 [some (.inr (.inr (some (.inl 8, 0)))), some (.inl v1), some (.inl v2), some (.inl v3), some (.inl v4), some (.inl v5), none] [.inl r] σ) := by
  rw [zgo_run X C _ _ [0, 4, 11, 31, 44, 59, 65] 10]
  rfl
set_option maxRecDepth 100000 in
theorem bX8_copy_31 (X : Nat → Nat → Int32) (C : Nat → List zV → zS → Option zR) (L : List zK) (I : Nat → Nat → Int32) (J : Nat → Nat → Int64) (v1 : Int32) (v2 : Int32) (v3 : Int32) (v4 : Int32) (v5 : Int32) (s0 : Int32) : zgo X C (some .int) kX8_copy 31 [some (.inr (.inr (some (.inl 8, 0)))), some (.inl v1), some (.inl v2), some (.inl v3), some (.inl v4), some (.inl v5), none] [.inl s0] (L, zB1, I, J) = if s0 = 0 then cV (C 83 [.inr (.inr (some (.inl 6, 1))), .inl v1, .inl v2, .inl v3, .inl v4, .inl v5] (L, zB1, I, J)) (fun σ => zgo X C (some .int) kX8_copy 59 [some (.inr (.inr (some (.inl 8, 0)))), some (.inl v1), some (.inl v2), some (.inl v3), some (.inl v4), some (.inl v5), some (.inl s0)] [] σ) else cI (C 148 [.inr (.inr (some (.inl 8, 0))), .inl s0] (L, zB1, I, J)) (fun r σ => zgo X C (some .int) kX8_copy 44 [some (.inr (.inr (some (.inl 8, 0)))), some (.inl v1), some (.inl v2), some (.inl v3), some (.inl v4), some (.inl v5), some (.inl s0)] [.inl r] σ) := by
  rw [zgo_run X C _ _ [0, 4, 11, 31, 44, 59, 65] 12]
  rfl
set_option maxRecDepth 100000 in
theorem bX8_copy_44 (X : Nat → Nat → Int32) (C : Nat → List zV → zS → Option zR) (L : List zK) (I : Nat → Nat → Int32) (J : Nat → Nat → Int64) (v1 : Int32) (v2 : Int32) (v3 : Int32) (v4 : Int32) (v5 : Int32) (v6 : Int32) (s0 : Int32) : zgo X C (some .int) kX8_copy 44 [some (.inr (.inr (some (.inl 8, 0)))), some (.inl v1), some (.inl v2), some (.inl v3), some (.inl v4), some (.inl v5), some (.inl v6)] [.inl s0] (L, zB1, I, J) = some (some (.inl s0), (L, zB1, I, J)) := by
  rw [zgo_run X C _ _ [0, 4, 11, 31, 44, 59, 65] 2]
  rfl
set_option maxRecDepth 100000 in
theorem bX8_copy_59 (X : Nat → Nat → Int32) (C : Nat → List zV → zS → Option zR) (L : List zK) (I : Nat → Nat → Int32) (J : Nat → Nat → Int64) (v1 : Int32) (v2 : Int32) (v3 : Int32) (v4 : Int32) (v5 : Int32) (v6 : Int32) : zgo X C (some .int) kX8_copy 59 [some (.inr (.inr (some (.inl 8, 0)))), some (.inl v1), some (.inl v2), some (.inl v3), some (.inl v4), some (.inl v5), some (.inl v6)] [] (L, zB1, I, J) = cI (C 149 [.inr (.inr (some (.inl 8, 0))), .inl v5] (L, zB1, I, J)) (fun r σ => zgo X C (some .int) kX8_copy 65 [some (.inr (.inr (some (.inl 8, 0)))), some (.inl v1), some (.inl v2), some (.inl v3), some (.inl v4), some (.inl v5), some (.inl v6)] [.inl r] σ) := by
  rw [zgo_run X C _ _ [0, 4, 11, 31, 44, 59, 65] 4]
  rfl
set_option maxRecDepth 100000 in
theorem bX8_copy_65 (X : Nat → Nat → Int32) (C : Nat → List zV → zS → Option zR) (L : List zK) (I : Nat → Nat → Int32) (J : Nat → Nat → Int64) (v1 : Int32) (v2 : Int32) (v3 : Int32) (v4 : Int32) (v5 : Int32) (v6 : Int32) (s0 : Int32) : zgo X C (some .int) kX8_copy 65 [some (.inr (.inr (some (.inl 8, 0)))), some (.inl v1), some (.inl v2), some (.inl v3), some (.inl v4), some (.inl v5), some (.inl v6)] [.inl s0] (L, zB1, I, J) = some (some (.inl s0), (L, zB1, I, J)) := by
  rw [zgo_run X C _ _ [0, 4, 11, 31, 44, 59, 65] 2]
  rfl

set_option maxRecDepth 100000 in
theorem bX8_drop_0 (X : Nat → Nat → Int32) (C : Nat → List zV → zS → Option zR) (L : List zK) (I : Nat → Nat → Int32) (J : Nat → Nat → Int64) (a1 : Int32) : zgo X C (some .int) kX8_drop 0 [some (.inr (.inr (some (.inl 8, 0)))), some (.inl a1)] [] (L, zB1, I, J) = cI (C 74 [.inl a1] (L, zB1, I, J)) (fun r σ => zgo X C (some .int) kX8_drop 4 [some (.inr (.inr (some (.inl 8, 0)))), some (.inl a1)] [.inl r] σ) := by
  rw [zgo_run X C _ _ [0, 4, 18, 26, 36, 39] 3]
  rfl
set_option maxRecDepth 100000 in
theorem bX8_drop_4 (X : Nat → Nat → Int32) (C : Nat → List zV → zS → Option zR) (L : List zK) (I : Nat → Nat → Int32) (J : Nat → Nat → Int64) (v1 : Int32) (s0 : Int32) : zgo X C (some .int) kX8_drop 4 [some (.inr (.inr (some (.inl 8, 0)))), some (.inl v1)] [.inl s0] (L, zB1, I, J) = if s0 = 0 then some (some (.inl (-1000001)), (L, zB1, I, J)) else cI (C 75 [.inr (.inr (some (.inl 6, 1))), .inl v1] (L, zB1, I, J)) (fun r σ => zgo X C (some .int) kX8_drop 18 [some (.inr (.inr (some (.inl 8, 0)))), some (.inl v1)] [.inl r] σ) := by
  rw [zgo_run X C _ _ [0, 4, 18, 26, 36, 39] 6]
  rfl
set_option maxRecDepth 100000 in
theorem bX8_drop_18 (X : Nat → Nat → Int32) (C : Nat → List zV → zS → Option zR) (L : List zK) (I : Nat → Nat → Int32) (J : Nat → Nat → Int64) (v1 : Int32) (s0 : Int32) : zgo X C (some .int) kX8_drop 18 [some (.inr (.inr (some (.inl 8, 0)))), some (.inl v1)] [.inl s0] (L, zB1, I, J) = if s0 = 0 then cI (C 84 [.inr (.inr (some (.inl 6, 1))), .inl v1] (L, zB1, I, J)) (fun r σ => zgo X C (some .int) kX8_drop 36 [some (.inr (.inr (some (.inl 8, 0)))), some (.inl v1)] [.inl r, .inr (.inr (some (.inl 8, 0)))] σ) else cI (C 148 [.inr (.inr (some (.inl 8, 0))), .inl 1] (L, zB1, I, J)) (fun r σ => zgo X C (some .int) kX8_drop 26 [some (.inr (.inr (some (.inl 8, 0)))), some (.inl v1)] [.inl r] σ) := by
  rw [zgo_run X C _ _ [0, 4, 18, 26, 36, 39] 7]
  rfl
set_option maxRecDepth 100000 in
theorem bX8_drop_26 (X : Nat → Nat → Int32) (C : Nat → List zV → zS → Option zR) (L : List zK) (I : Nat → Nat → Int32) (J : Nat → Nat → Int64) (v1 : Int32) (s0 : Int32) : zgo X C (some .int) kX8_drop 26 [some (.inr (.inr (some (.inl 8, 0)))), some (.inl v1)] [.inl s0] (L, zB1, I, J) = some (some (.inl s0), (L, zB1, I, J)) := by
  rw [zgo_run X C _ _ [0, 4, 18, 26, 36, 39] 2]
  rfl
set_option maxRecDepth 100000 in
theorem bX8_drop_36 (X : Nat → Nat → Int32) (C : Nat → List zV → zS → Option zR) (L : List zK) (I : Nat → Nat → Int32) (J : Nat → Nat → Int64) (v1 : Int32) (s0 : Int32) : zgo X C (some .int) kX8_drop 36 [some (.inr (.inr (some (.inl 8, 0)))), some (.inl v1)] [.inl s0, .inr (.inr (some (.inl 8, 0)))] (L, zB1, I, J) = cI (C 149 [.inr (.inr (some (.inl 8, 0))), .inl s0] (L, zB1, I, J)) (fun r σ => zgo X C (some .int) kX8_drop 39 [some (.inr (.inr (some (.inl 8, 0)))), some (.inl v1)] [.inl r] σ) := by
  rw [zgo_run X C _ _ [0, 4, 18, 26, 36, 39] 2]
  rfl
set_option maxRecDepth 100000 in
theorem bX8_drop_39 (X : Nat → Nat → Int32) (C : Nat → List zV → zS → Option zR) (L : List zK) (I : Nat → Nat → Int32) (J : Nat → Nat → Int64) (v1 : Int32) (s0 : Int32) : zgo X C (some .int) kX8_drop 39 [some (.inr (.inr (some (.inl 8, 0)))), some (.inl v1)] [.inl s0] (L, zB1, I, J) = some (some (.inl s0), (L, zB1, I, J)) := by
  rw [zgo_run X C _ _ [0, 4, 18, 26, 36, 39] 2]
  rfl

set_option maxRecDepth 100000 in
theorem bX8_feed_0 (X : Nat → Nat → Int32) (C : Nat → List zV → zS → Option zR) (L : List zK) (I : Nat → Nat → Int32) (J : Nat → Nat → Int64) (a1 : Int32) : zgo X C (some .int) kX8_feed 0 [some (.inr (.inr (some (.inl 8, 0)))), some (.inl a1)] [] (L, zB1, I, J) = cI (C 150 [.inl a1, .inl 0, .inl 255] (L, zB1, I, J)) (fun r σ => zgo X C (some .int) kX8_feed 8 [some (.inr (.inr (some (.inl 8, 0)))), some (.inl a1)] [.inl r] σ) := by
  rw [zgo_run X C _ _ [0, 8, 21, 35] 5]
  rfl
set_option maxRecDepth 100000 in
theorem bX8_feed_8 (X : Nat → Nat → Int32) (C : Nat → List zV → zS → Option zR) (L : List zK) (I : Nat → Nat → Int32) (J : Nat → Nat → Int64) (v1 : Int32) (s0 : Int32) : zgo X C (some .int) kX8_feed 8 [some (.inr (.inr (some (.inl 8, 0)))), some (.inl v1)] [.inl s0] (L, zB1, I, J) = if s0 = 0 then some (some (.inl (-1000001)), (L, zB1, I, J)) else cI (C 88 [.inr (.inr (some (.inl 7, 21)))] (L, zB1, I, J)) (fun r σ => zgo X C (some .int) kX8_feed 21 [some (.inr (.inr (some (.inl 8, 0)))), some (.inl v1)] [.inl r] σ) := by
  rw [zgo_run X C _ _ [0, 8, 21, 35] 5]
  rfl
set_option maxRecDepth 100000 in
theorem bX8_feed_21 (X : Nat → Nat → Int32) (C : Nat → List zV → zS → Option zR) (L : List zK) (I : Nat → Nat → Int32) (J : Nat → Nat → Int64) (v1 : Int32) (s0 : Int32) : zgo X C (some .int) kX8_feed 21 [some (.inr (.inr (some (.inl 8, 0)))), some (.inl v1)] [.inl s0] (L, zB1, I, J) = if s0 = 0 then cI (C 89 [.inr (.inr (some (.inl 7, 21))), .inl v1] (L, zB1, I, J)) (fun r σ => zgo X C (some .int) kX8_feed 35 [some (.inr (.inr (some (.inl 8, 0)))), some (.inl v1)] [.inl r] σ) else some (some (.inl (-1000003)), (L, zB1, I, J)) := by
  rw [zgo_run X C _ _ [0, 8, 21, 35] 6]
  rfl
set_option maxRecDepth 100000 in
theorem bX8_feed_35 (X : Nat → Nat → Int32) (C : Nat → List zV → zS → Option zR) (L : List zK) (I : Nat → Nat → Int32) (J : Nat → Nat → Int64) (v1 : Int32) (s0 : Int32) : zgo X C (some .int) kX8_feed 35 [some (.inr (.inr (some (.inl 8, 0)))), some (.inl v1)] [.inl s0] (L, zB1, I, J) = some (some (.inl s0), (L, zB1, I, J)) := by
  rw [zgo_run X C _ _ [0, 8, 21, 35] 2]
  rfl

set_option maxRecDepth 100000 in
theorem bX8_circuit_0 (X : Nat → Nat → Int32) (C : Nat → List zV → zS → Option zR) (L : List zK) (I : Nat → Nat → Int32) (J : Nat → Nat → Int64) : zgo X C (some .int) kX8_circuit 0 [some (.inr (.inr (some (.inl 8, 0)))), none] [] (L, zB1, I, J) = cQ (C 92 [.inr (.inr (some (.inl 7, 21)))] (L, zB1, I, J)) (fun r σ => zgo X C (some .int) kX8_circuit 7 [some (.inr (.inr (some (.inl 8, 0)))), none] [.inr (.inr r)] σ) := by
  rw [zgo_run X C _ _ [0, 7, 21, 31, 38] 4]
  rfl
set_option maxRecDepth 100000 in
theorem bX8_circuit_7 (X : Nat → Nat → Int32) (C : Nat → List zV → zS → Option zR) (L : List zK) (I : Nat → Nat → Int32) (J : Nat → Nat → Int64) (qs0 : Option zP) : zgo X C (some .int) kX8_circuit 7 [some (.inr (.inr (some (.inl 8, 0)))), none] [.inr (.inr qs0)] (L, zB1, I, J) = match qs0 with | none => cI (C 91 [.inr (.inr (some (.inl 7, 21)))] (L, zB1, I, J)) (fun r σ => zgo X C (some .int) kX8_circuit 21 [some (.inr (.inr (some (.inl 8, 0)))), some (.inr (.inr qs0))] [.inl r, .inl (-1000100)] σ) | some _ => cV (C 12 [.inr (.inr (some (.inl 1, 13))), .inr (.inr qs0)] (L, zB1, I, J)) (fun σ => zgo X C (some .int) kX8_circuit 31 [some (.inr (.inr (some (.inl 8, 0)))), some (.inr (.inr qs0))] [] σ) := by
  rw [zgo_run X C _ _ [0, 7, 21, 31, 38] 8]
  rfl
set_option maxRecDepth 100000 in
theorem bX8_circuit_21 (X : Nat → Nat → Int32) (C : Nat → List zV → zS → Option zR) (L : List zK) (I : Nat → Nat → Int32) (J : Nat → Nat → Int64) (qv1 : Option zP) (s0 : Int32) (s1 : Int32) : zgo X C (some .int) kX8_circuit 21 [some (.inr (.inr (some (.inl 8, 0)))), some (.inr (.inr qv1))] [.inl s0, .inl s1] (L, zB1, I, J) = some (some (.inl (s1 - s0)), (L, zB1, I, J)) := by
  rw [zgo_run X C _ _ [0, 7, 21, 31, 38] 3]
  rfl
set_option maxRecDepth 100000 in
theorem bX8_circuit_31 (X : Nat → Nat → Int32) (C : Nat → List zV → zS → Option zR) (L : List zK) (I : Nat → Nat → Int32) (J : Nat → Nat → Int64) (qv1 : Option zP) : zgo X C (some .int) kX8_circuit 31 [some (.inr (.inr (some (.inl 8, 0)))), some (.inr (.inr qv1))] [] (L, zB1, I, J) = cV (C 54 [.inr (.inr (some (.inl 4, 31)))] (L, zB1, I, J)) (fun σ => zgo X C (some .int) kX8_circuit 38 [some (.inr (.inr (some (.inl 8, 0)))), some (.inr (.inr qv1))] [] σ) := by
  rw [zgo_run X C _ _ [0, 7, 21, 31, 38] 4]
  rfl
set_option maxRecDepth 100000 in
theorem bX8_circuit_38 (X : Nat → Nat → Int32) (C : Nat → List zV → zS → Option zR) (L : List zK) (I : Nat → Nat → Int32) (J : Nat → Nat → Int64) (qv1 : Option zP) : zgo X C (some .int) kX8_circuit 38 [some (.inr (.inr (some (.inl 8, 0)))), some (.inr (.inr qv1))] [] (L, zB1, I, J) = some (some (.inl (I 13 1)), (L, zB1, I, J)) := by
  rw [zgo_run X C _ _ [0, 7, 21, 31, 38] 5]
  rfl

set_option maxRecDepth 100000 in
theorem bX8_fault_0 (X : Nat → Nat → Int32) (C : Nat → List zV → zS → Option zR) (L : List zK) (I : Nat → Nat → Int32) (J : Nat → Nat → Int64) : zgo X C (some .int) kX8_fault 0 [some (.inr (.inr (some (.inl 8, 0))))] [] (L, zB1, I, J) = cI (C 90 [.inr (.inr (some (.inl 7, 21)))] (L, zB1, I, J)) (fun r σ => zgo X C (some .int) kX8_fault 7 [some (.inr (.inr (some (.inl 8, 0))))] [.inl r] σ) := by
  rw [zgo_run X C _ _ [0, 7] 4]
  rfl
set_option maxRecDepth 100000 in
theorem bX8_fault_7 (X : Nat → Nat → Int32) (C : Nat → List zV → zS → Option zR) (L : List zK) (I : Nat → Nat → Int32) (J : Nat → Nat → Int64) (s0 : Int32) : zgo X C (some .int) kX8_fault 7 [some (.inr (.inr (some (.inl 8, 0))))] [.inl s0] (L, zB1, I, J) = some (some (.inl s0), (L, zB1, I, J)) := by
  rw [zgo_run X C _ _ [0, 7] 2]
  rfl

set_option maxRecDepth 100000 in
theorem bX8_undo_0 (X : Nat → Nat → Int32) (C : Nat → List zV → zS → Option zR) (L : List zK) (I : Nat → Nat → Int32) (J : Nat → Nat → Int64) : zgo X C (some .int) kX8_undo 0 [some (.inr (.inr (some (.inl 8, 0))))] [] (L, zB1, I, J) = cI (C 53 [.inr (.inr (some (.inl 4, 31)))] (L, zB1, I, J)) (fun r σ => zgo X C (some .int) kX8_undo 7 [some (.inr (.inr (some (.inl 8, 0))))] [.inl r] σ) := by
  rw [zgo_run X C _ _ [0, 7, 24, 31] 4]
  rfl
set_option maxRecDepth 100000 in
theorem bX8_undo_7 (X : Nat → Nat → Int32) (C : Nat → List zV → zS → Option zR) (L : List zK) (I : Nat → Nat → Int32) (J : Nat → Nat → Int64) (s0 : Int32) : zgo X C (some .int) kX8_undo 7 [some (.inr (.inr (some (.inl 8, 0))))] [.inl s0] (L, zB1, I, J) = if s0 = 0 then some (some (.inl (-1000002)), (L, zB1, I, J)) else cV (C 56 [.inr (.inr (some (.inl 4, 31))), .inr (.inr (some (.inl 1, 13)))] (L, zB1, I, J)) (fun σ => zgo X C (some .int) kX8_undo 24 [some (.inr (.inr (some (.inl 8, 0))))] [] σ) := by
  rw [zgo_run X C _ _ [0, 7, 24, 31] 7]
  rfl
set_option maxRecDepth 100000 in
theorem bX8_undo_24 (X : Nat → Nat → Int32) (C : Nat → List zV → zS → Option zR) (L : List zK) (I : Nat → Nat → Int32) (J : Nat → Nat → Int64) : zgo X C (some .int) kX8_undo 24 [some (.inr (.inr (some (.inl 8, 0))))] [] (L, zB1, I, J) = cI (C 53 [.inr (.inr (some (.inl 4, 31)))] (L, zB1, I, J)) (fun r σ => zgo X C (some .int) kX8_undo 31 [some (.inr (.inr (some (.inl 8, 0))))] [.inl r] σ) := by
  rw [zgo_run X C _ _ [0, 7, 24, 31] 4]
  rfl
set_option maxRecDepth 100000 in
theorem bX8_undo_31 (X : Nat → Nat → Int32) (C : Nat → List zV → zS → Option zR) (L : List zK) (I : Nat → Nat → Int32) (J : Nat → Nat → Int64) (s0 : Int32) : zgo X C (some .int) kX8_undo 31 [some (.inr (.inr (some (.inl 8, 0))))] [.inl s0] (L, zB1, I, J) = some (some (.inl s0), (L, zB1, I, J)) := by
  rw [zgo_run X C _ _ [0, 7, 24, 31] 2]
  rfl

set_option maxRecDepth 100000 in
theorem bX8_years_0 (X : Nat → Nat → Int32) (C : Nat → List zV → zS → Option zR) (L : List zK) (I : Nat → Nat → Int32) (J : Nat → Nat → Int64) (a1 : Int32) : zgo X C (some .int) kX8_years 0 [some (.inr (.inr (some (.inl 8, 0)))), some (.inl a1), none] [] (L, zB1, I, J) = cI (C 146 [.inr (.inr (some (.inl 8, 0)))] (L, zB1, I, J)) (fun r σ => zgo X C (some .int) kX8_years 4 [some (.inr (.inr (some (.inl 8, 0)))), some (.inl a1), none] [.inl r] σ) := by
  rw [zgo_run X C _ _ [0, 4, 17, 43, 59, 68, 82] 3]
  rfl
set_option maxRecDepth 100000 in
theorem bX8_years_4 (X : Nat → Nat → Int32) (C : Nat → List zV → zS → Option zR) (L : List zK) (I : Nat → Nat → Int32) (J : Nat → Nat → Int64) (v1 : Int32) (s0 : Int32) : zgo X C (some .int) kX8_years 4 [some (.inr (.inr (some (.inl 8, 0)))), some (.inl v1), none] [.inl s0] (L, zB1, I, J) = if s0 = 0 then some (some (.inl (-1000002)), (L, zB1, I, J)) else cI (C 150 [.inl v1, .inl 1, .inl 24] (L, zB1, I, J)) (fun r σ => zgo X C (some .int) kX8_years 17 [some (.inr (.inr (some (.inl 8, 0)))), some (.inl v1), none] [.inl r] σ) := by
  rw [zgo_run X C _ _ [0, 4, 17, 43, 59, 68, 82] 6]
  rfl
set_option maxRecDepth 100000 in
theorem bX8_years_17 (X : Nat → Nat → Int32) (C : Nat → List zV → zS → Option zR) (L : List zK) (I : Nat → Nat → Int32) (J : Nat → Nat → Int64) (v1 : Int32) (s0 : Int32) : zgo X C (some .int) kX8_years 17 [some (.inr (.inr (some (.inl 8, 0)))), some (.inl v1), none] [.inl s0] (L, zB1, I, J) = if s0 = 0 then some (some (.inl (-1000001)), (L, zB1, I, J)) else if ((I 13 4) + v1) ≤ 999 then zgo X C (some .int) kX8_years 43 [some (.inr (.inr (some (.inl 8, 0)))), some (.inl v1), some (.inl 0)] [] (L, zB1, I, J) else some (some (.inl (-1000003)), (L, zB1, I, J)) := by
  rw [zgo_run X C _ _ [0, 4, 17, 43, 59, 68, 82] 11]
  rfl
set_option maxRecDepth 100000 in
theorem bX8_years_43 (X : Nat → Nat → Int32) (C : Nat → List zV → zS → Option zR) (L : List zK) (I : Nat → Nat → Int32) (J : Nat → Nat → Int64) (v1 : Int32) (v2 : Int32) : zgo X C (some .int) kX8_years 43 [some (.inr (.inr (some (.inl 8, 0)))), some (.inl v1), some (.inl v2)] [] (L, zB1, I, J) = if v1 ≤ v2 then cI (C 26 [.inr (.inr (some (.inl 1, 13))), .inl 3] (L, zB1, I, J)) (fun r σ => zgo X C (some .int) kX8_years 82 [some (.inr (.inr (some (.inl 8, 0)))), some (.inl v1), some (.inl v2)] [.inl r] σ) else cV (C 55 [.inr (.inr (some (.inl 4, 31))), .inr (.inr (some (.inl 1, 13)))] (L, zB1, I, J)) (fun σ => zgo X C (some .int) kX8_years 59 [some (.inr (.inr (some (.inl 8, 0)))), some (.inl v1), some (.inl v2)] [] σ) := by
  rw [zgo_run X C _ _ [0, 4, 17, 43, 59, 68, 82] 9]
  rfl
set_option maxRecDepth 100000 in
theorem bX8_years_59 (X : Nat → Nat → Int32) (C : Nat → List zV → zS → Option zR) (L : List zK) (I : Nat → Nat → Int32) (J : Nat → Nat → Int64) (v1 : Int32) (v2 : Int32) : zgo X C (some .int) kX8_years 59 [some (.inr (.inr (some (.inl 8, 0)))), some (.inl v1), some (.inl v2)] [] (L, zB1, I, J) = cV (C 20 [.inr (.inr (some (.inl 1, 13))), .inl 1, .inl 0] (L, zB1, I, J)) (fun σ => zgo X C (some .int) kX8_years 68 [some (.inr (.inr (some (.inl 8, 0)))), some (.inl v1), some (.inl v2)] [] σ) := by
  rw [zgo_run X C _ _ [0, 4, 17, 43, 59, 68, 82] 6]
  rfl
set_option maxRecDepth 100000 in
theorem bX8_years_68 (X : Nat → Nat → Int32) (C : Nat → List zV → zS → Option zR) (L : List zK) (I : Nat → Nat → Int32) (J : Nat → Nat → Int64) (v1 : Int32) (v2 : Int32) : zgo X C (some .int) kX8_years 68 [some (.inr (.inr (some (.inl 8, 0)))), some (.inl v1), some (.inl v2)] [] (L, zB1, I, J) = zgo X C (some .int) kX8_years 43 [some (.inr (.inr (some (.inl 8, 0)))), some (.inl v1), some (.inl (v2 + 1))] [] (L, zB1, I, J) := by
  rw [zgo_run X C _ _ [0, 4, 17, 43, 59, 68, 82] 3]
  rfl
set_option maxRecDepth 100000 in
theorem bX8_years_82 (X : Nat → Nat → Int32) (C : Nat → List zV → zS → Option zR) (L : List zK) (I : Nat → Nat → Int32) (J : Nat → Nat → Int64) (v1 : Int32) (v2 : Int32) (s0 : Int32) : zgo X C (some .int) kX8_years 82 [some (.inr (.inr (some (.inl 8, 0)))), some (.inl v1), some (.inl v2)] [.inl s0] (L, zB1, I, J) = some (some (.inl s0), (L, zB1, I, J)) := by
  rw [zgo_run X C _ _ [0, 4, 17, 43, 59, 68, 82] 2]
  rfl

set_option maxRecDepth 100000 in
theorem bX8_send_0 (X : Nat → Nat → Int32) (C : Nat → List zV → zS → Option zR) (L : List zK) (I : Nat → Nat → Int32) (J : Nat → Nat → Int64) (a1 : Int32) (a2 : Int32) : zgo X C (some .int) kX8_send 0 [some (.inr (.inr (some (.inl 8, 0)))), some (.inl a1), some (.inl a2), none] [] (L, zB1, I, J) = cI (C 16 [.inr (.inr (some (.inl 1, 13))), .inl a1] (L, zB1, I, J)) (fun r σ => zgo X C (some .int) kX8_send 8 [some (.inr (.inr (some (.inl 8, 0)))), some (.inl a1), some (.inl a2), none] [.inl r] σ) := by
  rw [zgo_run X C _ _ [0, 8, 19, 51] 5]
  rfl
set_option maxRecDepth 100000 in
theorem bX8_send_8 (X : Nat → Nat → Int32) (C : Nat → List zV → zS → Option zR) (L : List zK) (I : Nat → Nat → Int32) (J : Nat → Nat → Int64) (v1 : Int32) (v2 : Int32) (s0 : Int32) : zgo X C (some .int) kX8_send 8 [some (.inr (.inr (some (.inl 8, 0)))), some (.inl v1), some (.inl v2), none] [.inl s0] (L, zB1, I, J) = if s0 = 0 then some (some (.inl (-1000001)), (L, zB1, I, J)) else cI (C 17 [.inr (.inr (some (.inl 1, 13))), .inl v2] (L, zB1, I, J)) (fun r σ => zgo X C (some .int) kX8_send 19 [some (.inr (.inr (some (.inl 8, 0)))), some (.inl v1), some (.inl v2), none] [.inl r] σ) := by
  rw [zgo_run X C _ _ [0, 8, 19, 51] 6]
  rfl
set_option maxRecDepth 100000 in
theorem bX8_send_19 (X : Nat → Nat → Int32) (C : Nat → List zV → zS → Option zR) (L : List zK) (I : Nat → Nat → Int32) (J : Nat → Nat → Int64) (v1 : Int32) (v2 : Int32) (s0 : Int32) : zgo X C (some .int) kX8_send 19 [some (.inr (.inr (some (.inl 8, 0)))), some (.inl v1), some (.inl v2), none] [.inl s0] (L, zB1, I, J) = if s0 = 0 then some (some (.inl (-1000001)), (L, zB1, I, J)) else zbt (zin v1 6) (if (I 18 v1.toNatClampNeg) = 0 then cV (C 55 [.inr (.inr (some (.inl 4, 31))), .inr (.inr (some (.inl 1, 13)))] (L, zB1, I, J)) (fun σ => zgo X C (some .int) kX8_send 51 [some (.inr (.inr (some (.inl 8, 0)))), some (.inl v1), some (.inl v2), none] [] σ) else some (some (.inl (-1000002)), (L, zB1, I, J))) := by
  rw [zgo_run X C _ _ [0, 8, 19, 51] 13]
  rfl
set_option maxRecDepth 100000 in
theorem bX8_send_51 (X : Nat → Nat → Int32) (C : Nat → List zV → zS → Option zR) (L : List zK) (I : Nat → Nat → Int32) (J : Nat → Nat → Int64) (v1 : Int32) (v2 : Int32) : zgo X C (some .int) kX8_send 51 [some (.inr (.inr (some (.inl 8, 0)))), some (.inl v1), some (.inl v2), none] [] (L, zB1, I, J) = zbt (zin v1 6) (zbt (zin v1 6) (some (some (.inl (I 17 v1.toNatClampNeg)), (L, zB1, (zup I 17 v1.toNatClampNeg v2), J)))) := by
  rw [zgo_run X C _ _ [0, 8, 19, 51] 15]
  rfl

set_option maxRecDepth 100000 in
theorem bX8_sentence_0 (X : Nat → Nat → Int32) (C : Nat → List zV → zS → Option zR) (L : List zK) (I : Nat → Nat → Int32) (J : Nat → Nat → Int64) (a1 : Int32) (a2 : Int32) : zgo X C (some .int) kX8_sentence 0 [some (.inr (.inr (some (.inl 8, 0)))), some (.inl a1), some (.inl a2), none] [] (L, zB1, I, J) = cI (C 16 [.inr (.inr (some (.inl 1, 13))), .inl a1] (L, zB1, I, J)) (fun r σ => zgo X C (some .int) kX8_sentence 8 [some (.inr (.inr (some (.inl 8, 0)))), some (.inl a1), some (.inl a2), none] [.inl r] σ) := by
  rw [zgo_run X C _ _ [0, 8, 18, 32, 49] 5]
  rfl
set_option maxRecDepth 100000 in
theorem bX8_sentence_8 (X : Nat → Nat → Int32) (C : Nat → List zV → zS → Option zR) (L : List zK) (I : Nat → Nat → Int32) (J : Nat → Nat → Int64) (v1 : Int32) (v2 : Int32) (s0 : Int32) : zgo X C (some .int) kX8_sentence 8 [some (.inr (.inr (some (.inl 8, 0)))), some (.inl v1), some (.inl v2), none] [.inl s0] (L, zB1, I, J) = if s0 = 0 then some (some (.inl (-1000001)), (L, zB1, I, J)) else cI (C 150 [.inl v2, .inl 1, .inl 30] (L, zB1, I, J)) (fun r σ => zgo X C (some .int) kX8_sentence 18 [some (.inr (.inr (some (.inl 8, 0)))), some (.inl v1), some (.inl v2), none] [.inl r] σ) := by
  rw [zgo_run X C _ _ [0, 8, 18, 32, 49] 6]
  rfl
set_option maxRecDepth 100000 in
theorem bX8_sentence_18 (X : Nat → Nat → Int32) (C : Nat → List zV → zS → Option zR) (L : List zK) (I : Nat → Nat → Int32) (J : Nat → Nat → Int64) (v1 : Int32) (v2 : Int32) (s0 : Int32) : zgo X C (some .int) kX8_sentence 18 [some (.inr (.inr (some (.inl 8, 0)))), some (.inl v1), some (.inl v2), none] [.inl s0] (L, zB1, I, J) = if s0 = 0 then some (some (.inl (-1000001)), (L, zB1, I, J)) else cI (C 18 [.inr (.inr (some (.inl 1, 13))), .inl v1] (L, zB1, I, J)) (fun r σ => zgo X C (some .int) kX8_sentence 32 [some (.inr (.inr (some (.inl 8, 0)))), some (.inl v1), some (.inl v2), none] [.inl r] σ) := by
  rw [zgo_run X C _ _ [0, 8, 18, 32, 49] 6]
  rfl
set_option maxRecDepth 100000 in
theorem bX8_sentence_32 (X : Nat → Nat → Int32) (C : Nat → List zV → zS → Option zR) (L : List zK) (I : Nat → Nat → Int32) (J : Nat → Nat → Int64) (v1 : Int32) (v2 : Int32) (s0 : Int32) : zgo X C (some .int) kX8_sentence 32 [some (.inr (.inr (some (.inl 8, 0)))), some (.inl v1), some (.inl v2), none] [.inl s0] (L, zB1, I, J) = if s0 = 0 then some (some (.inl (-1000002)), (L, zB1, I, J)) else cV (C 55 [.inr (.inr (some (.inl 4, 31))), .inr (.inr (some (.inl 1, 13)))] (L, zB1, I, J)) (fun σ => zgo X C (some .int) kX8_sentence 49 [some (.inr (.inr (some (.inl 8, 0)))), some (.inl v1), some (.inl v2), none] [] σ) := by
  rw [zgo_run X C _ _ [0, 8, 18, 32, 49] 7]
  rfl
set_option maxRecDepth 100000 in
theorem bX8_sentence_49 (X : Nat → Nat → Int32) (C : Nat → List zV → zS → Option zR) (L : List zK) (I : Nat → Nat → Int32) (J : Nat → Nat → Int64) (v1 : Int32) (v2 : Int32) : zgo X C (some .int) kX8_sentence 49 [some (.inr (.inr (some (.inl 8, 0)))), some (.inl v1), some (.inl v2), none] [] (L, zB1, I, J) = zbt (zin v1 6) (zbt (zin v1 6) (some (some (.inl (I 19 v1.toNatClampNeg)), (L, zB1, (zup I 19 v1.toNatClampNeg v2), J)))) := by
  rw [zgo_run X C _ _ [0, 8, 18, 32, 49] 15]
  rfl

set_option maxRecDepth 100000 in
theorem bX8_gate_0 (X : Nat → Nat → Int32) (C : Nat → List zV → zS → Option zR) (L : List zK) (I : Nat → Nat → Int32) (J : Nat → Nat → Int64) (a1 : Int32) (a2 : Int32) : zgo X C (some .int) kX8_gate 0 [some (.inr (.inr (some (.inl 8, 0)))), some (.inl a1), some (.inl a2), none] [] (L, zB1, I, J) = cI (C 17 [.inr (.inr (some (.inl 1, 13))), .inl a1] (L, zB1, I, J)) (fun r σ => zgo X C (some .int) kX8_gate 8 [some (.inr (.inr (some (.inl 8, 0)))), some (.inl a1), some (.inl a2), none] [.inl r] σ) := by
  rw [zgo_run X C _ _ [0, 8, 17, 34] 5]
  rfl
set_option maxRecDepth 100000 in
theorem bX8_gate_8 (X : Nat → Nat → Int32) (C : Nat → List zV → zS → Option zR) (L : List zK) (I : Nat → Nat → Int32) (J : Nat → Nat → Int64) (v1 : Int32) (v2 : Int32) (s0 : Int32) : zgo X C (some .int) kX8_gate 8 [some (.inr (.inr (some (.inl 8, 0)))), some (.inl v1), some (.inl v2), none] [.inl s0] (L, zB1, I, J) = if s0 = 0 then some (some (.inl (-1000001)), (L, zB1, I, J)) else cI (C 150 [.inl v2, .inl 0, .inl 1] (L, zB1, I, J)) (fun r σ => zgo X C (some .int) kX8_gate 17 [some (.inr (.inr (some (.inl 8, 0)))), some (.inl v1), some (.inl v2), none] [.inl r] σ) := by
  rw [zgo_run X C _ _ [0, 8, 17, 34] 6]
  rfl
set_option maxRecDepth 100000 in
theorem bX8_gate_17 (X : Nat → Nat → Int32) (C : Nat → List zV → zS → Option zR) (L : List zK) (I : Nat → Nat → Int32) (J : Nat → Nat → Int64) (v1 : Int32) (v2 : Int32) (s0 : Int32) : zgo X C (some .int) kX8_gate 17 [some (.inr (.inr (some (.inl 8, 0)))), some (.inl v1), some (.inl v2), none] [.inl s0] (L, zB1, I, J) = if s0 = 0 then some (some (.inl (-1000001)), (L, zB1, I, J)) else cV (C 55 [.inr (.inr (some (.inl 4, 31))), .inr (.inr (some (.inl 1, 13)))] (L, zB1, I, J)) (fun σ => zgo X C (some .int) kX8_gate 34 [some (.inr (.inr (some (.inl 8, 0)))), some (.inl v1), some (.inl v2), none] [] σ) := by
  rw [zgo_run X C _ _ [0, 8, 17, 34] 7]
  rfl
set_option maxRecDepth 100000 in
theorem bX8_gate_34 (X : Nat → Nat → Int32) (C : Nat → List zV → zS → Option zR) (L : List zK) (I : Nat → Nat → Int32) (J : Nat → Nat → Int64) (v1 : Int32) (v2 : Int32) : zgo X C (some .int) kX8_gate 34 [some (.inr (.inr (some (.inl 8, 0)))), some (.inl v1), some (.inl v2), none] [] (L, zB1, I, J) = zbt (zin v1 4) (zbt (zin v1 4) (some (some (.inl (I 15 v1.toNatClampNeg)), (L, zB1, (zup I 15 v1.toNatClampNeg v2), J)))) := by
  rw [zgo_run X C _ _ [0, 8, 17, 34] 15]
  rfl

set_option maxRecDepth 100000 in
theorem bX8_severe_0 (X : Nat → Nat → Int32) (C : Nat → List zV → zS → Option zR) (L : List zK) (I : Nat → Nat → Int32) (J : Nat → Nat → Int64) (a1 : Int32) (a2 : Int32) : zgo X C (some .int) kX8_severe 0 [some (.inr (.inr (some (.inl 8, 0)))), some (.inl a1), some (.inl a2), none] [] (L, zB1, I, J) = cI (C 17 [.inr (.inr (some (.inl 1, 13))), .inl a1] (L, zB1, I, J)) (fun r σ => zgo X C (some .int) kX8_severe 8 [some (.inr (.inr (some (.inl 8, 0)))), some (.inl a1), some (.inl a2), none] [.inl r] σ) := by
  rw [zgo_run X C _ _ [0, 8, 18, 35] 5]
  rfl
set_option maxRecDepth 100000 in
theorem bX8_severe_8 (X : Nat → Nat → Int32) (C : Nat → List zV → zS → Option zR) (L : List zK) (I : Nat → Nat → Int32) (J : Nat → Nat → Int64) (v1 : Int32) (v2 : Int32) (s0 : Int32) : zgo X C (some .int) kX8_severe 8 [some (.inr (.inr (some (.inl 8, 0)))), some (.inl v1), some (.inl v2), none] [.inl s0] (L, zB1, I, J) = if s0 = 0 then some (some (.inl (-1000001)), (L, zB1, I, J)) else cI (C 150 [.inl v2, .inl 0, .inl 9] (L, zB1, I, J)) (fun r σ => zgo X C (some .int) kX8_severe 18 [some (.inr (.inr (some (.inl 8, 0)))), some (.inl v1), some (.inl v2), none] [.inl r] σ) := by
  rw [zgo_run X C _ _ [0, 8, 18, 35] 6]
  rfl
set_option maxRecDepth 100000 in
theorem bX8_severe_18 (X : Nat → Nat → Int32) (C : Nat → List zV → zS → Option zR) (L : List zK) (I : Nat → Nat → Int32) (J : Nat → Nat → Int64) (v1 : Int32) (v2 : Int32) (s0 : Int32) : zgo X C (some .int) kX8_severe 18 [some (.inr (.inr (some (.inl 8, 0)))), some (.inl v1), some (.inl v2), none] [.inl s0] (L, zB1, I, J) = if s0 = 0 then some (some (.inl (-1000001)), (L, zB1, I, J)) else cV (C 55 [.inr (.inr (some (.inl 4, 31))), .inr (.inr (some (.inl 1, 13)))] (L, zB1, I, J)) (fun σ => zgo X C (some .int) kX8_severe 35 [some (.inr (.inr (some (.inl 8, 0)))), some (.inl v1), some (.inl v2), none] [] σ) := by
  rw [zgo_run X C _ _ [0, 8, 18, 35] 7]
  rfl
set_option maxRecDepth 100000 in
theorem bX8_severe_35 (X : Nat → Nat → Int32) (C : Nat → List zV → zS → Option zR) (L : List zK) (I : Nat → Nat → Int32) (J : Nat → Nat → Int64) (v1 : Int32) (v2 : Int32) : zgo X C (some .int) kX8_severe 35 [some (.inr (.inr (some (.inl 8, 0)))), some (.inl v1), some (.inl v2), none] [] (L, zB1, I, J) = zbt (zin v1 4) (zbt (zin v1 4) (some (some (.inl (I 14 v1.toNatClampNeg)), (L, zB1, (zup I 14 v1.toNatClampNeg v2), J)))) := by
  rw [zgo_run X C _ _ [0, 8, 18, 35] 15]
  rfl

set_option maxRecDepth 100000 in
theorem bX8_retry_0 (X : Nat → Nat → Int32) (C : Nat → List zV → zS → Option zR) (L : List zK) (I : Nat → Nat → Int32) (J : Nat → Nat → Int64) (a1 : Int32) (a2 : Int32) (a3 : Int32) : zgo X C (some .int) kX8_retry 0 [some (.inr (.inr (some (.inl 8, 0)))), some (.inl a1), some (.inl a2), some (.inl a3)] [] (L, zB1, I, J) = cI (C 16 [.inr (.inr (some (.inl 1, 13))), .inl a1] (L, zB1, I, J)) (fun r σ => zgo X C (some .int) kX8_retry 8 [some (.inr (.inr (some (.inl 8, 0)))), some (.inl a1), some (.inl a2), some (.inl a3)] [.inl r] σ) := by
  rw [zgo_run X C _ _ [0, 8, 19, 29, 62, 72, 80] 5]
  rfl
set_option maxRecDepth 100000 in
theorem bX8_retry_8 (X : Nat → Nat → Int32) (C : Nat → List zV → zS → Option zR) (L : List zK) (I : Nat → Nat → Int32) (J : Nat → Nat → Int64) (v1 : Int32) (v2 : Int32) (v3 : Int32) (s0 : Int32) : zgo X C (some .int) kX8_retry 8 [some (.inr (.inr (some (.inl 8, 0)))), some (.inl v1), some (.inl v2), some (.inl v3)] [.inl s0] (L, zB1, I, J) = if s0 = 0 then some (some (.inl (-1000001)), (L, zB1, I, J)) else cI (C 17 [.inr (.inr (some (.inl 1, 13))), .inl v2] (L, zB1, I, J)) (fun r σ => zgo X C (some .int) kX8_retry 19 [some (.inr (.inr (some (.inl 8, 0)))), some (.inl v1), some (.inl v2), some (.inl v3)] [.inl r] σ) := by
  rw [zgo_run X C _ _ [0, 8, 19, 29, 62, 72, 80] 6]
  rfl
set_option maxRecDepth 100000 in
theorem bX8_retry_19 (X : Nat → Nat → Int32) (C : Nat → List zV → zS → Option zR) (L : List zK) (I : Nat → Nat → Int32) (J : Nat → Nat → Int64) (v1 : Int32) (v2 : Int32) (v3 : Int32) (s0 : Int32) : zgo X C (some .int) kX8_retry 19 [some (.inr (.inr (some (.inl 8, 0)))), some (.inl v1), some (.inl v2), some (.inl v3)] [.inl s0] (L, zB1, I, J) = if s0 = 0 then some (some (.inl (-1000001)), (L, zB1, I, J)) else cI (C 150 [.inl v3, .inl 1, .inl 30] (L, zB1, I, J)) (fun r σ => zgo X C (some .int) kX8_retry 29 [some (.inr (.inr (some (.inl 8, 0)))), some (.inl v1), some (.inl v2), some (.inl v3)] [.inl r] σ) := by
  rw [zgo_run X C _ _ [0, 8, 19, 29, 62, 72, 80] 6]
  rfl
set_option maxRecDepth 100000 in
theorem bX8_retry_29 (X : Nat → Nat → Int32) (C : Nat → List zV → zS → Option zR) (L : List zK) (I : Nat → Nat → Int32) (J : Nat → Nat → Int64) (v1 : Int32) (v2 : Int32) (v3 : Int32) (s0 : Int32) : zgo X C (some .int) kX8_retry 29 [some (.inr (.inr (some (.inl 8, 0)))), some (.inl v1), some (.inl v2), some (.inl v3)] [.inl s0] (L, zB1, I, J) = if s0 = 0 then some (some (.inl (-1000001)), (L, zB1, I, J)) else zbt (zin v1 6) (if (I 18 v1.toNatClampNeg) = 2 then cV (C 55 [.inr (.inr (some (.inl 4, 31))), .inr (.inr (some (.inl 1, 13)))] (L, zB1, I, J)) (fun σ => zgo X C (some .int) kX8_retry 62 [some (.inr (.inr (some (.inl 8, 0)))), some (.inl v1), some (.inl v2), some (.inl v3)] [] σ) else some (some (.inl (-1000002)), (L, zB1, I, J))) := by
  rw [zgo_run X C _ _ [0, 8, 19, 29, 62, 72, 80] 14]
  rfl
set_option maxRecDepth 100000 in
theorem bX8_retry_62 (X : Nat → Nat → Int32) (C : Nat → List zV → zS → Option zR) (L : List zK) (I : Nat → Nat → Int32) (J : Nat → Nat → Int64) (v1 : Int32) (v2 : Int32) (v3 : Int32) : zgo X C (some .int) kX8_retry 62 [some (.inr (.inr (some (.inl 8, 0)))), some (.inl v1), some (.inl v2), some (.inl v3)] [] (L, zB1, I, J) = cV (C 24 [.inr (.inr (some (.inl 1, 13))), .inl v1, .inl v2, .inl v3] (L, zB1, I, J)) (fun σ => zgo X C (some .int) kX8_retry 72 [some (.inr (.inr (some (.inl 8, 0)))), some (.inl v1), some (.inl v2), some (.inl v3)] [] σ) := by
  rw [zgo_run X C _ _ [0, 8, 19, 29, 62, 72, 80] 7]
  rfl
set_option maxRecDepth 100000 in
theorem bX8_retry_72 (X : Nat → Nat → Int32) (C : Nat → List zV → zS → Option zR) (L : List zK) (I : Nat → Nat → Int32) (J : Nat → Nat → Int64) (v1 : Int32) (v2 : Int32) (v3 : Int32) : zgo X C (some .int) kX8_retry 72 [some (.inr (.inr (some (.inl 8, 0)))), some (.inl v1), some (.inl v2), some (.inl v3)] [] (L, zB1, I, J) = cI (C 26 [.inr (.inr (some (.inl 1, 13))), .inl 2] (L, zB1, I, J)) (fun r σ => zgo X C (some .int) kX8_retry 80 [some (.inr (.inr (some (.inl 8, 0)))), some (.inl v1), some (.inl v2), some (.inl v3)] [.inl r] σ) := by
  rw [zgo_run X C _ _ [0, 8, 19, 29, 62, 72, 80] 5]
  rfl
set_option maxRecDepth 100000 in
theorem bX8_retry_80 (X : Nat → Nat → Int32) (C : Nat → List zV → zS → Option zR) (L : List zK) (I : Nat → Nat → Int32) (J : Nat → Nat → Int64) (v1 : Int32) (v2 : Int32) (v3 : Int32) (s0 : Int32) : zgo X C (some .int) kX8_retry 80 [some (.inr (.inr (some (.inl 8, 0)))), some (.inl v1), some (.inl v2), some (.inl v3)] [.inl s0] (L, zB1, I, J) = some (some (.inl s0), (L, zB1, I, J)) := by
  rw [zgo_run X C _ _ [0, 8, 19, 29, 62, 72, 80] 2]
  rfl

set_option maxRecDepth 100000 in
theorem bX8_man_0 (X : Nat → Nat → Int32) (C : Nat → List zV → zS → Option zR) (L : List zK) (I : Nat → Nat → Int32) (J : Nat → Nat → Int64) (a1 : Int32) (a2 : Int32) : zgo X C (some .int) kX8_man 0 [some (.inr (.inr (some (.inl 8, 0)))), some (.inl a1), some (.inl a2)] [] (L, zB1, I, J) = cI (C 16 [.inr (.inr (some (.inl 1, 13))), .inl a1] (L, zB1, I, J)) (fun r σ => zgo X C (some .int) kX8_man 8 [some (.inr (.inr (some (.inl 8, 0)))), some (.inl a1), some (.inl a2)] [.inl r] σ) := by
  rw [zgo_run X C _ _ [0, 8, 96] 5]
  rfl
set_option maxRecDepth 100000 in
theorem bX8_man_8 (X : Nat → Nat → Int32) (C : Nat → List zV → zS → Option zR) (L : List zK) (I : Nat → Nat → Int32) (J : Nat → Nat → Int64) (v1 : Int32) (v2 : Int32) (s0 : Int32) : zgo X C (some .int) kX8_man 8 [some (.inr (.inr (some (.inl 8, 0)))), some (.inl v1), some (.inl v2)] [.inl s0] (L, zB1, I, J) = if s0 = 0 then some (some (.inl (-1000001)), (L, zB1, I, J)) else if v2 = 0 then zbt (zin v1 6) (some (some (.inl (I 17 v1.toNatClampNeg)), (L, zB1, I, J))) else if v2 = 1 then zbt (zin v1 6) (some (some (.inl (I 18 v1.toNatClampNeg)), (L, zB1, I, J))) else if v2 = 2 then zbt (zin v1 6) (some (some (.inl (I 19 v1.toNatClampNeg)), (L, zB1, I, J))) else if v2 = 3 then zbt (zin v1 6) (some (some (.inl (I 20 v1.toNatClampNeg)), (L, zB1, I, J))) else if v2 = 4 then cI (C 23 [.inr (.inr (some (.inl 1, 13))), .inl v1] (L, zB1, I, J)) (fun r σ => zgo X C (some .int) kX8_man 96 [some (.inr (.inr (some (.inl 8, 0)))), some (.inl v1), some (.inl v2)] [.inl r] σ) else some (some (.inl (-1000001)), (L, zB1, I, J)) := by
  rw [zgo_run X C _ _ [0, 8, 96] 10]
  rfl
set_option maxRecDepth 100000 in
theorem bX8_man_96 (X : Nat → Nat → Int32) (C : Nat → List zV → zS → Option zR) (L : List zK) (I : Nat → Nat → Int32) (J : Nat → Nat → Int64) (v1 : Int32) (v2 : Int32) (s0 : Int32) : zgo X C (some .int) kX8_man 96 [some (.inr (.inr (some (.inl 8, 0)))), some (.inl v1), some (.inl v2)] [.inl s0] (L, zB1, I, J) = some (some (.inl s0), (L, zB1, I, J)) := by
  rw [zgo_run X C _ _ [0, 8, 96] 2]
  rfl

set_option maxRecDepth 100000 in
theorem bX8_judge_0 (X : Nat → Nat → Int32) (C : Nat → List zV → zS → Option zR) (L : List zK) (I : Nat → Nat → Int32) (J : Nat → Nat → Int64) (a1 : Int32) (a2 : Int32) : zgo X C (some .int) kX8_judge 0 [some (.inr (.inr (some (.inl 8, 0)))), some (.inl a1), some (.inl a2)] [] (L, zB1, I, J) = cI (C 17 [.inr (.inr (some (.inl 1, 13))), .inl a1] (L, zB1, I, J)) (fun r σ => zgo X C (some .int) kX8_judge 8 [some (.inr (.inr (some (.inl 8, 0)))), some (.inl a1), some (.inl a2)] [.inl r] σ) := by
  rw [zgo_run X C _ _ [0, 8, 72, 81] 5]
  rfl
set_option maxRecDepth 100000 in
theorem bX8_judge_8 (X : Nat → Nat → Int32) (C : Nat → List zV → zS → Option zR) (L : List zK) (I : Nat → Nat → Int32) (J : Nat → Nat → Int64) (v1 : Int32) (v2 : Int32) (s0 : Int32) : zgo X C (some .int) kX8_judge 8 [some (.inr (.inr (some (.inl 8, 0)))), some (.inl v1), some (.inl v2)] [.inl s0] (L, zB1, I, J) = if s0 = 0 then some (some (.inl (-1000001)), (L, zB1, I, J)) else if v2 = 0 then zbt (zin v1 4) (some (some (.inl (I 14 v1.toNatClampNeg)), (L, zB1, I, J))) else if v2 = 1 then zbt (zin v1 4) (some (some (.inl (I 15 v1.toNatClampNeg)), (L, zB1, I, J))) else if v2 = 2 then cI (C 27 [.inr (.inr (some (.inl 1, 13))), .inl v1] (L, zB1, I, J)) (fun r σ => zgo X C (some .int) kX8_judge 72 [some (.inr (.inr (some (.inl 8, 0)))), some (.inl v1), some (.inl v2)] [.inl r] σ) else if v2 = 3 then cI (C 28 [.inr (.inr (some (.inl 1, 13))), .inl v1] (L, zB1, I, J)) (fun r σ => zgo X C (some .int) kX8_judge 81 [some (.inr (.inr (some (.inl 8, 0)))), some (.inl v1), some (.inl v2)] [.inl r] σ) else some (some (.inl (-1000001)), (L, zB1, I, J)) := by
  rw [zgo_run X C _ _ [0, 8, 72, 81] 10]
  rfl
set_option maxRecDepth 100000 in
theorem bX8_judge_72 (X : Nat → Nat → Int32) (C : Nat → List zV → zS → Option zR) (L : List zK) (I : Nat → Nat → Int32) (J : Nat → Nat → Int64) (v1 : Int32) (v2 : Int32) (s0 : Int32) : zgo X C (some .int) kX8_judge 72 [some (.inr (.inr (some (.inl 8, 0)))), some (.inl v1), some (.inl v2)] [.inl s0] (L, zB1, I, J) = some (some (.inl s0), (L, zB1, I, J)) := by
  rw [zgo_run X C _ _ [0, 8, 72, 81] 2]
  rfl
set_option maxRecDepth 100000 in
theorem bX8_judge_81 (X : Nat → Nat → Int32) (C : Nat → List zV → zS → Option zR) (L : List zK) (I : Nat → Nat → Int32) (J : Nat → Nat → Int64) (v1 : Int32) (v2 : Int32) (s0 : Int32) : zgo X C (some .int) kX8_judge 81 [some (.inr (.inr (some (.inl 8, 0)))), some (.inl v1), some (.inl v2)] [.inl s0] (L, zB1, I, J) = some (some (.inl s0), (L, zB1, I, J)) := by
  rw [zgo_run X C _ _ [0, 8, 72, 81] 2]
  rfl

set_option maxRecDepth 100000 in
theorem bX8_stand_0 (X : Nat → Nat → Int32) (C : Nat → List zV → zS → Option zR) (L : List zK) (I : Nat → Nat → Int32) (J : Nat → Nat → Int64) (a1 : Int32) : zgo X C (some .int) kX8_stand 0 [some (.inr (.inr (some (.inl 8, 0)))), some (.inl a1)] [] (L, zB1, I, J) = cI (C 146 [.inr (.inr (some (.inl 8, 0)))] (L, zB1, I, J)) (fun r σ => zgo X C (some .int) kX8_stand 4 [some (.inr (.inr (some (.inl 8, 0)))), some (.inl a1)] [.inl r] σ) := by
  rw [zgo_run X C _ _ [0, 4, 56, 65, 74, 83] 3]
  rfl
set_option maxRecDepth 100000 in
theorem bX8_stand_4 (X : Nat → Nat → Int32) (C : Nat → List zV → zS → Option zR) (L : List zK) (I : Nat → Nat → Int32) (J : Nat → Nat → Int64) (v1 : Int32) (s0 : Int32) : zgo X C (some .int) kX8_stand 4 [some (.inr (.inr (some (.inl 8, 0)))), some (.inl v1)] [.inl s0] (L, zB1, I, J) = if s0 = 0 then some (some (.inl (-1000002)), (L, zB1, I, J)) else if v1 = 0 then cI (C 26 [.inr (.inr (some (.inl 1, 13))), .inl 0] (L, zB1, I, J)) (fun r σ => zgo X C (some .int) kX8_stand 56 [some (.inr (.inr (some (.inl 8, 0)))), some (.inl v1)] [.inl r] σ) else if v1 = 1 then cI (C 26 [.inr (.inr (some (.inl 1, 13))), .inl 1] (L, zB1, I, J)) (fun r σ => zgo X C (some .int) kX8_stand 65 [some (.inr (.inr (some (.inl 8, 0)))), some (.inl v1)] [.inl r] σ) else if v1 = 2 then cI (C 26 [.inr (.inr (some (.inl 1, 13))), .inl 2] (L, zB1, I, J)) (fun r σ => zgo X C (some .int) kX8_stand 74 [some (.inr (.inr (some (.inl 8, 0)))), some (.inl v1)] [.inl r] σ) else if v1 = 3 then cI (C 26 [.inr (.inr (some (.inl 1, 13))), .inl 3] (L, zB1, I, J)) (fun r σ => zgo X C (some .int) kX8_stand 83 [some (.inr (.inr (some (.inl 8, 0)))), some (.inl v1)] [.inl r] σ) else if v1 = 4 then some (some (.inl (I 13 2)), (L, zB1, I, J)) else if v1 = 5 then some (some (.inl (I 13 3)), (L, zB1, I, J)) else some (some (.inl (-1000001)), (L, zB1, I, J)) := by
  rw [zgo_run X C _ _ [0, 4, 56, 65, 74, 83] 8]
  rfl
set_option maxRecDepth 100000 in
theorem bX8_stand_56 (X : Nat → Nat → Int32) (C : Nat → List zV → zS → Option zR) (L : List zK) (I : Nat → Nat → Int32) (J : Nat → Nat → Int64) (v1 : Int32) (s0 : Int32) : zgo X C (some .int) kX8_stand 56 [some (.inr (.inr (some (.inl 8, 0)))), some (.inl v1)] [.inl s0] (L, zB1, I, J) = some (some (.inl s0), (L, zB1, I, J)) := by
  rw [zgo_run X C _ _ [0, 4, 56, 65, 74, 83] 2]
  rfl
set_option maxRecDepth 100000 in
theorem bX8_stand_65 (X : Nat → Nat → Int32) (C : Nat → List zV → zS → Option zR) (L : List zK) (I : Nat → Nat → Int32) (J : Nat → Nat → Int64) (v1 : Int32) (s0 : Int32) : zgo X C (some .int) kX8_stand 65 [some (.inr (.inr (some (.inl 8, 0)))), some (.inl v1)] [.inl s0] (L, zB1, I, J) = some (some (.inl s0), (L, zB1, I, J)) := by
  rw [zgo_run X C _ _ [0, 4, 56, 65, 74, 83] 2]
  rfl
set_option maxRecDepth 100000 in
theorem bX8_stand_74 (X : Nat → Nat → Int32) (C : Nat → List zV → zS → Option zR) (L : List zK) (I : Nat → Nat → Int32) (J : Nat → Nat → Int64) (v1 : Int32) (s0 : Int32) : zgo X C (some .int) kX8_stand 74 [some (.inr (.inr (some (.inl 8, 0)))), some (.inl v1)] [.inl s0] (L, zB1, I, J) = some (some (.inl s0), (L, zB1, I, J)) := by
  rw [zgo_run X C _ _ [0, 4, 56, 65, 74, 83] 2]
  rfl
set_option maxRecDepth 100000 in
theorem bX8_stand_83 (X : Nat → Nat → Int32) (C : Nat → List zV → zS → Option zR) (L : List zK) (I : Nat → Nat → Int32) (J : Nat → Nat → Int64) (v1 : Int32) (s0 : Int32) : zgo X C (some .int) kX8_stand 83 [some (.inr (.inr (some (.inl 8, 0)))), some (.inl v1)] [.inl s0] (L, zB1, I, J) = some (some (.inl s0), (L, zB1, I, J)) := by
  rw [zgo_run X C _ _ [0, 4, 56, 65, 74, 83] 2]
  rfl

set_option maxRecDepth 100000 in
theorem bX8_ahead_0 (X : Nat → Nat → Int32) (C : Nat → List zV → zS → Option zR) (L : List zK) (I : Nat → Nat → Int32) (J : Nat → Nat → Int64) (a1 : Int32) (a2 : Int32) (a3 : Int32) : zgo X C (some .int) kX8_ahead 0 [some (.inr (.inr (some (.inl 8, 0)))), some (.inl a1), some (.inl a2), some (.inl a3), none] [] (L, zB1, I, J) = cI (C 16 [.inr (.inr (some (.inl 1, 13))), .inl a1] (L, zB1, I, J)) (fun r σ => zgo X C (some .int) kX8_ahead 8 [some (.inr (.inr (some (.inl 8, 0)))), some (.inl a1), some (.inl a2), some (.inl a3), none] [.inl r] σ) := by
  rw [zgo_run X C _ _ [0, 8, 18, 27, 45] 5]
  rfl
set_option maxRecDepth 100000 in
theorem bX8_ahead_8 (X : Nat → Nat → Int32) (C : Nat → List zV → zS → Option zR) (L : List zK) (I : Nat → Nat → Int32) (J : Nat → Nat → Int64) (v1 : Int32) (v2 : Int32) (v3 : Int32) (s0 : Int32) : zgo X C (some .int) kX8_ahead 8 [some (.inr (.inr (some (.inl 8, 0)))), some (.inl v1), some (.inl v2), some (.inl v3), none] [.inl s0] (L, zB1, I, J) = if s0 = 0 then some (some (.inl (-1000001)), (L, zB1, I, J)) else cI (C 150 [.inl v2, .inl 0, .inl 60] (L, zB1, I, J)) (fun r σ => zgo X C (some .int) kX8_ahead 18 [some (.inr (.inr (some (.inl 8, 0)))), some (.inl v1), some (.inl v2), some (.inl v3), none] [.inl r] σ) := by
  rw [zgo_run X C _ _ [0, 8, 18, 27, 45] 6]
  rfl
set_option maxRecDepth 100000 in
theorem bX8_ahead_18 (X : Nat → Nat → Int32) (C : Nat → List zV → zS → Option zR) (L : List zK) (I : Nat → Nat → Int32) (J : Nat → Nat → Int64) (v1 : Int32) (v2 : Int32) (v3 : Int32) (s0 : Int32) : zgo X C (some .int) kX8_ahead 18 [some (.inr (.inr (some (.inl 8, 0)))), some (.inl v1), some (.inl v2), some (.inl v3), none] [.inl s0] (L, zB1, I, J) = if s0 = 0 then some (some (.inl (-1000001)), (L, zB1, I, J)) else cI (C 150 [.inl v3, .inl 0, .inl 2] (L, zB1, I, J)) (fun r σ => zgo X C (some .int) kX8_ahead 27 [some (.inr (.inr (some (.inl 8, 0)))), some (.inl v1), some (.inl v2), some (.inl v3), none] [.inl r] σ) := by
  rw [zgo_run X C _ _ [0, 8, 18, 27, 45] 6]
  rfl
set_option maxRecDepth 100000 in
theorem bX8_ahead_27 (X : Nat → Nat → Int32) (C : Nat → List zV → zS → Option zR) (L : List zK) (I : Nat → Nat → Int32) (J : Nat → Nat → Int64) (v1 : Int32) (v2 : Int32) (v3 : Int32) (s0 : Int32) : zgo X C (some .int) kX8_ahead 27 [some (.inr (.inr (some (.inl 8, 0)))), some (.inl v1), some (.inl v2), some (.inl v3), none] [.inl s0] (L, zB1, I, J) = if s0 = 0 then some (some (.inl (-1000001)), (L, zB1, I, J)) else cQ (C 43 [.inr (.inr (some (.inl 3, 225))), .inr (.inr (some (.inl 1, 13))), .inl v2] (L, zB1, I, J)) (fun r σ => zgo X C (some .int) kX8_ahead 45 [some (.inr (.inr (some (.inl 8, 0)))), some (.inl v1), some (.inl v2), some (.inl v3), none] [.inr (.inr r)] σ) := by
  rw [zgo_run X C _ _ [0, 8, 18, 27, 45] 8]
  rfl
set_option maxRecDepth 100000 in
theorem bX8_ahead_45 (X : Nat → Nat → Int32) (C : Nat → List zV → zS → Option zR) (L : List zK) (I : Nat → Nat → Int32) (J : Nat → Nat → Int64) (v1 : Int32) (v2 : Int32) (v3 : Int32) (qs0 : Nat) : zgo X C (some .int) kX8_ahead 45 [some (.inr (.inr (some (.inl 8, 0)))), some (.inl v1), some (.inl v2), some (.inl v3), none] [.inr (.inr (some (.inl 1, qs0)))] (L, zB1, I, J) = if v3 = 0 then zbt (zin v1 6) (some (some (.inl (I (qs0 + 7) v1.toNatClampNeg)), (L, zB1, I, J))) else if v3 = 1 then zbt (zin v1 6) (some (some (.inl (I (qs0 + 5) v1.toNatClampNeg)), (L, zB1, I, J))) else zbt (zin v1 6) (some (some (.inl (I (qs0 + 6) v1.toNatClampNeg)), (L, zB1, I, J))) := by
  rw [zgo_run X C _ _ [0, 8, 18, 27, 45] 13]
  rfl

set_option maxRecDepth 100000 in
theorem bX8_by_0 (X : Nat → Nat → Int32) (C : Nat → List zV → zS → Option zR) (L : List zK) (I : Nat → Nat → Int32) (J : Nat → Nat → Int64) (a1 : Int32) (a2 : Int32) : zgo X C (some .int) kX8_by 0 [some (.inr (.inr (some (.inl 8, 0)))), some (.inl a1), some (.inl a2)] [] (L, zB1, I, J) = cI (C 17 [.inr (.inr (some (.inl 1, 13))), .inl a1] (L, zB1, I, J)) (fun r σ => zgo X C (some .int) kX8_by 8 [some (.inr (.inr (some (.inl 8, 0)))), some (.inl a1), some (.inl a2)] [.inl r] σ) := by
  rw [zgo_run X C _ _ [0, 8, 18, 36, 40] 5]
  rfl
set_option maxRecDepth 100000 in
theorem bX8_by_8 (X : Nat → Nat → Int32) (C : Nat → List zV → zS → Option zR) (L : List zK) (I : Nat → Nat → Int32) (J : Nat → Nat → Int64) (v1 : Int32) (v2 : Int32) (s0 : Int32) : zgo X C (some .int) kX8_by 8 [some (.inr (.inr (some (.inl 8, 0)))), some (.inl v1), some (.inl v2)] [.inl s0] (L, zB1, I, J) = if s0 = 0 then some (some (.inl (-1000001)), (L, zB1, I, J)) else cI (C 150 [.inl v2, .inl 0, .inl 60] (L, zB1, I, J)) (fun r σ => zgo X C (some .int) kX8_by 18 [some (.inr (.inr (some (.inl 8, 0)))), some (.inl v1), some (.inl v2)] [.inl r] σ) := by
  rw [zgo_run X C _ _ [0, 8, 18, 36, 40] 6]
  rfl
set_option maxRecDepth 100000 in
theorem bX8_by_18 (X : Nat → Nat → Int32) (C : Nat → List zV → zS → Option zR) (L : List zK) (I : Nat → Nat → Int32) (J : Nat → Nat → Int64) (v1 : Int32) (v2 : Int32) (s0 : Int32) : zgo X C (some .int) kX8_by 18 [some (.inr (.inr (some (.inl 8, 0)))), some (.inl v1), some (.inl v2)] [.inl s0] (L, zB1, I, J) = if s0 = 0 then some (some (.inl (-1000001)), (L, zB1, I, J)) else cQ (C 43 [.inr (.inr (some (.inl 3, 225))), .inr (.inr (some (.inl 1, 13))), .inl v2] (L, zB1, I, J)) (fun r σ => zgo X C (some .int) kX8_by 36 [some (.inr (.inr (some (.inl 8, 0)))), some (.inl v1), some (.inl v2)] [.inr (.inr r)] σ) := by
  rw [zgo_run X C _ _ [0, 8, 18, 36, 40] 8]
  rfl
set_option maxRecDepth 100000 in
theorem bX8_by_36 (X : Nat → Nat → Int32) (C : Nat → List zV → zS → Option zR) (L : List zK) (I : Nat → Nat → Int32) (J : Nat → Nat → Int64) (v1 : Int32) (v2 : Int32) (qs0 : Nat) : zgo X C (some .int) kX8_by 36 [some (.inr (.inr (some (.inl 8, 0)))), some (.inl v1), some (.inl v2)] [.inr (.inr (some (.inl 1, qs0)))] (L, zB1, I, J) = cI (C 27 [.inr (.inr (some (.inl 1, qs0))), .inl v1] (L, zB1, I, J)) (fun r σ => zgo X C (some .int) kX8_by 40 [some (.inr (.inr (some (.inl 8, 0)))), some (.inl v1), some (.inl v2)] [.inl r] σ) := by
  rw [zgo_run X C _ _ [0, 8, 18, 36, 40] 3]
  rfl
set_option maxRecDepth 100000 in
theorem bX8_by_40 (X : Nat → Nat → Int32) (C : Nat → List zV → zS → Option zR) (L : List zK) (I : Nat → Nat → Int32) (J : Nat → Nat → Int64) (v1 : Int32) (v2 : Int32) (s0 : Int32) : zgo X C (some .int) kX8_by 40 [some (.inr (.inr (some (.inl 8, 0)))), some (.inl v1), some (.inl v2)] [.inl s0] (L, zB1, I, J) = some (some (.inl s0), (L, zB1, I, J)) := by
  rw [zgo_run X C _ _ [0, 8, 18, 36, 40] 2]
  rfl

set_option maxRecDepth 100000 in
theorem bX8_when_0 (X : Nat → Nat → Int32) (C : Nat → List zV → zS → Option zR) (L : List zK) (I : Nat → Nat → Int32) (J : Nat → Nat → Int64) (a1 : Int32) (a2 : Int32) : zgo X C (some .int) kX8_when 0 [some (.inr (.inr (some (.inl 8, 0)))), some (.inl a1), some (.inl a2)] [] (L, zB1, I, J) = cI (C 16 [.inr (.inr (some (.inl 1, 13))), .inl a1] (L, zB1, I, J)) (fun r σ => zgo X C (some .int) kX8_when 8 [some (.inr (.inr (some (.inl 8, 0)))), some (.inl a1), some (.inl a2)] [.inl r] σ) := by
  rw [zgo_run X C _ _ [0, 8, 17, 36] 5]
  rfl
set_option maxRecDepth 100000 in
theorem bX8_when_8 (X : Nat → Nat → Int32) (C : Nat → List zV → zS → Option zR) (L : List zK) (I : Nat → Nat → Int32) (J : Nat → Nat → Int64) (v1 : Int32) (v2 : Int32) (s0 : Int32) : zgo X C (some .int) kX8_when 8 [some (.inr (.inr (some (.inl 8, 0)))), some (.inl v1), some (.inl v2)] [.inl s0] (L, zB1, I, J) = if s0 = 0 then some (some (.inl (-1000001)), (L, zB1, I, J)) else cI (C 150 [.inl v2, .inl 1, .inl 3] (L, zB1, I, J)) (fun r σ => zgo X C (some .int) kX8_when 17 [some (.inr (.inr (some (.inl 8, 0)))), some (.inl v1), some (.inl v2)] [.inl r] σ) := by
  rw [zgo_run X C _ _ [0, 8, 17, 36] 6]
  rfl
set_option maxRecDepth 100000 in
theorem bX8_when_17 (X : Nat → Nat → Int32) (C : Nat → List zV → zS → Option zR) (L : List zK) (I : Nat → Nat → Int32) (J : Nat → Nat → Int64) (v1 : Int32) (v2 : Int32) (s0 : Int32) : zgo X C (some .int) kX8_when 17 [some (.inr (.inr (some (.inl 8, 0)))), some (.inl v1), some (.inl v2)] [.inl s0] (L, zB1, I, J) = if s0 = 0 then some (some (.inl (-1000001)), (L, zB1, I, J)) else cI (C 44 [.inr (.inr (some (.inl 3, 225))), .inr (.inr (some (.inl 1, 13))), .inl v1, .inl v2] (L, zB1, I, J)) (fun r σ => zgo X C (some .int) kX8_when 36 [some (.inr (.inr (some (.inl 8, 0)))), some (.inl v1), some (.inl v2)] [.inl r] σ) := by
  rw [zgo_run X C _ _ [0, 8, 17, 36] 9]
  rfl
set_option maxRecDepth 100000 in
theorem bX8_when_36 (X : Nat → Nat → Int32) (C : Nat → List zV → zS → Option zR) (L : List zK) (I : Nat → Nat → Int32) (J : Nat → Nat → Int64) (v1 : Int32) (v2 : Int32) (s0 : Int32) : zgo X C (some .int) kX8_when 36 [some (.inr (.inr (some (.inl 8, 0)))), some (.inl v1), some (.inl v2)] [.inl s0] (L, zB1, I, J) = some (some (.inl s0), (L, zB1, I, J)) := by
  rw [zgo_run X C _ _ [0, 8, 17, 36] 2]
  rfl

set_option maxRecDepth 100000 in
theorem bX8_sending_0 (X : Nat → Nat → Int32) (C : Nat → List zV → zS → Option zR) (L : List zK) (I : Nat → Nat → Int32) (J : Nat → Nat → Int64) (a1 : Int32) (a2 : Int32) : zgo X C (some .int) kX8_sending 0 [some (.inr (.inr (some (.inl 8, 0)))), some (.inl a1), some (.inl a2)] [] (L, zB1, I, J) = cI (C 146 [.inr (.inr (some (.inl 8, 0)))] (L, zB1, I, J)) (fun r σ => zgo X C (some .int) kX8_sending 4 [some (.inr (.inr (some (.inl 8, 0)))), some (.inl a1), some (.inl a2)] [.inl r] σ) := by
  rw [zgo_run X C _ _ [0, 4, 17, 34, 52, 63, 74] 3]
  rfl
set_option maxRecDepth 100000 in
theorem bX8_sending_4 (X : Nat → Nat → Int32) (C : Nat → List zV → zS → Option zR) (L : List zK) (I : Nat → Nat → Int32) (J : Nat → Nat → Int64) (v1 : Int32) (v2 : Int32) (s0 : Int32) : zgo X C (some .int) kX8_sending 4 [some (.inr (.inr (some (.inl 8, 0)))), some (.inl v1), some (.inl v2)] [.inl s0] (L, zB1, I, J) = if s0 = 0 then some (some (.inl (-1000002)), (L, zB1, I, J)) else cI (C 150 [.inl v1, .inl 1, .inl 30] (L, zB1, I, J)) (fun r σ => zgo X C (some .int) kX8_sending 17 [some (.inr (.inr (some (.inl 8, 0)))), some (.inl v1), some (.inl v2)] [.inl r] σ) := by
  rw [zgo_run X C _ _ [0, 4, 17, 34, 52, 63, 74] 6]
  rfl
set_option maxRecDepth 100000 in
theorem bX8_sending_17 (X : Nat → Nat → Int32) (C : Nat → List zV → zS → Option zR) (L : List zK) (I : Nat → Nat → Int32) (J : Nat → Nat → Int64) (v1 : Int32) (v2 : Int32) (s0 : Int32) : zgo X C (some .int) kX8_sending 17 [some (.inr (.inr (some (.inl 8, 0)))), some (.inl v1), some (.inl v2)] [.inl s0] (L, zB1, I, J) = if s0 = 0 then some (some (.inl (-1000001)), (L, zB1, I, J)) else cI (C 150 [.inl v2, .inl (-1), .inl ((I 13 1) - 1)] (L, zB1, I, J)) (fun r σ => zgo X C (some .int) kX8_sending 34 [some (.inr (.inr (some (.inl 8, 0)))), some (.inl v1), some (.inl v2)] [.inl r] σ) := by
  rw [zgo_run X C _ _ [0, 4, 17, 34, 52, 63, 74] 10]
  rfl
set_option maxRecDepth 100000 in
theorem bX8_sending_34 (X : Nat → Nat → Int32) (C : Nat → List zV → zS → Option zR) (L : List zK) (I : Nat → Nat → Int32) (J : Nat → Nat → Int64) (v1 : Int32) (v2 : Int32) (s0 : Int32) : zgo X C (some .int) kX8_sending 34 [some (.inr (.inr (some (.inl 8, 0)))), some (.inl v1), some (.inl v2)] [.inl s0] (L, zB1, I, J) = if s0 = 0 then some (some (.inl (-1000001)), (L, zB1, I, J)) else cV (C 63 [.inr (.inr (some (.inl 5, 234))), .inr (.inr (some (.inl 1, 13))), .inl v1] (L, zB1, I, J)) (fun σ => zgo X C (some .int) kX8_sending 52 [some (.inr (.inr (some (.inl 8, 0)))), some (.inl v1), some (.inl v2)] [] σ) := by
  rw [zgo_run X C _ _ [0, 4, 17, 34, 52, 63, 74] 8]
  rfl
set_option maxRecDepth 100000 in
theorem bX8_sending_52 (X : Nat → Nat → Int32) (C : Nat → List zV → zS → Option zR) (L : List zK) (I : Nat → Nat → Int32) (J : Nat → Nat → Int64) (v1 : Int32) (v2 : Int32) : zgo X C (some .int) kX8_sending 52 [some (.inr (.inr (some (.inl 8, 0)))), some (.inl v1), some (.inl v2)] [] (L, zB1, I, J) = if 0 ≤ v2 then cI (C 62 [.inr (.inr (some (.inl 5, 234))), .inl v2] (L, zB1, I, J)) (fun r σ => zgo X C (some .int) kX8_sending 74 [some (.inr (.inr (some (.inl 8, 0)))), some (.inl v1), some (.inl v2)] [.inl r] σ) else cI (C 61 [.inr (.inr (some (.inl 5, 234)))] (L, zB1, I, J)) (fun r σ => zgo X C (some .int) kX8_sending 63 [some (.inr (.inr (some (.inl 8, 0)))), some (.inl v1), some (.inl v2)] [.inl r] σ) := by
  rw [zgo_run X C _ _ [0, 4, 17, 34, 52, 63, 74] 7]
  rfl
set_option maxRecDepth 100000 in
theorem bX8_sending_63 (X : Nat → Nat → Int32) (C : Nat → List zV → zS → Option zR) (L : List zK) (I : Nat → Nat → Int32) (J : Nat → Nat → Int64) (v1 : Int32) (v2 : Int32) (s0 : Int32) : zgo X C (some .int) kX8_sending 63 [some (.inr (.inr (some (.inl 8, 0)))), some (.inl v1), some (.inl v2)] [.inl s0] (L, zB1, I, J) = zgo X C (some .int) kX8_sending 74 [some (.inr (.inr (some (.inl 8, 0)))), some (.inl v1), some (.inl v2)] [.inl s0] (L, zB1, I, J) := by
  rw [zgo_run X C _ _ [0, 4, 17, 34, 52, 63, 74] 2]
  rfl
set_option maxRecDepth 100000 in
theorem bX8_sending_74 (X : Nat → Nat → Int32) (C : Nat → List zV → zS → Option zR) (L : List zK) (I : Nat → Nat → Int32) (J : Nat → Nat → Int64) (v1 : Int32) (v2 : Int32) (s0 : Int32) : zgo X C (some .int) kX8_sending 74 [some (.inr (.inr (some (.inl 8, 0)))), some (.inl v1), some (.inl v2)] [.inl s0] (L, zB1, I, J) = some (some (.inl s0), (L, zB1, I, J)) := by
  rw [zgo_run X C _ _ [0, 4, 17, 34, 52, 63, 74] 2]
  rfl

set_option maxRecDepth 100000 in
theorem bX8_gates_0 (X : Nat → Nat → Int32) (C : Nat → List zV → zS → Option zR) (L : List zK) (I : Nat → Nat → Int32) (J : Nat → Nat → Int64) (a1 : Int32) (a2 : Int32) : zgo X C (some .int) kX8_gates 0 [some (.inr (.inr (some (.inl 8, 0)))), some (.inl a1), some (.inl a2)] [] (L, zB1, I, J) = cI (C 146 [.inr (.inr (some (.inl 8, 0)))] (L, zB1, I, J)) (fun r σ => zgo X C (some .int) kX8_gates 4 [some (.inr (.inr (some (.inl 8, 0)))), some (.inl a1), some (.inl a2)] [.inl r] σ) := by
  rw [zgo_run X C _ _ [0, 4, 17, 26, 44, 55, 65] 3]
  rfl
set_option maxRecDepth 100000 in
theorem bX8_gates_4 (X : Nat → Nat → Int32) (C : Nat → List zV → zS → Option zR) (L : List zK) (I : Nat → Nat → Int32) (J : Nat → Nat → Int64) (v1 : Int32) (v2 : Int32) (s0 : Int32) : zgo X C (some .int) kX8_gates 4 [some (.inr (.inr (some (.inl 8, 0)))), some (.inl v1), some (.inl v2)] [.inl s0] (L, zB1, I, J) = if s0 = 0 then some (some (.inl (-1000002)), (L, zB1, I, J)) else cI (C 150 [.inl v1, .inl 1, .inl 30] (L, zB1, I, J)) (fun r σ => zgo X C (some .int) kX8_gates 17 [some (.inr (.inr (some (.inl 8, 0)))), some (.inl v1), some (.inl v2)] [.inl r] σ) := by
  rw [zgo_run X C _ _ [0, 4, 17, 26, 44, 55, 65] 6]
  rfl
set_option maxRecDepth 100000 in
theorem bX8_gates_17 (X : Nat → Nat → Int32) (C : Nat → List zV → zS → Option zR) (L : List zK) (I : Nat → Nat → Int32) (J : Nat → Nat → Int64) (v1 : Int32) (v2 : Int32) (s0 : Int32) : zgo X C (some .int) kX8_gates 17 [some (.inr (.inr (some (.inl 8, 0)))), some (.inl v1), some (.inl v2)] [.inl s0] (L, zB1, I, J) = if s0 = 0 then some (some (.inl (-1000001)), (L, zB1, I, J)) else cI (C 150 [.inl v2, .inl 0, .inl 1] (L, zB1, I, J)) (fun r σ => zgo X C (some .int) kX8_gates 26 [some (.inr (.inr (some (.inl 8, 0)))), some (.inl v1), some (.inl v2)] [.inl r] σ) := by
  rw [zgo_run X C _ _ [0, 4, 17, 26, 44, 55, 65] 6]
  rfl
set_option maxRecDepth 100000 in
theorem bX8_gates_26 (X : Nat → Nat → Int32) (C : Nat → List zV → zS → Option zR) (L : List zK) (I : Nat → Nat → Int32) (J : Nat → Nat → Int64) (v1 : Int32) (v2 : Int32) (s0 : Int32) : zgo X C (some .int) kX8_gates 26 [some (.inr (.inr (some (.inl 8, 0)))), some (.inl v1), some (.inl v2)] [.inl s0] (L, zB1, I, J) = if s0 = 0 then some (some (.inl (-1000001)), (L, zB1, I, J)) else cV (C 67 [.inr (.inr (some (.inl 5, 234))), .inr (.inr (some (.inl 1, 13))), .inl v1] (L, zB1, I, J)) (fun σ => zgo X C (some .int) kX8_gates 44 [some (.inr (.inr (some (.inl 8, 0)))), some (.inl v1), some (.inl v2)] [] σ) := by
  rw [zgo_run X C _ _ [0, 4, 17, 26, 44, 55, 65] 8]
  rfl
set_option maxRecDepth 100000 in
theorem bX8_gates_44 (X : Nat → Nat → Int32) (C : Nat → List zV → zS → Option zR) (L : List zK) (I : Nat → Nat → Int32) (J : Nat → Nat → Int64) (v1 : Int32) (v2 : Int32) : zgo X C (some .int) kX8_gates 44 [some (.inr (.inr (some (.inl 8, 0)))), some (.inl v1), some (.inl v2)] [] (L, zB1, I, J) = if v2 = 0 then cI (C 59 [.inr (.inr (some (.inl 5, 234)))] (L, zB1, I, J)) (fun r σ => zgo X C (some .int) kX8_gates 55 [some (.inr (.inr (some (.inl 8, 0)))), some (.inl v1), some (.inl v2)] [.inl r] σ) else cI (C 60 [.inr (.inr (some (.inl 5, 234)))] (L, zB1, I, J)) (fun r σ => zgo X C (some .int) kX8_gates 65 [some (.inr (.inr (some (.inl 8, 0)))), some (.inl v1), some (.inl v2)] [.inl r] σ) := by
  rw [zgo_run X C _ _ [0, 4, 17, 26, 44, 55, 65] 6]
  rfl
set_option maxRecDepth 100000 in
theorem bX8_gates_55 (X : Nat → Nat → Int32) (C : Nat → List zV → zS → Option zR) (L : List zK) (I : Nat → Nat → Int32) (J : Nat → Nat → Int64) (v1 : Int32) (v2 : Int32) (s0 : Int32) : zgo X C (some .int) kX8_gates 55 [some (.inr (.inr (some (.inl 8, 0)))), some (.inl v1), some (.inl v2)] [.inl s0] (L, zB1, I, J) = zgo X C (some .int) kX8_gates 65 [some (.inr (.inr (some (.inl 8, 0)))), some (.inl v1), some (.inl v2)] [.inl s0] (L, zB1, I, J) := by
  rw [zgo_run X C _ _ [0, 4, 17, 26, 44, 55, 65] 2]
  rfl
set_option maxRecDepth 100000 in
theorem bX8_gates_65 (X : Nat → Nat → Int32) (C : Nat → List zV → zS → Option zR) (L : List zK) (I : Nat → Nat → Int32) (J : Nat → Nat → Int64) (v1 : Int32) (v2 : Int32) (s0 : Int32) : zgo X C (some .int) kX8_gates 65 [some (.inr (.inr (some (.inl 8, 0)))), some (.inl v1), some (.inl v2)] [.inl s0] (L, zB1, I, J) = some (some (.inl s0), (L, zB1, I, J)) := by
  rw [zgo_run X C _ _ [0, 4, 17, 26, 44, 55, 65] 2]
  rfl

set_option maxRecDepth 100000 in
theorem bX8_let_0 (X : Nat → Nat → Int32) (C : Nat → List zV → zS → Option zR) (L : List zK) (I : Nat → Nat → Int32) (J : Nat → Nat → Int64) (a1 : Int32) (a2 : Int32) : zgo X C (some .int) kX8_let 0 [some (.inr (.inr (some (.inl 8, 0)))), some (.inl a1), some (.inl a2)] [] (L, zB1, I, J) = cI (C 146 [.inr (.inr (some (.inl 8, 0)))] (L, zB1, I, J)) (fun r σ => zgo X C (some .int) kX8_let 4 [some (.inr (.inr (some (.inl 8, 0)))), some (.inl a1), some (.inl a2)] [.inl r] σ) := by
  rw [zgo_run X C _ _ [0, 4, 17, 26, 44, 55, 65] 3]
  rfl
set_option maxRecDepth 100000 in
theorem bX8_let_4 (X : Nat → Nat → Int32) (C : Nat → List zV → zS → Option zR) (L : List zK) (I : Nat → Nat → Int32) (J : Nat → Nat → Int64) (v1 : Int32) (v2 : Int32) (s0 : Int32) : zgo X C (some .int) kX8_let 4 [some (.inr (.inr (some (.inl 8, 0)))), some (.inl v1), some (.inl v2)] [.inl s0] (L, zB1, I, J) = if s0 = 0 then some (some (.inl (-1000002)), (L, zB1, I, J)) else cI (C 150 [.inl v1, .inl 1, .inl 30] (L, zB1, I, J)) (fun r σ => zgo X C (some .int) kX8_let 17 [some (.inr (.inr (some (.inl 8, 0)))), some (.inl v1), some (.inl v2)] [.inl r] σ) := by
  rw [zgo_run X C _ _ [0, 4, 17, 26, 44, 55, 65] 6]
  rfl
set_option maxRecDepth 100000 in
theorem bX8_let_17 (X : Nat → Nat → Int32) (C : Nat → List zV → zS → Option zR) (L : List zK) (I : Nat → Nat → Int32) (J : Nat → Nat → Int64) (v1 : Int32) (v2 : Int32) (s0 : Int32) : zgo X C (some .int) kX8_let 17 [some (.inr (.inr (some (.inl 8, 0)))), some (.inl v1), some (.inl v2)] [.inl s0] (L, zB1, I, J) = if s0 = 0 then some (some (.inl (-1000001)), (L, zB1, I, J)) else cI (C 150 [.inl v2, .inl 0, .inl 1] (L, zB1, I, J)) (fun r σ => zgo X C (some .int) kX8_let 26 [some (.inr (.inr (some (.inl 8, 0)))), some (.inl v1), some (.inl v2)] [.inl r] σ) := by
  rw [zgo_run X C _ _ [0, 4, 17, 26, 44, 55, 65] 6]
  rfl
set_option maxRecDepth 100000 in
theorem bX8_let_26 (X : Nat → Nat → Int32) (C : Nat → List zV → zS → Option zR) (L : List zK) (I : Nat → Nat → Int32) (J : Nat → Nat → Int64) (v1 : Int32) (v2 : Int32) (s0 : Int32) : zgo X C (some .int) kX8_let 26 [some (.inr (.inr (some (.inl 8, 0)))), some (.inl v1), some (.inl v2)] [.inl s0] (L, zB1, I, J) = if s0 = 0 then some (some (.inl (-1000001)), (L, zB1, I, J)) else cV (C 68 [.inr (.inr (some (.inl 5, 234))), .inr (.inr (some (.inl 1, 13))), .inl v1] (L, zB1, I, J)) (fun σ => zgo X C (some .int) kX8_let 44 [some (.inr (.inr (some (.inl 8, 0)))), some (.inl v1), some (.inl v2)] [] σ) := by
  rw [zgo_run X C _ _ [0, 4, 17, 26, 44, 55, 65] 8]
  rfl
set_option maxRecDepth 100000 in
theorem bX8_let_44 (X : Nat → Nat → Int32) (C : Nat → List zV → zS → Option zR) (L : List zK) (I : Nat → Nat → Int32) (J : Nat → Nat → Int64) (v1 : Int32) (v2 : Int32) : zgo X C (some .int) kX8_let 44 [some (.inr (.inr (some (.inl 8, 0)))), some (.inl v1), some (.inl v2)] [] (L, zB1, I, J) = if v2 = 0 then cI (C 60 [.inr (.inr (some (.inl 5, 234)))] (L, zB1, I, J)) (fun r σ => zgo X C (some .int) kX8_let 55 [some (.inr (.inr (some (.inl 8, 0)))), some (.inl v1), some (.inl v2)] [.inl r] σ) else cI (C 59 [.inr (.inr (some (.inl 5, 234)))] (L, zB1, I, J)) (fun r σ => zgo X C (some .int) kX8_let 65 [some (.inr (.inr (some (.inl 8, 0)))), some (.inl v1), some (.inl v2)] [.inl r] σ) := by
  rw [zgo_run X C _ _ [0, 4, 17, 26, 44, 55, 65] 6]
  rfl
set_option maxRecDepth 100000 in
theorem bX8_let_55 (X : Nat → Nat → Int32) (C : Nat → List zV → zS → Option zR) (L : List zK) (I : Nat → Nat → Int32) (J : Nat → Nat → Int64) (v1 : Int32) (v2 : Int32) (s0 : Int32) : zgo X C (some .int) kX8_let 55 [some (.inr (.inr (some (.inl 8, 0)))), some (.inl v1), some (.inl v2)] [.inl s0] (L, zB1, I, J) = zgo X C (some .int) kX8_let 65 [some (.inr (.inr (some (.inl 8, 0)))), some (.inl v1), some (.inl v2)] [.inl s0] (L, zB1, I, J) := by
  rw [zgo_run X C _ _ [0, 4, 17, 26, 44, 55, 65] 2]
  rfl
set_option maxRecDepth 100000 in
theorem bX8_let_65 (X : Nat → Nat → Int32) (C : Nat → List zV → zS → Option zR) (L : List zK) (I : Nat → Nat → Int32) (J : Nat → Nat → Int64) (v1 : Int32) (v2 : Int32) (s0 : Int32) : zgo X C (some .int) kX8_let 65 [some (.inr (.inr (some (.inl 8, 0)))), some (.inl v1), some (.inl v2)] [.inl s0] (L, zB1, I, J) = some (some (.inl s0), (L, zB1, I, J)) := by
  rw [zgo_run X C _ _ [0, 4, 17, 26, 44, 55, 65] 2]
  rfl

set_option maxRecDepth 100000 in
theorem bX8_closest_0 (X : Nat → Nat → Int32) (C : Nat → List zV → zS → Option zR) (L : List zK) (I : Nat → Nat → Int32) (J : Nat → Nat → Int64) (a1 : Int32) (a2 : Int32) : zgo X C (some .int) kX8_closest 0 [some (.inr (.inr (some (.inl 8, 0)))), some (.inl a1), some (.inl a2), none] [] (L, zB1, I, J) = cI (C 17 [.inr (.inr (some (.inl 1, 13))), .inl a1] (L, zB1, I, J)) (fun r σ => zgo X C (some .int) kX8_closest 8 [some (.inr (.inr (some (.inl 8, 0)))), some (.inl a1), some (.inl a2), none] [.inl r] σ) := by
  rw [zgo_run X C _ _ [0, 8, 17, 31, 40] 5]
  rfl
set_option maxRecDepth 100000 in
theorem bX8_closest_8 (X : Nat → Nat → Int32) (C : Nat → List zV → zS → Option zR) (L : List zK) (I : Nat → Nat → Int32) (J : Nat → Nat → Int64) (v1 : Int32) (v2 : Int32) (s0 : Int32) : zgo X C (some .int) kX8_closest 8 [some (.inr (.inr (some (.inl 8, 0)))), some (.inl v1), some (.inl v2), none] [.inl s0] (L, zB1, I, J) = if s0 = 0 then some (some (.inl (-1000001)), (L, zB1, I, J)) else cI (C 150 [.inl v2, .inl 0, .inl 1] (L, zB1, I, J)) (fun r σ => zgo X C (some .int) kX8_closest 17 [some (.inr (.inr (some (.inl 8, 0)))), some (.inl v1), some (.inl v2), none] [.inl r] σ) := by
  rw [zgo_run X C _ _ [0, 8, 17, 31, 40] 6]
  rfl
set_option maxRecDepth 100000 in
theorem bX8_closest_17 (X : Nat → Nat → Int32) (C : Nat → List zV → zS → Option zR) (L : List zK) (I : Nat → Nat → Int32) (J : Nat → Nat → Int64) (v1 : Int32) (v2 : Int32) (s0 : Int32) : zgo X C (some .int) kX8_closest 17 [some (.inr (.inr (some (.inl 8, 0)))), some (.inl v1), some (.inl v2), none] [.inl s0] (L, zB1, I, J) = if s0 = 0 then some (some (.inl (-1000001)), (L, zB1, I, J)) else cI (C 32 [.inr (.inr (some (.inl 1, 13))), .inl v1] (L, zB1, I, J)) (fun r σ => zgo X C (some .int) kX8_closest 31 [some (.inr (.inr (some (.inl 8, 0)))), some (.inl v1), some (.inl v2), none] [.inl r] σ) := by
  rw [zgo_run X C _ _ [0, 8, 17, 31, 40] 6]
  rfl
set_option maxRecDepth 100000 in
theorem bX8_closest_31 (X : Nat → Nat → Int32) (C : Nat → List zV → zS → Option zR) (L : List zK) (I : Nat → Nat → Int32) (J : Nat → Nat → Int64) (v1 : Int32) (v2 : Int32) (s0 : Int32) : zgo X C (some .int) kX8_closest 31 [some (.inr (.inr (some (.inl 8, 0)))), some (.inl v1), some (.inl v2), none] [.inl s0] (L, zB1, I, J) = cI (C 16 [.inr (.inr (some (.inl 1, 13))), .inl s0] (L, zB1, I, J)) (fun r σ => zgo X C (some .int) kX8_closest 40 [some (.inr (.inr (some (.inl 8, 0)))), some (.inl v1), some (.inl v2), some (.inl s0)] [.inl r] σ) := by
  rw [zgo_run X C _ _ [0, 8, 17, 31, 40] 6]
  rfl
set_option maxRecDepth 100000 in
theorem bX8_closest_40 (X : Nat → Nat → Int32) (C : Nat → List zV → zS → Option zR) (L : List zK) (I : Nat → Nat → Int32) (J : Nat → Nat → Int64) (v1 : Int32) (v2 : Int32) (v3 : Int32) (s0 : Int32) : zgo X C (some .int) kX8_closest 40 [some (.inr (.inr (some (.inl 8, 0)))), some (.inl v1), some (.inl v2), some (.inl v3)] [.inl s0] (L, zB1, I, J) = if s0 = 0 then some (some (.inl (-1000000)), (L, zB1, I, J)) else if v2 = 0 then some (some (.inl v3), (L, zB1, I, J)) else zbt (zin v3 6) (some (some (.inl (I 20 v3.toNatClampNeg)), (L, zB1, I, J))) := by
  rw [zgo_run X C _ _ [0, 8, 17, 31, 40] 10]
  rfl

set_option maxRecDepth 100000 in
theorem bX8_share_0 (X : Nat → Nat → Int32) (C : Nat → List zV → zS → Option zR) (L : List zK) (I : Nat → Nat → Int32) (J : Nat → Nat → Int64) (a1 : Int32) (a2 : Int32) : zgo X C (some .int) kX8_share 0 [some (.inr (.inr (some (.inl 8, 0)))), some (.inl a1), some (.inl a2)] [] (L, zB1, I, J) = cI (C 16 [.inr (.inr (some (.inl 1, 13))), .inl a1] (L, zB1, I, J)) (fun r σ => zgo X C (some .int) kX8_share 8 [some (.inr (.inr (some (.inl 8, 0)))), some (.inl a1), some (.inl a2)] [.inl r] σ) := by
  rw [zgo_run X C _ _ [0, 8, 19, 34] 5]
  rfl
set_option maxRecDepth 100000 in
theorem bX8_share_8 (X : Nat → Nat → Int32) (C : Nat → List zV → zS → Option zR) (L : List zK) (I : Nat → Nat → Int32) (J : Nat → Nat → Int64) (v1 : Int32) (v2 : Int32) (s0 : Int32) : zgo X C (some .int) kX8_share 8 [some (.inr (.inr (some (.inl 8, 0)))), some (.inl v1), some (.inl v2)] [.inl s0] (L, zB1, I, J) = if s0 = 0 then some (some (.inl (-1000001)), (L, zB1, I, J)) else cI (C 150 [.inl v2, .inl 0, .inl 999] (L, zB1, I, J)) (fun r σ => zgo X C (some .int) kX8_share 19 [some (.inr (.inr (some (.inl 8, 0)))), some (.inl v1), some (.inl v2)] [.inl r] σ) := by
  rw [zgo_run X C _ _ [0, 8, 19, 34] 6]
  rfl
set_option maxRecDepth 100000 in
theorem bX8_share_19 (X : Nat → Nat → Int32) (C : Nat → List zV → zS → Option zR) (L : List zK) (I : Nat → Nat → Int32) (J : Nat → Nat → Int64) (v1 : Int32) (v2 : Int32) (s0 : Int32) : zgo X C (some .int) kX8_share 19 [some (.inr (.inr (some (.inl 8, 0)))), some (.inl v1), some (.inl v2)] [.inl s0] (L, zB1, I, J) = if s0 = 0 then some (some (.inl (-1000001)), (L, zB1, I, J)) else cI (C 33 [.inr (.inr (some (.inl 1, 13))), .inl v1, .inl v2] (L, zB1, I, J)) (fun r σ => zgo X C (some .int) kX8_share 34 [some (.inr (.inr (some (.inl 8, 0)))), some (.inl v1), some (.inl v2)] [.inl r] σ) := by
  rw [zgo_run X C _ _ [0, 8, 19, 34] 7]
  rfl
set_option maxRecDepth 100000 in
theorem bX8_share_34 (X : Nat → Nat → Int32) (C : Nat → List zV → zS → Option zR) (L : List zK) (I : Nat → Nat → Int32) (J : Nat → Nat → Int64) (v1 : Int32) (v2 : Int32) (s0 : Int32) : zgo X C (some .int) kX8_share 34 [some (.inr (.inr (some (.inl 8, 0)))), some (.inl v1), some (.inl v2)] [.inl s0] (L, zB1, I, J) = some (some (.inl s0), (L, zB1, I, J)) := by
  rw [zgo_run X C _ _ [0, 8, 19, 34] 2]
  rfl

set_option maxRecDepth 100000 in
theorem bX8_byTurns_0 (X : Nat → Nat → Int32) (C : Nat → List zV → zS → Option zR) (L : List zK) (I : Nat → Nat → Int32) (J : Nat → Nat → Int64) (a1 : Int32) (a2 : Int32) (a3 : Int32) (a4 : Int32) : zgo X C (some .int) kX8_byTurns 0 [some (.inr (.inr (some (.inl 8, 0)))), some (.inl a1), some (.inl a2), some (.inl a3), some (.inl a4)] [] (L, zB1, I, J) = cI (C 17 [.inr (.inr (some (.inl 1, 13))), .inl a1] (L, zB1, I, J)) (fun r σ => zgo X C (some .int) kX8_byTurns 8 [some (.inr (.inr (some (.inl 8, 0)))), some (.inl a1), some (.inl a2), some (.inl a3), some (.inl a4)] [.inl r] σ) := by
  rw [zgo_run X C _ _ [0, 8, 19, 36, 47, 69] 5]
  rfl
set_option maxRecDepth 100000 in
theorem bX8_byTurns_8 (X : Nat → Nat → Int32) (C : Nat → List zV → zS → Option zR) (L : List zK) (I : Nat → Nat → Int32) (J : Nat → Nat → Int64) (v1 : Int32) (v2 : Int32) (v3 : Int32) (v4 : Int32) (s0 : Int32) : zgo X C (some .int) kX8_byTurns 8 [some (.inr (.inr (some (.inl 8, 0)))), some (.inl v1), some (.inl v2), some (.inl v3), some (.inl v4)] [.inl s0] (L, zB1, I, J) = if s0 = 0 then some (some (.inl (-1000001)), (L, zB1, I, J)) else cI (C 17 [.inr (.inr (some (.inl 1, 13))), .inl v2] (L, zB1, I, J)) (fun r σ => zgo X C (some .int) kX8_byTurns 19 [some (.inr (.inr (some (.inl 8, 0)))), some (.inl v1), some (.inl v2), some (.inl v3), some (.inl v4)] [.inl r] σ) := by
  rw [zgo_run X C _ _ [0, 8, 19, 36, 47, 69] 6]
  rfl
set_option maxRecDepth 100000 in
theorem bX8_byTurns_19 (X : Nat → Nat → Int32) (C : Nat → List zV → zS → Option zR) (L : List zK) (I : Nat → Nat → Int32) (J : Nat → Nat → Int64) (v1 : Int32) (v2 : Int32) (v3 : Int32) (v4 : Int32) (s0 : Int32) : zgo X C (some .int) kX8_byTurns 19 [some (.inr (.inr (some (.inl 8, 0)))), some (.inl v1), some (.inl v2), some (.inl v3), some (.inl v4)] [.inl s0] (L, zB1, I, J) = if s0 = 0 then some (some (.inl (-1000001)), (L, zB1, I, J)) else if v1 = v2 then some (some (.inl (-1000001)), (L, zB1, I, J)) else cI (C 150 [.inl v3, .inl 0, .inl 4] (L, zB1, I, J)) (fun r σ => zgo X C (some .int) kX8_byTurns 36 [some (.inr (.inr (some (.inl 8, 0)))), some (.inl v1), some (.inl v2), some (.inl v3), some (.inl v4)] [.inl r] σ) := by
  rw [zgo_run X C _ _ [0, 8, 19, 36, 47, 69] 9]
  rfl
set_option maxRecDepth 100000 in
theorem bX8_byTurns_36 (X : Nat → Nat → Int32) (C : Nat → List zV → zS → Option zR) (L : List zK) (I : Nat → Nat → Int32) (J : Nat → Nat → Int64) (v1 : Int32) (v2 : Int32) (v3 : Int32) (v4 : Int32) (s0 : Int32) : zgo X C (some .int) kX8_byTurns 36 [some (.inr (.inr (some (.inl 8, 0)))), some (.inl v1), some (.inl v2), some (.inl v3), some (.inl v4)] [.inl s0] (L, zB1, I, J) = if s0 = 0 then some (some (.inl (-1000001)), (L, zB1, I, J)) else cI (C 150 [.inl v4, .inl 1, .inl 20] (L, zB1, I, J)) (fun r σ => zgo X C (some .int) kX8_byTurns 47 [some (.inr (.inr (some (.inl 8, 0)))), some (.inl v1), some (.inl v2), some (.inl v3), some (.inl v4)] [.inl r] σ) := by
  rw [zgo_run X C _ _ [0, 8, 19, 36, 47, 69] 6]
  rfl
set_option maxRecDepth 100000 in
theorem bX8_byTurns_47 (X : Nat → Nat → Int32) (C : Nat → List zV → zS → Option zR) (L : List zK) (I : Nat → Nat → Int32) (J : Nat → Nat → Int64) (v1 : Int32) (v2 : Int32) (v3 : Int32) (v4 : Int32) (s0 : Int32) : zgo X C (some .int) kX8_byTurns 47 [some (.inr (.inr (some (.inl 8, 0)))), some (.inl v1), some (.inl v2), some (.inl v3), some (.inl v4)] [.inl s0] (L, zB1, I, J) = if s0 = 0 then some (some (.inl (-1000001)), (L, zB1, I, J)) else cI (C 70 [.inr (.inr (some (.inl 5, 234))), .inr (.inr (some (.inl 1, 13))), .inl v1, .inl v2, .inl v3, .inl v4] (L, zB1, I, J)) (fun r σ => zgo X C (some .int) kX8_byTurns 69 [some (.inr (.inr (some (.inl 8, 0)))), some (.inl v1), some (.inl v2), some (.inl v3), some (.inl v4)] [.inl r] σ) := by
  rw [zgo_run X C _ _ [0, 8, 19, 36, 47, 69] 11]
  rfl
set_option maxRecDepth 100000 in
theorem bX8_byTurns_69 (X : Nat → Nat → Int32) (C : Nat → List zV → zS → Option zR) (L : List zK) (I : Nat → Nat → Int32) (J : Nat → Nat → Int64) (v1 : Int32) (v2 : Int32) (v3 : Int32) (v4 : Int32) (s0 : Int32) : zgo X C (some .int) kX8_byTurns 69 [some (.inr (.inr (some (.inl 8, 0)))), some (.inl v1), some (.inl v2), some (.inl v3), some (.inl v4)] [.inl s0] (L, zB1, I, J) = some (some (.inl s0), (L, zB1, I, J)) := by
  rw [zgo_run X C _ _ [0, 8, 19, 36, 47, 69] 2]
  rfl

set_option maxRecDepth 100000 in
theorem bX8_who_0 (X : Nat → Nat → Int32) (C : Nat → List zV → zS → Option zR) (L : List zK) (I : Nat → Nat → Int32) (J : Nat → Nat → Int64) (a1 : Int32) (a2 : Int32) (a3 : Int32) (a4 : Int32) (a5 : Int32) : zgo X C (some .int) kX8_who 0 [some (.inr (.inr (some (.inl 8, 0)))), some (.inl a1), some (.inl a2), some (.inl a3), some (.inl a4), some (.inl a5), none] [] (L, zB1, I, J) = cI (C 16 [.inr (.inr (some (.inl 1, 13))), .inl a1] (L, zB1, I, J)) (fun r σ => zgo X C (some .int) kX8_who 8 [some (.inr (.inr (some (.inl 8, 0)))), some (.inl a1), some (.inl a2), some (.inl a3), some (.inl a4), some (.inl a5), none] [.inl r] σ) := by
  rw [zgo_run X C _ _ [0, 8, 17, 27, 45, 58, 76, 95, 103, 106, 123, 136, 146, 149] 5]
  rfl
set_option maxRecDepth 100000 in
theorem bX8_who_8 (X : Nat → Nat → Int32) (C : Nat → List zV → zS → Option zR) (L : List zK) (I : Nat → Nat → Int32) (J : Nat → Nat → Int64) (v1 : Int32) (v2 : Int32) (v3 : Int32) (v4 : Int32) (v5 : Int32) (s0 : Int32) : zgo X C (some .int) kX8_who 8 [some (.inr (.inr (some (.inl 8, 0)))), some (.inl v1), some (.inl v2), some (.inl v3), some (.inl v4), some (.inl v5), none] [.inl s0] (L, zB1, I, J) = if s0 = 0 then some (some (.inl (-1000001)), (L, zB1, I, J)) else cI (C 150 [.inl v2, .inl 0, .inl 2] (L, zB1, I, J)) (fun r σ => zgo X C (some .int) kX8_who 17 [some (.inr (.inr (some (.inl 8, 0)))), some (.inl v1), some (.inl v2), some (.inl v3), some (.inl v4), some (.inl v5), none] [.inl r] σ) := by
  rw [zgo_run X C _ _ [0, 8, 17, 27, 45, 58, 76, 95, 103, 106, 123, 136, 146, 149] 6]
  rfl
set_option maxRecDepth 100000 in
theorem bX8_who_17 (X : Nat → Nat → Int32) (C : Nat → List zV → zS → Option zR) (L : List zK) (I : Nat → Nat → Int32) (J : Nat → Nat → Int64) (v1 : Int32) (v2 : Int32) (v3 : Int32) (v4 : Int32) (v5 : Int32) (s0 : Int32) : zgo X C (some .int) kX8_who 17 [some (.inr (.inr (some (.inl 8, 0)))), some (.inl v1), some (.inl v2), some (.inl v3), some (.inl v4), some (.inl v5), none] [.inl s0] (L, zB1, I, J) = if s0 = 0 then some (some (.inl (-1000001)), (L, zB1, I, J)) else cI (C 147 [.inr (.inr (some (.inl 8, 0))), .inl v3, .inl v5] (L, zB1, I, J)) (fun r σ => zgo X C (some .int) kX8_who 27 [some (.inr (.inr (some (.inl 8, 0)))), some (.inl v1), some (.inl v2), some (.inl v3), some (.inl v4), some (.inl v5), none] [.inl r] σ) := by
  rw [zgo_run X C _ _ [0, 8, 17, 27, 45, 58, 76, 95, 103, 106, 123, 136, 146, 149] 6]
  rfl
set_option maxRecDepth 100000 in
theorem bX8_who_27 (X : Nat → Nat → Int32) (C : Nat → List zV → zS → Option zR) (L : List zK) (I : Nat → Nat → Int32) (J : Nat → Nat → Int64) (v1 : Int32) (v2 : Int32) (v3 : Int32) (v4 : Int32) (v5 : Int32) (s0 : Int32) : zgo X C (some .int) kX8_who 27 [some (.inr (.inr (some (.inl 8, 0)))), some (.inl v1), some (.inl v2), some (.inl v3), some (.inl v4), some (.inl v5), none] [.inl s0] (L, zB1, I, J) = if s0 = 0 then some (some (.inl (-1000001)), (L, zB1, I, J)) else cI (C 76 [.inr (.inr (some (.inl 6, 1))), .inl v3, .inl v4, .inl v5] (L, zB1, I, J)) (fun r σ => zgo X C (some .int) kX8_who 45 [some (.inr (.inr (some (.inl 8, 0)))), some (.inl v1), some (.inl v2), some (.inl v3), some (.inl v4), some (.inl v5), none] [.inl r] σ) := by
  rw [zgo_run X C _ _ [0, 8, 17, 27, 45, 58, 76, 95, 103, 106, 123, 136, 146, 149] 8]
  rfl
set_option maxRecDepth 100000 in
theorem bX8_who_45 (X : Nat → Nat → Int32) (C : Nat → List zV → zS → Option zR) (L : List zK) (I : Nat → Nat → Int32) (J : Nat → Nat → Int64) (v1 : Int32) (v2 : Int32) (v3 : Int32) (v4 : Int32) (v5 : Int32) (s0 : Int32) : zgo X C (some .int) kX8_who 45 [some (.inr (.inr (some (.inl 8, 0)))), some (.inl v1), some (.inl v2), some (.inl v3), some (.inl v4), some (.inl v5), none] [.inl s0] (L, zB1, I, J) = if s0 = 0 then cV (C 35 [.inr (.inr (some (.inl 2, 254))), .inl v1, .inr (.inr (some (.inl 6, 1))), .inl v3, .inl v4, .inl v5] (L, zB1, I, J)) (fun σ => zgo X C (some .int) kX8_who 76 [some (.inr (.inr (some (.inl 8, 0)))), some (.inl v1), some (.inl v2), some (.inl v3), some (.inl v4), some (.inl v5), some (.inl s0)] [] σ) else cI (C 148 [.inr (.inr (some (.inl 8, 0))), .inl s0] (L, zB1, I, J)) (fun r σ => zgo X C (some .int) kX8_who 58 [some (.inr (.inr (some (.inl 8, 0)))), some (.inl v1), some (.inl v2), some (.inl v3), some (.inl v4), some (.inl v5), some (.inl s0)] [.inl r] σ) := by
  rw [zgo_run X C _ _ [0, 8, 17, 27, 45, 58, 76, 95, 103, 106, 123, 136, 146, 149] 13]
  rfl
set_option maxRecDepth 100000 in
theorem bX8_who_58 (X : Nat → Nat → Int32) (C : Nat → List zV → zS → Option zR) (L : List zK) (I : Nat → Nat → Int32) (J : Nat → Nat → Int64) (v1 : Int32) (v2 : Int32) (v3 : Int32) (v4 : Int32) (v5 : Int32) (v6 : Int32) (s0 : Int32) : zgo X C (some .int) kX8_who 58 [some (.inr (.inr (some (.inl 8, 0)))), some (.inl v1), some (.inl v2), some (.inl v3), some (.inl v4), some (.inl v5), some (.inl v6)] [.inl s0] (L, zB1, I, J) = some (some (.inl s0), (L, zB1, I, J)) := by
  rw [zgo_run X C _ _ [0, 8, 17, 27, 45, 58, 76, 95, 103, 106, 123, 136, 146, 149] 2]
  rfl
set_option maxRecDepth 100000 in
theorem bX8_who_76 (X : Nat → Nat → Int32) (C : Nat → List zV → zS → Option zR) (L : List zK) (I : Nat → Nat → Int32) (J : Nat → Nat → Int64) (v1 : Int32) (v2 : Int32) (v3 : Int32) (v4 : Int32) (v5 : Int32) (v6 : Int32) : zgo X C (some .int) kX8_who 76 [some (.inr (.inr (some (.inl 8, 0)))), some (.inl v1), some (.inl v2), some (.inl v3), some (.inl v4), some (.inl v5), some (.inl v6)] [] (L, zB1, I, J) = if v2 = 0 then cV (C 36 [.inr (.inr (some (.inl 2, 254))), .inr (.inr (some (.inl 1, 13))), .inl 0, .inl v1, .inl 1, .inl 5] (L, zB1, I, J)) (fun σ => zgo X C (some .int) kX8_who 95 [some (.inr (.inr (some (.inl 8, 0)))), some (.inl v1), some (.inl v2), some (.inl v3), some (.inl v4), some (.inl v5), some (.inl v6)] [] σ) else cV (C 36 [.inr (.inr (some (.inl 2, 254))), .inr (.inr (some (.inl 1, 13))), .inl 1, .inl v1, .inl 0, .inl 99] (L, zB1, I, J)) (fun σ => zgo X C (some .int) kX8_who 123 [some (.inr (.inr (some (.inl 8, 0)))), some (.inl v1), some (.inl v2), some (.inl v3), some (.inl v4), some (.inl v5), some (.inl v6)] [] σ) := by
  rw [zgo_run X C _ _ [0, 8, 17, 27, 45, 58, 76, 95, 103, 106, 123, 136, 146, 149] 12]
  rfl
set_option maxRecDepth 100000 in
theorem bX8_who_95 (X : Nat → Nat → Int32) (C : Nat → List zV → zS → Option zR) (L : List zK) (I : Nat → Nat → Int32) (J : Nat → Nat → Int64) (v1 : Int32) (v2 : Int32) (v3 : Int32) (v4 : Int32) (v5 : Int32) (v6 : Int32) : zgo X C (some .int) kX8_who 95 [some (.inr (.inr (some (.inl 8, 0)))), some (.inl v1), some (.inl v2), some (.inl v3), some (.inl v4), some (.inl v5), some (.inl v6)] [] (L, zB1, I, J) = cI (C 39 [.inr (.inr (some (.inl 2, 254)))] (L, zB1, I, J)) (fun r σ => zgo X C (some .int) kX8_who 103 [some (.inr (.inr (some (.inl 8, 0)))), some (.inl v1), some (.inl v2), some (.inl v3), some (.inl v4), some (.inl v5), some (.inl v6)] [.inl r, .inr (.inr (some (.inl 8, 0)))] σ) := by
  rw [zgo_run X C _ _ [0, 8, 17, 27, 45, 58, 76, 95, 103, 106, 123, 136, 146, 149] 5]
  rfl
set_option maxRecDepth 100000 in
theorem bX8_who_103 (X : Nat → Nat → Int32) (C : Nat → List zV → zS → Option zR) (L : List zK) (I : Nat → Nat → Int32) (J : Nat → Nat → Int64) (v1 : Int32) (v2 : Int32) (v3 : Int32) (v4 : Int32) (v5 : Int32) (v6 : Int32) (s0 : Int32) : zgo X C (some .int) kX8_who 103 [some (.inr (.inr (some (.inl 8, 0)))), some (.inl v1), some (.inl v2), some (.inl v3), some (.inl v4), some (.inl v5), some (.inl v6)] [.inl s0, .inr (.inr (some (.inl 8, 0)))] (L, zB1, I, J) = cI (C 149 [.inr (.inr (some (.inl 8, 0))), .inl s0] (L, zB1, I, J)) (fun r σ => zgo X C (some .int) kX8_who 106 [some (.inr (.inr (some (.inl 8, 0)))), some (.inl v1), some (.inl v2), some (.inl v3), some (.inl v4), some (.inl v5), some (.inl v6)] [.inl r] σ) := by
  rw [zgo_run X C _ _ [0, 8, 17, 27, 45, 58, 76, 95, 103, 106, 123, 136, 146, 149] 2]
  rfl
set_option maxRecDepth 100000 in
theorem bX8_who_106 (X : Nat → Nat → Int32) (C : Nat → List zV → zS → Option zR) (L : List zK) (I : Nat → Nat → Int32) (J : Nat → Nat → Int64) (v1 : Int32) (v2 : Int32) (v3 : Int32) (v4 : Int32) (v5 : Int32) (v6 : Int32) (s0 : Int32) : zgo X C (some .int) kX8_who 106 [some (.inr (.inr (some (.inl 8, 0)))), some (.inl v1), some (.inl v2), some (.inl v3), some (.inl v4), some (.inl v5), some (.inl v6)] [.inl s0] (L, zB1, I, J) = some (some (.inl s0), (L, zB1, I, J)) := by
  rw [zgo_run X C _ _ [0, 8, 17, 27, 45, 58, 76, 95, 103, 106, 123, 136, 146, 149] 2]
  rfl
set_option maxRecDepth 100000 in
theorem bX8_who_123 (X : Nat → Nat → Int32) (C : Nat → List zV → zS → Option zR) (L : List zK) (I : Nat → Nat → Int32) (J : Nat → Nat → Int64) (v1 : Int32) (v2 : Int32) (v3 : Int32) (v4 : Int32) (v5 : Int32) (v6 : Int32) : zgo X C (some .int) kX8_who 123 [some (.inr (.inr (some (.inl 8, 0)))), some (.inl v1), some (.inl v2), some (.inl v3), some (.inl v4), some (.inl v5), some (.inl v6)] [] (L, zB1, I, J) = if v2 = 1 then cI (C 40 [.inr (.inr (some (.inl 2, 254)))] (L, zB1, I, J)) (fun r σ => zgo X C (some .int) kX8_who 136 [some (.inr (.inr (some (.inl 8, 0)))), some (.inl v1), some (.inl v2), some (.inl v3), some (.inl v4), some (.inl v5), some (.inl v6)] [.inl r, .inr (.inr (some (.inl 8, 0)))] σ) else cI (C 41 [.inr (.inr (some (.inl 2, 254)))] (L, zB1, I, J)) (fun r σ => zgo X C (some .int) kX8_who 146 [some (.inr (.inr (some (.inl 8, 0)))), some (.inl v1), some (.inl v2), some (.inl v3), some (.inl v4), some (.inl v5), some (.inl v6)] [.inl r, .inr (.inr (some (.inl 8, 0)))] σ) := by
  rw [zgo_run X C _ _ [0, 8, 17, 27, 45, 58, 76, 95, 103, 106, 123, 136, 146, 149] 8]
  rfl
set_option maxRecDepth 100000 in
theorem bX8_who_136 (X : Nat → Nat → Int32) (C : Nat → List zV → zS → Option zR) (L : List zK) (I : Nat → Nat → Int32) (J : Nat → Nat → Int64) (v1 : Int32) (v2 : Int32) (v3 : Int32) (v4 : Int32) (v5 : Int32) (v6 : Int32) (s0 : Int32) : zgo X C (some .int) kX8_who 136 [some (.inr (.inr (some (.inl 8, 0)))), some (.inl v1), some (.inl v2), some (.inl v3), some (.inl v4), some (.inl v5), some (.inl v6)] [.inl s0, .inr (.inr (some (.inl 8, 0)))] (L, zB1, I, J) = zgo X C (some .int) kX8_who 146 [some (.inr (.inr (some (.inl 8, 0)))), some (.inl v1), some (.inl v2), some (.inl v3), some (.inl v4), some (.inl v5), some (.inl v6)] [.inl s0, .inr (.inr (some (.inl 8, 0)))] (L, zB1, I, J) := by
  rw [zgo_run X C _ _ [0, 8, 17, 27, 45, 58, 76, 95, 103, 106, 123, 136, 146, 149] 2]
  rfl
set_option maxRecDepth 100000 in
theorem bX8_who_146 (X : Nat → Nat → Int32) (C : Nat → List zV → zS → Option zR) (L : List zK) (I : Nat → Nat → Int32) (J : Nat → Nat → Int64) (v1 : Int32) (v2 : Int32) (v3 : Int32) (v4 : Int32) (v5 : Int32) (v6 : Int32) (s0 : Int32) : zgo X C (some .int) kX8_who 146 [some (.inr (.inr (some (.inl 8, 0)))), some (.inl v1), some (.inl v2), some (.inl v3), some (.inl v4), some (.inl v5), some (.inl v6)] [.inl s0, .inr (.inr (some (.inl 8, 0)))] (L, zB1, I, J) = cI (C 149 [.inr (.inr (some (.inl 8, 0))), .inl s0] (L, zB1, I, J)) (fun r σ => zgo X C (some .int) kX8_who 149 [some (.inr (.inr (some (.inl 8, 0)))), some (.inl v1), some (.inl v2), some (.inl v3), some (.inl v4), some (.inl v5), some (.inl v6)] [.inl r] σ) := by
  rw [zgo_run X C _ _ [0, 8, 17, 27, 45, 58, 76, 95, 103, 106, 123, 136, 146, 149] 2]
  rfl
set_option maxRecDepth 100000 in
theorem bX8_who_149 (X : Nat → Nat → Int32) (C : Nat → List zV → zS → Option zR) (L : List zK) (I : Nat → Nat → Int32) (J : Nat → Nat → Int64) (v1 : Int32) (v2 : Int32) (v3 : Int32) (v4 : Int32) (v5 : Int32) (v6 : Int32) (s0 : Int32) : zgo X C (some .int) kX8_who 149 [some (.inr (.inr (some (.inl 8, 0)))), some (.inl v1), some (.inl v2), some (.inl v3), some (.inl v4), some (.inl v5), some (.inl v6)] [.inl s0] (L, zB1, I, J) = some (some (.inl s0), (L, zB1, I, J)) := by
  rw [zgo_run X C _ _ [0, 8, 17, 27, 45, 58, 76, 95, 103, 106, 123, 136, 146, 149] 2]
  rfl

set_option maxRecDepth 100000 in
theorem bX8_severes_0 (X : Nat → Nat → Int32) (C : Nat → List zV → zS → Option zR) (L : List zK) (I : Nat → Nat → Int32) (J : Nat → Nat → Int64) (a1 : Int32) (a2 : Int32) (a3 : Int32) (a4 : Int32) (a5 : Int32) : zgo X C (some .int) kX8_severes 0 [some (.inr (.inr (some (.inl 8, 0)))), some (.inl a1), some (.inl a2), some (.inl a3), some (.inl a4), some (.inl a5), none] [] (L, zB1, I, J) = cI (C 17 [.inr (.inr (some (.inl 1, 13))), .inl a1] (L, zB1, I, J)) (fun r σ => zgo X C (some .int) kX8_severes 8 [some (.inr (.inr (some (.inl 8, 0)))), some (.inl a1), some (.inl a2), some (.inl a3), some (.inl a4), some (.inl a5), none] [.inl r] σ) := by
  rw [zgo_run X C _ _ [0, 8, 19, 29, 47, 60, 78, 94, 102, 105] 5]
  rfl
set_option maxRecDepth 100000 in
theorem bX8_severes_8 (X : Nat → Nat → Int32) (C : Nat → List zV → zS → Option zR) (L : List zK) (I : Nat → Nat → Int32) (J : Nat → Nat → Int64) (v1 : Int32) (v2 : Int32) (v3 : Int32) (v4 : Int32) (v5 : Int32) (s0 : Int32) : zgo X C (some .int) kX8_severes 8 [some (.inr (.inr (some (.inl 8, 0)))), some (.inl v1), some (.inl v2), some (.inl v3), some (.inl v4), some (.inl v5), none] [.inl s0] (L, zB1, I, J) = if s0 = 0 then some (some (.inl (-1000001)), (L, zB1, I, J)) else cI (C 16 [.inr (.inr (some (.inl 1, 13))), .inl v2] (L, zB1, I, J)) (fun r σ => zgo X C (some .int) kX8_severes 19 [some (.inr (.inr (some (.inl 8, 0)))), some (.inl v1), some (.inl v2), some (.inl v3), some (.inl v4), some (.inl v5), none] [.inl r] σ) := by
  rw [zgo_run X C _ _ [0, 8, 19, 29, 47, 60, 78, 94, 102, 105] 6]
  rfl
set_option maxRecDepth 100000 in
theorem bX8_severes_19 (X : Nat → Nat → Int32) (C : Nat → List zV → zS → Option zR) (L : List zK) (I : Nat → Nat → Int32) (J : Nat → Nat → Int64) (v1 : Int32) (v2 : Int32) (v3 : Int32) (v4 : Int32) (v5 : Int32) (s0 : Int32) : zgo X C (some .int) kX8_severes 19 [some (.inr (.inr (some (.inl 8, 0)))), some (.inl v1), some (.inl v2), some (.inl v3), some (.inl v4), some (.inl v5), none] [.inl s0] (L, zB1, I, J) = if s0 = 0 then some (some (.inl (-1000001)), (L, zB1, I, J)) else cI (C 147 [.inr (.inr (some (.inl 8, 0))), .inl v3, .inl v5] (L, zB1, I, J)) (fun r σ => zgo X C (some .int) kX8_severes 29 [some (.inr (.inr (some (.inl 8, 0)))), some (.inl v1), some (.inl v2), some (.inl v3), some (.inl v4), some (.inl v5), none] [.inl r] σ) := by
  rw [zgo_run X C _ _ [0, 8, 19, 29, 47, 60, 78, 94, 102, 105] 6]
  rfl
set_option maxRecDepth 100000 in
theorem bX8_severes_29 (X : Nat → Nat → Int32) (C : Nat → List zV → zS → Option zR) (L : List zK) (I : Nat → Nat → Int32) (J : Nat → Nat → Int64) (v1 : Int32) (v2 : Int32) (v3 : Int32) (v4 : Int32) (v5 : Int32) (s0 : Int32) : zgo X C (some .int) kX8_severes 29 [some (.inr (.inr (some (.inl 8, 0)))), some (.inl v1), some (.inl v2), some (.inl v3), some (.inl v4), some (.inl v5), none] [.inl s0] (L, zB1, I, J) = if s0 = 0 then some (some (.inl (-1000001)), (L, zB1, I, J)) else cI (C 76 [.inr (.inr (some (.inl 6, 1))), .inl v3, .inl v4, .inl v5] (L, zB1, I, J)) (fun r σ => zgo X C (some .int) kX8_severes 47 [some (.inr (.inr (some (.inl 8, 0)))), some (.inl v1), some (.inl v2), some (.inl v3), some (.inl v4), some (.inl v5), none] [.inl r] σ) := by
  rw [zgo_run X C _ _ [0, 8, 19, 29, 47, 60, 78, 94, 102, 105] 8]
  rfl
set_option maxRecDepth 100000 in
theorem bX8_severes_47 (X : Nat → Nat → Int32) (C : Nat → List zV → zS → Option zR) (L : List zK) (I : Nat → Nat → Int32) (J : Nat → Nat → Int64) (v1 : Int32) (v2 : Int32) (v3 : Int32) (v4 : Int32) (v5 : Int32) (s0 : Int32) : zgo X C (some .int) kX8_severes 47 [some (.inr (.inr (some (.inl 8, 0)))), some (.inl v1), some (.inl v2), some (.inl v3), some (.inl v4), some (.inl v5), none] [.inl s0] (L, zB1, I, J) = if s0 = 0 then cV (C 35 [.inr (.inr (some (.inl 2, 254))), .inl v2, .inr (.inr (some (.inl 6, 1))), .inl v3, .inl v4, .inl v5] (L, zB1, I, J)) (fun σ => zgo X C (some .int) kX8_severes 78 [some (.inr (.inr (some (.inl 8, 0)))), some (.inl v1), some (.inl v2), some (.inl v3), some (.inl v4), some (.inl v5), some (.inl s0)] [] σ) else cI (C 148 [.inr (.inr (some (.inl 8, 0))), .inl s0] (L, zB1, I, J)) (fun r σ => zgo X C (some .int) kX8_severes 60 [some (.inr (.inr (some (.inl 8, 0)))), some (.inl v1), some (.inl v2), some (.inl v3), some (.inl v4), some (.inl v5), some (.inl s0)] [.inl r] σ) := by
  rw [zgo_run X C _ _ [0, 8, 19, 29, 47, 60, 78, 94, 102, 105] 13]
  rfl
set_option maxRecDepth 100000 in
theorem bX8_severes_60 (X : Nat → Nat → Int32) (C : Nat → List zV → zS → Option zR) (L : List zK) (I : Nat → Nat → Int32) (J : Nat → Nat → Int64) (v1 : Int32) (v2 : Int32) (v3 : Int32) (v4 : Int32) (v5 : Int32) (v6 : Int32) (s0 : Int32) : zgo X C (some .int) kX8_severes 60 [some (.inr (.inr (some (.inl 8, 0)))), some (.inl v1), some (.inl v2), some (.inl v3), some (.inl v4), some (.inl v5), some (.inl v6)] [.inl s0] (L, zB1, I, J) = some (some (.inl s0), (L, zB1, I, J)) := by
  rw [zgo_run X C _ _ [0, 8, 19, 29, 47, 60, 78, 94, 102, 105] 2]
  rfl
set_option maxRecDepth 100000 in
theorem bX8_severes_78 (X : Nat → Nat → Int32) (C : Nat → List zV → zS → Option zR) (L : List zK) (I : Nat → Nat → Int32) (J : Nat → Nat → Int64) (v1 : Int32) (v2 : Int32) (v3 : Int32) (v4 : Int32) (v5 : Int32) (v6 : Int32) : zgo X C (some .int) kX8_severes 78 [some (.inr (.inr (some (.inl 8, 0)))), some (.inl v1), some (.inl v2), some (.inl v3), some (.inl v4), some (.inl v5), some (.inl v6)] [] (L, zB1, I, J) = cV (C 36 [.inr (.inr (some (.inl 2, 254))), .inr (.inr (some (.inl 1, 13))), .inl 2, .inl v1, .inl 0, .inl 9] (L, zB1, I, J)) (fun σ => zgo X C (some .int) kX8_severes 94 [some (.inr (.inr (some (.inl 8, 0)))), some (.inl v1), some (.inl v2), some (.inl v3), some (.inl v4), some (.inl v5), some (.inl v6)] [] σ) := by
  rw [zgo_run X C _ _ [0, 8, 19, 29, 47, 60, 78, 94, 102, 105] 10]
  rfl
set_option maxRecDepth 100000 in
theorem bX8_severes_94 (X : Nat → Nat → Int32) (C : Nat → List zV → zS → Option zR) (L : List zK) (I : Nat → Nat → Int32) (J : Nat → Nat → Int64) (v1 : Int32) (v2 : Int32) (v3 : Int32) (v4 : Int32) (v5 : Int32) (v6 : Int32) : zgo X C (some .int) kX8_severes 94 [some (.inr (.inr (some (.inl 8, 0)))), some (.inl v1), some (.inl v2), some (.inl v3), some (.inl v4), some (.inl v5), some (.inl v6)] [] (L, zB1, I, J) = cI (C 39 [.inr (.inr (some (.inl 2, 254)))] (L, zB1, I, J)) (fun r σ => zgo X C (some .int) kX8_severes 102 [some (.inr (.inr (some (.inl 8, 0)))), some (.inl v1), some (.inl v2), some (.inl v3), some (.inl v4), some (.inl v5), some (.inl v6)] [.inl r, .inr (.inr (some (.inl 8, 0)))] σ) := by
  rw [zgo_run X C _ _ [0, 8, 19, 29, 47, 60, 78, 94, 102, 105] 5]
  rfl
set_option maxRecDepth 100000 in
theorem bX8_severes_102 (X : Nat → Nat → Int32) (C : Nat → List zV → zS → Option zR) (L : List zK) (I : Nat → Nat → Int32) (J : Nat → Nat → Int64) (v1 : Int32) (v2 : Int32) (v3 : Int32) (v4 : Int32) (v5 : Int32) (v6 : Int32) (s0 : Int32) : zgo X C (some .int) kX8_severes 102 [some (.inr (.inr (some (.inl 8, 0)))), some (.inl v1), some (.inl v2), some (.inl v3), some (.inl v4), some (.inl v5), some (.inl v6)] [.inl s0, .inr (.inr (some (.inl 8, 0)))] (L, zB1, I, J) = cI (C 149 [.inr (.inr (some (.inl 8, 0))), .inl s0] (L, zB1, I, J)) (fun r σ => zgo X C (some .int) kX8_severes 105 [some (.inr (.inr (some (.inl 8, 0)))), some (.inl v1), some (.inl v2), some (.inl v3), some (.inl v4), some (.inl v5), some (.inl v6)] [.inl r] σ) := by
  rw [zgo_run X C _ _ [0, 8, 19, 29, 47, 60, 78, 94, 102, 105] 2]
  rfl
set_option maxRecDepth 100000 in
theorem bX8_severes_105 (X : Nat → Nat → Int32) (C : Nat → List zV → zS → Option zR) (L : List zK) (I : Nat → Nat → Int32) (J : Nat → Nat → Int64) (v1 : Int32) (v2 : Int32) (v3 : Int32) (v4 : Int32) (v5 : Int32) (v6 : Int32) (s0 : Int32) : zgo X C (some .int) kX8_severes 105 [some (.inr (.inr (some (.inl 8, 0)))), some (.inl v1), some (.inl v2), some (.inl v3), some (.inl v4), some (.inl v5), some (.inl v6)] [.inl s0] (L, zB1, I, J) = some (some (.inl s0), (L, zB1, I, J)) := by
  rw [zgo_run X C _ _ [0, 8, 19, 29, 47, 60, 78, 94, 102, 105] 2]
  rfl

set_option maxRecDepth 100000 in
theorem bX8_likes_0 (X : Nat → Nat → Int32) (C : Nat → List zV → zS → Option zR) (L : List zK) (I : Nat → Nat → Int32) (J : Nat → Nat → Int64) (a1 : Int32) (a2 : Int32) (a3 : Int32) (a4 : Int32) (a5 : Int32) : zgo X C (some .int) kX8_likes 0 [some (.inr (.inr (some (.inl 8, 0)))), some (.inl a1), some (.inl a2), some (.inl a3), some (.inl a4), some (.inl a5), none] [] (L, zB1, I, J) = cI (C 16 [.inr (.inr (some (.inl 1, 13))), .inl a1] (L, zB1, I, J)) (fun r σ => zgo X C (some .int) kX8_likes 8 [some (.inr (.inr (some (.inl 8, 0)))), some (.inl a1), some (.inl a2), some (.inl a3), some (.inl a4), some (.inl a5), none] [.inl r] σ) := by
  rw [zgo_run X C _ _ [0, 8, 17, 27, 45, 58, 76, 92, 104, 114, 117] 5]
  rfl
set_option maxRecDepth 100000 in
theorem bX8_likes_8 (X : Nat → Nat → Int32) (C : Nat → List zV → zS → Option zR) (L : List zK) (I : Nat → Nat → Int32) (J : Nat → Nat → Int64) (v1 : Int32) (v2 : Int32) (v3 : Int32) (v4 : Int32) (v5 : Int32) (s0 : Int32) : zgo X C (some .int) kX8_likes 8 [some (.inr (.inr (some (.inl 8, 0)))), some (.inl v1), some (.inl v2), some (.inl v3), some (.inl v4), some (.inl v5), none] [.inl s0] (L, zB1, I, J) = if s0 = 0 then some (some (.inl (-1000001)), (L, zB1, I, J)) else cI (C 150 [.inl v2, .inl 0, .inl 1] (L, zB1, I, J)) (fun r σ => zgo X C (some .int) kX8_likes 17 [some (.inr (.inr (some (.inl 8, 0)))), some (.inl v1), some (.inl v2), some (.inl v3), some (.inl v4), some (.inl v5), none] [.inl r] σ) := by
  rw [zgo_run X C _ _ [0, 8, 17, 27, 45, 58, 76, 92, 104, 114, 117] 6]
  rfl
set_option maxRecDepth 100000 in
theorem bX8_likes_17 (X : Nat → Nat → Int32) (C : Nat → List zV → zS → Option zR) (L : List zK) (I : Nat → Nat → Int32) (J : Nat → Nat → Int64) (v1 : Int32) (v2 : Int32) (v3 : Int32) (v4 : Int32) (v5 : Int32) (s0 : Int32) : zgo X C (some .int) kX8_likes 17 [some (.inr (.inr (some (.inl 8, 0)))), some (.inl v1), some (.inl v2), some (.inl v3), some (.inl v4), some (.inl v5), none] [.inl s0] (L, zB1, I, J) = if s0 = 0 then some (some (.inl (-1000001)), (L, zB1, I, J)) else cI (C 147 [.inr (.inr (some (.inl 8, 0))), .inl v3, .inl v5] (L, zB1, I, J)) (fun r σ => zgo X C (some .int) kX8_likes 27 [some (.inr (.inr (some (.inl 8, 0)))), some (.inl v1), some (.inl v2), some (.inl v3), some (.inl v4), some (.inl v5), none] [.inl r] σ) := by
  rw [zgo_run X C _ _ [0, 8, 17, 27, 45, 58, 76, 92, 104, 114, 117] 6]
  rfl
set_option maxRecDepth 100000 in
theorem bX8_likes_27 (X : Nat → Nat → Int32) (C : Nat → List zV → zS → Option zR) (L : List zK) (I : Nat → Nat → Int32) (J : Nat → Nat → Int64) (v1 : Int32) (v2 : Int32) (v3 : Int32) (v4 : Int32) (v5 : Int32) (s0 : Int32) : zgo X C (some .int) kX8_likes 27 [some (.inr (.inr (some (.inl 8, 0)))), some (.inl v1), some (.inl v2), some (.inl v3), some (.inl v4), some (.inl v5), none] [.inl s0] (L, zB1, I, J) = if s0 = 0 then some (some (.inl (-1000001)), (L, zB1, I, J)) else cI (C 76 [.inr (.inr (some (.inl 6, 1))), .inl v3, .inl v4, .inl v5] (L, zB1, I, J)) (fun r σ => zgo X C (some .int) kX8_likes 45 [some (.inr (.inr (some (.inl 8, 0)))), some (.inl v1), some (.inl v2), some (.inl v3), some (.inl v4), some (.inl v5), none] [.inl r] σ) := by
  rw [zgo_run X C _ _ [0, 8, 17, 27, 45, 58, 76, 92, 104, 114, 117] 8]
  rfl
set_option maxRecDepth 100000 in
theorem bX8_likes_45 (X : Nat → Nat → Int32) (C : Nat → List zV → zS → Option zR) (L : List zK) (I : Nat → Nat → Int32) (J : Nat → Nat → Int64) (v1 : Int32) (v2 : Int32) (v3 : Int32) (v4 : Int32) (v5 : Int32) (s0 : Int32) : zgo X C (some .int) kX8_likes 45 [some (.inr (.inr (some (.inl 8, 0)))), some (.inl v1), some (.inl v2), some (.inl v3), some (.inl v4), some (.inl v5), none] [.inl s0] (L, zB1, I, J) = if s0 = 0 then cV (C 35 [.inr (.inr (some (.inl 2, 254))), .inl v1, .inr (.inr (some (.inl 6, 1))), .inl v3, .inl v4, .inl v5] (L, zB1, I, J)) (fun σ => zgo X C (some .int) kX8_likes 76 [some (.inr (.inr (some (.inl 8, 0)))), some (.inl v1), some (.inl v2), some (.inl v3), some (.inl v4), some (.inl v5), some (.inl s0)] [] σ) else cI (C 148 [.inr (.inr (some (.inl 8, 0))), .inl s0] (L, zB1, I, J)) (fun r σ => zgo X C (some .int) kX8_likes 58 [some (.inr (.inr (some (.inl 8, 0)))), some (.inl v1), some (.inl v2), some (.inl v3), some (.inl v4), some (.inl v5), some (.inl s0)] [.inl r] σ) := by
  rw [zgo_run X C _ _ [0, 8, 17, 27, 45, 58, 76, 92, 104, 114, 117] 13]
  rfl
set_option maxRecDepth 100000 in
theorem bX8_likes_58 (X : Nat → Nat → Int32) (C : Nat → List zV → zS → Option zR) (L : List zK) (I : Nat → Nat → Int32) (J : Nat → Nat → Int64) (v1 : Int32) (v2 : Int32) (v3 : Int32) (v4 : Int32) (v5 : Int32) (v6 : Int32) (s0 : Int32) : zgo X C (some .int) kX8_likes 58 [some (.inr (.inr (some (.inl 8, 0)))), some (.inl v1), some (.inl v2), some (.inl v3), some (.inl v4), some (.inl v5), some (.inl v6)] [.inl s0] (L, zB1, I, J) = some (some (.inl s0), (L, zB1, I, J)) := by
  rw [zgo_run X C _ _ [0, 8, 17, 27, 45, 58, 76, 92, 104, 114, 117] 2]
  rfl
set_option maxRecDepth 100000 in
theorem bX8_likes_76 (X : Nat → Nat → Int32) (C : Nat → List zV → zS → Option zR) (L : List zK) (I : Nat → Nat → Int32) (J : Nat → Nat → Int64) (v1 : Int32) (v2 : Int32) (v3 : Int32) (v4 : Int32) (v5 : Int32) (v6 : Int32) : zgo X C (some .int) kX8_likes 76 [some (.inr (.inr (some (.inl 8, 0)))), some (.inl v1), some (.inl v2), some (.inl v3), some (.inl v4), some (.inl v5), some (.inl v6)] [] (L, zB1, I, J) = cV (C 36 [.inr (.inr (some (.inl 2, 254))), .inr (.inr (some (.inl 1, 13))), .inl 3, .inl v1, .inl 1, .inl 60] (L, zB1, I, J)) (fun σ => zgo X C (some .int) kX8_likes 92 [some (.inr (.inr (some (.inl 8, 0)))), some (.inl v1), some (.inl v2), some (.inl v3), some (.inl v4), some (.inl v5), some (.inl v6)] [] σ) := by
  rw [zgo_run X C _ _ [0, 8, 17, 27, 45, 58, 76, 92, 104, 114, 117] 10]
  rfl
set_option maxRecDepth 100000 in
theorem bX8_likes_92 (X : Nat → Nat → Int32) (C : Nat → List zV → zS → Option zR) (L : List zK) (I : Nat → Nat → Int32) (J : Nat → Nat → Int64) (v1 : Int32) (v2 : Int32) (v3 : Int32) (v4 : Int32) (v5 : Int32) (v6 : Int32) : zgo X C (some .int) kX8_likes 92 [some (.inr (.inr (some (.inl 8, 0)))), some (.inl v1), some (.inl v2), some (.inl v3), some (.inl v4), some (.inl v5), some (.inl v6)] [] (L, zB1, I, J) = if v2 = 0 then cI (C 40 [.inr (.inr (some (.inl 2, 254)))] (L, zB1, I, J)) (fun r σ => zgo X C (some .int) kX8_likes 104 [some (.inr (.inr (some (.inl 8, 0)))), some (.inl v1), some (.inl v2), some (.inl v3), some (.inl v4), some (.inl v5), some (.inl v6)] [.inl r, .inr (.inr (some (.inl 8, 0)))] σ) else cI (C 41 [.inr (.inr (some (.inl 2, 254)))] (L, zB1, I, J)) (fun r σ => zgo X C (some .int) kX8_likes 114 [some (.inr (.inr (some (.inl 8, 0)))), some (.inl v1), some (.inl v2), some (.inl v3), some (.inl v4), some (.inl v5), some (.inl v6)] [.inl r, .inr (.inr (some (.inl 8, 0)))] σ) := by
  rw [zgo_run X C _ _ [0, 8, 17, 27, 45, 58, 76, 92, 104, 114, 117] 7]
  rfl
set_option maxRecDepth 100000 in
theorem bX8_likes_104 (X : Nat → Nat → Int32) (C : Nat → List zV → zS → Option zR) (L : List zK) (I : Nat → Nat → Int32) (J : Nat → Nat → Int64) (v1 : Int32) (v2 : Int32) (v3 : Int32) (v4 : Int32) (v5 : Int32) (v6 : Int32) (s0 : Int32) : zgo X C (some .int) kX8_likes 104 [some (.inr (.inr (some (.inl 8, 0)))), some (.inl v1), some (.inl v2), some (.inl v3), some (.inl v4), some (.inl v5), some (.inl v6)] [.inl s0, .inr (.inr (some (.inl 8, 0)))] (L, zB1, I, J) = zgo X C (some .int) kX8_likes 114 [some (.inr (.inr (some (.inl 8, 0)))), some (.inl v1), some (.inl v2), some (.inl v3), some (.inl v4), some (.inl v5), some (.inl v6)] [.inl s0, .inr (.inr (some (.inl 8, 0)))] (L, zB1, I, J) := by
  rw [zgo_run X C _ _ [0, 8, 17, 27, 45, 58, 76, 92, 104, 114, 117] 2]
  rfl
set_option maxRecDepth 100000 in
theorem bX8_likes_114 (X : Nat → Nat → Int32) (C : Nat → List zV → zS → Option zR) (L : List zK) (I : Nat → Nat → Int32) (J : Nat → Nat → Int64) (v1 : Int32) (v2 : Int32) (v3 : Int32) (v4 : Int32) (v5 : Int32) (v6 : Int32) (s0 : Int32) : zgo X C (some .int) kX8_likes 114 [some (.inr (.inr (some (.inl 8, 0)))), some (.inl v1), some (.inl v2), some (.inl v3), some (.inl v4), some (.inl v5), some (.inl v6)] [.inl s0, .inr (.inr (some (.inl 8, 0)))] (L, zB1, I, J) = cI (C 149 [.inr (.inr (some (.inl 8, 0))), .inl s0] (L, zB1, I, J)) (fun r σ => zgo X C (some .int) kX8_likes 117 [some (.inr (.inr (some (.inl 8, 0)))), some (.inl v1), some (.inl v2), some (.inl v3), some (.inl v4), some (.inl v5), some (.inl v6)] [.inl r] σ) := by
  rw [zgo_run X C _ _ [0, 8, 17, 27, 45, 58, 76, 92, 104, 114, 117] 2]
  rfl
set_option maxRecDepth 100000 in
theorem bX8_likes_117 (X : Nat → Nat → Int32) (C : Nat → List zV → zS → Option zR) (L : List zK) (I : Nat → Nat → Int32) (J : Nat → Nat → Int64) (v1 : Int32) (v2 : Int32) (v3 : Int32) (v4 : Int32) (v5 : Int32) (v6 : Int32) (s0 : Int32) : zgo X C (some .int) kX8_likes 117 [some (.inr (.inr (some (.inl 8, 0)))), some (.inl v1), some (.inl v2), some (.inl v3), some (.inl v4), some (.inl v5), some (.inl v6)] [.inl s0] (L, zB1, I, J) = some (some (.inl s0), (L, zB1, I, J)) := by
  rw [zgo_run X C _ _ [0, 8, 17, 27, 45, 58, 76, 92, 104, 114, 117] 2]
  rfl

set_option maxRecDepth 100000 in
theorem bX8_fence_0 (X : Nat → Nat → Int32) (C : Nat → List zV → zS → Option zR) (L : List zK) (I : Nat → Nat → Int32) (J : Nat → Nat → Int64) (a1 : Int32) (a2 : Int32) (a3 : Int32) (a4 : Int32) : zgo X C (some .long) kX8_fence 0 [some (.inr (.inr (some (.inl 8, 0)))), some (.inl a1), some (.inl a2), some (.inl a3), some (.inl a4)] [] (L, zB1, I, J) = cI (C 16 [.inr (.inr (some (.inl 1, 13))), .inl a1] (L, zB1, I, J)) (fun r σ => zgo X C (some .long) kX8_fence 8 [some (.inr (.inr (some (.inl 8, 0)))), some (.inl a1), some (.inl a2), some (.inl a3), some (.inl a4)] [.inl r] σ) := by
  rw [zgo_run X C _ _ [0, 8, 18, 32, 42, 63, 75, 85] 5]
  rfl
set_option maxRecDepth 100000 in
theorem bX8_fence_8 (X : Nat → Nat → Int32) (C : Nat → List zV → zS → Option zR) (L : List zK) (I : Nat → Nat → Int32) (J : Nat → Nat → Int64) (v1 : Int32) (v2 : Int32) (v3 : Int32) (v4 : Int32) (s0 : Int32) : zgo X C (some .long) kX8_fence 8 [some (.inr (.inr (some (.inl 8, 0)))), some (.inl v1), some (.inl v2), some (.inl v3), some (.inl v4)] [.inl s0] (L, zB1, I, J) = if s0 = 0 then some (some (.inr (.inl (-1000001))), (L, zB1, I, J)) else cI (C 150 [.inl v2, .inl 0, .inl 8] (L, zB1, I, J)) (fun r σ => zgo X C (some .long) kX8_fence 18 [some (.inr (.inr (some (.inl 8, 0)))), some (.inl v1), some (.inl v2), some (.inl v3), some (.inl v4)] [.inl r] σ) := by
  rw [zgo_run X C _ _ [0, 8, 18, 32, 42, 63, 75, 85] 6]
  rfl
set_option maxRecDepth 100000 in
theorem bX8_fence_18 (X : Nat → Nat → Int32) (C : Nat → List zV → zS → Option zR) (L : List zK) (I : Nat → Nat → Int32) (J : Nat → Nat → Int64) (v1 : Int32) (v2 : Int32) (v3 : Int32) (v4 : Int32) (s0 : Int32) : zgo X C (some .long) kX8_fence 18 [some (.inr (.inr (some (.inl 8, 0)))), some (.inl v1), some (.inl v2), some (.inl v3), some (.inl v4)] [.inl s0] (L, zB1, I, J) = if s0 = 0 then some (some (.inr (.inl (-1000001))), (L, zB1, I, J)) else cI (C 150 [.inl v3, .inl 0, .inl 10] (L, zB1, I, J)) (fun r σ => zgo X C (some .long) kX8_fence 32 [some (.inr (.inr (some (.inl 8, 0)))), some (.inl v1), some (.inl v2), some (.inl v3), some (.inl v4)] [.inl r] σ) := by
  rw [zgo_run X C _ _ [0, 8, 18, 32, 42, 63, 75, 85] 6]
  rfl
set_option maxRecDepth 100000 in
theorem bX8_fence_32 (X : Nat → Nat → Int32) (C : Nat → List zV → zS → Option zR) (L : List zK) (I : Nat → Nat → Int32) (J : Nat → Nat → Int64) (v1 : Int32) (v2 : Int32) (v3 : Int32) (v4 : Int32) (s0 : Int32) : zgo X C (some .long) kX8_fence 32 [some (.inr (.inr (some (.inl 8, 0)))), some (.inl v1), some (.inl v2), some (.inl v3), some (.inl v4)] [.inl s0] (L, zB1, I, J) = if s0 = 0 then some (some (.inr (.inl (-1000001))), (L, zB1, I, J)) else cI (C 150 [.inl v4, .inl 0, .inl 1] (L, zB1, I, J)) (fun r σ => zgo X C (some .long) kX8_fence 42 [some (.inr (.inr (some (.inl 8, 0)))), some (.inl v1), some (.inl v2), some (.inl v3), some (.inl v4)] [.inl r] σ) := by
  rw [zgo_run X C _ _ [0, 8, 18, 32, 42, 63, 75, 85] 6]
  rfl
set_option maxRecDepth 100000 in
theorem bX8_fence_42 (X : Nat → Nat → Int32) (C : Nat → List zV → zS → Option zR) (L : List zK) (I : Nat → Nat → Int32) (J : Nat → Nat → Int64) (v1 : Int32) (v2 : Int32) (v3 : Int32) (v4 : Int32) (s0 : Int32) : zgo X C (some .long) kX8_fence 42 [some (.inr (.inr (some (.inl 8, 0)))), some (.inl v1), some (.inl v2), some (.inl v3), some (.inl v4)] [.inl s0] (L, zB1, I, J) = if s0 = 0 then some (some (.inr (.inl (-1000001))), (L, zB1, I, J)) else cV (C 45 [.inr (.inr (some (.inl 3, 225))), .inr (.inr (some (.inl 1, 13))), .inl v1, .inl v2, .inl v3] (L, zB1, I, J)) (fun σ => zgo X C (some .long) kX8_fence 63 [some (.inr (.inr (some (.inl 8, 0)))), some (.inl v1), some (.inl v2), some (.inl v3), some (.inl v4)] [] σ) := by
  rw [zgo_run X C _ _ [0, 8, 18, 32, 42, 63, 75, 85] 10]
  rfl
set_option maxRecDepth 100000 in
theorem bX8_fence_63 (X : Nat → Nat → Int32) (C : Nat → List zV → zS → Option zR) (L : List zK) (I : Nat → Nat → Int32) (J : Nat → Nat → Int64) (v1 : Int32) (v2 : Int32) (v3 : Int32) (v4 : Int32) : zgo X C (some .long) kX8_fence 63 [some (.inr (.inr (some (.inl 8, 0)))), some (.inl v1), some (.inl v2), some (.inl v3), some (.inl v4)] [] (L, zB1, I, J) = if v4 = 0 then cJ (C 48 [.inr (.inr (some (.inl 3, 225)))] (L, zB1, I, J)) (fun r σ => zgo X C (some .long) kX8_fence 75 [some (.inr (.inr (some (.inl 8, 0)))), some (.inl v1), some (.inl v2), some (.inl v3), some (.inl v4)] [.inr (.inl r)] σ) else cJ (C 49 [.inr (.inr (some (.inl 3, 225)))] (L, zB1, I, J)) (fun r σ => zgo X C (some .long) kX8_fence 85 [some (.inr (.inr (some (.inl 8, 0)))), some (.inl v1), some (.inl v2), some (.inl v3), some (.inl v4)] [.inr (.inl r)] σ) := by
  rw [zgo_run X C _ _ [0, 8, 18, 32, 42, 63, 75, 85] 6]
  rfl
set_option maxRecDepth 100000 in
theorem bX8_fence_75 (X : Nat → Nat → Int32) (C : Nat → List zV → zS → Option zR) (L : List zK) (I : Nat → Nat → Int32) (J : Nat → Nat → Int64) (v1 : Int32) (v2 : Int32) (v3 : Int32) (v4 : Int32) (s0 : Int64) : zgo X C (some .long) kX8_fence 75 [some (.inr (.inr (some (.inl 8, 0)))), some (.inl v1), some (.inl v2), some (.inl v3), some (.inl v4)] [.inr (.inl s0)] (L, zB1, I, J) = zgo X C (some .long) kX8_fence 85 [some (.inr (.inr (some (.inl 8, 0)))), some (.inl v1), some (.inl v2), some (.inl v3), some (.inl v4)] [.inr (.inl s0)] (L, zB1, I, J) := by
  rw [zgo_run X C _ _ [0, 8, 18, 32, 42, 63, 75, 85] 2]
  rfl
set_option maxRecDepth 100000 in
theorem bX8_fence_85 (X : Nat → Nat → Int32) (C : Nat → List zV → zS → Option zR) (L : List zK) (I : Nat → Nat → Int32) (J : Nat → Nat → Int64) (v1 : Int32) (v2 : Int32) (v3 : Int32) (v4 : Int32) (s0 : Int64) : zgo X C (some .long) kX8_fence 85 [some (.inr (.inr (some (.inl 8, 0)))), some (.inl v1), some (.inl v2), some (.inl v3), some (.inl v4)] [.inr (.inl s0)] (L, zB1, I, J) = some (some (.inr (.inl s0)), (L, zB1, I, J)) := by
  rw [zgo_run X C _ _ [0, 8, 18, 32, 42, 63, 75, 85] 2]
  rfl

set_option maxRecDepth 100000 in
theorem bX8_drawn_0 (X : Nat → Nat → Int32) (C : Nat → List zV → zS → Option zR) (L : List zK) (I : Nat → Nat → Int32) (J : Nat → Nat → Int64) (a1 : Int32) (a2 : Int32) (a3 : Int32) : zgo X C (some .int) kX8_drawn 0 [some (.inr (.inr (some (.inl 8, 0)))), some (.inl a1), some (.inl a2), some (.inl a3), none] [] (L, zB1, I, J) = cI (C 146 [.inr (.inr (some (.inl 8, 0)))] (L, zB1, I, J)) (fun r σ => zgo X C (some .int) kX8_drawn 4 [some (.inr (.inr (some (.inl 8, 0)))), some (.inl a1), some (.inl a2), some (.inl a3), none] [.inl r] σ) := by
  rw [zgo_run X C _ _ [0, 4, 17, 28, 37, 56, 67, 76] 3]
  rfl
set_option maxRecDepth 100000 in
theorem bX8_drawn_4 (X : Nat → Nat → Int32) (C : Nat → List zV → zS → Option zR) (L : List zK) (I : Nat → Nat → Int32) (J : Nat → Nat → Int64) (v1 : Int32) (v2 : Int32) (v3 : Int32) (s0 : Int32) : zgo X C (some .int) kX8_drawn 4 [some (.inr (.inr (some (.inl 8, 0)))), some (.inl v1), some (.inl v2), some (.inl v3), none] [.inl s0] (L, zB1, I, J) = if s0 = 0 then some (some (.inl (-1000002)), (L, zB1, I, J)) else cI (C 150 [.inl v1, .inl 0, .inl 60] (L, zB1, I, J)) (fun r σ => zgo X C (some .int) kX8_drawn 17 [some (.inr (.inr (some (.inl 8, 0)))), some (.inl v1), some (.inl v2), some (.inl v3), none] [.inl r] σ) := by
  rw [zgo_run X C _ _ [0, 4, 17, 28, 37, 56, 67, 76] 6]
  rfl
set_option maxRecDepth 100000 in
theorem bX8_drawn_17 (X : Nat → Nat → Int32) (C : Nat → List zV → zS → Option zR) (L : List zK) (I : Nat → Nat → Int32) (J : Nat → Nat → Int64) (v1 : Int32) (v2 : Int32) (v3 : Int32) (s0 : Int32) : zgo X C (some .int) kX8_drawn 17 [some (.inr (.inr (some (.inl 8, 0)))), some (.inl v1), some (.inl v2), some (.inl v3), none] [.inl s0] (L, zB1, I, J) = if s0 = 0 then some (some (.inl (-1000001)), (L, zB1, I, J)) else cI (C 150 [.inl v2, .inl 1, .inl 999999] (L, zB1, I, J)) (fun r σ => zgo X C (some .int) kX8_drawn 28 [some (.inr (.inr (some (.inl 8, 0)))), some (.inl v1), some (.inl v2), some (.inl v3), none] [.inl r] σ) := by
  rw [zgo_run X C _ _ [0, 4, 17, 28, 37, 56, 67, 76] 6]
  rfl
set_option maxRecDepth 100000 in
theorem bX8_drawn_28 (X : Nat → Nat → Int32) (C : Nat → List zV → zS → Option zR) (L : List zK) (I : Nat → Nat → Int32) (J : Nat → Nat → Int64) (v1 : Int32) (v2 : Int32) (v3 : Int32) (s0 : Int32) : zgo X C (some .int) kX8_drawn 28 [some (.inr (.inr (some (.inl 8, 0)))), some (.inl v1), some (.inl v2), some (.inl v3), none] [.inl s0] (L, zB1, I, J) = if s0 = 0 then some (some (.inl (-1000001)), (L, zB1, I, J)) else cI (C 150 [.inl v3, .inl 0, .inl 1] (L, zB1, I, J)) (fun r σ => zgo X C (some .int) kX8_drawn 37 [some (.inr (.inr (some (.inl 8, 0)))), some (.inl v1), some (.inl v2), some (.inl v3), none] [.inl r] σ) := by
  rw [zgo_run X C _ _ [0, 4, 17, 28, 37, 56, 67, 76] 6]
  rfl
set_option maxRecDepth 100000 in
theorem bX8_drawn_37 (X : Nat → Nat → Int32) (C : Nat → List zV → zS → Option zR) (L : List zK) (I : Nat → Nat → Int32) (J : Nat → Nat → Int64) (v1 : Int32) (v2 : Int32) (v3 : Int32) (s0 : Int32) : zgo X C (some .int) kX8_drawn 37 [some (.inr (.inr (some (.inl 8, 0)))), some (.inl v1), some (.inl v2), some (.inl v3), none] [.inl s0] (L, zB1, I, J) = if s0 = 0 then some (some (.inl (-1000001)), (L, zB1, I, J)) else cQ (C 50 [.inr (.inr (some (.inl 3, 225))), .inr (.inr (some (.inl 1, 13))), .inl v1, .inl v2] (L, zB1, I, J)) (fun r σ => zgo X C (some .int) kX8_drawn 56 [some (.inr (.inr (some (.inl 8, 0)))), some (.inl v1), some (.inl v2), some (.inl v3), none] [.inr (.inr r)] σ) := by
  rw [zgo_run X C _ _ [0, 4, 17, 28, 37, 56, 67, 76] 9]
  rfl
set_option maxRecDepth 100000 in
theorem bX8_drawn_56 (X : Nat → Nat → Int32) (C : Nat → List zV → zS → Option zR) (L : List zK) (I : Nat → Nat → Int32) (J : Nat → Nat → Int64) (v1 : Int32) (v2 : Int32) (v3 : Int32) (qs0 : Nat) : zgo X C (some .int) kX8_drawn 56 [some (.inr (.inr (some (.inl 8, 0)))), some (.inl v1), some (.inl v2), some (.inl v3), none] [.inr (.inr (some (.inl 1, qs0)))] (L, zB1, I, J) = if v3 = 0 then cI (C 29 [.inr (.inr (some (.inl 1, qs0)))] (L, zB1, I, J)) (fun r σ => zgo X C (some .int) kX8_drawn 67 [some (.inr (.inr (some (.inl 8, 0)))), some (.inl v1), some (.inl v2), some (.inl v3), some (.inr (.inr (some (.inl 1, qs0))))] [.inl r] σ) else cI (C 26 [.inr (.inr (some (.inl 1, qs0))), .inl 3] (L, zB1, I, J)) (fun r σ => zgo X C (some .int) kX8_drawn 76 [some (.inr (.inr (some (.inl 8, 0)))), some (.inl v1), some (.inl v2), some (.inl v3), some (.inr (.inr (some (.inl 1, qs0))))] [.inl r] σ) := by
  rw [zgo_run X C _ _ [0, 4, 17, 28, 37, 56, 67, 76] 7]
  rfl
set_option maxRecDepth 100000 in
theorem bX8_drawn_67 (X : Nat → Nat → Int32) (C : Nat → List zV → zS → Option zR) (L : List zK) (I : Nat → Nat → Int32) (J : Nat → Nat → Int64) (v1 : Int32) (v2 : Int32) (v3 : Int32) (qv4 : Nat) (s0 : Int32) : zgo X C (some .int) kX8_drawn 67 [some (.inr (.inr (some (.inl 8, 0)))), some (.inl v1), some (.inl v2), some (.inl v3), some (.inr (.inr (some (.inl 1, qv4))))] [.inl s0] (L, zB1, I, J) = zgo X C (some .int) kX8_drawn 76 [some (.inr (.inr (some (.inl 8, 0)))), some (.inl v1), some (.inl v2), some (.inl v3), some (.inr (.inr (some (.inl 1, qv4))))] [.inl s0] (L, zB1, I, J) := by
  rw [zgo_run X C _ _ [0, 4, 17, 28, 37, 56, 67, 76] 2]
  rfl
set_option maxRecDepth 100000 in
theorem bX8_drawn_76 (X : Nat → Nat → Int32) (C : Nat → List zV → zS → Option zR) (L : List zK) (I : Nat → Nat → Int32) (J : Nat → Nat → Int64) (v1 : Int32) (v2 : Int32) (v3 : Int32) (qv4 : Nat) (s0 : Int32) : zgo X C (some .int) kX8_drawn 76 [some (.inr (.inr (some (.inl 8, 0)))), some (.inl v1), some (.inl v2), some (.inl v3), some (.inr (.inr (some (.inl 1, qv4))))] [.inl s0] (L, zB1, I, J) = some (some (.inl s0), (L, zB1, I, J)) := by
  rw [zgo_run X C _ _ [0, 4, 17, 28, 37, 56, 67, 76] 2]
  rfl

set_option maxRecDepth 100000 in
theorem bX8_image_0 (X : Nat → Nat → Int32) (C : Nat → List zV → zS → Option zR) (L : List zK) (I : Nat → Nat → Int32) (J : Nat → Nat → Int64) (a1 : Int32) : zgo X C (some .int) kX8_image 0 [some (.inr (.inr (some (.inl 8, 0)))), some (.inl a1)] [] (L, zB1, I, J) = cI (C 150 [.inl a1, .inl 0, .inl ((Int32.ofNat 2) - 1)] (L, zB1, I, J)) (fun r σ => zgo X C (some .int) kX8_image 12 [some (.inr (.inr (some (.inl 8, 0)))), some (.inl a1)] [.inl r] σ) := by
  rw [zgo_run X C _ _ [0, 12, 22, 41] 9]
  rfl
set_option maxRecDepth 100000 in
theorem bX8_image_12 (X : Nat → Nat → Int32) (C : Nat → List zV → zS → Option zR) (L : List zK) (I : Nat → Nat → Int32) (J : Nat → Nat → Int64) (v1 : Int32) (s0 : Int32) : zgo X C (some .int) kX8_image 12 [some (.inr (.inr (some (.inl 8, 0)))), some (.inl v1)] [.inl s0] (L, zB1, I, J) = if s0 = 0 then some (some (.inl (-1000001)), (L, zB1, I, J)) else cI (C 146 [.inr (.inr (some (.inl 8, 0)))] (L, zB1, I, J)) (fun r σ => zgo X C (some .int) kX8_image 22 [some (.inr (.inr (some (.inl 8, 0)))), some (.inl v1)] [.inl r] σ) := by
  rw [zgo_run X C _ _ [0, 12, 22, 41] 4]
  rfl
set_option maxRecDepth 100000 in
theorem bX8_image_22 (X : Nat → Nat → Int32) (C : Nat → List zV → zS → Option zR) (L : List zK) (I : Nat → Nat → Int32) (J : Nat → Nat → Int64) (v1 : Int32) (s0 : Int32) : zgo X C (some .int) kX8_image 22 [some (.inr (.inr (some (.inl 8, 0)))), some (.inl v1)] [.inl s0] (L, zB1, I, J) = if s0 = 0 then some (some (.inl (-1000002)), (L, zB1, I, J)) else zbt (zin v1 2) (cV (C 12 [.inr (.inr (some (.inl 1, 267 + 8 * v1.toNatClampNeg))), .inr (.inr (some (.inl 1, 13)))] (L, zB1, I, J)) (fun σ => zgo X C (some .int) kX8_image 41 [some (.inr (.inr (some (.inl 8, 0)))), some (.inl v1)] [] σ)) := by
  rw [zgo_run X C _ _ [0, 12, 22, 41] 9]
  rfl
set_option maxRecDepth 100000 in
theorem bX8_image_41 (X : Nat → Nat → Int32) (C : Nat → List zV → zS → Option zR) (L : List zK) (I : Nat → Nat → Int32) (J : Nat → Nat → Int64) (v1 : Int32) : zgo X C (some .int) kX8_image 41 [some (.inr (.inr (some (.inl 8, 0)))), some (.inl v1)] [] (L, zB1, I, J) = some (some (.inl 1), (L, zB1, I, J)) := by
  rw [zgo_run X C _ _ [0, 12, 22, 41] 3]
  rfl

set_option maxRecDepth 100000 in
theorem bX8_restore_0 (X : Nat → Nat → Int32) (C : Nat → List zV → zS → Option zR) (L : List zK) (I : Nat → Nat → Int32) (J : Nat → Nat → Int64) (a1 : Int32) : zgo X C (some .int) kX8_restore 0 [some (.inr (.inr (some (.inl 8, 0)))), some (.inl a1)] [] (L, zB1, I, J) = cI (C 150 [.inl a1, .inl 0, .inl ((Int32.ofNat 2) - 1)] (L, zB1, I, J)) (fun r σ => zgo X C (some .int) kX8_restore 12 [some (.inr (.inr (some (.inl 8, 0)))), some (.inl a1)] [.inl r] σ) := by
  rw [zgo_run X C _ _ [0, 12, 46, 53] 9]
  rfl
set_option maxRecDepth 100000 in
theorem bX8_restore_12 (X : Nat → Nat → Int32) (C : Nat → List zV → zS → Option zR) (L : List zK) (I : Nat → Nat → Int32) (J : Nat → Nat → Int64) (v1 : Int32) (s0 : Int32) : zgo X C (some .int) kX8_restore 12 [some (.inr (.inr (some (.inl 8, 0)))), some (.inl v1)] [.inl s0] (L, zB1, I, J) = if s0 = 0 then some (some (.inl (-1000001)), (L, zB1, I, J)) else zbt (zin v1 2) (if (I (267 + 8 * v1.toNatClampNeg) 1) = 0 then some (some (.inl (-1000002)), (L, zB1, I, J)) else zbt (zin v1 2) (cV (C 12 [.inr (.inr (some (.inl 1, 13))), .inr (.inr (some (.inl 1, 267 + 8 * v1.toNatClampNeg)))] (L, zB1, I, J)) (fun σ => zgo X C (some .int) kX8_restore 46 [some (.inr (.inr (some (.inl 8, 0)))), some (.inl v1)] [] σ))) := by
  rw [zgo_run X C _ _ [0, 12, 46, 53] 15]
  rfl
set_option maxRecDepth 100000 in
theorem bX8_restore_46 (X : Nat → Nat → Int32) (C : Nat → List zV → zS → Option zR) (L : List zK) (I : Nat → Nat → Int32) (J : Nat → Nat → Int64) (v1 : Int32) : zgo X C (some .int) kX8_restore 46 [some (.inr (.inr (some (.inl 8, 0)))), some (.inl v1)] [] (L, zB1, I, J) = cV (C 54 [.inr (.inr (some (.inl 4, 31)))] (L, zB1, I, J)) (fun σ => zgo X C (some .int) kX8_restore 53 [some (.inr (.inr (some (.inl 8, 0)))), some (.inl v1)] [] σ) := by
  rw [zgo_run X C _ _ [0, 12, 46, 53] 4]
  rfl
set_option maxRecDepth 100000 in
theorem bX8_restore_53 (X : Nat → Nat → Int32) (C : Nat → List zV → zS → Option zR) (L : List zK) (I : Nat → Nat → Int32) (J : Nat → Nat → Int64) (v1 : Int32) : zgo X C (some .int) kX8_restore 53 [some (.inr (.inr (some (.inl 8, 0)))), some (.inl v1)] [] (L, zB1, I, J) = some (some (.inl 1), (L, zB1, I, J)) := by
  rw [zgo_run X C _ _ [0, 12, 46, 53] 3]
  rfl

set_option maxRecDepth 100000 in
theorem bX8_kind_0 (X : Nat → Nat → Int32) (C : Nat → List zV → zS → Option zR) (L : List zK) (I : Nat → Nat → Int32) (J : Nat → Nat → Int64) (a1 : Int32) : zgo X C (some .int) kX8_kind 0 [some (.inr (.inr (some (.inl 8, 0)))), some (.inl a1)] [] (L, zB1, I, J) = cI (C 16 [.inr (.inr (some (.inl 1, 13))), .inl a1] (L, zB1, I, J)) (fun r σ => zgo X C (some .int) kX8_kind 8 [some (.inr (.inr (some (.inl 8, 0)))), some (.inl a1)] [.inl r] σ) := by
  rw [zgo_run X C _ _ [0, 8] 5]
  rfl
set_option maxRecDepth 100000 in
theorem bX8_kind_8 (X : Nat → Nat → Int32) (C : Nat → List zV → zS → Option zR) (L : List zK) (I : Nat → Nat → Int32) (J : Nat → Nat → Int64) (v1 : Int32) (s0 : Int32) : zgo X C (some .int) kX8_kind 8 [some (.inr (.inr (some (.inl 8, 0)))), some (.inl v1)] [.inl s0] (L, zB1, I, J) = if s0 = 0 then some (some (.inl (-1000001)), (L, zB1, I, J)) else zbt (zin v1 6) (some (some (.inl (I 16 v1.toNatClampNeg)), (L, zB1, I, J))) := by
  rw [zgo_run X C _ _ [0, 8] 9]
  rfl

set_option maxRecDepth 100000 in
theorem bX8_as_0 (X : Nat → Nat → Int32) (C : Nat → List zV → zS → Option zR) (L : List zK) (I : Nat → Nat → Int32) (J : Nat → Nat → Int64) (a1 : Int32) (a2 : Int32) : zgo X C (some .int) kX8_as 0 [some (.inr (.inr (some (.inl 8, 0)))), some (.inl a1), some (.inl a2)] [] (L, zB1, I, J) = cI (C 16 [.inr (.inr (some (.inl 1, 13))), .inl a1] (L, zB1, I, J)) (fun r σ => zgo X C (some .int) kX8_as 8 [some (.inr (.inr (some (.inl 8, 0)))), some (.inl a1), some (.inl a2)] [.inl r] σ) := by
  rw [zgo_run X C _ _ [0, 8, 17, 36, 44, 50] 5]
  rfl
set_option maxRecDepth 100000 in
theorem bX8_as_8 (X : Nat → Nat → Int32) (C : Nat → List zV → zS → Option zR) (L : List zK) (I : Nat → Nat → Int32) (J : Nat → Nat → Int64) (v1 : Int32) (v2 : Int32) (s0 : Int32) : zgo X C (some .int) kX8_as 8 [some (.inr (.inr (some (.inl 8, 0)))), some (.inl v1), some (.inl v2)] [.inl s0] (L, zB1, I, J) = if s0 = 0 then some (some (.inl (-1000001)), (L, zB1, I, J)) else cI (C 150 [.inl v2, .inl 0, .inl 5] (L, zB1, I, J)) (fun r σ => zgo X C (some .int) kX8_as 17 [some (.inr (.inr (some (.inl 8, 0)))), some (.inl v1), some (.inl v2)] [.inl r] σ) := by
  rw [zgo_run X C _ _ [0, 8, 17, 36, 44, 50] 6]
  rfl
set_option maxRecDepth 100000 in
theorem bX8_as_17 (X : Nat → Nat → Int32) (C : Nat → List zV → zS → Option zR) (L : List zK) (I : Nat → Nat → Int32) (J : Nat → Nat → Int64) (v1 : Int32) (v2 : Int32) (s0 : Int32) : zgo X C (some .int) kX8_as 17 [some (.inr (.inr (some (.inl 8, 0)))), some (.inl v1), some (.inl v2)] [.inl s0] (L, zB1, I, J) = if s0 = 0 then some (some (.inl (-1000001)), (L, zB1, I, J)) else zbt (zin v1 6) (cI (C 151 [.inl (I 16 v1.toNatClampNeg), .inl v2] (L, zB1, I, J)) (fun r σ => zgo X C (some .int) kX8_as 36 [some (.inr (.inr (some (.inl 8, 0)))), some (.inl v1), some (.inl v2)] [.inl r] σ)) := by
  rw [zgo_run X C _ _ [0, 8, 17, 36, 44, 50] 9]
  rfl
set_option maxRecDepth 100000 in
theorem bX8_as_36 (X : Nat → Nat → Int32) (C : Nat → List zV → zS → Option zR) (L : List zK) (I : Nat → Nat → Int32) (J : Nat → Nat → Int64) (v1 : Int32) (v2 : Int32) (s0 : Int32) : zgo X C (some .int) kX8_as 36 [some (.inr (.inr (some (.inl 8, 0)))), some (.inl v1), some (.inl v2)] [.inl s0] (L, zB1, I, J) = if s0 = 0 then cI (C 148 [.inr (.inr (some (.inl 8, 0))), .inl 3] (L, zB1, I, J)) (fun r σ => zgo X C (some .int) kX8_as 44 [some (.inr (.inr (some (.inl 8, 0)))), some (.inl v1), some (.inl v2)] [.inl r] σ) else cI (C 149 [.inr (.inr (some (.inl 8, 0))), .inl v1] (L, zB1, I, J)) (fun r σ => zgo X C (some .int) kX8_as 50 [some (.inr (.inr (some (.inl 8, 0)))), some (.inl v1), some (.inl v2)] [.inl r] σ) := by
  rw [zgo_run X C _ _ [0, 8, 17, 36, 44, 50] 5]
  rfl
set_option maxRecDepth 100000 in
theorem bX8_as_44 (X : Nat → Nat → Int32) (C : Nat → List zV → zS → Option zR) (L : List zK) (I : Nat → Nat → Int32) (J : Nat → Nat → Int64) (v1 : Int32) (v2 : Int32) (s0 : Int32) : zgo X C (some .int) kX8_as 44 [some (.inr (.inr (some (.inl 8, 0)))), some (.inl v1), some (.inl v2)] [.inl s0] (L, zB1, I, J) = some (some (.inl s0), (L, zB1, I, J)) := by
  rw [zgo_run X C _ _ [0, 8, 17, 36, 44, 50] 2]
  rfl
set_option maxRecDepth 100000 in
theorem bX8_as_50 (X : Nat → Nat → Int32) (C : Nat → List zV → zS → Option zR) (L : List zK) (I : Nat → Nat → Int32) (J : Nat → Nat → Int64) (v1 : Int32) (v2 : Int32) (s0 : Int32) : zgo X C (some .int) kX8_as 50 [some (.inr (.inr (some (.inl 8, 0)))), some (.inl v1), some (.inl v2)] [.inl s0] (L, zB1, I, J) = some (some (.inl s0), (L, zB1, I, J)) := by
  rw [zgo_run X C _ _ [0, 8, 17, 36, 44, 50] 2]
  rfl

set_option maxRecDepth 100000 in
theorem bX8_ask_0 (X : Nat → Nat → Int32) (C : Nat → List zV → zS → Option zR) (L : List zK) (I : Nat → Nat → Int32) (J : Nat → Nat → Int64) (a1 : Int32) (a2 : Int32) : zgo X C (some .int) kX8_ask 0 [some (.inr (.inr (some (.inl 8, 0)))), some (.inl a1), some (.inl a2)] [] (L, zB1, I, J) = cI (C 16 [.inr (.inr (some (.inl 1, 13))), .inl a1] (L, zB1, I, J)) (fun r σ => zgo X C (some .int) kX8_ask 8 [some (.inr (.inr (some (.inl 8, 0)))), some (.inl a1), some (.inl a2)] [.inl r] σ) := by
  rw [zgo_run X C _ _ [0, 8, 17, 36] 5]
  rfl
set_option maxRecDepth 100000 in
theorem bX8_ask_8 (X : Nat → Nat → Int32) (C : Nat → List zV → zS → Option zR) (L : List zK) (I : Nat → Nat → Int32) (J : Nat → Nat → Int64) (v1 : Int32) (v2 : Int32) (s0 : Int32) : zgo X C (some .int) kX8_ask 8 [some (.inr (.inr (some (.inl 8, 0)))), some (.inl v1), some (.inl v2)] [.inl s0] (L, zB1, I, J) = if s0 = 0 then some (some (.inl (-1000001)), (L, zB1, I, J)) else cI (C 150 [.inl v2, .inl 0, .inl 1] (L, zB1, I, J)) (fun r σ => zgo X C (some .int) kX8_ask 17 [some (.inr (.inr (some (.inl 8, 0)))), some (.inl v1), some (.inl v2)] [.inl r] σ) := by
  rw [zgo_run X C _ _ [0, 8, 17, 36] 6]
  rfl
set_option maxRecDepth 100000 in
theorem bX8_ask_17 (X : Nat → Nat → Int32) (C : Nat → List zV → zS → Option zR) (L : List zK) (I : Nat → Nat → Int32) (J : Nat → Nat → Int64) (v1 : Int32) (v2 : Int32) (s0 : Int32) : zgo X C (some .int) kX8_ask 17 [some (.inr (.inr (some (.inl 8, 0)))), some (.inl v1), some (.inl v2)] [.inl s0] (L, zB1, I, J) = if s0 = 0 then some (some (.inl (-1000001)), (L, zB1, I, J)) else cI (C 5 [.inr (.inr (some (.inl 0, 264))), .inr (.inr (some (.inl 1, 13))), .inl v1, .inl v2] (L, zB1, I, J)) (fun r σ => zgo X C (some .int) kX8_ask 36 [some (.inr (.inr (some (.inl 8, 0)))), some (.inl v1), some (.inl v2)] [.inl r] σ) := by
  rw [zgo_run X C _ _ [0, 8, 17, 36] 9]
  rfl
set_option maxRecDepth 100000 in
theorem bX8_ask_36 (X : Nat → Nat → Int32) (C : Nat → List zV → zS → Option zR) (L : List zK) (I : Nat → Nat → Int32) (J : Nat → Nat → Int64) (v1 : Int32) (v2 : Int32) (s0 : Int32) : zgo X C (some .int) kX8_ask 36 [some (.inr (.inr (some (.inl 8, 0)))), some (.inl v1), some (.inl v2)] [.inl s0] (L, zB1, I, J) = some (some (.inl s0), (L, zB1, I, J)) := by
  rw [zgo_run X C _ _ [0, 8, 17, 36] 2]
  rfl

set_option maxRecDepth 100000 in
theorem bX8_trace_0 (X : Nat → Nat → Int32) (C : Nat → List zV → zS → Option zR) (L : List zK) (I : Nat → Nat → Int32) (J : Nat → Nat → Int64) (a1 : Int32) : zgo X C (some .int) kX8_trace 0 [some (.inr (.inr (some (.inl 8, 0)))), some (.inl a1)] [] (L, zB1, I, J) = cI (C 6 [.inr (.inr (some (.inl 0, 264))), .inl a1] (L, zB1, I, J)) (fun r σ => zgo X C (some .int) kX8_trace 8 [some (.inr (.inr (some (.inl 8, 0)))), some (.inl a1)] [.inl r] σ) := by
  rw [zgo_run X C _ _ [0, 8] 5]
  rfl
set_option maxRecDepth 100000 in
theorem bX8_trace_8 (X : Nat → Nat → Int32) (C : Nat → List zV → zS → Option zR) (L : List zK) (I : Nat → Nat → Int32) (J : Nat → Nat → Int64) (v1 : Int32) (s0 : Int32) : zgo X C (some .int) kX8_trace 8 [some (.inr (.inr (some (.inl 8, 0)))), some (.inl v1)] [.inl s0] (L, zB1, I, J) = some (some (.inl s0), (L, zB1, I, J)) := by
  rw [zgo_run X C _ _ [0, 8] 2]
  rfl

set_option maxRecDepth 100000 in
theorem bX8_count_0 (X : Nat → Nat → Int32) (C : Nat → List zV → zS → Option zR) (L : List zK) (I : Nat → Nat → Int32) (J : Nat → Nat → Int64) (a1 : Int32) : zgo X C (some .int) kX8_count 0 [some (.inr (.inr (some (.inl 8, 0)))), some (.inl a1)] [] (L, zB1, I, J) = if a1 = 0 then cI (C 85 [.inr (.inr (some (.inl 6, 1)))] (L, zB1, I, J)) (fun r σ => zgo X C (some .int) kX8_count 55 [some (.inr (.inr (some (.inl 8, 0)))), some (.inl a1)] [.inl r] σ) else if a1 = 1 then some (some (.inl (I 13 1)), (L, zB1, I, J)) else if a1 = 2 then some (some (.inl (I 13 0)), (L, zB1, I, J)) else if a1 = 3 then some (some (.inl (I 13 4)), (L, zB1, I, J)) else if a1 = 4 then cI (C 29 [.inr (.inr (some (.inl 1, 13)))] (L, zB1, I, J)) (fun r σ => zgo X C (some .int) kX8_count 87 [some (.inr (.inr (some (.inl 8, 0)))), some (.inl a1)] [.inl r] σ) else if a1 = 5 then cI (C 26 [.inr (.inr (some (.inl 1, 13))), .inl 0] (L, zB1, I, J)) (fun r σ => zgo X C (some .int) kX8_count 96 [some (.inr (.inr (some (.inl 8, 0)))), some (.inl a1)] [.inl r] σ) else if a1 = 6 then cI (C 53 [.inr (.inr (some (.inl 4, 31)))] (L, zB1, I, J)) (fun r σ => zgo X C (some .int) kX8_count 107 [some (.inr (.inr (some (.inl 8, 0)))), some (.inl a1)] [.inl r] σ) else if a1 = 7 then cI (C 87 [.inr (.inr (some (.inl 7, 21)))] (L, zB1, I, J)) (fun r σ => zgo X C (some .int) kX8_count 115 [some (.inr (.inr (some (.inl 8, 0)))), some (.inl a1)] [.inl r] σ) else some (some (.inl (-1000001)), (L, zB1, I, J)) := by
  rw [zgo_run X C _ _ [0, 55, 87, 96, 99, 107, 115] 7]
  rfl
set_option maxRecDepth 100000 in
theorem bX8_count_55 (X : Nat → Nat → Int32) (C : Nat → List zV → zS → Option zR) (L : List zK) (I : Nat → Nat → Int32) (J : Nat → Nat → Int64) (v1 : Int32) (s0 : Int32) : zgo X C (some .int) kX8_count 55 [some (.inr (.inr (some (.inl 8, 0)))), some (.inl v1)] [.inl s0] (L, zB1, I, J) = some (some (.inl s0), (L, zB1, I, J)) := by
  rw [zgo_run X C _ _ [0, 55, 87, 96, 99, 107, 115] 2]
  rfl
set_option maxRecDepth 100000 in
theorem bX8_count_87 (X : Nat → Nat → Int32) (C : Nat → List zV → zS → Option zR) (L : List zK) (I : Nat → Nat → Int32) (J : Nat → Nat → Int64) (v1 : Int32) (s0 : Int32) : zgo X C (some .int) kX8_count 87 [some (.inr (.inr (some (.inl 8, 0)))), some (.inl v1)] [.inl s0] (L, zB1, I, J) = some (some (.inl s0), (L, zB1, I, J)) := by
  rw [zgo_run X C _ _ [0, 55, 87, 96, 99, 107, 115] 2]
  rfl
set_option maxRecDepth 100000 in
theorem bX8_count_96 (X : Nat → Nat → Int32) (C : Nat → List zV → zS → Option zR) (L : List zK) (I : Nat → Nat → Int32) (J : Nat → Nat → Int64) (v1 : Int32) (s0 : Int32) : zgo X C (some .int) kX8_count 96 [some (.inr (.inr (some (.inl 8, 0)))), some (.inl v1)] [.inl s0] (L, zB1, I, J) = cI (C 0 [.inl s0] (L, zB1, I, J)) (fun r σ => zgo X C (some .int) kX8_count 99 [some (.inr (.inr (some (.inl 8, 0)))), some (.inl v1)] [.inl r] σ) := by
  rw [zgo_run X C _ _ [0, 55, 87, 96, 99, 107, 115] 2]
  rfl
set_option maxRecDepth 100000 in
theorem bX8_count_99 (X : Nat → Nat → Int32) (C : Nat → List zV → zS → Option zR) (L : List zK) (I : Nat → Nat → Int32) (J : Nat → Nat → Int64) (v1 : Int32) (s0 : Int32) : zgo X C (some .int) kX8_count 99 [some (.inr (.inr (some (.inl 8, 0)))), some (.inl v1)] [.inl s0] (L, zB1, I, J) = some (some (.inl s0), (L, zB1, I, J)) := by
  rw [zgo_run X C _ _ [0, 55, 87, 96, 99, 107, 115] 2]
  rfl
set_option maxRecDepth 100000 in
theorem bX8_count_107 (X : Nat → Nat → Int32) (C : Nat → List zV → zS → Option zR) (L : List zK) (I : Nat → Nat → Int32) (J : Nat → Nat → Int64) (v1 : Int32) (s0 : Int32) : zgo X C (some .int) kX8_count 107 [some (.inr (.inr (some (.inl 8, 0)))), some (.inl v1)] [.inl s0] (L, zB1, I, J) = some (some (.inl s0), (L, zB1, I, J)) := by
  rw [zgo_run X C _ _ [0, 55, 87, 96, 99, 107, 115] 2]
  rfl
set_option maxRecDepth 100000 in
theorem bX8_count_115 (X : Nat → Nat → Int32) (C : Nat → List zV → zS → Option zR) (L : List zK) (I : Nat → Nat → Int32) (J : Nat → Nat → Int64) (v1 : Int32) (s0 : Int32) : zgo X C (some .int) kX8_count 115 [some (.inr (.inr (some (.inl 8, 0)))), some (.inl v1)] [.inl s0] (L, zB1, I, J) = some (some (.inl s0), (L, zB1, I, J)) := by
  rw [zgo_run X C _ _ [0, 55, 87, 96, 99, 107, 115] 2]
  rfl

set_option maxRecDepth 100000 in
theorem bX8_status_0 (X : Nat → Nat → Int32) (C : Nat → List zV → zS → Option zR) (L : List zK) (I : Nat → Nat → Int32) (J : Nat → Nat → Int64) : zgo X C (some .int) kX8_status 0 [some (.inr (.inr (some (.inl 8, 0))))] [] (L, zB1, I, J) = some (some (.inl (I 0 9)), (L, zB1, I, J)) := by
  rw [zgo_run X C _ _ [0] 4]
  rfl

set_option maxRecDepth 100000 in
theorem bX8_hasCircuit_0 (X : Nat → Nat → Int32) (C : Nat → List zV → zS → Option zR) (L : List zK) (I : Nat → Nat → Int32) (J : Nat → Nat → Int64) : zgo X C (some .boolean) kX8_hasCircuit 0 [some (.inr (.inr (some (.inl 8, 0))))] [] (L, zB1, I, J) = if (I 13 1) ≤ 0 then some (some (.inl 0), (L, zB1, I, J)) else some (some (.inl 1), (L, zB1, I, J)) := by
  rw [zgo_run X C _ _ [0] 8]
  rfl

set_option maxRecDepth 100000 in
theorem bX8_isToldRow_0 (X : Nat → Nat → Int32) (C : Nat → List zV → zS → Option zR) (L : List zK) (I : Nat → Nat → Int32) (J : Nat → Nat → Int64) (a1 : Int32) (a2 : Int32) : zgo X C (some .boolean) kX8_isToldRow 0 [some (.inr (.inr (some (.inl 8, 0)))), some (.inl a1), some (.inl a2)] [] (L, zB1, I, J) = cI (C 74 [.inl a1] (L, zB1, I, J)) (fun r σ => zgo X C (some .boolean) kX8_isToldRow 4 [some (.inr (.inr (some (.inl 8, 0)))), some (.inl a1), some (.inl a2)] [.inl r] σ) := by
  rw [zgo_run X C _ _ [0, 4, 14] 3]
  rfl
set_option maxRecDepth 100000 in
theorem bX8_isToldRow_4 (X : Nat → Nat → Int32) (C : Nat → List zV → zS → Option zR) (L : List zK) (I : Nat → Nat → Int32) (J : Nat → Nat → Int64) (v1 : Int32) (v2 : Int32) (s0 : Int32) : zgo X C (some .boolean) kX8_isToldRow 4 [some (.inr (.inr (some (.inl 8, 0)))), some (.inl v1), some (.inl v2)] [.inl s0] (L, zB1, I, J) = if s0 = 0 then some (some (.inl 0), (L, zB1, I, J)) else cI (C 150 [.inl v2, .inl 1, .inl 12] (L, zB1, I, J)) (fun r σ => zgo X C (some .boolean) kX8_isToldRow 14 [some (.inr (.inr (some (.inl 8, 0)))), some (.inl v1), some (.inl v2)] [.inl r] σ) := by
  rw [zgo_run X C _ _ [0, 4, 14] 6]
  rfl
set_option maxRecDepth 100000 in
theorem bX8_isToldRow_14 (X : Nat → Nat → Int32) (C : Nat → List zV → zS → Option zR) (L : List zK) (I : Nat → Nat → Int32) (J : Nat → Nat → Int64) (v1 : Int32) (v2 : Int32) (s0 : Int32) : zgo X C (some .boolean) kX8_isToldRow 14 [some (.inr (.inr (some (.inl 8, 0)))), some (.inl v1), some (.inl v2)] [.inl s0] (L, zB1, I, J) = if s0 = 0 then some (some (.inl 0), (L, zB1, I, J)) else some (some (.inl 1), (L, zB1, I, J)) := by
  rw [zgo_run X C _ _ [0, 4, 14] 5]
  rfl

set_option maxRecDepth 100000 in
theorem bX8_found_0 (X : Nat → Nat → Int32) (C : Nat → List zV → zS → Option zR) (L : List zK) (I : Nat → Nat → Int32) (J : Nat → Nat → Int64) (a1 : Int32) : zgo X C (some .int) kX8_found 0 [some (.inr (.inr (some (.inl 8, 0)))), some (.inl a1)] [] (L, zB1, I, J) = some (some (.inl ((-1000010) - a1)), (L, zB1, (zup I 0 9 a1), J)) := by
  rw [zgo_run X C _ _ [0] 8]
  rfl

set_option maxRecDepth 100000 in
theorem bX8_foundNothing_0 (X : Nat → Nat → Int32) (C : Nat → List zV → zS → Option zR) (L : List zK) (I : Nat → Nat → Int32) (J : Nat → Nat → Int64) (a1 : Int32) : zgo X C (some .int) kX8_foundNothing 0 [some (.inr (.inr (some (.inl 8, 0)))), some (.inl a1)] [] (L, zB1, I, J) = some (some (.inl a1), (L, zB1, (zup I 0 9 0), J)) := by
  rw [zgo_run X C _ _ [0] 6]
  rfl

set_option maxRecDepth 100000 in
theorem bX8_isWithin_0 (X : Nat → Nat → Int32) (C : Nat → List zV → zS → Option zR) (L : List zK) (I : Nat → Nat → Int32) (J : Nat → Nat → Int64) (a1 : Int32) (a2 : Int32) (a3 : Int32) : zgo X C (some .boolean) kX8_isWithin 0 [some (.inl a1), some (.inl a2), some (.inl a3)] [] (L, zB1, I, J) = if a1 < a2 then some (some (.inl 0), (L, zB1, I, J)) else if a3 < a1 then some (some (.inl 0), (L, zB1, I, J)) else some (some (.inl 1), (L, zB1, I, J)) := by
  rw [zgo_run X C _ _ [0] 10]
  rfl

set_option maxRecDepth 100000 in
theorem bX8_isOfKind_0 (X : Nat → Nat → Int32) (C : Nat → List zV → zS → Option zR) (L : List zK) (I : Nat → Nat → Int32) (J : Nat → Nat → Int64) (a1 : Int32) (a2 : Int32) : zgo X C (some .boolean) kX8_isOfKind 0 [some (.inl a1), some (.inl a2), none, none] [] (L, zB1, I, J) = zgo X C (some .boolean) kX8_isOfKind 4 [some (.inl a1), some (.inl a2), some (.inl a1), some (.inl 0)] [] (L, zB1, I, J) := by
  rw [zgo_run X C _ _ [0, 4] 5]
  rfl
set_option maxRecDepth 100000 in
theorem bX8_isOfKind_4 (X : Nat → Nat → Int32) (C : Nat → List zV → zS → Option zR) (L : List zK) (I : Nat → Nat → Int32) (J : Nat → Nat → Int64) (v0 : Int32) (v1 : Int32) (v2 : Int32) (v3 : Int32) : zgo X C (some .boolean) kX8_isOfKind 4 [some (.inl v0), some (.inl v1), some (.inl v2), some (.inl v3)] [] (L, zB1, I, J) = if (Int32.ofNat 6) ≤ v3 then some (some (.inl 0), (L, zB1, I, J)) else if v2 = v1 then some (some (.inl 1), (L, zB1, I, J)) else if v2 < 0 then some (some (.inl 0), (L, zB1, I, J)) else if v2 < (Int32.ofNat 6) then zbt (zin v2 6) (zgo X C (some .boolean) kX8_isOfKind 4 [some (.inl v0), some (.inl v1), some (.inl (X 1 v2.toNatClampNeg)), some (.inl (v3 + 1))] [] (L, zB1, I, J)) else some (some (.inl 0), (L, zB1, I, J)) := by
  rw [zgo_run X C _ _ [0, 4] 20]
  rfl
