set_option maxRecDepth 100000 in
theorem bX9_severe_0 (X : Nat → Nat → Int32) (C : Nat → List zV → zS → Option zR) (L : List zK) (I : Nat → Nat → Int32) (J : Nat → Nat → Int64) (a1 : Int32) (a2 : Int32) : zgo X C (some .int) kX9_severe 0 [some (.inr (.inr (some (.inl 9, 283)))), some (.inl a1), some (.inl a2)] [] (L, zB1, I, J) = cI (C 177 [.inr (.inr (some (.inl 9, 283))), .inl a1] (L, zB1, (zup I 283 0 0), J)) (fun r σ => zgo X C (some .int) kX9_severe 10 [some (.inr (.inr (some (.inl 9, 283)))), some (.inl a1), some (.inl a2)] [.inl r] σ) := by
  rw [zgo_run X C _ _ [0, 10, 22, 32] 7]
  rfl
set_option maxRecDepth 100000 in
theorem bX9_severe_10 (X : Nat → Nat → Int32) (C : Nat → List zV → zS → Option zR) (L : List zK) (I : Nat → Nat → Int32) (J : Nat → Nat → Int64) (v1 : Int32) (v2 : Int32) (s0 : Int32) : zgo X C (some .int) kX9_severe 10 [some (.inr (.inr (some (.inl 9, 283)))), some (.inl v1), some (.inl v2)] [.inl s0] (L, zB1, I, J) = if s0 = 0 then some (some (.inl (-1000001)), (L, zB1, I, J)) else cI (C 153 [.inr (.inl ((v2).toInt64)), .inr (.inl 0), .inr (.inl 9)] (L, zB1, I, J)) (fun r σ => zgo X C (some .int) kX9_severe 22 [some (.inr (.inr (some (.inl 9, 283)))), some (.inl v1), some (.inl v2)] [.inl r] σ) := by
  rw [zgo_run X C _ _ [0, 10, 22, 32] 7]
  rfl
set_option maxRecDepth 100000 in
theorem bX9_severe_22 (X : Nat → Nat → Int32) (C : Nat → List zV → zS → Option zR) (L : List zK) (I : Nat → Nat → Int32) (J : Nat → Nat → Int64) (v1 : Int32) (v2 : Int32) (s0 : Int32) : zgo X C (some .int) kX9_severe 22 [some (.inr (.inr (some (.inl 9, 283)))), some (.inl v1), some (.inl v2)] [.inl s0] (L, zB1, I, J) = if s0 = 0 then some (some (.inl (-1000001)), (L, zB1, I, J)) else cI (C 196 [.inr (.inr (some (.inl 9, 283))), .inl v1, .inl 0, .inl v2] (L, zB1, I, J)) (fun r σ => zgo X C (some .int) kX9_severe 32 [some (.inr (.inr (some (.inl 9, 283)))), some (.inl v1), some (.inl v2)] [.inl r] σ) := by
  rw [zgo_run X C _ _ [0, 10, 22, 32] 7]
  rfl
set_option maxRecDepth 100000 in
theorem bX9_severe_32 (X : Nat → Nat → Int32) (C : Nat → List zV → zS → Option zR) (L : List zK) (I : Nat → Nat → Int32) (J : Nat → Nat → Int64) (v1 : Int32) (v2 : Int32) (s0 : Int32) : zgo X C (some .int) kX9_severe 32 [some (.inr (.inr (some (.inl 9, 283)))), some (.inl v1), some (.inl v2)] [.inl s0] (L, zB1, I, J) = some (some (.inl s0), (L, zB1, I, J)) := by
  rw [zgo_run X C _ _ [0, 10, 22, 32] 3]
  rfl

set_option maxRecDepth 100000 in
theorem bX9_retry_0 (X : Nat → Nat → Int32) (C : Nat → List zV → zS → Option zR) (L : List zK) (I : Nat → Nat → Int32) (J : Nat → Nat → Int64) (a1 : Int32) (a2 : Int32) (a3 : Int32) : zgo X C (some .int) kX9_retry 0 [some (.inr (.inr (some (.inl 9, 283)))), some (.inl a1), some (.inl a2), some (.inl a3)] [] (L, zB1, I, J) = cI (C 176 [.inr (.inr (some (.inl 9, 283))), .inl a1] (L, zB1, (zup I 283 0 0), J)) (fun r σ => zgo X C (some .int) kX9_retry 10 [some (.inr (.inr (some (.inl 9, 283)))), some (.inl a1), some (.inl a2), some (.inl a3)] [.inl r] σ) := by
  rw [zgo_run X C _ _ [0, 10, 18, 30, 45, 56, 66, 74] 7]
  rfl
set_option maxRecDepth 100000 in
theorem bX9_retry_10 (X : Nat → Nat → Int32) (C : Nat → List zV → zS → Option zR) (L : List zK) (I : Nat → Nat → Int32) (J : Nat → Nat → Int64) (v1 : Int32) (v2 : Int32) (v3 : Int32) (s0 : Int32) : zgo X C (some .int) kX9_retry 10 [some (.inr (.inr (some (.inl 9, 283)))), some (.inl v1), some (.inl v2), some (.inl v3)] [.inl s0] (L, zB1, I, J) = if s0 = 0 then some (some (.inl (-1000001)), (L, zB1, I, J)) else cI (C 177 [.inr (.inr (some (.inl 9, 283))), .inl v2] (L, zB1, I, J)) (fun r σ => zgo X C (some .int) kX9_retry 18 [some (.inr (.inr (some (.inl 9, 283)))), some (.inl v1), some (.inl v2), some (.inl v3)] [.inl r] σ) := by
  rw [zgo_run X C _ _ [0, 10, 18, 30, 45, 56, 66, 74] 5]
  rfl
set_option maxRecDepth 100000 in
theorem bX9_retry_18 (X : Nat → Nat → Int32) (C : Nat → List zV → zS → Option zR) (L : List zK) (I : Nat → Nat → Int32) (J : Nat → Nat → Int64) (v1 : Int32) (v2 : Int32) (v3 : Int32) (s0 : Int32) : zgo X C (some .int) kX9_retry 18 [some (.inr (.inr (some (.inl 9, 283)))), some (.inl v1), some (.inl v2), some (.inl v3)] [.inl s0] (L, zB1, I, J) = if s0 = 0 then some (some (.inl (-1000001)), (L, zB1, I, J)) else cI (C 153 [.inr (.inl ((v3).toInt64)), .inr (.inl 1), .inr (.inl 30)] (L, zB1, I, J)) (fun r σ => zgo X C (some .int) kX9_retry 30 [some (.inr (.inr (some (.inl 9, 283)))), some (.inl v1), some (.inl v2), some (.inl v3)] [.inl r] σ) := by
  rw [zgo_run X C _ _ [0, 10, 18, 30, 45, 56, 66, 74] 7]
  rfl
set_option maxRecDepth 100000 in
theorem bX9_retry_30 (X : Nat → Nat → Int32) (C : Nat → List zV → zS → Option zR) (L : List zK) (I : Nat → Nat → Int32) (J : Nat → Nat → Int64) (v1 : Int32) (v2 : Int32) (v3 : Int32) (s0 : Int32) : zgo X C (some .int) kX9_retry 30 [some (.inr (.inr (some (.inl 9, 283)))), some (.inl v1), some (.inl v2), some (.inl v3)] [.inl s0] (L, zB1, I, J) = if s0 = 0 then some (some (.inl (-1000001)), (L, zB1, I, J)) else cI (C 180 [.inr (.inr (some (.inr (.int, 43), 287))), .inl v1, .inl 3] (L, zB1, I, J)) (fun r σ => zgo X C (some .int) kX9_retry 45 [some (.inr (.inr (some (.inl 9, 283)))), some (.inl v1), some (.inl v2), some (.inl v3)] [.inl r] σ) := by
  rw [zgo_run X C _ _ [0, 10, 18, 30, 45, 56, 66, 74] 7]
  rfl
set_option maxRecDepth 100000 in
theorem bX9_retry_45 (X : Nat → Nat → Int32) (C : Nat → List zV → zS → Option zR) (L : List zK) (I : Nat → Nat → Int32) (J : Nat → Nat → Int64) (v1 : Int32) (v2 : Int32) (v3 : Int32) (s0 : Int32) : zgo X C (some .int) kX9_retry 45 [some (.inr (.inr (some (.inl 9, 283)))), some (.inl v1), some (.inl v2), some (.inl v3)] [.inl s0] (L, zB1, I, J) = if s0 = 2 then cV (C 192 [.inr (.inr (some (.inl 9, 283)))] (L, zB1, I, J)) (fun σ => zgo X C (some .int) kX9_retry 56 [some (.inr (.inr (some (.inl 9, 283)))), some (.inl v1), some (.inl v2), some (.inl v3)] [] σ) else some (some (.inl (-1000002)), (L, zB1, I, J)) := by
  rw [zgo_run X C _ _ [0, 10, 18, 30, 45, 56, 66, 74] 5]
  rfl
set_option maxRecDepth 100000 in
theorem bX9_retry_56 (X : Nat → Nat → Int32) (C : Nat → List zV → zS → Option zR) (L : List zK) (I : Nat → Nat → Int32) (J : Nat → Nat → Int64) (v1 : Int32) (v2 : Int32) (v3 : Int32) : zgo X C (some .int) kX9_retry 56 [some (.inr (.inr (some (.inl 9, 283)))), some (.inl v1), some (.inl v2), some (.inl v3)] [] (L, zB1, I, J) = cV (C 190 [.inr (.inr (some (.inr (.int, 43), 287))), .inl v1, .inl v2, .inl v3] (L, zB1, I, J)) (fun σ => zgo X C (some .int) kX9_retry 66 [some (.inr (.inr (some (.inl 9, 283)))), some (.inl v1), some (.inl v2), some (.inl v3)] [] σ) := by
  rw [zgo_run X C _ _ [0, 10, 18, 30, 45, 56, 66, 74] 7]
  rfl
set_option maxRecDepth 100000 in
theorem bX9_retry_66 (X : Nat → Nat → Int32) (C : Nat → List zV → zS → Option zR) (L : List zK) (I : Nat → Nat → Int32) (J : Nat → Nat → Int64) (v1 : Int32) (v2 : Int32) (v3 : Int32) : zgo X C (some .int) kX9_retry 66 [some (.inr (.inr (some (.inl 9, 283)))), some (.inl v1), some (.inl v2), some (.inl v3)] [] (L, zB1, I, J) = cI (C 184 [.inr (.inr (some (.inr (.int, 43), 287))), .inl 2] (L, zB1, I, J)) (fun r σ => zgo X C (some .int) kX9_retry 74 [some (.inr (.inr (some (.inl 9, 283)))), some (.inl v1), some (.inl v2), some (.inl v3)] [.inl r] σ) := by
  rw [zgo_run X C _ _ [0, 10, 18, 30, 45, 56, 66, 74] 5]
  rfl
set_option maxRecDepth 100000 in
theorem bX9_retry_74 (X : Nat → Nat → Int32) (C : Nat → List zV → zS → Option zR) (L : List zK) (I : Nat → Nat → Int32) (J : Nat → Nat → Int64) (v1 : Int32) (v2 : Int32) (v3 : Int32) (s0 : Int32) : zgo X C (some .int) kX9_retry 74 [some (.inr (.inr (some (.inl 9, 283)))), some (.inl v1), some (.inl v2), some (.inl v3)] [.inl s0] (L, zB1, I, J) = some (some (.inl s0), (L, zB1, I, J)) := by
  rw [zgo_run X C _ _ [0, 10, 18, 30, 45, 56, 66, 74] 2]
  rfl

set_option maxRecDepth 100000 in
theorem bX9_undo_0 (X : Nat → Nat → Int32) (C : Nat → List zV → zS → Option zR) (L : List zK) (I : Nat → Nat → Int32) (J : Nat → Nat → Int64) : zgo X C (some .int) kX9_undo 0 [some (.inr (.inr (some (.inl 9, 283)))), none] [] (L, zB1, I, J) = if ((zup I 283 0 0) 283 9) = 0 then some (some (.inl (-1000002)), (L, zB1, (zup I 283 0 0), J)) else zgo X C (some .int) kX9_undo 27 [some (.inr (.inr (some (.inl 9, 283)))), some (.inl 0)] [] (L, zB1, (zup (zup I 283 0 0) 283 9 (((zup I 283 0 0) 283 9) - 1)), J) := by
  rw [zgo_run X C _ _ [0, 27] 15]
  rfl
set_option maxRecDepth 100000 in
theorem bX9_undo_27 (X : Nat → Nat → Int32) (C : Nat → List zV → zS → Option zR) (L : List zK) (I : Nat → Nat → Int32) (J : Nat → Nat → Int64) (v1 : Int32) : zgo X C (some .int) kX9_undo 27 [some (.inr (.inr (some (.inl 9, 283)))), some (.inl v1)] [] (L, zB1, I, J) = if (43 : Int32) ≤ v1 then some (some (.inl (I 283 9)), (L, zB1, I, J)) else zbt (zin ((43 * (I 283 9)) + v1) 1032) (zbt (zin v1 43) (zgo X C (some .int) kX9_undo 27 [some (.inr (.inr (some (.inl 9, 283)))), some (.inl (v1 + 1))] [] (L, zB1, (zup I 287 v1.toNatClampNeg (I 290 ((43 * (I 283 9)) + v1).toNatClampNeg)), J))) := by
  rw [zgo_run X C _ _ [0, 27] 19]
  rfl

set_option maxRecDepth 100000 in
theorem bX9_man_0 (X : Nat → Nat → Int32) (C : Nat → List zV → zS → Option zR) (L : List zK) (I : Nat → Nat → Int32) (J : Nat → Nat → Int64) (a1 : Int32) (a2 : Int32) : zgo X C (some .int) kX9_man 0 [some (.inr (.inr (some (.inl 9, 283)))), some (.inl a1), some (.inl a2)] [] (L, zB1, I, J) = cI (C 176 [.inr (.inr (some (.inl 9, 283))), .inl a1] (L, zB1, (zup I 283 0 0), J)) (fun r σ => zgo X C (some .int) kX9_man 10 [some (.inr (.inr (some (.inl 9, 283)))), some (.inl a1), some (.inl a2)] [.inl r] σ) := by
  rw [zgo_run X C _ _ [0, 10, 61, 71, 81, 91, 100] 7]
  rfl
set_option maxRecDepth 100000 in
theorem bX9_man_10 (X : Nat → Nat → Int32) (C : Nat → List zV → zS → Option zR) (L : List zK) (I : Nat → Nat → Int32) (J : Nat → Nat → Int64) (v1 : Int32) (v2 : Int32) (s0 : Int32) : zgo X C (some .int) kX9_man 10 [some (.inr (.inr (some (.inl 9, 283)))), some (.inl v1), some (.inl v2)] [.inl s0] (L, zB1, I, J) = if s0 = 0 then some (some (.inl (-1000001)), (L, zB1, I, J)) else if v2 = 0 then cI (C 180 [.inr (.inr (some (.inr (.int, 43), 287))), .inl v1, .inl 1] (L, zB1, I, J)) (fun r σ => zgo X C (some .int) kX9_man 61 [some (.inr (.inr (some (.inl 9, 283)))), some (.inl v1), some (.inl v2)] [.inl r] σ) else if v2 = 1 then cI (C 180 [.inr (.inr (some (.inr (.int, 43), 287))), .inl v1, .inl 3] (L, zB1, I, J)) (fun r σ => zgo X C (some .int) kX9_man 71 [some (.inr (.inr (some (.inl 9, 283)))), some (.inl v1), some (.inl v2)] [.inl r] σ) else if v2 = 2 then cI (C 180 [.inr (.inr (some (.inr (.int, 43), 287))), .inl v1, .inl 2] (L, zB1, I, J)) (fun r σ => zgo X C (some .int) kX9_man 81 [some (.inr (.inr (some (.inl 9, 283)))), some (.inl v1), some (.inl v2)] [.inl r] σ) else if v2 = 3 then cI (C 180 [.inr (.inr (some (.inr (.int, 43), 287))), .inl v1, .inl 4] (L, zB1, I, J)) (fun r σ => zgo X C (some .int) kX9_man 91 [some (.inr (.inr (some (.inl 9, 283)))), some (.inl v1), some (.inl v2)] [.inl r] σ) else if v2 = 4 then cI (C 186 [.inr (.inr (some (.inr (.int, 43), 287))), .inl v1] (L, zB1, I, J)) (fun r σ => zgo X C (some .int) kX9_man 100 [some (.inr (.inr (some (.inl 9, 283)))), some (.inl v1), some (.inl v2)] [.inl r] σ) else some (some (.inl (-1000001)), (L, zB1, I, J)) := by
  rw [zgo_run X C _ _ [0, 10, 61, 71, 81, 91, 100] 9]
  rfl
set_option maxRecDepth 100000 in
theorem bX9_man_61 (X : Nat → Nat → Int32) (C : Nat → List zV → zS → Option zR) (L : List zK) (I : Nat → Nat → Int32) (J : Nat → Nat → Int64) (v1 : Int32) (v2 : Int32) (s0 : Int32) : zgo X C (some .int) kX9_man 61 [some (.inr (.inr (some (.inl 9, 283)))), some (.inl v1), some (.inl v2)] [.inl s0] (L, zB1, I, J) = some (some (.inl s0), (L, zB1, I, J)) := by
  rw [zgo_run X C _ _ [0, 10, 61, 71, 81, 91, 100] 2]
  rfl
set_option maxRecDepth 100000 in
theorem bX9_man_71 (X : Nat → Nat → Int32) (C : Nat → List zV → zS → Option zR) (L : List zK) (I : Nat → Nat → Int32) (J : Nat → Nat → Int64) (v1 : Int32) (v2 : Int32) (s0 : Int32) : zgo X C (some .int) kX9_man 71 [some (.inr (.inr (some (.inl 9, 283)))), some (.inl v1), some (.inl v2)] [.inl s0] (L, zB1, I, J) = some (some (.inl s0), (L, zB1, I, J)) := by
  rw [zgo_run X C _ _ [0, 10, 61, 71, 81, 91, 100] 2]
  rfl
set_option maxRecDepth 100000 in
theorem bX9_man_81 (X : Nat → Nat → Int32) (C : Nat → List zV → zS → Option zR) (L : List zK) (I : Nat → Nat → Int32) (J : Nat → Nat → Int64) (v1 : Int32) (v2 : Int32) (s0 : Int32) : zgo X C (some .int) kX9_man 81 [some (.inr (.inr (some (.inl 9, 283)))), some (.inl v1), some (.inl v2)] [.inl s0] (L, zB1, I, J) = some (some (.inl s0), (L, zB1, I, J)) := by
  rw [zgo_run X C _ _ [0, 10, 61, 71, 81, 91, 100] 2]
  rfl
set_option maxRecDepth 100000 in
theorem bX9_man_91 (X : Nat → Nat → Int32) (C : Nat → List zV → zS → Option zR) (L : List zK) (I : Nat → Nat → Int32) (J : Nat → Nat → Int64) (v1 : Int32) (v2 : Int32) (s0 : Int32) : zgo X C (some .int) kX9_man 91 [some (.inr (.inr (some (.inl 9, 283)))), some (.inl v1), some (.inl v2)] [.inl s0] (L, zB1, I, J) = some (some (.inl s0), (L, zB1, I, J)) := by
  rw [zgo_run X C _ _ [0, 10, 61, 71, 81, 91, 100] 2]
  rfl
set_option maxRecDepth 100000 in
theorem bX9_man_100 (X : Nat → Nat → Int32) (C : Nat → List zV → zS → Option zR) (L : List zK) (I : Nat → Nat → Int32) (J : Nat → Nat → Int64) (v1 : Int32) (v2 : Int32) (s0 : Int32) : zgo X C (some .int) kX9_man 100 [some (.inr (.inr (some (.inl 9, 283)))), some (.inl v1), some (.inl v2)] [.inl s0] (L, zB1, I, J) = some (some (.inl s0), (L, zB1, I, J)) := by
  rw [zgo_run X C _ _ [0, 10, 61, 71, 81, 91, 100] 2]
  rfl

set_option maxRecDepth 100000 in
theorem bX9_judge_0 (X : Nat → Nat → Int32) (C : Nat → List zV → zS → Option zR) (L : List zK) (I : Nat → Nat → Int32) (J : Nat → Nat → Int64) (a1 : Int32) (a2 : Int32) : zgo X C (some .int) kX9_judge 0 [some (.inr (.inr (some (.inl 9, 283)))), some (.inl a1), some (.inl a2), none, none] [] (L, zB1, I, J) = cI (C 177 [.inr (.inr (some (.inl 9, 283))), .inl a1] (L, zB1, (zup I 283 0 0), J)) (fun r σ => zgo X C (some .int) kX9_judge 10 [some (.inr (.inr (some (.inl 9, 283)))), some (.inl a1), some (.inl a2), none, none] [.inl r] σ) := by
  rw [zgo_run X C _ _ [0, 10, 21, 43, 57, 67, 68, 116, 125, 142] 7]
  rfl
set_option maxRecDepth 100000 in
theorem bX9_judge_10 (X : Nat → Nat → Int32) (C : Nat → List zV → zS → Option zR) (L : List zK) (I : Nat → Nat → Int32) (J : Nat → Nat → Int64) (v1 : Int32) (v2 : Int32) (s0 : Int32) : zgo X C (some .int) kX9_judge 10 [some (.inr (.inr (some (.inl 9, 283)))), some (.inl v1), some (.inl v2), none, none] [.inl s0] (L, zB1, I, J) = if s0 = 0 then some (some (.inl (-1000001)), (L, zB1, I, J)) else zgo X C (some .int) kX9_judge 21 [some (.inr (.inr (some (.inl 9, 283)))), some (.inl v1), some (.inl v2), some (.inl 0), some (.inl 0)] [] (L, zB1, I, J) := by
  rw [zgo_run X C _ _ [0, 10, 21, 43, 57, 67, 68, 116, 125, 142] 6]
  rfl
set_option maxRecDepth 100000 in
theorem bX9_judge_21 (X : Nat → Nat → Int32) (C : Nat → List zV → zS → Option zR) (L : List zK) (I : Nat → Nat → Int32) (J : Nat → Nat → Int64) (v1 : Int32) (v2 : Int32) (v3 : Int32) (v4 : Int32) : zgo X C (some .int) kX9_judge 21 [some (.inr (.inr (some (.inl 9, 283)))), some (.inl v1), some (.inl v2), some (.inl v3), some (.inl v4)] [] (L, zB1, I, J) = zbt (zin 0 43) (if (I 287 (0 : Int32).toNatClampNeg) ≤ v4 then if v2 = 0 then cI (C 182 [.inr (.inr (some (.inr (.int, 43), 287))), .inl v1] (L, zB1, I, J)) (fun r σ => zgo X C (some .int) kX9_judge 116 [some (.inr (.inr (some (.inl 9, 283)))), some (.inl v1), some (.inl v2), some (.inl v3), some (.inl v4)] [.inl r] σ) else if v2 = 1 then cI (C 183 [.inr (.inr (some (.inr (.int, 43), 287))), .inl v1] (L, zB1, I, J)) (fun r σ => zgo X C (some .int) kX9_judge 125 [some (.inr (.inr (some (.inl 9, 283)))), some (.inl v1), some (.inl v2), some (.inl v3), some (.inl v4)] [.inl r] σ) else if v2 = 2 then cI (C 185 [.inr (.inr (some (.inr (.int, 43), 287))), .inl v1] (L, zB1, I, J)) (fun r σ => zgo X C (some .int) kX9_judge 142 [some (.inr (.inr (some (.inl 9, 283)))), some (.inl v1), some (.inl v2), some (.inl v3), some (.inl v4)] [.inl r] σ) else if v2 = 3 then some (some (.inl v3), (L, zB1, I, J)) else some (some (.inl (-1000001)), (L, zB1, I, J)) else cI (C 180 [.inr (.inr (some (.inr (.int, 43), 287))), .inl v4, .inl 1] (L, zB1, I, J)) (fun r σ => zgo X C (some .int) kX9_judge 43 [some (.inr (.inr (some (.inl 9, 283)))), some (.inl v1), some (.inl v2), some (.inl v3), some (.inl v4)] [.inl r, .inl v3] σ)) := by
  rw [zgo_run X C _ _ [0, 10, 21, 43, 57, 67, 68, 116, 125, 142] 13]
  rfl
set_option maxRecDepth 100000 in
theorem bX9_judge_43 (X : Nat → Nat → Int32) (C : Nat → List zV → zS → Option zR) (L : List zK) (I : Nat → Nat → Int32) (J : Nat → Nat → Int64) (v1 : Int32) (v2 : Int32) (v3 : Int32) (v4 : Int32) (s0 : Int32) (s1 : Int32) : zgo X C (some .int) kX9_judge 43 [some (.inr (.inr (some (.inl 9, 283)))), some (.inl v1), some (.inl v2), some (.inl v3), some (.inl v4)] [.inl s0, .inl s1] (L, zB1, I, J) = if s0 = v1 then cI (C 180 [.inr (.inr (some (.inr (.int, 43), 287))), .inl v4, .inl 3] (L, zB1, I, J)) (fun r σ => zgo X C (some .int) kX9_judge 57 [some (.inr (.inr (some (.inl 9, 283)))), some (.inl v1), some (.inl v2), some (.inl v3), some (.inl v4)] [.inl r, .inl s1] σ) else zgo X C (some .int) kX9_judge 67 [some (.inr (.inr (some (.inl 9, 283)))), some (.inl v1), some (.inl v2), some (.inl v3), some (.inl v4)] [.inl s1] (L, zB1, I, J) := by
  rw [zgo_run X C _ _ [0, 10, 21, 43, 57, 67, 68, 116, 125, 142] 8]
  rfl
set_option maxRecDepth 100000 in
theorem bX9_judge_57 (X : Nat → Nat → Int32) (C : Nat → List zV → zS → Option zR) (L : List zK) (I : Nat → Nat → Int32) (J : Nat → Nat → Int64) (v1 : Int32) (v2 : Int32) (v3 : Int32) (v4 : Int32) (s0 : Int32) (s1 : Int32) : zgo X C (some .int) kX9_judge 57 [some (.inr (.inr (some (.inl 9, 283)))), some (.inl v1), some (.inl v2), some (.inl v3), some (.inl v4)] [.inl s0, .inl s1] (L, zB1, I, J) = if s0 = 0 then zgo X C (some .int) kX9_judge 68 [some (.inr (.inr (some (.inl 9, 283)))), some (.inl v1), some (.inl v2), some (.inl v3), some (.inl v4)] [.inl (1 <<< (v4 &&& 31)), .inl s1] (L, zB1, I, J) else zgo X C (some .int) kX9_judge 67 [some (.inr (.inr (some (.inl 9, 283)))), some (.inl v1), some (.inl v2), some (.inl v3), some (.inl v4)] [.inl s1] (L, zB1, I, J) := by
  rw [zgo_run X C _ _ [0, 10, 21, 43, 57, 67, 68, 116, 125, 142] 6]
  rfl
set_option maxRecDepth 100000 in
theorem bX9_judge_67 (X : Nat → Nat → Int32) (C : Nat → List zV → zS → Option zR) (L : List zK) (I : Nat → Nat → Int32) (J : Nat → Nat → Int64) (v1 : Int32) (v2 : Int32) (v3 : Int32) (v4 : Int32) (s0 : Int32) : zgo X C (some .int) kX9_judge 67 [some (.inr (.inr (some (.inl 9, 283)))), some (.inl v1), some (.inl v2), some (.inl v3), some (.inl v4)] [.inl s0] (L, zB1, I, J) = zgo X C (some .int) kX9_judge 68 [some (.inr (.inr (some (.inl 9, 283)))), some (.inl v1), some (.inl v2), some (.inl v3), some (.inl v4)] [.inl 0, .inl s0] (L, zB1, I, J) := by
  rw [zgo_run X C _ _ [0, 10, 21, 43, 57, 67, 68, 116, 125, 142] 2]
  rfl
set_option maxRecDepth 100000 in
theorem bX9_judge_68 (X : Nat → Nat → Int32) (C : Nat → List zV → zS → Option zR) (L : List zK) (I : Nat → Nat → Int32) (J : Nat → Nat → Int64) (v1 : Int32) (v2 : Int32) (v3 : Int32) (v4 : Int32) (s0 : Int32) (s1 : Int32) : zgo X C (some .int) kX9_judge 68 [some (.inr (.inr (some (.inl 9, 283)))), some (.inl v1), some (.inl v2), some (.inl v3), some (.inl v4)] [.inl s0, .inl s1] (L, zB1, I, J) = zgo X C (some .int) kX9_judge 21 [some (.inr (.inr (some (.inl 9, 283)))), some (.inl v1), some (.inl v2), some (.inl (s1 ||| s0)), some (.inl (v4 + 1))] [] (L, zB1, I, J) := by
  rw [zgo_run X C _ _ [0, 10, 21, 43, 57, 67, 68, 116, 125, 142] 5]
  rfl
set_option maxRecDepth 100000 in
theorem bX9_judge_116 (X : Nat → Nat → Int32) (C : Nat → List zV → zS → Option zR) (L : List zK) (I : Nat → Nat → Int32) (J : Nat → Nat → Int64) (v1 : Int32) (v2 : Int32) (v3 : Int32) (v4 : Int32) (s0 : Int32) : zgo X C (some .int) kX9_judge 116 [some (.inr (.inr (some (.inl 9, 283)))), some (.inl v1), some (.inl v2), some (.inl v3), some (.inl v4)] [.inl s0] (L, zB1, I, J) = some (some (.inl s0), (L, zB1, I, J)) := by
  rw [zgo_run X C _ _ [0, 10, 21, 43, 57, 67, 68, 116, 125, 142] 2]
  rfl
set_option maxRecDepth 100000 in
theorem bX9_judge_125 (X : Nat → Nat → Int32) (C : Nat → List zV → zS → Option zR) (L : List zK) (I : Nat → Nat → Int32) (J : Nat → Nat → Int64) (v1 : Int32) (v2 : Int32) (v3 : Int32) (v4 : Int32) (s0 : Int32) : zgo X C (some .int) kX9_judge 125 [some (.inr (.inr (some (.inl 9, 283)))), some (.inl v1), some (.inl v2), some (.inl v3), some (.inl v4)] [.inl s0] (L, zB1, I, J) = if s0 = 0 then some (some (.inl 0), (L, zB1, I, J)) else some (some (.inl 1), (L, zB1, I, J)) := by
  rw [zgo_run X C _ _ [0, 10, 21, 43, 57, 67, 68, 116, 125, 142] 5]
  rfl
set_option maxRecDepth 100000 in
theorem bX9_judge_142 (X : Nat → Nat → Int32) (C : Nat → List zV → zS → Option zR) (L : List zK) (I : Nat → Nat → Int32) (J : Nat → Nat → Int64) (v1 : Int32) (v2 : Int32) (v3 : Int32) (v4 : Int32) (s0 : Int32) : zgo X C (some .int) kX9_judge 142 [some (.inr (.inr (some (.inl 9, 283)))), some (.inl v1), some (.inl v2), some (.inl v3), some (.inl v4)] [.inl s0] (L, zB1, I, J) = some (some (.inl s0), (L, zB1, I, J)) := by
  rw [zgo_run X C _ _ [0, 10, 21, 43, 57, 67, 68, 116, 125, 142] 2]
  rfl

set_option maxRecDepth 100000 in
theorem bX9_stand_0 (X : Nat → Nat → Int32) (C : Nat → List zV → zS → Option zR) (L : List zK) (I : Nat → Nat → Int32) (J : Nat → Nat → Int64) (a1 : Int32) : zgo X C (some .int) kX9_stand 0 [some (.inr (.inr (some (.inl 9, 283)))), some (.inl a1)] [] (L, zB1, I, J) = cI (C 175 [.inr (.inr (some (.inl 9, 283)))] (L, zB1, (zup I 283 0 0), J)) (fun r σ => zgo X C (some .int) kX9_stand 9 [some (.inr (.inr (some (.inl 9, 283)))), some (.inl a1)] [.inl r] σ) := by
  rw [zgo_run X C _ _ [0, 9, 24, 43] 6]
  rfl
set_option maxRecDepth 100000 in
theorem bX9_stand_9 (X : Nat → Nat → Int32) (C : Nat → List zV → zS → Option zR) (L : List zK) (I : Nat → Nat → Int32) (J : Nat → Nat → Int64) (v1 : Int32) (s0 : Int32) : zgo X C (some .int) kX9_stand 9 [some (.inr (.inr (some (.inl 9, 283)))), some (.inl v1)] [.inl s0] (L, zB1, I, J) = if s0 = 0 then some (some (.inl (-1000002)), (L, zB1, I, J)) else cI (C 153 [.inr (.inl ((v1).toInt64)), .inr (.inl 0), .inr (.inl 5)] (L, zB1, I, J)) (fun r σ => zgo X C (some .int) kX9_stand 24 [some (.inr (.inr (some (.inl 9, 283)))), some (.inl v1)] [.inl r] σ) := by
  rw [zgo_run X C _ _ [0, 9, 24, 43] 7]
  rfl
set_option maxRecDepth 100000 in
theorem bX9_stand_24 (X : Nat → Nat → Int32) (C : Nat → List zV → zS → Option zR) (L : List zK) (I : Nat → Nat → Int32) (J : Nat → Nat → Int64) (v1 : Int32) (s0 : Int32) : zgo X C (some .int) kX9_stand 24 [some (.inr (.inr (some (.inl 9, 283)))), some (.inl v1)] [.inl s0] (L, zB1, I, J) = if s0 = 0 then some (some (.inl (-1000001)), (L, zB1, I, J)) else if (4 : Int32) ≤ v1 then if v1 = 4 then zbt (zin 2 43) (some (some (.inl (I 287 (2 : Int32).toNatClampNeg)), (L, zB1, I, J))) else zbt (zin 3 43) (some (some (.inl (I 287 (3 : Int32).toNatClampNeg)), (L, zB1, I, J))) else cI (C 184 [.inr (.inr (some (.inr (.int, 43), 287))), .inl v1] (L, zB1, I, J)) (fun r σ => zgo X C (some .int) kX9_stand 43 [some (.inr (.inr (some (.inl 9, 283)))), some (.inl v1)] [.inl r] σ) := by
  rw [zgo_run X C _ _ [0, 9, 24, 43] 14]
  rfl
set_option maxRecDepth 100000 in
theorem bX9_stand_43 (X : Nat → Nat → Int32) (C : Nat → List zV → zS → Option zR) (L : List zK) (I : Nat → Nat → Int32) (J : Nat → Nat → Int64) (v1 : Int32) (s0 : Int32) : zgo X C (some .int) kX9_stand 43 [some (.inr (.inr (some (.inl 9, 283)))), some (.inl v1)] [.inl s0] (L, zB1, I, J) = some (some (.inl s0), (L, zB1, I, J)) := by
  rw [zgo_run X C _ _ [0, 9, 24, 43] 3]
  rfl

set_option maxRecDepth 100000 in
theorem bX9_ahead_0 (X : Nat → Nat → Int32) (C : Nat → List zV → zS → Option zR) (L : List zK) (I : Nat → Nat → Int32) (J : Nat → Nat → Int64) (a1 : Int32) (a2 : Int32) (a3 : Int32) : zgo X C (some .int) kX9_ahead 0 [some (.inr (.inr (some (.inl 9, 283)))), some (.inl a1), some (.inl a2), some (.inl a3)] [] (L, zB1, I, J) = cI (C 176 [.inr (.inr (some (.inl 9, 283))), .inl a1] (L, zB1, (zup I 283 0 0), J)) (fun r σ => zgo X C (some .int) kX9_ahead 10 [some (.inr (.inr (some (.inl 9, 283)))), some (.inl a1), some (.inl a2), some (.inl a3)] [.inl r] σ) := by
  rw [zgo_run X C _ _ [0, 10, 22, 34, 44, 52, 78] 7]
  rfl
set_option maxRecDepth 100000 in
theorem bX9_ahead_10 (X : Nat → Nat → Int32) (C : Nat → List zV → zS → Option zR) (L : List zK) (I : Nat → Nat → Int32) (J : Nat → Nat → Int64) (v1 : Int32) (v2 : Int32) (v3 : Int32) (s0 : Int32) : zgo X C (some .int) kX9_ahead 10 [some (.inr (.inr (some (.inl 9, 283)))), some (.inl v1), some (.inl v2), some (.inl v3)] [.inl s0] (L, zB1, I, J) = if s0 = 0 then some (some (.inl (-1000001)), (L, zB1, I, J)) else cI (C 153 [.inr (.inl ((v2).toInt64)), .inr (.inl 0), .inr (.inl 60)] (L, zB1, I, J)) (fun r σ => zgo X C (some .int) kX9_ahead 22 [some (.inr (.inr (some (.inl 9, 283)))), some (.inl v1), some (.inl v2), some (.inl v3)] [.inl r] σ) := by
  rw [zgo_run X C _ _ [0, 10, 22, 34, 44, 52, 78] 7]
  rfl
set_option maxRecDepth 100000 in
theorem bX9_ahead_22 (X : Nat → Nat → Int32) (C : Nat → List zV → zS → Option zR) (L : List zK) (I : Nat → Nat → Int32) (J : Nat → Nat → Int64) (v1 : Int32) (v2 : Int32) (v3 : Int32) (s0 : Int32) : zgo X C (some .int) kX9_ahead 22 [some (.inr (.inr (some (.inl 9, 283)))), some (.inl v1), some (.inl v2), some (.inl v3)] [.inl s0] (L, zB1, I, J) = if s0 = 0 then some (some (.inl (-1000001)), (L, zB1, I, J)) else cI (C 153 [.inr (.inl ((v3).toInt64)), .inr (.inl 0), .inr (.inl 2)] (L, zB1, I, J)) (fun r σ => zgo X C (some .int) kX9_ahead 34 [some (.inr (.inr (some (.inl 9, 283)))), some (.inl v1), some (.inl v2), some (.inl v3)] [.inl r] σ) := by
  rw [zgo_run X C _ _ [0, 10, 22, 34, 44, 52, 78] 7]
  rfl
set_option maxRecDepth 100000 in
theorem bX9_ahead_34 (X : Nat → Nat → Int32) (C : Nat → List zV → zS → Option zR) (L : List zK) (I : Nat → Nat → Int32) (J : Nat → Nat → Int64) (v1 : Int32) (v2 : Int32) (v3 : Int32) (s0 : Int32) : zgo X C (some .int) kX9_ahead 34 [some (.inr (.inr (some (.inl 9, 283)))), some (.inl v1), some (.inl v2), some (.inl v3)] [.inl s0] (L, zB1, I, J) = if s0 = 0 then some (some (.inl (-1000001)), (L, zB1, I, J)) else cV (C 191 [.inr (.inr (some (.inl 9, 283)))] (L, zB1, I, J)) (fun σ => zgo X C (some .int) kX9_ahead 44 [some (.inr (.inr (some (.inl 9, 283)))), some (.inl v1), some (.inl v2), some (.inl v3)] [] σ) := by
  rw [zgo_run X C _ _ [0, 10, 22, 34, 44, 52, 78] 4]
  rfl
set_option maxRecDepth 100000 in
theorem bX9_ahead_44 (X : Nat → Nat → Int32) (C : Nat → List zV → zS → Option zR) (L : List zK) (I : Nat → Nat → Int32) (J : Nat → Nat → Int64) (v1 : Int32) (v2 : Int32) (v3 : Int32) : zgo X C (some .int) kX9_ahead 44 [some (.inr (.inr (some (.inl 9, 283)))), some (.inl v1), some (.inl v2), some (.inl v3)] [] (L, zB1, I, J) = cV (C 188 [.inr (.inr (some (.inr (.int, 43), 289))), .inl v2] (L, zB1, I, J)) (fun σ => zgo X C (some .int) kX9_ahead 52 [some (.inr (.inr (some (.inl 9, 283)))), some (.inl v1), some (.inl v2), some (.inl v3)] [] σ) := by
  rw [zgo_run X C _ _ [0, 10, 22, 34, 44, 52, 78] 5]
  rfl
set_option maxRecDepth 100000 in
theorem bX9_ahead_52 (X : Nat → Nat → Int32) (C : Nat → List zV → zS → Option zR) (L : List zK) (I : Nat → Nat → Int32) (J : Nat → Nat → Int64) (v1 : Int32) (v2 : Int32) (v3 : Int32) : zgo X C (some .int) kX9_ahead 52 [some (.inr (.inr (some (.inl 9, 283)))), some (.inl v1), some (.inl v2), some (.inl v3)] [] (L, zB1, I, J) = if v3 = 0 then cI (C 180 [.inr (.inr (some (.inr (.int, 43), 289))), .inl v1, .inl 4] (L, zB1, I, J)) (fun r σ => zgo X C (some .int) kX9_ahead 78 [some (.inr (.inr (some (.inl 9, 283)))), some (.inl v1), some (.inl v2), some (.inl v3)] [.inl r] σ) else if v3 = 1 then cI (C 180 [.inr (.inr (some (.inr (.int, 43), 289))), .inl v1, .inl 3] (L, zB1, I, J)) (fun r σ => zgo X C (some .int) kX9_ahead 78 [some (.inr (.inr (some (.inl 9, 283)))), some (.inl v1), some (.inl v2), some (.inl v3)] [.inl r] σ) else cI (C 180 [.inr (.inr (some (.inr (.int, 43), 289))), .inl v1, .inl 2] (L, zB1, I, J)) (fun r σ => zgo X C (some .int) kX9_ahead 78 [some (.inr (.inr (some (.inl 9, 283)))), some (.inl v1), some (.inl v2), some (.inl v3)] [.inl r] σ) := by
  rw [zgo_run X C _ _ [0, 10, 22, 34, 44, 52, 78] 12]
  rfl
set_option maxRecDepth 100000 in
theorem bX9_ahead_78 (X : Nat → Nat → Int32) (C : Nat → List zV → zS → Option zR) (L : List zK) (I : Nat → Nat → Int32) (J : Nat → Nat → Int64) (v1 : Int32) (v2 : Int32) (v3 : Int32) (s0 : Int32) : zgo X C (some .int) kX9_ahead 78 [some (.inr (.inr (some (.inl 9, 283)))), some (.inl v1), some (.inl v2), some (.inl v3)] [.inl s0] (L, zB1, I, J) = some (some (.inl s0), (L, zB1, I, J)) := by
  rw [zgo_run X C _ _ [0, 10, 22, 34, 44, 52, 78] 2]
  rfl

set_option maxRecDepth 100000 in
theorem bX9_by_0 (X : Nat → Nat → Int32) (C : Nat → List zV → zS → Option zR) (L : List zK) (I : Nat → Nat → Int32) (J : Nat → Nat → Int64) (a1 : Int32) (a2 : Int32) : zgo X C (some .int) kX9_by 0 [some (.inr (.inr (some (.inl 9, 283)))), some (.inl a1), some (.inl a2)] [] (L, zB1, I, J) = cI (C 177 [.inr (.inr (some (.inl 9, 283))), .inl a1] (L, zB1, (zup I 283 0 0), J)) (fun r σ => zgo X C (some .int) kX9_by 10 [some (.inr (.inr (some (.inl 9, 283)))), some (.inl a1), some (.inl a2)] [.inl r] σ) := by
  rw [zgo_run X C _ _ [0, 10, 22, 32, 40, 48] 7]
  rfl
set_option maxRecDepth 100000 in
theorem bX9_by_10 (X : Nat → Nat → Int32) (C : Nat → List zV → zS → Option zR) (L : List zK) (I : Nat → Nat → Int32) (J : Nat → Nat → Int64) (v1 : Int32) (v2 : Int32) (s0 : Int32) : zgo X C (some .int) kX9_by 10 [some (.inr (.inr (some (.inl 9, 283)))), some (.inl v1), some (.inl v2)] [.inl s0] (L, zB1, I, J) = if s0 = 0 then some (some (.inl (-1000001)), (L, zB1, I, J)) else cI (C 153 [.inr (.inl ((v2).toInt64)), .inr (.inl 0), .inr (.inl 60)] (L, zB1, I, J)) (fun r σ => zgo X C (some .int) kX9_by 22 [some (.inr (.inr (some (.inl 9, 283)))), some (.inl v1), some (.inl v2)] [.inl r] σ) := by
  rw [zgo_run X C _ _ [0, 10, 22, 32, 40, 48] 7]
  rfl
set_option maxRecDepth 100000 in
theorem bX9_by_22 (X : Nat → Nat → Int32) (C : Nat → List zV → zS → Option zR) (L : List zK) (I : Nat → Nat → Int32) (J : Nat → Nat → Int64) (v1 : Int32) (v2 : Int32) (s0 : Int32) : zgo X C (some .int) kX9_by 22 [some (.inr (.inr (some (.inl 9, 283)))), some (.inl v1), some (.inl v2)] [.inl s0] (L, zB1, I, J) = if s0 = 0 then some (some (.inl (-1000001)), (L, zB1, I, J)) else cV (C 191 [.inr (.inr (some (.inl 9, 283)))] (L, zB1, I, J)) (fun σ => zgo X C (some .int) kX9_by 32 [some (.inr (.inr (some (.inl 9, 283)))), some (.inl v1), some (.inl v2)] [] σ) := by
  rw [zgo_run X C _ _ [0, 10, 22, 32, 40, 48] 4]
  rfl
set_option maxRecDepth 100000 in
theorem bX9_by_32 (X : Nat → Nat → Int32) (C : Nat → List zV → zS → Option zR) (L : List zK) (I : Nat → Nat → Int32) (J : Nat → Nat → Int64) (v1 : Int32) (v2 : Int32) : zgo X C (some .int) kX9_by 32 [some (.inr (.inr (some (.inl 9, 283)))), some (.inl v1), some (.inl v2)] [] (L, zB1, I, J) = cV (C 188 [.inr (.inr (some (.inr (.int, 43), 289))), .inl v2] (L, zB1, I, J)) (fun σ => zgo X C (some .int) kX9_by 40 [some (.inr (.inr (some (.inl 9, 283)))), some (.inl v1), some (.inl v2)] [] σ) := by
  rw [zgo_run X C _ _ [0, 10, 22, 32, 40, 48] 5]
  rfl
set_option maxRecDepth 100000 in
theorem bX9_by_40 (X : Nat → Nat → Int32) (C : Nat → List zV → zS → Option zR) (L : List zK) (I : Nat → Nat → Int32) (J : Nat → Nat → Int64) (v1 : Int32) (v2 : Int32) : zgo X C (some .int) kX9_by 40 [some (.inr (.inr (some (.inl 9, 283)))), some (.inl v1), some (.inl v2)] [] (L, zB1, I, J) = cI (C 185 [.inr (.inr (some (.inr (.int, 43), 289))), .inl v1] (L, zB1, I, J)) (fun r σ => zgo X C (some .int) kX9_by 48 [some (.inr (.inr (some (.inl 9, 283)))), some (.inl v1), some (.inl v2)] [.inl r] σ) := by
  rw [zgo_run X C _ _ [0, 10, 22, 32, 40, 48] 5]
  rfl
set_option maxRecDepth 100000 in
theorem bX9_by_48 (X : Nat → Nat → Int32) (C : Nat → List zV → zS → Option zR) (L : List zK) (I : Nat → Nat → Int32) (J : Nat → Nat → Int64) (v1 : Int32) (v2 : Int32) (s0 : Int32) : zgo X C (some .int) kX9_by 48 [some (.inr (.inr (some (.inl 9, 283)))), some (.inl v1), some (.inl v2)] [.inl s0] (L, zB1, I, J) = some (some (.inl s0), (L, zB1, I, J)) := by
  rw [zgo_run X C _ _ [0, 10, 22, 32, 40, 48] 2]
  rfl

set_option maxRecDepth 100000 in
theorem bX9_when_0 (X : Nat → Nat → Int32) (C : Nat → List zV → zS → Option zR) (L : List zK) (I : Nat → Nat → Int32) (J : Nat → Nat → Int64) (a1 : Int32) (a2 : Int32) : zgo X C (some .int) kX9_when 0 [some (.inr (.inr (some (.inl 9, 283)))), some (.inl a1), some (.inl a2), none] [] (L, zB1, I, J) = cI (C 176 [.inr (.inr (some (.inl 9, 283))), .inl a1] (L, zB1, (zup I 283 0 0), J)) (fun r σ => zgo X C (some .int) kX9_when 10 [some (.inr (.inr (some (.inl 9, 283)))), some (.inl a1), some (.inl a2), none] [.inl r] σ) := by
  rw [zgo_run X C _ _ [0, 10, 22, 32, 34, 49, 63] 7]
  rfl
set_option maxRecDepth 100000 in
theorem bX9_when_10 (X : Nat → Nat → Int32) (C : Nat → List zV → zS → Option zR) (L : List zK) (I : Nat → Nat → Int32) (J : Nat → Nat → Int64) (v1 : Int32) (v2 : Int32) (s0 : Int32) : zgo X C (some .int) kX9_when 10 [some (.inr (.inr (some (.inl 9, 283)))), some (.inl v1), some (.inl v2), none] [.inl s0] (L, zB1, I, J) = if s0 = 0 then some (some (.inl (-1000001)), (L, zB1, I, J)) else cI (C 153 [.inr (.inl ((v2).toInt64)), .inr (.inl 1), .inr (.inl 3)] (L, zB1, I, J)) (fun r σ => zgo X C (some .int) kX9_when 22 [some (.inr (.inr (some (.inl 9, 283)))), some (.inl v1), some (.inl v2), none] [.inl r] σ) := by
  rw [zgo_run X C _ _ [0, 10, 22, 32, 34, 49, 63] 7]
  rfl
set_option maxRecDepth 100000 in
theorem bX9_when_22 (X : Nat → Nat → Int32) (C : Nat → List zV → zS → Option zR) (L : List zK) (I : Nat → Nat → Int32) (J : Nat → Nat → Int64) (v1 : Int32) (v2 : Int32) (s0 : Int32) : zgo X C (some .int) kX9_when 22 [some (.inr (.inr (some (.inl 9, 283)))), some (.inl v1), some (.inl v2), none] [.inl s0] (L, zB1, I, J) = if s0 = 0 then some (some (.inl (-1000001)), (L, zB1, I, J)) else cV (C 191 [.inr (.inr (some (.inl 9, 283)))] (L, zB1, I, J)) (fun σ => zgo X C (some .int) kX9_when 32 [some (.inr (.inr (some (.inl 9, 283)))), some (.inl v1), some (.inl v2), none] [] σ) := by
  rw [zgo_run X C _ _ [0, 10, 22, 32, 34, 49, 63] 4]
  rfl
set_option maxRecDepth 100000 in
theorem bX9_when_32 (X : Nat → Nat → Int32) (C : Nat → List zV → zS → Option zR) (L : List zK) (I : Nat → Nat → Int32) (J : Nat → Nat → Int64) (v1 : Int32) (v2 : Int32) : zgo X C (some .int) kX9_when 32 [some (.inr (.inr (some (.inl 9, 283)))), some (.inl v1), some (.inl v2), none] [] (L, zB1, I, J) = zgo X C (some .int) kX9_when 34 [some (.inr (.inr (some (.inl 9, 283)))), some (.inl v1), some (.inl v2), some (.inl 0)] [] (L, zB1, I, J) := by
  rw [zgo_run X C _ _ [0, 10, 22, 32, 34, 49, 63] 3]
  rfl
set_option maxRecDepth 100000 in
theorem bX9_when_34 (X : Nat → Nat → Int32) (C : Nat → List zV → zS → Option zR) (L : List zK) (I : Nat → Nat → Int32) (J : Nat → Nat → Int64) (v1 : Int32) (v2 : Int32) (v3 : Int32) : zgo X C (some .int) kX9_when 34 [some (.inr (.inr (some (.inl 9, 283)))), some (.inl v1), some (.inl v2), some (.inl v3)] [] (L, zB1, I, J) = if (60 : Int32) < v3 then some (some (.inl (-1000000)), (L, zB1, I, J)) else cI (C 180 [.inr (.inr (some (.inr (.int, 43), 289))), .inl v1, .inl 3] (L, zB1, I, J)) (fun r σ => zgo X C (some .int) kX9_when 49 [some (.inr (.inr (some (.inl 9, 283)))), some (.inl v1), some (.inl v2), some (.inl v3)] [.inl r] σ) := by
  rw [zgo_run X C _ _ [0, 10, 22, 32, 34, 49, 63] 9]
  rfl
set_option maxRecDepth 100000 in
theorem bX9_when_49 (X : Nat → Nat → Int32) (C : Nat → List zV → zS → Option zR) (L : List zK) (I : Nat → Nat → Int32) (J : Nat → Nat → Int64) (v1 : Int32) (v2 : Int32) (v3 : Int32) (s0 : Int32) : zgo X C (some .int) kX9_when 49 [some (.inr (.inr (some (.inl 9, 283)))), some (.inl v1), some (.inl v2), some (.inl v3)] [.inl s0] (L, zB1, I, J) = if s0 = v2 then some (some (.inl v3), (L, zB1, I, J)) else cV (C 187 [.inr (.inr (some (.inr (.int, 43), 289))), .inl 0] (L, zB1, I, J)) (fun σ => zgo X C (some .int) kX9_when 63 [some (.inr (.inr (some (.inl 9, 283)))), some (.inl v1), some (.inl v2), some (.inl v3)] [] σ) := by
  rw [zgo_run X C _ _ [0, 10, 22, 32, 34, 49, 63] 7]
  rfl
set_option maxRecDepth 100000 in
theorem bX9_when_63 (X : Nat → Nat → Int32) (C : Nat → List zV → zS → Option zR) (L : List zK) (I : Nat → Nat → Int32) (J : Nat → Nat → Int64) (v1 : Int32) (v2 : Int32) (v3 : Int32) : zgo X C (some .int) kX9_when 63 [some (.inr (.inr (some (.inl 9, 283)))), some (.inl v1), some (.inl v2), some (.inl v3)] [] (L, zB1, I, J) = zgo X C (some .int) kX9_when 34 [some (.inr (.inr (some (.inl 9, 283)))), some (.inl v1), some (.inl v2), some (.inl (v3 + 1))] [] (L, zB1, I, J) := by
  rw [zgo_run X C _ _ [0, 10, 22, 32, 34, 49, 63] 3]
  rfl

set_option maxRecDepth 100000 in
theorem bX9_sending_0 (X : Nat → Nat → Int32) (C : Nat → List zV → zS → Option zR) (L : List zK) (I : Nat → Nat → Int32) (J : Nat → Nat → Int64) (a1 : Int32) (a2 : Int32) : zgo X C (some .int) kX9_sending 0 [some (.inr (.inr (some (.inl 9, 283)))), some (.inl a1), some (.inl a2), none, none, none, none, none, none] [] (L, zB1, I, J) = cI (C 175 [.inr (.inr (some (.inl 9, 283)))] (L, zB1, (zup I 283 0 0), J)) (fun r σ => zgo X C (some .int) kX9_sending 9 [some (.inr (.inr (some (.inl 9, 283)))), some (.inl a1), some (.inl a2), none, none, none, none, none, none] [.inl r] σ) := by
  rw [zgo_run X C _ _ [0, 9, 24, 37, 43, 48, 70, 83, 97, 107, 121, 136, 158, 178, 205, 220, 231, 239, 243, 253, 270] 6]
  rfl
set_option maxRecDepth 100000 in
theorem bX9_sending_9 (X : Nat → Nat → Int32) (C : Nat → List zV → zS → Option zR) (L : List zK) (I : Nat → Nat → Int32) (J : Nat → Nat → Int64) (v1 : Int32) (v2 : Int32) (s0 : Int32) : zgo X C (some .int) kX9_sending 9 [some (.inr (.inr (some (.inl 9, 283)))), some (.inl v1), some (.inl v2), none, none, none, none, none, none] [.inl s0] (L, zB1, I, J) = if s0 = 0 then some (some (.inl (-1000002)), (L, zB1, I, J)) else cI (C 153 [.inr (.inl ((v1).toInt64)), .inr (.inl 1), .inr (.inl 30)] (L, zB1, I, J)) (fun r σ => zgo X C (some .int) kX9_sending 24 [some (.inr (.inr (some (.inl 9, 283)))), some (.inl v1), some (.inl v2), none, none, none, none, none, none] [.inl r] σ) := by
  rw [zgo_run X C _ _ [0, 9, 24, 37, 43, 48, 70, 83, 97, 107, 121, 136, 158, 178, 205, 220, 231, 239, 243, 253, 270] 7]
  rfl
set_option maxRecDepth 100000 in
theorem bX9_sending_24 (X : Nat → Nat → Int32) (C : Nat → List zV → zS → Option zR) (L : List zK) (I : Nat → Nat → Int32) (J : Nat → Nat → Int64) (v1 : Int32) (v2 : Int32) (s0 : Int32) : zgo X C (some .int) kX9_sending 24 [some (.inr (.inr (some (.inl 9, 283)))), some (.inl v1), some (.inl v2), none, none, none, none, none, none] [.inl s0] (L, zB1, I, J) = if s0 = 0 then some (some (.inl (-1000001)), (L, zB1, I, J)) else if v2 = (-1) then zgo X C (some .int) kX9_sending 43 [some (.inr (.inr (some (.inl 9, 283)))), some (.inl v1), some (.inl v2), none, none, none, none, none, none] [] (L, zB1, I, J) else cI (C 176 [.inr (.inr (some (.inl 9, 283))), .inl v2] (L, zB1, I, J)) (fun r σ => zgo X C (some .int) kX9_sending 37 [some (.inr (.inr (some (.inl 9, 283)))), some (.inl v1), some (.inl v2), none, none, none, none, none, none] [.inl r] σ) := by
  rw [zgo_run X C _ _ [0, 9, 24, 37, 43, 48, 70, 83, 97, 107, 121, 136, 158, 178, 205, 220, 231, 239, 243, 253, 270] 8]
  rfl
set_option maxRecDepth 100000 in
theorem bX9_sending_37 (X : Nat → Nat → Int32) (C : Nat → List zV → zS → Option zR) (L : List zK) (I : Nat → Nat → Int32) (J : Nat → Nat → Int64) (v1 : Int32) (v2 : Int32) (s0 : Int32) : zgo X C (some .int) kX9_sending 37 [some (.inr (.inr (some (.inl 9, 283)))), some (.inl v1), some (.inl v2), none, none, none, none, none, none] [.inl s0] (L, zB1, I, J) = if s0 = 0 then some (some (.inl (-1000001)), (L, zB1, I, J)) else zgo X C (some .int) kX9_sending 43 [some (.inr (.inr (some (.inl 9, 283)))), some (.inl v1), some (.inl v2), none, none, none, none, none, none] [] (L, zB1, I, J) := by
  rw [zgo_run X C _ _ [0, 9, 24, 37, 43, 48, 70, 83, 97, 107, 121, 136, 158, 178, 205, 220, 231, 239, 243, 253, 270] 4]
  rfl
set_option maxRecDepth 100000 in
theorem bX9_sending_43 (X : Nat → Nat → Int32) (C : Nat → List zV → zS → Option zR) (L : List zK) (I : Nat → Nat → Int32) (J : Nat → Nat → Int64) (v1 : Int32) (v2 : Int32) : zgo X C (some .int) kX9_sending 43 [some (.inr (.inr (some (.inl 9, 283)))), some (.inl v1), some (.inl v2), none, none, none, none, none, none] [] (L, zB1, I, J) = zgo X C (some .int) kX9_sending 48 [some (.inr (.inr (some (.inl 9, 283)))), some (.inl v1), some (.inl v2), some (.inl 1), some (.inl 0), none, none, none, none] [] (L, zB1, I, J) := by
  rw [zgo_run X C _ _ [0, 9, 24, 37, 43, 48, 70, 83, 97, 107, 121, 136, 158, 178, 205, 220, 231, 239, 243, 253, 270] 5]
  rfl
set_option maxRecDepth 100000 in
theorem bX9_sending_48 (X : Nat → Nat → Int32) (C : Nat → List zV → zS → Option zR) (L : List zK) (I : Nat → Nat → Int32) (J : Nat → Nat → Int64) (v1 : Int32) (v2 : Int32) (v3 : Int32) (v4 : Int32) : zgo X C (some .int) kX9_sending 48 [some (.inr (.inr (some (.inl 9, 283)))), some (.inl v1), some (.inl v2), some (.inl v3), some (.inl v4), none, none, none, none] [] (L, zB1, I, J) = zbt (zin 0 43) (if (I 287 (0 : Int32).toNatClampNeg) ≤ v4 then zgo X C (some .int) kX9_sending 97 [some (.inr (.inr (some (.inl 9, 283)))), some (.inl v1), some (.inl v2), some (.inl v3), some (.inl (-1)), some (.inl 0), none, none, none] [] (L, zB1, I, J) else cI (C 180 [.inr (.inr (some (.inr (.int, 43), 287))), .inl v4, .inl 3] (L, zB1, I, J)) (fun r σ => zgo X C (some .int) kX9_sending 70 [some (.inr (.inr (some (.inl 9, 283)))), some (.inl v1), some (.inl v2), some (.inl v3), some (.inl v4), none, none, none, none] [.inl r, .inl v3] σ)) := by
  rw [zgo_run X C _ _ [0, 9, 24, 37, 43, 48, 70, 83, 97, 107, 121, 136, 158, 178, 205, 220, 231, 239, 243, 253, 270] 13]
  rfl
set_option maxRecDepth 100000 in
theorem bX9_sending_70 (X : Nat → Nat → Int32) (C : Nat → List zV → zS → Option zR) (L : List zK) (I : Nat → Nat → Int32) (J : Nat → Nat → Int64) (v1 : Int32) (v2 : Int32) (v3 : Int32) (v4 : Int32) (s0 : Int32) (s1 : Int32) : zgo X C (some .int) kX9_sending 70 [some (.inr (.inr (some (.inl 9, 283)))), some (.inl v1), some (.inl v2), some (.inl v3), some (.inl v4), none, none, none, none] [.inl s0, .inl s1] (L, zB1, I, J) = if s0 = 0 then zbt (zin 1 43) (zgo X C (some .int) kX9_sending 83 [some (.inr (.inr (some (.inl 9, 283)))), some (.inl v1), some (.inl v2), some (.inl v3), some (.inl v4), none, none, none, none] [.inl (I 287 (1 : Int32).toNatClampNeg), .inl s1] (L, zB1, I, J)) else zgo X C (some .int) kX9_sending 83 [some (.inr (.inr (some (.inl 9, 283)))), some (.inl v1), some (.inl v2), some (.inl v3), some (.inl v4), none, none, none, none] [.inl 1, .inl s1] (L, zB1, I, J) := by
  rw [zgo_run X C _ _ [0, 9, 24, 37, 43, 48, 70, 83, 97, 107, 121, 136, 158, 178, 205, 220, 231, 239, 243, 253, 270] 7]
  rfl
set_option maxRecDepth 100000 in
theorem bX9_sending_83 (X : Nat → Nat → Int32) (C : Nat → List zV → zS → Option zR) (L : List zK) (I : Nat → Nat → Int32) (J : Nat → Nat → Int64) (v1 : Int32) (v2 : Int32) (v3 : Int32) (v4 : Int32) (s0 : Int32) (s1 : Int32) : zgo X C (some .int) kX9_sending 83 [some (.inr (.inr (some (.inl 9, 283)))), some (.inl v1), some (.inl v2), some (.inl v3), some (.inl v4), none, none, none, none] [.inl s0, .inl s1] (L, zB1, I, J) = zgo X C (some .int) kX9_sending 48 [some (.inr (.inr (some (.inl 9, 283)))), some (.inl v1), some (.inl v2), some (.inl (s1 * s0)), some (.inl (v4 + 1)), none, none, none, none] [] (L, zB1, I, J) := by
  rw [zgo_run X C _ _ [0, 9, 24, 37, 43, 48, 70, 83, 97, 107, 121, 136, 158, 178, 205, 220, 231, 239, 243, 253, 270] 5]
  rfl
set_option maxRecDepth 100000 in
theorem bX9_sending_97 (X : Nat → Nat → Int32) (C : Nat → List zV → zS → Option zR) (L : List zK) (I : Nat → Nat → Int32) (J : Nat → Nat → Int64) (v1 : Int32) (v2 : Int32) (v3 : Int32) (v4 : Int32) (v5 : Int32) (u6 : Option zV) (u7 : Option zV) (u8 : Option zV) : zgo X C (some .int) kX9_sending 97 [some (.inr (.inr (some (.inl 9, 283)))), some (.inl v1), some (.inl v2), some (.inl v3), some (.inl v4), some (.inl v5), u6, u7, u8] [] (L, zB1, I, J) = if v3 ≤ v5 then if v2 = (-1) then if (1000 : Int32) = 0 then none else some (some (.inl (v4 / 1000)), (L, zB1, I, J)) else zbt (zin v2 6) (some (some (.inl (I 292 v2.toNatClampNeg)), (L, zB1, I, J))) else cV (C 191 [.inr (.inr (some (.inl 9, 283)))] (L, zB1, I, J)) (fun σ => zgo X C (some .int) kX9_sending 107 [some (.inr (.inr (some (.inl 9, 283)))), some (.inl v1), some (.inl v2), some (.inl v3), some (.inl v4), some (.inl v5), u6, u7, u8] [] σ) := by
  rw [zgo_run X C _ _ [0, 9, 24, 37, 43, 48, 70, 83, 97, 107, 121, 136, 158, 178, 205, 220, 231, 239, 243, 253, 270] 12]
  rfl
set_option maxRecDepth 100000 in
theorem bX9_sending_107 (X : Nat → Nat → Int32) (C : Nat → List zV → zS → Option zR) (L : List zK) (I : Nat → Nat → Int32) (J : Nat → Nat → Int64) (v1 : Int32) (v2 : Int32) (v3 : Int32) (v4 : Int32) (v5 : Int32) (u6 : Option zV) (u7 : Option zV) (u8 : Option zV) : zgo X C (some .int) kX9_sending 107 [some (.inr (.inr (some (.inl 9, 283)))), some (.inl v1), some (.inl v2), some (.inl v3), some (.inl v4), some (.inl v5), u6, u7, u8] [] (L, zB1, I, J) = zbt (zin 0 43) (zgo X C (some .int) kX9_sending 121 [some (.inr (.inr (some (.inl 9, 283)))), some (.inl v1), some (.inl v2), some (.inl v3), some (.inl v4), some (.inl v5), some (.inl v5), some (.inl ((I 287 (0 : Int32).toNatClampNeg) - 1)), u8] [] (L, zB1, I, J)) := by
  rw [zgo_run X C _ _ [0, 9, 24, 37, 43, 48, 70, 83, 97, 107, 121, 136, 158, 178, 205, 220, 231, 239, 243, 253, 270] 10]
  rfl
set_option maxRecDepth 100000 in
theorem bX9_sending_121 (X : Nat → Nat → Int32) (C : Nat → List zV → zS → Option zR) (L : List zK) (I : Nat → Nat → Int32) (J : Nat → Nat → Int64) (v1 : Int32) (v2 : Int32) (v3 : Int32) (v4 : Int32) (v5 : Int32) (v6 : Int32) (v7 : Int32) (u8 : Option zV) : zgo X C (some .int) kX9_sending 121 [some (.inr (.inr (some (.inl 9, 283)))), some (.inl v1), some (.inl v2), some (.inl v3), some (.inl v4), some (.inl v5), some (.inl v6), some (.inl v7), u8] [] (L, zB1, I, J) = if v7 < 0 then zgo X C (some .int) kX9_sending 178 [some (.inr (.inr (some (.inl 9, 283)))), some (.inl v1), some (.inl v2), some (.inl v3), some (.inl v4), some (.inl v5), some (.inl v6), some (.inl 0), u8] [] (L, zB1, I, J) else cI (C 180 [.inr (.inr (some (.inr (.int, 43), 287))), .inl v7, .inl 3] (L, zB1, I, J)) (fun r σ => zgo X C (some .int) kX9_sending 136 [some (.inr (.inr (some (.inl 9, 283)))), some (.inl v1), some (.inl v2), some (.inl v3), some (.inl v4), some (.inl v5), some (.inl v6), some (.inl v7), u8] [.inl r] σ) := by
  rw [zgo_run X C _ _ [0, 9, 24, 37, 43, 48, 70, 83, 97, 107, 121, 136, 158, 178, 205, 220, 231, 239, 243, 253, 270] 8]
  rfl
set_option maxRecDepth 100000 in
theorem bX9_sending_136 (X : Nat → Nat → Int32) (C : Nat → List zV → zS → Option zR) (L : List zK) (I : Nat → Nat → Int32) (J : Nat → Nat → Int64) (v1 : Int32) (v2 : Int32) (v3 : Int32) (v4 : Int32) (v5 : Int32) (v6 : Int32) (v7 : Int32) (u8 : Option zV) (s0 : Int32) : zgo X C (some .int) kX9_sending 136 [some (.inr (.inr (some (.inl 9, 283)))), some (.inl v1), some (.inl v2), some (.inl v3), some (.inl v4), some (.inl v5), some (.inl v6), some (.inl v7), u8] [.inl s0] (L, zB1, I, J) = if s0 = 0 then zbt (zin 1 43) (if (I 287 (1 : Int32).toNatClampNeg) = 0 then none else cV (C 181 [.inr (.inr (some (.inr (.int, 43), 289))), .inl v7, .inl 1, .inl (v6 - v6 / (I 287 (1 : Int32).toNatClampNeg) * (I 287 (1 : Int32).toNatClampNeg))] (L, zB1, I, J)) (fun σ => zgo X C (some .int) kX9_sending 158 [some (.inr (.inr (some (.inl 9, 283)))), some (.inl v1), some (.inl v2), some (.inl v3), some (.inl v4), some (.inl v5), some (.inl v6), some (.inl v7), u8] [] σ)) else zgo X C (some .int) kX9_sending 121 [some (.inr (.inr (some (.inl 9, 283)))), some (.inl v1), some (.inl v2), some (.inl v3), some (.inl v4), some (.inl v5), some (.inl v6), some (.inl (v7 + (-1))), u8] [] (L, zB1, I, J) := by
  rw [zgo_run X C _ _ [0, 9, 24, 37, 43, 48, 70, 83, 97, 107, 121, 136, 158, 178, 205, 220, 231, 239, 243, 253, 270] 13]
  rfl
set_option maxRecDepth 100000 in
theorem bX9_sending_158 (X : Nat → Nat → Int32) (C : Nat → List zV → zS → Option zR) (L : List zK) (I : Nat → Nat → Int32) (J : Nat → Nat → Int64) (v1 : Int32) (v2 : Int32) (v3 : Int32) (v4 : Int32) (v5 : Int32) (v6 : Int32) (v7 : Int32) (u8 : Option zV) : zgo X C (some .int) kX9_sending 158 [some (.inr (.inr (some (.inl 9, 283)))), some (.inl v1), some (.inl v2), some (.inl v3), some (.inl v4), some (.inl v5), some (.inl v6), some (.inl v7), u8] [] (L, zB1, I, J) = zbt (zin 1 43) (if (I 287 (1 : Int32).toNatClampNeg) = 0 then none else zgo X C (some .int) kX9_sending 121 [some (.inr (.inr (some (.inl 9, 283)))), some (.inl v1), some (.inl v2), some (.inl v3), some (.inl v4), some (.inl v5), some (.inl (v6 / (I 287 (1 : Int32).toNatClampNeg))), some (.inl (v7 + (-1))), u8] [] (L, zB1, I, J)) := by
  rw [zgo_run X C _ _ [0, 9, 24, 37, 43, 48, 70, 83, 97, 107, 121, 136, 158, 178, 205, 220, 231, 239, 243, 253, 270] 10]
  rfl
set_option maxRecDepth 100000 in
theorem bX9_sending_178 (X : Nat → Nat → Int32) (C : Nat → List zV → zS → Option zR) (L : List zK) (I : Nat → Nat → Int32) (J : Nat → Nat → Int64) (v1 : Int32) (v2 : Int32) (v3 : Int32) (v4 : Int32) (v5 : Int32) (v6 : Int32) (v7 : Int32) (u8 : Option zV) : zgo X C (some .int) kX9_sending 178 [some (.inr (.inr (some (.inl 9, 283)))), some (.inl v1), some (.inl v2), some (.inl v3), some (.inl v4), some (.inl v5), some (.inl v6), some (.inl v7), u8] [] (L, zB1, I, J) = zbt (zin 0 43) (if (I 287 (0 : Int32).toNatClampNeg) ≤ v7 then cV (C 188 [.inr (.inr (some (.inr (.int, 43), 289))), .inl v1] (L, zB1, I, J)) (fun σ => zgo X C (some .int) kX9_sending 220 [some (.inr (.inr (some (.inl 9, 283)))), some (.inl v1), some (.inl v2), some (.inl v3), some (.inl v4), some (.inl v5), some (.inl v6), some (.inl v7), u8] [] σ) else cI (C 180 [.inr (.inr (some (.inr (.int, 43), 289))), .inl v7, .inl 1] (L, zB1, I, J)) (fun r σ => zgo X C (some .int) kX9_sending 205 [some (.inr (.inr (some (.inl 9, 283)))), some (.inl v1), some (.inl v2), some (.inl v3), some (.inl v4), some (.inl v5), some (.inl v6), some (.inl v7), u8] [.inl r, .inl v7, .inr (.inr (some (.inr (.int, 6), 293)))] σ)) := by
  rw [zgo_run X C _ _ [0, 9, 24, 37, 43, 48, 70, 83, 97, 107, 121, 136, 158, 178, 205, 220, 231, 239, 243, 253, 270] 15]
  rfl
set_option maxRecDepth 100000 in
theorem bX9_sending_205 (X : Nat → Nat → Int32) (C : Nat → List zV → zS → Option zR) (L : List zK) (I : Nat → Nat → Int32) (J : Nat → Nat → Int64) (v1 : Int32) (v2 : Int32) (v3 : Int32) (v4 : Int32) (v5 : Int32) (v6 : Int32) (v7 : Int32) (u8 : Option zV) (s0 : Int32) (s1 : Int32) : zgo X C (some .int) kX9_sending 205 [some (.inr (.inr (some (.inl 9, 283)))), some (.inl v1), some (.inl v2), some (.inl v3), some (.inl v4), some (.inl v5), some (.inl v6), some (.inl v7), u8] [.inl s0, .inl s1, .inr (.inr (some (.inr (.int, 6), 293)))] (L, zB1, I, J) = zbt (zin s1 6) (zgo X C (some .int) kX9_sending 178 [some (.inr (.inr (some (.inl 9, 283)))), some (.inl v1), some (.inl v2), some (.inl v3), some (.inl v4), some (.inl v5), some (.inl v6), some (.inl (v7 + 1)), u8] [] (L, zB1, (zup I 293 s1.toNatClampNeg s0), J)) := by
  rw [zgo_run X C _ _ [0, 9, 24, 37, 43, 48, 70, 83, 97, 107, 121, 136, 158, 178, 205, 220, 231, 239, 243, 253, 270] 4]
  rfl
set_option maxRecDepth 100000 in
theorem bX9_sending_220 (X : Nat → Nat → Int32) (C : Nat → List zV → zS → Option zR) (L : List zK) (I : Nat → Nat → Int32) (J : Nat → Nat → Int64) (v1 : Int32) (v2 : Int32) (v3 : Int32) (v4 : Int32) (v5 : Int32) (v6 : Int32) (v7 : Int32) (u8 : Option zV) : zgo X C (some .int) kX9_sending 220 [some (.inr (.inr (some (.inl 9, 283)))), some (.inl v1), some (.inl v2), some (.inl v3), some (.inl v4), some (.inl v5), some (.inl v6), some (.inl v7), u8] [] (L, zB1, I, J) = cI (C 184 [.inr (.inr (some (.inr (.int, 43), 289))), .inl 2] (L, zB1, I, J)) (fun r σ => zgo X C (some .int) kX9_sending 231 [some (.inr (.inr (some (.inl 9, 283)))), some (.inl v1), some (.inl v2), some (.inl v3), some (.inl v4), some (.inl v5), some (.inl v6), some (.inl v7), u8] [.inl r, .inl 1000] σ) := by
  rw [zgo_run X C _ _ [0, 9, 24, 37, 43, 48, 70, 83, 97, 107, 121, 136, 158, 178, 205, 220, 231, 239, 243, 253, 270] 6]
  rfl
set_option maxRecDepth 100000 in
theorem bX9_sending_231 (X : Nat → Nat → Int32) (C : Nat → List zV → zS → Option zR) (L : List zK) (I : Nat → Nat → Int32) (J : Nat → Nat → Int64) (v1 : Int32) (v2 : Int32) (v3 : Int32) (v4 : Int32) (v5 : Int32) (v6 : Int32) (v7 : Int32) (u8 : Option zV) (s0 : Int32) (s1 : Int32) : zgo X C (some .int) kX9_sending 231 [some (.inr (.inr (some (.inl 9, 283)))), some (.inl v1), some (.inl v2), some (.inl v3), some (.inl v4), some (.inl v5), some (.inl v6), some (.inl v7), u8] [.inl s0, .inl s1] (L, zB1, I, J) = cI (C 184 [.inr (.inr (some (.inr (.int, 43), 289))), .inl 3] (L, zB1, I, J)) (fun r σ => zgo X C (some .int) kX9_sending 239 [some (.inr (.inr (some (.inl 9, 283)))), some (.inl v1), some (.inl v2), some (.inl v3), some (.inl v4), some (.inl v5), some (.inl v6), some (.inl v7), u8] [.inl r, .inl s0, .inl s1] σ) := by
  rw [zgo_run X C _ _ [0, 9, 24, 37, 43, 48, 70, 83, 97, 107, 121, 136, 158, 178, 205, 220, 231, 239, 243, 253, 270] 5]
  rfl
set_option maxRecDepth 100000 in
theorem bX9_sending_239 (X : Nat → Nat → Int32) (C : Nat → List zV → zS → Option zR) (L : List zK) (I : Nat → Nat → Int32) (J : Nat → Nat → Int64) (v1 : Int32) (v2 : Int32) (v3 : Int32) (v4 : Int32) (v5 : Int32) (v6 : Int32) (v7 : Int32) (u8 : Option zV) (s0 : Int32) (s1 : Int32) (s2 : Int32) : zgo X C (some .int) kX9_sending 239 [some (.inr (.inr (some (.inl 9, 283)))), some (.inl v1), some (.inl v2), some (.inl v3), some (.inl v4), some (.inl v5), some (.inl v6), some (.inl v7), u8] [.inl s0, .inl s1, .inl s2] (L, zB1, I, J) = cI (C 178 [.inl (s1 ||| s0)] (L, zB1, I, J)) (fun r σ => zgo X C (some .int) kX9_sending 243 [some (.inr (.inr (some (.inl 9, 283)))), some (.inl v1), some (.inl v2), some (.inl v3), some (.inl v4), some (.inl v5), some (.inl v6), some (.inl v7), u8] [.inl r, .inl s2] σ) := by
  rw [zgo_run X C _ _ [0, 9, 24, 37, 43, 48, 70, 83, 97, 107, 121, 136, 158, 178, 205, 220, 231, 239, 243, 253, 270] 3]
  rfl
set_option maxRecDepth 100000 in
theorem bX9_sending_243 (X : Nat → Nat → Int32) (C : Nat → List zV → zS → Option zR) (L : List zK) (I : Nat → Nat → Int32) (J : Nat → Nat → Int64) (v1 : Int32) (v2 : Int32) (v3 : Int32) (v4 : Int32) (v5 : Int32) (v6 : Int32) (v7 : Int32) (u8 : Option zV) (s0 : Int32) (s1 : Int32) : zgo X C (some .int) kX9_sending 243 [some (.inr (.inr (some (.inl 9, 283)))), some (.inl v1), some (.inl v2), some (.inl v3), some (.inl v4), some (.inl v5), some (.inl v6), some (.inl v7), u8] [.inl s0, .inl s1] (L, zB1, I, J) = cI (C 189 [.inr (.inr (some (.inr (.int, 43), 289))), .inl (-1000000)] (L, zB1, I, J)) (fun r σ => zgo X C (some .int) kX9_sending 253 [some (.inr (.inr (some (.inl 9, 283)))), some (.inl v1), some (.inl v2), some (.inl v3), some (.inl v4), some (.inl v5), some (.inl v6), some (.inl v7), u8] [.inl r, .inl (s1 * s0)] σ) := by
  rw [zgo_run X C _ _ [0, 9, 24, 37, 43, 48, 70, 83, 97, 107, 121, 136, 158, 178, 205, 220, 231, 239, 243, 253, 270] 6]
  rfl
set_option maxRecDepth 100000 in
theorem bX9_sending_253 (X : Nat → Nat → Int32) (C : Nat → List zV → zS → Option zR) (L : List zK) (I : Nat → Nat → Int32) (J : Nat → Nat → Int64) (v1 : Int32) (v2 : Int32) (v3 : Int32) (v4 : Int32) (v5 : Int32) (v6 : Int32) (v7 : Int32) (u8 : Option zV) (s0 : Int32) (s1 : Int32) : zgo X C (some .int) kX9_sending 253 [some (.inr (.inr (some (.inl 9, 283)))), some (.inl v1), some (.inl v2), some (.inl v3), some (.inl v4), some (.inl v5), some (.inl v6), some (.inl v7), u8] [.inl s0, .inl s1] (L, zB1, I, J) = if (s1 + s0) ≤ v4 then zgo X C (some .int) kX9_sending 97 [some (.inr (.inr (some (.inl 9, 283)))), some (.inl v1), some (.inl v2), some (.inl v3), some (.inl v4), some (.inl (v5 + 1)), some (.inl v6), some (.inl (s1 + s0)), u8] [] (L, zB1, I, J) else zgo X C (some .int) kX9_sending 270 [some (.inr (.inr (some (.inl 9, 283)))), some (.inl v1), some (.inl v2), some (.inl v3), some (.inl (s1 + s0)), some (.inl v5), some (.inl v6), some (.inl (s1 + s0)), some (.inl 0)] [] (L, zB1, I, J) := by
  rw [zgo_run X C _ _ [0, 9, 24, 37, 43, 48, 70, 83, 97, 107, 121, 136, 158, 178, 205, 220, 231, 239, 243, 253, 270] 10]
  rfl
set_option maxRecDepth 100000 in
theorem bX9_sending_270 (X : Nat → Nat → Int32) (C : Nat → List zV → zS → Option zR) (L : List zK) (I : Nat → Nat → Int32) (J : Nat → Nat → Int64) (v1 : Int32) (v2 : Int32) (v3 : Int32) (v4 : Int32) (v5 : Int32) (v6 : Int32) (v7 : Int32) (v8 : Int32) : zgo X C (some .int) kX9_sending 270 [some (.inr (.inr (some (.inl 9, 283)))), some (.inl v1), some (.inl v2), some (.inl v3), some (.inl v4), some (.inl v5), some (.inl v6), some (.inl v7), some (.inl v8)] [] (L, zB1, I, J) = zbt (zin 0 43) (if (I 287 (0 : Int32).toNatClampNeg) ≤ v8 then zgo X C (some .int) kX9_sending 97 [some (.inr (.inr (some (.inl 9, 283)))), some (.inl v1), some (.inl v2), some (.inl v3), some (.inl v4), some (.inl (v5 + 1)), some (.inl v6), some (.inl v7), some (.inl v8)] [] (L, zB1, I, J) else zbt (zin v8 6) (zbt (zin v8 6) (zgo X C (some .int) kX9_sending 270 [some (.inr (.inr (some (.inl 9, 283)))), some (.inl v1), some (.inl v2), some (.inl v3), some (.inl v4), some (.inl v5), some (.inl v6), some (.inl v7), some (.inl (v8 + 1))] [] (L, zB1, (zup I 292 v8.toNatClampNeg (I 293 v8.toNatClampNeg)), J)))) := by
  rw [zgo_run X C _ _ [0, 9, 24, 37, 43, 48, 70, 83, 97, 107, 121, 136, 158, 178, 205, 220, 231, 239, 243, 253, 270] 17]
  rfl

set_option maxRecDepth 100000 in
theorem bX9_gates_0 (X : Nat → Nat → Int32) (C : Nat → List zV → zS → Option zR) (L : List zK) (I : Nat → Nat → Int32) (J : Nat → Nat → Int64) (a1 : Int32) (a2 : Int32) : zgo X C (some .int) kX9_gates 0 [some (.inr (.inr (some (.inl 9, 283)))), some (.inl a1), some (.inl a2), none, none, none, none] [] (L, zB1, I, J) = cI (C 175 [.inr (.inr (some (.inl 9, 283)))] (L, zB1, (zup I 283 0 0), J)) (fun r σ => zgo X C (some .int) kX9_gates 9 [some (.inr (.inr (some (.inl 9, 283)))), some (.inl a1), some (.inl a2), none, none, none, none] [.inl r] σ) := by
  rw [zgo_run X C _ _ [0, 9, 24, 34, 48, 65, 68, 98, 121, 130, 143] 6]
  rfl
set_option maxRecDepth 100000 in
theorem bX9_gates_9 (X : Nat → Nat → Int32) (C : Nat → List zV → zS → Option zR) (L : List zK) (I : Nat → Nat → Int32) (J : Nat → Nat → Int64) (v1 : Int32) (v2 : Int32) (s0 : Int32) : zgo X C (some .int) kX9_gates 9 [some (.inr (.inr (some (.inl 9, 283)))), some (.inl v1), some (.inl v2), none, none, none, none] [.inl s0] (L, zB1, I, J) = if s0 = 0 then some (some (.inl (-1000002)), (L, zB1, I, J)) else cI (C 153 [.inr (.inl ((v1).toInt64)), .inr (.inl 1), .inr (.inl 30)] (L, zB1, I, J)) (fun r σ => zgo X C (some .int) kX9_gates 24 [some (.inr (.inr (some (.inl 9, 283)))), some (.inl v1), some (.inl v2), none, none, none, none] [.inl r] σ) := by
  rw [zgo_run X C _ _ [0, 9, 24, 34, 48, 65, 68, 98, 121, 130, 143] 7]
  rfl
set_option maxRecDepth 100000 in
theorem bX9_gates_24 (X : Nat → Nat → Int32) (C : Nat → List zV → zS → Option zR) (L : List zK) (I : Nat → Nat → Int32) (J : Nat → Nat → Int64) (v1 : Int32) (v2 : Int32) (s0 : Int32) : zgo X C (some .int) kX9_gates 24 [some (.inr (.inr (some (.inl 9, 283)))), some (.inl v1), some (.inl v2), none, none, none, none] [.inl s0] (L, zB1, I, J) = if s0 = 0 then some (some (.inl (-1000001)), (L, zB1, I, J)) else cI (C 153 [.inr (.inl ((v2).toInt64)), .inr (.inl 0), .inr (.inl 1)] (L, zB1, I, J)) (fun r σ => zgo X C (some .int) kX9_gates 34 [some (.inr (.inr (some (.inl 9, 283)))), some (.inl v1), some (.inl v2), none, none, none, none] [.inl r] σ) := by
  rw [zgo_run X C _ _ [0, 9, 24, 34, 48, 65, 68, 98, 121, 130, 143] 7]
  rfl
set_option maxRecDepth 100000 in
theorem bX9_gates_34 (X : Nat → Nat → Int32) (C : Nat → List zV → zS → Option zR) (L : List zK) (I : Nat → Nat → Int32) (J : Nat → Nat → Int64) (v1 : Int32) (v2 : Int32) (s0 : Int32) : zgo X C (some .int) kX9_gates 34 [some (.inr (.inr (some (.inl 9, 283)))), some (.inl v1), some (.inl v2), none, none, none, none] [.inl s0] (L, zB1, I, J) = if s0 = 0 then some (some (.inl (-1000001)), (L, zB1, I, J)) else zgo X C (some .int) kX9_gates 48 [some (.inr (.inr (some (.inl 9, 283)))), some (.inl v1), some (.inl v2), some (.inl (-1)), some (.inl 0), some (.inl 0), none] [] (L, zB1, I, J) := by
  rw [zgo_run X C _ _ [0, 9, 24, 34, 48, 65, 68, 98, 121, 130, 143] 8]
  rfl
set_option maxRecDepth 100000 in
theorem bX9_gates_48 (X : Nat → Nat → Int32) (C : Nat → List zV → zS → Option zR) (L : List zK) (I : Nat → Nat → Int32) (J : Nat → Nat → Int64) (v1 : Int32) (v2 : Int32) (v3 : Int32) (v4 : Int32) (v5 : Int32) (u6 : Option zV) : zgo X C (some .int) kX9_gates 48 [some (.inr (.inr (some (.inl 9, 283)))), some (.inl v1), some (.inl v2), some (.inl v3), some (.inl v4), some (.inl v5), u6] [] (L, zB1, I, J) = zbt (zin 1 43) (if (1 <<< ((I 287 (1 : Int32).toNatClampNeg) &&& 31)) ≤ v5 then if v2 = 0 then some (some (.inl v4), (L, zB1, I, J)) else some (some (.inl v3), (L, zB1, I, J)) else cV (C 191 [.inr (.inr (some (.inl 9, 283)))] (L, zB1, I, J)) (fun σ => zgo X C (some .int) kX9_gates 65 [some (.inr (.inr (some (.inl 9, 283)))), some (.inl v1), some (.inl v2), some (.inl v3), some (.inl v4), some (.inl v5), u6] [] σ)) := by
  rw [zgo_run X C _ _ [0, 9, 24, 34, 48, 65, 68, 98, 121, 130, 143] 14]
  rfl
set_option maxRecDepth 100000 in
theorem bX9_gates_65 (X : Nat → Nat → Int32) (C : Nat → List zV → zS → Option zR) (L : List zK) (I : Nat → Nat → Int32) (J : Nat → Nat → Int64) (v1 : Int32) (v2 : Int32) (v3 : Int32) (v4 : Int32) (v5 : Int32) (u6 : Option zV) : zgo X C (some .int) kX9_gates 65 [some (.inr (.inr (some (.inl 9, 283)))), some (.inl v1), some (.inl v2), some (.inl v3), some (.inl v4), some (.inl v5), u6] [] (L, zB1, I, J) = zgo X C (some .int) kX9_gates 68 [some (.inr (.inr (some (.inl 9, 283)))), some (.inl v1), some (.inl v2), some (.inl v3), some (.inl v4), some (.inl v5), some (.inl 0)] [] (L, zB1, I, J) := by
  rw [zgo_run X C _ _ [0, 9, 24, 34, 48, 65, 68, 98, 121, 130, 143] 3]
  rfl
set_option maxRecDepth 100000 in
theorem bX9_gates_68 (X : Nat → Nat → Int32) (C : Nat → List zV → zS → Option zR) (L : List zK) (I : Nat → Nat → Int32) (J : Nat → Nat → Int64) (v1 : Int32) (v2 : Int32) (v3 : Int32) (v4 : Int32) (v5 : Int32) (v6 : Int32) : zgo X C (some .int) kX9_gates 68 [some (.inr (.inr (some (.inl 9, 283)))), some (.inl v1), some (.inl v2), some (.inl v3), some (.inl v4), some (.inl v5), some (.inl v6)] [] (L, zB1, I, J) = zbt (zin 1 43) (if (I 287 (1 : Int32).toNatClampNeg) ≤ v6 then cV (C 188 [.inr (.inr (some (.inr (.int, 43), 289))), .inl v1] (L, zB1, I, J)) (fun σ => zgo X C (some .int) kX9_gates 121 [some (.inr (.inr (some (.inl 9, 283)))), some (.inl v1), some (.inl v2), some (.inl v3), some (.inl v4), some (.inl v5), some (.inl v6)] [] σ) else cI (C 179 [.inl v5, .inl v6] (L, zB1, I, J)) (fun r σ => zgo X C (some .int) kX9_gates 98 [some (.inr (.inr (some (.inl 9, 283)))), some (.inl v1), some (.inl v2), some (.inl v3), some (.inl v4), some (.inl v5), some (.inl v6)] [.inl r, .inl ((5 + (2 * v6)) + 1), .inr (.inr (some (.inr (.int, 43), 289)))] σ)) := by
  rw [zgo_run X C _ _ [0, 9, 24, 34, 48, 65, 68, 98, 121, 130, 143] 19]
  rfl
set_option maxRecDepth 100000 in
theorem bX9_gates_98 (X : Nat → Nat → Int32) (C : Nat → List zV → zS → Option zR) (L : List zK) (I : Nat → Nat → Int32) (J : Nat → Nat → Int64) (v1 : Int32) (v2 : Int32) (v3 : Int32) (v4 : Int32) (v5 : Int32) (v6 : Int32) (s0 : Int32) (s1 : Int32) : zgo X C (some .int) kX9_gates 98 [some (.inr (.inr (some (.inl 9, 283)))), some (.inl v1), some (.inl v2), some (.inl v3), some (.inl v4), some (.inl v5), some (.inl v6)] [.inl s0, .inl s1, .inr (.inr (some (.inr (.int, 43), 289)))] (L, zB1, I, J) = if s0 = 0 then zbt (zin s1 43) (zgo X C (some .int) kX9_gates 68 [some (.inr (.inr (some (.inl 9, 283)))), some (.inl v1), some (.inl v2), some (.inl v3), some (.inl v4), some (.inl v5), some (.inl (v6 + 1))] [] (L, zB1, (zup I 289 s1.toNatClampNeg 0), J)) else zbt (zin s1 43) (zgo X C (some .int) kX9_gates 68 [some (.inr (.inr (some (.inl 9, 283)))), some (.inl v1), some (.inl v2), some (.inl v3), some (.inl v4), some (.inl v5), some (.inl (v6 + 1))] [] (L, zB1, (zup I 289 s1.toNatClampNeg 1), J)) := by
  rw [zgo_run X C _ _ [0, 9, 24, 34, 48, 65, 68, 98, 121, 130, 143] 7]
  rfl
set_option maxRecDepth 100000 in
theorem bX9_gates_121 (X : Nat → Nat → Int32) (C : Nat → List zV → zS → Option zR) (L : List zK) (I : Nat → Nat → Int32) (J : Nat → Nat → Int64) (v1 : Int32) (v2 : Int32) (v3 : Int32) (v4 : Int32) (v5 : Int32) (v6 : Int32) : zgo X C (some .int) kX9_gates 121 [some (.inr (.inr (some (.inl 9, 283)))), some (.inl v1), some (.inl v2), some (.inl v3), some (.inl v4), some (.inl v5), some (.inl v6)] [] (L, zB1, I, J) = cI (C 189 [.inr (.inr (some (.inr (.int, 43), 289))), .inl (-1000000)] (L, zB1, I, J)) (fun r σ => zgo X C (some .int) kX9_gates 130 [some (.inr (.inr (some (.inl 9, 283)))), some (.inl v1), some (.inl v2), some (.inl v3), some (.inl v4), some (.inl v5), some (.inl v6)] [.inl r] σ) := by
  rw [zgo_run X C _ _ [0, 9, 24, 34, 48, 65, 68, 98, 121, 130, 143] 5]
  rfl
set_option maxRecDepth 100000 in
theorem bX9_gates_130 (X : Nat → Nat → Int32) (C : Nat → List zV → zS → Option zR) (L : List zK) (I : Nat → Nat → Int32) (J : Nat → Nat → Int64) (v1 : Int32) (v2 : Int32) (v3 : Int32) (v4 : Int32) (v5 : Int32) (v6 : Int32) (s0 : Int32) : zgo X C (some .int) kX9_gates 130 [some (.inr (.inr (some (.inl 9, 283)))), some (.inl v1), some (.inl v2), some (.inl v3), some (.inl v4), some (.inl v5), some (.inl v6)] [.inl s0] (L, zB1, I, J) = if s0 ≤ v3 then zgo X C (some .int) kX9_gates 48 [some (.inr (.inr (some (.inl 9, 283)))), some (.inl v1), some (.inl v2), some (.inl v3), some (.inl v4), some (.inl (v5 + 1)), some (.inl v6)] [] (L, zB1, I, J) else cI (C 189 [.inr (.inr (some (.inr (.int, 43), 289))), .inl (-1000000)] (L, zB1, I, J)) (fun r σ => zgo X C (some .int) kX9_gates 143 [some (.inr (.inr (some (.inl 9, 283)))), some (.inl v1), some (.inl v2), some (.inl v3), some (.inl v4), some (.inl v5), some (.inl v6)] [.inl r] σ) := by
  rw [zgo_run X C _ _ [0, 9, 24, 34, 48, 65, 68, 98, 121, 130, 143] 7]
  rfl
set_option maxRecDepth 100000 in
theorem bX9_gates_143 (X : Nat → Nat → Int32) (C : Nat → List zV → zS → Option zR) (L : List zK) (I : Nat → Nat → Int32) (J : Nat → Nat → Int64) (v1 : Int32) (v2 : Int32) (v3 : Int32) (v4 : Int32) (v5 : Int32) (v6 : Int32) (s0 : Int32) : zgo X C (some .int) kX9_gates 143 [some (.inr (.inr (some (.inl 9, 283)))), some (.inl v1), some (.inl v2), some (.inl v3), some (.inl v4), some (.inl v5), some (.inl v6)] [.inl s0] (L, zB1, I, J) = zgo X C (some .int) kX9_gates 48 [some (.inr (.inr (some (.inl 9, 283)))), some (.inl v1), some (.inl v2), some (.inl s0), some (.inl v5), some (.inl (v5 + 1)), some (.inl v6)] [] (L, zB1, I, J) := by
  rw [zgo_run X C _ _ [0, 9, 24, 34, 48, 65, 68, 98, 121, 130, 143] 6]
  rfl

set_option maxRecDepth 100000 in
theorem bX9_let_0 (X : Nat → Nat → Int32) (C : Nat → List zV → zS → Option zR) (L : List zK) (I : Nat → Nat → Int32) (J : Nat → Nat → Int64) (a1 : Int32) (a2 : Int32) : zgo X C (some .int) kX9_let 0 [some (.inr (.inr (some (.inl 9, 283)))), some (.inl a1), some (.inl a2), none, none, none, none] [] (L, zB1, I, J) = cI (C 175 [.inr (.inr (some (.inl 9, 283)))] (L, zB1, (zup I 283 0 0), J)) (fun r σ => zgo X C (some .int) kX9_let 9 [some (.inr (.inr (some (.inl 9, 283)))), some (.inl a1), some (.inl a2), none, none, none, none] [.inl r] σ) := by
  rw [zgo_run X C _ _ [0, 9, 24, 34, 48, 56, 65, 99, 104, 111, 114, 132, 146, 157, 171, 179, 206] 6]
  rfl
set_option maxRecDepth 100000 in
theorem bX9_let_9 (X : Nat → Nat → Int32) (C : Nat → List zV → zS → Option zR) (L : List zK) (I : Nat → Nat → Int32) (J : Nat → Nat → Int64) (v1 : Int32) (v2 : Int32) (s0 : Int32) : zgo X C (some .int) kX9_let 9 [some (.inr (.inr (some (.inl 9, 283)))), some (.inl v1), some (.inl v2), none, none, none, none] [.inl s0] (L, zB1, I, J) = if s0 = 0 then some (some (.inl (-1000002)), (L, zB1, I, J)) else cI (C 153 [.inr (.inl ((v1).toInt64)), .inr (.inl 1), .inr (.inl 30)] (L, zB1, I, J)) (fun r σ => zgo X C (some .int) kX9_let 24 [some (.inr (.inr (some (.inl 9, 283)))), some (.inl v1), some (.inl v2), none, none, none, none] [.inl r] σ) := by
  rw [zgo_run X C _ _ [0, 9, 24, 34, 48, 56, 65, 99, 104, 111, 114, 132, 146, 157, 171, 179, 206] 7]
  rfl
set_option maxRecDepth 100000 in
theorem bX9_let_24 (X : Nat → Nat → Int32) (C : Nat → List zV → zS → Option zR) (L : List zK) (I : Nat → Nat → Int32) (J : Nat → Nat → Int64) (v1 : Int32) (v2 : Int32) (s0 : Int32) : zgo X C (some .int) kX9_let 24 [some (.inr (.inr (some (.inl 9, 283)))), some (.inl v1), some (.inl v2), none, none, none, none] [.inl s0] (L, zB1, I, J) = if s0 = 0 then some (some (.inl (-1000001)), (L, zB1, I, J)) else cI (C 153 [.inr (.inl ((v2).toInt64)), .inr (.inl 0), .inr (.inl 1)] (L, zB1, I, J)) (fun r σ => zgo X C (some .int) kX9_let 34 [some (.inr (.inr (some (.inl 9, 283)))), some (.inl v1), some (.inl v2), none, none, none, none] [.inl r] σ) := by
  rw [zgo_run X C _ _ [0, 9, 24, 34, 48, 56, 65, 99, 104, 111, 114, 132, 146, 157, 171, 179, 206] 7]
  rfl
set_option maxRecDepth 100000 in
theorem bX9_let_34 (X : Nat → Nat → Int32) (C : Nat → List zV → zS → Option zR) (L : List zK) (I : Nat → Nat → Int32) (J : Nat → Nat → Int64) (v1 : Int32) (v2 : Int32) (s0 : Int32) : zgo X C (some .int) kX9_let 34 [some (.inr (.inr (some (.inl 9, 283)))), some (.inl v1), some (.inl v2), none, none, none, none] [.inl s0] (L, zB1, I, J) = if s0 = 0 then some (some (.inl (-1000001)), (L, zB1, I, J)) else cI (C 184 [.inr (.inr (some (.inr (.int, 43), 287))), .inl 0] (L, zB1, I, J)) (fun r σ => zgo X C (some .int) kX9_let 48 [some (.inr (.inr (some (.inl 9, 283)))), some (.inl v1), some (.inl v2), none, none, none, none] [.inl r] σ) := by
  rw [zgo_run X C _ _ [0, 9, 24, 34, 48, 56, 65, 99, 104, 111, 114, 132, 146, 157, 171, 179, 206] 6]
  rfl
set_option maxRecDepth 100000 in
theorem bX9_let_48 (X : Nat → Nat → Int32) (C : Nat → List zV → zS → Option zR) (L : List zK) (I : Nat → Nat → Int32) (J : Nat → Nat → Int64) (v1 : Int32) (v2 : Int32) (s0 : Int32) : zgo X C (some .int) kX9_let 48 [some (.inr (.inr (some (.inl 9, 283)))), some (.inl v1), some (.inl v2), none, none, none, none] [.inl s0] (L, zB1, I, J) = cI (C 184 [.inr (.inr (some (.inr (.int, 43), 287))), .inl 1] (L, zB1, I, J)) (fun r σ => zgo X C (some .int) kX9_let 56 [some (.inr (.inr (some (.inl 9, 283)))), some (.inl v1), some (.inl v2), none, none, none, none] [.inl r, .inl s0] σ) := by
  rw [zgo_run X C _ _ [0, 9, 24, 34, 48, 56, 65, 99, 104, 111, 114, 132, 146, 157, 171, 179, 206] 5]
  rfl
set_option maxRecDepth 100000 in
theorem bX9_let_56 (X : Nat → Nat → Int32) (C : Nat → List zV → zS → Option zR) (L : List zK) (I : Nat → Nat → Int32) (J : Nat → Nat → Int64) (v1 : Int32) (v2 : Int32) (s0 : Int32) (s1 : Int32) : zgo X C (some .int) kX9_let 56 [some (.inr (.inr (some (.inl 9, 283)))), some (.inl v1), some (.inl v2), none, none, none, none] [.inl s0, .inl s1] (L, zB1, I, J) = zgo X C (some .int) kX9_let 65 [some (.inr (.inr (some (.inl 9, 283)))), some (.inl v1), some (.inl v2), some (.inl (s1 ||| s0)), some (.inl (-1000000)), some (.inl 0), none] [] (L, zB1, I, J) := by
  rw [zgo_run X C _ _ [0, 9, 24, 34, 48, 56, 65, 99, 104, 111, 114, 132, 146, 157, 171, 179, 206] 7]
  rfl
set_option maxRecDepth 100000 in
theorem bX9_let_65 (X : Nat → Nat → Int32) (C : Nat → List zV → zS → Option zR) (L : List zK) (I : Nat → Nat → Int32) (J : Nat → Nat → Int64) (v1 : Int32) (v2 : Int32) (v3 : Int32) (v4 : Int32) (v5 : Int32) (u6 : Option zV) : zgo X C (some .int) kX9_let 65 [some (.inr (.inr (some (.inl 9, 283)))), some (.inl v1), some (.inl v2), some (.inl v3), some (.inl v4), some (.inl v5), u6] [] (L, zB1, I, J) = zbt (zin 0 43) (if (1 <<< ((I 287 (0 : Int32).toNatClampNeg) &&& 31)) ≤ v5 then if v2 = 0 then cI (C 178 [.inl v4] (L, zB1, I, J)) (fun r σ => zgo X C (some .int) kX9_let 206 [some (.inr (.inr (some (.inl 9, 283)))), some (.inl v1), some (.inl v2), some (.inl v3), some (.inl v4), some (.inl v5), u6] [.inl r] σ) else some (some (.inl v4), (L, zB1, I, J)) else if (v5 &&& (v3 ^^^ (-1))) = 0 then if v4 = (-1000000) then cV (C 191 [.inr (.inr (some (.inl 9, 283)))] (L, zB1, I, J)) (fun σ => zgo X C (some .int) kX9_let 111 [some (.inr (.inr (some (.inl 9, 283)))), some (.inl v1), some (.inl v2), some (.inl v3), some (.inl v4), some (.inl v5), u6] [] σ) else cI (C 178 [.inl v5] (L, zB1, I, J)) (fun r σ => zgo X C (some .int) kX9_let 99 [some (.inr (.inr (some (.inl 9, 283)))), some (.inl v1), some (.inl v2), some (.inl v3), some (.inl v4), some (.inl v5), u6] [.inl r] σ) else zgo X C (some .int) kX9_let 65 [some (.inr (.inr (some (.inl 9, 283)))), some (.inl v1), some (.inl v2), some (.inl v3), some (.inl v4), some (.inl (v5 + 1)), u6] [] (L, zB1, I, J)) := by
  rw [zgo_run X C _ _ [0, 9, 24, 34, 48, 56, 65, 99, 104, 111, 114, 132, 146, 157, 171, 179, 206] 20]
  rfl
set_option maxRecDepth 100000 in
theorem bX9_let_99 (X : Nat → Nat → Int32) (C : Nat → List zV → zS → Option zR) (L : List zK) (I : Nat → Nat → Int32) (J : Nat → Nat → Int64) (v1 : Int32) (v2 : Int32) (v3 : Int32) (v4 : Int32) (v5 : Int32) (u6 : Option zV) (s0 : Int32) : zgo X C (some .int) kX9_let 99 [some (.inr (.inr (some (.inl 9, 283)))), some (.inl v1), some (.inl v2), some (.inl v3), some (.inl v4), some (.inl v5), u6] [.inl s0] (L, zB1, I, J) = cI (C 178 [.inl v4] (L, zB1, I, J)) (fun r σ => zgo X C (some .int) kX9_let 104 [some (.inr (.inr (some (.inl 9, 283)))), some (.inl v1), some (.inl v2), some (.inl v3), some (.inl v4), some (.inl v5), u6] [.inl r, .inl s0] σ) := by
  rw [zgo_run X C _ _ [0, 9, 24, 34, 48, 56, 65, 99, 104, 111, 114, 132, 146, 157, 171, 179, 206] 3]
  rfl
set_option maxRecDepth 100000 in
theorem bX9_let_104 (X : Nat → Nat → Int32) (C : Nat → List zV → zS → Option zR) (L : List zK) (I : Nat → Nat → Int32) (J : Nat → Nat → Int64) (v1 : Int32) (v2 : Int32) (v3 : Int32) (v4 : Int32) (v5 : Int32) (u6 : Option zV) (s0 : Int32) (s1 : Int32) : zgo X C (some .int) kX9_let 104 [some (.inr (.inr (some (.inl 9, 283)))), some (.inl v1), some (.inl v2), some (.inl v3), some (.inl v4), some (.inl v5), u6] [.inl s0, .inl s1] (L, zB1, I, J) = if s0 ≤ s1 then zgo X C (some .int) kX9_let 65 [some (.inr (.inr (some (.inl 9, 283)))), some (.inl v1), some (.inl v2), some (.inl v3), some (.inl v4), some (.inl (v5 + 1)), u6] [] (L, zB1, I, J) else cV (C 191 [.inr (.inr (some (.inl 9, 283)))] (L, zB1, I, J)) (fun σ => zgo X C (some .int) kX9_let 111 [some (.inr (.inr (some (.inl 9, 283)))), some (.inl v1), some (.inl v2), some (.inl v3), some (.inl v4), some (.inl v5), u6] [] σ) := by
  rw [zgo_run X C _ _ [0, 9, 24, 34, 48, 56, 65, 99, 104, 111, 114, 132, 146, 157, 171, 179, 206] 4]
  rfl
set_option maxRecDepth 100000 in
theorem bX9_let_111 (X : Nat → Nat → Int32) (C : Nat → List zV → zS → Option zR) (L : List zK) (I : Nat → Nat → Int32) (J : Nat → Nat → Int64) (v1 : Int32) (v2 : Int32) (v3 : Int32) (v4 : Int32) (v5 : Int32) (u6 : Option zV) : zgo X C (some .int) kX9_let 111 [some (.inr (.inr (some (.inl 9, 283)))), some (.inl v1), some (.inl v2), some (.inl v3), some (.inl v4), some (.inl v5), u6] [] (L, zB1, I, J) = zgo X C (some .int) kX9_let 114 [some (.inr (.inr (some (.inl 9, 283)))), some (.inl v1), some (.inl v2), some (.inl v3), some (.inl v4), some (.inl v5), some (.inl 0)] [] (L, zB1, I, J) := by
  rw [zgo_run X C _ _ [0, 9, 24, 34, 48, 56, 65, 99, 104, 111, 114, 132, 146, 157, 171, 179, 206] 3]
  rfl
set_option maxRecDepth 100000 in
theorem bX9_let_114 (X : Nat → Nat → Int32) (C : Nat → List zV → zS → Option zR) (L : List zK) (I : Nat → Nat → Int32) (J : Nat → Nat → Int64) (v1 : Int32) (v2 : Int32) (v3 : Int32) (v4 : Int32) (v5 : Int32) (v6 : Int32) : zgo X C (some .int) kX9_let 114 [some (.inr (.inr (some (.inl 9, 283)))), some (.inl v1), some (.inl v2), some (.inl v3), some (.inl v4), some (.inl v5), some (.inl v6)] [] (L, zB1, I, J) = zbt (zin 0 43) (if (I 287 (0 : Int32).toNatClampNeg) ≤ v6 then cV (C 188 [.inr (.inr (some (.inr (.int, 43), 289))), .inl v1] (L, zB1, I, J)) (fun σ => zgo X C (some .int) kX9_let 171 [some (.inr (.inr (some (.inl 9, 283)))), some (.inl v1), some (.inl v2), some (.inl v3), some (.inl v4), some (.inl v5), some (.inl v6)] [] σ) else cI (C 179 [.inl v5, .inl v6] (L, zB1, I, J)) (fun r σ => zgo X C (some .int) kX9_let 132 [some (.inr (.inr (some (.inl 9, 283)))), some (.inl v1), some (.inl v2), some (.inl v3), some (.inl v4), some (.inl v5), some (.inl v6)] [.inl r] σ)) := by
  rw [zgo_run X C _ _ [0, 9, 24, 34, 48, 56, 65, 99, 104, 111, 114, 132, 146, 157, 171, 179, 206] 11]
  rfl
set_option maxRecDepth 100000 in
theorem bX9_let_132 (X : Nat → Nat → Int32) (C : Nat → List zV → zS → Option zR) (L : List zK) (I : Nat → Nat → Int32) (J : Nat → Nat → Int64) (v1 : Int32) (v2 : Int32) (v3 : Int32) (v4 : Int32) (v5 : Int32) (v6 : Int32) (s0 : Int32) : zgo X C (some .int) kX9_let 132 [some (.inr (.inr (some (.inl 9, 283)))), some (.inl v1), some (.inl v2), some (.inl v3), some (.inl v4), some (.inl v5), some (.inl v6)] [.inl s0] (L, zB1, I, J) = if s0 = 0 then zgo X C (some .int) kX9_let 157 [some (.inr (.inr (some (.inl 9, 283)))), some (.inl v1), some (.inl v2), some (.inl v3), some (.inl v4), some (.inl v5), some (.inl v6)] [] (L, zB1, I, J) else cV (C 181 [.inr (.inr (some (.inr (.int, 43), 289))), .inl v6, .inl 3, .inl 2] (L, zB1, I, J)) (fun σ => zgo X C (some .int) kX9_let 146 [some (.inr (.inr (some (.inl 9, 283)))), some (.inl v1), some (.inl v2), some (.inl v3), some (.inl v4), some (.inl v5), some (.inl v6)] [] σ) := by
  rw [zgo_run X C _ _ [0, 9, 24, 34, 48, 56, 65, 99, 104, 111, 114, 132, 146, 157, 171, 179, 206] 8]
  rfl
set_option maxRecDepth 100000 in
theorem bX9_let_146 (X : Nat → Nat → Int32) (C : Nat → List zV → zS → Option zR) (L : List zK) (I : Nat → Nat → Int32) (J : Nat → Nat → Int64) (v1 : Int32) (v2 : Int32) (v3 : Int32) (v4 : Int32) (v5 : Int32) (v6 : Int32) : zgo X C (some .int) kX9_let 146 [some (.inr (.inr (some (.inl 9, 283)))), some (.inl v1), some (.inl v2), some (.inl v3), some (.inl v4), some (.inl v5), some (.inl v6)] [] (L, zB1, I, J) = cV (C 181 [.inr (.inr (some (.inr (.int, 43), 289))), .inl v6, .inl 2, .inl 0] (L, zB1, I, J)) (fun σ => zgo X C (some .int) kX9_let 157 [some (.inr (.inr (some (.inl 9, 283)))), some (.inl v1), some (.inl v2), some (.inl v3), some (.inl v4), some (.inl v5), some (.inl v6)] [] σ) := by
  rw [zgo_run X C _ _ [0, 9, 24, 34, 48, 56, 65, 99, 104, 111, 114, 132, 146, 157, 171, 179, 206] 7]
  rfl
set_option maxRecDepth 100000 in
theorem bX9_let_157 (X : Nat → Nat → Int32) (C : Nat → List zV → zS → Option zR) (L : List zK) (I : Nat → Nat → Int32) (J : Nat → Nat → Int64) (v1 : Int32) (v2 : Int32) (v3 : Int32) (v4 : Int32) (v5 : Int32) (v6 : Int32) : zgo X C (some .int) kX9_let 157 [some (.inr (.inr (some (.inl 9, 283)))), some (.inl v1), some (.inl v2), some (.inl v3), some (.inl v4), some (.inl v5), some (.inl v6)] [] (L, zB1, I, J) = zgo X C (some .int) kX9_let 114 [some (.inr (.inr (some (.inl 9, 283)))), some (.inl v1), some (.inl v2), some (.inl v3), some (.inl v4), some (.inl v5), some (.inl (v6 + 1))] [] (L, zB1, I, J) := by
  rw [zgo_run X C _ _ [0, 9, 24, 34, 48, 56, 65, 99, 104, 111, 114, 132, 146, 157, 171, 179, 206] 3]
  rfl
set_option maxRecDepth 100000 in
theorem bX9_let_171 (X : Nat → Nat → Int32) (C : Nat → List zV → zS → Option zR) (L : List zK) (I : Nat → Nat → Int32) (J : Nat → Nat → Int64) (v1 : Int32) (v2 : Int32) (v3 : Int32) (v4 : Int32) (v5 : Int32) (v6 : Int32) : zgo X C (some .int) kX9_let 171 [some (.inr (.inr (some (.inl 9, 283)))), some (.inl v1), some (.inl v2), some (.inl v3), some (.inl v4), some (.inl v5), some (.inl v6)] [] (L, zB1, I, J) = cI (C 184 [.inr (.inr (some (.inr (.int, 43), 289))), .inl 0] (L, zB1, I, J)) (fun r σ => zgo X C (some .int) kX9_let 179 [some (.inr (.inr (some (.inl 9, 283)))), some (.inl v1), some (.inl v2), some (.inl v3), some (.inl v4), some (.inl v5), some (.inl v6)] [.inl r] σ) := by
  rw [zgo_run X C _ _ [0, 9, 24, 34, 48, 56, 65, 99, 104, 111, 114, 132, 146, 157, 171, 179, 206] 5]
  rfl
set_option maxRecDepth 100000 in
theorem bX9_let_179 (X : Nat → Nat → Int32) (C : Nat → List zV → zS → Option zR) (L : List zK) (I : Nat → Nat → Int32) (J : Nat → Nat → Int64) (v1 : Int32) (v2 : Int32) (v3 : Int32) (v4 : Int32) (v5 : Int32) (v6 : Int32) (s0 : Int32) : zgo X C (some .int) kX9_let 179 [some (.inr (.inr (some (.inl 9, 283)))), some (.inl v1), some (.inl v2), some (.inl v3), some (.inl v4), some (.inl v5), some (.inl v6)] [.inl s0] (L, zB1, I, J) = if s0 = 0 then zgo X C (some .int) kX9_let 65 [some (.inr (.inr (some (.inl 9, 283)))), some (.inl v1), some (.inl v2), some (.inl v3), some (.inl v5), some (.inl (v5 + 1)), some (.inl v6)] [] (L, zB1, I, J) else zgo X C (some .int) kX9_let 65 [some (.inr (.inr (some (.inl 9, 283)))), some (.inl v1), some (.inl v2), some (.inl v3), some (.inl v4), some (.inl (v5 + 1)), some (.inl v6)] [] (L, zB1, I, J) := by
  rw [zgo_run X C _ _ [0, 9, 24, 34, 48, 56, 65, 99, 104, 111, 114, 132, 146, 157, 171, 179, 206] 7]
  rfl
set_option maxRecDepth 100000 in
theorem bX9_let_206 (X : Nat → Nat → Int32) (C : Nat → List zV → zS → Option zR) (L : List zK) (I : Nat → Nat → Int32) (J : Nat → Nat → Int64) (v1 : Int32) (v2 : Int32) (v3 : Int32) (v4 : Int32) (v5 : Int32) (u6 : Option zV) (s0 : Int32) : zgo X C (some .int) kX9_let 206 [some (.inr (.inr (some (.inl 9, 283)))), some (.inl v1), some (.inl v2), some (.inl v3), some (.inl v4), some (.inl v5), u6] [.inl s0] (L, zB1, I, J) = some (some (.inl s0), (L, zB1, I, J)) := by
  rw [zgo_run X C _ _ [0, 9, 24, 34, 48, 56, 65, 99, 104, 111, 114, 132, 146, 157, 171, 179, 206] 3]
  rfl

set_option maxRecDepth 100000 in
theorem bX9_closest_0 (X : Nat → Nat → Int32) (C : Nat → List zV → zS → Option zR) (L : List zK) (I : Nat → Nat → Int32) (J : Nat → Nat → Int64) (a1 : Int32) (a2 : Int32) : zgo X C (some .int) kX9_closest 0 [some (.inr (.inr (some (.inl 9, 283)))), some (.inl a1), some (.inl a2), none, none, none] [] (L, zB1, I, J) = cI (C 177 [.inr (.inr (some (.inl 9, 283))), .inl a1] (L, zB1, (zup I 283 0 0), J)) (fun r σ => zgo X C (some .int) kX9_closest 10 [some (.inr (.inr (some (.inl 9, 283)))), some (.inl a1), some (.inl a2), none, none, none] [.inl r] σ) := by
  rw [zgo_run X C _ _ [0, 10, 20, 32, 53, 62, 85, 94, 97, 102, 133] 7]
  rfl
set_option maxRecDepth 100000 in
theorem bX9_closest_10 (X : Nat → Nat → Int32) (C : Nat → List zV → zS → Option zR) (L : List zK) (I : Nat → Nat → Int32) (J : Nat → Nat → Int64) (v1 : Int32) (v2 : Int32) (s0 : Int32) : zgo X C (some .int) kX9_closest 10 [some (.inr (.inr (some (.inl 9, 283)))), some (.inl v1), some (.inl v2), none, none, none] [.inl s0] (L, zB1, I, J) = if s0 = 0 then some (some (.inl (-1000001)), (L, zB1, I, J)) else cI (C 153 [.inr (.inl ((v2).toInt64)), .inr (.inl 0), .inr (.inl 1)] (L, zB1, I, J)) (fun r σ => zgo X C (some .int) kX9_closest 20 [some (.inr (.inr (some (.inl 9, 283)))), some (.inl v1), some (.inl v2), none, none, none] [.inl r] σ) := by
  rw [zgo_run X C _ _ [0, 10, 20, 32, 53, 62, 85, 94, 97, 102, 133] 7]
  rfl
set_option maxRecDepth 100000 in
theorem bX9_closest_20 (X : Nat → Nat → Int32) (C : Nat → List zV → zS → Option zR) (L : List zK) (I : Nat → Nat → Int32) (J : Nat → Nat → Int64) (v1 : Int32) (v2 : Int32) (s0 : Int32) : zgo X C (some .int) kX9_closest 20 [some (.inr (.inr (some (.inl 9, 283)))), some (.inl v1), some (.inl v2), none, none, none] [.inl s0] (L, zB1, I, J) = if s0 = 0 then some (some (.inl (-1000001)), (L, zB1, I, J)) else zgo X C (some .int) kX9_closest 32 [some (.inr (.inr (some (.inl 9, 283)))), some (.inl v1), some (.inl v2), some (.inl (-1000000)), some (.inl 0), none] [] (L, zB1, I, J) := by
  rw [zgo_run X C _ _ [0, 10, 20, 32, 53, 62, 85, 94, 97, 102, 133] 6]
  rfl
set_option maxRecDepth 100000 in
theorem bX9_closest_32 (X : Nat → Nat → Int32) (C : Nat → List zV → zS → Option zR) (L : List zK) (I : Nat → Nat → Int32) (J : Nat → Nat → Int64) (v1 : Int32) (v2 : Int32) (v3 : Int32) (v4 : Int32) (u5 : Option zV) : zgo X C (some .int) kX9_closest 32 [some (.inr (.inr (some (.inl 9, 283)))), some (.inl v1), some (.inl v2), some (.inl v3), some (.inl v4), u5] [] (L, zB1, I, J) = zbt (zin 0 43) (if (I 287 (0 : Int32).toNatClampNeg) ≤ v4 then if v3 = (-1000000) then zgo X C (some .int) kX9_closest 133 [some (.inr (.inr (some (.inl 9, 283)))), some (.inl v1), some (.inl v2), some (.inl v3), some (.inl v4), u5] [.inl v3] (L, zB1, I, J) else if v2 = 0 then zgo X C (some .int) kX9_closest 133 [some (.inr (.inr (some (.inl 9, 283)))), some (.inl v1), some (.inl v2), some (.inl v3), some (.inl v4), u5] [.inl v3] (L, zB1, I, J) else cI (C 180 [.inr (.inr (some (.inr (.int, 43), 287))), .inl v3, .inl 4] (L, zB1, I, J)) (fun r σ => zgo X C (some .int) kX9_closest 133 [some (.inr (.inr (some (.inl 9, 283)))), some (.inl v1), some (.inl v2), some (.inl v3), some (.inl v4), u5] [.inl r] σ) else cI (C 180 [.inr (.inr (some (.inr (.int, 43), 287))), .inl v4, .inl 1] (L, zB1, I, J)) (fun r σ => zgo X C (some .int) kX9_closest 53 [some (.inr (.inr (some (.inl 9, 283)))), some (.inl v1), some (.inl v2), some (.inl v3), some (.inl v4), u5] [.inl r] σ)) := by
  rw [zgo_run X C _ _ [0, 10, 20, 32, 53, 62, 85, 94, 97, 102, 133] 17]
  rfl
set_option maxRecDepth 100000 in
theorem bX9_closest_53 (X : Nat → Nat → Int32) (C : Nat → List zV → zS → Option zR) (L : List zK) (I : Nat → Nat → Int32) (J : Nat → Nat → Int64) (v1 : Int32) (v2 : Int32) (v3 : Int32) (v4 : Int32) (u5 : Option zV) (s0 : Int32) : zgo X C (some .int) kX9_closest 53 [some (.inr (.inr (some (.inl 9, 283)))), some (.inl v1), some (.inl v2), some (.inl v3), some (.inl v4), u5] [.inl s0] (L, zB1, I, J) = if s0 = v1 then zgo X C (some .int) kX9_closest 62 [some (.inr (.inr (some (.inl 9, 283)))), some (.inl v1), some (.inl v2), some (.inl v3), some (.inl v4), u5] [.inl 1] (L, zB1, I, J) else zgo X C (some .int) kX9_closest 62 [some (.inr (.inr (some (.inl 9, 283)))), some (.inl v1), some (.inl v2), some (.inl v3), some (.inl v4), u5] [.inl 0] (L, zB1, I, J) := by
  rw [zgo_run X C _ _ [0, 10, 20, 32, 53, 62, 85, 94, 97, 102, 133] 5]
  rfl
set_option maxRecDepth 100000 in
theorem bX9_closest_62 (X : Nat → Nat → Int32) (C : Nat → List zV → zS → Option zR) (L : List zK) (I : Nat → Nat → Int32) (J : Nat → Nat → Int64) (v1 : Int32) (v2 : Int32) (v3 : Int32) (v4 : Int32) (u5 : Option zV) (s0 : Int32) : zgo X C (some .int) kX9_closest 62 [some (.inr (.inr (some (.inl 9, 283)))), some (.inl v1), some (.inl v2), some (.inl v3), some (.inl v4), u5] [.inl s0] (L, zB1, I, J) = if s0 = 0 then zgo X C (some .int) kX9_closest 102 [some (.inr (.inr (some (.inl 9, 283)))), some (.inl v1), some (.inl v2), some (.inl v3), some (.inl v4), some (.inl s0)] [] (L, zB1, I, J) else if v3 = (-1000000) then zgo X C (some .int) kX9_closest 97 [some (.inr (.inr (some (.inl 9, 283)))), some (.inl v1), some (.inl v2), some (.inl v3), some (.inl v4), some (.inl s0)] [] (L, zB1, I, J) else cI (C 180 [.inr (.inr (some (.inr (.int, 43), 287))), .inl v4, .inl 4] (L, zB1, I, J)) (fun r σ => zgo X C (some .int) kX9_closest 85 [some (.inr (.inr (some (.inl 9, 283)))), some (.inl v1), some (.inl v2), some (.inl v3), some (.inl v4), some (.inl s0)] [.inl r] σ) := by
  rw [zgo_run X C _ _ [0, 10, 20, 32, 53, 62, 85, 94, 97, 102, 133] 12]
  rfl
set_option maxRecDepth 100000 in
theorem bX9_closest_85 (X : Nat → Nat → Int32) (C : Nat → List zV → zS → Option zR) (L : List zK) (I : Nat → Nat → Int32) (J : Nat → Nat → Int64) (v1 : Int32) (v2 : Int32) (v3 : Int32) (v4 : Int32) (v5 : Int32) (s0 : Int32) : zgo X C (some .int) kX9_closest 85 [some (.inr (.inr (some (.inl 9, 283)))), some (.inl v1), some (.inl v2), some (.inl v3), some (.inl v4), some (.inl v5)] [.inl s0] (L, zB1, I, J) = cI (C 180 [.inr (.inr (some (.inr (.int, 43), 287))), .inl v3, .inl 4] (L, zB1, I, J)) (fun r σ => zgo X C (some .int) kX9_closest 94 [some (.inr (.inr (some (.inl 9, 283)))), some (.inl v1), some (.inl v2), some (.inl v3), some (.inl v4), some (.inl v5)] [.inl r, .inl s0] σ) := by
  rw [zgo_run X C _ _ [0, 10, 20, 32, 53, 62, 85, 94, 97, 102, 133] 6]
  rfl
set_option maxRecDepth 100000 in
theorem bX9_closest_94 (X : Nat → Nat → Int32) (C : Nat → List zV → zS → Option zR) (L : List zK) (I : Nat → Nat → Int32) (J : Nat → Nat → Int64) (v1 : Int32) (v2 : Int32) (v3 : Int32) (v4 : Int32) (v5 : Int32) (s0 : Int32) (s1 : Int32) : zgo X C (some .int) kX9_closest 94 [some (.inr (.inr (some (.inl 9, 283)))), some (.inl v1), some (.inl v2), some (.inl v3), some (.inl v4), some (.inl v5)] [.inl s0, .inl s1] (L, zB1, I, J) = if s1 ≤ s0 then zgo X C (some .int) kX9_closest 102 [some (.inr (.inr (some (.inl 9, 283)))), some (.inl v1), some (.inl v2), some (.inl v3), some (.inl v4), some (.inl v5)] [] (L, zB1, I, J) else zgo X C (some .int) kX9_closest 97 [some (.inr (.inr (some (.inl 9, 283)))), some (.inl v1), some (.inl v2), some (.inl v3), some (.inl v4), some (.inl v5)] [] (L, zB1, I, J) := by
  rw [zgo_run X C _ _ [0, 10, 20, 32, 53, 62, 85, 94, 97, 102, 133] 2]
  rfl
set_option maxRecDepth 100000 in
theorem bX9_closest_97 (X : Nat → Nat → Int32) (C : Nat → List zV → zS → Option zR) (L : List zK) (I : Nat → Nat → Int32) (J : Nat → Nat → Int64) (v1 : Int32) (v2 : Int32) (v3 : Int32) (v4 : Int32) (v5 : Int32) : zgo X C (some .int) kX9_closest 97 [some (.inr (.inr (some (.inl 9, 283)))), some (.inl v1), some (.inl v2), some (.inl v3), some (.inl v4), some (.inl v5)] [] (L, zB1, I, J) = zgo X C (some .int) kX9_closest 32 [some (.inr (.inr (some (.inl 9, 283)))), some (.inl v1), some (.inl v2), some (.inl v4), some (.inl (v4 + 1)), some (.inl v5)] [] (L, zB1, I, J) := by
  rw [zgo_run X C _ _ [0, 10, 20, 32, 53, 62, 85, 94, 97, 102, 133] 6]
  rfl
set_option maxRecDepth 100000 in
theorem bX9_closest_102 (X : Nat → Nat → Int32) (C : Nat → List zV → zS → Option zR) (L : List zK) (I : Nat → Nat → Int32) (J : Nat → Nat → Int64) (v1 : Int32) (v2 : Int32) (v3 : Int32) (v4 : Int32) (v5 : Int32) : zgo X C (some .int) kX9_closest 102 [some (.inr (.inr (some (.inl 9, 283)))), some (.inl v1), some (.inl v2), some (.inl v3), some (.inl v4), some (.inl v5)] [] (L, zB1, I, J) = zgo X C (some .int) kX9_closest 32 [some (.inr (.inr (some (.inl 9, 283)))), some (.inl v1), some (.inl v2), some (.inl v3), some (.inl (v4 + 1)), some (.inl v5)] [] (L, zB1, I, J) := by
  rw [zgo_run X C _ _ [0, 10, 20, 32, 53, 62, 85, 94, 97, 102, 133] 5]
  rfl
set_option maxRecDepth 100000 in
theorem bX9_closest_133 (X : Nat → Nat → Int32) (C : Nat → List zV → zS → Option zR) (L : List zK) (I : Nat → Nat → Int32) (J : Nat → Nat → Int64) (v1 : Int32) (v2 : Int32) (v3 : Int32) (v4 : Int32) (u5 : Option zV) (s0 : Int32) : zgo X C (some .int) kX9_closest 133 [some (.inr (.inr (some (.inl 9, 283)))), some (.inl v1), some (.inl v2), some (.inl v3), some (.inl v4), u5] [.inl s0] (L, zB1, I, J) = some (some (.inl s0), (L, zB1, I, J)) := by
  rw [zgo_run X C _ _ [0, 10, 20, 32, 53, 62, 85, 94, 97, 102, 133] 2]
  rfl

set_option maxRecDepth 100000 in
theorem bX9_dueTo_0 (X : Nat → Nat → Int32) (C : Nat → List zV → zS → Option zR) (L : List zK) (I : Nat → Nat → Int32) (J : Nat → Nat → Int64) (a1 : Int32) : zgo X C (some .int) kX9_dueTo 0 [some (.inr (.inr (some (.inl 9, 283)))), some (.inl a1)] [] (L, zB1, I, J) = cI (C 180 [.inr (.inr (some (.inr (.int, 43), 287))), .inl a1, .inl 3] (L, zB1, I, J)) (fun r σ => zgo X C (some .int) kX9_dueTo 9 [some (.inr (.inr (some (.inl 9, 283)))), some (.inl a1)] [.inl r] σ) := by
  rw [zgo_run X C _ _ [0, 9, 22, 26, 35] 6]
  rfl
set_option maxRecDepth 100000 in
theorem bX9_dueTo_9 (X : Nat → Nat → Int32) (C : Nat → List zV → zS → Option zR) (L : List zK) (I : Nat → Nat → Int32) (J : Nat → Nat → Int64) (v1 : Int32) (s0 : Int32) : zgo X C (some .int) kX9_dueTo 9 [some (.inr (.inr (some (.inl 9, 283)))), some (.inl v1)] [.inl s0] (L, zB1, I, J) = if s0 = 1 then zgo X C (some .int) kX9_dueTo 26 [some (.inr (.inr (some (.inl 9, 283)))), some (.inl v1)] [] (L, zB1, I, J) else cI (C 180 [.inr (.inr (some (.inr (.int, 43), 287))), .inl v1, .inl 3] (L, zB1, I, J)) (fun r σ => zgo X C (some .int) kX9_dueTo 22 [some (.inr (.inr (some (.inl 9, 283)))), some (.inl v1)] [.inl r] σ) := by
  rw [zgo_run X C _ _ [0, 9, 22, 26, 35] 8]
  rfl
set_option maxRecDepth 100000 in
theorem bX9_dueTo_22 (X : Nat → Nat → Int32) (C : Nat → List zV → zS → Option zR) (L : List zK) (I : Nat → Nat → Int32) (J : Nat → Nat → Int64) (v1 : Int32) (s0 : Int32) : zgo X C (some .int) kX9_dueTo 22 [some (.inr (.inr (some (.inl 9, 283)))), some (.inl v1)] [.inl s0] (L, zB1, I, J) = if s0 = 3 then zgo X C (some .int) kX9_dueTo 26 [some (.inr (.inr (some (.inl 9, 283)))), some (.inl v1)] [] (L, zB1, I, J) else some (some (.inl 0), (L, zB1, I, J)) := by
  rw [zgo_run X C _ _ [0, 9, 22, 26, 35] 5]
  rfl
set_option maxRecDepth 100000 in
theorem bX9_dueTo_26 (X : Nat → Nat → Int32) (C : Nat → List zV → zS → Option zR) (L : List zK) (I : Nat → Nat → Int32) (J : Nat → Nat → Int64) (v1 : Int32) : zgo X C (some .int) kX9_dueTo 26 [some (.inr (.inr (some (.inl 9, 283)))), some (.inl v1)] [] (L, zB1, I, J) = cI (C 180 [.inr (.inr (some (.inr (.int, 43), 287))), .inl v1, .inl 4] (L, zB1, I, J)) (fun r σ => zgo X C (some .int) kX9_dueTo 35 [some (.inr (.inr (some (.inl 9, 283)))), some (.inl v1)] [.inl r] σ) := by
  rw [zgo_run X C _ _ [0, 9, 22, 26, 35] 6]
  rfl
set_option maxRecDepth 100000 in
theorem bX9_dueTo_35 (X : Nat → Nat → Int32) (C : Nat → List zV → zS → Option zR) (L : List zK) (I : Nat → Nat → Int32) (J : Nat → Nat → Int64) (v1 : Int32) (s0 : Int32) : zgo X C (some .int) kX9_dueTo 35 [some (.inr (.inr (some (.inl 9, 283)))), some (.inl v1)] [.inl s0] (L, zB1, I, J) = some (some (.inl s0), (L, zB1, I, J)) := by
  rw [zgo_run X C _ _ [0, 9, 22, 26, 35] 3]
  rfl

set_option maxRecDepth 100000 in
theorem bX9_share_0 (X : Nat → Nat → Int32) (C : Nat → List zV → zS → Option zR) (L : List zK) (I : Nat → Nat → Int32) (J : Nat → Nat → Int64) (a1 : Int32) (a2 : Int32) : zgo X C (some .int) kX9_share 0 [some (.inr (.inr (some (.inl 9, 283)))), some (.inl a1), some (.inl a2), none, none, none, none] [] (L, zB1, I, J) = cI (C 176 [.inr (.inr (some (.inl 9, 283))), .inl a1] (L, zB1, (zup I 283 0 0), J)) (fun r σ => zgo X C (some .int) kX9_share 10 [some (.inr (.inr (some (.inl 9, 283)))), some (.inl a1), some (.inl a2), none, none, none, none] [.inl r] σ) := by
  rw [zgo_run X C _ _ [0, 10, 22, 33, 51, 74, 94, 114, 121, 122, 137, 145] 7]
  rfl
set_option maxRecDepth 100000 in
theorem bX9_share_10 (X : Nat → Nat → Int32) (C : Nat → List zV → zS → Option zR) (L : List zK) (I : Nat → Nat → Int32) (J : Nat → Nat → Int64) (v1 : Int32) (v2 : Int32) (s0 : Int32) : zgo X C (some .int) kX9_share 10 [some (.inr (.inr (some (.inl 9, 283)))), some (.inl v1), some (.inl v2), none, none, none, none] [.inl s0] (L, zB1, I, J) = if s0 = 0 then some (some (.inl (-1000001)), (L, zB1, I, J)) else cI (C 153 [.inr (.inl ((v2).toInt64)), .inr (.inl 0), .inr (.inl 999)] (L, zB1, I, J)) (fun r σ => zgo X C (some .int) kX9_share 22 [some (.inr (.inr (some (.inl 9, 283)))), some (.inl v1), some (.inl v2), none, none, none, none] [.inl r] σ) := by
  rw [zgo_run X C _ _ [0, 10, 22, 33, 51, 74, 94, 114, 121, 122, 137, 145] 7]
  rfl
set_option maxRecDepth 100000 in
theorem bX9_share_22 (X : Nat → Nat → Int32) (C : Nat → List zV → zS → Option zR) (L : List zK) (I : Nat → Nat → Int32) (J : Nat → Nat → Int64) (v1 : Int32) (v2 : Int32) (s0 : Int32) : zgo X C (some .int) kX9_share 22 [some (.inr (.inr (some (.inl 9, 283)))), some (.inl v1), some (.inl v2), none, none, none, none] [.inl s0] (L, zB1, I, J) = if s0 = 0 then some (some (.inl (-1000001)), (L, zB1, I, J)) else zgo X C (some .int) kX9_share 33 [some (.inr (.inr (some (.inl 9, 283)))), some (.inl v1), some (.inl v2), some (.inl 0), some (.inl 0), none, none] [] (L, zB1, I, J) := by
  rw [zgo_run X C _ _ [0, 10, 22, 33, 51, 74, 94, 114, 121, 122, 137, 145] 6]
  rfl
set_option maxRecDepth 100000 in
theorem bX9_share_33 (X : Nat → Nat → Int32) (C : Nat → List zV → zS → Option zR) (L : List zK) (I : Nat → Nat → Int32) (J : Nat → Nat → Int64) (v1 : Int32) (v2 : Int32) (v3 : Int32) (v4 : Int32) : zgo X C (some .int) kX9_share 33 [some (.inr (.inr (some (.inl 9, 283)))), some (.inl v1), some (.inl v2), some (.inl v3), some (.inl v4), none, none] [] (L, zB1, I, J) = zbt (zin 0 43) (if (I 287 (0 : Int32).toNatClampNeg) ≤ v4 then if v3 = 0 then some (some (.inl 0), (L, zB1, I, J)) else zgo X C (some .int) kX9_share 74 [some (.inr (.inr (some (.inl 9, 283)))), some (.inl v1), some (.inl v2), some (.inl v3), some (.inl v2), some (.inl 0), some (.inl 0)] [] (L, zB1, I, J) else cI (C 211 [.inr (.inr (some (.inl 9, 283))), .inl v4] (L, zB1, I, J)) (fun r σ => zgo X C (some .int) kX9_share 51 [some (.inr (.inr (some (.inl 9, 283)))), some (.inl v1), some (.inl v2), some (.inl v3), some (.inl v4), none, none] [.inl r, .inl v3] σ)) := by
  rw [zgo_run X C _ _ [0, 10, 22, 33, 51, 74, 94, 114, 121, 122, 137, 145] 15]
  rfl
set_option maxRecDepth 100000 in
theorem bX9_share_51 (X : Nat → Nat → Int32) (C : Nat → List zV → zS → Option zR) (L : List zK) (I : Nat → Nat → Int32) (J : Nat → Nat → Int64) (v1 : Int32) (v2 : Int32) (v3 : Int32) (v4 : Int32) (s0 : Int32) (s1 : Int32) : zgo X C (some .int) kX9_share 51 [some (.inr (.inr (some (.inl 9, 283)))), some (.inl v1), some (.inl v2), some (.inl v3), some (.inl v4), none, none] [.inl s0, .inl s1] (L, zB1, I, J) = zgo X C (some .int) kX9_share 33 [some (.inr (.inr (some (.inl 9, 283)))), some (.inl v1), some (.inl v2), some (.inl (s1 + s0)), some (.inl (v4 + 1)), none, none] [] (L, zB1, I, J) := by
  rw [zgo_run X C _ _ [0, 10, 22, 33, 51, 74, 94, 114, 121, 122, 137, 145] 5]
  rfl
set_option maxRecDepth 100000 in
theorem bX9_share_74 (X : Nat → Nat → Int32) (C : Nat → List zV → zS → Option zR) (L : List zK) (I : Nat → Nat → Int32) (J : Nat → Nat → Int64) (v1 : Int32) (v2 : Int32) (v3 : Int32) (v4 : Int32) (v5 : Int32) (v6 : Int32) : zgo X C (some .int) kX9_share 74 [some (.inr (.inr (some (.inl 9, 283)))), some (.inl v1), some (.inl v2), some (.inl v3), some (.inl v4), some (.inl v5), some (.inl v6)] [] (L, zB1, I, J) = zbt (zin 0 43) (if (I 287 (0 : Int32).toNatClampNeg) ≤ v6 then cI (C 211 [.inr (.inr (some (.inl 9, 283))), .inl v1] (L, zB1, I, J)) (fun r σ => zgo X C (some .int) kX9_share 137 [some (.inr (.inr (some (.inl 9, 283)))), some (.inl v1), some (.inl v2), some (.inl v3), some (.inl v4), some (.inl v5), some (.inl v6)] [.inl r, .inl v2] σ) else cI (C 211 [.inr (.inr (some (.inl 9, 283))), .inl v6] (L, zB1, I, J)) (fun r σ => zgo X C (some .int) kX9_share 94 [some (.inr (.inr (some (.inl 9, 283)))), some (.inl v1), some (.inl v2), some (.inl v3), some (.inl v4), some (.inl v5), some (.inl v6)] [.inl r, .inl v2, .inl v4] σ)) := by
  rw [zgo_run X C _ _ [0, 10, 22, 33, 51, 74, 94, 114, 121, 122, 137, 145] 12]
  rfl
set_option maxRecDepth 100000 in
theorem bX9_share_94 (X : Nat → Nat → Int32) (C : Nat → List zV → zS → Option zR) (L : List zK) (I : Nat → Nat → Int32) (J : Nat → Nat → Int64) (v1 : Int32) (v2 : Int32) (v3 : Int32) (v4 : Int32) (v5 : Int32) (v6 : Int32) (s0 : Int32) (s1 : Int32) (s2 : Int32) : zgo X C (some .int) kX9_share 94 [some (.inr (.inr (some (.inl 9, 283)))), some (.inl v1), some (.inl v2), some (.inl v3), some (.inl v4), some (.inl v5), some (.inl v6)] [.inl s0, .inl s1, .inl s2] (L, zB1, I, J) = if v3 = 0 then none else if v1 ≤ v6 then zgo X C (some .int) kX9_share 121 [some (.inr (.inr (some (.inl 9, 283)))), some (.inl v1), some (.inl v2), some (.inl v3), some (.inl (s2 - ((s1 * s0) / v3))), some (.inl v5), some (.inl v6)] [.inl v5] (L, zB1, I, J) else cI (C 211 [.inr (.inr (some (.inl 9, 283))), .inl v6] (L, zB1, I, J)) (fun r σ => zgo X C (some .int) kX9_share 114 [some (.inr (.inr (some (.inl 9, 283)))), some (.inl v1), some (.inl v2), some (.inl v3), some (.inl (s2 - ((s1 * s0) / v3))), some (.inl v5), some (.inl v6)] [.inl r, .inl v5] σ) := by
  rw [zgo_run X C _ _ [0, 10, 22, 33, 51, 74, 94, 114, 121, 122, 137, 145] 13]
  rfl
set_option maxRecDepth 100000 in
theorem bX9_share_114 (X : Nat → Nat → Int32) (C : Nat → List zV → zS → Option zR) (L : List zK) (I : Nat → Nat → Int32) (J : Nat → Nat → Int64) (v1 : Int32) (v2 : Int32) (v3 : Int32) (v4 : Int32) (v5 : Int32) (v6 : Int32) (s0 : Int32) (s1 : Int32) : zgo X C (some .int) kX9_share 114 [some (.inr (.inr (some (.inl 9, 283)))), some (.inl v1), some (.inl v2), some (.inl v3), some (.inl v4), some (.inl v5), some (.inl v6)] [.inl s0, .inl s1] (L, zB1, I, J) = if s0 ≤ 0 then zgo X C (some .int) kX9_share 121 [some (.inr (.inr (some (.inl 9, 283)))), some (.inl v1), some (.inl v2), some (.inl v3), some (.inl v4), some (.inl v5), some (.inl v6)] [.inl s1] (L, zB1, I, J) else zgo X C (some .int) kX9_share 122 [some (.inr (.inr (some (.inl 9, 283)))), some (.inl v1), some (.inl v2), some (.inl v3), some (.inl v4), some (.inl v5), some (.inl v6)] [.inl 1, .inl s1] (L, zB1, I, J) := by
  rw [zgo_run X C _ _ [0, 10, 22, 33, 51, 74, 94, 114, 121, 122, 137, 145] 4]
  rfl
set_option maxRecDepth 100000 in
theorem bX9_share_121 (X : Nat → Nat → Int32) (C : Nat → List zV → zS → Option zR) (L : List zK) (I : Nat → Nat → Int32) (J : Nat → Nat → Int64) (v1 : Int32) (v2 : Int32) (v3 : Int32) (v4 : Int32) (v5 : Int32) (v6 : Int32) (s0 : Int32) : zgo X C (some .int) kX9_share 121 [some (.inr (.inr (some (.inl 9, 283)))), some (.inl v1), some (.inl v2), some (.inl v3), some (.inl v4), some (.inl v5), some (.inl v6)] [.inl s0] (L, zB1, I, J) = zgo X C (some .int) kX9_share 122 [some (.inr (.inr (some (.inl 9, 283)))), some (.inl v1), some (.inl v2), some (.inl v3), some (.inl v4), some (.inl v5), some (.inl v6)] [.inl 0, .inl s0] (L, zB1, I, J) := by
  rw [zgo_run X C _ _ [0, 10, 22, 33, 51, 74, 94, 114, 121, 122, 137, 145] 2]
  rfl
set_option maxRecDepth 100000 in
theorem bX9_share_122 (X : Nat → Nat → Int32) (C : Nat → List zV → zS → Option zR) (L : List zK) (I : Nat → Nat → Int32) (J : Nat → Nat → Int64) (v1 : Int32) (v2 : Int32) (v3 : Int32) (v4 : Int32) (v5 : Int32) (v6 : Int32) (s0 : Int32) (s1 : Int32) : zgo X C (some .int) kX9_share 122 [some (.inr (.inr (some (.inl 9, 283)))), some (.inl v1), some (.inl v2), some (.inl v3), some (.inl v4), some (.inl v5), some (.inl v6)] [.inl s0, .inl s1] (L, zB1, I, J) = zgo X C (some .int) kX9_share 74 [some (.inr (.inr (some (.inl 9, 283)))), some (.inl v1), some (.inl v2), some (.inl v3), some (.inl v4), some (.inl (s1 + s0)), some (.inl (v6 + 1))] [] (L, zB1, I, J) := by
  rw [zgo_run X C _ _ [0, 10, 22, 33, 51, 74, 94, 114, 121, 122, 137, 145] 5]
  rfl
set_option maxRecDepth 100000 in
theorem bX9_share_137 (X : Nat → Nat → Int32) (C : Nat → List zV → zS → Option zR) (L : List zK) (I : Nat → Nat → Int32) (J : Nat → Nat → Int64) (v1 : Int32) (v2 : Int32) (v3 : Int32) (v4 : Int32) (v5 : Int32) (v6 : Int32) (s0 : Int32) (s1 : Int32) : zgo X C (some .int) kX9_share 137 [some (.inr (.inr (some (.inl 9, 283)))), some (.inl v1), some (.inl v2), some (.inl v3), some (.inl v4), some (.inl v5), some (.inl v6)] [.inl s0, .inl s1] (L, zB1, I, J) = if v3 = 0 then none else cI (C 211 [.inr (.inr (some (.inl 9, 283))), .inl v1] (L, zB1, I, J)) (fun r σ => zgo X C (some .int) kX9_share 145 [some (.inr (.inr (some (.inl 9, 283)))), some (.inl v1), some (.inl v2), some (.inl v3), some (.inl v4), some (.inl v5), some (.inl v6)] [.inl r, .inl ((s1 * s0) / v3)] σ) := by
  rw [zgo_run X C _ _ [0, 10, 22, 33, 51, 74, 94, 114, 121, 122, 137, 145] 7]
  rfl
set_option maxRecDepth 100000 in
theorem bX9_share_145 (X : Nat → Nat → Int32) (C : Nat → List zV → zS → Option zR) (L : List zK) (I : Nat → Nat → Int32) (J : Nat → Nat → Int64) (v1 : Int32) (v2 : Int32) (v3 : Int32) (v4 : Int32) (v5 : Int32) (v6 : Int32) (s0 : Int32) (s1 : Int32) : zgo X C (some .int) kX9_share 145 [some (.inr (.inr (some (.inl 9, 283)))), some (.inl v1), some (.inl v2), some (.inl v3), some (.inl v4), some (.inl v5), some (.inl v6)] [.inl s0, .inl s1] (L, zB1, I, J) = if s0 ≤ 0 then some (some (.inl (s1 + 0)), (L, zB1, I, J)) else if v4 ≤ v5 then some (some (.inl (s1 + 0)), (L, zB1, I, J)) else some (some (.inl (s1 + 1)), (L, zB1, I, J)) := by
  rw [zgo_run X C _ _ [0, 10, 22, 33, 51, 74, 94, 114, 121, 122, 137, 145] 9]
  rfl

set_option maxRecDepth 100000 in
theorem bX9_mayGive_0 (X : Nat → Nat → Int32) (C : Nat → List zV → zS → Option zR) (L : List zK) (I : Nat → Nat → Int32) (J : Nat → Nat → Int64) (a1 : Int32) (a2 : Int32) : zgo X C (some .boolean) kX9_mayGive 0 [some (.inr (.inr (some (.inl 9, 283)))), some (.inl a1), some (.inl a2)] [] (L, zB1, I, J) = if a2 = 6 then some (some (.inl 1), (L, zB1, I, J)) else cI (C 176 [.inr (.inr (some (.inl 9, 283))), .inl a2] (L, zB1, I, J)) (fun r σ => zgo X C (some .boolean) kX9_mayGive 11 [some (.inr (.inr (some (.inl 9, 283)))), some (.inl a1), some (.inl a2)] [.inl r] σ) := by
  rw [zgo_run X C _ _ [0, 11, 23, 36] 7]
  rfl
set_option maxRecDepth 100000 in
theorem bX9_mayGive_11 (X : Nat → Nat → Int32) (C : Nat → List zV → zS → Option zR) (L : List zK) (I : Nat → Nat → Int32) (J : Nat → Nat → Int64) (v1 : Int32) (v2 : Int32) (s0 : Int32) : zgo X C (some .boolean) kX9_mayGive 11 [some (.inr (.inr (some (.inl 9, 283)))), some (.inl v1), some (.inl v2)] [.inl s0] (L, zB1, I, J) = if s0 = 0 then some (some (.inl 0), (L, zB1, I, J)) else cI (C 180 [.inr (.inr (some (.inr (.int, 43), 287))), .inl v2, .inl 1] (L, zB1, I, J)) (fun r σ => zgo X C (some .boolean) kX9_mayGive 23 [some (.inr (.inr (some (.inl 9, 283)))), some (.inl v1), some (.inl v2)] [.inl r] σ) := by
  rw [zgo_run X C _ _ [0, 11, 23, 36] 7]
  rfl
set_option maxRecDepth 100000 in
theorem bX9_mayGive_23 (X : Nat → Nat → Int32) (C : Nat → List zV → zS → Option zR) (L : List zK) (I : Nat → Nat → Int32) (J : Nat → Nat → Int64) (v1 : Int32) (v2 : Int32) (s0 : Int32) : zgo X C (some .boolean) kX9_mayGive 23 [some (.inr (.inr (some (.inl 9, 283)))), some (.inl v1), some (.inl v2)] [.inl s0] (L, zB1, I, J) = if s0 = v1 then cI (C 180 [.inr (.inr (some (.inr (.int, 43), 287))), .inl v2, .inl 3] (L, zB1, I, J)) (fun r σ => zgo X C (some .boolean) kX9_mayGive 36 [some (.inr (.inr (some (.inl 9, 283)))), some (.inl v1), some (.inl v2)] [.inl r] σ) else some (some (.inl 0), (L, zB1, I, J)) := by
  rw [zgo_run X C _ _ [0, 11, 23, 36] 8]
  rfl
set_option maxRecDepth 100000 in
theorem bX9_mayGive_36 (X : Nat → Nat → Int32) (C : Nat → List zV → zS → Option zR) (L : List zK) (I : Nat → Nat → Int32) (J : Nat → Nat → Int64) (v1 : Int32) (v2 : Int32) (s0 : Int32) : zgo X C (some .boolean) kX9_mayGive 36 [some (.inr (.inr (some (.inl 9, 283)))), some (.inl v1), some (.inl v2)] [.inl s0] (L, zB1, I, J) = if (1 : Int32) < s0 then some (some (.inl 0), (L, zB1, I, J)) else some (some (.inl 1), (L, zB1, I, J)) := by
  rw [zgo_run X C _ _ [0, 11, 23, 36] 6]
  rfl

set_option maxRecDepth 100000 in
theorem bX9_afterTurns_0 (X : Nat → Nat → Int32) (C : Nat → List zV → zS → Option zR) (L : List zK) (I : Nat → Nat → Int32) (J : Nat → Nat → Int64) (a1 : Int32) (a2 : Int32) (a3 : Int32) (a4 : Int32) : zgo X C (some .int) kX9_afterTurns 0 [some (.inr (.inr (some (.inl 9, 283)))), some (.inl a1), some (.inl a2), some (.inl a3), some (.inl a4), none, none] [] (L, zB1, I, J) = cV (C 191 [.inr (.inr (some (.inl 9, 283)))] (L, zB1, I, J)) (fun σ => zgo X C (some .int) kX9_afterTurns 4 [some (.inr (.inr (some (.inl 9, 283)))), some (.inl a1), some (.inl a2), some (.inl a3), some (.inl a4), none, none] [] σ) := by
  rw [zgo_run X C _ _ [0, 4, 7, 40, 73, 88, 96, 104] 3]
  rfl
set_option maxRecDepth 100000 in
theorem bX9_afterTurns_4 (X : Nat → Nat → Int32) (C : Nat → List zV → zS → Option zR) (L : List zK) (I : Nat → Nat → Int32) (J : Nat → Nat → Int64) (v1 : Int32) (v2 : Int32) (v3 : Int32) (v4 : Int32) : zgo X C (some .int) kX9_afterTurns 4 [some (.inr (.inr (some (.inl 9, 283)))), some (.inl v1), some (.inl v2), some (.inl v3), some (.inl v4), none, none] [] (L, zB1, I, J) = zgo X C (some .int) kX9_afterTurns 7 [some (.inr (.inr (some (.inl 9, 283)))), some (.inl v1), some (.inl v2), some (.inl v3), some (.inl v4), some (.inl 0), none] [] (L, zB1, I, J) := by
  rw [zgo_run X C _ _ [0, 4, 7, 40, 73, 88, 96, 104] 3]
  rfl
set_option maxRecDepth 100000 in
theorem bX9_afterTurns_7 (X : Nat → Nat → Int32) (C : Nat → List zV → zS → Option zR) (L : List zK) (I : Nat → Nat → Int32) (J : Nat → Nat → Int64) (v1 : Int32) (v2 : Int32) (v3 : Int32) (v4 : Int32) (v5 : Int32) (u6 : Option zV) : zgo X C (some .int) kX9_afterTurns 7 [some (.inr (.inr (some (.inl 9, 283)))), some (.inl v1), some (.inl v2), some (.inl v3), some (.inl v4), some (.inl v5), u6] [] (L, zB1, I, J) = if v3 ≤ v5 then cV (C 188 [.inr (.inr (some (.inr (.int, 43), 289))), .inl v4] (L, zB1, I, J)) (fun σ => zgo X C (some .int) kX9_afterTurns 88 [some (.inr (.inr (some (.inl 9, 283)))), some (.inl v1), some (.inl v2), some (.inl v3), some (.inl v4), some (.inl v5), u6] [] σ) else zbt (zin v5 4) (if (6 : Int32) ≤ (I 294 v5.toNatClampNeg) then zgo X C (some .int) kX9_afterTurns 73 [some (.inr (.inr (some (.inl 9, 283)))), some (.inl v1), some (.inl v2), some (.inl v3), some (.inl v4), some (.inl v5), u6] [] (L, zB1, I, J) else zbt (zin v5 4) (cI (C 180 [.inr (.inr (some (.inr (.int, 43), 289))), .inl (I 294 v5.toNatClampNeg), .inl 2] (L, zB1, I, J)) (fun r σ => zgo X C (some .int) kX9_afterTurns 40 [some (.inr (.inr (some (.inl 9, 283)))), some (.inl v1), some (.inl v2), some (.inl v3), some (.inl v4), some (.inl v5), u6] [.inl r] σ))) := by
  rw [zgo_run X C _ _ [0, 4, 7, 40, 73, 88, 96, 104] 18]
  rfl
set_option maxRecDepth 100000 in
theorem bX9_afterTurns_40 (X : Nat → Nat → Int32) (C : Nat → List zV → zS → Option zR) (L : List zK) (I : Nat → Nat → Int32) (J : Nat → Nat → Int64) (v1 : Int32) (v2 : Int32) (v3 : Int32) (v4 : Int32) (v5 : Int32) (u6 : Option zV) (s0 : Int32) : zgo X C (some .int) kX9_afterTurns 40 [some (.inr (.inr (some (.inl 9, 283)))), some (.inl v1), some (.inl v2), some (.inl v3), some (.inl v4), some (.inl v5), u6] [.inl s0] (L, zB1, I, J) = zbt (zin v5 4) (if (s0 + 5) ≤ 30 then cV (C 181 [.inr (.inr (some (.inr (.int, 43), 289))), .inl (I 294 v5.toNatClampNeg), .inl 2, .inl (s0 + 5)] (L, zB1, I, J)) (fun σ => zgo X C (some .int) kX9_afterTurns 73 [some (.inr (.inr (some (.inl 9, 283)))), some (.inl v1), some (.inl v2), some (.inl v3), some (.inl v4), some (.inl v5), some (.inl (s0 + 5))] [] σ) else cV (C 181 [.inr (.inr (some (.inr (.int, 43), 289))), .inl (I 294 v5.toNatClampNeg), .inl 2, .inl 30] (L, zB1, I, J)) (fun σ => zgo X C (some .int) kX9_afterTurns 73 [some (.inr (.inr (some (.inl 9, 283)))), some (.inl v1), some (.inl v2), some (.inl v3), some (.inl v4), some (.inl v5), some (.inl (s0 + 5))] [] σ)) := by
  rw [zgo_run X C _ _ [0, 4, 7, 40, 73, 88, 96, 104] 17]
  rfl
set_option maxRecDepth 100000 in
theorem bX9_afterTurns_73 (X : Nat → Nat → Int32) (C : Nat → List zV → zS → Option zR) (L : List zK) (I : Nat → Nat → Int32) (J : Nat → Nat → Int64) (v1 : Int32) (v2 : Int32) (v3 : Int32) (v4 : Int32) (v5 : Int32) (u6 : Option zV) : zgo X C (some .int) kX9_afterTurns 73 [some (.inr (.inr (some (.inl 9, 283)))), some (.inl v1), some (.inl v2), some (.inl v3), some (.inl v4), some (.inl v5), u6] [] (L, zB1, I, J) = zgo X C (some .int) kX9_afterTurns 7 [some (.inr (.inr (some (.inl 9, 283)))), some (.inl v1), some (.inl v2), some (.inl v3), some (.inl v4), some (.inl (v5 + 1)), u6] [] (L, zB1, I, J) := by
  rw [zgo_run X C _ _ [0, 4, 7, 40, 73, 88, 96, 104] 3]
  rfl
set_option maxRecDepth 100000 in
theorem bX9_afterTurns_88 (X : Nat → Nat → Int32) (C : Nat → List zV → zS → Option zR) (L : List zK) (I : Nat → Nat → Int32) (J : Nat → Nat → Int64) (v1 : Int32) (v2 : Int32) (v3 : Int32) (v4 : Int32) (v5 : Int32) (u6 : Option zV) : zgo X C (some .int) kX9_afterTurns 88 [some (.inr (.inr (some (.inl 9, 283)))), some (.inl v1), some (.inl v2), some (.inl v3), some (.inl v4), some (.inl v5), u6] [] (L, zB1, I, J) = cI (C 189 [.inr (.inr (some (.inr (.int, 43), 289))), .inl v1] (L, zB1, I, J)) (fun r σ => zgo X C (some .int) kX9_afterTurns 96 [some (.inr (.inr (some (.inl 9, 283)))), some (.inl v1), some (.inl v2), some (.inl v3), some (.inl v4), some (.inl v5), u6] [.inl r] σ) := by
  rw [zgo_run X C _ _ [0, 4, 7, 40, 73, 88, 96, 104] 5]
  rfl
set_option maxRecDepth 100000 in
theorem bX9_afterTurns_96 (X : Nat → Nat → Int32) (C : Nat → List zV → zS → Option zR) (L : List zK) (I : Nat → Nat → Int32) (J : Nat → Nat → Int64) (v1 : Int32) (v2 : Int32) (v3 : Int32) (v4 : Int32) (v5 : Int32) (u6 : Option zV) (s0 : Int32) : zgo X C (some .int) kX9_afterTurns 96 [some (.inr (.inr (some (.inl 9, 283)))), some (.inl v1), some (.inl v2), some (.inl v3), some (.inl v4), some (.inl v5), u6] [.inl s0] (L, zB1, I, J) = cI (C 189 [.inr (.inr (some (.inr (.int, 43), 289))), .inl v2] (L, zB1, I, J)) (fun r σ => zgo X C (some .int) kX9_afterTurns 104 [some (.inr (.inr (some (.inl 9, 283)))), some (.inl v1), some (.inl v2), some (.inl v3), some (.inl v4), some (.inl v5), u6] [.inl r, .inl s0] σ) := by
  rw [zgo_run X C _ _ [0, 4, 7, 40, 73, 88, 96, 104] 5]
  rfl
set_option maxRecDepth 100000 in
theorem bX9_afterTurns_104 (X : Nat → Nat → Int32) (C : Nat → List zV → zS → Option zR) (L : List zK) (I : Nat → Nat → Int32) (J : Nat → Nat → Int64) (v1 : Int32) (v2 : Int32) (v3 : Int32) (v4 : Int32) (v5 : Int32) (u6 : Option zV) (s0 : Int32) (s1 : Int32) : zgo X C (some .int) kX9_afterTurns 104 [some (.inr (.inr (some (.inl 9, 283)))), some (.inl v1), some (.inl v2), some (.inl v3), some (.inl v4), some (.inl v5), u6] [.inl s0, .inl s1] (L, zB1, I, J) = some (some (.inl (s1 - s0)), (L, zB1, I, J)) := by
  rw [zgo_run X C _ _ [0, 4, 7, 40, 73, 88, 96, 104] 3]
  rfl

set_option maxRecDepth 100000 in
theorem bX9_fourth_0 (X : Nat → Nat → Int32) (C : Nat → List zV → zS → Option zR) (L : List zK) (I : Nat → Nat → Int32) (J : Nat → Nat → Int64) (a1 : Int32) (a2 : Int32) (a3 : Int32) (a4 : Int32) : zgo X C (some .int) kX9_fourth 0 [some (.inr (.inr (some (.inl 9, 283)))), some (.inl a1), some (.inl a2), some (.inl a3), some (.inl a4), none, none, none] [] (L, zB1, I, J) = if (4 : Int32) ≤ a3 then zgo X C (some .int) kX9_fourth 23 [some (.inr (.inr (some (.inl 9, 283)))), some (.inl a1), some (.inl a2), some (.inl a3), some (.inl a4), some (.inl 9999), some (.inl 0), none] [] (L, zB1, I, J) else cI (C 214 [.inr (.inr (some (.inl 9, 283))), .inl a1, .inl a2, .inl a3, .inl a4] (L, zB1, I, J)) (fun r σ => zgo X C (some .int) kX9_fourth 14 [some (.inr (.inr (some (.inl 9, 283)))), some (.inl a1), some (.inl a2), some (.inl a3), some (.inl a4), none, none, none] [.inl r] σ) := by
  rw [zgo_run X C _ _ [0, 14, 23, 37, 57] 10]
  rfl
set_option maxRecDepth 100000 in
theorem bX9_fourth_14 (X : Nat → Nat → Int32) (C : Nat → List zV → zS → Option zR) (L : List zK) (I : Nat → Nat → Int32) (J : Nat → Nat → Int64) (v1 : Int32) (v2 : Int32) (v3 : Int32) (v4 : Int32) (s0 : Int32) : zgo X C (some .int) kX9_fourth 14 [some (.inr (.inr (some (.inl 9, 283)))), some (.inl v1), some (.inl v2), some (.inl v3), some (.inl v4), none, none, none] [.inl s0] (L, zB1, I, J) = some (some (.inl s0), (L, zB1, I, J)) := by
  rw [zgo_run X C _ _ [0, 14, 23, 37, 57] 2]
  rfl
set_option maxRecDepth 100000 in
theorem bX9_fourth_23 (X : Nat → Nat → Int32) (C : Nat → List zV → zS → Option zR) (L : List zK) (I : Nat → Nat → Int32) (J : Nat → Nat → Int64) (v1 : Int32) (v2 : Int32) (v3 : Int32) (v4 : Int32) (v5 : Int32) (v6 : Int32) (u7 : Option zV) : zgo X C (some .int) kX9_fourth 23 [some (.inr (.inr (some (.inl 9, 283)))), some (.inl v1), some (.inl v2), some (.inl v3), some (.inl v4), some (.inl v5), some (.inl v6), u7] [] (L, zB1, I, J) = if (7 : Int32) ≤ v6 then some (some (.inl v5), (L, zB1, I, J)) else cI (C 213 [.inr (.inr (some (.inl 9, 283))), .inl v2, .inl v6] (L, zB1, I, J)) (fun r σ => zgo X C (some .int) kX9_fourth 37 [some (.inr (.inr (some (.inl 9, 283)))), some (.inl v1), some (.inl v2), some (.inl v3), some (.inl v4), some (.inl v5), some (.inl v6), u7] [.inl r] σ) := by
  rw [zgo_run X C _ _ [0, 14, 23, 37, 57] 8]
  rfl
set_option maxRecDepth 100000 in
theorem bX9_fourth_37 (X : Nat → Nat → Int32) (C : Nat → List zV → zS → Option zR) (L : List zK) (I : Nat → Nat → Int32) (J : Nat → Nat → Int64) (v1 : Int32) (v2 : Int32) (v3 : Int32) (v4 : Int32) (v5 : Int32) (v6 : Int32) (u7 : Option zV) (s0 : Int32) : zgo X C (some .int) kX9_fourth 37 [some (.inr (.inr (some (.inl 9, 283)))), some (.inl v1), some (.inl v2), some (.inl v3), some (.inl v4), some (.inl v5), some (.inl v6), u7] [.inl s0] (L, zB1, I, J) = if s0 = 0 then zgo X C (some .int) kX9_fourth 23 [some (.inr (.inr (some (.inl 9, 283)))), some (.inl v1), some (.inl v2), some (.inl v3), some (.inl v4), some (.inl v5), some (.inl (v6 + 1)), u7] [] (L, zB1, I, J) else zbt (zin 3 4) (cI (C 214 [.inr (.inr (some (.inl 9, 283))), .inl v1, .inl v2, .inl v3, .inl v4] (L, zB1, (zup I 294 (3 : Int32).toNatClampNeg v6), J)) (fun r σ => zgo X C (some .int) kX9_fourth 57 [some (.inr (.inr (some (.inl 9, 283)))), some (.inl v1), some (.inl v2), some (.inl v3), some (.inl v4), some (.inl v5), some (.inl v6), u7] [.inl r] σ)) := by
  rw [zgo_run X C _ _ [0, 14, 23, 37, 57] 13]
  rfl
set_option maxRecDepth 100000 in
theorem bX9_fourth_57 (X : Nat → Nat → Int32) (C : Nat → List zV → zS → Option zR) (L : List zK) (I : Nat → Nat → Int32) (J : Nat → Nat → Int64) (v1 : Int32) (v2 : Int32) (v3 : Int32) (v4 : Int32) (v5 : Int32) (v6 : Int32) (u7 : Option zV) (s0 : Int32) : zgo X C (some .int) kX9_fourth 57 [some (.inr (.inr (some (.inl 9, 283)))), some (.inl v1), some (.inl v2), some (.inl v3), some (.inl v4), some (.inl v5), some (.inl v6), u7] [.inl s0] (L, zB1, I, J) = if v5 ≤ s0 then zgo X C (some .int) kX9_fourth 23 [some (.inr (.inr (some (.inl 9, 283)))), some (.inl v1), some (.inl v2), some (.inl v3), some (.inl v4), some (.inl v5), some (.inl (v6 + 1)), some (.inl s0)] [] (L, zB1, I, J) else zgo X C (some .int) kX9_fourth 23 [some (.inr (.inr (some (.inl 9, 283)))), some (.inl v1), some (.inl v2), some (.inl v3), some (.inl v4), some (.inl s0), some (.inl (v6 + 1)), some (.inl s0)] [] (L, zB1, I, J) := by
  rw [zgo_run X C _ _ [0, 14, 23, 37, 57] 10]
  rfl

set_option maxRecDepth 100000 in
theorem bX9_third_0 (X : Nat → Nat → Int32) (C : Nat → List zV → zS → Option zR) (L : List zK) (I : Nat → Nat → Int32) (J : Nat → Nat → Int64) (a1 : Int32) (a2 : Int32) (a3 : Int32) (a4 : Int32) : zgo X C (some .int) kX9_third 0 [some (.inr (.inr (some (.inl 9, 283)))), some (.inl a1), some (.inl a2), some (.inl a3), some (.inl a4), none, none, none] [] (L, zB1, I, J) = if (3 : Int32) ≤ a3 then zgo X C (some .int) kX9_third 23 [some (.inr (.inr (some (.inl 9, 283)))), some (.inl a1), some (.inl a2), some (.inl a3), some (.inl a4), some (.inl (-9999)), some (.inl 0), none] [] (L, zB1, I, J) else cI (C 215 [.inr (.inr (some (.inl 9, 283))), .inl a1, .inl a2, .inl a3, .inl a4] (L, zB1, I, J)) (fun r σ => zgo X C (some .int) kX9_third 14 [some (.inr (.inr (some (.inl 9, 283)))), some (.inl a1), some (.inl a2), some (.inl a3), some (.inl a4), none, none, none] [.inl r] σ) := by
  rw [zgo_run X C _ _ [0, 14, 23, 37, 57] 10]
  rfl
set_option maxRecDepth 100000 in
theorem bX9_third_14 (X : Nat → Nat → Int32) (C : Nat → List zV → zS → Option zR) (L : List zK) (I : Nat → Nat → Int32) (J : Nat → Nat → Int64) (v1 : Int32) (v2 : Int32) (v3 : Int32) (v4 : Int32) (s0 : Int32) : zgo X C (some .int) kX9_third 14 [some (.inr (.inr (some (.inl 9, 283)))), some (.inl v1), some (.inl v2), some (.inl v3), some (.inl v4), none, none, none] [.inl s0] (L, zB1, I, J) = some (some (.inl s0), (L, zB1, I, J)) := by
  rw [zgo_run X C _ _ [0, 14, 23, 37, 57] 2]
  rfl
set_option maxRecDepth 100000 in
theorem bX9_third_23 (X : Nat → Nat → Int32) (C : Nat → List zV → zS → Option zR) (L : List zK) (I : Nat → Nat → Int32) (J : Nat → Nat → Int64) (v1 : Int32) (v2 : Int32) (v3 : Int32) (v4 : Int32) (v5 : Int32) (v6 : Int32) (u7 : Option zV) : zgo X C (some .int) kX9_third 23 [some (.inr (.inr (some (.inl 9, 283)))), some (.inl v1), some (.inl v2), some (.inl v3), some (.inl v4), some (.inl v5), some (.inl v6), u7] [] (L, zB1, I, J) = if (7 : Int32) ≤ v6 then some (some (.inl v5), (L, zB1, I, J)) else cI (C 213 [.inr (.inr (some (.inl 9, 283))), .inl v1, .inl v6] (L, zB1, I, J)) (fun r σ => zgo X C (some .int) kX9_third 37 [some (.inr (.inr (some (.inl 9, 283)))), some (.inl v1), some (.inl v2), some (.inl v3), some (.inl v4), some (.inl v5), some (.inl v6), u7] [.inl r] σ) := by
  rw [zgo_run X C _ _ [0, 14, 23, 37, 57] 8]
  rfl
set_option maxRecDepth 100000 in
theorem bX9_third_37 (X : Nat → Nat → Int32) (C : Nat → List zV → zS → Option zR) (L : List zK) (I : Nat → Nat → Int32) (J : Nat → Nat → Int64) (v1 : Int32) (v2 : Int32) (v3 : Int32) (v4 : Int32) (v5 : Int32) (v6 : Int32) (u7 : Option zV) (s0 : Int32) : zgo X C (some .int) kX9_third 37 [some (.inr (.inr (some (.inl 9, 283)))), some (.inl v1), some (.inl v2), some (.inl v3), some (.inl v4), some (.inl v5), some (.inl v6), u7] [.inl s0] (L, zB1, I, J) = if s0 = 0 then zgo X C (some .int) kX9_third 23 [some (.inr (.inr (some (.inl 9, 283)))), some (.inl v1), some (.inl v2), some (.inl v3), some (.inl v4), some (.inl v5), some (.inl (v6 + 1)), u7] [] (L, zB1, I, J) else zbt (zin 2 4) (cI (C 215 [.inr (.inr (some (.inl 9, 283))), .inl v1, .inl v2, .inl v3, .inl v4] (L, zB1, (zup I 294 (2 : Int32).toNatClampNeg v6), J)) (fun r σ => zgo X C (some .int) kX9_third 57 [some (.inr (.inr (some (.inl 9, 283)))), some (.inl v1), some (.inl v2), some (.inl v3), some (.inl v4), some (.inl v5), some (.inl v6), u7] [.inl r] σ)) := by
  rw [zgo_run X C _ _ [0, 14, 23, 37, 57] 13]
  rfl
set_option maxRecDepth 100000 in
theorem bX9_third_57 (X : Nat → Nat → Int32) (C : Nat → List zV → zS → Option zR) (L : List zK) (I : Nat → Nat → Int32) (J : Nat → Nat → Int64) (v1 : Int32) (v2 : Int32) (v3 : Int32) (v4 : Int32) (v5 : Int32) (v6 : Int32) (u7 : Option zV) (s0 : Int32) : zgo X C (some .int) kX9_third 57 [some (.inr (.inr (some (.inl 9, 283)))), some (.inl v1), some (.inl v2), some (.inl v3), some (.inl v4), some (.inl v5), some (.inl v6), u7] [.inl s0] (L, zB1, I, J) = if s0 ≤ v5 then zgo X C (some .int) kX9_third 23 [some (.inr (.inr (some (.inl 9, 283)))), some (.inl v1), some (.inl v2), some (.inl v3), some (.inl v4), some (.inl v5), some (.inl (v6 + 1)), some (.inl s0)] [] (L, zB1, I, J) else zgo X C (some .int) kX9_third 23 [some (.inr (.inr (some (.inl 9, 283)))), some (.inl v1), some (.inl v2), some (.inl v3), some (.inl v4), some (.inl s0), some (.inl (v6 + 1)), some (.inl s0)] [] (L, zB1, I, J) := by
  rw [zgo_run X C _ _ [0, 14, 23, 37, 57] 10]
  rfl

set_option maxRecDepth 100000 in
theorem bX9_second_0 (X : Nat → Nat → Int32) (C : Nat → List zV → zS → Option zR) (L : List zK) (I : Nat → Nat → Int32) (J : Nat → Nat → Int64) (a1 : Int32) (a2 : Int32) (a3 : Int32) (a4 : Int32) : zgo X C (some .int) kX9_second 0 [some (.inr (.inr (some (.inl 9, 283)))), some (.inl a1), some (.inl a2), some (.inl a3), some (.inl a4), none, none, none] [] (L, zB1, I, J) = if (2 : Int32) ≤ a3 then zgo X C (some .int) kX9_second 23 [some (.inr (.inr (some (.inl 9, 283)))), some (.inl a1), some (.inl a2), some (.inl a3), some (.inl a4), some (.inl 9999), some (.inl 0), none] [] (L, zB1, I, J) else cI (C 216 [.inr (.inr (some (.inl 9, 283))), .inl a1, .inl a2, .inl a3, .inl a4] (L, zB1, I, J)) (fun r σ => zgo X C (some .int) kX9_second 14 [some (.inr (.inr (some (.inl 9, 283)))), some (.inl a1), some (.inl a2), some (.inl a3), some (.inl a4), none, none, none] [.inl r] σ) := by
  rw [zgo_run X C _ _ [0, 14, 23, 37, 57] 10]
  rfl
set_option maxRecDepth 100000 in
theorem bX9_second_14 (X : Nat → Nat → Int32) (C : Nat → List zV → zS → Option zR) (L : List zK) (I : Nat → Nat → Int32) (J : Nat → Nat → Int64) (v1 : Int32) (v2 : Int32) (v3 : Int32) (v4 : Int32) (s0 : Int32) : zgo X C (some .int) kX9_second 14 [some (.inr (.inr (some (.inl 9, 283)))), some (.inl v1), some (.inl v2), some (.inl v3), some (.inl v4), none, none, none] [.inl s0] (L, zB1, I, J) = some (some (.inl s0), (L, zB1, I, J)) := by
  rw [zgo_run X C _ _ [0, 14, 23, 37, 57] 2]
  rfl
set_option maxRecDepth 100000 in
theorem bX9_second_23 (X : Nat → Nat → Int32) (C : Nat → List zV → zS → Option zR) (L : List zK) (I : Nat → Nat → Int32) (J : Nat → Nat → Int64) (v1 : Int32) (v2 : Int32) (v3 : Int32) (v4 : Int32) (v5 : Int32) (v6 : Int32) (u7 : Option zV) : zgo X C (some .int) kX9_second 23 [some (.inr (.inr (some (.inl 9, 283)))), some (.inl v1), some (.inl v2), some (.inl v3), some (.inl v4), some (.inl v5), some (.inl v6), u7] [] (L, zB1, I, J) = if (7 : Int32) ≤ v6 then some (some (.inl v5), (L, zB1, I, J)) else cI (C 213 [.inr (.inr (some (.inl 9, 283))), .inl v2, .inl v6] (L, zB1, I, J)) (fun r σ => zgo X C (some .int) kX9_second 37 [some (.inr (.inr (some (.inl 9, 283)))), some (.inl v1), some (.inl v2), some (.inl v3), some (.inl v4), some (.inl v5), some (.inl v6), u7] [.inl r] σ) := by
  rw [zgo_run X C _ _ [0, 14, 23, 37, 57] 8]
  rfl
set_option maxRecDepth 100000 in
theorem bX9_second_37 (X : Nat → Nat → Int32) (C : Nat → List zV → zS → Option zR) (L : List zK) (I : Nat → Nat → Int32) (J : Nat → Nat → Int64) (v1 : Int32) (v2 : Int32) (v3 : Int32) (v4 : Int32) (v5 : Int32) (v6 : Int32) (u7 : Option zV) (s0 : Int32) : zgo X C (some .int) kX9_second 37 [some (.inr (.inr (some (.inl 9, 283)))), some (.inl v1), some (.inl v2), some (.inl v3), some (.inl v4), some (.inl v5), some (.inl v6), u7] [.inl s0] (L, zB1, I, J) = if s0 = 0 then zgo X C (some .int) kX9_second 23 [some (.inr (.inr (some (.inl 9, 283)))), some (.inl v1), some (.inl v2), some (.inl v3), some (.inl v4), some (.inl v5), some (.inl (v6 + 1)), u7] [] (L, zB1, I, J) else zbt (zin 1 4) (cI (C 216 [.inr (.inr (some (.inl 9, 283))), .inl v1, .inl v2, .inl v3, .inl v4] (L, zB1, (zup I 294 (1 : Int32).toNatClampNeg v6), J)) (fun r σ => zgo X C (some .int) kX9_second 57 [some (.inr (.inr (some (.inl 9, 283)))), some (.inl v1), some (.inl v2), some (.inl v3), some (.inl v4), some (.inl v5), some (.inl v6), u7] [.inl r] σ)) := by
  rw [zgo_run X C _ _ [0, 14, 23, 37, 57] 13]
  rfl
set_option maxRecDepth 100000 in
theorem bX9_second_57 (X : Nat → Nat → Int32) (C : Nat → List zV → zS → Option zR) (L : List zK) (I : Nat → Nat → Int32) (J : Nat → Nat → Int64) (v1 : Int32) (v2 : Int32) (v3 : Int32) (v4 : Int32) (v5 : Int32) (v6 : Int32) (u7 : Option zV) (s0 : Int32) : zgo X C (some .int) kX9_second 57 [some (.inr (.inr (some (.inl 9, 283)))), some (.inl v1), some (.inl v2), some (.inl v3), some (.inl v4), some (.inl v5), some (.inl v6), u7] [.inl s0] (L, zB1, I, J) = if v5 ≤ s0 then zgo X C (some .int) kX9_second 23 [some (.inr (.inr (some (.inl 9, 283)))), some (.inl v1), some (.inl v2), some (.inl v3), some (.inl v4), some (.inl v5), some (.inl (v6 + 1)), some (.inl s0)] [] (L, zB1, I, J) else zgo X C (some .int) kX9_second 23 [some (.inr (.inr (some (.inl 9, 283)))), some (.inl v1), some (.inl v2), some (.inl v3), some (.inl v4), some (.inl s0), some (.inl (v6 + 1)), some (.inl s0)] [] (L, zB1, I, J) := by
  rw [zgo_run X C _ _ [0, 14, 23, 37, 57] 10]
  rfl

set_option maxRecDepth 100000 in
theorem bX9_byTurns_0 (X : Nat → Nat → Int32) (C : Nat → List zV → zS → Option zR) (L : List zK) (I : Nat → Nat → Int32) (J : Nat → Nat → Int64) (a1 : Int32) (a2 : Int32) (a3 : Int32) (a4 : Int32) : zgo X C (some .int) kX9_byTurns 0 [some (.inr (.inr (some (.inl 9, 283)))), some (.inl a1), some (.inl a2), some (.inl a3), some (.inl a4), none, none, none] [] (L, zB1, I, J) = cI (C 177 [.inr (.inr (some (.inl 9, 283))), .inl a1] (L, zB1, (zup I 283 0 0), J)) (fun r σ => zgo X C (some .int) kX9_byTurns 10 [some (.inr (.inr (some (.inl 9, 283)))), some (.inl a1), some (.inl a2), some (.inl a3), some (.inl a4), none, none, none] [.inl r] σ) := by
  rw [zgo_run X C _ _ [0, 10, 18, 35, 48, 67, 76, 90, 110] 7]
  rfl
set_option maxRecDepth 100000 in
theorem bX9_byTurns_10 (X : Nat → Nat → Int32) (C : Nat → List zV → zS → Option zR) (L : List zK) (I : Nat → Nat → Int32) (J : Nat → Nat → Int64) (v1 : Int32) (v2 : Int32) (v3 : Int32) (v4 : Int32) (s0 : Int32) : zgo X C (some .int) kX9_byTurns 10 [some (.inr (.inr (some (.inl 9, 283)))), some (.inl v1), some (.inl v2), some (.inl v3), some (.inl v4), none, none, none] [.inl s0] (L, zB1, I, J) = if s0 = 0 then some (some (.inl (-1000001)), (L, zB1, I, J)) else cI (C 177 [.inr (.inr (some (.inl 9, 283))), .inl v2] (L, zB1, I, J)) (fun r σ => zgo X C (some .int) kX9_byTurns 18 [some (.inr (.inr (some (.inl 9, 283)))), some (.inl v1), some (.inl v2), some (.inl v3), some (.inl v4), none, none, none] [.inl r] σ) := by
  rw [zgo_run X C _ _ [0, 10, 18, 35, 48, 67, 76, 90, 110] 5]
  rfl
set_option maxRecDepth 100000 in
theorem bX9_byTurns_18 (X : Nat → Nat → Int32) (C : Nat → List zV → zS → Option zR) (L : List zK) (I : Nat → Nat → Int32) (J : Nat → Nat → Int64) (v1 : Int32) (v2 : Int32) (v3 : Int32) (v4 : Int32) (s0 : Int32) : zgo X C (some .int) kX9_byTurns 18 [some (.inr (.inr (some (.inl 9, 283)))), some (.inl v1), some (.inl v2), some (.inl v3), some (.inl v4), none, none, none] [.inl s0] (L, zB1, I, J) = if s0 = 0 then some (some (.inl (-1000001)), (L, zB1, I, J)) else if v1 = v2 then some (some (.inl (-1000001)), (L, zB1, I, J)) else cI (C 153 [.inr (.inl ((v3).toInt64)), .inr (.inl 0), .inr (.inl 4)] (L, zB1, I, J)) (fun r σ => zgo X C (some .int) kX9_byTurns 35 [some (.inr (.inr (some (.inl 9, 283)))), some (.inl v1), some (.inl v2), some (.inl v3), some (.inl v4), none, none, none] [.inl r] σ) := by
  rw [zgo_run X C _ _ [0, 10, 18, 35, 48, 67, 76, 90, 110] 10]
  rfl
set_option maxRecDepth 100000 in
theorem bX9_byTurns_35 (X : Nat → Nat → Int32) (C : Nat → List zV → zS → Option zR) (L : List zK) (I : Nat → Nat → Int32) (J : Nat → Nat → Int64) (v1 : Int32) (v2 : Int32) (v3 : Int32) (v4 : Int32) (s0 : Int32) : zgo X C (some .int) kX9_byTurns 35 [some (.inr (.inr (some (.inl 9, 283)))), some (.inl v1), some (.inl v2), some (.inl v3), some (.inl v4), none, none, none] [.inl s0] (L, zB1, I, J) = if s0 = 0 then some (some (.inl (-1000001)), (L, zB1, I, J)) else cI (C 153 [.inr (.inl ((v4).toInt64)), .inr (.inl 1), .inr (.inl 20)] (L, zB1, I, J)) (fun r σ => zgo X C (some .int) kX9_byTurns 48 [some (.inr (.inr (some (.inl 9, 283)))), some (.inl v1), some (.inl v2), some (.inl v3), some (.inl v4), none, none, none] [.inl r] σ) := by
  rw [zgo_run X C _ _ [0, 10, 18, 35, 48, 67, 76, 90, 110] 7]
  rfl
set_option maxRecDepth 100000 in
theorem bX9_byTurns_48 (X : Nat → Nat → Int32) (C : Nat → List zV → zS → Option zR) (L : List zK) (I : Nat → Nat → Int32) (J : Nat → Nat → Int64) (v1 : Int32) (v2 : Int32) (v3 : Int32) (v4 : Int32) (s0 : Int32) : zgo X C (some .int) kX9_byTurns 48 [some (.inr (.inr (some (.inl 9, 283)))), some (.inl v1), some (.inl v2), some (.inl v3), some (.inl v4), none, none, none] [.inl s0] (L, zB1, I, J) = if s0 = 0 then some (some (.inl (-1000001)), (L, zB1, I, J)) else if v3 = 0 then cI (C 217 [.inr (.inr (some (.inl 9, 283))), .inl v1, .inl v2, .inl v3, .inl v4] (L, zB1, I, J)) (fun r σ => zgo X C (some .int) kX9_byTurns 67 [some (.inr (.inr (some (.inl 9, 283)))), some (.inl v1), some (.inl v2), some (.inl v3), some (.inl v4), none, none, none] [.inl r] σ) else zgo X C (some .int) kX9_byTurns 76 [some (.inr (.inr (some (.inl 9, 283)))), some (.inl v1), some (.inl v2), some (.inl v3), some (.inl v4), some (.inl (-9999)), some (.inl 0), none] [] (L, zB1, I, J) := by
  rw [zgo_run X C _ _ [0, 10, 18, 35, 48, 67, 76, 90, 110] 10]
  rfl
set_option maxRecDepth 100000 in
theorem bX9_byTurns_67 (X : Nat → Nat → Int32) (C : Nat → List zV → zS → Option zR) (L : List zK) (I : Nat → Nat → Int32) (J : Nat → Nat → Int64) (v1 : Int32) (v2 : Int32) (v3 : Int32) (v4 : Int32) (s0 : Int32) : zgo X C (some .int) kX9_byTurns 67 [some (.inr (.inr (some (.inl 9, 283)))), some (.inl v1), some (.inl v2), some (.inl v3), some (.inl v4), none, none, none] [.inl s0] (L, zB1, I, J) = some (some (.inl s0), (L, zB1, I, J)) := by
  rw [zgo_run X C _ _ [0, 10, 18, 35, 48, 67, 76, 90, 110] 2]
  rfl
set_option maxRecDepth 100000 in
theorem bX9_byTurns_76 (X : Nat → Nat → Int32) (C : Nat → List zV → zS → Option zR) (L : List zK) (I : Nat → Nat → Int32) (J : Nat → Nat → Int64) (v1 : Int32) (v2 : Int32) (v3 : Int32) (v4 : Int32) (v5 : Int32) (v6 : Int32) (u7 : Option zV) : zgo X C (some .int) kX9_byTurns 76 [some (.inr (.inr (some (.inl 9, 283)))), some (.inl v1), some (.inl v2), some (.inl v3), some (.inl v4), some (.inl v5), some (.inl v6), u7] [] (L, zB1, I, J) = if (7 : Int32) ≤ v6 then some (some (.inl v5), (L, zB1, I, J)) else cI (C 213 [.inr (.inr (some (.inl 9, 283))), .inl v1, .inl v6] (L, zB1, I, J)) (fun r σ => zgo X C (some .int) kX9_byTurns 90 [some (.inr (.inr (some (.inl 9, 283)))), some (.inl v1), some (.inl v2), some (.inl v3), some (.inl v4), some (.inl v5), some (.inl v6), u7] [.inl r] σ) := by
  rw [zgo_run X C _ _ [0, 10, 18, 35, 48, 67, 76, 90, 110] 8]
  rfl
set_option maxRecDepth 100000 in
theorem bX9_byTurns_90 (X : Nat → Nat → Int32) (C : Nat → List zV → zS → Option zR) (L : List zK) (I : Nat → Nat → Int32) (J : Nat → Nat → Int64) (v1 : Int32) (v2 : Int32) (v3 : Int32) (v4 : Int32) (v5 : Int32) (v6 : Int32) (u7 : Option zV) (s0 : Int32) : zgo X C (some .int) kX9_byTurns 90 [some (.inr (.inr (some (.inl 9, 283)))), some (.inl v1), some (.inl v2), some (.inl v3), some (.inl v4), some (.inl v5), some (.inl v6), u7] [.inl s0] (L, zB1, I, J) = if s0 = 0 then zgo X C (some .int) kX9_byTurns 76 [some (.inr (.inr (some (.inl 9, 283)))), some (.inl v1), some (.inl v2), some (.inl v3), some (.inl v4), some (.inl v5), some (.inl (v6 + 1)), u7] [] (L, zB1, I, J) else zbt (zin 0 4) (cI (C 217 [.inr (.inr (some (.inl 9, 283))), .inl v1, .inl v2, .inl v3, .inl v4] (L, zB1, (zup I 294 (0 : Int32).toNatClampNeg v6), J)) (fun r σ => zgo X C (some .int) kX9_byTurns 110 [some (.inr (.inr (some (.inl 9, 283)))), some (.inl v1), some (.inl v2), some (.inl v3), some (.inl v4), some (.inl v5), some (.inl v6), u7] [.inl r] σ)) := by
  rw [zgo_run X C _ _ [0, 10, 18, 35, 48, 67, 76, 90, 110] 13]
  rfl
set_option maxRecDepth 100000 in
theorem bX9_byTurns_110 (X : Nat → Nat → Int32) (C : Nat → List zV → zS → Option zR) (L : List zK) (I : Nat → Nat → Int32) (J : Nat → Nat → Int64) (v1 : Int32) (v2 : Int32) (v3 : Int32) (v4 : Int32) (v5 : Int32) (v6 : Int32) (u7 : Option zV) (s0 : Int32) : zgo X C (some .int) kX9_byTurns 110 [some (.inr (.inr (some (.inl 9, 283)))), some (.inl v1), some (.inl v2), some (.inl v3), some (.inl v4), some (.inl v5), some (.inl v6), u7] [.inl s0] (L, zB1, I, J) = if s0 ≤ v5 then zgo X C (some .int) kX9_byTurns 76 [some (.inr (.inr (some (.inl 9, 283)))), some (.inl v1), some (.inl v2), some (.inl v3), some (.inl v4), some (.inl v5), some (.inl (v6 + 1)), some (.inl s0)] [] (L, zB1, I, J) else zgo X C (some .int) kX9_byTurns 76 [some (.inr (.inr (some (.inl 9, 283)))), some (.inl v1), some (.inl v2), some (.inl v3), some (.inl v4), some (.inl s0), some (.inl (v6 + 1)), some (.inl s0)] [] (L, zB1, I, J) := by
  rw [zgo_run X C _ _ [0, 10, 18, 35, 48, 67, 76, 90, 110] 10]
  rfl

set_option maxRecDepth 100000 in
theorem bX9_isSo_0 (X : Nat → Nat → Int32) (C : Nat → List zV → zS → Option zR) (L : List zK) (I : Nat → Nat → Int32) (J : Nat → Nat → Int64) (a1 : Int32) (a2 : Int32) (a3 : Int32) : zgo X C (some .boolean) kX9_isSo 0 [some (.inr (.inr (some (.inl 9, 283)))), some (.inl a1), some (.inl a2), some (.inl a3), none, none] [] (L, zB1, I, J) = zgo X C (some .boolean) kX9_isSo 6 [some (.inr (.inr (some (.inl 9, 283)))), some (.inl a1), some (.inl a2), some (.inl a3), some (.inl 1), some (.inl 0)] [] (L, zB1, I, J) := by
  rw [zgo_run X C _ _ [0, 6, 20, 34, 50] 5]
  rfl
set_option maxRecDepth 100000 in
theorem bX9_isSo_6 (X : Nat → Nat → Int32) (C : Nat → List zV → zS → Option zR) (L : List zK) (I : Nat → Nat → Int32) (J : Nat → Nat → Int64) (v1 : Int32) (v2 : Int32) (v3 : Int32) (v4 : Int32) (v5 : Int32) : zgo X C (some .boolean) kX9_isSo 6 [some (.inr (.inr (some (.inl 9, 283)))), some (.inl v1), some (.inl v2), some (.inl v3), some (.inl v4), some (.inl v5)] [] (L, zB1, I, J) = if v3 ≤ v5 then zret (some .boolean) (some (.inl v4)) (L, zB1, I, J) else cV (C 187 [.inr (.inr (some (.inr (.int, 43), 289))), .inl 0] (L, zB1, I, J)) (fun σ => zgo X C (some .boolean) kX9_isSo 20 [some (.inr (.inr (some (.inl 9, 283)))), some (.inl v1), some (.inl v2), some (.inl v3), some (.inl v4), some (.inl v5)] [] σ) := by
  rw [zgo_run X C _ _ [0, 6, 20, 34, 50] 8]
  rfl
set_option maxRecDepth 100000 in
theorem bX9_isSo_20 (X : Nat → Nat → Int32) (C : Nat → List zV → zS → Option zR) (L : List zK) (I : Nat → Nat → Int32) (J : Nat → Nat → Int64) (v1 : Int32) (v2 : Int32) (v3 : Int32) (v4 : Int32) (v5 : Int32) : zgo X C (some .boolean) kX9_isSo 20 [some (.inr (.inr (some (.inl 9, 283)))), some (.inl v1), some (.inl v2), some (.inl v3), some (.inl v4), some (.inl v5)] [] (L, zB1, I, J) = if v4 = 0 then zgo X C (some .boolean) kX9_isSo 50 [some (.inr (.inr (some (.inl 9, 283)))), some (.inl v1), some (.inl v2), some (.inl v3), some (.inl v4), some (.inl v5)] [] (L, zB1, I, J) else cI (C 180 [.inr (.inr (some (.inr (.int, 43), 289))), .inl v1, .inl 4] (L, zB1, I, J)) (fun r σ => zgo X C (some .boolean) kX9_isSo 34 [some (.inr (.inr (some (.inl 9, 283)))), some (.inl v1), some (.inl v2), some (.inl v3), some (.inl v4), some (.inl v5)] [.inl r] σ) := by
  rw [zgo_run X C _ _ [0, 6, 20, 34, 50] 8]
  rfl
set_option maxRecDepth 100000 in
theorem bX9_isSo_34 (X : Nat → Nat → Int32) (C : Nat → List zV → zS → Option zR) (L : List zK) (I : Nat → Nat → Int32) (J : Nat → Nat → Int64) (v1 : Int32) (v2 : Int32) (v3 : Int32) (v4 : Int32) (v5 : Int32) (s0 : Int32) : zgo X C (some .boolean) kX9_isSo 34 [some (.inr (.inr (some (.inl 9, 283)))), some (.inl v1), some (.inl v2), some (.inl v3), some (.inl v4), some (.inl v5)] [.inl s0] (L, zB1, I, J) = zbt (zin (v2 + v5) 320) (if s0 = (I 286 (v2 + v5).toNatClampNeg) then zgo X C (some .boolean) kX9_isSo 6 [some (.inr (.inr (some (.inl 9, 283)))), some (.inl v1), some (.inl v2), some (.inl v3), some (.inl 1), some (.inl (v5 + 1))] [] (L, zB1, I, J) else zgo X C (some .boolean) kX9_isSo 50 [some (.inr (.inr (some (.inl 9, 283)))), some (.inl v1), some (.inl v2), some (.inl v3), some (.inl v4), some (.inl v5)] [] (L, zB1, I, J)) := by
  rw [zgo_run X C _ _ [0, 6, 20, 34, 50] 13]
  rfl
set_option maxRecDepth 100000 in
theorem bX9_isSo_50 (X : Nat → Nat → Int32) (C : Nat → List zV → zS → Option zR) (L : List zK) (I : Nat → Nat → Int32) (J : Nat → Nat → Int64) (v1 : Int32) (v2 : Int32) (v3 : Int32) (v4 : Int32) (v5 : Int32) : zgo X C (some .boolean) kX9_isSo 50 [some (.inr (.inr (some (.inl 9, 283)))), some (.inl v1), some (.inl v2), some (.inl v3), some (.inl v4), some (.inl v5)] [] (L, zB1, I, J) = zgo X C (some .boolean) kX9_isSo 6 [some (.inr (.inr (some (.inl 9, 283)))), some (.inl v1), some (.inl v2), some (.inl v3), some (.inl 0), some (.inl (v5 + 1))] [] (L, zB1, I, J) := by
  rw [zgo_run X C _ _ [0, 6, 20, 34, 50] 5]
  rfl

set_option maxRecDepth 100000 in
theorem bX9_rowFound_0 (X : Nat → Nat → Int32) (C : Nat → List zV → zS → Option zR) (L : List zK) (I : Nat → Nat → Int32) (J : Nat → Nat → Int64) (a1 : Int32) (a2 : Int32) (a3 : Int32) : zgo X C (some .int) kX9_rowFound 0 [some (.inr (.inr (some (.inl 9, 283)))), some (.inl a1), some (.inl a2), some (.inl a3)] [] (L, zB1, I, J) = zbt (zin a1 8) (if 0 ≤ (I 284 a1.toNatClampNeg) then if a2 < 0 then cI (C 154 [.inr (.inr (some (.inl 9, 283))), .inl 2] (L, zB1, I, J)) (fun r σ => zgo X C (some .int) kX9_rowFound 40 [some (.inr (.inr (some (.inl 9, 283)))), some (.inl a1), some (.inl a2), some (.inl a3)] [.inl r] σ) else zbt (zin a1 8) (if (lg_cmp ((a2).toInt64 + (a3).toInt64) (((I 285 a1.toNatClampNeg)).toInt64)) ≤ 0 then some (some (.inl 0), (L, zB1, (zup I 283 1 0), J)) else cI (C 154 [.inr (.inr (some (.inl 9, 283))), .inl 2] (L, zB1, I, J)) (fun r σ => zgo X C (some .int) kX9_rowFound 40 [some (.inr (.inr (some (.inl 9, 283)))), some (.inl a1), some (.inl a2), some (.inl a3)] [.inl r] σ)) else cI (C 154 [.inr (.inr (some (.inl 9, 283))), .inl 1] (L, zB1, I, J)) (fun r σ => zgo X C (some .int) kX9_rowFound 14 [some (.inr (.inr (some (.inl 9, 283)))), some (.inl a1), some (.inl a2), some (.inl a3)] [.inl r] σ)) := by
  rw [zgo_run X C _ _ [0, 14, 40] 25]
  rfl
set_option maxRecDepth 100000 in
theorem bX9_rowFound_14 (X : Nat → Nat → Int32) (C : Nat → List zV → zS → Option zR) (L : List zK) (I : Nat → Nat → Int32) (J : Nat → Nat → Int64) (v1 : Int32) (v2 : Int32) (v3 : Int32) (s0 : Int32) : zgo X C (some .int) kX9_rowFound 14 [some (.inr (.inr (some (.inl 9, 283)))), some (.inl v1), some (.inl v2), some (.inl v3)] [.inl s0] (L, zB1, I, J) = some (some (.inl s0), (L, zB1, I, J)) := by
  rw [zgo_run X C _ _ [0, 14, 40] 2]
  rfl
set_option maxRecDepth 100000 in
theorem bX9_rowFound_40 (X : Nat → Nat → Int32) (C : Nat → List zV → zS → Option zR) (L : List zK) (I : Nat → Nat → Int32) (J : Nat → Nat → Int64) (v1 : Int32) (v2 : Int32) (v3 : Int32) (s0 : Int32) : zgo X C (some .int) kX9_rowFound 40 [some (.inr (.inr (some (.inl 9, 283)))), some (.inl v1), some (.inl v2), some (.inl v3)] [.inl s0] (L, zB1, I, J) = some (some (.inl s0), (L, zB1, I, J)) := by
  rw [zgo_run X C _ _ [0, 14, 40] 2]
  rfl

set_option maxRecDepth 100000 in
theorem bX9_isMany_0 (X : Nat → Nat → Int32) (C : Nat → List zV → zS → Option zR) (L : List zK) (I : Nat → Nat → Int32) (J : Nat → Nat → Int64) (a1 : Int32) (a2 : Int32) : zgo X C (some .boolean) kX9_isMany 0 [some (.inl a1), some (.inl a2)] [] (L, zB1, I, J) = cI (C 155 [.inl a1] (L, zB1, I, J)) (fun r σ => zgo X C (some .boolean) kX9_isMany 4 [some (.inl a1), some (.inl a2)] [.inl r] σ) := by
  rw [zgo_run X C _ _ [0, 4, 16] 3]
  rfl
set_option maxRecDepth 100000 in
theorem bX9_isMany_4 (X : Nat → Nat → Int32) (C : Nat → List zV → zS → Option zR) (L : List zK) (I : Nat → Nat → Int32) (J : Nat → Nat → Int64) (v0 : Int32) (v1 : Int32) (s0 : Int32) : zgo X C (some .boolean) kX9_isMany 4 [some (.inl v0), some (.inl v1)] [.inl s0] (L, zB1, I, J) = if s0 = 0 then some (some (.inl 0), (L, zB1, I, J)) else cI (C 153 [.inr (.inl ((v1).toInt64)), .inr (.inl 1), .inr (.inl 12)] (L, zB1, I, J)) (fun r σ => zgo X C (some .boolean) kX9_isMany 16 [some (.inl v0), some (.inl v1)] [.inl r] σ) := by
  rw [zgo_run X C _ _ [0, 4, 16] 7]
  rfl
set_option maxRecDepth 100000 in
theorem bX9_isMany_16 (X : Nat → Nat → Int32) (C : Nat → List zV → zS → Option zR) (L : List zK) (I : Nat → Nat → Int32) (J : Nat → Nat → Int64) (v0 : Int32) (v1 : Int32) (s0 : Int32) : zgo X C (some .boolean) kX9_isMany 16 [some (.inl v0), some (.inl v1)] [.inl s0] (L, zB1, I, J) = if s0 = 0 then some (some (.inl 0), (L, zB1, I, J)) else some (some (.inl 1), (L, zB1, I, J)) := by
  rw [zgo_run X C _ _ [0, 4, 16] 5]
  rfl

set_option maxRecDepth 100000 in
theorem bX9_who_0 (X : Nat → Nat → Int32) (C : Nat → List zV → zS → Option zR) (L : List zK) (I : Nat → Nat → Int32) (J : Nat → Nat → Int64) (a1 : Int32) (a2 : Int32) (a3 : Int32) (a4 : Int32) (a5 : Int32) : zgo X C (some .int) kX9_who 0 [some (.inr (.inr (some (.inl 9, 283)))), some (.inl a1), some (.inl a2), some (.inl a3), some (.inl a4), some (.inl a5), none, none, none, none, none] [] (L, zB1, I, J) = cI (C 176 [.inr (.inr (some (.inl 9, 283))), .inl a1] (L, zB1, (zup I 283 0 0), J)) (fun r σ => zgo X C (some .int) kX9_who 10 [some (.inr (.inr (some (.inl 9, 283)))), some (.inl a1), some (.inl a2), some (.inl a3), some (.inl a4), some (.inl a5), none, none, none, none, none] [.inl r] σ) := by
  rw [zgo_run X C _ _ [0, 10, 22, 31, 46, 77, 89, 96, 115, 129, 146, 161] 7]
  rfl
set_option maxRecDepth 100000 in
theorem bX9_who_10 (X : Nat → Nat → Int32) (C : Nat → List zV → zS → Option zR) (L : List zK) (I : Nat → Nat → Int32) (J : Nat → Nat → Int64) (v1 : Int32) (v2 : Int32) (v3 : Int32) (v4 : Int32) (v5 : Int32) (s0 : Int32) : zgo X C (some .int) kX9_who 10 [some (.inr (.inr (some (.inl 9, 283)))), some (.inl v1), some (.inl v2), some (.inl v3), some (.inl v4), some (.inl v5), none, none, none, none, none] [.inl s0] (L, zB1, I, J) = if s0 = 0 then some (some (.inl (-1000001)), (L, zB1, I, J)) else cI (C 153 [.inr (.inl ((v2).toInt64)), .inr (.inl 0), .inr (.inl 2)] (L, zB1, I, J)) (fun r σ => zgo X C (some .int) kX9_who 22 [some (.inr (.inr (some (.inl 9, 283)))), some (.inl v1), some (.inl v2), some (.inl v3), some (.inl v4), some (.inl v5), none, none, none, none, none] [.inl r] σ) := by
  rw [zgo_run X C _ _ [0, 10, 22, 31, 46, 77, 89, 96, 115, 129, 146, 161] 7]
  rfl
set_option maxRecDepth 100000 in
theorem bX9_who_22 (X : Nat → Nat → Int32) (C : Nat → List zV → zS → Option zR) (L : List zK) (I : Nat → Nat → Int32) (J : Nat → Nat → Int64) (v1 : Int32) (v2 : Int32) (v3 : Int32) (v4 : Int32) (v5 : Int32) (s0 : Int32) : zgo X C (some .int) kX9_who 22 [some (.inr (.inr (some (.inl 9, 283)))), some (.inl v1), some (.inl v2), some (.inl v3), some (.inl v4), some (.inl v5), none, none, none, none, none] [.inl s0] (L, zB1, I, J) = if s0 = 0 then some (some (.inl (-1000001)), (L, zB1, I, J)) else cI (C 221 [.inl v3, .inl v5] (L, zB1, I, J)) (fun r σ => zgo X C (some .int) kX9_who 31 [some (.inr (.inr (some (.inl 9, 283)))), some (.inl v1), some (.inl v2), some (.inl v3), some (.inl v4), some (.inl v5), none, none, none, none, none] [.inl r] σ) := by
  rw [zgo_run X C _ _ [0, 10, 22, 31, 46, 77, 89, 96, 115, 129, 146, 161] 5]
  rfl
set_option maxRecDepth 100000 in
theorem bX9_who_31 (X : Nat → Nat → Int32) (C : Nat → List zV → zS → Option zR) (L : List zK) (I : Nat → Nat → Int32) (J : Nat → Nat → Int64) (v1 : Int32) (v2 : Int32) (v3 : Int32) (v4 : Int32) (v5 : Int32) (s0 : Int32) : zgo X C (some .int) kX9_who 31 [some (.inr (.inr (some (.inl 9, 283)))), some (.inl v1), some (.inl v2), some (.inl v3), some (.inl v4), some (.inl v5), none, none, none, none, none] [.inl s0] (L, zB1, I, J) = if s0 = 0 then some (some (.inl (-1000001)), (L, zB1, I, J)) else cI (C 220 [.inr (.inr (some (.inl 9, 283))), .inl v3, .inl v4, .inl v5] (L, zB1, I, J)) (fun r σ => zgo X C (some .int) kX9_who 46 [some (.inr (.inr (some (.inl 9, 283)))), some (.inl v1), some (.inl v2), some (.inl v3), some (.inl v4), some (.inl v5), none, none, none, none, none] [.inl r] σ) := by
  rw [zgo_run X C _ _ [0, 10, 22, 31, 46, 77, 89, 96, 115, 129, 146, 161] 7]
  rfl
set_option maxRecDepth 100000 in
theorem bX9_who_46 (X : Nat → Nat → Int32) (C : Nat → List zV → zS → Option zR) (L : List zK) (I : Nat → Nat → Int32) (J : Nat → Nat → Int64) (v1 : Int32) (v2 : Int32) (v3 : Int32) (v4 : Int32) (v5 : Int32) (s0 : Int32) : zgo X C (some .int) kX9_who 46 [some (.inr (.inr (some (.inl 9, 283)))), some (.inl v1), some (.inl v2), some (.inl v3), some (.inl v4), some (.inl v5), none, none, none, none, none] [.inl s0] (L, zB1, I, J) = if s0 = 0 then if v2 = 0 then zgo X C (some .int) kX9_who 77 [some (.inr (.inr (some (.inl 9, 283)))), some (.inl v1), some (.inl v2), some (.inl v3), some (.inl v4), some (.inl v5), some (.inl s0), some (.inl 0), some (.inl 0), some (.inl (-1000000)), some (.inl 1)] [] (L, zB1, I, J) else zgo X C (some .int) kX9_who 77 [some (.inr (.inr (some (.inl 9, 283)))), some (.inl v1), some (.inl v2), some (.inl v3), some (.inl v4), some (.inl v5), some (.inl s0), some (.inl 0), some (.inl 0), some (.inl (-1000000)), some (.inl 0)] [] (L, zB1, I, J) else some (some (.inl s0), (L, zB1, I, J)) := by
  rw [zgo_run X C _ _ [0, 10, 22, 31, 46, 77, 89, 96, 115, 129, 146, 161] 15]
  rfl
set_option maxRecDepth 100000 in
theorem bX9_who_77 (X : Nat → Nat → Int32) (C : Nat → List zV → zS → Option zR) (L : List zK) (I : Nat → Nat → Int32) (J : Nat → Nat → Int64) (v1 : Int32) (v2 : Int32) (v3 : Int32) (v4 : Int32) (v5 : Int32) (v6 : Int32) (v7 : Int32) (v8 : Int32) (v9 : Int32) (v10 : Int32) : zgo X C (some .int) kX9_who 77 [some (.inr (.inr (some (.inl 9, 283)))), some (.inl v1), some (.inl v2), some (.inl v3), some (.inl v4), some (.inl v5), some (.inl v6), some (.inl v7), some (.inl v8), some (.inl v9), some (.inl v10)] [] (L, zB1, I, J) = if v2 = 0 then zgo X C (some .int) kX9_who 89 [some (.inr (.inr (some (.inl 9, 283)))), some (.inl v1), some (.inl v2), some (.inl v3), some (.inl v4), some (.inl v5), some (.inl v6), some (.inl v7), some (.inl v8), some (.inl v9), some (.inl v10)] [.inl 5, .inl v10] (L, zB1, I, J) else zgo X C (some .int) kX9_who 89 [some (.inr (.inr (some (.inl 9, 283)))), some (.inl v1), some (.inl v2), some (.inl v3), some (.inl v4), some (.inl v5), some (.inl v6), some (.inl v7), some (.inl v8), some (.inl v9), some (.inl v10)] [.inl 99, .inl v10] (L, zB1, I, J) := by
  rw [zgo_run X C _ _ [0, 10, 22, 31, 46, 77, 89, 96, 115, 129, 146, 161] 6]
  rfl
set_option maxRecDepth 100000 in
theorem bX9_who_89 (X : Nat → Nat → Int32) (C : Nat → List zV → zS → Option zR) (L : List zK) (I : Nat → Nat → Int32) (J : Nat → Nat → Int64) (v1 : Int32) (v2 : Int32) (v3 : Int32) (v4 : Int32) (v5 : Int32) (v6 : Int32) (v7 : Int32) (v8 : Int32) (v9 : Int32) (v10 : Int32) (s0 : Int32) (s1 : Int32) : zgo X C (some .int) kX9_who 89 [some (.inr (.inr (some (.inl 9, 283)))), some (.inl v1), some (.inl v2), some (.inl v3), some (.inl v4), some (.inl v5), some (.inl v6), some (.inl v7), some (.inl v8), some (.inl v9), some (.inl v10)] [.inl s0, .inl s1] (L, zB1, I, J) = if s0 < s1 then if v2 = 0 then some (some (.inl v7), (L, zB1, I, J)) else if v2 = 1 then some (some (.inl v8), (L, zB1, I, J)) else some (some (.inl v9), (L, zB1, I, J)) else cV (C 191 [.inr (.inr (some (.inl 9, 283)))] (L, zB1, I, J)) (fun σ => zgo X C (some .int) kX9_who 96 [some (.inr (.inr (some (.inl 9, 283)))), some (.inl v1), some (.inl v2), some (.inl v3), some (.inl v4), some (.inl v5), some (.inl v6), some (.inl v7), some (.inl v8), some (.inl v9), some (.inl v10)] [] σ) := by
  rw [zgo_run X C _ _ [0, 10, 22, 31, 46, 77, 89, 96, 115, 129, 146, 161] 10]
  rfl
set_option maxRecDepth 100000 in
theorem bX9_who_96 (X : Nat → Nat → Int32) (C : Nat → List zV → zS → Option zR) (L : List zK) (I : Nat → Nat → Int32) (J : Nat → Nat → Int64) (v1 : Int32) (v2 : Int32) (v3 : Int32) (v4 : Int32) (v5 : Int32) (v6 : Int32) (v7 : Int32) (v8 : Int32) (v9 : Int32) (v10 : Int32) : zgo X C (some .int) kX9_who 96 [some (.inr (.inr (some (.inl 9, 283)))), some (.inl v1), some (.inl v2), some (.inl v3), some (.inl v4), some (.inl v5), some (.inl v6), some (.inl v7), some (.inl v8), some (.inl v9), some (.inl v10)] [] (L, zB1, I, J) = if v2 = 0 then cV (C 181 [.inr (.inr (some (.inr (.int, 43), 289))), .inl v1, .inl 0, .inl v10] (L, zB1, I, J)) (fun σ => zgo X C (some .int) kX9_who 115 [some (.inr (.inr (some (.inl 9, 283)))), some (.inl v1), some (.inl v2), some (.inl v3), some (.inl v4), some (.inl v5), some (.inl v6), some (.inl v7), some (.inl v8), some (.inl v9), some (.inl v10)] [] σ) else cV (C 181 [.inr (.inr (some (.inr (.int, 43), 289))), .inl v1, .inl 4, .inl v10] (L, zB1, I, J)) (fun σ => zgo X C (some .int) kX9_who 115 [some (.inr (.inr (some (.inl 9, 283)))), some (.inl v1), some (.inl v2), some (.inl v3), some (.inl v4), some (.inl v5), some (.inl v6), some (.inl v7), some (.inl v8), some (.inl v9), some (.inl v10)] [] σ) := by
  rw [zgo_run X C _ _ [0, 10, 22, 31, 46, 77, 89, 96, 115, 129, 146, 161] 10]
  rfl
set_option maxRecDepth 100000 in
theorem bX9_who_115 (X : Nat → Nat → Int32) (C : Nat → List zV → zS → Option zR) (L : List zK) (I : Nat → Nat → Int32) (J : Nat → Nat → Int64) (v1 : Int32) (v2 : Int32) (v3 : Int32) (v4 : Int32) (v5 : Int32) (v6 : Int32) (v7 : Int32) (v8 : Int32) (v9 : Int32) (v10 : Int32) : zgo X C (some .int) kX9_who 115 [some (.inr (.inr (some (.inl 9, 283)))), some (.inl v1), some (.inl v2), some (.inl v3), some (.inl v4), some (.inl v5), some (.inl v6), some (.inl v7), some (.inl v8), some (.inl v9), some (.inl v10)] [] (L, zB1, I, J) = cI (C 219 [.inr (.inr (some (.inl 9, 283))), .inl v1, .inl ((40 * v3) + v4), .inl v5] (L, zB1, I, J)) (fun r σ => zgo X C (some .int) kX9_who 129 [some (.inr (.inr (some (.inl 9, 283)))), some (.inl v1), some (.inl v2), some (.inl v3), some (.inl v4), some (.inl v5), some (.inl v6), some (.inl v7), some (.inl v8), some (.inl v9), some (.inl v10)] [.inl r] σ) := by
  rw [zgo_run X C _ _ [0, 10, 22, 31, 46, 77, 89, 96, 115, 129, 146, 161] 10]
  rfl
set_option maxRecDepth 100000 in
theorem bX9_who_129 (X : Nat → Nat → Int32) (C : Nat → List zV → zS → Option zR) (L : List zK) (I : Nat → Nat → Int32) (J : Nat → Nat → Int64) (v1 : Int32) (v2 : Int32) (v3 : Int32) (v4 : Int32) (v5 : Int32) (v6 : Int32) (v7 : Int32) (v8 : Int32) (v9 : Int32) (v10 : Int32) (s0 : Int32) : zgo X C (some .int) kX9_who 129 [some (.inr (.inr (some (.inl 9, 283)))), some (.inl v1), some (.inl v2), some (.inl v3), some (.inl v4), some (.inl v5), some (.inl v6), some (.inl v7), some (.inl v8), some (.inl v9), some (.inl v10)] [.inl s0] (L, zB1, I, J) = if s0 = 0 then zgo X C (some .int) kX9_who 77 [some (.inr (.inr (some (.inl 9, 283)))), some (.inl v1), some (.inl v2), some (.inl v3), some (.inl v4), some (.inl v5), some (.inl v6), some (.inl v7), some (.inl v8), some (.inl v9), some (.inl (v10 + 1))] [] (L, zB1, I, J) else if v2 = 0 then zgo X C (some .int) kX9_who 146 [some (.inr (.inr (some (.inl 9, 283)))), some (.inl v1), some (.inl v2), some (.inl v3), some (.inl v4), some (.inl v5), some (.inl v6), some (.inl v7), some (.inl v8), some (.inl v9), some (.inl v10)] [.inl (1 <<< (v10 &&& 31)), .inl v7] (L, zB1, I, J) else zgo X C (some .int) kX9_who 146 [some (.inr (.inr (some (.inl 9, 283)))), some (.inl v1), some (.inl v2), some (.inl v3), some (.inl v4), some (.inl v5), some (.inl v6), some (.inl v7), some (.inl v8), some (.inl v9), some (.inl v10)] [.inl 0, .inl v7] (L, zB1, I, J) := by
  rw [zgo_run X C _ _ [0, 10, 22, 31, 46, 77, 89, 96, 115, 129, 146, 161] 9]
  rfl
set_option maxRecDepth 100000 in
theorem bX9_who_146 (X : Nat → Nat → Int32) (C : Nat → List zV → zS → Option zR) (L : List zK) (I : Nat → Nat → Int32) (J : Nat → Nat → Int64) (v1 : Int32) (v2 : Int32) (v3 : Int32) (v4 : Int32) (v5 : Int32) (v6 : Int32) (v7 : Int32) (v8 : Int32) (v9 : Int32) (v10 : Int32) (s0 : Int32) (s1 : Int32) : zgo X C (some .int) kX9_who 146 [some (.inr (.inr (some (.inl 9, 283)))), some (.inl v1), some (.inl v2), some (.inl v3), some (.inl v4), some (.inl v5), some (.inl v6), some (.inl v7), some (.inl v8), some (.inl v9), some (.inl v10)] [.inl s0, .inl s1] (L, zB1, I, J) = if v8 = 0 then zgo X C (some .int) kX9_who 161 [some (.inr (.inr (some (.inl 9, 283)))), some (.inl v1), some (.inl v2), some (.inl v3), some (.inl v4), some (.inl v5), some (.inl v6), some (.inl (s1 ||| s0)), some (.inl v8), some (.inl v9), some (.inl v10)] [.inl v10] (L, zB1, I, J) else zgo X C (some .int) kX9_who 161 [some (.inr (.inr (some (.inl 9, 283)))), some (.inl v1), some (.inl v2), some (.inl v3), some (.inl v4), some (.inl v5), some (.inl v6), some (.inl (s1 ||| s0)), some (.inl v8), some (.inl v9), some (.inl v10)] [.inl v9] (L, zB1, I, J) := by
  rw [zgo_run X C _ _ [0, 10, 22, 31, 46, 77, 89, 96, 115, 129, 146, 161] 7]
  rfl
set_option maxRecDepth 100000 in
theorem bX9_who_161 (X : Nat → Nat → Int32) (C : Nat → List zV → zS → Option zR) (L : List zK) (I : Nat → Nat → Int32) (J : Nat → Nat → Int64) (v1 : Int32) (v2 : Int32) (v3 : Int32) (v4 : Int32) (v5 : Int32) (v6 : Int32) (v7 : Int32) (v8 : Int32) (v9 : Int32) (v10 : Int32) (s0 : Int32) : zgo X C (some .int) kX9_who 161 [some (.inr (.inr (some (.inl 9, 283)))), some (.inl v1), some (.inl v2), some (.inl v3), some (.inl v4), some (.inl v5), some (.inl v6), some (.inl v7), some (.inl v8), some (.inl v9), some (.inl v10)] [.inl s0] (L, zB1, I, J) = zgo X C (some .int) kX9_who 77 [some (.inr (.inr (some (.inl 9, 283)))), some (.inl v1), some (.inl v2), some (.inl v3), some (.inl v4), some (.inl v5), some (.inl v6), some (.inl v7), some (.inl (v8 + 1)), some (.inl s0), some (.inl (v10 + 1))] [] (L, zB1, I, J) := by
  rw [zgo_run X C _ _ [0, 10, 22, 31, 46, 77, 89, 96, 115, 129, 146, 161] 5]
  rfl

set_option maxRecDepth 100000 in
theorem bX9_severes_0 (X : Nat → Nat → Int32) (C : Nat → List zV → zS → Option zR) (L : List zK) (I : Nat → Nat → Int32) (J : Nat → Nat → Int64) (a1 : Int32) (a2 : Int32) (a3 : Int32) (a4 : Int32) (a5 : Int32) : zgo X C (some .int) kX9_severes 0 [some (.inr (.inr (some (.inl 9, 283)))), some (.inl a1), some (.inl a2), some (.inl a3), some (.inl a4), some (.inl a5), none, none, none] [] (L, zB1, I, J) = cI (C 177 [.inr (.inr (some (.inl 9, 283))), .inl a1] (L, zB1, (zup I 283 0 0), J)) (fun r σ => zgo X C (some .int) kX9_severes 10 [some (.inr (.inr (some (.inl 9, 283)))), some (.inl a1), some (.inl a2), some (.inl a3), some (.inl a4), some (.inl a5), none, none, none] [.inl r] σ) := by
  rw [zgo_run X C _ _ [0, 10, 18, 27, 42, 58, 69, 97, 108] 7]
  rfl
set_option maxRecDepth 100000 in
theorem bX9_severes_10 (X : Nat → Nat → Int32) (C : Nat → List zV → zS → Option zR) (L : List zK) (I : Nat → Nat → Int32) (J : Nat → Nat → Int64) (v1 : Int32) (v2 : Int32) (v3 : Int32) (v4 : Int32) (v5 : Int32) (s0 : Int32) : zgo X C (some .int) kX9_severes 10 [some (.inr (.inr (some (.inl 9, 283)))), some (.inl v1), some (.inl v2), some (.inl v3), some (.inl v4), some (.inl v5), none, none, none] [.inl s0] (L, zB1, I, J) = if s0 = 0 then some (some (.inl (-1000001)), (L, zB1, I, J)) else cI (C 176 [.inr (.inr (some (.inl 9, 283))), .inl v2] (L, zB1, I, J)) (fun r σ => zgo X C (some .int) kX9_severes 18 [some (.inr (.inr (some (.inl 9, 283)))), some (.inl v1), some (.inl v2), some (.inl v3), some (.inl v4), some (.inl v5), none, none, none] [.inl r] σ) := by
  rw [zgo_run X C _ _ [0, 10, 18, 27, 42, 58, 69, 97, 108] 5]
  rfl
set_option maxRecDepth 100000 in
theorem bX9_severes_18 (X : Nat → Nat → Int32) (C : Nat → List zV → zS → Option zR) (L : List zK) (I : Nat → Nat → Int32) (J : Nat → Nat → Int64) (v1 : Int32) (v2 : Int32) (v3 : Int32) (v4 : Int32) (v5 : Int32) (s0 : Int32) : zgo X C (some .int) kX9_severes 18 [some (.inr (.inr (some (.inl 9, 283)))), some (.inl v1), some (.inl v2), some (.inl v3), some (.inl v4), some (.inl v5), none, none, none] [.inl s0] (L, zB1, I, J) = if s0 = 0 then some (some (.inl (-1000001)), (L, zB1, I, J)) else cI (C 221 [.inl v3, .inl v5] (L, zB1, I, J)) (fun r σ => zgo X C (some .int) kX9_severes 27 [some (.inr (.inr (some (.inl 9, 283)))), some (.inl v1), some (.inl v2), some (.inl v3), some (.inl v4), some (.inl v5), none, none, none] [.inl r] σ) := by
  rw [zgo_run X C _ _ [0, 10, 18, 27, 42, 58, 69, 97, 108] 5]
  rfl
set_option maxRecDepth 100000 in
theorem bX9_severes_27 (X : Nat → Nat → Int32) (C : Nat → List zV → zS → Option zR) (L : List zK) (I : Nat → Nat → Int32) (J : Nat → Nat → Int64) (v1 : Int32) (v2 : Int32) (v3 : Int32) (v4 : Int32) (v5 : Int32) (s0 : Int32) : zgo X C (some .int) kX9_severes 27 [some (.inr (.inr (some (.inl 9, 283)))), some (.inl v1), some (.inl v2), some (.inl v3), some (.inl v4), some (.inl v5), none, none, none] [.inl s0] (L, zB1, I, J) = if s0 = 0 then some (some (.inl (-1000001)), (L, zB1, I, J)) else cI (C 220 [.inr (.inr (some (.inl 9, 283))), .inl v3, .inl v4, .inl v5] (L, zB1, I, J)) (fun r σ => zgo X C (some .int) kX9_severes 42 [some (.inr (.inr (some (.inl 9, 283)))), some (.inl v1), some (.inl v2), some (.inl v3), some (.inl v4), some (.inl v5), none, none, none] [.inl r] σ) := by
  rw [zgo_run X C _ _ [0, 10, 18, 27, 42, 58, 69, 97, 108] 7]
  rfl
set_option maxRecDepth 100000 in
theorem bX9_severes_42 (X : Nat → Nat → Int32) (C : Nat → List zV → zS → Option zR) (L : List zK) (I : Nat → Nat → Int32) (J : Nat → Nat → Int64) (v1 : Int32) (v2 : Int32) (v3 : Int32) (v4 : Int32) (v5 : Int32) (s0 : Int32) : zgo X C (some .int) kX9_severes 42 [some (.inr (.inr (some (.inl 9, 283)))), some (.inl v1), some (.inl v2), some (.inl v3), some (.inl v4), some (.inl v5), none, none, none] [.inl s0] (L, zB1, I, J) = if s0 = 0 then zgo X C (some .int) kX9_severes 58 [some (.inr (.inr (some (.inl 9, 283)))), some (.inl v1), some (.inl v2), some (.inl v3), some (.inl v4), some (.inl v5), some (.inl s0), some (.inl 0), some (.inl 0)] [] (L, zB1, I, J) else some (some (.inl s0), (L, zB1, I, J)) := by
  rw [zgo_run X C _ _ [0, 10, 18, 27, 42, 58, 69, 97, 108] 8]
  rfl
set_option maxRecDepth 100000 in
theorem bX9_severes_58 (X : Nat → Nat → Int32) (C : Nat → List zV → zS → Option zR) (L : List zK) (I : Nat → Nat → Int32) (J : Nat → Nat → Int64) (v1 : Int32) (v2 : Int32) (v3 : Int32) (v4 : Int32) (v5 : Int32) (v6 : Int32) (v7 : Int32) (v8 : Int32) : zgo X C (some .int) kX9_severes 58 [some (.inr (.inr (some (.inl 9, 283)))), some (.inl v1), some (.inl v2), some (.inl v3), some (.inl v4), some (.inl v5), some (.inl v6), some (.inl v7), some (.inl v8)] [] (L, zB1, I, J) = if (9 : Int32) < v8 then some (some (.inl v7), (L, zB1, I, J)) else cV (C 191 [.inr (.inr (some (.inl 9, 283)))] (L, zB1, I, J)) (fun σ => zgo X C (some .int) kX9_severes 69 [some (.inr (.inr (some (.inl 9, 283)))), some (.inl v1), some (.inl v2), some (.inl v3), some (.inl v4), some (.inl v5), some (.inl v6), some (.inl v7), some (.inl v8)] [] σ) := by
  rw [zgo_run X C _ _ [0, 10, 18, 27, 42, 58, 69, 97, 108] 6]
  rfl
set_option maxRecDepth 100000 in
theorem bX9_severes_69 (X : Nat → Nat → Int32) (C : Nat → List zV → zS → Option zR) (L : List zK) (I : Nat → Nat → Int32) (J : Nat → Nat → Int64) (v1 : Int32) (v2 : Int32) (v3 : Int32) (v4 : Int32) (v5 : Int32) (v6 : Int32) (v7 : Int32) (v8 : Int32) : zgo X C (some .int) kX9_severes 69 [some (.inr (.inr (some (.inl 9, 283)))), some (.inl v1), some (.inl v2), some (.inl v3), some (.inl v4), some (.inl v5), some (.inl v6), some (.inl v7), some (.inl v8)] [] (L, zB1, I, J) = zbt (zin (5 + (2 * v1)) 43) (cI (C 219 [.inr (.inr (some (.inl 9, 283))), .inl v2, .inl ((40 * v3) + v4), .inl v5] (L, zB1, (zup I 289 (5 + (2 * v1)).toNatClampNeg v8), J)) (fun r σ => zgo X C (some .int) kX9_severes 97 [some (.inr (.inr (some (.inl 9, 283)))), some (.inl v1), some (.inl v2), some (.inl v3), some (.inl v4), some (.inl v5), some (.inl v6), some (.inl v7), some (.inl v8)] [.inl r, .inl v7] σ)) := by
  rw [zgo_run X C _ _ [0, 10, 18, 27, 42, 58, 69, 97, 108] 20]
  rfl
set_option maxRecDepth 100000 in
theorem bX9_severes_97 (X : Nat → Nat → Int32) (C : Nat → List zV → zS → Option zR) (L : List zK) (I : Nat → Nat → Int32) (J : Nat → Nat → Int64) (v1 : Int32) (v2 : Int32) (v3 : Int32) (v4 : Int32) (v5 : Int32) (v6 : Int32) (v7 : Int32) (v8 : Int32) (s0 : Int32) (s1 : Int32) : zgo X C (some .int) kX9_severes 97 [some (.inr (.inr (some (.inl 9, 283)))), some (.inl v1), some (.inl v2), some (.inl v3), some (.inl v4), some (.inl v5), some (.inl v6), some (.inl v7), some (.inl v8)] [.inl s0, .inl s1] (L, zB1, I, J) = if s0 = 0 then zgo X C (some .int) kX9_severes 108 [some (.inr (.inr (some (.inl 9, 283)))), some (.inl v1), some (.inl v2), some (.inl v3), some (.inl v4), some (.inl v5), some (.inl v6), some (.inl v7), some (.inl v8)] [.inl 0, .inl s1] (L, zB1, I, J) else zgo X C (some .int) kX9_severes 108 [some (.inr (.inr (some (.inl 9, 283)))), some (.inl v1), some (.inl v2), some (.inl v3), some (.inl v4), some (.inl v5), some (.inl v6), some (.inl v7), some (.inl v8)] [.inl (1 <<< (v8 &&& 31)), .inl s1] (L, zB1, I, J) := by
  rw [zgo_run X C _ _ [0, 10, 18, 27, 42, 58, 69, 97, 108] 6]
  rfl
set_option maxRecDepth 100000 in
theorem bX9_severes_108 (X : Nat → Nat → Int32) (C : Nat → List zV → zS → Option zR) (L : List zK) (I : Nat → Nat → Int32) (J : Nat → Nat → Int64) (v1 : Int32) (v2 : Int32) (v3 : Int32) (v4 : Int32) (v5 : Int32) (v6 : Int32) (v7 : Int32) (v8 : Int32) (s0 : Int32) (s1 : Int32) : zgo X C (some .int) kX9_severes 108 [some (.inr (.inr (some (.inl 9, 283)))), some (.inl v1), some (.inl v2), some (.inl v3), some (.inl v4), some (.inl v5), some (.inl v6), some (.inl v7), some (.inl v8)] [.inl s0, .inl s1] (L, zB1, I, J) = zgo X C (some .int) kX9_severes 58 [some (.inr (.inr (some (.inl 9, 283)))), some (.inl v1), some (.inl v2), some (.inl v3), some (.inl v4), some (.inl v5), some (.inl v6), some (.inl (s1 ||| s0)), some (.inl (v8 + 1))] [] (L, zB1, I, J) := by
  rw [zgo_run X C _ _ [0, 10, 18, 27, 42, 58, 69, 97, 108] 5]
  rfl

set_option maxRecDepth 100000 in
theorem bX9_likes_0 (X : Nat → Nat → Int32) (C : Nat → List zV → zS → Option zR) (L : List zK) (I : Nat → Nat → Int32) (J : Nat → Nat → Int64) (a1 : Int32) (a2 : Int32) (a3 : Int32) (a4 : Int32) (a5 : Int32) : zgo X C (some .int) kX9_likes 0 [some (.inr (.inr (some (.inl 9, 283)))), some (.inl a1), some (.inl a2), some (.inl a3), some (.inl a4), some (.inl a5), none, none, none, none] [] (L, zB1, I, J) = cI (C 176 [.inr (.inr (some (.inl 9, 283))), .inl a1] (L, zB1, (zup I 283 0 0), J)) (fun r σ => zgo X C (some .int) kX9_likes 10 [some (.inr (.inr (some (.inl 9, 283)))), some (.inl a1), some (.inl a2), some (.inl a3), some (.inl a4), some (.inl a5), none, none, none, none] [.inl r] σ) := by
  rw [zgo_run X C _ _ [0, 10, 20, 29, 44, 64, 75, 97, 112] 7]
  rfl
set_option maxRecDepth 100000 in
theorem bX9_likes_10 (X : Nat → Nat → Int32) (C : Nat → List zV → zS → Option zR) (L : List zK) (I : Nat → Nat → Int32) (J : Nat → Nat → Int64) (v1 : Int32) (v2 : Int32) (v3 : Int32) (v4 : Int32) (v5 : Int32) (s0 : Int32) : zgo X C (some .int) kX9_likes 10 [some (.inr (.inr (some (.inl 9, 283)))), some (.inl v1), some (.inl v2), some (.inl v3), some (.inl v4), some (.inl v5), none, none, none, none] [.inl s0] (L, zB1, I, J) = if s0 = 0 then some (some (.inl (-1000001)), (L, zB1, I, J)) else cI (C 153 [.inr (.inl ((v2).toInt64)), .inr (.inl 0), .inr (.inl 1)] (L, zB1, I, J)) (fun r σ => zgo X C (some .int) kX9_likes 20 [some (.inr (.inr (some (.inl 9, 283)))), some (.inl v1), some (.inl v2), some (.inl v3), some (.inl v4), some (.inl v5), none, none, none, none] [.inl r] σ) := by
  rw [zgo_run X C _ _ [0, 10, 20, 29, 44, 64, 75, 97, 112] 7]
  rfl
set_option maxRecDepth 100000 in
theorem bX9_likes_20 (X : Nat → Nat → Int32) (C : Nat → List zV → zS → Option zR) (L : List zK) (I : Nat → Nat → Int32) (J : Nat → Nat → Int64) (v1 : Int32) (v2 : Int32) (v3 : Int32) (v4 : Int32) (v5 : Int32) (s0 : Int32) : zgo X C (some .int) kX9_likes 20 [some (.inr (.inr (some (.inl 9, 283)))), some (.inl v1), some (.inl v2), some (.inl v3), some (.inl v4), some (.inl v5), none, none, none, none] [.inl s0] (L, zB1, I, J) = if s0 = 0 then some (some (.inl (-1000001)), (L, zB1, I, J)) else cI (C 221 [.inl v3, .inl v5] (L, zB1, I, J)) (fun r σ => zgo X C (some .int) kX9_likes 29 [some (.inr (.inr (some (.inl 9, 283)))), some (.inl v1), some (.inl v2), some (.inl v3), some (.inl v4), some (.inl v5), none, none, none, none] [.inl r] σ) := by
  rw [zgo_run X C _ _ [0, 10, 20, 29, 44, 64, 75, 97, 112] 5]
  rfl
set_option maxRecDepth 100000 in
theorem bX9_likes_29 (X : Nat → Nat → Int32) (C : Nat → List zV → zS → Option zR) (L : List zK) (I : Nat → Nat → Int32) (J : Nat → Nat → Int64) (v1 : Int32) (v2 : Int32) (v3 : Int32) (v4 : Int32) (v5 : Int32) (s0 : Int32) : zgo X C (some .int) kX9_likes 29 [some (.inr (.inr (some (.inl 9, 283)))), some (.inl v1), some (.inl v2), some (.inl v3), some (.inl v4), some (.inl v5), none, none, none, none] [.inl s0] (L, zB1, I, J) = if s0 = 0 then some (some (.inl (-1000001)), (L, zB1, I, J)) else cI (C 220 [.inr (.inr (some (.inl 9, 283))), .inl v3, .inl v4, .inl v5] (L, zB1, I, J)) (fun r σ => zgo X C (some .int) kX9_likes 44 [some (.inr (.inr (some (.inl 9, 283)))), some (.inl v1), some (.inl v2), some (.inl v3), some (.inl v4), some (.inl v5), none, none, none, none] [.inl r] σ) := by
  rw [zgo_run X C _ _ [0, 10, 20, 29, 44, 64, 75, 97, 112] 7]
  rfl
set_option maxRecDepth 100000 in
theorem bX9_likes_44 (X : Nat → Nat → Int32) (C : Nat → List zV → zS → Option zR) (L : List zK) (I : Nat → Nat → Int32) (J : Nat → Nat → Int64) (v1 : Int32) (v2 : Int32) (v3 : Int32) (v4 : Int32) (v5 : Int32) (s0 : Int32) : zgo X C (some .int) kX9_likes 44 [some (.inr (.inr (some (.inl 9, 283)))), some (.inl v1), some (.inl v2), some (.inl v3), some (.inl v4), some (.inl v5), none, none, none, none] [.inl s0] (L, zB1, I, J) = if s0 = 0 then zgo X C (some .int) kX9_likes 64 [some (.inr (.inr (some (.inl 9, 283)))), some (.inl v1), some (.inl v2), some (.inl v3), some (.inl v4), some (.inl v5), some (.inl s0), some (.inl 0), some (.inl (-1000000)), some (.inl 1)] [] (L, zB1, I, J) else some (some (.inl s0), (L, zB1, I, J)) := by
  rw [zgo_run X C _ _ [0, 10, 20, 29, 44, 64, 75, 97, 112] 10]
  rfl
set_option maxRecDepth 100000 in
theorem bX9_likes_64 (X : Nat → Nat → Int32) (C : Nat → List zV → zS → Option zR) (L : List zK) (I : Nat → Nat → Int32) (J : Nat → Nat → Int64) (v1 : Int32) (v2 : Int32) (v3 : Int32) (v4 : Int32) (v5 : Int32) (v6 : Int32) (v7 : Int32) (v8 : Int32) (v9 : Int32) : zgo X C (some .int) kX9_likes 64 [some (.inr (.inr (some (.inl 9, 283)))), some (.inl v1), some (.inl v2), some (.inl v3), some (.inl v4), some (.inl v5), some (.inl v6), some (.inl v7), some (.inl v8), some (.inl v9)] [] (L, zB1, I, J) = if (60 : Int32) < v9 then if v2 = 0 then some (some (.inl v7), (L, zB1, I, J)) else some (some (.inl v8), (L, zB1, I, J)) else cV (C 191 [.inr (.inr (some (.inl 9, 283)))] (L, zB1, I, J)) (fun σ => zgo X C (some .int) kX9_likes 75 [some (.inr (.inr (some (.inl 9, 283)))), some (.inl v1), some (.inl v2), some (.inl v3), some (.inl v4), some (.inl v5), some (.inl v6), some (.inl v7), some (.inl v8), some (.inl v9)] [] σ) := by
  rw [zgo_run X C _ _ [0, 10, 20, 29, 44, 64, 75, 97, 112] 9]
  rfl
set_option maxRecDepth 100000 in
theorem bX9_likes_75 (X : Nat → Nat → Int32) (C : Nat → List zV → zS → Option zR) (L : List zK) (I : Nat → Nat → Int32) (J : Nat → Nat → Int64) (v1 : Int32) (v2 : Int32) (v3 : Int32) (v4 : Int32) (v5 : Int32) (v6 : Int32) (v7 : Int32) (v8 : Int32) (v9 : Int32) : zgo X C (some .int) kX9_likes 75 [some (.inr (.inr (some (.inl 9, 283)))), some (.inl v1), some (.inl v2), some (.inl v3), some (.inl v4), some (.inl v5), some (.inl v6), some (.inl v7), some (.inl v8), some (.inl v9)] [] (L, zB1, I, J) = zbt (zin 3 43) (cI (C 219 [.inr (.inr (some (.inl 9, 283))), .inl v1, .inl ((40 * v3) + v4), .inl v5] (L, zB1, (zup I 289 (3 : Int32).toNatClampNeg v9), J)) (fun r σ => zgo X C (some .int) kX9_likes 97 [some (.inr (.inr (some (.inl 9, 283)))), some (.inl v1), some (.inl v2), some (.inl v3), some (.inl v4), some (.inl v5), some (.inl v6), some (.inl v7), some (.inl v8), some (.inl v9)] [.inl r] σ)) := by
  rw [zgo_run X C _ _ [0, 10, 20, 29, 44, 64, 75, 97, 112] 15]
  rfl
set_option maxRecDepth 100000 in
theorem bX9_likes_97 (X : Nat → Nat → Int32) (C : Nat → List zV → zS → Option zR) (L : List zK) (I : Nat → Nat → Int32) (J : Nat → Nat → Int64) (v1 : Int32) (v2 : Int32) (v3 : Int32) (v4 : Int32) (v5 : Int32) (v6 : Int32) (v7 : Int32) (v8 : Int32) (v9 : Int32) (s0 : Int32) : zgo X C (some .int) kX9_likes 97 [some (.inr (.inr (some (.inl 9, 283)))), some (.inl v1), some (.inl v2), some (.inl v3), some (.inl v4), some (.inl v5), some (.inl v6), some (.inl v7), some (.inl v8), some (.inl v9)] [.inl s0] (L, zB1, I, J) = if s0 = 0 then zgo X C (some .int) kX9_likes 64 [some (.inr (.inr (some (.inl 9, 283)))), some (.inl v1), some (.inl v2), some (.inl v3), some (.inl v4), some (.inl v5), some (.inl v6), some (.inl v7), some (.inl v8), some (.inl (v9 + 1))] [] (L, zB1, I, J) else if v7 = 0 then zgo X C (some .int) kX9_likes 112 [some (.inr (.inr (some (.inl 9, 283)))), some (.inl v1), some (.inl v2), some (.inl v3), some (.inl v4), some (.inl v5), some (.inl v6), some (.inl v7), some (.inl v8), some (.inl v9)] [.inl v9] (L, zB1, I, J) else zgo X C (some .int) kX9_likes 112 [some (.inr (.inr (some (.inl 9, 283)))), some (.inl v1), some (.inl v2), some (.inl v3), some (.inl v4), some (.inl v5), some (.inl v6), some (.inl v7), some (.inl v8), some (.inl v9)] [.inl v8] (L, zB1, I, J) := by
  rw [zgo_run X C _ _ [0, 10, 20, 29, 44, 64, 75, 97, 112] 6]
  rfl
set_option maxRecDepth 100000 in
theorem bX9_likes_112 (X : Nat → Nat → Int32) (C : Nat → List zV → zS → Option zR) (L : List zK) (I : Nat → Nat → Int32) (J : Nat → Nat → Int64) (v1 : Int32) (v2 : Int32) (v3 : Int32) (v4 : Int32) (v5 : Int32) (v6 : Int32) (v7 : Int32) (v8 : Int32) (v9 : Int32) (s0 : Int32) : zgo X C (some .int) kX9_likes 112 [some (.inr (.inr (some (.inl 9, 283)))), some (.inl v1), some (.inl v2), some (.inl v3), some (.inl v4), some (.inl v5), some (.inl v6), some (.inl v7), some (.inl v8), some (.inl v9)] [.inl s0] (L, zB1, I, J) = zgo X C (some .int) kX9_likes 64 [some (.inr (.inr (some (.inl 9, 283)))), some (.inl v1), some (.inl v2), some (.inl v3), some (.inl v4), some (.inl v5), some (.inl v6), some (.inl (v7 + 1)), some (.inl s0), some (.inl (v9 + 1))] [] (L, zB1, I, J) := by
  rw [zgo_run X C _ _ [0, 10, 20, 29, 44, 64, 75, 97, 112] 5]
  rfl

set_option maxRecDepth 100000 in
theorem bX9_fence_0 (X : Nat → Nat → Int32) (C : Nat → List zV → zS → Option zR) (L : List zK) (I : Nat → Nat → Int32) (J : Nat → Nat → Int64) (a1 : Int32) (a2 : Int32) (a3 : Int32) (a4 : Int32) : zgo X C (some .long) kX9_fence 0 [some (.inr (.inr (some (.inl 9, 283)))), some (.inl a1), some (.inl a2), some (.inl a3), some (.inl a4), none, none, none, none, none, none, none, none, none, none] [] (L, zB1, I, J) = cI (C 176 [.inr (.inr (some (.inl 9, 283))), .inl a1] (L, zB1, (zup I 283 0 0), J)) (fun r σ => zgo X C (some .long) kX9_fence 10 [some (.inr (.inr (some (.inl 9, 283)))), some (.inl a1), some (.inl a2), some (.inl a3), some (.inl a4), none, none, none, none, none, none, none, none, none, none] [.inl r] σ) := by
  rw [zgo_run X C _ _ [0, 10, 22, 34, 45, 61, 76, 79, 101, 121, 133, 157, 167, 184] 7]
  rfl
set_option maxRecDepth 100000 in
theorem bX9_fence_10 (X : Nat → Nat → Int32) (C : Nat → List zV → zS → Option zR) (L : List zK) (I : Nat → Nat → Int32) (J : Nat → Nat → Int64) (v1 : Int32) (v2 : Int32) (v3 : Int32) (v4 : Int32) (s0 : Int32) : zgo X C (some .long) kX9_fence 10 [some (.inr (.inr (some (.inl 9, 283)))), some (.inl v1), some (.inl v2), some (.inl v3), some (.inl v4), none, none, none, none, none, none, none, none, none, none] [.inl s0] (L, zB1, I, J) = if s0 = 0 then some (some (.inr (.inl (-1000001))), (L, zB1, I, J)) else cI (C 153 [.inr (.inl ((v2).toInt64)), .inr (.inl 0), .inr (.inl 8)] (L, zB1, I, J)) (fun r σ => zgo X C (some .long) kX9_fence 22 [some (.inr (.inr (some (.inl 9, 283)))), some (.inl v1), some (.inl v2), some (.inl v3), some (.inl v4), none, none, none, none, none, none, none, none, none, none] [.inl r] σ) := by
  rw [zgo_run X C _ _ [0, 10, 22, 34, 45, 61, 76, 79, 101, 121, 133, 157, 167, 184] 7]
  rfl
set_option maxRecDepth 100000 in
theorem bX9_fence_22 (X : Nat → Nat → Int32) (C : Nat → List zV → zS → Option zR) (L : List zK) (I : Nat → Nat → Int32) (J : Nat → Nat → Int64) (v1 : Int32) (v2 : Int32) (v3 : Int32) (v4 : Int32) (s0 : Int32) : zgo X C (some .long) kX9_fence 22 [some (.inr (.inr (some (.inl 9, 283)))), some (.inl v1), some (.inl v2), some (.inl v3), some (.inl v4), none, none, none, none, none, none, none, none, none, none] [.inl s0] (L, zB1, I, J) = if s0 = 0 then some (some (.inr (.inl (-1000001))), (L, zB1, I, J)) else cI (C 153 [.inr (.inl ((v3).toInt64)), .inr (.inl 0), .inr (.inl 10)] (L, zB1, I, J)) (fun r σ => zgo X C (some .long) kX9_fence 34 [some (.inr (.inr (some (.inl 9, 283)))), some (.inl v1), some (.inl v2), some (.inl v3), some (.inl v4), none, none, none, none, none, none, none, none, none, none] [.inl r] σ) := by
  rw [zgo_run X C _ _ [0, 10, 22, 34, 45, 61, 76, 79, 101, 121, 133, 157, 167, 184] 7]
  rfl
set_option maxRecDepth 100000 in
theorem bX9_fence_34 (X : Nat → Nat → Int32) (C : Nat → List zV → zS → Option zR) (L : List zK) (I : Nat → Nat → Int32) (J : Nat → Nat → Int64) (v1 : Int32) (v2 : Int32) (v3 : Int32) (v4 : Int32) (s0 : Int32) : zgo X C (some .long) kX9_fence 34 [some (.inr (.inr (some (.inl 9, 283)))), some (.inl v1), some (.inl v2), some (.inl v3), some (.inl v4), none, none, none, none, none, none, none, none, none, none] [.inl s0] (L, zB1, I, J) = if s0 = 0 then some (some (.inr (.inl (-1000001))), (L, zB1, I, J)) else cI (C 153 [.inr (.inl ((v4).toInt64)), .inr (.inl 0), .inr (.inl 1)] (L, zB1, I, J)) (fun r σ => zgo X C (some .long) kX9_fence 45 [some (.inr (.inr (some (.inl 9, 283)))), some (.inl v1), some (.inl v2), some (.inl v3), some (.inl v4), none, none, none, none, none, none, none, none, none, none] [.inl r] σ) := by
  rw [zgo_run X C _ _ [0, 10, 22, 34, 45, 61, 76, 79, 101, 121, 133, 157, 167, 184] 7]
  rfl
set_option maxRecDepth 100000 in
theorem bX9_fence_45 (X : Nat → Nat → Int32) (C : Nat → List zV → zS → Option zR) (L : List zK) (I : Nat → Nat → Int32) (J : Nat → Nat → Int64) (v1 : Int32) (v2 : Int32) (v3 : Int32) (v4 : Int32) (s0 : Int32) : zgo X C (some .long) kX9_fence 45 [some (.inr (.inr (some (.inl 9, 283)))), some (.inl v1), some (.inl v2), some (.inl v3), some (.inl v4), none, none, none, none, none, none, none, none, none, none] [.inl s0] (L, zB1, I, J) = if s0 = 0 then some (some (.inr (.inl (-1000001))), (L, zB1, I, J)) else zgo X C (some .long) kX9_fence 61 [some (.inr (.inr (some (.inl 9, 283)))), some (.inl v1), some (.inl v2), some (.inl v3), some (.inl v4), some (.inr (.inl 0)), none, some (.inr (.inl 0)), none, some (.inl 0), none, none, none, none, none] [] (L, zB1, I, J) := by
  rw [zgo_run X C _ _ [0, 10, 22, 34, 45, 61, 76, 79, 101, 121, 133, 157, 167, 184] 8]
  rfl
set_option maxRecDepth 100000 in
theorem bX9_fence_61 (X : Nat → Nat → Int32) (C : Nat → List zV → zS → Option zR) (L : List zK) (I : Nat → Nat → Int32) (J : Nat → Nat → Int64) (v1 : Int32) (v2 : Int32) (v3 : Int32) (v4 : Int32) (v5 : Int64) (v7 : Int64) (v9 : Int32) (u10 : Option zV) (u12 : Option zV) (u13 : Option zV) : zgo X C (some .long) kX9_fence 61 [some (.inr (.inr (some (.inl 9, 283)))), some (.inl v1), some (.inl v2), some (.inl v3), some (.inl v4), some (.inr (.inl v5)), none, some (.inr (.inl v7)), none, some (.inl v9), u10, none, u12, u13, none] [] (L, zB1, I, J) = if (1 <<< (v2 &&& 31)) ≤ v9 then zgo X C (some .long) kX9_fence 184 [some (.inr (.inr (some (.inl 9, 283)))), some (.inl v1), some (.inl v2), some (.inl v3), some (.inl v4), some (.inr (.inl v5)), none, some (.inr (.inl v7)), none, some (.inr (.inl v5)), none, some (.inr (.inl v7)), none, u13, none] [] (L, zB1, I, J) else cV (C 191 [.inr (.inr (some (.inl 9, 283)))] (L, zB1, I, J)) (fun σ => zgo X C (some .long) kX9_fence 76 [some (.inr (.inr (some (.inl 9, 283)))), some (.inl v1), some (.inl v2), some (.inl v3), some (.inl v4), some (.inr (.inl v5)), none, some (.inr (.inl v7)), none, some (.inl v9), some (.inr (.inl 1)), none, u12, u13, none] [] σ) := by
  rw [zgo_run X C _ _ [0, 10, 22, 34, 45, 61, 76, 79, 101, 121, 133, 157, 167, 184] 10]
  rfl
set_option maxRecDepth 100000 in
theorem bX9_fence_76 (X : Nat → Nat → Int32) (C : Nat → List zV → zS → Option zR) (L : List zK) (I : Nat → Nat → Int32) (J : Nat → Nat → Int64) (v1 : Int32) (v2 : Int32) (v3 : Int32) (v4 : Int32) (v5 : Int64) (v7 : Int64) (v9 : Int32) (v10 : Int64) (u12 : Option zV) (u13 : Option zV) : zgo X C (some .long) kX9_fence 76 [some (.inr (.inr (some (.inl 9, 283)))), some (.inl v1), some (.inl v2), some (.inl v3), some (.inl v4), some (.inr (.inl v5)), none, some (.inr (.inl v7)), none, some (.inl v9), some (.inr (.inl v10)), none, u12, u13, none] [] (L, zB1, I, J) = zgo X C (some .long) kX9_fence 79 [some (.inr (.inr (some (.inl 9, 283)))), some (.inl v1), some (.inl v2), some (.inl v3), some (.inl v4), some (.inr (.inl v5)), none, some (.inr (.inl v7)), none, some (.inl v9), some (.inr (.inl v10)), none, some (.inl 0), u13, none] [] (L, zB1, I, J) := by
  rw [zgo_run X C _ _ [0, 10, 22, 34, 45, 61, 76, 79, 101, 121, 133, 157, 167, 184] 3]
  rfl
set_option maxRecDepth 100000 in
theorem bX9_fence_79 (X : Nat → Nat → Int32) (C : Nat → List zV → zS → Option zR) (L : List zK) (I : Nat → Nat → Int32) (J : Nat → Nat → Int64) (v1 : Int32) (v2 : Int32) (v3 : Int32) (v4 : Int32) (v5 : Int64) (v7 : Int64) (v9 : Int32) (v10 : Int64) (v12 : Int32) (u13 : Option zV) : zgo X C (some .long) kX9_fence 79 [some (.inr (.inr (some (.inl 9, 283)))), some (.inl v1), some (.inl v2), some (.inl v3), some (.inl v4), some (.inr (.inl v5)), none, some (.inr (.inl v7)), none, some (.inl v9), some (.inr (.inl v10)), none, some (.inl v12), u13, none] [] (L, zB1, I, J) = if v2 ≤ v12 then cI (C 180 [.inr (.inr (some (.inr (.int, 43), 289))), .inl v1, .inl 3] (L, zB1, I, J)) (fun r σ => zgo X C (some .long) kX9_fence 157 [some (.inr (.inr (some (.inl 9, 283)))), some (.inl v1), some (.inl v2), some (.inl v3), some (.inl v4), some (.inr (.inl v5)), none, some (.inr (.inl (v7 + v10))), none, some (.inl v9), some (.inr (.inl v10)), none, some (.inl v12), u13, none] [.inl r, .inr (.inl v5)] σ) else if ((v9 >>> (v12 &&& 31)) &&& 1) = 1 then zgo X C (some .long) kX9_fence 101 [some (.inr (.inr (some (.inl 9, 283)))), some (.inl v1), some (.inl v2), some (.inl v3), some (.inl v4), some (.inr (.inl v5)), none, some (.inr (.inl v7)), none, some (.inl v9), some (.inr (.inl v10)), none, some (.inl v12), u13, none] [.inl 1] (L, zB1, I, J) else zgo X C (some .long) kX9_fence 101 [some (.inr (.inr (some (.inl 9, 283)))), some (.inl v1), some (.inl v2), some (.inl v3), some (.inl v4), some (.inr (.inl v5)), none, some (.inr (.inl v7)), none, some (.inl v9), some (.inr (.inl v10)), none, some (.inl v12), u13, none] [.inl 0] (L, zB1, I, J) := by
  rw [zgo_run X C _ _ [0, 10, 22, 34, 45, 61, 76, 79, 101, 121, 133, 157, 167, 184] 14]
  rfl
set_option maxRecDepth 100000 in
theorem bX9_fence_101 (X : Nat → Nat → Int32) (C : Nat → List zV → zS → Option zR) (L : List zK) (I : Nat → Nat → Int32) (J : Nat → Nat → Int64) (v1 : Int32) (v2 : Int32) (v3 : Int32) (v4 : Int32) (v5 : Int64) (v7 : Int64) (v9 : Int32) (v10 : Int64) (v12 : Int32) (u13 : Option zV) (s0 : Int32) : zgo X C (some .long) kX9_fence 101 [some (.inr (.inr (some (.inl 9, 283)))), some (.inl v1), some (.inl v2), some (.inl v3), some (.inl v4), some (.inr (.inl v5)), none, some (.inr (.inl v7)), none, some (.inl v9), some (.inr (.inl v10)), none, some (.inl v12), u13, none] [.inl s0] (L, zB1, I, J) = if s0 = 0 then zgo X C (some .long) kX9_fence 121 [some (.inr (.inr (some (.inl 9, 283)))), some (.inl v1), some (.inl v2), some (.inl v3), some (.inl v4), some (.inr (.inl v5)), none, some (.inr (.inl v7)), none, some (.inl v9), some (.inr (.inl v10)), none, some (.inl v12), some (.inl s0), none] [.inr (.inl (10 - (v3).toInt64)), .inr (.inl v10)] (L, zB1, I, J) else zgo X C (some .long) kX9_fence 121 [some (.inr (.inr (some (.inl 9, 283)))), some (.inl v1), some (.inl v2), some (.inl v3), some (.inl v4), some (.inr (.inl v5)), none, some (.inr (.inl v7)), none, some (.inl v9), some (.inr (.inl v10)), none, some (.inl v12), some (.inl s0), none] [.inr (.inl ((v3).toInt64)), .inr (.inl v10)] (L, zB1, I, J) := by
  rw [zgo_run X C _ _ [0, 10, 22, 34, 45, 61, 76, 79, 101, 121, 133, 157, 167, 184] 9]
  rfl
set_option maxRecDepth 100000 in
theorem bX9_fence_121 (X : Nat → Nat → Int32) (C : Nat → List zV → zS → Option zR) (L : List zK) (I : Nat → Nat → Int32) (J : Nat → Nat → Int64) (v1 : Int32) (v2 : Int32) (v3 : Int32) (v4 : Int32) (v5 : Int64) (v7 : Int64) (v9 : Int32) (v10 : Int64) (v12 : Int32) (v13 : Int32) (s0 : Int64) (s1 : Int64) : zgo X C (some .long) kX9_fence 121 [some (.inr (.inr (some (.inl 9, 283)))), some (.inl v1), some (.inl v2), some (.inl v3), some (.inl v4), some (.inr (.inl v5)), none, some (.inr (.inl v7)), none, some (.inl v9), some (.inr (.inl v10)), none, some (.inl v12), some (.inl v13), none] [.inr (.inl s0), .inr (.inl s1)] (L, zB1, I, J) = cV (C 187 [.inr (.inr (some (.inr (.int, 43), 289))), .inl v13] (L, zB1, I, J)) (fun σ => zgo X C (some .long) kX9_fence 133 [some (.inr (.inr (some (.inl 9, 283)))), some (.inl v1), some (.inl v2), some (.inl v3), some (.inl v4), some (.inr (.inl v5)), none, some (.inr (.inl v7)), none, some (.inl v9), some (.inr (.inl (s1 * s0))), none, some (.inl v12), some (.inl v13), none] [] σ) := by
  rw [zgo_run X C _ _ [0, 10, 22, 34, 45, 61, 76, 79, 101, 121, 133, 157, 167, 184] 7]
  rfl
set_option maxRecDepth 100000 in
theorem bX9_fence_133 (X : Nat → Nat → Int32) (C : Nat → List zV → zS → Option zR) (L : List zK) (I : Nat → Nat → Int32) (J : Nat → Nat → Int64) (v1 : Int32) (v2 : Int32) (v3 : Int32) (v4 : Int32) (v5 : Int64) (v7 : Int64) (v9 : Int32) (v10 : Int64) (v12 : Int32) (v13 : Int32) : zgo X C (some .long) kX9_fence 133 [some (.inr (.inr (some (.inl 9, 283)))), some (.inl v1), some (.inl v2), some (.inl v3), some (.inl v4), some (.inr (.inl v5)), none, some (.inr (.inl v7)), none, some (.inl v9), some (.inr (.inl v10)), none, some (.inl v12), some (.inl v13), none] [] (L, zB1, I, J) = zgo X C (some .long) kX9_fence 79 [some (.inr (.inr (some (.inl 9, 283)))), some (.inl v1), some (.inl v2), some (.inl v3), some (.inl v4), some (.inr (.inl v5)), none, some (.inr (.inl v7)), none, some (.inl v9), some (.inr (.inl v10)), none, some (.inl (v12 + 1)), some (.inl v13), none] [] (L, zB1, I, J) := by
  rw [zgo_run X C _ _ [0, 10, 22, 34, 45, 61, 76, 79, 101, 121, 133, 157, 167, 184] 3]
  rfl
set_option maxRecDepth 100000 in
theorem bX9_fence_157 (X : Nat → Nat → Int32) (C : Nat → List zV → zS → Option zR) (L : List zK) (I : Nat → Nat → Int32) (J : Nat → Nat → Int64) (v1 : Int32) (v2 : Int32) (v3 : Int32) (v4 : Int32) (v5 : Int64) (v7 : Int64) (v9 : Int32) (v10 : Int64) (v12 : Int32) (u13 : Option zV) (s0 : Int32) (s1 : Int64) : zgo X C (some .long) kX9_fence 157 [some (.inr (.inr (some (.inl 9, 283)))), some (.inl v1), some (.inl v2), some (.inl v3), some (.inl v4), some (.inr (.inl v5)), none, some (.inr (.inl v7)), none, some (.inl v9), some (.inr (.inl v10)), none, some (.inl v12), u13, none] [.inl s0, .inr (.inl s1)] (L, zB1, I, J) = if s0 = 3 then zgo X C (some .long) kX9_fence 167 [some (.inr (.inr (some (.inl 9, 283)))), some (.inl v1), some (.inl v2), some (.inl v3), some (.inl v4), some (.inr (.inl v5)), none, some (.inr (.inl v7)), none, some (.inl v9), some (.inr (.inl v10)), none, some (.inl v12), u13, none] [.inr (.inl v10), .inr (.inl s1)] (L, zB1, I, J) else zgo X C (some .long) kX9_fence 167 [some (.inr (.inr (some (.inl 9, 283)))), some (.inl v1), some (.inl v2), some (.inl v3), some (.inl v4), some (.inr (.inl v5)), none, some (.inr (.inl v7)), none, some (.inl v9), some (.inr (.inl v10)), none, some (.inl v12), u13, none] [.inr (.inl 0), .inr (.inl s1)] (L, zB1, I, J) := by
  rw [zgo_run X C _ _ [0, 10, 22, 34, 45, 61, 76, 79, 101, 121, 133, 157, 167, 184] 5]
  rfl
set_option maxRecDepth 100000 in
theorem bX9_fence_167 (X : Nat → Nat → Int32) (C : Nat → List zV → zS → Option zR) (L : List zK) (I : Nat → Nat → Int32) (J : Nat → Nat → Int64) (v1 : Int32) (v2 : Int32) (v3 : Int32) (v4 : Int32) (v5 : Int64) (v7 : Int64) (v9 : Int32) (v10 : Int64) (v12 : Int32) (u13 : Option zV) (s0 : Int64) (s1 : Int64) : zgo X C (some .long) kX9_fence 167 [some (.inr (.inr (some (.inl 9, 283)))), some (.inl v1), some (.inl v2), some (.inl v3), some (.inl v4), some (.inr (.inl v5)), none, some (.inr (.inl v7)), none, some (.inl v9), some (.inr (.inl v10)), none, some (.inl v12), u13, none] [.inr (.inl s0), .inr (.inl s1)] (L, zB1, I, J) = zgo X C (some .long) kX9_fence 61 [some (.inr (.inr (some (.inl 9, 283)))), some (.inl v1), some (.inl v2), some (.inl v3), some (.inl v4), some (.inr (.inl (s1 + s0))), none, some (.inr (.inl v7)), none, some (.inl (v9 + 1)), some (.inr (.inl v10)), none, some (.inl v12), u13, none] [] (L, zB1, I, J) := by
  rw [zgo_run X C _ _ [0, 10, 22, 34, 45, 61, 76, 79, 101, 121, 133, 157, 167, 184] 5]
  rfl
set_option maxRecDepth 100000 in
theorem bX9_fence_184 (X : Nat → Nat → Int32) (C : Nat → List zV → zS → Option zR) (L : List zK) (I : Nat → Nat → Int32) (J : Nat → Nat → Int64) (v1 : Int32) (v2 : Int32) (v3 : Int32) (v4 : Int32) (v5 : Int64) (v7 : Int64) (v9 : Int64) (v11 : Int64) (u13 : Option zV) : zgo X C (some .long) kX9_fence 184 [some (.inr (.inr (some (.inl 9, 283)))), some (.inl v1), some (.inl v2), some (.inl v3), some (.inl v4), some (.inr (.inl v5)), none, some (.inr (.inl v7)), none, some (.inr (.inl v9)), none, some (.inr (.inl v11)), none, u13, none] [] (L, zB1, I, J) = if (lg_cmp v11 0) = 0 then if v4 = 0 then if v9 = 0 then none else some (some (.inr (.inl (v5 / v9))), (L, zB1, I, J)) else if v9 = 0 then none else some (some (.inr (.inl (v7 / v9))), (L, zB1, I, J)) else if v11 = 0 then none else zgo X C (some .long) kX9_fence 184 [some (.inr (.inr (some (.inl 9, 283)))), some (.inl v1), some (.inl v2), some (.inl v3), some (.inl v4), some (.inr (.inl v5)), none, some (.inr (.inl v7)), none, some (.inr (.inl v11)), none, some (.inr (.inl (v9 - v9 / v11 * v11))), none, some (.inr (.inl (v9 - v9 / v11 * v11))), none] [] (L, zB1, I, J) := by
  rw [zgo_run X C _ _ [0, 10, 22, 34, 45, 61, 76, 79, 101, 121, 133, 157, 167, 184] 14]
  rfl

set_option maxRecDepth 100000 in
theorem bX9_drawn_0 (X : Nat → Nat → Int32) (C : Nat → List zV → zS → Option zR) (L : List zK) (I : Nat → Nat → Int32) (J : Nat → Nat → Int64) (a1 : Int32) (a2 : Int32) (a3 : Int32) : zgo X C (some .int) kX9_drawn 0 [some (.inr (.inr (some (.inl 9, 283)))), some (.inl a1), some (.inl a2), some (.inl a3), none, none, none, none, none] [] (L, zB1, I, J) = cI (C 175 [.inr (.inr (some (.inl 9, 283)))] (L, zB1, (zup I 283 0 0), J)) (fun r σ => zgo X C (some .int) kX9_drawn 9 [some (.inr (.inr (some (.inl 9, 283)))), some (.inl a1), some (.inl a2), some (.inl a3), none, none, none, none, none] [.inl r] σ) := by
  rw [zgo_run X C _ _ [0, 9, 24, 36, 46, 56, 63, 81, 107, 146, 167, 191, 199, 218, 229] 6]
  rfl
set_option maxRecDepth 100000 in
theorem bX9_drawn_9 (X : Nat → Nat → Int32) (C : Nat → List zV → zS → Option zR) (L : List zK) (I : Nat → Nat → Int32) (J : Nat → Nat → Int64) (v1 : Int32) (v2 : Int32) (v3 : Int32) (s0 : Int32) : zgo X C (some .int) kX9_drawn 9 [some (.inr (.inr (some (.inl 9, 283)))), some (.inl v1), some (.inl v2), some (.inl v3), none, none, none, none, none] [.inl s0] (L, zB1, I, J) = if s0 = 0 then some (some (.inl (-1000002)), (L, zB1, I, J)) else cI (C 153 [.inr (.inl ((v1).toInt64)), .inr (.inl 0), .inr (.inl 60)] (L, zB1, I, J)) (fun r σ => zgo X C (some .int) kX9_drawn 24 [some (.inr (.inr (some (.inl 9, 283)))), some (.inl v1), some (.inl v2), some (.inl v3), none, none, none, none, none] [.inl r] σ) := by
  rw [zgo_run X C _ _ [0, 9, 24, 36, 46, 56, 63, 81, 107, 146, 167, 191, 199, 218, 229] 7]
  rfl
set_option maxRecDepth 100000 in
theorem bX9_drawn_24 (X : Nat → Nat → Int32) (C : Nat → List zV → zS → Option zR) (L : List zK) (I : Nat → Nat → Int32) (J : Nat → Nat → Int64) (v1 : Int32) (v2 : Int32) (v3 : Int32) (s0 : Int32) : zgo X C (some .int) kX9_drawn 24 [some (.inr (.inr (some (.inl 9, 283)))), some (.inl v1), some (.inl v2), some (.inl v3), none, none, none, none, none] [.inl s0] (L, zB1, I, J) = if s0 = 0 then some (some (.inl (-1000001)), (L, zB1, I, J)) else cI (C 153 [.inr (.inl ((v2).toInt64)), .inr (.inl 1), .inr (.inl 999999)] (L, zB1, I, J)) (fun r σ => zgo X C (some .int) kX9_drawn 36 [some (.inr (.inr (some (.inl 9, 283)))), some (.inl v1), some (.inl v2), some (.inl v3), none, none, none, none, none] [.inl r] σ) := by
  rw [zgo_run X C _ _ [0, 9, 24, 36, 46, 56, 63, 81, 107, 146, 167, 191, 199, 218, 229] 7]
  rfl
set_option maxRecDepth 100000 in
theorem bX9_drawn_36 (X : Nat → Nat → Int32) (C : Nat → List zV → zS → Option zR) (L : List zK) (I : Nat → Nat → Int32) (J : Nat → Nat → Int64) (v1 : Int32) (v2 : Int32) (v3 : Int32) (s0 : Int32) : zgo X C (some .int) kX9_drawn 36 [some (.inr (.inr (some (.inl 9, 283)))), some (.inl v1), some (.inl v2), some (.inl v3), none, none, none, none, none] [.inl s0] (L, zB1, I, J) = if s0 = 0 then some (some (.inl (-1000001)), (L, zB1, I, J)) else cI (C 153 [.inr (.inl ((v3).toInt64)), .inr (.inl 0), .inr (.inl 1)] (L, zB1, I, J)) (fun r σ => zgo X C (some .int) kX9_drawn 46 [some (.inr (.inr (some (.inl 9, 283)))), some (.inl v1), some (.inl v2), some (.inl v3), none, none, none, none, none] [.inl r] σ) := by
  rw [zgo_run X C _ _ [0, 9, 24, 36, 46, 56, 63, 81, 107, 146, 167, 191, 199, 218, 229] 7]
  rfl
set_option maxRecDepth 100000 in
theorem bX9_drawn_46 (X : Nat → Nat → Int32) (C : Nat → List zV → zS → Option zR) (L : List zK) (I : Nat → Nat → Int32) (J : Nat → Nat → Int64) (v1 : Int32) (v2 : Int32) (v3 : Int32) (s0 : Int32) : zgo X C (some .int) kX9_drawn 46 [some (.inr (.inr (some (.inl 9, 283)))), some (.inl v1), some (.inl v2), some (.inl v3), none, none, none, none, none] [.inl s0] (L, zB1, I, J) = if s0 = 0 then some (some (.inl (-1000001)), (L, zB1, I, J)) else cV (C 191 [.inr (.inr (some (.inl 9, 283)))] (L, zB1, I, J)) (fun σ => zgo X C (some .int) kX9_drawn 56 [some (.inr (.inr (some (.inl 9, 283)))), some (.inl v1), some (.inl v2), some (.inl v3), none, none, none, none, none] [] σ) := by
  rw [zgo_run X C _ _ [0, 9, 24, 36, 46, 56, 63, 81, 107, 146, 167, 191, 199, 218, 229] 4]
  rfl
set_option maxRecDepth 100000 in
theorem bX9_drawn_56 (X : Nat → Nat → Int32) (C : Nat → List zV → zS → Option zR) (L : List zK) (I : Nat → Nat → Int32) (J : Nat → Nat → Int64) (v1 : Int32) (v2 : Int32) (v3 : Int32) : zgo X C (some .int) kX9_drawn 56 [some (.inr (.inr (some (.inl 9, 283)))), some (.inl v1), some (.inl v2), some (.inl v3), none, none, none, none, none] [] (L, zB1, I, J) = zgo X C (some .int) kX9_drawn 63 [some (.inr (.inr (some (.inl 9, 283)))), some (.inl v1), some (.inl v2), some (.inl v3), some (.inr (.inl ((v2).toInt64))), none, some (.inl 0), none, none] [] (L, zB1, I, J) := by
  rw [zgo_run X C _ _ [0, 9, 24, 36, 46, 56, 63, 81, 107, 146, 167, 191, 199, 218, 229] 6]
  rfl
set_option maxRecDepth 100000 in
theorem bX9_drawn_63 (X : Nat → Nat → Int32) (C : Nat → List zV → zS → Option zR) (L : List zK) (I : Nat → Nat → Int32) (J : Nat → Nat → Int64) (v1 : Int32) (v2 : Int32) (v3 : Int32) (v4 : Int64) (v6 : Int32) (u7 : Option zV) (u8 : Option zV) : zgo X C (some .int) kX9_drawn 63 [some (.inr (.inr (some (.inl 9, 283)))), some (.inl v1), some (.inl v2), some (.inl v3), some (.inr (.inl v4)), none, some (.inl v6), u7, u8] [] (L, zB1, I, J) = if v1 ≤ v6 then if v3 = 0 then cI (C 189 [.inr (.inr (some (.inr (.int, 43), 289))), .inl (-1000000)] (L, zB1, I, J)) (fun r σ => zgo X C (some .int) kX9_drawn 218 [some (.inr (.inr (some (.inl 9, 283)))), some (.inl v1), some (.inl v2), some (.inl v3), some (.inr (.inl v4)), none, some (.inl v6), u7, u8] [.inl r] σ) else cI (C 184 [.inr (.inr (some (.inr (.int, 43), 289))), .inl 3] (L, zB1, I, J)) (fun r σ => zgo X C (some .int) kX9_drawn 229 [some (.inr (.inr (some (.inl 9, 283)))), some (.inl v1), some (.inl v2), some (.inl v3), some (.inr (.inl v4)), none, some (.inl v6), u7, u8] [.inl r] σ) else if (2147483647 : Int64) = 0 then none else zgo X C (some .int) kX9_drawn 81 [some (.inr (.inr (some (.inl 9, 283)))), some (.inl v1), some (.inl v2), some (.inl v3), some (.inr (.inl ((v4 * 16807) - (v4 * 16807) / 2147483647 * 2147483647))), none, some (.inl v6), u7, u8] [] (L, zB1, I, J) := by
  rw [zgo_run X C _ _ [0, 9, 24, 36, 46, 56, 63, 81, 107, 146, 167, 191, 199, 218, 229] 10]
  rfl
set_option maxRecDepth 100000 in
theorem bX9_drawn_81 (X : Nat → Nat → Int32) (C : Nat → List zV → zS → Option zR) (L : List zK) (I : Nat → Nat → Int32) (J : Nat → Nat → Int64) (v1 : Int32) (v2 : Int32) (v3 : Int32) (v4 : Int64) (v6 : Int32) (u7 : Option zV) (u8 : Option zV) : zgo X C (some .int) kX9_drawn 81 [some (.inr (.inr (some (.inl 9, 283)))), some (.inl v1), some (.inl v2), some (.inl v3), some (.inr (.inl v4)), none, some (.inl v6), u7, u8] [] (L, zB1, I, J) = zbt (zin 1 43) (if (((I 289 (1 : Int32).toNatClampNeg)).toInt64) = 0 then none else zbt (zin 0 43) (if (((I 289 (0 : Int32).toNatClampNeg)).toInt64) = 0 then none else zgo X C (some .int) kX9_drawn 107 [some (.inr (.inr (some (.inl 9, 283)))), some (.inl v1), some (.inl v2), some (.inl v3), some (.inr (.inl v4)), none, some (.inl v6), some (.inl ((v4 - v4 / ((I 289 (1 : Int32).toNatClampNeg)).toInt64 * ((I 289 (1 : Int32).toNatClampNeg)).toInt64).toInt32)), some (.inl ((v4 - v4 / ((I 289 (0 : Int32).toNatClampNeg)).toInt64 * ((I 289 (0 : Int32).toNatClampNeg)).toInt64).toInt32))] [] (L, zB1, I, J))) := by
  rw [zgo_run X C _ _ [0, 9, 24, 36, 46, 56, 63, 81, 107, 146, 167, 191, 199, 218, 229] 19]
  rfl
set_option maxRecDepth 100000 in
theorem bX9_drawn_107 (X : Nat → Nat → Int32) (C : Nat → List zV → zS → Option zR) (L : List zK) (I : Nat → Nat → Int32) (J : Nat → Nat → Int64) (v1 : Int32) (v2 : Int32) (v3 : Int32) (v4 : Int64) (v6 : Int32) (v7 : Int32) (v8 : Int32) : zgo X C (some .int) kX9_drawn 107 [some (.inr (.inr (some (.inl 9, 283)))), some (.inl v1), some (.inl v2), some (.inl v3), some (.inr (.inl v4)), none, some (.inl v6), some (.inl v7), some (.inl v8)] [] (L, zB1, I, J) = if (3 : Int64) = 0 then none else if (lg_cmp (v4 - v4 / 3 * 3) 0) = 0 then zbt (zin ((5 + (2 * v7)) + 1) 43) (zbt (zin ((5 + (2 * v7)) + 1) 43) (zgo X C (some .int) kX9_drawn 146 [some (.inr (.inr (some (.inl 9, 283)))), some (.inl v1), some (.inl v2), some (.inl v3), some (.inr (.inl v4)), none, some (.inl v6), some (.inl v7), some (.inl v8)] [] (L, zB1, (zup I 289 ((5 + (2 * v7)) + 1).toNatClampNeg (1 - (I 289 ((5 + (2 * v7)) + 1).toNatClampNeg))), J))) else zgo X C (some .int) kX9_drawn 146 [some (.inr (.inr (some (.inl 9, 283)))), some (.inl v1), some (.inl v2), some (.inl v3), some (.inr (.inl v4)), none, some (.inl v6), some (.inl v7), some (.inl v8)] [] (L, zB1, I, J) := by
  rw [zgo_run X C _ _ [0, 9, 24, 36, 46, 56, 63, 81, 107, 146, 167, 191, 199, 218, 229] 29]
  rfl
set_option maxRecDepth 100000 in
theorem bX9_drawn_146 (X : Nat → Nat → Int32) (C : Nat → List zV → zS → Option zR) (L : List zK) (I : Nat → Nat → Int32) (J : Nat → Nat → Int64) (v1 : Int32) (v2 : Int32) (v3 : Int32) (v4 : Int64) (v6 : Int32) (v7 : Int32) (v8 : Int32) : zgo X C (some .int) kX9_drawn 146 [some (.inr (.inr (some (.inl 9, 283)))), some (.inl v1), some (.inl v2), some (.inl v3), some (.inr (.inl v4)), none, some (.inl v6), some (.inl v7), some (.inl v8)] [] (L, zB1, I, J) = if (4 : Int64) = 0 then none else if (lg_cmp (v4 - v4 / 4 * 4) 0) = 0 then cI (C 180 [.inr (.inr (some (.inr (.int, 43), 289))), .inl v8, .inl 3] (L, zB1, I, J)) (fun r σ => zgo X C (some .int) kX9_drawn 167 [some (.inr (.inr (some (.inl 9, 283)))), some (.inl v1), some (.inl v2), some (.inl v3), some (.inr (.inl v4)), none, some (.inl v6), some (.inl v7), some (.inl v8)] [.inl r] σ) else zgo X C (some .int) kX9_drawn 191 [some (.inr (.inr (some (.inl 9, 283)))), some (.inl v1), some (.inl v2), some (.inl v3), some (.inr (.inl v4)), none, some (.inl v6), some (.inl v7), some (.inl v8)] [] (L, zB1, I, J) := by
  rw [zgo_run X C _ _ [0, 9, 24, 36, 46, 56, 63, 81, 107, 146, 167, 191, 199, 218, 229] 12]
  rfl
set_option maxRecDepth 100000 in
theorem bX9_drawn_167 (X : Nat → Nat → Int32) (C : Nat → List zV → zS → Option zR) (L : List zK) (I : Nat → Nat → Int32) (J : Nat → Nat → Int64) (v1 : Int32) (v2 : Int32) (v3 : Int32) (v4 : Int64) (v6 : Int32) (v7 : Int32) (v8 : Int32) (s0 : Int32) : zgo X C (some .int) kX9_drawn 167 [some (.inr (.inr (some (.inl 9, 283)))), some (.inl v1), some (.inl v2), some (.inl v3), some (.inr (.inl v4)), none, some (.inl v6), some (.inl v7), some (.inl v8)] [.inl s0] (L, zB1, I, J) = if s0 = 2 then if (9 : Int64) = 0 then none else cV (C 190 [.inr (.inr (some (.inr (.int, 43), 289))), .inl v8, .inl v7, .inl ((v4 - v4 / 9 * 9).toInt32 + 1)] (L, zB1, I, J)) (fun σ => zgo X C (some .int) kX9_drawn 191 [some (.inr (.inr (some (.inl 9, 283)))), some (.inl v1), some (.inl v2), some (.inl v3), some (.inr (.inl v4)), none, some (.inl v6), some (.inl v7), some (.inl v8)] [] σ) else zgo X C (some .int) kX9_drawn 191 [some (.inr (.inr (some (.inl 9, 283)))), some (.inl v1), some (.inl v2), some (.inl v3), some (.inr (.inl v4)), none, some (.inl v6), some (.inl v7), some (.inl v8)] [] (L, zB1, I, J) := by
  rw [zgo_run X C _ _ [0, 9, 24, 36, 46, 56, 63, 81, 107, 146, 167, 191, 199, 218, 229] 14]
  rfl
set_option maxRecDepth 100000 in
theorem bX9_drawn_191 (X : Nat → Nat → Int32) (C : Nat → List zV → zS → Option zR) (L : List zK) (I : Nat → Nat → Int32) (J : Nat → Nat → Int64) (v1 : Int32) (v2 : Int32) (v3 : Int32) (v4 : Int64) (v6 : Int32) (v7 : Int32) (v8 : Int32) : zgo X C (some .int) kX9_drawn 191 [some (.inr (.inr (some (.inl 9, 283)))), some (.inl v1), some (.inl v2), some (.inl v3), some (.inr (.inl v4)), none, some (.inl v6), some (.inl v7), some (.inl v8)] [] (L, zB1, I, J) = cV (C 187 [.inr (.inr (some (.inr (.int, 43), 289))), .inl 0] (L, zB1, I, J)) (fun σ => zgo X C (some .int) kX9_drawn 199 [some (.inr (.inr (some (.inl 9, 283)))), some (.inl v1), some (.inl v2), some (.inl v3), some (.inr (.inl v4)), none, some (.inl v6), some (.inl v7), some (.inl v8)] [] σ) := by
  rw [zgo_run X C _ _ [0, 9, 24, 36, 46, 56, 63, 81, 107, 146, 167, 191, 199, 218, 229] 5]
  rfl
set_option maxRecDepth 100000 in
theorem bX9_drawn_199 (X : Nat → Nat → Int32) (C : Nat → List zV → zS → Option zR) (L : List zK) (I : Nat → Nat → Int32) (J : Nat → Nat → Int64) (v1 : Int32) (v2 : Int32) (v3 : Int32) (v4 : Int64) (v6 : Int32) (v7 : Int32) (v8 : Int32) : zgo X C (some .int) kX9_drawn 199 [some (.inr (.inr (some (.inl 9, 283)))), some (.inl v1), some (.inl v2), some (.inl v3), some (.inr (.inl v4)), none, some (.inl v6), some (.inl v7), some (.inl v8)] [] (L, zB1, I, J) = zgo X C (some .int) kX9_drawn 63 [some (.inr (.inr (some (.inl 9, 283)))), some (.inl v1), some (.inl v2), some (.inl v3), some (.inr (.inl v4)), none, some (.inl (v6 + 1)), some (.inl v7), some (.inl v8)] [] (L, zB1, I, J) := by
  rw [zgo_run X C _ _ [0, 9, 24, 36, 46, 56, 63, 81, 107, 146, 167, 191, 199, 218, 229] 3]
  rfl
set_option maxRecDepth 100000 in
theorem bX9_drawn_218 (X : Nat → Nat → Int32) (C : Nat → List zV → zS → Option zR) (L : List zK) (I : Nat → Nat → Int32) (J : Nat → Nat → Int64) (v1 : Int32) (v2 : Int32) (v3 : Int32) (v4 : Int64) (v6 : Int32) (u7 : Option zV) (u8 : Option zV) (s0 : Int32) : zgo X C (some .int) kX9_drawn 218 [some (.inr (.inr (some (.inl 9, 283)))), some (.inl v1), some (.inl v2), some (.inl v3), some (.inr (.inl v4)), none, some (.inl v6), u7, u8] [.inl s0] (L, zB1, I, J) = zgo X C (some .int) kX9_drawn 229 [some (.inr (.inr (some (.inl 9, 283)))), some (.inl v1), some (.inl v2), some (.inl v3), some (.inr (.inl v4)), none, some (.inl v6), u7, u8] [.inl s0] (L, zB1, I, J) := by
  rw [zgo_run X C _ _ [0, 9, 24, 36, 46, 56, 63, 81, 107, 146, 167, 191, 199, 218, 229] 2]
  rfl
set_option maxRecDepth 100000 in
theorem bX9_drawn_229 (X : Nat → Nat → Int32) (C : Nat → List zV → zS → Option zR) (L : List zK) (I : Nat → Nat → Int32) (J : Nat → Nat → Int64) (v1 : Int32) (v2 : Int32) (v3 : Int32) (v4 : Int64) (v6 : Int32) (u7 : Option zV) (u8 : Option zV) (s0 : Int32) : zgo X C (some .int) kX9_drawn 229 [some (.inr (.inr (some (.inl 9, 283)))), some (.inl v1), some (.inl v2), some (.inl v3), some (.inr (.inl v4)), none, some (.inl v6), u7, u8] [.inl s0] (L, zB1, I, J) = some (some (.inl s0), (L, zB1, I, J)) := by
  rw [zgo_run X C _ _ [0, 9, 24, 36, 46, 56, 63, 81, 107, 146, 167, 191, 199, 218, 229] 2]
  rfl

set_option maxRecDepth 100000 in
theorem bX9_image_0 (X : Nat → Nat → Int32) (C : Nat → List zV → zS → Option zR) (L : List zK) (I : Nat → Nat → Int32) (J : Nat → Nat → Int64) (a1 : Int32) : zgo X C (some .int) kX9_image 0 [some (.inr (.inr (some (.inl 9, 283)))), some (.inl a1), none] [] (L, zB1, I, J) = cI (C 153 [.inr (.inl ((a1).toInt64)), .inr (.inl 0), .inr (.inl 1)] (L, zB1, (zup I 283 0 0), J)) (fun r σ => zgo X C (some .int) kX9_image 12 [some (.inr (.inr (some (.inl 9, 283)))), some (.inl a1), none] [.inl r] σ) := by
  rw [zgo_run X C _ _ [0, 12, 22, 30] 9]
  rfl
set_option maxRecDepth 100000 in
theorem bX9_image_12 (X : Nat → Nat → Int32) (C : Nat → List zV → zS → Option zR) (L : List zK) (I : Nat → Nat → Int32) (J : Nat → Nat → Int64) (v1 : Int32) (s0 : Int32) : zgo X C (some .int) kX9_image 12 [some (.inr (.inr (some (.inl 9, 283)))), some (.inl v1), none] [.inl s0] (L, zB1, I, J) = if s0 = 0 then some (some (.inl (-1000001)), (L, zB1, I, J)) else cI (C 175 [.inr (.inr (some (.inl 9, 283)))] (L, zB1, I, J)) (fun r σ => zgo X C (some .int) kX9_image 22 [some (.inr (.inr (some (.inl 9, 283)))), some (.inl v1), none] [.inl r] σ) := by
  rw [zgo_run X C _ _ [0, 12, 22, 30] 4]
  rfl
set_option maxRecDepth 100000 in
theorem bX9_image_22 (X : Nat → Nat → Int32) (C : Nat → List zV → zS → Option zR) (L : List zK) (I : Nat → Nat → Int32) (J : Nat → Nat → Int64) (v1 : Int32) (s0 : Int32) : zgo X C (some .int) kX9_image 22 [some (.inr (.inr (some (.inl 9, 283)))), some (.inl v1), none] [.inl s0] (L, zB1, I, J) = if s0 = 0 then some (some (.inl (-1000002)), (L, zB1, I, J)) else zgo X C (some .int) kX9_image 30 [some (.inr (.inr (some (.inl 9, 283)))), some (.inl v1), some (.inl 0)] [] (L, zB1, I, J) := by
  rw [zgo_run X C _ _ [0, 12, 22, 30] 4]
  rfl
set_option maxRecDepth 100000 in
theorem bX9_image_30 (X : Nat → Nat → Int32) (C : Nat → List zV → zS → Option zR) (L : List zK) (I : Nat → Nat → Int32) (J : Nat → Nat → Int64) (v1 : Int32) (v2 : Int32) : zgo X C (some .int) kX9_image 30 [some (.inr (.inr (some (.inl 9, 283)))), some (.inl v1), some (.inl v2)] [] (L, zB1, I, J) = if (43 : Int32) ≤ v2 then zbt (zin v1 2) (some (some (.inl 1), (L, zB1, (zup I 295 v1.toNatClampNeg (vp_nar .boolean 1)), J))) else zbt (zin v2 43) (zbt (zin ((43 * v1) + v2) 86) (zgo X C (some .int) kX9_image 30 [some (.inr (.inr (some (.inl 9, 283)))), some (.inl v1), some (.inl (v2 + 1))] [] (L, zB1, (zup I 296 ((43 * v1) + v2).toNatClampNeg (I 287 v2.toNatClampNeg)), J))) := by
  rw [zgo_run X C _ _ [0, 12, 22, 30] 18]
  rfl

set_option maxRecDepth 100000 in
theorem bX9_restore_0 (X : Nat → Nat → Int32) (C : Nat → List zV → zS → Option zR) (L : List zK) (I : Nat → Nat → Int32) (J : Nat → Nat → Int64) (a1 : Int32) : zgo X C (some .int) kX9_restore 0 [some (.inr (.inr (some (.inl 9, 283)))), some (.inl a1), none] [] (L, zB1, I, J) = cI (C 153 [.inr (.inl ((a1).toInt64)), .inr (.inl 0), .inr (.inl 1)] (L, zB1, (zup I 283 0 0), J)) (fun r σ => zgo X C (some .int) kX9_restore 12 [some (.inr (.inr (some (.inl 9, 283)))), some (.inl a1), none] [.inl r] σ) := by
  rw [zgo_run X C _ _ [0, 12, 32] 9]
  rfl
set_option maxRecDepth 100000 in
theorem bX9_restore_12 (X : Nat → Nat → Int32) (C : Nat → List zV → zS → Option zR) (L : List zK) (I : Nat → Nat → Int32) (J : Nat → Nat → Int64) (v1 : Int32) (s0 : Int32) : zgo X C (some .int) kX9_restore 12 [some (.inr (.inr (some (.inl 9, 283)))), some (.inl v1), none] [.inl s0] (L, zB1, I, J) = if s0 = 0 then some (some (.inl (-1000001)), (L, zB1, I, J)) else zbt (zin v1 2) (if (I 295 v1.toNatClampNeg) = 0 then some (some (.inl (-1000002)), (L, zB1, I, J)) else zgo X C (some .int) kX9_restore 32 [some (.inr (.inr (some (.inl 9, 283)))), some (.inl v1), some (.inl 0)] [] (L, zB1, I, J)) := by
  rw [zgo_run X C _ _ [0, 12, 32] 9]
  rfl
set_option maxRecDepth 100000 in
theorem bX9_restore_32 (X : Nat → Nat → Int32) (C : Nat → List zV → zS → Option zR) (L : List zK) (I : Nat → Nat → Int32) (J : Nat → Nat → Int64) (v1 : Int32) (v2 : Int32) : zgo X C (some .int) kX9_restore 32 [some (.inr (.inr (some (.inl 9, 283)))), some (.inl v1), some (.inl v2)] [] (L, zB1, I, J) = if (43 : Int32) ≤ v2 then some (some (.inl 1), (L, zB1, (zup I 283 9 0), J)) else zbt (zin ((43 * v1) + v2) 86) (zbt (zin v2 43) (zgo X C (some .int) kX9_restore 32 [some (.inr (.inr (some (.inl 9, 283)))), some (.inl v1), some (.inl (v2 + 1))] [] (L, zB1, (zup I 287 v2.toNatClampNeg (I 296 ((43 * v1) + v2).toNatClampNeg)), J))) := by
  rw [zgo_run X C _ _ [0, 12, 32] 18]
  rfl

set_option maxRecDepth 100000 in
theorem bX9_isOf_0 (X : Nat → Nat → Int32) (C : Nat → List zV → zS → Option zR) (L : List zK) (I : Nat → Nat → Int32) (J : Nat → Nat → Int64) (a1 : Int32) (a2 : Int32) : zgo X C (some .boolean) kX9_isOf 0 [some (.inl a1), some (.inl a2)] [] (L, zB1, I, J) = if a2 = 0 then some (some (.inl 1), (L, zB1, I, J)) else if a1 = a2 then some (some (.inl 1), (L, zB1, I, J)) else if a2 = 1 then if a1 < 4 then some (some (.inl 1), (L, zB1, I, J)) else zgo X C (some .boolean) kX9_isOf 19 [some (.inl a1), some (.inl a2)] [] (L, zB1, I, J) else zgo X C (some .boolean) kX9_isOf 19 [some (.inl a1), some (.inl a2)] [] (L, zB1, I, J) := by
  rw [zgo_run X C _ _ [0, 19] 15]
  rfl
set_option maxRecDepth 100000 in
theorem bX9_isOf_19 (X : Nat → Nat → Int32) (C : Nat → List zV → zS → Option zR) (L : List zK) (I : Nat → Nat → Int32) (J : Nat → Nat → Int64) (v0 : Int32) (v1 : Int32) : zgo X C (some .boolean) kX9_isOf 19 [some (.inl v0), some (.inl v1)] [] (L, zB1, I, J) = if v1 = 4 then if v0 = 5 then some (some (.inl 1), (L, zB1, I, J)) else some (some (.inl 0), (L, zB1, I, J)) else some (some (.inl 0), (L, zB1, I, J)) := by
  rw [zgo_run X C _ _ [0, 19] 10]
  rfl

set_option maxRecDepth 100000 in
theorem bX9_kind_0 (X : Nat → Nat → Int32) (C : Nat → List zV → zS → Option zR) (L : List zK) (I : Nat → Nat → Int32) (J : Nat → Nat → Int64) (a1 : Int32) : zgo X C (some .int) kX9_kind 0 [some (.inr (.inr (some (.inl 9, 283)))), some (.inl a1)] [] (L, zB1, I, J) = cI (C 176 [.inr (.inr (some (.inl 9, 283))), .inl a1] (L, zB1, (zup I 283 0 0), J)) (fun r σ => zgo X C (some .int) kX9_kind 10 [some (.inr (.inr (some (.inl 9, 283)))), some (.inl a1)] [.inl r] σ) := by
  rw [zgo_run X C _ _ [0, 10, 22] 7]
  rfl
set_option maxRecDepth 100000 in
theorem bX9_kind_10 (X : Nat → Nat → Int32) (C : Nat → List zV → zS → Option zR) (L : List zK) (I : Nat → Nat → Int32) (J : Nat → Nat → Int64) (v1 : Int32) (s0 : Int32) : zgo X C (some .int) kX9_kind 10 [some (.inr (.inr (some (.inl 9, 283)))), some (.inl v1)] [.inl s0] (L, zB1, I, J) = if s0 = 0 then some (some (.inl (-1000001)), (L, zB1, I, J)) else cI (C 180 [.inr (.inr (some (.inr (.int, 43), 287))), .inl v1, .inl 0] (L, zB1, I, J)) (fun r σ => zgo X C (some .int) kX9_kind 22 [some (.inr (.inr (some (.inl 9, 283)))), some (.inl v1)] [.inl r] σ) := by
  rw [zgo_run X C _ _ [0, 10, 22] 7]
  rfl
set_option maxRecDepth 100000 in
theorem bX9_kind_22 (X : Nat → Nat → Int32) (C : Nat → List zV → zS → Option zR) (L : List zK) (I : Nat → Nat → Int32) (J : Nat → Nat → Int64) (v1 : Int32) (s0 : Int32) : zgo X C (some .int) kX9_kind 22 [some (.inr (.inr (some (.inl 9, 283)))), some (.inl v1)] [.inl s0] (L, zB1, I, J) = some (some (.inl s0), (L, zB1, I, J)) := by
  rw [zgo_run X C _ _ [0, 10, 22] 3]
  rfl

set_option maxRecDepth 100000 in
theorem bX9_as_0 (X : Nat → Nat → Int32) (C : Nat → List zV → zS → Option zR) (L : List zK) (I : Nat → Nat → Int32) (J : Nat → Nat → Int64) (a1 : Int32) (a2 : Int32) : zgo X C (some .int) kX9_as 0 [some (.inr (.inr (some (.inl 9, 283)))), some (.inl a1), some (.inl a2)] [] (L, zB1, I, J) = cI (C 176 [.inr (.inr (some (.inl 9, 283))), .inl a1] (L, zB1, (zup I 283 0 0), J)) (fun r σ => zgo X C (some .int) kX9_as 10 [some (.inr (.inr (some (.inl 9, 283)))), some (.inl a1), some (.inl a2)] [.inl r] σ) := by
  rw [zgo_run X C _ _ [0, 10, 22, 42, 46, 58] 7]
  rfl
set_option maxRecDepth 100000 in
theorem bX9_as_10 (X : Nat → Nat → Int32) (C : Nat → List zV → zS → Option zR) (L : List zK) (I : Nat → Nat → Int32) (J : Nat → Nat → Int64) (v1 : Int32) (v2 : Int32) (s0 : Int32) : zgo X C (some .int) kX9_as 10 [some (.inr (.inr (some (.inl 9, 283)))), some (.inl v1), some (.inl v2)] [.inl s0] (L, zB1, I, J) = if s0 = 0 then some (some (.inl (-1000001)), (L, zB1, I, J)) else cI (C 153 [.inr (.inl ((v2).toInt64)), .inr (.inl 0), .inr (.inl 5)] (L, zB1, I, J)) (fun r σ => zgo X C (some .int) kX9_as 22 [some (.inr (.inr (some (.inl 9, 283)))), some (.inl v1), some (.inl v2)] [.inl r] σ) := by
  rw [zgo_run X C _ _ [0, 10, 22, 42, 46, 58] 7]
  rfl
set_option maxRecDepth 100000 in
theorem bX9_as_22 (X : Nat → Nat → Int32) (C : Nat → List zV → zS → Option zR) (L : List zK) (I : Nat → Nat → Int32) (J : Nat → Nat → Int64) (v1 : Int32) (v2 : Int32) (s0 : Int32) : zgo X C (some .int) kX9_as 22 [some (.inr (.inr (some (.inl 9, 283)))), some (.inl v1), some (.inl v2)] [.inl s0] (L, zB1, I, J) = if s0 = 0 then some (some (.inl (-1000001)), (L, zB1, I, J)) else cI (C 180 [.inr (.inr (some (.inr (.int, 43), 287))), .inl v1, .inl 0] (L, zB1, (zup I 283 1 0), J)) (fun r σ => zgo X C (some .int) kX9_as 42 [some (.inr (.inr (some (.inl 9, 283)))), some (.inl v1), some (.inl v2)] [.inl r] σ) := by
  rw [zgo_run X C _ _ [0, 10, 22, 42, 46, 58] 10]
  rfl
set_option maxRecDepth 100000 in
theorem bX9_as_42 (X : Nat → Nat → Int32) (C : Nat → List zV → zS → Option zR) (L : List zK) (I : Nat → Nat → Int32) (J : Nat → Nat → Int64) (v1 : Int32) (v2 : Int32) (s0 : Int32) : zgo X C (some .int) kX9_as 42 [some (.inr (.inr (some (.inl 9, 283)))), some (.inl v1), some (.inl v2)] [.inl s0] (L, zB1, I, J) = cI (C 229 [.inl s0, .inl v2] (L, zB1, I, J)) (fun r σ => zgo X C (some .int) kX9_as 46 [some (.inr (.inr (some (.inl 9, 283)))), some (.inl v1), some (.inl v2)] [.inl r] σ) := by
  rw [zgo_run X C _ _ [0, 10, 22, 42, 46, 58] 3]
  rfl
set_option maxRecDepth 100000 in
theorem bX9_as_46 (X : Nat → Nat → Int32) (C : Nat → List zV → zS → Option zR) (L : List zK) (I : Nat → Nat → Int32) (J : Nat → Nat → Int64) (v1 : Int32) (v2 : Int32) (s0 : Int32) : zgo X C (some .int) kX9_as 46 [some (.inr (.inr (some (.inl 9, 283)))), some (.inl v1), some (.inl v2)] [.inl s0] (L, zB1, I, J) = if s0 = 0 then cI (C 154 [.inr (.inr (some (.inl 9, 283))), .inl 3] (L, zB1, I, J)) (fun r σ => zgo X C (some .int) kX9_as 58 [some (.inr (.inr (some (.inl 9, 283)))), some (.inl v1), some (.inl v2)] [.inl r] σ) else zgo X C (some .int) kX9_as 58 [some (.inr (.inr (some (.inl 9, 283)))), some (.inl v1), some (.inl v2)] [.inl v1] (L, zB1, I, J) := by
  rw [zgo_run X C _ _ [0, 10, 22, 42, 46, 58] 5]
  rfl
set_option maxRecDepth 100000 in
theorem bX9_as_58 (X : Nat → Nat → Int32) (C : Nat → List zV → zS → Option zR) (L : List zK) (I : Nat → Nat → Int32) (J : Nat → Nat → Int64) (v1 : Int32) (v2 : Int32) (s0 : Int32) : zgo X C (some .int) kX9_as 58 [some (.inr (.inr (some (.inl 9, 283)))), some (.inl v1), some (.inl v2)] [.inl s0] (L, zB1, I, J) = some (some (.inl s0), (L, zB1, I, J)) := by
  rw [zgo_run X C _ _ [0, 10, 22, 42, 46, 58] 2]
  rfl

set_option maxRecDepth 100000 in
theorem bX9_began_0 (X : Nat → Nat → Int32) (C : Nat → List zV → zS → Option zR) (L : List zK) (I : Nat → Nat → Int32) (J : Nat → Nat → Int64) (a1 : Int32) : zgo X C none kX9_began 0 [some (.inr (.inr (some (.inl 9, 283)))), some (.inl a1)] [] (L, zB1, I, J) = if (16 : Int32) ≤ (I 283 25) then some (none, (L, zB1, I, J)) else zbt (zin (I 283 25) 16) (some (none, (L, zB1, (zup (zup I 297 (I 283 25).toNatClampNeg a1) 283 25 (((zup I 297 (I 283 25).toNatClampNeg a1) 283 25) + 1)), J))) := by
  rw [zgo_run X C _ _ [0] 18]
  rfl

set_option maxRecDepth 100000 in
theorem bX9_plainSize_0 (X : Nat → Nat → Int32) (C : Nat → List zV → zS → Option zR) (L : List zK) (I : Nat → Nat → Int32) (J : Nat → Nat → Int64) (a1 : Int32) : zgo X C (some .int) kX9_plainSize 0 [some (.inr (.inr (some (.inl 9, 283)))), some (.inl a1)] [] (L, zB1, I, J) = cV (C 232 [.inr (.inr (some (.inl 9, 283))), .inl 10] (L, zB1, I, J)) (fun σ => zgo X C (some .int) kX9_plainSize 6 [some (.inr (.inr (some (.inl 9, 283)))), some (.inl a1)] [] σ) := by
  rw [zgo_run X C _ _ [0, 6, 15] 4]
  rfl
set_option maxRecDepth 100000 in
theorem bX9_plainSize_6 (X : Nat → Nat → Int32) (C : Nat → List zV → zS → Option zR) (L : List zK) (I : Nat → Nat → Int32) (J : Nat → Nat → Int64) (v1 : Int32) : zgo X C (some .int) kX9_plainSize 6 [some (.inr (.inr (some (.inl 9, 283)))), some (.inl v1)] [] (L, zB1, I, J) = cI (C 180 [.inr (.inr (some (.inr (.int, 43), 287))), .inl v1, .inl 2] (L, zB1, I, J)) (fun r σ => zgo X C (some .int) kX9_plainSize 15 [some (.inr (.inr (some (.inl 9, 283)))), some (.inl v1)] [.inl r] σ) := by
  rw [zgo_run X C _ _ [0, 6, 15] 6]
  rfl
set_option maxRecDepth 100000 in
theorem bX9_plainSize_15 (X : Nat → Nat → Int32) (C : Nat → List zV → zS → Option zR) (L : List zK) (I : Nat → Nat → Int32) (J : Nat → Nat → Int64) (v1 : Int32) (s0 : Int32) : zgo X C (some .int) kX9_plainSize 15 [some (.inr (.inr (some (.inl 9, 283)))), some (.inl v1)] [.inl s0] (L, zB1, I, J) = some (some (.inl s0), (L, zB1, I, J)) := by
  rw [zgo_run X C _ _ [0, 6, 15] 2]
  rfl

set_option maxRecDepth 100000 in
theorem bX9_wrongedSize_0 (X : Nat → Nat → Int32) (C : Nat → List zV → zS → Option zR) (L : List zK) (I : Nat → Nat → Int32) (J : Nat → Nat → Int64) (a1 : Int32) : zgo X C (some .int) kX9_wrongedSize 0 [some (.inr (.inr (some (.inl 9, 283)))), some (.inl a1), none, none] [] (L, zB1, I, J) = cI (C 180 [.inr (.inr (some (.inr (.int, 43), 287))), .inl a1, .inl 0] (L, zB1, I, J)) (fun r σ => zgo X C (some .int) kX9_wrongedSize 9 [some (.inr (.inr (some (.inl 9, 283)))), some (.inl a1), none, none] [.inl r] σ) := by
  rw [zgo_run X C _ _ [0, 9, 18, 29, 35, 40] 6]
  rfl
set_option maxRecDepth 100000 in
theorem bX9_wrongedSize_9 (X : Nat → Nat → Int32) (C : Nat → List zV → zS → Option zR) (L : List zK) (I : Nat → Nat → Int32) (J : Nat → Nat → Int64) (v1 : Int32) (s0 : Int32) : zgo X C (some .int) kX9_wrongedSize 9 [some (.inr (.inr (some (.inl 9, 283)))), some (.inl v1), none, none] [.inl s0] (L, zB1, I, J) = if s0 = 5 then zgo X C (some .int) kX9_wrongedSize 18 [some (.inr (.inr (some (.inl 9, 283)))), some (.inl v1), none, none] [.inl 1] (L, zB1, I, J) else zgo X C (some .int) kX9_wrongedSize 18 [some (.inr (.inr (some (.inl 9, 283)))), some (.inl v1), none, none] [.inl 0] (L, zB1, I, J) := by
  rw [zgo_run X C _ _ [0, 9, 18, 29, 35, 40] 5]
  rfl
set_option maxRecDepth 100000 in
theorem bX9_wrongedSize_18 (X : Nat → Nat → Int32) (C : Nat → List zV → zS → Option zR) (L : List zK) (I : Nat → Nat → Int32) (J : Nat → Nat → Int64) (v1 : Int32) (s0 : Int32) : zgo X C (some .int) kX9_wrongedSize 18 [some (.inr (.inr (some (.inl 9, 283)))), some (.inl v1), none, none] [.inl s0] (L, zB1, I, J) = if s0 = 0 then zgo X C (some .int) kX9_wrongedSize 29 [some (.inr (.inr (some (.inl 9, 283)))), some (.inl v1), some (.inl s0), none] [] (L, zB1, I, J) else cV (C 232 [.inr (.inr (some (.inl 9, 283))), .inl 14] (L, zB1, I, J)) (fun σ => zgo X C (some .int) kX9_wrongedSize 29 [some (.inr (.inr (some (.inl 9, 283)))), some (.inl v1), some (.inl s0), none] [] σ) := by
  rw [zgo_run X C _ _ [0, 9, 18, 29, 35, 40] 7]
  rfl
set_option maxRecDepth 100000 in
theorem bX9_wrongedSize_29 (X : Nat → Nat → Int32) (C : Nat → List zV → zS → Option zR) (L : List zK) (I : Nat → Nat → Int32) (J : Nat → Nat → Int64) (v1 : Int32) (v2 : Int32) : zgo X C (some .int) kX9_wrongedSize 29 [some (.inr (.inr (some (.inl 9, 283)))), some (.inl v1), some (.inl v2), none] [] (L, zB1, I, J) = cV (C 232 [.inr (.inr (some (.inl 9, 283))), .inl 13] (L, zB1, I, J)) (fun σ => zgo X C (some .int) kX9_wrongedSize 35 [some (.inr (.inr (some (.inl 9, 283)))), some (.inl v1), some (.inl v2), none] [] σ) := by
  rw [zgo_run X C _ _ [0, 9, 18, 29, 35, 40] 4]
  rfl
set_option maxRecDepth 100000 in
theorem bX9_wrongedSize_35 (X : Nat → Nat → Int32) (C : Nat → List zV → zS → Option zR) (L : List zK) (I : Nat → Nat → Int32) (J : Nat → Nat → Int64) (v1 : Int32) (v2 : Int32) : zgo X C (some .int) kX9_wrongedSize 35 [some (.inr (.inr (some (.inl 9, 283)))), some (.inl v1), some (.inl v2), none] [] (L, zB1, I, J) = cI (C 233 [.inr (.inr (some (.inl 9, 283))), .inl v1] (L, zB1, I, J)) (fun r σ => zgo X C (some .int) kX9_wrongedSize 40 [some (.inr (.inr (some (.inl 9, 283)))), some (.inl v1), some (.inl v2), none] [.inl r] σ) := by
  rw [zgo_run X C _ _ [0, 9, 18, 29, 35, 40] 4]
  rfl
set_option maxRecDepth 100000 in
theorem bX9_wrongedSize_40 (X : Nat → Nat → Int32) (C : Nat → List zV → zS → Option zR) (L : List zK) (I : Nat → Nat → Int32) (J : Nat → Nat → Int64) (v1 : Int32) (v2 : Int32) (s0 : Int32) : zgo X C (some .int) kX9_wrongedSize 40 [some (.inr (.inr (some (.inl 9, 283)))), some (.inl v1), some (.inl v2), none] [.inl s0] (L, zB1, I, J) = if v2 = 0 then some (some (.inl (s0 - 100)), (L, zB1, I, J)) else some (some (.inl (2 * (s0 - 100))), (L, zB1, I, J)) := by
  rw [zgo_run X C _ _ [0, 9, 18, 29, 35, 40] 11]
  rfl

set_option maxRecDepth 100000 in
theorem bX9_markOf_0 (X : Nat → Nat → Int32) (C : Nat → List zV → zS → Option zR) (L : List zK) (I : Nat → Nat → Int32) (J : Nat → Nat → Int64) (a1 : Int32) : zgo X C (some .int) kX9_markOf 0 [some (.inr (.inr (some (.inl 9, 283)))), some (.inl a1), none, none] [] (L, zB1, I, J) = cI (C 180 [.inr (.inr (some (.inr (.int, 43), 287))), .inl a1, .inl 0] (L, zB1, I, J)) (fun r σ => zgo X C (some .int) kX9_markOf 9 [some (.inr (.inr (some (.inl 9, 283)))), some (.inl a1), none, none] [.inl r] σ) := by
  rw [zgo_run X C _ _ [0, 9, 21, 27, 33, 56, 62, 68, 78] 6]
  rfl
set_option maxRecDepth 100000 in
theorem bX9_markOf_9 (X : Nat → Nat → Int32) (C : Nat → List zV → zS → Option zR) (L : List zK) (I : Nat → Nat → Int32) (J : Nat → Nat → Int64) (v1 : Int32) (s0 : Int32) : zgo X C (some .int) kX9_markOf 9 [some (.inr (.inr (some (.inl 9, 283)))), some (.inl v1), none, none] [.inl s0] (L, zB1, I, J) = if s0 < 4 then if s0 = 1 then zgo X C (some .int) kX9_markOf 56 [some (.inr (.inr (some (.inl 9, 283)))), some (.inl v1), some (.inl s0), none] [] (L, zB1, I, J) else if s0 = 3 then cV (C 232 [.inr (.inr (some (.inl 9, 283))), .inl 22] (L, zB1, I, J)) (fun σ => zgo X C (some .int) kX9_markOf 56 [some (.inr (.inr (some (.inl 9, 283)))), some (.inl v1), some (.inl s0), none] [] σ) else cV (C 232 [.inr (.inr (some (.inl 9, 283))), .inl 24] (L, zB1, I, J)) (fun σ => zgo X C (some .int) kX9_markOf 56 [some (.inr (.inr (some (.inl 9, 283)))), some (.inl v1), some (.inl s0), none] [] σ) else cV (C 232 [.inr (.inr (some (.inl 9, 283))), .inl 23] (L, zB1, I, J)) (fun σ => zgo X C (some .int) kX9_markOf 21 [some (.inr (.inr (some (.inl 9, 283)))), some (.inl v1), some (.inl s0), none] [] σ) := by
  rw [zgo_run X C _ _ [0, 9, 21, 27, 33, 56, 62, 68, 78] 15]
  rfl
set_option maxRecDepth 100000 in
theorem bX9_markOf_21 (X : Nat → Nat → Int32) (C : Nat → List zV → zS → Option zR) (L : List zK) (I : Nat → Nat → Int32) (J : Nat → Nat → Int64) (v1 : Int32) (v2 : Int32) : zgo X C (some .int) kX9_markOf 21 [some (.inr (.inr (some (.inl 9, 283)))), some (.inl v1), some (.inl v2), none] [] (L, zB1, I, J) = cV (C 232 [.inr (.inr (some (.inl 9, 283))), .inl 20] (L, zB1, I, J)) (fun σ => zgo X C (some .int) kX9_markOf 27 [some (.inr (.inr (some (.inl 9, 283)))), some (.inl v1), some (.inl v2), none] [] σ) := by
  rw [zgo_run X C _ _ [0, 9, 21, 27, 33, 56, 62, 68, 78] 4]
  rfl
set_option maxRecDepth 100000 in
theorem bX9_markOf_27 (X : Nat → Nat → Int32) (C : Nat → List zV → zS → Option zR) (L : List zK) (I : Nat → Nat → Int32) (J : Nat → Nat → Int64) (v1 : Int32) (v2 : Int32) : zgo X C (some .int) kX9_markOf 27 [some (.inr (.inr (some (.inl 9, 283)))), some (.inl v1), some (.inl v2), none] [] (L, zB1, I, J) = cI (C 234 [.inr (.inr (some (.inl 9, 283))), .inl v1] (L, zB1, I, J)) (fun r σ => zgo X C (some .int) kX9_markOf 33 [some (.inr (.inr (some (.inl 9, 283)))), some (.inl v1), some (.inl v2), none] [.inl r, .inl v1] σ) := by
  rw [zgo_run X C _ _ [0, 9, 21, 27, 33, 56, 62, 68, 78] 5]
  rfl
set_option maxRecDepth 100000 in
theorem bX9_markOf_33 (X : Nat → Nat → Int32) (C : Nat → List zV → zS → Option zR) (L : List zK) (I : Nat → Nat → Int32) (J : Nat → Nat → Int64) (v1 : Int32) (v2 : Int32) (s0 : Int32) (s1 : Int32) : zgo X C (some .int) kX9_markOf 33 [some (.inr (.inr (some (.inl 9, 283)))), some (.inl v1), some (.inl v2), none] [.inl s0, .inl s1] (L, zB1, I, J) = some (some (.inl (s1 - s0)), (L, zB1, I, J)) := by
  rw [zgo_run X C _ _ [0, 9, 21, 27, 33, 56, 62, 68, 78] 3]
  rfl
set_option maxRecDepth 100000 in
theorem bX9_markOf_56 (X : Nat → Nat → Int32) (C : Nat → List zV → zS → Option zR) (L : List zK) (I : Nat → Nat → Int32) (J : Nat → Nat → Int64) (v1 : Int32) (v2 : Int32) : zgo X C (some .int) kX9_markOf 56 [some (.inr (.inr (some (.inl 9, 283)))), some (.inl v1), some (.inl v2), none] [] (L, zB1, I, J) = cV (C 232 [.inr (.inr (some (.inl 9, 283))), .inl 21] (L, zB1, I, J)) (fun σ => zgo X C (some .int) kX9_markOf 62 [some (.inr (.inr (some (.inl 9, 283)))), some (.inl v1), some (.inl v2), none] [] σ) := by
  rw [zgo_run X C _ _ [0, 9, 21, 27, 33, 56, 62, 68, 78] 4]
  rfl
set_option maxRecDepth 100000 in
theorem bX9_markOf_62 (X : Nat → Nat → Int32) (C : Nat → List zV → zS → Option zR) (L : List zK) (I : Nat → Nat → Int32) (J : Nat → Nat → Int64) (v1 : Int32) (v2 : Int32) : zgo X C (some .int) kX9_markOf 62 [some (.inr (.inr (some (.inl 9, 283)))), some (.inl v1), some (.inl v2), none] [] (L, zB1, I, J) = cV (C 232 [.inr (.inr (some (.inl 9, 283))), .inl 20] (L, zB1, I, J)) (fun σ => zgo X C (some .int) kX9_markOf 68 [some (.inr (.inr (some (.inl 9, 283)))), some (.inl v1), some (.inl v2), none] [] σ) := by
  rw [zgo_run X C _ _ [0, 9, 21, 27, 33, 56, 62, 68, 78] 4]
  rfl
set_option maxRecDepth 100000 in
theorem bX9_markOf_68 (X : Nat → Nat → Int32) (C : Nat → List zV → zS → Option zR) (L : List zK) (I : Nat → Nat → Int32) (J : Nat → Nat → Int64) (v1 : Int32) (v2 : Int32) : zgo X C (some .int) kX9_markOf 68 [some (.inr (.inr (some (.inl 9, 283)))), some (.inl v1), some (.inl v2), none] [] (L, zB1, I, J) = cI (C 180 [.inr (.inr (some (.inr (.int, 43), 287))), .inl v1, .inl 4] (L, zB1, I, J)) (fun r σ => zgo X C (some .int) kX9_markOf 78 [some (.inr (.inr (some (.inl 9, 283)))), some (.inl v1), some (.inl v2), none] [.inl r, .inl v1] σ) := by
  rw [zgo_run X C _ _ [0, 9, 21, 27, 33, 56, 62, 68, 78] 7]
  rfl
set_option maxRecDepth 100000 in
theorem bX9_markOf_78 (X : Nat → Nat → Int32) (C : Nat → List zV → zS → Option zR) (L : List zK) (I : Nat → Nat → Int32) (J : Nat → Nat → Int64) (v1 : Int32) (v2 : Int32) (s0 : Int32) (s1 : Int32) : zgo X C (some .int) kX9_markOf 78 [some (.inr (.inr (some (.inl 9, 283)))), some (.inl v1), some (.inl v2), none] [.inl s0, .inl s1] (L, zB1, I, J) = if v2 = 1 then some (some (.inl (s1 + s0)), (L, zB1, I, J)) else if v2 = 3 then some (some (.inl ((s1 + s0) - 1000)), (L, zB1, I, J)) else some (some (.inl (2 * (s1 + s0))), (L, zB1, I, J)) := by
  rw [zgo_run X C _ _ [0, 9, 21, 27, 33, 56, 62, 68, 78] 14]
  rfl

set_option maxRecDepth 100000 in
theorem bX9_sizeOf_0 (X : Nat → Nat → Int32) (C : Nat → List zV → zS → Option zR) (L : List zK) (I : Nat → Nat → Int32) (J : Nat → Nat → Int64) (a1 : Int32) : zgo X C (some .int) kX9_sizeOf 0 [some (.inr (.inr (some (.inl 9, 283)))), some (.inl a1), none, none] [] (L, zB1, I, J) = cI (C 180 [.inr (.inr (some (.inr (.int, 43), 287))), .inl a1, .inl 0] (L, zB1, I, J)) (fun r σ => zgo X C (some .int) kX9_sizeOf 9 [some (.inr (.inr (some (.inl 9, 283)))), some (.inl a1), none, none] [.inl r] σ) := by
  rw [zgo_run X C _ _ [0, 9, 20, 32, 38, 43, 50] 6]
  rfl
set_option maxRecDepth 100000 in
theorem bX9_sizeOf_9 (X : Nat → Nat → Int32) (C : Nat → List zV → zS → Option zR) (L : List zK) (I : Nat → Nat → Int32) (J : Nat → Nat → Int64) (v1 : Int32) (s0 : Int32) : zgo X C (some .int) kX9_sizeOf 9 [some (.inr (.inr (some (.inl 9, 283)))), some (.inl v1), none, none] [.inl s0] (L, zB1, I, J) = if s0 < 4 then if s0 = 2 then cV (C 232 [.inr (.inr (some (.inl 9, 283))), .inl 12] (L, zB1, I, J)) (fun σ => zgo X C (some .int) kX9_sizeOf 32 [some (.inr (.inr (some (.inl 9, 283)))), some (.inl v1), some (.inl s0), none] [] σ) else zgo X C (some .int) kX9_sizeOf 32 [some (.inr (.inr (some (.inl 9, 283)))), some (.inl v1), some (.inl s0), none] [] (L, zB1, I, J) else cI (C 234 [.inr (.inr (some (.inl 9, 283))), .inl v1] (L, zB1, I, J)) (fun r σ => zgo X C (some .int) kX9_sizeOf 20 [some (.inr (.inr (some (.inl 9, 283)))), some (.inl v1), some (.inl s0), none] [.inl r] σ) := by
  rw [zgo_run X C _ _ [0, 9, 20, 32, 38, 43, 50] 11]
  rfl
set_option maxRecDepth 100000 in
theorem bX9_sizeOf_20 (X : Nat → Nat → Int32) (C : Nat → List zV → zS → Option zR) (L : List zK) (I : Nat → Nat → Int32) (J : Nat → Nat → Int64) (v1 : Int32) (v2 : Int32) (s0 : Int32) : zgo X C (some .int) kX9_sizeOf 20 [some (.inr (.inr (some (.inl 9, 283)))), some (.inl v1), some (.inl v2), none] [.inl s0] (L, zB1, I, J) = some (some (.inl s0), (L, zB1, I, J)) := by
  rw [zgo_run X C _ _ [0, 9, 20, 32, 38, 43, 50] 2]
  rfl
set_option maxRecDepth 100000 in
theorem bX9_sizeOf_32 (X : Nat → Nat → Int32) (C : Nat → List zV → zS → Option zR) (L : List zK) (I : Nat → Nat → Int32) (J : Nat → Nat → Int64) (v1 : Int32) (v2 : Int32) : zgo X C (some .int) kX9_sizeOf 32 [some (.inr (.inr (some (.inl 9, 283)))), some (.inl v1), some (.inl v2), none] [] (L, zB1, I, J) = cV (C 232 [.inr (.inr (some (.inl 9, 283))), .inl 11] (L, zB1, I, J)) (fun σ => zgo X C (some .int) kX9_sizeOf 38 [some (.inr (.inr (some (.inl 9, 283)))), some (.inl v1), some (.inl v2), none] [] σ) := by
  rw [zgo_run X C _ _ [0, 9, 20, 32, 38, 43, 50] 4]
  rfl
set_option maxRecDepth 100000 in
theorem bX9_sizeOf_38 (X : Nat → Nat → Int32) (C : Nat → List zV → zS → Option zR) (L : List zK) (I : Nat → Nat → Int32) (J : Nat → Nat → Int64) (v1 : Int32) (v2 : Int32) : zgo X C (some .int) kX9_sizeOf 38 [some (.inr (.inr (some (.inl 9, 283)))), some (.inl v1), some (.inl v2), none] [] (L, zB1, I, J) = cI (C 233 [.inr (.inr (some (.inl 9, 283))), .inl v1] (L, zB1, I, J)) (fun r σ => zgo X C (some .int) kX9_sizeOf 43 [some (.inr (.inr (some (.inl 9, 283)))), some (.inl v1), some (.inl v2), none] [.inl r] σ) := by
  rw [zgo_run X C _ _ [0, 9, 20, 32, 38, 43, 50] 4]
  rfl
set_option maxRecDepth 100000 in
theorem bX9_sizeOf_43 (X : Nat → Nat → Int32) (C : Nat → List zV → zS → Option zR) (L : List zK) (I : Nat → Nat → Int32) (J : Nat → Nat → Int64) (v1 : Int32) (v2 : Int32) (s0 : Int32) : zgo X C (some .int) kX9_sizeOf 43 [some (.inr (.inr (some (.inl 9, 283)))), some (.inl v1), some (.inl v2), none] [.inl s0] (L, zB1, I, J) = cI (C 235 [.inr (.inr (some (.inl 9, 283))), .inl v1] (L, zB1, I, J)) (fun r σ => zgo X C (some .int) kX9_sizeOf 50 [some (.inr (.inr (some (.inl 9, 283)))), some (.inl v1), some (.inl v2), some (.inl s0)] [.inl r, .inl s0] σ) := by
  rw [zgo_run X C _ _ [0, 9, 20, 32, 38, 43, 50] 6]
  rfl
set_option maxRecDepth 100000 in
theorem bX9_sizeOf_50 (X : Nat → Nat → Int32) (C : Nat → List zV → zS → Option zR) (L : List zK) (I : Nat → Nat → Int32) (J : Nat → Nat → Int64) (v1 : Int32) (v2 : Int32) (v3 : Int32) (s0 : Int32) (s1 : Int32) : zgo X C (some .int) kX9_sizeOf 50 [some (.inr (.inr (some (.inl 9, 283)))), some (.inl v1), some (.inl v2), some (.inl v3)] [.inl s0, .inl s1] (L, zB1, I, J) = if v2 = 2 then some (some (.inl (-(s1 + s0))), (L, zB1, I, J)) else some (some (.inl (s1 + s0)), (L, zB1, I, J)) := by
  rw [zgo_run X C _ _ [0, 9, 20, 32, 38, 43, 50] 10]
  rfl

set_option maxRecDepth 100000 in
theorem bX9_ask_0 (X : Nat → Nat → Int32) (C : Nat → List zV → zS → Option zR) (L : List zK) (I : Nat → Nat → Int32) (J : Nat → Nat → Int64) (a1 : Int32) (a2 : Int32) : zgo X C (some .int) kX9_ask 0 [some (.inr (.inr (some (.inl 9, 283)))), some (.inl a1), some (.inl a2)] [] (L, zB1, I, J) = cI (C 176 [.inr (.inr (some (.inl 9, 283))), .inl a1] (L, zB1, (zup I 283 0 0), J)) (fun r σ => zgo X C (some .int) kX9_ask 10 [some (.inr (.inr (some (.inl 9, 283)))), some (.inl a1), some (.inl a2)] [.inl r] σ) := by
  rw [zgo_run X C _ _ [0, 10, 20, 40, 48] 7]
  rfl
set_option maxRecDepth 100000 in
theorem bX9_ask_10 (X : Nat → Nat → Int32) (C : Nat → List zV → zS → Option zR) (L : List zK) (I : Nat → Nat → Int32) (J : Nat → Nat → Int64) (v1 : Int32) (v2 : Int32) (s0 : Int32) : zgo X C (some .int) kX9_ask 10 [some (.inr (.inr (some (.inl 9, 283)))), some (.inl v1), some (.inl v2)] [.inl s0] (L, zB1, I, J) = if s0 = 0 then some (some (.inl (-1000001)), (L, zB1, I, J)) else cI (C 153 [.inr (.inl ((v2).toInt64)), .inr (.inl 0), .inr (.inl 1)] (L, zB1, I, J)) (fun r σ => zgo X C (some .int) kX9_ask 20 [some (.inr (.inr (some (.inl 9, 283)))), some (.inl v1), some (.inl v2)] [.inl r] σ) := by
  rw [zgo_run X C _ _ [0, 10, 20, 40, 48] 7]
  rfl
set_option maxRecDepth 100000 in
theorem bX9_ask_20 (X : Nat → Nat → Int32) (C : Nat → List zV → zS → Option zR) (L : List zK) (I : Nat → Nat → Int32) (J : Nat → Nat → Int64) (v1 : Int32) (v2 : Int32) (s0 : Int32) : zgo X C (some .int) kX9_ask 20 [some (.inr (.inr (some (.inl 9, 283)))), some (.inl v1), some (.inl v2)] [.inl s0] (L, zB1, I, J) = if s0 = 0 then some (some (.inl (-1000001)), (L, zB1, I, J)) else if v2 = 0 then cI (C 236 [.inr (.inr (some (.inl 9, 283))), .inl v1] (L, zB1, (zup I 283 25 0), J)) (fun r σ => zgo X C (some .int) kX9_ask 40 [some (.inr (.inr (some (.inl 9, 283)))), some (.inl v1), some (.inl v2)] [.inl r] σ) else cI (C 235 [.inr (.inr (some (.inl 9, 283))), .inl v1] (L, zB1, (zup I 283 25 0), J)) (fun r σ => zgo X C (some .int) kX9_ask 48 [some (.inr (.inr (some (.inl 9, 283)))), some (.inl v1), some (.inl v2)] [.inl r] σ) := by
  rw [zgo_run X C _ _ [0, 10, 20, 40, 48] 10]
  rfl
set_option maxRecDepth 100000 in
theorem bX9_ask_40 (X : Nat → Nat → Int32) (C : Nat → List zV → zS → Option zR) (L : List zK) (I : Nat → Nat → Int32) (J : Nat → Nat → Int64) (v1 : Int32) (v2 : Int32) (s0 : Int32) : zgo X C (some .int) kX9_ask 40 [some (.inr (.inr (some (.inl 9, 283)))), some (.inl v1), some (.inl v2)] [.inl s0] (L, zB1, I, J) = zgo X C (some .int) kX9_ask 48 [some (.inr (.inr (some (.inl 9, 283)))), some (.inl v1), some (.inl v2)] [.inl s0] (L, zB1, I, J) := by
  rw [zgo_run X C _ _ [0, 10, 20, 40, 48] 2]
  rfl
set_option maxRecDepth 100000 in
theorem bX9_ask_48 (X : Nat → Nat → Int32) (C : Nat → List zV → zS → Option zR) (L : List zK) (I : Nat → Nat → Int32) (J : Nat → Nat → Int64) (v1 : Int32) (v2 : Int32) (s0 : Int32) : zgo X C (some .int) kX9_ask 48 [some (.inr (.inr (some (.inl 9, 283)))), some (.inl v1), some (.inl v2)] [.inl s0] (L, zB1, I, J) = some (some (.inl s0), (L, zB1, I, J)) := by
  rw [zgo_run X C _ _ [0, 10, 20, 40, 48] 2]
  rfl

set_option maxRecDepth 100000 in
theorem bX9_trace_0 (X : Nat → Nat → Int32) (C : Nat → List zV → zS → Option zR) (L : List zK) (I : Nat → Nat → Int32) (J : Nat → Nat → Int64) (a1 : Int32) : zgo X C (some .int) kX9_trace 0 [some (.inr (.inr (some (.inl 9, 283)))), some (.inl a1)] [] (L, zB1, I, J) = cI (C 153 [.inr (.inl ((a1).toInt64)), .inr (.inl 0), .inr (.inl (((((zup I 283 0 0) 283 25) - 1)).toInt64))] (L, zB1, (zup I 283 0 0), J)) (fun r σ => zgo X C (some .int) kX9_trace 18 [some (.inr (.inr (some (.inl 9, 283)))), some (.inl a1)] [.inl r] σ) := by
  rw [zgo_run X C _ _ [0, 18] 13]
  rfl
set_option maxRecDepth 100000 in
theorem bX9_trace_18 (X : Nat → Nat → Int32) (C : Nat → List zV → zS → Option zR) (L : List zK) (I : Nat → Nat → Int32) (J : Nat → Nat → Int64) (v1 : Int32) (s0 : Int32) : zgo X C (some .int) kX9_trace 18 [some (.inr (.inr (some (.inl 9, 283)))), some (.inl v1)] [.inl s0] (L, zB1, I, J) = if s0 = 0 then some (some (.inl (-1000000)), (L, zB1, I, J)) else zbt (zin v1 16) (some (some (.inl (I 297 v1.toNatClampNeg)), (L, zB1, I, J))) := by
  rw [zgo_run X C _ _ [0, 18] 8]
  rfl

set_option maxRecDepth 100000 in
theorem bX9_count_0 (X : Nat → Nat → Int32) (C : Nat → List zV → zS → Option zR) (L : List zK) (I : Nat → Nat → Int32) (J : Nat → Nat → Int64) (a1 : Int32) : zgo X C (some .int) kX9_count 0 [some (.inr (.inr (some (.inl 9, 283)))), some (.inl a1), none, none] [] (L, zB1, I, J) = if a1 = 0 then zgo X C (some .int) kX9_count 58 [some (.inr (.inr (some (.inl 9, 283)))), some (.inl a1), some (.inl 0), some (.inl 0)] [] (L, zB1, (zup I 283 0 0), J) else if a1 = 1 then zbt (zin 0 43) (some (some (.inl ((zup I 283 0 0) 287 (0 : Int32).toNatClampNeg)), (L, zB1, (zup I 283 0 0), J))) else if a1 = 2 then zbt (zin 1 43) (some (some (.inl ((zup I 283 0 0) 287 (1 : Int32).toNatClampNeg)), (L, zB1, (zup I 283 0 0), J))) else if a1 = 3 then zbt (zin 4 43) (some (some (.inl ((zup I 283 0 0) 287 (4 : Int32).toNatClampNeg)), (L, zB1, (zup I 283 0 0), J))) else if a1 = 4 then cI (C 189 [.inr (.inr (some (.inr (.int, 43), 287))), .inl (-1000000)] (L, zB1, (zup I 283 0 0), J)) (fun r σ => zgo X C (some .int) kX9_count 119 [some (.inr (.inr (some (.inl 9, 283)))), some (.inl a1), some (.inl 0), none] [.inl r] σ) else if a1 = 5 then cI (C 184 [.inr (.inr (some (.inr (.int, 43), 287))), .inl 0] (L, zB1, (zup I 283 0 0), J)) (fun r σ => zgo X C (some .int) kX9_count 128 [some (.inr (.inr (some (.inl 9, 283)))), some (.inl a1), some (.inl 0), none] [.inl r] σ) else if a1 = 6 then some (some (.inl ((zup I 283 0 0) 283 9)), (L, zB1, (zup I 283 0 0), J)) else if a1 = 7 then some (some (.inl ((zup I 283 0 0) 283 11)), (L, zB1, (zup I 283 0 0), J)) else some (some (.inl (-1000001)), (L, zB1, (zup I 283 0 0), J)) := by
  rw [zgo_run X C _ _ [0, 58, 79, 119, 128, 131] 13]
  rfl
set_option maxRecDepth 100000 in
theorem bX9_count_58 (X : Nat → Nat → Int32) (C : Nat → List zV → zS → Option zR) (L : List zK) (I : Nat → Nat → Int32) (J : Nat → Nat → Int64) (v1 : Int32) (v2 : Int32) (v3 : Int32) : zgo X C (some .int) kX9_count 58 [some (.inr (.inr (some (.inl 9, 283)))), some (.inl v1), some (.inl v2), some (.inl v3)] [] (L, zB1, I, J) = if (8 : Int32) ≤ v3 then some (some (.inl v2), (L, zB1, I, J)) else zbt (zin v3 8) (if (I 284 v3.toNatClampNeg) < 0 then zgo X C (some .int) kX9_count 79 [some (.inr (.inr (some (.inl 9, 283)))), some (.inl v1), some (.inl v2), some (.inl v3)] [.inl 0, .inl v2] (L, zB1, I, J) else zgo X C (some .int) kX9_count 79 [some (.inr (.inr (some (.inl 9, 283)))), some (.inl v1), some (.inl v2), some (.inl v3)] [.inl 1, .inl v2] (L, zB1, I, J)) := by
  rw [zgo_run X C _ _ [0, 58, 79, 119, 128, 131] 12]
  rfl
set_option maxRecDepth 100000 in
theorem bX9_count_79 (X : Nat → Nat → Int32) (C : Nat → List zV → zS → Option zR) (L : List zK) (I : Nat → Nat → Int32) (J : Nat → Nat → Int64) (v1 : Int32) (v2 : Int32) (v3 : Int32) (s0 : Int32) (s1 : Int32) : zgo X C (some .int) kX9_count 79 [some (.inr (.inr (some (.inl 9, 283)))), some (.inl v1), some (.inl v2), some (.inl v3)] [.inl s0, .inl s1] (L, zB1, I, J) = zgo X C (some .int) kX9_count 58 [some (.inr (.inr (some (.inl 9, 283)))), some (.inl v1), some (.inl (s1 + s0)), some (.inl (v3 + 1))] [] (L, zB1, I, J) := by
  rw [zgo_run X C _ _ [0, 58, 79, 119, 128, 131] 5]
  rfl
set_option maxRecDepth 100000 in
theorem bX9_count_119 (X : Nat → Nat → Int32) (C : Nat → List zV → zS → Option zR) (L : List zK) (I : Nat → Nat → Int32) (J : Nat → Nat → Int64) (v1 : Int32) (v2 : Int32) (s0 : Int32) : zgo X C (some .int) kX9_count 119 [some (.inr (.inr (some (.inl 9, 283)))), some (.inl v1), some (.inl v2), none] [.inl s0] (L, zB1, I, J) = some (some (.inl s0), (L, zB1, I, J)) := by
  rw [zgo_run X C _ _ [0, 58, 79, 119, 128, 131] 2]
  rfl
set_option maxRecDepth 100000 in
theorem bX9_count_128 (X : Nat → Nat → Int32) (C : Nat → List zV → zS → Option zR) (L : List zK) (I : Nat → Nat → Int32) (J : Nat → Nat → Int64) (v1 : Int32) (v2 : Int32) (s0 : Int32) : zgo X C (some .int) kX9_count 128 [some (.inr (.inr (some (.inl 9, 283)))), some (.inl v1), some (.inl v2), none] [.inl s0] (L, zB1, I, J) = cI (C 178 [.inl s0] (L, zB1, I, J)) (fun r σ => zgo X C (some .int) kX9_count 131 [some (.inr (.inr (some (.inl 9, 283)))), some (.inl v1), some (.inl v2), none] [.inl r] σ) := by
  rw [zgo_run X C _ _ [0, 58, 79, 119, 128, 131] 2]
  rfl
set_option maxRecDepth 100000 in
theorem bX9_count_131 (X : Nat → Nat → Int32) (C : Nat → List zV → zS → Option zR) (L : List zK) (I : Nat → Nat → Int32) (J : Nat → Nat → Int64) (v1 : Int32) (v2 : Int32) (s0 : Int32) : zgo X C (some .int) kX9_count 131 [some (.inr (.inr (some (.inl 9, 283)))), some (.inl v1), some (.inl v2), none] [.inl s0] (L, zB1, I, J) = some (some (.inl s0), (L, zB1, I, J)) := by
  rw [zgo_run X C _ _ [0, 58, 79, 119, 128, 131] 2]
  rfl

set_option maxRecDepth 100000 in
theorem bX9_status_0 (X : Nat → Nat → Int32) (C : Nat → List zV → zS → Option zR) (L : List zK) (I : Nat → Nat → Int32) (J : Nat → Nat → Int64) : zgo X C (some .int) kX9_status 0 [some (.inr (.inr (some (.inl 9, 283))))] [] (L, zB1, I, J) = some (some (.inl ((zup I 283 0 0) 283 1)), (L, zB1, (zup I 283 0 0), J)) := by
  rw [zgo_run X C _ _ [0] 7]
  rfl
