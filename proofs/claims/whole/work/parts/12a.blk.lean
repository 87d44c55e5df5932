def zbt (b : Bool) (f : Option zR) : Option zR := match b with
  | true => f
  | false => none
theorem zcopy_eq (k : zk) (pc : Nat) (ls : zL) (n sp dp : Int32) (k0 k1 n0 n1 : Nat) (L : List zK) (I : Nat → Nat → Int32) (J : Nat → Nat → Int64) : zcopy k pc ls [.inl n, .inl dp, .inr (.inr (some (.inr (.int, n1), k1))), .inl sp, .inr (.inr (some (.inr (.int, n0), k0)))] (L, zB1, I, J) = zbt (decide (0 ≤ n.toInt) && (decide (0 ≤ sp.toInt) && (decide (0 ≤ dp.toInt) && (decide (sp.toInt + n.toInt ≤ (n0 : Int)) && decide (dp.toInt + n.toInt ≤ (n1 : Int)))))) (k (pc + 3) ls [] (L, zB1, zur I k1 (va_cpy (I k0) (I k1) sp.toNatClampNeg dp.toNatClampNeg n.toNatClampNeg), J)) := by
  unfold zcopy
  show (match (decide (0 ≤ n.toInt) && (decide (0 ≤ sp.toInt) && (decide (0 ≤ dp.toInt) && (decide (sp.toInt + n.toInt ≤ (n0 : Int)) && decide (dp.toInt + n.toInt ≤ (n1 : Int)))))) with
      | false => none
      | true => k (pc + 3) ls [] (L, zB1, zur I k1 (va_cpy (I k0) (I k1) sp.toNatClampNeg dp.toNatClampNeg n.toNatClampNeg), J)) = _
  generalize (decide (0 ≤ n.toInt) && (decide (0 ≤ sp.toInt) && (decide (0 ≤ dp.toInt) && (decide (sp.toInt + n.toInt ≤ (n0 : Int)) && decide (dp.toInt + n.toInt ≤ (n1 : Int)))))) = b
  cases b <;> rfl
set_option maxRecDepth 100000 in
theorem bJ6_bitCount_0f7a4_0 (X : Nat → Nat → Int32) (C : Nat → List zV → zS → Option zR) (L : List zK) (I : Nat → Nat → Int32) (J : Nat → Nat → Int64) (a1 : Int32) : zgo X C (some .int) kJ6_bitCount_0f7a4 0 [some (.inl a1)] [] (L, zB1, I, J) = some (some (.inl ((((((((a1 - ((a1.toUInt32 >>> ((1 : Int32).toUInt32 &&& Int32.toUInt32 31)).toInt32 &&& 1431655765)) &&& 858993459) + (((a1 - ((a1.toUInt32 >>> ((1 : Int32).toUInt32 &&& Int32.toUInt32 31)).toInt32 &&& 1431655765)).toUInt32 >>> ((2 : Int32).toUInt32 &&& Int32.toUInt32 31)).toInt32 &&& 858993459)) + ((((a1 - ((a1.toUInt32 >>> ((1 : Int32).toUInt32 &&& Int32.toUInt32 31)).toInt32 &&& 1431655765)) &&& 858993459) + (((a1 - ((a1.toUInt32 >>> ((1 : Int32).toUInt32 &&& Int32.toUInt32 31)).toInt32 &&& 1431655765)).toUInt32 >>> ((2 : Int32).toUInt32 &&& Int32.toUInt32 31)).toInt32 &&& 858993459)).toUInt32 >>> ((4 : Int32).toUInt32 &&& Int32.toUInt32 31)).toInt32) &&& 252645135) + ((((((a1 - ((a1.toUInt32 >>> ((1 : Int32).toUInt32 &&& Int32.toUInt32 31)).toInt32 &&& 1431655765)) &&& 858993459) + (((a1 - ((a1.toUInt32 >>> ((1 : Int32).toUInt32 &&& Int32.toUInt32 31)).toInt32 &&& 1431655765)).toUInt32 >>> ((2 : Int32).toUInt32 &&& Int32.toUInt32 31)).toInt32 &&& 858993459)) + ((((a1 - ((a1.toUInt32 >>> ((1 : Int32).toUInt32 &&& Int32.toUInt32 31)).toInt32 &&& 1431655765)) &&& 858993459) + (((a1 - ((a1.toUInt32 >>> ((1 : Int32).toUInt32 &&& Int32.toUInt32 31)).toInt32 &&& 1431655765)).toUInt32 >>> ((2 : Int32).toUInt32 &&& Int32.toUInt32 31)).toInt32 &&& 858993459)).toUInt32 >>> ((4 : Int32).toUInt32 &&& Int32.toUInt32 31)).toInt32) &&& 252645135).toUInt32 >>> ((8 : Int32).toUInt32 &&& Int32.toUInt32 31)).toInt32) + (((((((a1 - ((a1.toUInt32 >>> ((1 : Int32).toUInt32 &&& Int32.toUInt32 31)).toInt32 &&& 1431655765)) &&& 858993459) + (((a1 - ((a1.toUInt32 >>> ((1 : Int32).toUInt32 &&& Int32.toUInt32 31)).toInt32 &&& 1431655765)).toUInt32 >>> ((2 : Int32).toUInt32 &&& Int32.toUInt32 31)).toInt32 &&& 858993459)) + ((((a1 - ((a1.toUInt32 >>> ((1 : Int32).toUInt32 &&& Int32.toUInt32 31)).toInt32 &&& 1431655765)) &&& 858993459) + (((a1 - ((a1.toUInt32 >>> ((1 : Int32).toUInt32 &&& Int32.toUInt32 31)).toInt32 &&& 1431655765)).toUInt32 >>> ((2 : Int32).toUInt32 &&& Int32.toUInt32 31)).toInt32 &&& 858993459)).toUInt32 >>> ((4 : Int32).toUInt32 &&& Int32.toUInt32 31)).toInt32) &&& 252645135) + ((((((a1 - ((a1.toUInt32 >>> ((1 : Int32).toUInt32 &&& Int32.toUInt32 31)).toInt32 &&& 1431655765)) &&& 858993459) + (((a1 - ((a1.toUInt32 >>> ((1 : Int32).toUInt32 &&& Int32.toUInt32 31)).toInt32 &&& 1431655765)).toUInt32 >>> ((2 : Int32).toUInt32 &&& Int32.toUInt32 31)).toInt32 &&& 858993459)) + ((((a1 - ((a1.toUInt32 >>> ((1 : Int32).toUInt32 &&& Int32.toUInt32 31)).toInt32 &&& 1431655765)) &&& 858993459) + (((a1 - ((a1.toUInt32 >>> ((1 : Int32).toUInt32 &&& Int32.toUInt32 31)).toInt32 &&& 1431655765)).toUInt32 >>> ((2 : Int32).toUInt32 &&& Int32.toUInt32 31)).toInt32 &&& 858993459)).toUInt32 >>> ((4 : Int32).toUInt32 &&& Int32.toUInt32 31)).toInt32) &&& 252645135).toUInt32 >>> ((8 : Int32).toUInt32 &&& Int32.toUInt32 31)).toInt32).toUInt32 >>> ((16 : Int32).toUInt32 &&& Int32.toUInt32 31)).toInt32) &&& 63)), (L, zB1, I, J)) := by
  rw [zgo_run X C _ _ [0] 43]
  rfl

set_option maxRecDepth 100000 in
theorem bJ9_floorMod_7cf53_0 (X : Nat → Nat → Int32) (C : Nat → List zV → zS → Option zR) (L : List zK) (I : Nat → Nat → Int32) (J : Nat → Nat → Int64) (a1 : Int32) (a2 : Int32) : zgo X C (some .int) kJ9_floorMod_7cf53 0 [some (.inl a1), some (.inl a2), none] [] (L, zB1, I, J) = if a2 = 0 then none else if 0 ≤ (a1 ^^^ a2) then some (some (.inl (a1 - a1 / a2 * a2)), (L, zB1, I, J)) else if (a1 - a1 / a2 * a2) = 0 then some (some (.inl (a1 - a1 / a2 * a2)), (L, zB1, I, J)) else some (some (.inl ((a1 - a1 / a2 * a2) + a2)), (L, zB1, I, J)) := by
  rw [zgo_run X C _ _ [0] 15]
  rfl

set_option maxRecDepth 100000 in
theorem bJ9_max_7cf53_0 (X : Nat → Nat → Int32) (C : Nat → List zV → zS → Option zR) (L : List zK) (I : Nat → Nat → Int32) (J : Nat → Nat → Int64) (a1 : Int32) (a2 : Int32) : zgo X C (some .int) kJ9_max_7cf53 0 [some (.inl a1), some (.inl a2)] [] (L, zB1, I, J) = if a1 < a2 then some (some (.inl a2), (L, zB1, I, J)) else some (some (.inl a1), (L, zB1, I, J)) := by
  rw [zgo_run X C _ _ [0] 7]
  rfl

set_option maxRecDepth 100000 in
theorem bJ9_min_7cf53_0 (X : Nat → Nat → Int32) (C : Nat → List zV → zS → Option zR) (L : List zK) (I : Nat → Nat → Int32) (J : Nat → Nat → Int64) (a1 : Int32) (a2 : Int32) : zgo X C (some .int) kJ9_min_7cf53 0 [some (.inl a1), some (.inl a2)] [] (L, zB1, I, J) = if a2 < a1 then some (some (.inl a2), (L, zB1, I, J)) else some (some (.inl a1), (L, zB1, I, J)) := by
  rw [zgo_run X C _ _ [0] 7]
  rfl

set_option maxRecDepth 100000 in
theorem bX0_askAnew_0 (X : Nat → Nat → Int32) (C : Nat → List zV → zS → Option zR) (L : List zK) (I : Nat → Nat → Int32) (J : Nat → Nat → Int64) (b2 : Nat) (a2 : Int32) (a3 : Int32) : zgo X C (some .int) kX0_askAnew 0 [some (.inr (.inr (some (.inl 0, 264)))), some (.inr (.inr (some (.inl 1, b2)))), some (.inl a2), some (.inl a3)] [] (L, zB1, I, J) = cI (C 16 [.inr (.inr (some (.inl 1, b2))), .inl a2] (L, zB1, I, J)) (fun r σ => zgo X C (some .int) kX0_askAnew 5 [some (.inr (.inr (some (.inl 0, 264)))), some (.inr (.inr (some (.inl 1, b2)))), some (.inl a2), some (.inl a3)] [.inl r] σ) := by
  rw [zgo_run X C _ _ [0, 5, 56] 4]
  rfl
set_option maxRecDepth 100000 in
theorem bX0_askAnew_5 (X : Nat → Nat → Int32) (C : Nat → List zV → zS → Option zR) (L : List zK) (I : Nat → Nat → Int32) (J : Nat → Nat → Int64) (qv1 : Nat) (v2 : Int32) (v3 : Int32) (s0 : Int32) : zgo X C (some .int) kX0_askAnew 5 [some (.inr (.inr (some (.inl 0, 264)))), some (.inr (.inr (some (.inl 1, qv1)))), some (.inl v2), some (.inl v3)] [.inl s0] (L, zB1, I, J) = if s0 = 0 then some (some (.inl 0), (L, zB1, I, J)) else zbt (zin v2 6) (zbt (zin v2 6) (zbt (zin v2 6) (cI (C 7 [.inr (.inr (some (.inl 0, 264))), .inl v3, .inl 0] (L, zB1, (zup (zup (zup (zup (zup I 264 2 v2) 264 3 ((zup I 264 2 v2) (qv1 + 3) v2.toNatClampNeg)) 264 4 ((zup (zup I 264 2 v2) 264 3 ((zup I 264 2 v2) (qv1 + 3) v2.toNatClampNeg)) (qv1 + 6) v2.toNatClampNeg)) 264 5 ((zup (zup (zup I 264 2 v2) 264 3 ((zup I 264 2 v2) (qv1 + 3) v2.toNatClampNeg)) 264 4 ((zup (zup I 264 2 v2) 264 3 ((zup I 264 2 v2) (qv1 + 3) v2.toNatClampNeg)) (qv1 + 6) v2.toNatClampNeg)) (qv1 + 7) v2.toNatClampNeg)) 264 1 0), J)) (fun r σ => zgo X C (some .int) kX0_askAnew 56 [some (.inr (.inr (some (.inl 0, 264)))), some (.inr (.inr (some (.inl 1, qv1)))), some (.inl v2), some (.inl v3)] [.inl r] σ)))) := by
  rw [zgo_run X C _ _ [0, 5, 56] 30]
  rfl
set_option maxRecDepth 100000 in
theorem bX0_askAnew_56 (X : Nat → Nat → Int32) (C : Nat → List zV → zS → Option zR) (L : List zK) (I : Nat → Nat → Int32) (J : Nat → Nat → Int64) (qv1 : Nat) (v2 : Int32) (v3 : Int32) (s0 : Int32) : zgo X C (some .int) kX0_askAnew 56 [some (.inr (.inr (some (.inl 0, 264)))), some (.inr (.inr (some (.inl 1, qv1)))), some (.inl v2), some (.inl v3)] [.inl s0] (L, zB1, I, J) = some (some (.inl s0), (L, zB1, I, J)) := by
  rw [zgo_run X C _ _ [0, 5, 56] 2]
  rfl

set_option maxRecDepth 100000 in
theorem bX0_traced_0 (X : Nat → Nat → Int32) (C : Nat → List zV → zS → Option zR) (L : List zK) (I : Nat → Nat → Int32) (J : Nat → Nat → Int64) (a1 : Int32) : zgo X C (some .int) kX0_traced 0 [some (.inr (.inr (some (.inl 0, 264)))), some (.inl a1)] [] (L, zB1, I, J) = if a1 < 0 then some (some (.inl (-1000000)), (L, zB1, I, J)) else if (I 264 1) ≤ a1 then some (some (.inl (-1000000)), (L, zB1, I, J)) else if (16 : Int32) ≤ a1 then some (some (.inl (-1000000)), (L, zB1, I, J)) else zbt (zin a1 16) (some (some (.inl (I 265 a1.toNatClampNeg)), (L, zB1, I, J))) := by
  rw [zgo_run X C _ _ [0] 16]
  rfl

set_option maxRecDepth 100000 in
theorem bX0_answer_0 (X : Nat → Nat → Int32) (C : Nat → List zV → zS → Option zR) (L : List zK) (I : Nat → Nat → Int32) (J : Nat → Nat → Int64) (a1 : Int32) (a2 : Int32) : zgo X C (some .int) kX0_answer 0 [some (.inr (.inr (some (.inl 0, 264)))), some (.inl a1), some (.inl a2)] [] (L, zB1, I, J) = if a2 ≤ 16 then cI (C 8 [.inr (.inr (some (.inl 0, 264))), .inl a1] (L, zB1, I, J)) (fun r σ => zgo X C (some .int) kX0_answer 16 [some (.inr (.inr (some (.inl 0, 264)))), some (.inl a1), some (.inl a2)] [.inl r, .inr (.inr (some (.inl 0, 264)))] σ) else zgo X C (some .int) kX0_answer 22 [some (.inr (.inr (some (.inl 0, 264)))), some (.inl a1), some (.inl a2)] [.inl 0] (L, zB1, I, J) := by
  rw [zgo_run X C _ _ [0, 16, 22] 8]
  rfl
set_option maxRecDepth 100000 in
theorem bX0_answer_16 (X : Nat → Nat → Int32) (C : Nat → List zV → zS → Option zR) (L : List zK) (I : Nat → Nat → Int32) (J : Nat → Nat → Int64) (v1 : Int32) (v2 : Int32) (s0 : Int32) : zgo X C (some .int) kX0_answer 16 [some (.inr (.inr (some (.inl 0, 264)))), some (.inl v1), some (.inl v2)] [.inl s0, .inr (.inr (some (.inl 0, 264)))] (L, zB1, I, J) = cI (C 9 [.inr (.inr (some (.inl 0, 264))), .inl s0, .inl (v2 + 1)] (L, zB1, I, J)) (fun r σ => zgo X C (some .int) kX0_answer 22 [some (.inr (.inr (some (.inl 0, 264)))), some (.inl v1), some (.inl v2)] [.inl r] σ) := by
  rw [zgo_run X C _ _ [0, 16, 22] 5]
  rfl
set_option maxRecDepth 100000 in
theorem bX0_answer_22 (X : Nat → Nat → Int32) (C : Nat → List zV → zS → Option zR) (L : List zK) (I : Nat → Nat → Int32) (J : Nat → Nat → Int64) (v1 : Int32) (v2 : Int32) (s0 : Int32) : zgo X C (some .int) kX0_answer 22 [some (.inr (.inr (some (.inl 0, 264)))), some (.inl v1), some (.inl v2)] [.inl s0] (L, zB1, I, J) = some (some (.inl s0), (L, zB1, I, J)) := by
  rw [zgo_run X C _ _ [0, 16, 22] 2]
  rfl

set_option maxRecDepth 100000 in
theorem bX0_bodyFor_0 (X : Nat → Nat → Int32) (C : Nat → List zV → zS → Option zR) (L : List zK) (I : Nat → Nat → Int32) (J : Nat → Nat → Int64) (a1 : Int32) : zgo X C (some .int) kX0_bodyFor 0 [some (.inr (.inr (some (.inl 0, 264)))), some (.inl a1), none, none, none] [] (L, zB1, I, J) = zgo X C (some .int) kX0_bodyFor 7 [some (.inr (.inr (some (.inl 0, 264)))), some (.inl a1), some (.inl (I 264 3)), some (.inl 0), none] [] (L, zB1, I, J) := by
  rw [zgo_run X C _ _ [0, 7, 46] 6]
  rfl
set_option maxRecDepth 100000 in
theorem bX0_bodyFor_7 (X : Nat → Nat → Int32) (C : Nat → List zV → zS → Option zR) (L : List zK) (I : Nat → Nat → Int32) (J : Nat → Nat → Int64) (v1 : Int32) (v2 : Int32) (v3 : Int32) (u4 : Option zV) : zgo X C (some .int) kX0_bodyFor 7 [some (.inr (.inr (some (.inl 0, 264)))), some (.inl v1), some (.inl v2), some (.inl v3), u4] [] (L, zB1, I, J) = if (Int32.ofNat 6) ≤ v3 then some (some (.inl 0), (L, zB1, I, J)) else if v2 < 0 then some (some (.inl 0), (L, zB1, I, J)) else if v2 < (Int32.ofNat 6) then if v1 = 0 then zbt (zin v2 6) (zgo X C (some .int) kX0_bodyFor 46 [some (.inr (.inr (some (.inl 0, 264)))), some (.inl v1), some (.inl v2), some (.inl v3), u4] [.inl (X 2 v2.toNatClampNeg)] (L, zB1, I, J)) else zbt (zin v2 6) (zgo X C (some .int) kX0_bodyFor 46 [some (.inr (.inr (some (.inl 0, 264)))), some (.inl v1), some (.inl v2), some (.inl v3), u4] [.inl (X 3 v2.toNatClampNeg)] (L, zB1, I, J)) else some (some (.inl 0), (L, zB1, I, J)) := by
  rw [zgo_run X C _ _ [0, 7, 46] 17]
  rfl
set_option maxRecDepth 100000 in
theorem bX0_bodyFor_46 (X : Nat → Nat → Int32) (C : Nat → List zV → zS → Option zR) (L : List zK) (I : Nat → Nat → Int32) (J : Nat → Nat → Int64) (v1 : Int32) (v2 : Int32) (v3 : Int32) (u4 : Option zV) (s0 : Int32) : zgo X C (some .int) kX0_bodyFor 46 [some (.inr (.inr (some (.inl 0, 264)))), some (.inl v1), some (.inl v2), some (.inl v3), u4] [.inl s0] (L, zB1, I, J) = if s0 = 0 then zbt (zin v2 6) (zgo X C (some .int) kX0_bodyFor 7 [some (.inr (.inr (some (.inl 0, 264)))), some (.inl v1), some (.inl (X 1 v2.toNatClampNeg)), some (.inl (v3 + 1)), some (.inl s0)] [] (L, zB1, I, J)) else some (some (.inl s0), (L, zB1, I, J)) := by
  rw [zgo_run X C _ _ [0, 7, 46] 10]
  rfl

set_option maxRecDepth 100000 in
theorem bX0_run_0 (X : Nat → Nat → Int32) (C : Nat → List zV → zS → Option zR) (L : List zK) (I : Nat → Nat → Int32) (J : Nat → Nat → Int64) (a1 : Int32) (a2 : Int32) : zgo X C (some .int) kX0_run 0 [some (.inr (.inr (some (.inl 0, 264)))), some (.inl a1), some (.inl a2)] [] (L, zB1, I, J) = if a2 ≤ 16 then cV (C 10 [.inr (.inr (some (.inl 0, 264))), .inl a1] (L, zB1, I, J)) (fun σ => zgo X C (some .int) kX0_run 13 [some (.inr (.inr (some (.inl 0, 264)))), some (.inl a1), some (.inl a2)] [] σ) else some (some (.inl 0), (L, zB1, I, J)) := by
  rw [zgo_run X C _ _ [0, 13, 102, 110, 121, 132, 146, 162, 177, 191, 199, 211] 7]
  rfl
set_option maxRecDepth 100000 in
theorem bX0_run_13 (X : Nat → Nat → Int32) (C : Nat → List zV → zS → Option zR) (L : List zK) (I : Nat → Nat → Int32) (J : Nat → Nat → Int64) (v1 : Int32) (v2 : Int32) : zgo X C (some .int) kX0_run 13 [some (.inr (.inr (some (.inl 0, 264)))), some (.inl v1), some (.inl v2)] [] (L, zB1, I, J) = if v1 = 10 then some (some (.inl (I 264 4)), (L, zB1, I, J)) else if v1 = 11 then cI (C 9 [.inr (.inr (some (.inl 0, 264))), .inl 10, .inl (v2 + 1)] (L, zB1, I, J)) (fun r σ => zgo X C (some .int) kX0_run 102 [some (.inr (.inr (some (.inl 0, 264)))), some (.inl v1), some (.inl v2)] [.inl r] σ) else if v1 = 12 then cI (C 9 [.inr (.inr (some (.inl 0, 264))), .inl 11, .inl (v2 + 1)] (L, zB1, I, J)) (fun r σ => zgo X C (some .int) kX0_run 121 [some (.inr (.inr (some (.inl 0, 264)))), some (.inl v1), some (.inl v2)] [.inl r] σ) else if v1 = 13 then cI (C 9 [.inr (.inr (some (.inl 0, 264))), .inl 10, .inl (v2 + 1)] (L, zB1, I, J)) (fun r σ => zgo X C (some .int) kX0_run 132 [some (.inr (.inr (some (.inl 0, 264)))), some (.inl v1), some (.inl v2)] [.inl r] σ) else if v1 = 14 then cI (C 9 [.inr (.inr (some (.inl 0, 264))), .inl 13, .inl (v2 + 1)] (L, zB1, I, J)) (fun r σ => zgo X C (some .int) kX0_run 146 [some (.inr (.inr (some (.inl 0, 264)))), some (.inl v1), some (.inl v2)] [.inl r, .inl 2] σ) else if v1 = 15 then some (some (.inl 0), (L, zB1, I, J)) else if v1 = 16 then some (some (.inl 0), (L, zB1, I, J)) else if v1 = 17 then some (some (.inl 0), (L, zB1, I, J)) else if v1 = 18 then some (some (.inl 0), (L, zB1, I, J)) else if v1 = 19 then some (some (.inl 0), (L, zB1, I, J)) else if v1 = 20 then some (some (.inl (I 264 2)), (L, zB1, I, J)) else if v1 = 21 then cI (C 9 [.inr (.inr (some (.inl 0, 264))), .inl 20, .inl (v2 + 1)] (L, zB1, I, J)) (fun r σ => zgo X C (some .int) kX0_run 162 [some (.inr (.inr (some (.inl 0, 264)))), some (.inl v1), some (.inl v2)] [.inl r] σ) else if v1 = 22 then cI (C 9 [.inr (.inr (some (.inl 0, 264))), .inl 21, .inl (v2 + 1)] (L, zB1, I, J)) (fun r σ => zgo X C (some .int) kX0_run 177 [some (.inr (.inr (some (.inl 0, 264)))), some (.inl v1), some (.inl v2)] [.inl r] σ) else if v1 = 23 then cI (C 9 [.inr (.inr (some (.inl 0, 264))), .inl 20, .inl (v2 + 1)] (L, zB1, I, J)) (fun r σ => zgo X C (some .int) kX0_run 191 [some (.inr (.inr (some (.inl 0, 264)))), some (.inl v1), some (.inl v2)] [.inl r] σ) else if v1 = 24 then cI (C 9 [.inr (.inr (some (.inl 0, 264))), .inl 21, .inl (v2 + 1)] (L, zB1, I, J)) (fun r σ => zgo X C (some .int) kX0_run 211 [some (.inr (.inr (some (.inl 0, 264)))), some (.inl v1), some (.inl v2)] [.inl r, .inl 2] σ) else some (some (.inl 0), (L, zB1, I, J)) := by
  rw [zgo_run X C _ _ [0, 13, 102, 110, 121, 132, 146, 162, 177, 191, 199, 211] 10]
  rfl
set_option maxRecDepth 100000 in
theorem bX0_run_102 (X : Nat → Nat → Int32) (C : Nat → List zV → zS → Option zR) (L : List zK) (I : Nat → Nat → Int32) (J : Nat → Nat → Int64) (v1 : Int32) (v2 : Int32) (s0 : Int32) : zgo X C (some .int) kX0_run 102 [some (.inr (.inr (some (.inl 0, 264)))), some (.inl v1), some (.inl v2)] [.inl s0] (L, zB1, I, J) = cI (C 7 [.inr (.inr (some (.inl 0, 264))), .inl 1, .inl (v2 + 1)] (L, zB1, I, J)) (fun r σ => zgo X C (some .int) kX0_run 110 [some (.inr (.inr (some (.inl 0, 264)))), some (.inl v1), some (.inl v2)] [.inl r, .inl s0] σ) := by
  rw [zgo_run X C _ _ [0, 13, 102, 110, 121, 132, 146, 162, 177, 191, 199, 211] 7]
  rfl
set_option maxRecDepth 100000 in
theorem bX0_run_110 (X : Nat → Nat → Int32) (C : Nat → List zV → zS → Option zR) (L : List zK) (I : Nat → Nat → Int32) (J : Nat → Nat → Int64) (v1 : Int32) (v2 : Int32) (s0 : Int32) (s1 : Int32) : zgo X C (some .int) kX0_run 110 [some (.inr (.inr (some (.inl 0, 264)))), some (.inl v1), some (.inl v2)] [.inl s0, .inl s1] (L, zB1, I, J) = some (some (.inl (s1 + s0)), (L, zB1, I, J)) := by
  rw [zgo_run X C _ _ [0, 13, 102, 110, 121, 132, 146, 162, 177, 191, 199, 211] 3]
  rfl
set_option maxRecDepth 100000 in
theorem bX0_run_121 (X : Nat → Nat → Int32) (C : Nat → List zV → zS → Option zR) (L : List zK) (I : Nat → Nat → Int32) (J : Nat → Nat → Int64) (v1 : Int32) (v2 : Int32) (s0 : Int32) : zgo X C (some .int) kX0_run 121 [some (.inr (.inr (some (.inl 0, 264)))), some (.inl v1), some (.inl v2)] [.inl s0] (L, zB1, I, J) = some (some (.inl (-s0)), (L, zB1, I, J)) := by
  rw [zgo_run X C _ _ [0, 13, 102, 110, 121, 132, 146, 162, 177, 191, 199, 211] 3]
  rfl
set_option maxRecDepth 100000 in
theorem bX0_run_132 (X : Nat → Nat → Int32) (C : Nat → List zV → zS → Option zR) (L : List zK) (I : Nat → Nat → Int32) (J : Nat → Nat → Int64) (v1 : Int32) (v2 : Int32) (s0 : Int32) : zgo X C (some .int) kX0_run 132 [some (.inr (.inr (some (.inl 0, 264)))), some (.inl v1), some (.inl v2)] [.inl s0] (L, zB1, I, J) = some (some (.inl (s0 - 100)), (L, zB1, I, J)) := by
  rw [zgo_run X C _ _ [0, 13, 102, 110, 121, 132, 146, 162, 177, 191, 199, 211] 4]
  rfl
set_option maxRecDepth 100000 in
theorem bX0_run_146 (X : Nat → Nat → Int32) (C : Nat → List zV → zS → Option zR) (L : List zK) (I : Nat → Nat → Int32) (J : Nat → Nat → Int64) (v1 : Int32) (v2 : Int32) (s0 : Int32) (s1 : Int32) : zgo X C (some .int) kX0_run 146 [some (.inr (.inr (some (.inl 0, 264)))), some (.inl v1), some (.inl v2)] [.inl s0, .inl s1] (L, zB1, I, J) = some (some (.inl (s1 * s0)), (L, zB1, I, J)) := by
  rw [zgo_run X C _ _ [0, 13, 102, 110, 121, 132, 146, 162, 177, 191, 199, 211] 3]
  rfl
set_option maxRecDepth 100000 in
theorem bX0_run_162 (X : Nat → Nat → Int32) (C : Nat → List zV → zS → Option zR) (L : List zK) (I : Nat → Nat → Int32) (J : Nat → Nat → Int64) (v1 : Int32) (v2 : Int32) (s0 : Int32) : zgo X C (some .int) kX0_run 162 [some (.inr (.inr (some (.inl 0, 264)))), some (.inl v1), some (.inl v2)] [.inl s0] (L, zB1, I, J) = some (some (.inl (s0 + (I 264 5))), (L, zB1, I, J)) := by
  rw [zgo_run X C _ _ [0, 13, 102, 110, 121, 132, 146, 162, 177, 191, 199, 211] 5]
  rfl
set_option maxRecDepth 100000 in
theorem bX0_run_177 (X : Nat → Nat → Int32) (C : Nat → List zV → zS → Option zR) (L : List zK) (I : Nat → Nat → Int32) (J : Nat → Nat → Int64) (v1 : Int32) (v2 : Int32) (s0 : Int32) : zgo X C (some .int) kX0_run 177 [some (.inr (.inr (some (.inl 0, 264)))), some (.inl v1), some (.inl v2)] [.inl s0] (L, zB1, I, J) = some (some (.inl (s0 - 1000)), (L, zB1, I, J)) := by
  rw [zgo_run X C _ _ [0, 13, 102, 110, 121, 132, 146, 162, 177, 191, 199, 211] 4]
  rfl
set_option maxRecDepth 100000 in
theorem bX0_run_191 (X : Nat → Nat → Int32) (C : Nat → List zV → zS → Option zR) (L : List zK) (I : Nat → Nat → Int32) (J : Nat → Nat → Int64) (v1 : Int32) (v2 : Int32) (s0 : Int32) : zgo X C (some .int) kX0_run 191 [some (.inr (.inr (some (.inl 0, 264)))), some (.inl v1), some (.inl v2)] [.inl s0] (L, zB1, I, J) = cI (C 7 [.inr (.inr (some (.inl 0, 264))), .inl 0, .inl (v2 + 1)] (L, zB1, I, J)) (fun r σ => zgo X C (some .int) kX0_run 199 [some (.inr (.inr (some (.inl 0, 264)))), some (.inl v1), some (.inl v2)] [.inl r, .inl s0] σ) := by
  rw [zgo_run X C _ _ [0, 13, 102, 110, 121, 132, 146, 162, 177, 191, 199, 211] 7]
  rfl
set_option maxRecDepth 100000 in
theorem bX0_run_199 (X : Nat → Nat → Int32) (C : Nat → List zV → zS → Option zR) (L : List zK) (I : Nat → Nat → Int32) (J : Nat → Nat → Int64) (v1 : Int32) (v2 : Int32) (s0 : Int32) (s1 : Int32) : zgo X C (some .int) kX0_run 199 [some (.inr (.inr (some (.inl 0, 264)))), some (.inl v1), some (.inl v2)] [.inl s0, .inl s1] (L, zB1, I, J) = some (some (.inl (s1 - s0)), (L, zB1, I, J)) := by
  rw [zgo_run X C _ _ [0, 13, 102, 110, 121, 132, 146, 162, 177, 191, 199, 211] 3]
  rfl
set_option maxRecDepth 100000 in
theorem bX0_run_211 (X : Nat → Nat → Int32) (C : Nat → List zV → zS → Option zR) (L : List zK) (I : Nat → Nat → Int32) (J : Nat → Nat → Int64) (v1 : Int32) (v2 : Int32) (s0 : Int32) (s1 : Int32) : zgo X C (some .int) kX0_run 211 [some (.inr (.inr (some (.inl 0, 264)))), some (.inl v1), some (.inl v2)] [.inl s0, .inl s1] (L, zB1, I, J) = some (some (.inl (s1 * s0)), (L, zB1, I, J)) := by
  rw [zgo_run X C _ _ [0, 13, 102, 110, 121, 132, 146, 162, 177, 191, 199, 211] 3]
  rfl

set_option maxRecDepth 100000 in
theorem bX0_leave_0 (X : Nat → Nat → Int32) (C : Nat → List zV → zS → Option zR) (L : List zK) (I : Nat → Nat → Int32) (J : Nat → Nat → Int64) (a1 : Int32) : zgo X C none kX0_leave 0 [some (.inr (.inr (some (.inl 0, 264)))), some (.inl a1)] [] (L, zB1, I, J) = if (I 264 1) < 0 then some (none, (L, zB1, I, J)) else if (16 : Int32) ≤ (I 264 1) then some (none, (L, zB1, I, J)) else zbt (zin (I 264 1) 16) (some (none, (L, zB1, (zup (zup I 265 (I 264 1).toNatClampNeg a1) 264 1 (((zup I 265 (I 264 1).toNatClampNeg a1) 264 1) + 1)), J))) := by
  rw [zgo_run X C _ _ [0] 21]
  rfl

set_option maxRecDepth 100000 in
theorem bX1_takeFrom_0 (X : Nat → Nat → Int32) (C : Nat → List zV → zS → Option zR) (L : List zK) (I : Nat → Nat → Int32) (J : Nat → Nat → Int64) (b : Nat) (b2 : Nat) : zgo X C none kX1_takeFrom 0 [some (.inr (.inr (some (.inl 1, b)))), some (.inr (.inr (some (.inl 1, b2))))] [] (L, zB1, I, J) = zbt (decide (0 ≤ (4 : Int32).toInt) && (decide (0 ≤ (0 : Int32).toInt) && (decide (0 ≤ (0 : Int32).toInt) && (decide ((0 : Int32).toInt + (4 : Int32).toInt ≤ ((4 : Nat) : Int)) && decide ((0 : Int32).toInt + (4 : Int32).toInt ≤ ((4 : Nat) : Int)))))) (zgo X C none kX1_takeFrom 59 [some (.inr (.inr (some (.inl 1, b)))), some (.inr (.inr (some (.inl 1, b2))))] [] (L, zB1, (zur (zup (zup (zup (zup (zup I b 0 (I b2 0)) b 1 ((zup I b 0 (I b2 0)) b2 1)) b 2 ((zup (zup I b 0 (I b2 0)) b 1 ((zup I b 0 (I b2 0)) b2 1)) b2 2)) b 3 ((zup (zup (zup I b 0 (I b2 0)) b 1 ((zup I b 0 (I b2 0)) b2 1)) b 2 ((zup (zup I b 0 (I b2 0)) b 1 ((zup I b 0 (I b2 0)) b2 1)) b2 2)) b2 3)) b 4 ((zup (zup (zup (zup I b 0 (I b2 0)) b 1 ((zup I b 0 (I b2 0)) b2 1)) b 2 ((zup (zup I b 0 (I b2 0)) b 1 ((zup I b 0 (I b2 0)) b2 1)) b2 2)) b 3 ((zup (zup (zup I b 0 (I b2 0)) b 1 ((zup I b 0 (I b2 0)) b2 1)) b 2 ((zup (zup I b 0 (I b2 0)) b 1 ((zup I b 0 (I b2 0)) b2 1)) b2 2)) b2 3)) b2 4)) (b + 1) (va_cpy ((zup (zup (zup (zup (zup I b 0 (I b2 0)) b 1 ((zup I b 0 (I b2 0)) b2 1)) b 2 ((zup (zup I b 0 (I b2 0)) b 1 ((zup I b 0 (I b2 0)) b2 1)) b2 2)) b 3 ((zup (zup (zup I b 0 (I b2 0)) b 1 ((zup I b 0 (I b2 0)) b2 1)) b 2 ((zup (zup I b 0 (I b2 0)) b 1 ((zup I b 0 (I b2 0)) b2 1)) b2 2)) b2 3)) b 4 ((zup (zup (zup (zup I b 0 (I b2 0)) b 1 ((zup I b 0 (I b2 0)) b2 1)) b 2 ((zup (zup I b 0 (I b2 0)) b 1 ((zup I b 0 (I b2 0)) b2 1)) b2 2)) b 3 ((zup (zup (zup I b 0 (I b2 0)) b 1 ((zup I b 0 (I b2 0)) b2 1)) b 2 ((zup (zup I b 0 (I b2 0)) b 1 ((zup I b 0 (I b2 0)) b2 1)) b2 2)) b2 3)) b2 4)) (b2 + 1)) ((zup (zup (zup (zup (zup I b 0 (I b2 0)) b 1 ((zup I b 0 (I b2 0)) b2 1)) b 2 ((zup (zup I b 0 (I b2 0)) b 1 ((zup I b 0 (I b2 0)) b2 1)) b2 2)) b 3 ((zup (zup (zup I b 0 (I b2 0)) b 1 ((zup I b 0 (I b2 0)) b2 1)) b 2 ((zup (zup I b 0 (I b2 0)) b 1 ((zup I b 0 (I b2 0)) b2 1)) b2 2)) b2 3)) b 4 ((zup (zup (zup (zup I b 0 (I b2 0)) b 1 ((zup I b 0 (I b2 0)) b2 1)) b 2 ((zup (zup I b 0 (I b2 0)) b 1 ((zup I b 0 (I b2 0)) b2 1)) b2 2)) b 3 ((zup (zup (zup I b 0 (I b2 0)) b 1 ((zup I b 0 (I b2 0)) b2 1)) b 2 ((zup (zup I b 0 (I b2 0)) b 1 ((zup I b 0 (I b2 0)) b2 1)) b2 2)) b2 3)) b2 4)) (b + 1)) (0 : Int32).toNatClampNeg (0 : Int32).toNatClampNeg (4 : Int32).toNatClampNeg)), J)) := by
  rw [zgo_run X C _ _ [0, 59, 73, 88, 103, 118, 133, 148] 31]
  rfl
set_option maxRecDepth 100000 in
theorem bX1_takeFrom_59 (X : Nat → Nat → Int32) (C : Nat → List zV → zS → Option zR) (L : List zK) (I : Nat → Nat → Int32) (J : Nat → Nat → Int64) (b : Nat) (qv1 : Nat) : zgo X C none kX1_takeFrom 59 [some (.inr (.inr (some (.inl 1, b)))), some (.inr (.inr (some (.inl 1, qv1))))] [] (L, zB1, I, J) = zbt (decide (0 ≤ (4 : Int32).toInt) && (decide (0 ≤ (0 : Int32).toInt) && (decide (0 ≤ (0 : Int32).toInt) && (decide ((0 : Int32).toInt + (4 : Int32).toInt ≤ ((4 : Nat) : Int)) && decide ((0 : Int32).toInt + (4 : Int32).toInt ≤ ((4 : Nat) : Int)))))) (zgo X C none kX1_takeFrom 73 [some (.inr (.inr (some (.inl 1, b)))), some (.inr (.inr (some (.inl 1, qv1))))] [] (L, zB1, (zur I (b + 2) (va_cpy (I (qv1 + 2)) (I (b + 2)) (0 : Int32).toNatClampNeg (0 : Int32).toNatClampNeg (4 : Int32).toNatClampNeg)), J)) := by
  rw [zgo_run X C _ _ [0, 59, 73, 88, 103, 118, 133, 148] 9]
  rfl
set_option maxRecDepth 100000 in
theorem bX1_takeFrom_73 (X : Nat → Nat → Int32) (C : Nat → List zV → zS → Option zR) (L : List zK) (I : Nat → Nat → Int32) (J : Nat → Nat → Int64) (b : Nat) (qv1 : Nat) : zgo X C none kX1_takeFrom 73 [some (.inr (.inr (some (.inl 1, b)))), some (.inr (.inr (some (.inl 1, qv1))))] [] (L, zB1, I, J) = zbt (decide (0 ≤ (6 : Int32).toInt) && (decide (0 ≤ (0 : Int32).toInt) && (decide (0 ≤ (0 : Int32).toInt) && (decide ((0 : Int32).toInt + (6 : Int32).toInt ≤ ((6 : Nat) : Int)) && decide ((0 : Int32).toInt + (6 : Int32).toInt ≤ ((6 : Nat) : Int)))))) (zgo X C none kX1_takeFrom 88 [some (.inr (.inr (some (.inl 1, b)))), some (.inr (.inr (some (.inl 1, qv1))))] [] (L, zB1, (zur I (b + 3) (va_cpy (I (qv1 + 3)) (I (b + 3)) (0 : Int32).toNatClampNeg (0 : Int32).toNatClampNeg (6 : Int32).toNatClampNeg)), J)) := by
  rw [zgo_run X C _ _ [0, 59, 73, 88, 103, 118, 133, 148] 9]
  rfl
set_option maxRecDepth 100000 in
theorem bX1_takeFrom_88 (X : Nat → Nat → Int32) (C : Nat → List zV → zS → Option zR) (L : List zK) (I : Nat → Nat → Int32) (J : Nat → Nat → Int64) (b : Nat) (qv1 : Nat) : zgo X C none kX1_takeFrom 88 [some (.inr (.inr (some (.inl 1, b)))), some (.inr (.inr (some (.inl 1, qv1))))] [] (L, zB1, I, J) = zbt (decide (0 ≤ (6 : Int32).toInt) && (decide (0 ≤ (0 : Int32).toInt) && (decide (0 ≤ (0 : Int32).toInt) && (decide ((0 : Int32).toInt + (6 : Int32).toInt ≤ ((6 : Nat) : Int)) && decide ((0 : Int32).toInt + (6 : Int32).toInt ≤ ((6 : Nat) : Int)))))) (zgo X C none kX1_takeFrom 103 [some (.inr (.inr (some (.inl 1, b)))), some (.inr (.inr (some (.inl 1, qv1))))] [] (L, zB1, (zur I (b + 4) (va_cpy (I (qv1 + 4)) (I (b + 4)) (0 : Int32).toNatClampNeg (0 : Int32).toNatClampNeg (6 : Int32).toNatClampNeg)), J)) := by
  rw [zgo_run X C _ _ [0, 59, 73, 88, 103, 118, 133, 148] 9]
  rfl
set_option maxRecDepth 100000 in
theorem bX1_takeFrom_103 (X : Nat → Nat → Int32) (C : Nat → List zV → zS → Option zR) (L : List zK) (I : Nat → Nat → Int32) (J : Nat → Nat → Int64) (b : Nat) (qv1 : Nat) : zgo X C none kX1_takeFrom 103 [some (.inr (.inr (some (.inl 1, b)))), some (.inr (.inr (some (.inl 1, qv1))))] [] (L, zB1, I, J) = zbt (decide (0 ≤ (6 : Int32).toInt) && (decide (0 ≤ (0 : Int32).toInt) && (decide (0 ≤ (0 : Int32).toInt) && (decide ((0 : Int32).toInt + (6 : Int32).toInt ≤ ((6 : Nat) : Int)) && decide ((0 : Int32).toInt + (6 : Int32).toInt ≤ ((6 : Nat) : Int)))))) (zgo X C none kX1_takeFrom 118 [some (.inr (.inr (some (.inl 1, b)))), some (.inr (.inr (some (.inl 1, qv1))))] [] (L, zB1, (zur I (b + 5) (va_cpy (I (qv1 + 5)) (I (b + 5)) (0 : Int32).toNatClampNeg (0 : Int32).toNatClampNeg (6 : Int32).toNatClampNeg)), J)) := by
  rw [zgo_run X C _ _ [0, 59, 73, 88, 103, 118, 133, 148] 9]
  rfl
set_option maxRecDepth 100000 in
theorem bX1_takeFrom_118 (X : Nat → Nat → Int32) (C : Nat → List zV → zS → Option zR) (L : List zK) (I : Nat → Nat → Int32) (J : Nat → Nat → Int64) (b : Nat) (qv1 : Nat) : zgo X C none kX1_takeFrom 118 [some (.inr (.inr (some (.inl 1, b)))), some (.inr (.inr (some (.inl 1, qv1))))] [] (L, zB1, I, J) = zbt (decide (0 ≤ (6 : Int32).toInt) && (decide (0 ≤ (0 : Int32).toInt) && (decide (0 ≤ (0 : Int32).toInt) && (decide ((0 : Int32).toInt + (6 : Int32).toInt ≤ ((6 : Nat) : Int)) && decide ((0 : Int32).toInt + (6 : Int32).toInt ≤ ((6 : Nat) : Int)))))) (zgo X C none kX1_takeFrom 133 [some (.inr (.inr (some (.inl 1, b)))), some (.inr (.inr (some (.inl 1, qv1))))] [] (L, zB1, (zur I (b + 6) (va_cpy (I (qv1 + 6)) (I (b + 6)) (0 : Int32).toNatClampNeg (0 : Int32).toNatClampNeg (6 : Int32).toNatClampNeg)), J)) := by
  rw [zgo_run X C _ _ [0, 59, 73, 88, 103, 118, 133, 148] 9]
  rfl
set_option maxRecDepth 100000 in
theorem bX1_takeFrom_133 (X : Nat → Nat → Int32) (C : Nat → List zV → zS → Option zR) (L : List zK) (I : Nat → Nat → Int32) (J : Nat → Nat → Int64) (b : Nat) (qv1 : Nat) : zgo X C none kX1_takeFrom 133 [some (.inr (.inr (some (.inl 1, b)))), some (.inr (.inr (some (.inl 1, qv1))))] [] (L, zB1, I, J) = zbt (decide (0 ≤ (6 : Int32).toInt) && (decide (0 ≤ (0 : Int32).toInt) && (decide (0 ≤ (0 : Int32).toInt) && (decide ((0 : Int32).toInt + (6 : Int32).toInt ≤ ((6 : Nat) : Int)) && decide ((0 : Int32).toInt + (6 : Int32).toInt ≤ ((6 : Nat) : Int)))))) (zgo X C none kX1_takeFrom 148 [some (.inr (.inr (some (.inl 1, b)))), some (.inr (.inr (some (.inl 1, qv1))))] [] (L, zB1, (zur I (b + 7) (va_cpy (I (qv1 + 7)) (I (b + 7)) (0 : Int32).toNatClampNeg (0 : Int32).toNatClampNeg (6 : Int32).toNatClampNeg)), J)) := by
  rw [zgo_run X C _ _ [0, 59, 73, 88, 103, 118, 133, 148] 9]
  rfl
set_option maxRecDepth 100000 in
theorem bX1_takeFrom_148 (X : Nat → Nat → Int32) (C : Nat → List zV → zS → Option zR) (L : List zK) (I : Nat → Nat → Int32) (J : Nat → Nat → Int64) (b : Nat) (qv1 : Nat) : zgo X C none kX1_takeFrom 148 [some (.inr (.inr (some (.inl 1, b)))), some (.inr (.inr (some (.inl 1, qv1))))] [] (L, zB1, I, J) = some (none, (L, zB1, I, J)) := by
  rw [zgo_run X C _ _ [0, 59, 73, 88, 103, 118, 133, 148] 2]
  rfl

set_option maxRecDepth 100000 in
theorem bX1_begin_0 (X : Nat → Nat → Int32) (C : Nat → List zV → zS → Option zR) (L : List zK) (I : Nat → Nat → Int32) (J : Nat → Nat → Int64) (b : Nat) (a1 : Int32) (a2 : Int32) : zgo X C none kX1_begin 0 [some (.inr (.inr (some (.inl 1, b)))), some (.inl a1), some (.inl a2)] [] (L, zB1, I, J) = some (none, (L, zB1, (zup (zup (zup (zup (zup I b 0 0) b 1 0) b 2 a1) b 3 a2) b 4 0), J)) := by
  rw [zgo_run X C _ _ [0] 17]
  rfl

set_option maxRecDepth 100000 in
theorem bX1_addJudge_0 (X : Nat → Nat → Int32) (C : Nat → List zV → zS → Option zR) (L : List zK) (I : Nat → Nat → Int32) (J : Nat → Nat → Int64) (b : Nat) (a1 : Int32) (a2 : Int32) : zgo X C none kX1_addJudge 0 [some (.inr (.inr (some (.inl 1, b)))), some (.inl a1), some (.inl a2)] [] (L, zB1, I, J) = if (I b 0) < 0 then some (none, (L, zB1, I, J)) else if (I b 0) < 4 then zbt (zin (I b 0) 4) (zbt (zin ((zup I (b + 1) (I b 0).toNatClampNeg a1) b 0) 4) (some (none, (L, zB1, (zup (zup (zup I (b + 1) (I b 0).toNatClampNeg a1) (b + 2) ((zup I (b + 1) (I b 0).toNatClampNeg a1) b 0).toNatClampNeg a2) b 0 (((zup (zup I (b + 1) (I b 0).toNatClampNeg a1) (b + 2) ((zup I (b + 1) (I b 0).toNatClampNeg a1) b 0).toNatClampNeg a2) b 0) + 1)), J)))) else some (none, (L, zB1, I, J)) := by
  rw [zgo_run X C _ _ [0] 27]
  rfl

set_option maxRecDepth 100000 in
theorem bX1_addMan_0 (X : Nat → Nat → Int32) (C : Nat → List zV → zS → Option zR) (L : List zK) (I : Nat → Nat → Int32) (J : Nat → Nat → Int64) (b : Nat) (a1 : Int32) (a2 : Int32) (a3 : Int32) : zgo X C none kX1_addMan 0 [some (.inr (.inr (some (.inl 1, b)))), some (.inl a1), some (.inl a2), some (.inl a3)] [] (L, zB1, I, J) = if (I b 1) < 0 then some (none, (L, zB1, I, J)) else if (I b 1) < 6 then zbt (zin (I b 1) 6) (zbt (zin ((zup I (b + 3) (I b 1).toNatClampNeg a1) b 1) 6) (zbt (zin ((zup (zup I (b + 3) (I b 1).toNatClampNeg a1) (b + 4) ((zup I (b + 3) (I b 1).toNatClampNeg a1) b 1).toNatClampNeg a2) b 1) 6) (zbt (zin ((zup (zup (zup I (b + 3) (I b 1).toNatClampNeg a1) (b + 4) ((zup I (b + 3) (I b 1).toNatClampNeg a1) b 1).toNatClampNeg a2) (b + 5) ((zup (zup I (b + 3) (I b 1).toNatClampNeg a1) (b + 4) ((zup I (b + 3) (I b 1).toNatClampNeg a1) b 1).toNatClampNeg a2) b 1).toNatClampNeg 0) b 1) 6) (zbt (zin ((zup (zup (zup (zup I (b + 3) (I b 1).toNatClampNeg a1) (b + 4) ((zup I (b + 3) (I b 1).toNatClampNeg a1) b 1).toNatClampNeg a2) (b + 5) ((zup (zup I (b + 3) (I b 1).toNatClampNeg a1) (b + 4) ((zup I (b + 3) (I b 1).toNatClampNeg a1) b 1).toNatClampNeg a2) b 1).toNatClampNeg 0) (b + 6) ((zup (zup (zup I (b + 3) (I b 1).toNatClampNeg a1) (b + 4) ((zup I (b + 3) (I b 1).toNatClampNeg a1) b 1).toNatClampNeg a2) (b + 5) ((zup (zup I (b + 3) (I b 1).toNatClampNeg a1) (b + 4) ((zup I (b + 3) (I b 1).toNatClampNeg a1) b 1).toNatClampNeg a2) b 1).toNatClampNeg 0) b 1).toNatClampNeg a3) b 1) 6) (some (none, (L, zB1, (zup (zup (zup (zup (zup (zup I (b + 3) (I b 1).toNatClampNeg a1) (b + 4) ((zup I (b + 3) (I b 1).toNatClampNeg a1) b 1).toNatClampNeg a2) (b + 5) ((zup (zup I (b + 3) (I b 1).toNatClampNeg a1) (b + 4) ((zup I (b + 3) (I b 1).toNatClampNeg a1) b 1).toNatClampNeg a2) b 1).toNatClampNeg 0) (b + 6) ((zup (zup (zup I (b + 3) (I b 1).toNatClampNeg a1) (b + 4) ((zup I (b + 3) (I b 1).toNatClampNeg a1) b 1).toNatClampNeg a2) (b + 5) ((zup (zup I (b + 3) (I b 1).toNatClampNeg a1) (b + 4) ((zup I (b + 3) (I b 1).toNatClampNeg a1) b 1).toNatClampNeg a2) b 1).toNatClampNeg 0) b 1).toNatClampNeg a3) (b + 7) ((zup (zup (zup (zup I (b + 3) (I b 1).toNatClampNeg a1) (b + 4) ((zup I (b + 3) (I b 1).toNatClampNeg a1) b 1).toNatClampNeg a2) (b + 5) ((zup (zup I (b + 3) (I b 1).toNatClampNeg a1) (b + 4) ((zup I (b + 3) (I b 1).toNatClampNeg a1) b 1).toNatClampNeg a2) b 1).toNatClampNeg 0) (b + 6) ((zup (zup (zup I (b + 3) (I b 1).toNatClampNeg a1) (b + 4) ((zup I (b + 3) (I b 1).toNatClampNeg a1) b 1).toNatClampNeg a2) (b + 5) ((zup (zup I (b + 3) (I b 1).toNatClampNeg a1) (b + 4) ((zup I (b + 3) (I b 1).toNatClampNeg a1) b 1).toNatClampNeg a2) b 1).toNatClampNeg 0) b 1).toNatClampNeg a3) b 1).toNatClampNeg 0) b 1 (((zup (zup (zup (zup (zup I (b + 3) (I b 1).toNatClampNeg a1) (b + 4) ((zup I (b + 3) (I b 1).toNatClampNeg a1) b 1).toNatClampNeg a2) (b + 5) ((zup (zup I (b + 3) (I b 1).toNatClampNeg a1) (b + 4) ((zup I (b + 3) (I b 1).toNatClampNeg a1) b 1).toNatClampNeg a2) b 1).toNatClampNeg 0) (b + 6) ((zup (zup (zup I (b + 3) (I b 1).toNatClampNeg a1) (b + 4) ((zup I (b + 3) (I b 1).toNatClampNeg a1) b 1).toNatClampNeg a2) (b + 5) ((zup (zup I (b + 3) (I b 1).toNatClampNeg a1) (b + 4) ((zup I (b + 3) (I b 1).toNatClampNeg a1) b 1).toNatClampNeg a2) b 1).toNatClampNeg 0) b 1).toNatClampNeg a3) (b + 7) ((zup (zup (zup (zup I (b + 3) (I b 1).toNatClampNeg a1) (b + 4) ((zup I (b + 3) (I b 1).toNatClampNeg a1) b 1).toNatClampNeg a2) (b + 5) ((zup (zup I (b + 3) (I b 1).toNatClampNeg a1) (b + 4) ((zup I (b + 3) (I b 1).toNatClampNeg a1) b 1).toNatClampNeg a2) b 1).toNatClampNeg 0) (b + 6) ((zup (zup (zup I (b + 3) (I b 1).toNatClampNeg a1) (b + 4) ((zup I (b + 3) (I b 1).toNatClampNeg a1) b 1).toNatClampNeg a2) (b + 5) ((zup (zup I (b + 3) (I b 1).toNatClampNeg a1) (b + 4) ((zup I (b + 3) (I b 1).toNatClampNeg a1) b 1).toNatClampNeg a2) b 1).toNatClampNeg 0) b 1).toNatClampNeg a3) b 1).toNatClampNeg 0) b 1) + 1)), J))))))) else some (none, (L, zB1, I, J)) := by
  rw [zgo_run X C _ _ [0] 45]
  rfl

set_option maxRecDepth 100000 in
theorem bX1_isMan_0 (X : Nat → Nat → Int32) (C : Nat → List zV → zS → Option zR) (L : List zK) (I : Nat → Nat → Int32) (J : Nat → Nat → Int64) (b : Nat) (a1 : Int32) : zgo X C (some .boolean) kX1_isMan 0 [some (.inr (.inr (some (.inl 1, b)))), some (.inl a1)] [] (L, zB1, I, J) = if a1 < 0 then some (some (.inl 0), (L, zB1, I, J)) else if (I b 1) ≤ a1 then some (some (.inl 0), (L, zB1, I, J)) else if (6 : Int32) ≤ a1 then some (some (.inl 0), (L, zB1, I, J)) else some (some (.inl 1), (L, zB1, I, J)) := by
  rw [zgo_run X C _ _ [0] 13]
  rfl

set_option maxRecDepth 100000 in
theorem bX1_isJudge_0 (X : Nat → Nat → Int32) (C : Nat → List zV → zS → Option zR) (L : List zK) (I : Nat → Nat → Int32) (J : Nat → Nat → Int64) (b : Nat) (a1 : Int32) : zgo X C (some .boolean) kX1_isJudge 0 [some (.inr (.inr (some (.inl 1, b)))), some (.inl a1)] [] (L, zB1, I, J) = if a1 < 0 then some (some (.inl 0), (L, zB1, I, J)) else if (I b 0) ≤ a1 then some (some (.inl 0), (L, zB1, I, J)) else if (4 : Int32) ≤ a1 then some (some (.inl 0), (L, zB1, I, J)) else some (some (.inl 1), (L, zB1, I, J)) := by
  rw [zgo_run X C _ _ [0] 13]
  rfl

set_option maxRecDepth 100000 in
theorem bX1_isServing_0 (X : Nat → Nat → Int32) (C : Nat → List zV → zS → Option zR) (L : List zK) (I : Nat → Nat → Int32) (J : Nat → Nat → Int64) (b : Nat) (a1 : Int32) : zgo X C (some .boolean) kX1_isServing 0 [some (.inr (.inr (some (.inl 1, b)))), some (.inl a1)] [] (L, zB1, I, J) = cI (C 16 [.inr (.inr (some (.inl 1, b))), .inl a1] (L, zB1, I, J)) (fun r σ => zgo X C (some .boolean) kX1_isServing 5 [some (.inr (.inr (some (.inl 1, b)))), some (.inl a1)] [.inl r] σ) := by
  rw [zgo_run X C _ _ [0, 5] 4]
  rfl
set_option maxRecDepth 100000 in
theorem bX1_isServing_5 (X : Nat → Nat → Int32) (C : Nat → List zV → zS → Option zR) (L : List zK) (I : Nat → Nat → Int32) (J : Nat → Nat → Int64) (b : Nat) (v1 : Int32) (s0 : Int32) : zgo X C (some .boolean) kX1_isServing 5 [some (.inr (.inr (some (.inl 1, b)))), some (.inl v1)] [.inl s0] (L, zB1, I, J) = if s0 = 0 then some (some (.inl 0), (L, zB1, I, J)) else zbt (zin v1 6) (if (I (b + 5) v1.toNatClampNeg) = 0 then some (some (.inl 1), (L, zB1, I, J)) else zbt (zin v1 6) (if (I (b + 5) v1.toNatClampNeg) = 1 then some (some (.inl 1), (L, zB1, I, J)) else some (some (.inl 0), (L, zB1, I, J)))) := by
  rw [zgo_run X C _ _ [0, 5] 16]
  rfl

set_option maxRecDepth 100000 in
theorem bX1_isHoused_0 (X : Nat → Nat → Int32) (C : Nat → List zV → zS → Option zR) (L : List zK) (I : Nat → Nat → Int32) (J : Nat → Nat → Int64) (b : Nat) (a1 : Int32) : zgo X C (some .boolean) kX1_isHoused 0 [some (.inr (.inr (some (.inl 1, b)))), some (.inl a1)] [] (L, zB1, I, J) = cI (C 16 [.inr (.inr (some (.inl 1, b))), .inl a1] (L, zB1, I, J)) (fun r σ => zgo X C (some .boolean) kX1_isHoused 5 [some (.inr (.inr (some (.inl 1, b)))), some (.inl a1)] [.inl r] σ) := by
  rw [zgo_run X C _ _ [0, 5] 4]
  rfl
set_option maxRecDepth 100000 in
theorem bX1_isHoused_5 (X : Nat → Nat → Int32) (C : Nat → List zV → zS → Option zR) (L : List zK) (I : Nat → Nat → Int32) (J : Nat → Nat → Int64) (b : Nat) (v1 : Int32) (s0 : Int32) : zgo X C (some .boolean) kX1_isHoused 5 [some (.inr (.inr (some (.inl 1, b)))), some (.inl v1)] [.inl s0] (L, zB1, I, J) = if s0 = 0 then some (some (.inl 0), (L, zB1, I, J)) else zbt (zin v1 6) (if (I (b + 5) v1.toNatClampNeg) = 1 then some (some (.inl 1), (L, zB1, I, J)) else zbt (zin v1 6) (if (I (b + 5) v1.toNatClampNeg) = 3 then some (some (.inl 1), (L, zB1, I, J)) else some (some (.inl 0), (L, zB1, I, J)))) := by
  rw [zgo_run X C _ _ [0, 5] 17]
  rfl

set_option maxRecDepth 100000 in
theorem bX1_passYears_0 (X : Nat → Nat → Int32) (C : Nat → List zV → zS → Option zR) (L : List zK) (I : Nat → Nat → Int32) (J : Nat → Nat → Int64) (b : Nat) (a1 : Int32) (a2 : Int32) : zgo X C none kX1_passYears 0 [some (.inr (.inr (some (.inl 1, b)))), some (.inl a1), some (.inl a2), none, none, none] [] (L, zB1, I, J) = zgo X C none kX1_passYears 2 [some (.inr (.inr (some (.inl 1, b)))), some (.inl a1), some (.inl a2), some (.inl 0), none, none] [] (L, zB1, I, J) := by
  rw [zgo_run X C _ _ [0, 2, 11, 25, 35, 63] 3]
  rfl
set_option maxRecDepth 100000 in
theorem bX1_passYears_2 (X : Nat → Nat → Int32) (C : Nat → List zV → zS → Option zR) (L : List zK) (I : Nat → Nat → Int32) (J : Nat → Nat → Int64) (b : Nat) (v1 : Int32) (v2 : Int32) (v3 : Int32) (u4 : Option zV) (u5 : Option zV) : zgo X C none kX1_passYears 2 [some (.inr (.inr (some (.inl 1, b)))), some (.inl v1), some (.inl v2), some (.inl v3), u4, u5] [] (L, zB1, I, J) = if v1 ≤ v3 then some (none, (L, zB1, I, J)) else cV (C 21 [.inr (.inr (some (.inl 1, b)))] (L, zB1, I, J)) (fun σ => zgo X C none kX1_passYears 11 [some (.inr (.inr (some (.inl 1, b)))), some (.inl v1), some (.inl v2), some (.inl v3), u4, u5] [] σ) := by
  rw [zgo_run X C _ _ [0, 2, 11, 25, 35, 63] 6]
  rfl
set_option maxRecDepth 100000 in
theorem bX1_passYears_11 (X : Nat → Nat → Int32) (C : Nat → List zV → zS → Option zR) (L : List zK) (I : Nat → Nat → Int32) (J : Nat → Nat → Int64) (b : Nat) (v1 : Int32) (v2 : Int32) (v3 : Int32) (u4 : Option zV) (u5 : Option zV) : zgo X C none kX1_passYears 11 [some (.inr (.inr (some (.inl 1, b)))), some (.inl v1), some (.inl v2), some (.inl v3), u4, u5] [] (L, zB1, I, J) = if (8 : Int32) ≤ v3 then zgo X C none kX1_passYears 25 [some (.inr (.inr (some (.inl 1, b)))), some (.inl v1), some (.inl v2), some (.inl v3), u4, u5] [] (L, zB1, I, J) else if ((v2 >>> (v3 &&& 31)) &&& 1) = 0 then zgo X C none kX1_passYears 25 [some (.inr (.inr (some (.inl 1, b)))), some (.inl v1), some (.inl v2), some (.inl v3), u4, u5] [] (L, zB1, I, J) else zgo X C none kX1_passYears 35 [some (.inr (.inr (some (.inl 1, b)))), some (.inl v1), some (.inl v2), some (.inl v3), some (.inl 0), some (.inl 0)] [] (L, zB1, I, J) := by
  rw [zgo_run X C _ _ [0, 2, 11, 25, 35, 63] 14]
  rfl
set_option maxRecDepth 100000 in
theorem bX1_passYears_25 (X : Nat → Nat → Int32) (C : Nat → List zV → zS → Option zR) (L : List zK) (I : Nat → Nat → Int32) (J : Nat → Nat → Int64) (b : Nat) (v1 : Int32) (v2 : Int32) (v3 : Int32) (u4 : Option zV) (u5 : Option zV) : zgo X C none kX1_passYears 25 [some (.inr (.inr (some (.inl 1, b)))), some (.inl v1), some (.inl v2), some (.inl v3), u4, u5] [] (L, zB1, I, J) = zgo X C none kX1_passYears 35 [some (.inr (.inr (some (.inl 1, b)))), some (.inl v1), some (.inl v2), some (.inl v3), some (.inl 1), some (.inl 0)] [] (L, zB1, I, J) := by
  rw [zgo_run X C _ _ [0, 2, 11, 25, 35, 63] 6]
  rfl
set_option maxRecDepth 100000 in
theorem bX1_passYears_35 (X : Nat → Nat → Int32) (C : Nat → List zV → zS → Option zR) (L : List zK) (I : Nat → Nat → Int32) (J : Nat → Nat → Int64) (b : Nat) (v1 : Int32) (v2 : Int32) (v3 : Int32) (v4 : Int32) (v5 : Int32) : zgo X C none kX1_passYears 35 [some (.inr (.inr (some (.inl 1, b)))), some (.inl v1), some (.inl v2), some (.inl v3), some (.inl v4), some (.inl v5)] [] (L, zB1, I, J) = if (I b 1) ≤ v5 then zgo X C none kX1_passYears 2 [some (.inr (.inr (some (.inl 1, b)))), some (.inl v1), some (.inl v2), some (.inl (v3 + 1)), some (.inl v4), some (.inl v5)] [] (L, zB1, (zup I b 4 ((I b 4) + 1)), J) else zbt (zin v5 6) (if (I (b + 5) v5.toNatClampNeg) = 1 then cV (C 22 [.inr (.inr (some (.inl 1, b))), .inl v5, .inl v4] (L, zB1, I, J)) (fun σ => zgo X C none kX1_passYears 63 [some (.inr (.inr (some (.inl 1, b)))), some (.inl v1), some (.inl v2), some (.inl v3), some (.inl v4), some (.inl v5)] [] σ) else zgo X C none kX1_passYears 63 [some (.inr (.inr (some (.inl 1, b)))), some (.inl v1), some (.inl v2), some (.inl v3), some (.inl v4), some (.inl v5)] [] (L, zB1, I, J)) := by
  rw [zgo_run X C _ _ [0, 2, 11, 25, 35, 63] 15]
  rfl
set_option maxRecDepth 100000 in
theorem bX1_passYears_63 (X : Nat → Nat → Int32) (C : Nat → List zV → zS → Option zR) (L : List zK) (I : Nat → Nat → Int32) (J : Nat → Nat → Int64) (b : Nat) (v1 : Int32) (v2 : Int32) (v3 : Int32) (v4 : Int32) (v5 : Int32) : zgo X C none kX1_passYears 63 [some (.inr (.inr (some (.inl 1, b)))), some (.inl v1), some (.inl v2), some (.inl v3), some (.inl v4), some (.inl v5)] [] (L, zB1, I, J) = zgo X C none kX1_passYears 35 [some (.inr (.inr (some (.inl 1, b)))), some (.inl v1), some (.inl v2), some (.inl v3), some (.inl v4), some (.inl (v5 + 1))] [] (L, zB1, I, J) := by
  rw [zgo_run X C _ _ [0, 2, 11, 25, 35, 63] 3]
  rfl

set_option maxRecDepth 100000 in
theorem bX1_moveIn_0 (X : Nat → Nat → Int32) (C : Nat → List zV → zS → Option zR) (L : List zK) (I : Nat → Nat → Int32) (J : Nat → Nat → Int64) (b : Nat) : zgo X C none kX1_moveIn 0 [some (.inr (.inr (some (.inl 1, b)))), none, none, none] [] (L, zB1, I, J) = zgo X C none kX1_moveIn 4 [some (.inr (.inr (some (.inl 1, b)))), some (.inl 0), some (.inl 0), none] [] (L, zB1, I, J) := by
  rw [zgo_run X C _ _ [0, 4, 17, 30, 52, 79, 86, 87] 5]
  rfl
set_option maxRecDepth 100000 in
theorem bX1_moveIn_4 (X : Nat → Nat → Int32) (C : Nat → List zV → zS → Option zR) (L : List zK) (I : Nat → Nat → Int32) (J : Nat → Nat → Int64) (b : Nat) (v1 : Int32) (v2 : Int32) : zgo X C none kX1_moveIn 4 [some (.inr (.inr (some (.inl 1, b)))), some (.inl v1), some (.inl v2), none] [] (L, zB1, I, J) = if (I b 1) ≤ v2 then zgo X C none kX1_moveIn 52 [some (.inr (.inr (some (.inl 1, b)))), some (.inl v1), some (.inl 0), none] [] (L, zB1, I, J) else cI (C 19 [.inr (.inr (some (.inl 1, b))), .inl v2] (L, zB1, I, J)) (fun r σ => zgo X C none kX1_moveIn 17 [some (.inr (.inr (some (.inl 1, b)))), some (.inl v1), some (.inl v2), none] [.inl r] σ) := by
  rw [zgo_run X C _ _ [0, 4, 17, 30, 52, 79, 86, 87] 8]
  rfl
set_option maxRecDepth 100000 in
theorem bX1_moveIn_17 (X : Nat → Nat → Int32) (C : Nat → List zV → zS → Option zR) (L : List zK) (I : Nat → Nat → Int32) (J : Nat → Nat → Int64) (b : Nat) (v1 : Int32) (v2 : Int32) (s0 : Int32) : zgo X C none kX1_moveIn 17 [some (.inr (.inr (some (.inl 1, b)))), some (.inl v1), some (.inl v2), none] [.inl s0] (L, zB1, I, J) = if s0 = 0 then zgo X C none kX1_moveIn 4 [some (.inr (.inr (some (.inl 1, b)))), some (.inl v1), some (.inl (v2 + 1)), none] [] (L, zB1, I, J) else zbt (zin v2 6) (cI (C 17 [.inr (.inr (some (.inl 1, b))), .inl (I (b + 4) v2.toNatClampNeg)] (L, zB1, I, J)) (fun r σ => zgo X C none kX1_moveIn 30 [some (.inr (.inr (some (.inl 1, b)))), some (.inl v1), some (.inl v2), none] [.inl r] σ)) := by
  rw [zgo_run X C _ _ [0, 4, 17, 30, 52, 79, 86, 87] 8]
  rfl
set_option maxRecDepth 100000 in
theorem bX1_moveIn_30 (X : Nat → Nat → Int32) (C : Nat → List zV → zS → Option zR) (L : List zK) (I : Nat → Nat → Int32) (J : Nat → Nat → Int64) (b : Nat) (v1 : Int32) (v2 : Int32) (s0 : Int32) : zgo X C none kX1_moveIn 30 [some (.inr (.inr (some (.inl 1, b)))), some (.inl v1), some (.inl v2), none] [.inl s0] (L, zB1, I, J) = if s0 = 0 then zgo X C none kX1_moveIn 4 [some (.inr (.inr (some (.inl 1, b)))), some (.inl v1), some (.inl (v2 + 1)), none] [] (L, zB1, I, J) else zbt (zin v2 6) (zgo X C none kX1_moveIn 4 [some (.inr (.inr (some (.inl 1, b)))), some (.inl (v1 ||| (1 <<< ((I (b + 4) v2.toNatClampNeg) &&& 31)))), some (.inl (v2 + 1)), none] [] (L, zB1, I, J)) := by
  rw [zgo_run X C _ _ [0, 4, 17, 30, 52, 79, 86, 87] 13]
  rfl
set_option maxRecDepth 100000 in
theorem bX1_moveIn_52 (X : Nat → Nat → Int32) (C : Nat → List zV → zS → Option zR) (L : List zK) (I : Nat → Nat → Int32) (J : Nat → Nat → Int64) (b : Nat) (v1 : Int32) (v2 : Int32) (u3 : Option zV) : zgo X C none kX1_moveIn 52 [some (.inr (.inr (some (.inl 1, b)))), some (.inl v1), some (.inl v2), u3] [] (L, zB1, I, J) = if (I b 1) ≤ v2 then some (none, (L, zB1, I, J)) else zbt (zin v2 6) (if (I (b + 5) v2.toNatClampNeg) = 0 then zbt (zin v2 6) (cI (C 17 [.inr (.inr (some (.inl 1, b))), .inl (I (b + 4) v2.toNatClampNeg)] (L, zB1, I, J)) (fun r σ => zgo X C none kX1_moveIn 79 [some (.inr (.inr (some (.inl 1, b)))), some (.inl v1), some (.inl v2), u3] [.inl r] σ)) else zgo X C none kX1_moveIn 86 [some (.inr (.inr (some (.inl 1, b)))), some (.inl v1), some (.inl v2), u3] [] (L, zB1, I, J)) := by
  rw [zgo_run X C _ _ [0, 4, 17, 30, 52, 79, 86, 87] 16]
  rfl
set_option maxRecDepth 100000 in
theorem bX1_moveIn_79 (X : Nat → Nat → Int32) (C : Nat → List zV → zS → Option zR) (L : List zK) (I : Nat → Nat → Int32) (J : Nat → Nat → Int64) (b : Nat) (v1 : Int32) (v2 : Int32) (u3 : Option zV) (s0 : Int32) : zgo X C none kX1_moveIn 79 [some (.inr (.inr (some (.inl 1, b)))), some (.inl v1), some (.inl v2), u3] [.inl s0] (L, zB1, I, J) = if s0 = 0 then zgo X C none kX1_moveIn 86 [some (.inr (.inr (some (.inl 1, b)))), some (.inl v1), some (.inl v2), u3] [] (L, zB1, I, J) else zgo X C none kX1_moveIn 87 [some (.inr (.inr (some (.inl 1, b)))), some (.inl v1), some (.inl v2), u3] [.inl 1] (L, zB1, I, J) := by
  rw [zgo_run X C _ _ [0, 4, 17, 30, 52, 79, 86, 87] 4]
  rfl
set_option maxRecDepth 100000 in
theorem bX1_moveIn_86 (X : Nat → Nat → Int32) (C : Nat → List zV → zS → Option zR) (L : List zK) (I : Nat → Nat → Int32) (J : Nat → Nat → Int64) (b : Nat) (v1 : Int32) (v2 : Int32) (u3 : Option zV) : zgo X C none kX1_moveIn 86 [some (.inr (.inr (some (.inl 1, b)))), some (.inl v1), some (.inl v2), u3] [] (L, zB1, I, J) = zgo X C none kX1_moveIn 87 [some (.inr (.inr (some (.inl 1, b)))), some (.inl v1), some (.inl v2), u3] [.inl 0] (L, zB1, I, J) := by
  rw [zgo_run X C _ _ [0, 4, 17, 30, 52, 79, 86, 87] 2]
  rfl
set_option maxRecDepth 100000 in
theorem bX1_moveIn_87 (X : Nat → Nat → Int32) (C : Nat → List zV → zS → Option zR) (L : List zK) (I : Nat → Nat → Int32) (J : Nat → Nat → Int64) (b : Nat) (v1 : Int32) (v2 : Int32) (u3 : Option zV) (s0 : Int32) : zgo X C none kX1_moveIn 87 [some (.inr (.inr (some (.inl 1, b)))), some (.inl v1), some (.inl v2), u3] [.inl s0] (L, zB1, I, J) = if s0 = 0 then zgo X C none kX1_moveIn 52 [some (.inr (.inr (some (.inl 1, b)))), some (.inl v1), some (.inl (v2 + 1)), some (.inl s0)] [] (L, zB1, I, J) else zbt (zin v2 6) (if ((v1 >>> ((I (b + 4) v2.toNatClampNeg) &&& 31)) &&& 1) = 0 then zbt (zin v2 6) (zbt (zin v2 6) (zgo X C none kX1_moveIn 52 [some (.inr (.inr (some (.inl 1, b)))), some (.inl (v1 ||| (1 <<< (((zup I (b + 5) v2.toNatClampNeg 1) (b + 4) v2.toNatClampNeg) &&& 31)))), some (.inl (v2 + 1)), some (.inl s0)] [] (L, zB1, (zup I (b + 5) v2.toNatClampNeg 1), J))) else zgo X C none kX1_moveIn 52 [some (.inr (.inr (some (.inl 1, b)))), some (.inl v1), some (.inl (v2 + 1)), some (.inl s0)] [] (L, zB1, I, J)) := by
  rw [zgo_run X C _ _ [0, 4, 17, 30, 52, 79, 86, 87] 29]
  rfl

set_option maxRecDepth 100000 in
theorem bX1_liveBeside_0 (X : Nat → Nat → Int32) (C : Nat → List zV → zS → Option zR) (L : List zK) (I : Nat → Nat → Int32) (J : Nat → Nat → Int64) (b : Nat) (a1 : Int32) (a2 : Int32) : zgo X C none kX1_liveBeside 0 [some (.inr (.inr (some (.inl 1, b)))), some (.inl a1), some (.inl a2)] [] (L, zB1, I, J) = cI (C 16 [.inr (.inr (some (.inl 1, b))), .inl a1] (L, zB1, I, J)) (fun r σ => zgo X C none kX1_liveBeside 5 [some (.inr (.inr (some (.inl 1, b)))), some (.inl a1), some (.inl a2)] [.inl r] σ) := by
  rw [zgo_run X C _ _ [0, 5, 31, 35, 36] 4]
  rfl
set_option maxRecDepth 100000 in
theorem bX1_liveBeside_5 (X : Nat → Nat → Int32) (C : Nat → List zV → zS → Option zR) (L : List zK) (I : Nat → Nat → Int32) (J : Nat → Nat → Int64) (b : Nat) (v1 : Int32) (v2 : Int32) (s0 : Int32) : zgo X C none kX1_liveBeside 5 [some (.inr (.inr (some (.inl 1, b)))), some (.inl v1), some (.inl v2)] [.inl s0] (L, zB1, I, J) = if s0 = 0 then some (none, (L, zB1, I, J)) else if v2 = 0 then zgo X C none kX1_liveBeside 36 [some (.inr (.inr (some (.inl 1, b)))), some (.inl v1), some (.inl v2)] [] (L, zB1, I, J) else zbt (zin v1 6) (cI (C 23 [.inr (.inr (some (.inl 1, b))), .inl v1] (L, zB1, I, J)) (fun r σ => zgo X C none kX1_liveBeside 31 [some (.inr (.inr (some (.inl 1, b)))), some (.inl v1), some (.inl v2)] [.inl r, .inl (I (b + 7) v1.toNatClampNeg), .inl 99, .inl v1, .inr (.inr (some (.inr (.int, 6), b + 7)))] σ)) := by
  rw [zgo_run X C _ _ [0, 5, 31, 35, 36] 15]
  rfl
set_option maxRecDepth 100000 in
theorem bX1_liveBeside_31 (X : Nat → Nat → Int32) (C : Nat → List zV → zS → Option zR) (L : List zK) (I : Nat → Nat → Int32) (J : Nat → Nat → Int64) (b : Nat) (v1 : Int32) (v2 : Int32) (s0 : Int32) (s1 : Int32) (s2 : Int32) (s3 : Int32) (qs4 : Nat) : zgo X C none kX1_liveBeside 31 [some (.inr (.inr (some (.inl 1, b)))), some (.inl v1), some (.inl v2)] [.inl s0, .inl s1, .inl s2, .inl s3, .inr (.inr (some (.inr (.int, 6), qs4)))] (L, zB1, I, J) = cI (C 3 [.inl s2, .inl (s1 + s0)] (L, zB1, I, J)) (fun r σ => zgo X C none kX1_liveBeside 35 [some (.inr (.inr (some (.inl 1, b)))), some (.inl v1), some (.inl v2)] [.inl r, .inl s3, .inr (.inr (some (.inr (.int, 6), qs4)))] σ) := by
  rw [zgo_run X C _ _ [0, 5, 31, 35, 36] 3]
  rfl
set_option maxRecDepth 100000 in
theorem bX1_liveBeside_35 (X : Nat → Nat → Int32) (C : Nat → List zV → zS → Option zR) (L : List zK) (I : Nat → Nat → Int32) (J : Nat → Nat → Int64) (b : Nat) (v1 : Int32) (v2 : Int32) (s0 : Int32) (s1 : Int32) (qs2 : Nat) : zgo X C none kX1_liveBeside 35 [some (.inr (.inr (some (.inl 1, b)))), some (.inl v1), some (.inl v2)] [.inl s0, .inl s1, .inr (.inr (some (.inr (.int, 6), qs2)))] (L, zB1, I, J) = zbt (zin s1 6) (zgo X C none kX1_liveBeside 36 [some (.inr (.inr (some (.inl 1, b)))), some (.inl v1), some (.inl v2)] [] (L, zB1, (zup I qs2 s1.toNatClampNeg s0), J)) := by
  rw [zgo_run X C _ _ [0, 5, 31, 35, 36] 2]
  rfl
set_option maxRecDepth 100000 in
theorem bX1_liveBeside_36 (X : Nat → Nat → Int32) (C : Nat → List zV → zS → Option zR) (L : List zK) (I : Nat → Nat → Int32) (J : Nat → Nat → Int64) (b : Nat) (v1 : Int32) (v2 : Int32) : zgo X C none kX1_liveBeside 36 [some (.inr (.inr (some (.inl 1, b)))), some (.inl v1), some (.inl v2)] [] (L, zB1, I, J) = zbt (zin v1 6) (if (I (b + 3) v1.toNatClampNeg) = 2 then some (none, (L, zB1, I, J)) else zbt (zin v1 6) (zbt (zin v1 6) (zbt (zin v1 6) (if 0 < ((zup I (b + 6) v1.toNatClampNeg ((I (b + 6) v1.toNatClampNeg) - 1)) (b + 6) v1.toNatClampNeg) then some (none, (L, zB1, (zup I (b + 6) v1.toNatClampNeg ((I (b + 6) v1.toNatClampNeg) - 1)), J)) else zbt (zin v1 6) (zbt (zin v1 6) (if ((zup (zup I (b + 6) v1.toNatClampNeg ((I (b + 6) v1.toNatClampNeg) - 1)) (b + 6) v1.toNatClampNeg 0) (b + 7) v1.toNatClampNeg) < ((zup (zup I (b + 6) v1.toNatClampNeg ((I (b + 6) v1.toNatClampNeg) - 1)) (b + 6) v1.toNatClampNeg 0) b 3) then zbt (zin v1 6) (some (none, (L, zB1, (zup (zup (zup I (b + 6) v1.toNatClampNeg ((I (b + 6) v1.toNatClampNeg) - 1)) (b + 6) v1.toNatClampNeg 0) (b + 5) v1.toNatClampNeg 2), J))) else zbt (zin v1 6) (some (none, (L, zB1, (zup (zup (zup I (b + 6) v1.toNatClampNeg ((I (b + 6) v1.toNatClampNeg) - 1)) (b + 6) v1.toNatClampNeg 0) (b + 5) v1.toNatClampNeg 3), J))))))))) := by
  rw [zgo_run X C _ _ [0, 5, 31, 35, 36] 39]
  rfl

set_option maxRecDepth 100000 in
theorem bX1_growthOf_0 (X : Nat → Nat → Int32) (C : Nat → List zV → zS → Option zR) (L : List zK) (I : Nat → Nat → Int32) (J : Nat → Nat → Int64) (b : Nat) (a1 : Int32) : zgo X C (some .int) kX1_growthOf 0 [some (.inr (.inr (some (.inl 1, b)))), some (.inl a1), none, none, none, none] [] (L, zB1, I, J) = cI (C 16 [.inr (.inr (some (.inl 1, b))), .inl a1] (L, zB1, I, J)) (fun r σ => zgo X C (some .int) kX1_growthOf 5 [some (.inr (.inr (some (.inl 1, b)))), some (.inl a1), none, none, none, none] [.inl r] σ) := by
  rw [zgo_run X C _ _ [0, 5, 18, 59, 73] 4]
  rfl
set_option maxRecDepth 100000 in
theorem bX1_growthOf_5 (X : Nat → Nat → Int32) (C : Nat → List zV → zS → Option zR) (L : List zK) (I : Nat → Nat → Int32) (J : Nat → Nat → Int64) (b : Nat) (v1 : Int32) (s0 : Int32) : zgo X C (some .int) kX1_growthOf 5 [some (.inr (.inr (some (.inl 1, b)))), some (.inl v1), none, none, none, none] [.inl s0] (L, zB1, I, J) = if s0 = 0 then some (some (.inl 0), (L, zB1, I, J)) else zbt (zin v1 6) (cI (C 17 [.inr (.inr (some (.inl 1, b))), .inl (I (b + 4) v1.toNatClampNeg)] (L, zB1, I, J)) (fun r σ => zgo X C (some .int) kX1_growthOf 18 [some (.inr (.inr (some (.inl 1, b)))), some (.inl v1), none, none, none, none] [.inl r] σ)) := by
  rw [zgo_run X C _ _ [0, 5, 18, 59, 73] 8]
  rfl
set_option maxRecDepth 100000 in
theorem bX1_growthOf_18 (X : Nat → Nat → Int32) (C : Nat → List zV → zS → Option zR) (L : List zK) (I : Nat → Nat → Int32) (J : Nat → Nat → Int64) (b : Nat) (v1 : Int32) (s0 : Int32) : zgo X C (some .int) kX1_growthOf 18 [some (.inr (.inr (some (.inl 1, b)))), some (.inl v1), none, none, none, none] [.inl s0] (L, zB1, I, J) = if s0 = 0 then some (some (.inl 0), (L, zB1, I, J)) else zbt (zin v1 6) (zbt (zin (I (b + 4) v1.toNatClampNeg) 4) (zbt (zin v1 6) (zbt (zin (I (b + 4) v1.toNatClampNeg) 4) (if (3 : Int32) = 0 then none else cI (C 2 [.inl 0, .inl ((I b 2) - ((I (b + 1) (I (b + 4) v1.toNatClampNeg).toNatClampNeg) / 3))] (L, zB1, I, J)) (fun r σ => zgo X C (some .int) kX1_growthOf 59 [some (.inr (.inr (some (.inl 1, b)))), some (.inl v1), some (.inl (I (b + 1) (I (b + 4) v1.toNatClampNeg).toNatClampNeg)), some (.inl (I (b + 2) (I (b + 4) v1.toNatClampNeg).toNatClampNeg)), none, none] [.inl r] σ))))) := by
  rw [zgo_run X C _ _ [0, 5, 18, 59, 73] 26]
  rfl
set_option maxRecDepth 100000 in
theorem bX1_growthOf_59 (X : Nat → Nat → Int32) (C : Nat → List zV → zS → Option zR) (L : List zK) (I : Nat → Nat → Int32) (J : Nat → Nat → Int64) (b : Nat) (v1 : Int32) (v2 : Int32) (v3 : Int32) (s0 : Int32) : zgo X C (some .int) kX1_growthOf 59 [some (.inr (.inr (some (.inl 1, b)))), some (.inl v1), some (.inl v2), some (.inl v3), none, none] [.inl s0] (L, zB1, I, J) = if v3 = 1 then zgo X C (some .int) kX1_growthOf 73 [some (.inr (.inr (some (.inl 1, b)))), some (.inl v1), some (.inl v2), some (.inl v3), some (.inl (s0 + v3)), none] [.inl v2] (L, zB1, I, J) else zgo X C (some .int) kX1_growthOf 73 [some (.inr (.inr (some (.inl 1, b)))), some (.inl v1), some (.inl v2), some (.inl v3), some (.inl (s0 + v3)), none] [.inl 0] (L, zB1, I, J) := by
  rw [zgo_run X C _ _ [0, 5, 18, 59, 73] 9]
  rfl
set_option maxRecDepth 100000 in
theorem bX1_growthOf_73 (X : Nat → Nat → Int32) (C : Nat → List zV → zS → Option zR) (L : List zK) (I : Nat → Nat → Int32) (J : Nat → Nat → Int64) (b : Nat) (v1 : Int32) (v2 : Int32) (v3 : Int32) (v4 : Int32) (s0 : Int32) : zgo X C (some .int) kX1_growthOf 73 [some (.inr (.inr (some (.inl 1, b)))), some (.inl v1), some (.inl v2), some (.inl v3), some (.inl v4), none] [.inl s0] (L, zB1, I, J) = zbt (zin v1 6) (if (I (b + 3) v1.toNatClampNeg) = 1 then some (some (.inl v4), (L, zB1, I, J)) else if (I (b + 3) v1.toNatClampNeg) = 2 then some (some (.inl v4), (L, zB1, I, J)) else if (I (b + 3) v1.toNatClampNeg) = 3 then if (2 : Int32) = 0 then none else if ((I b 4) - (I b 4) / 2 * 2) = 1 then some (some (.inl (2 * v4)), (L, zB1, I, J)) else some (some (.inl v4), (L, zB1, I, J)) else if (I (b + 3) v1.toNatClampNeg) = 4 then some (some (.inl s0), (L, zB1, I, J)) else if (I (b + 3) v1.toNatClampNeg) = 5 then some (some (.inl (s0 + 1)), (L, zB1, I, J)) else some (some (.inl 0), (L, zB1, I, J))) := by
  rw [zgo_run X C _ _ [0, 5, 18, 59, 73] 18]
  rfl

set_option maxRecDepth 100000 in
theorem bX1_tryAgain_0 (X : Nat → Nat → Int32) (C : Nat → List zV → zS → Option zR) (L : List zK) (I : Nat → Nat → Int32) (J : Nat → Nat → Int64) (b : Nat) (a1 : Int32) (a2 : Int32) (a3 : Int32) : zgo X C none kX1_tryAgain 0 [some (.inr (.inr (some (.inl 1, b)))), some (.inl a1), some (.inl a2), some (.inl a3)] [] (L, zB1, I, J) = cI (C 16 [.inr (.inr (some (.inl 1, b))), .inl a1] (L, zB1, I, J)) (fun r σ => zgo X C none kX1_tryAgain 5 [some (.inr (.inr (some (.inl 1, b)))), some (.inl a1), some (.inl a2), some (.inl a3)] [.inl r] σ) := by
  rw [zgo_run X C _ _ [0, 5, 13] 4]
  rfl
set_option maxRecDepth 100000 in
theorem bX1_tryAgain_5 (X : Nat → Nat → Int32) (C : Nat → List zV → zS → Option zR) (L : List zK) (I : Nat → Nat → Int32) (J : Nat → Nat → Int64) (b : Nat) (v1 : Int32) (v2 : Int32) (v3 : Int32) (s0 : Int32) : zgo X C none kX1_tryAgain 5 [some (.inr (.inr (some (.inl 1, b)))), some (.inl v1), some (.inl v2), some (.inl v3)] [.inl s0] (L, zB1, I, J) = if s0 = 0 then some (none, (L, zB1, I, J)) else cI (C 17 [.inr (.inr (some (.inl 1, b))), .inl v2] (L, zB1, I, J)) (fun r σ => zgo X C none kX1_tryAgain 13 [some (.inr (.inr (some (.inl 1, b)))), some (.inl v1), some (.inl v2), some (.inl v3)] [.inl r] σ) := by
  rw [zgo_run X C _ _ [0, 5, 13] 5]
  rfl
set_option maxRecDepth 100000 in
theorem bX1_tryAgain_13 (X : Nat → Nat → Int32) (C : Nat → List zV → zS → Option zR) (L : List zK) (I : Nat → Nat → Int32) (J : Nat → Nat → Int64) (b : Nat) (v1 : Int32) (v2 : Int32) (v3 : Int32) (s0 : Int32) : zgo X C none kX1_tryAgain 13 [some (.inr (.inr (some (.inl 1, b)))), some (.inl v1), some (.inl v2), some (.inl v3)] [.inl s0] (L, zB1, I, J) = if s0 = 0 then some (none, (L, zB1, I, J)) else zbt (zin v1 6) (zbt (zin v1 6) (zbt (zin v1 6) (some (none, (L, zB1, (zup (zup (zup I (b + 5) v1.toNatClampNeg 0) (b + 4) v1.toNatClampNeg v2) (b + 6) v1.toNatClampNeg v3), J))))) := by
  rw [zgo_run X C _ _ [0, 5, 13] 18]
  rfl

set_option maxRecDepth 100000 in
theorem bX1_letOff_0 (X : Nat → Nat → Int32) (C : Nat → List zV → zS → Option zR) (L : List zK) (I : Nat → Nat → Int32) (J : Nat → Nat → Int64) (b : Nat) (a1 : Int32) : zgo X C none kX1_letOff 0 [some (.inr (.inr (some (.inl 1, b)))), some (.inl a1), none] [] (L, zB1, I, J) = zgo X C none kX1_letOff 2 [some (.inr (.inr (some (.inl 1, b)))), some (.inl a1), some (.inl 0)] [] (L, zB1, I, J) := by
  rw [zgo_run X C _ _ [0, 2] 3]
  rfl
set_option maxRecDepth 100000 in
theorem bX1_letOff_2 (X : Nat → Nat → Int32) (C : Nat → List zV → zS → Option zR) (L : List zK) (I : Nat → Nat → Int32) (J : Nat → Nat → Int64) (b : Nat) (v1 : Int32) (v2 : Int32) : zgo X C none kX1_letOff 2 [some (.inr (.inr (some (.inl 1, b)))), some (.inl v1), some (.inl v2)] [] (L, zB1, I, J) = if (I b 1) ≤ v2 then some (none, (L, zB1, I, J)) else if ((v1 >>> (v2 &&& 31)) &&& 1) = 1 then zbt (zin v2 6) (zbt (zin v2 6) (zgo X C none kX1_letOff 2 [some (.inr (.inr (some (.inl 1, b)))), some (.inl v1), some (.inl (v2 + 1))] [] (L, zB1, (zup (zup I (b + 5) v2.toNatClampNeg 2) (b + 6) v2.toNatClampNeg 0), J))) else zgo X C none kX1_letOff 2 [some (.inr (.inr (some (.inl 1, b)))), some (.inl v1), some (.inl (v2 + 1))] [] (L, zB1, I, J) := by
  rw [zgo_run X C _ _ [0, 2] 24]
  rfl

set_option maxRecDepth 100000 in
theorem bX1_whoAre_0 (X : Nat → Nat → Int32) (C : Nat → List zV → zS → Option zR) (L : List zK) (I : Nat → Nat → Int32) (J : Nat → Nat → Int64) (b : Nat) (a1 : Int32) : zgo X C (some .int) kX1_whoAre 0 [some (.inr (.inr (some (.inl 1, b)))), some (.inl a1), none, none] [] (L, zB1, I, J) = zgo X C (some .int) kX1_whoAre 4 [some (.inr (.inr (some (.inl 1, b)))), some (.inl a1), some (.inl 0), some (.inl 0)] [] (L, zB1, I, J) := by
  rw [zgo_run X C _ _ [0, 4] 5]
  rfl
set_option maxRecDepth 100000 in
theorem bX1_whoAre_4 (X : Nat → Nat → Int32) (C : Nat → List zV → zS → Option zR) (L : List zK) (I : Nat → Nat → Int32) (J : Nat → Nat → Int64) (b : Nat) (v1 : Int32) (v2 : Int32) (v3 : Int32) : zgo X C (some .int) kX1_whoAre 4 [some (.inr (.inr (some (.inl 1, b)))), some (.inl v1), some (.inl v2), some (.inl v3)] [] (L, zB1, I, J) = if (I b 1) ≤ v3 then some (some (.inl v2), (L, zB1, I, J)) else zbt (zin v3 6) (if (I (b + 5) v3.toNatClampNeg) = v1 then zgo X C (some .int) kX1_whoAre 4 [some (.inr (.inr (some (.inl 1, b)))), some (.inl v1), some (.inl (v2 ||| (1 <<< (v3 &&& 31)))), some (.inl (v3 + 1))] [] (L, zB1, I, J) else zgo X C (some .int) kX1_whoAre 4 [some (.inr (.inr (some (.inl 1, b)))), some (.inl v1), some (.inl v2), some (.inl (v3 + 1))] [] (L, zB1, I, J)) := by
  rw [zgo_run X C _ _ [0, 4] 19]
  rfl

set_option maxRecDepth 100000 in
theorem bX1_neighbourOf_0 (X : Nat → Nat → Int32) (C : Nat → List zV → zS → Option zR) (L : List zK) (I : Nat → Nat → Int32) (J : Nat → Nat → Int64) (b : Nat) (a1 : Int32) : zgo X C (some .int) kX1_neighbourOf 0 [some (.inr (.inr (some (.inl 1, b)))), some (.inl a1), none] [] (L, zB1, I, J) = zgo X C (some .int) kX1_neighbourOf 2 [some (.inr (.inr (some (.inl 1, b)))), some (.inl a1), some (.inl 0)] [] (L, zB1, I, J) := by
  rw [zgo_run X C _ _ [0, 2, 25] 3]
  rfl
set_option maxRecDepth 100000 in
theorem bX1_neighbourOf_2 (X : Nat → Nat → Int32) (C : Nat → List zV → zS → Option zR) (L : List zK) (I : Nat → Nat → Int32) (J : Nat → Nat → Int64) (b : Nat) (v1 : Int32) (v2 : Int32) : zgo X C (some .int) kX1_neighbourOf 2 [some (.inr (.inr (some (.inl 1, b)))), some (.inl v1), some (.inl v2)] [] (L, zB1, I, J) = if (I b 1) ≤ v2 then some (some (.inl (-1000000)), (L, zB1, I, J)) else zbt (zin v2 6) (if (I (b + 4) v2.toNatClampNeg) = v1 then cI (C 19 [.inr (.inr (some (.inl 1, b))), .inl v2] (L, zB1, I, J)) (fun r σ => zgo X C (some .int) kX1_neighbourOf 25 [some (.inr (.inr (some (.inl 1, b)))), some (.inl v1), some (.inl v2)] [.inl r] σ) else zgo X C (some .int) kX1_neighbourOf 2 [some (.inr (.inr (some (.inl 1, b)))), some (.inl v1), some (.inl (v2 + 1))] [] (L, zB1, I, J)) := by
  rw [zgo_run X C _ _ [0, 2, 25] 14]
  rfl
set_option maxRecDepth 100000 in
theorem bX1_neighbourOf_25 (X : Nat → Nat → Int32) (C : Nat → List zV → zS → Option zR) (L : List zK) (I : Nat → Nat → Int32) (J : Nat → Nat → Int64) (b : Nat) (v1 : Int32) (v2 : Int32) (s0 : Int32) : zgo X C (some .int) kX1_neighbourOf 25 [some (.inr (.inr (some (.inl 1, b)))), some (.inl v1), some (.inl v2)] [.inl s0] (L, zB1, I, J) = if s0 = 0 then zgo X C (some .int) kX1_neighbourOf 2 [some (.inr (.inr (some (.inl 1, b)))), some (.inl v1), some (.inl (v2 + 1))] [] (L, zB1, I, J) else some (some (.inl v2), (L, zB1, I, J)) := by
  rw [zgo_run X C _ _ [0, 2, 25] 4]
  rfl

set_option maxRecDepth 100000 in
theorem bX1_waitersFor_0 (X : Nat → Nat → Int32) (C : Nat → List zV → zS → Option zR) (L : List zK) (I : Nat → Nat → Int32) (J : Nat → Nat → Int64) (b : Nat) (a1 : Int32) : zgo X C (some .int) kX1_waitersFor 0 [some (.inr (.inr (some (.inl 1, b)))), some (.inl a1), none, none] [] (L, zB1, I, J) = zgo X C (some .int) kX1_waitersFor 4 [some (.inr (.inr (some (.inl 1, b)))), some (.inl a1), some (.inl 0), some (.inl 0)] [] (L, zB1, I, J) := by
  rw [zgo_run X C _ _ [0, 4] 5]
  rfl
set_option maxRecDepth 100000 in
theorem bX1_waitersFor_4 (X : Nat → Nat → Int32) (C : Nat → List zV → zS → Option zR) (L : List zK) (I : Nat → Nat → Int32) (J : Nat → Nat → Int64) (b : Nat) (v1 : Int32) (v2 : Int32) (v3 : Int32) : zgo X C (some .int) kX1_waitersFor 4 [some (.inr (.inr (some (.inl 1, b)))), some (.inl v1), some (.inl v2), some (.inl v3)] [] (L, zB1, I, J) = if (I b 1) ≤ v3 then some (some (.inl v2), (L, zB1, I, J)) else zbt (zin v3 6) (if (I (b + 4) v3.toNatClampNeg) = v1 then zbt (zin v3 6) (if (I (b + 5) v3.toNatClampNeg) = 0 then zgo X C (some .int) kX1_waitersFor 4 [some (.inr (.inr (some (.inl 1, b)))), some (.inl v1), some (.inl (v2 ||| (1 <<< (v3 &&& 31)))), some (.inl (v3 + 1))] [] (L, zB1, I, J) else zgo X C (some .int) kX1_waitersFor 4 [some (.inr (.inr (some (.inl 1, b)))), some (.inl v1), some (.inl v2), some (.inl (v3 + 1))] [] (L, zB1, I, J)) else zgo X C (some .int) kX1_waitersFor 4 [some (.inr (.inr (some (.inl 1, b)))), some (.inl v1), some (.inl v2), some (.inl (v3 + 1))] [] (L, zB1, I, J)) := by
  rw [zgo_run X C _ _ [0, 4] 24]
  rfl

set_option maxRecDepth 100000 in
theorem bX1_trustOfAll_0 (X : Nat → Nat → Int32) (C : Nat → List zV → zS → Option zR) (L : List zK) (I : Nat → Nat → Int32) (J : Nat → Nat → Int64) (b : Nat) : zgo X C (some .int) kX1_trustOfAll 0 [some (.inr (.inr (some (.inl 1, b)))), none, none] [] (L, zB1, I, J) = zgo X C (some .int) kX1_trustOfAll 4 [some (.inr (.inr (some (.inl 1, b)))), some (.inl 0), some (.inl 0)] [] (L, zB1, I, J) := by
  rw [zgo_run X C _ _ [0, 4] 5]
  rfl
set_option maxRecDepth 100000 in
theorem bX1_trustOfAll_4 (X : Nat → Nat → Int32) (C : Nat → List zV → zS → Option zR) (L : List zK) (I : Nat → Nat → Int32) (J : Nat → Nat → Int64) (b : Nat) (v1 : Int32) (v2 : Int32) : zgo X C (some .int) kX1_trustOfAll 4 [some (.inr (.inr (some (.inl 1, b)))), some (.inl v1), some (.inl v2)] [] (L, zB1, I, J) = if (I b 1) ≤ v2 then some (some (.inl v1), (L, zB1, I, J)) else zbt (zin v2 6) (zgo X C (some .int) kX1_trustOfAll 4 [some (.inr (.inr (some (.inl 1, b)))), some (.inl (v1 + (I (b + 7) v2.toNatClampNeg))), some (.inl (v2 + 1))] [] (L, zB1, I, J)) := by
  rw [zgo_run X C _ _ [0, 4] 14]
  rfl

set_option maxRecDepth 100000 in
theorem bX1_trustTowards_0 (X : Nat → Nat → Int32) (C : Nat → List zV → zS → Option zR) (L : List zK) (I : Nat → Nat → Int32) (J : Nat → Nat → Int64) (b : Nat) (a1 : Int32) : zgo X C (some .int) kX1_trustTowards 0 [some (.inr (.inr (some (.inl 1, b)))), some (.inl a1), none, none] [] (L, zB1, I, J) = zgo X C (some .int) kX1_trustTowards 4 [some (.inr (.inr (some (.inl 1, b)))), some (.inl a1), some (.inl 0), some (.inl 0)] [] (L, zB1, I, J) := by
  rw [zgo_run X C _ _ [0, 4, 33] 5]
  rfl
set_option maxRecDepth 100000 in
theorem bX1_trustTowards_4 (X : Nat → Nat → Int32) (C : Nat → List zV → zS → Option zR) (L : List zK) (I : Nat → Nat → Int32) (J : Nat → Nat → Int64) (b : Nat) (v1 : Int32) (v2 : Int32) (v3 : Int32) : zgo X C (some .int) kX1_trustTowards 4 [some (.inr (.inr (some (.inl 1, b)))), some (.inl v1), some (.inl v2), some (.inl v3)] [] (L, zB1, I, J) = if (I b 1) ≤ v3 then some (some (.inl v2), (L, zB1, I, J)) else zbt (zin v3 6) (if (I (b + 4) v3.toNatClampNeg) = v1 then zbt (zin v3 6) (zgo X C (some .int) kX1_trustTowards 33 [some (.inr (.inr (some (.inl 1, b)))), some (.inl v1), some (.inl v2), some (.inl v3)] [.inl (I (b + 7) v3.toNatClampNeg), .inl v2] (L, zB1, I, J)) else zgo X C (some .int) kX1_trustTowards 33 [some (.inr (.inr (some (.inl 1, b)))), some (.inl v1), some (.inl v2), some (.inl v3)] [.inl 0, .inl v2] (L, zB1, I, J)) := by
  rw [zgo_run X C _ _ [0, 4, 33] 17]
  rfl
set_option maxRecDepth 100000 in
theorem bX1_trustTowards_33 (X : Nat → Nat → Int32) (C : Nat → List zV → zS → Option zR) (L : List zK) (I : Nat → Nat → Int32) (J : Nat → Nat → Int64) (b : Nat) (v1 : Int32) (v2 : Int32) (v3 : Int32) (s0 : Int32) (s1 : Int32) : zgo X C (some .int) kX1_trustTowards 33 [some (.inr (.inr (some (.inl 1, b)))), some (.inl v1), some (.inl v2), some (.inl v3)] [.inl s0, .inl s1] (L, zB1, I, J) = zgo X C (some .int) kX1_trustTowards 4 [some (.inr (.inr (some (.inl 1, b)))), some (.inl v1), some (.inl (s1 + s0)), some (.inl (v3 + 1))] [] (L, zB1, I, J) := by
  rw [zgo_run X C _ _ [0, 4, 33] 5]
  rfl

set_option maxRecDepth 100000 in
theorem bX1_doneWith_0 (X : Nat → Nat → Int32) (C : Nat → List zV → zS → Option zR) (L : List zK) (I : Nat → Nat → Int32) (J : Nat → Nat → Int64) (b : Nat) (a1 : Int32) : zgo X C (some .int) kX1_doneWith 0 [some (.inr (.inr (some (.inl 1, b)))), some (.inl a1), none, none] [] (L, zB1, I, J) = zgo X C (some .int) kX1_doneWith 4 [some (.inr (.inr (some (.inl 1, b)))), some (.inl a1), some (.inl 0), some (.inl 0)] [] (L, zB1, I, J) := by
  rw [zgo_run X C _ _ [0, 4, 28, 35, 36] 5]
  rfl
set_option maxRecDepth 100000 in
theorem bX1_doneWith_4 (X : Nat → Nat → Int32) (C : Nat → List zV → zS → Option zR) (L : List zK) (I : Nat → Nat → Int32) (J : Nat → Nat → Int64) (b : Nat) (v1 : Int32) (v2 : Int32) (v3 : Int32) : zgo X C (some .int) kX1_doneWith 4 [some (.inr (.inr (some (.inl 1, b)))), some (.inl v1), some (.inl v2), some (.inl v3)] [] (L, zB1, I, J) = if (I b 1) ≤ v3 then some (some (.inl v2), (L, zB1, I, J)) else zbt (zin v3 6) (if (I (b + 4) v3.toNatClampNeg) = v1 then cI (C 18 [.inr (.inr (some (.inl 1, b))), .inl v3] (L, zB1, I, J)) (fun r σ => zgo X C (some .int) kX1_doneWith 28 [some (.inr (.inr (some (.inl 1, b)))), some (.inl v1), some (.inl v2), some (.inl v3)] [.inl r, .inl v2] σ) else zgo X C (some .int) kX1_doneWith 35 [some (.inr (.inr (some (.inl 1, b)))), some (.inl v1), some (.inl v2), some (.inl v3)] [.inl v2] (L, zB1, I, J)) := by
  rw [zgo_run X C _ _ [0, 4, 28, 35, 36] 15]
  rfl
set_option maxRecDepth 100000 in
theorem bX1_doneWith_28 (X : Nat → Nat → Int32) (C : Nat → List zV → zS → Option zR) (L : List zK) (I : Nat → Nat → Int32) (J : Nat → Nat → Int64) (b : Nat) (v1 : Int32) (v2 : Int32) (v3 : Int32) (s0 : Int32) (s1 : Int32) : zgo X C (some .int) kX1_doneWith 28 [some (.inr (.inr (some (.inl 1, b)))), some (.inl v1), some (.inl v2), some (.inl v3)] [.inl s0, .inl s1] (L, zB1, I, J) = if s0 = 0 then zgo X C (some .int) kX1_doneWith 36 [some (.inr (.inr (some (.inl 1, b)))), some (.inl v1), some (.inl v2), some (.inl v3)] [.inl 1, .inl s1] (L, zB1, I, J) else zgo X C (some .int) kX1_doneWith 35 [some (.inr (.inr (some (.inl 1, b)))), some (.inl v1), some (.inl v2), some (.inl v3)] [.inl s1] (L, zB1, I, J) := by
  rw [zgo_run X C _ _ [0, 4, 28, 35, 36] 4]
  rfl
set_option maxRecDepth 100000 in
theorem bX1_doneWith_35 (X : Nat → Nat → Int32) (C : Nat → List zV → zS → Option zR) (L : List zK) (I : Nat → Nat → Int32) (J : Nat → Nat → Int64) (b : Nat) (v1 : Int32) (v2 : Int32) (v3 : Int32) (s0 : Int32) : zgo X C (some .int) kX1_doneWith 35 [some (.inr (.inr (some (.inl 1, b)))), some (.inl v1), some (.inl v2), some (.inl v3)] [.inl s0] (L, zB1, I, J) = zgo X C (some .int) kX1_doneWith 36 [some (.inr (.inr (some (.inl 1, b)))), some (.inl v1), some (.inl v2), some (.inl v3)] [.inl 0, .inl s0] (L, zB1, I, J) := by
  rw [zgo_run X C _ _ [0, 4, 28, 35, 36] 2]
  rfl
set_option maxRecDepth 100000 in
theorem bX1_doneWith_36 (X : Nat → Nat → Int32) (C : Nat → List zV → zS → Option zR) (L : List zK) (I : Nat → Nat → Int32) (J : Nat → Nat → Int64) (b : Nat) (v1 : Int32) (v2 : Int32) (v3 : Int32) (s0 : Int32) (s1 : Int32) : zgo X C (some .int) kX1_doneWith 36 [some (.inr (.inr (some (.inl 1, b)))), some (.inl v1), some (.inl v2), some (.inl v3)] [.inl s0, .inl s1] (L, zB1, I, J) = zgo X C (some .int) kX1_doneWith 4 [some (.inr (.inr (some (.inl 1, b)))), some (.inl v1), some (.inl (s1 + s0)), some (.inl (v3 + 1))] [] (L, zB1, I, J) := by
  rw [zgo_run X C _ _ [0, 4, 28, 35, 36] 5]
  rfl

set_option maxRecDepth 100000 in
theorem bX1_closestTo_0 (X : Nat → Nat → Int32) (C : Nat → List zV → zS → Option zR) (L : List zK) (I : Nat → Nat → Int32) (J : Nat → Nat → Int64) (b : Nat) (a1 : Int32) : zgo X C (some .int) kX1_closestTo 0 [some (.inr (.inr (some (.inl 1, b)))), some (.inl a1), none, none] [] (L, zB1, I, J) = zgo X C (some .int) kX1_closestTo 5 [some (.inr (.inr (some (.inl 1, b)))), some (.inl a1), some (.inl (-1000000)), some (.inl 0)] [] (L, zB1, I, J) := by
  rw [zgo_run X C _ _ [0, 5, 28, 46] 5]
  rfl
set_option maxRecDepth 100000 in
theorem bX1_closestTo_5 (X : Nat → Nat → Int32) (C : Nat → List zV → zS → Option zR) (L : List zK) (I : Nat → Nat → Int32) (J : Nat → Nat → Int64) (b : Nat) (v1 : Int32) (v2 : Int32) (v3 : Int32) : zgo X C (some .int) kX1_closestTo 5 [some (.inr (.inr (some (.inl 1, b)))), some (.inl v1), some (.inl v2), some (.inl v3)] [] (L, zB1, I, J) = if (I b 1) ≤ v3 then some (some (.inl v2), (L, zB1, I, J)) else zbt (zin v3 6) (if (I (b + 4) v3.toNatClampNeg) = v1 then cI (C 16 [.inr (.inr (some (.inl 1, b))), .inl v2] (L, zB1, I, J)) (fun r σ => zgo X C (some .int) kX1_closestTo 28 [some (.inr (.inr (some (.inl 1, b)))), some (.inl v1), some (.inl v2), some (.inl v3)] [.inl r] σ) else zgo X C (some .int) kX1_closestTo 5 [some (.inr (.inr (some (.inl 1, b)))), some (.inl v1), some (.inl v2), some (.inl (v3 + 1))] [] (L, zB1, I, J)) := by
  rw [zgo_run X C _ _ [0, 5, 28, 46] 14]
  rfl
set_option maxRecDepth 100000 in
theorem bX1_closestTo_28 (X : Nat → Nat → Int32) (C : Nat → List zV → zS → Option zR) (L : List zK) (I : Nat → Nat → Int32) (J : Nat → Nat → Int64) (b : Nat) (v1 : Int32) (v2 : Int32) (v3 : Int32) (s0 : Int32) : zgo X C (some .int) kX1_closestTo 28 [some (.inr (.inr (some (.inl 1, b)))), some (.inl v1), some (.inl v2), some (.inl v3)] [.inl s0] (L, zB1, I, J) = if s0 = 0 then zgo X C (some .int) kX1_closestTo 46 [some (.inr (.inr (some (.inl 1, b)))), some (.inl v1), some (.inl v2), some (.inl v3)] [] (L, zB1, I, J) else zbt (zin v3 6) (zbt (zin v2 6) (if (I (b + 7) v3.toNatClampNeg) ≤ (I (b + 7) v2.toNatClampNeg) then zgo X C (some .int) kX1_closestTo 5 [some (.inr (.inr (some (.inl 1, b)))), some (.inl v1), some (.inl v2), some (.inl (v3 + 1))] [] (L, zB1, I, J) else zgo X C (some .int) kX1_closestTo 46 [some (.inr (.inr (some (.inl 1, b)))), some (.inl v1), some (.inl v2), some (.inl v3)] [] (L, zB1, I, J))) := by
  rw [zgo_run X C _ _ [0, 5, 28, 46] 13]
  rfl
set_option maxRecDepth 100000 in
theorem bX1_closestTo_46 (X : Nat → Nat → Int32) (C : Nat → List zV → zS → Option zR) (L : List zK) (I : Nat → Nat → Int32) (J : Nat → Nat → Int64) (b : Nat) (v1 : Int32) (v2 : Int32) (v3 : Int32) : zgo X C (some .int) kX1_closestTo 46 [some (.inr (.inr (some (.inl 1, b)))), some (.inl v1), some (.inl v2), some (.inl v3)] [] (L, zB1, I, J) = zgo X C (some .int) kX1_closestTo 5 [some (.inr (.inr (some (.inl 1, b)))), some (.inl v1), some (.inl v3), some (.inl (v3 + 1))] [] (L, zB1, I, J) := by
  rw [zgo_run X C _ _ [0, 5, 28, 46] 5]
  rfl

set_option maxRecDepth 100000 in
theorem bX1_beansFor_0 (X : Nat → Nat → Int32) (C : Nat → List zV → zS → Option zR) (L : List zK) (I : Nat → Nat → Int32) (J : Nat → Nat → Int64) (b : Nat) (a1 : Int32) (a2 : Int32) : zgo X C (some .int) kX1_beansFor 0 [some (.inr (.inr (some (.inl 1, b)))), some (.inl a1), some (.inl a2), none, none, none, none] [] (L, zB1, I, J) = zgo X C (some .int) kX1_beansFor 5 [some (.inr (.inr (some (.inl 1, b)))), some (.inl a1), some (.inl a2), some (.inl 0), some (.inl 0), none, none] [] (L, zB1, I, J) := by
  rw [zgo_run X C _ _ [0, 5, 21, 35, 52, 75, 90, 132] 5]
  rfl
set_option maxRecDepth 100000 in
theorem bX1_beansFor_5 (X : Nat → Nat → Int32) (C : Nat → List zV → zS → Option zR) (L : List zK) (I : Nat → Nat → Int32) (J : Nat → Nat → Int64) (b : Nat) (v1 : Int32) (v2 : Int32) (v3 : Int32) (v4 : Int32) : zgo X C (some .int) kX1_beansFor 5 [some (.inr (.inr (some (.inl 1, b)))), some (.inl v1), some (.inl v2), some (.inl v3), some (.inl v4), none, none] [] (L, zB1, I, J) = if (I b 1) ≤ v4 then if v3 ≤ 0 then some (some (.inl 0), (L, zB1, I, J)) else cI (C 19 [.inr (.inr (some (.inl 1, b))), .inl v1] (L, zB1, I, J)) (fun r σ => zgo X C (some .int) kX1_beansFor 52 [some (.inr (.inr (some (.inl 1, b)))), some (.inl v1), some (.inl v2), some (.inl v3), some (.inl v4), none, none] [.inl r] σ) else cI (C 19 [.inr (.inr (some (.inl 1, b))), .inl v4] (L, zB1, I, J)) (fun r σ => zgo X C (some .int) kX1_beansFor 21 [some (.inr (.inr (some (.inl 1, b)))), some (.inl v1), some (.inl v2), some (.inl v3), some (.inl v4), none, none] [.inl r, .inl v3] σ) := by
  rw [zgo_run X C _ _ [0, 5, 21, 35, 52, 75, 90, 132] 10]
  rfl
set_option maxRecDepth 100000 in
theorem bX1_beansFor_21 (X : Nat → Nat → Int32) (C : Nat → List zV → zS → Option zR) (L : List zK) (I : Nat → Nat → Int32) (J : Nat → Nat → Int64) (b : Nat) (v1 : Int32) (v2 : Int32) (v3 : Int32) (v4 : Int32) (s0 : Int32) (s1 : Int32) : zgo X C (some .int) kX1_beansFor 21 [some (.inr (.inr (some (.inl 1, b)))), some (.inl v1), some (.inl v2), some (.inl v3), some (.inl v4), none, none] [.inl s0, .inl s1] (L, zB1, I, J) = if s0 = 0 then zgo X C (some .int) kX1_beansFor 35 [some (.inr (.inr (some (.inl 1, b)))), some (.inl v1), some (.inl v2), some (.inl v3), some (.inl v4), none, none] [.inl 0, .inl s1] (L, zB1, I, J) else zbt (zin v4 6) (zgo X C (some .int) kX1_beansFor 35 [some (.inr (.inr (some (.inl 1, b)))), some (.inl v1), some (.inl v2), some (.inl v3), some (.inl v4), none, none] [.inl (I (b + 7) v4.toNatClampNeg), .inl s1] (L, zB1, I, J)) := by
  rw [zgo_run X C _ _ [0, 5, 21, 35, 52, 75, 90, 132] 7]
  rfl
set_option maxRecDepth 100000 in
theorem bX1_beansFor_35 (X : Nat → Nat → Int32) (C : Nat → List zV → zS → Option zR) (L : List zK) (I : Nat → Nat → Int32) (J : Nat → Nat → Int64) (b : Nat) (v1 : Int32) (v2 : Int32) (v3 : Int32) (v4 : Int32) (s0 : Int32) (s1 : Int32) : zgo X C (some .int) kX1_beansFor 35 [some (.inr (.inr (some (.inl 1, b)))), some (.inl v1), some (.inl v2), some (.inl v3), some (.inl v4), none, none] [.inl s0, .inl s1] (L, zB1, I, J) = zgo X C (some .int) kX1_beansFor 5 [some (.inr (.inr (some (.inl 1, b)))), some (.inl v1), some (.inl v2), some (.inl (s1 + s0)), some (.inl (v4 + 1)), none, none] [] (L, zB1, I, J) := by
  rw [zgo_run X C _ _ [0, 5, 21, 35, 52, 75, 90, 132] 5]
  rfl
set_option maxRecDepth 100000 in
theorem bX1_beansFor_52 (X : Nat → Nat → Int32) (C : Nat → List zV → zS → Option zR) (L : List zK) (I : Nat → Nat → Int32) (J : Nat → Nat → Int64) (b : Nat) (v1 : Int32) (v2 : Int32) (v3 : Int32) (v4 : Int32) (s0 : Int32) : zgo X C (some .int) kX1_beansFor 52 [some (.inr (.inr (some (.inl 1, b)))), some (.inl v1), some (.inl v2), some (.inl v3), some (.inl v4), none, none] [.inl s0] (L, zB1, I, J) = if s0 = 0 then some (some (.inl 0), (L, zB1, I, J)) else zbt (zin v1 6) (if (I (b + 7) v1.toNatClampNeg) = 0 then some (some (.inl 0), (L, zB1, I, J)) else zgo X C (some .int) kX1_beansFor 75 [some (.inr (.inr (some (.inl 1, b)))), some (.inl v1), some (.inl v2), some (.inl v3), some (.inl v2), some (.inl 0), some (.inl 0)] [] (L, zB1, I, J)) := by
  rw [zgo_run X C _ _ [0, 5, 21, 35, 52, 75, 90, 132] 13]
  rfl
set_option maxRecDepth 100000 in
theorem bX1_beansFor_75 (X : Nat → Nat → Int32) (C : Nat → List zV → zS → Option zR) (L : List zK) (I : Nat → Nat → Int32) (J : Nat → Nat → Int64) (b : Nat) (v1 : Int32) (v2 : Int32) (v3 : Int32) (v4 : Int32) (v5 : Int32) (v6 : Int32) : zgo X C (some .int) kX1_beansFor 75 [some (.inr (.inr (some (.inl 1, b)))), some (.inl v1), some (.inl v2), some (.inl v3), some (.inl v4), some (.inl v5), some (.inl v6)] [] (L, zB1, I, J) = if (I b 1) ≤ v6 then zbt (zin v1 6) (if v3 = 0 then none else if v4 ≤ v5 then some (some (.inl (((v2 * (I (b + 7) v1.toNatClampNeg)) / v3) + 0)), (L, zB1, I, J)) else some (some (.inl (((v2 * (I (b + 7) v1.toNatClampNeg)) / v3) + 1)), (L, zB1, I, J))) else cI (C 19 [.inr (.inr (some (.inl 1, b))), .inl v6] (L, zB1, I, J)) (fun r σ => zgo X C (some .int) kX1_beansFor 90 [some (.inr (.inr (some (.inl 1, b)))), some (.inl v1), some (.inl v2), some (.inl v3), some (.inl v4), some (.inl v5), some (.inl v6)] [.inl r] σ) := by
  rw [zgo_run X C _ _ [0, 5, 21, 35, 52, 75, 90, 132] 20]
  rfl
set_option maxRecDepth 100000 in
theorem bX1_beansFor_90 (X : Nat → Nat → Int32) (C : Nat → List zV → zS → Option zR) (L : List zK) (I : Nat → Nat → Int32) (J : Nat → Nat → Int64) (b : Nat) (v1 : Int32) (v2 : Int32) (v3 : Int32) (v4 : Int32) (v5 : Int32) (v6 : Int32) (s0 : Int32) : zgo X C (some .int) kX1_beansFor 90 [some (.inr (.inr (some (.inl 1, b)))), some (.inl v1), some (.inl v2), some (.inl v3), some (.inl v4), some (.inl v5), some (.inl v6)] [.inl s0] (L, zB1, I, J) = if s0 = 0 then zgo X C (some .int) kX1_beansFor 75 [some (.inr (.inr (some (.inl 1, b)))), some (.inl v1), some (.inl v2), some (.inl v3), some (.inl v4), some (.inl v5), some (.inl (v6 + 1))] [] (L, zB1, I, J) else zbt (zin v6 6) (if (I (b + 7) v6.toNatClampNeg) ≤ 0 then zgo X C (some .int) kX1_beansFor 75 [some (.inr (.inr (some (.inl 1, b)))), some (.inl v1), some (.inl v2), some (.inl v3), some (.inl v4), some (.inl v5), some (.inl (v6 + 1))] [] (L, zB1, I, J) else zbt (zin v6 6) (if v3 = 0 then none else if v1 ≤ v6 then zgo X C (some .int) kX1_beansFor 132 [some (.inr (.inr (some (.inl 1, b)))), some (.inl v1), some (.inl v2), some (.inl v3), some (.inl (v4 - ((v2 * (I (b + 7) v6.toNatClampNeg)) / v3))), some (.inl v5), some (.inl v6)] [.inl 0, .inl v5] (L, zB1, I, J) else zgo X C (some .int) kX1_beansFor 132 [some (.inr (.inr (some (.inl 1, b)))), some (.inl v1), some (.inl v2), some (.inl v3), some (.inl (v4 - ((v2 * (I (b + 7) v6.toNatClampNeg)) / v3))), some (.inl v5), some (.inl v6)] [.inl 1, .inl v5] (L, zB1, I, J))) := by
  rw [zgo_run X C _ _ [0, 5, 21, 35, 52, 75, 90, 132] 24]
  rfl
set_option maxRecDepth 100000 in
theorem bX1_beansFor_132 (X : Nat → Nat → Int32) (C : Nat → List zV → zS → Option zR) (L : List zK) (I : Nat → Nat → Int32) (J : Nat → Nat → Int64) (b : Nat) (v1 : Int32) (v2 : Int32) (v3 : Int32) (v4 : Int32) (v5 : Int32) (v6 : Int32) (s0 : Int32) (s1 : Int32) : zgo X C (some .int) kX1_beansFor 132 [some (.inr (.inr (some (.inl 1, b)))), some (.inl v1), some (.inl v2), some (.inl v3), some (.inl v4), some (.inl v5), some (.inl v6)] [.inl s0, .inl s1] (L, zB1, I, J) = zgo X C (some .int) kX1_beansFor 75 [some (.inr (.inr (some (.inl 1, b)))), some (.inl v1), some (.inl v2), some (.inl v3), some (.inl v4), some (.inl (s1 + s0)), some (.inl (v6 + 1))] [] (L, zB1, I, J) := by
  rw [zgo_run X C _ _ [0, 5, 21, 35, 52, 75, 90, 132] 5]
  rfl

set_option maxRecDepth 100000 in
theorem bX6_isRow_0 (X : Nat → Nat → Int32) (C : Nat → List zV → zS → Option zR) (L : List zK) (I : Nat → Nat → Int32) (J : Nat → Nat → Int64) (a1 : Int32) : zgo X C (some .boolean) kX6_isRow 0 [some (.inl a1)] [] (L, zB1, I, J) = if a1 < 0 then some (some (.inl 0), (L, zB1, I, J)) else if (8 : Int32) ≤ a1 then some (some (.inl 0), (L, zB1, I, J)) else some (some (.inl 1), (L, zB1, I, J)) := by
  rw [zgo_run X C _ _ [0] 9]
  rfl

set_option maxRecDepth 100000 in
theorem bX6_isMissing_0 (X : Nat → Nat → Int32) (C : Nat → List zV → zS → Option zR) (L : List zK) (I : Nat → Nat → Int32) (J : Nat → Nat → Int64) (a1 : Int32) : zgo X C (some .boolean) kX6_isMissing 0 [some (.inr (.inr (some (.inl 6, 1)))), some (.inl a1)] [] (L, zB1, I, J) = cI (C 74 [.inl a1] (L, zB1, I, J)) (fun r σ => zgo X C (some .boolean) kX6_isMissing 4 [some (.inr (.inr (some (.inl 6, 1)))), some (.inl a1)] [.inl r] σ) := by
  rw [zgo_run X C _ _ [0, 4] 3]
  rfl
set_option maxRecDepth 100000 in
theorem bX6_isMissing_4 (X : Nat → Nat → Int32) (C : Nat → List zV → zS → Option zR) (L : List zK) (I : Nat → Nat → Int32) (J : Nat → Nat → Int64) (v1 : Int32) (s0 : Int32) : zgo X C (some .boolean) kX6_isMissing 4 [some (.inr (.inr (some (.inl 6, 1)))), some (.inl v1)] [.inl s0] (L, zB1, I, J) = if s0 = 0 then some (some (.inl 1), (L, zB1, I, J)) else zbt (zin v1 8) (if (I 12 v1.toNatClampNeg) = (-1) then some (some (.inl 1), (L, zB1, I, J)) else some (some (.inl 0), (L, zB1, I, J))) := by
  rw [zgo_run X C _ _ [0, 4] 11]
  rfl

set_option maxRecDepth 100000 in
theorem bX6_findingFor_0 (X : Nat → Nat → Int32) (C : Nat → List zV → zS → Option zR) (L : List zK) (I : Nat → Nat → Int32) (J : Nat → Nat → Int64) (a1 : Int32) (a2 : Int32) (a3 : Int32) : zgo X C (some .int) kX6_findingFor 0 [some (.inr (.inr (some (.inl 6, 1)))), some (.inl a1), some (.inl a2), some (.inl a3)] [] (L, zB1, I, J) = cI (C 75 [.inr (.inr (some (.inl 6, 1))), .inl a1] (L, zB1, I, J)) (fun r σ => zgo X C (some .int) kX6_findingFor 5 [some (.inr (.inr (some (.inl 6, 1)))), some (.inl a1), some (.inl a2), some (.inl a3)] [.inl r] σ) := by
  rw [zgo_run X C _ _ [0, 5, 17] 4]
  rfl
set_option maxRecDepth 100000 in
theorem bX6_findingFor_5 (X : Nat → Nat → Int32) (C : Nat → List zV → zS → Option zR) (L : List zK) (I : Nat → Nat → Int32) (J : Nat → Nat → Int64) (v1 : Int32) (v2 : Int32) (v3 : Int32) (s0 : Int32) : zgo X C (some .int) kX6_findingFor 5 [some (.inr (.inr (some (.inl 6, 1)))), some (.inl v1), some (.inl v2), some (.inl v3)] [.inl s0] (L, zB1, I, J) = if s0 = 0 then cI (C 78 [.inr (.inr (some (.inl 6, 1))), .inl v1, .inl v2, .inl v3] (L, zB1, I, J)) (fun r σ => zgo X C (some .int) kX6_findingFor 17 [some (.inr (.inr (some (.inl 6, 1)))), some (.inl v1), some (.inl v2), some (.inl v3)] [.inl r] σ) else some (some (.inl 1), (L, zB1, I, J)) := by
  rw [zgo_run X C _ _ [0, 5, 17] 7]
  rfl
set_option maxRecDepth 100000 in
theorem bX6_findingFor_17 (X : Nat → Nat → Int32) (C : Nat → List zV → zS → Option zR) (L : List zK) (I : Nat → Nat → Int32) (J : Nat → Nat → Int64) (v1 : Int32) (v2 : Int32) (v3 : Int32) (s0 : Int32) : zgo X C (some .int) kX6_findingFor 17 [some (.inr (.inr (some (.inl 6, 1)))), some (.inl v1), some (.inl v2), some (.inl v3)] [.inl s0] (L, zB1, I, J) = if s0 = 0 then some (some (.inl 2), (L, zB1, I, J)) else some (some (.inl 0), (L, zB1, I, J)) := by
  rw [zgo_run X C _ _ [0, 5, 17] 5]
  rfl

set_option maxRecDepth 100000 in
theorem bX6_findingForTwo_0 (X : Nat → Nat → Int32) (C : Nat → List zV → zS → Option zR) (L : List zK) (I : Nat → Nat → Int32) (J : Nat → Nat → Int64) (a1 : Int32) (a2 : Int32) (a3 : Int32) (a4 : Int32) (a5 : Int32) : zgo X C (some .int) kX6_findingForTwo 0 [some (.inr (.inr (some (.inl 6, 1)))), some (.inl a1), some (.inl a2), some (.inl a3), some (.inl a4), some (.inl a5)] [] (L, zB1, I, J) = cI (C 75 [.inr (.inr (some (.inl 6, 1))), .inl a1] (L, zB1, I, J)) (fun r σ => zgo X C (some .int) kX6_findingForTwo 5 [some (.inr (.inr (some (.inl 6, 1)))), some (.inl a1), some (.inl a2), some (.inl a3), some (.inl a4), some (.inl a5)] [.inl r] σ) := by
  rw [zgo_run X C _ _ [0, 5, 13, 43, 55] 4]
  rfl
set_option maxRecDepth 100000 in
theorem bX6_findingForTwo_5 (X : Nat → Nat → Int32) (C : Nat → List zV → zS → Option zR) (L : List zK) (I : Nat → Nat → Int32) (J : Nat → Nat → Int64) (v1 : Int32) (v2 : Int32) (v3 : Int32) (v4 : Int32) (v5 : Int32) (s0 : Int32) : zgo X C (some .int) kX6_findingForTwo 5 [some (.inr (.inr (some (.inl 6, 1)))), some (.inl v1), some (.inl v2), some (.inl v3), some (.inl v4), some (.inl v5)] [.inl s0] (L, zB1, I, J) = if s0 = 0 then cI (C 75 [.inr (.inr (some (.inl 6, 1))), .inl v3] (L, zB1, I, J)) (fun r σ => zgo X C (some .int) kX6_findingForTwo 13 [some (.inr (.inr (some (.inl 6, 1)))), some (.inl v1), some (.inl v2), some (.inl v3), some (.inl v4), some (.inl v5)] [.inl r] σ) else some (some (.inl 1), (L, zB1, I, J)) := by
  rw [zgo_run X C _ _ [0, 5, 13, 43, 55] 5]
  rfl
set_option maxRecDepth 100000 in
theorem bX6_findingForTwo_13 (X : Nat → Nat → Int32) (C : Nat → List zV → zS → Option zR) (L : List zK) (I : Nat → Nat → Int32) (J : Nat → Nat → Int64) (v1 : Int32) (v2 : Int32) (v3 : Int32) (v4 : Int32) (v5 : Int32) (s0 : Int32) : zgo X C (some .int) kX6_findingForTwo 13 [some (.inr (.inr (some (.inl 6, 1)))), some (.inl v1), some (.inl v2), some (.inl v3), some (.inl v4), some (.inl v5)] [.inl s0] (L, zB1, I, J) = if s0 = 0 then zbt (zin v1 8) (zbt (zin v3 8) (if (I 11 v1.toNatClampNeg) = (I 11 v3.toNatClampNeg) then cI (C 78 [.inr (.inr (some (.inl 6, 1))), .inl v1, .inl v2, .inl v5] (L, zB1, I, J)) (fun r σ => zgo X C (some .int) kX6_findingForTwo 43 [some (.inr (.inr (some (.inl 6, 1)))), some (.inl v1), some (.inl v2), some (.inl v3), some (.inl v4), some (.inl v5)] [.inl r] σ) else some (some (.inl 5), (L, zB1, I, J)))) else some (some (.inl 1), (L, zB1, I, J)) := by
  rw [zgo_run X C _ _ [0, 5, 13, 43, 55] 16]
  rfl
set_option maxRecDepth 100000 in
theorem bX6_findingForTwo_43 (X : Nat → Nat → Int32) (C : Nat → List zV → zS → Option zR) (L : List zK) (I : Nat → Nat → Int32) (J : Nat → Nat → Int64) (v1 : Int32) (v2 : Int32) (v3 : Int32) (v4 : Int32) (v5 : Int32) (s0 : Int32) : zgo X C (some .int) kX6_findingForTwo 43 [some (.inr (.inr (some (.inl 6, 1)))), some (.inl v1), some (.inl v2), some (.inl v3), some (.inl v4), some (.inl v5)] [.inl s0] (L, zB1, I, J) = if s0 = 0 then some (some (.inl 2), (L, zB1, I, J)) else cI (C 78 [.inr (.inr (some (.inl 6, 1))), .inl v3, .inl v4, .inl v5] (L, zB1, I, J)) (fun r σ => zgo X C (some .int) kX6_findingForTwo 55 [some (.inr (.inr (some (.inl 6, 1)))), some (.inl v1), some (.inl v2), some (.inl v3), some (.inl v4), some (.inl v5)] [.inl r] σ) := by
  rw [zgo_run X C _ _ [0, 5, 13, 43, 55] 7]
  rfl
set_option maxRecDepth 100000 in
theorem bX6_findingForTwo_55 (X : Nat → Nat → Int32) (C : Nat → List zV → zS → Option zR) (L : List zK) (I : Nat → Nat → Int32) (J : Nat → Nat → Int64) (v1 : Int32) (v2 : Int32) (v3 : Int32) (v4 : Int32) (v5 : Int32) (s0 : Int32) : zgo X C (some .int) kX6_findingForTwo 55 [some (.inr (.inr (some (.inl 6, 1)))), some (.inl v1), some (.inl v2), some (.inl v3), some (.inl v4), some (.inl v5)] [.inl s0] (L, zB1, I, J) = if s0 = 0 then some (some (.inl 2), (L, zB1, I, J)) else some (some (.inl 0), (L, zB1, I, J)) := by
  rw [zgo_run X C _ _ [0, 5, 13, 43, 55] 5]
  rfl

set_option maxRecDepth 100000 in
theorem bX6_hasPlaces_0 (X : Nat → Nat → Int32) (C : Nat → List zV → zS → Option zR) (L : List zK) (I : Nat → Nat → Int32) (J : Nat → Nat → Int64) (a1 : Int32) (a2 : Int32) (a3 : Int32) : zgo X C (some .boolean) kX6_hasPlaces 0 [some (.inr (.inr (some (.inl 6, 1)))), some (.inl a1), some (.inl a2), some (.inl a3)] [] (L, zB1, I, J) = cI (C 75 [.inr (.inr (some (.inl 6, 1))), .inl a1] (L, zB1, I, J)) (fun r σ => zgo X C (some .boolean) kX6_hasPlaces 5 [some (.inr (.inr (some (.inl 6, 1)))), some (.inl a1), some (.inl a2), some (.inl a3)] [.inl r] σ) := by
  rw [zgo_run X C _ _ [0, 5] 4]
  rfl
set_option maxRecDepth 100000 in
theorem bX6_hasPlaces_5 (X : Nat → Nat → Int32) (C : Nat → List zV → zS → Option zR) (L : List zK) (I : Nat → Nat → Int32) (J : Nat → Nat → Int64) (v1 : Int32) (v2 : Int32) (v3 : Int32) (s0 : Int32) : zgo X C (some .boolean) kX6_hasPlaces 5 [some (.inr (.inr (some (.inl 6, 1)))), some (.inl v1), some (.inl v2), some (.inl v3)] [.inl s0] (L, zB1, I, J) = if s0 = 0 then if v2 < 0 then some (some (.inl 0), (L, zB1, I, J)) else if v3 < 0 then some (some (.inl 0), (L, zB1, I, J)) else zbt (zin v1 8) (if (I 12 v1.toNatClampNeg) < v2 then some (some (.inl 0), (L, zB1, I, J)) else zbt (zin v1 8) (if ((I 12 v1.toNatClampNeg) - v2) < v3 then some (some (.inl 0), (L, zB1, I, J)) else some (some (.inl 1), (L, zB1, I, J)))) else some (some (.inl 0), (L, zB1, I, J)) := by
  rw [zgo_run X C _ _ [0, 5] 23]
  rfl

set_option maxRecDepth 100000 in
theorem bX6_make_0 (X : Nat → Nat → Int32) (C : Nat → List zV → zS → Option zR) (L : List zK) (I : Nat → Nat → Int32) (J : Nat → Nat → Int64) (a1 : Int32) (a2 : Int32) (a3 : Int32) : zgo X C none kX6_make 0 [some (.inr (.inr (some (.inl 6, 1)))), some (.inl a1), some (.inl a2), some (.inl a3), none] [] (L, zB1, I, J) = cI (C 74 [.inl a1] (L, zB1, I, J)) (fun r σ => zgo X C none kX6_make 4 [some (.inr (.inr (some (.inl 6, 1)))), some (.inl a1), some (.inl a2), some (.inl a3), none] [.inl r] σ) := by
  rw [zgo_run X C _ _ [0, 4, 25] 3]
  rfl
set_option maxRecDepth 100000 in
theorem bX6_make_4 (X : Nat → Nat → Int32) (C : Nat → List zV → zS → Option zR) (L : List zK) (I : Nat → Nat → Int32) (J : Nat → Nat → Int64) (v1 : Int32) (v2 : Int32) (v3 : Int32) (s0 : Int32) : zgo X C none kX6_make 4 [some (.inr (.inr (some (.inl 6, 1)))), some (.inl v1), some (.inl v2), some (.inl v3), none] [.inl s0] (L, zB1, I, J) = if s0 = 0 then some (none, (L, zB1, I, J)) else zbt (zin v1 8) (zbt (zin v1 8) (zgo X C none kX6_make 25 [some (.inr (.inr (some (.inl 6, 1)))), some (.inl v1), some (.inl v2), some (.inl v3), some (.inl 0)] [] (L, zB1, (zup (zup I 11 v1.toNatClampNeg v2) 12 v1.toNatClampNeg v3), J))) := by
  rw [zgo_run X C _ _ [0, 4, 25] 14]
  rfl
set_option maxRecDepth 100000 in
theorem bX6_make_25 (X : Nat → Nat → Int32) (C : Nat → List zV → zS → Option zR) (L : List zK) (I : Nat → Nat → Int32) (J : Nat → Nat → Int64) (v1 : Int32) (v2 : Int32) (v3 : Int32) (v4 : Int32) : zgo X C none kX6_make 25 [some (.inr (.inr (some (.inl 6, 1)))), some (.inl v1), some (.inl v2), some (.inl v3), some (.inl v4)] [] (L, zB1, I, J) = if (40 : Int32) ≤ v4 then some (none, (L, zB1, I, J)) else zbt (zin v1 8) (zbt (zin v4 40) (zgo X C none kX6_make 25 [some (.inr (.inr (some (.inl 6, 1)))), some (.inl v1), some (.inl v2), some (.inl v3), some (.inl (v4 + 1))] [] (L, zB1, (zup I (3 + v1.toNatClampNeg) v4.toNatClampNeg 0), J))) := by
  rw [zgo_run X C _ _ [0, 4, 25] 13]
  rfl

set_option maxRecDepth 100000 in
theorem bX6_put_0 (X : Nat → Nat → Int32) (C : Nat → List zV → zS → Option zR) (L : List zK) (I : Nat → Nat → Int32) (J : Nat → Nat → Int64) (a1 : Int32) (a2 : Int32) (a3 : Int32) : zgo X C (some .int) kX6_put 0 [some (.inr (.inr (some (.inl 6, 1)))), some (.inl a1), some (.inl a2), some (.inl a3)] [] (L, zB1, I, J) = cI (C 78 [.inr (.inr (some (.inl 6, 1))), .inl a1, .inl a2, .inl 1] (L, zB1, I, J)) (fun r σ => zgo X C (some .int) kX6_put 7 [some (.inr (.inr (some (.inl 6, 1)))), some (.inl a1), some (.inl a2), some (.inl a3)] [.inl r] σ) := by
  rw [zgo_run X C _ _ [0, 7, 29] 6]
  rfl
set_option maxRecDepth 100000 in
theorem bX6_put_7 (X : Nat → Nat → Int32) (C : Nat → List zV → zS → Option zR) (L : List zK) (I : Nat → Nat → Int32) (J : Nat → Nat → Int64) (v1 : Int32) (v2 : Int32) (v3 : Int32) (s0 : Int32) : zgo X C (some .int) kX6_put 7 [some (.inr (.inr (some (.inl 6, 1)))), some (.inl v1), some (.inl v2), some (.inl v3)] [.inl s0] (L, zB1, I, J) = if s0 = 0 then some (some (.inl 0), (L, zB1, I, J)) else zbt (zin v1 8) (zbt (zin v1 8) (cI (C 81 [.inl (I 11 v1.toNatClampNeg), .inl v3] (L, zB1, I, J)) (fun r σ => zgo X C (some .int) kX6_put 29 [some (.inr (.inr (some (.inl 6, 1)))), some (.inl v1), some (.inl v2), some (.inl v3)] [.inl r, .inl v2, .inr (.inr (some (.inr (.int, 40), 3 + v1.toNatClampNeg)))] σ))) := by
  rw [zgo_run X C _ _ [0, 7, 29] 13]
  rfl
set_option maxRecDepth 100000 in
theorem bX6_put_29 (X : Nat → Nat → Int32) (C : Nat → List zV → zS → Option zR) (L : List zK) (I : Nat → Nat → Int32) (J : Nat → Nat → Int64) (v1 : Int32) (v2 : Int32) (v3 : Int32) (s0 : Int32) (s1 : Int32) (qs2 : Nat) : zgo X C (some .int) kX6_put 29 [some (.inr (.inr (some (.inl 6, 1)))), some (.inl v1), some (.inl v2), some (.inl v3)] [.inl s0, .inl s1, .inr (.inr (some (.inr (.int, 40), qs2)))] (L, zB1, I, J) = zbt (zin s1 40) (zbt (zin v1 8) (zbt (zin v2 40) (some (some (.inl ((zup I qs2 s1.toNatClampNeg s0) (3 + v1.toNatClampNeg) v2.toNatClampNeg)), (L, zB1, (zup I qs2 s1.toNatClampNeg s0), J))))) := by
  rw [zgo_run X C _ _ [0, 7, 29] 9]
  rfl

set_option maxRecDepth 100000 in
theorem bX6_lowestBits_0 (X : Nat → Nat → Int32) (C : Nat → List zV → zS → Option zR) (L : List zK) (I : Nat → Nat → Int32) (J : Nat → Nat → Int64) (a1 : Int32) (a2 : Int32) : zgo X C (some .int) kX6_lowestBits 0 [some (.inl a1), some (.inl a2)] [] (L, zB1, I, J) = if a1 = 0 then some (some (.inl a2.toInt8.toInt32), (L, zB1, I, J)) else if a1 = 1 then some (some (.inl a2.toInt16.toInt32), (L, zB1, I, J)) else some (some (.inl a2), (L, zB1, I, J)) := by
  rw [zgo_run X C _ _ [0] 10]
  rfl

set_option maxRecDepth 100000 in
theorem bX6_itemAt_0 (X : Nat → Nat → Int32) (C : Nat → List zV → zS → Option zR) (L : List zK) (I : Nat → Nat → Int32) (J : Nat → Nat → Int64) (a1 : Int32) (a2 : Int32) : zgo X C (some .int) kX6_itemAt 0 [some (.inr (.inr (some (.inl 6, 1)))), some (.inl a1), some (.inl a2)] [] (L, zB1, I, J) = cI (C 78 [.inr (.inr (some (.inl 6, 1))), .inl a1, .inl a2, .inl 1] (L, zB1, I, J)) (fun r σ => zgo X C (some .int) kX6_itemAt 7 [some (.inr (.inr (some (.inl 6, 1)))), some (.inl a1), some (.inl a2)] [.inl r] σ) := by
  rw [zgo_run X C _ _ [0, 7] 6]
  rfl
set_option maxRecDepth 100000 in
theorem bX6_itemAt_7 (X : Nat → Nat → Int32) (C : Nat → List zV → zS → Option zR) (L : List zK) (I : Nat → Nat → Int32) (J : Nat → Nat → Int64) (v1 : Int32) (v2 : Int32) (s0 : Int32) : zgo X C (some .int) kX6_itemAt 7 [some (.inr (.inr (some (.inl 6, 1)))), some (.inl v1), some (.inl v2)] [.inl s0] (L, zB1, I, J) = if s0 = 0 then some (some (.inl 0), (L, zB1, I, J)) else zbt (zin v1 8) (zbt (zin v2 40) (some (some (.inl (I (3 + v1.toNatClampNeg) v2.toNatClampNeg)), (L, zB1, I, J)))) := by
  rw [zgo_run X C _ _ [0, 7] 10]
  rfl

set_option maxRecDepth 100000 in
theorem bX6_move_0 (X : Nat → Nat → Int32) (C : Nat → List zV → zS → Option zR) (L : List zK) (I : Nat → Nat → Int32) (J : Nat → Nat → Int64) (a1 : Int32) (a2 : Int32) (a3 : Int32) (a4 : Int32) (a5 : Int32) : zgo X C none kX6_move 0 [some (.inr (.inr (some (.inl 6, 1)))), some (.inl a1), some (.inl a2), some (.inl a3), some (.inl a4), some (.inl a5)] [] (L, zB1, I, J) = cI (C 78 [.inr (.inr (some (.inl 6, 1))), .inl a1, .inl a2, .inl a5] (L, zB1, I, J)) (fun r σ => zgo X C none kX6_move 8 [some (.inr (.inr (some (.inl 6, 1)))), some (.inl a1), some (.inl a2), some (.inl a3), some (.inl a4), some (.inl a5)] [.inl r] σ) := by
  rw [zgo_run X C _ _ [0, 8, 20, 43] 6]
  rfl
set_option maxRecDepth 100000 in
theorem bX6_move_8 (X : Nat → Nat → Int32) (C : Nat → List zV → zS → Option zR) (L : List zK) (I : Nat → Nat → Int32) (J : Nat → Nat → Int64) (v1 : Int32) (v2 : Int32) (v3 : Int32) (v4 : Int32) (v5 : Int32) (s0 : Int32) : zgo X C none kX6_move 8 [some (.inr (.inr (some (.inl 6, 1)))), some (.inl v1), some (.inl v2), some (.inl v3), some (.inl v4), some (.inl v5)] [.inl s0] (L, zB1, I, J) = if s0 = 0 then zgo X C none kX6_move 43 [some (.inr (.inr (some (.inl 6, 1)))), some (.inl v1), some (.inl v2), some (.inl v3), some (.inl v4), some (.inl v5)] [] (L, zB1, I, J) else cI (C 78 [.inr (.inr (some (.inl 6, 1))), .inl v3, .inl v4, .inl v5] (L, zB1, I, J)) (fun r σ => zgo X C none kX6_move 20 [some (.inr (.inr (some (.inl 6, 1)))), some (.inl v1), some (.inl v2), some (.inl v3), some (.inl v4), some (.inl v5)] [.inl r] σ) := by
  rw [zgo_run X C _ _ [0, 8, 20, 43] 7]
  rfl
theorem bX6_move_20 (X : Nat → Nat → Int32) (C : Nat → List zV → zS → Option zR) (L : List zK) (I : Nat → Nat → Int32) (J : Nat → Nat → Int64) (v1 v2 v3 v4 v5 s0 : Int32) : zgo X C none kX6_move 20 [some (.inr (.inr (some (.inl 6, 1)))), some (.inl v1), some (.inl v2), some (.inl v3), some (.inl v4), some (.inl v5)] [.inl s0] (L, zB1, I, J) = if s0 = 0 then zgo X C none kX6_move 43 [some (.inr (.inr (some (.inl 6, 1)))), some (.inl v1), some (.inl v2), some (.inl v3), some (.inl v4), some (.inl v5)] [] (L, zB1, I, J) else zbt (zin v1 8) (zbt (zin v3 8) (zbt (decide (0 ≤ v5.toInt) && (decide (0 ≤ v2.toInt) && (decide (0 ≤ v4.toInt) && (decide (v2.toInt + v5.toInt ≤ ((40 : Nat) : Int)) && decide (v4.toInt + v5.toInt ≤ ((40 : Nat) : Int)))))) (zgo X C none kX6_move 43 [some (.inr (.inr (some (.inl 6, 1)))), some (.inl v1), some (.inl v2), some (.inl v3), some (.inl v4), some (.inl v5)] [] (L, zB1, zur I (3 + v3.toNatClampNeg) (va_cpy (I (3 + v1.toNatClampNeg)) (I (3 + v3.toNatClampNeg)) v2.toNatClampNeg v4.toNatClampNeg v5.toNatClampNeg), J)))) := by
  rw [zgo_run X C _ _ [0, 8, 20, 43] 14]
  have e := zcopy_eq (zrun X C none kX6_move [0, 8, 20, 43] 3) 40 [some (.inr (.inr (some (.inl 6, 1)))), some (.inl v1), some (.inl v2), some (.inl v3), some (.inl v4), some (.inl v5)] v5 v2 v4 (3 + v1.toNatClampNeg) (3 + v3.toNatClampNeg) 40 40 L I J
  refine Eq.trans (b := if s0 = 0 then zgo X C none kX6_move 43 [some (.inr (.inr (some (.inl 6, 1)))), some (.inl v1), some (.inl v2), some (.inl v3), some (.inl v4), some (.inl v5)] [] (L, zB1, I, J) else zbt (zin v1 8) (zbt (zin v3 8) (zcopy (zrun X C none kX6_move [0, 8, 20, 43] 3) 40 [some (.inr (.inr (some (.inl 6, 1)))), some (.inl v1), some (.inl v2), some (.inl v3), some (.inl v4), some (.inl v5)] [.inl v5, .inl v4, .inr (.inr (some (.inr (.int, 40), 3 + v3.toNatClampNeg))), .inl v2, .inr (.inr (some (.inr (.int, 40), 3 + v1.toNatClampNeg)))] (L, zB1, I, J)))) ?_ ?_
  · rfl
  · rw [e]
    rfl
set_option maxRecDepth 100000 in
theorem bX6_move_43 (X : Nat → Nat → Int32) (C : Nat → List zV → zS → Option zR) (L : List zK) (I : Nat → Nat → Int32) (J : Nat → Nat → Int64) (v1 : Int32) (v2 : Int32) (v3 : Int32) (v4 : Int32) (v5 : Int32) : zgo X C none kX6_move 43 [some (.inr (.inr (some (.inl 6, 1)))), some (.inl v1), some (.inl v2), some (.inl v3), some (.inl v4), some (.inl v5)] [] (L, zB1, I, J) = some (none, (L, zB1, I, J)) := by
  rw [zgo_run X C _ _ [0, 8, 20, 43] 2]
  rfl

set_option maxRecDepth 100000 in
theorem bX6_lose_0 (X : Nat → Nat → Int32) (C : Nat → List zV → zS → Option zR) (L : List zK) (I : Nat → Nat → Int32) (J : Nat → Nat → Int64) (a1 : Int32) : zgo X C (some .int) kX6_lose 0 [some (.inr (.inr (some (.inl 6, 1)))), some (.inl a1), none] [] (L, zB1, I, J) = cI (C 74 [.inl a1] (L, zB1, I, J)) (fun r σ => zgo X C (some .int) kX6_lose 4 [some (.inr (.inr (some (.inl 6, 1)))), some (.inl a1), none] [.inl r] σ) := by
  rw [zgo_run X C _ _ [0, 4] 3]
  rfl
set_option maxRecDepth 100000 in
theorem bX6_lose_4 (X : Nat → Nat → Int32) (C : Nat → List zV → zS → Option zR) (L : List zK) (I : Nat → Nat → Int32) (J : Nat → Nat → Int64) (v1 : Int32) (s0 : Int32) : zgo X C (some .int) kX6_lose 4 [some (.inr (.inr (some (.inl 6, 1)))), some (.inl v1), none] [.inl s0] (L, zB1, I, J) = if s0 = 0 then some (some (.inl 0), (L, zB1, I, J)) else zbt (zin v1 8) (zbt (zin v1 8) (some (some (.inl (I 12 v1.toNatClampNeg)), (L, zB1, (zup I 12 v1.toNatClampNeg (-1)), J)))) := by
  rw [zgo_run X C _ _ [0, 4] 14]
  rfl

set_option maxRecDepth 100000 in
theorem bX6_howMany_0 (X : Nat → Nat → Int32) (C : Nat → List zV → zS → Option zR) (L : List zK) (I : Nat → Nat → Int32) (J : Nat → Nat → Int64) : zgo X C (some .int) kX6_howMany 0 [some (.inr (.inr (some (.inl 6, 1)))), none, none] [] (L, zB1, I, J) = zgo X C (some .int) kX6_howMany 4 [some (.inr (.inr (some (.inl 6, 1)))), some (.inl 0), some (.inl 0)] [] (L, zB1, I, J) := by
  rw [zgo_run X C _ _ [0, 4, 16, 24] 5]
  rfl
set_option maxRecDepth 100000 in
theorem bX6_howMany_4 (X : Nat → Nat → Int32) (C : Nat → List zV → zS → Option zR) (L : List zK) (I : Nat → Nat → Int32) (J : Nat → Nat → Int64) (v1 : Int32) (v2 : Int32) : zgo X C (some .int) kX6_howMany 4 [some (.inr (.inr (some (.inl 6, 1)))), some (.inl v1), some (.inl v2)] [] (L, zB1, I, J) = if (8 : Int32) ≤ v2 then some (some (.inl v1), (L, zB1, I, J)) else cI (C 75 [.inr (.inr (some (.inl 6, 1))), .inl v2] (L, zB1, I, J)) (fun r σ => zgo X C (some .int) kX6_howMany 16 [some (.inr (.inr (some (.inl 6, 1)))), some (.inl v1), some (.inl v2)] [.inl r, .inl v1] σ) := by
  rw [zgo_run X C _ _ [0, 4, 16, 24] 8]
  rfl
set_option maxRecDepth 100000 in
theorem bX6_howMany_16 (X : Nat → Nat → Int32) (C : Nat → List zV → zS → Option zR) (L : List zK) (I : Nat → Nat → Int32) (J : Nat → Nat → Int64) (v1 : Int32) (v2 : Int32) (s0 : Int32) (s1 : Int32) : zgo X C (some .int) kX6_howMany 16 [some (.inr (.inr (some (.inl 6, 1)))), some (.inl v1), some (.inl v2)] [.inl s0, .inl s1] (L, zB1, I, J) = if s0 = 0 then zgo X C (some .int) kX6_howMany 24 [some (.inr (.inr (some (.inl 6, 1)))), some (.inl v1), some (.inl v2)] [.inl 1, .inl s1] (L, zB1, I, J) else zgo X C (some .int) kX6_howMany 24 [some (.inr (.inr (some (.inl 6, 1)))), some (.inl v1), some (.inl v2)] [.inl 0, .inl s1] (L, zB1, I, J) := by
  rw [zgo_run X C _ _ [0, 4, 16, 24] 4]
  rfl
set_option maxRecDepth 100000 in
theorem bX6_howMany_24 (X : Nat → Nat → Int32) (C : Nat → List zV → zS → Option zR) (L : List zK) (I : Nat → Nat → Int32) (J : Nat → Nat → Int64) (v1 : Int32) (v2 : Int32) (s0 : Int32) (s1 : Int32) : zgo X C (some .int) kX6_howMany 24 [some (.inr (.inr (some (.inl 6, 1)))), some (.inl v1), some (.inl v2)] [.inl s0, .inl s1] (L, zB1, I, J) = zgo X C (some .int) kX6_howMany 4 [some (.inr (.inr (some (.inl 6, 1)))), some (.inl (s1 + s0)), some (.inl (v2 + 1))] [] (L, zB1, I, J) := by
  rw [zgo_run X C _ _ [0, 4, 16, 24] 5]
  rfl
