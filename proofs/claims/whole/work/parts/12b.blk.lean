set_option maxRecDepth 100000 in
theorem bX2_hear_0 (X : Nat → Nat → Int32) (C : Nat → List zV → zS → Option zR) (L : List zK) (I : Nat → Nat → Int32) (J : Nat → Nat → Int64) (a1 : Int32) (a3 : Int32) (a4 : Int32) (a5 : Int32) : zgo X C none kX2_hear 0 [some (.inr (.inr (some (.inl 2, 254)))), some (.inl a1), some (.inr (.inr (some (.inl 6, 1)))), some (.inl a3), some (.inl a4), some (.inl a5), none] [] (L, zB1, I, J) = cI (C 3 [.inl a5, .inl 12] (L, zB1, (zup I 254 3 a1), J)) (fun r σ => zgo X C none kX2_hear 13 [some (.inr (.inr (some (.inl 2, 254)))), some (.inl a1), some (.inr (.inr (some (.inl 6, 1)))), some (.inl a3), some (.inl a4), some (.inl a5), none] [.inl r, .inr (.inr (some (.inl 2, 254)))] σ) := by
  rw [zgo_run X C _ _ [0, 13, 19, 44] 8]
  rfl
set_option maxRecDepth 100000 in
theorem bX2_hear_13 (X : Nat → Nat → Int32) (C : Nat → List zV → zS → Option zR) (L : List zK) (I : Nat → Nat → Int32) (J : Nat → Nat → Int64) (v1 : Int32) (v3 : Int32) (v4 : Int32) (v5 : Int32) (s0 : Int32) : zgo X C none kX2_hear 13 [some (.inr (.inr (some (.inl 2, 254)))), some (.inl v1), some (.inr (.inr (some (.inl 6, 1)))), some (.inl v3), some (.inl v4), some (.inl v5), none] [.inl s0, .inr (.inr (some (.inl 2, 254)))] (L, zB1, I, J) = zgo X C none kX2_hear 19 [some (.inr (.inr (some (.inl 2, 254)))), some (.inl v1), some (.inr (.inr (some (.inl 6, 1)))), some (.inl v3), some (.inl v4), some (.inl v5), some (.inl 0)] [] (L, zB1, (zup I 254 2 s0), J) := by
  rw [zgo_run X C _ _ [0, 13, 19, 44] 4]
  rfl
set_option maxRecDepth 100000 in
theorem bX2_hear_19 (X : Nat → Nat → Int32) (C : Nat → List zV → zS → Option zR) (L : List zK) (I : Nat → Nat → Int32) (J : Nat → Nat → Int64) (v1 : Int32) (v3 : Int32) (v4 : Int32) (v5 : Int32) (v6 : Int32) : zgo X C none kX2_hear 19 [some (.inr (.inr (some (.inl 2, 254)))), some (.inl v1), some (.inr (.inr (some (.inl 6, 1)))), some (.inl v3), some (.inl v4), some (.inl v5), some (.inl v6)] [] (L, zB1, I, J) = if (I 254 2) ≤ v6 then some (none, (L, zB1, I, J)) else cI (C 82 [.inr (.inr (some (.inl 6, 1))), .inl v3, .inl (v4 + v6)] (L, zB1, I, J)) (fun r σ => zgo X C none kX2_hear 44 [some (.inr (.inr (some (.inl 2, 254)))), some (.inl v1), some (.inr (.inr (some (.inl 6, 1)))), some (.inl v3), some (.inl v4), some (.inl v5), some (.inl v6)] [.inl r, .inl v6, .inr (.inr (some (.inr (.int, 12), 263)))] σ) := by
  rw [zgo_run X C _ _ [0, 13, 19, 44] 14]
  rfl
set_option maxRecDepth 100000 in
theorem bX2_hear_44 (X : Nat → Nat → Int32) (C : Nat → List zV → zS → Option zR) (L : List zK) (I : Nat → Nat → Int32) (J : Nat → Nat → Int64) (v1 : Int32) (v3 : Int32) (v4 : Int32) (v5 : Int32) (v6 : Int32) (s0 : Int32) (s1 : Int32) : zgo X C none kX2_hear 44 [some (.inr (.inr (some (.inl 2, 254)))), some (.inl v1), some (.inr (.inr (some (.inl 6, 1)))), some (.inl v3), some (.inl v4), some (.inl v5), some (.inl v6)] [.inl s0, .inl s1, .inr (.inr (some (.inr (.int, 12), 263)))] (L, zB1, I, J) = zbt (zin s1 12) (zgo X C none kX2_hear 19 [some (.inr (.inr (some (.inl 2, 254)))), some (.inl v1), some (.inr (.inr (some (.inl 6, 1)))), some (.inl v3), some (.inl v4), some (.inl v5), some (.inl (v6 + 1))] [] (L, zB1, (zup I 263 s1.toNatClampNeg s0), J)) := by
  rw [zgo_run X C _ _ [0, 13, 19, 44] 4]
  rfl

set_option maxRecDepth 100000 in
theorem bX2_tryAll_0 (X : Nat → Nat → Int32) (C : Nat → List zV → zS → Option zR) (L : List zK) (I : Nat → Nat → Int32) (J : Nat → Nat → Int64) (b2 : Nat) (a2 : Int32) (a3 : Int32) (a4 : Int32) (a5 : Int32) : zgo X C none kX2_tryAll 0 [some (.inr (.inr (some (.inl 2, 254)))), some (.inr (.inr (some (.inl 1, b2)))), some (.inl a2), some (.inl a3), some (.inl a4), some (.inl a5), none] [] (L, zB1, I, J) = zgo X C none kX2_tryAll 20 [some (.inr (.inr (some (.inl 2, 254)))), some (.inr (.inr (some (.inl 1, b2)))), some (.inl a2), some (.inl a3), some (.inl a4), some (.inl a5), some (.inl a4)] [] (L, zB1, (zup (zup (zup I 254 4 0) 254 5 0) 254 6 (-1000000)), J) := by
  rw [zgo_run X C _ _ [0, 20, 35, 43, 47] 12]
  rfl
set_option maxRecDepth 100000 in
theorem bX2_tryAll_20 (X : Nat → Nat → Int32) (C : Nat → List zV → zS → Option zR) (L : List zK) (I : Nat → Nat → Int32) (J : Nat → Nat → Int64) (qv1 : Nat) (v2 : Int32) (v3 : Int32) (v4 : Int32) (v5 : Int32) (v6 : Int32) : zgo X C none kX2_tryAll 20 [some (.inr (.inr (some (.inl 2, 254)))), some (.inr (.inr (some (.inl 1, qv1)))), some (.inl v2), some (.inl v3), some (.inl v4), some (.inl v5), some (.inl v6)] [] (L, zB1, I, J) = if v5 < v6 then some (none, (L, zB1, I, J)) else cV (C 12 [.inr (.inr (some (.inl 1, 255))), .inr (.inr (some (.inl 1, qv1)))] (L, zB1, I, J)) (fun σ => zgo X C none kX2_tryAll 35 [some (.inr (.inr (some (.inl 2, 254)))), some (.inr (.inr (some (.inl 1, qv1)))), some (.inl v2), some (.inl v3), some (.inl v4), some (.inl v5), some (.inl v6)] [] σ) := by
  rw [zgo_run X C _ _ [0, 20, 35, 43, 47] 8]
  rfl
set_option maxRecDepth 100000 in
theorem bX2_tryAll_35 (X : Nat → Nat → Int32) (C : Nat → List zV → zS → Option zR) (L : List zK) (I : Nat → Nat → Int32) (J : Nat → Nat → Int64) (qv1 : Nat) (v2 : Int32) (v3 : Int32) (v4 : Int32) (v5 : Int32) (v6 : Int32) : zgo X C none kX2_tryAll 35 [some (.inr (.inr (some (.inl 2, 254)))), some (.inr (.inr (some (.inl 1, qv1)))), some (.inl v2), some (.inl v3), some (.inl v4), some (.inl v5), some (.inl v6)] [] (L, zB1, I, J) = cV (C 37 [.inr (.inr (some (.inl 2, 254))), .inl v2, .inl v3, .inl v6] (L, zB1, I, J)) (fun σ => zgo X C none kX2_tryAll 43 [some (.inr (.inr (some (.inl 2, 254)))), some (.inr (.inr (some (.inl 1, qv1)))), some (.inl v2), some (.inl v3), some (.inl v4), some (.inl v5), some (.inl v6)] [] σ) := by
  rw [zgo_run X C _ _ [0, 20, 35, 43, 47] 6]
  rfl
set_option maxRecDepth 100000 in
theorem bX2_tryAll_43 (X : Nat → Nat → Int32) (C : Nat → List zV → zS → Option zR) (L : List zK) (I : Nat → Nat → Int32) (J : Nat → Nat → Int64) (qv1 : Nat) (v2 : Int32) (v3 : Int32) (v4 : Int32) (v5 : Int32) (v6 : Int32) : zgo X C none kX2_tryAll 43 [some (.inr (.inr (some (.inl 2, 254)))), some (.inr (.inr (some (.inl 1, qv1)))), some (.inl v2), some (.inl v3), some (.inl v4), some (.inl v5), some (.inl v6)] [] (L, zB1, I, J) = cI (C 38 [.inr (.inr (some (.inl 2, 254)))] (L, zB1, I, J)) (fun r σ => zgo X C none kX2_tryAll 47 [some (.inr (.inr (some (.inl 2, 254)))), some (.inr (.inr (some (.inl 1, qv1)))), some (.inl v2), some (.inl v3), some (.inl v4), some (.inl v5), some (.inl v6)] [.inl r] σ) := by
  rw [zgo_run X C _ _ [0, 20, 35, 43, 47] 3]
  rfl
set_option maxRecDepth 100000 in
theorem bX2_tryAll_47 (X : Nat → Nat → Int32) (C : Nat → List zV → zS → Option zR) (L : List zK) (I : Nat → Nat → Int32) (J : Nat → Nat → Int64) (qv1 : Nat) (v2 : Int32) (v3 : Int32) (v4 : Int32) (v5 : Int32) (v6 : Int32) (s0 : Int32) : zgo X C none kX2_tryAll 47 [some (.inr (.inr (some (.inl 2, 254)))), some (.inr (.inr (some (.inl 1, qv1)))), some (.inl v2), some (.inl v3), some (.inl v4), some (.inl v5), some (.inl v6)] [.inl s0] (L, zB1, I, J) = if s0 = 0 then zgo X C none kX2_tryAll 20 [some (.inr (.inr (some (.inl 2, 254)))), some (.inr (.inr (some (.inl 1, qv1)))), some (.inl v2), some (.inl v3), some (.inl v4), some (.inl v5), some (.inl (v6 + 1))] [] (L, zB1, I, J) else if ((zup (zup I 254 4 ((I 254 4) ||| (1 <<< (v6 &&& 31)))) 254 5 (((zup I 254 4 ((I 254 4) ||| (1 <<< (v6 &&& 31)))) 254 5) + 1)) 254 6) = (-1000000) then zgo X C none kX2_tryAll 20 [some (.inr (.inr (some (.inl 2, 254)))), some (.inr (.inr (some (.inl 1, qv1)))), some (.inl v2), some (.inl v3), some (.inl v4), some (.inl v5), some (.inl (v6 + 1))] [] (L, zB1, (zup (zup (zup I 254 4 ((I 254 4) ||| (1 <<< (v6 &&& 31)))) 254 5 (((zup I 254 4 ((I 254 4) ||| (1 <<< (v6 &&& 31)))) 254 5) + 1)) 254 6 v6), J) else zgo X C none kX2_tryAll 20 [some (.inr (.inr (some (.inl 2, 254)))), some (.inr (.inr (some (.inl 1, qv1)))), some (.inl v2), some (.inl v3), some (.inl v4), some (.inl v5), some (.inl (v6 + 1))] [] (L, zB1, (zup (zup (zup I 254 4 ((I 254 4) ||| (1 <<< (v6 &&& 31)))) 254 5 (((zup I 254 4 ((I 254 4) ||| (1 <<< (v6 &&& 31)))) 254 5) + 1)) 254 6 ((zup (zup I 254 4 ((I 254 4) ||| (1 <<< (v6 &&& 31)))) 254 5 (((zup I 254 4 ((I 254 4) ||| (1 <<< (v6 &&& 31)))) 254 5) + 1)) 254 6)), J) := by
  rw [zgo_run X C _ _ [0, 20, 35, 43, 47] 26]
  rfl

set_option maxRecDepth 100000 in
theorem bX2_suppose_0 (X : Nat → Nat → Int32) (C : Nat → List zV → zS → Option zR) (L : List zK) (I : Nat → Nat → Int32) (J : Nat → Nat → Int64) (a1 : Int32) (a2 : Int32) (a3 : Int32) : zgo X C none kX2_suppose 0 [some (.inr (.inr (some (.inl 2, 254)))), some (.inl a1), some (.inl a2), some (.inl a3)] [] (L, zB1, I, J) = if a1 = 3 then some (none, (L, zB1, (zup I 255 3 a3), J)) else if a1 = 2 then cI (C 17 [.inr (.inr (some (.inl 1, 255))), .inl a2] (L, zB1, I, J)) (fun r σ => zgo X C none kX2_suppose 29 [some (.inr (.inr (some (.inl 2, 254)))), some (.inl a1), some (.inl a2), some (.inl a3)] [.inl r] σ) else zgo X C none kX2_suppose 45 [some (.inr (.inr (some (.inl 2, 254)))), some (.inl a1), some (.inl a2), some (.inl a3)] [] (L, zB1, I, J) := by
  rw [zgo_run X C _ _ [0, 29, 45, 57, 73, 86] 11]
  rfl
set_option maxRecDepth 100000 in
theorem bX2_suppose_29 (X : Nat → Nat → Int32) (C : Nat → List zV → zS → Option zR) (L : List zK) (I : Nat → Nat → Int32) (J : Nat → Nat → Int64) (v1 : Int32) (v2 : Int32) (v3 : Int32) (s0 : Int32) : zgo X C none kX2_suppose 29 [some (.inr (.inr (some (.inl 2, 254)))), some (.inl v1), some (.inl v2), some (.inl v3)] [.inl s0] (L, zB1, I, J) = if s0 = 0 then zgo X C none kX2_suppose 45 [some (.inr (.inr (some (.inl 2, 254)))), some (.inl v1), some (.inl v2), some (.inl v3)] [] (L, zB1, I, J) else zbt (zin v2 4) (some (none, (L, zB1, (zup I 256 v2.toNatClampNeg v3), J))) := by
  rw [zgo_run X C _ _ [0, 29, 45, 57, 73, 86] 10]
  rfl
set_option maxRecDepth 100000 in
theorem bX2_suppose_45 (X : Nat → Nat → Int32) (C : Nat → List zV → zS → Option zR) (L : List zK) (I : Nat → Nat → Int32) (J : Nat → Nat → Int64) (v1 : Int32) (v2 : Int32) (v3 : Int32) : zgo X C none kX2_suppose 45 [some (.inr (.inr (some (.inl 2, 254)))), some (.inl v1), some (.inl v2), some (.inl v3)] [] (L, zB1, I, J) = if v1 = 0 then cI (C 16 [.inr (.inr (some (.inl 1, 255))), .inl v2] (L, zB1, I, J)) (fun r σ => zgo X C none kX2_suppose 57 [some (.inr (.inr (some (.inl 2, 254)))), some (.inl v1), some (.inl v2), some (.inl v3)] [.inl r] σ) else zgo X C none kX2_suppose 73 [some (.inr (.inr (some (.inl 2, 254)))), some (.inl v1), some (.inl v2), some (.inl v3)] [] (L, zB1, I, J) := by
  rw [zgo_run X C _ _ [0, 29, 45, 57, 73, 86] 7]
  rfl
set_option maxRecDepth 100000 in
theorem bX2_suppose_57 (X : Nat → Nat → Int32) (C : Nat → List zV → zS → Option zR) (L : List zK) (I : Nat → Nat → Int32) (J : Nat → Nat → Int64) (v1 : Int32) (v2 : Int32) (v3 : Int32) (s0 : Int32) : zgo X C none kX2_suppose 57 [some (.inr (.inr (some (.inl 2, 254)))), some (.inl v1), some (.inl v2), some (.inl v3)] [.inl s0] (L, zB1, I, J) = if s0 = 0 then zgo X C none kX2_suppose 73 [some (.inr (.inr (some (.inl 2, 254)))), some (.inl v1), some (.inl v2), some (.inl v3)] [] (L, zB1, I, J) else zbt (zin v2 6) (some (none, (L, zB1, (zup I 258 v2.toNatClampNeg v3), J))) := by
  rw [zgo_run X C _ _ [0, 29, 45, 57, 73, 86] 10]
  rfl
set_option maxRecDepth 100000 in
theorem bX2_suppose_73 (X : Nat → Nat → Int32) (C : Nat → List zV → zS → Option zR) (L : List zK) (I : Nat → Nat → Int32) (J : Nat → Nat → Int64) (v1 : Int32) (v2 : Int32) (v3 : Int32) : zgo X C none kX2_suppose 73 [some (.inr (.inr (some (.inl 2, 254)))), some (.inl v1), some (.inl v2), some (.inl v3)] [] (L, zB1, I, J) = if v1 = 1 then cI (C 16 [.inr (.inr (some (.inl 1, 255))), .inl v2] (L, zB1, I, J)) (fun r σ => zgo X C none kX2_suppose 86 [some (.inr (.inr (some (.inl 2, 254)))), some (.inl v1), some (.inl v2), some (.inl v3)] [.inl r] σ) else some (none, (L, zB1, I, J)) := by
  rw [zgo_run X C _ _ [0, 29, 45, 57, 73, 86] 8]
  rfl
set_option maxRecDepth 100000 in
theorem bX2_suppose_86 (X : Nat → Nat → Int32) (C : Nat → List zV → zS → Option zR) (L : List zK) (I : Nat → Nat → Int32) (J : Nat → Nat → Int64) (v1 : Int32) (v2 : Int32) (v3 : Int32) (s0 : Int32) : zgo X C none kX2_suppose 86 [some (.inr (.inr (some (.inl 2, 254)))), some (.inl v1), some (.inl v2), some (.inl v3)] [.inl s0] (L, zB1, I, J) = if s0 = 0 then some (none, (L, zB1, I, J)) else zbt (zin v2 6) (some (none, (L, zB1, (zup I 262 v2.toNatClampNeg v3), J))) := by
  rw [zgo_run X C _ _ [0, 29, 45, 57, 73, 86] 9]
  rfl

set_option maxRecDepth 100000 in
theorem bX2_fits_0 (X : Nat → Nat → Int32) (C : Nat → List zV → zS → Option zR) (L : List zK) (I : Nat → Nat → Int32) (J : Nat → Nat → Int64) : zgo X C (some .boolean) kX2_fits 0 [some (.inr (.inr (some (.inl 2, 254)))), none] [] (L, zB1, I, J) = cI (C 16 [.inr (.inr (some (.inl 1, 255))), .inl (I 254 3)] (L, zB1, I, J)) (fun r σ => zgo X C (some .boolean) kX2_fits 11 [some (.inr (.inr (some (.inl 2, 254)))), none] [.inl r] σ) := by
  rw [zgo_run X C _ _ [0, 11, 18, 35] 6]
  rfl
set_option maxRecDepth 100000 in
theorem bX2_fits_11 (X : Nat → Nat → Int32) (C : Nat → List zV → zS → Option zR) (L : List zK) (I : Nat → Nat → Int32) (J : Nat → Nat → Int64) (s0 : Int32) : zgo X C (some .boolean) kX2_fits 11 [some (.inr (.inr (some (.inl 2, 254)))), none] [.inl s0] (L, zB1, I, J) = if s0 = 0 then some (some (.inl 0), (L, zB1, I, J)) else zgo X C (some .boolean) kX2_fits 18 [some (.inr (.inr (some (.inl 2, 254)))), some (.inl 0)] [] (L, zB1, I, J) := by
  rw [zgo_run X C _ _ [0, 11, 18, 35] 4]
  rfl
set_option maxRecDepth 100000 in
theorem bX2_fits_18 (X : Nat → Nat → Int32) (C : Nat → List zV → zS → Option zR) (L : List zK) (I : Nat → Nat → Int32) (J : Nat → Nat → Int64) (v1 : Int32) : zgo X C (some .boolean) kX2_fits 18 [some (.inr (.inr (some (.inl 2, 254)))), some (.inl v1)] [] (L, zB1, I, J) = if (I 254 2) ≤ v1 then some (some (.inl 1), (L, zB1, I, J)) else cV (C 20 [.inr (.inr (some (.inl 1, 255))), .inl 1, .inl 0] (L, zB1, I, J)) (fun σ => zgo X C (some .boolean) kX2_fits 35 [some (.inr (.inr (some (.inl 2, 254)))), some (.inl v1)] [] σ) := by
  rw [zgo_run X C _ _ [0, 11, 18, 35] 10]
  rfl
set_option maxRecDepth 100000 in
theorem bX2_fits_35 (X : Nat → Nat → Int32) (C : Nat → List zV → zS → Option zR) (L : List zK) (I : Nat → Nat → Int32) (J : Nat → Nat → Int64) (v1 : Int32) : zgo X C (some .boolean) kX2_fits 35 [some (.inr (.inr (some (.inl 2, 254)))), some (.inl v1)] [] (L, zB1, I, J) = zbt (zin (I 254 3) 6) (zbt (zin v1 12) (if (I 262 (I 254 3).toNatClampNeg) = (I 263 v1.toNatClampNeg) then zgo X C (some .boolean) kX2_fits 18 [some (.inr (.inr (some (.inl 2, 254)))), some (.inl (v1 + 1))] [] (L, zB1, I, J) else some (some (.inl 0), (L, zB1, I, J)))) := by
  rw [zgo_run X C _ _ [0, 11, 18, 35] 14]
  rfl

set_option maxRecDepth 100000 in
theorem bX2_bits_0 (X : Nat → Nat → Int32) (C : Nat → List zV → zS → Option zR) (L : List zK) (I : Nat → Nat → Int32) (J : Nat → Nat → Int64) : zgo X C (some .int) kX2_bits 0 [some (.inr (.inr (some (.inl 2, 254))))] [] (L, zB1, I, J) = some (some (.inl (I 254 4)), (L, zB1, I, J)) := by
  rw [zgo_run X C _ _ [0] 4]
  rfl

set_option maxRecDepth 100000 in
theorem bX2_howMany_0 (X : Nat → Nat → Int32) (C : Nat → List zV → zS → Option zR) (L : List zK) (I : Nat → Nat → Int32) (J : Nat → Nat → Int64) : zgo X C (some .int) kX2_howMany 0 [some (.inr (.inr (some (.inl 2, 254))))] [] (L, zB1, I, J) = some (some (.inl (I 254 5)), (L, zB1, I, J)) := by
  rw [zgo_run X C _ _ [0] 4]
  rfl

set_option maxRecDepth 100000 in
theorem bX2_least_0 (X : Nat → Nat → Int32) (C : Nat → List zV → zS → Option zR) (L : List zK) (I : Nat → Nat → Int32) (J : Nat → Nat → Int64) : zgo X C (some .int) kX2_least 0 [some (.inr (.inr (some (.inl 2, 254))))] [] (L, zB1, I, J) = some (some (.inl (I 254 6)), (L, zB1, I, J)) := by
  rw [zgo_run X C _ _ [0] 4]
  rfl

set_option maxRecDepth 100000 in
theorem bX3_look_0 (X : Nat → Nat → Int32) (C : Nat → List zV → zS → Option zR) (L : List zK) (I : Nat → Nat → Int32) (J : Nat → Nat → Int64) (b2 : Nat) (a2 : Int32) : zgo X C (some (.object "JudgeHalves$Circuit")) kX3_look 0 [some (.inr (.inr (some (.inl 3, 225)))), some (.inr (.inr (some (.inl 1, b2)))), some (.inl a2)] [] (L, zB1, I, J) = cV (C 12 [.inr (.inr (some (.inl 1, 226))), .inr (.inr (some (.inl 1, b2)))] (L, zB1, I, J)) (fun σ => zgo X C (some (.object "JudgeHalves$Circuit")) kX3_look 8 [some (.inr (.inr (some (.inl 3, 225)))), some (.inr (.inr (some (.inl 1, b2)))), some (.inl a2)] [] σ) := by
  rw [zgo_run X C _ _ [0, 8, 17] 5]
  rfl
set_option maxRecDepth 100000 in
theorem bX3_look_8 (X : Nat → Nat → Int32) (C : Nat → List zV → zS → Option zR) (L : List zK) (I : Nat → Nat → Int32) (J : Nat → Nat → Int64) (qv1 : Nat) (v2 : Int32) : zgo X C (some (.object "JudgeHalves$Circuit")) kX3_look 8 [some (.inr (.inr (some (.inl 3, 225)))), some (.inr (.inr (some (.inl 1, qv1)))), some (.inl v2)] [] (L, zB1, I, J) = cV (C 20 [.inr (.inr (some (.inl 1, 226))), .inl v2, .inl 0] (L, zB1, I, J)) (fun σ => zgo X C (some (.object "JudgeHalves$Circuit")) kX3_look 17 [some (.inr (.inr (some (.inl 3, 225)))), some (.inr (.inr (some (.inl 1, qv1)))), some (.inl v2)] [] σ) := by
  rw [zgo_run X C _ _ [0, 8, 17] 6]
  rfl
set_option maxRecDepth 100000 in
theorem bX3_look_17 (X : Nat → Nat → Int32) (C : Nat → List zV → zS → Option zR) (L : List zK) (I : Nat → Nat → Int32) (J : Nat → Nat → Int64) (qv1 : Nat) (v2 : Int32) : zgo X C (some (.object "JudgeHalves$Circuit")) kX3_look 17 [some (.inr (.inr (some (.inl 3, 225)))), some (.inr (.inr (some (.inl 1, qv1)))), some (.inl v2)] [] (L, zB1, I, J) = some (some (.inr (.inr (some (.inl 1, 226)))), (L, zB1, I, J)) := by
  rw [zgo_run X C _ _ [0, 8, 17] 4]
  rfl

set_option maxRecDepth 100000 in
theorem bX3_firstYearAs_0 (X : Nat → Nat → Int32) (C : Nat → List zV → zS → Option zR) (L : List zK) (I : Nat → Nat → Int32) (J : Nat → Nat → Int64) (b2 : Nat) (a2 : Int32) (a3 : Int32) : zgo X C (some .int) kX3_firstYearAs 0 [some (.inr (.inr (some (.inl 3, 225)))), some (.inr (.inr (some (.inl 1, b2)))), some (.inl a2), some (.inl a3), none] [] (L, zB1, I, J) = cV (C 12 [.inr (.inr (some (.inl 1, 226))), .inr (.inr (some (.inl 1, b2)))] (L, zB1, I, J)) (fun σ => zgo X C (some .int) kX3_firstYearAs 8 [some (.inr (.inr (some (.inl 3, 225)))), some (.inr (.inr (some (.inl 1, b2)))), some (.inl a2), some (.inl a3), none] [] σ) := by
  rw [zgo_run X C _ _ [0, 8, 16, 25, 57] 5]
  rfl
set_option maxRecDepth 100000 in
theorem bX3_firstYearAs_8 (X : Nat → Nat → Int32) (C : Nat → List zV → zS → Option zR) (L : List zK) (I : Nat → Nat → Int32) (J : Nat → Nat → Int64) (qv1 : Nat) (v2 : Int32) (v3 : Int32) : zgo X C (some .int) kX3_firstYearAs 8 [some (.inr (.inr (some (.inl 3, 225)))), some (.inr (.inr (some (.inl 1, qv1)))), some (.inl v2), some (.inl v3), none] [] (L, zB1, I, J) = cI (C 16 [.inr (.inr (some (.inl 1, 226))), .inl v2] (L, zB1, I, J)) (fun r σ => zgo X C (some .int) kX3_firstYearAs 16 [some (.inr (.inr (some (.inl 3, 225)))), some (.inr (.inr (some (.inl 1, qv1)))), some (.inl v2), some (.inl v3), none] [.inl r] σ) := by
  rw [zgo_run X C _ _ [0, 8, 16, 25, 57] 5]
  rfl
set_option maxRecDepth 100000 in
theorem bX3_firstYearAs_16 (X : Nat → Nat → Int32) (C : Nat → List zV → zS → Option zR) (L : List zK) (I : Nat → Nat → Int32) (J : Nat → Nat → Int64) (qv1 : Nat) (v2 : Int32) (v3 : Int32) (s0 : Int32) : zgo X C (some .int) kX3_firstYearAs 16 [some (.inr (.inr (some (.inl 3, 225)))), some (.inr (.inr (some (.inl 1, qv1)))), some (.inl v2), some (.inl v3), none] [.inl s0] (L, zB1, I, J) = if s0 = 0 then some (some (.inl (-1000000)), (L, zB1, I, J)) else zgo X C (some .int) kX3_firstYearAs 25 [some (.inr (.inr (some (.inl 3, 225)))), some (.inr (.inr (some (.inl 1, qv1)))), some (.inl v2), some (.inl v3), some (.inl 0)] [] (L, zB1, I, J) := by
  rw [zgo_run X C _ _ [0, 8, 16, 25, 57] 4]
  rfl
set_option maxRecDepth 100000 in
theorem bX3_firstYearAs_25 (X : Nat → Nat → Int32) (C : Nat → List zV → zS → Option zR) (L : List zK) (I : Nat → Nat → Int32) (J : Nat → Nat → Int64) (qv1 : Nat) (v2 : Int32) (v3 : Int32) (v4 : Int32) : zgo X C (some .int) kX3_firstYearAs 25 [some (.inr (.inr (some (.inl 3, 225)))), some (.inr (.inr (some (.inl 1, qv1)))), some (.inl v2), some (.inl v3), some (.inl v4)] [] (L, zB1, I, J) = if (60 : Int32) < v4 then some (some (.inl (-1000000)), (L, zB1, I, J)) else zbt (zin v2 6) (if (I 231 v2.toNatClampNeg) = v3 then some (some (.inl v4), (L, zB1, I, J)) else cV (C 20 [.inr (.inr (some (.inl 1, 226))), .inl 1, .inl 0] (L, zB1, I, J)) (fun σ => zgo X C (some .int) kX3_firstYearAs 57 [some (.inr (.inr (some (.inl 3, 225)))), some (.inr (.inr (some (.inl 1, qv1)))), some (.inl v2), some (.inl v3), some (.inl v4)] [] σ)) := by
  rw [zgo_run X C _ _ [0, 8, 16, 25, 57] 16]
  rfl
set_option maxRecDepth 100000 in
theorem bX3_firstYearAs_57 (X : Nat → Nat → Int32) (C : Nat → List zV → zS → Option zR) (L : List zK) (I : Nat → Nat → Int32) (J : Nat → Nat → Int64) (qv1 : Nat) (v2 : Int32) (v3 : Int32) (v4 : Int32) : zgo X C (some .int) kX3_firstYearAs 57 [some (.inr (.inr (some (.inl 3, 225)))), some (.inr (.inr (some (.inl 1, qv1)))), some (.inl v2), some (.inl v3), some (.inl v4)] [] (L, zB1, I, J) = zgo X C (some .int) kX3_firstYearAs 25 [some (.inr (.inr (some (.inl 3, 225)))), some (.inr (.inr (some (.inl 1, qv1)))), some (.inl v2), some (.inl v3), some (.inl (v4 + 1))] [] (L, zB1, I, J) := by
  rw [zgo_run X C _ _ [0, 8, 16, 25, 57] 3]
  rfl

set_option maxRecDepth 100000 in
theorem bX3_weighFences_0 (X : Nat → Nat → Int32) (C : Nat → List zV → zS → Option zR) (L : List zK) (I : Nat → Nat → Int32) (J : Nat → Nat → Int64) (b2 : Nat) (a2 : Int32) (a3 : Int32) (a4 : Int32) : zgo X C none kX3_weighFences 0 [some (.inr (.inr (some (.inl 3, 225)))), some (.inr (.inr (some (.inl 1, b2)))), some (.inl a2), some (.inl a3), some (.inl a4), none, none] [] (L, zB1, I, J) = cI (C 3 [.inl a3, .inl 8] (L, zB1, I, (zup (zup J 225 1 0) 225 2 1))) (fun r σ => zgo X C none kX3_weighFences 17 [some (.inr (.inr (some (.inl 3, 225)))), some (.inr (.inr (some (.inl 1, b2)))), some (.inl a2), some (.inl a3), some (.inl a4), none, none] [.inl r, .inl 0] σ) := by
  rw [zgo_run X C _ _ [0, 17, 20, 25, 53, 70, 81, 89, 119, 133] 11]
  rfl
set_option maxRecDepth 100000 in
theorem bX3_weighFences_17 (X : Nat → Nat → Int32) (C : Nat → List zV → zS → Option zR) (L : List zK) (I : Nat → Nat → Int32) (J : Nat → Nat → Int64) (qv1 : Nat) (v2 : Int32) (v3 : Int32) (v4 : Int32) (s0 : Int32) (s1 : Int32) : zgo X C none kX3_weighFences 17 [some (.inr (.inr (some (.inl 3, 225)))), some (.inr (.inr (some (.inl 1, qv1)))), some (.inl v2), some (.inl v3), some (.inl v4), none, none] [.inl s0, .inl s1] (L, zB1, I, J) = cI (C 2 [.inl s1, .inl s0] (L, zB1, I, J)) (fun r σ => zgo X C none kX3_weighFences 20 [some (.inr (.inr (some (.inl 3, 225)))), some (.inr (.inr (some (.inl 1, qv1)))), some (.inl v2), some (.inl v3), some (.inl v4), none, none] [.inl r] σ) := by
  rw [zgo_run X C _ _ [0, 17, 20, 25, 53, 70, 81, 89, 119, 133] 2]
  rfl
set_option maxRecDepth 100000 in
theorem bX3_weighFences_20 (X : Nat → Nat → Int32) (C : Nat → List zV → zS → Option zR) (L : List zK) (I : Nat → Nat → Int32) (J : Nat → Nat → Int64) (qv1 : Nat) (v2 : Int32) (v3 : Int32) (v4 : Int32) (s0 : Int32) : zgo X C none kX3_weighFences 20 [some (.inr (.inr (some (.inl 3, 225)))), some (.inr (.inr (some (.inl 1, qv1)))), some (.inl v2), some (.inl v3), some (.inl v4), none, none] [.inl s0] (L, zB1, I, J) = zgo X C none kX3_weighFences 25 [some (.inr (.inr (some (.inl 3, 225)))), some (.inr (.inr (some (.inl 1, qv1)))), some (.inl v2), some (.inl v3), some (.inl v4), some (.inl s0), some (.inl 0)] [] (L, zB1, I, J) := by
  rw [zgo_run X C _ _ [0, 17, 20, 25, 53, 70, 81, 89, 119, 133] 4]
  rfl
set_option maxRecDepth 100000 in
theorem bX3_weighFences_25 (X : Nat → Nat → Int32) (C : Nat → List zV → zS → Option zR) (L : List zK) (I : Nat → Nat → Int32) (J : Nat → Nat → Int64) (qv1 : Nat) (v2 : Int32) (v3 : Int32) (v4 : Int32) (v5 : Int32) (v6 : Int32) : zgo X C none kX3_weighFences 25 [some (.inr (.inr (some (.inl 3, 225)))), some (.inr (.inr (some (.inl 1, qv1)))), some (.inl v2), some (.inl v3), some (.inl v4), some (.inl v5), some (.inl v6)] [] (L, zB1, I, J) = if v5 ≤ v6 then zgo X C none kX3_weighFences 53 [some (.inr (.inr (some (.inl 3, 225)))), some (.inr (.inr (some (.inl 1, qv1)))), some (.inl v2), some (.inl v3), some (.inl v4), some (.inl v5), some (.inl 0)] [] (L, zB1, I, J) else zgo X C none kX3_weighFences 25 [some (.inr (.inr (some (.inl 3, 225)))), some (.inr (.inr (some (.inl 1, qv1)))), some (.inl v2), some (.inl v3), some (.inl v4), some (.inl v5), some (.inl (v6 + 1))] [] (L, zB1, I, (zup J 225 2 ((J 225 2) * 10))) := by
  rw [zgo_run X C _ _ [0, 17, 20, 25, 53, 70, 81, 89, 119, 133] 12]
  rfl
set_option maxRecDepth 100000 in
theorem bX3_weighFences_53 (X : Nat → Nat → Int32) (C : Nat → List zV → zS → Option zR) (L : List zK) (I : Nat → Nat → Int32) (J : Nat → Nat → Int64) (qv1 : Nat) (v2 : Int32) (v3 : Int32) (v4 : Int32) (v5 : Int32) (v6 : Int32) : zgo X C none kX3_weighFences 53 [some (.inr (.inr (some (.inl 3, 225)))), some (.inr (.inr (some (.inl 1, qv1)))), some (.inl v2), some (.inl v3), some (.inl v4), some (.inl v5), some (.inl v6)] [] (L, zB1, I, J) = if (1 <<< (v5 &&& 31)) ≤ v6 then cV (C 47 [.inr (.inr (some (.inl 3, 225)))] (L, zB1, I, J)) (fun σ => zgo X C none kX3_weighFences 133 [some (.inr (.inr (some (.inl 3, 225)))), some (.inr (.inr (some (.inl 1, qv1)))), some (.inl v2), some (.inl v3), some (.inl v4), some (.inl v5), some (.inl v6)] [] σ) else cV (C 12 [.inr (.inr (some (.inl 1, 226))), .inr (.inr (some (.inl 1, qv1)))] (L, zB1, I, J)) (fun σ => zgo X C none kX3_weighFences 70 [some (.inr (.inr (some (.inl 3, 225)))), some (.inr (.inr (some (.inl 1, qv1)))), some (.inl v2), some (.inl v3), some (.inl v4), some (.inl v5), some (.inl v6)] [] σ) := by
  rw [zgo_run X C _ _ [0, 17, 20, 25, 53, 70, 81, 89, 119, 133] 10]
  rfl
set_option maxRecDepth 100000 in
theorem bX3_weighFences_70 (X : Nat → Nat → Int32) (C : Nat → List zV → zS → Option zR) (L : List zK) (I : Nat → Nat → Int32) (J : Nat → Nat → Int64) (qv1 : Nat) (v2 : Int32) (v3 : Int32) (v4 : Int32) (v5 : Int32) (v6 : Int32) : zgo X C none kX3_weighFences 70 [some (.inr (.inr (some (.inl 3, 225)))), some (.inr (.inr (some (.inl 1, qv1)))), some (.inl v2), some (.inl v3), some (.inl v4), some (.inl v5), some (.inl v6)] [] (L, zB1, I, J) = cV (C 20 [.inr (.inr (some (.inl 1, 226))), .inl v5, .inl v6] (L, zB1, I, J)) (fun σ => zgo X C none kX3_weighFences 81 [some (.inr (.inr (some (.inl 3, 225)))), some (.inr (.inr (some (.inl 1, qv1)))), some (.inl v2), some (.inl v3), some (.inl v4), some (.inl v5), some (.inl v6)] [] σ) := by
  rw [zgo_run X C _ _ [0, 17, 20, 25, 53, 70, 81, 89, 119, 133] 6]
  rfl
set_option maxRecDepth 100000 in
theorem bX3_weighFences_81 (X : Nat → Nat → Int32) (C : Nat → List zV → zS → Option zR) (L : List zK) (I : Nat → Nat → Int32) (J : Nat → Nat → Int64) (qv1 : Nat) (v2 : Int32) (v3 : Int32) (v4 : Int32) (v5 : Int32) (v6 : Int32) : zgo X C none kX3_weighFences 81 [some (.inr (.inr (some (.inl 3, 225)))), some (.inr (.inr (some (.inl 1, qv1)))), some (.inl v2), some (.inl v3), some (.inl v4), some (.inl v5), some (.inl v6)] [] (L, zB1, I, J) = cI (C 16 [.inr (.inr (some (.inl 1, 226))), .inl v2] (L, zB1, I, J)) (fun r σ => zgo X C none kX3_weighFences 89 [some (.inr (.inr (some (.inl 3, 225)))), some (.inr (.inr (some (.inl 1, qv1)))), some (.inl v2), some (.inl v3), some (.inl v4), some (.inl v5), some (.inl v6)] [.inl r] σ) := by
  rw [zgo_run X C _ _ [0, 17, 20, 25, 53, 70, 81, 89, 119, 133] 5]
  rfl
set_option maxRecDepth 100000 in
theorem bX3_weighFences_89 (X : Nat → Nat → Int32) (C : Nat → List zV → zS → Option zR) (L : List zK) (I : Nat → Nat → Int32) (J : Nat → Nat → Int64) (qv1 : Nat) (v2 : Int32) (v3 : Int32) (v4 : Int32) (v5 : Int32) (v6 : Int32) (s0 : Int32) : zgo X C none kX3_weighFences 89 [some (.inr (.inr (some (.inl 3, 225)))), some (.inr (.inr (some (.inl 1, qv1)))), some (.inl v2), some (.inl v3), some (.inl v4), some (.inl v5), some (.inl v6)] [.inl s0] (L, zB1, I, J) = if s0 = 0 then zgo X C none kX3_weighFences 53 [some (.inr (.inr (some (.inl 3, 225)))), some (.inr (.inr (some (.inl 1, qv1)))), some (.inl v2), some (.inl v3), some (.inl v4), some (.inl v5), some (.inl (v6 + 1))] [] (L, zB1, I, J) else zbt (zin v2 6) (if (I 231 v2.toNatClampNeg) = 3 then cJ (C 46 [.inl v5, .inl v6, .inl v4] (L, zB1, I, J)) (fun r σ => zgo X C none kX3_weighFences 119 [some (.inr (.inr (some (.inl 3, 225)))), some (.inr (.inr (some (.inl 1, qv1)))), some (.inl v2), some (.inl v3), some (.inl v4), some (.inl v5), some (.inl v6)] [.inr (.inl r), .inr (.inl (J 225 1)), .inr (.inr (some (.inl 3, 225)))] σ) else zgo X C none kX3_weighFences 53 [some (.inr (.inr (some (.inl 3, 225)))), some (.inr (.inr (some (.inl 1, qv1)))), some (.inl v2), some (.inl v3), some (.inl v4), some (.inl v5), some (.inl (v6 + 1))] [] (L, zB1, I, J)) := by
  rw [zgo_run X C _ _ [0, 17, 20, 25, 53, 70, 81, 89, 119, 133] 16]
  rfl
set_option maxRecDepth 100000 in
theorem bX3_weighFences_119 (X : Nat → Nat → Int32) (C : Nat → List zV → zS → Option zR) (L : List zK) (I : Nat → Nat → Int32) (J : Nat → Nat → Int64) (qv1 : Nat) (v2 : Int32) (v3 : Int32) (v4 : Int32) (v5 : Int32) (v6 : Int32) (s0 : Int64) (s1 : Int64) : zgo X C none kX3_weighFences 119 [some (.inr (.inr (some (.inl 3, 225)))), some (.inr (.inr (some (.inl 1, qv1)))), some (.inl v2), some (.inl v3), some (.inl v4), some (.inl v5), some (.inl v6)] [.inr (.inl s0), .inr (.inl s1), .inr (.inr (some (.inl 3, 225)))] (L, zB1, I, J) = zgo X C none kX3_weighFences 53 [some (.inr (.inr (some (.inl 3, 225)))), some (.inr (.inr (some (.inl 1, qv1)))), some (.inl v2), some (.inl v3), some (.inl v4), some (.inl v5), some (.inl (v6 + 1))] [] (L, zB1, I, (zup J 225 1 (s1 + s0))) := by
  rw [zgo_run X C _ _ [0, 17, 20, 25, 53, 70, 81, 89, 119, 133] 5]
  rfl
set_option maxRecDepth 100000 in
theorem bX3_weighFences_133 (X : Nat → Nat → Int32) (C : Nat → List zV → zS → Option zR) (L : List zK) (I : Nat → Nat → Int32) (J : Nat → Nat → Int64) (qv1 : Nat) (v2 : Int32) (v3 : Int32) (v4 : Int32) (v5 : Int32) (v6 : Int32) : zgo X C none kX3_weighFences 133 [some (.inr (.inr (some (.inl 3, 225)))), some (.inr (.inr (some (.inl 1, qv1)))), some (.inl v2), some (.inl v3), some (.inl v4), some (.inl v5), some (.inl v6)] [] (L, zB1, I, J) = some (none, (L, zB1, I, J)) := by
  rw [zgo_run X C _ _ [0, 17, 20, 25, 53, 70, 81, 89, 119, 133] 2]
  rfl

set_option maxRecDepth 100000 in
theorem bX3_casesOf_0 (X : Nat → Nat → Int32) (C : Nat → List zV → zS → Option zR) (L : List zK) (I : Nat → Nat → Int32) (J : Nat → Nat → Int64) (a1 : Int32) (a2 : Int32) (a3 : Int32) : zgo X C (some .long) kX3_casesOf 0 [some (.inl a1), some (.inl a2), some (.inl a3), none, none, none] [] (L, zB1, I, J) = zgo X C (some .long) kX3_casesOf 5 [some (.inl a1), some (.inl a2), some (.inl a3), some (.inr (.inl 1)), none, some (.inl 0)] [] (L, zB1, I, J) := by
  rw [zgo_run X C _ _ [0, 5, 32] 5]
  rfl
set_option maxRecDepth 100000 in
theorem bX3_casesOf_5 (X : Nat → Nat → Int32) (C : Nat → List zV → zS → Option zR) (L : List zK) (I : Nat → Nat → Int32) (J : Nat → Nat → Int64) (v0 : Int32) (v1 : Int32) (v2 : Int32) (v3 : Int64) (v5 : Int32) : zgo X C (some .long) kX3_casesOf 5 [some (.inl v0), some (.inl v1), some (.inl v2), some (.inr (.inl v3)), none, some (.inl v5)] [] (L, zB1, I, J) = if v0 ≤ v5 then some (some (.inr (.inl v3)), (L, zB1, I, J)) else if ((v1 >>> (v5 &&& 31)) &&& 1) = 1 then zgo X C (some .long) kX3_casesOf 32 [some (.inl v0), some (.inl v1), some (.inl v2), some (.inr (.inl v3)), none, some (.inl v5)] [.inr (.inl ((v2).toInt64)), .inr (.inl v3)] (L, zB1, I, J) else zgo X C (some .long) kX3_casesOf 32 [some (.inl v0), some (.inl v1), some (.inl v2), some (.inr (.inl v3)), none, some (.inl v5)] [.inr (.inl (((10 - v2)).toInt64)), .inr (.inl v3)] (L, zB1, I, J) := by
  rw [zgo_run X C _ _ [0, 5, 32] 16]
  rfl
set_option maxRecDepth 100000 in
theorem bX3_casesOf_32 (X : Nat → Nat → Int32) (C : Nat → List zV → zS → Option zR) (L : List zK) (I : Nat → Nat → Int32) (J : Nat → Nat → Int64) (v0 : Int32) (v1 : Int32) (v2 : Int32) (v3 : Int64) (v5 : Int32) (s0 : Int64) (s1 : Int64) : zgo X C (some .long) kX3_casesOf 32 [some (.inl v0), some (.inl v1), some (.inl v2), some (.inr (.inl v3)), none, some (.inl v5)] [.inr (.inl s0), .inr (.inl s1)] (L, zB1, I, J) = zgo X C (some .long) kX3_casesOf 5 [some (.inl v0), some (.inl v1), some (.inl v2), some (.inr (.inl (s1 * s0))), none, some (.inl (v5 + 1))] [] (L, zB1, I, J) := by
  rw [zgo_run X C _ _ [0, 5, 32] 5]
  rfl

set_option maxRecDepth 100000 in
theorem bX3_reduce_0 (X : Nat → Nat → Int32) (C : Nat → List zV → zS → Option zR) (L : List zK) (I : Nat → Nat → Int32) (J : Nat → Nat → Int64) : zgo X C none kX3_reduce 0 [some (.inr (.inr (some (.inl 3, 225)))), none, none, none, none, none, none, none] [] (L, zB1, I, J) = zgo X C none kX3_reduce 13 [some (.inr (.inr (some (.inl 3, 225)))), some (.inr (.inl (J 225 2))), none, some (.inr (.inl (J 225 1))), none, some (.inl 0), none, none] [] (L, zB1, I, J) := by
  rw [zgo_run X C _ _ [0, 13, 42] 9]
  rfl
set_option maxRecDepth 100000 in
theorem bX3_reduce_13 (X : Nat → Nat → Int32) (C : Nat → List zV → zS → Option zR) (L : List zK) (I : Nat → Nat → Int32) (J : Nat → Nat → Int64) (v1 : Int64) (v3 : Int64) (v5 : Int32) (u6 : Option zV) : zgo X C none kX3_reduce 13 [some (.inr (.inr (some (.inl 3, 225)))), some (.inr (.inl v1)), none, some (.inr (.inl v3)), none, some (.inl v5), u6, none] [] (L, zB1, I, J) = if (100 : Int32) ≤ v5 then zgo X C none kX3_reduce 42 [some (.inr (.inr (some (.inl 3, 225)))), some (.inr (.inl v1)), none, some (.inr (.inl v3)), none, some (.inl v5), u6, none] [] (L, zB1, I, J) else if (lg_cmp v3 0) = 0 then zgo X C none kX3_reduce 42 [some (.inr (.inr (some (.inl 3, 225)))), some (.inr (.inl v1)), none, some (.inr (.inl v3)), none, some (.inl v5), u6, none] [] (L, zB1, I, J) else if v3 = 0 then none else zgo X C none kX3_reduce 13 [some (.inr (.inr (some (.inl 3, 225)))), some (.inr (.inl v3)), none, some (.inr (.inl (v1 - v1 / v3 * v3))), none, some (.inl (v5 + 1)), some (.inr (.inl (v1 - v1 / v3 * v3))), none] [] (L, zB1, I, J) := by
  rw [zgo_run X C _ _ [0, 13, 42] 18]
  rfl
set_option maxRecDepth 100000 in
theorem bX3_reduce_42 (X : Nat → Nat → Int32) (C : Nat → List zV → zS → Option zR) (L : List zK) (I : Nat → Nat → Int32) (J : Nat → Nat → Int64) (v1 : Int64) (v3 : Int64) (v5 : Int32) (u6 : Option zV) : zgo X C none kX3_reduce 42 [some (.inr (.inr (some (.inl 3, 225)))), some (.inr (.inl v1)), none, some (.inr (.inl v3)), none, some (.inl v5), u6, none] [] (L, zB1, I, J) = if (lg_cmp v1 0) = 0 then some (none, (L, zB1, I, J)) else if v1 = 0 then none else if v1 = 0 then none else some (none, (L, zB1, I, (zup (zup J 225 1 ((J 225 1) / v1)) 225 2 (((zup J 225 1 ((J 225 1) / v1)) 225 2) / v1)))) := by
  rw [zgo_run X C _ _ [0, 13, 42] 18]
  rfl

set_option maxRecDepth 100000 in
theorem bX3_above_0 (X : Nat → Nat → Int32) (C : Nat → List zV → zS → Option zR) (L : List zK) (I : Nat → Nat → Int32) (J : Nat → Nat → Int64) : zgo X C (some .long) kX3_above 0 [some (.inr (.inr (some (.inl 3, 225))))] [] (L, zB1, I, J) = some (some (.inr (.inl (J 225 1))), (L, zB1, I, J)) := by
  rw [zgo_run X C _ _ [0] 4]
  rfl

set_option maxRecDepth 100000 in
theorem bX3_below_0 (X : Nat → Nat → Int32) (C : Nat → List zV → zS → Option zR) (L : List zK) (I : Nat → Nat → Int32) (J : Nat → Nat → Int64) : zgo X C (some .long) kX3_below 0 [some (.inr (.inr (some (.inl 3, 225))))] [] (L, zB1, I, J) = some (some (.inr (.inl (J 225 2))), (L, zB1, I, J)) := by
  rw [zgo_run X C _ _ [0] 4]
  rfl

set_option maxRecDepth 100000 in
theorem bX3_lookByDraws_0 (X : Nat → Nat → Int32) (C : Nat → List zV → zS → Option zR) (L : List zK) (I : Nat → Nat → Int32) (J : Nat → Nat → Int64) (b2 : Nat) (a2 : Int32) (a3 : Int32) : zgo X C (some (.object "JudgeHalves$Circuit")) kX3_lookByDraws 0 [some (.inr (.inr (some (.inl 3, 225)))), some (.inr (.inr (some (.inl 1, b2)))), some (.inl a2), some (.inl a3), none, none, none] [] (L, zB1, I, J) = cV (C 12 [.inr (.inr (some (.inl 1, 226))), .inr (.inr (some (.inl 1, b2)))] (L, zB1, I, J)) (fun σ => zgo X C (some (.object "JudgeHalves$Circuit")) kX3_lookByDraws 8 [some (.inr (.inr (some (.inl 3, 225)))), some (.inr (.inr (some (.inl 1, b2)))), some (.inl a2), some (.inl a3), none, none, none] [] σ) := by
  rw [zgo_run X C _ _ [0, 8, 15, 39, 48] 5]
  rfl
set_option maxRecDepth 100000 in
theorem bX3_lookByDraws_8 (X : Nat → Nat → Int32) (C : Nat → List zV → zS → Option zR) (L : List zK) (I : Nat → Nat → Int32) (J : Nat → Nat → Int64) (qv1 : Nat) (v2 : Int32) (v3 : Int32) : zgo X C (some (.object "JudgeHalves$Circuit")) kX3_lookByDraws 8 [some (.inr (.inr (some (.inl 3, 225)))), some (.inr (.inr (some (.inl 1, qv1)))), some (.inl v2), some (.inl v3), none, none, none] [] (L, zB1, I, J) = zgo X C (some (.object "JudgeHalves$Circuit")) kX3_lookByDraws 15 [some (.inr (.inr (some (.inl 3, 225)))), some (.inr (.inr (some (.inl 1, qv1)))), some (.inl v2), some (.inl v3), some (.inr (.inl ((v3).toInt64))), none, some (.inl 0)] [] (L, zB1, I, J) := by
  rw [zgo_run X C _ _ [0, 8, 15, 39, 48] 6]
  rfl
set_option maxRecDepth 100000 in
theorem bX3_lookByDraws_15 (X : Nat → Nat → Int32) (C : Nat → List zV → zS → Option zR) (L : List zK) (I : Nat → Nat → Int32) (J : Nat → Nat → Int64) (qv1 : Nat) (v2 : Int32) (v3 : Int32) (v4 : Int64) (v6 : Int32) : zgo X C (some (.object "JudgeHalves$Circuit")) kX3_lookByDraws 15 [some (.inr (.inr (some (.inl 3, 225)))), some (.inr (.inr (some (.inl 1, qv1)))), some (.inl v2), some (.inl v3), some (.inr (.inl v4)), none, some (.inl v6)] [] (L, zB1, I, J) = if v2 ≤ v6 then some (some (.inr (.inr (some (.inl 1, 226)))), (L, zB1, I, J)) else if (2147483647 : Int64) = 0 then none else cV (C 51 [.inr (.inr (some (.inl 3, 225))), .inr (.inl ((v4 * 16807) - (v4 * 16807) / 2147483647 * 2147483647))] (L, zB1, I, J)) (fun σ => zgo X C (some (.object "JudgeHalves$Circuit")) kX3_lookByDraws 39 [some (.inr (.inr (some (.inl 3, 225)))), some (.inr (.inr (some (.inl 1, qv1)))), some (.inl v2), some (.inl v3), some (.inr (.inl ((v4 * 16807) - (v4 * 16807) / 2147483647 * 2147483647))), none, some (.inl v6)] [] σ) := by
  rw [zgo_run X C _ _ [0, 8, 15, 39, 48] 13]
  rfl
set_option maxRecDepth 100000 in
theorem bX3_lookByDraws_39 (X : Nat → Nat → Int32) (C : Nat → List zV → zS → Option zR) (L : List zK) (I : Nat → Nat → Int32) (J : Nat → Nat → Int64) (qv1 : Nat) (v2 : Int32) (v3 : Int32) (v4 : Int64) (v6 : Int32) : zgo X C (some (.object "JudgeHalves$Circuit")) kX3_lookByDraws 39 [some (.inr (.inr (some (.inl 3, 225)))), some (.inr (.inr (some (.inl 1, qv1)))), some (.inl v2), some (.inl v3), some (.inr (.inl v4)), none, some (.inl v6)] [] (L, zB1, I, J) = cV (C 20 [.inr (.inr (some (.inl 1, 226))), .inl 1, .inl 0] (L, zB1, I, J)) (fun σ => zgo X C (some (.object "JudgeHalves$Circuit")) kX3_lookByDraws 48 [some (.inr (.inr (some (.inl 3, 225)))), some (.inr (.inr (some (.inl 1, qv1)))), some (.inl v2), some (.inl v3), some (.inr (.inl v4)), none, some (.inl v6)] [] σ) := by
  rw [zgo_run X C _ _ [0, 8, 15, 39, 48] 6]
  rfl
set_option maxRecDepth 100000 in
theorem bX3_lookByDraws_48 (X : Nat → Nat → Int32) (C : Nat → List zV → zS → Option zR) (L : List zK) (I : Nat → Nat → Int32) (J : Nat → Nat → Int64) (qv1 : Nat) (v2 : Int32) (v3 : Int32) (v4 : Int64) (v6 : Int32) : zgo X C (some (.object "JudgeHalves$Circuit")) kX3_lookByDraws 48 [some (.inr (.inr (some (.inl 3, 225)))), some (.inr (.inr (some (.inl 1, qv1)))), some (.inl v2), some (.inl v3), some (.inr (.inl v4)), none, some (.inl v6)] [] (L, zB1, I, J) = zgo X C (some (.object "JudgeHalves$Circuit")) kX3_lookByDraws 15 [some (.inr (.inr (some (.inl 3, 225)))), some (.inr (.inr (some (.inl 1, qv1)))), some (.inl v2), some (.inl v3), some (.inr (.inl v4)), none, some (.inl (v6 + 1))] [] (L, zB1, I, J) := by
  rw [zgo_run X C _ _ [0, 8, 15, 39, 48] 3]
  rfl

set_option maxRecDepth 100000 in
theorem bX3_actOnDraw_0 (X : Nat → Nat → Int32) (C : Nat → List zV → zS → Option zR) (L : List zK) (I : Nat → Nat → Int32) (J : Nat → Nat → Int64) (a1 : Int64) : zgo X C none kX3_actOnDraw 0 [some (.inr (.inr (some (.inl 3, 225)))), some (.inr (.inl a1)), none, none, none] [] (L, zB1, I, J) = if (I 226 0) ≤ 0 then some (none, (L, zB1, I, J)) else if 0 < (I 226 1) then if (((I 226 0)).toInt64) = 0 then none else if (((I 226 1)).toInt64) = 0 then none else cI (C 17 [.inr (.inr (some (.inl 1, 226))), .inl ((a1 - a1 / ((I 226 0)).toInt64 * ((I 226 0)).toInt64).toInt32)] (L, zB1, I, J)) (fun r σ => zgo X C none kX3_actOnDraw 54 [some (.inr (.inr (some (.inl 3, 225)))), some (.inr (.inl a1)), none, some (.inl ((a1 - a1 / ((I 226 0)).toInt64 * ((I 226 0)).toInt64).toInt32)), some (.inl ((a1 - a1 / ((I 226 1)).toInt64 * ((I 226 1)).toInt64).toInt32))] [.inl r] σ) else some (none, (L, zB1, I, J)) := by
  rw [zgo_run X C _ _ [0, 54, 66, 100, 142] 29]
  rfl
set_option maxRecDepth 100000 in
theorem bX3_actOnDraw_54 (X : Nat → Nat → Int32) (C : Nat → List zV → zS → Option zR) (L : List zK) (I : Nat → Nat → Int32) (J : Nat → Nat → Int64) (v1 : Int64) (v3 : Int32) (v4 : Int32) (s0 : Int32) : zgo X C none kX3_actOnDraw 54 [some (.inr (.inr (some (.inl 3, 225)))), some (.inr (.inl v1)), none, some (.inl v3), some (.inl v4)] [.inl s0] (L, zB1, I, J) = if s0 = 0 then some (none, (L, zB1, I, J)) else cI (C 16 [.inr (.inr (some (.inl 1, 226))), .inl v4] (L, zB1, I, J)) (fun r σ => zgo X C none kX3_actOnDraw 66 [some (.inr (.inr (some (.inl 3, 225)))), some (.inr (.inl v1)), none, some (.inl v3), some (.inl v4)] [.inl r] σ) := by
  rw [zgo_run X C _ _ [0, 54, 66, 100, 142] 6]
  rfl
set_option maxRecDepth 100000 in
theorem bX3_actOnDraw_66 (X : Nat → Nat → Int32) (C : Nat → List zV → zS → Option zR) (L : List zK) (I : Nat → Nat → Int32) (J : Nat → Nat → Int64) (v1 : Int64) (v3 : Int32) (v4 : Int32) (s0 : Int32) : zgo X C none kX3_actOnDraw 66 [some (.inr (.inr (some (.inl 3, 225)))), some (.inr (.inl v1)), none, some (.inl v3), some (.inl v4)] [.inl s0] (L, zB1, I, J) = if s0 = 0 then some (none, (L, zB1, I, J)) else if (3 : Int64) = 0 then none else if (lg_cmp (v1 - v1 / 3 * 3) 0) = 0 then zbt (zin v3 4) (zbt (zin v3 4) (zgo X C none kX3_actOnDraw 100 [some (.inr (.inr (some (.inl 3, 225)))), some (.inr (.inl v1)), none, some (.inl v3), some (.inl v4)] [] (L, zB1, (zup I 228 v3.toNatClampNeg (1 - (I 228 v3.toNatClampNeg))), J))) else zgo X C none kX3_actOnDraw 100 [some (.inr (.inr (some (.inl 3, 225)))), some (.inr (.inl v1)), none, some (.inl v3), some (.inl v4)] [] (L, zB1, I, J) := by
  rw [zgo_run X C _ _ [0, 54, 66, 100, 142] 20]
  rfl
set_option maxRecDepth 100000 in
theorem bX3_actOnDraw_100 (X : Nat → Nat → Int32) (C : Nat → List zV → zS → Option zR) (L : List zK) (I : Nat → Nat → Int32) (J : Nat → Nat → Int64) (v1 : Int64) (v3 : Int32) (v4 : Int32) : zgo X C none kX3_actOnDraw 100 [some (.inr (.inr (some (.inl 3, 225)))), some (.inr (.inl v1)), none, some (.inl v3), some (.inl v4)] [] (L, zB1, I, J) = if (4 : Int64) = 0 then none else if (lg_cmp (v1 - v1 / 4 * 4) 0) = 0 then zbt (zin v4 6) (if (I 231 v4.toNatClampNeg) = 2 then if (9 : Int64) = 0 then none else cV (C 24 [.inr (.inr (some (.inl 1, 226))), .inl v4, .inl v3, .inl ((v1 - v1 / 9 * 9).toInt32 + 1)] (L, zB1, I, J)) (fun σ => zgo X C none kX3_actOnDraw 142 [some (.inr (.inr (some (.inl 3, 225)))), some (.inr (.inl v1)), none, some (.inl v3), some (.inl v4)] [] σ) else zgo X C none kX3_actOnDraw 142 [some (.inr (.inr (some (.inl 3, 225)))), some (.inr (.inl v1)), none, some (.inl v3), some (.inl v4)] [] (L, zB1, I, J)) else zgo X C none kX3_actOnDraw 142 [some (.inr (.inr (some (.inl 3, 225)))), some (.inr (.inl v1)), none, some (.inl v3), some (.inl v4)] [] (L, zB1, I, J) := by
  rw [zgo_run X C _ _ [0, 54, 66, 100, 142] 25]
  rfl
set_option maxRecDepth 100000 in
theorem bX3_actOnDraw_142 (X : Nat → Nat → Int32) (C : Nat → List zV → zS → Option zR) (L : List zK) (I : Nat → Nat → Int32) (J : Nat → Nat → Int64) (v1 : Int64) (v3 : Int32) (v4 : Int32) : zgo X C none kX3_actOnDraw 142 [some (.inr (.inr (some (.inl 3, 225)))), some (.inr (.inl v1)), none, some (.inl v3), some (.inl v4)] [] (L, zB1, I, J) = some (none, (L, zB1, I, J)) := by
  rw [zgo_run X C _ _ [0, 54, 66, 100, 142] 2]
  rfl

set_option maxRecDepth 100000 in
theorem bX4_size_0 (X : Nat → Nat → Int32) (C : Nat → List zV → zS → Option zR) (L : List zK) (I : Nat → Nat → Int32) (J : Nat → Nat → Int64) : zgo X C (some .int) kX4_size 0 [some (.inr (.inr (some (.inl 4, 31))))] [] (L, zB1, I, J) = some (some (.inl (I 31 2)), (L, zB1, I, J)) := by
  rw [zgo_run X C _ _ [0] 4]
  rfl

set_option maxRecDepth 100000 in
theorem bX4_forget_0 (X : Nat → Nat → Int32) (C : Nat → List zV → zS → Option zR) (L : List zK) (I : Nat → Nat → Int32) (J : Nat → Nat → Int64) : zgo X C none kX4_forget 0 [some (.inr (.inr (some (.inl 4, 31))))] [] (L, zB1, I, J) = some (none, (L, zB1, (zup I 31 2 0), J)) := by
  rw [zgo_run X C _ _ [0] 5]
  rfl

set_option maxRecDepth 100000 in
theorem bX4_keep_0 (X : Nat → Nat → Int32) (C : Nat → List zV → zS → Option zR) (L : List zK) (I : Nat → Nat → Int32) (J : Nat → Nat → Int64) (b2 : Nat) : zgo X C none kX4_keep 0 [some (.inr (.inr (some (.inl 4, 31)))), some (.inr (.inr (some (.inl 1, b2)))), none] [] (L, zB1, I, J) = cI (C 57 [.inr (.inr (some (.inl 4, 31))), .inl (I 31 2)] (L, zB1, I, J)) (fun r σ => zgo X C none kX4_keep 12 [some (.inr (.inr (some (.inl 4, 31)))), some (.inr (.inr (some (.inl 1, b2)))), none] [.inl r, .inr (.inr (some (.inr (.object RX1, 24), 32)))] σ) := by
  rw [zgo_run X C _ _ [0, 12, 23, 51] 7]
  rfl
set_option maxRecDepth 100000 in
theorem bX4_keep_12 (X : Nat → Nat → Int32) (C : Nat → List zV → zS → Option zR) (L : List zK) (I : Nat → Nat → Int32) (J : Nat → Nat → Int64) (qv1 : Nat) (s0 : Int32) : zgo X C none kX4_keep 12 [some (.inr (.inr (some (.inl 4, 31)))), some (.inr (.inr (some (.inl 1, qv1)))), none] [.inl s0, .inr (.inr (some (.inr (.object RX1, 24), 32)))] (L, zB1, I, J) = zbt (zin s0 24) (cV (C 12 [.inr (.inr (some (.inl 1, 33 + 8 * s0.toNatClampNeg))), .inr (.inr (some (.inl 1, qv1)))] (L, zB1, I, J)) (fun σ => zgo X C none kX4_keep 23 [some (.inr (.inr (some (.inl 4, 31)))), some (.inr (.inr (some (.inl 1, qv1)))), some (.inr (.inr (some (.inl 1, 33 + 8 * s0.toNatClampNeg))))] [] σ)) := by
  rw [zgo_run X C _ _ [0, 12, 23, 51] 8]
  rfl
set_option maxRecDepth 100000 in
theorem bX4_keep_23 (X : Nat → Nat → Int32) (C : Nat → List zV → zS → Option zR) (L : List zK) (I : Nat → Nat → Int32) (J : Nat → Nat → Int64) (qv1 : Nat) (qv2 : Nat) : zgo X C none kX4_keep 23 [some (.inr (.inr (some (.inl 4, 31)))), some (.inr (.inr (some (.inl 1, qv1)))), some (.inr (.inr (some (.inl 1, qv2))))] [] (L, zB1, I, J) = if (24 : Int32) ≤ (I 31 2) then cI (C 57 [.inr (.inr (some (.inl 4, 31))), .inl 1] (L, zB1, I, J)) (fun r σ => zgo X C none kX4_keep 51 [some (.inr (.inr (some (.inl 4, 31)))), some (.inr (.inr (some (.inl 1, qv1)))), some (.inr (.inr (some (.inl 1, qv2))))] [.inl r, .inr (.inr (some (.inl 4, 31)))] σ) else some (none, (L, zB1, (zup I 31 2 ((I 31 2) + 1)), J)) := by
  rw [zgo_run X C _ _ [0, 12, 23, 51] 13]
  rfl
set_option maxRecDepth 100000 in
theorem bX4_keep_51 (X : Nat → Nat → Int32) (C : Nat → List zV → zS → Option zR) (L : List zK) (I : Nat → Nat → Int32) (J : Nat → Nat → Int64) (qv1 : Nat) (qv2 : Nat) (s0 : Int32) : zgo X C none kX4_keep 51 [some (.inr (.inr (some (.inl 4, 31)))), some (.inr (.inr (some (.inl 1, qv1)))), some (.inr (.inr (some (.inl 1, qv2))))] [.inl s0, .inr (.inr (some (.inl 4, 31)))] (L, zB1, I, J) = some (none, (L, zB1, (zup I 31 1 s0), J)) := by
  rw [zgo_run X C _ _ [0, 12, 23, 51] 3]
  rfl

set_option maxRecDepth 100000 in
theorem bX4_giveBack_0 (X : Nat → Nat → Int32) (C : Nat → List zV → zS → Option zR) (L : List zK) (I : Nat → Nat → Int32) (J : Nat → Nat → Int64) (b2 : Nat) : zgo X C none kX4_giveBack 0 [some (.inr (.inr (some (.inl 4, 31)))), some (.inr (.inr (some (.inl 1, b2))))] [] (L, zB1, I, J) = if (I 31 2) ≤ 0 then zgo X C none kX4_giveBack 38 [some (.inr (.inr (some (.inl 4, 31)))), some (.inr (.inr (some (.inl 1, b2))))] [] (L, zB1, I, J) else cI (C 57 [.inr (.inr (some (.inl 4, 31))), .inl ((zup I 31 2 ((I 31 2) - 1)) 31 2)] (L, zB1, (zup I 31 2 ((I 31 2) - 1)), J)) (fun r σ => zgo X C none kX4_giveBack 34 [some (.inr (.inr (some (.inl 4, 31)))), some (.inr (.inr (some (.inl 1, b2))))] [.inl r, .inr (.inr (some (.inr (.object RX1, 24), 32))), .inr (.inr (some (.inl 1, b2)))] σ) := by
  rw [zgo_run X C _ _ [0, 34, 38] 19]
  rfl
set_option maxRecDepth 100000 in
theorem bX4_giveBack_34 (X : Nat → Nat → Int32) (C : Nat → List zV → zS → Option zR) (L : List zK) (I : Nat → Nat → Int32) (J : Nat → Nat → Int64) (qv1 : Nat) (s0 : Int32) (qs2 : Nat) : zgo X C none kX4_giveBack 34 [some (.inr (.inr (some (.inl 4, 31)))), some (.inr (.inr (some (.inl 1, qv1))))] [.inl s0, .inr (.inr (some (.inr (.object RX1, 24), 32))), .inr (.inr (some (.inl 1, qs2)))] (L, zB1, I, J) = zbt (zin s0 24) (cV (C 12 [.inr (.inr (some (.inl 1, qs2))), .inr (.inr (some (.inl 1, 33 + 8 * s0.toNatClampNeg)))] (L, zB1, I, J)) (fun σ => zgo X C none kX4_giveBack 38 [some (.inr (.inr (some (.inl 4, 31)))), some (.inr (.inr (some (.inl 1, qv1))))] [] σ)) := by
  rw [zgo_run X C _ _ [0, 34, 38] 3]
  rfl
set_option maxRecDepth 100000 in
theorem bX4_giveBack_38 (X : Nat → Nat → Int32) (C : Nat → List zV → zS → Option zR) (L : List zK) (I : Nat → Nat → Int32) (J : Nat → Nat → Int64) (qv1 : Nat) : zgo X C none kX4_giveBack 38 [some (.inr (.inr (some (.inl 4, 31)))), some (.inr (.inr (some (.inl 1, qv1))))] [] (L, zB1, I, J) = some (none, (L, zB1, I, J)) := by
  rw [zgo_run X C _ _ [0, 34, 38] 2]
  rfl

set_option maxRecDepth 100000 in
theorem bX4_placeOf_0 (X : Nat → Nat → Int32) (C : Nat → List zV → zS → Option zR) (L : List zK) (I : Nat → Nat → Int32) (J : Nat → Nat → Int64) (a1 : Int32) : zgo X C (some .int) kX4_placeOf 0 [some (.inr (.inr (some (.inl 4, 31)))), some (.inl a1)] [] (L, zB1, I, J) = cI (C 1 [.inl ((I 31 1) + a1), .inl 24] (L, zB1, I, J)) (fun r σ => zgo X C (some .int) kX4_placeOf 11 [some (.inr (.inr (some (.inl 4, 31)))), some (.inl a1)] [.inl r] σ) := by
  rw [zgo_run X C _ _ [0, 11] 7]
  rfl
set_option maxRecDepth 100000 in
theorem bX4_placeOf_11 (X : Nat → Nat → Int32) (C : Nat → List zV → zS → Option zR) (L : List zK) (I : Nat → Nat → Int32) (J : Nat → Nat → Int64) (v1 : Int32) (s0 : Int32) : zgo X C (some .int) kX4_placeOf 11 [some (.inr (.inr (some (.inl 4, 31)))), some (.inl v1)] [.inl s0] (L, zB1, I, J) = some (some (.inl s0), (L, zB1, I, J)) := by
  rw [zgo_run X C _ _ [0, 11] 2]
  rfl

set_option maxRecDepth 100000 in
theorem bX5_bestSet_0 (X : Nat → Nat → Int32) (C : Nat → List zV → zS → Option zR) (L : List zK) (I : Nat → Nat → Int32) (J : Nat → Nat → Int64) : zgo X C (some .int) kX5_bestSet 0 [some (.inr (.inr (some (.inl 5, 234))))] [] (L, zB1, I, J) = some (some (.inl (I 234 6)), (L, zB1, I, J)) := by
  rw [zgo_run X C _ _ [0] 4]
  rfl

set_option maxRecDepth 100000 in
theorem bX5_bestWorth_0 (X : Nat → Nat → Int32) (C : Nat → List zV → zS → Option zR) (L : List zK) (I : Nat → Nat → Int32) (J : Nat → Nat → Int64) : zgo X C (some .int) kX5_bestWorth 0 [some (.inr (.inr (some (.inl 5, 234))))] [] (L, zB1, I, J) = some (some (.inl (I 234 7)), (L, zB1, I, J)) := by
  rw [zgo_run X C _ _ [0] 4]
  rfl

set_option maxRecDepth 100000 in
theorem bX5_sentDone_0 (X : Nat → Nat → Int32) (C : Nat → List zV → zS → Option zR) (L : List zK) (I : Nat → Nat → Int32) (J : Nat → Nat → Int64) : zgo X C (some .int) kX5_sentDone 0 [some (.inr (.inr (some (.inl 5, 234))))] [] (L, zB1, I, J) = if (1000 : Int32) = 0 then none else some (some (.inl ((I 234 7) / 1000)), (L, zB1, I, J)) := by
  rw [zgo_run X C _ _ [0] 6]
  rfl

set_option maxRecDepth 100000 in
theorem bX5_sentJudge_0 (X : Nat → Nat → Int32) (C : Nat → List zV → zS → Option zR) (L : List zK) (I : Nat → Nat → Int32) (J : Nat → Nat → Int64) (a1 : Int32) : zgo X C (some .int) kX5_sentJudge 0 [some (.inr (.inr (some (.inl 5, 234)))), some (.inl a1)] [] (L, zB1, I, J) = cI (C 16 [.inr (.inr (some (.inl 1, 235))), .inl a1] (L, zB1, I, J)) (fun r σ => zgo X C (some .int) kX5_sentJudge 8 [some (.inr (.inr (some (.inl 5, 234)))), some (.inl a1)] [.inl r] σ) := by
  rw [zgo_run X C _ _ [0, 8] 5]
  rfl
set_option maxRecDepth 100000 in
theorem bX5_sentJudge_8 (X : Nat → Nat → Int32) (C : Nat → List zV → zS → Option zR) (L : List zK) (I : Nat → Nat → Int32) (J : Nat → Nat → Int64) (v1 : Int32) (s0 : Int32) : zgo X C (some .int) kX5_sentJudge 8 [some (.inr (.inr (some (.inl 5, 234)))), some (.inl v1)] [.inl s0] (L, zB1, I, J) = if s0 = 0 then some (some (.inl (-1000000)), (L, zB1, I, J)) else zbt (zin v1 6) (some (some (.inl (I 253 v1.toNatClampNeg)), (L, zB1, I, J))) := by
  rw [zgo_run X C _ _ [0, 8] 8]
  rfl

set_option maxRecDepth 100000 in
theorem bX5_planSending_0 (X : Nat → Nat → Int32) (C : Nat → List zV → zS → Option zR) (L : List zK) (I : Nat → Nat → Int32) (J : Nat → Nat → Int64) (b2 : Nat) (a2 : Int32) : zgo X C none kX5_planSending 0 [some (.inr (.inr (some (.inl 5, 234)))), some (.inr (.inr (some (.inl 1, b2)))), some (.inl a2), none, none] [] (L, zB1, I, J) = cV (C 12 [.inr (.inr (some (.inl 1, 235))), .inr (.inr (some (.inl 1, b2)))] (L, zB1, I, J)) (fun σ => zgo X C none kX5_planSending 8 [some (.inr (.inr (some (.inl 5, 234)))), some (.inr (.inr (some (.inl 1, b2)))), some (.inl a2), none, none] [] σ) := by
  rw [zgo_run X C _ _ [0, 8, 17, 22, 36, 74, 97] 5]
  rfl
set_option maxRecDepth 100000 in
theorem bX5_planSending_8 (X : Nat → Nat → Int32) (C : Nat → List zV → zS → Option zR) (L : List zK) (I : Nat → Nat → Int32) (J : Nat → Nat → Int64) (qv1 : Nat) (v2 : Int32) : zgo X C none kX5_planSending 8 [some (.inr (.inr (some (.inl 5, 234)))), some (.inr (.inr (some (.inl 1, qv1)))), some (.inl v2), none, none] [] (L, zB1, I, J) = cI (C 26 [.inr (.inr (some (.inl 1, 235))), .inl 0] (L, zB1, I, J)) (fun r σ => zgo X C none kX5_planSending 17 [some (.inr (.inr (some (.inl 5, 234)))), some (.inr (.inr (some (.inl 1, qv1)))), some (.inl v2), none, none] [.inl r, .inr (.inr (some (.inl 5, 234)))] σ) := by
  rw [zgo_run X C _ _ [0, 8, 17, 22, 36, 74, 97] 6]
  rfl
set_option maxRecDepth 100000 in
theorem bX5_planSending_17 (X : Nat → Nat → Int32) (C : Nat → List zV → zS → Option zR) (L : List zK) (I : Nat → Nat → Int32) (J : Nat → Nat → Int64) (qv1 : Nat) (v2 : Int32) (s0 : Int32) : zgo X C none kX5_planSending 17 [some (.inr (.inr (some (.inl 5, 234)))), some (.inr (.inr (some (.inl 1, qv1)))), some (.inl v2), none, none] [.inl s0, .inr (.inr (some (.inl 5, 234)))] (L, zB1, I, J) = zgo X C none kX5_planSending 22 [some (.inr (.inr (some (.inl 5, 234)))), some (.inr (.inr (some (.inl 1, qv1)))), some (.inl v2), some (.inl 0), none] [] (L, zB1, (zup I 234 5 s0), J) := by
  rw [zgo_run X C _ _ [0, 8, 17, 22, 36, 74, 97] 4]
  rfl
set_option maxRecDepth 100000 in
theorem bX5_planSending_22 (X : Nat → Nat → Int32) (C : Nat → List zV → zS → Option zR) (L : List zK) (I : Nat → Nat → Int32) (J : Nat → Nat → Int64) (qv1 : Nat) (v2 : Int32) (v3 : Int32) (u4 : Option zV) : zgo X C none kX5_planSending 22 [some (.inr (.inr (some (.inl 5, 234)))), some (.inr (.inr (some (.inl 1, qv1)))), some (.inl v2), some (.inl v3), u4] [] (L, zB1, I, J) = if (I 235 0) ≤ v3 then cV (C 65 [.inr (.inr (some (.inl 5, 234))), .inl 0] (L, zB1, (zup I 234 7 (-1)), J)) (fun σ => zgo X C none kX5_planSending 97 [some (.inr (.inr (some (.inl 5, 234)))), some (.inr (.inr (some (.inl 1, qv1)))), some (.inl v2), some (.inl v3), u4] [] σ) else zgo X C none kX5_planSending 36 [some (.inr (.inr (some (.inl 5, 234)))), some (.inr (.inr (some (.inl 1, qv1)))), some (.inl v2), some (.inl v3), some (.inl 0)] [] (L, zB1, I, J) := by
  rw [zgo_run X C _ _ [0, 8, 17, 22, 36, 74, 97] 12]
  rfl
set_option maxRecDepth 100000 in
theorem bX5_planSending_36 (X : Nat → Nat → Int32) (C : Nat → List zV → zS → Option zR) (L : List zK) (I : Nat → Nat → Int32) (J : Nat → Nat → Int64) (qv1 : Nat) (v2 : Int32) (v3 : Int32) (v4 : Int32) : zgo X C none kX5_planSending 36 [some (.inr (.inr (some (.inl 5, 234)))), some (.inr (.inr (some (.inl 1, qv1)))), some (.inl v2), some (.inl v3), some (.inl v4)] [] (L, zB1, I, J) = if (64 : Int32) ≤ v4 then zgo X C none kX5_planSending 22 [some (.inr (.inr (some (.inl 5, 234)))), some (.inr (.inr (some (.inl 1, qv1)))), some (.inl v2), some (.inl (v3 + 1)), some (.inl v4)] [] (L, zB1, I, J) else if (v4 &&& ((I 234 5) ^^^ (-1))) = 0 then cI (C 64 [.inr (.inr (some (.inl 5, 234))), .inl v3, .inl v4, .inl v2] (L, zB1, I, J)) (fun r σ => zgo X C none kX5_planSending 74 [some (.inr (.inr (some (.inl 5, 234)))), some (.inr (.inr (some (.inl 1, qv1)))), some (.inl v2), some (.inl v3), some (.inl v4)] [.inl r, .inl ((v3 * 64) + v4), .inr (.inr (some (.inr (.int, 256), 251)))] σ) else zgo X C none kX5_planSending 36 [some (.inr (.inr (some (.inl 5, 234)))), some (.inr (.inr (some (.inl 1, qv1)))), some (.inl v2), some (.inl v3), some (.inl (v4 + 1))] [] (L, zB1, I, J) := by
  rw [zgo_run X C _ _ [0, 8, 17, 22, 36, 74, 97] 23]
  rfl
set_option maxRecDepth 100000 in
theorem bX5_planSending_74 (X : Nat → Nat → Int32) (C : Nat → List zV → zS → Option zR) (L : List zK) (I : Nat → Nat → Int32) (J : Nat → Nat → Int64) (qv1 : Nat) (v2 : Int32) (v3 : Int32) (v4 : Int32) (s0 : Int32) (s1 : Int32) : zgo X C none kX5_planSending 74 [some (.inr (.inr (some (.inl 5, 234)))), some (.inr (.inr (some (.inl 1, qv1)))), some (.inl v2), some (.inl v3), some (.inl v4)] [.inl s0, .inl s1, .inr (.inr (some (.inr (.int, 256), 251)))] (L, zB1, I, J) = zbt (zin s1 256) (zgo X C none kX5_planSending 36 [some (.inr (.inr (some (.inl 5, 234)))), some (.inr (.inr (some (.inl 1, qv1)))), some (.inl v2), some (.inl v3), some (.inl (v4 + 1))] [] (L, zB1, (zup I 251 s1.toNatClampNeg s0), J)) := by
  rw [zgo_run X C _ _ [0, 8, 17, 22, 36, 74, 97] 4]
  rfl
set_option maxRecDepth 100000 in
theorem bX5_planSending_97 (X : Nat → Nat → Int32) (C : Nat → List zV → zS → Option zR) (L : List zK) (I : Nat → Nat → Int32) (J : Nat → Nat → Int64) (qv1 : Nat) (v2 : Int32) (v3 : Int32) (u4 : Option zV) : zgo X C none kX5_planSending 97 [some (.inr (.inr (some (.inl 5, 234)))), some (.inr (.inr (some (.inl 1, qv1)))), some (.inl v2), some (.inl v3), u4] [] (L, zB1, I, J) = some (none, (L, zB1, I, J)) := by
  rw [zgo_run X C _ _ [0, 8, 17, 22, 36, 74, 97] 2]
  rfl

set_option maxRecDepth 100000 in
theorem bX5_worthOfSending_0 (X : Nat → Nat → Int32) (C : Nat → List zV → zS → Option zR) (L : List zK) (I : Nat → Nat → Int32) (J : Nat → Nat → Int64) (a1 : Int32) (a2 : Int32) (a3 : Int32) : zgo X C (some .int) kX5_worthOfSending 0 [some (.inr (.inr (some (.inl 5, 234)))), some (.inl a1), some (.inl a2), some (.inl a3), none] [] (L, zB1, I, J) = cV (C 12 [.inr (.inr (some (.inl 1, 243))), .inr (.inr (some (.inl 1, 235)))] (L, zB1, I, J)) (fun σ => zgo X C (some .int) kX5_worthOfSending 11 [some (.inr (.inr (some (.inl 5, 234)))), some (.inl a1), some (.inl a2), some (.inl a3), none] [] σ) := by
  rw [zgo_run X C _ _ [0, 11, 14, 79, 87, 99] 6]
  rfl
set_option maxRecDepth 100000 in
theorem bX5_worthOfSending_11 (X : Nat → Nat → Int32) (C : Nat → List zV → zS → Option zR) (L : List zK) (I : Nat → Nat → Int32) (J : Nat → Nat → Int64) (v1 : Int32) (v2 : Int32) (v3 : Int32) : zgo X C (some .int) kX5_worthOfSending 11 [some (.inr (.inr (some (.inl 5, 234)))), some (.inl v1), some (.inl v2), some (.inl v3), none] [] (L, zB1, I, J) = zgo X C (some .int) kX5_worthOfSending 14 [some (.inr (.inr (some (.inl 5, 234)))), some (.inl v1), some (.inl v2), some (.inl v3), some (.inl 0)] [] (L, zB1, I, J) := by
  rw [zgo_run X C _ _ [0, 11, 14, 79, 87, 99] 3]
  rfl
set_option maxRecDepth 100000 in
theorem bX5_worthOfSending_14 (X : Nat → Nat → Int32) (C : Nat → List zV → zS → Option zR) (L : List zK) (I : Nat → Nat → Int32) (J : Nat → Nat → Int64) (v1 : Int32) (v2 : Int32) (v3 : Int32) (v4 : Int32) : zgo X C (some .int) kX5_worthOfSending 14 [some (.inr (.inr (some (.inl 5, 234)))), some (.inl v1), some (.inl v2), some (.inl v3), some (.inl v4)] [] (L, zB1, I, J) = if (I 243 1) ≤ v4 then cV (C 20 [.inr (.inr (some (.inl 1, 243))), .inl v3, .inl 0] (L, zB1, I, J)) (fun σ => zgo X C (some .int) kX5_worthOfSending 79 [some (.inr (.inr (some (.inl 5, 234)))), some (.inl v1), some (.inl v2), some (.inl v3), some (.inl v4)] [] σ) else if (((I 234 5) >>> (v4 &&& 31)) &&& 1) = 1 then if ((v2 >>> (v4 &&& 31)) &&& 1) = 1 then zbt (zin v4 6) (zgo X C (some .int) kX5_worthOfSending 14 [some (.inr (.inr (some (.inl 5, 234)))), some (.inl v1), some (.inl v2), some (.inl v3), some (.inl (v4 + 1))] [] (L, zB1, (zup I 247 v4.toNatClampNeg v1), J)) else zbt (zin v4 6) (zgo X C (some .int) kX5_worthOfSending 14 [some (.inr (.inr (some (.inl 5, 234)))), some (.inl v1), some (.inl v2), some (.inl v3), some (.inl (v4 + 1))] [] (L, zB1, (zup I 247 v4.toNatClampNeg (-1)), J)) else zgo X C (some .int) kX5_worthOfSending 14 [some (.inr (.inr (some (.inl 5, 234)))), some (.inl v1), some (.inl v2), some (.inl v3), some (.inl (v4 + 1))] [] (L, zB1, I, J) := by
  rw [zgo_run X C _ _ [0, 11, 14, 79, 87, 99] 30]
  rfl
set_option maxRecDepth 100000 in
theorem bX5_worthOfSending_79 (X : Nat → Nat → Int32) (C : Nat → List zV → zS → Option zR) (L : List zK) (I : Nat → Nat → Int32) (J : Nat → Nat → Int64) (v1 : Int32) (v2 : Int32) (v3 : Int32) (v4 : Int32) : zgo X C (some .int) kX5_worthOfSending 79 [some (.inr (.inr (some (.inl 5, 234)))), some (.inl v1), some (.inl v2), some (.inl v3), some (.inl v4)] [] (L, zB1, I, J) = cI (C 31 [.inr (.inr (some (.inl 1, 243))), .inl v1] (L, zB1, I, J)) (fun r σ => zgo X C (some .int) kX5_worthOfSending 87 [some (.inr (.inr (some (.inl 5, 234)))), some (.inl v1), some (.inl v2), some (.inl v3), some (.inl v4)] [.inl r] σ) := by
  rw [zgo_run X C _ _ [0, 11, 14, 79, 87, 99] 5]
  rfl
set_option maxRecDepth 100000 in
theorem bX5_worthOfSending_87 (X : Nat → Nat → Int32) (C : Nat → List zV → zS → Option zR) (L : List zK) (I : Nat → Nat → Int32) (J : Nat → Nat → Int64) (v1 : Int32) (v2 : Int32) (v3 : Int32) (v4 : Int32) (s0 : Int32) : zgo X C (some .int) kX5_worthOfSending 87 [some (.inr (.inr (some (.inl 5, 234)))), some (.inl v1), some (.inl v2), some (.inl v3), some (.inl v4)] [.inl s0] (L, zB1, I, J) = cI (C 30 [.inr (.inr (some (.inl 1, 243))), .inl v1] (L, zB1, I, J)) (fun r σ => zgo X C (some .int) kX5_worthOfSending 99 [some (.inr (.inr (some (.inl 5, 234)))), some (.inl v1), some (.inl v2), some (.inl v3), some (.inl v4)] [.inl r, .inl (s0 * 1000)] σ) := by
  rw [zgo_run X C _ _ [0, 11, 14, 79, 87, 99] 7]
  rfl
set_option maxRecDepth 100000 in
theorem bX5_worthOfSending_99 (X : Nat → Nat → Int32) (C : Nat → List zV → zS → Option zR) (L : List zK) (I : Nat → Nat → Int32) (J : Nat → Nat → Int64) (v1 : Int32) (v2 : Int32) (v3 : Int32) (v4 : Int32) (s0 : Int32) (s1 : Int32) : zgo X C (some .int) kX5_worthOfSending 99 [some (.inr (.inr (some (.inl 5, 234)))), some (.inl v1), some (.inl v2), some (.inl v3), some (.inl v4)] [.inl s0, .inl s1] (L, zB1, I, J) = some (some (.inl (s1 + s0)), (L, zB1, I, J)) := by
  rw [zgo_run X C _ _ [0, 11, 14, 79, 87, 99] 3]
  rfl

set_option maxRecDepth 100000 in
theorem bX5_sendFrom_0 (X : Nat → Nat → Int32) (C : Nat → List zV → zS → Option zR) (L : List zK) (I : Nat → Nat → Int32) (J : Nat → Nat → Int64) (a1 : Int32) : zgo X C none kX5_sendFrom 0 [some (.inr (.inr (some (.inl 5, 234)))), some (.inl a1), none] [] (L, zB1, I, J) = cI (C 16 [.inr (.inr (some (.inl 1, 235))), .inl a1] (L, zB1, I, J)) (fun r σ => zgo X C none kX5_sendFrom 8 [some (.inr (.inr (some (.inl 5, 234)))), some (.inl a1), none] [.inl r] σ) := by
  rw [zgo_run X C _ _ [0, 8, 15, 49, 52, 77] 5]
  rfl
set_option maxRecDepth 100000 in
theorem bX5_sendFrom_8 (X : Nat → Nat → Int32) (C : Nat → List zV → zS → Option zR) (L : List zK) (I : Nat → Nat → Int32) (J : Nat → Nat → Int64) (v1 : Int32) (s0 : Int32) : zgo X C none kX5_sendFrom 8 [some (.inr (.inr (some (.inl 5, 234)))), some (.inl v1), none] [.inl s0] (L, zB1, I, J) = if s0 = 0 then cV (C 66 [.inr (.inr (some (.inl 5, 234)))] (L, zB1, I, J)) (fun σ => zgo X C none kX5_sendFrom 15 [some (.inr (.inr (some (.inl 5, 234)))), some (.inl v1), none] [] σ) else if (((I 234 5) >>> (v1 &&& 31)) &&& 1) = 0 then zbt (zin v1 6) (zbt (zin v1 6) (cV (C 65 [.inr (.inr (some (.inl 5, 234))), .inl (v1 + 1)] (L, zB1, (zup I 252 v1.toNatClampNeg (I 239 v1.toNatClampNeg)), J)) (fun σ => zgo X C none kX5_sendFrom 49 [some (.inr (.inr (some (.inl 5, 234)))), some (.inl v1), none] [] σ))) else zgo X C none kX5_sendFrom 52 [some (.inr (.inr (some (.inl 5, 234)))), some (.inl v1), some (.inl 0)] [] (L, zB1, I, J) := by
  rw [zgo_run X C _ _ [0, 8, 15, 49, 52, 77] 23]
  rfl
set_option maxRecDepth 100000 in
theorem bX5_sendFrom_15 (X : Nat → Nat → Int32) (C : Nat → List zV → zS → Option zR) (L : List zK) (I : Nat → Nat → Int32) (J : Nat → Nat → Int64) (v1 : Int32) : zgo X C none kX5_sendFrom 15 [some (.inr (.inr (some (.inl 5, 234)))), some (.inl v1), none] [] (L, zB1, I, J) = some (none, (L, zB1, I, J)) := by
  rw [zgo_run X C _ _ [0, 8, 15, 49, 52, 77] 2]
  rfl
set_option maxRecDepth 100000 in
theorem bX5_sendFrom_49 (X : Nat → Nat → Int32) (C : Nat → List zV → zS → Option zR) (L : List zK) (I : Nat → Nat → Int32) (J : Nat → Nat → Int64) (v1 : Int32) : zgo X C none kX5_sendFrom 49 [some (.inr (.inr (some (.inl 5, 234)))), some (.inl v1), none] [] (L, zB1, I, J) = some (none, (L, zB1, I, J)) := by
  rw [zgo_run X C _ _ [0, 8, 15, 49, 52, 77] 2]
  rfl
set_option maxRecDepth 100000 in
theorem bX5_sendFrom_52 (X : Nat → Nat → Int32) (C : Nat → List zV → zS → Option zR) (L : List zK) (I : Nat → Nat → Int32) (J : Nat → Nat → Int64) (v1 : Int32) (v2 : Int32) : zgo X C none kX5_sendFrom 52 [some (.inr (.inr (some (.inl 5, 234)))), some (.inl v1), some (.inl v2)] [] (L, zB1, I, J) = if (I 235 0) ≤ v2 then some (none, (L, zB1, I, J)) else zbt (zin v1 6) (cV (C 65 [.inr (.inr (some (.inl 5, 234))), .inl (v1 + 1)] (L, zB1, (zup I 252 v1.toNatClampNeg v2), J)) (fun σ => zgo X C none kX5_sendFrom 77 [some (.inr (.inr (some (.inl 5, 234)))), some (.inl v1), some (.inl v2)] [] σ)) := by
  rw [zgo_run X C _ _ [0, 8, 15, 49, 52, 77] 16]
  rfl
set_option maxRecDepth 100000 in
theorem bX5_sendFrom_77 (X : Nat → Nat → Int32) (C : Nat → List zV → zS → Option zR) (L : List zK) (I : Nat → Nat → Int32) (J : Nat → Nat → Int64) (v1 : Int32) (v2 : Int32) : zgo X C none kX5_sendFrom 77 [some (.inr (.inr (some (.inl 5, 234)))), some (.inl v1), some (.inl v2)] [] (L, zB1, I, J) = zgo X C none kX5_sendFrom 52 [some (.inr (.inr (some (.inl 5, 234)))), some (.inl v1), some (.inl (v2 + 1))] [] (L, zB1, I, J) := by
  rw [zgo_run X C _ _ [0, 8, 15, 49, 52, 77] 3]
  rfl

set_option maxRecDepth 100000 in
theorem bX5_weighSending_0 (X : Nat → Nat → Int32) (C : Nat → List zV → zS → Option zR) (L : List zK) (I : Nat → Nat → Int32) (J : Nat → Nat → Int64) : zgo X C none kX5_weighSending 0 [some (.inr (.inr (some (.inl 5, 234)))), none, none, none, none] [] (L, zB1, I, J) = zgo X C none kX5_weighSending 4 [some (.inr (.inr (some (.inl 5, 234)))), some (.inl 0), some (.inl 0), none, none] [] (L, zB1, I, J) := by
  rw [zgo_run X C _ _ [0, 4, 20, 52, 113] 5]
  rfl
set_option maxRecDepth 100000 in
theorem bX5_weighSending_4 (X : Nat → Nat → Int32) (C : Nat → List zV → zS → Option zR) (L : List zK) (I : Nat → Nat → Int32) (J : Nat → Nat → Int64) (v1 : Int32) (v2 : Int32) (u3 : Option zV) (u4 : Option zV) : zgo X C none kX5_weighSending 4 [some (.inr (.inr (some (.inl 5, 234)))), some (.inl v1), some (.inl v2), u3, u4] [] (L, zB1, I, J) = if (I 235 0) ≤ v2 then if v1 ≤ (I 234 7) then zgo X C none kX5_weighSending 113 [some (.inr (.inr (some (.inl 5, 234)))), some (.inl v1), some (.inl v2), u3, u4] [] (L, zB1, I, J) else zbt (decide (0 ≤ (6 : Int32).toInt) && (decide (0 ≤ (0 : Int32).toInt) && (decide (0 ≤ (0 : Int32).toInt) && (decide ((0 : Int32).toInt + (6 : Int32).toInt ≤ ((6 : Nat) : Int)) && decide ((0 : Int32).toInt + (6 : Int32).toInt ≤ ((6 : Nat) : Int)))))) (zgo X C none kX5_weighSending 113 [some (.inr (.inr (some (.inl 5, 234)))), some (.inl v1), some (.inl v2), u3, u4] [] (L, zB1, (zur (zup I 234 7 v1) 253 (va_cpy ((zup I 234 7 v1) 252) ((zup I 234 7 v1) 253) (0 : Int32).toNatClampNeg (0 : Int32).toNatClampNeg (6 : Int32).toNatClampNeg)), J)) else zgo X C none kX5_weighSending 20 [some (.inr (.inr (some (.inl 5, 234)))), some (.inl v1), some (.inl v2), some (.inl 0), some (.inl 0)] [] (L, zB1, I, J) := by
  rw [zgo_run X C _ _ [0, 4, 20, 52, 113] 21]
  rfl
set_option maxRecDepth 100000 in
theorem bX5_weighSending_20 (X : Nat → Nat → Int32) (C : Nat → List zV → zS → Option zR) (L : List zK) (I : Nat → Nat → Int32) (J : Nat → Nat → Int64) (v1 : Int32) (v2 : Int32) (v3 : Int32) (v4 : Int32) : zgo X C none kX5_weighSending 20 [some (.inr (.inr (some (.inl 5, 234)))), some (.inl v1), some (.inl v2), some (.inl v3), some (.inl v4)] [] (L, zB1, I, J) = if (I 235 1) ≤ v4 then zbt (zin ((v2 * 64) + (v3 &&& (I 234 5))) 256) (zgo X C none kX5_weighSending 4 [some (.inr (.inr (some (.inl 5, 234)))), some (.inl (v1 + (I 251 ((v2 * 64) + (v3 &&& (I 234 5))).toNatClampNeg))), some (.inl (v2 + 1)), some (.inl v3), some (.inl v4)] [] (L, zB1, I, J)) else zbt (zin v4 6) (if (I 252 v4.toNatClampNeg) = v2 then zgo X C none kX5_weighSending 52 [some (.inr (.inr (some (.inl 5, 234)))), some (.inl v1), some (.inl v2), some (.inl v3), some (.inl v4)] [.inl (1 <<< (v4 &&& 31)), .inl v3] (L, zB1, I, J) else zgo X C none kX5_weighSending 52 [some (.inr (.inr (some (.inl 5, 234)))), some (.inl v1), some (.inl v2), some (.inl v3), some (.inl v4)] [.inl 0, .inl v3] (L, zB1, I, J)) := by
  rw [zgo_run X C _ _ [0, 4, 20, 52, 113] 22]
  rfl
set_option maxRecDepth 100000 in
theorem bX5_weighSending_52 (X : Nat → Nat → Int32) (C : Nat → List zV → zS → Option zR) (L : List zK) (I : Nat → Nat → Int32) (J : Nat → Nat → Int64) (v1 : Int32) (v2 : Int32) (v3 : Int32) (v4 : Int32) (s0 : Int32) (s1 : Int32) : zgo X C none kX5_weighSending 52 [some (.inr (.inr (some (.inl 5, 234)))), some (.inl v1), some (.inl v2), some (.inl v3), some (.inl v4)] [.inl s0, .inl s1] (L, zB1, I, J) = zgo X C none kX5_weighSending 20 [some (.inr (.inr (some (.inl 5, 234)))), some (.inl v1), some (.inl v2), some (.inl (s1 ||| s0)), some (.inl (v4 + 1))] [] (L, zB1, I, J) := by
  rw [zgo_run X C _ _ [0, 4, 20, 52, 113] 5]
  rfl
set_option maxRecDepth 100000 in
theorem bX5_weighSending_113 (X : Nat → Nat → Int32) (C : Nat → List zV → zS → Option zR) (L : List zK) (I : Nat → Nat → Int32) (J : Nat → Nat → Int64) (v1 : Int32) (v2 : Int32) (u3 : Option zV) (u4 : Option zV) : zgo X C none kX5_weighSending 113 [some (.inr (.inr (some (.inl 5, 234)))), some (.inl v1), some (.inl v2), u3, u4] [] (L, zB1, I, J) = some (none, (L, zB1, I, J)) := by
  rw [zgo_run X C _ _ [0, 4, 20, 52, 113] 2]
  rfl

set_option maxRecDepth 100000 in
theorem bX5_planGates_0 (X : Nat → Nat → Int32) (C : Nat → List zV → zS → Option zR) (L : List zK) (I : Nat → Nat → Int32) (J : Nat → Nat → Int64) (b2 : Nat) (a2 : Int32) : zgo X C none kX5_planGates 0 [some (.inr (.inr (some (.inl 5, 234)))), some (.inr (.inr (some (.inl 1, b2)))), some (.inl a2), none, none] [] (L, zB1, I, J) = zgo X C none kX5_planGates 7 [some (.inr (.inr (some (.inl 5, 234)))), some (.inr (.inr (some (.inl 1, b2)))), some (.inl a2), some (.inl 0), none] [] (L, zB1, (zup I 234 7 (-1)), J) := by
  rw [zgo_run X C _ _ [0, 7, 25, 28, 71, 78] 6]
  rfl
set_option maxRecDepth 100000 in
theorem bX5_planGates_7 (X : Nat → Nat → Int32) (C : Nat → List zV → zS → Option zR) (L : List zK) (I : Nat → Nat → Int32) (J : Nat → Nat → Int64) (qv1 : Nat) (v2 : Int32) (v3 : Int32) (u4 : Option zV) : zgo X C none kX5_planGates 7 [some (.inr (.inr (some (.inl 5, 234)))), some (.inr (.inr (some (.inl 1, qv1)))), some (.inl v2), some (.inl v3), u4] [] (L, zB1, I, J) = if (1 <<< ((I qv1 0) &&& 31)) ≤ v3 then some (none, (L, zB1, I, J)) else cV (C 12 [.inr (.inr (some (.inl 1, 243))), .inr (.inr (some (.inl 1, qv1)))] (L, zB1, I, J)) (fun σ => zgo X C none kX5_planGates 25 [some (.inr (.inr (some (.inl 5, 234)))), some (.inr (.inr (some (.inl 1, qv1)))), some (.inl v2), some (.inl v3), u4] [] σ) := by
  rw [zgo_run X C _ _ [0, 7, 25, 28, 71, 78] 11]
  rfl
set_option maxRecDepth 100000 in
theorem bX5_planGates_25 (X : Nat → Nat → Int32) (C : Nat → List zV → zS → Option zR) (L : List zK) (I : Nat → Nat → Int32) (J : Nat → Nat → Int64) (qv1 : Nat) (v2 : Int32) (v3 : Int32) (u4 : Option zV) : zgo X C none kX5_planGates 25 [some (.inr (.inr (some (.inl 5, 234)))), some (.inr (.inr (some (.inl 1, qv1)))), some (.inl v2), some (.inl v3), u4] [] (L, zB1, I, J) = zgo X C none kX5_planGates 28 [some (.inr (.inr (some (.inl 5, 234)))), some (.inr (.inr (some (.inl 1, qv1)))), some (.inl v2), some (.inl v3), some (.inl 0)] [] (L, zB1, I, J) := by
  rw [zgo_run X C _ _ [0, 7, 25, 28, 71, 78] 3]
  rfl
set_option maxRecDepth 100000 in
theorem bX5_planGates_28 (X : Nat → Nat → Int32) (C : Nat → List zV → zS → Option zR) (L : List zK) (I : Nat → Nat → Int32) (J : Nat → Nat → Int64) (qv1 : Nat) (v2 : Int32) (v3 : Int32) (v4 : Int32) : zgo X C none kX5_planGates 28 [some (.inr (.inr (some (.inl 5, 234)))), some (.inr (.inr (some (.inl 1, qv1)))), some (.inl v2), some (.inl v3), some (.inl v4)] [] (L, zB1, I, J) = if (I 243 0) ≤ v4 then cV (C 20 [.inr (.inr (some (.inl 1, 243))), .inl v2, .inl 0] (L, zB1, I, J)) (fun σ => zgo X C none kX5_planGates 71 [some (.inr (.inr (some (.inl 5, 234)))), some (.inr (.inr (some (.inl 1, qv1)))), some (.inl v2), some (.inl v3), some (.inl v4)] [] σ) else zbt (zin v4 4) (zgo X C none kX5_planGates 28 [some (.inr (.inr (some (.inl 5, 234)))), some (.inr (.inr (some (.inl 1, qv1)))), some (.inl v2), some (.inl v3), some (.inl (v4 + 1))] [] (L, zB1, (zup I 245 v4.toNatClampNeg ((v3 >>> (v4 &&& 31)) &&& 1)), J)) := by
  rw [zgo_run X C _ _ [0, 7, 25, 28, 71, 78] 18]
  rfl
set_option maxRecDepth 100000 in
theorem bX5_planGates_71 (X : Nat → Nat → Int32) (C : Nat → List zV → zS → Option zR) (L : List zK) (I : Nat → Nat → Int32) (J : Nat → Nat → Int64) (qv1 : Nat) (v2 : Int32) (v3 : Int32) (v4 : Int32) : zgo X C none kX5_planGates 71 [some (.inr (.inr (some (.inl 5, 234)))), some (.inr (.inr (some (.inl 1, qv1)))), some (.inl v2), some (.inl v3), some (.inl v4)] [] (L, zB1, I, J) = cI (C 29 [.inr (.inr (some (.inl 1, 243)))] (L, zB1, I, J)) (fun r σ => zgo X C none kX5_planGates 78 [some (.inr (.inr (some (.inl 5, 234)))), some (.inr (.inr (some (.inl 1, qv1)))), some (.inl v2), some (.inl v3), some (.inl v4)] [.inl r] σ) := by
  rw [zgo_run X C _ _ [0, 7, 25, 28, 71, 78] 4]
  rfl
set_option maxRecDepth 100000 in
theorem bX5_planGates_78 (X : Nat → Nat → Int32) (C : Nat → List zV → zS → Option zR) (L : List zK) (I : Nat → Nat → Int32) (J : Nat → Nat → Int64) (qv1 : Nat) (v2 : Int32) (v3 : Int32) (v4 : Int32) (s0 : Int32) : zgo X C none kX5_planGates 78 [some (.inr (.inr (some (.inl 5, 234)))), some (.inr (.inr (some (.inl 1, qv1)))), some (.inl v2), some (.inl v3), some (.inl v4)] [.inl s0] (L, zB1, I, J) = if s0 ≤ (I 234 7) then zgo X C none kX5_planGates 7 [some (.inr (.inr (some (.inl 5, 234)))), some (.inr (.inr (some (.inl 1, qv1)))), some (.inl v2), some (.inl (v3 + 1)), some (.inl s0)] [] (L, zB1, I, J) else zgo X C none kX5_planGates 7 [some (.inr (.inr (some (.inl 5, 234)))), some (.inr (.inr (some (.inl 1, qv1)))), some (.inl v2), some (.inl (v3 + 1)), some (.inl s0)] [] (L, zB1, (zup (zup I 234 7 s0) 234 6 v3), J) := by
  rw [zgo_run X C _ _ [0, 7, 25, 28, 71, 78] 14]
  rfl

set_option maxRecDepth 100000 in
theorem bX5_planLettingOff_0 (X : Nat → Nat → Int32) (C : Nat → List zV → zS → Option zR) (L : List zK) (I : Nat → Nat → Int32) (J : Nat → Nat → Int64) (b2 : Nat) (a2 : Int32) : zgo X C none kX5_planLettingOff 0 [some (.inr (.inr (some (.inl 5, 234)))), some (.inr (.inr (some (.inl 1, b2)))), some (.inl a2), none, none, none] [] (L, zB1, I, J) = cI (C 26 [.inr (.inr (some (.inl 1, b2))), .inl 0] (L, zB1, I, J)) (fun r σ => zgo X C none kX5_planLettingOff 5 [some (.inr (.inr (some (.inl 5, 234)))), some (.inr (.inr (some (.inl 1, b2)))), some (.inl a2), none, none, none] [.inl r] σ) := by
  rw [zgo_run X C _ _ [0, 5, 10, 21, 42, 53, 54, 69, 78] 4]
  rfl
set_option maxRecDepth 100000 in
theorem bX5_planLettingOff_5 (X : Nat → Nat → Int32) (C : Nat → List zV → zS → Option zR) (L : List zK) (I : Nat → Nat → Int32) (J : Nat → Nat → Int64) (qv1 : Nat) (v2 : Int32) (s0 : Int32) : zgo X C none kX5_planLettingOff 5 [some (.inr (.inr (some (.inl 5, 234)))), some (.inr (.inr (some (.inl 1, qv1)))), some (.inl v2), none, none, none] [.inl s0] (L, zB1, I, J) = cI (C 26 [.inr (.inr (some (.inl 1, qv1))), .inl 1] (L, zB1, I, J)) (fun r σ => zgo X C none kX5_planLettingOff 10 [some (.inr (.inr (some (.inl 5, 234)))), some (.inr (.inr (some (.inl 1, qv1)))), some (.inl v2), none, none, none] [.inl r, .inl s0] σ) := by
  rw [zgo_run X C _ _ [0, 5, 10, 21, 42, 53, 54, 69, 78] 4]
  rfl
set_option maxRecDepth 100000 in
theorem bX5_planLettingOff_10 (X : Nat → Nat → Int32) (C : Nat → List zV → zS → Option zR) (L : List zK) (I : Nat → Nat → Int32) (J : Nat → Nat → Int64) (qv1 : Nat) (v2 : Int32) (s0 : Int32) (s1 : Int32) : zgo X C none kX5_planLettingOff 10 [some (.inr (.inr (some (.inl 5, 234)))), some (.inr (.inr (some (.inl 1, qv1)))), some (.inl v2), none, none, none] [.inl s0, .inl s1] (L, zB1, I, J) = zgo X C none kX5_planLettingOff 21 [some (.inr (.inr (some (.inl 5, 234)))), some (.inr (.inr (some (.inl 1, qv1)))), some (.inl v2), some (.inl (s1 ||| s0)), some (.inl 0), none] [] (L, zB1, (zup I 234 7 7), J) := by
  rw [zgo_run X C _ _ [0, 5, 10, 21, 42, 53, 54, 69, 78] 8]
  rfl
set_option maxRecDepth 100000 in
theorem bX5_planLettingOff_21 (X : Nat → Nat → Int32) (C : Nat → List zV → zS → Option zR) (L : List zK) (I : Nat → Nat → Int32) (J : Nat → Nat → Int64) (qv1 : Nat) (v2 : Int32) (v3 : Int32) (v4 : Int32) (u5 : Option zV) : zgo X C none kX5_planLettingOff 21 [some (.inr (.inr (some (.inl 5, 234)))), some (.inr (.inr (some (.inl 1, qv1)))), some (.inl v2), some (.inl v3), some (.inl v4), u5] [] (L, zB1, I, J) = if (64 : Int32) ≤ v4 then some (none, (L, zB1, I, J)) else if (v4 &&& (v3 ^^^ (-1))) = 0 then cI (C 0 [.inl v4] (L, zB1, I, J)) (fun r σ => zgo X C none kX5_planLettingOff 42 [some (.inr (.inr (some (.inl 5, 234)))), some (.inr (.inr (some (.inl 1, qv1)))), some (.inl v2), some (.inl v3), some (.inl v4), u5] [.inl r] σ) else zgo X C none kX5_planLettingOff 53 [some (.inr (.inr (some (.inl 5, 234)))), some (.inr (.inr (some (.inl 1, qv1)))), some (.inl v2), some (.inl v3), some (.inl v4), u5] [] (L, zB1, I, J) := by
  rw [zgo_run X C _ _ [0, 5, 10, 21, 42, 53, 54, 69, 78] 12]
  rfl
set_option maxRecDepth 100000 in
theorem bX5_planLettingOff_42 (X : Nat → Nat → Int32) (C : Nat → List zV → zS → Option zR) (L : List zK) (I : Nat → Nat → Int32) (J : Nat → Nat → Int64) (qv1 : Nat) (v2 : Int32) (v3 : Int32) (v4 : Int32) (u5 : Option zV) (s0 : Int32) : zgo X C none kX5_planLettingOff 42 [some (.inr (.inr (some (.inl 5, 234)))), some (.inr (.inr (some (.inl 1, qv1)))), some (.inl v2), some (.inl v3), some (.inl v4), u5] [.inl s0] (L, zB1, I, J) = if (I 234 7) ≤ s0 then zgo X C none kX5_planLettingOff 53 [some (.inr (.inr (some (.inl 5, 234)))), some (.inr (.inr (some (.inl 1, qv1)))), some (.inl v2), some (.inl v3), some (.inl v4), u5] [] (L, zB1, I, J) else zgo X C none kX5_planLettingOff 54 [some (.inr (.inr (some (.inl 5, 234)))), some (.inr (.inr (some (.inl 1, qv1)))), some (.inl v2), some (.inl v3), some (.inl v4), u5] [.inl 1] (L, zB1, I, J) := by
  rw [zgo_run X C _ _ [0, 5, 10, 21, 42, 53, 54, 69, 78] 6]
  rfl
set_option maxRecDepth 100000 in
theorem bX5_planLettingOff_53 (X : Nat → Nat → Int32) (C : Nat → List zV → zS → Option zR) (L : List zK) (I : Nat → Nat → Int32) (J : Nat → Nat → Int64) (qv1 : Nat) (v2 : Int32) (v3 : Int32) (v4 : Int32) (u5 : Option zV) : zgo X C none kX5_planLettingOff 53 [some (.inr (.inr (some (.inl 5, 234)))), some (.inr (.inr (some (.inl 1, qv1)))), some (.inl v2), some (.inl v3), some (.inl v4), u5] [] (L, zB1, I, J) = zgo X C none kX5_planLettingOff 54 [some (.inr (.inr (some (.inl 5, 234)))), some (.inr (.inr (some (.inl 1, qv1)))), some (.inl v2), some (.inl v3), some (.inl v4), u5] [.inl 0] (L, zB1, I, J) := by
  rw [zgo_run X C _ _ [0, 5, 10, 21, 42, 53, 54, 69, 78] 2]
  rfl
set_option maxRecDepth 100000 in
theorem bX5_planLettingOff_54 (X : Nat → Nat → Int32) (C : Nat → List zV → zS → Option zR) (L : List zK) (I : Nat → Nat → Int32) (J : Nat → Nat → Int64) (qv1 : Nat) (v2 : Int32) (v3 : Int32) (v4 : Int32) (u5 : Option zV) (s0 : Int32) : zgo X C none kX5_planLettingOff 54 [some (.inr (.inr (some (.inl 5, 234)))), some (.inr (.inr (some (.inl 1, qv1)))), some (.inl v2), some (.inl v3), some (.inl v4), u5] [.inl s0] (L, zB1, I, J) = if s0 = 0 then zgo X C none kX5_planLettingOff 21 [some (.inr (.inr (some (.inl 5, 234)))), some (.inr (.inr (some (.inl 1, qv1)))), some (.inl v2), some (.inl v3), some (.inl (v4 + 1)), some (.inl s0)] [] (L, zB1, I, J) else cI (C 69 [.inr (.inr (some (.inl 5, 234))), .inr (.inr (some (.inl 1, qv1))), .inl v4, .inl v2] (L, zB1, I, J)) (fun r σ => zgo X C none kX5_planLettingOff 69 [some (.inr (.inr (some (.inl 5, 234)))), some (.inr (.inr (some (.inl 1, qv1)))), some (.inl v2), some (.inl v3), some (.inl v4), some (.inl s0)] [.inl r] σ) := by
  rw [zgo_run X C _ _ [0, 5, 10, 21, 42, 53, 54, 69, 78] 9]
  rfl
set_option maxRecDepth 100000 in
theorem bX5_planLettingOff_69 (X : Nat → Nat → Int32) (C : Nat → List zV → zS → Option zR) (L : List zK) (I : Nat → Nat → Int32) (J : Nat → Nat → Int64) (qv1 : Nat) (v2 : Int32) (v3 : Int32) (v4 : Int32) (v5 : Int32) (s0 : Int32) : zgo X C none kX5_planLettingOff 69 [some (.inr (.inr (some (.inl 5, 234)))), some (.inr (.inr (some (.inl 1, qv1)))), some (.inl v2), some (.inl v3), some (.inl v4), some (.inl v5)] [.inl s0] (L, zB1, I, J) = if s0 = 0 then zgo X C none kX5_planLettingOff 21 [some (.inr (.inr (some (.inl 5, 234)))), some (.inr (.inr (some (.inl 1, qv1)))), some (.inl v2), some (.inl v3), some (.inl (v4 + 1)), some (.inl v5)] [] (L, zB1, I, J) else cI (C 0 [.inl v4] (L, zB1, I, J)) (fun r σ => zgo X C none kX5_planLettingOff 78 [some (.inr (.inr (some (.inl 5, 234)))), some (.inr (.inr (some (.inl 1, qv1)))), some (.inl v2), some (.inl v3), some (.inl v4), some (.inl v5)] [.inl r, .inr (.inr (some (.inl 5, 234)))] σ) := by
  rw [zgo_run X C _ _ [0, 5, 10, 21, 42, 53, 54, 69, 78] 5]
  rfl
set_option maxRecDepth 100000 in
theorem bX5_planLettingOff_78 (X : Nat → Nat → Int32) (C : Nat → List zV → zS → Option zR) (L : List zK) (I : Nat → Nat → Int32) (J : Nat → Nat → Int64) (qv1 : Nat) (v2 : Int32) (v3 : Int32) (v4 : Int32) (v5 : Int32) (s0 : Int32) : zgo X C none kX5_planLettingOff 78 [some (.inr (.inr (some (.inl 5, 234)))), some (.inr (.inr (some (.inl 1, qv1)))), some (.inl v2), some (.inl v3), some (.inl v4), some (.inl v5)] [.inl s0, .inr (.inr (some (.inl 5, 234)))] (L, zB1, I, J) = zgo X C none kX5_planLettingOff 21 [some (.inr (.inr (some (.inl 5, 234)))), some (.inr (.inr (some (.inl 1, qv1)))), some (.inl v2), some (.inl v3), some (.inl (v4 + 1)), some (.inl v5)] [] (L, zB1, (zup (zup I 234 7 s0) 234 6 v4), J) := by
  rw [zgo_run X C _ _ [0, 5, 10, 21, 42, 53, 54, 69, 78] 7]
  rfl

set_option maxRecDepth 100000 in
theorem bX5_nobodyWaitsWithout_0 (X : Nat → Nat → Int32) (C : Nat → List zV → zS → Option zR) (L : List zK) (I : Nat → Nat → Int32) (J : Nat → Nat → Int64) (b2 : Nat) (a2 : Int32) (a3 : Int32) : zgo X C (some .boolean) kX5_nobodyWaitsWithout 0 [some (.inr (.inr (some (.inl 5, 234)))), some (.inr (.inr (some (.inl 1, b2)))), some (.inl a2), some (.inl a3)] [] (L, zB1, I, J) = cV (C 12 [.inr (.inr (some (.inl 1, 243))), .inr (.inr (some (.inl 1, b2)))] (L, zB1, I, J)) (fun σ => zgo X C (some .boolean) kX5_nobodyWaitsWithout 8 [some (.inr (.inr (some (.inl 5, 234)))), some (.inr (.inr (some (.inl 1, b2)))), some (.inl a2), some (.inl a3)] [] σ) := by
  rw [zgo_run X C _ _ [0, 8, 16, 25, 33] 5]
  rfl
set_option maxRecDepth 100000 in
theorem bX5_nobodyWaitsWithout_8 (X : Nat → Nat → Int32) (C : Nat → List zV → zS → Option zR) (L : List zK) (I : Nat → Nat → Int32) (J : Nat → Nat → Int64) (qv1 : Nat) (v2 : Int32) (v3 : Int32) : zgo X C (some .boolean) kX5_nobodyWaitsWithout 8 [some (.inr (.inr (some (.inl 5, 234)))), some (.inr (.inr (some (.inl 1, qv1)))), some (.inl v2), some (.inl v3)] [] (L, zB1, I, J) = cV (C 25 [.inr (.inr (some (.inl 1, 243))), .inl v2] (L, zB1, I, J)) (fun σ => zgo X C (some .boolean) kX5_nobodyWaitsWithout 16 [some (.inr (.inr (some (.inl 5, 234)))), some (.inr (.inr (some (.inl 1, qv1)))), some (.inl v2), some (.inl v3)] [] σ) := by
  rw [zgo_run X C _ _ [0, 8, 16, 25, 33] 5]
  rfl
set_option maxRecDepth 100000 in
theorem bX5_nobodyWaitsWithout_16 (X : Nat → Nat → Int32) (C : Nat → List zV → zS → Option zR) (L : List zK) (I : Nat → Nat → Int32) (J : Nat → Nat → Int64) (qv1 : Nat) (v2 : Int32) (v3 : Int32) : zgo X C (some .boolean) kX5_nobodyWaitsWithout 16 [some (.inr (.inr (some (.inl 5, 234)))), some (.inr (.inr (some (.inl 1, qv1)))), some (.inl v2), some (.inl v3)] [] (L, zB1, I, J) = cV (C 20 [.inr (.inr (some (.inl 1, 243))), .inl v3, .inl 0] (L, zB1, I, J)) (fun σ => zgo X C (some .boolean) kX5_nobodyWaitsWithout 25 [some (.inr (.inr (some (.inl 5, 234)))), some (.inr (.inr (some (.inl 1, qv1)))), some (.inl v2), some (.inl v3)] [] σ) := by
  rw [zgo_run X C _ _ [0, 8, 16, 25, 33] 6]
  rfl
set_option maxRecDepth 100000 in
theorem bX5_nobodyWaitsWithout_25 (X : Nat → Nat → Int32) (C : Nat → List zV → zS → Option zR) (L : List zK) (I : Nat → Nat → Int32) (J : Nat → Nat → Int64) (qv1 : Nat) (v2 : Int32) (v3 : Int32) : zgo X C (some .boolean) kX5_nobodyWaitsWithout 25 [some (.inr (.inr (some (.inl 5, 234)))), some (.inr (.inr (some (.inl 1, qv1)))), some (.inl v2), some (.inl v3)] [] (L, zB1, I, J) = cI (C 26 [.inr (.inr (some (.inl 1, 243))), .inl 0] (L, zB1, I, J)) (fun r σ => zgo X C (some .boolean) kX5_nobodyWaitsWithout 33 [some (.inr (.inr (some (.inl 5, 234)))), some (.inr (.inr (some (.inl 1, qv1)))), some (.inl v2), some (.inl v3)] [.inl r] σ) := by
  rw [zgo_run X C _ _ [0, 8, 16, 25, 33] 5]
  rfl
set_option maxRecDepth 100000 in
theorem bX5_nobodyWaitsWithout_33 (X : Nat → Nat → Int32) (C : Nat → List zV → zS → Option zR) (L : List zK) (I : Nat → Nat → Int32) (J : Nat → Nat → Int64) (qv1 : Nat) (v2 : Int32) (v3 : Int32) (s0 : Int32) : zgo X C (some .boolean) kX5_nobodyWaitsWithout 33 [some (.inr (.inr (some (.inl 5, 234)))), some (.inr (.inr (some (.inl 1, qv1)))), some (.inl v2), some (.inl v3)] [.inl s0] (L, zB1, I, J) = if s0 = 0 then some (some (.inl 1), (L, zB1, I, J)) else some (some (.inl 0), (L, zB1, I, J)) := by
  rw [zgo_run X C _ _ [0, 8, 16, 25, 33] 5]
  rfl

set_option maxRecDepth 100000 in
theorem bX5_playTurns_0 (X : Nat → Nat → Int32) (C : Nat → List zV → zS → Option zR) (L : List zK) (I : Nat → Nat → Int32) (J : Nat → Nat → Int64) (b2 : Nat) (a2 : Int32) (a3 : Int32) (a4 : Int32) (a5 : Int32) : zgo X C (some .int) kX5_playTurns 0 [some (.inr (.inr (some (.inl 5, 234)))), some (.inr (.inr (some (.inl 1, b2)))), some (.inl a2), some (.inl a3), some (.inl a4), some (.inl a5)] [] (L, zB1, I, J) = cV (C 12 [.inr (.inr (some (.inl 1, 235))), .inr (.inr (some (.inl 1, b2)))] (L, zB1, I, J)) (fun σ => zgo X C (some .int) kX5_playTurns 8 [some (.inr (.inr (some (.inl 5, 234)))), some (.inr (.inr (some (.inl 1, b2)))), some (.inl a2), some (.inl a3), some (.inl a4), some (.inl a5)] [] σ) := by
  rw [zgo_run X C _ _ [0, 8, 25, 39] 5]
  rfl
set_option maxRecDepth 100000 in
theorem bX5_playTurns_8 (X : Nat → Nat → Int32) (C : Nat → List zV → zS → Option zR) (L : List zK) (I : Nat → Nat → Int32) (J : Nat → Nat → Int64) (qv1 : Nat) (v2 : Int32) (v3 : Int32) (v4 : Int32) (v5 : Int32) : zgo X C (some .int) kX5_playTurns 8 [some (.inr (.inr (some (.inl 5, 234)))), some (.inr (.inr (some (.inl 1, qv1)))), some (.inl v2), some (.inl v3), some (.inl v4), some (.inl v5)] [] (L, zB1, I, J) = cI (C 3 [.inl v4, .inl 4] (L, zB1, (zup (zup I 234 8 v2) 234 9 v3), J)) (fun r σ => zgo X C (some .int) kX5_playTurns 25 [some (.inr (.inr (some (.inl 5, 234)))), some (.inr (.inr (some (.inl 1, qv1)))), some (.inl v2), some (.inl v3), some (.inl v4), some (.inl v5)] [.inl r, .inr (.inr (some (.inl 5, 234)))] σ) := by
  rw [zgo_run X C _ _ [0, 8, 25, 39] 11]
  rfl
set_option maxRecDepth 100000 in
theorem bX5_playTurns_25 (X : Nat → Nat → Int32) (C : Nat → List zV → zS → Option zR) (L : List zK) (I : Nat → Nat → Int32) (J : Nat → Nat → Int64) (qv1 : Nat) (v2 : Int32) (v3 : Int32) (v4 : Int32) (v5 : Int32) (s0 : Int32) : zgo X C (some .int) kX5_playTurns 25 [some (.inr (.inr (some (.inl 5, 234)))), some (.inr (.inr (some (.inl 1, qv1)))), some (.inl v2), some (.inl v3), some (.inl v4), some (.inl v5)] [.inl s0, .inr (.inr (some (.inl 5, 234)))] (L, zB1, I, J) = cI (C 71 [.inr (.inr (some (.inl 5, 234))), .inl 0] (L, zB1, (zup (zup I 234 10 s0) 234 11 v5), J)) (fun r σ => zgo X C (some .int) kX5_playTurns 39 [some (.inr (.inr (some (.inl 5, 234)))), some (.inr (.inr (some (.inl 1, qv1)))), some (.inl v2), some (.inl v3), some (.inl v4), some (.inl v5)] [.inl r] σ) := by
  rw [zgo_run X C _ _ [0, 8, 25, 39] 8]
  rfl
set_option maxRecDepth 100000 in
theorem bX5_playTurns_39 (X : Nat → Nat → Int32) (C : Nat → List zV → zS → Option zR) (L : List zK) (I : Nat → Nat → Int32) (J : Nat → Nat → Int64) (qv1 : Nat) (v2 : Int32) (v3 : Int32) (v4 : Int32) (v5 : Int32) (s0 : Int32) : zgo X C (some .int) kX5_playTurns 39 [some (.inr (.inr (some (.inl 5, 234)))), some (.inr (.inr (some (.inl 1, qv1)))), some (.inl v2), some (.inl v3), some (.inl v4), some (.inl v5)] [.inl s0] (L, zB1, I, J) = some (some (.inl s0), (L, zB1, I, J)) := by
  rw [zgo_run X C _ _ [0, 8, 25, 39] 2]
  rfl

set_option maxRecDepth 100000 in
theorem bX5_playFrom_0 (X : Nat → Nat → Int32) (C : Nat → List zV → zS → Option zR) (L : List zK) (I : Nat → Nat → Int32) (J : Nat → Nat → Int64) (a1 : Int32) : zgo X C (some .int) kX5_playFrom 0 [some (.inr (.inr (some (.inl 5, 234)))), some (.inl a1), none, none, none, none, none, none] [] (L, zB1, I, J) = if a1 < (I 234 10) then if (2 : Int32) = 0 then none else if (a1 - a1 / 2 * 2) = 0 then zgo X C (some .int) kX5_playFrom 24 [some (.inr (.inr (some (.inl 5, 234)))), some (.inl a1), none, none, none, none, none, none] [.inl 1] (L, zB1, I, J) else zgo X C (some .int) kX5_playFrom 24 [some (.inr (.inr (some (.inl 5, 234)))), some (.inl a1), none, none, none, none, none, none] [.inl 0] (L, zB1, I, J) else cI (C 72 [.inr (.inr (some (.inl 5, 234)))] (L, zB1, I, J)) (fun r σ => zgo X C (some .int) kX5_playFrom 12 [some (.inr (.inr (some (.inl 5, 234)))), some (.inl a1), none, none, none, none, none, none] [.inl r] σ) := by
  rw [zgo_run X C _ _ [0, 12, 24, 40, 48, 53, 88, 121, 129, 154, 164] 11]
  rfl
set_option maxRecDepth 100000 in
theorem bX5_playFrom_12 (X : Nat → Nat → Int32) (C : Nat → List zV → zS → Option zR) (L : List zK) (I : Nat → Nat → Int32) (J : Nat → Nat → Int64) (v1 : Int32) (s0 : Int32) : zgo X C (some .int) kX5_playFrom 12 [some (.inr (.inr (some (.inl 5, 234)))), some (.inl v1), none, none, none, none, none, none] [.inl s0] (L, zB1, I, J) = some (some (.inl s0), (L, zB1, I, J)) := by
  rw [zgo_run X C _ _ [0, 12, 24, 40, 48, 53, 88, 121, 129, 154, 164] 2]
  rfl
set_option maxRecDepth 100000 in
theorem bX5_playFrom_24 (X : Nat → Nat → Int32) (C : Nat → List zV → zS → Option zR) (L : List zK) (I : Nat → Nat → Int32) (J : Nat → Nat → Int64) (v1 : Int32) (s0 : Int32) : zgo X C (some .int) kX5_playFrom 24 [some (.inr (.inr (some (.inl 5, 234)))), some (.inl v1), none, none, none, none, none, none] [.inl s0] (L, zB1, I, J) = if s0 = 0 then zgo X C (some .int) kX5_playFrom 40 [some (.inr (.inr (some (.inl 5, 234)))), some (.inl v1), some (.inl s0), none, none, none, none, none] [.inl (I 234 9)] (L, zB1, I, J) else zgo X C (some .int) kX5_playFrom 40 [some (.inr (.inr (some (.inl 5, 234)))), some (.inl v1), some (.inl s0), none, none, none, none, none] [.inl (I 234 8)] (L, zB1, I, J) := by
  rw [zgo_run X C _ _ [0, 12, 24, 40, 48, 53, 88, 121, 129, 154, 164] 7]
  rfl
set_option maxRecDepth 100000 in
theorem bX5_playFrom_40 (X : Nat → Nat → Int32) (C : Nat → List zV → zS → Option zR) (L : List zK) (I : Nat → Nat → Int32) (J : Nat → Nat → Int64) (v1 : Int32) (v2 : Int32) (s0 : Int32) : zgo X C (some .int) kX5_playFrom 40 [some (.inr (.inr (some (.inl 5, 234)))), some (.inl v1), some (.inl v2), none, none, none, none, none] [.inl s0] (L, zB1, I, J) = cI (C 71 [.inr (.inr (some (.inl 5, 234))), .inl (v1 + 1)] (L, zB1, I, J)) (fun r σ => zgo X C (some .int) kX5_playFrom 48 [some (.inr (.inr (some (.inl 5, 234)))), some (.inl v1), some (.inl v2), some (.inl s0), none, none, none, none] [.inl r] σ) := by
  rw [zgo_run X C _ _ [0, 12, 24, 40, 48, 53, 88, 121, 129, 154, 164] 7]
  rfl
set_option maxRecDepth 100000 in
theorem bX5_playFrom_48 (X : Nat → Nat → Int32) (C : Nat → List zV → zS → Option zR) (L : List zK) (I : Nat → Nat → Int32) (J : Nat → Nat → Int64) (v1 : Int32) (v2 : Int32) (v3 : Int32) (s0 : Int32) : zgo X C (some .int) kX5_playFrom 48 [some (.inr (.inr (some (.inl 5, 234)))), some (.inl v1), some (.inl v2), some (.inl v3), none, none, none, none] [.inl s0] (L, zB1, I, J) = zgo X C (some .int) kX5_playFrom 53 [some (.inr (.inr (some (.inl 5, 234)))), some (.inl v1), some (.inl v2), some (.inl v3), some (.inl s0), some (.inl 0), none, none] [] (L, zB1, I, J) := by
  rw [zgo_run X C _ _ [0, 12, 24, 40, 48, 53, 88, 121, 129, 154, 164] 4]
  rfl
set_option maxRecDepth 100000 in
theorem bX5_playFrom_53 (X : Nat → Nat → Int32) (C : Nat → List zV → zS → Option zR) (L : List zK) (I : Nat → Nat → Int32) (J : Nat → Nat → Int64) (v1 : Int32) (v2 : Int32) (v3 : Int32) (v4 : Int32) (v5 : Int32) (u6 : Option zV) (u7 : Option zV) : zgo X C (some .int) kX5_playFrom 53 [some (.inr (.inr (some (.inl 5, 234)))), some (.inl v1), some (.inl v2), some (.inl v3), some (.inl v4), some (.inl v5), u6, u7] [] (L, zB1, I, J) = if (I 235 1) ≤ v5 then some (some (.inl v4), (L, zB1, I, J)) else zbt (zin v5 6) (if (I 239 v5.toNatClampNeg) = v3 then cI (C 18 [.inr (.inr (some (.inl 1, 235))), .inl v5] (L, zB1, I, J)) (fun r σ => zgo X C (some .int) kX5_playFrom 88 [some (.inr (.inr (some (.inl 5, 234)))), some (.inl v1), some (.inl v2), some (.inl v3), some (.inl v4), some (.inl v5), u6, u7] [.inl r] σ) else zgo X C (some .int) kX5_playFrom 53 [some (.inr (.inr (some (.inl 5, 234)))), some (.inl v1), some (.inl v2), some (.inl v3), some (.inl v4), some (.inl (v5 + 1)), u6, u7] [] (L, zB1, I, J)) := by
  rw [zgo_run X C _ _ [0, 12, 24, 40, 48, 53, 88, 121, 129, 154, 164] 17]
  rfl
set_option maxRecDepth 100000 in
theorem bX5_playFrom_88 (X : Nat → Nat → Int32) (C : Nat → List zV → zS → Option zR) (L : List zK) (I : Nat → Nat → Int32) (J : Nat → Nat → Int64) (v1 : Int32) (v2 : Int32) (v3 : Int32) (v4 : Int32) (v5 : Int32) (u6 : Option zV) (u7 : Option zV) (s0 : Int32) : zgo X C (some .int) kX5_playFrom 88 [some (.inr (.inr (some (.inl 5, 234)))), some (.inl v1), some (.inl v2), some (.inl v3), some (.inl v4), some (.inl v5), u6, u7] [.inl s0] (L, zB1, I, J) = if s0 = 0 then zgo X C (some .int) kX5_playFrom 53 [some (.inr (.inr (some (.inl 5, 234)))), some (.inl v1), some (.inl v2), some (.inl v3), some (.inl v4), some (.inl (v5 + 1)), u6, u7] [] (L, zB1, I, J) else zbt (zin v5 6) (cI (C 3 [.inl 30, .inl ((I 241 v5.toNatClampNeg) + 5)] (L, zB1, I, J)) (fun r σ => zgo X C (some .int) kX5_playFrom 121 [some (.inr (.inr (some (.inl 5, 234)))), some (.inl v1), some (.inl v2), some (.inl v3), some (.inl v4), some (.inl v5), some (.inl (I 241 v5.toNatClampNeg)), u7] [.inl r, .inl v5, .inr (.inr (some (.inr (.int, 6), 241)))] σ)) := by
  rw [zgo_run X C _ _ [0, 12, 24, 40, 48, 53, 88, 121, 129, 154, 164] 17]
  rfl
set_option maxRecDepth 100000 in
theorem bX5_playFrom_121 (X : Nat → Nat → Int32) (C : Nat → List zV → zS → Option zR) (L : List zK) (I : Nat → Nat → Int32) (J : Nat → Nat → Int64) (v1 : Int32) (v2 : Int32) (v3 : Int32) (v4 : Int32) (v5 : Int32) (v6 : Int32) (u7 : Option zV) (s0 : Int32) (s1 : Int32) : zgo X C (some .int) kX5_playFrom 121 [some (.inr (.inr (some (.inl 5, 234)))), some (.inl v1), some (.inl v2), some (.inl v3), some (.inl v4), some (.inl v5), some (.inl v6), u7] [.inl s0, .inl s1, .inr (.inr (some (.inr (.int, 6), 241)))] (L, zB1, I, J) = zbt (zin s1 6) (cI (C 71 [.inr (.inr (some (.inl 5, 234))), .inl (v1 + 1)] (L, zB1, (zup I 241 s1.toNatClampNeg s0), J)) (fun r σ => zgo X C (some .int) kX5_playFrom 129 [some (.inr (.inr (some (.inl 5, 234)))), some (.inl v1), some (.inl v2), some (.inl v3), some (.inl v4), some (.inl v5), some (.inl v6), u7] [.inl r] σ)) := by
  rw [zgo_run X C _ _ [0, 12, 24, 40, 48, 53, 88, 121, 129, 154, 164] 7]
  rfl
set_option maxRecDepth 100000 in
theorem bX5_playFrom_129 (X : Nat → Nat → Int32) (C : Nat → List zV → zS → Option zR) (L : List zK) (I : Nat → Nat → Int32) (J : Nat → Nat → Int64) (v1 : Int32) (v2 : Int32) (v3 : Int32) (v4 : Int32) (v5 : Int32) (v6 : Int32) (u7 : Option zV) (s0 : Int32) : zgo X C (some .int) kX5_playFrom 129 [some (.inr (.inr (some (.inl 5, 234)))), some (.inl v1), some (.inl v2), some (.inl v3), some (.inl v4), some (.inl v5), some (.inl v6), u7] [.inl s0] (L, zB1, I, J) = zbt (zin v5 6) (if v2 = 0 then cI (C 3 [.inl v4, .inl s0] (L, zB1, (zup I 241 v5.toNatClampNeg v6), J)) (fun r σ => zgo X C (some .int) kX5_playFrom 164 [some (.inr (.inr (some (.inl 5, 234)))), some (.inl v1), some (.inl v2), some (.inl v3), some (.inl v4), some (.inl v5), some (.inl v6), some (.inl s0)] [.inl r] σ) else cI (C 2 [.inl v4, .inl s0] (L, zB1, (zup I 241 v5.toNatClampNeg v6), J)) (fun r σ => zgo X C (some .int) kX5_playFrom 154 [some (.inr (.inr (some (.inl 5, 234)))), some (.inl v1), some (.inl v2), some (.inl v3), some (.inl v4), some (.inl v5), some (.inl v6), some (.inl s0)] [.inl r] σ)) := by
  rw [zgo_run X C _ _ [0, 12, 24, 40, 48, 53, 88, 121, 129, 154, 164] 13]
  rfl
set_option maxRecDepth 100000 in
theorem bX5_playFrom_154 (X : Nat → Nat → Int32) (C : Nat → List zV → zS → Option zR) (L : List zK) (I : Nat → Nat → Int32) (J : Nat → Nat → Int64) (v1 : Int32) (v2 : Int32) (v3 : Int32) (v4 : Int32) (v5 : Int32) (v6 : Int32) (v7 : Int32) (s0 : Int32) : zgo X C (some .int) kX5_playFrom 154 [some (.inr (.inr (some (.inl 5, 234)))), some (.inl v1), some (.inl v2), some (.inl v3), some (.inl v4), some (.inl v5), some (.inl v6), some (.inl v7)] [.inl s0] (L, zB1, I, J) = zgo X C (some .int) kX5_playFrom 164 [some (.inr (.inr (some (.inl 5, 234)))), some (.inl v1), some (.inl v2), some (.inl v3), some (.inl v4), some (.inl v5), some (.inl v6), some (.inl v7)] [.inl s0] (L, zB1, I, J) := by
  rw [zgo_run X C _ _ [0, 12, 24, 40, 48, 53, 88, 121, 129, 154, 164] 2]
  rfl
set_option maxRecDepth 100000 in
theorem bX5_playFrom_164 (X : Nat → Nat → Int32) (C : Nat → List zV → zS → Option zR) (L : List zK) (I : Nat → Nat → Int32) (J : Nat → Nat → Int64) (v1 : Int32) (v2 : Int32) (v3 : Int32) (v4 : Int32) (v5 : Int32) (v6 : Int32) (v7 : Int32) (s0 : Int32) : zgo X C (some .int) kX5_playFrom 164 [some (.inr (.inr (some (.inl 5, 234)))), some (.inl v1), some (.inl v2), some (.inl v3), some (.inl v4), some (.inl v5), some (.inl v6), some (.inl v7)] [.inl s0] (L, zB1, I, J) = zgo X C (some .int) kX5_playFrom 53 [some (.inr (.inr (some (.inl 5, 234)))), some (.inl v1), some (.inl v2), some (.inl v3), some (.inl s0), some (.inl (v5 + 1)), some (.inl v6), some (.inl v7)] [] (L, zB1, I, J) := by
  rw [zgo_run X C _ _ [0, 12, 24, 40, 48, 53, 88, 121, 129, 154, 164] 4]
  rfl

set_option maxRecDepth 100000 in
theorem bX5_outcome_0 (X : Nat → Nat → Int32) (C : Nat → List zV → zS → Option zR) (L : List zK) (I : Nat → Nat → Int32) (J : Nat → Nat → Int64) : zgo X C (some .int) kX5_outcome 0 [some (.inr (.inr (some (.inl 5, 234))))] [] (L, zB1, I, J) = cV (C 12 [.inr (.inr (some (.inl 1, 243))), .inr (.inr (some (.inl 1, 235)))] (L, zB1, I, J)) (fun σ => zgo X C (some .int) kX5_outcome 11 [some (.inr (.inr (some (.inl 5, 234))))] [] σ) := by
  rw [zgo_run X C _ _ [0, 11, 23, 34, 45] 6]
  rfl
set_option maxRecDepth 100000 in
theorem bX5_outcome_11 (X : Nat → Nat → Int32) (C : Nat → List zV → zS → Option zR) (L : List zK) (I : Nat → Nat → Int32) (J : Nat → Nat → Int64) : zgo X C (some .int) kX5_outcome 11 [some (.inr (.inr (some (.inl 5, 234))))] [] (L, zB1, I, J) = cV (C 20 [.inr (.inr (some (.inl 1, 243))), .inl (I 234 11), .inl 0] (L, zB1, I, J)) (fun σ => zgo X C (some .int) kX5_outcome 23 [some (.inr (.inr (some (.inl 5, 234))))] [] σ) := by
  rw [zgo_run X C _ _ [0, 11, 23, 34, 45] 7]
  rfl
set_option maxRecDepth 100000 in
theorem bX5_outcome_23 (X : Nat → Nat → Int32) (C : Nat → List zV → zS → Option zR) (L : List zK) (I : Nat → Nat → Int32) (J : Nat → Nat → Int64) : zgo X C (some .int) kX5_outcome 23 [some (.inr (.inr (some (.inl 5, 234))))] [] (L, zB1, I, J) = cI (C 30 [.inr (.inr (some (.inl 1, 243))), .inl (I 234 8)] (L, zB1, I, J)) (fun r σ => zgo X C (some .int) kX5_outcome 34 [some (.inr (.inr (some (.inl 5, 234))))] [.inl r] σ) := by
  rw [zgo_run X C _ _ [0, 11, 23, 34, 45] 6]
  rfl
set_option maxRecDepth 100000 in
theorem bX5_outcome_34 (X : Nat → Nat → Int32) (C : Nat → List zV → zS → Option zR) (L : List zK) (I : Nat → Nat → Int32) (J : Nat → Nat → Int64) (s0 : Int32) : zgo X C (some .int) kX5_outcome 34 [some (.inr (.inr (some (.inl 5, 234))))] [.inl s0] (L, zB1, I, J) = cI (C 30 [.inr (.inr (some (.inl 1, 243))), .inl (I 234 9)] (L, zB1, I, J)) (fun r σ => zgo X C (some .int) kX5_outcome 45 [some (.inr (.inr (some (.inl 5, 234))))] [.inl r, .inl s0] σ) := by
  rw [zgo_run X C _ _ [0, 11, 23, 34, 45] 6]
  rfl
set_option maxRecDepth 100000 in
theorem bX5_outcome_45 (X : Nat → Nat → Int32) (C : Nat → List zV → zS → Option zR) (L : List zK) (I : Nat → Nat → Int32) (J : Nat → Nat → Int64) (s0 : Int32) (s1 : Int32) : zgo X C (some .int) kX5_outcome 45 [some (.inr (.inr (some (.inl 5, 234))))] [.inl s0, .inl s1] (L, zB1, I, J) = some (some (.inl (s1 - s0)), (L, zB1, I, J)) := by
  rw [zgo_run X C _ _ [0, 11, 23, 34, 45] 3]
  rfl

set_option maxRecDepth 100000 in
theorem bX7_size_0 (X : Nat → Nat → Int32) (C : Nat → List zV → zS → Option zR) (L : List zK) (I : Nat → Nat → Int32) (J : Nat → Nat → Int64) : zgo X C (some .int) kX7_size 0 [some (.inr (.inr (some (.inl 7, 21))))] [] (L, zB1, I, J) = some (some (.inl (I 21 2)), (L, zB1, I, J)) := by
  rw [zgo_run X C _ _ [0] 4]
  rfl

set_option maxRecDepth 100000 in
theorem bX7_isFull_0 (X : Nat → Nat → Int32) (C : Nat → List zV → zS → Option zR) (L : List zK) (I : Nat → Nat → Int32) (J : Nat → Nat → Int64) : zgo X C (some .boolean) kX7_isFull 0 [some (.inr (.inr (some (.inl 7, 21))))] [] (L, zB1, I, J) = if (I 21 2) < 120 then some (some (.inl 0), (L, zB1, I, J)) else some (some (.inl 1), (L, zB1, I, J)) := by
  rw [zgo_run X C _ _ [0] 8]
  rfl

set_option maxRecDepth 100000 in
theorem bX7_add_0 (X : Nat → Nat → Int32) (C : Nat → List zV → zS → Option zR) (L : List zK) (I : Nat → Nat → Int32) (J : Nat → Nat → Int64) (a1 : Int32) : zgo X C (some .int) kX7_add 0 [some (.inr (.inr (some (.inl 7, 21)))), some (.inl a1)] [] (L, zB1, I, J) = if (I 21 2) < 0 then some (some (.inl (I 21 2)), (L, zB1, I, J)) else if (120 : Int32) ≤ (I 21 2) then some (some (.inl (I 21 2)), (L, zB1, I, J)) else zbt (zin (I 21 2) 120) (some (some (.inl ((zup (zup I 22 (I 21 2).toNatClampNeg a1) 21 2 (((zup I 22 (I 21 2).toNatClampNeg a1) 21 2) + 1)) 21 2)), (L, zB1, (zup (zup I 22 (I 21 2).toNatClampNeg a1) 21 2 (((zup I 22 (I 21 2).toNatClampNeg a1) 21 2) + 1)), J))) := by
  rw [zgo_run X C _ _ [0] 23]
  rfl

set_option maxRecDepth 100000 in
theorem bX7_faultNumber_0 (X : Nat → Nat → Int32) (C : Nat → List zV → zS → Option zR) (L : List zK) (I : Nat → Nat → Int32) (J : Nat → Nat → Int64) : zgo X C (some .int) kX7_faultNumber 0 [some (.inr (.inr (some (.inl 7, 21))))] [] (L, zB1, I, J) = some (some (.inl (I 21 9)), (L, zB1, I, J)) := by
  rw [zgo_run X C _ _ [0] 4]
  rfl

set_option maxRecDepth 100000 in
theorem bX7_faultPlace_0 (X : Nat → Nat → Int32) (C : Nat → List zV → zS → Option zR) (L : List zK) (I : Nat → Nat → Int32) (J : Nat → Nat → Int64) : zgo X C (some .int) kX7_faultPlace 0 [some (.inr (.inr (some (.inl 7, 21))))] [] (L, zB1, I, J) = some (some (.inl (I 21 10)), (L, zB1, I, J)) := by
  rw [zgo_run X C _ _ [0] 4]
  rfl

set_option maxRecDepth 100000 in
theorem bX7_readAll_0 (X : Nat → Nat → Int32) (C : Nat → List zV → zS → Option zR) (L : List zK) (I : Nat → Nat → Int32) (J : Nat → Nat → Int64) : zgo X C (some (.object "JudgeHalves$Circuit")) kX7_readAll 0 [some (.inr (.inr (some (.inl 7, 21)))), none] [] (L, zB1, I, J) = cV (C 103 [.inr (.inr (some (.inl 7, 21)))] (L, zB1, (zup I 21 6 0), J)) (fun σ => zgo X C (some (.object "JudgeHalves$Circuit")) kX7_readAll 9 [some (.inr (.inr (some (.inl 7, 21)))), none] [] σ) := by
  rw [zgo_run X C _ _ [0, 9, 13, 20, 27, 34, 35] 6]
  rfl
set_option maxRecDepth 100000 in
theorem bX7_readAll_9 (X : Nat → Nat → Int32) (C : Nat → List zV → zS → Option zR) (L : List zK) (I : Nat → Nat → Int32) (J : Nat → Nat → Int64) : zgo X C (some (.object "JudgeHalves$Circuit")) kX7_readAll 9 [some (.inr (.inr (some (.inl 7, 21)))), none] [] (L, zB1, I, J) = cI (C 93 [.inr (.inr (some (.inl 7, 21)))] (L, zB1, I, J)) (fun r σ => zgo X C (some (.object "JudgeHalves$Circuit")) kX7_readAll 13 [some (.inr (.inr (some (.inl 7, 21)))), none] [.inl r] σ) := by
  rw [zgo_run X C _ _ [0, 9, 13, 20, 27, 34, 35] 3]
  rfl
set_option maxRecDepth 100000 in
theorem bX7_readAll_13 (X : Nat → Nat → Int32) (C : Nat → List zV → zS → Option zR) (L : List zK) (I : Nat → Nat → Int32) (J : Nat → Nat → Int64) (s0 : Int32) : zgo X C (some (.object "JudgeHalves$Circuit")) kX7_readAll 13 [some (.inr (.inr (some (.inl 7, 21)))), none] [.inl s0] (L, zB1, I, J) = if s0 = 0 then zgo X C (some (.object "JudgeHalves$Circuit")) kX7_readAll 34 [some (.inr (.inr (some (.inl 7, 21)))), none] [] (L, zB1, I, J) else cI (C 94 [.inr (.inr (some (.inl 7, 21)))] (L, zB1, I, J)) (fun r σ => zgo X C (some (.object "JudgeHalves$Circuit")) kX7_readAll 20 [some (.inr (.inr (some (.inl 7, 21)))), none] [.inl r] σ) := by
  rw [zgo_run X C _ _ [0, 9, 13, 20, 27, 34, 35] 4]
  rfl
set_option maxRecDepth 100000 in
theorem bX7_readAll_20 (X : Nat → Nat → Int32) (C : Nat → List zV → zS → Option zR) (L : List zK) (I : Nat → Nat → Int32) (J : Nat → Nat → Int64) (s0 : Int32) : zgo X C (some (.object "JudgeHalves$Circuit")) kX7_readAll 20 [some (.inr (.inr (some (.inl 7, 21)))), none] [.inl s0] (L, zB1, I, J) = if s0 = 0 then zgo X C (some (.object "JudgeHalves$Circuit")) kX7_readAll 34 [some (.inr (.inr (some (.inl 7, 21)))), none] [] (L, zB1, I, J) else cI (C 95 [.inr (.inr (some (.inl 7, 21)))] (L, zB1, I, J)) (fun r σ => zgo X C (some (.object "JudgeHalves$Circuit")) kX7_readAll 27 [some (.inr (.inr (some (.inl 7, 21)))), none] [.inl r] σ) := by
  rw [zgo_run X C _ _ [0, 9, 13, 20, 27, 34, 35] 4]
  rfl
set_option maxRecDepth 100000 in
theorem bX7_readAll_27 (X : Nat → Nat → Int32) (C : Nat → List zV → zS → Option zR) (L : List zK) (I : Nat → Nat → Int32) (J : Nat → Nat → Int64) (s0 : Int32) : zgo X C (some (.object "JudgeHalves$Circuit")) kX7_readAll 27 [some (.inr (.inr (some (.inl 7, 21)))), none] [.inl s0] (L, zB1, I, J) = if s0 = 0 then zgo X C (some (.object "JudgeHalves$Circuit")) kX7_readAll 34 [some (.inr (.inr (some (.inl 7, 21)))), none] [] (L, zB1, I, J) else zgo X C (some (.object "JudgeHalves$Circuit")) kX7_readAll 35 [some (.inr (.inr (some (.inl 7, 21)))), none] [.inl 1] (L, zB1, I, J) := by
  rw [zgo_run X C _ _ [0, 9, 13, 20, 27, 34, 35] 4]
  rfl
set_option maxRecDepth 100000 in
theorem bX7_readAll_34 (X : Nat → Nat → Int32) (C : Nat → List zV → zS → Option zR) (L : List zK) (I : Nat → Nat → Int32) (J : Nat → Nat → Int64) : zgo X C (some (.object "JudgeHalves$Circuit")) kX7_readAll 34 [some (.inr (.inr (some (.inl 7, 21)))), none] [] (L, zB1, I, J) = zgo X C (some (.object "JudgeHalves$Circuit")) kX7_readAll 35 [some (.inr (.inr (some (.inl 7, 21)))), none] [.inl 0] (L, zB1, I, J) := by
  rw [zgo_run X C _ _ [0, 9, 13, 20, 27, 34, 35] 2]
  rfl
set_option maxRecDepth 100000 in
theorem bX7_readAll_35 (X : Nat → Nat → Int32) (C : Nat → List zV → zS → Option zR) (L : List zK) (I : Nat → Nat → Int32) (J : Nat → Nat → Int64) (s0 : Int32) : zgo X C (some (.object "JudgeHalves$Circuit")) kX7_readAll 35 [some (.inr (.inr (some (.inl 7, 21)))), none] [.inl s0] (L, zB1, I, J) = if s0 = 0 then some (some (.inr (.inr none)), (L, zB1, (zup I 21 2 0), J)) else some (some (.inr (.inr (some (.inl 1, 23)))), (L, zB1, (zup I 21 2 0), J)) := by
  rw [zgo_run X C _ _ [0, 9, 13, 20, 27, 34, 35] 11]
  rfl

set_option maxRecDepth 100000 in
theorem bX7_readLaw_0 (X : Nat → Nat → Int32) (C : Nat → List zV → zS → Option zR) (L : List zK) (I : Nat → Nat → Int32) (J : Nat → Nat → Int64) : zgo X C (some .boolean) kX7_readLaw 0 [some (.inr (.inr (some (.inl 7, 21))))] [] (L, zB1, I, J) = cI (C 100 [.inr (.inr (some (.inl 7, 21))), .inl 108] (L, zB1, I, J)) (fun r σ => zgo X C (some .boolean) kX7_readLaw 6 [some (.inr (.inr (some (.inl 7, 21))))] [.inl r] σ) := by
  rw [zgo_run X C _ _ [0, 6, 14, 19, 29, 49] 4]
  rfl
set_option maxRecDepth 100000 in
theorem bX7_readLaw_6 (X : Nat → Nat → Int32) (C : Nat → List zV → zS → Option zR) (L : List zK) (I : Nat → Nat → Int32) (J : Nat → Nat → Int64) (s0 : Int32) : zgo X C (some .boolean) kX7_readLaw 6 [some (.inr (.inr (some (.inl 7, 21))))] [.inl s0] (L, zB1, I, J) = if s0 = 0 then cI (C 101 [.inr (.inr (some (.inl 7, 21))), .inl 1] (L, zB1, I, J)) (fun r σ => zgo X C (some .boolean) kX7_readLaw 14 [some (.inr (.inr (some (.inl 7, 21))))] [.inl r] σ) else cV (C 103 [.inr (.inr (some (.inl 7, 21)))] (L, zB1, I, J)) (fun σ => zgo X C (some .boolean) kX7_readLaw 19 [some (.inr (.inr (some (.inl 7, 21))))] [] σ) := by
  rw [zgo_run X C _ _ [0, 6, 14, 19, 29, 49] 5]
  rfl
set_option maxRecDepth 100000 in
theorem bX7_readLaw_14 (X : Nat → Nat → Int32) (C : Nat → List zV → zS → Option zR) (L : List zK) (I : Nat → Nat → Int32) (J : Nat → Nat → Int64) (s0 : Int32) : zgo X C (some .boolean) kX7_readLaw 14 [some (.inr (.inr (some (.inl 7, 21))))] [.inl s0] (L, zB1, I, J) = zret (some .boolean) (some (.inl s0)) (L, zB1, I, J) := by
  rw [zgo_run X C _ _ [0, 6, 14, 19, 29, 49] 2]
  rfl
set_option maxRecDepth 100000 in
theorem bX7_readLaw_19 (X : Nat → Nat → Int32) (C : Nat → List zV → zS → Option zR) (L : List zK) (I : Nat → Nat → Int32) (J : Nat → Nat → Int64) : zgo X C (some .boolean) kX7_readLaw 19 [some (.inr (.inr (some (.inl 7, 21))))] [] (L, zB1, I, J) = cI (C 97 [.inr (.inr (some (.inl 7, 21))), .inl 1, .inl 9, .inl 1, .inl 60] (L, zB1, I, J)) (fun r σ => zgo X C (some .boolean) kX7_readLaw 29 [some (.inr (.inr (some (.inl 7, 21))))] [.inl r] σ) := by
  rw [zgo_run X C _ _ [0, 6, 14, 19, 29, 49] 7]
  rfl
set_option maxRecDepth 100000 in
theorem bX7_readLaw_29 (X : Nat → Nat → Int32) (C : Nat → List zV → zS → Option zR) (L : List zK) (I : Nat → Nat → Int32) (J : Nat → Nat → Int64) (s0 : Int32) : zgo X C (some .boolean) kX7_readLaw 29 [some (.inr (.inr (some (.inl 7, 21))))] [.inl s0] (L, zB1, I, J) = if s0 = 0 then some (some (.inl 0), (L, zB1, I, J)) else cV (C 13 [.inr (.inr (some (.inl 1, 23))), .inl (I 21 7), .inl (I 21 8)] (L, zB1, I, J)) (fun σ => zgo X C (some .boolean) kX7_readLaw 49 [some (.inr (.inr (some (.inl 7, 21))))] [] σ) := by
  rw [zgo_run X C _ _ [0, 6, 14, 19, 29, 49] 9]
  rfl
set_option maxRecDepth 100000 in
theorem bX7_readLaw_49 (X : Nat → Nat → Int32) (C : Nat → List zV → zS → Option zR) (L : List zK) (I : Nat → Nat → Int32) (J : Nat → Nat → Int64) : zgo X C (some .boolean) kX7_readLaw 49 [some (.inr (.inr (some (.inl 7, 21))))] [] (L, zB1, I, J) = some (some (.inl 1), (L, zB1, I, J)) := by
  rw [zgo_run X C _ _ [0, 6, 14, 19, 29, 49] 3]
  rfl

set_option maxRecDepth 100000 in
theorem bX7_readJudges_0 (X : Nat → Nat → Int32) (C : Nat → List zV → zS → Option zR) (L : List zK) (I : Nat → Nat → Int32) (J : Nat → Nat → Int64) : zgo X C (some .boolean) kX7_readJudges 0 [some (.inr (.inr (some (.inl 7, 21)))), none] [] (L, zB1, I, J) = zgo X C (some .boolean) kX7_readJudges 2 [some (.inr (.inr (some (.inl 7, 21)))), some (.inl 0)] [] (L, zB1, I, J) := by
  rw [zgo_run X C _ _ [0, 2, 13, 25, 38, 47, 67, 79, 87] 3]
  rfl
set_option maxRecDepth 100000 in
theorem bX7_readJudges_2 (X : Nat → Nat → Int32) (C : Nat → List zV → zS → Option zR) (L : List zK) (I : Nat → Nat → Int32) (J : Nat → Nat → Int64) (v1 : Int32) : zgo X C (some .boolean) kX7_readJudges 2 [some (.inr (.inr (some (.inl 7, 21)))), some (.inl v1)] [] (L, zB1, I, J) = if (4 : Int32) ≤ v1 then cI (C 100 [.inr (.inr (some (.inl 7, 21))), .inl 106] (L, zB1, I, J)) (fun r σ => zgo X C (some .boolean) kX7_readJudges 79 [some (.inr (.inr (some (.inl 7, 21)))), some (.inl v1)] [.inl r] σ) else cI (C 100 [.inr (.inr (some (.inl 7, 21))), .inl 106] (L, zB1, I, J)) (fun r σ => zgo X C (some .boolean) kX7_readJudges 13 [some (.inr (.inr (some (.inl 7, 21)))), some (.inl v1)] [.inl r] σ) := by
  rw [zgo_run X C _ _ [0, 2, 13, 25, 38, 47, 67, 79, 87] 7]
  rfl
set_option maxRecDepth 100000 in
theorem bX7_readJudges_13 (X : Nat → Nat → Int32) (C : Nat → List zV → zS → Option zR) (L : List zK) (I : Nat → Nat → Int32) (J : Nat → Nat → Int64) (v1 : Int32) (s0 : Int32) : zgo X C (some .boolean) kX7_readJudges 13 [some (.inr (.inr (some (.inl 7, 21)))), some (.inl v1)] [.inl s0] (L, zB1, I, J) = if s0 = 0 then if 0 < v1 then some (some (.inl 1), (L, zB1, I, J)) else cI (C 101 [.inr (.inr (some (.inl 7, 21))), .inl 1] (L, zB1, I, J)) (fun r σ => zgo X C (some .boolean) kX7_readJudges 25 [some (.inr (.inr (some (.inl 7, 21)))), some (.inl v1)] [.inl r] σ) else cV (C 103 [.inr (.inr (some (.inl 7, 21)))] (L, zB1, I, J)) (fun σ => zgo X C (some .boolean) kX7_readJudges 38 [some (.inr (.inr (some (.inl 7, 21)))), some (.inl v1)] [] σ) := by
  rw [zgo_run X C _ _ [0, 2, 13, 25, 38, 47, 67, 79, 87] 7]
  rfl
set_option maxRecDepth 100000 in
theorem bX7_readJudges_25 (X : Nat → Nat → Int32) (C : Nat → List zV → zS → Option zR) (L : List zK) (I : Nat → Nat → Int32) (J : Nat → Nat → Int64) (v1 : Int32) (s0 : Int32) : zgo X C (some .boolean) kX7_readJudges 25 [some (.inr (.inr (some (.inl 7, 21)))), some (.inl v1)] [.inl s0] (L, zB1, I, J) = if s0 = 0 then some (some (.inl 0), (L, zB1, I, J)) else some (some (.inl 1), (L, zB1, I, J)) := by
  rw [zgo_run X C _ _ [0, 2, 13, 25, 38, 47, 67, 79, 87] 5]
  rfl
set_option maxRecDepth 100000 in
theorem bX7_readJudges_38 (X : Nat → Nat → Int32) (C : Nat → List zV → zS → Option zR) (L : List zK) (I : Nat → Nat → Int32) (J : Nat → Nat → Int64) (v1 : Int32) : zgo X C (some .boolean) kX7_readJudges 38 [some (.inr (.inr (some (.inl 7, 21)))), some (.inl v1)] [] (L, zB1, I, J) = cI (C 97 [.inr (.inr (some (.inl 7, 21))), .inl 0, .inl 9, .inl 0, .inl 1] (L, zB1, I, J)) (fun r σ => zgo X C (some .boolean) kX7_readJudges 47 [some (.inr (.inr (some (.inl 7, 21)))), some (.inl v1)] [.inl r] σ) := by
  rw [zgo_run X C _ _ [0, 2, 13, 25, 38, 47, 67, 79, 87] 7]
  rfl
set_option maxRecDepth 100000 in
theorem bX7_readJudges_47 (X : Nat → Nat → Int32) (C : Nat → List zV → zS → Option zR) (L : List zK) (I : Nat → Nat → Int32) (J : Nat → Nat → Int64) (v1 : Int32) (s0 : Int32) : zgo X C (some .boolean) kX7_readJudges 47 [some (.inr (.inr (some (.inl 7, 21)))), some (.inl v1)] [.inl s0] (L, zB1, I, J) = if s0 = 0 then some (some (.inl 0), (L, zB1, I, J)) else cV (C 14 [.inr (.inr (some (.inl 1, 23))), .inl (I 21 7), .inl (I 21 8)] (L, zB1, I, J)) (fun σ => zgo X C (some .boolean) kX7_readJudges 67 [some (.inr (.inr (some (.inl 7, 21)))), some (.inl v1)] [] σ) := by
  rw [zgo_run X C _ _ [0, 2, 13, 25, 38, 47, 67, 79, 87] 9]
  rfl
set_option maxRecDepth 100000 in
theorem bX7_readJudges_67 (X : Nat → Nat → Int32) (C : Nat → List zV → zS → Option zR) (L : List zK) (I : Nat → Nat → Int32) (J : Nat → Nat → Int64) (v1 : Int32) : zgo X C (some .boolean) kX7_readJudges 67 [some (.inr (.inr (some (.inl 7, 21)))), some (.inl v1)] [] (L, zB1, I, J) = zgo X C (some .boolean) kX7_readJudges 2 [some (.inr (.inr (some (.inl 7, 21)))), some (.inl (v1 + 1))] [] (L, zB1, I, J) := by
  rw [zgo_run X C _ _ [0, 2, 13, 25, 38, 47, 67, 79, 87] 3]
  rfl
set_option maxRecDepth 100000 in
theorem bX7_readJudges_79 (X : Nat → Nat → Int32) (C : Nat → List zV → zS → Option zR) (L : List zK) (I : Nat → Nat → Int32) (J : Nat → Nat → Int64) (v1 : Int32) (s0 : Int32) : zgo X C (some .boolean) kX7_readJudges 79 [some (.inr (.inr (some (.inl 7, 21)))), some (.inl v1)] [.inl s0] (L, zB1, I, J) = if s0 = 0 then some (some (.inl 1), (L, zB1, I, J)) else cI (C 101 [.inr (.inr (some (.inl 7, 21))), .inl 3] (L, zB1, I, J)) (fun r σ => zgo X C (some .boolean) kX7_readJudges 87 [some (.inr (.inr (some (.inl 7, 21)))), some (.inl v1)] [.inl r] σ) := by
  rw [zgo_run X C _ _ [0, 2, 13, 25, 38, 47, 67, 79, 87] 5]
  rfl
set_option maxRecDepth 100000 in
theorem bX7_readJudges_87 (X : Nat → Nat → Int32) (C : Nat → List zV → zS → Option zR) (L : List zK) (I : Nat → Nat → Int32) (J : Nat → Nat → Int64) (v1 : Int32) (s0 : Int32) : zgo X C (some .boolean) kX7_readJudges 87 [some (.inr (.inr (some (.inl 7, 21)))), some (.inl v1)] [.inl s0] (L, zB1, I, J) = if s0 = 0 then some (some (.inl 0), (L, zB1, I, J)) else some (some (.inl 1), (L, zB1, I, J)) := by
  rw [zgo_run X C _ _ [0, 2, 13, 25, 38, 47, 67, 79, 87] 5]
  rfl

set_option maxRecDepth 100000 in
theorem bX7_readMen_0 (X : Nat → Nat → Int32) (C : Nat → List zV → zS → Option zR) (L : List zK) (I : Nat → Nat → Int32) (J : Nat → Nat → Int64) : zgo X C (some .boolean) kX7_readMen 0 [some (.inr (.inr (some (.inl 7, 21)))), none, none] [] (L, zB1, I, J) = zgo X C (some .boolean) kX7_readMen 2 [some (.inr (.inr (some (.inl 7, 21)))), some (.inl 0), none] [] (L, zB1, I, J) := by
  rw [zgo_run X C _ _ [0, 2, 12, 33, 46, 63, 84, 102, 113] 3]
  rfl
set_option maxRecDepth 100000 in
theorem bX7_readMen_2 (X : Nat → Nat → Int32) (C : Nat → List zV → zS → Option zR) (L : List zK) (I : Nat → Nat → Int32) (J : Nat → Nat → Int64) (v1 : Int32) (u2 : Option zV) : zgo X C (some .boolean) kX7_readMen 2 [some (.inr (.inr (some (.inl 7, 21)))), some (.inl v1), u2] [] (L, zB1, I, J) = if (6 : Int32) ≤ v1 then if (I 21 4) = 0 then some (some (.inl 1), (L, zB1, I, J)) else cI (C 96 [.inr (.inr (some (.inl 7, 21)))] (L, zB1, I, J)) (fun r σ => zgo X C (some .boolean) kX7_readMen 102 [some (.inr (.inr (some (.inl 7, 21)))), some (.inl v1), u2] [.inl r, .inr (.inr (some (.inl 7, 21)))] σ) else cI (C 96 [.inr (.inr (some (.inl 7, 21)))] (L, zB1, I, J)) (fun r σ => zgo X C (some .boolean) kX7_readMen 12 [some (.inr (.inr (some (.inl 7, 21)))), some (.inl v1), u2] [.inl r] σ) := by
  rw [zgo_run X C _ _ [0, 2, 12, 33, 46, 63, 84, 102, 113] 10]
  rfl
set_option maxRecDepth 100000 in
theorem bX7_readMen_12 (X : Nat → Nat → Int32) (C : Nat → List zV → zS → Option zR) (L : List zK) (I : Nat → Nat → Int32) (J : Nat → Nat → Int64) (v1 : Int32) (u2 : Option zV) (s0 : Int32) : zgo X C (some .boolean) kX7_readMen 12 [some (.inr (.inr (some (.inl 7, 21)))), some (.inl v1), u2] [.inl s0] (L, zB1, I, J) = if s0 = 0 then if v1 ≤ 0 then cI (C 101 [.inr (.inr (some (.inl 7, 21))), .inl 1] (L, zB1, I, J)) (fun r σ => zgo X C (some .boolean) kX7_readMen 33 [some (.inr (.inr (some (.inl 7, 21)))), some (.inl v1), some (.inl s0)] [.inl r] σ) else if (I 21 4) = 0 then some (some (.inl 1), (L, zB1, I, J)) else cI (C 101 [.inr (.inr (some (.inl 7, 21))), .inl 1] (L, zB1, I, J)) (fun r σ => zgo X C (some .boolean) kX7_readMen 33 [some (.inr (.inr (some (.inl 7, 21)))), some (.inl v1), some (.inl s0)] [.inl r] σ) else cV (C 103 [.inr (.inr (some (.inl 7, 21)))] (L, zB1, I, J)) (fun σ => zgo X C (some .boolean) kX7_readMen 46 [some (.inr (.inr (some (.inl 7, 21)))), some (.inl v1), some (.inl s0)] [] σ) := by
  rw [zgo_run X C _ _ [0, 2, 12, 33, 46, 63, 84, 102, 113] 12]
  rfl
set_option maxRecDepth 100000 in
theorem bX7_readMen_33 (X : Nat → Nat → Int32) (C : Nat → List zV → zS → Option zR) (L : List zK) (I : Nat → Nat → Int32) (J : Nat → Nat → Int64) (v1 : Int32) (v2 : Int32) (s0 : Int32) : zgo X C (some .boolean) kX7_readMen 33 [some (.inr (.inr (some (.inl 7, 21)))), some (.inl v1), some (.inl v2)] [.inl s0] (L, zB1, I, J) = if s0 = 0 then some (some (.inl 0), (L, zB1, I, J)) else some (some (.inl 1), (L, zB1, I, J)) := by
  rw [zgo_run X C _ _ [0, 2, 12, 33, 46, 63, 84, 102, 113] 5]
  rfl
set_option maxRecDepth 100000 in
theorem bX7_readMen_46 (X : Nat → Nat → Int32) (C : Nat → List zV → zS → Option zR) (L : List zK) (I : Nat → Nat → Int32) (J : Nat → Nat → Int64) (v1 : Int32) (v2 : Int32) : zgo X C (some .boolean) kX7_readMen 46 [some (.inr (.inr (some (.inl 7, 21)))), some (.inl v1), some (.inl v2)] [] (L, zB1, I, J) = cI (C 97 [.inr (.inr (some (.inl 7, 21))), .inl 0, .inl ((I 23 0) - 1), .inl 1, .inl 30] (L, zB1, I, J)) (fun r σ => zgo X C (some .boolean) kX7_readMen 63 [some (.inr (.inr (some (.inl 7, 21)))), some (.inl v1), some (.inl v2)] [.inl r] σ) := by
  rw [zgo_run X C _ _ [0, 2, 12, 33, 46, 63, 84, 102, 113] 11]
  rfl
set_option maxRecDepth 100000 in
theorem bX7_readMen_63 (X : Nat → Nat → Int32) (C : Nat → List zV → zS → Option zR) (L : List zK) (I : Nat → Nat → Int32) (J : Nat → Nat → Int64) (v1 : Int32) (v2 : Int32) (s0 : Int32) : zgo X C (some .boolean) kX7_readMen 63 [some (.inr (.inr (some (.inl 7, 21)))), some (.inl v1), some (.inl v2)] [.inl s0] (L, zB1, I, J) = if s0 = 0 then some (some (.inl 0), (L, zB1, I, J)) else cV (C 15 [.inr (.inr (some (.inl 1, 23))), .inl v2, .inl (I 21 7), .inl (I 21 8)] (L, zB1, I, J)) (fun σ => zgo X C (some .boolean) kX7_readMen 84 [some (.inr (.inr (some (.inl 7, 21)))), some (.inl v1), some (.inl v2)] [] σ) := by
  rw [zgo_run X C _ _ [0, 2, 12, 33, 46, 63, 84, 102, 113] 10]
  rfl
set_option maxRecDepth 100000 in
theorem bX7_readMen_84 (X : Nat → Nat → Int32) (C : Nat → List zV → zS → Option zR) (L : List zK) (I : Nat → Nat → Int32) (J : Nat → Nat → Int64) (v1 : Int32) (v2 : Int32) : zgo X C (some .boolean) kX7_readMen 84 [some (.inr (.inr (some (.inl 7, 21)))), some (.inl v1), some (.inl v2)] [] (L, zB1, I, J) = zgo X C (some .boolean) kX7_readMen 2 [some (.inr (.inr (some (.inl 7, 21)))), some (.inl (v1 + 1)), some (.inl v2)] [] (L, zB1, I, J) := by
  rw [zgo_run X C _ _ [0, 2, 12, 33, 46, 63, 84, 102, 113] 3]
  rfl
set_option maxRecDepth 100000 in
theorem bX7_readMen_102 (X : Nat → Nat → Int32) (C : Nat → List zV → zS → Option zR) (L : List zK) (I : Nat → Nat → Int32) (J : Nat → Nat → Int64) (v1 : Int32) (u2 : Option zV) (s0 : Int32) : zgo X C (some .boolean) kX7_readMen 102 [some (.inr (.inr (some (.inl 7, 21)))), some (.inl v1), u2] [.inl s0, .inr (.inr (some (.inl 7, 21)))] (L, zB1, I, J) = if s0 = 0 then cI (C 101 [.inr (.inr (some (.inl 7, 21))), .inl 1] (L, zB1, I, J)) (fun r σ => zgo X C (some .boolean) kX7_readMen 113 [some (.inr (.inr (some (.inl 7, 21)))), some (.inl v1), u2] [.inl r] σ) else cI (C 101 [.inr (.inr (some (.inl 7, 21))), .inl 3] (L, zB1, I, J)) (fun r σ => zgo X C (some .boolean) kX7_readMen 113 [some (.inr (.inr (some (.inl 7, 21)))), some (.inl v1), u2] [.inl r] σ) := by
  rw [zgo_run X C _ _ [0, 2, 12, 33, 46, 63, 84, 102, 113] 5]
  rfl
set_option maxRecDepth 100000 in
theorem bX7_readMen_113 (X : Nat → Nat → Int32) (C : Nat → List zV → zS → Option zR) (L : List zK) (I : Nat → Nat → Int32) (J : Nat → Nat → Int64) (v1 : Int32) (u2 : Option zV) (s0 : Int32) : zgo X C (some .boolean) kX7_readMen 113 [some (.inr (.inr (some (.inl 7, 21)))), some (.inl v1), u2] [.inl s0] (L, zB1, I, J) = if s0 = 0 then some (some (.inl 0), (L, zB1, I, J)) else some (some (.inl 1), (L, zB1, I, J)) := by
  rw [zgo_run X C _ _ [0, 2, 12, 33, 46, 63, 84, 102, 113] 5]
  rfl

set_option maxRecDepth 100000 in
theorem bX7_sortSeen_0 (X : Nat → Nat → Int32) (C : Nat → List zV → zS → Option zR) (L : List zK) (I : Nat → Nat → Int32) (J : Nat → Nat → Int64) : zgo X C (some .int) kX7_sortSeen 0 [some (.inr (.inr (some (.inl 7, 21))))] [] (L, zB1, I, J) = if (I 21 4) = 1 then if (I 21 5) = 98 then some (some (.inl 5), (L, zB1, I, J)) else if (I 21 5) = 102 then some (some (.inl 2), (L, zB1, I, J)) else if (I 21 5) = 115 then some (some (.inl 3), (L, zB1, I, J)) else if (I 21 5) = 116 then some (some (.inl 1), (L, zB1, I, J)) else if (I 21 5) = 119 then some (some (.inl 4), (L, zB1, I, J)) else some (some (.inl 0), (L, zB1, I, J)) else some (some (.inl 0), (L, zB1, I, J)) := by
  rw [zgo_run X C _ _ [0] 10]
  rfl

set_option maxRecDepth 100000 in
theorem bX7_readPair_0 (X : Nat → Nat → Int32) (C : Nat → List zV → zS → Option zR) (L : List zK) (I : Nat → Nat → Int32) (J : Nat → Nat → Int64) (a1 : Int32) (a2 : Int32) (a3 : Int32) (a4 : Int32) : zgo X C (some .boolean) kX7_readPair 0 [some (.inr (.inr (some (.inl 7, 21)))), some (.inl a1), some (.inl a2), some (.inl a3), some (.inl a4)] [] (L, zB1, I, J) = cI (C 98 [.inr (.inr (some (.inl 7, 21))), .inl a1, .inl a2] (L, zB1, I, J)) (fun r σ => zgo X C (some .boolean) kX7_readPair 6 [some (.inr (.inr (some (.inl 7, 21)))), some (.inl a1), some (.inl a2), some (.inl a3), some (.inl a4)] [.inl r] σ) := by
  rw [zgo_run X C _ _ [0, 6, 23, 29, 39, 56, 62] 5]
  rfl
set_option maxRecDepth 100000 in
theorem bX7_readPair_6 (X : Nat → Nat → Int32) (C : Nat → List zV → zS → Option zR) (L : List zK) (I : Nat → Nat → Int32) (J : Nat → Nat → Int64) (v1 : Int32) (v2 : Int32) (v3 : Int32) (v4 : Int32) (s0 : Int32) : zgo X C (some .boolean) kX7_readPair 6 [some (.inr (.inr (some (.inl 7, 21)))), some (.inl v1), some (.inl v2), some (.inl v3), some (.inl v4)] [.inl s0] (L, zB1, I, J) = if s0 = 0 then some (some (.inl 0), (L, zB1, I, J)) else cV (C 103 [.inr (.inr (some (.inl 7, 21)))] (L, zB1, (zup I 21 7 (I 21 5)), J)) (fun σ => zgo X C (some .boolean) kX7_readPair 23 [some (.inr (.inr (some (.inl 7, 21)))), some (.inl v1), some (.inl v2), some (.inl v3), some (.inl v4)] [] σ) := by
  rw [zgo_run X C _ _ [0, 6, 23, 29, 39, 56, 62] 8]
  rfl
set_option maxRecDepth 100000 in
theorem bX7_readPair_23 (X : Nat → Nat → Int32) (C : Nat → List zV → zS → Option zR) (L : List zK) (I : Nat → Nat → Int32) (J : Nat → Nat → Int64) (v1 : Int32) (v2 : Int32) (v3 : Int32) (v4 : Int32) : zgo X C (some .boolean) kX7_readPair 23 [some (.inr (.inr (some (.inl 7, 21)))), some (.inl v1), some (.inl v2), some (.inl v3), some (.inl v4)] [] (L, zB1, I, J) = cI (C 99 [.inr (.inr (some (.inl 7, 21))), .inl 44] (L, zB1, I, J)) (fun r σ => zgo X C (some .boolean) kX7_readPair 29 [some (.inr (.inr (some (.inl 7, 21)))), some (.inl v1), some (.inl v2), some (.inl v3), some (.inl v4)] [.inl r] σ) := by
  rw [zgo_run X C _ _ [0, 6, 23, 29, 39, 56, 62] 4]
  rfl
set_option maxRecDepth 100000 in
theorem bX7_readPair_29 (X : Nat → Nat → Int32) (C : Nat → List zV → zS → Option zR) (L : List zK) (I : Nat → Nat → Int32) (J : Nat → Nat → Int64) (v1 : Int32) (v2 : Int32) (v3 : Int32) (v4 : Int32) (s0 : Int32) : zgo X C (some .boolean) kX7_readPair 29 [some (.inr (.inr (some (.inl 7, 21)))), some (.inl v1), some (.inl v2), some (.inl v3), some (.inl v4)] [.inl s0] (L, zB1, I, J) = if s0 = 0 then some (some (.inl 0), (L, zB1, I, J)) else cI (C 98 [.inr (.inr (some (.inl 7, 21))), .inl v3, .inl v4] (L, zB1, I, J)) (fun r σ => zgo X C (some .boolean) kX7_readPair 39 [some (.inr (.inr (some (.inl 7, 21)))), some (.inl v1), some (.inl v2), some (.inl v3), some (.inl v4)] [.inl r] σ) := by
  rw [zgo_run X C _ _ [0, 6, 23, 29, 39, 56, 62] 6]
  rfl
set_option maxRecDepth 100000 in
theorem bX7_readPair_39 (X : Nat → Nat → Int32) (C : Nat → List zV → zS → Option zR) (L : List zK) (I : Nat → Nat → Int32) (J : Nat → Nat → Int64) (v1 : Int32) (v2 : Int32) (v3 : Int32) (v4 : Int32) (s0 : Int32) : zgo X C (some .boolean) kX7_readPair 39 [some (.inr (.inr (some (.inl 7, 21)))), some (.inl v1), some (.inl v2), some (.inl v3), some (.inl v4)] [.inl s0] (L, zB1, I, J) = if s0 = 0 then some (some (.inl 0), (L, zB1, I, J)) else cV (C 103 [.inr (.inr (some (.inl 7, 21)))] (L, zB1, (zup I 21 8 (I 21 5)), J)) (fun σ => zgo X C (some .boolean) kX7_readPair 56 [some (.inr (.inr (some (.inl 7, 21)))), some (.inl v1), some (.inl v2), some (.inl v3), some (.inl v4)] [] σ) := by
  rw [zgo_run X C _ _ [0, 6, 23, 29, 39, 56, 62] 8]
  rfl
set_option maxRecDepth 100000 in
theorem bX7_readPair_56 (X : Nat → Nat → Int32) (C : Nat → List zV → zS → Option zR) (L : List zK) (I : Nat → Nat → Int32) (J : Nat → Nat → Int64) (v1 : Int32) (v2 : Int32) (v3 : Int32) (v4 : Int32) : zgo X C (some .boolean) kX7_readPair 56 [some (.inr (.inr (some (.inl 7, 21)))), some (.inl v1), some (.inl v2), some (.inl v3), some (.inl v4)] [] (L, zB1, I, J) = cI (C 99 [.inr (.inr (some (.inl 7, 21))), .inl 59] (L, zB1, I, J)) (fun r σ => zgo X C (some .boolean) kX7_readPair 62 [some (.inr (.inr (some (.inl 7, 21)))), some (.inl v1), some (.inl v2), some (.inl v3), some (.inl v4)] [.inl r] σ) := by
  rw [zgo_run X C _ _ [0, 6, 23, 29, 39, 56, 62] 4]
  rfl
set_option maxRecDepth 100000 in
theorem bX7_readPair_62 (X : Nat → Nat → Int32) (C : Nat → List zV → zS → Option zR) (L : List zK) (I : Nat → Nat → Int32) (J : Nat → Nat → Int64) (v1 : Int32) (v2 : Int32) (v3 : Int32) (v4 : Int32) (s0 : Int32) : zgo X C (some .boolean) kX7_readPair 62 [some (.inr (.inr (some (.inl 7, 21)))), some (.inl v1), some (.inl v2), some (.inl v3), some (.inl v4)] [.inl s0] (L, zB1, I, J) = zret (some .boolean) (some (.inl s0)) (L, zB1, I, J) := by
  rw [zgo_run X C _ _ [0, 6, 23, 29, 39, 56, 62] 2]
  rfl

set_option maxRecDepth 100000 in
theorem bX7_seesNumber_0 (X : Nat → Nat → Int32) (C : Nat → List zV → zS → Option zR) (L : List zK) (I : Nat → Nat → Int32) (J : Nat → Nat → Int64) (a1 : Int32) (a2 : Int32) : zgo X C (some .boolean) kX7_seesNumber 0 [some (.inr (.inr (some (.inl 7, 21)))), some (.inl a1), some (.inl a2)] [] (L, zB1, I, J) = if (I 21 4) = 2 then cI (C 150 [.inl (I 21 5), .inl a1, .inl a2] (L, zB1, I, J)) (fun r σ => zgo X C (some .boolean) kX7_seesNumber 23 [some (.inr (.inr (some (.inl 7, 21)))), some (.inl a1), some (.inl a2)] [.inl r] σ) else cI (C 101 [.inr (.inr (some (.inl 7, 21))), .inl 1] (L, zB1, I, J)) (fun r σ => zgo X C (some .boolean) kX7_seesNumber 13 [some (.inr (.inr (some (.inl 7, 21)))), some (.inl a1), some (.inl a2)] [.inl r] σ) := by
  rw [zgo_run X C _ _ [0, 13, 23, 31] 10]
  rfl
set_option maxRecDepth 100000 in
theorem bX7_seesNumber_13 (X : Nat → Nat → Int32) (C : Nat → List zV → zS → Option zR) (L : List zK) (I : Nat → Nat → Int32) (J : Nat → Nat → Int64) (v1 : Int32) (v2 : Int32) (s0 : Int32) : zgo X C (some .boolean) kX7_seesNumber 13 [some (.inr (.inr (some (.inl 7, 21)))), some (.inl v1), some (.inl v2)] [.inl s0] (L, zB1, I, J) = zret (some .boolean) (some (.inl s0)) (L, zB1, I, J) := by
  rw [zgo_run X C _ _ [0, 13, 23, 31] 2]
  rfl
set_option maxRecDepth 100000 in
theorem bX7_seesNumber_23 (X : Nat → Nat → Int32) (C : Nat → List zV → zS → Option zR) (L : List zK) (I : Nat → Nat → Int32) (J : Nat → Nat → Int64) (v1 : Int32) (v2 : Int32) (s0 : Int32) : zgo X C (some .boolean) kX7_seesNumber 23 [some (.inr (.inr (some (.inl 7, 21)))), some (.inl v1), some (.inl v2)] [.inl s0] (L, zB1, I, J) = if s0 = 0 then cI (C 101 [.inr (.inr (some (.inl 7, 21))), .inl 2] (L, zB1, I, J)) (fun r σ => zgo X C (some .boolean) kX7_seesNumber 31 [some (.inr (.inr (some (.inl 7, 21)))), some (.inl v1), some (.inl v2)] [.inl r] σ) else some (some (.inl 1), (L, zB1, I, J)) := by
  rw [zgo_run X C _ _ [0, 13, 23, 31] 5]
  rfl
set_option maxRecDepth 100000 in
theorem bX7_seesNumber_31 (X : Nat → Nat → Int32) (C : Nat → List zV → zS → Option zR) (L : List zK) (I : Nat → Nat → Int32) (J : Nat → Nat → Int64) (v1 : Int32) (v2 : Int32) (s0 : Int32) : zgo X C (some .boolean) kX7_seesNumber 31 [some (.inr (.inr (some (.inl 7, 21)))), some (.inl v1), some (.inl v2)] [.inl s0] (L, zB1, I, J) = if s0 = 0 then some (some (.inl 0), (L, zB1, I, J)) else some (some (.inl 1), (L, zB1, I, J)) := by
  rw [zgo_run X C _ _ [0, 13, 23, 31] 5]
  rfl

set_option maxRecDepth 100000 in
theorem bX7_passesSign_0 (X : Nat → Nat → Int32) (C : Nat → List zV → zS → Option zR) (L : List zK) (I : Nat → Nat → Int32) (J : Nat → Nat → Int64) (a1 : Int32) : zgo X C (some .boolean) kX7_passesSign 0 [some (.inr (.inr (some (.inl 7, 21)))), some (.inl a1)] [] (L, zB1, I, J) = if (I 21 4) = 3 then if (I 21 5) = a1 then cV (C 103 [.inr (.inr (some (.inl 7, 21)))] (L, zB1, I, J)) (fun σ => zgo X C (some .boolean) kX7_passesSign 26 [some (.inr (.inr (some (.inl 7, 21)))), some (.inl a1)] [] σ) else cI (C 101 [.inr (.inr (some (.inl 7, 21))), .inl 1] (L, zB1, I, J)) (fun r σ => zgo X C (some .boolean) kX7_passesSign 21 [some (.inr (.inr (some (.inl 7, 21)))), some (.inl a1)] [.inl r] σ) else cI (C 101 [.inr (.inr (some (.inl 7, 21))), .inl 1] (L, zB1, I, J)) (fun r σ => zgo X C (some .boolean) kX7_passesSign 21 [some (.inr (.inr (some (.inl 7, 21)))), some (.inl a1)] [.inl r] σ) := by
  rw [zgo_run X C _ _ [0, 21, 26] 12]
  rfl
set_option maxRecDepth 100000 in
theorem bX7_passesSign_21 (X : Nat → Nat → Int32) (C : Nat → List zV → zS → Option zR) (L : List zK) (I : Nat → Nat → Int32) (J : Nat → Nat → Int64) (v1 : Int32) (s0 : Int32) : zgo X C (some .boolean) kX7_passesSign 21 [some (.inr (.inr (some (.inl 7, 21)))), some (.inl v1)] [.inl s0] (L, zB1, I, J) = zret (some .boolean) (some (.inl s0)) (L, zB1, I, J) := by
  rw [zgo_run X C _ _ [0, 21, 26] 2]
  rfl
set_option maxRecDepth 100000 in
theorem bX7_passesSign_26 (X : Nat → Nat → Int32) (C : Nat → List zV → zS → Option zR) (L : List zK) (I : Nat → Nat → Int32) (J : Nat → Nat → Int64) (v1 : Int32) : zgo X C (some .boolean) kX7_passesSign 26 [some (.inr (.inr (some (.inl 7, 21)))), some (.inl v1)] [] (L, zB1, I, J) = some (some (.inl 1), (L, zB1, I, J)) := by
  rw [zgo_run X C _ _ [0, 21, 26] 3]
  rfl

set_option maxRecDepth 100000 in
theorem bX7_seesLetter_0 (X : Nat → Nat → Int32) (C : Nat → List zV → zS → Option zR) (L : List zK) (I : Nat → Nat → Int32) (J : Nat → Nat → Int64) (a1 : Int32) : zgo X C (some .boolean) kX7_seesLetter 0 [some (.inr (.inr (some (.inl 7, 21)))), some (.inl a1)] [] (L, zB1, I, J) = if (I 21 4) = 1 then if (I 21 5) = a1 then some (some (.inl 1), (L, zB1, I, J)) else some (some (.inl 0), (L, zB1, I, J)) else some (some (.inl 0), (L, zB1, I, J)) := by
  rw [zgo_run X C _ _ [0] 12]
  rfl

set_option maxRecDepth 100000 in
theorem bX7_faulty_0 (X : Nat → Nat → Int32) (C : Nat → List zV → zS → Option zR) (L : List zK) (I : Nat → Nat → Int32) (J : Nat → Nat → Int64) (a1 : Int32) : zgo X C (some .boolean) kX7_faulty 0 [some (.inr (.inr (some (.inl 7, 21)))), some (.inl a1)] [] (L, zB1, I, J) = some (some (.inl 0), (L, zB1, (zup (zup I 21 9 a1) 21 10 ((zup I 21 9 a1) 21 3)), J)) := by
  rw [zgo_run X C _ _ [0] 10]
  rfl

set_option maxRecDepth 100000 in
theorem bX7_byteAt_0 (X : Nat → Nat → Int32) (C : Nat → List zV → zS → Option zR) (L : List zK) (I : Nat → Nat → Int32) (J : Nat → Nat → Int64) (a1 : Int32) : zgo X C (some .int) kX7_byteAt 0 [some (.inr (.inr (some (.inl 7, 21)))), some (.inl a1)] [] (L, zB1, I, J) = if a1 < 0 then some (some (.inl (-1)), (L, zB1, I, J)) else if (I 21 2) ≤ a1 then some (some (.inl (-1)), (L, zB1, I, J)) else if (120 : Int32) ≤ a1 then some (some (.inl (-1)), (L, zB1, I, J)) else zbt (zin a1 120) (some (some (.inl (I 22 a1.toNatClampNeg)), (L, zB1, I, J))) := by
  rw [zgo_run X C _ _ [0] 16]
  rfl

set_option maxRecDepth 100000 in
theorem bX7_next_0 (X : Nat → Nat → Int32) (C : Nat → List zV → zS → Option zR) (L : List zK) (I : Nat → Nat → Int32) (J : Nat → Nat → Int64) : zgo X C none kX7_next 0 [some (.inr (.inr (some (.inl 7, 21))))] [] (L, zB1, I, J) = cI (C 102 [.inr (.inr (some (.inl 7, 21))), .inl ((zup I 21 3 (I 21 6)) 21 3)] (L, zB1, (zup I 21 3 (I 21 6)), J)) (fun r σ => zgo X C none kX7_next 17 [some (.inr (.inr (some (.inl 7, 21))))] [.inl r, .inr (.inr (some (.inl 7, 21)))] σ) := by
  rw [zgo_run X C _ _ [0, 17, 60, 67, 96, 115] 10]
  rfl
set_option maxRecDepth 100000 in
theorem bX7_next_17 (X : Nat → Nat → Int32) (C : Nat → List zV → zS → Option zR) (L : List zK) (I : Nat → Nat → Int32) (J : Nat → Nat → Int64) (s0 : Int32) : zgo X C none kX7_next 17 [some (.inr (.inr (some (.inl 7, 21))))] [.inl s0, .inr (.inr (some (.inl 7, 21)))] (L, zB1, I, J) = if 0 ≤ ((zup (zup I 21 5 s0) 21 6 (((zup I 21 5 s0) 21 3) + 1)) 21 5) then cI (C 105 [.inl ((zup (zup I 21 5 s0) 21 6 (((zup I 21 5 s0) 21 3) + 1)) 21 5)] (L, zB1, (zup (zup I 21 5 s0) 21 6 (((zup I 21 5 s0) 21 3) + 1)), J)) (fun r σ => zgo X C none kX7_next 60 [some (.inr (.inr (some (.inl 7, 21))))] [.inl r] σ) else some (none, (L, zB1, (zup (zup (zup (zup I 21 5 s0) 21 6 (((zup I 21 5 s0) 21 3) + 1)) 21 4 0) 21 6 ((zup (zup (zup I 21 5 s0) 21 6 (((zup I 21 5 s0) 21 3) + 1)) 21 4 0) 21 3)), J)) := by
  rw [zgo_run X C _ _ [0, 17, 60, 67, 96, 115] 20]
  rfl
set_option maxRecDepth 100000 in
theorem bX7_next_60 (X : Nat → Nat → Int32) (C : Nat → List zV → zS → Option zR) (L : List zK) (I : Nat → Nat → Int32) (J : Nat → Nat → Int64) (s0 : Int32) : zgo X C none kX7_next 60 [some (.inr (.inr (some (.inl 7, 21))))] [.inl s0] (L, zB1, I, J) = if s0 = 0 then if (I 21 5) < 97 then zgo X C none kX7_next 96 [some (.inr (.inr (some (.inl 7, 21))))] [] (L, zB1, I, J) else if (122 : Int32) < (I 21 5) then zgo X C none kX7_next 96 [some (.inr (.inr (some (.inl 7, 21))))] [] (L, zB1, I, J) else some (none, (L, zB1, (zup I 21 4 1), J)) else cV (C 104 [.inr (.inr (some (.inl 7, 21)))] (L, zB1, I, J)) (fun σ => zgo X C none kX7_next 67 [some (.inr (.inr (some (.inl 7, 21))))] [] σ) := by
  rw [zgo_run X C _ _ [0, 17, 60, 67, 96, 115] 15]
  rfl
set_option maxRecDepth 100000 in
theorem bX7_next_67 (X : Nat → Nat → Int32) (C : Nat → List zV → zS → Option zR) (L : List zK) (I : Nat → Nat → Int32) (J : Nat → Nat → Int64) : zgo X C none kX7_next 67 [some (.inr (.inr (some (.inl 7, 21))))] [] (L, zB1, I, J) = some (none, (L, zB1, I, J)) := by
  rw [zgo_run X C _ _ [0, 17, 60, 67, 96, 115] 3]
  rfl
set_option maxRecDepth 100000 in
theorem bX7_next_96 (X : Nat → Nat → Int32) (C : Nat → List zV → zS → Option zR) (L : List zK) (I : Nat → Nat → Int32) (J : Nat → Nat → Int64) : zgo X C none kX7_next 96 [some (.inr (.inr (some (.inl 7, 21))))] [] (L, zB1, I, J) = if (I 21 5) = 44 then zgo X C none kX7_next 115 [some (.inr (.inr (some (.inl 7, 21))))] [.inr (.inr (some (.inl 7, 21)))] (L, zB1, I, J) else if (I 21 5) = 59 then zgo X C none kX7_next 115 [some (.inr (.inr (some (.inl 7, 21))))] [.inr (.inr (some (.inl 7, 21)))] (L, zB1, I, J) else some (none, (L, zB1, (zup I 21 4 4), J)) := by
  rw [zgo_run X C _ _ [0, 17, 60, 67, 96, 115] 13]
  rfl
set_option maxRecDepth 100000 in
theorem bX7_next_115 (X : Nat → Nat → Int32) (C : Nat → List zV → zS → Option zR) (L : List zK) (I : Nat → Nat → Int32) (J : Nat → Nat → Int64) : zgo X C none kX7_next 115 [some (.inr (.inr (some (.inl 7, 21))))] [.inr (.inr (some (.inl 7, 21)))] (L, zB1, I, J) = some (none, (L, zB1, (zup I 21 4 3), J)) := by
  rw [zgo_run X C _ _ [0, 17, 60, 67, 96, 115] 5]
  rfl

set_option maxRecDepth 100000 in
theorem bX7_lookAtNumber_0 (X : Nat → Nat → Int32) (C : Nat → List zV → zS → Option zR) (L : List zK) (I : Nat → Nat → Int32) (J : Nat → Nat → Int64) : zgo X C none kX7_lookAtNumber 0 [some (.inr (.inr (some (.inl 7, 21)))), none] [] (L, zB1, I, J) = zgo X C none kX7_lookAtNumber 15 [some (.inr (.inr (some (.inl 7, 21)))), some (.inl 0)] [] (L, zB1, (zup (zup I 21 5 0) 21 6 ((zup I 21 5 0) 21 3)), J) := by
  rw [zgo_run X C _ _ [0, 15, 28, 31, 50, 73] 10]
  rfl
set_option maxRecDepth 100000 in
theorem bX7_lookAtNumber_15 (X : Nat → Nat → Int32) (C : Nat → List zV → zS → Option zR) (L : List zK) (I : Nat → Nat → Int32) (J : Nat → Nat → Int64) (v1 : Int32) : zgo X C none kX7_lookAtNumber 15 [some (.inr (.inr (some (.inl 7, 21)))), some (.inl v1)] [] (L, zB1, I, J) = if (3 : Int32) ≤ v1 then zgo X C none kX7_lookAtNumber 73 [some (.inr (.inr (some (.inl 7, 21)))), some (.inl v1)] [] (L, zB1, I, J) else cI (C 102 [.inr (.inr (some (.inl 7, 21))), .inl (I 21 6)] (L, zB1, I, J)) (fun r σ => zgo X C none kX7_lookAtNumber 28 [some (.inr (.inr (some (.inl 7, 21)))), some (.inl v1)] [.inl r] σ) := by
  rw [zgo_run X C _ _ [0, 15, 28, 31, 50, 73] 8]
  rfl
set_option maxRecDepth 100000 in
theorem bX7_lookAtNumber_28 (X : Nat → Nat → Int32) (C : Nat → List zV → zS → Option zR) (L : List zK) (I : Nat → Nat → Int32) (J : Nat → Nat → Int64) (v1 : Int32) (s0 : Int32) : zgo X C none kX7_lookAtNumber 28 [some (.inr (.inr (some (.inl 7, 21)))), some (.inl v1)] [.inl s0] (L, zB1, I, J) = cI (C 105 [.inl s0] (L, zB1, I, J)) (fun r σ => zgo X C none kX7_lookAtNumber 31 [some (.inr (.inr (some (.inl 7, 21)))), some (.inl v1)] [.inl r] σ) := by
  rw [zgo_run X C _ _ [0, 15, 28, 31, 50, 73] 2]
  rfl
set_option maxRecDepth 100000 in
theorem bX7_lookAtNumber_31 (X : Nat → Nat → Int32) (C : Nat → List zV → zS → Option zR) (L : List zK) (I : Nat → Nat → Int32) (J : Nat → Nat → Int64) (v1 : Int32) (s0 : Int32) : zgo X C none kX7_lookAtNumber 31 [some (.inr (.inr (some (.inl 7, 21)))), some (.inl v1)] [.inl s0] (L, zB1, I, J) = if s0 = 0 then zgo X C none kX7_lookAtNumber 73 [some (.inr (.inr (some (.inl 7, 21)))), some (.inl v1)] [] (L, zB1, I, J) else cI (C 102 [.inr (.inr (some (.inl 7, 21))), .inl (I 21 6)] (L, zB1, I, J)) (fun r σ => zgo X C none kX7_lookAtNumber 50 [some (.inr (.inr (some (.inl 7, 21)))), some (.inl v1)] [.inl r, .inl (10 * (I 21 5)), .inr (.inr (some (.inl 7, 21)))] σ) := by
  rw [zgo_run X C _ _ [0, 15, 28, 31, 50, 73] 11]
  rfl
set_option maxRecDepth 100000 in
theorem bX7_lookAtNumber_50 (X : Nat → Nat → Int32) (C : Nat → List zV → zS → Option zR) (L : List zK) (I : Nat → Nat → Int32) (J : Nat → Nat → Int64) (v1 : Int32) (s0 : Int32) (s1 : Int32) : zgo X C none kX7_lookAtNumber 50 [some (.inr (.inr (some (.inl 7, 21)))), some (.inl v1)] [.inl s0, .inl s1, .inr (.inr (some (.inl 7, 21)))] (L, zB1, I, J) = zgo X C none kX7_lookAtNumber 15 [some (.inr (.inr (some (.inl 7, 21)))), some (.inl (v1 + 1))] [] (L, zB1, (zup (zup I 21 5 ((s1 + s0) - 48)) 21 6 (((zup I 21 5 ((s1 + s0) - 48)) 21 6) + 1)), J) := by
  rw [zgo_run X C _ _ [0, 15, 28, 31, 50, 73] 13]
  rfl
set_option maxRecDepth 100000 in
theorem bX7_lookAtNumber_73 (X : Nat → Nat → Int32) (C : Nat → List zV → zS → Option zR) (L : List zK) (I : Nat → Nat → Int32) (J : Nat → Nat → Int64) (v1 : Int32) : zgo X C none kX7_lookAtNumber 73 [some (.inr (.inr (some (.inl 7, 21)))), some (.inl v1)] [] (L, zB1, I, J) = if (2 : Int32) < ((I 21 6) - (I 21 3)) then some (none, (L, zB1, (zup I 21 4 4), J)) else some (none, (L, zB1, (zup I 21 4 2), J)) := by
  rw [zgo_run X C _ _ [0, 15, 28, 31, 50, 73] 13]
  rfl

set_option maxRecDepth 100000 in
theorem bX7_isFigure_0 (X : Nat → Nat → Int32) (C : Nat → List zV → zS → Option zR) (L : List zK) (I : Nat → Nat → Int32) (J : Nat → Nat → Int64) (a1 : Int32) : zgo X C (some .boolean) kX7_isFigure 0 [some (.inl a1)] [] (L, zB1, I, J) = if a1 < 48 then some (some (.inl 0), (L, zB1, I, J)) else if (57 : Int32) < a1 then some (some (.inl 0), (L, zB1, I, J)) else some (some (.inl 1), (L, zB1, I, J)) := by
  rw [zgo_run X C _ _ [0] 10]
  rfl
