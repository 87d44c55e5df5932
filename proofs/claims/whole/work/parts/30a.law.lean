/-! the law: each act, class and reference -/
section LAW
variable {X : Nat → Nat → Int32} {d : Nat} {L : List zK} {I : Nat → Nat → Int32} {J : Nat → Nat → Int64}
theorem l_row {N0 i : Nat} (hr : Rel I) (h1 : zin (nI i + 1) N0 = true) (h2 : zin (nI i + 2) N0 = true) (h3 : zin (nI i + 3) N0 = true)  : ∃ I' J', zbt (zin (nI i + 1) N0) (zbt (zin (nI i + 2) N0) (zbt (zin (nI i + 3) N0) (cI (zcall X (d + 20) 107 [.inr (.inr (some (.inl 8, 0))), .inl (X 0 (nI i + 1).toNatClampNeg), .inl (X 0 (nI i + 2).toNatClampNeg), .inl (X 0 (nI i + 3).toNatClampNeg)] (L, zB1, I, J)) (fun r σ => zgo X (zcall X (d + 20)) (some .boolean) kL_law 223 [some (.inr (.inr (some (.inr (.float, N0), 0)))), some (.inr (.inr (some (.inl 8, 0)))), some (.inr (.inr (some (.inl 9, 283)))), some (.inl (nI i))] [.inl r] σ)))) = zgo X (zcall X (d + 20)) (some .boolean) kL_law 18 [some (.inr (.inr (some (.inr (.float, N0), 0)))), some (.inr (.inr (some (.inl 8, 0)))), some (.inr (.inr (some (.inl 9, 283)))), some (.inl (nI i + 6))] [] (L, zB1, I', J') ∧ Rel I' := by
  obtain ⟨v, I1, J1, I2, e1, e2, hr2⟩ := p_row (X := X) (d := d) (L := L) (X 0 (nI i + 1).toNatClampNeg) (X 0 (nI i + 2).toNatClampNeg) (X 0 (nI i + 3).toNatClampNeg) I J hr
  rw [h1, h2, h3]
  refine ⟨I2, J1, ?_, hr2⟩
  rw [zbt_t, zbt_t, zbt_t, e1, cI_some, bL_law_223, h1, zbt_t, h2, zbt_t, h3, zbt_t, e2, cI_some, bL_law_242, if_pos rfl]
theorem l_set {N0 i : Nat} (hr : Rel I) (h1 : zin (nI i + 1) N0 = true) (h2 : zin (nI i + 2) N0 = true) (h3 : zin (nI i + 3) N0 = true)  : ∃ I' J', zbt (zin (nI i + 1) N0) (zbt (zin (nI i + 2) N0) (zbt (zin (nI i + 3) N0) (cI (zcall X (d + 20) 108 [.inr (.inr (some (.inl 8, 0))), .inl (X 0 (nI i + 1).toNatClampNeg), .inl (X 0 (nI i + 2).toNatClampNeg), .inl (X 0 (nI i + 3).toNatClampNeg)] (L, zB1, I, J)) (fun r σ => zgo X (zcall X (d + 20)) (some .boolean) kL_law 266 [some (.inr (.inr (some (.inr (.float, N0), 0)))), some (.inr (.inr (some (.inl 8, 0)))), some (.inr (.inr (some (.inl 9, 283)))), some (.inl (nI i))] [.inl r] σ)))) = zgo X (zcall X (d + 20)) (some .boolean) kL_law 18 [some (.inr (.inr (some (.inr (.float, N0), 0)))), some (.inr (.inr (some (.inl 8, 0)))), some (.inr (.inr (some (.inl 9, 283)))), some (.inl (nI i + 6))] [] (L, zB1, I', J') ∧ Rel I' := by
  obtain ⟨v, I1, J1, I2, e1, e2, hr2⟩ := p_set (X := X) (d := d) (L := L) (X 0 (nI i + 1).toNatClampNeg) (X 0 (nI i + 2).toNatClampNeg) (X 0 (nI i + 3).toNatClampNeg) I J hr
  rw [h1, h2, h3]
  refine ⟨I2, J1, ?_, hr2⟩
  rw [zbt_t, zbt_t, zbt_t, e1, cI_some, bL_law_266, h1, zbt_t, h2, zbt_t, h3, zbt_t, e2, cI_some, bL_law_285, if_pos rfl]
theorem l_copy {N0 i : Nat} (hr : Rel I) (h1 : zin (nI i + 1) N0 = true) (h2 : zin (nI i + 2) N0 = true) (h3 : zin (nI i + 3) N0 = true) (h4 : zin (nI i + 4) N0 = true) (h5 : zin (nI i + 5) N0 = true)  : ∃ I' J', zbt (zin (nI i + 1) N0) (zbt (zin (nI i + 2) N0) (zbt (zin (nI i + 3) N0) (zbt (zin (nI i + 4) N0) (zbt (zin (nI i + 5) N0) (cI (zcall X (d + 20) 109 [.inr (.inr (some (.inl 8, 0))), .inl (X 0 (nI i + 1).toNatClampNeg), .inl (X 0 (nI i + 2).toNatClampNeg), .inl (X 0 (nI i + 3).toNatClampNeg), .inl (X 0 (nI i + 4).toNatClampNeg), .inl (X 0 (nI i + 5).toNatClampNeg)] (L, zB1, I, J)) (fun r σ => zgo X (zcall X (d + 20)) (some .boolean) kL_law 319 [some (.inr (.inr (some (.inr (.float, N0), 0)))), some (.inr (.inr (some (.inl 8, 0)))), some (.inr (.inr (some (.inl 9, 283)))), some (.inl (nI i))] [.inl r] σ)))))) = zgo X (zcall X (d + 20)) (some .boolean) kL_law 18 [some (.inr (.inr (some (.inr (.float, N0), 0)))), some (.inr (.inr (some (.inl 8, 0)))), some (.inr (.inr (some (.inl 9, 283)))), some (.inl (nI i + 6))] [] (L, zB1, I', J') ∧ Rel I' := by
  obtain ⟨v, I1, J1, I2, e1, e2, hr2⟩ := p_copy (X := X) (d := d) (L := L) (X 0 (nI i + 1).toNatClampNeg) (X 0 (nI i + 2).toNatClampNeg) (X 0 (nI i + 3).toNatClampNeg) (X 0 (nI i + 4).toNatClampNeg) (X 0 (nI i + 5).toNatClampNeg) I J hr
  rw [h1, h2, h3, h4, h5]
  refine ⟨I2, J1, ?_, hr2⟩
  rw [zbt_t, zbt_t, zbt_t, zbt_t, zbt_t, e1, cI_some, bL_law_319, h1, zbt_t, h2, zbt_t, h3, zbt_t, h4, zbt_t, h5, zbt_t, e2, cI_some, bL_law_348, if_pos rfl]
theorem l_drop {N0 i : Nat} (hr : Rel I) (h1 : zin (nI i + 1) N0 = true)  : ∃ I' J', zbt (zin (nI i + 1) N0) (cI (zcall X (d + 20) 110 [.inr (.inr (some (.inl 8, 0))), .inl (X 0 (nI i + 1).toNatClampNeg)] (L, zB1, I, J)) (fun r σ => zgo X (zcall X (d + 20)) (some .boolean) kL_law 362 [some (.inr (.inr (some (.inr (.float, N0), 0)))), some (.inr (.inr (some (.inl 8, 0)))), some (.inr (.inr (some (.inl 9, 283)))), some (.inl (nI i))] [.inl r] σ)) = zgo X (zcall X (d + 20)) (some .boolean) kL_law 18 [some (.inr (.inr (some (.inr (.float, N0), 0)))), some (.inr (.inr (some (.inl 8, 0)))), some (.inr (.inr (some (.inl 9, 283)))), some (.inl (nI i + 6))] [] (L, zB1, I', J') ∧ Rel I' := by
  obtain ⟨v, I1, J1, I2, e1, e2, hr2⟩ := p_drop (X := X) (d := d) (L := L) (X 0 (nI i + 1).toNatClampNeg) I J hr
  rw [h1]
  refine ⟨I2, J1, ?_, hr2⟩
  rw [zbt_t, e1, cI_some, bL_law_362, h1, zbt_t, e2, cI_some, bL_law_371, if_pos rfl]
theorem l_feed {N0 i : Nat} (hr : Rel I) (h1 : zin (nI i + 1) N0 = true)  : ∃ I' J', zbt (zin (nI i + 1) N0) (cI (zcall X (d + 20) 111 [.inr (.inr (some (.inl 8, 0))), .inl (X 0 (nI i + 1).toNatClampNeg)] (L, zB1, I, J)) (fun r σ => zgo X (zcall X (d + 20)) (some .boolean) kL_law 385 [some (.inr (.inr (some (.inr (.float, N0), 0)))), some (.inr (.inr (some (.inl 8, 0)))), some (.inr (.inr (some (.inl 9, 283)))), some (.inl (nI i))] [.inl r] σ)) = zgo X (zcall X (d + 20)) (some .boolean) kL_law 18 [some (.inr (.inr (some (.inr (.float, N0), 0)))), some (.inr (.inr (some (.inl 8, 0)))), some (.inr (.inr (some (.inl 9, 283)))), some (.inl (nI i + 6))] [] (L, zB1, I', J') ∧ Rel I' := by
  obtain ⟨v, I1, J1, I2, e1, e2, hr2⟩ := p_feed (X := X) (d := d) (L := L) (X 0 (nI i + 1).toNatClampNeg) I J hr
  rw [h1]
  refine ⟨I2, J1, ?_, hr2⟩
  rw [zbt_t, e1, cI_some, bL_law_385, h1, zbt_t, e2, cI_some, bL_law_394, if_pos rfl]
theorem l_circuit {N0 i : Nat} (hr : Rel I)  : ∃ I' J', cI (zcall X (d + 20) 112 [.inr (.inr (some (.inl 8, 0)))] (L, zB1, I, J)) (fun r σ => zgo X (zcall X (d + 20)) (some .boolean) kL_law 403 [some (.inr (.inr (some (.inr (.float, N0), 0)))), some (.inr (.inr (some (.inl 8, 0)))), some (.inr (.inr (some (.inl 9, 283)))), some (.inl (nI i))] [.inl r] σ) = zgo X (zcall X (d + 20)) (some .boolean) kL_law 18 [some (.inr (.inr (some (.inr (.float, N0), 0)))), some (.inr (.inr (some (.inl 8, 0)))), some (.inr (.inr (some (.inl 9, 283)))), some (.inl (nI i + 6))] [] (L, zB1, I', J') ∧ Rel I' := by
  obtain ⟨v, I1, J1, I2, e1, e2, hr2⟩ := p_circuit (X := X) (d := d) (L := L)  I J hr
  refine ⟨I2, J1, ?_, hr2⟩
  rw [e1, cI_some, bL_law_403, e2, cI_some, bL_law_407, if_pos rfl]
theorem l_fault {N0 i : Nat} (hr : Rel I)  : ∃ I' J', cI (zcall X (d + 20) 113 [.inr (.inr (some (.inl 8, 0)))] (L, zB1, I, J)) (fun r σ => zgo X (zcall X (d + 20)) (some .boolean) kL_law 416 [some (.inr (.inr (some (.inr (.float, N0), 0)))), some (.inr (.inr (some (.inl 8, 0)))), some (.inr (.inr (some (.inl 9, 283)))), some (.inl (nI i))] [.inl r] σ) = zgo X (zcall X (d + 20)) (some .boolean) kL_law 18 [some (.inr (.inr (some (.inr (.float, N0), 0)))), some (.inr (.inr (some (.inl 8, 0)))), some (.inr (.inr (some (.inl 9, 283)))), some (.inl (nI i + 6))] [] (L, zB1, I', J') ∧ Rel I' := by
  obtain ⟨v, I1, J1, I2, e1, e2, hr2⟩ := p_fault (X := X) (d := d) (L := L)  I J hr
  refine ⟨I2, J1, ?_, hr2⟩
  rw [e1, cI_some, bL_law_416, e2, cI_some, bL_law_420, if_pos rfl]
theorem l_undo {N0 i : Nat} (hr : Rel I)  : ∃ I' J', cI (zcall X (d + 20) 114 [.inr (.inr (some (.inl 8, 0)))] (L, zB1, I, J)) (fun r σ => zgo X (zcall X (d + 20)) (some .boolean) kL_law 429 [some (.inr (.inr (some (.inr (.float, N0), 0)))), some (.inr (.inr (some (.inl 8, 0)))), some (.inr (.inr (some (.inl 9, 283)))), some (.inl (nI i))] [.inl r] σ) = zgo X (zcall X (d + 20)) (some .boolean) kL_law 18 [some (.inr (.inr (some (.inr (.float, N0), 0)))), some (.inr (.inr (some (.inl 8, 0)))), some (.inr (.inr (some (.inl 9, 283)))), some (.inl (nI i + 6))] [] (L, zB1, I', J') ∧ Rel I' := by
  obtain ⟨v, I1, J1, I2, e1, e2, hr2⟩ := p_undo (X := X) (d := d) (L := L)  I J hr
  refine ⟨I2, J1, ?_, hr2⟩
  rw [e1, cI_some, bL_law_429, e2, cI_some, bL_law_433, if_pos rfl]
theorem l_years {N0 i : Nat} (hr : Rel I) (h1 : zin (nI i + 1) N0 = true)  : ∃ I' J', zbt (zin (nI i + 1) N0) (cI (zcall X (d + 20) 115 [.inr (.inr (some (.inl 8, 0))), .inl (X 0 (nI i + 1).toNatClampNeg)] (L, zB1, I, J)) (fun r σ => zgo X (zcall X (d + 20)) (some .boolean) kL_law 447 [some (.inr (.inr (some (.inr (.float, N0), 0)))), some (.inr (.inr (some (.inl 8, 0)))), some (.inr (.inr (some (.inl 9, 283)))), some (.inl (nI i))] [.inl r] σ)) = zgo X (zcall X (d + 20)) (some .boolean) kL_law 18 [some (.inr (.inr (some (.inr (.float, N0), 0)))), some (.inr (.inr (some (.inl 8, 0)))), some (.inr (.inr (some (.inl 9, 283)))), some (.inl (nI i + 6))] [] (L, zB1, I', J') ∧ Rel I' := by
  obtain ⟨v, I1, J1, I2, e1, e2, hr2⟩ := p_years (X := X) (d := d) (L := L) (X 0 (nI i + 1).toNatClampNeg) I J hr
  rw [h1]
  refine ⟨I2, J1, ?_, hr2⟩
  rw [zbt_t, e1, cI_some, bL_law_447, h1, zbt_t, e2, cI_some, bL_law_456, if_pos rfl]
theorem l_send {N0 i : Nat} (hr : Rel I) (h1 : zin (nI i + 1) N0 = true) (h2 : zin (nI i + 2) N0 = true)  : ∃ I' J', zbt (zin (nI i + 1) N0) (zbt (zin (nI i + 2) N0) (cI (zcall X (d + 20) 116 [.inr (.inr (some (.inl 8, 0))), .inl (X 0 (nI i + 1).toNatClampNeg), .inl (X 0 (nI i + 2).toNatClampNeg)] (L, zB1, I, J)) (fun r σ => zgo X (zcall X (d + 20)) (some .boolean) kL_law 475 [some (.inr (.inr (some (.inr (.float, N0), 0)))), some (.inr (.inr (some (.inl 8, 0)))), some (.inr (.inr (some (.inl 9, 283)))), some (.inl (nI i))] [.inl r] σ))) = zgo X (zcall X (d + 20)) (some .boolean) kL_law 18 [some (.inr (.inr (some (.inr (.float, N0), 0)))), some (.inr (.inr (some (.inl 8, 0)))), some (.inr (.inr (some (.inl 9, 283)))), some (.inl (nI i + 6))] [] (L, zB1, I', J') ∧ Rel I' := by
  obtain ⟨v, I1, J1, I2, e1, e2, hr2⟩ := p_send (X := X) (d := d) (L := L) (X 0 (nI i + 1).toNatClampNeg) (X 0 (nI i + 2).toNatClampNeg) I J hr
  rw [h1, h2]
  refine ⟨I2, J1, ?_, hr2⟩
  rw [zbt_t, zbt_t, e1, cI_some, bL_law_475, h1, zbt_t, h2, zbt_t, e2, cI_some, bL_law_489, if_pos rfl]
theorem l_sentence {N0 i : Nat} (hr : Rel I) (h1 : zin (nI i + 1) N0 = true) (h2 : zin (nI i + 2) N0 = true)  : ∃ I' J', zbt (zin (nI i + 1) N0) (zbt (zin (nI i + 2) N0) (cI (zcall X (d + 20) 117 [.inr (.inr (some (.inl 8, 0))), .inl (X 0 (nI i + 1).toNatClampNeg), .inl (X 0 (nI i + 2).toNatClampNeg)] (L, zB1, I, J)) (fun r σ => zgo X (zcall X (d + 20)) (some .boolean) kL_law 508 [some (.inr (.inr (some (.inr (.float, N0), 0)))), some (.inr (.inr (some (.inl 8, 0)))), some (.inr (.inr (some (.inl 9, 283)))), some (.inl (nI i))] [.inl r] σ))) = zgo X (zcall X (d + 20)) (some .boolean) kL_law 18 [some (.inr (.inr (some (.inr (.float, N0), 0)))), some (.inr (.inr (some (.inl 8, 0)))), some (.inr (.inr (some (.inl 9, 283)))), some (.inl (nI i + 6))] [] (L, zB1, I', J') ∧ Rel I' := by
  obtain ⟨v, I1, J1, I2, e1, e2, hr2⟩ := p_sentence (X := X) (d := d) (L := L) (X 0 (nI i + 1).toNatClampNeg) (X 0 (nI i + 2).toNatClampNeg) I J hr
  rw [h1, h2]
  refine ⟨I2, J1, ?_, hr2⟩
  rw [zbt_t, zbt_t, e1, cI_some, bL_law_508, h1, zbt_t, h2, zbt_t, e2, cI_some, bL_law_522, if_pos rfl]
theorem l_gate {N0 i : Nat} (hr : Rel I) (h1 : zin (nI i + 1) N0 = true) (h2 : zin (nI i + 2) N0 = true)  : ∃ I' J', zbt (zin (nI i + 1) N0) (zbt (zin (nI i + 2) N0) (cI (zcall X (d + 20) 118 [.inr (.inr (some (.inl 8, 0))), .inl (X 0 (nI i + 1).toNatClampNeg), .inl (X 0 (nI i + 2).toNatClampNeg)] (L, zB1, I, J)) (fun r σ => zgo X (zcall X (d + 20)) (some .boolean) kL_law 541 [some (.inr (.inr (some (.inr (.float, N0), 0)))), some (.inr (.inr (some (.inl 8, 0)))), some (.inr (.inr (some (.inl 9, 283)))), some (.inl (nI i))] [.inl r] σ))) = zgo X (zcall X (d + 20)) (some .boolean) kL_law 18 [some (.inr (.inr (some (.inr (.float, N0), 0)))), some (.inr (.inr (some (.inl 8, 0)))), some (.inr (.inr (some (.inl 9, 283)))), some (.inl (nI i + 6))] [] (L, zB1, I', J') ∧ Rel I' := by
  obtain ⟨v, I1, J1, I2, e1, e2, hr2⟩ := p_gate (X := X) (d := d) (L := L) (X 0 (nI i + 1).toNatClampNeg) (X 0 (nI i + 2).toNatClampNeg) I J hr
  rw [h1, h2]
  refine ⟨I2, J1, ?_, hr2⟩
  rw [zbt_t, zbt_t, e1, cI_some, bL_law_541, h1, zbt_t, h2, zbt_t, e2, cI_some, bL_law_555, if_pos rfl]
theorem l_severe {N0 i : Nat} (hr : Rel I) (h1 : zin (nI i + 1) N0 = true) (h2 : zin (nI i + 2) N0 = true)  : ∃ I' J', zbt (zin (nI i + 1) N0) (zbt (zin (nI i + 2) N0) (cI (zcall X (d + 20) 119 [.inr (.inr (some (.inl 8, 0))), .inl (X 0 (nI i + 1).toNatClampNeg), .inl (X 0 (nI i + 2).toNatClampNeg)] (L, zB1, I, J)) (fun r σ => zgo X (zcall X (d + 20)) (some .boolean) kL_law 574 [some (.inr (.inr (some (.inr (.float, N0), 0)))), some (.inr (.inr (some (.inl 8, 0)))), some (.inr (.inr (some (.inl 9, 283)))), some (.inl (nI i))] [.inl r] σ))) = zgo X (zcall X (d + 20)) (some .boolean) kL_law 18 [some (.inr (.inr (some (.inr (.float, N0), 0)))), some (.inr (.inr (some (.inl 8, 0)))), some (.inr (.inr (some (.inl 9, 283)))), some (.inl (nI i + 6))] [] (L, zB1, I', J') ∧ Rel I' := by
  obtain ⟨v, I1, J1, I2, e1, e2, hr2⟩ := p_severe (X := X) (d := d) (L := L) (X 0 (nI i + 1).toNatClampNeg) (X 0 (nI i + 2).toNatClampNeg) I J hr
  rw [h1, h2]
  refine ⟨I2, J1, ?_, hr2⟩
  rw [zbt_t, zbt_t, e1, cI_some, bL_law_574, h1, zbt_t, h2, zbt_t, e2, cI_some, bL_law_588, if_pos rfl]
theorem l_retry {N0 i : Nat} (hr : Rel I) (h1 : zin (nI i + 1) N0 = true) (h2 : zin (nI i + 2) N0 = true) (h3 : zin (nI i + 3) N0 = true)  : ∃ I' J', zbt (zin (nI i + 1) N0) (zbt (zin (nI i + 2) N0) (zbt (zin (nI i + 3) N0) (cI (zcall X (d + 20) 120 [.inr (.inr (some (.inl 8, 0))), .inl (X 0 (nI i + 1).toNatClampNeg), .inl (X 0 (nI i + 2).toNatClampNeg), .inl (X 0 (nI i + 3).toNatClampNeg)] (L, zB1, I, J)) (fun r σ => zgo X (zcall X (d + 20)) (some .boolean) kL_law 612 [some (.inr (.inr (some (.inr (.float, N0), 0)))), some (.inr (.inr (some (.inl 8, 0)))), some (.inr (.inr (some (.inl 9, 283)))), some (.inl (nI i))] [.inl r] σ)))) = zgo X (zcall X (d + 20)) (some .boolean) kL_law 18 [some (.inr (.inr (some (.inr (.float, N0), 0)))), some (.inr (.inr (some (.inl 8, 0)))), some (.inr (.inr (some (.inl 9, 283)))), some (.inl (nI i + 6))] [] (L, zB1, I', J') ∧ Rel I' := by
  obtain ⟨v, I1, J1, I2, e1, e2, hr2⟩ := p_retry (X := X) (d := d) (L := L) (X 0 (nI i + 1).toNatClampNeg) (X 0 (nI i + 2).toNatClampNeg) (X 0 (nI i + 3).toNatClampNeg) I J hr
  rw [h1, h2, h3]
  refine ⟨I2, J1, ?_, hr2⟩
  rw [zbt_t, zbt_t, zbt_t, e1, cI_some, bL_law_612, h1, zbt_t, h2, zbt_t, h3, zbt_t, e2, cI_some, bL_law_631, if_pos rfl]
theorem l_man {N0 i : Nat} (hr : Rel I) (h1 : zin (nI i + 1) N0 = true) (h2 : zin (nI i + 2) N0 = true)  : ∃ I' J', zbt (zin (nI i + 1) N0) (zbt (zin (nI i + 2) N0) (cI (zcall X (d + 20) 121 [.inr (.inr (some (.inl 8, 0))), .inl (X 0 (nI i + 1).toNatClampNeg), .inl (X 0 (nI i + 2).toNatClampNeg)] (L, zB1, I, J)) (fun r σ => zgo X (zcall X (d + 20)) (some .boolean) kL_law 650 [some (.inr (.inr (some (.inr (.float, N0), 0)))), some (.inr (.inr (some (.inl 8, 0)))), some (.inr (.inr (some (.inl 9, 283)))), some (.inl (nI i))] [.inl r] σ))) = zgo X (zcall X (d + 20)) (some .boolean) kL_law 18 [some (.inr (.inr (some (.inr (.float, N0), 0)))), some (.inr (.inr (some (.inl 8, 0)))), some (.inr (.inr (some (.inl 9, 283)))), some (.inl (nI i + 6))] [] (L, zB1, I', J') ∧ Rel I' := by
  obtain ⟨v, I1, J1, I2, e1, e2, hr2⟩ := p_man (X := X) (d := d) (L := L) (X 0 (nI i + 1).toNatClampNeg) (X 0 (nI i + 2).toNatClampNeg) I J hr
  rw [h1, h2]
  refine ⟨I2, J1, ?_, hr2⟩
  rw [zbt_t, zbt_t, e1, cI_some, bL_law_650, h1, zbt_t, h2, zbt_t, e2, cI_some, bL_law_664, if_pos rfl]
theorem l_judge {N0 i : Nat} (hr : Rel I) (h1 : zin (nI i + 1) N0 = true) (h2 : zin (nI i + 2) N0 = true)  : ∃ I' J', zbt (zin (nI i + 1) N0) (zbt (zin (nI i + 2) N0) (cI (zcall X (d + 20) 122 [.inr (.inr (some (.inl 8, 0))), .inl (X 0 (nI i + 1).toNatClampNeg), .inl (X 0 (nI i + 2).toNatClampNeg)] (L, zB1, I, J)) (fun r σ => zgo X (zcall X (d + 20)) (some .boolean) kL_law 683 [some (.inr (.inr (some (.inr (.float, N0), 0)))), some (.inr (.inr (some (.inl 8, 0)))), some (.inr (.inr (some (.inl 9, 283)))), some (.inl (nI i))] [.inl r] σ))) = zgo X (zcall X (d + 20)) (some .boolean) kL_law 18 [some (.inr (.inr (some (.inr (.float, N0), 0)))), some (.inr (.inr (some (.inl 8, 0)))), some (.inr (.inr (some (.inl 9, 283)))), some (.inl (nI i + 6))] [] (L, zB1, I', J') ∧ Rel I' := by
  obtain ⟨v, I1, J1, I2, e1, e2, hr2⟩ := p_judge (X := X) (d := d) (L := L) (X 0 (nI i + 1).toNatClampNeg) (X 0 (nI i + 2).toNatClampNeg) I J hr
  rw [h1, h2]
  refine ⟨I2, J1, ?_, hr2⟩
  rw [zbt_t, zbt_t, e1, cI_some, bL_law_683, h1, zbt_t, h2, zbt_t, e2, cI_some, bL_law_697, if_pos rfl]
theorem l_stand {N0 i : Nat} (hr : Rel I) (h1 : zin (nI i + 1) N0 = true)  : ∃ I' J', zbt (zin (nI i + 1) N0) (cI (zcall X (d + 20) 123 [.inr (.inr (some (.inl 8, 0))), .inl (X 0 (nI i + 1).toNatClampNeg)] (L, zB1, I, J)) (fun r σ => zgo X (zcall X (d + 20)) (some .boolean) kL_law 711 [some (.inr (.inr (some (.inr (.float, N0), 0)))), some (.inr (.inr (some (.inl 8, 0)))), some (.inr (.inr (some (.inl 9, 283)))), some (.inl (nI i))] [.inl r] σ)) = zgo X (zcall X (d + 20)) (some .boolean) kL_law 18 [some (.inr (.inr (some (.inr (.float, N0), 0)))), some (.inr (.inr (some (.inl 8, 0)))), some (.inr (.inr (some (.inl 9, 283)))), some (.inl (nI i + 6))] [] (L, zB1, I', J') ∧ Rel I' := by
  obtain ⟨v, I1, J1, I2, e1, e2, hr2⟩ := p_stand (X := X) (d := d) (L := L) (X 0 (nI i + 1).toNatClampNeg) I J hr
  rw [h1]
  refine ⟨I2, J1, ?_, hr2⟩
  rw [zbt_t, e1, cI_some, bL_law_711, h1, zbt_t, e2, cI_some, bL_law_720, if_pos rfl]
theorem l_ahead {N0 i : Nat} (hr : Rel I) (h1 : zin (nI i + 1) N0 = true) (h2 : zin (nI i + 2) N0 = true) (h3 : zin (nI i + 3) N0 = true)  : ∃ I' J', zbt (zin (nI i + 1) N0) (zbt (zin (nI i + 2) N0) (zbt (zin (nI i + 3) N0) (cI (zcall X (d + 20) 124 [.inr (.inr (some (.inl 8, 0))), .inl (X 0 (nI i + 1).toNatClampNeg), .inl (X 0 (nI i + 2).toNatClampNeg), .inl (X 0 (nI i + 3).toNatClampNeg)] (L, zB1, I, J)) (fun r σ => zgo X (zcall X (d + 20)) (some .boolean) kL_law 744 [some (.inr (.inr (some (.inr (.float, N0), 0)))), some (.inr (.inr (some (.inl 8, 0)))), some (.inr (.inr (some (.inl 9, 283)))), some (.inl (nI i))] [.inl r] σ)))) = zgo X (zcall X (d + 20)) (some .boolean) kL_law 18 [some (.inr (.inr (some (.inr (.float, N0), 0)))), some (.inr (.inr (some (.inl 8, 0)))), some (.inr (.inr (some (.inl 9, 283)))), some (.inl (nI i + 6))] [] (L, zB1, I', J') ∧ Rel I' := by
  obtain ⟨v, I1, J1, I2, e1, e2, hr2⟩ := p_ahead (X := X) (d := d) (L := L) (X 0 (nI i + 1).toNatClampNeg) (X 0 (nI i + 2).toNatClampNeg) (X 0 (nI i + 3).toNatClampNeg) I J hr
  rw [h1, h2, h3]
  refine ⟨I2, J1, ?_, hr2⟩
  rw [zbt_t, zbt_t, zbt_t, e1, cI_some, bL_law_744, h1, zbt_t, h2, zbt_t, h3, zbt_t, e2, cI_some, bL_law_763, if_pos rfl]
theorem l_by {N0 i : Nat} (hr : Rel I) (h1 : zin (nI i + 1) N0 = true) (h2 : zin (nI i + 2) N0 = true)  : ∃ I' J', zbt (zin (nI i + 1) N0) (zbt (zin (nI i + 2) N0) (cI (zcall X (d + 20) 125 [.inr (.inr (some (.inl 8, 0))), .inl (X 0 (nI i + 1).toNatClampNeg), .inl (X 0 (nI i + 2).toNatClampNeg)] (L, zB1, I, J)) (fun r σ => zgo X (zcall X (d + 20)) (some .boolean) kL_law 782 [some (.inr (.inr (some (.inr (.float, N0), 0)))), some (.inr (.inr (some (.inl 8, 0)))), some (.inr (.inr (some (.inl 9, 283)))), some (.inl (nI i))] [.inl r] σ))) = zgo X (zcall X (d + 20)) (some .boolean) kL_law 18 [some (.inr (.inr (some (.inr (.float, N0), 0)))), some (.inr (.inr (some (.inl 8, 0)))), some (.inr (.inr (some (.inl 9, 283)))), some (.inl (nI i + 6))] [] (L, zB1, I', J') ∧ Rel I' := by
  obtain ⟨v, I1, J1, I2, e1, e2, hr2⟩ := p_by (X := X) (d := d) (L := L) (X 0 (nI i + 1).toNatClampNeg) (X 0 (nI i + 2).toNatClampNeg) I J hr
  rw [h1, h2]
  refine ⟨I2, J1, ?_, hr2⟩
  rw [zbt_t, zbt_t, e1, cI_some, bL_law_782, h1, zbt_t, h2, zbt_t, e2, cI_some, bL_law_796, if_pos rfl]
theorem l_when {N0 i : Nat} (hr : Rel I) (h1 : zin (nI i + 1) N0 = true) (h2 : zin (nI i + 2) N0 = true)  : ∃ I' J', zbt (zin (nI i + 1) N0) (zbt (zin (nI i + 2) N0) (cI (zcall X (d + 20) 126 [.inr (.inr (some (.inl 8, 0))), .inl (X 0 (nI i + 1).toNatClampNeg), .inl (X 0 (nI i + 2).toNatClampNeg)] (L, zB1, I, J)) (fun r σ => zgo X (zcall X (d + 20)) (some .boolean) kL_law 815 [some (.inr (.inr (some (.inr (.float, N0), 0)))), some (.inr (.inr (some (.inl 8, 0)))), some (.inr (.inr (some (.inl 9, 283)))), some (.inl (nI i))] [.inl r] σ))) = zgo X (zcall X (d + 20)) (some .boolean) kL_law 18 [some (.inr (.inr (some (.inr (.float, N0), 0)))), some (.inr (.inr (some (.inl 8, 0)))), some (.inr (.inr (some (.inl 9, 283)))), some (.inl (nI i + 6))] [] (L, zB1, I', J') ∧ Rel I' := by
  obtain ⟨v, I1, J1, I2, e1, e2, hr2⟩ := p_when (X := X) (d := d) (L := L) (X 0 (nI i + 1).toNatClampNeg) (X 0 (nI i + 2).toNatClampNeg) I J hr
  rw [h1, h2]
  refine ⟨I2, J1, ?_, hr2⟩
  rw [zbt_t, zbt_t, e1, cI_some, bL_law_815, h1, zbt_t, h2, zbt_t, e2, cI_some, bL_law_829, if_pos rfl]
theorem l_sending {N0 i : Nat} (hr : Rel I) (h1 : zin (nI i + 1) N0 = true) (h2 : zin (nI i + 2) N0 = true)  : ∃ I' J', zbt (zin (nI i + 1) N0) (zbt (zin (nI i + 2) N0) (cI (zcall X (d + 20) 127 [.inr (.inr (some (.inl 8, 0))), .inl (X 0 (nI i + 1).toNatClampNeg), .inl (X 0 (nI i + 2).toNatClampNeg)] (L, zB1, I, J)) (fun r σ => zgo X (zcall X (d + 20)) (some .boolean) kL_law 848 [some (.inr (.inr (some (.inr (.float, N0), 0)))), some (.inr (.inr (some (.inl 8, 0)))), some (.inr (.inr (some (.inl 9, 283)))), some (.inl (nI i))] [.inl r] σ))) = zgo X (zcall X (d + 20)) (some .boolean) kL_law 18 [some (.inr (.inr (some (.inr (.float, N0), 0)))), some (.inr (.inr (some (.inl 8, 0)))), some (.inr (.inr (some (.inl 9, 283)))), some (.inl (nI i + 6))] [] (L, zB1, I', J') ∧ Rel I' := by
  obtain ⟨v, I1, J1, I2, e1, e2, hr2⟩ := p_sending (X := X) (d := d) (L := L) (X 0 (nI i + 1).toNatClampNeg) (X 0 (nI i + 2).toNatClampNeg) I J hr
  rw [h1, h2]
  refine ⟨I2, J1, ?_, hr2⟩
  rw [zbt_t, zbt_t, e1, cI_some, bL_law_848, h1, zbt_t, h2, zbt_t, e2, cI_some, bL_law_862, if_pos rfl]
theorem l_gates {N0 i : Nat} (hr : Rel I) (h1 : zin (nI i + 1) N0 = true) (h2 : zin (nI i + 2) N0 = true)  : ∃ I' J', zbt (zin (nI i + 1) N0) (zbt (zin (nI i + 2) N0) (cI (zcall X (d + 20) 128 [.inr (.inr (some (.inl 8, 0))), .inl (X 0 (nI i + 1).toNatClampNeg), .inl (X 0 (nI i + 2).toNatClampNeg)] (L, zB1, I, J)) (fun r σ => zgo X (zcall X (d + 20)) (some .boolean) kL_law 881 [some (.inr (.inr (some (.inr (.float, N0), 0)))), some (.inr (.inr (some (.inl 8, 0)))), some (.inr (.inr (some (.inl 9, 283)))), some (.inl (nI i))] [.inl r] σ))) = zgo X (zcall X (d + 20)) (some .boolean) kL_law 18 [some (.inr (.inr (some (.inr (.float, N0), 0)))), some (.inr (.inr (some (.inl 8, 0)))), some (.inr (.inr (some (.inl 9, 283)))), some (.inl (nI i + 6))] [] (L, zB1, I', J') ∧ Rel I' := by
  obtain ⟨v, I1, J1, I2, e1, e2, hr2⟩ := p_gates (X := X) (d := d) (L := L) (X 0 (nI i + 1).toNatClampNeg) (X 0 (nI i + 2).toNatClampNeg) I J hr
  rw [h1, h2]
  refine ⟨I2, J1, ?_, hr2⟩
  rw [zbt_t, zbt_t, e1, cI_some, bL_law_881, h1, zbt_t, h2, zbt_t, e2, cI_some, bL_law_895, if_pos rfl]
theorem l_let {N0 i : Nat} (hr : Rel I) (h1 : zin (nI i + 1) N0 = true) (h2 : zin (nI i + 2) N0 = true)  : ∃ I' J', zbt (zin (nI i + 1) N0) (zbt (zin (nI i + 2) N0) (cI (zcall X (d + 20) 129 [.inr (.inr (some (.inl 8, 0))), .inl (X 0 (nI i + 1).toNatClampNeg), .inl (X 0 (nI i + 2).toNatClampNeg)] (L, zB1, I, J)) (fun r σ => zgo X (zcall X (d + 20)) (some .boolean) kL_law 914 [some (.inr (.inr (some (.inr (.float, N0), 0)))), some (.inr (.inr (some (.inl 8, 0)))), some (.inr (.inr (some (.inl 9, 283)))), some (.inl (nI i))] [.inl r] σ))) = zgo X (zcall X (d + 20)) (some .boolean) kL_law 18 [some (.inr (.inr (some (.inr (.float, N0), 0)))), some (.inr (.inr (some (.inl 8, 0)))), some (.inr (.inr (some (.inl 9, 283)))), some (.inl (nI i + 6))] [] (L, zB1, I', J') ∧ Rel I' := by
  obtain ⟨v, I1, J1, I2, e1, e2, hr2⟩ := p_let (X := X) (d := d) (L := L) (X 0 (nI i + 1).toNatClampNeg) (X 0 (nI i + 2).toNatClampNeg) I J hr
  rw [h1, h2]
  refine ⟨I2, J1, ?_, hr2⟩
  rw [zbt_t, zbt_t, e1, cI_some, bL_law_914, h1, zbt_t, h2, zbt_t, e2, cI_some, bL_law_928, if_pos rfl]
theorem l_closest {N0 i : Nat} (hr : Rel I) (h1 : zin (nI i + 1) N0 = true) (h2 : zin (nI i + 2) N0 = true)  : ∃ I' J', zbt (zin (nI i + 1) N0) (zbt (zin (nI i + 2) N0) (cI (zcall X (d + 20) 130 [.inr (.inr (some (.inl 8, 0))), .inl (X 0 (nI i + 1).toNatClampNeg), .inl (X 0 (nI i + 2).toNatClampNeg)] (L, zB1, I, J)) (fun r σ => zgo X (zcall X (d + 20)) (some .boolean) kL_law 947 [some (.inr (.inr (some (.inr (.float, N0), 0)))), some (.inr (.inr (some (.inl 8, 0)))), some (.inr (.inr (some (.inl 9, 283)))), some (.inl (nI i))] [.inl r] σ))) = zgo X (zcall X (d + 20)) (some .boolean) kL_law 18 [some (.inr (.inr (some (.inr (.float, N0), 0)))), some (.inr (.inr (some (.inl 8, 0)))), some (.inr (.inr (some (.inl 9, 283)))), some (.inl (nI i + 6))] [] (L, zB1, I', J') ∧ Rel I' := by
  obtain ⟨v, I1, J1, I2, e1, e2, hr2⟩ := p_closest (X := X) (d := d) (L := L) (X 0 (nI i + 1).toNatClampNeg) (X 0 (nI i + 2).toNatClampNeg) I J hr
  rw [h1, h2]
  refine ⟨I2, J1, ?_, hr2⟩
  rw [zbt_t, zbt_t, e1, cI_some, bL_law_947, h1, zbt_t, h2, zbt_t, e2, cI_some, bL_law_961, if_pos rfl]
theorem l_share {N0 i : Nat} (hr : Rel I) (h1 : zin (nI i + 1) N0 = true) (h2 : zin (nI i + 2) N0 = true)  : ∃ I' J', zbt (zin (nI i + 1) N0) (zbt (zin (nI i + 2) N0) (cI (zcall X (d + 20) 131 [.inr (.inr (some (.inl 8, 0))), .inl (X 0 (nI i + 1).toNatClampNeg), .inl (X 0 (nI i + 2).toNatClampNeg)] (L, zB1, I, J)) (fun r σ => zgo X (zcall X (d + 20)) (some .boolean) kL_law 980 [some (.inr (.inr (some (.inr (.float, N0), 0)))), some (.inr (.inr (some (.inl 8, 0)))), some (.inr (.inr (some (.inl 9, 283)))), some (.inl (nI i))] [.inl r] σ))) = zgo X (zcall X (d + 20)) (some .boolean) kL_law 18 [some (.inr (.inr (some (.inr (.float, N0), 0)))), some (.inr (.inr (some (.inl 8, 0)))), some (.inr (.inr (some (.inl 9, 283)))), some (.inl (nI i + 6))] [] (L, zB1, I', J') ∧ Rel I' := by
  obtain ⟨v, I1, J1, I2, e1, e2, hr2⟩ := p_share (X := X) (d := d) (L := L) (X 0 (nI i + 1).toNatClampNeg) (X 0 (nI i + 2).toNatClampNeg) I J hr
  rw [h1, h2]
  refine ⟨I2, J1, ?_, hr2⟩
  rw [zbt_t, zbt_t, e1, cI_some, bL_law_980, h1, zbt_t, h2, zbt_t, e2, cI_some, bL_law_994, if_pos rfl]
theorem l_byTurns {N0 i : Nat} (hr : Rel I) (h1 : zin (nI i + 1) N0 = true) (h2 : zin (nI i + 2) N0 = true) (h3 : zin (nI i + 3) N0 = true) (h4 : zin (nI i + 4) N0 = true)  : ∃ I' J', zbt (zin (nI i + 1) N0) (zbt (zin (nI i + 2) N0) (zbt (zin (nI i + 3) N0) (zbt (zin (nI i + 4) N0) (cI (zcall X (d + 20) 132 [.inr (.inr (some (.inl 8, 0))), .inl (X 0 (nI i + 1).toNatClampNeg), .inl (X 0 (nI i + 2).toNatClampNeg), .inl (X 0 (nI i + 3).toNatClampNeg), .inl (X 0 (nI i + 4).toNatClampNeg)] (L, zB1, I, J)) (fun r σ => zgo X (zcall X (d + 20)) (some .boolean) kL_law 1023 [some (.inr (.inr (some (.inr (.float, N0), 0)))), some (.inr (.inr (some (.inl 8, 0)))), some (.inr (.inr (some (.inl 9, 283)))), some (.inl (nI i))] [.inl r] σ))))) = zgo X (zcall X (d + 20)) (some .boolean) kL_law 18 [some (.inr (.inr (some (.inr (.float, N0), 0)))), some (.inr (.inr (some (.inl 8, 0)))), some (.inr (.inr (some (.inl 9, 283)))), some (.inl (nI i + 6))] [] (L, zB1, I', J') ∧ Rel I' := by
  obtain ⟨v, I1, J1, I2, e1, e2, hr2⟩ := p_byTurns (X := X) (d := d) (L := L) (X 0 (nI i + 1).toNatClampNeg) (X 0 (nI i + 2).toNatClampNeg) (X 0 (nI i + 3).toNatClampNeg) (X 0 (nI i + 4).toNatClampNeg) I J hr
  rw [h1, h2, h3, h4]
  refine ⟨I2, J1, ?_, hr2⟩
  rw [zbt_t, zbt_t, zbt_t, zbt_t, e1, cI_some, bL_law_1023, h1, zbt_t, h2, zbt_t, h3, zbt_t, h4, zbt_t, e2, cI_some, bL_law_1047, if_pos rfl]
theorem l_who {N0 i : Nat} (hr : Rel I) (h1 : zin (nI i + 1) N0 = true) (h2 : zin (nI i + 2) N0 = true) (h3 : zin (nI i + 3) N0 = true) (h4 : zin (nI i + 4) N0 = true) (h5 : zin (nI i + 5) N0 = true)  : ∃ I' J', zbt (zin (nI i + 1) N0) (zbt (zin (nI i + 2) N0) (zbt (zin (nI i + 3) N0) (zbt (zin (nI i + 4) N0) (zbt (zin (nI i + 5) N0) (cI (zcall X (d + 20) 133 [.inr (.inr (some (.inl 8, 0))), .inl (X 0 (nI i + 1).toNatClampNeg), .inl (X 0 (nI i + 2).toNatClampNeg), .inl (X 0 (nI i + 3).toNatClampNeg), .inl (X 0 (nI i + 4).toNatClampNeg), .inl (X 0 (nI i + 5).toNatClampNeg)] (L, zB1, I, J)) (fun r σ => zgo X (zcall X (d + 20)) (some .boolean) kL_law 1081 [some (.inr (.inr (some (.inr (.float, N0), 0)))), some (.inr (.inr (some (.inl 8, 0)))), some (.inr (.inr (some (.inl 9, 283)))), some (.inl (nI i))] [.inl r] σ)))))) = zgo X (zcall X (d + 20)) (some .boolean) kL_law 18 [some (.inr (.inr (some (.inr (.float, N0), 0)))), some (.inr (.inr (some (.inl 8, 0)))), some (.inr (.inr (some (.inl 9, 283)))), some (.inl (nI i + 6))] [] (L, zB1, I', J') ∧ Rel I' := by
  obtain ⟨v, I1, J1, I2, e1, e2, hr2⟩ := p_who (X := X) (d := d) (L := L) (X 0 (nI i + 1).toNatClampNeg) (X 0 (nI i + 2).toNatClampNeg) (X 0 (nI i + 3).toNatClampNeg) (X 0 (nI i + 4).toNatClampNeg) (X 0 (nI i + 5).toNatClampNeg) I J hr
  rw [h1, h2, h3, h4, h5]
  refine ⟨I2, J1, ?_, hr2⟩
  rw [zbt_t, zbt_t, zbt_t, zbt_t, zbt_t, e1, cI_some, bL_law_1081, h1, zbt_t, h2, zbt_t, h3, zbt_t, h4, zbt_t, h5, zbt_t, e2, cI_some, bL_law_1110, if_pos rfl]
theorem l_severes {N0 i : Nat} (hr : Rel I) (h1 : zin (nI i + 1) N0 = true) (h2 : zin (nI i + 2) N0 = true) (h3 : zin (nI i + 3) N0 = true) (h4 : zin (nI i + 4) N0 = true) (h5 : zin (nI i + 5) N0 = true)  : ∃ I' J', zbt (zin (nI i + 1) N0) (zbt (zin (nI i + 2) N0) (zbt (zin (nI i + 3) N0) (zbt (zin (nI i + 4) N0) (zbt (zin (nI i + 5) N0) (cI (zcall X (d + 20) 134 [.inr (.inr (some (.inl 8, 0))), .inl (X 0 (nI i + 1).toNatClampNeg), .inl (X 0 (nI i + 2).toNatClampNeg), .inl (X 0 (nI i + 3).toNatClampNeg), .inl (X 0 (nI i + 4).toNatClampNeg), .inl (X 0 (nI i + 5).toNatClampNeg)] (L, zB1, I, J)) (fun r σ => zgo X (zcall X (d + 20)) (some .boolean) kL_law 1144 [some (.inr (.inr (some (.inr (.float, N0), 0)))), some (.inr (.inr (some (.inl 8, 0)))), some (.inr (.inr (some (.inl 9, 283)))), some (.inl (nI i))] [.inl r] σ)))))) = zgo X (zcall X (d + 20)) (some .boolean) kL_law 18 [some (.inr (.inr (some (.inr (.float, N0), 0)))), some (.inr (.inr (some (.inl 8, 0)))), some (.inr (.inr (some (.inl 9, 283)))), some (.inl (nI i + 6))] [] (L, zB1, I', J') ∧ Rel I' := by
  obtain ⟨v, I1, J1, I2, e1, e2, hr2⟩ := p_severes (X := X) (d := d) (L := L) (X 0 (nI i + 1).toNatClampNeg) (X 0 (nI i + 2).toNatClampNeg) (X 0 (nI i + 3).toNatClampNeg) (X 0 (nI i + 4).toNatClampNeg) (X 0 (nI i + 5).toNatClampNeg) I J hr
  rw [h1, h2, h3, h4, h5]
  refine ⟨I2, J1, ?_, hr2⟩
  rw [zbt_t, zbt_t, zbt_t, zbt_t, zbt_t, e1, cI_some, bL_law_1144, h1, zbt_t, h2, zbt_t, h3, zbt_t, h4, zbt_t, h5, zbt_t, e2, cI_some, bL_law_1173, if_pos rfl]
theorem l_likes {N0 i : Nat} (hr : Rel I) (h1 : zin (nI i + 1) N0 = true) (h2 : zin (nI i + 2) N0 = true) (h3 : zin (nI i + 3) N0 = true) (h4 : zin (nI i + 4) N0 = true) (h5 : zin (nI i + 5) N0 = true)  : ∃ I' J', zbt (zin (nI i + 1) N0) (zbt (zin (nI i + 2) N0) (zbt (zin (nI i + 3) N0) (zbt (zin (nI i + 4) N0) (zbt (zin (nI i + 5) N0) (cI (zcall X (d + 20) 135 [.inr (.inr (some (.inl 8, 0))), .inl (X 0 (nI i + 1).toNatClampNeg), .inl (X 0 (nI i + 2).toNatClampNeg), .inl (X 0 (nI i + 3).toNatClampNeg), .inl (X 0 (nI i + 4).toNatClampNeg), .inl (X 0 (nI i + 5).toNatClampNeg)] (L, zB1, I, J)) (fun r σ => zgo X (zcall X (d + 20)) (some .boolean) kL_law 1207 [some (.inr (.inr (some (.inr (.float, N0), 0)))), some (.inr (.inr (some (.inl 8, 0)))), some (.inr (.inr (some (.inl 9, 283)))), some (.inl (nI i))] [.inl r] σ)))))) = zgo X (zcall X (d + 20)) (some .boolean) kL_law 18 [some (.inr (.inr (some (.inr (.float, N0), 0)))), some (.inr (.inr (some (.inl 8, 0)))), some (.inr (.inr (some (.inl 9, 283)))), some (.inl (nI i + 6))] [] (L, zB1, I', J') ∧ Rel I' := by
  obtain ⟨v, I1, J1, I2, e1, e2, hr2⟩ := p_likes (X := X) (d := d) (L := L) (X 0 (nI i + 1).toNatClampNeg) (X 0 (nI i + 2).toNatClampNeg) (X 0 (nI i + 3).toNatClampNeg) (X 0 (nI i + 4).toNatClampNeg) (X 0 (nI i + 5).toNatClampNeg) I J hr
  rw [h1, h2, h3, h4, h5]
  refine ⟨I2, J1, ?_, hr2⟩
  rw [zbt_t, zbt_t, zbt_t, zbt_t, zbt_t, e1, cI_some, bL_law_1207, h1, zbt_t, h2, zbt_t, h3, zbt_t, h4, zbt_t, h5, zbt_t, e2, cI_some, bL_law_1236, if_pos rfl]
theorem l_fence {N0 i : Nat} (hr : Rel I) (h1 : zin (nI i + 1) N0 = true) (h2 : zin (nI i + 2) N0 = true) (h3 : zin (nI i + 3) N0 = true) (h4 : zin (nI i + 4) N0 = true)  : ∃ I' J', zbt (zin (nI i + 1) N0) (zbt (zin (nI i + 2) N0) (zbt (zin (nI i + 3) N0) (zbt (zin (nI i + 4) N0) (cJ (zcall X (d + 20) 136 [.inr (.inr (some (.inl 8, 0))), .inl (X 0 (nI i + 1).toNatClampNeg), .inl (X 0 (nI i + 2).toNatClampNeg), .inl (X 0 (nI i + 3).toNatClampNeg), .inl (X 0 (nI i + 4).toNatClampNeg)] (L, zB1, I, J)) (fun r σ => zgo X (zcall X (d + 20)) (some .boolean) kL_law 1265 [some (.inr (.inr (some (.inr (.float, N0), 0)))), some (.inr (.inr (some (.inl 8, 0)))), some (.inr (.inr (some (.inl 9, 283)))), some (.inl (nI i))] [.inr (.inl r)] σ))))) = zgo X (zcall X (d + 20)) (some .boolean) kL_law 18 [some (.inr (.inr (some (.inr (.float, N0), 0)))), some (.inr (.inr (some (.inl 8, 0)))), some (.inr (.inr (some (.inl 9, 283)))), some (.inl (nI i + 6))] [] (L, zB1, I', J') ∧ Rel I' := by
  obtain ⟨v, I1, J1, I2, e1, e2, hr2⟩ := p_fence (X := X) (d := d) (L := L) (X 0 (nI i + 1).toNatClampNeg) (X 0 (nI i + 2).toNatClampNeg) (X 0 (nI i + 3).toNatClampNeg) (X 0 (nI i + 4).toNatClampNeg) I J hr
  rw [h1, h2, h3, h4]
  refine ⟨I2, J1, ?_, hr2⟩
  rw [zbt_t, zbt_t, zbt_t, zbt_t, e1, cJ_some, bL_law_1265, h1, zbt_t, h2, zbt_t, h3, zbt_t, h4, zbt_t, e2, cJ_some, bL_law_1289, if_pos ((lg_cmp_eq _ _).2 rfl)]
theorem l_drawn {N0 i : Nat} (hr : Rel I) (h1 : zin (nI i + 1) N0 = true) (h2 : zin (nI i + 2) N0 = true) (h3 : zin (nI i + 3) N0 = true)  : ∃ I' J', zbt (zin (nI i + 1) N0) (zbt (zin (nI i + 2) N0) (zbt (zin (nI i + 3) N0) (cI (zcall X (d + 20) 137 [.inr (.inr (some (.inl 8, 0))), .inl (X 0 (nI i + 1).toNatClampNeg), .inl (X 0 (nI i + 2).toNatClampNeg), .inl (X 0 (nI i + 3).toNatClampNeg)] (L, zB1, I, J)) (fun r σ => zgo X (zcall X (d + 20)) (some .boolean) kL_law 1314 [some (.inr (.inr (some (.inr (.float, N0), 0)))), some (.inr (.inr (some (.inl 8, 0)))), some (.inr (.inr (some (.inl 9, 283)))), some (.inl (nI i))] [.inl r] σ)))) = zgo X (zcall X (d + 20)) (some .boolean) kL_law 18 [some (.inr (.inr (some (.inr (.float, N0), 0)))), some (.inr (.inr (some (.inl 8, 0)))), some (.inr (.inr (some (.inl 9, 283)))), some (.inl (nI i + 6))] [] (L, zB1, I', J') ∧ Rel I' := by
  obtain ⟨v, I1, J1, I2, e1, e2, hr2⟩ := p_drawn (X := X) (d := d) (L := L) (X 0 (nI i + 1).toNatClampNeg) (X 0 (nI i + 2).toNatClampNeg) (X 0 (nI i + 3).toNatClampNeg) I J hr
  rw [h1, h2, h3]
  refine ⟨I2, J1, ?_, hr2⟩
  rw [zbt_t, zbt_t, zbt_t, e1, cI_some, bL_law_1314, h1, zbt_t, h2, zbt_t, h3, zbt_t, e2, cI_some, bL_law_1333, if_pos rfl]
theorem l_image {N0 i : Nat} (hr : Rel I) (h1 : zin (nI i + 1) N0 = true)  : ∃ I' J', zbt (zin (nI i + 1) N0) (cI (zcall X (d + 20) 138 [.inr (.inr (some (.inl 8, 0))), .inl (X 0 (nI i + 1).toNatClampNeg)] (L, zB1, I, J)) (fun r σ => zgo X (zcall X (d + 20)) (some .boolean) kL_law 1347 [some (.inr (.inr (some (.inr (.float, N0), 0)))), some (.inr (.inr (some (.inl 8, 0)))), some (.inr (.inr (some (.inl 9, 283)))), some (.inl (nI i))] [.inl r] σ)) = zgo X (zcall X (d + 20)) (some .boolean) kL_law 18 [some (.inr (.inr (some (.inr (.float, N0), 0)))), some (.inr (.inr (some (.inl 8, 0)))), some (.inr (.inr (some (.inl 9, 283)))), some (.inl (nI i + 6))] [] (L, zB1, I', J') ∧ Rel I' := by
  obtain ⟨v, I1, J1, I2, e1, e2, hr2⟩ := p_image (X := X) (d := d) (L := L) (X 0 (nI i + 1).toNatClampNeg) I J hr
  rw [h1]
  refine ⟨I2, J1, ?_, hr2⟩
  rw [zbt_t, e1, cI_some, bL_law_1347, h1, zbt_t, e2, cI_some, bL_law_1356, if_pos rfl]
theorem l_restore {N0 i : Nat} (hr : Rel I) (h1 : zin (nI i + 1) N0 = true)  : ∃ I' J', zbt (zin (nI i + 1) N0) (cI (zcall X (d + 20) 139 [.inr (.inr (some (.inl 8, 0))), .inl (X 0 (nI i + 1).toNatClampNeg)] (L, zB1, I, J)) (fun r σ => zgo X (zcall X (d + 20)) (some .boolean) kL_law 1370 [some (.inr (.inr (some (.inr (.float, N0), 0)))), some (.inr (.inr (some (.inl 8, 0)))), some (.inr (.inr (some (.inl 9, 283)))), some (.inl (nI i))] [.inl r] σ)) = zgo X (zcall X (d + 20)) (some .boolean) kL_law 18 [some (.inr (.inr (some (.inr (.float, N0), 0)))), some (.inr (.inr (some (.inl 8, 0)))), some (.inr (.inr (some (.inl 9, 283)))), some (.inl (nI i + 6))] [] (L, zB1, I', J') ∧ Rel I' := by
  obtain ⟨v, I1, J1, I2, e1, e2, hr2⟩ := p_restore (X := X) (d := d) (L := L) (X 0 (nI i + 1).toNatClampNeg) I J hr
  rw [h1]
  refine ⟨I2, J1, ?_, hr2⟩
  rw [zbt_t, e1, cI_some, bL_law_1370, h1, zbt_t, e2, cI_some, bL_law_1379, if_pos rfl]
theorem l_kind {N0 i : Nat} (hr : Rel I) (h1 : zin (nI i + 1) N0 = true)  : ∃ I' J', zbt (zin (nI i + 1) N0) (cI (zcall X (d + 20) 140 [.inr (.inr (some (.inl 8, 0))), .inl (X 0 (nI i + 1).toNatClampNeg)] (L, zB1, I, J)) (fun r σ => zgo X (zcall X (d + 20)) (some .boolean) kL_law 1393 [some (.inr (.inr (some (.inr (.float, N0), 0)))), some (.inr (.inr (some (.inl 8, 0)))), some (.inr (.inr (some (.inl 9, 283)))), some (.inl (nI i))] [.inl r] σ)) = zgo X (zcall X (d + 20)) (some .boolean) kL_law 18 [some (.inr (.inr (some (.inr (.float, N0), 0)))), some (.inr (.inr (some (.inl 8, 0)))), some (.inr (.inr (some (.inl 9, 283)))), some (.inl (nI i + 6))] [] (L, zB1, I', J') ∧ Rel I' := by
  obtain ⟨v, I1, J1, I2, e1, e2, hr2⟩ := p_kind (X := X) (d := d) (L := L) (X 0 (nI i + 1).toNatClampNeg) I J hr
  rw [h1]
  refine ⟨I2, J1, ?_, hr2⟩
  rw [zbt_t, e1, cI_some, bL_law_1393, h1, zbt_t, e2, cI_some, bL_law_1402, if_pos rfl]
theorem l_as {N0 i : Nat} (hr : Rel I) (h1 : zin (nI i + 1) N0 = true) (h2 : zin (nI i + 2) N0 = true) (hX1 : X 1 = zNr)  : ∃ I' J', zbt (zin (nI i + 1) N0) (zbt (zin (nI i + 2) N0) (cI (zcall X (d + 20) 141 [.inr (.inr (some (.inl 8, 0))), .inl (X 0 (nI i + 1).toNatClampNeg), .inl (X 0 (nI i + 2).toNatClampNeg)] (L, zB1, I, J)) (fun r σ => zgo X (zcall X (d + 20)) (some .boolean) kL_law 1421 [some (.inr (.inr (some (.inr (.float, N0), 0)))), some (.inr (.inr (some (.inl 8, 0)))), some (.inr (.inr (some (.inl 9, 283)))), some (.inl (nI i))] [.inl r] σ))) = zgo X (zcall X (d + 20)) (some .boolean) kL_law 18 [some (.inr (.inr (some (.inr (.float, N0), 0)))), some (.inr (.inr (some (.inl 8, 0)))), some (.inr (.inr (some (.inl 9, 283)))), some (.inl (nI i + 6))] [] (L, zB1, I', J') ∧ Rel I' := by
  obtain ⟨v, I1, J1, I2, e1, e2, hr2⟩ := p_as (X := X) (d := d) (L := L) hX1 (X 0 (nI i + 1).toNatClampNeg) (X 0 (nI i + 2).toNatClampNeg) I J hr
  rw [h1, h2]
  refine ⟨I2, J1, ?_, hr2⟩
  rw [zbt_t, zbt_t, e1, cI_some, bL_law_1421, h1, zbt_t, h2, zbt_t, e2, cI_some, bL_law_1435, if_pos rfl]
theorem l_ask {N0 i : Nat} (hr : Rel I) (h1 : zin (nI i + 1) N0 = true) (h2 : zin (nI i + 2) N0 = true) (hX1 : X 1 = zNr) (hX2 : X 2 = zSz) (hX3 : X 3 = zMk)  : ∃ I' J', zbt (zin (nI i + 1) N0) (zbt (zin (nI i + 2) N0) (cI (zcall X (d + 20) 142 [.inr (.inr (some (.inl 8, 0))), .inl (X 0 (nI i + 1).toNatClampNeg), .inl (X 0 (nI i + 2).toNatClampNeg)] (L, zB1, I, J)) (fun r σ => zgo X (zcall X (d + 20)) (some .boolean) kL_law 1454 [some (.inr (.inr (some (.inr (.float, N0), 0)))), some (.inr (.inr (some (.inl 8, 0)))), some (.inr (.inr (some (.inl 9, 283)))), some (.inl (nI i))] [.inl r] σ))) = zgo X (zcall X (d + 20)) (some .boolean) kL_law 18 [some (.inr (.inr (some (.inr (.float, N0), 0)))), some (.inr (.inr (some (.inl 8, 0)))), some (.inr (.inr (some (.inl 9, 283)))), some (.inl (nI i + 6))] [] (L, zB1, I', J') ∧ Rel I' := by
  obtain ⟨v, I1, J1, I2, e1, e2, hr2⟩ := p_ask (X := X) (d := d) (L := L) hX1 hX2 hX3 (X 0 (nI i + 1).toNatClampNeg) (X 0 (nI i + 2).toNatClampNeg) I J hr
  rw [h1, h2]
  refine ⟨I2, J1, ?_, hr2⟩
  rw [zbt_t, zbt_t, e1, cI_some, bL_law_1454, h1, zbt_t, h2, zbt_t, e2, cI_some, bL_law_1468, if_pos rfl]
theorem l_trace {N0 i : Nat} (hr : Rel I) (h1 : zin (nI i + 1) N0 = true)  : ∃ I' J', zbt (zin (nI i + 1) N0) (cI (zcall X (d + 20) 143 [.inr (.inr (some (.inl 8, 0))), .inl (X 0 (nI i + 1).toNatClampNeg)] (L, zB1, I, J)) (fun r σ => zgo X (zcall X (d + 20)) (some .boolean) kL_law 1482 [some (.inr (.inr (some (.inr (.float, N0), 0)))), some (.inr (.inr (some (.inl 8, 0)))), some (.inr (.inr (some (.inl 9, 283)))), some (.inl (nI i))] [.inl r] σ)) = zgo X (zcall X (d + 20)) (some .boolean) kL_law 18 [some (.inr (.inr (some (.inr (.float, N0), 0)))), some (.inr (.inr (some (.inl 8, 0)))), some (.inr (.inr (some (.inl 9, 283)))), some (.inl (nI i + 6))] [] (L, zB1, I', J') ∧ Rel I' := by
  obtain ⟨v, I1, J1, I2, e1, e2, hr2⟩ := p_trace (X := X) (d := d) (L := L) (X 0 (nI i + 1).toNatClampNeg) I J hr
  rw [h1]
  refine ⟨I2, J1, ?_, hr2⟩
  rw [zbt_t, e1, cI_some, bL_law_1482, h1, zbt_t, e2, cI_some, bL_law_1491, if_pos rfl]
theorem l_count {N0 i : Nat} (hr : Rel I) (h1 : zin (nI i + 1) N0 = true)  : ∃ I' J', zbt (zin (nI i + 1) N0) (cI (zcall X (d + 20) 144 [.inr (.inr (some (.inl 8, 0))), .inl (X 0 (nI i + 1).toNatClampNeg)] (L, zB1, I, J)) (fun r σ => zgo X (zcall X (d + 20)) (some .boolean) kL_law 1505 [some (.inr (.inr (some (.inr (.float, N0), 0)))), some (.inr (.inr (some (.inl 8, 0)))), some (.inr (.inr (some (.inl 9, 283)))), some (.inl (nI i))] [.inl r] σ)) = zgo X (zcall X (d + 20)) (some .boolean) kL_law 18 [some (.inr (.inr (some (.inr (.float, N0), 0)))), some (.inr (.inr (some (.inl 8, 0)))), some (.inr (.inr (some (.inl 9, 283)))), some (.inl (nI i + 6))] [] (L, zB1, I', J') ∧ Rel I' := by
  obtain ⟨v, I1, J1, I2, e1, e2, hr2⟩ := p_count (X := X) (d := d) (L := L) (X 0 (nI i + 1).toNatClampNeg) I J hr
  rw [h1]
  refine ⟨I2, J1, ?_, hr2⟩
  rw [zbt_t, e1, cI_some, bL_law_1505, h1, zbt_t, e2, cI_some, bL_law_1514, if_pos rfl]
theorem l_status {N0 i : Nat} (hr : Rel I)  : ∃ I' J', cI (zcall X (d + 20) 145 [.inr (.inr (some (.inl 8, 0)))] (L, zB1, I, J)) (fun r σ => zgo X (zcall X (d + 20)) (some .boolean) kL_law 1523 [some (.inr (.inr (some (.inr (.float, N0), 0)))), some (.inr (.inr (some (.inl 8, 0)))), some (.inr (.inr (some (.inl 9, 283)))), some (.inl (nI i))] [.inl r] σ) = zgo X (zcall X (d + 20)) (some .boolean) kL_law 18 [some (.inr (.inr (some (.inr (.float, N0), 0)))), some (.inr (.inr (some (.inl 8, 0)))), some (.inr (.inr (some (.inl 9, 283)))), some (.inl (nI i + 6))] [] (L, zB1, I', J') ∧ Rel I' := by
  obtain ⟨v, I1, J1, I2, e1, e2, hr2⟩ := p_status (X := X) (d := d) (L := L)  I J hr
  refine ⟨I2, J1, ?_, hr2⟩
  rw [e1, cI_some, bL_law_1523, e2, cI_some, bL_law_1527, if_pos rfl]
theorem l_step (hX1 : X 1 = zNr) (hX2 : X 2 = zSz) (hX3 : X 3 = zMk) {N0 i : Nat} (hN : N0 ≤ 3072) (hi : i + 6 ≤ N0) (hr : Rel I) : ∃ I' J', zgo X (zcall X (d + 20)) (some .boolean) kL_law 18 [some (.inr (.inr (some (.inr (.float, N0), 0)))), some (.inr (.inr (some (.inl 8, 0)))), some (.inr (.inr (some (.inl 9, 283)))), some (.inl (nI i))] [] (L, zB1, I, J) = zgo X (zcall X (d + 20)) (some .boolean) kL_law 18 [some (.inr (.inr (some (.inr (.float, N0), 0)))), some (.inr (.inr (some (.inl 8, 0)))), some (.inr (.inr (some (.inl 9, 283)))), some (.inl (nI i + 6))] [] (L, zB1, I', J') ∧ Rel I' := by
  have hk : ∀ k, k < 6 → zin (nI i + nI k) N0 = true := fun k hk => by rw [nI_add]; exact zin_nI (by omega) (by omega)
  have h1 : zin (nI i + 1) N0 = true := hk 1 (by omega)
  have h2 : zin (nI i + 2) N0 = true := hk 2 (by omega)
  have h3 : zin (nI i + 3) N0 = true := hk 3 (by omega)
  have h4 : zin (nI i + 4) N0 = true := hk 4 (by omega)
  have h5 : zin (nI i + 5) N0 = true := hk 5 (by omega)
  have e6 : (Int32.ofNat N0 - 6).toInt = (N0 : Int) - 6 := by
    have ek : (6 : Int32).toInt = 6 := rfl
    show (nI N0 - 6).toInt = _
    rw [Jvm.Kit.i32_sub (by rw [nI_int (by omega), ek]; omega) (by rw [nI_int (by omega), ek]; omega), nI_int (by omega), ek]
  rw [bL_law_18, if_neg (by rw [i32_lt, e6, nI_int (by omega)]; omega), zin_nI (show i < N0 by omega) (by omega), zbt_t, ncl (by omega)]
  by_cases q0 : X 0 i &&& 63 = 0
  · rw [if_pos q0]
    exact l_row hr h1 h2 h3
  · rw [if_neg q0]
    by_cases q1 : X 0 i &&& 63 = 1
    · rw [if_pos q1]
      exact l_set hr h1 h2 h3
    · rw [if_neg q1]
      by_cases q2 : X 0 i &&& 63 = 2
      · rw [if_pos q2]
        exact l_copy hr h1 h2 h3 h4 h5
      · rw [if_neg q2]
        by_cases q3 : X 0 i &&& 63 = 3
        · rw [if_pos q3]
          exact l_drop hr h1
        · rw [if_neg q3]
          by_cases q4 : X 0 i &&& 63 = 4
          · rw [if_pos q4]
            exact l_feed hr h1
          · rw [if_neg q4]
            by_cases q5 : X 0 i &&& 63 = 5
            · rw [if_pos q5]
              exact l_circuit hr 
            · rw [if_neg q5]
              by_cases q6 : X 0 i &&& 63 = 6
              · rw [if_pos q6]
                exact l_fault hr 
              · rw [if_neg q6]
                by_cases q7 : X 0 i &&& 63 = 7
                · rw [if_pos q7]
                  exact l_undo hr 
                · rw [if_neg q7]
                  by_cases q8 : X 0 i &&& 63 = 8
                  · rw [if_pos q8]
                    exact l_years hr h1
                  · rw [if_neg q8]
                    by_cases q9 : X 0 i &&& 63 = 9
                    · rw [if_pos q9]
                      exact l_send hr h1 h2
                    · rw [if_neg q9]
                      by_cases q10 : X 0 i &&& 63 = 10
                      · rw [if_pos q10]
                        exact l_sentence hr h1 h2
                      · rw [if_neg q10]
                        by_cases q11 : X 0 i &&& 63 = 11
                        · rw [if_pos q11]
                          exact l_gate hr h1 h2
                        · rw [if_neg q11]
                          by_cases q12 : X 0 i &&& 63 = 12
                          · rw [if_pos q12]
                            exact l_severe hr h1 h2
                          · rw [if_neg q12]
                            by_cases q13 : X 0 i &&& 63 = 13
                            · rw [if_pos q13]
                              exact l_retry hr h1 h2 h3
                            · rw [if_neg q13]
                              by_cases q14 : X 0 i &&& 63 = 14
                              · rw [if_pos q14]
                                exact l_man hr h1 h2
                              · rw [if_neg q14]
                                by_cases q15 : X 0 i &&& 63 = 15
                                · rw [if_pos q15]
                                  exact l_judge hr h1 h2
                                · rw [if_neg q15]
                                  by_cases q16 : X 0 i &&& 63 = 16
                                  · rw [if_pos q16]
                                    exact l_stand hr h1
                                  · rw [if_neg q16]
                                    by_cases q17 : X 0 i &&& 63 = 17
                                    · rw [if_pos q17]
                                      exact l_ahead hr h1 h2 h3
                                    · rw [if_neg q17]
                                      by_cases q18 : X 0 i &&& 63 = 18
                                      · rw [if_pos q18]
                                        exact l_by hr h1 h2
                                      · rw [if_neg q18]
                                        by_cases q19 : X 0 i &&& 63 = 19
                                        · rw [if_pos q19]
                                          exact l_when hr h1 h2
                                        · rw [if_neg q19]
                                          by_cases q20 : X 0 i &&& 63 = 20
                                          · rw [if_pos q20]
                                            exact l_sending hr h1 h2
                                          · rw [if_neg q20]
                                            by_cases q21 : X 0 i &&& 63 = 21
                                            · rw [if_pos q21]
                                              exact l_gates hr h1 h2
                                            · rw [if_neg q21]
                                              by_cases q22 : X 0 i &&& 63 = 22
                                              · rw [if_pos q22]
                                                exact l_let hr h1 h2
                                              · rw [if_neg q22]
                                                by_cases q23 : X 0 i &&& 63 = 23
                                                · rw [if_pos q23]
                                                  exact l_closest hr h1 h2
                                                · rw [if_neg q23]
                                                  by_cases q24 : X 0 i &&& 63 = 24
                                                  · rw [if_pos q24]
                                                    exact l_share hr h1 h2
                                                  · rw [if_neg q24]
                                                    by_cases q25 : X 0 i &&& 63 = 25
                                                    · rw [if_pos q25]
                                                      exact l_byTurns hr h1 h2 h3 h4
                                                    · rw [if_neg q25]
                                                      by_cases q26 : X 0 i &&& 63 = 26
                                                      · rw [if_pos q26]
                                                        exact l_who hr h1 h2 h3 h4 h5
                                                      · rw [if_neg q26]
                                                        by_cases q27 : X 0 i &&& 63 = 27
                                                        · rw [if_pos q27]
                                                          exact l_severes hr h1 h2 h3 h4 h5
                                                        · rw [if_neg q27]
                                                          by_cases q28 : X 0 i &&& 63 = 28
                                                          · rw [if_pos q28]
                                                            exact l_likes hr h1 h2 h3 h4 h5
                                                          · rw [if_neg q28]
                                                            by_cases q29 : X 0 i &&& 63 = 29
                                                            · rw [if_pos q29]
                                                              exact l_fence hr h1 h2 h3 h4
                                                            · rw [if_neg q29]
                                                              by_cases q30 : X 0 i &&& 63 = 30
                                                              · rw [if_pos q30]
                                                                exact l_drawn hr h1 h2 h3
                                                              · rw [if_neg q30]
                                                                by_cases q31 : X 0 i &&& 63 = 31
                                                                · rw [if_pos q31]
                                                                  exact l_image hr h1
                                                                · rw [if_neg q31]
                                                                  by_cases q32 : X 0 i &&& 63 = 32
                                                                  · rw [if_pos q32]
                                                                    exact l_restore hr h1
                                                                  · rw [if_neg q32]
                                                                    by_cases q33 : X 0 i &&& 63 = 33
                                                                    · rw [if_pos q33]
                                                                      exact l_kind hr h1
                                                                    · rw [if_neg q33]
                                                                      by_cases q34 : X 0 i &&& 63 = 34
                                                                      · rw [if_pos q34]
                                                                        exact l_as hr h1 h2 hX1
                                                                      · rw [if_neg q34]
                                                                        by_cases q35 : X 0 i &&& 63 = 35
                                                                        · rw [if_pos q35]
                                                                          exact l_ask hr h1 h2 hX1 hX2 hX3
                                                                        · rw [if_neg q35]
                                                                          by_cases q36 : X 0 i &&& 63 = 36
                                                                          · rw [if_pos q36]
                                                                            exact l_trace hr h1
                                                                          · rw [if_neg q36]
                                                                            by_cases q37 : X 0 i &&& 63 = 37
                                                                            · rw [if_pos q37]
                                                                              exact l_count hr h1
                                                                            · rw [if_neg q37]
                                                                              by_cases q38 : X 0 i &&& 63 = 38
                                                                              · rw [if_pos q38]
                                                                                exact l_status hr 
                                                                              · rw [if_neg q38]
                                                                                exact ⟨I, J, rfl, hr⟩
end LAW
