/-! the class's circuit: growth -/
def jof (c : Cr) (m : Nat) : Nat := (c 4 m).toNatClampNeg
def thS (c : Cr) (j : Nat) : Int32 := (if 0 < c 0 2 - c 1 j / 3 then c 0 2 - c 1 j / 3 else 0) + c 2 j
def wrS (c : Cr) (j : Nat) : Int32 := if c 2 j = 1 then c 1 j else 0
/-- by how much the trust of a man grows -/
def grS (c : Cr) (m : Nat) : Int32 := if zin (c 4 m) (jud c) = true then (if c 3 m = 1 then thS c (jof c m) else if c 3 m = 2 then thS c (jof c m) else if c 3 m = 3 then (if c 0 4 - c 0 4 / 2 * 2 = 1 then 2 * thS c (jof c m) else thS c (jof c m)) else if c 3 m = 4 then wrS c (jof c m) else if c 3 m = 5 then wrS c (jof c m) + 1 else 0) else 0
section CGROW
variable {X : Nat → Nat → Int32} {d : Nat} {L : List zK} {I : Nat → Nat → Int32} {J : Nat → Nat → Int64} {b : Nat} {c : Cr}
theorem c_growthOf (h : CAt I b c) (hn : Cn c) {m : Nat} (hm : m < men c) : zcall X (d + 2) 23 [.inr (.inr (some (.inl 1, b))), .inl (nI m)] (L, zB1, I, J) = some (some (.inl (grS c m)), (L, zB1, I, J)) := by
  have h6 := hn.2.1
  have h4 := hn.2.2.2
  rw [eX1_growthOf, c_isMan h hn, cI_some, bX1_growthOf_5, zin_nI hm (by omega), zin_nI (show m < 6 by omega) (by omega), zbt_t, ncl (by omega), h.m hm 4 (by omega) (by omega), c_isJudge h hn, cI_some, if_neg (by decide)]
  unfold grS
  cases hz : zin (c 4 m) (jud c) with
  | false =>
    rw [bX1_growthOf_18, b2i_f, if_pos rfl, if_neg (by decide)]
  | true =>
  obtain ⟨j, hj, ej⟩ := zin_of hz
  have ejof : jof c m = j := by unfold jof; rw [ej, ncl (by omega)]
  rw [if_pos rfl]
  rw [bX1_growthOf_18, zin_nI (show m < 6 by omega) (by omega), ncl (show m < 2 ^ 31 by omega), h.m hm 4 (by omega) (by omega), ej, zin_nI (show j < 4 by omega) (by omega), ncl (show j < 2 ^ 31 by omega), h.j hj 1 (by omega) (by omega), h.j hj 2 (by omega) (by omega), zbt_t, zbt_t, zbt_t, zbt_t, if_neg (by decide), if_neg (by decide), j_max, cI_some]
  have e2 : I b 2 = c 0 2 := h 0 2 (v0 (by omega))
  have e4 : I b 4 = c 0 4 := h 0 4 (v0 (by omega))
  have fin : ∀ s0 v4 : Int32, zgo X (zcall X (d+1)) (some .int) kX1_growthOf 73 [some (.inr (.inr (some (.inl 1, b)))), some (.inl (nI m)), some (.inl (c 1 j)), some (.inl (c 2 j)), some (.inl (v4)), none] [.inl s0] (L, zB1, I, J) = some (some (.inl (if c 3 m = 1 then v4 else if c 3 m = 2 then v4 else if c 3 m = 3 then (if c 0 4 - c 0 4 / 2 * 2 = 1 then 2 * v4 else v4) else if c 3 m = 4 then s0 else if c 3 m = 5 then s0 + 1 else 0)), (L, zB1, I, J)) := by
    intro s0 v4
    rw [bX1_growthOf_73, zin_nI (show m < 6 by omega) (by omega), zbt_t, ncl (by omega), h.m hm 3 (by omega) (by omega), e4, if_neg (show ¬ (2 : Int32) = 0 by decide)]
    split
    · rfl
    · split
      · rfl
      · split
        · split <;> rfl
        · split
          · rfl
          · split <;> rfl
  rw [bX1_growthOf_59, fin, fin, e2]
  unfold thS wrS
  rw [ejof]
  by_cases h1 : c 2 j = 1
  · rw [if_pos h1, if_pos h1]
  · rw [if_neg h1, if_neg h1]
end CGROW
