/-! the class's circuit: more reads -/
section CREAD2
variable {X : Nat → Nat → Int32} {d : Nat} {L : List zK} {I : Nat → Nat → Int32} {J : Nat → Nat → Int64} {b : Nat} {c : Cr}
theorem j_max (x9 y9 : Int32) : zcall X (d + 1) 2 [.inl x9, .inl y9] (L, zB1, I, J) = some (some (.inl (if x9 < y9 then y9 else x9)), (L, zB1, I, J)) := by
  rw [eJ9_max_7cf53]
  split <;> rfl
theorem j_min (x9 y9 : Int32) : zcall X (d + 1) 3 [.inl x9, .inl y9] (L, zB1, I, J) = some (some (.inl (if y9 < x9 then y9 else x9)), (L, zB1, I, J)) := by
  rw [eJ9_min_7cf53]
  split <;> rfl
def housed (c : Cr) (m : Nat) : Bool := decide (c 5 m = 1 ∨ c 5 m = 3)
def serving (c : Cr) (m : Nat) : Bool := decide (c 5 m = 0 ∨ c 5 m = 1)
def nbS (c : Cr) (q : Int32) : Int32 := match zfirst (fun m => decide (c 4 m = q) && housed c m) (men c) 0 with
  | some m => nI m
  | none => -1000000
theorem c_neighbourOf (h : CAt I b c) (hn : Cn c) (q : Int32) : zcall X (d + 3) 27 [.inr (.inr (some (.inl 1, b))), .inl q] (L, zB1, I, J) = some (some (.inl (nbS c q)), (L, zB1, I, J)) := by
  have h6 := hn.2.1
  rw [eX1_neighbourOf]
  have := zsearch (fun j => zgo X (zcall X (d + 2)) (some .int) kX1_neighbourOf 2 [some (.inr (.inr (some (.inl 1, b)))), some (.inl q), some (.inl (nI j))] [] (L, zB1, I, J)) (fun m => decide (c 4 m = q) && housed c m) (fun i => some (some (.inl (nI i)), (L, zB1, I, J))) (men c) 0 (fun j _ hj => by
    have hj : j < men c := by omega
    try dsimp only
    rw [bX1_neighbourOf_2, h.men hn, if_neg (by rw [nle (by omega) (by omega)]; omega), zin_nI (show j < 6 by omega) (by omega), zbt_t, ncl (by omega), h.m hj 4 (by omega) (by omega), nI_1]
    by_cases h1 : c 4 j = q
    · rw [if_pos h1, c_isHoused h hn hj, cI_some, bX1_neighbourOf_25, nI_1, decide_eq_true h1]
      unfold housed
      cases decide (c 5 j = 1 ∨ c 5 j = 3) with
      | true => exact if_neg (by decide)
      | false => exact if_pos rfl
    · rw [if_neg h1, decide_eq_false h1]
      rfl)
  refine (show _ = _ from this).trans ?_
  unfold nbS
  cases zfirst (fun m => decide (c 4 m = q) && housed c m) (men c) 0 with
  | some m => rfl
  | none =>
    show zgo X (zcall X (d + 2)) (some .int) kX1_neighbourOf 2 [some (.inr (.inr (some (.inl 1, b)))), some (.inl q), some (.inl (nI (0 + men c)))] [] (L, zB1, I, J) = _
    rw [bX1_neighbourOf_2, h.men hn, if_pos (by rw [nle (by omega) (by omega)]; omega)]
def wfS (c : Cr) (q : Int32) : Int32 := zfold (men c) 0 (fun m a => if c 4 m = q then (if c 5 m = 0 then a ||| (1 <<< (nI m &&& 31)) else a) else a)
theorem c_waitersFor (h : CAt I b c) (hn : Cn c) (q : Int32) : zcall X (d + 1) 28 [.inr (.inr (some (.inl 1, b))), .inl q] (L, zB1, I, J) = some (some (.inl (wfS c q)), (L, zB1, I, J)) := by
  have h6 := hn.2.1
  rw [eX1_waitersFor]
  have := zloop (fun j a => zgo X (zcall X d) (some .int) kX1_waitersFor 4 [some (.inr (.inr (some (.inl 1, b)))), some (.inl q), some (.inl a), some (.inl (nI j))] [] (L, zB1, I, J)) (fun m a => if c 4 m = q then (if c 5 m = 0 then a ||| (1 <<< (nI m &&& 31)) else a) else a) 0 (men c) (fun j hj => by
    try dsimp only
    rw [bX1_waitersFor_4, h.men hn, if_neg (by rw [nle (by omega) (by omega)]; omega), zin_nI (show j < 6 by omega) (by omega), zbt_t, zbt_t, ncl (by omega), h.m hj 4 (by omega) (by omega), h.m hj 5 (by omega) (by omega), nI_1]
    by_cases h1 : c 4 j = q
    · rw [if_pos h1, if_pos h1]
      split <;> rfl
    · rw [if_neg h1, if_neg h1])
  refine (show _ = _ from this).trans ?_
  try dsimp only
  rw [bX1_waitersFor_4, h.men hn, if_pos (by rw [nle (by omega) (by omega)]; omega)]
  rfl
def taS (c : Cr) : Int32 := zfold (men c) 0 (fun m a => a + c 7 m)
theorem c_trustOfAll (h : CAt I b c) (hn : Cn c) : zcall X (d + 1) 29 [.inr (.inr (some (.inl 1, b)))] (L, zB1, I, J) = some (some (.inl (taS c)), (L, zB1, I, J)) := by
  have h6 := hn.2.1
  rw [eX1_trustOfAll]
  have := zloop (fun j a => zgo X (zcall X d) (some .int) kX1_trustOfAll 4 [some (.inr (.inr (some (.inl 1, b)))), some (.inl a), some (.inl (nI j))] [] (L, zB1, I, J)) (fun m a => a + c 7 m) 0 (men c) (fun j hj => by
    try dsimp only
    rw [bX1_trustOfAll_4, h.men hn, if_neg (by rw [nle (by omega) (by omega)]; omega), zin_nI (show j < 6 by omega) (by omega), zbt_t, ncl (by omega), h.m hj 7 (by omega) (by omega), nI_1])
  refine (show _ = _ from this).trans ?_
  try dsimp only
  rw [bX1_trustOfAll_4, h.men hn, if_pos (by rw [nle (by omega) (by omega)]; omega)]
  rfl
def ttS (c : Cr) (q : Int32) : Int32 := zfold (men c) 0 (fun m a => a + (if c 4 m = q then c 7 m else 0))
theorem c_trustTowards (h : CAt I b c) (hn : Cn c) (q : Int32) : zcall X (d + 1) 30 [.inr (.inr (some (.inl 1, b))), .inl q] (L, zB1, I, J) = some (some (.inl (ttS c q)), (L, zB1, I, J)) := by
  have h6 := hn.2.1
  rw [eX1_trustTowards]
  have := zloop (fun j a => zgo X (zcall X d) (some .int) kX1_trustTowards 4 [some (.inr (.inr (some (.inl 1, b)))), some (.inl q), some (.inl a), some (.inl (nI j))] [] (L, zB1, I, J)) (fun m a => a + (if c 4 m = q then c 7 m else 0)) 0 (men c) (fun j hj => by
    try dsimp only
    rw [bX1_trustTowards_4, h.men hn, if_neg (by rw [nle (by omega) (by omega)]; omega), zin_nI (show j < 6 by omega) (by omega), zbt_t, zbt_t, ncl (by omega), h.m hj 4 (by omega) (by omega), h.m hj 7 (by omega) (by omega), bX1_trustTowards_33, bX1_trustTowards_33, nI_1]
    split <;> rfl)
  refine (show _ = _ from this).trans ?_
  try dsimp only
  rw [bX1_trustTowards_4, h.men hn, if_pos (by rw [nle (by omega) (by omega)]; omega)]
  rfl
end CREAD2
