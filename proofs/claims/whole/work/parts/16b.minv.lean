/-! what stays so of a circuit; the reference's years -/
def rg (x9 : Int32) (lo hi : Int) : Prop := lo ≤ x9.toInt ∧ x9.toInt ≤ hi
theorem rg_eq {x9 : Int32} {k : Nat} (hk : k < 2 ^ 31) (h : x9.toInt = (k : Int)) : x9 = nI k := Int32.toInt_inj.mp (by rw [h, nI_int hk])
theorem rg01 {x9 : Int32} (h : rg x9 0 1) : x9 = 0 ∨ x9 = 1 := by
  have h1 := h.1
  have h2 := h.2
  by_cases e : x9.toInt = 0
  · exact Or.inl (rg_eq (k := 0) (by omega) (by omega))
  · exact Or.inr (rg_eq (k := 1) (by omega) (by omega))
theorem rg15 {x9 : Int32} (h : rg x9 1 5) : x9 = 1 ∨ x9 = 2 ∨ x9 = 3 ∨ x9 = 4 ∨ x9 = 5 := by
  have h1 := h.1
  have h2 := h.2
  by_cases e : x9.toInt = 1
  · exact Or.inl (rg_eq (k := 1) (by omega) (by omega))
  by_cases e : x9.toInt = 2
  · exact Or.inr (Or.inl (rg_eq (k := 2) (by omega) (by omega)))
  by_cases e : x9.toInt = 3
  · exact Or.inr (Or.inr (Or.inl (rg_eq (k := 3) (by omega) (by omega))))
  by_cases e : x9.toInt = 4
  · exact Or.inr (Or.inr (Or.inr (Or.inl (rg_eq (k := 4) (by omega) (by omega)))))
  · exact Or.inr (Or.inr (Or.inr (Or.inr (rg_eq (k := 5) (by omega) (by omega)))))
theorem rg03 {x9 : Int32} (h : rg x9 0 3) : x9 = 0 ∨ x9 = 1 ∨ x9 = 2 ∨ x9 = 3 := by
  have h1 := h.1
  have h2 := h.2
  by_cases e : x9.toInt = 0
  · exact Or.inl (rg_eq (k := 0) (by omega) (by omega))
  by_cases e : x9.toInt = 1
  · exact Or.inr (Or.inl (rg_eq (k := 1) (by omega) (by omega)))
  by_cases e : x9.toInt = 2
  · exact Or.inr (Or.inr (Or.inl (rg_eq (k := 2) (by omega) (by omega))))
  · exact Or.inr (Or.inr (Or.inr (rg_eq (k := 3) (by omega) (by omega))))
def Im (c : Cr) (m : Nat) : Prop := rg (c 3 m) 1 5 ∧ zin (c 4 m) (jud c) = true ∧ rg (c 5 m) 0 3 ∧ rg (c 6 m) 0 30 ∧ rg (c 7 m) 0 99 ∧ (serving c m = true → 1 ≤ (c 6 m).toInt)
def Iv (c : Cr) : Prop := Cn c ∧ rg (c 0 2) 0 9 ∧ (∀ j, j < jud c → rg (c 1 j) 0 9 ∧ rg (c 2 j) 0 1) ∧ ∀ m, m < men c → Im c m
theorem i0 : (0 : Int32).toInt = 0 := rfl
theorem i1 : (1 : Int32).toInt = 1 := rfl
theorem i2 : (2 : Int32).toInt = 2 := rfl
theorem i3 : (3 : Int32).toInt = 3 := rfl
theorem i99 : (99 : Int32).toInt = 99 := rfl
theorem thS_rg {c : Cr} (hb : rg (c 0 2) 0 9) {j : Nat} (h : rg (c 1 j) 0 9 ∧ rg (c 2 j) 0 1) : rg (thS c j) 0 10 := by
  obtain ⟨⟨h1, h2⟩, ⟨h3, h4⟩⟩ := h
  obtain ⟨h5, h6⟩ := hb
  have ed : (c 1 j / 3).toInt = (c 1 j).toInt / 3 := by
    rw [Jvm.Kit.i32_div (by rw [i3]; omega), i3, Int.tdiv_eq_ediv_of_nonneg h1]
  have es : (c 0 2 - c 1 j / 3).toInt = (c 0 2).toInt - (c 1 j).toInt / 3 := by
    rw [Jvm.Kit.i32_sub (by rw [ed]; omega) (by rw [ed]; omega), ed]
  unfold thS rg
  split
  · rename_i hp
    rw [i32_lt, es, i0] at hp
    rw [Jvm.Kit.i32_add (by rw [es]; omega) (by rw [es]; omega), es]
    omega
  · rw [Jvm.Kit.i32_add (by rw [i0]; omega) (by rw [i0]; omega), i0]
    omega
theorem wrS_rg {c : Cr} {j : Nat} (h : rg (c 1 j) 0 9 ∧ rg (c 2 j) 0 1) : rg (wrS c j) 0 9 := by
  unfold wrS
  split
  · exact h.1
  · exact ⟨by rw [i0]; omega, by rw [i0]; omega⟩
theorem grS_rg {c : Cr} (hv : Iv c) (m : Nat) : rg (grS c m) 0 20 := by
  unfold grS
  have z : rg 0 0 20 := ⟨by rw [i0]; omega, by rw [i0]; omega⟩
  split
  · rename_i hz
    obtain ⟨j, hj, ej⟩ := zin_of hz
    have h4 := hv.1.2.2.2
    have ejof : jof c m = j := by unfold jof; rw [ej, ncl (by omega)]
    rw [ejof]
    obtain ⟨t1, t2⟩ := thS_rg hv.2.1 (hv.2.2.1 j hj)
    obtain ⟨w1, w2⟩ := wrS_rg (hv.2.2.1 j hj)
    have m2 : (2 * thS c j).toInt = 2 * (thS c j).toInt := by
      rw [Jvm.Kit.i32_mul (by rw [i2]; omega) (by rw [i2]; omega), i2]
    have a1 : (wrS c j + 1).toInt = (wrS c j).toInt + 1 := by
      rw [Jvm.Kit.i32_add (by rw [i1]; omega) (by rw [i1]; omega), i1]
    unfold rg
    split
    · omega
    · split
      · omega
      · split
        · split
          · rw [m2]; omega
          · omega
        · split
          · omega
          · split
            · rw [a1]; omega
            · exact z
  · exact z
section MYEAR
variable {X : Nat → Nat → Int32} {d : Nat} {L : List zK} {I : Nat → Nat → Int32} {J : Nat → Nat → Int64} {r : Nat} {c : Cr}
theorem m_gainOf (h : MAt I r c) (hv : Iv c) {m : Nat} (hm : m < men c) : zcall X (d + 2) 186 [.inr (.inr (some (.inr (.int, 43), r))), .inl (nI m)] (L, zB1, I, J) = some (some (.inl (grS c m)), (L, zB1, I, J)) := by
  have hn := hv.1
  have h6 := hn.2.1
  have h4 := hn.2.2.2
  have hI := hv.2.2.2 m hm
  obtain ⟨j, hj, ej⟩ := zin_of hI.2.1
  have ejof : jof c m = j := by unfold jof; rw [ej, ncl (by omega)]
  have hg := hv.2.2.1 j hj
  have e2 : I r (2 : Int32).toNatClampNeg = c 0 2 := h 0 2 (v0 (by omega))
  have e4 : I r (4 : Int32).toNatClampNeg = c 0 4 := h 0 4 (v0 (by omega))
  rw [eX9_gainOf, m_of1 h hn hm, cI_some, bX9_gainOf_6, m_of0 h hn hm, cI_some, bX9_gainOf_13, ej, m_severeOf h hn hj, m_isOpen h hn hj, cI_some, cI_some, show zin 2 43 = true from rfl, zbt_t, e2, bX9_gainOf_24, m_severeOf h hn hj, cI_some, bX9_gainOf_32, bX9_gainOf_36, bX9_gainOf_36, bX9_gainOf_61, m_isOpen h hn hj, cI_some, cI_some, if_neg (show ¬ (3 : Int32) = 0 by decide), bX9_gainOf_82, bX9_gainOf_82]
  have f90 : ∀ (v4 s0 s1 : Int32), zgo X (zcall X (d+1)) (some .int) kX9_gainOf 90 [some (.inr (.inr (some (.inr (.int, 43), r)))), some (.inl (nI m)), some (.inl (nI j)), some (.inl (c 3 m)), some (.inl (v4)), none] [.inl s0, .inl s1] (L, zB1, I, J) = some (some (.inl (if c 3 m = 3 then (if c 0 4 - c 0 4 / 2 * 2 = 1 then 2 * (s1 + s0) else s1 + s0) else s1 + s0)), (L, zB1, I, J)) := by
    intro v4 s0 s1
    rw [bX9_gainOf_90, show zin 4 43 = true from rfl, zbt_t, e4, if_neg (show ¬ (2 : Int32) = 0 by decide)]
    split
    · split <;> rfl
    · rfl
  rw [f90, f90, f90, f90]
  unfold grS
  rw [hI.2.1, if_pos rfl, ejof]
  unfold thS wrS
  have hx : (if (0 : Int32) < c 0 2 - c 1 j / 3 then c 0 2 - c 1 j / 3 else 0) = (if (0 : Int32) ≤ c 0 2 - c 1 j / 3 then c 0 2 - c 1 j / 3 else 0) := by
    generalize c 0 2 - c 1 j / 3 = w
    by_cases q : 0 < w
    · rw [if_pos q, if_pos (by rw [i32_lt] at q; rw [i32_le]; omega)]
    · rw [if_neg q]
      split
      · rename_i q2
        apply Int32.toInt_inj.mp
        rw [i32_lt] at q; rw [i32_le] at q2
        omega
      · rfl
  rw [hx]
  have l4 : (c 3 m = 1 ∨ c 3 m = 2 ∨ c 3 m = 3) → c 3 m < 4 := by rintro (e | e | e) <;> rw [e] <;> decide
  have g4 : (c 3 m = 4 ∨ c 3 m = 5) → ¬ c 3 m < 4 := by rintro (e | e) <;> rw [e] <;> decide
  rcases rg01 hg.2 with eg | eg <;> rw [eg]
  all_goals
    rcases rg15 hI.1 with e | e | e | e | e <;> rw [e]
    all_goals
      by_cases q : (0 : Int32) ≤ c 0 2 - c 1 j / 3
      · simp [q, b2i]
      · simp [q, b2i]
theorem m_whoIsBy (h : MAt I r c) (hn : Cn c) (q : Int32) : zcall X (d + 2) 185 [.inr (.inr (some (.inr (.int, 43), r))), .inl q] (L, zB1, I, J) = some (some (.inl (nbS c q)), (L, zB1, I, J)) := by
  have h6 := hn.2.1
  have e0 : I r (0 : Int32).toNatClampNeg = nI (men c) := h.men hn
  rw [eX9_whoIsBy]
  have := zsearch (fun j => zgo X (zcall X (d+1)) (some .int) kX9_whoIsBy 2 [some (.inr (.inr (some (.inr (.int, 43), r)))), some (.inl (q)), some (.inl (nI j))] [] (L, zB1, I, J)) (fun m => decide (c 4 m = q) && housed c m) (fun i => some (some (.inl (nI i)), (L, zB1, I, J))) (men c) 0 (fun j _ hj => by
    have hj : j < men c := by omega
    try dsimp only
    rw [bX9_whoIsBy_2, show zin 0 43 = true from rfl, zbt_t, e0, if_neg (by rw [nle (by omega) (by omega)]; omega), m_of1 h hn hj, cI_some, bX9_whoIsBy_15, m_of3 h hn hj, cI_some, bX9_whoIsBy_25, m_of3 h hn hj, cI_some, bX9_whoIsBy_35, nI_1]
    unfold housed
    by_cases h1 : c 4 j = q
    · rw [if_pos h1, decide_eq_true h1, Bool.true_and]
      by_cases h2 : c 5 j = 1
      · rw [if_pos h2, decide_eq_true (Or.inl h2)]
      · rw [if_neg h2]
        by_cases h3 : c 5 j = 3
        · rw [if_pos h3, decide_eq_true (Or.inr h3)]
        · rw [if_neg h3, decide_eq_false (by rintro (h | h) <;> contradiction)]
    · rw [if_neg h1, decide_eq_false h1, Bool.false_and])
  refine (show _ = _ from this).trans ?_
  unfold nbS
  cases zfirst (fun m => decide (c 4 m = q) && housed c m) (men c) 0 with
  | some m => rfl
  | none =>
    show zgo X (zcall X (d+1)) (some .int) kX9_whoIsBy 2 [some (.inr (.inr (some (.inr (.int, 43), r)))), some (.inl (q)), some (.inl (nI (0 + men c)))] [] (L, zB1, I, J) = _
    rw [bX9_whoIsBy_2, show zin 0 43 = true from rfl, zbt_t, e0, if_pos (by rw [nle (by omega) (by omega)]; omega)]
theorem m_those (h : MAt I r c) (hn : Cn c) (st : Int32) : zcall X (d + 2) 184 [.inr (.inr (some (.inr (.int, 43), r))), .inl st] (L, zB1, I, J) = some (some (.inl (whoS c st)), (L, zB1, I, J)) := by
  have h6 := hn.2.1
  have e0 : I r (0 : Int32).toNatClampNeg = nI (men c) := h.men hn
  rw [eX9_those]
  have := zloop (fun j a => zgo X (zcall X (d+1)) (some .int) kX9_those 4 [some (.inr (.inr (some (.inr (.int, 43), r)))), some (.inl (st)), some (.inl (a)), some (.inl (nI j))] [] (L, zB1, I, J)) (fun m a => if c 5 m = st then a ||| (1 <<< (nI m &&& 31)) else a) 0 (men c) (fun j hj => by
    try dsimp only
    rw [bX9_those_4, show zin 0 43 = true from rfl, zbt_t, e0, if_neg (by rw [nle (by omega) (by omega)]; omega), m_of3 h hn hj, cI_some, bX9_those_18, bX9_those_29, bX9_those_29, nI_1]
    split
    · rfl
    · rw [Int32.or_zero])
  refine (show _ = _ from this).trans ?_
  try dsimp only
  rw [bX9_those_4, show zin 0 43 = true from rfl, zbt_t, e0, if_pos (by rw [nle (by omega) (by omega)]; omega)]
  rfl
end MYEAR
