/-! as, ask -/
theorem MAt.o {I : Nat → Nat → Int32} {r a i : Nat} {v : Int32} {c : Cr} (h : MAt I r c) (hr : r ≠ a) : MAt (zup I a i v) r c := by
  intro f i hv
  rw [zup_ne hr]
  exact h f i hv
theorem rg05 {x9 : Int32} (h : wi x9 0 5 = true) : x9 = 0 ∨ x9 = 1 ∨ x9 = 2 ∨ x9 = 3 ∨ x9 = 4 ∨ x9 = 5 := by
  rw [wi_iff] at h
  by_cases q : x9.toInt = 0
  · exact Or.inl (rg_eq (k := 0) (by decide) q)
  · exact Or.inr (rg15 ⟨by omega, h.2⟩)
def isB (k v : Int32) : Bool := decide (v = 0) || (decide (k = v) || ((decide (v = 1) && decide (k < 4)) || (decide (v = 4) && decide (k = 5))))
section ASKS
variable {X : Nat → Nat → Int32} {d : Nat} {L : List zK} {I : Nat → Nat → Int32} {J : Nat → Nat → Int64}
theorem c_isOfKind (hX : X 1 = zNr) {k v : Int32} (hk : rg k 1 5) (hv : wi v 0 5 = true) : zcall X (d + 1) 151 [.inl k, .inl v] (L, zB1, I, J) = some (some (.inl (b2i (isB k v))), (L, zB1, I, J)) := by
  have hnr : ∀ k : Int32, X 1 k.toNatClampNeg = zNr k.toNatClampNeg := fun k => by rw [hX]
  rcases rg15 hk with rfl | rfl | rfl | rfl | rfl <;> rcases rg05 hv with rfl | rfl | rfl | rfl | rfl | rfl <;> rw [eX8_isOfKind] <;> repeat (first | rfl | (rw [bX8_isOfKind_4, if_neg (by decide), if_pos (by decide)]; rfl) | (rw [bX8_isOfKind_4, if_neg (by decide), if_neg (by decide), if_pos (by decide)]; rfl) | (rw [bX8_isOfKind_4, if_neg (by decide), if_neg (by decide), if_neg (by decide), if_pos (by decide), show zin _ 6 = true from by decide, zbt_t, hnr]))
theorem m_isOf (k v : Int32) : zcall X (d + 1) 229 [.inl k, .inl v] (L, zB1, I, J) = some (some (.inl (b2i (isB k v))), (L, zB1, I, J)) := by
  rw [eX9_isOf, bX9_isOf_19]
  unfold isB
  by_cases q1 : v = 0
  · rw [if_pos q1, decide_eq_true q1]; rfl
  · rw [if_neg q1, decide_eq_false q1, Bool.false_or]
    by_cases q2 : k = v
    · rw [if_pos q2, decide_eq_true q2]; rfl
    · rw [if_neg q2, decide_eq_false q2, Bool.false_or]
      by_cases q3 : v = 1
      · rw [if_pos q3, decide_eq_true q3, Bool.true_and]
        by_cases q4 : k < 4
        · rw [if_pos q4, decide_eq_true q4]; rfl
        · rw [if_neg q4, decide_eq_false q4, if_neg (by rw [q3]; decide), decide_eq_false (show ¬ v = 4 by rw [q3]; decide)]; rfl
      · rw [if_neg q3, decide_eq_false q3, Bool.false_and, Bool.false_or]
        by_cases q4 : v = 4
        · rw [if_pos q4, decide_eq_true q4, Bool.true_and]
          by_cases q5 : k = 5
          · rw [if_pos q5, decide_eq_true q5]; rfl
          · rw [if_neg q5, decide_eq_false q5]; rfl
        · rw [if_neg q4, decide_eq_false q4]; rfl
theorem p_as (hX : X 1 = zNr) (a1 a2 : Int32) : Pub X (d + 20) L 141 231 [.inl a1, .inl a2] := by
  intro I J hr
  obtain ⟨c, hC, hM, hv⟩ := hr.2.1
  have hn := hv.1
  have h6 := hn.2.1
  have c1 := eX8_as X (d + 19) L I J a1 a2
  rw [c_isMan hC hn, cI_some, bX8_as_8, c_isWithin, cI_some, bX8_as_17, show wi a2 (Int32.toInt 0) (Int32.toInt 5) = wi a2 0 5 from rfl] at c1
  have hMt := hM.th (by omega)
  cases hz : zin a1 (men c) with
  | false =>
    refine pub_bad hr (by rw [c1, hz, if0]) ?_
    rw [eX9_as, m_isMan hMt hn, cI_some, bX9_as_10, hz, if0]
  | true =>
    rw [hz, if1] at c1
    cases hw : wi a2 0 5 with
    | false =>
      refine pub_bad hr (by rw [c1, hw, if0]) ?_
      rw [eX9_as, m_isMan hMt hn, cI_some, bX9_as_10, hz, if1, m_inI, cI_some, bX9_as_22, show wi a2 (Int64.toInt 0) (Int64.toInt 5) = wi a2 0 5 from rfl, hw, if0]
    | true =>
      obtain ⟨m, hm, rfl⟩ := zin_of hz
      obtain ⟨_, _, k3, k4, k5, k6, k7⟩ := n2 hC
      have hk := (hv.2.2.2 m hm).1
      rw [hw, if1, zin_nI (show m < 6 by omega) (by omega), zbt_t, ncl (by omega), k3 m hm, c_isOfKind hX hk hw, cI_some, bX8_as_36] at c1
      have mm : ∀ v : Int32, zcall X (d + 20) 231 [.inr (.inr (some (.inl 9, 283))), .inl (nI m), .inl a2] (L, zB1, (zup I 0 9 v), J) = if b2i (isB (c 3 m) a2) = 0 then some (some (.inl (-1000010 - 3)), (L, zB1, (zup (zup (zup (zup I 0 9 v) 283 0 0) 283 1 0) 283 1 3), J)) else some (some (.inl (nI m)), (L, zB1, (zup (zup (zup I 0 9 v) 283 0 0) 283 1 0), J)) := by
        intro v
        have hM0 : MAt (zup (zup I 0 9 v) 283 0 0) 287 c := (hM.o (by omega)).th (by omega)
        have hM1 : MAt (zup (zup (zup I 0 9 v) 283 0 0) 283 1 0) 287 c := hM0.o (by omega)
        rw [eX9_as, m_isMan hM0 hn, cI_some, bX9_as_10, hz, if1, m_inI, cI_some, bX9_as_22, show wi a2 (Int64.toInt 0) (Int64.toInt 5) = wi a2 0 5 from rfl, hw, if1, m_of0 hM1 hn hm, cI_some, bX9_as_42, m_isOf, cI_some, bX9_as_46, eX9_finding, cI_some, bX9_as_58, bX9_as_58]
      cases hb : isB (c 3 m) a2 with
      | false =>
        rw [hb, if0, eX8_found, cI_some, bX8_as_44] at c1
        exact ⟨_, _, J, _, c1, by rw [mm, hb, if0], st_two hr 0 3⟩
      | true =>
        rw [hb, if1, eX8_foundNothing, cI_some, bX8_as_50] at c1
        exact ⟨_, _, J, _, c1, by rw [mm, hb, if1], st_one hr 0⟩
end ASKS
