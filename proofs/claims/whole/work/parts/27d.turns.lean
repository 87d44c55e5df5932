/-! by turns: the public call -/
section TURNSP
variable {X : Nat → Nat → Int32} {d : Nat} {L : List zK} {I : Nat → Nat → Int32} {J : Nat → Nat → Int64}
theorem p_byTurns (a1 a2 a3 a4 : Int32) : Pub X (d + 20) L 132 218 [.inl a1, .inl a2, .inl a3, .inl a4] := by
  refine pub_of fun I J c hc _ => ?_
  obtain ⟨hC, hM, hv⟩ := hc
  have hcn := hv.1
  have h4 := hcn.2.2.2
  have c1 := eX8_byTurns X (d + 19) L I J a1 a2 a3 a4
  rw [c_isJudge hC hcn, cI_some, bX8_byTurns_8, c_isJudge hC hcn, cI_some, bX8_byTurns_19, c_isWithin, cI_some, bX8_byTurns_36, show wi a3 (Int32.toInt 0) (Int32.toInt 4) = wi a3 0 4 from rfl, c_isWithin, cI_some, bX8_byTurns_47, show wi a4 (Int32.toInt 1) (Int32.toInt 20) = wi a4 1 20 from rfl] at c1
  have mh : ∀ (I1 : Nat → Nat → Int32), MAt I1 287 c → _ := fun I1 hM1 => by
    have m1 := eX9_byTurns X (d + 19) L I1 J a1 a2 a3 a4
    have hM2 := hM1.th (show 287 ≠ 283 by omega)
    rw [m_isJudge hM2 hcn, cI_some, bX9_byTurns_10, m_isJudge hM2 hcn, cI_some, bX9_byTurns_18, m_inI, cI_some, bX9_byTurns_35, show wi a3 (Int64.toInt 0) (Int64.toInt 4) = wi a3 0 4 from rfl, m_inI, cI_some, bX9_byTurns_48, show wi a4 (Int64.toInt 1) (Int64.toInt 20) = wi a4 1 20 from rfl] at m1
    exact m1
  cases hz : zin a1 (jud c) with
  | false =>
    rw [hz, if0] at c1
    refine ⟨_, I, J, c1, Q.rf I, zup I 283 0 0, ?_, Qth I⟩
    rw [mh I hM, hz, if0]
  | true =>
    rw [hz, if1] at c1
    cases hw : zin a2 (jud c) with
    | false =>
      rw [hw, if0] at c1
      refine ⟨_, I, J, c1, Q.rf I, zup I 283 0 0, ?_, Qth I⟩
      rw [mh I hM, hz, if1, hw, if0]
    | true =>
      rw [hw, if1] at c1
      by_cases hE : a1 = a2
      · rw [if_pos hE] at c1
        refine ⟨_, I, J, c1, Q.rf I, zup I 283 0 0, ?_, Qth I⟩
        rw [mh I hM, hz, if1, hw, if1, if_pos hE]
      · rw [if_neg hE] at c1
        cases hy : wi a3 0 4 with
        | false =>
          rw [hy, if0] at c1
          refine ⟨_, I, J, c1, Q.rf I, zup I 283 0 0, ?_, Qth I⟩
          rw [mh I hM, hz, if1, hw, if1, if_neg hE, hy, if0]
        | true =>
          rw [hy, if1] at c1
          cases ht : wi a4 1 20 with
          | false =>
            rw [ht, if0] at c1
            refine ⟨_, I, J, c1, Q.rf I, zup I 283 0 0, ?_, Qth I⟩
            rw [mh I hM, hz, if1, hw, if1, if_neg hE, hy, if1, ht, if0]
          | true =>
            obtain ⟨T, hT, rfl, hT31⟩ := wi_nI hy
            obtain ⟨n, hn1, hn2, rfl, hn31⟩ := wi_nI1 (by omega) ht
            have hT4 : T ≤ 4 := by omega
            obtain ⟨ja, hja, ea⟩ := zin_of hz
            obtain ⟨jb, hjb, eb⟩ := zin_of hw
            have ha : ¬ a1 = -1000000 := by rw [ea]; exact nI_mil (by omega)
            have hb : ¬ a2 = -1000000 := by rw [eb]; exact nI_mil (by omega)
            obtain ⟨I1, e1, q1⟩ := c_playTurns (X := X) (d := d + 8) (L := L) (J := J) (a := a1) (b := a2) hC hv hn31 hT4
            rw [ht, if1, e1, cI_some, bX8_byTurns_69] at c1
            have hMt := (q1.MAt hM).th (show 287 ≠ 283 by omega)
            have lv := m_second hv hT4 (m_third hv hT4 (m_fourth hv hT4 (m_after (X := X) (L := L) (J := J) hv hT4 hn31 ha hb)))
            have key : ∃ I2, (if nI T = 0 then cI (zcall X (d + 19) 217 [.inr (.inr (some (.inl 9, 283))), .inl a1, .inl a2, .inl (nI T), .inl (nI n)] (L, zB1, (zup I1 283 0 0), J)) (fun r σ => zgo X (zcall X (d+19)) (some .int) kX9_byTurns 67 [some (.inr (.inr (some (.inl 9, 283)))), some (.inl (a1)), some (.inl (a2)), some (.inl (nI T)), some (.inl (nI n)), none, none, none] [.inl r] σ) else zgo X (zcall X (d+19)) (some .int) kX9_byTurns 76 [some (.inr (.inr (some (.inl 9, 283)))), some (.inl (a1)), some (.inl (a2)), some (.inl (nI T)), some (.inl (nI n)), some (.inl ((-9999))), some (.inl (0)), none] [] (L, zB1, (zup I1 283 0 0), J)) = some (some (.inl (VT a1 a2 n T 0 c)), (L, zB1, I2, J)) ∧ (∀ q i, q ≠ 289 → q ≠ 294 → I2 q i = zup I1 283 0 0 q i) := by
              by_cases hT0 : T = 0
              · subst hT0
                obtain ⟨I2, e2, f2⟩ := lv (d + 11) (zup I1 283 0 0) (fun _ => 0) hMt (fun i h1 h2 => by omega)
                refine ⟨I2, ?_, fun q i k1 k2 => f2 q i k1 (by omega)⟩
                rw [if_pos (show nI 0 = 0 from rfl), e2, cI_some, bX9_byTurns_67]
                rfl
              · obtain ⟨I2, e2, f2⟩ := m_byTurnsL hv hT4 (by omega) lv (d + 11) (zup I1 283 0 0) (fun _ => 0) hMt (fun i h1 h2 => by omega)
                refine ⟨I2, ?_, fun q i k1 k2 => f2 q i k1 (by omega)⟩
                rw [if_neg (show ¬ nI T = 0 from fun w => hT0 ((nI_z (by omega)).1 w)), e2]
                rfl
            obtain ⟨I2, e2, f2⟩ := key
            refine ⟨_, I1, J, c1, q1, I2, ?_, fun q i k => ?_⟩
            · rw [mh I1 (q1.MAt hM), hz, if1, hw, if1, if_neg hE, hy, if1, ht, if1, e2]
            · unfold kor at k
              rw [f2 q i (by omega) (by omega), zup_at, if_neg (by omega)]
end TURNSP
