/-! drawn: the reference, and the public call -/
section DRAWNM
variable {X : Nat → Nat → Int32} {d : Nat} {L : List zK} {I : Nat → Nat → Int32} {J : Nat → Nat → Int64} {c : Cr} {n : Nat}
theorem m_act (h : MAt I 289 c) (hv : Iv c) (hm : 0 < men c) {x9 : Int64} (hx : 0 ≤ x9.toInt) (v1 v2 v3 v6 : Int32) (u7 u8 : Option zV) : ∃ I' u7' u8', zgo X (zcall X (d+3)) (some .int) kX9_drawn 81 [some (.inr (.inr (some (.inl 9, 283)))), some (.inl (v1)), some (.inl (v2)), some (.inl (v3)), some (.inr (.inl (x9))), none, some (.inl (v6)), u7, u8] [] (L, zB1, I, J) = zgo X (zcall X (d+3)) (some .int) kX9_drawn 63 [some (.inr (.inr (some (.inl 9, 283)))), some (.inl (v1)), some (.inl (v2)), some (.inl (v3)), some (.inr (.inl (x9))), none, some (.inl ((v6 + 1))), u7', u8'] [] (L, zB1, I', J) ∧ MAt I' 289 (yrS true (drS x9 c)) ∧ FrM 289 I I' := by
  have hn := hv.1
  have h6 := hn.2.1
  have h4 := hn.2.2.2
  have hj := Iv_jud hv hm
  obtain ⟨j, hj1, ej⟩ := xm_nI hx hj (by omega)
  obtain ⟨m, hm1, em⟩ := xm_nI hx hm (by omega)
  have hg := drG_n x9 c
  have hgI := hg.2.2 hv hx hj
  have hSI := (drS_n x9 c).2.2 hv hx hj
  have k191 : ∀ I1, MAt I1 289 (drS x9 c) → FrM 289 I I1 → ∃ I' u7' u8', zgo X (zcall X (d+3)) (some .int) kX9_drawn 191 [some (.inr (.inr (some (.inl 9, 283)))), some (.inl (v1)), some (.inl (v2)), some (.inl (v3)), some (.inr (.inl (x9))), none, some (.inl (v6)), some (.inl (nI j)), some (.inl (nI m))] [] (L, zB1, I1, J) = zgo X (zcall X (d+3)) (some .int) kX9_drawn 63 [some (.inr (.inr (some (.inl 9, 283)))), some (.inl (v1)), some (.inl (v2)), some (.inl (v3)), some (.inr (.inl (x9))), none, some (.inl ((v6 + 1))), u7', u8'] [] (L, zB1, I', J) ∧ MAt I' 289 (yrS true (drS x9 c)) ∧ FrM 289 I I' := by
    intro I1 h1 f1
    obtain ⟨I2, e2, h2, f2⟩ := m_yearBy (X := X) (d := d) (L := L) (J := J) h1 hSI true
    have e2' : zcall X (d + 3) 187 [.inr (.inr (some (.inr (.int, 43), 289))), .inl 0] (L, zB1, I1, J) = some (none, (L, zB1, I2, J)) := e2
    rw [bX9_drawn_191, e2', cV_some, bX9_drawn_199]
    exact ⟨I2, _, _, rfl, h2, f1.tr f2⟩
  have key : ∀ I1, MAt I1 289 (drG x9 c) → FrM 289 I I1 → ∃ I' u7' u8', zgo X (zcall X (d+3)) (some .int) kX9_drawn 146 [some (.inr (.inr (some (.inl 9, 283)))), some (.inl (v1)), some (.inl (v2)), some (.inl (v3)), some (.inr (.inl (x9))), none, some (.inl (v6)), some (.inl (nI j)), some (.inl (nI m))] [] (L, zB1, I1, J) = zgo X (zcall X (d+3)) (some .int) kX9_drawn 63 [some (.inr (.inr (some (.inl 9, 283)))), some (.inl (v1)), some (.inl (v2)), some (.inl (v3)), some (.inr (.inl (x9))), none, some (.inl ((v6 + 1))), u7', u8'] [] (L, zB1, I', J) ∧ MAt I' 289 (yrS true (drS x9 c)) ∧ FrM 289 I I' := by
    intro I1 h1 f1
    rw [bX9_drawn_146, if_neg (show ¬ (4 : Int64) = 0 by decide), m_of3 h1 hgI.1 (show m < men _ by rw [hg.1]; exact hm1), cI_some, bX9_drawn_167, if_neg (show ¬ (9 : Int64) = 0 by decide)]
    have eD : drS x9 c = drT x9 (nI m) (nI j) (drG x9 c) := by unfold drS; rw [em, ej]
    have eT : drT x9 (nI m) (nI j) (drG x9 c) = if lg_cmp (x9 - x9 / 4 * 4) 0 = 0 ∧ drG x9 c 5 m = 2 then agS (drG x9 c) m (nI j) ((x9 - x9 / 9 * 9).toInt32 + 1) else drG x9 c := by unfold drT; rw [ncl (by omega)]
    by_cases q1 : lg_cmp (x9 - x9 / 4 * 4) 0 = 0
    · rw [if_pos q1]
      by_cases q2 : drG x9 c 5 m = 2
      · obtain ⟨I2, e2, h2, f2⟩ := m_comesAgain (X := X) (d := d + 1) (L := L) (J := J) h1 hgI.1 (show m < men _ by rw [hg.1]; exact hm1) (nI j) ((x9 - x9 / 9 * 9).toInt32 + 1)
        rw [if_pos q2, e2, cV_some]
        exact k191 I2 (by rw [eD, eT, if_pos ⟨q1, q2⟩]; exact h2) (f1.tr f2)
      · rw [if_neg q2]
        exact k191 I1 (by rw [eD, eT, if_neg (fun w => q2 w.2)]; exact h1) f1
    · rw [if_neg q1]
      exact k191 I1 (by rw [eD, eT, if_neg (fun w => q1 w.1)]; exact h1) f1
  have ix : (5 + (2 * nI j)) + 1 = nI (6 + 2 * j) := by
    rw [ix2, nI_1]
    congr 1
    omega
  rw [bX9_drawn_81, show I 289 (1 : Int32).toNatClampNeg = nI (jud c) from h.jud hn, show I 289 (0 : Int32).toNatClampNeg = nI (men c) from h.men hn, show zin 1 43 = true from by decide, zbt_t, show zin 0 43 = true from by decide, zbt_t, if_neg (i64_nz hj (by omega)), if_neg (i64_nz hm (by omega)), show (x9 - x9 / (nI (jud c)).toInt64 * (nI (jud c)).toInt64).toInt32 = nI j from ej, show (x9 - x9 / (nI (men c)).toInt64 * (nI (men c)).toInt64).toInt32 = nI m from em, bX9_drawn_107, if_neg (show ¬ (3 : Int64) = 0 by decide), ix, zin_nI (show 6 + 2 * j < 43 by omega) (by omega), zbt_t, zbt_t, ncl (by omega), show I 289 (6 + 2 * j) = c 2 j from h 2 j (vj hj1 (by omega) (by omega))]
  by_cases q : lg_cmp (x9 - x9 / 3 * 3) 0 = 0
  · rw [if_pos q]
    refine key _ ?_ ((FrM.rf 289 I).up)
    unfold drG
    rw [if_pos q, ej, ncl (by omega)]
    exact h.up hn (f := 2) (by omega) (vj hj1 (by omega) (by omega))
  · rw [if_neg q]
    refine key _ ?_ (FrM.rf 289 I)
    unfold drG
    rw [if_neg q]
    exact h
theorem m_drawn63 (h : MAt I 289 c) (hv : Iv c) (hm : 0 < men c) (hn31 : n < 2 ^ 31) {v2 : Int32} (h2 : 0 ≤ v2.toInt) (v3 : Int32) : ∃ I', zgo X (zcall X (d+3)) (some .int) kX9_drawn 63 [some (.inr (.inr (some (.inl 9, 283)))), some (.inl (nI n)), some (.inl (v2)), some (.inl (v3)), some (.inr (.inl (v2.toInt64))), none, some (.inl (0)), none, none] [] (L, zB1, I, J) = some (some (.inl (if v3 = 0 then taS (drK v2.toInt64 c n).2 else whoS (drK v2.toInt64 c n).2 3)), (L, zB1, I', J)) ∧ FrM 289 I I' := by
  have hj := Iv_jud hv hm
  have hx0 : 0 ≤ v2.toInt64.toInt := by rw [Jvm.Kit.i64_of_i32]; exact h2
  have hx1 : v2.toInt64.toInt < 2147483648 := by rw [Jvm.Kit.i64_of_i32]; have := v2.toInt_lt; omega
  obtain ⟨⟨u7, u8, I1⟩, e1, h1, f1⟩ := zloopR (fun k (s : Option zV × Option zV × (Nat → Nat → Int32)) => zgo X (zcall X (d+3)) (some .int) kX9_drawn 63 [some (.inr (.inr (some (.inl 9, 283)))), some (.inl (nI n)), some (.inl (v2)), some (.inl (v3)), some (.inr (.inl ((drK v2.toInt64 c k).1))), none, some (.inl (nI k)), s.1, s.2.1] [] (L, zB1, s.2.2, J)) (fun k s => MAt s.2.2 289 (drK v2.toInt64 c k).2 ∧ FrM 289 I s.2.2) n (fun k s hk hp => by
    obtain ⟨u7, u8, I1⟩ := s
    obtain ⟨h1, f1⟩ := hp
    try dsimp only at h1 f1 ⊢
    obtain ⟨q1, q2, q3, q4, q5⟩ := drK_n hv hx0 hx1 hj k
    have hx := nx_rg q1 q2
    obtain ⟨I2, u7', u8', e2, h2', f2⟩ := m_act (X := X) (d := d) (L := L) (J := J) h1 q3 (by rw [q4]; exact hm) hx.1 (nI n) v2 v3 (nI k) u7 u8
    rw [nI_1] at e2
    rw [bX9_drawn_63, if_neg (by rw [nle (by omega) (by omega)]; omega), if_neg (show ¬ (2147483647 : Int64) = 0 by decide)]
    exact ⟨(u7', u8', I2), e2, h2', f1.tr f2⟩) (a := (none, none, I)) ⟨h, FrM.rf _ _⟩
  try dsimp only at h1 f1
  refine ⟨I1, (show _ = _ from e1).trans ?_, f1⟩
  have hI := (drK_n hv hx0 hx1 hj n).2.2.1
  try dsimp only
  rw [bX9_drawn_63, if_pos (by rw [nle (by omega) (by omega)]; omega), m_trustAll h1 hI.1, cI_some, bX9_drawn_218, bX9_drawn_229, m_those h1 hI.1, cI_some, bX9_drawn_229, iteT]
theorem p_drawn (a1 a2 a3 : Int32) : Pub X (d + 20) L 137 226 [.inl a1, .inl a2, .inl a3] := by
  refine pub_of fun I J c hc _ => ?_
  obtain ⟨hC, hM, hv⟩ := hc
  have hn := hv.1
  have c1 := eX8_drawn X (d + 19) L I J a1 a2 a3
  rw [c_hasCircuit hC hn, cI_some, bX8_drawn_4, c_isWithin, cI_some, bX8_drawn_17, show wi a1 (Int32.toInt 0) (Int32.toInt 60) = wi a1 0 60 from rfl, c_isWithin, cI_some, bX8_drawn_28, show wi a2 (Int32.toInt 1) (Int32.toInt 999999) = wi a2 1 999999 from rfl, c_isWithin, cI_some, bX8_drawn_37, show wi a3 (Int32.toInt 0) (Int32.toInt 1) = wi a3 0 1 from rfl] at c1
  have mh : ∀ I1 : Nat → Nat → Int32, MAt I1 287 c → _ := fun I1 hM1 => by
    have m1 := eX9_drawn X (d + 19) L I1 J a1 a2 a3
    have hM2 := hM1.th (show 287 ≠ 283 by omega)
    rw [m_isThere hM2 hn, cI_some, bX9_drawn_9, m_inI, cI_some, bX9_drawn_24, show wi a1 (Int64.toInt 0) (Int64.toInt 60) = wi a1 0 60 from rfl, m_inI, cI_some, bX9_drawn_36, show wi a2 (Int64.toInt 1) (Int64.toInt 999999) = wi a2 1 999999 from rfl, m_inI, cI_some, bX9_drawn_46, show wi a3 (Int64.toInt 0) (Int64.toInt 1) = wi a3 0 1 from rfl] at m1
    exact m1
  cases hz : decide (0 < men c) with
  | false =>
    rw [hz, if0] at c1
    refine ⟨_, I, J, c1, Q.rf I, zup I 283 0 0, ?_, Qth I⟩
    rw [mh I hM, hz, if0]
  | true =>
    rw [hz, if1] at c1
    cases hw : wi a1 0 60 with
    | false =>
      rw [hw, if0] at c1
      refine ⟨_, I, J, c1, Q.rf I, zup I 283 0 0, ?_, Qth I⟩
      rw [mh I hM, hz, if1, hw, if0]
    | true =>
      rw [hw, if1] at c1
      cases hy : wi a2 1 999999 with
      | false =>
        rw [hy, if0] at c1
        refine ⟨_, I, J, c1, Q.rf I, zup I 283 0 0, ?_, Qth I⟩
        rw [mh I hM, hz, if1, hw, if1, hy, if0]
      | true =>
        rw [hy, if1] at c1
        cases ht : wi a3 0 1 with
        | false =>
          rw [ht, if0] at c1
          refine ⟨_, I, J, c1, Q.rf I, zup I 283 0 0, ?_, Qth I⟩
          rw [mh I hM, hz, if1, hw, if1, hy, if1, ht, if0]
        | true =>
          have hm := of_decide_eq_true hz
          have hj := Iv_jud hv hm
          obtain ⟨n, hn2, rfl, hn31⟩ := wi_nI hw
          have h2 : 0 ≤ a2.toInt := by have := (wi_iff.1 hy).1; omega
          obtain ⟨I1, e1, h1, f1⟩ := c_lookByDraws (X := X) (d := d + 13) (L := L) (J := J) hC hv hm hn31 h2
          have hx0 : 0 ≤ a2.toInt64.toInt := by rw [Jvm.Kit.i64_of_i32]; exact h2
          have hx1 : a2.toInt64.toInt < 2147483648 := by rw [Jvm.Kit.i64_of_i32]; have := a2.toInt_lt; omega
          have hI := (drK_n hv hx0 hx1 hj n).2.2.1
          rw [ht, if1, e1, cQ_some, bX8_drawn_56, c_trustOfAll h1 hI.1, cI_some, bX8_drawn_67, bX8_drawn_76, c_whoAre h1 hI.1, cI_some, bX8_drawn_76, iteT] at c1
          have q1 : Q I I1 := (Q.rf I).fr f1 (by omega)
          obtain ⟨I2, e2, h2', f2⟩ := m_layThen (X := X) (d := d + 18) (L := L) (J := J) ((q1.MAt hM).th (show 287 ≠ 283 by omega)) hn
          obtain ⟨I3, e3, f3⟩ := m_drawn63 (X := X) (d := d + 16) (L := L) (J := J) h2' hv hm hn31 h2 a3
          refine ⟨_, I1, J, c1, q1, I3, ?_, (Qth I1).frM (f2.tr f3) (by omega)⟩
          rw [mh I1 (q1.MAt hM), hz, if1, hw, if1, hy, if1, ht, if1, e2, cV_some, bX9_drawn_56, e3]
end DRAWNM
