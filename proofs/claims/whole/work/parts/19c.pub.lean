/-! public calls: when, closest, share, count -/
section PUBC
variable {X : Nat → Nat → Int32} {d : Nat} {L : List zK} {I : Nat → Nat → Int32} {J : Nat → Nat → Int64} {c : Cr}
theorem c_firstYearAs (h : CAt I 13 c) (hn : Cn c) {m : Nat} (hm : m < men c) (st : Int32) : ∃ I', zcall X (d + 6) 44 [.inr (.inr (some (.inl 3, 225))), .inr (.inr (some (.inl 1, 13))), .inl (nI m), .inl st] (L, zB1, I, J) = some (some (.inl (whS c m st)), (L, zB1, I', J)) ∧ Fr 226 I I' := by
  have h6 := hn.2.1
  obtain ⟨I1, e1, h1, f1⟩ := c_takeFrom (X := X) (d := d + 4) (L := L) (J := J) (b := 226) h hn (by omega)
  rw [eX3_firstYearAs, e1, cV_some, bX3_firstYearAs_8, c_isMan h1 hn, cI_some, bX3_firstYearAs_16, zin_nI hm (by omega), if1]
  obtain ⟨I2, hI2⟩ := zsearchR (fun k (I : Nat → Nat → Int32) => zgo X (zcall X (d+5)) (some .int) kX3_firstYearAs 25 [some (.inr (.inr (some (.inl 3, 225)))), some (.inr (.inr (some (.inl 1, 13)))), some (.inl (nI m)), some (.inl (st)), some (.inl (nI k))] [] (L, zB1, I, J)) (fun k => decide (pasS k 0 c 5 m = st)) (fun k I => some (some (.inl (nI k)), (L, zB1, I, J))) (fun k I => CAt I 226 (pasS k 0 c) ∧ Fr 226 I1 I) 61 0 I1 ⟨h1, Fr.rf 226 I1⟩ (fun k I2 _ hk hv => by
    obtain ⟨hc, hf⟩ := hv
    try dsimp only at hc hf ⊢
    have hP := pasS_n 0 c k
    have hm2 : m < men (pasS k 0 c) := by rw [hP.1]; exact hm
    rw [bX3_firstYearAs_25, if_neg (by show ¬ nI 60 < nI k; rw [nlt (by omega) (by omega)]; omega), zin_nI (show m < 6 by omega) (by omega), zbt_t, ncl (by omega), show I2 231 m = pasS k 0 c 5 m from hc.m hm2 5 (by omega) (by omega)]
    refine ⟨fun q => ?_, fun q => ?_⟩
    · rw [if_pos (of_decide_eq_true q)]
    · rw [if_neg (of_decide_eq_false q)]
      obtain ⟨I3, e3, h3, f3⟩ := c_passYears (X := X) (d := d + 1) (L := L) (J := J) hc (hP.2.2 hn) (n := 1) (by omega) 0
      have e3' : zcall X (d + 5) 20 [.inr (.inr (some (.inl 1, 226))), .inl 1, .inl 0] (L, zB1, I2, J) = some (none, (L, zB1, I3, J)) := e3
      rw [e3', cV_some, bX3_firstYearAs_57, nI_1]
      refine ⟨I3, rfl, ?_, hf.tr f3⟩
      rw [pas_s, ← pas_1]
      exact h3)
  unfold whS
  cases hz : zfirst (fun k => decide (pasS k 0 c 5 m = st)) 61 0 with
  | some i =>
    rw [hz] at hI2
    exact ⟨I2, hI2.1, f1.tr hI2.2.2⟩
  | none =>
    rw [hz] at hI2
    refine ⟨I2, hI2.1.trans ?_, f1.tr hI2.2.2⟩
    try dsimp only
    rw [bX3_firstYearAs_25, if_pos (by show nI 60 < nI (0 + 61); rw [nlt (by omega) (by omega)]; omega)]
theorem m_when34 (h : MAt I 289 c) (hv : Iv c) {m : Nat} (hm : m < men c) (st : Int32) : ∃ I', zgo X (zcall X (d+4)) (some .int) kX9_when 34 [some (.inr (.inr (some (.inl 9, 283)))), some (.inl (nI m)), some (.inl (st)), some (.inl (0))] [] (L, zB1, I, J) = some (some (.inl (whS c m st)), (L, zB1, I', J)) ∧ FrM 289 I I' := by
  have hn := hv.1
  have h6 := hn.2.1
  obtain ⟨I2, hI2⟩ := zsearchR (fun k (I : Nat → Nat → Int32) => zgo X (zcall X (d+4)) (some .int) kX9_when 34 [some (.inr (.inr (some (.inl 9, 283)))), some (.inl (nI m)), some (.inl (st)), some (.inl (nI k))] [] (L, zB1, I, J)) (fun k => decide (pasS k 0 c 5 m = st)) (fun k I => some (some (.inl (nI k)), (L, zB1, I, J))) (fun k I' => MAt I' 289 (pasS k 0 c) ∧ FrM 289 I I') 61 0 I ⟨h, FrM.rf 289 I⟩ (fun k I2 _ hk hvv => by
    obtain ⟨hc, hf⟩ := hvv
    try dsimp only at hc hf ⊢
    have hP := pasS_n 0 c k
    have hm2 : m < men (pasS k 0 c) := by rw [hP.1]; exact hm
    rw [bX9_when_34, if_neg (by show ¬ nI 60 < nI k; rw [nlt (by omega) (by omega)]; omega), m_of3 hc (hP.2.2 hn) hm2, cI_some, bX9_when_49]
    refine ⟨fun q => ?_, fun q => ?_⟩
    · rw [if_pos (of_decide_eq_true q)]
    · rw [if_neg (of_decide_eq_false q)]
      obtain ⟨I3, e3, h3, f3⟩ := m_yearBy (X := X) (d := d + 1) (L := L) (J := J) hc (Iv_pasS 0 hv k) true
      have e3' : zcall X (d + 4) 187 [.inr (.inr (some (.inr (.int, 43), 289))), .inl 0] (L, zB1, I2, J) = some (none, (L, zB1, I3, J)) := e3
      rw [e3', cV_some, bX9_when_63, nI_1]
      refine ⟨I3, rfl, ?_, hf.tr f3⟩
      rw [pas_s]
      exact h3)
  unfold whS
  cases hz : zfirst (fun k => decide (pasS k 0 c 5 m = st)) 61 0 with
  | some i =>
    rw [hz] at hI2
    exact ⟨I2, hI2.1, hI2.2.2⟩
  | none =>
    rw [hz] at hI2
    refine ⟨I2, hI2.1.trans ?_, hI2.2.2⟩
    try dsimp only
    rw [bX9_when_34, if_pos (by show nI 60 < nI (0 + 61); rw [nlt (by omega) (by omega)]; omega)]
theorem p_when (a1 a2 : Int32) : Pub X (d + 20) L 126 206 [.inl a1, .inl a2] := by
  refine pub_of fun I J c hc _ => ?_
  obtain ⟨hC, hM, hv⟩ := hc
  have hn := hv.1
  have h6 := hn.2.1
  suffices hs : ∃ I1, zcall X (d + 20) 126 (.inr (.inr (some (.inl 8, 0))) :: [.inl a1, .inl a2]) (L, zB1, I, J) = some (some (.inl ((match zin a1 (men c) && wi a2 1 3 with | false => -1000001 | true => whS c a1.toNatClampNeg a2))), (L, zB1, I1, J)) ∧ Q I I1 from by
    obtain ⟨I1, e1, q1⟩ := hs
    refine ⟨_, I1, J, e1, q1, ?_⟩
    have hM1 := (q1.MAt hM).th (show 287 ≠ 283 by omega)
    rw [eX9_when, m_isMan hM1 hn, cI_some, bX9_when_10, m_inI, cI_some, bX9_when_22]
    cases hz : zin a1 (men c) with
    | false => exact ⟨_, if0 _ _, Qth I1⟩
    | true =>
      rw [if1, show wi a2 (Int64.toInt 1) (Int64.toInt 3) = wi a2 1 3 from rfl]
      cases hw : wi a2 1 3 with
      | false => exact ⟨_, if0 _ _, Qth I1⟩
      | true =>
        rw [if1]
        obtain ⟨m, hm, rfl⟩ := zin_of hz
        obtain ⟨I2, e2, h2, f2⟩ := m_layThen (X := X) (d := d + 18) (L := L) (J := J) hM1 hn
        obtain ⟨I3, e3, f3⟩ := m_when34 (X := X) (d := d + 15) (L := L) (J := J) h2 hv hm a2
        rw [e2, cV_some, bX9_when_32, e3, ncl (by omega)]
        exact ⟨_, rfl, (Qth I1).frM (f2.tr f3) (by omega)⟩
  rw [eX8_when, c_isMan hC hn, cI_some, bX8_when_8, c_isWithin, cI_some, bX8_when_17]
  cases hz : zin a1 (men c) with
  | false => exact ⟨_, if0 _ _, Q.rf I⟩
  | true =>
    rw [if1, show wi a2 (Int32.toInt 1) (Int32.toInt 3) = wi a2 1 3 from rfl]
    cases hw : wi a2 1 3 with
    | false => exact ⟨_, if0 _ _, Q.rf I⟩
    | true =>
      rw [if1]
      obtain ⟨m, hm, rfl⟩ := zin_of hz
      obtain ⟨I2, e2, f2⟩ := c_firstYearAs (X := X) (d := d + 13) (L := L) (J := J) hC hn hm a2
      rw [e2, cI_some, bX8_when_36, ncl (by omega)]
      exact ⟨_, rfl, (Q.rf I).fr f2 (by omega)⟩
theorem p_share (a1 a2 : Int32) : Pub X (d + 20) L 131 212 [.inl a1, .inl a2] := by
  refine pub_of fun I J c hc _ => ⟨(match zin a1 (men c) && wi a2 0 999 with | false => -1000001 | true => shS c a1.toNatClampNeg a2), I, J, ?_, Q.rf I, zup I 283 0 0, ?_, Qth I⟩
  · obtain ⟨hC, hM, hv⟩ := hc
    have hn := hv.1
    have h6 := hn.2.1
    rw [eX8_share, c_isMan hC hn, cI_some, bX8_share_8, c_isWithin, cI_some, bX8_share_19]
    cases hz : zin a1 (men c) with
    | false => exact if0 _ _
    | true =>
      rw [if1, show wi a2 (Int32.toInt 0) (Int32.toInt 999) = wi a2 0 999 from rfl]
      cases hw : wi a2 0 999 with
      | false => exact if0 _ _
      | true =>
        obtain ⟨m, hm, rfl⟩ := zin_of hz
        rw [if1, c_beansFor hC hv hm, cI_some, bX8_share_34, ncl (by omega)]
        rfl
  · obtain ⟨hC, hM, hv⟩ := hc
    have hn := hv.1
    have h6 := hn.2.1
    have hM := hM.th (by omega)
    rw [eX9_share, m_isMan hM hn, cI_some, bX9_share_10, m_inI, cI_some, bX9_share_22]
    cases hz : zin a1 (men c) with
    | false => exact if0 _ _
    | true =>
      rw [if1, show wi a2 (Int64.toInt 0) (Int64.toInt 999) = wi a2 0 999 from rfl]
      cases hw : wi a2 0 999 with
      | false => exact if0 _ _
      | true =>
        obtain ⟨m, hm, rfl⟩ := zin_of hz
        rw [if1, m_share33 hM hv hm, ncl (by omega)]
        rfl
theorem p_closest (a1 a2 : Int32) : Pub X (d + 20) L 130 210 [.inl a1, .inl a2] := by
  refine pub_of fun I J c hc _ => ⟨(match zin a1 (jud c) && wi a2 0 1 with | false => -1000001 | true => (match clK c a1 (men c) with | none => -1000000 | some i => if a2 = 0 then nI i else c 7 i)), I, J, ?_, Q.rf I, zup I 283 0 0, ?_, Qth I⟩
  · obtain ⟨hC, hM, hv⟩ := hc
    have hn := hv.1
    have h6 := hn.2.1
    obtain ⟨_, _, _, _, _, _, k7⟩ := n2 hC
    rw [eX8_closest, c_isJudge hC hn, cI_some, bX8_closest_8, c_isWithin, cI_some, bX8_closest_17]
    cases hz : zin a1 (jud c) with
    | false => exact if0 _ _
    | true =>
      rw [if1, show wi a2 (Int32.toInt 0) (Int32.toInt 1) = wi a2 0 1 from rfl]
      cases hw : wi a2 0 1 with
      | false => exact if0 _ _
      | true =>
        rw [if1, c_closestTo hC hn, cI_some, bX8_closest_31, c_isMan hC hn, cI_some, bX8_closest_40, zin_o hn (clK_lt c a1 (men c))]
        cases hc : clK c a1 (men c) with
        | none => exact if0 _ _
        | some i =>
          have hi := clK_lt c a1 (men c) i hc
          rw [show (some i).isSome = true from rfl, if1, show o2i (some i) = nI i from rfl, zin_nI (show i < 6 by omega) (by omega), zbt_t, ncl (by omega), k7 i hi]
          simp only [iteT]
          rfl
  · obtain ⟨hC, hM, hv⟩ := hc
    have hn := hv.1
    have hM := hM.th (by omega)
    rw [eX9_closest, m_isJudge hM hn, cI_some, bX9_closest_10, m_inI, cI_some, bX9_closest_20]
    cases hz : zin a1 (jud c) with
    | false => exact if0 _ _
    | true =>
      rw [if1, show wi a2 (Int64.toInt 0) (Int64.toInt 1) = wi a2 0 1 from rfl]
      cases hw : wi a2 0 1 with
      | false => exact if0 _ _
      | true =>
        rw [if1, m_closest32 hM hn]
        rfl
theorem c_isRow (a1 : Int32) : zcall X (d + 1) 74 [.inl a1] (L, zB1, I, J) = some (some (.inl (b2i (zin a1 8))), (L, zB1, I, J)) := by
  rw [eX6_isRow]
  cases hz : zin a1 8 with
  | true =>
    obtain ⟨m, hm, rfl⟩ := zin_of hz
    rw [if_neg (nlt0 (by omega)), if_neg (by show ¬ nI 8 ≤ nI m; rw [nle (by omega) (by omega)]; omega)]
    rfl
  | false =>
    by_cases h1 : a1 < 0
    · rw [if_pos h1]; rfl
    · rw [if_neg h1]
      by_cases h2 : (8 : Int32) ≤ a1
      · rw [if_pos h2]; rfl
      · exfalso
        have h3 : zin a1 8 = true := by
          rw [zin_iff]
          rw [i32_lt, i0] at h1
          rw [i32_le, show (8 : Int32).toInt = 8 from rfl] at h2
          omega
        rw [h3] at hz
        cases hz
theorem m_isRow (a1 : Int32) : zcall X (d + 2) 155 [.inl a1] (L, zB1, I, J) = some (some (.inl (b2i (zin a1 8))), (L, zB1, I, J)) := by
  rw [eX9_isRow, m_inI, cI_some, bX9_isRow_9, zret_b]
  have : wi a1 (Int64.toInt 0) (Int64.toInt 7) = zin a1 8 := by
    show (decide ((0 : Int) ≤ a1.toInt) && decide (a1.toInt ≤ 7)) = (decide (0 ≤ a1.toInt) && decide (a1.toInt < ((8 : Nat) : Int)))
    congr 1
    rw [decide_eq_decide]
    omega
  rw [this]
theorem c_isMissing {r : Nat} (hr : r < 8) : zcall X (d + 2) 75 [.inr (.inr (some (.inl 6, 1))), .inl (nI r)] (L, zB1, I, J) = some (some (.inl (b2i (decide (I 12 r = -1)))), (L, zB1, I, J)) := by
  rw [eX6_isMissing, c_isRow, cI_some, bX6_isMissing_4, zin_nI hr (by omega), if1, zbt_t, ncl (by omega)]
  by_cases h : I 12 r = -1
  · rw [if_pos h, decide_eq_true h]; rfl
  · rw [if_neg h, decide_eq_false h]; rfl
theorem nI_m1 : ∀ n ≤ 40, ¬ nI n = -1 := by decide +kernel
theorem p_count (a1 : Int32) : Pub X (d + 20) L 144 239 [.inl a1] := by
  refine pub_of fun I J c hc hr => ⟨(if a1 = 0 then zfold 8 0 (fun r a => a + (if I 12 r = -1 then 0 else 1)) else if a1 = 1 then c 0 1 else if a1 = 2 then c 0 0 else if a1 = 3 then c 0 4 else if a1 = 4 then taS c else if a1 = 5 then bcS (whoS c 0) else if a1 = 6 then I 31 2 else if a1 = 7 then I 21 2 else -1000001), I, J, ?_, Q.rf I, zup I 283 0 0, ?_, Qth I⟩
  · obtain ⟨hC, hM, hv⟩ := hc
    have hn := hv.1
    obtain ⟨w, hw, ew⟩ := whoS_lt hn 0
    have l := zloop (fun j a => zgo X (zcall X (d+18)) (some .int) kX6_howMany 4 [some (.inr (.inr (some (.inl 6, 1)))), some (.inl (a)), some (.inl (nI j))] [] (L, zB1, I, J)) (fun r a => a + (if I 12 r = -1 then 0 else 1)) 0 8 (fun j hj => by
      try dsimp only
      rw [bX6_howMany_4, if_neg (by show ¬ nI 8 ≤ nI j; rw [nle (by omega) (by omega)]; omega), c_isMissing hj, cI_some, bX6_howMany_16, bX6_howMany_24, bX6_howMany_24, nI_1]
      by_cases q : I 12 j = -1
      · rw [decide_eq_true q, if1, if_pos q]
      · rw [decide_eq_false q, if0, if_neg q])
    have l2 : zcall X (d + 19) 85 [.inr (.inr (some (.inl 6, 1)))] (L, zB1, I, J) = some (some (.inl ((zfold 8 0 (fun r a => a + (if I 12 r = -1 then 0 else 1))))), (L, zB1, I, J)) := by
      rw [eX6_howMany]
      refine (show _ = _ from l).trans ?_
      try dsimp only
      rw [bX6_howMany_4, if_pos (by show nI 8 ≤ nI 8; rw [nle (by omega) (by omega)]; omega)]
    rw [eX8_count, l2, c_trustOfAll hC hn, c_whoAre hC hn, eX4_size, eX7_size, cI_some, cI_some, cI_some, cI_some, cI_some, bX8_count_55, bX8_count_87, bX8_count_96, bX8_count_107, bX8_count_115, ew, j_bitCount hw, cI_some, bX8_count_99, hC.nn (by omega), hC.nn (by omega), hC.nn (by omega)]
    simp only [iteT]
  · obtain ⟨hC, hM, hv⟩ := hc
    have hn := hv.1
    have hM := hM.th (by omega)
    have e0 : zup I 283 0 0 287 (0 : Int32).toNatClampNeg = c 0 1 := hM 0 1 (v0 (by omega))
    have e1 : zup I 283 0 0 287 (1 : Int32).toNatClampNeg = c 0 0 := hM 0 0 (v0 (by omega))
    have e4 : zup I 283 0 0 287 (4 : Int32).toNatClampNeg = c 0 4 := hM 0 4 (v0 (by omega))
    obtain ⟨n, _, t1, t2, _⟩ := hr.2.2.1
    obtain ⟨n', o', _, _, _, u1, u2, _⟩ := hr.2.2.2.1
    have e9 : zup I 283 0 0 283 9 = I 31 2 := by rw [zup_at, if_neg (by omega), u1, u2]
    have e11 : zup I 283 0 0 283 11 = I 21 2 := by rw [zup_at, if_neg (by omega), t1, t2]
    have l := zloop (fun j a => zgo X (zcall X (d+19)) (some .int) kX9_count 58 [some (.inr (.inr (some (.inl 9, 283)))), some (.inl (a1)), some (.inl (a)), some (.inl (nI j))] [] (L, zB1, (zup I 283 0 0), J)) (fun r a => a + (if I 12 r = -1 then 0 else 1)) 0 8 (fun j hj => by
      try dsimp only
      rw [bX9_count_58, if_neg (by show ¬ nI 8 ≤ nI j; rw [nle (by omega) (by omega)]; omega), zin_nI hj (by omega), zbt_t, ncl (by omega), zup_ne (by omega), bX9_count_79, bX9_count_79, nI_1]
      rcases hr.1 j hj with ⟨q1, q2⟩ | ⟨n, q1, q2, q3, q4, q5, q6⟩
      · rw [q2, q1, if_pos (by decide), if_pos rfl]
      · rw [if_neg (by rw [i32_lt, i0]; have := q5.1; omega), if_neg (by rw [q2]; exact nI_m1 n q1)])
    rw [eX9_count, m_trustAll hM hn, m_those hM hn, cI_some, cI_some, bX9_count_119, bX9_count_128, m_bits, cI_some, bX9_count_131, e0, e1, e4, e9, e11]
    have l2 : zgo X (zcall X (d+19)) (some .int) kX9_count 58 [some (.inr (.inr (some (.inl 9, 283)))), some (.inl (a1)), some (.inl (0)), some (.inl (0))] [] (L, zB1, (zup I 283 0 0), J) = some (some (.inl (zfold 8 0 (fun r a => a + (if I 12 r = -1 then 0 else 1)))), (L, zB1, (zup I 283 0 0), J)) := by
      refine (show _ = _ from l).trans ?_
      try dsimp only
      rw [bX9_count_58, if_pos (by show nI 8 ≤ nI 8; rw [nle (by omega) (by omega)]; omega)]
    rw [l2, show zin 0 43 = true from rfl, show zin 1 43 = true from rfl, show zin 4 43 = true from rfl]
    simp only [zbt_t, iteT]
end PUBC
