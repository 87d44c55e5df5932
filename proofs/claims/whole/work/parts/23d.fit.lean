/-! who, severes, likes: the public calls -/
section FITD
variable {X : Nat → Nat → Int32} {d : Nat} {L : List zK} {I : Nat → Nat → Int32} {J : Nat → Nat → Int64}
theorem Q_fit {I I1 I2 : Nat → Nat → Int32} (h1 : ∀ a j, a ≠ 263 → ¬ (a = 254 ∧ (j = 2 ∨ j = 3)) → I1 a j = I a j) (h2 : FrT I1 I2) : Q I I2 := fun a i k => by
  unfold kor at k
  rw [h2 a i (by omega) (by omega), h1 a i (by omega) (by omega)]
theorem fit_end {I I2 I3 : Nat → Nat → Int32} (hr : Rel I) (q : Q I I2) (f : FrM 289 (zup (zup (zup I2 0 9 0) 283 0 0) 283 1 0) I3) : Rel I3 := ((Q.rf _).frM f (by omega)).Rel (st_one (q.Rel hr) 0)
theorem p_who (a1 a2 a3 a4 a5 : Int32) : Pub X (d + 20) L 133 222 [.inl a1, .inl a2, .inl a3, .inl a4, .inl a5] := by
  intro I J hr
  obtain ⟨c, hC, hM, hv⟩ := hr.2.1
  have hn := hv.1
  have h6 := hn.2.1
  have h4 := hn.2.2.2
  have c1 := eX8_who X (d + 19) L I J a1 a2 a3 a4 a5
  rw [c_isMan hC hn, cI_some, bX8_who_8, c_isWithin, cI_some, bX8_who_17, show wi a2 (Int32.toInt 0) (Int32.toInt 2) = wi a2 0 2 from rfl, c_isToldRow, cI_some, bX8_who_27] at c1
  have hMt := hM.th (by omega)
  cases hz : zin a1 (men c) with
  | false =>
    refine pub_bad hr (by rw [c1, hz, if0]) ?_
    rw [eX9_who, m_isMan hMt hn, cI_some, bX9_who_10, hz, if0]
  | true =>
    rw [hz, if1] at c1
    cases hy : wi a2 0 2 with
    | false =>
      refine pub_bad hr (by rw [c1, hy, if0]) ?_
      rw [eX9_who, m_isMan hMt hn, cI_some, bX9_who_10, hz, if1, m_inI, cI_some, bX9_who_22, show wi a2 (Int64.toInt 0) (Int64.toInt 2) = wi a2 0 2 from rfl, hy, if0]
    | true =>
      rw [hy, if1] at c1
      cases ht : (zin a3 8 && wi a5 1 12) with
      | false =>
        refine pub_bad hr (by rw [c1, ht, if0]) ?_
        rw [eX9_who, m_isMan hMt hn, cI_some, bX9_who_10, hz, if1, m_inI, cI_some, bX9_who_22, show wi a2 (Int64.toInt 0) (Int64.toInt 2) = wi a2 0 2 from rfl, hy, if1, m_isMany, cI_some, bX9_who_31, ht, if0]
      | true =>
        have ht2 := Bool.and_eq_true .. ▸ ht
        obtain ⟨r, hr8, rfl⟩ := zin_of ht2.1
        obtain ⟨n, hn1, hn12, rfl, hn31⟩ := wi_nI1 (by omega) ht2.2
        rw [ht, if1] at c1
        have mhead : ∀ I1 : Nat → Nat → Int32, MAt I1 287 c → zcall X (d + 20) 222 [.inr (.inr (some (.inl 9, 283))), .inl a1, .inl a2, .inl (nI r), .inl a4, .inl (nI n)] (L, zB1, I1, J) = cI (zcall X (d + 19) 220 [.inr (.inr (some (.inl 9, 283))), .inl (nI r), .inl a4, .inl (nI n)] (L, zB1, (zup I1 283 0 0), J)) (fun r9 σ => zgo X (zcall X (d+19)) (some .int) kX9_who 46 [some (.inr (.inr (some (.inl 9, 283)))), some (.inl (a1)), some (.inl (a2)), some (.inl (nI r)), some (.inl (a4)), some (.inl (nI n)), none, none, none, none, none] [.inl r9] σ) := by
          intro I1 hM1
          have hMt := hM1.th (by omega)
          rw [eX9_who, m_isMan hMt hn, cI_some, bX9_who_10, hz, if1, m_inI, cI_some, bX9_who_22, show wi a2 (Int64.toInt 0) (Int64.toInt 2) = wi a2 0 2 from rfl, hy, if1, m_isMany, cI_some, bX9_who_31, ht, if1]
        rcases hr.1 r hr8 with ⟨w1, w2⟩ | ⟨s, w0, w1, w2, w3, w4, w5⟩
        · rw [c_findingFor0 hr8 w1, cI_some, bX8_who_45, if_neg (by decide), eX8_found, cI_some, bX8_who_58] at c1
          refine ⟨_, _, J, _, c1, ?_, st_one hr 1⟩
          rw [mhead _ (hM.o (by omega)), m_rowFound0 hr8 (by rw [zup_ne (by omega), zup_ne (by omega)]; exact w2), cI_some, bX9_who_46, if_neg (by decide)]
        · rw [c_findingFor1 hr8 w0 w1, cI_some, bX8_who_45] at c1
          cases hh : hp s a4 (nI n) with
          | false =>
            rw [hh] at c1
            try dsimp only at c1
            rw [if_neg (by decide), eX8_found, cI_some, bX8_who_58] at c1
            refine ⟨_, _, J, _, c1, ?_, st_one hr 2⟩
            rw [mhead _ (hM.o (by omega)), m_rowFound1 (s := s) hr8 w0 (by rw [zup_ne (by omega), zup_ne (by omega)]; exact w4.1) (by rw [zup_ne (by omega), zup_ne (by omega)]; exact w2) _ _ (by rw [nI_int (by omega)]; omega), hh, if_neg (by decide), cI_some, bX9_who_46, if_neg (by decide)]
          | true =>
            have hh2 := hp_iff.1 hh
            rw [nI_int (by omega)] at hh2
            obtain ⟨i, hi, rfl, hi2⟩ := wi_nI (x9 := a4) (hi := 40) (wi_iff.2 ⟨hh2.1, by omega⟩)
            rw [nI_int (by omega)] at hh2
            rw [hh] at c1
            try dsimp only at c1
            rw [if_pos rfl] at c1
            have w5' : ∀ k, k < n → I 286 (40 * r + i + k) = I (3 + r) (i + k) := fun k hk => by rw [Nat.add_assoc]; exact (w5 (i + k) (by omega)).symm
            obtain ⟨m, hm, rfl⟩ := zin_of hz
            by_cases h0 : a2 = 0
            · subst h0
              obtain ⟨I1, e1, g3, g2, gw, f1⟩ := c_hear (X := X) (d := d + 14) (L := L) (J := J) (n := n) hr8 w0 w1 (show i + n ≤ s by omega) (by omega) (nI m)
              obtain ⟨I2, e2, q4, q5, q6, f2⟩ := c_tryAll (X := X) (d := d + 12) (L := L) (J := J) (I := I1) (m := m) (n := n) (w := fun k => I (3 + r) (i + k)) (fun f i' hv' => by rw [f1 _ _ (by have := vld_le hv'; omega) (by have := vld_le hv'; omega)]; exact hC f i' hv') hn hm g3 g2 (by omega) gw 0 (nI m) (fun v => cup c 3 m v) (fun v => ⟨Cn_cup (by omega) hn, men_cup (by omega)⟩) 1 5 (by omega) (fun I v h => c_sup0 h hn hm v)
              have e2' : zcall X (d + 19) 36 [.inr (.inr (some (.inl 2, 254))), .inr (.inr (some (.inl 1, 13))), .inl 0, .inl (nI m), .inl 1, .inl 5] (L, zB1, I1, J) = some (none, (L, zB1, I2, J)) := e2
              rw [e1, cV_some, bX8_who_76, if_pos rfl, e2', cV_some, bX8_who_95, eX2_bits, cI_some, bX8_who_103, eX8_foundNothing, cI_some, bX8_who_106, q4] at c1
              have hq := Q_fit f1 f2
              have hM2 : MAt (zup (zup (zup I2 0 9 0) 283 0 0) 283 1 0) 287 c := ((((hq.MAt hM).o (by omega)).o (by omega)).o (by omega))
              obtain ⟨I3, e3, f3⟩ := m_who0 (X := X) (d := d + 13) (L := L) (J := J) (I := zup (zup (zup I2 0 9 0) 283 0 0) 283 1 0) (m := m) (n := n) (r := r) (i := i) (w := fun k => I (3 + r) (i + k)) hM2 hv hm (by omega) (fun k hk => by rw [zup_ne (by omega), zup_ne (by omega), zup_ne (by omega), hq 286 _ (by unfold kor; omega)]; exact w5' k hk)
              refine ⟨_, _, J, I3, c1, ?_, fit_end hr hq f3⟩
              rw [mhead _ ((hq.MAt hM).o (by omega)), m_rowFound1 (s := s) hr8 w0 (by rw [zup_ne (by omega), zup_ne (by omega), hq 284 _ (by unfold kor; omega)]; exact w4.1) (by rw [zup_ne (by omega), zup_ne (by omega), hq 285 _ (by unfold kor; omega)]; exact w2) _ _ (by rw [nI_int (by omega)]; omega), hh, if_pos rfl, cI_some, bX9_who_46, if_pos rfl, if_pos rfl, e3]
            · skip
              obtain ⟨I1, e1, g3, g2, gw, f1⟩ := c_hear (X := X) (d := d + 14) (L := L) (J := J) (n := n) hr8 w0 w1 (show i + n ≤ s by omega) (by omega) (nI m)
              obtain ⟨I2, e2, q4, q5, q6, f2⟩ := c_tryAll (X := X) (d := d + 12) (L := L) (J := J) (I := I1) (m := m) (n := n) (w := fun k => I (3 + r) (i + k)) (fun f i' hv' => by rw [f1 _ _ (by have := vld_le hv'; omega) (by have := vld_le hv'; omega)]; exact hC f i' hv') hn hm g3 g2 (by omega) gw 1 (nI m) (fun v => cup c 7 m v) (fun v => ⟨Cn_cup (by omega) hn, men_cup (by omega)⟩) 0 100 (by omega) (fun I v h => c_sup1 h hn hm v)
              have e2' : zcall X (d + 19) 36 [.inr (.inr (some (.inl 2, 254))), .inr (.inr (some (.inl 1, 13))), .inl 1, .inl (nI m), .inl 0, .inl 99] (L, zB1, I1, J) = some (none, (L, zB1, I2, J)) := e2
              rw [e1, cV_some, bX8_who_76, if_neg h0, e2', cV_some, bX8_who_123, eX2_howMany, cI_some, bX8_who_136, eX2_least, cI_some, bX8_who_146, eX8_foundNothing, cI_some, bX8_who_149, q5, bX8_who_146, eX8_foundNothing, cI_some, bX8_who_149, q6] at c1
              have hq := Q_fit f1 f2
              have hM2 : MAt (zup (zup (zup I2 0 9 0) 283 0 0) 283 1 0) 287 c := ((((hq.MAt hM).o (by omega)).o (by omega)).o (by omega))
              obtain ⟨I3, e3, f3⟩ := m_who1 (X := X) (d := d + 13) (L := L) (J := J) (I := zup (zup (zup I2 0 9 0) 283 0 0) 283 1 0) (m := m) (n := n) (r := r) (i := i) (w := fun k => I (3 + r) (i + k)) hM2 hv hm (by omega) (fun k hk => by rw [zup_ne (by omega), zup_ne (by omega), zup_ne (by omega), hq 286 _ (by unfold kor; omega)]; exact w5' k hk) h0
              rw [iteT] at c1 e3
              refine ⟨_, _, J, I3, c1, ?_, fit_end hr hq f3⟩
              rw [mhead _ ((hq.MAt hM).o (by omega)), m_rowFound1 (s := s) hr8 w0 (by rw [zup_ne (by omega), zup_ne (by omega), hq 284 _ (by unfold kor; omega)]; exact w4.1) (by rw [zup_ne (by omega), zup_ne (by omega), hq 285 _ (by unfold kor; omega)]; exact w2) _ _ (by rw [nI_int (by omega)]; omega), hh, if_pos rfl, cI_some, bX9_who_46, if_pos rfl, if_neg h0, e3]
theorem p_severes (a1 a2 a3 a4 a5 : Int32) : Pub X (d + 20) L 134 223 [.inl a1, .inl a2, .inl a3, .inl a4, .inl a5] := by
  intro I J hr
  obtain ⟨c, hC, hM, hv⟩ := hr.2.1
  have hn := hv.1
  have h6 := hn.2.1
  have h4 := hn.2.2.2
  have c1 := eX8_severes X (d + 19) L I J a1 a2 a3 a4 a5
  rw [c_isJudge hC hn, cI_some, bX8_severes_8, c_isMan hC hn, cI_some, bX8_severes_19, c_isToldRow, cI_some, bX8_severes_29] at c1
  have hMt := hM.th (by omega)
  cases hz : zin a1 (jud c) with
  | false =>
    refine pub_bad hr (by rw [c1, hz, if0]) ?_
    rw [eX9_severes, m_isJudge hMt hn, cI_some, bX9_severes_10, hz, if0]
  | true =>
    rw [hz, if1] at c1
    cases hy : zin a2 (men c) with
    | false =>
      refine pub_bad hr (by rw [c1, hy, if0]) ?_
      rw [eX9_severes, m_isJudge hMt hn, cI_some, bX9_severes_10, hz, if1, m_isMan hMt hn, cI_some, bX9_severes_18, hy, if0]
    | true =>
      rw [hy, if1] at c1
      cases ht : (zin a3 8 && wi a5 1 12) with
      | false =>
        refine pub_bad hr (by rw [c1, ht, if0]) ?_
        rw [eX9_severes, m_isJudge hMt hn, cI_some, bX9_severes_10, hz, if1, m_isMan hMt hn, cI_some, bX9_severes_18, hy, if1, m_isMany, cI_some, bX9_severes_27, ht, if0]
      | true =>
        have ht2 := Bool.and_eq_true .. ▸ ht
        obtain ⟨r, hr8, rfl⟩ := zin_of ht2.1
        obtain ⟨n, hn1, hn12, rfl, hn31⟩ := wi_nI1 (by omega) ht2.2
        rw [ht, if1] at c1
        have mhead : ∀ I1 : Nat → Nat → Int32, MAt I1 287 c → zcall X (d + 20) 223 [.inr (.inr (some (.inl 9, 283))), .inl a1, .inl a2, .inl (nI r), .inl a4, .inl (nI n)] (L, zB1, I1, J) = cI (zcall X (d + 19) 220 [.inr (.inr (some (.inl 9, 283))), .inl (nI r), .inl a4, .inl (nI n)] (L, zB1, (zup I1 283 0 0), J)) (fun r9 σ => zgo X (zcall X (d+19)) (some .int) kX9_severes 42 [some (.inr (.inr (some (.inl 9, 283)))), some (.inl (a1)), some (.inl (a2)), some (.inl (nI r)), some (.inl (a4)), some (.inl (nI n)), none, none, none] [.inl r9] σ) := by
          intro I1 hM1
          have hMt := hM1.th (by omega)
          rw [eX9_severes, m_isJudge hMt hn, cI_some, bX9_severes_10, hz, if1, m_isMan hMt hn, cI_some, bX9_severes_18, hy, if1, m_isMany, cI_some, bX9_severes_27, ht, if1]
        rcases hr.1 r hr8 with ⟨w1, w2⟩ | ⟨s, w0, w1, w2, w3, w4, w5⟩
        · rw [c_findingFor0 hr8 w1, cI_some, bX8_severes_47, if_neg (by decide), eX8_found, cI_some, bX8_severes_60] at c1
          refine ⟨_, _, J, _, c1, ?_, st_one hr 1⟩
          rw [mhead _ (hM.o (by omega)), m_rowFound0 hr8 (by rw [zup_ne (by omega), zup_ne (by omega)]; exact w2), cI_some, bX9_severes_42, if_neg (by decide)]
        · rw [c_findingFor1 hr8 w0 w1, cI_some, bX8_severes_47] at c1
          cases hh : hp s a4 (nI n) with
          | false =>
            rw [hh] at c1
            try dsimp only at c1
            rw [if_neg (by decide), eX8_found, cI_some, bX8_severes_60] at c1
            refine ⟨_, _, J, _, c1, ?_, st_one hr 2⟩
            rw [mhead _ (hM.o (by omega)), m_rowFound1 (s := s) hr8 w0 (by rw [zup_ne (by omega), zup_ne (by omega)]; exact w4.1) (by rw [zup_ne (by omega), zup_ne (by omega)]; exact w2) _ _ (by rw [nI_int (by omega)]; omega), hh, if_neg (by decide), cI_some, bX9_severes_42, if_neg (by decide)]
          | true =>
            have hh2 := hp_iff.1 hh
            rw [nI_int (by omega)] at hh2
            obtain ⟨i, hi, rfl, hi2⟩ := wi_nI (x9 := a4) (hi := 40) (wi_iff.2 ⟨hh2.1, by omega⟩)
            rw [nI_int (by omega)] at hh2
            rw [hh] at c1
            try dsimp only at c1
            rw [if_pos rfl] at c1
            have w5' : ∀ k, k < n → I 286 (40 * r + i + k) = I (3 + r) (i + k) := fun k hk => by rw [Nat.add_assoc]; exact (w5 (i + k) (by omega)).symm
            obtain ⟨j, hj, rfl⟩ := zin_of hz
            obtain ⟨m, hm, rfl⟩ := zin_of hy
            obtain ⟨I1, e1, g3, g2, gw, f1⟩ := c_hear (X := X) (d := d + 14) (L := L) (J := J) (n := n) hr8 w0 w1 (show i + n ≤ s by omega) (by omega) (nI m)
            obtain ⟨I2, e2, q4, q5, q6, f2⟩ := c_tryAll (X := X) (d := d + 12) (L := L) (J := J) (I := I1) (m := m) (n := n) (w := fun k => I (3 + r) (i + k)) (fun f i' hv' => by rw [f1 _ _ (by have := vld_le hv'; omega) (by have := vld_le hv'; omega)]; exact hC f i' hv') hn hm g3 g2 (by omega) gw 2 (nI j) (fun v => cup c 1 j v) (fun v => ⟨Cn_cup (by omega) hn, men_cup (by omega)⟩) 0 10 (by omega) (fun I v h => c_sup2 h hn hj v)
            have e2' : zcall X (d + 19) 36 [.inr (.inr (some (.inl 2, 254))), .inr (.inr (some (.inl 1, 13))), .inl 2, .inl (nI j), .inl 0, .inl 9] (L, zB1, I1, J) = some (none, (L, zB1, I2, J)) := e2
            rw [e1, cV_some, bX8_severes_78, e2', cV_some, bX8_severes_94, eX2_bits, cI_some, bX8_severes_102, eX8_foundNothing, cI_some, bX8_severes_105, q4] at c1
            have hq := Q_fit f1 f2
            have hM2 : MAt (zup (zup (zup I2 0 9 0) 283 0 0) 283 1 0) 287 c := ((((hq.MAt hM).o (by omega)).o (by omega)).o (by omega))
            obtain ⟨I3, e3, f3⟩ := m_sev (X := X) (d := d + 13) (L := L) (J := J) (I := zup (zup (zup I2 0 9 0) 283 0 0) 283 1 0) (m := m) (n := n) (r := r) (i := i) (w := fun k => I (3 + r) (i + k)) hj hM2 hv hm (by omega) (fun k hk => by rw [zup_ne (by omega), zup_ne (by omega), zup_ne (by omega), hq 286 _ (by unfold kor; omega)]; exact w5' k hk)
            refine ⟨_, _, J, I3, c1, ?_, fit_end hr hq f3⟩
            rw [mhead _ ((hq.MAt hM).o (by omega)), m_rowFound1 (s := s) hr8 w0 (by rw [zup_ne (by omega), zup_ne (by omega), hq 284 _ (by unfold kor; omega)]; exact w4.1) (by rw [zup_ne (by omega), zup_ne (by omega), hq 285 _ (by unfold kor; omega)]; exact w2) _ _ (by rw [nI_int (by omega)]; omega), hh, if_pos rfl, cI_some, bX9_severes_42, if_pos rfl, e3]
theorem p_likes (a1 a2 a3 a4 a5 : Int32) : Pub X (d + 20) L 135 224 [.inl a1, .inl a2, .inl a3, .inl a4, .inl a5] := by
  intro I J hr
  obtain ⟨c, hC, hM, hv⟩ := hr.2.1
  have hn := hv.1
  have h6 := hn.2.1
  have h4 := hn.2.2.2
  have c1 := eX8_likes X (d + 19) L I J a1 a2 a3 a4 a5
  rw [c_isMan hC hn, cI_some, bX8_likes_8, c_isWithin, cI_some, bX8_likes_17, show wi a2 (Int32.toInt 0) (Int32.toInt 1) = wi a2 0 1 from rfl, c_isToldRow, cI_some, bX8_likes_27] at c1
  have hMt := hM.th (by omega)
  cases hz : zin a1 (men c) with
  | false =>
    refine pub_bad hr (by rw [c1, hz, if0]) ?_
    rw [eX9_likes, m_isMan hMt hn, cI_some, bX9_likes_10, hz, if0]
  | true =>
    rw [hz, if1] at c1
    cases hy : wi a2 0 1 with
    | false =>
      refine pub_bad hr (by rw [c1, hy, if0]) ?_
      rw [eX9_likes, m_isMan hMt hn, cI_some, bX9_likes_10, hz, if1, m_inI, cI_some, bX9_likes_20, show wi a2 (Int64.toInt 0) (Int64.toInt 1) = wi a2 0 1 from rfl, hy, if0]
    | true =>
      rw [hy, if1] at c1
      cases ht : (zin a3 8 && wi a5 1 12) with
      | false =>
        refine pub_bad hr (by rw [c1, ht, if0]) ?_
        rw [eX9_likes, m_isMan hMt hn, cI_some, bX9_likes_10, hz, if1, m_inI, cI_some, bX9_likes_20, show wi a2 (Int64.toInt 0) (Int64.toInt 1) = wi a2 0 1 from rfl, hy, if1, m_isMany, cI_some, bX9_likes_29, ht, if0]
      | true =>
        have ht2 := Bool.and_eq_true .. ▸ ht
        obtain ⟨r, hr8, rfl⟩ := zin_of ht2.1
        obtain ⟨n, hn1, hn12, rfl, hn31⟩ := wi_nI1 (by omega) ht2.2
        rw [ht, if1] at c1
        have mhead : ∀ I1 : Nat → Nat → Int32, MAt I1 287 c → zcall X (d + 20) 224 [.inr (.inr (some (.inl 9, 283))), .inl a1, .inl a2, .inl (nI r), .inl a4, .inl (nI n)] (L, zB1, I1, J) = cI (zcall X (d + 19) 220 [.inr (.inr (some (.inl 9, 283))), .inl (nI r), .inl a4, .inl (nI n)] (L, zB1, (zup I1 283 0 0), J)) (fun r9 σ => zgo X (zcall X (d+19)) (some .int) kX9_likes 44 [some (.inr (.inr (some (.inl 9, 283)))), some (.inl (a1)), some (.inl (a2)), some (.inl (nI r)), some (.inl (a4)), some (.inl (nI n)), none, none, none, none] [.inl r9] σ) := by
          intro I1 hM1
          have hMt := hM1.th (by omega)
          rw [eX9_likes, m_isMan hMt hn, cI_some, bX9_likes_10, hz, if1, m_inI, cI_some, bX9_likes_20, show wi a2 (Int64.toInt 0) (Int64.toInt 1) = wi a2 0 1 from rfl, hy, if1, m_isMany, cI_some, bX9_likes_29, ht, if1]
        rcases hr.1 r hr8 with ⟨w1, w2⟩ | ⟨s, w0, w1, w2, w3, w4, w5⟩
        · rw [c_findingFor0 hr8 w1, cI_some, bX8_likes_45, if_neg (by decide), eX8_found, cI_some, bX8_likes_58] at c1
          refine ⟨_, _, J, _, c1, ?_, st_one hr 1⟩
          rw [mhead _ (hM.o (by omega)), m_rowFound0 hr8 (by rw [zup_ne (by omega), zup_ne (by omega)]; exact w2), cI_some, bX9_likes_44, if_neg (by decide)]
        · rw [c_findingFor1 hr8 w0 w1, cI_some, bX8_likes_45] at c1
          cases hh : hp s a4 (nI n) with
          | false =>
            rw [hh] at c1
            try dsimp only at c1
            rw [if_neg (by decide), eX8_found, cI_some, bX8_likes_58] at c1
            refine ⟨_, _, J, _, c1, ?_, st_one hr 2⟩
            rw [mhead _ (hM.o (by omega)), m_rowFound1 (s := s) hr8 w0 (by rw [zup_ne (by omega), zup_ne (by omega)]; exact w4.1) (by rw [zup_ne (by omega), zup_ne (by omega)]; exact w2) _ _ (by rw [nI_int (by omega)]; omega), hh, if_neg (by decide), cI_some, bX9_likes_44, if_neg (by decide)]
          | true =>
            have hh2 := hp_iff.1 hh
            rw [nI_int (by omega)] at hh2
            obtain ⟨i, hi, rfl, hi2⟩ := wi_nI (x9 := a4) (hi := 40) (wi_iff.2 ⟨hh2.1, by omega⟩)
            rw [nI_int (by omega)] at hh2
            rw [hh] at c1
            try dsimp only at c1
            rw [if_pos rfl] at c1
            have w5' : ∀ k, k < n → I 286 (40 * r + i + k) = I (3 + r) (i + k) := fun k hk => by rw [Nat.add_assoc]; exact (w5 (i + k) (by omega)).symm
            obtain ⟨m, hm, rfl⟩ := zin_of hz
            obtain ⟨I1, e1, g3, g2, gw, f1⟩ := c_hear (X := X) (d := d + 14) (L := L) (J := J) (n := n) hr8 w0 w1 (show i + n ≤ s by omega) (by omega) (nI m)
            obtain ⟨I2, e2, q4, q5, q6, f2⟩ := c_tryAll (X := X) (d := d + 12) (L := L) (J := J) (I := I1) (m := m) (n := n) (w := fun k => I (3 + r) (i + k)) (fun f i' hv' => by rw [f1 _ _ (by have := vld_le hv'; omega) (by have := vld_le hv'; omega)]; exact hC f i' hv') hn hm g3 g2 (by omega) gw 3 (nI m) (fun v => cup c 0 3 v) (fun v => ⟨Cn_cup (by omega) hn, men_cup (by omega)⟩) 1 60 (by omega) (fun I v h => c_sup3 h _ v)
            have e2' : zcall X (d + 19) 36 [.inr (.inr (some (.inl 2, 254))), .inr (.inr (some (.inl 1, 13))), .inl 3, .inl (nI m), .inl 1, .inl 60] (L, zB1, I1, J) = some (none, (L, zB1, I2, J)) := e2
            rw [e1, cV_some, bX8_likes_76, e2', cV_some, bX8_likes_92, eX2_howMany, cI_some, bX8_likes_104, eX2_least, cI_some, bX8_likes_114, eX8_foundNothing, cI_some, bX8_likes_117, q5, bX8_likes_114, eX8_foundNothing, cI_some, bX8_likes_117, q6] at c1
            have hq := Q_fit f1 f2
            have hM2 : MAt (zup (zup (zup I2 0 9 0) 283 0 0) 283 1 0) 287 c := ((((hq.MAt hM).o (by omega)).o (by omega)).o (by omega))
            obtain ⟨I3, e3, f3⟩ := m_lik (X := X) (d := d + 13) (L := L) (J := J) (I := zup (zup (zup I2 0 9 0) 283 0 0) 283 1 0) (m := m) (n := n) (r := r) (i := i) (w := fun k => I (3 + r) (i + k)) a2 hM2 hv hm (by omega) (fun k hk => by rw [zup_ne (by omega), zup_ne (by omega), zup_ne (by omega), hq 286 _ (by unfold kor; omega)]; exact w5' k hk)
            rw [iteT] at c1 e3
            refine ⟨_, _, J, I3, c1, ?_, fit_end hr hq f3⟩
            rw [mhead _ ((hq.MAt hM).o (by omega)), m_rowFound1 (s := s) hr8 w0 (by rw [zup_ne (by omega), zup_ne (by omega), hq 284 _ (by unfold kor; omega)]; exact w4.1) (by rw [zup_ne (by omega), zup_ne (by omega), hq 285 _ (by unfold kor; omega)]; exact w2) _ _ (by rw [nI_int (by omega)]; omega), hh, if_pos rfl, cI_some, bX9_likes_44, if_pos rfl, e3]
end FITD
