/-! let: the reference, and the public call -/
section LETM
variable {X : Nat → Nat → Int32} {d : Nat} {L : List zK} {I : Nat → Nat → Int32} {J : Nat → Nat → Int64} {c : Cr} {n : Nat}
theorem m_let114 (h : MAt I 289 c) (h0 : I 287 0 = nI (men c)) (hn : Cn c) (v1 v2 v3 v4 : Int32) {s : Nat} : ∃ I', zgo X (zcall X (d+1)) (some .int) kX9_let 114 [some (.inr (.inr (some (.inl 9, 283)))), some (.inl (v1)), some (.inl (v2)), some (.inl (v3)), some (.inl (v4)), some (.inl (nI s)), some (.inl (0))] [] (L, zB1, I, J) = zgo X (zcall X (d+1)) (some .int) kX9_let 114 [some (.inr (.inr (some (.inl 9, 283)))), some (.inl (v1)), some (.inl (v2)), some (.inl (v3)), some (.inl (v4)), some (.inl (nI s)), some (.inl (nI (men c)))] [] (L, zB1, I', J) ∧ MAt I' 289 (letK (nI s) c (men c)) ∧ FrM 289 I I' := by
  have h6 := hn.2.1
  exact zloopR (fun k (I : Nat → Nat → Int32) => zgo X (zcall X (d+1)) (some .int) kX9_let 114 [some (.inr (.inr (some (.inl 9, 283)))), some (.inl (v1)), some (.inl (v2)), some (.inl (v3)), some (.inl (v4)), some (.inl (nI s)), some (.inl (nI k))] [] (L, zB1, I, J)) (fun k s' => MAt s' 289 (letK (nI s) c k) ∧ FrM 289 I s') (men c) (fun k I1 hk hp => by
    obtain ⟨hc, hf⟩ := hp
    try dsimp only at hc hf ⊢
    have hg := letK_n (nI s) c k
    have hng := hg.2.2 hn
    have e0 : I1 287 (0 : Int32).toNatClampNeg = nI (men c) := by
      show I1 287 0 = _
      rw [hf 287 (by omega)]; exact h0
    rw [bX9_let_114, show zin 0 43 = true from by decide, zbt_t, e0, if_neg (by rw [nle (by omega) (by omega)]; omega), m_has (nI s) (by omega), cI_some, bX9_let_132, letK_s]
    cases hb : bt (nI s) k with
    | false =>
      rw [if0, bX9_let_157, nI_1, if_neg (by decide)]
      exact ⟨I1, rfl, hc, hf⟩
    | true =>
      obtain ⟨I2, e2, h2, f2⟩ := m_be3 (X := X) (d := d) (L := L) (J := J) hc hng (show k < men _ by rw [hg.1]; exact hk) 2
      obtain ⟨I3, e3, h3, f3⟩ := m_be2 (X := X) (d := d) (L := L) (J := J) h2 (Cn_cup (by omega) hng) (show k < men _ by rw [men_cup (by omega), hg.1]; exact hk) 0
      rw [if1, e2, cV_some, bX9_let_146, e3, cV_some, bX9_let_157, nI_1, if_pos rfl]
      exact ⟨I3, rfl, h3, (hf.tr f2).tr f3⟩) ⟨h, FrM.rf _ _⟩
theorem m_let65 (h : MAt I 287 c) (hv : Iv c) (hn31 : n < 2 ^ 31) (v2 : Int32) : ∃ I', zgo X (zcall X (d+5)) (some .int) kX9_let 65 [some (.inr (.inr (some (.inl 9, 283)))), some (.inl (nI n)), some (.inl (v2)), some (.inl (ltM c)), some (.inl ((-1000000))), some (.inl (0)), none] [] (L, zB1, I, J) = some (some (.inl (if v2 = 0 then bcS (o2i (ltK c n (2 ^ men c))) else o2i (ltK c n (2 ^ men c)))), (L, zB1, I', J)) ∧ FrM 289 I I' := by
  have hn := hv.1
  have h6 := hn.2.1
  have hp := pow_le6 (men c) (by omega)
  obtain ⟨⟨u, I1⟩, e1, f1⟩ := zloopR (fun k (s : Option zV × (Nat → Nat → Int32)) => zgo X (zcall X (d+5)) (some .int) kX9_let 65 [some (.inr (.inr (some (.inl 9, 283)))), some (.inl (nI n)), some (.inl (v2)), some (.inl (ltM c)), some (.inl (o2i (ltK c n k))), some (.inl (nI k)), s.1] [] (L, zB1, s.2, J)) (fun k s => FrM 289 I s.2) (2 ^ men c) (fun k s hk f1 => by
    obtain ⟨u, I1⟩ := s
    try dsimp only at f1 ⊢
    have hM1 : MAt I1 287 c := f1.MAt h (by omega)
    have e0 : I1 287 (0 : Int32).toNatClampNeg = nI (men c) := hM1.men hn
    obtain ⟨I2, e2, h2, f2⟩ := m_layThen (X := X) (d := d + 4) (L := L) (J := J) hM1 hn
    obtain ⟨I3, e3, h3, f3⟩ := m_let114 (X := X) (d := d + 4) (L := L) (J := J) h2 (by rw [f2 287 (by omega)]; exact hM1.men hn) hn (nI n) v2 (ltM c) (o2i (ltK c n k)) (s := k)
    have hg := Iv_letK (nI k) hv (men c)
    obtain ⟨I4, e4, h4', f4⟩ := m_yearsOf (X := X) (d := d + 1) (L := L) (J := J) h3 hg hn31
    have hI := Iv_pasS 0 hg n
    have e03 : I3 287 (0 : Int32).toNatClampNeg = nI (men c) := by
      rw [f3 287 (by omega), f2 287 (by omega)]; exact hM1.men hn
    have f14 := ((f1.tr f2).tr f3).tr f4
    have app : cV (zcall X (d + 5) 191 [.inr (.inr (some (.inl 9, 283)))] (L, zB1, I1, J)) (fun σ => zgo X (zcall X (d+5)) (some .int) kX9_let 111 [some (.inr (.inr (some (.inl 9, 283)))), some (.inl (nI n)), some (.inl (v2)), some (.inl (ltM c)), some (.inl (o2i (ltK c n k))), some (.inl (nI k)), u] [] σ) = if ltW c n k = true then zgo X (zcall X (d+5)) (some .int) kX9_let 65 [some (.inr (.inr (some (.inl 9, 283)))), some (.inl (nI n)), some (.inl (v2)), some (.inl (ltM c)), some (.inl (nI k)), some (.inl (nI (k + 1))), some (.inl (nI (men c)))] [] (L, zB1, I4, J) else zgo X (zcall X (d+5)) (some .int) kX9_let 65 [some (.inr (.inr (some (.inl 9, 283)))), some (.inl (nI n)), some (.inl (v2)), some (.inl (ltM c)), some (.inl (o2i (ltK c n k))), some (.inl (nI (k + 1))), some (.inl (nI (men c)))] [] (L, zB1, I4, J) := by
      rw [e2, cV_some, bX9_let_111, e3, bX9_let_114, show zin 0 43 = true from by decide, zbt_t, e03, if_pos (by rw [nle (by omega) (by omega)]; omega), e4, cV_some, bX9_let_171, m_those h4' hI.1, cI_some, bX9_let_179, nI_1]
      unfold ltW
      by_cases q : whoS (pasS n 0 (letK (nI k) c (men c))) 0 = 0
      · rw [if_pos q, if_pos (decide_eq_true q)]
      · rw [if_neg q, if_neg (by rw [decide_eq_false q]; decide)]
    have lw : ltG c k = true → ltL (ltK c n k) k = true → ∃ y9 : Option zV × (Nat → Nat → Int32), (if ltW c n k = true then zgo X (zcall X (d+5)) (some .int) kX9_let 65 [some (.inr (.inr (some (.inl 9, 283)))), some (.inl (nI n)), some (.inl (v2)), some (.inl (ltM c)), some (.inl (nI k)), some (.inl (nI (k + 1))), some (.inl (nI (men c)))] [] (L, zB1, I4, J) else zgo X (zcall X (d+5)) (some .int) kX9_let 65 [some (.inr (.inr (some (.inl 9, 283)))), some (.inl (nI n)), some (.inl (v2)), some (.inl (ltM c)), some (.inl (o2i (ltK c n k))), some (.inl (nI (k + 1))), some (.inl (nI (men c)))] [] (L, zB1, I4, J)) = zgo X (zcall X (d+5)) (some .int) kX9_let 65 [some (.inr (.inr (some (.inl 9, 283)))), some (.inl (nI n)), some (.inl (v2)), some (.inl (ltM c)), some (.inl (o2i (ltK c n (k + 1)))), some (.inl (nI (k + 1))), y9.1] [] (L, zB1, y9.2, J) ∧ FrM 289 I y9.2 := by
      intro w1 w2
      refine ⟨(some (.inl (nI (men c))), I4), ?_, f14⟩
      rw [ltK_s]
      unfold ltS
      rw [w1, w2, Bool.true_and, Bool.true_and]
      by_cases q : ltW c n k = true
      · rw [if_pos q, if_pos q]; rfl
      · rw [if_neg q, if_neg q]
    rw [bX9_let_65, show zin 0 43 = true from by decide, zbt_t, e0, shl_nI _ (by omega), if_neg (by rw [nle (by omega) (by omega)]; omega), m_bits, cI_some, bX9_let_99, m_bits, cI_some, bX9_let_104, app, nI_1]
    by_cases hG : nI k &&& (ltM c ^^^ (-1)) = 0
    · rw [if_pos hG]
      have hG' : ltG c k = true := decide_eq_true hG
      cases hb : ltK c n k with
      | none =>
        rw [if_pos (show o2i none = -1000000 from rfl), ← hb]
        exact lw hG' (by rw [hb]; rfl)
      | some t =>
        have ht := ltK_lt c n k t hb
        rw [if_neg (show ¬ o2i (some t) = -1000000 from nI_mil (by omega))]
        by_cases q : bcS (o2i (some t)) ≤ bcS (nI k)
        · rw [if_pos q]
          refine ⟨(u, I1), ?_, f1⟩
          rw [ltK_s]
          unfold ltS
          rw [hb, show ltL (some t) k = false from decide_eq_false (by rw [i32_lt]; rw [i32_le] at q; show ¬ (bcS (nI k)).toInt < (bcS (o2i (some t))).toInt; omega), Bool.false_and, Bool.and_false, if_neg (by decide)]
        · rw [if_neg q, ← hb]
          exact lw hG' (by rw [hb]; exact decide_eq_true (by rw [i32_lt]; rw [i32_le] at q; show (bcS (nI k)).toInt < (bcS (o2i (some t))).toInt; omega))
    · rw [if_neg hG]
      refine ⟨(u, I1), ?_, f1⟩
      rw [ltK_s]
      unfold ltS
      rw [show ltG c k = false from decide_eq_false hG, Bool.false_and, if_neg (by decide)]) (a := ((none : Option zV), I)) (FrM.rf _ _)
  try dsimp only at f1
  refine ⟨I1, (show _ = _ from e1).trans ?_, f1⟩
  have e0 : I1 287 (0 : Int32).toNatClampNeg = nI (men c) := (f1.MAt h (by omega)).men hn
  try dsimp only
  rw [bX9_let_65, show zin 0 43 = true from by decide, zbt_t, e0, shl_nI _ (by omega), if_pos (by rw [nle (by omega) (by omega)]; omega), m_bits, cI_some, bX9_let_206, iteT]
theorem p_let (a1 a2 : Int32) : Pub X (d + 20) L 129 209 [.inl a1, .inl a2] := by
  refine pub_of fun I J c hc _ => ?_
  obtain ⟨hC, hM, hv⟩ := hc
  have hn := hv.1
  have h6 := hn.2.1
  have c1 := eX8_let X (d + 19) L I J a1 a2
  rw [c_hasCircuit hC hn, cI_some, bX8_let_4, c_isWithin, cI_some, bX8_let_17, show wi a1 (Int32.toInt 1) (Int32.toInt 30) = wi a1 1 30 from rfl, c_isWithin, cI_some, bX8_let_26, show wi a2 (Int32.toInt 0) (Int32.toInt 1) = wi a2 0 1 from rfl] at c1
  have mh : ∀ I1 : Nat → Nat → Int32, MAt I1 287 c → _ := fun I1 hM1 => by
    have m1 := eX9_let X (d + 19) L I1 J a1 a2
    have hM2 := hM1.th (show 287 ≠ 283 by omega)
    rw [m_isThere hM2 hn, cI_some, bX9_let_9, m_inI, cI_some, bX9_let_24, show wi a1 (Int64.toInt 1) (Int64.toInt 30) = wi a1 1 30 from rfl, m_inI, cI_some, bX9_let_34, show wi a2 (Int64.toInt 0) (Int64.toInt 1) = wi a2 0 1 from rfl, m_those hM2 hn, cI_some, bX9_let_48, m_those hM2 hn, cI_some, bX9_let_56] at m1
    exact m1
  cases hz : decide (0 < men c) with
  | false =>
    rw [hz, if0] at c1
    refine ⟨_, I, J, c1, Q.rf I, zup I 283 0 0, ?_, Qth I⟩
    rw [mh I hM, hz, if0]
  | true =>
    rw [hz, if1] at c1
    cases hw : wi a1 1 30 with
    | false =>
      rw [hw, if0] at c1
      refine ⟨_, I, J, c1, Q.rf I, zup I 283 0 0, ?_, Qth I⟩
      rw [mh I hM, hz, if1, hw, if0]
    | true =>
      rw [hw, if1] at c1
      cases hy : wi a2 0 1 with
      | false =>
        rw [hy, if0] at c1
        refine ⟨_, I, J, c1, Q.rf I, zup I 283 0 0, ?_, Qth I⟩
        rw [mh I hM, hz, if1, hw, if1, hy, if0]
      | true =>
        obtain ⟨n, hn1, hn2, rfl, hn31⟩ := wi_nI1 (by omega) hw
        obtain ⟨I1, e1, g, f1⟩ := c_planLet (X := X) (d := d + 13) (L := L) (J := J) hC hv hn31
        obtain ⟨s, hs, hs1, hs2⟩ := lt_all hv n
        have hp := pow_le6 (men c) (by omega)
        have h64 : ltK c n 64 = ltK c n (2 ^ men c) := by
          have := lt_hi hv n (64 - 2 ^ men c) (by omega)
          rw [show 2 ^ men c + (64 - 2 ^ men c) = 64 by omega] at this
          exact this
        have hsome := ltK_some c n hs1 hs2 _ hs
        cases hb : ltK c n (2 ^ men c) with
        | none => rw [hb] at hsome; cases hsome
        | some t =>
          obtain ⟨g7, g6⟩ := g t (h64.trans hb)
          rw [hy, if1, e1, cV_some, bX8_let_44, eX5_bestWorth, cI_some, bX8_let_55, bX8_let_65, eX5_bestSet, cI_some, bX8_let_65, g6, g7, iteT] at c1
          obtain ⟨I2, e2, f2⟩ := m_let65 (X := X) (d := d + 14) (L := L) (J := J) ((f1.Q.MAt hM).th (show 287 ≠ 283 by omega)) hv hn31 a2
          rw [hb] at e2
          refine ⟨_, I1, J, c1, f1.Q, I2, ?_, (Qth I1).frM f2 (by omega)⟩
          rw [mh I1 (f1.Q.MAt hM), hz, if1, hw, if1, hy, if1, show whoS c 0 ||| whoS c 1 = ltM c from rfl, e2]
          rfl
end LETM
