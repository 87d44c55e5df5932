/-! gates -/
def FrP (I I' : Nat → Nat → Int32) : Prop := ∀ a, a ≠ 234 → ¬ (243 ≤ a ∧ a ≤ 250) → I' a = I a
theorem FrP.rf (I : Nat → Nat → Int32) : FrP I I := fun _ _ _ => rfl
theorem FrP.tr {I I1 I2 : Nat → Nat → Int32} (h : FrP I I1) (h2 : FrP I1 I2) : FrP I I2 := fun a k1 k2 => (h2 a k1 k2).trans (h a k1 k2)
theorem Fr.P {I I' : Nat → Nat → Int32} (h : Fr 243 I I') : FrP I I' := fun a _ k2 => h a (by omega)
theorem FrP.up {I I1 : Nat → Nat → Int32} (h : FrP I I1) {i : Nat} {v : Int32} : FrP I (zup I1 234 i v) := fun a k1 k2 => by
  rw [zup_ne k1]
  exact h a k1 k2
theorem FrP.Q {I I' : Nat → Nat → Int32} (h : FrP I I') : Q I I' := fun a i k => by
  unfold kor at k
  rw [h a (by omega) (by omega)]
theorem FrP.CAt {I I' : Nat → Nat → Int32} (h : FrP I I') {b : Nat} {c : Cr} (hc : CAt I b c) (hb : b = 13 ∨ b = 235) : CAt I' b c := by
  intro f i hv
  have := vld_le hv
  rw [h (b + f) (by omega) (by omega)]
  exact hc f i hv
theorem shl_nI : ∀ j ≤ 6, (1 <<< (nI j &&& 31) : Int32) = nI (2 ^ j) := by decide +kernel
theorem pow_le6 : ∀ j ≤ 6, 1 ≤ 2 ^ j ∧ 2 ^ j ≤ 64 := by decide
def gtK (set : Int32) (c : Cr) (k : Nat) : Cr := zfold k c (fun j c => cup c 2 j (b2i (bt set j)))
theorem gtK_n (set : Int32) (c : Cr) : ∀ k, men (gtK set c k) = men c ∧ jud (gtK set c k) = jud c ∧ (Cn c → Cn (gtK set c k)) ∧ (Iv c → Iv (gtK set c k))
  | 0 => ⟨rfl, rfl, fun h => h, fun h => h⟩
  | k + 1 => by
    obtain ⟨h1, h2, h3, h4⟩ := gtK_n set c k
    show men (cup (gtK set c k) 2 k _) = _ ∧ jud (cup (gtK set c k) 2 k _) = _ ∧ (Cn c → Cn (cup (gtK set c k) 2 k _)) ∧ (Iv c → Iv (cup (gtK set c k) 2 k _))
    rw [men_cup (by omega), jud_cup (by omega)]
    refine ⟨h1, h2, fun h => Cn_cup (by omega) (h3 h), fun h => Iv_gate (h4 h) (Or.inr rfl) ⟨fun q => by omega, fun _ => ?_⟩⟩
    cases bt set k with
    | true => exact ⟨by decide, by decide⟩
    | false => exact ⟨by decide, by decide⟩
def gtW (c : Cr) (n : Nat) (s : Nat) : Int32 := taS (pasS n 0 (gtK (nI s) c (jud c)))
def gbK (c : Cr) (n : Nat) (k : Nat) : Int32 × Int32 := zfold k (-1, 0) (fun s b => if gtW c n s ≤ b.1 then b else (gtW c n s, nI s))
theorem gbK_s (c : Cr) (n k : Nat) : gbK c n (k + 1) = if gtW c n k ≤ (gbK c n k).1 then gbK c n k else (gtW c n k, nI k) := rfl
section GATES
variable {X : Nat → Nat → Int32} {d : Nat} {L : List zK} {I : Nat → Nat → Int32} {J : Nat → Nat → Int64} {c : Cr} {n : Nat}
theorem c_gate28 (h : CAt I 243 c) (hn : Cn c) (v2 : Int32) (s : Int32) : ∃ I', zgo X (zcall X (d)) none kX5_planGates 28 [some (.inr (.inr (some (.inl 5, 234)))), some (.inr (.inr (some (.inl 1, 13)))), some (.inl (v2)), some (.inl (s)), some (.inl (0))] [] (L, zB1, I, J) = zgo X (zcall X (d)) none kX5_planGates 28 [some (.inr (.inr (some (.inl 5, 234)))), some (.inr (.inr (some (.inl 1, 13)))), some (.inl (v2)), some (.inl (s)), some (.inl (nI (jud c)))] [] (L, zB1, I', J) ∧ CAt I' 243 (gtK s c (jud c)) ∧ Fr 243 I I' := by
  have h4 := hn.2.2.2
  exact zloopR (fun k (I : Nat → Nat → Int32) => zgo X (zcall X (d)) none kX5_planGates 28 [some (.inr (.inr (some (.inl 5, 234)))), some (.inr (.inr (some (.inl 1, 13)))), some (.inl (v2)), some (.inl (s)), some (.inl (nI k))] [] (L, zB1, I, J)) (fun k s' => CAt s' 243 (gtK s c k) ∧ Fr 243 I s') (jud c) (fun k I1 hk hp => by
    obtain ⟨hc, hf⟩ := hp
    have hg := gtK_n s c k
    try dsimp only
    rw [bX5_planGates_28, show I1 243 0 = nI (jud c) from by rw [hc.jud (hg.2.2.1 hn), hg.2.1], if_neg (by rw [nle (by omega) (by omega)]; omega), zin_nI (show k < 4 by omega) (by omega), zbt_t, ncl (by omega), bt_get s (by omega), nI_1]
    exact ⟨_, rfl, hc.up (f := 2) (by omega), hf.up (f := 2) (by omega)⟩) ⟨h, Fr.rf _ _⟩
theorem c_planGates (h : CAt I 13 c) (hv : Iv c) (hn31 : n < 2 ^ 31) : ∃ I', zcall X (d + 6) 67 [.inr (.inr (some (.inl 5, 234))), .inr (.inr (some (.inl 1, 13))), .inl (nI n)] (L, zB1, I, J) = some (none, (L, zB1, I', J)) ∧ I' 234 7 = (gbK c n (2 ^ jud c)).1 ∧ I' 234 6 = (gbK c n (2 ^ jud c)).2 ∧ FrP I I' := by
  have hn := hv.1
  have h4 := hn.2.2.2
  have hp := pow_le6 (jud c) (by omega)
  obtain ⟨⟨u, I1⟩, e1, g7, g6, f1⟩ := zloopR (fun k (s : Option zV × (Nat → Nat → Int32)) => zgo X (zcall X (d+5)) none kX5_planGates 7 [some (.inr (.inr (some (.inl 5, 234)))), some (.inr (.inr (some (.inl 1, 13)))), some (.inl (nI n)), some (.inl (nI k)), s.1] [] (L, zB1, s.2, J)) (fun k s => s.2 234 7 = (gbK c n k).1 ∧ (0 < k → s.2 234 6 = (gbK c n k).2 ∧ 0 ≤ (gbK c n k).1.toInt) ∧ FrP I s.2) (2 ^ jud c) (fun k s hk hp => by
    obtain ⟨u, I1⟩ := s
    obtain ⟨g7, g6, f1⟩ := hp
    try dsimp only at g7 g6 f1 ⊢
    have hC := f1.CAt h (by omega)
    obtain ⟨I2, e2, h2, f2⟩ := c_takeFrom (X := X) (d := d + 4) (L := L) (J := J) (b := 243) hC hn (by omega)
    obtain ⟨I3, e3, h3, f3⟩ := c_gate28 (X := X) (d := d + 5) (L := L) (J := J) h2 hn (nI n) (nI k)
    have hg := gtK_n (nI k) c (jud c)
    obtain ⟨I4, e4, h4', f4⟩ := c_passYears (X := X) (d := d + 1) (L := L) (J := J) h3 (hg.2.2.1 hn) hn31 0
    have hP := pasS_n 0 (gtK (nI k) c (jud c)) n
    have hI := Iv_pasS 0 (hg.2.2.2 hv) n
    have hT : rg (gtW c n k) 0 594 := taS_rg hI
    have f24 := (f2.tr f3).tr f4
    have r7 : I4 234 7 = (gbK c n k).1 := by rw [f24 234 (by omega)]; exact g7
    rw [bX5_planGates_7, show I1 13 0 = nI (jud c) from hC.jud hn, shl_nI _ (by omega), if_neg (by rw [nle (by omega) (by omega)]; omega), e2, cV_some, bX5_planGates_25, e3, bX5_planGates_28, show I3 243 0 = nI (jud c) from by rw [h3.jud (hg.2.2.1 hn), hg.2.1], if_pos (by rw [nle (by omega) (by omega)]; omega), e4, cV_some, bX5_planGates_71, c_trustOfAll h4' hI.1, cI_some, bX5_planGates_78, r7, nI_1, show taS (pasS n 0 (gtK (nI k) c (jud c))) = gtW c n k from rfl]
    by_cases q : gtW c n k ≤ (gbK c n k).1
    · rw [if_pos q]
      refine ⟨(some (.inl (gtW c n k)), I4), rfl, ?_, ?_, f1.tr f24.P⟩
      · rw [gbK_s, if_pos q]; exact r7
      · intro _
        rw [gbK_s, if_pos q]
        have hk0 : 0 < k := by
          rcases Nat.eq_zero_or_pos k with e | e
          · rw [e] at q hT
            rw [i32_le] at q
            have : ((gbK c n 0).1).toInt = -1 := rfl
            have := hT.1
            omega
          · exact e
        obtain ⟨w1, w2⟩ := g6 hk0
        exact ⟨by show I4 234 6 = _; rw [f24 234 (by omega)]; exact w1, w2⟩
    · rw [if_neg q]
      refine ⟨(some (.inl (gtW c n k)), zup (zup I4 234 7 (gtW c n k)) 234 6 (nI k)), rfl, ?_, ?_, (f1.tr f24.P).up.up⟩
      · try dsimp only
        rw [gbK_s, if_neg q, zup_at, if_neg (by omega), zup_at, if_pos ⟨rfl, rfl⟩]
      · intro _
        try dsimp only
        rw [gbK_s, if_neg q, zup_at, if_pos ⟨rfl, rfl⟩]
        exact ⟨rfl, hT.1⟩) (a := ((none : Option zV), zup I 234 7 (-1))) ⟨by show zup I 234 7 (-1) 234 7 = -1; rw [zup_at, if_pos ⟨rfl, rfl⟩], fun q => by omega, (FrP.rf I).up⟩
  try dsimp only at g7 g6 f1
  refine ⟨I1, ?_, g7, (g6 (by omega)).1, f1⟩
  rw [eX5_planGates]
  refine (show _ = _ from e1).trans ?_
  try dsimp only
  rw [bX5_planGates_7, show I1 13 0 = nI (jud c) from (f1.CAt h (by omega)).jud hn, shl_nI _ (by omega), if_pos (by rw [nle (by omega) (by omega)]; omega)]
theorem m_gate68 (h : MAt I 289 c) (h0 : I 287 1 = nI (jud c)) (hn : Cn c) (v1 v2 v3 v4 : Int32) {s : Nat} : ∃ I', zgo X (zcall X (d+1)) (some .int) kX9_gates 68 [some (.inr (.inr (some (.inl 9, 283)))), some (.inl (v1)), some (.inl (v2)), some (.inl (v3)), some (.inl (v4)), some (.inl (nI s)), some (.inl (0))] [] (L, zB1, I, J) = zgo X (zcall X (d+1)) (some .int) kX9_gates 68 [some (.inr (.inr (some (.inl 9, 283)))), some (.inl (v1)), some (.inl (v2)), some (.inl (v3)), some (.inl (v4)), some (.inl (nI s)), some (.inl (nI (jud c)))] [] (L, zB1, I', J) ∧ MAt I' 289 (gtK (nI s) c (jud c)) ∧ FrM 289 I I' := by
  have h4 := hn.2.2.2
  exact zloopR (fun k (I : Nat → Nat → Int32) => zgo X (zcall X (d+1)) (some .int) kX9_gates 68 [some (.inr (.inr (some (.inl 9, 283)))), some (.inl (v1)), some (.inl (v2)), some (.inl (v3)), some (.inl (v4)), some (.inl (nI s)), some (.inl (nI k))] [] (L, zB1, I, J)) (fun k s' => MAt s' 289 (gtK (nI s) c k) ∧ FrM 289 I s') (jud c) (fun k I1 hk hp => by
    obtain ⟨hc, hf⟩ := hp
    have hg := gtK_n (nI s) c k
    have ix : (5 + (2 * nI k)) + 1 = nI (6 + 2 * k) := by
      rw [ix2, nI_1]
      congr 1
      omega
    have e0 : I1 287 (1 : Int32).toNatClampNeg = nI (jud c) := by
      show I1 287 1 = _
      rw [hf 287 (by omega)]; exact h0
    try dsimp only
    rw [bX9_gates_68, show zin 1 43 = true from by decide, zbt_t, e0, if_neg (by rw [nle (by omega) (by omega)]; omega), m_has (nI s) (by omega), cI_some, bX9_gates_98, ix, zin_nI (show 6 + 2 * k < 43 by omega) (by omega), zbt_t, zbt_t, ncl (by omega), nI_1]
    have hu : ∀ v : Int32, MAt (zup I1 289 (6 + 2 * k) v) 289 (cup (gtK (nI s) c k) 2 k v) := fun v => hc.up (hg.2.2.1 hn) (f := 2) (by omega) (vj (by show k < jud _; rw [hg.2.1]; exact hk) (by omega) (by omega))
    cases hb : bt (nI s) k with
    | false =>
      rw [if0]
      refine ⟨_, rfl, ?_, hf.up⟩
      show MAt _ 289 (cup (gtK (nI s) c k) 2 k (b2i (bt (nI s) k)))
      rw [hb]; exact hu 0
    | true =>
      rw [if1]
      refine ⟨_, rfl, ?_, hf.up⟩
      show MAt _ 289 (cup (gtK (nI s) c k) 2 k (b2i (bt (nI s) k)))
      rw [hb]; exact hu 1) ⟨h, FrM.rf _ _⟩
theorem m_gates48 (h : MAt I 287 c) (hv : Iv c) (hn31 : n < 2 ^ 31) (v2 : Int32) : ∃ I', zgo X (zcall X (d+5)) (some .int) kX9_gates 48 [some (.inr (.inr (some (.inl 9, 283)))), some (.inl (nI n)), some (.inl (v2)), some (.inl ((-1))), some (.inl (0)), some (.inl (0)), none] [] (L, zB1, I, J) = some (some (.inl (if v2 = 0 then (gbK c n (2 ^ jud c)).2 else (gbK c n (2 ^ jud c)).1)), (L, zB1, I', J)) ∧ FrM 289 I I' := by
  have hn := hv.1
  have h4 := hn.2.2.2
  have hp := pow_le6 (jud c) (by omega)
  obtain ⟨⟨t, u, I1⟩, e1, et, f1⟩ := zloopR (fun k (s : (Int32 × Int32) × Option zV × (Nat → Nat → Int32)) => zgo X (zcall X (d+5)) (some .int) kX9_gates 48 [some (.inr (.inr (some (.inl 9, 283)))), some (.inl (nI n)), some (.inl (v2)), some (.inl (s.1.1)), some (.inl (s.1.2)), some (.inl (nI k)), s.2.1] [] (L, zB1, s.2.2, J)) (fun k s => s.1 = gbK c n k ∧ FrM 289 I s.2.2) (2 ^ jud c) (fun k s hk hp => by
    obtain ⟨t, u, I1⟩ := s
    obtain ⟨rfl, f1⟩ := hp
    try dsimp only at f1 ⊢
    have hM1 : MAt I1 287 c := f1.MAt h (by omega)
    have e0 : I1 287 (1 : Int32).toNatClampNeg = nI (jud c) := hM1.jud hn
    obtain ⟨I2, e2, h2, f2⟩ := m_layThen (X := X) (d := d + 4) (L := L) (J := J) hM1 hn
    obtain ⟨I3, e3, h3, f3⟩ := m_gate68 (X := X) (d := d + 4) (L := L) (J := J) h2 (by rw [f2 287 (by omega)]; exact hM1.jud hn) hn (nI n) v2 (gbK c n k).1 (gbK c n k).2 (s := k)
    have hg := gtK_n (nI k) c (jud c)
    obtain ⟨I4, e4, h4', f4⟩ := m_yearsOf (X := X) (d := d + 1) (L := L) (J := J) h3 (hg.2.2.2 hv) hn31
    have hI := Iv_pasS 0 (hg.2.2.2 hv) n
    have e03 : I3 287 (1 : Int32).toNatClampNeg = nI (jud c) := by
      rw [f3 287 (by omega), f2 287 (by omega)]; exact hM1.jud hn
    rw [bX9_gates_48, show zin 1 43 = true from by decide, zbt_t, e0, shl_nI _ (by omega), if_neg (by rw [nle (by omega) (by omega)]; omega), e2, cV_some, bX9_gates_65, e3, bX9_gates_68, show zin 1 43 = true from by decide, zbt_t, e03, if_pos (by rw [nle (by omega) (by omega)]; omega), e4, cV_some, bX9_gates_121, m_trustAll h4' hI.1, cI_some, bX9_gates_130, m_trustAll h4' hI.1, cI_some, bX9_gates_143, nI_1, show taS (pasS n 0 (gtK (nI k) c (jud c))) = gtW c n k from rfl]
    by_cases q : gtW c n k ≤ (gbK c n k).1
    · rw [if_pos q]
      exact ⟨(gbK c n k, some (.inl (nI (jud c))), I4), rfl, by rw [gbK_s, if_pos q], ((f1.tr f2).tr f3).tr f4⟩
    · rw [if_neg q]
      exact ⟨((gtW c n k, nI k), some (.inl (nI (jud c))), I4), rfl, by rw [gbK_s, if_neg q], ((f1.tr f2).tr f3).tr f4⟩) (a := ((-1, 0), none, I)) ⟨rfl, FrM.rf _ _⟩
  try dsimp only at et f1
  refine ⟨I1, (show _ = _ from e1).trans ?_, f1⟩
  have e0 : I1 287 (1 : Int32).toNatClampNeg = nI (jud c) := (f1.MAt h (by omega)).jud hn
  try dsimp only
  rw [bX9_gates_48, show zin 1 43 = true from by decide, zbt_t, e0, shl_nI _ (by omega), if_pos (by rw [nle (by omega) (by omega)]; omega), iteT, et]
theorem p_gates (a1 a2 : Int32) : Pub X (d + 20) L 128 208 [.inl a1, .inl a2] := by
  refine pub_of fun I J c hc _ => ?_
  obtain ⟨hC, hM, hv⟩ := hc
  have hn := hv.1
  have hMt := hM.th (show 287 ≠ 283 by omega)
  have c1 := eX8_gates X (d + 19) L I J a1 a2
  rw [c_hasCircuit hC hn, cI_some, bX8_gates_4, c_isWithin, cI_some, bX8_gates_17, show wi a1 (Int32.toInt 1) (Int32.toInt 30) = wi a1 1 30 from rfl, c_isWithin, cI_some, bX8_gates_26, show wi a2 (Int32.toInt 0) (Int32.toInt 1) = wi a2 0 1 from rfl] at c1
  have mh : ∀ I1 : Nat → Nat → Int32, MAt I1 287 c → _ := fun I1 hM1 => by
    have m1 := eX9_gates X (d + 19) L I1 J a1 a2
    rw [m_isThere (hM1.th (show 287 ≠ 283 by omega)) hn, cI_some, bX9_gates_9, m_inI, cI_some, bX9_gates_24, show wi a1 (Int64.toInt 1) (Int64.toInt 30) = wi a1 1 30 from rfl, m_inI, cI_some, bX9_gates_34, show wi a2 (Int64.toInt 0) (Int64.toInt 1) = wi a2 0 1 from rfl] at m1
    exact m1
  cases hz : decide (0 < men c) with
  | false =>
    rw [hz, if0] at c1
    refine ⟨_, I, J, c1, Q.rf I, zup I 283 0 0, ?_, Qth I⟩
    rw [mh I hM, hz, if0]
  | true =>
    rw [hz, if1] at c1
    cases hw : wi a1 1 30 with
    | false =>
      rw [hw, if0] at c1
      refine ⟨_, I, J, c1, Q.rf I, zup I 283 0 0, ?_, Qth I⟩
      rw [mh I hM, hz, if1, hw, if0]
    | true =>
      rw [hw, if1] at c1
      cases hy : wi a2 0 1 with
      | false =>
        rw [hy, if0] at c1
        refine ⟨_, I, J, c1, Q.rf I, zup I 283 0 0, ?_, Qth I⟩
        rw [mh I hM, hz, if1, hw, if1, hy, if0]
      | true =>
        obtain ⟨n, hn1, hn2, rfl, hn31⟩ := wi_nI1 (by omega) hw
        obtain ⟨I1, e1, g7, g6, f1⟩ := c_planGates (X := X) (d := d + 13) (L := L) (J := J) hC hv hn31
        rw [hy, if1, e1, cV_some, bX8_gates_44, eX5_bestSet, cI_some, bX8_gates_55, bX8_gates_65, eX5_bestWorth, cI_some, bX8_gates_65, g6, g7, iteT] at c1
        obtain ⟨I2, e2, f2⟩ := m_gates48 (X := X) (d := d + 14) (L := L) (J := J) ((f1.Q.MAt hM).th (show 287 ≠ 283 by omega)) hv hn31 a2
        refine ⟨_, I1, J, c1, f1.Q, I2, ?_, (Qth I1).frM f2 (by omega)⟩
        rw [mh I1 (f1.Q.MAt hM), hz, if1, hw, if1, hy, if1, e2]
end GATES
