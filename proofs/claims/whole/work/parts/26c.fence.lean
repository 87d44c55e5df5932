/-! fences: class, reference, public call -/
theorem pasS_s (g : Int32) (c : Cr) (k : Nat) : pasS (k + 1) g c = yrS (gB g k) (pasS k g c) := rfl
theorem wL_s (t : Int32) (s k : Nat) : wL t s (k + 1) = wL t s k * (if bt (nI s) k = true then t.toInt64 else (10 - t).toInt64) := rfl
theorem toK_s (t : Int32) (n k : Nat) : toK t n (k + 1) = toK t n k + wL t k n := rfl
theorem p10_s (n : Nat) : p10 (n + 1) = p10 n * 10 := rfl
theorem shl8 : ∀ j ≤ 8, (1 <<< (nI j &&& 31) : Int32) = nI (2 ^ j) := by decide +kernel
theorem pow_le8 : ∀ j ≤ 8, 1 ≤ 2 ^ j ∧ 2 ^ j ≤ 256 := by decide
section FENCE
variable {X : Nat → Nat → Int32} {d : Nat} {L : List zK} {I : Nat → Nat → Int32} {J : Nat → Nat → Int64} {c : Cr} {n m : Nat}
theorem c_casesOf (hn : n ≤ 8) (s : Nat) (t : Int32) : zcall X (d + 1) 46 [.inl (nI n), .inl (nI s), .inl t] (L, zB1, I, J) = some (some (.inr (.inl (wL t s n))), (L, zB1, I, J)) := by
  obtain ⟨⟨⟩, e1, _⟩ := zloopR (fun k (_ : Unit) => zgo X (zcall X (d)) (some .long) kX3_casesOf 5 [some (.inl (nI n)), some (.inl (nI s)), some (.inl (t)), some (.inr (.inl (wL t s k))), none, some (.inl (nI k))] [] (L, zB1, I, J)) (fun _ _ => True) n (fun k _ hk _ => by
    try dsimp only
    rw [bX3_casesOf_5, if_neg (by rw [nle (by omega) (by omega)]; omega), bt_get (nI s) (by omega), bX3_casesOf_32, bX3_casesOf_32, nI_1, wL_s]
    refine ⟨(), ?_, trivial⟩
    cases bt (nI s) k with
    | true => rw [if_pos (show b2i true = 1 from rfl), if_pos rfl]
    | false => rw [if_neg (show ¬ b2i false = 1 by decide), if_neg (by decide)]) (a := ()) trivial
  rw [eX3_casesOf]
  refine (show _ = _ from e1).trans ?_
  try dsimp only
  rw [bX3_casesOf_5, if_pos (by rw [nle (by omega) (by omega)]; omega)]
theorem c_weigh (h : CAt I 13 c) (hv : Iv c) (hm : m < men c) (hn : n ≤ 8) {t : Nat} (ht : t ≤ 10) : ∃ (I' : Nat → Nat → Int32) (J' : Nat → Nat → Int64) (g : Int64) (na nb : Nat), zcall X (d + 6) 45 [.inr (.inr (some (.inl 3, 225))), .inr (.inr (some (.inl 1, 13))), .inl (nI m), .inl (nI n), .inl (nI t)] (L, zB1, I, J) = some (none, (L, zB1, I', J')) ∧ (abS c m (nI t) n (2 ^ n)).toInt = (na : Int) ∧ (p10 n).toInt = (nb : Int) ∧ na < 2 ^ 40 ∧ 0 < nb ∧ nb < 2 ^ 40 ∧ g.toInt = ((Nat.gcd nb na : Nat) : Int) ∧ J' 225 1 = abS c m (nI t) n (2 ^ n) / g ∧ J' 225 2 = p10 n / g ∧ Fr 226 I I' := by
  have hcn := hv.1
  have h6 := hcn.2.1
  have hpw := pow_le8 n hn
  obtain ⟨J1, e1, g1, g2⟩ := zloopR (fun k (J : Nat → Nat → Int64) => zgo X (zcall X (d+5)) none kX3_weighFences 25 [some (.inr (.inr (some (.inl 3, 225)))), some (.inr (.inr (some (.inl 1, 13)))), some (.inl (nI m)), some (.inl (nI n)), some (.inl (nI t)), some (.inl (nI n)), some (.inl (nI k))] [] (L, zB1, I, J)) (fun k J => J 225 1 = 0 ∧ J 225 2 = p10 k) n (fun k J1 hk hp => by
    obtain ⟨g1, g2⟩ := hp
    try dsimp only at g1 g2 ⊢
    rw [bX3_weighFences_25, if_neg (by rw [nle (by omega) (by omega)]; omega), nI_1]
    refine ⟨_, rfl, ?_, ?_⟩
    · rw [zup_at, if_neg (by omega)]; exact g1
    · rw [zup_at, if_pos ⟨rfl, rfl⟩, g2, p10_s]) (a := zup (zup J 225 1 0) 225 2 1) ⟨by rw [zup_at, if_neg (by omega), zup_at, if_pos ⟨rfl, rfl⟩], by rw [zup_at, if_pos ⟨rfl, rfl⟩]; rfl⟩
  obtain ⟨⟨I2, J2⟩, e2, k1, k2, f2⟩ := zloopR (fun k (s : (Nat → Nat → Int32) × (Nat → Nat → Int64)) => zgo X (zcall X (d + 5)) none kX3_weighFences 53 [some (.inr (.inr (some (.inl 3, 225)))), some (.inr (.inr (some (.inl 1, 13)))), some (.inl (nI m)), some (.inl (nI n)), some (.inl (nI t)), some (.inl (nI n)), some (.inl (nI k))] [] (L, zB1, s.1, s.2)) (fun k s => s.2 225 1 = abS c m (nI t) n k ∧ s.2 225 2 = p10 n ∧ Fr 226 I s.1) (2 ^ n) (fun k s hk hp => by
    obtain ⟨I2, J2⟩ := s
    obtain ⟨k1, k2, f2⟩ := hp
    try dsimp only at k1 k2 f2 ⊢
    have hC : CAt I2 13 c := f2.CAt h (by omega)
    obtain ⟨I3, e3, h3, f3⟩ := c_takeFrom (X := X) (d := d + 4) (L := L) (J := J2) (b := 226) hC hcn (by omega)
    obtain ⟨I4, e4, h4, f4⟩ := c_passYears (X := X) (d := d + 1) (L := L) (J := J2) h3 hcn (n := n) (by omega) (nI k)
    have hP := pasS_n (nI k) c n
    rw [bX3_weighFences_53, shl8 n hn, if_neg (by rw [nle (by omega) (by omega)]; omega), e3, cV_some, bX3_weighFences_70, e4, cV_some, bX3_weighFences_81, c_isMan h4 (hP.2.2 hcn), cI_some, bX3_weighFences_89, hP.1, zin_nI hm (by omega), if1, zin_nI (show m < 6 by omega) (by omega), zbt_t, ncl (by omega), show I4 231 m = pasS n (nI k) c 5 m from h4.m (by show m < men _; rw [hP.1]; exact hm) 5 (by omega) (by omega), c_casesOf hn, cJ_some, bX3_weighFences_119, nI_1]
    by_cases q : pasS n (nI k) c 5 m = 3
    · rw [if_pos q]
      refine ⟨(I4, zup J2 225 1 (J2 225 1 + wL (nI t) k n)), rfl, ?_, ?_, (f2.tr f3).tr f4⟩
      · try dsimp only
        rw [abS_s, if_pos q, zup_at, if_pos ⟨rfl, rfl⟩, k1]
      · try dsimp only
        rw [zup_at, if_neg (by omega)]; exact k2
    · rw [if_neg q]
      refine ⟨(I4, J2), rfl, ?_, k2, (f2.tr f3).tr f4⟩
      rw [abS_s, if_neg q]; exact k1) (a := (I, J1)) ⟨g1, g2, Fr.rf _ _⟩
  try dsimp only at k1 k2 f2
  obtain ⟨na, hna, hna2⟩ := abS_rg c m ht hn (2 ^ n) hpw.2
  have hb := p10_pos n hn
  obtain ⟨nb, hnb⟩ : ∃ nb : Nat, (p10 n).toInt = (nb : Int) := ⟨(p10 n).toInt.toNat, by omega⟩
  have hna3 : na < 2 ^ 40 := by
    have : 2 ^ n * 100000000 ≤ 256 * 100000000 := Nat.mul_le_mul_right _ hpw.2
    omega
  obtain ⟨J3, g, e3, hg, z1, z2⟩ := c_reduce (X := X) (d := d + 4) (L := L) (I := I2) (J := J2) (na := na) (nb := nb) (by rw [k1]; exact hna) (by rw [k2]; exact hnb) hna3 (by omega)
  refine ⟨I2, J3, g, na, nb, ?_, hna, hnb, hna3, by omega, by omega, hg, by rw [z1, k1], by rw [z2, k2], f2⟩
  rw [eX3_weighFences, eJ9_min_7cf53, if_neg (by show ¬ nI 8 < nI n; rw [nlt (by omega) (by omega)]; omega), cI_some, bX3_weighFences_17, eJ9_max_7cf53]
  have emax : (if (0 : Int32) < nI n then some (some (.inl (nI n)), (L, zB1, I, zup (zup J 225 1 0) 225 2 1)) else some (some (.inl 0), (L, zB1, I, zup (zup J 225 1 0) 225 2 1)) : Option zR) = some (some (.inl (nI n)), (L, zB1, I, zup (zup J 225 1 0) 225 2 1)) := by
    by_cases q : (0 : Int32) < nI n
    · rw [if_pos q]
    · have : n = 0 := by
        rw [show (0 : Int32) = nI 0 from rfl, nlt (by omega) (by omega)] at q
        omega
      rw [if_neg q, this]; rfl
  rw [emax, cI_some, bX3_weighFences_20]
  refine (show _ = _ from e1).trans ?_
  try dsimp only
  rw [bX3_weighFences_25, if_pos (by rw [nle (by omega) (by omega)]; omega)]
  refine (show _ = _ from e2).trans ?_
  try dsimp only
  rw [bX3_weighFences_53, shl8 n hn, if_pos (by rw [nle (by omega) (by omega)]; omega), e3, cV_some, bX3_weighFences_133]
theorem m_fence79 (hv : Iv c) (hn : n ≤ 8) {t s : Nat} (ht : t ≤ 10) (v1 v4 : Int32) (v5 v7 : Int64) (u13 : Option zV) (h : MAt I 289 c) : ∃ I' u13', zgo X (zcall X (d+3)) (some .long) kX9_fence 79 [some (.inr (.inr (some (.inl 9, 283)))), some (.inl (v1)), some (.inl (nI n)), some (.inl (nI t)), some (.inl (v4)), some (.inr (.inl (v5))), none, some (.inr (.inl (v7))), none, some (.inl (nI s)), some (.inr (.inl (1))), none, some (.inl (0)), u13, none] [] (L, zB1, I, J) = zgo X (zcall X (d+3)) (some .long) kX9_fence 79 [some (.inr (.inr (some (.inl 9, 283)))), some (.inl (v1)), some (.inl (nI n)), some (.inl (nI t)), some (.inl (v4)), some (.inr (.inl (v5))), none, some (.inr (.inl (v7))), none, some (.inl (nI s)), some (.inr (.inl (wL (nI t) s n))), none, some (.inl (nI n)), u13', none] [] (L, zB1, I', J) ∧ MAt I' 289 (pasS n (nI s) c) ∧ FrM 289 I I' := by
  obtain ⟨⟨u, I1⟩, e1, h1, f1⟩ := zloopR (fun k (s' : Option zV × (Nat → Nat → Int32)) => zgo X (zcall X (d+3)) (some .long) kX9_fence 79 [some (.inr (.inr (some (.inl 9, 283)))), some (.inl (v1)), some (.inl (nI n)), some (.inl (nI t)), some (.inl (v4)), some (.inr (.inl (v5))), none, some (.inr (.inl (v7))), none, some (.inl (nI s)), some (.inr (.inl (wL (nI t) s k))), none, some (.inl (nI k)), s'.1, none] [] (L, zB1, s'.2, J)) (fun k s' => MAt s'.2 289 (pasS k (nI s) c) ∧ FrM 289 I s'.2) n (fun k s' hk hp => by
    obtain ⟨u, I1⟩ := s'
    obtain ⟨h1, f1⟩ := hp
    try dsimp only at h1 f1 ⊢
    have hI := Iv_pasS (nI s) hv k
    obtain ⟨I2, e2, h2, f2⟩ := m_yearBy (X := X) (d := d) (L := L) (J := J) h1 hI (gB (nI s) k)
    have eg : (!gB (nI s) k) = bt (nI s) k := by
      unfold gB
      rw [decide_eq_false (by omega), Bool.false_or, Bool.not_not]
    rw [eg] at e2
    rw [bX9_fence_79, if_neg (by rw [nle (by omega) (by omega)]; omega), bt_get (nI s) (by omega), wL_s]
    refine ⟨(some (.inl (b2i (bt (nI s) k))), I2), ?_, h2, f1.tr f2⟩
    try dsimp only
    cases hb : bt (nI s) k with
    | true =>
      rw [hb] at e2
      rw [if_pos (show b2i true = 1 from rfl), bX9_fence_101, if_neg (show ¬ (1 : Int32) = 0 by decide), bX9_fence_121, show zcall X (d + 3) 187 [.inr (.inr (some (.inr (.int, 43), 289))), .inl 1] (L, zB1, I1, J) = some (none, (L, zB1, I2, J)) from e2, cV_some, bX9_fence_133, nI_1, if_pos rfl]
      rfl
    | false =>
      rw [hb] at e2
      rw [if_neg (show ¬ b2i false = 1 by decide), bX9_fence_101, if_pos (show (0 : Int32) = 0 from rfl), bX9_fence_121, show zcall X (d + 3) 187 [.inr (.inr (some (.inr (.int, 43), 289))), .inl 0] (L, zB1, I1, J) = some (none, (L, zB1, I2, J)) from e2, cV_some, bX9_fence_133, nI_1, if_neg (by decide), ten_sub t ht]
      rfl) (a := (u13, I)) ⟨h, FrM.rf _ _⟩
  exact ⟨I1, u, e1, h1, f1⟩
theorem m_fence61 (h : MAt I 287 c) (hv : Iv c) (hm : m < men c) (hn : n ≤ 8) {t : Nat} (ht : t ≤ 10) (v4 : Int32) : ∃ (I' : Nat → Nat → Int32) (u13 : Option zV), zgo X (zcall X (d+3)) (some .long) kX9_fence 61 [some (.inr (.inr (some (.inl 9, 283)))), some (.inl (nI m)), some (.inl (nI n)), some (.inl (nI t)), some (.inl (v4)), some (.inr (.inl (0))), none, some (.inr (.inl (0))), none, some (.inl (0)), none, none, none, none, none] [] (L, zB1, I, J) = zgo X (zcall X (d+3)) (some .long) kX9_fence 184 [some (.inr (.inr (some (.inl 9, 283)))), some (.inl (nI m)), some (.inl (nI n)), some (.inl (nI t)), some (.inl (v4)), some (.inr (.inl (abS c m (nI t) n (2 ^ n)))), none, some (.inr (.inl (toK (nI t) n (2 ^ n)))), none, some (.inr (.inl (abS c m (nI t) n (2 ^ n)))), none, some (.inr (.inl (toK (nI t) n (2 ^ n)))), none, u13, none] [] (L, zB1, I', J) ∧ FrM 289 I I' := by
  have hcn := hv.1
  have hpw := pow_le8 n hn
  obtain ⟨⟨u10, u12, u13, I1⟩, e1, f1⟩ := zloopR (fun k (s : Option zV × Option zV × Option zV × (Nat → Nat → Int32)) => zgo X (zcall X (d+3)) (some .long) kX9_fence 61 [some (.inr (.inr (some (.inl 9, 283)))), some (.inl (nI m)), some (.inl (nI n)), some (.inl (nI t)), some (.inl (v4)), some (.inr (.inl (abS c m (nI t) n k))), none, some (.inr (.inl (toK (nI t) n k))), none, some (.inl (nI k)), s.1, none, s.2.1, s.2.2.1, none] [] (L, zB1, s.2.2.2, J)) (fun k s => FrM 289 I s.2.2.2) (2 ^ n) (fun k s hk f1 => by
    obtain ⟨u10, u12, u13, I1⟩ := s
    try dsimp only at f1 ⊢
    have hM1 : MAt I1 287 c := f1.MAt h (by omega)
    obtain ⟨I2, e2, h2, f2⟩ := m_layThen (X := X) (d := d + 2) (L := L) (J := J) hM1 hcn
    obtain ⟨I3, u13', e3, h3, f3⟩ := m_fence79 (X := X) (d := d) (L := L) (J := J) (s := k) hv hn ht (nI m) v4 (abS c m (nI t) n k) (toK (nI t) n k) u13 h2
    have hI := Iv_pasS (nI k) hv n
    have hm2 : m < men (pasS n (nI k) c) := by rw [(pasS_n (nI k) c n).1]; exact hm
    rw [bX9_fence_61, shl8 n hn, if_neg (by rw [nle (by omega) (by omega)]; omega), e2, cV_some, bX9_fence_76, e3, bX9_fence_79, if_pos (by rw [nle (by omega) (by omega)]; omega), m_of3 h3 hI.1 hm2, cI_some, bX9_fence_157, bX9_fence_167, bX9_fence_167, nI_1, abS_s, toK_s]
    refine ⟨(some (.inr (.inl (wL (nI t) k n))), some (.inl (nI n)), u13', I3), ?_, (f1.tr f2).tr f3⟩
    by_cases q : pasS n (nI k) c 5 m = 3
    · rw [if_pos q, if_pos q]
    · rw [if_neg q, if_neg q, Int64.add_zero]) (a := (none, none, none, I)) (FrM.rf _ _)
  try dsimp only at f1
  refine ⟨I1, u13, (show _ = _ from e1).trans ?_, f1⟩
  try dsimp only
  rw [bX9_fence_61, shl8 n hn, if_pos (by rw [nle (by omega) (by omega)]; omega)]
theorem p_fence (a1 a2 a3 a4 : Int32) : PubJ X (d + 20) L 136 225 [.inl a1, .inl a2, .inl a3, .inl a4] := by
  refine pub_ofJ fun I J c hc _ => ?_
  obtain ⟨hC, hM, hv⟩ := hc
  have hcn := hv.1
  have c1 := eX8_fence X (d + 19) L I J a1 a2 a3 a4
  rw [c_isMan hC hcn, cI_some, bX8_fence_8, c_isWithin, cI_some, bX8_fence_18, show wi a2 (Int32.toInt 0) (Int32.toInt 8) = wi a2 0 8 from rfl, c_isWithin, cI_some, bX8_fence_32, show wi a3 (Int32.toInt 0) (Int32.toInt 10) = wi a3 0 10 from rfl, c_isWithin, cI_some, bX8_fence_42, show wi a4 (Int32.toInt 0) (Int32.toInt 1) = wi a4 0 1 from rfl] at c1
  have mh : ∀ (I1 : Nat → Nat → Int32) (J : Nat → Nat → Int64), MAt I1 287 c → _ := fun I1 J hM1 => by
    have m1 := eX9_fence X (d + 19) L I1 J a1 a2 a3 a4
    have hM2 := hM1.th (show 287 ≠ 283 by omega)
    rw [m_isMan hM2 hcn, cI_some, bX9_fence_10, m_inI, cI_some, bX9_fence_22, show wi a2 (Int64.toInt 0) (Int64.toInt 8) = wi a2 0 8 from rfl, m_inI, cI_some, bX9_fence_34, show wi a3 (Int64.toInt 0) (Int64.toInt 10) = wi a3 0 10 from rfl, m_inI, cI_some, bX9_fence_45, show wi a4 (Int64.toInt 0) (Int64.toInt 1) = wi a4 0 1 from rfl] at m1
    exact m1
  cases hz : zin a1 (men c) with
  | false =>
    rw [hz, if0] at c1
    refine ⟨_, I, J, c1, Q.rf I, zup I 283 0 0, ?_, Qth I⟩
    rw [mh I J hM, hz, if0]
  | true =>
    rw [hz, if1] at c1
    cases hw : wi a2 0 8 with
    | false =>
      rw [hw, if0] at c1
      refine ⟨_, I, J, c1, Q.rf I, zup I 283 0 0, ?_, Qth I⟩
      rw [mh I J hM, hz, if1, hw, if0]
    | true =>
      rw [hw, if1] at c1
      cases hy : wi a3 0 10 with
      | false =>
        rw [hy, if0] at c1
        refine ⟨_, I, J, c1, Q.rf I, zup I 283 0 0, ?_, Qth I⟩
        rw [mh I J hM, hz, if1, hw, if1, hy, if0]
      | true =>
        rw [hy, if1] at c1
        cases ht : wi a4 0 1 with
        | false =>
          rw [ht, if0] at c1
          refine ⟨_, I, J, c1, Q.rf I, zup I 283 0 0, ?_, Qth I⟩
          rw [mh I J hM, hz, if1, hw, if1, hy, if1, ht, if0]
        | true =>
          obtain ⟨m, hm, rfl⟩ := zin_of hz
          obtain ⟨n, hn2, rfl, hn31⟩ := wi_nI hw
          obtain ⟨t, ht2, rfl, ht31⟩ := wi_nI hy
          have hn8 : n ≤ 8 := by omega
          have ht10 : t ≤ 10 := by omega
          obtain ⟨I1, J1, g, na, nb, e1, hna, hnb, hna2, hnb1, hnb2, hg, j1, j2, f1⟩ := c_weigh (X := X) (d := d + 13) (L := L) (J := J) hC hv hm hn8 ht10
          have iteJ : ∀ (p : Prop) [Decidable p] (x9 y9 : Int64) (σ : zS), (if p then (some (some (.inr (.inl x9)), σ) : Option zR) else some (some (.inr (.inl y9)), σ)) = some (some (.inr (.inl (if p then x9 else y9))), σ) := fun p _ x9 y9 σ => by split <;> rfl
          rw [ht, if1, e1, cV_some, bX8_fence_63, eX3_above, cJ_some, bX8_fence_75, bX8_fence_85, eX3_below, cJ_some, bX8_fence_85, j1, j2, iteJ] at c1
          have q1 : Q I I1 := (Q.rf I).fr f1 (by omega)
          obtain ⟨I2, u13, e2, f2⟩ := m_fence61 (X := X) (d := d + 16) (L := L) (J := J1) ((q1.MAt hM).th (show 287 ≠ 283 by omega)) hv hm hn8 ht10 a4
          rw [fence_sum hn8 ht10] at e2
          obtain ⟨g', e3, hg'⟩ := m_gcd (X := X) (d := d + 19) (L := L) (I := I2) (J := J1) (nI m) (nI n) (nI t) a4 (abS c m (nI t) n (2 ^ n)) (p10 n) 40 na nb (abS c m (nI t) n (2 ^ n)) (p10 n) u13 hna hnb hnb2 (Nat.gcd_pos_of_pos_right na hnb1)
          have egg : g' = g := by
            apply Int64.toInt_inj.mp
            rw [hg, hg', Nat.gcd_comm]
          rw [egg] at e3
          refine ⟨_, I1, J1, c1, q1, I2, ?_, (Qth I1).frM f2 (by omega)⟩
          rw [mh I1 J1 (q1.MAt hM), hz, if1, hw, if1, hy, if1, ht, if1]
          exact (show _ = _ from e2).trans e3
end FENCE
