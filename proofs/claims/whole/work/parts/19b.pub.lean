/-! public calls: counts, who is closest, shares, what comes -/
theorem zsearchR {α : Type} (G : Nat → α → Option zR) (P : Nat → Bool) (R : Nat → α → Option zR) (V : Nat → α → Prop) : ∀ (k j : Nat) (x9 : α), V j x9 → (∀ i x9, j ≤ i → i < j + k → V i x9 → (P i = true → G i x9 = R i x9) ∧ (P i = false → ∃ y9, G i x9 = G (i + 1) y9 ∧ V (i + 1) y9)) → ∃ y9, (match zfirst P k j with | some i => G j x9 = R i y9 ∧ V i y9 | none => G j x9 = G (j + k) y9 ∧ V (j + k) y9)
  | 0, j, x9, hv, _ => ⟨x9, rfl, hv⟩
  | k + 1, j, x9, hv, h => by
    have hh := h j x9 (by omega) (by omega) hv
    unfold zfirst
    cases hp : P j with
    | true => exact ⟨x9, hh.1 hp, hv⟩
    | false =>
      obtain ⟨y9, e, hv2⟩ := hh.2 hp
      obtain ⟨w9, hw⟩ := zsearchR G P R V k (j + 1) y9 hv2 (fun i x9 h1 h2 => h i x9 (by omega) (by omega))
      refine ⟨w9, ?_⟩
      try dsimp only
      cases hz : zfirst P k (j + 1) with
      | some i => rw [hz] at hw; exact ⟨e.trans hw.1, hw.2⟩
      | none =>
        rw [hz] at hw
        try dsimp only at hw ⊢
        rw [show j + 1 + k = j + (k + 1) by omega] at hw
        exact ⟨e.trans hw.1, hw.2⟩
-- masks
def mask (P : Nat → Bool) (k : Nat) : Int32 := zfold k 0 (fun m a => if P m = true then a ||| (1 <<< (nI m &&& 31)) else a)
theorem bt_mask (P : Nat → Bool) : ∀ k, k ≤ 32 → ∀ j, j < 32 → bt (mask P k) j = (decide (j < k) && P j)
  | 0, _, j, hj => by
    rw [show mask P 0 = 0 from rfl, bt_0, decide_eq_false (by omega), Bool.false_and]
  | k + 1, hk, j, hj => by
    have ih := bt_mask P k (by omega) j hj
    have e : mask P (k + 1) = if P k = true then mask P k ||| (1 <<< (nI k &&& 31)) else mask P k := rfl
    rw [e]
    cases hp : P k with
    | true =>
      rw [if_pos rfl, bt_or, ih, bt_one k (by omega) j hj]
      by_cases e : k = j
      · rw [decide_eq_true e, Bool.or_true, ← e, hp, decide_eq_true (by omega)]; rfl
      · rw [decide_eq_false e, Bool.or_false]
        congr 1
        rw [decide_eq_decide]; omega
    | false =>
      rw [if_neg (by decide), ih]
      by_cases e : j = k
      · rw [e, hp, Bool.and_false, Bool.and_false]
      · congr 1
        rw [decide_eq_decide]; omega
theorem mask_of {x9 : Int32} {k : Nat} (hk : k < 31) (h : ∀ j, k ≤ j → j < 32 → bt x9 j = false) : ∃ n, n < 2 ^ k ∧ x9 = nI n := by
  have e63 : ((nI (2 ^ k - 1)).toBitVec).toNat = 2 ^ k - 1 := by
    have : ∀ k < 31, ((nI (2 ^ k - 1)).toBitVec).toNat = 2 ^ k - 1 := by decide +kernel
    exact this k hk
  have eb : ∀ j, j < 32 → bt (nI (2 ^ k - 1)) j = decide (j < k) := by
    have : ∀ k < 31, ∀ j < 32, bt (nI (2 ^ k - 1)) j = decide (j < k) := by decide +kernel
    exact this k hk
  have e : x9 &&& nI (2 ^ k - 1) = x9 := by
    apply bt_ext
    intro j hj
    rw [bt_and, eb j hj]
    by_cases q : j < k
    · rw [decide_eq_true q, Bool.and_true]
    · rw [h j (by omega) hj, Bool.false_and]
  have hm := Jvm.Kit.i32_mask x9 (nI (2 ^ k - 1)) (k := k) (by omega) e63
  rw [e] at hm
  have hp : (0 : Int) < 2 ^ k := Int.pow_pos (by omega)
  have h1 := Int.emod_nonneg x9.toInt (show (2 : Int) ^ k ≠ 0 by omega)
  have h2 := Int.emod_lt_of_pos x9.toInt hp
  have h3 := x9.toInt_lt
  refine ⟨x9.toInt.toNat, ?_, ?_⟩
  · rw [hm]
    have : ((2 ^ k : Nat) : Int) = 2 ^ k := by push_cast; rfl
    omega
  · apply Int32.toInt_inj.mp
    rw [nI_int (by omega)]
    omega
theorem bt_whoS {c : Cr} (hn : Cn c) (st : Int32) {j : Nat} (hj : j < 32) : bt (whoS c st) j = (decide (j < men c) && decide (c 5 j = st)) := by
  have h6 := hn.2.1
  have e : whoS c st = mask (fun m => decide (c 5 m = st)) (men c) := by
    unfold whoS mask
    apply zfold_congr
    intro m hm a
    by_cases q : c 5 m = st
    · rw [if_pos q, if_pos (decide_eq_true q)]
    · rw [if_neg q, if_neg (show ¬ decide (c 5 m = st) = true by rw [decide_eq_false q]; decide)]
  rw [e]
  exact bt_mask _ (men c) (by omega) j hj
theorem whoS_lt {c : Cr} (hn : Cn c) (st : Int32) : ∃ n, n < 64 ∧ whoS c st = nI n := by
  have h6 := hn.2.1
  exact mask_of (k := 6) (by omega) (fun j h1 h2 => by rw [bt_whoS hn st h2, decide_eq_false (by omega), Bool.false_and])
-- years one by one
theorem gB0 (k : Nat) : gB 0 k = true := by unfold gB; rw [bt_0]; cases decide (8 ≤ k) <;> rfl
theorem pas_s (c : Cr) (k : Nat) : pasS (k + 1) 0 c = yrS true (pasS k 0 c) := by
  show yrS (gB 0 k) (pasS k 0 c) = _
  rw [gB0]
theorem pas_1 (c : Cr) : pasS 1 0 c = yrS true c := pas_s c 0
/-- the first year in which the man is so -/
def whS (c : Cr) (m : Nat) (st : Int32) : Int32 := match zfirst (fun k => decide (pasS k 0 c 5 m = st)) 61 0 with
  | some k => nI k
  | none => -1000000
section PUBB
variable {X : Nat → Nat → Int32} {d : Nat} {L : List zK} {I : Nat → Nat → Int32} {J : Nat → Nat → Int64} {c : Cr}
theorem j_bitCount {n : Nat} (hn : n < 64) : zcall X (d + 1) 0 [.inl (nI n)] (L, zB1, I, J) = some (some (.inl (bcS (nI n))), (L, zB1, I, J)) := by
  rw [eJ6_bitCount_0f7a4]
  refine congrArg (fun w : Int32 => (some (some (.inl w), (L, zB1, I, J)) : Option zR)) ?_
  revert hn
  revert n
  decide +kernel
theorem c_look (h : CAt I 13 c) (hn : Cn c) {n : Nat} (hN : n < 2 ^ 31) : ∃ I', zcall X (d + 5) 43 [.inr (.inr (some (.inl 3, 225))), .inr (.inr (some (.inl 1, 13))), .inl (nI n)] (L, zB1, I, J) = some (some (.inr (.inr (some (.inl 1, 226)))), (L, zB1, I', J)) ∧ CAt I' 226 (pasS n 0 c) ∧ Fr 226 I I' := by
  obtain ⟨I1, e1, h1, f1⟩ := c_takeFrom (X := X) (d := d + 3) (L := L) (J := J) (b := 226) h hn (by omega)
  obtain ⟨I2, e2, h2, f2⟩ := c_passYears (X := X) (d := d) (L := L) (J := J) h1 hn hN 0
  rw [eX3_look, e1, cV_some, bX3_look_8, e2, cV_some, bX3_look_17]
  exact ⟨I2, rfl, h2, f1.tr f2⟩
theorem m_look (h : MAt I 287 c) (hv : Iv c) {n : Nat} (hN : n < 2 ^ 31) : ∃ I1 I2, zcall X (d + 4) 191 [.inr (.inr (some (.inl 9, 283)))] (L, zB1, I, J) = some (none, (L, zB1, I1, J)) ∧ zcall X (d + 4) 188 [.inr (.inr (some (.inr (.int, 43), 289))), .inl (nI n)] (L, zB1, I1, J) = some (none, (L, zB1, I2, J)) ∧ MAt I2 289 (pasS n 0 c) ∧ FrM 289 I I2 := by
  obtain ⟨I1, e1, h1, f1⟩ := m_layThen (X := X) (d := d + 3) (L := L) (J := J) h hv.1
  obtain ⟨I2, e2, h2, f2⟩ := m_yearsOf (X := X) (d := d) (L := L) (J := J) h1 hv hN
  exact ⟨I1, I2, e1, e2, h2, f1.tr f2⟩
def vAhead (c : Cr) (a1 a2 a3 : Int32) : Int32 := match zin a1 (men c) && (wi a2 0 60 && wi a3 0 2) with
  | false => -1000001
  | true => if a3 = 0 then pasS a2.toNatClampNeg 0 c 7 a1.toNatClampNeg else if a3 = 1 then pasS a2.toNatClampNeg 0 c 5 a1.toNatClampNeg else pasS a2.toNatClampNeg 0 c 6 a1.toNatClampNeg
theorem p_ahead (a1 a2 a3 : Int32) : Pub X (d + 20) L 124 204 [.inl a1, .inl a2, .inl a3] := by
  refine pub_of fun I J c hc _ => ?_
  obtain ⟨hC, hM, hv⟩ := hc
  have hn := hv.1
  have h6 := hn.2.1
  have hM1 := hM.th (show 287 ≠ 283 by omega)
  suffices hs : ∃ I1, zcall X (d + 20) 124 (.inr (.inr (some (.inl 8, 0))) :: [.inl a1, .inl a2, .inl a3]) (L, zB1, I, J) = some (some (.inl (vAhead c a1 a2 a3)), (L, zB1, I1, J)) ∧ Q I I1 from by
    obtain ⟨I1, e1, q1⟩ := hs
    refine ⟨_, I1, J, e1, q1, ?_⟩
    have hM1 := (q1.MAt hM).th (show 287 ≠ 283 by omega)
    rw [eX9_ahead, m_isMan hM1 hn, cI_some, bX9_ahead_10, m_inI, cI_some, bX9_ahead_22, m_inI, cI_some, bX9_ahead_34]
    unfold vAhead
    cases hz : zin a1 (men c) with
    | false => exact ⟨_, if0 _ _, Qth I1⟩
    | true =>
      rw [if1]
      cases hw : wi a2 0 60 with
      | false => exact ⟨_, by rw [show wi a2 (Int64.toInt 0) (Int64.toInt 60) = wi a2 0 60 from rfl, hw]; exact if0 _ _, Qth I1⟩
      | true =>
        rw [show wi a2 (Int64.toInt 0) (Int64.toInt 60) = wi a2 0 60 from rfl, hw, if1]
        cases hw3 : wi a3 0 2 with
        | false => exact ⟨_, by rw [show wi a3 (Int64.toInt 0) (Int64.toInt 2) = wi a3 0 2 from rfl, hw3]; exact if0 _ _, Qth I1⟩
        | true =>
          rw [show wi a3 (Int64.toInt 0) (Int64.toInt 2) = wi a3 0 2 from rfl, hw3, if1]
          obtain ⟨m, hm, rfl⟩ := zin_of hz
          obtain ⟨k, hk, rfl, hk2⟩ := wi_nI hw
          obtain ⟨I2, I3, e2, e3, h3, f3⟩ := m_look (X := X) (d := d + 15) (L := L) (J := J) hM1 hv hk2
          have hn3 := (Iv_pasS 0 hv k).1
          have hm3 : m < men (pasS k 0 c) := by rw [(pasS_n 0 c k).1]; exact hm
          rw [e2, cV_some, bX9_ahead_44, e3, cV_some, bX9_ahead_52, m_of4 h3 hn3 hm3, m_of3 h3 hn3 hm3, m_of2 h3 hn3 hm3, cI_some, cI_some, cI_some, bX9_ahead_78, bX9_ahead_78, bX9_ahead_78, ncl hk2, ncl (by omega)]
          simp only [iteT]
          exact ⟨_, rfl, (Qth I1).frM f3 (by omega)⟩
  rw [eX8_ahead, c_isMan hC hn, cI_some, bX8_ahead_8, c_isWithin, cI_some, bX8_ahead_18, c_isWithin, cI_some, bX8_ahead_27]
  unfold vAhead
  cases hz : zin a1 (men c) with
  | false => exact ⟨_, if0 _ _, Q.rf I⟩
  | true =>
    rw [if1]
    cases hw : wi a2 0 60 with
    | false => exact ⟨_, by rw [show wi a2 (Int32.toInt 0) (Int32.toInt 60) = wi a2 0 60 from rfl, hw]; exact if0 _ _, Q.rf I⟩
    | true =>
      rw [show wi a2 (Int32.toInt 0) (Int32.toInt 60) = wi a2 0 60 from rfl, hw, if1]
      cases hw3 : wi a3 0 2 with
      | false => exact ⟨_, by rw [show wi a3 (Int32.toInt 0) (Int32.toInt 2) = wi a3 0 2 from rfl, hw3]; exact if0 _ _, Q.rf I⟩
      | true =>
        rw [show wi a3 (Int32.toInt 0) (Int32.toInt 2) = wi a3 0 2 from rfl, hw3, if1]
        obtain ⟨m, hm, rfl⟩ := zin_of hz
        obtain ⟨k, hk, rfl, hk2⟩ := wi_nI hw
        obtain ⟨I2, e2, h2, f2⟩ := c_look (X := X) (d := d + 14) (L := L) (J := J) hC hn hk2
        have hm3 : m < men (pasS k 0 c) := by rw [(pasS_n 0 c k).1]; exact hm
        rw [e2, cQ_some, bX8_ahead_45, zin_nI (show m < 6 by omega) (by omega), ncl hk2, ncl (show m < 2 ^ 31 by omega), h2.m hm3 7 (by omega) (by omega), h2.m hm3 6 (by omega) (by omega), h2.m hm3 5 (by omega) (by omega)]
        simp only [zbt_t, iteT]
        exact ⟨_, rfl, (Q.rf I).fr f2 (by omega)⟩
theorem p_by (a1 a2 : Int32) : Pub X (d + 20) L 125 205 [.inl a1, .inl a2] := by
  refine pub_of fun I J c hc _ => ?_
  obtain ⟨hC, hM, hv⟩ := hc
  have hn := hv.1
  suffices hs : ∃ I1, zcall X (d + 20) 125 (.inr (.inr (some (.inl 8, 0))) :: [.inl a1, .inl a2]) (L, zB1, I, J) = some (some (.inl ((match zin a1 (jud c) && wi a2 0 60 with | false => -1000001 | true => nbS (pasS a2.toNatClampNeg 0 c) a1))), (L, zB1, I1, J)) ∧ Q I I1 from by
    obtain ⟨I1, e1, q1⟩ := hs
    refine ⟨_, I1, J, e1, q1, ?_⟩
    have hM1 := (q1.MAt hM).th (show 287 ≠ 283 by omega)
    rw [eX9_by, m_isJudge hM1 hn, cI_some, bX9_by_10, m_inI, cI_some, bX9_by_22]
    cases hz : zin a1 (jud c) with
    | false => exact ⟨_, if0 _ _, Qth I1⟩
    | true =>
      rw [if1, show wi a2 (Int64.toInt 0) (Int64.toInt 60) = wi a2 0 60 from rfl]
      cases hw : wi a2 0 60 with
      | false => exact ⟨_, if0 _ _, Qth I1⟩
      | true =>
        rw [if1]
        obtain ⟨k, hk, rfl, hk2⟩ := wi_nI hw
        obtain ⟨I2, I3, e2, e3, h3, f3⟩ := m_look (X := X) (d := d + 15) (L := L) (J := J) hM1 hv hk2
        have hn3 := (Iv_pasS 0 hv k).1
        rw [e2, cV_some, bX9_by_32, e3, cV_some, bX9_by_40, m_whoIsBy h3 hn3, cI_some, bX9_by_48, ncl hk2]
        exact ⟨_, rfl, (Qth I1).frM f3 (by omega)⟩
  rw [eX8_by, c_isJudge hC hn, cI_some, bX8_by_8, c_isWithin, cI_some, bX8_by_18]
  cases hz : zin a1 (jud c) with
  | false => exact ⟨_, if0 _ _, Q.rf I⟩
  | true =>
    rw [if1, show wi a2 (Int32.toInt 0) (Int32.toInt 60) = wi a2 0 60 from rfl]
    cases hw : wi a2 0 60 with
    | false => exact ⟨_, if0 _ _, Q.rf I⟩
    | true =>
      rw [if1]
      obtain ⟨k, hk, rfl, hk2⟩ := wi_nI hw
      obtain ⟨I2, e2, h2, f2⟩ := c_look (X := X) (d := d + 14) (L := L) (J := J) hC hn hk2
      rw [e2, cQ_some, bX8_by_36, c_neighbourOf h2 ((pasS_n 0 c k).2.2 hn), cI_some, bX8_by_40, ncl hk2]
      exact ⟨_, rfl, (Q.rf I).fr f2 (by omega)⟩
end PUBB
