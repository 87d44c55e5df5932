/-! public calls: what is asked of the circuit as it stands -/
theorem iteT {p : Prop} [Decidable p] (x9 y9 : Int32) (σ : zS) : (if p then (some (some (.inl x9), σ) : Option zR) else some (some (.inl y9), σ)) = some (some (.inl (if p then x9 else y9)), σ) := by split <;> rfl
/-- a call on both sides: the same answer, and the relation stays -/
def Pub (X : Nat → Nat → Int32) (D : Nat) (L : List zK) (y y' : Nat) (args : List zV) : Prop := ∀ I J, Rel I → ∃ (v : Int32) (I1 : Nat → Nat → Int32) (J1 : Nat → Nat → Int64) (I2 : Nat → Nat → Int32), zcall X D y (.inr (.inr (some (.inl 8, 0))) :: args) (L, zB1, I, J) = some (some (.inl v), (L, zB1, I1, J1)) ∧ zcall X D y' (.inr (.inr (some (.inl 9, 283))) :: args) (L, zB1, I1, J1) = some (some (.inl v), (L, zB1, I2, J1)) ∧ Rel I2
def PubJ (X : Nat → Nat → Int32) (D : Nat) (L : List zK) (y y' : Nat) (args : List zV) : Prop := ∀ I J, Rel I → ∃ (v : Int64) (I1 : Nat → Nat → Int32) (J1 : Nat → Nat → Int64) (I2 : Nat → Nat → Int32), zcall X D y (.inr (.inr (some (.inl 8, 0))) :: args) (L, zB1, I, J) = some (some (.inr (.inl v)), (L, zB1, I1, J1)) ∧ zcall X D y' (.inr (.inr (some (.inl 9, 283))) :: args) (L, zB1, I1, J1) = some (some (.inr (.inl v)), (L, zB1, I2, J1)) ∧ Rel I2
theorem n2 {I : Nat → Nat → Int32} {c : Cr} (h : CAt I 13 c) : (∀ j, j < jud c → I 14 j = c 1 j) ∧ (∀ j, j < jud c → I 15 j = c 2 j) ∧ (∀ m, m < men c → I 16 m = c 3 m) ∧ (∀ m, m < men c → I 17 m = c 4 m) ∧ (∀ m, m < men c → I 18 m = c 5 m) ∧ (∀ m, m < men c → I 19 m = c 6 m) ∧ (∀ m, m < men c → I 20 m = c 7 m) :=
  ⟨fun j hj => h.j hj 1 (by omega) (by omega), fun j hj => h.j hj 2 (by omega) (by omega), fun m hm => h.m hm 3 (by omega) (by omega), fun m hm => h.m hm 4 (by omega) (by omega), fun m hm => h.m hm 5 (by omega) (by omega), fun m hm => h.m hm 6 (by omega) (by omega), fun m hm => h.m hm 7 (by omega) (by omega)⟩
theorem MAt.th {I : Nat → Nat → Int32} {r : Nat} {c : Cr} (h : MAt I r c) (hr : r ≠ 283) : MAt (zup I 283 0 0) r c := by
  intro f i hv
  rw [zup_ne hr]
  exact h f i hv
section PUBA
variable {X : Nat → Nat → Int32} {d : Nat} {L : List zK} {I : Nat → Nat → Int32} {J : Nat → Nat → Int64} {c : Cr}
/-- both sides answer v, and change nothing that counts -/
theorem pub_of {y y' : Nat} {args : List zV} (h : ∀ I J c, RCir I c → Rel I → ∃ (v : Int32) (I1 : Nat → Nat → Int32) (J1 : Nat → Nat → Int64), zcall X d y (.inr (.inr (some (.inl 8, 0))) :: args) (L, zB1, I, J) = some (some (.inl v), (L, zB1, I1, J1)) ∧ Q I I1 ∧ ∃ I2, zcall X d y' (.inr (.inr (some (.inl 9, 283))) :: args) (L, zB1, I1, J1) = some (some (.inl v), (L, zB1, I2, J1)) ∧ Q I1 I2) : Pub X d L y y' args := by
  intro I J hr
  obtain ⟨c, hc⟩ := hr.2.1
  obtain ⟨v, I1, J1, e1, q1, I2, e2, q2⟩ := h I J c hc hr
  exact ⟨v, I1, J1, I2, e1, e2, (q1.tr q2).Rel hr⟩
theorem pub_ofJ {y y' : Nat} {args : List zV} (h : ∀ I J c, RCir I c → Rel I → ∃ (v : Int64) (I1 : Nat → Nat → Int32) (J1 : Nat → Nat → Int64), zcall X d y (.inr (.inr (some (.inl 8, 0))) :: args) (L, zB1, I, J) = some (some (.inr (.inl v)), (L, zB1, I1, J1)) ∧ Q I I1 ∧ ∃ I2, zcall X d y' (.inr (.inr (some (.inl 9, 283))) :: args) (L, zB1, I1, J1) = some (some (.inr (.inl v)), (L, zB1, I2, J1)) ∧ Q I1 I2) : PubJ X d L y y' args := by
  intro I J hr
  obtain ⟨c, hc⟩ := hr.2.1
  obtain ⟨v, I1, J1, e1, q1, I2, e2, q2⟩ := h I J c hc hr
  exact ⟨v, I1, J1, I2, e1, e2, (q1.tr q2).Rel hr⟩
def vMan (c : Cr) (a1 a2 : Int32) : Int32 := match zin a1 (men c) with
  | false => -1000001
  | true => if a2 = 0 then c 4 a1.toNatClampNeg else if a2 = 1 then c 5 a1.toNatClampNeg else if a2 = 2 then c 6 a1.toNatClampNeg else if a2 = 3 then c 7 a1.toNatClampNeg else if a2 = 4 then grS c a1.toNatClampNeg else -1000001
theorem p_man (a1 a2 : Int32) : Pub X (d + 20) L 121 201 [.inl a1, .inl a2] := by
  refine pub_of fun I J c hc _ => ⟨(vMan c a1 a2), I, J, ?_, Q.rf I, zup I 283 0 0, ?_, Qth I⟩
  · obtain ⟨hC, hM, hv⟩ := hc
    have hn := hv.1
    have h6 := hn.2.1
    obtain ⟨_, _, k3, k4, k5, k6, k7⟩ := n2 hC
    rw [eX8_man, c_isMan hC hn, cI_some, bX8_man_8]
    unfold vMan
    cases hz : zin a1 (men c) with
    | false => exact if0 _ _
    | true =>
      obtain ⟨m, hm, rfl⟩ := zin_of hz
      rw [if1, zin_nI (show m < 6 by omega) (by omega), ncl (by omega), k4 m hm, k5 m hm, k6 m hm, k7 m hm, c_growthOf hC hn hm, cI_some, bX8_man_96]
      simp only [zbt_t, iteT]
  · obtain ⟨hC, hM, hv⟩ := hc
    have hn := hv.1
    have h6 := hn.2.1
    have hM := hM.th (by omega)
    rw [eX9_man, m_isMan hM hn, cI_some, bX9_man_10]
    unfold vMan
    cases hz : zin a1 (men c) with
    | false => exact if0 _ _
    | true =>
      obtain ⟨m, hm, rfl⟩ := zin_of hz
      rw [if1, m_of1 hM hn hm, m_of2 hM hn hm, m_of3 hM hn hm, m_of4 hM hn hm, m_gainOf hM hv hm, cI_some, cI_some, cI_some, cI_some, cI_some, bX9_man_61, bX9_man_71, bX9_man_81, bX9_man_91, bX9_man_100, ncl (by omega)]
      simp only [iteT]
def vJudge (c : Cr) (a1 a2 : Int32) : Int32 := match zin a1 (jud c) with
  | false => -1000001
  | true => if a2 = 0 then c 1 a1.toNatClampNeg else if a2 = 1 then c 2 a1.toNatClampNeg else if a2 = 2 then nbS c a1 else if a2 = 3 then wfS c a1 else -1000001
theorem p_judge (a1 a2 : Int32) : Pub X (d + 20) L 122 202 [.inl a1, .inl a2] := by
  refine pub_of fun I J c hc _ => ⟨(vJudge c a1 a2), I, J, ?_, Q.rf I, zup I 283 0 0, ?_, Qth I⟩
  · obtain ⟨hC, hM, hv⟩ := hc
    have hn := hv.1
    have h4 := hn.2.2.2
    obtain ⟨k1, k2, _⟩ := n2 hC
    rw [eX8_judge, c_isJudge hC hn, cI_some, bX8_judge_8]
    unfold vJudge
    cases hz : zin a1 (jud c) with
    | false => exact if0 _ _
    | true =>
      obtain ⟨m, hm, rfl⟩ := zin_of hz
      rw [if1, zin_nI (show m < 4 by omega) (by omega), ncl (by omega), k1 m hm, k2 m hm, c_neighbourOf hC hn, c_waitersFor hC hn, cI_some, cI_some, bX8_judge_72, bX8_judge_81]
      simp only [zbt_t, iteT]
  · obtain ⟨hC, hM, hv⟩ := hc
    have hn := hv.1
    have h6 := hn.2.1
    have h4 := hn.2.2.2
    have hM := hM.th (by omega)
    have e0 : zup I 283 0 0 287 (0 : Int32).toNatClampNeg = nI (men c) := hM.men hn
    rw [eX9_judge, m_isJudge hM hn, cI_some, bX9_judge_10]
    unfold vJudge
    cases hz : zin a1 (jud c) with
    | false => exact if0 _ _
    | true =>
      obtain ⟨m, hm, rfl⟩ := zin_of hz
      rw [if1]
      have := zloop (fun j a => zgo X (zcall X (d+19)) (some .int) kX9_judge 21 [some (.inr (.inr (some (.inl 9, 283)))), some (.inl (nI m)), some (.inl (a2)), some (.inl (a)), some (.inl (nI j))] [] (L, zB1, (zup I 283 0 0), J)) (fun q a => if c 4 q = nI m then (if c 5 q = 0 then a ||| (1 <<< (nI q &&& 31)) else a) else a) 0 (men c) (fun j hj => by
        try dsimp only
        rw [bX9_judge_21, show zin 0 43 = true from rfl, zbt_t, e0, if_neg (by rw [nle (by omega) (by omega)]; omega), m_of1 hM hn hj, cI_some, bX9_judge_43, m_of3 hM hn hj, cI_some, bX9_judge_57, bX9_judge_67, bX9_judge_68, bX9_judge_68, Int32.or_zero, nI_1]
        by_cases h1 : c 4 j = nI m
        · rw [if_pos h1, if_pos h1]
          split <;> rfl
        · rw [if_neg h1, if_neg h1])
      refine (show _ = _ from this).trans ?_
      try dsimp only
      rw [bX9_judge_21, show zin 0 43 = true from rfl, zbt_t, e0, if_pos (by rw [nle (by omega) (by omega)]; omega), m_severeOf hM hn hm, m_isOpen hM hn hm, m_whoIsBy hM hn, cI_some, cI_some, cI_some, bX9_judge_116, bX9_judge_125, bX9_judge_142, ncl (by omega)]
      have eo : (if b2i (decide (c 2 m = 1)) = 0 then (0 : Int32) else 1) = c 2 m := by
        rcases rg01 (hv.2.2.1 m hm).2 with e | e <;> rw [e] <;> decide
      simp only [iteT, eo]
      rfl
def vStand (c : Cr) (a1 : Int32) : Int32 := match decide (0 < men c) with
  | false => -1000002
  | true => if a1 = 0 then whoS c 0 else if a1 = 1 then whoS c 1 else if a1 = 2 then whoS c 2 else if a1 = 3 then whoS c 3 else if a1 = 4 then c 0 2 else if a1 = 5 then c 0 3 else -1000001
theorem i64_4 : (4 : Int32).toInt = 4 := rfl
theorem p_stand (a1 : Int32) : Pub X (d + 20) L 123 203 [.inl a1] := by
  refine pub_of fun I J c hc _ => ⟨(vStand c a1), I, J, ?_, Q.rf I, zup I 283 0 0, ?_, Qth I⟩
  · obtain ⟨hC, hM, hv⟩ := hc
    have hn := hv.1
    rw [eX8_stand, c_hasCircuit hC hn, cI_some, bX8_stand_4]
    unfold vStand
    cases decide (0 < men c) with
    | false => exact if0 _ _
    | true =>
      rw [if1, c_whoAre hC hn, c_whoAre hC hn, c_whoAre hC hn, c_whoAre hC hn, cI_some, cI_some, cI_some, cI_some, bX8_stand_56, bX8_stand_65, bX8_stand_74, bX8_stand_83, hC.nn (by omega), hC.nn (by omega)]
      simp only [iteT]
  · obtain ⟨hC, hM, hv⟩ := hc
    have hn := hv.1
    have hM := hM.th (by omega)
    have e2 : zup I 283 0 0 287 (2 : Int32).toNatClampNeg = c 0 2 := hM 0 2 (v0 (by omega))
    have e3 : zup I 283 0 0 287 (3 : Int32).toNatClampNeg = c 0 3 := hM 0 3 (v0 (by omega))
    rw [eX9_stand, m_isThere hM hn, cI_some, bX9_stand_9]
    unfold vStand
    cases decide (0 < men c) with
    | false => exact if0 _ _
    | true =>
      rw [if1, m_inI, cI_some, bX9_stand_24, show zin 2 43 = true from rfl, show zin 3 43 = true from rfl, e2, e3, m_those hM hn, cI_some, bX9_stand_43]
      cases hw : wi a1 (Int64.toInt 0) (Int64.toInt 5) with
      | false =>
        rw [if0]
        have hno : ∀ k : Nat, k < 6 → ¬ a1 = nI k := by
          intro k hk e
          have : wi (nI k) 0 5 = true := by rw [wi_iff, nI_int (by omega)]; omega
          rw [e] at hw
          rw [show wi (nI k) (Int64.toInt 0) (Int64.toInt 5) = wi (nI k) 0 5 from rfl, this] at hw
          cases hw
        try dsimp only
        rw [if_neg (show ¬ a1 = 0 from hno 0 (by omega)), if_neg (show ¬ a1 = 1 from hno 1 (by omega)), if_neg (show ¬ a1 = 2 from hno 2 (by omega)), if_neg (show ¬ a1 = 3 from hno 3 (by omega)), if_neg (show ¬ a1 = 4 from hno 4 (by omega)), if_neg (show ¬ a1 = 5 from hno 5 (by omega))]
      | true =>
        rw [if1]
        obtain ⟨k, hk, rfl, _⟩ := wi_nI (show wi a1 0 5 = true from hw)
        have hk : k < 6 := by omega
        have : k = 0 ∨ k = 1 ∨ k = 2 ∨ k = 3 ∨ k = 4 ∨ k = 5 := by omega
        rcases this with rfl | rfl | rfl | rfl | rfl | rfl <;> rfl
theorem p_kind (a1 : Int32) : Pub X (d + 20) L 140 230 [.inl a1] := by
  refine pub_of fun I J c hc _ => ⟨(match zin a1 (men c) with | false => -1000001 | true => c 3 a1.toNatClampNeg), I, J, ?_, Q.rf I, zup I 283 0 0, ?_, Qth I⟩
  · obtain ⟨hC, hM, hv⟩ := hc
    have hn := hv.1
    have h6 := hn.2.1
    obtain ⟨_, _, k3, k4, k5, k6, k7⟩ := n2 hC
    rw [eX8_kind, c_isMan hC hn, cI_some, bX8_kind_8]
    cases hz : zin a1 (men c) with
    | false => exact if0 _ _
    | true =>
      obtain ⟨m, hm, rfl⟩ := zin_of hz
      rw [if1, zin_nI (show m < 6 by omega) (by omega), zbt_t, ncl (by omega), k3 m hm]
  · obtain ⟨hC, hM, hv⟩ := hc
    have hn := hv.1
    have h6 := hn.2.1
    have hM := hM.th (by omega)
    rw [eX9_kind, m_isMan hM hn, cI_some, bX9_kind_10]
    cases hz : zin a1 (men c) with
    | false => exact if0 _ _
    | true =>
      obtain ⟨m, hm, rfl⟩ := zin_of hz
      rw [if1, m_of0 hM hn hm, cI_some, bX9_kind_22, ncl (by omega)]
theorem p_status : Pub X (d + 20) L 145 240 [] := by
  refine pub_of fun I J c _ hr => ⟨(I 0 9), I, J, ?_, Q.rf I, zup I 283 0 0, ?_, Qth I⟩
  · rw [eX8_status]
  · rw [eX9_status, zup_at, if_neg (by omega), ← hr.2.2.2.2.2.2]
theorem p_fault : Pub X (d + 20) L 113 169 [] := by
  refine pub_of fun I J c _ hr => ⟨(I 21 9), I, J, ?_, Q.rf I, zup I 283 0 0, ?_, Qth I⟩
  · rw [eX8_fault, eX7_faultNumber, cI_some, bX8_fault_7]
  · obtain ⟨n, _, _, _, _, h5⟩ := hr.2.2.1
    rw [eX9_fault, zup_at, if_neg (by omega), ← h5]
theorem p_trace (a1 : Int32) : Pub X (d + 20) L 143 238 [.inl a1] := by
  refine pub_of fun I J c _ hr => ?_
  obtain ⟨n, h1, h2, h3, h4⟩ := hr.2.2.2.2.2.1
  refine ⟨(match zin a1 n with | false => -1000000 | true => I 265 a1.toNatClampNeg), I, J, ?_, Q.rf I, zup I 283 0 0, ?_, Qth I⟩
  · rw [eX8_trace, eX0_traced, h2]
    cases hz : zin a1 n with
    | false =>
      by_cases q1 : a1 < 0
      · rw [if_pos q1, cI_some, bX8_trace_8]
      · rw [if_neg q1]
        by_cases q2 : nI n ≤ a1
        · rw [if_pos q2, cI_some, bX8_trace_8]
        · exfalso
          have : zin a1 n = true := by
            rw [zin_iff]
            rw [i32_lt, i0] at q1
            rw [i32_le, nI_int (by omega)] at q2
            omega
          rw [this] at hz
          cases hz
    | true =>
      obtain ⟨m, hm, rfl⟩ := zin_of hz
      rw [if_neg (nlt0 (by omega)), if_neg (by rw [nle (by omega) (by omega)]; omega), if_neg (by show ¬ nI 16 ≤ nI m; rw [nle (by omega) (by omega)]; omega), zin_nI (show m < 16 by omega) (by omega), zbt_t, cI_some, bX8_trace_8]
  · have e1 : zup I 283 0 0 283 25 = nI n := by rw [zup_at, if_neg (by omega)]; exact h3
    have ew : wi a1 (Int64.toInt 0) ((nI n - 1).toInt64).toInt = zin a1 n := by
      rw [Jvm.Kit.i64_of_i32, Jvm.Kit.i32_sub (by rw [nI_int (by omega), i1]; omega) (by rw [nI_int (by omega), i1]; omega), nI_int (by omega), i1]
      unfold wi zin
      congr 1
      rw [decide_eq_decide]
      omega
    rw [eX9_trace, e1, m_inI, cI_some, bX9_trace_18, ew]
    cases hz : zin a1 n with
    | false => exact if0 _ _
    | true =>
      obtain ⟨m, hm, rfl⟩ := zin_of hz
      rw [if1, zin_nI (show m < 16 by omega) (by omega), zbt_t, ncl (by omega), zup_ne (by omega), ← h4 m hm]
end PUBA
