/-! decades by draws -/
def nx (x9 : Int64) : Int64 := (x9 * 16807) - (x9 * 16807) / 2147483647 * 2147483647
def xm (x9 : Int64) (k : Int32) : Int32 := (x9 - x9 / k.toInt64 * k.toInt64).toInt32
theorem nx_rg {x9 : Int64} (h1 : 0 ≤ x9.toInt) (h2 : x9.toInt < 2147483648) : 0 ≤ (nx x9).toInt ∧ (nx x9).toInt < 2147483648 := by
  unfold nx
  have e1 : (x9 * 16807).toInt = x9.toInt * 16807 := by
    have : (16807 : Int64).toInt = 16807 := rfl
    rw [Jvm.Kit.i64_mul (by rw [this]; omega) (by rw [this]; omega), this]
  have e2 : (2147483647 : Int64).toInt = 2147483647 := rfl
  rw [Jvm.Kit.i64_rem_nonneg (by rw [e1]; omega), e1, e2]
  omega
theorem xm_nI {x9 : Int64} (h1 : 0 ≤ x9.toInt) {k : Nat} (hk : 0 < k) (hk2 : k < 2 ^ 31) : ∃ r, r < k ∧ xm x9 (nI k) = nI r := by
  have e1 : (nI k).toInt64.toInt = (k : Int) := by rw [Jvm.Kit.i64_of_i32, nI_int hk2]
  have e2 : (x9 - x9 / (nI k).toInt64 * (nI k).toInt64).toInt = x9.toInt % (k : Int) := by
    rw [Jvm.Kit.i64_rem_nonneg h1, e1]
  have h3 := Int.emod_nonneg x9.toInt (show (k : Int) ≠ 0 by omega)
  have h4 := Int.emod_lt_of_pos x9.toInt (show (0 : Int) < k by omega)
  refine ⟨(x9.toInt % (k : Int)).toNat, by omega, ?_⟩
  apply Int32.toInt_inj.mp
  unfold xm
  rw [Jvm.Kit.i32_of_i64 (by rw [e2]; omega) (by rw [e2]; omega), e2, nI_int (by omega)]
  omega
theorem i64_nz {k : Nat} (hk : 0 < k) (hk2 : k < 2 ^ 31) : ¬ (nI k).toInt64 = 0 := by
  intro e
  have : (nI k).toInt64.toInt = (0 : Int64).toInt := by rw [e]
  rw [Jvm.Kit.i64_of_i32, nI_int hk2, show (0 : Int64).toInt = 0 from rfl] at this
  omega
theorem x9_rg {x9 : Int64} (h1 : 0 ≤ x9.toInt) : rg ((x9 - x9 / 9 * 9).toInt32 + 1) 1 30 := by
  have e9 : (9 : Int64).toInt = 9 := rfl
  have e2 : (x9 - x9 / 9 * 9).toInt = x9.toInt % 9 := by
    rw [Jvm.Kit.i64_rem_nonneg h1, e9]
  have e3 : (x9 - x9 / 9 * 9).toInt32.toInt = x9.toInt % 9 := by
    rw [Jvm.Kit.i32_of_i64 (by rw [e2]; omega) (by rw [e2]; omega), e2]
  have e4 : ((x9 - x9 / 9 * 9).toInt32 + 1).toInt = x9.toInt % 9 + 1 := by
    rw [Jvm.Kit.i32_add (by rw [e3, i1]; omega) (by rw [e3, i1]; omega), e3, i1]
  exact ⟨by rw [e4]; omega, by rw [e4]; omega⟩
def drG (x9 : Int64) (c : Cr) : Cr := if lg_cmp (x9 - x9 / 3 * 3) 0 = 0 then cup c 2 (xm x9 (nI (jud c))).toNatClampNeg (1 - c 2 (xm x9 (nI (jud c))).toNatClampNeg) else c
def drT (x9 : Int64) (m j : Int32) (c : Cr) : Cr := if lg_cmp (x9 - x9 / 4 * 4) 0 = 0 ∧ c 5 m.toNatClampNeg = 2 then agS c m.toNatClampNeg j ((x9 - x9 / 9 * 9).toInt32 + 1) else c
def drS (x9 : Int64) (c : Cr) : Cr := drT x9 (xm x9 (nI (men c))) (xm x9 (nI (jud c))) (drG x9 c)
def drK (x9 : Int64) (c : Cr) : Nat → Int64 × Cr
  | 0 => (x9, c)
  | k + 1 => (nx (drK x9 c k).1, yrS true (drS (nx (drK x9 c k).1) (drK x9 c k).2))
theorem Iv_jud {c : Cr} (hv : Iv c) (hm : 0 < men c) : 0 < jud c := by
  have h := (hv.2.2.2 0 hm).2.1
  obtain ⟨j, hj, _⟩ := zin_of h
  omega
theorem drG_n (x9 : Int64) (c : Cr) : men (drG x9 c) = men c ∧ jud (drG x9 c) = jud c ∧ (Iv c → 0 ≤ x9.toInt → 0 < jud c → Iv (drG x9 c)) := by
  unfold drG
  by_cases q : lg_cmp (x9 - x9 / 3 * 3) 0 = 0
  · rw [if_pos q]
    refine ⟨men_cup (by omega), jud_cup (by omega), fun hv hx hj => Iv_gate hv (Or.inr rfl) ⟨fun w => by omega, fun _ => ?_⟩⟩
    have h4 := hv.1.2.2.2
    obtain ⟨r, hr, e⟩ := xm_nI hx hj (by omega)
    rw [e, ncl (by omega)]
    rcases rg01 ((hv.2.2.1 r hr).2) with w | w <;> rw [w] <;> exact ⟨by decide, by decide⟩
  · rw [if_neg q]
    exact ⟨rfl, rfl, fun hv _ _ => hv⟩
theorem drS_n (x9 : Int64) (c : Cr) : men (drS x9 c) = men c ∧ jud (drS x9 c) = jud c ∧ (Iv c → 0 ≤ x9.toInt → 0 < jud c → Iv (drS x9 c)) := by
  obtain ⟨h1, h2, h3⟩ := drG_n x9 c
  unfold drS drT
  by_cases q : lg_cmp (x9 - x9 / 4 * 4) 0 = 0 ∧ drG x9 c 5 (xm x9 (nI (men c))).toNatClampNeg = 2
  · rw [if_pos q]
    refine ⟨?_, ?_, fun hv hx hj => ?_⟩
    · unfold agS
      rw [men_cup (by omega), men_cup (by omega), men_cup (by omega)]; exact h1
    · unfold agS
      rw [jud_cup (by omega), jud_cup (by omega), jud_cup (by omega)]; exact h2
    · have h4 := hv.1.2.2.2
      obtain ⟨r, hr, e⟩ := xm_nI hx hj (by omega)
      rw [e]
      exact Iv_agS (h3 hv hx hj) (by rw [h2]; exact hr) (x9_rg hx)
  · rw [if_neg q]
    exact ⟨h1, h2, h3⟩
theorem drK_n {x9 : Int64} {c : Cr} (hv : Iv c) (h1 : 0 ≤ x9.toInt) (h2 : x9.toInt < 2147483648) (hj : 0 < jud c) : ∀ k, 0 ≤ (drK x9 c k).1.toInt ∧ (drK x9 c k).1.toInt < 2147483648 ∧ Iv (drK x9 c k).2 ∧ men (drK x9 c k).2 = men c ∧ jud (drK x9 c k).2 = jud c
  | 0 => ⟨h1, h2, hv, rfl, rfl⟩
  | k + 1 => by
    obtain ⟨q1, q2, q3, q4, q5⟩ := drK_n hv h1 h2 hj k
    have hx := nx_rg q1 q2
    have hS := drS_n (nx (drK x9 c k).1) (drK x9 c k).2
    have hI := hS.2.2 q3 hx.1 (by rw [q5]; exact hj)
    have hY := yrS_n true (drS (nx (drK x9 c k).1) (drK x9 c k).2)
    refine ⟨hx.1, hx.2, Iv_yrS true hI, ?_, ?_⟩
    · show men (yrS true _) = _
      rw [hY.1, hS.1, q4]
    · show jud (yrS true _) = _
      rw [hY.2.1, hS.2.1, q5]
section DRAWN
variable {X : Nat → Nat → Int32} {d : Nat} {L : List zK} {I : Nat → Nat → Int32} {J : Nat → Nat → Int64} {c : Cr} {n : Nat}
theorem c_act (h : CAt I 226 c) (hv : Iv c) (hm : 0 < men c) {x9 : Int64} (hx : 0 ≤ x9.toInt) : ∃ I', zcall X (d + 3) 51 [.inr (.inr (some (.inl 3, 225))), .inr (.inl x9)] (L, zB1, I, J) = some (none, (L, zB1, I', J)) ∧ CAt I' 226 (drS x9 c) ∧ Fr 226 I I' := by
  have hn := hv.1
  have h6 := hn.2.1
  have h4 := hn.2.2.2
  have hj := Iv_jud hv hm
  obtain ⟨j, hj1, ej⟩ := xm_nI hx hj (by omega)
  obtain ⟨m, hm1, em⟩ := xm_nI hx hm (by omega)
  have hg := drG_n x9 c
  have hgI := hg.2.2 hv hx hj
  have key : ∀ I1, CAt I1 226 (drG x9 c) → Fr 226 I I1 → ∃ I', zgo X (zcall X (d+2)) none kX3_actOnDraw 100 [some (.inr (.inr (some (.inl 3, 225)))), some (.inr (.inl (x9))), none, some (.inl (nI j)), some (.inl (nI m))] [] (L, zB1, I1, J) = some (none, (L, zB1, I', J)) ∧ CAt I' 226 (drS x9 c) ∧ Fr 226 I I' := by
    intro I1 h1 f1
    have e5 : I1 231 m = drG x9 c 5 m := h1.m (by show m < men _; rw [hg.1]; exact hm1) 5 (by omega) (by omega)
    rw [bX3_actOnDraw_100, if_neg (show ¬ (4 : Int64) = 0 by decide), zin_nI (show m < 6 by omega) (by omega), zbt_t, ncl (by omega), e5, bX3_actOnDraw_142, if_neg (show ¬ (9 : Int64) = 0 by decide)]
    unfold drS drT
    rw [em, ej, ncl (by omega)]
    by_cases q1 : lg_cmp (x9 - x9 / 4 * 4) 0 = 0
    · rw [if_pos q1]
      by_cases q2 : drG x9 c 5 m = 2
      · obtain ⟨I2, e2, h2, f2⟩ := c_tryAgain (X := X) (d := d) (L := L) (J := J) h1 hgI.1 (show m < men _ by rw [hg.1]; exact hm1) (show j < jud _ by rw [hg.2.1]; exact hj1) ((x9 - x9 / 9 * 9).toInt32 + 1)
        rw [if_pos q2, if_pos ⟨q1, q2⟩, e2, cV_some, bX3_actOnDraw_142]
        exact ⟨I2, rfl, h2, f1.tr f2⟩
      · rw [if_neg q2, if_neg (fun w => q2 w.2)]
        exact ⟨I1, rfl, h1, f1⟩
    · rw [if_neg q1, if_neg (fun w => q1 w.1)]
      exact ⟨I1, rfl, h1, f1⟩
  rw [eX3_actOnDraw, show I 226 0 = nI (jud c) from h.jud hn, show I 226 1 = nI (men c) from h.men hn, if_neg (by show ¬ nI (jud c) ≤ nI 0; rw [nle (by omega) (by omega)]; omega), if_pos (by show nI 0 < nI (men c); rw [nlt (by omega) (by omega)]; omega), if_neg (i64_nz hj (by omega)), if_neg (i64_nz hm (by omega)), show (x9 - x9 / (nI (jud c)).toInt64 * (nI (jud c)).toInt64).toInt32 = nI j from ej, show (x9 - x9 / (nI (men c)).toInt64 * (nI (men c)).toInt64).toInt32 = nI m from em, c_isJudge h hn, cI_some, bX3_actOnDraw_54, zin_nI hj1 (by omega), if1, c_isMan h hn, cI_some, bX3_actOnDraw_66, zin_nI hm1 (by omega), if1, if_neg (show ¬ (3 : Int64) = 0 by decide), zin_nI (show j < 4 by omega) (by omega), zbt_t, zbt_t, ncl (by omega), show I 228 j = c 2 j from h.j hj1 2 (by omega) (by omega)]
  by_cases q : lg_cmp (x9 - x9 / 3 * 3) 0 = 0
  · rw [if_pos q]
    refine key _ ?_ ((Fr.rf 226 I).up (f := 2) (by omega))
    unfold drG
    rw [if_pos q, ej, ncl (by omega)]
    exact h.up (f := 2) (by omega)
  · rw [if_neg q]
    refine key _ ?_ (Fr.rf 226 I)
    unfold drG
    rw [if_neg q]
    exact h
theorem c_lookByDraws (h : CAt I 13 c) (hv : Iv c) (hm : 0 < men c) (hn31 : n < 2 ^ 31) {v3 : Int32} (h3 : 0 ≤ v3.toInt) : ∃ I', zcall X (d + 6) 50 [.inr (.inr (some (.inl 3, 225))), .inr (.inr (some (.inl 1, 13))), .inl (nI n), .inl v3] (L, zB1, I, J) = some (some (.inr (.inr (some (.inl 1, 226)))), (L, zB1, I', J)) ∧ CAt I' 226 (drK v3.toInt64 c n).2 ∧ Fr 226 I I' := by
  have hn := hv.1
  have hj := Iv_jud hv hm
  have hx0 : 0 ≤ v3.toInt64.toInt := by rw [Jvm.Kit.i64_of_i32]; exact h3
  have hx1 : v3.toInt64.toInt < 2147483648 := by rw [Jvm.Kit.i64_of_i32]; have := v3.toInt_lt; omega
  obtain ⟨I0, e0, h0, f0⟩ := c_takeFrom (X := X) (d := d + 4) (L := L) (J := J) (b := 226) h hn (by omega)
  obtain ⟨I1, e1, h1, f1⟩ := zloopR (fun k (s : Nat → Nat → Int32) => zgo X (zcall X (d+5)) (some (.object "JudgeHalves$Circuit")) kX3_lookByDraws 15 [some (.inr (.inr (some (.inl 3, 225)))), some (.inr (.inr (some (.inl 1, 13)))), some (.inl (nI n)), some (.inl (v3)), some (.inr (.inl ((drK v3.toInt64 c k).1))), none, some (.inl (nI k))] [] (L, zB1, s, J)) (fun k s => CAt s 226 (drK v3.toInt64 c k).2 ∧ Fr 226 I0 s) n (fun k s hk hp => by
    obtain ⟨h1, f1⟩ := hp
    try dsimp only at h1 f1 ⊢
    obtain ⟨q1, q2, q3, q4, q5⟩ := drK_n hv hx0 hx1 hj k
    have hx := nx_rg q1 q2
    obtain ⟨I2, e2, h2, f2⟩ := c_act (X := X) (d := d + 2) (L := L) (J := J) h1 q3 (by rw [q4]; exact hm) hx.1
    have hS := (drS_n (nx (drK v3.toInt64 c k).1) (drK v3.toInt64 c k).2).2.2 q3 hx.1 (by rw [q5]; exact hj)
    obtain ⟨I3, e3, h3', f3⟩ := c_passYears (X := X) (d := d + 1) (L := L) (J := J) h2 hS.1 (n := 1) (by omega) 0
    have e3' : zcall X (d + 5) 20 [.inr (.inr (some (.inl 1, 226))), .inl 1, .inl 0] (L, zB1, I2, J) = some (none, (L, zB1, I3, J)) := e3
    rw [pas_1] at h3'
    have e2' : zcall X (d + 5) 51 [.inr (.inr (some (.inl 3, 225))), .inr (.inl ((drK v3.toInt64 c k).1 * 16807 - (drK v3.toInt64 c k).1 * 16807 / 2147483647 * 2147483647))] (L, zB1, s, J) = some (none, (L, zB1, I2, J)) := e2
    rw [bX3_lookByDraws_15, if_neg (by rw [nle (by omega) (by omega)]; omega), if_neg (show ¬ (2147483647 : Int64) = 0 by decide), e2', cV_some, bX3_lookByDraws_39, e3', cV_some, bX3_lookByDraws_48, nI_1]
    exact ⟨I3, rfl, h3', (f1.tr f2).tr f3⟩) (a := I0) ⟨h0, Fr.rf _ _⟩
  refine ⟨I1, ?_, h1, f0.tr f1⟩
  rw [eX3_lookByDraws, e0, cV_some, bX3_lookByDraws_8]
  refine (show _ = _ from e1).trans ?_
  try dsimp only
  rw [bX3_lookByDraws_15, if_pos (by rw [nle (by omega) (by omega)]; omega)]
end DRAWN
