/-! rows -/
/-- are there n places from i on, of s? -/
def hp (s : Nat) (i n : Int32) : Bool := decide (0 ≤ i.toInt) && (decide (0 ≤ n.toInt) && decide (i.toInt + n.toInt ≤ (s : Int)))
theorem hp_iff {s : Nat} {i n : Int32} : hp s i n = true ↔ 0 ≤ i.toInt ∧ 0 ≤ n.toInt ∧ i.toInt + n.toInt ≤ (s : Int) := by
  unfold hp
  rw [Bool.and_eq_true, Bool.and_eq_true, decide_eq_true_eq, decide_eq_true_eq, decide_eq_true_eq]
theorem hp_f {s : Nat} {i n : Int32} (h : ¬ (0 ≤ i.toInt ∧ 0 ≤ n.toInt ∧ i.toInt + n.toInt ≤ (s : Int))) : hp s i n = false := by
  cases q : hp s i n with
  | false => rfl
  | true => exact absurd (hp_iff.1 q) h
section ROWS
variable {X : Nat → Nat → Int32} {d : Nat} {L : List zK} {I : Nat → Nat → Int32} {J : Nat → Nat → Int64} {c : Cr}
theorem c_hasPlaces {r s : Nat} (hr : r < 8) (hs : s ≤ 40) (e : I 12 r = nI s) (i n : Int32) : zcall X (d + 3) 78 [.inr (.inr (some (.inl 6, 1))), .inl (nI r), .inl i, .inl n] (L, zB1, I, J) = some (some (.inl (b2i (hp s i n))), (L, zB1, I, J)) := by
  rw [eX6_hasPlaces, c_isMissing hr, cI_some, bX6_hasPlaces_5, e, decide_eq_false (nI_m1 s hs), if0, zin_nI hr (by omega), zbt_t, zbt_t, ncl (by omega), e]
  by_cases h1 : i < 0
  · rw [if_pos h1, hp_f (by rw [i32_lt, i0] at h1; omega)]; rfl
  · rw [if_neg h1]
    rw [i32_lt, i0] at h1
    by_cases h2 : n < 0
    · rw [if_pos h2, hp_f (by rw [i32_lt, i0] at h2; omega)]; rfl
    · rw [if_neg h2]
      rw [i32_lt, i0] at h2
      by_cases h3 : nI s < i
      · rw [if_pos h3, hp_f (by rw [i32_lt, nI_int (by omega)] at h3; omega)]; rfl
      · rw [if_neg h3]
        rw [i32_lt, nI_int (by omega)] at h3
        have es : (nI s - i).toInt = (s : Int) - i.toInt := by
          rw [Jvm.Kit.i32_sub (by rw [nI_int (by omega)]; omega) (by rw [nI_int (by omega)]; omega), nI_int (by omega)]
        by_cases h4 : nI s - i < n
        · rw [if_pos h4, hp_f (by rw [i32_lt, es] at h4; omega)]; rfl
        · rw [if_neg h4, hp_iff.2 (by rw [i32_lt, es] at h4; omega)]; rfl
theorem c_findingFor1 {r s : Nat} (hr : r < 8) (hs : s ≤ 40) (e : I 12 r = nI s) (i n : Int32) : zcall X (d + 4) 76 [.inr (.inr (some (.inl 6, 1))), .inl (nI r), .inl i, .inl n] (L, zB1, I, J) = some (some (.inl ((match hp s i n with | true => 0 | false => 2))), (L, zB1, I, J)) := by
  rw [eX6_findingFor, c_isMissing hr, cI_some, bX6_findingFor_5, e, decide_eq_false (nI_m1 s hs), if0, c_hasPlaces hr hs e, cI_some, bX6_findingFor_17]
  cases hp s i n with
  | true => exact if1 _ _
  | false => exact if0 _ _
theorem c_findingFor0 {r : Nat} (hr : r < 8) (e : I 12 r = -1) (i n : Int32) : zcall X (d + 4) 76 [.inr (.inr (some (.inl 6, 1))), .inl (nI r), .inl i, .inl n] (L, zB1, I, J) = some (some (.inl (1)), (L, zB1, I, J)) := by
  rw [eX6_findingFor, c_isMissing hr, cI_some, bX6_findingFor_5, e, decide_eq_true rfl, if1]
theorem pub_bad {y y' : Nat} {args : List zV} {v : Int32} (hr : Rel I) (e1 : zcall X d y (.inr (.inr (some (.inl 8, 0))) :: args) (L, zB1, I, J) = some (some (.inl v), (L, zB1, I, J))) (e2 : zcall X d y' (.inr (.inr (some (.inl 9, 283))) :: args) (L, zB1, I, J) = some (some (.inl v), (L, zB1, (zup I 283 0 0), J))) : ∃ (v : Int32) (I1 : Nat → Nat → Int32) (J1 : Nat → Nat → Int64) (I2 : Nat → Nat → Int32), zcall X d y (.inr (.inr (some (.inl 8, 0))) :: args) (L, zB1, I, J) = some (some (.inl v), (L, zB1, I1, J1)) ∧ zcall X d y' (.inr (.inr (some (.inl 9, 283))) :: args) (L, zB1, I1, J1) = some (some (.inl v), (L, zB1, I2, J1)) ∧ Rel I2 := ⟨v, I, J, _, e1, e2, (Qth I).Rel hr⟩
/-- a finding on both sides, nothing else -/
theorem Rel.st {I' : Nat → Nat → Int32} (hr : Rel I) (hf : ∀ a i, ¬ (a = 0 ∧ i = 9) → ¬ (a = 283 ∧ (i = 0 ∨ i = 1)) → I' a i = I a i) (hs : I' 0 9 = I' 283 1) : Rel I' := by
  obtain ⟨h1, ⟨c, h2⟩, h3, h4, h5, h6, h7⟩ := hr
  exact ⟨h1.cg (fun a i h => hf a i (by omega) (by omega)), ⟨c, h2.cg (fun a i h => hf a i (by omega) (by omega))⟩, h3.cg (fun a i h => hf a i (by omega) (by omega)), h4.cg (fun a i h => hf a i (by omega) (by omega)), h5.cg (fun a i h => hf a i (by omega) (by omega)), h6.cg (fun a i h => hf a i (by omega) (by omega)), hs⟩
theorem st_two (hr : Rel I) (w v : Int32) : Rel (zup (zup (zup (zup I 0 9 v) 283 0 0) 283 1 w) 283 1 v) := by
  refine hr.st (fun a i k1 k2 => ?_) ?_
  · rw [zup_at, if_neg (by omega), zup_at, if_neg (by omega), zup_at, if_neg (by omega), zup_at, if_neg (by omega)]
  · rw [zup_ne (by omega), zup_ne (by omega), zup_ne (by omega), zup_at, if_pos ⟨rfl, rfl⟩, zup_at, if_pos ⟨rfl, rfl⟩]
theorem st_one (hr : Rel I) (v : Int32) : Rel (zup (zup (zup I 0 9 v) 283 0 0) 283 1 v) := by
  refine hr.st (fun a i k1 k2 => ?_) ?_
  · rw [zup_at, if_neg (by omega), zup_at, if_neg (by omega), zup_at, if_neg (by omega)]
  · rw [zup_ne (by omega), zup_ne (by omega), zup_at, if_pos ⟨rfl, rfl⟩, zup_at, if_pos ⟨rfl, rfl⟩]
/-- rows change on both sides -/
theorem Rel.rw {I' : Nat → Nat → Int32} (hr : Rel I) (hf : ∀ a i, ¬ (a = 0 ∧ i = 9) → ¬ (a = 283 ∧ (i = 0 ∨ i = 1)) → ¬ (3 ≤ a ∧ a ≤ 12) → ¬ (284 ≤ a ∧ a ≤ 286) → I' a i = I a i) (hs : I' 0 9 = I' 283 1) (hrow : RRow I') : Rel I' := by
  obtain ⟨h1, ⟨c, h2⟩, h3, h4, h5, h6, h7⟩ := hr
  exact ⟨hrow, ⟨c, h2.cg (fun a i h => hf a i (by omega) (by omega) (by omega) (by omega))⟩, h3.cg (fun a i h => hf a i (by omega) (by omega) (by omega) (by omega)), h4.cg (fun a i h => hf a i (by omega) (by omega) (by omega) (by omega)), h5.cg (fun a i h => hf a i (by omega) (by omega) (by omega) (by omega)), h6.cg (fun a i h => hf a i (by omega) (by omega) (by omega) (by omega)), hs⟩
theorem p_drop (a1 : Int32) : Pub X (d + 20) L 110 159 [.inl a1] := by
  intro I J hr
  have c1 := eX8_drop X (d + 19) L I J a1
  rw [c_isRow, cI_some, bX8_drop_4] at c1
  cases hz : zin a1 8 with
  | false =>
    refine pub_bad hr (by rw [c1, hz, if0]) ?_
    rw [eX9_drop, m_isRow, cI_some, bX9_drop_9, hz, if0]
  | true =>
    obtain ⟨r, hr8, rfl⟩ := zin_of hz
    rw [hz, if1, c_isMissing hr8, cI_some, bX8_drop_18] at c1
    rcases hr.1 r hr8 with ⟨w1, w2⟩ | ⟨s, w0, w1, w2, w3, w4, w5⟩
    · rw [decide_eq_true w1, if1, eX8_found, cI_some, bX8_drop_26] at c1
      refine ⟨_, _, J, _, c1, ?_, st_two hr 0 1⟩
      have k1 : zup (zup (zup I 0 9 1) 283 0 0) 283 1 0 284 r = -1 := by rw [zup_ne (by omega), zup_ne (by omega), zup_ne (by omega)]; exact w2
      rw [eX9_drop, m_isRow, cI_some, bX9_drop_9, hz, if1, zbt_t, ncl (by omega), k1, if_neg (by decide), eX9_finding, cI_some, bX9_drop_34]
    · have c2 := eX6_lose X (d + 18) L I J (nI r)
      rw [c_isRow, cI_some, bX6_lose_4, hz, if1, zbt_t, zbt_t, ncl (by omega), w1] at c2
      rw [w1, decide_eq_false (nI_m1 s w0), if0, c2, cI_some, bX8_drop_36, eX8_foundNothing, cI_some, bX8_drop_39] at c1
      have k1 : zup (zup (zup (zup I 12 r (-1)) 0 9 0) 283 0 0) 283 1 0 284 r = I 284 r := by rw [zup_ne (by omega), zup_ne (by omega), zup_ne (by omega), zup_ne (by omega)]
      have k2 : zup (zup (zup (zup (zup I 12 r (-1)) 0 9 0) 283 0 0) 283 1 0) 284 r (-1) 285 r = nI s := by rw [zup_ne (by omega), zup_ne (by omega), zup_ne (by omega), zup_ne (by omega), zup_ne (by omega)]; exact w2
      refine ⟨_, _, J, zup (zup (zup (zup (zup I 12 r (-1)) 0 9 0) 283 0 0) 283 1 0) 284 r (-1), c1, ?_, ?_⟩
      · rw [eX9_drop, m_isRow, cI_some, bX9_drop_9, hz, if1, zbt_t, zbt_t, zbt_t, ncl (by omega), k1, if_pos (by rw [i32_le, i0]; exact w4.1), k2]
      · have f3 : ∀ a i, ¬ (a = 12 ∧ i = r) → ¬ (a = 0 ∧ i = 9) → ¬ (a = 283 ∧ (i = 0 ∨ i = 1)) → ¬ (a = 284 ∧ i = r) → zup (zup (zup (zup (zup I 12 r (-1)) 0 9 0) 283 0 0) 283 1 0) 284 r (-1) a i = I a i := by
          intro a i k1 k2 k3 k4
          rw [zup_at, if_neg k4, zup_at, if_neg (by omega), zup_at, if_neg (by omega), zup_at, if_neg k2, zup_at, if_neg k1]
        refine hr.rw (fun a i k1 k2 k3 k4 => f3 a i (by omega) (by omega) (by omega) (by omega)) ?_ ?_
        · rw [zup_ne (by omega), zup_ne (by omega), zup_ne (by omega), zup_at, if_pos ⟨rfl, rfl⟩, zup_ne (by omega), zup_at, if_pos ⟨rfl, rfl⟩]
        · intro q hq
          by_cases e : q = r
          · rw [e]
            refine Or.inl ⟨?_, ?_⟩
            · rw [zup_ne (by omega), zup_ne (by omega), zup_ne (by omega), zup_ne (by omega), zup_at, if_pos ⟨rfl, rfl⟩]
            · rw [zup_at, if_pos ⟨rfl, rfl⟩]
          · rw [f3 12 q (by omega) (by omega) (by omega) (by omega), f3 284 q (by omega) (by omega) (by omega) (by omega), f3 285 q (by omega) (by omega) (by omega) (by omega), f3 11 q (by omega) (by omega) (by omega) (by omega)]
            rcases hr.1 q hq with w | ⟨n, q1, q2, q3, q4, q5, q6⟩
            · exact Or.inl w
            · refine Or.inr ⟨n, q1, q2, q3, q4, q5, fun k hk => ?_⟩
              rw [f3 _ _ (by omega) (by omega) (by omega) (by omega), f3 _ _ (by omega) (by omega) (by omega) (by omega)]
              exact q6 k hk
theorem p_row (a1 a2 a3 : Int32) : Pub X (d + 20) L 107 156 [.inl a1, .inl a2, .inl a3] := by
  intro I J hr
  have c1 := eX8_row X (d + 19) L I J a1 a2 a3
  rw [c_isRow, cI_some, bX8_row_4, c_isWithin, cI_some, bX8_row_13, show wi a2 (Int32.toInt 0) (Int32.toInt 2) = wi a2 0 2 from rfl] at c1
  cases hz : zin a1 8 with
  | false =>
    refine pub_bad hr (by rw [c1, hz, if0]) ?_
    rw [eX9_row, m_isRow, cI_some, bX9_row_9, hz, if0]
  | true =>
    rw [hz, if1] at c1
    cases hw : wi a2 0 2 with
    | false =>
      refine pub_bad hr (by rw [c1, hw, if0]) ?_
      rw [eX9_row, m_isRow, cI_some, bX9_row_9, hz, if1, m_inI, cI_some, bX9_row_21, show wi a2 (Int64.toInt 0) (Int64.toInt 2) = wi a2 0 2 from rfl, hw, if0]
    | true =>
      rw [hw, if1] at c1
      by_cases h40 : a3 ≤ 40
      · rw [if_pos h40] at c1
        by_cases h0 : 0 ≤ a3
        · rw [if_pos h0] at c1
          obtain ⟨r, hr8, rfl⟩ := zin_of hz
          obtain ⟨n, hn, rfl, hn2⟩ := wi_nI (x9 := a3) (hi := 40) (wi_iff.2 ⟨by rw [i32_le, i0] at h0; exact h0, by rw [i32_le, show (40 : Int32).toInt = 40 from rfl] at h40; exact h40⟩)
          have lc := zloopR (fun k (I : Nat → Nat → Int32) => zgo X (zcall X (d+18)) none kX6_make 25 [some (.inr (.inr (some (.inl 6, 1)))), some (.inl (nI r)), some (.inl (a2)), some (.inl (nI n)), some (.inl (nI k))] [] (L, zB1, I, J)) (fun k I' => (∀ i, i < k → I' (3 + r) i = 0) ∧ FrM (3 + r) (zup (zup I 11 r a2) 12 r (nI n)) I') 40 (fun k I1 hk hp => by
            obtain ⟨hc, hf⟩ := hp
            try dsimp only
            rw [bX6_make_25, if_neg (by show ¬ nI 40 ≤ nI k; rw [nle (by omega) (by omega)]; omega), zin_nI hr8 (by omega), zbt_t, zin_nI hk (by omega), zbt_t, ncl (by omega), ncl (by omega), nI_1]
            refine ⟨_, rfl, ?_, hf.up⟩
            intro i hi
            rw [zup_at]
            by_cases e : i = k
            · rw [if_pos ⟨rfl, e⟩]
            · rw [if_neg (by omega)]; exact hc i (by omega)) (a := zup (zup I 11 r a2) 12 r (nI n)) ⟨fun i hi => by omega, FrM.rf _ _⟩
          obtain ⟨I1, e1, h1, f1⟩ := lc
          have c2 := eX6_make X (d + 18) L I J (nI r) a2 (nI n)
          rw [c_isRow, cI_some, bX6_make_4, hz, if1, zbt_t, zbt_t, ncl (by omega), show zgo X (zcall X (d+18)) none kX6_make 25 [some (.inr (.inr (some (.inl 6, 1)))), some (.inl (nI r)), some (.inl (a2)), some (.inl (nI n)), some (.inl (0))] [] (L, zB1, (zup (zup I 11 r a2) 12 r (nI n)), J) = _ from e1, bX6_make_25, if_pos (by show nI 40 ≤ nI 40; rw [nle (by omega) (by omega)]; omega)] at c2
          rw [c2, cV_some, bX8_row_45, eX8_foundNothing, cI_some, bX8_row_50] at c1
          have lm := zloopR (fun k (I : Nat → Nat → Int32) => zgo X (zcall X (d+19)) (some .int) kX9_row 65 [some (.inr (.inr (some (.inl 9, 283)))), some (.inl (nI r)), some (.inl (a2)), some (.inl (nI n)), some (.inl (nI k))] [] (L, zB1, I, J)) (fun k I' => (∀ i, i < k → I' 286 (40 * r + i) = 0) ∧ (∀ i, ¬ (40 * r ≤ i ∧ i < 40 * r + 40) → I' 286 i = I 286 i) ∧ FrM 286 (zup (zup (zup (zup (zup I1 0 9 0) 283 0 0) 283 1 0) 284 r a2) 285 r (nI n)) I') 40 (fun k I2 hk hp => by
            obtain ⟨hc, hd, hf⟩ := hp
            try dsimp only
            have ei : (40 * nI r) + nI k = nI (40 * r + k) := by
              show nI 40 * nI r + nI k = _
              rw [nI_mul, nI_add]
            rw [bX9_row_65, if_neg (by show ¬ nI 40 ≤ nI k; rw [nle (by omega) (by omega)]; omega), ei, zin_nI (show 40 * r + k < 320 by omega) (by omega), zbt_t, ncl (by omega), nI_1]
            refine ⟨_, rfl, ?_, ?_, hf.up⟩
            · intro i hi
              rw [zup_at]
              by_cases e : i = k
              · rw [if_pos ⟨rfl, by omega⟩]
              · rw [if_neg (by omega)]; exact hc i (by omega)
            · intro i hi
              rw [zup_at, if_neg (by omega)]
              exact hd i hi) (a := zup (zup (zup (zup (zup I1 0 9 0) 283 0 0) 283 1 0) 284 r a2) 285 r (nI n)) ⟨fun i hi => by omega, fun i _ => by rw [zup_ne (by omega), zup_ne (by omega), zup_ne (by omega), zup_ne (by omega), zup_ne (by omega), f1 286 (by omega), zup_ne (by omega), zup_ne (by omega)], FrM.rf _ _⟩
          obtain ⟨I2, e2, h2, d2, f2⟩ := lm
          refine ⟨(nI n), _, J, I2, c1, ?_, ?_⟩
          · rw [eX9_row, m_isRow, cI_some, bX9_row_9, hz, if1, m_inI, cI_some, bX9_row_21, show wi a2 (Int64.toInt 0) (Int64.toInt 2) = wi a2 0 2 from rfl, hw, if1, if_pos h40, if_pos h0, hz, zbt_t, zbt_t, ncl (by omega)]
            refine (show _ = _ from e2).trans ?_
            try dsimp only
            rw [bX9_row_65, if_pos (by show nI 40 ≤ nI 40; rw [nle (by omega) (by omega)]; omega)]
          · have f3 : ∀ a i, ¬ (a = 11 ∧ i = r) → ¬ (a = 12 ∧ i = r) → a ≠ 3 + r → ¬ (a = 0 ∧ i = 9) → ¬ (a = 283 ∧ (i = 0 ∨ i = 1)) → ¬ (a = 284 ∧ i = r) → ¬ (a = 285 ∧ i = r) → a ≠ 286 → I2 a i = I a i := by
              intro a i k1 k2 k3 k4 k5 k6 k7 k8
              rw [f2 a k8, zup_at, if_neg k7, zup_at, if_neg k6, zup_at, if_neg (by omega), zup_at, if_neg (by omega), zup_at, if_neg k4, f1 a k3, zup_at, if_neg k2, zup_at, if_neg k1]
            refine hr.rw (fun a i k1 k2 k3 k4 => f3 a i (by omega) (by omega) (by omega) (by omega) (by omega) (by omega) (by omega) (by omega)) ?_ ?_
            · rw [f2 0 (by omega), zup_ne (by omega), zup_ne (by omega), zup_ne (by omega), zup_ne (by omega), zup_at, if_pos ⟨rfl, rfl⟩, f2 283 (by omega), zup_ne (by omega), zup_ne (by omega), zup_at, if_pos ⟨rfl, rfl⟩]
            · intro q hq
              by_cases e : q = r
              · rw [e]
                have e284 : I2 284 r = a2 := by rw [f2 284 (by omega), zup_ne (by omega), zup_at, if_pos ⟨rfl, rfl⟩]
                refine Or.inr ⟨n, by omega, ?_, ?_, ?_, ?_, fun k hk => ?_⟩
                · rw [f2 12 (by omega), zup_ne (by omega), zup_ne (by omega), zup_ne (by omega), zup_ne (by omega), zup_ne (by omega), f1 12 (by omega), zup_at, if_pos ⟨rfl, rfl⟩]
                · rw [f2 285 (by omega), zup_at, if_pos ⟨rfl, rfl⟩]
                · rw [e284, f2 11 (by omega), zup_ne (by omega), zup_ne (by omega), zup_ne (by omega), zup_ne (by omega), zup_ne (by omega), f1 11 (by omega), zup_ne (by omega), zup_at, if_pos ⟨rfl, rfl⟩]
                · rw [e284]; exact wi_iff.1 hw
                · rw [h2 k hk, f2 (3 + r) (by omega), zup_ne (by omega), zup_ne (by omega), zup_ne (by omega), zup_ne (by omega), zup_ne (by omega), h1 k hk]
              · rw [f3 12 q (by omega) (by omega) (by omega) (by omega) (by omega) (by omega) (by omega) (by omega), f3 284 q (by omega) (by omega) (by omega) (by omega) (by omega) (by omega) (by omega) (by omega), f3 285 q (by omega) (by omega) (by omega) (by omega) (by omega) (by omega) (by omega) (by omega), f3 11 q (by omega) (by omega) (by omega) (by omega) (by omega) (by omega) (by omega) (by omega)]
                rcases hr.1 q hq with w | ⟨n, q1, q2, q3, q4, q5, q6⟩
                · exact Or.inl w
                · refine Or.inr ⟨n, q1, q2, q3, q4, q5, fun k hk => ?_⟩
                  rw [f3 _ _ (by omega) (by omega) (by omega) (by omega) (by omega) (by omega) (by omega) (by omega), d2 _ (by omega)]
                  exact q6 k hk
        · rw [if_neg h0, eX8_found, cI_some, bX8_row_34] at c1
          refine ⟨_, _, J, _, c1, ?_, st_two hr 0 4⟩
          rw [eX9_row, m_isRow, cI_some, bX9_row_9, hz, if1, m_inI, cI_some, bX9_row_21, show wi a2 (Int64.toInt 0) (Int64.toInt 2) = wi a2 0 2 from rfl, hw, if1, if_pos h40, if_neg h0, eX9_finding, cI_some, bX9_row_47]
      · refine pub_bad hr (by rw [c1, if_neg h40]) ?_
        rw [eX9_row, m_isRow, cI_some, bX9_row_9, hz, if1, m_inI, cI_some, bX9_row_21, show wi a2 (Int64.toInt 0) (Int64.toInt 2) = wi a2 0 2 from rfl, hw, if1, if_neg h40]
end ROWS
