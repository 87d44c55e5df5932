/-! rows: set, copy -/
def lbS (lane v : Int32) : Int32 := if lane = 0 then v.toInt8.toInt32 else if lane = 1 then v.toInt16.toInt32 else v
section ROWS2
variable {X : Nat → Nat → Int32} {d : Nat} {L : List zK} {I : Nat → Nat → Int32} {J : Nat → Nat → Int64} {c : Cr}
theorem p_set (a1 a2 a3 : Int32) : Pub X (d + 20) L 108 157 [.inl a1, .inl a2, .inl a3] := by
  intro I J hr
  have c1 := eX8_set X (d + 19) L I J a1 a2 a3
  rw [c_isRow, cI_some, bX8_set_4] at c1
  cases hz : zin a1 8 with
  | false =>
    refine pub_bad hr (by rw [c1, hz, if0]) ?_
    rw [eX9_set, m_isRow, cI_some, bX9_set_9, hz, if0]
  | true =>
    obtain ⟨r, hr8, rfl⟩ := zin_of hz
    rw [hz, if1] at c1
    rcases hr.1 r hr8 with ⟨w1, w2⟩ | ⟨s, w0, w1, w2, w3, w4, w5⟩
    · rw [c_findingFor0 hr8 w1, cI_some, bX8_set_20, if_neg (by decide), eX8_found, cI_some, bX8_set_33] at c1
      refine ⟨_, _, J, _, c1, ?_, st_two hr 0 1⟩
      have k1 : zup (zup (zup I 0 9 1) 283 0 0) 283 1 0 284 r = -1 := by rw [zup_ne (by omega), zup_ne (by omega), zup_ne (by omega)]; exact w2
      rw [eX9_set, m_isRow, cI_some, bX9_set_9, hz, if1, zbt_t, ncl (by omega), k1, if_neg (by decide), eX9_finding, cI_some, bX9_set_34]
    · rw [c_findingFor1 hr8 w0 w1, cI_some, bX8_set_20] at c1
      have ew : ∀ I' : Nat → Nat → Int32, I' 285 r = nI s → wi a2 (Int64.toInt 0) ((I' 285 r - 1).toInt64).toInt = hp s a2 1 := by
        intro I' e
        rw [e, Jvm.Kit.i64_of_i32, Jvm.Kit.i32_sub (by rw [nI_int (by omega), i1]; omega) (by rw [nI_int (by omega), i1]; omega), nI_int (by omega), i1]
        unfold wi hp
        rw [i1]
        show (decide ((0 : Int) ≤ a2.toInt) && decide (a2.toInt ≤ (s : Int) - 1)) = _
        congr 1
        rw [decide_eq_true (show (0 : Int) ≤ 1 by omega), Bool.true_and, decide_eq_decide]
        omega
      cases hh : hp s a2 1 with
      | false =>
        rw [hh] at c1
        try dsimp only at c1
        rw [if_neg (by decide), eX8_found, cI_some, bX8_set_33] at c1
        refine ⟨_, _, J, _, c1, ?_, st_two hr 0 2⟩
        have k1 : zup (zup (zup I 0 9 2) 283 0 0) 283 1 0 284 r = I 284 r := by rw [zup_ne (by omega), zup_ne (by omega), zup_ne (by omega)]
        have k2 : zup (zup (zup I 0 9 2) 283 0 0) 283 1 0 285 r = nI s := by rw [zup_ne (by omega), zup_ne (by omega), zup_ne (by omega)]; exact w2
        rw [eX9_set, m_isRow, cI_some, bX9_set_9, hz, if1, zbt_t, zbt_t, ncl (by omega), k1, if_pos (by rw [i32_le, i0]; exact w4.1), m_inI, cI_some, bX9_set_50, ew _ k2, hh, if0, eX9_finding, cI_some, bX9_set_58]
      | true =>
        rw [hh] at c1
        try dsimp only at c1
        have hh2 := hp_iff.1 hh
        rw [i1] at hh2
        obtain ⟨i, hi, rfl, hi2⟩ := wi_nI (x9 := a2) (hi := 39) (wi_iff.2 ⟨hh2.1, by omega⟩)
        have hi : i < 40 := by omega
        have c2 := eX6_put X (d + 18) L I J (nI r) (nI i) a3
        have elb : ∀ lane : Int32, zcall X (d + 18) 81 [.inl lane, .inl a3] (L, zB1, I, J) = some (some (.inl (lbS lane a3)), (L, zB1, I, J)) := by
          intro lane
          rw [eX6_lowestBits]
          simp only [iteT]
          rfl
        rw [c_hasPlaces hr8 w0 w1, cI_some, bX6_put_7, hh, if1, hz, zbt_t, zbt_t, ncl (by omega), elb, cI_some, bX6_put_29, zin_nI hi (by omega), zbt_t, hz, zbt_t, zbt_t, ncl (by omega), ncl (by omega), zup_at, if_pos ⟨rfl, rfl⟩] at c2
        rw [if_pos rfl, c2, cI_some, bX8_set_45, eX8_foundNothing, cI_some, bX8_set_48] at c1
        have k1 : zup (zup (zup (zup I (3 + r) i (lbS (I 11 r) a3)) 0 9 0) 283 0 0) 283 1 0 284 r = I 284 r := by rw [zup_ne (by omega), zup_ne (by omega), zup_ne (by omega), zup_ne (by omega)]
        have k2 : zup (zup (zup (zup I (3 + r) i (lbS (I 11 r) a3)) 0 9 0) 283 0 0) 283 1 0 285 r = nI s := by rw [zup_ne (by omega), zup_ne (by omega), zup_ne (by omega), zup_ne (by omega)]; exact w2
        have ei : (40 * nI r) + nI i = nI (40 * r + i) := by
          show nI 40 * nI r + nI i = _
          rw [nI_mul, nI_add]
        refine ⟨_, _, J, zup (zup (zup (zup (zup I (3 + r) i (lbS (I 11 r) a3)) 0 9 0) 283 0 0) 283 1 0) 286 (40 * r + i) (lbS (I 11 r) a3), c1, ?_, ?_⟩
        · have f99 : ∀ v : Int32, ∀ I' : Nat → Nat → Int32, zgo X (zcall X (d+19)) (some .int) kX9_set 99 [some (.inr (.inr (some (.inl 9, 283)))), some (.inl (nI r)), some (.inl (nI i)), some (.inl (a3))] [.inl v, .inl ((40 * nI r) + nI i), .inr (.inr (some (.inr (.int, 320), 286)))] (L, zB1, I', J) = some (some (.inl v), (L, zB1, (zup I' 286 (40 * r + i) v), J)) := by
            intro v I'
            rw [bX9_set_99, ei, zin_nI (show 40 * r + i < 320 by omega) (by omega), zbt_t, zbt_t, ncl (by omega), zup_at, if_pos ⟨rfl, rfl⟩]
          rw [eX9_set, m_isRow, cI_some, bX9_set_9, hz, if1, zbt_t, zbt_t, ncl (by omega), k1, if_pos (by rw [i32_le, i0]; exact w4.1), m_inI, cI_some, bX9_set_50, ew _ k2, hh, if1, hz, zbt_t, zbt_t, ncl (by omega), k1, f99, f99, f99, ← w3]
          unfold lbS
          split
          · rfl
          · split <;> rfl
        · have f3 : ∀ a j, ¬ (a = 3 + r ∧ j = i) → ¬ (a = 0 ∧ j = 9) → ¬ (a = 283 ∧ (j = 0 ∨ j = 1)) → ¬ (a = 286 ∧ j = 40 * r + i) → zup (zup (zup (zup (zup I (3 + r) i (lbS (I 11 r) a3)) 0 9 0) 283 0 0) 283 1 0) 286 (40 * r + i) (lbS (I 11 r) a3) a j = I a j := by
            intro a j k1 k2 k3 k4
            rw [zup_at, if_neg k4, zup_at, if_neg (by omega), zup_at, if_neg (by omega), zup_at, if_neg k2, zup_at, if_neg k1]
          refine hr.rw (fun a j k1 k2 k3 k4 => f3 a j (by omega) (by omega) (by omega) (by omega)) ?_ ?_
          · rw [zup_ne (by omega), zup_ne (by omega), zup_ne (by omega), zup_at, if_pos ⟨rfl, rfl⟩, zup_ne (by omega), zup_at, if_pos ⟨rfl, rfl⟩]
          · intro q hq
            rw [f3 12 q (by omega) (by omega) (by omega) (by omega), f3 284 q (by omega) (by omega) (by omega) (by omega), f3 285 q (by omega) (by omega) (by omega) (by omega), f3 11 q (by omega) (by omega) (by omega) (by omega)]
            rcases hr.1 q hq with w | ⟨n, q1, q2, q3, q4, q5, q6⟩
            · exact Or.inl w
            · refine Or.inr ⟨n, q1, q2, q3, q4, q5, fun k hk => ?_⟩
              by_cases e : q = r ∧ k = i
              · rw [e.1, e.2, zup_ne (by omega), zup_ne (by omega), zup_ne (by omega), zup_ne (by omega), zup_at, if_pos ⟨rfl, rfl⟩, zup_at, if_pos ⟨rfl, rfl⟩]
              · rw [f3 _ _ (by omega) (by omega) (by omega) (by omega), f3 _ _ (by omega) (by omega) (by omega) (by omega)]
                exact q6 k hk
theorem m_copy143 {a b i j n : Nat} (ha : a < 8) (hb : b < 8) (hi : i + n ≤ 40) (hj : j + n ≤ 40) (up : Bool) (hup : up = decide (j ≤ i)) : ∃ I', zgo X (zcall X (d)) (some .int) kX9_copy 143 [some (.inr (.inr (some (.inl 9, 283)))), some (.inl (nI a)), some (.inl (nI i)), some (.inl (nI b)), some (.inl (nI j)), some (.inl (nI n)), some (.inl (b2i up)), some (.inl (0)), none] [] (L, zB1, I, J) = some (some (.inl (nI n)), (L, zB1, I', J)) ∧ FrM 286 I I' ∧ (∀ t, t < n → I' 286 (40 * b + j + t) = I 286 (40 * a + i + t)) ∧ (∀ q, ¬ (40 * b + j ≤ q ∧ q < 40 * b + j + n) → I' 286 q = I 286 q) := by
  have := zloopR (fun k (s : Option zV × (Nat → Nat → Int32)) => zgo X (zcall X (d)) (some .int) kX9_copy 143 [some (.inr (.inr (some (.inl 9, 283)))), some (.inl (nI a)), some (.inl (nI i)), some (.inl (nI b)), some (.inl (nI j)), some (.inl (nI n)), some (.inl (b2i up)), some (.inl (nI k)), s.1] [] (L, zB1, s.2, J)) (fun k s => FrM 286 I s.2 ∧ (∀ t, t < n → s.2 286 (40 * b + j + t) = if (if up = true then t < k else n ≤ k + t) then I 286 (40 * a + i + t) else I 286 (40 * b + j + t)) ∧ (∀ q, ¬ (40 * b + j ≤ q ∧ q < 40 * b + j + n) → s.2 286 q = I 286 q)) n (fun k s hk hp => by
    obtain ⟨u, I1⟩ := s
    obtain ⟨hf, ht, ho⟩ := hp
    try dsimp only at hf ht ho ⊢
    have key : ∀ w : Nat, w < n → (up = true → w = k) → (up = false → w + k + 1 = n) → ∃ y9 : Option zV × (Nat → Nat → Int32), zgo X (zcall X (d)) (some .int) kX9_copy 167 [some (.inr (.inr (some (.inl 9, 283)))), some (.inl (nI a)), some (.inl (nI i)), some (.inl (nI b)), some (.inl (nI j)), some (.inl (nI n)), some (.inl (b2i up)), some (.inl (nI k)), u] [.inl (nI w)] (L, zB1, I1, J) = zgo X (zcall X (d)) (some .int) kX9_copy 143 [some (.inr (.inr (some (.inl 9, 283)))), some (.inl (nI a)), some (.inl (nI i)), some (.inl (nI b)), some (.inl (nI j)), some (.inl (nI n)), some (.inl (b2i up)), some (.inl (nI (k + 1))), y9.1] [] (L, zB1, y9.2, J) ∧ FrM 286 I y9.2 ∧ (∀ t, t < n → y9.2 286 (40 * b + j + t) = if (if up = true then t < k + 1 else n ≤ k + 1 + t) then I 286 (40 * a + i + t) else I 286 (40 * b + j + t)) ∧ (∀ q, ¬ (40 * b + j ≤ q ∧ q < 40 * b + j + n) → y9.2 286 q = I 286 q) := by
      intro w hw hu hd
      have e1 : ((40 * nI a) + nI i) + nI w = nI (40 * a + i + w) := by
        show (nI 40 * nI a + nI i) + nI w = _
        rw [nI_mul, nI_add, nI_add]
      have e2 : ((40 * nI b) + nI j) + nI w = nI (40 * b + j + w) := by
        show (nI 40 * nI b + nI j) + nI w = _
        rw [nI_mul, nI_add, nI_add]
      have e3 : I1 286 (40 * a + i + w) = I 286 (40 * a + i + w) := by
        by_cases q : 40 * b + j ≤ 40 * a + i + w ∧ 40 * a + i + w < 40 * b + j + n
        · have hab : a = b := by omega
          obtain ⟨t, et⟩ : ∃ t, 40 * a + i + w = 40 * b + j + t := ⟨40 * a + i + w - (40 * b + j), by omega⟩
          rw [et, ht t (by omega), if_neg]
          cases up with
          | true =>
            have := of_decide_eq_true hup.symm
            have := hu rfl
            rw [if_pos rfl]; omega
          | false =>
            have := of_decide_eq_false hup.symm
            have := hd rfl
            rw [if_neg (by decide)]; omega
        · exact ho _ q
      refine ⟨(some (.inl (nI w)), zup I1 286 (40 * b + j + w) (I 286 (40 * a + i + w))), ?_, hf.up, ?_, ?_⟩
      · rw [bX9_copy_167, e1, e2, zin_nI (show 40 * a + i + w < 320 by omega) (by omega), zin_nI (show 40 * b + j + w < 320 by omega) (by omega), zbt_t, zbt_t, ncl (by omega), ncl (by omega), e3, nI_1]
      · intro t htn
        try dsimp only
        rw [zup_at]
        by_cases e : t = w
        · rw [if_pos ⟨rfl, by omega⟩, if_pos, e]
          cases up with
          | true => have := hu rfl; rw [if_pos rfl]; omega
          | false => have := hd rfl; rw [if_neg (by decide)]; omega
        · rw [if_neg (by omega), ht t htn]
          cases up with
          | true =>
            have := hu rfl
            by_cases q : t < k
            · rw [if_pos (by rw [if_pos rfl]; exact q), if_pos (by rw [if_pos rfl]; omega)]
            · rw [if_neg (by rw [if_pos rfl]; exact q), if_neg (by rw [if_pos rfl]; omega)]
          | false =>
            have := hd rfl
            by_cases q : n ≤ k + t
            · rw [if_pos (by rw [if_neg (by decide)]; exact q), if_pos (by rw [if_neg (by decide)]; omega)]
            · rw [if_neg (by rw [if_neg (by decide)]; exact q), if_neg (by rw [if_neg (by decide)]; omega)]
      · intro q hq
        try dsimp only
        rw [zup_at, if_neg (by omega)]
        exact ho q hq
    rw [bX9_copy_143, if_neg (by rw [nle (by omega) (by omega)]; omega)]
    rcases Bool.eq_false_or_eq_true up with hu | hu
    · rw [if_neg (by rw [hu]; decide)]
      exact key k hk (fun _ => rfl) (fun q => by rw [hu] at q; cases q)
    · skip
      have e1 : (nI n - 1) - nI k = nI (n - 1 - k) := by
        apply Int32.toInt_inj.mp
        rw [nI_int (by omega), Jvm.Kit.i32_sub, Jvm.Kit.i32_sub, nI_int (by omega), nI_int (by omega), i1]
        · omega
        · rw [nI_int (by omega), i1]; omega
        · rw [nI_int (by omega), i1]; omega
        · rw [Jvm.Kit.i32_sub, nI_int (by omega), nI_int (by omega), i1]
          · omega
          · rw [nI_int (by omega), i1]; omega
          · rw [nI_int (by omega), i1]; omega
        · rw [Jvm.Kit.i32_sub, nI_int (by omega), nI_int (by omega), i1]
          · omega
          · rw [nI_int (by omega), i1]; omega
          · rw [nI_int (by omega), i1]; omega
      rw [if_pos (by rw [hu]; rfl), e1]
      exact key (n - 1 - k) (by omega) (fun q => by rw [hu] at q; cases q) (fun _ => by omega)) (a := ((none : Option zV), I)) ⟨FrM.rf 286 I, fun t ht => by
        rw [if_neg]
        cases up with
        | true => rw [if_pos rfl]; omega
        | false => rw [if_neg (by decide)]; omega, fun _ _ => rfl⟩
  obtain ⟨⟨u, I1⟩, e, hf, ht, ho⟩ := this
  refine ⟨I1, (show _ = _ from e).trans ?_, hf, ?_, ho⟩
  · try dsimp only
    rw [bX9_copy_143, if_pos (by rw [nle (by omega) (by omega)]; omega)]
  · intro t htn
    have := ht t htn
    rw [if_pos] at this
    · exact this
    · cases up with
      | true => rw [if_pos rfl]; exact htn
      | false => rw [if_neg (by decide)]; omega
end ROWS2
