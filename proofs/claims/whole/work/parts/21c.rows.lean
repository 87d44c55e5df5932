/-! rows: copy -/
theorem i64_le (x9 y9 : Int64) : x9 ≤ y9 ↔ x9.toInt ≤ y9.toInt := Int64.le_iff_toInt_le
theorem i64_lt (x9 y9 : Int64) : x9 < y9 ↔ x9.toInt < y9.toInt := Int64.lt_iff_toInt_lt
theorem cp_if {α : Type} (A B : α) {s1 s2 : Nat} (h1 : s1 ≤ 40) (h2 : s2 ≤ 40) (i j n : Int32) : (if i < 0 then A else if j < 0 then A else if n < 0 then A else if 0 < lg_cmp (i.toInt64 + n.toInt64) (nI s1).toInt64 then A else if lg_cmp (j.toInt64 + n.toInt64) (nI s2).toInt64 ≤ 0 then B else A) = if (hp s1 i n && hp s2 j n) = true then B else A := by
  have z1 : i < 0 ↔ i.toInt < 0 := by rw [i32_lt, i0]
  have z2 : j < 0 ↔ j.toInt < 0 := by rw [i32_lt, i0]
  have z3 : n < 0 ↔ n.toInt < 0 := by rw [i32_lt, i0]
  have z4 : 0 < lg_cmp (i.toInt64 + n.toInt64) (nI s1).toInt64 ↔ (s1 : Int) < i.toInt + n.toInt := by
    rw [lg_cmp_gt, i64_lt, lg_i2l_add, Jvm.Kit.i64_of_i32, nI_int (by omega)]
  have z5 : lg_cmp (j.toInt64 + n.toInt64) (nI s2).toInt64 ≤ 0 ↔ j.toInt + n.toInt ≤ (s2 : Int) := by
    rw [lg_cmp_le, i64_le, lg_i2l_add, Jvm.Kit.i64_of_i32, nI_int (by omega)]
  have z6 : (hp s1 i n && hp s2 j n) = true ↔ (0 ≤ i.toInt ∧ 0 ≤ n.toInt ∧ i.toInt + n.toInt ≤ (s1 : Int)) ∧ (0 ≤ j.toInt ∧ 0 ≤ n.toInt ∧ j.toInt + n.toInt ≤ (s2 : Int)) := by
    rw [Bool.and_eq_true, hp_iff, hp_iff]
  by_cases q1 : i < 0
  · rw [if_pos q1, if_neg (fun q => by rw [z6] at q; rw [z1] at q1; omega)]
  · rw [if_neg q1]
    by_cases q2 : j < 0
    · rw [if_pos q2, if_neg (fun q => by rw [z6] at q; rw [z2] at q2; omega)]
    · rw [if_neg q2]
      by_cases q3 : n < 0
      · rw [if_pos q3, if_neg (fun q => by rw [z6] at q; rw [z3] at q3; omega)]
      · rw [if_neg q3]
        by_cases q4 : 0 < lg_cmp (i.toInt64 + n.toInt64) (nI s1).toInt64
        · rw [if_pos q4, if_neg (fun q => by rw [z6] at q; rw [z4] at q4; omega)]
        · rw [if_neg q4]
          by_cases q5 : lg_cmp (j.toInt64 + n.toInt64) (nI s2).toInt64 ≤ 0
          · rw [if_pos q5, if_pos (by rw [z6]; rw [z1] at q1; rw [z2] at q2; rw [z3] at q3; rw [z4] at q4; rw [z5] at q5; omega)]
          · rw [if_neg q5, if_neg (fun q => by rw [z6] at q; rw [z5] at q5; omega)]
section ROWS3
variable {X : Nat → Nat → Int32} {d : Nat} {L : List zK} {I : Nat → Nat → Int32} {J : Nat → Nat → Int64} {c : Cr}
theorem p_copy (a1 a2 a3 a4 a5 : Int32) : Pub X (d + 20) L 109 158 [.inl a1, .inl a2, .inl a3, .inl a4, .inl a5] := by
  intro I J hr
  have c1 := eX8_copy X (d + 19) L I J a1 a2 a3 a4 a5
  rw [c_isRow, cI_some, bX8_copy_4, c_isRow, cI_some, bX8_copy_11] at c1
  cases hz : zin a1 8 with
  | false =>
    refine pub_bad hr (by rw [c1, hz, if0]) ?_
    rw [eX9_copy, m_isRow, cI_some, bX9_copy_9, hz, if0]
  | true =>
    obtain ⟨a, ha8, rfl⟩ := zin_of hz
    rw [hz, if1] at c1
    cases hy : zin a3 8 with
    | false =>
      refine pub_bad hr (by rw [c1, hy, if0]) ?_
      rw [eX9_copy, m_isRow, cI_some, bX9_copy_9, hz, if1, m_isRow, cI_some, bX9_copy_16, hy, if0]
    | true =>
      obtain ⟨b, hb8, rfl⟩ := zin_of hy
      rw [hy, if1] at c1
      have c2 := eX6_findingForTwo X (d + 18) L I J (nI a) a2 (nI b) a4 a5
      rw [c_isMissing ha8, cI_some, bX6_findingForTwo_5, c_isMissing hb8, cI_some, bX6_findingForTwo_13] at c2
      have kp : ∀ (v : Int32) (m k : Nat), (m = 284 ∨ m = 285) → zup (zup (zup I 0 9 v) 283 0 0) 283 1 0 m k = I m k := by
        intro v m k hm
        rw [zup_ne (by omega), zup_ne (by omega), zup_ne (by omega)]
      have mhead : ∀ v : Int32, zcall X (d + 20) 158 [.inr (.inr (some (.inl 9, 283))), .inl (nI a), .inl a2, .inl (nI b), .inl a4, .inl a5] (L, zB1, (zup I 0 9 v), J) = _ := fun v => by
        rw [eX9_copy, m_isRow, cI_some, bX9_copy_9, hz, if1, m_isRow, cI_some, bX9_copy_16, hy, if1, hz, zbt_t, zbt_t, zbt_t, zbt_t, zbt_t, zbt_t, ncl (by omega), ncl (by omega), kp _ _ _ (by omega), kp _ _ _ (by omega), kp _ _ _ (by omega), kp _ _ _ (by omega)]
      rcases hr.1 a ha8 with ⟨w1, w2⟩ | ⟨s, w0, w1, w2, w3, w4, w5⟩
      · rw [decide_eq_true w1, if1] at c2
        rw [c2, cI_some, bX8_copy_31, if_neg (by decide), eX8_found, cI_some, bX8_copy_44] at c1
        refine ⟨_, _, J, _, c1, ?_, st_two hr 0 1⟩
        rw [mhead, w2, if_pos (by decide), eX9_finding, cI_some, bX9_copy_50]
      · have n4 : ¬ I 284 a < 0 := by rw [i32_lt, i0]; have := w4.1; omega
        rw [w1, decide_eq_false (nI_m1 s w0), if0] at c2
        rcases hr.1 b hb8 with ⟨v1, v2⟩ | ⟨t, v0, v1, v2, v3, v4, v5⟩
        · rw [decide_eq_true v1, if1] at c2
          rw [c2, cI_some, bX8_copy_31, if_neg (by decide), eX8_found, cI_some, bX8_copy_44] at c1
          refine ⟨_, _, J, _, c1, ?_, st_two hr 0 1⟩
          rw [mhead, if_neg n4, v2, if_neg (by decide), eX9_finding, cI_some, bX9_copy_50]
        · have n5 : 0 ≤ I 284 b := by rw [i32_le, i0]; exact v4.1
          rw [v1, decide_eq_false (nI_m1 t v0), if0, hz, hy, zbt_t, zbt_t, ncl (by omega), ncl (by omega), w3, v3] at c2
          by_cases el : I 284 a = I 284 b
          · rw [if_pos el, c_hasPlaces ha8 w0 w1, cI_some, bX6_findingForTwo_43, c_hasPlaces hb8 v0 v1, cI_some, bX6_findingForTwo_55] at c2
            cases hh : (hp s a2 a5 && hp t a4 a5) with
            | false =>
              have c3 : zcall X (d + 18 + 1) 77 [.inr (.inr (some (.inl 6, 1))), .inl (nI a), .inl a2, .inl (nI b), .inl a4, .inl a5] (L, zB1, I, J) = some (some (.inl (2)), (L, zB1, I, J)) := by
                rw [c2]
                cases q1 : hp s a2 a5 with
                | false => rw [if0]
                | true =>
                  rw [q1, Bool.true_and] at hh
                  rw [hh, if1, if0]
              rw [c3, cI_some, bX8_copy_31, if_neg (by decide), eX8_found, cI_some, bX8_copy_44] at c1
              refine ⟨_, _, J, _, c1, ?_, st_two hr 0 2⟩
              rw [mhead, if_neg n4, if_pos n5, if_pos el, w2, v2, cp_if _ _ w0 v0, hh, if_neg (by decide), eX9_finding, cI_some, bX9_copy_126]
            | true =>
              have hh2 := Bool.and_eq_true .. ▸ hh
              have q1 := hp_iff.1 hh2.1
              have q2 := hp_iff.1 hh2.2
              rw [hh2.1, if1, hh2.2, if1] at c2
              obtain ⟨i, hi, rfl, hi2⟩ := wi_nI (x9 := a2) (hi := 40) (wi_iff.2 ⟨q1.1, by omega⟩)
              obtain ⟨j, hj, rfl, hj2⟩ := wi_nI (x9 := a4) (hi := 40) (wi_iff.2 ⟨q2.1, by omega⟩)
              obtain ⟨n, hn, rfl, hn2⟩ := wi_nI (x9 := a5) (hi := 40) (wi_iff.2 ⟨q1.2.1, by omega⟩)
              rw [nI_int (by omega), nI_int (by omega)] at q1 q2
              have c4 := eX6_move X (d + 18) L I J (nI a) (nI i) (nI b) (nI j) (nI n)
              rw [c_hasPlaces ha8 w0 w1, cI_some, bX6_move_8, hh2.1, if1, c_hasPlaces hb8 v0 v1, cI_some, bX6_move_20, hh2.2, if1, hz, hy, zbt_t, zbt_t, bX6_move_43, nI_int (by omega), nI_int (by omega), nI_int (by omega), decide_eq_true (by omega), decide_eq_true (by omega), decide_eq_true (by omega), decide_eq_true (by omega), decide_eq_true (by omega)] at c4
              rw [show (true && (true && (true && (true && true)))) = true from rfl, zbt_t, ncl (by omega), ncl (by omega), ncl (by omega), ncl (by omega), ncl (by omega)] at c4
              rw [c2, cI_some, bX8_copy_31, if_pos rfl, c4, cV_some, bX8_copy_59, eX8_foundNothing, cI_some, bX8_copy_65] at c1
              have kq : ∀ (m k : Nat), (m = 284 ∨ m = 285) → zup (zup (zup (zur I (3 + b) (va_cpy (I (3 + a)) (I (3 + b)) i j n)) 0 9 0) 283 0 0) 283 1 0 m k = I m k := by
                intro m k hm
                rw [zup_ne (by omega), zup_ne (by omega), zup_ne (by omega), zur_ne (by omega)]
              obtain ⟨I2, e2, f2, g2, o2⟩ := m_copy143 (X := X) (d := d + 19) (L := L) (I := zup (zup (zup (zur I (3 + b) (va_cpy (I (3 + a)) (I (3 + b)) i j n)) 0 9 0) 283 0 0) 283 1 0) (J := J) ha8 hb8 (show i + n ≤ 40 by omega) (show j + n ≤ 40 by omega) (decide (j ≤ i)) rfl
              have e286 : ∀ k, zup (zup (zup (zur I (3 + b) (va_cpy (I (3 + a)) (I (3 + b)) i j n)) 0 9 0) 283 0 0) 283 1 0 286 k = I 286 k := fun k => by
                rw [zup_ne (by omega), zup_ne (by omega), zup_ne (by omega), zur_ne (by omega)]
              refine ⟨_, _, J, I2, c1, ?_, ?_⟩
              · rw [eX9_copy, m_isRow, cI_some, bX9_copy_9, hz, if1, m_isRow, cI_some, bX9_copy_16, hy, if1, hz, zbt_t, zbt_t, zbt_t, zbt_t, zbt_t, zbt_t, ncl (by omega), ncl (by omega), kq _ _ (by omega), kq _ _ (by omega), kq _ _ (by omega), kq _ _ (by omega), if_neg n4, if_pos n5, if_pos el, w2, v2, cp_if _ _ w0 v0, hh, if_pos rfl]
                by_cases hij : j ≤ i
                · rw [if_neg (by rw [nlt (by omega) (by omega)]; omega)]
                  rw [decide_eq_true hij] at e2
                  exact e2
                · rw [if_pos (by rw [nlt (by omega) (by omega)]; omega)]
                  rw [decide_eq_false hij] at e2
                  exact e2
              · have f3 : ∀ q k, q ≠ 3 + b → q ≠ 286 → ¬ (q = 0 ∧ k = 9) → ¬ (q = 283 ∧ (k = 0 ∨ k = 1)) → I2 q k = I q k := by
                  intro q k k1 k2 k3 k4
                  rw [f2 q k2, zup_at, if_neg (by omega), zup_at, if_neg (by omega), zup_at, if_neg k3, zur_ne k1]
                refine hr.rw (fun q k k1 k2 k3 k4 => f3 q k (by omega) (by omega) (by omega) (by omega)) ?_ ?_
                · rw [f2 0 (by omega), f2 283 (by omega), zup_ne (by omega), zup_ne (by omega), zup_at, if_pos ⟨rfl, rfl⟩, zup_at, if_pos ⟨rfl, rfl⟩]
                · intro q hq
                  rw [f3 12 q (by omega) (by omega) (by omega) (by omega), f3 284 q (by omega) (by omega) (by omega) (by omega), f3 285 q (by omega) (by omega) (by omega) (by omega), f3 11 q (by omega) (by omega) (by omega) (by omega)]
                  rcases hr.1 q hq with w | ⟨n', q1, q2, q3, q4, q5, q6⟩
                  · exact Or.inl w
                  · refine Or.inr ⟨n', q1, q2, q3, q4, q5, fun k hk => ?_⟩
                    by_cases e : q = b
                    · subst e
                      have eL : I2 (3 + q) k = va_cpy (I (3 + a)) (I (3 + q)) i j n k := by
                        rw [f2 _ (by omega), zup_ne (by omega), zup_ne (by omega), zup_ne (by omega), zur_eq]
                      rw [eL]
                      unfold va_cpy
                      by_cases hjk : j ≤ k ∧ k < j + n
                      · rw [if_pos hjk, show 40 * q + k = 40 * q + j + (k - j) by omega, g2 (k - j) (by omega), e286, w5 _ (by omega)]
                        congr 1
                        omega
                      · rw [if_neg hjk, o2 _ (by omega), e286, q6 k hk]
                    · rw [f3 _ _ (by omega) (by omega) (by omega) (by omega), o2 _ (by omega), e286]
                      exact q6 k hk
          · rw [if_neg el] at c2
            rw [c2, cI_some, bX8_copy_31, if_neg (by decide), eX8_found, cI_some, bX8_copy_44] at c1
            refine ⟨_, _, J, _, c1, ?_, st_two hr 0 5⟩
            rw [mhead, if_neg n4, if_pos n5, if_neg el, eX9_finding, cI_some, bX9_copy_71]
end ROWS3
