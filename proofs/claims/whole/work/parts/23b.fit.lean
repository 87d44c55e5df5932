/-! what fits: the parts that who, severes and likes share -/
section FITB
variable {X : Nat → Nat → Int32} {d : Nat} {L : List zK} {I : Nat → Nat → Int32} {J : Nat → Nat → Int64} {c : Cr} {m n : Nat} {w : Nat → Int32}
theorem c_isToldRow (a1 a2 : Int32) : zcall X (d + 2) 147 [.inr (.inr (some (.inl 8, 0))), .inl a1, .inl a2] (L, zB1, I, J) = some (some (.inl (b2i (zin a1 8 && wi a2 1 12))), (L, zB1, I, J)) := by
  rw [eX8_isToldRow, c_isRow, cI_some, bX8_isToldRow_4, c_isWithin, cI_some, bX8_isToldRow_14, show wi a2 (Int32.toInt 1) (Int32.toInt 12) = wi a2 1 12 from rfl]
  cases zin a1 8 with
  | false => exact if0 _ _
  | true =>
    rw [if1]
    cases wi a2 1 12 with
    | false => exact if0 _ _
    | true => exact if1 _ _
theorem m_isMany (a1 a2 : Int32) : zcall X (d + 3) 221 [.inl a1, .inl a2] (L, zB1, I, J) = some (some (.inl (b2i (zin a1 8 && wi a2 1 12))), (L, zB1, I, J)) := by
  rw [eX9_isMany, m_isRow, cI_some, bX9_isMany_4, m_inI, cI_some, bX9_isMany_16, show wi a2 (Int64.toInt 1) (Int64.toInt 12) = wi a2 1 12 from rfl]
  cases zin a1 8 with
  | false => exact if0 _ _
  | true =>
    rw [if1]
    cases wi a2 1 12 with
    | false => exact if0 _ _
    | true => exact if1 _ _
theorem m_rowFound0 {r : Nat} (hr : r < 8) (e : I 284 r = -1) (a2 a3 : Int32) : zcall X (d + 2) 220 [.inr (.inr (some (.inl 9, 283))), .inl (nI r), .inl a2, .inl a3] (L, zB1, I, J) = some (some (.inl (-1000010 - 1)), (L, zB1, (zup I 283 1 1), J)) := by
  rw [eX9_rowFound, zin_nI hr (by omega), zbt_t, ncl (by omega), e, if_neg (by decide), eX9_finding, cI_some, bX9_rowFound_14]
theorem m_rowFound1 {r s : Nat} (hr : r < 8) (hs : s ≤ 40) (e : 0 ≤ (I 284 r).toInt) (e5 : I 285 r = nI s) (a2 a3 : Int32) (h3 : 0 ≤ a3.toInt) : zcall X (d + 2) 220 [.inr (.inr (some (.inl 9, 283))), .inl (nI r), .inl a2, .inl a3] (L, zB1, I, J) = if hp s a2 a3 = true then some (some (.inl 0), (L, zB1, (zup I 283 1 0), J)) else some (some (.inl (-1000010 - 2)), (L, zB1, (zup I 283 1 2), J)) := by
  rw [eX9_rowFound, zin_nI hr (by omega), zbt_t, ncl (by omega), if_pos (by rw [i32_le, i0]; exact e), zbt_t, e5, eX9_finding, cI_some, bX9_rowFound_40]
  have z1 : a2 < 0 ↔ a2.toInt < 0 := by rw [i32_lt, i0]
  have z5 : lg_cmp (a2.toInt64 + a3.toInt64) (nI s).toInt64 ≤ 0 ↔ a2.toInt + a3.toInt ≤ (s : Int) := by
    rw [lg_cmp_le, i64_le, lg_i2l_add, Jvm.Kit.i64_of_i32, nI_int (by omega)]
  by_cases q1 : a2 < 0
  · rw [if_pos q1, if_neg (fun q => by rw [hp_iff] at q; rw [z1] at q1; omega)]
  · rw [if_neg q1]
    by_cases q5 : lg_cmp (a2.toInt64 + a3.toInt64) (nI s).toInt64 ≤ 0
    · rw [if_pos q5, if_pos (by rw [hp_iff]; rw [z1] at q1; rw [z5] at q5; omega)]
    · rw [if_neg q5, if_neg (fun q => by rw [hp_iff] at q; rw [z5] at q5; omega)]
theorem c_itemAt {r s k : Nat} (hr : r < 8) (hs : s ≤ 40) (e : I 12 r = nI s) (hk : k < s) : zcall X (d + 4) 82 [.inr (.inr (some (.inl 6, 1))), .inl (nI r), .inl (nI k)] (L, zB1, I, J) = some (some (.inl (I (3 + r) k)), (L, zB1, I, J)) := by
  rw [eX6_itemAt, c_hasPlaces hr hs e, cI_some, bX6_itemAt_7, hp_iff.2 (by rw [nI_int (by omega), i1]; omega), if1, zin_nI hr (by omega), zin_nI (show k < 40 by omega) (by omega), zbt_t, zbt_t, ncl (by omega), ncl (by omega)]
theorem c_hear {r s i : Nat} (hr : r < 8) (hs : s ≤ 40) (e : I 12 r = nI s) (hi : i + n ≤ s) (hn12 : n ≤ 12) (q : Int32) : ∃ I', zcall X (d + 5) 35 [.inr (.inr (some (.inl 2, 254))), .inl q, .inr (.inr (some (.inl 6, 1))), .inl (nI r), .inl (nI i), .inl (nI n)] (L, zB1, I, J) = some (none, (L, zB1, I', J)) ∧ I' 254 3 = q ∧ I' 254 2 = nI n ∧ (∀ k, k < n → I' 263 k = I (3 + r) (i + k)) ∧ (∀ a j, a ≠ 263 → ¬ (a = 254 ∧ (j = 2 ∨ j = 3)) → I' a j = I a j) := by
  have e0 : ∀ a j, a ≠ 254 → zup (zup I 254 3 q) 254 2 (nI n) a j = I a j := fun a j h => by rw [zup_ne h, zup_ne h]
  obtain ⟨I1, e1, h1, f1⟩ := zloopR (fun k (s : Nat → Nat → Int32) => zgo X (zcall X (d+4)) none kX2_hear 19 [some (.inr (.inr (some (.inl 2, 254)))), some (.inl (q)), some (.inr (.inr (some (.inl 6, 1)))), some (.inl (nI r)), some (.inl (nI i)), some (.inl (nI n)), some (.inl (nI k))] [] (L, zB1, s, J)) (fun k s => (∀ j, j < k → s 263 j = I (3 + r) (i + j)) ∧ FrM 263 (zup (zup I 254 3 q) 254 2 (nI n)) s) n (fun k s' hk hp => by
    obtain ⟨h1, f1⟩ := hp
    try dsimp only at h1 f1 ⊢
    have e2 : s' 254 2 = nI n := by rw [f1 254 (by omega), zup_at, if_pos ⟨rfl, rfl⟩]
    rw [bX2_hear_19, e2, if_neg (by rw [nle (by omega) (by omega)]; omega), nI_add, c_itemAt (s := s) hr hs (by rw [f1 12 (by omega), e0 _ _ (by omega)]; exact e) (by omega), cI_some, bX2_hear_44, zin_nI (show k < 12 by omega) (by omega), zbt_t, ncl (by omega), nI_1]
    refine ⟨_, rfl, ?_, f1.up⟩
    intro j hj
    rw [zup_at]
    by_cases q : j = k
    · rw [if_pos ⟨rfl, q⟩, q, f1 (3 + r) (by omega), e0 _ _ (by omega)]
    · rw [if_neg (by omega)]; exact h1 j (by omega)) (a := zup (zup I 254 3 q) 254 2 (nI n)) ⟨fun j hj => by omega, FrM.rf _ _⟩
  refine ⟨I1, ?_, ?_, ?_, h1, ?_⟩
  · rw [eX2_hear, eJ9_min_7cf53, if_neg (by show ¬ nI 12 < nI n; rw [nlt (by omega) (by omega)]; omega), cI_some, bX2_hear_13]
    refine (show _ = _ from e1).trans ?_
    try dsimp only
    have e2 : I1 254 2 = nI n := by rw [f1 254 (by omega), zup_at, if_pos ⟨rfl, rfl⟩]
    rw [bX2_hear_19, e2, if_pos (by rw [nle (by omega) (by omega)]; omega)]
  · rw [f1 254 (by omega), zup_at, if_neg (by omega), zup_at, if_pos ⟨rfl, rfl⟩]
  · rw [f1 254 (by omega), zup_at, if_pos ⟨rfl, rfl⟩]
  · intro a j h1 h2
    rw [f1 a h1, zup_at, if_neg (by omega), zup_at, if_neg (by omega)]
theorem c_sup3 (h : CAt I 255 c) (x9 v : Int32) : ∃ I', zcall X (d + 6) 37 [.inr (.inr (some (.inl 2, 254))), .inl 3, .inl x9, .inl v] (L, zB1, I, J) = some (none, (L, zB1, I', J)) ∧ CAt I' 255 (cup c 0 3 v) ∧ Fr 255 I I' := by
  refine ⟨zup I 255 3 v, ?_, h.up (f := 0) (by omega), (Fr.rf 255 I).up (f := 0) (by omega)⟩
  rw [eX2_suppose, if_pos rfl]
theorem c_sup2 (h : CAt I 255 c) (hn : Cn c) {j : Nat} (hj : j < jud c) (v : Int32) : ∃ I', zcall X (d + 6) 37 [.inr (.inr (some (.inl 2, 254))), .inl 2, .inl (nI j), .inl v] (L, zB1, I, J) = some (none, (L, zB1, I', J)) ∧ CAt I' 255 (cup c 1 j v) ∧ Fr 255 I I' := by
  have h4 := hn.2.2.2
  refine ⟨zup I 256 j v, ?_, h.up (f := 1) (by omega), (Fr.rf 255 I).up (f := 1) (by omega)⟩
  rw [eX2_suppose, if_neg (by decide), if_pos rfl, c_isJudge h hn, cI_some, bX2_suppose_29, zin_nI hj (by omega), if1, zin_nI (show j < 4 by omega) (by omega), zbt_t, ncl (by omega)]
theorem c_sup0 (h : CAt I 255 c) (hn : Cn c) (hm : m < men c) (v : Int32) : ∃ I', zcall X (d + 6) 37 [.inr (.inr (some (.inl 2, 254))), .inl 0, .inl (nI m), .inl v] (L, zB1, I, J) = some (none, (L, zB1, I', J)) ∧ CAt I' 255 (cup c 3 m v) ∧ Fr 255 I I' := by
  have h4 := hn.2.1
  refine ⟨zup I 258 m v, ?_, h.up (f := 3) (by omega), (Fr.rf 255 I).up (f := 3) (by omega)⟩
  rw [eX2_suppose, if_neg (by decide), if_neg (by decide), bX2_suppose_45, if_pos rfl, c_isMan h hn, cI_some, bX2_suppose_57, zin_nI hm (by omega), if1, zin_nI (show m < 6 by omega) (by omega), zbt_t, ncl (by omega)]
theorem c_sup1 (h : CAt I 255 c) (hn : Cn c) (hm : m < men c) (v : Int32) : ∃ I', zcall X (d + 6) 37 [.inr (.inr (some (.inl 2, 254))), .inl 1, .inl (nI m), .inl v] (L, zB1, I, J) = some (none, (L, zB1, I', J)) ∧ CAt I' 255 (cup c 7 m v) ∧ Fr 255 I I' := by
  have h4 := hn.2.1
  refine ⟨zup I 262 m v, ?_, h.up (f := 7) (by omega), (Fr.rf 255 I).up (f := 7) (by omega)⟩
  rw [eX2_suppose, if_neg (by decide), if_neg (by decide), bX2_suppose_45, if_neg (by decide), bX2_suppose_73, if_pos rfl, c_isMan h hn, cI_some, bX2_suppose_86, zin_nI hm (by omega), if1, zin_nI (show m < 6 by omega) (by omega), zbt_t, ncl (by omega)]
end FITB
