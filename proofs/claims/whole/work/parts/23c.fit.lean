/-! who, severes, likes -/
theorem Iv_kind {c : Cr} (hv : Iv c) {m : Nat} {y : Int32} (hy : rg y 1 5) : Iv (cup c 3 m y) := by
  refine Iv_one (m := m) hv (fun f i h => cup_ne (by omega)) (fun hm => ?_)
  have hI := hv.2.2.2 m hm
  unfold Im serving
  rw [jud_cup (by omega), cup_eq, cup_ne (show ¬ (4 = 3 ∧ m = m) by omega), cup_ne (show ¬ (5 = 3 ∧ m = m) by omega), cup_ne (show ¬ (6 = 3 ∧ m = m) by omega), cup_ne (show ¬ (7 = 3 ∧ m = m) by omega)]
  exact ⟨hy, hI.2⟩
theorem Iv_trust {c : Cr} (hv : Iv c) {m : Nat} {y : Int32} (hy : rg y 0 99) : Iv (cup c 7 m y) := by
  refine Iv_one (m := m) hv (fun f i h => cup_ne (by omega)) (fun hm => ?_)
  have hI := hv.2.2.2 m hm
  unfold Im serving
  rw [jud_cup (by omega), cup_eq, cup_ne (show ¬ (3 = 7 ∧ m = m) by omega), cup_ne (show ¬ (4 = 7 ∧ m = m) by omega), cup_ne (show ¬ (5 = 7 ∧ m = m) by omega), cup_ne (show ¬ (6 = 7 ∧ m = m) by omega)]
  exact ⟨hI.1, hI.2.1, hI.2.2.1, hI.2.2.2.1, hy, hI.2.2.2.2.2⟩
theorem trK_s (P : Nat → Bool) (lo j : Nat) : trK P lo (j + 1) = trS P lo j (trK P lo j) := rfl
theorem trS_t {P : Nat → Bool} {i : Nat} (lo : Nat) (s : Int32 × Int32 × Int32) (h : P i = true) : trS P lo i s = (s.1 ||| (1 <<< (nI (lo + i) &&& 31)), s.2.1 + 1, if s.2.1 = 0 then nI (lo + i) else s.2.2) := if_pos h
theorem trS_f {P : Nat → Bool} {i : Nat} (lo : Nat) (s : Int32 × Int32 × Int32) (h : P i = false) : trS P lo i s = s := if_neg (by rw [h]; decide)
section FITC
variable {X : Nat → Nat → Int32} {d : Nat} {L : List zK} {I : Nat → Nat → Int32} {J : Nat → Nat → Int64} {c : Cr} {m n r i : Nat} {w : Nat → Int32}
theorem m_who0 (hM : MAt I 287 c) (hv : Iv c) (hm : m < men c) (hp : 40 * r + i + n ≤ 320) (hw : ∀ k, k < n → I 286 (40 * r + i + k) = w k) : ∃ I', zgo X (zcall X (d+6)) (some .int) kX9_who 77 [some (.inr (.inr (some (.inl 9, 283)))), some (.inl (nI m)), some (.inl (0)), some (.inl (nI r)), some (.inl (nI i)), some (.inl (nI n)), some (.inl (0)), some (.inl (0)), some (.inl (0)), some (.inl ((-1000000))), some (.inl (1))] [] (L, zB1, I, J) = some (some (.inl (trK (fun k => fitB (cup c 3 m (nI (1 + k))) m w n) 1 5).1), (L, zB1, I', J)) ∧ FrM 289 I I' := by
  have hn := hv.1
  have ei : (40 * nI r) + nI i = nI (40 * r + i) := by
    show nI 40 * nI r + nI i = _
    rw [nI_mul, nI_add]
  generalize hP : (fun k => fitB (cup c 3 m (nI (1 + k))) m w n) = P
  have hP' : ∀ k, fitB (cup c 3 m (nI (1 + k))) m w n = P k := fun k => by rw [← hP]
  obtain ⟨⟨t, I1⟩, e1, et, f1⟩ := zloopR (fun k (s : (Int32 × Int32 × Int32) × (Nat → Nat → Int32)) => zgo X (zcall X (d+6)) (some .int) kX9_who 77 [some (.inr (.inr (some (.inl 9, 283)))), some (.inl (nI m)), some (.inl (0)), some (.inl (nI r)), some (.inl (nI i)), some (.inl (nI n)), some (.inl (0)), some (.inl (s.1.1)), some (.inl (s.1.2.1)), some (.inl (s.1.2.2)), some (.inl (nI (1 + k)))] [] (L, zB1, s.2, J)) (fun k s => s.1 = trK P 1 k ∧ FrM 289 I s.2) 5 (fun k s hk hp' => by
    obtain ⟨t, I1⟩ := s
    obtain ⟨rfl, f1⟩ := hp'
    try dsimp only at f1 ⊢
    have hM1 : MAt I1 287 c := f1.MAt hM (by omega)
    obtain ⟨I2, e2, h2, f2⟩ := m_layThen (X := X) (d := d + 5) (L := L) (J := J) hM1 hn
    obtain ⟨I3, e3, h3, f3⟩ := m_be0 (X := X) (d := d + 5) (L := L) (J := J) h2 hn hm (nI (1 + k))
    have hv3 : Iv (cup c 3 m (nI (1 + k))) := Iv_kind hv ⟨by rw [nI_int (by omega)]; omega, by rw [nI_int (by omega)]; omega⟩
    have f13 := (f1.tr f2).tr f3
    obtain ⟨I4, e4, f4⟩ := m_isSo (X := X) (d := d + 2) (L := L) (J := J) (w := w) h3 hv3 (by rw [men_cup (by omega)]; exact hm) hp (fun k hk => by rw [f13 286 (by omega)]; exact hw k hk)
    rw [hP' k] at e4
    rw [bX9_who_77, if_pos rfl, bX9_who_89, if_neg (by show ¬ nI 5 < nI (1 + k); rw [nlt (by omega) (by omega)]; omega), e2, cV_some, bX9_who_96, if_pos rfl, e3, cV_some, bX9_who_115, ei, e4, cI_some, bX9_who_129, if_pos rfl, bX9_who_146, bX9_who_161, bX9_who_161, nI_1]
    cases hb : P k with
    | false =>
      rw [if0]
      exact ⟨(trK P 1 k, I4), rfl, by rw [trK_s, trS_f 1 _ hb], f13.tr f4⟩
    | true =>
      rw [if1]
      refine ⟨(trK P 1 (k + 1), I4), ?_, rfl, f13.tr f4⟩
      rw [trK_s, trS_t 1 _ hb]
      try dsimp only
      by_cases hc : (trK P 1 k).2.1 = 0
      · rw [if_pos hc, if_pos hc]; rfl
      · rw [if_neg hc, if_neg hc]; rfl) (a := (trK P 1 0, I)) ⟨rfl, FrM.rf _ _⟩
  try dsimp only at et f1
  refine ⟨I1, (show _ = _ from e1).trans ?_, f1⟩
  try dsimp only
  rw [bX9_who_77, if_pos rfl, bX9_who_89, if_pos (by show nI 5 < nI (1 + 5); rw [nlt (by omega) (by omega)]; omega), if_pos rfl, et]
theorem m_who1 (hM : MAt I 287 c) (hv : Iv c) (hm : m < men c) (hp : 40 * r + i + n ≤ 320) (hw : ∀ k, k < n → I 286 (40 * r + i + k) = w k) {v2 : Int32} (h2 : ¬ v2 = 0) : ∃ I', zgo X (zcall X (d+6)) (some .int) kX9_who 77 [some (.inr (.inr (some (.inl 9, 283)))), some (.inl (nI m)), some (.inl (v2)), some (.inl (nI r)), some (.inl (nI i)), some (.inl (nI n)), some (.inl (0)), some (.inl (0)), some (.inl (0)), some (.inl ((-1000000))), some (.inl (0))] [] (L, zB1, I, J) = (if v2 = 1 then some (some (.inl (trK (fun k => fitB (cup c 7 m (nI (0 + k))) m w n) 0 100).2.1), (L, zB1, I', J)) else some (some (.inl (trK (fun k => fitB (cup c 7 m (nI (0 + k))) m w n) 0 100).2.2), (L, zB1, I', J))) ∧ FrM 289 I I' := by
  have hn := hv.1
  have ei : (40 * nI r) + nI i = nI (40 * r + i) := by
    show nI 40 * nI r + nI i = _
    rw [nI_mul, nI_add]
  generalize hP : (fun k => fitB (cup c 7 m (nI (0 + k))) m w n) = P
  have hP' : ∀ k, fitB (cup c 7 m (nI (0 + k))) m w n = P k := fun k => by rw [← hP]
  obtain ⟨⟨b, t, I1⟩, e1, et, f1⟩ := zloopR (fun k (s : Int32 × (Int32 × Int32) × (Nat → Nat → Int32)) => zgo X (zcall X (d+6)) (some .int) kX9_who 77 [some (.inr (.inr (some (.inl 9, 283)))), some (.inl (nI m)), some (.inl (v2)), some (.inl (nI r)), some (.inl (nI i)), some (.inl (nI n)), some (.inl (0)), some (.inl (s.1)), some (.inl (s.2.1.1)), some (.inl (s.2.1.2)), some (.inl (nI (0 + k)))] [] (L, zB1, s.2.2, J)) (fun k s => s.2.1 = (trK P 0 k).2 ∧ FrM 289 I s.2.2) 100 (fun k s hk hp' => by
    obtain ⟨b, t, I1⟩ := s
    obtain ⟨rfl, f1⟩ := hp'
    try dsimp only at f1 ⊢
    have hM1 : MAt I1 287 c := f1.MAt hM (by omega)
    obtain ⟨I2, e2, h2', f2⟩ := m_layThen (X := X) (d := d + 5) (L := L) (J := J) hM1 hn
    obtain ⟨I3, e3, h3, f3⟩ := m_be4 (X := X) (d := d + 5) (L := L) (J := J) h2' hn hm (nI (0 + k))
    have hv3 : Iv (cup c 7 m (nI (0 + k))) := Iv_trust hv ⟨by rw [nI_int (by omega)]; omega, by rw [nI_int (by omega)]; omega⟩
    have f13 := (f1.tr f2).tr f3
    obtain ⟨I4, e4, f4⟩ := m_isSo (X := X) (d := d + 2) (L := L) (J := J) (w := w) h3 hv3 (by rw [men_cup (by omega)]; exact hm) hp (fun k hk => by rw [f13 286 (by omega)]; exact hw k hk)
    rw [hP' k] at e4
    rw [bX9_who_77, if_neg h2, bX9_who_89, if_neg (by show ¬ nI 99 < nI (0 + k); rw [nlt (by omega) (by omega)]; omega), e2, cV_some, bX9_who_96, if_neg h2, e3, cV_some, bX9_who_115, ei, e4, cI_some, bX9_who_129, if_neg h2, bX9_who_146, bX9_who_161, bX9_who_161, nI_1]
    cases hb : P k with
    | false =>
      rw [if0]
      exact ⟨(b, (trK P 0 k).2, I4), rfl, by rw [trK_s, trS_f 0 _ hb], f13.tr f4⟩
    | true =>
      rw [if1]
      refine ⟨(b ||| 0, (trK P 0 (k + 1)).2, I4), ?_, rfl, f13.tr f4⟩
      rw [trK_s, trS_t 0 _ hb]
      try dsimp only
      by_cases hc : (trK P 0 k).2.1 = 0
      · rw [if_pos hc, if_pos hc]; rfl
      · rw [if_neg hc, if_neg hc]; rfl) (a := (0, (trK P 0 0).2, I)) ⟨rfl, FrM.rf _ _⟩
  try dsimp only at et f1
  refine ⟨I1, (show _ = _ from e1).trans ?_, f1⟩
  try dsimp only
  rw [bX9_who_77, if_neg h2, bX9_who_89, if_pos (by show nI 99 < nI (0 + 100); rw [nlt (by omega) (by omega)]; omega), if_neg h2, et]
theorem m_sev {j : Nat} (hj : j < jud c) (hM : MAt I 287 c) (hv : Iv c) (hm : m < men c) (hp : 40 * r + i + n ≤ 320) (hw : ∀ k, k < n → I 286 (40 * r + i + k) = w k) : ∃ I', zgo X (zcall X (d+6)) (some .int) kX9_severes 58 [some (.inr (.inr (some (.inl 9, 283)))), some (.inl (nI j)), some (.inl (nI m)), some (.inl (nI r)), some (.inl (nI i)), some (.inl (nI n)), some (.inl (0)), some (.inl (0)), some (.inl (0))] [] (L, zB1, I, J) = some (some (.inl (trK (fun k => fitB (cup c 1 j (nI (0 + k))) m w n) 0 10).1), (L, zB1, I', J)) ∧ FrM 289 I I' := by
  have hn := hv.1
  have h4 := hn.2.2.2
  have ei : (40 * nI r) + nI i = nI (40 * r + i) := by
    show nI 40 * nI r + nI i = _
    rw [nI_mul, nI_add]
  generalize hP : (fun k => fitB (cup c 1 j (nI (0 + k))) m w n) = P
  have hP' : ∀ k, fitB (cup c 1 j (nI (0 + k))) m w n = P k := fun k => by rw [← hP]
  obtain ⟨⟨t, I1⟩, e1, et, f1⟩ := zloopR (fun k (s : Int32 × (Nat → Nat → Int32)) => zgo X (zcall X (d+6)) (some .int) kX9_severes 58 [some (.inr (.inr (some (.inl 9, 283)))), some (.inl (nI j)), some (.inl (nI m)), some (.inl (nI r)), some (.inl (nI i)), some (.inl (nI n)), some (.inl (0)), some (.inl (s.1)), some (.inl (nI (0 + k)))] [] (L, zB1, s.2, J)) (fun k s => s.1 = (trK P 0 k).1 ∧ FrM 289 I s.2) 10 (fun k s hk hp' => by
    obtain ⟨t, I1⟩ := s
    obtain ⟨rfl, f1⟩ := hp'
    try dsimp only at f1 ⊢
    have hM1 : MAt I1 287 c := f1.MAt hM (by omega)
    obtain ⟨I2, e2, h2, f2⟩ := m_layThen (X := X) (d := d + 5) (L := L) (J := J) hM1 hn
    have h3 : MAt (zup I2 289 (5 + 2 * j) (nI (0 + k))) 289 (cup c 1 j (nI (0 + k))) := h2.up hn (f := 1) (by omega) (vj hj (by omega) (by omega))
    have hv3 : Iv (cup c 1 j (nI (0 + k))) := Iv_gate hv (Or.inl rfl) ⟨fun _ => ⟨by rw [nI_int (by omega)]; omega, by rw [nI_int (by omega)]; omega⟩, fun q => by omega⟩
    have f13 : FrM 289 I (zup I2 289 (5 + 2 * j) (nI (0 + k))) := (f1.tr f2).up
    obtain ⟨I4, e4, f4⟩ := m_isSo (X := X) (d := d + 2) (L := L) (J := J) (w := w) h3 hv3 (by rw [men_cup (by omega)]; exact hm) hp (fun k hk => by rw [f13 286 (by omega)]; exact hw k hk)
    rw [hP' k] at e4
    rw [bX9_severes_58, if_neg (by show ¬ nI 9 < nI (0 + k); rw [nlt (by omega) (by omega)]; omega), e2, cV_some, bX9_severes_69, ix2, zin_nI (show 5 + 2 * j < 43 by omega) (by omega), zbt_t, ncl (by omega), ei, e4, cI_some, bX9_severes_97, bX9_severes_108, bX9_severes_108, nI_1]
    cases hb : P k with
    | false =>
      rw [if0]
      refine ⟨((trK P 0 k).1 ||| 0, I4), rfl, ?_, f13.tr f4⟩
      rw [trK_s, trS_f 0 _ hb]
      exact Int32.or_zero
    | true =>
      rw [if1]
      exact ⟨((trK P 0 (k + 1)).1, I4), by rw [trK_s, trS_t 0 _ hb]; rfl, rfl, f13.tr f4⟩) (a := ((trK P 0 0).1, I)) ⟨rfl, FrM.rf _ _⟩
  try dsimp only at et f1
  refine ⟨I1, (show _ = _ from e1).trans ?_, f1⟩
  try dsimp only
  rw [bX9_severes_58, if_pos (by show nI 9 < nI (0 + 10); rw [nlt (by omega) (by omega)]; omega), et]
theorem m_lik (v2 : Int32) (hM : MAt I 287 c) (hv : Iv c) (hm : m < men c) (hp : 40 * r + i + n ≤ 320) (hw : ∀ k, k < n → I 286 (40 * r + i + k) = w k) : ∃ I', zgo X (zcall X (d+6)) (some .int) kX9_likes 64 [some (.inr (.inr (some (.inl 9, 283)))), some (.inl (nI m)), some (.inl (v2)), some (.inl (nI r)), some (.inl (nI i)), some (.inl (nI n)), some (.inl (0)), some (.inl (0)), some (.inl ((-1000000))), some (.inl (1))] [] (L, zB1, I, J) = (if v2 = 0 then some (some (.inl (trK (fun k => fitB (cup c 0 3 (nI (1 + k))) m w n) 1 60).2.1), (L, zB1, I', J)) else some (some (.inl (trK (fun k => fitB (cup c 0 3 (nI (1 + k))) m w n) 1 60).2.2), (L, zB1, I', J))) ∧ FrM 289 I I' := by
  have hn := hv.1
  have ei : (40 * nI r) + nI i = nI (40 * r + i) := by
    show nI 40 * nI r + nI i = _
    rw [nI_mul, nI_add]
  generalize hP : (fun k => fitB (cup c 0 3 (nI (1 + k))) m w n) = P
  have hP' : ∀ k, fitB (cup c 0 3 (nI (1 + k))) m w n = P k := fun k => by rw [← hP]
  obtain ⟨⟨t, I1⟩, e1, et, f1⟩ := zloopR (fun k (s : (Int32 × Int32) × (Nat → Nat → Int32)) => zgo X (zcall X (d+6)) (some .int) kX9_likes 64 [some (.inr (.inr (some (.inl 9, 283)))), some (.inl (nI m)), some (.inl (v2)), some (.inl (nI r)), some (.inl (nI i)), some (.inl (nI n)), some (.inl (0)), some (.inl (s.1.1)), some (.inl (s.1.2)), some (.inl (nI (1 + k)))] [] (L, zB1, s.2, J)) (fun k s => s.1 = (trK P 1 k).2 ∧ FrM 289 I s.2) 60 (fun k s hk hp' => by
    obtain ⟨t, I1⟩ := s
    obtain ⟨rfl, f1⟩ := hp'
    try dsimp only at f1 ⊢
    have hM1 : MAt I1 287 c := f1.MAt hM (by omega)
    obtain ⟨I2, e2, h2, f2⟩ := m_layThen (X := X) (d := d + 5) (L := L) (J := J) hM1 hn
    have h3 : MAt (zup I2 289 3 (nI (1 + k))) 289 (cup c 0 3 (nI (1 + k))) := h2.up hn (f := 0) (i := 3) (by omega) (v0 (by omega))
    have hv3 : Iv (cup c 0 3 (nI (1 + k))) := Iv_year hv (by omega)
    have f13 : FrM 289 I (zup I2 289 3 (nI (1 + k))) := (f1.tr f2).up
    obtain ⟨I4, e4, f4⟩ := m_isSo (X := X) (d := d + 2) (L := L) (J := J) (w := w) h3 hv3 (by rw [men_cup (by omega)]; exact hm) hp (fun k hk => by rw [f13 286 (by omega)]; exact hw k hk)
    rw [hP' k] at e4
    rw [bX9_likes_64, if_neg (by show ¬ nI 60 < nI (1 + k); rw [nlt (by omega) (by omega)]; omega), e2, cV_some, bX9_likes_75, show zin 3 43 = true from by decide, zbt_t, show (3 : Int32).toNatClampNeg = 3 from rfl, ei, e4, cI_some, bX9_likes_97, bX9_likes_112, bX9_likes_112, nI_1]
    cases hb : P k with
    | false =>
      rw [if0]
      exact ⟨((trK P 1 k).2, I4), rfl, by rw [trK_s, trS_f 1 _ hb], f13.tr f4⟩
    | true =>
      rw [if1]
      refine ⟨((trK P 1 (k + 1)).2, I4), ?_, rfl, f13.tr f4⟩
      rw [trK_s, trS_t 1 _ hb]
      try dsimp only
      by_cases hc : (trK P 1 k).2.1 = 0
      · rw [if_pos hc, if_pos hc]; rfl
      · rw [if_neg hc, if_neg hc]; rfl) (a := ((trK P 1 0).2, I)) ⟨rfl, FrM.rf _ _⟩
  try dsimp only at et f1
  refine ⟨I1, (show _ = _ from e1).trans ?_, f1⟩
  try dsimp only
  rw [bX9_likes_64, if_pos (by show nI 60 < nI (1 + 60); rw [nlt (by omega) (by omega)]; omega), et]
end FITC
