/-! the class's circuit: moving in -/
def anyB (P : Nat → Bool) : Nat → Bool
  | 0 => false
  | n + 1 => anyB P n || P n
theorem anyB_iff (P : Nat → Bool) : ∀ n, anyB P n = true ↔ ∃ m, m < n ∧ P m = true
  | 0 => ⟨fun h => (Bool.false_ne_true h).elim, fun ⟨m, h, _⟩ => by omega⟩
  | n + 1 => by
    unfold anyB
    rw [Bool.or_eq_true, anyB_iff P n]
    constructor
    · rintro (⟨m, h, hp⟩ | h)
      · exact ⟨m, by omega, hp⟩
      · exact ⟨n, by omega, h⟩
    · rintro ⟨m, h, hp⟩
      by_cases e : m = n
      · exact Or.inr (e ▸ hp)
      · exact Or.inl ⟨m, by omega, hp⟩
theorem anyB_congr {P Q : Nat → Bool} : ∀ n, (∀ m, m < n → P m = Q m) → anyB P n = anyB Q n
  | 0, _ => rfl
  | n + 1, h => by
    unfold anyB
    rw [anyB_congr n (fun m hm => h m (by omega)), h n (by omega)]
/-- is a man housed by the judge, of the first k? does one wait for him? -/
def houB (c : Cr) (j : Int32) (k : Nat) : Bool := anyB (fun m => housed c m && decide (c 4 m = j)) k
def waiB (c : Cr) (j : Int32) (k : Nat) : Bool := anyB (fun m => decide (c 5 m = 0) && decide (c 4 m = j)) k
/-- the man moves in -/
def mv (c : Cr) (m : Nat) : Bool := decide (c 5 m = 0) && (zin (c 4 m) (jud c) && !(houB c (c 4 m) (men c) || waiB c (c 4 m) m))
/-- the first k men have moved in, those who can -/
def movK (c : Cr) (k : Nat) : Cr := fun f i => if f = 5 ∧ i < k ∧ mv c i = true then 1 else c f i
def movS (c : Cr) : Cr := movK c (men c)
theorem movK_ne {c : Cr} {k f i : Nat} (h : f ≠ 5) : movK c k f i = c f i := if_neg (fun q => h q.1)
theorem movK_ge {c : Cr} {k f i : Nat} (h : k ≤ i) : movK c k f i = c f i := if_neg (fun q => by omega)
theorem movK_n (c : Cr) (k : Nat) : men (movK c k) = men c ∧ jud (movK c k) = jud c ∧ (Cn c → Cn (movK c k)) := by
  have h1 : men (movK c k) = men c := by unfold men; rw [movK_ne (by omega)]
  have h2 : jud (movK c k) = jud c := by unfold jud; rw [movK_ne (by omega)]
  refine ⟨h1, h2, ?_⟩
  unfold Cn
  rw [h1, h2, movK_ne (by omega), movK_ne (by omega)]
  exact id
theorem movK_z (c : Cr) : movK c 0 = c := by
  funext f i
  exact if_neg (fun q => by omega)
theorem movK_t {c : Cr} {k : Nat} (h : mv c k = true) : movK c (k + 1) = cup (movK c k) 5 k 1 := by
  funext f i
  unfold movK cup
  by_cases e : f = 5 ∧ i = k
  · rw [if_pos e, if_pos ⟨e.1, by omega, e.2 ▸ h⟩]
  · rw [if_neg e]
    try dsimp only
    by_cases e2 : f = 5 ∧ i < k ∧ mv c i = true
    · rw [if_pos e2, if_pos ⟨e2.1, by omega, e2.2.2⟩]
    · rw [if_neg e2, if_neg]
      rintro ⟨q1, q2, q3⟩
      exact e2 ⟨q1, by omega, q3⟩
theorem movK_f {c : Cr} {k : Nat} (h : mv c k = false) : movK c (k + 1) = movK c k := by
  funext f i
  unfold movK
  by_cases e2 : f = 5 ∧ i < k ∧ mv c i = true
  · rw [if_pos e2, if_pos ⟨e2.1, by omega, e2.2.2⟩]
  · rw [if_neg e2, if_neg]
    rintro ⟨q1, q2, q3⟩
    by_cases e3 : i = k
    · rw [e3, h] at q3; cases q3
    · exact e2 ⟨q1, by omega, q3⟩
section CMOVE
variable {X : Nat → Nat → Int32} {d : Nat} {L : List zK} {I : Nat → Nat → Int32} {J : Nat → Nat → Int64} {b : Nat} {c : Cr}
theorem c_moveIn1 (h : CAt I b c) (hn : Cn c) : ∃ t, zgo X (zcall X (d+2)) none kX1_moveIn 4 [some (.inr (.inr (some (.inl 1, b)))), some (.inl (0)), some (.inl (0)), none] [] (L, zB1, I, J) = zgo X (zcall X (d+2)) none kX1_moveIn 52 [some (.inr (.inr (some (.inl 1, b)))), some (.inl (t)), some (.inl (0)), none] [] (L, zB1, I, J) ∧ ∀ j, j < jud c → bt t j = houB c (nI j) (men c) := by
  have h6 := hn.2.1
  have h4 := hn.2.2.2
  have := zloopR (fun k (t : Int32) => zgo X (zcall X (d+2)) none kX1_moveIn 4 [some (.inr (.inr (some (.inl 1, b)))), some (.inl (t)), some (.inl (nI k)), none] [] (L, zB1, I, J)) (fun k t => ∀ j, j < jud c → bt t j = houB c (nI j) k) (men c) (fun k t hk hp => by
    try dsimp only
    rw [bX1_moveIn_4, h.men hn, if_neg (by rw [nle (by omega) (by omega)]; omega), c_isHoused h hn hk, cI_some, bX1_moveIn_17, nI_1]
    have hs : ∀ j, houB c (nI j) (k + 1) = (houB c (nI j) k || (housed c k && decide (c 4 k = nI j))) := fun j => rfl
    cases hh : housed c k with
    | false =>
      have hh2 : decide (c 5 k = 1 ∨ c 5 k = 3) = false := hh
      rw [hh2, if_pos (show b2i false = 0 from rfl)]
      refine ⟨t, rfl, fun j hj => ?_⟩
      rw [hs, hh, Bool.false_and, Bool.or_false]
      exact hp j hj
    | true =>
      have hh2 : decide (c 5 k = 1 ∨ c 5 k = 3) = true := hh
      rw [hh2, if_neg (show ¬ b2i true = 0 by decide), zin_nI (show k < 6 by omega) (by omega), zbt_t, ncl (by omega), h.m hk 4 (by omega) (by omega), c_isJudge h hn, cI_some, bX1_moveIn_30, nI_1]
      cases hz : zin (c 4 k) (jud c) with
      | false =>
        rw [if_pos (show b2i false = 0 from rfl)]
        refine ⟨t, rfl, fun j hj => ?_⟩
        have : decide (c 4 k = nI j) = false := by
          rw [decide_eq_false_iff_not]
          intro e
          rw [e, zin_nI hj (by omega)] at hz
          cases hz
        rw [hs, this, Bool.and_false, Bool.or_false]
        exact hp j hj
      | true =>
        obtain ⟨q, hq, eq⟩ := zin_of hz
        rw [if_neg (show ¬ b2i true = 0 by decide), zin_nI (show k < 6 by omega) (by omega), zbt_t, ncl (by omega), h.m hk 4 (by omega) (by omega), eq]
        refine ⟨_, rfl, fun j hj => ?_⟩
        rw [hs, hh, eq, bt_or, bt_one q (by omega) j (by omega), hp j hj, Bool.true_and]
        congr 1
        rw [decide_eq_decide, neq (by omega) (by omega)]) (a := (0 : Int32)) (fun j hj => bt_0 j)
  obtain ⟨t, e, hp⟩ := this
  refine ⟨t, (show _ = _ from e).trans ?_, hp⟩
  try dsimp only
  rw [bX1_moveIn_4, h.men hn, if_pos (by rw [nle (by omega) (by omega)]; omega)]
theorem c_moveIn2 (h : CAt I b c) (hn : Cn c) (t : Int32) (ht : ∀ j, j < jud c → bt t j = houB c (nI j) (men c)) : ∃ I', zgo X (zcall X (d+2)) none kX1_moveIn 52 [some (.inr (.inr (some (.inl 1, b)))), some (.inl (t)), some (.inl (0)), none] [] (L, zB1, I, J) = some (none, (L, zB1, I', J)) ∧ CAt I' b (movS c) ∧ Fr b I I' := by
  have h6 := hn.2.1
  have h4 := hn.2.2.2
  have := zloopR (fun k (s : Int32 × Option zV × (Nat → Nat → Int32)) => zgo X (zcall X (d+2)) none kX1_moveIn 52 [some (.inr (.inr (some (.inl 1, b)))), some (.inl (s.1)), some (.inl (nI k)), s.2.1] [] (L, zB1, s.2.2, J)) (fun k s => CAt s.2.2 b (movK c k) ∧ Fr b I s.2.2 ∧ ∀ j, j < jud c → bt s.1 j = (houB c (nI j) (men c) || waiB c (nI j) k)) (men c) (fun k s hk hp => by
    obtain ⟨t, u, I1⟩ := s
    obtain ⟨hc, hf, hb⟩ := hp
    try dsimp only at hc hf hb ⊢
    have hN := movK_n c k
    have hn1 := hN.2.2 hn
    have hk1 : k < men (movK c k) := by rw [hN.1]; exact hk
    rw [bX1_moveIn_52, hc.men hn1, hN.1, if_neg (by rw [nle (by omega) (by omega)]; omega), zin_nI (show k < 6 by omega) (by omega), zbt_t, zbt_t, ncl (by omega), hc.m hk1 5 (by omega) (by omega), hc.m hk1 4 (by omega) (by omega), movK_ge (by omega), movK_ge (by omega), c_isJudge hc hn1, hN.2.1, cI_some]
    have hs : ∀ j, waiB c (nI j) (k + 1) = (waiB c (nI j) k || (decide (c 5 k = 0) && decide (c 4 k = nI j))) := fun j => rfl
    have stay : mv c k = false → (∀ j, j < jud c → c 5 k = 0 → c 4 k = nI j → (houB c (nI j) (men c) || waiB c (nI j) k) = true) → ∃ y9 : Int32 × Option zV × (Nat → Nat → Int32), zgo X (zcall X (d+2)) none kX1_moveIn 87 [some (.inr (.inr (some (.inl 1, b)))), some (.inl (t)), some (.inl (nI k)), u] [.inl 0] (L, zB1, I1, J) = zgo X (zcall X (d+2)) none kX1_moveIn 52 [some (.inr (.inr (some (.inl 1, b)))), some (.inl (y9.1)), some (.inl (nI (k + 1))), y9.2.1] [] (L, zB1, y9.2.2, J) ∧ CAt y9.2.2 b (movK c (k + 1)) ∧ Fr b I y9.2.2 ∧ ∀ j, j < jud c → bt y9.1 j = (houB c (nI j) (men c) || waiB c (nI j) (k + 1)) := by
      intro hm hx
      rw [bX1_moveIn_87, if_pos rfl, nI_1]
      refine ⟨(t, _, I1), rfl, ?_, hf, ?_⟩
      · rw [movK_f hm]; exact hc
      · intro j hj
        rw [hs, hb j hj]
        have := hx j hj
        cases e5 : decide (c 5 k = 0) with
        | false => rw [Bool.false_and, Bool.or_false]
        | true =>
          cases e4 : decide (c 4 k = nI j) with
          | false => rw [Bool.and_false, Bool.or_false]
          | true =>
            have := this (of_decide_eq_true e5) (of_decide_eq_true e4)
            rw [← Bool.or_assoc, this]
            rfl
    by_cases h0 : c 5 k = 0
    · rw [if_pos h0, bX1_moveIn_79, bX1_moveIn_86]
      cases hz : zin (c 4 k) (jud c) with
      | false =>
        rw [if_pos (show b2i false = 0 from rfl)]
        refine stay ?_ ?_
        · unfold mv; rw [hz, Bool.false_and, Bool.and_false]
        · intro j hj _ e
          rw [e, zin_nI hj (by omega)] at hz
          cases hz
      | true =>
        obtain ⟨q, hq, eq⟩ := zin_of hz
        rw [if_neg (show ¬ b2i true = 0 by decide), bX1_moveIn_87, if_neg (by decide), zin_nI (show k < 6 by omega) (by omega), zbt_t, zbt_t, zbt_t, ncl (by omega), hc.m hk1 4 (by omega) (by omega), movK_ge (by omega), eq, bt_get _ (show q < 32 by omega), nI_1, hb q hq]
        have e4 : zup I1 (b + 5) k 1 (b + 4) k = nI q := by
          rw [zup_at, if_neg (by omega), hc.m hk1 4 (by omega) (by omega), movK_ge (by omega), eq]
        rw [e4]
        have hmv : mv c k = !(houB c (nI q) (men c) || waiB c (nI q) k) := by
          unfold mv
          rw [hz, eq, decide_eq_true h0, Bool.true_and, Bool.true_and]
        cases hT : houB c (nI q) (men c) || waiB c (nI q) k with
        | false =>
          rw [if_pos (show b2i false = 0 from rfl)]
          rw [hT] at hmv
          refine ⟨(_, _, _), rfl, ?_, ?_, ?_⟩
          · rw [movK_t hmv]
            exact hc.up (by omega)
          · exact hf.up (by omega)
          · intro j hj
            rw [hs, bt_or, hb j hj, bt_one q (by omega) j (by omega), decide_eq_true h0, eq, Bool.true_and, Bool.or_assoc]
            congr 2
            rw [decide_eq_decide, neq (by omega) (by omega)]
        | true =>
          rw [if_neg (show ¬ b2i true = 0 by decide)]
          rw [hT] at hmv
          refine ⟨(t, _, I1), rfl, ?_, hf, ?_⟩
          · rw [movK_f hmv]; exact hc
          · intro j hj
            rw [hs, hb j hj, decide_eq_true h0, Bool.true_and, eq]
            by_cases ej : j = q
            · rw [ej, ← Bool.or_assoc, hT]; rfl
            · rw [decide_eq_false (by rw [neq (by omega) (by omega)]; omega), Bool.or_false]
    · rw [if_neg h0, bX1_moveIn_86]
      refine stay ?_ ?_
      · unfold mv; rw [decide_eq_false h0, Bool.false_and]
      · intro j hj e
        exact absurd e h0) (a := (t, none, I)) ⟨by rw [movK_z]; exact h, Fr.rf b I, fun j hj => by rw [ht j hj]; exact (Bool.or_false _).symm⟩
  obtain ⟨⟨t1, u1, I1⟩, e, hc, hf, _⟩ := this
  refine ⟨I1, (show _ = _ from e).trans ?_, hc, hf⟩
  try dsimp only
  try dsimp only at hc
  have hN := movK_n c (men c)
  rw [bX1_moveIn_52, hc.men (hN.2.2 hn), hN.1, if_pos (by rw [nle (by omega) (by omega)]; omega)]
theorem c_moveIn (h : CAt I b c) (hn : Cn c) : ∃ I', zcall X (d + 3) 21 [.inr (.inr (some (.inl 1, b)))] (L, zB1, I, J) = some (none, (L, zB1, I', J)) ∧ CAt I' b (movS c) ∧ Fr b I I' := by
  obtain ⟨t, e, ht⟩ := c_moveIn1 (X := X) (d := d) (L := L) (J := J) h hn
  obtain ⟨I', e2, h2⟩ := c_moveIn2 (X := X) (d := d) (L := L) (J := J) h hn t ht
  rw [eX1_moveIn, e, e2]
  exact ⟨I', rfl, h2⟩
end CMOVE
