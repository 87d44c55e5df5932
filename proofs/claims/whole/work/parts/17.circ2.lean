/-! more of a circuit, on both sides -/
def agS (c : Cr) (m : Nat) (j y : Int32) : Cr := cup (cup (cup c 5 m 0) 4 m j) 6 m y
def letK (set : Int32) (c : Cr) (k : Nat) : Cr := zfold k c (fun m c => if bt set m = true then cup (cup c 5 m 2) 6 m 0 else c)
theorem letK_n (set : Int32) (c : Cr) : ∀ k, men (letK set c k) = men c ∧ jud (letK set c k) = jud c ∧ (Cn c → Cn (letK set c k))
  | 0 => ⟨rfl, rfl, id⟩
  | k + 1 => by
    have ih := letK_n set c k
    have e : letK set c (k + 1) = if bt set k = true then cup (cup (letK set c k) 5 k 2) 6 k 0 else letK set c k := rfl
    rw [e]
    split
    · rw [men_cup (by omega), men_cup (by omega), jud_cup (by omega), jud_cup (by omega)]
      exact ⟨ih.1, ih.2.1, fun hn => Cn_cup (by omega) (Cn_cup (by omega) (ih.2.2 hn))⟩
    · exact ih
def dnS (c : Cr) (q : Int32) : Int32 := zfold (men c) 0 (fun m a => a + (if c 4 m = q then (if serving c m = true then 0 else 1) else 0))
def o2i : Option Nat → Int32
  | none => -1000000
  | some k => nI k
def clK (c : Cr) (q : Int32) (k : Nat) : Option Nat := zfold k none (fun m a => if c 4 m = q then (match a with | none => some m | some i => if c 7 m ≤ c 7 i then some i else some m) else a)
theorem clK_lt (c : Cr) (q : Int32) : ∀ k i, clK c q k = some i → i < k
  | 0, i, h => by cases h
  | k + 1, i, h => by
    have ih := clK_lt c q k
    have e : clK c q (k + 1) = if c 4 k = q then (match clK c q k with | none => some k | some i => if c 7 k ≤ c 7 i then some i else some k) else clK c q k := rfl
    rw [e] at h
    split at h
    · cases hc : clK c q k with
      | none => rw [hc] at h; cases h; omega
      | some w =>
        rw [hc] at h
        have := ih w hc
        try dsimp only at h
        split at h
        · cases h; omega
        · cases h; omega
    · have := ih i h; omega
def due (c : Cr) (m : Nat) : Int32 := if housed c m = true then c 7 m else 0
def allS (c : Cr) (k : Nat) : Int32 := zfold k 0 (fun m a => a + due c m)
def shK (c : Cr) (man : Nat) (n all : Int32) (k : Nat) : Int32 × Int32 := zfold k (n, 0) (fun m s => (s.1 - n * due c m / all, s.2 + (if m < man ∧ 0 < due c m then 1 else 0)))
def shS (c : Cr) (man : Nat) (n : Int32) : Int32 := if allS c (men c) = 0 then 0 else n * due c man / allS c (men c) + (if 0 < due c man ∧ (shK c man n (allS c (men c)) (men c)).2 < (shK c man n (allS c (men c)) (men c)).1 then 1 else 0)
theorem due_rg {c : Cr} (hv : Iv c) {m : Nat} (hm : m < men c) : rg (due c m) 0 99 := by
  unfold due
  split
  · exact (hv.2.2.2 m hm).2.2.2.2.1
  · exact ⟨by rw [i0]; omega, by rw [i0]; omega⟩
theorem allS_rg {c : Cr} (hv : Iv c) : ∀ k, k ≤ men c → rg (allS c k) 0 (99 * (k : Int))
  | 0, _ => ⟨by show (0 : Int) ≤ (0 : Int32).toInt; rw [i0]; omega, by show (0 : Int32).toInt ≤ _; rw [i0]; omega⟩
  | k + 1, hk => by
    have ih := allS_rg hv k (by omega)
    have hd := due_rg hv (m := k) (by omega)
    have h6 := hv.1.2.1
    have e : allS c (k + 1) = allS c k + due c k := rfl
    obtain ⟨a1, a2⟩ := ih
    obtain ⟨b1, b2⟩ := hd
    unfold rg
    rw [e, Jvm.Kit.i32_add (by omega) (by omega)]
    omega
theorem taS_rg {c : Cr} (hv : Iv c) : rg (taS c) 0 594 := by
  have h6 := hv.1.2.1
  have : ∀ k, k ≤ men c → rg (zfold k 0 (fun m a => a + c 7 m)) 0 (99 * (k : Int)) := by
    intro k
    induction k with
    | zero => intro _; exact ⟨by show (0 : Int) ≤ (0 : Int32).toInt; rw [i0]; omega, by show (0 : Int32).toInt ≤ _; rw [i0]; omega⟩
    | succ k ih =>
      intro hk
      obtain ⟨a1, a2⟩ := ih (by omega)
      obtain ⟨b1, b2⟩ := (hv.2.2.2 k (by omega)).2.2.2.2.1
      have e : zfold (k + 1) 0 (fun m a => a + c 7 m) = zfold k 0 (fun m a => a + c 7 m) + c 7 k := rfl
      unfold rg
      rw [e, Jvm.Kit.i32_add (by omega) (by omega)]
      omega
  have h := this (men c) (by omega)
  exact ⟨h.1, by have := h.2; show (zfold (men c) 0 (fun m a => a + c 7 m)).toInt ≤ 594; omega⟩
theorem ttS_rg {c : Cr} (hv : Iv c) (q : Int32) : rg (ttS c q) 0 594 := by
  have h6 := hv.1.2.1
  have : ∀ k, k ≤ men c → rg (zfold k 0 (fun m a => a + (if c 4 m = q then c 7 m else 0))) 0 (99 * (k : Int)) := by
    intro k
    induction k with
    | zero => intro _; exact ⟨by show (0 : Int) ≤ (0 : Int32).toInt; rw [i0]; omega, by show (0 : Int32).toInt ≤ _; rw [i0]; omega⟩
    | succ k ih =>
      intro hk
      obtain ⟨a1, a2⟩ := ih (by omega)
      obtain ⟨b1, b2⟩ : rg (if c 4 k = q then c 7 k else 0) 0 99 := by
        split
        · exact (hv.2.2.2 k (by omega)).2.2.2.2.1
        · exact ⟨by rw [i0]; omega, by rw [i0]; omega⟩
      have e : zfold (k + 1) 0 (fun m a => a + (if c 4 m = q then c 7 m else 0)) = zfold k 0 (fun m a => a + (if c 4 m = q then c 7 m else 0)) + (if c 4 k = q then c 7 k else 0) := rfl
      unfold rg
      rw [e, Jvm.Kit.i32_add (by omega) (by omega)]
      omega
  have h := this (men c) (by omega)
  exact ⟨h.1, by have := h.2; show (zfold (men c) 0 (fun m a => a + (if c 4 m = q then c 7 m else 0))).toInt ≤ 594; omega⟩
section CIRC2
variable {X : Nat → Nat → Int32} {d : Nat} {L : List zK} {I : Nat → Nat → Int32} {J : Nat → Nat → Int64} {b : Nat} {c : Cr}
theorem c_tryAgain (h : CAt I b c) (hn : Cn c) {m j : Nat} (hm : m < men c) (hj : j < jud c) (y : Int32) : ∃ I', zcall X (d + 2) 24 [.inr (.inr (some (.inl 1, b))), .inl (nI m), .inl (nI j), .inl y] (L, zB1, I, J) = some (none, (L, zB1, I', J)) ∧ CAt I' b (agS c m (nI j) y) ∧ Fr b I I' := by
  have h6 := hn.2.1
  have h4 := hn.2.2.2
  rw [eX1_tryAgain, c_isMan h hn, cI_some, bX1_tryAgain_5, zin_nI hm (by omega), if_neg (by decide), c_isJudge h hn, cI_some, bX1_tryAgain_13, zin_nI hj (by omega), if_neg (by decide), zin_nI (show m < 6 by omega) (by omega), zbt_t, zbt_t, zbt_t, ncl (by omega)]
  exact ⟨_, rfl, ((h.up (by omega)).up (by omega)).up (by omega), (((Fr.rf b I).up (by omega)).up (by omega)).up (by omega)⟩
theorem c_letOff (h : CAt I b c) (hn : Cn c) (set : Int32) : ∃ I', zcall X (d + 1) 25 [.inr (.inr (some (.inl 1, b))), .inl set] (L, zB1, I, J) = some (none, (L, zB1, I', J)) ∧ CAt I' b (letK set c (men c)) ∧ Fr b I I' := by
  have h6 := hn.2.1
  rw [eX1_letOff]
  have := zloopR (fun k (I : Nat → Nat → Int32) => zgo X (zcall X (d)) none kX1_letOff 2 [some (.inr (.inr (some (.inl 1, b)))), some (.inl (set)), some (.inl (nI k))] [] (L, zB1, I, J)) (fun k I' => CAt I' b (letK set c k) ∧ Fr b I I') (men c) (fun k I1 hk hp => by
    obtain ⟨hc, hf⟩ := hp
    try dsimp only at hc hf ⊢
    have hN := letK_n set c k
    have e : letK set c (k + 1) = if bt set k = true then cup (cup (letK set c k) 5 k 2) 6 k 0 else letK set c k := rfl
    rw [e, bX1_letOff_2, hc.men (hN.2.2 hn), hN.1, if_neg (by rw [nle (by omega) (by omega)]; omega), bt_get _ (show k < 32 by omega), zin_nI (show k < 6 by omega) (by omega), zbt_t, zbt_t, ncl (by omega), nI_1]
    cases bt set k with
    | true =>
      rw [if_pos (show b2i true = 1 from rfl), if_pos rfl]
      exact ⟨_, rfl, (hc.up (by omega)).up (by omega), (hf.up (by omega)).up (by omega)⟩
    | false =>
      rw [if_neg (show ¬ b2i false = 1 by decide), if_neg (by decide)]
      exact ⟨I1, rfl, hc, hf⟩) (a := I) ⟨h, Fr.rf b I⟩
  obtain ⟨I1, e, hc, hf⟩ := this
  refine ⟨I1, (show _ = _ from e).trans ?_, hc, hf⟩
  try dsimp only
  have hN := letK_n set c (men c)
  rw [bX1_letOff_2, hc.men (hN.2.2 hn), hN.1, if_pos (by rw [nle (by omega) (by omega)]; omega)]
theorem c_doneWith (h : CAt I b c) (hn : Cn c) (q : Int32) : zcall X (d + 3) 31 [.inr (.inr (some (.inl 1, b))), .inl q] (L, zB1, I, J) = some (some (.inl (dnS c q)), (L, zB1, I, J)) := by
  have h6 := hn.2.1
  rw [eX1_doneWith]
  have := zloop (fun j a => zgo X (zcall X (d+2)) (some .int) kX1_doneWith 4 [some (.inr (.inr (some (.inl 1, b)))), some (.inl (q)), some (.inl (a)), some (.inl (nI j))] [] (L, zB1, I, J)) (fun m a => a + (if c 4 m = q then (if serving c m = true then 0 else 1) else 0)) 0 (men c) (fun j hj => by
    try dsimp only
    rw [bX1_doneWith_4, h.men hn, if_neg (by rw [nle (by omega) (by omega)]; omega), zin_nI (show j < 6 by omega) (by omega), zbt_t, ncl (by omega), h.m hj 4 (by omega) (by omega)]
    by_cases h1 : c 4 j = q
    · rw [if_pos h1, if_pos h1, c_isServing h hn hj, cI_some, bX1_doneWith_28]
      unfold serving
      cases decide (c 5 j = 0 ∨ c 5 j = 1) with
      | true => rw [if_neg (by decide), if_pos rfl, bX1_doneWith_35, bX1_doneWith_36, nI_1]
      | false => rw [if_pos (show b2i false = 0 from rfl), if_neg (by decide), bX1_doneWith_36, nI_1]
    · rw [if_neg h1, if_neg h1, bX1_doneWith_35, bX1_doneWith_36, nI_1])
  refine (show _ = _ from this).trans ?_
  try dsimp only
  rw [bX1_doneWith_4, h.men hn, if_pos (by rw [nle (by omega) (by omega)]; omega)]
  rfl
theorem zin_o {c : Cr} (hn : Cn c) {a : Option Nat} (h : ∀ i, a = some i → i < men c) : zin (o2i a) (men c) = a.isSome := by
  have h6 := hn.2.1
  cases a with
  | none =>
    have : ∀ k < 7, zin (-1000000) k = false := by decide +kernel
    exact this (men c) (by omega)
  | some i => exact zin_nI (h i rfl) (by omega)
theorem c_closestTo (h : CAt I b c) (hn : Cn c) (q : Int32) : zcall X (d + 2) 32 [.inr (.inr (some (.inl 1, b))), .inl q] (L, zB1, I, J) = some (some (.inl (o2i (clK c q (men c)))), (L, zB1, I, J)) := by
  have h6 := hn.2.1
  rw [eX1_closestTo]
  have := zloopR (fun j (a : Int32) => zgo X (zcall X (d+1)) (some .int) kX1_closestTo 5 [some (.inr (.inr (some (.inl 1, b)))), some (.inl (q)), some (.inl (a)), some (.inl (nI j))] [] (L, zB1, I, J)) (fun k a => a = o2i (clK c q k)) (men c) (fun k a hk hp => by
    try dsimp only
    have hp : a = o2i (clK c q k) := hp
    subst hp
    have hlt := clK_lt c q k
    have e : clK c q (k + 1) = if c 4 k = q then (match clK c q k with | none => some k | some i => if c 7 k ≤ c 7 i then some i else some k) else clK c q k := rfl
    rw [e, bX1_closestTo_5, h.men hn, if_neg (by rw [nle (by omega) (by omega)]; omega), zin_nI (show k < 6 by omega) (by omega), zbt_t, ncl (by omega), h.m hk 4 (by omega) (by omega)]
    by_cases h1 : c 4 k = q
    · rw [if_pos h1, if_pos h1, c_isMan h hn, cI_some, bX1_closestTo_28, zin_o hn (fun i hi => by have := hlt i hi; omega), bX1_closestTo_46]
      cases hc : clK c q k with
      | none =>
        rw [if_pos (show b2i (none : Option Nat).isSome = 0 from rfl), nI_1]
        exact ⟨_, rfl, rfl⟩
      | some i =>
        have hi := hlt i hc
        rw [if_neg (show ¬ b2i (some i).isSome = 0 from (by decide : ¬ b2i true = 0)), zin_nI (show k < 6 by omega) (by omega), zbt_t, show o2i (some i) = nI i from rfl, zin_nI (show i < 6 by omega) (by omega), zbt_t, ncl (show k < 2 ^ 31 by omega), ncl (show i < 2 ^ 31 by omega), h.m hk 7 (by omega) (by omega), h.m (show i < men c by omega) 7 (by omega) (by omega), nI_1]
        try dsimp only
        split
        · exact ⟨_, rfl, rfl⟩
        · exact ⟨_, rfl, rfl⟩
    · rw [if_neg h1, if_neg h1, nI_1]
      exact ⟨_, rfl, rfl⟩) (a := (-1000000 : Int32)) rfl
  obtain ⟨a, e, hp⟩ := this
  refine (show _ = _ from e).trans ?_
  try dsimp only
  rw [bX1_closestTo_5, h.men hn, if_pos (by rw [nle (by omega) (by omega)]; omega), hp]
theorem i32_zdiv (x9 : Int32) : (0 : Int32) / x9 = 0 := by
  apply Int32.toInt_inj.mp
  rw [Jvm.Kit.i32_div (by rw [i0]; omega), i0, Int.zero_tdiv]
theorem c_beansFor (h : CAt I b c) (hv : Iv c) {man : Nat} (hman : man < men c) (n : Int32) : zcall X (d + 3) 33 [.inr (.inr (some (.inl 1, b))), .inl (nI man), .inl n] (L, zB1, I, J) = some (some (.inl (shS c man n)), (L, zB1, I, J)) := by
  have hn := hv.1
  have h6 := hn.2.1
  rw [eX1_beansFor]
  have l1 := zloop (fun j a => zgo X (zcall X (d+2)) (some .int) kX1_beansFor 5 [some (.inr (.inr (some (.inl 1, b)))), some (.inl (nI man)), some (.inl (n)), some (.inl (a)), some (.inl (nI j)), none, none] [] (L, zB1, I, J)) (fun m a => a + due c m) 0 (men c) (fun j hj => by
    try dsimp only
    rw [bX1_beansFor_5, h.men hn, if_neg (by rw [nle (by omega) (by omega)]; omega), c_isHoused h hn hj, cI_some, bX1_beansFor_21, bX1_beansFor_35, zin_nI (show j < 6 by omega) (by omega), zbt_t, bX1_beansFor_35, ncl (by omega), h.m hj 7 (by omega) (by omega), nI_1]
    unfold due housed
    cases decide (c 5 j = 1 ∨ c 5 j = 3) with
    | true => rw [if_neg (by decide), if_pos rfl]
    | false => rw [if_pos (show b2i false = 0 from rfl), if_neg (by decide)])
  refine (show _ = _ from l1).trans ?_
  try dsimp only
  have eA : zfold (men c) 0 (fun m a => a + due c m) = allS c (men c) := rfl
  rw [eA, bX1_beansFor_5, h.men hn, if_pos (by rw [nle (by omega) (by omega)]; omega), c_isHoused h hn hman, cI_some, bX1_beansFor_52, zin_nI (show man < 6 by omega) (by omega), zbt_t, ncl (by omega), h.m hman 7 (by omega) (by omega)]
  obtain ⟨a1, a2⟩ := allS_rg hv (men c) (by omega)
  unfold shS
  by_cases hA : allS c (men c) = 0
  · rw [if_pos (by rw [hA]; decide), if_pos hA]
  · have hA2 : 0 < (allS c (men c)).toInt := by
      rcases Int.lt_or_le 0 (allS c (men c)).toInt with q | q
      · exact q
      · exact absurd (Int32.toInt_inj.mp (by rw [i0]; omega)) hA
    rw [if_neg (by rw [i32_le, i0]; omega), if_neg hA]
    have hz : n * 0 / allS c (men c) = 0 := by rw [Int32.mul_zero, i32_zdiv]
    by_cases hh : housed c man = true
    · have hh' : decide (c 5 man = 1 ∨ c 5 man = 3) = true := hh
      rw [hh', if_neg (show ¬ b2i true = 0 by decide)]
      have ed : due c man = c 7 man := by unfold due; rw [if_pos hh]
      have hr := (hv.2.2.2 man hman).2.2.2.2.1
      by_cases ht : c 7 man = 0
      · rw [if_pos ht, ed, ht, hz, if_neg (by rintro ⟨q, _⟩; exact absurd q (by decide))]
        rfl
      · have hp : (0 : Int32) < due c man := by
          rw [ed, i32_lt, i0]
          have := hr.1
          rcases Int.lt_or_le 0 (c 7 man).toInt with q | q
          · exact q
          · exact absurd (Int32.toInt_inj.mp (by rw [i0]; omega)) ht
        rw [if_neg ht]
        have l2 := zloop (fun j (s : Int32 × Int32) => zgo X (zcall X (d+2)) (some .int) kX1_beansFor 75 [some (.inr (.inr (some (.inl 1, b)))), some (.inl (nI man)), some (.inl (n)), some (.inl (allS c (men c))), some (.inl (s.1)), some (.inl (s.2)), some (.inl (nI j))] [] (L, zB1, I, J)) (fun m s => (s.1 - n * due c m / allS c (men c), s.2 + (if m < man ∧ 0 < due c m then 1 else 0))) (n, 0) (men c) (fun j hj => by
          try dsimp only
          have hrj := (hv.2.2.2 j hj).2.2.2.2.1
          rw [bX1_beansFor_75, h.men hn, if_neg (by rw [nle (by omega) (by omega)]; omega), c_isHoused h hn hj, cI_some, bX1_beansFor_90, zin_nI (show j < 6 by omega) (by omega), zbt_t, zbt_t, ncl (by omega), h.m hj 7 (by omega) (by omega), nI_1]
          by_cases hhj : housed c j = true
          · have hh' : decide (c 5 j = 1 ∨ c 5 j = 3) = true := hhj
            have edj : due c j = c 7 j := by unfold due; rw [if_pos hhj]
            rw [hh', if_neg (show ¬ b2i true = 0 by decide), edj]
            by_cases h0 : c 7 j ≤ 0
            · have e0 : c 7 j = 0 := Int32.toInt_inj.mp (by have := hrj.1; rw [i32_le, i0] at h0; rw [i0]; omega)
              rw [if_pos h0, e0, hz, if_neg (by rintro ⟨_, q⟩; exact absurd q (by decide)), Int32.sub_zero, Int32.add_zero]
            · rw [if_neg h0, if_neg hA]
              have hgt : 0 < c 7 j := by rw [i32_lt]; rw [i32_le] at h0; omega
              by_cases hjm : man ≤ j
              · rw [if_pos (by rw [nle (by omega) (by omega)]; exact hjm), bX1_beansFor_132, if_neg (by omega), nI_1]
              · rw [if_neg (by rw [nle (by omega) (by omega)]; exact hjm), bX1_beansFor_132, if_pos ⟨by omega, hgt⟩, nI_1]
          · have hf : housed c j = false := by cases q : housed c j with | true => exact absurd q hhj | false => rfl
            have hh' : decide (c 5 j = 1 ∨ c 5 j = 3) = false := hf
            have edj : due c j = 0 := by unfold due; rw [if_neg hhj]
            rw [hh', if_pos (show b2i false = 0 from rfl), edj, hz, if_neg (by rintro ⟨_, q⟩; exact absurd q (by decide)), Int32.sub_zero, Int32.add_zero])
        refine (show _ = _ from l2).trans ?_
        try dsimp only
        have eS : zfold (men c) (n, 0) (fun m (s : Int32 × Int32) => (s.1 - n * due c m / allS c (men c), s.2 + (if m < man ∧ 0 < due c m then 1 else 0))) = shK c man n (allS c (men c)) (men c) := rfl
        rw [eS, bX1_beansFor_75, h.men hn, if_pos (by rw [nle (by omega) (by omega)]; omega), zin_nI (show man < 6 by omega) (by omega), zbt_t, ncl (by omega), h.m hman 7 (by omega) (by omega), if_neg hA, ed]
        rw [ed] at hp
        by_cases hl : (shK c man n (allS c (men c)) (men c)).2 < (shK c man n (allS c (men c)) (men c)).1
        · rw [if_neg (by rw [i32_le]; rw [i32_lt] at hl; omega), if_pos ⟨hp, hl⟩]
        · rw [if_pos (by rw [i32_le]; rw [i32_lt] at hl; omega), if_neg (fun q => hl q.2)]
    · have hf : housed c man = false := by cases q : housed c man with | true => exact absurd q hh | false => rfl
      have hh' : decide (c 5 man = 1 ∨ c 5 man = 3) = false := hf
      have ed : due c man = 0 := by unfold due; rw [if_neg hh]
      rw [hh', if_pos (show b2i false = 0 from rfl), ed, hz, if_neg (by rintro ⟨q, _⟩; exact absurd q (by decide))]
      rfl
end CIRC2
