/-! more of the reference -/
def bcS (set : Int32) : Int32 := zfold 6 0 (fun k a => a + b2i (bt set k))
theorem bc_all : ∀ n < 64, ∀ q : Int32, q = nI n → (((bcS q) = nI (n % 2 + n / 2 % 2 + n / 4 % 2 + n / 8 % 2 + n / 16 % 2 + n / 32 % 2))) := by
  intro n hn q e
  subst e
  revert n
  decide +kernel
section MODEL2
variable {X : Nat → Nat → Int32} {d : Nat} {L : List zK} {I : Nat → Nat → Int32} {J : Nat → Nat → Int64} {r : Nat} {c : Cr}
theorem m_layThen (h : MAt I 287 c) (hn : Cn c) : ∃ I', zcall X (d + 1) 191 [.inr (.inr (some (.inl 9, 283)))] (L, zB1, I, J) = some (none, (L, zB1, I', J)) ∧ MAt I' 289 c ∧ FrM 289 I I' := by
  rw [eX9_layThen]
  have := zloopR (fun k (I : Nat → Nat → Int32) => zgo X (zcall X (d)) none kX9_layThen 2 [some (.inr (.inr (some (.inl 9, 283)))), some (.inl (nI k))] [] (L, zB1, I, J)) (fun k I' => (∀ i, i < k → I' 289 i = I 287 i) ∧ FrM 289 I I') 43 (fun k I1 hk hp => by
    obtain ⟨hc, hf⟩ := hp
    try dsimp only at hc hf ⊢
    rw [bX9_layThen_2, if_neg (by show ¬ nI 43 ≤ nI k; rw [nle (by omega) (by omega)]; omega), zin_nI hk (by omega), zbt_t, zbt_t, ncl (by omega), nI_1]
    refine ⟨_, rfl, ?_, hf.up⟩
    intro i hi
    rw [zup_at]
    by_cases e : i = k
    · rw [if_pos ⟨rfl, e⟩, e, hf 287 (by omega)]
    · rw [if_neg (by omega)]
      exact hc i (by omega)) (a := I) ⟨fun i hi => by omega, FrM.rf 289 I⟩
  obtain ⟨I1, e, hc, hf⟩ := this
  refine ⟨I1, (show _ = _ from e).trans ?_, ?_, hf⟩
  · try dsimp only
    rw [bX9_layThen_2, if_pos (by show nI 43 ≤ nI 43; rw [nle (by omega) (by omega)]; omega)]
  · intro f i hv
    rw [hc _ (umx_mix hn hv).2]
    exact h f i hv
theorem m_trustOf (h : MAt I r c) (hn : Cn c) {q : Int32} (hq : ¬ q = -1000000) : zcall X (d + 2) 189 [.inr (.inr (some (.inr (.int, 43), r))), .inl q] (L, zB1, I, J) = some (some (.inl (ttS c q)), (L, zB1, I, J)) := by
  have h6 := hn.2.1
  have e0 : I r (0 : Int32).toNatClampNeg = nI (men c) := h.men hn
  rw [eX9_trustOf]
  have := zloop (fun j a => zgo X (zcall X (d+1)) (some .int) kX9_trustOf 4 [some (.inr (.inr (some (.inr (.int, 43), r)))), some (.inl (q)), some (.inl (a)), some (.inl (nI j))] [] (L, zB1, I, J)) (fun m a => a + (if c 4 m = q then c 7 m else 0)) 0 (men c) (fun j hj => by
    try dsimp only
    rw [bX9_trustOf_4, show zin 0 43 = true from rfl, zbt_t, e0, if_neg (by rw [nle (by omega) (by omega)]; omega), if_neg hq, m_of1 h hn hj, cI_some, bX9_trustOf_24, bX9_trustOf_28, m_of4 h hn hj, cI_some, bX9_trustOf_34, bX9_trustOf_38, bX9_trustOf_38, nI_1]
    split <;> rfl)
  refine (show _ = _ from this).trans ?_
  try dsimp only
  rw [bX9_trustOf_4, show zin 0 43 = true from rfl, zbt_t, e0, if_pos (by rw [nle (by omega) (by omega)]; omega)]
  rfl
theorem m_trustAll (h : MAt I r c) (hn : Cn c) : zcall X (d + 2) 189 [.inr (.inr (some (.inr (.int, 43), r))), .inl (-1000000)] (L, zB1, I, J) = some (some (.inl (taS c)), (L, zB1, I, J)) := by
  have h6 := hn.2.1
  have e0 : I r (0 : Int32).toNatClampNeg = nI (men c) := h.men hn
  rw [eX9_trustOf]
  have := zloop (fun j a => zgo X (zcall X (d+1)) (some .int) kX9_trustOf 4 [some (.inr (.inr (some (.inr (.int, 43), r)))), some (.inl ((-1000000))), some (.inl (a)), some (.inl (nI j))] [] (L, zB1, I, J)) (fun m a => a + c 7 m) 0 (men c) (fun j hj => by
    try dsimp only
    rw [bX9_trustOf_4, show zin 0 43 = true from rfl, zbt_t, e0, if_neg (by rw [nle (by omega) (by omega)]; omega), if_pos (show (-1000000 : Int32) = -1000000 from rfl), bX9_trustOf_28, m_of4 h hn hj, cI_some, bX9_trustOf_34, bX9_trustOf_38, nI_1])
  refine (show _ = _ from this).trans ?_
  try dsimp only
  rw [bX9_trustOf_4, show zin 0 43 = true from rfl, zbt_t, e0, if_pos (by rw [nle (by omega) (by omega)]; omega)]
  rfl
theorem m_comesAgain (h : MAt I r c) (hn : Cn c) {m : Nat} (hm : m < men c) (j y : Int32) : ∃ I', zcall X (d + 2) 190 [.inr (.inr (some (.inr (.int, 43), r))), .inl (nI m), .inl j, .inl y] (L, zB1, I, J) = some (none, (L, zB1, I', J)) ∧ MAt I' r (agS c m j y) ∧ FrM r I I' := by
  obtain ⟨I1, e1, hc1, hf1⟩ := m_be3 (X := X) (d := d) (L := L) (J := J) h hn hm 0
  obtain ⟨I2, e2, hc2, hf2⟩ := m_be1 (X := X) (d := d) (L := L) (J := J) hc1 (Cn_cup (by omega) hn) (by rw [men_cup (by omega)]; exact hm) j
  obtain ⟨I3, e3, hc3, hf3⟩ := m_be2 (X := X) (d := d) (L := L) (J := J) hc2 (Cn_cup (by omega) (Cn_cup (by omega) hn)) (by rw [men_cup (by omega), men_cup (by omega)]; exact hm) y
  rw [eX9_comesAgain, e1, cV_some, bX9_comesAgain_7, e2, cV_some, bX9_comesAgain_14, e3, cV_some, bX9_comesAgain_21]
  exact ⟨I3, rfl, hc3, (hf1.tr hf2).tr hf3⟩
theorem m_bits (set : Int32) : zcall X (d + 1) 178 [.inl set] (L, zB1, I, J) = some (some (.inl (bcS set)), (L, zB1, I, J)) := by
  rw [eX9_bits]
  have := zloop (fun j a => zgo X (zcall X (d)) (some .int) kX9_bits 4 [some (.inl (set)), some (.inl (a)), some (.inl (nI j))] [] (L, zB1, I, J)) (fun k a => a + b2i (bt set k)) 0 6 (fun j hj => by
    try dsimp only
    rw [bX9_bits_4, if_neg (by show ¬ nI 6 ≤ nI j; rw [nle (by omega) (by omega)]; omega), bt_get _ (show j < 32 by omega), nI_1])
  refine (show _ = _ from this).trans ?_
  try dsimp only
  rw [bX9_bits_4, if_pos (by show nI 6 ≤ nI 6; rw [nle (by omega) (by omega)]; omega)]
  rfl
theorem m_has (set : Int32) {k : Nat} (hk : k < 32) : zcall X (d + 1) 179 [.inl set, .inl (nI k)] (L, zB1, I, J) = some (some (.inl (b2i (bt set k))), (L, zB1, I, J)) := by
  rw [eX9_has, bt_get _ hk]
  cases bt set k with
  | true => rfl
  | false => rfl
theorem m_dueTo (h : MAt I 287 c) (hn : Cn c) {m : Nat} (hm : m < men c) : zcall X (d + 2) 211 [.inr (.inr (some (.inl 9, 283))), .inl (nI m)] (L, zB1, I, J) = some (some (.inl (due c m)), (L, zB1, I, J)) := by
  rw [eX9_dueTo, m_of3 h hn hm, cI_some, bX9_dueTo_9, bX9_dueTo_26, m_of4 h hn hm, cI_some, bX9_dueTo_35, m_of3 h hn hm, cI_some, bX9_dueTo_22]
  unfold due housed
  by_cases h1 : c 5 m = 1
  · rw [if_pos h1, decide_eq_true (Or.inl h1), if_pos rfl]
  · rw [if_neg h1]
    by_cases h2 : c 5 m = 3
    · rw [if_pos h2, decide_eq_true (Or.inr h2), if_pos rfl, bX9_dueTo_26, m_of4 h hn hm, cI_some, bX9_dueTo_35]
    · rw [if_neg h2, decide_eq_false (by rintro (q | q) <;> contradiction), if_neg (by decide)]
theorem m_share33 (h : MAt I 287 c) (hv : Iv c) {man : Nat} (hman : man < men c) (n : Int32) : zgo X (zcall X (d+2)) (some .int) kX9_share 33 [some (.inr (.inr (some (.inl 9, 283)))), some (.inl (nI man)), some (.inl (n)), some (.inl (0)), some (.inl (0)), none, none] [] (L, zB1, I, J) = some (some (.inl (shS c man n)), (L, zB1, I, J)) := by
  have hn := hv.1
  have h6 := hn.2.1
  have e0 : I 287 (0 : Int32).toNatClampNeg = nI (men c) := h.men hn
  have l1 := zloop (fun j a => zgo X (zcall X (d+2)) (some .int) kX9_share 33 [some (.inr (.inr (some (.inl 9, 283)))), some (.inl (nI man)), some (.inl (n)), some (.inl (a)), some (.inl (nI j)), none, none] [] (L, zB1, I, J)) (fun m a => a + due c m) 0 (men c) (fun j hj => by
    try dsimp only
    rw [bX9_share_33, show zin 0 43 = true from rfl, zbt_t, e0, if_neg (by rw [nle (by omega) (by omega)]; omega), m_dueTo h hn hj, cI_some, bX9_share_51, nI_1])
  refine (show _ = _ from l1).trans ?_
  try dsimp only
  have eA : zfold (men c) 0 (fun m a => a + due c m) = allS c (men c) := rfl
  rw [eA, bX9_share_33, show zin 0 43 = true from rfl, zbt_t, e0, if_pos (by rw [nle (by omega) (by omega)]; omega)]
  unfold shS
  by_cases hA : allS c (men c) = 0
  · rw [if_pos hA, if_pos hA]
  · rw [if_neg hA, if_neg hA]
    have l2 := zloop (fun j (s : Int32 × Int32) => zgo X (zcall X (d+2)) (some .int) kX9_share 74 [some (.inr (.inr (some (.inl 9, 283)))), some (.inl (nI man)), some (.inl (n)), some (.inl (allS c (men c))), some (.inl (s.1)), some (.inl (s.2)), some (.inl (nI j))] [] (L, zB1, I, J)) (fun m s => (s.1 - n * due c m / allS c (men c), s.2 + (if m < man ∧ 0 < due c m then 1 else 0))) (n, 0) (men c) (fun j hj => by
      try dsimp only
      rw [bX9_share_74, show zin 0 43 = true from rfl, zbt_t, e0, if_neg (by rw [nle (by omega) (by omega)]; omega), m_dueTo h hn hj, cI_some, bX9_share_94, if_neg hA, m_dueTo h hn hj, cI_some, bX9_share_114, bX9_share_121, bX9_share_122, bX9_share_122, nI_1]
      by_cases hjm : man ≤ j
      · rw [if_pos (by rw [nle (by omega) (by omega)]; exact hjm), if_neg (by omega)]
      · rw [if_neg (by rw [nle (by omega) (by omega)]; exact hjm)]
        by_cases h0 : due c j ≤ 0
        · rw [if_pos h0, if_neg (by rintro ⟨_, q⟩; rw [i32_lt] at q; rw [i32_le] at h0; omega)]
        · rw [if_neg h0, if_pos ⟨by omega, by rw [i32_lt]; rw [i32_le] at h0; omega⟩])
    refine (show _ = _ from l2).trans ?_
    try dsimp only
    have eS : zfold (men c) (n, 0) (fun m (s : Int32 × Int32) => (s.1 - n * due c m / allS c (men c), s.2 + (if m < man ∧ 0 < due c m then 1 else 0))) = shK c man n (allS c (men c)) (men c) := rfl
    rw [eS, bX9_share_74, show zin 0 43 = true from rfl, zbt_t, e0, if_pos (by rw [nle (by omega) (by omega)]; omega), m_dueTo h hn hman, cI_some, bX9_share_137, if_neg hA, m_dueTo h hn hman, cI_some, bX9_share_145]
    by_cases h0 : due c man ≤ 0
    · rw [if_pos h0, if_neg (by rintro ⟨q, _⟩; rw [i32_lt] at q; rw [i32_le] at h0; omega)]
    · rw [if_neg h0]
      have hp : (0 : Int32) < due c man := by rw [i32_lt]; rw [i32_le] at h0; omega
      by_cases hl : (shK c man n (allS c (men c)) (men c)).2 < (shK c man n (allS c (men c)) (men c)).1
      · rw [if_neg (by rw [i32_le]; rw [i32_lt] at hl; omega), if_pos ⟨hp, hl⟩]
      · rw [if_pos (by rw [i32_le]; rw [i32_lt] at hl; omega), if_neg (fun q => hl q.2)]
theorem o2i_none {a : Option Nat} (h : ∀ i, a = some i → i < 6) : (o2i a = -1000000) = (a = none) := by
  apply propext
  cases a with
  | none => exact ⟨fun _ => rfl, fun _ => rfl⟩
  | some i =>
    have hh : ∀ i < 6, ¬ nI i = -1000000 := by decide +kernel
    exact ⟨fun q => absurd q (hh i (h i rfl)), fun q => by cases q⟩
theorem m_closest32 (h : MAt I 287 c) (hn : Cn c) (q w : Int32) : zgo X (zcall X (d+1)) (some .int) kX9_closest 32 [some (.inr (.inr (some (.inl 9, 283)))), some (.inl (q)), some (.inl (w)), some (.inl ((-1000000))), some (.inl (0)), none] [] (L, zB1, I, J) = some (some (.inl ((match clK c q (men c) with | none => -1000000 | some i => if w = 0 then nI i else c 7 i))), (L, zB1, I, J)) := by
  have h6 := hn.2.1
  have e0 : I 287 (0 : Int32).toNatClampNeg = nI (men c) := h.men hn
  have := zloopR (fun j (s : Int32 × Option zV) => zgo X (zcall X (d+1)) (some .int) kX9_closest 32 [some (.inr (.inr (some (.inl 9, 283)))), some (.inl (q)), some (.inl (w)), some (.inl (s.1)), some (.inl (nI j)), s.2] [] (L, zB1, I, J)) (fun k s => s.1 = o2i (clK c q k)) (men c) (fun k s hk hp => by
    obtain ⟨a, u⟩ := s
    have hp : a = o2i (clK c q k) := hp
    subst hp
    try dsimp only
    have hlt := clK_lt c q k
    have hno := o2i_none (a := clK c q k) (fun i hi => by have := hlt i hi; omega)
    have e : clK c q (k + 1) = if c 4 k = q then (match clK c q k with | none => some k | some i => if c 7 k ≤ c 7 i then some i else some k) else clK c q k := rfl
    rw [e, bX9_closest_32, show zin 0 43 = true from rfl, zbt_t, e0, if_neg (by rw [nle (by omega) (by omega)]; omega), m_of1 h hn hk, cI_some, bX9_closest_53, bX9_closest_62, bX9_closest_62]
    by_cases h1 : c 4 k = q
    · rw [if_pos h1, if_pos h1, if_neg (show ¬ (1 : Int32) = 0 by decide)]
      cases hc : clK c q k with
      | none =>
        rw [if_pos (show o2i none = -1000000 from rfl), bX9_closest_97, nI_1]
        exact ⟨(_, _), rfl, rfl⟩
      | some i =>
        have hi := hlt i hc
        rw [hc] at hno
        rw [if_neg (by rw [hno]; exact fun q => by cases q), m_of4 h hn hk, cI_some, bX9_closest_85, show o2i (some i) = nI i from rfl, m_of4 h hn (show i < men c by omega), cI_some, bX9_closest_94, bX9_closest_97, bX9_closest_102, nI_1]
        try dsimp only
        split
        · exact ⟨(_, _), rfl, rfl⟩
        · exact ⟨(_, _), rfl, rfl⟩
    · rw [if_neg h1, if_neg h1, if_pos (show (0 : Int32) = 0 from rfl), bX9_closest_102, nI_1]
      exact ⟨(_, _), rfl, rfl⟩) (a := ((-1000000 : Int32), none)) rfl
  obtain ⟨⟨a, u⟩, e, hp⟩ := this
  refine (show _ = _ from e).trans ?_
  have hp : a = o2i (clK c q (men c)) := hp
  subst hp
  try dsimp only
  have hlt := clK_lt c q (men c)
  have hno := o2i_none (a := clK c q (men c)) (fun i hi => by have := hlt i hi; omega)
  rw [bX9_closest_32, show zin 0 43 = true from rfl, zbt_t, e0, if_pos (by rw [nle (by omega) (by omega)]; omega), bX9_closest_133]
  cases hc : clK c q (men c) with
  | none => rw [if_pos (show o2i none = -1000000 from rfl)]; rfl
  | some i =>
    have hi := hlt i hc
    rw [hc] at hno
    rw [if_neg (by rw [hno]; exact fun q => by cases q), show o2i (some i) = nI i from rfl, m_of4 h hn hi, cI_some, bX9_closest_133]
    try dsimp only
    split <;> rfl
end MODEL2
