/-! acts: what is kept of the past -/
def PC (I : Nat → Nat → Int32) (n o : Nat) (P : Nat → Cr) : Prop := n ≤ 24 ∧ o < 24 ∧ I 31 2 = nI n ∧ I 31 1 = nI o ∧ ∀ k, k < n → Cn (P k) ∧ CAt I (33 + 8 * ((o + k) % 24)) (P k)
def PM (I : Nat → Nat → Int32) (n : Nat) (P : Nat → Cr) : Prop := n ≤ 24 ∧ I 283 9 = nI n ∧ ∀ k, k < n → Cn (P k) ∧ MAtO I 290 (43 * k) (P k)
def SC (I : Nat → Nat → Int32) (n o : Nat) (P : Nat → Cr) (c : Cr) : Prop := PC I n o P ∧ CAt I 13 c ∧ Iv c
def SM (I : Nat → Nat → Int32) (n : Nat) (P : Nat → Cr) (c : Cr) : Prop := PM I n P ∧ MAt I 287 c ∧ Iv c
def FC (I I' : Nat → Nat → Int32) : Prop := ∀ a i, ¬ (13 ≤ a ∧ a ≤ 20) → ¬ (31 ≤ a ∧ a ≤ 224) → I' a i = I a i
def FM (I I' : Nat → Nat → Int32) : Prop := ∀ a i, ¬ (a = 283 ∧ (i = 0 ∨ i = 9)) → a ≠ 287 → a ≠ 290 → I' a i = I a i
theorem FC.tr {I I1 I2 : Nat → Nat → Int32} (h : FC I I1) (h2 : FC I1 I2) : FC I I2 := fun a i k1 k2 => (h2 a i k1 k2).trans (h a i k1 k2)
theorem FM.tr {I I1 I2 : Nat → Nat → Int32} (h : FM I I1) (h2 : FM I1 I2) : FM I I2 := fun a i k1 k2 k3 => (h2 a i k1 k2 k3).trans (h a i k1 k2 k3)
theorem FC.rf (I : Nat → Nat → Int32) : FC I I := fun _ _ _ _ => rfl
theorem FM.rf (I : Nat → Nat → Int32) : FM I I := fun _ _ _ _ _ => rfl
theorem FM.th (I : Nat → Nat → Int32) : FM I (zup I 283 0 0) := fun a i k1 k2 k3 => by rw [zup_at, if_neg (by omega)]
def kpN (n : Nat) : Nat := if n < 24 then n + 1 else 24
def kpP (n : Nat) (P : Nat → Cr) (c : Cr) (k : Nat) : Cr := if n < 24 then (if k = n then c else P k) else (if k = 23 then c else P (k + 1))
theorem kp_Iv {n : Nat} {P : Nat → Cr} {c : Cr} (hn : n ≤ 24) (hP : ∀ k, k < n → Iv (P k)) (hc : Iv c) : kpN n ≤ 24 ∧ ∀ k, k < kpN n → Iv (kpP n P c k) := by
  unfold kpN kpP
  by_cases h : n < 24
  · rw [if_pos h]
    refine ⟨by omega, fun k hk => ?_⟩
    rw [if_pos h]
    split
    · exact hc
    · exact hP k (by omega)
  · rw [if_neg h]
    refine ⟨by omega, fun k hk => ?_⟩
    rw [if_neg h]
    split
    · exact hc
    · exact hP (k + 1) (by omega)
theorem xor24 {k : Nat} (hk : k < 64) : (0 : Int32) ≤ nI k ^^^ 24 := by
  revert hk; revert k
  decide +kernel
theorem rem24 {k : Nat} (hk : k < 64) : nI k - nI k / 24 * 24 = nI (k % 24) := by
  revert hk; revert k
  decide +kernel
section ACTS
variable {X : Nat → Nat → Int32} {d : Nat} {L : List zK} {I : Nat → Nat → Int32} {J : Nat → Nat → Int64} {c : Cr} {n o : Nat} {P : Nat → Cr}
theorem c_placeOf (ho : I 31 1 = nI o) (hh : o < 24) {k : Nat} (hk : k ≤ 24) : zcall X (d + 2) 57 [.inr (.inr (some (.inl 4, 31))), .inl (nI k)] (L, zB1, I, J) = some (some (.inl (nI ((o + k) % 24))), (L, zB1, I, J)) := by
  rw [eX4_placeOf, eJ9_floorMod_7cf53, ho, nI_add, if_neg (by decide), if_pos (xor24 (by omega)), rem24 (by omega), cI_some, bX4_placeOf_11]
theorem c_keep (hs : SC I n o P c) : ∃ I' o', zcall X (d + 3) 55 [.inr (.inr (some (.inl 4, 31))), .inr (.inr (some (.inl 1, 13)))] (L, zB1, I, J) = some (none, (L, zB1, I', J)) ∧ SC I' (kpN n) o' (kpP n P c) c ∧ FC I I' ∧ (∀ a, 13 ≤ a → a ≤ 20 → I' a = I a) := by
  obtain ⟨⟨hn, ho, e2, e1, hP⟩, hC, hv⟩ := hs
  have hm : (o + n) % 24 < 24 := Nat.mod_lt _ (by omega)
  obtain ⟨I1, k1, h1, f1⟩ := c_takeFrom (X := X) (d := d + 1) (L := L) (J := J) (b := 33 + 8 * ((o + n) % 24)) hC hv.1 (by omega)
  rw [eX4_keep, e2, c_placeOf e1 ho hn, cI_some, bX4_keep_12, zin_nI hm (by omega), zbt_t, ncl (by omega), k1, cV_some, bX4_keep_23]
  have g1 : I1 31 = I 31 := f1 31 (by omega)
  have g2 : I1 31 2 = nI n := by rw [g1, e2]
  have g3 : I1 31 1 = nI o := by rw [g1, e1]
  have gc : CAt I1 13 c := f1.CAt hC (by omega)
  rw [g2]
  by_cases h24 : n < 24
  · rw [if_neg (by show ¬ nI 24 ≤ nI n; rw [nle (by omega) (by omega)]; omega), nI_1]
    refine ⟨zup I1 31 2 (nI (n + 1)), o, rfl, ⟨⟨?_, ho, ?_, ?_, ?_⟩, ?_, hv⟩, ?_, ?_⟩
    · unfold kpN; rw [if_pos h24]; omega
    · unfold kpN; rw [if_pos h24, zup_at, if_pos ⟨rfl, rfl⟩]
    · rw [zup_at, if_neg (by omega)]; exact g3
    · intro k hk
      unfold kpN at hk
      rw [if_pos h24] at hk
      unfold kpP
      rw [if_pos h24]
      by_cases e : k = n
      · rw [if_pos e, e]
        refine ⟨hv.1, fun f i hvl => ?_⟩
        rw [zup_ne (by omega)]
        exact h1 f i hvl
      · rw [if_neg e]
        refine ⟨(hP k (by omega)).1, fun f i hvl => ?_⟩
        have hf := vld_le hvl
        rw [zup_ne (by omega), f1 _ (by omega)]
        exact (hP k (by omega)).2 f i hvl
    · intro f i hvl
      have hf := vld_le hvl
      rw [zup_ne (by omega)]
      exact gc f i hvl
    · intro a i k1 k2
      rw [zup_ne (by omega), f1 a (by omega)]
    · intro a k1 k2
      rw [zup_ne (by omega), f1 a (by omega)]
  · have en : n = 24 := by omega
    have hpl := c_placeOf (X := X) (d := d) (L := L) (J := J) g3 ho (k := 1) (by omega)
    rw [if_pos (by show nI 24 ≤ nI n; rw [nle (by omega) (by omega)]; omega)]
    have hpl' : zcall X (d + 2) 57 [.inr (.inr (some (.inl 4, 31))), .inl 1] (L, zB1, I1, J) = some (some (.inl (nI ((o + 1) % 24))), (L, zB1, I1, J)) := hpl
    rw [hpl', cI_some, bX4_keep_51]
    have ho1 : (o + 1) % 24 < 24 := Nat.mod_lt _ (by omega)
    refine ⟨zup I1 31 1 (nI ((o + 1) % 24)), (o + 1) % 24, rfl, ⟨⟨?_, ho1, ?_, ?_, ?_⟩, ?_, hv⟩, ?_, ?_⟩
    · unfold kpN; rw [if_neg h24]; omega
    · unfold kpN; rw [if_neg h24, zup_at, if_neg (by omega), g2, en]
    · rw [zup_at, if_pos ⟨rfl, rfl⟩]
    · intro k hk
      unfold kpN at hk
      rw [if_neg h24] at hk
      unfold kpP
      rw [if_neg h24]
      by_cases e : k = 23
      · rw [if_pos e, e]
        refine ⟨hv.1, fun f i hvl => ?_⟩
        rw [zup_ne (by omega)]
        have : ((o + 1) % 24 + 23) % 24 = (o + n) % 24 := by omega
        rw [this]
        exact h1 f i hvl
      · rw [if_neg e]
        refine ⟨(hP (k + 1) (by omega)).1, fun f i hvl => ?_⟩
        have hf := vld_le hvl
        have : ((o + 1) % 24 + k) % 24 = (o + (k + 1)) % 24 := by omega
        rw [this, zup_ne (by omega), f1 _ (by omega)]
        exact (hP (k + 1) (by omega)).2 f i hvl
    · intro f i hvl
      have hf := vld_le hvl
      rw [zup_ne (by omega)]
      exact gc f i hvl
    · intro a i k1 k2
      rw [zup_ne (by omega), f1 a (by omega)]
    · intro a k1 k2
      rw [zup_ne (by omega), f1 a (by omega)]
theorem m_keep51 (h9 : I 283 9 = nI n) (hn : n < 24) : ∃ I', zgo X (zcall X (d)) none kX9_keep 51 [some (.inr (.inr (some (.inl 9, 283)))), some (.inl (0))] [] (L, zB1, I, J) = some (none, (L, zB1, I', J)) ∧ I' 283 9 = nI (n + 1) ∧ (∀ i, i < 43 → I' 290 (43 * n + i) = I 287 i) ∧ (∀ i, i < 43 * n → I' 290 i = I 290 i) ∧ (∀ a i, ¬ (a = 283 ∧ i = 9) → a ≠ 290 → I' a i = I a i) := by
  have := zloopR (fun k (I : Nat → Nat → Int32) => zgo X (zcall X (d)) none kX9_keep 51 [some (.inr (.inr (some (.inl 9, 283)))), some (.inl (nI k))] [] (L, zB1, I, J)) (fun k I' => (∀ i, i < k → I' 290 (43 * n + i) = I 287 i) ∧ (∀ i, i < 43 * n → I' 290 i = I 290 i) ∧ FrM 290 I I') 43 (fun k I1 hk hp => by
    obtain ⟨hc, hd, hf⟩ := hp
    try dsimp only at hc hf ⊢
    have e9 : I1 283 9 = nI n := by rw [hf 283 (by omega)]; exact h9
    have ei : (43 * I1 283 9) + nI k = nI (43 * n + k) := by
      rw [e9]
      show nI 43 * nI n + nI k = _
      rw [nI_mul, nI_add]
    rw [bX9_keep_51, if_neg (by show ¬ nI 43 ≤ nI k; rw [nle (by omega) (by omega)]; omega), zin_nI hk (by omega), zbt_t, ei, zin_nI (show 43 * n + k < 1032 by omega) (by omega), zbt_t, ncl (by omega), ncl (by omega), nI_1]
    refine ⟨_, rfl, ?_, ?_, hf.up⟩
    · intro i hi
      rw [zup_at]
      by_cases e : i = k
      · rw [if_pos ⟨rfl, by omega⟩, e, hf 287 (by omega)]
      · rw [if_neg (by omega)]
        exact hc i (by omega)
    · intro i hi
      rw [zup_at, if_neg (by omega)]
      exact hd i hi) (a := I) ⟨fun i hi => by omega, fun i _ => rfl, FrM.rf 290 I⟩
  obtain ⟨I1, e, hc, hd, hf⟩ := this
  have e9 : I1 283 9 = nI n := by rw [hf 283 (by omega)]; exact h9
  refine ⟨zup I1 283 9 (nI (n + 1)), (show _ = _ from e).trans ?_, ?_, ?_, ?_, ?_⟩
  · try dsimp only
    rw [bX9_keep_51, if_pos (by show nI 43 ≤ nI 43; rw [nle (by omega) (by omega)]; omega), e9, nI_1]
  · rw [zup_at, if_pos ⟨rfl, rfl⟩]
  · intro i hi; rw [zup_ne (by omega)]; exact hc i hi
  · intro i hi; rw [zup_ne (by omega)]; exact hd i hi
  · intro a i k1 k2
    rw [zup_at, if_neg (by omega), hf a k2]
theorem m_keep (hs : SM I n P c) : ∃ I', zcall X (d + 1) 192 [.inr (.inr (some (.inl 9, 283)))] (L, zB1, I, J) = some (none, (L, zB1, I', J)) ∧ SM I' (kpN n) (kpP n P c) c ∧ (∀ a i, ¬ (a = 283 ∧ i = 9) → a ≠ 290 → I' a i = I a i) := by
  obtain ⟨⟨hn, e9, hP⟩, hM, hv⟩ := hs
  rw [eX9_keep, e9]
  by_cases h24 : n < 24
  · rw [if_neg (by show ¬ nI n = nI 24; rw [neq (by omega) (by omega)]; omega)]
    obtain ⟨I1, k1, g9, gN, gO, gf⟩ := m_keep51 (X := X) (d := d) (L := L) (J := J) e9 h24
    rw [k1]
    refine ⟨I1, rfl, ⟨⟨?_, ?_, ?_⟩, ?_, hv⟩, gf⟩
    · unfold kpN; rw [if_pos h24]; omega
    · unfold kpN; rw [if_pos h24]; exact g9
    · intro k hk
      unfold kpN at hk
      rw [if_pos h24] at hk
      unfold kpP
      rw [if_pos h24]
      by_cases e : k = n
      · rw [if_pos e, e]
        refine ⟨hv.1, fun f i hvl => ?_⟩
        rw [gN _ (umx_mix hv.1 hvl).2]
        exact hM f i hvl
      · rw [if_neg e]
        have hk2 : k < n := by omega
        refine ⟨(hP k hk2).1, fun f i hvl => ?_⟩
        have := (umx_mix (hP k hk2).1 hvl).2
        rw [gO _ (by omega)]
        exact (hP k hk2).2 f i hvl
    · intro f i hvl
      rw [gf _ _ (by omega) (by omega)]
      exact hM f i hvl
  · have en : n = 24 := by omega
    rw [if_pos (by show nI n = nI 24; rw [en])]
    have l1 := zloopR (fun k (I : Nat → Nat → Int32) => zgo X (zcall X (d)) none kX9_keep 11 [some (.inr (.inr (some (.inl 9, 283)))), some (.inl (nI k))] [] (L, zB1, I, J)) (fun k I' => (∀ i, i < k → I' 290 i = I 290 (i + 43)) ∧ (∀ i, k ≤ i → I' 290 i = I 290 i) ∧ FrM 290 I I') 989 (fun k I1 hk hp => by
      obtain ⟨hc, hd, hf⟩ := hp
      try dsimp only at hc hf ⊢
      have ei : nI k + 43 = nI (k + 43) := nI_add k 43
      rw [bX9_keep_11, if_neg (by show ¬ nI 989 ≤ nI k; rw [nle (by omega) (by omega)]; omega), ei, zin_nI (show k + 43 < 1032 by omega) (by omega), zbt_t, zin_nI (show k < 1032 by omega) (by omega), zbt_t, ncl (by omega), ncl (by omega), nI_1]
      refine ⟨_, rfl, ?_, ?_, hf.up⟩
      · intro i hi
        rw [zup_at]
        by_cases e : i = k
        · rw [if_pos ⟨rfl, e⟩, e]
          exact hd (k + 43) (by omega)
        · rw [if_neg (by omega)]
          exact hc i (by omega)
      · intro i hi
        rw [zup_at, if_neg (by omega)]
        exact hd i (by omega)) (a := I) ⟨fun i hi => by omega, fun i _ => rfl, FrM.rf 290 I⟩
    obtain ⟨I1, k1, hc, hd, hf⟩ := l1
    have e91 : I1 283 9 = nI 24 := by rw [hf 283 (by omega), e9, en]
    have e23 : nI 24 - 1 = nI 23 := by decide +kernel
    obtain ⟨I2, k2, g9, gN, gO, gf⟩ := m_keep51 (X := X) (d := d) (L := L) (J := J) (I := zup I1 283 9 (nI 23)) (n := 23) (by rw [zup_at, if_pos ⟨rfl, rfl⟩]) (by omega)
    refine ⟨I2, (show _ = _ from k1).trans ?_, ⟨⟨?_, ?_, ?_⟩, ?_, hv⟩, ?_⟩
    · try dsimp only
      rw [bX9_keep_11, if_pos (by show nI 989 ≤ nI 989; rw [nle (by omega) (by omega)]; omega), e91, e23]
      exact k2
    · unfold kpN; rw [if_neg h24]; omega
    · unfold kpN; rw [if_neg h24]; exact g9
    · intro k hk
      unfold kpN at hk
      rw [if_neg h24] at hk
      unfold kpP
      rw [if_neg h24]
      by_cases e : k = 23
      · rw [if_pos e, e]
        refine ⟨hv.1, fun f i hvl => ?_⟩
        rw [gN _ (umx_mix hv.1 hvl).2, zup_ne (by omega), hf 287 (by omega)]
        exact hM f i hvl
      · rw [if_neg e]
        have hk2 : k + 1 < n := by omega
        refine ⟨(hP (k + 1) hk2).1, fun f i hvl => ?_⟩
        have := (umx_mix (hP (k + 1) hk2).1 hvl).2
        rw [gO _ (by omega), zup_ne (by omega), hc _ (by omega), ← (hP (k + 1) hk2).2 f i hvl]
        congr 1
        omega
    · intro f i hvl
      rw [gf _ _ (by omega) (by omega), zup_ne (by omega), hf 287 (by omega)]
      exact hM f i hvl
    · intro a i k1 k2
      rw [gf a i k1 k2, zup_at, if_neg (by omega), hf a k2]
end ACTS
theorem rel_act {I I' : Nat → Nat → Int32} {c : Cr} (hr : Rel I) (hf : ∀ a i, ¬ (13 ≤ a ∧ a ≤ 20) → ¬ (31 ≤ a ∧ a ≤ 224) → ¬ (a = 283 ∧ (i = 0 ∨ i = 9)) → a ≠ 287 → a ≠ 290 → I' a i = I a i) (hc : RCir I' c) (hp : RPast I') : Rel I' := by
  obtain ⟨h1, _, h3, _, h5, h6, h7⟩ := hr
  refine ⟨?_, ⟨c, hc⟩, ?_, hp, ?_, ?_, ?_⟩
  · intro r hr
    rw [hf 12 r (by omega) (by omega) (by omega) (by omega) (by omega), hf 284 r (by omega) (by omega) (by omega) (by omega) (by omega), hf 285 r (by omega) (by omega) (by omega) (by omega) (by omega), hf 11 r (by omega) (by omega) (by omega) (by omega) (by omega)]
    rcases h1 r hr with q | ⟨n, q1, q2, q3, q4, q5, q6⟩
    · exact Or.inl q
    · refine Or.inr ⟨n, q1, q2, q3, q4, q5, fun k hk => ?_⟩
      rw [hf _ _ (by omega) (by omega) (by omega) (by omega) (by omega), hf _ _ (by omega) (by omega) (by omega) (by omega) (by omega)]
      exact q6 k hk
  · obtain ⟨n, q1, q2, q3, q4, q5⟩ := h3
    refine ⟨n, q1, ?_, ?_, ?_, ?_⟩
    · rw [hf _ _ (by omega) (by omega) (by omega) (by omega) (by omega)]; exact q2
    · rw [hf _ _ (by omega) (by omega) (by omega) (by omega) (by omega)]; exact q3
    · intro k hk
      rw [hf 22 _ (by omega) (by omega) (by omega) (by omega) (by omega), hf 291 _ (by omega) (by omega) (by omega) (by omega) (by omega)]
      exact q4 k hk
    · rw [hf 21 _ (by omega) (by omega) (by omega) (by omega) (by omega), hf 283 _ (by omega) (by omega) (by omega) (by omega) (by omega)]; exact q5
  · intro k hk
    rw [hf 295 _ (by omega) (by omega) (by omega) (by omega) (by omega), hf (267 + 8 * k) _ (by omega) (by omega) (by omega) (by omega) (by omega)]
    rcases h5 k hk with q | ⟨q, c, q1, q2, q3, q4⟩
    · exact Or.inl q
    · refine Or.inr ⟨q, c, q1, q2, fun f i hv => ?_, fun f i hv => ?_⟩
      · have := vld_le hv
        rw [hf _ _ (by omega) (by omega) (by omega) (by omega) (by omega)]; exact q3 f i hv
      · rw [hf _ _ (by omega) (by omega) (by omega) (by omega) (by omega)]; exact q4 f i hv
  · obtain ⟨n, q1, q2, q3, q4⟩ := h6
    refine ⟨n, q1, ?_, ?_, ?_⟩
    · rw [hf _ _ (by omega) (by omega) (by omega) (by omega) (by omega)]; exact q2
    · rw [hf _ _ (by omega) (by omega) (by omega) (by omega) (by omega)]; exact q3
    · intro k hk
      rw [hf 265 _ (by omega) (by omega) (by omega) (by omega) (by omega), hf 297 _ (by omega) (by omega) (by omega) (by omega) (by omega)]
      exact q4 k hk
  · show I' 0 9 = I' 283 1
    rw [hf 0 _ (by omega) (by omega) (by omega) (by omega) (by omega), hf 283 _ (by omega) (by omega) (by omega) (by omega) (by omega)]
    exact h7
