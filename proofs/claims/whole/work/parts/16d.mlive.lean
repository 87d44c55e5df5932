/-! the reference's year: living beside; what stays so -/
theorem serving_iff {c : Cr} {m : Nat} : serving c m = true ↔ c 5 m = 0 ∨ c 5 m = 1 := by
  unfold serving
  exact decide_eq_true_iff
theorem Iv_movS {c : Cr} (hv : Iv c) : Iv (movS c) := by
  have hN := movK_n c (men c)
  refine ⟨hN.2.2 hv.1, ?_, ?_, ?_⟩
  · show rg (movK c (men c) 0 2) 0 9
    rw [movK_ne (by omega)]
    exact hv.2.1
  · intro j hj
    have hj : j < jud c := by rw [← hN.2.1]; exact hj
    show rg (movK c (men c) 1 j) 0 9 ∧ rg (movK c (men c) 2 j) 0 1
    rw [movK_ne (by omega), movK_ne (by omega)]
    exact hv.2.2.1 j hj
  · intro m hm
    have hm : m < men c := by rw [← hN.1]; exact hm
    have hI := hv.2.2.2 m hm
    unfold Im
    show rg (movK c (men c) 3 m) 1 5 ∧ zin (movK c (men c) 4 m) (jud (movK c (men c))) = true ∧ rg (movK c (men c) 5 m) 0 3 ∧ rg (movK c (men c) 6 m) 0 30 ∧ rg (movK c (men c) 7 m) 0 99 ∧ (serving (movK c (men c)) m = true → 1 ≤ (movK c (men c) 6 m).toInt)
    rw [movK_ne (show (3 : Nat) ≠ 5 by omega), movK_ne (show (4 : Nat) ≠ 5 by omega), movK_ne (show (6 : Nat) ≠ 5 by omega), movK_ne (show (7 : Nat) ≠ 5 by omega), hN.2.1]
    refine ⟨hI.1, hI.2.1, ?_, hI.2.2.2.1, hI.2.2.2.2.1, ?_⟩
    · unfold movK
      split
      · exact ⟨by rw [i1]; omega, by rw [i1]; omega⟩
      · exact hI.2.2.1
    · intro hs
      apply hI.2.2.2.2.2
      rw [serving_iff] at hs ⊢
      unfold movK at hs
      split at hs
      · rename_i q
        left
        have := q.2.2
        unfold mv at this
        rw [Bool.and_eq_true, decide_eq_true_eq] at this
        exact this.1
      · exact hs
/-- a circuit whose man m alone changes, in how, years and trust -/
theorem Iv_man {c c' : Cr} (hv : Iv c) {m : Nat} (ho : ∀ f i, ¬ (5 ≤ f ∧ f ≤ 7 ∧ i = m) → c' f i = c f i) (h5 : rg (c' 5 m) 0 3) (h6 : rg (c' 6 m) 0 30) (h7 : rg (c' 7 m) 0 99) (hs : serving c' m = true → 1 ≤ (c' 6 m).toInt) : Iv c' := by
  have e0 : ∀ i, c' 0 i = c 0 i := fun i => ho 0 i (by omega)
  have em : men c' = men c := by unfold men; rw [e0]
  have ej : jud c' = jud c := by unfold jud; rw [e0]
  refine ⟨?_, ?_, ?_, ?_⟩
  · unfold Cn; rw [em, ej, e0, e0]; exact hv.1
  · rw [e0]; exact hv.2.1
  · intro j hj
    rw [ho 1 j (by omega), ho 2 j (by omega)]
    exact hv.2.2.1 j (by rw [← ej]; exact hj)
  · intro q hq
    have hI := hv.2.2.2 q (by rw [← em]; exact hq)
    unfold Im
    rw [ho 3 q (by omega), ho 4 q (by omega), ej]
    by_cases e : q = m
    · rw [e] at hI ⊢
      exact ⟨hI.1, hI.2.1, h5, h6, h7, hs⟩
    · have e5 := ho 5 q (by omega)
      rw [e5, ho 6 q (by omega), ho 7 q (by omega)]
      refine ⟨hI.1, hI.2.1, hI.2.2.1, hI.2.2.2.1, hI.2.2.2.2.1, ?_⟩
      have : serving c' q = serving c q := by unfold serving; rw [e5]
      rw [this]
      exact hI.2.2.2.2.2
theorem lv1_7 (g : Bool) {c : Cr} (hv : Iv c) {m : Nat} (hm : m < men c) : rg (lv1 g c m 7 m) 0 99 := by
  have hI := (hv.2.2.2 m hm).2.2.2.2.1
  have hg := grS_rg hv m
  unfold lv1
  split
  · rw [cup_eq]
    obtain ⟨a1, a2⟩ := hI
    obtain ⟨b1, b2⟩ := hg
    split
    · rename_i q
      rw [i32_lt, Jvm.Kit.i32_add (by omega) (by omega), i99] at q
      unfold rg
      rw [Jvm.Kit.i32_add (by omega) (by omega)]
      omega
    · exact ⟨by rw [i99]; omega, by rw [i99]; omega⟩
  · exact hI
theorem lv1_ne (g : Bool) (c : Cr) (m : Nat) {f i : Nat} (h : ¬ (f = 7 ∧ i = m)) : lv1 g c m f i = c f i := by
  unfold lv1
  split
  · exact cup_ne h
  · rfl
theorem Iv_lv1 (g : Bool) {c : Cr} (hv : Iv c) {m : Nat} (hm : m < men c) : Iv (lv1 g c m) := by
  have hI := hv.2.2.2 m hm
  refine Iv_man (m := m) hv (fun f i h => lv1_ne g c m (by omega)) ?_ ?_ (lv1_7 g hv hm) ?_
  · rw [lv1_ne g c m (by omega)]; exact hI.2.2.1
  · rw [lv1_ne g c m (by omega)]; exact hI.2.2.2.1
  · rw [lv1_ne g c m (by omega)]
    intro hs
    apply hI.2.2.2.2.2
    unfold serving at hs ⊢
    rw [lv1_ne g c m (by omega)] at hs
    exact hs
theorem Iv_lv2 {c : Cr} (hv : Iv c) {m : Nat} (hm : m < men c) (hs : c 5 m = 1) : Iv (lv2 c m) := by
  have hI := hv.2.2.2 m hm
  have h6 := hI.2.2.2.1
  have hp := hI.2.2.2.2.2 (serving_iff.2 (Or.inr hs))
  have es : (c 6 m - 1).toInt = (c 6 m).toInt - 1 := by
    obtain ⟨a1, a2⟩ := h6
    rw [Jvm.Kit.i32_sub (by rw [i1]; omega) (by rw [i1]; omega), i1]
  obtain ⟨a1, a2⟩ := h6
  unfold lv2
  split
  · exact hv
  · split
    · rename_i q
      rw [i32_lt, es, i0] at q
      refine Iv_man (m := m) hv (fun f i h => cup_ne (by omega)) ?_ ?_ ?_ ?_
      · rw [cup_ne (by omega)]; exact hI.2.2.1
      · rw [cup_eq]; unfold rg; rw [es]; omega
      · rw [cup_ne (by omega)]; exact hI.2.2.2.2.1
      · intro _; rw [cup_eq, es]; omega
    · refine Iv_man (m := m) hv (fun f i h => by rw [cup_ne (by omega), cup_ne (by omega), cup_ne (by omega)]) ?_ ?_ ?_ ?_
      · rw [cup_eq]
        split
        · exact ⟨by rw [i2]; omega, by rw [i2]; omega⟩
        · exact ⟨by rw [i3]; omega, by rw [i3]; omega⟩
      · rw [cup_ne (by omega), cup_eq]
        exact ⟨by rw [i0]; omega, by rw [i0]; omega⟩
      · rw [cup_ne (by omega), cup_ne (by omega), cup_ne (by omega)]; exact hI.2.2.2.2.1
      · intro hs2
        rw [serving_iff, cup_eq] at hs2
        exfalso
        split at hs2
        · revert hs2; decide
        · revert hs2; decide
theorem Iv_livS (g : Bool) {c : Cr} (hv : Iv c) {m : Nat} (hm : m < men c) (hs : c 5 m = 1) : Iv (livS g c m) := by
  refine Iv_lv2 (Iv_lv1 g hv hm) (by rw [(lv1_n g c m).1]; exact hm) ?_
  rw [lv1_ne g c m (by omega)]
  exact hs
theorem Iv_livK (g : Bool) {c : Cr} (hv : Iv c) : ∀ k, k ≤ men c → Iv (livK g c k)
  | 0, _ => hv
  | k + 1, hk => by
    have ih := Iv_livK g hv k (by omega)
    have e : livK g c (k + 1) = if livK g c k 5 k = 1 then livS g (livK g c k) k else livK g c k := rfl
    rw [e]
    split
    · rename_i h1
      exact Iv_livS g ih (by rw [(livK_n g c k).1]; omega) h1
    · exact ih
theorem Iv_year {c : Cr} (hv : Iv c) {v : Int32} {i : Nat} (hi : 3 ≤ i) : Iv (cup c 0 i v) := by
  refine ⟨Cn_cup (by omega) hv.1, ?_, ?_, ?_⟩
  · rw [cup_ne (by omega)]; exact hv.2.1
  · intro j hj
    rw [jud_cup (by omega)] at hj
    rw [cup_ne (by omega), cup_ne (by omega)]
    exact hv.2.2.1 j hj
  · intro m hm
    rw [men_cup (by omega)] at hm
    have hI := hv.2.2.2 m hm
    unfold Im serving
    rw [jud_cup (by omega), cup_ne (by omega), cup_ne (by omega), cup_ne (by omega), cup_ne (by omega), cup_ne (by omega)]
    exact hI
theorem Iv_yrS (g : Bool) {c : Cr} (hv : Iv c) : Iv (yrS g c) := by
  unfold yrS
  exact Iv_year (Iv_livK g (Iv_movS hv) (men c) (by rw [show men (movS c) = men c from (movK_n c (men c)).1]; omega)) (by omega)
theorem Iv_pasS (mended : Int32) {c : Cr} (hv : Iv c) : ∀ n, Iv (pasS n mended c)
  | 0 => hv
  | n + 1 => Iv_yrS _ (Iv_pasS mended hv n)
section MLIVE
variable {X : Nat → Nat → Int32} {d : Nat} {L : List zK} {I : Nat → Nat → Int32} {J : Nat → Nat → Int64} {r : Nat} {c : Cr}
theorem m_lv2 (h : MAt I r c) (hv : Iv c) {m : Nat} (hm : m < men c) (hs : c 5 m = 1) (g : Int32) (v3 : Int32) (u4 : Option zV) : ∃ I', zgo X (zcall X (d+1)) none kX9_yearBy 141 [some (.inr (.inr (some (.inr (.int, 43), r)))), some (.inl (g)), some (.inl (nI m)), some (.inl (v3)), u4] [] (L, zB1, I, J) = zgo X (zcall X (d+1)) none kX9_yearBy 85 [some (.inr (.inr (some (.inr (.int, 43), r)))), some (.inl (g)), some (.inl (nI (m + 1))), some (.inl (v3)), u4] [] (L, zB1, I', J) ∧ MAt I' r (lv2 c m) ∧ FrM r I I' := by
  have hn := hv.1
  have hI := hv.2.2.2 m hm
  have hp := hI.2.2.2.2.2 (serving_iff.2 (Or.inr hs))
  have es : (c 6 m - 1).toInt = (c 6 m).toInt - 1 := by
    obtain ⟨a1, a2⟩ := hI.2.2.2.1
    rw [Jvm.Kit.i32_sub (by rw [i1]; omega) (by rw [i1]; omega), i1]
  rw [bX9_yearBy_141, m_of0 h hn hm, cI_some, bX9_yearBy_147]
  unfold lv2
  by_cases h1 : c 3 m = 2
  · rw [if_pos h1, if_pos h1, bX9_yearBy_165, m_of2 h hn hm, cI_some, bX9_yearBy_171, if_neg (by intro e; rw [e, i0] at hp; omega), bX9_yearBy_197, nI_1]
    exact ⟨I, rfl, h, FrM.rf r I⟩
  · rw [if_neg h1, if_neg h1, m_of2 h hn hm, cI_some, bX9_yearBy_160]
    obtain ⟨I1, e1, hc1, hf1⟩ := m_be2 (X := X) (d := d) (L := L) (J := J) h hn hm (c 6 m - 1)
    have hn1 : Cn (cup c 6 m (c 6 m - 1)) := Cn_cup (by omega) hn
    have hm1 : m < men (cup c 6 m (c 6 m - 1)) := by rw [men_cup (by omega)]; exact hm
    rw [e1, cV_some, bX9_yearBy_165, m_of2 hc1 hn1 hm1, cI_some, bX9_yearBy_171, cup_eq]
    by_cases h2 : 0 < c 6 m - 1
    · rw [if_neg (by intro e; rw [e] at h2; exact absurd h2 (by decide)), if_pos h2, bX9_yearBy_197, nI_1]
      exact ⟨I1, rfl, hc1, hf1⟩
    · have e0 : c 6 m - 1 = 0 := by
        apply Int32.toInt_inj.mp
        rw [i32_lt, es, i0] at h2
        rw [es, i0]; omega
      have e3 : I1 r (3 : Int32).toNatClampNeg = c 0 3 := by
        have := hc1 0 3 (v0 (by omega))
        rw [cup_ne (by omega)] at this
        exact this
      rw [if_pos e0, if_neg h2, m_of4 hc1 hn1 hm1, cI_some, bX9_yearBy_183, show zin 3 43 = true from rfl, zbt_t, e3, cup_ne (show ¬ (7 = 6 ∧ m = m) by omega)]
      have ec : ∀ v, cup (cup (cup c 6 m (c 6 m - 1)) 6 m 0) 5 m v = cup (cup c 6 m (c 6 m - 1)) 5 m v := by
        intro v
        have := cup_self (cup c 6 m (c 6 m - 1)) 6 m
        rw [cup_eq, e0] at this
        rw [e0, this]
      rw [ec]
      by_cases h3 : c 7 m < c 0 3
      · obtain ⟨I2, e2, hc2, hf2⟩ := m_be3 (X := X) (d := d) (L := L) (J := J) hc1 hn1 hm1 2
        rw [if_pos h3, if_pos h3, e2, cV_some, bX9_yearBy_197, nI_1]
        exact ⟨I2, rfl, hc2, hf1.tr hf2⟩
      · obtain ⟨I2, e2, hc2, hf2⟩ := m_be3 (X := X) (d := d) (L := L) (J := J) hc1 hn1 hm1 3
        rw [if_neg h3, if_neg h3, e2, cV_some, bX9_yearBy_197, nI_1]
        exact ⟨I2, rfl, hc2, hf1.tr hf2⟩
theorem m_live (h : MAt I r c) (hv : Iv c) {m : Nat} (hm : m < men c) (hs : c 5 m = 1) (g : Bool) (u3 u4 : Option zV) : ∃ I' u3', cI (zcall X (d + 2) 180 [.inr (.inr (some (.inr (.int, 43), r))), .inl (nI m), .inl 4] (L, zB1, I, J)) (fun r9 σ => zgo X (zcall X (d+2)) none kX9_yearBy 108 [some (.inr (.inr (some (.inr (.int, 43), r)))), some (.inl (b2i (!g))), some (.inl (nI m)), u3, u4] [.inl r9] σ) = zgo X (zcall X (d+2)) none kX9_yearBy 85 [some (.inr (.inr (some (.inr (.int, 43), r)))), some (.inl (b2i (!g))), some (.inl (nI (m + 1))), u3', u4] [] (L, zB1, I', J) ∧ MAt I' r (livS g c m) ∧ FrM r I I' := by
  have hn := hv.1
  have hI := hv.2.2.2 m hm
  have hm1 : m < men (lv1 g c m) := by rw [(lv1_n g c m).1]; exact hm
  have hs1 : lv1 g c m 5 m = 1 := by rw [lv1_ne g c m (by omega)]; exact hs
  have fin : ∀ t v3 : Int32, cup c 7 m t = lv1 g c m → ∃ I' u3', cV (zcall X (d + 2) 181 [.inr (.inr (some (.inr (.int, 43), r))), .inl (nI m), .inl 4, .inl t] (L, zB1, I, J)) (fun σ => zgo X (zcall X (d+2)) none kX9_yearBy 141 [some (.inr (.inr (some (.inr (.int, 43), r)))), some (.inl (b2i (!g))), some (.inl (nI m)), some (.inl (v3)), u4] [] σ) = zgo X (zcall X (d+2)) none kX9_yearBy 85 [some (.inr (.inr (some (.inr (.int, 43), r)))), some (.inl (b2i (!g))), some (.inl (nI (m + 1))), u3', u4] [] (L, zB1, I', J) ∧ MAt I' r (livS g c m) ∧ FrM r I I' := by
    intro t v3 et
    obtain ⟨I1, e1, hc1, hf1⟩ := m_be4 (X := X) (d := d + 1) (L := L) (J := J) h hn hm t
    rw [et] at hc1
    obtain ⟨I2, e2, hc2, hf2⟩ := m_lv2 (X := X) (d := d + 1) (L := L) (J := J) hc1 (Iv_lv1 g hv hm) hm1 hs1 (b2i (!g)) v3 u4
    rw [e1, cV_some, e2]
    exact ⟨I2, _, rfl, hc2, hf1.tr hf2⟩
  rw [m_of4 h hn hm, cI_some, bX9_yearBy_108]
  cases g with
  | true =>
    rw [if_pos (show b2i (!true) = 0 from rfl), m_gainOf h hv hm, cI_some, bX9_yearBy_121]
    by_cases q : c 7 m + grS c m ≤ 99
    · rw [if_pos q]
      refine fin _ _ ?_
      unfold lv1
      rw [if_pos rfl]
      by_cases q2 : c 7 m + grS c m < 99
      · rw [if_pos q2]
      · rw [if_neg q2]
        congr 1
        apply Int32.toInt_inj.mp
        rw [i32_le] at q; rw [i32_lt] at q2
        omega
    · rw [if_neg q]
      refine fin _ _ ?_
      unfold lv1
      rw [if_pos rfl, if_neg]
      intro q2
      rw [i32_le] at q; rw [i32_lt] at q2
      omega
  | false =>
    rw [if_neg (show ¬ b2i (!false) = 0 by decide), bX9_yearBy_121, Int32.add_zero]
    have q : c 7 m ≤ 99 := by rw [i32_le, i99]; exact hI.2.2.2.2.1.2
    rw [if_pos q]
    refine fin _ _ ?_
    unfold lv1
    rw [if_neg (by decide), cup_self]
theorem m_yearBy (h : MAt I r c) (hv : Iv c) (g : Bool) : ∃ I', zcall X (d + 3) 187 [.inr (.inr (some (.inr (.int, 43), r))), .inl (b2i (!g))] (L, zB1, I, J) = some (none, (L, zB1, I', J)) ∧ MAt I' r (yrS g c) ∧ FrM r I I' := by
  have hn := hv.1
  have h6 := hn.2.1
  obtain ⟨I1, u3, u4, e1, hc1, hf1⟩ := m_move (X := X) (d := d) (L := L) (J := J) h hv (b2i (!g)) none none
  have hvm := Iv_movS hv
  have hMn : men (movS c) = men c := (movK_n c (men c)).1
  have := zloopR (fun k (s : Option zV × (Nat → Nat → Int32)) => zgo X (zcall X (d+2)) none kX9_yearBy 85 [some (.inr (.inr (some (.inr (.int, 43), r)))), some (.inl (b2i (!g))), some (.inl (nI k)), s.1, u4] [] (L, zB1, s.2, J)) (fun k s => MAt s.2 r (livK g (movS c) k) ∧ FrM r I s.2) (men c) (fun k s hk hp => by
    obtain ⟨u3, I2⟩ := s
    obtain ⟨hc, hf⟩ := hp
    try dsimp only at hc hf ⊢
    have hN := livK_n g (movS c) k
    have hv2 := Iv_livK g hvm k (by omega)
    have hn2 := hv2.1
    have hk1 : k < men (livK g (movS c) k) := by rw [hN.1]; omega
    have e0 : I2 r (0 : Int32).toNatClampNeg = nI (men c) := by
      have := hc.men hn2
      rw [hN.1, hMn] at this
      exact this
    have e : livK g (movS c) (k + 1) = if livK g (movS c) k 5 k = 1 then livS g (livK g (movS c) k) k else livK g (movS c) k := rfl
    rw [e, bX9_yearBy_85, show zin 0 43 = true from rfl, zbt_t, e0, if_neg (by rw [nle (by omega) (by omega)]; omega), m_of3 hc hn2 hk1, cI_some, bX9_yearBy_98]
    by_cases h1 : livK g (movS c) k 5 k = 1
    · rw [if_pos h1, if_pos h1]
      obtain ⟨I3, u3', e3, hc3, hf3⟩ := m_live (X := X) (d := d) (L := L) (J := J) hc hv2 hk1 h1 g u3 u4
      rw [e3]
      exact ⟨(u3', I3), rfl, hc3, hf.tr hf3⟩
    · rw [if_neg h1, if_neg h1, bX9_yearBy_197, nI_1]
      exact ⟨(u3, I2), rfl, hc, hf⟩) (a := (u3, I1)) ⟨hc1, hf1⟩
  obtain ⟨⟨u3', I2⟩, e2, hc2, hf2⟩ := this
  have hN := livK_n g (movS c) (men c)
  have hv2 := Iv_livK g hvm (men c) (by omega)
  try dsimp only at hc2 hf2
  have e0 : I2 r (0 : Int32).toNatClampNeg = nI (men c) := by
    have := hc2.men hv2.1
    rw [hN.1, hMn] at this
    exact this
  have e4 : I2 r (4 : Int32).toNatClampNeg = livK g (movS c) (men c) 0 4 := hc2 0 4 (v0 (by omega))
  rw [eX9_yearBy]
  refine ⟨zup I2 r 4 (livK g (movS c) (men c) 0 4 + 1), e1.trans ((show _ = _ from e2).trans ?_), ?_, hf2.up⟩
  · try dsimp only
    rw [bX9_yearBy_85, show zin 0 43 = true from rfl, zbt_t, e0, if_pos (by rw [nle (by omega) (by omega)]; omega), show zin 4 43 = true from rfl, zbt_t, zbt_t, e4]
    rfl
  · exact hc2.up hv2.1 (f := 0) (i := 4) (by omega) (v0 (by omega))
theorem m_yearsOf (h : MAt I r c) (hv : Iv c) {n : Nat} (hN : n < 2 ^ 31) : ∃ I', zcall X (d + 4) 188 [.inr (.inr (some (.inr (.int, 43), r))), .inl (nI n)] (L, zB1, I, J) = some (none, (L, zB1, I', J)) ∧ MAt I' r (pasS n 0 c) ∧ FrM r I I' := by
  rw [eX9_yearsOf]
  have := zloopR (fun k (I : Nat → Nat → Int32) => zgo X (zcall X (d+3)) none kX9_yearsOf 2 [some (.inr (.inr (some (.inr (.int, 43), r)))), some (.inl (nI n)), some (.inl (nI k))] [] (L, zB1, I, J)) (fun k I' => MAt I' r (pasS k 0 c) ∧ FrM r I I') n (fun k I1 hk hp => by
    obtain ⟨hc, hf⟩ := hp
    try dsimp only at hc hf ⊢
    obtain ⟨I2, e2, hc2, hf2⟩ := m_yearBy (X := X) (d := d) (L := L) (J := J) hc (Iv_pasS 0 hv k) true
    rw [bX9_yearsOf_2, if_neg (by rw [nle (by omega) (by omega)]; omega)]
    have e2' : zcall X (d + 3) 187 [.inr (.inr (some (.inr (.int, 43), r))), .inl 0] (L, zB1, I1, J) = some (none, (L, zB1, I2, J)) := e2
    rw [e2', cV_some, bX9_yearsOf_12, nI_1]
    refine ⟨I2, rfl, ?_, hf.tr hf2⟩
    have : pasS (k + 1) 0 c = yrS (gB 0 k) (pasS k 0 c) := rfl
    rw [this]
    have : gB 0 k = true := by unfold gB; rw [bt_0]; cases decide (8 ≤ k) <;> rfl
    rw [this]
    exact hc2) (a := I) ⟨h, FrM.rf r I⟩
  obtain ⟨I1, e, hc, hf⟩ := this
  refine ⟨I1, (show _ = _ from e).trans ?_, hc, hf⟩
  try dsimp only
  rw [bX9_yearsOf_2, if_pos (by rw [nle (by omega) (by omega)]; omega)]
end MLIVE
