/-! undo, images, the tape fed -/
theorem RRow.cg {I I' : Nat → Nat → Int32} (hc : RRow I) (h : ∀ a i, (2 ≤ a ∧ a ≤ 12) ∨ (284 ≤ a ∧ a ≤ 286) → I' a i = I a i) : RRow I' := by
  intro r hr
  rw [h 12 r (by omega), h 284 r (by omega), h 285 r (by omega), h 11 r (by omega)]
  rcases hc r hr with q | ⟨n, q1, q2, q3, q4, q5, q6⟩
  · exact Or.inl q
  · refine Or.inr ⟨n, q1, q2, q3, q4, q5, fun k hk => ?_⟩
    rw [h _ _ (by omega), h _ _ (by omega)]
    exact q6 k hk
theorem RCir.cg {I I' : Nat → Nat → Int32} {c : Cr} (hc : RCir I c) (h : ∀ a i, (13 ≤ a ∧ a ≤ 20) ∨ a = 287 → I' a i = I a i) : RCir I' c := by
  refine ⟨fun f i hv => ?_, fun f i hv => ?_, hc.2.2⟩
  · have := vld_le hv
    rw [h _ _ (by omega)]; exact hc.1 f i hv
  · rw [h _ _ (by omega)]; exact hc.2.1 f i hv
theorem RTape.cg {I I' : Nat → Nat → Int32} (hc : RTape I) (h : ∀ a i, (a = 21 ∧ (i = 2 ∨ i = 9)) ∨ a = 22 ∨ a = 291 ∨ (a = 283 ∧ (i = 11 ∨ i = 18)) → I' a i = I a i) : RTape I' := by
  obtain ⟨n, h1, h2, h3, h4, h5⟩ := hc
  refine ⟨n, h1, ?_, ?_, ?_, ?_⟩
  · rw [h _ _ (by omega)]; exact h2
  · rw [h _ _ (by omega)]; exact h3
  · intro k hk
    rw [h 22 _ (by omega), h 291 _ (by omega)]
    exact h4 k hk
  · rw [h 21 _ (by omega), h 283 _ (by omega)]; exact h5
theorem RPast.cg {I I' : Nat → Nat → Int32} (hc : RPast I) (h : ∀ a i, (31 ≤ a ∧ a ≤ 224) ∨ a = 290 ∨ (a = 283 ∧ i = 9) → I' a i = I a i) : RPast I' := by
  obtain ⟨n, o, P, h1, h2, h3, h4, h5, h6⟩ := hc
  refine ⟨n, o, P, h1, h2, ?_, ?_, ?_, ?_⟩
  · rw [h _ _ (by omega)]; exact h3
  · rw [h _ _ (by omega)]; exact h4
  · rw [h _ _ (by omega)]; exact h5
  · intro k hk
    obtain ⟨q1, q2, q3⟩ := h6 k hk
    refine ⟨q1, fun f i hv => ?_, fun f i hv => ?_⟩
    · have := vld_le hv
      rw [h _ _ (by omega)]; exact q2 f i hv
    · rw [h _ _ (by omega)]; exact q3 f i hv
theorem RImg.cg {I I' : Nat → Nat → Int32} (hc : RImg I) (h : ∀ a i, (267 ≤ a ∧ a ≤ 282) ∨ a = 295 ∨ a = 296 → I' a i = I a i) : RImg I' := by
  intro k hk
  rw [h 295 k (by omega), h (267 + 8 * k) 1 (by omega)]
  rcases hc k hk with q | ⟨q, c, q1, q2, q3, q4⟩
  · exact Or.inl q
  · refine Or.inr ⟨q, c, q1, q2, fun f i hv => ?_, fun f i hv => ?_⟩
    · have := vld_le hv
      rw [h _ _ (by omega)]; exact q3 f i hv
    · rw [h _ _ (by omega)]; exact q4 f i hv
theorem RTrace.cg {I I' : Nat → Nat → Int32} (hc : RTrace I) (h : ∀ a i, (a = 264 ∧ i = 1) ∨ a = 265 ∨ a = 297 ∨ (a = 283 ∧ i = 25) → I' a i = I a i) : RTrace I' := by
  obtain ⟨n, h1, h2, h3, h4⟩ := hc
  refine ⟨n, h1, ?_, ?_, ?_⟩
  · rw [h _ _ (by omega)]; exact h2
  · rw [h _ _ (by omega)]; exact h3
  · intro k hk
    rw [h 265 _ (by omega), h 297 _ (by omega)]
    exact h4 k hk
theorem RStat.cg {I I' : Nat → Nat → Int32} (hc : RStat I) (h : ∀ a i, (a = 0 ∧ i = 9) ∨ (a = 283 ∧ i = 1) → I' a i = I a i) : RStat I' := by
  show I' 0 9 = I' 283 1
  rw [h 0 _ (by omega), h 283 _ (by omega)]
  exact hc
section ACTS3
variable {X : Nat → Nat → Int32} {d : Nat} {L : List zK} {I : Nat → Nat → Int32} {J : Nat → Nat → Int64} {c c' : Cr} {n o : Nat} {P : Nat → Cr} {I' : Nat → Nat → Int32}
theorem p_undo : Pub X (d + 20) L 114 200 [] := by
  refine act_of fun I J n o P c hsc hsm hP0 => ?_
  obtain ⟨⟨hn, ho, e2, e1, hP⟩, hC, hv⟩ := hsc
  have hsc : SC I n o P c := ⟨⟨hn, ho, e2, e1, hP⟩, hC, hv⟩
  have c1 := eX8_undo X (d + 19) L I J
  rw [eX4_size, cI_some, bX8_undo_7, e2] at c1
  by_cases h0 : n = 0
  · refine act_no (v := -1000002) hsc (by rw [c1, h0, if_pos (by decide)]) (fun I1 hs => ?_)
    rw [eX9_undo, hs.th.1.2.1, h0, if_pos (by decide)]
  · rw [if_neg (by show ¬ nI n = nI 0; rw [neq (by omega) (by omega)]; exact h0)] at c1
    have hp : (o + (n - 1)) % 24 < 24 := Nat.mod_lt _ (by omega)
    have en : nI n - 1 = nI (n - 1) := by
      have := nI_pred (n - 1)
      rw [show n - 1 + 1 = n by omega] at this
      exact this
    have hI := hP0 (n - 1) (by omega)
    have hq := (hP (n - 1) (by omega)).2
    have hq2 : CAt (zup I 31 2 (nI (n - 1))) (33 + 8 * ((o + (n - 1)) % 24)) (P (n - 1)) := fun f i hvl => by rw [zup_ne (by omega)]; exact hq f i hvl
    obtain ⟨I2, e3, h3, f3⟩ := c_takeFrom (X := X) (d := d + 17) (L := L) (J := J) (b := 13) hq2 hI.1 (by omega)
    have g1 : zup I 31 2 (nI (n - 1)) 31 1 = nI o := by rw [zup_at, if_neg (by omega)]; exact e1
    have g2 : zup I 31 2 (nI (n - 1)) 31 2 = nI (n - 1) := by rw [zup_at, if_pos ⟨rfl, rfl⟩]
    have c2 := eX4_giveBack X (d + 18) L I J 13
    rw [e2, if_neg (by show ¬ nI n ≤ nI 0; rw [nle (by omega) (by omega)]; omega), en, g2, c_placeOf g1 ho (by omega), cI_some, bX4_giveBack_34, zin_nI hp (by omega), zbt_t, ncl (by omega), e3, cV_some, bX4_giveBack_38] at c2
    have g3 : I2 31 2 = nI (n - 1) := by rw [f3 31 (by omega)]; exact g2
    rw [c2, cV_some, bX8_undo_24, eX4_size, cI_some, bX8_undo_31, g3] at c1
    refine ⟨nI (n - 1), I2, n - 1, o, P, P (n - 1), c1, ?_, ⟨⟨by omega, ho, g3, by rw [f3 31 (by omega)]; exact g1, fun k hk => ⟨(hP k (by omega)).1, fun f i hvl => ?_⟩⟩, h3, hI⟩, fun q k hk => q k (by omega), fun I3 hs3 => ?_⟩
    · intro a i k1 k2
      rw [f3 a (by omega), zup_ne (by omega)]
    · have := vld_le hvl
      rw [f3 _ (by omega), zup_ne (by omega)]
      exact (hP k (by omega)).2 f i hvl
    · obtain ⟨⟨_, m9, mP⟩, _, _⟩ := hs3.th
      have m9' : zup (zup I3 283 0 0) 283 9 (nI (n - 1)) 283 9 = nI (n - 1) := by rw [zup_at, if_pos ⟨rfl, rfl⟩]
      have lm := zloopR (fun k (I : Nat → Nat → Int32) => zgo X (zcall X (d+19)) (some .int) kX9_undo 27 [some (.inr (.inr (some (.inl 9, 283)))), some (.inl (nI k))] [] (L, zB1, I, J)) (fun k I' => (∀ i, i < k → I' 287 i = I3 290 (43 * (n - 1) + i)) ∧ FrM 287 (zup (zup I3 283 0 0) 283 9 (nI (n - 1))) I') 43 (fun k I1 hk hp => by
        obtain ⟨hc, hf⟩ := hp
        try dsimp only
        have e9 : I1 283 9 = nI (n - 1) := by rw [hf 283 (by omega)]; exact m9'
        have ei : (43 * I1 283 9) + nI k = nI (43 * (n - 1) + k) := by
          rw [e9]
          show nI 43 * nI (n - 1) + nI k = _
          rw [nI_mul, nI_add]
        rw [bX9_undo_27, if_neg (by show ¬ nI 43 ≤ nI k; rw [nle (by omega) (by omega)]; omega), ei, zin_nI (show 43 * (n - 1) + k < 1032 by omega) (by omega), zbt_t, zin_nI hk (by omega), zbt_t, ncl (by omega), ncl (by omega), nI_1]
        refine ⟨_, rfl, ?_, hf.up⟩
        intro i hi
        rw [zup_at]
        by_cases e : i = k
        · rw [if_pos ⟨rfl, e⟩, e, hf 290 (by omega), zup_ne (by omega), zup_ne (by omega)]
        · rw [if_neg (by omega)]
          exact hc i (by omega)) (a := zup (zup I3 283 0 0) 283 9 (nI (n - 1))) ⟨fun i hi => by omega, FrM.rf 287 _⟩
      obtain ⟨I4, e4, h4, f4⟩ := lm
      have e9 : I4 283 9 = nI (n - 1) := by rw [f4 283 (by omega)]; exact m9'
      refine ⟨I4, ?_, ?_, ⟨by omega, e9, fun k hk => ⟨(mP k (by omega)).1, fun f i hvl => ?_⟩⟩, fun f i hvl => ?_, hI⟩
      · rw [eX9_undo, m9, if_neg (by show ¬ nI n = nI 0; rw [neq (by omega) (by omega)]; exact h0), en]
        refine (show _ = _ from e4).trans ?_
        try dsimp only
        rw [bX9_undo_27, if_pos (by show nI 43 ≤ nI 43; rw [nle (by omega) (by omega)]; omega), e9]
      · intro a i k1 k2 k3
        rw [f4 a k2, zup_at, if_neg (by omega), zup_at, if_neg (by omega)]
      · rw [f4 290 (by omega), zup_ne (by omega)]
        exact (mP k (by omega)).2 f i hvl
      · rw [h4 _ (umx_mix hI.1 hvl).2]
        have := (mP (n - 1) (by omega)).2 f i hvl
        rw [zup_ne (by omega)] at this
        exact this
theorem two1 : (Int32.ofNat 2 - 1).toInt = 1 := rfl
theorem p_image (a1 : Int32) : Pub X (d + 20) L 138 227 [.inl a1] := by
  intro I J hr
  obtain ⟨c, hC, hM, hv⟩ := hr.2.1
  have hn := hv.1
  have h6 := hn.2.1
  have hM1 := hM.th (show 287 ≠ 283 by omega)
  have c1 := eX8_image X (d + 19) L I J a1
  rw [c_isWithin, cI_some, bX8_image_12, c_hasCircuit hC hn, cI_some, bX8_image_22, show wi a1 (Int32.toInt 0) (Int32.ofNat 2 - 1).toInt = wi a1 0 1 from rfl] at c1
  cases hw : wi a1 0 1 with
  | false =>
    refine ⟨(-1000001), I, J, zup I 283 0 0, by rw [c1, hw, if0], ?_, (Qth I).Rel hr⟩
    rw [eX9_image, m_inI, cI_some, bX9_image_12, show wi a1 (Int64.toInt 0) (Int64.toInt 1) = wi a1 0 1 from rfl, hw, if0]
  | true =>
    rw [hw, if1] at c1
    cases hz : decide (0 < men c) with
    | false =>
      refine ⟨(-1000002), I, J, zup I 283 0 0, by rw [c1, hz, if0], ?_, (Qth I).Rel hr⟩
      rw [eX9_image, m_inI, cI_some, bX9_image_12, show wi a1 (Int64.toInt 0) (Int64.toInt 1) = wi a1 0 1 from rfl, hw, if1, m_isThere hM1 hn, cI_some, bX9_image_22, hz, if0]
    | true =>
      obtain ⟨k, hk, rfl, _⟩ := wi_nI hw
      have hk : k < 2 := by omega
      obtain ⟨I1, e1, h1, f1⟩ := c_takeFrom (X := X) (d := d + 18) (L := L) (J := J) (b := 267 + 8 * k) hC hn (by omega)
      rw [hz, if1, zin_nI hk (by omega), zbt_t, ncl (by omega), e1, cV_some, bX8_image_41] at c1
      have hM2 : MAt I1 287 c := fun f i hvl => by rw [f1 287 (by omega)]; exact hM f i hvl
      have hM3 := hM2.th (show 287 ≠ 283 by omega)
      have lm := zloopR (fun q (I : Nat → Nat → Int32) => zgo X (zcall X (d+19)) (some .int) kX9_image 30 [some (.inr (.inr (some (.inl 9, 283)))), some (.inl (nI k)), some (.inl (nI q))] [] (L, zB1, I, J)) (fun q I' => (∀ i, i < q → I' 296 (43 * k + i) = I1 287 i) ∧ (∀ i, ¬ (43 * k ≤ i ∧ i < 43 * k + 43) → I' 296 i = I1 296 i) ∧ FrM 296 (zup I1 283 0 0) I') 43 (fun q I2 hq hp => by
        obtain ⟨hc, hd, hf⟩ := hp
        try dsimp only
        have ei : (43 * nI k) + nI q = nI (43 * k + q) := by
          show nI 43 * nI k + nI q = _
          rw [nI_mul, nI_add]
        rw [bX9_image_30, if_neg (by show ¬ nI 43 ≤ nI q; rw [nle (by omega) (by omega)]; omega), zin_nI hq (by omega), zbt_t, ei, zin_nI (show 43 * k + q < 86 by omega) (by omega), zbt_t, ncl (by omega), ncl (by omega), nI_1]
        refine ⟨_, rfl, ?_, ?_, hf.up⟩
        · intro i hi
          rw [zup_at]
          by_cases e : i = q
          · rw [if_pos ⟨rfl, by omega⟩, e, hf 287 (by omega), zup_ne (by omega)]
          · rw [if_neg (by omega)]
            exact hc i (by omega)
        · intro i hi
          rw [zup_at, if_neg (by omega)]
          exact hd i hi) (a := zup I1 283 0 0) ⟨fun i hi => by omega, fun i _ => by rw [zup_ne (by omega)], FrM.rf 296 _⟩
      obtain ⟨I2, e2, h2, d2, f2⟩ := lm
      have f3 : ∀ a i, ¬ (267 + 8 * k ≤ a ∧ a ≤ 267 + 8 * k + 7) → ¬ (a = 283 ∧ i = 0) → ¬ (a = 295 ∧ i = k) → a ≠ 296 → zup I2 295 k 1 a i = I a i := by
        intro a i k1 k2 k3 k4
        rw [zup_at, if_neg (by omega), f2 a k4, zup_at, if_neg (by omega), f1 a (by omega)]
      refine ⟨1, I1, J, zup I2 295 k 1, c1, ?_, ?_⟩
      · rw [eX9_image, m_inI, cI_some, bX9_image_12, show wi (nI k) (Int64.toInt 0) (Int64.toInt 1) = wi (nI k) 0 1 from rfl, hw, if1, m_isThere hM3 hn, cI_some, bX9_image_22, hz, if1]
        refine (show _ = _ from e2).trans ?_
        try dsimp only
        rw [bX9_image_30, if_pos (by show nI 43 ≤ nI 43; rw [nle (by omega) (by omega)]; omega), zin_nI hk (by omega), zbt_t, ncl (by omega)]
        rfl
      · refine ⟨hr.1.cg (fun a i h => f3 a i (by omega) (by omega) (by omega) (by omega)), ⟨c, RCir.cg ⟨hC, hM, hv⟩ (fun a i h => f3 a i (by omega) (by omega) (by omega) (by omega))⟩, hr.2.2.1.cg (fun a i h => f3 a i (by omega) (by omega) (by omega) (by omega)), hr.2.2.2.1.cg (fun a i h => f3 a i (by omega) (by omega) (by omega) (by omega)), ?_, hr.2.2.2.2.2.1.cg (fun a i h => f3 a i (by omega) (by omega) (by omega) (by omega)), hr.2.2.2.2.2.2.cg (fun a i h => f3 a i (by omega) (by omega) (by omega) (by omega))⟩
        intro q hq
        by_cases e : q = k
        · rw [e]
          refine Or.inr ⟨by rw [zup_at, if_pos ⟨rfl, rfl⟩], c, hv, of_decide_eq_true hz, fun f i hvl => ?_, fun f i hvl => ?_⟩
          · have := vld_le hvl
            rw [zup_ne (by omega), f2 _ (by omega), zup_ne (by omega)]
            exact h1 f i hvl
          · rw [zup_ne (by omega), h2 _ (umx_mix hn hvl).2]
            exact hM2 f i hvl
        · rw [f3 295 q (by omega) (by omega) (by omega) (by omega), f3 (267 + 8 * q) 1 (by omega) (by omega) (by omega) (by omega)]
          rcases hr.2.2.2.2.1 q hq with w | ⟨w, c2, w1, w2, w3, w4⟩
          · exact Or.inl w
          · refine Or.inr ⟨w, c2, w1, w2, fun f i hvl => ?_, fun f i hvl => ?_⟩
            · have := vld_le hvl
              rw [f3 _ _ (by omega) (by omega) (by omega) (by omega)]
              exact w3 f i hvl
            · have := (umx_mix w1.1 hvl).2
              rw [zup_ne (by omega), d2 _ (by omega), f1 296 (by omega)]
              exact w4 f i hvl
theorem p_restore (a1 : Int32) : Pub X (d + 20) L 139 228 [.inl a1] := by
  intro I J hr
  obtain ⟨n, o, P, p1, p2, p3, p4, p5, p6⟩ := hr.2.2.2.1
  have c1 := eX8_restore X (d + 19) L I J a1
  rw [c_isWithin, cI_some, bX8_restore_12, show wi a1 (Int32.toInt 0) (Int32.ofNat 2 - 1).toInt = wi a1 0 1 from rfl] at c1
  cases hw : wi a1 0 1 with
  | false =>
    refine ⟨(-1000001), I, J, zup I 283 0 0, by rw [c1, hw, if0], ?_, (Qth I).Rel hr⟩
    rw [eX9_restore, m_inI, cI_some, bX9_restore_12, show wi a1 (Int64.toInt 0) (Int64.toInt 1) = wi a1 0 1 from rfl, hw, if0]
  | true =>
    obtain ⟨k, hk, rfl, _⟩ := wi_nI hw
    have hk : k < 2 := by omega
    rw [hw, if1, zin_nI hk (by omega), zbt_t, zbt_t, ncl (by omega)] at c1
    rcases hr.2.2.2.2.1 k hk with ⟨w1, w2⟩ | ⟨w1, c, hv, hm, w3, w4⟩
    · refine ⟨(-1000002), I, J, zup I 283 0 0, by rw [c1, if_pos w2], ?_, (Qth I).Rel hr⟩
      rw [eX9_restore, m_inI, cI_some, bX9_restore_12, show wi (nI k) (Int64.toInt 0) (Int64.toInt 1) = wi (nI k) 0 1 from rfl, hw, if1, zin_nI hk (by omega), zbt_t, ncl (by omega), zup_ne (by omega), if_pos w1]
    · have hn := hv.1
      have h6 := hn.2.1
      obtain ⟨I1, e1, h1, f1⟩ := c_takeFrom (X := X) (d := d + 18) (L := L) (J := J) (b := 13) w3 hn (by omega)
      rw [w3.men hn, if_neg (by show ¬ nI (men c) = nI 0; rw [neq (by omega) (by omega)]; omega), e1, cV_some, bX8_restore_46, eX4_forget, cV_some, bX8_restore_53] at c1
      have g295 : zup I1 31 2 0 295 k = 1 := by rw [zup_ne (by omega), f1 295 (by omega)]; exact w1
      have lm := zloopR (fun q (I : Nat → Nat → Int32) => zgo X (zcall X (d+19)) (some .int) kX9_restore 32 [some (.inr (.inr (some (.inl 9, 283)))), some (.inl (nI k)), some (.inl (nI q))] [] (L, zB1, I, J)) (fun q I' => (∀ i, i < q → I' 287 i = I 296 (43 * k + i)) ∧ FrM 287 (zup (zup I1 31 2 0) 283 0 0) I') 43 (fun q I2 hq hp => by
        obtain ⟨hc, hf⟩ := hp
        try dsimp only
        have ei : (43 * nI k) + nI q = nI (43 * k + q) := by
          show nI 43 * nI k + nI q = _
          rw [nI_mul, nI_add]
        rw [bX9_restore_32, if_neg (by show ¬ nI 43 ≤ nI q; rw [nle (by omega) (by omega)]; omega), ei, zin_nI (show 43 * k + q < 86 by omega) (by omega), zbt_t, zin_nI hq (by omega), zbt_t, ncl (by omega), ncl (by omega), nI_1]
        refine ⟨_, rfl, ?_, hf.up⟩
        intro i hi
        rw [zup_at]
        by_cases e : i = q
        · rw [if_pos ⟨rfl, e⟩, e, hf 296 (by omega), zup_ne (by omega), zup_ne (by omega), f1 296 (by omega)]
        · rw [if_neg (by omega)]
          exact hc i (by omega)) (a := zup (zup I1 31 2 0) 283 0 0) ⟨fun i hi => by omega, FrM.rf 287 _⟩
      obtain ⟨I2, e2, h2, f2⟩ := lm
      have f3 : ∀ a i, ¬ (13 ≤ a ∧ a ≤ 20) → ¬ (a = 283 ∧ (i = 0 ∨ i = 9)) → a ≠ 287 → ¬ (a = 31 ∧ i = 2) → zup I2 283 9 0 a i = I a i := by
        intro a i k1 k2 k3 k4
        rw [zup_at, if_neg (by omega), f2 a k3, zup_at, if_neg (by omega), zup_at, if_neg (by omega), f1 a (by omega)]
      refine ⟨1, _, J, zup I2 283 9 0, c1, ?_, ?_⟩
      · rw [eX9_restore, m_inI, cI_some, bX9_restore_12, show wi (nI k) (Int64.toInt 0) (Int64.toInt 1) = wi (nI k) 0 1 from rfl, hw, if1, zin_nI hk (by omega), zbt_t, ncl (by omega), zup_ne (by omega), g295, if_neg (by decide)]
        refine (show _ = _ from e2).trans ?_
        try dsimp only
        rw [bX9_restore_32, if_pos (by show nI 43 ≤ nI 43; rw [nle (by omega) (by omega)]; omega)]
      · refine rel_act (c := c) hr (fun a i k1 k2 k3 k4 k5 => f3 a i k1 k3 k4 (by omega)) ⟨fun f i hvl => ?_, fun f i hvl => ?_, hv⟩ ⟨0, o, P, by omega, p2, ?_, ?_, ?_, fun k hk => by omega⟩
        · have := vld_le hvl
          rw [zup_ne (by omega), f2 _ (by omega), zup_ne (by omega), zup_ne (by omega)]
          exact h1 f i hvl
        · rw [zup_ne (by omega), h2 _ (umx_mix hn hvl).2]
          exact w4 f i hvl
        · rw [zup_ne (by omega), f2 _ (by omega), zup_ne (by omega), zup_at, if_pos ⟨rfl, rfl⟩]; rfl
        · rw [zup_at, if_pos ⟨rfl, rfl⟩]; rfl
        · rw [f3 31 1 (by omega) (by omega) (by omega) (by omega)]; exact p5
theorem p_feed (a1 : Int32) : Pub X (d + 20) L 111 160 [.inl a1] := by
  intro I J hr
  obtain ⟨n, h1, h2, h3, h4, h5⟩ := hr.2.2.1
  obtain ⟨c, hcir⟩ := hr.2.1
  have c1 := eX8_feed X (d + 19) L I J a1
  rw [c_isWithin, cI_some, bX8_feed_8, eX7_isFull, h2, show wi a1 (Int32.toInt 0) (Int32.toInt 255) = wi a1 0 255 from rfl] at c1
  cases hw : wi a1 0 255 with
  | false =>
    refine ⟨(-1000001), I, J, zup I 283 0 0, by rw [c1, hw, if0], ?_, (Qth I).Rel hr⟩
    rw [eX9_feed, m_inI, cI_some, bX9_feed_14, show wi a1 (Int64.toInt 0) (Int64.toInt 255) = wi a1 0 255 from rfl, hw, if0]
  | true =>
    rw [hw, if1] at c1
    by_cases hf : n = 120
    · have : ¬ nI n < 120 := by show ¬ nI n < nI 120; rw [nlt (by omega) (by omega)]; omega
      rw [if_neg this, cI_some, bX8_feed_21, if_neg (by decide)] at c1
      refine ⟨(-1000003), I, J, zup I 283 0 0, c1, ?_, (Qth I).Rel hr⟩
      rw [eX9_feed, m_inI, cI_some, bX9_feed_14, show wi a1 (Int64.toInt 0) (Int64.toInt 255) = wi a1 0 255 from rfl, hw, if1, show zup I 283 0 0 283 11 = nI n from (by rw [zup_at, if_neg (by omega)]; exact h3), if_pos (by show nI n = nI 120; rw [hf])]
    · have hl : nI n < 120 := by show nI n < nI 120; rw [nlt (by omega) (by omega)]; omega
      have g2 : zup I 22 n a1 21 2 = nI n := by rw [zup_ne (by omega)]; exact h2
      rw [if_pos hl, cI_some, bX8_feed_21, if_pos rfl, eX7_add, h2, if_neg (nlt0 (by omega)), if_neg (by show ¬ nI 120 ≤ nI n; rw [nle (by omega) (by omega)]; omega), zin_nI (show n < 120 by omega) (by omega), zbt_t, cI_some, bX8_feed_35, ncl (by omega), g2, nI_1, zup_at, if_pos ⟨rfl, rfl⟩] at c1
      have k3 : zup (zup (zup I 22 n a1) 21 2 (nI (n + 1))) 283 0 0 283 11 = nI n := by rw [zup_at, if_neg (by omega), zup_ne (by omega), zup_ne (by omega)]; exact h3
      have k4 : zup (zup (zup (zup I 22 n a1) 21 2 (nI (n + 1))) 283 0 0) 291 n a1 283 11 = nI n := by rw [zup_ne (by omega)]; exact k3
      have f3 : ∀ a i, ¬ (a = 22 ∧ i = n) → ¬ (a = 21 ∧ i = 2) → ¬ (a = 283 ∧ i = 0) → ¬ (a = 291 ∧ i = n) → ¬ (a = 283 ∧ i = 11) → zup (zup (zup (zup (zup I 22 n a1) 21 2 (nI (n + 1))) 283 0 0) 291 n a1) 283 11 (nI (n + 1)) a i = I a i := by
        intro a i k1 k2 k3 k4 k5
        rw [zup_at, if_neg k5, zup_at, if_neg k4, zup_at, if_neg k3, zup_at, if_neg k2, zup_at, if_neg k1]
      refine ⟨(nI (n + 1)), _, J, zup (zup (zup (zup (zup I 22 n a1) 21 2 (nI (n + 1))) 283 0 0) 291 n a1) 283 11 (nI (n + 1)), c1, ?_, ?_⟩
      · rw [eX9_feed, m_inI, cI_some, bX9_feed_14, show wi a1 (Int64.toInt 0) (Int64.toInt 255) = wi a1 0 255 from rfl, hw, if1, k3, if_neg (by show ¬ nI n = nI 120; rw [neq (by omega) (by omega)]; exact hf), zin_nI (show n < 120 by omega) (by omega), zbt_t, ncl (by omega), k4, nI_1, zup_at, if_pos ⟨rfl, rfl⟩]
      · refine ⟨hr.1.cg (fun a i h => f3 a i (by omega) (by omega) (by omega) (by omega) (by omega)), ⟨c, hcir.cg (fun a i h => f3 a i (by omega) (by omega) (by omega) (by omega) (by omega))⟩, ?_, hr.2.2.2.1.cg (fun a i h => f3 a i (by omega) (by omega) (by omega) (by omega) (by omega)), hr.2.2.2.2.1.cg (fun a i h => f3 a i (by omega) (by omega) (by omega) (by omega) (by omega)), hr.2.2.2.2.2.1.cg (fun a i h => f3 a i (by omega) (by omega) (by omega) (by omega) (by omega)), hr.2.2.2.2.2.2.cg (fun a i h => f3 a i (by omega) (by omega) (by omega) (by omega) (by omega))⟩
        refine ⟨n + 1, by omega, ?_, ?_, ?_, ?_⟩
        · rw [zup_ne (by omega), zup_ne (by omega), zup_ne (by omega), zup_at, if_pos ⟨rfl, rfl⟩]
        · rw [zup_at, if_pos ⟨rfl, rfl⟩]
        · intro k hk
          by_cases e : k = n
          · rw [e]
            have e1 : zup (zup (zup (zup (zup I 22 n a1) 21 2 (nI (n + 1))) 283 0 0) 291 n a1) 283 11 (nI (n + 1)) 22 n = a1 := by
              rw [zup_ne (by omega), zup_ne (by omega), zup_ne (by omega), zup_ne (by omega), zup_at, if_pos ⟨rfl, rfl⟩]
            have e2 : zup (zup (zup (zup (zup I 22 n a1) 21 2 (nI (n + 1))) 283 0 0) 291 n a1) 283 11 (nI (n + 1)) 291 n = a1 := by
              rw [zup_ne (by omega), zup_at, if_pos ⟨rfl, rfl⟩]
            rw [e1, e2]
            exact ⟨rfl, wi_iff.1 hw⟩
          · rw [f3 22 k (by omega) (by omega) (by omega) (by omega) (by omega), f3 291 k (by omega) (by omega) (by omega) (by omega) (by omega)]
            exact h4 k (by omega)
        · rw [f3 21 9 (by omega) (by omega) (by omega) (by omega) (by omega), f3 283 18 (by omega) (by omega) (by omega) (by omega) (by omega)]
          exact h5
end ACTS3
