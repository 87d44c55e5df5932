/-! acts: send, sentence, gate, severe, retry, years, undo -/
theorem Iv_one {c c' : Cr} (hv : Iv c) {m : Nat} (ho : ∀ f i, ¬ (3 ≤ f ∧ f ≤ 7 ∧ i = m) → c' f i = c f i) (hm : m < men c → Im c' m) : Iv c' := by
  have e0 : ∀ i, c' 0 i = c 0 i := fun i => ho 0 i (by omega)
  have em : men c' = men c := by unfold men; rw [e0]
  have ej : jud c' = jud c := by unfold jud; rw [e0]
  refine ⟨?_, ?_, ?_, ?_⟩
  · unfold Cn; rw [em, ej, e0, e0]; exact hv.1
  · rw [e0]; exact hv.2.1
  · intro j hj
    rw [ho 1 j (by omega), ho 2 j (by omega)]
    exact hv.2.2.1 j (by rw [← ej]; exact hj)
  · intro q hq
    have hq : q < men c := by rw [← em]; exact hq
    by_cases e : q = m
    · rw [e] at hq ⊢
      exact hm hq
    · have hI := hv.2.2.2 q hq
      have e5 := ho 5 q (by omega)
      unfold Im serving
      rw [ho 3 q (by omega), ho 4 q (by omega), e5, ho 6 q (by omega), ho 7 q (by omega), ej]
      exact hI
theorem Iv_gate {c : Cr} (hv : Iv c) {f j : Nat} (hf : f = 1 ∨ f = 2) {v : Int32} (h : (f = 1 → rg v 0 9) ∧ (f = 2 → rg v 0 1)) : Iv (cup c f j v) := by
  refine ⟨Cn_cup (by omega) hv.1, ?_, ?_, ?_⟩
  · rw [cup_ne (by omega)]; exact hv.2.1
  · intro q hq
    rw [jud_cup (by omega)] at hq
    have hg := hv.2.2.1 q hq
    unfold cup
    refine ⟨?_, ?_⟩
    · split
      · rename_i e; exact h.1 e.1.symm
      · exact hg.1
    · split
      · rename_i e; exact h.2 e.1.symm
      · exact hg.2
  · intro m hm
    rw [men_cup (by omega)] at hm
    have hI := hv.2.2.2 m hm
    unfold Im serving
    rw [jud_cup (by omega), cup_ne (by omega), cup_ne (by omega), cup_ne (by omega), cup_ne (by omega), cup_ne (by omega)]
    exact hI
theorem Iv_judge {c : Cr} (hv : Iv c) {m j : Nat} (hj : j < jud c) : Iv (cup c 4 m (nI j)) := by
  have h4 := hv.1.2.2.2
  refine Iv_one (m := m) hv (fun f i h => cup_ne (by omega)) (fun hm => ?_)
  have hI := hv.2.2.2 m hm
  unfold Im serving
  rw [jud_cup (by omega), cup_ne (show ¬ (3 = 4 ∧ m = m) by omega), cup_eq, cup_ne (show ¬ (5 = 4 ∧ m = m) by omega), cup_ne (show ¬ (6 = 4 ∧ m = m) by omega), cup_ne (show ¬ (7 = 4 ∧ m = m) by omega)]
  exact ⟨hI.1, zin_nI hj (by omega), hI.2.2⟩
theorem Iv_left {c : Cr} (hv : Iv c) {m : Nat} {y : Int32} (hy : rg y 1 30) : Iv (cup c 6 m y) := by
  refine Iv_one (m := m) hv (fun f i h => cup_ne (by omega)) (fun hm => ?_)
  have hI := hv.2.2.2 m hm
  obtain ⟨y1, y2⟩ := hy
  unfold Im serving
  rw [jud_cup (by omega), cup_eq, cup_ne (show ¬ (3 = 6 ∧ m = m) by omega), cup_ne (show ¬ (5 = 6 ∧ m = m) by omega), cup_ne (show ¬ (4 = 6 ∧ m = m) by omega), cup_ne (show ¬ (7 = 6 ∧ m = m) by omega)]
  exact ⟨hI.1, hI.2.1, hI.2.2.1, ⟨by omega, by omega⟩, hI.2.2.2.2.1, fun _ => by omega⟩
theorem Iv_agS {c : Cr} (hv : Iv c) {m j : Nat} (hj : j < jud c) {y : Int32} (hy : rg y 1 30) : Iv (agS c m (nI j) y) := by
  have h4 := hv.1.2.2.2
  unfold agS
  refine Iv_one (m := m) hv (fun f i h => by rw [cup_ne (by omega), cup_ne (by omega), cup_ne (by omega)]) (fun hm => ?_)
  have hI := hv.2.2.2 m hm
  obtain ⟨y1, y2⟩ := hy
  unfold Im serving
  rw [jud_cup (by omega), jud_cup (by omega), jud_cup (by omega), cup_eq, cup_ne (show ¬ (3 = 6 ∧ m = m) by omega), cup_ne (show ¬ (3 = 4 ∧ m = m) by omega), cup_ne (show ¬ (3 = 5 ∧ m = m) by omega), cup_ne (show ¬ (5 = 6 ∧ m = m) by omega), cup_ne (show ¬ (5 = 4 ∧ m = m) by omega), cup_eq, cup_ne (show ¬ (4 = 6 ∧ m = m) by omega), cup_eq, cup_ne (show ¬ (7 = 6 ∧ m = m) by omega), cup_ne (show ¬ (7 = 4 ∧ m = m) by omega), cup_ne (show ¬ (7 = 5 ∧ m = m) by omega)]
  exact ⟨hI.1, zin_nI hj (by omega), ⟨by rw [i0]; omega, by rw [i0]; omega⟩, ⟨by omega, by omega⟩, hI.2.2.2.2.1, fun _ => by omega⟩
section ACTS2
variable {X : Nat → Nat → Int32} {d : Nat} {L : List zK} {I : Nat → Nat → Int32} {J : Nat → Nat → Int64} {c c' : Cr} {n o : Nat} {P : Nat → Cr} {I' : Nat → Nat → Int32}
theorem SM.fc (h : SM I n P c) (hf : FC I I') : SM I' n P c := by
  obtain ⟨⟨h1, h2, h3⟩, h4, h5⟩ := h
  refine ⟨⟨h1, ?_, fun k hk => ⟨(h3 k hk).1, fun f i hv => ?_⟩⟩, fun f i hv => ?_, h5⟩
  · rw [hf _ _ (by omega) (by omega)]; exact h2
  · rw [hf _ _ (by omega) (by omega)]; exact (h3 k hk).2 f i hv
  · rw [hf _ _ (by omega) (by omega)]; exact h4 f i hv
theorem SC.fm (h : SC I n o P c) (hf : FM I I') : SC I' n o P c := by
  obtain ⟨⟨h1, h2, h3, h4, h5⟩, h6, h7⟩ := h
  refine ⟨⟨h1, h2, ?_, ?_, fun k hk => ⟨(h5 k hk).1, fun f i hv => ?_⟩⟩, fun f i hv => ?_, h7⟩
  · rw [hf _ _ (by omega) (by omega) (by omega)]; exact h3
  · rw [hf _ _ (by omega) (by omega) (by omega)]; exact h4
  · have := vld_le hv
    rw [hf _ _ (by omega) (by omega) (by omega)]; exact (h5 k hk).2 f i hv
  · have := vld_le hv
    rw [hf _ _ (by omega) (by omega) (by omega)]; exact h6 f i hv
theorem SM.th (h : SM I n P c) : SM (zup I 283 0 0) n P c := by
  obtain ⟨⟨h1, h2, h3⟩, h4, h5⟩ := h
  refine ⟨⟨h1, ?_, fun k hk => ⟨(h3 k hk).1, fun f i hv => ?_⟩⟩, h4.th (by omega), h5⟩
  · rw [zup_at, if_neg (by omega)]; exact h2
  · rw [zup_ne (by omega)]; exact (h3 k hk).2 f i hv
theorem SM.fr (h : SM I n P c) (hM : MAt I' 287 c') (hf : FrM 287 I I') (hv : Iv c') : SM I' n P c' ∧ FM I I' := by
  obtain ⟨⟨h1, h2, h3⟩, h4, h5⟩ := h
  refine ⟨⟨⟨h1, ?_, fun k hk => ⟨(h3 k hk).1, fun f i hv => ?_⟩⟩, hM, hv⟩, fun a i _ k _ => by rw [hf a k]⟩
  · rw [hf _ (by omega)]; exact h2
  · rw [hf _ (by omega)]; exact (h3 k hk).2 f i hv
theorem SC.fr (h : SC I n o P c) (hM : CAt I' 13 c') (hf : Fr 13 I I') (hv : Iv c') : SC I' n o P c' ∧ FC I I' := by
  obtain ⟨⟨h1, h2, h3, h4, h5⟩, h6, h7⟩ := h
  refine ⟨⟨⟨h1, h2, ?_, ?_, fun k hk => ⟨(h5 k hk).1, fun f i hv => ?_⟩⟩, hM, hv⟩, fun a i k _ => by rw [hf a (by omega)]⟩
  · rw [hf _ (by omega)]; exact h3
  · rw [hf _ (by omega)]; exact h4
  · have := vld_le hv
    rw [hf _ (by omega)]; exact (h5 k hk).2 f i hv
theorem SC.up (h : SC I n o P c) {f i : Nat} {v : Int32} (hf : f ≠ 0 ∨ 2 ≤ i) (h7 : f ≤ 7) (hv : Iv (cup c f i v)) : SC (zup I (13 + f) i v) n o P (cup c f i v) ∧ FC I (zup I (13 + f) i v) := h.fr (h.2.1.up hf) ((Fr.rf 13 I).up h7) hv
theorem FM.kp (hf : ∀ a i, ¬ (a = 283 ∧ i = 9) → a ≠ 290 → I' a i = I a i) : FM I I' := fun a i k1 _ k3 => hf a i (by omega) k3
theorem act_of {y y' : Nat} {args : List zV} (h : ∀ I J n o P c, SC I n o P c → SM I n P c → (∀ k, k < n → Iv (P k)) → ∃ v I1 n' o' P' c', zcall X d y (.inr (.inr (some (.inl 8, 0))) :: args) (L, zB1, I, J) = some (some (.inl (v)), (L, zB1, I1, J)) ∧ FC I I1 ∧ SC I1 n' o' P' c' ∧ ((∀ k, k < n → Iv (P k)) → ∀ k, k < n' → Iv (P' k)) ∧ (∀ I1, SM I1 n P c → ∃ I2, zcall X d y' (.inr (.inr (some (.inl 9, 283))) :: args) (L, zB1, I1, J) = some (some (.inl (v)), (L, zB1, I2, J)) ∧ FM I1 I2 ∧ SM I2 n' P' c')) : Pub X d L y y' args := by
  intro I J hr
  obtain ⟨c, hC, hM, hv⟩ := hr.2.1
  obtain ⟨n, o, P, p1, p2, p3, p4, p5, p6⟩ := hr.2.2.2.1
  have hsc : SC I n o P c := ⟨⟨p1, p2, p3, p5, fun k hk => ⟨(p6 k hk).1.1, (p6 k hk).2.1⟩⟩, hC, hv⟩
  have hsm : SM I n P c := ⟨⟨p1, p4, fun k hk => ⟨(p6 k hk).1.1, (p6 k hk).2.2⟩⟩, hM, hv⟩
  obtain ⟨v, I1, n', o', P', c', e1, f1, s1, hP, hm⟩ := h I J n o P c hsc hsm (fun k hk => (p6 k hk).1)
  obtain ⟨I2, e2, f2, s2⟩ := hm I1 (hsm.fc f1)
  refine ⟨v, I1, J, I2, e1, e2, ?_⟩
  have s3 := s1.fm f2
  have hP := hP (fun k hk => (p6 k hk).1)
  refine rel_act hr (fun a i k1 k2 k3 k4 k5 => (f2 a i k3 k4 k5).trans (f1 a i k1 k2)) ⟨s3.2.1, s2.2.1, s3.2.2⟩ ⟨n', o', P', s3.1.1, s3.1.2.1, s3.1.2.2.1, s2.1.2.1, s3.1.2.2.2.1, fun k hk => ⟨hP k hk, (s3.1.2.2.2.2 k hk).2, (s2.1.2.2 k hk).2⟩⟩
/-- nothing is done -/
theorem act_no {y y' : Nat} {args : List zV} {v : Int32} (hsc : SC I n o P c) (e1 : zcall X d y (.inr (.inr (some (.inl 8, 0))) :: args) (L, zB1, I, J) = some (some (.inl (v)), (L, zB1, I, J))) (e2 : ∀ I1, SM I1 n P c → zcall X d y' (.inr (.inr (some (.inl 9, 283))) :: args) (L, zB1, I1, J) = some (some (.inl v), (L, zB1, (zup I1 283 0 0), J))) : ∃ v I1 n' o' P' c', zcall X d y (.inr (.inr (some (.inl 8, 0))) :: args) (L, zB1, I, J) = some (some (.inl (v)), (L, zB1, I1, J)) ∧ FC I I1 ∧ SC I1 n' o' P' c' ∧ ((∀ k, k < n → Iv (P k)) → ∀ k, k < n' → Iv (P' k)) ∧ (∀ I1, SM I1 n P c → ∃ I2, zcall X d y' (.inr (.inr (some (.inl 9, 283))) :: args) (L, zB1, I1, J) = some (some (.inl (v)), (L, zB1, I2, J)) ∧ FM I1 I2 ∧ SM I2 n' P' c') :=
  ⟨v, I, n, o, P, c, e1, FC.rf I, hsc, id, fun I1 hs => ⟨zup I1 283 0 0, e2 I1 hs, FM.th I1, hs.th⟩⟩
theorem p_send (a1 a2 : Int32) : Pub X (d + 20) L 116 194 [.inl a1, .inl a2] := by
  refine act_of fun I J n o P c hsc hsm hP0 => ?_
  have hv := hsc.2.2
  have hn := hv.1
  have h6 := hn.2.1
  have hC := hsc.2.1
  obtain ⟨_, _, _, _, k5, _, _⟩ := n2 hC
  have c1 := eX8_send X (d + 19) L I J a1 a2
  rw [c_isMan hC hn, cI_some, bX8_send_8, c_isJudge hC hn, cI_some, bX8_send_19] at c1
  cases hz : zin a1 (men c) with
  | false => exact act_no hsc (by rw [c1, hz, if0]) (fun I1 hs => by rw [eX9_send, m_isMan hs.th.2.1 hn, cI_some, bX9_send_10, hz, if0])
  | true =>
    cases hw : zin a2 (jud c) with
    | false => exact act_no hsc (by rw [c1, hz, if1, hw, if0]) (fun I1 hs => by rw [eX9_send, m_isMan hs.th.2.1 hn, cI_some, bX9_send_10, hz, if1, m_isJudge hs.th.2.1 hn, cI_some, bX9_send_18, hw, if0])
    | true =>
      rw [hz, if1, hw, if1] at c1
      obtain ⟨m, hm, rfl⟩ := zin_of hz
      obtain ⟨j, hj, rfl⟩ := zin_of hw
      rw [zin_nI (show m < 6 by omega) (by omega), zbt_t, ncl (by omega), k5 m hm] at c1
      by_cases h0 : c 5 m = 0
      · rw [if_pos h0] at c1
        obtain ⟨I1, o', e1, s1, f1, g1⟩ := c_keep (X := X) (d := d + 16) (L := L) (J := J) hsc
        rw [e1, cV_some, bX8_send_51, zin_nI (show m < 6 by omega) (by omega), zbt_t, zbt_t, ncl (by omega), (n2 s1.2.1).2.2.2.1 m hm] at c1
        have s2 := s1.up (f := 4) (i := m) (v := nI j) (by omega) (by omega) (Iv_judge hv hj)
        refine ⟨c 4 m, _, kpN n, o', kpP n P c, cup c 4 m (nI j), c1, f1.tr s2.2, s2.1, fun hP => (kp_Iv hsc.1.1 hP hv).2, fun I2 hs2 => ?_⟩
        obtain ⟨I3, e3, s3, g3⟩ := m_keep (X := X) (d := d + 18) (L := L) (J := J) hs2.th
        obtain ⟨I4, e4, h4, f4⟩ := m_be1 (X := X) (d := d + 18) (L := L) (J := J) s3.2.1 hn hm (nI j)
        have s4 := s3.fr h4 f4 (Iv_judge hv hj)
        refine ⟨I4, ?_, ((FM.th I2).tr (FM.kp g3)).tr s4.2, s4.1⟩
        rw [eX9_send, m_isMan hs2.th.2.1 hn, cI_some, bX9_send_10, hz, if1, m_isJudge hs2.th.2.1 hn, cI_some, bX9_send_18, hw, if1, m_of3 hs2.th.2.1 hn hm, cI_some, bX9_send_33, if_pos h0, e3, cV_some, bX9_send_43, m_of1 s3.2.1 hn hm, cI_some, bX9_send_52, e4, cV_some, bX9_send_63]
      · exact act_no hsc (by rw [c1, if_neg h0]) (fun I1 hs => by rw [eX9_send, m_isMan hs.th.2.1 hn, cI_some, bX9_send_10, hz, if1, m_isJudge hs.th.2.1 hn, cI_some, bX9_send_18, hw, if1, m_of3 hs.th.2.1 hn hm, cI_some, bX9_send_33, if_neg h0])
theorem p_sentence (a1 a2 : Int32) : Pub X (d + 20) L 117 195 [.inl a1, .inl a2] := by
  refine act_of fun I J n o P c hsc hsm hP0 => ?_
  have hv := hsc.2.2
  have hn := hv.1
  have h6 := hn.2.1
  have hC := hsc.2.1
  have c1 := eX8_sentence X (d + 19) L I J a1 a2
  rw [c_isMan hC hn, cI_some, bX8_sentence_8, c_isWithin, cI_some, bX8_sentence_18, show wi a2 (Int32.toInt 1) (Int32.toInt 30) = wi a2 1 30 from rfl] at c1
  cases hz : zin a1 (men c) with
  | false => exact act_no hsc (by rw [c1, hz, if0]) (fun I1 hs => by rw [eX9_sentence, m_isMan hs.th.2.1 hn, cI_some, bX9_sentence_10, hz, if0])
  | true =>
    cases hw : wi a2 1 30 with
    | false => exact act_no hsc (by rw [c1, hz, if1, hw, if0]) (fun I1 hs => by rw [eX9_sentence, m_isMan hs.th.2.1 hn, cI_some, bX9_sentence_10, hz, if1, m_inI, cI_some, bX9_sentence_22, show wi a2 (Int64.toInt 1) (Int64.toInt 30) = wi a2 1 30 from rfl, hw, if0])
    | true =>
      rw [hz, if1, hw, if1] at c1
      obtain ⟨m, hm, rfl⟩ := zin_of hz
      have hy : rg a2 1 30 := wi_iff.1 hw
      rw [c_isServing hC hn hm, cI_some, bX8_sentence_32] at c1
      have hsv : (c 5 m ≤ 1) = (serving c m = true) := by
        rw [eq_iff_iff, serving_iff]
        rcases rg03 (hv.2.2.2 m hm).2.2.1 with e | e | e | e <;> rw [e] <;> decide
      cases hse : serving c m with
      | true =>
        have hse' : decide (c 5 m = 0 ∨ c 5 m = 1) = true := hse
        rw [hse', if1] at c1
        obtain ⟨I1, o', e1, s1, f1, g1⟩ := c_keep (X := X) (d := d + 16) (L := L) (J := J) hsc
        rw [e1, cV_some, bX8_sentence_49, zin_nI (show m < 6 by omega) (by omega), zbt_t, zbt_t, ncl (by omega), (n2 s1.2.1).2.2.2.2.2.1 m hm] at c1
        have s2 := s1.up (f := 6) (i := m) (v := a2) (by omega) (by omega) (Iv_left hv hy)
        refine ⟨c 6 m, _, kpN n, o', kpP n P c, cup c 6 m a2, c1, f1.tr s2.2, s2.1, fun hP => (kp_Iv hsc.1.1 hP hv).2, fun I2 hs2 => ?_⟩
        obtain ⟨I3, e3, s3, g3⟩ := m_keep (X := X) (d := d + 18) (L := L) (J := J) hs2.th
        obtain ⟨I4, e4, h4, f4⟩ := m_be2 (X := X) (d := d + 18) (L := L) (J := J) s3.2.1 hn hm a2
        have s4 := s3.fr h4 f4 (Iv_left hv hy)
        refine ⟨I4, ?_, ((FM.th I2).tr (FM.kp g3)).tr s4.2, s4.1⟩
        rw [eX9_sentence, m_isMan hs2.th.2.1 hn, cI_some, bX9_sentence_10, hz, if1, m_inI, cI_some, bX9_sentence_22, show wi a2 (Int64.toInt 1) (Int64.toInt 30) = wi a2 1 30 from rfl, hw, if1, m_of3 hs2.th.2.1 hn hm, cI_some, bX9_sentence_37, if_pos (by rw [hsv]; exact hse), e3, cV_some, bX9_sentence_48, m_of2 s3.2.1 hn hm, cI_some, bX9_sentence_57, e4, cV_some, bX9_sentence_68]
      | false =>
        have hse' : decide (c 5 m = 0 ∨ c 5 m = 1) = false := hse
        exact act_no hsc (by rw [c1, hse', if0]) (fun I1 hs => by rw [eX9_sentence, m_isMan hs.th.2.1 hn, cI_some, bX9_sentence_10, hz, if1, m_inI, cI_some, bX9_sentence_22, show wi a2 (Int64.toInt 1) (Int64.toInt 30) = wi a2 1 30 from rfl, hw, if1, m_of3 hs.th.2.1 hn hm, cI_some, bX9_sentence_37, if_neg (by rw [hsv, hse]; decide)])
theorem m_turned1 (hs : SM I n P c) {j : Nat} (hj : j < jud c) {v : Int32} (hI : Iv (cup c 2 j v)) : ∃ I', zcall X (d + 2) 196 [.inr (.inr (some (.inl 9, 283))), .inl (nI j), .inl 1, .inl v] (L, zB1, I, J) = some (some (.inl (c 2 j)), (L, zB1, I', J)) ∧ FM I I' ∧ SM I' (kpN n) (kpP n P c) (cup c 2 j v) := by
  have hn := hs.2.2.1
  have h4 := hn.2.2.2
  obtain ⟨I3, e3, s3, g3⟩ := m_keep (X := X) (d := d) (L := L) (J := J) hs
  have ei : (5 + 2 * nI j) + 1 = nI (mix 2 j) := by
    show (nI 5 + nI 2 * nI j) + nI 1 = _
    rw [nI_mul, nI_add, nI_add]
    refine congrArg nI ?_
    show 5 + 2 * j + 1 = 6 + 2 * j
    omega
  have hvl : vld c 2 j := vj hj (by omega) (by omega)
  have hlt := (umx_mix hn hvl).2
  have s4 := s3.fr (s3.2.1.up (v := v) hn (by omega) hvl) ((FrM.rf 287 I3).up) hI
  refine ⟨zup I3 287 (mix 2 j) v, ?_, (FM.kp g3).tr s4.2, s4.1⟩
  rw [eX9_turned, e3, cV_some, bX9_turned_4, ei, zin_nI hlt (by omega), zbt_t, zbt_t, ncl (by omega), s3.2.1 _ _ hvl]
theorem p_gate (a1 a2 : Int32) : Pub X (d + 20) L 118 197 [.inl a1, .inl a2] := by
  refine act_of fun I J n o P c hsc hsm hP0 => ?_
  have hv := hsc.2.2
  have hn := hv.1
  have h4 := hn.2.2.2
  have hC := hsc.2.1
  have c1 := eX8_gate X (d + 19) L I J a1 a2
  rw [c_isJudge hC hn, cI_some, bX8_gate_8, c_isWithin, cI_some, bX8_gate_17, show wi a2 (Int32.toInt 0) (Int32.toInt 1) = wi a2 0 1 from rfl] at c1
  cases hz : zin a1 (jud c) with
  | false => exact act_no hsc (by rw [c1, hz, if0]) (fun I1 hs => by rw [eX9_gate, m_isJudge hs.th.2.1 hn, cI_some, bX9_gate_10, hz, if0])
  | true =>
    cases hw : wi a2 0 1 with
    | false => exact act_no hsc (by rw [c1, hz, if1, hw, if0]) (fun I1 hs => by rw [eX9_gate, m_isJudge hs.th.2.1 hn, cI_some, bX9_gate_10, hz, if1, m_inI, cI_some, bX9_gate_20, show wi a2 (Int64.toInt 0) (Int64.toInt 1) = wi a2 0 1 from rfl, hw, if0])
    | true =>
      rw [hz, if1, hw, if1] at c1
      obtain ⟨j, hj, rfl⟩ := zin_of hz
      have hy : rg a2 0 1 := wi_iff.1 hw
      have hI : Iv (cup c 2 j a2) := Iv_gate hv (by omega) ⟨fun q => by first | exact hy | omega, fun q => by first | exact hy | omega⟩
      obtain ⟨I1, o', e1, s1, f1, g1⟩ := c_keep (X := X) (d := d + 16) (L := L) (J := J) hsc
      rw [e1, cV_some, bX8_gate_34, zin_nI (show j < 4 by omega) (by omega), zbt_t, zbt_t, ncl (by omega), (n2 s1.2.1).2.1 j hj] at c1
      have s2 := s1.up (f := 2) (i := j) (v := a2) (by omega) (by omega) hI
      refine ⟨c 2 j, _, kpN n, o', kpP n P c, cup c 2 j a2, c1, f1.tr s2.2, s2.1, fun hP => (kp_Iv hsc.1.1 hP hv).2, fun I2 hs2 => ?_⟩
      obtain ⟨I3, e3, f3, s3⟩ := m_turned1 (X := X) (d := d + 17) (L := L) (J := J) hs2.th hj hI
      refine ⟨I3, ?_, (FM.th I2).tr f3, s3⟩
      rw [eX9_gate, m_isJudge hs2.th.2.1 hn, cI_some, bX9_gate_10, hz, if1, m_inI, cI_some, bX9_gate_20, show wi a2 (Int64.toInt 0) (Int64.toInt 1) = wi a2 0 1 from rfl, hw, if1, e3, cI_some, bX9_gate_30]
theorem m_turned0 (hs : SM I n P c) {j : Nat} (hj : j < jud c) {v : Int32} (hI : Iv (cup c 1 j v)) : ∃ I', zcall X (d + 2) 196 [.inr (.inr (some (.inl 9, 283))), .inl (nI j), .inl 0, .inl v] (L, zB1, I, J) = some (some (.inl (c 1 j)), (L, zB1, I', J)) ∧ FM I I' ∧ SM I' (kpN n) (kpP n P c) (cup c 1 j v) := by
  have hn := hs.2.2.1
  have h4 := hn.2.2.2
  obtain ⟨I3, e3, s3, g3⟩ := m_keep (X := X) (d := d) (L := L) (J := J) hs
  have ei : (5 + 2 * nI j) + 0 = nI (mix 1 j) := by
    show (nI 5 + nI 2 * nI j) + nI 0 = _
    rw [nI_mul, nI_add, nI_add]
    refine congrArg nI ?_
    show 5 + 2 * j + 0 = 5 + 2 * j
    omega
  have hvl : vld c 1 j := vj hj (by omega) (by omega)
  have hlt := (umx_mix hn hvl).2
  have s4 := s3.fr (s3.2.1.up (v := v) hn (by omega) hvl) ((FrM.rf 287 I3).up) hI
  refine ⟨zup I3 287 (mix 1 j) v, ?_, (FM.kp g3).tr s4.2, s4.1⟩
  rw [eX9_turned, e3, cV_some, bX9_turned_4, ei, zin_nI hlt (by omega), zbt_t, zbt_t, ncl (by omega), s3.2.1 _ _ hvl]
theorem p_severe (a1 a2 : Int32) : Pub X (d + 20) L 119 198 [.inl a1, .inl a2] := by
  refine act_of fun I J n o P c hsc hsm hP0 => ?_
  have hv := hsc.2.2
  have hn := hv.1
  have h4 := hn.2.2.2
  have hC := hsc.2.1
  have c1 := eX8_severe X (d + 19) L I J a1 a2
  rw [c_isJudge hC hn, cI_some, bX8_severe_8, c_isWithin, cI_some, bX8_severe_18, show wi a2 (Int32.toInt 0) (Int32.toInt 9) = wi a2 0 9 from rfl] at c1
  cases hz : zin a1 (jud c) with
  | false => exact act_no hsc (by rw [c1, hz, if0]) (fun I1 hs => by rw [eX9_severe, m_isJudge hs.th.2.1 hn, cI_some, bX9_severe_10, hz, if0])
  | true =>
    cases hw : wi a2 0 9 with
    | false => exact act_no hsc (by rw [c1, hz, if1, hw, if0]) (fun I1 hs => by rw [eX9_severe, m_isJudge hs.th.2.1 hn, cI_some, bX9_severe_10, hz, if1, m_inI, cI_some, bX9_severe_22, show wi a2 (Int64.toInt 0) (Int64.toInt 9) = wi a2 0 9 from rfl, hw, if0])
    | true =>
      rw [hz, if1, hw, if1] at c1
      obtain ⟨j, hj, rfl⟩ := zin_of hz
      have hy : rg a2 0 9 := wi_iff.1 hw
      have hI : Iv (cup c 1 j a2) := Iv_gate hv (by omega) ⟨fun q => by first | exact hy | omega, fun q => by first | exact hy | omega⟩
      obtain ⟨I1, o', e1, s1, f1, g1⟩ := c_keep (X := X) (d := d + 16) (L := L) (J := J) hsc
      rw [e1, cV_some, bX8_severe_35, zin_nI (show j < 4 by omega) (by omega), zbt_t, zbt_t, ncl (by omega), (n2 s1.2.1).1 j hj] at c1
      have s2 := s1.up (f := 1) (i := j) (v := a2) (by omega) (by omega) hI
      refine ⟨c 1 j, _, kpN n, o', kpP n P c, cup c 1 j a2, c1, f1.tr s2.2, s2.1, fun hP => (kp_Iv hsc.1.1 hP hv).2, fun I2 hs2 => ?_⟩
      obtain ⟨I3, e3, f3, s3⟩ := m_turned0 (X := X) (d := d + 17) (L := L) (J := J) hs2.th hj hI
      refine ⟨I3, ?_, (FM.th I2).tr f3, s3⟩
      rw [eX9_severe, m_isJudge hs2.th.2.1 hn, cI_some, bX9_severe_10, hz, if1, m_inI, cI_some, bX9_severe_22, show wi a2 (Int64.toInt 0) (Int64.toInt 9) = wi a2 0 9 from rfl, hw, if1, e3, cI_some, bX9_severe_32]
theorem p_retry (a1 a2 a3 : Int32) : Pub X (d + 20) L 120 199 [.inl a1, .inl a2, .inl a3] := by
  refine act_of fun I J n o P c hsc hsm hP0 => ?_
  have hv := hsc.2.2
  have hn := hv.1
  have h6 := hn.2.1
  have hC := hsc.2.1
  obtain ⟨_, _, _, _, k5, _, _⟩ := n2 hC
  have c1 := eX8_retry X (d + 19) L I J a1 a2 a3
  rw [c_isMan hC hn, cI_some, bX8_retry_8, c_isJudge hC hn, cI_some, bX8_retry_19, c_isWithin, cI_some, bX8_retry_29, show wi a3 (Int32.toInt 1) (Int32.toInt 30) = wi a3 1 30 from rfl] at c1
  cases hz : zin a1 (men c) with
  | false => exact act_no hsc (by rw [c1, hz, if0]) (fun I1 hs => by rw [eX9_retry, m_isMan hs.th.2.1 hn, cI_some, bX9_retry_10, hz, if0])
  | true =>
    cases hw : zin a2 (jud c) with
    | false => exact act_no hsc (by rw [c1, hz, if1, hw, if0]) (fun I1 hs => by rw [eX9_retry, m_isMan hs.th.2.1 hn, cI_some, bX9_retry_10, hz, if1, m_isJudge hs.th.2.1 hn, cI_some, bX9_retry_18, hw, if0])
    | true =>
      cases hw3 : wi a3 1 30 with
      | false => exact act_no hsc (by rw [c1, hz, if1, hw, if1, hw3, if0]) (fun I1 hs => by rw [eX9_retry, m_isMan hs.th.2.1 hn, cI_some, bX9_retry_10, hz, if1, m_isJudge hs.th.2.1 hn, cI_some, bX9_retry_18, hw, if1, m_inI, cI_some, bX9_retry_30, show wi a3 (Int64.toInt 1) (Int64.toInt 30) = wi a3 1 30 from rfl, hw3, if0])
      | true =>
        rw [hz, if1, hw, if1, hw3, if1] at c1
        obtain ⟨m, hm, rfl⟩ := zin_of hz
        obtain ⟨j, hj, rfl⟩ := zin_of hw
        have hy : rg a3 1 30 := wi_iff.1 hw3
        rw [zin_nI (show m < 6 by omega) (by omega), zbt_t, ncl (by omega), k5 m hm] at c1
        have hI := Iv_agS (m := m) hv hj hy
        by_cases h0 : c 5 m = 2
        · rw [if_pos h0] at c1
          obtain ⟨I1, o', e1, s1, f1, g1⟩ := c_keep (X := X) (d := d + 16) (L := L) (J := J) hsc
          obtain ⟨I2, e2, h2, f2⟩ := c_tryAgain (X := X) (d := d + 17) (L := L) (J := J) s1.2.1 hn hm hj a3
          rw [e1, cV_some, bX8_retry_62, e2, cV_some, bX8_retry_72, c_whoAre h2 hI.1, cI_some, bX8_retry_80] at c1
          have s2 := s1.fr h2 f2 hI
          refine ⟨_, _, kpN n, o', kpP n P c, agS c m (nI j) a3, c1, f1.tr s2.2, s2.1, fun hP => (kp_Iv hsc.1.1 hP hv).2, fun I2 hs2 => ?_⟩
          obtain ⟨I3, e3, s3, g3⟩ := m_keep (X := X) (d := d + 18) (L := L) (J := J) hs2.th
          obtain ⟨I4, e4, h4, f4⟩ := m_comesAgain (X := X) (d := d + 17) (L := L) (J := J) s3.2.1 hn hm (nI j) a3
          have s4 := s3.fr h4 f4 hI
          refine ⟨I4, ?_, ((FM.th I2).tr (FM.kp g3)).tr s4.2, s4.1⟩
          rw [eX9_retry, m_isMan hs2.th.2.1 hn, cI_some, bX9_retry_10, hz, if1, m_isJudge hs2.th.2.1 hn, cI_some, bX9_retry_18, hw, if1, m_inI, cI_some, bX9_retry_30, show wi a3 (Int64.toInt 1) (Int64.toInt 30) = wi a3 1 30 from rfl, hw3, if1, m_of3 hs2.th.2.1 hn hm, cI_some, bX9_retry_45, if_pos h0, e3, cV_some, bX9_retry_56, e4, cV_some, bX9_retry_66, m_those h4 hI.1, cI_some, bX9_retry_74]
        · exact act_no hsc (by rw [c1, if_neg h0]) (fun I1 hs => by rw [eX9_retry, m_isMan hs.th.2.1 hn, cI_some, bX9_retry_10, hz, if1, m_isJudge hs.th.2.1 hn, cI_some, bX9_retry_18, hw, if1, m_inI, cI_some, bX9_retry_30, show wi a3 (Int64.toInt 1) (Int64.toInt 30) = wi a3 1 30 from rfl, hw3, if1, m_of3 hs.th.2.1 hn hm, cI_some, bX9_retry_45, if_neg h0])
/-- years passed, each kept -/
def yrT (n : Nat) (P : Nat → Cr) (c : Cr) (k : Nat) : Nat × (Nat → Cr) × Cr := zfold k (n, P, c) (fun _ s => (kpN s.1, kpP s.1 s.2.1 s.2.2, yrS true s.2.2))
theorem p_years (a1 : Int32) : Pub X (d + 20) L 115 193 [.inl a1] := by
  refine act_of fun I J n o P c hsc hsm hP0 => ?_
  have hv := hsc.2.2
  have hn := hv.1
  have hC := hsc.2.1
  have c1 := eX8_years X (d + 19) L I J a1
  rw [c_hasCircuit hC hn, cI_some, bX8_years_4, c_isWithin, cI_some, bX8_years_17, show wi a1 (Int32.toInt 1) (Int32.toInt 24) = wi a1 1 24 from rfl, hC.nn (show 4 < 5 by omega)] at c1
  have e4 : ∀ I1, SM I1 n P c → zup I1 283 0 0 287 (4 : Int32).toNatClampNeg = c 0 4 := fun I1 hs => hs.th.2.1 0 4 (v0 (by omega))
  cases hz : decide (0 < men c) with
  | false => exact act_no hsc (by rw [c1, hz, if0]) (fun I1 hs => by rw [eX9_years, m_isThere hs.th.2.1 hn, cI_some, bX9_years_9, hz, if0])
  | true =>
    cases hw : wi a1 1 24 with
    | false => exact act_no hsc (by rw [c1, hz, if1, hw, if0]) (fun I1 hs => by rw [eX9_years, m_isThere hs.th.2.1 hn, cI_some, bX9_years_9, hz, if1, m_inI, cI_some, bX9_years_24, show wi a1 (Int64.toInt 1) (Int64.toInt 24) = wi a1 1 24 from rfl, hw, if0])
    | true =>
      rw [hz, if1, hw, if1] at c1
      by_cases h9 : c 0 4 + a1 ≤ 999
      · rw [if_pos h9] at c1
        obtain ⟨w, hw1, hw2, rfl, hw3⟩ := wi_nI1 (by omega) hw
        have lc := zloopR (fun k (I : Nat → Nat → Int32) => zgo X (zcall X (d+19)) (some .int) kX8_years 43 [some (.inr (.inr (some (.inl 8, 0)))), some (.inl (nI w)), some (.inl (nI k))] [] (L, zB1, I, J)) (fun k I' => ∃ o', SC I' (yrT n P c k).1 o' (yrT n P c k).2.1 (yrT n P c k).2.2 ∧ FC I I') w (fun k I1 hk hp => by
          obtain ⟨o1, s1, f1⟩ := hp
          try dsimp only
          obtain ⟨I2, o2, e2, s2, f2, g2⟩ := c_keep (X := X) (d := d + 16) (L := L) (J := J) s1
          obtain ⟨I3, e3, h3, f3⟩ := c_passYears (X := X) (d := d + 15) (L := L) (J := J) s2.2.1 s2.2.2.1 (n := 1) (by omega) 0
          have e3' : zcall X (d + 19) 20 [.inr (.inr (some (.inl 1, 13))), .inl 1, .inl 0] (L, zB1, I2, J) = some (none, (L, zB1, I3, J)) := e3
          rw [pas_1] at h3
          have s3 := s2.fr h3 f3 (Iv_yrS true s2.2.2)
          rw [bX8_years_43, if_neg (by rw [nle (by omega) (by omega)]; omega), e2, cV_some, bX8_years_59, e3', cV_some, bX8_years_68, nI_1]
          exact ⟨I3, rfl, o2, s3.1, (f1.tr f2).tr s3.2⟩) (a := I) ⟨o, hsc, FC.rf I⟩
        obtain ⟨I1, e1, o1, s1, f1⟩ := lc
        rw [show zgo X (zcall X (d+19)) (some .int) kX8_years 43 [some (.inr (.inr (some (.inl 8, 0)))), some (.inl (nI w)), some (.inl (0))] [] (L, zB1, I, J) = _ from e1, bX8_years_43, if_pos (by rw [nle (by omega) (by omega)]; omega), c_whoAre s1.2.1 s1.2.2.1, cI_some, bX8_years_82] at c1
        refine ⟨_, I1, _, o1, _, _, c1, f1, s1, ?_, fun I2 hs2 => ?_⟩
        · intro hP
          have : ∀ k, (yrT n P c k).1 ≤ 24 ∧ Iv (yrT n P c k).2.2 ∧ ∀ q, q < (yrT n P c k).1 → Iv ((yrT n P c k).2.1 q) := by
            intro k
            induction k with
            | zero => exact ⟨hsc.1.1, hv, hP⟩
            | succ k ih =>
              have := kp_Iv ih.1 ih.2.2 ih.2.1
              exact ⟨this.1, Iv_yrS true ih.2.1, this.2⟩
          exact (this w).2.2
        · have lm := zloopR (fun k (I : Nat → Nat → Int32) => zgo X (zcall X (d+19)) (some .int) kX9_years 49 [some (.inr (.inr (some (.inl 9, 283)))), some (.inl (nI w)), some (.inl (nI k))] [] (L, zB1, I, J)) (fun k I' => SM I' (yrT n P c k).1 (yrT n P c k).2.1 (yrT n P c k).2.2 ∧ FM I2 I') w (fun k I1 hk hp => by
            obtain ⟨s1, f1⟩ := hp
            try dsimp only
            obtain ⟨I2, e2, s2, g2⟩ := m_keep (X := X) (d := d + 18) (L := L) (J := J) s1
            obtain ⟨I3, e3, h3, f3⟩ := m_yearBy (X := X) (d := d + 16) (L := L) (J := J) s2.2.1 s2.2.2 true
            have e3' : zcall X (d + 19) 187 [.inr (.inr (some (.inr (.int, 43), 287))), .inl 0] (L, zB1, I2, J) = some (none, (L, zB1, I3, J)) := e3
            have s3 := s2.fr h3 f3 (Iv_yrS true s2.2.2)
            rw [bX9_years_49, if_neg (by rw [nle (by omega) (by omega)]; omega), e2, cV_some, bX9_years_58, e3', cV_some, bX9_years_66, nI_1]
            exact ⟨I3, rfl, s3.1, (f1.tr (FM.kp g2)).tr s3.2⟩) (a := zup I2 283 0 0) ⟨hs2.th, FM.th I2⟩
          obtain ⟨I3, e3, s3, f3⟩ := lm
          refine ⟨I3, ?_, f3, s3⟩
          rw [eX9_years, m_isThere hs2.th.2.1 hn, cI_some, bX9_years_9, hz, if1, m_inI, cI_some, bX9_years_24, show wi (nI w) (Int64.toInt 1) (Int64.toInt 24) = wi (nI w) 1 24 from rfl, hw, if1, show zin 4 43 = true from rfl, zbt_t, e4 I2 hs2, if_pos h9]
          refine (show _ = _ from e3).trans ?_
          try dsimp only
          rw [bX9_years_49, if_pos (by rw [nle (by omega) (by omega)]; omega), m_those s3.2.1 s3.2.2.1, cI_some, bX9_years_80]
      · exact act_no hsc (by rw [c1, if_neg h9]) (fun I1 hs => by rw [eX9_years, m_isThere hs.th.2.1 hn, cI_some, bX9_years_9, hz, if1, m_inI, cI_some, bX9_years_24, show wi a1 (Int64.toInt 1) (Int64.toInt 24) = wi a1 1 24 from rfl, hw, if1, show zin 4 43 = true from rfl, zbt_t, e4 I1 hs, if_neg h9])
end ACTS2
