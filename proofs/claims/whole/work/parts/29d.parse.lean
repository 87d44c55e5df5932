/-! reading a circuit: the class -/
theorem zup_c (M : Nat → Nat → Int32) (b f0 i0 : Nat) (v : Int32) (f i : Nat) : zup M (b + f0) i0 v (b + f) i = if f = f0 ∧ i = i0 then v else M (b + f) i := by
  rw [zup_at]
  by_cases q : f = f0 ∧ i = i0
  · rw [if_pos q, if_pos ⟨by omega, q.2⟩]
  · rw [if_neg q, if_neg (fun w => q ⟨by omega, w.2⟩)]
theorem cup_at (c : Cr) (f0 i0 : Nat) (v : Int32) (f i : Nat) : cup c f0 i0 v f i = if f = f0 ∧ i = i0 then v else c f i := rfl
theorem adJ_n {c : Cr} (hk : jud c < 4) (a b : Int32) : men (adJ c a b) = men c ∧ jud (adJ c a b) = jud c + 1 := by
  unfold adJ
  constructor
  · unfold men
    rw [cup_ne (by omega), cup_ne (by omega), cup_ne (by omega)]
  · show (cup _ 0 0 (nI (jud c + 1)) 0 0).toNatClampNeg = _
    rw [cup_eq, ncl (by omega)]
theorem adM_n {c : Cr} (hk : men c < 6) (k a b : Int32) : men (adM c k a b) = men c + 1 ∧ jud (adM c k a b) = jud c := by
  unfold adM
  constructor
  · show (cup _ 0 1 (nI (men c + 1)) 0 1).toNatClampNeg = _
    rw [cup_eq, ncl (by omega)]
  · unfold jud
    rw [cup_ne (by omega), cup_ne (by omega), cup_ne (by omega), cup_ne (by omega), cup_ne (by omega), cup_ne (by omega)]
theorem bgC_n (a b : Int32) : men (bgC a b) = 0 ∧ jud (bgC a b) = 0 := ⟨rfl, rfl⟩
theorem Iv_bgC {a : Int32} (b : Int32) (ha : rg a 0 9) : Iv (bgC a b) := by
  refine ⟨⟨rfl, by rw [(bgC_n a b).1]; omega, rfl, by rw [(bgC_n a b).2]; omega⟩, ha, fun j hj => ?_, fun m hm => ?_⟩
  · rw [(bgC_n a b).2] at hj; omega
  · rw [(bgC_n a b).1] at hm; omega
theorem Iv_adJ {c : Cr} (hv : Iv c) (h0 : men c = 0) (hk : jud c < 4) {a b : Int32} (ha : rg a 0 9) (hb : rg b 0 1) : Iv (adJ c a b) := by
  obtain ⟨h1, h2⟩ := adJ_n hk a b
  have hn := hv.1
  refine ⟨⟨?_, by rw [h1]; omega, ?_, by rw [h2]; omega⟩, ?_, fun j hj => ?_, fun m hm => by rw [h1] at hm; omega⟩
  · rw [h1]
    unfold adJ
    rw [cup_ne (by omega), cup_ne (by omega), cup_ne (by omega)]; exact hn.1
  · rw [h2]
    unfold adJ
    rw [cup_eq]
  · unfold adJ
    rw [cup_ne (by omega), cup_ne (by omega), cup_ne (by omega)]; exact hv.2.1
  · rw [h2] at hj
    unfold adJ
    rw [cup_ne (f := 0) (f' := 1) (by omega), cup_ne (f := 2) (f' := 1) (by omega), cup_ne (f := 0) (f' := 2) (by omega)]
    by_cases e : j = jud c
    · rw [e, cup_eq, cup_eq]; exact ⟨ha, hb⟩
    · rw [cup_ne (by omega), cup_ne (by omega), cup_ne (by omega)]
      exact hv.2.2.1 j (by omega)
theorem Iv_adM {c : Cr} (hv : Iv c) (hk : men c < 6) {k a b : Int32} (h1 : rg k 1 5) (h2 : zin a (jud c) = true) (h3 : rg b 1 30) : Iv (adM c k a b) := by
  obtain ⟨n1, n2⟩ := adM_n hk k a b
  have hn := hv.1
  have o : ∀ f i, ¬ (f = 0 ∧ i = 1) → i ≠ men c → adM c k a b f i = c f i := fun f i q1 q2 => by
    unfold adM
    rw [cup_ne q1, cup_ne (fun q => q2 q.2), cup_ne (fun q => q2 q.2), cup_ne (fun q => q2 q.2), cup_ne (fun q => q2 q.2), cup_ne (fun q => q2 q.2)]
  have o2 : ∀ f i, f ≤ 2 → ¬ (f = 0 ∧ i = 1) → adM c k a b f i = c f i := fun f i q1 q2 => by
    unfold adM
    rw [cup_ne q2, cup_ne (by omega), cup_ne (by omega), cup_ne (by omega), cup_ne (by omega), cup_ne (by omega)]
  refine ⟨⟨?_, by rw [n1]; omega, ?_, by rw [n2]; exact hn.2.2.2⟩, ?_, fun j hj => ?_, fun m hm => ?_⟩
  · rw [n1]
    unfold adM
    rw [cup_eq]
  · rw [n2, o2 0 0 (by omega) (by omega)]; exact hn.2.2.1
  · rw [o2 0 2 (by omega) (by omega)]; exact hv.2.1
  · rw [n2] at hj
    rw [o2 1 j (by omega) (by omega), o2 2 j (by omega) (by omega)]; exact hv.2.2.1 j hj
  · rw [n1] at hm
    by_cases e : m = men c
    · have e3 : adM c k a b 3 m = k := by rw [e]; unfold adM; rw [cup_ne (by omega), cup_ne (by omega), cup_ne (by omega), cup_ne (by omega), cup_ne (by omega), cup_eq]
      have e4 : adM c k a b 4 m = a := by rw [e]; unfold adM; rw [cup_ne (by omega), cup_ne (by omega), cup_ne (by omega), cup_ne (by omega), cup_eq]
      have e5 : adM c k a b 5 m = 0 := by rw [e]; unfold adM; rw [cup_ne (by omega), cup_ne (by omega), cup_ne (by omega), cup_eq]
      have e6 : adM c k a b 6 m = b := by rw [e]; unfold adM; rw [cup_ne (by omega), cup_ne (by omega), cup_eq]
      have e7 : adM c k a b 7 m = 0 := by rw [e]; unfold adM; rw [cup_ne (by omega), cup_eq]
      unfold Im serving
      rw [n2, e3, e4, e5, e6, e7]
      exact ⟨h1, h2, ⟨by decide, by decide⟩, ⟨by have := h3.1; omega, h3.2⟩, ⟨by decide, by decide⟩, fun _ => h3.1⟩
    · have hI := hv.2.2.2 m (by omega)
      unfold Im serving
      rw [n2, o 3 m (by omega) e, o 4 m (by omega) e, o 5 m (by omega) e, o 6 m (by omega) e, o 7 m (by omega) e]
      exact hI
section PARD
variable {X : Nat → Nat → Int32} {d : Nat} {L : List zK} {I : Nat → Nat → Int32} {J : Nat → Nat → Int64} {n : Nat} {A : Nat → Int32} {c : Cr}
theorem c_begin (a b : Int32) : ∃ I', zcall X (d + 1) 13 [.inr (.inr (some (.inl 1, 23))), .inl a, .inl b] (L, zB1, I, J) = some (none, (L, zB1, I', J)) ∧ CAt I' 23 (bgC a b) ∧ Fr 23 I I' := by
  refine ⟨_, eX1_begin X d L I J 23 a b, fun f i hv => ?_, fun q hq => ?_⟩
  · have hv2 : f = 0 ∧ i < 5 := by
      unfold vld at hv
      rw [(bgC_n a b).1, (bgC_n a b).2] at hv
      omega
    obtain ⟨rfl, hi⟩ := hv2
    have : i = 0 ∨ i = 1 ∨ i = 2 ∨ i = 3 ∨ i = 4 := by omega
    rcases this with rfl | rfl | rfl | rfl | rfl
    · rw [zup_f _ _ (by omega), zup_f _ _ (by omega), zup_f _ _ (by omega), zup_f _ _ (by omega), zup_e]; rfl
    · rw [zup_f _ _ (by omega), zup_f _ _ (by omega), zup_f _ _ (by omega), zup_e]; rfl
    · rw [zup_f _ _ (by omega), zup_f _ _ (by omega), zup_e]; rfl
    · rw [zup_f _ _ (by omega), zup_e]; rfl
    · rw [zup_e]; rfl
  · rw [zup_ne (by omega), zup_ne (by omega), zup_ne (by omega), zup_ne (by omega), zup_ne (by omega)]
theorem c_addJudge (h : CAt I 23 c) (hn : Cn c) (hk : jud c < 4) (a b : Int32) : ∃ I', zcall X (d + 1) 14 [.inr (.inr (some (.inl 1, 23))), .inl a, .inl b] (L, zB1, I, J) = some (none, (L, zB1, I', J)) ∧ CAt I' 23 (adJ c a b) ∧ Fr 23 I I' := by
  have e0 : I 23 0 = nI (jud c) := h.jud hn
  refine ⟨zup (zup (zup I (23 + 1) (jud c) a) (23 + 2) (jud c) b) (23 + 0) 0 (nI (jud c + 1)), ?_, fun f i hv => ?_, fun q hq => ?_⟩
  · rw [eX1_addJudge, e0, if_neg (by show ¬ nI (jud c) < nI 0; rw [nlt (by omega) (by omega)]; omega), if_pos (by show nI (jud c) < nI 4; rw [nlt (by omega) (by omega)]; omega), zin_nI hk (by omega), zbt_t, ncl (by omega), zup_ne (by omega), e0, zin_nI hk (by omega), zbt_t, ncl (by omega), zup_ne (by omega), zup_ne (by omega), e0, nI_1]
  · obtain ⟨n1, n2⟩ := adJ_n hk a b
    rw [zup_c, zup_c, zup_c]
    unfold adJ
    rw [cup_at, cup_at, cup_at]
    by_cases q0 : f = 0 ∧ i = 0
    · rw [if_pos q0, if_pos q0]
    · rw [if_neg q0, if_neg q0]
      by_cases q2 : f = 2 ∧ i = jud c
      · rw [if_pos q2, if_pos q2]
      · rw [if_neg q2, if_neg q2]
        by_cases q1 : f = 1 ∧ i = jud c
        · rw [if_pos q1, if_pos q1]
        · rw [if_neg q1, if_neg q1]
          apply h f i
          unfold vld at hv ⊢
          rw [n1, n2] at hv
          omega
  · rw [zup_ne (by omega), zup_ne (by omega), zup_ne (by omega)]
theorem c_addMan (h : CAt I 23 c) (hn : Cn c) (hk : men c < 6) (k a b : Int32) : ∃ I', zcall X (d + 1) 15 [.inr (.inr (some (.inl 1, 23))), .inl k, .inl a, .inl b] (L, zB1, I, J) = some (none, (L, zB1, I', J)) ∧ CAt I' 23 (adM c k a b) ∧ Fr 23 I I' := by
  have e0 : I 23 1 = nI (men c) := h.men hn
  refine ⟨zup (zup (zup (zup (zup (zup I (23 + 3) (men c) k) (23 + 4) (men c) a) (23 + 5) (men c) 0) (23 + 6) (men c) b) (23 + 7) (men c) 0) (23 + 0) 1 (nI (men c + 1)), ?_, fun f i hv => ?_, fun q hq => ?_⟩
  · rw [eX1_addMan]
    have z1 : ∀ M : Nat → Nat → Int32, M 23 1 = nI (men c) → ∀ f v, 3 ≤ f → zup M (23 + f) (nI (men c)).toNatClampNeg v 23 1 = nI (men c) := fun M hM f v hf => by rw [zup_ne (by omega)]; exact hM
    rw [e0, z1 _ e0 3 _ (by omega), z1 _ (z1 _ e0 3 _ (by omega)) 4 _ (by omega), z1 _ (z1 _ (z1 _ e0 3 _ (by omega)) 4 _ (by omega)) 5 _ (by omega), z1 _ (z1 _ (z1 _ (z1 _ e0 3 _ (by omega)) 4 _ (by omega)) 5 _ (by omega)) 6 _ (by omega), z1 _ (z1 _ (z1 _ (z1 _ (z1 _ e0 3 _ (by omega)) 4 _ (by omega)) 5 _ (by omega)) 6 _ (by omega)) 7 _ (by omega), if_neg (by show ¬ nI (men c) < nI 0; rw [nlt (by omega) (by omega)]; omega), if_pos (by show nI (men c) < nI 6; rw [nlt (by omega) (by omega)]; omega), zin_nI hk (by omega), zbt_t, zbt_t, zbt_t, zbt_t, zbt_t, ncl (by omega), nI_1]
  · obtain ⟨n1, n2⟩ := adM_n hk k a b
    rw [zup_c, zup_c, zup_c, zup_c, zup_c, zup_c]
    unfold adM
    rw [cup_at, cup_at, cup_at, cup_at, cup_at, cup_at]
    by_cases q0 : f = 0 ∧ i = 1
    · rw [if_pos q0, if_pos q0]
    · rw [if_neg q0, if_neg q0]
      by_cases q7 : f = 7 ∧ i = men c
      · rw [if_pos q7, if_pos q7]
      · rw [if_neg q7, if_neg q7]
        by_cases q6 : f = 6 ∧ i = men c
        · rw [if_pos q6, if_pos q6]
        · rw [if_neg q6, if_neg q6]
          by_cases q5 : f = 5 ∧ i = men c
          · rw [if_pos q5, if_pos q5]
          · rw [if_neg q5, if_neg q5]
            by_cases q4 : f = 4 ∧ i = men c
            · rw [if_pos q4, if_pos q4]
            · rw [if_neg q4, if_neg q4]
              by_cases q3 : f = 3 ∧ i = men c
              · rw [if_pos q3, if_pos q3]
              · rw [if_neg q3, if_neg q3]
                apply h f i
                unfold vld at hv ⊢
                rw [n1, n2] at hv
                omega
  · rw [zup_ne (by omega), zup_ne (by omega), zup_ne (by omega), zup_ne (by omega), zup_ne (by omega), zup_ne (by omega)]
theorem CT.o {I I' : Nat → Nat → Int32} {p : Nat} (h : CT n A I p) (e : ∀ i, 3 ≤ i → i ≤ 6 → I' 21 i = I 21 i) : CT n A I' p := by
  unfold CT
  rw [e 3 (by omega) (by omega), e 4 (by omega) (by omega), e 5 (by omega) (by omega), e 6 (by omega) (by omega)]
  exact h
theorem c_readPair (hb : CB n A I) (hn : n ≤ 120) (hA : ∀ k, k < n → rg (A k) 0 255) {p : Nat} (h : CT n A I p) (hp : p ≤ n) (l1 h1 l2 h2 : Int32) : (∀ q, rP n A l1.toInt h1.toInt l2.toInt h2.toInt p = .inr q → ∃ I', zcall X (d + 5) 97 [.inr (.inr (some (.inl 7, 21))), .inl l1, .inl h1, .inl l2, .inl h2] (L, zB1, I, J) = some (some (.inl (1)), (L, zB1, I', J)) ∧ CT n A I' q ∧ I' 21 7 = tv9 n A p ∧ I' 21 8 = tv9 n A (q2P n A l1.toInt h1.toInt p) ∧ I' 21 9 = I 21 9 ∧ FW I I') ∧ (∀ e, rP n A l1.toInt h1.toInt l2.toInt h2.toInt p = .inl e → ∃ I', zcall X (d + 5) 97 [.inr (.inr (some (.inl 7, 21))), .inl l1, .inl h1, .inl l2, .inl h2] (L, zB1, I, J) = some (some (.inl (0)), (L, zB1, I', J)) ∧ CF I' e ∧ FW I I') := by
  have s1 := c_seesNumber (X := X) (d := d + 2) (L := L) (J := J) h hp l1 h1
  rw [eX7_readPair]
  unfold rP q2P
  cases e1 : rN n A l1.toInt h1.toInt p with
  | inl e =>
    refine ⟨(fun q hq => by cases hq), fun e' he => ?_⟩
    cases he
    obtain ⟨I1, w1, w2, w3⟩ := s1.2 e e1
    exact ⟨I1, by rw [w1, cI_some, bX7_readPair_6, if_pos rfl], w2, w3⟩
  | inr q1 =>
    obtain ⟨w1, w2, w3⟩ := s1.1 q1 e1
    have hq1 := (rN_le hp e1).1
    have f1 : FW I (zup I 21 7 (tv9 n A p)) := (FW.rf I).up (by omega)
    obtain ⟨I1, k1, k2, k3⟩ := c_next (X := X) (d := d + 1) (L := L) (J := J) (f1.CB hb) hn hA hq1 (by rw [zup_f _ _ (by omega)]; exact w3)
    have f2 := f1.tr k3.W
    have s2 := c_passesSign (X := X) (d := d) (L := L) (J := J) (f2.CB hb) hn hA k2 hq1 44
    rw [w1, cI_some, bX7_readPair_6, if_neg (by decide), w2, k1, cV_some, bX7_readPair_23]
    rw [show bd (.inr q1) (rS n A 44) = rS n A 44 q1 from rfl]
    cases e2 : rS n A 44 q1 with
    | inl e =>
      refine ⟨(fun q hq => by cases hq), fun e' he => ?_⟩
      cases he
      obtain ⟨I2, v1, v2, v3⟩ := s2.2 e e2
      exact ⟨I2, by rw [v1, cI_some, bX7_readPair_29, if_pos rfl], v2, f2.tr v3⟩
    | inr q2 =>
      obtain ⟨I2, v1, v2, v3⟩ := s2.1 q2 e2
      have hq2 := (rS_le hq1 e2).1
      have f3 := f2.tr v3.W
      have s3 := c_seesNumber (X := X) (d := d + 2) (L := L) (J := J) v2 hq2 l2 h2
      rw [v1, cI_some, bX7_readPair_29, if_neg (by decide)]
      rw [show bd (.inr q2) (rN n A l2.toInt h2.toInt) = rN n A l2.toInt h2.toInt q2 from rfl]
      try dsimp only
      cases e3 : rN n A l2.toInt h2.toInt q2 with
      | inl e =>
        refine ⟨(fun q hq => by cases hq), fun e' he => ?_⟩
        cases he
        obtain ⟨I3, u1, u2, u3⟩ := s3.2 e e3
        exact ⟨I3, by rw [u1, cI_some, bX7_readPair_39, if_pos rfl], u2, f3.tr u3⟩
      | inr q3 =>
        obtain ⟨u1, u2, u3⟩ := s3.1 q3 e3
        have hq3 := (rN_le hq2 e3).1
        have f4 : FW I (zup I2 21 8 (tv9 n A q2)) := f3.up (by omega)
        obtain ⟨I3, t1, t2, t3⟩ := c_next (X := X) (d := d + 1) (L := L) (J := J) (f4.CB hb) hn hA hq3 (by rw [zup_f _ _ (by omega)]; exact u3)
        have f5 := f4.tr t3.W
        have s4 := c_passesSign (X := X) (d := d) (L := L) (J := J) (f5.CB hb) hn hA t2 hq3 59
        rw [u1, cI_some, bX7_readPair_39, if_neg (by decide), u2, t1, cV_some, bX7_readPair_56]
        rw [show bd (.inr q3) (rS n A 59) = rS n A 59 q3 from rfl]
        cases e4 : rS n A 59 q3 with
        | inl e =>
          refine ⟨(fun q hq => by cases hq), fun e' he => ?_⟩
          cases he
          obtain ⟨I4, r1, r2, r3⟩ := s4.2 e e4
          exact ⟨I4, by rw [r1, cI_some, bX7_readPair_62]; exact zret_b false _, r2, f5.tr r3⟩
        | inr q4 =>
          refine ⟨fun q hq => ?_, (fun e' he => by cases he)⟩
          cases hq
          obtain ⟨I4, r1, r2, r3⟩ := s4.1 q4 e4
          refine ⟨I4, by rw [r1, cI_some, bX7_readPair_62]; exact zret_b true _, r2, ?_, ?_, ?_, f5.tr r3.W⟩
          · rw [r3 21 7 (by omega), t3 21 7 (by omega), zup_f _ _ (by omega), v3 21 7 (by omega), k3 21 7 (by omega), zup_e]
          · rw [r3 21 8 (by omega), t3 21 8 (by omega), zup_e]
          · rw [r3 21 9 (by omega), t3 21 9 (by omega), zup_f _ _ (by omega), v3 21 9 (by omega), k3 21 9 (by omega), zup_f _ _ (by omega)]
end PARD
