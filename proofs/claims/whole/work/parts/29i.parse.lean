/-! reading a circuit: the whole of it, and the public call -/
section PARI
variable {X : Nat → Nat → Int32} {d : Nat} {L : List zK} {I : Nat → Nat → Int32} {J : Nat → Nat → Int64} {n : Nat} {A : Nat → Int32} {c : Cr}
/-- the reference's reading is over -/
theorem m_failed {s : (Int32 × Nat) ⊕ Cr} (h : MO n A I s) : (∀ e, s = .inl e → ∃ I', zcall X (d + 2) 168 [.inr (.inr (some (.inl 9, 283)))] (L, zB1, I, J) = some (some (.inl (1)), (L, zB1, I', J)) ∧ I' 283 17 = nI e.2 ∧ I' 283 18 = e.1 ∧ I' 283 11 = 0 ∧ (∀ a i, ¬ (a = 283 ∧ 11 ≤ i ∧ i ≤ 18) → I' a i = I a i)) ∧ (∀ c, s = .inr c → ∃ I', zcall X (d + 2) 168 [.inr (.inr (some (.inl 9, 283)))] (L, zB1, I, J) = some (some (.inl (0)), (L, zB1, I', J)) ∧ MAt I 288 c ∧ Iv c ∧ 0 < men c ∧ I' 283 18 = I 283 18 ∧ I' 283 11 = 0 ∧ (∀ a i, ¬ (a = 283 ∧ 11 ≤ i ∧ i ≤ 18) → I' a i = I a i)) := by
  have bad : ∀ (I1 : Nat → Nat → Int32) (e : Int32 × Nat), MS n A I1 (.inl e) → FX I I1 → ∃ I', zgo X (zcall X (d+1)) (some .boolean) kX9_failed 20 [some (.inr (.inr (some (.inl 9, 283))))] [] (L, zB1, I1, J) = some (some (.inl (1)), (L, zB1, I', J)) ∧ I' 283 17 = nI e.2 ∧ I' 283 18 = e.1 ∧ I' 283 11 = 0 ∧ (∀ a i, ¬ (a = 283 ∧ 11 ≤ i ∧ i ≤ 18) → I' a i = I a i) := by
    intro I1 e hM f1
    have hp := hM.2.1
    refine ⟨zup (zup I1 283 11 0) 283 18 e.1, ?_, ?_, zup_e _ _ _ _, ?_, fun a i k => ?_⟩
    · rw [bX9_failed_20, zup_f _ _ (by omega), hM.1, if_neg (by rw [i32_le, i0]; omega), bX9_failed_44, zup_f _ _ (by omega), zup_f _ _ (by omega), hM.1, if_neg (by rw [i32_le, i0]; omega)]
    · rw [zup_f _ _ (by omega), zup_f _ _ (by omega)]; exact hM.2.2
    · rw [zup_f _ _ (by omega), zup_e]
    · rw [zup_at, if_neg (by omega), zup_at, if_neg (by omega)]; exact f1 a i (by omega)
  rw [eX9_failed]
  rcases h with ⟨e, h1, h2⟩ | ⟨p, c0, h1, h2, h3, h4, h5⟩
  · subst h2
    refine ⟨fun e' he => ?_, (fun c hc => by cases hc)⟩
    cases he
    rw [h1.1, if_neg (pos_nz h1.2.1)]
    exact bad I e h1 (FX.rf I)
  · by_cases q : tt9 n A p = 0
    · rw [if_pos q] at h5
      subst h5
      refine ⟨(fun e' he => by cases he), fun c hc => ?_⟩
      cases hc
      rw [h1.1, if_pos rfl, if_pos (h1.t.1.2 q), bX9_failed_20, zup_f _ _ (by omega), h1.1, if_pos (by decide), zup_f _ _ (by omega), bX9_failed_44, zup_f _ _ (by omega), zup_f _ _ (by omega), h1.1, if_pos (by decide)]
      refine ⟨_, rfl, h2, h3, h4, zup_e _ _ _ _, ?_, fun a i k => ?_⟩
      · rw [zup_f _ _ (by omega), zup_e]
      · rw [zup_at, if_neg (by omega), zup_at, if_neg (by omega)]
    · rw [if_neg q] at h5
      subst h5
      refine ⟨fun e' he => ?_, (fun c hc => by cases hc)⟩
      cases he
      obtain ⟨I1, a1, a2, a4⟩ := m_bad (X := X) (d := d) (L := L) (J := J) (k := 1) h1 (by decide)
      rw [h1.1, if_pos rfl, if_neg (fun w => q (h1.t.1.1 w)), a1, cV_some]
      exact bad I1 (1, p) a2 a4
theorem m_zero (v : Nat → Nat → Int32) : ∃ I', zgo X (zcall X (d)) (some .int) kX9_circuit 11 [some (.inr (.inr (some (.inl 9, 283)))), some (.inl (0))] [] (L, zB1, I, J) = zgo X (zcall X (d)) (some .int) kX9_circuit 11 [some (.inr (.inr (some (.inl 9, 283)))), some (.inl (nI 43))] [] (L, zB1, I', J) ∧ (∀ k, k < 43 → I' 288 k = 0) ∧ FrM 288 I I' := by
  obtain ⟨I1, e1, h1, f1⟩ := zloopR (fun k (s : Nat → Nat → Int32) => zgo X (zcall X (d)) (some .int) kX9_circuit 11 [some (.inr (.inr (some (.inl 9, 283)))), some (.inl (nI k))] [] (L, zB1, s, J)) (fun k s => (∀ j, j < k → s 288 j = 0) ∧ FrM 288 I s) 43 (fun k s hk hp => by
    obtain ⟨h1, f1⟩ := hp
    try dsimp only at h1 f1 ⊢
    rw [bX9_circuit_11, if_neg (by show ¬ nI 43 ≤ nI k; rw [nle (by omega) (by omega)]; omega), zin_nI hk (by omega), zbt_t, ncl (by omega), nI_1]
    refine ⟨_, rfl, fun j hj => ?_, f1.up⟩
    rw [zup_at]
    by_cases e : j = k
    · rw [if_pos ⟨rfl, e⟩]
    · rw [if_neg (by omega)]; exact h1 j (by omega)) (a := I) ⟨fun j hj => by omega, FrM.rf _ _⟩
  exact ⟨I1, e1, h1, f1⟩
theorem m_copy146 (h : MAt I 288 c) (hv : Iv c) (v : Unit) : ∃ I', zgo X (zcall X (d)) (some .int) kX9_circuit 146 [some (.inr (.inr (some (.inl 9, 283)))), some (.inl (0))] [] (L, zB1, I, J) = some (some (.inl (nI (men c))), (L, zB1, I', J)) ∧ MAt I' 287 c ∧ FrM 287 I I' := by
  obtain ⟨I1, e1, h1, f1⟩ := zloopR (fun k (s : Nat → Nat → Int32) => zgo X (zcall X (d)) (some .int) kX9_circuit 146 [some (.inr (.inr (some (.inl 9, 283)))), some (.inl (nI k))] [] (L, zB1, s, J)) (fun k s => (∀ j, j < k → s 287 j = I 288 j) ∧ FrM 287 I s) 43 (fun k s hk hp => by
    obtain ⟨h1, f1⟩ := hp
    try dsimp only at h1 f1 ⊢
    rw [bX9_circuit_146, if_neg (by show ¬ nI 43 ≤ nI k; rw [nle (by omega) (by omega)]; omega), zin_nI hk (by omega), zbt_t, zbt_t, ncl (by omega), nI_1]
    refine ⟨_, rfl, fun j hj => ?_, f1.up⟩
    rw [zup_at]
    by_cases e : j = k
    · rw [if_pos ⟨rfl, e⟩, f1 288 (by omega), e]
    · rw [if_neg (by omega)]; exact h1 j (by omega)) (a := I) ⟨fun j hj => by omega, FrM.rf _ _⟩
  have hM : MAt I1 287 c := fun f i hv' => by
    rw [h1 _ (umx_mix hv.1 hv').2]
    exact h f i hv'
  refine ⟨I1, (show _ = _ from e1).trans ?_, hM, f1⟩
  try dsimp only
  rw [bX9_circuit_146, if_pos (by show nI 43 ≤ nI 43; rw [nle (by omega) (by omega)]; omega), show zin 0 43 = true from by decide, zbt_t, show I1 287 (0 : Int32).toNatClampNeg = nI (men c) from hM.men hv.1]
/-- the law's clause, and the first judge after it -/
theorem m_head (hb : MB n A I) (hn : n ≤ 120) (hA : ∀ k, k < n → rg (A k) 0 255) : ∃ I' v1, zcall X (d + 6) 174 [.inr (.inr (some (.inl 9, 283)))] (L, zB1, I, J) = zgo X (zcall X (d+5)) (some .int) kX9_circuit 82 [some (.inr (.inr (some (.inl 9, 283)))), some (.inl (v1))] [] (L, zB1, I', J) ∧ (∀ e, sA n A = .inl e → (sL n A 108 0 = false ∨ (∃ e', rP n A 1 9 1 60 (tn9 n A 0) = .inl e') ∨ (∃ q e', rP n A 1 9 1 60 (tn9 n A 0) = .inr q ∧ jd n A (bgC (tv9 n A (tn9 n A 0)) (tv9 n A (q2P n A 1 9 (tn9 n A 0)))) q = .inl e')) → MS n A I' (.inl e)) ∧ (∀ q q', sL n A 108 0 = true → rP n A 1 9 1 60 (tn9 n A 0) = .inr q → jd n A (bgC (tv9 n A (tn9 n A 0)) (tv9 n A (q2P n A 1 9 (tn9 n A 0)))) q = .inr q' → MS n A I' (.inr q') ∧ MAt I' 288 (nJ n A (bgC (tv9 n A (tn9 n A 0)) (tv9 n A (q2P n A 1 9 (tn9 n A 0)))) q)) ∧ FQ (zup I 283 0 0) I' := by
  have f0 : FX (zup I 283 0 0) (zup (zup (zup I 283 0 0) 283 12 0) 283 16 0) := fun a i k => by rw [zup_at, if_neg (by omega), zup_at, if_neg (by omega)]
  have hb0 : MB n A (zup I 283 0 0) := ⟨by rw [zup_f _ _ (by omega)]; exact hb.1, fun k hk => by rw [zup_ne (by omega)]; exact hb.2 k hk⟩
  obtain ⟨I1, a1, a2, a3⟩ := m_next (X := X) (d := d + 2) (L := L) (J := J) (f0.MB hb0) hn hA (show 0 ≤ n by omega) (by rw [zup_f _ _ (by omega), zup_e]; rfl)
  have f1 := f0.tr a3.X
  have h16 : I1 283 16 = 0 := by rw [a3 283 16 (by omega), zup_e]
  obtain ⟨I2, b1, b2, b3⟩ := m_zero (X := X) (d := d + 5) (L := L) (J := J) (I := I1) I1
  have hS : MS n A I2 (.inr 0) := MS.up (show MS n A I1 (.inr 0) from ⟨h16, a2, by omega⟩) (fun i _ _ => by rw [b3 283 (by omega)])
  have f2 : FQ (zup I 283 0 0) I2 := f1.Q.tr (fun a i _ k2 => by rw [b3 a k2])
  obtain ⟨I3, c1, c2, c3⟩ := m_must (X := X) (d := d + 2) (L := L) (J := J) (f2.MB hb0) hn hA hS (sL n A 108 0) (fun p hp hk => by cases hp; have := sL_t hk; omega)
  have f3 := f2.tr c3.Q
  obtain ⟨v1, I4, d1, d2, d3, d4⟩ := m_number (X := X) (d := d + 1) (L := L) (J := J) (f3.MB hb0) hn hA c2 1 9
  rw [show (1 : Int32).toInt = 1 from rfl, show (9 : Int32).toInt = 9 from rfl] at d2 d3
  have d2u : MS n A (zup I4 288 2 v1) _ := d2.up (fun i _ _ => by rw [zup_ne (by omega)])
  have f4 : FQ (zup I 283 0 0) (zup I4 288 2 v1) := f3.tr (fun a i k1 k2 => by rw [zup_ne k2]; exact d4 a i k1)
  obtain ⟨I5, e1, e2, e3⟩ := m_mustSign (X := X) (d := d + 1) (L := L) (J := J) (f4.MB hb0) hn hA d2u 44
  have f5 := f4.tr e3.Q
  obtain ⟨v2, I6, g1, g2, g3, g4⟩ := m_number (X := X) (d := d + 1) (L := L) (J := J) (f5.MB hb0) hn hA e2 1 60
  rw [show (1 : Int32).toInt = 1 from rfl, show (60 : Int32).toInt = 60 from rfl] at g2 g3
  have g2u : MS n A (zup I6 288 3 v2) _ := g2.up (fun i _ _ => by rw [zup_ne (by omega)])
  have f6 : FQ (zup I 283 0 0) (zup I6 288 3 v2) := f5.tr (fun a i k1 k2 => by rw [zup_ne k2]; exact g4 a i k1)
  obtain ⟨I7, h1, h2, h3⟩ := m_mustSign (X := X) (d := d + 1) (L := L) (J := J) (f6.MB hb0) hn hA g2u 59
  have f7 := f6.tr h3.Q
  have m288 : ∀ k, k < 43 → I7 288 k = if k = 3 then v2 else if k = 2 then v1 else 0 := by
    intro k hk
    rw [h3 288 k (by omega), zup_at]
    by_cases q3 : k = 3
    · rw [if_pos ⟨rfl, q3⟩, if_pos q3]
    · rw [if_neg (fun q => q3 q.2), if_neg q3, g4 288 k (by omega), e3 288 k (by omega), zup_at]
      by_cases q2 : k = 2
      · rw [if_pos ⟨rfl, q2⟩, if_pos q2]
      · rw [if_neg (fun q => q2 q.2), if_neg q2, d4 288 k (by omega), c3 288 k (by omega)]
        exact b2 k hk
  have hMb : MAt I7 288 (bgC v1 v2) := by
    intro f i hv
    have hv2 : f = 0 ∧ i < 5 := by
      unfold vld at hv
      rw [(bgC_n v1 v2).1, (bgC_n v1 v2).2] at hv
      omega
    obtain ⟨rfl, hi⟩ := hv2
    have : i = 0 ∨ i = 1 ∨ i = 2 ∨ i = 3 ∨ i = 4 := by omega
    rcases this with rfl | rfl | rfl | rfl | rfl
    · exact m288 1 (by omega)
    · exact m288 0 (by omega)
    · exact m288 2 (by omega)
    · exact m288 3 (by omega)
    · exact m288 4 (by omega)
  have hq := (tk_le (A := A) (show 0 ≤ n by omega)).2
  -- the state after the clause
  have ok : ∀ q, sL n A 108 0 = true → rP n A 1 9 1 60 (tn9 n A 0) = .inr q → MS n A I7 (.inr q) ∧ v1 = tv9 n A (tn9 n A 0) ∧ v2 = tv9 n A (q2P n A 1 9 (tn9 n A 0)) ∧ rg v1 0 9 := by
    intro q hl eP
    obtain ⟨q1, q3, o1, o2, o3⟩ := bd_P hq eP
    obtain ⟨_, _, _, _, _, _, _, o6, o7⟩ := rP_ok hq eP
    have ev1 : v1 = tv9 n A (tn9 n A 0) := d3 (tn9 n A 0) q1 (by unfold mR; rw [hl]; rfl) o1
    have em : mR n A (.inr 0) (sL n A 108 0) = .inr (tn9 n A 0) := by unfold mR; rw [hl]; rfl
    rw [em] at g3 h2
    have ev2 : v2 = tv9 n A (q2P n A 1 9 (tn9 n A 0)) := g3 (q2P n A 1 9 (tn9 n A 0)) q3 o2 o3
    refine ⟨?_, ev1, ev2, by rw [ev1]; exact ⟨by have := (wi_iff.1 o6).1; omega, (wi_iff.1 o6).2⟩⟩
    rw [show bd (bd (bd (bd (.inr (tn9 n A 0)) (rN n A 1 9)) (rS n A 44)) (rN n A 1 60)) (rS n A 59) = rP n A 1 9 1 60 (tn9 n A 0) from rfl, eP] at h2
    exact h2
  have head : zcall X (d + 6) 174 [.inr (.inr (some (.inl 9, 283)))] (L, zB1, I, J) = cV (zcall X (d + 5) 172 [.inr (.inr (some (.inl 9, 283)))] (L, zB1, I7, J)) (fun σ => zgo X (zcall X (d+5)) (some .int) kX9_circuit 82 [some (.inr (.inr (some (.inl 9, 283)))), some (.inl (nI 43))] [] σ) := by
    rw [eX9_circuit, eX9_begin, a1, cV_some, bX9_begin_14, cV_some, bX9_circuit_9]
    refine (congrArg _ rfl).trans ?_
    rw [b1, bX9_circuit_11, if_pos (by show nI 43 ≤ nI 43; rw [nle (by omega) (by omega)]; omega), m_isLetter hS, cI_some, bX9_circuit_37, show lB n A 108 (.inr 0) = sL n A 108 0 from rfl, c1, cV_some, bX9_circuit_40, d1, cI_some, bX9_circuit_52, show zin 2 43 = true from by decide, zbt_t, show (2 : Int32).toNatClampNeg = 2 from rfl, e1, cV_some, bX9_circuit_59, g1, cI_some, bX9_circuit_71, show zin 3 43 = true from by decide, zbt_t, show (3 : Int32).toNatClampNeg = 3 from rfl, h1, cV_some, bX9_circuit_78]
  -- failed, or not
  by_cases hok : sL n A 108 0 = true ∧ ∃ q, rP n A 1 9 1 60 (tn9 n A 0) = .inr q
  · obtain ⟨hl, q, eP⟩ := hok
    obtain ⟨s1, s2, s3, s4⟩ := ok q hl eP
    obtain ⟨I8, k1, k2, k3, k4⟩ := m_readJudge (X := X) (d := d) (L := L) (J := J) (c := bgC v1 v2) (f7.MB hb0) hn hA s1 (fun p hp => ⟨hMb, Iv_bgC v2 s4, (bgC_n v1 v2).1⟩)
    have k2' : MS n A I8 (jd n A (bgC v1 v2) q) := k2
    rw [← s2, ← s3]
    refine ⟨I8, nI 43, by rw [head, k1, cV_some], fun e he hh => ?_, fun q0 q' _ eP' ej => ?_, f7.tr k4⟩
    · have hj : ∃ e', jd n A (bgC v1 v2) q = .inl e' := by
        rcases hh with w | ⟨e', w⟩ | ⟨q0, e', w, w2⟩
        · rw [hl] at w; cases w
        · rw [eP] at w; cases w
        · rw [eP] at w; injection w with w; rw [w]; exact ⟨e', w2⟩
      obtain ⟨e', ej⟩ := hj
      rw [ej] at k2'
      have : e = e' := by
        unfold sA at he
        rw [hl, if_pos rfl, eP, ← s2, ← s3] at he
        have he : bd (sJ n A (3 + 1) q (bgC v1 v2)) (fun w => sM n A 6 w.2 w.1) = .inl e := he
        rw [sJ_s] at he
        unfold jd at ej
        by_cases w : sL n A 106 q = true
        · rw [if_pos w, if_neg (by rw [(bgC_n v1 v2).2]; omega)] at ej
          rw [if_pos w, ej] at he
          injection he with he
          exact he.symm
        · rw [if_neg w] at ej
          rw [if_neg w, if_neg (by rw [(bgC_n v1 v2).2]; omega)] at he
          injection ej with ej
          injection he with he
          rw [← ej, ← he]
      rw [this]; exact k2'
    · rw [eP] at eP'
      injection eP' with eP'
      subst eP'
      rw [ej] at k2'
      exact ⟨k2', k3 q q' rfl ej⟩
  · -- the clause failed
    have hbad : ∃ e, bd (bd (bd (bd (mR n A (.inr 0) (sL n A 108 0)) (rN n A 1 9)) (rS n A 44)) (rN n A 1 60)) (rS n A 59) = .inl e ∧ sA n A = .inl e := by
      cases hl : sL n A 108 0 with
      | false => exact ⟨(1, 0), rfl, by unfold sA; rw [hl, if_neg (by decide)]⟩
      | true =>
        cases eP : rP n A 1 9 1 60 (tn9 n A 0) with
        | inr q => exact absurd ⟨hl, q, eP⟩ hok
        | inl e => exact ⟨e, eP, by unfold sA; rw [hl, if_pos rfl, eP]; rfl⟩
    obtain ⟨e, w1, w2⟩ := hbad
    rw [w1] at h2
    obtain ⟨I8, k1, k2, k3, k4⟩ := m_readJudge (X := X) (d := d) (L := L) (J := J) (c := bgC v1 v2) (f7.MB hb0) hn hA h2 (fun p hp => by cases hp)
    refine ⟨I8, nI 43, by rw [head, k1, cV_some], fun e' he _ => ?_, fun q q' hl eP => absurd ⟨hl, q, eP⟩ hok, f7.tr k4⟩
    rw [w2] at he
    injection he with he
    rw [← he]; exact k2
end PARI
