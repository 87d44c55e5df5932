/-! circuit: the reference, and the public call -/
section PARJ
variable {X : Nat → Nat → Int32} {d : Nat} {L : List zK} {I : Nat → Nat → Int32} {J : Nat → Nat → Int64} {n : Nat} {A : Nat → Int32} {c : Cr}
theorem m_read (hb : MB n A I) (hn : n ≤ 120) (hA : ∀ k, k < n → rg (A k) 0 255) : ∃ I3 v1, zcall X (d + 6) 174 [.inr (.inr (some (.inl 9, 283)))] (L, zB1, I, J) = cI (zcall X (d + 5) 168 [.inr (.inr (some (.inl 9, 283)))] (L, zB1, I3, J)) (fun r9 σ => zgo X (zcall X (d+5)) (some .int) kX9_circuit 128 [some (.inr (.inr (some (.inl 9, 283)))), some (.inl (v1))] [.inl r9] σ) ∧ MO n A I3 (sA n A) ∧ FQ (zup I 283 0 0) I3 := by
  have hb0 : MB n A (zup I 283 0 0) := ⟨by rw [zup_f _ _ (by omega)]; exact hb.1, fun k hk => by rw [zup_ne (by omega)]; exact hb.2 k hk⟩
  obtain ⟨I1, v1, e1, hF, hO, f1⟩ := m_head (X := X) (d := d) (L := L) (J := J) hb hn hA
  -- a failed reading goes through
  have lost : ∀ (I2 : Nat → Nat → Int32) (e : Int32 × Nat), MS n A I2 (.inl e) → FQ (zup I 283 0 0) I2 → sA n A = .inl e → ∃ I3, cI (zcall X (d + 5) 171 [.inr (.inr (some (.inl 9, 283)))] (L, zB1, I2, J)) (fun r9 σ => zgo X (zcall X (d+5)) (some .int) kX9_circuit 102 [some (.inr (.inr (some (.inl 9, 283)))), some (.inl (v1))] [.inl r9] σ) = cI (zcall X (d + 5) 168 [.inr (.inr (some (.inl 9, 283)))] (L, zB1, I3, J)) (fun r9 σ => zgo X (zcall X (d+5)) (some .int) kX9_circuit 128 [some (.inr (.inr (some (.inl 9, 283)))), some (.inl (v1))] [.inl r9] σ) ∧ MO n A I3 (sA n A) ∧ FQ (zup I 283 0 0) I3 := by
    intro I2 e hM f2 es
    obtain ⟨I3, a1, a2, a3⟩ := m_bad (X := X) (d := d + 4) (L := L) (J := J) (k := 1) hM (by decide)
    have a2' : MS n A I3 (.inl e) := a2
    refine ⟨I3, ?_, Or.inl ⟨e, a2', es⟩, f2.tr a3.Q⟩
    rw [m_isSort hM, cI_some, bX9_circuit_102, show sB n A (.inl e) = false from rfl, if0, a1, cV_some, m_M110l a2']
  by_cases hl : sL n A 108 0 = true
  · cases eP : rP n A 1 9 1 60 (tn9 n A 0) with
    | inl e =>
      have es : sA n A = .inl e := by unfold sA; rw [if_pos hl, eP]; rfl
      have hM := hF e es (Or.inr (Or.inl ⟨e, eP⟩))
      obtain ⟨I3, b1, b2, b3⟩ := lost I1 e hM f1 es
      exact ⟨I3, v1, by rw [e1, m_J82l hM, b1], b2, b3⟩
    | inr q =>
      have hq := (tk_le (A := A) (show 0 ≤ n by omega)).2
      obtain ⟨_, _, _, _, _, _, o5, o6, o7⟩ := rP_ok hq eP
      have hbg := bgC_n (tv9 n A (tn9 n A 0)) (tv9 n A (q2P n A 1 9 (tn9 n A 0)))
      have hrg : rg (tv9 n A (tn9 n A 0)) 0 9 := ⟨by have := (wi_iff.1 o6).1; omega, (wi_iff.1 o6).2⟩
      have hIb := Iv_bgC (tv9 n A (q2P n A 1 9 (tn9 n A 0))) hrg
      have es0 : sA n A = bd (sJ n A (3 + 1) q (bgC (tv9 n A (tn9 n A 0)) (tv9 n A (q2P n A 1 9 (tn9 n A 0))))) (fun w => sM n A 6 w.2 w.1) := by unfold sA; rw [if_pos hl, eP]; rfl
      generalize hbgC : bgC (tv9 n A (tn9 n A 0)) (tv9 n A (q2P n A 1 9 (tn9 n A 0))) = bg at *
      cases ej : jd n A bg q with
      | inl e =>
        have es : sA n A = .inl e := by
          rw [es0, sJ_s]
          unfold jd at ej
          by_cases w : sL n A 106 q = true
          · rw [if_pos w, if_neg (by rw [hbg.2]; omega)] at ej
            rw [if_pos w, ej]; rfl
          · rw [if_neg w] at ej
            rw [if_neg w, if_neg (by rw [hbg.2]; omega)]
            injection ej with ej
            rw [← ej]; rfl
        have hM := hF e es (Or.inr (Or.inr ⟨q, e, eP, ej⟩))
        obtain ⟨I3, b1, b2, b3⟩ := lost I1 e hM f1 es
        exact ⟨I3, v1, by rw [e1, m_J82l hM, b1], b2, b3⟩
      | inr q' =>
        obtain ⟨hM, hMt⟩ := hO q q' hl eP ej
        have hsl : sL n A 106 q = true ∧ rP n A 0 9 0 1 (tn9 n A q) = .inr q' := by
          unfold jd at ej
          by_cases w : sL n A 106 q = true
          · rw [if_pos w, if_neg (by rw [hbg.2]; omega)] at ej
            exact ⟨w, ej⟩
          · rw [if_neg w] at ej; cases ej
        have hq2 := (tk_le (A := A) o5).2
        obtain ⟨_, _, _, _, _, _, p5, p6, p7⟩ := rP_ok hq2 hsl.2
        obtain ⟨n1, n2⟩ := adJ_n (c := bg) (by omega) (tv9 n A (tn9 n A q)) (tv9 n A (q2P n A 0 9 (tn9 n A q)))
        have hIv1 : Iv (nJ n A bg q) := Iv_adJ hIb hbg.1 (by omega) (wi_rg p6) (wi_rg p7)
        obtain ⟨I2, a1, a2, a3, a4⟩ := m_loopJ (X := X) (d := d) (L := L) (J := J) hn hA v1 3 q' (nJ n A bg q) I1 (by show jud (adJ bg _ _) + 3 = 4; omega) (by show 0 < jud (adJ bg _ _); omega) hIv1 (by show men (adJ bg _ _) = 0; omega) (f1.MB hb0) hM hMt
        have es1 : sJ n A (3 + 1) q bg = sJ n A 3 q' (nJ n A bg q) := by rw [sJ_s, if_pos hsl.1, hsl.2]; rfl
        rw [es1] at es0
        have f2 := f1.tr a4
        cases ew : sJ n A 3 q' (nJ n A bg q) with
        | inl e =>
          have es : sA n A = .inl e := by rw [es0, ew]; rfl
          obtain ⟨I3, b1, b2, b3⟩ := lost I2 e (a2 e ew) f2 es
          exact ⟨I3, v1, by rw [e1, a1, b1], b2, b3⟩
        | inr w =>
          obtain ⟨hM2, hMt2, hIv2, h02⟩ := a3 w ew
          have es : sA n A = sM n A 6 w.2 w.1 := by rw [es0, ew]; rfl
          by_cases hs : srt n A w.2 = 0
          · obtain ⟨I3, b1, b2, b3⟩ := m_bad (X := X) (d := d + 4) (L := L) (J := J) (k := 1) hM2 (by decide)
            have b2' : MS n A I3 (.inl (1, w.2)) := b2
            refine ⟨I3, v1, ?_, Or.inl ⟨(1, w.2), b2', ?_⟩, f2.tr b3.Q⟩
            · rw [e1, a1, m_isSort hM2, cI_some, bX9_circuit_102, show sB n A (.inr w.2) = !decide (srt n A w.2 = 0) from rfl, decide_eq_true hs, Bool.not_true, if0, b1, cV_some, m_M110l b2']
            · rw [es, show (6 : Nat) = 5 + 1 from rfl, sM_s, if_pos hs, if_neg (by omega)]
          · obtain ⟨I3, b1, b2, b3⟩ := m_loopM (X := X) (d := d) (L := L) (J := J) hn hA v1 6 w.2 w.1 I2 (by omega) (Or.inr hs) hIv2 (f2.MB hb0) hM2 hMt2
            refine ⟨I3, v1, ?_, by rw [es]; exact b2, f2.tr b3⟩
            rw [e1, a1, m_isSort hM2, cI_some, bX9_circuit_102, show sB n A (.inr w.2) = !decide (srt n A w.2 = 0) from rfl, decide_eq_false hs, Bool.not_false, if1, b1]
  · have hl2 : sL n A 108 0 = false := Bool.eq_false_iff.2 hl
    have es : sA n A = .inl (1, 0) := by unfold sA; rw [if_neg hl]
    have hM := hF (1, 0) es (Or.inl hl2)
    obtain ⟨I3, b1, b2, b3⟩ := lost I1 (1, 0) hM f1 es
    exact ⟨I3, v1, by rw [e1, m_J82l hM, b1], b2, b3⟩
theorem p_circuit : Pub X (d + 20) L 112 174 [] := by
  intro I J hr
  obtain ⟨hR, ⟨c0, hC0, hM0, hv0⟩, ⟨n, hn, t1, t2, t3, t4⟩, hP, hI, hTr, hS⟩ := hr
  have hcb : CB n (fun k => I 22 k) I := ⟨t1, fun k _ => rfl⟩
  have hA : ∀ k, k < n → rg ((fun k => I 22 k) k) 0 255 := fun k hk => (t3 k hk).2
  have cl := c_readAll (X := X) (d := d + 11) (L := L) (J := J) hcb hn hA
  have c1 := eX8_circuit X (d + 19) L I J
  generalize hAA : (fun k => I 22 k) = A at *
  have e291 : ∀ k, k < n → I 291 k = A k := fun k hk => by rw [← hAA]; exact (t3 k hk).1.symm
  cases es : sA n A with
  | inl e =>
    obtain ⟨I1, a1, a2, a3⟩ := cl.2 e es
    rw [a1, cQ_some, bX8_circuit_7] at c1
    try dsimp only at c1
    rw [eX7_faultPlace, cI_some, bX8_circuit_21, zup_f _ _ (by omega), a2.2] at c1
    have fr : ∀ a i, ¬ (a = 21 ∧ 2 ≤ i ∧ i ≤ 10) → ¬ (23 ≤ a ∧ a ≤ 30) → zup I1 21 2 0 a i = I a i := fun a i k1 k2 => by
      rw [zup_at, if_neg (by omega)]; exact a3 a i (by omega) k2
    have hmb : MB n A (zup I1 21 2 0) := ⟨by rw [fr 283 11 (by omega) (by omega)]; exact t2, fun k hk => by rw [fr 291 k (by omega) (by omega)]; exact e291 k hk⟩
    obtain ⟨I3, v1, b1, b2, b3⟩ := m_read (X := X) (d := d + 14) (L := L) (J := J) hmb hn hA
    obtain ⟨I4, d1, d2, d3, d4, d5⟩ := (m_failed (X := X) (d := d + 17) (L := L) (J := J) b2).1 e es
    refine ⟨_, _, J, I4, c1, ?_, ?_⟩
    · rw [b1, d1, cI_some, bX9_circuit_128, if_neg (by decide), d2]
    · have f3 : ∀ a i, ¬ (a = 21 ∧ 2 ≤ i ∧ i ≤ 10) → ¬ (23 ≤ a ∧ a ≤ 30) → ¬ (a = 283 ∧ (i = 0 ∨ 11 ≤ i ∧ i ≤ 18)) → a ≠ 288 → I4 a i = I a i := by
        intro a i k1 k2 k3 k4
        rw [d5 a i (by omega), b3 a i (by omega) k4, zup_at, if_neg (by omega), fr a i k1 k2]
      have g21 : ∀ i, I4 21 i = zup I1 21 2 0 21 i := fun i => by rw [d5 21 i (by omega), b3 21 i (by omega) (by omega), zup_ne (by omega)]
      refine ⟨hR.cg (fun a i h => f3 a i (by omega) (by omega) (by omega) (by omega)), ⟨c0, RCir.cg ⟨hC0, hM0, hv0⟩ (fun a i h => f3 a i (by omega) (by omega) (by omega) (by omega))⟩, ⟨0, by omega, ?_, ?_, fun k hk => by omega, ?_⟩, hP.cg (fun a i h => f3 a i (by omega) (by omega) (by omega) (by omega)), hI.cg (fun a i h => f3 a i (by omega) (by omega) (by omega) (by omega)), hTr.cg (fun a i h => f3 a i (by omega) (by omega) (by omega) (by omega)), hS.cg (fun a i h => f3 a i (by omega) (by omega) (by omega) (by omega))⟩
      · rw [g21, zup_e]; rfl
      · rw [d4]; rfl
      · rw [g21, zup_f _ _ (by omega), a2.1, d3]
  | inr c =>
    obtain ⟨I1, a1, a2, a3, a4, a5, a6⟩ := cl.1 c es
    rw [a1, cQ_some, bX8_circuit_7] at c1
    try dsimp only at c1
    have hC1 : CAt (zup I1 21 2 0) 23 c := fun f i hv' => by rw [zup_ne (by omega)]; exact a2 f i hv'
    obtain ⟨I2, b1, b2, b3⟩ := c_takeFrom (X := X) (d := d + 18) (L := L) (J := J) (b := 13) hC1 a3.1 (by omega)
    rw [b1, cV_some, bX8_circuit_31, eX4_forget, cV_some, bX8_circuit_38, zup_ne (by omega), show I2 13 1 = nI (men c) from b2.men a3.1] at c1
    have fr : ∀ a i, ¬ (a = 21 ∧ 2 ≤ i ∧ i ≤ 10) → ¬ (13 ≤ a ∧ a ≤ 20) → ¬ (23 ≤ a ∧ a ≤ 30) → ¬ (a = 31 ∧ i = 2) → zup I2 31 2 0 a i = I a i := fun a i k1 k2 k3 k4 => by
      rw [zup_at, if_neg k4, b3 a (by omega), zup_at, if_neg (by omega)]; exact a6 a i (by omega) k3
    have hmb : MB n A (zup I2 31 2 0) := ⟨by rw [fr 283 11 (by omega) (by omega) (by omega) (by omega)]; exact t2, fun k hk => by rw [fr 291 k (by omega) (by omega) (by omega) (by omega)]; exact e291 k hk⟩
    obtain ⟨I3, v1, d1, d2, d3⟩ := m_read (X := X) (d := d + 14) (L := L) (J := J) hmb hn hA
    obtain ⟨I4, g1, g2, g3, g4, g5, g6, g7⟩ := (m_failed (X := X) (d := d + 17) (L := L) (J := J) d2).2 c es
    have hM4 : MAt (zup I4 283 9 0) 288 c := fun f i hv' => by rw [zup_ne (by omega), g7 288 _ (by omega)]; exact g2 f i hv'
    obtain ⟨I5, h1, h2, h3⟩ := m_copy146 (X := X) (d := d + 19) (L := L) (J := J) hM4 g3 ()
    refine ⟨_, _, J, I5, c1, ?_, ?_⟩
    · rw [d1, g1, cI_some, bX9_circuit_128, if_pos rfl, h1]
    · have f3 : ∀ a i, ¬ (a = 21 ∧ 2 ≤ i ∧ i ≤ 10) → ¬ (13 ≤ a ∧ a ≤ 20) → ¬ (23 ≤ a ∧ a ≤ 30) → ¬ (a = 31 ∧ i = 2) → ¬ (a = 283 ∧ (i = 0 ∨ i = 9 ∨ 11 ≤ i ∧ i ≤ 18)) → a ≠ 288 → a ≠ 287 → I5 a i = I a i := by
        intro a i k1 k2 k3 k4 k5 k6 k7
        rw [h3 a k7, zup_at, if_neg (by omega), g7 a i (by omega), d3 a i (by omega) k6, zup_at, if_neg (by omega), fr a i k1 k2 k3 k4]
      have g0 : ∀ a i, a ≠ 283 → a ≠ 287 → a ≠ 288 → I5 a i = zup I2 31 2 0 a i := fun a i k1 k2 k3 => by
        rw [h3 a k2, zup_ne k1, g7 a i (by omega), d3 a i (by omega) k3, zup_ne k1]
      have hC5 : CAt I5 13 c := fun f i hv' => by
        have := vld_le hv'
        rw [g0 _ _ (by omega) (by omega) (by omega), zup_ne (by omega)]
        exact b2 f i hv'
      have e11 : I5 283 11 = 0 := by rw [h3 283 (by omega), zup_f _ _ (by omega)]; exact g6
      have e18 : I5 283 18 = I 283 18 := by
        rw [h3 283 (by omega), zup_f _ _ (by omega), g5, d3 283 18 (by omega) (by omega), zup_f _ _ (by omega), fr 283 18 (by omega) (by omega) (by omega) (by omega)]
      have e9 : I5 283 9 = 0 := by rw [h3 283 (by omega), zup_e]
      refine ⟨hR.cg (fun a i h => f3 a i (by omega) (by omega) (by omega) (by omega) (by omega) (by omega) (by omega)), ⟨c, hC5, h2, a3⟩, ⟨0, by omega, ?_, ?_, fun k hk => by omega, ?_⟩, ?_, hI.cg (fun a i h => f3 a i (by omega) (by omega) (by omega) (by omega) (by omega) (by omega) (by omega)), hTr.cg (fun a i h => f3 a i (by omega) (by omega) (by omega) (by omega) (by omega) (by omega) (by omega)), hS.cg (fun a i h => f3 a i (by omega) (by omega) (by omega) (by omega) (by omega) (by omega) (by omega))⟩
      · rw [g0 21 2 (by omega) (by omega) (by omega), zup_ne (by omega), b3 21 (by omega), zup_e]; rfl
      · rw [e11]; rfl
      · rw [g0 21 9 (by omega) (by omega) (by omega), zup_ne (by omega), b3 21 (by omega), zup_f _ _ (by omega), a5, e18]; exact t4
      · obtain ⟨_, o, P, _, ho, _, _, ho2, _⟩ := hP
        refine ⟨0, o, P, by omega, ho, ?_, ?_, ?_, fun k hk => by omega⟩
        · rw [g0 31 2 (by omega) (by omega) (by omega), zup_e]; rfl
        · rw [e9]; rfl
        · rw [f3 31 1 (by omega) (by omega) (by omega) (by omega) (by omega) (by omega) (by omega)]; exact ho2
end PARJ
