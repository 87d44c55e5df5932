/-! reading a circuit: the reference, men and the whole -/
section PARH
variable {X : Nat → Nat → Int32} {d : Nat} {L : List zK} {I : Nat → Nat → Int32} {J : Nat → Nat → Int64} {n : Nat} {A : Nat → Int32} {r : (Int32 × Nat) ⊕ Nat} {c : Cr}
theorem m_tailM (hb : MB n A I) (hn : n ≤ 120) (hA : ∀ k, k < n → rg (A k) 0 255) (h : MS n A I r) {hi : Int} (hhi : (I 288 1 - 1).toInt = hi) (k : Int32) (hr : ∀ p, r = .inr p → p ≤ n ∧ MAt I 288 c ∧ Iv c ∧ men c < 6 ∧ rg k 1 5 ∧ hi = (jud c : Int) - 1) : ∃ I', zgo X (zcall X (d+4)) none kX9_readMan 29 [some (.inr (.inr (some (.inl 9, 283)))), some (.inl (k)), none, none, none] [] (L, zB1, I, J) = some (none, (L, zB1, I', J)) ∧ MS n A I' (bd (bd (bd (bd r (rN n A 0 hi)) (rS n A 44)) (rN n A 1 30)) (rS n A 59)) ∧ (∀ p q, r = .inr p → rP n A 0 hi 1 30 p = .inr q → MAt I' 288 (adM c k (tv9 n A p) (tv9 n A (q2P n A 0 hi p)))) ∧ FQ I I' := by
  obtain ⟨v1, I1, a1, a2, a3, a4⟩ := m_number (X := X) (d := d) (L := L) (J := J) hb hn hA h 0 (I 288 1 - 1)
  rw [show (0 : Int32).toInt = 0 from rfl, hhi] at a2 a3
  obtain ⟨I2, b1, b2, b4⟩ := m_mustSign (X := X) (d := d) (L := L) (J := J) (a4.MB hb) hn hA a2 44
  have f2 := a4.tr b4
  obtain ⟨v2, I3, c1, c2, c3, c4⟩ := m_number (X := X) (d := d) (L := L) (J := J) (f2.MB hb) hn hA b2 1 30
  rw [show (30 : Int32).toInt = 30 from rfl, show (1 : Int32).toInt = 1 from rfl] at c2 c3
  have f3 := f2.tr c4
  obtain ⟨I4, d1, d2, d4⟩ := m_mustSign (X := X) (d := d) (L := L) (J := J) (f3.MB hb) hn hA c2 59
  have f4 := f3.tr d4
  rw [bX9_readMan_29, show zin 1 43 = true from by decide, zbt_t, show (1 : Int32).toNatClampNeg = 1 from rfl, a1, cI_some, bX9_readMan_42, b1, cV_some, bX9_readMan_49, c1, cI_some, bX9_readMan_56, d1, cV_some, bX9_readMan_63]
  cases e : bd (bd (bd (bd r (rN n A 0 hi)) (rS n A 44)) (rN n A 1 30)) (rS n A 59) with
  | inl x9 =>
    rw [e] at d2
    rw [d2.1, if_neg (pos_nz d2.2.1)]
    refine ⟨I4, rfl, d2, (fun p q hp hq => ?_), f4.Q⟩
    rw [hp] at e
    rw [show bd (bd (bd (bd (.inr p) (rN n A 0 hi)) (rS n A 44)) (rN n A 1 30)) (rS n A 59) = rP n A 0 hi 1 30 p from rfl, hq] at e
    cases e
  | inr q =>
    rw [e] at d2
    cases r with
    | inl x9 => cases e
    | inr p =>
      obtain ⟨hp, hM, hv, hk, hrk, hj⟩ := hr p rfl
      have eP : rP n A 0 hi 1 30 p = .inr q := e
      obtain ⟨q1, q3, o1, o2, o3⟩ := bd_P hp eP
      obtain ⟨_, _, _, _, _, _, _, o6, o7⟩ := rP_ok hp eP
      have ev1 : v1 = tv9 n A p := a3 p q1 rfl o1
      have ev2 : v2 = tv9 n A (q2P n A 0 hi p) := c3 (q2P n A 0 hi p) q3 o2 o3
      subst ev1 ev2
      have hM4 := f4.MAt hM (by omega)
      have hz : zin (tv9 n A p) (jud c) = true := zin_iff.2 ⟨(wi_iff.1 o6).1, by have := (wi_iff.1 o6).2; omega⟩
      have hIv := Iv_adM hv hk hrk hz (wi_rg o7)
      have ej : I4 288 (0 : Int32).toNatClampNeg = nI (men c) := hM4.men hv.1
      have i13 : 13 + (5 * nI (men c)) = nI (13 + 5 * men c) := by
        show nI 13 + nI 5 * nI (men c) = _
        rw [nI_mul, nI_add]
      have ia : ∀ j : Nat, nI (13 + 5 * men c) + nI j = nI (13 + 5 * men c + j) := fun j => nI_add _ _
      have z1 : ∀ (M : Nat → Nat → Int32) (k v : _), k ≠ 0 → zup M 288 k v 288 (0 : Int32).toNatClampNeg = M 288 (0 : Int32).toNatClampNeg := fun M k v hk => zup_f M v (by show 0 ≠ k; omega)
      rw [d2.1, if_pos rfl, show zin 0 43 = true from by decide, zbt_t, ej, i13, show nI (13 + 5 * men c) + 1 = nI (13 + 5 * men c + 1) from ia 1, show nI (13 + 5 * men c) + 2 = nI (13 + 5 * men c + 2) from ia 2, show nI (13 + 5 * men c) + 3 = nI (13 + 5 * men c + 3) from ia 3, show nI (13 + 5 * men c) + 4 = nI (13 + 5 * men c + 4) from ia 4, zin_nI (show 13 + 5 * men c < 43 by omega) (by omega), zbt_t, zin_nI (show 13 + 5 * men c + 1 < 43 by omega) (by omega), zbt_t, zin_nI (show 13 + 5 * men c + 2 < 43 by omega) (by omega), zbt_t, zin_nI (show 13 + 5 * men c + 3 < 43 by omega) (by omega), zbt_t, zin_nI (show 13 + 5 * men c + 4 < 43 by omega) (by omega), zbt_t, zbt_t, zbt_t, ncl (show 13 + 5 * men c < 2 ^ 31 by omega), ncl (show 13 + 5 * men c + 1 < 2 ^ 31 by omega), ncl (show 13 + 5 * men c + 2 < 2 ^ 31 by omega), ncl (show 13 + 5 * men c + 3 < 2 ^ 31 by omega), ncl (show 13 + 5 * men c + 4 < 2 ^ 31 by omega), z1 _ _ _ (by omega), z1 _ _ _ (by omega), z1 _ _ _ (by omega), z1 _ _ _ (by omega), z1 _ _ _ (by omega), ej, nI_1]
      refine ⟨_, rfl, d2.up (fun i _ _ => ?_), (fun p' q' hp' _ => ?_), fun a i k1 k2 => ?_⟩
      · rw [zup_ne (by omega), zup_ne (by omega), zup_ne (by omega), zup_ne (by omega), zup_ne (by omega), zup_ne (by omega)]
      · cases hp'
        exact MAt_adM hM4 hk _ _ _ hIv.1
      · rw [zup_ne k2, zup_ne k2, zup_ne k2, zup_ne k2, zup_ne k2, zup_ne k2]; exact f4 a i k1
theorem m_readMan (hb : MB n A I) (hn : n ≤ 120) (hA : ∀ k, k < n → rg (A k) 0 255) {p : Nat} (h : MS n A I (.inr p)) (hM : MAt I 288 c) (hv : Iv c) (hs : ¬ srt n A p = 0) : ∃ I', zcall X (d + 5) 173 [.inr (.inr (some (.inl 9, 283)))] (L, zB1, I, J) = some (none, (L, zB1, I', J)) ∧ MS n A I' (md n A c p) ∧ (∀ q, md n A c p = .inr q → MAt I' 288 (nM n A c p)) ∧ FQ I I' := by
  obtain ⟨hsr, ht⟩ := srt_rg n A p hs
  have h4 := hv.1.2.2.2
  have h6 := hv.1.2.1
  have e5 : I 283 15 = tv9 n A p := h.2.1.2.2.1 (by show tt9 n A p ≠ 4; omega) (by show tt9 n A p ≠ 0; omega)
  have ejt : (nI (jud c) - 1).toInt = (jud c : Int) - 1 := by
    rw [Jvm.Kit.i32_sub (by rw [nI_int (by omega), i1]; omega) (by rw [nI_int (by omega), i1]; omega), nI_int (by omega), i1]
  rw [eX9_readMan, e5, m_kindBy, cI_some, bX9_readMan_7, kind_srt ht, if_neg hs, show zin 0 43 = true from by decide, zbt_t, show I 288 (0 : Int32).toNatClampNeg = nI (men c) from hM.men hv.1]
  by_cases q6 : men c = 6
  · have em : md n A c p = .inl (3, p) := by unfold md; rw [if_pos q6]
    obtain ⟨I1, a1, a2, a4⟩ := m_bad (X := X) (d := d + 3) (L := L) (J := J) (k := 3) h (by decide)
    have a2' : MS n A I1 (.inl (3, p)) := a2
    obtain ⟨I2, b1, b2, b4⟩ := m_must1 (X := X) (d := d + 1) (L := L) (J := J) (a4.MB hb) hn hA a2' (fun p' hp' => by cases hp')
    have f2 := a4.tr b4
    obtain ⟨I3, c1, c2, _, c4⟩ := m_tailM (X := X) (d := d) (L := L) (J := J) (c := c) (hi := (I2 288 1 - 1).toInt) (f2.MB hb) hn hA b2 rfl (srt n A p) (fun p' hp' => by cases hp')
    rw [if_pos (by rw [q6]; rfl), a1, cV_some, bX9_readMan_24, b1, cV_some, em]
    exact ⟨I3, c1, c2, (fun q hq => by cases hq), f2.Q.tr c4⟩
  · have em : md n A c p = rP n A 0 ((jud c : Int) - 1) 1 30 (tn9 n A p) := by unfold md; rw [if_neg q6]
    have hq := (tk_le (A := A) h.2.2).2
    obtain ⟨I2, b1, b2, b4⟩ := m_must1 (X := X) (d := d + 1) (L := L) (J := J) hb hn hA h (fun p' hp' => by cases hp'; omega)
    have b2' : MS n A I2 (.inr (tn9 n A p)) := b2
    have hM2 := b4.MAt hM (by omega)
    obtain ⟨I3, c1, c2, c3, c4⟩ := m_tailM (X := X) (d := d) (L := L) (J := J) (c := c) (hi := (jud c : Int) - 1) (b4.MB hb) hn hA b2' (by rw [show I2 288 1 = nI (jud c) from hM2.jud hv.1]; exact ejt) (srt n A p) (fun p' hp' => by cases hp'; exact ⟨hq, hM2, hv, by omega, hsr, rfl⟩)
    rw [if_neg (by show ¬ nI (men c) = nI 6; rw [neq (by omega) (by omega)]; exact q6), bX9_readMan_24, b1, cV_some, em]
    exact ⟨I3, c1, c2, (fun q hq' => c3 (tn9 n A p) q rfl hq'), b4.Q.tr c4⟩
theorem m_J82l {e : Int32 × Nat} (h : MS n A I (.inl e)) (v1 : Int32) : zgo X (zcall X (d+5)) (some .int) kX9_circuit 82 [some (.inr (.inr (some (.inl 9, 283)))), some (.inl (v1))] [] (L, zB1, I, J) = cI (zcall X (d + 5) 171 [.inr (.inr (some (.inl 9, 283)))] (L, zB1, I, J)) (fun r9 σ => zgo X (zcall X (d+5)) (some .int) kX9_circuit 102 [some (.inr (.inr (some (.inl 9, 283)))), some (.inl (v1))] [.inl r9] σ) := by
  rw [bX9_circuit_82, m_isLetter h, cI_some, bX9_circuit_88, show lB n A 106 (.inl e) = false from rfl, if0]
theorem m_loopJ (hn : n ≤ 120) (hA : ∀ k, k < n → rg (A k) 0 255) (v1 : Int32) : ∀ (r p : Nat) (c : Cr) (I : Nat → Nat → Int32), jud c + r = 4 → 0 < jud c → Iv c → men c = 0 → MB n A I → MS n A I (.inr p) → MAt I 288 c → ∃ I', zgo X (zcall X (d+5)) (some .int) kX9_circuit 82 [some (.inr (.inr (some (.inl 9, 283)))), some (.inl (v1))] [] (L, zB1, I, J) = cI (zcall X (d + 5) 171 [.inr (.inr (some (.inl 9, 283)))] (L, zB1, I', J)) (fun r9 σ => zgo X (zcall X (d+5)) (some .int) kX9_circuit 102 [some (.inr (.inr (some (.inl 9, 283)))), some (.inl (v1))] [.inl r9] σ) ∧ (∀ e, sJ n A r p c = .inl e → MS n A I' (.inl e)) ∧ (∀ w, sJ n A r p c = .inr w → MS n A I' (.inr w.2) ∧ MAt I' 288 w.1 ∧ Iv w.1 ∧ men w.1 = 0) ∧ FQ I I'
  | r, p, c, I, hk, hj0, hv, h0, hb, h, hM => by
    have head : zgo X (zcall X (d+5)) (some .int) kX9_circuit 82 [some (.inr (.inr (some (.inl 9, 283)))), some (.inl (v1))] [] (L, zB1, I, J) = if b2i (sL n A 106 p) = 0 then cI (zcall X (d + 5) 171 [.inr (.inr (some (.inl 9, 283)))] (L, zB1, I, J)) (fun r9 σ => zgo X (zcall X (d+5)) (some .int) kX9_circuit 102 [some (.inr (.inr (some (.inl 9, 283)))), some (.inl (v1))] [.inl r9] σ) else cV (zcall X (d + 5) 172 [.inr (.inr (some (.inl 9, 283)))] (L, zB1, I, J)) (fun σ => zgo X (zcall X (d+5)) (some .int) kX9_circuit 95 [some (.inr (.inr (some (.inl 9, 283)))), some (.inl (v1))] [] σ) := by
      rw [bX9_circuit_82, m_isLetter h, cI_some, bX9_circuit_88]; rfl
    rw [head]
    cases hl : sL n A 106 p with
    | false =>
      have es : sJ n A r p c = .inr (c, p) := by
        cases r with
        | zero => rw [sJ_0, hl, if_neg (by decide)]
        | succ r => rw [sJ_s, hl, if_neg (by decide), if_pos hj0]
      rw [if0, es]
      refine ⟨I, rfl, (fun e he => by cases he), fun w hw => ?_, FQ.rf I⟩
      cases hw
      exact ⟨h, hM, hv, h0⟩
    | true =>
      obtain ⟨I1, a1, a2, a3, a4⟩ := m_readJudge (X := X) (d := d) (L := L) (J := J) (c := c) hb hn hA h (fun p' hp' => ⟨hM, hv, h0⟩)
      have a2' : MS n A I1 (jd n A c p) := a2
      have fin : ∀ e, jd n A c p = .inl e → sJ n A r p c = .inl e → ∃ I', cV (zcall X (d + 5) 172 [.inr (.inr (some (.inl 9, 283)))] (L, zB1, I, J)) (fun σ => zgo X (zcall X (d+5)) (some .int) kX9_circuit 95 [some (.inr (.inr (some (.inl 9, 283)))), some (.inl (v1))] [] σ) = cI (zcall X (d + 5) 171 [.inr (.inr (some (.inl 9, 283)))] (L, zB1, I', J)) (fun r9 σ => zgo X (zcall X (d+5)) (some .int) kX9_circuit 102 [some (.inr (.inr (some (.inl 9, 283)))), some (.inl (v1))] [.inl r9] σ) ∧ (∀ e, sJ n A r p c = .inl e → MS n A I' (.inl e)) ∧ (∀ w, sJ n A r p c = .inr w → MS n A I' (.inr w.2) ∧ MAt I' 288 w.1 ∧ Iv w.1 ∧ men w.1 = 0) ∧ FQ I I' := by
        intro e e1 e2
        rw [e1] at a2'
        rw [e2]
        refine ⟨I1, by rw [a1, cV_some, bX9_circuit_95, m_J82l a2'], fun e' he => ?_, (fun w hw => by cases hw), a4⟩
        cases he
        exact a2'
      rw [if1]
      cases r with
      | zero => exact fin (3, p) (by unfold jd; rw [hl, if_pos rfl, if_pos (by omega)]) (by rw [sJ_0, hl, if_pos rfl])
      | succ r =>
        have ej : jd n A c p = rP n A 0 9 0 1 (tn9 n A p) := by unfold jd; rw [hl, if_pos rfl, if_neg (by omega)]
        cases e1 : rP n A 0 9 0 1 (tn9 n A p) with
        | inl e => exact fin e (ej.trans e1) (by rw [sJ_s, hl, if_pos rfl, e1]; rfl)
        | inr q =>
          have hq := (tk_le (A := A) h.2.2).2
          obtain ⟨_, _, _, _, _, _, o5, o6, o7⟩ := rP_ok hq e1
          obtain ⟨n1, n2⟩ := adJ_n (c := c) (by omega) (tv9 n A (tn9 n A p)) (tv9 n A (q2P n A 0 9 (tn9 n A p)))
          rw [ej, e1] at a2'
          obtain ⟨I2, b1, b2, b3, b4⟩ := m_loopJ hn hA v1 r q (nJ n A c p) I1 (by show jud (adJ c _ _) + r = 4; omega) (by show 0 < jud (adJ c _ _); omega) (Iv_adJ hv h0 (by omega) (wi_rg o6) (wi_rg o7)) (by show men (adJ c _ _) = 0; omega) (a4.MB hb) a2' (a3 p q rfl (ej.trans e1))
          have es : sJ n A (r + 1) p c = sJ n A r q (nJ n A c p) := by rw [sJ_s, hl, if_pos rfl, e1]; rfl
          rw [es]
          exact ⟨I2, by rw [a1, cV_some, bX9_circuit_95, b1], b2, b3, a4.tr b4⟩
theorem m_M110l {e : Int32 × Nat} (h : MS n A I (.inl e)) (v1 : Int32) : zgo X (zcall X (d+5)) (some .int) kX9_circuit 110 [some (.inr (.inr (some (.inl 9, 283)))), some (.inl (v1))] [] (L, zB1, I, J) = cI (zcall X (d + 5) 168 [.inr (.inr (some (.inl 9, 283)))] (L, zB1, I, J)) (fun r9 σ => zgo X (zcall X (d+5)) (some .int) kX9_circuit 128 [some (.inr (.inr (some (.inl 9, 283)))), some (.inl (v1))] [.inl r9] σ) := by
  rw [bX9_circuit_110, m_isSort h, cI_some, bX9_circuit_114, show sB n A (.inl e) = false from rfl, if0]
/-- what the men's loop leaves -/
def MO (n : Nat) (A : Nat → Int32) (I : Nat → Nat → Int32) (s : (Int32 × Nat) ⊕ Cr) : Prop := (∃ e, MS n A I (.inl e) ∧ s = .inl e) ∨ (∃ p c, MS n A I (.inr p) ∧ MAt I 288 c ∧ Iv c ∧ 0 < men c ∧ s = if tt9 n A p = 0 then .inr c else .inl (1, p))
theorem m_loopM (hn : n ≤ 120) (hA : ∀ k, k < n → rg (A k) 0 255) (v1 : Int32) : ∀ (r p : Nat) (c : Cr) (I : Nat → Nat → Int32), men c + r = 6 → (0 < men c ∨ ¬ srt n A p = 0) → Iv c → MB n A I → MS n A I (.inr p) → MAt I 288 c → ∃ I', zgo X (zcall X (d+5)) (some .int) kX9_circuit 110 [some (.inr (.inr (some (.inl 9, 283)))), some (.inl (v1))] [] (L, zB1, I, J) = cI (zcall X (d + 5) 168 [.inr (.inr (some (.inl 9, 283)))] (L, zB1, I', J)) (fun r9 σ => zgo X (zcall X (d+5)) (some .int) kX9_circuit 128 [some (.inr (.inr (some (.inl 9, 283)))), some (.inl (v1))] [.inl r9] σ) ∧ MO n A I' (sM n A r p c) ∧ FQ I I'
  | r, p, c, I, hk, hm0, hv, hb, h, hM => by
    have head : zgo X (zcall X (d+5)) (some .int) kX9_circuit 110 [some (.inr (.inr (some (.inl 9, 283)))), some (.inl (v1))] [] (L, zB1, I, J) = if b2i (!decide (srt n A p = 0)) = 0 then cI (zcall X (d + 5) 168 [.inr (.inr (some (.inl 9, 283)))] (L, zB1, I, J)) (fun r9 σ => zgo X (zcall X (d+5)) (some .int) kX9_circuit 128 [some (.inr (.inr (some (.inl 9, 283)))), some (.inl (v1))] [.inl r9] σ) else cV (zcall X (d + 5) 173 [.inr (.inr (some (.inl 9, 283)))] (L, zB1, I, J)) (fun σ => zgo X (zcall X (d+5)) (some .int) kX9_circuit 121 [some (.inr (.inr (some (.inl 9, 283)))), some (.inl (v1))] [] σ) := by
      rw [bX9_circuit_110, m_isSort h, cI_some, bX9_circuit_114]; rfl
    rw [head]
    by_cases hs : srt n A p = 0
    · have hm : 0 < men c := hm0.resolve_right (fun q => q hs)
      have es : sM n A r p c = if tt9 n A p = 0 then .inr c else .inl (1, p) := by
        cases r with
        | zero => rw [sM_0, if_pos hs]
        | succ r =>
          rw [sM_s, if_pos hs]
          by_cases q : tt9 n A p = 0
          · rw [if_pos ⟨hm, q⟩, if_pos q]
          · rw [if_neg (fun w => q w.2), if_neg q]
      rw [decide_eq_true hs, Bool.not_true, if0]
      exact ⟨I, rfl, Or.inr ⟨p, c, h, hM, hv, hm, es⟩, FQ.rf I⟩
    · obtain ⟨hsr, ht⟩ := srt_rg n A p hs
      obtain ⟨I1, a1, a2, a3, a4⟩ := m_readMan (X := X) (d := d) (L := L) (J := J) hb hn hA h hM hv hs
      have fin : ∀ e, md n A c p = .inl e → sM n A r p c = .inl e → ∃ I', cV (zcall X (d + 5) 173 [.inr (.inr (some (.inl 9, 283)))] (L, zB1, I, J)) (fun σ => zgo X (zcall X (d+5)) (some .int) kX9_circuit 121 [some (.inr (.inr (some (.inl 9, 283)))), some (.inl (v1))] [] σ) = cI (zcall X (d + 5) 168 [.inr (.inr (some (.inl 9, 283)))] (L, zB1, I', J)) (fun r9 σ => zgo X (zcall X (d+5)) (some .int) kX9_circuit 128 [some (.inr (.inr (some (.inl 9, 283)))), some (.inl (v1))] [.inl r9] σ) ∧ MO n A I' (sM n A r p c) ∧ FQ I I' := by
        intro e e1 e2
        rw [e1] at a2
        exact ⟨I1, by rw [a1, cV_some, bX9_circuit_121, m_M110l a2], Or.inl ⟨e, a2, e2⟩, a4⟩
      rw [decide_eq_false hs, Bool.not_false, if1]
      cases r with
      | zero => exact fin (3, p) (by unfold md; rw [if_pos (by omega)]) (by rw [sM_0, if_neg (by omega), if_neg hs])
      | succ r =>
        have em : md n A c p = rP n A 0 ((jud c : Int) - 1) 1 30 (tn9 n A p) := by unfold md; rw [if_neg (by omega)]
        cases e1 : rP n A 0 ((jud c : Int) - 1) 1 30 (tn9 n A p) with
        | inl e => exact fin e (em.trans e1) (by rw [sM_s, if_neg hs, e1]; rfl)
        | inr q =>
          have hq := (tk_le (A := A) h.2.2).2
          obtain ⟨_, _, _, _, _, _, o5, o6, o7⟩ := rP_ok hq e1
          obtain ⟨n1, n2⟩ := adM_n (c := c) (by omega) (srt n A p) (tv9 n A (tn9 n A p)) (tv9 n A (q2P n A 0 ((jud c : Int) - 1) (tn9 n A p)))
          have hz : zin (tv9 n A (tn9 n A p)) (jud c) = true := zin_iff.2 ⟨(wi_iff.1 o6).1, by have := (wi_iff.1 o6).2; omega⟩
          rw [em, e1] at a2
          obtain ⟨I2, b1, b2, b4⟩ := m_loopM hn hA v1 r q (nM n A c p) I1 (by show men (adM c _ _ _) + r = 6; omega) (Or.inl (by show 0 < men (adM c _ _ _); omega)) (Iv_adM hv (by omega) hsr hz (wi_rg o7)) (a4.MB hb) a2 (a3 q (em.trans e1))
          have es : sM n A (r + 1) p c = sM n A r q (nM n A c p) := by rw [sM_s, if_neg hs, e1]; rfl
          rw [es]
          exact ⟨I2, by rw [a1, cV_some, bX9_circuit_121, b1], b2, a4.tr b4⟩
end PARH
