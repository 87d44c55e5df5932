/-! reading a circuit: the class, law, judges and men -/
def FZ (I I' : Nat → Nat → Int32) : Prop := ∀ a i, ¬ (a = 21 ∧ 3 ≤ i ∧ i ≤ 10) → ¬ (23 ≤ a ∧ a ≤ 30) → I' a i = I a i
theorem FZ.rf (I : Nat → Nat → Int32) : FZ I I := fun _ _ _ _ => rfl
theorem FZ.tr {I I1 I2 : Nat → Nat → Int32} (h : FZ I I1) (h2 : FZ I1 I2) : FZ I I2 := fun a i k1 k2 => (h2 a i k1 k2).trans (h a i k1 k2)
theorem FW.Z {I I' : Nat → Nat → Int32} (h : FW I I') : FZ I I' := fun a i k1 _ => h a i k1
theorem Fr.Z {I I' : Nat → Nat → Int32} (h : Fr 23 I I') : FZ I I' := fun a i _ k2 => by rw [h a (by omega)]
theorem FZ.CB {I I' : Nat → Nat → Int32} (h : FZ I I') {n : Nat} {A : Nat → Int32} (hb : CB n A I) : CB n A I' := by
  refine ⟨?_, fun k hk => ?_⟩
  · rw [h 21 2 (by omega) (by omega)]; exact hb.1
  · rw [h 22 k (by omega) (by omega)]; exact hb.2 k hk
theorem FW.CAt {I I' : Nat → Nat → Int32} (h : FW I I') {c : Cr} (hc : CAt I 23 c) : CAt I' 23 c := fun f i hv => by
  rw [h _ _ (by omega)]; exact hc f i hv
theorem sJ_s (n : Nat) (A : Nat → Int32) (r p : Nat) (c : Cr) : sJ n A (r + 1) p c = if sL n A 106 p = true then bd (rP n A 0 9 0 1 (tn9 n A p)) (fun q => sJ n A r q (adJ c (tv9 n A (tn9 n A p)) (tv9 n A (q2P n A 0 9 (tn9 n A p))))) else if 0 < jud c then .inr (c, p) else .inl (1, p) := rfl
theorem sJ_0 (n : Nat) (A : Nat → Int32) (p : Nat) (c : Cr) : sJ n A 0 p c = if sL n A 106 p = true then .inl (3, p) else .inr (c, p) := rfl
theorem sM_s (n : Nat) (A : Nat → Int32) (r p : Nat) (c : Cr) : sM n A (r + 1) p c = if srt n A p = 0 then (if 0 < men c ∧ tt9 n A p = 0 then .inr c else .inl (1, p)) else bd (rP n A 0 ((jud c : Int) - 1) 1 30 (tn9 n A p)) (fun q => sM n A r q (adM c (srt n A p) (tv9 n A (tn9 n A p)) (tv9 n A (q2P n A 0 ((jud c : Int) - 1) (tn9 n A p))))) := rfl
theorem sM_0 (n : Nat) (A : Nat → Int32) (p : Nat) (c : Cr) : sM n A 0 p c = if tt9 n A p = 0 then .inr c else .inl ((if srt n A p = 0 then 1 else 3), p) := rfl
theorem srt_rg (n : Nat) (A : Nat → Int32) (p : Nat) (h : ¬ srt n A p = 0) : rg (srt n A p) 1 5 ∧ tt9 n A p = 1 := by
  unfold srt at h ⊢
  by_cases h1 : tt9 n A p = 1
  · rw [if_pos h1] at h ⊢
    refine ⟨?_, h1⟩
    repeat' split
    all_goals first | exact ⟨by decide, by decide⟩ | skip
    · rename_i q1 q2 q3 q4 q5
      rw [if_neg q1, if_neg q2, if_neg q3, if_neg q4, if_neg q5] at h
      exact absurd rfl h
  · rw [if_neg h1] at h; exact absurd rfl h
theorem wi_rg {x9 : Int32} {lo hi : Int} (h : wi x9 lo hi = true) : rg x9 lo hi := wi_iff.1 h
theorem sL_t {n : Nat} {A : Nat → Int32} {a : Int32} {p : Nat} (h : sL n A a p = true) : tt9 n A p = 1 := (of_decide_eq_true h).1
section PARE
variable {X : Nat → Nat → Int32} {d : Nat} {L : List zK} {I : Nat → Nat → Int32} {J : Nat → Nat → Int64} {n : Nat} {A : Nat → Int32} {c : Cr}
theorem c_sortSeen {p : Nat} (h : CT n A I p) (hp : p ≤ n) : zcall X (d + 1) 96 [.inr (.inr (some (.inl 7, 21)))] (L, zB1, I, J) = some (some (.inl (srt n A p)), (L, zB1, I, J)) := by
  rw [eX7_sortSeen]
  unfold srt
  by_cases q1 : tt9 n A p = 1
  · have e5 : I 21 5 = tv9 n A p := h.2.2.1 (by show tt9 n A p ≠ 4; omega) (by show tt9 n A p ≠ 0; omega)
    rw [if_pos ((h.t1 hp).2 q1), if_pos q1, e5]
    simp only [iteT]
  · rw [if_neg (fun q => q1 ((h.t1 hp).1 q)), if_neg q1]
theorem c_rJ (hn : n ≤ 120) (hA : ∀ k, k < n → rg (A k) 0 255) : ∀ (r p : Nat) (c : Cr) (I : Nat → Nat → Int32), p ≤ n → jud c + r = 4 → Iv c → men c = 0 → CB n A I → CT n A I p → CAt I 23 c → (∀ w, sJ n A r p c = .inr w → ∃ I', zgo X (zcall X (d+6)) (some .boolean) kX7_readJudges 2 [some (.inr (.inr (some (.inl 7, 21)))), some (.inl (nI (jud c)))] [] (L, zB1, I, J) = some (some (.inl (1)), (L, zB1, I', J)) ∧ CT n A I' w.2 ∧ w.2 ≤ n ∧ CAt I' 23 w.1 ∧ Iv w.1 ∧ men w.1 = 0 ∧ I' 21 9 = I 21 9 ∧ FZ I I') ∧ (∀ e, sJ n A r p c = .inl e → ∃ I', zgo X (zcall X (d+6)) (some .boolean) kX7_readJudges 2 [some (.inr (.inr (some (.inl 7, 21)))), some (.inl (nI (jud c)))] [] (L, zB1, I, J) = some (some (.inl (0)), (L, zB1, I', J)) ∧ CF I' e ∧ FZ I I')
  | 0, p, c, I, hp, hk, hv, h0, hb, h, hC => by
    rw [bX7_readJudges_2, if_pos (by show nI 4 ≤ nI (jud c); rw [nle (by omega) (by omega)]; omega), c_seesLetter h hp, cI_some, bX7_readJudges_79, sJ_0]
    cases hl : sL n A 106 p with
    | false =>
      rw [if0, if_neg (by decide)]
      refine ⟨fun w hw => ?_, (fun e he => by cases he)⟩
      cases hw
      exact ⟨I, rfl, h, hp, hC, hv, h0, rfl, FZ.rf I⟩
    | true =>
      rw [if1, if_pos rfl]
      refine ⟨(fun w hw => by cases hw), fun e he => ?_⟩
      cases he
      obtain ⟨I1, e1, g1, f1⟩ := c_faulty (X := X) (d := d + 5) (L := L) (J := J) h.1 3
      exact ⟨I1, by rw [e1, cI_some, bX7_readJudges_87, if_pos rfl], g1, f1.Z⟩
  | r + 1, p, c, I, hp, hk, hv, h0, hb, h, hC => by
    rw [bX7_readJudges_2, if_neg (by show ¬ nI 4 ≤ nI (jud c); rw [nle (by omega) (by omega)]; omega), c_seesLetter h hp, cI_some, bX7_readJudges_13, sJ_s]
    cases hl : sL n A 106 p with
    | false =>
      rw [if0, if_neg (by decide)]
      by_cases hj : 0 < jud c
      · rw [if_pos hj, if_pos (by show nI 0 < nI (jud c); rw [nlt (by omega) (by omega)]; omega)]
        refine ⟨fun w hw => ?_, (fun e he => by cases he)⟩
        cases hw
        exact ⟨I, rfl, h, hp, hC, hv, h0, rfl, FZ.rf I⟩
      · rw [if_neg hj, if_neg (by show ¬ nI 0 < nI (jud c); rw [nlt (by omega) (by omega)]; omega)]
        refine ⟨(fun w hw => by cases hw), fun e he => ?_⟩
        cases he
        obtain ⟨I1, e1, g1, f1⟩ := c_faulty (X := X) (d := d + 5) (L := L) (J := J) h.1 1
        exact ⟨I1, by rw [e1, cI_some, bX7_readJudges_25, if_pos rfl], g1, f1.Z⟩
    | true =>
      have ht := sL_t hl
      have hq := (tk_le (A := A) hp).2
      obtain ⟨I1, k1, k2, k3⟩ := c_next (X := X) (d := d + 3) (L := L) (J := J) hb hn hA hq (h.2.2.2 (by show tt9 n A p ≠ 4; omega))
      have s1 := c_readPair (X := X) (d := d + 1) (L := L) (J := J) (k3.CB hb) hn hA k2 hq 0 9 0 1
      rw [if1, if_pos rfl, k1, cV_some, bX7_readJudges_38]
      rw [show rP n A 0 9 0 1 (tn9 n A p) = rP n A (Int32.toInt 0) (Int32.toInt 9) (Int32.toInt 0) (Int32.toInt 1) (tn9 n A p) from rfl]
      cases e1 : rP n A (Int32.toInt 0) (Int32.toInt 9) (Int32.toInt 0) (Int32.toInt 1) (tn9 n A p) with
      | inl e =>
        refine ⟨(fun w hw => by cases hw), fun e' he => ?_⟩
        cases he
        obtain ⟨I2, v1, v2, v3⟩ := s1.2 e e1
        exact ⟨I2, by rw [v1, cI_some, bX7_readJudges_47, if_pos rfl], v2, k3.W.Z.tr v3.Z⟩
      | inr q =>
        obtain ⟨I2, v1, v2, v7, v8, v9, v3⟩ := s1.1 q e1
        obtain ⟨_, _, _, _, _, _, o5, o6, o7⟩ := rP_ok hq e1
        obtain ⟨I3, u1, u2, u3⟩ := c_addJudge (X := X) (d := d + 5) (L := L) (J := J) (v3.CAt (k3.W.CAt hC)) hv.1 (by omega) (tv9 n A (tn9 n A p)) (tv9 n A (q2P n A 0 9 (tn9 n A p)))
        obtain ⟨n1, n2⟩ := adJ_n (c := c) (by omega) (tv9 n A (tn9 n A p)) (tv9 n A (q2P n A 0 9 (tn9 n A p)))
        have f3 : FZ I I3 := (k3.W.Z.tr v3.Z).tr u3.Z
        have g3 : CT n A I3 q := v2.o (fun i _ _ => by rw [u3 21 (by omega)])
        have ih := c_rJ hn hA r q (adJ c (tv9 n A (tn9 n A p)) (tv9 n A (q2P n A 0 9 (tn9 n A p)))) I3 o5 (by omega) (Iv_adJ hv h0 (by omega) (wi_rg o6) (wi_rg o7)) (by omega) (f3.CB hb) g3 u2
        rw [n2] at ih
        have e9 : I3 21 9 = I 21 9 := by rw [u3 21 (by omega), v9, k3 21 9 (by omega)]
        rw [v1, cI_some, bX7_readJudges_47, if_neg (by decide), v7, v8, show zcall X (d + 6) 14 [.inr (.inr (some (.inl 1, 23))), .inl (tv9 n A (tn9 n A p)), .inl (tv9 n A (q2P n A (Int32.toInt 0) (Int32.toInt 9) (tn9 n A p)))] (L, zB1, I2, J) = some (none, (L, zB1, I3, J)) from u1, cV_some, bX7_readJudges_67, nI_1]
        refine ⟨fun w hw => ?_, fun e' he => ?_⟩
        · obtain ⟨I4, r1, r2, r3, r4, r5, r6, r7, r8⟩ := ih.1 w hw
          exact ⟨I4, r1, r2, r3, r4, r5, r6, r7.trans e9, f3.tr r8⟩
        · obtain ⟨I4, r1, r2, r3⟩ := ih.2 e' he
          exact ⟨I4, r1, r2, f3.tr r3⟩
theorem c_rM (hn : n ≤ 120) (hA : ∀ k, k < n → rg (A k) 0 255) : ∀ (r p : Nat) (c : Cr) (u2 : Option zV) (I : Nat → Nat → Int32), p ≤ n → men c + r = 6 → Iv c → CB n A I → CT n A I p → CAt I 23 c → (∀ w, sM n A r p c = .inr w → ∃ I', zgo X (zcall X (d+6)) (some .boolean) kX7_readMen 2 [some (.inr (.inr (some (.inl 7, 21)))), some (.inl (nI (men c))), u2] [] (L, zB1, I, J) = some (some (.inl (1)), (L, zB1, I', J)) ∧ CAt I' 23 w ∧ Iv w ∧ 0 < men w ∧ I' 21 9 = I 21 9 ∧ FZ I I') ∧ (∀ e, sM n A r p c = .inl e → ∃ I', zgo X (zcall X (d+6)) (some .boolean) kX7_readMen 2 [some (.inr (.inr (some (.inl 7, 21)))), some (.inl (nI (men c))), u2] [] (L, zB1, I, J) = some (some (.inl (0)), (L, zB1, I', J)) ∧ CF I' e ∧ FZ I I')
  | 0, p, c, u2, I, hp, hk, hv, hb, h, hC => by
    rw [bX7_readMen_2, if_pos (by show nI 6 ≤ nI (men c); rw [nle (by omega) (by omega)]; omega), sM_0]
    by_cases q0 : tt9 n A p = 0
    · rw [if_pos q0, if_pos ((h.t0 hp).2 q0)]
      refine ⟨fun w hw => ?_, (fun e he => by cases he)⟩
      cases hw
      exact ⟨I, rfl, hC, hv, by omega, rfl, FZ.rf I⟩
    · rw [if_neg q0, if_neg (fun q => q0 ((h.t0 hp).1 q)), c_sortSeen h hp, cI_some, bX7_readMen_102]
      refine ⟨(fun w hw => by cases hw), fun e he => ?_⟩
      cases he
      by_cases q1 : srt n A p = 0
      · obtain ⟨I1, e1, g1, f1⟩ := c_faulty (X := X) (d := d + 5) (L := L) (J := J) h.1 1
        exact ⟨I1, by rw [if_pos q1, e1, cI_some, bX7_readMen_113, if_pos rfl], by rw [if_pos q1]; exact g1, f1.Z⟩
      · obtain ⟨I1, e1, g1, f1⟩ := c_faulty (X := X) (d := d + 5) (L := L) (J := J) h.1 3
        exact ⟨I1, by rw [if_neg q1, e1, cI_some, bX7_readMen_113, if_pos rfl], by rw [if_neg q1]; exact g1, f1.Z⟩
  | r + 1, p, c, u2, I, hp, hk, hv, hb, h, hC => by
    have h4 := hv.1.2.2.2
    rw [bX7_readMen_2, if_neg (by show ¬ nI 6 ≤ nI (men c); rw [nle (by omega) (by omega)]; omega), c_sortSeen h hp, cI_some, bX7_readMen_12, sM_s]
    by_cases q1 : srt n A p = 0
    · rw [if_pos q1, if_pos q1, q1]
      have bad : ∃ I', cI (zcall X (d + 6) 101 [.inr (.inr (some (.inl 7, 21))), .inl 1] (L, zB1, I, J)) (fun r9 σ => zgo X (zcall X (d+6)) (some .boolean) kX7_readMen 33 [some (.inr (.inr (some (.inl 7, 21)))), some (.inl (nI (men c))), some (.inl (0))] [.inl r9] σ) = some (some (.inl (0)), (L, zB1, I', J)) ∧ CF I' (1, p) ∧ FZ I I' := by
        obtain ⟨I1, e1, g1, f1⟩ := c_faulty (X := X) (d := d + 5) (L := L) (J := J) h.1 1
        exact ⟨I1, by rw [e1, cI_some, bX7_readMen_33, if_pos rfl], g1, f1.Z⟩
      by_cases hm : 0 < men c
      · rw [if_neg (show ¬ nI (men c) ≤ (0 : Int32) from by show ¬ nI (men c) ≤ nI 0; rw [nle (by omega) (by omega)]; omega)]
        by_cases q0 : tt9 n A p = 0
        · rw [if_pos (show 0 < men c ∧ tt9 n A p = 0 from ⟨hm, q0⟩), if_pos ((h.t0 hp).2 q0)]
          refine ⟨fun w hw => ?_, (fun e he => by cases he)⟩
          cases hw
          exact ⟨I, rfl, hC, hv, hm, rfl, FZ.rf I⟩
        · rw [if_neg (show ¬ (0 < men c ∧ tt9 n A p = 0) from fun q => q0 q.2), if_neg (fun q => q0 ((h.t0 hp).1 q))]
          refine ⟨(fun w hw => by cases hw), fun e he => ?_⟩
          cases he
          exact bad
      · rw [if_neg (show ¬ (0 < men c ∧ tt9 n A p = 0) from fun q => hm q.1), if_pos (show nI (men c) ≤ (0 : Int32) from by show nI (men c) ≤ nI 0; rw [nle (by omega) (by omega)]; omega)]
        refine ⟨(fun w hw => by cases hw), fun e he => ?_⟩
        cases he
        exact bad
    · rw [if_neg q1, if_neg q1]
      obtain ⟨hs, ht⟩ := srt_rg n A p q1
      have hq := (tk_le (A := A) hp).2
      obtain ⟨I1, k1, k2, k3⟩ := c_next (X := X) (d := d + 3) (L := L) (J := J) hb hn hA hq (h.2.2.2 (by show tt9 n A p ≠ 4; omega))
      have hC1 := k3.W.CAt hC
      have ej : (nI (jud c) - 1).toInt = (jud c : Int) - 1 := by
        rw [Jvm.Kit.i32_sub (by rw [nI_int (by omega), i1]; omega) (by rw [nI_int (by omega), i1]; omega), nI_int (by omega), i1]
      have s1 := c_readPair (X := X) (d := d + 1) (L := L) (J := J) (k3.CB hb) hn hA k2 hq 0 (nI (jud c) - 1) 1 30
      rw [ej, show (0 : Int32).toInt = 0 from rfl, show (1 : Int32).toInt = 1 from rfl, show (30 : Int32).toInt = 30 from rfl] at s1
      rw [k1, cV_some, bX7_readMen_46, show I1 23 0 = nI (jud c) from hC1.jud hv.1]
      cases e1 : rP n A 0 ((jud c : Int) - 1) 1 30 (tn9 n A p) with
      | inl e =>
        refine ⟨(fun w hw => by cases hw), fun e' he => ?_⟩
        cases he
        obtain ⟨I2, v1, v2, v3⟩ := s1.2 e e1
        exact ⟨I2, by rw [v1, cI_some, bX7_readMen_63, if_pos rfl], v2, k3.W.Z.tr v3.Z⟩
      | inr q =>
        obtain ⟨I2, v1, v2, v7, v8, v9, v3⟩ := s1.1 q e1
        obtain ⟨_, _, _, _, _, _, o5, o6, o7⟩ := rP_ok hq e1
        obtain ⟨I3, u1, u2', u3⟩ := c_addMan (X := X) (d := d + 5) (L := L) (J := J) (v3.CAt hC1) hv.1 (by omega) (srt n A p) (tv9 n A (tn9 n A p)) (tv9 n A (q2P n A 0 ((jud c : Int) - 1) (tn9 n A p)))
        obtain ⟨n1, n2⟩ := adM_n (c := c) (by omega) (srt n A p) (tv9 n A (tn9 n A p)) (tv9 n A (q2P n A 0 ((jud c : Int) - 1) (tn9 n A p)))
        have f3 : FZ I I3 := (k3.W.Z.tr v3.Z).tr u3.Z
        have g3 : CT n A I3 q := v2.o (fun i _ _ => by rw [u3 21 (by omega)])
        have hz : zin (tv9 n A (tn9 n A p)) (jud c) = true := zin_iff.2 ⟨(wi_iff.1 o6).1, by have := (wi_iff.1 o6).2; omega⟩
        have ih := c_rM hn hA r q (adM c (srt n A p) (tv9 n A (tn9 n A p)) (tv9 n A (q2P n A 0 ((jud c : Int) - 1) (tn9 n A p)))) (some (.inl (srt n A p))) I3 o5 (by omega) (Iv_adM hv (by omega) hs hz (wi_rg o7)) (f3.CB hb) g3 u2'
        rw [n1] at ih
        have e9 : I3 21 9 = I 21 9 := by rw [u3 21 (by omega), v9, k3 21 9 (by omega)]
        rw [v1, cI_some, bX7_readMen_63, if_neg (by decide), v7, v8, u1, cV_some, bX7_readMen_84, nI_1]
        refine ⟨fun w hw => ?_, fun e' he => ?_⟩
        · obtain ⟨I4, r1, r4, r5, r6, r7, r8⟩ := ih.1 w hw
          exact ⟨I4, r1, r4, r5, r6, r7.trans e9, f3.tr r8⟩
        · obtain ⟨I4, r1, r2, r3⟩ := ih.2 e' he
          exact ⟨I4, r1, r2, f3.tr r3⟩
theorem c_readAll (hb : CB n A I) (hn : n ≤ 120) (hA : ∀ k, k < n → rg (A k) 0 255) : (∀ c, sA n A = .inr c → ∃ I', zcall X (d + 8) 92 [.inr (.inr (some (.inl 7, 21)))] (L, zB1, I, J) = some (some (.inr (.inr (some (.inl 1, 23)))), (L, zB1, (zup I' 21 2 0), J)) ∧ CAt I' 23 c ∧ Iv c ∧ 0 < men c ∧ I' 21 9 = I 21 9 ∧ FZ I I') ∧ (∀ e, sA n A = .inl e → ∃ I', zcall X (d + 8) 92 [.inr (.inr (some (.inl 7, 21)))] (L, zB1, I, J) = some (some (.inr (.inr none)), (L, zB1, (zup I' 21 2 0), J)) ∧ CF I' e ∧ FZ I I') := by
  have f0 : FW I (zup I 21 6 0) := (FW.rf I).up (by omega)
  obtain ⟨I0, k1, k2, k3⟩ := c_next (X := X) (d := d + 4) (L := L) (J := J) (f0.CB hb) hn hA (show 0 ≤ n by omega) (zup_e _ _ _ _)
  have f1 := f0.tr k3.W
  have e90 : I0 21 9 = I 21 9 := by rw [k3 21 9 (by omega), zup_f _ _ (by omega)]
  have bad : ∀ (I' : Nat → Nat → Int32) (e : Int32 × Nat), CF I' e → FZ I I' → zcall X (d + 8) 92 [.inr (.inr (some (.inl 7, 21)))] (L, zB1, I, J) = zgo X (zcall X (d+7)) (some (.object "JudgeHalves$Circuit")) kX7_readAll 34 [some (.inr (.inr (some (.inl 7, 21)))), none] [] (L, zB1, I', J) → ∃ I', zcall X (d + 8) 92 [.inr (.inr (some (.inl 7, 21)))] (L, zB1, I, J) = some (some (.inr (.inr none)), (L, zB1, (zup I' 21 2 0), J)) ∧ CF I' e ∧ FZ I I' := fun I' e h1 h2 h3 => ⟨I', by rw [h3, bX7_readAll_34, bX7_readAll_35, if_pos rfl], h1, h2⟩
  have head : zcall X (d + 8) 92 [.inr (.inr (some (.inl 7, 21)))] (L, zB1, I, J) = cI (zcall X (d + 7) 93 [.inr (.inr (some (.inl 7, 21)))] (L, zB1, I0, J)) (fun r9 σ => zgo X (zcall X (d+7)) (some (.object "JudgeHalves$Circuit")) kX7_readAll 13 [some (.inr (.inr (some (.inl 7, 21)))), none] [.inl r9] σ) := by
    rw [eX7_readAll, k1, cV_some, bX7_readAll_9]
  unfold sA
  have law := eX7_readLaw X (d + 6) L I0 J
  rw [c_seesLetter k2 (by omega), cI_some, bX7_readLaw_6] at law
  cases hl : sL n A 108 0 with
  | false =>
    obtain ⟨I1, e1, g1, f2⟩ := c_faulty (X := X) (d := d + 5) (L := L) (J := J) k2.1 1
    rw [hl, if0, e1, cI_some, bX7_readLaw_14, show zret (some .boolean) (some (.inl 0)) _ = _ from zret_b false _] at law
    rw [if_neg (by decide)]
    refine ⟨(fun w hw => by cases hw), fun e he => ?_⟩
    cases he
    exact bad I1 _ g1 (f1.Z.tr f2.Z) (by rw [head, law, cI_some, bX7_readAll_13, if_pos (show b2i false = 0 from rfl)])
  | true =>
    have ht := sL_t hl
    have hq := (tk_le (A := A) (show 0 ≤ n by omega)).2
    obtain ⟨I1, j1, j2, j3⟩ := c_next (X := X) (d := d + 3) (L := L) (J := J) (f1.CB hb) hn hA hq (k2.2.2.2 (by show tt9 n A 0 ≠ 4; omega))
    have f2 := f1.tr j3.W
    have s1 := c_readPair (X := X) (d := d + 1) (L := L) (J := J) (f2.CB hb) hn hA j2 hq 1 9 1 60
    rw [show (1 : Int32).toInt = 1 from rfl, show (9 : Int32).toInt = 9 from rfl, show (60 : Int32).toInt = 60 from rfl] at s1
    rw [hl, if1, j1, cV_some, bX7_readLaw_19] at law
    rw [if_pos rfl]
    cases e1 : rP n A 1 9 1 60 (tn9 n A 0) with
    | inl e =>
      obtain ⟨I2, v1, v2, v3⟩ := s1.2 e e1
      rw [v1, cI_some, bX7_readLaw_29, if_pos rfl] at law
      refine ⟨(fun w hw => by cases hw), fun e' he => ?_⟩
      cases he
      exact bad I2 _ v2 (f2.Z.tr v3.Z) (by rw [head, law, cI_some, bX7_readAll_13, if_pos rfl])
    | inr q =>
      obtain ⟨I2, v1, v2, v7, v8, v9, v3⟩ := s1.1 q e1
      obtain ⟨_, _, _, _, _, _, o5, o6, o7⟩ := rP_ok hq e1
      obtain ⟨I3, u1, u2, u3⟩ := c_begin (X := X) (d := d + 5) (L := L) (I := I2) (J := J) (tv9 n A (tn9 n A 0)) (tv9 n A (q2P n A 1 9 (tn9 n A 0)))
      rw [v1, cI_some, bX7_readLaw_29, if_neg (by decide), v7, v8, u1, cV_some, bX7_readLaw_49] at law
      have f3 : FZ I I3 := (f2.Z.tr v3.Z).tr u3.Z
      have g3 : CT n A I3 q := v2.o (fun i _ _ => by rw [u3 21 (by omega)])
      have e93 : I3 21 9 = I 21 9 := by rw [u3 21 (by omega), v9, j3 21 9 (by omega), e90]
      have hbg := bgC_n (tv9 n A (tn9 n A 0)) (tv9 n A (q2P n A 1 9 (tn9 n A 0)))
      have hrg : rg (tv9 n A (tn9 n A 0)) 0 9 := ⟨by have := (wi_iff.1 o6).1; omega, (wi_iff.1 o6).2⟩
      have js := c_rJ (X := X) (d := d) (L := L) (J := J) hn hA 4 q (bgC (tv9 n A (tn9 n A 0)) (tv9 n A (q2P n A 1 9 (tn9 n A 0)))) I3 o5 (by rw [hbg.2]) (Iv_bgC _ hrg) hbg.1 (f3.CB hb) g3 u2
      rw [hbg.2] at js
      have jh : zcall X (d + 7) 94 [.inr (.inr (some (.inl 7, 21)))] (L, zB1, I3, J) = zgo X (zcall X (d+6)) (some .boolean) kX7_readJudges 2 [some (.inr (.inr (some (.inl 7, 21)))), some (.inl (nI 0))] [] (L, zB1, I3, J) := eX7_readJudges X (d + 6) L I3 J
      show (∀ c, bd (sJ n A 4 q _) _ = .inr c → _) ∧ (∀ e, bd (sJ n A 4 q _) _ = .inl e → _)
      cases e2 : sJ n A 4 q (bgC (tv9 n A (tn9 n A 0)) (tv9 n A (q2P n A 1 9 (tn9 n A 0)))) with
      | inl e =>
        obtain ⟨I4, r1, r2, r3⟩ := js.2 e e2
        refine ⟨(fun w hw => by cases hw), fun e' he => ?_⟩
        cases he
        exact bad I4 _ r2 (f3.tr r3) (by rw [head, law, cI_some, bX7_readAll_13, if_neg (by decide), jh, r1, cI_some, bX7_readAll_20, if_pos rfl])
      | inr w =>
        obtain ⟨I4, r1, r2, r3, r4, r5, r6, r7, r8⟩ := js.1 w e2
        have f4 := f3.tr r8
        have ms := c_rM (X := X) (d := d) (L := L) (J := J) hn hA 6 w.2 w.1 none I4 r3 (by omega) r5 (f4.CB hb) r2 r4
        rw [r6] at ms
        have mh : zcall X (d + 7) 95 [.inr (.inr (some (.inl 7, 21)))] (L, zB1, I4, J) = zgo X (zcall X (d+6)) (some .boolean) kX7_readMen 2 [some (.inr (.inr (some (.inl 7, 21)))), some (.inl (nI 0)), none] [] (L, zB1, I4, J) := eX7_readMen X (d + 6) L I4 J
        show (∀ c, sM n A 6 w.2 w.1 = .inr c → _) ∧ (∀ e, sM n A 6 w.2 w.1 = .inl e → _)
        refine ⟨fun c' hc' => ?_, fun e he => ?_⟩
        · obtain ⟨I5, t1, t2, t3, t4, t5, t6⟩ := ms.1 c' hc'
          exact ⟨I5, by rw [head, law, cI_some, bX7_readAll_13, if_neg (by decide), jh, r1, cI_some, bX7_readAll_20, if_neg (by decide), mh, t1, cI_some, bX7_readAll_27, if_neg (by decide), bX7_readAll_35, if_neg (by decide)], t2, t3, t4, t5.trans (r7.trans e93), f4.tr t6⟩
        · obtain ⟨I5, t1, t2, t3⟩ := ms.2 e he
          exact bad I5 _ t2 (f4.tr t3) (by rw [head, law, cI_some, bX7_readAll_13, if_neg (by decide), jh, r1, cI_some, bX7_readAll_20, if_neg (by decide), mh, t1, cI_some, bX7_readAll_27, if_pos rfl])
end PARE
