/-! by turns: the class -/
section TURNSC
variable {X : Nat → Nat → Int32} {d : Nat} {L : List zK} {I : Nat → Nat → Int32} {J : Nat → Nat → Int64} {c : Cr} {n : Nat} {a b : Int32}
theorem c_playFrom (hn31 : n < 2 ^ 31) {T : Nat} (hT : T ≤ 4) : ∀ (r k : Nat) (c : Cr) (I : Nat → Nat → Int32), k + r = T → Iv c → CAt I 235 c → I 234 8 = a → I 234 9 = b → I 234 10 = nI T → I 234 11 = nI n → ∃ I', zcall X (d + 6 + r) 71 [.inr (.inr (some (.inl 5, 234))), .inl (nI k)] (L, zB1, I, J) = some (some (.inl (VT a b n r k c)), (L, zB1, I', J)) ∧ CAt I' 235 c ∧ FrY I I'
  | 0, k, c, I, hk, hv, h, h8, h9, h10, h11 => by
    obtain ⟨I1, e1, f1⟩ := c_outcome (X := X) (d := d) (L := L) (J := J) h hv.1 hn31 h8 h9 h11
    refine ⟨I1, ?_, f1.CAt h (by omega), f1.Y⟩
    show zcall X (d + 5 + 1) 71 _ _ = _
    rw [eX5_playFrom, h10, if_neg (by rw [nlt (by omega) (by omega)]; omega), e1, cI_some, bX5_playFrom_12]
    rfl
  | r + 1, k, c, I, hk, hv, h, h8, h9, h10, h11 => by
    have hcn := hv.1
    have h6 := hcn.2.1
    have kp : ∀ I', FrY I I' → I' 234 8 = a ∧ I' 234 9 = b ∧ I' 234 10 = nI T ∧ I' 234 11 = nI n := fun I' hf => by
      rw [hf 234 (by omega)]
      exact ⟨h8, h9, h10, h11⟩
    obtain ⟨I0, e0, h0, f0⟩ := c_playFrom hn31 hT r (k + 1) c I (by omega) hv h h8 h9 h10 h11
    have body : ∃ I', zgo X (zcall X (d+6+r)) (some .int) kX5_playFrom 40 [some (.inr (.inr (some (.inl 5, 234)))), some (.inl (nI k)), some (.inl (b2i (gT k))), none, none, none, none, none] [.inl (mvr a b k)] (L, zB1, I, J) = some (some (.inl (VT a b n (r + 1) k c)), (L, zB1, I', J)) ∧ CAt I' 235 c ∧ FrY I I' := by
      obtain ⟨⟨v, u6, u7, I1⟩, e1, ev, h1, f1⟩ := zloopR (fun j (s : Int32 × Option zV × Option zV × (Nat → Nat → Int32)) => zgo X (zcall X (d+6+r)) (some .int) kX5_playFrom 53 [some (.inr (.inr (some (.inl 5, 234)))), some (.inl (nI k)), some (.inl (b2i (gT k))), some (.inl (mvr a b k)), some (.inl (s.1)), some (.inl (nI j)), s.2.1, s.2.2.1] [] (L, zB1, s.2.2.2, J)) (fun j s => s.1 = zfold j (VT a b n r (k + 1) c) (fun m best => if mayB c (mvr a b k) m = true then mxS (gT k) best (VT a b n r (k + 1) (chA c m)) else best) ∧ CAt s.2.2.2 235 c ∧ FrY I s.2.2.2) (men c) (fun j s hj hp => by
        obtain ⟨v, u6, u7, I1⟩ := s
        obtain ⟨ev, h1, f1⟩ := hp
        try dsimp only at ev h1 f1 ⊢
        have es : zfold (j + 1) (VT a b n r (k + 1) c) (fun m best => if mayB c (mvr a b k) m = true then mxS (gT k) best (VT a b n r (k + 1) (chA c m)) else best) = if mayB c (mvr a b k) j = true then mxS (gT k) v (VT a b n r (k + 1) (chA c j)) else v := by rw [ev]; rfl
        rw [es, bX5_playFrom_53, show I1 235 1 = nI (men c) from h1.men hcn, if_neg (by rw [nle (by omega) (by omega)]; omega), zin_nI (show j < 6 by omega) (by omega), zbt_t, ncl (by omega), show I1 239 j = c 4 j from h1.m hj 4 (by omega) (by omega)]
        unfold mayB
        rw [decide_eq_true hj, Bool.true_and]
        by_cases q : c 4 j = mvr a b k
        · rw [if_pos q, decide_eq_true q, Bool.true_and, show zcall X (d + 6 + r) 18 [.inr (.inr (some (.inl 1, 235))), .inl (nI j)] (L, zB1, I1, J) = some (some (.inl (b2i (serving c j))), (L, zB1, I1, J)) from by rw [show d + 6 + r = d + 4 + r + 2 by omega]; exact c_isServing h1 hcn hj, cI_some, bX5_playFrom_88, zin_nI (show j < 6 by omega) (by omega), zbt_t, ncl (by omega), show I1 241 j = c 6 j from h1.m hj 6 (by omega) (by omega)]
          cases hs : serving c j with
          | false =>
            rw [if0, if_neg (by decide), nI_1]
            exact ⟨(v, u6, u7, I1), rfl, rfl, h1, f1⟩
          | true =>
            have emin : (if c 6 j + 5 < 30 then some (some (.inl (c 6 j + 5)), (L, zB1, I1, J)) else some (some (.inl 30), (L, zB1, I1, J)) : Option zR) = some (some (.inl (if c 6 j + 5 ≤ 30 then c 6 j + 5 else 30)), (L, zB1, I1, J)) := by
              rw [iteT]
              congr 3
              by_cases w : c 6 j + 5 < 30
              · rw [if_pos w, if_pos (by rw [i32_lt] at w; rw [i32_le]; omega)]
              · rw [if_neg w]
                by_cases w2 : c 6 j + 5 ≤ 30
                · rw [if_pos w2]
                  congr 1
                  apply Int32.toInt_inj.mp
                  rw [i32_lt] at w
                  rw [i32_le] at w2
                  omega
                · rw [if_neg w2]
            have hch : chA c j = cup c 6 j (if c 6 j + 5 ≤ 30 then c 6 j + 5 else 30) := if_neg (by omega)
            have hC := chA_n c j
            have h2 : CAt (zup I1 241 j (if c 6 j + 5 ≤ 30 then c 6 j + 5 else 30)) 235 (chA c j) := by
              rw [hch]; exact h1.up (f := 6) (by omega)
            have f2 : FrY I (zup I1 241 j (if c 6 j + 5 ≤ 30 then c 6 j + 5 else 30)) := f1.tr ((Fr.rf 235 I1).up (f := 6) (by omega)).Y2
            obtain ⟨k8, k9, k10, k11⟩ := kp _ f2
            obtain ⟨I3, e3, h3, f3⟩ := c_playFrom hn31 hT r (k + 1) (chA c j) _ (by omega) (hC.2.2.1 hv (Or.inl hj)) h2 k8 k9 k10 k11
            have h4 : CAt (zup I3 241 j (c 6 j)) 235 c := by
              have := h3.up (f := 6) (i := j) (v := c 6 j) (by omega)
              rw [hch, cup_cup, cup_self] at this
              exact this
            have f4 : FrY I (zup I3 241 j (c 6 j)) := (f2.tr f3).tr ((Fr.rf 235 I3).up (f := 6) (by omega)).Y2
            rw [if1, show zcall X (d + 6 + r) 3 [.inl 30, .inl (c 6 j + 5)] (L, zB1, I1, J) = some (some (.inl (if c 6 j + 5 ≤ 30 then c 6 j + 5 else 30)), (L, zB1, I1, J)) from by rw [show d + 6 + r = d + 5 + r + 1 by omega]; exact (eJ9_min_7cf53 X (d + 5 + r) L I1 J 30 (c 6 j + 5)).trans emin, cI_some, bX5_playFrom_121, zin_nI (show j < 6 by omega) (by omega), zbt_t, ncl (by omega), nI_1, e3, cI_some, bX5_playFrom_129, zin_nI (show j < 6 by omega) (by omega), zbt_t, ncl (by omega), if_pos rfl]
            rw [show ∀ (x9 y9 : Int32) (σ : Nat → Nat → Int32), zcall X (d + 6 + r) 3 [.inl x9, .inl y9] (L, zB1, σ, J) = some (some (.inl (mxS false x9 y9)), (L, zB1, σ, J)) from fun x9 y9 σ => by rw [show d + 6 + r = d + 5 + r + 1 by omega]; exact (eJ9_min_7cf53 X (d + 5 + r) L σ J x9 y9).trans (by rw [iteT]; rfl), show ∀ (x9 y9 : Int32) (σ : Nat → Nat → Int32), zcall X (d + 6 + r) 2 [.inl x9, .inl y9] (L, zB1, σ, J) = some (some (.inl (mxS true x9 y9)), (L, zB1, σ, J)) from fun x9 y9 σ => by rw [show d + 6 + r = d + 5 + r + 1 by omega]; exact (eJ9_max_7cf53 X (d + 5 + r) L σ J x9 y9).trans (by rw [iteT]; rfl), cI_some, cI_some, bX5_playFrom_154, bX5_playFrom_164, bX5_playFrom_164, nI_1]
            cases hg : gT k with
            | false =>
              rw [if0]
              exact ⟨(_, _, _, _), rfl, rfl, h4, f4⟩
            | true =>
              rw [if1]
              exact ⟨(_, _, _, _), rfl, rfl, h4, f4⟩
        · rw [if_neg q, decide_eq_false q, Bool.false_and, if_neg (by decide), nI_1]
          exact ⟨(v, u6, u7, I1), rfl, rfl, h1, f1⟩) (a := (VT a b n r (k + 1) c, none, none, I0)) ⟨rfl, h0, f0⟩
      try dsimp only at ev h1 f1
      refine ⟨I1, ?_, h1, f1⟩
      rw [bX5_playFrom_40, nI_1, e0, cI_some, bX5_playFrom_48]
      refine (show _ = _ from e1).trans ?_
      try dsimp only
      rw [bX5_playFrom_53, show I1 235 1 = nI (men c) from h1.men hcn, if_pos (by rw [nle (by omega) (by omega)]; omega), ev, VT_s]
      have := zfold_ext (VT a b n r (k + 1) c) (fun m best => if mayB c (mvr a b k) m = true then mxS (gT k) best (VT a b n r (k + 1) (chA c m)) else best) (men c) (6 - men c) (fun m w1 w2 x9 => by
        unfold mayB
        rw [decide_eq_false (by omega), Bool.false_and, if_neg (by decide)])
      rw [show men c + (6 - men c) = 6 by omega] at this
      rw [this]
    obtain ⟨I1, e1, h1, f1⟩ := body
    refine ⟨I1, ?_, h1, f1⟩
    show zcall X (d + 6 + r + 1) 71 _ _ = _
    rw [eX5_playFrom, h10, if_pos (by rw [nlt (by omega) (by omega)]; omega), if_neg (show ¬ (2 : Int32) = 0 by decide), bX5_playFrom_24, if_neg (show ¬ (1 : Int32) = 0 by decide), bX5_playFrom_24, if_pos (show (0 : Int32) = 0 from rfl), h8, h9, ← e1]
    unfold mvr
    have hp := par2 k (by omega)
    by_cases g : gT k = true
    · rw [if_pos (hp.2 g), if_pos g, g]; rfl
    · rw [if_neg (fun w => g (hp.1 w)), if_neg g, Bool.eq_false_iff.2 g]; rfl
theorem c_playTurns (h : CAt I 13 c) (hv : Iv c) (hn31 : n < 2 ^ 31) {T : Nat} (hT : T ≤ 4) : ∃ I', zcall X (d + 11) 70 [.inr (.inr (some (.inl 5, 234))), .inr (.inr (some (.inl 1, 13))), .inl a, .inl b, .inl (nI T), .inl (nI n)] (L, zB1, I, J) = some (some (.inl (VT a b n T 0 c)), (L, zB1, I', J)) ∧ Q I I' := by
  have hcn := hv.1
  obtain ⟨I1, e1, h1, f1⟩ := c_takeFrom (X := X) (d := d + 9) (L := L) (J := J) (b := 235) h hcn (by omega)
  have h2 : CAt (zup (zup (zup (zup I1 234 8 a) 234 9 b) 234 10 (nI T)) 234 11 (nI n)) 235 c := by
    intro f i hv'
    rw [zup_ne (by omega), zup_ne (by omega), zup_ne (by omega), zup_ne (by omega)]
    exact h1 f i hv'
  obtain ⟨I2, e2, h2', f2⟩ := c_playFrom (X := X) (d := d + 4 - T) (L := L) (J := J) (a := a) (b := b) hn31 hT T 0 c _ (by omega) hv h2 (by rw [zup_at, if_neg (by omega), zup_at, if_neg (by omega), zup_at, if_neg (by omega), zup_at, if_pos ⟨rfl, rfl⟩]) (by rw [zup_at, if_neg (by omega), zup_at, if_neg (by omega), zup_at, if_pos ⟨rfl, rfl⟩]) (by rw [zup_at, if_neg (by omega), zup_at, if_pos ⟨rfl, rfl⟩]) (by rw [zup_at, if_pos ⟨rfl, rfl⟩])
  rw [show d + 4 - T + 6 + T = d + 10 by omega] at e2
  refine ⟨I2, ?_, fun q i k => ?_⟩
  · rw [eX5_playTurns, e1, cV_some, bX5_playTurns_8, eJ9_min_7cf53, if_neg (by show ¬ nI 4 < nI T; rw [nlt (by omega) (by omega)]; omega), cI_some, bX5_playTurns_25, show zcall X (d + 10) 71 [.inr (.inr (some (.inl 5, 234))), .inl 0] _ = _ from e2, cI_some, bX5_playTurns_39]
  · unfold kor at k
    rw [f2 q (by omega), zup_ne (by omega), zup_ne (by omega), zup_ne (by omega), zup_ne (by omega), f1 q (by omega)]
end TURNSC
