/-! the next token, on both sides -/
def mco : Nat → Int32
  | 0 => 1
  | 1 => 2
  | 2 => 3
  | 3 => 4
  | _ => 0
def MT (n : Nat) (A : Nat → Int32) (I : Nat → Nat → Int32) (p : Nat) : Prop := I 283 13 = nI p ∧ I 283 14 = mco (tk n A p).1 ∧ ((tk n A p).1 ≠ 4 → (tk n A p).1 ≠ 0 → I 283 15 = (tk n A p).2.1) ∧ ((tk n A p).1 ≠ 4 → I 283 12 = nI (tk n A p).2.2)
def MB (n : Nat) (A : Nat → Int32) (I : Nat → Nat → Int32) : Prop := I 283 11 = nI n ∧ ∀ k, k < n → I 291 k = A k
def FU (I I' : Nat → Nat → Int32) : Prop := ∀ a i, ¬ (a = 283 ∧ 12 ≤ i ∧ i ≤ 15) → I' a i = I a i
theorem FU.rf (I : Nat → Nat → Int32) : FU I I := fun _ _ _ => rfl
theorem FU.tr {I I1 I2 : Nat → Nat → Int32} (h : FU I I1) (h2 : FU I1 I2) : FU I I2 := fun a i k => (h2 a i k).trans (h a i k)
theorem FU.up {I I1 : Nat → Nat → Int32} (h : FU I I1) {i : Nat} {v : Int32} (hi : 12 ≤ i ∧ i ≤ 15) : FU I (zup I1 283 i v) := fun a i' k => by
  rw [zup_at, if_neg (by omega)]; exact h a i' k
theorem FU.MB {I I' : Nat → Nat → Int32} (h : FU I I') {n : Nat} {A : Nat → Int32} (hb : MB n A I) : MB n A I' := by
  refine ⟨?_, fun k hk => ?_⟩
  · rw [h 283 11 (by omega)]; exact hb.1
  · rw [h 291 k (by omega)]; exact hb.2 k hk
section NEXT
variable {X : Nat → Nat → Int32} {d : Nat} {L : List zK} {I : Nat → Nat → Int32} {J : Nat → Nat → Int64} {n : Nat} {A : Nat → Int32}
theorem c_next (hb : CB n A I) (hn : n ≤ 120) (hA : ∀ k, k < n → rg (A k) 0 255) {p : Nat} (hp : p ≤ n) (h6 : I 21 6 = nI p) : ∃ I', zcall X (d + 3) 103 [.inr (.inr (some (.inl 7, 21)))] (L, zB1, I, J) = some (none, (L, zB1, I', J)) ∧ CT n A I' p ∧ FT I I' := by
  have f1 : FT I (zup I 21 3 (nI p)) := (FT.rf I).up (by omega)
  rw [eX7_next, h6, zup_e, c_byteAt (f1.CB hb) hn (by omega), cI_some, bX7_next_17]
  have f2 : FT I (zup (zup (zup I 21 3 (nI p)) 21 5 (bA n A p)) 21 6 (nI (p + 1))) := (f1.up (by omega)).up (by omega)
  rw [zup_f (i := 5) (j := 3) _ _ (by omega), zup_e, nI_1, zup_f (i := 6) (j := 5) _ _ (by omega), zup_e]
  have g3 : zup (zup (zup I 21 3 (nI p)) 21 5 (bA n A p)) 21 6 (nI (p + 1)) 21 3 = nI p := by rw [zup_f _ _ (by omega), zup_f _ _ (by omega), zup_e]
  have g5 : zup (zup (zup I 21 3 (nI p)) 21 5 (bA n A p)) 21 6 (nI (p + 1)) 21 5 = bA n A p := by rw [zup_f _ _ (by omega), zup_e]
  have g6 : zup (zup (zup I 21 3 (nI p)) 21 5 (bA n A p)) 21 6 (nI (p + 1)) 21 6 = nI (p + 1) := zup_e _ _ _ _
  generalize zup (zup (zup I 21 3 (nI p)) 21 5 (bA n A p)) 21 6 (nI (p + 1)) = I1 at f2 g3 g5 g6
  have fin : ∀ (I2 : Nat → Nat → Int32) (t : Nat) (v : Int32) (q : Nat), tk n A p = (t, v, q) → I2 21 3 = nI p → I2 21 4 = nI t → (t ≠ 4 → t ≠ 0 → I2 21 5 = v) → (t ≠ 4 → I2 21 6 = nI q) → CT n A I2 p := by
    intro I2 t v q e h1 h2 h3 h4
    unfold CT
    rw [e]
    exact ⟨h1, h2, h3, h4⟩
  by_cases hpn : p < n
  · have eb : bA n A p = A p := if_pos hpn
    rw [eb] at g5 ⊢
    have hr := hA p hpn
    rw [if_pos (by rw [i32_le, i0]; exact hr.1), c_isFigure, cI_some, bX7_next_60, g5, bX7_next_96, g5, bX7_next_115]
    cases hf : fig (A p) with
    | true =>
      obtain ⟨I2, e2, h2, f3⟩ := c_lookN (X := X) (d := d) (L := L) (J := J) (f2.CB hb) hn hpn g3 hf
      rw [if1, e2, cV_some, bX7_next_67]
      exact ⟨I2, rfl, h2, f2.tr f3⟩
    | false =>
      rw [if0]
      have non : ¬ (97 ≤ (A p).toInt ∧ (A p).toInt ≤ 122) → ∃ I', (if A p = 44 then some (none, (L, zB1, (zup I1 21 4 3), J)) else if A p = 59 then some (none, (L, zB1, (zup I1 21 4 3), J)) else some (none, (L, zB1, (zup I1 21 4 4), J)) : Option zR) = some (none, (L, zB1, I', J)) ∧ CT n A I' p ∧ FT I I' := by
        intro hl
        have hl2 : ¬ wi (A p) 97 122 = true := fun q => hl (wi_iff.1 q)
        by_cases w : A p = 44 ∨ A p = 59
        · refine ⟨zup I1 21 4 3, ?_, fin _ 3 (A p) (p + 1) (by unfold tk; rw [if_pos hpn, hf, if_neg (by decide), if_neg hl2, if_pos w]) (by rw [zup_f _ _ (by omega)]; exact g3) (zup_e _ _ _ _) (fun _ _ => by rw [zup_f _ _ (by omega)]; exact g5) (fun _ => by rw [zup_f _ _ (by omega)]; exact g6), f2.up (by omega)⟩
          by_cases w1 : A p = 44
          · rw [if_pos w1]
          · rw [if_neg w1, if_pos (w.resolve_left w1)]
        · refine ⟨zup I1 21 4 4, ?_, fin _ 4 0 p (by unfold tk; rw [if_pos hpn, hf, if_neg (by decide), if_neg hl2, if_neg w]) (by rw [zup_f _ _ (by omega)]; exact g3) (zup_e _ _ _ _) (fun q => absurd rfl q) (fun q => absurd rfl q), f2.up (by omega)⟩
          rw [if_neg (fun q => w (Or.inl q)), if_neg (fun q => w (Or.inr q))]
      by_cases w1 : A p < 97
      · rw [if_pos w1]
        exact non (fun q => by rw [i32_lt, show (97 : Int32).toInt = 97 from rfl] at w1; omega)
      · rw [if_neg w1]
        by_cases w2 : 122 < A p
        · rw [if_pos w2]
          exact non (fun q => by rw [i32_lt, show (122 : Int32).toInt = 122 from rfl] at w2; omega)
        · rw [if_neg w2]
          have hl2 : wi (A p) 97 122 = true := wi_iff.2 ⟨by rw [i32_lt, show (97 : Int32).toInt = 97 from rfl] at w1; omega, by rw [i32_lt, show (122 : Int32).toInt = 122 from rfl] at w2; omega⟩
          exact ⟨zup I1 21 4 1, rfl, fin _ 1 (A p) (p + 1) (by unfold tk; rw [if_pos hpn, hf, if_neg (by decide), if_pos hl2]) (by rw [zup_f _ _ (by omega)]; exact g3) (zup_e _ _ _ _) (fun _ _ => by rw [zup_f _ _ (by omega)]; exact g5) (fun _ => by rw [zup_f _ _ (by omega)]; exact g6), f2.up (by omega)⟩
  · rw [show bA n A p = -1 from if_neg hpn, if_neg (by decide), zup_f _ _ (by omega), g3]
    exact ⟨_, rfl, fin _ 0 (-1) p (by unfold tk; rw [if_neg hpn]) (by rw [zup_f _ _ (by omega), zup_f _ _ (by omega)]; exact g3) (by rw [zup_f _ _ (by omega), zup_e]; rfl) (fun _ q => absurd rfl q) (fun _ => zup_e _ _ _ _), (f2.up (by omega)).up (by omega)⟩
theorem m_inF (x9 : Int32) : zcall X (d + 1) 153 [.inr (.inl x9.toInt64), .inr (.inl 48), .inr (.inl 57)] (L, zB1, I, J) = some (some (.inl (b2i (fig x9))), (L, zB1, I, J)) := m_inI x9 48 57
theorem m_tok165 (hb : MB n A I) (hn : n ≤ 120) {p q : Nat} (hpq : p < q) (hq : q ≤ n) (h3 : I 283 13 = nI p) (h2 : I 283 12 = nI q) : zgo X (zcall X (d+1)) none kX9_nextToken 165 [some (.inr (.inr (some (.inl 9, 283))))] [] (L, zB1, I, J) = if fig (bA n A q) = true then zgo X (zcall X (d+1)) none kX9_nextToken 165 [some (.inr (.inr (some (.inl 9, 283))))] [] (L, zB1, (zup (zup I 283 15 (if 2 ≤ q - p then I 283 15 else (10 * I 283 15 + A q) - 48)) 283 12 (nI (q + 1))), J) else zgo X (zcall X (d+1)) none kX9_nextToken 255 [some (.inr (.inr (some (.inl 9, 283))))] [] (L, zB1, I, J) := by
  have e : (nI q - nI p).toInt = ((q - p : Nat) : Int) := by
    rw [Jvm.Kit.i32_sub (by rw [nI_int (by omega), nI_int (by omega)]; omega) (by rw [nI_int (by omega), nI_int (by omega)]; omega), nI_int (by omega), nI_int (by omega)]
    omega
  rw [bX9_nextToken_165, hb.1, h2]
  by_cases hqn : q < n
  · rw [if_neg (by rw [nle (by omega) (by omega)]; omega), zin_nI (show q < 120 by omega) (by omega), zbt_t, ncl (by omega), hb.2 q hqn, m_inF, cI_some, bX9_nextToken_195, h2, h3, zin_nI (show q < 120 by omega) (by omega), zbt_t, ncl (by omega), hb.2 q hqn, bX9_nextToken_239, bX9_nextToken_239, zup_f _ _ (by omega), zup_f _ _ (by omega), h2, nI_1, show bA n A q = A q from if_pos hqn]
    cases fig (A q) with
    | false => rw [if0, if_neg (by decide)]
    | true =>
      rw [if1, if_pos rfl]
      by_cases w : 2 ≤ q - p
      · rw [if_pos w, if_pos (by rw [i32_le, e, i2]; omega)]
      · rw [if_neg w, if_neg (by rw [i32_le, e, i2]; omega)]
  · rw [if_pos (by rw [nle (by omega) (by omega)]; omega), show bA n A q = -1 from if_neg hqn, fig_m1, if_neg (by decide)]
theorem m_tok255 {p q : Nat} (h3 : I 283 13 = nI p) (h2 : I 283 12 = nI q) (hp : p ≤ q) (hq : q < 2 ^ 30) : zgo X (zcall X (d)) none kX9_nextToken 255 [some (.inr (.inr (some (.inl 9, 283))))] [] (L, zB1, I, J) = if q - p ≤ 2 then some (none, (L, zB1, (zup I 283 14 3), J)) else some (none, (L, zB1, (zup I 283 14 0), J)) := by
  have e : (nI q - nI p).toInt = ((q - p : Nat) : Int) := by
    rw [Jvm.Kit.i32_sub (by rw [nI_int (by omega), nI_int (by omega)]; omega) (by rw [nI_int (by omega), nI_int (by omega)]; omega), nI_int (by omega), nI_int (by omega)]
    omega
  rw [bX9_nextToken_255, h3, h2]
  by_cases w : q - p ≤ 2
  · rw [if_pos w, if_pos (by rw [i32_le, e, i2]; omega)]
  · rw [if_neg w, if_neg (by rw [i32_le, e, i2]; omega)]
theorem m_tokLong (hn : n ≤ 120) {p : Nat} : ∀ (r q : Nat) (I : Nat → Nat → Int32), q + r = n → p + 3 ≤ q → MB n A I → I 283 13 = nI p → I 283 12 = nI q → ∃ I', zgo X (zcall X (d+1)) none kX9_nextToken 165 [some (.inr (.inr (some (.inl 9, 283))))] [] (L, zB1, I, J) = some (none, (L, zB1, (zup I' 283 14 0), J)) ∧ I' 283 13 = nI p ∧ FU I I'
  | 0, q, I, hr, hq, hb, h3, h2 => by
    refine ⟨I, ?_, h3, FU.rf I⟩
    rw [m_tok165 hb hn (show p < q by omega) (by omega) h3 h2, show bA n A q = -1 from if_neg (by omega), fig_m1, if_neg (by decide), m_tok255 h3 h2 (by omega) (by omega), if_neg (by omega)]
  | r + 1, q, I, hr, hq, hb, h3, h2 => by
    rw [m_tok165 hb hn (show p < q by omega) (by omega) h3 h2]
    by_cases w : fig (bA n A q) = true
    · rw [if_pos w]
      have f1 : FU I (zup (zup I 283 15 (if 2 ≤ q - p then I 283 15 else (10 * I 283 15 + A q) - 48)) 283 12 (nI (q + 1))) := ((FU.rf I).up (by omega)).up (by omega)
      obtain ⟨I2, e2, h4, f2⟩ := m_tokLong (p := p) hn r (q + 1) _ (by omega) (by omega) (f1.MB hb) (by rw [zup_f _ _ (by omega), zup_f _ _ (by omega)]; exact h3) (zup_e _ _ _ _)
      exact ⟨I2, e2, h4, f1.tr f2⟩
    · rw [if_neg w]
      refine ⟨I, ?_, h3, FU.rf I⟩
      rw [m_tok255 h3 h2 (by omega) (by omega), if_neg (by omega)]
theorem m_next (hb : MB n A I) (hn : n ≤ 120) (hA : ∀ k, k < n → rg (A k) 0 255) {p : Nat} (hp : p ≤ n) (h2 : I 283 12 = nI p) : ∃ I', zcall X (d + 2) 162 [.inr (.inr (some (.inl 9, 283)))] (L, zB1, I, J) = some (none, (L, zB1, I', J)) ∧ MT n A I' p ∧ FU I I' := by
  have f1 : FU I (zup I 283 13 (nI p)) := (FU.rf I).up (by omega)
  have fin : ∀ (I2 : Nat → Nat → Int32) (t : Nat) (v : Int32) (q : Nat), tk n A p = (t, v, q) → I2 283 13 = nI p → I2 283 14 = mco t → (t ≠ 4 → t ≠ 0 → I2 283 15 = v) → (t ≠ 4 → I2 283 12 = nI q) → MT n A I2 p := by
    intro I2 t v q e h1 h2 h3 h4
    unfold MT
    rw [e]
    exact ⟨h1, h2, h3, h4⟩
  rw [eX9_nextToken, h2, zup_f _ _ (by omega), zup_f _ _ (by omega), hb.1, h2]
  by_cases hpn : p < n
  · have hr := hA p hpn
    rw [if_neg (by rw [nle (by omega) (by omega)]; omega), zin_nI (show p < 120 by omega) (by omega), zbt_t, ncl (by omega), zup_ne (by omega), hb.2 p hpn, bX9_nextToken_34, zup_f _ _ (by omega), zup_f _ _ (by omega), h2, zup_f _ _ (by omega), zup_f _ _ (by omega), hb.1, if_neg (show ¬ nI p = nI n by rw [neq (by omega) (by omega)]; omega), zup_e]
    have f2 : FU I (zup (zup I 283 13 (nI p)) 283 15 (A p)) := f1.up (by omega)
    have g2 : zup (zup I 283 13 (nI p)) 283 15 (A p) 283 12 = nI p := by rw [zup_f _ _ (by omega), zup_f _ _ (by omega)]; exact h2
    have g3 : zup (zup I 283 13 (nI p)) 283 15 (A p) 283 13 = nI p := by rw [zup_f _ _ (by omega), zup_e]
    have g5 : zup (zup I 283 13 (nI p)) 283 15 (A p) 283 15 = A p := zup_e _ _ _ _
    generalize zup (zup I 283 13 (nI p)) 283 15 (A p) = I1 at f2 g2 g3 g5
    have k118 : ∀ s0 : Int32, ¬ s0 = 3 → zgo X (zcall X (d+1)) none kX9_nextToken 118 [some (.inr (.inr (some (.inl 9, 283))))] [.inl s0, .inr (.inr (some (.inl 9, 283)))] (L, zB1, I1, J) = some (none, (L, zB1, (zup (zup I1 283 14 s0) 283 12 (nI (p + 1))), J)) := by
      intro s0 hs
      rw [bX9_nextToken_118, zup_f _ _ (by omega), zup_f _ _ (by omega), show I1 283 11 = nI n from (f2.MB hb).1, g2, if_neg (by rw [nle (by omega) (by omega)]; omega), bX9_nextToken_142, nI_1, zup_f _ _ (by omega), zup_e, if_neg hs]
    rw [m_inI, cI_some, show wi (A p) (Int64.toInt 97) (Int64.toInt 122) = wi (A p) 97 122 from rfl, bX9_nextToken_67, g5, m_inF, cI_some, bX9_nextToken_88, g5, k118 2 (by decide), k118 4 (by decide), k118 0 (by decide)]
    have tail : ∀ (t : Nat) (q : Nat), tk n A p = (t, A p, p + 1) → ¬ t = 2 → MT n A (zup (zup I1 283 14 (mco t)) 283 12 (nI (p + 1))) p := fun t q e ht => fin _ t (A p) (p + 1) e (by rw [zup_f _ _ (by omega), zup_f _ _ (by omega)]; exact g3) (by rw [zup_f _ _ (by omega), zup_e]) (fun _ _ => by rw [zup_f _ _ (by omega), zup_f _ _ (by omega)]; exact g5) (fun _ => zup_e _ _ _ _)
    cases hl : wi (A p) 97 122 with
    | true =>
      have hf : fig (A p) = false := by
        cases w : fig (A p) with
        | false => rfl
        | true => rw [fig_iff] at w; rw [wi_iff] at hl; omega
      rw [if1]
      exact ⟨_, rfl, tail 1 0 (by unfold tk; rw [if_pos hpn, hf, if_neg (by decide), if_pos hl]) (by omega), (f2.up (by omega)).up (by omega)⟩
    | false =>
      rw [if0]
      cases hf : fig (A p) with
      | false =>
        rw [if0]
        by_cases w : A p = 44 ∨ A p = 59
        · refine ⟨zup (zup I1 283 14 4) 283 12 (nI (p + 1)), ?_, tail 3 0 (by unfold tk; rw [if_pos hpn, hf, if_neg (by decide), hl, if_neg (by decide), if_pos w]) (by omega), (f2.up (by omega)).up (by omega)⟩
          by_cases w1 : A p = 44
          · rw [if_pos w1]
          · rw [if_neg w1, if_pos (w.resolve_left w1)]
        · refine ⟨zup (zup I1 283 14 0) 283 12 (nI (p + 1)), ?_, fin _ 4 0 p (by unfold tk; rw [if_pos hpn, hf, if_neg (by decide), hl, if_neg (by decide), if_neg w]) (by rw [zup_f _ _ (by omega), zup_f _ _ (by omega)]; exact g3) (by rw [zup_f _ _ (by omega), zup_e]; rfl) (fun q => absurd rfl q) (fun q => absurd rfl q), (f2.up (by omega)).up (by omega)⟩
          rw [if_neg (fun q => w (Or.inl q)), if_neg (fun q => w (Or.inr q))]
      | true =>
        rw [if1, bX9_nextToken_118, zup_f _ _ (by omega), zup_f _ _ (by omega), show I1 283 11 = nI n from (f2.MB hb).1, g2, if_neg (by rw [nle (by omega) (by omega)]; omega), bX9_nextToken_142, nI_1, zup_f (i := 12) (j := 14) _ _ (by omega), zup_e, if_pos rfl, zup_f (i := 12) (j := 15) _ _ (by omega), zup_f (i := 14) (j := 15) _ _ (by omega), g5]
        have f3 : FU I (zup (zup (zup I1 283 14 3) 283 12 (nI (p + 1))) 283 15 (A p - 48)) := ((f2.up (by omega)).up (by omega)).up (by omega)
        have k2 : zup (zup (zup I1 283 14 3) 283 12 (nI (p + 1))) 283 15 (A p - 48) 283 12 = nI (p + 1) := by rw [zup_f _ _ (by omega), zup_e]
        have k3 : zup (zup (zup I1 283 14 3) 283 12 (nI (p + 1))) 283 15 (A p - 48) 283 13 = nI p := by rw [zup_f _ _ (by omega), zup_f _ _ (by omega), zup_f _ _ (by omega)]; exact g3
        have k5 : zup (zup (zup I1 283 14 3) 283 12 (nI (p + 1))) 283 15 (A p - 48) 283 15 = A p - 48 := zup_e _ _ _ _
        generalize zup (zup (zup I1 283 14 3) 283 12 (nI (p + 1))) 283 15 (A p - 48) = I2 at f3 k2 k3 k5
        rw [m_tok165 (f3.MB hb) hn (show p < p + 1 by omega) (by omega) k3 k2]
        by_cases w1 : fig (bA n A (p + 1)) = true
        · obtain ⟨w1a, w1b⟩ := bA_lt w1
          rw [if_pos w1, if_neg (by omega), k5]
          have f4 : FU I (zup (zup I2 283 15 ((10 * (A p - 48) + A (p + 1)) - 48)) 283 12 (nI (p + 1 + 1))) := (f3.up (by omega)).up (by omega)
          have l2 : zup (zup I2 283 15 ((10 * (A p - 48) + A (p + 1)) - 48)) 283 12 (nI (p + 1 + 1)) 283 12 = nI (p + 2) := zup_e _ _ _ _
          have l3 : zup (zup I2 283 15 ((10 * (A p - 48) + A (p + 1)) - 48)) 283 12 (nI (p + 1 + 1)) 283 13 = nI p := by rw [zup_f _ _ (by omega), zup_f _ _ (by omega)]; exact k3
          have l5 : zup (zup I2 283 15 ((10 * (A p - 48) + A (p + 1)) - 48)) 283 12 (nI (p + 1 + 1)) 283 15 = (10 * (A p - 48) + A (p + 1)) - 48 := by rw [zup_f _ _ (by omega), zup_e]
          generalize zup (zup I2 283 15 ((10 * (A p - 48) + A (p + 1)) - 48)) 283 12 (nI (p + 1 + 1)) = I3 at f4 l2 l3 l5
          rw [m_tok165 (f4.MB hb) hn (show p < p + 2 by omega) (by omega) l3 l2]
          by_cases w2 : fig (bA n A (p + 2)) = true
          · obtain ⟨w2a, _⟩ := bA_lt w2
            rw [if_pos w2]
            have f5 : FU I (zup (zup I3 283 15 (if 2 ≤ p + 2 - p then I3 283 15 else (10 * I3 283 15 + A (p + 2)) - 48)) 283 12 (nI (p + 2 + 1))) := (f4.up (by omega)).up (by omega)
            obtain ⟨I4, e4, o3, f6⟩ := m_tokLong (X := X) (d := d) (L := L) (J := J) (A := A) (p := p) hn (n - (p + 3)) (p + 3) _ (by omega) (by omega) (f5.MB hb) (by rw [zup_f _ _ (by omega), zup_f _ _ (by omega)]; exact l3) (zup_e _ _ _ _)
            rw [e4]
            exact ⟨_, rfl, fin _ 4 0 p (by unfold tk; rw [if_pos hpn, if_pos hf, if_pos w1, if_pos w2]) (by rw [zup_f _ _ (by omega)]; exact o3) (by rw [zup_e]; rfl) (fun q => absurd rfl q) (fun q => absurd rfl q), (f5.tr f6).up (by omega)⟩
          · rw [if_neg w2, m_tok255 l3 l2 (by omega) (by omega), if_pos (by omega)]
            exact ⟨_, rfl, fin _ 2 _ (p + 2) (by unfold tk; rw [if_pos hpn, if_pos hf, if_pos w1, if_neg w2]) (by rw [zup_f _ _ (by omega)]; exact l3) (by rw [zup_e]; rfl) (fun _ _ => by rw [zup_f _ _ (by omega)]; exact l5) (fun _ => by rw [zup_f _ _ (by omega)]; exact l2), f4.up (by omega)⟩
        · rw [if_neg w1, m_tok255 k3 k2 (by omega) (by omega), if_pos (by omega)]
          exact ⟨_, rfl, fin _ 2 _ (p + 1) (by unfold tk; rw [if_pos hpn, if_pos hf, if_neg w1]) (by rw [zup_f _ _ (by omega)]; exact k3) (by rw [zup_e]; rfl) (fun _ _ => by rw [zup_f _ _ (by omega)]; exact k5) (fun _ => by rw [zup_f _ _ (by omega)]; exact k2), f3.up (by omega)⟩
  · have hpn2 : p = n := by omega
    rw [if_pos (by rw [nle (by omega) (by omega)]; omega), bX9_nextToken_34, zup_f _ _ (by omega), zup_f _ _ (by omega), h2, zup_f _ _ (by omega), zup_f _ _ (by omega), hb.1, if_pos (by rw [hpn2]), bX9_nextToken_118, zup_f _ _ (by omega), zup_f _ _ (by omega), zup_f _ _ (by omega), hb.1, zup_f _ _ (by omega), zup_f _ _ (by omega), zup_f _ _ (by omega), h2, if_pos (by rw [nle (by omega) (by omega)]; omega), bX9_nextToken_142, zup_f _ _ (by omega), zup_e, if_neg (by decide), Int32.add_zero]
    exact ⟨_, rfl, fin _ 0 (-1) p (by unfold tk; rw [if_neg hpn]) (by rw [zup_f _ _ (by omega), zup_f _ _ (by omega), zup_f _ _ (by omega), zup_e]) (by rw [zup_f _ _ (by omega), zup_e]; rfl) (fun _ q => absurd rfl q) (fun _ => zup_e _ _ _ _), ((f1.up (by omega)).up (by omega)).up (by omega)⟩
end NEXT
