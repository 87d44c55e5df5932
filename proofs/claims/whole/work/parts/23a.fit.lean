/-! what fits: how trust grew -/
def fitR (c : Cr) (m : Nat) (w : Nat → Int32) : Nat → Nat → Bool
  | 0, _ => true
  | t + 1, k => decide (pasS (k + 1) 0 c 7 m = w k) && fitR c m w t (k + 1)
theorem fitR_s (c : Cr) (m : Nat) (w : Nat → Int32) (t k : Nat) : fitR c m w (t + 1) k = (decide (pasS (k + 1) 0 c 7 m = w k) && fitR c m w t (k + 1)) := rfl
theorem fitR_0 (c : Cr) (m : Nat) (w : Nat → Int32) (k : Nat) : fitR c m w 0 k = true := rfl
def fitB (c : Cr) (m : Nat) (w : Nat → Int32) (n : Nat) : Bool := fitR c m w n 0
def trS (P : Nat → Bool) (lo i : Nat) (s : Int32 × Int32 × Int32) : Int32 × Int32 × Int32 := if P i = true then (s.1 ||| (1 <<< (nI (lo + i) &&& 31)), s.2.1 + 1, if s.2.1 = 0 then nI (lo + i) else s.2.2) else s
def trK (P : Nat → Bool) (lo j : Nat) : Int32 × Int32 × Int32 := zfold j (0, 0, -1000000) (fun i s => trS P lo i s)
theorem nI_z {q : Nat} (h : q < 2 ^ 31) : nI q = 0 ↔ q = 0 := by
  constructor
  · intro e
    have : (nI q).toInt = 0 := by rw [e]; rfl
    rw [nI_int h] at this
    omega
  · intro e; rw [e]; rfl
theorem nI_mil {q : Nat} (h : q < 2 ^ 31) : ¬ nI q = -1000000 := by
  intro e
  have : (nI q).toInt = -1000000 := by rw [e]; rfl
  rw [nI_int h] at this
  omega
theorem trK_inv (P : Nat → Bool) (lo : Nat) : ∀ j, lo + j < 2 ^ 20 → ∃ q, q ≤ j ∧ (trK P lo j).2.1 = nI q ∧ ((trK P lo j).2.1 = 0 ↔ (trK P lo j).2.2 = -1000000)
  | 0, _ => ⟨0, Nat.le_refl _, rfl, by
      show (0 : Int32) = 0 ↔ (-1000000 : Int32) = -1000000
      exact ⟨fun _ => rfl, fun _ => rfl⟩⟩
  | j + 1, h => by
    obtain ⟨q, h1, h2, h3⟩ := trK_inv P lo j (by omega)
    have e : trK P lo (j + 1) = trS P lo j (trK P lo j) := rfl
    rw [e]
    unfold trS
    by_cases hp : P j = true
    · rw [if_pos hp]
      refine ⟨q + 1, by omega, by rw [h2, nI_1], ?_⟩
      try dsimp only
      rw [h2, nI_1, nI_z (by omega)]
      constructor
      · intro x9; omega
      · intro x9
        by_cases hq : nI q = 0
        · rw [if_pos hq] at x9
          exact absurd x9 (nI_mil (by omega))
        · rw [if_neg hq] at x9
          rw [h2] at h3
          exact absurd (h3.2 x9) hq
    · rw [if_neg hp]
      exact ⟨q, by omega, h2, h3⟩
section FIT
variable {X : Nat → Nat → Int32} {d : Nat} {L : List zK} {I : Nat → Nat → Int32} {J : Nat → Nat → Int64} {c : Cr} {m n : Nat} {w : Nat → Int32}
theorem c_fits18 (hn : Cn c) (hm : m < men c) (hn12 : n ≤ 12) : ∀ (t k : Nat) (I : Nat → Nat → Int32), k + t = n → CAt I 255 (pasS k 0 c) → I 254 3 = nI m → I 254 2 = nI n → (∀ k, k < n → I 263 k = w k) → ∃ I', zgo X (zcall X (d+4)) (some .boolean) kX2_fits 18 [some (.inr (.inr (some (.inl 2, 254)))), some (.inl (nI k))] [] (L, zB1, I, J) = some (some (.inl (b2i (fitR c m w t k))), (L, zB1, I', J)) ∧ Fr 255 I I'
  | 0, k, I, hk, h, h3, h2, hw => by
    refine ⟨I, ?_, Fr.rf _ _⟩
    rw [bX2_fits_18, h2, if_pos (by rw [nle (by omega) (by omega)]; omega)]; rfl
  | t + 1, k, I, hk, h, h3, h2, hw => by
    have h6 := hn.2.1
    have hP := pasS_n 0 c k
    have hP1 := pasS_n 0 c (k + 1)
    obtain ⟨I1, e1, h1, f1⟩ := c_passYears (X := X) (d := d) (L := L) (J := J) h (hP.2.2 hn) (n := 1) (by omega) 0
    have e1' : zcall X (d + 4) 20 [.inr (.inr (some (.inl 1, 255))), .inl 1, .inl 0] (L, zB1, I, J) = some (none, (L, zB1, I1, J)) := e1
    rw [pas_1, ← pas_s] at h1
    have hm2 : m < men (pasS (k + 1) 0 c) := by rw [hP1.1]; exact hm
    have g3 : I1 254 3 = nI m := by rw [f1 254 (by omega)]; exact h3
    have g2 : I1 254 2 = nI n := by rw [f1 254 (by omega)]; exact h2
    have gw : ∀ k, k < n → I1 263 k = w k := fun k hk => by rw [f1 263 (by omega)]; exact hw k hk
    rw [bX2_fits_18, h2, if_neg (by rw [nle (by omega) (by omega)]; omega), e1', cV_some, bX2_fits_35, g3, zin_nI (show m < 6 by omega) (by omega), zin_nI (show k < 12 by omega) (by omega), zbt_t, zbt_t, ncl (by omega), ncl (by omega), gw k (by omega), show I1 262 m = pasS (k + 1) 0 c 7 m from h1.m hm2 7 (by omega) (by omega)]
    by_cases q : pasS (k + 1) 0 c 7 m = w k
    · obtain ⟨I2, e2, f2⟩ := c_fits18 hn hm hn12 t (k + 1) I1 (by omega) h1 g3 g2 gw
      refine ⟨I2, ?_, f1.tr f2⟩
      rw [if_pos q, nI_1, e2]
      rw [fitR_s, decide_eq_true q, Bool.true_and]
    · refine ⟨I1, ?_, f1⟩
      rw [if_neg q]
      rw [fitR_s, decide_eq_false q, Bool.false_and]; rfl
theorem c_fits (h : CAt I 255 c) (hn : Cn c) (hm : m < men c) (h3 : I 254 3 = nI m) (h2 : I 254 2 = nI n) (hn12 : n ≤ 12) (hw : ∀ k, k < n → I 263 k = w k) : ∃ I', zcall X (d + 5) 38 [.inr (.inr (some (.inl 2, 254)))] (L, zB1, I, J) = some (some (.inl (b2i (fitB c m w n))), (L, zB1, I', J)) ∧ Fr 255 I I' := by
  obtain ⟨I1, e1, f1⟩ := c_fits18 (X := X) (d := d) (L := L) (J := J) hn hm hn12 n 0 I (by omega) h h3 h2 hw
  refine ⟨I1, ?_, f1⟩
  rw [eX2_fits, h3, c_isMan h hn, cI_some, bX2_fits_11, zin_nI hm (by have := hn.2.1; omega), if1]
  exact e1
theorem m_isSo6 (hv : Iv c) (hm : m < men c) {p9 : Nat} (hp : p9 + n ≤ 320) : ∀ (t k : Nat) (b : Bool) (I : Nat → Nat → Int32), k + t = n → MAt I 289 (pasS k 0 c) → (∀ k, k < n → I 286 (p9 + k) = w k) → ∃ I', zgo X (zcall X (d+3)) (some .boolean) kX9_isSo 6 [some (.inr (.inr (some (.inl 9, 283)))), some (.inl (nI m)), some (.inl (nI p9)), some (.inl (nI n)), some (.inl (b2i b)), some (.inl (nI k))] [] (L, zB1, I, J) = some (some (.inl (b2i (b && fitR c m w t k))), (L, zB1, I', J)) ∧ FrM 289 I I'
  | 0, k, b, I, hk, h, hw => by
    refine ⟨I, ?_, FrM.rf _ _⟩
    rw [bX9_isSo_6, if_pos (by rw [nle (by omega) (by omega)]; omega), zret_b]
    rw [fitR_0, Bool.and_true]
  | t + 1, k, b, I, hk, h, hw => by
    have hn := hv.1
    have h6 := hn.2.1
    have hP1 := pasS_n 0 c (k + 1)
    have hI := Iv_pasS 0 hv k
    obtain ⟨I1, e1, h1, f1⟩ := m_yearBy (X := X) (d := d) (L := L) (J := J) h hI true
    have e1' : zcall X (d + 3) 187 [.inr (.inr (some (.inr (.int, 43), 289))), .inl 0] (L, zB1, I, J) = some (none, (L, zB1, I1, J)) := e1
    rw [← pas_s] at h1
    have hm2 : m < men (pasS (k + 1) 0 c) := by rw [hP1.1]; exact hm
    have gw : ∀ k, k < n → I1 286 (p9 + k) = w k := fun k hk => by rw [f1 286 (by omega)]; exact hw k hk
    obtain ⟨I2, e2, f2⟩ := m_isSo6 hv hm hp t (k + 1) (b && decide (pasS (k + 1) 0 c 7 m = w k)) I1 (by omega) h1 gw
    refine ⟨I2, ?_, f1.tr f2⟩
    rw [bX9_isSo_6, if_neg (by rw [nle (by omega) (by omega)]; omega), e1', cV_some, bX9_isSo_20, m_of4 h1 (hP1.2.2 hn) hm2, cI_some, bX9_isSo_34, bX9_isSo_50, nI_add, zin_nI (show p9 + k < 320 by omega) (by omega), zbt_t, ncl (by omega), gw k (by omega), nI_1]
    rw [fitR_s, ← Bool.and_assoc, ← e2]
    cases b with
    | false => rw [if0]; rfl
    | true =>
      rw [if1, Bool.true_and]
      by_cases q : pasS (k + 1) 0 c 7 m = w k
      · rw [if_pos q, decide_eq_true q]; rfl
      · rw [if_neg q, decide_eq_false q]; rfl
theorem m_isSo (h : MAt I 289 c) (hv : Iv c) (hm : m < men c) {p9 : Nat} (hp : p9 + n ≤ 320) (hw : ∀ k, k < n → I 286 (p9 + k) = w k) : ∃ I', zcall X (d + 4) 219 [.inr (.inr (some (.inl 9, 283))), .inl (nI m), .inl (nI p9), .inl (nI n)] (L, zB1, I, J) = some (some (.inl (b2i (fitB c m w n))), (L, zB1, I', J)) ∧ FrM 289 I I' := by
  obtain ⟨I1, e1, f1⟩ := m_isSo6 (X := X) (d := d) (L := L) (J := J) hv hm hp n 0 true I (by omega) h hw
  refine ⟨I1, ?_, f1⟩
  rw [eX9_isSo]
  exact e1
/-- the frame of a trial -/
def FrT (I I' : Nat → Nat → Int32) : Prop := ∀ a i, ¬ (255 ≤ a ∧ a ≤ 262) → ¬ (a = 254 ∧ 4 ≤ i ∧ i ≤ 6) → I' a i = I a i
theorem FrT.rf (I : Nat → Nat → Int32) : FrT I I := fun _ _ _ _ => rfl
theorem FrT.tr {I I1 I2 : Nat → Nat → Int32} (h : FrT I I1) (h2 : FrT I1 I2) : FrT I I2 := fun a i k1 k2 => (h2 a i k1 k2).trans (h a i k1 k2)
theorem Fr.T {I I' : Nat → Nat → Int32} (h : Fr 255 I I') : FrT I I' := fun a i k1 _ => by rw [h a (by omega)]
theorem FrT.up {I I1 : Nat → Nat → Int32} (h : FrT I I1) {i : Nat} {v : Int32} (hi : 4 ≤ i ∧ i ≤ 6) : FrT I (zup I1 254 i v) := fun a i' k1 k2 => by
  rw [zup_at, if_neg (by omega)]
  exact h a i' k1 k2
theorem c_tryAll (h : CAt I 13 c) (hn : Cn c) (hm : m < men c) (h3 : I 254 3 = nI m) (h2 : I 254 2 = nI n) (hn12 : n ≤ 12) (hw : ∀ k, k < n → I 263 k = w k) (what x9 : Int32) (sp : Int32 → Cr) (hsp : ∀ v, Cn (sp v) ∧ men (sp v) = men c) (lo N : Nat) (hlo : lo + N < 2 ^ 20) (hs : ∀ I v, CAt I 255 c → ∃ I', zcall X (d + 6) 37 [.inr (.inr (some (.inl 2, 254))), .inl what, .inl x9, .inl v] (L, zB1, I, J) = some (none, (L, zB1, I', J)) ∧ CAt I' 255 (sp v) ∧ Fr 255 I I') : ∃ I', zcall X (d + 7) 36 [.inr (.inr (some (.inl 2, 254))), .inr (.inr (some (.inl 1, 13))), .inl what, .inl x9, .inl (nI lo), .inl (nI (lo + N) - 1)] (L, zB1, I, J) = some (none, (L, zB1, I', J)) ∧ I' 254 4 = (trK (fun i => fitB (sp (nI (lo + i))) m w n) lo N).1 ∧ I' 254 5 = (trK (fun i => fitB (sp (nI (lo + i))) m w n) lo N).2.1 ∧ I' 254 6 = (trK (fun i => fitB (sp (nI (lo + i))) m w n) lo N).2.2 ∧ FrT I I' := by
  have ehi : (nI (lo + N) - 1).toInt = ((lo + N : Nat) : Int) - 1 := by
    rw [Jvm.Kit.i32_sub, nI_int (by omega), i1]
    · rw [nI_int (by omega), i1]; omega
    · rw [nI_int (by omega), i1]; omega
  obtain ⟨I1, e1, g4, g5, g6, f1⟩ := zloopR (fun k (s : Nat → Nat → Int32) => zgo X (zcall X (d+6)) none kX2_tryAll 20 [some (.inr (.inr (some (.inl 2, 254)))), some (.inr (.inr (some (.inl 1, 13)))), some (.inl (what)), some (.inl (x9)), some (.inl (nI lo)), some (.inl (nI (lo + N) - 1)), some (.inl (nI (lo + k)))] [] (L, zB1, s, J)) (fun k s => s 254 4 = (trK (fun i => fitB (sp (nI (lo + i))) m w n) lo k).1 ∧ s 254 5 = (trK (fun i => fitB (sp (nI (lo + i))) m w n) lo k).2.1 ∧ s 254 6 = (trK (fun i => fitB (sp (nI (lo + i))) m w n) lo k).2.2 ∧ FrT I s) N (fun k s hk hp => by
    obtain ⟨q4, q5, q6, hf⟩ := hp
    try dsimp only at q4 q5 q6 ⊢
    have hC : CAt s 13 c := fun f i hv => by
      have := vld_le hv
      rw [hf _ _ (by omega) (by omega)]
      exact h f i hv
    obtain ⟨I1, e1, h1, f1⟩ := c_takeFrom (X := X) (d := d + 5) (L := L) (J := J) (b := 255) hC hn (by omega)
    obtain ⟨I2, e2, h2', f2⟩ := hs I1 (nI (lo + k)) h1
    have hf2 := (hf.tr f1.T).tr f2.T
    have f12 := f1.tr f2
    obtain ⟨I3, e3, f3⟩ := c_fits (X := X) (d := d + 1) (L := L) (J := J) (m := m) (n := n) (w := w) h2' (hsp _).1 (by rw [(hsp _).2]; exact hm) (by rw [hf2 _ _ (by omega) (by omega)]; exact h3) (by rw [hf2 _ _ (by omega) (by omega)]; exact h2) hn12 (fun k hk => by rw [hf2 _ _ (by omega) (by omega)]; exact hw k hk)
    have f123 := f12.tr f3
    have r4 : I3 254 4 = s 254 4 := by rw [f123 254 (by omega)]
    have r5 : I3 254 5 = s 254 5 := by rw [f123 254 (by omega)]
    have r6 : I3 254 6 = s 254 6 := by rw [f123 254 (by omega)]
    obtain ⟨q, _, w2, w3⟩ := trK_inv (fun i => fitB (sp (nI (lo + i))) m w n) lo k (by omega)
    have et : trK (fun i => fitB (sp (nI (lo + i))) m w n) lo (k + 1) = trS (fun i => fitB (sp (nI (lo + i))) m w n) lo k (trK (fun i => fitB (sp (nI (lo + i))) m w n) lo k) := rfl
    rw [bX2_tryAll_20, if_neg (by rw [i32_lt, ehi, nI_int (by omega)]; omega), e1, cV_some, bX2_tryAll_35, e2, cV_some, bX2_tryAll_43, e3, cI_some, bX2_tryAll_47, nI_1, et]
    unfold trS
    try dsimp only
    rcases Bool.eq_false_or_eq_true (fitB (sp (nI (lo + k))) m w n) with hb | hb
    · rw [if_neg (by rw [hb]; decide), if_pos hb]
      have z5 : zup I3 254 4 (I3 254 4 ||| 1 <<< (nI (lo + k) &&& 31)) 254 5 = (trK (fun i => fitB (sp (nI (lo + i))) m w n) lo k).2.1 := by rw [zup_at, if_neg (by omega), r5]; exact q5
      rw [z5, r4, q4]
      have z6 : zup (zup I3 254 4 ((trK (fun i => fitB (sp (nI (lo + i))) m w n) lo k).1 ||| 1 <<< (nI (lo + k) &&& 31))) 254 5 ((trK (fun i => fitB (sp (nI (lo + i))) m w n) lo k).2.1 + 1) 254 6 = (trK (fun i => fitB (sp (nI (lo + i))) m w n) lo k).2.2 := by rw [zup_at, if_neg (by omega), zup_at, if_neg (by omega), r6]; exact q6
      rw [z6]
      have fin : ∀ v : Int32, (zup (zup (zup I3 254 4 ((trK (fun i => fitB (sp (nI (lo + i))) m w n) lo k).1 ||| 1 <<< (nI (lo + k) &&& 31))) 254 5 ((trK (fun i => fitB (sp (nI (lo + i))) m w n) lo k).2.1 + 1)) 254 6 v) 254 4 = ((trK (fun i => fitB (sp (nI (lo + i))) m w n) lo k).1 ||| 1 <<< (nI (lo + k) &&& 31)) ∧ (zup (zup (zup I3 254 4 ((trK (fun i => fitB (sp (nI (lo + i))) m w n) lo k).1 ||| 1 <<< (nI (lo + k) &&& 31))) 254 5 ((trK (fun i => fitB (sp (nI (lo + i))) m w n) lo k).2.1 + 1)) 254 6 v) 254 5 = ((trK (fun i => fitB (sp (nI (lo + i))) m w n) lo k).2.1 + 1) ∧ (zup (zup (zup I3 254 4 ((trK (fun i => fitB (sp (nI (lo + i))) m w n) lo k).1 ||| 1 <<< (nI (lo + k) &&& 31))) 254 5 ((trK (fun i => fitB (sp (nI (lo + i))) m w n) lo k).2.1 + 1)) 254 6 v) 254 6 = v ∧ FrT I (zup (zup (zup I3 254 4 ((trK (fun i => fitB (sp (nI (lo + i))) m w n) lo k).1 ||| 1 <<< (nI (lo + k) &&& 31))) 254 5 ((trK (fun i => fitB (sp (nI (lo + i))) m w n) lo k).2.1 + 1)) 254 6 v) := by
        intro v
        refine ⟨?_, ?_, ?_, (((hf2.tr f3.T).up (by omega)).up (by omega)).up (by omega)⟩
        · rw [zup_at, if_neg (by omega), zup_at, if_neg (by omega), zup_at, if_pos ⟨rfl, rfl⟩]
        · rw [zup_at, if_neg (by omega), zup_at, if_pos ⟨rfl, rfl⟩]
        · rw [zup_at, if_pos ⟨rfl, rfl⟩]
      by_cases hl : (trK (fun i => fitB (sp (nI (lo + i))) m w n) lo k).2.2 = -1000000
      · rw [if_pos hl, if_pos (w3.2 hl)]
        exact ⟨_, rfl, fin _⟩
      · rw [if_neg hl, if_neg (fun e => hl (w3.1 e))]
        exact ⟨_, rfl, fin _⟩
    · rw [if_pos (by rw [hb]; rfl), if_neg (by rw [hb]; decide)]
      exact ⟨I3, rfl, by rw [r4]; exact q4, by rw [r5]; exact q5, by rw [r6]; exact q6, hf2.tr f3.T⟩) (a := zup (zup (zup I 254 4 0) 254 5 0) 254 6 (-1000000)) ⟨by rw [zup_at, if_neg (by omega), zup_at, if_neg (by omega), zup_at, if_pos ⟨rfl, rfl⟩]; rfl, by rw [zup_at, if_neg (by omega), zup_at, if_pos ⟨rfl, rfl⟩]; rfl, by rw [zup_at, if_pos ⟨rfl, rfl⟩]; rfl, (((FrT.rf I).up (by omega)).up (by omega)).up (by omega)⟩
  refine ⟨I1, ?_, g4, g5, g6, f1⟩
  rw [eX2_tryAll]
  refine (show _ = _ from e1).trans ?_
  try dsimp only
  rw [bX2_tryAll_20, if_pos (by rw [i32_lt, ehi, nI_int (by omega)]; omega)]
end FIT
