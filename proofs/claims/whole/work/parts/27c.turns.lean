/-! by turns: the reference -/
def apK (c : Cr) (ch : Nat → Nat) (k : Nat) : Cr := zfold k c (fun i c' => chA c' (ch i))
theorem apK_s (c : Cr) (ch : Nat → Nat) (k : Nat) : apK c ch (k + 1) = chA (apK c ch k) (ch k) := rfl
theorem apK_n {c : Cr} (hv : Iv c) {ch : Nat → Nat} : ∀ k, (∀ i, i < k → ch i < men c ∨ ch i = 6) → men (apK c ch k) = men c ∧ jud (apK c ch k) = jud c ∧ Iv (apK c ch k) ∧ ∀ f i, f ≠ 6 → apK c ch k f i = c f i
  | 0, _ => ⟨rfl, rfl, hv, fun _ _ _ => rfl⟩
  | k + 1, h => by
    obtain ⟨h1, h2, h3, h4⟩ := apK_n hv k (fun i hi => h i (by omega))
    have hc := chA_n (apK c ch k) (ch k)
    rw [apK_s]
    refine ⟨hc.1.trans h1, hc.2.1.trans h2, hc.2.2.1 h3 ?_, fun f i hf => (hc.2.2.2 f i hf).trans (h4 f i hf)⟩
    rcases h k (by omega) with w | w
    · exact Or.inl (by rw [h1]; exact w)
    · exact Or.inr (by omega)
theorem apK_cg {c : Cr} {ch ch' : Nat → Nat} (k : Nat) (h : ∀ i, i < k → ch i = ch' i) : apK c ch k = apK c ch' k := by
  unfold apK
  exact zfold_congr k (fun j hj x9 => by rw [h j hj])
theorem mayB_cg {c c' : Cr} (h1 : men c' = men c) (h2 : ∀ f i, f ≠ 6 → c' f i = c f i) (q : Int32) (m : Nat) : mayB c' q m = mayB c q m := by
  unfold mayB serving
  rw [h1, h2 4 m (by omega), h2 5 m (by omega)]
theorem chA_6 (c : Cr) : chA c 6 = c := if_pos (Nat.le_refl 6)
theorem zin_no {x9 k : Nat} (h : ¬ x9 < k) (hx : x9 < 2 ^ 31) : zin (nI x9) k = false := by
  cases hz : zin (nI x9) k with
  | false => rfl
  | true =>
    exfalso
    obtain ⟨m, hm, e⟩ := zin_of hz
    by_cases hm2 : m < 2 ^ 31
    · have : (nI x9).toInt = (nI m).toInt := by rw [e]
      rw [nI_int hx, nI_int hm2] at this
      omega
    · omega
section TURNSM
variable {X : Nat → Nat → Int32} {d : Nat} {L : List zK} {I : Nat → Nat → Int32} {J : Nat → Nat → Int64} {c : Cr} {n T : Nat} {a b : Int32}
theorem m_mayGive (h : MAt I 287 c) (hv : Iv c) (q : Int32) {x9 : Nat} (hx : x9 < 6) : zcall X (d + 3) 213 [.inr (.inr (some (.inl 9, 283))), .inl q, .inl (nI x9)] (L, zB1, I, J) = some (some (.inl (b2i (mayB c q x9))), (L, zB1, I, J)) := by
  have hn := hv.1
  have h6 := hn.2.1
  rw [eX9_mayGive, if_neg (by show ¬ nI x9 = nI 6; rw [neq (by omega) (by omega)]; omega), m_isMan h hn, cI_some, bX9_mayGive_11]
  unfold mayB
  by_cases hm : x9 < men c
  · rw [zin_nI hm (by omega), if1, decide_eq_true hm, Bool.true_and, m_of1 h hn hm, cI_some, bX9_mayGive_23, m_of3 h hn hm, cI_some, bX9_mayGive_36]
    by_cases q1 : c 4 x9 = q
    · rw [if_pos q1, decide_eq_true q1, Bool.true_and]
      have h5 := (hv.2.2.2 x9 hm).2.2.1
      cases hs : serving c x9 with
      | true =>
        rw [if_neg]
        · rfl
        · rcases serving_iff.1 hs with e | e <;> rw [e] <;> decide
      | false =>
        rw [if_pos]
        · rfl
        · rw [i32_lt, i1]
          obtain ⟨w1, w2⟩ := h5
          have n0 : ¬ c 5 x9 = 0 := fun e => by rw [serving_iff.2 (Or.inl e)] at hs; cases hs
          have n1 : ¬ c 5 x9 = 1 := fun e => by rw [serving_iff.2 (Or.inr e)] at hs; cases hs
          have m0 : (c 5 x9).toInt ≠ 0 := fun e => n0 (Int32.toInt_inj.mp e)
          have m1 : (c 5 x9).toInt ≠ 1 := fun e => n1 (Int32.toInt_inj.mp e)
          omega
    · rw [if_neg q1, decide_eq_false q1]; rfl
  · rw [zin_no hm (by omega), if0, decide_eq_false hm]; rfl
theorem m_may6 (q : Int32) : zcall X (d + 1) 213 [.inr (.inr (some (.inl 9, 283))), .inl q, .inl (nI 6)] (L, zB1, I, J) = some (some (.inl (1)), (L, zB1, I, J)) := by
  rw [eX9_mayGive, if_pos (show nI 6 = 6 from rfl)]
/-- the reference's nested turns, at the turn k -/
def LV (X : Nat → Nat → Int32) (L : List zK) (J : Nat → Nat → Int64) (D y k : Nat) (c : Cr) (a b : Int32) (T n : Nat) : Prop := ∀ (d : Nat) (I : Nat → Nat → Int32) (ch : Nat → Nat), MAt I 287 c → (∀ i, i < k → i < T → I 294 i = nI (ch i) ∧ (ch i < men c ∨ ch i = 6)) → ∃ I', zcall X (d + D) y [.inr (.inr (some (.inl 9, 283))), .inl a, .inl b, .inl (nI T), .inl (nI n)] (L, zB1, I, J) = some (some (.inl (VT a b n (T - k) k (apK c ch (min k T)))), (L, zB1, I', J)) ∧ (∀ q i, q ≠ 289 → ¬ (q = 294 ∧ k ≤ i) → I' q i = I q i)
theorem m_after (hv : Iv c) (hT : T ≤ 4) (hn31 : n < 2 ^ 31) (ha : ¬ a = -1000000) (hb : ¬ b = -1000000) : LV X L J 5 214 4 c a b T n := by
  intro d I ch h hch
  have hn := hv.1
  have h6 := hn.2.1
  obtain ⟨I0, e0, h0, f0⟩ := m_layThen (X := X) (d := d + 3) (L := L) (J := J) h hn
  obtain ⟨⟨u, I1⟩, e1, h1, f1⟩ := zloopR (fun k (s : Option zV × (Nat → Nat → Int32)) => zgo X (zcall X (d+4)) (some .int) kX9_afterTurns 7 [some (.inr (.inr (some (.inl 9, 283)))), some (.inl (a)), some (.inl (b)), some (.inl (nI T)), some (.inl (nI n)), some (.inl (nI k)), s.1] [] (L, zB1, s.2, J)) (fun k s => MAt s.2 289 (apK c ch k) ∧ FrM 289 I s.2) T (fun k s hk hp => by
    obtain ⟨u, I1⟩ := s
    obtain ⟨h1, f1⟩ := hp
    try dsimp only at h1 f1 ⊢
    obtain ⟨w1, w2⟩ := hch k (by omega) hk
    have hA := apK_n hv k (fun i hi => (hch i (by omega) (by omega)).2)
    have e294 : I1 294 k = nI (ch k) := by rw [f1 294 (by omega)]; exact w1
    rw [bX9_afterTurns_7, if_neg (by rw [nle (by omega) (by omega)]; omega), zin_nI (show k < 4 by omega) (by omega), zbt_t, zbt_t, ncl (by omega), e294, bX9_afterTurns_73, nI_1, apK_s]
    rcases w2 with w | w
    · have hm2 : ch k < men (apK c ch k) := by rw [hA.1]; exact w
      rw [if_neg (by show ¬ nI 6 ≤ nI (ch k); rw [nle (by omega) (by omega)]; omega), m_of2 h1 hA.2.2.1.1 hm2, cI_some, bX9_afterTurns_40, zin_nI (show k < 4 by omega) (by omega), zbt_t, ncl (by omega), e294]
      have hch' : chA (apK c ch k) (ch k) = cup (apK c ch k) 6 (ch k) (if apK c ch k 6 (ch k) + 5 ≤ 30 then apK c ch k 6 (ch k) + 5 else 30) := if_neg (by omega)
      rw [hch']
      by_cases w3 : apK c ch k 6 (ch k) + 5 ≤ 30
      · obtain ⟨I2, e2, h2, f2⟩ := m_be2 (X := X) (d := d + 3) (L := L) (J := J) h1 hA.2.2.1.1 hm2 (apK c ch k 6 (ch k) + 5)
        rw [if_pos w3, if_pos w3, e2, cV_some, bX9_afterTurns_73, nI_1]
        exact ⟨(_, I2), rfl, h2, f1.tr f2⟩
      · obtain ⟨I2, e2, h2, f2⟩ := m_be2 (X := X) (d := d + 3) (L := L) (J := J) h1 hA.2.2.1.1 hm2 30
        rw [if_neg w3, if_neg w3, e2, cV_some, bX9_afterTurns_73, nI_1]
        exact ⟨(_, I2), rfl, h2, f1.tr f2⟩
    · rw [w, if_pos (by decide), chA_6]
      exact ⟨(u, I1), rfl, h1, f1⟩) (a := ((none : Option zV), I0)) ⟨h0, f0⟩
  try dsimp only at h1 f1
  have hA := apK_n hv T (fun i hi => (hch i (by omega) hi).2)
  obtain ⟨I2, e2, h2, f2⟩ := m_yearsOf (X := X) (d := d) (L := L) (J := J) h1 hA.2.2.1 hn31
  have hI := Iv_pasS 0 hA.2.2.1 n
  refine ⟨I2, ?_, fun q i k1 k2 => by rw [f2 q k1, f1 q k1]⟩
  show zcall X (d + 4 + 1) 214 _ _ = _
  rw [eX9_afterTurns, e0, cV_some, bX9_afterTurns_4]
  refine (show _ = _ from e1).trans ?_
  try dsimp only
  rw [bX9_afterTurns_7, if_pos (by rw [nle (by omega) (by omega)]; omega), e2, cV_some, bX9_afterTurns_88, m_trustOf h2 hI.1 ha, cI_some, bX9_afterTurns_96, m_trustOf h2 hI.1 hb, cI_some, bX9_afterTurns_104, show T - 4 = 0 by omega, VT_0, show min 4 T = T by omega]
  rfl
theorem m_fourthL (hv : Iv c) (hT : T ≤ 4) (hkT : 3 < T) (hn : LV X L J 5 214 4 c a b T n) : ∀ (d : Nat) (I : Nat → Nat → Int32) (ch : Nat → Nat), MAt I 287 c → (∀ i, i < 3 → i < T → I 294 i = nI (ch i) ∧ (ch i < men c ∨ ch i = 6)) → ∃ I', zgo X (zcall X (d+5)) (some .int) kX9_fourth 23 [some (.inr (.inr (some (.inl 9, 283)))), some (.inl (a)), some (.inl (b)), some (.inl (nI T)), some (.inl (nI n)), some (.inl (9999)), some (.inl (0)), none] [] (L, zB1, I, J) = some (some (.inl (VT a b n (T - 3) 3 (apK c ch 3))), (L, zB1, I', J)) ∧ (∀ q i, q ≠ 289 → ¬ (q = 294 ∧ 3 ≤ i) → I' q i = I q i) := by
  intro d I ch h hch
  have hA := apK_n hv 3 (fun i hi => (hch i hi (by omega)).2)
  have step : ∀ (x9 : Nat) (v : Int32) (u : Option zV) (I1 : Nat → Nat → Int32), (x9 < men c ∨ x9 = 6) → (∀ q i, q ≠ 289 → ¬ (q = 294 ∧ 3 ≤ i) → I1 q i = I q i) → ∃ (u' : Option zV) (I2 : Nat → Nat → Int32), zgo X (zcall X (d+5)) (some .int) kX9_fourth 37 [some (.inr (.inr (some (.inl 9, 283)))), some (.inl (a)), some (.inl (b)), some (.inl (nI T)), some (.inl (nI n)), some (.inl (v)), some (.inl (nI x9)), u] [.inl 1] (L, zB1, I1, J) = zgo X (zcall X (d+5)) (some .int) kX9_fourth 23 [some (.inr (.inr (some (.inl 9, 283)))), some (.inl (a)), some (.inl (b)), some (.inl (nI T)), some (.inl (nI n)), some (.inl (mxS false v (VT a b n (T - 4) 4 (chA (apK c ch 3) x9)))), some (.inl (nI (x9 + 1))), u'] [] (L, zB1, I2, J) ∧ (∀ q i, q ≠ 289 → ¬ (q = 294 ∧ 3 ≤ i) → I2 q i = I q i) := by
      intro x9 v u I1 hx f1
      have ecmp : ∀ (v w : Int32) (A : Int32 → Option zR), (if v ≤ w then A v else A w) = A (mxS false v w) := by
        intro v w A
        unfold mxS
        rw [if_neg (show ¬ false = true by decide)]
        by_cases q : w < v
        · rw [if_pos q, if_neg (by rw [i32_le]; rw [i32_lt] at q; omega)]
        · rw [if_neg q, if_pos (by rw [i32_le]; rw [i32_lt] at q; omega)]
      have hM1 : MAt (zup I1 294 3 (nI x9)) 287 c := fun f i hv' => by
        rw [zup_ne (by omega), f1 287 _ (by omega) (by omega)]
        exact h f i hv'
      obtain ⟨I2, e2, f2⟩ := hn d (zup I1 294 3 (nI x9)) (fun i => if i = 3 then x9 else ch i) hM1 (fun i h1 h2 => by
        by_cases e : i = 3
        · rw [e, zup_at, if_pos ⟨rfl, rfl⟩]
          exact ⟨by rw [if_pos rfl], by rw [if_pos rfl]; exact hx⟩
        · rw [zup_at, if_neg (by omega), f1 294 i (by omega) (by omega), if_neg e]
          exact hch i (by omega) h2)
      rw [show min 4 T = 3 + 1 by omega, apK_s, if_pos rfl, apK_cg (ch' := ch) 3 (fun i hi => if_neg (by omega))] at e2
      refine ⟨some (.inl (VT a b n (T - 4) 4 (chA (apK c ch 3) x9))), I2, ?_, fun q i k1 k2 => ?_⟩
      · rw [bX9_fourth_37, if_neg (by decide), show zin 3 4 = true from by decide, zbt_t, show (3 : Int32).toNatClampNeg = 3 from rfl, e2, cI_some, bX9_fourth_57, nI_1]
        exact ecmp v _ (fun z => zgo X (zcall X (d+5)) (some .int) kX9_fourth 23 [some (.inr (.inr (some (.inl 9, 283)))), some (.inl (a)), some (.inl (b)), some (.inl (nI T)), some (.inl (nI n)), some (.inl (z)), some (.inl (nI (x9 + 1))), some (.inl (VT a b n (T - 4) 4 (chA (apK c ch 3) x9)))] [] (L, zB1, I2, J))
      · rw [f2 q i k1 (by omega), zup_at, if_neg (by omega), f1 q i k1 k2]
  obtain ⟨⟨v, u, I1⟩, e1, ev, f1⟩ := zloopR (fun j (s : Int32 × Option zV × (Nat → Nat → Int32)) => zgo X (zcall X (d+5)) (some .int) kX9_fourth 23 [some (.inr (.inr (some (.inl 9, 283)))), some (.inl (a)), some (.inl (b)), some (.inl (nI T)), some (.inl (nI n)), some (.inl (s.1)), some (.inl (nI j)), s.2.1] [] (L, zB1, s.2.2, J)) (fun j s => s.1 = zfold j (iniT false) (fun m best => if mayB (apK c ch 3) b m = true then mxS false best (VT a b n (T - 4) 4 (chA (apK c ch 3) m)) else best) ∧ (∀ q i, q ≠ 289 → ¬ (q = 294 ∧ 3 ≤ i) → s.2.2 q i = I q i)) 6 (fun j s hj hp => by
    obtain ⟨v, u, I1⟩ := s
    obtain ⟨ev, f1⟩ := hp
    try dsimp only at ev f1 ⊢
    have es : zfold (j + 1) (iniT false) (fun m best => if mayB (apK c ch 3) b m = true then mxS false best (VT a b n (T - 4) 4 (chA (apK c ch 3) m)) else best) = if mayB (apK c ch 3) b j = true then mxS false v (VT a b n (T - 4) 4 (chA (apK c ch 3) j)) else v := by rw [ev]; rfl
    have hM1 : MAt I1 287 c := fun f i hv' => by rw [f1 287 _ (by omega) (by omega)]; exact h f i hv'
    rw [es, bX9_fourth_23, if_neg (by show ¬ nI 7 ≤ nI j; rw [nle (by omega) (by omega)]; omega), show zcall X (d + 5) 213 [.inr (.inr (some (.inl 9, 283))), .inl b, .inl (nI j)] (L, zB1, I1, J) = some (some (.inl (b2i (mayB c b j))), (L, zB1, I1, J)) from m_mayGive (d := d + 2) hM1 hv b hj, cI_some, mayB_cg hA.1 hA.2.2.2]
    cases hb : mayB c b j with
    | false =>
      rw [bX9_fourth_37, if_pos (show b2i false = 0 from rfl), nI_1, if_neg (show ¬ false = true by decide)]
      exact ⟨(v, u, I1), rfl, rfl, f1⟩
    | true =>
      have hm : j < men c := by
        unfold mayB at hb
        rw [Bool.and_eq_true] at hb
        exact of_decide_eq_true hb.1
      obtain ⟨u', I2, e2, f2⟩ := step j v u I1 (Or.inl hm) f1
      rw [if_pos rfl]
      exact ⟨(_, u', I2), e2, rfl, f2⟩) (a := (9999, none, I)) ⟨rfl, fun _ _ _ _ => rfl⟩
  try dsimp only at ev f1
  obtain ⟨u', I2, e2, f2⟩ := step 6 v u I1 (Or.inr rfl) f1
  refine ⟨I2, (show _ = _ from e1).trans ?_, f2⟩
  try dsimp only
  rw [bX9_fourth_23, if_neg (by decide), m_may6 (d := d + 4), cI_some, e2, bX9_fourth_23, if_pos (by decide), ev, chA_6, show T - 3 = (T - 4) + 1 by omega, VT_m a b n (T - 4) 3 hA.2.2.1]
  rfl
theorem m_fourth (hv : Iv c) (hT : T ≤ 4) (hn : LV X L J 5 214 4 c a b T n) : LV X L J 6 215 3 c a b T n := by
  intro d I ch h hch
  show ∃ I', zcall X (d + 5 + 1) 215 _ _ = _ ∧ _
  rw [eX9_fourth]
  by_cases hkT : 3 < T
  · obtain ⟨I1, e1, f1⟩ := m_fourthL hv hT hkT hn d I ch h hch
    refine ⟨I1, ?_, f1⟩
    rw [if_pos (by show nI 4 ≤ nI T; rw [nle (by omega) (by omega)]; omega), e1, show min 3 T = 3 by omega]
  · obtain ⟨I1, e1, f1⟩ := hn d I ch h (fun i h1 h2 => hch i (by omega) h2)
    refine ⟨I1, ?_, fun q i k1 k2 => f1 q i k1 (by omega)⟩
    rw [if_neg (by show ¬ nI 4 ≤ nI T; rw [nle (by omega) (by omega)]; omega), e1, cI_some, bX9_fourth_14, show min 3 T = T by omega, show min 4 T = T by omega, show T - 3 = 0 by omega, show T - 4 = 0 by omega, VT_0, VT_0]
theorem m_thirdL (hv : Iv c) (hT : T ≤ 4) (hkT : 2 < T) (hn : LV X L J 6 215 3 c a b T n) : ∀ (d : Nat) (I : Nat → Nat → Int32) (ch : Nat → Nat), MAt I 287 c → (∀ i, i < 2 → i < T → I 294 i = nI (ch i) ∧ (ch i < men c ∨ ch i = 6)) → ∃ I', zgo X (zcall X (d+6)) (some .int) kX9_third 23 [some (.inr (.inr (some (.inl 9, 283)))), some (.inl (a)), some (.inl (b)), some (.inl (nI T)), some (.inl (nI n)), some (.inl ((-9999))), some (.inl (0)), none] [] (L, zB1, I, J) = some (some (.inl (VT a b n (T - 2) 2 (apK c ch 2))), (L, zB1, I', J)) ∧ (∀ q i, q ≠ 289 → ¬ (q = 294 ∧ 2 ≤ i) → I' q i = I q i) := by
  intro d I ch h hch
  have hA := apK_n hv 2 (fun i hi => (hch i hi (by omega)).2)
  have step : ∀ (x9 : Nat) (v : Int32) (u : Option zV) (I1 : Nat → Nat → Int32), (x9 < men c ∨ x9 = 6) → (∀ q i, q ≠ 289 → ¬ (q = 294 ∧ 2 ≤ i) → I1 q i = I q i) → ∃ (u' : Option zV) (I2 : Nat → Nat → Int32), zgo X (zcall X (d+6)) (some .int) kX9_third 37 [some (.inr (.inr (some (.inl 9, 283)))), some (.inl (a)), some (.inl (b)), some (.inl (nI T)), some (.inl (nI n)), some (.inl (v)), some (.inl (nI x9)), u] [.inl 1] (L, zB1, I1, J) = zgo X (zcall X (d+6)) (some .int) kX9_third 23 [some (.inr (.inr (some (.inl 9, 283)))), some (.inl (a)), some (.inl (b)), some (.inl (nI T)), some (.inl (nI n)), some (.inl (mxS true v (VT a b n (T - 3) 3 (chA (apK c ch 2) x9)))), some (.inl (nI (x9 + 1))), u'] [] (L, zB1, I2, J) ∧ (∀ q i, q ≠ 289 → ¬ (q = 294 ∧ 2 ≤ i) → I2 q i = I q i) := by
      intro x9 v u I1 hx f1
      have ecmp : ∀ (v w : Int32) (A : Int32 → Option zR), (if w ≤ v then A v else A w) = A (mxS true v w) := by
        intro v w A
        unfold mxS
        rw [if_pos rfl]
        by_cases q : v < w
        · rw [if_pos q, if_neg (by rw [i32_le]; rw [i32_lt] at q; omega)]
        · rw [if_neg q, if_pos (by rw [i32_le]; rw [i32_lt] at q; omega)]
      have hM1 : MAt (zup I1 294 2 (nI x9)) 287 c := fun f i hv' => by
        rw [zup_ne (by omega), f1 287 _ (by omega) (by omega)]
        exact h f i hv'
      obtain ⟨I2, e2, f2⟩ := hn d (zup I1 294 2 (nI x9)) (fun i => if i = 2 then x9 else ch i) hM1 (fun i h1 h2 => by
        by_cases e : i = 2
        · rw [e, zup_at, if_pos ⟨rfl, rfl⟩]
          exact ⟨by rw [if_pos rfl], by rw [if_pos rfl]; exact hx⟩
        · rw [zup_at, if_neg (by omega), f1 294 i (by omega) (by omega), if_neg e]
          exact hch i (by omega) h2)
      rw [show min 3 T = 2 + 1 by omega, apK_s, if_pos rfl, apK_cg (ch' := ch) 2 (fun i hi => if_neg (by omega))] at e2
      refine ⟨some (.inl (VT a b n (T - 3) 3 (chA (apK c ch 2) x9))), I2, ?_, fun q i k1 k2 => ?_⟩
      · rw [bX9_third_37, if_neg (by decide), show zin 2 4 = true from by decide, zbt_t, show (2 : Int32).toNatClampNeg = 2 from rfl, e2, cI_some, bX9_third_57, nI_1]
        exact ecmp v _ (fun z => zgo X (zcall X (d+6)) (some .int) kX9_third 23 [some (.inr (.inr (some (.inl 9, 283)))), some (.inl (a)), some (.inl (b)), some (.inl (nI T)), some (.inl (nI n)), some (.inl (z)), some (.inl (nI (x9 + 1))), some (.inl (VT a b n (T - 3) 3 (chA (apK c ch 2) x9)))] [] (L, zB1, I2, J))
      · rw [f2 q i k1 (by omega), zup_at, if_neg (by omega), f1 q i k1 k2]
  obtain ⟨⟨v, u, I1⟩, e1, ev, f1⟩ := zloopR (fun j (s : Int32 × Option zV × (Nat → Nat → Int32)) => zgo X (zcall X (d+6)) (some .int) kX9_third 23 [some (.inr (.inr (some (.inl 9, 283)))), some (.inl (a)), some (.inl (b)), some (.inl (nI T)), some (.inl (nI n)), some (.inl (s.1)), some (.inl (nI j)), s.2.1] [] (L, zB1, s.2.2, J)) (fun j s => s.1 = zfold j (iniT true) (fun m best => if mayB (apK c ch 2) a m = true then mxS true best (VT a b n (T - 3) 3 (chA (apK c ch 2) m)) else best) ∧ (∀ q i, q ≠ 289 → ¬ (q = 294 ∧ 2 ≤ i) → s.2.2 q i = I q i)) 6 (fun j s hj hp => by
    obtain ⟨v, u, I1⟩ := s
    obtain ⟨ev, f1⟩ := hp
    try dsimp only at ev f1 ⊢
    have es : zfold (j + 1) (iniT true) (fun m best => if mayB (apK c ch 2) a m = true then mxS true best (VT a b n (T - 3) 3 (chA (apK c ch 2) m)) else best) = if mayB (apK c ch 2) a j = true then mxS true v (VT a b n (T - 3) 3 (chA (apK c ch 2) j)) else v := by rw [ev]; rfl
    have hM1 : MAt I1 287 c := fun f i hv' => by rw [f1 287 _ (by omega) (by omega)]; exact h f i hv'
    rw [es, bX9_third_23, if_neg (by show ¬ nI 7 ≤ nI j; rw [nle (by omega) (by omega)]; omega), show zcall X (d + 6) 213 [.inr (.inr (some (.inl 9, 283))), .inl a, .inl (nI j)] (L, zB1, I1, J) = some (some (.inl (b2i (mayB c a j))), (L, zB1, I1, J)) from m_mayGive (d := d + 3) hM1 hv a hj, cI_some, mayB_cg hA.1 hA.2.2.2]
    cases hb : mayB c a j with
    | false =>
      rw [bX9_third_37, if_pos (show b2i false = 0 from rfl), nI_1, if_neg (show ¬ false = true by decide)]
      exact ⟨(v, u, I1), rfl, rfl, f1⟩
    | true =>
      have hm : j < men c := by
        unfold mayB at hb
        rw [Bool.and_eq_true] at hb
        exact of_decide_eq_true hb.1
      obtain ⟨u', I2, e2, f2⟩ := step j v u I1 (Or.inl hm) f1
      rw [if_pos rfl]
      exact ⟨(_, u', I2), e2, rfl, f2⟩) (a := ((-9999), none, I)) ⟨rfl, fun _ _ _ _ => rfl⟩
  try dsimp only at ev f1
  obtain ⟨u', I2, e2, f2⟩ := step 6 v u I1 (Or.inr rfl) f1
  refine ⟨I2, (show _ = _ from e1).trans ?_, f2⟩
  try dsimp only
  rw [bX9_third_23, if_neg (by decide), m_may6 (d := d + 5), cI_some, e2, bX9_third_23, if_pos (by decide), ev, chA_6, show T - 2 = (T - 3) + 1 by omega, VT_m a b n (T - 3) 2 hA.2.2.1]
  rfl
theorem m_third (hv : Iv c) (hT : T ≤ 4) (hn : LV X L J 6 215 3 c a b T n) : LV X L J 7 216 2 c a b T n := by
  intro d I ch h hch
  show ∃ I', zcall X (d + 6 + 1) 216 _ _ = _ ∧ _
  rw [eX9_third]
  by_cases hkT : 2 < T
  · obtain ⟨I1, e1, f1⟩ := m_thirdL hv hT hkT hn d I ch h hch
    refine ⟨I1, ?_, f1⟩
    rw [if_pos (by show nI 3 ≤ nI T; rw [nle (by omega) (by omega)]; omega), e1, show min 2 T = 2 by omega]
  · obtain ⟨I1, e1, f1⟩ := hn d I ch h (fun i h1 h2 => hch i (by omega) h2)
    refine ⟨I1, ?_, fun q i k1 k2 => f1 q i k1 (by omega)⟩
    rw [if_neg (by show ¬ nI 3 ≤ nI T; rw [nle (by omega) (by omega)]; omega), e1, cI_some, bX9_third_14, show min 2 T = T by omega, show min 3 T = T by omega, show T - 2 = 0 by omega, show T - 3 = 0 by omega, VT_0, VT_0]
theorem m_secondL (hv : Iv c) (hT : T ≤ 4) (hkT : 1 < T) (hn : LV X L J 7 216 2 c a b T n) : ∀ (d : Nat) (I : Nat → Nat → Int32) (ch : Nat → Nat), MAt I 287 c → (∀ i, i < 1 → i < T → I 294 i = nI (ch i) ∧ (ch i < men c ∨ ch i = 6)) → ∃ I', zgo X (zcall X (d+7)) (some .int) kX9_second 23 [some (.inr (.inr (some (.inl 9, 283)))), some (.inl (a)), some (.inl (b)), some (.inl (nI T)), some (.inl (nI n)), some (.inl (9999)), some (.inl (0)), none] [] (L, zB1, I, J) = some (some (.inl (VT a b n (T - 1) 1 (apK c ch 1))), (L, zB1, I', J)) ∧ (∀ q i, q ≠ 289 → ¬ (q = 294 ∧ 1 ≤ i) → I' q i = I q i) := by
  intro d I ch h hch
  have hA := apK_n hv 1 (fun i hi => (hch i hi (by omega)).2)
  have step : ∀ (x9 : Nat) (v : Int32) (u : Option zV) (I1 : Nat → Nat → Int32), (x9 < men c ∨ x9 = 6) → (∀ q i, q ≠ 289 → ¬ (q = 294 ∧ 1 ≤ i) → I1 q i = I q i) → ∃ (u' : Option zV) (I2 : Nat → Nat → Int32), zgo X (zcall X (d+7)) (some .int) kX9_second 37 [some (.inr (.inr (some (.inl 9, 283)))), some (.inl (a)), some (.inl (b)), some (.inl (nI T)), some (.inl (nI n)), some (.inl (v)), some (.inl (nI x9)), u] [.inl 1] (L, zB1, I1, J) = zgo X (zcall X (d+7)) (some .int) kX9_second 23 [some (.inr (.inr (some (.inl 9, 283)))), some (.inl (a)), some (.inl (b)), some (.inl (nI T)), some (.inl (nI n)), some (.inl (mxS false v (VT a b n (T - 2) 2 (chA (apK c ch 1) x9)))), some (.inl (nI (x9 + 1))), u'] [] (L, zB1, I2, J) ∧ (∀ q i, q ≠ 289 → ¬ (q = 294 ∧ 1 ≤ i) → I2 q i = I q i) := by
      intro x9 v u I1 hx f1
      have ecmp : ∀ (v w : Int32) (A : Int32 → Option zR), (if v ≤ w then A v else A w) = A (mxS false v w) := by
        intro v w A
        unfold mxS
        rw [if_neg (show ¬ false = true by decide)]
        by_cases q : w < v
        · rw [if_pos q, if_neg (by rw [i32_le]; rw [i32_lt] at q; omega)]
        · rw [if_neg q, if_pos (by rw [i32_le]; rw [i32_lt] at q; omega)]
      have hM1 : MAt (zup I1 294 1 (nI x9)) 287 c := fun f i hv' => by
        rw [zup_ne (by omega), f1 287 _ (by omega) (by omega)]
        exact h f i hv'
      obtain ⟨I2, e2, f2⟩ := hn d (zup I1 294 1 (nI x9)) (fun i => if i = 1 then x9 else ch i) hM1 (fun i h1 h2 => by
        by_cases e : i = 1
        · rw [e, zup_at, if_pos ⟨rfl, rfl⟩]
          exact ⟨by rw [if_pos rfl], by rw [if_pos rfl]; exact hx⟩
        · rw [zup_at, if_neg (by omega), f1 294 i (by omega) (by omega), if_neg e]
          exact hch i (by omega) h2)
      rw [show min 2 T = 1 + 1 by omega, apK_s, if_pos rfl, apK_cg (ch' := ch) 1 (fun i hi => if_neg (by omega))] at e2
      refine ⟨some (.inl (VT a b n (T - 2) 2 (chA (apK c ch 1) x9))), I2, ?_, fun q i k1 k2 => ?_⟩
      · rw [bX9_second_37, if_neg (by decide), show zin 1 4 = true from by decide, zbt_t, show (1 : Int32).toNatClampNeg = 1 from rfl, e2, cI_some, bX9_second_57, nI_1]
        exact ecmp v _ (fun z => zgo X (zcall X (d+7)) (some .int) kX9_second 23 [some (.inr (.inr (some (.inl 9, 283)))), some (.inl (a)), some (.inl (b)), some (.inl (nI T)), some (.inl (nI n)), some (.inl (z)), some (.inl (nI (x9 + 1))), some (.inl (VT a b n (T - 2) 2 (chA (apK c ch 1) x9)))] [] (L, zB1, I2, J))
      · rw [f2 q i k1 (by omega), zup_at, if_neg (by omega), f1 q i k1 k2]
  obtain ⟨⟨v, u, I1⟩, e1, ev, f1⟩ := zloopR (fun j (s : Int32 × Option zV × (Nat → Nat → Int32)) => zgo X (zcall X (d+7)) (some .int) kX9_second 23 [some (.inr (.inr (some (.inl 9, 283)))), some (.inl (a)), some (.inl (b)), some (.inl (nI T)), some (.inl (nI n)), some (.inl (s.1)), some (.inl (nI j)), s.2.1] [] (L, zB1, s.2.2, J)) (fun j s => s.1 = zfold j (iniT false) (fun m best => if mayB (apK c ch 1) b m = true then mxS false best (VT a b n (T - 2) 2 (chA (apK c ch 1) m)) else best) ∧ (∀ q i, q ≠ 289 → ¬ (q = 294 ∧ 1 ≤ i) → s.2.2 q i = I q i)) 6 (fun j s hj hp => by
    obtain ⟨v, u, I1⟩ := s
    obtain ⟨ev, f1⟩ := hp
    try dsimp only at ev f1 ⊢
    have es : zfold (j + 1) (iniT false) (fun m best => if mayB (apK c ch 1) b m = true then mxS false best (VT a b n (T - 2) 2 (chA (apK c ch 1) m)) else best) = if mayB (apK c ch 1) b j = true then mxS false v (VT a b n (T - 2) 2 (chA (apK c ch 1) j)) else v := by rw [ev]; rfl
    have hM1 : MAt I1 287 c := fun f i hv' => by rw [f1 287 _ (by omega) (by omega)]; exact h f i hv'
    rw [es, bX9_second_23, if_neg (by show ¬ nI 7 ≤ nI j; rw [nle (by omega) (by omega)]; omega), show zcall X (d + 7) 213 [.inr (.inr (some (.inl 9, 283))), .inl b, .inl (nI j)] (L, zB1, I1, J) = some (some (.inl (b2i (mayB c b j))), (L, zB1, I1, J)) from m_mayGive (d := d + 4) hM1 hv b hj, cI_some, mayB_cg hA.1 hA.2.2.2]
    cases hb : mayB c b j with
    | false =>
      rw [bX9_second_37, if_pos (show b2i false = 0 from rfl), nI_1, if_neg (show ¬ false = true by decide)]
      exact ⟨(v, u, I1), rfl, rfl, f1⟩
    | true =>
      have hm : j < men c := by
        unfold mayB at hb
        rw [Bool.and_eq_true] at hb
        exact of_decide_eq_true hb.1
      obtain ⟨u', I2, e2, f2⟩ := step j v u I1 (Or.inl hm) f1
      rw [if_pos rfl]
      exact ⟨(_, u', I2), e2, rfl, f2⟩) (a := (9999, none, I)) ⟨rfl, fun _ _ _ _ => rfl⟩
  try dsimp only at ev f1
  obtain ⟨u', I2, e2, f2⟩ := step 6 v u I1 (Or.inr rfl) f1
  refine ⟨I2, (show _ = _ from e1).trans ?_, f2⟩
  try dsimp only
  rw [bX9_second_23, if_neg (by decide), m_may6 (d := d + 6), cI_some, e2, bX9_second_23, if_pos (by decide), ev, chA_6, show T - 1 = (T - 2) + 1 by omega, VT_m a b n (T - 2) 1 hA.2.2.1]
  rfl
theorem m_second (hv : Iv c) (hT : T ≤ 4) (hn : LV X L J 7 216 2 c a b T n) : LV X L J 8 217 1 c a b T n := by
  intro d I ch h hch
  show ∃ I', zcall X (d + 7 + 1) 217 _ _ = _ ∧ _
  rw [eX9_second]
  by_cases hkT : 1 < T
  · obtain ⟨I1, e1, f1⟩ := m_secondL hv hT hkT hn d I ch h hch
    refine ⟨I1, ?_, f1⟩
    rw [if_pos (by show nI 2 ≤ nI T; rw [nle (by omega) (by omega)]; omega), e1, show min 1 T = 1 by omega]
  · obtain ⟨I1, e1, f1⟩ := hn d I ch h (fun i h1 h2 => hch i (by omega) h2)
    refine ⟨I1, ?_, fun q i k1 k2 => f1 q i k1 (by omega)⟩
    rw [if_neg (by show ¬ nI 2 ≤ nI T; rw [nle (by omega) (by omega)]; omega), e1, cI_some, bX9_second_14, show min 1 T = T by omega, show min 2 T = T by omega, show T - 1 = 0 by omega, show T - 2 = 0 by omega, VT_0, VT_0]
theorem m_byTurnsL (hv : Iv c) (hT : T ≤ 4) (hkT : 0 < T) (hn : LV X L J 8 217 1 c a b T n) : ∀ (d : Nat) (I : Nat → Nat → Int32) (ch : Nat → Nat), MAt I 287 c → (∀ i, i < 0 → i < T → I 294 i = nI (ch i) ∧ (ch i < men c ∨ ch i = 6)) → ∃ I', zgo X (zcall X (d+8)) (some .int) kX9_byTurns 76 [some (.inr (.inr (some (.inl 9, 283)))), some (.inl (a)), some (.inl (b)), some (.inl (nI T)), some (.inl (nI n)), some (.inl ((-9999))), some (.inl (0)), none] [] (L, zB1, I, J) = some (some (.inl (VT a b n (T - 0) 0 (apK c ch 0))), (L, zB1, I', J)) ∧ (∀ q i, q ≠ 289 → ¬ (q = 294 ∧ 0 ≤ i) → I' q i = I q i) := by
  intro d I ch h hch
  have hA := apK_n hv 0 (fun i hi => (hch i hi (by omega)).2)
  have step : ∀ (x9 : Nat) (v : Int32) (u : Option zV) (I1 : Nat → Nat → Int32), (x9 < men c ∨ x9 = 6) → (∀ q i, q ≠ 289 → ¬ (q = 294 ∧ 0 ≤ i) → I1 q i = I q i) → ∃ (u' : Option zV) (I2 : Nat → Nat → Int32), zgo X (zcall X (d+8)) (some .int) kX9_byTurns 90 [some (.inr (.inr (some (.inl 9, 283)))), some (.inl (a)), some (.inl (b)), some (.inl (nI T)), some (.inl (nI n)), some (.inl (v)), some (.inl (nI x9)), u] [.inl 1] (L, zB1, I1, J) = zgo X (zcall X (d+8)) (some .int) kX9_byTurns 76 [some (.inr (.inr (some (.inl 9, 283)))), some (.inl (a)), some (.inl (b)), some (.inl (nI T)), some (.inl (nI n)), some (.inl (mxS true v (VT a b n (T - 1) 1 (chA (apK c ch 0) x9)))), some (.inl (nI (x9 + 1))), u'] [] (L, zB1, I2, J) ∧ (∀ q i, q ≠ 289 → ¬ (q = 294 ∧ 0 ≤ i) → I2 q i = I q i) := by
      intro x9 v u I1 hx f1
      have ecmp : ∀ (v w : Int32) (A : Int32 → Option zR), (if w ≤ v then A v else A w) = A (mxS true v w) := by
        intro v w A
        unfold mxS
        rw [if_pos rfl]
        by_cases q : v < w
        · rw [if_pos q, if_neg (by rw [i32_le]; rw [i32_lt] at q; omega)]
        · rw [if_neg q, if_pos (by rw [i32_le]; rw [i32_lt] at q; omega)]
      have hM1 : MAt (zup I1 294 0 (nI x9)) 287 c := fun f i hv' => by
        rw [zup_ne (by omega), f1 287 _ (by omega) (by omega)]
        exact h f i hv'
      obtain ⟨I2, e2, f2⟩ := hn d (zup I1 294 0 (nI x9)) (fun i => if i = 0 then x9 else ch i) hM1 (fun i h1 h2 => by
        by_cases e : i = 0
        · rw [e, zup_at, if_pos ⟨rfl, rfl⟩]
          exact ⟨by rw [if_pos rfl], by rw [if_pos rfl]; exact hx⟩
        · rw [zup_at, if_neg (by omega), f1 294 i (by omega) (by omega), if_neg e]
          exact hch i (by omega) h2)
      rw [show min 1 T = 0 + 1 by omega, apK_s, if_pos rfl, apK_cg (ch' := ch) 0 (fun i hi => if_neg (by omega))] at e2
      refine ⟨some (.inl (VT a b n (T - 1) 1 (chA (apK c ch 0) x9))), I2, ?_, fun q i k1 k2 => ?_⟩
      · rw [bX9_byTurns_90, if_neg (by decide), show zin 0 4 = true from by decide, zbt_t, show (0 : Int32).toNatClampNeg = 0 from rfl, e2, cI_some, bX9_byTurns_110, nI_1]
        exact ecmp v _ (fun z => zgo X (zcall X (d+8)) (some .int) kX9_byTurns 76 [some (.inr (.inr (some (.inl 9, 283)))), some (.inl (a)), some (.inl (b)), some (.inl (nI T)), some (.inl (nI n)), some (.inl (z)), some (.inl (nI (x9 + 1))), some (.inl (VT a b n (T - 1) 1 (chA (apK c ch 0) x9)))] [] (L, zB1, I2, J))
      · rw [f2 q i k1 (by omega), zup_at, if_neg (by omega), f1 q i k1 k2]
  obtain ⟨⟨v, u, I1⟩, e1, ev, f1⟩ := zloopR (fun j (s : Int32 × Option zV × (Nat → Nat → Int32)) => zgo X (zcall X (d+8)) (some .int) kX9_byTurns 76 [some (.inr (.inr (some (.inl 9, 283)))), some (.inl (a)), some (.inl (b)), some (.inl (nI T)), some (.inl (nI n)), some (.inl (s.1)), some (.inl (nI j)), s.2.1] [] (L, zB1, s.2.2, J)) (fun j s => s.1 = zfold j (iniT true) (fun m best => if mayB (apK c ch 0) a m = true then mxS true best (VT a b n (T - 1) 1 (chA (apK c ch 0) m)) else best) ∧ (∀ q i, q ≠ 289 → ¬ (q = 294 ∧ 0 ≤ i) → s.2.2 q i = I q i)) 6 (fun j s hj hp => by
    obtain ⟨v, u, I1⟩ := s
    obtain ⟨ev, f1⟩ := hp
    try dsimp only at ev f1 ⊢
    have es : zfold (j + 1) (iniT true) (fun m best => if mayB (apK c ch 0) a m = true then mxS true best (VT a b n (T - 1) 1 (chA (apK c ch 0) m)) else best) = if mayB (apK c ch 0) a j = true then mxS true v (VT a b n (T - 1) 1 (chA (apK c ch 0) j)) else v := by rw [ev]; rfl
    have hM1 : MAt I1 287 c := fun f i hv' => by rw [f1 287 _ (by omega) (by omega)]; exact h f i hv'
    rw [es, bX9_byTurns_76, if_neg (by show ¬ nI 7 ≤ nI j; rw [nle (by omega) (by omega)]; omega), show zcall X (d + 8) 213 [.inr (.inr (some (.inl 9, 283))), .inl a, .inl (nI j)] (L, zB1, I1, J) = some (some (.inl (b2i (mayB c a j))), (L, zB1, I1, J)) from m_mayGive (d := d + 5) hM1 hv a hj, cI_some, mayB_cg hA.1 hA.2.2.2]
    cases hb : mayB c a j with
    | false =>
      rw [bX9_byTurns_90, if_pos (show b2i false = 0 from rfl), nI_1, if_neg (show ¬ false = true by decide)]
      exact ⟨(v, u, I1), rfl, rfl, f1⟩
    | true =>
      have hm : j < men c := by
        unfold mayB at hb
        rw [Bool.and_eq_true] at hb
        exact of_decide_eq_true hb.1
      obtain ⟨u', I2, e2, f2⟩ := step j v u I1 (Or.inl hm) f1
      rw [if_pos rfl]
      exact ⟨(_, u', I2), e2, rfl, f2⟩) (a := ((-9999), none, I)) ⟨rfl, fun _ _ _ _ => rfl⟩
  try dsimp only at ev f1
  obtain ⟨u', I2, e2, f2⟩ := step 6 v u I1 (Or.inr rfl) f1
  refine ⟨I2, (show _ = _ from e1).trans ?_, f2⟩
  try dsimp only
  rw [bX9_byTurns_76, if_neg (by decide), m_may6 (d := d + 7), cI_some, e2, bX9_byTurns_76, if_pos (by decide), ev, chA_6, show T - 0 = (T - 1) + 1 by omega, VT_m a b n (T - 1) 0 hA.2.2.1]
  rfl
end TURNSM
