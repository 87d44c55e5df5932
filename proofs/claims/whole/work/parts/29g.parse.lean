/-! reading a circuit: the reference, judges and men -/
def FQ (I I' : Nat → Nat → Int32) : Prop := ∀ a i, ¬ (a = 283 ∧ 12 ≤ i ∧ i ≤ 17) → a ≠ 288 → I' a i = I a i
theorem FQ.rf (I : Nat → Nat → Int32) : FQ I I := fun _ _ _ _ => rfl
theorem FQ.tr {I I1 I2 : Nat → Nat → Int32} (h : FQ I I1) (h2 : FQ I1 I2) : FQ I I2 := fun a i k1 k2 => (h2 a i k1 k2).trans (h a i k1 k2)
theorem FX.Q {I I' : Nat → Nat → Int32} (h : FX I I') : FQ I I' := fun a i k1 _ => h a i k1
theorem FQ.MB {I I' : Nat → Nat → Int32} (h : FQ I I') {n : Nat} {A : Nat → Int32} (hb : MB n A I) : MB n A I' := by
  refine ⟨?_, fun k hk => ?_⟩
  · rw [h 283 11 (by omega) (by omega)]; exact hb.1
  · rw [h 291 k (by omega) (by omega)]; exact hb.2 k hk
theorem MAt_adJ {I : Nat → Nat → Int32} {c : Cr} (h : MAt I 288 c) (hk : jud c < 4) (a b : Int32) (hn : Cn (adJ c a b)) : MAt (zup (zup (zup I 288 (5 + 2 * jud c) a) 288 (6 + 2 * jud c) b) 288 1 (nI (jud c + 1))) 288 (adJ c a b) := by
  obtain ⟨n1, n2⟩ := adJ_n hk a b
  intro f i hv
  have v0' : vld (adJ c a b) 0 0 := v0 (by omega)
  have v1' : vld (adJ c a b) 1 (jud c) := vj (by show jud c < jud (adJ c a b); omega) (by omega) (by omega)
  have v2' : vld (adJ c a b) 2 (jud c) := vj (by show jud c < jud (adJ c a b); omega) (by omega) (by omega)
  rw [zup_at, zup_at, zup_at]
  show _ = cup (cup (cup c 1 (jud c) a) 2 (jud c) b) 0 0 (nI (jud c + 1)) f i
  rw [cup_at, cup_at, cup_at]
  by_cases q0 : f = 0 ∧ i = 0
  · rw [if_pos q0, if_pos ⟨rfl, by rw [q0.1, q0.2]; rfl⟩]
  · rw [if_neg q0, if_neg (fun q => q0 (mix_inj hn hv v0' q.2))]
    by_cases q2 : f = 2 ∧ i = jud c
    · rw [if_pos q2, if_pos ⟨rfl, by rw [q2.1, q2.2]; rfl⟩]
    · rw [if_neg q2, if_neg (fun q => q2 (mix_inj hn hv v2' q.2))]
      by_cases q1 : f = 1 ∧ i = jud c
      · rw [if_pos q1, if_pos ⟨rfl, by rw [q1.1, q1.2]; rfl⟩]
      · rw [if_neg q1, if_neg (fun q => q1 (mix_inj hn hv v1' q.2))]
        apply h f i
        unfold vld at hv ⊢
        rw [n1, n2] at hv
        omega
theorem MAt_adM {I : Nat → Nat → Int32} {c : Cr} (h : MAt I 288 c) (hk : men c < 6) (k a b : Int32) (hn : Cn (adM c k a b)) : MAt (zup (zup (zup (zup (zup (zup I 288 (13 + 5 * men c) k) 288 (13 + 5 * men c + 1) a) 288 (13 + 5 * men c + 2) b) 288 (13 + 5 * men c + 3) 0) 288 (13 + 5 * men c + 4) 0) 288 0 (nI (men c + 1))) 288 (adM c k a b) := by
  obtain ⟨n1, n2⟩ := adM_n hk k a b
  intro f i hv
  have v0' : vld (adM c k a b) 0 1 := v0 (by omega)
  have vm' : ∀ g, 3 ≤ g → g ≤ 7 → vld (adM c k a b) g (men c) := fun g h1 h2 => vm (by show men c < men (adM c k a b); omega) h1 h2
  rw [zup_at, zup_at, zup_at, zup_at, zup_at, zup_at]
  show _ = cup (cup (cup (cup (cup (cup c 3 (men c) k) 4 (men c) a) 5 (men c) 0) 6 (men c) b) 7 (men c) 0) 0 1 (nI (men c + 1)) f i
  rw [cup_at, cup_at, cup_at, cup_at, cup_at, cup_at]
  have m3 : mix 3 (men c) = 13 + 5 * men c := rfl
  have m4 : mix 4 (men c) = 13 + 5 * men c + 1 := by show 14 + 5 * men c = _; omega
  have m5 : mix 5 (men c) = 13 + 5 * men c + 3 := by show 16 + 5 * men c = _; omega
  have m6 : mix 6 (men c) = 13 + 5 * men c + 2 := by show 15 + 5 * men c = _; omega
  have m7 : mix 7 (men c) = 13 + 5 * men c + 4 := by show 17 + 5 * men c = _; omega
  rw [← m3]
  rw [show mix 3 (men c) + 1 = mix 4 (men c) by omega, show mix 3 (men c) + 2 = mix 6 (men c) by omega, show mix 3 (men c) + 3 = mix 5 (men c) by omega, show mix 3 (men c) + 4 = mix 7 (men c) by omega]
  by_cases q0 : f = 0 ∧ i = 1
  · rw [if_pos q0, if_pos ⟨rfl, by rw [q0.1, q0.2]; rfl⟩]
  · rw [if_neg q0, if_neg (fun q => q0 (mix_inj hn hv v0' q.2))]
    have key : ∀ g, 3 ≤ g → g ≤ 7 → ((288 = 288 ∧ mix f i = mix g (men c)) ↔ (f = g ∧ i = men c)) := fun g h1 h2 => ⟨fun q => mix_inj hn hv (vm' g h1 h2) q.2, fun q => ⟨rfl, by rw [q.1, q.2]⟩⟩
    by_cases q7 : f = 7 ∧ i = men c
    · rw [if_pos q7, if_pos ((key 7 (by omega) (by omega)).2 q7)]
    · rw [if_neg q7, if_neg (fun q => q7 ((key 7 (by omega) (by omega)).1 q))]
      by_cases q6 : f = 6 ∧ i = men c
      · rw [if_pos q6, if_neg (fun q => by have := (key 5 (by omega) (by omega)).1 q; omega), if_pos ((key 6 (by omega) (by omega)).2 q6)]
      · rw [if_neg q6]
        by_cases q5 : f = 5 ∧ i = men c
        · rw [if_pos q5, if_pos ((key 5 (by omega) (by omega)).2 q5)]
        · rw [if_neg q5, if_neg (fun q => q5 ((key 5 (by omega) (by omega)).1 q)), if_neg (fun q => q6 ((key 6 (by omega) (by omega)).1 q))]
          by_cases q4 : f = 4 ∧ i = men c
          · rw [if_pos q4, if_pos ((key 4 (by omega) (by omega)).2 q4)]
          · rw [if_neg q4, if_neg (fun q => q4 ((key 4 (by omega) (by omega)).1 q))]
            by_cases q3 : f = 3 ∧ i = men c
            · rw [if_pos q3, if_pos ((key 3 (by omega) (by omega)).2 q3)]
            · rw [if_neg q3, if_neg (fun q => q3 ((key 3 (by omega) (by omega)).1 q))]
              apply h f i
              unfold vld at hv ⊢
              rw [n1, n2] at hv
              omega
theorem MS.up {n : Nat} {A : Nat → Int32} {I I' : Nat → Nat → Int32} {r : (Int32 × Nat) ⊕ Nat} (h : MS n A I r) (e : ∀ i, 12 ≤ i → i ≤ 17 → I' 283 i = I 283 i) : MS n A I' r := by
  cases r with
  | inl x9 =>
    obtain ⟨h1, h2, h3⟩ := h
    exact ⟨by rw [e 16 (by omega) (by omega)]; exact h1, h2, by rw [e 17 (by omega) (by omega)]; exact h3⟩
  | inr p =>
    obtain ⟨h1, h2, h3⟩ := h
    refine ⟨by rw [e 16 (by omega) (by omega)]; exact h1, ?_, h3⟩
    unfold MT
    rw [e 13 (by omega) (by omega), e 14 (by omega) (by omega), e 15 (by omega) (by omega), e 12 (by omega) (by omega)]
    exact h2
def jd (n : Nat) (A : Nat → Int32) (c : Cr) (p : Nat) : (Int32 × Nat) ⊕ Nat := if sL n A 106 p = true then (if jud c = 4 then .inl (3, p) else rP n A 0 9 0 1 (tn9 n A p)) else .inl (1, p)
def nJ (n : Nat) (A : Nat → Int32) (c : Cr) (p : Nat) : Cr := adJ c (tv9 n A (tn9 n A p)) (tv9 n A (q2P n A 0 9 (tn9 n A p)))
def md (n : Nat) (A : Nat → Int32) (c : Cr) (p : Nat) : (Int32 × Nat) ⊕ Nat := if men c = 6 then .inl (3, p) else rP n A 0 ((jud c : Int) - 1) 1 30 (tn9 n A p)
def nM (n : Nat) (A : Nat → Int32) (c : Cr) (p : Nat) : Cr := adM c (srt n A p) (tv9 n A (tn9 n A p)) (tv9 n A (q2P n A 0 ((jud c : Int) - 1) (tn9 n A p)))
theorem bd_P {n : Nat} {A : Nat → Int32} {l1 h1 l2 h2 : Int} {p q : Nat} (hp : p ≤ n) (h : rP n A l1 h1 l2 h2 p = .inr q) : ∃ q1 q3, rN n A l1 h1 p = .inr q1 ∧ bd (rN n A l1 h1 p) (rS n A 44) = .inr (q2P n A l1 h1 p) ∧ rN n A l2 h2 (q2P n A l1 h1 p) = .inr q3 := by
  obtain ⟨q1, q3, e1, e2, e3, _⟩ := rP_ok hp h
  refine ⟨q1, q3, e1, ?_, e3⟩
  rw [e1]
  exact e2
section PARG
variable {X : Nat → Nat → Int32} {d : Nat} {L : List zK} {I : Nat → Nat → Int32} {J : Nat → Nat → Int64} {n : Nat} {A : Nat → Int32} {r : (Int32 × Nat) ⊕ Nat} {c : Cr}
theorem m_tailJ (hb : MB n A I) (hn : n ≤ 120) (hA : ∀ k, k < n → rg (A k) 0 255) (h : MS n A I r) (hr : ∀ p, r = .inr p → p ≤ n ∧ MAt I 288 c ∧ Iv c ∧ men c = 0 ∧ jud c < 4) : ∃ I', zgo X (zcall X (d+4)) none kX9_readJudge 34 [some (.inr (.inr (some (.inl 9, 283)))), none, none] [] (L, zB1, I, J) = some (none, (L, zB1, I', J)) ∧ MS n A I' (bd (bd (bd (bd r (rN n A 0 9)) (rS n A 44)) (rN n A 0 1)) (rS n A 59)) ∧ (∀ p q, r = .inr p → rP n A 0 9 0 1 p = .inr q → MAt I' 288 (adJ c (tv9 n A p) (tv9 n A (q2P n A 0 9 p)))) ∧ FQ I I' := by
  obtain ⟨v1, I1, a1, a2, a3, a4⟩ := m_number (X := X) (d := d) (L := L) (J := J) hb hn hA h 0 9
  rw [show (0 : Int32).toInt = 0 from rfl, show (9 : Int32).toInt = 9 from rfl] at a2 a3
  obtain ⟨I2, b1, b2, b4⟩ := m_mustSign (X := X) (d := d) (L := L) (J := J) (a4.MB hb) hn hA a2 44
  have f2 := a4.tr b4
  obtain ⟨v2, I3, c1, c2, c3, c4⟩ := m_number (X := X) (d := d) (L := L) (J := J) (f2.MB hb) hn hA b2 0 1
  rw [show (0 : Int32).toInt = 0 from rfl, show (1 : Int32).toInt = 1 from rfl] at c2 c3
  have f3 := f2.tr c4
  obtain ⟨I4, d1, d2, d4⟩ := m_mustSign (X := X) (d := d) (L := L) (J := J) (f3.MB hb) hn hA c2 59
  have f4 := f3.tr d4
  rw [bX9_readJudge_34, a1, cI_some, bX9_readJudge_41, b1, cV_some, bX9_readJudge_48, c1, cI_some, bX9_readJudge_54, d1, cV_some, bX9_readJudge_61]
  cases e : bd (bd (bd (bd r (rN n A 0 9)) (rS n A 44)) (rN n A 0 1)) (rS n A 59) with
  | inl x9 =>
    rw [e] at d2
    rw [d2.1, if_neg (pos_nz d2.2.1)]
    refine ⟨I4, rfl, d2, (fun p q hp hq => ?_), f4.Q⟩
    rw [hp] at e
    rw [show bd (bd (bd (bd (.inr p) (rN n A 0 9)) (rS n A 44)) (rN n A 0 1)) (rS n A 59) = rP n A 0 9 0 1 p from rfl, hq] at e
    cases e
  | inr q =>
    rw [e] at d2
    cases r with
    | inl x9 => cases e
    | inr p =>
      obtain ⟨hp, hM, hv, h0, hk⟩ := hr p rfl
      have eP : rP n A 0 9 0 1 p = .inr q := e
      obtain ⟨q1, q3, o1, o2, o3⟩ := bd_P hp eP
      obtain ⟨_, _, _, _, _, _, _, o6, o7⟩ := rP_ok hp eP
      have ev1 : v1 = tv9 n A p := a3 p q1 rfl o1
      have ev2 : v2 = tv9 n A (q2P n A 0 9 p) := c3 (q2P n A 0 9 p) q3 o2 o3
      subst ev1 ev2
      have hM4 := f4.MAt hM (by omega)
      have hIv := Iv_adJ hv h0 hk (wi_rg o6) (wi_rg o7)
      have ej : I4 288 (1 : Int32).toNatClampNeg = nI (jud c) := hM4.jud hv.1
      have i6 : 6 + (2 * nI (jud c)) = nI (6 + 2 * jud c) := by
        show nI 6 + nI 2 * nI (jud c) = _
        rw [nI_mul, nI_add]
      have z1 : ∀ (M : Nat → Nat → Int32) (k v : _), k ≠ 1 → zup M 288 k v 288 (1 : Int32).toNatClampNeg = M 288 (1 : Int32).toNatClampNeg := fun M k v hk => zup_f M v (by show 1 ≠ k; omega)
      rw [d2.1, if_pos rfl, show zin 1 43 = true from by decide, zbt_t, ej, ix2, zin_nI (show 5 + 2 * jud c < 43 by omega) (by omega), zbt_t, ncl (by omega), zbt_t, z1 _ _ _ (by omega), ej, i6, zin_nI (show 6 + 2 * jud c < 43 by omega) (by omega), zbt_t, ncl (by omega), zbt_t, zbt_t, z1 _ _ _ (by omega), z1 _ _ _ (by omega), ej, nI_1]
      refine ⟨_, rfl, d2.up (fun i _ _ => ?_), (fun p' q' hp' _ => ?_), fun a i k1 k2 => ?_⟩
      · rw [zup_ne (by omega), zup_ne (by omega), zup_ne (by omega)]
      · cases hp'
        exact MAt_adJ hM4 hk _ _ hIv.1
      · rw [zup_ne k2, zup_ne k2, zup_ne k2]; exact f4 a i k1
theorem m_readJudge (hb : MB n A I) (hn : n ≤ 120) (hA : ∀ k, k < n → rg (A k) 0 255) (h : MS n A I r) (hr : ∀ p, r = .inr p → MAt I 288 c ∧ Iv c ∧ men c = 0) : ∃ I', zcall X (d + 5) 172 [.inr (.inr (some (.inl 9, 283)))] (L, zB1, I, J) = some (none, (L, zB1, I', J)) ∧ MS n A I' (bd r (jd n A c)) ∧ (∀ p q, r = .inr p → jd n A c p = .inr q → MAt I' 288 (nJ n A c p)) ∧ FQ I I' := by
  -- from 24 on, in a failed reading or where no judge is told
  have lost : ∀ (I1 : Nat → Nat → Int32) (r1 : (Int32 × Nat) ⊕ Nat) (e : Int32 × Nat), MS n A I1 r1 → FX I I1 → lB n A 106 r1 = false → mR n A r1 false = .inl e → ∃ I', zgo X (zcall X (d+4)) none kX9_readJudge 24 [some (.inr (.inr (some (.inl 9, 283)))), none, none] [] (L, zB1, I1, J) = some (none, (L, zB1, I', J)) ∧ MS n A I' (.inl e) ∧ FQ I I' := by
    intro I1 r1 e hM f1 hl hm
    obtain ⟨I2, a1, a2, a4⟩ := m_must (X := X) (d := d + 1) (L := L) (J := J) (f1.MB hb) hn hA hM false (fun p _ q => by cases q)
    rw [hm] at a2
    obtain ⟨I3, b1, b2, _, b4⟩ := m_tailJ (X := X) (d := d) (L := L) (J := J) (c := c) ((f1.tr a4).MB hb) hn hA a2 (fun p hp => by cases hp)
    refine ⟨I3, ?_, b2, (f1.tr a4).Q.tr b4⟩
    rw [bX9_readJudge_24, m_isLetter hM, hl, cI_some, bX9_readJudge_31, a1, cV_some]
    exact b1
  rw [eX9_readJudge, m_isLetter h, cI_some, bX9_readJudge_6]
  cases r with
  | inl e =>
    rw [show lB n A 106 (.inl e) = false from rfl, if0]
    obtain ⟨I1, a1, a2, a4⟩ := lost I (.inl e) e h (FX.rf I) rfl rfl
    exact ⟨I1, a1, a2, (fun p q hp => by cases hp), a4⟩
  | inr p =>
    obtain ⟨hM, hv, h0⟩ := hr p rfl
    have h4 := hv.1.2.2.2
    rw [show lB n A 106 (.inr p) = sL n A 106 p from rfl, show bd (.inr p) (jd n A c) = jd n A c p from rfl]
    cases hl : sL n A 106 p with
    | false =>
      have ej : jd n A c p = .inl (1, p) := by unfold jd; rw [hl, if_neg (by decide)]
      obtain ⟨I1, a1, a2, a4⟩ := lost I (.inr p) (1, p) h (FX.rf I) hl rfl
      rw [if0, ej]
      exact ⟨I1, a1, a2, (fun p' q hp hq => by cases hp; rw [ej] at hq; cases hq), a4⟩
    | true =>
      rw [if1, show zin 1 43 = true from by decide, zbt_t, show I 288 (1 : Int32).toNatClampNeg = nI (jud c) from hM.jud hv.1]
      by_cases q4 : jud c = 4
      · have ej : jd n A c p = .inl (3, p) := by unfold jd; rw [hl, if_pos rfl, if_pos q4]
        obtain ⟨I1, a1, a2, a4⟩ := m_bad (X := X) (d := d + 3) (L := L) (J := J) (k := 3) h (by decide)
        obtain ⟨I2, b1, b2, b4⟩ := lost I1 (.inl (3, p)) (3, p) a2 a4 rfl rfl
        rw [if_pos (by rw [q4]; rfl), a1, cV_some, ej]
        exact ⟨I2, b1, b2, (fun p' q hp hq => by cases hp; rw [ej] at hq; cases hq), b4⟩
      · have ej : jd n A c p = rP n A 0 9 0 1 (tn9 n A p) := by unfold jd; rw [hl, if_pos rfl, if_neg q4]
        have ht := sL_t hl
        have hq := (tk_le (A := A) h.2.2).2
        obtain ⟨I1, a1, a2, a4⟩ := m_must1 (X := X) (d := d + 1) (L := L) (J := J) hb hn hA h (fun p' hp' => by cases hp'; omega)
        have a2' : MS n A I1 (.inr (tn9 n A p)) := a2
        obtain ⟨I2, b1, b2, b3, b4⟩ := m_tailJ (X := X) (d := d) (L := L) (J := J) (c := c) (a4.MB hb) hn hA a2' (fun p' hp' => by cases hp'; exact ⟨hq, a4.MAt hM (by omega), hv, h0, by omega⟩)
        rw [if_neg (by show ¬ nI (jud c) = nI 4; rw [neq (by omega) (by omega)]; exact q4), bX9_readJudge_24, m_isLetter h, show lB n A 106 (.inr p) = true from hl, cI_some, bX9_readJudge_31, show zcall X (d + 4) 163 [.inr (.inr (some (.inl 9, 283))), .inl (b2i true)] (L, zB1, I, J) = some (none, (L, zB1, I1, J)) from a1, cV_some, ej]
        exact ⟨I2, b1, b2, (fun p' q hp hq' => by cases hp; rw [ej] at hq'; exact b3 (tn9 n A p) q rfl hq'), a4.Q.tr b4⟩
end PARG
