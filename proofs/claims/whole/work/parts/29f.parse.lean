/-! reading a circuit: the reference's steps -/
def MS (n : Nat) (A : Nat → Int32) (I : Nat → Nat → Int32) (r : (Int32 × Nat) ⊕ Nat) : Prop := match r with
  | .inl e => I 283 16 = e.1 ∧ 0 < e.1.toInt ∧ I 283 17 = nI e.2
  | .inr p => I 283 16 = 0 ∧ MT n A I p ∧ p ≤ n
def FX (I I' : Nat → Nat → Int32) : Prop := ∀ a i, ¬ (a = 283 ∧ 12 ≤ i ∧ i ≤ 17) → I' a i = I a i
theorem FX.rf (I : Nat → Nat → Int32) : FX I I := fun _ _ _ => rfl
theorem FX.tr {I I1 I2 : Nat → Nat → Int32} (h : FX I I1) (h2 : FX I1 I2) : FX I I2 := fun a i k => (h2 a i k).trans (h a i k)
theorem FU.X {I I' : Nat → Nat → Int32} (h : FU I I') : FX I I' := fun a i k => h a i (by omega)
theorem FX.MB {I I' : Nat → Nat → Int32} (h : FX I I') {n : Nat} {A : Nat → Int32} (hb : MB n A I) : MB n A I' := by
  refine ⟨?_, fun k hk => ?_⟩
  · rw [h 283 11 (by omega)]; exact hb.1
  · rw [h 291 k (by omega)]; exact hb.2 k hk
theorem FX.MAt {I I' : Nat → Nat → Int32} (h : FX I I') {c : Cr} {r : Nat} (hc : MAt I r c) (hr : r ≠ 283) : MAt I' r c := fun f i hv => by
  rw [h _ _ (by omega)]; exact hc f i hv
theorem mco_iff : ∀ t ≤ 4, (mco t = 1 ↔ t = 0) ∧ (mco t = 2 ↔ t = 1) ∧ (mco t = 3 ↔ t = 2) ∧ (mco t = 4 ↔ t = 3) := by decide
theorem pos_nz {x9 : Int32} (h : 0 < x9.toInt) : ¬ x9 = 0 := fun e => by rw [e, i0] at h; omega
def bdR (r : (Int32 × Nat) ⊕ Nat) (k : Int32) : (Int32 × Nat) ⊕ Nat := match r with
  | .inl e => .inl e
  | .inr p => .inl (k, p)
def lB (n : Nat) (A : Nat → Int32) (a : Int32) (r : (Int32 × Nat) ⊕ Nat) : Bool := match r with
  | .inl _ => false
  | .inr p => sL n A a p
def sB (n : Nat) (A : Nat → Int32) (r : (Int32 × Nat) ⊕ Nat) : Bool := match r with
  | .inl _ => false
  | .inr p => !decide (srt n A p = 0)
section PARF
variable {X : Nat → Nat → Int32} {d : Nat} {L : List zK} {I : Nat → Nat → Int32} {J : Nat → Nat → Int64} {n : Nat} {A : Nat → Int32} {r : (Int32 × Nat) ⊕ Nat}
theorem m_bad (h : MS n A I r) {k : Int32} (hk : 0 < k.toInt) : ∃ I', zcall X (d + 1) 161 [.inr (.inr (some (.inl 9, 283))), .inl k] (L, zB1, I, J) = some (none, (L, zB1, I', J)) ∧ MS n A I' (bdR r k) ∧ FX I I' := by
  rw [eX9_bad]
  cases r with
  | inl e =>
    obtain ⟨h1, h2, h3⟩ := h
    rw [h1, if_neg (pos_nz h2)]
    exact ⟨I, rfl, ⟨h1, h2, h3⟩, FX.rf I⟩
  | inr p =>
    obtain ⟨h1, h2, h3⟩ := h
    rw [h1, if_pos rfl]
    refine ⟨_, rfl, ⟨?_, hk, ?_⟩, fun a i q => ?_⟩
    · rw [zup_f _ _ (by omega), zup_e]
    · rw [zup_e, zup_f _ _ (by omega)]; exact h2.1
    · rw [zup_at, if_neg (by omega), zup_at, if_neg (by omega)]
def mR (n : Nat) (A : Nat → Int32) (r : (Int32 × Nat) ⊕ Nat) (ok : Bool) : (Int32 × Nat) ⊕ Nat := match r with
  | .inl e => .inl e
  | .inr p => if ok = true then .inr (tn9 n A p) else .inl (1, p)
theorem m_must (hb : MB n A I) (hn : n ≤ 120) (hA : ∀ k, k < n → rg (A k) 0 255) (h : MS n A I r) (ok : Bool) (hok : ∀ p, r = .inr p → ok = true → tt9 n A p ≠ 4) : ∃ I', zcall X (d + 3) 163 [.inr (.inr (some (.inl 9, 283))), .inl (b2i ok)] (L, zB1, I, J) = some (none, (L, zB1, I', J)) ∧ MS n A I' (mR n A r ok) ∧ FX I I' := by
  rw [eX9_must]
  cases r with
  | inl e =>
    obtain ⟨I1, e1, g1, f1⟩ := m_bad (X := X) (d := d + 1) (L := L) (J := J) (k := 1) h (by decide)
    have k9 : ∀ (v : Int32) (I' : Nat → Nat → Int32), I' 283 16 = e.1 → zgo X (zcall X (d+2)) none kX9_must 9 [some (.inr (.inr (some (.inl 9, 283)))), some (.inl (v))] [] (L, zB1, I', J) = some (none, (L, zB1, I', J)) := fun v I' h' => by rw [bX9_must_9, h', if_neg (pos_nz h.2.1), bX9_must_20]
    cases ok with
    | true =>
      rw [if_neg (by decide), k9 _ _ h.1]
      exact ⟨I, rfl, h, FX.rf I⟩
    | false =>
      rw [if_pos (show b2i false = 0 from rfl), e1, cV_some, k9 _ _ g1.1]
      exact ⟨I1, rfl, g1, f1⟩
  | inr p =>
    cases ok with
    | true =>
      rw [if_neg (by decide), bX9_must_9, h.1, if_pos rfl]
      have ht := hok p rfl rfl
      have hq := (tk_le (A := A) h.2.2).2
      obtain ⟨I1, e1, g1, f1⟩ := m_next (X := X) (d := d) (L := L) (J := J) hb hn hA hq (h.2.1.2.2.2 ht)
      rw [e1, cV_some, bX9_must_20]
      refine ⟨I1, rfl, ⟨?_, g1, hq⟩, f1.X⟩
      rw [f1 283 16 (by omega)]; exact h.1
    | false =>
      obtain ⟨I1, e1, g1, f1⟩ := m_bad (X := X) (d := d + 1) (L := L) (J := J) (k := 1) h (by decide)
      rw [if_pos (show b2i false = 0 from rfl), e1, cV_some, bX9_must_9, g1.1, if_neg (pos_nz g1.2.1), bX9_must_20]
      exact ⟨I1, rfl, g1, f1⟩
theorem m_must1 (hb : MB n A I) (hn : n ≤ 120) (hA : ∀ k, k < n → rg (A k) 0 255) (h : MS n A I r) (hok : ∀ p, r = .inr p → tt9 n A p ≠ 4) : ∃ I', zcall X (d + 3) 163 [.inr (.inr (some (.inl 9, 283))), .inl 1] (L, zB1, I, J) = some (none, (L, zB1, I', J)) ∧ MS n A I' (mR n A r true) ∧ FX I I' := m_must hb hn hA h true (fun p hp _ => hok p hp)
theorem MS.t {I : Nat → Nat → Int32} {p : Nat} (h : MS n A I (.inr p)) : (I 283 14 = 1 ↔ tt9 n A p = 0) ∧ (I 283 14 = 2 ↔ tt9 n A p = 1) ∧ (I 283 14 = 3 ↔ tt9 n A p = 2) ∧ (I 283 14 = 4 ↔ tt9 n A p = 3) := by
  have := mco_iff _ (tk_le (A := A) h.2.2).1
  rw [h.2.1.2.1]
  exact this
theorem m_isLetter (h : MS n A I r) (a : Int32) : zcall X (d + 1) 164 [.inr (.inr (some (.inl 9, 283))), .inl a] (L, zB1, I, J) = some (some (.inl (b2i (lB n A a r))), (L, zB1, I, J)) := by
  rw [eX9_isLetter]
  cases r with
  | inl e => rw [h.1, if_neg (pos_nz h.2.1)]; rfl
  | inr p =>
    rw [h.1, if_pos rfl]
    rw [show lB n A a (.inr p) = sL n A a p from rfl]
    unfold sL
    by_cases q1 : tt9 n A p = 1
    · have e5 : I 283 15 = tv9 n A p := h.2.1.2.2.1 (by show tt9 n A p ≠ 4; omega) (by show tt9 n A p ≠ 0; omega)
      rw [if_pos (h.t.2.1.2 q1), e5]
      by_cases q2 : tv9 n A p = a
      · rw [if_pos q2, decide_eq_true ⟨q1, q2⟩]; rfl
      · rw [if_neg q2, decide_eq_false (fun q => q2 q.2)]; rfl
    · rw [if_neg (fun q => q1 (h.t.2.1.1 q)), decide_eq_false (fun q => q1 q.1)]; rfl
theorem m_number (hb : MB n A I) (hn : n ≤ 120) (hA : ∀ k, k < n → rg (A k) 0 255) (h : MS n A I r) (lo hi : Int32) : ∃ v I', zcall X (d + 4) 165 [.inr (.inr (some (.inl 9, 283))), .inl lo, .inl hi] (L, zB1, I, J) = some (some (.inl (v)), (L, zB1, I', J)) ∧ MS n A I' (bd r (rN n A lo.toInt hi.toInt)) ∧ (∀ p q, r = .inr p → rN n A lo.toInt hi.toInt p = .inr q → v = tv9 n A p) ∧ FX I I' := by
  have stay : ∀ (I' : Nat → Nat → Int32) (e : Int32 × Nat) (v : Int32), MS n A I' (.inl e) → ∃ I2, cV (zcall X (d + 3) 163 [.inr (.inr (some (.inl 9, 283))), .inl 1] (L, zB1, I', J)) (fun σ => zgo X (zcall X (d+3)) (some .int) kX9_number 68 [some (.inr (.inr (some (.inl 9, 283)))), some (.inl (lo)), some (.inl (hi)), some (.inl (v))] [] σ) = some (some (.inl (v)), (L, zB1, I2, J)) ∧ MS n A I2 (.inl e) ∧ FX I' I2 := by
    intro I' e v hM
    have e1 : zcall X (d + 3) 163 [.inr (.inr (some (.inl 9, 283))), .inl 1] (L, zB1, I', J) = some (none, (L, zB1, I', J)) := by rw [eX9_must, if_neg (by decide), bX9_must_9, hM.1, if_neg (pos_nz hM.2.1), bX9_must_20]
    exact ⟨I', by rw [e1, cV_some, bX9_number_68], hM, FX.rf I'⟩
  cases r with
  | inl e =>
    obtain ⟨I2, k1, k2, k3⟩ := stay I e lo h
    refine ⟨lo, I2, ?_, k2, (fun p q hp => by cases hp), k3⟩
    rw [eX9_number, h.1, if_neg (pos_nz h.2.1), bX9_number_20, h.1, if_neg (pos_nz h.2.1), bX9_number_47, h.1, if_neg (pos_nz h.2.1), bX9_number_62]
    exact k1
  | inr p =>
    show ∃ v I', _ ∧ MS n A I' (rN n A lo.toInt hi.toInt p) ∧ _
    rw [eX9_number, h.1, if_pos rfl]
    by_cases q1 : tt9 n A p = 2
    · have e5 : I 283 15 = tv9 n A p := h.2.1.2.2.1 (by show tt9 n A p ≠ 4; omega) (by show tt9 n A p ≠ 0; omega)
      rw [if_pos (h.t.2.2.1.2 q1), bX9_number_20, h.1, if_pos rfl, e5, m_inI, cI_some, bX9_number_39, Jvm.Kit.i64_of_i32, Jvm.Kit.i64_of_i32]
      cases hw : wi (tv9 n A p) lo.toInt hi.toInt with
      | true =>
        have eN : rN n A lo.toInt hi.toInt p = .inr (tn9 n A p) := by unfold rN; rw [if_pos q1, if_pos hw]
        have hq := (tk_le (A := A) h.2.2).2
        obtain ⟨I1, k1, k2, k3⟩ := m_must1 (X := X) (d := d) (L := L) (J := J) hb hn hA h (fun p' hp' => by cases hp'; omega)
        rw [if1, bX9_number_47, h.1, if_pos rfl, e5, bX9_number_62, k1, cV_some, bX9_number_68, eN]
        exact ⟨_, I1, rfl, k2, fun p' q' hp' _ => by cases hp'; rfl, k3⟩
      | false =>
        have eN : rN n A lo.toInt hi.toInt p = .inl (2, p) := by unfold rN; rw [if_pos q1, hw, if_neg (by decide)]
        obtain ⟨I1, k1, k2, k3⟩ := m_bad (X := X) (d := d + 2) (L := L) (J := J) (k := 2) h (by decide)
        obtain ⟨I2, j1, j2, j3⟩ := stay I1 (2, p) lo k2
        rw [if0, k1, cV_some, bX9_number_47, k2.1, if_neg (pos_nz k2.2.1), bX9_number_62, j1, eN]
        exact ⟨_, I2, rfl, j2, (fun p' q' _ hq => by rw [show p' = p from by rename_i hp'; cases hp'; rfl, eN] at hq; cases hq), k3.tr j3⟩
    · have eN : rN n A lo.toInt hi.toInt p = .inl (1, p) := by unfold rN; rw [if_neg q1]
      obtain ⟨I1, k1, k2, k3⟩ := m_bad (X := X) (d := d + 2) (L := L) (J := J) (k := 1) h (by decide)
      obtain ⟨I2, j1, j2, j3⟩ := stay I1 (1, p) lo k2
      rw [if_neg (fun q => q1 (h.t.2.2.1.1 q)), k1, cV_some, bX9_number_20, k2.1, if_neg (pos_nz k2.2.1), bX9_number_47, k2.1, if_neg (pos_nz k2.2.1), bX9_number_62, j1, eN]
      exact ⟨_, I2, rfl, j2, (fun p' q' hp' hq => by cases hp'; rw [eN] at hq; cases hq), k3.tr j3⟩
theorem m_mustSign (hb : MB n A I) (hn : n ≤ 120) (hA : ∀ k, k < n → rg (A k) 0 255) (h : MS n A I r) (a : Int32) : ∃ I', zcall X (d + 4) 166 [.inr (.inr (some (.inl 9, 283))), .inl a] (L, zB1, I, J) = some (none, (L, zB1, I', J)) ∧ MS n A I' (bd r (rS n A a)) ∧ FX I I' := by
  have key : ∀ ok : Bool, (∀ p, r = .inr p → ok = decide (tt9 n A p = 3 ∧ tv9 n A p = a)) → ∃ I', cV (zcall X (d + 3) 163 [.inr (.inr (some (.inl 9, 283))), .inl (b2i ok)] (L, zB1, I, J)) (fun σ => zgo X (zcall X (d+3)) none kX9_mustSign 25 [some (.inr (.inr (some (.inl 9, 283)))), some (.inl (a))] [] σ) = some (none, (L, zB1, I', J)) ∧ MS n A I' (bd r (rS n A a)) ∧ FX I I' := by
    intro ok hok
    obtain ⟨I1, k1, k2, k3⟩ := m_must (X := X) (d := d) (L := L) (J := J) hb hn hA h ok (fun p hp hk => by
      have := hok p hp
      rw [hk] at this
      have := (of_decide_eq_true this.symm).1
      omega)
    refine ⟨I1, by rw [k1, cV_some, bX9_mustSign_25], ?_, k3⟩
    cases r with
    | inl e => exact k2
    | inr p =>
      have e := hok p rfl
      show MS n A I1 (rS n A a p)
      unfold rS
      unfold mR at k2
      try dsimp only at k2
      by_cases q : tt9 n A p = 3 ∧ tv9 n A p = a
      · rw [decide_eq_true q] at e
        rw [e, if_pos rfl] at k2
        rw [if_pos q]; exact k2
      · rw [decide_eq_false q] at e
        rw [e, if_neg (by decide)] at k2
        rw [if_neg q]; exact k2
  rw [eX9_mustSign]
  by_cases q4 : I 283 14 = 4
  · rw [if_pos q4]
    by_cases q5 : I 283 15 = a
    · rw [if_pos q5]
      refine key true (fun p hp => ?_)
      subst hp
      have ht := h.t.2.2.2.1 q4
      have e5 : I 283 15 = tv9 n A p := h.2.1.2.2.1 (by show tt9 n A p ≠ 4; omega) (by show tt9 n A p ≠ 0; omega)
      rw [decide_eq_true ⟨ht, by rw [← e5]; exact q5⟩]
    · rw [if_neg q5]
      refine key false (fun p hp => ?_)
      subst hp
      have ht := h.t.2.2.2.1 q4
      have e5 : I 283 15 = tv9 n A p := h.2.1.2.2.1 (by show tt9 n A p ≠ 4; omega) (by show tt9 n A p ≠ 0; omega)
      rw [decide_eq_false (fun q => q5 (by rw [e5]; exact q.2))]
  · rw [if_neg q4]
    refine key false (fun p hp => ?_)
    subst hp
    rw [decide_eq_false (fun q => q4 (h.t.2.2.2.2 q.1))]
theorem m_kindBy (v : Int32) : zcall X (d + 1) 170 [.inl v] (L, zB1, I, J) = some (some (.inl (if v = 116 then 1 else if v = 102 then 2 else if v = 115 then 3 else if v = 119 then 4 else if v = 98 then 5 else -1000000)), (L, zB1, I, J)) := by
  rw [eX9_kindBy]
  simp only [iteT]
theorem kind_srt {p : Nat} (ht : tt9 n A p = 1) : (if tv9 n A p = 116 then 1 else if tv9 n A p = 102 then 2 else if tv9 n A p = 115 then 3 else if tv9 n A p = 119 then 4 else if tv9 n A p = 98 then 5 else (-1000000 : Int32)) = if srt n A p = 0 then -1000000 else srt n A p := by
  unfold srt
  rw [if_pos ht]
  generalize tv9 n A p = v
  by_cases h1 : v = 116
  · subst h1; rfl
  · by_cases h2 : v = 102
    · subst h2; rfl
    · by_cases h3 : v = 115
      · subst h3; rfl
      · by_cases h4 : v = 119
        · subst h4; rfl
        · by_cases h5 : v = 98
          · subst h5; rfl
          · rw [if_neg h1, if_neg h2, if_neg h3, if_neg h4, if_neg h5, if_neg h5, if_neg h2, if_neg h3, if_neg h1, if_neg h4, if_pos rfl]
theorem m_isSort (h : MS n A I r) : zcall X (d + 2) 171 [.inr (.inr (some (.inl 9, 283)))] (L, zB1, I, J) = some (some (.inl (b2i (sB n A r))), (L, zB1, I, J)) := by
  rw [eX9_isSort]
  cases r with
  | inl e => rw [h.1, if_neg (pos_nz h.2.1)]; rfl
  | inr p =>
    rw [h.1, if_pos rfl]
    rw [show sB n A (.inr p) = !decide (srt n A p = 0) from rfl]
    by_cases q1 : tt9 n A p = 1
    · have e5 : I 283 15 = tv9 n A p := h.2.1.2.2.1 (by show tt9 n A p ≠ 4; omega) (by show tt9 n A p ≠ 0; omega)
      rw [if_pos (h.t.2.1.2 q1), e5, m_kindBy, cI_some, bX9_isSort_22, kind_srt q1, iteT]
      try dsimp only
      by_cases q2 : srt n A p = 0
      · rw [if_pos (show (if srt n A p = 0 then (-1000000 : Int32) else srt n A p) = -1000000 by rw [if_pos q2]), decide_eq_true q2]; rfl
      · have hr := (srt_rg n A p q2).1
        rw [if_neg (show ¬ (if srt n A p = 0 then (-1000000 : Int32) else srt n A p) = -1000000 by
          rw [if_neg q2]
          intro e
          rw [e] at hr
          exact absurd hr.1 (by decide)), decide_eq_false q2]; rfl
    · rw [if_neg (fun q => q1 (h.t.2.1.1 q)), show srt n A p = 0 from by unfold srt; rw [if_neg q1]]; rfl
end PARF
