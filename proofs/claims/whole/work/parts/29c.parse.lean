/-! reading a circuit: what is read -/
def bd {α β : Type} (r : (Int32 × Nat) ⊕ α) (f : α → (Int32 × Nat) ⊕ β) : (Int32 × Nat) ⊕ β := match r with
  | .inl e => .inl e
  | .inr x9 => f x9
def tt9 (n : Nat) (A : Nat → Int32) (p : Nat) : Nat := (tk n A p).1
def tv9 (n : Nat) (A : Nat → Int32) (p : Nat) : Int32 := (tk n A p).2.1
def tn9 (n : Nat) (A : Nat → Int32) (p : Nat) : Nat := (tk n A p).2.2
def rN (n : Nat) (A : Nat → Int32) (lo hi : Int) (p : Nat) : (Int32 × Nat) ⊕ Nat := if tt9 n A p = 2 then (if wi (tv9 n A p) lo hi = true then .inr (tn9 n A p) else .inl (2, p)) else .inl (1, p)
def rS (n : Nat) (A : Nat → Int32) (a : Int32) (p : Nat) : (Int32 × Nat) ⊕ Nat := if tt9 n A p = 3 ∧ tv9 n A p = a then .inr (tn9 n A p) else .inl (1, p)
def sL (n : Nat) (A : Nat → Int32) (a : Int32) (p : Nat) : Bool := decide (tt9 n A p = 1 ∧ tv9 n A p = a)
def rP (n : Nat) (A : Nat → Int32) (l1 h1 l2 h2 : Int) (p : Nat) : (Int32 × Nat) ⊕ Nat := bd (bd (bd (rN n A l1 h1 p) (rS n A 44)) (rN n A l2 h2)) (rS n A 59)
/-- the place of the second number -/
def q2P (n : Nat) (A : Nat → Int32) (l1 h1 : Int) (p : Nat) : Nat := match bd (rN n A l1 h1 p) (rS n A 44) with
  | .inl _ => 0
  | .inr q => q
def srt (n : Nat) (A : Nat → Int32) (p : Nat) : Int32 := if tt9 n A p = 1 then (if tv9 n A p = 98 then 5 else if tv9 n A p = 102 then 2 else if tv9 n A p = 115 then 3 else if tv9 n A p = 116 then 1 else if tv9 n A p = 119 then 4 else 0) else 0
def bgC (a b : Int32) : Cr := fun f i => if f = 0 ∧ i = 2 then a else if f = 0 ∧ i = 3 then b else 0
def adJ (c : Cr) (a b : Int32) : Cr := cup (cup (cup c 1 (jud c) a) 2 (jud c) b) 0 0 (nI (jud c + 1))
def adM (c : Cr) (k a b : Int32) : Cr := cup (cup (cup (cup (cup (cup c 3 (men c) k) 4 (men c) a) 5 (men c) 0) 6 (men c) b) 7 (men c) 0) 0 1 (nI (men c + 1))
def sJ (n : Nat) (A : Nat → Int32) : Nat → Nat → Cr → (Int32 × Nat) ⊕ (Cr × Nat)
  | 0, p, c => if sL n A 106 p = true then .inl (3, p) else .inr (c, p)
  | r + 1, p, c => if sL n A 106 p = true then bd (rP n A 0 9 0 1 (tn9 n A p)) (fun q => sJ n A r q (adJ c (tv9 n A (tn9 n A p)) (tv9 n A (q2P n A 0 9 (tn9 n A p))))) else if 0 < jud c then .inr (c, p) else .inl (1, p)
def sM (n : Nat) (A : Nat → Int32) : Nat → Nat → Cr → (Int32 × Nat) ⊕ Cr
  | 0, p, c => if tt9 n A p = 0 then .inr c else .inl ((if srt n A p = 0 then 1 else 3), p)
  | r + 1, p, c => if srt n A p = 0 then (if 0 < men c ∧ tt9 n A p = 0 then .inr c else .inl (1, p)) else bd (rP n A 0 ((jud c : Int) - 1) 1 30 (tn9 n A p)) (fun q => sM n A r q (adM c (srt n A p) (tv9 n A (tn9 n A p)) (tv9 n A (q2P n A 0 ((jud c : Int) - 1) (tn9 n A p)))))
def sA (n : Nat) (A : Nat → Int32) : (Int32 × Nat) ⊕ Cr := if sL n A 108 0 = true then bd (rP n A 1 9 1 60 (tn9 n A 0)) (fun q => bd (sJ n A 4 q (bgC (tv9 n A (tn9 n A 0)) (tv9 n A (q2P n A 1 9 (tn9 n A 0))))) (fun w => sM n A 6 w.2 w.1)) else .inl (1, 0)
theorem tk_le {n : Nat} {A : Nat → Int32} {p : Nat} (hp : p ≤ n) : tt9 n A p ≤ 4 ∧ tn9 n A p ≤ n := by
  unfold tt9 tn9 tk
  by_cases h : p < n
  · rw [if_pos h]
    by_cases h1 : fig (A p) = true
    · rw [if_pos h1]
      by_cases h2 : fig (bA n A (p + 1)) = true
      · have := (bA_lt h2).1
        rw [if_pos h2]
        by_cases h3 : fig (bA n A (p + 2)) = true
        · rw [if_pos h3]; exact ⟨show (4 : Nat) ≤ 4 by omega, show p ≤ n by omega⟩
        · rw [if_neg h3]; exact ⟨show (2 : Nat) ≤ 4 by omega, show p + 2 ≤ n by omega⟩
      · rw [if_neg h2]; exact ⟨show (2 : Nat) ≤ 4 by omega, show p + 1 ≤ n by omega⟩
    · rw [if_neg h1]
      by_cases h2 : wi (A p) 97 122 = true
      · rw [if_pos h2]; exact ⟨show (1 : Nat) ≤ 4 by omega, show p + 1 ≤ n by omega⟩
      · rw [if_neg h2]
        by_cases h3 : A p = 44 ∨ A p = 59
        · rw [if_pos h3]; exact ⟨show (3 : Nat) ≤ 4 by omega, show p + 1 ≤ n by omega⟩
        · rw [if_neg h3]; exact ⟨show (4 : Nat) ≤ 4 by omega, show p ≤ n by omega⟩
  · rw [if_neg h]; exact ⟨show (0 : Nat) ≤ 4 by omega, show p ≤ n by omega⟩
theorem rN_le {n : Nat} {A : Nat → Int32} {lo hi : Int} {p q : Nat} (hp : p ≤ n) (h : rN n A lo hi p = .inr q) : q ≤ n ∧ tt9 n A p = 2 ∧ wi (tv9 n A p) lo hi = true ∧ q = tn9 n A p := by
  unfold rN at h
  by_cases h1 : tt9 n A p = 2
  · rw [if_pos h1] at h
    by_cases h2 : wi (tv9 n A p) lo hi = true
    · rw [if_pos h2] at h
      injection h with h
      exact ⟨by rw [← h]; exact (tk_le hp).2, h1, h2, h.symm⟩
    · rw [if_neg h2] at h; cases h
  · rw [if_neg h1] at h; cases h
theorem rS_le {n : Nat} {A : Nat → Int32} {a : Int32} {p q : Nat} (hp : p ≤ n) (h : rS n A a p = .inr q) : q ≤ n ∧ q = tn9 n A p := by
  unfold rS at h
  by_cases h1 : tt9 n A p = 3 ∧ tv9 n A p = a
  · rw [if_pos h1] at h
    injection h with h
    exact ⟨by rw [← h]; exact (tk_le hp).2, h.symm⟩
  · rw [if_neg h1] at h; cases h
/-- a pair that can be read -/
theorem rP_ok {n : Nat} {A : Nat → Int32} {l1 h1 l2 h2 : Int} {p q : Nat} (hp : p ≤ n) (h : rP n A l1 h1 l2 h2 p = .inr q) : ∃ q1 q3, rN n A l1 h1 p = .inr q1 ∧ rS n A 44 q1 = .inr (q2P n A l1 h1 p) ∧ rN n A l2 h2 (q2P n A l1 h1 p) = .inr q3 ∧ rS n A 59 q3 = .inr q ∧ q ≤ n ∧ wi (tv9 n A p) l1 h1 = true ∧ wi (tv9 n A (q2P n A l1 h1 p)) l2 h2 = true := by
  unfold rP at h
  unfold q2P
  cases e1 : rN n A l1 h1 p with
  | inl e => rw [e1] at h; cases h
  | inr q1 =>
    rw [e1] at h
    obtain ⟨w1, _, w3, _⟩ := rN_le hp e1
    cases e2 : rS n A 44 q1 with
    | inl e => rw [show bd (.inr q1) (rS n A 44) = rS n A 44 q1 from rfl, e2] at h; cases h
    | inr q2 =>
      rw [show bd (.inr q1) (rS n A 44) = rS n A 44 q1 from rfl, e2] at h ⊢
      have w2 := rS_le w1 e2
      try dsimp only
      cases e3 : rN n A l2 h2 q2 with
      | inl e => rw [show bd (.inr q2) (rN n A l2 h2) = rN n A l2 h2 q2 from rfl, e3] at h; cases h
      | inr q3 =>
        rw [show bd (.inr q2) (rN n A l2 h2) = rN n A l2 h2 q2 from rfl, e3, show bd (.inr q3) (rS n A 59) = rS n A 59 q3 from rfl] at h
        obtain ⟨v1, _, v3, _⟩ := rN_le w2.1 e3
        exact ⟨q1, q3, rfl, e2, rfl, h, (rS_le v1 h).1, w3, v3⟩
section PARC
variable {X : Nat → Nat → Int32} {d : Nat} {L : List zK} {I : Nat → Nat → Int32} {J : Nat → Nat → Int64} {n : Nat} {A : Nat → Int32} {c : Cr}
/-- the class's frame: the tape's own places alone -/
def FW (I I' : Nat → Nat → Int32) : Prop := ∀ a i, ¬ (a = 21 ∧ 3 ≤ i ∧ i ≤ 10) → I' a i = I a i
theorem FW.rf (I : Nat → Nat → Int32) : FW I I := fun _ _ _ => rfl
theorem FW.tr {I I1 I2 : Nat → Nat → Int32} (h : FW I I1) (h2 : FW I1 I2) : FW I I2 := fun a i k => (h2 a i k).trans (h a i k)
theorem FT.W {I I' : Nat → Nat → Int32} (h : FT I I') : FW I I' := fun a i k => h a i (by omega)
theorem FW.up {I I1 : Nat → Nat → Int32} (h : FW I I1) {i : Nat} {v : Int32} (hi : 3 ≤ i ∧ i ≤ 10) : FW I (zup I1 21 i v) := fun a i' k => by
  rw [zup_at, if_neg (by omega)]; exact h a i' k
theorem FW.CB {I I' : Nat → Nat → Int32} (h : FW I I') {n : Nat} {A : Nat → Int32} (hb : CB n A I) : CB n A I' := by
  refine ⟨?_, fun k hk => ?_⟩
  · rw [h 21 2 (by omega)]; exact hb.1
  · rw [h 22 k (by omega)]; exact hb.2 k hk
/-- how the class leaves a failed reading -/
def CF (I : Nat → Nat → Int32) (e : Int32 × Nat) : Prop := I 21 9 = e.1 ∧ I 21 10 = nI e.2
theorem CT.t {I : Nat → Nat → Int32} {p : Nat} (h : CT n A I p) (hp : p ≤ n) (k : Nat) (hk : k ≤ 4) : I 21 4 = nI k ↔ tt9 n A p = k := by
  have := (tk_le (A := A) hp).1
  rw [h.2.1]
  show nI (tt9 n A p) = nI k ↔ _
  rw [neq (by omega) (by omega)]
theorem CT.t0 {I : Nat → Nat → Int32} {p : Nat} (h : CT n A I p) (hp : p ≤ n) : I 21 4 = 0 ↔ tt9 n A p = 0 := h.t hp 0 (by omega)
theorem CT.t1 {I : Nat → Nat → Int32} {p : Nat} (h : CT n A I p) (hp : p ≤ n) : I 21 4 = 1 ↔ tt9 n A p = 1 := h.t hp 1 (by omega)
theorem CT.t2 {I : Nat → Nat → Int32} {p : Nat} (h : CT n A I p) (hp : p ≤ n) : I 21 4 = 2 ↔ tt9 n A p = 2 := h.t hp 2 (by omega)
theorem CT.t3 {I : Nat → Nat → Int32} {p : Nat} (h : CT n A I p) (hp : p ≤ n) : I 21 4 = 3 ↔ tt9 n A p = 3 := h.t hp 3 (by omega)
theorem c_faulty {p : Nat} (h3 : I 21 3 = nI p) (k : Int32) : ∃ I', zcall X (d + 1) 101 [.inr (.inr (some (.inl 7, 21))), .inl k] (L, zB1, I, J) = some (some (.inl (0)), (L, zB1, I', J)) ∧ CF I' (k, p) ∧ FW I I' := by
  refine ⟨_, eX7_faulty X d L I J k, ⟨?_, ?_⟩, ((FW.rf I).up (by omega)).up (by omega)⟩
  · rw [zup_f _ _ (by omega), zup_e]
  · rw [zup_e, zup_f _ _ (by omega)]; exact h3
theorem c_seesLetter {p : Nat} (h : CT n A I p) (hp : p ≤ n) (a : Int32) : zcall X (d + 1) 100 [.inr (.inr (some (.inl 7, 21))), .inl a] (L, zB1, I, J) = some (some (.inl (b2i (sL n A a p))), (L, zB1, I, J)) := by
  rw [eX7_seesLetter]
  unfold sL
  by_cases q1 : tt9 n A p = 1
  · have e5 : I 21 5 = tv9 n A p := h.2.2.1 (by show tt9 n A p ≠ 4; omega) (by show tt9 n A p ≠ 0; omega)
    rw [if_pos ((h.t1 hp).2 q1), e5]
    by_cases q2 : tv9 n A p = a
    · rw [if_pos q2, decide_eq_true ⟨q1, q2⟩]; rfl
    · rw [if_neg q2, decide_eq_false (fun q => q2 q.2)]; rfl
  · rw [if_neg (fun q => q1 ((h.t1 hp).1 q)), decide_eq_false (fun q => q1 q.1)]; rfl
theorem c_seesNumber {p : Nat} (h : CT n A I p) (hp : p ≤ n) (lo hi : Int32) : (∀ q, rN n A lo.toInt hi.toInt p = .inr q → zcall X (d + 2) 98 [.inr (.inr (some (.inl 7, 21))), .inl lo, .inl hi] (L, zB1, I, J) = some (some (.inl (1)), (L, zB1, I, J)) ∧ I 21 5 = tv9 n A p ∧ I 21 6 = nI q) ∧ (∀ e, rN n A lo.toInt hi.toInt p = .inl e → ∃ I', zcall X (d + 2) 98 [.inr (.inr (some (.inl 7, 21))), .inl lo, .inl hi] (L, zB1, I, J) = some (some (.inl (0)), (L, zB1, I', J)) ∧ CF I' e ∧ FW I I') := by
  refine ⟨fun q hq => ?_, fun e he => ?_⟩
  · obtain ⟨w1, w2, w3, w4⟩ := rN_le hp hq
    have e5 : I 21 5 = tv9 n A p := h.2.2.1 (by show tt9 n A p ≠ 4; omega) (by show tt9 n A p ≠ 0; omega)
    refine ⟨?_, e5, by rw [w4]; exact h.2.2.2 (by show tt9 n A p ≠ 4; omega)⟩
    rw [eX7_seesNumber, if_pos ((h.t2 hp).2 w2), e5, c_isWithin, cI_some, bX7_seesNumber_23, w3, if1]
  · rw [eX7_seesNumber]
    unfold rN at he
    by_cases h1 : tt9 n A p = 2
    · have e5 : I 21 5 = tv9 n A p := h.2.2.1 (by show tt9 n A p ≠ 4; omega) (by show tt9 n A p ≠ 0; omega)
      rw [if_pos h1] at he
      by_cases h2 : wi (tv9 n A p) lo.toInt hi.toInt = true
      · rw [if_pos h2] at he; cases he
      · rw [if_neg h2] at he
        injection he with he
        obtain ⟨I1, e1, g1, f1⟩ := c_faulty (X := X) (d := d) (L := L) (J := J) h.1 2
        refine ⟨I1, ?_, by rw [← he]; exact g1, f1⟩
        rw [if_pos ((h.t2 hp).2 h1), e5, c_isWithin, cI_some, bX7_seesNumber_23, Bool.eq_false_iff.2 h2, if0, e1, cI_some, bX7_seesNumber_31, if_pos rfl]
    · rw [if_neg h1] at he
      injection he with he
      obtain ⟨I1, e1, g1, f1⟩ := c_faulty (X := X) (d := d) (L := L) (J := J) h.1 1
      refine ⟨I1, ?_, by rw [← he]; exact g1, f1⟩
      rw [if_neg (fun q => h1 ((h.t2 hp).1 q)), e1, cI_some, bX7_seesNumber_13]
      exact zret_b false _
theorem c_passesSign (hb : CB n A I) (hn : n ≤ 120) (hA : ∀ k, k < n → rg (A k) 0 255) {p : Nat} (h : CT n A I p) (hp : p ≤ n) (a : Int32) : (∀ q, rS n A a p = .inr q → ∃ I', zcall X (d + 4) 99 [.inr (.inr (some (.inl 7, 21))), .inl a] (L, zB1, I, J) = some (some (.inl (1)), (L, zB1, I', J)) ∧ CT n A I' q ∧ FT I I') ∧ (∀ e, rS n A a p = .inl e → ∃ I', zcall X (d + 4) 99 [.inr (.inr (some (.inl 7, 21))), .inl a] (L, zB1, I, J) = some (some (.inl (0)), (L, zB1, I', J)) ∧ CF I' e ∧ FW I I') := by
  rw [eX7_passesSign]
  unfold rS
  by_cases h1 : tt9 n A p = 3
  · have e5 : I 21 5 = tv9 n A p := h.2.2.1 (by show tt9 n A p ≠ 4; omega) (by show tt9 n A p ≠ 0; omega)
    rw [if_pos ((h.t3 hp).2 h1), e5]
    by_cases h2 : tv9 n A p = a
    · rw [if_pos h2, if_pos ⟨h1, h2⟩]
      refine ⟨fun q hq => ?_, (fun e he => by cases he)⟩
      injection hq with hq
      obtain ⟨I1, e1, g1, f1⟩ := c_next (X := X) (d := d) (L := L) (J := J) hb hn hA (show q ≤ n by rw [← hq]; exact (tk_le hp).2) (by rw [← hq]; exact h.2.2.2 (by show tt9 n A p ≠ 4; omega))
      exact ⟨I1, by rw [e1, cV_some, bX7_passesSign_26], g1, f1⟩
    · rw [if_neg h2, if_neg (fun q => h2 q.2)]
      refine ⟨(fun q hq => by cases hq), fun e he => ?_⟩
      injection he with he
      obtain ⟨I1, e1, g1, f1⟩ := c_faulty (X := X) (d := d + 2) (L := L) (J := J) h.1 1
      refine ⟨I1, ?_, by rw [← he]; exact g1, f1⟩
      rw [e1, cI_some, bX7_passesSign_21]
      exact zret_b false _
  · rw [if_neg (fun q => h1 ((h.t3 hp).1 q)), if_neg (fun q => h1 q.1)]
    refine ⟨(fun q hq => by cases hq), fun e he => ?_⟩
    injection he with he
    obtain ⟨I1, e1, g1, f1⟩ := c_faulty (X := X) (d := d + 2) (L := L) (J := J) h.1 1
    refine ⟨I1, ?_, by rw [← he]; exact g1, f1⟩
    rw [e1, cI_some, bX7_passesSign_21]
    exact zret_b false _
end PARC
