/-! the text: its tokens -/
theorem zup_e {α : Type} (M : Nat → Nat → α) (a i : Nat) (v : α) : zup M a i v a i = v := by rw [zup_at, if_pos ⟨rfl, rfl⟩]
theorem zup_f {α : Type} (M : Nat → Nat → α) {a i j : Nat} (v : α) (h : j ≠ i) : zup M a i v a j = M a j := by rw [zup_at, if_neg (fun q => h q.2)]
def fig (x9 : Int32) : Bool := wi x9 48 57
def bA (n : Nat) (A : Nat → Int32) (p : Nat) : Int32 := if p < n then A p else -1
def tk (n : Nat) (A : Nat → Int32) (p : Nat) : Nat × Int32 × Nat :=
  if p < n then (if fig (A p) = true then (if fig (bA n A (p + 1)) = true then (if fig (bA n A (p + 2)) = true then (4, 0, p) else (2, (10 * (A p - 48) + A (p + 1)) - 48, p + 2)) else (2, A p - 48, p + 1)) else if wi (A p) 97 122 = true then (1, A p, p + 1) else if A p = 44 ∨ A p = 59 then (3, A p, p + 1) else (4, 0, p)) else (0, -1, p)
def CT (n : Nat) (A : Nat → Int32) (I : Nat → Nat → Int32) (p : Nat) : Prop := I 21 3 = nI p ∧ I 21 4 = nI (tk n A p).1 ∧ ((tk n A p).1 ≠ 4 → (tk n A p).1 ≠ 0 → I 21 5 = (tk n A p).2.1) ∧ ((tk n A p).1 ≠ 4 → I 21 6 = nI (tk n A p).2.2)
/-- the text is on the class's tape -/
def CB (n : Nat) (A : Nat → Int32) (I : Nat → Nat → Int32) : Prop := I 21 2 = nI n ∧ ∀ k, k < n → I 22 k = A k
def FT (I I' : Nat → Nat → Int32) : Prop := ∀ a i, ¬ (a = 21 ∧ 3 ≤ i ∧ i ≤ 6) → I' a i = I a i
theorem FT.rf (I : Nat → Nat → Int32) : FT I I := fun _ _ _ => rfl
theorem FT.tr {I I1 I2 : Nat → Nat → Int32} (h : FT I I1) (h2 : FT I1 I2) : FT I I2 := fun a i k => (h2 a i k).trans (h a i k)
theorem FT.up {I I1 : Nat → Nat → Int32} (h : FT I I1) {i : Nat} {v : Int32} (hi : 3 ≤ i ∧ i ≤ 6) : FT I (zup I1 21 i v) := fun a i' k => by
  rw [zup_at, if_neg (by omega)]; exact h a i' k
theorem FT.CB {I I' : Nat → Nat → Int32} (h : FT I I') {n : Nat} {A : Nat → Int32} (hb : CB n A I) : CB n A I' := by
  refine ⟨?_, fun k hk => ?_⟩
  · rw [h 21 2 (by omega)]; exact hb.1
  · rw [h 22 k (by omega)]; exact hb.2 k hk
theorem fig_iff {x9 : Int32} : fig x9 = true ↔ 48 ≤ x9.toInt ∧ x9.toInt ≤ 57 := wi_iff
theorem fig_m1 : fig (-1) = false := rfl
theorem bA_lt {n : Nat} {A : Nat → Int32} {p : Nat} (h : fig (bA n A p) = true) : p < n ∧ bA n A p = A p := by
  unfold bA at h ⊢
  by_cases q : p < n
  · rw [if_pos q]; exact ⟨q, rfl⟩
  · rw [if_neg q, fig_m1] at h; cases h
section LEX
variable {X : Nat → Nat → Int32} {d : Nat} {L : List zK} {I : Nat → Nat → Int32} {J : Nat → Nat → Int64} {n : Nat} {A : Nat → Int32}
theorem c_byteAt (hb : CB n A I) (hn : n ≤ 120) {p : Nat} (hp : p < 2 ^ 31) : zcall X (d + 1) 102 [.inr (.inr (some (.inl 7, 21))), .inl (nI p)] (L, zB1, I, J) = some (some (.inl (bA n A p)), (L, zB1, I, J)) := by
  rw [eX7_byteAt, if_neg (by show ¬ nI p < nI 0; rw [nlt (by omega) (by omega)]; omega), hb.1]
  unfold bA
  by_cases q : p < n
  · rw [if_neg (by rw [nle (by omega) (by omega)]; omega), if_neg (by show ¬ nI 120 ≤ nI p; rw [nle (by omega) (by omega)]; omega), zin_nI (show p < 120 by omega) (by omega), zbt_t, ncl (by omega), hb.2 p q, if_pos q]
  · rw [if_pos (by rw [nle (by omega) (by omega)]; omega), if_neg q]
theorem c_isFigure (x9 : Int32) : zcall X (d + 1) 105 [.inl x9] (L, zB1, I, J) = some (some (.inl (b2i (fig x9))), (L, zB1, I, J)) := by
  rw [eX7_isFigure]
  by_cases h1 : x9 < 48
  · rw [if_pos h1, show fig x9 = false from by
      cases q : fig x9 with
      | false => rfl
      | true => rw [fig_iff] at q; rw [i32_lt, show (48 : Int32).toInt = 48 from rfl] at h1; omega]; rfl
  · rw [if_neg h1]
    by_cases h2 : 57 < x9
    · rw [if_pos h2, show fig x9 = false from by
        cases q : fig x9 with
        | false => rfl
        | true => rw [fig_iff] at q; rw [i32_lt, show (57 : Int32).toInt = 57 from rfl] at h2; omega]; rfl
    · rw [if_neg h2, fig_iff.2 (by rw [i32_lt, show (48 : Int32).toInt = 48 from rfl] at h1; rw [i32_lt, show (57 : Int32).toInt = 57 from rfl] at h2; omega)]; rfl
theorem c_look15 (hb : CB n A I) (hn : n ≤ 120) {v q : Nat} (hv : v < 3) (hq : q < 2 ^ 30) (h6 : I 21 6 = nI q) : zgo X (zcall X (d+1)) none kX7_lookAtNumber 15 [some (.inr (.inr (some (.inl 7, 21)))), some (.inl (nI v))] [] (L, zB1, I, J) = if fig (bA n A q) = true then zgo X (zcall X (d+1)) none kX7_lookAtNumber 15 [some (.inr (.inr (some (.inl 7, 21)))), some (.inl (nI (v + 1)))] [] (L, zB1, (zup (zup I 21 5 ((10 * I 21 5 + bA n A q) - 48)) 21 6 (nI (q + 1))), J) else zgo X (zcall X (d+1)) none kX7_lookAtNumber 73 [some (.inr (.inr (some (.inl 7, 21)))), some (.inl (nI v))] [] (L, zB1, I, J) := by
  rw [bX7_lookAtNumber_15, if_neg (by show ¬ nI 3 ≤ nI v; rw [nle (by omega) (by omega)]; omega), h6, c_byteAt hb hn (by omega), cI_some, bX7_lookAtNumber_28, c_isFigure, cI_some, bX7_lookAtNumber_31, h6, c_byteAt hb hn (by omega), cI_some, bX7_lookAtNumber_50, zup_f _ _ (by omega), h6, nI_1, nI_1]
  cases fig (bA n A q) with
  | false => rw [if0, if_neg (by decide)]
  | true => rw [if1, if_pos rfl]
theorem c_look73 {p q v : Nat} (h3 : I 21 3 = nI p) (h6 : I 21 6 = nI q) (hp : p ≤ q) (hq : q < 2 ^ 30) : zgo X (zcall X (d)) none kX7_lookAtNumber 73 [some (.inr (.inr (some (.inl 7, 21)))), some (.inl (nI v))] [] (L, zB1, I, J) = if 2 < q - p then some (none, (L, zB1, (zup I 21 4 4), J)) else some (none, (L, zB1, (zup I 21 4 2), J)) := by
  have e : (nI q - nI p).toInt = ((q - p : Nat) : Int) := by
    rw [Jvm.Kit.i32_sub (by rw [nI_int (by omega), nI_int (by omega)]; omega) (by rw [nI_int (by omega), nI_int (by omega)]; omega), nI_int (by omega), nI_int (by omega)]
    omega
  rw [bX7_lookAtNumber_73, h3, h6]
  by_cases w : 2 < q - p
  · rw [if_pos w, if_pos (by rw [i32_lt, e, i2]; omega)]
  · rw [if_neg w, if_neg (by rw [i32_lt, e, i2]; omega)]
theorem c_lookN (hb : CB n A I) (hn : n ≤ 120) {p : Nat} (hp : p < n) (h3 : I 21 3 = nI p) (hf : fig (A p) = true) : ∃ I', zcall X (d + 2) 104 [.inr (.inr (some (.inl 7, 21)))] (L, zB1, I, J) = some (none, (L, zB1, I', J)) ∧ CT n A I' p ∧ FT I I' := by
  have eb : bA n A p = A p := if_pos hp
  have f0 : FT I (zup (zup I 21 5 0) 21 6 (nI p)) := ((FT.rf I).up (by omega)).up (by omega)
  have e1 := c_look15 (X := X) (d := d) (L := L) (J := J) (v := 0) (f0.CB hb) hn (by omega) (show p < 2 ^ 30 by omega) (zup_e _ _ _ _)
  rw [eb, if_pos hf, zup_f (j := 5) _ _ (by omega), zup_e, Int32.mul_zero, Int32.zero_add] at e1
  have f1 : FT I (zup (zup (zup (zup I 21 5 0) 21 6 (nI p)) 21 5 (A p - 48)) 21 6 (nI (p + 1))) := (f0.up (by omega)).up (by omega)
  have g1 : zup (zup (zup (zup I 21 5 0) 21 6 (nI p)) 21 5 (A p - 48)) 21 6 (nI (p + 1)) 21 5 = A p - 48 := by rw [zup_f _ _ (by omega), zup_e]
  have g13 : zup (zup (zup (zup I 21 5 0) 21 6 (nI p)) 21 5 (A p - 48)) 21 6 (nI (p + 1)) 21 3 = nI p := by rw [zup_f _ _ (by omega), zup_f _ _ (by omega), zup_f _ _ (by omega), zup_f _ _ (by omega)]; exact h3
  have g16 : zup (zup (zup (zup I 21 5 0) 21 6 (nI p)) 21 5 (A p - 48)) 21 6 (nI (p + 1)) 21 6 = nI (p + 1) := zup_e _ _ _ _
  generalize zup (zup (zup (zup I 21 5 0) 21 6 (nI p)) 21 5 (A p - 48)) 21 6 (nI (p + 1)) = I1 at e1 f1 g1 g13 g16
  have e2 := c_look15 (X := X) (d := d) (L := L) (J := J) (v := 1) (f1.CB hb) hn (by omega) (show p + 1 < 2 ^ 30 by omega) g16
  have head : zcall X (d + 2) 104 [.inr (.inr (some (.inl 7, 21)))] (L, zB1, I, J) = zgo X (zcall X (d+1)) none kX7_lookAtNumber 15 [some (.inr (.inr (some (.inl 7, 21)))), some (.inl (nI (0 + 1)))] [] (L, zB1, I1, J) := by
    rw [eX7_lookAtNumber, zup_f _ _ (by omega), h3]
    exact e1
  have fin : ∀ (I2 : Nat → Nat → Int32) (t : Nat) (v : Int32) (q : Nat), tk n A p = (t, v, q) → I2 21 3 = nI p → I2 21 4 = nI t → (t ≠ 4 → t ≠ 0 → I2 21 5 = v) → (t ≠ 4 → I2 21 6 = nI q) → CT n A I2 p := by
    intro I2 t v q e h1 h2 h3 h4
    unfold CT
    rw [e]
    exact ⟨h1, h2, h3, h4⟩
  by_cases w1 : fig (bA n A (p + 1)) = true
  · obtain ⟨w1a, w1b⟩ := bA_lt w1
    rw [if_pos w1, g1, w1b] at e2
    have f2 : FT I (zup (zup I1 21 5 ((10 * (A p - 48) + A (p + 1)) - 48)) 21 6 (nI (p + 1 + 1))) := (f1.up (by omega)).up (by omega)
    have g2 : zup (zup I1 21 5 ((10 * (A p - 48) + A (p + 1)) - 48)) 21 6 (nI (p + 1 + 1)) 21 5 = (10 * (A p - 48) + A (p + 1)) - 48 := by rw [zup_f _ _ (by omega), zup_e]
    have g23 : zup (zup I1 21 5 ((10 * (A p - 48) + A (p + 1)) - 48)) 21 6 (nI (p + 1 + 1)) 21 3 = nI p := by rw [zup_f _ _ (by omega), zup_f _ _ (by omega)]; exact g13
    have g26 : zup (zup I1 21 5 ((10 * (A p - 48) + A (p + 1)) - 48)) 21 6 (nI (p + 1 + 1)) 21 6 = nI (p + 2) := zup_e _ _ _ _
    generalize zup (zup I1 21 5 ((10 * (A p - 48) + A (p + 1)) - 48)) 21 6 (nI (p + 1 + 1)) = I2 at e2 f2 g2 g23 g26
    have e3 := c_look15 (X := X) (d := d) (L := L) (J := J) (v := 2) (f2.CB hb) hn (by omega) (show p + 2 < 2 ^ 30 by omega) g26
    by_cases w2 : fig (bA n A (p + 2)) = true
    · rw [if_pos w2] at e3
      have f3 : FT I (zup (zup I2 21 5 ((10 * I2 21 5 + bA n A (p + 2)) - 48)) 21 6 (nI (p + 2 + 1))) := (f2.up (by omega)).up (by omega)
      have g33 : zup (zup I2 21 5 ((10 * I2 21 5 + bA n A (p + 2)) - 48)) 21 6 (nI (p + 2 + 1)) 21 3 = nI p := by rw [zup_f _ _ (by omega), zup_f _ _ (by omega)]; exact g23
      have g36 : zup (zup I2 21 5 ((10 * I2 21 5 + bA n A (p + 2)) - 48)) 21 6 (nI (p + 2 + 1)) 21 6 = nI (p + 3) := zup_e _ _ _ _
      generalize zup (zup I2 21 5 ((10 * I2 21 5 + bA n A (p + 2)) - 48)) 21 6 (nI (p + 2 + 1)) = I3 at e3 f3 g33 g36
      refine ⟨zup I3 21 4 4, ?_, fin _ 4 0 p (by unfold tk; rw [if_pos hp, if_pos hf, if_pos w1, if_pos w2]) (by rw [zup_f _ _ (by omega)]; exact g33) (zup_e _ _ _ _) (fun q => absurd rfl q) (fun q => absurd rfl q), f3.up (by omega)⟩
      rw [head, e2, e3, bX7_lookAtNumber_15, if_pos (by decide), c_look73 g33 g36 (by omega) (by omega), if_pos (by omega)]
    · rw [if_neg w2] at e3
      refine ⟨zup I2 21 4 2, ?_, fin _ 2 _ (p + 2) (by unfold tk; rw [if_pos hp, if_pos hf, if_pos w1, if_neg w2]) (by rw [zup_f _ _ (by omega)]; exact g23) (zup_e _ _ _ _) (fun _ _ => by rw [zup_f _ _ (by omega)]; exact g2) (fun _ => by rw [zup_f _ _ (by omega)]; exact g26), f2.up (by omega)⟩
      rw [head, e2, e3, c_look73 g23 g26 (by omega) (by omega), if_neg (by omega)]
  · rw [if_neg w1] at e2
    refine ⟨zup I1 21 4 2, ?_, fin _ 2 _ (p + 1) (by unfold tk; rw [if_pos hp, if_pos hf, if_neg w1]) (by rw [zup_f _ _ (by omega)]; exact g13) (zup_e _ _ _ _) (fun _ _ => by rw [zup_f _ _ (by omega)]; exact g1) (fun _ => by rw [zup_f _ _ (by omega)]; exact g16), f1.up (by omega)⟩
    rw [head, e2, c_look73 g13 g16 (by omega) (by omega), if_neg (by omega)]
end LEX
