/-! ask: the trace of what runs -/
def TR (r q f : Nat) (I : Nat → Nat → Int32) (n : Nat) (I' : Nat → Nat → Int32) (l : List Int32) : Prop := I' q f = nI (n + l.length) ∧ (∀ k, k < n → I' r k = I r k) ∧ (∀ k, k < l.length → I' r (n + k) = l.getD k 0) ∧ (∀ a i, a ≠ r → ¬ (a = q ∧ i = f) → I' a i = I a i)
theorem TR.one {r q f : Nat} (hq : q ≠ r) (I : Nat → Nat → Int32) (n : Nat) (v : Int32) : TR r q f I n (zup (zup I r n v) q f (nI (n + 1))) [v] := by
  refine ⟨?_, ?_, ?_, ?_⟩
  · rw [zup_at, if_pos ⟨rfl, rfl⟩]; rfl
  · intro k hk
    rw [zup_ne (by omega), zup_at, if_neg (by omega)]
  · intro k hk
    have : k = 0 := by
      have : k < 1 := hk
      omega
    rw [this, zup_ne (by omega), zup_at, if_pos ⟨rfl, rfl⟩]; rfl
  · intro a i h1 h2
    rw [zup_at, if_neg h2, zup_ne h1]
theorem TR.tr {r q f : Nat} {I I1 I2 : Nat → Nat → Int32} {n m : Nat} {l l2 : List Int32} (h : TR r q f I n I1 l) (h2 : TR r q f I1 m I2 l2) (hm : m = n + l.length) : TR r q f I n I2 (l ++ l2) := by
  subst hm
  obtain ⟨a1, a2, a3, a4⟩ := h
  obtain ⟨b1, b2, b3, b4⟩ := h2
  refine ⟨?_, ?_, ?_, ?_⟩
  · rw [b1, List.length_append, Nat.add_assoc]
  · intro k hk
    rw [b2 k (by omega), a2 k hk]
  · intro k hk
    rw [List.length_append] at hk
    by_cases q : k < l.length
    · rw [b2 _ (by omega), a3 k q]
      rw [List.getD_eq_getElem?_getD, List.getD_eq_getElem?_getD, List.getElem?_append_left q]
    · have e : n + k = n + l.length + (k - l.length) := by omega
      rw [e, b3 (k - l.length) (by omega)]
      rw [List.getD_eq_getElem?_getD, List.getD_eq_getElem?_getD, List.getElem?_append_right (by omega)]
  · intro a i h1 h2
    rw [b4 a i h1 h2, a4 a i h1 h2]
def aMark (k : Int32) : List Int32 := if k = 1 then [21, 20] else if k = 2 then [24, 21, 20] else if k = 3 then [22, 21, 20] else if k = 4 then [23, 20, 13, 10] else [23, 20, 14, 13, 10]
def aSize (k : Int32) : List Int32 := if k = 1 then [11, 10, 21, 20] else if k = 2 then [12, 11, 10, 24, 21, 20] else if k = 3 then [11, 10, 22, 21, 20] else if k = 4 then [13, 10] else [14, 13, 10]
def wSize (k lf : Int32) : Int32 := if k = 4 then lf - 100 else 2 * (lf - 100)
def vMark (k num lf tr : Int32) : Int32 := if k = 1 then num + tr else if k = 2 then 2 * (num + tr) else if k = 3 then (num + tr) - 1000 else num - wSize k lf
def vSize (k num lf tr : Int32) : Int32 := if k = 1 then lf + vMark k num lf tr else if k = 2 then - (lf + vMark k num lf tr) else if k = 3 then lf + vMark k num lf tr else wSize k lf
/-- what one call of the asking does -/
def AO (X : Nat → Nat → Int32) (L : List zK) (J : Nat → Nat → Int64) (D y : Nat) (args : List zV) (k num lf tr val : Int32) (l : List Int32) : Prop := ∀ d I n, I 264 3 = k → I 264 2 = num → I 264 4 = lf → I 264 5 = tr → I 264 1 = nI n → n + l.length ≤ 16 → ∃ I', zcall X (d + D) y (.inr (.inr (some (.inl 0, 264))) :: args) (L, zB1, I, J) = some (some (.inl val), (L, zB1, I', J)) ∧ TR 265 264 1 I n I' l
section ASK
variable {X : Nat → Nat → Int32} {L : List zK} {J : Nat → Nat → Int64} {d : Nat} {I : Nat → Nat → Int32} {k num lf tr : Int32}
theorem c_leave {n : Nat} (h : I 264 1 = nI n) (hn : n < 16) (a : Int32) : zcall X (d + 1) 10 [.inr (.inr (some (.inl 0, 264))), .inl a] (L, zB1, I, J) = some (none, (L, zB1, (zup (zup I 265 n a) 264 1 (nI (n + 1))), J)) := by
  rw [eX0_leave, h, if_neg (by rw [i32_lt, nI_int (by omega), i0]; omega), if_neg (by show ¬ nI 16 ≤ nI n; rw [nle (by omega) (by omega)]; omega), zin_nI hn (by omega), zbt_t, ncl (by omega), zup_ne (by omega), h, nI_1]
/-- a body: it leaves its mark, then goes on -/
theorem ao_run {w D : Nat} {code val : Int32} {l : List Int32} (hw : w ≤ 16) (h : ∀ d I n, I 264 3 = k → I 264 2 = num → I 264 4 = lf → I 264 5 = tr → I 264 1 = nI n → n + l.length ≤ 16 → ∃ I', zgo X (zcall X ((d+D+1))) (some .int) kX0_run 13 [some (.inr (.inr (some (.inl 0, 264)))), some (.inl (code)), some (.inl (nI w))] [] (L, zB1, I, J) = some (some (.inl val), (L, zB1, I', J)) ∧ TR 265 264 1 I n I' l) : AO X L J (D + 2) 9 [.inl code, .inl (nI w)] k num lf tr val (code :: l) := by
  intro d I n h1 h2 h3 h4 h5 h6
  have hl : (code :: l).length = l.length + 1 := rfl
  have t1 := TR.one (r := 265) (q := 264) (f := 1) (by omega) I n code
  obtain ⟨I2, e2, t2⟩ := h d (zup (zup I 265 n code) 264 1 (nI (n + 1))) (n + 1) (by rw [t1.2.2.2 264 3 (by omega) (by omega)]; exact h1) (by rw [t1.2.2.2 264 2 (by omega) (by omega)]; exact h2) (by rw [t1.2.2.2 264 4 (by omega) (by omega)]; exact h3) (by rw [t1.2.2.2 264 5 (by omega) (by omega)]; exact h4) t1.1 (by omega)
  refine ⟨I2, ?_, t1.tr t2 rfl⟩
  show zcall X (d + D + 1 + 1) 9 _ _ = _
  rw [eX0_run, if_pos (by show nI w ≤ nI 16; rw [nle (by omega) (by omega)]; exact hw), c_leave h5 (by omega), cV_some, e2]
theorem AO.use {D y : Nat} {args : List zV} {val : Int32} {l : List Int32} (h : AO X L J D y args k num lf tr val l) {n m : Nat} {I0 I1 : Nat → Nat → Int32} {l0 : List Int32} (t : TR 265 264 1 I0 n I1 l0) (h1 : I0 264 3 = k) (h2 : I0 264 2 = num) (h3 : I0 264 4 = lf) (h4 : I0 264 5 = tr) (hm : m = n + l0.length) (h6 : m + l.length ≤ 16) (d : Nat) : ∃ I', zcall X (d + D) y (.inr (.inr (some (.inl 0, 264))) :: args) (L, zB1, I1, J) = some (some (.inl val), (L, zB1, I', J)) ∧ TR 265 264 1 I0 n I' (l0 ++ l) := by
  subst hm
  obtain ⟨I2, e, t2⟩ := h d I1 (n + l0.length) (by rw [t.2.2.2 264 3 (by omega) (by omega)]; exact h1) (by rw [t.2.2.2 264 2 (by omega) (by omega)]; exact h2) (by rw [t.2.2.2 264 4 (by omega) (by omega)]; exact h3) (by rw [t.2.2.2 264 5 (by omega) (by omega)]; exact h4) t.1 h6
  exact ⟨I2, e, t.tr t2 rfl⟩
theorem ao10 {w : Nat} (hw : w ≤ 16) : AO X L J 2 9 [.inl 10, .inl (nI w)] k num lf tr lf [10] := by
  refine ao_run (D := 0) hw fun d I n h1 h2 h3 h4 h5 h6 => ⟨I, ?_, h5, fun _ _ => rfl, fun _ hk => absurd hk (Nat.not_lt_zero _), fun _ _ _ _ => rfl⟩
  rw [bX0_run_13]
  simp only [iteT]
  rw [h3]
end ASK
