/-! ask: the trace of what runs -/
def TR (r q f : Nat) (I : Nat → Nat → Int32) (n : Nat) (I' : Nat → Nat → Int32) (l : List Int32) : Prop := I' q f = nI (n + l.length) ∧ (∀ k, k < n → I' r k = I r k) ∧ (∀ k, k < l.length → I' r (n + k) = l.getD k 0) ∧ (∀ a i, a ≠ r → ¬ (a = q ∧ i = f) → I' a i = I a i)
theorem TR.one {r q f : Nat} (hq : q ≠ r) (I : Nat → Nat → Int32) (n : Nat) (v : Int32) : TR r q f I n (zup (zup I r n v) q f (nI (n + 1))) [v] := by
  refine ⟨?_, ?_, ?_, ?_⟩
  · rw [zup_at, if_pos ⟨rfl, rfl⟩]; rfl
  · intro k hk
    rw [zup_ne (by omega), zup_at, if_neg (by omega)]
  · intro k hk
    have : k = 0 := by
      have : k < 1 := hk
      omega
    rw [this, zup_ne (by omega), zup_at, if_pos ⟨rfl, rfl⟩]; rfl
  · intro a i h1 h2
    rw [zup_at, if_neg h2, zup_ne h1]
theorem TR.tr {r q f : Nat} {I I1 I2 : Nat → Nat → Int32} {n m : Nat} {l l2 : List Int32} (h : TR r q f I n I1 l) (h2 : TR r q f I1 m I2 l2) (hm : m = n + l.length) : TR r q f I n I2 (l ++ l2) := by
  subst hm
  obtain ⟨a1, a2, a3, a4⟩ := h
  obtain ⟨b1, b2, b3, b4⟩ := h2
  refine ⟨?_, ?_, ?_, ?_⟩
  · rw [b1, List.length_append, Nat.add_assoc]
  · intro k hk
    rw [b2 k (by omega), a2 k hk]
  · intro k hk
    rw [List.length_append] at hk
    by_cases q : k < l.length
    · rw [b2 _ (by omega), a3 k q]
      rw [List.getD_eq_getElem?_getD, List.getD_eq_getElem?_getD, List.getElem?_append_left q]
    · have e : n + k = n + l.length + (k - l.length) := by omega
      rw [e, b3 (k - l.length) (by omega)]
      rw [List.getD_eq_getElem?_getD, List.getD_eq_getElem?_getD, List.getElem?_append_right (by omega)]
  · intro a i h1 h2
    rw [b4 a i h1 h2, a4 a i h1 h2]
def aMark (k : Int32) : List Int32 := if k = 1 then [21, 20] else if k = 2 then [24, 21, 20] else if k = 3 then [22, 21, 20] else if k = 4 then [23, 20, 13, 10] else [23, 20, 14, 13, 10]
def aSize (k : Int32) : List Int32 := if k = 1 then [11, 10, 21, 20] else if k = 2 then [12, 11, 10, 24, 21, 20] else if k = 3 then [11, 10, 22, 21, 20] else if k = 4 then [13, 10] else [14, 13, 10]
def wSize (k lf : Int32) : Int32 := if k = 4 then lf - 100 else 2 * (lf - 100)
def vMark (k num lf tr : Int32) : Int32 := if k = 1 then num + tr else if k = 2 then 2 * (num + tr) else if k = 3 then (num + tr) - 1000 else num - wSize k lf
def vSize (k num lf tr : Int32) : Int32 := if k = 1 then lf + vMark k num lf tr else if k = 2 then - (lf + vMark k num lf tr) else if k = 3 then lf + vMark k num lf tr else wSize k lf
/-- what one call of the asking does -/
def AO (X : Nat → Nat → Int32) (L : List zK) (J : Nat → Nat → Int64) (D y : Nat) (args : List zV) (k num lf tr val : Int32) (l : List Int32) : Prop := ∀ d I n, I 264 3 = k → I 264 2 = num → I 264 4 = lf → I 264 5 = tr → I 264 1 = nI n → n + l.length ≤ 16 → ∃ I', zcall X (d + D) y (.inr (.inr (some (.inl 0, 264))) :: args) (L, zB1, I, J) = some (some (.inl val), (L, zB1, I', J)) ∧ TR 265 264 1 I n I' l
section ASK
variable {X : Nat → Nat → Int32} {L : List zK} {J : Nat → Nat → Int64} {d : Nat} {I : Nat → Nat → Int32} {k num lf tr : Int32}
theorem c_leave {n : Nat} (h : I 264 1 = nI n) (hn : n < 16) (a : Int32) : zcall X (d + 1) 10 [.inr (.inr (some (.inl 0, 264))), .inl a] (L, zB1, I, J) = some (none, (L, zB1, (zup (zup I 265 n a) 264 1 (nI (n + 1))), J)) := by
  rw [eX0_leave, h, if_neg (by rw [i32_lt, nI_int (by omega), i0]; omega), if_neg (by show ¬ nI 16 ≤ nI n; rw [nle (by omega) (by omega)]; omega), zin_nI hn (by omega), zbt_t, ncl (by omega), zup_ne (by omega), h, nI_1]
/-- a body: it leaves its mark, then goes on -/
theorem ao_run {w D : Nat} {code val : Int32} {l : List Int32} (hw : w ≤ 16) (h : ∀ d I n, I 264 3 = k → I 264 2 = num → I 264 4 = lf → I 264 5 = tr → I 264 1 = nI n → n + l.length ≤ 16 → ∃ I', zgo X (zcall X ((d+D+1))) (some .int) kX0_run 13 [some (.inr (.inr (some (.inl 0, 264)))), some (.inl (code)), some (.inl (nI w))] [] (L, zB1, I, J) = some (some (.inl val), (L, zB1, I', J)) ∧ TR 265 264 1 I n I' l) : AO X L J (D + 2) 9 [.inl code, .inl (nI w)] k num lf tr val (code :: l) := by
  intro d I n h1 h2 h3 h4 h5 h6
  have hl : (code :: l).length = l.length + 1 := rfl
  have t1 := TR.one (r := 265) (q := 264) (f := 1) (by omega) I n code
  obtain ⟨I2, e2, t2⟩ := h d (zup (zup I 265 n code) 264 1 (nI (n + 1))) (n + 1) (by rw [t1.2.2.2 264 3 (by omega) (by omega)]; exact h1) (by rw [t1.2.2.2 264 2 (by omega) (by omega)]; exact h2) (by rw [t1.2.2.2 264 4 (by omega) (by omega)]; exact h3) (by rw [t1.2.2.2 264 5 (by omega) (by omega)]; exact h4) t1.1 (by omega)
  refine ⟨I2, ?_, t1.tr t2 rfl⟩
  show zcall X (d + D + 1 + 1) 9 _ _ = _
  rw [eX0_run, if_pos (by show nI w ≤ nI 16; rw [nle (by omega) (by omega)]; exact hw), c_leave h5 (by omega), cV_some, e2]
theorem AO.use {D y : Nat} {args : List zV} {val : Int32} {l : List Int32} (h : AO X L J D y args k num lf tr val l) {n m : Nat} {I0 I1 : Nat → Nat → Int32} {l0 : List Int32} (t : TR 265 264 1 I0 n I1 l0) (h1 : I0 264 3 = k) (h2 : I0 264 2 = num) (h3 : I0 264 4 = lf) (h4 : I0 264 5 = tr) (hm : m = n + l0.length) (h6 : m + l.length ≤ 16) (d : Nat) : ∃ I', zcall X (d + D) y (.inr (.inr (some (.inl 0, 264))) :: args) (L, zB1, I1, J) = some (some (.inl val), (L, zB1, I', J)) ∧ TR 265 264 1 I0 n I' (l0 ++ l) := by
  subst hm
  obtain ⟨I2, e, t2⟩ := h d I1 (n + l0.length) (by rw [t.2.2.2 264 3 (by omega) (by omega)]; exact h1) (by rw [t.2.2.2 264 2 (by omega) (by omega)]; exact h2) (by rw [t.2.2.2 264 4 (by omega) (by omega)]; exact h3) (by rw [t.2.2.2 264 5 (by omega) (by omega)]; exact h4) t.1 h6
  exact ⟨I2, e, t.tr t2 rfl⟩
theorem ao10 {w : Nat} (hw : w ≤ 16) : AO X L J 2 9 [.inl 10, .inl (nI w)] k num lf tr lf [10] := by
  refine ao_run (D := 0) hw fun d I n h1 h2 h3 h4 h5 h6 => ⟨I, ?_, h5, fun _ _ => rfl, fun _ hk => absurd hk (Nat.not_lt_zero _), fun _ _ _ _ => rfl⟩
  rw [bX0_run_13, if_pos rfl, h3]
theorem ao20 {w : Nat} (hw : w ≤ 16) : AO X L J 2 9 [.inl 20, .inl (nI w)] k num lf tr num [20] := by
  refine ao_run (D := 0) hw fun d I n h1 h2 h3 h4 h5 h6 => ⟨I, ?_, h5, fun _ _ => rfl, fun _ hk => absurd hk (Nat.not_lt_zero _), fun _ _ _ _ => rfl⟩
  rw [bX0_run_13, if_neg (by decide), if_neg (by decide), if_neg (by decide), if_neg (by decide), if_neg (by decide), if_neg (by decide), if_neg (by decide), if_neg (by decide), if_neg (by decide), if_neg (by decide), if_pos rfl, h2]
theorem ao21 {w : Nat} (hw : w ≤ 15) : AO X L J 4 9 [.inl 21, .inl (nI w)] k num lf tr (num + tr) [21, 20] := by
  refine ao_run (D := 2) (by omega) fun d I n h1 h2 h3 h4 h5 h6 => ?_
  obtain ⟨I', e, t⟩ := ao20 (X := X) (L := L) (J := J) (w := w + 1) (by omega) (d + 1) I n h1 h2 h3 h4 h5 h6
  refine ⟨I', ?_, t⟩
  rw [bX0_run_13, if_neg (by decide), if_neg (by decide), if_neg (by decide), if_neg (by decide), if_neg (by decide), if_neg (by decide), if_neg (by decide), if_neg (by decide), if_neg (by decide), if_neg (by decide), if_neg (by decide), if_pos rfl, nI_1, show zcall X (d + 2 + 1) 9 _ _ = _ from e, cI_some, bX0_run_162, t.2.2.2 264 5 (by omega) (by omega), h4]
theorem ao22 {w : Nat} (hw : w ≤ 14) : AO X L J 6 9 [.inl 22, .inl (nI w)] k num lf tr ((num + tr) - 1000) [22, 21, 20] := by
  refine ao_run (D := 4) (by omega) fun d I n h1 h2 h3 h4 h5 h6 => ?_
  obtain ⟨I', e, t⟩ := ao21 (X := X) (L := L) (J := J) (w := w + 1) (by omega) (d + 1) I n h1 h2 h3 h4 h5 h6
  refine ⟨I', ?_, t⟩
  rw [bX0_run_13, if_neg (by decide), if_neg (by decide), if_neg (by decide), if_neg (by decide), if_neg (by decide), if_neg (by decide), if_neg (by decide), if_neg (by decide), if_neg (by decide), if_neg (by decide), if_neg (by decide), if_neg (by decide), if_pos rfl, nI_1, show zcall X (d + 4 + 1) 9 _ _ = _ from e, cI_some, bX0_run_177]
theorem ao24 {w : Nat} (hw : w ≤ 14) : AO X L J 6 9 [.inl 24, .inl (nI w)] k num lf tr (2 * (num + tr)) [24, 21, 20] := by
  refine ao_run (D := 4) (by omega) fun d I n h1 h2 h3 h4 h5 h6 => ?_
  obtain ⟨I', e, t⟩ := ao21 (X := X) (L := L) (J := J) (w := w + 1) (by omega) (d + 1) I n h1 h2 h3 h4 h5 h6
  refine ⟨I', ?_, t⟩
  rw [bX0_run_13, if_neg (by decide), if_neg (by decide), if_neg (by decide), if_neg (by decide), if_neg (by decide), if_neg (by decide), if_neg (by decide), if_neg (by decide), if_neg (by decide), if_neg (by decide), if_neg (by decide), if_neg (by decide), if_neg (by decide), if_neg (by decide), if_pos rfl, nI_1, show zcall X (d + 4 + 1) 9 _ _ = _ from e, cI_some, bX0_run_211]
theorem ao13 {w : Nat} (hw : w ≤ 15) : AO X L J 4 9 [.inl 13, .inl (nI w)] k num lf tr (lf - 100) [13, 10] := by
  refine ao_run (D := 2) (by omega) fun d I n h1 h2 h3 h4 h5 h6 => ?_
  obtain ⟨I', e, t⟩ := ao10 (X := X) (L := L) (J := J) (w := w + 1) (by omega) (d + 1) I n h1 h2 h3 h4 h5 h6
  refine ⟨I', ?_, t⟩
  rw [bX0_run_13, if_neg (by decide), if_neg (by decide), if_neg (by decide), if_pos rfl, nI_1, show zcall X (d + 2 + 1) 9 _ _ = _ from e, cI_some, bX0_run_132]
theorem ao14 {w : Nat} (hw : w ≤ 14) : AO X L J 6 9 [.inl 14, .inl (nI w)] k num lf tr (2 * (lf - 100)) [14, 13, 10] := by
  refine ao_run (D := 4) (by omega) fun d I n h1 h2 h3 h4 h5 h6 => ?_
  obtain ⟨I', e, t⟩ := ao13 (X := X) (L := L) (J := J) (w := w + 1) (by omega) (d + 1) I n h1 h2 h3 h4 h5 h6
  refine ⟨I', ?_, t⟩
  rw [bX0_run_13, if_neg (by decide), if_neg (by decide), if_neg (by decide), if_neg (by decide), if_pos rfl, nI_1, show zcall X (d + 4 + 1) 9 _ _ = _ from e, cI_some, bX0_run_146]
theorem AO.up {D y : Nat} {args : List zV} {val : Int32} {l : List Int32} (h : AO X L J D y args k num lf tr val l) {E : Nat} (hE : D ≤ E) : AO X L J E y args k num lf tr val l := by
  intro d I n h1 h2 h3 h4 h5 h6
  obtain ⟨I', e, t⟩ := h (d + (E - D)) I n h1 h2 h3 h4 h5 h6
  exact ⟨I', by rw [show d + E = d + (E - D) + D by omega]; exact e, t⟩
theorem ao_ans {what body : Int32} {w D : Nat} {val : Int32} {l : List Int32} (hw : w ≤ 16) (hb : ∀ d I, I 264 3 = k → zcall X (d + 1) 8 [.inr (.inr (some (.inl 0, 264))), .inl what] (L, zB1, I, J) = some (some (.inl (body)), (L, zB1, I, J))) (h : AO X L J (D + 1) 9 [.inl body, .inl (nI (w + 1))] k num lf tr val l) : AO X L J (D + 2) 7 [.inl what, .inl (nI w)] k num lf tr val l := by
  intro d I n h1 h2 h3 h4 h5 h6
  obtain ⟨I', e, t⟩ := h d I n h1 h2 h3 h4 h5 h6
  refine ⟨I', ?_, t⟩
  show zcall X (d + (D + 1) + 1) 7 _ _ = _
  rw [eX0_answer, if_pos (by show nI w ≤ nI 16; rw [nle (by omega) (by omega)]; exact hw), show zcall X (d + (D + 1)) 8 _ _ = _ from hb (d + D) I h1, cI_some, bX0_answer_16, nI_1, e, cI_some, bX0_answer_22]
def bdS (k : Int32) : Int32 := if k = 1 then 11 else if k = 2 then 12 else if k = 3 then 11 else if k = 4 then 13 else 14
def bdM (k : Int32) : Int32 := if k = 1 then 21 else if k = 2 then 24 else if k = 3 then 22 else 23
theorem c_bodyS (hX1 : X 1 = zNr) (hX2 : X 2 = zSz) (hk : rg k 1 5) (d : Nat) (I : Nat → Nat → Int32) (h : I 264 3 = k) : zcall X (d + 1) 8 [.inr (.inr (some (.inl 0, 264))), .inl 0] (L, zB1, I, J) = some (some (.inl ((bdS k))), (L, zB1, I, J)) := by
  have n1 : ∀ k : Int32, X 1 k.toNatClampNeg = zNr k.toNatClampNeg := fun k => by rw [hX1]
  have n2 : ∀ k : Int32, X 2 k.toNatClampNeg = zSz k.toNatClampNeg := fun k => by rw [hX2]
  rw [eX0_bodyFor, h]
  have st : ∀ (k i : Int32) (u : Option zV), i = 0 ∨ i = 1 → rg k 1 5 → zgo X (zcall X (d)) (some .int) kX0_bodyFor 7 [some (.inr (.inr (some (.inl 0, 264)))), some (.inl (0)), some (.inl (k)), some (.inl (i)), u] [] (L, zB1, I, J) = zgo X (zcall X (d)) (some .int) kX0_bodyFor 46 [some (.inr (.inr (some (.inl 0, 264)))), some (.inl (0)), some (.inl (k)), some (.inl (i)), u] [.inl (zSz k.toNatClampNeg)] (L, zB1, I, J) := by
    intro k i u hi hk
    rcases rg15 hk with rfl | rfl | rfl | rfl | rfl <;> rcases hi with rfl | rfl <;> rw [bX0_bodyFor_7, if_neg (by decide), if_neg (by decide), if_pos (by decide), if_pos rfl, show zin _ 6 = true from by decide, zbt_t, n2]
  rcases rg15 hk with rfl | rfl | rfl | rfl | rfl
  · rw [st _ _ _ (Or.inl rfl) hk, bX0_bodyFor_46, if_neg (by decide)]; rfl
  · rw [st _ _ _ (Or.inl rfl) hk, bX0_bodyFor_46, if_neg (by decide)]; rfl
  · rw [st _ _ _ (Or.inl rfl) hk, bX0_bodyFor_46, if_pos (by decide), show zin _ 6 = true from by decide, zbt_t, n1, show zNr (3 : Int32).toNatClampNeg = 1 from rfl, st _ _ _ (Or.inr (by decide)) ⟨by decide, by decide⟩, bX0_bodyFor_46, if_neg (by decide)]; rfl
  · rw [st _ _ _ (Or.inl rfl) hk, bX0_bodyFor_46, if_neg (by decide)]; rfl
  · rw [st _ _ _ (Or.inl rfl) hk, bX0_bodyFor_46, if_neg (by decide)]; rfl
theorem c_bodyM (hX1 : X 1 = zNr) (hX2 : X 3 = zMk) (hk : rg k 1 5) (d : Nat) (I : Nat → Nat → Int32) (h : I 264 3 = k) : zcall X (d + 1) 8 [.inr (.inr (some (.inl 0, 264))), .inl 1] (L, zB1, I, J) = some (some (.inl ((bdM k))), (L, zB1, I, J)) := by
  have n1 : ∀ k : Int32, X 1 k.toNatClampNeg = zNr k.toNatClampNeg := fun k => by rw [hX1]
  have n2 : ∀ k : Int32, X 3 k.toNatClampNeg = zMk k.toNatClampNeg := fun k => by rw [hX2]
  rw [eX0_bodyFor, h]
  have st : ∀ (k i : Int32) (u : Option zV), i = 0 ∨ i = 1 → rg k 1 5 → zgo X (zcall X (d)) (some .int) kX0_bodyFor 7 [some (.inr (.inr (some (.inl 0, 264)))), some (.inl (1)), some (.inl (k)), some (.inl (i)), u] [] (L, zB1, I, J) = zgo X (zcall X (d)) (some .int) kX0_bodyFor 46 [some (.inr (.inr (some (.inl 0, 264)))), some (.inl (1)), some (.inl (k)), some (.inl (i)), u] [.inl (zMk k.toNatClampNeg)] (L, zB1, I, J) := by
    intro k i u hi hk
    rcases rg15 hk with rfl | rfl | rfl | rfl | rfl <;> rcases hi with rfl | rfl <;> rw [bX0_bodyFor_7, if_neg (by decide), if_neg (by decide), if_pos (by decide), if_neg (by decide), show zin _ 6 = true from by decide, zbt_t, n2]
  rcases rg15 hk with rfl | rfl | rfl | rfl | rfl
  · rw [st _ _ _ (Or.inl rfl) hk, bX0_bodyFor_46, if_neg (by decide)]; rfl
  · rw [st _ _ _ (Or.inl rfl) hk, bX0_bodyFor_46, if_neg (by decide)]; rfl
  · rw [st _ _ _ (Or.inl rfl) hk, bX0_bodyFor_46, if_neg (by decide)]; rfl
  · rw [st _ _ _ (Or.inl rfl) hk, bX0_bodyFor_46, if_neg (by decide)]; rfl
  · rw [st _ _ _ (Or.inl rfl) hk, bX0_bodyFor_46, if_pos (by decide), show zin _ 6 = true from by decide, zbt_t, n1, show zNr (5 : Int32).toNatClampNeg = 4 from rfl, st _ _ _ (Or.inr (by decide)) ⟨by decide, by decide⟩, bX0_bodyFor_46, if_neg (by decide)]; rfl
def lSz (k : Int32) : List Int32 := if k = 4 then [13, 10] else [14, 13, 10]
theorem ao_sz {w : Nat} (hw : w ≤ 12) (hX1 : X 1 = zNr) (hX2 : X 2 = zSz) (hk : k = 4 ∨ k = 5) : AO X L J 8 7 [.inl 0, .inl (nI w)] k num lf tr (wSize k lf) (lSz k) := by
  have hb := c_bodyS (L := L) (J := J) hX1 hX2 (show rg k 1 5 by rcases hk with rfl | rfl <;> exact ⟨by decide, by decide⟩)
  rcases hk with rfl | rfl
  · exact (ao_ans (D := 3) (by omega) hb (ao13 (by omega))).up (by omega)
  · exact (ao_ans (D := 5) (by omega) hb (ao14 (by omega))).up (by omega)
theorem ao23 {w : Nat} (hw : w ≤ 11) (hX1 : X 1 = zNr) (hX2 : X 2 = zSz) (hk : k = 4 ∨ k = 5) : AO X L J 11 9 [.inl 23, .inl (nI w)] k num lf tr (num - wSize k lf) (23 :: 20 :: lSz k) := by
  refine ao_run (D := 9) (l := [20] ++ lSz k) (show w ≤ 16 by omega) fun d I n h1 h2 h3 h4 h5 h6 => ?_
  have hl : ([20] ++ lSz k).length = (lSz k).length + 1 := rfl
  obtain ⟨I1, e1, t1⟩ := ao20 (X := X) (L := L) (J := J) (w := w + 1) (by omega) (d + 8) I n h1 h2 h3 h4 h5 (show n + 1 ≤ 16 by omega)
  obtain ⟨I2, e2, t2⟩ := (ao_sz (X := X) (L := L) (J := J) (w := w + 1) (num := num) (lf := lf) (tr := tr) (by omega) hX1 hX2 hk).use t1 h1 h2 h3 h4 rfl (show n + 1 + (lSz k).length ≤ 16 by omega) (d + 2)
  refine ⟨I2, ?_, t2⟩
  rw [bX0_run_13, if_neg (by decide), if_neg (by decide), if_neg (by decide), if_neg (by decide), if_neg (by decide), if_neg (by decide), if_neg (by decide), if_neg (by decide), if_neg (by decide), if_neg (by decide), if_neg (by decide), if_neg (by decide), if_neg (by decide), if_pos rfl, nI_1, show zcall X (d + 9 + 1) 9 _ _ = _ from e1, cI_some, bX0_run_191, nI_1, show zcall X (d + 9 + 1) 7 _ _ = _ from e2, cI_some, bX0_run_199]
theorem ao_mk {w : Nat} (hw : w ≤ 10) (hX1 : X 1 = zNr) (hX2 : X 2 = zSz) (hX3 : X 3 = zMk) (hk : rg k 1 5) : AO X L J 12 7 [.inl 1, .inl (nI w)] k num lf tr (vMark k num lf tr) (aMark k) := by
  have hb := c_bodyM (L := L) (J := J) hX1 hX3 hk
  rcases rg15 hk with rfl | rfl | rfl | rfl | rfl
  · exact (ao_ans (D := 3) (by omega) hb (ao21 (by omega))).up (by omega)
  · exact (ao_ans (D := 5) (by omega) hb (ao24 (by omega))).up (by omega)
  · exact (ao_ans (D := 5) (by omega) hb (ao22 (by omega))).up (by omega)
  · exact (ao_ans (D := 10) (by omega) hb (ao23 (by omega) hX1 hX2 (Or.inl rfl))).up (by omega)
  · exact (ao_ans (D := 10) (by omega) hb (ao23 (by omega) hX1 hX2 (Or.inr rfl))).up (by omega)
theorem ao11 {w : Nat} (hw : w ≤ 9) (hX1 : X 1 = zNr) (hX2 : X 2 = zSz) (hX3 : X 3 = zMk) (hk : rg k 1 5) : AO X L J 15 9 [.inl 11, .inl (nI w)] k num lf tr (lf + vMark k num lf tr) (11 :: 10 :: aMark k) := by
  refine ao_run (D := 13) (l := [10] ++ aMark k) (show w ≤ 16 by omega) fun d I n h1 h2 h3 h4 h5 h6 => ?_
  have hl : ([10] ++ aMark k).length = (aMark k).length + 1 := rfl
  obtain ⟨I1, e1, t1⟩ := ao10 (X := X) (L := L) (J := J) (w := w + 1) (by omega) (d + 12) I n h1 h2 h3 h4 h5 (show n + 1 ≤ 16 by omega)
  obtain ⟨I2, e2, t2⟩ := (ao_mk (X := X) (L := L) (J := J) (w := w + 1) (num := num) (lf := lf) (tr := tr) (by omega) hX1 hX2 hX3 hk).use t1 h1 h2 h3 h4 rfl (show n + 1 + (aMark k).length ≤ 16 by omega) (d + 2)
  refine ⟨I2, ?_, t2⟩
  rw [bX0_run_13, if_neg (by decide), if_pos rfl, nI_1, show zcall X (d + 13 + 1) 9 _ _ = _ from e1, cI_some, bX0_run_102, nI_1, show zcall X (d + 13 + 1) 7 _ _ = _ from e2, cI_some, bX0_run_110]
theorem ao12 {w : Nat} (hw : w ≤ 8) (hX1 : X 1 = zNr) (hX2 : X 2 = zSz) (hX3 : X 3 = zMk) (hk : rg k 1 5) : AO X L J 17 9 [.inl 12, .inl (nI w)] k num lf tr (- (lf + vMark k num lf tr)) (12 :: 11 :: 10 :: aMark k) := by
  refine ao_run (D := 15) (l := 11 :: 10 :: aMark k) (by omega) fun d I n h1 h2 h3 h4 h5 h6 => ?_
  obtain ⟨I', e, t⟩ := ao11 (X := X) (L := L) (J := J) (w := w + 1) (by omega) hX1 hX2 hX3 hk (d + 1) I n h1 h2 h3 h4 h5 h6
  refine ⟨I', ?_, t⟩
  rw [bX0_run_13, if_neg (by decide), if_neg (by decide), if_pos rfl, nI_1, show zcall X (d + 15 + 1) 9 _ _ = _ from e, cI_some, bX0_run_121]
theorem ao_size {w : Nat} (hw : w ≤ 7) (hX1 : X 1 = zNr) (hX2 : X 2 = zSz) (hX3 : X 3 = zMk) (hk : rg k 1 5) : AO X L J 18 7 [.inl 0, .inl (nI w)] k num lf tr (vSize k num lf tr) (aSize k) := by
  have hb := c_bodyS (L := L) (J := J) hX1 hX2 hk
  rcases rg15 hk with rfl | rfl | rfl | rfl | rfl
  · exact (ao_ans (D := 14) (by omega) hb (ao11 (by omega) hX1 hX2 hX3 hk)).up (by omega)
  · exact (ao_ans (D := 16) (by omega) hb (ao12 (by omega) hX1 hX2 hX3 hk)).up (by omega)
  · exact (ao_ans (D := 14) (by omega) hb (ao11 (by omega) hX1 hX2 hX3 hk)).up (by omega)
  · exact (ao_ans (D := 3) (by omega) hb (ao13 (by omega))).up (by omega)
  · exact (ao_ans (D := 5) (by omega) hb (ao14 (by omega))).up (by omega)
end ASK
