/-! updates of a circuit; bits; loops over memory -/
def cup (c : Cr) (f i : Nat) (v : Int32) : Cr := fun f' i' => if f' = f ∧ i' = i then v else c f' i'
theorem cup_eq (c : Cr) (f i : Nat) (v : Int32) : cup c f i v f i = v := if_pos ⟨rfl, rfl⟩
theorem cup_ne {c : Cr} {f i f' i' : Nat} {v : Int32} (h : ¬ (f' = f ∧ i' = i)) : cup c f i v f' i' = c f' i' := if_neg h
theorem men_cup {c : Cr} {f i : Nat} {v : Int32} (h : f ≠ 0 ∨ 2 ≤ i) : men (cup c f i v) = men c := by
  unfold men
  rw [cup_ne (by omega)]
theorem jud_cup {c : Cr} {f i : Nat} {v : Int32} (h : f ≠ 0 ∨ 2 ≤ i) : jud (cup c f i v) = jud c := by
  unfold jud
  rw [cup_ne (by omega)]
theorem Cn_cup {c : Cr} {f i : Nat} {v : Int32} (h : f ≠ 0 ∨ 2 ≤ i) (hn : Cn c) : Cn (cup c f i v) := by
  unfold Cn
  rw [men_cup h, jud_cup h, cup_ne (by omega), cup_ne (by omega)]
  exact hn
theorem vld_cup {c : Cr} {f i : Nat} {v : Int32} (h : f ≠ 0 ∨ 2 ≤ i) {f' i' : Nat} : vld (cup c f i v) f' i' = vld c f' i' := by
  unfold vld
  rw [men_cup h, jud_cup h]
theorem zup_at {α : Type} (M : Nat → Nat → α) (k i : Nat) (v : α) (a j : Nat) : zup M k i v a j = if a = k ∧ j = i then v else M a j := by
  unfold zup
  by_cases h : a = k
  · rw [if_pos h]
    unfold vf_upd
    by_cases h2 : j = i
    · rw [if_pos h2, if_pos ⟨h, h2⟩]
    · rw [if_neg h2, if_neg (fun q => h2 q.2)]
  · rw [if_neg h, if_neg (fun q => h q.1)]
theorem zur_at {α : Type} (M : Nat → Nat → α) (k : Nat) (g : Nat → α) (a : Nat) : zur M k g a = if a = k then g else M a := rfl
theorem vld_le {c : Cr} {f i : Nat} (h : vld c f i) : f ≤ 7 := by
  unfold vld at h
  omega
theorem CAt.up {I : Nat → Nat → Int32} {b : Nat} {c : Cr} (h : CAt I b c) {f i : Nat} {v : Int32} (hf : f ≠ 0 ∨ 2 ≤ i) : CAt (zup I (b + f) i v) b (cup c f i v) := by
  intro f' i' hv
  rw [vld_cup hf] at hv
  rw [zup_at]
  unfold cup
  by_cases e : f' = f ∧ i' = i
  · rw [if_pos e, if_pos (by omega)]
  · rw [if_neg e, if_neg (by omega)]
    exact h f' i' hv
def Fr (b : Nat) (I I' : Nat → Nat → Int32) : Prop := ∀ a, (a < b ∨ b + 7 < a) → I' a = I a
theorem Fr.rf (b : Nat) (I : Nat → Nat → Int32) : Fr b I I := fun _ _ => rfl
theorem Fr.tr {b : Nat} {I I1 I2 : Nat → Nat → Int32} (h : Fr b I I1) (h2 : Fr b I1 I2) : Fr b I I2 := fun a ha => (h2 a ha).trans (h a ha)
theorem Fr.up {b : Nat} {I I1 : Nat → Nat → Int32} (h : Fr b I I1) {f i : Nat} {v : Int32} (hf : f ≤ 7) : Fr b I (zup I1 (b + f) i v) := fun a ha => (zup_ne (by omega)).trans (h a ha)
theorem Fr.ur {b : Nat} {I I1 : Nat → Nat → Int32} (h : Fr b I I1) {f : Nat} {v : Nat → Int32} (hf : f ≤ 7) : Fr b I (zur I1 (b + f) v) := fun a ha => (zur_ne (by omega)).trans (h a ha)
theorem Fr.CAt {b b' : Nat} {I I' : Nat → Nat → Int32} {c : Cr} (h : Fr b I I') (hc : CAt I b' c) (hb : b' + 7 < b ∨ b + 7 < b') : CAt I' b' c := by
  intro f i hv
  have := vld_le hv
  rw [h (b' + f) (by omega)]
  exact hc f i hv
/-- a counted loop whose state is followed by a relation -/
theorem zloopR {α : Type} (G : Nat → α → Option zR) (P : Nat → α → Prop) (n : Nat) (h : ∀ j x9, j < n → P j x9 → ∃ y9, G j x9 = G (j + 1) y9 ∧ P (j + 1) y9) {a : α} (h0 : P 0 a) : ∃ y9, G 0 a = G n y9 ∧ P n y9 := by
  induction n with
  | zero => exact ⟨a, rfl, h0⟩
  | succ n ih =>
    obtain ⟨y9, e, hp⟩ := ih (fun j x9 hj => h j x9 (by omega))
    obtain ⟨y2, e2, hp2⟩ := h n y9 (by omega) hp
    exact ⟨y2, e.trans e2, hp2⟩
-- bits
def bt (x9 : Int32) (j : Nat) : Bool := x9.toBitVec.getLsbD j
theorem bt_or (x9 y9 : Int32) (j : Nat) : bt (x9 ||| y9) j = (bt x9 j || bt y9 j) := by
  unfold bt
  rw [Int32.toBitVec_or, BitVec.getLsbD_or]
theorem bt_and (x9 y9 : Int32) (j : Nat) : bt (x9 &&& y9) j = (bt x9 j && bt y9 j) := by
  unfold bt
  rw [Int32.toBitVec_and, BitVec.getLsbD_and]
theorem bt_0 (j : Nat) : bt 0 j = false := by
  unfold bt
  show (0#32).getLsbD j = false
  exact BitVec.getLsbD_zero
theorem bt_one : ∀ i < 32, ∀ j < 32, bt (1 <<< (nI i &&& 31)) j = decide (i = j) := by decide +kernel
theorem bt_hi (x9 : Int32) {j : Nat} (h : 32 ≤ j) : bt x9 j = false := BitVec.getLsbD_of_ge _ _ h
theorem bt_ext {x9 y9 : Int32} (h : ∀ j, j < 32 → bt x9 j = bt y9 j) : x9 = y9 := by
  apply Int32.toBitVec_inj.mp
  apply BitVec.eq_of_getLsbD_eq
  exact h
theorem nI31 : ∀ i < 32, nI i &&& 31 = nI i := by decide +kernel
theorem bt_shr (x9 : Int32) {i : Nat} (hi : i < 32) (j : Nat) (hj : i + j < 32) : bt (x9 >>> (nI i &&& 31)) j = bt x9 (i + j) := by
  unfold bt
  rw [nI31 i hi, Int32.toBitVec_shiftRight]
  have e : ((nI i).toBitVec.smod 32).toNat = i := by
    have : ∀ i < 32, ((nI i).toBitVec.smod 32).toNat = i := by decide +kernel
    exact this i hi
  show (x9.toBitVec.sshiftRight ((nI i).toBitVec.smod 32).toNat).getLsbD j = _
  rw [e, BitVec.getLsbD_sshiftRight, if_pos hj]
  rw [show decide (32 ≤ j) = false by simp; omega]
  rfl
theorem bt_1 : ∀ j < 32, bt 1 j = decide (j = 0) := by decide +kernel
/-- the bit i of a number, as the code takes it -/
theorem bt_get (x9 : Int32) {i : Nat} (hi : i < 32) : (x9 >>> (nI i &&& 31)) &&& 1 = b2i (bt x9 i) := by
  apply bt_ext
  intro j hj
  rw [bt_and, bt_1 j hj]
  by_cases h : j = 0
  · subst h
    rw [bt_shr x9 hi 0 (by omega)]
    show (bt x9 i && true) = _
    cases bt x9 i <;> rfl
  · rw [show decide (j = 0) = false by simp [h], Bool.and_false]
    cases bt x9 i with
    | false => exact (bt_0 j).symm
    | true => exact ((bt_1 j hj).trans (by simp [h])).symm
theorem b2i_0 (p : Bool) : (b2i p = 0) = (p = false) := by cases p <;> decide
theorem b2i_1 (p : Bool) : (b2i p = 1) = (p = true) := by cases p <;> decide
