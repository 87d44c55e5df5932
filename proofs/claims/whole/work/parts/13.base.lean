/-! ===== pure rows: folds, searches, numbers; the abstract circuit ===== -/
theorem cI_some (y : Int32) (σ : zS) (f : Int32 → zS → Option zR) : cI (some (some (.inl y), σ)) f = f y σ := rfl
theorem cJ_some (y : Int64) (σ : zS) (f : Int64 → zS → Option zR) : cJ (some (some (.inr (.inl y)), σ)) f = f y σ := rfl
theorem cQ_some (y : Option zP) (σ : zS) (f : Option zP → zS → Option zR) : cQ (some (some (.inr (.inr y)), σ)) f = f y σ := rfl
theorem zbt_t (f : Option zR) : zbt true f = f := rfl
def b2i : Bool → Int32
  | true => 1
  | false => 0
theorem b2i_t : b2i true = 1 := rfl
theorem b2i_f : b2i false = 0 := rfl
theorem zret_b (b : Bool) (σ : zS) : zret (some .boolean) (some (.inl (b2i b))) σ = some (some (.inl (b2i b)), σ) := by cases b <;> rfl
theorem i32_lt {x y : Int32} : x < y ↔ x.toInt < y.toInt := Int32.lt_iff_toInt_lt
theorem i32_le {x y : Int32} : x ≤ y ↔ x.toInt ≤ y.toInt := Int32.le_iff_toInt_le
theorem nI_int {n : Nat} (h : n < 2 ^ 31) : (nI n).toInt = (n : Int) := nI_toInt h
theorem zin_iff {x9 : Int32} {n : Nat} : zin x9 n = true ↔ 0 ≤ x9.toInt ∧ x9.toInt < (n : Int) := by
  unfold zin
  rw [Bool.and_eq_true, decide_eq_true_eq, decide_eq_true_eq]
theorem zin_of {x9 : Int32} {n : Nat} (h : zin x9 n = true) : ∃ m : Nat, m < n ∧ x9 = nI m := by
  rw [zin_iff] at h
  refine ⟨x9.toInt.toNat, by omega, ?_⟩
  have hx := x9.toInt_lt
  apply Int32.toInt_inj.mp
  rw [nI_int (by omega)]
  omega
theorem zin_nI {m n : Nat} (h : m < n) (hn : n < 2 ^ 31) : zin (nI m) n = true := by
  rw [zin_iff, nI_int (by omega)]
  omega
theorem zin_nIf {m n : Nat} (h : n ≤ m) (hm : m < 2 ^ 31) : zin (nI m) n = false := by
  cases hz : zin (nI m) n with
  | false => rfl
  | true =>
    rw [zin_iff, nI_int (by omega)] at hz
    omega
def zfold {α : Type} (n : Nat) (a : α) (f : Nat → α → α) : α := match n with
  | 0 => a
  | n + 1 => f n (zfold n a f)
/-- a counted loop -/
theorem zloop {α : Type} (G : Nat → α → Option zR) (f : Nat → α → α) (a : α) : ∀ (n : Nat), (∀ j, j < n → G j (zfold j a f) = G (j + 1) (f j (zfold j a f))) → G 0 a = G n (zfold n a f)
  | 0, _ => rfl
  | n + 1, h => (zloop G f a n (fun j hj => h j (by omega))).trans (h n (by omega))
/-- the first place from j on, below j + k, with P -/
def zfirst (P : Nat → Bool) : Nat → Nat → Option Nat
  | 0, _ => none
  | k + 1, j => match P j with
    | true => some j
    | false => zfirst P k (j + 1)
theorem zsearch (G : Nat → Option zR) (P : Nat → Bool) (R : Nat → Option zR) : ∀ (k j : Nat), (∀ i, j ≤ i → i < j + k → G i = match P i with | true => R i | false => G (i + 1)) → G j = match zfirst P k j with | some i => R i | none => G (j + k)
  | 0, j, _ => rfl
  | k + 1, j, h => by
    rw [h j (by omega) (by omega)]
    unfold zfirst
    cases hp : P j with
    | true => rfl
    | false =>
      have := zsearch G P R k (j + 1) (fun i h1 h2 => h i (by omega) (by omega))
      rw [show j + 1 + k = j + (k + 1) by omega] at this
      exact this
theorem zfirst_congr {P Q : Nat → Bool} : ∀ (k j : Nat), (∀ i, j ≤ i → i < j + k → P i = Q i) → zfirst P k j = zfirst Q k j
  | 0, j, _ => rfl
  | k + 1, j, h => by
    unfold zfirst
    rw [h j (by omega) (by omega), zfirst_congr k (j + 1) (fun i h1 h2 => h i (by omega) (by omega))]
theorem zfold_congr {α : Type} {f g : Nat → α → α} {a : α} : ∀ (n : Nat), (∀ j, j < n → ∀ x9, f j x9 = g j x9) → zfold n a f = zfold n a g
  | 0, _ => rfl
  | n + 1, h => by
    show f n (zfold n a f) = g n (zfold n a g)
    rw [zfold_congr n (fun j hj => h j (by omega)), h n (by omega)]
-- a circuit: field 0 its numbers (judges, men, beans, like, year), 1 severe, 2 gate, 3 kind, 4 judge, 5 how, 6 years left, 7 trust
abbrev Cr : Type := Nat → Nat → Int32
def men (c : Cr) : Nat := (c 0 1).toNatClampNeg
def jud (c : Cr) : Nat := (c 0 0).toNatClampNeg
def vld (c : Cr) (f i : Nat) : Prop := (f = 0 ∧ i < 5) ∨ (1 ≤ f ∧ f ≤ 2 ∧ i < jud c) ∨ (3 ≤ f ∧ f ≤ 7 ∧ i < men c)
/-- the class's circuit at the cell b is c -/
def CAt (I : Nat → Nat → Int32) (b : Nat) (c : Cr) : Prop := ∀ f i, vld c f i → I (b + f) i = c f i
/-- the place of a field in the reference's row -/
def mix (f i : Nat) : Nat := match f with
  | 0 => if i = 0 then 1 else if i = 1 then 0 else i
  | 1 => 5 + 2 * i
  | 2 => 6 + 2 * i
  | 3 => 13 + 5 * i
  | 4 => 14 + 5 * i
  | 5 => 16 + 5 * i
  | 6 => 15 + 5 * i
  | _ => 17 + 5 * i
def MAt (I : Nat → Nat → Int32) (b : Nat) (c : Cr) : Prop := ∀ f i, vld c f i → I b (mix f i) = c f i
/-- its numbers are in their ranges (counts alone) -/
def Cn (c : Cr) : Prop := c 0 1 = nI (men c) ∧ men c ≤ 6 ∧ c 0 0 = nI (jud c) ∧ jud c ≤ 4
theorem v0 {c : Cr} {i : Nat} (h : i < 5) : vld c 0 i := Or.inl ⟨rfl, h⟩
theorem vj {c : Cr} {f i : Nat} (h : i < jud c) (h1 : 1 ≤ f) (h2 : f ≤ 2) : vld c f i := Or.inr (Or.inl ⟨h1, h2, h⟩)
theorem vm {c : Cr} {f i : Nat} (h : i < men c) (h1 : 3 ≤ f) (h2 : f ≤ 7) : vld c f i := Or.inr (Or.inr ⟨h1, h2, h⟩)
theorem CAt.men {I : Nat → Nat → Int32} {b : Nat} {c : Cr} (h : CAt I b c) (hn : Cn c) : I b 1 = nI (men c) := (h 0 1 (v0 (by omega))).trans hn.1
theorem CAt.jud {I : Nat → Nat → Int32} {b : Nat} {c : Cr} (h : CAt I b c) (hn : Cn c) : I b 0 = nI (jud c) := (h 0 0 (v0 (by omega))).trans hn.2.2.1
theorem CAt.m {I : Nat → Nat → Int32} {b : Nat} {c : Cr} (h : CAt I b c) {m : Nat} (hm : m < (c 0 1).toNatClampNeg) (f : Nat) (h1 : 3 ≤ f) (h2 : f ≤ 7) : I (b + f) m = c f m := h f m (vm hm h1 h2)
theorem CAt.j {I : Nat → Nat → Int32} {b : Nat} {c : Cr} (h : CAt I b c) {m : Nat} (hm : m < (c 0 0).toNatClampNeg) (f : Nat) (h1 : 1 ≤ f) (h2 : f ≤ 2) : I (b + f) m = c f m := h f m (vj hm h1 h2)
theorem nle {a b : Nat} (ha : a < 2 ^ 31) (hb : b < 2 ^ 31) : (nI a ≤ nI b) = (a ≤ b) := propext (nI_leI ha hb)
theorem nlt {a b : Nat} (ha : a < 2 ^ 31) (hb : b < 2 ^ 31) : (nI a < nI b) = (a < b) := propext (nI_ltI ha hb)
theorem neq {a b : Nat} (ha : a < 2 ^ 31) (hb : b < 2 ^ 31) : (nI a = nI b) = (a = b) := propext (nI_eq ha hb)
theorem ncl {a : Nat} (ha : a < 2 ^ 31) : (nI a).toNatClampNeg = a := nI_clamp ha
theorem nlt0 {a : Nat} (ha : a < 2 ^ 31) : ¬ nI a < 0 := nI_pos ha
/-! the class's circuit: reads -/
section CREAD
variable {X : Nat → Nat → Int32} {d : Nat} {L : List zK} {I : Nat → Nat → Int32} {J : Nat → Nat → Int64} {b : Nat} {c : Cr}
theorem c_isMan (h : CAt I b c) (hn : Cn c) (q : Int32) : zcall X (d + 1) 16 [.inr (.inr (some (.inl 1, b))), .inl q] (L, zB1, I, J) = some (some (.inl (b2i (zin q (men c)))), (L, zB1, I, J)) := by
  rw [eX1_isMan, h.men hn]
  cases hz : zin q (men c) with
  | true =>
    obtain ⟨m, hm, rfl⟩ := zin_of hz
    have := hn.2.1
    rw [if_neg (nlt0 (by omega)), if_neg (by rw [nle (by omega) (by omega)]; omega), if_neg (by show ¬ nI 6 ≤ nI m; rw [nle (by omega) (by omega)]; omega)]
    rfl
  | false =>
    by_cases h1 : q < 0
    · rw [if_pos h1]; rfl
    · by_cases h2 : nI (men c) ≤ q
      · rw [if_neg h1, if_pos h2]; rfl
      · exfalso
        have h3 : zin q (men c) = true := by
          rw [zin_iff]
          rw [i32_lt] at h1
          rw [i32_le, nI_int (by have := hn.2.1; omega)] at h2
          have : (0 : Int32).toInt = 0 := rfl
          omega
        rw [h3] at hz
        cases hz
theorem c_isJudge (h : CAt I b c) (hn : Cn c) (q : Int32) : zcall X (d + 1) 17 [.inr (.inr (some (.inl 1, b))), .inl q] (L, zB1, I, J) = some (some (.inl (b2i (zin q (jud c)))), (L, zB1, I, J)) := by
  rw [eX1_isJudge, h.jud hn]
  cases hz : zin q (jud c) with
  | true =>
    obtain ⟨m, hm, rfl⟩ := zin_of hz
    have := hn.2.2.2
    rw [if_neg (nlt0 (by omega)), if_neg (by rw [nle (by omega) (by omega)]; omega), if_neg (by show ¬ nI 4 ≤ nI m; rw [nle (by omega) (by omega)]; omega)]
    rfl
  | false =>
    by_cases h1 : q < 0
    · rw [if_pos h1]; rfl
    · by_cases h2 : nI (jud c) ≤ q
      · rw [if_neg h1, if_pos h2]; rfl
      · exfalso
        have h3 : zin q (jud c) = true := by
          rw [zin_iff]
          rw [i32_lt] at h1
          rw [i32_le, nI_int (by have := hn.2.2.2; omega)] at h2
          have : (0 : Int32).toInt = 0 := rfl
          omega
        rw [h3] at hz
        cases hz
theorem c_isServing (h : CAt I b c) (hn : Cn c) {m : Nat} (hm : m < men c) : zcall X (d + 2) 18 [.inr (.inr (some (.inl 1, b))), .inl (nI m)] (L, zB1, I, J) = some (some (.inl (b2i (decide (c 5 m = 0 ∨ c 5 m = 1)))), (L, zB1, I, J)) := by
  have h6 := hn.2.1
  rw [eX1_isServing, c_isMan h hn, cI_some, bX1_isServing_5, zin_nI hm (by omega), zin_nI (show m < 6 by omega) (by omega), zbt_t, zbt_t, ncl (by omega), h.m hm 5 (by omega) (by omega), if_neg (by decide)]
  by_cases h1 : c 5 m = 0
  · rw [if_pos h1, decide_eq_true (Or.inl h1)]; rfl
  · rw [if_neg h1]
    by_cases h2 : c 5 m = 1
    · rw [if_pos h2, decide_eq_true (Or.inr h2)]; rfl
    · rw [if_neg h2, decide_eq_false (by rintro (h | h) <;> contradiction)]; rfl
theorem c_isHoused (h : CAt I b c) (hn : Cn c) {m : Nat} (hm : m < men c) : zcall X (d + 2) 19 [.inr (.inr (some (.inl 1, b))), .inl (nI m)] (L, zB1, I, J) = some (some (.inl (b2i (decide (c 5 m = 1 ∨ c 5 m = 3)))), (L, zB1, I, J)) := by
  have h6 := hn.2.1
  rw [eX1_isHoused, c_isMan h hn, cI_some, bX1_isHoused_5, zin_nI hm (by omega), zin_nI (show m < 6 by omega) (by omega), zbt_t, zbt_t, ncl (by omega), h.m hm 5 (by omega) (by omega), if_neg (by decide)]
  by_cases h1 : c 5 m = 1
  · rw [if_pos h1, decide_eq_true (Or.inl h1)]; rfl
  · rw [if_neg h1]
    by_cases h2 : c 5 m = 3
    · rw [if_pos h2, decide_eq_true (Or.inr h2)]; rfl
    · rw [if_neg h2, decide_eq_false (by rintro (h | h) <;> contradiction)]; rfl
/-- the set of those who are so -/
def whoS (c : Cr) (st : Int32) : Int32 := zfold (men c) 0 (fun m a => if c 5 m = st then a ||| (1 <<< (nI m &&& 31)) else a)
theorem c_whoAre (h : CAt I b c) (hn : Cn c) (st : Int32) : zcall X (d + 1) 26 [.inr (.inr (some (.inl 1, b))), .inl st] (L, zB1, I, J) = some (some (.inl (whoS c st)), (L, zB1, I, J)) := by
  have h6 := hn.2.1
  rw [eX1_whoAre]
  have := zloop (fun j a => zgo X (zcall X d) (some .int) kX1_whoAre 4 [some (.inr (.inr (some (.inl 1, b)))), some (.inl st), some (.inl a), some (.inl (nI j))] [] (L, zB1, I, J)) (fun m a => if c 5 m = st then a ||| (1 <<< (nI m &&& 31)) else a) 0 (men c) (fun j hj => by
    try dsimp only
    rw [bX1_whoAre_4, h.men hn, if_neg (by rw [nle (by omega) (by omega)]; omega), zin_nI (show j < 6 by omega) (by omega), zbt_t, ncl (by omega), h.m hj 5 (by omega) (by omega), nI_1]
    split <;> rfl)
  refine (show _ = _ from this).trans ?_
  try dsimp only
  rw [bX1_whoAre_4, h.men hn, if_pos (by rw [nle (by omega) (by omega)]; omega)]
  rfl
end CREAD
