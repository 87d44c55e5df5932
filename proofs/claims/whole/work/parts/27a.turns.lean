/-! two judges by turns -/
def mxS (g : Bool) (x9 y9 : Int32) : Int32 := if g = true then (if x9 < y9 then y9 else x9) else (if y9 < x9 then y9 else x9)
def chA (c : Cr) (x9 : Nat) : Cr := if 6 ≤ x9 then c else cup c 6 x9 (if c 6 x9 + 5 ≤ 30 then c 6 x9 + 5 else 30)
def mayB (c : Cr) (q : Int32) (m : Nat) : Bool := decide (m < men c) && (decide (c 4 m = q) && serving c m)
def outS (a b : Int32) (n : Nat) (c : Cr) : Int32 := ttS (pasS n 0 c) a - ttS (pasS n 0 c) b
def gT (k : Nat) : Bool := decide (k % 2 = 0)
def mvr (a b : Int32) (k : Nat) : Int32 := if gT k = true then a else b
def VT (a b : Int32) (n : Nat) : Nat → Nat → Cr → Int32
  | 0, _, c => outS a b n c
  | r + 1, k, c => zfold 6 (VT a b n r (k + 1) c) (fun m best => if mayB c (mvr a b k) m = true then mxS (gT k) best (VT a b n r (k + 1) (chA c m)) else best)
theorem VT_0 (a b : Int32) (n k : Nat) (c : Cr) : VT a b n 0 k c = outS a b n c := rfl
theorem VT_s (a b : Int32) (n r k : Nat) (c : Cr) : VT a b n (r + 1) k c = zfold 6 (VT a b n r (k + 1) c) (fun m best => if mayB c (mvr a b k) m = true then mxS (gT k) best (VT a b n r (k + 1) (chA c m)) else best) := rfl
theorem mxS_or (g : Bool) (x9 y9 : Int32) : mxS g x9 y9 = x9 ∨ mxS g x9 y9 = y9 := by
  unfold mxS
  cases g
  · rw [if_neg (by decide)]
    split
    · exact Or.inr rfl
    · exact Or.inl rfl
  · rw [if_pos rfl]
    split
    · exact Or.inr rfl
    · exact Or.inl rfl
theorem mxS_rg {g : Bool} {x9 y9 : Int32} {lo hi : Int} (h1 : rg x9 lo hi) (h2 : rg y9 lo hi) : rg (mxS g x9 y9) lo hi := by
  rcases mxS_or g x9 y9 with e | e <;> rw [e] <;> assumption
theorem mxS_t (x9 y9 : Int32) : (mxS true x9 y9).toInt = if x9.toInt < y9.toInt then y9.toInt else x9.toInt := by
  unfold mxS
  rw [if_pos rfl]
  by_cases q : x9 < y9
  · rw [if_pos q, if_pos (by rw [i32_lt] at q; exact q)]
  · rw [if_neg q, if_neg (by rw [i32_lt] at q; exact q)]
theorem mxS_f (x9 y9 : Int32) : (mxS false x9 y9).toInt = if y9.toInt < x9.toInt then y9.toInt else x9.toInt := by
  unfold mxS
  rw [if_neg (by decide)]
  by_cases q : y9 < x9
  · rw [if_pos q, if_pos (by rw [i32_lt] at q; exact q)]
  · rw [if_neg q, if_neg (by rw [i32_lt] at q; exact q)]
theorem mxS_rc (g : Bool) (x9 y9 z9 : Int32) : mxS g (mxS g x9 y9) z9 = mxS g (mxS g x9 z9) y9 := by
  apply Int32.toInt_inj.mp
  cases g
  · rw [mxS_f, mxS_f, mxS_f, mxS_f]
    repeat' split
    all_goals omega
  · rw [mxS_t, mxS_t, mxS_t, mxS_t]
    repeat' split
    all_goals omega
def iniT (g : Bool) : Int32 := if g = true then -9999 else 9999
theorem mxS_ini (g : Bool) {p : Int32} (h : rg p (-594) 594) : mxS g (iniT g) p = p := by
  obtain ⟨h1, h2⟩ := h
  unfold mxS iniT
  cases g
  · rw [if_neg (show ¬ false = true by decide), if_neg (show ¬ false = true by decide), if_pos (by rw [i32_lt, show (9999 : Int32).toInt = 9999 from rfl]; omega)]
  · rw [if_pos rfl, if_pos rfl, if_pos (by rw [i32_lt, show (-9999 : Int32).toInt = -9999 from rfl]; omega)]
theorem fold_mx (g : Bool) (P : Nat → Bool) (f : Nat → Int32) (i p : Int32) : ∀ k, zfold k (mxS g i p) (fun m best => if P m = true then mxS g best (f m) else best) = mxS g (zfold k i (fun m best => if P m = true then mxS g best (f m) else best)) p
  | 0 => rfl
  | k + 1 => by
    show (if P k = true then mxS g (zfold k (mxS g i p) _) (f k) else zfold k (mxS g i p) _) = mxS g (if P k = true then mxS g (zfold k i _) (f k) else zfold k i _) p
    rw [fold_mx g P f i p k]
    by_cases q : P k = true
    · rw [if_pos q, if_pos q, mxS_rc]
    · rw [if_neg q, if_neg q]
theorem zfold_ext {α : Type} (a : α) (F : Nat → α → α) (k : Nat) : ∀ j, (∀ m, k ≤ m → m < k + j → ∀ x9, F m x9 = x9) → zfold (k + j) a F = zfold k a F
  | 0, _ => rfl
  | j + 1, h => by
    show F (k + j) (zfold (k + j) a F) = _
    rw [h (k + j) (by omega) (by omega), zfold_ext a F k j (fun m h1 h2 => h m h1 (by omega))]
theorem chA_n (c : Cr) (x9 : Nat) : men (chA c x9) = men c ∧ jud (chA c x9) = jud c ∧ (Iv c → (x9 < men c ∨ 6 ≤ x9) → Iv (chA c x9)) ∧ ∀ f i, f ≠ 6 → chA c x9 f i = c f i := by
  unfold chA
  by_cases q : 6 ≤ x9
  · rw [if_pos q]
    exact ⟨rfl, rfl, fun h _ => h, fun _ _ _ => rfl⟩
  · rw [if_neg q]
    refine ⟨men_cup (by omega), jud_cup (by omega), fun h hm => Iv_left h ?_, fun f i hf => cup_ne (by omega)⟩
    have h6 := (h.2.2.2 x9 (by omega)).2.2.2.1
    obtain ⟨w1, w2⟩ := h6
    have e5 : (5 : Int32).toInt = 5 := rfl
    have e : (c 6 x9 + 5).toInt = (c 6 x9).toInt + 5 := by rw [Jvm.Kit.i32_add (by rw [e5]; omega) (by rw [e5]; omega), e5]
    by_cases w : c 6 x9 + 5 ≤ 30
    · rw [if_pos w]
      rw [i32_le, e, show (30 : Int32).toInt = 30 from rfl] at w
      exact ⟨by rw [e]; omega, by rw [e]; omega⟩
    · rw [if_neg w]
      exact ⟨by decide, by decide⟩
theorem outS_rg {c : Cr} (hv : Iv c) (a b : Int32) (n : Nat) : rg (outS a b n c) (-594) 594 := by
  have h1 := ttS_rg (Iv_pasS 0 hv n) a
  have h2 := ttS_rg (Iv_pasS 0 hv n) b
  obtain ⟨w1, w2⟩ := h1
  obtain ⟨w3, w4⟩ := h2
  unfold outS
  have e : (ttS (pasS n 0 c) a - ttS (pasS n 0 c) b).toInt = (ttS (pasS n 0 c) a).toInt - (ttS (pasS n 0 c) b).toInt := Jvm.Kit.i32_sub (by omega) (by omega)
  exact ⟨by rw [e]; omega, by rw [e]; omega⟩
theorem VT_rg (a b : Int32) (n : Nat) : ∀ (r k : Nat) (c : Cr), Iv c → rg (VT a b n r k c) (-594) 594
  | 0, k, c, hv => outS_rg hv a b n
  | r + 1, k, c, hv => by
    rw [VT_s]
    have h0 := VT_rg a b n r (k + 1) c hv
    have key : ∀ j, rg (zfold j (VT a b n r (k + 1) c) (fun m best => if mayB c (mvr a b k) m = true then mxS (gT k) best (VT a b n r (k + 1) (chA c m)) else best)) (-594) 594 := by
      intro j
      induction j with
      | zero => exact h0
      | succ j ih =>
        show rg (if mayB c (mvr a b k) j = true then mxS (gT k) (zfold j _ _) (VT a b n r (k + 1) (chA c j)) else zfold j _ _) (-594) 594
        by_cases q : mayB c (mvr a b k) j = true
        · rw [if_pos q]
          have hm : j < men c := by
            unfold mayB at q
            rw [Bool.and_eq_true] at q
            exact of_decide_eq_true q.1
          exact mxS_rg ih (VT_rg a b n r (k + 1) (chA c j) ((chA_n c j).2.2.1 hv (Or.inl hm)))
        · rw [if_neg q]; exact ih
    exact key 6
/-- as the reference goes: the men first, then nobody -/
theorem VT_m (a b : Int32) (n r k : Nat) {c : Cr} (hv : Iv c) : VT a b n (r + 1) k c = mxS (gT k) (zfold 6 (iniT (gT k)) (fun m best => if mayB c (mvr a b k) m = true then mxS (gT k) best (VT a b n r (k + 1) (chA c m)) else best)) (VT a b n r (k + 1) c) := by
  rw [VT_s, ← fold_mx, mxS_ini (gT k) (VT_rg a b n r (k + 1) c hv)]
section TURNS
variable {X : Nat → Nat → Int32} {d : Nat} {L : List zK} {I : Nat → Nat → Int32} {J : Nat → Nat → Int64} {c : Cr} {n : Nat} {a b : Int32}
def FrY (I I' : Nat → Nat → Int32) : Prop := ∀ a, ¬ (235 ≤ a ∧ a ≤ 250) → I' a = I a
theorem FrY.rf (I : Nat → Nat → Int32) : FrY I I := fun _ _ => rfl
theorem FrY.tr {I I1 I2 : Nat → Nat → Int32} (h : FrY I I1) (h2 : FrY I1 I2) : FrY I I2 := fun a k => (h2 a k).trans (h a k)
theorem Fr.Y {I I' : Nat → Nat → Int32} (h : Fr 243 I I') : FrY I I' := fun a k => h a (by omega)
theorem Fr.Y2 {I I' : Nat → Nat → Int32} (h : Fr 235 I I') : FrY I I' := fun a k => h a (by omega)
theorem c_outcome (h : CAt I 235 c) (hn : Cn c) (hn31 : n < 2 ^ 31) (h8 : I 234 8 = a) (h9 : I 234 9 = b) (h11 : I 234 11 = nI n) : ∃ I', zcall X (d + 5) 72 [.inr (.inr (some (.inl 5, 234)))] (L, zB1, I, J) = some (some (.inl (outS a b n c)), (L, zB1, I', J)) ∧ Fr 243 I I' := by
  obtain ⟨I1, e1, h1, f1⟩ := c_takeFrom (X := X) (d := d + 3) (L := L) (J := J) (b := 243) h hn (by omega)
  obtain ⟨I2, e2, h2, f2⟩ := c_passYears (X := X) (d := d) (L := L) (J := J) h1 hn hn31 0
  have hP := pasS_n 0 c n
  have f12 := f1.tr f2
  refine ⟨I2, ?_, f12⟩
  rw [eX5_outcome, e1, cV_some, bX5_outcome_11, show I1 234 11 = nI n from by rw [f1 234 (by omega)]; exact h11, e2, cV_some, bX5_outcome_23, show I2 234 8 = a from by rw [f12 234 (by omega)]; exact h8, c_trustTowards h2 (hP.2.2 hn), cI_some, bX5_outcome_34, show I2 234 9 = b from by rw [f12 234 (by omega)]; exact h9, c_trustTowards h2 (hP.2.2 hn), cI_some, bX5_outcome_45]
  rfl
theorem par2 : ∀ k < 8, (nI k - nI k / 2 * 2 = 0) ↔ gT k = true := by decide +kernel
end TURNS
