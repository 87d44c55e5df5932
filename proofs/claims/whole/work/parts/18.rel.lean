/-! the relation of class and reference -/
def MAtO (I : Nat → Nat → Int32) (r o : Nat) (c : Cr) : Prop := ∀ f i, vld c f i → I r (o + mix f i) = c f i
def RRow (I : Nat → Nat → Int32) : Prop := ∀ r, r < 8 → (I 12 r = -1 ∧ I 284 r = -1) ∨ (∃ n, n ≤ 40 ∧ I 12 r = nI n ∧ I 285 r = nI n ∧ I 11 r = I 284 r ∧ rg (I 284 r) 0 2 ∧ ∀ k, k < 40 → I (3 + r) k = I 286 (40 * r + k))
def RCir (I : Nat → Nat → Int32) (c : Cr) : Prop := CAt I 13 c ∧ MAt I 287 c ∧ Iv c
def RTape (I : Nat → Nat → Int32) : Prop := ∃ n, n ≤ 120 ∧ I 21 2 = nI n ∧ I 283 11 = nI n ∧ (∀ k, k < n → I 22 k = I 291 k ∧ rg (I 22 k) 0 255) ∧ I 21 9 = I 283 18
def RPast (I : Nat → Nat → Int32) : Prop := ∃ (n o : Nat) (P : Nat → Cr), n ≤ 24 ∧ o < 24 ∧ I 31 2 = nI n ∧ I 283 9 = nI n ∧ I 31 1 = nI o ∧ ∀ k, k < n → Iv (P k) ∧ CAt I (33 + 8 * ((o + k) % 24)) (P k) ∧ MAtO I 290 (43 * k) (P k)
def RImg (I : Nat → Nat → Int32) : Prop := ∀ k, k < 2 → (I 295 k = 0 ∧ I (267 + 8 * k) 1 = 0) ∨ (I 295 k = 1 ∧ ∃ c, Iv c ∧ 0 < men c ∧ CAt I (267 + 8 * k) c ∧ MAtO I 296 (43 * k) c)
def RTrace (I : Nat → Nat → Int32) : Prop := ∃ n, n ≤ 16 ∧ I 264 1 = nI n ∧ I 283 25 = nI n ∧ ∀ k, k < n → I 265 k = I 297 k
def RStat (I : Nat → Nat → Int32) : Prop := I 0 9 = I 283 1
def Rel (I : Nat → Nat → Int32) : Prop := RRow I ∧ (∃ c, RCir I c) ∧ RTape I ∧ RPast I ∧ RImg I ∧ RTrace I ∧ RStat I
/-- the places that the relation speaks of -/
def kor (a i : Nat) : Prop := ¬ (23 ≤ a ∧ a ≤ 30) ∧ ¬ (225 ≤ a ∧ a ≤ 263) ∧ a ≠ 288 ∧ a ≠ 289 ∧ ¬ (292 ≤ a ∧ a ≤ 294) ∧ ¬ (a = 283 ∧ i = 0) ∧ ¬ (a = 283 ∧ 12 ≤ i ∧ i ≤ 17) ∧ ¬ (a = 21 ∧ 3 ≤ i ∧ i ≤ 8) ∧ ¬ (a = 21 ∧ i = 10) ∧ ¬ (a = 264 ∧ 2 ≤ i)
def Q (I I' : Nat → Nat → Int32) : Prop := ∀ a i, kor a i → I' a i = I a i
theorem Q.rf (I : Nat → Nat → Int32) : Q I I := fun _ _ _ => rfl
theorem Q.tr {I I1 I2 : Nat → Nat → Int32} (h : Q I I1) (h2 : Q I1 I2) : Q I I2 := fun a i k => (h2 a i k).trans (h a i k)
theorem Q.CAt {I I' : Nat → Nat → Int32} (h : Q I I') {b : Nat} {c : Cr} (hc : CAt I b c) (hb : (13 ≤ b ∧ b ≤ 13) ∨ (33 ≤ b ∧ b ≤ 217) ∨ (267 ≤ b ∧ b ≤ 275)) : CAt I' b c := by
  intro f i hv
  have := vld_le hv
  rw [h (b + f) i (by unfold kor; omega)]
  exact hc f i hv
theorem Q.MAt {I I' : Nat → Nat → Int32} (h : Q I I') {c : Cr} (hc : MAt I 287 c) : MAt I' 287 c := by
  intro f i hv
  rw [h 287 _ (by unfold kor; omega)]
  exact hc f i hv
theorem Q.MAtO {I I' : Nat → Nat → Int32} (h : Q I I') {r o : Nat} {c : Cr} (hc : MAtO I r o c) (hr : r = 290 ∨ r = 296) : MAtO I' r o c := by
  intro f i hv
  rw [h r _ (by unfold kor; omega)]
  exact hc f i hv
theorem Q.RRow {I I' : Nat → Nat → Int32} (h : Q I I') (hc : RRow I) : RRow I' := by
  intro r hr
  have e1 : I' 12 r = I 12 r := h _ _ (by unfold kor; omega)
  have e2 : I' 284 r = I 284 r := h _ _ (by unfold kor; omega)
  have e3 : I' 285 r = I 285 r := h _ _ (by unfold kor; omega)
  have e4 : I' 11 r = I 11 r := h _ _ (by unfold kor; omega)
  rw [e1, e2, e3, e4]
  rcases hc r hr with q | ⟨n, q1, q2, q3, q4, q5, q6⟩
  · exact Or.inl q
  · refine Or.inr ⟨n, q1, q2, q3, q4, q5, fun k hk => ?_⟩
    rw [h _ _ (by unfold kor; omega), h _ _ (by unfold kor; omega)]
    exact q6 k hk
theorem Q.RCir {I I' : Nat → Nat → Int32} (h : Q I I') {c : Cr} (hc : RCir I c) : RCir I' c := ⟨h.CAt hc.1 (by omega), h.MAt hc.2.1, hc.2.2⟩
theorem Q.RTape {I I' : Nat → Nat → Int32} (h : Q I I') (hc : RTape I) : RTape I' := by
  obtain ⟨n, h1, h2, h3, h4, h5⟩ := hc
  refine ⟨n, h1, ?_, ?_, ?_, ?_⟩
  · rw [h _ _ (by unfold kor; omega)]; exact h2
  · rw [h _ _ (by unfold kor; omega)]; exact h3
  · intro k hk
    rw [h 22 _ (by unfold kor; omega), h 291 _ (by unfold kor; omega)]
    exact h4 k hk
  · rw [h _ _ (by unfold kor; omega), h _ _ (by unfold kor; omega)]; exact h5
theorem Q.RPast {I I' : Nat → Nat → Int32} (h : Q I I') (hc : RPast I) : RPast I' := by
  obtain ⟨n, o, P, h1, h2, h3, h4, h5, h6⟩ := hc
  refine ⟨n, o, P, h1, h2, ?_, ?_, ?_, ?_⟩
  · rw [h _ _ (by unfold kor; omega)]; exact h3
  · rw [h _ _ (by unfold kor; omega)]; exact h4
  · rw [h _ _ (by unfold kor; omega)]; exact h5
  · intro k hk
    obtain ⟨q1, q2, q3⟩ := h6 k hk
    exact ⟨q1, h.CAt q2 (by omega), h.MAtO q3 (by omega)⟩
theorem Q.RImg {I I' : Nat → Nat → Int32} (h : Q I I') (hc : RImg I) : RImg I' := by
  intro k hk
  rw [h 295 k (by unfold kor; omega), h (267 + 8 * k) 1 (by unfold kor; omega)]
  rcases hc k hk with q | ⟨q, c, q1, q2, q3, q4⟩
  · exact Or.inl q
  · exact Or.inr ⟨q, c, q1, q2, h.CAt q3 (by omega), h.MAtO q4 (by omega)⟩
theorem Q.RTrace {I I' : Nat → Nat → Int32} (h : Q I I') (hc : RTrace I) : RTrace I' := by
  obtain ⟨n, h1, h2, h3, h4⟩ := hc
  refine ⟨n, h1, ?_, ?_, ?_⟩
  · rw [h _ _ (by unfold kor; omega)]; exact h2
  · rw [h _ _ (by unfold kor; omega)]; exact h3
  · intro k hk
    rw [h 265 _ (by unfold kor; omega), h 297 _ (by unfold kor; omega)]
    exact h4 k hk
theorem Q.RStat {I I' : Nat → Nat → Int32} (h : Q I I') (hc : RStat I) : RStat I' := by
  show I' 0 9 = I' 283 1
  rw [h _ _ (by unfold kor; omega), h _ _ (by unfold kor; omega)]
  exact hc
theorem Q.Rel {I I' : Nat → Nat → Int32} (h : Q I I') (hr : Rel I) : Rel I' := by
  obtain ⟨h1, ⟨c, h2⟩, h3, h4, h5, h6, h7⟩ := hr
  exact ⟨h.RRow h1, ⟨c, h.RCir h2⟩, h.RTape h3, h.RPast h4, h.RImg h5, h.RTrace h6, h.RStat h7⟩
theorem Q.fr {I I1 I' : Nat → Nat → Int32} (h : Q I I1) {b : Nat} (hf : Fr b I1 I') (hb : b = 23 ∨ b = 226 ∨ b = 235 ∨ b = 243 ∨ b = 255) : Q I I' := fun a i k => by
  rw [hf a (by unfold kor at k; omega)]
  exact h a i k
theorem Q.frM {I I1 I' : Nat → Nat → Int32} (h : Q I I1) {r : Nat} (hf : FrM r I1 I') (hb : r = 288 ∨ r = 289 ∨ r = 292 ∨ r = 293 ∨ r = 294) : Q I I' := fun a i k => by
  rw [hf a (by unfold kor at k; omega)]
  exact h a i k
theorem Q.up {I I1 : Nat → Nat → Int32} (h : Q I I1) {a i : Nat} {v : Int32} (hk : ¬ kor a i) : Q I (zup I1 a i v) := fun a' i' k => by
  rw [zup_at, if_neg (by rintro ⟨e1, e2⟩; rw [e1, e2] at k; exact hk k)]
  exact h a' i' k
theorem Qth (I : Nat → Nat → Int32) : Q I (zup I 283 0 0) := (Q.rf I).up (by unfold kor; omega)
theorem if0 {α : Type} (x9 y9 : α) : (if b2i false = 0 then x9 else y9) = x9 := if_pos rfl
theorem if1 {α : Type} (x9 y9 : α) : (if b2i true = 0 then x9 else y9) = y9 := if_neg (by decide)
/-- within, as class and reference have it -/
def wi (x9 : Int32) (lo hi : Int) : Bool := decide (lo ≤ x9.toInt) && decide (x9.toInt ≤ hi)
theorem wi_iff {x9 : Int32} {lo hi : Int} : wi x9 lo hi = true ↔ lo ≤ x9.toInt ∧ x9.toInt ≤ hi := by
  unfold wi
  rw [Bool.and_eq_true, decide_eq_true_eq, decide_eq_true_eq]
theorem wi_nI {x9 : Int32} {hi : Int} (h : wi x9 0 hi = true) : ∃ n : Nat, (n : Int) ≤ hi ∧ x9 = nI n ∧ n < 2 ^ 31 := by
  rw [wi_iff] at h
  have hx := x9.toInt_lt
  refine ⟨x9.toInt.toNat, by omega, ?_, by omega⟩
  apply Int32.toInt_inj.mp
  rw [nI_int (by omega)]
  omega
theorem wi_nI1 {x9 : Int32} {lo hi : Int} (hl : 0 ≤ lo) (h : wi x9 lo hi = true) : ∃ n : Nat, lo ≤ (n : Int) ∧ (n : Int) ≤ hi ∧ x9 = nI n ∧ n < 2 ^ 31 := by
  rw [wi_iff] at h
  have hx := x9.toInt_lt
  refine ⟨x9.toInt.toNat, by omega, by omega, ?_, by omega⟩
  apply Int32.toInt_inj.mp
  rw [nI_int (by omega)]
  omega
section WITHIN
variable {X : Nat → Nat → Int32} {d : Nat} {L : List zK} {I : Nat → Nat → Int32} {J : Nat → Nat → Int64}
theorem c_isWithin (x9 lo hi : Int32) : zcall X (d + 1) 150 [.inl x9, .inl lo, .inl hi] (L, zB1, I, J) = some (some (.inl (b2i (wi x9 lo.toInt hi.toInt))), (L, zB1, I, J)) := by
  rw [eX8_isWithin]
  unfold wi
  by_cases h1 : x9 < lo
  · rw [if_pos h1, decide_eq_false (by rw [i32_lt] at h1; omega)]; rfl
  · rw [if_neg h1]
    rw [i32_lt] at h1
    rw [decide_eq_true (by omega), Bool.true_and]
    by_cases h2 : hi < x9
    · rw [if_pos h2, decide_eq_false (by rw [i32_lt] at h2; omega)]; rfl
    · rw [if_neg h2]
      rw [i32_lt] at h2
      rw [decide_eq_true (by omega)]; rfl
theorem m_inI (x9 : Int32) (lo hi : Int64) : zcall X (d + 1) 153 [.inr (.inl x9.toInt64), .inr (.inl lo), .inr (.inl hi)] (L, zB1, I, J) = some (some (.inl (b2i (wi x9 lo.toInt hi.toInt))), (L, zB1, I, J)) := by
  rw [m_in, Jvm.Kit.i64_of_i32]
  rfl
theorem c_hasCircuit {c : Cr} (h : CAt I 13 c) (hn : Cn c) : zcall X (d + 1) 146 [.inr (.inr (some (.inl 8, 0)))] (L, zB1, I, J) = some (some (.inl (b2i (decide (0 < men c)))), (L, zB1, I, J)) := by
  have h6 := hn.2.1
  rw [eX8_hasCircuit, h.men hn]
  by_cases h1 : men c = 0
  · rw [h1, if_pos (by decide), decide_eq_false (by omega)]; rfl
  · rw [if_neg (by show ¬ nI (men c) ≤ nI 0; rw [nle (by omega) (by omega)]; omega), decide_eq_true (by omega)]; rfl
end WITHIN
