/-! the reference's row: places, reads, writes -/
theorem nI_mul (a b : Nat) : nI a * nI b = nI (a * b) := (Int32.ofNat_mul a b).symm
theorem zin_iffI {x9 : Int32} {n : Nat} : zin x9 n = (decide (0 ≤ x9.toInt) && decide (x9.toInt < (n : Int))) := rfl
def umx (k : Nat) : Nat × Nat := if k < 5 then (0, if k = 0 then 1 else if k = 1 then 0 else k) else if k < 13 then (1 + (k - 5) % 2, (k - 5) / 2) else (if (k - 13) % 5 = 0 then 3 else if (k - 13) % 5 = 1 then 4 else if (k - 13) % 5 = 2 then 6 else if (k - 13) % 5 = 3 then 5 else 7, (k - 13) / 5)
theorem umx_mix {c : Cr} (hn : Cn c) {f i : Nat} (h : vld c f i) : umx (mix f i) = (f, i) ∧ mix f i < 43 := by
  have h6 := hn.2.1
  have h4 := hn.2.2.2
  have hf : f = 0 ∧ i < 5 ∨ f = 1 ∧ i < 4 ∨ f = 2 ∧ i < 4 ∨ f = 3 ∧ i < 6 ∨ f = 4 ∧ i < 6 ∨ f = 5 ∧ i < 6 ∨ f = 6 ∧ i < 6 ∨ f = 7 ∧ i < 6 := by unfold vld at h; omega
  have a0 : ∀ i < 5, umx (mix 0 i) = (0, i) ∧ mix 0 i < 43 := by decide +kernel
  have a1 : ∀ i < 4, umx (mix 1 i) = (1, i) ∧ mix 1 i < 43 := by decide +kernel
  have a2 : ∀ i < 4, umx (mix 2 i) = (2, i) ∧ mix 2 i < 43 := by decide +kernel
  have a3 : ∀ i < 6, umx (mix 3 i) = (3, i) ∧ mix 3 i < 43 := by decide +kernel
  have a4 : ∀ i < 6, umx (mix 4 i) = (4, i) ∧ mix 4 i < 43 := by decide +kernel
  have a5 : ∀ i < 6, umx (mix 5 i) = (5, i) ∧ mix 5 i < 43 := by decide +kernel
  have a6 : ∀ i < 6, umx (mix 6 i) = (6, i) ∧ mix 6 i < 43 := by decide +kernel
  have a7 : ∀ i < 6, umx (mix 7 i) = (7, i) ∧ mix 7 i < 43 := by decide +kernel
  rcases hf with ⟨rfl, hi⟩ | ⟨rfl, hi⟩ | ⟨rfl, hi⟩ | ⟨rfl, hi⟩ | ⟨rfl, hi⟩ | ⟨rfl, hi⟩ | ⟨rfl, hi⟩ | ⟨rfl, hi⟩
  · exact a0 i hi
  · exact a1 i hi
  · exact a2 i hi
  · exact a3 i hi
  · exact a4 i hi
  · exact a5 i hi
  · exact a6 i hi
  · exact a7 i hi
theorem mix_inj {c : Cr} (hn : Cn c) {f i f' i' : Nat} (h : vld c f i) (h' : vld c f' i') (e : mix f i = mix f' i') : f = f' ∧ i = i' := by
  have h1 := (umx_mix hn h).1
  have h2 := (umx_mix hn h').1
  rw [e, h2] at h1
  exact ⟨(congrArg Prod.fst h1).symm, (congrArg Prod.snd h1).symm⟩
theorem MAt.up {I : Nat → Nat → Int32} {r : Nat} {c : Cr} (h : MAt I r c) (hn : Cn c) {f i : Nat} {v : Int32} (hf : f ≠ 0 ∨ 2 ≤ i) (hv : vld c f i) : MAt (zup I r (mix f i) v) r (cup c f i v) := by
  intro f' i' hv'
  rw [vld_cup hf] at hv'
  rw [zup_at]
  unfold cup
  by_cases e : f' = f ∧ i' = i
  · rw [if_pos e, if_pos ⟨rfl, by rw [e.1, e.2]⟩]
  · rw [if_neg e, if_neg (fun q => e (mix_inj hn hv' hv q.2))]
    exact h f' i' hv'
def FrM (r : Nat) (I I' : Nat → Nat → Int32) : Prop := ∀ a, a ≠ r → I' a = I a
theorem FrM.rf (r : Nat) (I : Nat → Nat → Int32) : FrM r I I := fun _ _ => rfl
theorem FrM.tr {r : Nat} {I I1 I2 : Nat → Nat → Int32} (h : FrM r I I1) (h2 : FrM r I1 I2) : FrM r I I2 := fun a ha => (h2 a ha).trans (h a ha)
theorem FrM.up {r : Nat} {I I1 : Nat → Nat → Int32} (h : FrM r I I1) {i : Nat} {v : Int32} : FrM r I (zup I1 r i v) := fun a ha => (zup_ne ha).trans (h a ha)
theorem FrM.MAt {r r' : Nat} {I I' : Nat → Nat → Int32} {c : Cr} (h : FrM r I I') (hc : MAt I r' c) (hr : r' ≠ r) : MAt I' r' c := by
  intro f i hv
  rw [h r' hr]
  exact hc f i hv
theorem MAt.men {I : Nat → Nat → Int32} {r : Nat} {c : Cr} (h : MAt I r c) (hn : Cn c) : I r 0 = nI (men c) := (h 0 1 (v0 (by omega))).trans hn.1
theorem MAt.jud {I : Nat → Nat → Int32} {r : Nat} {c : Cr} (h : MAt I r c) (hn : Cn c) : I r 1 = nI (jud c) := (h 0 0 (v0 (by omega))).trans hn.2.2.1
theorem cup_self (c : Cr) (f i : Nat) : cup c f i (c f i) = c := by
  funext f' i'
  unfold cup
  split
  · rename_i h; rw [h.1, h.2]
  · rfl
theorem cup_cup (c : Cr) (f i : Nat) (u v : Int32) : cup (cup c f i u) f i v = cup c f i v := by
  funext f' i'
  unfold cup
  split
  · rfl
  · rfl
theorem ix5 (m w : Nat) : (13 + (5 * nI m)) + nI w = nI (13 + 5 * m + w) := by
  show (nI 13 + nI 5 * nI m) + nI w = _
  rw [nI_mul, nI_add, nI_add]
theorem ix2 (j : Nat) : 5 + (2 * nI j) = nI (5 + 2 * j) := by
  show nI 5 + nI 2 * nI j = _
  rw [nI_mul, nI_add]
section MREAD
variable {X : Nat → Nat → Int32} {d : Nat} {L : List zK} {I : Nat → Nat → Int32} {J : Nat → Nat → Int64} {r : Nat} {c : Cr}
theorem m_ofw {m : Nat} (hm : m < 6) (w : Nat) (hw : w < 5) : zcall X (d + 1) 180 [.inr (.inr (some (.inr (.int, 43), r))), .inl (nI m), .inl (nI w)] (L, zB1, I, J) = some (some (.inl (I r (13 + 5 * m + w))), (L, zB1, I, J)) := by
  rw [eX9_of, ix5, zin_nI (show 13 + 5 * m + w < 43 by omega) (by omega), zbt_t, ncl (by omega)]
theorem m_bew {m : Nat} (hm : m < 6) (w : Nat) (hw : w < 5) (v : Int32) : zcall X (d + 1) 181 [.inr (.inr (some (.inr (.int, 43), r))), .inl (nI m), .inl (nI w), .inl v] (L, zB1, I, J) = some (none, (L, zB1, (zup I r (13 + 5 * m + w) v), J)) := by
  rw [eX9_be, ix5, zin_nI (show 13 + 5 * m + w < 43 by omega) (by omega), zbt_t, ncl (by omega)]
theorem mm (f m : Nat) (h : 3 ≤ f ∧ f ≤ 7) : mix f m = 13 + 5 * m + (if f = 5 then 3 else if f = 6 then 2 else if f = 7 then 4 else f - 3) := by
  have : f = 3 ∨ f = 4 ∨ f = 5 ∨ f = 6 ∨ f = 7 := by omega
  rcases this with rfl | rfl | rfl | rfl | rfl
  · show 13 + 5 * m = 13 + 5 * m + 0; rfl
  · show 14 + 5 * m = 13 + 5 * m + 1; omega
  · show 16 + 5 * m = 13 + 5 * m + 3; omega
  · show 15 + 5 * m = 13 + 5 * m + 2; omega
  · show 17 + 5 * m = 13 + 5 * m + 4; omega
theorem m_of0 (h : MAt I r c) (hn : Cn c) {m : Nat} (hm : m < men c) : zcall X (d + 1) 180 [.inr (.inr (some (.inr (.int, 43), r))), .inl (nI m), .inl 0] (L, zB1, I, J) = some (some (.inl (c 3 m)), (L, zB1, I, J)) := by
  have := hn.2.1
  have e : I r (13 + 5 * m + 0) = c 3 m := by rw [← h 3 m (vm hm (by omega) (by omega))]; rfl
  rw [← e]; exact m_ofw (by omega) 0 (by omega)
theorem m_of1 (h : MAt I r c) (hn : Cn c) {m : Nat} (hm : m < men c) : zcall X (d + 1) 180 [.inr (.inr (some (.inr (.int, 43), r))), .inl (nI m), .inl 1] (L, zB1, I, J) = some (some (.inl (c 4 m)), (L, zB1, I, J)) := by
  have := hn.2.1
  have e : I r (13 + 5 * m + 1) = c 4 m := by rw [← h 4 m (vm hm (by omega) (by omega)), mm 4 m (by omega)]; rfl
  rw [← e]; exact m_ofw (by omega) 1 (by omega)
theorem m_of2 (h : MAt I r c) (hn : Cn c) {m : Nat} (hm : m < men c) : zcall X (d + 1) 180 [.inr (.inr (some (.inr (.int, 43), r))), .inl (nI m), .inl 2] (L, zB1, I, J) = some (some (.inl (c 6 m)), (L, zB1, I, J)) := by
  have := hn.2.1
  have e : I r (13 + 5 * m + 2) = c 6 m := by rw [← h 6 m (vm hm (by omega) (by omega)), mm 6 m (by omega)]; rfl
  rw [← e]; exact m_ofw (by omega) 2 (by omega)
theorem m_of3 (h : MAt I r c) (hn : Cn c) {m : Nat} (hm : m < men c) : zcall X (d + 1) 180 [.inr (.inr (some (.inr (.int, 43), r))), .inl (nI m), .inl 3] (L, zB1, I, J) = some (some (.inl (c 5 m)), (L, zB1, I, J)) := by
  have := hn.2.1
  have e : I r (13 + 5 * m + 3) = c 5 m := by rw [← h 5 m (vm hm (by omega) (by omega)), mm 5 m (by omega)]; rfl
  rw [← e]; exact m_ofw (by omega) 3 (by omega)
theorem m_of4 (h : MAt I r c) (hn : Cn c) {m : Nat} (hm : m < men c) : zcall X (d + 1) 180 [.inr (.inr (some (.inr (.int, 43), r))), .inl (nI m), .inl 4] (L, zB1, I, J) = some (some (.inl (c 7 m)), (L, zB1, I, J)) := by
  have := hn.2.1
  have e : I r (13 + 5 * m + 4) = c 7 m := by rw [← h 7 m (vm hm (by omega) (by omega)), mm 7 m (by omega)]; rfl
  rw [← e]; exact m_ofw (by omega) 4 (by omega)
theorem m_be0 (h : MAt I r c) (hn : Cn c) {m : Nat} (hm : m < men c) (v : Int32) : ∃ I', zcall X (d + 1) 181 [.inr (.inr (some (.inr (.int, 43), r))), .inl (nI m), .inl 0, .inl v] (L, zB1, I, J) = some (none, (L, zB1, I', J)) ∧ MAt I' r (cup c 3 m v) ∧ FrM r I I' := by
  have := hn.2.1
  have hv : vld c 3 m := vm hm (by omega) (by omega)
  refine ⟨_, m_bew (by omega) 0 (by omega) v, ?_, (FrM.rf r I).up⟩
  exact h.up hn (by omega) hv
theorem m_be1 (h : MAt I r c) (hn : Cn c) {m : Nat} (hm : m < men c) (v : Int32) : ∃ I', zcall X (d + 1) 181 [.inr (.inr (some (.inr (.int, 43), r))), .inl (nI m), .inl 1, .inl v] (L, zB1, I, J) = some (none, (L, zB1, I', J)) ∧ MAt I' r (cup c 4 m v) ∧ FrM r I I' := by
  have := hn.2.1
  have hv : vld c 4 m := vm hm (by omega) (by omega)
  refine ⟨_, m_bew (by omega) 1 (by omega) v, ?_, (FrM.rf r I).up⟩
  have := h.up (v := v) hn (by omega) hv
  rw [mm 4 m (by omega)] at this
  exact this
theorem m_be2 (h : MAt I r c) (hn : Cn c) {m : Nat} (hm : m < men c) (v : Int32) : ∃ I', zcall X (d + 1) 181 [.inr (.inr (some (.inr (.int, 43), r))), .inl (nI m), .inl 2, .inl v] (L, zB1, I, J) = some (none, (L, zB1, I', J)) ∧ MAt I' r (cup c 6 m v) ∧ FrM r I I' := by
  have := hn.2.1
  have hv : vld c 6 m := vm hm (by omega) (by omega)
  refine ⟨_, m_bew (by omega) 2 (by omega) v, ?_, (FrM.rf r I).up⟩
  have := h.up (v := v) hn (by omega) hv
  rw [mm 6 m (by omega)] at this
  exact this
theorem m_be3 (h : MAt I r c) (hn : Cn c) {m : Nat} (hm : m < men c) (v : Int32) : ∃ I', zcall X (d + 1) 181 [.inr (.inr (some (.inr (.int, 43), r))), .inl (nI m), .inl 3, .inl v] (L, zB1, I, J) = some (none, (L, zB1, I', J)) ∧ MAt I' r (cup c 5 m v) ∧ FrM r I I' := by
  have := hn.2.1
  have hv : vld c 5 m := vm hm (by omega) (by omega)
  refine ⟨_, m_bew (by omega) 3 (by omega) v, ?_, (FrM.rf r I).up⟩
  have := h.up (v := v) hn (by omega) hv
  rw [mm 5 m (by omega)] at this
  exact this
theorem m_be4 (h : MAt I r c) (hn : Cn c) {m : Nat} (hm : m < men c) (v : Int32) : ∃ I', zcall X (d + 1) 181 [.inr (.inr (some (.inr (.int, 43), r))), .inl (nI m), .inl 4, .inl v] (L, zB1, I, J) = some (none, (L, zB1, I', J)) ∧ MAt I' r (cup c 7 m v) ∧ FrM r I I' := by
  have := hn.2.1
  have hv : vld c 7 m := vm hm (by omega) (by omega)
  refine ⟨_, m_bew (by omega) 4 (by omega) v, ?_, (FrM.rf r I).up⟩
  have := h.up (v := v) hn (by omega) hv
  rw [mm 7 m (by omega)] at this
  exact this
theorem m_severeOf (h : MAt I r c) (hn : Cn c) {j : Nat} (hj : j < jud c) : zcall X (d + 1) 182 [.inr (.inr (some (.inr (.int, 43), r))), .inl (nI j)] (L, zB1, I, J) = some (some (.inl (c 1 j)), (L, zB1, I, J)) := by
  have := hn.2.2.2
  rw [eX9_severeOf, ix2, zin_nI (show 5 + 2 * j < 43 by omega) (by omega), zbt_t, ncl (by omega), show I r (5 + 2 * j) = c 1 j from h 1 j (vj hj (by omega) (by omega))]
theorem m_isOpen (h : MAt I r c) (hn : Cn c) {j : Nat} (hj : j < jud c) : zcall X (d + 1) 183 [.inr (.inr (some (.inr (.int, 43), r))), .inl (nI j)] (L, zB1, I, J) = some (some (.inl (b2i (decide (c 2 j = 1)))), (L, zB1, I, J)) := by
  have := hn.2.2.2
  have e : I r (5 + 2 * j + 1) = c 2 j := by rw [← h 2 j (vj hj (by omega) (by omega))]; show _ = I r (6 + 2 * j); rw [show 5 + 2 * j + 1 = 6 + 2 * j by omega]
  rw [eX9_isOpen, ix2, nI_1, zin_nI (show 5 + 2 * j + 1 < 43 by omega) (by omega), zbt_t, ncl (by omega), e]
  by_cases h1 : c 2 j = 1
  · rw [if_pos h1, decide_eq_true h1]; rfl
  · rw [if_neg h1, decide_eq_false h1]; rfl
theorem m_in (x9 y9 z9 : Int64) : zcall X (d + 1) 153 [.inr (.inl x9), .inr (.inl y9), .inr (.inl z9)] (L, zB1, I, J) = some (some (.inl (b2i (decide (y9.toInt ≤ x9.toInt) && decide (x9.toInt ≤ z9.toInt)))), (L, zB1, I, J)) := by
  rw [eX9_in]
  by_cases h1 : x9.toInt < y9.toInt
  · rw [if_pos ((lg_cmp_lt _ _).2 (Int64.lt_iff_toInt_lt.2 h1)), decide_eq_false (by omega)]; rfl
  · rw [if_neg (fun q => h1 (Int64.lt_iff_toInt_lt.1 ((lg_cmp_lt _ _).1 q))), decide_eq_true (show y9.toInt ≤ x9.toInt by omega), Bool.true_and]
    by_cases h2 : z9.toInt < x9.toInt
    · rw [if_pos ((lg_cmp_gt _ _).2 (Int64.lt_iff_toInt_lt.2 h2)), decide_eq_false (by omega)]; rfl
    · rw [if_neg (fun q => h2 (Int64.lt_iff_toInt_lt.1 ((lg_cmp_gt _ _).1 q))), decide_eq_true (show x9.toInt ≤ z9.toInt by omega)]; rfl
theorem m_isMan (h : MAt I 287 c) (hn : Cn c) (q : Int32) : zcall X (d + 2) 176 [.inr (.inr (some (.inl 9, 283))), .inl q] (L, zB1, I, J) = some (some (.inl (b2i (zin q (men c)))), (L, zB1, I, J)) := by
  have h6 := hn.2.1
  have e0 : I 287 (0 : Int32).toNatClampNeg = nI (men c) := h.men hn
  rw [eX9_isMan, show zin 0 43 = true from rfl, zbt_t, e0, m_in, cI_some, bX9_isMan_15, zret_b]
  congr 4
  rw [zin_iffI, Jvm.Kit.i64_of_i32, Jvm.Kit.i64_of_i32, Jvm.Kit.i32_sub (by rw [nI_int (by omega)]; show _ ≤ _ - (1 : Int); omega) (by rw [nI_int (by omega)]; show _ - (1 : Int) < _; omega), nI_int (by omega)]
  show b2i (decide ((0 : Int) ≤ q.toInt) && decide (q.toInt ≤ (men c : Int) - 1)) = b2i (decide (0 ≤ q.toInt) && decide (q.toInt < (men c : Int)))
  congr 2
  rw [decide_eq_decide]
  omega
theorem m_isJudge (h : MAt I 287 c) (hn : Cn c) (q : Int32) : zcall X (d + 2) 177 [.inr (.inr (some (.inl 9, 283))), .inl q] (L, zB1, I, J) = some (some (.inl (b2i (zin q (jud c)))), (L, zB1, I, J)) := by
  have h6 := hn.2.2.2
  have e0 : I 287 (1 : Int32).toNatClampNeg = nI (jud c) := h.jud hn
  rw [eX9_isJudge, show zin 1 43 = true from rfl, zbt_t, e0, m_in, cI_some, bX9_isJudge_15, zret_b]
  congr 4
  rw [zin_iffI, Jvm.Kit.i64_of_i32, Jvm.Kit.i64_of_i32, Jvm.Kit.i32_sub (by rw [nI_int (by omega)]; show _ ≤ _ - (1 : Int); omega) (by rw [nI_int (by omega)]; show _ - (1 : Int) < _; omega), nI_int (by omega)]
  show b2i (decide ((0 : Int) ≤ q.toInt) && decide (q.toInt ≤ (jud c : Int) - 1)) = b2i (decide (0 ≤ q.toInt) && decide (q.toInt < (jud c : Int)))
  congr 2
  rw [decide_eq_decide]
  omega
theorem m_isThere (h : MAt I 287 c) (hn : Cn c) : zcall X (d + 1) 175 [.inr (.inr (some (.inl 9, 283)))] (L, zB1, I, J) = some (some (.inl (b2i (decide (0 < men c)))), (L, zB1, I, J)) := by
  have h6 := hn.2.1
  have e0 : I 287 (0 : Int32).toNatClampNeg = nI (men c) := h.men hn
  rw [eX9_isThere, show zin 0 43 = true from rfl, zbt_t, e0]
  by_cases h1 : men c = 0
  · rw [h1, if_pos (by decide), decide_eq_false (by omega)]; rfl
  · rw [if_neg (by show ¬ nI (men c) ≤ nI 0; rw [nle (by omega) (by omega)]; omega), decide_eq_true (by omega)]; rfl
end MREAD
