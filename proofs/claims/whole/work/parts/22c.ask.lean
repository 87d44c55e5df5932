/-! ask, on the reference's side -/
section ASKM
variable {X : Nat → Nat → Int32} {d : Nat} {L : List zK} {I : Nat → Nat → Int32} {J : Nat → Nat → Int64} {c : Cr} {I0 : Nat → Nat → Int32} {l : List Int32} {m : Nat}
theorem MAt.tR (h : MAt I0 287 c) (t : TR 297 283 25 I0 0 I l) : MAt I 287 c := by
  intro f i hv
  rw [t.2.2.2 287 _ (by omega) (by omega)]
  exact h f i hv
theorem m_push (t : TR 297 283 25 I0 0 I l) (hl : l.length < 16) (a : Int32) : ∃ I2, zcall X (d + 1) 232 [.inr (.inr (some (.inl 9, 283))), .inl a] (L, zB1, I, J) = some (none, (L, zB1, I2, J)) ∧ TR 297 283 25 I0 0 I2 (l ++ [a]) := by
  have h := t.1
  rw [Nat.zero_add] at h
  refine ⟨zup (zup I 297 l.length a) 283 25 (nI (l.length + 1)), ?_, t.tr (TR.one (by omega) I l.length a) (by omega)⟩
  rw [eX9_began, h, if_neg (by show ¬ nI 16 ≤ nI l.length; rw [nle (by omega) (by omega)]; omega), zin_nI hl (by omega), zbt_t, ncl (by omega), zup_ne (by omega), h, nI_1]
theorem m_plain (hM : MAt I0 287 c) (hn : Cn c) (hm : m < men c) (t : TR 297 283 25 I0 0 I l) (hl : l.length < 16) : ∃ I2, zcall X (d + 2) 233 [.inr (.inr (some (.inl 9, 283))), .inl (nI m)] (L, zB1, I, J) = some (some (.inl (c 6 m)), (L, zB1, I2, J)) ∧ TR 297 283 25 I0 0 I2 (l ++ [10]) := by
  obtain ⟨I1, e1, t1⟩ := m_push (X := X) (d := d) (L := L) (J := J) t hl 10
  refine ⟨I1, ?_, t1⟩
  rw [eX9_plainSize, e1, cV_some, bX9_plainSize_6, m_of2 (hM.tR t1) hn hm, cI_some, bX9_plainSize_15]
theorem m_wrong (hM : MAt I0 287 c) (hn : Cn c) (hm : m < men c) (hk : c 3 m = 4 ∨ c 3 m = 5) (t : TR 297 283 25 I0 0 I l) (hl : l.length < 14) : ∃ I2, zcall X (d + 3) 234 [.inr (.inr (some (.inl 9, 283))), .inl (nI m)] (L, zB1, I, J) = some (some (.inl (wSize (c 3 m) (c 6 m))), (L, zB1, I2, J)) ∧ TR 297 283 25 I0 0 I2 (l ++ lSz (c 3 m)) := by
  rcases hk with hk | hk
  · obtain ⟨I1, e1, t1⟩ := m_push (X := X) (d := d + 1) (L := L) (J := J) t (by omega) 13
    obtain ⟨I2, e2, t2⟩ := m_plain (X := X) (d := d) (L := L) (J := J) hM hn hm t1 (by rw [List.length_append]; show l.length + 1 < 16; omega)
    rw [List.append_assoc] at t2
    refine ⟨I2, ?_, by rw [hk]; exact t2⟩
    rw [eX9_wrongedSize, m_of0 (hM.tR t) hn hm, cI_some, bX9_wrongedSize_9, hk, if_neg (by decide), bX9_wrongedSize_18, if_pos rfl, bX9_wrongedSize_29, e1, cV_some, bX9_wrongedSize_35, e2, cI_some, bX9_wrongedSize_40, if_pos rfl]
    rfl
  · obtain ⟨I0', e0, t0⟩ := m_push (X := X) (d := d + 1) (L := L) (J := J) t (by omega) 14
    obtain ⟨I1, e1, t1⟩ := m_push (X := X) (d := d + 1) (L := L) (J := J) t0 (by rw [List.length_append]; show l.length + 1 < 16; omega) 13
    rw [List.append_assoc] at t1
    obtain ⟨I2, e2, t2⟩ := m_plain (X := X) (d := d) (L := L) (J := J) hM hn hm t1 (by rw [List.length_append]; show l.length + 2 < 16; omega)
    rw [List.append_assoc] at t2
    refine ⟨I2, ?_, by rw [hk]; exact t2⟩
    rw [eX9_wrongedSize, m_of0 (hM.tR t) hn hm, cI_some, bX9_wrongedSize_9, hk, if_pos rfl, bX9_wrongedSize_18, if_neg (by decide), e0, cV_some, bX9_wrongedSize_29, e1, cV_some, bX9_wrongedSize_35, e2, cI_some, bX9_wrongedSize_40, if_neg (by decide)]
    rfl
theorem m_mark56 (hM : MAt I0 287 c) (hn : Cn c) (hm : m < men c) (v2 : Int32) (t : TR 297 283 25 I0 0 I l) (hl : l.length < 14) : ∃ I2, zgo X (zcall X (d+4)) (some .int) kX9_markOf 56 [some (.inr (.inr (some (.inl 9, 283)))), some (.inl (nI m)), some (.inl (v2)), none] [] (L, zB1, I, J) = (if v2 = 1 then some (some (.inl ((nI m + c 7 m))), (L, zB1, I2, J)) else if v2 = 3 then some (some (.inl (((nI m + c 7 m) - 1000))), (L, zB1, I2, J)) else some (some (.inl ((2 * (nI m + c 7 m)))), (L, zB1, I2, J))) ∧ TR 297 283 25 I0 0 I2 (l ++ [21, 20]) := by
  obtain ⟨I0', e0, t0⟩ := m_push (X := X) (d := d + 3) (L := L) (J := J) t (by omega) 21
  obtain ⟨I1, e1, t1⟩ := m_push (X := X) (d := d + 3) (L := L) (J := J) t0 (by rw [List.length_append]; show l.length + 1 < 16; omega) 20
  rw [List.append_assoc] at t1
  refine ⟨I1, ?_, t1⟩
  rw [bX9_markOf_56, e0, cV_some, bX9_markOf_62, e1, cV_some, bX9_markOf_68, m_of4 (hM.tR t1) hn hm, cI_some, bX9_markOf_78]
theorem m_mark (hM : MAt I0 287 c) (hn : Cn c) (hm : m < men c) (hk : rg (c 3 m) 1 5) (t : TR 297 283 25 I0 0 I l) (hl : l.length < 10) : ∃ I2, zcall X (d + 5) 235 [.inr (.inr (some (.inl 9, 283))), .inl (nI m)] (L, zB1, I, J) = some (some (.inl (vMark (c 3 m) (nI m) (c 6 m) (c 7 m))), (L, zB1, I2, J)) ∧ TR 297 283 25 I0 0 I2 (l ++ aMark (c 3 m)) := by
  have h45 : c 3 m = 4 ∨ c 3 m = 5 → ∃ I2, zcall X (d + 5) 235 [.inr (.inr (some (.inl 9, 283))), .inl (nI m)] (L, zB1, I, J) = some (some (.inl (vMark (c 3 m) (nI m) (c 6 m) (c 7 m))), (L, zB1, I2, J)) ∧ TR 297 283 25 I0 0 I2 (l ++ aMark (c 3 m)) := by
    intro h
    obtain ⟨I0', e0, t0⟩ := m_push (X := X) (d := d + 3) (L := L) (J := J) t (by omega) 23
    obtain ⟨I1, e1, t1⟩ := m_push (X := X) (d := d + 3) (L := L) (J := J) t0 (by rw [List.length_append]; show l.length + 1 < 16; omega) 20
    rw [List.append_assoc] at t1
    obtain ⟨I2, e2, t2⟩ := m_wrong (X := X) (d := d + 1) (L := L) (J := J) hM hn hm h t1 (by rw [List.length_append]; show l.length + 2 < 14; omega)
    rw [List.append_assoc] at t2
    refine ⟨I2, ?_, by rcases h with h | h <;> rw [h] at t2 ⊢ <;> exact t2⟩
    rw [eX9_markOf, m_of0 (hM.tR t) hn hm, cI_some, bX9_markOf_9, if_neg (by rcases h with h | h <;> rw [h] <;> decide), e0, cV_some, bX9_markOf_21, e1, cV_some, bX9_markOf_27, e2, cI_some, bX9_markOf_33]
    rcases h with h | h <;> rw [h] <;> rfl
  rcases rg15 hk with h | h | h | h | h
  · obtain ⟨I2, e2, t2⟩ := m_mark56 (X := X) (d := d) (L := L) (J := J) hM hn hm 1 t (by omega)
    refine ⟨I2, ?_, by rw [h]; exact t2⟩
    rw [eX9_markOf, m_of0 (hM.tR t) hn hm, cI_some, bX9_markOf_9, h, if_pos (by decide), if_pos rfl, e2, if_pos rfl]; rfl
  · obtain ⟨I1, e1, t1⟩ := m_push (X := X) (d := d + 3) (L := L) (J := J) t (by omega) 24
    obtain ⟨I2, e2, t2⟩ := m_mark56 (X := X) (d := d) (L := L) (J := J) hM hn hm 2 t1 (by rw [List.length_append]; show l.length + 1 < 14; omega)
    rw [List.append_assoc] at t2
    refine ⟨I2, ?_, by rw [h]; exact t2⟩
    rw [eX9_markOf, m_of0 (hM.tR t) hn hm, cI_some, bX9_markOf_9, h, if_pos (by decide), if_neg (by decide), if_neg (by decide), e1, cV_some, e2, if_neg (by decide), if_neg (by decide)]; rfl
  · obtain ⟨I1, e1, t1⟩ := m_push (X := X) (d := d + 3) (L := L) (J := J) t (by omega) 22
    obtain ⟨I2, e2, t2⟩ := m_mark56 (X := X) (d := d) (L := L) (J := J) hM hn hm 3 t1 (by rw [List.length_append]; show l.length + 1 < 14; omega)
    rw [List.append_assoc] at t2
    refine ⟨I2, ?_, by rw [h]; exact t2⟩
    rw [eX9_markOf, m_of0 (hM.tR t) hn hm, cI_some, bX9_markOf_9, h, if_pos (by decide), if_neg (by decide), if_pos (by decide), e1, cV_some, e2, if_neg (by decide), if_pos rfl]; rfl
  · exact h45 (Or.inl h)
  · exact h45 (Or.inr h)
theorem m_sz32 (hM : MAt I0 287 c) (hn : Cn c) (hm : m < men c) (hk : rg (c 3 m) 1 5) (v2 : Int32) (t : TR 297 283 25 I0 0 I l) (hl : l.length < 8) : ∃ I2, zgo X (zcall X (d+6)) (some .int) kX9_sizeOf 32 [some (.inr (.inr (some (.inl 9, 283)))), some (.inl (nI m)), some (.inl (v2)), none] [] (L, zB1, I, J) = (if v2 = 2 then some (some (.inl ((-(c 6 m + vMark (c 3 m) (nI m) (c 6 m) (c 7 m))))), (L, zB1, I2, J)) else some (some (.inl ((c 6 m + vMark (c 3 m) (nI m) (c 6 m) (c 7 m)))), (L, zB1, I2, J))) ∧ TR 297 283 25 I0 0 I2 (l ++ (11 :: 10 :: aMark (c 3 m))) := by
  obtain ⟨I1, e1, t1⟩ := m_push (X := X) (d := d + 5) (L := L) (J := J) t (by omega) 11
  obtain ⟨I2, e2, t2⟩ := m_plain (X := X) (d := d + 4) (L := L) (J := J) hM hn hm t1 (by rw [List.length_append]; show l.length + 1 < 16; omega)
  rw [List.append_assoc] at t2
  obtain ⟨I3, e3, t3⟩ := m_mark (X := X) (d := d + 1) (L := L) (J := J) hM hn hm hk t2 (by rw [List.length_append]; show l.length + 2 < 10; omega)
  rw [List.append_assoc] at t3
  refine ⟨I3, ?_, t3⟩
  rw [bX9_sizeOf_32, e1, cV_some, bX9_sizeOf_38, e2, cI_some, bX9_sizeOf_43, e3, cI_some, bX9_sizeOf_50]
theorem m_size (hM : MAt I0 287 c) (hn : Cn c) (hm : m < men c) (hk : rg (c 3 m) 1 5) (t : TR 297 283 25 I0 0 I l) (hl : l.length < 7) : ∃ I2, zcall X (d + 7) 236 [.inr (.inr (some (.inl 9, 283))), .inl (nI m)] (L, zB1, I, J) = some (some (.inl (vSize (c 3 m) (nI m) (c 6 m) (c 7 m))), (L, zB1, I2, J)) ∧ TR 297 283 25 I0 0 I2 (l ++ aSize (c 3 m)) := by
  have h45 : c 3 m = 4 ∨ c 3 m = 5 → ∃ I2, zcall X (d + 7) 236 [.inr (.inr (some (.inl 9, 283))), .inl (nI m)] (L, zB1, I, J) = some (some (.inl (vSize (c 3 m) (nI m) (c 6 m) (c 7 m))), (L, zB1, I2, J)) ∧ TR 297 283 25 I0 0 I2 (l ++ aSize (c 3 m)) := by
    intro h
    obtain ⟨I2, e2, t2⟩ := m_wrong (X := X) (d := d + 3) (L := L) (J := J) hM hn hm h t (by omega)
    refine ⟨I2, ?_, by rcases h with h | h <;> rw [h] at t2 ⊢ <;> exact t2⟩
    rw [eX9_sizeOf, m_of0 (hM.tR t) hn hm, cI_some, bX9_sizeOf_9, if_neg (by rcases h with h | h <;> rw [h] <;> decide), e2, cI_some, bX9_sizeOf_20]
    rcases h with h | h <;> rw [h] <;> rfl
  rcases rg15 hk with h | h | h | h | h
  · obtain ⟨I2, e2, t2⟩ := m_sz32 (X := X) (d := d) (L := L) (J := J) hM hn hm hk 1 t (by omega)
    refine ⟨I2, ?_, by rw [h] at t2 ⊢; exact t2⟩
    rw [eX9_sizeOf, m_of0 (hM.tR t) hn hm, cI_some, bX9_sizeOf_9, if_pos (by rw [h]; decide), if_neg (by rw [h]; decide), show c 3 m = 1 from h]
    rw [h] at e2
    rw [e2, if_neg (by decide)]; rfl
  · obtain ⟨I1, e1, t1⟩ := m_push (X := X) (d := d + 5) (L := L) (J := J) t (by omega) 12
    obtain ⟨I2, e2, t2⟩ := m_sz32 (X := X) (d := d) (L := L) (J := J) hM hn hm hk 2 t1 (by rw [List.length_append]; show l.length + 1 < 8; omega)
    rw [List.append_assoc] at t2
    refine ⟨I2, ?_, by rw [h] at t2 ⊢; exact t2⟩
    rw [eX9_sizeOf, m_of0 (hM.tR t) hn hm, cI_some, bX9_sizeOf_9, if_pos (by rw [h]; decide), if_pos h, e1, cV_some, show c 3 m = 2 from h]
    rw [h] at e2
    rw [e2, if_pos rfl]; rfl
  · obtain ⟨I2, e2, t2⟩ := m_sz32 (X := X) (d := d) (L := L) (J := J) hM hn hm hk 3 t (by omega)
    refine ⟨I2, ?_, by rw [h] at t2 ⊢; exact t2⟩
    rw [eX9_sizeOf, m_of0 (hM.tR t) hn hm, cI_some, bX9_sizeOf_9, if_pos (by rw [h]; decide), if_neg (by rw [h]; decide), show c 3 m = 3 from h]
    rw [h] at e2
    rw [e2, if_neg (by decide)]; rfl
  · exact h45 (Or.inl h)
  · exact h45 (Or.inr h)
end ASKM
