/-! the class's circuit: a year beside the judge -/
theorem CAt.nn {I : Nat → Nat → Int32} {b : Nat} {c : Cr} (h : CAt I b c) {i : Nat} (hi : i < 5) : I b i = c 0 i := h 0 i (v0 hi)
def lv1 (g : Bool) (c : Cr) (m : Nat) : Cr := if g = true then cup c 7 m (if c 7 m + grS c m < 99 then c 7 m + grS c m else 99) else c
def lv2 (c : Cr) (m : Nat) : Cr := if c 3 m = 2 then c else if 0 < c 6 m - 1 then cup c 6 m (c 6 m - 1) else cup (cup (cup c 6 m (c 6 m - 1)) 6 m 0) 5 m (if c 7 m < c 0 3 then 2 else 3)
def livS (g : Bool) (c : Cr) (m : Nat) : Cr := lv2 (lv1 g c m) m
theorem lv1_n (g : Bool) (c : Cr) (m : Nat) : men (lv1 g c m) = men c ∧ jud (lv1 g c m) = jud c ∧ (Cn c → Cn (lv1 g c m)) := by
  unfold lv1
  split
  · exact ⟨men_cup (by omega), jud_cup (by omega), Cn_cup (by omega)⟩
  · exact ⟨rfl, rfl, id⟩
theorem lv2_n (c : Cr) (m : Nat) : men (lv2 c m) = men c ∧ jud (lv2 c m) = jud c ∧ (Cn c → Cn (lv2 c m)) := by
  unfold lv2
  split
  · exact ⟨rfl, rfl, id⟩
  · split
    · exact ⟨men_cup (by omega), jud_cup (by omega), Cn_cup (by omega)⟩
    · refine ⟨?_, ?_, ?_⟩
      · rw [men_cup (by omega), men_cup (by omega), men_cup (by omega)]
      · rw [jud_cup (by omega), jud_cup (by omega), jud_cup (by omega)]
      · exact fun hn => Cn_cup (by omega) (Cn_cup (by omega) (Cn_cup (by omega) hn))
theorem livS_n (g : Bool) (c : Cr) (m : Nat) : men (livS g c m) = men c ∧ jud (livS g c m) = jud c ∧ (Cn c → Cn (livS g c m)) := by
  have h1 := lv1_n g c m
  have h2 := lv2_n (lv1 g c m) m
  exact ⟨h2.1.trans h1.1, h2.2.1.trans h1.2.1, fun hn => h2.2.2 (h1.2.2 hn)⟩
section CLIVE
variable {X : Nat → Nat → Int32} {d : Nat} {L : List zK} {I : Nat → Nat → Int32} {J : Nat → Nat → Int64} {b : Nat} {c : Cr}
theorem c_live36 (h : CAt I b c) (hn : Cn c) {m : Nat} (hm : m < men c) (v2 : Int32) : ∃ I', zgo X (zcall X (d)) none kX1_liveBeside 36 [some (.inr (.inr (some (.inl 1, b)))), some (.inl (nI m)), some (.inl (v2))] [] (L, zB1, I, J) = some (none, (L, zB1, I', J)) ∧ CAt I' b (lv2 c m) ∧ Fr b I I' := by
  have h6 := hn.2.1
  rw [bX1_liveBeside_36, zin_nI (show m < 6 by omega) (by omega), ncl (by omega)]
  simp only [zbt_t]
  rw [h.m hm 3 (by omega) (by omega), h.m hm 6 (by omega) (by omega)]
  unfold lv2
  by_cases h1 : c 3 m = 2
  · rw [if_pos h1, if_pos h1]
    exact ⟨I, rfl, h, Fr.rf b I⟩
  · rw [if_neg h1, if_neg h1]
    have e1 : zup I (b + 6) m (c 6 m - 1) (b + 6) m = c 6 m - 1 := by rw [zup_at, if_pos ⟨rfl, rfl⟩]
    rw [e1]
    by_cases h2 : 0 < c 6 m - 1
    · rw [if_pos h2, if_pos h2]
      exact ⟨_, rfl, h.up (by omega), (Fr.rf b I).up (by omega)⟩
    · rw [if_neg h2, if_neg h2]
      have e2 : zup (zup I (b + 6) m (c 6 m - 1)) (b + 6) m 0 (b + 7) m = c 7 m := by
        rw [zup_at, if_neg (by omega), zup_at, if_neg (by omega)]
        exact h.m hm 7 (by omega) (by omega)
      have e3 : zup (zup I (b + 6) m (c 6 m - 1)) (b + 6) m 0 b 3 = c 0 3 := by
        rw [zup_at, if_neg (by omega), zup_at, if_neg (by omega)]
        exact h.nn (by omega)
      rw [e2, e3]
      split
      · exact ⟨_, rfl, ((h.up (by omega)).up (by omega)).up (by omega), (((Fr.rf b I).up (by omega)).up (by omega)).up (by omega)⟩
      · exact ⟨_, rfl, ((h.up (by omega)).up (by omega)).up (by omega), (((Fr.rf b I).up (by omega)).up (by omega)).up (by omega)⟩
theorem c_liveBeside (h : CAt I b c) (hn : Cn c) {m : Nat} (hm : m < men c) (g : Bool) : ∃ I', zcall X (d + 3) 22 [.inr (.inr (some (.inl 1, b))), .inl (nI m), .inl (b2i g)] (L, zB1, I, J) = some (none, (L, zB1, I', J)) ∧ CAt I' b (livS g c m) ∧ Fr b I I' := by
  have h6 := hn.2.1
  rw [eX1_liveBeside, c_isMan h hn, cI_some, bX1_liveBeside_5, zin_nI hm (by omega), zin_nI (show m < 6 by omega) (by omega), zbt_t, ncl (by omega), if_neg (by decide)]
  unfold livS lv1
  cases g with
  | false =>
    rw [if_pos (show b2i false = 0 from rfl), if_neg (by decide)]
    exact c_live36 h hn hm _
  | true =>
    rw [if_neg (by decide), if_pos rfl, c_growthOf h hn hm, cI_some, bX1_liveBeside_31, j_min, cI_some, bX1_liveBeside_35, zin_nI (show m < 6 by omega) (by omega), zbt_t, ncl (by omega), h.m hm 7 (by omega) (by omega)]
    obtain ⟨I', e, h2, h3⟩ := c_live36 (X := X) (d := d + 2) (L := L) (J := J) (h.up (f := 7) (i := m) (v := (if c 7 m + grS c m < 99 then c 7 m + grS c m else 99)) (by omega)) (Cn_cup (by omega) hn) (m := m) (by rw [men_cup (by omega)]; exact hm) (b2i true)
    exact ⟨I', e, h2, ((Fr.rf b I).up (by omega)).tr h3⟩
end CLIVE
