/-! the class's circuit: years, and one circuit laid over another -/
/-- does trust grow in the year k? -/
def gB (mended : Int32) (k : Nat) : Bool := decide (8 ≤ k) || !bt mended k
def livK (g : Bool) (c : Cr) (k : Nat) : Cr := zfold k c (fun m c => if c 5 m = 1 then livS g c m else c)
theorem livK_n (g : Bool) (c : Cr) : ∀ k, men (livK g c k) = men c ∧ jud (livK g c k) = jud c ∧ (Cn c → Cn (livK g c k))
  | 0 => ⟨rfl, rfl, id⟩
  | k + 1 => by
    have ih := livK_n g c k
    have e : livK g c (k + 1) = if livK g c k 5 k = 1 then livS g (livK g c k) k else livK g c k := rfl
    rw [e]
    split
    · have h2 := livS_n g (livK g c k) k
      exact ⟨h2.1.trans ih.1, h2.2.1.trans ih.2.1, fun hn => h2.2.2 (ih.2.2 hn)⟩
    · exact ih
def yrS (g : Bool) (c : Cr) : Cr := cup (livK g (movS c) (men c)) 0 4 (livK g (movS c) (men c) 0 4 + 1)
theorem yrS_n (g : Bool) (c : Cr) : men (yrS g c) = men c ∧ jud (yrS g c) = jud c ∧ (Cn c → Cn (yrS g c)) := by
  have h1 := movK_n c (men c)
  have h2 := livK_n g (movS c) (men c)
  unfold yrS
  refine ⟨?_, ?_, ?_⟩
  · rw [men_cup (by omega), h2.1]; exact h1.1
  · rw [jud_cup (by omega), h2.2.1]; exact h1.2.1
  · exact fun hn => Cn_cup (by omega) (h2.2.2 (h1.2.2 hn))
def pasS (n : Nat) (mended : Int32) (c : Cr) : Cr := zfold n c (fun k c => yrS (gB mended k) c)
theorem pasS_n (mended : Int32) (c : Cr) : ∀ n, men (pasS n mended c) = men c ∧ jud (pasS n mended c) = jud c ∧ (Cn c → Cn (pasS n mended c))
  | 0 => ⟨rfl, rfl, id⟩
  | n + 1 => by
    have ih := pasS_n mended c n
    have h2 := yrS_n (gB mended n) (pasS n mended c)
    exact ⟨h2.1.trans ih.1, h2.2.1.trans ih.2.1, fun hn => h2.2.2 (ih.2.2 hn)⟩
section CPASS
variable {X : Nat → Nat → Int32} {d : Nat} {L : List zK} {I : Nat → Nat → Int32} {J : Nat → Nat → Int64} {b : Nat} {c : Cr}
theorem c_live_all (h : CAt I b c) (hn : Cn c) (g : Bool) (v1 v2 v3 : Int32) : ∃ I' v5, zgo X (zcall X (d+3)) none kX1_passYears 35 [some (.inr (.inr (some (.inl 1, b)))), some (.inl (v1)), some (.inl (v2)), some (.inl (v3)), some (.inl (b2i g)), some (.inl (0))] [] (L, zB1, I, J) = zgo X (zcall X (d+3)) none kX1_passYears 2 [some (.inr (.inr (some (.inl 1, b)))), some (.inl (v1)), some (.inl (v2)), some (.inl (v3 + 1)), some (.inl (b2i g)), v5] [] (L, zB1, I', J) ∧ CAt I' b (cup (livK g c (men c)) 0 4 (livK g c (men c) 0 4 + 1)) ∧ Fr b I I' := by
  have h6 := hn.2.1
  have := zloopR (fun k (I : Nat → Nat → Int32) => zgo X (zcall X (d+3)) none kX1_passYears 35 [some (.inr (.inr (some (.inl 1, b)))), some (.inl (v1)), some (.inl (v2)), some (.inl (v3)), some (.inl (b2i g)), some (.inl (nI k))] [] (L, zB1, I, J)) (fun k I' => CAt I' b (livK g c k) ∧ Fr b I I') (men c) (fun k I1 hk hp => by
    obtain ⟨hc, hf⟩ := hp
    try dsimp only at hc hf ⊢
    have hN := livK_n g c k
    have hn1 := hN.2.2 hn
    have hk1 : k < men (livK g c k) := by rw [hN.1]; exact hk
    have e : livK g c (k + 1) = if livK g c k 5 k = 1 then livS g (livK g c k) k else livK g c k := rfl
    rw [e, bX1_passYears_35, hc.men hn1, hN.1, if_neg (by rw [nle (by omega) (by omega)]; omega), zin_nI (show k < 6 by omega) (by omega), zbt_t, ncl (by omega), hc.m hk1 5 (by omega) (by omega)]
    by_cases h1 : livK g c k 5 k = 1
    · rw [if_pos h1, if_pos h1]
      obtain ⟨I2, e2, hc2, hf2⟩ := c_liveBeside (X := X) (d := d) (L := L) (J := J) hc hn1 hk1 g
      rw [e2, cV_some, bX1_passYears_63, nI_1]
      exact ⟨I2, rfl, hc2, hf.tr hf2⟩
    · rw [if_neg h1, if_neg h1, bX1_passYears_63, nI_1]
      exact ⟨I1, rfl, hc, hf⟩) (a := I) ⟨h, Fr.rf b I⟩
  obtain ⟨I1, e, hc, hf⟩ := this
  have hN := livK_n g c (men c)
  refine ⟨zup I1 b 4 (livK g c (men c) 0 4 + 1), some (.inl (nI (men c))), (show _ = _ from e).trans ?_, ?_, ?_⟩
  · try dsimp only
    rw [bX1_passYears_35, hc.men (hN.2.2 hn), hN.1, if_pos (by rw [nle (by omega) (by omega)]; omega), hc.nn (by omega)]
  · exact hc.up (f := 0) (by omega)
  · exact hf.up (f := 0) (by omega)
theorem c_passYears (h : CAt I b c) (hn : Cn c) {n : Nat} (hN : n < 2 ^ 31) (mended : Int32) : ∃ I', zcall X (d + 4) 20 [.inr (.inr (some (.inl 1, b))), .inl (nI n), .inl mended] (L, zB1, I, J) = some (none, (L, zB1, I', J)) ∧ CAt I' b (pasS n mended c) ∧ Fr b I I' := by
  rw [eX1_passYears]
  have := zloopR (fun k (s : Option zV × Option zV × (Nat → Nat → Int32)) => zgo X (zcall X (d+3)) none kX1_passYears 2 [some (.inr (.inr (some (.inl 1, b)))), some (.inl (nI n)), some (.inl (mended)), some (.inl (nI k)), s.1, s.2.1] [] (L, zB1, s.2.2, J)) (fun k s => CAt s.2.2 b (pasS k mended c) ∧ Fr b I s.2.2) n (fun k s hk hp => by
    obtain ⟨u4, u5, I1⟩ := s
    obtain ⟨hc, hf⟩ := hp
    try dsimp only at hc hf ⊢
    have hP := pasS_n mended c k
    have hn1 := hP.2.2 hn
    obtain ⟨I2, e2, hc2, hf2⟩ := c_moveIn (X := X) (d := d) (L := L) (J := J) hc hn1
    have hM := movK_n (pasS k mended c) (men (pasS k mended c))
    have hn2 := hM.2.2 hn1
    obtain ⟨I3, v5, e3, hc3, hf3⟩ := c_live_all (X := X) (d := d) (L := L) (J := J) hc2 hn2 (gB mended k) (nI n) mended (nI k)
    rw [bX1_passYears_2, if_neg (by rw [nle (by omega) (by omega)]; omega), e2, cV_some, bX1_passYears_11]
    have fin : zgo X (zcall X (d+3)) none kX1_passYears 35 [some (.inr (.inr (some (.inl 1, b)))), some (.inl (nI n)), some (.inl (mended)), some (.inl (nI k)), some (.inl (b2i (gB mended k))), some (.inl (0))] [] (L, zB1, I2, J) = zgo X (zcall X (d+3)) none kX1_passYears 2 [some (.inr (.inr (some (.inl 1, b)))), some (.inl (nI n)), some (.inl (mended)), some (.inl (nI (k + 1))), some (.inl (b2i (gB mended k))), v5] [] (L, zB1, I3, J) := by
      rw [e3, nI_1]
    refine ⟨(_, v5, I3), Eq.trans ?_ fin, ?_, (hf.tr hf2).tr hf3⟩
    · rw [bX1_passYears_25]
      unfold gB
      by_cases h8 : 8 ≤ k
      · rw [if_pos (show (8 : Int32) ≤ nI k by show nI 8 ≤ nI k; rw [nle (by omega) (by omega)]; omega), decide_eq_true h8]
        rfl
      · rw [if_neg (show ¬ (8 : Int32) ≤ nI k by show ¬ nI 8 ≤ nI k; rw [nle (by omega) (by omega)]; omega), decide_eq_false h8, bt_get _ (show k < 32 by omega)]
        cases bt mended k with
        | true => exact if_neg (by decide)
        | false => exact if_pos rfl
    · have : men (movS (pasS k mended c)) = men (pasS k mended c) := hM.1
      rw [this] at hc3
      exact hc3) (a := (none, none, I)) ⟨h, Fr.rf b I⟩
  obtain ⟨⟨u4, u5, I1⟩, e, hc, hf⟩ := this
  refine ⟨I1, (show _ = _ from e).trans ?_, hc, hf⟩
  try dsimp only
  rw [bX1_passYears_2, if_pos (by rw [nle (by omega) (by omega)]; omega)]
theorem c_takeFrom {b2 : Nat} (h : CAt I b2 c) (hn : Cn c) (hb : b + 7 < b2 ∨ b2 + 7 < b) : ∃ I', zcall X (d + 1) 12 [.inr (.inr (some (.inl 1, b))), .inr (.inr (some (.inl 1, b2)))] (L, zB1, I, J) = some (none, (L, zB1, I', J)) ∧ CAt I' b c ∧ Fr b I I' := by
  have h6 := hn.2.1
  have h4 := hn.2.2.2
  have k4 : (decide (0 ≤ (4 : Int32).toInt) && (decide (0 ≤ (0 : Int32).toInt) && (decide (0 ≤ (0 : Int32).toInt) && (decide ((0 : Int32).toInt + (4 : Int32).toInt ≤ ((4 : Nat) : Int)) && decide ((0 : Int32).toInt + (4 : Int32).toInt ≤ ((4 : Nat) : Int)))))) = true := by decide +kernel
  have k6 : (decide (0 ≤ (6 : Int32).toInt) && (decide (0 ≤ (0 : Int32).toInt) && (decide (0 ≤ (0 : Int32).toInt) && (decide ((0 : Int32).toInt + (6 : Int32).toInt ≤ ((6 : Nat) : Int)) && decide ((0 : Int32).toInt + (6 : Int32).toInt ≤ ((6 : Nat) : Int)))))) = true := by decide +kernel
  have z0 : (0 : Int32).toNatClampNeg = 0 := rfl
  have z4 : (4 : Int32).toNatClampNeg = 4 := rfl
  have z6 : (6 : Int32).toNatClampNeg = 6 := rfl
  rw [eX1_takeFrom, k4, zbt_t, bX1_takeFrom_59, k4, zbt_t, bX1_takeFrom_73, k6, zbt_t, bX1_takeFrom_88, k6, zbt_t, bX1_takeFrom_103, k6, zbt_t, bX1_takeFrom_118, k6, zbt_t, bX1_takeFrom_133, k6, zbt_t, bX1_takeFrom_148, z0, z4, z6]
  refine ⟨_, rfl, ?_, ?_⟩
  · intro f i hv
    rw [← h f i hv]
    have hf : f = 0 ∧ i < 5 ∨ f = 1 ∧ i < 4 ∨ f = 2 ∧ i < 4 ∨ f = 3 ∧ i < 6 ∨ f = 4 ∧ i < 6 ∨ f = 5 ∧ i < 6 ∨ f = 6 ∧ i < 6 ∨ f = 7 ∧ i < 6 := by unfold vld at hv; omega
    have ii : 0 + (i - 0) = i := by omega
    rcases hf with ⟨rfl, hi⟩ | ⟨rfl, hi⟩ | ⟨rfl, hi⟩ | ⟨rfl, hi⟩ | ⟨rfl, hi⟩ | ⟨rfl, hi⟩ | ⟨rfl, hi⟩ | ⟨rfl, hi⟩
    · show _ = I b2 i
      have h5 : i = 0 ∨ i = 1 ∨ i = 2 ∨ i = 3 ∨ i = 4 := by omega
      simp (disch := omega) only [zur_ne, Nat.add_zero]
      have hbb : ¬ (b2 = b) := by omega
      rcases h5 with rfl | rfl | rfl | rfl | rfl <;> simp [zup_at, hbb]
    all_goals
      simp (disch := omega) only [zur_ne, zur_eq, zup_ne]
      unfold va_cpy
      rw [if_pos (by omega), ii]
  · intro a ha
    simp (disch := omega) only [zur_ne, zup_ne]
end CPASS
