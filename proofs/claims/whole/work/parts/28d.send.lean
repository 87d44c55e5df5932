/-! sending: the plan, the reference -/
def FL (I I' : Nat → Nat → Int32) : Prop := ∀ a, ¬ (243 ≤ a ∧ a ≤ 251) → I' a = I a
theorem FL.CAt {I I' : Nat → Nat → Int32} (h : FL I I') {c : Cr} (hc : CAt I 235 c) : CAt I' 235 c := fun f i hv => by
  have := vld_le hv
  rw [h _ (by omega)]
  exact hc f i hv
section SENDP
variable {X : Nat → Nat → Int32} {d : Nat} {L : List zK} {I : Nat → Nat → Int32} {J : Nat → Nat → Int64} {c : Cr} {n : Nat}
theorem c_plan (h : CAt I 13 c) (hv : Iv c) (hj0 : 0 < jud c) (hn31 : n < 2 ^ 31) : ∃ I', zcall X (d + 12) 63 [.inr (.inr (some (.inl 5, 234))), .inr (.inr (some (.inl 1, 13))), .inl (nI n)] (L, zB1, I, J) = some (none, (L, zB1, I', J)) ∧ SI c n (kK c (men c)) I' ∧ CAt I' 235 c ∧ Q I I' := by
  have hn := hv.1
  have h6 := hn.2.1
  have h4 := hn.2.2.2
  obtain ⟨I0, e0, h0, f0⟩ := c_takeFrom (X := X) (d := d + 10) (L := L) (J := J) (b := 235) h hn (by omega)
  have hC1 : CAt (zup I0 234 5 (whoS c 0)) 235 c := fun f i hv' => by rw [zup_ne (by omega)]; exact h0 f i hv'
  obtain ⟨⟨u, I1⟩, e1, w1, f1⟩ := zloopR (fun k (s : Option zV × (Nat → Nat → Int32)) => zgo X (zcall X (d+11)) none kX5_planSending 22 [some (.inr (.inr (some (.inl 5, 234)))), some (.inr (.inr (some (.inl 1, 13)))), some (.inl (nI n)), some (.inl (nI k)), s.1] [] (L, zB1, s.2, J)) (fun k s => (∀ j, j < k → ∀ t, t < 64 → nI t &&& (whoS c 0 ^^^ (-1)) = 0 → s.2 251 (64 * j + t) = WS c n j (nI t)) ∧ FL (zup I0 234 5 (whoS c 0)) s.2) (jud c) (fun k s hk hp => by
    obtain ⟨u, I1⟩ := s
    obtain ⟨w1, f1⟩ := hp
    try dsimp only at w1 f1 ⊢
    obtain ⟨I2, e2, w2, f2⟩ := zloopR (fun t (s : Nat → Nat → Int32) => zgo X (zcall X (d+11)) none kX5_planSending 36 [some (.inr (.inr (some (.inl 5, 234)))), some (.inr (.inr (some (.inl 1, 13)))), some (.inl (nI n)), some (.inl (nI k)), some (.inl (nI t))] [] (L, zB1, s, J)) (fun t s => (∀ j, j ≤ k → ∀ t', t' < 64 → (j < k ∨ t' < t) → nI t' &&& (whoS c 0 ^^^ (-1)) = 0 → s 251 (64 * j + t') = WS c n j (nI t')) ∧ FL (zup I0 234 5 (whoS c 0)) s) 64 (fun t s ht hp => by
      obtain ⟨w2, f2⟩ := hp
      try dsimp only at w2 f2 ⊢
      have hC := f2.CAt hC1
      have h5 : s 234 5 = whoS c 0 := by rw [f2 234 (by omega), zup_at, if_pos ⟨rfl, rfl⟩]
      obtain ⟨I3, e3, f3⟩ := c_worth (X := X) (d := d + 6) (L := L) (J := J) (j := k) hC hn h5 (nI t) hn31
      have ei : nI k * 64 + nI t = nI (64 * k + t) := by
        show nI k * nI 64 + nI t = _
        rw [nI_mul, nI_add, Nat.mul_comm]
      rw [bX5_planSending_36, if_neg (by show ¬ nI 64 ≤ nI t; rw [nle (by omega) (by omega)]; omega), h5, e3, cI_some, bX5_planSending_74, ei, zin_nI (show 64 * k + t < 256 by omega) (by omega), zbt_t, ncl (by omega), nI_1]
      by_cases q : nI t &&& (whoS c 0 ^^^ (-1)) = 0
      · rw [if_pos q]
        refine ⟨_, rfl, fun j hj t' ht' hlt hsub => ?_, fun a ha => ?_⟩
        · rw [zup_at]
          by_cases e : j = k ∧ t' = t
          · rw [if_pos ⟨rfl, by omega⟩, e.1, e.2]
          · rw [if_neg (by omega), f3 251 (by omega)]
            exact w2 j hj t' ht' (by omega) hsub
        · rw [zup_ne (by omega), f3 a (by omega), f2 a ha]
      · rw [if_neg q]
        refine ⟨s, rfl, fun j hj t' ht' hlt hsub => w2 j hj t' ht' ?_ hsub, f2⟩
        by_cases e : j = k ∧ t' = t
        · rw [e.2] at hsub; exact absurd hsub q
        · omega) (a := I1) ⟨fun j hj t' ht' hlt hsub => w1 j (by omega) t' ht' hsub, f1⟩
    have hC := f1.CAt hC1
    rw [bX5_planSending_22, show I1 235 0 = nI (jud c) from hC.jud hn, if_neg (by rw [nle (by omega) (by omega)]; omega)]
    refine ⟨(some (.inl (nI 64)), I2), (show _ = _ from e2).trans ?_, fun j hj t ht hsub => w2 j (by omega) t ht (by omega) hsub, f2⟩
    try dsimp only
    rw [bX5_planSending_36, if_pos (by show nI 64 ≤ nI 64; rw [nle (by omega) (by omega)]; omega), nI_1]) (a := ((none : Option zV), zup I0 234 5 (whoS c 0))) ⟨fun j hj => by omega, fun _ _ => rfl⟩
  try dsimp only at w1 f1
  have hC := f1.CAt hC1
  have hC2 : CAt (zup I1 234 7 (-1)) 235 c := fun f i hv' => by rw [zup_ne (by omega)]; exact hC f i hv'
  obtain ⟨I2, e2, s2, f2, g2⟩ := c_sendFrom (X := X) (d := d + 8 - men c) (L := L) (J := J) (n := n) hv hj0 (men c) 0 (zup I1 234 7 (-1)) (Nat.le_refl _) hC2 (by rw [zup_at, if_neg (by omega), f1 234 (by omega), zup_at, if_pos ⟨rfl, rfl⟩]) (fun j hj t ht hsub => by rw [zup_ne (by omega)]; exact w1 j hj t ht hsub) (by
    rw [Nat.zero_mul]
    exact ⟨by rw [zup_at, if_pos ⟨rfl, rfl⟩]; rfl, fun q => by omega⟩) (fun i hi => by omega)
  rw [show d + 8 - men c + 3 + men c = d + 11 by omega, show men c - men c = 0 by omega] at e2
  rw [Nat.zero_add, Nat.one_mul] at s2
  refine ⟨I2, ?_, s2, f2.CAt hC2, fun a i k => ?_⟩
  · rw [eX5_planSending, e0, cV_some, bX5_planSending_8, c_whoAre h0 hn, cI_some, bX5_planSending_17]
    refine (show _ = _ from e1).trans ?_
    try dsimp only
    rw [bX5_planSending_22, show I1 235 0 = nI (jud c) from hC.jud hn, if_pos (by rw [nle (by omega) (by omega)]; omega), show zcall X (d + 11) 65 [.inr (.inr (some (.inl 5, 234))), .inl 0] _ = _ from e2, cV_some, bX5_planSending_97]
  · unfold kor at k
    rw [f2 a i (by omega) (by omega) (by omega), zup_ne (by omega), f1 a (by omega), zup_ne (by omega), f0 a (by omega)]
end SENDP
/-- of the first k men, those who wait -/
def wp (c : Cr) : Nat → Nat
  | 0 => 0
  | k + 1 => wp c k + (if c 5 k = 0 then 1 else 0)
theorem wp_s (c : Cr) (k : Nat) : wp c (k + 1) = wp c k + (if c 5 k = 0 then 1 else 0) := rfl
theorem wq_wp (c : Cr) : ∀ k, k ≤ men c → wq c k + wp c (men c - k) = wp c (men c)
  | 0, _ => by show 0 + wp c (men c) = _; omega
  | k + 1, h => by
    have ih := wq_wp c k (by omega)
    rw [show men c - k = (men c - (k + 1)) + 1 by omega, wp_s] at ih
    rw [wq_s]
    omega
theorem wq_men (c : Cr) : wq c (men c) = wp c (men c) := by
  have := wq_wp c (men c) (Nat.le_refl _)
  rw [Nat.sub_self] at this
  exact this
theorem wp_le (c : Cr) : ∀ k, wp c k ≤ k
  | 0 => Nat.le_refl _
  | k + 1 => by
    have := wp_le c k
    rw [wp_s]
    split <;> omega
theorem kK_le {c : Cr} (hn : Cn c) (hj : 0 < jud c) : kK c (men c) ≤ 4096 := by
  have h6 := hn.2.1
  have h4 := hn.2.2.2
  have hw := wp_le c (men c)
  unfold kK
  rw [wq_men]
  calc jud c ^ wp c (men c) ≤ 4 ^ wp c (men c) := Nat.pow_le_pow_left h4 _
    _ ≤ 4 ^ 6 := Nat.pow_le_pow_right (by omega) (by omega)
    _ = 4096 := by decide
theorem nI_div {x9 y9 : Nat} (hx : x9 < 2 ^ 31) (hy : 0 < y9) (hy2 : y9 < 2 ^ 31) : nI x9 / nI y9 = nI (x9 / y9) := by
  have hle : x9 / y9 ≤ x9 := Nat.div_le_self _ _
  apply Int32.toInt_inj.mp
  rw [lg_idiv_nonneg (by rw [nI_int hx]; omega) (by rw [nI_int hy2]; omega), nI_int hx, nI_int hy2, nI_int (by omega)]
  exact (Int.natCast_ediv x9 y9).symm
theorem nI_rem {x9 y9 : Nat} (hx : x9 < 2 ^ 31) (hy : 0 < y9) (hy2 : y9 < 2 ^ 31) : nI x9 - nI x9 / nI y9 * nI y9 = nI (x9 % y9) := by
  rw [nI_div hx hy hy2, nI_mul]
  have h1 := Nat.div_add_mod x9 y9
  have h2 := Nat.mod_lt x9 hy
  have h3 : x9 / y9 * y9 ≤ x9 := Nat.div_mul_le_self _ _
  have h4 : y9 * (x9 / y9) = x9 / y9 * y9 := Nat.mul_comm _ _
  apply Int32.toInt_inj.mp
  rw [Jvm.Kit.i32_sub (by rw [nI_int (by omega), nI_int (by omega)]; omega) (by rw [nI_int (by omega), nI_int (by omega)]; omega), nI_int (by omega), nI_int (by omega), nI_int (by omega)]
  omega
def asD (c : Cr) (t k : Nat) : Cr := fun f i => if f = 4 ∧ men c - k ≤ i ∧ i < men c ∧ c 5 i = 0 then asg c t i else c f i
theorem asD_0 (c : Cr) (t : Nat) : asD c t 0 = c := by
  funext f i
  exact if_neg (fun q => by omega)
theorem asD_ne {c : Cr} {t k f i : Nat} (h : f ≠ 4) : asD c t k f i = c f i := if_neg (fun q => h q.1)
theorem asD_n (c : Cr) (t k : Nat) : men (asD c t k) = men c ∧ jud (asD c t k) = jud c ∧ (Cn c → Cn (asD c t k)) := by
  have h1 : men (asD c t k) = men c := by unfold men; rw [asD_ne (by omega)]
  have h2 : jud (asD c t k) = jud c := by unfold jud; rw [asD_ne (by omega)]
  refine ⟨h1, h2, ?_⟩
  unfold Cn
  rw [h1, h2, asD_ne (by omega), asD_ne (by omega)]
  exact id
theorem asD_s {c : Cr} {t k : Nat} (hk : k < men c) : asD c t (k + 1) = if c 5 (men c - 1 - k) = 0 then cup (asD c t k) 4 (men c - 1 - k) (asg c t (men c - 1 - k)) else asD c t k := by
  funext f i
  by_cases w : c 5 (men c - 1 - k) = 0
  · rw [if_pos w]
    by_cases e : f = 4 ∧ i = men c - 1 - k
    · rw [e.1, e.2, cup_eq]
      exact if_pos ⟨rfl, by omega, by omega, w⟩
    · rw [cup_ne e]
      unfold asD
      by_cases w2 : f = 4 ∧ men c - k ≤ i ∧ i < men c ∧ c 5 i = 0
      · rw [if_pos w2, if_pos ⟨w2.1, by omega, w2.2.2⟩]
      · rw [if_neg w2, if_neg (fun q => w2 ⟨q.1, by omega, q.2.2⟩)]
  · rw [if_neg w]
    unfold asD
    by_cases w2 : f = 4 ∧ men c - k ≤ i ∧ i < men c ∧ c 5 i = 0
    · rw [if_pos w2, if_pos ⟨w2.1, by omega, w2.2.2⟩]
    · rw [if_neg w2, if_neg]
      rintro ⟨q1, q2, q3, q4⟩
      by_cases e : i = men c - 1 - k
      · rw [e] at q4; exact w q4
      · exact w2 ⟨q1, by omega, q3, q4⟩
theorem asD_all (c : Cr) (t : Nat) : asD c t (men c) = asC c (asg c t) := by
  funext f i
  unfold asD asC
  by_cases w : f = 4 ∧ i < men c ∧ c 5 i = 0
  · rw [if_pos w, if_pos ⟨w.1, by omega, w.2⟩]
  · rw [if_neg w, if_neg (fun q => w ⟨q.1, q.2.2⟩)]
