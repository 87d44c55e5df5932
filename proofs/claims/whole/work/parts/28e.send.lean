/-! sending: the reference's loops, the public call -/
def FrS (I I' : Nat → Nat → Int32) : Prop := ∀ a, a ≠ 289 → a ≠ 292 → a ≠ 293 → I' a = I a
theorem FrS.rf (I : Nat → Nat → Int32) : FrS I I := fun _ _ _ _ => rfl
theorem FrS.tr {I I1 I2 : Nat → Nat → Int32} (h : FrS I I1) (h2 : FrS I1 I2) : FrS I I2 := fun a k1 k2 k3 => (h2 a k1 k2 k3).trans (h a k1 k2 k3)
theorem FrM.S {I I' : Nat → Nat → Int32} (h : FrM 289 I I') : FrS I I' := fun a k1 _ _ => h a k1
theorem FrS.MAt {I I' : Nat → Nat → Int32} (h : FrS I I') {c : Cr} (hc : MAt I 287 c) : MAt I' 287 c := fun f i hv => by
  rw [h 287 (by omega) (by omega) (by omega)]; exact hc f i hv
theorem sub1 {m : Nat} (h : 0 < m) (h2 : m < 2 ^ 31) : nI m - 1 = nI (m - 1) := by
  apply Int32.toInt_inj.mp
  rw [Jvm.Kit.i32_sub (by rw [nI_int h2, i1]; omega) (by rw [nI_int h2, i1]; omega), nI_int h2, i1, nI_int (by omega)]
  omega
theorem addm1 (x9 : Int32) : x9 + (-1) = x9 - 1 := by rw [Int32.sub_eq_add_neg]
section SENDM
variable {X : Nat → Nat → Int32} {d : Nat} {L : List zK} {I : Nat → Nat → Int32} {J : Nat → Nat → Int64} {c : Cr} {n : Nat}
theorem m_send48 (h : MAt I 287 c) (hv : Iv c) (hj0 : 0 < jud c) (v1 v2 : Int32) : zgo X (zcall X (d+1)) (some .int) kX9_sending 48 [some (.inr (.inr (some (.inl 9, 283)))), some (.inl (v1)), some (.inl (v2)), some (.inl (1)), some (.inl (0)), none, none, none, none] [] (L, zB1, I, J) = zgo X (zcall X (d+1)) (some .int) kX9_sending 97 [some (.inr (.inr (some (.inl 9, 283)))), some (.inl (v1)), some (.inl (v2)), some (.inl (nI (kK c (men c)))), some (.inl ((-1))), some (.inl (0)), none, none, none] [] (L, zB1, I, J) := by
  have hn := hv.1
  have h6 := hn.2.1
  obtain ⟨⟨⟩, e1, _⟩ := zloopR (fun k (_ : Unit) => zgo X (zcall X (d+1)) (some .int) kX9_sending 48 [some (.inr (.inr (some (.inl 9, 283)))), some (.inl (v1)), some (.inl (v2)), some (.inl (nI (jud c ^ wp c k))), some (.inl (nI k)), none, none, none, none] [] (L, zB1, I, J)) (fun _ _ => True) (men c) (fun k _ hk _ => by
    refine ⟨(), ?_, trivial⟩
    try dsimp only
    rw [bX9_sending_48, show zin 0 43 = true from by decide, zbt_t, show I 287 (0 : Int32).toNatClampNeg = nI (men c) from h.men hn, if_neg (by rw [nle (by omega) (by omega)]; omega), m_of3 h hn hk, cI_some, bX9_sending_70, show zin 1 43 = true from by decide, zbt_t, show I 287 (1 : Int32).toNatClampNeg = nI (jud c) from h.jud hn, bX9_sending_83, bX9_sending_83, nI_1, wp_s]
    by_cases w : c 5 k = 0
    · rw [if_pos w, if_pos w, nI_mul, Nat.pow_succ]
    · rw [if_neg w, if_neg w, Int32.mul_one]
      rfl) (a := ()) trivial
  refine (show _ = _ from e1).trans ?_
  try dsimp only
  rw [bX9_sending_48, show zin 0 43 = true from by decide, zbt_t, show I 287 (0 : Int32).toNatClampNeg = nI (men c) from h.men hn, if_pos (by rw [nle (by omega) (by omega)]; omega)]
  unfold kK
  rw [wq_men]
theorem m_send121 (h : MAt I 287 c) (hv : Iv c) (hj0 : 0 < jud c) (hm0 : 0 < men c) (h9 : MAt I 289 c) {t : Nat} (ht : t < 4096) (v1 v2 v3 v4 v5 : Int32) (u8 : Option zV) : ∃ I' v6', zgo X (zcall X (d+1)) (some .int) kX9_sending 121 [some (.inr (.inr (some (.inl 9, 283)))), some (.inl (v1)), some (.inl (v2)), some (.inl (v3)), some (.inl (v4)), some (.inl (v5)), some (.inl (nI t)), some (.inl (nI (men c) - 1)), u8] [] (L, zB1, I, J) = zgo X (zcall X (d+1)) (some .int) kX9_sending 178 [some (.inr (.inr (some (.inl 9, 283)))), some (.inl (v1)), some (.inl (v2)), some (.inl (v3)), some (.inl (v4)), some (.inl (v5)), some (.inl (v6')), some (.inl (0)), u8] [] (L, zB1, I', J) ∧ MAt I' 289 (asC c (asg c t)) ∧ FrM 289 I I' := by
  have hn := hv.1
  have h6 := hn.2.1
  have h4 := hn.2.2.2
  obtain ⟨I1, e1, h1, f1⟩ := zloopR (fun k (s : Nat → Nat → Int32) => zgo X (zcall X (d+1)) (some .int) kX9_sending 121 [some (.inr (.inr (some (.inl 9, 283)))), some (.inl (v1)), some (.inl (v2)), some (.inl (v3)), some (.inl (v4)), some (.inl (v5)), some (.inl (nI (t / kK c k))), some (.inl (nI (men c - k) - 1)), u8] [] (L, zB1, s, J)) (fun k s => MAt s 289 (asD c t k) ∧ FrM 289 I s) (men c) (fun k s hk hp => by
    obtain ⟨h1, f1⟩ := hp
    try dsimp only at h1 f1 ⊢
    have hM : MAt s 287 c := f1.MAt h (by omega)
    have hD := asD_n c t k
    have hKp := kK_pos hj0 k
    have hle : t / kK c k ≤ t := Nat.div_le_self _ _
    rw [bX9_sending_121, sub1 (by omega) (by omega), if_neg (by show ¬ nI (men c - k - 1) < nI 0; rw [nlt (by omega) (by omega)]; omega), m_of3 hM hn (show men c - k - 1 < men c by omega), cI_some, bX9_sending_136, show zin 1 43 = true from by decide, zbt_t, show s 287 (1 : Int32).toNatClampNeg = nI (jud c) from hM.jud hn, if_neg (show ¬ nI (jud c) = 0 from fun e => by have := (nI_z (by omega)).1 e; omega), nI_rem (by omega) hj0 (by omega), addm1, show men c - (k + 1) = men c - k - 1 by omega, asD_s hk, show men c - 1 - k = men c - k - 1 by omega]
    by_cases w : c 5 (men c - k - 1) = 0
    · have eK : kK c (k + 1) = kK c k * jud c := by
        unfold kK
        rw [wq_s, show men c - (k + 1) = men c - k - 1 by omega, if_pos w, Nat.pow_succ]
      have ea : asg c t (men c - k - 1) = nI (t / kK c k % jud c) := by
        unfold asg
        rw [if_pos w, show men c - 1 - (men c - k - 1) = k by omega]
      obtain ⟨I2, e2, h2, f2⟩ := m_be1 (X := X) (d := d) (L := L) (J := J) h1 (hD.2.2 hn) (show men c - k - 1 < men _ by rw [hD.1]; omega) (nI (t / kK c k % jud c))
      have hM2 : MAt I2 287 c := f2.MAt hM (by omega)
      rw [if_pos w, if_pos w, e2, cV_some, bX9_sending_158, show zin 1 43 = true from by decide, zbt_t, show I2 287 (1 : Int32).toNatClampNeg = nI (jud c) from hM2.jud hn, if_neg (show ¬ nI (jud c) = 0 from fun e => by have := (nI_z (by omega)).1 e; omega), nI_div (by omega) hj0 (by omega), Nat.div_div_eq_div_mul, ← eK, ea, addm1]
      exact ⟨I2, rfl, h2, f1.tr f2⟩
    · have eK : kK c (k + 1) = kK c k := by
        unfold kK
        rw [wq_s, show men c - (k + 1) = men c - k - 1 by omega, if_neg w, Nat.add_zero]
      rw [if_neg w, if_neg w, eK]
      exact ⟨s, rfl, h1, f1⟩) (a := I) ⟨by rw [asD_0]; exact h9, FrM.rf _ _⟩
  rw [asD_all] at h1
  refine ⟨I1, nI (t / kK c (men c)), ?_, h1, f1⟩
  have e0 : t / kK c 0 = t := Nat.div_one t
  rw [e0] at e1
  refine (show _ = _ from e1).trans ?_
  try dsimp only
  rw [bX9_sending_121, Nat.sub_self, if_pos (by decide)]
theorem m_send178 (h : MAt I 287 c) (hn : Cn c) {t : Nat} (h9 : MAt I 289 (asC c (asg c t))) (v1 v2 v3 v4 v5 v6 : Int32) (u8 : Option zV) : ∃ I', zgo X (zcall X (d+1)) (some .int) kX9_sending 178 [some (.inr (.inr (some (.inl 9, 283)))), some (.inl (v1)), some (.inl (v2)), some (.inl (v3)), some (.inl (v4)), some (.inl (v5)), some (.inl (v6)), some (.inl (0)), u8] [] (L, zB1, I, J) = cV (zcall X (d + 1) 188 [.inr (.inr (some (.inr (.int, 43), 289))), .inl v1] (L, zB1, I', J)) (fun σ => zgo X (zcall X (d+1)) (some .int) kX9_sending 220 [some (.inr (.inr (some (.inl 9, 283)))), some (.inl (v1)), some (.inl (v2)), some (.inl (v3)), some (.inl (v4)), some (.inl (v5)), some (.inl (v6)), some (.inl (nI (men c))), u8] [] σ) ∧ (∀ m, m < men c → I' 293 m = asg c t m) ∧ FrM 293 I I' := by
  have h6 := hn.2.1
  have hA := asC_n c (asg c t)
  obtain ⟨I1, e1, h1, f1⟩ := zloopR (fun k (s : Nat → Nat → Int32) => zgo X (zcall X (d+1)) (some .int) kX9_sending 178 [some (.inr (.inr (some (.inl 9, 283)))), some (.inl (v1)), some (.inl (v2)), some (.inl (v3)), some (.inl (v4)), some (.inl (v5)), some (.inl (v6)), some (.inl (nI k)), u8] [] (L, zB1, s, J)) (fun k s => (∀ m, m < k → s 293 m = asg c t m) ∧ FrM 293 I s) (men c) (fun k s hk hp => by
    obtain ⟨h1, f1⟩ := hp
    try dsimp only at h1 f1 ⊢
    have hM : MAt s 287 c := f1.MAt h (by omega)
    have hM9 : MAt s 289 (asC c (asg c t)) := f1.MAt h9 (by omega)
    have ea : asC c (asg c t) 4 k = asg c t k := by
      by_cases w : c 5 k = 0
      · exact if_pos ⟨rfl, hk, w⟩
      · rw [show asC c (asg c t) 4 k = c 4 k from if_neg (fun q => w q.2.2)]
        unfold asg
        rw [if_neg w]
    rw [bX9_sending_178, show zin 0 43 = true from by decide, zbt_t, show s 287 (0 : Int32).toNatClampNeg = nI (men c) from hM.men hn, if_neg (by rw [nle (by omega) (by omega)]; omega), m_of1 hM9 (hA.2.2 hn) (show k < men _ by rw [hA.1]; exact hk), cI_some, bX9_sending_205, zin_nI (show k < 6 by omega) (by omega), zbt_t, ncl (by omega), nI_1, ea]
    refine ⟨_, rfl, fun m hm => ?_, f1.up⟩
    rw [zup_at]
    by_cases e : m = k
    · rw [if_pos ⟨rfl, e⟩, e]
    · rw [if_neg (by omega)]; exact h1 m (by omega)) (a := I) ⟨fun m hm => by omega, FrM.rf _ _⟩
  refine ⟨I1, (show _ = _ from e1).trans ?_, h1, f1⟩
  have hM : MAt I1 287 c := f1.MAt h (by omega)
  try dsimp only
  rw [bX9_sending_178, show zin 0 43 = true from by decide, zbt_t, show I1 287 (0 : Int32).toNatClampNeg = nI (men c) from hM.men hn, if_pos (by rw [nle (by omega) (by omega)]; omega)]
theorem m_send270 (h : MAt I 287 c) (hn : Cn c) {g : Nat → Int32} (h3 : ∀ m, m < men c → I 293 m = g m) (v1 v2 v3 v4 v5 v6 v7 : Int32) : ∃ I', zgo X (zcall X (d+1)) (some .int) kX9_sending 270 [some (.inr (.inr (some (.inl 9, 283)))), some (.inl (v1)), some (.inl (v2)), some (.inl (v3)), some (.inl (v4)), some (.inl (v5)), some (.inl (v6)), some (.inl (v7)), some (.inl (0))] [] (L, zB1, I, J) = zgo X (zcall X (d+1)) (some .int) kX9_sending 97 [some (.inr (.inr (some (.inl 9, 283)))), some (.inl (v1)), some (.inl (v2)), some (.inl (v3)), some (.inl (v4)), some (.inl ((v5 + 1))), some (.inl (v6)), some (.inl (v7)), some (.inl (nI (men c)))] [] (L, zB1, I', J) ∧ (∀ m, m < men c → I' 292 m = g m) ∧ FrM 292 I I' := by
  have h6 := hn.2.1
  obtain ⟨I1, e1, h1, f1⟩ := zloopR (fun k (s : Nat → Nat → Int32) => zgo X (zcall X (d+1)) (some .int) kX9_sending 270 [some (.inr (.inr (some (.inl 9, 283)))), some (.inl (v1)), some (.inl (v2)), some (.inl (v3)), some (.inl (v4)), some (.inl (v5)), some (.inl (v6)), some (.inl (v7)), some (.inl (nI k))] [] (L, zB1, s, J)) (fun k s => (∀ m, m < k → s 292 m = g m) ∧ FrM 292 I s) (men c) (fun k s hk hp => by
    obtain ⟨h1, f1⟩ := hp
    try dsimp only at h1 f1 ⊢
    have hM : MAt s 287 c := f1.MAt h (by omega)
    rw [bX9_sending_270, show zin 0 43 = true from by decide, zbt_t, show s 287 (0 : Int32).toNatClampNeg = nI (men c) from hM.men hn, if_neg (by rw [nle (by omega) (by omega)]; omega), zin_nI (show k < 6 by omega) (by omega), zbt_t, zbt_t, ncl (by omega), nI_1]
    refine ⟨_, rfl, fun m hm => ?_, f1.up⟩
    rw [zup_at]
    by_cases e : m = k
    · rw [if_pos ⟨rfl, e⟩, e, f1 293 (by omega)]; exact h3 k hk
    · rw [if_neg (by omega)]; exact h1 m (by omega)) (a := I) ⟨fun m hm => by omega, FrM.rf _ _⟩
  refine ⟨I1, (show _ = _ from e1).trans ?_, h1, f1⟩
  have hM : MAt I1 287 c := f1.MAt h (by omega)
  try dsimp only
  rw [bX9_sending_270, show zin 0 43 = true from by decide, zbt_t, show I1 287 (0 : Int32).toNatClampNeg = nI (men c) from hM.men hn, if_pos (by rw [nle (by omega) (by omega)]; omega)]
theorem m_send97 (h : MAt I 287 c) (hv : Iv c) (hj0 : 0 < jud c) (hm0 : 0 < men c) (hn31 : n < 2 ^ 31) (v2 : Int32) : ∃ I' u6 u7 u8, zgo X (zcall X (d+5)) (some .int) kX9_sending 97 [some (.inr (.inr (some (.inl 9, 283)))), some (.inl (nI n)), some (.inl (v2)), some (.inl (nI (kK c (men c)))), some (.inl ((-1))), some (.inl (0)), none, none, none] [] (L, zB1, I, J) = zgo X (zcall X (d+5)) (some .int) kX9_sending 97 [some (.inr (.inr (some (.inl 9, 283)))), some (.inl (nI n)), some (.inl (v2)), some (.inl (nI (kK c (men c)))), some (.inl ((gS c n (kK c (men c))).1)), some (.inl (nI (kK c (men c)))), u6, u7, u8] [] (L, zB1, I', J) ∧ (∀ m, m < men c → I' 292 m = asg c (gS c n (kK c (men c))).2 m) ∧ FrS I I' := by
  have hn := hv.1
  have h6 := hn.2.1
  have hK := kK_le hn hj0
  have hKp := kK_pos hj0 (men c)
  obtain ⟨⟨u6, u7, u8, I1⟩, e1, g1, f1⟩ := zloopR (fun t (s : Option zV × Option zV × Option zV × (Nat → Nat → Int32)) => zgo X (zcall X (d+5)) (some .int) kX9_sending 97 [some (.inr (.inr (some (.inl 9, 283)))), some (.inl (nI n)), some (.inl (v2)), some (.inl (nI (kK c (men c)))), some (.inl ((gS c n t).1)), some (.inl (nI t)), s.1, s.2.1, s.2.2.1] [] (L, zB1, s.2.2.2, J)) (fun t s => (0 < t → ∀ m, m < men c → s.2.2.2 292 m = asg c (gS c n t).2 m) ∧ FrS I s.2.2.2) (kK c (men c)) (fun t s ht hp => by
    obtain ⟨u6, u7, u8, I1⟩ := s
    obtain ⟨g1, f1⟩ := hp
    try dsimp only at g1 f1 ⊢
    have hM1 := f1.MAt h
    obtain ⟨I2, e2, h2, f2⟩ := m_layThen (X := X) (d := d + 4) (L := L) (J := J) hM1 hn
    have hM2 : MAt I2 287 c := f2.MAt hM1 (by omega)
    obtain ⟨I3, v6', e3, h3, f3⟩ := m_send121 (X := X) (d := d + 4) (L := L) (J := J) (t := t) hM2 hv hj0 hm0 h2 (by omega) (nI n) v2 (nI (kK c (men c))) (gS c n t).1 (nI t) u8
    have hM3 : MAt I3 287 c := f3.MAt hM2 (by omega)
    obtain ⟨I4, e4, g4, f4⟩ := m_send178 (X := X) (d := d + 4) (L := L) (J := J) (t := t) hM3 hn h3 (nI n) v2 (nI (kK c (men c))) (gS c n t).1 (nI t) v6' u8
    have hA := asg_ok hv hj0 t
    obtain ⟨I5, e5, h5, f5⟩ := m_yearsOf (X := X) (d := d + 1) (L := L) (J := J) (f4.MAt h3 (by omega)) hA hn31
    have hI := Iv_pasS 0 hA n
    have f15 : FrS I I5 := fun a k1 k2 k3 => by rw [f5 a k1, f4 a k3, f3 a k1, f2 a k1, f1 a k1 k2 k3]
    have hM5 := f15.MAt h
    rw [bX9_sending_97, if_neg (by rw [nle (by omega) (by omega)]; omega), e2, cV_some, bX9_sending_107, show zin 0 43 = true from by decide, zbt_t, show I2 287 (0 : Int32).toNatClampNeg = nI (men c) from hM2.men hn, e3, e4, e5, cV_some, bX9_sending_220, m_those h5 hI.1, cI_some, bX9_sending_231, m_those h5 hI.1, cI_some, bX9_sending_239, m_bits, cI_some, bX9_sending_243, m_trustAll h5 hI.1, cI_some, bX9_sending_253, show 1000 * bcS (whoS (pasS n 0 (asC c (asg c t))) 2 ||| whoS (pasS n 0 (asC c (asg c t))) 3) + taS (pasS n 0 (asC c (asg c t))) = valS c n (asg c t) from rfl, gS_s]
    by_cases q : valS c n (asg c t) ≤ (gS c n t).1
    · rw [if_pos q, if_pos q, nI_1]
      refine ⟨(some (.inl v6'), some (.inl (valS c n (asg c t))), u8, I5), rfl, fun _ => ?_, f15⟩
      have ht0 : 0 < t := by
        rcases Nat.eq_zero_or_pos t with e | e
        · have hr := val_rg (n := n) hA
          rw [e] at q hr
          rw [i32_le] at q
          have : ((gS c n 0).1).toInt = -1 := rfl
          omega
        · exact e
      intro m hm
      show I5 292 m = _
      rw [f5 292 (by omega), f4 292 (by omega), f3 292 (by omega), f2 292 (by omega)]
      exact g1 ht0 m hm
    · obtain ⟨I6, e6, g6, f6⟩ := m_send270 (X := X) (d := d + 4) (L := L) (J := J) (g := asg c t) hM5 hn (fun m hm => by rw [f5 293 (by omega)]; exact g4 m hm) (nI n) v2 (nI (kK c (men c))) (valS c n (asg c t)) (nI t) v6' (valS c n (asg c t))
      rw [nI_1] at e6
      rw [if_neg q, if_neg q, e6]
      exact ⟨(some (.inl v6'), some (.inl (valS c n (asg c t))), some (.inl (nI (men c))), I6), rfl, fun _ m hm => g6 m hm, fun a k1 k2 k3 => (f6 a k2).trans (f15 a k1 k2 k3)⟩) (a := (none, none, none, I)) ⟨fun q => by omega, FrS.rf I⟩
  exact ⟨I1, u6, u7, u8, e1, g1 hKp, f1⟩
theorem p_sending (a1 a2 : Int32) : Pub X (d + 20) L 127 207 [.inl a1, .inl a2] := by
  refine pub_of fun I J c hc _ => ?_
  obtain ⟨hC, hM, hv⟩ := hc
  have hn := hv.1
  have h6 := hn.2.1
  have c1 := eX8_sending X (d + 19) L I J a1 a2
  have em : I 13 1 = nI (men c) := hC.men hn
  have emi : (nI (men c) - 1).toInt = (men c : Int) - 1 := by
    rw [Jvm.Kit.i32_sub (by rw [nI_int (by omega), i1]; omega) (by rw [nI_int (by omega), i1]; omega), nI_int (by omega), i1]
  rw [c_hasCircuit hC hn, cI_some, bX8_sending_4, c_isWithin, cI_some, bX8_sending_17, show wi a1 (Int32.toInt 1) (Int32.toInt 30) = wi a1 1 30 from rfl, em, c_isWithin, cI_some, bX8_sending_34, emi, show (-1 : Int32).toInt = -1 from rfl] at c1
  have mh : ∀ (I1 : Nat → Nat → Int32), MAt I1 287 c → _ := fun I1 hM1 => by
    have m1 := eX9_sending X (d + 19) L I1 J a1 a2
    have hM2 := hM1.th (show 287 ≠ 283 by omega)
    rw [m_isThere hM2 hn, cI_some, bX9_sending_9, m_inI, cI_some, bX9_sending_24, show wi a1 (Int64.toInt 1) (Int64.toInt 30) = wi a1 1 30 from rfl, m_isMan hM2 hn, cI_some, bX9_sending_37, bX9_sending_43] at m1
    exact m1
  cases hz : decide (0 < men c) with
  | false =>
    rw [hz, if0] at c1
    refine ⟨_, I, J, c1, Q.rf I, zup I 283 0 0, ?_, Qth I⟩
    rw [mh I hM, hz, if0]
  | true =>
    rw [hz, if1] at c1
    have hm0 := of_decide_eq_true hz
    have hj0 := Iv_jud hv hm0
    cases hw : wi a1 1 30 with
    | false =>
      rw [hw, if0] at c1
      refine ⟨_, I, J, c1, Q.rf I, zup I 283 0 0, ?_, Qth I⟩
      rw [mh I hM, hz, if1, hw, if0]
    | true =>
      rw [hw, if1] at c1
      obtain ⟨n, hn1, hn2, rfl, hn31⟩ := wi_nI1 (by omega) hw
      have hK := kK_le hn hj0
      have hKp := kK_pos hj0 (men c)
      have fin : ∀ I1 : Nat → Nat → Int32, MAt I1 287 c → ∃ I2, (∀ v2 : Int32, v2 = -1 → zgo X (zcall X (d+19)) (some .int) kX9_sending 48 [some (.inr (.inr (some (.inl 9, 283)))), some (.inl (nI n)), some (.inl (v2)), some (.inl (1)), some (.inl (0)), none, none, none, none] [] (L, zB1, I1, J) = some (some (.inl (((gS c n (kK c (men c))).1 / 1000))), (L, zB1, I2, J))) ∧ FrS I1 I2 := by
        intro I1 hM1
        obtain ⟨I2, u6, u7, u8, e2, g2, f2⟩ := m_send97 (X := X) (d := d + 14) (L := L) (J := J) hM1 hv hj0 hm0 hn31 (-1)
        refine ⟨I2, fun v2 hv2 => ?_, f2⟩
        subst hv2
        rw [m_send48 hM1 hv hj0, e2, bX9_sending_97, if_pos (by rw [nle (by omega) (by omega)]; omega), if_pos rfl, if_neg (show ¬ (1000 : Int32) = 0 by decide)]
      have fin2 : ∀ I1 : Nat → Nat → Int32, MAt I1 287 c → ∀ m, m < men c → ∃ I2, zgo X (zcall X (d+19)) (some .int) kX9_sending 48 [some (.inr (.inr (some (.inl 9, 283)))), some (.inl (nI n)), some (.inl (nI m)), some (.inl (1)), some (.inl (0)), none, none, none, none] [] (L, zB1, I1, J) = some (some (.inl (asg c (gS c n (kK c (men c))).2 m)), (L, zB1, I2, J)) ∧ FrS I1 I2 := by
        intro I1 hM1 m hm
        obtain ⟨I2, u6, u7, u8, e2, g2, f2⟩ := m_send97 (X := X) (d := d + 14) (L := L) (J := J) hM1 hv hj0 hm0 hn31 (nI m)
        refine ⟨I2, ?_, f2⟩
        rw [m_send48 hM1 hv hj0, e2, bX9_sending_97, if_pos (by rw [nle (by omega) (by omega)]; omega), if_neg (fun e => nI_mo (by omega) e.symm), zin_nI (show m < 6 by omega) (by omega), zbt_t, ncl (by omega), g2 m hm]
      have qS : ∀ I1 I2 : Nat → Nat → Int32, FrS (zup I1 283 0 0) I2 → Q I1 I2 := fun I1 I2 f a i k => by
        unfold kor at k
        rw [f a (by omega) (by omega) (by omega), zup_at, if_neg (by omega)]
      cases hy : wi a2 (-1) ((men c : Int) - 1) with
      | false =>
        rw [hy, if0] at c1
        refine ⟨_, I, J, c1, Q.rf I, zup I 283 0 0, ?_, Qth I⟩
        have hno : ¬ (-1 ≤ a2.toInt ∧ a2.toInt ≤ (men c : Int) - 1) := fun q => by rw [wi_iff.2 q] at hy; cases hy
        have hz2 : zin a2 (men c) = false := by
          cases w : zin a2 (men c) with
          | false => rfl
          | true => exact absurd (zin_iff.1 w) (by omega)
        rw [mh I hM, hz, if1, hw, if1, if_neg (fun e => by rw [e, show (-1 : Int32).toInt = -1 from rfl] at hno; omega), hz2, if0]
      | true =>
        have hy2 := wi_iff.1 hy
        obtain ⟨I1, e1, s1, hC1, q1⟩ := c_plan (X := X) (d := d + 7) (L := L) (J := J) hC hv hj0 hn31
        rw [hy, if1, e1, cV_some, bX8_sending_52] at c1
        have hMt := (q1.MAt hM).th (show 287 ≠ 283 by omega)
        by_cases ha : a2 = -1
        · rw [ha, if_neg (by decide), eX5_sentDone, if_neg (show ¬ (1000 : Int32) = 0 by decide), cI_some, bX8_sending_63, bX8_sending_74, s1.1] at c1
          obtain ⟨I2, e2, f2⟩ := fin _ hMt
          refine ⟨_, I1, J, by rw [ha]; exact c1, q1, I2, ?_, qS I1 I2 f2⟩
          rw [mh I1 (q1.MAt hM), hz, if1, hw, if1, if_pos ha, e2 a2 ha]
        · have hz2 : zin a2 (men c) = true := zin_iff.2 ⟨by
            have : a2.toInt ≠ -1 := fun e => ha (Int32.toInt_inj.mp e)
            omega, by omega⟩
          obtain ⟨m, hm, rfl⟩ := zin_of hz2
          rw [if_pos (by rw [i32_le, i0, nI_int (by omega)]; omega), eX5_sentJudge, c_isMan hC1 hn, cI_some, bX5_sentJudge_8, hz2, if1, zin_nI (show m < 6 by omega) (by omega), zbt_t, ncl (by omega), cI_some, bX8_sending_74, s1.2 hKp m hm] at c1
          obtain ⟨I2, e2, f2⟩ := fin2 _ hMt m hm
          refine ⟨_, I1, J, c1, q1, I2, ?_, qS I1 I2 f2⟩
          rw [mh I1 (q1.MAt hM), hz, if1, hw, if1, if_neg ha, hz2, if1, e2]
end SENDM
