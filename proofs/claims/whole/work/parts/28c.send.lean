/-! sending: the class -/
theorem asC_cg {c : Cr} {s s' : Nat → Int32} (h : ∀ m, m < men c → s m = s' m) : asC c s = asC c s' := by
  funext f i
  unfold asC
  by_cases w : f = 4 ∧ i < men c ∧ c 5 i = 0
  · rw [if_pos w, if_pos w, h i w.2.1]
  · rw [if_neg w, if_neg w]
theorem snK_s (c : Cr) (q S : Int32) (k : Nat) : snK c q S (k + 1) = if c 5 k = 0 then cup (snK c q S k) 4 k (if bt S k = true then q else -1) else snK c q S k := by
  funext f i
  by_cases w : c 5 k = 0
  · rw [if_pos w]
    by_cases e : f = 4 ∧ i = k
    · rw [e.1, e.2, cup_eq]
      exact if_pos ⟨rfl, by omega, w⟩
    · rw [cup_ne e]
      unfold snK
      by_cases w2 : f = 4 ∧ i < k ∧ c 5 i = 0
      · rw [if_pos w2, if_pos ⟨w2.1, by omega, w2.2.2⟩]
      · rw [if_neg w2, if_neg (fun q => w2 ⟨q.1, by omega, q.2.2⟩)]
  · rw [if_neg w]
    unfold snK
    by_cases w2 : f = 4 ∧ i < k ∧ c 5 i = 0
    · rw [if_pos w2, if_pos ⟨w2.1, by omega, w2.2.2⟩]
    · rw [if_neg w2, if_neg]
      rintro ⟨q1, q2, q3⟩
      by_cases e : i = k
      · rw [e] at q3; exact w q3
      · exact w2 ⟨q1, by omega, q3⟩
theorem snK_0 (c : Cr) (q S : Int32) : snK c q S 0 = c := by
  funext f i
  exact if_neg (fun q => by omega)
def wor (c : Cr) (n : Nat) (I : Nat → Nat → Int32) : Prop := ∀ j, j < jud c → ∀ s, s < 64 → nI s &&& (whoS c 0 ^^^ (-1)) = 0 → I 251 (64 * j + s) = WS c n j (nI s)
def SI (c : Cr) (n T : Nat) (I : Nat → Nat → Int32) : Prop := I 234 7 = (gS c n T).1 ∧ (0 < T → ∀ m, m < men c → I 253 m = asg c (gS c n T).2 m)
def FS (I I' : Nat → Nat → Int32) : Prop := ∀ a i, ¬ (a = 234 ∧ i = 7) → a ≠ 252 → a ≠ 253 → I' a i = I a i
theorem FS.rf (I : Nat → Nat → Int32) : FS I I := fun _ _ _ _ _ => rfl
theorem FS.tr {I I1 I2 : Nat → Nat → Int32} (h : FS I I1) (h2 : FS I1 I2) : FS I I2 := fun a i k1 k2 k3 => (h2 a i k1 k2 k3).trans (h a i k1 k2 k3)
theorem FS.up {I I1 : Nat → Nat → Int32} (h : FS I I1) {i : Nat} {v : Int32} : FS I (zup I1 252 i v) := fun a i' k1 k2 k3 => by
  rw [zup_ne k2]; exact h a i' k1 k2 k3
theorem FS.CAt {I I' : Nat → Nat → Int32} (h : FS I I') {c : Cr} (hc : CAt I 235 c) : CAt I' 235 c := fun f i hv => by
  have := vld_le hv
  rw [h _ _ (by omega) (by omega) (by omega)]
  exact hc f i hv
theorem FS.wor {I I' : Nat → Nat → Int32} (h : FS I I') {c : Cr} {n : Nat} (hc : wor c n I) : wor c n I' := fun j hj s hs hw => by
  rw [h _ _ (by omega) (by omega) (by omega)]
  exact hc j hj s hs hw
theorem mask_s (P : Nat → Bool) (k : Nat) : mask P (k + 1) = if P k = true then mask P k ||| (1 <<< (nI k &&& 31)) else mask P k := rfl
section SENDC
variable {X : Nat → Nat → Int32} {d : Nat} {L : List zK} {I : Nat → Nat → Int32} {J : Nat → Nat → Int64} {c : Cr} {n : Nat}
theorem c_worth (h : CAt I 235 c) (hn : Cn c) (h5 : I 234 5 = whoS c 0) {j : Nat} (S : Int32) (hn31 : n < 2 ^ 31) : ∃ I', zcall X (d + 5) 64 [.inr (.inr (some (.inl 5, 234))), .inl (nI j), .inl S, .inl (nI n)] (L, zB1, I, J) = some (some (.inl (WS c n j S)), (L, zB1, I', J)) ∧ Fr 243 I I' := by
  have h6 := hn.2.1
  obtain ⟨I0, e0, h0, f0⟩ := c_takeFrom (X := X) (d := d + 3) (L := L) (J := J) (b := 243) h hn (by omega)
  obtain ⟨I1, e1, h1, f1⟩ := zloopR (fun k (s : Nat → Nat → Int32) => zgo X (zcall X (d+4)) (some .int) kX5_worthOfSending 14 [some (.inr (.inr (some (.inl 5, 234)))), some (.inl (nI j)), some (.inl (S)), some (.inl (nI n)), some (.inl (nI k))] [] (L, zB1, s, J)) (fun k s => CAt s 243 (snK c (nI j) S k) ∧ Fr 243 I s) (men c) (fun k s hk hp => by
    obtain ⟨h1, f1⟩ := hp
    try dsimp only at h1 f1 ⊢
    have hN := snK_n c (nI j) S k
    have e5 : s 234 5 = whoS c 0 := by rw [f1 234 (by omega)]; exact h5
    rw [bX5_worthOfSending_14, show s 243 1 = nI (men c) from by rw [h1.men (hN.2.2 hn), hN.1], if_neg (by rw [nle (by omega) (by omega)]; omega), e5, bt_get (whoS c 0) (by omega), bt_get S (by omega), bt_whoS hn 0 (by omega), decide_eq_true hk, Bool.true_and, zin_nI (show k < 6 by omega) (by omega), zbt_t, zbt_t, ncl (by omega), nI_1, snK_s]
    by_cases w : c 5 k = 0
    · rw [decide_eq_true w, if_pos (show b2i true = 1 from rfl), if_pos w]
      cases hb : bt S k with
      | true =>
        rw [if_pos (show b2i true = 1 from rfl), if_pos rfl]
        exact ⟨_, rfl, h1.up (f := 4) (by omega), f1.up (f := 4) (by omega)⟩
      | false =>
        rw [if_neg (show ¬ b2i false = 1 by decide), if_neg (by decide)]
        exact ⟨_, rfl, h1.up (f := 4) (by omega), f1.up (f := 4) (by omega)⟩
    · rw [decide_eq_false w, if_neg (show ¬ b2i false = 1 by decide), if_neg w]
      exact ⟨s, rfl, h1, f1⟩) (a := I0) ⟨by rw [snK_0]; exact h0, f0⟩
  have hN := snK_n c (nI j) S (men c)
  obtain ⟨I2, e2, h2, f2⟩ := c_passYears (X := X) (d := d) (L := L) (J := J) h1 (hN.2.2 hn) hn31 0
  have hP := (pasS_n 0 (snK c (nI j) S (men c)) n).2.2 (hN.2.2 hn)
  refine ⟨I2, ?_, f1.tr f2⟩
  rw [eX5_worthOfSending, e0, cV_some, bX5_worthOfSending_11]
  refine (show _ = _ from e1).trans ?_
  try dsimp only
  rw [bX5_worthOfSending_14, show I1 243 1 = nI (men c) from by rw [h1.men (hN.2.2 hn), hN.1], if_pos (by rw [nle (by omega) (by omega)]; omega), e2, cV_some, bX5_worthOfSending_79, c_doneWith h2 hP, cI_some, bX5_worthOfSending_87, c_trustTowards h2 hP, cI_some, bX5_worthOfSending_99]
  rfl
theorem c_weighS (h : CAt I 235 c) (hv : Iv c) (hj0 : 0 < jud c) (h5 : I 234 5 = whoS c 0) (hw : wor c n I) {T : Nat} (hs : SI c n T I) (hg : ∀ m, m < men c → I 252 m = asg c T m) : ∃ I', zcall X (d + 1) 66 [.inr (.inr (some (.inl 5, 234)))] (L, zB1, I, J) = some (none, (L, zB1, I', J)) ∧ SI c n (T + 1) I' ∧ FS I I' ∧ (∀ i, I' 252 i = I 252 i) := by
  have hn := hv.1
  have h6 := hn.2.1
  have h4 := hn.2.2.2
  have hSj : ∀ j, j < jud c → ∀ m, m < men c → c 5 m = 0 → (bt (mask (fun m => decide (I 252 m = nI j)) (men c) &&& whoS c 0) m = true ↔ (fun m => I 252 m) m = nI j) := by
    intro j hj m hm h0
    rw [bt_and, bt_mask _ (men c) (by omega) m (by omega), bt_whoS hn 0 (by omega), decide_eq_true hm, decide_eq_true h0, Bool.true_and, Bool.true_and, Bool.and_true, decide_eq_true_eq]
  have hsum := val_sum (n := n) (s := fun m => I 252 m) (by rw [asC_cg hg]; exact asg_ok hv hj0 T) (fun j => mask (fun m => decide (I 252 m = nI j)) (men c) &&& whoS c 0) hSj
  have hval : valS c n (fun m => I 252 m) = valS c n (asg c T) := by
    unfold valS
    rw [asC_cg hg]
  obtain ⟨⟨u3, u4⟩, e1, _⟩ := zloopR (fun k (s : Option zV × Option zV) => zgo X (zcall X (d)) none kX5_weighSending 4 [some (.inr (.inr (some (.inl 5, 234)))), some (.inl (sm k (fun j => WS c n j (mask (fun m => decide (I 252 m = nI j)) (men c) &&& whoS c 0)))), some (.inl (nI k)), s.1, s.2] [] (L, zB1, I, J)) (fun _ _ => True) (jud c) (fun k s hk _ => by
    obtain ⟨u3, u4⟩ := s
    try dsimp only
    obtain ⟨⟨⟩, e2, _⟩ := zloopR (fun i (_ : Unit) => zgo X (zcall X (d)) none kX5_weighSending 20 [some (.inr (.inr (some (.inl 5, 234)))), some (.inl (sm k (fun j => WS c n j (mask (fun m => decide (I 252 m = nI j)) (men c) &&& whoS c 0)))), some (.inl (nI k)), some (.inl (mask (fun m => decide (I 252 m = nI k)) i)), some (.inl (nI i))] [] (L, zB1, I, J)) (fun _ _ => True) (men c) (fun i _ hi _ => by
      refine ⟨(), ?_, trivial⟩
      try dsimp only
      rw [bX5_weighSending_20, show I 235 1 = nI (men c) from h.men hn, if_neg (by rw [nle (by omega) (by omega)]; omega), zin_nI (show i < 6 by omega) (by omega), zbt_t, ncl (by omega), bX5_weighSending_52, bX5_weighSending_52, nI_1, mask_s]
      by_cases w : I 252 i = nI k
      · rw [if_pos w, if_pos (decide_eq_true w)]
      · rw [if_neg w, if_neg (by rw [decide_eq_false w]; decide), Int32.or_zero]) (a := ()) trivial
    obtain ⟨sj, hsj, ej⟩ := mask_of (x9 := mask (fun m => decide (I 252 m = nI k)) (men c) &&& whoS c 0) (k := 6) (by omega) (fun i h1 h2 => by
      rw [bt_and, bt_whoS hn 0 h2, decide_eq_false (show ¬ i < men c by omega), Bool.false_and, Bool.and_false])
    have ei : nI k * 64 + nI sj = nI (64 * k + sj) := by
      show nI k * nI 64 + nI sj = _
      rw [nI_mul, nI_add, Nat.mul_comm]
    have hsub : nI sj &&& (whoS c 0 ^^^ (-1)) = 0 := by
      rw [← ej]
      apply and_xm.2
      intro i hi hb
      rw [bt_and, Bool.and_eq_true] at hb
      exact hb.2
    rw [bX5_weighSending_4, show I 235 0 = nI (jud c) from h.jud hn, if_neg (by rw [nle (by omega) (by omega)]; omega)]
    refine ⟨(some (.inl (mask (fun m => decide (I 252 m = nI k)) (men c))), some (.inl (nI (men c)))), (show _ = _ from e2).trans ?_, trivial⟩
    try dsimp only
    rw [bX5_weighSending_20, show I 235 1 = nI (men c) from h.men hn, if_pos (by rw [nle (by omega) (by omega)]; omega), h5, ej, ei, zin_nI (show 64 * k + sj < 256 by omega) (by omega), zbt_t, ncl (by omega), hw k hk sj hsj hsub, ← ej, nI_1]
    rfl) (a := (none, none)) trivial
  have e1' : zcall X (d + 1) 66 [.inr (.inr (some (.inl 5, 234)))] (L, zB1, I, J) = if valS c n (asg c T) ≤ I 234 7 then some (none, (L, zB1, I, J)) else some (none, (L, zB1, (zur (zup I 234 7 (valS c n (asg c T))) 253 (va_cpy (zup I 234 7 (valS c n (asg c T)) 252) (zup I 234 7 (valS c n (asg c T)) 253) 0 0 6)), J)) := by
    rw [eX5_weighSending]
    refine (show _ = _ from e1).trans ?_
    try dsimp only
    rw [bX5_weighSending_4, show I 235 0 = nI (jud c) from h.jud hn, if_pos (by rw [nle (by omega) (by omega)]; omega), hsum, hval, bX5_weighSending_113, bX5_weighSending_113]
    rfl
  rw [e1', hs.1]
  by_cases q : valS c n (asg c T) ≤ (gS c n T).1
  · rw [if_pos q]
    have hT0 : 0 < T := by
      rcases Nat.eq_zero_or_pos T with e | e
      · have hr := val_rg (n := n) (asg_ok hv hj0 T)
        rw [e] at q hr
        rw [i32_le] at q
        have : ((gS c n 0).1).toInt = -1 := rfl
        omega
      · exact e
    refine ⟨I, rfl, ⟨?_, fun _ => ?_⟩, FS.rf I, fun _ => rfl⟩
    · rw [gS_s, if_pos q]; exact hs.1
    · rw [gS_s, if_pos q]; exact hs.2 hT0
  · rw [if_neg q]
    refine ⟨_, rfl, ⟨?_, fun _ m hm => ?_⟩, fun a i k1 k2 k3 => ?_, fun i => ?_⟩
    · rw [gS_s, if_neg q, zur_ne (by omega), zup_at, if_pos ⟨rfl, rfl⟩]
    · rw [gS_s, if_neg q, zur_eq]
      unfold va_cpy
      rw [if_pos (by omega), zup_ne (by omega), show 0 + (m - 0) = m by omega]
      exact hg m hm
    · rw [zur_ne k3, zup_at, if_neg k1]
    · rw [zur_ne (by omega), zup_ne (by omega)]
theorem c_sendFrom (hv : Iv c) (hj0 : 0 < jud c) : ∀ (k T0 : Nat) (I : Nat → Nat → Int32), k ≤ men c → CAt I 235 c → I 234 5 = whoS c 0 → wor c n I → SI c n (T0 * kK c k) I → (∀ i, i < men c - k → I 252 i = asg c (T0 * kK c k) i) → ∃ I', zcall X (d + 3 + k) 65 [.inr (.inr (some (.inl 5, 234))), .inl (nI (men c - k))] (L, zB1, I, J) = some (none, (L, zB1, I', J)) ∧ SI c n ((T0 + 1) * kK c k) I' ∧ FS I I' ∧ (∀ i, i < men c - k → I' 252 i = I 252 i)
  | 0, T0, I, hk, h, h5, hw, hs, hg => by
    have hn := hv.1
    have h6 := hn.2.1
    have e1 : kK c 0 = 1 := rfl
    rw [e1, Nat.mul_one] at hs hg
    obtain ⟨I1, e2, s2, f2, g2⟩ := c_weighS (X := X) (d := d + 1) (L := L) (J := J) h hv hj0 h5 hw hs (fun m hm => hg m (by omega))
    refine ⟨I1, ?_, by rw [e1, Nat.mul_one]; exact s2, f2, fun i _ => g2 i⟩
    show zcall X (d + 2 + 1) 65 _ _ = _
    rw [eX5_sendFrom, c_isMan h hn, cI_some, bX5_sendFrom_8, zin_nIf (show men c ≤ men c - 0 by omega) (by omega), if0, e2, cV_some, bX5_sendFrom_15]
  | k + 1, T0, I, hk, h, h5, hw, hs, hg => by
    have hn := hv.1
    have h6 := hn.2.1
    have h4 := hn.2.2.2
    have em : men c - (k + 1) + 1 = men c - k := by omega
    have em2 : men c - 1 - (men c - (k + 1)) = k := by omega
    generalize hmm : men c - (k + 1) = m at *
    have hm : m < men c := by omega
    have ew : kK c (k + 1) = if c 5 m = 0 then kK c k * jud c else kK c k := by
      unfold kK
      rw [wq_s, show men c - (k + 1) = m by omega]
      by_cases w : c 5 m = 0
      · rw [if_pos w, if_pos w, Nat.pow_succ]
      · rw [if_neg w, if_neg w, Nat.add_zero]
    show ∃ I', zcall X (d + 3 + k + 1) 65 _ _ = _ ∧ _
    rw [eX5_sendFrom, show zcall X (d + 3 + k) 16 [.inr (.inr (some (.inl 1, 235))), .inl (nI m)] (L, zB1, I, J) = some (some (.inl (b2i (zin (nI m) (men c)))), (L, zB1, I, J)) from by rw [show d + 3 + k = d + 2 + k + 1 by omega]; exact c_isMan h hn _, cI_some, bX5_sendFrom_8, zin_nI hm (by omega), if1, h5, bt_get (whoS c 0) (by omega), bt_whoS hn 0 (by omega), decide_eq_true hm, Bool.true_and, zin_nI (show m < 6 by omega) (by omega), zbt_t, zbt_t, ncl (by omega), nI_1]
    by_cases w : c 5 m = 0
    · rw [if_pos w] at ew
      rw [decide_eq_true w, if_neg (show ¬ b2i true = 0 by decide)]
      have hlt : ∀ j, j < jud c → j * kK c k < kK c (k + 1) := fun j hj => by
        rw [ew, Nat.mul_comm]
        exact Nat.mul_lt_mul_of_pos_left hj (kK_pos hj0 k)
      have hT : ∀ j, (T0 * jud c + j) * kK c k = T0 * kK c (k + 1) + j * kK c k := fun j => by
        rw [ew, Nat.add_mul, Nat.mul_comm (kK c k) (jud c), Nat.mul_assoc]
      obtain ⟨I1, e1, s1, f1, g1⟩ := zloopR (fun j (s : Nat → Nat → Int32) => zgo X (zcall X (d+3+k)) none kX5_sendFrom 52 [some (.inr (.inr (some (.inl 5, 234)))), some (.inl (nI m)), some (.inl (nI j))] [] (L, zB1, s, J)) (fun j s => SI c n (T0 * kK c (k + 1) + j * kK c k) s ∧ FS I s ∧ (∀ i, i < m → s 252 i = I 252 i)) (jud c) (fun j s hj hp => by
        obtain ⟨s1, f1, g1⟩ := hp
        try dsimp only at s1 f1 g1 ⊢
        have hC := f1.CAt h
        obtain ⟨I2, e2, s2, f2, g2⟩ := c_sendFrom hv hj0 k (T0 * jud c + j) (zup s 252 m (nI j)) (by omega) ((FS.rf s).up.CAt hC) (by rw [zup_ne (by omega), f1 _ _ (by omega) (by omega) (by omega)]; exact h5) ((FS.rf s).up.wor (f1.wor hw)) (by
          rw [hT]
          refine ⟨?_, fun hp q hq => ?_⟩
          · rw [zup_ne (by omega)]; exact s1.1
          · rw [zup_ne (by omega)]; exact s1.2 hp q hq) (fun i hi => by
          rw [zup_at]
          by_cases e : i = m
          · rw [if_pos ⟨rfl, e⟩, e]
            have := asg_at (T0 := T0) hj0 hm w hj
            rw [em2] at this
            exact this.symm
          · rw [if_neg (fun q => e q.2), g1 i (by omega), hg i (by omega), hT]
            exact (asg_pre (k := k + 1) hj0 (by omega) (by omega) (hlt j hj)).symm)
        rw [bX5_sendFrom_52, show s 235 0 = nI (jud c) from hC.jud hn, if_neg (by rw [nle (by omega) (by omega)]; omega), zin_nI (show m < 6 by omega) (by omega), zbt_t, ncl (by omega), nI_1, em, e2, cV_some, bX5_sendFrom_77, nI_1]
        refine ⟨I2, rfl, ?_, f1.tr ((FS.rf s).up.tr f2), fun i hi => ?_⟩
        · rw [show (T0 * jud c + j + 1) * kK c k = T0 * kK c (k + 1) + (j + 1) * kK c k from hT (j + 1)] at s2
          exact s2
        · rw [g2 i (by omega), zup_at, if_neg (by omega), g1 i hi]) (a := I) ⟨by rw [Nat.zero_mul, Nat.add_zero]; exact hs, FS.rf I, fun _ _ => rfl⟩
      refine ⟨I1, (show _ = _ from e1).trans ?_, ?_, f1, g1⟩
      · try dsimp only
        rw [bX5_sendFrom_52, show I1 235 0 = nI (jud c) from (f1.CAt h).jud hn, if_pos (by rw [nle (by omega) (by omega)]; omega)]
      · rw [Nat.add_mul, Nat.one_mul]
        rw [show jud c * kK c k = kK c (k + 1) from by rw [ew, Nat.mul_comm]] at s1
        exact s1
    · rw [if_neg w] at ew
      rw [decide_eq_false w, if_pos (show b2i false = 0 from rfl), show I 239 m = c 4 m from h.m hm 4 (by omega) (by omega), em]
      rw [ew] at hs hg ⊢
      obtain ⟨I2, e2, s2, f2, g2⟩ := c_sendFrom hv hj0 k T0 (zup I 252 m (c 4 m)) (by omega) ((FS.rf I).up.CAt h) (by rw [zup_ne (by omega)]; exact h5) ((FS.rf I).up.wor hw) (by
        refine ⟨?_, fun hp q hq => ?_⟩
        · rw [zup_ne (by omega)]; exact hs.1
        · rw [zup_ne (by omega)]; exact hs.2 hp q hq) (fun i hi => by
        rw [zup_at]
        by_cases e : i = m
        · rw [if_pos ⟨rfl, e⟩, e]
          unfold asg
          rw [if_neg w]
        · rw [if_neg (fun q => e q.2)]
          exact hg i (by omega))
      rw [e2, cV_some, bX5_sendFrom_49]
      exact ⟨I2, rfl, s2, (FS.rf I).up.tr f2, fun i hi => by rw [g2 i (by omega), zup_at, if_neg (by omega)]⟩
end SENDC
