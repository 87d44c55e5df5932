/-! let: the fewest to be let off -/
theorem bt_xm (x9 : Int32) {j : Nat} (hj : j < 32) : bt (x9 ^^^ (-1)) j = !bt x9 j := by
  unfold bt
  rw [Int32.toBitVec_xor, BitVec.getLsbD_xor]
  have : ∀ j < 32, (Int32.toBitVec (-1)).getLsbD j = true := by decide +kernel
  rw [this j hj, Bool.xor_true]
theorem and_xm {x9 M : Int32} : x9 &&& (M ^^^ (-1)) = 0 ↔ ∀ j, j < 32 → bt x9 j = true → bt M j = true := by
  constructor
  · intro h j hj hx
    have : bt (x9 &&& (M ^^^ (-1))) j = false := by rw [h, bt_0]
    rw [bt_and, bt_xm M hj, hx, Bool.true_and] at this
    cases hb : bt M j with
    | true => rfl
    | false => rw [hb] at this; cases this
  · intro h
    apply bt_ext
    intro j hj
    rw [bt_and, bt_xm M hj, bt_0]
    cases hx : bt x9 j with
    | false => rfl
    | true => rw [h j hj hx]; rfl
def Ns (c : Cr) : Prop := ∀ m, m < men c → serving c m = false
theorem Ns_mov {c : Cr} (h : Ns c) : movS c = c := by
  funext f i
  unfold movS movK
  rw [if_neg]
  rintro ⟨_, h2, h3⟩
  have := h i h2
  unfold mv at h3
  rw [Bool.and_eq_true] at h3
  rw [serving_iff.2 (Or.inl (of_decide_eq_true h3.1))] at this
  cases this
theorem Ns_liv {c : Cr} (g : Bool) (h : Ns c) : ∀ k, k ≤ men c → livK g c k = c
  | 0, _ => rfl
  | k + 1, hk => by
    have e : livK g c (k + 1) = if livK g c k 5 k = 1 then livS g (livK g c k) k else livK g c k := rfl
    rw [e, Ns_liv g h k (by omega), if_neg]
    intro q
    have := h k (by omega)
    rw [serving_iff.2 (Or.inr q)] at this
    cases this
theorem Ns_yr {c : Cr} (g : Bool) (h : Ns c) : Ns (yrS g c) := by
  intro m hm
  rw [(yrS_n g c).1] at hm
  unfold yrS
  rw [Ns_mov h, Ns_liv g h _ (Nat.le_refl _)]
  unfold serving
  rw [cup_ne (by omega)]
  exact h m hm
theorem Ns_pas {c : Cr} (h : Ns c) : ∀ n, Ns (pasS n 0 c)
  | 0 => h
  | n + 1 => by rw [pas_s]; exact Ns_yr true (Ns_pas h n)
theorem Ns_who {c : Cr} (hn : Cn c) (h : Ns c) : whoS c 0 = 0 := by
  apply bt_ext
  intro j hj
  rw [bt_whoS hn 0 hj, bt_0]
  by_cases hm : j < men c
  · have := h j hm
    rw [decide_eq_true hm, Bool.true_and, decide_eq_false]
    intro q
    rw [serving_iff.2 (Or.inl q)] at this
    cases this
  · rw [decide_eq_false hm, Bool.false_and]
theorem letK_s (set : Int32) (c : Cr) (k : Nat) : letK set c (k + 1) = if bt set k = true then cup (cup (letK set c k) 5 k 2) 6 k 0 else letK set c k := rfl
theorem letK_5 (set : Int32) (c : Cr) : ∀ k i, letK set c k 5 i = if i < k ∧ bt set i = true then 2 else c 5 i
  | 0, i => by rw [if_neg (by omega)]; rfl
  | k + 1, i => by
    rw [letK_s]
    by_cases hb : bt set k = true
    · rw [if_pos hb, cup_ne (by omega)]
      by_cases e : i = k
      · rw [e, cup_eq, if_pos ⟨by omega, hb⟩]
      · rw [cup_ne (by omega), letK_5 set c k i]
        by_cases q : i < k ∧ bt set i = true
        · rw [if_pos q, if_pos ⟨by omega, q.2⟩]
        · rw [if_neg q, if_neg (fun w => q ⟨by omega, w.2⟩)]
    · rw [if_neg hb, letK_5 set c k i]
      by_cases q : i < k ∧ bt set i = true
      · rw [if_pos q, if_pos ⟨by omega, q.2⟩]
      · rw [if_neg q, if_neg]
        rintro ⟨w1, w2⟩
        by_cases e : i = k
        · rw [e] at w2; exact hb w2
        · exact q ⟨by omega, w2⟩
theorem Iv_letK (set : Int32) {c : Cr} (hv : Iv c) : ∀ k, Iv (letK set c k)
  | 0 => hv
  | k + 1 => by
    have ih := Iv_letK set hv k
    rw [letK_s]
    by_cases hb : bt set k = true
    · rw [if_pos hb]
      refine Iv_one (m := k) ih (fun f i h => by rw [cup_ne (by omega), cup_ne (by omega)]) (fun hm => ?_)
      have hI := ih.2.2.2 k hm
      unfold Im serving
      rw [jud_cup (by omega), jud_cup (by omega), cup_eq, cup_ne (show ¬ (3 = 6 ∧ k = k) by omega), cup_ne (show ¬ (3 = 5 ∧ k = k) by omega), cup_ne (show ¬ (4 = 6 ∧ k = k) by omega), cup_ne (show ¬ (4 = 5 ∧ k = k) by omega), cup_ne (show ¬ (5 = 6 ∧ k = k) by omega), cup_eq, cup_ne (show ¬ (7 = 6 ∧ k = k) by omega), cup_ne (show ¬ (7 = 5 ∧ k = k) by omega)]
      exact ⟨hI.1, hI.2.1, ⟨by decide, by decide⟩, ⟨by decide, by decide⟩, hI.2.2.2.2.1, fun q => absurd q (by decide)⟩
    · rw [if_neg hb]; exact ih
def ltM (c : Cr) : Int32 := whoS c 0 ||| whoS c 1
def ltG (c : Cr) (s : Nat) : Bool := decide (nI s &&& (ltM c ^^^ (-1)) = 0)
def ltW (c : Cr) (n s : Nat) : Bool := decide (whoS (pasS n 0 (letK (nI s) c (men c))) 0 = 0)
def ltL (b : Option Nat) (s : Nat) : Bool := match b with
  | none => true
  | some t => decide (bcS (nI s) < bcS (nI t))
def ltS (c : Cr) (n s : Nat) (b : Option Nat) : Option Nat := if (ltG c s && (ltL b s && ltW c n s)) = true then some s else b
def ltK (c : Cr) (n k : Nat) : Option Nat := zfold k none (fun s b => ltS c n s b)
theorem ltK_s (c : Cr) (n k : Nat) : ltK c n (k + 1) = ltS c n k (ltK c n k) := rfl
theorem ltK_lt (c : Cr) (n : Nat) : ∀ k t, ltK c n k = some t → t < k
  | 0, t, h => by cases h
  | k + 1, t, h => by
    rw [ltK_s] at h
    unfold ltS at h
    by_cases q : (ltG c k && (ltL (ltK c n k) k && ltW c n k)) = true
    · rw [if_pos q] at h
      cases h
      omega
    · rw [if_neg q] at h
      have := ltK_lt c n k t h
      omega
theorem ltK_some (c : Cr) (n : Nat) {s : Nat} (h1 : ltG c s = true) (h2 : ltW c n s = true) : ∀ k, s < k → (ltK c n k).isSome = true
  | 0, h => by omega
  | k + 1, h => by
    rw [ltK_s]
    unfold ltS
    by_cases q : (ltG c k && (ltL (ltK c n k) k && ltW c n k)) = true
    · rw [if_pos q]; rfl
    · rw [if_neg q]
      by_cases e : s = k
      · subst e
        cases hb : ltK c n s with
        | some t => rfl
        | none =>
          exfalso
          apply q
          rw [hb, h1, h2]; rfl
      · exact ltK_some c n h1 h2 k (by omega)
theorem bt_ltM {c : Cr} (hn : Cn c) {j : Nat} (hj : j < 32) : bt (ltM c) j = (decide (j < men c) && serving c j) := by
  unfold ltM serving
  rw [bt_or, bt_whoS hn 0 hj, bt_whoS hn 1 hj]
  by_cases h1 : j < men c
  · rw [decide_eq_true h1, Bool.true_and, Bool.true_and, Bool.true_and]
    by_cases h2 : c 5 j = 0
    · rw [decide_eq_true h2, decide_eq_true (Or.inl h2)]; rfl
    · rw [decide_eq_false h2, Bool.false_or]
      by_cases h3 : c 5 j = 1
      · rw [decide_eq_true h3, decide_eq_true (Or.inr h3)]
      · rw [decide_eq_false h3, decide_eq_false (by rintro (q | q) <;> contradiction)]
  · rw [decide_eq_false h1]; rfl
/-- all who serve, let off: nobody waits -/
theorem lt_all {c : Cr} (hv : Iv c) (n : Nat) : ∃ s, s < 2 ^ men c ∧ ltG c s = true ∧ ltW c n s = true := by
  have hn := hv.1
  have h6 := hn.2.1
  obtain ⟨s, hs, e⟩ := mask_of (x9 := ltM c) (k := men c) (by omega) (fun j h1 h2 => by rw [bt_ltM hn h2, decide_eq_false (by omega), Bool.false_and])
  refine ⟨s, hs, ?_, ?_⟩
  · unfold ltG
    rw [← e]
    exact decide_eq_true (and_xm.2 (fun j _ h => h))
  · unfold ltW
    rw [← e]
    apply decide_eq_true
    have hl := letK_n (ltM c) c (men c)
    apply Ns_who ((pasS_n 0 _ n).2.2 (hl.2.2 hn))
    apply Ns_pas
    intro m hm
    rw [hl.1] at hm
    have h5 := letK_5 (ltM c) c (men c) m
    have hb := bt_ltM hn (show m < 32 by omega)
    rw [decide_eq_true hm, Bool.true_and] at hb
    cases hs : serving c m with
    | true =>
      rw [hs] at hb
      rw [if_pos ⟨hm, hb⟩] at h5
      unfold serving
      rw [h5]; rfl
    | false =>
      rw [hs] at hb
      rw [if_neg (by rw [hb]; rintro ⟨_, q⟩; cases q)] at h5
      unfold serving at hs ⊢
      rw [h5]; exact hs
/-- sets beyond the men: none of them -/
theorem lt_hi {c : Cr} (hv : Iv c) (n : Nat) : ∀ k, 2 ^ men c + k ≤ 64 → ltK c n (2 ^ men c + k) = ltK c n (2 ^ men c)
  | 0, _ => rfl
  | k + 1, h => by
    have hn := hv.1
    have h6 := hn.2.1
    rw [← Nat.add_assoc, ltK_s]
    unfold ltS
    rw [if_neg, lt_hi hv n k (by omega)]
    intro q
    rw [Bool.and_eq_true] at q
    have q1 := and_xm.1 (of_decide_eq_true q.1)
    have hz : ∀ j, men c ≤ j → j < 32 → bt (nI (2 ^ men c + k)) j = false := by
      intro j h1 h2
      cases hb : bt (nI (2 ^ men c + k)) j with
      | false => rfl
      | true =>
        have := q1 j h2 hb
        rw [bt_ltM hn h2, decide_eq_false (by omega), Bool.false_and] at this
        cases this
    obtain ⟨t, ht, e⟩ := mask_of (k := men c) (by omega) hz
    have e2 : (nI (2 ^ men c + k)).toInt = (nI t).toInt := by rw [e]
    rw [nI_int (by omega), nI_int (by omega)] at e2
    omega
theorem bcS_6 {s : Nat} (h : s < 64) : rg (bcS (nI s)) 0 6 := by
  rw [bc_all s h _ rfl]
  exact ⟨by rw [nI_int (by omega)]; omega, by rw [nI_int (by omega)]; omega⟩
section LET
variable {X : Nat → Nat → Int32} {d : Nat} {L : List zK} {I : Nat → Nat → Int32} {J : Nat → Nat → Int64} {c : Cr} {n : Nat}
theorem c_nobody (h : CAt I 13 c) (hn : Cn c) {s : Nat} (hn31 : n < 2 ^ 31) : ∃ I', zcall X (d + 5) 69 [.inr (.inr (some (.inl 5, 234))), .inr (.inr (some (.inl 1, 13))), .inl (nI s), .inl (nI n)] (L, zB1, I, J) = some (some (.inl (b2i (ltW c n s))), (L, zB1, I', J)) ∧ Fr 243 I I' := by
  obtain ⟨I1, e1, h1, f1⟩ := c_takeFrom (X := X) (d := d + 3) (L := L) (J := J) (b := 243) h hn (by omega)
  obtain ⟨I2, e2, h2, f2⟩ := c_letOff (X := X) (d := d + 3) (L := L) (J := J) h1 hn (nI s)
  have hl := letK_n (nI s) c (men c)
  obtain ⟨I3, e3, h3, f3⟩ := c_passYears (X := X) (d := d) (L := L) (J := J) h2 (hl.2.2 hn) hn31 0
  have hP := pasS_n 0 (letK (nI s) c (men c)) n
  refine ⟨I3, ?_, (f1.tr f2).tr f3⟩
  rw [eX5_nobodyWaitsWithout, e1, cV_some, bX5_nobodyWaitsWithout_8, e2, cV_some, bX5_nobodyWaitsWithout_16, e3, cV_some, bX5_nobodyWaitsWithout_25, c_whoAre h3 (hP.2.2 (hl.2.2 hn)), cI_some, bX5_nobodyWaitsWithout_33, iteT]
  unfold ltW
  by_cases q : whoS (pasS n 0 (letK (nI s) c (men c))) 0 = 0
  · rw [if_pos q, decide_eq_true q]; rfl
  · rw [if_neg q, decide_eq_false q]; rfl
theorem c_planLet (h : CAt I 13 c) (hv : Iv c) (hn31 : n < 2 ^ 31) : ∃ I', zcall X (d + 6) 68 [.inr (.inr (some (.inl 5, 234))), .inr (.inr (some (.inl 1, 13))), .inl (nI n)] (L, zB1, I, J) = some (none, (L, zB1, I', J)) ∧ (∀ t, ltK c n 64 = some t → I' 234 7 = bcS (nI t) ∧ I' 234 6 = nI t) ∧ FrP I I' := by
  have hn := hv.1
  obtain ⟨⟨u, I1⟩, e1, g7, g6, f1⟩ := zloopR (fun k (s : Option zV × (Nat → Nat → Int32)) => zgo X (zcall X (d+5)) none kX5_planLettingOff 21 [some (.inr (.inr (some (.inl 5, 234)))), some (.inr (.inr (some (.inl 1, 13)))), some (.inl (nI n)), some (.inl (ltM c)), some (.inl (nI k)), s.1] [] (L, zB1, s.2, J)) (fun k s => (ltK c n k = none → s.2 234 7 = 7) ∧ (∀ t, ltK c n k = some t → s.2 234 7 = bcS (nI t) ∧ s.2 234 6 = nI t) ∧ FrP I s.2) 64 (fun k s hk hp => by
    obtain ⟨u, I1⟩ := s
    obtain ⟨g7, g6, f1⟩ := hp
    try dsimp only at g7 g6 f1 ⊢
    have hC := f1.CAt h (by omega)
    obtain ⟨I2, e2, f2⟩ := c_nobody (X := X) (d := d) (L := L) (J := J) (s := k) hC hn hn31
    have hbk := bcS_6 hk
    have s0 : zgo X (zcall X (d+5)) none kX5_planLettingOff 54 [some (.inr (.inr (some (.inl 5, 234)))), some (.inr (.inr (some (.inl 1, 13)))), some (.inl (nI n)), some (.inl (ltM c)), some (.inl (nI k)), u] [.inl 0] (L, zB1, I1, J) = zgo X (zcall X (d+5)) none kX5_planLettingOff 21 [some (.inr (.inr (some (.inl 5, 234)))), some (.inr (.inr (some (.inl 1, 13)))), some (.inl (nI n)), some (.inl (ltM c)), some (.inl (nI (k + 1))), some (.inl (0))] [] (L, zB1, I1, J) := by
      rw [bX5_planLettingOff_54, if_pos rfl, nI_1]
    have s1 : zgo X (zcall X (d+5)) none kX5_planLettingOff 54 [some (.inr (.inr (some (.inl 5, 234)))), some (.inr (.inr (some (.inl 1, 13)))), some (.inl (nI n)), some (.inl (ltM c)), some (.inl (nI k)), u] [.inl 1] (L, zB1, I1, J) = if b2i (ltW c n k) = 0 then zgo X (zcall X (d+5)) none kX5_planLettingOff 21 [some (.inr (.inr (some (.inl 5, 234)))), some (.inr (.inr (some (.inl 1, 13)))), some (.inl (nI n)), some (.inl (ltM c)), some (.inl (nI (k + 1))), some (.inl (1))] [] (L, zB1, I2, J) else zgo X (zcall X (d+5)) none kX5_planLettingOff 21 [some (.inr (.inr (some (.inl 5, 234)))), some (.inr (.inr (some (.inl 1, 13)))), some (.inl (nI n)), some (.inl (ltM c)), some (.inl (nI (k + 1))), some (.inl (1))] [] (L, zB1, (zup (zup I2 234 7 (bcS (nI k))) 234 6 (nI k)), J) := by
      rw [bX5_planLettingOff_54, if_neg (by decide), e2, cI_some, bX5_planLettingOff_69, j_bitCount hk, cI_some, bX5_planLettingOff_78, nI_1]
    rw [bX5_planLettingOff_21, if_neg (by show ¬ nI 64 ≤ nI k; rw [nle (by omega) (by omega)]; omega), j_bitCount hk, cI_some, bX5_planLettingOff_42, bX5_planLettingOff_53, s0, s1]
    have no : ltS c n k (ltK c n k) = ltK c n k → ∀ (u : Option zV) (I' : Nat → Nat → Int32), I' 234 = I1 234 → FrP I I' → ∃ y9 : Option zV × (Nat → Nat → Int32), zgo X (zcall X (d+5)) none kX5_planLettingOff 21 [some (.inr (.inr (some (.inl 5, 234)))), some (.inr (.inr (some (.inl 1, 13)))), some (.inl (nI n)), some (.inl (ltM c)), some (.inl (nI (k + 1))), u] [] (L, zB1, I', J) = zgo X (zcall X (d+5)) none kX5_planLettingOff 21 [some (.inr (.inr (some (.inl 5, 234)))), some (.inr (.inr (some (.inl 1, 13)))), some (.inl (nI n)), some (.inl (ltM c)), some (.inl (nI (k + 1))), y9.1] [] (L, zB1, y9.2, J) ∧ (ltK c n (k + 1) = none → y9.2 234 7 = 7) ∧ (∀ t, ltK c n (k + 1) = some t → y9.2 234 7 = bcS (nI t) ∧ y9.2 234 6 = nI t) ∧ FrP I y9.2 := by
      intro hS u I' hI hf
      refine ⟨(u, I'), rfl, ?_, ?_, hf⟩
      · rw [ltK_s, hS]; intro q; show I' 234 7 = 7; rw [hI]; exact g7 q
      · rw [ltK_s, hS]; intro t q; show I' 234 7 = _ ∧ I' 234 6 = _; rw [hI]; exact g6 t q
    by_cases hG : nI k &&& (ltM c ^^^ (-1)) = 0
    · rw [if_pos hG]
      have hG' : ltG c k = true := decide_eq_true hG
      have hL : (I1 234 7 ≤ bcS (nI k)) ↔ ltL (ltK c n k) k = false := by
        cases hb : ltK c n k with
        | none =>
          rw [g7 hb]
          constructor
          · intro q
            rw [i32_le] at q
            have : (7 : Int32).toInt = 7 := rfl
            have := hbk.2
            omega
          · intro q; cases q
        | some t =>
          rw [(g6 t hb).1]
          unfold ltL
          try dsimp only
          rw [decide_eq_false_iff_not, i32_lt, i32_le]
          omega
      by_cases hq : I1 234 7 ≤ bcS (nI k)
      · rw [if_pos hq]
        exact no (by unfold ltS; rw [hL.1 hq, Bool.false_and, Bool.and_false]; rfl) _ _ rfl f1
      · rw [if_neg hq]
        have hLt : ltL (ltK c n k) k = true := by
          cases hb : ltL (ltK c n k) k with
          | true => rfl
          | false => exact absurd (hL.2 hb) hq
        cases hW : ltW c n k with
        | false =>
          rw [if0]
          exact no (by unfold ltS; rw [hW, Bool.and_false, Bool.and_false]; rfl) _ _ (f2 234 (by omega)) (f1.tr f2.P)
        | true =>
          rw [if1]
          have hS : ltS c n k (ltK c n k) = some k := by unfold ltS; rw [hG', hLt, hW]; rfl
          refine ⟨(some (.inl 1), zup (zup I2 234 7 (bcS (nI k))) 234 6 (nI k)), rfl, ?_, ?_, (f1.tr f2.P).up.up⟩
          · rw [ltK_s, hS]; intro q; cases q
          · rw [ltK_s, hS]
            intro t q
            cases q
            try dsimp only
            exact ⟨by rw [zup_at, if_neg (by omega), zup_at, if_pos ⟨rfl, rfl⟩], by rw [zup_at, if_pos ⟨rfl, rfl⟩]⟩
    · rw [if_neg hG]
      exact no (by unfold ltS; rw [show ltG c k = false from decide_eq_false hG, Bool.false_and]; rfl) _ _ rfl f1) (a := ((none : Option zV), zup I 234 7 7)) ⟨fun _ => by show zup I 234 7 7 234 7 = 7; rw [zup_at, if_pos ⟨rfl, rfl⟩], (fun t q => by cases q), (FrP.rf I).up⟩
  try dsimp only at g7 g6 f1
  refine ⟨I1, ?_, g6, f1⟩
  rw [eX5_planLettingOff, c_whoAre h hn, cI_some, bX5_planLettingOff_5, c_whoAre h hn, cI_some, bX5_planLettingOff_10]
  refine (show _ = _ from e1).trans ?_
  try dsimp only
  rw [bX5_planLettingOff_21, if_pos (by show nI 64 ≤ nI 64; rw [nle (by omega) (by omega)]; omega)]
end LET
