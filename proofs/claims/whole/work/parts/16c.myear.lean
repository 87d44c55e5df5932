/-! the reference's year -/
theorem zfirst_some {P : Nat → Bool} : ∀ (k j i : Nat), zfirst P k j = some i → j ≤ i ∧ i < j + k ∧ P i = true ∧ ∀ q, j ≤ q → q < i → P q = false
  | 0, j, i, h => by cases h
  | k + 1, j, i, h => by
    unfold zfirst at h
    cases hp : P j with
    | true =>
      rw [hp] at h
      cases h
      exact ⟨Nat.le_refl j, by omega, hp, fun q h1 h2 => by omega⟩
    | false =>
      rw [hp] at h
      obtain ⟨h1, h2, h3, h4⟩ := zfirst_some k (j + 1) i h
      refine ⟨by omega, by omega, h3, fun q h5 h6 => ?_⟩
      by_cases e : q = j
      · rw [e]; exact hp
      · exact h4 q (by omega) h6
theorem zfirst_none {P : Nat → Bool} : ∀ (k j : Nat), zfirst P k j = none → ∀ q, j ≤ q → q < j + k → P q = false
  | 0, j, h => fun q h1 h2 => by omega
  | k + 1, j, h => by
    unfold zfirst at h
    cases hp : P j with
    | true => rw [hp] at h; cases h
    | false =>
      rw [hp] at h
      intro q h5 h6
      by_cases e : q = j
      · rw [e]; exact hp
      · exact zfirst_none k (j + 1) h q (by omega) (by omega)
theorem anyB_f (P : Nat → Bool) (n : Nat) : anyB P n = false ↔ ∀ m, m < n → P m = false := by
  constructor
  · intro h m hm
    cases e : P m with
    | false => rfl
    | true => rw [(anyB_iff P n).2 ⟨m, hm, e⟩] at h; cases h
  · intro h
    cases e : anyB P n with
    | false => rfl
    | true =>
      obtain ⟨m, hm, hp⟩ := (anyB_iff P n).1 e
      rw [h m hm] at hp; cases hp
/-- those who can have moved in, by the judges below j -/
def movJ (c : Cr) (j : Nat) : Cr := fun f i => if f = 5 ∧ i < men c ∧ mv c i = true ∧ jof c i < j then 1 else c f i
theorem movJ_ne {c : Cr} {k f i : Nat} (h : f ≠ 5) : movJ c k f i = c f i := if_neg (fun q => h q.1)
theorem movJ_ge {c : Cr} {k f i : Nat} (h : k ≤ jof c i) : movJ c k f i = c f i := if_neg (fun q => by omega)
theorem movJ_n (c : Cr) (k : Nat) : men (movJ c k) = men c ∧ jud (movJ c k) = jud c ∧ (Cn c → Cn (movJ c k)) := by
  have h1 : men (movJ c k) = men c := by unfold men; rw [movJ_ne (by omega)]
  have h2 : jud (movJ c k) = jud c := by unfold jud; rw [movJ_ne (by omega)]
  refine ⟨h1, h2, ?_⟩
  unfold Cn
  rw [h1, h2, movJ_ne (by omega), movJ_ne (by omega)]
  exact id
theorem movJ_z (c : Cr) : movJ c 0 = c := by
  funext f i
  exact if_neg (fun q => by omega)
theorem movJ_end {c : Cr} (hn : Cn c) : movJ c (jud c) = movS c := by
  funext f i
  unfold movJ movS movK
  by_cases e : f = 5 ∧ i < men c ∧ mv c i = true
  · rw [if_pos e, if_pos]
    refine ⟨e.1, e.2.1, e.2.2, ?_⟩
    have hm := e.2.2
    unfold mv at hm
    rw [Bool.and_eq_true, Bool.and_eq_true] at hm
    obtain ⟨j, hj, ej⟩ := zin_of hm.2.1
    unfold jof
    rw [ej, ncl (by have := hn.2.2.2; omega)]
    exact hj
  · rw [if_neg e, if_neg]
    rintro ⟨q1, q2, q3, _⟩
    exact e ⟨q1, q2, q3⟩
theorem movJ_some {c : Cr} {j i : Nat} (hi : i < men c) (hm : mv c i = true) (hj : jof c i = j) (hu : ∀ q, q < men c → mv c q = true → jof c q = j → q = i) : movJ c (j + 1) = cup (movJ c j) 5 i 1 := by
  funext f q
  unfold movJ cup
  by_cases e : f = 5 ∧ q = i
  · rw [if_pos e, if_pos ⟨e.1, by omega, by rw [e.2]; exact hm, by rw [e.2]; omega⟩]
  · rw [if_neg e]
    try dsimp only
    by_cases e2 : f = 5 ∧ q < men c ∧ mv c q = true ∧ jof c q < j
    · rw [if_pos e2, if_pos ⟨e2.1, e2.2.1, e2.2.2.1, by omega⟩]
    · rw [if_neg e2, if_neg]
      rintro ⟨q1, q2, q3, q4⟩
      by_cases e3 : jof c q = j
      · exact e ⟨q1, hu q q2 q3 e3⟩
      · exact e2 ⟨q1, q2, q3, by omega⟩
theorem movJ_none {c : Cr} {j : Nat} (hu : ∀ q, q < men c → mv c q = true → jof c q ≠ j) : movJ c (j + 1) = movJ c j := by
  funext f q
  unfold movJ
  by_cases e2 : f = 5 ∧ q < men c ∧ mv c q = true ∧ jof c q < j
  · rw [if_pos e2, if_pos ⟨e2.1, e2.2.1, e2.2.2.1, by omega⟩]
  · rw [if_neg e2, if_neg]
    rintro ⟨q1, q2, q3, q4⟩
    exact e2 ⟨q1, q2, q3, by have := hu q q2 q3; omega⟩
section MMOVE
variable {X : Nat → Nat → Int32} {d : Nat} {L : List zK} {I : Nat → Nat → Int32} {J : Nat → Nat → Int64} {r : Nat} {c : Cr}
theorem nbS_none (c : Cr) (j : Int32) (hn : Cn c) : (nbS c j = -1000000) = (houB c j (men c) = false) := by
  have h6 := hn.2.1
  apply propext
  unfold nbS
  cases hz : zfirst (fun m => decide (c 4 m = j) && housed c m) (men c) 0 with
  | some i =>
    obtain ⟨h1, h2, h3, h4⟩ := zfirst_some _ _ _ hz
    constructor
    · intro h
      have hh : ∀ i < 6, ¬ nI i = -1000000 := by decide +kernel
      exact absurd h (hh i (by omega))
    · intro h
      have := (anyB_f _ _).1 h i (by omega)
      rw [Bool.and_comm] at this
      rw [this] at h3
      cases h3
  | none =>
    refine ⟨fun _ => ?_, fun _ => rfl⟩
    refine (anyB_f _ _).2 (fun m hm => ?_)
    rw [Bool.and_comm]
    exact zfirst_none _ _ hz m (by omega) (by omega)
theorem jof_lt {c : Cr} (hv : Iv c) {m : Nat} (hm : m < men c) : jof c m < jud c ∧ c 4 m = nI (jof c m) := by
  obtain ⟨j, hj, ej⟩ := zin_of (hv.2.2.2 m hm).2.1
  have h4 := hv.1.2.2.2
  have : jof c m = j := by unfold jof; rw [ej, ncl (by omega)]
  rw [this]
  exact ⟨hj, ej⟩
/-- of the judge j the state stands yet as it was -/
theorem movJ_hou {c : Cr} (hv : Iv c) {j : Nat} (hj : j < jud c) : houB (movJ c j) (nI j) (men c) = houB c (nI j) (men c) := by
  have h4 := hv.1.2.2.2
  apply anyB_congr
  intro m hm
  rw [movJ_ne (show (4 : Nat) ≠ 5 by omega)]
  by_cases e : c 4 m = nI j
  · have : jof c m = j := by unfold jof; rw [e, ncl (by omega)]
    unfold housed
    rw [movJ_ge (by omega)]
  · rw [decide_eq_false e, Bool.and_false, Bool.and_false]
theorem m_move (h : MAt I r c) (hv : Iv c) (g : Int32) (u3 u4 : Option zV) : ∃ I' u3' u4', zgo X (zcall X (d+2)) none kX9_yearBy 2 [some (.inr (.inr (some (.inr (.int, 43), r)))), some (.inl (g)), some (.inl (0)), u3, u4] [] (L, zB1, I, J) = zgo X (zcall X (d+2)) none kX9_yearBy 85 [some (.inr (.inr (some (.inr (.int, 43), r)))), some (.inl (g)), some (.inl (0)), u3', u4'] [] (L, zB1, I', J) ∧ MAt I' r (movS c) ∧ FrM r I I' := by
  have hn := hv.1
  have h6 := hn.2.1
  have h4 := hn.2.2.2
  have := zloopR (fun k (s : Option zV × Option zV × (Nat → Nat → Int32)) => zgo X (zcall X (d+2)) none kX9_yearBy 2 [some (.inr (.inr (some (.inr (.int, 43), r)))), some (.inl (g)), some (.inl (nI k)), s.1, s.2.1] [] (L, zB1, s.2.2, J)) (fun k s => MAt s.2.2 r (movJ c k) ∧ FrM r I s.2.2) (jud c) (fun j s hj hp => by
    obtain ⟨u3, u4, I1⟩ := s
    obtain ⟨hc, hf⟩ := hp
    try dsimp only at hc hf ⊢
    have hN := movJ_n c j
    have hn1 := hN.2.2 hn
    have e0 : I1 r (0 : Int32).toNatClampNeg = nI (men c) := by rw [← hN.1]; exact hc.men hn1
    have e1 : I1 r (1 : Int32).toNatClampNeg = nI (jud c) := by rw [← hN.2.1]; exact hc.jud hn1
    rw [bX9_yearBy_2, show zin 1 43 = true from rfl, zbt_t, e1, if_neg (by rw [nle (by omega) (by omega)]; omega), m_whoIsBy hc hn1, cI_some, bX9_yearBy_14]
    have hnb := nbS_none (movJ c j) (nI j) hn1
    rw [hN.1, movJ_hou hv hj] at hnb
    cases hh : houB c (nI j) (men c) with
    | true =>
      rw [if_neg (by rw [hnb, hh]; decide), bX9_yearBy_28, show zin 0 43 = true from rfl, zbt_t, e0, nI_1]
      refine ⟨(some (.inl 0), some (.inl 0), I1), ?_, ?_, hf⟩
      · rw [if_pos (show (0 : Int32) = 0 from rfl)]; exact ite_self _
      · rw [movJ_none]
        · exact hc
        · intro q hq hm e
          unfold mv at hm
          rw [(jof_lt hv hq).2, e, hh, Bool.true_or, Bool.not_true, Bool.and_false, Bool.and_false] at hm
          cases hm
    | false =>
      rw [if_pos (by rw [hnb, hh])]
      have hmv : ∀ q, jof c q = j → q < men c → mv c q = (decide (c 5 q = 0) && !waiB c (nI j) q) := by
        intro q e hq
        unfold mv
        rw [(hv.2.2.2 q hq).2.1, (jof_lt hv hq).2, e, hh, Bool.false_or, Bool.true_and]
      obtain ⟨u, ex⟩ : ∃ u : Int32 × Int32 × (Nat → Nat → Int32), u.2.2 = u.2.2 ∧ zgo X (zcall X (d+2)) none kX9_yearBy 28 [some (.inr (.inr (some (.inr (.int, 43), r)))), some (.inl (g)), some (.inl (nI j)), some (.inl (1)), some (.inl (0))] [] (L, zB1, I1, J) = zgo X (zcall X (d+2)) none kX9_yearBy 2 [some (.inr (.inr (some (.inr (.int, 43), r)))), some (.inl (g)), some (.inl (nI (j + 1))), some (.inl (u.1)), some (.inl (u.2.1))] [] (L, zB1, u.2.2, J) ∧ MAt u.2.2 r (movJ c (j + 1)) ∧ FrM r I u.2.2 := by
        have hs := zsearch (fun m => zgo X (zcall X (d+2)) none kX9_yearBy 28 [some (.inr (.inr (some (.inr (.int, 43), r)))), some (.inl (g)), some (.inl (nI j)), some (.inl (1)), some (.inl (nI m))] [] (L, zB1, I1, J)) (fun m => decide (c 4 m = nI j) && decide (c 5 m = 0)) (fun m => zgo X (zcall X (d+2)) none kX9_yearBy 2 [some (.inr (.inr (some (.inr (.int, 43), r)))), some (.inl (g)), some (.inl (nI (j + 1))), some (.inl (0)), some (.inl (nI (m + 1)))] [] (L, zB1, (zup I1 r (13 + 5 * m + 3) 1), J)) (men c) 0 (fun m _ hm => by
          have hm : m < men c := by omega
          have hm1 : m < men (movJ c j) := by rw [hN.1]; exact hm
          try dsimp only
          rw [bX9_yearBy_28, show zin 0 43 = true from rfl, zbt_t, e0, if_neg (by rw [nle (by omega) (by omega)]; omega), if_neg (by decide), m_of1 hc hn1 hm1, cI_some, bX9_yearBy_47, m_of3 hc hn1 hm1, cI_some, bX9_yearBy_58, movJ_ne (show (4 : Nat) ≠ 5 by omega), nI_1]
          by_cases h1 : c 4 m = nI j
          · have ej : jof c m = j := by unfold jof; rw [h1, ncl (by omega)]
            rw [if_pos h1, movJ_ge (by omega), decide_eq_true h1, Bool.true_and]
            by_cases h2 : c 5 m = 0
            · rw [if_pos h2, decide_eq_true h2]
              have eb := m_bew (X := X) (d := d + 1) (L := L) (I := I1) (J := J) (r := r) (m := m) (by omega) 3 (by omega) 1
              rw [show (nI 3) = 3 from rfl] at eb
              rw [eb, cV_some, bX9_yearBy_69, bX9_yearBy_28, show zin 0 43 = true from rfl, zbt_t, if_pos (show (0 : Int32) = 0 from rfl), ite_self, nI_1, nI_1]
            · rw [if_neg h2, decide_eq_false h2]
          · rw [if_neg h1, decide_eq_false h1, Bool.false_and])
        cases hz : zfirst (fun m => decide (c 4 m = nI j) && decide (c 5 m = 0)) (men c) 0 with
        | some i =>
          obtain ⟨g1, g2, g3, g4⟩ := zfirst_some _ _ _ hz
          have g2 : i < men c := by omega
          rw [Bool.and_eq_true, decide_eq_true_eq, decide_eq_true_eq] at g3
          have ej : jof c i = j := by unfold jof; rw [g3.1, ncl (by omega)]
          rw [hz] at hs
          refine ⟨(_, _, _), rfl, hs, ?_, hf.up⟩
          have hw : ∀ q, q ≤ i → waiB c (nI j) q = false := by
            intro q hq
            refine (anyB_f _ _).2 (fun m hm => ?_)
            rw [Bool.and_comm]
            exact g4 m (by omega) (by omega)
          rw [movJ_some g2 (by rw [hmv i ej g2, decide_eq_true g3.2, hw i (by omega)]; rfl) ej]
          · have := hc.up (v := 1) hn1 (f := 5) (i := i) (by omega) (vm (by rw [hN.1]; exact g2) (by omega) (by omega))
            rw [mm 5 i (by omega)] at this
            exact this
          · intro q hq hm e
            rw [hmv q e hq, Bool.and_eq_true, decide_eq_true_eq] at hm
            by_cases e1 : q = i
            · exact e1
            · exfalso
              by_cases e2 : q < i
              · have := g4 q (by omega) e2
                rw [(jof_lt hv hq).2, e, decide_eq_true rfl, decide_eq_true hm.1] at this
                cases this
              · have : waiB c (nI j) q = true := (anyB_iff _ _).2 ⟨i, by omega, by rw [decide_eq_true g3.1, decide_eq_true g3.2]; rfl⟩
                rw [this] at hm
                exact absurd hm.2 (by decide)
        | none =>
          have g4 := zfirst_none _ _ hz
          rw [hz] at hs
          refine ⟨(1, nI (0 + men c), I1), rfl, hs.trans ?_, ?_, hf⟩
          · show zgo X (zcall X (d+2)) none kX9_yearBy 28 [some (.inr (.inr (some (.inr (.int, 43), r)))), some (.inl (g)), some (.inl (nI j)), some (.inl (1)), some (.inl (nI (0 + men c)))] [] (L, zB1, I1, J) = _
            rw [bX9_yearBy_28, show zin 0 43 = true from rfl, zbt_t, e0, if_pos (by rw [nle (by omega) (by omega)]; omega), nI_1]
          · rw [movJ_none]
            · exact hc
            · intro q hq hm e
              rw [hmv q e hq, Bool.and_eq_true, decide_eq_true_eq] at hm
              have := g4 q (by omega) (by omega)
              rw [(jof_lt hv hq).2, e, decide_eq_true rfl, decide_eq_true hm.1] at this
              cases this
      exact ⟨(_, _, u.2.2), ex.2.1, ex.2.2.1, ex.2.2.2⟩) (a := (u3, u4, I)) ⟨by rw [movJ_z]; exact h, FrM.rf r I⟩
  obtain ⟨⟨u3', u4', I1⟩, e, hc, hf⟩ := this
  refine ⟨I1, u3', u4', (show _ = _ from e).trans ?_, ?_, hf⟩
  · try dsimp only
    try dsimp only at hc
    have hN := movJ_n c (jud c)
    have e1 : I1 r (1 : Int32).toNatClampNeg = nI (jud c) := by
      have := hc.jud (hN.2.2 hn)
      rw [hN.2.1] at this
      exact this
    rw [bX9_yearBy_2, show zin 1 43 = true from rfl, zbt_t, e1, if_pos (by rw [nle (by omega) (by omega)]; omega)]
  · rw [← movJ_end hn]; exact hc
end MMOVE
