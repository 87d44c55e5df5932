/-! fences: ranges, the common divisor -/
theorem ten_sub : ∀ t ≤ 10, (10 : Int64) - (nI t).toInt64 = (10 - nI t).toInt64 := by decide +kernel
theorem ten_rg : ∀ t ≤ 10, (nI t).toInt64.toInt = (t : Int) ∧ (10 - nI t).toInt64.toInt = ((10 - t : Nat) : Int) := by decide +kernel
theorem pw10 : ∀ k ≤ 8, 10 ^ k ≤ 100000000 := by decide
theorem wL_rg {t : Nat} (ht : t ≤ 10) (s : Nat) : ∀ k, k ≤ 8 → ∃ w : Nat, (wL (nI t) s k).toInt = (w : Int) ∧ w ≤ 10 ^ k
  | 0, _ => ⟨1, rfl, Nat.le_refl _⟩
  | k + 1, hk => by
    obtain ⟨w, h1, h2⟩ := wL_rg ht s k (by omega)
    have hp := pw10 k (by omega)
    have hr := ten_rg t ht
    have e : wL (nI t) s (k + 1) = wL (nI t) s k * (if bt (nI s) k = true then (nI t).toInt64 else (10 - nI t).toInt64) := rfl
    have key : ∀ x9 : Int64, ∀ y9 : Nat, x9.toInt = (y9 : Int) → y9 ≤ 10 → ∃ w' : Nat, (wL (nI t) s k * x9).toInt = (w' : Int) ∧ w' ≤ 10 ^ (k + 1) := by
      intro x9 y9 hx hy
      have hm : w * y9 ≤ 10 ^ k * 10 := Nat.mul_le_mul h2 hy
      refine ⟨w * y9, ?_, by rw [Nat.pow_succ]; exact hm⟩
      have e2 : (wL (nI t) s k).toInt * x9.toInt = ((w * y9 : Nat) : Int) := by rw [h1, hx]; push_cast; rfl
      rw [Jvm.Kit.i64_mul (by rw [e2]; omega) (by rw [e2]; omega), e2]
    rw [e]
    by_cases q : bt (nI s) k = true
    · rw [if_pos q]; exact key _ t hr.1 ht
    · rw [if_neg q]; exact key _ (10 - t) hr.2 (by omega)
def abS (c : Cr) (m : Nat) (t : Int32) (n k : Nat) : Int64 := zfold k 0 (fun s a => if pasS n (nI s) c 5 m = 3 then a + wL t s n else a)
theorem abS_s (c : Cr) (m : Nat) (t : Int32) (n k : Nat) : abS c m t n (k + 1) = if pasS n (nI k) c 5 m = 3 then abS c m t n k + wL t k n else abS c m t n k := rfl
theorem abS_rg (c : Cr) (m : Nat) {t n : Nat} (ht : t ≤ 10) (hn : n ≤ 8) : ∀ k, k ≤ 256 → ∃ w : Nat, (abS c m (nI t) n k).toInt = (w : Int) ∧ w ≤ k * 100000000
  | 0, _ => ⟨0, rfl, by omega⟩
  | k + 1, hk => by
    obtain ⟨w, h1, h2⟩ := abS_rg c m ht hn k (by omega)
    obtain ⟨x9, h3, h4⟩ := wL_rg ht k n hn
    have hp := pw10 n hn
    rw [abS_s]
    by_cases q : pasS n (nI k) c 5 m = 3
    · rw [if_pos q]
      refine ⟨w + x9, ?_, by omega⟩
      rw [Jvm.Kit.i64_add (by rw [h1, h3]; omega) (by rw [h1, h3]; omega), h1, h3]
      push_cast; rfl
    · rw [if_neg q]
      exact ⟨w, h1, Nat.le_trans h2 (Nat.mul_le_mul_right _ (Nat.le_succ k))⟩
theorem rem_nat {v1 v3 : Int64} {p q : Nat} (h1 : v1.toInt = (p : Int)) (h3 : v3.toInt = (q : Int)) : (v1 - v1 / v3 * v3).toInt = ((p % q : Nat) : Int) := by
  rw [Jvm.Kit.i64_rem_nonneg (by rw [h1]; omega), h1, h3]
  push_cast; rfl
theorem i64_z {v : Int64} {q : Nat} (h : v.toInt = (q : Int)) : v = 0 ↔ q = 0 := by
  constructor
  · intro e
    rw [e, show (0 : Int64).toInt = 0 from rfl] at h
    omega
  · intro e
    apply Int64.toInt_inj.mp
    rw [h, e]; rfl
theorem mod_half {p q : Nat} (hq : q ≠ 0) (hr : p % q ≠ 0) {t : Nat} (ht : q < 2 ^ (t + 1)) : q % (p % q) < 2 ^ t := by
  have h1 : p % q < q := Nat.mod_lt _ (by omega)
  have h2 : q % (p % q) < p % q := Nat.mod_lt _ (by omega)
  have h3 := Nat.div_add_mod q (p % q)
  have h4 : 1 ≤ q / (p % q) := (Nat.one_le_div_iff (by omega)).2 (by omega)
  have h5 : p % q * 1 ≤ p % q * (q / (p % q)) := Nat.mul_le_mul_left _ h4
  have h6 : 2 ^ (t + 1) = 2 ^ t * 2 := Nat.pow_succ ..
  omega
section GCD
variable {X : Nat → Nat → Int32} {d : Nat} {L : List zK} {I : Nat → Nat → Int32} {J : Nat → Nat → Int64}
theorem c_red13 : ∀ (t p q k : Nat) (v1 v3 : Int64) (u6 : Option zV), v1.toInt = (p : Int) → v3.toInt = (q : Int) → q < 2 ^ t → k + 2 * t ≤ 99 → ∃ (g : Int64) (v3' : Int64) (v5' : Int32) (u6' : Option zV), zgo X (zcall X (d)) none kX3_reduce 13 [some (.inr (.inr (some (.inl 3, 225)))), some (.inr (.inl (v1))), none, some (.inr (.inl (v3))), none, some (.inl (nI k)), u6, none] [] (L, zB1, I, J) = zgo X (zcall X (d)) none kX3_reduce 42 [some (.inr (.inr (some (.inl 3, 225)))), some (.inr (.inl (g))), none, some (.inr (.inl (v3'))), none, some (.inl (v5')), u6', none] [] (L, zB1, I, J) ∧ g.toInt = ((Nat.gcd p q : Nat) : Int)
  | 0, p, q, k, v1, v3, u6, h1, h3, hq, hk => by
    have hq0 : q = 0 := by omega
    refine ⟨v1, v3, nI k, u6, ?_, by rw [hq0, Nat.gcd_zero_right]; exact h1⟩
    rw [bX3_reduce_13, if_neg (by show ¬ nI 100 ≤ nI k; rw [nle (by omega) (by omega)]; omega), if_pos ((lg_cmp_eq _ _).2 ((i64_z h3).2 hq0))]
  | t + 1, p, q, k, v1, v3, u6, h1, h3, hq, hk => by
    by_cases hq0 : q = 0
    · refine ⟨v1, v3, nI k, u6, ?_, by rw [hq0, Nat.gcd_zero_right]; exact h1⟩
      rw [bX3_reduce_13, if_neg (by show ¬ nI 100 ≤ nI k; rw [nle (by omega) (by omega)]; omega), if_pos ((lg_cmp_eq _ _).2 ((i64_z h3).2 hq0))]
    · have hn3 : ¬ v3 = 0 := fun e => hq0 ((i64_z h3).1 e)
      have hr := rem_nat h1 h3
      have eg : Nat.gcd p q = Nat.gcd q (p % q) := by
        rw [Nat.gcd_comm p q, Nat.gcd_rec q p, Nat.gcd_comm]
      rw [bX3_reduce_13, if_neg (by show ¬ nI 100 ≤ nI k; rw [nle (by omega) (by omega)]; omega), if_neg (fun w => hn3 ((lg_cmp_eq _ _).1 w)), if_neg hn3, nI_1]
      by_cases hr0 : p % q = 0
      · refine ⟨v3, v1 - v1 / v3 * v3, nI (k + 1), some (.inr (.inl (v1 - v1 / v3 * v3))), ?_, by rw [eg, hr0, Nat.gcd_zero_right]; exact h3⟩
        rw [bX3_reduce_13, if_neg (by show ¬ nI 100 ≤ nI (k + 1); rw [nle (by omega) (by omega)]; omega), if_pos ((lg_cmp_eq _ _).2 ((i64_z hr).2 hr0))]
      · have hn4 : ¬ v1 - v1 / v3 * v3 = 0 := fun e => hr0 ((i64_z hr).1 e)
        have hr2 := rem_nat h3 hr
        obtain ⟨g, a, b, u, e, hg⟩ := c_red13 t (p % q) (q % (p % q)) (k + 1 + 1) (v1 - v1 / v3 * v3) (v3 - v3 / (v1 - v1 / v3 * v3) * (v1 - v1 / v3 * v3)) (some (.inr (.inl (v3 - v3 / (v1 - v1 / v3 * v3) * (v1 - v1 / v3 * v3))))) hr hr2 (mod_half hq0 hr0 hq) (by omega)
        refine ⟨g, a, b, u, ?_, ?_⟩
        · rw [bX3_reduce_13, if_neg (by show ¬ nI 100 ≤ nI (k + 1); rw [nle (by omega) (by omega)]; omega), if_neg (fun w => hn4 ((lg_cmp_eq _ _).1 w)), if_neg hn4, nI_1]
          exact e
        · rw [hg, eg, Nat.gcd_comm q (p % q), Nat.gcd_rec (p % q) q, Nat.gcd_comm]
theorem c_reduce {na nb : Nat} (h1 : (J 225 1).toInt = (na : Int)) (h2 : (J 225 2).toInt = (nb : Int)) (ha : na < 2 ^ 40) (hb : 0 < nb) : ∃ (J' : Nat → Nat → Int64) (g : Int64), zcall X (d + 1) 47 [.inr (.inr (some (.inl 3, 225)))] (L, zB1, I, J) = some (none, (L, zB1, I, J')) ∧ g.toInt = ((Nat.gcd nb na : Nat) : Int) ∧ J' 225 1 = J 225 1 / g ∧ J' 225 2 = J 225 2 / g := by
  obtain ⟨g, a, b, u, e, hg⟩ := c_red13 (X := X) (d := d) (L := L) (I := I) (J := J) 40 nb na 0 (J 225 2) (J 225 1) none h2 h1 ha (by omega)
  have hg0 : ¬ g = 0 := by
    intro q
    have := (i64_z hg).1 q
    have := Nat.gcd_pos_of_pos_left na hb
    omega
  refine ⟨zup (zup J 225 1 (J 225 1 / g)) 225 2 (J 225 2 / g), g, ?_, hg, ?_, ?_⟩
  · rw [eX3_reduce]
    refine (show _ = _ from e).trans ?_
    rw [bX3_reduce_42, if_neg (fun w => hg0 ((lg_cmp_eq _ _).1 w)), if_neg hg0, if_neg hg0, zup_at, if_neg (by omega)]
  · rw [zup_at, if_neg (by omega), zup_at, if_pos ⟨rfl, rfl⟩]
  · rw [zup_at, if_pos ⟨rfl, rfl⟩]
theorem m_gcd (v1 v2 v3 v4 : Int32) (v5 v7 : Int64) : ∀ (t p q : Nat) (v9 v11 : Int64) (u13 : Option zV), v9.toInt = (p : Int) → v11.toInt = (q : Int) → q < 2 ^ t → 0 < Nat.gcd p q → ∃ g : Int64, zgo X (zcall X (d)) (some .long) kX9_fence 184 [some (.inr (.inr (some (.inl 9, 283)))), some (.inl (v1)), some (.inl (v2)), some (.inl (v3)), some (.inl (v4)), some (.inr (.inl (v5))), none, some (.inr (.inl (v7))), none, some (.inr (.inl (v9))), none, some (.inr (.inl (v11))), none, u13, none] [] (L, zB1, I, J) = some (some (.inr (.inl (if v4 = 0 then v5 / g else v7 / g))), (L, zB1, I, J)) ∧ g.toInt = ((Nat.gcd p q : Nat) : Int)
  | t, p, q, v9, v11, u13, h9, h11, hq, hg => by
    by_cases hq0 : q = 0
    · have hn9 : ¬ v9 = 0 := by
        intro e
        have := (i64_z h9).1 e
        rw [this, hq0] at hg
        exact absurd hg (by decide)
      refine ⟨v9, ?_, by rw [hq0, Nat.gcd_zero_right]; exact h9⟩
      rw [bX9_fence_184, if_pos ((lg_cmp_eq _ _).2 ((i64_z h11).2 hq0)), if_neg hn9]
      split <;> rfl
    · have hn11 : ¬ v11 = 0 := fun e => hq0 ((i64_z h11).1 e)
      have hr := rem_nat h9 h11
      have eg : Nat.gcd p q = Nat.gcd q (p % q) := by
        rw [Nat.gcd_comm p q, Nat.gcd_rec q p, Nat.gcd_comm]
      have hlt : p % q < q := Nat.mod_lt _ (by omega)
      obtain ⟨g, e, hg2⟩ := m_gcd v1 v2 v3 v4 v5 v7 t q (p % q) v11 (v9 - v9 / v11 * v11) (some (.inr (.inl (v9 - v9 / v11 * v11)))) h11 hr (by omega) (by rw [← eg]; exact hg)
      refine ⟨g, ?_, by rw [eg]; exact hg2⟩
      rw [bX9_fence_184, if_neg (fun w => hn11 ((lg_cmp_eq _ _).1 w)), if_neg hn11]
      exact e
termination_by _ _ q => q
end GCD
