/-! fences: ways, and their sum -/
def wL (t : Int32) (s : Nat) (k : Nat) : Int64 := zfold k 1 (fun i a => a * (if bt (nI s) i = true then t.toInt64 else (10 - t).toInt64))
def toK (t : Int32) (n k : Nat) : Int64 := zfold k 0 (fun s a => a + wL t s n)
def p10 (n : Nat) : Int64 := zfold n 1 (fun _ a => a * 10)
theorem fence_sum0 : ∀ n ≤ 5, ∀ t ≤ 10, toK (nI t) n (2 ^ n) = p10 n := by decide +kernel
theorem fence_sum1 : ∀ t ≤ 10, toK (nI t) 6 (2 ^ 6) = p10 6 := by decide +kernel
theorem fence_sum2 : ∀ t ≤ 10, toK (nI t) 7 (2 ^ 7) = p10 7 := by decide +kernel
theorem fence_sum3 : ∀ t ≤ 10, toK (nI t) 8 (2 ^ 8) = p10 8 := by decide +kernel
theorem fence_sum {n : Nat} (hn : n ≤ 8) {t : Nat} (ht : t ≤ 10) : toK (nI t) n (2 ^ n) = p10 n := by
  by_cases h5 : n ≤ 5
  · exact fence_sum0 n h5 t ht
  · have : n = 6 ∨ n = 7 ∨ n = 8 := by omega
    rcases this with rfl | rfl | rfl
    · exact fence_sum1 t ht
    · exact fence_sum2 t ht
    · exact fence_sum3 t ht
theorem p10_pos : ∀ n ≤ 8, 0 < (p10 n).toInt ∧ (p10 n).toInt ≤ 100000000 := by decide +kernel
