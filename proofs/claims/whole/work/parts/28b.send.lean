/-! sending: assignments, and what they are worth -/
def asC (c : Cr) (s : Nat → Int32) : Cr := fun f i => if f = 4 ∧ i < men c ∧ c 5 i = 0 then s i else c f i
def snK (c : Cr) (q S : Int32) (k : Nat) : Cr := fun f i => if f = 4 ∧ i < k ∧ c 5 i = 0 then (if bt S i = true then q else -1) else c f i
theorem asC_ne {c : Cr} {s : Nat → Int32} {f i : Nat} (h : f ≠ 4) : asC c s f i = c f i := if_neg (fun q => h q.1)
theorem snK_ne {c : Cr} {q S : Int32} {k f i : Nat} (h : f ≠ 4) : snK c q S k f i = c f i := if_neg (fun q => h q.1)
theorem asC_n (c : Cr) (s : Nat → Int32) : men (asC c s) = men c ∧ jud (asC c s) = jud c ∧ (Cn c → Cn (asC c s)) := by
  have h1 : men (asC c s) = men c := by unfold men; rw [asC_ne (by omega)]
  have h2 : jud (asC c s) = jud c := by unfold jud; rw [asC_ne (by omega)]
  refine ⟨h1, h2, ?_⟩
  unfold Cn
  rw [h1, h2, asC_ne (by omega), asC_ne (by omega)]
  exact id
theorem snK_n (c : Cr) (q S : Int32) (k : Nat) : men (snK c q S k) = men c ∧ jud (snK c q S k) = jud c ∧ (Cn c → Cn (snK c q S k)) := by
  have h1 : men (snK c q S k) = men c := by unfold men; rw [snK_ne (by omega)]
  have h2 : jud (snK c q S k) = jud c := by unfold jud; rw [snK_ne (by omega)]
  refine ⟨h1, h2, ?_⟩
  unfold Cn
  rw [h1, h2, snK_ne (by omega), snK_ne (by omega)]
  exact id
theorem nI_mo {q : Nat} (h : q < 2 ^ 31) : ¬ (-1 : Int32) = nI q := by
  intro e
  have : (nI q).toInt = -1 := by rw [← e]; rfl
  rw [nI_int h] at this
  omega
theorem asC_LQ {c : Cr} {s : Nat → Int32} {j : Nat} (hj : j < 2 ^ 31) {S : Int32} (hS : ∀ m, m < men c → c 5 m = 0 → (bt S m = true ↔ s m = nI j)) : LQ (nI j) (asC c s) (snK c (nI j) S (men c)) := by
  refine ⟨fun f i hf => by rw [asC_ne (by omega), snK_ne (by omega)], fun m => ?_⟩
  by_cases w : m < men c ∧ c 5 m = 0
  · have e1 : asC c s 4 m = s m := if_pos ⟨rfl, w⟩
    have e2 : snK c (nI j) S (men c) 4 m = if bt S m = true then nI j else -1 := if_pos ⟨rfl, w⟩
    rw [e1, e2]
    have hh := hS m w.1 w.2
    refine ⟨?_, fun hm f => ?_⟩
    · by_cases hb : bt S m = true
      · rw [if_pos hb]; exact ⟨fun _ => hh.1 hb, fun _ => rfl⟩
      · rw [if_neg hb]; exact ⟨fun e => absurd e (nI_mo hj), fun e => absurd (hh.2 e) hb⟩
    · by_cases hf : f = 4
      · rw [hf, e1, e2, if_pos (hh.2 hm), hm]
      · rw [asC_ne hf, snK_ne hf]
  · have e1 : ∀ f, asC c s f m = c f m := fun f => if_neg (fun q => w q.2)
    have e2 : ∀ f, snK c (nI j) S (men c) f m = c f m := fun f => if_neg (fun q => w q.2)
    rw [e1, e2]
    exact ⟨Iff.rfl, fun _ f => by rw [e1, e2]⟩
theorem Iv_asC {c : Cr} (hv : Iv c) {s : Nat → Int32} (hs : ∀ m, m < men c → c 5 m = 0 → zin (s m) (jud c) = true) : Iv (asC c s) := by
  have hn := asC_n c s
  refine ⟨hn.2.2 hv.1, by rw [asC_ne (by omega)]; exact hv.2.1, fun j hj => ?_, fun m hm => ?_⟩
  · rw [hn.2.1] at hj
    rw [asC_ne (by omega), asC_ne (by omega)]
    exact hv.2.2.1 j hj
  · rw [hn.1] at hm
    have hI := hv.2.2.2 m hm
    unfold Im serving
    rw [hn.2.1, asC_ne (f := 3) (by omega), asC_ne (f := 5) (by omega), asC_ne (f := 6) (by omega), asC_ne (f := 7) (by omega)]
    refine ⟨hI.1, ?_, hI.2.2⟩
    by_cases w : c 5 m = 0
    · rw [show asC c s 4 m = s m from if_pos ⟨rfl, hm, w⟩]; exact hs m hm w
    · rw [show asC c s 4 m = c 4 m from if_neg (fun q => w q.2.2)]; exact hI.2.1
def valS (c : Cr) (n : Nat) (s : Nat → Int32) : Int32 := 1000 * bcS (whoS (pasS n 0 (asC c s)) 2 ||| whoS (pasS n 0 (asC c s)) 3) + taS (pasS n 0 (asC c s))
def WS (c : Cr) (n j : Nat) (S : Int32) : Int32 := dnS (pasS n 0 (snK c (nI j) S (men c))) (nI j) * 1000 + ttS (pasS n 0 (snK c (nI j) S (men c))) (nI j)
theorem bt_done {c : Cr} (hv : Iv c) {j : Nat} (hj : j < 32) : bt (whoS c 2 ||| whoS c 3) j = (decide (j < men c) && !serving c j) := by
  have hn := hv.1
  rw [bt_or, bt_whoS hn 2 hj, bt_whoS hn 3 hj]
  by_cases hm : j < men c
  · rw [decide_eq_true hm, Bool.true_and, Bool.true_and, Bool.true_and]
    have h5 := (hv.2.2.2 j hm).2.2.1
    rcases rg03 h5 with e | e | e | e <;> unfold serving <;> rw [e] <;> decide
  · rw [decide_eq_false hm]; rfl
theorem sm_bc {c : Cr} (hv : Iv c) : bcS (whoS c 2 ||| whoS c 3) = sm (men c) (fun m => if serving c m = true then 0 else 1) := by
  have h6 := hv.1.2.1
  have e : bcS (whoS c 2 ||| whoS c 3) = sm 6 (fun k => b2i (decide (k < men c) && !serving c k)) := by
    unfold bcS sm
    exact zfold_congr 6 (fun k hk x9 => by rw [bt_done hv (by omega)])
  rw [e]
  have := zfold_ext (0 : Int32) (fun k a => a + b2i (decide (k < men c) && !serving c k)) (men c) (6 - men c) (fun k h1 h2 x9 => by
    rw [decide_eq_false (by omega), Bool.false_and]
    exact Int32.add_zero x9)
  rw [show men c + (6 - men c) = 6 by omega] at this
  show zfold 6 0 (fun k a => a + b2i (decide (k < men c) && !serving c k)) = _
  rw [this]
  apply sm_cg
  intro m hm
  rw [decide_eq_true hm, Bool.true_and]
  cases serving c m <;> rfl
theorem sm_judges {c : Cr} (hv : Iv c) (f : Nat → Int32) : sm (jud c) (fun j => sm (men c) (fun m => if c 4 m = nI j then f m else 0)) = sm (men c) f := by
  have h4 := hv.1.2.2.2
  rw [sm_swap]
  apply sm_cg
  intro m hm
  obtain ⟨j, hj, e⟩ := zin_of (hv.2.2.2 m hm).2.1
  rw [e, sm_pick (f m) (jud c) (by omega) (by omega), if_pos hj]
theorem val_sum {c : Cr} {n : Nat} {s : Nat → Int32} (hv : Iv (asC c s)) (S : Nat → Int32) (hS : ∀ j, j < jud c → ∀ m, m < men c → c 5 m = 0 → (bt (S j) m = true ↔ s m = nI j)) : sm (jud c) (fun j => WS c n j (S j)) = valS c n s := by
  have hn := asC_n c s
  have hI := Iv_pasS 0 hv n
  have hP := pasS_n 0 (asC c s) n
  have h4 := hv.1.2.2.2
  rw [hn.2.1] at h4
  have e1 : sm (jud c) (fun j => WS c n j (S j)) = sm (jud c) (fun j => dnS (pasS n 0 (asC c s)) (nI j) * 1000 + ttS (pasS n 0 (asC c s)) (nI j)) := by
    apply sm_cg
    intro j hj
    have hl := ((asC_LQ (s := s) (j := j) (by omega) (hS j hj)).pas 0 n).tt
    unfold WS
    rw [hl.1, hl.2]
  have e2 := sm_judges hI (fun m => pasS n 0 (asC c s) 7 m)
  have e3 := sm_judges hI (fun m => if serving (pasS n 0 (asC c s)) m = true then 0 else 1)
  rw [hP.2.1, hn.2.1] at e2 e3
  rw [e1, sm_add, sm_mul]
  unfold valS
  rw [sm_bc hI, Int32.mul_comm 1000, ← e3]
  congr 1
theorem val_rg {c : Cr} {n : Nat} {s : Nat → Int32} (hv : Iv (asC c s)) : 0 ≤ (valS c n s).toInt := by
  have hI := Iv_pasS 0 hv n
  have ht := taS_rg hI
  have h6 := hI.1.2.1
  obtain ⟨b, hb, e⟩ := mask_of (x9 := whoS (pasS n 0 (asC c s)) 2 ||| whoS (pasS n 0 (asC c s)) 3) (k := 6) (by omega) (fun j h1 h2 => by rw [bt_done hI h2, decide_eq_false (by omega), Bool.false_and])
  have hbc := bcS_6 (show b < 64 from hb)
  unfold valS
  rw [e]
  obtain ⟨w1, w2⟩ := hbc
  obtain ⟨w3, w4⟩ := ht
  have ek : (1000 : Int32).toInt = 1000 := rfl
  have e1 : (1000 * bcS (nI b)).toInt = 1000 * (bcS (nI b)).toInt := by
    rw [Jvm.Kit.i32_mul (by rw [ek]; omega) (by rw [ek]; omega), ek]
  rw [Jvm.Kit.i32_add (by rw [e1]; omega) (by rw [e1]; omega), e1]
  omega
/-- of the last k men, those who wait -/
def wq (c : Cr) : Nat → Nat
  | 0 => 0
  | k + 1 => wq c k + (if c 5 (men c - (k + 1)) = 0 then 1 else 0)
theorem wq_s (c : Cr) (k : Nat) : wq c (k + 1) = wq c k + (if c 5 (men c - (k + 1)) = 0 then 1 else 0) := rfl
theorem wq_le (c : Cr) (a : Nat) : ∀ k, wq c a ≤ wq c (a + k) ∧ wq c (a + k) ≤ wq c a + k
  | 0 => ⟨Nat.le_refl _, Nat.le_refl _⟩
  | k + 1 => by
    obtain ⟨h1, h2⟩ := wq_le c a k
    rw [← Nat.add_assoc, wq_s]
    split <;> omega
def kK (c : Cr) (k : Nat) : Nat := jud c ^ wq c k
def asg (c : Cr) (t m : Nat) : Int32 := if c 5 m = 0 then nI ((t / kK c (men c - 1 - m)) % jud c) else c 4 m
theorem kK_pos {c : Cr} (hj : 0 < jud c) (k : Nat) : 0 < kK c k := Nat.pow_pos hj
theorem asg_pre {c : Cr} (hj : 0 < jud c) {k i t T0 : Nat} (hk : k ≤ men c) (hi : i < men c - k) (ht : t < kK c k) : asg c (T0 * kK c k + t) i = asg c (T0 * kK c k) i := by
  unfold asg
  by_cases w : c 5 i = 0
  · rw [if_pos w, if_pos w]
    congr 2
    have hle := (wq_le c k (men c - 1 - i - k)).1
    rw [show k + (men c - 1 - i - k) = men c - 1 - i by omega] at hle
    have hp : kK c (men c - 1 - i) = kK c k * jud c ^ (wq c (men c - 1 - i) - wq c k) := by
      unfold kK
      rw [← Nat.pow_add]
      congr 1
      omega
    have hK := kK_pos hj k
    rw [hp, ← Nat.div_div_eq_div_mul, ← Nat.div_div_eq_div_mul, Nat.add_comm, Nat.add_mul_div_right _ _ hK, Nat.div_eq_of_lt ht, Nat.mul_div_cancel _ hK, Nat.zero_add]
  · rw [if_neg w, if_neg w]
theorem asg_at {c : Cr} (hj : 0 < jud c) {m T0 j : Nat} (hm : m < men c) (hw : c 5 m = 0) (hjj : j < jud c) : asg c ((T0 * jud c + j) * kK c (men c - 1 - m)) m = nI j := by
  unfold asg
  rw [if_pos hw, Nat.mul_div_cancel _ (kK_pos hj _), Nat.add_comm, Nat.add_mul_mod_self_right, Nat.mod_eq_of_lt hjj]
theorem asg_ok {c : Cr} (hv : Iv c) (hj : 0 < jud c) (t : Nat) : Iv (asC c (asg c t)) := by
  have h4 := hv.1.2.2.2
  refine Iv_asC hv (fun m hm hw => ?_)
  unfold asg
  rw [if_pos hw]
  exact zin_nI (Nat.mod_lt _ hj) (by omega)
def gS (c : Cr) (n T : Nat) : Int32 × Nat := zfold T (-1, 0) (fun t st => if valS c n (asg c t) ≤ st.1 then st else (valS c n (asg c t), t))
theorem gS_s (c : Cr) (n T : Nat) : gS c n (T + 1) = if valS c n (asg c T) ≤ (gS c n T).1 then gS c n T else (valS c n (asg c T), T) := rfl
theorem gS_rg {c : Cr} (hv : Iv c) (hj : 0 < jud c) (n : Nat) : ∀ T, 0 < T → 0 ≤ ((gS c n T).1).toInt
  | 0, h => by omega
  | T + 1, _ => by
    have hr := val_rg (n := n) (asg_ok hv hj T)
    rw [gS_s]
    by_cases q : valS c n (asg c T) ≤ (gS c n T).1
    · rw [if_pos q]
      rw [i32_le] at q
      omega
    · rw [if_neg q]; exact hr
