/-! the law: from the made state on -/
theorem l_init {I : Nat → Nat → Int32} (h : ∀ k, k < zLc.length → ∀ i, i < zks (zLc.getD k (.inl 0)) → I k i = zIc k i) : Rel I := by
  have z : ∀ k i, k < zLc.length → i < zks (zLc.getD k (.inl 0)) → k ≠ 12 → k ≠ 284 → I k i = 0 := fun k i h1 h2 h3 h4 => by
    rw [h k h1 i h2]
    unfold zIc
    rw [if_neg h3, if_neg h4]
  have s12 : ∀ r < 8, 12 < zLc.length ∧ r < zks (zLc.getD 12 (.inl 0)) := by decide +kernel
  have s284 : ∀ r < 8, 284 < zLc.length ∧ r < zks (zLc.getD 284 (.inl 0)) := by decide +kernel
  have s13 : ∀ i < 5, 13 < zLc.length ∧ i < zks (zLc.getD 13 (.inl 0)) := by decide +kernel
  have s287 : ∀ i < 5, 287 < zLc.length ∧ i < zks (zLc.getD 287 (.inl 0)) := by decide +kernel
  have s295 : ∀ i < 2, 295 < zLc.length ∧ i < zks (zLc.getD 295 (.inl 0)) := by decide +kernel
  have simg : ∀ k < 2, 267 + 8 * k < zLc.length ∧ 1 < zks (zLc.getD (267 + 8 * k) (.inl 0)) := by decide +kernel
  refine ⟨?_, ⟨fun _ _ => 0, ?_, ?_, ?_⟩, ⟨0, by omega, ?_, ?_, fun k hk => by omega, ?_⟩, ⟨0, 0, fun _ _ _ => 0, by omega, by omega, ?_, ?_, ?_, fun k hk => by omega⟩, ?_, ⟨0, by omega, ?_, ?_, fun k hk => by omega⟩, ?_⟩
  · intro r hr
    refine Or.inl ⟨?_, ?_⟩
    · rw [h 12 (s12 r hr).1 r (s12 r hr).2]; rfl
    · rw [h 284 (s284 r hr).1 r (s284 r hr).2]; rfl
  · intro f i hv
    have hv2 : f = 0 ∧ i < 5 := by
      unfold vld at hv
      rw [show men (fun _ _ => 0) = 0 from rfl, show jud (fun _ _ => 0) = 0 from rfl] at hv
      omega
    obtain ⟨rfl, hi⟩ := hv2
    exact z 13 i (s13 i hi).1 (s13 i hi).2 (by omega) (by omega)
  · intro f i hv
    have hv2 : f = 0 ∧ i < 5 := by
      unfold vld at hv
      rw [show men (fun _ _ => 0) = 0 from rfl, show jud (fun _ _ => 0) = 0 from rfl] at hv
      omega
    obtain ⟨rfl, hi⟩ := hv2
    have hm : ∀ i < 5, mix 0 i < 5 := by decide
    exact z 287 _ (s287 _ (hm i hi)).1 (s287 _ (hm i hi)).2 (by omega) (by omega)
  · refine ⟨⟨rfl, by show (0 : Nat) ≤ 6; omega, rfl, by show (0 : Nat) ≤ 4; omega⟩, ⟨by decide, by decide⟩, fun j hj => ?_, fun m hm => ?_⟩
    · rw [show jud (fun _ _ => 0) = 0 from rfl] at hj; omega
    · rw [show men (fun _ _ => 0) = 0 from rfl] at hm; omega
  · exact z 21 2 (by decide +kernel) (by decide +kernel) (by omega) (by omega)
  · exact z 283 11 (by decide +kernel) (by decide +kernel) (by omega) (by omega)
  · rw [z 21 9 (by decide +kernel) (by decide +kernel) (by omega) (by omega), z 283 18 (by decide +kernel) (by decide +kernel) (by omega) (by omega)]
  · exact z 31 2 (by decide +kernel) (by decide +kernel) (by omega) (by omega)
  · exact z 283 9 (by decide +kernel) (by decide +kernel) (by omega) (by omega)
  · exact z 31 1 (by decide +kernel) (by decide +kernel) (by omega) (by omega)
  · intro k hk
    exact Or.inl ⟨z 295 k (s295 k hk).1 (s295 k hk).2 (by omega) (by omega), z _ 1 (simg k hk).1 (simg k hk).2 (by omega) (by omega)⟩
  · exact z 264 1 (by decide +kernel) (by decide +kernel) (by omega) (by omega)
  · exact z 283 25 (by decide +kernel) (by decide +kernel) (by omega) (by omega)
  · show I 0 9 = I 283 1
    rw [z 0 9 (by decide +kernel) (by decide +kernel) (by omega) (by omega), z 283 1 (by decide +kernel) (by decide +kernel) (by omega) (by omega)]
theorem l_loop {X : Nat → Nat → Int32} {d : Nat} {L : List zK} (hX1 : X 1 = zNr) (hX2 : X 2 = zSz) (hX3 : X 3 = zMk) {N0 : Nat} (hN : N0 ≤ 3072) : ∀ (m i : Nat) (I : Nat → Nat → Int32) (J : Nat → Nat → Int64), N0 < i + 6 + 6 * m → i ≤ N0 + 6 → Rel I → ∃ I' J', zgo X (zcall X (d + 20)) (some .boolean) kL_law 18 [some (.inr (.inr (some (.inr (.float, N0), 0)))), some (.inr (.inr (some (.inl 8, 0)))), some (.inr (.inr (some (.inl 9, 283)))), some (.inl (nI i))] [] (L, zB1, I, J) = some (some (.inl 1), (L, zB1, I', J'))
  | m, i, I, J, hm, hi, hr => by
    by_cases q : i + 6 ≤ N0
    · cases m with
      | zero => omega
      | succ m =>
        obtain ⟨I1, J1, e1, hr1⟩ := l_step (d := d) (L := L) (J := J) hX1 hX2 hX3 hN q hr
        have e6 : nI i + 6 = nI (i + 6) := nI_add i 6
        rw [e6] at e1
        obtain ⟨I2, J2, e2⟩ := l_loop hX1 hX2 hX3 hN m (i + 6) I1 J1 (by omega) (by omega) hr1
        exact ⟨I2, J2, e1.trans e2⟩
    · have e6 : (Int32.ofNat N0 - 6).toInt = (N0 : Int) - 6 := by
        have ek : (6 : Int32).toInt = 6 := rfl
        show (nI N0 - 6).toInt = _
        rw [Jvm.Kit.i32_sub (by rw [nI_int (by omega), ek]; omega) (by rw [nI_int (by omega), ek]; omega), nI_int (by omega), ek]
      refine ⟨I, J, ?_⟩
      rw [bL_law_18, if_pos (by rw [i32_lt, e6, nI_int (by omega)]; omega)]
theorem zpure_all : zPure 40 := by
  intro N0 xs I J hN h
  exact l_loop (d := 20) (L := zLc) (X := zXs xs) rfl rfl rfl hN N0 0 I J (by omega) (by omega) (l_init h)
