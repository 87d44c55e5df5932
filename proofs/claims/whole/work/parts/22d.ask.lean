/-! ask -/
section ASKP
variable {X : Nat → Nat → Int32} {d : Nat} {L : List zK} {I : Nat → Nat → Int32} {J : Nat → Nat → Int64}
theorem aSize_le {k : Int32} (h : rg k 1 5) : (aSize k).length ≤ 16 ∧ (aMark k).length ≤ 16 := by
  rcases rg15 h with rfl | rfl | rfl | rfl | rfl <;> exact ⟨by decide, by decide⟩
theorem p_ask (hX1 : X 1 = zNr) (hX2 : X 2 = zSz) (hX3 : X 3 = zMk) (a1 a2 : Int32) : Pub X (d + 20) L 142 237 [.inl a1, .inl a2] := by
  intro I J hr
  obtain ⟨c, hC, hM, hv⟩ := hr.2.1
  have hn := hv.1
  have h6 := hn.2.1
  have c1 := eX8_ask X (d + 19) L I J a1 a2
  rw [c_isMan hC hn, cI_some, bX8_ask_8, c_isWithin, cI_some, bX8_ask_17, show wi a2 (Int32.toInt 0) (Int32.toInt 1) = wi a2 0 1 from rfl] at c1
  have hMt := hM.th (by omega)
  cases hz : zin a1 (men c) with
  | false =>
    refine pub_bad hr (by rw [c1, hz, if0]) ?_
    rw [eX9_ask, m_isMan hMt hn, cI_some, bX9_ask_10, hz, if0]
  | true =>
    rw [hz, if1] at c1
    cases hw : wi a2 0 1 with
    | false =>
      refine pub_bad hr (by rw [c1, hw, if0]) ?_
      rw [eX9_ask, m_isMan hMt hn, cI_some, bX9_ask_10, hz, if1, m_inI, cI_some, bX9_ask_20, show wi a2 (Int64.toInt 0) (Int64.toInt 1) = wi a2 0 1 from rfl, hw, if0]
    | true =>
      obtain ⟨m, hm, rfl⟩ := zin_of hz
      obtain ⟨_, _, k3, k4, k5, k6, k7⟩ := n2 hC
      have hk := (hv.2.2.2 m hm).1
      have e3 : zup I 264 2 (nI m) 16 m = c 3 m := by rw [zup_ne (by omega)]; exact k3 m hm
      have e6 : zup (zup I 264 2 (nI m)) 264 3 (c 3 m) 19 m = c 6 m := by rw [zup_ne (by omega), zup_ne (by omega)]; exact k6 m hm
      have e7 : zup (zup (zup I 264 2 (nI m)) 264 3 (c 3 m)) 264 4 (c 6 m) 20 m = c 7 m := by rw [zup_ne (by omega), zup_ne (by omega), zup_ne (by omega)]; exact k7 m hm
      have c2 := eX0_askAnew X (d + 18) L I J 13 (nI m) a2
      rw [c_isMan hC hn, cI_some, bX0_askAnew_5, hz, if1, zin_nI (show m < 6 by omega) (by omega), zbt_t, zbt_t, zbt_t, ncl (by omega), e3, e6, e7] at c2
      have hwl : a2 = 0 ∨ a2 = 1 := rg01 (wi_iff.1 hw)
      have vl := aSize_le hk
      obtain ⟨val, ls, hls, cc, mm⟩ : ∃ val ls, ls.length ≤ 16 ∧ AO X L J 18 7 [.inl a2, .inl 0] (c 3 m) (nI m) (c 6 m) (c 7 m) val ls ∧ ∀ I0 : Nat → Nat → Int32, MAt I0 287 c → I0 283 25 = 0 → ∃ I2, (if a2 = 0 then cI (zcall X (d + 19) 236 [.inr (.inr (some (.inl 9, 283))), .inl (nI m)] (L, zB1, I0, J)) (fun r σ => zgo X (zcall X (d+19)) (some .int) kX9_ask 40 [some (.inr (.inr (some (.inl 9, 283)))), some (.inl (nI m)), some (.inl (a2))] [.inl r] σ) else cI (zcall X (d + 19) 235 [.inr (.inr (some (.inl 9, 283))), .inl (nI m)] (L, zB1, I0, J)) (fun r σ => zgo X (zcall X (d+19)) (some .int) kX9_ask 48 [some (.inr (.inr (some (.inl 9, 283)))), some (.inl (nI m)), some (.inl (a2))] [.inl r] σ)) = some (some (.inl (val)), (L, zB1, I2, J)) ∧ TR 297 283 25 I0 0 I2 ls := by
        rcases hwl with rfl | rfl
        · refine ⟨vSize (c 3 m) (nI m) (c 6 m) (c 7 m), aSize (c 3 m), vl.1, ao_size (w := 0) (by omega) hX1 hX2 hX3 hk, fun I0 hM0 h0 => ?_⟩
          obtain ⟨I2, e2, t2⟩ := m_size (X := X) (d := d + 12) (L := L) (J := J) (l := []) hM0 hn hm hk (I := I0) ⟨h0, fun _ _ => rfl, fun _ hk => absurd hk (Nat.not_lt_zero _), fun _ _ _ _ => rfl⟩ (by decide)
          exact ⟨I2, by rw [if_pos rfl, e2, cI_some, bX9_ask_40, bX9_ask_48], t2⟩
        · refine ⟨vMark (c 3 m) (nI m) (c 6 m) (c 7 m), aMark (c 3 m), vl.2, (ao_mk (w := 0) (by omega) hX1 hX2 hX3 hk).up (by omega), fun I0 hM0 h0 => ?_⟩
          obtain ⟨I2, e2, t2⟩ := m_mark (X := X) (d := d + 14) (L := L) (J := J) (l := []) hM0 hn hm hk (I := I0) ⟨h0, fun _ _ => rfl, fun _ hk => absurd hk (Nat.not_lt_zero _), fun _ _ _ _ => rfl⟩ (by decide)
          exact ⟨I2, by rw [if_neg (by decide), e2, cI_some, bX9_ask_48], t2⟩
      obtain ⟨I1, e1, t1⟩ := cc d (zup (zup (zup (zup (zup I 264 2 (nI m)) 264 3 (c 3 m)) 264 4 (c 6 m)) 264 5 (c 7 m)) 264 1 0) 0 (by rw [zup_at, if_neg (by omega), zup_at, if_neg (by omega), zup_at, if_neg (by omega), zup_at, if_pos ⟨rfl, rfl⟩]) (by rw [zup_at, if_neg (by omega), zup_at, if_neg (by omega), zup_at, if_neg (by omega), zup_at, if_neg (by omega), zup_at, if_pos ⟨rfl, rfl⟩]) (by rw [zup_at, if_neg (by omega), zup_at, if_neg (by omega), zup_at, if_pos ⟨rfl, rfl⟩]) (by rw [zup_at, if_neg (by omega), zup_at, if_pos ⟨rfl, rfl⟩]) (by rw [zup_at, if_pos ⟨rfl, rfl⟩]; rfl) (by omega)
      rw [e1, cI_some, bX0_askAnew_56] at c2
      rw [hw, if1, c2, cI_some, bX8_ask_36] at c1
      have q1 : ∀ a i, ¬ (a = 264 ∧ 1 ≤ i ∧ i ≤ 5) → a ≠ 265 → I1 a i = I a i := by
        intro a i k1 k2
        rw [t1.2.2.2 a i k2 (by omega), zup_at, if_neg (by omega), zup_at, if_neg (by omega), zup_at, if_neg (by omega), zup_at, if_neg (by omega), zup_at, if_neg (by omega)]
      have hM1 : MAt I1 287 c := fun f i hv' => by rw [q1 287 _ (by omega) (by omega)]; exact hM f i hv'
      have hM2 : MAt (zup I1 283 0 0) 287 c := hM1.th (by omega)
      have hM3 : MAt (zup (zup I1 283 0 0) 283 25 0) 287 c := hM2.o (by omega)
      obtain ⟨I2, e2, t2⟩ := mm (zup (zup I1 283 0 0) 283 25 0) hM3 (by rw [zup_at, if_pos ⟨rfl, rfl⟩])
      refine ⟨_, I1, J, I2, c1, ?_, ?_⟩
      · rw [eX9_ask, m_isMan hM2 hn, cI_some, bX9_ask_10, hz, if1, m_inI, cI_some, bX9_ask_20, show wi a2 (Int64.toInt 0) (Int64.toInt 1) = wi a2 0 1 from rfl, hw, if1]
        exact e2
      · have f3 : ∀ a i, ¬ (a = 264 ∧ 1 ≤ i ∧ i ≤ 5) → a ≠ 265 → a ≠ 297 → ¬ (a = 283 ∧ (i = 0 ∨ i = 25)) → I2 a i = I a i := by
          intro a i k1 k2 k3 k4
          rw [t2.2.2.2 a i k3 (by omega), zup_at, if_neg (by omega), zup_at, if_neg (by omega), q1 a i k1 k2]
        obtain ⟨h1, ⟨c', h2⟩, h3, h4, h5, h6', h7⟩ := hr
        refine ⟨h1.cg (fun a i h => f3 a i (by omega) (by omega) (by omega) (by omega)), ⟨c', h2.cg (fun a i h => f3 a i (by omega) (by omega) (by omega) (by omega))⟩, h3.cg (fun a i h => f3 a i (by omega) (by omega) (by omega) (by omega)), h4.cg (fun a i h => f3 a i (by omega) (by omega) (by omega) (by omega)), h5.cg (fun a i h => f3 a i (by omega) (by omega) (by omega) (by omega)), ?_, h7.cg (fun a i h => f3 a i (by omega) (by omega) (by omega) (by omega))⟩
        have g2 : ∀ i, I2 265 i = I1 265 i := fun i => by rw [t2.2.2.2 265 i (by omega) (by omega), zup_ne (by omega), zup_ne (by omega)]
        refine ⟨ls.length, hls, ?_, ?_, fun k hk => ?_⟩
        · rw [t2.2.2.2 264 1 (by omega) (by omega), zup_ne (by omega), zup_ne (by omega), t1.1, Nat.zero_add]
        · rw [t2.1, Nat.zero_add]
        · have w1 := t1.2.2.1 k hk
          have w2 := t2.2.2.1 k hk
          rw [Nat.zero_add] at w1 w2
          rw [g2, w1, w2]
end ASKP
