section ZSY
variable {l : Launch} {D : va_G} {q4 : Nat → ClassId} {xad xl : Nat → Nat} {X : Nat → Nat → Int32} {own : String} {ini : Bool} {cc : ByteArray} {nL d : Nat} {ret : Option FieldType} {pc pc' : Nat} {ls ls' : zL} {st st' : List zV} {σ σ1 σ' : zS} {r : Option zV}

set_option maxRecDepth 100000 in
theorem tw_oi : Cond.instanceMethod objectInit ∈ lw_tbl := tb1 (List.mem_of_getElem? (i := 20) rfl)
set_option maxRecDepth 100000 in
theorem tw_oc : Cond.code objectInit ⟨#[0xb1]⟩ 1 none ∈ lw_tbl := tb1 (List.mem_of_getElem? (i := 21) rfl)
set_option maxRecDepth 100000 in
theorem tw_si : Cond.initialized "java/lang/System" ∈ lw_tbl := tb1 (List.mem_of_getElem? (i := 11) rfl)
set_option maxRecDepth 100000 in
theorem tw_as : Cond.static arraycopyName ∈ lw_tbl := tb2 (List.mem_of_getElem? (i := 144) rfl)
set_option maxRecDepth 100000 in
theorem tw_an : Cond.native arraycopyName ∈ lw_tbl := tb2 (List.mem_of_getElem? (i := 145) rfl)
set_option maxRecDepth 100000 in
theorem tw_ci : Cond.arrayClass .int ∈ lw_tbl := tb1 (List.mem_of_getElem? (i := 40) rfl)
set_option maxRecDepth 100000 in
theorem tw_cz : Cond.arrayClass .boolean ∈ lw_tbl := tb5 (List.mem_of_getElem? (i := 74) rfl)
theorem zge0 {x9 : Int32} (h : 0 ≤ x9.toInt) : ¬ x9 < 0 := by
  rw [Int32.lt_iff_toInt_lt]
  have : (0 : Int32).toInt = 0 := rfl
  omega
theorem zby_int {n : Nat} (h : n < 2000) : n * componentBytes .int ≤ 536870912 := by
  have e : componentBytes .int = 4 := by decide
  rw [e]
  omega
theorem zby_boolean {n : Nat} (h : n < 2000) : n * componentBytes .boolean ≤ 536870912 := by
  have e : componentBytes .boolean = 1 := by decide
  rw [e]
  omega
theorem ztoN (x9 : Int32) : x9.toNatClampNeg = x9.toInt.toNat := rfl

set_option maxHeartbeats 1000000 in
theorem zi_objinit {k : zk} (K : zKK l D q4 xad xl X own ini cc nL ret d k r σ') (hxl : ∀ j, 1 ≤ j → j < 4 → xl j = 6) {b : Nat} {v : Int32} {w : Int64} {wd : Nat} (hI : zInv σ) (hst : ∀ v ∈ st, zok σ.1 xl v) (hls : ∀ (i : Nat) (v : zV), zg ls i = some v → zok σ.1 xl v) {C : Nat → List zV → zS → Option zR} {idx : Nat} (hk : zck own ini cc nL pc (.invokespecial idx, 0, b, v, w, wd) = true) (h : zins X C ret k pc ls st σ 0 b v w (.invokespecial idx) = some (r, σ')) : zWp l D q4 xad xl X own ini cc nL ret d pc ls st σ r σ' := by
  obtain ⟨hd, hlk⟩ := band hk
  have hd := of_decide_eq_true hd
  have hlk : zlk wd (.methodLink own idx objectInit) = true := hlk
  have h : (pP st fun _ _ r => match Nat.ble (zcat r) 8 with | true => k (pc + 3) ls r σ | false => none) = some (r, σ') := h
  obtain ⟨κ, o, r1, rfl, h1⟩ := pP_inv h
  obtain ⟨hc, h2⟩ := zb_inv h1
  refine (K _ _ _ _ h2 hI (okt hst) hls).step fun p e R s m args below meth c Q A FX ad H locs mls cells slots hP hD hS hl kk => ?_
  obtain ⟨hx, hb, hml, hown, hts, hK, hA, hX, hN, hRf, hRl, hin⟩ := FX
  refine W.objInit hx hb hown (hts _ (List.mem_filter.mpr ⟨tbs (List.mem_of_getElem? (of_decide_eq_true hlk)), rfl⟩)) (hts _ (List.mem_filter.mpr ⟨tw_oi, rfl⟩)) (hts _ (List.mem_filter.mpr ⟨tw_oc, rfl⟩)) rfl (by rw [hml]; exact hl.1) rfl hd (by omega) ?_ ?_
  · show 2 * 0 + _ + 12 ≤ _
    rw [zt_cat]
    have := Nat.le_of_ble_eq_true hc
    omega
  · exact kk mls hl

set_option maxHeartbeats 1000000 in
theorem zi_copy {k : zk} (K : zKK l D q4 xad xl X own ini cc nL ret d k r σ') (hxl : ∀ j, 1 ≤ j → j < 4 → xl j = 6) {b : Nat} {v : Int32} {w : Int64} {wd : Nat} (hI : zInv σ) (hst : ∀ v ∈ st, zok σ.1 xl v) (hls : ∀ (i : Nat) (v : zV), zg ls i = some v → zok σ.1 xl v) {C : Nat → List zV → zS → Option zR} {idx : Nat} (hk : zck own ini cc nL pc (.invokestatic idx, 0, b, v, w, wd) = true) (h : zins X C ret k pc ls st σ 0 b v w (.invokestatic idx) = some (r, σ')) : zWp l D q4 xad xl X own ini cc nL ret d pc ls st σ r σ' := by
  obtain ⟨hd, hlk⟩ := band hk
  have hd := of_decide_eq_true hd
  have hlk : zlk wd (.methodLink own idx arraycopyName) = true := hlk
  have h : zcopy k pc ls st σ = some (r, σ') := h
  unfold zcopy at h
  obtain ⟨n, r9, rfl, h1⟩ := pI_inv h
  obtain ⟨dp, r8, rfl, h2⟩ := pI_inv h1
  obtain ⟨κ1, k1, r7, rfl, h3⟩ := pP_inv h2
  obtain ⟨sp, r6, rfl, h4⟩ := pI_inv h3
  obtain ⟨κ0, k0, r5, rfl, h5⟩ := pP_inv h4
  cases hc : Nat.ble (zcat r5) 8 with
  | false => rw [hc] at h5; cases h5
  | true =>
    rw [hc] at h5
    rcases kI_inv h5 with ⟨n0', rfl, h6⟩ | ⟨n0', rfl, h6⟩
    · rcases kI_inv h6 with ⟨n1', rfl, h7⟩ | ⟨n1', rfl, h7⟩
      · cases hq : (decide (0 ≤ n.toInt) && (decide (0 ≤ sp.toInt) && (decide (0 ≤ dp.toInt) && (decide (sp.toInt + n.toInt ≤ (n0' : Int)) && decide (dp.toInt + n.toInt ≤ (n1' : Int)))))) with
        | false => rw [hq] at h7; cases h7
        | true =>
          rw [hq] at h7
          obtain ⟨q1, hq⟩ := band hq
          obtain ⟨q2, hq⟩ := band hq
          obtain ⟨q3, hq⟩ := band hq
          obtain ⟨q4', q5⟩ := band hq
          have q1 := of_decide_eq_true q1
          have q2 := of_decide_eq_true q2
          have q3 := of_decide_eq_true q3
          have q4' := of_decide_eq_true q4'
          have q5 := of_decide_eq_true q5
          have hL1 : σ.1[k1]? = some (.inr (.int, n1')) := okh (okt (okt hst))
          have hL0 : σ.1[k0]? = some (.inr (.int, n0')) := okh (okt (okt (okt (okt hst))))
          refine (K _ _ _ _ h7 (zInv_num rfl rfl hI) (okt (okt (okt (okt (okt hst))))) hls).heap (σ := σ) (by exact rfl) fun p e R s m args below meth c Q A FX ad H locs mls cells slots hP hD hS hl kk => ?_
          obtain ⟨hx, hb, hml, hown, hts, hK, hA, hX, hN, hRf, hRl, hin⟩ := FX
          refine va_copyi hx hb (hml.trans hl.1.symm) hown (hts _ (List.mem_filter.mpr ⟨tbs (List.mem_of_getElem? (of_decide_eq_true hlk)), rfl⟩)) (hts _ (List.mem_filter.mpr ⟨tw_an, rfl⟩)) (hts _ (List.mem_filter.mpr ⟨tw_as, rfl⟩)) (hts _ (List.mem_filter.mpr ⟨tw_si, rfl⟩)) hK hP hD hS k0 k1 0 0 (ty := .int) (zW_at hL0) (zW_at hL1) rfl rfl rfl (zge0 q2) (zge0 q3) (zge0 q1) (by rw [ztoN, ztoN]; omega) (by rw [ztoN, ztoN]; omega) (fun _ _ => rfl) (by omega) ?_ hd (fun H1 locs1 hP1 hD1 hS1 => ?_)
          · rw [zt_cat]
            have := Nat.le_of_ble_eq_true hc
            have e7 : nativeFrameWords "java/lang/System" "arraycopy" 5 = 7 := by decide +kernel
            rw [e7]
            omega
          · have e : (zW q4 ad σ).set k1 (ad k1, .inl (q4 0, n1', .inl (va_cpy (σ.2.2.1 k0) (σ.2.2.1 k1) sp.toNatClampNeg dp.toNatClampNeg n.toNatClampNeg))) = zW q4 ad (σ.1, σ.2.1, zur σ.2.2.1 k1 (va_cpy (σ.2.2.1 k0) (σ.2.2.1 k1) sp.toNatClampNeg dp.toNatClampNeg n.toNatClampNeg), σ.2.2.2) := by
              refine zW_set (σ := σ) (σ' := (σ.1, σ.2.1, zur σ.2.2.1 k1 (va_cpy (σ.2.2.1 k0) (σ.2.2.1 k1) sp.toNatClampNeg dp.toNatClampNeg n.toNatClampNeg), σ.2.2.2)) rfl hL1 (fun j hj => ⟨rfl, zur_ne hj, rfl⟩) ?_
              show _ = Sum.inl (q4 0, n1', Sum.inl (zur σ.2.2.1 k1 (va_cpy (σ.2.2.1 k0) (σ.2.2.1 k1) sp.toNatClampNeg dp.toNatClampNeg n.toNatClampNeg) k1))
              rw [zur_eq]
            rw [e] at hP1 hD1
            exact kk H1 locs1 hP1 hD1 hS1
      · cases h7
    · cases h6

-- new cells
theorem znew_at (κ : zK) : (znew σ κ).1[σ.1.length]? = some κ := by
  show (σ.1 ++ [κ])[σ.1.length]? = some κ
  simp
theorem znew_inv {κ : zK} (hI : zInv σ) : zInv (znew σ κ) := by
  have hold : ∀ {k9 : Nat} {x9 : zK}, (znew σ κ).1[k9]? = some x9 → k9 ≠ σ.1.length → σ.1[k9]? = some x9 := fun {k9 x9} h hn => by
    have h : (σ.1 ++ [κ])[k9]? = some x9 := h
    have hl : k9 < σ.1.length := by
      have := (List.getElem?_eq_some_iff.mp h).1
      rw [List.length_append, List.length_singleton] at this
      omega
    rwa [List.getElem?_append_left hl] at h
  have hup : ∀ {k9 : Nat} {x9 : zK}, σ.1[k9]? = some x9 → (znew σ κ).1[k9]? = some x9 := fun {k9 x9} h => by
    show (σ.1 ++ [κ])[k9]? = some x9
    rw [List.getElem?_append_left (List.getElem?_eq_some_iff.mp h).1]
    exact h
  have hbit : ∀ {k9 i9 : Nat}, (znew σ κ).2.1 k9 i9 = true → k9 ≠ σ.1.length ∧ σ.2.1 k9 i9 = true := fun {k9 i9} h => by
    have h : zur σ.2.1 σ.1.length (fun _ => false) k9 i9 = true := h
    by_cases hn : k9 = σ.1.length
    · rw [hn, zur_eq] at h; cases h
    · rw [zur_ne hn] at h; exact ⟨hn, h⟩
  refine ⟨fun k9 ci9 fi9 q9 g1 g2 g3 => ?_, fun k9 n9 i9 c9 g1 g2 g3 => ?_, fun k9 n9 i9 c9 g1 g2 g3 => ?_⟩
  · obtain ⟨hn, hb9⟩ := hbit g3
    exact hup (hI.1 k9 ci9 fi9 q9 (hold g1 hn) g2 hb9)
  · obtain ⟨hn, hb9⟩ := hbit g2
    exact hup (hI.2.1 k9 n9 i9 c9 (hold g1 hn) hb9 g3)
  · obtain ⟨hn, hb9⟩ := hbit g2
    exact hup (hI.2.2 k9 n9 i9 c9 (hold g1 hn) hb9 g3)
theorem znew_row {κ : zK} {k9 : Nat} (h : k9 ≠ σ.1.length) : (znew σ κ).2.1 k9 = σ.2.1 k9 ∧ (znew σ κ).2.2.1 k9 = σ.2.2.1 k9 ∧ (znew σ κ).2.2.2 k9 = σ.2.2.2 k9 := ⟨zur_ne h, zur_ne h, zur_ne h⟩
theorem znew_P {κ : zK} {ad ad' : Nat → Nat} {H1 : Heap} {e9 : va_E} {q9 : Nat} (hI : zInv σ) (hag : ∀ k, k < σ.1.length → ad' k = ad k) (hq : ad' σ.1.length = q9) (he : e9 = zE q4 ad' (znew σ κ) σ.1.length κ) (hP : va_P D vwCl (zW q4 ad σ ++ [(q9, e9)]) H1) : va_P D vwCl (zW q4 ad' (znew σ κ)) H1 := by
  intro k9 x9 hx9
  obtain ⟨κ', h1, rfl⟩ := zW_inv hx9
  have h1' : (σ.1 ++ [κ])[k9]? = some κ' := h1
  by_cases hk : k9 < σ.1.length
  · rw [List.getElem?_append_left hk] at h1'
    have hne : k9 ≠ σ.1.length := by omega
    rw [zE_row (znew_row hne).1 (znew_row hne).2.1 (znew_row hne).2.2]
    have hP0 : va_P D vwCl (zW q4 ad σ) H1 := fun j y hy => hP j y (by rw [List.getElem?_append_left (List.getElem?_eq_some_iff.mp hy).1]; exact hy)
    exact zP_ad hI hag hP0 k9 _ (zW_at h1')
  · have hk : k9 = σ.1.length := by
      have := (List.getElem?_eq_some_iff.mp h1').1
      rw [List.length_append, List.length_singleton] at this
      omega
    subst hk
    have h9 : κ' = κ := by
      rw [show (σ.1 ++ [κ])[σ.1.length]? = some κ from znew_at κ] at h1'
      exact (Option.some.inj h1').symm
    subst h9
    rw [hq, ← he]
    refine hP σ.1.length (q9, e9) ?_
    rw [List.getElem?_append_right (by rw [zW_len]; exact Nat.le_refl _), zW_len]
    simp
theorem znew_D {A : Nat → Prop} {κ : zK} {ad ad' : Nat → Nat} {e9 : va_E} {q9 : Nat} (hag : ∀ k, k < σ.1.length → ad' k = ad k) (hq : ad' σ.1.length = q9) (hD : va_D A (zW q4 ad σ ++ [(q9, e9)])) : va_D A (zW q4 ad' (znew σ κ)) := by
  have key : ∀ (k9 : Nat) (x9 : Nat × va_E), (zW q4 ad' (znew σ κ))[k9]? = some x9 → ∃ e8 : va_E, (zW q4 ad σ ++ [(q9, e9)])[k9]? = some (x9.1, e8) := by
    intro k9 x9 hx9
    obtain ⟨κ', h1, rfl⟩ := zW_inv hx9
    have h1' : (σ.1 ++ [κ])[k9]? = some κ' := h1
    by_cases hk : k9 < σ.1.length
    · rw [List.getElem?_append_left hk] at h1'
      exact ⟨_, by rw [List.getElem?_append_left (by rw [zW_len]; exact hk), zW_at h1', hag k9 hk]⟩
    · have hk : k9 = σ.1.length := by
        have := (List.getElem?_eq_some_iff.mp h1').1
        rw [List.length_append, List.length_singleton] at this
        omega
      subst hk
      exact ⟨e9, by rw [List.getElem?_append_right (by rw [zW_len]; exact Nat.le_refl _), zW_len, hq]; simp⟩
  refine ⟨fun i j a b h1 h2 h3 => ?_, fun k9 a h1 => ?_⟩
  · obtain ⟨e1, g1⟩ := key i a h1
    obtain ⟨e2, g2⟩ := key j b h2
    exact hD.1 i j _ _ g1 g2 h3
  · obtain ⟨e1, g1⟩ := key k9 a h1
    exact hD.2 k9 (a.1, e1) g1
/-- a new cell, by its row -/
theorem znewed {k : zk} (K : zKK l D q4 xad xl X own ini cc nL ret d k r σ') {κ : zK} {r1 : List zV} {n9 : Nat} (hnf : ∀ n, κ ≠ .inr (.float, n)) (hI : zInv σ) (hr1 : ∀ v ∈ r1, zok σ.1 xl v) (hls : ∀ (i : Nat) (v : zV), zg ls i = some v → zok σ.1 xl v) (h : k n9 ls (.inr (.inr (some (κ, σ.1.length))) :: r1) (znew σ κ) = some (r, σ'))
    (row : ∀ (p : Program) (e : Env) (R : Room) (s : State) (m : MethodId) (args : Array Value) (below : List Frame) (meth : Method) (c : Code) (Q : State → Prop) (A : Nat → Prop), zFx D q4 xad xl X p R s m args meth c A own ini cc nL d → ∀ (ad : Nat → Nat) (H : Heap) (locs : List Loc) (mls : Array Slot) (cells slots : Nat), va_P D vwCl (zW q4 ad σ) H → va_D A (zW q4 ad σ) → va_S A s.heap H locs → cells + 1 ≤ R.cells → slots + zks κ ≤ R.slots → (∀ (q9 : Nat) (e9 : va_E) (H1 : Heap), (∀ ad' : Nat → Nat, e9 = zE q4 ad' (znew σ κ) σ.1.length κ) → va_P D vwCl (zW q4 ad σ ++ [(q9, e9)]) H1 → va_D A (zW q4 ad σ ++ [(q9, e9)]) → va_S A s.heap H1 locs → W p l e R s m args below meth c H1 locs (cells + 1) (slots + zks κ) Q (F0 m n9 mls (.ref q9 :: r1.map (zt ad xad)))) → W p l e R s m args below meth c H locs cells slots Q (F0 m pc mls (st.map (zt ad xad)))) : zWp l D q4 xad xl X own ini cc nL ret d pc ls st σ r σ' := by
  have hpre : σ.1 <+: (znew σ κ).1 := List.prefix_append _ _
  have hw := K n9 ls _ (znew σ κ) h (znew_inv hI) (okc (zok_of (znew_at κ) hnf) (fun v hv => zok_pre hpre (hr1 v hv))) (fun i v hv => zok_pre hpre (hls i v hv))
  obtain ⟨⟨w1, w2, w3⟩, w4⟩ := hw
  have hl1 : (znew σ κ).1.length = σ.1.length + 1 := by show (σ.1 ++ [κ]).length = _; simp
  have hs1 : zsl (znew σ κ).1 = zsl σ.1 + zks κ := by show zsl (σ.1 ++ [κ]) = _; rw [zsl_app]; simp [zsl]
  have hl2 := List.IsPrefix.length_le w1
  have hz2 := zsl_pre w1
  refine ⟨⟨hpre.trans w1, w2, w3⟩, fun p e R s m args below meth c Q A n0 s0 FX ad H locs mls a1 a2 a3 a4 hP hD hS hl hr => ?_⟩
  refine row p e R s m args below meth c Q A FX ad H locs mls _ _ hP hD hS (by omega) (by omega) (fun q9 e9 H1 he hP1 hD1 hS1 => ?_)
  have hag : ∀ k9, k9 < σ.1.length → (fun k9 => if k9 = σ.1.length then q9 else ad k9) k9 = ad k9 := fun k9 hk9 => if_neg (by omega)
  have hq9 : (fun k9 => if k9 = σ.1.length then q9 else ad k9) σ.1.length = q9 := if_pos rfl
  generalize (fun k9 => if k9 = σ.1.length then q9 else ad k9) = ad' at hag hq9
  have e1 : σ.1.length - n0 + 1 = (znew σ κ).1.length - n0 := by omega
  have e2 : zsl σ.1 - s0 + zks κ = zsl (znew σ κ).1 - s0 := by omega
  have e3 : (Value.ref q9 :: r1.map (zt ad xad)) = (.inr (.inr (some (κ, σ.1.length))) :: r1).map (zt ad' xad) := by
    rw [List.map_cons, zt_ads hag hr1]
    show _ = Value.ref (zta ad' xad (κ, σ.1.length)) :: _
    rw [zta_in hnf, hq9]
  rw [e1, e2, e3]
  exact w4 p e R s m args below meth c Q A n0 s0 FX ad' H1 locs mls (by omega) (by omega) a3 a4 (znew_P hI hag hq9 (he ad') hP1) (znew_D hag hq9 hD1) hS1 (zLs_ad hag hls hl) (fun ad'' H' locs' mls' pc' f1 => hr ad'' H' locs' mls' pc' (fun k9 hk9 => (f1 k9 (by omega)).trans (hag k9 hk9)))

set_option maxHeartbeats 1000000 in
theorem zi_new {k : zk} (K : zKK l D q4 xad xl X own ini cc nL ret d k r σ') (hxl : ∀ j, 1 ≤ j → j < 4 → xl j = 6) {a b : Nat} {v : Int32} {w : Int64} {wd : Nat} (hI : zInv σ) (hst : ∀ v ∈ st, zok σ.1 xl v) (hls : ∀ (i : Nat) (v : zV), zg ls i = some v → zok σ.1 xl v) {C : Nat → List zV → zS → Option zR} {idx : Nat} (hk : zck own ini cc nL pc (.new idx, a, b, v, w, wd) = true) (h : zins X C ret k pc ls st σ a b v w (.new idx) = some (r, σ')) : zWp l D q4 xad xl X own ini cc nL ret d pc ls st σ r σ' := by
  obtain ⟨hd, hlk⟩ := band hk
  obtain ⟨hd, ha⟩ := band hd
  have hd := of_decide_eq_true hd
  have ha := of_decide_eq_true ha
  obtain ⟨C9, T, N, ty, hZ⟩ := ZC_all ha
  rw [zcn_of hZ] at hlk
  have h : k (pc + 3) ls (.inr (.inr (some (.inl a, σ.1.length))) :: st) (znew σ (.inl a)) = some (r, σ') := h
  refine znewed K (fun n e9 => by cases e9) hI hst hls h (fun p e R s m args below meth c Q A FX ad H locs mls cells slots hP hD hS hc1 hc2 kk => ?_)
  obtain ⟨hx, hb, hml, hown, hts, hK, hA, hX, hN, hRf, hRl, hin⟩ := FX
  have hN9 : zks (.inl a) = N := hZ.2.2.2.2.1
  rw [hN9] at hc2 kk
  refine va_new (ci := a) (fs := (List.range N).map (fun j => defaultValue (ty j))) (C := C9) (T := T) (N := N) hx hb hts (zlay_in hZ) ty hZ.2.2.1 hown (hts _ (List.mem_filter.mpr ⟨tbs (List.mem_of_getElem? (of_decide_eq_true hlk)), rfl⟩)) (hts _ (List.mem_filter.mpr ⟨hZ.2.2.2.2.2.2.1, rfl⟩)) (hts _ (List.mem_filter.mpr ⟨hZ.2.2.2.2.2.2.2.1, rfl⟩)) hK hP hD hS hA hZ.1 (fun j hj => ?_) hc1 hc2 hd (fun q9 H1 hP1 hD1 hS1 => kk q9 _ H1 (fun ad' => ?_) hP1 hD1 hS1)
  · unfold vp_V
    rw [List.getD_eq_getElem?_getD, List.getElem?_map, List.getElem?_range hj]
    rfl
  · show Sum.inr (a, _) = Sum.inr (a, _)
    congr 2
    have hN8 : (zft a).length = N := hZ.2.2.2.2.1
    rw [hN8]
    refine List.map_congr_left fun j hj => ?_
    have hj := List.mem_range.mp hj
    have hfc := hZ.2.2.2.2.2.1 j hj
    unfold zfv
    rcases hf : zfl a j with _ | _ | _ | q
    · rw [hf] at hfc; cases hfc
    · rw [hf] at hfc
      rw [(zfc_int hfc).1]
      show _ = Value.int (zur σ.2.2.1 σ.1.length (fun _ => 0) σ.1.length j)
      rw [zur_eq]
      rfl
    · rw [hf] at hfc
      rw [(zfc_long hfc).1]
      show _ = Value.long (zur σ.2.2.2 σ.1.length (fun _ => 0) σ.1.length j)
      rw [zur_eq]
      rfl
    · rw [hf] at hfc
      show _ = (match zur σ.2.1 σ.1.length (fun _ => false) σ.1.length j with | true => Value.ref (ad' (σ.1.length + q.2)) | false => .null)
      rw [zur_eq]
      rcases (zfc_ref hfc).1 with ⟨n9, e9⟩ | ⟨n9, e9⟩ <;> rw [e9] <;> rfl

set_option maxHeartbeats 1000000 in
theorem zi_newarray_int {k : zk} (K : zKK l D q4 xad xl X own ini cc nL ret d k r σ') (hxl : ∀ j, 1 ≤ j → j < 4 → xl j = 6) {a b : Nat} {v : Int32} {w : Int64} {wd : Nat} (hI : zInv σ) (hst : ∀ v ∈ st, zok σ.1 xl v) (hls : ∀ (i : Nat) (v : zV), zg ls i = some v → zok σ.1 xl v) {C : Nat → List zV → zS → Option zR} (hk : zck own ini cc nL pc (.newarray .int, a, b, v, w, wd) = true) (h : zins X C ret k pc ls st σ a b v w (.newarray .int) = some (r, σ')) : zWp l D q4 xad xl X own ini cc nL ret d pc ls st σ r σ' := by
  obtain ⟨hd, -⟩ := band hk
  have hd := of_decide_eq_true hd
  obtain ⟨n, r1, rfl, h1⟩ := pI_inv h
  obtain ⟨hi, h2⟩ := zb_inv h1
  have hv := zin_vp hi
  have hlt : n.toNatClampNeg < 2000 := Nat.not_le.mp fun q => hv (Or.inr q)
  refine znewed K (fun n e9 => by cases e9) hI (okt hst) hls h2 (fun p e R s m args below meth c Q A FX ad H locs mls cells slots hP hD hS hc1 hc2 kk => ?_)
  obtain ⟨hx, hb, hml, hown, hts, hK, hA, hX, hN, hRf, hRl, hin⟩ := FX
  refine va_newa (atype := .int) (ty := .int) (a0 := (n.toNatClampNeg, .inl (fun _ => 0))) hx hb (hts (.arrayClass .int) (List.mem_filter.mpr ⟨tw_ci, rfl⟩)) rfl hK hP hD hS hA (fun _ => rfl) (fun q => hv (Or.inl q)) rfl (zby_int hlt) hc1 hc2 hd (fun q9 cA H1 hK9 hP1 hD1 hS1 => ?_)
  have hcA : cA = q4 0 := by
    have g1 : s.vm.findClass ("[" ++ (.int : FieldType).toString) = some cA := (hK9.2 4 (cA, .int) rfl).2
    have g2 : s.vm.findClass ("[" ++ (.int : FieldType).toString) = some (q4 0) := (hK.2 0 (q4 0, .int) rfl).2
    exact Option.some.inj (g1.symm.trans g2)
  subst hcA
  refine kk q9 _ H1 (fun ad' => ?_) hP1 hD1 hS1
  show _ = Sum.inl (q4 0, n.toNatClampNeg, Sum.inl (zur σ.2.2.1 σ.1.length (fun _ => 0) σ.1.length))
  rw [zur_eq]

set_option maxHeartbeats 1000000 in
theorem zi_newarray_boolean {k : zk} (K : zKK l D q4 xad xl X own ini cc nL ret d k r σ') (hxl : ∀ j, 1 ≤ j → j < 4 → xl j = 6) {a b : Nat} {v : Int32} {w : Int64} {wd : Nat} (hI : zInv σ) (hst : ∀ v ∈ st, zok σ.1 xl v) (hls : ∀ (i : Nat) (v : zV), zg ls i = some v → zok σ.1 xl v) {C : Nat → List zV → zS → Option zR} (hk : zck own ini cc nL pc (.newarray .boolean, a, b, v, w, wd) = true) (h : zins X C ret k pc ls st σ a b v w (.newarray .boolean) = some (r, σ')) : zWp l D q4 xad xl X own ini cc nL ret d pc ls st σ r σ' := by
  obtain ⟨hd, -⟩ := band hk
  have hd := of_decide_eq_true hd
  obtain ⟨n, r1, rfl, h1⟩ := pI_inv h
  obtain ⟨hi, h2⟩ := zb_inv h1
  have hv := zin_vp hi
  have hlt : n.toNatClampNeg < 2000 := Nat.not_le.mp fun q => hv (Or.inr q)
  refine znewed K (fun n e9 => by cases e9) hI (okt hst) hls h2 (fun p e R s m args below meth c Q A FX ad H locs mls cells slots hP hD hS hc1 hc2 kk => ?_)
  obtain ⟨hx, hb, hml, hown, hts, hK, hA, hX, hN, hRf, hRl, hin⟩ := FX
  refine va_newa (atype := .boolean) (ty := .boolean) (a0 := (n.toNatClampNeg, .inl (fun _ => 0))) hx hb (hts (.arrayClass .boolean) (List.mem_filter.mpr ⟨tw_cz, rfl⟩)) rfl hK hP hD hS hA (fun _ => rfl) (fun q => hv (Or.inl q)) rfl (zby_boolean hlt) hc1 hc2 hd (fun q9 cA H1 hK9 hP1 hD1 hS1 => ?_)
  have hcA : cA = q4 1 := by
    have g1 : s.vm.findClass ("[" ++ (.boolean : FieldType).toString) = some cA := (hK9.2 4 (cA, .boolean) rfl).2
    have g2 : s.vm.findClass ("[" ++ (.boolean : FieldType).toString) = some (q4 1) := (hK.2 1 (q4 1, .boolean) rfl).2
    exact Option.some.inj (g1.symm.trans g2)
  subst hcA
  refine kk q9 _ H1 (fun ad' => ?_) hP1 hD1 hS1
  show _ = Sum.inl (q4 1, n.toNatClampNeg, Sum.inl (zur σ.2.2.1 σ.1.length (fun _ => 0) σ.1.length))
  rw [zur_eq]

set_option maxHeartbeats 1000000 in
theorem zi_anewarray {k : zk} (K : zKK l D q4 xad xl X own ini cc nL ret d k r σ') (hxl : ∀ j, 1 ≤ j → j < 4 → xl j = 6) {a b : Nat} {v : Int32} {w : Int64} {wd : Nat} (hI : zInv σ) (hst : ∀ v ∈ st, zok σ.1 xl v) (hls : ∀ (i : Nat) (v : zV), zg ls i = some v → zok σ.1 xl v) {C : Nat → List zV → zS → Option zR} {idx : Nat} (hk : zck own ini cc nL pc (.anewarray idx, a, b, v, w, wd) = true) (h : zins X C ret k pc ls st σ a b v w (.anewarray idx) = some (r, σ')) : zWp l D q4 xad xl X own ini cc nL ret d pc ls st σ r σ' := by
  obtain ⟨hd, hlk⟩ := band hk
  have hd := of_decide_eq_true hd
  obtain ⟨n, r1, rfl, h1⟩ := pI_inv h
  obtain ⟨hi, h2⟩ := zb_inv h1
  have hv := zin_vp hi
  have hlt : n.toNatClampNeg < 2000 := Nat.not_le.mp fun q => hv (Or.inr q)
  refine znewed K (fun n e9 => by cases e9) hI (okt hst) hls h2 (fun p e R s m args below meth c Q A FX ad H locs mls cells slots hP hD hS hc1 hc2 kk => ?_)
  obtain ⟨hx, hb, hml, hown, hts, hK, hA, hX, hN, hRf, hRl, hin⟩ := FX
  refine va_newq (C := RX1) hx hb hown (hts _ (List.mem_filter.mpr ⟨tbs (List.mem_of_getElem? (of_decide_eq_true hlk)), rfl⟩)) hN.2.1 hK hP hD hS hA (fun q => hv (Or.inl q)) rfl (show n.toNatClampNeg * 4 ≤ 536870912 by omega) hc1 hc2 hd (fun q9 cA H1 hK9 hP1 hD1 hS1 => ?_)
  have hcA : cA = q4 2 := by
    obtain ⟨-, -, -, -, -, g1⟩ := (hK9.2 4 (cA, .object RX1) rfl).2
    obtain ⟨-, -, -, -, -, g2⟩ := (hK.2 2 (q4 2, .object RX1) rfl).2
    exact Option.some.inj (g1.symm.trans g2)
  subst hcA
  refine kk q9 _ H1 (fun ad' => ?_) hP1 hD1 hS1
  show _ = Sum.inl (q4 2, n.toNatClampNeg, Sum.inr (Sum.inr (Sum.inr (Sum.inr (zar ad' (znew σ (.inr (.object RX1, n.toNatClampNeg))) (.object RX1) σ.1.length)))))
  have e9 : zar ad' (znew σ (.inr (.object RX1, n.toNatClampNeg))) (.object RX1) σ.1.length = fun _ => none := by
    funext i
    unfold zar
    show (match zur σ.2.1 σ.1.length (fun _ => false) σ.1.length i with | true => some (ad' (zel (.object RX1) σ.1.length i).2) | false => none) = none
    rw [zur_eq]
  rw [e9]

end ZSY
