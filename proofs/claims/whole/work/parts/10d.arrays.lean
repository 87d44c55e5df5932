section ZSV
variable {l : Launch} {D : va_G} {q4 : Nat → ClassId} {xad xl : Nat → Nat} {X : Nat → Nat → Int32} {own : String} {ini : Bool} {cc : ByteArray} {nL d : Nat} {ret : Option FieldType} {pc pc' : Nat} {ls ls' : zL} {st st' : List zV} {σ σ1 σ' : zS} {r : Option zV}

set_option maxHeartbeats 1000000 in
theorem zi_iaload {k : zk} (K : zKK l D q4 xad xl X own ini cc nL ret d k r σ') (hxl : ∀ j, 1 ≤ j → j < 4 → xl j = 6) {a b : Nat} {v : Int32} {w : Int64} {wd : Nat} (hI : zInv σ) (hst : ∀ v ∈ st, zok σ.1 xl v) (hls : ∀ (i : Nat) (v : zV), zg ls i = some v → zok σ.1 xl v) {C : Nat → List zV → zS → Option zR} (hk : zck own ini cc nL pc (.iaload, a, b, v, w, wd) = true) (h : zins X C ret k pc ls st σ a b v w (.iaload) = some (r, σ')) : zWp l D q4 xad xl X own ini cc nL ret d pc ls st σ r σ' := by
  have hd := of_decide_eq_true hk
  obtain ⟨i, r0, rfl, h1⟩ := pI_inv h
  obtain ⟨κ, o, r1, rfl, h2⟩ := pP_inv h1
  rcases kI_inv h2 with ⟨n, rfl, h3⟩ | ⟨n, rfl, h3⟩
  · obtain ⟨hi, h4⟩ := zb_inv h3
    have hL : σ.1[o]? = some (.inr (.int, n)) := okh (okt hst)
    refine (K _ _ _ _ h4 hI (okc trivial (okt (okt hst))) hls).step fun p e R s m args below meth c Q A FX ad H locs mls cells slots hP hD hS hl kk => ?_
    obtain ⟨hx, hb, hml, hown, hts, hK, hA, hX, hN, hRf, hRl, hin⟩ := FX
    exact va_iald hx hb hK hP o 0 (zW_at hL) rfl (zin_vp hi) hd (kk mls hl)
  · obtain ⟨hi, h4⟩ := zb_inv h3
    have hL : o < 4 ∧ xl o = n := okh (okt hst)
    refine (K _ _ _ _ h4 hI (okc trivial (okt (okt hst))) hls).step fun p e R s m args below meth c Q A FX ad H locs mls cells slots hP hD hS hl kk => ?_
    obtain ⟨hx, hb, hml, hown, hts, hK, hA, hX, hN, hRf, hRl, hin⟩ := FX
    exact va_ti hx hb (hX.1 o hL.1) hS (by rw [hL.2]; exact zin_vp hi) rfl hd (kk mls hl)

set_option maxHeartbeats 1000000 in
theorem zi_iastore {k : zk} (K : zKK l D q4 xad xl X own ini cc nL ret d k r σ') (hxl : ∀ j, 1 ≤ j → j < 4 → xl j = 6) {a b : Nat} {v : Int32} {w : Int64} {wd : Nat} (hI : zInv σ) (hst : ∀ v ∈ st, zok σ.1 xl v) (hls : ∀ (i : Nat) (v : zV), zg ls i = some v → zok σ.1 xl v) {C : Nat → List zV → zS → Option zR} (hk : zck own ini cc nL pc (.iastore, a, b, v, w, wd) = true) (h : zins X C ret k pc ls st σ a b v w (.iastore) = some (r, σ')) : zWp l D q4 xad xl X own ini cc nL ret d pc ls st σ r σ' := by
  have hd := of_decide_eq_true hk
  obtain ⟨y, r9, rfl, h0⟩ := pI_inv h
  obtain ⟨i, r0, rfl, h1⟩ := pI_inv h0
  obtain ⟨κ, o, r1, rfl, h2⟩ := pP_inv h1
  rcases kI_inv h2 with ⟨n, rfl, h3⟩ | ⟨n, rfl, h3⟩
  · obtain ⟨hi, h4⟩ := zb_inv h3
    have hL : σ.1[o]? = some (.inr (.int, n)) := okh (okt (okt hst))
    refine (K _ _ _ _ h4 (zInv_num rfl rfl hI) (okt (okt (okt hst))) hls).heap (σ := σ) (by exact rfl) fun p e R s m args below meth c Q A FX ad H locs mls cells slots hP hD hS hl kk => ?_
    obtain ⟨hx, hb, hml, hown, hts, hK, hA, hX, hN, hRf, hRl, hin⟩ := FX
    refine va_iast hx hb hK hP hD hS o 0 (zW_at hL) rfl (zin_vp hi) hd (fun H1 locs1 hP1 hD1 hS1 => ?_)
    have e : (zW q4 ad σ).set o (ad o, .inl (q4 0, n, .inl (upd (σ.2.2.1 o) i.toNatClampNeg y))) = zW q4 ad (σ.1, σ.2.1, zup σ.2.2.1 o i.toNatClampNeg y, σ.2.2.2) := by
      refine zW_set (σ := σ) (σ' := (σ.1, σ.2.1, zup σ.2.2.1 o i.toNatClampNeg y, σ.2.2.2)) rfl hL (fun j hj => ⟨rfl, zup_ne hj, rfl⟩) ?_
      show _ = Sum.inl (q4 0, n, Sum.inl (zup σ.2.2.1 o i.toNatClampNeg y o))
      rw [zup_eq]
      rfl
    rw [e] at hP1 hD1
    exact kk H1 locs1 hP1 hD1 hS1
  · cases h3

set_option maxHeartbeats 1000000 in
theorem zi_baload {k : zk} (K : zKK l D q4 xad xl X own ini cc nL ret d k r σ') (hxl : ∀ j, 1 ≤ j → j < 4 → xl j = 6) {a b : Nat} {v : Int32} {w : Int64} {wd : Nat} (hI : zInv σ) (hst : ∀ v ∈ st, zok σ.1 xl v) (hls : ∀ (i : Nat) (v : zV), zg ls i = some v → zok σ.1 xl v) {C : Nat → List zV → zS → Option zR} (hk : zck own ini cc nL pc (.baload, a, b, v, w, wd) = true) (h : zins X C ret k pc ls st σ a b v w (.baload) = some (r, σ')) : zWp l D q4 xad xl X own ini cc nL ret d pc ls st σ r σ' := by
  have hd := of_decide_eq_true hk
  obtain ⟨i, r0, rfl, h1⟩ := pI_inv h
  obtain ⟨κ, o, r1, rfl, h2⟩ := pP_inv h1
  obtain ⟨n, rfl, h3⟩ := kZ_inv h2
  obtain ⟨hi, h4⟩ := zb_inv h3
  have hL : σ.1[o]? = some (.inr (.boolean, n)) := okh (okt hst)
  refine (K _ _ _ _ h4 hI (okc trivial (okt (okt hst))) hls).step fun p e R s m args below meth c Q A FX ad H locs mls cells slots hP hD hS hl kk => ?_
  obtain ⟨hx, hb, hml, hown, hts, hK, hA, hX, hN, hRf, hRl, hin⟩ := FX
  exact va_zald hx hb hK hP o 1 (zW_at hL) rfl (zin_vp hi) hd (kk mls hl)

set_option maxHeartbeats 1000000 in
theorem zi_bastore {k : zk} (K : zKK l D q4 xad xl X own ini cc nL ret d k r σ') (hxl : ∀ j, 1 ≤ j → j < 4 → xl j = 6) {a b : Nat} {v : Int32} {w : Int64} {wd : Nat} (hI : zInv σ) (hst : ∀ v ∈ st, zok σ.1 xl v) (hls : ∀ (i : Nat) (v : zV), zg ls i = some v → zok σ.1 xl v) {C : Nat → List zV → zS → Option zR} (hk : zck own ini cc nL pc (.bastore, a, b, v, w, wd) = true) (h : zins X C ret k pc ls st σ a b v w (.bastore) = some (r, σ')) : zWp l D q4 xad xl X own ini cc nL ret d pc ls st σ r σ' := by
  have hd := of_decide_eq_true hk
  obtain ⟨y, r9, rfl, h0⟩ := pI_inv h
  obtain ⟨i, r0, rfl, h1⟩ := pI_inv h0
  obtain ⟨κ, o, r1, rfl, h2⟩ := pP_inv h1
  obtain ⟨n, rfl, h3⟩ := kZ_inv h2
  obtain ⟨hi, h4⟩ := zb_inv h3
  have hL : σ.1[o]? = some (.inr (.boolean, n)) := okh (okt (okt hst))
  refine (K _ _ _ _ h4 (zInv_num rfl rfl hI) (okt (okt (okt hst))) hls).heap (σ := σ) (by exact rfl) fun p e R s m args below meth c Q A FX ad H locs mls cells slots hP hD hS hl kk => ?_
  obtain ⟨hx, hb, hml, hown, hts, hK, hA, hX, hN, hRf, hRl, hin⟩ := FX
  refine va_zast hx hb hK hP hD hS o 1 (zW_at hL) rfl (zin_vp hi) hd (fun H1 locs1 hP1 hD1 hS1 => ?_)
  have e : (zW q4 ad σ).set o (ad o, .inl (q4 1, n, .inl (upd (σ.2.2.1 o) i.toNatClampNeg (vp_nar .boolean y)))) = zW q4 ad (σ.1, σ.2.1, zup σ.2.2.1 o i.toNatClampNeg (vp_nar .boolean y), σ.2.2.2) := by
    refine zW_set (σ := σ) (σ' := (σ.1, σ.2.1, zup σ.2.2.1 o i.toNatClampNeg (vp_nar .boolean y), σ.2.2.2)) rfl hL (fun j hj => ⟨rfl, zup_ne hj, rfl⟩) ?_
    show _ = Sum.inl (q4 1, n, Sum.inl (zup σ.2.2.1 o i.toNatClampNeg (vp_nar .boolean y) o))
    rw [zup_eq]
    rfl
  rw [e] at hP1 hD1
  exact kk H1 locs1 hP1 hD1 hS1

theorem z_aldqA {p : Program} {e : Env} {R : Room} {s : State} {m : MethodId} {args : Array Value} {below : List Frame} {meth : Method} {c : Code} {Q : State → Prop} {H : Heap} {locs : List Loc} {cells slots : Nat} {mls : Array Slot} {rest : List Value} {ws : va_W} {tys : List (ClassId × FieldType)} {cl : List vw_C} {a9 : Nat} (hexec : p.tables.exec = Jvm.exec) (hb : c.code = cc) (hK : va_K D cl tys s) (hP : va_P D cl ws H) (q0 t0 : Nat) {cA : ClassId} {C : FieldType} {n : Nat} {f : Nat → Option Nat} (ha : ws[q0]? = some (a9, .inl (cA, n, .inr (.inr (.inr (.inr f)))))) (ht : tys[t0]? = some (cA, .array C)) {i : Int32} (hin : vp_in i n) (hdg : decode cc pc = .ok (.aaload, 1))
    (kk : W p l e R s m args below meth c H locs cells slots Q (F0 m (pc + 1) mls (va_rf (f i.toNatClampNeg) :: rest))) : W p l e R s m args below meth c H locs cells slots Q (F0 m pc mls (.int i :: .ref a9 :: rest)) := by
  have hlt : i.toNatClampNeg < n := Nat.not_le.mp fun q => hin (Or.inr q)
  exact W.aald (v := va_rf (f i.toNatClampNeg)) (ty := .array C) hexec hb (hP q0 _ ha) ((hK.2 t0 _ ht).1 n (fun j => va_rf (f j))) rfl (fun q => by cases q) (by show ¬ (i < 0 ∨ (arrV _ _ _).slots.size ≤ _); rw [arrV_size]; exact hin) (by show (arrV _ _ _).slots[_]? = _; rw [arrV_read _ _ hlt]) rfl rfl hdg kk

set_option maxHeartbeats 1000000 in
theorem zi_aaload {k : zk} (K : zKK l D q4 xad xl X own ini cc nL ret d k r σ') (hxl : ∀ j, 1 ≤ j → j < 4 → xl j = 6) {a b : Nat} {v : Int32} {w : Int64} {wd : Nat} (hI : zInv σ) (hst : ∀ v ∈ st, zok σ.1 xl v) (hls : ∀ (i : Nat) (v : zV), zg ls i = some v → zok σ.1 xl v) {C : Nat → List zV → zS → Option zR} (hk : zck own ini cc nL pc (.aaload, a, b, v, w, wd) = true) (h : zins X C ret k pc ls st σ a b v w (.aaload) = some (r, σ')) : zWp l D q4 xad xl X own ini cc nL ret d pc ls st σ r σ' := by
  have hd := of_decide_eq_true hk
  obtain ⟨i, r0, rfl, h1⟩ := pI_inv h
  obtain ⟨κ, o, r1, rfl, h2⟩ := pP_inv h1
  rcases kA_inv h2 with ⟨c9, n, rfl, h3⟩ | ⟨c9, n, rfl, h3⟩
  · obtain ⟨hi, h4⟩ := zb_inv h3
    obtain ⟨hB, h5⟩ := zb_inv h4
    have hL : σ.1[o]? = some (.inr (.object c9, n)) := okh (okt hst)
    have hq := hI.2.1 o n _ c9 hL hB (Nat.not_le.mp fun q => (zin_vp hi) (Or.inr q))
    refine (K _ _ _ _ h5 hI (okc (zok_of hq (fun n9 e9 => by cases e9)) (okt (okt hst))) hls).step fun p e R s m args below meth c Q A FX ad H locs mls cells slots hP hD hS hl kk => ?_
    obtain ⟨hx, hb, hml, hown, hts, hK, hA, hX, hN, hRf, hRl, hin⟩ := FX
    refine va_aldq hx hb hK hP o 2 (C := RX1) (zW_at hL) rfl (zin_vp hi) hd ?_
    have e : va_rf (zar ad σ (.object c9) o i.toNatClampNeg) = zt ad xad (.inr (.inr (some (zel (.object c9) o i.toNatClampNeg)))) := by
      unfold zar
      rw [hB]
      rfl
    rw [e]
    exact kk mls hl
  · obtain ⟨hi, h4⟩ := zb_inv h3
    obtain ⟨hB, h5⟩ := zb_inv h4
    have hL : σ.1[o]? = some (.inr (.array c9, n)) := okh (okt hst)
    have hq := hI.2.2 o n _ c9 hL hB (Nat.not_le.mp fun q => (zin_vp hi) (Or.inr q))
    refine (K _ _ _ _ h5 hI (okc (zok_of hq (fun n9 e9 => by cases e9)) (okt (okt hst))) hls).step fun p e R s m args below meth c Q A FX ad H locs mls cells slots hP hD hS hl kk => ?_
    obtain ⟨hx, hb, hml, hown, hts, hK, hA, hX, hN, hRf, hRl, hin⟩ := FX
    refine z_aldqA hx hb hK hP o 3 (C := .int) (zW_at hL) rfl (zin_vp hi) hd ?_
    have e : va_rf (zar ad σ (.array c9) o i.toNatClampNeg) = zt ad xad (.inr (.inr (some (zel (.array c9) o i.toNatClampNeg)))) := by
      unfold zar
      rw [hB]
      rfl
    rw [e]
    exact kk mls hl

set_option maxHeartbeats 1000000 in
theorem zi_aastore {k : zk} (K : zKK l D q4 xad xl X own ini cc nL ret d k r σ') (hxl : ∀ j, 1 ≤ j → j < 4 → xl j = 6) {a b : Nat} {v : Int32} {w : Int64} {wd : Nat} (hI : zInv σ) (hst : ∀ v ∈ st, zok σ.1 xl v) (hls : ∀ (i : Nat) (v : zV), zg ls i = some v → zok σ.1 xl v) {C : Nat → List zV → zS → Option zR} (hk : zck own ini cc nL pc (.aastore, a, b, v, w, wd) = true) (h : zins X C ret k pc ls st σ a b v w (.aastore) = some (r, σ')) : zWp l D q4 xad xl X own ini cc nL ret d pc ls st σ r σ' := by
  have hd := of_decide_eq_true hk
  have h : (pP st fun κ1 o1 r => pI r fun i r => pP r fun κ o r => kA κ (fun t n => match zin i n, t with
        | true, .object _ => if (κ1, o1) = zel t o i.toNatClampNeg then k (pc + 1) ls r (σ.1, zup σ.2.1 o i.toNatClampNeg true, σ.2.2) else none
        | _, _ => none)) = some (r, σ') := h
  obtain ⟨κ1, o1, r9, rfl, h0⟩ := pP_inv h
  obtain ⟨i, r0, rfl, h1⟩ := pI_inv h0
  obtain ⟨κ, o, r1, rfl, h2⟩ := pP_inv h1
  rcases kA_inv h2 with ⟨c9, n, rfl, h3⟩ | ⟨c9, n, rfl, h3⟩
  · cases hi : zin i n with
    | false => rw [hi] at h3; cases h3
    | true =>
      rw [hi] at h3
      by_cases hq : (κ1, o1) = zel (.object c9) o i.toNatClampNeg
      · have h4 := (if_pos hq).symm.trans h3
        obtain ⟨rfl, rfl⟩ : κ1 = .inl 1 ∧ o1 = o + 1 + 8 * i.toNatClampNeg := ⟨congrArg Prod.fst hq, congrArg Prod.snd hq⟩
        have hL : σ.1[o]? = some (.inr (.object c9, n)) := okh (okt (okt hst))
        have hL1 : σ.1[o + 1 + 8 * i.toNatClampNeg]? = some (.inl 1) := okh hst
        have hI1 : zInv (σ.1, zup σ.2.1 o i.toNatClampNeg true, σ.2.2) := by
          refine ⟨fun k9 ci9 fi9 q9 g1 g2 g3 => ?_, fun k9 n9 i9 c8 g1 g2 g3 => ?_, fun k9 n9 i9 c8 g1 g2 g3 => ?_⟩
          · have hk9 : k9 ≠ o := fun e => by subst e; cases hL.symm.trans g1
            have g3 : zup σ.2.1 o i.toNatClampNeg true k9 fi9 = true := g3
            rw [zup_ne hk9] at g3
            exact hI.1 k9 ci9 fi9 q9 g1 g2 g3
          · by_cases hk9 : k9 = o
            · subst hk9
              cases hL.symm.trans g1
              by_cases hb9 : i9 = i.toNatClampNeg
              · subst hb9
                exact hL1
              · have g2 : zup σ.2.1 k9 i.toNatClampNeg true k9 i9 = true := g2
                rw [zup_eq] at g2
                exact hI.2.1 k9 n i9 c9 hL ((if_neg hb9).symm.trans g2) g3
            · have g2 : zup σ.2.1 o i.toNatClampNeg true k9 i9 = true := g2
              rw [zup_ne hk9] at g2
              exact hI.2.1 k9 n9 i9 c8 g1 g2 g3
          · have hk9 : k9 ≠ o := fun e => by subst e; cases hL.symm.trans g1
            have g2 : zup σ.2.1 o i.toNatClampNeg true k9 i9 = true := g2
            rw [zup_ne hk9] at g2
            exact hI.2.2 k9 n9 i9 c8 g1 g2 g3
        refine (K _ _ _ _ h4 hI1 (okt (okt (okt hst))) hls).heap (σ := σ) (by exact rfl) fun p e R s m args below meth c Q A FX ad H locs mls cells slots hP hD hS hl kk => ?_
        obtain ⟨hx, hb, hml, hown, hts, hK, hA, hX, hN, hRf, hRl, hin⟩ := FX
        refine va_astq hx hb hK hP hD hS o 2 (o + 1 + 8 * i.toNatClampNeg) 1 (r := (RX1, TX1, 12)) (zW_at hL) rfl (zW_at hL1) rfl (zin_vp hi) hd (fun H1 locs1 hP1 hD1 hS1 => ?_)
        have e : (zW q4 ad σ).set o (ad o, .inl (q4 2, n, .inr (.inr (.inr (.inr (va_up (zar ad σ (.object c9) o) i.toNatClampNeg (some (ad (o + 1 + 8 * i.toNatClampNeg)))))))))  = zW q4 ad (σ.1, zup σ.2.1 o i.toNatClampNeg true, σ.2.2) := by
          refine zW_set (σ := σ) (σ' := (σ.1, zup σ.2.1 o i.toNatClampNeg true, σ.2.2)) rfl hL (fun j hj => ⟨zup_ne hj, rfl, rfl⟩) ?_
          show _ = Sum.inl (q4 2, n, Sum.inr (Sum.inr (Sum.inr (Sum.inr (zar ad (σ.1, zup σ.2.1 o i.toNatClampNeg true, σ.2.2) (.object c9) o)))))
          have e2 : va_up (zar ad σ (.object c9) o) i.toNatClampNeg (some (ad (o + 1 + 8 * i.toNatClampNeg))) = zar ad (σ.1, zup σ.2.1 o i.toNatClampNeg true, σ.2.2) (.object c9) o := by
            funext j
            unfold zar va_up
            by_cases hj : j = i.toNatClampNeg
            · subst hj
              have : zup σ.2.1 o i.toNatClampNeg true o i.toNatClampNeg = true := by rw [zup_eq]; exact if_pos rfl
              simp only [this, if_true]
              rfl
            · have : zup σ.2.1 o i.toNatClampNeg true o j = σ.2.1 o j := by rw [zup_eq]; exact if_neg hj
              simp only [this, if_neg hj]
          rw [e2]
        rw [e] at hP1 hD1
        exact kk H1 locs1 hP1 hD1 hS1
      · have h4 := (if_neg hq).symm.trans h3
        cases h4
  · cases hi : zin i n with
    | false => rw [hi] at h3; cases h3
    | true => rw [hi] at h3; cases h3

set_option maxHeartbeats 1000000 in
theorem zi_arraylength {k : zk} (K : zKK l D q4 xad xl X own ini cc nL ret d k r σ') (hxl : ∀ j, 1 ≤ j → j < 4 → xl j = 6) {a b : Nat} {v : Int32} {w : Int64} {wd : Nat} (hI : zInv σ) (hst : ∀ v ∈ st, zok σ.1 xl v) (hls : ∀ (i : Nat) (v : zV), zg ls i = some v → zok σ.1 xl v) {C : Nat → List zV → zS → Option zR} (hk : zck own ini cc nL pc (.arraylength, a, b, v, w, wd) = true) (h : zins X C ret k pc ls st σ a b v w (.arraylength) = some (r, σ')) : zWp l D q4 xad xl X own ini cc nL ret d pc ls st σ r σ' := by
  have hd := of_decide_eq_true hk
  have h : (pP st fun κ _ r => kLen κ fun n => k (pc + 1) ls (.inl (Int32.ofNat n) :: r) σ) = some (r, σ') := h
  obtain ⟨κ, o, r1, rfl, h1⟩ := pP_inv h
  obtain ⟨t, n, rfl, h2⟩ := kLen_inv h1
  refine (K _ _ _ _ h2 hI (okc trivial (okt hst)) hls).step fun p e R s m args below meth c Q A FX ad H locs mls cells slots hP hD hS hl kk => ?_
  obtain ⟨hx, hb, hml, hown, hts, hK, hA, hX, hN, hRf, hRl, hin⟩ := FX
  have hok := okh hst
  cases t with
  | float => exact va_tlen hx hb (hX.1 o hok.1) hS (by rw [hok.2]) hd (kk mls hl)
  | boolean => exact va_alen (x := (n, .inl (σ.2.2.1 o))) hx hb hK hP o 1 (zW_at (κ := .inr (.boolean, n)) hok) rfl rfl hd (kk mls hl)
  | object c9 => exact va_alen (x := (n, .inr (.inr (.inr (.inr (zar ad σ (.object c9) o)))))) hx hb hK hP o 2 (zW_at (κ := .inr (.object c9, n)) hok) rfl rfl hd (kk mls hl)
  | array c9 => exact va_alen (x := (n, .inr (.inr (.inr (.inr (zar ad σ (.array c9) o)))))) hx hb hK hP o 3 (zW_at (κ := .inr (.array c9, n)) hok) rfl rfl hd (kk mls hl)
  | byte => exact va_alen (x := (n, .inl (σ.2.2.1 o))) hx hb hK hP o 0 (zW_at (κ := .inr (.byte, n)) hok) rfl rfl hd (kk mls hl)
  | char => exact va_alen (x := (n, .inl (σ.2.2.1 o))) hx hb hK hP o 0 (zW_at (κ := .inr (.char, n)) hok) rfl rfl hd (kk mls hl)
  | double => exact va_alen (x := (n, .inl (σ.2.2.1 o))) hx hb hK hP o 0 (zW_at (κ := .inr (.double, n)) hok) rfl rfl hd (kk mls hl)
  | int => exact va_alen (x := (n, .inl (σ.2.2.1 o))) hx hb hK hP o 0 (zW_at (κ := .inr (.int, n)) hok) rfl rfl hd (kk mls hl)
  | long => exact va_alen (x := (n, .inl (σ.2.2.1 o))) hx hb hK hP o 0 (zW_at (κ := .inr (.long, n)) hok) rfl rfl hd (kk mls hl)
  | short => exact va_alen (x := (n, .inl (σ.2.2.1 o))) hx hb hK hP o 0 (zW_at (κ := .inr (.short, n)) hok) rfl rfl hd (kk mls hl)

set_option maxHeartbeats 1000000 in
theorem zi_getstatic {k : zk} (K : zKK l D q4 xad xl X own ini cc nL ret d k r σ') (hxl : ∀ j, 1 ≤ j → j < 4 → xl j = 6) {a b : Nat} {v : Int32} {w : Int64} {wd : Nat} (hI : zInv σ) (hst : ∀ v ∈ st, zok σ.1 xl v) (hls : ∀ (i : Nat) (v : zV), zg ls i = some v → zok σ.1 xl v) {C : Nat → List zV → zS → Option zR} {idx : Nat} (hk : zck own ini cc nL pc (.getstatic idx, a, b, v, w, wd) = true) (h : zins X C ret k pc ls st σ a b v w (.getstatic idx) = some (r, σ')) : zWp l D q4 xad xl X own ini cc nL ret d pc ls st σ r σ' := by
  obtain ⟨hd, hlk⟩ := band hk
  obtain ⟨hd, h4⟩ := band hd
  obtain ⟨hd, h1⟩ := band hd
  have hd := of_decide_eq_true hd
  have h4 := of_decide_eq_true h4
  have h1 := of_decide_eq_true h1
  have h : k (pc + 3) ls (.inr (.inr (some (.inr (.float, 6), a))) :: st) σ = some (r, σ') := h
  refine (K _ _ _ _ h hI (okc (show a < 4 ∧ xl a = 6 from ⟨h4, hxl a h1 h4⟩) hst) hls).step fun p e R s m args below meth c Q A FX ad H locs mls cells slots hP hD hS hl kk => ?_
  obtain ⟨hx, hb, hml, hown, hts, hK, hA, hX, hN, hRf, hRl, hin⟩ := FX
  by_cases hb9 : b = 0
  · rw [if_pos hb9] at hlk
    exact va_gets hx hb (hX.2.1 a h1 h4) hS hown (hts _ (List.mem_filter.mpr ⟨tbs (List.mem_of_getElem? (of_decide_eq_true hlk)), rfl⟩)) (fun _ h9 => h9) hd (kk mls hl)
  · rw [if_neg hb9] at hlk
    exact va_getsN hx hb (hX.2.1 a h1 h4) hS hown (va_Nw.use rfl (hN.1 _ (List.mem_filter.mpr ⟨List.mem_of_getElem? (of_decide_eq_true hlk), rfl⟩))) (fun _ h9 => h9) hd (kk mls hl)

theorem ztsw_inv {f : Nat → Option zR} {y : Int32} {d9 : Nat} {o9 : zR} : ∀ {ts : List Nat} {v9 : Int32} {lo : Int}, v9.toInt = lo → -1000 ≤ lo → lo + ts.length ≤ 1001 → ztsw f y d9 v9 ts = some o9 → (∃ (i : Nat) (t : Nat), ts[i]? = some t ∧ y.toInt = lo + i ∧ f t = some o9) ∨ ((y.toInt < lo ∨ lo + ts.length ≤ y.toInt) ∧ f d9 = some o9)
  | [], v9, lo, hv, h1, h2, h => Or.inr ⟨by simp only [List.length_nil]; omega, h⟩
  | t :: ts, v9, lo, hv, h1, h2, h => by
    have h : (if y = v9 then f t else ztsw f y d9 (v9 + 1) ts) = some o9 := h
    rw [List.length_cons] at h2
    by_cases hy : y = v9
    · rw [if_pos hy] at h
      exact Or.inl ⟨0, t, rfl, by rw [hy, hv]; simp, h⟩
    · rw [if_neg hy] at h
      have e1 : (v9 + 1).toInt = lo + 1 := by
        have e9 : (1 : Int32).toInt = 1 := rfl
        rw [Jvm.Kit.i32_add (by rw [hv, e9]; omega) (by rw [hv, e9]; omega), hv, e9]
      have hn : y.toInt ≠ lo := fun e => hy (Int32.toInt_inj.mp (by rw [e, hv]))
      rcases ztsw_inv (ts := ts) e1 (by omega) (by omega) h with ⟨i, t9, g1, g2, g3⟩ | ⟨g1, g2⟩
      · exact Or.inl ⟨i + 1, t9, g1, by rw [g2]; push_cast; omega, g3⟩
      · refine Or.inr ⟨?_, g2⟩
        rw [List.length_cons]
        push_cast
        omega
theorem zdk_sw {pc9 : Nat} {ins : Instr} (h : (match decode cc pc9 with | .ok (i, _) => decide (i = ins) | _ => false) = true) : ∃ len, decode cc pc9 = .ok (ins, len) := by
  cases hd : decode cc pc9 with
  | error x9 => rw [hd] at h; cases h
  | ok q =>
    rw [hd] at h
    exact ⟨q.2, by rw [← of_decide_eq_true h]⟩

set_option maxHeartbeats 1000000 in
theorem zi_tableswitch {k : zk} (K : zKK l D q4 xad xl X own ini cc nL ret d k r σ') (hxl : ∀ j, 1 ≤ j → j < 4 → xl j = 6) {a b : Nat} {v : Int32} {w : Int64} {wd : Nat} (hI : zInv σ) (hst : ∀ v ∈ st, zok σ.1 xl v) (hls : ∀ (i : Nat) (v : zV), zg ls i = some v → zok σ.1 xl v) {C : Nat → List zV → zS → Option zR} {d9 lo hi : Int} {offs : Array Int} (hk : zck own ini cc nL pc (.tableswitch d9 lo hi offs, a, b, v, w, wd) = true) (h : zins X C ret k pc ls st σ a b v w (.tableswitch d9 lo hi offs) = some (r, σ')) : zWp l D q4 xad xl X own ini cc nL ret d pc ls st σ r σ' := by
  obtain ⟨hk, hof⟩ := band hk
  obtain ⟨hk, hh⟩ := band hk
  obtain ⟨hk, hlo⟩ := band hk
  obtain ⟨hk, hhi⟩ := band hk
  obtain ⟨hk, hv⟩ := band hk
  obtain ⟨hk, hdf⟩ := band hk
  obtain ⟨len, hd⟩ := zdk_sw hk
  have hh := of_decide_eq_true hh
  have hlo := of_decide_eq_true hlo
  have hhi := of_decide_eq_true hhi
  have hv := of_decide_eq_true hv
  have hdf := of_decide_eq_true hdf
  obtain ⟨y, r1, rfl, h1⟩ := pI_inv h
  have hll : (offs.toList.map fun o => ((pc : Int) + o).toNat).length = offs.toList.length := List.length_map _
  rcases ztsw_inv hv hlo (by rw [hll]; omega) h1 with ⟨i, t, g1, g2, g3⟩ | ⟨g1, g2⟩
  · refine (K _ _ _ _ g3 hI (okt hst) hls).step fun p e R s m args below meth c Q A FX ad H locs mls cells slots hP hD hS hl kk => ?_
    obtain ⟨hx, hb, hml, hown, hts, hK, hA, hX, hN, hRf, hRl, hin⟩ := FX
    rw [List.getElem?_map] at g1
    cases hoi : offs.toList[i]? with
    | none => rw [hoi] at g1; cases g1
    | some off =>
      rw [hoi] at g1
      have g1 : ((pc : Int) + off).toNat = t := Option.some.inj g1
      have hpos := of_decide_eq_true (List.all_eq_true.mp hof off (List.mem_of_getElem? hoi))
      have hil : i < offs.toList.length := (List.getElem?_eq_some_iff.mp hoi).1
      exact lv_tableIn hx hb hd (by omega) (by omega) (off := off) (by rw [show (y.toInt - lo).toNat = i by omega, ← Array.getElem?_toList]; exact hoi) (by omega) (kk mls hl)
  · refine (K _ _ _ _ g2 hI (okt hst) hls).step fun p e R s m args below meth c Q A FX ad H locs mls cells slots hP hD hS hl kk => ?_
    obtain ⟨hx, hb, hml, hown, hts, hK, hA, hX, hN, hRf, hRl, hin⟩ := FX
    rw [hll] at g1
    exact lv_tableOut hx hb hd (by omega) hdf (kk mls hl)

theorem zlsw_inv {f : Nat → Option zR} {y : Int32} {d9 : Nat} {o9 : zR} {pc9 : Nat} {dd : Int} (hdd : (pc9 : Int) + dd = (d9 : Int)) : ∀ {ps : List (Int × Int)}, ps.all (fun o => decide (0 ≤ (pc9 : Int) + o.2) && decide (-1000 ≤ o.1) && decide (o.1 ≤ 1000)) = true → zlsw f y d9 (ps.map fun q => (Int32.ofInt q.1, ((pc9 : Int) + q.2).toNat)) = some o9 → ∃ (off : Int) (t : Nat), Op.lookupswitch.offset ps dd y.toInt = off ∧ (pc9 : Int) + off = (t : Int) ∧ f t = some o9
  | [], _, h => ⟨dd, d9, rfl, hdd, h⟩
  | (m9, o8) :: ps, ha, h => by
    rw [List.all_cons, Bool.and_eq_true] at ha
    obtain ⟨ha, hps⟩ := ha
    obtain ⟨ha, a3⟩ := band ha
    obtain ⟨a1, a2⟩ := band ha
    have a1 := of_decide_eq_true a1
    have a2 := of_decide_eq_true a2
    have a3 := of_decide_eq_true a3
    have hm : (Int32.ofInt m9).toInt = m9 := by
      rw [Int32.toInt_ofInt]
      exact Jvm.Kit.bmod32 (by dsimp only at a2 a3; omega) (by dsimp only at a2 a3; omega)
    have h : (if y = Int32.ofInt m9 then f ((pc9 : Int) + o8).toNat else zlsw f y d9 (ps.map fun q => (Int32.ofInt q.1, ((pc9 : Int) + q.2).toNat))) = some o9 := h
    by_cases hy : y = Int32.ofInt m9
    · rw [if_pos hy] at h
      refine ⟨o8, _, ?_, ?_, h⟩
      · have : y.toInt = m9 := by rw [hy, hm]
        simp [Op.lookupswitch.offset, this]
      · dsimp only at a1
        omega
    · rw [if_neg hy] at h
      obtain ⟨off, t, g1, g2, g3⟩ := zlsw_inv hdd hps h
      refine ⟨off, t, ?_, g2, g3⟩
      have : y.toInt ≠ m9 := fun e9 => hy (Int32.toInt_inj.mp (by rw [e9, hm]))
      rw [← g1]
      simp [Op.lookupswitch.offset]
      intro e9
      exact absurd e9.symm this

set_option maxHeartbeats 1000000 in
theorem zi_lookupswitch {k : zk} (K : zKK l D q4 xad xl X own ini cc nL ret d k r σ') (hxl : ∀ j, 1 ≤ j → j < 4 → xl j = 6) {a b : Nat} {v : Int32} {w : Int64} {wd : Nat} (hI : zInv σ) (hst : ∀ v ∈ st, zok σ.1 xl v) (hls : ∀ (i : Nat) (v : zV), zg ls i = some v → zok σ.1 xl v) {C : Nat → List zV → zS → Option zR} {d9 : Int} {ps : Array (Int × Int)} (hk : zck own ini cc nL pc (.lookupswitch d9 ps, a, b, v, w, wd) = true) (h : zins X C ret k pc ls st σ a b v w (.lookupswitch d9 ps) = some (r, σ')) : zWp l D q4 xad xl X own ini cc nL ret d pc ls st σ r σ' := by
  obtain ⟨hk, hof⟩ := band hk
  obtain ⟨hk, hso⟩ := band hk
  obtain ⟨hk, hdf⟩ := band hk
  obtain ⟨len, hd⟩ := zdk_sw hk
  have hdf := of_decide_eq_true hdf
  obtain ⟨y, r1, rfl, h1⟩ := pI_inv h
  obtain ⟨off, t, g1, g2, g3⟩ := zlsw_inv hdf hof h1
  refine (K _ _ _ _ g3 hI (okt hst) hls).step fun p e R s m args below meth c Q A FX ad H locs mls cells slots hP hD hS hl kk => ?_
  obtain ⟨hx, hb, hml, hown, hts, hK, hA, hX, hN, hRf, hRl, hin⟩ := FX
  exact lv_lookup hx hb hd hso g1 g2 (kk mls hl)

set_option maxHeartbeats 1000000 in
theorem zi_ireturn {k : zk} (K : zKK l D q4 xad xl X own ini cc nL ret d k r σ') (hxl : ∀ j, 1 ≤ j → j < 4 → xl j = 6) {a b : Nat} {v : Int32} {w : Int64} {wd : Nat} (hI : zInv σ) (hst : ∀ v ∈ st, zok σ.1 xl v) (hls : ∀ (i : Nat) (v : zV), zg ls i = some v → zok σ.1 xl v) {C : Nat → List zV → zS → Option zR} (hk : zck own ini cc nL pc (.ireturn, a, b, v, w, wd) = true) (h : zins X C ret k pc ls st σ a b v w (.ireturn) = some (r, σ')) : zWp l D q4 xad xl X own ini cc nL ret d pc ls st σ r σ' := by
  have hd := of_decide_eq_true hk
  rcases st with _ | ⟨y | y | y, _ | ⟨z, r1⟩⟩
  case cons.inl.nil =>
    obtain ⟨hz, h⟩ := zb_inv (show (match zrt ret (some (.inl y)) with | true => some (some (.inl y), σ) | false => none) = some (r, σ') from h)
    cases h
    exact ⟨⟨List.prefix_rfl, hI, fun v9 e9 => by cases e9; trivial⟩, fun p e R s m args below meth c Q A n0 s0 FX ad H locs mls a1 a2 a3 a4 hP hD hS hl hr => hr ad H locs mls pc (fun _ _ => rfl) hP hD hS hd hz⟩
  all_goals cases h

set_option maxHeartbeats 1000000 in
theorem zi_lreturn {k : zk} (K : zKK l D q4 xad xl X own ini cc nL ret d k r σ') (hxl : ∀ j, 1 ≤ j → j < 4 → xl j = 6) {a b : Nat} {v : Int32} {w : Int64} {wd : Nat} (hI : zInv σ) (hst : ∀ v ∈ st, zok σ.1 xl v) (hls : ∀ (i : Nat) (v : zV), zg ls i = some v → zok σ.1 xl v) {C : Nat → List zV → zS → Option zR} (hk : zck own ini cc nL pc (.lreturn, a, b, v, w, wd) = true) (h : zins X C ret k pc ls st σ a b v w (.lreturn) = some (r, σ')) : zWp l D q4 xad xl X own ini cc nL ret d pc ls st σ r σ' := by
  have hd := of_decide_eq_true hk
  rcases st with _ | ⟨y | y | y, _ | ⟨z, r1⟩⟩
  case cons.inr.inl.nil =>
    obtain ⟨hz, h⟩ := zb_inv (show (match zrt ret (some (.inr (.inl y))) with | true => some (some (.inr (.inl y)), σ) | false => none) = some (r, σ') from h)
    cases h
    exact ⟨⟨List.prefix_rfl, hI, fun v9 e9 => by cases e9; trivial⟩, fun p e R s m args below meth c Q A n0 s0 FX ad H locs mls a1 a2 a3 a4 hP hD hS hl hr => hr ad H locs mls pc (fun _ _ => rfl) hP hD hS hd hz⟩
  all_goals cases h

set_option maxHeartbeats 1000000 in
theorem zi_areturn {k : zk} (K : zKK l D q4 xad xl X own ini cc nL ret d k r σ') (hxl : ∀ j, 1 ≤ j → j < 4 → xl j = 6) {a b : Nat} {v : Int32} {w : Int64} {wd : Nat} (hI : zInv σ) (hst : ∀ v ∈ st, zok σ.1 xl v) (hls : ∀ (i : Nat) (v : zV), zg ls i = some v → zok σ.1 xl v) {C : Nat → List zV → zS → Option zR} (hk : zck own ini cc nL pc (.areturn, a, b, v, w, wd) = true) (h : zins X C ret k pc ls st σ a b v w (.areturn) = some (r, σ')) : zWp l D q4 xad xl X own ini cc nL ret d pc ls st σ r σ' := by
  have hd := of_decide_eq_true hk
  rcases st with _ | ⟨y | y | y, _ | ⟨z, r1⟩⟩
  case cons.inr.inr.nil =>
    obtain ⟨hz, h⟩ := zb_inv (show (match zrt ret (some (.inr (.inr y))) with | true => some (some (.inr (.inr y)), σ) | false => none) = some (r, σ') from h)
    cases h
    exact ⟨⟨List.prefix_rfl, hI, fun v9 e9 => by cases e9; exact okh hst⟩, fun p e R s m args below meth c Q A n0 s0 FX ad H locs mls a1 a2 a3 a4 hP hD hS hl hr => hr ad H locs mls pc (fun _ _ => rfl) hP hD hS hd hz⟩
  all_goals cases h

set_option maxHeartbeats 1000000 in
theorem zi_return_ {k : zk} (K : zKK l D q4 xad xl X own ini cc nL ret d k r σ') (hxl : ∀ j, 1 ≤ j → j < 4 → xl j = 6) {a b : Nat} {v : Int32} {w : Int64} {wd : Nat} (hI : zInv σ) (hst : ∀ v ∈ st, zok σ.1 xl v) (hls : ∀ (i : Nat) (v : zV), zg ls i = some v → zok σ.1 xl v) {C : Nat → List zV → zS → Option zR} (hk : zck own ini cc nL pc (.return_, a, b, v, w, wd) = true) (h : zins X C ret k pc ls st σ a b v w (.return_) = some (r, σ')) : zWp l D q4 xad xl X own ini cc nL ret d pc ls st σ r σ' := by
  have hd := of_decide_eq_true hk
  rcases st with _ | ⟨y, r1⟩
  case nil =>
    obtain ⟨hz, h⟩ := zb_inv (show (match zrt ret (none) with | true => some (none, σ) | false => none) = some (r, σ') from h)
    cases h
    exact ⟨⟨List.prefix_rfl, hI, fun v9 e9 => by cases e9⟩, fun p e R s m args below meth c Q A n0 s0 FX ad H locs mls a1 a2 a3 a4 hP hD hS hl hr => hr ad H locs mls pc (fun _ _ => rfl) hP hD hS hd hz⟩
  all_goals cases h

end ZSV
