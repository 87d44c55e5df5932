section ZSU
variable {l : Launch} {D : va_G} {q4 : Nat → ClassId} {xad xl : Nat → Nat} {X : Nat → Nat → Int32} {own : String} {ini : Bool} {cc : ByteArray} {nL d : Nat} {ret : Option FieldType} {pc pc' : Nat} {ls ls' : zL} {st st' : List zV} {σ σ1 σ' : zS} {r : Option zV}

theorem zgood_lay (C : String) (T : u_T) (k : Nat) : goodWord (u_lay C T k) = true := by
  unfold u_lay
  split <;> rfl
theorem zlay_in {ci N : Nat} {C : String} {T : u_T} {ty : Nat → FieldType} (h : ZC ci C T N ty) : ∀ w ∈ u_ws C T N, w ∈ lw_tbl.filter goodWord := fun w hw => by
  refine List.mem_filter.mpr ⟨h.2.1 w hw, ?_⟩
  obtain ⟨k, -, rfl⟩ := List.mem_map.mp hw
  exact zgood_lay C T k
theorem zfn_of {ci N : Nat} {C : String} {T : u_T} {ty : Nat → FieldType} (h : ZC ci C T N ty) (b : Nat) : zfn ci b = T b := by
  unfold zfn
  rw [h.1]
theorem zcn_of {ci N : Nat} {C : String} {T : u_T} {ty : Nat → FieldType} (h : ZC ci C T N ty) : zcn ci = C := by
  unfold zcn
  rw [h.1]
theorem zfN_of {ci N : Nat} {C : String} {T : u_T} {ty : Nat → FieldType} (h : ZC ci C T N ty) : zfN ci = N := by
  unfold zfN
  rw [h.1]
def znf : zK → Bool
  | .inr (.float, _) => false
  | _ => true
theorem znf_ne {κ : zK} (h : znf κ = true) (n : Nat) : κ ≠ .inr (.float, n) := fun e => by
  rw [e] at h
  cases h
theorem zft_nf0 : ∀ ci, ci < 10 → (zft ci).all (fun f => match f with | some (some q) => znf q.1 | _ => true) = true := by decide +kernel
theorem zft_nf {ci fi : Nat} {q : zP} (hc : ci < 10) (h : zfl ci fi = some (some (some q))) (n : Nat) : q.1 ≠ .inr (.float, n) := by
  have h1 := List.all_eq_true.mp (zft_nf0 ci hc) (some (some q)) (List.mem_of_getElem? (show (zft ci)[fi]? = some (some (some q)) from h))
  exact znf_ne h1 n
theorem zfs_at {ad : Nat → Nat} {σ : zS} {ci o N b : Nat} (hN : (zft ci).length = N) (hb : b < N) : ((List.range (zft ci).length).map (zfv ad σ ci o))[b]? = some (zfv ad σ ci o b) := by
  rw [List.getElem?_map, List.getElem?_range (by omega)]
  rfl
theorem zfs_set {n b : Nat} {f g : Nat → Value} {y : Value} (hy : g b = y) (h : ∀ j, j ≠ b → g j = f j) : ((List.range n).map f).set b y = (List.range n).map g := by
  refine List.ext_getElem? fun j => ?_
  by_cases hl : j < n
  · have e1 : ((List.range n).map g)[j]? = some (g j) := by rw [List.getElem?_map, List.getElem?_range hl]; rfl
    have e2 : ((List.range n).map f)[j]? = some (f j) := by rw [List.getElem?_map, List.getElem?_range hl]; rfl
    rw [e1]
    by_cases hj : j = b
    · subst hj
      rw [List.getElem?_set_self (by simpa using hl), hy]
    · rw [List.getElem?_set_ne (fun q => hj q.symm), e2, h j hj]
  · rw [List.getElem?_eq_none (by simpa using hl), List.getElem?_eq_none (by simpa using hl)]
theorem zup_ne {α : Type} {M : Nat → Nat → α} {k i j : Nat} {y : α} (h : j ≠ k) : zup M k i y j = M j := if_neg h
theorem zup_eq {α : Type} {M : Nat → Nat → α} {k i : Nat} {y : α} : zup M k i y k = vf_upd (M k) i y := if_pos rfl
theorem zur_ne {α : Type} {M : Nat → Nat → α} {k j : Nat} {f : Nat → α} (h : j ≠ k) : zur M k f j = M j := if_neg h
theorem zur_eq {α : Type} {M : Nat → Nat → α} {k : Nat} {f : Nat → α} : zur M k f k = f := if_pos rfl
theorem zupd (f : Nat → Int32) (k : Nat) (y : Int32) : upd f k y = vf_upd f k y := rfl
theorem zInv_num {σ σ1 : zS} (h1 : σ1.1 = σ.1) (h2 : σ1.2.1 = σ.2.1) (h : zInv σ) : zInv σ1 := by
  unfold zInv
  rw [h1, h2]
  exact h

set_option maxHeartbeats 2000000 in
theorem zi_getfield {k : zk} (K : zKK l D q4 xad xl X own ini cc nL ret d k r σ') (hxl : ∀ j, 1 ≤ j → j < 4 → xl j = 6) {a b : Nat} {v : Int32} {w : Int64} {wd : Nat} (hI : zInv σ) (hst : ∀ v ∈ st, zok σ.1 xl v) (hls : ∀ (i : Nat) (v : zV), zg ls i = some v → zok σ.1 xl v) {C : Nat → List zV → zS → Option zR} {idx : Nat} (hk : zck own ini cc nL pc (.getfield idx, a, b, v, w, wd) = true) (h : zins X C ret k pc ls st σ a b v w (.getfield idx) = some (r, σ')) : zWp l D q4 xad xl X own ini cc nL ret d pc ls st σ r σ' := by
  obtain ⟨hd, hlk⟩ := band hk
  obtain ⟨hd, hbN⟩ := band hd
  obtain ⟨hd, ha⟩ := band hd
  have hd := of_decide_eq_true hd
  have ha := of_decide_eq_true ha
  have hbN := of_decide_eq_true hbN
  obtain ⟨C9, T, N, ty, hZ⟩ := ZC_all ha
  rw [zfn_of hZ] at hlk
  rw [zfN_of hZ] at hbN
  have h : zgetf k pc ls st σ a b = some (r, σ') := h
  unfold zgetf at h
  obtain ⟨κ, o, r1, rfl, h1⟩ := pP_inv h
  obtain ⟨rfl, h2⟩ := kO_inv h1
  have hL : σ.1[o]? = some (.inl a) := okh hst
  rcases hf : zfl a b with _ | _ | _ | q
  · rw [hf] at h2; cases h2
  · rw [hf] at h2
    refine (K _ _ _ _ h2 hI (okc trivial (okt hst)) hls).step fun p e R s m args below meth c Q A FX ad H locs mls cells slots hP hD hS hl kk => ?_
    obtain ⟨hx, hb, hml, hown, hts, hK, hA, hX, hN, hRf, hRl, hin⟩ := FX
    exact va_get (D := D) (ci := a) (C := C9) (T := T) (N := N) hx hb hts (zlay_in hZ) hown hK hP o (zW_at hL) hZ.1 b hbN (hts _ (List.mem_filter.mpr ⟨tbs (List.mem_of_getElem? (of_decide_eq_true hlk)), rfl⟩)) (fun _ h9 => h9) (by rw [zfs_at hZ.2.2.2.2.1 hbN]; refine congrArg some ?_; unfold zfv; rw [hf]; rfl) hd (kk mls hl)
  · rw [hf] at h2
    refine (K _ _ _ _ h2 hI (okc trivial (okt hst)) hls).step fun p e R s m args below meth c Q A FX ad H locs mls cells slots hP hD hS hl kk => ?_
    obtain ⟨hx, hb, hml, hown, hts, hK, hA, hX, hN, hRf, hRl, hin⟩ := FX
    exact va_get (D := D) (ci := a) (C := C9) (T := T) (N := N) hx hb hts (zlay_in hZ) hown hK hP o (zW_at hL) hZ.1 b hbN (hts _ (List.mem_filter.mpr ⟨tbs (List.mem_of_getElem? (of_decide_eq_true hlk)), rfl⟩)) (fun _ h9 => h9) (by rw [zfs_at hZ.2.2.2.2.1 hbN]; refine congrArg some ?_; unfold zfv; rw [hf]; rfl) hd (kk mls hl)
  · rw [hf] at h2
    obtain ⟨hB, h2⟩ := zb_inv h2
    have hq := hI.1 o a b q hL hf hB
    have hnf := zft_nf ha hf
    refine (K _ _ _ _ h2 hI (okc (zok_of hq hnf) (okt hst)) hls).step fun p e R s m args below meth c Q A FX ad H locs mls cells slots hP hD hS hl kk => ?_
    obtain ⟨hx, hb, hml, hown, hts, hK, hA, hX, hN, hRf, hRl, hin⟩ := FX
    exact va_get (D := D) (ci := a) (C := C9) (T := T) (N := N) hx hb hts (zlay_in hZ) hown hK hP o (zW_at hL) hZ.1 b hbN (hts _ (List.mem_filter.mpr ⟨tbs (List.mem_of_getElem? (of_decide_eq_true hlk)), rfl⟩)) (fun _ h9 => h9) (by rw [zfs_at hZ.2.2.2.2.1 hbN]; refine congrArg some ?_; unfold zfv; rw [hf]; show (match σ.2.1 o b with | true => Value.ref (ad (o + q.2)) | false => .null) = Value.ref (zta ad xad (q.1, o + q.2)); rw [hB, zta_in hnf]) hd (kk mls hl)

theorem zfc_int {t : FieldType} {f : Bool} (h : zfc (some none) t f = true) : t = .int ∧ f = false := by
  cases t <;> cases f <;> first | (cases h; done) | exact ⟨rfl, rfl⟩
theorem zfc_long {t : FieldType} {f : Bool} (h : zfc (some (some none)) t f = true) : t = .long ∧ f = false := by
  cases t <;> cases f <;> first | (cases h; done) | exact ⟨rfl, rfl⟩
theorem zfc_ref {t : FieldType} {f : Bool} {q : zP} (h : zfc (some (some (some q))) t f = true) : ((∃ n, t = .object n) ∨ ∃ n, t = .array n) ∧ f = true := by
  cases t <;> cases f <;> first | (cases h; done) | exact ⟨Or.inl ⟨_, rfl⟩, rfl⟩ | exact ⟨Or.inr ⟨_, rfl⟩, rfl⟩
set_option maxHeartbeats 2000000 in
theorem zi_putfield {k : zk} (K : zKK l D q4 xad xl X own ini cc nL ret d k r σ') (hxl : ∀ j, 1 ≤ j → j < 4 → xl j = 6) {a b : Nat} {v : Int32} {w : Int64} {wd : Nat} (hI : zInv σ) (hst : ∀ v ∈ st, zok σ.1 xl v) (hls : ∀ (i : Nat) (v : zV), zg ls i = some v → zok σ.1 xl v) {C : Nat → List zV → zS → Option zR} {idx : Nat} (hk : zck own ini cc nL pc (.putfield idx, a, b, v, w, wd) = true) (h : zins X C ret k pc ls st σ a b v w (.putfield idx) = some (r, σ')) : zWp l D q4 xad xl X own ini cc nL ret d pc ls st σ r σ' := by
  obtain ⟨hd, hfi⟩ := band hk
  obtain ⟨hd, hlk⟩ := band hd
  obtain ⟨hd, hbN⟩ := band hd
  obtain ⟨hd, ha⟩ := band hd
  have hd := of_decide_eq_true hd
  have ha := of_decide_eq_true ha
  have hbN := of_decide_eq_true hbN
  obtain ⟨C9, T, N, ty, hZ⟩ := ZC_all ha
  rw [zfn_of hZ] at hlk hfi
  rw [zfN_of hZ] at hbN
  have hty := hZ.2.2.1 b hbN
  have hfc := hZ.2.2.2.2.2.1 b hbN
  have hlen : ∀ ad o, b < ((List.range (zft a).length).map (zfv ad σ a o)).length := fun ad o => by rw [List.length_map, List.length_range, hZ.2.2.2.2.1]; exact hbN
  have h : zputf k pc ls st σ a b = some (r, σ') := h
  unfold zputf at h
  rcases hf : zfl a b with _ | _ | _ | q
  · rw [hf] at h; cases h
  · rw [hf] at h hfc
    obtain ⟨e1, e2⟩ := zfc_int hfc
    obtain ⟨y, r0, rfl, h1⟩ := pI_inv h
    obtain ⟨κ, o, r1, rfl, h2⟩ := pP_inv h1
    obtain ⟨rfl, h3⟩ := kO_inv h2
    have hL : σ.1[o]? = some (.inl a) := okh (okt hst)
    refine (K _ _ _ _ h3 (zInv_num rfl rfl hI) (okt (okt hst)) hls).heap (σ := σ) (by exact rfl) fun p e R s m args below meth c Q A FX ad H locs mls cells slots hP hD hS hl kk => ?_
    obtain ⟨hx, hb, hml, hown, hts, hK, hA, hX, hN, hRf, hRl, hin⟩ := FX
    refine va_put (D := D) (ci := a) (v := .int y) (ty := .int) (C := C9) (T := T) (N := N) hx hb hts (zlay_in hZ) ty hZ.2.2.1 hZ.2.2.2.1 hown hK hP hD hS o (zW_at hL) hZ.1 b hbN (hts _ (List.mem_filter.mpr ⟨tbs (List.mem_of_getElem? (of_decide_eq_true hlk)), rfl⟩)) (fun _ h9 => h9) e2 (by rw [hty, e1]) rfl rfl (hlen ad o) hd (fun H1 locs1 hP1 hD1 hS1 => ?_)
    have e : (zW q4 ad σ).set o (ad o, .inr (a, ((List.range (zft a).length).map (zfv ad σ a o)).set b (.int y))) = zW q4 ad (σ.1, σ.2.1, zup σ.2.2.1 o b y, σ.2.2.2) := by
      refine zW_set (σ := σ) (σ' := (σ.1, σ.2.1, zup σ.2.2.1 o b y, σ.2.2.2)) rfl hL (fun j hj => ⟨rfl, zup_ne hj, rfl⟩) ?_
      show _ = Sum.inr (a, _)
      rw [zfs_set (g := zfv ad (σ.1, σ.2.1, zup σ.2.2.1 o b y, σ.2.2.2) a o)]
      · unfold zfv; rw [hf]; show Value.int (zup σ.2.2.1 o b y o b) = _; rw [zup_eq]; show Value.int (if b = b then y else _) = _; rw [if_pos rfl]
      · intro j hj
        unfold zfv
        have : zup σ.2.2.1 o b y o j = σ.2.2.1 o j := by rw [zup_eq]; exact if_neg hj
        simp only [this]
    rw [e] at hP1 hD1
    exact kk H1 locs1 hP1 hD1 hS1
  · rw [hf] at h hfc
    obtain ⟨e1, e2⟩ := zfc_long hfc
    obtain ⟨y, r0, rfl, h1⟩ := pJ_inv h
    obtain ⟨κ, o, r1, rfl, h2⟩ := pP_inv h1
    obtain ⟨rfl, h3⟩ := kO_inv h2
    have hL : σ.1[o]? = some (.inl a) := okh (okt hst)
    refine (K _ _ _ _ h3 (zInv_num rfl rfl hI) (okt (okt hst)) hls).heap (σ := σ) (by exact rfl) fun p e R s m args below meth c Q A FX ad H locs mls cells slots hP hD hS hl kk => ?_
    obtain ⟨hx, hb, hml, hown, hts, hK, hA, hX, hN, hRf, hRl, hin⟩ := FX
    refine va_put (D := D) (ci := a) (v := .long y) (ty := .long) (C := C9) (T := T) (N := N) hx hb hts (zlay_in hZ) ty hZ.2.2.1 hZ.2.2.2.1 hown hK hP hD hS o (zW_at hL) hZ.1 b hbN (hts _ (List.mem_filter.mpr ⟨tbs (List.mem_of_getElem? (of_decide_eq_true hlk)), rfl⟩)) (fun _ h9 => h9) e2 (by rw [hty, e1]) rfl rfl (hlen ad o) hd (fun H1 locs1 hP1 hD1 hS1 => ?_)
    have e : (zW q4 ad σ).set o (ad o, .inr (a, ((List.range (zft a).length).map (zfv ad σ a o)).set b (.long y))) = zW q4 ad (σ.1, σ.2.1, σ.2.2.1, zup σ.2.2.2 o b y) := by
      refine zW_set (σ := σ) (σ' := (σ.1, σ.2.1, σ.2.2.1, zup σ.2.2.2 o b y)) rfl hL (fun j hj => ⟨rfl, rfl, zup_ne hj⟩) ?_
      show _ = Sum.inr (a, _)
      rw [zfs_set (g := zfv ad (σ.1, σ.2.1, σ.2.2.1, zup σ.2.2.2 o b y) a o)]
      · unfold zfv; rw [hf]; show Value.long (zup σ.2.2.2 o b y o b) = _; rw [zup_eq]; show Value.long (if b = b then y else _) = _; rw [if_pos rfl]
      · intro j hj
        unfold zfv
        have : zup σ.2.2.2 o b y o j = σ.2.2.2 o j := by rw [zup_eq]; exact if_neg hj
        simp only [this]
    rw [e] at hP1 hD1
    exact kk H1 locs1 hP1 hD1 hS1
  · rw [hf] at h hfc
    obtain ⟨e1, e2⟩ := zfc_ref hfc
    obtain ⟨κ1, o1, r0, rfl, h1⟩ := pP_inv h
    obtain ⟨κ, o, r1, rfl, h2⟩ := pP_inv h1
    obtain ⟨rfl, h3⟩ := kO_inv h2
    by_cases hq : κ1 = q.1 ∧ o1 = o + q.2
    · obtain ⟨rfl, rfl⟩ := hq
      have h4 := (if_pos ⟨rfl, rfl⟩).symm.trans h3
      have hL : σ.1[o]? = some (.inl a) := okh (okt hst)
      have hnf := zft_nf ha hf
      have hL1 : σ.1[o + q.2]? = some q.1 := zok_in (okh hst) hnf
      have hI1 : zInv (σ.1, zup σ.2.1 o b true, σ.2.2) := by
        refine ⟨fun k9 ci9 fi9 q9 g1 g2 g3 => ?_, fun k9 n9 i9 c9 g1 g2 g3 => ?_, fun k9 n9 i9 c9 g1 g2 g3 => ?_⟩
        · by_cases hk9 : k9 = o
          · subst hk9
            cases hL.symm.trans g1
            by_cases hb9 : fi9 = b
            · subst hb9
              cases hf.symm.trans g2
              exact hL1
            · have g3 : zup σ.2.1 k9 b true k9 fi9 = true := g3
              rw [zup_eq] at g3
              exact hI.1 k9 a fi9 q9 hL g2 ((if_neg hb9).symm.trans g3)
          · have g3 : zup σ.2.1 o b true k9 fi9 = true := g3
            rw [zup_ne hk9] at g3
            exact hI.1 k9 ci9 fi9 q9 g1 g2 g3
        · have hk9 : k9 ≠ o := fun e => by subst e; cases hL.symm.trans g1
          have g2 : zup σ.2.1 o b true k9 i9 = true := g2
          rw [zup_ne hk9] at g2
          exact hI.2.1 k9 n9 i9 c9 g1 g2 g3
        · have hk9 : k9 ≠ o := fun e => by subst e; cases hL.symm.trans g1
          have g2 : zup σ.2.1 o b true k9 i9 = true := g2
          rw [zup_ne hk9] at g2
          exact hI.2.2 k9 n9 i9 c9 g1 g2 g3
      refine (K _ _ _ _ h4 hI1 (okt (okt hst)) hls).heap (σ := σ) (by exact rfl) fun p e R s m args below meth c Q A FX ad H locs mls cells slots hP hD hS hl kk => ?_
      obtain ⟨hx, hb, hml, hown, hts, hK, hA, hX, hN, hRf, hRl, hin⟩ := FX
      have hin9 : ini = true ∧ own = (T b).1 := by
        rw [e2] at hfi
        have hfi : (ini && decide (own = (T b).1)) = true := hfi
        obtain ⟨f1, f2⟩ := band hfi
        exact ⟨f1, of_decide_eq_true f2⟩
      have hva : zt ad xad (.inr (.inr (some (q.1, o + q.2)))) = .ref (ad (o + q.2)) := by show Value.ref _ = _; rw [zta_in hnf]
      have hn9 : ∀ t : FieldType, (∃ n, t = .object n) ∨ (∃ n, t = .array n) → narrow t (.ref (ad (o + q.2))) = .ref (ad (o + q.2)) ∧ fits t (.ref (ad (o + q.2))) = true := fun t ht => by rcases ht with ⟨n, rfl⟩ | ⟨n, rfl⟩ <;> exact ⟨rfl, rfl⟩
      show W p l e R s m args below meth c H locs cells slots Q (F0 m pc mls (zt ad xad (.inr (.inr (some (q.1, o + q.2)))) :: .ref (ad o) :: r1.map (zt ad xad)))
      rw [hva]
      refine va_putF (D := D) (ci := a) (v := .ref (ad (o + q.2))) (ty := ty b) (C := C9) (T := T) (N := N) hx hb hts (zlay_in hZ) ty hZ.2.2.1 hZ.2.2.2.1 hown hK hP hD hS o (zW_at hL) hZ.1 b hbN (hts _ (List.mem_filter.mpr ⟨tbs (List.mem_of_getElem? (of_decide_eq_true hlk)), rfl⟩)) (fun _ h9 => h9) e2 (hin hin9.1) hin9.2.symm hty (hn9 _ e1).1 (hn9 _ e1).2 (hlen ad o) hd (fun H1 locs1 hP1 hD1 hS1 => ?_)
      have e : (zW q4 ad σ).set o (ad o, .inr (a, ((List.range (zft a).length).map (zfv ad σ a o)).set b (.ref (ad (o + q.2))))) = zW q4 ad (σ.1, zup σ.2.1 o b true, σ.2.2) := by
        refine zW_set (σ := σ) (σ' := (σ.1, zup σ.2.1 o b true, σ.2.2)) rfl hL (fun j hj => ⟨zup_ne hj, rfl, rfl⟩) ?_
        show _ = Sum.inr (a, _)
        rw [zfs_set (g := zfv ad (σ.1, zup σ.2.1 o b true, σ.2.2) a o)]
        · unfold zfv; rw [hf]
          show (match zup σ.2.1 o b true o b with | true => Value.ref (ad (o + q.2)) | false => .null) = _
          have : zup σ.2.1 o b true o b = true := by rw [zup_eq]; exact if_pos rfl
          rw [this]
        · intro j hj
          unfold zfv
          have : zup σ.2.1 o b true o j = σ.2.1 o j := by rw [zup_eq]; exact if_neg hj
          simp only [this]
      rw [e] at hP1 hD1
      exact kk H1 locs1 hP1 hD1 hS1
    · have h4 := (if_neg hq).symm.trans h3
      cases h4

end ZSU
