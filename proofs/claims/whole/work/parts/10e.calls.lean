section ZSW
variable {l : Launch} {D : va_G} {q4 : Nat → ClassId} {xad xl : Nat → Nat} {X : Nat → Nat → Int32} {own : String} {ini : Bool} {cc : ByteArray} {nL d : Nat} {ret : Option FieldType} {pc pc' : Nat} {ls ls' : zL} {st st' : List zV} {σ σ1 σ' : zS} {r : Option zV}

theorem zA_in {s : State} {A : Nat → Prop} {ad : Nat → Nat} {H : Heap} {locs : List Loc} (hD : va_D A (zW q4 ad σ)) (hS : va_S A s.heap H locs) (hA : ∀ q, s.heap.size ≤ q → A q) : ∀ q, va_A (zW q4 ad σ) H.size q → A q := by
  intro q h
  rcases h with ⟨k9, e9, h⟩ | h
  · exact hD.2 k9 (q, e9) h
  · exact hA q (Nat.le_trans hS.1 h)
theorem z_called {p : Program} {e : Env} {R : Room} {s : State} {m : MethodId} {args : Array Value} {below : List Frame} {meth : Method} {c : Code} {Q : State → Prop} {A : Nat → Prop} {H : Heap} {locs : List Loc} {mls : Array Slot} {cells slots mc ms : Nat} {st0 rest : List Value} {ad : Nat → Nat} {rr : Option zV} {sz : Nat} {a9 : Array Value} {free : Addr → Prop} (hr : va_Run p l e R s m args below meth c H locs cells slots mc ms (F0 m pc mls st0) rest (zQc D q4 xad ad σ rr σ1 sz a9) free) (hS : va_S A s.heap H locs) (hAB : ∀ q, va_A (zW q4 ad σ) sz q → A q) (hf : ∀ q, free q → A q)
    (kk : ∀ (ad' : Nat → Nat) (H1 : Heap) (locs1 : List Loc), (∀ k, k < σ.1.length → ad' k = ad k) → va_P D vwCl (zW q4 ad' σ1) H1 → va_D A (zW q4 ad' σ1) → va_S A s.heap H1 locs1 → W p l e R s m args below meth c H1 locs1 (cells + mc) (slots + ms) Q (F0 m (pc + 3) mls ((rr.map (zt ad' xad)).toList ++ rest))) : W p l e R s m args below meth c H locs cells slots Q (F0 m pc mls st0) := by
  intro T hT X9
  obtain ⟨v, st₀, t, T', L, h0, X', hL, e1, e2, ⟨⟨ad', g1, hv, g2, g3⟩, hz, hk⟩, st⟩ := hr T hT X9
  have hv : v = rr.map (zt ad' xad) := by injection hv
  subst hv
  rw [h0] at hz hk
  obtain ⟨t2, a1, b1⟩ := kk ad' T'.heap (locs ++ L) g1 (by rw [e1]; exact g2) (g3.weaken (fun _ q _ h => hAB q.1 h))
    ⟨Nat.le_trans hS.1 (by rw [e1]; exact hz), fun q h1 h2 => by rw [e1, hk q (Nat.lt_of_lt_of_le h1 hS.1) (fun z => h2 (hAB q z))]; exact hS.2.1 q h1 h2, fun q hq => by
      rcases List.mem_append.mp hq with h | h
      · exact hS.2.2 q h
      · exact hf _ (hL q h)⟩ T' rfl X'
  exact ⟨t2, st t2 a1, b1⟩
theorem zinv_inv {C : Nat → List zV → zS → Option zR} {k : zk} {y b : Nat} {ck : Bool} (h : zinv C k pc ls st σ y b ck = some (r, σ')) : ∃ (a0 r1 : List zV) (rr : Option zV) (σ1 : zS), st = a0 ++ r1 ∧ a0.length = b % 64 / 4 ∧ zcat r1 ≤ 8 ∧ zrc ck (b / 64) a0.reverse = true ∧ C y a0.reverse σ = some (rr, σ1) ∧ k (pc + 3) ls (rr.toList ++ r1) σ1 = some (r, σ') := by
  unfold zinv at h
  obtain ⟨a0, r1, h1, h2, h3⟩ := zpop_inv h
  rw [List.append_nil] at h3
  cases hb : (Nat.ble (zcat r1) 8 && zrc ck (b / 64) a0.reverse) with
  | false => rw [hb] at h3; cases h3
  | true =>
    rw [hb] at h3
    obtain ⟨g1, g2⟩ := band hb
    refine ⟨a0, r1, ?_⟩
    have g1 : zcat r1 ≤ 8 := Nat.le_of_ble_eq_true g1
    rcases hm : b % 4 with _ | _ | _ | n
    · rw [hm] at h3
      obtain ⟨σ1, f1, f2⟩ := cV_inv h3
      exact ⟨none, σ1, h1, h2, g1, g2, f1, f2⟩
    · rw [hm] at h3
      obtain ⟨v, σ1, f1, f2⟩ := cI_inv h3
      exact ⟨some (.inl v), σ1, h1, h2, g1, g2, f1, f2⟩
    · rw [hm] at h3
      obtain ⟨v, σ1, f1, f2⟩ := cJ_inv h3
      exact ⟨some (.inr (.inl v)), σ1, h1, h2, g1, g2, f1, f2⟩
    · rw [hm] at h3
      obtain ⟨v, σ1, f1, f2⟩ := cQ_inv h3
      exact ⟨some (.inr (.inr v)), σ1, h1, h2, g1, g2, f1, f2⟩
theorem zck_inv_inv {own : String} {idx y b wd : Nat} {v : Int32} {stt : Bool} (h : zck_inv own idx (y + 1) b v wd stt = true) : ∃ q : zM, zmi zmt y = some q ∧ ((if v = 0 then zlk wd (.methodLink own idx q.1) else zlk wd (.methodLinkNest own idx q.1 "JudgeHalves")) && decide ((parseMethodDescriptor q.1.desc).map (fun d => d.parameters.length) = some (b % 64 / 4 - (if stt then 0 else 1))) && (stt || (decide (1 ≤ b % 64 / 4) && decide (zcn (b / 64) = q.1.cls) && decide (b / 64 < 10)))) = true := by
  have h : (match zmi zmt y with
    | none => false
    | some q => (if v = 0 then zlk wd (.methodLink own idx q.1) else zlk wd (.methodLinkNest own idx q.1 "JudgeHalves")) && decide ((parseMethodDescriptor q.1.desc).map (fun d => d.parameters.length) = some (b % 64 / 4 - (if stt then 0 else 1))) && (stt || (decide (1 ≤ b % 64 / 4) && decide (zcn (b / 64) = q.1.cls) && decide (b / 64 < 10)))) = true := h
  cases hq : zmi zmt y with
  | none => rw [hq] at h; cases h
  | some q =>
    rw [hq] at h
    exact ⟨q, rfl, h⟩
theorem zgi {w9 : Cond} (h : w9 ∈ lw_tbl) (hg : goodWord w9 = true) : w9 ∈ lw_tbl.filter goodWord := List.mem_filter.mpr ⟨h, hg⟩
theorem zws_good {q : zM} (h : Cond.code q.1 q.2.1 q.2.2.1 q.2.2.2.1 ∈ lw_tbl) : GoodIn (lw_tbl.filter goodWord) (zws q) := fun w9 hw => by
  rcases List.mem_cons.mp hw with rfl | hw
  · exact ⟨zgi h rfl, good_of_word rfl⟩
  · exact ⟨hw, good_of_word (List.mem_filter.mp hw).2⟩
/-- what a callee's start asks -/
theorem zpre {s : State} {A : Nat → Prop} {ad : Nat → Nat} {H : Heap} {locs : List Loc} {avs : List zV} (hK : va_K D vwCl (zty q4) s) (hA : ∀ q, s.heap.size ≤ q → A q) (hX : zXt xad xl X A s) (hN : zNt s) (hP : va_P D vwCl (zW q4 ad σ) H) (hD : va_D A (zW q4 ad σ)) (hS : va_S A s.heap H locs) : ∀ U : State, U.heap = H → s.WarmedH U.vm → zPc D q4 xad xl X ad avs σ H.size (avs.map (zt ad xad)).toArray U := by
  intro U hU hW
  refine ⟨rfl, by rw [hU], by rw [hU]; exact hP, va_K.moved hW.alike hK, hD.weaken (fun _ _ _ _ => trivial), zXt_at (locs := locs) hW.alike (by rw [hU]; exact hS) (zA_in hD hS hA) hX, zNt_warm hW hN⟩
/-- a call, by its run -/
theorem zcalled {k : zk} (K : zKK l D q4 xad xl X own ini cc nL ret d k r σ') {a0 r1 : List zV} {rr : Option zV} (hI1 : zInv σ1) (hpre : σ.1 <+: σ1.1) (hrr : ∀ v, rr = some v → zok σ1.1 xl v) (hst : ∀ v ∈ st, zok σ.1 xl v) (hls : ∀ (i : Nat) (v : zV), zg ls i = some v → zok σ.1 xl v) (hs : st = a0 ++ r1) (h : k (pc + 3) ls (rr.toList ++ r1) σ1 = some (r, σ'))
    (run : ∀ (p : Program) (e : Env) (R : Room) (s : State) (m : MethodId) (args : Array Value) (below : List Frame) (meth : Method) (c : Code) (Q : State → Prop) (A : Nat → Prop), zFx D q4 xad xl X p R s m args meth c A own ini cc nL d → ∀ (ad : Nat → Nat) (H : Heap) (locs : List Loc) (mls : Array Slot) (cells slots : Nat), va_P D vwCl (zW q4 ad σ) H → va_D A (zW q4 ad σ) → va_S A s.heap H locs → mls.size = nL → cells + (σ1.1.length - σ.1.length) ≤ R.cells → slots + (zsl σ1.1 - zsl σ.1) ≤ R.slots → va_Run p l e R s m args below meth c H locs cells slots (σ1.1.length - σ.1.length) (zsl σ1.1 - zsl σ.1) (F0 m pc mls (st.map (zt ad xad))) (r1.map (zt ad xad)) (zQc D q4 xad ad σ rr σ1 H.size (a0.reverse.map (zt ad xad)).toArray) (va_A (zW q4 ad σ) H.size)) : zWp l D q4 xad xl X own ini cc nL ret d pc ls st σ r σ' := by
  have hr1 : ∀ v ∈ r1, zok σ.1 xl v := fun v hv => hst v (by rw [hs]; exact List.mem_append_right _ hv)
  have hw := K (pc + 3) ls (rr.toList ++ r1) σ1 h hI1 (fun v hv => by
    rcases List.mem_append.mp hv with hv | hv
    · exact hrr v (by cases rr with
        | none => cases hv
        | some u => rw [List.mem_singleton.mp hv])
    · exact zok_pre hpre (hr1 v hv)) (fun i v hv => zok_pre hpre (hls i v hv))
  obtain ⟨⟨w1, w2, w3⟩, w4⟩ := hw
  have hl1 := List.IsPrefix.length_le hpre
  have hl2 := List.IsPrefix.length_le w1
  have hz1 := zsl_pre hpre
  have hz2 := zsl_pre w1
  refine ⟨⟨hpre.trans w1, w2, w3⟩, fun p e R s m args below meth c Q A n0 s0 FX ad H locs mls a1 a2 a3 a4 hP hD hS hl hr => ?_⟩
  have hA := FX.2.2.2.2.2.2.1
  refine z_called (run p e R s m args below meth c Q A FX ad H locs mls _ _ hP hD hS hl.1 (by omega) (by omega)) hS (zA_in hD hS hA) (zA_in hD hS hA) (fun ad' H1 locs1 g1 hP1 hD1 hS1 => ?_)
  have e1 : σ.1.length - n0 + (σ1.1.length - σ.1.length) = σ1.1.length - n0 := by omega
  have e2 : zsl σ.1 - s0 + (zsl σ1.1 - zsl σ.1) = zsl σ1.1 - s0 := by omega
  have e3 : (rr.map (zt ad' xad)).toList ++ r1.map (zt ad xad) = (rr.toList ++ r1).map (zt ad' xad) := by
    rw [List.map_append, ← zt_ads g1 hr1]
    cases rr <;> rfl
  rw [e1, e2, e3]
  exact w4 p e R s m args below meth c Q A n0 s0 FX ad' H1 locs1 mls (by omega) (by omega) a3 a4 hP1 hD1 hS1 (zLs_ad g1 hls hl) (fun ad'' H' locs' mls' pc' f1 => hr ad'' H' locs' mls' pc' (fun k9 hk9 => (f1 k9 (by omega)).trans (g1 k9 hk9)))

set_option maxHeartbeats 2000000 in
theorem zi_invokestatic {k : zk} (K : zKK l D q4 xad xl X own ini cc nL ret d k r σ') (hxl : ∀ j, 1 ≤ j → j < 4 → xl j = 6) {b : Nat} {v : Int32} {w : Int64} {wd : Nat} (hI : zInv σ) (hst : ∀ v ∈ st, zok σ.1 xl v) (hls : ∀ (i : Nat) (v : zV), zg ls i = some v → zok σ.1 xl v) (IH : zSND l D q4 xad xl X d) {y idx : Nat} (hb1 : zckb1 (.invokestatic idx, y + 1, b, v, w, wd) = true) (hk : zck own ini cc nL pc (.invokestatic idx, y + 1, b, v, w, wd) = true) (h : zinv (zcall X d) k pc ls st σ y b false = some (r, σ')) : zWp l D q4 xad xl X own ini cc nL ret d pc ls st σ r σ' := by
  obtain ⟨hd, hki⟩ := band hk
  have hd := of_decide_eq_true hd
  obtain ⟨a0, r1, rr, σ1, hs, hn, hcat, hrc, hC, hgo⟩ := zinv_inv h
  obtain ⟨q, hq, hki⟩ := zck_inv_inv (stt := true) hki
  obtain ⟨hki, hst9⟩ := band hki
  obtain ⟨hlk, hpar⟩ := band hki
  have hpar := of_decide_eq_true hpar
  obtain ⟨f, hf, hmk, hok⟩ := zOK_at hq
  obtain ⟨mC, mI, mF, mP, mL, mN⟩ := hmk
  obtain ⟨⟨p1, p2, p3⟩, hM⟩ := IH y q hq a0.reverse σ rr σ1 hC hI (fun v hv => hst v (by rw [hs]; exact List.mem_append_left _ (List.mem_reverse.mp hv)))
  have hfe : zstf[y]? = some 0 := of_decide_eq_true hb1
  cases hf.symm.trans hfe
  have mF := (show _ from mF)
  refine zcalled (a0 := a0) (r1 := r1) K p2 p1 p3 hst hls hs hgo (fun p e R s m args below meth c Q A FX ad H locs mls cells slots hP hD hS hml9 hc1 hc2 => ?_)
  obtain ⟨hx, hb, hml, hown, hts, hK, hA, hX, hN, hRf, hRl, hin⟩ := FX
  have hstk : (F0 m pc mls (st.map (zt ad xad))).stack = (a0.reverse.map (zt ad xad)).reverse ++ r1.map (zt ad xad) := by
    show st.map (zt ad xad) = _
    rw [hs, List.map_append, List.map_reverse, List.reverse_reverse]
  have hlen9 : (a0.reverse.map (zt ad xad)).length = b % 64 / 4 := by rw [List.length_map, List.length_reverse]; exact hn
  have hpre9 : PreS s H (zPc D q4 xad xl X ad a0.reverse σ H.size) (a0.reverse.map (zt ad xad)) := ⟨zPc_blind, zpre hK hA hX hN hP hD hS⟩
  by_cases hv0 : v = 0
  · rw [if_pos hv0] at hlk
    have hlk9 : Cond.methodLink own idx q.1 ∈ lw_tbl := tbs (List.mem_of_getElem? (of_decide_eq_true hlk))
    exact va_runS (n := b % 64 / 4) (bytes := q.2.1) (maxL := q.2.2.1) (ret := q.2.2.2.1) ⟨hx, hb, hml, hown, hts⟩ (hM ad H.size) (va_cwS (ws' := lw_tbl.filter goodWord) _ hts (fun w9 hw => by
      rcases List.mem_append.mp hw with hw | hw
      · simp only [List.mem_cons, List.not_mem_nil, or_false] at hw
        rcases hw with rfl | rfl | rfl
        · exact ⟨zgi hlk9 rfl, good_of_word rfl⟩
        · exact ⟨zgi mF rfl, good_of_word rfl⟩
        · exact ⟨zgi mI rfl, good_of_word rfl⟩
      · exact zws_good mC w9 hw) rfl rfl rfl ⟨mN.1, mN.2, by rw [hpar]; rfl⟩ ⟨(show d + 2 + 1 ≤ R.frames by omega), (show 8 + (q.2.2.1 + 11) + 100 * (d + 2) ≤ R.locals by have := (show q.2.2.1 ≤ 60 from mL); omega)⟩) hpre9 rfl hlen9 hml9 hstk (lv_room (by rw [zt_cat]; exact hcat)) hd ⟨hc1, hc2⟩
  · rw [if_neg hv0] at hlk
    exact va_runSN (n := b % 64 / 4) (bytes := q.2.1) (maxL := q.2.2.1) (ret := q.2.2.2.1) (host := "JudgeHalves") ⟨hx, hb, hml, hown, hts⟩ (hM ad H.size) ⟨va_cnB (ws' := lw_tbl.filter goodWord) _ hts (zws_good mC) rfl rfl rfl (hN.1 _ (List.mem_filter.mpr ⟨List.mem_of_getElem? (of_decide_eq_true hlk), rfl⟩)) (hts _ (zgi mI rfl)) ⟨mN.1, mN.2, by rw [hpar]; rfl⟩ ⟨(show d + 2 + 1 ≤ R.frames by omega), (show 8 + (q.2.2.1 + 11) + 100 * (d + 2) ≤ R.locals by have := (show q.2.2.1 ≤ 60 from mL); omega)⟩, hts _ (zgi mF rfl), trivial⟩ hpre9 rfl hlen9 hml9 hstk (lv_room (by rw [zt_cat]; exact hcat)) hd ⟨hc1, hc2⟩

set_option maxHeartbeats 2000000 in
theorem zi_invokevirtual {k : zk} (K : zKK l D q4 xad xl X own ini cc nL ret d k r σ') (hxl : ∀ j, 1 ≤ j → j < 4 → xl j = 6) {b : Nat} {v : Int32} {w : Int64} {wd : Nat} (hI : zInv σ) (hst : ∀ v ∈ st, zok σ.1 xl v) (hls : ∀ (i : Nat) (v : zV), zg ls i = some v → zok σ.1 xl v) (IH : zSND l D q4 xad xl X d) {y idx : Nat} (hb1 : zckb1 (.invokevirtual idx, y + 1, b, v, w, wd) = true) (hk : zck own ini cc nL pc (.invokevirtual idx, y + 1, b, v, w, wd) = true) (h : zinv (zcall X d) k pc ls st σ y b true = some (r, σ')) : zWp l D q4 xad xl X own ini cc nL ret d pc ls st σ r σ' := by
  obtain ⟨hd, hki⟩ := band hk
  have hd := of_decide_eq_true hd
  obtain ⟨a0, r1, rr, σ1, hs, hn, hcat, hrc, hC, hgo⟩ := zinv_inv h
  obtain ⟨q, hq, hki⟩ := zck_inv_inv (stt := false) hki
  obtain ⟨hki, hst9⟩ := band hki
  obtain ⟨hlk, hpar⟩ := band hki
  have hpar := of_decide_eq_true hpar
  obtain ⟨f, hf, hmk, hok⟩ := zOK_at hq
  obtain ⟨mC, mI, mF, mP, mL, mN⟩ := hmk
  obtain ⟨⟨p1, p2, p3⟩, hM⟩ := IH y q hq a0.reverse σ rr σ1 hC hI (fun v hv => hst v (by rw [hs]; exact List.mem_append_left _ (List.mem_reverse.mp hv)))
  have hfe : zstf[y]? = some 1 := of_decide_eq_true hb1
  cases hf.symm.trans hfe
  have mF := (show _ from mF)
  obtain ⟨hst9, hci⟩ := band (show ((decide (1 ≤ b % 64 / 4) && decide (zcn (b / 64) = q.1.cls)) && decide (b / 64 < 10)) = true from hst9)
  obtain ⟨hge, hcn⟩ := band hst9
  have hci := of_decide_eq_true hci
  have hge := of_decide_eq_true hge
  have hcn := of_decide_eq_true hcn
  obtain ⟨C9, T9, N9, ty9, hZ⟩ := ZC_all hci
  rw [zcn_of hZ] at hcn
  obtain ⟨o, As0, hrev⟩ : ∃ (o : Nat) (As0 : List zV), a0.reverse = .inr (.inr (some (.inl (b / 64), o))) :: As0 := by
    cases hr0 : a0.reverse with
    | nil => rw [hr0] at hrc; cases hrc
    | cons u As0 =>
      rw [hr0] at hrc
      rcases u with u | u | _ | ⟨κ | κ, o⟩
      · cases hrc
      · cases hrc
      · cases hrc
      · have : κ = b / 64 := Nat.eq_of_beq_eq_true hrc
        subst this
        exact ⟨o, As0, rfl⟩
      · cases hrc
  have ha0 : a0 = As0.reverse ++ [.inr (.inr (some (.inl (b / 64), o)))] := by rw [← List.reverse_reverse a0, hrev, List.reverse_cons]
  have hL : σ.1[o]? = some (.inl (b / 64)) := hst (.inr (.inr (some (.inl (b / 64), o)))) (by rw [hs, ha0]; simp)
  have hlen0 : As0.length = b % 64 / 4 - 1 := by rw [ha0] at hn; simp at hn; omega
  refine zcalled (a0 := a0) (r1 := r1) K p2 p1 p3 hst hls hs hgo (fun p e R s m args below meth c Q A FX ad H locs mls cells slots hP hD hS hml9 hc1 hc2 => ?_)
  obtain ⟨hx, hb, hml, hown, hts, hK, hA, hX, hN, hRf, hRl, hin⟩ := FX
  have hstk : (F0 m pc mls (st.map (zt ad xad))).stack = (As0.map (zt ad xad)).reverse ++ .ref (ad o) :: r1.map (zt ad xad) := by
    show st.map (zt ad xad) = _
    rw [hs, ha0]
    simp [List.map_reverse]
    rfl
  have hlen9 : (As0.map (zt ad xad)).length = b % 64 / 4 - 1 := by rw [List.length_map]; exact hlen0
  have hp9 : ∀ U : State, U.heap = H → s.WarmedH U.vm → zPc D q4 xad xl X ad a0.reverse σ H.size (Value.ref (ad o) :: As0.map (zt ad xad)).toArray U := by
    have := zpre (avs := a0.reverse) hK hA hX hN hP hD hS
    rw [hrev] at this ⊢
    exact this
  have hq9 : zQc D q4 xad ad σ rr σ1 H.size (a0.reverse.map (zt ad xad)).toArray = zQc D q4 xad ad σ rr σ1 H.size (Value.ref (ad o) :: As0.map (zt ad xad)).toArray := by rw [hrev]; rfl
  rw [hq9]
  have hpre9 : PreV s H C9 (ad o) (zPc D q4 xad xl X ad a0.reverse σ H.size) (As0.map (zt ad xad)) := ⟨zPc_blind, va_recv hK hP hZ.1 (zW_at hL), hp9⟩
  by_cases hv0 : v = 0
  · rw [if_pos hv0] at hlk
    have hlk9 : Cond.methodLink own idx q.1 ∈ lw_tbl := tbs (List.mem_of_getElem? (of_decide_eq_true hlk))
    exact va_runV (n := b % 64 / 4 - 1) (C := C9) (bytes := q.2.1) (maxL := q.2.2.1) (ret := q.2.2.2.1) ⟨hx, hb, hml, hown, hts⟩ (hM ad H.size) (cwV (ws' := lw_tbl.filter goodWord) _ hts (fun w9 hw => by
      rcases List.mem_append.mp hw with hw | hw
      · simp only [List.mem_cons, List.not_mem_nil, or_false] at hw
        rcases hw with rfl | rfl | rfl | rfl
        · exact ⟨zgi hlk9 rfl, good_of_word rfl⟩
        · exact ⟨zgi mF.1 rfl, good_of_word rfl⟩
        · exact ⟨zgi (by rw [hcn]; exact mF.2) rfl, good_of_word rfl⟩
        · exact ⟨zgi (by rw [hcn]; exact mI) rfl, good_of_word rfl⟩
      · exact zws_good mC w9 hw) rfl rfl rfl ⟨hcn.symm, mN.1, mN.2, by rw [hpar]; rfl⟩ ⟨(show d + 2 + 1 ≤ R.frames by omega), (show 8 + (q.2.2.1 + 11) + 100 * (d + 2) ≤ R.locals by have := (show q.2.2.1 ≤ 60 from mL); omega)⟩) hpre9 rfl hlen9 hml9 hstk (lv_room (by rw [zt_cat]; exact hcat)) hd ⟨hc1, hc2⟩
  · rw [if_neg hv0] at hlk
    exact va_runVN (n := b % 64 / 4 - 1) (C := C9) (bytes := q.2.1) (maxL := q.2.2.1) (ret := q.2.2.2.1) (host := "JudgeHalves") ⟨hx, hb, hml, hown, hts⟩ (hM ad H.size) ⟨va_cnB (ws' := lw_tbl.filter goodWord) _ hts (zws_good mC) rfl rfl rfl (hN.1 _ (List.mem_filter.mpr ⟨List.mem_of_getElem? (of_decide_eq_true hlk), rfl⟩)) (hts _ (zgi mI rfl)) ⟨mN.1, mN.2, by rw [hpar]; rfl⟩ ⟨(show d + 2 + 1 ≤ R.frames by omega), (show 8 + (q.2.2.1 + 11) + 100 * (d + 2) ≤ R.locals by have := (show q.2.2.1 ≤ 60 from mL); omega)⟩, hts _ (zgi mF.1 rfl), by rw [hcn]; exact hts _ (zgi mF.2 rfl)⟩ hpre9 rfl hlen9 hml9 hstk (lv_room (by rw [zt_cat]; exact hcat)) hd ⟨hc1, hc2⟩

set_option maxHeartbeats 2000000 in
theorem zi_invokespecial {k : zk} (K : zKK l D q4 xad xl X own ini cc nL ret d k r σ') (hxl : ∀ j, 1 ≤ j → j < 4 → xl j = 6) {b : Nat} {v : Int32} {w : Int64} {wd : Nat} (hI : zInv σ) (hst : ∀ v ∈ st, zok σ.1 xl v) (hls : ∀ (i : Nat) (v : zV), zg ls i = some v → zok σ.1 xl v) (IH : zSND l D q4 xad xl X d) {y idx : Nat} (hb1 : zckb1 (.invokespecial idx, y + 1, b, v, w, wd) = true) (hk : zck own ini cc nL pc (.invokespecial idx, y + 1, b, v, w, wd) = true) (h : zinv (zcall X d) k pc ls st σ y b true = some (r, σ')) : zWp l D q4 xad xl X own ini cc nL ret d pc ls st σ r σ' := by
  obtain ⟨hd, hki⟩ := band hk
  obtain ⟨hki, -⟩ := band (show (zck_inv own idx (y + 1) b v wd false && (match zmi zmt y with | some q => decide (q.1.name = "<init>") && decide (q.2.2.2.1 = none) | none => false)) = true from hki)
  have hd := of_decide_eq_true hd
  obtain ⟨a0, r1, rr, σ1, hs, hn, hcat, hrc, hC, hgo⟩ := zinv_inv h
  obtain ⟨q, hq, hki⟩ := zck_inv_inv (stt := false) hki
  obtain ⟨hki, hst9⟩ := band hki
  obtain ⟨hlk, hpar⟩ := band hki
  have hpar := of_decide_eq_true hpar
  obtain ⟨f, hf, hmk, hok⟩ := zOK_at hq
  obtain ⟨mC, mI, mF, mP, mL, mN⟩ := hmk
  obtain ⟨⟨p1, p2, p3⟩, hM⟩ := IH y q hq a0.reverse σ rr σ1 hC hI (fun v hv => hst v (by rw [hs]; exact List.mem_append_left _ (List.mem_reverse.mp hv)))
  have hfe : zstf[y]? = some 2 := of_decide_eq_true hb1
  cases hf.symm.trans hfe
  have mF := (show _ from mF)
  obtain ⟨hst9, hci⟩ := band (show ((decide (1 ≤ b % 64 / 4) && decide (zcn (b / 64) = q.1.cls)) && decide (b / 64 < 10)) = true from hst9)
  obtain ⟨hge, hcn⟩ := band hst9
  have hci := of_decide_eq_true hci
  have hge := of_decide_eq_true hge
  have hcn := of_decide_eq_true hcn
  obtain ⟨C9, T9, N9, ty9, hZ⟩ := ZC_all hci
  rw [zcn_of hZ] at hcn
  obtain ⟨o, As0, hrev⟩ : ∃ (o : Nat) (As0 : List zV), a0.reverse = .inr (.inr (some (.inl (b / 64), o))) :: As0 := by
    cases hr0 : a0.reverse with
    | nil => rw [hr0] at hrc; cases hrc
    | cons u As0 =>
      rw [hr0] at hrc
      rcases u with u | u | _ | ⟨κ | κ, o⟩
      · cases hrc
      · cases hrc
      · cases hrc
      · have : κ = b / 64 := Nat.eq_of_beq_eq_true hrc
        subst this
        exact ⟨o, As0, rfl⟩
      · cases hrc
  have ha0 : a0 = As0.reverse ++ [.inr (.inr (some (.inl (b / 64), o)))] := by rw [← List.reverse_reverse a0, hrev, List.reverse_cons]
  have hL : σ.1[o]? = some (.inl (b / 64)) := hst (.inr (.inr (some (.inl (b / 64), o)))) (by rw [hs, ha0]; simp)
  have hlen0 : As0.length = b % 64 / 4 - 1 := by rw [ha0] at hn; simp at hn; omega
  refine zcalled (a0 := a0) (r1 := r1) K p2 p1 p3 hst hls hs hgo (fun p e R s m args below meth c Q A FX ad H locs mls cells slots hP hD hS hml9 hc1 hc2 => ?_)
  obtain ⟨hx, hb, hml, hown, hts, hK, hA, hX, hN, hRf, hRl, hin⟩ := FX
  have hstk : (F0 m pc mls (st.map (zt ad xad))).stack = (As0.map (zt ad xad)).reverse ++ .ref (ad o) :: r1.map (zt ad xad) := by
    show st.map (zt ad xad) = _
    rw [hs, ha0]
    simp [List.map_reverse]
    rfl
  have hlen9 : (As0.map (zt ad xad)).length = b % 64 / 4 - 1 := by rw [List.length_map]; exact hlen0
  have hp9 : ∀ U : State, U.heap = H → s.WarmedH U.vm → zPc D q4 xad xl X ad a0.reverse σ H.size (Value.ref (ad o) :: As0.map (zt ad xad)).toArray U := by
    have := zpre (avs := a0.reverse) hK hA hX hN hP hD hS
    rw [hrev] at this ⊢
    exact this
  have hq9 : zQc D q4 xad ad σ rr σ1 H.size (a0.reverse.map (zt ad xad)).toArray = zQc D q4 xad ad σ rr σ1 H.size (Value.ref (ad o) :: As0.map (zt ad xad)).toArray := by rw [hrev]; rfl
  rw [hq9]
  have hpre9 : PreS s H (zPc D q4 xad xl X ad a0.reverse σ H.size) (.ref (ad o) :: As0.map (zt ad xad)) := ⟨zPc_blind, hp9⟩
  obtain ⟨y1, y2, y3, y4, y5⟩ := q
  obtain ⟨mF1, mF2, mF3⟩ := mF
  have mF3 : y4 = none := mF3
  subst mF3
  by_cases hv0 : v = 0
  · rw [if_pos hv0] at hlk
    have hlk9 : Cond.methodLink own idx y1 ∈ lw_tbl := tbs (List.mem_of_getElem? (of_decide_eq_true hlk))
    exact va_runI (n := b % 64 / 4 - 1) (bytes := y2) (maxL := y3) ⟨hx, hb, hml, hown, hts⟩ (hM ad H.size) (cwI (ws' := lw_tbl.filter goodWord) _ hts (zws_good mC) rfl rfl rfl (hts _ (zgi mI rfl)) (hts _ (zgi hlk9 rfl)) (hts _ (zgi mF1 rfl)) mF2 ⟨mN.1, mN.2, by rw [hpar]; rfl⟩ ⟨(show d + 2 + 1 ≤ R.frames by omega), (show 8 + (y3 + 11) + 100 * (d + 2) ≤ R.locals by have := (show y3 ≤ 60 from mL); omega)⟩) hpre9 rfl hlen9 hml9 hstk (lv_room (by rw [zt_cat]; exact hcat)) hd ⟨hc1, hc2⟩
  · rw [if_neg hv0] at hlk
    exact va_runIN (n := b % 64 / 4 - 1) (bytes := y2) (maxL := y3) (host := "JudgeHalves") ⟨hx, hb, hml, hown, hts⟩ (hM ad H.size) ⟨va_cnB (ws' := lw_tbl.filter goodWord) _ hts (zws_good mC) rfl rfl rfl (hN.1 _ (List.mem_filter.mpr ⟨List.mem_of_getElem? (of_decide_eq_true hlk), rfl⟩)) (hts _ (zgi mI rfl)) ⟨mN.1, mN.2, by rw [hpar]; rfl⟩ ⟨(show d + 2 + 1 ≤ R.frames by omega), (show 8 + (y3 + 11) + 100 * (d + 2) ≤ R.locals by have := (show y3 ≤ 60 from mL); omega)⟩, mF2, hts _ (zgi mF1 rfl)⟩ hpre9 rfl hlen9 hml9 hstk (lv_room (by rw [zt_cat]; exact hcat)) hd ⟨hc1, hc2⟩

end ZSW
