/-! ===== every method of the table meets what the pure machine says of it ===== -/
theorem zMet_ofW {l : Launch} {y : MethodName} {ws ws' : List Cond} {rm : Room} {Pc : Array Value → State → Prop} {Qc : Array Value → State → Outcome → State → Prop} {mc ms : Nat} {free : Addr → Prop} {cc : ByteArray} {maxL : Nat} {ret : Option FieldType}
    (hy : plainFor y = true) (hw : ws = Cond.code y cc maxL ret :: ws')
    (body : ∀ p e s m args below meth c s₁, BodyLoose p l y (headSpec ws rm) cc maxL ret e s m args below meth c s₁ → c.maxLocals = maxL → Pc args s →
      W p l e (headSpec ws rm).room s m args below meth c s.heap [] 0 0 (MQ below Qc args s mc ms free) (entryFrame m args maxL)) : Met l y ws rm Pc Qc mc ms free := by
  refine MetFree.of_bodySF (code := cc) (maxLocals := maxL) (ret := ret) hy ?_ ?_
  · intro args s m h hn
    obtain ⟨meth, c, h1, h2, h3, h4, h5, h6, -, -⟩ := Cond.code_spec hn (atoms_spec (ws := ws) h _ (by rw [hw]; exact List.mem_cons_self))
    exact ⟨meth, c, h1, h2, h3, h4, h5, h6⟩
  · intro p e s m args below meth c s₁ B hml hP _
    have hh0 : s₁.heap = s.heap := by rw [B.state]; rfl
    obtain ⟨t, a1, o, b1, b2, b3⟩ := body p e s m args below meth c s₁ B hml hP s₁ hh0 (Stand.of_body B)
    exact ⟨t, o, a1, b1, b2, ⟨b3.1, b3.2⟩⟩
theorem zlo_at {ad xad : Nat → Nat} : ∀ {avs : List zV} {i j : Nat} {v : zV}, zg (zlo avs) j = some v → (i + j, zt ad xad v) ∈ lv_args i (avs.map (zt ad xad))
  | [], i, j, v, h => by cases h
  | .inl y :: r, i, 0, v, h => by
    cases (show some (Sum.inl y) = some v from h)
    exact List.mem_cons_self
  | .inl y :: r, i, j + 1, v, h => by
    have := zlo_at (ad := ad) (xad := xad) (avs := r) (i := i + 1) (j := j) (show zg (zlo r) j = some v from h)
    rw [show i + (j + 1) = i + 1 + j by omega]
    exact List.mem_cons_of_mem _ this
  | .inr (.inl y) :: r, i, 0, v, h => by
    cases (show some (Sum.inr (Sum.inl y)) = some v from h)
    exact List.mem_cons_self
  | .inr (.inl y) :: r, i, 1, v, h => by cases h
  | .inr (.inl y) :: r, i, j + 2, v, h => by
    have := zlo_at (ad := ad) (xad := xad) (avs := r) (i := i + 2) (j := j) (show zg (zlo r) j = some v from h)
    rw [show i + (j + 2) = i + 2 + j by omega]
    exact List.mem_cons_of_mem _ this
  | .inr (.inr q) :: r, i, 0, v, h => by
    cases (show some (Sum.inr (Sum.inr q)) = some v from h)
    exact List.mem_cons_self
  | .inr (.inr q) :: r, i, j + 1, v, h => by
    have := zlo_at (ad := ad) (xad := xad) (avs := r) (i := i + 1) (j := j) (show zg (zlo r) j = some v from h)
    rw [show i + (j + 1) = i + 1 + j by omega]
    refine List.mem_cons_of_mem _ ?_
    have hc : (zt ad xad (.inr (.inr q))).category = 1 := by cases q <;> rfl
    rw [if_neg (by rw [hc]; omega)]
    exact this
theorem zlo_ok {L : List zK} {xl : Nat → Nat} : ∀ {avs : List zV}, (∀ v ∈ avs, zok L xl v) → ∀ (j : Nat) (v : zV), zg (zlo avs) j = some v → zok L xl v
  | [], _, j, v, h => by cases h
  | .inl y :: r, ho, 0, v, h => by
    cases (show some (Sum.inl y) = some v from h)
    trivial
  | .inl y :: r, ho, j + 1, v, h => zlo_ok (avs := r) (okt ho) j v h
  | .inr (.inl y) :: r, ho, 0, v, h => by
    cases (show some (Sum.inr (Sum.inl y)) = some v from h)
    trivial
  | .inr (.inl y) :: r, ho, 1, v, h => by cases h
  | .inr (.inl y) :: r, ho, j + 2, v, h => zlo_ok (avs := r) (okt ho) j v h
  | .inr (.inr q) :: r, ho, 0, v, h => by
    cases (show some (Sum.inr (Sum.inr q)) = some v from h)
    exact okh ho
  | .inr (.inr q) :: r, ho, j + 1, v, h => zlo_ok (avs := r) (okt ho) j v h
theorem zlo_len (ad xad : Nat → Nat) : ∀ avs : List zV, (lg_sl (avs.map (zt ad xad))).length = (zlo avs).length
  | [] => rfl
  | .inl y :: r => by
    have := zlo_len ad xad r
    show (lg_sl (Value.int y :: r.map (zt ad xad))).length = (zlo r).length + 1
    rw [← this]
    simp [lg_sl, Value.category]
  | .inr (.inl y) :: r => by
    have := zlo_len ad xad r
    show (lg_sl (Value.long y :: r.map (zt ad xad))).length = (zlo r).length + 1 + 1
    rw [← this]
    simp [lg_sl, Value.category]
  | .inr (.inr q) :: r => by
    have := zlo_len ad xad r
    show (lg_sl (zt ad xad (.inr (.inr q)) :: r.map (zt ad xad))).length = (zlo r).length + 1
    rw [← this]
    have hc : (zt ad xad (.inr (.inr q))).category = 1 := by cases q <;> rfl
    simp [lg_sl, hc]
theorem zpad_at : ∀ {n : Nat} {ls : zL} {i : Nat} {v : zV}, zg (zpad n ls) i = some v → zg ls i = some v
  | 0, _, _, _, h => by cases h
  | n + 1, [], 0, v, h => by cases h
  | n + 1, [], i + 1, v, h => by cases zpad_at (n := n) (ls := []) (show zg (zpad n []) i = some v from h)
  | n + 1, q :: r, 0, v, h => h
  | n + 1, q :: r, i + 1, v, h => zpad_at (n := n) (ls := r) h
theorem zLs_entry {ad xad : Nat → Nat} {mls : Array Slot} {n : Nat} {avs : List zV} (h : lv_has mls n (lv_args 0 (avs.map (zt ad xad)))) : zLs ad xad mls n (zpad n (zlo avs)) :=
  ⟨h.1, h.2.1, fun i v e => by
    have := zlo_at (ad := ad) (xad := xad) (i := 0) (zpad_at e)
    rw [Nat.zero_add] at this
    exact h.2.2 _ this⟩
set_option maxHeartbeats 2000000 in
theorem zsnd {l : Launch} {D : va_G} {q4 : Nat → ClassId} {xad xl : Nat → Nat} {X : Nat → Nat → Int32} (hxl : ∀ j, 1 ≤ j → j < 4 → xl j = 6) : ∀ d : Nat, zSND l D q4 xad xl X d
  | 0 => fun y q hq avs σ r σ' h => by cases h
  | d + 1 => fun y q hq avs σ r σ' h hI hok => by
    have h : (match zmi zmt y with
      | none => none
      | some q => match Nat.ble (zlo avs).length q.2.2.1 with
        | true => zgo X (zcall X d) q.2.2.2.1 q.2.2.2.2 0 (zpad q.2.2.1 (zlo avs)) [] σ
        | false => none) = some (r, σ') := h
    rw [hq] at h
    obtain ⟨hbl, h⟩ := zb_inv h
    obtain ⟨n, hn⟩ := zgo_to _ _ _ _ h
    obtain ⟨f, hf, hmk, hckM⟩ := zOK_at hq
    have hcb := zckb_of hq
    have hB := zbody (l := l) (D := D) (q4 := q4) (xad := xad) (own := q.1.cls) (ini := q.1.name == "<init>") (cc := q.2.1) (nL := q.2.2.1) (ret := q.2.2.2.1) (d := d) hxl (zsnd hxl d) hckM hcb n 0 (zpad q.2.2.1 (zlo avs)) [] σ hn hI (fun v hv => by cases hv) (fun i v e => zlo_ok hok i v (zpad_at e))
    refine ⟨hB.1, fun ad sz => ?_⟩
    refine zMet_ofW (cc := q.2.1) (maxL := q.2.2.1) (ret := q.2.2.2.1) hmk.2.2.2.1 rfl ?_
    intro p e s m args below meth c s₁ B hml hv
    obtain ⟨rfl, hsz, hP, hK, hD0, hX, hN⟩ := hv
    subst hsz
    have hD := hD0.self (sz := s.heap.size)
    have hS : va_S (va_A (zW q4 ad σ) s.heap.size) s.heap s.heap [] := va_S.rf
    have hl := lv_entry (avs.map (zt ad xad)) (n := q.2.2.1) (by rw [zlo_len]; exact Nat.le_of_ble_eq_true hbl)
    rw [lg_entry_eq]
    generalize (lg_sl (avs.map (zt ad xad)) ++ List.replicate (q.2.2.1 - (lg_sl (avs.map (zt ad xad))).length) Slot.unset).toArray = mls at hl ⊢
    have hr := B.returns
    have FX : zFx D q4 xad xl X p (headSpec (zws q) (zroom (d + 1) σ σ')).room s m (avs.map (zt ad xad)).toArray meth c (va_A (zW q4 ad σ) s.heap.size) q.1.cls (q.1.name == "<init>") q.2.1 q.2.2.1 d :=
      ⟨B.exec, B.bytes, hml, findClass_of_methodNamed B.named, fun w hw => atoms_spec (ws := zws q) B.pre w (List.mem_cons_of_mem _ hw), hK, fun q h => Or.inr h, hX, hN, Nat.le_refl _, Nat.le_refl _, fun hi => by rw [(name_of_methodNamed B.named B.method).1]; exact eq_of_beq hi⟩
    have hW := hB.2 p e (headSpec (zws q) (zroom (d + 1) σ σ')).room s m (avs.map (zt ad xad)).toArray below meth c (MQ below (zQc D q4 xad ad σ r σ' s.heap.size) (avs.map (zt ad xad)).toArray s (σ'.1.length - σ.1.length) (zsl σ'.1 - zsl σ.1) (va_A (zW q4 ad σ) s.heap.size)) (va_A (zW q4 ad σ) s.heap.size) σ.1.length (zsl σ.1) FX ad s.heap [] mls (Nat.le_refl _) (Nat.le_refl _) (Nat.le_refl _) (Nat.le_refl _) hP hD hS (zLs_entry hl) (fun ad' H' locs' mls' pc' hag hP' hD' hS' hdg hrt => ?_)
    · rw [Nat.sub_self, Nat.sub_self] at hW
      exact hW
    · have hx := B.exec
      have hb := B.bytes
      rcases r with _ | y | y | y
      · have hre : q.2.2.2.1 = none := by
          rcases hq9 : q.2.2.2.1 with _ | t
          · rfl
          · rw [hq9] at hrt; cases t <;> cases hrt
        exact W.vret hx hb (hr.trans hre) (fun t ht hW => ⟨⟨ad', hag, rfl, by rw [ht]; exact hP', hD'⟩, hS'.F ht⟩) hS'.2.2 hdg
      · rcases hq9 : q.2.2.2.1 with _ | t
        · rw [hq9] at hrt; cases hrt
        · rw [hq9] at hrt
          cases t with
          | int => exact W.iret (v := y) hx hb (hr.trans hq9) (fun t ht hW => ⟨⟨ad', hag, rfl, by rw [ht]; exact hP', hD'⟩, hS'.F ht⟩) hS'.2.2 hdg
          | boolean =>
            have hy : narrow .boolean (.int y) = .int y := by
              have hrt : (decide (y = 0) || decide (y = 1)) = true := hrt
              rw [Bool.or_eq_true, decide_eq_true_eq, decide_eq_true_eq] at hrt
              rcases hrt with rfl | rfl <;> decide
            exact W.zret (v := y) hx hb (hr.trans hq9) hy (fun t ht hW => ⟨⟨ad', hag, rfl, by rw [ht]; exact hP', hD'⟩, hS'.F ht⟩) hS'.2.2 hdg
          | _ => cases hrt
      · rcases hq9 : q.2.2.2.1 with _ | t
        · rw [hq9] at hrt; cases hrt
        · rw [hq9] at hrt
          cases t with
          | long => exact W.lret (v := y) hx hb (hr.trans hq9) (fun t ht hW => ⟨⟨ad', hag, rfl, by rw [ht]; exact hP', hD'⟩, hS'.F ht⟩) hS'.2.2 hdg
          | _ => cases hrt
      · rcases hq9 : q.2.2.2.1 with _ | t
        · rw [hq9] at hrt; cases hrt
        · rw [hq9] at hrt
          cases t with
          | object c9 =>
            refine W.aret (v := zt ad' xad (.inr (.inr y))) hx hb (hr.trans hq9) (Or.inl ⟨_, rfl⟩) ?_ (fun t ht hW => ⟨⟨ad', hag, rfl, by rw [ht]; exact hP', hD'⟩, hS'.F ht⟩) hS'.2.2 hdg
            cases y with
            | none => exact Or.inl rfl
            | some q9 => exact Or.inr ⟨_, rfl⟩
          | _ => cases hrt
