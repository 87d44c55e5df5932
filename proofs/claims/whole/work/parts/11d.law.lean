/-! THE CLAIM OUT OF ONE WALK OF THE LAW'S BODY. Your part is whole_start (and what it stands on); all else here is the same for every law, but numbers. -/
def R_law : String := "JudgeHalvesLaw"
def lw_P (b : Addr) (xs : List Int32) (args : Array Value) (s : State) : Prop := args = #[.ref b] ∧ s.IntsAt b xs ∧ xs.length ≤ 3072 ∧ (Jvm.Cond.and given_1 narrow_1).before args s = true
def lw_Q (_ : Array Value) (s : State) (o : Outcome) (t : State) : Prop := o = .returned (some (.int 1)) ∧ Framed s o t [] 600000 7302249
def lw_Z (below : List Frame) (a : Array Value) (s : State) : State → Prop := fun t => ∃ o, t.status = .running ∧ Ended t below o ∧ lw_Q a s o t
/-- the law's own end, with 1 on the stack, nothing written that was there before, its room as the claim has it -/
theorem lw_ret {p : Program} {l : Launch} {e : Env} {s : State} {m : MethodId} {below : List Frame} {meth : Method} {c : Code} {b : Nat} (hx : p.tables.exec = Jvm.exec) (hb : c.code = code) (hr : meth.sig.returnType = ret) (hlocks : meth.locks = false) {pc : Nat} {H : Heap} {ls : Array Slot} (hdg : decode code pc = .ok (.ireturn, 1)) : W p l e room_1 s m #[Value.ref b] below meth c H [] 600000 7302249 (lw_Z below #[Value.ref b] s) (F0 m pc ls [.int 1]) := by
  intro T hT X
  obtain ⟨fs, hret, hrun, hended, hW, hframe⟩ := X.leave (v := some (.int 1)) (hlocks := hlocks) (fun h => by rw [hr] at h; cases h)
  have hmeth' : T.vm.method? m = some meth := X.method'
  refine ⟨T.setFrames fs, ?_, .returned (some (.int 1)), hrun, hended, rfl, ⟨_, rfl⟩, hW, hframe⟩
  jvm_step X.here [X.here.top, hx, hb, hdg, hmeth', hr, ret, narrow_b1]
  (try refine ⟨rfl, ?_⟩); (try refine ⟨rfl, ?_⟩)
  first | (intro acts; rw [hret _ acts rfl rfl rfl]) | rw [hret _ _ rfl rfl rfl]
  exact Steps.refl _
/-- what holds at the law's entry: the machine, the code, the tables' words (any of lw_tbl by 'hts w (by decide +kernel)'), the script of L ints xs at the cell b, what the Statement gives of the start (any of its parts by flat_of_before) -/
def lw_At (p : Program) (s : State) (m : MethodId) (meth : Method) (c : Code) (b L : Nat) (xs : Nat → Int32) : Prop :=
  p.tables.exec = Jvm.exec ∧ c.code = code ∧ meth.sig.returnType = ret ∧ c.maxLocals = 4 ∧ s.vm.findClass R_law = some m.cls ∧ (∀ w ∈ lw_tbl, w.before #[Value.ref b] s = true) ∧ va_X b L xs s s.heap ∧ b < s.heap.size ∧ meth.locks = false ∧ (Jvm.Cond.and given_1 narrow_1).before #[Value.ref b] s = true
/-! ===== the law, out of the pure machine ===== -/
abbrev zB1 : Nat → Nat → Bool := fun _ _ => true
def zNr : Nat → Int32
  | 0 => -1
  | 1 => 0
  | 2 => 1
  | 3 => 1
  | 4 => 0
  | _ => 4
def zSz : Nat → Int32
  | 0 => 10
  | 1 => 11
  | 2 => 12
  | 3 => 0
  | 4 => 13
  | _ => 14
def zMk : Nat → Int32
  | 0 => 20
  | 1 => 21
  | 2 => 24
  | 3 => 22
  | 4 => 23
  | _ => 0
def zXs (xs : Nat → Int32) : Nat → Nat → Int32
  | 0 => xs
  | 1 => zNr
  | 2 => zSz
  | _ => zMk
def zxl (L : Nat) : Nat → Nat := fun j => if j = 0 then L else 6
def zlaidA (σ : zS) : Bool := (List.range zLc.length).all (fun k => zlaid σ k (zLc.getD k (.inl 0)))
/-- a layout of which every reference leads to its kind -/
def zinvk (L : List zK) (k : Nat) : zK → Bool
  | .inl ci => (List.range (zft ci).length).all (fun fi => match zfl ci fi with
    | some (some (some q)) => decide (L[k + q.2]? = some q.1)
    | _ => true)
  | .inr (.object c, n) => (List.range n).all (fun i => decide (L[(zel (.object c) k i).2]? = some (zel (.object c) k i).1))
  | .inr (.array c, n) => (List.range n).all (fun i => decide (L[(zel (.array c) k i).2]? = some (zel (.array c) k i).1))
  | _ => true
theorem zinvk_Lc : (List.range zLc.length).all (fun k => zinvk zLc k (zLc.getD k (.inl 0))) = true := by decide +kernel
theorem zall_at {P : Nat → zK → Bool} {L : List zK} (h : (List.range L.length).all (fun k => P k (L.getD k (.inl 0))) = true) {k : Nat} {κ : zK} (hk : L[k]? = some κ) : P k κ = true := by
  have h1 := List.all_eq_true.mp h k (List.mem_range.mpr (List.getElem?_eq_some_iff.mp hk).1)
  have hd : L.getD k (.inl 0) = κ := by rw [List.getD_eq_getElem?_getD, hk]; rfl
  rwa [hd] at h1
theorem zfl_lt {ci fi : Nat} {f : zF} (h : zfl ci fi = some f) : fi < (zft ci).length := (List.getElem?_eq_some_iff.mp (show (zft ci)[fi]? = some f from h)).1
theorem zInv_Lc (I : Nat → Nat → Int32) (J : Nat → Nat → Int64) : zInv (zLc, zB1, I, J) := by
  refine ⟨fun k ci fi q g1 g2 _ => ?_, fun k n i c g1 _ g3 => ?_, fun k n i c g1 _ g3 => ?_⟩
  · have h1 := zall_at (P := zinvk zLc) zinvk_Lc g1
    have h2 := List.all_eq_true.mp h1 fi (List.mem_range.mpr (zfl_lt g2))
    rw [g2] at h2
    exact of_decide_eq_true h2
  · have h1 := zall_at (P := zinvk zLc) zinvk_Lc g1
    exact of_decide_eq_true (List.all_eq_true.mp h1 i (List.mem_range.mpr g3))
  · have h1 := zall_at (P := zinvk zLc) zinvk_Lc g1
    exact of_decide_eq_true (List.all_eq_true.mp h1 i (List.mem_range.mpr g3))
theorem zP_laid {D : va_G} {q4 : Nat → ClassId} {ad : Nat → Nat} {σ : zS} {H : Heap} (hL : σ.1 = zLc) (hl : zlaidA σ = true) (hP : va_P D vwCl (zW q4 ad σ) H) : va_P D vwCl (zW q4 ad (σ.1, zB1, σ.2.2)) H := by
  intro k x9 hx9
  obtain ⟨κ, g1, rfl⟩ := zW_inv hx9
  have g1 : σ.1[k]? = some κ := g1
  have h2 := hP k _ (zW_at g1)
  rw [hL] at g1
  have h1 := zall_at (P := zlaid σ) hl g1
  rcases κ with ci | ⟨t, n⟩
  · have e : (List.range (zft ci).length).map (zfv ad σ ci k) = (List.range (zft ci).length).map (zfv ad (σ.1, zB1, σ.2.2) ci k) := by
      refine List.map_congr_left fun fi hfi => ?_
      have h3 := List.all_eq_true.mp h1 fi hfi
      unfold zfv
      rcases hf : zfl ci fi with _ | _ | _ | q
      · rfl
      · rfl
      · rfl
      · rw [hf] at h3
        have h3 : σ.2.1 k fi = true := h3
        show (match σ.2.1 k fi with | true => Value.ref (ad (k + q.2)) | false => .null) = Value.ref (ad (k + q.2))
        rw [h3]
    show va_at D vwCl (ad k, Sum.inr (ci, (List.range (zft ci).length).map (zfv ad (σ.1, zB1, σ.2.2) ci k))) H
    rw [← e]
    exact h2
  · cases t with
    | object c =>
      refine zP_arr (f := zar ad σ (.object c) k) (fun i hi => ?_) h2
      have h3 : σ.2.1 k i = true := List.all_eq_true.mp h1 i (List.mem_range.mpr hi)
      unfold zar
      rw [h3]
    | array c =>
      refine zP_arr (f := zar ad σ (.array c) k) (fun i hi => ?_) h2
      have h3 : σ.2.1 k i = true := List.all_eq_true.mp h1 i (List.mem_range.mpr hi)
      unfold zar
      rw [h3]
    | _ => exact h2
theorem zD_laid {A : Nat → Prop} {q4 : Nat → ClassId} {ad : Nat → Nat} {σ : zS} {B : Nat → Nat → Bool} (hD : va_D A (zW q4 ad σ)) : va_D A (zW q4 ad (σ.1, B, σ.2.2)) := by
  refine ⟨fun i j a b g1 g2 g3 => ?_, fun k a g1 => ?_⟩
  · obtain ⟨κ1, f1, rfl⟩ := zW_inv g1
    obtain ⟨κ2, f2, rfl⟩ := zW_inv g2
    exact hD.1 i j _ _ (zW_at (show σ.1[i]? = some κ1 from f1)) (zW_at (show σ.1[j]? = some κ2 from f2)) g3
  · obtain ⟨κ1, f1, rfl⟩ := zW_inv g1
    exact hD.2 k (ad k, zE q4 ad σ k κ1) (zW_at (show σ.1[k]? = some κ1 from f1))
section ZLAW
variable {l : Launch} {D : va_G} {q4 : Nat → ClassId} {xad xl : Nat → Nat} {X : Nat → Nat → Int32} {d : Nat} {r : Option zV} {σ' : zS}
/-- at the law's loop, with all references laid, the bits are forgotten -/
noncomputable def zk0 (X : Nat → Nat → Int32) (d : Nat) : zk := fun pc ls st σ => match decide (pc = 18) && (decide (σ.1 = zLc) && zlaidA σ) with
  | true => zgo X (zcall X d) (some .boolean) kL_law 18 ls st (σ.1, zB1, σ.2.2)
  | false => none
theorem zk0_K (hxl : ∀ j, 1 ≤ j → j < 4 → xl j = 6) : zKK l D q4 xad xl X RL false cL_law 4 (some .boolean) d (zk0 X d) r σ' := by
  intro pc ls st σ h hI hst hls
  unfold zk0 at h
  obtain ⟨hc, h0⟩ := zb_inv h
  obtain ⟨hp0, hc1⟩ := band hc
  obtain ⟨hL0, hl⟩ := band hc1
  have hp := of_decide_eq_true hp0
  have hL := of_decide_eq_true hL0
  clear h hp0 hc
  subst hp
  obtain ⟨n, hn⟩ := zgo_to _ _ _ _ h0
  have hI2 : zInv (σ.1, zB1, σ.2.2) := by rw [hL]; exact zInv_Lc σ.2.2.1 σ.2.2.2
  have hw := zbody (l := l) (D := D) (q4 := q4) (xad := xad) (own := RL) (ini := false) (cc := cL_law) (nL := 4) (ret := some .boolean) (d := d) hxl (zsnd hxl d) okL_law okbL_law n 18 ls st (σ.1, zB1, σ.2.2) hn hI2 hst hls
  refine ⟨hw.1, fun p e R s m args below meth c Q A n0 s0 FX ad H locs mls a1 a2 a3 a4 hP hD hS hl9 hr => ?_⟩
  exact hw.2 p e R s m args below meth c Q A n0 s0 FX ad H locs mls a1 a2 a3 a4 (zP_laid hL hl hP) (zD_laid hD) hS hl9 hr
noncomputable def zdK (X : Nat → Nat → Int32) (C : Nat → List zV → zS → Option zR) (k0 : zk) : Nat → zk
  | 0 => k0
  | n + 1 => fun pc ls st σ => match decide (pc = 18) with
    | true => k0 pc ls st σ
    | false => zone X C (some .boolean) kL_law (zdK X C k0 n) pc ls st σ
theorem zdK_K (hxl : ∀ j, 1 ≤ j → j < 4 → xl j = 6) : ∀ n : Nat, zKK l D q4 xad xl X RL false cL_law 4 (some .boolean) d (zdK X (zcall X d) (zk0 X d) n) r σ'
  | 0 => zk0_K hxl
  | n + 1 => fun pc ls st σ h hI hst hls => by
    have h : (match decide (pc = 18) with | true => zk0 X d pc ls st σ | false => zone X (zcall X d) (some .boolean) kL_law (zdK X (zcall X d) (zk0 X d) n) pc ls st σ) = some (r, σ') := h
    cases hp : decide (pc = 18) with
    | true =>
      rw [hp] at h
      exact zk0_K hxl pc ls st σ h hI hst hls
    | false =>
      rw [hp] at h
      have h : zone X (zcall X d) (some .boolean) kL_law (zdK X (zcall X d) (zk0 X d) n) pc ls st σ = some (r, σ') := h
      unfold zone at h
      cases hz : zat kL_law pc with
      | none => rw [hz] at h; cases h
      | some q =>
        rw [hz] at h
        obtain ⟨ins, a, b, v, w, wd⟩ := q
        have hk := zckM_at okL_law hz
        rw [Nat.zero_add] at hk
        exact zi_all (zdK_K hxl n) hxl hI hst hls (zsnd hxl d) (zckb_at okbL_law hz) hk h
end ZLAW
/-- the locals at the law's loop -/
def zlh (L : Nat) (i : Int32) : zL := [some (.inr (.inr (some (.inr (.float, L), 0)))), some (.inr (.inr (some (.inl 8, 0)))), some (.inr (.inr (some (.inl 9, 283)))), some (.inl i)]
theorem zini_get : ∃ σ1 σ2 : zS, zcF zX0 6 106 [.inr (.inr (some (.inl 8, 0)))] (znew zs00 (.inl 8)) = some (none, σ1) ∧ σ1.1.length = 283 ∧ zcF zX0 6 152 [.inr (.inr (some (.inl 9, 283)))] (znew σ1 (.inl 9)) = some (none, σ2) ∧ zini_ck σ2 = true := by
  have h1 := zini_len
  have h2 := zini_all
  unfold zini2 at h2
  cases e1 : zini1 with
  | none => rw [e1] at h1; cases h1
  | some σ1 =>
    rw [e1] at h1 h2
    have h1 := of_decide_eq_true h1
    unfold zini1 at e1
    have g1 : zcF zX0 6 106 [.inr (.inr (some (.inl 8, 0)))] (znew zs00 (.inl 8)) = some (none, σ1) := by
      revert e1
      generalize zcF zX0 6 106 [.inr (.inr (some (.inl 8, 0)))] (znew zs00 (.inl 8)) = o9
      intro e1
      rcases o9 with _ | ⟨_ | v, σ⟩
      · cases e1
      · cases e1; rfl
      · cases e1
    refine ⟨σ1, ?_⟩
    revert h2
    show (match (match zcF zX0 6 152 [.inr (.inr (some (.inl 9, 283)))] (znew σ1 (.inl 9)) with
    | some (none, σ2) => some σ2
    | _ => none) with
      | some σ => zini_ck σ
      | none => false) = true → _
    generalize zcF zX0 6 152 [.inr (.inr (some (.inl 9, 283)))] (znew σ1 (.inl 9)) = o9
    intro h2
    rcases o9 with _ | ⟨_ | v, σ⟩
    · cases h2
    · exact ⟨σ, g1, h1, rfl, h2⟩
    · cases h2
/-- WHAT IS LEFT TO SHOW, of the pure machine alone: from the made state on, the law answers 1 -/
def zPure (d : Nat) : Prop := ∀ (L : Nat) (xs : Nat → Int32) (I : Nat → Nat → Int32) (J : Nat → Nat → Int64), L ≤ 3072 → (∀ k, k < zLc.length → ∀ i, i < zks (zLc.getD k (.inl 0)) → I k i = zIc k i) → ∃ (I' : Nat → Nat → Int32) (J' : Nat → Nat → Int64), zgo (zXs xs) (zcall (zXs xs) d) (some .boolean) kL_law 18 (zlh L 0) [] (zLc, zB1, I, J) = some (some (.inl 1), (zLc, zB1, I', J'))
theorem cV_some (σ : zS) (f : zS → Option zR) : cV (some (none, σ)) f = f σ := rfl
theorem zlaw_run {C : Nat → List zV → zS → Option zR} {X : Nat → Nat → Int32} {k0 : zk} {L : Nat} {σ1 σ2 : zS} (h1 : C 106 [.inr (.inr (some (.inl 8, 0)))] (znew zs00 (.inl 8)) = some (none, σ1)) (hl : σ1.1.length = 283) (h2 : C 152 [.inr (.inr (some (.inl 9, 283)))] (znew σ1 (.inl 9)) = some (none, σ2)) : zdK X C k0 20 0 [some (.inr (.inr (some (.inr (.float, L), 0)))), none, none, none] [] zs00 = k0 18 (zlh L 0) [] σ2 := by
  have e1 : zdK X C k0 20 0 [some (.inr (.inr (some (.inr (.float, L), 0)))), none, none, none] [] zs00 = cV (C 106 [.inr (.inr (some (.inl 8, 0)))] (znew zs00 (.inl 8))) (fun σ' => zdK X C k0 17 7 [some (.inr (.inr (some (.inr (.float, L), 0)))), none, none, none] [.inr (.inr (some (.inl 8, 0)))] σ') := rfl
  have e2 : ∀ σ : zS, zdK X C k0 17 7 [some (.inr (.inr (some (.inr (.float, L), 0)))), none, none, none] [.inr (.inr (some (.inl 8, 0)))] σ = cV (C 152 [.inr (.inr (some (.inl 9, σ.1.length)))] (znew σ (.inl 9))) (fun σ' => zdK X C k0 13 15 [some (.inr (.inr (some (.inr (.float, L), 0)))), some (.inr (.inr (some (.inl 8, 0)))), none, none] [.inr (.inr (some (.inl 9, σ.1.length)))] σ') := fun _ => rfl
  have e3 : ∀ (σ : zS) (n : Nat), zdK X C k0 13 15 [some (.inr (.inr (some (.inr (.float, L), 0)))), some (.inr (.inr (some (.inl 8, 0)))), none, none] [.inr (.inr (some (.inl 9, n)))] σ = k0 18 [some (.inr (.inr (some (.inr (.float, L), 0)))), some (.inr (.inr (some (.inl 8, 0)))), some (.inr (.inr (some (.inl 9, n)))), some (.inl 0)] [] σ := fun _ _ => rfl
  rw [e1, h1, cV_some, e2, hl, h2, cV_some, e3]
  rfl
theorem zInv_00 : zInv zs00 := by
  have h0 : ∀ (k : Nat) (κ : zK), zs00.1[k]? = some κ → False := fun k κ h => by
    have h : ([] : List zK)[k]? = some κ := h
    simp at h
  exact ⟨fun k ci fi q h => (h0 _ _ h).elim, fun k n i c h => (h0 _ _ h).elim, fun k n i c h => (h0 _ _ h).elim⟩
theorem zAOA_spec {s : State} (h : va_AOA .int s) : ∃ c k comp, s.vm.findClass ("[" ++ (FieldType.array .int).toString) = some c ∧ s.vm.classes[c]? = some k ∧ k.kind = .array comp (.array .int) := by
  have h0 : (Cond.arrayOver (.array .int)).before #[] s = true := h
  unfold Cond.before Cond.holds at h0
  simp only [Cond.value] at h0
  cases hc : s.vm.findClass (FieldType.array .int).toString with
  | none => rw [hc] at h0; cases h0
  | some comp =>
    rw [hc, Option.bind_some] at h0
    cases hf : (s.vm.classes.findIdx? fun (x : Class) => match x.kind with | .array component _ => component == comp | _ => false) with
    | none =>
      have h1 := (congrArg (fun o : Option Nat => (o.bind (fun c => (s.vm.classes[c]?).map fun (k : Class) => match k.kind with | .array _ ty => decide (ty = FieldType.array .int) && decide (s.vm.findClass ("[" ++ (FieldType.array .int).toString) = some c) | _ => false) == some true)) hf).symm.trans h0
      cases h1
    | some c =>
      have h1 := (congrArg (fun o : Option Nat => (o.bind (fun c => (s.vm.classes[c]?).map fun (k : Class) => match k.kind with | .array _ ty => decide (ty = FieldType.array .int) && decide (s.vm.findClass ("[" ++ (FieldType.array .int).toString) = some c) | _ => false) == some true)) hf).symm.trans h0
      dsimp only [Option.bind_some] at h1
      cases hk : s.vm.classes[c]? with
      | none => rw [hk] at h1; cases h1
      | some k =>
        rw [hk, Option.map_some] at h1
        cases hkk : k.kind with
        | array c2 ty =>
          rw [hkk] at h1
          simp only [beq_iff_eq, Option.some.injEq, Bool.and_eq_true, decide_eq_true_eq] at h1
          exact ⟨c, k, c2, h1.2, hk, by rw [hkk, h1.1]⟩
        | _ => rw [hkk] at h1; cases h1
/-- a static array of the class, as the Statement gives it -/
theorem zstat {s : State} {args : Array Value} {A : Nat → Prop} {C n : String} {f : Nat → Int32} (hl : (Cond.laysStatic C n "[I").before args s = true) (hini : (Cond.initialized C).before args s = true) (harr : (Cond.arrayOf (.static C n "[I") .int).before args s = true) (hlen : (Cond.eq (.length (.static C n "[I")) (.int 6)).before args s = true) (hel : ∀ j, j < 6 → (Cond.eq (.elem (.static C n "[I") (.int (Int32.ofNat j))) (.int (f j))).before args s = true) (hA : ∀ a : Nat, a < s.heap.size → ¬ A a) : ∃ t : Nat, va_T .int t 6 (fun i => .int (f i)) A s s.heap ∧ va_Z C n "[I" (.ref t) A s s.heap := by
  obtain ⟨y, h1, h2⟩ := Cond.eq_one (show (Cond.eq (.length (.static C n "[I")) (.int 6)).holds args s none s [] = true from hlen)
  have hy : y = .int (Int32.ofNat 6) := (Option.some.inj h2).symm
  subst hy
  obtain ⟨t, g1, g2⟩ := va_Tof (tm := .static C n "[I") (ty := .int) (N := 6) (f := fun i => .int (f i)) (A := A) (by decide) harr h1 (fun j hj => by
    obtain ⟨y, e1, e2⟩ := Cond.eq_one (show (Cond.eq (.elem (.static C n "[I") (.int (Int32.ofNat j))) (.int (f j))).holds args s none s [] = true from hel j hj)
    have hy : y = .int (f j) := (Option.some.inj e2).symm
    subst hy
    exact e1) hA
  exact ⟨t, g2, va_Zof hl hini g1 hA⟩
set_option maxRecDepth 100000 in
theorem tw_s1 : Cond.laysStatic RX8 "NEAREST" "[I" ∈ lw_tbl := tb4 (List.mem_of_getElem? (i := 172) rfl)
set_option maxRecDepth 100000 in
theorem tw_s2 : Cond.laysStatic RX0 "SIZE_BODIES" "[I" ∈ lw_tbl := tb4 (List.mem_of_getElem? (i := 192) rfl)
set_option maxRecDepth 100000 in
theorem tw_s3 : Cond.laysStatic RX0 "MARK_BODIES" "[I" ∈ lw_tbl := tb4 (List.mem_of_getElem? (i := 194) rfl)
set_option maxRecDepth 100000 in
theorem tw_ao : Cond.arrayOver (.object RX1) ∈ lw_tbl := tb1 (List.mem_of_getElem? (i := 162) rfl)
set_option maxRecDepth 100000 in
theorem tw_aa : Cond.arrayOver (.array .int) ∈ lw_tbl := tb1 (List.mem_of_getElem? (i := 29) rfl)
set_option maxHeartbeats 4000000 in
set_option maxRecDepth 100000 in
/-- the walk of the law's body, out of the pure machine's -/
theorem whole_of {d : Nat} (hd : d + 3 ≤ 840) (hd6 : 6 ≤ d) (hp : zPure d) {p : Program} {e : Env} {s : State} {m : MethodId} {below : List Frame} {meth : Method} {c : Code} (l : Launch) {b L : Nat} {xs : Nat → Int32} (hL : L ≤ 3072) (C0 : lw_At p s m meth c b L xs) : W p l e room_1 s m #[Value.ref b] below meth c s.heap [] 0 0 (lw_Z below #[Value.ref b] s) (entryFrame m ([Value.ref b] : List Value).toArray 4) := by
  obtain ⟨hx, hb, hr, hml, hown, hts, hX, hbl, hlocks, hgv⟩ := C0
  obtain ⟨c0, i0, k0⟩ := u_known (C := RX0) (T := TX0) (N := 6) (n := 6) hts ZC0.2.1 (hts _ ZC0.2.2.2.2.2.2.1)
  obtain ⟨c1, i1, k1⟩ := u_known (C := RX1) (T := TX1) (N := 12) (n := 12) hts ZC1.2.1 (hts _ ZC1.2.2.2.2.2.2.1)
  obtain ⟨c2, i2, k2⟩ := u_known (C := RX2) (T := TX2) (N := 7) (n := 7) hts ZC2.2.1 (hts _ ZC2.2.2.2.2.2.2.1)
  obtain ⟨c3, i3, k3⟩ := u_known (C := RX3) (T := TX3) (N := 3) (n := 3) hts ZC3.2.1 (hts _ ZC3.2.2.2.2.2.2.1)
  obtain ⟨c4, i4, k4⟩ := u_known (C := RX4) (T := TX4) (N := 3) (n := 3) hts ZC4.2.1 (hts _ ZC4.2.2.2.2.2.2.1)
  obtain ⟨c5, i5, k5⟩ := u_known (C := RX5) (T := TX5) (N := 12) (n := 12) hts ZC5.2.1 (hts _ ZC5.2.2.2.2.2.2.1)
  obtain ⟨c6, i6, k6⟩ := u_known (C := RX6) (T := TX6) (N := 3) (n := 3) hts ZC6.2.1 (hts _ ZC6.2.2.2.2.2.2.1)
  obtain ⟨c7, i7, k7⟩ := u_known (C := RX7) (T := TX7) (N := 11) (n := 11) hts ZC7.2.1 (hts _ ZC7.2.2.2.2.2.2.1)
  obtain ⟨c8, i8, k8⟩ := u_known (C := RX8) (T := TX8) (N := 10) (n := 10) hts ZC8.2.1 (hts _ ZC8.2.2.2.2.2.2.1)
  obtain ⟨c9, i9, k9⟩ := u_known (C := RX9) (T := TX9) (N := 26) (n := 26) hts ZC9.2.1 (hts _ ZC9.2.2.2.2.2.2.1)
  obtain ⟨dC, dI, hKc⟩ : ∃ (dC : Nat → ClassId) (dI : Nat → Nat → Nat), ∀ (k : Nat) (q : vw_C), vwCl[k]? = some q → u_Kn s q.1 q.2.1 q.2.2 (dC k) (dI k) := by
    refine ⟨fun k => [c0, c1, c2, c3, c4, c5, c6, c7, c8, c9].getD k c0, fun k => [i0, i1, i2, i3, i4, i5, i6, i7, i8, i9].getD k i0, ?_⟩
    intro k q hq
    match k, hq with
    | 0, hq => cases hq; exact k0
    | 1, hq => cases hq; exact k1
    | 2, hq => cases hq; exact k2
    | 3, hq => cases hq; exact k3
    | 4, hq => cases hq; exact k4
    | 5, hq => cases hq; exact k5
    | 6, hq => cases hq; exact k6
    | 7, hq => cases hq; exact k7
    | 8, hq => cases hq; exact k8
    | 9, hq => cases hq; exact k9
    | k + 10, hq => cases hq
  have hAO : va_AO RX1 s := va_AO.of (hts _ tw_ao)
  have hAA : va_AOA .int s := hts _ tw_aa
  obtain ⟨qI, kI, mI, f1, f2, f3⟩ := Cond.arrayClass_spec (hts _ tw_ci)
  obtain ⟨qZ, kZ, mZ, f4, f5, f6⟩ := Cond.arrayClass_spec (hts _ tw_cz)
  obtain ⟨mC, qC, kC, f7, -, f8, f9, f10⟩ := Cond.arrayOver_spec hAO
  obtain ⟨qA, kA, mA, g1, g2, g3⟩ := zAOA_spec hAA
  obtain ⟨q4, e0, e1, e2, e3⟩ : ∃ q4 : Nat → ClassId, q4 0 = qI ∧ q4 1 = qZ ∧ q4 2 = qC ∧ q4 3 = qA := ⟨fun k => [qI, qZ, qC, qA].getD k qI, rfl, rfl, rfl, rfl⟩
  have hK : va_K (dC, dI) vwCl (zty q4) s := by
    refine ⟨hKc, fun k q hq => ?_⟩
    match k, hq with
    | 0, hq => cases hq; rw [e0]; exact ⟨fun n z => ⟨(fun q hq => by cases hq), kI, f2, mI, f3⟩, f1⟩
    | 1, hq => cases hq; rw [e1]; exact ⟨fun n z => ⟨(fun q hq => by cases hq), kZ, f5, mZ, f6⟩, f4⟩
    | 2, hq => cases hq; rw [e2]; exact ⟨fun n z => ⟨(fun q hq => by cases hq), kC, f8, mC, f9⟩, kC, mC, f8, f9, f7, f10⟩
    | 3, hq => cases hq; rw [e3]; exact ⟨fun n z => ⟨(fun q hq => by cases hq), kA, g2, mA, g3⟩, g1⟩
    | k + 4, hq => cases hq
  have hA0 : ∀ a : Nat, a < s.heap.size → ¬ (fun q : Nat => s.heap.size ≤ q) a := fun a h => Nat.not_le.mpr h
  have hs := flat_of_before _ hgv
  obtain ⟨t1, T1, Z1⟩ := zstat (C := RX8) (n := "NEAREST") (f := zNr) (hts _ tw_s1) (hts _ ZC8.2.2.2.2.2.2.2.1) (hs _ (by decide +kernel)) (hs _ (by decide +kernel)) (fun j hj => by
    match j, hj with
    | 0, _ => exact hs _ (by decide +kernel)
    | 1, _ => exact hs _ (by decide +kernel)
    | 2, _ => exact hs _ (by decide +kernel)
    | 3, _ => exact hs _ (by decide +kernel)
    | 4, _ => exact hs _ (by decide +kernel)
    | 5, _ => exact hs _ (by decide +kernel)
    | n + 6, h => exact absurd h (by omega)) hA0
  obtain ⟨t2, T2, Z2⟩ := zstat (C := RX0) (n := "SIZE_BODIES") (f := zSz) (hts _ tw_s2) (hts _ ZC0.2.2.2.2.2.2.2.1) (hs _ (by decide +kernel)) (hs _ (by decide +kernel)) (fun j hj => by
    match j, hj with
    | 0, _ => exact hs _ (by decide +kernel)
    | 1, _ => exact hs _ (by decide +kernel)
    | 2, _ => exact hs _ (by decide +kernel)
    | 3, _ => exact hs _ (by decide +kernel)
    | 4, _ => exact hs _ (by decide +kernel)
    | 5, _ => exact hs _ (by decide +kernel)
    | n + 6, h => exact absurd h (by omega)) hA0
  obtain ⟨t3, T3, Z3⟩ := zstat (C := RX0) (n := "MARK_BODIES") (f := zMk) (hts _ tw_s3) (hts _ ZC0.2.2.2.2.2.2.2.1) (hs _ (by decide +kernel)) (hs _ (by decide +kernel)) (fun j hj => by
    match j, hj with
    | 0, _ => exact hs _ (by decide +kernel)
    | 1, _ => exact hs _ (by decide +kernel)
    | 2, _ => exact hs _ (by decide +kernel)
    | 3, _ => exact hs _ (by decide +kernel)
    | 4, _ => exact hs _ (by decide +kernel)
    | 5, _ => exact hs _ (by decide +kernel)
    | n + 6, h => exact absurd h (by omega)) hA0
  obtain ⟨xad, x0, x1, x2, x3⟩ : ∃ xad : Nat → Nat, xad 0 = b ∧ xad 1 = t1 ∧ xad 2 = t2 ∧ xad 3 = t3 := ⟨fun k => [b, t1, t2, t3].getD k b, rfl, rfl, rfl, rfl⟩
  have hXt : zXt xad (zxl L) (zXs xs) (fun q : Nat => s.heap.size ≤ q) s := by
    refine ⟨fun j hj => ?_, fun j h1 h2 => ?_, fun j h1 h2 => if_neg (by omega)⟩
    · match j, hj with
      | 0, _ =>
        obtain ⟨scr, a1, a2, a3, a4, a5⟩ := hX
        rw [x0]
        exact ⟨scr, a1, a2, a3, Nat.le_of_eq a4.symm, by rw [a4]; rfl, a5, Nat.not_le.mpr hbl⟩
      | 1, _ => rw [x1]; exact T1
      | 2, _ => rw [x2]; exact T2
      | 3, _ => rw [x3]; exact T3
      | n + 4, h => exact absurd h (by omega)
    · match j, h1, h2 with
      | 1, _, _ => rw [x1]; exact Z1
      | 2, _, _ => rw [x2]; exact Z2
      | 3, _, _ => rw [x3]; exact Z3
      | n + 4, _, h => exact absurd h (by omega)
  have hNt : zNt s := ⟨fun w hw => va_Nw.of (zNl_on w hw) (hts w (zNl_in w hw)), hAO, hAA⟩
  have FX : zFx (dC, dI) q4 xad (zxl L) (zXs xs) p room_1 s m #[Value.ref b] meth c (fun q : Nat => s.heap.size ≤ q) RL false cL_law 4 d :=
    ⟨hx, hb, hml, hown, fun w hw => hts w (List.mem_filter.mp hw).1, hK, fun _ h => h, hXt, hNt, (show d + 3 ≤ 2048 by omega), (show 100 * (d + 3) ≤ 84000 by omega), fun h => by cases h⟩
  obtain ⟨σ1, σ2, h1, hlen, h2, hck⟩ := zini_get
  unfold zini_ck at hck
  obtain ⟨hck, -⟩ := band hck
  obtain ⟨hck, -⟩ := band hck
  obtain ⟨hck, hint⟩ := band hck
  obtain ⟨hLc, hlaid⟩ := band hck
  have hLc := of_decide_eq_true hLc
  have h1' := zcF_call 6 ((congrFun (congrFun (congrFun (zcF_X (X := zXs xs) (X' := zX0) 6) 106) [.inr (.inr (some (.inl 8, 0)))]) (znew zs00 (.inl 8))).trans h1)
  have h2' := zcF_call 6 ((congrFun (congrFun (congrFun (zcF_X (X := zXs xs) (X' := zX0) 6) 152) [.inr (.inr (some (.inl 9, 283)))]) (znew σ1 (.inl 9))).trans h2)
  obtain ⟨I', J', hpure⟩ := hp L xs σ2.2.2.1 σ2.2.2.2 hL (fun k hk i hi => of_decide_eq_true (List.all_eq_true.mp (List.all_eq_true.mp hint k (List.mem_range.mpr hk)) i (List.mem_range.mpr hi)))
  have hrun := zlaw_run (C := zcall (zXs xs) d) (X := zXs xs) (k0 := zk0 (zXs xs) d) (L := L) (zcall_le hd6 h1') hlen (zcall_le hd6 h2')
  have hk0 : zk0 (zXs xs) d 18 (zlh L 0) [] σ2 = some (some (.inl 1), (zLc, zB1, I', J')) := by
    unfold zk0
    have hc : (decide ((18 : Nat) = 18) && (decide (σ2.1 = zLc) && zlaidA σ2)) = true := by
      rw [Bool.and_eq_true, Bool.and_eq_true]
      exact ⟨rfl, decide_eq_true hLc, hlaid⟩
    rw [hc]
    show zgo (zXs xs) (zcall (zXs xs) d) (some .boolean) kL_law 18 (zlh L 0) [] (σ2.1, zB1, σ2.2.2) = _
    rw [hLc]
    exact hpure
  have hxl : ∀ j, 1 ≤ j → j < 4 → zxl L j = 6 := fun j h1 _ => if_neg (by omega)
  have hw := zdK_K (l := l) (D := (dC, dI)) (q4 := q4) (xad := xad) hxl 20 0 (zpad 4 (zlo [.inr (.inr (some (.inr (.float, L), 0)))])) [] zs00 (hrun.trans hk0) zInv_00 (fun v hv => by cases hv) (fun i v e9 => zlo_ok (avs := [.inr (.inr (some (.inr (.float, L), 0)))]) (okc (show 0 < 4 ∧ zxl L 0 = L from ⟨by omega, rfl⟩) (fun v hv => by cases hv)) i v (zpad_at e9))
  have hl := lv_entry ([.ref b]) (n := 4) (Nat.le_of_ble_eq_true rfl)
  rw [lg_entry_eq]
  generalize (lg_sl ([.ref b]) ++ List.replicate (4 - (lg_sl ([.ref b])).length) Slot.unset).toArray = mls at hl ⊢
  have hl9 : lv_has mls 4 (lv_args 0 (([.inr (.inr (some (.inr (.float, L), 0)))] : List zV).map (zt (fun _ => 0) xad))) := by
    show lv_has mls 4 (lv_args 0 [.ref (xad 0)])
    rw [x0]
    exact hl
  have hW0 : zW q4 (fun _ => 0) zs00 = [] := rfl
  have hP00 : va_P (dC, dI) vwCl (zW q4 (fun _ => 0) zs00) s.heap := by rw [hW0]; exact fun k q h => by simp at h
  have hD00 : va_D (fun q : Nat => s.heap.size ≤ q) (zW q4 (fun _ => 0) zs00) := by rw [hW0]; exact ⟨fun i j p q h => by simp at h, fun k q h => by simp at h⟩
  have hcl : zLc.length - 0 ≤ 600000 := by decide +kernel
  have hsl : zsl zLc - 0 ≤ 7302249 := by decide +kernel
  exact hw.2 p e room_1 s m #[Value.ref b] below meth c (lw_Z below #[Value.ref b] s) (fun q : Nat => s.heap.size ≤ q) 0 0 FX (fun _ => 0) s.heap [] mls (Nat.zero_le _) (Nat.zero_le _) hcl hsl hP00 hD00 va_S.rf (zLs_entry hl9) (fun ad' H' locs' mls' pc' hag hP' hD' hS' hdg hrt => va_forget (fun q hq => hS'.2.2 q hq) (W.widen (k := 600000) (n := 7302249) hcl hsl (lw_ret hx hb hr hlocks hdg)))
