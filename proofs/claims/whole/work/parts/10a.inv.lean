/-! ===== SOUNDNESS: what the pure machine does, the machine does ===== -/
def zks : zK → Nat
  | .inl ci => (zft ci).length
  | .inr q => q.2
def zsl (L : List zK) : Nat := (L.map zks).sum
theorem zsl_app (L M : List zK) : zsl (L ++ M) = zsl L + zsl M := by simp [zsl]
theorem zsl_pre {L M : List zK} (h : L <+: M) : zsl L ≤ zsl M := by
  obtain ⟨N, rfl⟩ := h
  rw [zsl_app]
  omega
def zNl : List Cond := tables_1.filter (fun w => match w with
  | .methodLinkNest .. => true
  | .fieldLinkNest .. => true
  | _ => false)
def zNt (U : State) : Prop := (∀ w ∈ zNl, va_Nw w U) ∧ va_AO RX1 U ∧ va_AOA .int U
def zXt (xad xl : Nat → Nat) (X : Nat → Nat → Int32) (A : Nat → Prop) (U : State) : Prop := (∀ j, j < 4 → va_T .int (xad j) (xl j) (fun i => .int (X j i)) A U U.heap) ∧ (∀ j, 1 ≤ j → j < 4 → va_Z (zsn j).1 (zsn j).2 "[I" (.ref (xad j)) A U U.heap) ∧ (∀ j, 1 ≤ j → j < 4 → xl j = 6)
def zBd (D : va_G) (q4 : Nat → ClassId) (xad xl : Nat → Nat) (X : Nat → Nat → Int32) (ad : Nat → Nat) (σ : zS) (sz : Nat) (U : State) : Prop := U.heap.size = sz ∧ va_P D vwCl (zW q4 ad σ) U.heap ∧ va_K D vwCl (zty q4) U ∧ va_D (fun _ => True) (zW q4 ad σ) ∧ zXt xad xl X (va_A (zW q4 ad σ) sz) U ∧ zNt U
def zPc (D : va_G) (q4 : Nat → ClassId) (xad xl : Nat → Nat) (X : Nat → Nat → Int32) (ad : Nat → Nat) (avs : List zV) (σ : zS) (sz : Nat) : Array Value → State → Prop := va_Pc (avs.map (zt ad xad)) (zBd D q4 xad xl X ad σ sz)
def zQc (D : va_G) (q4 : Nat → ClassId) (xad : Nat → Nat) (ad : Nat → Nat) (σ : zS) (r : Option zV) (σ' : zS) (sz : Nat) : Array Value → State → Outcome → State → Prop := fun _ st oc t => (∃ ad' : Nat → Nat, (∀ k, k < σ.1.length → ad' k = ad k) ∧ oc = .returned (r.map (zt ad' xad)) ∧ va_P D vwCl (zW q4 ad' σ') t.heap ∧ va_D (va_A (zW q4 ad σ) sz) (zW q4 ad' σ')) ∧ va_F (va_A (zW q4 ad σ) sz) st t
theorem zNl_on : ∀ w ∈ zNl, w.onTables = true := by decide +kernel
theorem zNl_in : ∀ w ∈ zNl, w ∈ lw_tbl := fun w h => tbs (List.mem_filter.mp h).1
theorem va_AOA_moved {u U : State} (hvm : u.vm.Alike U.vm) (h : va_AOA .int u) : va_AOA .int U := by
  have h0 : (Cond.arrayOver (.array .int)).before #[] u = true := h
  show (Cond.arrayOver (.array .int)).before #[] U = true
  unfold Cond.before Cond.holds at h0 ⊢
  simp only [Cond.value] at h0 ⊢
  cases hc : u.vm.findClass (FieldType.array .int).toString with
  | none => rw [hc] at h0; cases h0
  | some comp =>
    rw [hc, Option.bind_some] at h0
    have f1 : U.vm.findClass (FieldType.array .int).toString = some comp := by rw [hvm.findClass]; exact hc
    rw [f1, Option.bind_some]
    have hi : (U.vm.classes.findIdx? fun (x : Class) => match x.kind with | .array component _ => component == comp | _ => false) = (u.vm.classes.findIdx? fun (x : Class) => match x.kind with | .array component _ => component == comp | _ => false) := by
      have hb9 : U.vm.bare = u.vm.bare := by first | exact hvm.bare_eq | exact hvm.bare_eq.symm
      have e1 := va_idx_bare U.vm comp
      have e2 := va_idx_bare u.vm comp
      rw [hb9] at e1
      exact e1.symm.trans e2
    cases hf : (u.vm.classes.findIdx? fun (x : Class) => match x.kind with | .array component _ => component == comp | _ => false) with
    | none =>
      refine absurd h0 ?_
      refine fun h0 => ?_
      have := (congrArg (fun o : Option Nat => (o.bind (fun c => (u.vm.classes[c]?).map fun (k : Class) => match k.kind with | .array _ ty => decide (ty = FieldType.array .int) && decide (u.vm.findClass ("[" ++ (FieldType.array .int).toString) = some c) | _ => false) == some true)) hf).symm.trans h0
      cases this
    | some c =>
      rw [hf] at hi
      have h1 := (congrArg (fun o : Option Nat => (o.bind (fun c => (u.vm.classes[c]?).map fun (k : Class) => match k.kind with | .array _ ty => decide (ty = FieldType.array .int) && decide (u.vm.findClass ("[" ++ (FieldType.array .int).toString) = some c) | _ => false) == some true)) hf).symm.trans h0
      refine (congrArg (fun o : Option Nat => (o.bind (fun c => (U.vm.classes[c]?).map fun (k : Class) => match k.kind with | .array _ ty => decide (ty = FieldType.array .int) && decide (U.vm.findClass ("[" ++ (FieldType.array .int).toString) = some c) | _ => false) == some true)) hi).trans ?_
      dsimp only [Option.bind_some] at h1 ⊢
      cases hk : u.vm.classes[c]? with
      | none => rw [hk] at h1; cases h1
      | some k =>
        obtain ⟨k', hk', he⟩ := hvm.2.2 _ _ hk
        rw [hk] at h1
        rw [hk', hvm.findClass]
        have e : k'.kind = k.kind := by rw [he]
        simp only [Option.map_some, e] at h1 ⊢
        exact h1
theorem zNt_warm {s U : State} (hW : s.WarmedH U.vm) (h : zNt s) : zNt U := by
  refine ⟨fun w hw => ?_, va_AO.moved hW.alike h.2.1, va_AOA_moved hW.alike h.2.2⟩
  have hz := h.1 w hw
  have h2 := (List.mem_filter.mp hw).2
  cases w <;> first | exact va_Nw.warmM hW hz | exact va_Nw.warmF hW hz | (cases h2; done)
theorem zXt_at {xad xl : Nat → Nat} {X : Nat → Nat → Int32} {A B : Nat → Prop} {s U : State} {locs : List Loc} (hvm : s.vm.Alike U.vm) (hS : va_S A s.heap U.heap locs) (hAB : ∀ q, B q → A q) (h : zXt xad xl X A s) : zXt xad xl X B U :=
  ⟨fun j hj => ((va_T.kept ((h.1 j hj).moved hvm) hS.2.1).narrow hAB), fun j h1 h2 => ((va_Z.kept ((h.2.1 j h1 h2).moved hvm) hS.2.1).narrow hAB), h.2.2⟩
theorem zPc_blind {D : va_G} {q4 : Nat → ClassId} {xad xl : Nat → Nat} {X : Nat → Nat → Int32} {ad : Nat → Nat} {avs : List zV} {σ : zS} {sz : Nat} : FrameBlind (zPc D q4 xad xl X ad avs σ sz) := by
  intro a U g mk h
  obtain ⟨h1, h2, h3, h4, h5, h6, h7⟩ := h
  have hr : U.vm.Alike (U.calling g mk a).vm := Vm.Alike.refl U.vm
  exact ⟨h1, h2, h3, va_K.moved hr h4, h5, ⟨fun j hj => (h6.1 j hj).moved hr, fun j a1 a2 => (h6.2.1 j a1 a2).moved hr, h6.2.2⟩, ⟨fun w hw => va_Nw.same (zNl_on w hw) (rfl : U.vm = (U.calling g mk a).vm) (h7.1 w hw), va_AO.moved hr h7.2.1, va_AOA_moved hr h7.2.2⟩⟩
-- what an answer's end is
def zrd : Option zV → Instr
  | none => .return_
  | some (.inl _) => .ireturn
  | some (.inr (.inl _)) => .lreturn
  | some (.inr (.inr _)) => .areturn
def zroom (d : Nat) (σ σ' : zS) : Room := { frames := d + 2, cells := σ'.1.length - σ.1.length, slots := zsl σ'.1 - zsl σ.1, locals := 100 * (d + 2) }
/-- the words of a contract: the method's code, and the tables -/
def zws (q : zM) : List Cond := .code q.1 q.2.1 q.2.2.1 q.2.2.2.1 :: lw_tbl.filter goodWord
def zSND (l : Launch) (D : va_G) (q4 : Nat → ClassId) (xad xl : Nat → Nat) (X : Nat → Nat → Int32) (d : Nat) : Prop := ∀ (y : Nat) (q : zM), zmi zmt y = some q → ∀ (avs : List zV) (σ : zS) (r : Option zV) (σ' : zS), zcall X d y avs σ = some (r, σ') → zInv σ → (∀ v ∈ avs, zok σ.1 xl v) →
  (σ.1 <+: σ'.1 ∧ zInv σ' ∧ (∀ v, r = some v → zok σ'.1 xl v)) ∧ ∀ (ad : Nat → Nat) (sz : Nat), Met l q.1 (zws q) (zroom d σ σ') (zPc D q4 xad xl X ad avs σ sz) (zQc D q4 xad ad σ r σ' sz) (σ'.1.length - σ.1.length) (zsl σ'.1 - zsl σ.1) (va_A (zW q4 ad σ) sz)
-- reading an evaluation backwards
theorem pI_inv {st : List zV} {f : Int32 → List zV → Option zR} {o : zR} (h : pI st f = some o) : ∃ y r, st = .inl y :: r ∧ f y r = some o := by
  rcases st with _ | ⟨y | y | y, r⟩
  · cases h
  · exact ⟨y, r, rfl, h⟩
  · cases h
  · cases h
theorem pJ_inv {st : List zV} {f : Int64 → List zV → Option zR} {o : zR} (h : pJ st f = some o) : ∃ y r, st = .inr (.inl y) :: r ∧ f y r = some o := by
  rcases st with _ | ⟨y | y | y, r⟩
  · cases h
  · cases h
  · exact ⟨y, r, rfl, h⟩
  · cases h
theorem pQ_inv {st : List zV} {f : Option zP → List zV → Option zR} {o : zR} (h : pQ st f = some o) : ∃ y r, st = .inr (.inr y) :: r ∧ f y r = some o := by
  rcases st with _ | ⟨y | y | y, r⟩
  · cases h
  · cases h
  · cases h
  · exact ⟨y, r, rfl, h⟩
theorem pP_inv {st : List zV} {f : zK → Nat → List zV → Option zR} {o : zR} (h : pP st f = some o) : ∃ κ k r, st = .inr (.inr (some (κ, k))) :: r ∧ f κ k r = some o := by
  rcases st with _ | ⟨y | y | _ | ⟨κ, k⟩, r⟩
  · cases h
  · cases h
  · cases h
  · cases h
  · exact ⟨κ, k, r, rfl, h⟩
theorem lI_inv {v : Option zV} {f : Int32 → Option zR} {o : zR} (h : lI v f = some o) : ∃ y, v = some (.inl y) ∧ f y = some o := by
  rcases v with _ | y | y | y
  · cases h
  · exact ⟨y, rfl, h⟩
  · cases h
  · cases h
theorem lJ_inv {v : Option zV} {f : Int64 → Option zR} {o : zR} (h : lJ v f = some o) : ∃ y, v = some (.inr (.inl y)) ∧ f y = some o := by
  rcases v with _ | y | y | y
  · cases h
  · cases h
  · exact ⟨y, rfl, h⟩
  · cases h
theorem lQ_inv {v : Option zV} {f : Option zP → Option zR} {o : zR} (h : lQ v f = some o) : ∃ y, v = some (.inr (.inr y)) ∧ f y = some o := by
  rcases v with _ | y | y | y
  · cases h
  · cases h
  · cases h
  · exact ⟨y, rfl, h⟩
theorem kO_inv {κ : zK} {ci : Nat} {f : Option zR} {o : zR} (h : kO κ ci f = some o) : κ = .inl ci ∧ f = some o := by
  rcases κ with c | q
  · by_cases hc : c = ci
    · subst hc
      refine ⟨rfl, ?_⟩
      have h2 : (if c = c then f else none) = some o := h
      rwa [if_pos rfl] at h2
    · have h2 : (if c = ci then f else none) = some o := h
      rw [if_neg hc] at h2
      cases h2
  · cases h
theorem kI_inv {κ : zK} {f g : Nat → Option zR} {o : zR} (h : kI κ f g = some o) : (∃ n, κ = .inr (.int, n) ∧ f n = some o) ∨ (∃ n, κ = .inr (.float, n) ∧ g n = some o) := by
  rcases κ with c | ⟨t, n⟩
  · cases h
  · cases t <;> first | (cases h; done) | exact Or.inl ⟨n, rfl, h⟩ | exact Or.inr ⟨n, rfl, h⟩
theorem kZ_inv {κ : zK} {f : Nat → Option zR} {o : zR} (h : kZ κ f = some o) : ∃ n, κ = .inr (.boolean, n) ∧ f n = some o := by
  rcases κ with c | ⟨t, n⟩
  · cases h
  · cases t <;> first | (cases h; done) | exact ⟨n, rfl, h⟩
theorem kA_inv {κ : zK} {f : FieldType → Nat → Option zR} {o : zR} (h : kA κ f = some o) : (∃ c n, κ = .inr (.object c, n) ∧ f (.object c) n = some o) ∨ (∃ c n, κ = .inr (.array c, n) ∧ f (.array c) n = some o) := by
  rcases κ with c | ⟨t, n⟩
  · cases h
  · cases t <;> first | (cases h; done) | exact Or.inl ⟨_, n, rfl, h⟩ | exact Or.inr ⟨_, n, rfl, h⟩
theorem kLen_inv {κ : zK} {f : Nat → Option zR} {o : zR} (h : kLen κ f = some o) : ∃ t n, κ = .inr (t, n) ∧ f n = some o := by
  rcases κ with c | ⟨t, n⟩
  · cases h
  · exact ⟨t, n, rfl, h⟩
theorem cV_inv {w : Option zR} {f : zS → Option zR} {o : zR} (h : cV w f = some o) : ∃ σ, w = some (none, σ) ∧ f σ = some o := by
  rcases w with _ | ⟨_ | v, σ⟩
  · cases h
  · exact ⟨σ, rfl, h⟩
  · cases h
theorem cI_inv {w : Option zR} {f : Int32 → zS → Option zR} {o : zR} (h : cI w f = some o) : ∃ y σ, w = some (some (.inl y), σ) ∧ f y σ = some o := by
  rcases w with _ | ⟨_ | y | y | y, σ⟩
  · cases h
  · cases h
  · exact ⟨y, σ, rfl, h⟩
  · cases h
  · cases h
theorem cJ_inv {w : Option zR} {f : Int64 → zS → Option zR} {o : zR} (h : cJ w f = some o) : ∃ y σ, w = some (some (.inr (.inl y)), σ) ∧ f y σ = some o := by
  rcases w with _ | ⟨_ | y | y | y, σ⟩
  · cases h
  · cases h
  · cases h
  · exact ⟨y, σ, rfl, h⟩
  · cases h
theorem cQ_inv {w : Option zR} {f : Option zP → zS → Option zR} {o : zR} (h : cQ w f = some o) : ∃ y σ, w = some (some (.inr (.inr y)), σ) ∧ f y σ = some o := by
  rcases w with _ | ⟨_ | y | y | y, σ⟩
  · cases h
  · cases h
  · cases h
  · cases h
  · exact ⟨y, σ, rfl, h⟩
theorem zpop_inv : ∀ {n : Nat} {st acc : List zV} {f : List zV → List zV → Option zR} {o : zR}, zpop n st acc f = some o → ∃ a r, st = a ++ r ∧ a.length = n ∧ f (a.reverse ++ acc) r = some o
  | 0, st, acc, f, o, h => ⟨[], st, rfl, rfl, h⟩
  | n + 1, [], acc, f, o, h => by cases h
  | n + 1, v :: st, acc, f, o, h => by
    obtain ⟨a, r, h1, h2, h3⟩ := zpop_inv (n := n) (st := st) (acc := v :: acc) h
    refine ⟨v :: a, r, by rw [h1]; rfl, by rw [List.length_cons, h2], ?_⟩
    rw [List.reverse_cons, List.append_assoc]
    exact h3
theorem zb_inv {b : Bool} {f : Option zR} {o : zR} (h : (match b with | true => f | false => none) = some o) : b = true ∧ f = some o := by
  cases b
  · cases h
  · exact ⟨rfl, h⟩
theorem zin_vp {i : Int32} {n : Nat} (h : zin i n = true) : vp_in i n := by
  unfold zin at h
  rw [Bool.and_eq_true, decide_eq_true_eq, decide_eq_true_eq] at h
  exact vp_in_iff.mpr h
theorem okc {L : List zK} {xl : Nat → Nat} {v : zV} {r : List zV} (h1 : zok L xl v) (h2 : ∀ w ∈ r, zok L xl w) : ∀ w ∈ v :: r, zok L xl w := fun w h => by
  rcases List.mem_cons.mp h with rfl | h
  · exact h1
  · exact h2 w h
theorem okh {L : List zK} {xl : Nat → Nat} {v : zV} {r : List zV} (h : ∀ w ∈ v :: r, zok L xl w) : zok L xl v := h v List.mem_cons_self
theorem okt {L : List zK} {xl : Nat → Nat} {v : zV} {r : List zV} (h : ∀ w ∈ v :: r, zok L xl w) : ∀ w ∈ r, zok L xl w := fun w hw => h w (List.mem_cons_of_mem _ hw)
