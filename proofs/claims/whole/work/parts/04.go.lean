/-! ===== the pure machine's runs, without a count of steps ===== -/
abbrev zk : Type := Nat → zL → List zV → zS → Option zR
/-- one step either ends, whatever comes behind it, or goes on at one place -/
def zSh (F : zk → Option zR) : Prop := (∃ o, ∀ k, F k = o) ∨ (∃ (pc : Nat) (ls : zL) (st : List zV) (σ : zS), ∀ k, F k = k pc ls st σ)
theorem zSh_c (o : Option zR) : zSh (fun _ => o) := Or.inl ⟨o, fun _ => rfl⟩
theorem zSh_k (pc : Nat) (ls : zL) (st : List zV) (σ : zS) : zSh (fun k => k pc ls st σ) := Or.inr ⟨pc, ls, st, σ, fun _ => rfl⟩
theorem zSh_i (c : Prop) [Decidable c] {F G : zk → Option zR} (h1 : zSh F) (h2 : zSh G) : zSh (fun k => if c then F k else G k) := by
  by_cases h : c
  · simp only [if_pos h]; exact h1
  · simp only [if_neg h]; exact h2
theorem zSh_pI (st : List zV) {f : zk → Int32 → List zV → Option zR} (h : ∀ y r, zSh (fun k => f k y r)) : zSh (fun k => pI st (f k)) := by
  rcases st with _ | ⟨v, r⟩
  · exact zSh_c none
  · rcases v with y | v
    · exact h y r
    · exact zSh_c none
theorem zSh_pJ (st : List zV) {f : zk → Int64 → List zV → Option zR} (h : ∀ y r, zSh (fun k => f k y r)) : zSh (fun k => pJ st (f k)) := by
  rcases st with _ | ⟨v, r⟩
  · exact zSh_c none
  · rcases v with y | y | y
    · exact zSh_c none
    · exact h y r
    · exact zSh_c none
theorem zSh_pQ (st : List zV) {f : zk → Option zP → List zV → Option zR} (h : ∀ y r, zSh (fun k => f k y r)) : zSh (fun k => pQ st (f k)) := by
  rcases st with _ | ⟨v, r⟩
  · exact zSh_c none
  · rcases v with y | y | y
    · exact zSh_c none
    · exact zSh_c none
    · exact h y r
theorem zSh_pP (st : List zV) {f : zk → zK → Nat → List zV → Option zR} (h : ∀ y o r, zSh (fun k => f k y o r)) : zSh (fun k => pP st (f k)) := by
  rcases st with _ | ⟨v, r⟩
  · exact zSh_c none
  · rcases v with y | y | y | y
    · exact zSh_c none
    · exact zSh_c none
    · exact zSh_c none
    · exact h y.1 y.2 r
theorem zSh_lI (v : Option zV) {f : zk → Int32 → Option zR} (h : ∀ y, zSh (fun k => f k y)) : zSh (fun k => lI v (f k)) := by
  rcases v with _ | y | y | y
  · exact zSh_c none
  · exact h y
  · exact zSh_c none
  · exact zSh_c none
theorem zSh_lJ (v : Option zV) {f : zk → Int64 → Option zR} (h : ∀ y, zSh (fun k => f k y)) : zSh (fun k => lJ v (f k)) := by
  rcases v with _ | y | y | y
  · exact zSh_c none
  · exact zSh_c none
  · exact h y
  · exact zSh_c none
theorem zSh_lQ (v : Option zV) {f : zk → Option zP → Option zR} (h : ∀ y, zSh (fun k => f k y)) : zSh (fun k => lQ v (f k)) := by
  rcases v with _ | y | y | y
  · exact zSh_c none
  · exact zSh_c none
  · exact zSh_c none
  · exact h y
theorem zSh_b (b : Bool) {F G : zk → Option zR} (h1 : zSh F) (h2 : zSh G) : zSh (fun k => match b with | true => F k | false => G k) := by
  cases b
  · exact h2
  · exact h1
theorem zSh_kO (κ : zK) (ci : Nat) {f : zk → Option zR} (h : zSh f) : zSh (fun k => kO κ ci (f k)) := by
  rcases κ with c | q
  · exact zSh_i (c = ci) h (zSh_c none)
  · exact zSh_c none
theorem zSh_kI (κ : zK) {f g : zk → Nat → Option zR} (h : ∀ n, zSh (fun k => f k n)) (h2 : ∀ n, zSh (fun k => g k n)) : zSh (fun k => kI κ (f k) (g k)) := by
  rcases κ with c | ⟨t, n⟩
  · exact zSh_c none
  · cases t <;> first | exact h n | exact h2 n | exact zSh_c none
theorem zSh_kZ (κ : zK) {f : zk → Nat → Option zR} (h : ∀ n, zSh (fun k => f k n)) : zSh (fun k => kZ κ (f k)) := by
  rcases κ with c | ⟨t, n⟩
  · exact zSh_c none
  · cases t <;> first | exact h n | exact zSh_c none
theorem zSh_kA (κ : zK) {f : zk → FieldType → Nat → Option zR} (h : ∀ t n, zSh (fun k => f k t n)) : zSh (fun k => kA κ (f k)) := by
  rcases κ with c | ⟨t, n⟩
  · exact zSh_c none
  · cases t <;> first | exact h _ n | exact zSh_c none
theorem zSh_kLen (κ : zK) {f : zk → Nat → Option zR} (h : ∀ n, zSh (fun k => f k n)) : zSh (fun k => kLen κ (f k)) := by
  rcases κ with c | ⟨t, n⟩
  · exact zSh_c none
  · exact h n
theorem zSh_cV (o : Option zR) {f : zk → zS → Option zR} (h : ∀ σ, zSh (fun k => f k σ)) : zSh (fun k => cV o (f k)) := by
  rcases o with _ | ⟨_ | v, σ⟩
  · exact zSh_c none
  · exact h σ
  · exact zSh_c none
theorem zSh_cI (o : Option zR) {f : zk → Int32 → zS → Option zR} (h : ∀ y σ, zSh (fun k => f k y σ)) : zSh (fun k => cI o (f k)) := by
  rcases o with _ | ⟨_ | y | y | y, σ⟩
  · exact zSh_c none
  · exact zSh_c none
  · exact h y σ
  · exact zSh_c none
  · exact zSh_c none
theorem zSh_cJ (o : Option zR) {f : zk → Int64 → zS → Option zR} (h : ∀ y σ, zSh (fun k => f k y σ)) : zSh (fun k => cJ o (f k)) := by
  rcases o with _ | ⟨_ | y | y | y, σ⟩
  · exact zSh_c none
  · exact zSh_c none
  · exact zSh_c none
  · exact h y σ
  · exact zSh_c none
theorem zSh_cQ (o : Option zR) {f : zk → Option zP → zS → Option zR} (h : ∀ y σ, zSh (fun k => f k y σ)) : zSh (fun k => cQ o (f k)) := by
  rcases o with _ | ⟨_ | y | y | y, σ⟩
  · exact zSh_c none
  · exact zSh_c none
  · exact zSh_c none
  · exact zSh_c none
  · exact h y σ
theorem zSh_pop {f : zk → List zV → List zV → Option zR} (h : ∀ a r, zSh (fun k => f k a r)) : ∀ (n : Nat) (st acc : List zV), zSh (fun k => zpop n st acc (f k))
  | 0, st, acc => h acc st
  | n + 1, v :: r, acc => zSh_pop h n r (v :: acc)
  | n + 1, [], acc => zSh_c none
theorem zSh_tsw (y : Int32) (d : Nat) {f : zk → Nat → Option zR} (h : ∀ t, zSh (fun k => f k t)) : ∀ (ts : List Nat) (lo : Int32), zSh (fun k => ztsw (f k) y d lo ts)
  | [], lo => h d
  | t :: ts, lo => zSh_i (y = lo) (h t) (zSh_tsw y d h ts (lo + 1))
theorem zSh_lsw (y : Int32) (d : Nat) {f : zk → Nat → Option zR} (h : ∀ t, zSh (fun k => f k t)) : ∀ (ts : List (Int32 × Nat)), zSh (fun k => zlsw (f k) y d ts)
  | [] => h d
  | (lo, t) :: ts => zSh_i (y = lo) (h t) (zSh_lsw y d h ts)
theorem zSh_dup (st : List zV) {f : zk → List zV → Option zR} (h : ∀ r, zSh (fun k => f k r)) : zSh (fun k => zdup st (f k)) := by
  rcases st with _ | ⟨y | y | y, r⟩
  · exact zSh_c none
  · exact h _
  · exact zSh_c none
  · exact h _
theorem zSh_dup2 (st : List zV) {f : zk → List zV → Option zR} (h : ∀ r, zSh (fun k => f k r)) : zSh (fun k => zdup2 st (f k)) := by
  rcases st with _ | ⟨y | y | y, _ | ⟨z | z | z, r⟩⟩
  all_goals first | exact h _ | exact zSh_c none
theorem zSh_inv (C : Nat → List zV → zS → Option zR) (pc : Nat) (ls : zL) (st : List zV) (σ : zS) (y b : Nat) (ck : Bool) : zSh (fun k => zinv C k pc ls st σ y b ck) := by
  unfold zinv
  refine zSh_pop (fun a r => ?_) _ _ _
  generalize (Nat.ble (zcat r) 8 && zrc ck (b / 64) a) = q
  cases q
  · exact zSh_c none
  · rcases b % 4 with _ | _ | _ | n
    · exact zSh_cV _ (fun σ => zSh_k _ _ _ _)
    · exact zSh_cI _ (fun y σ => zSh_k _ _ _ _)
    · exact zSh_cJ _ (fun y σ => zSh_k _ _ _ _)
    · exact zSh_cQ _ (fun y σ => zSh_k _ _ _ _)
theorem zSh_copy (pc : Nat) (ls : zL) (st : List zV) (σ : zS) : zSh (fun k => zcopy k pc ls st σ) := by
  unfold zcopy
  refine zSh_pI _ (fun n r => zSh_pI _ (fun dp r => zSh_pP _ (fun κ1 k1 r => zSh_pI _ (fun sp r => zSh_pP _ (fun κ0 k0 r => ?_)))))
  generalize Nat.ble (zcat r) 8 = q
  cases q
  · exact zSh_c none
  · refine zSh_kI _ (fun n0 => zSh_kI _ (fun n1 => ?_) (fun _ => zSh_c none)) (fun _ => zSh_c none)
    generalize (decide (0 ≤ n.toInt) && (decide (0 ≤ sp.toInt) && (decide (0 ≤ dp.toInt) && (decide (sp.toInt + n.toInt ≤ (n0 : Int)) && decide (dp.toInt + n.toInt ≤ (n1 : Int)))))) = q
    cases q
    · exact zSh_c none
    · exact zSh_k _ _ _ _
theorem zSh_getf (pc : Nat) (ls : zL) (st : List zV) (σ : zS) (a b : Nat) : zSh (fun k => zgetf k pc ls st σ a b) := by
  unfold zgetf
  refine zSh_pP _ (fun κ o r => zSh_kO _ _ ?_)
  rcases zfl a b with _ | _ | _ | q
  · exact zSh_c none
  · exact zSh_k _ _ _ _
  · exact zSh_k _ _ _ _
  · show zSh (fun k => match σ.2.1 o b with | true => k (pc + 3) ls (.inr (.inr (some (q.1, o + q.2))) :: r) σ | false => none)
    generalize σ.2.1 o b = z
    cases z
    · exact zSh_c none
    · exact zSh_k _ _ _ _
theorem zSh_putf (pc : Nat) (ls : zL) (st : List zV) (σ : zS) (a b : Nat) : zSh (fun k => zputf k pc ls st σ a b) := by
  unfold zputf
  rcases zfl a b with _ | _ | _ | q
  · exact zSh_c none
  · exact zSh_pI _ (fun y r => zSh_pP _ (fun κ o r => zSh_kO _ _ (zSh_k _ _ _ _)))
  · exact zSh_pJ _ (fun y r => zSh_pP _ (fun κ o r => zSh_kO _ _ (zSh_k _ _ _ _)))
  · exact zSh_pP _ (fun κ1 o1 r => zSh_pP _ (fun κ o r => zSh_kO _ _ (zSh_i _ (zSh_k _ _ _ _) (zSh_c none))))
set_option maxHeartbeats 4000000 in
theorem zSh_ins (X : Nat → Nat → Int32) (C : Nat → List zV → zS → Option zR) (ret : Option FieldType) (pc : Nat) (ls : zL) (st : List zV) (σ : zS) (a b : Nat) (v : Int32) (w : Int64) (ins : Instr) : zSh (fun k => zins X C ret k pc ls st σ a b v w ins) := by
  cases ins
  case iload i => exact zSh_lI _ (fun y => zSh_k _ _ _ _)
  case iload_n i => exact zSh_lI _ (fun y => zSh_k _ _ _ _)
  case lload i => exact zSh_lJ _ (fun y => zSh_k _ _ _ _)
  case lload_n i => exact zSh_lJ _ (fun y => zSh_k _ _ _ _)
  case aload i => exact zSh_lQ _ (fun y => zSh_k _ _ _ _)
  case aload_n i => exact zSh_lQ _ (fun y => zSh_k _ _ _ _)
  case iinc i j => exact zSh_lI _ (fun y => zSh_k _ _ _ _)
  case idiv => exact zSh_pI _ (fun y r => zSh_pI _ (fun z r => zSh_i _ (zSh_c none) (zSh_k _ _ _ _)))
  case irem => exact zSh_pI _ (fun y r => zSh_pI _ (fun z r => zSh_i _ (zSh_c none) (zSh_k _ _ _ _)))
  case ldiv => exact zSh_pJ _ (fun y r => zSh_pJ _ (fun z r => zSh_i _ (zSh_c none) (zSh_k _ _ _ _)))
  case lrem => exact zSh_pJ _ (fun y r => zSh_pJ _ (fun z r => zSh_i _ (zSh_c none) (zSh_k _ _ _ _)))
  case dup => exact zSh_dup (f := fun k r => k (pc + 1) ls r σ) st (fun r => zSh_k _ _ _ _)
  case dup2 => exact zSh_dup2 (f := fun k r => k (pc + 1) ls r σ) st (fun r => zSh_k _ _ _ _)
  case ifCond c o => cases c <;> exact zSh_pI _ (fun y r => zSh_i _ (zSh_k _ _ _ _) (zSh_k _ _ _ _))
  case if_icmp c o => cases c <;> exact zSh_pI _ (fun y r => zSh_pI _ (fun z r => zSh_i _ (zSh_k _ _ _ _) (zSh_k _ _ _ _)))
  case ifnull o => exact zSh_pQ _ (fun y r => by cases y <;> exact zSh_k _ _ _ _)
  case ifnonnull o => exact zSh_pQ _ (fun y r => by cases y <;> exact zSh_k _ _ _ _)
  case tableswitch d lo hi offs => exact zSh_pI _ (fun y r => zSh_tsw _ _ (fun t => zSh_k _ _ _ _) _ _)
  case lookupswitch d ps => exact zSh_pI _ (fun y r => zSh_lsw _ _ (fun t => zSh_k _ _ _ _) _)
  case getfield i => exact zSh_getf _ _ _ _ _ _
  case putfield i => exact zSh_putf _ _ _ _ _ _
  case iaload => exact zSh_pI _ (fun i r => zSh_pP _ (fun κ o r => zSh_kI _ (fun n => zSh_b (zin i n) (zSh_k _ _ _ _) (zSh_c none)) (fun n => zSh_b (zin i n) (zSh_k _ _ _ _) (zSh_c none))))
  case iastore => exact zSh_pI _ (fun y r => zSh_pI _ (fun i r => zSh_pP _ (fun κ o r => zSh_kI _ (fun n => zSh_b (zin i n) (zSh_k _ _ _ _) (zSh_c none)) (fun n => zSh_c none))))
  case baload => exact zSh_pI _ (fun i r => zSh_pP _ (fun κ o r => zSh_kZ _ (fun n => zSh_b (zin i n) (zSh_k _ _ _ _) (zSh_c none))))
  case bastore => exact zSh_pI _ (fun y r => zSh_pI _ (fun i r => zSh_pP _ (fun κ o r => zSh_kZ _ (fun n => zSh_b (zin i n) (zSh_k _ _ _ _) (zSh_c none)))))
  case aaload => exact zSh_pI _ (fun i r => zSh_pP _ (fun κ o r => zSh_kA _ (fun t n => by
    show zSh (fun k => match zin i n with | true => (match σ.2.1 o i.toNatClampNeg with | true => k (pc + 1) ls (.inr (.inr (some (zel t o i.toNatClampNeg))) :: r) σ | false => none) | false => none)
    generalize zin i n = q
    generalize σ.2.1 o i.toNatClampNeg = q2
    cases q <;> cases q2 <;> first | exact zSh_k _ _ _ _ | exact zSh_c none)))
  case aastore =>
    show zSh (fun k => pP st fun κ1 o1 r => pI r fun i r => pP r fun κ o r => kA κ (fun t n => match zin i n, t with
        | true, .object _ => if (κ1, o1) = zel t o i.toNatClampNeg then k (pc + 1) ls r (σ.1, zup σ.2.1 o i.toNatClampNeg true, σ.2.2) else none
        | _, _ => none))
    refine zSh_pP _ (fun κ1 o1 r => zSh_pI _ (fun i r => zSh_pP _ (fun κ o r => zSh_kA _ (fun t n => ?_))))
    generalize zin i n = q
    cases q <;> cases t <;> first | exact zSh_i _ (zSh_k _ _ _ _) (zSh_c none) | exact zSh_c none
  case arraylength => exact zSh_pP (f := fun k κ _ r => kLen κ fun n => k (pc + 1) ls (.inl (Int32.ofNat n) :: r) σ) st (fun κ o r => zSh_kLen _ (fun n => zSh_k _ _ _ _))
  case newarray t => cases t <;> first | exact zSh_c none | exact zSh_pI _ (fun n r => zSh_b (zin n 2000) (zSh_k _ _ _ _) (zSh_c none))
  case anewarray t => exact zSh_pI _ (fun n r => zSh_b (zin n 2000) (zSh_k _ _ _ _) (zSh_c none))
  case multianewarray t q => exact zSh_pI _ (fun m r => zSh_pI _ (fun n r => zSh_b (zin n 2000 && decide (m = 40)) (zSh_k _ _ _ _) (zSh_c none)))
  case invokevirtual i => cases a with
    | zero => exact zSh_c none
    | succ y => exact zSh_inv _ _ _ _ _ _ _ _
  case invokestatic i => cases a with
    | zero => exact zSh_copy _ _ _ _
    | succ y => exact zSh_inv _ _ _ _ _ _ _ _
  case invokespecial i => cases a with
    | zero => exact zSh_pP (f := fun k _ _ r => match Nat.ble (zcat r) 8 with | true => k (pc + 3) ls r σ | false => none) st (fun κ o r => zSh_b (Nat.ble (zcat r) 8) (zSh_k _ _ _ _) (zSh_c none))
    | succ y => exact zSh_inv _ _ _ _ _ _ _ _
  case istore i => exact zSh_pI _ (fun y r => zSh_k _ _ _ _)
  case istore_n i => exact zSh_pI _ (fun y r => zSh_k _ _ _ _)
  case lstore i => exact zSh_pJ _ (fun y r => zSh_k _ _ _ _)
  case lstore_n i => exact zSh_pJ _ (fun y r => zSh_k _ _ _ _)
  case astore i => exact zSh_pQ _ (fun y r => zSh_k _ _ _ _)
  case astore_n i => exact zSh_pQ _ (fun y r => zSh_k _ _ _ _)
  case iadd => exact zSh_pI _ (fun y r => zSh_pI _ (fun z r => zSh_k _ _ _ _))
  case isub => exact zSh_pI _ (fun y r => zSh_pI _ (fun z r => zSh_k _ _ _ _))
  case imul => exact zSh_pI _ (fun y r => zSh_pI _ (fun z r => zSh_k _ _ _ _))
  case iand => exact zSh_pI _ (fun y r => zSh_pI _ (fun z r => zSh_k _ _ _ _))
  case ior => exact zSh_pI _ (fun y r => zSh_pI _ (fun z r => zSh_k _ _ _ _))
  case ixor => exact zSh_pI _ (fun y r => zSh_pI _ (fun z r => zSh_k _ _ _ _))
  case ishl => exact zSh_pI _ (fun y r => zSh_pI _ (fun z r => zSh_k _ _ _ _))
  case ishr => exact zSh_pI _ (fun y r => zSh_pI _ (fun z r => zSh_k _ _ _ _))
  case iushr => exact zSh_pI _ (fun y r => zSh_pI _ (fun z r => zSh_k _ _ _ _))
  case ineg => exact zSh_pI _ (fun y r => zSh_k _ _ _ _)
  case ladd => exact zSh_pJ _ (fun y r => zSh_pJ _ (fun z r => zSh_k _ _ _ _))
  case lsub => exact zSh_pJ _ (fun y r => zSh_pJ _ (fun z r => zSh_k _ _ _ _))
  case lmul => exact zSh_pJ _ (fun y r => zSh_pJ _ (fun z r => zSh_k _ _ _ _))
  case lcmp => exact zSh_pJ _ (fun y r => zSh_pJ _ (fun z r => zSh_k _ _ _ _))
  case i2l => exact zSh_pI _ (fun y r => zSh_k _ _ _ _)
  case l2i => exact zSh_pJ _ (fun y r => zSh_k _ _ _ _)
  case i2b => exact zSh_pI _ (fun y r => zSh_k _ _ _ _)
  case i2s => exact zSh_pI _ (fun y r => zSh_k _ _ _ _)
  all_goals first | exact zSh_k _ _ _ _ | exact zSh_c _
theorem zSh_one (X : Nat → Nat → Int32) (C : Nat → List zV → zS → Option zR) (ret : Option FieldType) (cd : zC) (pc : Nat) (ls : zL) (st : List zV) (σ : zS) : zSh (fun k => zone X C ret cd k pc ls st σ) := by
  unfold zone
  rcases zat cd pc with _ | q
  · exact zSh_c none
  · exact zSh_ins _ _ _ _ _ _ _ _ _ _ _ _
section ZGO
variable (X : Nat → Nat → Int32) (C : Nat → List zV → zS → Option zR) (ret : Option FieldType) (cd : zC)
theorem zden_mono : ∀ (n : Nat) (pc : Nat) (ls : zL) (st : List zV) (σ : zS) (r : zR), zden X C ret cd n pc ls st σ = some r → zden X C ret cd (n + 1) pc ls st σ = some r
  | 0, pc, ls, st, σ, r, h => by cases h
  | n + 1, pc, ls, st, σ, r, h => by
    have h0 : zone X C ret cd (zden X C ret cd n) pc ls st σ = some r := h
    show zone X C ret cd (zden X C ret cd (n + 1)) pc ls st σ = some r
    rcases zSh_one X C ret cd pc ls st σ with ⟨o, ho⟩ | ⟨pc', ls', st', σ', ho⟩
    · have e1 := ho (zden X C ret cd n)
      have e2 := ho (zden X C ret cd (n + 1))
      dsimp only at e1 e2
      rw [e2, ← e1]; exact h0
    · have e1 := ho (zden X C ret cd n)
      have e2 := ho (zden X C ret cd (n + 1))
      dsimp only at e1 e2
      rw [e1] at h0
      rw [e2]
      exact zden_mono n pc' ls' st' σ' r h0
theorem zden_le {n m : Nat} (h : n ≤ m) {pc : Nat} {ls : zL} {st : List zV} {σ : zS} {r : zR} (e : zden X C ret cd n pc ls st σ = some r) : zden X C ret cd m pc ls st σ = some r := by
  obtain ⟨d, rfl⟩ := Nat.exists_eq_add_of_le h
  clear h
  induction d with
  | zero => exact e
  | succ d ih => exact zden_mono X C ret cd _ _ _ _ _ _ ih
theorem zden_fun {n m : Nat} {pc : Nat} {ls : zL} {st : List zV} {σ : zS} {r r' : zR} (e : zden X C ret cd n pc ls st σ = some r) (e' : zden X C ret cd m pc ls st σ = some r') : r = r' := by
  have h1 := zden_le X C ret cd (Nat.le_max_left n m) e
  have h2 := zden_le X C ret cd (Nat.le_max_right n m) e'
  exact Option.some.inj (h1.symm.trans h2)
noncomputable def zgo (pc : Nat) (ls : zL) (st : List zV) (σ : zS) : Option zR := @dite _ (∃ q : Nat × zR, zden X C ret cd q.1 pc ls st σ = some q.2) (Classical.propDecidable _) (fun h => some h.choose.2) (fun _ => none)
theorem zgo_of {n : Nat} {pc : Nat} {ls : zL} {st : List zV} {σ : zS} {r : zR} (e : zden X C ret cd n pc ls st σ = some r) : zgo X C ret cd pc ls st σ = some r := by
  have h : ∃ q : Nat × zR, zden X C ret cd q.1 pc ls st σ = some q.2 := ⟨(n, r), e⟩
  unfold zgo
  rw [dif_pos h]
  exact congrArg some (zden_fun X C ret cd h.choose_spec e)
theorem zgo_to {pc : Nat} {ls : zL} {st : List zV} {σ : zS} {r : zR} (e : zgo X C ret cd pc ls st σ = some r) : ∃ n, zden X C ret cd n pc ls st σ = some r := by
  unfold zgo at e
  by_cases h : ∃ q : Nat × zR, zden X C ret cd q.1 pc ls st σ = some q.2
  · rw [dif_pos h] at e
    refine ⟨h.choose.1, ?_⟩
    rw [h.choose_spec]
    exact e
  · rw [dif_neg h] at e
    cases e
theorem zgo_eq (pc : Nat) (ls : zL) (st : List zV) (σ : zS) : zgo X C ret cd pc ls st σ = zone X C ret cd (zgo X C ret cd) pc ls st σ := by
  rcases zSh_one X C ret cd pc ls st σ with ⟨o, ho⟩ | ⟨pc', ls', st', σ', ho⟩
  · have e1 := ho (zgo X C ret cd)
    dsimp only at e1
    rw [e1]
    cases o with
    | some r => exact zgo_of X C ret cd (n := 1) (show zone X C ret cd (zden X C ret cd 0) pc ls st σ = some r from ho _)
    | none =>
      cases h : zgo X C ret cd pc ls st σ with
      | none => rfl
      | some r =>
        obtain ⟨n, hn⟩ := zgo_to X C ret cd h
        cases n with
        | zero => cases hn
        | succ n =>
          have h2 : zone X C ret cd (zden X C ret cd n) pc ls st σ = some r := hn
          have e2 := ho (zden X C ret cd n)
          dsimp only at e2
          rw [e2] at h2
          cases h2
  · have e1 := ho (zgo X C ret cd)
    dsimp only at e1
    rw [e1]
    cases h : zgo X C ret cd pc' ls' st' σ' with
    | some r =>
      obtain ⟨n, hn⟩ := zgo_to X C ret cd h
      refine zgo_of X C ret cd (n := n + 1) ?_
      show zone X C ret cd (zden X C ret cd n) pc ls st σ = some r
      have e2 := ho (zden X C ret cd n)
      dsimp only at e2
      rw [e2]
      exact hn
    | none =>
      cases h3 : zgo X C ret cd pc ls st σ with
      | none => rfl
      | some r =>
        obtain ⟨n, hn⟩ := zgo_to X C ret cd h3
        cases n with
        | zero => cases hn
        | succ n =>
          have h2 : zone X C ret cd (zden X C ret cd n) pc ls st σ = some r := hn
          have e2 := ho (zden X C ret cd n)
          dsimp only at e2
          rw [e2] at h2
          rw [zgo_of X C ret cd h2] at h
          cases h
/-- many steps at once, up to the places of a list -/
noncomputable def zrun (stop : List Nat) : Nat → Nat → zL → List zV → zS → Option zR
  | 0 => zgo X C ret cd
  | n + 1 => fun pc ls st σ => match stop.elem pc with
    | true => zgo X C ret cd pc ls st σ
    | false => zone X C ret cd (zrun stop n) pc ls st σ
theorem zrun_go (stop : List Nat) : ∀ n : Nat, zrun X C ret cd stop n = zgo X C ret cd
  | 0 => rfl
  | n + 1 => by
    funext pc ls st σ
    show (match stop.elem pc with | true => zgo X C ret cd pc ls st σ | false => zone X C ret cd (zrun X C ret cd stop n) pc ls st σ) = _
    rw [zrun_go stop n]
    cases stop.elem pc
    · exact (zgo_eq X C ret cd pc ls st σ).symm
    · rfl
theorem zgo_run (stop : List Nat) (n : Nat) (pc : Nat) (ls : zL) (st : List zV) (σ : zS) : zgo X C ret cd pc ls st σ = zone X C ret cd (zrun X C ret cd stop n) pc ls st σ := by
  rw [zrun_go]
  exact zgo_eq X C ret cd pc ls st σ
end ZGO
