/-! ===== runs with a count, for the kernel: the constructors ===== -/
def zni (cd : zC) : Bool := cd.all (fun q => match q with
  | some (.iaload, _) => false
  | _ => true)
def zcF (X : Nat → Nat → Int32) : Nat → Nat → List zV → zS → Option zR
  | 0 => fun _ _ _ => none
  | d + 1 => fun y args σ => match zmi zmt y with
    | none => none
    | some q => match zni q.2.2.2.2 && Nat.ble (zlo args).length q.2.2.1 with
      | true => zden X (zcF X d) q.2.2.2.1 q.2.2.2.2 2000 0 (zpad q.2.2.1 (zlo args)) [] σ
      | false => none
theorem zpop_mono {f g : List zV → List zV → Option zR} {o : zR} (hfg : ∀ a r, f a r = some o → g a r = some o) : ∀ {n : Nat} {st acc : List zV}, zpop n st acc f = some o → zpop n st acc g = some o
  | 0, st, acc, h => hfg acc st h
  | n + 1, [], acc, h => by cases h
  | n + 1, v :: r, acc, h => zpop_mono hfg (n := n) (st := r) (acc := v :: acc) h
theorem zinv_C {C C' : Nat → List zV → zS → Option zR} (hC : ∀ y a σ r, C y a σ = some r → C' y a σ = some r) {k : zk} {pc : Nat} {ls : zL} {st : List zV} {σ : zS} {y b : Nat} {ck : Bool} {o : zR} (h : zinv C k pc ls st σ y b ck = some o) : zinv C' k pc ls st σ y b ck = some o := by
  unfold zinv at h ⊢
  refine zpop_mono (fun a r h => ?_) h
  generalize (Nat.ble (zcat r) 8 && zrc ck (b / 64) a) = q at h ⊢
  cases q with
  | false => exact h
  | true =>
    generalize b % 4 = m4 at h ⊢
    rcases m4 with _ | _ | _ | n
    · obtain ⟨σ1, f1, f2⟩ := cV_inv h
      show cV (C' y a σ) _ = _
      rw [hC _ _ _ _ f1]
      exact f2
    · obtain ⟨v, σ1, f1, f2⟩ := cI_inv h
      show cI (C' y a σ) _ = _
      rw [hC _ _ _ _ f1]
      exact f2
    · obtain ⟨v, σ1, f1, f2⟩ := cJ_inv h
      show cJ (C' y a σ) _ = _
      rw [hC _ _ _ _ f1]
      exact f2
    · obtain ⟨v, σ1, f1, f2⟩ := cQ_inv h
      show cQ (C' y a σ) _ = _
      rw [hC _ _ _ _ f1]
      exact f2
theorem zins_C {X : Nat → Nat → Int32} {C C' : Nat → List zV → zS → Option zR} (hC : ∀ y a σ r, C y a σ = some r → C' y a σ = some r) {ret : Option FieldType} {k : zk} {pc : Nat} {ls : zL} {st : List zV} {σ : zS} {a b : Nat} {v : Int32} {w : Int64} {ins : Instr} {o : zR} (h : zins X C ret k pc ls st σ a b v w ins = some o) : zins X C' ret k pc ls st σ a b v w ins = some o := by
  cases ins
  case invokevirtual n => cases a with
    | zero => cases h
    | succ y => exact zinv_C hC h
  case invokestatic n => cases a with
    | zero => exact h
    | succ y => exact zinv_C hC h
  case invokespecial n => cases a with
    | zero => exact h
    | succ y => exact zinv_C hC h
  case if_icmp c9 n => cases c9 <;> exact h
  case ifCond c9 n => cases c9 <;> exact h
  case newarray t => cases t <;> exact h
  all_goals exact h
theorem zone_k {X : Nat → Nat → Int32} {C : Nat → List zV → zS → Option zR} {ret : Option FieldType} {cd : zC} {k k' : zk} (hk : ∀ pc ls st σ r, k pc ls st σ = some r → k' pc ls st σ = some r) {pc : Nat} {ls : zL} {st : List zV} {σ : zS} {o : zR} (h : zone X C ret cd k pc ls st σ = some o) : zone X C ret cd k' pc ls st σ = some o := by
  rcases zSh_one X C ret cd pc ls st σ with ⟨o1, ho⟩ | ⟨pc', ls', st', σ', ho⟩
  · have e1 := ho k
    have e2 := ho k'
    dsimp only at e1 e2
    rw [e2, ← e1]; exact h
  · have e1 := ho k
    have e2 := ho k'
    dsimp only at e1 e2
    rw [e1] at h
    rw [e2]
    exact hk _ _ _ _ _ h
theorem zden_C {X : Nat → Nat → Int32} {C C' : Nat → List zV → zS → Option zR} (hC : ∀ y a σ r, C y a σ = some r → C' y a σ = some r) {ret : Option FieldType} {cd : zC} : ∀ (n : Nat) {pc : Nat} {ls : zL} {st : List zV} {σ : zS} {o : zR}, zden X C ret cd n pc ls st σ = some o → zden X C' ret cd n pc ls st σ = some o
  | 0, pc, ls, st, σ, o, h => by cases h
  | n + 1, pc, ls, st, σ, o, h => by
    have h : zone X C ret cd (zden X C ret cd n) pc ls st σ = some o := h
    have h1 := zone_k (fun pc ls st σ r h => zden_C hC n h) h
    show zone X C' ret cd (zden X C' ret cd n) pc ls st σ = some o
    unfold zone at h1 ⊢
    cases hz : zat cd pc with
    | none => rw [hz] at h1; cases h1
    | some q =>
      rw [hz] at h1
      exact zins_C hC h1
theorem zcF_call {X : Nat → Nat → Int32} : ∀ (d : Nat) {y : Nat} {a : List zV} {σ : zS} {r : zR}, zcF X d y a σ = some r → zcall X d y a σ = some r
  | 0, y, a, σ, r, h => by cases h
  | d + 1, y, a, σ, r, h => by
    have h : (match zmi zmt y with
      | none => none
      | some q => match zni q.2.2.2.2 && Nat.ble (zlo a).length q.2.2.1 with
        | true => zden X (zcF X d) q.2.2.2.1 q.2.2.2.2 2000 0 (zpad q.2.2.1 (zlo a)) [] σ
        | false => none) = some r := h
    show (match zmi zmt y with
      | none => none
      | some q => match Nat.ble (zlo a).length q.2.2.1 with
        | true => zgo X (zcall X d) q.2.2.2.1 q.2.2.2.2 0 (zpad q.2.2.1 (zlo a)) [] σ
        | false => none) = some r
    cases hq : zmi zmt y with
    | none => rw [hq] at h; cases h
    | some q =>
      rw [hq] at h
      obtain ⟨h1, h2⟩ := zb_inv h
      obtain ⟨-, h3⟩ := band h1
      show (match Nat.ble (zlo a).length q.2.2.1 with
        | true => zgo X (zcall X d) q.2.2.2.1 q.2.2.2.2 0 (zpad q.2.2.1 (zlo a)) [] σ
        | false => none) = some r
      rw [h3]
      exact zgo_of _ _ _ _ (zden_C (fun y a σ r h => zcF_call d h) 2000 h2)
theorem zins_X {X X' : Nat → Nat → Int32} {C : Nat → List zV → zS → Option zR} {ret : Option FieldType} {k : zk} {pc : Nat} {ls : zL} {st : List zV} {σ : zS} {a b : Nat} {v : Int32} {w : Int64} {ins : Instr} (h : ins ≠ .iaload) : zins X C ret k pc ls st σ a b v w ins = zins X' C ret k pc ls st σ a b v w ins := by
  cases ins
  case iaload => exact absurd rfl h
  case if_icmp c9 n => cases c9 <;> rfl
  case ifCond c9 n => cases c9 <;> rfl
  case newarray t => cases t <;> rfl
  all_goals rfl
theorem zone_X {X X' : Nat → Nat → Int32} {C : Nat → List zV → zS → Option zR} {ret : Option FieldType} {cd : zC} (hn : zni cd = true) {k : zk} {pc : Nat} {ls : zL} {st : List zV} {σ : zS} : zone X C ret cd k pc ls st σ = zone X' C ret cd k pc ls st σ := by
  unfold zone
  cases hz : zat cd pc with
  | none => rfl
  | some q =>
    refine zins_X (fun e => ?_)
    have h1 := List.all_eq_true.mp hn (some q) (zat_in hz)
    obtain ⟨q1, q2⟩ := q
    have e : q1 = .iaload := e
    subst e
    cases h1
theorem zden_X {X X' : Nat → Nat → Int32} {C : Nat → List zV → zS → Option zR} {ret : Option FieldType} {cd : zC} (hn : zni cd = true) : ∀ (n : Nat), zden X C ret cd n = zden X' C ret cd n
  | 0 => rfl
  | n + 1 => by
    funext pc ls st σ
    show zone X C ret cd (zden X C ret cd n) pc ls st σ = zone X' C ret cd (zden X' C ret cd n) pc ls st σ
    rw [zden_X hn n]
    exact zone_X hn
theorem zcF_X {X X' : Nat → Nat → Int32} : ∀ (d : Nat), zcF X d = zcF X' d
  | 0 => rfl
  | d + 1 => by
    funext y a σ
    show (match zmi zmt y with
      | none => none
      | some q => match zni q.2.2.2.2 && Nat.ble (zlo a).length q.2.2.1 with
        | true => zden X (zcF X d) q.2.2.2.1 q.2.2.2.2 2000 0 (zpad q.2.2.1 (zlo a)) [] σ
        | false => none) = (match zmi zmt y with
      | none => none
      | some q => match zni q.2.2.2.2 && Nat.ble (zlo a).length q.2.2.1 with
        | true => zden X' (zcF X' d) q.2.2.2.1 q.2.2.2.2 2000 0 (zpad q.2.2.1 (zlo a)) [] σ
        | false => none)
    rw [zcF_X d]
    cases zmi zmt y with
    | none => rfl
    | some q =>
      show (match zni q.2.2.2.2 && Nat.ble (zlo a).length q.2.2.1 with
        | true => zden X (zcF X' d) q.2.2.2.1 q.2.2.2.2 2000 0 (zpad q.2.2.1 (zlo a)) [] σ
        | false => none) = (match zni q.2.2.2.2 && Nat.ble (zlo a).length q.2.2.1 with
        | true => zden X' (zcF X' d) q.2.2.2.1 q.2.2.2.2 2000 0 (zpad q.2.2.1 (zlo a)) [] σ
        | false => none)
      cases hz : zni q.2.2.2.2 with
      | false => rfl
      | true => rw [zden_X (X := X) (X' := X') hz]
theorem zcall_mono {X : Nat → Nat → Int32} : ∀ (d : Nat) {y : Nat} {a : List zV} {σ : zS} {r : zR}, zcall X d y a σ = some r → zcall X (d + 1) y a σ = some r
  | 0, y, a, σ, r, h => by cases h
  | d + 1, y, a, σ, r, h => by
    have h : (match zmi zmt y with
      | none => none
      | some q => match Nat.ble (zlo a).length q.2.2.1 with
        | true => zgo X (zcall X d) q.2.2.2.1 q.2.2.2.2 0 (zpad q.2.2.1 (zlo a)) [] σ
        | false => none) = some r := h
    show (match zmi zmt y with
      | none => none
      | some q => match Nat.ble (zlo a).length q.2.2.1 with
        | true => zgo X (zcall X (d + 1)) q.2.2.2.1 q.2.2.2.2 0 (zpad q.2.2.1 (zlo a)) [] σ
        | false => none) = some r
    cases hq : zmi zmt y with
    | none => rw [hq] at h; cases h
    | some q =>
      rw [hq] at h
      obtain ⟨h1, h2⟩ := zb_inv h
      obtain ⟨n, hn⟩ := zgo_to _ _ _ _ h2
      show (match Nat.ble (zlo a).length q.2.2.1 with
        | true => zgo X (zcall X (d + 1)) q.2.2.2.1 q.2.2.2.2 0 (zpad q.2.2.1 (zlo a)) [] σ
        | false => none) = some r
      rw [h1]
      exact zgo_of _ _ _ _ (zden_C (fun y a σ r h => zcall_mono d h) n hn)
theorem zcall_le {X : Nat → Nat → Int32} {d d' : Nat} (hd : d ≤ d') {y : Nat} {a : List zV} {σ : zS} {r : zR} (h : zcall X d y a σ = some r) : zcall X d' y a σ = some r := by
  obtain ⟨k, rfl⟩ := Nat.exists_eq_add_of_le hd
  clear hd
  induction k with
  | zero => exact h
  | succ k ih => exact zcall_mono _ ih
