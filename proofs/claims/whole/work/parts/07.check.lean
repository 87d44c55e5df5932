/-! ===== what the tables say of classes, methods, instructions: checked by the kernel ===== -/
def zfc (f : Option zF) (t : FieldType) (fin : Bool) : Bool := match f, t, fin with
  | some none, .int, false => true
  | some (some none), .long, false => true
  | some (some (some _)), .object _, true => true
  | some (some (some _)), .array _, true => true
  | _, _, _ => false
def ZC (ci : Nat) (C : String) (T : u_T) (N : Nat) (ty : Nat → FieldType) : Prop :=
  vwCl[ci]? = some (C, T, N) ∧ (∀ w ∈ u_ws C T N, w ∈ lw_tbl) ∧ (∀ k, k < N → parseFieldDescriptor (T k).2.2.1 = some (ty k)) ∧ (∀ a, a < N → ∀ b, b < N → a ≠ b → (T a).2.1 ≠ (T b).2.1) ∧ (zft ci).length = N ∧ (∀ k, k < N → zfc (zfl ci k) (ty k) (T k).2.2.2 = true) ∧ Cond.instantiable C N ∈ lw_tbl ∧ Cond.initialized C ∈ lw_tbl ∧ (∀ k, k < N → (T k).1 = C)
theorem ZC0 : ZC 0 RX0 TX0 6 tyX0 := ⟨rfl, by decide +kernel, tyX0_ok, nmX0, rfl, by decide +kernel, by decide +kernel, by decide +kernel, by decide +kernel⟩
theorem ZC1 : ZC 1 RX1 TX1 12 tyX1 := ⟨rfl, by decide +kernel, tyX1_ok, nmX1, rfl, by decide +kernel, by decide +kernel, by decide +kernel, by decide +kernel⟩
theorem ZC2 : ZC 2 RX2 TX2 7 tyX2 := ⟨rfl, by decide +kernel, tyX2_ok, nmX2, rfl, by decide +kernel, by decide +kernel, by decide +kernel, by decide +kernel⟩
theorem ZC3 : ZC 3 RX3 TX3 3 tyX3 := ⟨rfl, by decide +kernel, tyX3_ok, nmX3, rfl, by decide +kernel, by decide +kernel, by decide +kernel, by decide +kernel⟩
theorem ZC4 : ZC 4 RX4 TX4 3 tyX4 := ⟨rfl, by decide +kernel, tyX4_ok, nmX4, rfl, by decide +kernel, by decide +kernel, by decide +kernel, by decide +kernel⟩
theorem ZC5 : ZC 5 RX5 TX5 12 tyX5 := ⟨rfl, by decide +kernel, tyX5_ok, nmX5, rfl, by decide +kernel, by decide +kernel, by decide +kernel, by decide +kernel⟩
theorem ZC6 : ZC 6 RX6 TX6 3 tyX6 := ⟨rfl, by decide +kernel, tyX6_ok, nmX6, rfl, by decide +kernel, by decide +kernel, by decide +kernel, by decide +kernel⟩
theorem ZC7 : ZC 7 RX7 TX7 11 tyX7 := ⟨rfl, by decide +kernel, tyX7_ok, nmX7, rfl, by decide +kernel, by decide +kernel, by decide +kernel, by decide +kernel⟩
theorem ZC8 : ZC 8 RX8 TX8 10 tyX8 := ⟨rfl, by decide +kernel, tyX8_ok, nmX8, rfl, by decide +kernel, by decide +kernel, by decide +kernel, by decide +kernel⟩
theorem ZC9 : ZC 9 RX9 TX9 26 tyX9 := ⟨rfl, by decide +kernel, tyX9_ok, nmX9, rfl, by decide +kernel, by decide +kernel, by decide +kernel, by decide +kernel⟩
theorem ZC_all {ci : Nat} (h : ci < 10) : ∃ C T N ty, ZC ci C T N ty := by
  match ci, h with
  | 0, _ => exact ⟨_, _, _, _, ZC0⟩
  | 1, _ => exact ⟨_, _, _, _, ZC1⟩
  | 2, _ => exact ⟨_, _, _, _, ZC2⟩
  | 3, _ => exact ⟨_, _, _, _, ZC3⟩
  | 4, _ => exact ⟨_, _, _, _, ZC4⟩
  | 5, _ => exact ⟨_, _, _, _, ZC5⟩
  | 6, _ => exact ⟨_, _, _, _, ZC6⟩
  | 7, _ => exact ⟨_, _, _, _, ZC7⟩
  | 8, _ => exact ⟨_, _, _, _, ZC8⟩
  | 9, _ => exact ⟨_, _, _, _, ZC9⟩
  | n + 10, h => exact absurd h (by omega)
/-- the class of the number ci, and one of its fields -/
def zcn (ci : Nat) : String := match vwCl[ci]? with
  | some q => q.1
  | none => ""
def zfn (ci fi : Nat) : String × String × String × Bool := match vwCl[ci]? with
  | some q => q.2.1 fi
  | none => ("", "", "", false)
def zfN (ci : Nat) : Nat := match vwCl[ci]? with
  | some q => q.2.2
  | none => 0
/-- the static arrays -/
def zsn : Nat → String × String
  | 1 => (RX8, "NEAREST")
  | 2 => (RX0, "SIZE_BODIES")
  | _ => (RX0, "MARK_BODIES")
def zdk (cc : ByteArray) (pc : Nat) (ins : Instr) (n : Nat) : Bool := decide (decode cc pc = .ok (ins, n))
def zlk (wd : Nat) (w : Cond) : Bool := decide (tables_1[wd]? = some w)
/-- a call's link, and what its count of arguments says -/
def zck_inv (own : String) (idx a b : Nat) (v : Int32) (wd : Nat) (st : Bool) : Bool := match a with
  | 0 => false
  | y + 1 => match zmi zmt y with
    | none => false
    | some q => (if v = 0 then zlk wd (.methodLink own idx q.1) else zlk wd (.methodLinkNest own idx q.1 "JudgeHalves")) && decide ((parseMethodDescriptor q.1.desc).map (fun d => d.parameters.length) = some (b % 64 / 4 - (if st then 0 else 1))) && (st || (decide (1 ≤ b % 64 / 4) && decide (zcn (b / 64) = q.1.cls) && decide (b / 64 < 10)))
def zck (own : String) (ini : Bool) (cc : ByteArray) (nL pc : Nat) (q : zI) : Bool := match q with
  | (ins, a, b, v, w, wd) => match ins with
    | .iconst n => zdk cc pc ins 1 && decide (Int32.ofInt n = v)
    | .bipush n => zdk cc pc ins 2 && decide ((Int8.ofInt n).toInt32 = v)
    | .sipush n => zdk cc pc ins 3 && decide ((Int16.ofInt n).toInt32 = v)
    | .ldc idx => zdk cc pc ins 2 && zlk wd (.constant own idx v)
    | .ldc_w idx => zdk cc pc ins 3 && zlk wd (.constant own idx v)
    | .lconst n => zdk cc pc ins 1 && decide (Int64.ofNat (n : Nat) = w)
    | .ldc2_w idx => zdk cc pc ins 3 && zlk wd (.constantLong own idx w)
    | .iload i => zdk cc pc ins 2 && decide (i = a)
    | .iload_n i => zdk cc pc ins 1 && decide ((i : Nat) = a)
    | .lload i => zdk cc pc ins 2 && decide (i = a)
    | .lload_n i => zdk cc pc ins 1 && decide ((i : Nat) = a)
    | .aload i => zdk cc pc ins 2 && decide (i = a)
    | .aload_n i => zdk cc pc ins 1 && decide ((i : Nat) = a)
    | .istore i => zdk cc pc ins 2 && decide (i = a) && decide (a < nL)
    | .istore_n i => zdk cc pc ins 1 && decide ((i : Nat) = a) && decide (a < nL)
    | .lstore i => zdk cc pc ins 2 && decide (i = a) && decide (a + 1 < nL)
    | .lstore_n i => zdk cc pc ins 1 && decide ((i : Nat) = a) && decide (a + 1 < nL)
    | .astore i => zdk cc pc ins 2 && decide (i = a) && decide (a < nL)
    | .astore_n i => zdk cc pc ins 1 && decide ((i : Nat) = a) && decide (a < nL)
    | .iinc i n => zdk cc pc ins 3 && decide (i = a) && decide (Int32.ofInt n = v) && decide (a < nL)
    | .goto o => zdk cc pc ins 3 && decide ((pc : Int) + o = (a : Int))
    | .ifCond _ o => zdk cc pc ins 3 && decide ((pc : Int) + o = (a : Int))
    | .if_icmp _ o => zdk cc pc ins 3 && decide ((pc : Int) + o = (a : Int))
    | .ifnull o => zdk cc pc ins 3 && decide ((pc : Int) + o = (a : Int))
    | .ifnonnull o => zdk cc pc ins 3 && decide ((pc : Int) + o = (a : Int))
    | .tableswitch d lo hi offs => (match decode cc pc with
      | .ok (i, _) => decide (i = ins)
      | _ => false) && decide ((pc : Int) + d = (a : Int)) && decide (v.toInt = lo) && decide (hi = lo + offs.toList.length - 1) && decide (-1000 ≤ lo) && decide (hi ≤ 1000) && offs.toList.all (fun o => decide (0 ≤ (pc : Int) + o))
    | .lookupswitch d ps => (match decode cc pc with
      | .ok (i, _) => decide (i = ins)
      | _ => false) && decide ((pc : Int) + d = (a : Int)) && (ps.toList.zip (ps.toList.drop 1)).all (fun (a, next) => a.1 < next.1) && ps.toList.all (fun o => decide (0 ≤ (pc : Int) + o.2) && decide (-1000 ≤ o.1) && decide (o.1 ≤ 1000))
    | .getfield idx => zdk cc pc ins 3 && decide (a < 10) && decide (b < zfN a) && zlk wd (.fieldLink own idx (zfn a b).1 (zfn a b).2.1 (zfn a b).2.2.1)
    | .putfield idx => zdk cc pc ins 3 && decide (a < 10) && decide (b < zfN a) && zlk wd (.fieldLink own idx (zfn a b).1 (zfn a b).2.1 (zfn a b).2.2.1) && (!(zfn a b).2.2.2 || (ini && decide (own = (zfn a b).1)))
    | .getstatic idx => zdk cc pc ins 3 && decide (1 ≤ a) && decide (a < 4) && (if b = 0 then zlk wd (.fieldLink own idx (zsn a).1 (zsn a).2 "[I") else zlk wd (.fieldLinkNest own idx (zsn a).1 (zsn a).2 "[I" "JudgeHalves"))
    | .new idx => zdk cc pc ins 3 && decide (a < 10) && zlk wd (.classLink own idx (zcn a))
    | .newarray t => zdk cc pc ins 2 && decide (t = .int ∨ t = .boolean)
    | .anewarray idx => zdk cc pc ins 3 && zlk wd (.classLink own idx RX1)
    | .multianewarray idx n => zdk cc pc ins 4 && decide (n = 2) && zlk wd (.classLink own idx "[[I")
    | .invokevirtual idx => zdk cc pc ins 3 && zck_inv own idx a b v wd false
    | .invokestatic idx => zdk cc pc ins 3 && (match a with
      | 0 => zlk wd (.methodLink own idx arraycopyName)
      | _ + 1 => zck_inv own idx a b v wd true)
    | .invokespecial idx => zdk cc pc ins 3 && (match a with
      | 0 => zlk wd (.methodLink own idx objectInit)
      | y + 1 => zck_inv own idx a b v wd false && (match zmi zmt y with
        | some q => decide (q.1.name = "<init>") && decide (q.2.2.2.1 = none)
        | none => false))
    | ins => zdk cc pc ins 1
def zckM (own : String) (ini : Bool) (cc : ByteArray) (nL : Nat) : Nat → zC → Bool
  | _, [] => true
  | pc, none :: r => zckM own ini cc nL (pc + 1) r
  | pc, some q :: r => zck own ini cc nL pc q && zckM own ini cc nL (pc + 1) r
theorem zckM_at {own : String} {ini : Bool} {cc : ByteArray} {nL : Nat} : ∀ {p0 : Nat} {cd : zC}, zckM own ini cc nL p0 cd = true → ∀ {pc : Nat} {q : zI}, zat cd pc = some q → zck own ini cc nL (p0 + pc) q = true
  | p0, [], _, pc, q, h => by cases h
  | p0, none :: r, hk, 0, q, h => by cases h
  | p0, none :: r, hk, pc + 1, q, h => by
    have := zckM_at (p0 := p0 + 1) (cd := r) hk (pc := pc) (q := q) h
    rwa [Nat.add_assoc, Nat.add_comm 1 pc] at this
  | p0, some q2 :: r, hk, 0, q, h => by
    cases h
    unfold zckM at hk
    rw [Bool.and_eq_true] at hk
    exact hk.1
  | p0, some q2 :: r, hk, pc + 1, q, h => by
    unfold zckM at hk
    rw [Bool.and_eq_true] at hk
    have := zckM_at (p0 := p0 + 1) (cd := r) hk.2 (pc := pc) (q := q) h
    rwa [Nat.add_assoc, Nat.add_comm 1 pc] at this
