section ZSZ
variable {l : Launch} {D : va_G} {q4 : Nat → ClassId} {xad xl : Nat → Nat} {X : Nat → Nat → Int32} {own : String} {ini : Bool} {cc : ByteArray} {nL d : Nat} {ret : Option FieldType} {pc pc' : Nat} {ls ls' : zL} {st st' : List zV} {σ σ1 σ' : zS} {r : Option zV}

theorem zn2_old {N k9 : Nat} (h : k9 < σ.1.length) : (znew2 σ N).1[k9]? = σ.1[k9]? := by
  show (σ.1 ++ _)[k9]? = _
  rw [List.getElem?_append_left h]
theorem zn2_out {N : Nat} : (znew2 σ N).1[σ.1.length]? = some (.inr (.array .int, N)) := by
  show (σ.1 ++ _)[σ.1.length]? = _
  rw [List.getElem?_append_right (Nat.le_refl _), Nat.sub_self]
  rfl
theorem zn2_in {N i : Nat} (h : i < N) : (znew2 σ N).1[σ.1.length + 1 + i]? = some (.inr (.int, 40)) := by
  show (σ.1 ++ _)[σ.1.length + 1 + i]? = _
  rw [List.getElem?_append_right (by omega), show σ.1.length + 1 + i - σ.1.length = i + 1 by omega, List.getElem?_cons_succ, List.getElem?_replicate, if_pos h]
theorem zn2_len {N : Nat} : (znew2 σ N).1.length = σ.1.length + 1 + N := by
  show (σ.1 ++ _).length = _
  simp
  omega
theorem zn2_case {N k9 : Nat} {κ : zK} (h : (znew2 σ N).1[k9]? = some κ) : (k9 < σ.1.length ∧ σ.1[k9]? = some κ) ∨ (k9 = σ.1.length ∧ κ = .inr (.array .int, N)) ∨ (∃ i, i < N ∧ k9 = σ.1.length + 1 + i ∧ κ = .inr (.int, 40)) := by
  have hl := (List.getElem?_eq_some_iff.mp h).1
  rw [zn2_len] at hl
  by_cases h1 : k9 < σ.1.length
  · rw [zn2_old h1] at h
    exact Or.inl ⟨h1, h⟩
  · by_cases h2 : k9 = σ.1.length
    · subst h2
      rw [zn2_out] at h
      exact Or.inr (Or.inl ⟨rfl, (Option.some.inj h).symm⟩)
    · obtain ⟨i, rfl⟩ : ∃ i, k9 = σ.1.length + 1 + i := ⟨k9 - σ.1.length - 1, by omega⟩
      have hi : i < N := by omega
      rw [zn2_in hi] at h
      exact Or.inr (Or.inr ⟨i, hi, rfl, (Option.some.inj h).symm⟩)
theorem zn2_bit {N k9 i9 : Nat} (h : k9 < σ.1.length) : (znew2 σ N).2.1 k9 i9 = σ.2.1 k9 i9 := by
  show (if k9 = σ.1.length then true else if σ.1.length < k9 then false else σ.2.1 k9 i9) = _
  rw [if_neg (by omega), if_neg (by omega)]
theorem zn2_inv {N : Nat} (hI : zInv σ) : zInv (znew2 σ N) := by
  have hup : ∀ {k9 : Nat} {x9 : zK}, σ.1[k9]? = some x9 → (znew2 σ N).1[k9]? = some x9 := fun {k9 x9} h => by rw [zn2_old (List.getElem?_eq_some_iff.mp h).1]; exact h
  refine ⟨fun k9 ci9 fi9 q9 g1 g2 g3 => ?_, fun k9 n9 i9 c9 g1 g2 g3 => ?_, fun k9 n9 i9 c9 g1 g2 g3 => ?_⟩
  · rcases zn2_case g1 with ⟨hk, h1⟩ | ⟨-, h1⟩ | ⟨i, -, -, h1⟩
    · rw [zn2_bit hk] at g3
      exact hup (hI.1 k9 ci9 fi9 q9 h1 g2 g3)
    · cases h1
    · cases h1
  · rcases zn2_case g1 with ⟨hk, h1⟩ | ⟨-, h1⟩ | ⟨i, -, -, h1⟩
    · rw [zn2_bit hk] at g2
      exact hup (hI.2.1 k9 n9 i9 c9 h1 g2 g3)
    · cases h1
    · cases h1
  · rcases zn2_case g1 with ⟨hk, h1⟩ | ⟨hk, h1⟩ | ⟨i, -, -, h1⟩
    · rw [zn2_bit hk] at g2
      exact hup (hI.2.2 k9 n9 i9 c9 h1 g2 g3)
    · cases h1
      subst hk
      exact zn2_in g3
    · cases h1

set_option maxHeartbeats 1000000 in
theorem zi_multi {k : zk} (K : zKK l D q4 xad xl X own ini cc nL ret d k r σ') (hxl : ∀ j, 1 ≤ j → j < 4 → xl j = 6) {a b : Nat} {v : Int32} {w : Int64} {wd : Nat} (hI : zInv σ) (hst : ∀ v ∈ st, zok σ.1 xl v) (hls : ∀ (i : Nat) (v : zV), zg ls i = some v → zok σ.1 xl v) {C : Nat → List zV → zS → Option zR} {idx nd : Nat} (hk : zck own ini cc nL pc (.multianewarray idx nd, a, b, v, w, wd) = true) (h : zins X C ret k pc ls st σ a b v w (.multianewarray idx nd) = some (r, σ')) : zWp l D q4 xad xl X own ini cc nL ret d pc ls st σ r σ' := by
  obtain ⟨hd, hlk⟩ := band hk
  obtain ⟨hd, hnd⟩ := band hd
  have hnd := of_decide_eq_true hnd
  subst hnd
  have hd := of_decide_eq_true hd
  obtain ⟨mm, r0, rfl, h0⟩ := pI_inv h
  obtain ⟨n, r1, rfl, h1⟩ := pI_inv h0
  obtain ⟨hq, h2⟩ := zb_inv h1
  obtain ⟨hi, hm⟩ := band hq
  have hm := of_decide_eq_true hm
  subst hm
  have hv := zin_vp hi
  have hlt : n.toNatClampNeg < 2000 := Nat.not_le.mp fun q => hv (Or.inr q)
  generalize hNe : n.toNatClampNeg = N at h2 hlt
  have hpre : σ.1 <+: (znew2 σ N).1 := List.prefix_append _ _
  have hr1 := okt (okt hst)
  have hw := K (pc + 4) ls _ (znew2 σ N) h2 (zn2_inv hI) (okc (zok_of zn2_out (fun n9 e9 => by cases e9)) (fun v hv => zok_pre hpre (hr1 v hv))) (fun i v hv => zok_pre hpre (hls i v hv))
  obtain ⟨⟨w1, w2, w3⟩, w4⟩ := hw
  have hl1 : (znew2 σ N).1.length = σ.1.length + 1 + N := zn2_len
  have hs1 : zsl (znew2 σ N).1 = zsl σ.1 + (N + N * 40) := by
    show zsl (σ.1 ++ _) = _
    rw [zsl_app]
    simp [zsl, zks]
  have hl2 := List.IsPrefix.length_le w1
  have hz2 := zsl_pre w1
  refine ⟨⟨hpre.trans w1, w2, w3⟩, fun p e R s m args below meth c Q A n0 s0 FX ad H locs mls a1 a2 a3 a4 hP hD hS hl hr => ?_⟩
  have FX' := FX
  obtain ⟨hx, hb, hml, hown, hts, hK, hA, hX, hN, hRf, hRl, hin⟩ := FX
  have hcy : s.vm.findClass (FieldType.array .int).toString = some (q4 0) := (hK.2 0 (q4 0, .int) rfl).2
  have hstr : "[" ++ (FieldType.array .int).toString = "[[I" := by decide
  have hap : zW q4 ad σ = zW q4 ad σ ++ va_pl [] (fun _ => (.inr (0, []) : va_E)) := (List.append_nil _).symm
  refine va_mna (X := zW q4 ad σ) (L := []) (f := fun _ => .inr (0, [])) (ty := .int) (cy := q4 0) (N' := N) (K' := 40) (z := (40, .inl (fun _ => 0))) hx hb hown (by rw [hstr]; exact hts _ (List.mem_filter.mpr ⟨tbs (List.mem_of_getElem? (of_decide_eq_true hlk)), rfl⟩)) hN.2.2 (hts (.arrayClass .int) (List.mem_filter.mpr ⟨tw_ci, rfl⟩)) hcy hK (by rw [← hap]; exact hP) (by rw [← hap]; exact hD) hS hA (fun q => hv (Or.inl q)) (by decide) hNe (by decide) (by omega) (by decide) (by decide) rfl rfl (by omega) (by omega) (fun c9 => by
    show ({ cls := c9, slots := Array.replicate 40 (.int 0), vm := .none } : Cell) = _
    rw [arrV_new]
    rfl) hd (fun q9 rr cA H1 hinj hnl hK9 hP1 hD1 hS1 => ?_)
  have hcA : cA = q4 3 := by
    have g1 : s.vm.findClass ("[" ++ (FieldType.array .int).toString) = some cA := (hK9.2 4 (cA, .array .int) rfl).2
    have g2 : s.vm.findClass ("[" ++ (FieldType.array .int).toString) = some (q4 3) := (hK.2 3 (q4 3, .array .int) rfl).2
    exact Option.some.inj (g1.symm.trans g2)
  subst hcA
  generalize hWe : (zW q4 ad σ ++ [(q9, .inl (q4 3, N, .inr (.inr (.inr (.inr (fun i => if i < N then some (rr i) else none))))))]) ++ va_pl ([] ++ (List.range N).map rr) (vr_up (fun _ => (.inr (0, []) : va_E)) ((List.range N).map rr) (.inl (q4 0, (40, .inl (fun _ => 0))))) = Wn at hP1 hD1
  have hlen0 : (zW q4 ad σ).length = σ.1.length := zW_len _ _ _
  have wn_old : ∀ k9, k9 < σ.1.length → Wn[k9]? = (zW q4 ad σ)[k9]? := fun k9 hk => by
    rw [← hWe, List.getElem?_append_left (by rw [List.length_append, hlen0]; simp; omega), List.getElem?_append_left (by omega)]
  have wn_out : Wn[σ.1.length]? = some (q9, .inl (q4 3, N, .inr (.inr (.inr (.inr (fun i => if i < N then some (rr i) else none)))))) := by
    rw [← hWe, List.getElem?_append_left (by rw [List.length_append, hlen0]; simp), List.getElem?_append_right (by omega), hlen0, Nat.sub_self]
    rfl
  have wn_in : ∀ i, i < N → Wn[σ.1.length + 1 + i]? = some (rr i, .inl (q4 0, (40, .inl (fun _ => 0)))) := fun i hi => by
    rw [← hWe, List.getElem?_append_right (by rw [List.length_append, hlen0]; simp), List.length_append, hlen0]
    rw [show σ.1.length + 1 + i - (σ.1.length + [(q9, (Sum.inl (q4 3, N, Sum.inr (Sum.inr (Sum.inr (Sum.inr (fun i => if i < N then some (rr i) else none))))) : va_E))].length) = i by simp]
    unfold va_pl
    rw [List.nil_append, List.getElem?_map, List.getElem?_map, List.getElem?_range hi]
    show some (rr i, vr_up _ _ _ (rr i)) = _
    rw [vr_up_in (List.mem_map.mpr ⟨i, List.mem_range.mpr hi, rfl⟩)]
  obtain ⟨ad', hag, hq9, hrr⟩ : ∃ ad' : Nat → Nat, (∀ k9, k9 < σ.1.length → ad' k9 = ad k9) ∧ ad' σ.1.length = q9 ∧ ∀ i, ad' (σ.1.length + 1 + i) = rr i := by
    refine ⟨fun k9 => if k9 < σ.1.length then ad k9 else if k9 = σ.1.length then q9 else rr (k9 - σ.1.length - 1), fun k9 hk => if_pos hk, ?_, fun i => ?_⟩
    · dsimp only
      rw [if_neg (by omega), if_pos rfl]
    · dsimp only
      rw [if_neg (by omega), if_neg (by omega), show σ.1.length + 1 + i - σ.1.length - 1 = i by omega]
  have hP0 : va_P D vwCl (zW q4 ad σ) H1 := fun j y hy => hP1 j y (by rw [wn_old j (by rw [← hlen0]; exact (List.getElem?_eq_some_iff.mp hy).1)]; exact hy)
  have hPa := zP_ad hI hag hP0
  have hP2 : va_P D vwCl (zW q4 ad' (znew2 σ N)) H1 := by
    intro k9 x9 hx9
    obtain ⟨κ', g1, rfl⟩ := zW_inv hx9
    rcases zn2_case g1 with ⟨hk, g2⟩ | ⟨rfl, rfl⟩ | ⟨i, hi, rfl, rfl⟩
    · have e1 : (znew2 σ N).2.1 k9 = σ.2.1 k9 := funext fun i9 => zn2_bit hk
      have e2 : (znew2 σ N).2.2.1 k9 = σ.2.2.1 k9 := funext fun i9 => by show (if σ.1.length ≤ k9 then 0 else σ.2.2.1 k9 i9) = _; rw [if_neg (by omega)]
      have e3 : (znew2 σ N).2.2.2 k9 = σ.2.2.2 k9 := funext fun i9 => by show (if σ.1.length ≤ k9 then 0 else σ.2.2.2 k9 i9) = _; rw [if_neg (by omega)]
      rw [zE_row e1 e2 e3]
      exact hPa k9 _ (zW_at g2)
    · rw [hq9]
      refine zP_arr (f := fun i => if i < N then some (rr i) else none) (fun i hi => ?_) (hP1 _ _ wn_out)
      rw [if_pos hi]
      unfold zar
      show _ = (match (if σ.1.length = σ.1.length then true else if σ.1.length < σ.1.length then false else σ.2.1 σ.1.length i) with | true => some (ad' (σ.1.length + 1 + i)) | false => none)
      rw [if_pos rfl, hrr]
    · rw [hrr]
      have e2 : (znew2 σ N).2.2.1 (σ.1.length + 1 + i) = fun _ => 0 := funext fun i9 => by show (if σ.1.length ≤ σ.1.length + 1 + i then 0 else σ.2.2.1 (σ.1.length + 1 + i) i9) = _; rw [if_pos (by omega)]
      show va_at D vwCl (rr i, Sum.inl (q4 0, 40, Sum.inl ((znew2 σ N).2.2.1 (σ.1.length + 1 + i)))) H1
      rw [e2]
      exact hP1 _ _ (wn_in i hi)
  have key : ∀ (k9 : Nat) (x9 : Nat × va_E), (zW q4 ad' (znew2 σ N))[k9]? = some x9 → ∃ e8 : va_E, Wn[k9]? = some (x9.1, e8) := by
    intro k9 x9 hx9
    obtain ⟨κ', g1, rfl⟩ := zW_inv hx9
    rcases zn2_case g1 with ⟨hk, g2⟩ | ⟨rfl, rfl⟩ | ⟨i, hi, rfl, rfl⟩
    · exact ⟨_, by rw [wn_old k9 hk, zW_at g2, hag k9 hk]⟩
    · exact ⟨_, by rw [wn_out, hq9]⟩
    · exact ⟨_, by rw [wn_in i hi, hrr]⟩
  have hD2 : va_D A (zW q4 ad' (znew2 σ N)) := by
    refine ⟨fun i j a b g1 g2 g3 => ?_, fun k9 a g1 => ?_⟩
    · obtain ⟨e1, f1⟩ := key i a g1
      obtain ⟨e2, f2⟩ := key j b g2
      exact hD1.1 i j _ _ f1 f2 g3
    · obtain ⟨e1, f1⟩ := key k9 a g1
      exact hD1.2 k9 (a.1, e1) f1
  have e1 : σ.1.length - n0 + 1 + N = (znew2 σ N).1.length - n0 := by omega
  have e2 : zsl σ.1 - s0 + N + N * 40 = zsl (znew2 σ N).1 - s0 := by omega
  have e3 : (Value.ref q9 :: r1.map (zt ad xad)) = (.inr (.inr (some (.inr (.array .int, N), σ.1.length))) :: r1).map (zt ad' xad) := by
    rw [List.map_cons, zt_ads hag hr1]
    show _ = Value.ref (ad' σ.1.length) :: _
    rw [hq9]
  rw [e1, e2]
  show W p l e R s m args below meth c H1 locs _ _ Q (F0 m (pc + 4) mls (Value.ref q9 :: r1.map (zt ad xad)))
  rw [e3]
  exact w4 p e R s m args below meth c Q A n0 s0 FX' ad' H1 locs mls (by omega) (by omega) a3 a4 hP2 hD2 hS1 (zLs_ad hag hls hl) (fun ad'' H' locs' mls' pc' f1 => hr ad'' H' locs' mls' pc' (fun k9 hk9 => (f1 k9 (by omega)).trans (hag k9 hk9)))

set_option maxHeartbeats 4000000 in
theorem zi_all {k : zk} (K : zKK l D q4 xad xl X own ini cc nL ret d k r σ') (hxl : ∀ j, 1 ≤ j → j < 4 → xl j = 6) {a b : Nat} {v : Int32} {w : Int64} {wd : Nat} (hI : zInv σ) (hst : ∀ v ∈ st, zok σ.1 xl v) (hls : ∀ (i : Nat) (v : zV), zg ls i = some v → zok σ.1 xl v) (IH : zSND l D q4 xad xl X d) {ins : Instr} (hb1 : zckb1 (ins, a, b, v, w, wd) = true) (hk : zck own ini cc nL pc (ins, a, b, v, w, wd) = true) (h : zins X (zcall X d) ret k pc ls st σ a b v w ins = some (r, σ')) : zWp l D q4 xad xl X own ini cc nL ret d pc ls st σ r σ' := by
  cases ins
  case iconst n => exact zi_iconst K hxl hI hst hls hk h
  case bipush n => exact zi_bipush K hxl hI hst hls hk h
  case sipush n => exact zi_sipush K hxl hI hst hls hk h
  case lconst n => exact zi_lconst K hxl hI hst hls hk h
  case ldc n => exact zi_ldc K hxl hI hst hls hk h
  case ldc_w n => exact zi_ldcw K hxl hI hst hls hk h
  case ldc2_w n => exact zi_ldc2 K hxl hI hst hls hk h
  case aconst_null => exact zi_null K hxl hI hst hls hk h
  case iload n => exact zi_iload K hxl hI hst hls hk h
  case iload_n n => exact zi_iload_n K hxl hI hst hls hk h
  case lload n => exact zi_lload K hxl hI hst hls hk h
  case lload_n n => exact zi_lload_n K hxl hI hst hls hk h
  case aload n => exact zi_aload K hxl hI hst hls hk h
  case aload_n n => exact zi_aload_n K hxl hI hst hls hk h
  case istore n => exact zi_istore K hxl hI hst hls hk h
  case istore_n n => exact zi_istore_n K hxl hI hst hls hk h
  case lstore n => exact zi_lstore K hxl hI hst hls hk h
  case lstore_n n => exact zi_lstore_n K hxl hI hst hls hk h
  case astore n => exact zi_astore K hxl hI hst hls hk h
  case astore_n n => exact zi_astore_n K hxl hI hst hls hk h
  case iinc n n2 => exact zi_iinc K hxl hI hst hls hk h
  case iadd => exact zi_iadd K hxl hI hst hls hk h
  case isub => exact zi_isub K hxl hI hst hls hk h
  case imul => exact zi_imul K hxl hI hst hls hk h
  case iand => exact zi_iand K hxl hI hst hls hk h
  case ior => exact zi_ior K hxl hI hst hls hk h
  case ixor => exact zi_ixor K hxl hI hst hls hk h
  case ishl => exact zi_ishl K hxl hI hst hls hk h
  case ishr => exact zi_ishr K hxl hI hst hls hk h
  case iushr => exact zi_iushr K hxl hI hst hls hk h
  case ladd => exact zi_ladd K hxl hI hst hls hk h
  case lsub => exact zi_lsub K hxl hI hst hls hk h
  case lmul => exact zi_lmul K hxl hI hst hls hk h
  case lcmp => exact zi_lcmp K hxl hI hst hls hk h
  case idiv => exact zi_idiv K hxl hI hst hls hk h
  case irem => exact zi_irem K hxl hI hst hls hk h
  case ldiv => exact zi_ldiv K hxl hI hst hls hk h
  case lrem => exact zi_lrem K hxl hI hst hls hk h
  case ineg => exact zi_ineg K hxl hI hst hls hk h
  case i2l => exact zi_i2l K hxl hI hst hls hk h
  case l2i => exact zi_l2i K hxl hI hst hls hk h
  case i2b => exact zi_i2b K hxl hI hst hls hk h
  case i2s => exact zi_i2s K hxl hI hst hls hk h
  case dup => exact zi_dup K hxl hI hst hls hk h
  case dup2 => exact zi_dup2 K hxl hI hst hls hk h
  case iaload => exact zi_iaload K hxl hI hst hls hk h
  case iastore => exact zi_iastore K hxl hI hst hls hk h
  case baload => exact zi_baload K hxl hI hst hls hk h
  case bastore => exact zi_bastore K hxl hI hst hls hk h
  case aaload => exact zi_aaload K hxl hI hst hls hk h
  case aastore => exact zi_aastore K hxl hI hst hls hk h
  case arraylength => exact zi_arraylength K hxl hI hst hls hk h
  case ireturn => exact zi_ireturn K hxl hI hst hls hk h
  case lreturn => exact zi_lreturn K hxl hI hst hls hk h
  case areturn => exact zi_areturn K hxl hI hst hls hk h
  case return_ => exact zi_return_ K hxl hI hst hls hk h
  case goto n => exact zi_goto K hxl hI hst hls hk h
  case ifnull n => exact zi_ifnull K hxl hI hst hls hk h
  case ifnonnull n => exact zi_ifnonnull K hxl hI hst hls hk h
  case getstatic n => exact zi_getstatic K hxl hI hst hls hk h
  case getfield n => exact zi_getfield K hxl hI hst hls hk h
  case putfield n => exact zi_putfield K hxl hI hst hls hk h
  case new n => exact zi_new K hxl hI hst hls hk h
  case anewarray n => exact zi_anewarray K hxl hI hst hls hk h
  case multianewarray n n2 => exact zi_multi K hxl hI hst hls hk h
  case tableswitch n n2 n3 n4 => exact zi_tableswitch K hxl hI hst hls hk h
  case lookupswitch n n2 => exact zi_lookupswitch K hxl hI hst hls hk h
  case ifCond c9 n => cases c9 <;> first | exact zi_if_eq K hxl hI hst hls hk h | exact zi_if_ne K hxl hI hst hls hk h | exact zi_if_lt K hxl hI hst hls hk h | exact zi_if_ge K hxl hI hst hls hk h | exact zi_if_gt K hxl hI hst hls hk h | exact zi_if_le K hxl hI hst hls hk h
  case if_icmp c9 n => cases c9 <;> first | exact zi_icmp_eq K hxl hI hst hls hk h | exact zi_icmp_ne K hxl hI hst hls hk h | exact zi_icmp_lt K hxl hI hst hls hk h | exact zi_icmp_ge K hxl hI hst hls hk h | exact zi_icmp_gt K hxl hI hst hls hk h | exact zi_icmp_le K hxl hI hst hls hk h
  case newarray t => cases t
                     case int => exact zi_newarray_int K hxl hI hst hls hk h
                     case boolean => exact zi_newarray_boolean K hxl hI hst hls hk h
                     all_goals cases h
  case invokevirtual n => cases a with
    | zero => cases h
    | succ y => exact zi_invokevirtual K hxl hI hst hls IH hb1 hk h
  case invokestatic n => cases a with
    | zero => exact zi_copy K hxl hI hst hls hk h
    | succ y => exact zi_invokestatic K hxl hI hst hls IH hb1 hk h
  case invokespecial n => cases a with
    | zero => exact zi_objinit K hxl hI hst hls hk h
    | succ y => exact zi_invokespecial K hxl hI hst hls IH hb1 hk h
  all_goals cases h
theorem zbody (hxl : ∀ j, 1 ≤ j → j < 4 → xl j = 6) (IH : zSND l D q4 xad xl X d) {cd : zC} (hck : zckM own ini cc nL 0 cd = true) (hcb : zckb cd = true) : ∀ (n : Nat), zKK l D q4 xad xl X own ini cc nL ret d (zden X (zcall X d) ret cd n) r σ'
  | 0 => fun pc ls st σ h => by cases h
  | n + 1 => fun pc ls st σ h hI hst hls => by
    have h : zone X (zcall X d) ret cd (zden X (zcall X d) ret cd n) pc ls st σ = some (r, σ') := h
    unfold zone at h
    cases hz : zat cd pc with
    | none => rw [hz] at h; cases h
    | some q =>
      rw [hz] at h
      obtain ⟨ins, a, b, v, w, wd⟩ := q
      have hk := zckM_at hck hz
      rw [Nat.zero_add] at hk
      exact zi_all (zbody hxl IH hck hcb n) hxl hI hst hls IH (zckb_at hcb hz) hk h

end ZSZ
