/-! ===== the picture's cells as the kit's world ===== -/
def zfv (ad : Nat → Nat) (σ : zS) (ci k fi : Nat) : Value := match zfl ci fi with
  | some none => .int (σ.2.2.1 k fi)
  | some (some none) => .long (σ.2.2.2 k fi)
  | some (some (some q)) => match σ.2.1 k fi with
    | true => .ref (ad (k + q.2))
    | false => .null
  | none => .null
def zar (ad : Nat → Nat) (σ : zS) (t : FieldType) (k i : Nat) : Option Nat := match σ.2.1 k i with
  | true => some (ad (zel t k i).2)
  | false => none
def zE (q4 : Nat → ClassId) (ad : Nat → Nat) (σ : zS) (k : Nat) : zK → va_E
  | .inl ci => .inr (ci, (List.range (zft ci).length).map (zfv ad σ ci k))
  | .inr (.boolean, n) => .inl (q4 1, n, .inl (σ.2.2.1 k))
  | .inr (.object c, n) => .inl (q4 2, n, .inr (.inr (.inr (.inr (zar ad σ (.object c) k)))))
  | .inr (.array c, n) => .inl (q4 3, n, .inr (.inr (.inr (.inr (zar ad σ (.array c) k)))))
  | .inr (_, n) => .inl (q4 0, n, .inl (σ.2.2.1 k))
def zW (q4 : Nat → ClassId) (ad : Nat → Nat) (σ : zS) : va_W := (List.range σ.1.length).map (fun k => (ad k, zE q4 ad σ k (σ.1.getD k (.inl 0))))
def zty (q4 : Nat → ClassId) : List (ClassId × FieldType) := [(q4 0, .int), (q4 1, .boolean), (q4 2, .object RX1), (q4 3, .array .int)]
/-- every reference that is laid leads to a cell of its kind -/
def zInv (σ : zS) : Prop := (∀ (k ci fi : Nat) (q : zP), σ.1[k]? = some (.inl ci) → zfl ci fi = some (some (some q)) → σ.2.1 k fi = true → σ.1[k + q.2]? = some q.1) ∧ (∀ (k n i : Nat) (c : String), σ.1[k]? = some (.inr (.object c, n)) → σ.2.1 k i = true → i < n → σ.1[(zel (.object c) k i).2]? = some (zel (.object c) k i).1) ∧ ∀ (k n i : Nat) (c : FieldType), σ.1[k]? = some (.inr (.array c, n)) → σ.2.1 k i = true → i < n → σ.1[(zel (.array c) k i).2]? = some (zel (.array c) k i).1
theorem zW_len (q4 : Nat → ClassId) (ad : Nat → Nat) (σ : zS) : (zW q4 ad σ).length = σ.1.length := by simp [zW]
theorem zW_at {q4 : Nat → ClassId} {ad : Nat → Nat} {σ : zS} {k : Nat} {κ : zK} (h : σ.1[k]? = some κ) : (zW q4 ad σ)[k]? = some (ad k, zE q4 ad σ k κ) := by
  have hk : k < σ.1.length := (List.getElem?_eq_some_iff.mp h).1
  have hd : σ.1.getD k (.inl 0) = κ := by rw [List.getD_eq_getElem?_getD, h]; rfl
  unfold zW
  rw [List.getElem?_map, List.getElem?_range hk]
  show some (ad k, zE q4 ad σ k (σ.1.getD k (.inl 0))) = _
  rw [hd]
theorem zW_inv {q4 : Nat → ClassId} {ad : Nat → Nat} {σ : zS} {k : Nat} {x9 : Nat × va_E} (h : (zW q4 ad σ)[k]? = some x9) : ∃ κ, σ.1[k]? = some κ ∧ x9 = (ad k, zE q4 ad σ k κ) := by
  have hk : k < σ.1.length := by
    have := (List.getElem?_eq_some_iff.mp h).1
    rwa [zW_len] at this
  refine ⟨σ.1[k], List.getElem?_eq_getElem hk, ?_⟩
  have h2 := zW_at (q4 := q4) (ad := ad) (List.getElem?_eq_getElem hk)
  exact Option.some.inj (h.symm.trans h2)
theorem zE_row {q4 : Nat → ClassId} {ad : Nat → Nat} {σ σ' : zS} {k : Nat} (h1 : σ'.2.1 k = σ.2.1 k) (h2 : σ'.2.2.1 k = σ.2.2.1 k) (h3 : σ'.2.2.2 k = σ.2.2.2 k) (κ : zK) : zE q4 ad σ' k κ = zE q4 ad σ k κ := by
  have e1 : ∀ ci, zfv ad σ' ci k = zfv ad σ ci k := fun ci => funext fun fi => by unfold zfv; rw [h1, h2, h3]
  have e2 : ∀ t, zar ad σ' t k = zar ad σ t k := fun t => funext fun i => by unfold zar; rw [h1]
  unfold zE
  rw [h2]
  simp only [e1, e2]
theorem zW_ext {q4 : Nat → ClassId} {a b : va_W} (hl : a.length = b.length) (h : ∀ (k : Nat) (x9 : Nat × va_E), b[k]? = some x9 → a[k]? = some x9) : a = b := by
  refine List.ext_getElem? fun k => ?_
  by_cases hk : k < b.length
  · rw [h k _ (List.getElem?_eq_getElem hk)]
    exact (List.getElem?_eq_getElem hk).symm
  · rw [List.getElem?_eq_none (by omega), List.getElem?_eq_none (by omega)]
theorem zW_set {q4 : Nat → ClassId} {ad : Nat → Nat} {σ σ' : zS} (hL : σ'.1 = σ.1) {k : Nat} {κ : zK} (hk : σ.1[k]? = some κ) (h : ∀ j, j ≠ k → σ'.2.1 j = σ.2.1 j ∧ σ'.2.2.1 j = σ.2.2.1 j ∧ σ'.2.2.2 j = σ.2.2.2 j) {e9 : va_E} (he : e9 = zE q4 ad σ' k κ) : (zW q4 ad σ).set k (ad k, e9) = zW q4 ad σ' := by
  subst he
  refine zW_ext (q4 := q4) (by rw [List.length_set, zW_len, zW_len, hL]) fun j x9 hx => ?_
  obtain ⟨κ', h1, rfl⟩ := zW_inv hx
  rw [hL] at h1
  by_cases hj : j = k
  · subst hj
    cases hk.symm.trans h1
    rw [List.getElem?_set_self (by rw [zW_len]; exact (List.getElem?_eq_some_iff.mp h1).1)]
  · rw [List.getElem?_set_ne (fun q => hj q.symm), zW_at h1, zE_row (h j hj).1 (h j hj).2.1 (h j hj).2.2]
theorem zE_ad {q4 : Nat → ClassId} {ad ad' : Nat → Nat} {σ : zS} (hI : zInv σ) (h : ∀ k, k < σ.1.length → ad' k = ad k) {k : Nat} {κ : zK} (hk : σ.1[k]? = some κ) : zE q4 ad' σ k κ = zE q4 ad σ k κ ∨ (∃ n c, κ = .inr (.array c, n)) ∨ ∃ n c, κ = .inr (.object c, n) := by
  rcases κ with ci | ⟨t, n⟩
  · refine Or.inl ?_
    have e1 : zfv ad' σ ci k = zfv ad σ ci k := funext fun fi => by
      unfold zfv
      rcases hf : zfl ci fi with _ | _ | _ | q
      · rfl
      · rfl
      · rfl
      · show (match σ.2.1 k fi with | true => Value.ref (ad' (k + q.2)) | false => .null) = (match σ.2.1 k fi with | true => Value.ref (ad (k + q.2)) | false => .null)
        cases hb : σ.2.1 k fi
        · rfl
        · show Value.ref (ad' (k + q.2)) = Value.ref (ad (k + q.2))
          rw [h _ (List.getElem?_eq_some_iff.mp (hI.1 k ci fi q hk hf hb)).1]
    unfold zE
    simp only [e1]
  · cases t with
    | object c => exact Or.inr (Or.inr ⟨n, c, rfl⟩)
    | array c => exact Or.inr (Or.inl ⟨n, c, rfl⟩)
    | _ => exact Or.inl rfl
/-- an array of references is what it holds in its places -/
theorem zP_arr {D : va_G} {cl : List vw_C} {a n : Nat} {cA : ClassId} {f g : Nat → Option Nat} {H : Heap} (h : ∀ i, i < n → f i = g i) (hP : va_at D cl (a, .inl (cA, n, .inr (.inr (.inr (.inr f))))) H) : va_at D cl (a, .inl (cA, n, .inr (.inr (.inr (.inr g))))) H := by
  have e : vp_cell cA (n, .inr (.inr (.inr (.inr f)))) = vp_cell cA (n, .inr (.inr (.inr (.inr g)))) := by
    show arrV cA n (fun j => va_rf (f j)) = arrV cA n (fun j => va_rf (g j))
    unfold arrV
    congr 1
    apply congrArg
    funext j
    show va_rf (f j.1) = va_rf (g j.1)
    rw [h j.1 j.2]
  show H[a]? = some (vp_cell cA (n, .inr (.inr (.inr (.inr g)))))
  rw [← e]
  exact hP
theorem zP_ad {D : va_G} {cl : List vw_C} {q4 : Nat → ClassId} {ad ad' : Nat → Nat} {σ : zS} {H : Heap} (hI : zInv σ) (h : ∀ k, k < σ.1.length → ad' k = ad k) (hP : va_P D cl (zW q4 ad σ) H) : va_P D cl (zW q4 ad' σ) H := by
  intro k x9 hx
  obtain ⟨κ, h1, rfl⟩ := zW_inv hx
  have h2 := hP k _ (zW_at h1)
  have hk : ad' k = ad k := h k (List.getElem?_eq_some_iff.mp h1).1
  rw [hk]
  rcases zE_ad (q4 := q4) hI h h1 with e | ⟨n, c, rfl⟩ | ⟨n, c, rfl⟩
  · rw [e]; exact h2
  · refine zP_arr (f := zar ad σ (.array c) k) (fun i hi => ?_) h2
    unfold zar
    cases hb : σ.2.1 k i
    · rfl
    · show some (ad _) = some (ad' _)
      rw [h _ (List.getElem?_eq_some_iff.mp (hI.2.2 k n i c h1 hb hi)).1]
  · refine zP_arr (f := zar ad σ (.object c) k) (fun i hi => ?_) h2
    unfold zar
    cases hb : σ.2.1 k i
    · rfl
    · show some (ad _) = some (ad' _)
      rw [h _ (List.getElem?_eq_some_iff.mp (hI.2.1 k n i c h1 hb hi)).1]
theorem zD_ad {q4 : Nat → ClassId} {A : Nat → Prop} {ad ad' : Nat → Nat} {σ : zS} (h : ∀ k, k < σ.1.length → ad' k = ad k) (hD : va_D A (zW q4 ad σ)) : va_D A (zW q4 ad' σ) := by
  refine ⟨fun i j a b h1 h2 h3 => ?_, fun k a h1 => ?_⟩
  · obtain ⟨κ1, g1, rfl⟩ := zW_inv h1
    obtain ⟨κ2, g2, rfl⟩ := zW_inv h2
    refine hD.1 i j _ _ (zW_at g1) (zW_at g2) ?_
    rw [← h i (List.getElem?_eq_some_iff.mp g1).1, ← h j (List.getElem?_eq_some_iff.mp g2).1]
    exact h3
  · obtain ⟨κ1, g1, rfl⟩ := zW_inv h1
    show A (ad' k)
    rw [h k (List.getElem?_eq_some_iff.mp g1).1]
    exact hD.2 k _ (zW_at g1)
-- values
def zta (ad xad : Nat → Nat) (q : zP) : Nat := match q.1 with
  | .inr (.float, _) => xad q.2
  | _ => ad q.2
def zt (ad xad : Nat → Nat) : zV → Value
  | .inl y => .int y
  | .inr (.inl y) => .long y
  | .inr (.inr none) => .null
  | .inr (.inr (some q)) => .ref (zta ad xad q)
def zok (L : List zK) (xl : Nat → Nat) : zV → Prop
  | .inr (.inr (some q)) => match q.1 with
    | .inr (.float, n) => q.2 < 4 ∧ xl q.2 = n
    | κ => L[q.2]? = some κ
  | _ => True
theorem zok_in {L : List zK} {xl : Nat → Nat} {κ : zK} {k : Nat} (h : zok L xl (.inr (.inr (some (κ, k))))) (hf : ∀ n, κ ≠ .inr (.float, n)) : L[k]? = some κ := by
  unfold zok at h
  rcases κ with ci | ⟨t, n⟩
  · exact h
  · cases t with
    | float => exact absurd rfl (hf n)
    | _ => exact h
theorem zok_of {L : List zK} {xl : Nat → Nat} {κ : zK} {k : Nat} (h : L[k]? = some κ) (hf : ∀ n, κ ≠ .inr (.float, n)) : zok L xl (.inr (.inr (some (κ, k)))) := by
  unfold zok
  rcases κ with ci | ⟨t, n⟩
  · exact h
  · cases t with
    | float => exact absurd rfl (hf n)
    | _ => exact h
theorem zta_in {ad xad : Nat → Nat} {κ : zK} {k : Nat} (hf : ∀ n, κ ≠ .inr (.float, n)) : zta ad xad (κ, k) = ad k := by
  unfold zta
  rcases κ with ci | ⟨t, n⟩
  · rfl
  · cases t with
    | float => exact absurd rfl (hf n)
    | _ => rfl
theorem zok_pre {L L' : List zK} {xl : Nat → Nat} {v : zV} (hp : L <+: L') (h : zok L xl v) : zok L' xl v := by
  rcases v with y | y | _ | ⟨κ, k⟩
  · trivial
  · trivial
  · trivial
  · by_cases hf : ∃ n, κ = .inr (.float, n)
    · obtain ⟨n, rfl⟩ := hf; exact h
    · refine zok_of ?_ (fun n e => hf ⟨n, e⟩)
      have h1 := zok_in h (fun n e => hf ⟨n, e⟩)
      obtain ⟨M, rfl⟩ := hp
      rw [List.getElem?_append_left (List.getElem?_eq_some_iff.mp h1).1]
      exact h1
theorem zt_ad {L : List zK} {xl : Nat → Nat} {ad ad' xad : Nat → Nat} (h : ∀ k, k < L.length → ad' k = ad k) {v : zV} (hv : zok L xl v) : zt ad' xad v = zt ad xad v := by
  rcases v with y | y | _ | ⟨κ, k⟩
  · rfl
  · rfl
  · rfl
  · show Value.ref _ = Value.ref _
    by_cases hf : ∃ n, κ = .inr (.float, n)
    · obtain ⟨n, rfl⟩ := hf; rfl
    · rw [zta_in (fun n e => hf ⟨n, e⟩), zta_in (fun n e => hf ⟨n, e⟩), h k (List.getElem?_eq_some_iff.mp (zok_in hv (fun n e => hf ⟨n, e⟩))).1]
theorem zt_ads {L : List zK} {xl : Nat → Nat} {ad ad' xad : Nat → Nat} (h : ∀ k, k < L.length → ad' k = ad k) {st : List zV} (hv : ∀ v ∈ st, zok L xl v) : st.map (zt ad' xad) = st.map (zt ad xad) := List.map_congr_left fun v hm => zt_ad h (hv v hm)
theorem zt_cat (ad xad : Nat → Nat) (st : List zV) : ((st.map (zt ad xad)).map fun v => v.category).sum = zcat st := by
  induction st with
  | nil => rfl
  | cons v r ih =>
    rw [List.map_cons, List.map_cons, List.sum_cons, ih]
    rcases v with y | y | _ | q <;> rfl
-- locals
def zLs (ad xad : Nat → Nat) (mls : Array Slot) (nL : Nat) (ls : zL) : Prop := mls.size = nL ∧ lv_wf mls ∧ ∀ i v, zg ls i = some v → mls[i]? = some (.val (zt ad xad v))
def zlv (ad xad : Nat → Nat) (ls : zL) : List (Nat × Value) := (List.range ls.length).filterMap (fun i => (zg ls i).map (fun v => (i, zt ad xad v)))
theorem zg_lt : ∀ {ls : zL} {i : Nat} {v : zV}, zg ls i = some v → i < ls.length
  | [], _, _, h => by cases h
  | q :: r, 0, v, _ => Nat.zero_lt_succ _
  | q :: r, i + 1, v, h => Nat.succ_lt_succ (zg_lt (ls := r) h)
theorem zlv_in {ad xad : Nat → Nat} {ls : zL} {i : Nat} {v : zV} (h : zg ls i = some v) : (i, zt ad xad v) ∈ zlv ad xad ls := List.mem_filterMap.mpr ⟨i, List.mem_range.mpr (zg_lt h), by rw [h]; rfl⟩
theorem zLs_has {ad xad : Nat → Nat} {mls : Array Slot} {nL : Nat} {ls : zL} (h : zLs ad xad mls nL ls) : lv_has mls nL (zlv ad xad ls) := by
  refine ⟨h.1, h.2.1, fun q hq => ?_⟩
  obtain ⟨i, -, hi⟩ := List.mem_filterMap.mp hq
  cases hz : zg ls i with
  | none => rw [hz] at hi; cases hi
  | some v =>
    rw [hz] at hi
    cases hi
    exact h.2.2 i v hz
theorem zLs_ad {L : List zK} {xl : Nat → Nat} {ad ad' xad : Nat → Nat} {mls : Array Slot} {nL : Nat} {ls : zL} (h : ∀ k, k < L.length → ad' k = ad k) (ho : ∀ i v, zg ls i = some v → zok L xl v) (hl : zLs ad xad mls nL ls) : zLs ad' xad mls nL ls := ⟨hl.1, hl.2.1, fun i v e => by rw [zt_ad h (ho i v e)]; exact hl.2.2 i v e⟩
theorem zah_le {i : Nat} {q : Option zV} {v : zV} (h : zah i q = some v) : q = some v ∧ (i = 0 → ∀ y, v ≠ .inr (.inl y)) := by
  unfold zah at h
  split at h
  · cases h
  · rename_i h2
    refine ⟨h, fun hi y hv => ?_⟩
    subst hi; subst hv
    exact h2 y rfl h
theorem zs1_at : ∀ {ls : zL} {i j : Nat} {v w : zV}, zg (zs1 ls i v) j = some w → (j = i ∧ w = v) ∨ (j ≠ i ∧ zg ls j = some w ∧ (j + 1 = i → ∀ y, w ≠ .inr (.inl y)))
  | [], _, _, _, _, h => by cases h
  | q :: r, 0, 0, v, w, h => Or.inl ⟨rfl, (Option.some.inj h).symm⟩
  | q :: r, 0, j + 1, v, w, h => Or.inr ⟨by omega, h, fun e => by omega⟩
  | q :: r, i + 1, 0, v, w, h => by
    have h1 := zah_le (show zah i q = some w from h)
    exact Or.inr ⟨by omega, h1.1, fun e => h1.2 (by omega)⟩
  | q :: r, i + 1, j + 1, v, w, h => by
    rcases zs1_at (ls := r) (show zg (zs1 r i v) j = some w from h) with ⟨e, hw⟩ | ⟨e, hw, hz⟩
    · exact Or.inl ⟨by omega, hw⟩
    · exact Or.inr ⟨by omega, hw, fun e2 => hz (by omega)⟩
theorem zs2_at : ∀ {ls : zL} {i j : Nat} {v w : zV}, zg (zs2 ls i v) j = some w → (j = i ∧ w = v) ∨ (j ≠ i ∧ j ≠ i + 1 ∧ zg ls j = some w ∧ (j + 1 = i → ∀ y, w ≠ .inr (.inl y)))
  | [], _, _, _, _, h => by cases h
  | q :: r, 0, 0, v, w, h => Or.inl ⟨rfl, (Option.some.inj h).symm⟩
  | q :: [], 0, j + 1, v, w, h => by cases h
  | q :: q2 :: r, 0, 1, v, w, h => by cases h
  | q :: q2 :: r, 0, j + 2, v, w, h => Or.inr ⟨by omega, by omega, h, fun e => by omega⟩
  | q :: r, i + 1, 0, v, w, h => by
    have h1 := zah_le (show zah i q = some w from h)
    exact Or.inr ⟨by omega, by omega, h1.1, fun e => h1.2 (by omega)⟩
  | q :: r, i + 1, j + 1, v, w, h => by
    rcases zs2_at (ls := r) (show zg (zs2 r i v) j = some w from h) with ⟨e, hw⟩ | ⟨e, e2, hw, hz⟩
    · exact Or.inl ⟨by omega, hw⟩
    · exact Or.inr ⟨by omega, by omega, hw, fun e3 => hz (by omega)⟩
theorem zt_long {ad xad : Nat → Nat} {w : zV} (h : (zt ad xad w).category = 2) : ∃ y, w = .inr (.inl y) := by
  rcases w with y | y | _ | q
  · cases h
  · exact ⟨y, rfl⟩
  · cases h
  · cases h
theorem zLs_s1 {ad xad : Nat → Nat} {mls mls' : Array Slot} {nL i : Nat} {ls : zL} {v : zV} (hl : lv_has mls' nL ((i, zt ad xad v) :: (zlv ad xad ls).filter (fun q => !(q.1 == i) && !(q.1 + 1 == i && q.2.category == 2)))) : zLs ad xad mls' nL (zs1 ls i v) := by
  refine ⟨hl.1, hl.2.1, fun j w h => ?_⟩
  rcases zs1_at h with ⟨rfl, rfl⟩ | ⟨h1, h2, h3⟩
  · exact hl.2.2 (_, _) List.mem_cons_self
  · refine hl.2.2 (j, zt ad xad w) (List.mem_cons_of_mem _ (List.mem_filter.mpr ⟨zlv_in h2, ?_⟩))
    have a1 : (j == i) = false := by simpa using h1
    by_cases a2 : j + 1 = i
    · have a3 : ((zt ad xad w).category == 2) = false := by
        rw [beq_eq_false_iff_ne]
        intro e
        obtain ⟨y, rfl⟩ := zt_long e
        exact h3 a2 y rfl
      simp [a1, a3]
    · simp [a1, a2]
theorem zLs_s2 {ad xad : Nat → Nat} {mls mls' : Array Slot} {nL i : Nat} {ls : zL} {v : zV} (hl : lv_has mls' nL ((i, zt ad xad v) :: (zlv ad xad ls).filter (fun q => !(q.1 == i) && (!(q.1 == i + 1) && !(q.1 + 1 == i && q.2.category == 2))))) : zLs ad xad mls' nL (zs2 ls i v) := by
  refine ⟨hl.1, hl.2.1, fun j w h => ?_⟩
  rcases zs2_at h with ⟨rfl, rfl⟩ | ⟨h1, h0, h2, h3⟩
  · exact hl.2.2 (_, _) List.mem_cons_self
  · refine hl.2.2 (j, zt ad xad w) (List.mem_cons_of_mem _ (List.mem_filter.mpr ⟨zlv_in h2, ?_⟩))
    have a1 : (j == i) = false := by simpa using h1
    have a0 : (j == i + 1) = false := by simpa using h0
    by_cases a2 : j + 1 = i
    · have a3 : ((zt ad xad w).category == 2) = false := by
        rw [beq_eq_false_iff_ne]
        intro e
        obtain ⟨y, rfl⟩ := zt_long e
        exact h3 a2 y rfl
      simp [a1, a0, a3]
    · simp [a1, a0, a2]
theorem zs1_ok {L : List zK} {xl : Nat → Nat} {ls : zL} {i : Nat} {v : zV} (h : ∀ j w, zg ls j = some w → zok L xl w) (hv : zok L xl v) : ∀ j w, zg (zs1 ls i v) j = some w → zok L xl w := fun j w e => by
  rcases zs1_at e with ⟨-, rfl⟩ | ⟨-, h2, -⟩
  · exact hv
  · exact h j w h2
theorem zs2_ok {L : List zK} {xl : Nat → Nat} {ls : zL} {i : Nat} {v : zV} (h : ∀ j w, zg ls j = some w → zok L xl w) (hv : zok L xl v) : ∀ j w, zg (zs2 ls i v) j = some w → zok L xl w := fun j w e => by
  rcases zs2_at e with ⟨-, rfl⟩ | ⟨-, -, h2, -⟩
  · exact hv
  · exact h j w h2
