theorem band {a b : Bool} (h : (a && b) = true) : a = true ∧ b = true := by
  rwa [Bool.and_eq_true] at h
/-- what stays over a method's whole body -/
def zFx (D : va_G) (q4 : Nat → ClassId) (xad xl : Nat → Nat) (X : Nat → Nat → Int32) (p : Program) (R : Room) (s : State) (m : MethodId) (args : Array Value) (meth : Method) (c : Code) (A : Nat → Prop) (own : String) (ini : Bool) (cc : ByteArray) (nL d : Nat) : Prop := p.tables.exec = Jvm.exec ∧ c.code = cc ∧ c.maxLocals = nL ∧ s.vm.findClass own = some m.cls ∧ (∀ w ∈ lw_tbl.filter goodWord, w.before args s = true) ∧ va_K D vwCl (zty q4) s ∧ (∀ q, s.heap.size ≤ q → A q) ∧ zXt xad xl X A s ∧ zNt s ∧ d + 3 ≤ R.frames ∧ 100 * (d + 3) ≤ R.locals ∧ (ini = true → meth.name = "<init>")
def zRET (l : Launch) (D : va_G) (q4 : Nat → ClassId) (xad : Nat → Nat) (p : Program) (e : Env) (R : Room) (s : State) (m : MethodId) (args : Array Value) (below : List Frame) (meth : Method) (c : Code) (Q : State → Prop) (A : Nat → Prop) (cc : ByteArray) (ret : Option FieldType) (n0 s0 : Nat) (ad : Nat → Nat) (n1 : Nat) (r : Option zV) (σ' : zS) : Prop := ∀ (ad' : Nat → Nat) (H' : Heap) (locs' : List Loc) (mls' : Array Slot) (pc' : Nat), (∀ k, k < n1 → ad' k = ad k) → va_P D vwCl (zW q4 ad' σ') H' → va_D A (zW q4 ad' σ') → va_S A s.heap H' locs' → decode cc pc' = .ok (zrd r, 1) → zrt ret r = true → W p l e R s m args below meth c H' locs' (σ'.1.length - n0) (zsl σ'.1 - s0) Q (F0 m pc' mls' (r.toList.map (zt ad' xad)))
/-- from a place of the pure machine on, the machine comes to its end -/
def zWp (l : Launch) (D : va_G) (q4 : Nat → ClassId) (xad xl : Nat → Nat) (X : Nat → Nat → Int32) (own : String) (ini : Bool) (cc : ByteArray) (nL : Nat) (ret : Option FieldType) (d : Nat) (pc : Nat) (ls : zL) (st : List zV) (σ : zS) (r : Option zV) (σ' : zS) : Prop :=
  (σ.1 <+: σ'.1 ∧ zInv σ' ∧ (∀ v, r = some v → zok σ'.1 xl v)) ∧
  ∀ (p : Program) (e : Env) (R : Room) (s : State) (m : MethodId) (args : Array Value) (below : List Frame) (meth : Method) (c : Code) (Q : State → Prop) (A : Nat → Prop) (n0 s0 : Nat), zFx D q4 xad xl X p R s m args meth c A own ini cc nL d → ∀ (ad : Nat → Nat) (H : Heap) (locs : List Loc) (mls : Array Slot), n0 ≤ σ.1.length → s0 ≤ zsl σ.1 → σ'.1.length - n0 ≤ R.cells → zsl σ'.1 - s0 ≤ R.slots → va_P D vwCl (zW q4 ad σ) H → va_D A (zW q4 ad σ) → va_S A s.heap H locs → zLs ad xad mls nL ls → zRET l D q4 xad p e R s m args below meth c Q A cc ret n0 s0 ad σ.1.length r σ' → W p l e R s m args below meth c H locs (σ.1.length - n0) (zsl σ.1 - s0) Q (F0 m pc mls (st.map (zt ad xad)))
section ZST
variable {l : Launch} {D : va_G} {q4 : Nat → ClassId} {xad xl : Nat → Nat} {X : Nat → Nat → Int32} {own : String} {ini : Bool} {cc : ByteArray} {nL d : Nat} {ret : Option FieldType} {pc pc' : Nat} {ls ls' : zL} {st st' : List zV} {σ σ1 σ' : zS} {r : Option zV}

theorem zWp.step (h : zWp l D q4 xad xl X own ini cc nL ret d pc' ls' st' σ r σ') (k : ∀ (p : Program) (e : Env) (R : Room) (s : State) (m : MethodId) (args : Array Value) (below : List Frame) (meth : Method) (c : Code) (Q : State → Prop) (A : Nat → Prop), zFx D q4 xad xl X p R s m args meth c A own ini cc nL d → ∀ (ad : Nat → Nat) (H : Heap) (locs : List Loc) (mls : Array Slot) (cells slots : Nat), va_P D vwCl (zW q4 ad σ) H → va_D A (zW q4 ad σ) → va_S A s.heap H locs → zLs ad xad mls nL ls → (∀ mls' : Array Slot, zLs ad xad mls' nL ls' → W p l e R s m args below meth c H locs cells slots Q (F0 m pc' mls' (st'.map (zt ad xad)))) → W p l e R s m args below meth c H locs cells slots Q (F0 m pc mls (st.map (zt ad xad)))) : zWp l D q4 xad xl X own ini cc nL ret d pc ls st σ r σ' :=
  ⟨h.1, fun p e R s m args below meth c Q A n0 s0 FX ad H locs mls a1 a2 a3 a4 hP hD hS hl hr => k p e R s m args below meth c Q A FX ad H locs mls _ _ hP hD hS hl (fun mls' hl' => h.2 p e R s m args below meth c Q A n0 s0 FX ad H locs mls' a1 a2 a3 a4 hP hD hS hl' hr)⟩
theorem zWp.heap (hL : σ1.1 = σ.1) (h : zWp l D q4 xad xl X own ini cc nL ret d pc' ls st' σ1 r σ') (k : ∀ (p : Program) (e : Env) (R : Room) (s : State) (m : MethodId) (args : Array Value) (below : List Frame) (meth : Method) (c : Code) (Q : State → Prop) (A : Nat → Prop), zFx D q4 xad xl X p R s m args meth c A own ini cc nL d → ∀ (ad : Nat → Nat) (H : Heap) (locs : List Loc) (mls : Array Slot) (cells slots : Nat), va_P D vwCl (zW q4 ad σ) H → va_D A (zW q4 ad σ) → va_S A s.heap H locs → zLs ad xad mls nL ls → (∀ (H1 : Heap) (locs1 : List Loc), va_P D vwCl (zW q4 ad σ1) H1 → va_D A (zW q4 ad σ1) → va_S A s.heap H1 locs1 → W p l e R s m args below meth c H1 locs1 cells slots Q (F0 m pc' mls (st'.map (zt ad xad)))) → W p l e R s m args below meth c H locs cells slots Q (F0 m pc mls (st.map (zt ad xad)))) : zWp l D q4 xad xl X own ini cc nL ret d pc ls st σ r σ' := by
  obtain ⟨h1, h2⟩ := h
  rw [hL] at h1 h2
  exact ⟨h1, fun p e R s m args below meth c Q A n0 s0 FX ad H locs mls a1 a2 a3 a4 hP hD hS hl hr => k p e R s m args below meth c Q A FX ad H locs mls _ _ hP hD hS hl (fun H1 locs1 hP1 hD1 hS1 => h2 p e R s m args below meth c Q A n0 s0 FX ad H1 locs1 mls a1 a2 a3 a4 hP1 hD1 hS1 hl hr)⟩
/-- what is known behind the step -/
def zKK (l : Launch) (D : va_G) (q4 : Nat → ClassId) (xad xl : Nat → Nat) (X : Nat → Nat → Int32) (own : String) (ini : Bool) (cc : ByteArray) (nL : Nat) (ret : Option FieldType) (d : Nat) (k : zk) (r : Option zV) (σ' : zS) : Prop := ∀ (pc : Nat) (ls : zL) (st : List zV) (σ : zS), k pc ls st σ = some (r, σ') → zInv σ → (∀ v ∈ st, zok σ.1 xl v) → (∀ (i : Nat) (v : zV), zg ls i = some v → zok σ.1 xl v) → zWp l D q4 xad xl X own ini cc nL ret d pc ls st σ r σ'

set_option maxHeartbeats 1000000 in
theorem zi_iconst {k : zk} (K : zKK l D q4 xad xl X own ini cc nL ret d k r σ') (hxl : ∀ j, 1 ≤ j → j < 4 → xl j = 6) {a b : Nat} {v : Int32} {w : Int64} {wd : Nat} (hI : zInv σ) (hst : ∀ v ∈ st, zok σ.1 xl v) (hls : ∀ (i : Nat) (v : zV), zg ls i = some v → zok σ.1 xl v) {C : Nat → List zV → zS → Option zR} {n : Int} (hk : zck own ini cc nL pc (.iconst n, a, b, v, w, wd) = true) (h : zins X C ret k pc ls st σ a b v w (.iconst n) = some (r, σ')) : zWp l D q4 xad xl X own ini cc nL ret d pc ls st σ r σ' := by
  obtain ⟨hd, hv⟩ := band hk
  have h : k (pc + 1) ls (.inl v :: st) σ = some (r, σ') := h
  refine (K _ _ _ _ h hI (okc trivial hst) hls).step fun p e R s m args below meth c Q A FX ad H locs mls cells slots hP hD hS hl kk => ?_
  obtain ⟨hx, hb, hml, hown, hts, hK, hA, hX, hN, hRf, hRl, hin⟩ := FX
  exact lv_iconst hx hb (of_decide_eq_true hd) (of_decide_eq_true hv) (kk mls hl)

set_option maxHeartbeats 1000000 in
theorem zi_bipush {k : zk} (K : zKK l D q4 xad xl X own ini cc nL ret d k r σ') (hxl : ∀ j, 1 ≤ j → j < 4 → xl j = 6) {a b : Nat} {v : Int32} {w : Int64} {wd : Nat} (hI : zInv σ) (hst : ∀ v ∈ st, zok σ.1 xl v) (hls : ∀ (i : Nat) (v : zV), zg ls i = some v → zok σ.1 xl v) {C : Nat → List zV → zS → Option zR} {n : Int} (hk : zck own ini cc nL pc (.bipush n, a, b, v, w, wd) = true) (h : zins X C ret k pc ls st σ a b v w (.bipush n) = some (r, σ')) : zWp l D q4 xad xl X own ini cc nL ret d pc ls st σ r σ' := by
  obtain ⟨hd, hv⟩ := band hk
  have h : k (pc + 2) ls (.inl v :: st) σ = some (r, σ') := h
  refine (K _ _ _ _ h hI (okc trivial hst) hls).step fun p e R s m args below meth c Q A FX ad H locs mls cells slots hP hD hS hl kk => ?_
  obtain ⟨hx, hb, hml, hown, hts, hK, hA, hX, hN, hRf, hRl, hin⟩ := FX
  exact lv_bipush hx hb (of_decide_eq_true hd) (of_decide_eq_true hv) (kk mls hl)

set_option maxHeartbeats 1000000 in
theorem zi_sipush {k : zk} (K : zKK l D q4 xad xl X own ini cc nL ret d k r σ') (hxl : ∀ j, 1 ≤ j → j < 4 → xl j = 6) {a b : Nat} {v : Int32} {w : Int64} {wd : Nat} (hI : zInv σ) (hst : ∀ v ∈ st, zok σ.1 xl v) (hls : ∀ (i : Nat) (v : zV), zg ls i = some v → zok σ.1 xl v) {C : Nat → List zV → zS → Option zR} {n : Int} (hk : zck own ini cc nL pc (.sipush n, a, b, v, w, wd) = true) (h : zins X C ret k pc ls st σ a b v w (.sipush n) = some (r, σ')) : zWp l D q4 xad xl X own ini cc nL ret d pc ls st σ r σ' := by
  obtain ⟨hd, hv⟩ := band hk
  have h : k (pc + 3) ls (.inl v :: st) σ = some (r, σ') := h
  refine (K _ _ _ _ h hI (okc trivial hst) hls).step fun p e R s m args below meth c Q A FX ad H locs mls cells slots hP hD hS hl kk => ?_
  obtain ⟨hx, hb, hml, hown, hts, hK, hA, hX, hN, hRf, hRl, hin⟩ := FX
  exact lv_sipush hx hb (of_decide_eq_true hd) (of_decide_eq_true hv) (kk mls hl)

set_option maxHeartbeats 1000000 in
theorem zi_lconst {k : zk} (K : zKK l D q4 xad xl X own ini cc nL ret d k r σ') (hxl : ∀ j, 1 ≤ j → j < 4 → xl j = 6) {a b : Nat} {v : Int32} {w : Int64} {wd : Nat} (hI : zInv σ) (hst : ∀ v ∈ st, zok σ.1 xl v) (hls : ∀ (i : Nat) (v : zV), zg ls i = some v → zok σ.1 xl v) {C : Nat → List zV → zS → Option zR} {n : Fin 2} (hk : zck own ini cc nL pc (.lconst n, a, b, v, w, wd) = true) (h : zins X C ret k pc ls st σ a b v w (.lconst n) = some (r, σ')) : zWp l D q4 xad xl X own ini cc nL ret d pc ls st σ r σ' := by
  obtain ⟨hd, hv⟩ := band hk
  have h : k (pc + 1) ls (.inr (.inl w) :: st) σ = some (r, σ') := h
  refine (K _ _ _ _ h hI (okc trivial hst) hls).step fun p e R s m args below meth c Q A FX ad H locs mls cells slots hP hD hS hl kk => ?_
  obtain ⟨hx, hb, hml, hown, hts, hK, hA, hX, hN, hRf, hRl, hin⟩ := FX
  exact lv_lconst hx hb (of_decide_eq_true hd) (of_decide_eq_true hv) (kk mls hl)

set_option maxHeartbeats 1000000 in
theorem zi_ldc {k : zk} (K : zKK l D q4 xad xl X own ini cc nL ret d k r σ') (hxl : ∀ j, 1 ≤ j → j < 4 → xl j = 6) {a b : Nat} {v : Int32} {w : Int64} {wd : Nat} (hI : zInv σ) (hst : ∀ v ∈ st, zok σ.1 xl v) (hls : ∀ (i : Nat) (v : zV), zg ls i = some v → zok σ.1 xl v) {C : Nat → List zV → zS → Option zR} {n : Nat} (hk : zck own ini cc nL pc (.ldc n, a, b, v, w, wd) = true) (h : zins X C ret k pc ls st σ a b v w (.ldc n) = some (r, σ')) : zWp l D q4 xad xl X own ini cc nL ret d pc ls st σ r σ' := by
  obtain ⟨hd, hv⟩ := band hk
  have h : k (pc + 2) ls (.inl v :: st) σ = some (r, σ') := h
  refine (K _ _ _ _ h hI (okc trivial hst) hls).step fun p e R s m args below meth c Q A FX ad H locs mls cells slots hP hD hS hl kk => ?_
  obtain ⟨hx, hb, hml, hown, hts, hK, hA, hX, hN, hRf, hRl, hin⟩ := FX
  exact lv_ldc hx hb hown (hts _ (List.mem_filter.mpr ⟨tbs (List.mem_of_getElem? (of_decide_eq_true hv)), rfl⟩)) (of_decide_eq_true hd) (kk mls hl)

set_option maxHeartbeats 1000000 in
theorem zi_ldcw {k : zk} (K : zKK l D q4 xad xl X own ini cc nL ret d k r σ') (hxl : ∀ j, 1 ≤ j → j < 4 → xl j = 6) {a b : Nat} {v : Int32} {w : Int64} {wd : Nat} (hI : zInv σ) (hst : ∀ v ∈ st, zok σ.1 xl v) (hls : ∀ (i : Nat) (v : zV), zg ls i = some v → zok σ.1 xl v) {C : Nat → List zV → zS → Option zR} {n : Nat} (hk : zck own ini cc nL pc (.ldc_w n, a, b, v, w, wd) = true) (h : zins X C ret k pc ls st σ a b v w (.ldc_w n) = some (r, σ')) : zWp l D q4 xad xl X own ini cc nL ret d pc ls st σ r σ' := by
  obtain ⟨hd, hv⟩ := band hk
  have h : k (pc + 3) ls (.inl v :: st) σ = some (r, σ') := h
  refine (K _ _ _ _ h hI (okc trivial hst) hls).step fun p e R s m args below meth c Q A FX ad H locs mls cells slots hP hD hS hl kk => ?_
  obtain ⟨hx, hb, hml, hown, hts, hK, hA, hX, hN, hRf, hRl, hin⟩ := FX
  exact lv_ldcw hx hb hown (hts _ (List.mem_filter.mpr ⟨tbs (List.mem_of_getElem? (of_decide_eq_true hv)), rfl⟩)) (of_decide_eq_true hd) (kk mls hl)

set_option maxHeartbeats 1000000 in
theorem zi_ldc2 {k : zk} (K : zKK l D q4 xad xl X own ini cc nL ret d k r σ') (hxl : ∀ j, 1 ≤ j → j < 4 → xl j = 6) {a b : Nat} {v : Int32} {w : Int64} {wd : Nat} (hI : zInv σ) (hst : ∀ v ∈ st, zok σ.1 xl v) (hls : ∀ (i : Nat) (v : zV), zg ls i = some v → zok σ.1 xl v) {C : Nat → List zV → zS → Option zR} {n : Nat} (hk : zck own ini cc nL pc (.ldc2_w n, a, b, v, w, wd) = true) (h : zins X C ret k pc ls st σ a b v w (.ldc2_w n) = some (r, σ')) : zWp l D q4 xad xl X own ini cc nL ret d pc ls st σ r σ' := by
  obtain ⟨hd, hv⟩ := band hk
  have h : k (pc + 3) ls (.inr (.inl w) :: st) σ = some (r, σ') := h
  refine (K _ _ _ _ h hI (okc trivial hst) hls).step fun p e R s m args below meth c Q A FX ad H locs mls cells slots hP hD hS hl kk => ?_
  obtain ⟨hx, hb, hml, hown, hts, hK, hA, hX, hN, hRf, hRl, hin⟩ := FX
  exact lv_ldc2 hx hb hown (hts _ (List.mem_filter.mpr ⟨tbs (List.mem_of_getElem? (of_decide_eq_true hv)), rfl⟩)) (of_decide_eq_true hd) (kk mls hl)

set_option maxHeartbeats 1000000 in
theorem zi_null {k : zk} (K : zKK l D q4 xad xl X own ini cc nL ret d k r σ') (hxl : ∀ j, 1 ≤ j → j < 4 → xl j = 6) {a b : Nat} {v : Int32} {w : Int64} {wd : Nat} (hI : zInv σ) (hst : ∀ v ∈ st, zok σ.1 xl v) (hls : ∀ (i : Nat) (v : zV), zg ls i = some v → zok σ.1 xl v) {C : Nat → List zV → zS → Option zR} (hk : zck own ini cc nL pc (.aconst_null, a, b, v, w, wd) = true) (h : zins X C ret k pc ls st σ a b v w (.aconst_null) = some (r, σ')) : zWp l D q4 xad xl X own ini cc nL ret d pc ls st σ r σ' := by
  have hd := of_decide_eq_true hk
  have h : k (pc + 1) ls (.inr (.inr none) :: st) σ = some (r, σ') := h
  refine (K _ _ _ _ h hI (okc trivial hst) hls).step fun p e R s m args below meth c Q A FX ad H locs mls cells slots hP hD hS hl kk => ?_
  obtain ⟨hx, hb, hml, hown, hts, hK, hA, hX, hN, hRf, hRl, hin⟩ := FX
  exact lv_null hx hb hd (kk mls hl)

set_option maxHeartbeats 1000000 in
theorem zi_iload {k : zk} (K : zKK l D q4 xad xl X own ini cc nL ret d k r σ') (hxl : ∀ j, 1 ≤ j → j < 4 → xl j = 6) {a b : Nat} {v : Int32} {w : Int64} {wd : Nat} (hI : zInv σ) (hst : ∀ v ∈ st, zok σ.1 xl v) (hls : ∀ (i : Nat) (v : zV), zg ls i = some v → zok σ.1 xl v) {C : Nat → List zV → zS → Option zR} {i : Nat} (hk : zck own ini cc nL pc (.iload i, a, b, v, w, wd) = true) (h : zins X C ret k pc ls st σ a b v w (.iload i) = some (r, σ')) : zWp l D q4 xad xl X own ini cc nL ret d pc ls st σ r σ' := by
  obtain ⟨hd, hv⟩ := band hk
  obtain ⟨y, e1, h⟩ := lI_inv h
  refine (K _ _ _ _ h hI (okc trivial hst) hls).step fun p e R s m args below meth c Q A FX ad H locs mls cells slots hP hD hS hl kk => ?_
  obtain ⟨hx, hb, hml, hown, hts, hK, hA, hX, hN, hRf, hRl, hin⟩ := FX
  exact lv_iload hx hb (of_decide_eq_true hd) (by rw [of_decide_eq_true hv]; exact hl.2.2 _ _ e1) (kk mls hl)

set_option maxHeartbeats 1000000 in
theorem zi_iload_n {k : zk} (K : zKK l D q4 xad xl X own ini cc nL ret d k r σ') (hxl : ∀ j, 1 ≤ j → j < 4 → xl j = 6) {a b : Nat} {v : Int32} {w : Int64} {wd : Nat} (hI : zInv σ) (hst : ∀ v ∈ st, zok σ.1 xl v) (hls : ∀ (i : Nat) (v : zV), zg ls i = some v → zok σ.1 xl v) {C : Nat → List zV → zS → Option zR} {i : Fin 4} (hk : zck own ini cc nL pc (.iload_n i, a, b, v, w, wd) = true) (h : zins X C ret k pc ls st σ a b v w (.iload_n i) = some (r, σ')) : zWp l D q4 xad xl X own ini cc nL ret d pc ls st σ r σ' := by
  obtain ⟨hd, hv⟩ := band hk
  obtain ⟨y, e1, h⟩ := lI_inv h
  refine (K _ _ _ _ h hI (okc trivial hst) hls).step fun p e R s m args below meth c Q A FX ad H locs mls cells slots hP hD hS hl kk => ?_
  obtain ⟨hx, hb, hml, hown, hts, hK, hA, hX, hN, hRf, hRl, hin⟩ := FX
  exact lv_iload_n hx hb (of_decide_eq_true hd) (of_decide_eq_true hv) (hl.2.2 _ _ e1) (kk mls hl)

set_option maxHeartbeats 1000000 in
theorem zi_lload {k : zk} (K : zKK l D q4 xad xl X own ini cc nL ret d k r σ') (hxl : ∀ j, 1 ≤ j → j < 4 → xl j = 6) {a b : Nat} {v : Int32} {w : Int64} {wd : Nat} (hI : zInv σ) (hst : ∀ v ∈ st, zok σ.1 xl v) (hls : ∀ (i : Nat) (v : zV), zg ls i = some v → zok σ.1 xl v) {C : Nat → List zV → zS → Option zR} {i : Nat} (hk : zck own ini cc nL pc (.lload i, a, b, v, w, wd) = true) (h : zins X C ret k pc ls st σ a b v w (.lload i) = some (r, σ')) : zWp l D q4 xad xl X own ini cc nL ret d pc ls st σ r σ' := by
  obtain ⟨hd, hv⟩ := band hk
  obtain ⟨y, e1, h⟩ := lJ_inv h
  refine (K _ _ _ _ h hI (okc trivial hst) hls).step fun p e R s m args below meth c Q A FX ad H locs mls cells slots hP hD hS hl kk => ?_
  obtain ⟨hx, hb, hml, hown, hts, hK, hA, hX, hN, hRf, hRl, hin⟩ := FX
  exact lv_lload hx hb (of_decide_eq_true hd) (by rw [of_decide_eq_true hv]; exact hl.2.2 _ _ e1) (kk mls hl)

set_option maxHeartbeats 1000000 in
theorem zi_lload_n {k : zk} (K : zKK l D q4 xad xl X own ini cc nL ret d k r σ') (hxl : ∀ j, 1 ≤ j → j < 4 → xl j = 6) {a b : Nat} {v : Int32} {w : Int64} {wd : Nat} (hI : zInv σ) (hst : ∀ v ∈ st, zok σ.1 xl v) (hls : ∀ (i : Nat) (v : zV), zg ls i = some v → zok σ.1 xl v) {C : Nat → List zV → zS → Option zR} {i : Fin 4} (hk : zck own ini cc nL pc (.lload_n i, a, b, v, w, wd) = true) (h : zins X C ret k pc ls st σ a b v w (.lload_n i) = some (r, σ')) : zWp l D q4 xad xl X own ini cc nL ret d pc ls st σ r σ' := by
  obtain ⟨hd, hv⟩ := band hk
  obtain ⟨y, e1, h⟩ := lJ_inv h
  refine (K _ _ _ _ h hI (okc trivial hst) hls).step fun p e R s m args below meth c Q A FX ad H locs mls cells slots hP hD hS hl kk => ?_
  obtain ⟨hx, hb, hml, hown, hts, hK, hA, hX, hN, hRf, hRl, hin⟩ := FX
  exact lv_lload_n hx hb (of_decide_eq_true hd) (of_decide_eq_true hv) (hl.2.2 _ _ e1) (kk mls hl)

set_option maxHeartbeats 1000000 in
theorem zi_aload {k : zk} (K : zKK l D q4 xad xl X own ini cc nL ret d k r σ') (hxl : ∀ j, 1 ≤ j → j < 4 → xl j = 6) {a b : Nat} {v : Int32} {w : Int64} {wd : Nat} (hI : zInv σ) (hst : ∀ v ∈ st, zok σ.1 xl v) (hls : ∀ (i : Nat) (v : zV), zg ls i = some v → zok σ.1 xl v) {C : Nat → List zV → zS → Option zR} {i : Nat} (hk : zck own ini cc nL pc (.aload i, a, b, v, w, wd) = true) (h : zins X C ret k pc ls st σ a b v w (.aload i) = some (r, σ')) : zWp l D q4 xad xl X own ini cc nL ret d pc ls st σ r σ' := by
  obtain ⟨hd, hv⟩ := band hk
  obtain ⟨y, e1, h⟩ := lQ_inv h
  refine (K _ _ _ _ h hI (okc (hls _ _ e1) hst) hls).step fun p e R s m args below meth c Q A FX ad H locs mls cells slots hP hD hS hl kk => ?_
  obtain ⟨hx, hb, hml, hown, hts, hK, hA, hX, hN, hRf, hRl, hin⟩ := FX
  cases y with
  | none => exact lv_aloadN hx hb (of_decide_eq_true hd) (by rw [of_decide_eq_true hv]; exact hl.2.2 _ _ e1) (kk mls hl)
  | some q => exact lv_aload hx hb (of_decide_eq_true hd) (by rw [of_decide_eq_true hv]; exact hl.2.2 _ _ e1) (kk mls hl)

set_option maxHeartbeats 1000000 in
theorem zi_aload_n {k : zk} (K : zKK l D q4 xad xl X own ini cc nL ret d k r σ') (hxl : ∀ j, 1 ≤ j → j < 4 → xl j = 6) {a b : Nat} {v : Int32} {w : Int64} {wd : Nat} (hI : zInv σ) (hst : ∀ v ∈ st, zok σ.1 xl v) (hls : ∀ (i : Nat) (v : zV), zg ls i = some v → zok σ.1 xl v) {C : Nat → List zV → zS → Option zR} {i : Fin 4} (hk : zck own ini cc nL pc (.aload_n i, a, b, v, w, wd) = true) (h : zins X C ret k pc ls st σ a b v w (.aload_n i) = some (r, σ')) : zWp l D q4 xad xl X own ini cc nL ret d pc ls st σ r σ' := by
  obtain ⟨hd, hv⟩ := band hk
  obtain ⟨y, e1, h⟩ := lQ_inv h
  refine (K _ _ _ _ h hI (okc (hls _ _ e1) hst) hls).step fun p e R s m args below meth c Q A FX ad H locs mls cells slots hP hD hS hl kk => ?_
  obtain ⟨hx, hb, hml, hown, hts, hK, hA, hX, hN, hRf, hRl, hin⟩ := FX
  cases y with
  | none => exact lv_aload_nN hx hb (of_decide_eq_true hd) (of_decide_eq_true hv) (hl.2.2 _ _ e1) (kk mls hl)
  | some q => exact lv_aload_n hx hb (of_decide_eq_true hd) (of_decide_eq_true hv) (hl.2.2 _ _ e1) (kk mls hl)

set_option maxHeartbeats 1000000 in
theorem zi_istore {k : zk} (K : zKK l D q4 xad xl X own ini cc nL ret d k r σ') (hxl : ∀ j, 1 ≤ j → j < 4 → xl j = 6) {a b : Nat} {v : Int32} {w : Int64} {wd : Nat} (hI : zInv σ) (hst : ∀ v ∈ st, zok σ.1 xl v) (hls : ∀ (i : Nat) (v : zV), zg ls i = some v → zok σ.1 xl v) {C : Nat → List zV → zS → Option zR} {i : Nat} (hk : zck own ini cc nL pc (.istore i, a, b, v, w, wd) = true) (h : zins X C ret k pc ls st σ a b v w (.istore i) = some (r, σ')) : zWp l D q4 xad xl X own ini cc nL ret d pc ls st σ r σ' := by
  obtain ⟨hd, hw⟩ := band hk
  obtain ⟨hd, hv⟩ := band hd
  obtain ⟨y, r1, rfl, h⟩ := pI_inv h
  refine (K _ _ _ _ h hI (okt hst) (zs1_ok hls trivial)).step fun p e R s m args below meth c Q A FX ad H locs mls cells slots hP hD hS hl kk => ?_
  obtain ⟨hx, hb, hml, hown, hts, hK, hA, hX, hN, hRf, hRl, hin⟩ := FX
  exact lv_istore (lv := zlv ad xad ls) hx hb (by rw [← of_decide_eq_true hv]; exact of_decide_eq_true hd) (zLs_has hl) (of_decide_eq_true hw) rfl (fun ls' hl' => kk ls' (zLs_s1 (mls := mls) hl'))

set_option maxHeartbeats 1000000 in
theorem zi_istore_n {k : zk} (K : zKK l D q4 xad xl X own ini cc nL ret d k r σ') (hxl : ∀ j, 1 ≤ j → j < 4 → xl j = 6) {a b : Nat} {v : Int32} {w : Int64} {wd : Nat} (hI : zInv σ) (hst : ∀ v ∈ st, zok σ.1 xl v) (hls : ∀ (i : Nat) (v : zV), zg ls i = some v → zok σ.1 xl v) {C : Nat → List zV → zS → Option zR} {i : Fin 4} (hk : zck own ini cc nL pc (.istore_n i, a, b, v, w, wd) = true) (h : zins X C ret k pc ls st σ a b v w (.istore_n i) = some (r, σ')) : zWp l D q4 xad xl X own ini cc nL ret d pc ls st σ r σ' := by
  obtain ⟨hd, hw⟩ := band hk
  obtain ⟨hd, hv⟩ := band hd
  obtain ⟨y, r1, rfl, h⟩ := pI_inv h
  refine (K _ _ _ _ h hI (okt hst) (zs1_ok hls trivial)).step fun p e R s m args below meth c Q A FX ad H locs mls cells slots hP hD hS hl kk => ?_
  obtain ⟨hx, hb, hml, hown, hts, hK, hA, hX, hN, hRf, hRl, hin⟩ := FX
  exact lv_istore_n (lv := zlv ad xad ls) hx hb (of_decide_eq_true hd) (of_decide_eq_true hv) (zLs_has hl) (of_decide_eq_true hw) rfl (fun ls' hl' => kk ls' (zLs_s1 (mls := mls) hl'))

set_option maxHeartbeats 1000000 in
theorem zi_lstore {k : zk} (K : zKK l D q4 xad xl X own ini cc nL ret d k r σ') (hxl : ∀ j, 1 ≤ j → j < 4 → xl j = 6) {a b : Nat} {v : Int32} {w : Int64} {wd : Nat} (hI : zInv σ) (hst : ∀ v ∈ st, zok σ.1 xl v) (hls : ∀ (i : Nat) (v : zV), zg ls i = some v → zok σ.1 xl v) {C : Nat → List zV → zS → Option zR} {i : Nat} (hk : zck own ini cc nL pc (.lstore i, a, b, v, w, wd) = true) (h : zins X C ret k pc ls st σ a b v w (.lstore i) = some (r, σ')) : zWp l D q4 xad xl X own ini cc nL ret d pc ls st σ r σ' := by
  obtain ⟨hd, hw⟩ := band hk
  obtain ⟨hd, hv⟩ := band hd
  obtain ⟨y, r1, rfl, h⟩ := pJ_inv h
  refine (K _ _ _ _ h hI (okt hst) (zs2_ok hls trivial)).step fun p e R s m args below meth c Q A FX ad H locs mls cells slots hP hD hS hl kk => ?_
  obtain ⟨hx, hb, hml, hown, hts, hK, hA, hX, hN, hRf, hRl, hin⟩ := FX
  exact lv_lstore (lv := zlv ad xad ls) hx hb (by rw [← of_decide_eq_true hv]; exact of_decide_eq_true hd) (zLs_has hl) (of_decide_eq_true hw) rfl (fun ls' hl' => kk ls' (zLs_s2 (mls := mls) hl'))

set_option maxHeartbeats 1000000 in
theorem zi_lstore_n {k : zk} (K : zKK l D q4 xad xl X own ini cc nL ret d k r σ') (hxl : ∀ j, 1 ≤ j → j < 4 → xl j = 6) {a b : Nat} {v : Int32} {w : Int64} {wd : Nat} (hI : zInv σ) (hst : ∀ v ∈ st, zok σ.1 xl v) (hls : ∀ (i : Nat) (v : zV), zg ls i = some v → zok σ.1 xl v) {C : Nat → List zV → zS → Option zR} {i : Fin 4} (hk : zck own ini cc nL pc (.lstore_n i, a, b, v, w, wd) = true) (h : zins X C ret k pc ls st σ a b v w (.lstore_n i) = some (r, σ')) : zWp l D q4 xad xl X own ini cc nL ret d pc ls st σ r σ' := by
  obtain ⟨hd, hw⟩ := band hk
  obtain ⟨hd, hv⟩ := band hd
  obtain ⟨y, r1, rfl, h⟩ := pJ_inv h
  refine (K _ _ _ _ h hI (okt hst) (zs2_ok hls trivial)).step fun p e R s m args below meth c Q A FX ad H locs mls cells slots hP hD hS hl kk => ?_
  obtain ⟨hx, hb, hml, hown, hts, hK, hA, hX, hN, hRf, hRl, hin⟩ := FX
  exact lv_lstore_n (lv := zlv ad xad ls) hx hb (of_decide_eq_true hd) (of_decide_eq_true hv) (zLs_has hl) (of_decide_eq_true hw) rfl (fun ls' hl' => kk ls' (zLs_s2 (mls := mls) hl'))

set_option maxHeartbeats 1000000 in
theorem zi_astore {k : zk} (K : zKK l D q4 xad xl X own ini cc nL ret d k r σ') (hxl : ∀ j, 1 ≤ j → j < 4 → xl j = 6) {a b : Nat} {v : Int32} {w : Int64} {wd : Nat} (hI : zInv σ) (hst : ∀ v ∈ st, zok σ.1 xl v) (hls : ∀ (i : Nat) (v : zV), zg ls i = some v → zok σ.1 xl v) {C : Nat → List zV → zS → Option zR} {i : Nat} (hk : zck own ini cc nL pc (.astore i, a, b, v, w, wd) = true) (h : zins X C ret k pc ls st σ a b v w (.astore i) = some (r, σ')) : zWp l D q4 xad xl X own ini cc nL ret d pc ls st σ r σ' := by
  obtain ⟨hd, hw⟩ := band hk
  obtain ⟨hd, hv⟩ := band hd
  obtain ⟨y, r1, rfl, h⟩ := pQ_inv h
  refine (K _ _ _ _ h hI (okt hst) (zs1_ok hls (okh hst))).step fun p e R s m args below meth c Q A FX ad H locs mls cells slots hP hD hS hl kk => ?_
  obtain ⟨hx, hb, hml, hown, hts, hK, hA, hX, hN, hRf, hRl, hin⟩ := FX
  cases y with
  | none => exact lv_astoreN (lv := zlv ad xad ls) hx hb (by rw [← of_decide_eq_true hv]; exact of_decide_eq_true hd) (zLs_has hl) (of_decide_eq_true hw) rfl (fun ls' hl' => kk ls' (zLs_s1 (mls := mls) (v := .inr (.inr none)) hl'))
  | some q => exact lv_astore (lv := zlv ad xad ls) hx hb (by rw [← of_decide_eq_true hv]; exact of_decide_eq_true hd) (zLs_has hl) (of_decide_eq_true hw) rfl (fun ls' hl' => kk ls' (zLs_s1 (mls := mls) (v := .inr (.inr (some q))) hl'))

set_option maxHeartbeats 1000000 in
theorem zi_astore_n {k : zk} (K : zKK l D q4 xad xl X own ini cc nL ret d k r σ') (hxl : ∀ j, 1 ≤ j → j < 4 → xl j = 6) {a b : Nat} {v : Int32} {w : Int64} {wd : Nat} (hI : zInv σ) (hst : ∀ v ∈ st, zok σ.1 xl v) (hls : ∀ (i : Nat) (v : zV), zg ls i = some v → zok σ.1 xl v) {C : Nat → List zV → zS → Option zR} {i : Fin 4} (hk : zck own ini cc nL pc (.astore_n i, a, b, v, w, wd) = true) (h : zins X C ret k pc ls st σ a b v w (.astore_n i) = some (r, σ')) : zWp l D q4 xad xl X own ini cc nL ret d pc ls st σ r σ' := by
  obtain ⟨hd, hw⟩ := band hk
  obtain ⟨hd, hv⟩ := band hd
  obtain ⟨y, r1, rfl, h⟩ := pQ_inv h
  refine (K _ _ _ _ h hI (okt hst) (zs1_ok hls (okh hst))).step fun p e R s m args below meth c Q A FX ad H locs mls cells slots hP hD hS hl kk => ?_
  obtain ⟨hx, hb, hml, hown, hts, hK, hA, hX, hN, hRf, hRl, hin⟩ := FX
  cases y with
  | none => exact lv_astore_nN (lv := zlv ad xad ls) hx hb (of_decide_eq_true hd) (of_decide_eq_true hv) (zLs_has hl) (of_decide_eq_true hw) rfl (fun ls' hl' => kk ls' (zLs_s1 (mls := mls) (v := .inr (.inr none)) hl'))
  | some q => exact lv_astore_n (lv := zlv ad xad ls) hx hb (of_decide_eq_true hd) (of_decide_eq_true hv) (zLs_has hl) (of_decide_eq_true hw) rfl (fun ls' hl' => kk ls' (zLs_s1 (mls := mls) (v := .inr (.inr (some q))) hl'))

set_option maxHeartbeats 1000000 in
theorem zi_iinc {k : zk} (K : zKK l D q4 xad xl X own ini cc nL ret d k r σ') (hxl : ∀ j, 1 ≤ j → j < 4 → xl j = 6) {a b : Nat} {v : Int32} {w : Int64} {wd : Nat} (hI : zInv σ) (hst : ∀ v ∈ st, zok σ.1 xl v) (hls : ∀ (i : Nat) (v : zV), zg ls i = some v → zok σ.1 xl v) {C : Nat → List zV → zS → Option zR} {i : Nat} {n : Int} (hk : zck own ini cc nL pc (.iinc i n, a, b, v, w, wd) = true) (h : zins X C ret k pc ls st σ a b v w (.iinc i n) = some (r, σ')) : zWp l D q4 xad xl X own ini cc nL ret d pc ls st σ r σ' := by
  obtain ⟨hd, hw⟩ := band hk
  obtain ⟨hd, hv⟩ := band hd
  obtain ⟨hd, hi⟩ := band hd
  obtain ⟨y, e1, h⟩ := lI_inv h
  refine (K _ _ _ _ h hI hst (zs1_ok hls trivial)).step fun p e R s m args below meth c Q A FX ad H locs mls cells slots hP hD hS hl kk => ?_
  obtain ⟨hx, hb, hml, hown, hts, hK, hA, hX, hN, hRf, hRl, hin⟩ := FX
  obtain ⟨j, hj⟩ := List.getElem?_of_mem (zlv_in (ad := ad) (xad := xad) e1)
  exact lv_iinc (lv := zlv ad xad ls) (k := j) hx hb (by rw [← of_decide_eq_true hi]; exact of_decide_eq_true hd) (zLs_has hl) hj (by rw [of_decide_eq_true hv]) (of_decide_eq_true hw) rfl (fun ls' hl' => kk ls' (zLs_s1 (mls := mls) (v := .inl (y + v)) hl'))

set_option maxHeartbeats 1000000 in
theorem zi_iadd {k : zk} (K : zKK l D q4 xad xl X own ini cc nL ret d k r σ') (hxl : ∀ j, 1 ≤ j → j < 4 → xl j = 6) {a b : Nat} {v : Int32} {w : Int64} {wd : Nat} (hI : zInv σ) (hst : ∀ v ∈ st, zok σ.1 xl v) (hls : ∀ (i : Nat) (v : zV), zg ls i = some v → zok σ.1 xl v) {C : Nat → List zV → zS → Option zR} (hk : zck own ini cc nL pc (.iadd, a, b, v, w, wd) = true) (h : zins X C ret k pc ls st σ a b v w (.iadd) = some (r, σ')) : zWp l D q4 xad xl X own ini cc nL ret d pc ls st σ r σ' := by
  have hd := of_decide_eq_true hk
  obtain ⟨y, r1, rfl, h⟩ := pI_inv h
  obtain ⟨z, r2, rfl, h⟩ := pI_inv h
  refine (K _ _ _ _ h hI (okc trivial (okt (okt hst))) hls).step fun p e R s m args below meth c Q A FX ad H locs mls cells slots hP hD hS hl kk => ?_
  obtain ⟨hx, hb, hml, hown, hts, hK, hA, hX, hN, hRf, hRl, hin⟩ := FX
  exact lv_iadd hx hb hd (kk mls hl)

set_option maxHeartbeats 1000000 in
theorem zi_isub {k : zk} (K : zKK l D q4 xad xl X own ini cc nL ret d k r σ') (hxl : ∀ j, 1 ≤ j → j < 4 → xl j = 6) {a b : Nat} {v : Int32} {w : Int64} {wd : Nat} (hI : zInv σ) (hst : ∀ v ∈ st, zok σ.1 xl v) (hls : ∀ (i : Nat) (v : zV), zg ls i = some v → zok σ.1 xl v) {C : Nat → List zV → zS → Option zR} (hk : zck own ini cc nL pc (.isub, a, b, v, w, wd) = true) (h : zins X C ret k pc ls st σ a b v w (.isub) = some (r, σ')) : zWp l D q4 xad xl X own ini cc nL ret d pc ls st σ r σ' := by
  have hd := of_decide_eq_true hk
  obtain ⟨y, r1, rfl, h⟩ := pI_inv h
  obtain ⟨z, r2, rfl, h⟩ := pI_inv h
  refine (K _ _ _ _ h hI (okc trivial (okt (okt hst))) hls).step fun p e R s m args below meth c Q A FX ad H locs mls cells slots hP hD hS hl kk => ?_
  obtain ⟨hx, hb, hml, hown, hts, hK, hA, hX, hN, hRf, hRl, hin⟩ := FX
  exact lv_isub hx hb hd (kk mls hl)

set_option maxHeartbeats 1000000 in
theorem zi_imul {k : zk} (K : zKK l D q4 xad xl X own ini cc nL ret d k r σ') (hxl : ∀ j, 1 ≤ j → j < 4 → xl j = 6) {a b : Nat} {v : Int32} {w : Int64} {wd : Nat} (hI : zInv σ) (hst : ∀ v ∈ st, zok σ.1 xl v) (hls : ∀ (i : Nat) (v : zV), zg ls i = some v → zok σ.1 xl v) {C : Nat → List zV → zS → Option zR} (hk : zck own ini cc nL pc (.imul, a, b, v, w, wd) = true) (h : zins X C ret k pc ls st σ a b v w (.imul) = some (r, σ')) : zWp l D q4 xad xl X own ini cc nL ret d pc ls st σ r σ' := by
  have hd := of_decide_eq_true hk
  obtain ⟨y, r1, rfl, h⟩ := pI_inv h
  obtain ⟨z, r2, rfl, h⟩ := pI_inv h
  refine (K _ _ _ _ h hI (okc trivial (okt (okt hst))) hls).step fun p e R s m args below meth c Q A FX ad H locs mls cells slots hP hD hS hl kk => ?_
  obtain ⟨hx, hb, hml, hown, hts, hK, hA, hX, hN, hRf, hRl, hin⟩ := FX
  exact lv_imul hx hb hd (kk mls hl)

set_option maxHeartbeats 1000000 in
theorem zi_iand {k : zk} (K : zKK l D q4 xad xl X own ini cc nL ret d k r σ') (hxl : ∀ j, 1 ≤ j → j < 4 → xl j = 6) {a b : Nat} {v : Int32} {w : Int64} {wd : Nat} (hI : zInv σ) (hst : ∀ v ∈ st, zok σ.1 xl v) (hls : ∀ (i : Nat) (v : zV), zg ls i = some v → zok σ.1 xl v) {C : Nat → List zV → zS → Option zR} (hk : zck own ini cc nL pc (.iand, a, b, v, w, wd) = true) (h : zins X C ret k pc ls st σ a b v w (.iand) = some (r, σ')) : zWp l D q4 xad xl X own ini cc nL ret d pc ls st σ r σ' := by
  have hd := of_decide_eq_true hk
  obtain ⟨y, r1, rfl, h⟩ := pI_inv h
  obtain ⟨z, r2, rfl, h⟩ := pI_inv h
  refine (K _ _ _ _ h hI (okc trivial (okt (okt hst))) hls).step fun p e R s m args below meth c Q A FX ad H locs mls cells slots hP hD hS hl kk => ?_
  obtain ⟨hx, hb, hml, hown, hts, hK, hA, hX, hN, hRf, hRl, hin⟩ := FX
  exact lv_iand hx hb hd (kk mls hl)

set_option maxHeartbeats 1000000 in
theorem zi_ior {k : zk} (K : zKK l D q4 xad xl X own ini cc nL ret d k r σ') (hxl : ∀ j, 1 ≤ j → j < 4 → xl j = 6) {a b : Nat} {v : Int32} {w : Int64} {wd : Nat} (hI : zInv σ) (hst : ∀ v ∈ st, zok σ.1 xl v) (hls : ∀ (i : Nat) (v : zV), zg ls i = some v → zok σ.1 xl v) {C : Nat → List zV → zS → Option zR} (hk : zck own ini cc nL pc (.ior, a, b, v, w, wd) = true) (h : zins X C ret k pc ls st σ a b v w (.ior) = some (r, σ')) : zWp l D q4 xad xl X own ini cc nL ret d pc ls st σ r σ' := by
  have hd := of_decide_eq_true hk
  obtain ⟨y, r1, rfl, h⟩ := pI_inv h
  obtain ⟨z, r2, rfl, h⟩ := pI_inv h
  refine (K _ _ _ _ h hI (okc trivial (okt (okt hst))) hls).step fun p e R s m args below meth c Q A FX ad H locs mls cells slots hP hD hS hl kk => ?_
  obtain ⟨hx, hb, hml, hown, hts, hK, hA, hX, hN, hRf, hRl, hin⟩ := FX
  exact lv_ior hx hb hd (kk mls hl)

set_option maxHeartbeats 1000000 in
theorem zi_ixor {k : zk} (K : zKK l D q4 xad xl X own ini cc nL ret d k r σ') (hxl : ∀ j, 1 ≤ j → j < 4 → xl j = 6) {a b : Nat} {v : Int32} {w : Int64} {wd : Nat} (hI : zInv σ) (hst : ∀ v ∈ st, zok σ.1 xl v) (hls : ∀ (i : Nat) (v : zV), zg ls i = some v → zok σ.1 xl v) {C : Nat → List zV → zS → Option zR} (hk : zck own ini cc nL pc (.ixor, a, b, v, w, wd) = true) (h : zins X C ret k pc ls st σ a b v w (.ixor) = some (r, σ')) : zWp l D q4 xad xl X own ini cc nL ret d pc ls st σ r σ' := by
  have hd := of_decide_eq_true hk
  obtain ⟨y, r1, rfl, h⟩ := pI_inv h
  obtain ⟨z, r2, rfl, h⟩ := pI_inv h
  refine (K _ _ _ _ h hI (okc trivial (okt (okt hst))) hls).step fun p e R s m args below meth c Q A FX ad H locs mls cells slots hP hD hS hl kk => ?_
  obtain ⟨hx, hb, hml, hown, hts, hK, hA, hX, hN, hRf, hRl, hin⟩ := FX
  exact lv_ixor hx hb hd (kk mls hl)

set_option maxHeartbeats 1000000 in
theorem zi_ishl {k : zk} (K : zKK l D q4 xad xl X own ini cc nL ret d k r σ') (hxl : ∀ j, 1 ≤ j → j < 4 → xl j = 6) {a b : Nat} {v : Int32} {w : Int64} {wd : Nat} (hI : zInv σ) (hst : ∀ v ∈ st, zok σ.1 xl v) (hls : ∀ (i : Nat) (v : zV), zg ls i = some v → zok σ.1 xl v) {C : Nat → List zV → zS → Option zR} (hk : zck own ini cc nL pc (.ishl, a, b, v, w, wd) = true) (h : zins X C ret k pc ls st σ a b v w (.ishl) = some (r, σ')) : zWp l D q4 xad xl X own ini cc nL ret d pc ls st σ r σ' := by
  have hd := of_decide_eq_true hk
  obtain ⟨y, r1, rfl, h⟩ := pI_inv h
  obtain ⟨z, r2, rfl, h⟩ := pI_inv h
  refine (K _ _ _ _ h hI (okc trivial (okt (okt hst))) hls).step fun p e R s m args below meth c Q A FX ad H locs mls cells slots hP hD hS hl kk => ?_
  obtain ⟨hx, hb, hml, hown, hts, hK, hA, hX, hN, hRf, hRl, hin⟩ := FX
  exact lv_ishl hx hb hd (kk mls hl)

set_option maxHeartbeats 1000000 in
theorem zi_ishr {k : zk} (K : zKK l D q4 xad xl X own ini cc nL ret d k r σ') (hxl : ∀ j, 1 ≤ j → j < 4 → xl j = 6) {a b : Nat} {v : Int32} {w : Int64} {wd : Nat} (hI : zInv σ) (hst : ∀ v ∈ st, zok σ.1 xl v) (hls : ∀ (i : Nat) (v : zV), zg ls i = some v → zok σ.1 xl v) {C : Nat → List zV → zS → Option zR} (hk : zck own ini cc nL pc (.ishr, a, b, v, w, wd) = true) (h : zins X C ret k pc ls st σ a b v w (.ishr) = some (r, σ')) : zWp l D q4 xad xl X own ini cc nL ret d pc ls st σ r σ' := by
  have hd := of_decide_eq_true hk
  obtain ⟨y, r1, rfl, h⟩ := pI_inv h
  obtain ⟨z, r2, rfl, h⟩ := pI_inv h
  refine (K _ _ _ _ h hI (okc trivial (okt (okt hst))) hls).step fun p e R s m args below meth c Q A FX ad H locs mls cells slots hP hD hS hl kk => ?_
  obtain ⟨hx, hb, hml, hown, hts, hK, hA, hX, hN, hRf, hRl, hin⟩ := FX
  exact lv_ishr hx hb hd (kk mls hl)

set_option maxHeartbeats 1000000 in
theorem zi_iushr {k : zk} (K : zKK l D q4 xad xl X own ini cc nL ret d k r σ') (hxl : ∀ j, 1 ≤ j → j < 4 → xl j = 6) {a b : Nat} {v : Int32} {w : Int64} {wd : Nat} (hI : zInv σ) (hst : ∀ v ∈ st, zok σ.1 xl v) (hls : ∀ (i : Nat) (v : zV), zg ls i = some v → zok σ.1 xl v) {C : Nat → List zV → zS → Option zR} (hk : zck own ini cc nL pc (.iushr, a, b, v, w, wd) = true) (h : zins X C ret k pc ls st σ a b v w (.iushr) = some (r, σ')) : zWp l D q4 xad xl X own ini cc nL ret d pc ls st σ r σ' := by
  have hd := of_decide_eq_true hk
  obtain ⟨y, r1, rfl, h⟩ := pI_inv h
  obtain ⟨z, r2, rfl, h⟩ := pI_inv h
  refine (K _ _ _ _ h hI (okc trivial (okt (okt hst))) hls).step fun p e R s m args below meth c Q A FX ad H locs mls cells slots hP hD hS hl kk => ?_
  obtain ⟨hx, hb, hml, hown, hts, hK, hA, hX, hN, hRf, hRl, hin⟩ := FX
  exact lv_iushr hx hb hd rfl (kk mls hl)

set_option maxHeartbeats 1000000 in
theorem zi_ladd {k : zk} (K : zKK l D q4 xad xl X own ini cc nL ret d k r σ') (hxl : ∀ j, 1 ≤ j → j < 4 → xl j = 6) {a b : Nat} {v : Int32} {w : Int64} {wd : Nat} (hI : zInv σ) (hst : ∀ v ∈ st, zok σ.1 xl v) (hls : ∀ (i : Nat) (v : zV), zg ls i = some v → zok σ.1 xl v) {C : Nat → List zV → zS → Option zR} (hk : zck own ini cc nL pc (.ladd, a, b, v, w, wd) = true) (h : zins X C ret k pc ls st σ a b v w (.ladd) = some (r, σ')) : zWp l D q4 xad xl X own ini cc nL ret d pc ls st σ r σ' := by
  have hd := of_decide_eq_true hk
  obtain ⟨y, r1, rfl, h⟩ := pJ_inv h
  obtain ⟨z, r2, rfl, h⟩ := pJ_inv h
  refine (K _ _ _ _ h hI (okc trivial (okt (okt hst))) hls).step fun p e R s m args below meth c Q A FX ad H locs mls cells slots hP hD hS hl kk => ?_
  obtain ⟨hx, hb, hml, hown, hts, hK, hA, hX, hN, hRf, hRl, hin⟩ := FX
  exact lv_ladd hx hb hd (kk mls hl)

set_option maxHeartbeats 1000000 in
theorem zi_lsub {k : zk} (K : zKK l D q4 xad xl X own ini cc nL ret d k r σ') (hxl : ∀ j, 1 ≤ j → j < 4 → xl j = 6) {a b : Nat} {v : Int32} {w : Int64} {wd : Nat} (hI : zInv σ) (hst : ∀ v ∈ st, zok σ.1 xl v) (hls : ∀ (i : Nat) (v : zV), zg ls i = some v → zok σ.1 xl v) {C : Nat → List zV → zS → Option zR} (hk : zck own ini cc nL pc (.lsub, a, b, v, w, wd) = true) (h : zins X C ret k pc ls st σ a b v w (.lsub) = some (r, σ')) : zWp l D q4 xad xl X own ini cc nL ret d pc ls st σ r σ' := by
  have hd := of_decide_eq_true hk
  obtain ⟨y, r1, rfl, h⟩ := pJ_inv h
  obtain ⟨z, r2, rfl, h⟩ := pJ_inv h
  refine (K _ _ _ _ h hI (okc trivial (okt (okt hst))) hls).step fun p e R s m args below meth c Q A FX ad H locs mls cells slots hP hD hS hl kk => ?_
  obtain ⟨hx, hb, hml, hown, hts, hK, hA, hX, hN, hRf, hRl, hin⟩ := FX
  exact lv_lsub hx hb hd (kk mls hl)

set_option maxHeartbeats 1000000 in
theorem zi_lmul {k : zk} (K : zKK l D q4 xad xl X own ini cc nL ret d k r σ') (hxl : ∀ j, 1 ≤ j → j < 4 → xl j = 6) {a b : Nat} {v : Int32} {w : Int64} {wd : Nat} (hI : zInv σ) (hst : ∀ v ∈ st, zok σ.1 xl v) (hls : ∀ (i : Nat) (v : zV), zg ls i = some v → zok σ.1 xl v) {C : Nat → List zV → zS → Option zR} (hk : zck own ini cc nL pc (.lmul, a, b, v, w, wd) = true) (h : zins X C ret k pc ls st σ a b v w (.lmul) = some (r, σ')) : zWp l D q4 xad xl X own ini cc nL ret d pc ls st σ r σ' := by
  have hd := of_decide_eq_true hk
  obtain ⟨y, r1, rfl, h⟩ := pJ_inv h
  obtain ⟨z, r2, rfl, h⟩ := pJ_inv h
  refine (K _ _ _ _ h hI (okc trivial (okt (okt hst))) hls).step fun p e R s m args below meth c Q A FX ad H locs mls cells slots hP hD hS hl kk => ?_
  obtain ⟨hx, hb, hml, hown, hts, hK, hA, hX, hN, hRf, hRl, hin⟩ := FX
  exact lv_lmul hx hb hd (kk mls hl)

set_option maxHeartbeats 1000000 in
theorem zi_lcmp {k : zk} (K : zKK l D q4 xad xl X own ini cc nL ret d k r σ') (hxl : ∀ j, 1 ≤ j → j < 4 → xl j = 6) {a b : Nat} {v : Int32} {w : Int64} {wd : Nat} (hI : zInv σ) (hst : ∀ v ∈ st, zok σ.1 xl v) (hls : ∀ (i : Nat) (v : zV), zg ls i = some v → zok σ.1 xl v) {C : Nat → List zV → zS → Option zR} (hk : zck own ini cc nL pc (.lcmp, a, b, v, w, wd) = true) (h : zins X C ret k pc ls st σ a b v w (.lcmp) = some (r, σ')) : zWp l D q4 xad xl X own ini cc nL ret d pc ls st σ r σ' := by
  have hd := of_decide_eq_true hk
  obtain ⟨y, r1, rfl, h⟩ := pJ_inv h
  obtain ⟨z, r2, rfl, h⟩ := pJ_inv h
  refine (K _ _ _ _ h hI (okc trivial (okt (okt hst))) hls).step fun p e R s m args below meth c Q A FX ad H locs mls cells slots hP hD hS hl kk => ?_
  obtain ⟨hx, hb, hml, hown, hts, hK, hA, hX, hN, hRf, hRl, hin⟩ := FX
  exact W.lcmp hx hb hd (kk mls hl)

set_option maxHeartbeats 1000000 in
theorem zi_idiv {k : zk} (K : zKK l D q4 xad xl X own ini cc nL ret d k r σ') (hxl : ∀ j, 1 ≤ j → j < 4 → xl j = 6) {a b : Nat} {v : Int32} {w : Int64} {wd : Nat} (hI : zInv σ) (hst : ∀ v ∈ st, zok σ.1 xl v) (hls : ∀ (i : Nat) (v : zV), zg ls i = some v → zok σ.1 xl v) {C : Nat → List zV → zS → Option zR} (hk : zck own ini cc nL pc (.idiv, a, b, v, w, wd) = true) (h : zins X C ret k pc ls st σ a b v w (.idiv) = some (r, σ')) : zWp l D q4 xad xl X own ini cc nL ret d pc ls st σ r σ' := by
  have hd := of_decide_eq_true hk
  obtain ⟨y, r1, rfl, h1⟩ := pI_inv h
  obtain ⟨z, r2, rfl, h2⟩ := pI_inv h1
  by_cases hy : y = 0
  · have h3 := (if_pos hy).symm.trans h2
    cases h3
  · have h3 := (if_neg hy).symm.trans h2
    refine (K _ _ _ _ h3 hI (okc trivial (okt (okt hst))) hls).step fun p e R s m args below meth c Q A FX ad H locs mls cells slots hP hD hS hl kk => ?_
    obtain ⟨hx, hb, hml, hown, hts, hK, hA, hX, hN, hRf, hRl, hin⟩ := FX
    exact lv_idiv hx hb hd hy (kk mls hl)

set_option maxHeartbeats 1000000 in
theorem zi_irem {k : zk} (K : zKK l D q4 xad xl X own ini cc nL ret d k r σ') (hxl : ∀ j, 1 ≤ j → j < 4 → xl j = 6) {a b : Nat} {v : Int32} {w : Int64} {wd : Nat} (hI : zInv σ) (hst : ∀ v ∈ st, zok σ.1 xl v) (hls : ∀ (i : Nat) (v : zV), zg ls i = some v → zok σ.1 xl v) {C : Nat → List zV → zS → Option zR} (hk : zck own ini cc nL pc (.irem, a, b, v, w, wd) = true) (h : zins X C ret k pc ls st σ a b v w (.irem) = some (r, σ')) : zWp l D q4 xad xl X own ini cc nL ret d pc ls st σ r σ' := by
  have hd := of_decide_eq_true hk
  obtain ⟨y, r1, rfl, h1⟩ := pI_inv h
  obtain ⟨z, r2, rfl, h2⟩ := pI_inv h1
  by_cases hy : y = 0
  · have h3 := (if_pos hy).symm.trans h2
    cases h3
  · have h3 := (if_neg hy).symm.trans h2
    refine (K _ _ _ _ h3 hI (okc trivial (okt (okt hst))) hls).step fun p e R s m args below meth c Q A FX ad H locs mls cells slots hP hD hS hl kk => ?_
    obtain ⟨hx, hb, hml, hown, hts, hK, hA, hX, hN, hRf, hRl, hin⟩ := FX
    exact lv_irem hx hb hd hy (kk mls hl)

set_option maxHeartbeats 1000000 in
theorem zi_ldiv {k : zk} (K : zKK l D q4 xad xl X own ini cc nL ret d k r σ') (hxl : ∀ j, 1 ≤ j → j < 4 → xl j = 6) {a b : Nat} {v : Int32} {w : Int64} {wd : Nat} (hI : zInv σ) (hst : ∀ v ∈ st, zok σ.1 xl v) (hls : ∀ (i : Nat) (v : zV), zg ls i = some v → zok σ.1 xl v) {C : Nat → List zV → zS → Option zR} (hk : zck own ini cc nL pc (.ldiv, a, b, v, w, wd) = true) (h : zins X C ret k pc ls st σ a b v w (.ldiv) = some (r, σ')) : zWp l D q4 xad xl X own ini cc nL ret d pc ls st σ r σ' := by
  have hd := of_decide_eq_true hk
  obtain ⟨y, r1, rfl, h1⟩ := pJ_inv h
  obtain ⟨z, r2, rfl, h2⟩ := pJ_inv h1
  by_cases hy : y = 0
  · have h3 := (if_pos hy).symm.trans h2
    cases h3
  · have h3 := (if_neg hy).symm.trans h2
    refine (K _ _ _ _ h3 hI (okc trivial (okt (okt hst))) hls).step fun p e R s m args below meth c Q A FX ad H locs mls cells slots hP hD hS hl kk => ?_
    obtain ⟨hx, hb, hml, hown, hts, hK, hA, hX, hN, hRf, hRl, hin⟩ := FX
    exact lv_ldiv hx hb hd hy (kk mls hl)

set_option maxHeartbeats 1000000 in
theorem zi_lrem {k : zk} (K : zKK l D q4 xad xl X own ini cc nL ret d k r σ') (hxl : ∀ j, 1 ≤ j → j < 4 → xl j = 6) {a b : Nat} {v : Int32} {w : Int64} {wd : Nat} (hI : zInv σ) (hst : ∀ v ∈ st, zok σ.1 xl v) (hls : ∀ (i : Nat) (v : zV), zg ls i = some v → zok σ.1 xl v) {C : Nat → List zV → zS → Option zR} (hk : zck own ini cc nL pc (.lrem, a, b, v, w, wd) = true) (h : zins X C ret k pc ls st σ a b v w (.lrem) = some (r, σ')) : zWp l D q4 xad xl X own ini cc nL ret d pc ls st σ r σ' := by
  have hd := of_decide_eq_true hk
  obtain ⟨y, r1, rfl, h1⟩ := pJ_inv h
  obtain ⟨z, r2, rfl, h2⟩ := pJ_inv h1
  by_cases hy : y = 0
  · have h3 := (if_pos hy).symm.trans h2
    cases h3
  · have h3 := (if_neg hy).symm.trans h2
    refine (K _ _ _ _ h3 hI (okc trivial (okt (okt hst))) hls).step fun p e R s m args below meth c Q A FX ad H locs mls cells slots hP hD hS hl kk => ?_
    obtain ⟨hx, hb, hml, hown, hts, hK, hA, hX, hN, hRf, hRl, hin⟩ := FX
    exact lv_lrem hx hb hd hy (kk mls hl)

set_option maxHeartbeats 1000000 in
theorem zi_ineg {k : zk} (K : zKK l D q4 xad xl X own ini cc nL ret d k r σ') (hxl : ∀ j, 1 ≤ j → j < 4 → xl j = 6) {a b : Nat} {v : Int32} {w : Int64} {wd : Nat} (hI : zInv σ) (hst : ∀ v ∈ st, zok σ.1 xl v) (hls : ∀ (i : Nat) (v : zV), zg ls i = some v → zok σ.1 xl v) {C : Nat → List zV → zS → Option zR} (hk : zck own ini cc nL pc (.ineg, a, b, v, w, wd) = true) (h : zins X C ret k pc ls st σ a b v w (.ineg) = some (r, σ')) : zWp l D q4 xad xl X own ini cc nL ret d pc ls st σ r σ' := by
  have hd := of_decide_eq_true hk
  obtain ⟨y, r1, rfl, h⟩ := pI_inv h
  refine (K _ _ _ _ h hI (okc trivial (okt hst)) hls).step fun p e R s m args below meth c Q A FX ad H locs mls cells slots hP hD hS hl kk => ?_
  obtain ⟨hx, hb, hml, hown, hts, hK, hA, hX, hN, hRf, hRl, hin⟩ := FX
  exact lv_ineg hx hb hd (kk mls hl)

set_option maxHeartbeats 1000000 in
theorem zi_i2l {k : zk} (K : zKK l D q4 xad xl X own ini cc nL ret d k r σ') (hxl : ∀ j, 1 ≤ j → j < 4 → xl j = 6) {a b : Nat} {v : Int32} {w : Int64} {wd : Nat} (hI : zInv σ) (hst : ∀ v ∈ st, zok σ.1 xl v) (hls : ∀ (i : Nat) (v : zV), zg ls i = some v → zok σ.1 xl v) {C : Nat → List zV → zS → Option zR} (hk : zck own ini cc nL pc (.i2l, a, b, v, w, wd) = true) (h : zins X C ret k pc ls st σ a b v w (.i2l) = some (r, σ')) : zWp l D q4 xad xl X own ini cc nL ret d pc ls st σ r σ' := by
  have hd := of_decide_eq_true hk
  obtain ⟨y, r1, rfl, h⟩ := pI_inv h
  refine (K _ _ _ _ h hI (okc trivial (okt hst)) hls).step fun p e R s m args below meth c Q A FX ad H locs mls cells slots hP hD hS hl kk => ?_
  obtain ⟨hx, hb, hml, hown, hts, hK, hA, hX, hN, hRf, hRl, hin⟩ := FX
  exact lv_i2l hx hb hd rfl (kk mls hl)

set_option maxHeartbeats 1000000 in
theorem zi_l2i {k : zk} (K : zKK l D q4 xad xl X own ini cc nL ret d k r σ') (hxl : ∀ j, 1 ≤ j → j < 4 → xl j = 6) {a b : Nat} {v : Int32} {w : Int64} {wd : Nat} (hI : zInv σ) (hst : ∀ v ∈ st, zok σ.1 xl v) (hls : ∀ (i : Nat) (v : zV), zg ls i = some v → zok σ.1 xl v) {C : Nat → List zV → zS → Option zR} (hk : zck own ini cc nL pc (.l2i, a, b, v, w, wd) = true) (h : zins X C ret k pc ls st σ a b v w (.l2i) = some (r, σ')) : zWp l D q4 xad xl X own ini cc nL ret d pc ls st σ r σ' := by
  have hd := of_decide_eq_true hk
  obtain ⟨y, r1, rfl, h⟩ := pJ_inv h
  refine (K _ _ _ _ h hI (okc trivial (okt hst)) hls).step fun p e R s m args below meth c Q A FX ad H locs mls cells slots hP hD hS hl kk => ?_
  obtain ⟨hx, hb, hml, hown, hts, hK, hA, hX, hN, hRf, hRl, hin⟩ := FX
  exact lv_l2i hx hb hd rfl (kk mls hl)

set_option maxHeartbeats 1000000 in
theorem zi_i2b {k : zk} (K : zKK l D q4 xad xl X own ini cc nL ret d k r σ') (hxl : ∀ j, 1 ≤ j → j < 4 → xl j = 6) {a b : Nat} {v : Int32} {w : Int64} {wd : Nat} (hI : zInv σ) (hst : ∀ v ∈ st, zok σ.1 xl v) (hls : ∀ (i : Nat) (v : zV), zg ls i = some v → zok σ.1 xl v) {C : Nat → List zV → zS → Option zR} (hk : zck own ini cc nL pc (.i2b, a, b, v, w, wd) = true) (h : zins X C ret k pc ls st σ a b v w (.i2b) = some (r, σ')) : zWp l D q4 xad xl X own ini cc nL ret d pc ls st σ r σ' := by
  have hd := of_decide_eq_true hk
  obtain ⟨y, r1, rfl, h⟩ := pI_inv h
  refine (K _ _ _ _ h hI (okc trivial (okt hst)) hls).step fun p e R s m args below meth c Q A FX ad H locs mls cells slots hP hD hS hl kk => ?_
  obtain ⟨hx, hb, hml, hown, hts, hK, hA, hX, hN, hRf, hRl, hin⟩ := FX
  exact lv_i2b hx hb hd rfl (kk mls hl)

set_option maxHeartbeats 1000000 in
theorem zi_i2s {k : zk} (K : zKK l D q4 xad xl X own ini cc nL ret d k r σ') (hxl : ∀ j, 1 ≤ j → j < 4 → xl j = 6) {a b : Nat} {v : Int32} {w : Int64} {wd : Nat} (hI : zInv σ) (hst : ∀ v ∈ st, zok σ.1 xl v) (hls : ∀ (i : Nat) (v : zV), zg ls i = some v → zok σ.1 xl v) {C : Nat → List zV → zS → Option zR} (hk : zck own ini cc nL pc (.i2s, a, b, v, w, wd) = true) (h : zins X C ret k pc ls st σ a b v w (.i2s) = some (r, σ')) : zWp l D q4 xad xl X own ini cc nL ret d pc ls st σ r σ' := by
  have hd := of_decide_eq_true hk
  obtain ⟨y, r1, rfl, h⟩ := pI_inv h
  refine (K _ _ _ _ h hI (okc trivial (okt hst)) hls).step fun p e R s m args below meth c Q A FX ad H locs mls cells slots hP hD hS hl kk => ?_
  obtain ⟨hx, hb, hml, hown, hts, hK, hA, hX, hN, hRf, hRl, hin⟩ := FX
  exact lv_i2s hx hb hd rfl (kk mls hl)

set_option maxHeartbeats 1000000 in
theorem zi_dup {k : zk} (K : zKK l D q4 xad xl X own ini cc nL ret d k r σ') (hxl : ∀ j, 1 ≤ j → j < 4 → xl j = 6) {a b : Nat} {v : Int32} {w : Int64} {wd : Nat} (hI : zInv σ) (hst : ∀ v ∈ st, zok σ.1 xl v) (hls : ∀ (i : Nat) (v : zV), zg ls i = some v → zok σ.1 xl v) {C : Nat → List zV → zS → Option zR} (hk : zck own ini cc nL pc (.dup, a, b, v, w, wd) = true) (h : zins X C ret k pc ls st σ a b v w (.dup) = some (r, σ')) : zWp l D q4 xad xl X own ini cc nL ret d pc ls st σ r σ' := by
  have hd := of_decide_eq_true hk
  rcases st with _ | ⟨y | y | y, r1⟩
  · cases h
  · have h : k (pc + 1) ls (.inl y :: .inl y :: r1) σ = some (r, σ') := h
    refine (K _ _ _ _ h hI (okc trivial hst) hls).step fun p e R s m args below meth c Q A FX ad H locs mls cells slots hP hD hS hl kk => ?_
    obtain ⟨hx, hb, hml, hown, hts, hK, hA, hX, hN, hRf, hRl, hin⟩ := FX
    exact lv_dup hx hb hd rfl (kk mls hl)
  · cases h
  · have h : k (pc + 1) ls (.inr (.inr y) :: .inr (.inr y) :: r1) σ = some (r, σ') := h
    refine (K _ _ _ _ h hI (okc (okh hst) hst) hls).step fun p e R s m args below meth c Q A FX ad H locs mls cells slots hP hD hS hl kk => ?_
    obtain ⟨hx, hb, hml, hown, hts, hK, hA, hX, hN, hRf, hRl, hin⟩ := FX
    exact lv_dup hx hb hd (by cases y <;> rfl) (kk mls hl)

set_option maxHeartbeats 1000000 in
theorem zi_dup2 {k : zk} (K : zKK l D q4 xad xl X own ini cc nL ret d k r σ') (hxl : ∀ j, 1 ≤ j → j < 4 → xl j = 6) {a b : Nat} {v : Int32} {w : Int64} {wd : Nat} (hI : zInv σ) (hst : ∀ v ∈ st, zok σ.1 xl v) (hls : ∀ (i : Nat) (v : zV), zg ls i = some v → zok σ.1 xl v) {C : Nat → List zV → zS → Option zR} (hk : zck own ini cc nL pc (.dup2, a, b, v, w, wd) = true) (h : zins X C ret k pc ls st σ a b v w (.dup2) = some (r, σ')) : zWp l D q4 xad xl X own ini cc nL ret d pc ls st σ r σ' := by
  have hd := of_decide_eq_true hk
  rcases st with _ | ⟨y | y | y, _ | ⟨z | z | z, r1⟩⟩
  case cons.inl.cons.inr.inr =>
    have h : k (pc + 1) ls (.inl y :: .inr (.inr z) :: .inl y :: .inr (.inr z) :: r1) σ = some (r, σ') := h
    refine (K _ _ _ _ h hI (okc trivial (okc (okh (okt hst)) hst)) hls).step fun p e R s m args below meth c Q A FX ad H locs mls cells slots hP hD hS hl kk => ?_
    obtain ⟨hx, hb, hml, hown, hts, hK, hA, hX, hN, hRf, hRl, hin⟩ := FX
    exact lv_dup2_11 hx hb hd rfl (by cases z <;> rfl) (kk mls hl)
  all_goals cases h

set_option maxHeartbeats 1000000 in
theorem zi_goto {k : zk} (K : zKK l D q4 xad xl X own ini cc nL ret d k r σ') (hxl : ∀ j, 1 ≤ j → j < 4 → xl j = 6) {a b : Nat} {v : Int32} {w : Int64} {wd : Nat} (hI : zInv σ) (hst : ∀ v ∈ st, zok σ.1 xl v) (hls : ∀ (i : Nat) (v : zV), zg ls i = some v → zok σ.1 xl v) {C : Nat → List zV → zS → Option zR} {o9 : Int} (hk : zck own ini cc nL pc (.goto o9, a, b, v, w, wd) = true) (h : zins X C ret k pc ls st σ a b v w (.goto o9) = some (r, σ')) : zWp l D q4 xad xl X own ini cc nL ret d pc ls st σ r σ' := by
  obtain ⟨hd, hv⟩ := band hk
  have h : k a ls st σ = some (r, σ') := h
  refine (K _ _ _ _ h hI hst hls).step fun p e R s m args below meth c Q A FX ad H locs mls cells slots hP hD hS hl kk => ?_
  obtain ⟨hx, hb, hml, hown, hts, hK, hA, hX, hN, hRf, hRl, hin⟩ := FX
  exact lv_goto hx hb (of_decide_eq_true hd) (of_decide_eq_true hv) (kk mls hl)

set_option maxHeartbeats 1000000 in
theorem zi_if_eq {k : zk} (K : zKK l D q4 xad xl X own ini cc nL ret d k r σ') (hxl : ∀ j, 1 ≤ j → j < 4 → xl j = 6) {a b : Nat} {v : Int32} {w : Int64} {wd : Nat} (hI : zInv σ) (hst : ∀ v ∈ st, zok σ.1 xl v) (hls : ∀ (i : Nat) (v : zV), zg ls i = some v → zok σ.1 xl v) {C : Nat → List zV → zS → Option zR} {o9 : Int} (hk : zck own ini cc nL pc (.ifCond .eq o9, a, b, v, w, wd) = true) (h : zins X C ret k pc ls st σ a b v w (.ifCond .eq o9) = some (r, σ')) : zWp l D q4 xad xl X own ini cc nL ret d pc ls st σ r σ' := by
  obtain ⟨hd, hv⟩ := band hk
  obtain ⟨y, r1, rfl, h⟩ := pI_inv h
  by_cases hc : y = 0
  · have h := (if_pos hc).symm.trans h
    refine (K _ _ _ _ h hI (okt hst) hls).step fun p e R s m args below meth c Q A FX ad H locs mls cells slots hP hD hS hl kk => ?_
    obtain ⟨hx, hb, hml, hown, hts, hK, hA, hX, hN, hRf, hRl, hin⟩ := FX
    exact lv_if_eq hx hb (of_decide_eq_true hd) (of_decide_eq_true hv) (fun _ => kk mls hl) (fun q => absurd hc q)
  · have h := (if_neg hc).symm.trans h
    refine (K _ _ _ _ h hI (okt hst) hls).step fun p e R s m args below meth c Q A FX ad H locs mls cells slots hP hD hS hl kk => ?_
    obtain ⟨hx, hb, hml, hown, hts, hK, hA, hX, hN, hRf, hRl, hin⟩ := FX
    exact lv_if_eq hx hb (of_decide_eq_true hd) (of_decide_eq_true hv) (fun q => absurd q hc) (fun _ => kk mls hl)

set_option maxHeartbeats 1000000 in
theorem zi_if_ne {k : zk} (K : zKK l D q4 xad xl X own ini cc nL ret d k r σ') (hxl : ∀ j, 1 ≤ j → j < 4 → xl j = 6) {a b : Nat} {v : Int32} {w : Int64} {wd : Nat} (hI : zInv σ) (hst : ∀ v ∈ st, zok σ.1 xl v) (hls : ∀ (i : Nat) (v : zV), zg ls i = some v → zok σ.1 xl v) {C : Nat → List zV → zS → Option zR} {o9 : Int} (hk : zck own ini cc nL pc (.ifCond .ne o9, a, b, v, w, wd) = true) (h : zins X C ret k pc ls st σ a b v w (.ifCond .ne o9) = some (r, σ')) : zWp l D q4 xad xl X own ini cc nL ret d pc ls st σ r σ' := by
  obtain ⟨hd, hv⟩ := band hk
  obtain ⟨y, r1, rfl, h⟩ := pI_inv h
  by_cases hc : y = 0
  · have h := (if_pos hc).symm.trans h
    refine (K _ _ _ _ h hI (okt hst) hls).step fun p e R s m args below meth c Q A FX ad H locs mls cells slots hP hD hS hl kk => ?_
    obtain ⟨hx, hb, hml, hown, hts, hK, hA, hX, hN, hRf, hRl, hin⟩ := FX
    exact lv_if_ne hx hb (of_decide_eq_true hd) (of_decide_eq_true hv) (fun q => absurd hc q) (fun _ => kk mls hl)
  · have h := (if_neg hc).symm.trans h
    refine (K _ _ _ _ h hI (okt hst) hls).step fun p e R s m args below meth c Q A FX ad H locs mls cells slots hP hD hS hl kk => ?_
    obtain ⟨hx, hb, hml, hown, hts, hK, hA, hX, hN, hRf, hRl, hin⟩ := FX
    exact lv_if_ne hx hb (of_decide_eq_true hd) (of_decide_eq_true hv) (fun _ => kk mls hl) (fun q => absurd q hc)

set_option maxHeartbeats 1000000 in
theorem zi_if_lt {k : zk} (K : zKK l D q4 xad xl X own ini cc nL ret d k r σ') (hxl : ∀ j, 1 ≤ j → j < 4 → xl j = 6) {a b : Nat} {v : Int32} {w : Int64} {wd : Nat} (hI : zInv σ) (hst : ∀ v ∈ st, zok σ.1 xl v) (hls : ∀ (i : Nat) (v : zV), zg ls i = some v → zok σ.1 xl v) {C : Nat → List zV → zS → Option zR} {o9 : Int} (hk : zck own ini cc nL pc (.ifCond .lt o9, a, b, v, w, wd) = true) (h : zins X C ret k pc ls st σ a b v w (.ifCond .lt o9) = some (r, σ')) : zWp l D q4 xad xl X own ini cc nL ret d pc ls st σ r σ' := by
  obtain ⟨hd, hv⟩ := band hk
  obtain ⟨y, r1, rfl, h⟩ := pI_inv h
  by_cases hc : y < 0
  · have h := (if_pos hc).symm.trans h
    refine (K _ _ _ _ h hI (okt hst) hls).step fun p e R s m args below meth c Q A FX ad H locs mls cells slots hP hD hS hl kk => ?_
    obtain ⟨hx, hb, hml, hown, hts, hK, hA, hX, hN, hRf, hRl, hin⟩ := FX
    exact lv_if_lt hx hb (of_decide_eq_true hd) (of_decide_eq_true hv) (fun _ => kk mls hl) (fun q => absurd hc q)
  · have h := (if_neg hc).symm.trans h
    refine (K _ _ _ _ h hI (okt hst) hls).step fun p e R s m args below meth c Q A FX ad H locs mls cells slots hP hD hS hl kk => ?_
    obtain ⟨hx, hb, hml, hown, hts, hK, hA, hX, hN, hRf, hRl, hin⟩ := FX
    exact lv_if_lt hx hb (of_decide_eq_true hd) (of_decide_eq_true hv) (fun q => absurd q hc) (fun _ => kk mls hl)

set_option maxHeartbeats 1000000 in
theorem zi_if_ge {k : zk} (K : zKK l D q4 xad xl X own ini cc nL ret d k r σ') (hxl : ∀ j, 1 ≤ j → j < 4 → xl j = 6) {a b : Nat} {v : Int32} {w : Int64} {wd : Nat} (hI : zInv σ) (hst : ∀ v ∈ st, zok σ.1 xl v) (hls : ∀ (i : Nat) (v : zV), zg ls i = some v → zok σ.1 xl v) {C : Nat → List zV → zS → Option zR} {o9 : Int} (hk : zck own ini cc nL pc (.ifCond .ge o9, a, b, v, w, wd) = true) (h : zins X C ret k pc ls st σ a b v w (.ifCond .ge o9) = some (r, σ')) : zWp l D q4 xad xl X own ini cc nL ret d pc ls st σ r σ' := by
  obtain ⟨hd, hv⟩ := band hk
  obtain ⟨y, r1, rfl, h⟩ := pI_inv h
  by_cases hc : 0 ≤ y
  · have h := (if_pos hc).symm.trans h
    refine (K _ _ _ _ h hI (okt hst) hls).step fun p e R s m args below meth c Q A FX ad H locs mls cells slots hP hD hS hl kk => ?_
    obtain ⟨hx, hb, hml, hown, hts, hK, hA, hX, hN, hRf, hRl, hin⟩ := FX
    exact lv_if_ge hx hb (of_decide_eq_true hd) (of_decide_eq_true hv) (fun _ => kk mls hl) (fun q => absurd hc q)
  · have h := (if_neg hc).symm.trans h
    refine (K _ _ _ _ h hI (okt hst) hls).step fun p e R s m args below meth c Q A FX ad H locs mls cells slots hP hD hS hl kk => ?_
    obtain ⟨hx, hb, hml, hown, hts, hK, hA, hX, hN, hRf, hRl, hin⟩ := FX
    exact lv_if_ge hx hb (of_decide_eq_true hd) (of_decide_eq_true hv) (fun q => absurd q hc) (fun _ => kk mls hl)

set_option maxHeartbeats 1000000 in
theorem zi_if_gt {k : zk} (K : zKK l D q4 xad xl X own ini cc nL ret d k r σ') (hxl : ∀ j, 1 ≤ j → j < 4 → xl j = 6) {a b : Nat} {v : Int32} {w : Int64} {wd : Nat} (hI : zInv σ) (hst : ∀ v ∈ st, zok σ.1 xl v) (hls : ∀ (i : Nat) (v : zV), zg ls i = some v → zok σ.1 xl v) {C : Nat → List zV → zS → Option zR} {o9 : Int} (hk : zck own ini cc nL pc (.ifCond .gt o9, a, b, v, w, wd) = true) (h : zins X C ret k pc ls st σ a b v w (.ifCond .gt o9) = some (r, σ')) : zWp l D q4 xad xl X own ini cc nL ret d pc ls st σ r σ' := by
  obtain ⟨hd, hv⟩ := band hk
  obtain ⟨y, r1, rfl, h⟩ := pI_inv h
  by_cases hc : 0 < y
  · have h := (if_pos hc).symm.trans h
    refine (K _ _ _ _ h hI (okt hst) hls).step fun p e R s m args below meth c Q A FX ad H locs mls cells slots hP hD hS hl kk => ?_
    obtain ⟨hx, hb, hml, hown, hts, hK, hA, hX, hN, hRf, hRl, hin⟩ := FX
    exact lv_if_gt hx hb (of_decide_eq_true hd) (of_decide_eq_true hv) (fun _ => kk mls hl) (fun q => absurd hc q)
  · have h := (if_neg hc).symm.trans h
    refine (K _ _ _ _ h hI (okt hst) hls).step fun p e R s m args below meth c Q A FX ad H locs mls cells slots hP hD hS hl kk => ?_
    obtain ⟨hx, hb, hml, hown, hts, hK, hA, hX, hN, hRf, hRl, hin⟩ := FX
    exact lv_if_gt hx hb (of_decide_eq_true hd) (of_decide_eq_true hv) (fun q => absurd q hc) (fun _ => kk mls hl)

set_option maxHeartbeats 1000000 in
theorem zi_if_le {k : zk} (K : zKK l D q4 xad xl X own ini cc nL ret d k r σ') (hxl : ∀ j, 1 ≤ j → j < 4 → xl j = 6) {a b : Nat} {v : Int32} {w : Int64} {wd : Nat} (hI : zInv σ) (hst : ∀ v ∈ st, zok σ.1 xl v) (hls : ∀ (i : Nat) (v : zV), zg ls i = some v → zok σ.1 xl v) {C : Nat → List zV → zS → Option zR} {o9 : Int} (hk : zck own ini cc nL pc (.ifCond .le o9, a, b, v, w, wd) = true) (h : zins X C ret k pc ls st σ a b v w (.ifCond .le o9) = some (r, σ')) : zWp l D q4 xad xl X own ini cc nL ret d pc ls st σ r σ' := by
  obtain ⟨hd, hv⟩ := band hk
  obtain ⟨y, r1, rfl, h⟩ := pI_inv h
  by_cases hc : y ≤ 0
  · have h := (if_pos hc).symm.trans h
    refine (K _ _ _ _ h hI (okt hst) hls).step fun p e R s m args below meth c Q A FX ad H locs mls cells slots hP hD hS hl kk => ?_
    obtain ⟨hx, hb, hml, hown, hts, hK, hA, hX, hN, hRf, hRl, hin⟩ := FX
    exact lv_if_le hx hb (of_decide_eq_true hd) (of_decide_eq_true hv) (fun _ => kk mls hl) (fun q => absurd hc q)
  · have h := (if_neg hc).symm.trans h
    refine (K _ _ _ _ h hI (okt hst) hls).step fun p e R s m args below meth c Q A FX ad H locs mls cells slots hP hD hS hl kk => ?_
    obtain ⟨hx, hb, hml, hown, hts, hK, hA, hX, hN, hRf, hRl, hin⟩ := FX
    exact lv_if_le hx hb (of_decide_eq_true hd) (of_decide_eq_true hv) (fun q => absurd q hc) (fun _ => kk mls hl)

set_option maxHeartbeats 1000000 in
theorem zi_icmp_eq {k : zk} (K : zKK l D q4 xad xl X own ini cc nL ret d k r σ') (hxl : ∀ j, 1 ≤ j → j < 4 → xl j = 6) {a b : Nat} {v : Int32} {w : Int64} {wd : Nat} (hI : zInv σ) (hst : ∀ v ∈ st, zok σ.1 xl v) (hls : ∀ (i : Nat) (v : zV), zg ls i = some v → zok σ.1 xl v) {C : Nat → List zV → zS → Option zR} {o9 : Int} (hk : zck own ini cc nL pc (.if_icmp .eq o9, a, b, v, w, wd) = true) (h : zins X C ret k pc ls st σ a b v w (.if_icmp .eq o9) = some (r, σ')) : zWp l D q4 xad xl X own ini cc nL ret d pc ls st σ r σ' := by
  obtain ⟨hd, hv⟩ := band hk
  obtain ⟨y, r1, rfl, h⟩ := pI_inv h
  obtain ⟨z, r2, rfl, h⟩ := pI_inv h
  by_cases hc : z = y
  · have h := (if_pos hc).symm.trans h
    refine (K _ _ _ _ h hI (okt (okt hst)) hls).step fun p e R s m args below meth c Q A FX ad H locs mls cells slots hP hD hS hl kk => ?_
    obtain ⟨hx, hb, hml, hown, hts, hK, hA, hX, hN, hRf, hRl, hin⟩ := FX
    exact lv_icmp_eq hx hb (of_decide_eq_true hd) (of_decide_eq_true hv) (fun _ => kk mls hl) (fun q => absurd hc q)
  · have h := (if_neg hc).symm.trans h
    refine (K _ _ _ _ h hI (okt (okt hst)) hls).step fun p e R s m args below meth c Q A FX ad H locs mls cells slots hP hD hS hl kk => ?_
    obtain ⟨hx, hb, hml, hown, hts, hK, hA, hX, hN, hRf, hRl, hin⟩ := FX
    exact lv_icmp_eq hx hb (of_decide_eq_true hd) (of_decide_eq_true hv) (fun q => absurd q hc) (fun _ => kk mls hl)

set_option maxHeartbeats 1000000 in
theorem zi_icmp_ne {k : zk} (K : zKK l D q4 xad xl X own ini cc nL ret d k r σ') (hxl : ∀ j, 1 ≤ j → j < 4 → xl j = 6) {a b : Nat} {v : Int32} {w : Int64} {wd : Nat} (hI : zInv σ) (hst : ∀ v ∈ st, zok σ.1 xl v) (hls : ∀ (i : Nat) (v : zV), zg ls i = some v → zok σ.1 xl v) {C : Nat → List zV → zS → Option zR} {o9 : Int} (hk : zck own ini cc nL pc (.if_icmp .ne o9, a, b, v, w, wd) = true) (h : zins X C ret k pc ls st σ a b v w (.if_icmp .ne o9) = some (r, σ')) : zWp l D q4 xad xl X own ini cc nL ret d pc ls st σ r σ' := by
  obtain ⟨hd, hv⟩ := band hk
  obtain ⟨y, r1, rfl, h⟩ := pI_inv h
  obtain ⟨z, r2, rfl, h⟩ := pI_inv h
  by_cases hc : z = y
  · have h := (if_pos hc).symm.trans h
    refine (K _ _ _ _ h hI (okt (okt hst)) hls).step fun p e R s m args below meth c Q A FX ad H locs mls cells slots hP hD hS hl kk => ?_
    obtain ⟨hx, hb, hml, hown, hts, hK, hA, hX, hN, hRf, hRl, hin⟩ := FX
    exact lv_icmp_ne hx hb (of_decide_eq_true hd) (of_decide_eq_true hv) (fun q => absurd hc q) (fun _ => kk mls hl)
  · have h := (if_neg hc).symm.trans h
    refine (K _ _ _ _ h hI (okt (okt hst)) hls).step fun p e R s m args below meth c Q A FX ad H locs mls cells slots hP hD hS hl kk => ?_
    obtain ⟨hx, hb, hml, hown, hts, hK, hA, hX, hN, hRf, hRl, hin⟩ := FX
    exact lv_icmp_ne hx hb (of_decide_eq_true hd) (of_decide_eq_true hv) (fun _ => kk mls hl) (fun q => absurd q hc)

set_option maxHeartbeats 1000000 in
theorem zi_icmp_lt {k : zk} (K : zKK l D q4 xad xl X own ini cc nL ret d k r σ') (hxl : ∀ j, 1 ≤ j → j < 4 → xl j = 6) {a b : Nat} {v : Int32} {w : Int64} {wd : Nat} (hI : zInv σ) (hst : ∀ v ∈ st, zok σ.1 xl v) (hls : ∀ (i : Nat) (v : zV), zg ls i = some v → zok σ.1 xl v) {C : Nat → List zV → zS → Option zR} {o9 : Int} (hk : zck own ini cc nL pc (.if_icmp .lt o9, a, b, v, w, wd) = true) (h : zins X C ret k pc ls st σ a b v w (.if_icmp .lt o9) = some (r, σ')) : zWp l D q4 xad xl X own ini cc nL ret d pc ls st σ r σ' := by
  obtain ⟨hd, hv⟩ := band hk
  obtain ⟨y, r1, rfl, h⟩ := pI_inv h
  obtain ⟨z, r2, rfl, h⟩ := pI_inv h
  by_cases hc : z < y
  · have h := (if_pos hc).symm.trans h
    refine (K _ _ _ _ h hI (okt (okt hst)) hls).step fun p e R s m args below meth c Q A FX ad H locs mls cells slots hP hD hS hl kk => ?_
    obtain ⟨hx, hb, hml, hown, hts, hK, hA, hX, hN, hRf, hRl, hin⟩ := FX
    exact lv_icmp_lt hx hb (of_decide_eq_true hd) (of_decide_eq_true hv) (fun _ => kk mls hl) (fun q => absurd hc q)
  · have h := (if_neg hc).symm.trans h
    refine (K _ _ _ _ h hI (okt (okt hst)) hls).step fun p e R s m args below meth c Q A FX ad H locs mls cells slots hP hD hS hl kk => ?_
    obtain ⟨hx, hb, hml, hown, hts, hK, hA, hX, hN, hRf, hRl, hin⟩ := FX
    exact lv_icmp_lt hx hb (of_decide_eq_true hd) (of_decide_eq_true hv) (fun q => absurd q hc) (fun _ => kk mls hl)

set_option maxHeartbeats 1000000 in
theorem zi_icmp_ge {k : zk} (K : zKK l D q4 xad xl X own ini cc nL ret d k r σ') (hxl : ∀ j, 1 ≤ j → j < 4 → xl j = 6) {a b : Nat} {v : Int32} {w : Int64} {wd : Nat} (hI : zInv σ) (hst : ∀ v ∈ st, zok σ.1 xl v) (hls : ∀ (i : Nat) (v : zV), zg ls i = some v → zok σ.1 xl v) {C : Nat → List zV → zS → Option zR} {o9 : Int} (hk : zck own ini cc nL pc (.if_icmp .ge o9, a, b, v, w, wd) = true) (h : zins X C ret k pc ls st σ a b v w (.if_icmp .ge o9) = some (r, σ')) : zWp l D q4 xad xl X own ini cc nL ret d pc ls st σ r σ' := by
  obtain ⟨hd, hv⟩ := band hk
  obtain ⟨y, r1, rfl, h⟩ := pI_inv h
  obtain ⟨z, r2, rfl, h⟩ := pI_inv h
  by_cases hc : y ≤ z
  · have h := (if_pos hc).symm.trans h
    refine (K _ _ _ _ h hI (okt (okt hst)) hls).step fun p e R s m args below meth c Q A FX ad H locs mls cells slots hP hD hS hl kk => ?_
    obtain ⟨hx, hb, hml, hown, hts, hK, hA, hX, hN, hRf, hRl, hin⟩ := FX
    exact lv_icmp_ge hx hb (of_decide_eq_true hd) (of_decide_eq_true hv) (fun _ => kk mls hl) (fun q => absurd hc q)
  · have h := (if_neg hc).symm.trans h
    refine (K _ _ _ _ h hI (okt (okt hst)) hls).step fun p e R s m args below meth c Q A FX ad H locs mls cells slots hP hD hS hl kk => ?_
    obtain ⟨hx, hb, hml, hown, hts, hK, hA, hX, hN, hRf, hRl, hin⟩ := FX
    exact lv_icmp_ge hx hb (of_decide_eq_true hd) (of_decide_eq_true hv) (fun q => absurd q hc) (fun _ => kk mls hl)

set_option maxHeartbeats 1000000 in
theorem zi_icmp_gt {k : zk} (K : zKK l D q4 xad xl X own ini cc nL ret d k r σ') (hxl : ∀ j, 1 ≤ j → j < 4 → xl j = 6) {a b : Nat} {v : Int32} {w : Int64} {wd : Nat} (hI : zInv σ) (hst : ∀ v ∈ st, zok σ.1 xl v) (hls : ∀ (i : Nat) (v : zV), zg ls i = some v → zok σ.1 xl v) {C : Nat → List zV → zS → Option zR} {o9 : Int} (hk : zck own ini cc nL pc (.if_icmp .gt o9, a, b, v, w, wd) = true) (h : zins X C ret k pc ls st σ a b v w (.if_icmp .gt o9) = some (r, σ')) : zWp l D q4 xad xl X own ini cc nL ret d pc ls st σ r σ' := by
  obtain ⟨hd, hv⟩ := band hk
  obtain ⟨y, r1, rfl, h⟩ := pI_inv h
  obtain ⟨z, r2, rfl, h⟩ := pI_inv h
  by_cases hc : y < z
  · have h := (if_pos hc).symm.trans h
    refine (K _ _ _ _ h hI (okt (okt hst)) hls).step fun p e R s m args below meth c Q A FX ad H locs mls cells slots hP hD hS hl kk => ?_
    obtain ⟨hx, hb, hml, hown, hts, hK, hA, hX, hN, hRf, hRl, hin⟩ := FX
    exact lv_icmp_gt hx hb (of_decide_eq_true hd) (of_decide_eq_true hv) (fun _ => kk mls hl) (fun q => absurd hc q)
  · have h := (if_neg hc).symm.trans h
    refine (K _ _ _ _ h hI (okt (okt hst)) hls).step fun p e R s m args below meth c Q A FX ad H locs mls cells slots hP hD hS hl kk => ?_
    obtain ⟨hx, hb, hml, hown, hts, hK, hA, hX, hN, hRf, hRl, hin⟩ := FX
    exact lv_icmp_gt hx hb (of_decide_eq_true hd) (of_decide_eq_true hv) (fun q => absurd q hc) (fun _ => kk mls hl)

set_option maxHeartbeats 1000000 in
theorem zi_icmp_le {k : zk} (K : zKK l D q4 xad xl X own ini cc nL ret d k r σ') (hxl : ∀ j, 1 ≤ j → j < 4 → xl j = 6) {a b : Nat} {v : Int32} {w : Int64} {wd : Nat} (hI : zInv σ) (hst : ∀ v ∈ st, zok σ.1 xl v) (hls : ∀ (i : Nat) (v : zV), zg ls i = some v → zok σ.1 xl v) {C : Nat → List zV → zS → Option zR} {o9 : Int} (hk : zck own ini cc nL pc (.if_icmp .le o9, a, b, v, w, wd) = true) (h : zins X C ret k pc ls st σ a b v w (.if_icmp .le o9) = some (r, σ')) : zWp l D q4 xad xl X own ini cc nL ret d pc ls st σ r σ' := by
  obtain ⟨hd, hv⟩ := band hk
  obtain ⟨y, r1, rfl, h⟩ := pI_inv h
  obtain ⟨z, r2, rfl, h⟩ := pI_inv h
  by_cases hc : z ≤ y
  · have h := (if_pos hc).symm.trans h
    refine (K _ _ _ _ h hI (okt (okt hst)) hls).step fun p e R s m args below meth c Q A FX ad H locs mls cells slots hP hD hS hl kk => ?_
    obtain ⟨hx, hb, hml, hown, hts, hK, hA, hX, hN, hRf, hRl, hin⟩ := FX
    exact lv_icmp_le hx hb (of_decide_eq_true hd) (of_decide_eq_true hv) (fun _ => kk mls hl) (fun q => absurd hc q)
  · have h := (if_neg hc).symm.trans h
    refine (K _ _ _ _ h hI (okt (okt hst)) hls).step fun p e R s m args below meth c Q A FX ad H locs mls cells slots hP hD hS hl kk => ?_
    obtain ⟨hx, hb, hml, hown, hts, hK, hA, hX, hN, hRf, hRl, hin⟩ := FX
    exact lv_icmp_le hx hb (of_decide_eq_true hd) (of_decide_eq_true hv) (fun q => absurd q hc) (fun _ => kk mls hl)

set_option maxHeartbeats 1000000 in
theorem zi_ifnull {k : zk} (K : zKK l D q4 xad xl X own ini cc nL ret d k r σ') (hxl : ∀ j, 1 ≤ j → j < 4 → xl j = 6) {a b : Nat} {v : Int32} {w : Int64} {wd : Nat} (hI : zInv σ) (hst : ∀ v ∈ st, zok σ.1 xl v) (hls : ∀ (i : Nat) (v : zV), zg ls i = some v → zok σ.1 xl v) {C : Nat → List zV → zS → Option zR} {o9 : Int} (hk : zck own ini cc nL pc (.ifnull o9, a, b, v, w, wd) = true) (h : zins X C ret k pc ls st σ a b v w (.ifnull o9) = some (r, σ')) : zWp l D q4 xad xl X own ini cc nL ret d pc ls st σ r σ' := by
  obtain ⟨hd, hv⟩ := band hk
  obtain ⟨y, r1, rfl, h⟩ := pQ_inv h
  cases y with
  | none =>
    have h : k a ls r1 σ = some (r, σ') := h
    refine (K _ _ _ _ h hI (okt hst) hls).step fun p e R s m args below meth c Q A FX ad H locs mls cells slots hP hD hS hl kk => ?_
    obtain ⟨hx, hb, hml, hown, hts, hK, hA, hX, hN, hRf, hRl, hin⟩ := FX
    exact lv_ifnullN hx hb (of_decide_eq_true hd) (of_decide_eq_true hv) (kk mls hl)
  | some q =>
    have h : k (pc + 3) ls r1 σ = some (r, σ') := h
    refine (K _ _ _ _ h hI (okt hst) hls).step fun p e R s m args below meth c Q A FX ad H locs mls cells slots hP hD hS hl kk => ?_
    obtain ⟨hx, hb, hml, hown, hts, hK, hA, hX, hN, hRf, hRl, hin⟩ := FX
    exact lv_ifnull hx hb (of_decide_eq_true hd) (kk mls hl)

set_option maxHeartbeats 1000000 in
theorem zi_ifnonnull {k : zk} (K : zKK l D q4 xad xl X own ini cc nL ret d k r σ') (hxl : ∀ j, 1 ≤ j → j < 4 → xl j = 6) {a b : Nat} {v : Int32} {w : Int64} {wd : Nat} (hI : zInv σ) (hst : ∀ v ∈ st, zok σ.1 xl v) (hls : ∀ (i : Nat) (v : zV), zg ls i = some v → zok σ.1 xl v) {C : Nat → List zV → zS → Option zR} {o9 : Int} (hk : zck own ini cc nL pc (.ifnonnull o9, a, b, v, w, wd) = true) (h : zins X C ret k pc ls st σ a b v w (.ifnonnull o9) = some (r, σ')) : zWp l D q4 xad xl X own ini cc nL ret d pc ls st σ r σ' := by
  obtain ⟨hd, hv⟩ := band hk
  obtain ⟨y, r1, rfl, h⟩ := pQ_inv h
  cases y with
  | none =>
    have h : k (pc + 3) ls r1 σ = some (r, σ') := h
    refine (K _ _ _ _ h hI (okt hst) hls).step fun p e R s m args below meth c Q A FX ad H locs mls cells slots hP hD hS hl kk => ?_
    obtain ⟨hx, hb, hml, hown, hts, hK, hA, hX, hN, hRf, hRl, hin⟩ := FX
    exact lv_ifnonnullN hx hb (of_decide_eq_true hd) (kk mls hl)
  | some q =>
    have h : k a ls r1 σ = some (r, σ') := h
    refine (K _ _ _ _ h hI (okt hst) hls).step fun p e R s m args below meth c Q A FX ad H locs mls cells slots hP hD hS hl kk => ?_
    obtain ⟨hx, hb, hml, hown, hts, hK, hA, hX, hN, hRf, hRl, hin⟩ := FX
    exact lv_ifnonnull hx hb (of_decide_eq_true hd) (of_decide_eq_true hv) (kk mls hl)

end ZST
