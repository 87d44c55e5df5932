/-! sending: each judge by himself -/
def sm (n : Nat) (f : Nat → Int32) : Int32 := zfold n 0 (fun i a => a + f i)
theorem sm_s (n : Nat) (f : Nat → Int32) : sm (n + 1) f = sm n f + f n := rfl
theorem sm_cg {f g : Nat → Int32} (n : Nat) (h : ∀ i, i < n → f i = g i) : sm n f = sm n g := by
  unfold sm
  exact zfold_congr n (fun j hj x9 => by rw [h j hj])
theorem sm_add (f g : Nat → Int32) : ∀ n, sm n (fun i => f i + g i) = sm n f + sm n g
  | 0 => rfl
  | n + 1 => by
    rw [sm_s, sm_s, sm_s, sm_add f g n, Int32.add_assoc, Int32.add_assoc]
    congr 1
    rw [← Int32.add_assoc, Int32.add_comm (sm n g) (f n), Int32.add_assoc]
theorem sm_mul (f : Nat → Int32) (k : Int32) : ∀ n, sm n (fun i => f i * k) = sm n f * k
  | 0 => by
    show (0 : Int32) = 0 * k
    rw [Int32.zero_mul]
  | n + 1 => by rw [sm_s, sm_s, sm_mul f k n, Int32.add_mul]
theorem sm_0 : ∀ n, sm n (fun _ => 0) = 0
  | 0 => rfl
  | n + 1 => by rw [sm_s, sm_0 n]; rfl
theorem sm_swap (f : Nat → Nat → Int32) (k : Nat) : ∀ n, sm n (fun i => sm k (fun j => f i j)) = sm k (fun j => sm n (fun i => f i j))
  | 0 => (sm_0 k).symm
  | n + 1 => by
    rw [sm_s, sm_swap f k n, ← sm_add]
    rfl
theorem sm_pick (x9 : Int32) {j0 : Nat} : ∀ n, n < 2 ^ 31 → j0 < 2 ^ 31 → sm n (fun j => if nI j0 = nI j then x9 else 0) = if j0 < n then x9 else 0
  | 0, _, _ => by rw [if_neg (by omega)]; rfl
  | n + 1, h1, h2 => by
    rw [sm_s, sm_pick x9 n (by omega) h2]
    by_cases e : j0 = n
    · rw [e, if_neg (by omega), if_pos rfl, if_pos (by omega), Int32.zero_add]
    · rw [if_neg (show ¬ nI j0 = nI n by rw [neq (by omega) (by omega)]; exact e), Int32.add_zero]
      by_cases q : j0 < n
      · rw [if_pos q, if_pos (by omega)]
      · rw [if_neg q, if_neg (by omega)]
/-- alike for one judge -/
def LQ (q : Int32) (c c' : Cr) : Prop := (∀ f i, f ≤ 2 → c' f i = c f i) ∧ ∀ m, (c' 4 m = q ↔ c 4 m = q) ∧ (c 4 m = q → ∀ f, c' f m = c f m)
theorem LQ.n {q : Int32} {c c' : Cr} (h : LQ q c c') : men c' = men c ∧ jud c' = jud c := by
  unfold men jud
  rw [h.1 0 1 (by omega), h.1 0 0 (by omega)]
  exact ⟨rfl, rfl⟩
theorem LQ.mvv {q : Int32} {c c' : Cr} (h : LQ q c c') {m : Nat} (hm : c 4 m = q) : mv c' m = mv c m := by
  have e4 : c' 4 m = q := ((h.2 m).1).2 hm
  have hh : houB c' q (men c) = houB c q (men c) := by
    unfold houB
    apply anyB_congr
    intro i _
    by_cases w : c 4 i = q
    · have e := (h.2 i).2 w
      unfold housed
      rw [e 4, e 5]
    · rw [decide_eq_false w, decide_eq_false (fun e => w ((h.2 i).1.1 e)), Bool.and_false, Bool.and_false]
  have hw : waiB c' q m = waiB c q m := by
    unfold waiB
    apply anyB_congr
    intro i _
    by_cases w : c 4 i = q
    · have e := (h.2 i).2 w
      rw [e 4, e 5]
    · rw [decide_eq_false w, decide_eq_false (fun e => w ((h.2 i).1.1 e)), Bool.and_false, Bool.and_false]
  unfold mv
  rw [e4, hm, (h.2 m).2 hm 5, h.n.1, h.n.2, hh, hw]
theorem LQ.mov {q : Int32} {c c' : Cr} (h : LQ q c c') : LQ q (movS c) (movS c') := by
  have hn := h.n
  unfold movS
  refine ⟨fun f i hf => by rw [movK_ne (by omega), movK_ne (by omega)]; exact h.1 f i hf, fun m => ?_⟩
  rw [movK_ne (by omega), movK_ne (by omega)]
  refine ⟨(h.2 m).1, fun hm f => ?_⟩
  have e := (h.2 m).2 hm f
  unfold movK
  rw [h.mvv hm, hn.1, e]
theorem livS_ne (g : Bool) (c : Cr) (m : Nat) {f i : Nat} (h : ¬ (5 ≤ f ∧ f ≤ 7 ∧ i = m)) : livS g c m f i = c f i := by
  unfold livS lv2
  by_cases h1 : lv1 g c m 3 m = 2
  · rw [if_pos h1]; exact lv1_ne g c m (by omega)
  · rw [if_neg h1]
    by_cases h2 : 0 < lv1 g c m 6 m - 1
    · rw [if_pos h2, cup_ne (by omega)]; exact lv1_ne g c m (by omega)
    · rw [if_neg h2, cup_ne (by omega), cup_ne (by omega), cup_ne (by omega)]; exact lv1_ne g c m (by omega)
theorem LQ.gr {q : Int32} {c c' : Cr} (h : LQ q c c') {m : Nat} (hm : c 4 m = q) : grS c' m = grS c m := by
  have e := (h.2 m).2 hm
  unfold grS thS wrS jof
  rw [e 4, e 3, h.n.2, h.1 0 2 (by omega), h.1 0 4 (by omega), h.1 1 _ (by omega), h.1 2 _ (by omega)]
theorem LQ.liv {q : Int32} {c c' : Cr} (h : LQ q c c') (g : Bool) {m : Nat} (hm : c 4 m = q) (f : Nat) : livS g c' m f m = livS g c m f m := by
  have e := (h.2 m).2 hm
  have e1 : ∀ f, lv1 g c' m f m = lv1 g c m f m := by
    intro f
    unfold lv1
    cases g
    · rw [if_neg (by decide), if_neg (by decide)]; exact e f
    · rw [if_pos rfl, if_pos rfl, h.gr hm, e 7]
      by_cases hf : f = 7
      · rw [hf, cup_eq, cup_eq]
      · rw [cup_ne (by omega), cup_ne (by omega)]; exact e f
  have e0 : lv1 g c' m 0 3 = lv1 g c m 0 3 := by
    rw [lv1_ne g c' m (by omega), lv1_ne g c m (by omega)]; exact h.1 0 3 (by omega)
  unfold livS lv2
  rw [e1 3, e1 6, e1 7, e0]
  by_cases h1 : lv1 g c m 3 m = 2
  · rw [if_pos h1, if_pos h1]; exact e1 f
  · rw [if_neg h1, if_neg h1]
    by_cases h2 : 0 < lv1 g c m 6 m - 1
    · rw [if_pos h2, if_pos h2]
      by_cases hf : f = 6
      · rw [hf, cup_eq, cup_eq]
      · rw [cup_ne (by omega), cup_ne (by omega)]; exact e1 f
    · rw [if_neg h2, if_neg h2]
      by_cases hf : f = 5
      · rw [hf, cup_eq, cup_eq]
      · rw [cup_ne (f := 5) (f' := f) (by omega), cup_ne (f := 5) (f' := f) (by omega)]
        by_cases hf6 : f = 6
        · rw [hf6, cup_eq, cup_eq]
        · rw [cup_ne (by omega), cup_ne (by omega), cup_ne (by omega), cup_ne (by omega)]; exact e1 f
theorem livK_s (g : Bool) (c : Cr) (k : Nat) : livK g c (k + 1) = if livK g c k 5 k = 1 then livS g (livK g c k) k else livK g c k := rfl
theorem LQ.lvK {q : Int32} {c c' : Cr} (h : LQ q c c') (g : Bool) : ∀ k, LQ q (livK g c k) (livK g c' k)
  | 0 => h
  | k + 1 => by
    have ih := LQ.lvK h g k
    rw [livK_s, livK_s]
    -- any step at k leaves all else as it is
    have any : ∀ d d' : Cr, (∀ f i, ¬ (5 ≤ f ∧ f ≤ 7 ∧ i = k) → d f i = livK g c k f i) → (∀ f i, ¬ (5 ≤ f ∧ f ≤ 7 ∧ i = k) → d' f i = livK g c' k f i) → (livK g c k 4 k = q → ∀ f, d' f k = d f k) → LQ q d d' := by
      intro d d' h1 h2 h3
      refine ⟨fun f i hf => by rw [h1 f i (by omega), h2 f i (by omega)]; exact ih.1 f i hf, fun m => ?_⟩
      rw [h1 4 m (by omega), h2 4 m (by omega)]
      refine ⟨(ih.2 m).1, fun hm f => ?_⟩
      by_cases e : m = k
      · subst e; exact h3 hm f
      · rw [h1 f m (by omega), h2 f m (by omega)]; exact (ih.2 m).2 hm f
    by_cases w : livK g c k 4 k = q
    · rw [(ih.2 k).2 w 5]
      by_cases w5 : livK g c k 5 k = 1
      · rw [if_pos w5, if_pos w5]
        exact any _ _ (fun f i hf => livS_ne g _ k hf) (fun f i hf => livS_ne g _ k hf) (fun _ f => ih.liv g w f)
      · rw [if_neg w5, if_neg w5]; exact ih
    · refine any _ _ (fun f i hf => ?_) (fun f i hf => ?_) (fun e => absurd e w)
      · split
        · exact livS_ne g _ k hf
        · rfl
      · split
        · exact livS_ne g _ k hf
        · rfl
theorem LQ.cup0 {q : Int32} {c c' : Cr} (h : LQ q c c') (i : Nat) (v : Int32) : LQ q (cup c 0 i v) (cup c' 0 i v) := by
  refine ⟨fun f k hf => ?_, fun m => ?_⟩
  · by_cases e : f = 0 ∧ k = i
    · rw [e.1, e.2, cup_eq, cup_eq]
    · rw [cup_ne e, cup_ne e]; exact h.1 f k hf
  · rw [cup_ne (by omega), cup_ne (by omega)]
    refine ⟨(h.2 m).1, fun hm f => ?_⟩
    by_cases e : f = 0 ∧ m = i
    · rw [e.1, e.2, cup_eq, cup_eq]
    · rw [cup_ne e, cup_ne e]; exact (h.2 m).2 hm f
theorem LQ.yr {q : Int32} {c c' : Cr} (h : LQ q c c') (g : Bool) : LQ q (yrS g c) (yrS g c') := by
  unfold yrS
  rw [h.n.1]
  have hk := h.mov.lvK g (men c)
  rw [hk.1 0 4 (by omega)]
  exact hk.cup0 4 _
theorem LQ.pas {q : Int32} {c c' : Cr} (h : LQ q c c') (g : Int32) : ∀ n, LQ q (pasS n g c) (pasS n g c')
  | 0 => h
  | n + 1 => by rw [pasS_s, pasS_s]; exact (LQ.pas h g n).yr _
theorem LQ.tt {q : Int32} {c c' : Cr} (h : LQ q c c') : ttS c' q = ttS c q ∧ dnS c' q = dnS c q := by
  unfold ttS dnS
  rw [h.n.1]
  refine ⟨zfold_congr _ (fun m _ x9 => ?_), zfold_congr _ (fun m _ x9 => ?_)⟩
  · by_cases w : c 4 m = q
    · rw [(h.2 m).2 w 4, (h.2 m).2 w 7]
    · rw [if_neg w, if_neg (fun e => w ((h.2 m).1.1 e))]
  · by_cases w : c 4 m = q
    · have e := (h.2 m).2 w
      unfold serving
      rw [e 4, e 5]
    · rw [if_neg w, if_neg (fun e => w ((h.2 m).1.1 e))]
