/-- between a list of numbers for locals and the kit's -/
def lAll (B b : Nat) (ls : List AV) : List (Nat × Value) := (ls.mapIdx (fun i v => (i, v))).filterMap (fun q => if q.2.1 = 9 then none else some (q.1, cvv B b q.2))
theorem lAll_mem {B b : Nat} {ls : List AV} {i : Nat} {v : AV} (h : ls[i]? = some v) (h9 : v.1 ≠ 9) : (i, cvv B b v) ∈ lAll B b ls := by
  refine List.mem_filterMap.mpr ⟨(i, v), ?_, by simp [h9]⟩
  refine List.mem_of_getElem? (i := i) ?_
  simp [h]
theorem lAll_has {B b nL : Nat} {ls : List AV} {la : Array Slot} (h : LsR B b nL ls la) : lv_has la nL (lAll B b ls) := by
  refine ⟨h.1, h.2.2.1, fun q hq => ?_⟩
  obtain ⟨⟨i, v⟩, h1, h2⟩ := List.mem_filterMap.mp hq
  obtain ⟨j, hj⟩ := List.mem_iff_getElem?.mp h1
  simp only [List.getElem?_mapIdx, Option.map_eq_some_iff] at hj
  obtain ⟨w, hw, e⟩ := hj
  cases e
  by_cases h9 : v.1 = 9
  · simp [h9] at h2
  · simp only [h9, if_false, Option.some.injEq] at h2
    subst h2
    exact (h.2.2.2 _ _ hw h9).1
theorem LsR.set1 {B b nL i : Nat} {ls : List AV} {la la' : Array Slot} {v : AV} {l : List (Nat × Value)} (h : LsR B b nL ls la) (hv : okV v) (hi : i < nL) (hp : ∀ y, i ≠ 0 → ls[i - 1]? = some y → y.1 ≠ 1)
    (hl : ∀ q ∈ lAll B b ls, (!(q.1 == i) && !(q.1 + 1 == i && q.2.category == 2)) = true → q ∈ l) (h' : lv_has la' nL ((i, cvv B b v) :: l)) : LsR B b nL (ls.set i v) la' := by
  refine ⟨h'.1, by rw [List.length_set]; exact h.2.1, h'.2.1, fun j w hw h9 => ?_⟩
  rw [List.getElem?_set] at hw
  by_cases e : i = j
  · subst e
    rw [if_pos rfl, if_pos (by rw [h.2.1]; exact hi)] at hw
    cases hw
    exact ⟨h'.2.2 _ List.mem_cons_self, hv⟩
  · rw [if_neg e] at hw
    refine ⟨h'.2.2 (j, cvv B b w) (List.mem_cons_of_mem _ (hl _ (lAll_mem hw h9) ?_)), (h.2.2.2 _ _ hw h9).2⟩
    simp only [Bool.and_eq_true, Bool.not_eq_true', beq_eq_false_iff_ne, Bool.and_eq_false_iff, ne_eq]
    refine ⟨fun q => e q.symm, ?_⟩
    by_cases q : j + 1 = i
    · right
      have h1 : w.1 ≠ 1 := hp w (by omega) (by rw [← hw]; congr 1; omega)
      rw [cat_cvv B b w h1]
      decide
    · left
      exact q
theorem LsR.set2 {B b nL i : Nat} {ls : List AV} {la la' : Array Slot} {x : Int} {l : List (Nat × Value)} (h : LsR B b nL ls la) (hv : in64 x) (hi : i + 1 < nL) (hp : ∀ y, i ≠ 0 → ls[i - 1]? = some y → y.1 ≠ 1)
    (hl : ∀ q ∈ lAll B b ls, (!(q.1 == i) && (!(q.1 == i + 1) && !(q.1 + 1 == i && q.2.category == 2))) = true → q ∈ l) (h' : lv_has la' nL ((i, .long (Int64.ofInt x)) :: l)) : LsR B b nL ((ls.set i (1, x)).set (i + 1) (9, 0)) la' := by
  refine ⟨h'.1, by rw [List.length_set, List.length_set]; exact h.2.1, h'.2.1, fun j w hw h9 => ?_⟩
  rw [List.getElem?_set] at hw
  by_cases e2 : i + 1 = j
  · subst e2
    rw [if_pos rfl, if_pos (by rw [List.length_set, h.2.1]; exact hi)] at hw
    cases hw
    exact absurd rfl h9
  · rw [if_neg e2, List.getElem?_set] at hw
    by_cases e : i = j
    · subst e
      rw [if_pos rfl, if_pos (by rw [h.2.1]; omega)] at hw
      cases hw
      exact ⟨h'.2.2 _ List.mem_cons_self, ok1 hv⟩
    · rw [if_neg e] at hw
      refine ⟨h'.2.2 (j, cvv B b w) (List.mem_cons_of_mem _ (hl _ (lAll_mem hw h9) ?_)), (h.2.2.2 _ _ hw h9).2⟩
      simp only [Bool.and_eq_true, Bool.not_eq_true', beq_eq_false_iff_ne, Bool.and_eq_false_iff, ne_eq]
      refine ⟨fun q => e q.symm, fun q => e2 q.symm, ?_⟩
      by_cases q : j + 1 = i
      · right
        have h1 : w.1 ≠ 1 := hp w (by omega) (by rw [← hw]; congr 1; omega)
        rw [cat_cvv B b w h1]
        decide
      · left
        exact q
theorem lcmpT {x y : Int} (hx : in64 x) (hy : in64 y) : (lg_cmp (Int64.ofInt x) (Int64.ofInt y) = 1 ∧ y < x) ∨ (lg_cmp (Int64.ofInt x) (Int64.ofInt y) = 0 ∧ x = y) ∨ (lg_cmp (Int64.ofInt x) (Int64.ofInt y) = -1 ∧ x < y) := by
  unfold lg_cmp
  rcases Int.lt_trichotomy x y with h | h | h
  · right; right
    refine ⟨?_, h⟩
    rw [if_neg (fun q => by have := (i64lt hy hx).mp q; omega), if_neg (fun q => by have := (i64eq hx hy).mp q; omega)]
  · right; left
    refine ⟨?_, h⟩
    rw [if_neg (fun q => by have := (i64lt hy hx).mp q; omega), if_pos (by rw [h])]
  · left
    exact ⟨if_pos ((i64lt hy hx).mpr h), h⟩
section AWR
variable {mt : MD} {Ex : State → Nat → Nat → Prop} {k n pc : Nat} {ls st : List AV} {S : Shp} {M : Mem} {Q : Int → Shp → Mem → Prop}
theorem a_iconst {v : Int} (hd : decode mt.code pc = .ok (.iconst v, 1)) (hv : in32 v) (K : AWG mt Ex k n (pc + 1) ls ((0, v) :: st) S M Q) : AWG mt Ex k n pc ls (st) S M Q := by
  intro cs D B b p l e R s m args below meth c Qf H locs la C hR hP hS hB hz hL hst kr
  exact lv_iconst C.1 C.2.1 hd rfl (K cs D B b p l e R s m args below meth c Qf H locs la C hR hP hS hB hz hL (okc (ok0 hv) hst) kr)
theorem a_bipush {v : Int} (hd : decode mt.code pc = .ok (.bipush v, 2)) (hv : in32 v) (he : (Int8.ofInt v).toInt32 = Int32.ofInt v) (K : AWG mt Ex k n (pc + 2) ls ((0, v) :: st) S M Q) : AWG mt Ex k n pc ls (st) S M Q := by
  intro cs D B b p l e R s m args below meth c Qf H locs la C hR hP hS hB hz hL hst kr
  exact lv_bipush C.1 C.2.1 hd he (K cs D B b p l e R s m args below meth c Qf H locs la C hR hP hS hB hz hL (okc (ok0 hv) hst) kr)
theorem a_sipush {v : Int} (hd : decode mt.code pc = .ok (.sipush v, 3)) (hv : in32 v) (he : (Int16.ofInt v).toInt32 = Int32.ofInt v) (K : AWG mt Ex k n (pc + 3) ls ((0, v) :: st) S M Q) : AWG mt Ex k n pc ls (st) S M Q := by
  intro cs D B b p l e R s m args below meth c Qf H locs la C hR hP hS hB hz hL hst kr
  exact lv_sipush C.1 C.2.1 hd he (K cs D B b p l e R s m args below meth c Qf H locs la C hR hP hS hB hz hL (okc (ok0 hv) hst) kr)
theorem a_lconst {i : Fin 2} {v : Int} (hd : decode mt.code pc = .ok (.lconst i, 1)) (hv : ((i : Nat) : Int) = v) (K : AWG mt Ex k n (pc + 1) ls ((1, v) :: st) S M Q) : AWG mt Ex k n pc ls (st) S M Q := by
  intro cs D B b p l e R s m args below meth c Qf H locs la C hR hP hS hB hz hL hst kr
  subst hv
  have h1 : in64 ((i : Nat) : Int) := by obtain ⟨q, hq⟩ := i; simp only [in64]; omega
  exact lv_lconst C.1 C.2.1 hd (by show Int64.ofNat i = Int64.ofInt ((i : Nat) : Int); rfl) (K cs D B b p l e R s m args below meth c Qf H locs la C hR hP hS hB hz hL (okc (ok1 h1) hst) kr)
theorem a_iload_n {i : Fin 4} {x : Int} (hd : decode mt.code pc = .ok (.iload_n i, 1)) (hl : ls[(i : Nat)]? = some (0, x)) (K : AWG mt Ex k n (pc + 1) ls ((0, x) :: st) S M Q) : AWG mt Ex k n pc ls (st) S M Q := by
  intro cs D B b p l e R s m args below meth c Qf H locs la C hR hP hS hB hz hL hst kr
  have h := hL.2.2.2 _ _ hl n09
  exact lv_iload_n C.1 C.2.1 hd rfl h.1 (K cs D B b p l e R s m args below meth c Qf H locs la C hR hP hS hB hz hL (okc h.2 hst) kr)
theorem a_iload {i : Nat} {x : Int} (hd : decode mt.code pc = .ok (.iload i, 2)) (hl : ls[i]? = some (0, x)) (K : AWG mt Ex k n (pc + 2) ls ((0, x) :: st) S M Q) : AWG mt Ex k n pc ls (st) S M Q := by
  intro cs D B b p l e R s m args below meth c Qf H locs la C hR hP hS hB hz hL hst kr
  have h := hL.2.2.2 _ _ hl n09
  exact lv_iload C.1 C.2.1 hd h.1 (K cs D B b p l e R s m args below meth c Qf H locs la C hR hP hS hB hz hL (okc h.2 hst) kr)
theorem a_lload_n {i : Fin 4} {x : Int} (hd : decode mt.code pc = .ok (.lload_n i, 1)) (hl : ls[(i : Nat)]? = some (1, x)) (K : AWG mt Ex k n (pc + 1) ls ((1, x) :: st) S M Q) : AWG mt Ex k n pc ls (st) S M Q := by
  intro cs D B b p l e R s m args below meth c Qf H locs la C hR hP hS hB hz hL hst kr
  have h := hL.2.2.2 _ _ hl n19
  exact lv_lload_n C.1 C.2.1 hd rfl h.1 (K cs D B b p l e R s m args below meth c Qf H locs la C hR hP hS hB hz hL (okc h.2 hst) kr)
theorem a_lload {i : Nat} {x : Int} (hd : decode mt.code pc = .ok (.lload i, 2)) (hl : ls[i]? = some (1, x)) (K : AWG mt Ex k n (pc + 2) ls ((1, x) :: st) S M Q) : AWG mt Ex k n pc ls (st) S M Q := by
  intro cs D B b p l e R s m args below meth c Qf H locs la C hR hP hS hB hz hL hst kr
  have h := hL.2.2.2 _ _ hl n19
  exact lv_lload C.1 C.2.1 hd h.1 (K cs D B b p l e R s m args below meth c Qf H locs la C hR hP hS hB hz hL (okc h.2 hst) kr)
theorem a_aload_n {i : Fin 4} {x : Int} (hd : decode mt.code pc = .ok (.aload_n i, 1)) (hx : 0 ≤ x) (hl : ls[(i : Nat)]? = some (2, x)) (K : AWG mt Ex k n (pc + 1) ls ((2, x) :: st) S M Q) : AWG mt Ex k n pc ls (st) S M Q := by
  intro cs D B b p l e R s m args below meth c Qf H locs la C hR hP hS hB hz hL hst kr
  have h := hL.2.2.2 _ _ hl n29
  have h1 := h.1
  rw [cv2 hx] at h1
  have hk := (K cs D B b p l e R s m args below meth c Qf H locs la C hR hP hS hB hz hL (okc h.2 hst) kr)
  rw [List.map_cons, cv2 hx] at hk
  exact lv_aload_n C.1 C.2.1 hd rfl h1 hk
theorem a_saload_n {i : Fin 4} {x : Int} (hd : decode mt.code pc = .ok (.aload_n i, 1)) (hl : ls[(i : Nat)]? = some (3, x)) (K : AWG mt Ex k n (pc + 1) ls ((3, x) :: st) S M Q) : AWG mt Ex k n pc ls (st) S M Q := by
  intro cs D B b p l e R s m args below meth c Qf H locs la C hR hP hS hB hz hL hst kr
  have h := hL.2.2.2 _ _ hl n39
  exact lv_aload_n C.1 C.2.1 hd rfl h.1 (K cs D B b p l e R s m args below meth c Qf H locs la C hR hP hS hB hz hL (okc h.2 hst) kr)
theorem a_aload {i : Nat} {x : Int} (hd : decode mt.code pc = .ok (.aload i, 2)) (hx : 0 ≤ x) (hl : ls[i]? = some (2, x)) (K : AWG mt Ex k n (pc + 2) ls ((2, x) :: st) S M Q) : AWG mt Ex k n pc ls (st) S M Q := by
  intro cs D B b p l e R s m args below meth c Qf H locs la C hR hP hS hB hz hL hst kr
  have h := hL.2.2.2 _ _ hl n29
  have h1 := h.1
  rw [cv2 hx] at h1
  have hk := (K cs D B b p l e R s m args below meth c Qf H locs la C hR hP hS hB hz hL (okc h.2 hst) kr)
  rw [List.map_cons, cv2 hx] at hk
  exact lv_aload C.1 C.2.1 hd h1 hk
theorem a_saload {i : Nat} {x : Int} (hd : decode mt.code pc = .ok (.aload i, 2)) (hl : ls[i]? = some (3, x)) (K : AWG mt Ex k n (pc + 2) ls ((3, x) :: st) S M Q) : AWG mt Ex k n pc ls (st) S M Q := by
  intro cs D B b p l e R s m args below meth c Qf H locs la C hR hP hS hB hz hL hst kr
  have h := hL.2.2.2 _ _ hl n39
  exact lv_aload C.1 C.2.1 hd h.1 (K cs D B b p l e R s m args below meth c Qf H locs la C hR hP hS hB hz hL (okc h.2 hst) kr)
theorem a_istore_n {i : Fin 4} {x : Int} {ls1 : List AV} (hd : decode mt.code pc = .ok (.istore_n i, 1)) (hi : (i : Nat) < mt.maxL) (hp : ∀ y, (i : Nat) ≠ 0 → ls[(i : Nat) - 1]? = some y → y.1 ≠ 1) (he : ls.set (i : Nat) (0, x) = ls1) (K : AWG mt Ex k n (pc + 1) ls1 (st) S M Q) : AWG mt Ex k n pc ls ((0, x) :: st) S M Q := by
  intro cs D B b p l e R s m args below meth c Qf H locs la C hR hP hS hB hz hL hst kr
  subst he
  refine lv_istore_n C.1 C.2.1 hd rfl (lAll_has hL) hi rfl fun la2 h2 => ?_
  exact K cs D B b p l e R s m args below meth c Qf H locs la2 C hR hP hS hB hz (hL.set1 (v := (0, x)) (okh hst) hi hp (fun q hq h => List.mem_filter.mpr ⟨hq, h⟩) h2) (okt hst) kr
theorem a_astore_n {i : Fin 4} {x : Int} {ls1 : List AV} (hd : decode mt.code pc = .ok (.astore_n i, 1)) (hx : 0 ≤ x) (hi : (i : Nat) < mt.maxL) (hp : ∀ y, (i : Nat) ≠ 0 → ls[(i : Nat) - 1]? = some y → y.1 ≠ 1) (he : ls.set (i : Nat) (2, x) = ls1) (K : AWG mt Ex k n (pc + 1) ls1 (st) S M Q) : AWG mt Ex k n pc ls ((2, x) :: st) S M Q := by
  intro cs D B b p l e R s m args below meth c Qf H locs la C hR hP hS hB hz hL hst kr
  subst he
  rw [List.map_cons, cv2 hx]
  refine lv_astore_n C.1 C.2.1 hd rfl (lAll_has hL) hi rfl fun la2 h2 => ?_
  rw [← cv2 (b := b) hx] at h2
  exact K cs D B b p l e R s m args below meth c Qf H locs la2 C hR hP hS hB hz (hL.set1 (v := (2, x)) (okh hst) hi hp (fun q hq h => List.mem_filter.mpr ⟨hq, h⟩) h2) (okt hst) kr
theorem a_lstore_n {i : Fin 4} {x : Int} {ls1 : List AV} (hd : decode mt.code pc = .ok (.lstore_n i, 1)) (hi : (i : Nat) + 1 < mt.maxL) (hp : ∀ y, (i : Nat) ≠ 0 → ls[(i : Nat) - 1]? = some y → y.1 ≠ 1) (he : (ls.set (i : Nat) (1, x)).set ((i : Nat) + 1) (9, 0) = ls1) (K : AWG mt Ex k n (pc + 1) ls1 (st) S M Q) : AWG mt Ex k n pc ls ((1, x) :: st) S M Q := by
  intro cs D B b p l e R s m args below meth c Qf H locs la C hR hP hS hB hz hL hst kr
  subst he
  refine lv_lstore_n C.1 C.2.1 hd rfl (lAll_has hL) hi rfl fun la2 h2 => ?_
  exact K cs D B b p l e R s m args below meth c Qf H locs la2 C hR hP hS hB hz (hL.set2 ((okh hst).2 rfl) hi hp (fun q hq h => List.mem_filter.mpr ⟨hq, h⟩) h2) (okt hst) kr
theorem a_istore {i : Nat} {x : Int} {ls1 : List AV} (hd : decode mt.code pc = .ok (.istore i, 2)) (hi : i < mt.maxL) (hp : ∀ y, i ≠ 0 → ls[i - 1]? = some y → y.1 ≠ 1) (he : ls.set i (0, x) = ls1) (K : AWG mt Ex k n (pc + 2) ls1 (st) S M Q) : AWG mt Ex k n pc ls ((0, x) :: st) S M Q := by
  intro cs D B b p l e R s m args below meth c Qf H locs la C hR hP hS hB hz hL hst kr
  subst he
  refine lv_istore C.1 C.2.1 hd (lAll_has hL) hi rfl fun la2 h2 => ?_
  exact K cs D B b p l e R s m args below meth c Qf H locs la2 C hR hP hS hB hz (hL.set1 (v := (0, x)) (okh hst) hi hp (fun q hq h => List.mem_filter.mpr ⟨hq, h⟩) h2) (okt hst) kr
theorem a_astore {i : Nat} {x : Int} {ls1 : List AV} (hd : decode mt.code pc = .ok (.astore i, 2)) (hx : 0 ≤ x) (hi : i < mt.maxL) (hp : ∀ y, i ≠ 0 → ls[i - 1]? = some y → y.1 ≠ 1) (he : ls.set i (2, x) = ls1) (K : AWG mt Ex k n (pc + 2) ls1 (st) S M Q) : AWG mt Ex k n pc ls ((2, x) :: st) S M Q := by
  intro cs D B b p l e R s m args below meth c Qf H locs la C hR hP hS hB hz hL hst kr
  subst he
  rw [List.map_cons, cv2 hx]
  refine lv_astore C.1 C.2.1 hd (lAll_has hL) hi rfl fun la2 h2 => ?_
  rw [← cv2 (b := b) hx] at h2
  exact K cs D B b p l e R s m args below meth c Qf H locs la2 C hR hP hS hB hz (hL.set1 (v := (2, x)) (okh hst) hi hp (fun q hq h => List.mem_filter.mpr ⟨hq, h⟩) h2) (okt hst) kr
theorem a_lstore {i : Nat} {x : Int} {ls1 : List AV} (hd : decode mt.code pc = .ok (.lstore i, 2)) (hi : i + 1 < mt.maxL) (hp : ∀ y, i ≠ 0 → ls[i - 1]? = some y → y.1 ≠ 1) (he : (ls.set i (1, x)).set (i + 1) (9, 0) = ls1) (K : AWG mt Ex k n (pc + 2) ls1 (st) S M Q) : AWG mt Ex k n pc ls ((1, x) :: st) S M Q := by
  intro cs D B b p l e R s m args below meth c Qf H locs la C hR hP hS hB hz hL hst kr
  subst he
  refine lv_lstore C.1 C.2.1 hd (lAll_has hL) hi rfl fun la2 h2 => ?_
  exact K cs D B b p l e R s m args below meth c Qf H locs la2 C hR hP hS hB hz (hL.set2 ((okh hst).2 rfl) hi hp (fun q hq h => List.mem_filter.mpr ⟨hq, h⟩) h2) (okt hst) kr
theorem a_iinc {i : Nat} {x d : Int} {ls1 : List AV} (hd : decode mt.code pc = .ok (.iinc i d, 3)) (hl : ls[i]? = some (0, x)) (hi : i < mt.maxL) (hp : ∀ y, i ≠ 0 → ls[i - 1]? = some y → y.1 ≠ 1) (ho : in32 (x + d)) (he : ls.set i (0, x + d) = ls1) (K : AWG mt Ex k n (pc + 3) ls1 (st) S M Q) : AWG mt Ex k n pc ls (st) S M Q := by
  intro cs D B b p l e R s m args below meth c Qf H locs la C hR hP hS hB hz hL hst kr
  subst he
  have h0 := hL.2.2.2 _ _ hl n09
  have hh : lv_has la mt.maxL ((i, Value.int (Int32.ofInt x)) :: lAll B b ls) := ⟨hL.1, hL.2.2.1, fun q hq => by
    rcases List.mem_cons.mp hq with rfl | hq
    · exact h0.1
    · exact (lAll_has hL).2.2 q hq⟩
  refine lv_iinc (k := 0) C.1 C.2.1 hd hh rfl rfl hi rfl fun la2 h2 => ?_
  rw [← Int32.ofInt_add] at h2
  exact K cs D B b p l e R s m args below meth c Qf H locs la2 C hR hP hS hB hz (hL.set1 (v := (0, x + d)) (ok0 ho) hi hp (fun q hq h => List.mem_filter.mpr ⟨List.mem_cons_of_mem _ hq, h⟩) h2) hst kr
theorem a_iadd {x y : Int} (hd : decode mt.code pc = .ok (.iadd, 1)) (ho : in32 (x + y)) (K : AWG mt Ex k n (pc + 1) ls ((0, x + y) :: st) S M Q) : AWG mt Ex k n pc ls ((0, y) :: (0, x) :: st) S M Q := by
  intro cs D B b p l e R s m args below meth c Qf H locs la C hR hP hS hB hz hL hst kr
  have hk := (K cs D B b p l e R s m args below meth c Qf H locs la C hR hP hS hB hz hL (okc (ok0 ho) (okt (okt hst))) kr)
  simp only [List.map_cons, cvv, Int32.ofInt_add] at hk ⊢
  exact lv_iadd C.1 C.2.1 hd hk
theorem a_isub {x y : Int} (hd : decode mt.code pc = .ok (.isub, 1)) (ho : in32 (x - y)) (K : AWG mt Ex k n (pc + 1) ls ((0, x - y) :: st) S M Q) : AWG mt Ex k n pc ls ((0, y) :: (0, x) :: st) S M Q := by
  intro cs D B b p l e R s m args below meth c Qf H locs la C hR hP hS hB hz hL hst kr
  have hk := (K cs D B b p l e R s m args below meth c Qf H locs la C hR hP hS hB hz hL (okc (ok0 ho) (okt (okt hst))) kr)
  simp only [List.map_cons, cvv, Int32.ofInt_sub] at hk ⊢
  exact lv_isub C.1 C.2.1 hd hk
theorem a_imul {x y : Int} (hd : decode mt.code pc = .ok (.imul, 1)) (ho : in32 (x * y)) (K : AWG mt Ex k n (pc + 1) ls ((0, x * y) :: st) S M Q) : AWG mt Ex k n pc ls ((0, y) :: (0, x) :: st) S M Q := by
  intro cs D B b p l e R s m args below meth c Qf H locs la C hR hP hS hB hz hL hst kr
  have hk := (K cs D B b p l e R s m args below meth c Qf H locs la C hR hP hS hB hz hL (okc (ok0 ho) (okt (okt hst))) kr)
  simp only [List.map_cons, cvv, Int32.ofInt_mul] at hk ⊢
  exact lv_imul C.1 C.2.1 hd hk
theorem a_ladd {x y : Int} (hd : decode mt.code pc = .ok (.ladd, 1)) (ho : in64 (x + y)) (K : AWG mt Ex k n (pc + 1) ls ((1, x + y) :: st) S M Q) : AWG mt Ex k n pc ls ((1, y) :: (1, x) :: st) S M Q := by
  intro cs D B b p l e R s m args below meth c Qf H locs la C hR hP hS hB hz hL hst kr
  have hk := (K cs D B b p l e R s m args below meth c Qf H locs la C hR hP hS hB hz hL (okc (ok1 ho) (okt (okt hst))) kr)
  simp only [List.map_cons, cvv, Int64.ofInt_add] at hk ⊢
  exact lv_ladd C.1 C.2.1 hd hk
theorem a_lsub {x y : Int} (hd : decode mt.code pc = .ok (.lsub, 1)) (ho : in64 (x - y)) (K : AWG mt Ex k n (pc + 1) ls ((1, x - y) :: st) S M Q) : AWG mt Ex k n pc ls ((1, y) :: (1, x) :: st) S M Q := by
  intro cs D B b p l e R s m args below meth c Qf H locs la C hR hP hS hB hz hL hst kr
  have hk := (K cs D B b p l e R s m args below meth c Qf H locs la C hR hP hS hB hz hL (okc (ok1 ho) (okt (okt hst))) kr)
  simp only [List.map_cons, cvv, Int64.ofInt_sub] at hk ⊢
  exact lv_lsub C.1 C.2.1 hd hk
theorem a_lmul {x y : Int} (hd : decode mt.code pc = .ok (.lmul, 1)) (ho : in64 (x * y)) (K : AWG mt Ex k n (pc + 1) ls ((1, x * y) :: st) S M Q) : AWG mt Ex k n pc ls ((1, y) :: (1, x) :: st) S M Q := by
  intro cs D B b p l e R s m args below meth c Qf H locs la C hR hP hS hB hz hL hst kr
  have hk := (K cs D B b p l e R s m args below meth c Qf H locs la C hR hP hS hB hz hL (okc (ok1 ho) (okt (okt hst))) kr)
  simp only [List.map_cons, cvv, Int64.ofInt_mul] at hk ⊢
  exact lv_lmul C.1 C.2.1 hd hk
theorem a_idiv {x y : Int} (hd : decode mt.code pc = .ok (.idiv, 1)) (h0 : 0 ≤ x) (hy : 0 < y) (K : AWG mt Ex k n (pc + 1) ls ((0, x / y) :: st) S M Q) : AWG mt Ex k n pc ls ((0, y) :: (0, x) :: st) S M Q := by
  intro cs D B b p l e R s m args below meth c Qf H locs la C hR hP hS hB hz hL hst kr
  have hy2 : in32 y := (okh hst).1 rfl
  have hx2 : in32 x := (okh (okt hst)).1 rfl
  have q1 := Int.ediv_nonneg h0 (Int.le_of_lt hy)
  have q2 := Int.ediv_le_self y h0
  have ho : in32 (x / y) := ⟨by have := hy2.1; omega, by have := hx2.2; have := hy2.2; omega⟩
  have hk := (K cs D B b p l e R s m args below meth c Qf H locs la C hR hP hS hB hz hL (okc (ok0 ho) (okt (okt hst))) kr)
  rw [List.map_cons, show cvv B b (0, x / y) = .int (Int32.ofInt (x / y)) from rfl, ← i32div hx2 h0 hy hy2] at hk
  refine lv_idiv C.1 C.2.1 hd (fun q => ?_) hk
  have := (i32eq (b := 0) hy2 (by decide)).mp q
  omega
theorem a_irem {x y : Int} (hd : decode mt.code pc = .ok (.irem, 1)) (h0 : 0 ≤ x) (hy : 0 < y) (K : AWG mt Ex k n (pc + 1) ls ((0, x % y) :: st) S M Q) : AWG mt Ex k n pc ls ((0, y) :: (0, x) :: st) S M Q := by
  intro cs D B b p l e R s m args below meth c Qf H locs la C hR hP hS hB hz hL hst kr
  have hy2 : in32 y := (okh hst).1 rfl
  have hx2 : in32 x := (okh (okt hst)).1 rfl
  have q1 := Int.emod_nonneg x (show y ≠ 0 by omega)
  have q2 := Int.emod_lt_of_pos x hy
  have q3 := (okh hst)
  have ho : in32 (x % y) := ⟨by have := hy2.1; omega, by have := hx2.2; have := hy2.2; omega⟩
  have hk := (K cs D B b p l e R s m args below meth c Qf H locs la C hR hP hS hB hz hL (okc (ok0 ho) (okt (okt hst))) kr)
  rw [List.map_cons, show cvv B b (0, x % y) = .int (Int32.ofInt (x % y)) from rfl, ← i32rem hx2 h0 hy hy2] at hk
  refine lv_irem C.1 C.2.1 hd (fun q => ?_) hk
  have := (i32eq (b := 0) hy2 (by decide)).mp q
  omega
theorem a_ldiv {x y : Int} (hd : decode mt.code pc = .ok (.ldiv, 1)) (h0 : 0 ≤ x) (hy : 0 < y) (K : AWG mt Ex k n (pc + 1) ls ((1, x / y) :: st) S M Q) : AWG mt Ex k n pc ls ((1, y) :: (1, x) :: st) S M Q := by
  intro cs D B b p l e R s m args below meth c Qf H locs la C hR hP hS hB hz hL hst kr
  have hy2 : in64 y := (okh hst).2 rfl
  have hx2 : in64 x := (okh (okt hst)).2 rfl
  have q1 := Int.ediv_nonneg h0 (Int.le_of_lt hy)
  have q2 := Int.ediv_le_self y h0
  have ho : in64 (x / y) := ⟨by have := hy2.1; omega, by have := hx2.2; have := hy2.2; omega⟩
  have hk := (K cs D B b p l e R s m args below meth c Qf H locs la C hR hP hS hB hz hL (okc (ok1 ho) (okt (okt hst))) kr)
  rw [List.map_cons, show cvv B b (1, x / y) = .long (Int64.ofInt (x / y)) from rfl, ← i64div hx2 h0 hy hy2] at hk
  refine lv_ldiv C.1 C.2.1 hd (fun q => ?_) hk
  have := (i64eq (b := 0) hy2 (by decide)).mp q
  omega
theorem a_lrem {x y : Int} (hd : decode mt.code pc = .ok (.lrem, 1)) (h0 : 0 ≤ x) (hy : 0 < y) (K : AWG mt Ex k n (pc + 1) ls ((1, x % y) :: st) S M Q) : AWG mt Ex k n pc ls ((1, y) :: (1, x) :: st) S M Q := by
  intro cs D B b p l e R s m args below meth c Qf H locs la C hR hP hS hB hz hL hst kr
  have hy2 : in64 y := (okh hst).2 rfl
  have hx2 : in64 x := (okh (okt hst)).2 rfl
  have q1 := Int.emod_nonneg x (show y ≠ 0 by omega)
  have q2 := Int.emod_lt_of_pos x hy
  have q3 := (okh hst)
  have ho : in64 (x % y) := ⟨by have := hy2.1; omega, by have := hx2.2; have := hy2.2; omega⟩
  have hk := (K cs D B b p l e R s m args below meth c Qf H locs la C hR hP hS hB hz hL (okc (ok1 ho) (okt (okt hst))) kr)
  rw [List.map_cons, show cvv B b (1, x % y) = .long (Int64.ofInt (x % y)) from rfl, ← i64rem hx2 h0 hy hy2] at hk
  refine lv_lrem C.1 C.2.1 hd (fun q => ?_) hk
  have := (i64eq (b := 0) hy2 (by decide)).mp q
  omega
theorem a_i2l {x : Int} (hd : decode mt.code pc = .ok (.i2l, 1)) (K : AWG mt Ex k n (pc + 1) ls ((1, x) :: st) S M Q) : AWG mt Ex k n pc ls ((0, x) :: st) S M Q := by
  intro cs D B b p l e R s m args below meth c Qf H locs la C hR hP hS hB hz hL hst kr
  have hx : in32 x := (okh hst).1 rfl
  exact lv_i2l C.1 C.2.1 hd (i32l hx) (K cs D B b p l e R s m args below meth c Qf H locs la C hR hP hS hB hz hL (okc (ok1 ⟨by have := hx.1; omega, by have := hx.2; omega⟩) (okt hst)) kr)
theorem a_l2i {x : Int} (hd : decode mt.code pc = .ok (.l2i, 1)) (hx : in32 x) (K : AWG mt Ex k n (pc + 1) ls ((0, x) :: st) S M Q) : AWG mt Ex k n pc ls ((1, x) :: st) S M Q := by
  intro cs D B b p l e R s m args below meth c Qf H locs la C hR hP hS hB hz hL hst kr
  exact lv_l2i C.1 C.2.1 hd (l2i hx) (K cs D B b p l e R s m args below meth c Qf H locs la C hR hP hS hB hz hL (okc (ok0 hx) (okt hst)) kr)
theorem a_dup {v : AV} (hd : decode mt.code pc = .ok (.dup, 1)) (hv : v.1 ≠ 1) (K : AWG mt Ex k n (pc + 1) ls (v :: v :: st) S M Q) : AWG mt Ex k n pc ls (v :: st) S M Q := by
  intro cs D B b p l e R s m args below meth c Qf H locs la C hR hP hS hB hz hL hst kr
  exact lv_dup C.1 C.2.1 hd (cat_cvv B b v hv) (K cs D B b p l e R s m args below meth c Qf H locs la C hR hP hS hB hz hL (okc (okh hst) hst) kr)
theorem a_dup2 {v w : AV} (hd : decode mt.code pc = .ok (.dup2, 1)) (hv : v.1 ≠ 1) (hw : w.1 ≠ 1) (K : AWG mt Ex k n (pc + 1) ls (v :: w :: v :: w :: st) S M Q) : AWG mt Ex k n pc ls (v :: w :: st) S M Q := by
  intro cs D B b p l e R s m args below meth c Qf H locs la C hR hP hS hB hz hL hst kr
  exact lv_dup2_11 C.1 C.2.1 hd (cat_cvv B b v hv) (cat_cvv B b w hw) (K cs D B b p l e R s m args below meth c Qf H locs la C hR hP hS hB hz hL (okc (okh hst) (okc (okh (okt hst)) hst)) kr)
theorem a_icmp_eq {x y off : Int} {tgt : Nat} (hd : decode mt.code pc = .ok (.if_icmp .eq off, 3)) (ht : (pc : Int) + off = (tgt : Int)) (kt : x = y → AWG mt Ex k n tgt ls st S M Q) (kf : ¬ (x = y) → AWG mt Ex k n (pc + 3) ls st S M Q) : AWG mt Ex k n pc ls ((0, y) :: (0, x) :: st) S M Q := by
  intro cs D B b p l e R s m args below meth c Qf H locs la C hR hP hS hB hz hL hst kr
  have hy : in32 y := (okh hst).1 rfl
  have hx : in32 x := (okh (okt hst)).1 rfl
  refine lv_icmp_eq C.1 C.2.1 hd ht (fun q => ?_) (fun q => ?_)
  · exact (kt (by first | exact (i32eq hx hy).mp q | exact (i32lt hx hy).mp q | exact (i32le hx hy).mp q | exact (i32lt hy hx).mp q | exact (i32le hy hx).mp q | exact fun z => q ((i32eq hx hy).mpr z)) cs D B b p l e R s m args below meth c Qf H locs la C hR hP hS hB hz hL (okt (okt hst)) kr)
  · exact (kf (by first | exact fun z => q ((i32eq hx hy).mpr z) | exact fun z => q ((i32lt hx hy).mpr z) | exact fun z => q ((i32le hx hy).mpr z) | exact fun z => q ((i32lt hy hx).mpr z) | exact fun z => q ((i32le hy hx).mpr z) | exact fun z => q (fun w => z ((i32eq hx hy).mp w)) | exact fun z => z ((i32eq hx hy).mp (Classical.not_not.mp q)) | exact fun z => q fun w => z ((i32eq hx hy).mp w)) cs D B b p l e R s m args below meth c Qf H locs la C hR hP hS hB hz hL (okt (okt hst)) kr)
theorem a_if_eq {x off : Int} {tgt : Nat} (hd : decode mt.code pc = .ok (.ifCond .eq off, 3)) (ht : (pc : Int) + off = (tgt : Int)) (kt : x = 0 → AWG mt Ex k n tgt ls st S M Q) (kf : ¬ (x = 0) → AWG mt Ex k n (pc + 3) ls st S M Q) : AWG mt Ex k n pc ls ((0, x) :: st) S M Q := by
  intro cs D B b p l e R s m args below meth c Qf H locs la C hR hP hS hB hz hL hst kr
  have hy : in32 0 := by decide
  have hx : in32 x := (okh hst).1 rfl
  refine lv_if_eq C.1 C.2.1 hd ht (fun q => ?_) (fun q => ?_)
  · exact (kt (by first | exact (i32eq hx hy).mp q | exact (i32lt hx hy).mp q | exact (i32le hx hy).mp q | exact (i32lt hy hx).mp q | exact (i32le hy hx).mp q | exact fun z => q ((i32eq hx hy).mpr z)) cs D B b p l e R s m args below meth c Qf H locs la C hR hP hS hB hz hL (okt hst) kr)
  · exact (kf (by first | exact fun z => q ((i32eq hx hy).mpr z) | exact fun z => q ((i32lt hx hy).mpr z) | exact fun z => q ((i32le hx hy).mpr z) | exact fun z => q ((i32lt hy hx).mpr z) | exact fun z => q ((i32le hy hx).mpr z) | exact fun z => q (fun w => z ((i32eq hx hy).mp w)) | exact fun z => z ((i32eq hx hy).mp (Classical.not_not.mp q)) | exact fun z => q fun w => z ((i32eq hx hy).mp w)) cs D B b p l e R s m args below meth c Qf H locs la C hR hP hS hB hz hL (okt hst) kr)
theorem a_lcmp_eq {x y off : Int} {tgt : Nat} (hd0 : decode mt.code pc = .ok (.lcmp, 1)) (hd : decode mt.code (pc + 1) = .ok (.ifCond .eq off, 3)) (ht : ((pc + 1 : Nat) : Int) + off = (tgt : Int)) (kt : x = y → AWG mt Ex k n tgt ls st S M Q) (kf : ¬ (x = y) → AWG mt Ex k n (pc + 4) ls st S M Q) : AWG mt Ex k n pc ls ((1, y) :: (1, x) :: st) S M Q := by
  intro cs D B b p l e R s m args below meth c Qf H locs la C hR hP hS hB hz hL hst kr
  have hy : in64 y := (okh hst).2 rfl
  have hx : in64 x := (okh (okt hst)).2 rfl
  refine W.lcmp C.1 C.2.1 hd0 ?_
  have key := lcmpT hx hy
  refine lv_if_eq C.1 C.2.1 hd ht (fun q => ?_) (fun q => ?_)
  · refine (kt ?_ cs D B b p l e R s m args below meth c Qf H locs la C hR hP hS hB hz hL (okt (okt hst)) kr)
    rcases key with ⟨e, h⟩ | ⟨e, h⟩ | ⟨e, h⟩ <;> rw [e] at q <;> first | omega | exact absurd q (by decide)
  · refine (kf ?_ cs D B b p l e R s m args below meth c Qf H locs la C hR hP hS hB hz hL (okt (okt hst)) kr)
    rcases key with ⟨e, h⟩ | ⟨e, h⟩ | ⟨e, h⟩ <;> rw [e] at q <;> first | omega | exact absurd q (by decide) | exact absurd (by decide) q
theorem a_icmp_ne {x y off : Int} {tgt : Nat} (hd : decode mt.code pc = .ok (.if_icmp .ne off, 3)) (ht : (pc : Int) + off = (tgt : Int)) (kt : ¬ x = y → AWG mt Ex k n tgt ls st S M Q) (kf : x = y → AWG mt Ex k n (pc + 3) ls st S M Q) : AWG mt Ex k n pc ls ((0, y) :: (0, x) :: st) S M Q := by
  intro cs D B b p l e R s m args below meth c Qf H locs la C hR hP hS hB hz hL hst kr
  have hy : in32 y := (okh hst).1 rfl
  have hx : in32 x := (okh (okt hst)).1 rfl
  refine lv_icmp_ne C.1 C.2.1 hd ht (fun q => ?_) (fun q => ?_)
  · exact (kt (by first | exact (i32eq hx hy).mp q | exact (i32lt hx hy).mp q | exact (i32le hx hy).mp q | exact (i32lt hy hx).mp q | exact (i32le hy hx).mp q | exact fun z => q ((i32eq hx hy).mpr z)) cs D B b p l e R s m args below meth c Qf H locs la C hR hP hS hB hz hL (okt (okt hst)) kr)
  · exact (kf ((i32eq hx hy).mp q) cs D B b p l e R s m args below meth c Qf H locs la C hR hP hS hB hz hL (okt (okt hst)) kr)
theorem a_if_ne {x off : Int} {tgt : Nat} (hd : decode mt.code pc = .ok (.ifCond .ne off, 3)) (ht : (pc : Int) + off = (tgt : Int)) (kt : ¬ x = 0 → AWG mt Ex k n tgt ls st S M Q) (kf : x = 0 → AWG mt Ex k n (pc + 3) ls st S M Q) : AWG mt Ex k n pc ls ((0, x) :: st) S M Q := by
  intro cs D B b p l e R s m args below meth c Qf H locs la C hR hP hS hB hz hL hst kr
  have hy : in32 0 := by decide
  have hx : in32 x := (okh hst).1 rfl
  refine lv_if_ne C.1 C.2.1 hd ht (fun q => ?_) (fun q => ?_)
  · exact (kt (by first | exact (i32eq hx hy).mp q | exact (i32lt hx hy).mp q | exact (i32le hx hy).mp q | exact (i32lt hy hx).mp q | exact (i32le hy hx).mp q | exact fun z => q ((i32eq hx hy).mpr z)) cs D B b p l e R s m args below meth c Qf H locs la C hR hP hS hB hz hL (okt hst) kr)
  · exact (kf ((i32eq hx hy).mp q) cs D B b p l e R s m args below meth c Qf H locs la C hR hP hS hB hz hL (okt hst) kr)
theorem a_lcmp_ne {x y off : Int} {tgt : Nat} (hd0 : decode mt.code pc = .ok (.lcmp, 1)) (hd : decode mt.code (pc + 1) = .ok (.ifCond .ne off, 3)) (ht : ((pc + 1 : Nat) : Int) + off = (tgt : Int)) (kt : ¬ x = y → AWG mt Ex k n tgt ls st S M Q) (kf : x = y → AWG mt Ex k n (pc + 4) ls st S M Q) : AWG mt Ex k n pc ls ((1, y) :: (1, x) :: st) S M Q := by
  intro cs D B b p l e R s m args below meth c Qf H locs la C hR hP hS hB hz hL hst kr
  have hy : in64 y := (okh hst).2 rfl
  have hx : in64 x := (okh (okt hst)).2 rfl
  refine W.lcmp C.1 C.2.1 hd0 ?_
  have key := lcmpT hx hy
  refine lv_if_ne C.1 C.2.1 hd ht (fun q => ?_) (fun q => ?_)
  · refine (kt ?_ cs D B b p l e R s m args below meth c Qf H locs la C hR hP hS hB hz hL (okt (okt hst)) kr)
    rcases key with ⟨e, h⟩ | ⟨e, h⟩ | ⟨e, h⟩ <;> rw [e] at q <;> first | omega | exact absurd q (by decide)
  · refine (kf ?_ cs D B b p l e R s m args below meth c Qf H locs la C hR hP hS hB hz hL (okt (okt hst)) kr)
    rcases key with ⟨e, h⟩ | ⟨e, h⟩ | ⟨e, h⟩ <;> rw [e] at q <;> first | omega | exact absurd q (by decide) | exact absurd (by decide) q
theorem a_icmp_lt {x y off : Int} {tgt : Nat} (hd : decode mt.code pc = .ok (.if_icmp .lt off, 3)) (ht : (pc : Int) + off = (tgt : Int)) (kt : x < y → AWG mt Ex k n tgt ls st S M Q) (kf : ¬ (x < y) → AWG mt Ex k n (pc + 3) ls st S M Q) : AWG mt Ex k n pc ls ((0, y) :: (0, x) :: st) S M Q := by
  intro cs D B b p l e R s m args below meth c Qf H locs la C hR hP hS hB hz hL hst kr
  have hy : in32 y := (okh hst).1 rfl
  have hx : in32 x := (okh (okt hst)).1 rfl
  refine lv_icmp_lt C.1 C.2.1 hd ht (fun q => ?_) (fun q => ?_)
  · exact (kt (by first | exact (i32eq hx hy).mp q | exact (i32lt hx hy).mp q | exact (i32le hx hy).mp q | exact (i32lt hy hx).mp q | exact (i32le hy hx).mp q | exact fun z => q ((i32eq hx hy).mpr z)) cs D B b p l e R s m args below meth c Qf H locs la C hR hP hS hB hz hL (okt (okt hst)) kr)
  · exact (kf (by first | exact fun z => q ((i32eq hx hy).mpr z) | exact fun z => q ((i32lt hx hy).mpr z) | exact fun z => q ((i32le hx hy).mpr z) | exact fun z => q ((i32lt hy hx).mpr z) | exact fun z => q ((i32le hy hx).mpr z) | exact fun z => q (fun w => z ((i32eq hx hy).mp w)) | exact fun z => z ((i32eq hx hy).mp (Classical.not_not.mp q)) | exact fun z => q fun w => z ((i32eq hx hy).mp w)) cs D B b p l e R s m args below meth c Qf H locs la C hR hP hS hB hz hL (okt (okt hst)) kr)
theorem a_if_lt {x off : Int} {tgt : Nat} (hd : decode mt.code pc = .ok (.ifCond .lt off, 3)) (ht : (pc : Int) + off = (tgt : Int)) (kt : x < 0 → AWG mt Ex k n tgt ls st S M Q) (kf : ¬ (x < 0) → AWG mt Ex k n (pc + 3) ls st S M Q) : AWG mt Ex k n pc ls ((0, x) :: st) S M Q := by
  intro cs D B b p l e R s m args below meth c Qf H locs la C hR hP hS hB hz hL hst kr
  have hy : in32 0 := by decide
  have hx : in32 x := (okh hst).1 rfl
  refine lv_if_lt C.1 C.2.1 hd ht (fun q => ?_) (fun q => ?_)
  · exact (kt (by first | exact (i32eq hx hy).mp q | exact (i32lt hx hy).mp q | exact (i32le hx hy).mp q | exact (i32lt hy hx).mp q | exact (i32le hy hx).mp q | exact fun z => q ((i32eq hx hy).mpr z)) cs D B b p l e R s m args below meth c Qf H locs la C hR hP hS hB hz hL (okt hst) kr)
  · exact (kf (by first | exact fun z => q ((i32eq hx hy).mpr z) | exact fun z => q ((i32lt hx hy).mpr z) | exact fun z => q ((i32le hx hy).mpr z) | exact fun z => q ((i32lt hy hx).mpr z) | exact fun z => q ((i32le hy hx).mpr z) | exact fun z => q (fun w => z ((i32eq hx hy).mp w)) | exact fun z => z ((i32eq hx hy).mp (Classical.not_not.mp q)) | exact fun z => q fun w => z ((i32eq hx hy).mp w)) cs D B b p l e R s m args below meth c Qf H locs la C hR hP hS hB hz hL (okt hst) kr)
theorem a_lcmp_lt {x y off : Int} {tgt : Nat} (hd0 : decode mt.code pc = .ok (.lcmp, 1)) (hd : decode mt.code (pc + 1) = .ok (.ifCond .lt off, 3)) (ht : ((pc + 1 : Nat) : Int) + off = (tgt : Int)) (kt : x < y → AWG mt Ex k n tgt ls st S M Q) (kf : ¬ (x < y) → AWG mt Ex k n (pc + 4) ls st S M Q) : AWG mt Ex k n pc ls ((1, y) :: (1, x) :: st) S M Q := by
  intro cs D B b p l e R s m args below meth c Qf H locs la C hR hP hS hB hz hL hst kr
  have hy : in64 y := (okh hst).2 rfl
  have hx : in64 x := (okh (okt hst)).2 rfl
  refine W.lcmp C.1 C.2.1 hd0 ?_
  have key := lcmpT hx hy
  refine lv_if_lt C.1 C.2.1 hd ht (fun q => ?_) (fun q => ?_)
  · refine (kt ?_ cs D B b p l e R s m args below meth c Qf H locs la C hR hP hS hB hz hL (okt (okt hst)) kr)
    rcases key with ⟨e, h⟩ | ⟨e, h⟩ | ⟨e, h⟩ <;> rw [e] at q <;> first | omega | exact absurd q (by decide)
  · refine (kf ?_ cs D B b p l e R s m args below meth c Qf H locs la C hR hP hS hB hz hL (okt (okt hst)) kr)
    rcases key with ⟨e, h⟩ | ⟨e, h⟩ | ⟨e, h⟩ <;> rw [e] at q <;> first | omega | exact absurd q (by decide) | exact absurd (by decide) q
theorem a_icmp_ge {x y off : Int} {tgt : Nat} (hd : decode mt.code pc = .ok (.if_icmp .ge off, 3)) (ht : (pc : Int) + off = (tgt : Int)) (kt : y ≤ x → AWG mt Ex k n tgt ls st S M Q) (kf : ¬ (y ≤ x) → AWG mt Ex k n (pc + 3) ls st S M Q) : AWG mt Ex k n pc ls ((0, y) :: (0, x) :: st) S M Q := by
  intro cs D B b p l e R s m args below meth c Qf H locs la C hR hP hS hB hz hL hst kr
  have hy : in32 y := (okh hst).1 rfl
  have hx : in32 x := (okh (okt hst)).1 rfl
  refine lv_icmp_ge C.1 C.2.1 hd ht (fun q => ?_) (fun q => ?_)
  · exact (kt (by first | exact (i32eq hx hy).mp q | exact (i32lt hx hy).mp q | exact (i32le hx hy).mp q | exact (i32lt hy hx).mp q | exact (i32le hy hx).mp q | exact fun z => q ((i32eq hx hy).mpr z)) cs D B b p l e R s m args below meth c Qf H locs la C hR hP hS hB hz hL (okt (okt hst)) kr)
  · exact (kf (by first | exact fun z => q ((i32eq hx hy).mpr z) | exact fun z => q ((i32lt hx hy).mpr z) | exact fun z => q ((i32le hx hy).mpr z) | exact fun z => q ((i32lt hy hx).mpr z) | exact fun z => q ((i32le hy hx).mpr z) | exact fun z => q (fun w => z ((i32eq hx hy).mp w)) | exact fun z => z ((i32eq hx hy).mp (Classical.not_not.mp q)) | exact fun z => q fun w => z ((i32eq hx hy).mp w)) cs D B b p l e R s m args below meth c Qf H locs la C hR hP hS hB hz hL (okt (okt hst)) kr)
theorem a_if_ge {x off : Int} {tgt : Nat} (hd : decode mt.code pc = .ok (.ifCond .ge off, 3)) (ht : (pc : Int) + off = (tgt : Int)) (kt : 0 ≤ x → AWG mt Ex k n tgt ls st S M Q) (kf : ¬ (0 ≤ x) → AWG mt Ex k n (pc + 3) ls st S M Q) : AWG mt Ex k n pc ls ((0, x) :: st) S M Q := by
  intro cs D B b p l e R s m args below meth c Qf H locs la C hR hP hS hB hz hL hst kr
  have hy : in32 0 := by decide
  have hx : in32 x := (okh hst).1 rfl
  refine lv_if_ge C.1 C.2.1 hd ht (fun q => ?_) (fun q => ?_)
  · exact (kt (by first | exact (i32eq hx hy).mp q | exact (i32lt hx hy).mp q | exact (i32le hx hy).mp q | exact (i32lt hy hx).mp q | exact (i32le hy hx).mp q | exact fun z => q ((i32eq hx hy).mpr z)) cs D B b p l e R s m args below meth c Qf H locs la C hR hP hS hB hz hL (okt hst) kr)
  · exact (kf (by first | exact fun z => q ((i32eq hx hy).mpr z) | exact fun z => q ((i32lt hx hy).mpr z) | exact fun z => q ((i32le hx hy).mpr z) | exact fun z => q ((i32lt hy hx).mpr z) | exact fun z => q ((i32le hy hx).mpr z) | exact fun z => q (fun w => z ((i32eq hx hy).mp w)) | exact fun z => z ((i32eq hx hy).mp (Classical.not_not.mp q)) | exact fun z => q fun w => z ((i32eq hx hy).mp w)) cs D B b p l e R s m args below meth c Qf H locs la C hR hP hS hB hz hL (okt hst) kr)
theorem a_lcmp_ge {x y off : Int} {tgt : Nat} (hd0 : decode mt.code pc = .ok (.lcmp, 1)) (hd : decode mt.code (pc + 1) = .ok (.ifCond .ge off, 3)) (ht : ((pc + 1 : Nat) : Int) + off = (tgt : Int)) (kt : y ≤ x → AWG mt Ex k n tgt ls st S M Q) (kf : ¬ (y ≤ x) → AWG mt Ex k n (pc + 4) ls st S M Q) : AWG mt Ex k n pc ls ((1, y) :: (1, x) :: st) S M Q := by
  intro cs D B b p l e R s m args below meth c Qf H locs la C hR hP hS hB hz hL hst kr
  have hy : in64 y := (okh hst).2 rfl
  have hx : in64 x := (okh (okt hst)).2 rfl
  refine W.lcmp C.1 C.2.1 hd0 ?_
  have key := lcmpT hx hy
  refine lv_if_ge C.1 C.2.1 hd ht (fun q => ?_) (fun q => ?_)
  · refine (kt ?_ cs D B b p l e R s m args below meth c Qf H locs la C hR hP hS hB hz hL (okt (okt hst)) kr)
    rcases key with ⟨e, h⟩ | ⟨e, h⟩ | ⟨e, h⟩ <;> rw [e] at q <;> first | omega | exact absurd q (by decide)
  · refine (kf ?_ cs D B b p l e R s m args below meth c Qf H locs la C hR hP hS hB hz hL (okt (okt hst)) kr)
    rcases key with ⟨e, h⟩ | ⟨e, h⟩ | ⟨e, h⟩ <;> rw [e] at q <;> first | omega | exact absurd q (by decide) | exact absurd (by decide) q
theorem a_icmp_gt {x y off : Int} {tgt : Nat} (hd : decode mt.code pc = .ok (.if_icmp .gt off, 3)) (ht : (pc : Int) + off = (tgt : Int)) (kt : y < x → AWG mt Ex k n tgt ls st S M Q) (kf : ¬ (y < x) → AWG mt Ex k n (pc + 3) ls st S M Q) : AWG mt Ex k n pc ls ((0, y) :: (0, x) :: st) S M Q := by
  intro cs D B b p l e R s m args below meth c Qf H locs la C hR hP hS hB hz hL hst kr
  have hy : in32 y := (okh hst).1 rfl
  have hx : in32 x := (okh (okt hst)).1 rfl
  refine lv_icmp_gt C.1 C.2.1 hd ht (fun q => ?_) (fun q => ?_)
  · exact (kt (by first | exact (i32eq hx hy).mp q | exact (i32lt hx hy).mp q | exact (i32le hx hy).mp q | exact (i32lt hy hx).mp q | exact (i32le hy hx).mp q | exact fun z => q ((i32eq hx hy).mpr z)) cs D B b p l e R s m args below meth c Qf H locs la C hR hP hS hB hz hL (okt (okt hst)) kr)
  · exact (kf (by first | exact fun z => q ((i32eq hx hy).mpr z) | exact fun z => q ((i32lt hx hy).mpr z) | exact fun z => q ((i32le hx hy).mpr z) | exact fun z => q ((i32lt hy hx).mpr z) | exact fun z => q ((i32le hy hx).mpr z) | exact fun z => q (fun w => z ((i32eq hx hy).mp w)) | exact fun z => z ((i32eq hx hy).mp (Classical.not_not.mp q)) | exact fun z => q fun w => z ((i32eq hx hy).mp w)) cs D B b p l e R s m args below meth c Qf H locs la C hR hP hS hB hz hL (okt (okt hst)) kr)
theorem a_if_gt {x off : Int} {tgt : Nat} (hd : decode mt.code pc = .ok (.ifCond .gt off, 3)) (ht : (pc : Int) + off = (tgt : Int)) (kt : 0 < x → AWG mt Ex k n tgt ls st S M Q) (kf : ¬ (0 < x) → AWG mt Ex k n (pc + 3) ls st S M Q) : AWG mt Ex k n pc ls ((0, x) :: st) S M Q := by
  intro cs D B b p l e R s m args below meth c Qf H locs la C hR hP hS hB hz hL hst kr
  have hy : in32 0 := by decide
  have hx : in32 x := (okh hst).1 rfl
  refine lv_if_gt C.1 C.2.1 hd ht (fun q => ?_) (fun q => ?_)
  · exact (kt (by first | exact (i32eq hx hy).mp q | exact (i32lt hx hy).mp q | exact (i32le hx hy).mp q | exact (i32lt hy hx).mp q | exact (i32le hy hx).mp q | exact fun z => q ((i32eq hx hy).mpr z)) cs D B b p l e R s m args below meth c Qf H locs la C hR hP hS hB hz hL (okt hst) kr)
  · exact (kf (by first | exact fun z => q ((i32eq hx hy).mpr z) | exact fun z => q ((i32lt hx hy).mpr z) | exact fun z => q ((i32le hx hy).mpr z) | exact fun z => q ((i32lt hy hx).mpr z) | exact fun z => q ((i32le hy hx).mpr z) | exact fun z => q (fun w => z ((i32eq hx hy).mp w)) | exact fun z => z ((i32eq hx hy).mp (Classical.not_not.mp q)) | exact fun z => q fun w => z ((i32eq hx hy).mp w)) cs D B b p l e R s m args below meth c Qf H locs la C hR hP hS hB hz hL (okt hst) kr)
theorem a_lcmp_gt {x y off : Int} {tgt : Nat} (hd0 : decode mt.code pc = .ok (.lcmp, 1)) (hd : decode mt.code (pc + 1) = .ok (.ifCond .gt off, 3)) (ht : ((pc + 1 : Nat) : Int) + off = (tgt : Int)) (kt : y < x → AWG mt Ex k n tgt ls st S M Q) (kf : ¬ (y < x) → AWG mt Ex k n (pc + 4) ls st S M Q) : AWG mt Ex k n pc ls ((1, y) :: (1, x) :: st) S M Q := by
  intro cs D B b p l e R s m args below meth c Qf H locs la C hR hP hS hB hz hL hst kr
  have hy : in64 y := (okh hst).2 rfl
  have hx : in64 x := (okh (okt hst)).2 rfl
  refine W.lcmp C.1 C.2.1 hd0 ?_
  have key := lcmpT hx hy
  refine lv_if_gt C.1 C.2.1 hd ht (fun q => ?_) (fun q => ?_)
  · refine (kt ?_ cs D B b p l e R s m args below meth c Qf H locs la C hR hP hS hB hz hL (okt (okt hst)) kr)
    rcases key with ⟨e, h⟩ | ⟨e, h⟩ | ⟨e, h⟩ <;> rw [e] at q <;> first | omega | exact absurd q (by decide)
  · refine (kf ?_ cs D B b p l e R s m args below meth c Qf H locs la C hR hP hS hB hz hL (okt (okt hst)) kr)
    rcases key with ⟨e, h⟩ | ⟨e, h⟩ | ⟨e, h⟩ <;> rw [e] at q <;> first | omega | exact absurd q (by decide) | exact absurd (by decide) q
theorem a_icmp_le {x y off : Int} {tgt : Nat} (hd : decode mt.code pc = .ok (.if_icmp .le off, 3)) (ht : (pc : Int) + off = (tgt : Int)) (kt : x ≤ y → AWG mt Ex k n tgt ls st S M Q) (kf : ¬ (x ≤ y) → AWG mt Ex k n (pc + 3) ls st S M Q) : AWG mt Ex k n pc ls ((0, y) :: (0, x) :: st) S M Q := by
  intro cs D B b p l e R s m args below meth c Qf H locs la C hR hP hS hB hz hL hst kr
  have hy : in32 y := (okh hst).1 rfl
  have hx : in32 x := (okh (okt hst)).1 rfl
  refine lv_icmp_le C.1 C.2.1 hd ht (fun q => ?_) (fun q => ?_)
  · exact (kt (by first | exact (i32eq hx hy).mp q | exact (i32lt hx hy).mp q | exact (i32le hx hy).mp q | exact (i32lt hy hx).mp q | exact (i32le hy hx).mp q | exact fun z => q ((i32eq hx hy).mpr z)) cs D B b p l e R s m args below meth c Qf H locs la C hR hP hS hB hz hL (okt (okt hst)) kr)
  · exact (kf (by first | exact fun z => q ((i32eq hx hy).mpr z) | exact fun z => q ((i32lt hx hy).mpr z) | exact fun z => q ((i32le hx hy).mpr z) | exact fun z => q ((i32lt hy hx).mpr z) | exact fun z => q ((i32le hy hx).mpr z) | exact fun z => q (fun w => z ((i32eq hx hy).mp w)) | exact fun z => z ((i32eq hx hy).mp (Classical.not_not.mp q)) | exact fun z => q fun w => z ((i32eq hx hy).mp w)) cs D B b p l e R s m args below meth c Qf H locs la C hR hP hS hB hz hL (okt (okt hst)) kr)
theorem a_if_le {x off : Int} {tgt : Nat} (hd : decode mt.code pc = .ok (.ifCond .le off, 3)) (ht : (pc : Int) + off = (tgt : Int)) (kt : x ≤ 0 → AWG mt Ex k n tgt ls st S M Q) (kf : ¬ (x ≤ 0) → AWG mt Ex k n (pc + 3) ls st S M Q) : AWG mt Ex k n pc ls ((0, x) :: st) S M Q := by
  intro cs D B b p l e R s m args below meth c Qf H locs la C hR hP hS hB hz hL hst kr
  have hy : in32 0 := by decide
  have hx : in32 x := (okh hst).1 rfl
  refine lv_if_le C.1 C.2.1 hd ht (fun q => ?_) (fun q => ?_)
  · exact (kt (by first | exact (i32eq hx hy).mp q | exact (i32lt hx hy).mp q | exact (i32le hx hy).mp q | exact (i32lt hy hx).mp q | exact (i32le hy hx).mp q | exact fun z => q ((i32eq hx hy).mpr z)) cs D B b p l e R s m args below meth c Qf H locs la C hR hP hS hB hz hL (okt hst) kr)
  · exact (kf (by first | exact fun z => q ((i32eq hx hy).mpr z) | exact fun z => q ((i32lt hx hy).mpr z) | exact fun z => q ((i32le hx hy).mpr z) | exact fun z => q ((i32lt hy hx).mpr z) | exact fun z => q ((i32le hy hx).mpr z) | exact fun z => q (fun w => z ((i32eq hx hy).mp w)) | exact fun z => z ((i32eq hx hy).mp (Classical.not_not.mp q)) | exact fun z => q fun w => z ((i32eq hx hy).mp w)) cs D B b p l e R s m args below meth c Qf H locs la C hR hP hS hB hz hL (okt hst) kr)
theorem a_lcmp_le {x y off : Int} {tgt : Nat} (hd0 : decode mt.code pc = .ok (.lcmp, 1)) (hd : decode mt.code (pc + 1) = .ok (.ifCond .le off, 3)) (ht : ((pc + 1 : Nat) : Int) + off = (tgt : Int)) (kt : x ≤ y → AWG mt Ex k n tgt ls st S M Q) (kf : ¬ (x ≤ y) → AWG mt Ex k n (pc + 4) ls st S M Q) : AWG mt Ex k n pc ls ((1, y) :: (1, x) :: st) S M Q := by
  intro cs D B b p l e R s m args below meth c Qf H locs la C hR hP hS hB hz hL hst kr
  have hy : in64 y := (okh hst).2 rfl
  have hx : in64 x := (okh (okt hst)).2 rfl
  refine W.lcmp C.1 C.2.1 hd0 ?_
  have key := lcmpT hx hy
  refine lv_if_le C.1 C.2.1 hd ht (fun q => ?_) (fun q => ?_)
  · refine (kt ?_ cs D B b p l e R s m args below meth c Qf H locs la C hR hP hS hB hz hL (okt (okt hst)) kr)
    rcases key with ⟨e, h⟩ | ⟨e, h⟩ | ⟨e, h⟩ <;> rw [e] at q <;> first | omega | exact absurd q (by decide)
  · refine (kf ?_ cs D B b p l e R s m args below meth c Qf H locs la C hR hP hS hB hz hL (okt (okt hst)) kr)
    rcases key with ⟨e, h⟩ | ⟨e, h⟩ | ⟨e, h⟩ <;> rw [e] at q <;> first | omega | exact absurd q (by decide) | exact absurd (by decide) q
theorem a_goto {off : Int} {tgt : Nat} (hd : decode mt.code pc = .ok (.goto off, 3)) (ht : (pc : Int) + off = (tgt : Int)) (K : AWG mt Ex k n tgt ls st S M Q) : AWG mt Ex k n pc ls st S M Q := by
  intro cs D B b p l e R s m args below meth c Qf H locs la C hR hP hS hB hz hL hst kr
  exact lv_goto C.1 C.2.1 hd ht (K cs D B b p l e R s m args below meth c Qf H locs la C hR hP hS hB hz hL (hst) kr)
theorem a_tabOut {dflt lo hi x : Int} {offs : Array Int} {len tgt : Nat} (hd : decode mt.code pc = .ok (.tableswitch dflt lo hi offs, len)) (h : x < lo ∨ hi < x) (ht : (pc : Int) + dflt = (tgt : Int)) (K : AWG mt Ex k n tgt ls st S M Q) : AWG mt Ex k n pc ls ((0, x) :: st) S M Q := by
  intro cs D B b p l e R s m args below meth c Qf H locs la C hR hP hS hB hz hL hst kr
  have hx : in32 x := (okh hst).1 rfl
  exact lv_tableOut C.1 C.2.1 hd (by rw [i32T hx]; exact h) ht (K cs D B b p l e R s m args below meth c Qf H locs la C hR hP hS hB hz hL (okt hst) kr)
theorem a_tabIn {dflt lo hi x v off : Int} {offs : Array Int} {len tgt : Nat} (hd : decode mt.code pc = .ok (.tableswitch dflt lo hi offs, len)) (h : x = v) (h1 : ¬ v < lo) (h2 : ¬ hi < v) (ho : offs[(v - lo).toNat]? = some off) (ht : (pc : Int) + off = (tgt : Int)) (K : AWG mt Ex k n tgt ls st S M Q) : AWG mt Ex k n pc ls ((0, x) :: st) S M Q := by
  intro cs D B b p l e R s m args below meth c Qf H locs la C hR hP hS hB hz hL hst kr
  subst h
  have hx : in32 x := (okh hst).1 rfl
  exact lv_tableIn C.1 C.2.1 hd (by rw [i32T hx]; exact h1) (by rw [i32T hx]; exact h2) (by rw [i32T hx]; exact ho) ht (K cs D B b p l e R s m args below meth c Qf H locs la C hR hP hS hB hz hL (okt hst) kr)
theorem a_look {dflt x off : Int} {ps : Array (Int × Int)} {len tgt : Nat} (hd : decode mt.code pc = .ok (.lookupswitch dflt ps, len)) (hp : (ps.toList.zip (ps.toList.drop 1)).all (fun (a, next) => a.1 < next.1) = true) (ho : Op.lookupswitch.offset ps.toList dflt x = off) (ht : (pc : Int) + off = (tgt : Int)) (K : AWG mt Ex k n tgt ls st S M Q) : AWG mt Ex k n pc ls ((0, x) :: st) S M Q := by
  intro cs D B b p l e R s m args below meth c Qf H locs la C hR hP hS hB hz hL hst kr
  have hx : in32 x := (okh hst).1 rfl
  exact lv_lookup C.1 C.2.1 hd hp (by rw [i32T hx]; exact ho) ht (K cs D B b p l e R s m args below meth c Qf H locs la C hR hP hS hB hz hL (okt hst) kr)
theorem a_ldc {index : Nat} {v : Int} (hd : decode mt.code pc = .ok (.ldc index, 2)) (hw : Jvm.Cond.constant mt.nm.cls index (Int32.ofInt v) ∈ GT) (hv : in32 v) (K : AWG mt Ex k n (pc + 2) ls ((0, v) :: st) S M Q) : AWG mt Ex k n pc ls st S M Q := by
  intro cs D B b p l e R s m args below meth c Qf H locs la C hR hP hS hB hz hL hst kr
  exact lv_ldc C.1 C.2.1 C.2.2.2.1 (C.2.2.2.2.1 _ hw) hd (K cs D B b p l e R s m args below meth c Qf H locs la C hR hP hS hB hz hL (okc (ok0 hv) hst) kr)
theorem a_ldc_w {index : Nat} {v : Int} (hd : decode mt.code pc = .ok (.ldc_w index, 3)) (hw : Jvm.Cond.constant mt.nm.cls index (Int32.ofInt v) ∈ GT) (hv : in32 v) (K : AWG mt Ex k n (pc + 3) ls ((0, v) :: st) S M Q) : AWG mt Ex k n pc ls st S M Q := by
  intro cs D B b p l e R s m args below meth c Qf H locs la C hR hP hS hB hz hL hst kr
  exact lv_ldcw C.1 C.2.1 C.2.2.2.1 (C.2.2.2.2.1 _ hw) hd (K cs D B b p l e R s m args below meth c Qf H locs la C hR hP hS hB hz hL (okc (ok0 hv) hst) kr)
theorem a_ldc2 {index : Nat} {v : Int} (hd : decode mt.code pc = .ok (.ldc2_w index, 3)) (hw : Jvm.Cond.constantLong mt.nm.cls index (Int64.ofInt v) ∈ GT) (hv : in64 v) (K : AWG mt Ex k n (pc + 3) ls ((1, v) :: st) S M Q) : AWG mt Ex k n pc ls st S M Q := by
  intro cs D B b p l e R s m args below meth c Qf H locs la C hR hP hS hB hz hL hst kr
  exact lv_ldc2 C.1 C.2.1 C.2.2.2.1 (C.2.2.2.2.1 _ hw) hd (K cs D B b p l e R s m args below meth c Qf H locs la C hR hP hS hB hz hL (okc (ok1 hv) hst) kr)
/-- locals that are not used any more -/
def msk : List Bool → List AV → List AV
  | true :: bs, v :: vs => v :: msk bs vs
  | false :: bs, _ :: vs => (9, 0) :: msk bs vs
  | [], vs => vs
  | _, [] => []
theorem msk_len : ∀ (bs : List Bool) (vs : List AV), (msk bs vs).length = vs.length
  | true :: bs, v :: vs => congrArg (· + 1) (msk_len bs vs)
  | false :: bs, _ :: vs => congrArg (· + 1) (msk_len bs vs)
  | [], vs => rfl
  | true :: _, [] => rfl
  | false :: _, [] => rfl
theorem msk_get : ∀ (bs : List Bool) (vs : List AV) (i : Nat) (v : AV), (msk bs vs)[i]? = some v → v.1 ≠ 9 → vs[i]? = some v
  | true :: bs, w :: vs, 0, v, h, _ => h
  | true :: bs, w :: vs, i + 1, v, h, h9 => msk_get bs vs i v h h9
  | false :: bs, w :: vs, 0, v, h, h9 => absurd (by cases h; rfl) h9
  | false :: bs, w :: vs, i + 1, v, h, h9 => msk_get bs vs i v h h9
  | [], vs, i, v, h, _ => h
  | true :: _, [], i, v, h, _ => h
  | false :: _, [], i, v, h, _ => h
theorem a_msk (bs : List Bool) {ls1 : List AV} (he : msk bs ls = ls1) (K : AWG mt Ex k n pc ls1 st S M Q) : AWG mt Ex k n pc ls st S M Q := by
  intro cs D B b p l e R s m args below meth c Qf H locs la C hR hP hS hB hz hL hst kr
  subst he
  exact (K cs D B b p l e R s m args below meth c Qf H locs la C hR hP hS hB hz ⟨hL.1, by rw [msk_len]; exact hL.2.1, hL.2.2.1, fun i v h h9 => hL.2.2.2 i v (msk_get bs ls i v h h9) h9⟩ (hst) kr)
theorem a_iret {x : Int} (hd : decode mt.code pc = .ok (.ireturn, 1)) (hr : retI mt = .ireturn) (hk : k = mt.mc) (hn : n ≤ mt.ms) (ho : okR mt x) (K : Q x S M) : AWG mt Ex k n pc ls [(0, x)] S M Q := by
  intro cs D B b p l e R s m args below meth c Qf H locs la C hR hP hS hB hz hL hst kr
  have e : retS mt x = [(0, x)].map (cvv B b) := by
    unfold retS retI at *
    split at hr <;> first | rfl | cases hr
  have h := kr x S M H locs la pc k n K ho hR hP hS hz hk hn hL.1 (by rw [hr]; exact hd)
  rw [e] at h
  exact h
theorem a_lret {x : Int} (hd : decode mt.code pc = .ok (.lreturn, 1)) (hr : mt.ret = some .long) (hk : k = mt.mc) (hn : n ≤ mt.ms) (K : Q x S M) : AWG mt Ex k n pc ls [(1, x)] S M Q := by
  intro cs D B b p l e R s m args below meth c Qf H locs la C hR hP hS hB hz hL hst kr
  have hx : in64 x := (okh hst).2 rfl
  have e : retS mt x = [(1, x)].map (cvv B b) := by unfold retS; rw [hr]; rfl
  have h := kr x S M H locs la pc k n K (by unfold okR; rw [hr]; exact hx) hR hP hS hz hk hn hL.1 (by unfold retI; rw [hr]; exact hd)
  rw [e] at h
  exact h
theorem a_vret (hd : decode mt.code pc = .ok (.return_, 1)) (hr : mt.ret = none) (hk : k = mt.mc) (hn : n ≤ mt.ms) (K : Q 0 S M) : AWG mt Ex k n pc ls [] S M Q := by
  intro cs D B b p l e R s m args below meth c Qf H locs la C hR hP hS hB hz hL hst kr
  have e : retS mt 0 = ([] : List AV).map (cvv B b) := by unfold retS; rw [hr]; rfl
  have h := kr 0 S M H locs la pc k n K (by unfold okR; rw [hr]) hR hP hS hz hk hn hL.1 (by unfold retI; rw [hr]; exact hd)
  rw [e] at h
  exact h
end AWR
