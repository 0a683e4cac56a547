/-- a class's tables -/
def CF (ci : Nat) (C : String) (T : u_T) (N : Nat) : Prop := vwCl[ci]? = some (C, T, N) ∧ (∀ w ∈ u_ws C T N, w ∈ GT) ∧ (∃ ty : Nat → FieldType, ∀ k, k < N → parseFieldDescriptor (T k).2.2.1 = some (ty k)) ∧ (∀ a, a < N → ∀ b, b < N → a ≠ b → (T a).2.1 ≠ (T b).2.1)
/-- a field's link out of a class: by itself, or as a nest mate -/
def FL (own : String) (idx ci j N : Nat) (T : u_T) (C : String) : Prop := CF ci C T N ∧ j < N ∧ ((Cond.fieldLink own idx (T j).1 (T j).2.1 (T j).2.2.1 ∈ GT) ∨ ∃ host, Cond.fieldLinkNest own idx (T j).1 (T j).2.1 (T j).2.2.1 host ∈ lw_tbl)
theorem fld_get {B : Nat} {M : Mem} {a ci N j : Nat} {rs : List Int} (h : j < N) : ((List.range N).map (fldV B M a ci rs))[j]? = some (fldV B M a ci rs j) := by
  simp [h]
theorem fldV0 {B : Nat} {M : Mem} {a ci j : Nat} {rs : List Int} (h : fk ci j = 0 ∨ fk ci j = 1) : fldV B M a ci rs j = .int (Int32.ofInt (M a j)) := by
  unfold fldV
  rcases h with h | h <;> rw [h] <;> rfl
theorem fldV2 {B : Nat} {M : Mem} {a ci j : Nat} {rs : List Int} (h : fk ci j = 2) : fldV B M a ci rs j = rv B (rs.getD j (-1)) := by
  unfold fldV
  rw [h]
  rfl
theorem fldV3 {B : Nat} {M : Mem} {a ci j : Nat} {rs : List Int} (h : fk ci j = 3) : fldV B M a ci rs j = rv3 B (M a j) := by
  unfold fldV
  rw [h]
  rfl
theorem fld_set {B : Nat} {M : Mem} {a ci N j : Nat} {rs : List Int} {v : Int} (hj : j < N) (hk : fk ci j = 0 ∨ fk ci j = 1) : ((List.range N).map (fldV B M a ci rs)).set j (.int (Int32.ofInt v)) = (List.range N).map (fldV B (up2 M a j v) a ci rs) := by
  refine List.ext_getElem? fun q => ?_
  rw [List.getElem?_set]
  by_cases e : j = q
  · subst e
    rw [if_pos rfl, if_pos (by simpa using hj), fld_get hj, fldV0 hk]
    simp [up2]
  · rw [if_neg e]
    by_cases hq : q < N
    · rw [fld_get hq, fld_get hq]
      have h1 : up2 M a j v a q = M a q := by simp [up2]; omega
      unfold fldV
      rw [h1]
    · simp [Nat.le_of_not_lt hq]
theorem fld_set3 {B : Nat} {M : Mem} {a ci N j : Nat} {rs : List Int} {v : Int} (hj : j < N) (hk : fk ci j = 3) : ((List.range N).map (fldV B M a ci rs)).set j (rv3 B v) = (List.range N).map (fldV B (up2 M a j v) a ci rs) := by
  refine List.ext_getElem? fun q => ?_
  rw [List.getElem?_set]
  by_cases e : j = q
  · subst e
    rw [if_pos rfl, if_pos (by simpa using hj), fld_get hj, fldV3 hk]
    simp [up2]
  · rw [if_neg e]
    by_cases hq : q < N
    · rw [fld_get hq, fld_get hq]
      have h1 : up2 M a j v a q = M a q := by simp [up2]; omega
      unfold fldV
      rw [h1]
    · simp [Nat.le_of_not_lt hq]
theorem fld_set2 {B : Nat} {M : Mem} {a ci N j : Nat} {rs : List Int} {v : Int} (hj : j < N) (hr : j < rs.length) (hk : fk ci j = 2) : ((List.range N).map (fldV B M a ci rs)).set j (rv B v) = (List.range N).map (fldV B M a ci (rs.set j v)) := by
  refine List.ext_getElem? fun q => ?_
  rw [List.getElem?_set]
  by_cases e : j = q
  · subst e
    rw [if_pos rfl, if_pos (by simpa using hj), fld_get hj, fldV2 hk]
    simp [List.getD, hr]
  · rw [if_neg e]
    by_cases hq : q < N
    · rw [fld_get hq, fld_get hq]
      have h1 : (rs.set j v).getD q (-1) = rs.getD q (-1) := by simp [List.getD, List.getElem?_set, e]
      unfold fldV
      rw [h1]
    · simp [Nat.le_of_not_lt hq]
theorem wld_at {cs : CI3} {D : va_G} {B : Nat} {S : Shp} {M : Mem} {H : Heap} {a : Nat} {e : Nat × Nat × List Int} (hP : va_P D vwCl (wld cs B S M) H) (h : S[a]? = some e) : (wld cs B S M)[a]? = some (B + a, celE cs B M a e) := wld_get h
theorem nat_int {x : Int} (h : 0 ≤ x) : ((x.toNat : Nat) : Int) = x := Int.toNat_of_nonneg h
theorem len_of {S : Shp} {a : Nat} {e : Nat × Nat × List Int} (h : S[a]? = some e) : a < S.length := (List.getElem?_eq_some_iff.mp h).1
theorem set_self {S : Shp} {a : Nat} {e : Nat × Nat × List Int} (h : S[a]? = some e) : S = S.set a e := by
  refine List.ext_getElem? fun j => ?_
  rw [List.getElem?_set]
  by_cases q : a = j
  · subst q
    rw [if_pos rfl, if_pos (len_of h), h]
  · rw [if_neg q]
section AWM
variable {mt : MD} {Ex : State → Nat → Nat → Prop} {k n pc : Nat} {ls st : List AV} {S : Shp} {M : Mem} {Q : Int → Shp → Mem → Prop}
theorem a_get {idx ci j N : Nat} {T : u_T} {C : String} {x : Int} {rs : List Int} {v : AV} (hd : decode mt.code pc = .ok (.getfield idx, 3)) (hf : FL mt.nm.cls idx ci j N T C) (hx : 0 ≤ x) (hs : S[x.toNat]? = some (ci + 3, N, rs)) (hv : ∀ B b, cvv B b v = fldV B M x.toNat ci rs j) (ho : Rng S M → okV v)
    (K : AWG mt Ex k n (pc + 3) ls (v :: st) S M Q) : AWG mt Ex k n pc ls ((2, x) :: st) S M Q := by
  intro cs D B b p l e R s m args below meth c Qf H locs la C hR hP hS hB hz hL hst kr
  have hk := K cs D B b p l e R s m args below meth c Qf H locs la C hR hP hS hB hz hL (okc (ho hR) (okt hst)) kr
  obtain ⟨⟨hc, hin, -, -⟩, hj, hl⟩ := hf
  have he : (wld cs B S M)[x.toNat]? = some (B + x.toNat, .inr (ci, (List.range N).map (fldV B M x.toNat ci rs))) := wld_get hs
  rw [List.map_cons, cv2 hx]
  rw [List.map_cons, hv] at hk
  rcases hl with hl | ⟨host, hl⟩
  · exact va_get C.1 C.2.1 C.2.2.2.2.1 hin C.2.2.2.1 C.2.2.2.2.2.1.1 hP x.toNat he hc j hj (C.2.2.2.2.1 _ hl) (fun _ h => h) (fld_get hj) hd hk
  · exact va_getN C.1 C.2.1 C.2.2.2.2.1 hin C.2.2.2.1 C.2.2.2.2.2.1.1 hP x.toNat he hc j hj (va_Nw.use rfl (C.2.2.2.2.2.1.2.1 _ hl rfl)) (fun _ h => h) (fld_get hj) hd hk
/-- a number out of a field -/
theorem a_getI {idx ci j N : Nat} {T : u_T} {C : String} {x y : Int} {rs : List Int} (hd : decode mt.code pc = .ok (.getfield idx, 3)) (hf : FL mt.nm.cls idx ci j N T C) (hx : 0 ≤ x) (hs : S[x.toNat]? = some (ci + 3, N, rs)) (hk : fk ci j = 0 ∨ fk ci j = 1) (hy : ((j : Nat) : Int) = y)
    (K : AWG mt Ex k n (pc + 3) ls ((0, M x y) :: st) S M Q) : AWG mt Ex k n pc ls ((2, x) :: st) S M Q := by
  subst hy
  refine a_get hd hf hx hs (fun B b => ?_) (fun hR => ok0 (hR.1 _ _)) K
  rw [fldV0 hk, nat_int hx]
  rfl
/-- a reference that stays -/
theorem a_getR {idx ci j N : Nat} {T : u_T} {C : String} {x y : Int} {rs : List Int} (hd : decode mt.code pc = .ok (.getfield idx, 3)) (hf : FL mt.nm.cls idx ci j N T C) (hx : 0 ≤ x) (hs : S[x.toNat]? = some (ci + 3, N, rs)) (hk : fk ci j = 2) (hy : rs.getD j (-1) = y)
    (K : AWG mt Ex k n (pc + 3) ls ((2, y) :: st) S M Q) : AWG mt Ex k n pc ls ((2, x) :: st) S M Q := by
  subst hy
  refine a_get hd hf hx hs (fun B b => ?_) (fun hR => ok2 _) K
  rw [fldV2 hk]
  rfl
/-- a reference that moves -/
theorem a_getD {idx ci j N : Nat} {T : u_T} {C : String} {x y : Int} {rs : List Int} (hd : decode mt.code pc = .ok (.getfield idx, 3)) (hf : FL mt.nm.cls idx ci j N T C) (hx : 0 ≤ x) (hs : S[x.toNat]? = some (ci + 3, N, rs)) (hk : fk ci j = 3) (hy : ((j : Nat) : Int) = y) (hp : 0 < M x y)
    (K : AWG mt Ex k n (pc + 3) ls ((2, M x y) :: st) S M Q) : AWG mt Ex k n pc ls ((2, x) :: st) S M Q := by
  subst hy
  refine a_get hd hf hx hs (fun B b => ?_) (fun hR => ok2 _) K
  rw [fldV3 hk, nat_int hx]
  rw [cv2 (Int.le_of_lt hp), rv3, if_neg (by omega)]
theorem wld_kept {cs : CI3} {B : Nat} {S S' : Shp} {M M' : Mem} {a : Nat} {e e' : Nat × Nat × List Int} (h : S[a]? = some e) (hS : S' = S.set a e') (hM : M' = M ∨ ∃ i v, M' = up2 M a i v) : (wld cs B S M).set a (B + a, celE cs B M' a e') = wld cs B S' M' := by
  refine wld_set hS (len_of h) fun j hj x => ?_
  rcases hM with rfl | ⟨i, v, rfl⟩
  · rfl
  · exact celE_up (by omega) x
theorem a_put {idx ci j N : Nat} {T : u_T} {C : String} {x : Int} {rs rs' : List Int} {v : AV} {S1 : Shp} {M1 : Mem} {ty : FieldType} (hd : decode mt.code pc = .ok (.putfield idx, 3)) (hf : FL mt.nm.cls idx ci j N T C) (hx : 0 ≤ x) (hs : S[x.toNat]? = some (ci + 3, N, rs)) (hfin : (T j).2.2.2 = false ∨ ((T j).2.2.2 = true ∧ mt.nm.name = "<init>" ∧ (T j).1 = mt.nm.cls ∧ Cond.fieldLink mt.nm.cls idx (T j).1 (T j).2.1 (T j).2.2.1 ∈ GT)) (hty : parseFieldDescriptor (T j).2.2.1 = some ty) (hn : ∀ B b, narrow ty (cvv B b v) = cvv B b v ∧ fits ty (cvv B b v) = true)
    (hS1 : S1 = S.set x.toNat (ci + 3, N, rs')) (hM : M1 = M ∨ ∃ i y, M1 = up2 M x i y) (hset : ∀ B b, ((List.range N).map (fldV B M x.toNat ci rs)).set j (cvv B b v) = (List.range N).map (fldV B M1 x.toNat ci rs')) (ho : Rng S M → okV v → Rng S1 M1)
    (K : AWG mt Ex k n (pc + 3) ls st S1 M1 Q) : AWG mt Ex k n pc ls (v :: (2, x) :: st) S M Q := by
  intro cs D B b p l e R s m args below meth c Qf H locs la C hR hP hS hB hz hL hst kr
  obtain ⟨⟨hc, hin, ⟨ty0, hty0⟩, hnm⟩, hj, hl⟩ := hf
  have he : (wld cs B S M)[x.toNat]? = some (B + x.toNat, .inr (ci, (List.range N).map (fldV B M x.toNat ci rs))) := wld_get hs
  have hws : (wld cs B S M).set x.toNat (B + x.toNat, .inr (ci, ((List.range N).map (fldV B M x.toNat ci rs)).set j (cvv B b v))) = wld cs B S1 M1 := by
    rw [hset]
    exact wld_kept hs hS1 (by rw [nat_int hx]; exact hM)
  have hlen : S1.length = S.length := by rw [hS1, List.length_set]
  rw [List.map_cons, List.map_cons, cv2 hx]
  have go : ∀ (H1 : Heap) (locs1 : List Loc), va_P D vwCl ((wld cs B S M).set x.toNat (B + x.toNat, .inr (ci, ((List.range N).map (fldV B M x.toNat ci rs)).set j (cvv B b v)))) H1 → va_S (fun q => B ≤ q) s.heap H1 locs1 → W p l e R s m args below meth c H1 locs1 k n Qf (F0 m (pc + 3) la (st.map (cvv B b))) := by
    intro H1 locs1 hP1 hS1'
    rw [hws] at hP1
    exact K cs D B b p l e R s m args below meth c Qf H1 locs1 la C (ho hR (okh hst)) hP1 hS1' hB (by rw [hlen]; exact hz) hL (okt (okt hst)) kr
  rcases hfin with hfin | ⟨hfin, hi1, hi2, hl⟩
  · rcases hl with hl | ⟨host, hl⟩
    · exact va_put C.1 C.2.1 C.2.2.2.2.1 hin ty0 hty0 hnm C.2.2.2.1 C.2.2.2.2.2.1.1 hP (wld_D cs B S M) hS x.toNat he hc j hj (C.2.2.2.2.1 _ hl) (fun _ h => h) hfin hty (hn B b).1 (hn B b).2 (by simpa using hj) hd (fun H1 locs1 hP1 _ hS1 => go H1 locs1 hP1 hS1)
    · exact va_putN C.1 C.2.1 C.2.2.2.2.1 hin ty0 hty0 hnm C.2.2.2.1 C.2.2.2.2.2.1.1 hP (wld_D cs B S M) hS x.toNat he hc j hj (va_Nw.use rfl (C.2.2.2.2.2.1.2.1 _ hl rfl)) (fun _ h => h) hfin hty (hn B b).1 (hn B b).2 (by simpa using hj) hd (fun H1 locs1 hP1 _ hS1 => go H1 locs1 hP1 hS1)
  · exact va_putF C.1 C.2.1 C.2.2.2.2.1 hin ty0 hty0 hnm C.2.2.2.1 C.2.2.2.2.2.1.1 hP (wld_D cs B S M) hS x.toNat he hc j hj (C.2.2.2.2.1 _ hl) (fun _ h => h) hfin (C.2.2.2.2.2.2.2.2 hi1) hi2 hty (hn B b).1 (hn B b).2 (by simpa using hj) hd (fun H1 locs1 hP1 _ hS1 => go H1 locs1 hP1 hS1)
theorem a_putI {idx ci j N : Nat} {T : u_T} {C : String} {x y v : Int} {rs : List Int} (hd : decode mt.code pc = .ok (.putfield idx, 3)) (hf : FL mt.nm.cls idx ci j N T C) (hx : 0 ≤ x) (hs : S[x.toNat]? = some (ci + 3, N, rs)) (hk : fk ci j = 0) (hfin : (T j).2.2.2 = false) (hty : parseFieldDescriptor (T j).2.2.1 = some .int) (hy : ((j : Nat) : Int) = y)
    (K : AWG mt Ex k n (pc + 3) ls st S (up2 M x y v) Q) : AWG mt Ex k n pc ls ((0, v) :: (2, x) :: st) S M Q := by
  subst hy
  have hj := hf.2.1
  refine a_put (rs' := rs) hd hf hx hs (Or.inl hfin) hty (fun B b => ⟨rfl, rfl⟩) (set_self hs) (Or.inr ⟨_, _, rfl⟩) (fun B b => ?_) (fun hR hv => hR.up (by have := len_of hs; omega) (hv.1 rfl)) K
  have := fld_set (B := B) (M := M) (a := x.toNat) (rs := rs) (v := v) hj (Or.inl hk)
  rw [nat_int hx] at this
  exact this
theorem a_putZ {idx ci j N : Nat} {T : u_T} {C : String} {x y v : Int} {rs : List Int} (hd : decode mt.code pc = .ok (.putfield idx, 3)) (hf : FL mt.nm.cls idx ci j N T C) (hx : 0 ≤ x) (hs : S[x.toNat]? = some (ci + 3, N, rs)) (hk : fk ci j = 1) (hfin : (T j).2.2.2 = false) (hty : parseFieldDescriptor (T j).2.2.1 = some .boolean) (hy : ((j : Nat) : Int) = y) (hv : v = 0 ∨ v = 1)
    (K : AWG mt Ex k n (pc + 3) ls st S (up2 M x y v) Q) : AWG mt Ex k n pc ls ((0, v) :: (2, x) :: st) S M Q := by
  subst hy
  have hj := hf.2.1
  refine a_put (rs' := rs) hd hf hx hs (Or.inl hfin) hty (fun B b => ?_) (set_self hs) (Or.inr ⟨_, _, rfl⟩) (fun B b => ?_) (fun hR hv => hR.up (by have := len_of hs; omega) (hv.1 rfl)) K
  · rcases hv with rfl | rfl
    · exact ⟨by show narrow .boolean (.int (Int32.ofInt 0)) = .int (Int32.ofInt 0); decide +kernel, by show fits .boolean (.int (Int32.ofInt 0)) = true; decide +kernel⟩
    · exact ⟨by show narrow .boolean (.int (Int32.ofInt 1)) = .int (Int32.ofInt 1); decide +kernel, by show fits .boolean (.int (Int32.ofInt 1)) = true; decide +kernel⟩
  have := fld_set (B := B) (M := M) (a := x.toNat) (rs := rs) (v := v) hj (Or.inr hk)
  rw [nat_int hx] at this
  exact this
/-- a reference that stays, made in a constructor -/
theorem a_putR {idx ci j N : Nat} {T : u_T} {C : String} {x v : Int} {rs : List Int} {S1 : Shp} {ty : FieldType} (hd : decode mt.code pc = .ok (.putfield idx, 3)) (hf : FL mt.nm.cls idx ci j N T C) (hx : 0 ≤ x) (hs : S[x.toNat]? = some (ci + 3, N, rs)) (hk : fk ci j = 2) (hr : j < rs.length) (hfin : (T j).2.2.2 = true) (hini : mt.nm.name = "<init>") (hown : (T j).1 = mt.nm.cls) (hl : Cond.fieldLink mt.nm.cls idx (T j).1 (T j).2.1 (T j).2.2.1 ∈ GT) (hty : parseFieldDescriptor (T j).2.2.1 = some ty) (hn : ∀ a : Nat, narrow ty (.ref a) = .ref a ∧ fits ty (.ref a) = true) (hv : 0 ≤ v) (hS1 : S.set x.toNat (ci + 3, N, rs.set j v) = S1)
    (K : AWG mt Ex k n (pc + 3) ls st S1 M Q) : AWG mt Ex k n pc ls ((2, v) :: (2, x) :: st) S M Q := by
  have hj := hf.2.1
  exact a_put hd hf hx hs (Or.inr ⟨hfin, hini, hown, hl⟩) hty (fun B b => by rw [cv2 hv]; exact hn _) hS1.symm (Or.inl rfl) (fun B b => fld_set2 hj hr hk) (fun hR _ => hR.len (by rw [← hS1, List.length_set])) K
/-- a reference that moves -/
theorem a_putD {idx ci j N : Nat} {T : u_T} {C : String} {x y v : Int} {rs : List Int} {ty : FieldType} (hd : decode mt.code pc = .ok (.putfield idx, 3)) (hf : FL mt.nm.cls idx ci j N T C) (hx : 0 ≤ x) (hs : S[x.toNat]? = some (ci + 3, N, rs)) (hk : fk ci j = 3) (hfin : (T j).2.2.2 = false) (hty : parseFieldDescriptor (T j).2.2.1 = some ty) (hn : ∀ a : Nat, narrow ty (.ref a) = .ref a ∧ fits ty (.ref a) = true) (hv : 0 < v) (hv2 : in32 v) (hy : ((j : Nat) : Int) = y)
    (K : AWG mt Ex k n (pc + 3) ls st S (up2 M x y v) Q) : AWG mt Ex k n pc ls ((2, v) :: (2, x) :: st) S M Q := by
  subst hy
  have hj := hf.2.1
  refine a_put (rs' := rs) hd hf hx hs (Or.inl hfin) hty (fun B b => by rw [cv2 (Int.le_of_lt hv)]; exact hn _) (set_self hs) (Or.inr ⟨_, _, rfl⟩) (fun B b => ?_) (fun hR _ => hR.up (by have := len_of hs; omega) hv2) K
  have := fld_set3 (B := B) (M := M) (a := x.toNat) (rs := rs) (v := v) hj hk
  rw [nat_int hx, show rv3 B v = cvv B b (2, v) by rw [cv2 (Int.le_of_lt hv), rv3, if_neg (by omega)]] at this
  exact this
-- arrays
theorem a_iald {x i : Int} {N : Nat} {rs : List Int} (hd : decode mt.code pc = .ok (.iaload, 1)) (hx : 0 ≤ x) (hs : S[x.toNat]? = some (0, N, rs)) (h0 : 0 ≤ i) (h1 : i < N) (K : AWG mt Ex k n (pc + 1) ls ((0, M x i) :: st) S M Q) : AWG mt Ex k n pc ls ((0, i) :: (2, x) :: st) S M Q := by
  intro cs D B b p l e R s m args below meth c Qf H locs la C hR hP hS hB hz hL hst kr
  have hi : in32 i := (okh hst).1 rfl
  have hk := K cs D B b p l e R s m args below meth c Qf H locs la C hR hP hS hB hz hL (okc (ok0 (hR.1 _ _)) (okt (okt hst))) kr
  have he : (wld cs B S M)[x.toNat]? = some (B + x.toNat, .inl (cs.1, N, .inl (fun j => Int32.ofInt (M x.toNat j)))) := wld_get hs
  rw [List.map_cons, List.map_cons, cv2 hx]
  refine va_iald C.1 C.2.1 C.2.2.2.2.2.1.1 hP x.toNat 0 he rfl (vpin hi h0 h1) hd ?_
  rw [i32cl hi, nat_int hx, nat_int h0]
  exact hk
theorem a_zald {x i : Int} {N : Nat} {rs : List Int} (hd : decode mt.code pc = .ok (.baload, 1)) (hx : 0 ≤ x) (hs : S[x.toNat]? = some (1, N, rs)) (h0 : 0 ≤ i) (h1 : i < N) (K : AWG mt Ex k n (pc + 1) ls ((0, M x i) :: st) S M Q) : AWG mt Ex k n pc ls ((0, i) :: (2, x) :: st) S M Q := by
  intro cs D B b p l e R s m args below meth c Qf H locs la C hR hP hS hB hz hL hst kr
  have hi : in32 i := (okh hst).1 rfl
  have hk := K cs D B b p l e R s m args below meth c Qf H locs la C hR hP hS hB hz hL (okc (ok0 (hR.1 _ _)) (okt (okt hst))) kr
  have he : (wld cs B S M)[x.toNat]? = some (B + x.toNat, .inl (cs.2.1, N, .inl (fun j => Int32.ofInt (M x.toNat j)))) := wld_get hs
  rw [List.map_cons, List.map_cons, cv2 hx]
  refine va_zald C.1 C.2.1 C.2.2.2.2.2.1.1 hP x.toNat 1 he rfl (vpin hi h0 h1) hd ?_
  rw [i32cl hi, nat_int hx, nat_int h0]
  exact hk
theorem a_aald {x i y : Int} {N : Nat} {rs : List Int} (hd : decode mt.code pc = .ok (.aaload, 1)) (hx : 0 ≤ x) (hs : S[x.toNat]? = some (2, N, rs)) (h0 : 0 ≤ i) (h1 : i < N) (hy : x + 1 + i = y) (K : AWG mt Ex k n (pc + 1) ls ((2, y) :: st) S M Q) : AWG mt Ex k n pc ls ((0, i) :: (2, x) :: st) S M Q := by
  intro cs D B b p l e R s m args below meth c Qf H locs la C hR hP hS hB hz hL hst kr
  have hi : in32 i := (okh hst).1 rfl
  have hk := K cs D B b p l e R s m args below meth c Qf H locs la C hR hP hS hB hz hL (okc (ok2 _) (okt (okt hst))) kr
  have he : (wld cs B S M)[x.toNat]? = some (B + x.toNat, .inl (cs.2.2, N, .inr (.inr (.inr (.inr (fun j => if j < N then some (B + x.toNat + 1 + j) else none)))))) := wld_get hs
  have hlt : (Int32.ofInt i).toNatClampNeg < N := by rw [i32cl hi]; omega
  rw [List.map_cons, List.map_cons, cv2 hx]
  rw [List.map_cons, cv2 (by omega)] at hk
  refine W.aald (v := .ref (B + y.toNat)) (ty := .array .int) C.1 C.2.1 (hP x.toNat _ he) ((C.2.2.2.2.2.1.1.2 2 (cs.2.2, .array .int) rfl).1 N (fun j => va_rf (if j < N then some (B + x.toNat + 1 + j) else none))) rfl (fun q => by cases q) (by show ¬ (Int32.ofInt i < 0 ∨ (arrV _ _ _).slots.size ≤ _); rw [arrV_size]; exact vpin hi h0 h1) ?_ rfl rfl hd hk
  show (arrV _ _ _).slots[_]? = _
  rw [arrV_read _ _ hlt]
  show some (va_rf (if _ < N then _ else none)) = _
  rw [if_pos hlt, i32cl hi]
  show some (Value.ref (B + x.toNat + 1 + i.toNat)) = _
  rw [show B + x.toNat + 1 + i.toNat = B + y.toNat by omega]
theorem i32fn {M : Mem} {x i v : Int} (hx : 0 ≤ x) (h0 : 0 ≤ i) (hi : in32 i) : upd (fun j : Nat => Int32.ofInt (M x.toNat j)) (Int32.ofInt i).toNatClampNeg (Int32.ofInt v) = fun j : Nat => Int32.ofInt (up2 M x i v x.toNat j) := by
  funext j
  rw [i32cl hi]
  unfold upd up2
  rw [nat_int hx]
  by_cases e : j = i.toNat
  · rw [if_pos e, if_pos ⟨rfl, by omega⟩]
  · rw [if_neg e, if_neg (fun q => e (by have := q.2; omega))]
theorem a_iast {x i v : Int} {N : Nat} {rs : List Int} (hd : decode mt.code pc = .ok (.iastore, 1)) (hx : 0 ≤ x) (hs : S[x.toNat]? = some (0, N, rs)) (h0 : 0 ≤ i) (h1 : i < N) (K : AWG mt Ex k n (pc + 1) ls st S (up2 M x i v) Q) : AWG mt Ex k n pc ls ((0, v) :: (0, i) :: (2, x) :: st) S M Q := by
  intro cs D B b p l e R s m args below meth c Qf H locs la C hR hP hS hB hz hL hst kr
  have hv : in32 v := (okh hst).1 rfl
  have hi : in32 i := (okh (okt hst)).1 rfl
  have he : (wld cs B S M)[x.toNat]? = some (B + x.toNat, .inl (cs.1, N, .inl (fun j => Int32.ofInt (M x.toNat j)))) := wld_get hs
  rw [List.map_cons, List.map_cons, List.map_cons, cv2 hx]
  refine va_iast C.1 C.2.1 C.2.2.2.2.2.1.1 hP (wld_D cs B S M) hS x.toNat 0 he rfl (vpin hi h0 h1) hd fun H1 locs1 hP1 _ hS1 => ?_
  rw [i32fn hx h0 hi] at hP1
  have hw := wld_kept (cs := cs) (B := B) (M' := up2 M x i v) hs (set_self hs) (Or.inr ⟨i, v, by rw [nat_int hx]⟩)
  exact K cs D B b p l e R s m args below meth c Qf H1 locs1 la C (hR.up (by have := len_of hs; omega) hv) (hw ▸ hP1) hS1 hB hz hL (okt (okt (okt hst))) kr
theorem a_zast {x i v : Int} {N : Nat} {rs : List Int} (hd : decode mt.code pc = .ok (.bastore, 1)) (hx : 0 ≤ x) (hs : S[x.toNat]? = some (1, N, rs)) (h0 : 0 ≤ i) (h1 : i < N) (hv01 : v = 0 ∨ v = 1) (K : AWG mt Ex k n (pc + 1) ls st S (up2 M x i v) Q) : AWG mt Ex k n pc ls ((0, v) :: (0, i) :: (2, x) :: st) S M Q := by
  intro cs D B b p l e R s m args below meth c Qf H locs la C hR hP hS hB hz hL hst kr
  have hv : in32 v := (okh hst).1 rfl
  have hi : in32 i := (okh (okt hst)).1 rfl
  have he : (wld cs B S M)[x.toNat]? = some (B + x.toNat, .inl (cs.2.1, N, .inl (fun j => Int32.ofInt (M x.toNat j)))) := wld_get hs
  have hnv : vp_nar .boolean (Int32.ofInt v) = Int32.ofInt v := by rcases hv01 with rfl | rfl <;> decide +kernel
  rw [List.map_cons, List.map_cons, List.map_cons, cv2 hx]
  refine va_zast C.1 C.2.1 C.2.2.2.2.2.1.1 hP (wld_D cs B S M) hS x.toNat 1 he rfl (vpin hi h0 h1) hd fun H1 locs1 hP1 _ hS1 => ?_
  rw [show (0, v).2 = v from rfl, hnv, i32fn hx h0 hi] at hP1
  have hw := wld_kept (cs := cs) (B := B) (M' := up2 M x i v) hs (set_self hs) (Or.inr ⟨i, v, by rw [nat_int hx]⟩)
  exact K cs D B b p l e R s m args below meth c Qf H1 locs1 la C (hR.up (by have := len_of hs; omega) hv) (hw ▸ hP1) hS1 hB hz hL (okt (okt (okt hst))) kr
theorem a_alen {x : Int} {N : Nat} {rs : List Int} (hd : decode mt.code pc = .ok (.arraylength, 1)) (hx : 0 ≤ x) (hs : S[x.toNat]? = some (0, N, rs)) (hN : (N : Int) ≤ 2147483647) (K : AWG mt Ex k n (pc + 1) ls ((0, (N : Int)) :: st) S M Q) : AWG mt Ex k n pc ls ((2, x) :: st) S M Q := by
  intro cs D B b p l e R s m args below meth c Qf H locs la C hR hP hS hB hz hL hst kr
  have hk := K cs D B b p l e R s m args below meth c Qf H locs la C hR hP hS hB hz hL (okc (ok0 ⟨by omega, hN⟩) (okt hst)) kr
  have he : (wld cs B S M)[x.toNat]? = some (B + x.toNat, .inl (cs.1, N, .inl (fun j => Int32.ofInt (M x.toNat j)))) := wld_get hs
  rw [List.map_cons, cv2 hx]
  exact va_alen C.1 C.2.1 C.2.2.2.2.2.1.1 hP x.toNat 0 he rfl rfl hd hk
end AWM
/-- the law's script -/
def ExL (L : Nat) (xs : Nat → Int32) : State → Nat → Nat → Prop := fun s B b => va_X b L xs s s.heap ∧ b < s.heap.size ∧ b < B
section AWS
variable {mt : MD} {k n pc : Nat} {ls st : List AV} {S : Shp} {M : Mem} {Q : Int → Shp → Mem → Prop} {L : Nat} {xs : Nat → Int32}
theorem a_sald {x i : Int} (hd : decode mt.code pc = .ok (.iaload, 1)) (h0 : 0 ≤ i) (h1 : i < L) (K : AWG mt (ExL L xs) k n (pc + 1) ls ((0, (xs i.toNat).toInt) :: st) S M Q) : AWG mt (ExL L xs) k n pc ls ((0, i) :: (3, x) :: st) S M Q := by
  intro cs D B b p l e R s m args below meth c Qf H locs la C hR hP hS hB hz hL hst kr
  have hi : in32 i := (okh hst).1 rfl
  have hv : in32 (xs i.toNat).toInt := ⟨by have := Int32.le_toInt (xs i.toNat); omega, by have := Int32.toInt_lt (xs i.toNat); omega⟩
  have hk := K cs D B b p l e R s m args below meth c Qf H locs la C hR hP hS hB hz hL (okc (ok0 hv) (okt (okt hst))) kr
  obtain ⟨hX, hbl, hbB⟩ := C.2.2.2.2.2.2.2.1
  refine va_sld C.1 C.2.1 hX hbl (by omega) hS (vpin hi h0 h1) hd ?_
  rw [i32cl hi, ← i32of (xs i.toNat)]
  exact hk
theorem a_salen {x : Int} (hd : decode mt.code pc = .ok (.arraylength, 1)) (hN : (L : Int) ≤ 2147483647) (K : AWG mt (ExL L xs) k n (pc + 1) ls ((0, (L : Int)) :: st) S M Q) : AWG mt (ExL L xs) k n pc ls ((3, x) :: st) S M Q := by
  intro cs D B b p l e R s m args below meth c Qf H locs la C hR hP hS hB hz hL hst kr
  have hk := K cs D B b p l e R s m args below meth c Qf H locs la C hR hP hS hB hz hL (okc (ok0 ⟨by omega, hN⟩) (okt hst)) kr
  obtain ⟨hX, hbl, hbB⟩ := C.2.2.2.2.2.2.2.1
  exact va_slen C.1 C.2.1 hX hbl (by omega) hS hd hk
end AWS
