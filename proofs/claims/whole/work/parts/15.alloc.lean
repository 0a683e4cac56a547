theorem vr_outer (c : ClassId) (N h0 : Nat) : ∀ i : Nat, Jvm.Free.Multi.outerC c N h0 i = arrV c N (fun j => va_rf (if j < i then some (h0 + 1 + j) else none))
  | 0 => by
    show ({ cls := c, slots := Array.replicate N .null, vm := .none } : Cell) = _
    rw [arrV_new]
    refine congrArg (arrV c N) (funext fun j => ?_)
    simp [va_rf]
  | i + 1 => by
    show (Jvm.Free.Multi.outerC c N h0 i).setSlot i (.ref (h0 + 1 + i)) = _
    rw [vr_outer c N h0 i, arrV_store]
    refine congrArg (arrV c N) (funext fun j => ?_)
    by_cases e : j = i
    · subst e
      simp [updV, va_rf]
    · by_cases h : j < i
      · simp [updV, e, h, Nat.lt_succ_of_lt h]
      · simp [updV, e, h, show ¬ j < i + 1 by omega]
theorem wld_app {cs : CI3} {B : Nat} {S : Shp} {M : Mem} {L : Shp} : wld cs B (S ++ L) M = wld cs B S M ++ L.mapIdx (fun j e => (B + (S.length + j), celE cs B M (S.length + j) e)) := by
  unfold wld
  rw [List.mapIdx_append]
  congr 1
  refine List.ext_getElem? fun j => ?_
  simp only [List.getElem?_mapIdx]
  cases L[j]? with
  | none => rfl
  | some e => simp only [Option.map_some]; rw [Nat.add_comm j S.length]
theorem Rng.app {S L : Shp} {M : Mem} (h : Rng S M) : Rng (S ++ L) M := ⟨h.1, fun b j hb => h.2 b j (by rw [List.length_append] at hb; omega)⟩
/-- a class that can be made -/
def CN (own : String) (idx ci N : Nat) (T : u_T) (C : String) : Prop := CF ci C T N ∧ Cond.classLink own idx C ∈ GT ∧ Cond.instantiable C N ∈ GT ∧ Cond.initialized C ∈ GT ∧ ∃ ty : Nat → FieldType, (∀ k, k < N → parseFieldDescriptor (T k).2.2.1 = some (ty k)) ∧ ∀ k, k < N → (defaultValue (ty k) = .null ∧ (fk ci k = 2 ∨ fk ci k = 3)) ∨ (defaultValue (ty k) = .int 0 ∧ (fk ci k = 0 ∨ fk ci k = 1))
section AWN
variable {mt : MD} {Ex : State → Nat → Nat → Prop} {k n pc : Nat} {ls st : List AV} {S : Shp} {M : Mem} {Q : Int → Shp → Mem → Prop}
theorem a_new {idx ci N : Nat} {T : u_T} {C : String} {x : Int} {S1 : Shp} (hd : decode mt.code pc = .ok (.new idx, 3)) (hf : CN mt.nm.cls idx ci N T C) (hx : (S.length : Int) = x) (hk : k + 1 ≤ mt.mc ∧ n + N ≤ mt.ms) (hS1 : S ++ [(ci + 3, N, List.replicate N (-1))] = S1)
    (K : AWG mt Ex (k + 1) (n + N) (pc + 3) ls ((2, x) :: st) S1 M Q) : AWG mt Ex k n pc ls st S M Q := by
  intro cs D B b p l e R s m args below meth c Qf H locs la C hR hP hS hB hz hL hst kr
  subst hS1
  subst hx
  obtain ⟨⟨hc, hin, -, -⟩, hcl, hins, hini, ty, hty, hdf⟩ := hf
  obtain ⟨hr1, hr2, hr3, hr4⟩ := C.2.2.2.2.2.2.1
  have hts := C.2.2.2.2.1
  have hKn := C.2.2.2.2.2.1.1.1 ci _ hc
  refine W_sz hP hS hB hz fun hsz => ?_
  refine W.newcK C.1 C.2.1 C.2.2.2.1 (hts _ hcl) (hts _ hins) (hts _ hini) rfl hd (by omega) (by omega) hKn.2.1 hsz fun H1 kC hkC e1 z1 o1 => ?_
  have hk1 : ∀ (j : Nat) (q : Nat × va_E), (wld cs B S M)[j]? = some q → H1[q.1]? = H[q.1]? := fun j q hq => o1 q.1 (by rw [← hsz]; exact (hP j q hq).lt)
  have hb := (u_born ty hts hin hKn hkC e1 hty)
  have hb2 : t_OB (B + S.length) (D.1 ci) N (D.2 ci) H1 (vp_V ((List.range N).map (fldV B M S.length ci (List.replicate N (-1))))) := by
    refine hb.to fun j hj => ?_
    have h0 : M (S.length : Nat) (j : Nat) = 0 := hR.2 _ _ (by omega)
    show defaultValue (ty j) = ((List.range N).map (fldV B M S.length ci (List.replicate N (-1)))).getD j .null
    rw [List.getD, fld_get hj]
    show defaultValue (ty j) = fldV B M S.length ci (List.replicate N (-1)) j
    rcases hdf j hj with ⟨h1, h2 | h2⟩ | ⟨h1, h2⟩
    · rw [h1, fldV2 h2, List.getD, List.getElem?_replicate, if_pos hj]
      rfl
    · rw [h1, fldV3 h2, h0]
      rfl
    · rw [h1, fldV0 h2, h0]
      rfl
  have hP1 : va_P D vwCl (wld cs B (S ++ [(ci + 3, N, List.replicate N (-1))]) M) H1 := by
    rw [wld_app]
    refine (hP.kept hk1).app fun j q hq => ?_
    match j, hq with
    | 0, hq => cases hq; exact ⟨_, hc, hb2⟩
  have hS2 : va_S (fun q => B ≤ q) s.heap H1 locs := ⟨Nat.le_trans hS.1 (by omega), fun q h1 h2 => (o1 q (by rw [← hsz]; exact Nat.lt_of_lt_of_le h1 hS.1)).trans (hS.2.1 q h1 h2), hS.2.2⟩
  have hk2 := K cs D B b p l e R s m args below meth c Qf H1 locs la C hR.app hP1 hS2 hB (by rw [List.length_append]; show s.heap.size + (k + 1) = B + (S.length + 1); omega) hL (okc (ok2 _) hst) kr
  rw [List.map_cons, cv2 (by omega)] at hk2
  exact hk2
theorem a_newA {at_ : ArrayType} {t N : Nat} {v x : Int} {S1 : Shp} (hd : decode mt.code pc = .ok (.newarray at_, 2)) (ht : (at_ = .int ∧ t = 0) ∨ (at_ = .boolean ∧ t = 1)) (hw : Cond.arrayClass (newarray.typeOf at_) ∈ GT) (hv : v = N) (hN : N ≤ 1000000) (hx : (S.length : Int) = x) (hk : k + 1 ≤ mt.mc ∧ n + N ≤ mt.ms) (hS1 : S ++ [(t, N, [])] = S1)
    (K : AWG mt Ex (k + 1) (n + N) (pc + 2) ls ((2, x) :: st) S1 M Q) : AWG mt Ex k n pc ls ((0, v) :: st) S M Q := by
  intro cs D B b p l e R s m args below meth c Qf H locs la C hR hP hS hB hz hL hst kr
  subst hS1
  subst hx
  subst hv
  obtain ⟨hr1, hr2, hr3, hr4⟩ := C.2.2.2.2.2.2.1
  have hts := C.2.2.2.2.1
  have hi : in32 (N : Int) := ⟨by omega, by omega⟩
  have hneg : ¬ Int32.ofInt (N : Int) < 0 := fun q => by have := (i32lt (b := 0) hi (by decide)).mp q; omega
  have hcl : (Int32.ofInt (N : Int)).toNatClampNeg = N := by rw [i32cl hi]; omega
  refine W_sz hP hS hB hz fun hsz => ?_
  rw [List.map_cons]
  refine va_newaK (g := F0 m pc la (.int (Int32.ofInt (N : Int)) :: st.map (cvv B b))) C.1 C.2.1 (hts _ hw) rfl hd rfl hneg hcl ?_ (by omega) (by omega) hsz fun H1 cA e1 z1 o1 hAr hNm => ?_
  · rcases ht with ⟨rfl, -⟩ | ⟨rfl, -⟩
    · show N * 4 ≤ _; omega
    · show N * 1 ≤ _; omega
  have hk1 : ∀ (j : Nat) (q : Nat × va_E), (wld cs B S M)[j]? = some q → H1[q.1]? = H[q.1]? := fun j q hq => o1 q.1 (by rw [← hsz]; exact (hP j q hq).lt)
  have hz0 : ∀ j : Nat, Int32.ofInt (M (S.length : Nat) (j : Nat)) = 0 := fun j => by rw [hR.2 _ _ (by omega)]; rfl
  have hP1 : va_P D vwCl (wld cs B (S ++ [(t, N, [])]) M) H1 := by
    rw [wld_app]
    refine (hP.kept hk1).app fun j q hq => ?_
    match j, hq with
    | 0, hq =>
      cases hq
      rcases ht with ⟨rfl, rfl⟩ | ⟨rfl, rfl⟩
      · have hc0 : s.vm.findClass ("[" ++ FieldType.int.toString) = some cs.1 := (C.2.2.2.2.2.1.1.2 0 (cs.1, .int) rfl).2
        cases Option.some.inj (hNm.symm.trans hc0)
        show H1[B + S.length]? = some (vp_cell cs.1 (N, .inl (fun j => Int32.ofInt (M (S.length : Nat) (j : Nat)))))
        rw [e1, vp_cell_i]
        refine congrArg (fun f => some (arrV cs.1 N f)) (funext fun j => ?_)
        rw [hz0]
        rfl
      · have hc0 : s.vm.findClass ("[" ++ FieldType.boolean.toString) = some cs.2.1 := (C.2.2.2.2.2.1.1.2 1 (cs.2.1, .boolean) rfl).2
        cases Option.some.inj (hNm.symm.trans hc0)
        show H1[B + S.length]? = some (vp_cell cs.2.1 (N, .inl (fun j => Int32.ofInt (M (S.length : Nat) (j : Nat)))))
        rw [e1, vp_cell_i]
        refine congrArg (fun f => some (arrV cs.2.1 N f)) (funext fun j => ?_)
        rw [hz0]
        rfl
  have hS2 : va_S (fun q => B ≤ q) s.heap H1 locs := ⟨Nat.le_trans hS.1 (by omega), fun q h1 h2 => (o1 q (by rw [← hsz]; exact Nat.lt_of_lt_of_le h1 hS.1)).trans (hS.2.1 q h1 h2), hS.2.2⟩
  have hk2 := K cs D B b p l e R s m args below meth c Qf H1 locs la C hR.app hP1 hS2 hB (by rw [List.length_append]; show s.heap.size + (k + 1) = B + (S.length + 1); omega) hL (okc (ok2 _) (okt hst)) kr
  rw [List.map_cons, cv2 (by omega)] at hk2
  exact hk2
theorem a_mna {idx N W : Nat} {v w x : Int} {S1 : Shp} (hd : decode mt.code pc = .ok (.multianewarray idx 2, 4)) (hl : Cond.classLink mt.nm.cls idx "[[I" ∈ GT) (hw : Cond.arrayClass .int ∈ GT) (hv : v = N) (hv2 : w = W) (hN : N ≤ 1000) (hW : W ≤ 1000) (hx : (S.length : Int) = x) (hk : k + 1 + N ≤ mt.mc ∧ n + N + N * W ≤ mt.ms) (hS1 : S ++ ((2, N, []) :: List.replicate N (0, W, [])) = S1)
    (K : AWG mt Ex (k + 1 + N) (n + N + N * W) (pc + 4) ls ((2, x) :: st) S1 M Q) : AWG mt Ex k n pc ls ((0, w) :: (0, v) :: st) S M Q := by
  intro cs D B b p l e R s m args below meth c Qf H locs la C hR hP hS hB hz hL hst kr
  subst hS1
  subst hx
  subst hv
  subst hv2
  obtain ⟨hr1, hr2, hr3, hr4⟩ := C.2.2.2.2.2.2.1
  have hts := C.2.2.2.2.1
  have hi : in32 (N : Int) := ⟨by omega, by omega⟩
  have hiw : in32 (W : Int) := ⟨by omega, by omega⟩
  have hneg : ¬ Int32.ofInt (N : Int) < 0 := fun q => by have := (i32lt (b := 0) hi (by decide)).mp q; omega
  have hnegw : ¬ Int32.ofInt (W : Int) < 0 := fun q => by have := (i32lt (b := 0) hiw (by decide)).mp q; omega
  have hcl : (Int32.ofInt (N : Int)).toNatClampNeg = N := by rw [i32cl hi]; omega
  have hclw : (Int32.ofInt (W : Int)).toNatClampNeg = W := by rw [i32cl hiw]; omega
  refine W_sz hP hS hB hz fun hsz => ?_
  rw [List.map_cons, List.map_cons]
  intro T0 hT X0
  obtain ⟨vm₁, cA, comp, -, fA, fC, -, -, X', step⟩ := X0.multianewarray2F (ty := .int) C.1 C.2.2.2.1 (hts _ hl) C.2.2.2.2.2.1.2.2 (hts _ hw) (g := F0 m pc la (.int (Int32.ofInt (W : Int)) :: .int (Int32.ofInt (N : Int)) :: st.map (cvv B b))) rfl (by rw [C.2.1]; exact hd) rfl hneg hnegw (by rw [hcl]; omega) (by rw [hclw]; show W * 4 ≤ _; omega) (by rw [hclw]; omega) rfl rfl (by rw [hcl]; omega) (by rw [hcl, hclw]; omega)
  rw [hcl, hclw] at X' step
  have hc0 : s.vm.findClass ("[" ++ FieldType.int.toString) = some cs.1 := (C.2.2.2.2.2.1.1.2 0 (cs.1, .int) rfl).2
  have hc2 : s.vm.findClass ("[" ++ (FieldType.array .int).toString) = some cs.2.2 := (C.2.2.2.2.2.1.1.2 2 (cs.2.2, .array .int) rfl).2
  cases Option.some.inj (fA.symm.trans hc2)
  cases Option.some.inj (fC.symm.trans hc0)
  generalize hF : Jvm.Free.Multi.fill (T0.setVm vm₁) cs.2.2 cs.1 N W (defaultValue .int) N = F at X' step
  have hTh : (T0.setVm vm₁).heap = H := hT
  obtain ⟨f1, f2, -, -⟩ := Jvm.Free.Multi.fill_facts (T0.setVm vm₁) cs.2.2 cs.1 N W (defaultValue .int) N
  rw [hF, hTh] at f1 f2
  have hold : ∀ q : Nat, q < H.size → F.heap[q]? = H[q]? := fun q hq => by
    have := Jvm.Free.Multi.fill_old (T0.setVm vm₁) cs.2.2 cs.1 N W (defaultValue .int) (a := q) (by rw [hTh]; exact hq) N
    rw [hF, hTh] at this
    exact this
  have hrow : ∀ j : Nat, j < N → F.heap[H.size + 1 + j]? = some (Jvm.Free.Multi.innerC cs.1 W (defaultValue .int)) := fun j hj => by
    have := Jvm.Free.Multi.fill_inner (T0.setVm vm₁) cs.2.2 cs.1 N W (defaultValue .int) N j hj
    rw [hF, hTh] at this
    exact this
  have hP1 : va_P D vwCl (wld cs B (S ++ ((2, N, []) :: List.replicate N (0, W, []))) M) F.heap := by
    rw [wld_app]
    refine (hP.kept (fun j q hq => hold q.1 ((hP j q hq).lt))).app fun j q hq => ?_
    rw [List.getElem?_mapIdx] at hq
    match j, hq with
    | 0, hq =>
      cases hq
      show F.heap[B + S.length]? = some (vp_cell cs.2.2 (N, .inr (.inr (.inr (.inr (fun j => if j < N then some (B + (S.length + 0) + 1 + j) else none))))))
      rw [← hsz, f2, vr_outer, vp_cell_q]
      refine congrArg (fun f => some (arrV cs.2.2 N f)) (funext fun j => ?_)
      rw [hsz]
      rfl
    | j + 1, hq =>
      rw [List.getElem?_cons_succ, List.getElem?_replicate] at hq
      by_cases hj : j < N
      · rw [if_pos hj] at hq
        cases hq
        show F.heap[B + (S.length + (j + 1))]? = some (vp_cell cs.1 (W, .inl (fun i => Int32.ofInt (M (S.length + (j + 1) : Nat) (i : Nat)))))
        rw [show B + (S.length + (j + 1)) = H.size + 1 + j by omega, hrow j hj, vp_cell_i]
        show some ({ cls := cs.1, slots := Array.replicate W (defaultValue .int), vm := .none } : Cell) = _
        rw [arrV_new]
        refine congrArg (fun f => some (arrV cs.1 W f)) (funext fun i => ?_)
        rw [hR.2 _ _ (by omega)]
        rfl
      · rw [if_neg hj] at hq
        cases hq
  have hS2 : va_S (fun q => B ≤ q) s.heap F.heap locs := ⟨by rw [f1]; exact Nat.le_trans hS.1 (by omega), fun q h1 h2 => (hold q (Nat.lt_of_lt_of_le h1 hS.1)).trans (hS.2.1 q h1 h2), hS.2.2⟩
  have hk2 := K cs D B b p l e R s m args below meth c Qf F.heap locs la C hR.app hP1 hS2 hB (by rw [List.length_append, List.length_cons, List.length_replicate]; omega) hL (okc (ok2 _) (okt (okt hst))) kr
  rw [List.map_cons, cv2 (by omega), show B + ((S.length : Nat) : Int).toNat = T0.heap.size by rw [hT, hsz]; omega] at hk2
  obtain ⟨t, a1, b1⟩ := hk2 F rfl X'
  exact ⟨t, step t a1, b1⟩
/-- what System.arraycopy of n places from the first on leaves -/
def cpyM (M : Mem) (x y n : Int) : Mem := fun b j => if b = y ∧ 0 ≤ j ∧ j < n then M x j else M b j
theorem celE_congr {cs : CI3} {B : Nat} {M M' : Mem} {k : Nat} (h : ∀ j : Int, M' k j = M k j) (e : Nat × Nat × List Int) : celE cs B M' k e = celE cs B M k e := by
  unfold celE
  obtain ⟨t, n, rs⟩ := e
  match t with
  | 0 => simp only [h]
  | 1 => simp only [h]
  | 2 => rfl
  | ci + 3 =>
    simp only
    congr 1
    congr 1
    refine List.map_congr_left fun j _ => ?_
    unfold fldV
    simp only [h]
theorem a_copy {idx : Nat} {x y v : Int} {Nx Ny : Nat} {rx ry : List Int} (hd : decode mt.code pc = .ok (.invokestatic idx, 3)) (hl : Cond.methodLink mt.nm.cls idx arraycopyName ∈ GT) (hn : Cond.native arraycopyName ∈ GT) (hs : Cond.static arraycopyName ∈ GT) (hi : Cond.initialized "java/lang/System" ∈ GT) (hx : 0 ≤ x) (hy : 0 ≤ y) (hsx : S[x.toNat]? = some (0, Nx, rx)) (hsy : S[y.toNat]? = some (0, Ny, ry)) (hv : 0 ≤ v) (hv1 : v ≤ Nx) (hv2 : v ≤ Ny) (hfr : 1 ≤ mt.fr) (hlo : 40 ≤ mt.lo) (hst4 : st.length ≤ 4)
    (K : AWG mt Ex k n (pc + 3) ls st S (cpyM M x y v) Q) : AWG mt Ex k n pc ls ((0, v) :: (0, 0) :: (2, y) :: (0, 0) :: (2, x) :: st) S M Q := by
  intro cs D B b p l e R s m args below meth c Qf H locs la C hR hP hS hB hz hL hst kr
  have hts := C.2.2.2.2.1
  have hi0 : in32 v := (okh hst).1 rfl
  obtain ⟨hr1, hr2, hr3, hr4⟩ := C.2.2.2.2.2.2.1
  have h8 := rest8 (B := B) (b := b) hst4
  have hex : (wld cs B S M)[x.toNat]? = some (B + x.toNat, .inl (cs.1, Nx, .inl (fun j => Int32.ofInt (M x.toNat j)))) := wld_get hsx
  have hey : (wld cs B S M)[y.toNat]? = some (B + y.toNat, .inl (cs.1, Ny, .inl (fun j => Int32.ofInt (M y.toNat j)))) := wld_get hsy
  have hneg : ¬ Int32.ofInt v < 0 := fun q => by have := (i32lt (b := 0) hi0 (by decide)).mp q; omega
  have hcl : (Int32.ofInt v).toNatClampNeg = v.toNat := i32cl hi0
  have h00 : (Int32.ofInt 0).toNatClampNeg = 0 := rfl
  rw [List.map_cons, List.map_cons, List.map_cons, List.map_cons, List.map_cons, cv2 hx, cv2 hy]
  refine va_copyi (ty := .int) C.1 C.2.1 (by rw [C.2.2.1]; exact hL.1.symm) C.2.2.2.1 (hts _ hl) (hts _ hn) (hts _ hs) (hts _ hi) C.2.2.2.2.2.1.1 hP (wld_D cs B S M) hS x.toNat y.toNat 0 0 hex hey rfl rfl rfl (by decide) (by decide) hneg (by rw [hcl, h00]; omega) (by rw [hcl, h00]; omega) (fun _ _ => rfl) (by omega) ?_ hd fun H1 locs1 hP1 _ hS1 => ?_
  · have : nativeFrameWords "java/lang/System" "arraycopy" 5 + 11 ≤ 32 := by decide +kernel
    omega
  rw [hcl, h00] at hP1
  have hw : (wld cs B S M).set y.toNat (B + y.toNat, .inl (cs.1, Ny, .inl (va_cpy (fun j : Nat => Int32.ofInt (M x.toNat j)) (fun j : Nat => Int32.ofInt (M y.toNat j)) 0 0 v.toNat))) = wld cs B S (cpyM M x y v) := by
    rw [← wld_set (M' := cpyM M x y v) (set_self hsy) (len_of hsy) (fun j hj e => celE_congr (fun i => by
      unfold cpyM
      rw [if_neg (fun q => by have := q.1; omega)]) e)]
    congr 1
    show _ = (B + y.toNat, Sum.inl (cs.1, Ny, Sum.inl (fun j : Nat => Int32.ofInt (cpyM M x y v y.toNat j))))
    congr 5
    funext j
    unfold va_cpy cpyM
    rw [nat_int hx, nat_int hy]
    by_cases h : j < v.toNat
    · rw [if_pos ⟨Nat.zero_le _, by omega⟩, if_pos ⟨rfl, by omega, by omega⟩]
      congr 2
      omega
    · rw [if_neg (fun q => h (by have := q.2; omega)), if_neg (fun q => h (by have := q.2.2; omega))]
  have hR1 : Rng S (cpyM M x y v) := ⟨fun a i => by
    unfold cpyM
    split
    · exact hR.1 _ _
    · exact hR.1 _ _, fun a i ha => by
    unfold cpyM
    have := len_of hsy
    rw [if_neg (fun q => by have := q.1; omega)]
    exact hR.2 _ _ ha⟩
  exact K cs D B b p l e R s m args below meth c Qf H1 locs1 la C hR1 (hw ▸ hP1) hS1 hB hz hL (okt (okt (okt (okt (okt hst))))) kr
end AWN
