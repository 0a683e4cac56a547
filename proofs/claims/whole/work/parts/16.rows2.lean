section AWE
variable {mt : MD} {Ex : State → Nat → Nat → Prop} {k n pc : Nat} {ls st : List AV} {S : Shp} {M : Mem} {Q : Int → Shp → Mem → Prop}
theorem a_eq {t : Nat} {x y : Int} (h : x = y) (K : AWG mt Ex k n pc ls ((t, y) :: st) S M Q) : AWG mt Ex k n pc ls ((t, x) :: st) S M Q := by
  subst h
  exact K
theorem a_ishl {x y z : Int} (hd : decode mt.code pc = .ok (.ishl, 1)) (hx : x = 1) (h0 : 0 ≤ y) (h1 : y ≤ 30) (hz : 2 ^ y.toNat = z) (K : AWG mt Ex k n (pc + 1) ls ((0, z) :: st) S M Q) : AWG mt Ex k n pc ls ((0, y) :: (0, x) :: st) S M Q := by
  intro cs D B b p l e R s m args below meth c Qf H locs la C hR hP hS hB hz0 hL hst kr
  subst hz
  subst hx
  have h2 : ∀ q : Nat, q ≤ 30 → in32 (2 ^ q) ∧ (Int32.ofInt 1 <<< (Int32.ofInt (q : Int) &&& 31)) = Int32.ofInt (2 ^ q) := by decide +kernel
  obtain ⟨h3, h4⟩ := h2 y.toNat (by omega)
  rw [nat_int h0] at h4
  have hk := K cs D B b p l e R s m args below meth c Qf H locs la C hR hP hS hB hz0 hL (okc (ok0 h3) (okt (okt hst))) kr
  refine lv_ishl C.1 C.2.1 hd ?_
  show W p l e R s m args below meth c H locs k n Qf (F0 m (pc + 1) la (.int (Int32.ofInt 1 <<< (Int32.ofInt y &&& 31)) :: st.map (cvv B b)))
  rw [h4]
  exact hk
theorem i32or {x y : Int} (hx : in32 x) (hy : in32 y) (h0 : 0 ≤ x) (h1 : 0 ≤ y) : Int32.ofInt x ||| Int32.ofInt y = Int32.ofInt ((x.toNat ||| y.toNat : Nat) : Int) := by
  have e1 : Int32.ofInt x = nI x.toNat := by
    apply Int32.toInt_inj.mp
    rw [i32T hx, nI_toInt (by have := hx.2; omega)]
    omega
  have e2 : Int32.ofInt y = nI y.toNat := by
    apply Int32.toInt_inj.mp
    rw [i32T hy, nI_toInt (by have := hy.2; omega)]
    omega
  have h3 : x.toNat ||| y.toNat < 2 ^ 31 := Nat.or_lt_two_pow (by have := hx.2; omega) (by have := hy.2; omega)
  have h4 : in32 ((x.toNat ||| y.toNat : Nat) : Int) := ⟨by omega, by omega⟩
  rw [e1, e2]
  apply Int32.toInt_inj.mp
  rw [i32T h4, ← nI_toInt h3]
  congr 1
  unfold nI
  apply Int32.toBitVec_inj.mp
  rw [Int32.toBitVec_or]
  show BitVec.ofNat 32 _ ||| BitVec.ofNat 32 _ = BitVec.ofNat 32 _
  apply BitVec.eq_of_toNat_eq
  rw [BitVec.toNat_or, BitVec.toNat_ofNat, BitVec.toNat_ofNat, BitVec.toNat_ofNat, Nat.mod_eq_of_lt (by have := hx.2; omega), Nat.mod_eq_of_lt (by have := hy.2; omega), Nat.mod_eq_of_lt (by omega)]
theorem a_ior {x y z : Int} (hd : decode mt.code pc = .ok (.ior, 1)) (h0 : 0 ≤ x) (h1 : 0 ≤ y) (hz : ((x.toNat ||| y.toNat : Nat) : Int) = z) (K : AWG mt Ex k n (pc + 1) ls ((0, z) :: st) S M Q) : AWG mt Ex k n pc ls ((0, y) :: (0, x) :: st) S M Q := by
  intro cs D B b p l e R s m args below meth c Qf H locs la C hR hP hS hB hz0 hL hst kr
  subst hz
  have hy : in32 y := (okh hst).1 rfl
  have hx : in32 x := (okh (okt hst)).1 rfl
  have h3 : x.toNat ||| y.toNat < 2 ^ 31 := Nat.or_lt_two_pow (by have := hx.2; omega) (by have := hy.2; omega)
  have hk := K cs D B b p l e R s m args below meth c Qf H locs la C hR hP hS hB hz0 hL (okc (ok0 ⟨by omega, by omega⟩) (okt (okt hst))) kr
  refine lv_ior C.1 C.2.1 hd ?_
  show W p l e R s m args below meth c H locs k n Qf (F0 m (pc + 1) la (.int (Int32.ofInt x ||| Int32.ofInt y) :: st.map (cvv B b)))
  rw [i32or hx hy h0 h1]
  exact hk
/-- a mask of the k lowest bits -/
theorem a_iand {x y z : Int} {q : Nat} (hd : decode mt.code pc = .ok (.iand, 1)) (hq : q ≤ 30) (hy : y = 2 ^ q - 1) (hz : x % 2 ^ q = z) (K : AWG mt Ex k n (pc + 1) ls ((0, z) :: st) S M Q) : AWG mt Ex k n pc ls ((0, y) :: (0, x) :: st) S M Q := by
  intro cs D B b p l e_ R s m args below meth c Qf H locs la C hR hP hS hB hz0 hL hst kr
  subst hz
  have hx : in32 x := (okh (okt hst)).1 rfl
  have hp : ∀ q : Nat, q ≤ 30 → (0 : Int) < 2 ^ q ∧ (2 : Int) ^ q ≤ 1073741824 ∧ (Int32.ofInt (2 ^ q - 1)).toBitVec.toNat = 2 ^ q - 1 := by decide +kernel
  obtain ⟨h3, h4, h5⟩ := hp q hq
  have h6 := Int.emod_nonneg x (show (2 : Int) ^ q ≠ 0 by omega)
  have h7 := Int.emod_lt_of_pos x h3
  have e : Int32.ofInt x &&& Int32.ofInt y = Int32.ofInt (x % 2 ^ q) := by
    rw [hy, pk_and (Int32.ofInt x) q h5]
    apply Int32.toInt_inj.mp
    have h8 : (Int32.ofInt x).toBitVec.toNat % 2 ^ q < 2 ^ q := Nat.mod_lt _ (Nat.two_pow_pos q)
    have h10 : ((2 ^ q : Nat) : Int) = (2 : Int) ^ q := by simp
    have h9 : (2 : Nat) ^ q ≤ 1073741824 := by omega
    rw [i32T ⟨by omega, by omega⟩, nI_toInt (by omega)]
    have ha : (((Int32.ofInt x).toBitVec.toNat % 2 ^ q : Nat) : Int) = ((Int32.ofInt x).toBitVec.toNat : Int) % ((2 : Int) ^ q) := by simp
    rw [ha]
    have hb : ((Int32.ofInt x).toBitVec.toNat : Int) = x % 4294967296 := by
      show ((BitVec.ofInt 32 x).toNat : Int) = _
      rw [BitVec.toNat_ofInt]
      have := Int.emod_nonneg x (show (4294967296 : Int) ≠ 0 by decide)
      simp only [Nat.reducePow]
      omega
    rw [hb]
    refine Int.emod_emod_of_dvd x ?_
    exact ⟨2 ^ (32 - q), by rw [← Int.pow_add, show q + (32 - q) = 32 by omega]; decide⟩
  have hk := K cs D B b p l e_ R s m args below meth c Qf H locs la C hR hP hS hB hz0 hL (okc (ok0 ⟨by omega, by omega⟩) (okt (okt hst))) kr
  refine lv_iand C.1 C.2.1 hd ?_
  show W p l e_ R s m args below meth c H locs k n Qf (F0 m (pc + 1) la (.int (Int32.ofInt x &&& Int32.ofInt y) :: st.map (cvv B b)))
  rw [e]
  exact hk
theorem a_ishr {x y z : Int} (hd : decode mt.code pc = .ok (.ishr, 1)) (h0 : 0 ≤ x) (h1 : 0 ≤ y) (h2 : y ≤ 30) (hz : x / 2 ^ y.toNat = z) (K : AWG mt Ex k n (pc + 1) ls ((0, z) :: st) S M Q) : AWG mt Ex k n pc ls ((0, y) :: (0, x) :: st) S M Q := by
  intro cs D B b p l e_ R s m args below meth c Qf H locs la C hR hP hS hB hz0 hL hst kr
  subst hz
  have hx : in32 x := (okh (okt hst)).1 rfl
  have hp : ∀ q : Nat, q ≤ 30 → (0 : Int) < 2 ^ q ∧ ((Int32.ofInt (q : Int) &&& 31).toBitVec.smod 32).toNat = q := by decide +kernel
  obtain ⟨h3, h4⟩ := hp y.toNat (by omega)
  rw [nat_int h1] at h4
  have h6 : 0 ≤ x / 2 ^ y.toNat := Int.ediv_nonneg h0 (Int.le_of_lt h3)
  have h7 := Int.ediv_le_self (2 ^ y.toNat) h0
  have hin : in32 (x / 2 ^ y.toNat) := ⟨by omega, by have := hx.2; omega⟩
  have e : Int32.ofInt x >>> (Int32.ofInt y &&& 31) = Int32.ofInt (x / 2 ^ y.toNat) := by
    apply Int32.toInt_inj.mp
    rw [pk_shr _ _ _ h4, i32T hx, i32T hin, Int.shiftRight_eq_div_pow]
    simp
  have hk := K cs D B b p l e_ R s m args below meth c Qf H locs la C hR hP hS hB hz0 hL (okc (ok0 hin) (okt (okt hst))) kr
  refine lv_ishr C.1 C.2.1 hd ?_
  show W p l e_ R s m args below meth c H locs k n Qf (F0 m (pc + 1) la (.int (Int32.ofInt x >>> (Int32.ofInt y &&& 31)) :: st.map (cvv B b)))
  rw [e]
  exact hk
/-- an answer of a method of whole numbers -/
theorem a_ireti {x : Int} (hd : decode mt.code pc = .ok (.ireturn, 1)) (hr : mt.ret = some .int) (hk : k = mt.mc) (hn : n ≤ mt.ms) (K : Q x S M) : AWG mt Ex k n pc ls [(0, x)] S M Q := by
  intro cs D B b p l e R s m args below meth c Qf H locs la C hR hP hS hB hz hL hst kr
  exact a_iret hd (by unfold retI; rw [hr]) hk hn (by unfold okR; rw [hr]; exact (okh hst).1 rfl) K cs D B b p l e R s m args below meth c Qf H locs la C hR hP hS hB hz hL hst kr
theorem a_iretz {x : Int} (hd : decode mt.code pc = .ok (.ireturn, 1)) (hr : mt.ret = some .boolean) (hk : k = mt.mc) (hn : n ≤ mt.ms) (hz : x = 0 ∨ x = 1) (K : Q x S M) : AWG mt Ex k n pc ls [(0, x)] S M Q :=
  a_iret hd (by unfold retI; rw [hr]) hk hn (by unfold okR; rw [hr]; exact hz) K
/-- calls of methods that make nothing -/
def Calls (y : MD) (As : List AV) (S : Shp) (M : Mem) (Q : Int → Mem → Prop) : Prop := CallsG y As S M (fun r S1 M1 => S1 = S ∧ Q r M1)
theorem p_callV {idx ci N : Nat} {T : u_T} {y : MD} {As st0 : List AV} {x : Int} {rs : List Int} {Q1 : Int → Mem → Prop} {st1 : Int → List AV} (hd : decode mt.code pc = .ok (.invokevirtual idx, 3)) (hm : MLV mt.nm.cls idx y As.length) (hx : 0 ≤ x) (hs : S[x.toNat]? = some (ci + 3, N, rs)) (hcl : vwCl[ci]? = some (y.nm.cls, T, N)) (hf : y.fr + 1 ≤ mt.fr ∧ 8 + (y.maxL + 11) + y.lo ≤ mt.lo ∧ y.mc = 0 ∧ y.ms = 0 ∧ k ≤ mt.mc ∧ n ≤ mt.ms) (hst4 : st.length ≤ 4) (hst0 : As.reverse ++ (2, x) :: st = st0) (hst1 : ∀ r, retV y r ++ st = st1 r) (hc : Calls y ((2, x) :: As) S M Q1)
    (K : ∀ r M1, Q1 r M1 → AWG mt Ex k n (pc + 3) ls (st1 r) S M1 Q) : AWG mt Ex k n pc ls st0 S M Q := by
  obtain ⟨f1, f2, f3, f4, f5, f6⟩ := hf
  refine a_callV hd hm hx hs hcl ⟨f1, f2, by omega, by omega⟩ hst4 hc hst0 (fun r S1 M1 h => ?_)
  obtain ⟨rfl, h⟩ := h
  rw [f3, f4, hst1]
  exact K r M1 h
theorem p_callS {idx : Nat} {y : MD} {As st0 : List AV} {Q1 : Int → Mem → Prop} {st1 : Int → List AV} (hd : decode mt.code pc = .ok (.invokestatic idx, 3)) (hm : MLS mt.nm.cls idx y As.length) (hf : y.fr + 1 ≤ mt.fr ∧ 8 + (y.maxL + 11) + y.lo ≤ mt.lo ∧ y.mc = 0 ∧ y.ms = 0 ∧ k ≤ mt.mc ∧ n ≤ mt.ms) (hst4 : st.length ≤ 4) (hst0 : As.reverse ++ st = st0) (hst1 : ∀ r, retV y r ++ st = st1 r) (hc : Calls y As S M Q1)
    (K : ∀ r M1, Q1 r M1 → AWG mt Ex k n (pc + 3) ls (st1 r) S M1 Q) : AWG mt Ex k n pc ls st0 S M Q := by
  obtain ⟨f1, f2, f3, f4, f5, f6⟩ := hf
  refine a_callS hd hm ⟨f1, f2, by omega, by omega⟩ hst4 hc hst0 (fun r S1 M1 h => ?_)
  obtain ⟨rfl, h⟩ := h
  rw [f3, f4, hst1]
  exact K r M1 h
end AWE
theorem hp0 {ls : List AV} {i : Nat} (h : i = 0) : ∀ y, i ≠ 0 → ls[i - 1]? = some y → y.1 ≠ 1 := fun y q => absurd h q
theorem hp1 {ls : List AV} {i t : Nat} {x : Int} (h : ls[i - 1]? = some (t, x)) (ht : t ≠ 1) : ∀ y, i ≠ 0 → ls[i - 1]? = some y → y.1 ≠ 1 := fun y _ hy => by
  cases Option.some.inj (h.symm.trans hy)
  exact ht
section AWI
variable {mt : MD} {Ex : State → Nat → Nat → Prop} {k n pc : Nat} {ls st : List AV} {S : Shp} {M : Mem} {Q : Int → Shp → Mem → Prop}
/-- a call that is walked on the spot: one that makes nothing -/
theorem p_inlV {idx ci N : Nat} {T : u_T} {y : MD} {As st0 lsy : List AV} {x : Int} {rs : List Int} {st1 : Int → List AV} (hd : decode mt.code pc = .ok (.invokevirtual idx, 3)) (hm : MLV mt.nm.cls idx y As.length) (hx : 0 ≤ x) (hs : S[x.toNat]? = some (ci + 3, N, rs)) (hcl : vwCl[ci]? = some (y.nm.cls, T, N)) (hf : y.fr + 1 ≤ mt.fr ∧ 8 + (y.maxL + 11) + y.lo ≤ mt.lo ∧ y.mc = 0 ∧ y.ms = 0 ∧ k ≤ mt.mc ∧ n ≤ mt.ms) (hst4 : st.length ≤ 4) (hst0 : As.reverse ++ (2, x) :: st = st0) (hst1 : ∀ r, retV y r ++ st = st1 r)
    (hpl : plainName y.nm.cls = true) (hret : y.ret = none ∨ y.ret = some .int ∨ y.ret = some .boolean ∨ y.ret = some .long) (hlen : (sprd ((2, x) :: As)).length ≤ y.maxL) (hls : ls0 y.maxL ((2, x) :: As) = lsy) (K : AWG y (fun _ _ _ => True) 0 0 0 lsy [] S M (fun r S1 M1 => S1 = S ∧ AWG mt Ex k n (pc + 3) ls (st1 r) S M1 Q)) : AWG mt Ex k n pc ls st0 S M Q :=
  p_callV hd hm hx hs hcl hf hst4 hst0 hst1 (calls_of hpl hret hlen hls K) (fun _ _ h => h)
theorem p_inlS {idx : Nat} {y : MD} {As st0 lsy : List AV} {st1 : Int → List AV} (hd : decode mt.code pc = .ok (.invokestatic idx, 3)) (hm : MLS mt.nm.cls idx y As.length) (hf : y.fr + 1 ≤ mt.fr ∧ 8 + (y.maxL + 11) + y.lo ≤ mt.lo ∧ y.mc = 0 ∧ y.ms = 0 ∧ k ≤ mt.mc ∧ n ≤ mt.ms) (hst4 : st.length ≤ 4) (hst0 : As.reverse ++ st = st0) (hst1 : ∀ r, retV y r ++ st = st1 r)
    (hpl : plainName y.nm.cls = true) (hret : y.ret = none ∨ y.ret = some .int ∨ y.ret = some .boolean ∨ y.ret = some .long) (hlen : (sprd As).length ≤ y.maxL) (hls : ls0 y.maxL As = lsy) (K : AWG y (fun _ _ _ => True) 0 0 0 lsy [] S M (fun r S1 M1 => S1 = S ∧ AWG mt Ex k n (pc + 3) ls (st1 r) S M1 Q)) : AWG mt Ex k n pc ls st0 S M Q :=
  p_callS hd hm hf hst4 hst0 hst1 (calls_of hpl hret hlen hls K) (fun _ _ h => h)
/-- .. and one that may make cells -/
theorem q_inlI {idx k1 n1 : Nat} {y : MD} {As st0 lsy : List AV} {x : Int} {st1 : Int → List AV} (hd : decode mt.code pc = .ok (.invokespecial idx, 3)) (hm : MLI mt.nm.cls idx y As.length) (hx : 0 ≤ x) (hf : y.fr + 1 ≤ mt.fr ∧ 8 + (y.maxL + 11) + y.lo ≤ mt.lo ∧ k1 ≤ mt.mc ∧ n1 ≤ mt.ms) (hst4 : st.length ≤ 4) (hk1 : k + y.mc = k1) (hn1 : n + y.ms = n1) (hst0 : As.reverse ++ (2, x) :: st = st0) (hst1 : ∀ r, retV y r ++ st = st1 r)
    (hpl : plainName y.nm.cls = true) (hret : y.ret = none ∨ y.ret = some .int ∨ y.ret = some .boolean ∨ y.ret = some .long) (hlen : (sprd ((2, x) :: As)).length ≤ y.maxL) (hls : ls0 y.maxL ((2, x) :: As) = lsy) (K : AWG y (fun _ _ _ => True) 0 0 0 lsy [] S M (fun r S1 M1 => AWG mt Ex k1 n1 (pc + 3) ls (st1 r) S1 M1 Q)) : AWG mt Ex k n pc ls st0 S M Q := by
  subst hk1
  subst hn1
  exact a_callI hd hm hx ⟨hf.1, hf.2.1, hf.2.2.1, hf.2.2.2⟩ hst4 (calls_of hpl hret hlen hls K) hst0 (fun r S1 M1 h => by rw [hst1]; exact h)
theorem q_inlS {idx k1 n1 : Nat} {y : MD} {As st0 lsy : List AV} {st1 : Int → List AV} (hd : decode mt.code pc = .ok (.invokestatic idx, 3)) (hm : MLS mt.nm.cls idx y As.length) (hf : y.fr + 1 ≤ mt.fr ∧ 8 + (y.maxL + 11) + y.lo ≤ mt.lo ∧ k1 ≤ mt.mc ∧ n1 ≤ mt.ms) (hst4 : st.length ≤ 4) (hk1 : k + y.mc = k1) (hn1 : n + y.ms = n1) (hst0 : As.reverse ++ st = st0) (hst1 : ∀ r, retV y r ++ st = st1 r)
    (hpl : plainName y.nm.cls = true) (hret : y.ret = none ∨ y.ret = some .int ∨ y.ret = some .boolean ∨ y.ret = some .long) (hlen : (sprd As).length ≤ y.maxL) (hls : ls0 y.maxL As = lsy) (K : AWG y (fun _ _ _ => True) 0 0 0 lsy [] S M (fun r S1 M1 => AWG mt Ex k1 n1 (pc + 3) ls (st1 r) S1 M1 Q)) : AWG mt Ex k n pc ls st0 S M Q := by
  subst hk1
  subst hn1
  exact a_callS hd hm ⟨hf.1, hf.2.1, hf.2.2.1, hf.2.2.2⟩ hst4 (calls_of hpl hret hlen hls K) hst0 (fun r S1 M1 h => by rw [hst1]; exact h)
theorem q_inlV {idx k1 n1 ci N : Nat} {T : u_T} {rs : List Int} {y : MD} {As st0 lsy : List AV} {x : Int} {st1 : Int → List AV} (hd : decode mt.code pc = .ok (.invokevirtual idx, 3)) (hm : MLV mt.nm.cls idx y As.length) (hx : 0 ≤ x) (hs : S[x.toNat]? = some (ci + 3, N, rs)) (hcl : vwCl[ci]? = some (y.nm.cls, T, N)) (hf : y.fr + 1 ≤ mt.fr ∧ 8 + (y.maxL + 11) + y.lo ≤ mt.lo ∧ k1 ≤ mt.mc ∧ n1 ≤ mt.ms) (hst4 : st.length ≤ 4) (hk1 : k + y.mc = k1) (hn1 : n + y.ms = n1) (hst0 : As.reverse ++ (2, x) :: st = st0) (hst1 : ∀ r, retV y r ++ st = st1 r)
    (hpl : plainName y.nm.cls = true) (hret : y.ret = none ∨ y.ret = some .int ∨ y.ret = some .boolean ∨ y.ret = some .long) (hlen : (sprd ((2, x) :: As)).length ≤ y.maxL) (hls : ls0 y.maxL ((2, x) :: As) = lsy) (K : AWG y (fun _ _ _ => True) 0 0 0 lsy [] S M (fun r S1 M1 => AWG mt Ex k1 n1 (pc + 3) ls (st1 r) S1 M1 Q)) : AWG mt Ex k n pc ls st0 S M Q := by
  subst hk1
  subst hn1
  exact a_callV hd hm hx hs hcl ⟨hf.1, hf.2.1, hf.2.2.1, hf.2.2.2⟩ hst4 (calls_of hpl hret hlen hls K) hst0 (fun r S1 M1 h => by rw [hst1]; exact h)
end AWI
