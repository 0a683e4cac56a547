section AWX
variable {mt : MD} {Ex : State → Nat → Nat → Prop} {k n pc : Nat} {ls st : List AV} {S : Shp} {M : Mem} {Q : Int → Shp → Mem → Prop}
theorem a_mmin {idx a : Nat} {y : MD} {u v z : Int} (hd : decode mt.code pc = .ok (.invokestatic idx, 3)) (hm : MLS mt.nm.cls idx y a) (hn : y.nm = Lib.Math.min.name ∧ y.code = Lib.Math.min.code ∧ y.maxL = 2 ∧ y.ret = some .int ∧ Lib.Math.min.name.cls = "java/lang/Math") (hz : min u v = z) (hfr : 1 ≤ mt.fr) (hlo : 40 ≤ mt.lo) (hk : k ≤ mt.mc) (hn2 : n ≤ mt.ms) (hst4 : st.length ≤ 4) (K : AWG mt Ex k n (pc + 3) ls ((0, z) :: st) S M Q) : AWG mt Ex k n pc ls ((0, v) :: (0, u) :: st) S M Q := by
  intro cs D B b p l e R s m args below meth c Qf H locs la C hR hP hS hB hz0 hL hst kr
  obtain ⟨e1, e2, e3, e4, e5⟩ := hn
  obtain ⟨⟨m1, m2, m3, -, -⟩, m4⟩ := hm
  rw [e1] at m1 m2 m3 m4
  rw [e2, e3, e4] at m3
  rw [e5] at m2
  have hts := C.2.2.2.2.1
  have hv : in32 v := (okh hst).1 rfl
  have hu : in32 u := (okh (okt hst)).1 rfl
  obtain ⟨hr1, hr2, hr3, hr4⟩ := C.2.2.2.2.2.2.1
  have h8 := rest8 (B := B) (b := b) hst4
  have hzz : in32 z := by subst hz; unfold in32 at *; omega
  have hk2 := K cs D B b p l e R s m args below meth c Qf H locs la C hR hP hS hB hz0 hL (okc (ok0 hzz) (okt (okt hst))) kr
  refine va_mmin C.1 C.2.1 (by rw [C.2.2.1]; exact hL.1.symm) C.2.2.2.1 (hts _ m1) (hts _ m4) (hts _ m2) (hts _ m3) (by omega) (by omega) (by omega) (by omega) hd ?_
  have e9 : (if Int32.ofInt v < Int32.ofInt u then Int32.ofInt v else Int32.ofInt u) = Int32.ofInt z := by
    subst hz
    by_cases h : v < u
    · rw [if_pos ((i32lt hv hu).mpr h), Int.min_eq_right (by omega)]
    · rw [if_neg (fun q => h ((i32lt hv hu).mp q)), Int.min_eq_left (by omega)]
  show W p l e R s m args below meth c H locs k n Qf (F0 m (pc + 3) la (.int (if Int32.ofInt v < Int32.ofInt u then Int32.ofInt v else Int32.ofInt u) :: st.map (cvv B b)))
  rw [e9]
  exact hk2
theorem a_mmax {idx a : Nat} {y : MD} {u v z : Int} (hd : decode mt.code pc = .ok (.invokestatic idx, 3)) (hm : MLS mt.nm.cls idx y a) (hn : y.nm = Lib.Math.max.name ∧ y.code = Lib.Math.max.code ∧ y.maxL = 2 ∧ y.ret = some .int ∧ Lib.Math.max.name.cls = "java/lang/Math") (hz : max u v = z) (hfr : 1 ≤ mt.fr) (hlo : 40 ≤ mt.lo) (hk : k ≤ mt.mc) (hn2 : n ≤ mt.ms) (hst4 : st.length ≤ 4) (K : AWG mt Ex k n (pc + 3) ls ((0, z) :: st) S M Q) : AWG mt Ex k n pc ls ((0, v) :: (0, u) :: st) S M Q := by
  intro cs D B b p l e R s m args below meth c Qf H locs la C hR hP hS hB hz0 hL hst kr
  obtain ⟨e1, e2, e3, e4, e5⟩ := hn
  obtain ⟨⟨m1, m2, m3, -, -⟩, m4⟩ := hm
  rw [e1] at m1 m2 m3 m4
  rw [e2, e3, e4] at m3
  rw [e5] at m2
  have hts := C.2.2.2.2.1
  have hv : in32 v := (okh hst).1 rfl
  have hu : in32 u := (okh (okt hst)).1 rfl
  obtain ⟨hr1, hr2, hr3, hr4⟩ := C.2.2.2.2.2.2.1
  have h8 := rest8 (B := B) (b := b) hst4
  have hzz : in32 z := by subst hz; unfold in32 at *; omega
  have hk2 := K cs D B b p l e R s m args below meth c Qf H locs la C hR hP hS hB hz0 hL (okc (ok0 hzz) (okt (okt hst))) kr
  refine va_mmax C.1 C.2.1 (by rw [C.2.2.1]; exact hL.1.symm) C.2.2.2.1 (hts _ m1) (hts _ m4) (hts _ m2) (hts _ m3) (by omega) (by omega) (by omega) (by omega) hd ?_
  have e9 : (if Int32.ofInt u < Int32.ofInt v then Int32.ofInt v else Int32.ofInt u) = Int32.ofInt z := by
    subst hz
    by_cases h : u < v
    · rw [if_pos ((i32lt hu hv).mpr h), Int.max_eq_right (by omega)]
    · rw [if_neg (fun q => h ((i32lt hu hv).mp q)), Int.max_eq_left (by omega)]
  show W p l e R s m args below meth c H locs k n Qf (F0 m (pc + 3) la (.int (if Int32.ofInt u < Int32.ofInt v then Int32.ofInt v else Int32.ofInt u) :: st.map (cvv B b)))
  rw [e9]
  exact hk2
end AWX
theorem is_min : mJ9_min_7cf53.nm = Lib.Math.min.name ∧ mJ9_min_7cf53.code = Lib.Math.min.code ∧ mJ9_min_7cf53.maxL = 2 ∧ mJ9_min_7cf53.ret = some .int ∧ Lib.Math.min.name.cls = "java/lang/Math" := ⟨by decide, by decide +kernel, rfl, rfl, by decide⟩
theorem is_max : mJ9_max_7cf53.nm = Lib.Math.max.name ∧ mJ9_max_7cf53.code = Lib.Math.max.code ∧ mJ9_max_7cf53.maxL = 2 ∧ mJ9_max_7cf53.ret = some .int ∧ Lib.Math.max.name.cls = "java/lang/Math" := ⟨by decide, by decide +kernel, rfl, rfl, by decide⟩
