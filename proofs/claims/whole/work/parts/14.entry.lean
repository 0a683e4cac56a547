/-- how arguments lie in the locals -/
def sprd : List AV → List AV
  | [] => []
  | v :: r => if v.1 = 1 then v :: (9, 0) :: sprd r else v :: sprd r
def ls0 (n : Nat) (As : List AV) : List AV := sprd As ++ List.replicate (n - (sprd As).length) (9, 0)
theorem cat2 (B b : Nat) (v : AV) : (cvv B b v).category = 2 ↔ v.1 = 1 := by
  by_cases h : v.1 = 1
  · obtain ⟨t, x⟩ := v
    subst h
    exact ⟨fun _ => rfl, fun _ => rfl⟩
  · rw [cat_cvv B b v h]
    exact ⟨fun q => absurd q (by decide), fun q => absurd q h⟩
theorem sprd_len (B b : Nat) : ∀ As : List AV, (lg_sl (As.map (cvv B b))).length = (sprd As).length
  | [] => rfl
  | v :: r => by
    have ih := sprd_len B b r
    unfold lg_sl at ih
    unfold lg_sl sprd
    rw [List.map_cons, List.flatMap_cons, List.length_append, ih]
    by_cases h : v.1 = 1
    · rw [if_pos h, if_pos ((cat2 B b v).mpr h)]
      simp only [List.length_cons, List.length_nil]
      omega
    · rw [if_neg h, if_neg (fun q => h ((cat2 B b v).mp q))]
      simp only [List.length_cons, List.length_nil]
      omega
theorem sprd_args (B b : Nat) : ∀ (As : List AV) (o i : Nat) (v : AV), (sprd As)[i]? = some v → v.1 ≠ 9 → (o + i, cvv B b v) ∈ lv_args o (As.map (cvv B b)) ∧ v ∈ As
  | [], o, i, v, h, _ => by simp [sprd] at h
  | w :: r, o, i, v, h, h9 => by
    unfold sprd at h
    rw [List.map_cons]
    unfold lv_args
    by_cases hw : w.1 = 1
    · rw [if_pos hw] at h
      rw [if_pos ((cat2 B b w).mpr hw)]
      match i, h with
      | 0, h => cases h; exact ⟨List.mem_cons_self, List.mem_cons_self⟩
      | 1, h => cases h; exact absurd rfl h9
      | i + 2, h =>
        have ih := sprd_args B b r (o + 2) i v h h9
        rw [show o + (i + 2) = o + 2 + i by omega]
        exact ⟨List.mem_cons_of_mem _ ih.1, List.mem_cons_of_mem _ ih.2⟩
    · rw [if_neg hw] at h
      rw [if_neg (fun q => hw ((cat2 B b w).mp q))]
      match i, h with
      | 0, h => cases h; exact ⟨List.mem_cons_self, List.mem_cons_self⟩
      | i + 1, h =>
        have ih := sprd_args B b r (o + 1) i v h h9
        rw [show o + (i + 1) = o + 1 + i by omega]
        exact ⟨List.mem_cons_of_mem _ ih.1, List.mem_cons_of_mem _ ih.2⟩
theorem ls0_has {B b n : Nat} {As : List AV} (h : (sprd As).length ≤ n) (hok : ∀ v ∈ As, okV v) : LsR B b n (ls0 n As) (lg_sl (As.map (cvv B b)) ++ List.replicate (n - (lg_sl (As.map (cvv B b))).length) Slot.unset).toArray := by
  have h0 := lv_entry (As.map (cvv B b)) (n := n) (by rw [sprd_len]; exact h)
  refine ⟨h0.1, ?_, h0.2.1, fun i v hi h9 => ?_⟩
  · unfold ls0
    rw [List.length_append, List.length_replicate]
    omega
  · unfold ls0 at hi
    by_cases hlt : i < (sprd As).length
    · rw [List.getElem?_append_left hlt] at hi
      have h1 := sprd_args B b As 0 i v hi h9
      rw [Nat.zero_add] at h1
      exact ⟨h0.2.2 _ h1.1, hok v h1.2⟩
    · rw [List.getElem?_append_right (Nat.le_of_not_lt hlt)] at hi
      have h2 := List.mem_of_getElem? hi
      rw [List.mem_replicate] at h2
      rw [h2.2] at h9
      exact absurd rfl h9
/-- a method's contract out of the walk of its body -/
theorem calls_of {y : MD} {As ls : List AV} {S : Shp} {M : Mem} {Q : Int → Shp → Mem → Prop} (hpl : plainName y.nm.cls = true) (hret : y.ret = none ∨ y.ret = some .int ∨ y.ret = some .boolean ∨ y.ret = some .long) (hlen : (sprd As).length ≤ y.maxL) (hls : ls0 y.maxL As = ls) (K : AWG y (fun _ _ _ => True) 0 0 0 ls [] S M Q) : CallsG y As S M Q := by
  intro l cs D B b hok hR
  refine Met.ofW (cc := y.code) (maxL := y.maxL) (ret := y.ret) hpl rfl ?_
  intro p e s m args below meth c s₁ B0 hml hv
  obtain ⟨rfl, hsz, hP, hE⟩ := hv
  have hts := atoms_spec (ws := wsM y) B0.pre
  have hx := B0.exec
  have hb := B0.bytes
  have hr := B0.returns
  have hlocks := B0.notSynchronized
  have hL := ls0_has (B := B) (b := b) hlen hok
  rw [lg_entry_eq]
  generalize (lg_sl (As.map (cvv B b)) ++ List.replicate (y.maxL - (lg_sl (As.map (cvv B b))).length) Slot.unset).toArray = la at hL ⊢
  rw [hls] at hL
  refine K cs D B b p l e _ s m _ below meth c _ s.heap [] la ⟨hx, hb, hml, findClass_of_methodNamed B0.named, fun w hw => hts w (List.mem_cons_of_mem _ hw), hE, ⟨Nat.le_refl _, Nat.le_refl _, Nat.le_refl _, Nat.le_refl _⟩, trivial, fun h => (name_of_methodNamed B0.named B0.method).1.trans h⟩ hR hP va_S.rf (by omega) (by omega) hL (fun v hv => by cases hv) ?_
  intro r S1 M1 H1 locs1 la1 pc1 k1 n1 hQ hok1 hR1 hP1 hS1 hz1 hk1 hn1 hl1 hd1
  subst hk1
  refine W_sz hP1 hS1 (by omega) hz1 fun hsz1 => ?_
  refine W.widen (k := y.mc) (n := y.ms) (Nat.le_refl _) hn1 ?_
  have hln : S1.length = S.length + y.mc := by omega
  rcases hret with h | h | h | h
  · have e1 : retI y = .return_ := by unfold retI; rw [h]
    have e2 : retS y r = [] := by unfold retS; rw [h]
    have e3 : r = 0 := by unfold okR at hok1; rw [h] at hok1; exact hok1
    subst e3
    rw [e1] at hd1
    rw [e2]
    refine W.vret hx hb (by rw [hr, h]) (fun t ht hW => ?_) hS1.2.2 hd1
    rw [QcM_v h]
    exact ⟨⟨(0, S1, M1), rfl, ⟨hQ, hR1, hln⟩, ⟨by rw [ht]; exact hsz1, by rw [ht]; exact hP1⟩⟩, hS1.F ht⟩
  · have e1 : retI y = .ireturn := by unfold retI; rw [h]
    have e2 : retS y r = [.int (Int32.ofInt r)] := by unfold retS; rw [h]
    have e3 : in32 r := by unfold okR at hok1; rw [h] at hok1; exact hok1
    rw [e1] at hd1
    rw [e2]
    refine W.iret hx hb (by rw [hr, h]) (fun t ht hW => ?_) hS1.2.2 hd1
    rw [QcM_i h (by decide)]
    exact ⟨⟨Int32.ofInt r, (r, S1, M1), rfl, ⟨rfl, e3, hQ, hR1, hln⟩, ⟨by rw [ht]; exact hsz1, by rw [ht]; exact hP1⟩⟩, hS1.F ht⟩
  · have e1 : retI y = .ireturn := by unfold retI; rw [h]
    have e2 : retS y r = [.int (Int32.ofInt r)] := by unfold retS; rw [h]
    have e3 : r = 0 ∨ r = 1 := by unfold okR at hok1; rw [h] at hok1; exact hok1
    have e4 : in32 r := by rcases e3 with rfl | rfl <;> decide
    rw [e1] at hd1
    rw [e2]
    refine W.zret (ty := .boolean) hx hb (by rw [hr, h]) (by rcases e3 with rfl | rfl <;> decide +kernel) (fun t ht hW => ?_) hS1.2.2 hd1
    rw [QcM_i h (by decide)]
    exact ⟨⟨Int32.ofInt r, (r, S1, M1), rfl, ⟨rfl, e4, hQ, hR1, hln⟩, ⟨by rw [ht]; exact hsz1, by rw [ht]; exact hP1⟩⟩, hS1.F ht⟩
  · have e1 : retI y = .lreturn := by unfold retI; rw [h]
    have e2 : retS y r = [.long (Int64.ofInt r)] := by unfold retS; rw [h]
    have e3 : in64 r := by unfold okR at hok1; rw [h] at hok1; exact hok1
    rw [e1] at hd1
    rw [e2]
    refine W.lret hx hb (by rw [hr, h]) (fun t ht hW => ?_) hS1.2.2 hd1
    rw [QcM_l h]
    exact ⟨⟨Int64.ofInt r, (r, S1, M1), rfl, ⟨rfl, e3, hQ, hR1, hln⟩, ⟨by rw [ht]; exact hsz1, by rw [ht]; exact hP1⟩⟩, hS1.F ht⟩
section AWO
variable {mt : MD} {Ex : State → Nat → Nat → Prop} {k n pc : Nat} {ls st : List AV} {S : Shp} {M : Mem} {Q : Int → Shp → Mem → Prop}
theorem AWG.mono {Q' : Int → Shp → Mem → Prop} (h : AWG mt Ex k n pc ls st S M Q) (hq : ∀ r S1 M1, Q r S1 M1 → Q' r S1 M1) : AWG mt Ex k n pc ls st S M Q' := by
  intro cs D B b p l e R s m args below meth c Qf H locs la C hR hP hS hB hz hL hst kr
  exact h cs D B b p l e R s m args below meth c Qf H locs la C hR hP hS hB hz hL hst (fun r S1 M1 H1 locs1 la1 pc1 k1 n1 hQ => kr r S1 M1 H1 locs1 la1 pc1 k1 n1 (hq r S1 M1 hQ))
theorem a_obj {idx : Nat} {x : Int} (hd : decode mt.code pc = .ok (.invokespecial idx, 3)) (hl : Cond.methodLink mt.nm.cls idx Lib.objectInit ∈ GT) (hi : Cond.instanceMethod Lib.objectInit ∈ GT) (hc : Cond.code Lib.objectInit ⟨#[0xb1]⟩ 1 none ∈ GT) (hx : 0 ≤ x) (hfr : 1 ≤ mt.fr) (hlo : 20 ≤ mt.lo) (hst4 : st.length ≤ 4) (K : AWG mt Ex k n (pc + 3) ls st S M Q) : AWG mt Ex k n pc ls ((2, x) :: st) S M Q := by
  intro cs D B b p l e R s m args below meth c Qf H locs la C hR hP hS hB hz hL hst kr
  have hk := K cs D B b p l e R s m args below meth c Qf H locs la C hR hP hS hB hz hL (okt hst) kr
  rw [List.map_cons, cv2 hx]
  obtain ⟨hr1, hr2, hr3, hr4⟩ := C.2.2.2.2.2.2.1
  have h8 := rest8 (B := B) (b := b) hst4
  refine W.objInit C.1 C.2.1 C.2.2.2.1 (C.2.2.2.2.1 _ hl) (C.2.2.2.2.1 _ hi) (C.2.2.2.2.1 _ hc) rfl (by rw [C.2.2.1]; exact hL.1) rfl hd (by omega) ?_ hk
  show 2 * 0 + _ + 12 ≤ _
  omega
end AWO
