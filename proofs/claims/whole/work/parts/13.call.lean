/-- what a method answers -/
def BW (cs : CI3) (D : va_G) (B : Nat) (u : Int × Shp × Mem) (t : State) : Prop := t.heap.size = B + u.2.1.length ∧ va_P D vwCl (wld cs B u.2.1 u.2.2) t.heap
def QcM (y : MD) (cs : CI3) (D : va_G) (B : Nat) (S : Shp) (Q : Int → Shp → Mem → Prop) : Array Value → State → Outcome → State → Prop := match y.ret with
  | none => va_Qv (fun u : Int × Shp × Mem => Q 0 u.2.1 u.2.2 ∧ Rng u.2.1 u.2.2 ∧ u.2.1.length = S.length + y.mc) (BW cs D B) (fun q => B ≤ q)
  | some .long => va_Ql (fun r (u : Int × Shp × Mem) => r = Int64.ofInt u.1 ∧ in64 u.1 ∧ Q u.1 u.2.1 u.2.2 ∧ Rng u.2.1 u.2.2 ∧ u.2.1.length = S.length + y.mc) (BW cs D B) (fun q => B ≤ q)
  | some _ => va_Qi (fun r (u : Int × Shp × Mem) => r = Int32.ofInt u.1 ∧ in32 u.1 ∧ Q u.1 u.2.1 u.2.2 ∧ Rng u.2.1 u.2.2 ∧ u.2.1.length = S.length + y.mc) (BW cs D B) (fun q => B ≤ q)
theorem QcM_v {y : MD} {cs : CI3} {D : va_G} {B : Nat} {S : Shp} {Q : Int → Shp → Mem → Prop} (h : y.ret = none) : QcM y cs D B S Q = va_Qv (fun u : Int × Shp × Mem => Q 0 u.2.1 u.2.2 ∧ Rng u.2.1 u.2.2 ∧ u.2.1.length = S.length + y.mc) (BW cs D B) (fun q => B ≤ q) := by
  unfold QcM
  rw [h]
theorem QcM_l {y : MD} {cs : CI3} {D : va_G} {B : Nat} {S : Shp} {Q : Int → Shp → Mem → Prop} (h : y.ret = some .long) : QcM y cs D B S Q = va_Ql (fun r (u : Int × Shp × Mem) => r = Int64.ofInt u.1 ∧ in64 u.1 ∧ Q u.1 u.2.1 u.2.2 ∧ Rng u.2.1 u.2.2 ∧ u.2.1.length = S.length + y.mc) (BW cs D B) (fun q => B ≤ q) := by
  unfold QcM
  rw [h]
theorem QcM_i {y : MD} {cs : CI3} {D : va_G} {B : Nat} {S : Shp} {Q : Int → Shp → Mem → Prop} {ty : FieldType} (h : y.ret = some ty) (hl : ty ≠ .long) : QcM y cs D B S Q = va_Qi (fun r (u : Int × Shp × Mem) => r = Int32.ofInt u.1 ∧ in32 u.1 ∧ Q u.1 u.2.1 u.2.2 ∧ Rng u.2.1 u.2.2 ∧ u.2.1.length = S.length + y.mc) (BW cs D B) (fun q => B ≤ q) := by
  unfold QcM
  rw [h]
  cases ty <;> first | rfl | exact absurd rfl hl
/-- the method's contract, at these arguments and this memory -/
def CallsG (y : MD) (As : List AV) (S : Shp) (M : Mem) (Q : Int → Shp → Mem → Prop) : Prop :=
  ∀ (l : Launch) (cs : CI3) (D : va_G) (B b : Nat), (∀ v ∈ As, okV v) → Rng S M →
    Met l y.nm (wsM y) y.room (va_Pc (As.map (cvv B b)) (fun U => U.heap.size = B + S.length ∧ va_P D vwCl (wld cs B S M) U.heap ∧ EnvT cs D U)) (QcM y cs D B S Q) y.mc y.ms (fun q => B ≤ q)
def retV (y : MD) (r : Int) : List AV := match y.ret with
  | none => []
  | some .long => [(1, r)]
  | some _ => [(0, r)]
theorem retV_i {y : MD} {r : Int} {ty : FieldType} (h : y.ret = some ty) (hl : ty ≠ .long) : retV y r = [(0, r)] := by
  unfold retV
  rw [h]
  cases ty <;> first | rfl | exact absurd rfl hl
theorem retV_v {y : MD} {r : Int} (h : y.ret = none) : retV y r = [] := by unfold retV; rw [h]
theorem retV_l {y : MD} {r : Int} (h : y.ret = some .long) : retV y r = [(1, r)] := by unfold retV; rw [h]
def MLk (own : String) (idx : Nat) (y : MD) (n : Nat) : Prop := Cond.methodLink own idx y.nm ∈ GT ∧ Cond.initialized y.nm.cls ∈ GT ∧ Cond.code y.nm y.code y.maxL y.ret ∈ GT ∧ (y.nm.cls ≠ "java/lang/invoke/MethodHandle" ∧ y.nm.cls ≠ "java/lang/invoke/VarHandle") ∧ (parseMethodDescriptor y.nm.desc).map (fun d => d.parameters.length) = some n
def MLV (own : String) (idx : Nat) (y : MD) (n : Nat) : Prop := MLk own idx y n ∧ Cond.instanceMethod y.nm ∈ GT ∧ Cond.selects y.nm.cls y.nm y.nm ∈ GT
def MLS (own : String) (idx : Nat) (y : MD) (n : Nat) : Prop := MLk own idx y n ∧ Cond.static y.nm ∈ GT
def MLI (own : String) (idx : Nat) (y : MD) (n : Nat) : Prop := MLk own idx y n ∧ y.nm.name = "<init>" ∧ Cond.instanceMethod y.nm ∈ GT ∧ y.ret = none
/-- the callee's room fits -/
def Fit (mt y : MD) (k n : Nat) : Prop := y.fr + 1 ≤ mt.fr ∧ 8 + (y.maxL + 11) + y.lo ≤ mt.lo ∧ k + y.mc ≤ mt.mc ∧ n + y.ms ≤ mt.ms
theorem good_ws {y : MD} (h : Cond.code y.nm y.code y.maxL y.ret ∈ GT) : GoodIn GT (wsM y) := by
  have hg : ∀ w ∈ GT, goodWord w = true := fun w hw => (List.mem_filter.mp hw).2
  intro w hw
  rcases List.mem_cons.mp hw with rfl | hw
  · exact ⟨h, good_of_word (hg _ h)⟩
  · exact ⟨hw, good_of_word (hg _ hw)⟩
theorem ml_cb {R : Room} {s : State} {args : Array Value} {own : String} {idx n : Nat} {y : MD} (hm : MLk own idx y n) (hts : ∀ w ∈ GT, w.before args s = true) (hfr : y.fr + 1 ≤ R.frames) (hlo : 8 + (y.maxL + 11) + y.lo ≤ R.locals) : CallB R s args own idx y.nm y.code y.maxL y.ret (wsM y) y.room y.mc y.ms n :=
  callB_of n hts (good_ws hm.2.2.1) rfl rfl rfl (hts _ hm.2.1) (hts _ hm.1) ⟨hm.2.2.2.1.1, hm.2.2.2.1.2, hm.2.2.2.2⟩ ⟨hfr, hlo⟩
theorem wld_size {cs : CI3} {D : va_G} {B : Nat} {S : Shp} {M : Mem} {H : Heap} (hP : va_P D vwCl (wld cs B S M) H) (hB : B ≤ H.size) : B + S.length ≤ H.size := by
  rcases Nat.eq_zero_or_pos S.length with h | h
  · omega
  · have h1 : S.length - 1 < S.length := by omega
    have h2 := (hP (S.length - 1) _ (wld_get (List.getElem?_eq_getElem h1))).lt
    have h3 : B + (S.length - 1) < H.size := h2
    omega
theorem W_sz {cs : CI3} {D : va_G} {B : Nat} {S : Shp} {M : Mem} {p : Program} {l : Launch} {e : Env} {R : Room} {s : State} {m : MethodId} {args : Array Value} {below : List Frame} {meth : Method} {c : Code} {H : Heap} {locs : List Loc} {k n : Nat} {Qf : State → Prop} {g : JFrame} (hP : va_P D vwCl (wld cs B S M) H) (hS : va_S (fun q => B ≤ q) s.heap H locs) (hB : B ≤ s.heap.size) (hz : s.heap.size + k = B + S.length)
    (h : H.size = B + S.length → W p l e R s m args below meth c H locs k n Qf g) : W p l e R s m args below meth c H locs k n Qf g := fun T hT X => by
  have h1 := X.heapSize
  rw [hT] at h1
  have h2 := wld_size hP (Nat.le_trans hB hS.1)
  exact h (by omega) T hT X
theorem blind_of (cs : CI3) (D : va_G) (B : Nat) (S : Shp) (M : Mem) (av : List Value) : FrameBlind (va_Pc av (fun U => U.heap.size = B + S.length ∧ va_P D vwCl (wld cs B S M) U.heap ∧ EnvT cs D U)) := fun a U g mk q =>
  ⟨q.1, q.2.1, q.2.2.1, EnvT.warm (s := U) (U := U.calling g mk a) (State.WarmedH.refl U) q.2.2.2⟩
theorem rest8 {B b : Nat} {st : List AV} (h : st.length ≤ 4) : ((st.map (cvv B b)).map fun v => v.category).sum ≤ 8 := by
  have h1 : ∀ v : Value, v.category ≤ 2 := fun v => by cases v <;> simp [Value.category]
  match st, h with
  | [], _ => exact Nat.zero_le _
  | [a], _ => simp only [List.map_cons, List.map_nil, List.sum_cons, List.sum_nil]; have := h1 (cvv B b a); omega
  | [a, d], _ => simp only [List.map_cons, List.map_nil, List.sum_cons, List.sum_nil]; have := h1 (cvv B b a); have := h1 (cvv B b d); omega
  | [a, d, f], _ => simp only [List.map_cons, List.map_nil, List.sum_cons, List.sum_nil]; have := h1 (cvv B b a); have := h1 (cvv B b d); have := h1 (cvv B b f); omega
  | [a, d, f, g], _ => simp only [List.map_cons, List.map_nil, List.sum_cons, List.sum_nil]; have := h1 (cvv B b a); have := h1 (cvv B b d); have := h1 (cvv B b f); have := h1 (cvv B b g); omega
  | _ :: _ :: _ :: _ :: _ :: _, h => exact absurd h (by simp)
section AWC
variable {mt : MD} {Ex : State → Nat → Nat → Prop} {k n pc : Nat} {ls st : List AV} {S : Shp} {M : Mem} {Q : Int → Shp → Mem → Prop}
/-- behind a call, whatever kind of call it was -/
theorem call_on {y : MD} {Q1 : Int → Shp → Mem → Prop} {cs : CI3} {D : va_G} {B b : Nat} {p : Program} {l : Launch} {e : Env} {R : Room} {s : State} {m : MethodId} {args : Array Value} {below : List Frame} {meth : Method} {c : Code} {Qf : State → Prop} {H : Heap} {locs : List Loc} {la : Array Slot} {st0 : List Value} {av : Array Value}
    (K : ∀ r S1 M1, Q1 r S1 M1 → AWG mt Ex (k + y.mc) (n + y.ms) (pc + 3) ls (retV y r ++ st) S1 M1 Q)
    (C : Cx mt R Ex cs D B b p s m args meth c) (hP : va_P D vwCl (wld cs B S M) H) (hS : va_S (fun q => B ≤ q) s.heap H locs) (hB : B ≤ s.heap.size) (hz : s.heap.size + k = B + S.length) (hL : LsR B b mt.maxL ls la) (hst : ∀ v ∈ st, okV v)
    (kr : ∀ (r : Int) (S1 : Shp) (M1 : Mem) (H1 : Heap) (locs1 : List Loc) (la1 : Array Slot) (pc1 k1 n1 : Nat), Q r S1 M1 → okR mt r → Rng S1 M1 → va_P D vwCl (wld cs B S1 M1) H1 → va_S (fun q => B ≤ q) s.heap H1 locs1 → s.heap.size + k1 = B + S1.length → k1 = mt.mc → n1 ≤ mt.ms → la1.size = mt.maxL → decode mt.code pc1 = .ok (retI mt, 1) →
      W p l e R s m args below meth c H1 locs1 k1 n1 Qf (F0 m pc1 la1 (retS mt r)))
    (hr : va_Run p l e R s m args below meth c H locs k n y.mc y.ms (F0 m pc la st0) (st.map (cvv B b)) (QcM y cs D B S Q1 av) (fun q => B ≤ q)) :
    W p l e R s m args below meth c H locs k n Qf (F0 m pc la st0) := by
  have hK := K
  rcases hret : y.ret with _ | ty
  · rw [QcM_v hret] at hr
    refine va_callv hr hS (fun q _ h => h) (fun q h => h) (fun u t H1 locs1 ht hvm hq hb hle hfr hS1 => ?_)
    obtain ⟨hq1, hR1, hln⟩ := hq
    obtain ⟨hsz, hP1⟩ := hb
    have hk2 := hK 0 u.2.1 u.2.2 hq1
    rw [retV_v hret] at hk2
    exact hk2 cs D B b p l e R s m args below meth c Qf H1 locs1 la C hR1 (ht ▸ hP1) hS1 hB (by omega) hL hst kr
  · by_cases hlg : ty = .long
    · subst hlg
      rw [QcM_l hret] at hr
      refine va_calll hr hS (fun q _ h => h) (fun q h => h) (fun r u t H1 locs1 ht hvm hq hb hle hfr hS1 => ?_)
      obtain ⟨rfl, hr1, hq1, hR1, hln⟩ := hq
      obtain ⟨hsz, hP1⟩ := hb
      have hk2 := hK u.1 u.2.1 u.2.2 hq1
      rw [retV_l hret] at hk2
      exact hk2 cs D B b p l e R s m args below meth c Qf H1 locs1 la C hR1 (ht ▸ hP1) hS1 hB (by omega) hL (okc (ok1 hr1) hst) kr
    · rw [QcM_i hret hlg] at hr
      refine va_calli hr hS (fun q _ h => h) (fun q h => h) (fun r u t H1 locs1 ht hvm hq hb hle hfr hS1 => ?_)
      obtain ⟨rfl, hr1, hq1, hR1, hln⟩ := hq
      obtain ⟨hsz, hP1⟩ := hb
      have hk2 := hK u.1 u.2.1 u.2.2 hq1
      rw [retV_i hret hlg] at hk2
      exact hk2 cs D B b p l e R s m args below meth c Qf H1 locs1 la C hR1 (ht ▸ hP1) hS1 hB (by omega) hL (okc (ok0 hr1) hst) kr
theorem okApp {As st : List AV} (h : ∀ v ∈ As.reverse ++ st, okV v) : (∀ v ∈ As, okV v) ∧ ∀ v ∈ st, okV v := ⟨fun v hv => h v (List.mem_append_left _ (List.mem_reverse.mpr hv)), fun v hv => h v (List.mem_append_right _ hv)⟩
theorem a_callV {idx ci N : Nat} {T : u_T} {y : MD} {As st0 : List AV} {x : Int} {rs : List Int} {Q1 : Int → Shp → Mem → Prop} (hd : decode mt.code pc = .ok (.invokevirtual idx, 3)) (hm : MLV mt.nm.cls idx y As.length) (hx : 0 ≤ x) (hs : S[x.toNat]? = some (ci + 3, N, rs)) (hcl : vwCl[ci]? = some (y.nm.cls, T, N)) (hf : Fit mt y k n) (hst4 : st.length ≤ 4) (hc : CallsG y ((2, x) :: As) S M Q1) (hst0 : As.reverse ++ (2, x) :: st = st0)
    (K : ∀ r S1 M1, Q1 r S1 M1 → AWG mt Ex (k + y.mc) (n + y.ms) (pc + 3) ls (retV y r ++ st) S1 M1 Q) : AWG mt Ex k n pc ls st0 S M Q := by
  intro cs D B b p l e R s m args below meth c Qf H locs la C hR hP hS hB hz hL hst kr
  subst hst0
  obtain ⟨hokA, hok2⟩ := okApp hst
  refine W_sz hP hS hB hz fun hsz => ?_
  refine call_on (y := y) K C hP hS hB hz hL (okt hok2) kr (av := (Value.ref (B + x.toNat) :: As.map (cvv B b)).toArray) ?_
  have he : (wld cs B S M)[x.toNat]? = some (B + x.toNat, .inr (ci, (List.range N).map (fldV B M x.toNat ci rs))) := wld_get hs
  have hM := hc l cs D B b (okc (okh hok2) hokA) hR
  rw [List.map_cons, cv2 hx] at hM
  obtain ⟨hfr, hlo, hcl1, hcl2⟩ := hf
  obtain ⟨hr1, hr2, hr3, hr4⟩ := C.2.2.2.2.2.2.1
  refine va_runV (As := As.map (cvv B b)) (C := y.nm.cls) ⟨C.1, C.2.1, C.2.2.1, C.2.2.2.1, C.2.2.2.2.1⟩ hM ⟨ml_cb hm.1 C.2.2.2.2.1 (by omega) (by omega), C.2.2.2.2.1 _ hm.2.1, C.2.2.2.2.1 _ hm.2.2⟩ ⟨blind_of _ _ _ _ _ _, va_recv C.2.2.2.2.2.1.1 hP hcl he, fun U hU hW => ⟨rfl, by rw [hU]; exact hsz, by rw [hU]; exact hP, EnvT.warm hW C.2.2.2.2.2.1⟩⟩ rfl (by simp) hL.1 ?_ (lv_room (rest8 hst4)) hd ⟨by omega, by omega⟩
  show (As.reverse ++ (2, x) :: st).map (cvv B b) = _
  rw [List.map_append, List.map_reverse, List.map_cons, cv2 hx]
theorem a_callS {idx : Nat} {y : MD} {As st0 : List AV} {Q1 : Int → Shp → Mem → Prop} (hd : decode mt.code pc = .ok (.invokestatic idx, 3)) (hm : MLS mt.nm.cls idx y As.length) (hf : Fit mt y k n) (hst4 : st.length ≤ 4) (hc : CallsG y As S M Q1) (hst0 : As.reverse ++ st = st0)
    (K : ∀ r S1 M1, Q1 r S1 M1 → AWG mt Ex (k + y.mc) (n + y.ms) (pc + 3) ls (retV y r ++ st) S1 M1 Q) : AWG mt Ex k n pc ls st0 S M Q := by
  intro cs D B b p l e R s m args below meth c Qf H locs la C hR hP hS hB hz hL hst kr
  subst hst0
  obtain ⟨hokA, hok2⟩ := okApp hst
  refine W_sz hP hS hB hz fun hsz => ?_
  refine call_on (y := y) K C hP hS hB hz hL hok2 kr (av := (As.map (cvv B b)).toArray) ?_
  have hM := hc l cs D B b hokA hR
  obtain ⟨hfr, hlo, hcl1, hcl2⟩ := hf
  obtain ⟨hr1, hr2, hr3, hr4⟩ := C.2.2.2.2.2.2.1
  refine va_runS (As := As.map (cvv B b)) ⟨C.1, C.2.1, C.2.2.1, C.2.2.2.1, C.2.2.2.2.1⟩ hM ⟨ml_cb hm.1 C.2.2.2.2.1 (by omega) (by omega), C.2.2.2.2.1 _ hm.2⟩ ⟨blind_of _ _ _ _ _ _, fun U hU hW => ⟨rfl, by rw [hU]; exact hsz, by rw [hU]; exact hP, EnvT.warm hW C.2.2.2.2.2.1⟩⟩ rfl (by simp) hL.1 ?_ (lv_room (rest8 hst4)) hd ⟨by omega, by omega⟩
  show (As.reverse ++ st).map (cvv B b) = _
  rw [List.map_append, List.map_reverse]
theorem a_callI {idx : Nat} {y : MD} {As st0 : List AV} {x : Int} {Q1 : Int → Shp → Mem → Prop} (hd : decode mt.code pc = .ok (.invokespecial idx, 3)) (hm : MLI mt.nm.cls idx y As.length) (hx : 0 ≤ x) (hf : Fit mt y k n) (hst4 : st.length ≤ 4) (hc : CallsG y ((2, x) :: As) S M Q1) (hst0 : As.reverse ++ (2, x) :: st = st0)
    (K : ∀ r S1 M1, Q1 r S1 M1 → AWG mt Ex (k + y.mc) (n + y.ms) (pc + 3) ls (retV y r ++ st) S1 M1 Q) : AWG mt Ex k n pc ls st0 S M Q := by
  intro cs D B b p l e R s m args below meth c Qf H locs la C hR hP hS hB hz hL hst kr
  subst hst0
  obtain ⟨hokA, hok2⟩ := okApp hst
  refine W_sz hP hS hB hz fun hsz => ?_
  refine call_on (y := y) K C hP hS hB hz hL (okt hok2) kr (av := (Value.ref (B + x.toNat) :: As.map (cvv B b)).toArray) ?_
  have hM := hc l cs D B b (okc (okh hok2) hokA) hR
  rw [List.map_cons, cv2 hx] at hM
  obtain ⟨hfr, hlo, hcl1, hcl2⟩ := hf
  obtain ⟨hr1, hr2, hr3, hr4⟩ := C.2.2.2.2.2.2.1
  have cb := ml_cb (R := R) (args := args) (s := s) hm.1 C.2.2.2.2.1 (by omega) (by omega)
  rw [hm.2.2.2] at cb
  refine va_runI (As := As.map (cvv B b)) ⟨C.1, C.2.1, C.2.2.1, C.2.2.2.1, C.2.2.2.2.1⟩ hM ⟨cb, hm.2.1, C.2.2.2.2.1 _ hm.2.2.1⟩ ⟨blind_of _ _ _ _ _ _, fun U hU hW => ⟨rfl, by rw [hU]; exact hsz, by rw [hU]; exact hP, EnvT.warm hW C.2.2.2.2.2.1⟩⟩ rfl (by simp) hL.1 ?_ (lv_room (rest8 hst4)) hd ⟨by omega, by omega⟩
  show (As.reverse ++ (2, x) :: st).map (cvv B b) = _
  rw [List.map_append, List.map_reverse, List.map_cons, cv2 hx]
end AWC
