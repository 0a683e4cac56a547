/-! THE MIDDLE LAYER: numbers for values, a memory of numbers, what a step does to them. Rows of it stand on the kit's rows, a row an instruction. -/
abbrev AV : Type := Nat × Int
abbrev Mem : Type := Int → Int → Int
abbrev Shp : Type := List (Nat × Nat × List Int)
abbrev CI3 : Type := ClassId × ClassId × ClassId
/-- a method: name, code, locals, answer, frames, words, cells, slots -/
abbrev MD : Type := MethodName × ByteArray × Nat × Option FieldType × Nat × Nat × Nat × Nat
abbrev MD.nm (m : MD) : MethodName := m.1
abbrev MD.code (m : MD) : ByteArray := m.2.1
abbrev MD.maxL (m : MD) : Nat := m.2.2.1
abbrev MD.ret (m : MD) : Option FieldType := m.2.2.2.1
abbrev MD.fr (m : MD) : Nat := m.2.2.2.2.1
abbrev MD.lo (m : MD) : Nat := m.2.2.2.2.2.1
abbrev MD.mc (m : MD) : Nat := m.2.2.2.2.2.2.1
abbrev MD.ms (m : MD) : Nat := m.2.2.2.2.2.2.2
abbrev MD.room (m : MD) : Room := { frames := m.fr, cells := m.mc, slots := m.ms, locals := m.lo }
def up2 (M : Mem) (a i v : Int) : Mem := fun b j => if b = a ∧ j = i then v else M b j
def rv (B : Nat) (x : Int) : Value := if x < 0 then .null else .ref (B + x.toNat)
def cvv (B b : Nat) (v : AV) : Value := match v.1 with
  | 0 => .int (Int32.ofInt v.2)
  | 1 => .long (Int64.ofInt v.2)
  | 2 => rv B v.2
  | _ => .ref b
abbrev in32 (x : Int) : Prop := -2147483648 ≤ x ∧ x ≤ 2147483647
abbrev in64 (x : Int) : Prop := -9223372036854775808 ≤ x ∧ x ≤ 9223372036854775807
def okV (v : AV) : Prop := (v.1 = 0 → in32 v.2) ∧ (v.1 = 1 → in64 v.2)
def Rng (S : Shp) (M : Mem) : Prop := (∀ a i, in32 (M a i)) ∧ ∀ a i, (S.length : Int) ≤ a → M a i = 0
def rv3 (B : Nat) (x : Int) : Value := if x ≤ 0 then .null else .ref (B + x.toNat)
def fldV (B : Nat) (M : Mem) (k ci : Nat) (rs : List Int) (j : Nat) : Value := match fk ci j with
  | 2 => rv B (rs.getD j (-1))
  | 3 => rv3 B (M k j)
  | _ => .int (Int32.ofInt (M k j))
def celE (cs : CI3) (B : Nat) (M : Mem) (k : Nat) (e : Nat × Nat × List Int) : va_E := match e.1 with
  | 0 => .inl (cs.1, e.2.1, .inl (fun j => Int32.ofInt (M k j)))
  | 1 => .inl (cs.2.1, e.2.1, .inl (fun j => Int32.ofInt (M k j)))
  | 2 => .inl (cs.2.2, e.2.1, .inr (.inr (.inr (.inr (fun j => if j < e.2.1 then some (B + k + 1 + j) else none)))))
  | ci + 3 => .inr (ci, (List.range e.2.1).map (fldV B M k ci e.2.2))
def wld (cs : CI3) (B : Nat) (S : Shp) (M : Mem) : va_W := S.mapIdx (fun k e => (B + k, celE cs B M k e))
def tyl (cs : CI3) : List (ClassId × FieldType) := [(cs.1, .int), (cs.2.1, .boolean), (cs.2.2, .array .int)]
def nestW : Cond → Bool
  | .fieldLinkNest _ _ _ _ _ _ => true
  | .methodLinkNest _ _ _ _ => true
  | _ => false
/-- the tables' words that stay at a call -/
def GT : List Cond := lw_tbl.filter goodWord
def wsM (m : MD) : List Cond := .code m.nm m.code m.maxL m.ret :: GT
def AO (U : State) : Prop := (Cond.arrayOver (.array .int)).before #[] U = true
def EnvT (cs : CI3) (D : va_G) (U : State) : Prop := va_K D vwCl (tyl cs) U ∧ (∀ w ∈ lw_tbl, nestW w = true → va_Nw w U) ∧ AO U
theorem AO.warm {s U : State} (hW : s.WarmedH U.vm) (h : AO s) : AO U := by
  have e := Cond.arrayOver_setVmC (args := #[]) hW.alike (.array .int)
  have h1 : (Cond.arrayOver (.array .int)).before #[] (s.setVm U.vm) = true := by rw [e]; exact h
  exact h1
theorem EnvT.warm {cs : CI3} {D : va_G} {s U : State} (hW : s.WarmedH U.vm) (h : EnvT cs D s) : EnvT cs D U := by
  refine ⟨va_K.moved hW.alike h.1, fun w hw hn => ?_, AO.warm hW h.2.2⟩
  have h1 := h.2.1 w hw hn
  cases w with
  | fieldLinkNest a i b n d h => exact va_Nw.warmF hW h1
  | methodLinkNest a i x h => exact va_Nw.warmM hW h1
  | _ => exact absurd hn (by simp [nestW])
theorem wld_get {cs : CI3} {B : Nat} {S : Shp} {M : Mem} {k : Nat} {e : Nat × Nat × List Int} (h : S[k]? = some e) : (wld cs B S M)[k]? = some (B + k, celE cs B M k e) := by
  simp [wld, h]
theorem wld_D (cs : CI3) (B : Nat) (S : Shp) (M : Mem) : va_D (fun q => B ≤ q) (wld cs B S M) := by
  refine ⟨fun i j p q hi hj e => ?_, fun k q hk => ?_⟩
  · simp only [wld, List.getElem?_mapIdx, Option.map_eq_some_iff] at hi hj
    obtain ⟨a, -, rfl⟩ := hi
    obtain ⟨b, -, rfl⟩ := hj
    have : B + i = B + j := e
    omega
  · simp only [wld, List.getElem?_mapIdx, Option.map_eq_some_iff] at hk
    obtain ⟨a, -, rfl⟩ := hk
    exact Nat.le_add_right _ _
theorem wld_set {cs : CI3} {B : Nat} {S S' : Shp} {M M' : Mem} {k : Nat} {e' : Nat × Nat × List Int} (hS : S' = S.set k e') (hlt : k < S.length) (ho : ∀ j, j ≠ k → ∀ e, celE cs B M' j e = celE cs B M j e) :
    (wld cs B S M).set k (B + k, celE cs B M' k e') = wld cs B S' M' := by
  subst hS
  refine List.ext_getElem? fun j => ?_
  rw [List.getElem?_set]
  simp only [wld, List.getElem?_mapIdx, List.length_mapIdx]
  by_cases h : k = j
  · subst h
    simp [hlt]
  · rw [if_neg h, List.getElem?_set_ne h]
    cases S[j]? with
    | none => rfl
    | some e => simp only [Option.map_some]; rw [ho j (Ne.symm h) e]
theorem up2_ne {M : Mem} {a i v b j : Int} (h : b ≠ a) : up2 M a i v b j = M b j := by simp [up2, h]
theorem celE_up {cs : CI3} {B : Nat} {M : Mem} {a : Int} {i v : Int} {k : Nat} (h : (k : Int) ≠ a) (e : Nat × Nat × List Int) : celE cs B (up2 M a i v) k e = celE cs B M k e := by
  unfold celE
  have h1 : ∀ j : Int, up2 M a i v k j = M k j := fun j => up2_ne h
  obtain ⟨t, n, rs⟩ := e
  match t with
  | 0 => simp only [h1]
  | 1 => simp only [h1]
  | 2 => rfl
  | ci + 3 =>
    simp only
    congr 1
    congr 1
    refine List.map_congr_left fun j _ => ?_
    unfold fldV
    simp only [h1]
theorem Rng.up {S : Shp} {M : Mem} (h : Rng S M) {a i v : Int} (ha : a < S.length) (hv : in32 v) : Rng S (up2 M a i v) := ⟨fun b j => by
  unfold up2
  split
  · exact hv
  · exact h.1 b j, fun b j hb => by
  unfold up2
  rw [if_neg (fun q => by have := q.1; omega)]
  exact h.2 b j hb⟩
theorem Rng.len {S S' : Shp} {M : Mem} (h : Rng S M) (e : S'.length = S.length) : Rng S' M := ⟨h.1, fun b j hb => h.2 b j (by rw [← e]; exact hb)⟩
/-- the locals -/
def LsR (B b nL : Nat) (ls : List AV) (la : Array Slot) : Prop := la.size = nL ∧ ls.length = nL ∧ lv_wf la ∧ ∀ (i : Nat) (v : AV), ls[i]? = some v → v.1 ≠ 9 → la[i]? = some (.val (cvv B b v)) ∧ okV v
def retI (m : MD) : Instr := match m.ret with
  | none => .return_
  | some .long => .lreturn
  | some _ => .ireturn
def okR (m : MD) (r : Int) : Prop := match m.ret with
  | none => r = 0
  | some .long => in64 r
  | some .boolean => r = 0 ∨ r = 1
  | some .int => in32 r
  | _ => False
def retS (m : MD) (r : Int) : List Value := match m.ret with
  | none => []
  | some .long => [.long (Int64.ofInt r)]
  | some _ => [.int (Int32.ofInt r)]
def Cx (mt : MD) (R : Room) (Ex : State → Nat → Nat → Prop) (cs : CI3) (D : va_G) (B b : Nat) (p : Program) (s : State) (m : MethodId) (args : Array Value) (meth : Method) (c : Code) : Prop :=
  p.tables.exec = Jvm.exec ∧ c.code = mt.code ∧ c.maxLocals = mt.maxL ∧ s.vm.findClass mt.nm.cls = some m.cls ∧ (∀ w ∈ GT, w.before args s = true) ∧ EnvT cs D s ∧ (mt.fr ≤ R.frames ∧ mt.lo ≤ R.locals ∧ mt.mc ≤ R.cells ∧ mt.ms ≤ R.slots) ∧ Ex s B b ∧ (mt.nm.name = "<init>" → meth.name = "<init>")
/-- from here the method ends, with an answer and a memory of which Q is true -/
def AWG (mt : MD) (Ex : State → Nat → Nat → Prop) (k n : Nat) (pc : Nat) (ls st : List AV) (S : Shp) (M : Mem) (Q : Int → Shp → Mem → Prop) : Prop :=
  ∀ (cs : CI3) (D : va_G) (B b : Nat) (p : Program) (l : Launch) (e : Env) (R : Room) (s : State) (m : MethodId) (args : Array Value) (below : List Frame) (meth : Method) (c : Code) (Qf : State → Prop) (H : Heap) (locs : List Loc) (la : Array Slot),
    Cx mt R Ex cs D B b p s m args meth c → Rng S M → va_P D vwCl (wld cs B S M) H → va_S (fun q => B ≤ q) s.heap H locs → B ≤ s.heap.size → s.heap.size + k = B + S.length → LsR B b mt.maxL ls la → (∀ v ∈ st, okV v) →
    (∀ (r : Int) (S1 : Shp) (M1 : Mem) (H1 : Heap) (locs1 : List Loc) (la1 : Array Slot) (pc1 k1 n1 : Nat), Q r S1 M1 → okR mt r → Rng S1 M1 → va_P D vwCl (wld cs B S1 M1) H1 → va_S (fun q => B ≤ q) s.heap H1 locs1 → s.heap.size + k1 = B + S1.length → k1 = mt.mc → n1 ≤ mt.ms → la1.size = mt.maxL → decode mt.code pc1 = .ok (retI mt, 1) →
      W p l e R s m args below meth c H1 locs1 k1 n1 Qf (F0 m pc1 la1 (retS mt r))) →
    W p l e R s m args below meth c H locs k n Qf (F0 m pc la (st.map (cvv B b)))

theorem rv_pos {B : Nat} {x : Int} (h : 0 ≤ x) : rv B x = .ref (B + x.toNat) := if_neg (by omega)
theorem cv2 {B b : Nat} {x : Int} (h : 0 ≤ x) : cvv B b (2, x) = .ref (B + x.toNat) := rv_pos h
theorem cat_cvv (B b : Nat) (v : AV) (h : v.1 ≠ 1) : (cvv B b v).category = 1 := by
  obtain ⟨t, x⟩ := v
  match t, h with
  | 0, _ => rfl
  | 1, h => exact absurd rfl h
  | 2, _ => show (rv B x).category = 1; unfold rv; split <;> rfl
  | t + 3, _ => rfl
theorem n09 : (0 : Nat) ≠ 9 := by decide
theorem n19 : (1 : Nat) ≠ 9 := by decide
theorem n29 : (2 : Nat) ≠ 9 := by decide
theorem n39 : (3 : Nat) ≠ 9 := by decide
theorem ok0 {x : Int} (h : in32 x) : okV (0, x) := ⟨fun _ => h, fun e => by cases e⟩
theorem ok1 {x : Int} (h : in64 x) : okV (1, x) := ⟨fun e => by (cases e), fun _ => h⟩
theorem ok2 (x : Int) : okV (2, x) := ⟨fun e => by (cases e), fun e => by cases e⟩
theorem ok3 (x : Int) : okV (3, x) := ⟨fun e => by (cases e), fun e => by cases e⟩
theorem okc {v : AV} {st : List AV} (h : okV v) (hs : ∀ w ∈ st, okV w) : ∀ w ∈ v :: st, okV w := fun w hw => by
  rcases List.mem_cons.mp hw with rfl | q
  · exact h
  · exact hs w q
theorem okt {v : AV} {st : List AV} (hs : ∀ w ∈ v :: st, okV w) : ∀ w ∈ st, okV w := fun w hw => hs w (List.mem_cons_of_mem _ hw)
theorem okh {v : AV} {st : List AV} (hs : ∀ w ∈ v :: st, okV w) : okV v := hs v List.mem_cons_self
-- numbers
theorem i32T {x : Int} (h : in32 x) : (Int32.ofInt x).toInt = x := by
  rw [Int32.toInt_ofInt]
  obtain ⟨h1, h2⟩ := h
  simp only [Int.bmod, Int32.size]
  omega
theorem i64T {x : Int} (h : in64 x) : (Int64.ofInt x).toInt = x := by
  rw [Int64.toInt_ofInt]
  obtain ⟨h1, h2⟩ := h
  simp only [Int.bmod, Int64.size]
  omega
theorem i32of (x : Int32) : Int32.ofInt x.toInt = x := Int32.ofInt_toInt x
theorem i64of (x : Int64) : Int64.ofInt x.toInt = x := Int64.ofInt_toInt x
theorem i32lt {a b : Int} (ha : in32 a) (hb : in32 b) : Int32.ofInt a < Int32.ofInt b ↔ a < b := by
  rw [Int32.lt_iff_toInt_lt, i32T ha, i32T hb]
theorem i32le {a b : Int} (ha : in32 a) (hb : in32 b) : Int32.ofInt a ≤ Int32.ofInt b ↔ a ≤ b := by
  rw [Int32.le_iff_toInt_le, i32T ha, i32T hb]
theorem i32eq {a b : Int} (ha : in32 a) (hb : in32 b) : Int32.ofInt a = Int32.ofInt b ↔ a = b := by
  rw [← Int32.toInt_inj, i32T ha, i32T hb]
theorem i64lt {a b : Int} (ha : in64 a) (hb : in64 b) : Int64.ofInt a < Int64.ofInt b ↔ a < b := by
  rw [Int64.lt_iff_toInt_lt, i64T ha, i64T hb]
theorem i64eq {a b : Int} (ha : in64 a) (hb : in64 b) : Int64.ofInt a = Int64.ofInt b ↔ a = b := by
  rw [← Int64.toInt_inj, i64T ha, i64T hb]
theorem i32z : in32 0 := by decide
theorem i32cl {x : Int} (h : in32 x) : (Int32.ofInt x).toNatClampNeg = x.toNat := by
  show (Int32.ofInt x).toInt.toNat = x.toNat
  rw [i32T h]
theorem vpin {x : Int} {n : Nat} (h : in32 x) (h0 : 0 ≤ x) (h1 : x < n) : vp_in (Int32.ofInt x) n := vp_in_iff.mpr ⟨by rw [i32T h]; exact h0, by rw [i32T h]; exact h1⟩
theorem i32div {a b : Int} (ha : in32 a) (h0 : 0 ≤ a) (hb : 0 < b) (hb2 : in32 b) : Int32.ofInt a / Int32.ofInt b = Int32.ofInt (a / b) := by
  apply Int32.toInt_inj.mp
  have h1 : 0 ≤ a / b := Int.ediv_nonneg h0 (Int.le_of_lt hb)
  have h2 : a / b ≤ a := Int.ediv_le_self b h0
  rw [Int32.toInt_div, i32T ha, i32T hb2, i32T ⟨by omega, by have := ha.2; omega⟩, Int.tdiv_eq_ediv_of_nonneg h0]
  simp only [Int.bmod]
  have := ha.2
  omega
theorem i32rem {a b : Int} (ha : in32 a) (h0 : 0 ≤ a) (hb : 0 < b) (hb2 : in32 b) : Int32.ofInt a - Int32.ofInt a / Int32.ofInt b * Int32.ofInt b = Int32.ofInt (a % b) := by
  rw [i32div ha h0 hb hb2, ← Int32.ofInt_mul, ← Int32.ofInt_sub]
  congr 1
  have := Int.mul_ediv_add_emod a b
  rw [Int.mul_comm]
  omega
theorem i64div {a b : Int} (ha : in64 a) (h0 : 0 ≤ a) (hb : 0 < b) (hb2 : in64 b) : Int64.ofInt a / Int64.ofInt b = Int64.ofInt (a / b) := by
  apply Int64.toInt_inj.mp
  have h1 : 0 ≤ a / b := Int.ediv_nonneg h0 (Int.le_of_lt hb)
  have h2 : a / b ≤ a := Int.ediv_le_self b h0
  rw [Int64.toInt_div, i64T ha, i64T hb2, i64T ⟨by omega, by have := ha.2; omega⟩, Int.tdiv_eq_ediv_of_nonneg h0]
  simp only [Int.bmod]
  have := ha.2
  omega
theorem i64rem {a b : Int} (ha : in64 a) (h0 : 0 ≤ a) (hb : 0 < b) (hb2 : in64 b) : Int64.ofInt a - Int64.ofInt a / Int64.ofInt b * Int64.ofInt b = Int64.ofInt (a % b) := by
  rw [i64div ha h0 hb hb2, ← Int64.ofInt_mul, ← Int64.ofInt_sub]
  congr 1
  have := Int.mul_ediv_add_emod a b
  rw [Int.mul_comm]
  omega
theorem i32l {x : Int} (h : in32 x) : (Int32.ofInt x).toInt64 = Int64.ofInt x := by
  apply Int64.toInt_inj.mp
  rw [Int32.toInt_toInt64, i32T h, i64T ⟨by have := h.1; omega, by have := h.2; omega⟩]
theorem l2i {x : Int} (h : in32 x) : (Int64.ofInt x).toInt32 = Int32.ofInt x := by
  rw [← i32l h]
  exact Int32.toInt32_toInt64 _
