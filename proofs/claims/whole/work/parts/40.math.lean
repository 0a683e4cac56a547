/-! THE TIMETABLE AS NUMBERS, and what is said of it -/
theorem imp_i {p q : Prop} (h : p → q) : p → q := h
/-- backwards from the end -/
theorem up_ind {P : Nat → Prop} (n : Nat) (h0 : P n) (hs : ∀ k, k < n → P (k + 1) → P k) : ∀ k, k ≤ n → P k := by
  intro k hk
  obtain ⟨d, rfl⟩ := Nat.exists_eq_add_of_le hk
  induction d generalizing k with
  | zero => exact h0
  | succ d ih =>
    refine hs k (by omega) ?_
    have := ih (k + 1)
    rw [show k + 1 + d = k + (d + 1) by omega] at this
    exact this h0 hs (by omega)
/-- lines, kinds, sizes, trips, stops, minutes, running, paths, first minutes -/
abbrev Net : Type := Int × (Int → Int) × (Int → Int) × (Int → Int) × (Int → Int → Int) × (Int → Int → Int → Int) × (Int → Int → Int) × (Int → Int → Int) × (Int → Int → Int)
abbrev Net.ln (N : Net) : Int := N.1
abbrev Net.kd (N : Net) : Int → Int := N.2.1
abbrev Net.sz (N : Net) : Int → Int := N.2.2.1
abbrev Net.tr (N : Net) : Int → Int := N.2.2.2.1
abbrev Net.sp (N : Net) : Int → Int → Int := N.2.2.2.2.1
abbrev Net.mi (N : Net) : Int → Int → Int → Int := N.2.2.2.2.2.1
abbrev Net.rn (N : Net) : Int → Int → Int := N.2.2.2.2.2.2.1
abbrev Net.pt (N : Net) : Int → Int → Int := N.2.2.2.2.2.2.2.1
abbrev Net.fi (N : Net) : Int → Int → Int := N.2.2.2.2.2.2.2.2
/-- whether a trip runs: by its kind and its first minute -/
def runF (k f : Int) : Int :=
  if k = 1 then (if f < 1300 then 1 else 0)
  else if k = 2 then (if f < 300 ∨ 1200 ≤ f then 1 else 0)
  else if k = 3 ∨ k = 5 then (if f < 300 ∨ 1200 ≤ f ∨ f % 60 = 0 then 1 else 0)
  else if k = 4 then (if f < 1300 ∧ 400 ≤ f then 1 else 0)
  else 1
/-- what is so of every timetable -/
def GoodL (N : Net) (l : Int) : Prop := (0 ≤ N.kd l ∧ N.kd l ≤ 5) ∧ (2 ≤ N.sz l ∧ N.sz l ≤ 6) ∧ (0 ≤ N.tr l ∧ N.tr l ≤ 6) ∧ (∀ i, 0 ≤ i → i < N.sz l → 0 ≤ N.sp l i ∧ N.sp l i < 12) ∧ (∀ i j, 0 ≤ i → i < N.sz l → 0 ≤ j → j < N.sz l → N.sp l i = N.sp l j → i = j) ∧
  ∀ t, 0 ≤ t → t < N.tr l → N.rn l t = runF (N.kd l) (N.fi l t) ∧ (0 ≤ N.fi l t ∧ N.fi l t ≤ 1999) ∧ (∀ i, 0 ≤ i → i < N.sz l → 0 ≤ N.mi l t i ∧ N.mi l t i ≤ 9000) ∧ ∀ i j, 0 ≤ i → i ≤ j → j < N.sz l → N.mi l t i ≤ N.mi l t j
def Good (N : Net) : Prop := (0 ≤ N.ln ∧ N.ln ≤ 8) ∧ (∀ l, 0 ≤ l → l < N.ln → GoodL N l) ∧ ∀ a b, 0 ≤ a → a < 12 → 0 ≤ b → b < 12 → (0 ≤ N.pt a b ∧ N.pt a b ≤ 60) ∧ N.pt a b = N.pt b a ∧ N.pt a a = 0
/-- the class's net, its object at 1 + d, holds it -/
def CH (N : Net) (d : Int) (M : Mem) : Prop := M (1 + d) 0 = N.ln ∧
  (∀ l, 0 ≤ l → l < N.ln → M (2 + d) l = N.kd l ∧ M (3 + d) l = N.sz l ∧ M (4 + d) l = N.tr l ∧ (∀ i, 0 ≤ i → i < N.sz l → M (6 + d + l) i = N.sp l i) ∧
    ∀ t, 0 ≤ t → t < N.tr l → M (63 + d) (l * 6 + t) = N.rn l t ∧ ∀ i, 0 ≤ i → i < N.sz l → M (15 + d + (l * 6 + t)) i = N.mi l t i) ∧
  ∀ a b, 0 ≤ a → a < 12 → 0 ≤ b → b < 12 → M (65 + d + a) b = N.pt a b
/-- the reference's rows hold it -/
def RH (N : Net) (M : Mem) : Prop := M 275 0 = N.ln ∧
  (∀ l, 0 ≤ l → l < N.ln → M 276 l = N.kd l ∧ M 277 l = N.sz l ∧ M 279 l = N.tr l ∧ (∀ i, 0 ≤ i → i < N.sz l → M 278 (6 * l + i) = N.sp l i) ∧
    ∀ t, 0 ≤ t → t < N.tr l → M 280 (6 * l + t) = N.fi l t ∧ ∀ i, 0 ≤ i → i < N.sz l → M 281 (36 * l + 6 * t + i) = N.mi l t i) ∧
  ∀ a b, 0 ≤ a → a < 12 → 0 ≤ b → b < 12 → M 282 (12 * a + b) = N.pt a b
/-- nothing has changed but between two addresses -/
def frm (lo hi : Int) (M M1 : Mem) : Prop := ∀ a i, a < lo ∨ hi ≤ a → M1 a i = M a i
theorem frm.rf {lo hi : Int} {M : Mem} : frm lo hi M M := fun _ _ _ => rfl
theorem frm.tr {lo hi : Int} {M M1 M2 : Mem} (h : frm lo hi M M1) (h2 : frm lo hi M1 M2) : frm lo hi M M2 := fun a i q => (h2 a i q).trans (h a i q)
theorem frm.wide {lo hi lo2 hi2 : Int} {M M1 : Mem} (h : frm lo hi M M1) (h1 : lo2 ≤ lo) (h2 : hi ≤ hi2) : frm lo2 hi2 M M1 := fun a i q => h a i (by omega)
theorem frm.up {lo hi a i v : Int} {M M1 : Mem} (h : frm lo hi M M1) (h1 : lo ≤ a) (h2 : a < hi) : frm lo hi M (up2 M1 a i v) := fun b j q => by
  rw [up2_ne (by omega)]
  exact h b j q
theorem CH.frm {N : Net} {d lo hi : Int} {M M1 : Mem} (h : CH N d M) (hf : frm lo hi M M1) (ho : hi ≤ 1 + d ∨ 77 + d ≤ lo) (hg : Good N) : CH N d M1 := by
  obtain ⟨h1, h2, h3⟩ := h
  obtain ⟨g1, g2, g3⟩ := hg
  refine ⟨by rw [hf _ _ (by omega)]; exact h1, fun l l0 l1 => ?_, fun a b a0 a1 b0 b1 => by rw [hf _ _ (by omega)]; exact h3 a b a0 a1 b0 b1⟩
  obtain ⟨q1, q2, q3, q4, q5⟩ := h2 l l0 l1
  obtain ⟨-, -, ⟨u1, u2⟩, -⟩ := g2 l l0 l1
  refine ⟨by rw [hf _ _ (by omega)]; exact q1, by rw [hf _ _ (by omega)]; exact q2, by rw [hf _ _ (by omega)]; exact q3, fun i i0 i1 => by rw [hf _ _ (by omega)]; exact q4 i i0 i1, fun t t0 t1 => ?_⟩
  obtain ⟨w1, w2⟩ := q5 t t0 t1
  exact ⟨by rw [hf _ _ (by omega)]; exact w1, fun i i0 i1 => by rw [hf _ _ (by omega)]; exact w2 i i0 i1⟩
theorem RH.frm {N : Net} {lo hi : Int} {M M1 : Mem} (h : RH N M) (hf : frm lo hi M M1) (ho : hi ≤ 275 ∨ 283 ≤ lo) : RH N M1 := by
  obtain ⟨h1, h2, h3⟩ := h
  refine ⟨by rw [hf _ _ (by omega)]; exact h1, fun l l0 l1 => ?_, fun a b a0 a1 b0 b1 => by rw [hf _ _ (by omega)]; exact h3 a b a0 a1 b0 b1⟩
  obtain ⟨q1, q2, q3, q4, q5⟩ := h2 l l0 l1
  refine ⟨by rw [hf _ _ (by omega)]; exact q1, by rw [hf _ _ (by omega)]; exact q2, by rw [hf _ _ (by omega)]; exact q3, fun i i0 i1 => by rw [hf _ _ (by omega)]; exact q4 i i0 i1, fun t t0 t1 => ?_⟩
  obtain ⟨w1, w2⟩ := q5 t t0 t1
  exact ⟨by rw [hf _ _ (by omega)]; exact w1, fun i i0 i1 => by rw [hf _ _ (by omega)]; exact w2 i i0 i1⟩
-- what one takes out of them
theorem CH.lines {N : Net} {M : Mem} (h : CH N 0 M) : M 1 0 = N.ln := h.1
theorem CH.line {N : Net} {M : Mem} (h : CH N 0 M) {l : Int} (h0 : 0 ≤ l) (h1 : l < N.ln) : M 2 l = N.kd l ∧ M 3 l = N.sz l ∧ M 4 l = N.tr l := by
  obtain ⟨a, b, c, -⟩ := h.2.1 l h0 h1
  exact ⟨a, b, c⟩
theorem CH.stop {N : Net} {M : Mem} (h : CH N 0 M) {l i a : Int} (h0 : 0 ≤ l) (h1 : l < N.ln) (h2 : 0 ≤ i) (h3 : i < N.sz l) (ha : a = 6 + l) : M a i = N.sp l i := by
  subst ha
  exact (h.2.1 l h0 h1).2.2.2.1 i h2 h3
theorem CH.min {N : Net} {M : Mem} (h : CH N 0 M) {l t i a : Int} (h0 : 0 ≤ l) (h1 : l < N.ln) (ht : 0 ≤ t) (ht1 : t < N.tr l) (h2 : 0 ≤ i) (h3 : i < N.sz l) (ha : a = 15 + (l * 6 + t)) : M a i = N.mi l t i := by
  subst ha
  exact ((h.2.1 l h0 h1).2.2.2.2 t ht ht1).2 i h2 h3
theorem CH.run {N : Net} {M : Mem} (h : CH N 0 M) {l t a : Int} (h0 : 0 ≤ l) (h1 : l < N.ln) (ht : 0 ≤ t) (ht1 : t < N.tr l) (ha : a = l * 6 + t) : M 63 a = N.rn l t := by
  subst ha
  exact ((h.2.1 l h0 h1).2.2.2.2 t ht ht1).1
theorem CH.path {N : Net} {M : Mem} (h : CH N 0 M) {a b x : Int} (h0 : 0 ≤ a) (h1 : a < 12) (h2 : 0 ≤ b) (h3 : b < 12) (hx : x = 65 + a) : M x b = N.pt a b := by
  subst hx
  exact h.2.2 a b h0 h1 h2 h3
theorem RH.line {N : Net} {M : Mem} (h : RH N M) {l : Int} (h0 : 0 ≤ l) (h1 : l < N.ln) : M 276 l = N.kd l ∧ M 277 l = N.sz l ∧ M 279 l = N.tr l := by
  obtain ⟨a, b, c, -⟩ := h.2.1 l h0 h1
  exact ⟨a, b, c⟩
theorem RH.stop {N : Net} {M : Mem} (h : RH N M) {l i a : Int} (h0 : 0 ≤ l) (h1 : l < N.ln) (h2 : 0 ≤ i) (h3 : i < N.sz l) (ha : a = 6 * l + i) : M 278 a = N.sp l i := by
  subst ha
  exact (h.2.1 l h0 h1).2.2.2.1 i h2 h3
theorem RH.min {N : Net} {M : Mem} (h : RH N M) {l t i a : Int} (h0 : 0 ≤ l) (h1 : l < N.ln) (ht : 0 ≤ t) (ht1 : t < N.tr l) (h2 : 0 ≤ i) (h3 : i < N.sz l) (ha : a = 36 * l + 6 * t + i) : M 281 a = N.mi l t i := by
  subst ha
  exact ((h.2.1 l h0 h1).2.2.2.2 t ht ht1).2 i h2 h3
theorem RH.first {N : Net} {M : Mem} (h : RH N M) {l t a : Int} (h0 : 0 ≤ l) (h1 : l < N.ln) (ht : 0 ≤ t) (ht1 : t < N.tr l) (ha : a = 6 * l + t) : M 280 a = N.fi l t := by
  subst ha
  exact ((h.2.1 l h0 h1).2.2.2.2 t ht ht1).1
theorem RH.path {N : Net} {M : Mem} (h : RH N M) {a b x : Int} (h0 : 0 ≤ a) (h1 : a < 12) (h2 : 0 ≤ b) (h3 : b < 12) (hx : x = 12 * a + b) : M 282 x = N.pt a b := by
  subst hx
  exact h.2.2 a b h0 h1 h2 h3
theorem Good.lineK {N : Net} (hg : Good N) {l : Int} (h0 : 0 ≤ l) (h1 : l < N.ln) : l < 8 ∧ (0 ≤ N.kd l ∧ N.kd l ≤ 5) ∧ (2 ≤ N.sz l ∧ N.sz l ≤ 6) ∧ (0 ≤ N.tr l ∧ N.tr l ≤ 6) := by
  obtain ⟨a, b, c, -⟩ := hg.2.1 l h0 h1
  exact ⟨by have := hg.1.2; omega, a, b, c⟩
theorem Good.stop {N : Net} (hg : Good N) {l i : Int} (h0 : 0 ≤ l) (h1 : l < N.ln) (h2 : 0 ≤ i) (h3 : i < N.sz l) : 0 ≤ N.sp l i ∧ N.sp l i < 12 := (hg.2.1 l h0 h1).2.2.2.1 i h2 h3
theorem Good.min {N : Net} (hg : Good N) {l t i : Int} (h0 : 0 ≤ l) (h1 : l < N.ln) (ht : 0 ≤ t) (ht1 : t < N.tr l) (h2 : 0 ≤ i) (h3 : i < N.sz l) : 0 ≤ N.mi l t i ∧ N.mi l t i ≤ 9000 := ((hg.2.1 l h0 h1).2.2.2.2.2 t ht ht1).2.2.1 i h2 h3
theorem Good.mono {N : Net} (hg : Good N) {l t i j : Int} (h0 : 0 ≤ l) (h1 : l < N.ln) (ht : 0 ≤ t) (ht1 : t < N.tr l) (h2 : 0 ≤ i) (h3 : i ≤ j) (h4 : j < N.sz l) : N.mi l t i ≤ N.mi l t j := ((hg.2.1 l h0 h1).2.2.2.2.2 t ht ht1).2.2.2 i j h2 h3 h4
theorem Good.path {N : Net} (hg : Good N) {a b : Int} (h0 : 0 ≤ a) (h1 : a < 12) (h2 : 0 ≤ b) (h3 : b < 12) : 0 ≤ N.pt a b ∧ N.pt a b ≤ 60 := (hg.2.2 a b h0 h1 h2 h3).1
-- THE SEARCH
/-- whether one is on a trip ahead of its i-th stop -/
def onB (N : Net) (l t : Int) (ah : Int → Int) : Nat → Bool
  | 0 => false
  | i + 1 => onB N l t ah i || decide (ah (N.sp l i) ≤ N.mi l t i)
/-- where a trip takes one, its first so many stops -/
def rdE (N : Net) (l t sh : Int) (ah e : Int → Int) : Nat → Int → Int
  | 0 => e
  | i + 1 => fun s => if s = N.sp l i ∧ onB N l t ah i = true ∧ s ≠ sh then min (rdE N l t sh ah e i s) (N.mi l t i) else rdE N l t sh ah e i s
/-- .. the first so many trips of a line -/
def rdT (N : Net) (ll lt sh : Int) (ah e : Int → Int) (l : Int) : Nat → Int → Int
  | 0 => e
  | t + 1 => if N.rn l t = 1 ∧ ¬ (l = ll ∧ (t : Int) = lt) then rdE N l t sh ah (rdT N ll lt sh ah e l t) (N.sz l).toNat else rdT N ll lt sh ah e l t
/-- .. the first so many lines -/
def rdL (N : Net) (ll lt sh : Int) (ah e : Int → Int) : Nat → Int → Int
  | 0 => e
  | l + 1 => rdT N ll lt sh ah (rdL N ll lt sh ah e l) l (N.tr l).toNat
def beg (fr at_ : Int) (e : Int → Int) (p : Int) : Int := if p = fr then at_ else e p
/-- the least of a ride's end at a stop and of walks from the first so many stops -/
def wkM (N : Net) (fr at_ : Int) (e : Int → Int) (s : Int) : Nat → Int
  | 0 => e s
  | p + 1 => if N.pt p s ≠ 0 ∧ beg fr at_ e p ≠ 10000 then min (wkM N fr at_ e s p) (beg fr at_ e p + N.pt p s) else wkM N fr at_ e s p
def arv (N : Net) (sh fr at_ : Int) (e : Int → Int) (s : Int) : Int := if s = sh then 10000 else if s = fr then at_ else wkM N fr at_ e s 12
/-- the ends of rides, by rounds -/
def rdn (N : Net) (ll lt sh fr at_ : Int) : Nat → Int → Int
  | 0 => fun _ => 10000
  | r + 1 => rdL N ll lt sh (arv N sh fr at_ (rdn N ll lt sh fr at_ r)) (fun _ => 10000) N.ln.toNat
/-- EARLIEST -/
def bst (N : Net) (ll lt sh fr at_ : Int) (r : Nat) (s : Int) : Int := arv N sh fr at_ (rdn N ll lt sh fr at_ r) s
theorem onB_s (N : Net) (l t : Int) (ah : Int → Int) (i : Nat) : onB N l t ah (i + 1) = (onB N l t ah i || decide (ah (N.sp l i) ≤ N.mi l t i)) := rfl
theorem rdE_s (N : Net) (l t sh : Int) (ah e : Int → Int) (i : Nat) (s : Int) : rdE N l t sh ah e (i + 1) s = if s = N.sp l i ∧ onB N l t ah i = true ∧ s ≠ sh then min (rdE N l t sh ah e i s) (N.mi l t i) else rdE N l t sh ah e i s := rfl
theorem rdT_s (N : Net) (ll lt sh : Int) (ah e : Int → Int) (l : Int) (t : Nat) : rdT N ll lt sh ah e l (t + 1) = if N.rn l t = 1 ∧ ¬ (l = ll ∧ (t : Int) = lt) then rdE N l t sh ah (rdT N ll lt sh ah e l t) (N.sz l).toNat else rdT N ll lt sh ah e l t := rfl
theorem rdL_s (N : Net) (ll lt sh : Int) (ah e : Int → Int) (l : Nat) : rdL N ll lt sh ah e (l + 1) = rdT N ll lt sh ah (rdL N ll lt sh ah e l) l (N.tr l).toNat := rfl
theorem wkM_s (N : Net) (fr at_ : Int) (e : Int → Int) (s : Int) (p : Nat) : wkM N fr at_ e s (p + 1) = if N.pt p s ≠ 0 ∧ beg fr at_ e p ≠ 10000 then min (wkM N fr at_ e s p) (beg fr at_ e p + N.pt p s) else wkM N fr at_ e s p := rfl
