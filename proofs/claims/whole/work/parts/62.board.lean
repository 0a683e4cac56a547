/-! board -/
/-- the keys of those that go on from a stop, of the first so many trips -/
def PAn (N : Net) (s n k : Int) : Prop := ∃ l t, 0 ≤ l ∧ l < N.ln ∧ 0 ≤ t ∧ t < N.tr l ∧ 6 * l + t < n ∧ 0 ≤ dpt N s l t ∧ k = 100 * dpt N s l t + 10 * l + t
/-- a board: the keys from a minute on, in their order -/
def SAn (N : Net) (s n f : Int) (A : Int → Int) (c : Int) : Prop := (0 ≤ c ∧ c ≤ n) ∧ (∀ i j, 0 ≤ i → i < j → j < c → A i < A j) ∧ ∀ k, (PAn N s n k ∧ 100 * f ≤ k) ↔ ∃ i, 0 ≤ i ∧ i < c ∧ A i = k
theorem PAn_skip {N : Net} {s n n2 : Int} (hn : n ≤ n2) (h : ∀ l t, 0 ≤ l → l < N.ln → 0 ≤ t → t < N.tr l → n ≤ 6 * l + t → 6 * l + t < n2 → dpt N s l t < 0) (k : Int) : PAn N s n2 k ↔ PAn N s n k := by
  constructor
  · rintro ⟨l, t, l0, l1, t0, t1, hn2, hd, hk⟩
    by_cases hh : 6 * l + t < n
    · exact ⟨l, t, l0, l1, t0, t1, hh, hd, hk⟩
    · have := h l t l0 l1 t0 t1 (by omega) hn2
      omega
  · rintro ⟨l, t, l0, l1, t0, t1, hn2, hd, hk⟩
    exact ⟨l, t, l0, l1, t0, t1, by omega, hd, hk⟩
theorem PAn_add {N : Net} {s l t : Int} (hg : Good N) (l0 : 0 ≤ l) (l1 : l < N.ln) (t0 : 0 ≤ t) (t1 : t < N.tr l) (k : Int) : PAn N s (6 * l + t + 1) k ↔ PAn N s (6 * l + t) k ∨ (0 ≤ dpt N s l t ∧ k = 100 * dpt N s l t + 10 * l + t) := by
  have hk := hg.lineK l0 l1
  constructor
  · rintro ⟨a, b, a0, a1, b0, b1, hn, hd, he⟩
    have ha := hg.lineK a0 a1
    by_cases e : a = l ∧ b = t
    · rw [e.1, e.2] at hd he
      exact Or.inr ⟨hd, he⟩
    · exact Or.inl ⟨a, b, a0, a1, b0, b1, by omega, hd, he⟩
  · rintro (⟨a, b, a0, a1, b0, b1, hn, hd, he⟩ | ⟨hd, he⟩)
    · exact ⟨a, b, a0, a1, b0, b1, by omega, hd, he⟩
    · exact ⟨l, t, l0, l1, t0, t1, by omega, hd, he⟩
theorem PAn_bd {N : Net} {s n k : Int} (hg : Good N) (h : PAn N s n k) : 0 ≤ k ∧ k ≤ 900075 := by
  obtain ⟨a, b, a0, a1, b0, b1, hn, hd, he⟩ := h
  have ha := hg.lineK a0 a1
  have := dpt_bd (s := s) hg a0 a1 b0 b1
  omega
set_option maxHeartbeats 4000000 in
theorem c_insert {M : Mem} {Q : Int → Mem → Prop} {key c : Int} (hc : M 261 2 = c) (c0 : 0 ≤ c) (c1 : c < 48) (hQ : ∀ M1 p, 0 ≤ p → p ≤ c → (p = 0 ∨ M 262 (p - 1) ≤ key) → (∀ j, p ≤ j → j < c → key < M 262 j) → M1 261 2 = c + 1 → (∀ j, 0 ≤ j → j < p → M1 262 j = M 262 j) → M1 262 p = key → (∀ j, p < j → j ≤ c → M1 262 j = M 262 (j - 1)) → (∀ a i, a ≠ 262 → ¬ (a = 261 ∧ i = 2) → M1 a i = M a i) → Q 0 M1) : Calls mX0_insert [(2, 261), (0, key)] S0 M Q := by
  refine E_Board_insert (B_Board_insert_0 ⟨fun _ => ?_, fun q => absurd (by omega) q⟩)
  rw [hc]
  have key2 : ∀ n : Nat, ∀ (p : Int) (M1 : Mem), p = (n : Int) → p ≤ c → (∀ j, p ≤ j → j < c → key < M 262 j) → (∀ j, 0 ≤ j → j < p → M1 262 j = M 262 j) → (∀ j, p < j → j ≤ c → M1 262 j = M 262 (j - 1)) → (∀ a i, a ≠ 262 → M1 a i = M a i) → AW mX0_insert 18 [(2, 261), (0, key), (0, p)] M1 Q := by
    intro n
    have fin : ∀ (p : Int) (M1 : Mem), 0 ≤ p → p ≤ c → (p = 0 ∨ M 262 (p - 1) ≤ key) → (∀ j, p ≤ j → j < c → key < M 262 j) → (∀ j, 0 ≤ j → j < p → M1 262 j = M 262 j) → (∀ j, p < j → j ≤ c → M1 262 j = M 262 (j - 1)) → (∀ a i, a ≠ 262 → M1 a i = M a i) → Q 0 (up2 (up2 M1 262 p key) 261 2 ((M1 261 2) + 1)) := by
      intro p M1 p0 p1 hp g1 g2 g3 g4
      have hc1 : M1 261 2 = c := (g4 _ _ (by omega)).trans hc
      refine hQ _ p p0 p1 hp g1 ?_ (fun j j0 j1 => ?_) ?_ (fun j j0 j1 => ?_) (fun a i q q2 => ?_)
      · rw [up2_at ⟨rfl, rfl⟩, hc1]
      · rw [up2_ni (by omega), up2_ni (by omega)]
        exact g2 j j0 j1
      · rw [up2_ni (by omega), up2_at ⟨rfl, rfl⟩]
      · rw [up2_ni (by omega), up2_ni (by omega)]
        exact g3 j j0 j1
      · rw [up2_ni q2, up2_ne q]
        exact g4 a i q
    induction n with
    | zero =>
      intro p M1 hp p1 g1 g2 g3 g4
      have hc1 : M1 261 2 = c := (g4 _ _ (by omega)).trans hc
      exact B_Board_insert_18 ⟨fun _ => ⟨by omega, by omega, fin p M1 (by omega) p1 (Or.inl (by omega)) g1 g2 g3 g4⟩, fun q => absurd (by omega) q⟩
    | succ n ih =>
      intro p M1 hp p1 g1 g2 g3 g4
      have hc1 : M1 261 2 = c := (g4 _ _ (by omega)).trans hc
      have hb : M1 262 (p - 1) = M 262 (p - 1) := g2 _ (by omega) (by omega)
      refine B_Board_insert_18 ⟨fun q => absurd q (by omega), fun _ => ⟨by omega, by omega, fun q => ⟨by omega, by omega, fin p M1 (by omega) p1 (Or.inr (by omega)) g1 g2 g3 g4⟩, fun q => ⟨by omega, by omega, ih _ _ (by omega) (by omega) (fun j j0 j1 => ?_) (fun j j0 j1 => ?_) (fun j j0 j1 => ?_) (fun a i q => ?_)⟩⟩⟩
      · by_cases e : j = p - 1
        · rw [e, ← hb]
          omega
        · exact g1 j (by omega) j1
      · rw [up2_ni (by omega)]
        exact g2 j j0 (by omega)
      · by_cases e : j = p
        · rw [up2_at ⟨rfl, e⟩, e]
          exact hb
        · rw [up2_ni (by omega)]
          exact g3 j (by omega) j1
      · rw [up2_ne q]
        exact g4 a i q
  exact key2 c.toNat c M (by omega) (by omega) (fun j j0 j1 => absurd j1 (by omega)) (fun _ _ _ => rfl) (fun j j0 j1 => absurd j1 (by omega)) (fun _ _ _ => rfl)
theorem SAn_ins {N : Net} {s f l t : Int} {A B : Int → Int} {c p : Int} (hg : Good N) (l0 : 0 ≤ l) (l1 : l < N.ln) (t0 : 0 ≤ t) (t1 : t < N.tr l) (hd : 0 ≤ dpt N s l t) (hf : 100 * f ≤ 100 * dpt N s l t + 10 * l + t) (h : SAn N s (6 * l + t) f A c) (p0 : 0 ≤ p) (p1 : p ≤ c) (hp : p = 0 ∨ A (p - 1) ≤ 100 * dpt N s l t + 10 * l + t) (hp2 : ∀ j, p ≤ j → j < c → 100 * dpt N s l t + 10 * l + t < A j) (b1 : ∀ j, 0 ≤ j → j < p → B j = A j) (b2 : B p = 100 * dpt N s l t + 10 * l + t) (b3 : ∀ j, p < j → j ≤ c → B j = A (j - 1)) : SAn N s (6 * l + t + 1) f B (c + 1) := by
  obtain ⟨h1, h2, h3⟩ := h
  have hk := hg.lineK l0 l1
  have nin : ∀ j, 0 ≤ j → j < c → A j ≠ 100 * dpt N s l t + 10 * l + t := by
    intro j j0 j1 e
    obtain ⟨⟨a, b, a0, a1, b0, b1, hn, hd2, he⟩, -⟩ := (h3 _).mpr ⟨j, j0, j1, e⟩
    have ha := hg.lineK a0 a1
    omega
  have below : ∀ j, 0 ≤ j → j < p → A j < 100 * dpt N s l t + 10 * l + t := by
    intro j j0 j1
    have := nin (p - 1) (by omega) (by omega)
    have h5 : A j ≤ A (p - 1) := by
      by_cases e : j = p - 1
      · rw [e]
        exact Int.le_refl _
      · have := h2 j (p - 1) j0 (by omega) (by omega)
        omega
    omega
  refine ⟨by omega, fun i j i0 ij j1 => ?_, fun k => ?_⟩
  · by_cases e1 : j < p
    · rw [b1 i i0 (by omega), b1 j (by omega) e1]
      exact h2 i j i0 ij (by omega)
    · by_cases e2 : j = p
      · rw [e2, b2, b1 i i0 (by omega)]
        exact below i i0 (by omega)
      · rw [b3 j (by omega) (by omega)]
        by_cases e3 : i < p
        · rw [b1 i i0 e3]
          have := below i i0 e3
          have := hp2 (j - 1) (by omega) (by omega)
          omega
        · by_cases e4 : i = p
          · rw [e4, b2]
            exact hp2 (j - 1) (by omega) (by omega)
          · rw [b3 i (by omega) (by omega)]
            exact h2 (i - 1) (j - 1) (by omega) (by omega) (by omega)
  · rw [PAn_add hg l0 l1 t0 t1]
    constructor
    · rintro ⟨q | ⟨q1, q2⟩, hk2⟩
      · obtain ⟨i, i0, i1, e⟩ := (h3 k).mp ⟨q, hk2⟩
        by_cases hi : i < p
        · exact ⟨i, i0, by omega, by rw [b1 i i0 hi]; exact e⟩
        · exact ⟨i + 1, by omega, by omega, by rw [b3 (i + 1) (by omega) (by omega), show i + 1 - 1 = i by omega]; exact e⟩
      · exact ⟨p, p0, by omega, by rw [b2]; exact q2.symm⟩
    · rintro ⟨i, i0, i1, e⟩
      by_cases e1 : i < p
      · rw [b1 i i0 e1] at e
        have := (h3 k).mpr ⟨i, i0, by omega, e⟩
        exact ⟨Or.inl this.1, this.2⟩
      · by_cases e2 : i = p
        · rw [e2, b2] at e
          exact ⟨Or.inr ⟨hd, e.symm⟩, by omega⟩
        · rw [b3 i (by omega) (by omega)] at e
          have := (h3 k).mpr ⟨i - 1, by omega, by omega, e⟩
          exact ⟨Or.inl this.1, this.2⟩
theorem SAn_same {N : Net} {s f n n2 : Int} {A : Int → Int} {c : Int} (h : SAn N s n f A c) (hn : n ≤ n2) (he : ∀ k, (PAn N s n2 k ∧ 100 * f ≤ k) ↔ (PAn N s n k ∧ 100 * f ≤ k)) : SAn N s n2 f A c := ⟨by have := h.1; omega, h.2.1, fun k => (he k).trans (h.2.2 k)⟩
/-- nothing but the board has changed -/
def fBd (M M1 : Mem) : Prop := ∀ a i, a ≠ 262 → ¬ (a = 261 ∧ i = 2) → M1 a i = M a i
set_option maxHeartbeats 4000000 in
theorem c_gather {N : Net} {M : Mem} {Q : Int → Mem → Prop} {s f : Int} (hI : IN N M) (hQ : ∀ M1 c, Sc M M1 → M1 261 2 = c → SAn N s 48 f (fun j => M1 262 j) c → Q 0 M1) : Calls mX0_gather [(2, 261), (0, s), (0, f)] S0 M Q := by
  have hg := hI.g
  have h0 := hg.1
  refine E_Board_gather (B_Board_gather_0 ?_)
  have key : ∀ k : Nat, k ≤ N.ln.toNat → ∀ i M1 c, i = (k : Int) → Sc M M1 → M1 261 2 = c → SAn N s (6 * i) f (fun j => M1 262 j) c → AW mX0_gather 7 [(2, 261), (0, s), (0, f), (0, i), (9, 0), (9, 0), (9, 0)] M1 Q := by
    refine up_ind _ ?_ ?_
    · intro i M1 c hi hs hc hA
      have hln := (hI.sc hs).c.lines
      refine B_Board_gather_7 ⟨fun _ => hQ M1 c hs hc ?_, fun q => absurd (by omega) q⟩
      refine SAn_same hA (by omega) (fun k => ?_)
      rw [PAn_skip (n := 6 * i) (by omega) (fun l t l0 l1 t0 t1 z1 z2 => ?_)]
      have := hg.lineK l0 l1
      omega
    · intro k hk ih i M1 c hi hs hc hA
      have hN := (hI.sc hs).c
      have hln := hN.lines
      have hkk := hg.lineK (l := i) (by omega) (by omega)
      have hp := plc_cases hg (l := i) (by omega) (by omega) s
      obtain ⟨-, hsz, htr⟩ := hN.line (l := i) (by omega) (by omega)
      have no : (plc N i s < 0 ∨ N.sz i - 1 ≤ plc N i s) → AW mX0_gather 7 [(2, 261), (0, s), (0, f), (0, i + 1), (9, 0), (9, 0), (9, 0)] M1 Q := by
        intro hno
        refine ih _ _ c (by omega) hs hc (SAn_same hA (by omega) (fun k => ?_))
        rw [PAn_skip (n := 6 * i) (by omega) (fun l t l0 l1 t0 t1 z1 z2 => ?_)]
        have := hg.lineK l0 l1
        obtain rfl : l = i := by omega
        unfold dpt
        rw [if_neg (by omega)]
        omega
      refine B_Board_gather_7 ⟨fun q => absurd q (by omega), fun _ => c_placeOf hg hN (by omega) (by omega) ⟨fun q => ⟨by omega, no (by omega)⟩, fun q => ⟨by omega, by omega, fun q2 => ⟨by omega, no (by omega)⟩, fun q2 => ?_⟩⟩⟩
      have inner : ∀ n : Nat, n ≤ (N.tr i).toNat → ∀ j M1 c, j = (n : Int) → Sc M M1 → M1 261 2 = c → SAn N s (6 * i + j) f (fun j => M1 262 j) c → AW mX0_gather 45 [(2, 261), (0, s), (0, f), (0, i), (0, plc N i s), (0, j), (9, 0)] M1 Q := by
        refine up_ind _ ?_ ?_
        · intro j M1 c hj hs hc hA
          have htr := ((hI.sc hs).c.line (l := i) (by omega) (by omega)).2.2
          refine B_Board_gather_45 ⟨by omega, fun _ => ⟨by omega, ih _ _ c (by omega) hs hc (SAn_same hA (by omega) (fun k => ?_))⟩, fun q => absurd (by omega) q⟩
          rw [PAn_skip (n := 6 * i + j) (by omega) (fun l t l0 l1 t0 t1 z1 z2 => ?_)]
          have := hg.lineK l0 l1
          have : l = i := by omega
          rw [this] at t1 z1
          omega
        · intro n hn ih2 j M1 c hj hs hc hA
          have hN := (hI.sc hs).c
          have htr := (hN.line (l := i) (by omega) (by omega)).2.2
          have hmi := hg.min (l := i) (t := j) (i := plc N i s) (by omega) (by omega) (by omega) (by omega) (by omega) (by omega)
          have hA1 := hA.1
          have no : (dpt N s i j < 0 ∨ 100 * dpt N s i j + 10 * i + j < 100 * f) → AW mX0_gather 45 [(2, 261), (0, s), (0, f), (0, i), (0, plc N i s), (0, j + 1), (9, 0)] M1 Q := by
            intro hno
            refine ih2 _ _ c (by omega) hs hc ?_
            rw [show 6 * i + (j + 1) = 6 * i + j + 1 by omega]
            refine SAn_same hA (by omega) (fun k => ?_)
            rw [PAn_add hg (by omega) (by omega) (by omega) (by omega)]
            constructor
            · rintro ⟨z | ⟨z, z2⟩, z3⟩
              · exact ⟨z, z3⟩
              · omega
            · rintro ⟨z, z2⟩
              exact ⟨Or.inl z, z2⟩
          refine B_Board_gather_45 ⟨by omega, fun q => absurd q (by omega), fun _ => ⟨by omega, by omega, by omega, by omega, ?_⟩⟩
          rw [hN.run (l := i) (t := j) (by omega) (by omega) (by omega) (by omega) rfl, hN.min (l := i) (t := j) (i := plc N i s) (by omega) (by omega) (by omega) (by omega) (by omega) (by omega) rfl]
          refine ⟨fun z => ⟨by omega, no (Or.inl ?_)⟩, fun z => ?_⟩
          · unfold dpt
            rw [if_neg (fun y => z y.2.2)]
            omega
          have hd : dpt N s i j = N.mi i j (plc N i s) := by
            unfold dpt
            rw [if_pos (by omega)]
          refine ⟨fun z2 => ⟨by omega, no (Or.inr (by omega))⟩, fun z2 => ⟨by omega, by omega, by omega, by omega, c_insert hc (by omega) (by omega) (fun M2 p p0 p1 u1 u2 u3 u4 u5 u6 u7 => ⟨by omega, ih2 _ _ (c + 1) (by omega) (fun a y q => ?_) u3 ?_⟩)⟩⟩
          · rw [u7 a y (fun w => q (by unfold scr; omega)) (fun w => q (by unfold scr; omega))]
            exact hs a y q
          · have ek : N.mi i j (plc N i s) * 100 + i * 10 + j = 100 * dpt N s i j + 10 * i + j := by omega
            rw [ek] at u1 u2 u5
            rw [show 6 * i + (j + 1) = 6 * i + j + 1 by omega]
            exact SAn_ins hg (by omega) (by omega) (by omega) (by omega) (by omega) (by omega) hA p0 p1 u1 u2 u4 u5 u6
      exact inner 0 (Nat.zero_le _) 0 M1 c rfl hs hc (by rw [show 6 * i + 0 = 6 * i by omega]; exact hA)
  refine key 0 (Nat.zero_le _) 0 _ 0 rfl (Sc.rf.up (by unfold scr; omega)) (up2_at ⟨rfl, rfl⟩) ⟨by omega, fun i j i0 ij j1 => absurd j1 (by omega), fun k => ⟨?_, fun ⟨i, i0, i1, _⟩ => absurd i1 (by omega)⟩⟩
  rintro ⟨⟨l, t, l0, l1, t0, t1, z, -, -⟩, -⟩
  omega
def bdV (A : Int → Int) (c i w : Int) : Int := if i < c then (if w = 0 then A i / 10 % 10 else if w = 1 then A i % 10 else A i / 100) else -5
def fBz (s f i w : Int) : Int := if s < 0 ∨ 11 < s ∨ i < 0 ∨ w < 0 ∨ 2 < w then -1 else if f < 0 ∨ 1999 < f then -2 else 0
set_option maxHeartbeats 4000000 in
theorem c_board {N : Net} {M : Mem} {Q : Int → Mem → Prop} {s f i w : Int} (hI : IN N M) (hQ0 : fBz s f i w ≠ 0 → Q (fBz s f i w) M) (hQ1 : fBz s f i w = 0 → ∀ M1 A c, Sc M M1 → SAn N s 48 f A c → Q (bdV A c i w) M1) : Calls mX8_board [(2, 0), (0, s), (0, f), (0, i), (0, w)] S0 M Q := by
  have hv : ∀ v, v = fBz s f i w → v ≠ 0 → Q v M := fun v h h2 => by rw [h] at h2 ⊢; exact hQ0 h2
  refine E_C_board (B_C_board_0 ?_)
  repeat' (first | refine And.intro ?_ ?_ | refine imp_i (fun _ => ?_))
  all_goals try (exact hv _ (by unfold fBz; (repeat' split) <;> omega) (by omega))
  have hz : fBz s f i w = 0 := by unfold fBz; rw [if_neg (by omega), if_neg (by omega)]
  refine c_gather hI (fun M1 c hs hc hA => ?_)
  have hq := hQ1 hz M1 _ c hs hA
  have hpos : ∀ j, 0 ≤ j → j < c → 0 ≤ M1 262 j := fun j j0 j1 => (PAn_bd hI.g ((hA.2.2 _).mpr ⟨j, j0, j1, rfl⟩).1).1
  have hv2 : ∀ v, v = bdV (fun j => M1 262 j) c i w → Q v M1 := fun v h => h ▸ hq
  have hA1 := hA.1
  rw [hc]
  refine ⟨fun q => ⟨by omega, fun q2 => ⟨hpos i (by omega) q, hv2 _ ?_⟩, fun q2 => ⟨hpos i (by omega) q, by have := hpos i (by omega) q; omega, hv2 _ ?_⟩, fun q2 => ⟨hpos i (by omega) q, hv2 _ ?_⟩⟩, fun q => hv2 _ ?_⟩
  · unfold bdV
    rw [if_pos q, if_neg q2.1, if_neg q2.2]
  · unfold bdV
    rw [if_pos q, if_pos q2]
  · unfold bdV
    rw [if_pos q, if_neg (by omega), if_pos q2]
  · unfold bdV
    rw [if_neg q]
/-- the next key behind b, of the first so many trips -/
def NXn (N : Net) (s n b v : Int) : Prop := (v = -1 ∧ ∀ k, PAn N s n k → k ≤ b) ∨ (PAn N s n v ∧ b < v ∧ ∀ k, PAn N s n k → b < k → v ≤ k)
theorem NXn_same {N : Net} {s n n2 b v : Int} (h : NXn N s n b v) (he : ∀ k, PAn N s n2 k ↔ PAn N s n k) : NXn N s n2 b v := by
  rcases h with ⟨h1, h2⟩ | ⟨h1, h2, h3⟩
  · exact Or.inl ⟨h1, fun k hk => h2 k ((he k).mp hk)⟩
  · exact Or.inr ⟨(he v).mpr h1, h2, fun k hk => h3 k ((he k).mp hk)⟩
set_option maxHeartbeats 4000000 in
theorem r_nextBoard {N : Net} {M : Mem} {Q : Int → Mem → Prop} {s b : Int} (hg : Good N) (hN : RH N M) (hQ : ∀ v, NXn N s 48 b v → Q v M) : Calls mX9_nextBoard [(2, 275), (0, s), (1, b)] S0 M Q := by
  have h0 := hg.1
  have hln := hN.1
  refine E_R_nextBoard (B_R_nextBoard_0 ?_)
  have key : ∀ k : Nat, k ≤ N.ln.toNat → ∀ i v, i = (k : Int) → NXn N s (6 * i) b v → AW mX9_nextBoard 8 [(2, 275), (0, s), (1, b), (9, 0), (1, v), (9, 0), (0, i), (9, 0), (9, 0), (9, 0), (9, 0)] M Q := by
    refine up_ind _ ?_ ?_
    · intro i v hi hA
      refine B_R_nextBoard_8 ⟨fun _ => hQ v (NXn_same hA (fun k => ?_)), fun q => absurd (by omega) q⟩
      refine PAn_skip (n := 6 * i) (by omega) (fun l t l0 l1 t0 t1 z1 z2 => ?_) k
      have := hg.lineK l0 l1
      omega
    · intro k hk ih i v hi hA
      have hkk := hg.lineK (l := i) (by omega) (by omega)
      have htr := (hN.line (l := i) (by omega) (by omega)).2.2
      refine B_R_nextBoard_8 ⟨fun q => absurd q (by omega), fun _ => ?_⟩
      have inner : ∀ n : Nat, n ≤ (N.tr i).toNat → ∀ j v, j = (n : Int) → NXn N s (6 * i + j) b v → AW mX9_nextBoard 20 [(2, 275), (0, s), (1, b), (9, 0), (1, v), (9, 0), (0, i), (0, j), (9, 0), (9, 0), (9, 0)] M Q := by
        refine up_ind _ ?_ ?_
        · intro j v hj hA
          refine B_R_nextBoard_20 ⟨by omega, fun _ => ⟨by omega, ih _ _ (by omega) (NXn_same hA (fun k => ?_))⟩, fun q => absurd (by omega) q⟩
          refine PAn_skip (n := 6 * i + j) (by omega) (fun l t l0 l1 t0 t1 z1 z2 => ?_) k
          have := hg.lineK l0 l1
          have : l = i := by omega
          rw [this] at t1 z1
          omega
        · intro n hn ih2 j v hj hA
          have hdb := dpt_bd (s := s) hg (l := i) (t := j) (by omega) (by omega) (by omega) (by omega)
          have pa := PAn_add (s := s) hg (l := i) (t := j) (by omega) (by omega) (by omega) (by omega)
          rw [show 6 * i + j + 1 = 6 * i + (j + 1) by omega] at pa
          have old : (dpt N s i j < 0 ∨ 100 * dpt N s i j + 10 * i + j ≤ b ∨ (0 ≤ v ∧ v ≤ 100 * dpt N s i j + 10 * i + j)) → NXn N s (6 * i + (j + 1)) b v := by
            intro hno
            rcases hA with ⟨h1, h2⟩ | ⟨h1, h2, h3⟩
            · refine Or.inl ⟨h1, fun k hk => ?_⟩
              rcases (pa k).mp hk with q | ⟨q, q2⟩
              · exact h2 k q
              · omega
            · refine Or.inr ⟨(pa v).mpr (Or.inl h1), h2, fun k hk hb => ?_⟩
              rcases (pa k).mp hk with q | ⟨q, q2⟩
              · exact h3 k q hb
              · omega
          have new : 0 ≤ dpt N s i j → b < 100 * dpt N s i j + 10 * i + j → (v < 0 ∨ 100 * dpt N s i j + 10 * i + j < v) → NXn N s (6 * i + (j + 1)) b (100 * dpt N s i j + 10 * i + j) := by
            intro d0 db hv
            refine Or.inr ⟨(pa _).mpr (Or.inr ⟨d0, rfl⟩), db, fun k hk hb => ?_⟩
            rcases (pa k).mp hk with q | ⟨q, q2⟩
            · rcases hA with ⟨h1, h2⟩ | ⟨h1, h2, h3⟩
              · have := h2 k q
                omega
              · have := h3 k q hb
                have := (PAn_bd hg h1).1
                omega
            · omega
          refine B_R_nextBoard_20 ⟨by omega, fun q => absurd q (by omega), fun _ => r_departureAt hg hN (by omega) (by omega) (by omega) (by omega) ⟨by omega, by omega, by omega, by omega, fun z => ⟨by omega, ih2 _ _ (by omega) (old (by omega))⟩, fun z => ⟨fun z2 => ⟨by omega, ih2 _ _ (by omega) (old (by omega))⟩, fun z2 => ⟨fun z3 => ⟨by omega, ih2 _ _ (by omega) (new (by omega) (by omega) (by omega))⟩, fun z3 => ⟨fun z4 => ⟨by omega, ih2 _ _ (by omega) (old (by omega))⟩, fun z4 => ⟨by omega, ih2 _ _ (by omega) (new (by omega) (by omega) (by omega))⟩⟩⟩⟩⟩⟩
      exact inner 0 (Nat.zero_le _) 0 v rfl (by rw [show 6 * i + 0 = 6 * i by omega]; exact hA)
  refine key 0 (Nat.zero_le _) 0 (-1) rfl (Or.inl ⟨rfl, ?_⟩)
  rintro k ⟨l, t, l0, l1, t0, t1, z, -, -⟩
  omega
theorem NX_first {N : Net} {s f v : Int} {A : Int → Int} {c : Int} (hA : SAn N s 48 f A c) (h : NXn N s 48 (100 * f - 1) v) : v = if 0 < c then A 0 else -1 := by
  obtain ⟨h1, h2, h3⟩ := hA
  split
  · rename_i hc
    have a0 := (h3 (A 0)).mpr ⟨0, by omega, hc, rfl⟩
    rcases h with ⟨q1, q2⟩ | ⟨q1, q2, q3⟩
    · have := q2 _ a0.1
      omega
    · obtain ⟨i, i0, i1, e⟩ := (h3 v).mp ⟨q1, by omega⟩
      have := q3 _ a0.1 (by omega)
      by_cases e2 : i = 0
      · rw [← e, e2]
      · have := h2 0 i (by omega) (by omega) i1
        omega
  · rename_i hc
    rcases h with ⟨q1, q2⟩ | ⟨q1, q2, q3⟩
    · exact q1
    · obtain ⟨i, i0, i1, e⟩ := (h3 v).mp ⟨q1, by omega⟩
      omega
theorem NX_next {N : Net} {s f v k : Int} {A : Int → Int} {c : Int} (hA : SAn N s 48 f A c) (k0 : 0 ≤ k) (k1 : k < c) (h : NXn N s 48 (A k) v) : v = if k + 1 < c then A (k + 1) else -1 := by
  obtain ⟨h1, h2, h3⟩ := hA
  have hk := ((h3 (A k)).mpr ⟨k, k0, k1, rfl⟩).2
  split
  · rename_i hc
    have a0 := (h3 (A (k + 1))).mpr ⟨k + 1, by omega, hc, rfl⟩
    have a1 := h2 k (k + 1) k0 (by omega) hc
    rcases h with ⟨q1, q2⟩ | ⟨q1, q2, q3⟩
    · have := q2 _ a0.1
      omega
    · obtain ⟨i, i0, i1, e⟩ := (h3 v).mp ⟨q1, by omega⟩
      have := q3 _ a0.1 (by omega)
      by_cases e2 : i = k + 1
      · rw [← e, e2]
      · by_cases e3 : i ≤ k
        · by_cases e4 : i = k
          · rw [e4] at e
            omega
          · have := h2 i k i0 (by omega) k1
            omega
        · have := h2 (k + 1) i (by omega) (by omega) i1
          omega
  · rename_i hc
    rcases h with ⟨q1, q2⟩ | ⟨q1, q2, q3⟩
    · exact q1
    · obtain ⟨i, i0, i1, e⟩ := (h3 v).mp ⟨q1, by omega⟩
      by_cases e4 : i = k
      · rw [e4] at e
        omega
      · have := h2 i k i0 (by omega) k1
        omega
set_option maxHeartbeats 4000000 in
theorem r_board {N : Net} {M : Mem} {Q : Int → Mem → Prop} {s f i w : Int} (hI : IN N M) (hQ0 : fBz s f i w ≠ 0 → Q (fBz s f i w) (up2 M 275 8 0)) {A : Int → Int} {c : Int} (hQ1 : fBz s f i w = 0 → SAn N s 48 f A c ∧ Q (bdV A c i w) (up2 M 275 8 0)) : Calls mX9_board [(2, 275), (0, s), (0, f), (0, i), (0, w)] S0 M Q := by
  have hg := hI.g
  have hN : RH N (up2 M 275 8 0) := (hI.sc (Sc.rf.up scr8)).r
  have hv : ∀ v, v = fBz s f i w → v ≠ 0 → Q v (up2 M 275 8 0) := fun v h h2 => by rw [h] at h2 ⊢; exact hQ0 h2
  refine E_R_board (B_R_board_0 ?_)
  repeat' (first | refine And.intro ?_ ?_ | refine imp_i (fun _ => ?_))
  all_goals try (exact hv _ (by unfold fBz; (repeat' split) <;> omega) (by omega))
  all_goals try omega
  have hz : fBz s f i w = 0 := by unfold fBz; rw [if_neg (by omega), if_neg (by omega)]
  obtain ⟨hA, hq⟩ := hQ1 hz
  generalize up2 M 275 8 0 = M1 at hq hN ⊢
  have hpos : ∀ j, 0 ≤ j → j < c → 0 ≤ A j ∧ A j ≤ 900075 := fun j j0 j1 => PAn_bd hg ((hA.2.2 _).mpr ⟨j, j0, j1, rfl⟩).1
  have hv2 : ∀ v, v = bdV A c i w → Q v M1 := fun v h => h ▸ hq
  have hA1 := hA.1
  refine r_nextBoard hg hN (fun v0 h0 => ?_)
  rw [NX_first hA h0]
  have key : ∀ k : Nat, k ≤ c.toNat → ∀ j v, j = (k : Int) → j ≤ i → (v = if j < c then A j else -1) → AW mX9_board 59 [(2, 275), (0, s), (9, 0), (0, i), (0, w), (1, v), (9, 0), (0, j)] M1 Q := by
    refine up_ind _ ?_ ?_
    · intro j v hj hji hw
      rw [if_neg (by omega)] at hw
      have e : bdV A c i w = -5 := by unfold bdV; rw [if_neg (by omega)]
      rw [e] at hq
      exact B_R_board_59 ⟨fun _ => ⟨fun q => absurd q (by omega), fun _ => hq⟩, fun _ => ⟨fun _ => ⟨fun q => absurd q (by omega), fun _ => hq⟩, fun q => absurd (by omega) q⟩⟩
    · intro k hk ih j v hj hji hw
      rw [if_pos (by omega)] at hw
      have hp := hpos j (by omega) (by omega)
      refine B_R_board_59 ⟨fun q => ?_, fun q => ⟨fun q2 => absurd q2 (by omega), fun _ => ?_⟩⟩
      · obtain rfl : j = i := by omega
        rw [hw]
        refine ⟨fun _ => ⟨fun z => ⟨fun z2 => ⟨by omega, by omega, hv2 _ ?_⟩, fun z2 => ⟨by omega, by omega, hv2 _ ?_⟩⟩, fun z => ⟨by omega, by omega, by omega, hv2 _ ?_⟩⟩, fun z => absurd (by omega) z⟩
        · unfold bdV
          rw [if_pos (by omega), if_neg z, if_neg z2]
        · unfold bdV
          rw [if_pos (by omega), if_neg z, if_pos z2]
        · unfold bdV
          rw [if_pos (by omega), if_pos z]
      · refine r_nextBoard hg hN (fun v2 h2 => ⟨by omega, ih _ _ (by omega) (by omega) ?_⟩)
        rw [hw] at h2
        exact NX_next hA (by omega) (by omega) h2
  exact key 0 (Nat.zero_le _) 0 _ rfl (by omega) rfl
theorem b_board (s f i w : Int) : Bo mX8_board mX9_board [(0, s), (0, f), (0, i), (0, w)] := by
  intro M K ⟨N, hI⟩ hK
  refine c_board hI (fun h0 => r_board (A := fun _ => 0) (c := 0) hI (fun _ => hK _ _ ⟨N, hI.sc (Sc.rf.up scr8)⟩) (fun h => absurd h h0)) (fun h0 M1 A c hs hA => r_board (hI.sc hs) (fun h => absurd h0 h) (fun _ => ⟨hA, hK _ _ ⟨N, (hI.sc hs).sc (Sc.rf.up scr8)⟩⟩))
