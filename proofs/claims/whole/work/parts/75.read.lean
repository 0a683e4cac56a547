/-! READING THE TAPE: numbers and bytes -/
/-- a number's figures, so many at most: where they end, what they say -/
def nmF (B : Int → Int) : Nat → Int → Int → Int × Int
  | 0, p, v => (p, v)
  | f + 1, p, v => if 48 ≤ B p ∧ B p ≤ 57 then nmF B f (p + 1) (10 * v + B p - 48) else (p, v)
theorem nmF_s (B : Int → Int) (f : Nat) (p v : Int) : nmF B (f + 1) p v = if 48 ≤ B p ∧ B p ≤ 57 then nmF B f (p + 1) (10 * v + B p - 48) else (p, v) := rfl
abbrev eP (B : Int → Int) (f : Nat) (p : Int) : Int := (nmF B f p 0).1
abbrev eV (B : Int → Int) (f : Nat) (p : Int) : Int := (nmF B f p 0).2
abbrev okN (B : Int → Int) (f : Nat) (lo hi p : Int) : Prop := p < eP B f p ∧ lo ≤ eV B f p ∧ eV B f p ≤ hi
/-- a tape: its bytes, 0 behind its end -/
def TP (B : Int → Int) (n : Int) : Prop := (0 ≤ n ∧ n ≤ 80) ∧ (∀ p, 0 ≤ p → p < n → 1 ≤ B p ∧ B p ≤ 127) ∧ ∀ p, n ≤ p → B p = 0
theorem nmF_p {B : Int → Int} {n : Int} (hB : TP B n) : ∀ (f : Nat) (p v : Int), p ≤ n → p ≤ (nmF B f p v).1 ∧ (nmF B f p v).1 ≤ n
  | 0, p, v, h => ⟨Int.le_refl _, h⟩
  | f + 1, p, v, h => by
    rw [nmF_s]
    split
    · rename_i hd
      have hlt : p < n := by
        by_cases e : p < n
        · exact e
        · have := hB.2.2 p (by omega)
          omega
      have := nmF_p hB f (p + 1) (10 * v + B p - 48) (by omega)
      omega
    · exact ⟨Int.le_refl _, h⟩
theorem nmF_v {B : Int → Int} : ∀ (f : Nat) (p v b : Int), 0 ≤ v → v < b → 0 ≤ (nmF B f p v).2 ∧ (nmF B f p v).2 < b * 10 ^ f
  | 0, p, v, b, h0, h1 => by
    show 0 ≤ v ∧ v < b * 10 ^ 0
    rw [Int.pow_zero, Int.mul_one]
    exact ⟨h0, h1⟩
  | f + 1, p, v, b, h0, h1 => by
    rw [nmF_s]
    have e : b * 10 ^ (f + 1) = (10 * b) * 10 ^ f := by
      rw [Int.pow_succ, Int.mul_comm 10 b, Int.mul_assoc, Int.mul_comm (10 ^ f) 10]
    rw [e]
    split
    · exact nmF_v f (p + 1) (10 * v + B p - 48) (10 * b) (by omega) (by omega)
    · have hp : (0 : Int) < 10 ^ f := Int.pow_pos (by omega)
      have : 10 * b * 1 ≤ 10 * b * 10 ^ f := Int.mul_le_mul_of_nonneg_left (by omega) (by omega)
      show 0 ≤ v ∧ v < 10 * b * 10 ^ f
      omega
theorem eP_le {B : Int → Int} {n p : Int} (hB : TP B n) (f : Nat) (h : p ≤ n) : p ≤ eP B f p ∧ eP B f p ≤ n := nmF_p hB f p 0 h
theorem eV_bd (B : Int → Int) (p : Int) : (∀ f, 0 ≤ eV B f p) ∧ eV B 4 p ≤ 9999 ∧ eV B 3 p ≤ 999 ∧ eV B 2 p ≤ 99 ∧ eV B 1 p ≤ 9 := by
  have h := fun f => nmF_v (B := B) f p 0 1 (by omega) (by omega)
  refine ⟨fun f => (h f).1, ?_, ?_, ?_, ?_⟩
  · have := (h 4).2
    rw [show (1 : Int) * 10 ^ 4 = 10000 by decide] at this
    show (nmF B 4 p 0).2 ≤ 9999
    omega
  · have := (h 3).2
    rw [show (1 : Int) * 10 ^ 3 = 1000 by decide] at this
    show (nmF B 3 p 0).2 ≤ 999
    omega
  · have := (h 2).2
    rw [show (1 : Int) * 10 ^ 2 = 100 by decide] at this
    show (nmF B 2 p 0).2 ≤ 99
    omega
  · have := (h 1).2
    rw [show (1 : Int) * 10 ^ 1 = 10 by decide] at this
    show (nmF B 1 p 0).2 ≤ 9
    omega
/-- the class's tape; the reference's -/
def TC (B : Int → Int) (n : Int) (M : Mem) : Prop := M 263 1 = n ∧ ∀ p, 0 ≤ p → p < n → M 264 p = B p
def TR (B : Int → Int) (n : Int) (M : Mem) : Prop := M 275 26 = n ∧ ∀ p, 0 ≤ p → p < n → M 292 p = B p
/-- nothing has changed but where the reader is -/
def RdF (M M1 : Mem) : Prop := ∀ a i, ¬ (a = 267 ∧ i ≠ 3) → M1 a i = M a i
theorem RdF.rf {M : Mem} : RdF M M := fun _ _ _ => rfl
theorem RdF.tr {M M1 M2 : Mem} (h : RdF M M1) (h2 : RdF M1 M2) : RdF M M2 := fun a i q => (h2 a i q).trans (h a i q)
theorem RdF.up {M M1 : Mem} {i v : Int} (h : RdF M M1) (hi : i ≠ 3) : RdF M (up2 M1 267 i v) := fun a j q => by
  rw [up2_ni (by omega)]
  exact h a j q
theorem TC.rd {B : Int → Int} {n : Int} {M M1 : Mem} (h : TC B n M) (hf : RdF M M1) : TC B n M1 := ⟨(hf _ _ (by omega)).trans h.1, fun p p0 p1 => (hf _ _ (by omega)).trans (h.2 p p0 p1)⟩
/-- a byte that is asked for -/
theorem tkB {B : Int → Int} {p n b c : Int} {P0 P1 : Prop} (hB : TP B n) (p0 : 0 ≤ p) (hb : p < n → b = B p) (hc : c ≠ 0) (h1 : p < n → B p = c → P1) (h0 : B p ≠ c → P0) : ((p < 0 → P0) ∧ (¬ (p < 0) → ((n ≤ p → P0) ∧ (¬ (n ≤ p) → ((0 : Int) ≤ p ∧ p < 80) ∧ ((b = c → P1) ∧ (¬ b = c → P0)))))) := by
  have hn := hB.1
  refine ⟨fun z => absurd z (by omega), fun _ => ⟨fun z => h0 ?_, fun z => ⟨by omega, fun y => h1 (by omega) ?_, fun y => h0 ?_⟩⟩⟩
  · rw [hB.2.2 p z]
    exact fun w => hc w.symm
  · rw [← hb (by omega)]
    exact y
  · rw [← hb (by omega)]
    exact y
set_option maxHeartbeats 8000000 in
theorem c_takeNumber {B : Int → Int} {n p lo hi : Int} {f : Nat} {M : Mem} {Q : Int → Mem → Prop} (hB : TP B n) (hT : TC B n M) (hp : M 267 2 = p) (p0 : 0 ≤ p) (p1 : p ≤ n) (hf : f ≤ 4) (hQ1 : okN B f lo hi p → ∀ M1, RdF M M1 → M1 267 2 = eP B f p → M1 267 4 = eV B f p → M1 267 5 = p → Q 1 M1) (hQ0 : ¬ okN B f lo hi p → ∀ M1, RdF M M1 → M1 267 6 = p → Q 0 M1) : Calls mX4_takeNumber [(2, 267), (0, (f : Int)), (0, lo), (0, hi)] S0 M Q := by
  have hn := hB.1
  refine E_Reader_takeNumber (B_Reader_takeNumber_0 ?_)
  have fin : ∀ M1 : Mem, RdF M M1 → M1 267 2 = eP B f p → M1 267 4 = eV B f p → M1 267 5 = p → ((¬ (M1 267 2) = (M1 267 5) → (((M1 267 4) < lo → Q 0 (up2 M1 267 6 (M1 267 5))) ∧ (¬ ((M1 267 4) < lo) → (((M1 267 4) ≤ hi → Q 1 M1) ∧ (¬ ((M1 267 4) ≤ hi) → Q 0 (up2 M1 267 6 (M1 267 5))))))) ∧ ((M1 267 2) = (M1 267 5) → Q 0 (up2 M1 267 6 (M1 267 2)))) := by
    intro M1 g1 g2 g3 g4
    have hle := eP_le hB f p1
    rw [g2, g3, g4]
    refine ⟨fun z => ⟨fun z2 => hQ0 (fun y => by omega) _ (g1.up (by omega)) (up2_at ⟨rfl, rfl⟩), fun z2 => ⟨fun z3 => hQ1 ⟨by omega, by omega, z3⟩ M1 g1 g2 g3 g4, fun z3 => hQ0 (fun y => z3 y.2.2) _ (g1.up (by omega)) (up2_at ⟨rfl, rfl⟩)⟩⟩, fun z => hQ0 (fun y => by omega) _ (g1.up (by omega)) ?_⟩
    rw [up2_at ⟨rfl, rfl⟩]
    exact z
  have key : ∀ k : Nat, k ≤ f → ∀ i M1 q v, i = (k : Int) → RdF M M1 → M1 267 2 = q → M1 267 4 = v → M1 267 5 = p → 0 ≤ q → q ≤ n → (0 ≤ v ∧ v ≤ 9999) → (v < 10 ^ k) → nmF B (f - k) q v = nmF B f p 0 → AW mX4_takeNumber 16 [(2, 267), (0, (f : Int)), (0, lo), (0, hi), (0, i)] M1 Q := by
    refine up_ind _ ?_ ?_
    · intro i M1 q v hik hr h2 h4 h5 q0 q1 hv hv2 he
      rw [Nat.sub_self] at he
      have he1 : q = eP B f p := congrArg Prod.fst he
      have he2 : v = eV B f p := congrArg Prod.snd he
      exact B_Reader_takeNumber_16 ⟨fun _ => fin M1 hr (h2.trans he1) (h4.trans he2) h5, fun z => absurd (by omega) z⟩
    · intro k hk ih i M1 q v hik hr h2 h4 h5 q0 q1 hv hv2 he
      rw [show f - k = (f - (k + 1)) + 1 by omega, nmF_s] at he
      have hT1 := hT.rd hr
      have stop : ¬ (48 ≤ B q ∧ B q ≤ 57) → ((¬ (M1 267 2) = (M1 267 5) → (((M1 267 4) < lo → Q 0 (up2 M1 267 6 (M1 267 5))) ∧ (¬ ((M1 267 4) < lo) → (((M1 267 4) ≤ hi → Q 1 M1) ∧ (¬ ((M1 267 4) ≤ hi) → Q 0 (up2 M1 267 6 (M1 267 5))))))) ∧ ((M1 267 2) = (M1 267 5) → Q 0 (up2 M1 267 6 (M1 267 2)))) := by
        intro z
        rw [if_neg z] at he
        have he1 : q = eP B f p := congrArg Prod.fst he
        have he2 : v = eV B f p := congrArg Prod.snd he
        exact fin M1 hr (h2.trans he1) (h4.trans he2) h5
      have p10 : (10 : Int) ^ k ≤ 1000 := by
        have : k = 0 ∨ k = 1 ∨ k = 2 ∨ k = 3 := by omega
        rcases this with rfl | rfl | rfl | rfl <;> decide
      have hs : (10 : Int) ^ (k + 1) = 10 * 10 ^ k := by rw [Int.pow_succ, Int.mul_comm]
      refine B_Reader_takeNumber_16 ⟨fun z => absurd z (by omega), fun _ => ⟨fun z => absurd z (by omega), fun _ => ⟨fun z => stop ?_, fun z => ?_⟩⟩⟩
      · rw [hT1.1, h2] at z
        rw [hB.2.2 q z]
        omega
      · have hq : q < n := by
          rw [hT1.1, h2] at z
          omega
        have hbq : M1 264 (M1 267 2) = B q := by rw [h2]; exact hT1.2 q q0 hq
        rw [hbq]
        refine ⟨by omega, fun y => stop (by omega), fun y => ⟨fun w => stop (by omega), fun w => ?_⟩⟩
        rw [if_pos (by omega)] at he
        have hb := hB.2.1 q q0 hq
        refine ⟨by omega, by omega, by omega, by omega, by omega, ih _ _ (q + 1) (10 * v + B q - 48) (by omega) ((hr.up (by omega)).up (by omega)) ?_ ?_ ?_ (by omega) (by omega) (by omega) (by omega) he⟩
        · rw [up2_at ⟨rfl, rfl⟩, h2]
        · rw [up2_ni (by omega), up2_at ⟨rfl, rfl⟩, h4]
          omega
        · rw [up2_ni (by omega), up2_ni (by omega)]
          exact h5
  refine key 0 (Nat.zero_le _) 0 _ p 0 rfl ((RdF.rf.up (by omega)).up (by omega)) ?_ (up2_at ⟨rfl, rfl⟩) ?_ p0 p1 (by omega) (by decide) rfl
  · rw [up2_ni (by omega), up2_ni (by omega)]
    exact hp
  · rw [up2_ni (by omega), up2_at ⟨rfl, rfl⟩, hp]
-- THE REFERENCE
/-- what the reference's reading may change, its timetable aside -/
def PdF (M M1 : Mem) : Prop := ∀ a i, ¬ (a = 275 ∧ 27 ≤ i ∧ i ≤ 29) → M1 a i = M a i
theorem PdF.rf {M : Mem} : PdF M M := fun _ _ _ => rfl
theorem PdF.tr {M M1 M2 : Mem} (h : PdF M M1) (h2 : PdF M1 M2) : PdF M M2 := fun a i q => (h2 a i q).trans (h a i q)
theorem PdF.up {M M1 : Mem} {i v : Int} (h : PdF M M1) (hi : 27 ≤ i ∧ i ≤ 29) : PdF M (up2 M1 275 i v) := fun a j q => by
  rw [up2_ni (by omega)]
  exact h a j q
theorem TR.pd {B : Int → Int} {n : Int} {M M1 : Mem} (h : TR B n M) (hf : PdF M M1) : TR B n M1 := ⟨(hf _ _ (by omega)).trans h.1, fun p p0 p1 => (hf _ _ (by omega)).trans (h.2 p p0 p1)⟩
/-- nothing is wrong, and one is at p -/
def RS (p : Int) (M : Mem) : Prop := M 275 28 = 0 ∧ M 275 27 = p
/-- something was wrong at q; nothing has changed since M0 but what is put back -/
def BdR (M0 : Mem) (q : Int) (M : Mem) : Prop := M 275 28 ≠ 0 ∧ M 275 27 = q ∧ (0 ≤ q ∧ q ≤ 80) ∧ ∀ a i, ¬ (a = 275 ∧ (i = 0 ∨ (27 ≤ i ∧ i ≤ 29))) → ¬ (276 ≤ a ∧ a ≤ 282) → M a i = M0 a i
theorem BdR.pd {M0 M M1 : Mem} {q : Int} (h : BdR M0 q M) (hf : PdF M M1) (h28 : M1 275 28 ≠ 0) (h27 : M1 275 27 = q) : BdR M0 q M1 := ⟨h28, h27, h.2.2.1, fun a i q1 q2 => (hf a i (by omega)).trans (h.2.2.2 a i q1 q2)⟩
theorem r_wants_bad {M0 M : Mem} {Q : Int → Mem → Prop} {q c : Int} (h : BdR M0 q M) (hQ : ∀ M1, PdF M M1 → BdR M0 q M1 → Q 0 M1) : Calls mX9_wants [(2, 275), (0, c)] S0 M Q := by
  obtain ⟨h1, h2, h3, h4⟩ := id h
  refine E_R_wants (B_R_wants_0 ⟨fun _ => ⟨by omega, hQ _ ((PdF.rf.up (by omega)).up (by omega)) (h.pd ((PdF.rf.up (by omega)).up (by omega)) ?_ ?_)⟩, fun z => absurd z h1⟩)
  · rw [up2_at ⟨rfl, rfl⟩]
    omega
  · rw [up2_ni (by omega), up2_at ⟨rfl, rfl⟩]
    omega
theorem r_within_bad {M0 M : Mem} {Q : Int → Mem → Prop} {q f lo hi : Int} (h : BdR M0 q M) (hf : 0 ≤ f) (hQ : ∀ M1, PdF M M1 → BdR M0 q M1 → Q lo M1) : Calls mX9_readWithin [(2, 275), (0, f), (0, lo), (0, hi)] S0 M Q := by
  obtain ⟨h1, h2, h3, h4⟩ := id h
  refine E_R_readWithin (B_R_readWithin_0 (E_R_readFigures (B_R_readFigures_0 ⟨fun _ => ?_, fun z => absurd z h1⟩)))
  have w : BdR M0 q (up2 (up2 M 275 28 1) 275 29 (M 275 27)) := h.pd ((PdF.rf.up (by omega)).up (by omega)) (by rw [up2_ni (by omega), up2_at ⟨rfl, rfl⟩]; omega) (by rw [up2_ni (by omega), up2_ni (by omega)]; exact h2)
  have hq := hQ _ ((PdF.rf.up (by omega)).up (by omega)) w
  have b := w.1
  generalize up2 (up2 M 275 28 1) 275 29 (M 275 27) = M1 at hq b
  have fin : (((0 : Int) < lo → ((¬ (M1 275 28) = 0 → Q lo M1) ∧ ((M1 275 28) = 0 → Q lo (up2 (up2 M1 275 28 1) 275 27 (M1 275 29))))) ∧ (¬ ((0 : Int) < lo) → ((hi < 0 → ((¬ (M1 275 28) = 0 → Q lo M1) ∧ ((M1 275 28) = 0 → Q lo (up2 (up2 M1 275 28 1) 275 27 (M1 275 29))))) ∧ (¬ (hi < 0) → ((¬ (M1 275 28) = 0 → Q lo M1) ∧ ((M1 275 28) = 0 → Q 0 M1)))))) :=
    ⟨fun _ => ⟨fun _ => hq, fun z => absurd z b⟩, fun _ => ⟨fun _ => ⟨fun _ => hq, fun z => absurd z b⟩, fun _ => ⟨fun _ => hq, fun z => absurd z b⟩⟩⟩
  exact B_R_readFigures_45 ⟨fun _ => fin, fun _ => ⟨fun _ => fin, fun z => absurd z b⟩⟩
theorem r_wants {B : Int → Int} {n p c : Int} {M0 M : Mem} {Q : Int → Mem → Prop} (hB : TP B n) (hT : TR B n M) (h : RS p M) (p0 : 0 ≤ p) (p1 : p ≤ n) (hc : 0 < c) (hf : ∀ a i, ¬ (a = 275 ∧ (i = 0 ∨ (27 ≤ i ∧ i ≤ 29))) → ¬ (276 ≤ a ∧ a ≤ 282) → M a i = M0 a i) (hQ1 : p < n → B p = c → ∀ M1, PdF M M1 → RS (p + 1) M1 → Q 0 M1) (hQ0 : B p ≠ c → ∀ M1, PdF M M1 → BdR M0 p M1 → Q 0 M1) : Calls mX9_wants [(2, 275), (0, c)] S0 M Q := by
  obtain ⟨h1, h2⟩ := h
  have hn := hB.1
  have bad : B p ≠ c → Q 0 (up2 (up2 M 275 27 ((M 275 27) + 0)) 275 28 1) := fun z => hQ0 z _ ((PdF.rf.up (by omega)).up (by omega)) ⟨by rw [up2_at ⟨rfl, rfl⟩]; omega, by rw [up2_ni (by omega), up2_at ⟨rfl, rfl⟩]; omega, by omega, fun a i q1 q2 => by rw [up2_ni (by omega), up2_ni (by omega)]; exact hf a i q1 q2⟩
  refine E_R_wants (B_R_wants_0 ⟨fun z => absurd h1 z, fun _ => ⟨fun z => ⟨fun _ => ⟨by omega, bad ?_⟩, fun y => absurd y (by omega)⟩, fun z => ⟨by have := hT.1; omega, ?_⟩⟩⟩)
  · rw [hT.1, h2] at z
    rw [hB.2.2 p z]
    omega
  · have hp : p < n := by
      rw [hT.1, h2] at z
      omega
    have hb : M 292 (M 275 27) = B p := by rw [h2]; exact hT.2 p p0 hp
    rw [hb]
    refine ⟨fun y => ⟨by omega, bad y⟩, fun y => ⟨by omega, hQ1 hp y _ ((PdF.rf.up (by omega)).up (by omega)) ⟨up2_at ⟨rfl, rfl⟩, ?_⟩⟩⟩
    rw [up2_ni (by omega), up2_at ⟨rfl, rfl⟩, h2]
set_option maxHeartbeats 8000000 in
theorem r_within {B : Int → Int} {n p lo hi : Int} {f : Nat} {M0 M : Mem} {Q : Int → Mem → Prop} (hB : TP B n) (hT : TR B n M) (h : RS p M) (p0 : 0 ≤ p) (p1 : p ≤ n) (hf4 : f ≤ 4) (hf1 : 1 ≤ f) (hf : ∀ a i, ¬ (a = 275 ∧ (i = 0 ∨ (27 ≤ i ∧ i ≤ 29))) → ¬ (276 ≤ a ∧ a ≤ 282) → M a i = M0 a i) (hQ1 : okN B f lo hi p → ∀ M1, PdF M M1 → RS (eP B f p) M1 → M1 275 29 = p → Q (eV B f p) M1) (hQ0 : ¬ okN B f lo hi p → ∀ M1, PdF M M1 → BdR M0 p M1 → Q lo M1) : Calls mX9_readWithin [(2, 275), (0, (f : Int)), (0, lo), (0, hi)] S0 M Q := by
  obtain ⟨h1, h2⟩ := h
  have hn := hB.1
  have hv0 := (eV_bd B p).1 f
  have hle := eP_le hB f p1
  refine E_R_readWithin (B_R_readWithin_0 (E_R_readFigures (B_R_readFigures_0 ?_)))
  -- no figure at all
  have none : ¬ (48 ≤ B p ∧ B p ≤ 57) → AW mX9_readFigures 45 [(2, 275), (0, (f : Int)), (0, 0), (0, 0)] (up2 (up2 M 275 28 1) 275 29 (M 275 27)) (fun r1 M2 => ((r1 < lo → ((¬ (M2 275 28) = 0 → Q lo M2) ∧ ((M2 275 28) = 0 → Q lo (up2 (up2 M2 275 28 1) 275 27 (M2 275 29))))) ∧ (¬ (r1 < lo) → ((hi < r1 → ((¬ (M2 275 28) = 0 → Q lo M2) ∧ ((M2 275 28) = 0 → Q lo (up2 (up2 M2 275 28 1) 275 27 (M2 275 29))))) ∧ (¬ (hi < r1) → ((¬ (M2 275 28) = 0 → Q lo M2) ∧ ((M2 275 28) = 0 → Q r1 M2))))))) := by
    intro z
    have hno : ¬ okN B f lo hi p := by
      rintro ⟨y, -⟩
      obtain ⟨g, rfl⟩ : ∃ g, f = g + 1 := ⟨f - 1, by omega⟩
      have e : eP B (g + 1) p = p := by
        show (nmF B (g + 1) p 0).1 = p
        rw [nmF_s, if_neg z]
      omega
    have w : BdR M0 p (up2 (up2 M 275 28 1) 275 29 (M 275 27)) := ⟨by rw [up2_ni (by omega), up2_at ⟨rfl, rfl⟩]; omega, by rw [up2_ni (by omega), up2_ni (by omega)]; exact h2, by omega, fun a i q1 q2 => by rw [up2_ni (by omega), up2_ni (by omega)]; exact hf a i q1 q2⟩
    have hq := hQ0 hno _ ((PdF.rf.up (by omega)).up (by omega)) w
    have b := w.1
    generalize up2 (up2 M 275 28 1) 275 29 (M 275 27) = M1 at hq b
    have fin : (((0 : Int) < lo → ((¬ (M1 275 28) = 0 → Q lo M1) ∧ ((M1 275 28) = 0 → Q lo (up2 (up2 M1 275 28 1) 275 27 (M1 275 29))))) ∧ (¬ ((0 : Int) < lo) → ((hi < 0 → ((¬ (M1 275 28) = 0 → Q lo M1) ∧ ((M1 275 28) = 0 → Q lo (up2 (up2 M1 275 28 1) 275 27 (M1 275 29))))) ∧ (¬ (hi < 0) → ((¬ (M1 275 28) = 0 → Q lo M1) ∧ ((M1 275 28) = 0 → Q 0 M1)))))) :=
      ⟨fun _ => ⟨fun _ => hq, fun z => absurd z b⟩, fun _ => ⟨fun _ => ⟨fun _ => hq, fun z => absurd z b⟩, fun _ => ⟨fun _ => hq, fun z => absurd z b⟩⟩⟩
    exact B_R_readFigures_45 ⟨fun _ => fin, fun _ => ⟨fun _ => fin, fun z => absurd z b⟩⟩
  refine ⟨fun z => absurd h1 z, fun _ => ⟨fun z => none ?_, fun z => ?_⟩⟩
  · rw [hT.1, h2] at z
    rw [hB.2.2 p z]
    omega
  have hp : p < n := by
    rw [hT.1, h2] at z
    omega
  have hbp : M 292 (M 275 27) = B p := by rw [h2]; exact hT.2 p p0 hp
  rw [hbp]
  refine ⟨by omega, fun y => none (by omega), fun y => ⟨fun w => none (by omega), fun w => ?_⟩⟩
  have more : p < eP B f p := by
    obtain ⟨g, rfl⟩ : ∃ g, f = g + 1 := ⟨f - 1, by omega⟩
    have e : eP B (g + 1) p = (nmF B g (p + 1) (10 * 0 + B p - 48)).1 := by
      show (nmF B (g + 1) p 0).1 = _
      rw [nmF_s, if_pos (by omega)]
    have := nmF_p hB g (p + 1) (10 * 0 + B p - 48) (by omega)
    omega
  have fin : ∀ M1 : Mem, PdF M M1 → M1 275 27 = eP B f p → M1 275 28 = 0 → M1 275 29 = p → ((eV B f p < lo → ((¬ (M1 275 28) = 0 → Q lo M1) ∧ ((M1 275 28) = 0 → Q lo (up2 (up2 M1 275 28 1) 275 27 (M1 275 29))))) ∧ (¬ (eV B f p < lo) → ((hi < eV B f p → ((¬ (M1 275 28) = 0 → Q lo M1) ∧ ((M1 275 28) = 0 → Q lo (up2 (up2 M1 275 28 1) 275 27 (M1 275 29))))) ∧ (¬ (hi < eV B f p) → ((¬ (M1 275 28) = 0 → Q lo M1) ∧ ((M1 275 28) = 0 → Q (eV B f p) M1)))))) := by
    intro M1 g1 g2 g3 g4
    have bad : ¬ okN B f lo hi p → Q lo (up2 (up2 M1 275 28 1) 275 27 (M1 275 29)) := fun hno => hQ0 hno _ ((g1.up (by omega)).up (by omega)) ⟨by rw [up2_ni (by omega), up2_at ⟨rfl, rfl⟩]; omega, by rw [up2_at ⟨rfl, rfl⟩]; exact g4, by omega, fun a i q1 q2 => by rw [up2_ni (by omega), up2_ni (by omega), g1 a i (by omega)]; exact hf a i q1 q2⟩
    exact ⟨fun z => ⟨fun y => absurd g3 y, fun _ => bad (fun y => by omega)⟩, fun z => ⟨fun z2 => ⟨fun y => absurd g3 y, fun _ => bad (fun y => by omega)⟩, fun z2 => ⟨fun y => absurd g3 y, fun _ => hQ1 ⟨more, by omega, by omega⟩ M1 g1 ⟨g3, g2⟩ g4⟩⟩⟩
  have key : ∀ k : Nat, k ≤ f → ∀ i M1 q v, i = (k : Int) → PdF M M1 → M1 275 27 = q → M1 275 28 = 0 → M1 275 29 = p → 0 ≤ q → q ≤ n → (0 ≤ v ∧ v ≤ 9999) → (v < 10 ^ k) → nmF B (f - k) q v = nmF B f p 0 → AW mX9_readFigures 45 [(2, 275), (0, (f : Int)), (0, v), (0, i)] M1 (fun r1 M2 => ((r1 < lo → ((¬ (M2 275 28) = 0 → Q lo M2) ∧ ((M2 275 28) = 0 → Q lo (up2 (up2 M2 275 28 1) 275 27 (M2 275 29))))) ∧ (¬ (r1 < lo) → ((hi < r1 → ((¬ (M2 275 28) = 0 → Q lo M2) ∧ ((M2 275 28) = 0 → Q lo (up2 (up2 M2 275 28 1) 275 27 (M2 275 29))))) ∧ (¬ (hi < r1) → ((¬ (M2 275 28) = 0 → Q lo M2) ∧ ((M2 275 28) = 0 → Q r1 M2))))))) := by
    refine up_ind _ ?_ ?_
    · intro i M1 q v hik hr h2 h28 h29 q0 q1 hv hv2 he
      rw [Nat.sub_self] at he
      have he1 : q = eP B f p := congrArg Prod.fst he
      have he2 : v = eV B f p := congrArg Prod.snd he
      rw [he2]
      exact B_R_readFigures_45 ⟨fun _ => fin M1 hr (h2.trans he1) h28 h29, fun z => absurd (by omega) z⟩
    · intro k hk ih i M1 q v hik hr h2 h28 h29 q0 q1 hv hv2 he
      rw [show f - k = (f - (k + 1)) + 1 by omega, nmF_s] at he
      have hT1 := hT.pd hr
      have stop : ¬ (48 ≤ B q ∧ B q ≤ 57) → ((v < lo → ((¬ (M1 275 28) = 0 → Q lo M1) ∧ ((M1 275 28) = 0 → Q lo (up2 (up2 M1 275 28 1) 275 27 (M1 275 29))))) ∧ (¬ (v < lo) → ((hi < v → ((¬ (M1 275 28) = 0 → Q lo M1) ∧ ((M1 275 28) = 0 → Q lo (up2 (up2 M1 275 28 1) 275 27 (M1 275 29))))) ∧ (¬ (hi < v) → ((¬ (M1 275 28) = 0 → Q lo M1) ∧ ((M1 275 28) = 0 → Q v M1)))))) := by
        intro z
        rw [if_neg z] at he
        have he1 : q = eP B f p := congrArg Prod.fst he
        have he2 : v = eV B f p := congrArg Prod.snd he
        rw [he2]
        exact fin M1 hr (h2.trans he1) h28 h29
      have p10 : (10 : Int) ^ k ≤ 1000 := by
        have : k = 0 ∨ k = 1 ∨ k = 2 ∨ k = 3 := by omega
        rcases this with rfl | rfl | rfl | rfl <;> decide
      have hs : (10 : Int) ^ (k + 1) = 10 * 10 ^ k := by rw [Int.pow_succ, Int.mul_comm]
      refine B_R_readFigures_45 ⟨fun z => absurd z (by omega), fun _ => ⟨fun z => absurd h28 z, fun _ => ⟨fun z => stop ?_, fun z => ?_⟩⟩⟩
      · rw [hT1.1, h2] at z
        rw [hB.2.2 q z]
        omega
      · have hq : q < n := by
          rw [hT1.1, h2] at z
          omega
        have hbq : M1 292 (M1 275 27) = B q := by rw [h2]; exact hT1.2 q q0 hq
        rw [hbq]
        refine ⟨by omega, fun y => stop (by omega), fun y => ⟨fun w => stop (by omega), fun w => ?_⟩⟩
        rw [if_pos (by omega)] at he
        have hb := hB.2.1 q q0 hq
        refine ⟨by omega, by omega, by omega, by omega, by omega, ih _ _ (q + 1) (10 * v + B q - 48) (by omega) (hr.up (by omega)) ?_ ?_ ?_ (by omega) (by omega) (by omega) (by omega) he⟩
        · rw [up2_at ⟨rfl, rfl⟩, h2]
        · rw [up2_ni (by omega)]
          exact h28
        · rw [up2_ni (by omega)]
          exact h29
  refine key 0 (Nat.zero_le _) 0 _ p 0 rfl ((PdF.rf.up (by omega)).up (by omega)) ?_ ?_ ?_ p0 p1 (by omega) (by decide) rfl
  · rw [up2_ni (by omega), up2_ni (by omega)]
    exact h2
  · rw [up2_ni (by omega), up2_at ⟨rfl, rfl⟩]
  · rw [up2_at ⟨rfl, rfl⟩]
    exact h2
