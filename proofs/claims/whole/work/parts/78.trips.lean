/-! A PART OF A TABLE: trips -/
def nTrip (N : Net) (l m : Int) (f : Int → Int) : Net := (N.ln, N.kd, N.sz, (fun x => if x = l then N.tr l + 1 else N.tr x), N.sp, (fun x y z => if x = l ∧ y = N.tr l then f z else N.mi x y z), (fun x y => if x = l ∧ y = N.tr l then runF (N.kd l) m else N.rn x y), N.pt, (fun x y => if x = l ∧ y = N.tr l then m else N.fi x y))
theorem nTrip_tr (N : Net) (l m : Int) (f : Int → Int) (x : Int) : (nTrip N l m f).tr x = if x = l then N.tr l + 1 else N.tr x := rfl
theorem nTrip_mi (N : Net) (l m : Int) (f : Int → Int) (x y z : Int) : (nTrip N l m f).mi x y z = if x = l ∧ y = N.tr l then f z else N.mi x y z := rfl
theorem nTrip_rn (N : Net) (l m : Int) (f : Int → Int) (x y : Int) : (nTrip N l m f).rn x y = if x = l ∧ y = N.tr l then runF (N.kd l) m else N.rn x y := rfl
theorem nTrip_fi (N : Net) (l m : Int) (f : Int → Int) (x y : Int) : (nTrip N l m f).fi x y = if x = l ∧ y = N.tr l then m else N.fi x y := rfl
theorem nTrip_good {N : Net} {l m : Int} {f : Int → Int} (hg : Good N) (ht : N.tr l < 6) (l0 : 0 ≤ l) (l1 : l < N.ln) (hm : 0 ≤ m ∧ m ≤ 1999) (hb : ∀ i, 0 ≤ i → i < N.sz l → 0 ≤ f i ∧ f i ≤ 1999) (hs : ∀ i j, 0 ≤ i → i ≤ j → j < N.sz l → f i ≤ f j) : Good (nTrip N l m f) := by
  obtain ⟨h1, h2, h3⟩ := hg
  refine ⟨h1, fun x x0 x1 => ?_, h3⟩
  obtain ⟨g1, g2, g3, g4, g5, g6⟩ := h2 x x0 x1
  refine ⟨g1, g2, ?_, g4, g5, fun y y0 y1 => ?_⟩
  · rw [nTrip_tr]
    split
    · rename_i e
      rw [e] at g3
      omega
    · exact g3
  · rw [nTrip_tr] at y1
    rw [nTrip_rn, nTrip_fi]
    by_cases e : x = l ∧ y = N.tr l
    · obtain ⟨rfl, e2⟩ := e
      rw [if_pos ⟨rfl, e2⟩, if_pos ⟨rfl, e2⟩]
      refine ⟨rfl, hm, fun i i0 i1 => ?_, fun i j i0 ij j1 => ?_⟩
      · rw [nTrip_mi, if_pos ⟨rfl, e2⟩]
        have := hb i i0 i1
        omega
      · rw [nTrip_mi, nTrip_mi, if_pos ⟨rfl, e2⟩, if_pos ⟨rfl, e2⟩]
        exact hs i j i0 ij j1
    · have y1' : y < N.tr x := by
        by_cases ex : x = l
        · rw [if_pos ex, ← ex] at y1
          have : y ≠ N.tr x := fun z => e ⟨ex, by rw [z, ex]⟩
          omega
        · rw [if_neg ex] at y1
          exact y1
      obtain ⟨w1, w2, w3, w4⟩ := g6 y y0 y1'
      rw [if_neg e, if_neg e]
      refine ⟨w1, w2, fun i i0 i1 => ?_, fun i j i0 ij j1 => ?_⟩
      · rw [nTrip_mi, if_neg e]
        exact w3 i i0 i1
      · rw [nTrip_mi, nTrip_mi, if_neg e, if_neg e]
        exact w4 i j i0 ij j1
/-- the minutes of a trip behind its first, so many -/
def tpL (B : Int → Int) (N : Net) (l m0 : Int) : Nat → Int → Int → Int → (Int → Int) → Out
  | 0, _, _, p, f => (1, p, nTrip N l m0 f)
  | k + 1, i, m, p, f => byt B N 43 p fun q => num B N 3 1 (1999 - m) q fun e v => tpL B N l m0 k (i + 1) (m + v) e (fun j => if j = i then m + v else f j)
theorem tpL_0 (B : Int → Int) (N : Net) (l m0 i m p : Int) (f : Int → Int) : tpL B N l m0 0 i m p f = (1, p, nTrip N l m0 f) := rfl
theorem tpL_s (B : Int → Int) (N : Net) (l m0 : Int) (k : Nat) (i m p : Int) (f : Int → Int) : tpL B N l m0 (k + 1) i m p f = byt B N 43 p fun q => num B N 3 1 (1999 - m) q fun e v => tpL B N l m0 k (i + 1) (m + v) e (fun j => if j = i then m + v else f j) := rfl
def oT (B : Int → Int) (N : Net) (p : Int) : Out := num B N 1 0 (N.ln - 1) (p + 1) fun e1 l => if 6 ≤ N.tr l then (0, p, N) else byt B N 58 e1 fun q1 => num B N 4 0 1999 q1 fun e2 m => tpL B N l m (N.sz l - 1).toNat 1 m e2 (fun _ => m)
theorem tpL_ok {B : Int → Int} {N : Net} {n l m0 p0 : Int} (hB : TP B n) (hg : Good N) (ht : N.tr l < 6) (l0 : 0 ≤ l) (l1 : l < N.ln) (hm0 : 0 ≤ m0 ∧ m0 ≤ 1999) : ∀ (k : Nat) (i m p : Int) (f : Int → Int), i + (k : Int) = N.sz l → 1 ≤ i → 0 ≤ m → m ≤ 1999 → p0 + 1 ≤ p → p ≤ n → (∀ j, 0 ≤ j → j < i → 0 ≤ f j ∧ f j ≤ m) → (∀ j h, 0 ≤ j → j ≤ h → h < i → f j ≤ f h) → OkO n p0 (tpL B N l m0 k i m p f) := by
  intro k
  induction k with
  | zero =>
    intro i m p f hi i1 m1 m2 hp hpn hb hs
    rw [tpL_0]
    refine okO_1 hp hpn (nTrip_good hg ht l0 l1 hm0 (fun j j0 j1 => ?_) (fun j h j0 jh h1 => hs j h j0 jh (by omega)))
    have := hb j j0 (by omega)
    omega
  | succ k ih =>
    intro i m p f hi i1 m1 m2 hp hpn hb hs
    rw [tpL_s]
    refine okO_byt hB (by omega) hpn (by decide) (fun a1 => ?_)
    refine okO_num hB (by omega) a1 (fun _ c1 c2 c3 => ?_)
    refine ih (i + 1) _ _ _ (by omega) (by omega) (by omega) (by omega) (by omega) c1 (fun j j0 j1 => ?_) (fun j h j0 jh h1 => ?_)
    · show 0 ≤ (if j = i then m + eV B 3 (p + 1) else f j) ∧ (if j = i then m + eV B 3 (p + 1) else f j) ≤ m + eV B 3 (p + 1)
      split
      · omega
      · have := hb j j0 (by omega)
        omega
    · show (if j = i then m + eV B 3 (p + 1) else f j) ≤ (if h = i then m + eV B 3 (p + 1) else f h)
      by_cases e : h = i
      · rw [if_pos e]
        split
        · omega
        · have := hb j j0 (by omega)
          omega
      · rw [if_neg e, if_neg (by omega)]
        exact hs j h j0 jh (by omega)
theorem oT_ok {B : Int → Int} {N : Net} {n p : Int} (hB : TP B n) (hg : Good N) (h : p + 1 ≤ n) : OkO n p (oT B N p) := by
  have hn := hB.1
  unfold oT
  refine okO_num hB (by omega) h (fun _ a1 a2 a3 => ?_)
  split
  · exact okO_0 (by omega) (by omega)
  · rename_i h6
    have kl := hg.lineK a2 (by omega)
    refine okO_byt hB (by omega) a1 (by decide) (fun b1 => ?_)
    refine okO_num hB (by omega) b1 (fun _ c1 c2 c3 => ?_)
    exact tpL_ok hB hg (by omega) a2 (by omega) ⟨c2, c3⟩ _ 1 _ _ _ (by omega) (by omega) c2 c3 (by omega) c1 (fun j j0 j1 => ⟨c2, Int.le_refl _⟩) (fun j h j0 jh h1 => Int.le_refl _)
-- THE CLASS
theorem c_goesAt {M : Mem} {Q : Int → Mem → Prop} {k m : Int} (hm : 0 ≤ m) (hQ : Q (runF k m) M) : Calls mX1_goesAt [(0, k), (0, m)] S0 M Q := by
  have hv : ∀ v, v = runF k m → Q v M := fun v h => h ▸ hQ
  refine E_Kinds_goesAt (B_Kinds_goesAt_0 ?_)
  repeat' (first | refine And.intro ?_ ?_ | refine imp_i (fun _ => ?_))
  all_goals (first | omega | exact hv _ (by unfold runF; (repeat' split) <;> omega))
/-- a trip that is being laid, its first so many minutes -/
def TIc (N : Net) (Ms : Mem) (l m0 i : Int) (f : Int → Int) (M : Mem) : Prop := (∀ a j, a ≠ 15 + (l * 6 + N.tr l) → ¬ (a = 63 ∧ j = l * 6 + N.tr l) → ¬ (a = 4 ∧ j = l) → ¬ (a = 267 ∧ j ≠ 3) → M a j = Ms a j) ∧ M 63 (l * 6 + N.tr l) = runF (N.kd l) m0 ∧ M 4 l = N.tr l + 1 ∧ ∀ j, 0 ≤ j → j < i → M (15 + (l * 6 + N.tr l)) j = f j
theorem nTrip_ch {N : Net} {Ms M : Mem} {l m0 : Int} {f : Int → Int} (hg : Good N) (h : CH N 0 Ms) (l0 : 0 ≤ l) (l1 : l < N.ln) (ht : N.tr l < 6) (hT : TIc N Ms l m0 (N.sz l) f M) : CH (nTrip N l m0 f) 0 M := by
  obtain ⟨h1, h2, h3⟩ := h
  obtain ⟨d1, d2, d3, d4⟩ := hT
  have hkl := hg.lineK l0 l1
  refine ⟨by rw [d1 _ _ (by omega) (by omega) (by omega) (by omega)]; exact h1, fun x x0 x1 => ?_, fun x y x0 x1 y0 y1 => by rw [d1 _ _ (by omega) (by omega) (by omega) (by omega)]; exact h3 x y x0 x1 y0 y1⟩
  have hk := hg.lineK x0 (show x < N.ln from x1)
  obtain ⟨q1, q2, q3, q4, q5⟩ := h2 x x0 x1
  refine ⟨by rw [d1 _ _ (by omega) (by omega) (by omega) (by omega)]; exact q1, by rw [d1 _ _ (by omega) (by omega) (by omega) (by omega)]; exact q2, ?_, fun j j0 j1 => by rw [d1 _ _ (by omega) (by omega) (by omega) (by omega)]; exact q4 j j0 j1, fun y y0 y1 => ?_⟩
  · rw [nTrip_tr]
    by_cases e : x = l
    · rw [if_pos e, e]
      exact d3
    · rw [if_neg e, d1 _ _ (by omega) (by omega) (by omega) (by omega)]
      exact q3
  · rw [nTrip_tr] at y1
    rw [nTrip_rn]
    by_cases e : x = l ∧ y = N.tr l
    · obtain ⟨rfl, rfl⟩ := e
      rw [if_pos ⟨rfl, rfl⟩]
      refine ⟨d2, fun j j0 j1 => ?_⟩
      rw [nTrip_mi, if_pos ⟨rfl, rfl⟩, show 15 + (0 : Int) + (x * 6 + N.tr x) = 15 + (x * 6 + N.tr x) by omega]
      exact d4 j j0 j1
    · have y1' : y < N.tr x := by
        by_cases ex : x = l
        · rw [if_pos ex, ← ex] at y1
          have : y ≠ N.tr x := fun z => e ⟨ex, by rw [z, ex]⟩
          omega
        · rw [if_neg ex] at y1
          exact y1
      have hne : x * 6 + y ≠ l * 6 + N.tr l := fun z => by
        by_cases ex : x = l
        · exact e ⟨ex, by subst ex; omega⟩
        · omega
      obtain ⟨w1, w2⟩ := q5 y y0 y1'
      rw [if_neg e, d1 _ _ (by omega) (by omega) (by omega) (by omega)]
      refine ⟨w1, fun j j0 j1 => ?_⟩
      rw [nTrip_mi, if_neg e, d1 _ _ (by omega) (by omega) (by omega) (by omega)]
      exact w2 j j0 j1
set_option maxHeartbeats 4000000 in
theorem c_trips {B : Int → Int} {n : Int} {N : Net} {M0 Ms : Mem} {Q : Int → Mem → Prop} {l m0 : Int} (hB : TP B n) (hT0 : TC B n M0) (hg : Good N) (hc : CH N 0 Ms) (l0 : 0 ≤ l) (l1 : l < N.ln) (ht : N.tr l < 6) : ∀ (k : Nat) (i m q : Int) (f : Int → Int) (M : Mem), i + (k : Int) = N.sz l → 1 ≤ i → 0 ≤ m → m ≤ 1999 → 0 ≤ q → q ≤ n → M 267 2 = q → TIc N Ms l m0 i f M → CFr M0 M → CQ M0 (tpL B N l m0 k i m q f) Q → AW mX4_readTrip 90 [(2, 267), (0, l), (0, N.tr l), (0, m), (0, i)] M Q := by
  have hn := hB.1
  have kl := hg.lineK l0 l1
  have hsz := (hc.line l0 l1).2.1
  have hr14 := rw_14 (l * 6 + N.tr l) (by omega) (by omega)
  intro k
  induction k with
  | zero =>
    intro i m q f M hi i1 m1 m2 q0 q1 hq hT hf H
    rw [tpL_0] at H
    have e3 : M 3 l = N.sz l := (hT.1 _ _ (by omega) (by omega) (by omega) (by omega)).trans hsz
    rw [show i = N.sz l by omega] at hT ⊢
    refine B_Reader_readTrip_90 ?_
    rw [e3]
    exact ⟨by omega, fun _ => H.1 rfl M hf (nTrip_ch hg hc l0 l1 ht hT) hq, fun z => absurd (Int.le_refl _) z⟩
  | succ k ih =>
    intro i m q f M hi i1 m1 m2 q0 q1 hq hT hf H
    rw [tpL_s] at H
    have e3 : M 3 l = N.sz l := (hT.1 _ _ (by omega) (by omega) (by omega) (by omega)).trans hsz
    have hTm := hT0.cf hf
    refine B_Reader_readTrip_90 ?_
    rw [e3, hq, hTm.1]
    refine ⟨by omega, fun z => absurd z (by omega), fun _ => ?_⟩
    refine tkB hB q0 (fun z => hTm.2 _ q0 z) (by decide) (fun z hb => ?_) (fun hb => ?_)
    · rw [byt_pos hb] at H
      have f1 : RdF M (up2 M 267 2 (q + 1)) := RdF.rf.up (by decide)
      refine ⟨by omega, by omega, c_num 3 rfl hB (hTm.rd f1) (up2_at ⟨rfl, rfl⟩) (by omega) (by omega) (by decide) (fun ok M2 f2 e2 v2 g2 => ?_) (fun ok M2 f2 g2 => ?_)⟩
      · rw [num_pos ok] at H
        have f2' := f1.tr f2
        have l2 := eP_le hB 3 (show q + 1 ≤ n by omega)
        have o1 := ok.2
        rw [v2]
        refine ⟨fun _ => ⟨by omega, by omega, by omega, by omega, by omega, by omega, ?_⟩, fun z => absurd z (by decide)⟩
        refine ih (i + 1) (m + eV B 3 (q + 1)) (eP B 3 (q + 1)) _ _ (by omega) (by omega) (by omega) (by omega) (by omega) (by omega) ?_ ⟨fun a j h1 h2 h3 h4 => ?_, ?_, ?_, fun j j0 j1 => ?_⟩ ((hf.rd f2').up (by omega)) H
        · rw [up2_ne (by omega)]
          exact e2
        · rw [up2_ne (by omega), f2' a j h4]
          exact hT.1 a j h1 h2 h3 h4
        · rw [up2_ne (by omega), f2' _ _ (by omega)]
          exact hT.2.1
        · rw [up2_ne (by omega), f2' _ _ (by omega)]
          exact hT.2.2.1
        · show _ = if j = i then m + eV B 3 (q + 1) else f j
          by_cases e : j = i
          · rw [if_pos e, up2_at ⟨rfl, e⟩]
          · rw [if_neg e, up2_ni (fun w => e w.2), f2' _ _ (by omega)]
            exact hT.2.2.2 j j0 (by omega)
      · rw [num_neg ok] at H
        exact ⟨fun z => absurd rfl z, fun _ => H.2 rfl _ (hf.rd (f1.tr f2)) g2⟩
    · rw [byt_neg hb] at H
      exact H.2 rfl _ (hf.up (Or.inr rfl)) (up2_at ⟨rfl, rfl⟩)
set_option maxHeartbeats 4000000 in
theorem c_readTrip {B : Int → Int} {n p : Int} {N : Net} {M0 M : Mem} {Q : Int → Mem → Prop} (hB : TP B n) (hT0 : TC B n M0) (hg : Good N) (hc : CH N 0 M) (hp : M 267 2 = p + 1) (hb3 : M 267 3 = p) (p0 : 0 ≤ p) (p1 : p + 1 ≤ n) (hf : CFr M0 M) (H : CQ M0 (oT B N p) Q) : Calls mX4_readTrip [(2, 267)] S0 M Q := by
  have hn := hB.1
  have h0 := hg.1
  have hT := hT0.cf hf
  unfold oT at H
  refine E_Reader_readTrip (B_Reader_readTrip_0 ?_)
  rw [hc.lines]
  refine ⟨by omega, c_num 1 rfl hB hT hp (by omega) p1 (by decide) (fun ok1 M1 f1 e1 v1 g1 => ?_) (fun ok1 M1 f1 g1 => ?_)⟩
  · rw [num_pos ok1] at H
    have l1 := eP_le hB 1 p1
    have hT1 := hT.rd f1
    have hc1 := hc.rd hg f1
    have k0 := ok1.2.1
    have k1 : eV B 1 (p + 1) < N.ln := by omega
    have kl := hg.lineK k0 k1
    obtain ⟨-, -, w1⟩ := hc1.line k0 k1
    rw [e1, v1, hT1.1, w1]
    refine ⟨fun _ => ⟨by omega, fun h6 => ?_, fun h6 => ?_⟩, fun z => absurd z (by decide)⟩
    · rw [if_neg (by omega)] at H
      refine tkB hB (by omega) (fun q => hT1.2 _ (by omega) q) (by decide) (fun q hb => ?_) (fun hb => ?_)
      · rw [byt_pos hb] at H
        have f1' : RdF M (up2 M1 267 2 (eP B 1 (p + 1) + 1)) := f1.up (by decide)
        refine ⟨by omega, c_num 4 rfl hB (hT.rd f1') (up2_at ⟨rfl, rfl⟩) (by omega) (by omega) (by decide) (fun ok2 M2 f2 e2 v2 g2 => ?_) (fun ok2 M2 f2 g2 => ?_)⟩
        · rw [num_pos ok2] at H
          have f2' := f1'.tr f2
          have l2 := eP_le hB 4 (show eP B 1 (p + 1) + 1 ≤ n by omega)
          have hc2 := hc.rd hg f2'
          have a0 := ok1.2
          have b0 := ok2.2
          obtain ⟨w2, -, w3⟩ := hc2.line k0 k1
          have hr14 := rw_14 (eV B 1 (p + 1) * 6 + N.tr (eV B 1 (p + 1))) (by omega) (by omega)
          rw [v2]
          refine ⟨fun _ => E_Net_beginTrip (B_Net_beginTrip_0 ?_), fun z => absurd z (by decide)⟩
          rw [w3, up2_ne (b := 2) (by omega), w2]
          refine ⟨by omega, by omega, by omega, by omega, c_goesAt (by omega) ?_⟩
          have fin : ∀ v, v = runF (N.kd (eV B 1 (p + 1))) (eV B 4 (eP B 1 (p + 1) + 1)) → AW mX4_readTrip 90 [(2, 267), (0, eV B 1 (p + 1)), (0, N.tr (eV B 1 (p + 1))), (0, eV B 4 (eP B 1 (p + 1) + 1)), (0, 1)] (up2 (up2 (up2 M2 (15 + ((eV B 1 (p + 1) * 6) + N.tr (eV B 1 (p + 1)))) 0 (eV B 4 (eP B 1 (p + 1) + 1))) 63 ((eV B 1 (p + 1) * 6) + N.tr (eV B 1 (p + 1))) v) 4 (eV B 1 (p + 1)) (N.tr (eV B 1 (p + 1)) + 1)) Q := by
            intro v hv
            refine c_trips (Ms := M2) hB hT0 hg hc2 k0 k1 h6 _ 1 _ (eP B 4 (eP B 1 (p + 1) + 1)) _ _ (by omega) (by omega) (by omega) (by omega) (by omega) (by omega) ?_ ⟨fun a j h1 h2 h3 h4 => ?_, ?_, ?_, fun j j0 j1 => ?_⟩ ((((hf.rd f2').up (by omega)).up (by omega)).up (by omega)) H
            · rw [up2_ne (by omega), up2_ne (by omega), up2_ne (by omega)]
              exact e2
            · rw [up2_ni h3, up2_ni h2, up2_ne h1]
            · rw [up2_ne (by omega), up2_at ⟨rfl, rfl⟩]
              exact hv
            · rw [up2_at ⟨rfl, rfl⟩]
            · rw [up2_ne (by omega), up2_ne (by omega), up2_at ⟨rfl, by omega⟩]
          have w4 : up2 M2 (15 + ((eV B 1 (p + 1) * 6) + N.tr (eV B 1 (p + 1)))) 0 (eV B 4 (eP B 1 (p + 1) + 1)) 4 (eV B 1 (p + 1)) = N.tr (eV B 1 (p + 1)) := by
            rw [up2_ne (by omega)]
            exact w3
          rw [w4]
          refine ⟨fun z => ⟨by omega, fin 0 z.symm⟩, fun z => ⟨by omega, fin 1 ?_⟩⟩
          have : runF (N.kd (eV B 1 (p + 1))) (eV B 4 (eP B 1 (p + 1) + 1)) = 0 ∨ runF (N.kd (eV B 1 (p + 1))) (eV B 4 (eP B 1 (p + 1) + 1)) = 1 := by
            unfold runF
            (repeat' split) <;> omega
          omega
        · rw [num_neg ok2] at H
          exact ⟨fun z => absurd rfl z, fun _ => H.2 rfl _ (hf.rd (f1'.tr f2)) g2⟩
      · rw [byt_neg hb] at H
        exact H.2 rfl _ ((hf.rd f1).up (Or.inr rfl)) (up2_at ⟨rfl, rfl⟩)
    · rw [if_pos (by omega)] at H
      refine H.2 rfl _ ((hf.rd f1).up (Or.inr rfl)) ?_
      rw [up2_at ⟨rfl, rfl⟩, f1 _ _ (by omega)]
      exact hb3
  · rw [num_neg ok1] at H
    exact ⟨fun z => absurd rfl z, fun _ => H.2 rfl _ (hf.rd f1) g1⟩
-- THE REFERENCE
def TIr (N : Net) (Ms : Mem) (l m0 i : Int) (f : Int → Int) (M : Mem) : Prop := (∀ a j, ¬ (a = 280 ∧ j = 6 * l + N.tr l) → ¬ (a = 281 ∧ 36 * l + 6 * N.tr l ≤ j ∧ j < 36 * l + 6 * N.tr l + 6) → ¬ (a = 275 ∧ 27 ≤ j ∧ j ≤ 29) → M a j = Ms a j) ∧ M 280 (6 * l + N.tr l) = m0 ∧ ∀ j, 0 ≤ j → j < i → M 281 (36 * l + 6 * N.tr l + j) = f j
theorem nTrip_rh {N : Net} {Ms M : Mem} {l m0 : Int} {f : Int → Int} (hg : Good N) (h : RH N Ms) (l0 : 0 ≤ l) (l1 : l < N.ln) (ht : N.tr l < 6) (hT : TIr N Ms l m0 (N.sz l) f M) : RH (nTrip N l m0 f) (up2 M 279 l (N.tr l + 1)) := by
  obtain ⟨h1, h2, h3⟩ := h
  obtain ⟨d1, d2, d4⟩ := hT
  have hkl := hg.lineK l0 l1
  refine ⟨by rw [up2_ne (by omega), d1 _ _ (by omega) (by omega) (by omega)]; exact h1, fun x x0 x1 => ?_, fun x y x0 x1 y0 y1 => by rw [up2_ne (by omega), d1 _ _ (by omega) (by omega) (by omega)]; exact h3 x y x0 x1 y0 y1⟩
  have hk := hg.lineK x0 (show x < N.ln from x1)
  obtain ⟨q1, q2, q3, q4, q5⟩ := h2 x x0 x1
  refine ⟨by rw [up2_ne (by omega), d1 _ _ (by omega) (by omega) (by omega)]; exact q1, by rw [up2_ne (by omega), d1 _ _ (by omega) (by omega) (by omega)]; exact q2, ?_, fun j j0 j1 => by rw [up2_ne (by omega), d1 _ _ (by omega) (by omega) (by omega)]; exact q4 j j0 j1, fun y y0 y1 => ?_⟩
  · rw [nTrip_tr]
    by_cases e : x = l
    · rw [if_pos e, up2_at ⟨rfl, e⟩]
    · rw [if_neg e, up2_ni (fun w => e w.2), d1 _ _ (by omega) (by omega) (by omega)]
      exact q3
  · rw [nTrip_tr] at y1
    rw [nTrip_fi, up2_ne (by omega)]
    by_cases e : x = l ∧ y = N.tr l
    · obtain ⟨rfl, rfl⟩ := e
      rw [if_pos ⟨rfl, rfl⟩]
      refine ⟨d2, fun j j0 j1 => ?_⟩
      rw [nTrip_mi, if_pos ⟨rfl, rfl⟩, up2_ne (by omega)]
      exact d4 j j0 j1
    · have y1' : y < N.tr x := by
        by_cases ex : x = l
        · rw [if_pos ex, ← ex] at y1
          have : y ≠ N.tr x := fun z => e ⟨ex, by rw [z, ex]⟩
          omega
        · rw [if_neg ex] at y1
          exact y1
      have hne : 6 * x + y ≠ 6 * l + N.tr l := fun z => by
        by_cases ex : x = l
        · exact e ⟨ex, by subst ex; omega⟩
        · omega
      obtain ⟨w1, w2⟩ := q5 y y0 y1'
      rw [if_neg e, d1 _ _ (by omega) (by omega) (by omega)]
      refine ⟨w1, fun j j0 j1 => ?_⟩
      have j1' : j < N.sz x := j1
      rw [nTrip_mi, if_neg e, up2_ne (by omega), d1 _ _ (by omega) (by omega) (by omega)]
      exact w2 j j0 j1
/-- a trip that is bad: the loop ends -/
theorem r_tripBad {M0 M : Mem} {Q : Int → Mem → Prop} {l m t i q : Int} (h : BdR M0 q M) (l0 : 0 ≤ l) (l1 : l < 8) (ht : -2147483648 ≤ M 279 l ∧ M 279 l ≤ 2147483647) (hQ : ∀ M1, BdR M0 q M1 → Q 0 M1) : AW mX9_readTrip 105 [(2, 275), (9, 0), (0, l), (0, m), (0, t), (0, i)] M Q := by
  have fin : (-2147483648 ≤ (M 279 l) + 0 ∧ (M 279 l) + 0 ≤ 2147483647) ∧ Q 0 (up2 M 279 l ((M 279 l) + 0)) := by
    refine ⟨by omega, hQ _ ⟨?_, ?_, h.2.2.1, fun a j z z2 => ?_⟩⟩
    · rw [up2_ne (by omega)]
      exact h.1
    · rw [up2_ne (by omega)]
      exact h.2.1
    · rw [up2_ne (by omega)]
      exact h.2.2.2 a j z z2
  exact B_R_readTrip_105 ⟨⟨l0, l1⟩, fun _ => ⟨fun z => absurd z h.1, fun _ => fin⟩, fun _ => ⟨fun _ => fin, fun z => absurd z h.1⟩⟩
set_option maxHeartbeats 4000000 in
theorem r_trips {B : Int → Int} {n : Int} {N : Net} {M0 Ms : Mem} {Q : Int → Mem → Prop} {l m0 : Int} (hB : TP B n) (hT0 : TR B n M0) (hg : Good N) (hr : RH N Ms) (l0 : 0 ≤ l) (l1 : l < N.ln) (ht : N.tr l < 6) : ∀ (k : Nat) (i m q : Int) (f : Int → Int) (M : Mem), i + (k : Int) = N.sz l → 1 ≤ i → 0 ≤ m → m ≤ 1999 → 0 ≤ q → q ≤ n → RS q M → TIr N Ms l m0 i f M → RFr M0 M → RQ B n M0 (tpL B N l m0 k i m q f) Q → AW mX9_readTrip 105 [(2, 275), (9, 0), (0, l), (0, m), (0, N.tr l), (0, i)] M Q := by
  have hn := hB.1
  have kl := hg.lineK l0 l1
  obtain ⟨-, hsz, htr⟩ := hr.line l0 l1
  intro k
  induction k with
  | zero =>
    intro i m q f M hi i1 m1 m2 q0 q1 hq hT hf H
    rw [tpL_0] at H
    have e3 : M 277 l = N.sz l := (hT.1 _ _ (by omega) (by omega) (by omega)).trans hsz
    have e4 : M 279 l = N.tr l := (hT.1 _ _ (by omega) (by omega) (by omega)).trans htr
    rw [show i = N.sz l by omega] at hT ⊢
    refine B_R_readTrip_105 ?_
    rw [e3, e4]
    refine ⟨by omega, fun _ => ⟨fun _ => ⟨by omega, H.1 rfl _ (hf.up (by omega)) (nTrip_rh hg hr l0 l1 ht hT) ⟨?_, ?_⟩⟩, fun z => absurd hq.1 z⟩, fun z => absurd (Int.le_refl _) z⟩
    · rw [up2_ne (by omega)]
      exact hq.1
    · rw [up2_ne (by omega)]
      exact hq.2
  | succ k ih =>
    intro i m q f M hi i1 m1 m2 q0 q1 hq hT hf H
    rw [tpL_s] at H
    have e3 : M 277 l = N.sz l := (hT.1 _ _ (by omega) (by omega) (by omega)).trans hsz
    have e4 : M 279 l = N.tr l := (hT.1 _ _ (by omega) (by omega) (by omega)).trans htr
    -- once something is wrong
    have bad : ∀ (q2 r : Int) (M1 : Mem), (∀ M2, BdR M0 q2 M2 → Q 0 M2) → PdF M M1 → BdR M0 q2 M1 → AW mX9_readTrip 105 [(2, 275), (9, 0), (0, l), (0, m + r), (0, N.tr l), (0, i + 1)] (up2 M1 281 (((36 * l) + (6 * N.tr l)) + i) (m + r)) Q := by
      intro q2 r M1 hQ g h
      refine r_tripBad (M0 := M0) (q := q2) ⟨?_, ?_, h.2.2.1, fun a j z z2 => ?_⟩ l0 (by omega) ?_ hQ
      · rw [up2_ne (by omega)]
        exact h.1
      · rw [up2_ne (by omega)]
        exact h.2.1
      · rw [up2_ne (by omega)]
        exact h.2.2.2 a j z z2
      · rw [up2_ne (by omega), g _ _ (by omega), e4]
        omega
    refine B_R_readTrip_105 ?_
    rw [e3]
    refine ⟨by omega, fun z => absurd z (by omega), fun _ => ⟨fun z => absurd hq.1 z, fun _ => ?_⟩⟩
    refine rr_byt hB hT0 hq q0 q1 (by decide) hf (fun z hb M1 f1 s1 => ?_) (fun hb M1 g h => ?_)
    · rw [byt_pos hb] at H
      have F1 := hf.pd f1
      refine ⟨by omega, rr_num 3 rfl hB hT0 s1 (by omega) (by omega) (by decide) (by decide) F1 (fun ok M2 f2 s2 g2 => ?_) (fun ok M2 g h => ?_)⟩
      · rw [num_pos ok] at H
        have l2 := eP_le hB 3 (show q + 1 ≤ n by omega)
        have o1 := ok.2
        have f12 := f1.tr f2
        refine ⟨by omega, by omega, by omega, by omega, by omega, by omega, by omega, ?_⟩
        refine ih (i + 1) (m + eV B 3 (q + 1)) (eP B 3 (q + 1)) _ _ (by omega) (by omega) (by omega) (by omega) (by omega) (by omega) ⟨?_, ?_⟩ ⟨fun a j h1 h2 h3 => ?_, ?_, fun j j0 j1 => ?_⟩ ((F1.pd f2).up (by omega)) H
        · rw [up2_ne (by omega)]
          exact s2.1
        · rw [up2_ne (by omega)]
          exact s2.2
        · rw [up2_ni (by omega), f12 a j h3]
          exact hT.1 a j h1 h2 h3
        · rw [up2_ne (by omega), f12 _ _ (by omega)]
          exact hT.2.1
        · show _ = if j = i then m + eV B 3 (q + 1) else f j
          by_cases e : j = i
          · rw [if_pos e, up2_at ⟨rfl, by omega⟩]
          · rw [if_neg e, up2_ni (by omega), f12 _ _ (by omega)]
            exact hT.2.2 j j0 (by omega)
      · rw [num_neg ok] at H
        exact ⟨by omega, by omega, by omega, by omega, by omega, by omega, by omega, bad _ _ _ (fun M2 h => H.2 rfl _ (Or.inl h)) (f1.tr g) h⟩
    · rw [byt_neg hb] at H
      exact ⟨by omega, r_within_bad h (by decide) (fun M2 g2 h => ⟨by omega, by omega, by omega, by omega, by omega, by omega, by omega, bad _ _ _ (fun M2 h => H.2 rfl _ (Or.inl h)) (g.tr g2) h⟩)⟩
set_option maxHeartbeats 4000000 in
theorem r_readTrip {B : Int → Int} {n p : Int} {N : Net} {M0 M : Mem} {Q : Int → Mem → Prop} (hB : TP B n) (hT0 : TR B n M0) (hg : Good N) (hr : RH N M) (hp : RS (p + 1) M) (p0 : 0 ≤ p) (p1 : p + 1 ≤ n) (hf : RFr M0 M) (H : RQ B n M0 (oT B N p) Q) : Calls mX9_readTrip [(2, 275), (0, p)] S0 M Q := by
  have hn := hB.1
  have h0 := hg.1
  unfold oT at H
  refine E_R_readTrip (B_R_readTrip_0 ?_)
  rw [hr.1]
  refine ⟨by omega, rr_num 1 rfl hB hT0 hp (by omega) p1 (by decide) (by decide) hf (fun ok1 M1 f1 s1 g1 => ?_) (fun ok1 M1 g h => ?_)⟩
  · rw [num_pos ok1] at H
    have l1 := eP_le hB 1 p1
    have F1 := hf.pd f1
    have k0 := ok1.2.1
    have k1 : eV B 1 (p + 1) < N.ln := by omega
    have kl := hg.lineK k0 k1
    have r1 := hr.pd f1
    rw [(r1.line k0 k1).2.2]
    refine ⟨fun z => absurd s1.1 z, fun _ => ⟨by omega, fun h6 => ?_, fun h6 => ?_⟩⟩
    · rw [if_pos h6] at H
      have h := BdR.mk2 F1 p0 (show p ≤ 80 by omega) rfl
      exact r_wants_bad h (fun M2 g h => r_within_bad h (by decide) (fun M3 g h => ⟨fun z => absurd z h.1, fun _ => H.2 rfl _ (Or.inl h)⟩))
    · rw [if_neg h6] at H
      refine rr_byt hB hT0 s1 (by omega) (by omega) (by decide) F1 (fun q hb M2 f2 s2 => ?_) (fun hb M2 g h => ?_)
      · rw [byt_pos hb] at H
        have F2 := F1.pd f2
        refine rr_num 4 rfl hB hT0 s2 (by omega) (by omega) (by decide) (by decide) F2 (fun ok2 M3 f3 s3 g3 => ?_) (fun ok2 M3 g h => ?_)
        · rw [num_pos ok2] at H
          have l2 := eP_le hB 4 (show eP B 1 (p + 1) + 1 ≤ n by omega)
          have F3 := F2.pd f3
          have r3 := (r1.pd f2).pd f3
          have b0 := ok2.2
          rw [(r3.line k0 k1).2.2]
          refine ⟨fun _ => ⟨by omega, by omega, by omega, by omega, by omega, by omega, by omega, ?_⟩, fun z => absurd s3.1 z⟩
          refine r_trips (Ms := M3) hB hT0 hg r3 k0 k1 (by omega) _ 1 _ (eP B 4 (eP B 1 (p + 1) + 1)) _ _ (by omega) (by omega) (by omega) (by omega) (by omega) (by omega) ⟨?_, ?_⟩ ⟨fun a j h1 h2 h3 => ?_, ?_, fun j j0 j1 => ?_⟩ ((F3.up (by omega)).up (by omega)) H
          · rw [up2_ne (by omega), up2_ne (by omega)]
            exact s3.1
          · rw [up2_ne (by omega), up2_ne (by omega)]
            exact s3.2
          · rw [up2_ni (by omega), up2_ni h1]
          · rw [up2_ne (by omega), up2_at ⟨rfl, rfl⟩]
          · rw [up2_at ⟨rfl, by omega⟩]
        · rw [num_neg ok2] at H
          exact ⟨fun z => absurd z h.1, fun _ => H.2 rfl _ (Or.inl h)⟩
      · rw [byt_neg hb] at H
        exact r_within_bad h (by decide) (fun M3 g h => ⟨fun z => absurd z h.1, fun _ => H.2 rfl _ (Or.inl h)⟩)
  · rw [num_neg ok1] at H
    exact ⟨fun _ => r_wants_bad h (fun M2 g h => r_within_bad h (by decide) (fun M3 g h => ⟨fun z => absurd z h.1, fun _ => H.2 rfl _ (Or.inl h)⟩)), fun z => absurd z h.1⟩
