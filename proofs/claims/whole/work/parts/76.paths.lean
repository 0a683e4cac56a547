/-! A PART OF A TABLE: what is read, as numbers; paths and delays -/
/-- whether all went well, a place, a timetable -/
abbrev Out : Type := Int × Int × Net
def num (B : Int → Int) (N : Net) (f : Nat) (lo hi p : Int) (k : Int → Int → Out) : Out := if okN B f lo hi p then k (eP B f p) (eV B f p) else (0, p, N)
def byt (B : Int → Int) (N : Net) (c p : Int) (k : Int → Out) : Out := if B p = c then k (p + 1) else (0, p, N)
theorem num_pos {B : Int → Int} {N : Net} {f : Nat} {lo hi p : Int} {k : Int → Int → Out} (h : okN B f lo hi p) : num B N f lo hi p k = k (eP B f p) (eV B f p) := if_pos h
theorem num_neg {B : Int → Int} {N : Net} {f : Nat} {lo hi p : Int} {k : Int → Int → Out} (h : ¬ okN B f lo hi p) : num B N f lo hi p k = (0, p, N) := if_neg h
theorem byt_pos {B : Int → Int} {N : Net} {c p : Int} {k : Int → Out} (h : B p = c) : byt B N c p k = k (p + 1) := if_pos h
theorem byt_neg {B : Int → Int} {N : Net} {c p : Int} {k : Int → Out} (h : B p ≠ c) : byt B N c p k = (0, p, N) := if_neg h
def oF (B : Int → Int) (N : Net) (p : Int) : Out := num B N 2 0 11 (p + 1) fun e1 a => byt B N 45 e1 fun q1 => num B N 2 0 11 q1 fun e2 b => if b = a then (0, q1, N) else byt B N 61 e2 fun q2 => num B N 2 1 60 q2 fun e3 v => (1, e3, nWalk N a b v)
def oD (B : Int → Int) (N : Net) (p : Int) : Out := num B N 1 0 (N.ln - 1) (p + 1) fun e1 l => byt B N 46 e1 fun q1 => num B N 1 0 (N.tr l - 1) q1 fun e2 t => byt B N 64 e2 fun q2 => num B N 1 0 (N.sz l - 1) q2 fun e3 i => byt B N 43 e3 fun q3 => num B N 2 1 99 q3 fun e4 m => if N.mi l t (N.sz l - 1) + m ≤ 9000 then (1, e4, nDelay N l t i m) else (0, p, N)
/-- what is so of an outcome -/
def OkO (n p : Int) (O : Out) : Prop := (O.1 = 0 ∨ O.1 = 1) ∧ (p ≤ O.2.1 ∧ O.2.1 ≤ n) ∧ (O.1 = 1 → p + 1 ≤ O.2.1 ∧ Good O.2.2)
theorem okO_0 {n p q : Int} {N : Net} (h : p ≤ q) (h2 : q ≤ n) : OkO n p (0, q, N) := ⟨Or.inl rfl, ⟨h, h2⟩, fun z => absurd (show (0 : Int) = 1 from z) (by decide)⟩
theorem okO_1 {n p q : Int} {N : Net} (h : p + 1 ≤ q) (h2 : q ≤ n) (hg : Good N) : OkO n p (1, q, N) := ⟨Or.inr rfl, ⟨by show p ≤ q; omega, h2⟩, fun _ => ⟨h, hg⟩⟩
theorem okO_num {B : Int → Int} {N : Net} {f : Nat} {lo hi p n p0 : Int} {k : Int → Int → Out} (hB : TP B n) (h0 : p0 ≤ p) (h1 : p ≤ n) (h : p < eP B f p → eP B f p ≤ n → lo ≤ eV B f p → eV B f p ≤ hi → OkO n p0 (k (eP B f p) (eV B f p))) : OkO n p0 (num B N f lo hi p k) := by
  by_cases z : okN B f lo hi p
  · rw [num_pos z]
    exact h z.1 (eP_le hB f h1).2 z.2.1 z.2.2
  · rw [num_neg z]
    exact okO_0 h0 h1
theorem byt_lt {B : Int → Int} {n p c : Int} (hB : TP B n) (h : B p = c) (hc : c ≠ 0) : p < n := by
  by_cases z : p < n
  · exact z
  · exact absurd ((hB.2.2 p (by omega)).symm.trans h).symm hc
theorem okO_byt {B : Int → Int} {N : Net} {c p n p0 : Int} {k : Int → Out} (hB : TP B n) (h0 : p0 ≤ p) (h1 : p ≤ n) (hc : c ≠ 0) (h : p + 1 ≤ n → OkO n p0 (k (p + 1))) : OkO n p0 (byt B N c p k) := by
  by_cases z : B p = c
  · rw [byt_pos z]
    exact h (by have := byt_lt hB z hc; omega)
  · rw [byt_neg z]
    exact okO_0 h0 h1
theorem oF_ok {B : Int → Int} {N : Net} {n p : Int} (hB : TP B n) (hg : Good N) (h : p + 1 ≤ n) : OkO n p (oF B N p) := by
  unfold oF
  refine okO_num hB (by omega) h (fun _ a1 a2 a3 => ?_)
  refine okO_byt hB (by omega) a1 (by decide) (fun b1 => ?_)
  refine okO_num hB (by omega) b1 (fun _ c1 c2 c3 => ?_)
  split
  · exact okO_0 (by omega) b1
  · rename_i hne
    refine okO_byt hB (by omega) c1 (by decide) (fun d1 => ?_)
    exact okO_num hB (by omega) d1 (fun _ f1 f2 f3 => okO_1 (by omega) f1 (nWalk_good hg (fun z => hne z.symm) (by omega)))
theorem oD_ok {B : Int → Int} {N : Net} {n p : Int} (hB : TP B n) (hg : Good N) (h : p + 1 ≤ n) : OkO n p (oD B N p) := by
  have hn := hB.1
  unfold oD
  refine okO_num hB (by omega) h (fun _ a1 a2 a3 => ?_)
  refine okO_byt hB (by omega) a1 (by decide) (fun b1 => ?_)
  refine okO_num hB (by omega) b1 (fun _ c1 c2 c3 => ?_)
  refine okO_byt hB (by omega) c1 (by decide) (fun d1 => ?_)
  refine okO_num hB (by omega) d1 (fun _ e1 e2 e3 => ?_)
  refine okO_byt hB (by omega) e1 (by decide) (fun f1 => ?_)
  refine okO_num hB (by omega) f1 (fun _ g1 g2 g3 => ?_)
  split
  · rename_i hle
    exact okO_1 (by omega) g1 (nDelay_good hg a2 (by omega) c2 (by omega) (by omega) hle)
  · exact okO_0 (by omega) (by omega)
-- THE CLASS
def CFr (M0 M : Mem) : Prop := ∀ a i, ¬ (1 ≤ a ∧ a ≤ 76) → a ≠ 267 → M a i = M0 a i
theorem CFr.rf {M : Mem} : CFr M M := fun _ _ _ _ => rfl
theorem CFr.rd {M0 M M1 : Mem} (h : CFr M0 M) (h2 : RdF M M1) : CFr M0 M1 := fun a i q q2 => (h2 a i (by omega)).trans (h a i q q2)
theorem CFr.up {M0 M : Mem} {a i v : Int} (h : CFr M0 M) (ha : (1 ≤ a ∧ a ≤ 76) ∨ a = 267) : CFr M0 (up2 M a i v) := fun b j q q2 => by
  rw [up2_ne (by omega)]
  exact h b j q q2
theorem TC.cf {B : Int → Int} {n : Int} {M0 M : Mem} (h : TC B n M0) (hf : CFr M0 M) : TC B n M := ⟨(hf _ _ (by omega) (by omega)).trans h.1, fun p p0 p1 => (hf _ _ (by omega) (by omega)).trans (h.2 p p0 p1)⟩
theorem CH.rd {N : Net} {M M1 : Mem} (h : CH N 0 M) (hg : Good N) (hf : RdF M M1) : CH N 0 M1 := h.keep hg (fun a i q1 q2 => hf a i (by omega))
/-- what a call that reads asks, of its outcome -/
def CQ (M0 : Mem) (O : Out) (Q : Int → Mem → Prop) : Prop := (O.1 = 1 → ∀ M1, CFr M0 M1 → CH O.2.2 0 M1 → M1 267 2 = O.2.1 → Q 1 M1) ∧ (O.1 = 0 → ∀ M1, CFr M0 M1 → M1 267 6 = O.2.1 → Q 0 M1)
theorem c_num {B : Int → Int} {n p lo hi fi : Int} (f : Nat) {M : Mem} {Q : Int → Mem → Prop} (hfi : fi = (f : Int)) (hB : TP B n) (hT : TC B n M) (hp : M 267 2 = p) (p0 : 0 ≤ p) (p1 : p ≤ n) (hf : f ≤ 4) (hQ1 : okN B f lo hi p → ∀ M1, RdF M M1 → M1 267 2 = eP B f p → M1 267 4 = eV B f p → M1 267 5 = p → Q 1 M1) (hQ0 : ¬ okN B f lo hi p → ∀ M1, RdF M M1 → M1 267 6 = p → Q 0 M1) : Calls mX4_takeNumber [(2, 267), (0, fi), (0, lo), (0, hi)] S0 M Q := by
  subst hfi
  exact c_takeNumber hB hT hp p0 p1 hf hQ1 hQ0
set_option maxHeartbeats 4000000 in
theorem c_readPath {B : Int → Int} {n p : Int} {N : Net} {M0 M : Mem} {Q : Int → Mem → Prop} (hB : TP B n) (hT0 : TC B n M0) (hg : Good N) (hc : CH N 0 M) (hp : M 267 2 = p + 1) (p0 : 0 ≤ p) (p1 : p + 1 ≤ n) (hf : CFr M0 M) (H : CQ M0 (oF B N p) Q) : Calls mX4_readPath [(2, 267)] S0 M Q := by
  have hn := hB.1
  have hT := hT0.cf hf
  unfold oF at H
  refine E_Reader_readPath (B_Reader_readPath_0 (c_num 2 rfl hB hT hp (by omega) p1 (by decide) (fun ok1 M1 f1 e1 v1 g1 => ?_) (fun ok1 M1 f1 g1 => ?_)))
  · rw [num_pos ok1] at H
    have l1 := eP_le hB 2 p1
    have hT1 := hT.rd f1
    rw [e1, v1, hT1.1]
    refine ⟨Or.inr rfl, fun _ => ?_, fun z => absurd z (by decide)⟩
    refine tkB hB (by omega) (fun q => hT1.2 _ (by omega) q) (by decide) (fun q hb => ?_) (fun hb => ?_)
    · rw [byt_pos hb] at H
      have f1' : RdF M (up2 M1 267 2 (eP B 2 (p + 1) + 1)) := f1.up (by decide)
      refine ⟨by omega, c_num 2 rfl hB (hT.rd f1') (up2_at ⟨rfl, rfl⟩) (by omega) (by omega) (by decide) (fun ok2 M2 f2 e2 v2 g2 => ?_) (fun ok2 M2 f2 g2 => ?_)⟩
      · rw [num_pos ok2] at H
        have f2' := f1'.tr f2
        have l2 := eP_le hB 2 (show eP B 2 (p + 1) + 1 ≤ n by omega)
        have hT2 := hT.rd f2'
        rw [e2, v2, hT2.1, g2]
        refine ⟨Or.inr rfl, fun _ => ?_, fun z => absurd z (by decide)⟩
        by_cases hab : eV B 2 (eP B 2 (p + 1) + 1) = eV B 2 (p + 1)
        · rw [if_pos hab] at H
          exact ⟨fun z => absurd hab z, fun _ => H.2 rfl _ ((hf.rd f2').up (Or.inr rfl)) (up2_at ⟨rfl, rfl⟩)⟩
        · rw [if_neg hab] at H
          refine ⟨fun _ => ?_, fun z => absurd z hab⟩
          refine tkB hB (by omega) (fun q => hT2.2 _ (by omega) q) (by decide) (fun q hb => ?_) (fun hb => ?_)
          · rw [byt_pos hb] at H
            have f2'' : RdF M (up2 M2 267 2 (eP B 2 (eP B 2 (p + 1) + 1) + 1)) := f2'.up (by decide)
            refine ⟨by omega, c_num 2 rfl hB (hT.rd f2'') (up2_at ⟨rfl, rfl⟩) (by omega) (by omega) (by decide) (fun ok3 M3 f3 e3 v3 g3 => ?_) (fun ok3 M3 f3 g3 => ?_)⟩
            · rw [num_pos ok3] at H
              have f3' := f2''.tr f3
              have a0 := ok1.2
              have b0 := ok2.2
              have c0 := ok3.2
              rw [v3]
              refine ⟨fun _ => ⟨by omega, by omega, H.1 rfl _ (((hf.rd f3').up (by omega)).up (by omega)) (nWalk_ch hg (hc.rd hg f3') (by omega) (by omega) (by omega) (by omega)) ?_⟩, fun z => absurd z (by decide)⟩
              rw [up2_ne (by omega), up2_ne (by omega)]
              exact e3
            · rw [num_neg ok3] at H
              exact ⟨fun z => absurd rfl z, fun _ => H.2 rfl _ (hf.rd (f2''.tr f3)) g3⟩
          · rw [byt_neg hb] at H
            exact H.2 rfl _ ((hf.rd f2').up (Or.inr rfl)) (up2_at ⟨rfl, rfl⟩)
      · rw [num_neg ok2] at H
        exact ⟨Or.inl rfl, fun z => absurd rfl z, fun _ => H.2 rfl _ (hf.rd (f1'.tr f2)) g2⟩
    · rw [byt_neg hb] at H
      exact H.2 rfl _ ((hf.rd f1).up (Or.inr rfl)) (up2_at ⟨rfl, rfl⟩)
  · rw [num_neg ok1] at H
    exact ⟨Or.inl rfl, fun z => absurd rfl z, fun _ => H.2 rfl _ (hf.rd f1) g1⟩
set_option maxHeartbeats 4000000 in
theorem c_readDelay {B : Int → Int} {n p : Int} {N : Net} {M0 M : Mem} {Q : Int → Mem → Prop} (hB : TP B n) (hT0 : TC B n M0) (hg : Good N) (hc : CH N 0 M) (hp : M 267 2 = p + 1) (hb3 : M 267 3 = p) (p0 : 0 ≤ p) (p1 : p + 1 ≤ n) (hf : CFr M0 M) (H : CQ M0 (oD B N p) Q) : Calls mX4_readDelay [(2, 267)] S0 M Q := by
  have hn := hB.1
  have h0 := hg.1
  have hT := hT0.cf hf
  unfold oD at H
  refine E_Reader_readDelay (B_Reader_readDelay_0 ?_)
  rw [hc.lines]
  refine ⟨by omega, c_num 1 rfl hB hT hp (by omega) p1 (by decide) (fun ok1 M1 f1 e1 v1 g1 => ?_) (fun ok1 M1 f1 g1 => ?_)⟩
  · rw [num_pos ok1] at H
    have l1 := eP_le hB 1 p1
    have hT1 := hT.rd f1
    have hc1 := hc.rd hg f1
    have kl := hg.lineK ok1.2.1 (by omega)
    obtain ⟨-, -, w1⟩ := hc1.line ok1.2.1 (by omega)
    rw [e1, v1, hT1.1, w1]
    refine ⟨fun _ => ?_, fun z => absurd z (by decide)⟩
    refine tkB hB (by omega) (fun q => hT1.2 _ (by omega) q) (by decide) (fun q hb => ?_) (fun hb => ?_)
    · rw [byt_pos hb] at H
      have f1' : RdF M (up2 M1 267 2 (eP B 1 (p + 1) + 1)) := f1.up (by decide)
      refine ⟨by omega, by omega, by omega, c_num 1 rfl hB (hT.rd f1') (up2_at ⟨rfl, rfl⟩) (by omega) (by omega) (by decide) (fun ok2 M2 f2 e2 v2 g2 => ?_) (fun ok2 M2 f2 g2 => ?_)⟩
      · rw [num_pos ok2] at H
        have f2' := f1'.tr f2
        have l2 := eP_le hB 1 (show eP B 1 (p + 1) + 1 ≤ n by omega)
        have hT2 := hT.rd f2'
        have hc2 := hc.rd hg f2'
        obtain ⟨-, w2, -⟩ := hc2.line ok1.2.1 (by omega)
        rw [e2, v2, hT2.1, w2]
        refine ⟨fun _ => ?_, fun z => absurd z (by decide)⟩
        refine tkB hB (by omega) (fun q => hT2.2 _ (by omega) q) (by decide) (fun q hb => ?_) (fun hb => ?_)
        · rw [byt_pos hb] at H
          have f2'' : RdF M (up2 M2 267 2 (eP B 1 (eP B 1 (p + 1) + 1) + 1)) := f2'.up (by decide)
          refine ⟨by omega, by omega, c_num 1 rfl hB (hT.rd f2'') (up2_at ⟨rfl, rfl⟩) (by omega) (by omega) (by decide) (fun ok3 M3 f3 e3 v3 g3 => ?_) (fun ok3 M3 f3 g3 => ?_)⟩
          · rw [num_pos ok3] at H
            have f3' := f2''.tr f3
            have l3 := eP_le hB 1 (show eP B 1 (eP B 1 (p + 1) + 1) + 1 ≤ n by omega)
            have hT3 := hT.rd f3'
            rw [e3, v3, hT3.1]
            refine ⟨fun _ => ?_, fun z => absurd z (by decide)⟩
            refine tkB hB (by omega) (fun q => hT3.2 _ (by omega) q) (by decide) (fun q hb => ?_) (fun hb => ?_)
            · rw [byt_pos hb] at H
              have f3'' : RdF M (up2 M3 267 2 (eP B 1 (eP B 1 (eP B 1 (p + 1) + 1) + 1) + 1)) := f3'.up (by decide)
              refine ⟨by omega, c_num 2 rfl hB (hT.rd f3'') (up2_at ⟨rfl, rfl⟩) (by omega) (by omega) (by decide) (fun ok4 M4 f4 e4 v4 g4 => ?_) (fun ok4 M4 f4 g4 => ?_)⟩
              · rw [num_pos ok4] at H
                have f4' := f3''.tr f4
                have a0 := ok1.2
                have b0 := ok2.2
                have c0 := ok3.2
                have d0 := ok4.2
                have hc4 := hc.rd hg f4'
                rw [v4]
                refine ⟨fun _ => ?_, fun z => absurd z (by decide)⟩
                refine c_putDelay hg hc4 (by omega) (by omega) (by omega) (by omega) (by omega) (by omega) (by omega) (fun hlt => ⟨fun z => absurd rfl z, fun _ => ?_⟩) (fun hle M5 hd => ⟨fun _ => ?_, fun z => absurd z (by decide)⟩)
                · rw [if_neg (by omega)] at H
                  refine H.2 rfl _ ((hf.rd f4').up (Or.inr rfl)) ?_
                  rw [up2_at ⟨rfl, rfl⟩, f4' _ _ (by omega)]
                  exact hb3
                · rw [if_pos hle] at H
                  refine H.1 rfl _ (fun a i q q2 => ?_) (nDelay_ch hg hc4 (by omega) (by omega) (by omega) (by omega) hd) ?_
                  · rw [hd.1 a i (by omega)]
                    exact hf.rd f4' a i q q2
                  · rw [hd.1 _ _ (by omega)]
                    exact e4
              · rw [num_neg ok4] at H
                exact ⟨fun z => absurd rfl z, fun _ => H.2 rfl _ (hf.rd (f3''.tr f4)) g4⟩
            · rw [byt_neg hb] at H
              exact H.2 rfl _ ((hf.rd f3').up (Or.inr rfl)) (up2_at ⟨rfl, rfl⟩)
          · rw [num_neg ok3] at H
            exact ⟨fun z => absurd rfl z, fun _ => H.2 rfl _ (hf.rd (f2''.tr f3)) g3⟩
        · rw [byt_neg hb] at H
          exact H.2 rfl _ ((hf.rd f2').up (Or.inr rfl)) (up2_at ⟨rfl, rfl⟩)
      · rw [num_neg ok2] at H
        exact ⟨fun z => absurd rfl z, fun _ => H.2 rfl _ (hf.rd (f1'.tr f2)) g2⟩
    · rw [byt_neg hb] at H
      exact H.2 rfl _ ((hf.rd f1).up (Or.inr rfl)) (up2_at ⟨rfl, rfl⟩)
  · rw [num_neg ok1] at H
    exact ⟨fun z => absurd rfl z, fun _ => H.2 rfl _ (hf.rd f1) g1⟩
