/-! A PART OF A TABLE, THE REFERENCE: paths and delays -/
def RFr (M0 M : Mem) : Prop := ∀ a i, ¬ (a = 275 ∧ (i = 0 ∨ (27 ≤ i ∧ i ≤ 29))) → ¬ (276 ≤ a ∧ a ≤ 282) → M a i = M0 a i
theorem RFr.rf {M : Mem} : RFr M M := fun _ _ _ _ => rfl
theorem RFr.pd {M0 M M1 : Mem} (h : RFr M0 M) (h2 : PdF M M1) : RFr M0 M1 := fun a i q q2 => (h2 a i (by omega)).trans (h a i q q2)
theorem RFr.up {M0 M : Mem} {a i v : Int} (h : RFr M0 M) (ha : (a = 275 ∧ (i = 0 ∨ (27 ≤ i ∧ i ≤ 29))) ∨ (276 ≤ a ∧ a ≤ 282)) : RFr M0 (up2 M a i v) := fun b j q q2 => by
  rw [up2_ni (by omega)]
  exact h b j q q2
theorem TR.fr {B : Int → Int} {n : Int} {M0 M : Mem} (h : TR B n M0) (hf : RFr M0 M) : TR B n M := ⟨(hf _ _ (by omega) (by omega)).trans h.1, fun p p0 p1 => (hf _ _ (by omega) (by omega)).trans (h.2 p p0 p1)⟩
theorem RH.pd {N : Net} {M M1 : Mem} (h : RH N M) (hf : PdF M M1) : RH N M1 := h.keep (fun a i q => hf a i (by omega))
/-- something is wrong, or will be: no part ends here -/
def BdW (B : Int → Int) (n : Int) (M0 : Mem) (q : Int) (M : Mem) : Prop := BdR M0 q M ∨ (RS q M ∧ (0 ≤ q ∧ q < n) ∧ B q ≠ 59 ∧ RFr M0 M)
def RQ (B : Int → Int) (n : Int) (M0 : Mem) (O : Out) (Q : Int → Mem → Prop) : Prop := (O.1 = 1 → ∀ M1, RFr M0 M1 → RH O.2.2 M1 → RS O.2.1 M1 → Q 0 M1) ∧ (O.1 = 0 → ∀ M1, BdW B n M0 O.2.1 M1 → Q 0 M1)
theorem BdR.mk2 {M0 M : Mem} {q v : Int} (h : RFr M0 M) (q0 : 0 ≤ q) (q1 : q ≤ 80) (hv : v = q) : BdR M0 q (up2 (up2 M 275 28 1) 275 27 v) := ⟨by rw [up2_ni (by omega), up2_at ⟨rfl, rfl⟩]; decide, by rw [up2_at ⟨rfl, rfl⟩]; exact hv, ⟨q0, q1⟩, fun a i z z2 => by rw [up2_ni (by omega), up2_ni (by omega)]; exact h a i z z2⟩
theorem BdR.mk3 {M0 M : Mem} {q v : Int} (h : RFr M0 M) (q0 : 0 ≤ q) (q1 : q ≤ 80) (hq : M 275 27 = q) (hv : v ≠ 0) : BdR M0 q (up2 M 275 28 v) := ⟨by rw [up2_at ⟨rfl, rfl⟩]; exact hv, by rw [up2_ni (by omega)]; exact hq, ⟨q0, q1⟩, fun a i z z2 => by rw [up2_ni (by omega)]; exact h a i z z2⟩
theorem rr_num {B : Int → Int} {n p lo hi fi : Int} (f : Nat) {M0 M : Mem} {Q : Int → Mem → Prop} (hfi : fi = (f : Int)) (hB : TP B n) (hT0 : TR B n M0) (h : RS p M) (p0 : 0 ≤ p) (p1 : p ≤ n) (hf4 : f ≤ 4) (hf1 : 1 ≤ f) (hf : RFr M0 M) (hQ1 : okN B f lo hi p → ∀ M1, PdF M M1 → RS (eP B f p) M1 → M1 275 29 = p → Q (eV B f p) M1) (hQ0 : ¬ okN B f lo hi p → ∀ M1, PdF M M1 → BdR M0 p M1 → Q lo M1) : Calls mX9_readWithin [(2, 275), (0, fi), (0, lo), (0, hi)] S0 M Q := by
  subst hfi
  exact r_within hB (hT0.fr hf) h p0 p1 hf4 hf1 hf hQ1 hQ0
theorem rr_byt {B : Int → Int} {n p c : Int} {M0 M : Mem} {Q : Int → Mem → Prop} (hB : TP B n) (hT0 : TR B n M0) (h : RS p M) (p0 : 0 ≤ p) (p1 : p ≤ n) (hc : 0 < c) (hf : RFr M0 M) (hQ1 : p < n → B p = c → ∀ M1, PdF M M1 → RS (p + 1) M1 → Q 0 M1) (hQ0 : B p ≠ c → ∀ M1, PdF M M1 → BdR M0 p M1 → Q 0 M1) : Calls mX9_wants [(2, 275), (0, c)] S0 M Q := r_wants hB (hT0.fr hf) h p0 p1 hc hf hQ1 hQ0
set_option maxHeartbeats 4000000 in
theorem r_readFoot {B : Int → Int} {n p : Int} {N : Net} {M0 M : Mem} {Q : Int → Mem → Prop} (hB : TP B n) (hT0 : TR B n M0) (hr : RH N M) (hp : RS (p + 1) M) (p0 : 0 ≤ p) (p1 : p + 1 ≤ n) (hf : RFr M0 M) (H : RQ B n M0 (oF B N p) Q) : Calls mX9_readFoot [(2, 275)] S0 M Q := by
  have hn := hB.1
  unfold oF at H
  refine E_R_readFoot (B_R_readFoot_0 (rr_num 2 rfl hB hT0 hp (by omega) p1 (by decide) (by decide) hf (fun ok1 M1 f1 s1 g1 => ?_) (fun ok1 M1 g h => ?_)))
  · rw [num_pos ok1] at H
    have l1 := eP_le hB 2 p1
    have F1 := hf.pd f1
    refine rr_byt hB hT0 s1 (by omega) (by omega) (by decide) F1 (fun q hb M2 f2 s2 => ?_) (fun hb M2 g h => ?_)
    · rw [byt_pos hb] at H
      have F2 := F1.pd f2
      refine rr_num 2 rfl hB hT0 s2 (by omega) (by omega) (by decide) (by decide) F2 (fun ok2 M3 f3 s3 g3 => ?_) (fun ok2 M3 g h => ?_)
      · rw [num_pos ok2] at H
        have l2 := eP_le hB 2 (show eP B 2 (p + 1) + 1 ≤ n by omega)
        have F3 := F2.pd f3
        rw [g3]
        by_cases hab : eV B 2 (eP B 2 (p + 1) + 1) = eV B 2 (p + 1)
        · rw [if_pos hab] at H
          refine ⟨fun _ => ⟨fun z => absurd s3.1 z, fun _ => ?_⟩, fun z => absurd hab.symm z⟩
          have h := BdR.mk2 (q := eP B 2 (p + 1) + 1) F3 (by omega) (by omega) rfl
          exact r_wants_bad h (fun M4 g h => r_within_bad h (by decide) (fun M5 g h => ⟨fun _ => H.2 rfl _ (Or.inl h), fun z => absurd z h.1⟩))
        · rw [if_neg hab] at H
          refine ⟨fun z => absurd z.symm hab, fun _ => ⟨fun z => absurd s3.1 z, fun _ => ?_⟩⟩
          refine rr_byt hB hT0 s3 (by omega) (by omega) (by decide) F3 (fun q hb M4 f4 s4 => ?_) (fun hb M4 g h => ?_)
          · rw [byt_pos hb] at H
            have F4 := F3.pd f4
            refine rr_num 2 rfl hB hT0 s4 (by omega) (by omega) (by decide) (by decide) F4 (fun ok3 M5 f5 s5 g5 => ?_) (fun ok3 M5 g h => ?_)
            · rw [num_pos ok3] at H
              have a0 := ok1.2
              have b0 := ok2.2
              have c0 := ok3.2
              refine ⟨fun z => absurd s5.1 z, fun _ => ⟨by omega, by omega, by omega, by omega, by omega, by omega, H.1 rfl _ (((F4.pd f5).up (by omega)).up (by omega)) (nWalk_rh (((((hr.pd f1).pd f2).pd f3).pd f4).pd f5) (by omega) (by omega) (by omega) (by omega)) ⟨?_, ?_⟩⟩⟩
              · rw [up2_ne (by omega), up2_ne (by omega)]
                exact s5.1
              · rw [up2_ne (by omega), up2_ne (by omega)]
                exact s5.2
            · rw [num_neg ok3] at H
              exact ⟨fun _ => H.2 rfl _ (Or.inl h), fun z => absurd z h.1⟩
          · rw [byt_neg hb] at H
            exact r_within_bad h (by decide) (fun M5 g h => ⟨fun _ => H.2 rfl _ (Or.inl h), fun z => absurd z h.1⟩)
      · rw [num_neg ok2] at H
        exact ⟨fun _ => ⟨fun _ => r_wants_bad h (fun M4 g h => r_within_bad h (by decide) (fun M5 g h => ⟨fun _ => H.2 rfl _ (Or.inl h), fun z => absurd z h.1⟩)), fun z => absurd z h.1⟩, fun _ => ⟨fun _ => r_wants_bad h (fun M4 g h => r_within_bad h (by decide) (fun M5 g h => ⟨fun _ => H.2 rfl _ (Or.inl h), fun z => absurd z h.1⟩)), fun z => absurd z h.1⟩⟩
    · rw [byt_neg hb] at H
      exact r_within_bad h (by decide) (fun M3 g h => ⟨fun _ => ⟨fun _ => r_wants_bad h (fun M4 g h => r_within_bad h (by decide) (fun M5 g h => ⟨fun _ => H.2 rfl _ (Or.inl h), fun z => absurd z h.1⟩)), fun z => absurd z h.1⟩, fun _ => ⟨fun _ => r_wants_bad h (fun M4 g h => r_within_bad h (by decide) (fun M5 g h => ⟨fun _ => H.2 rfl _ (Or.inl h), fun z => absurd z h.1⟩)), fun z => absurd z h.1⟩⟩)
  · rw [num_neg ok1] at H
    exact r_wants_bad h (fun M2 g h => r_within_bad h (by decide) (fun M3 g h => ⟨fun _ => ⟨fun _ => r_wants_bad h (fun M4 g h => r_within_bad h (by decide) (fun M5 g h => ⟨fun _ => H.2 rfl _ (Or.inl h), fun z => absurd z h.1⟩)), fun z => absurd z h.1⟩, fun _ => ⟨fun _ => r_wants_bad h (fun M4 g h => r_within_bad h (by decide) (fun M5 g h => ⟨fun _ => H.2 rfl _ (Or.inl h), fun z => absurd z h.1⟩)), fun z => absurd z h.1⟩⟩))
set_option maxHeartbeats 8000000 in
theorem r_readDelay {B : Int → Int} {n p : Int} {N : Net} {M0 M : Mem} {Q : Int → Mem → Prop} (hB : TP B n) (hT0 : TR B n M0) (hg : Good N) (hr : RH N M) (hp : RS (p + 1) M) (p0 : 0 ≤ p) (p1 : p + 1 ≤ n) (hf : RFr M0 M) (H : RQ B n M0 (oD B N p) Q) : Calls mX9_readDelay [(2, 275), (0, p)] S0 M Q := by
  have hn := hB.1
  have h0 := hg.1
  unfold oD at H
  refine E_R_readDelay (B_R_readDelay_0 ?_)
  rw [hr.1]
  refine ⟨by omega, rr_num 1 rfl hB hT0 hp (by omega) p1 (by decide) (by decide) hf (fun ok1 M1 f1 s1 g1 => ?_) (fun ok1 M1 g h => ?_)⟩
  · rw [num_pos ok1] at H
    have l1 := eP_le hB 1 p1
    have F1 := hf.pd f1
    have kl := hg.lineK ok1.2.1 (by omega)
    have k0 := ok1.2.1
    have k1 : eV B 1 (p + 1) < N.ln := by omega
    refine rr_byt hB hT0 s1 (by omega) (by omega) (by decide) F1 (fun q hb M2 f2 s2 => ?_) (fun hb M2 g h => ?_)
    · rw [byt_pos hb] at H
      have F2 := F1.pd f2
      have r2 := (hr.pd f1).pd f2
      rw [(r2.line k0 k1).2.2]
      refine ⟨fun _ => ⟨by omega, by omega, ?_⟩, fun z => absurd s2.1 z⟩
      refine rr_num 1 rfl hB hT0 s2 (by omega) (by omega) (by decide) (by decide) F2 (fun ok2 M3 f3 s3 g3 => ?_) (fun ok2 M3 g h => ?_)
      · rw [num_pos ok2] at H
        have l2 := eP_le hB 1 (show eP B 1 (p + 1) + 1 ≤ n by omega)
        have F3 := F2.pd f3
        have t0 := ok2.2.1
        have t1 : eV B 1 (eP B 1 (p + 1) + 1) < N.tr (eV B 1 (p + 1)) := by omega
        refine rr_byt hB hT0 s3 (by omega) (by omega) (by decide) F3 (fun q hb M4 f4 s4 => ?_) (fun hb M4 g h => ?_)
        · rw [byt_pos hb] at H
          have F4 := F3.pd f4
          have r4 := (r2.pd f3).pd f4
          rw [(r4.line k0 k1).2.1]
          refine ⟨fun _ => ⟨by omega, ?_⟩, fun z => absurd s4.1 z⟩
          refine rr_num 1 rfl hB hT0 s4 (by omega) (by omega) (by decide) (by decide) F4 (fun ok3 M5 f5 s5 g5 => ?_) (fun ok3 M5 g h => ?_)
          · rw [num_pos ok3] at H
            have l3 := eP_le hB 1 (show eP B 1 (eP B 1 (p + 1) + 1) + 1 ≤ n by omega)
            have F5 := F4.pd f5
            refine rr_byt hB hT0 s5 (by omega) (by omega) (by decide) F5 (fun q hb M6 f6 s6 => ?_) (fun hb M6 g h => ?_)
            · rw [byt_pos hb] at H
              have F6 := F5.pd f6
              refine rr_num 2 rfl hB hT0 s6 (by omega) (by omega) (by decide) (by decide) F6 (fun ok4 M7 f7 s7 g7 => ?_) (fun ok4 M7 g h => ?_)
              · rw [num_pos ok4] at H
                have F7 := F6.pd f7
                have r7 := ((r4.pd f5).pd f6).pd f7
                have c0 := ok3.2
                have d0 := ok4.2
                have hlast := hg.min k0 k1 t0 t1 (i := N.sz (eV B 1 (p + 1)) - 1) (by omega) (by omega)
                rw [(r7.line k0 k1).2.1, r7.min k0 k1 t0 t1 (i := N.sz (eV B 1 (p + 1)) - 1) (by omega) (by omega) rfl]
                refine ⟨fun z => absurd s7.1 z, fun _ => ⟨by omega, by omega, by omega, by omega, by omega, by omega, by omega, fun hle => ?_, fun hgt => ?_⟩⟩
                · rw [if_pos hle] at H
                  refine r_delays hg r7 k0 k1 t0 t1 (by omega) (by omega) (by omega) (fun M8 hd => H.1 rfl _ (fun a i z z2 => ?_) (nDelay_rh hg r7 k0 k1 t0 t1 (by omega) hd) ⟨?_, ?_⟩)
                  · rw [hd.1 a i (by omega)]
                    exact F7 a i z z2
                  · rw [hd.1 _ _ (by omega)]
                    exact s7.1
                  · rw [hd.1 _ _ (by omega)]
                    exact s7.2
                · rw [if_neg hgt] at H
                  exact H.2 rfl _ (Or.inl (BdR.mk2 (q := p) F7 p0 (by omega) rfl))
              · rw [num_neg ok4] at H
                exact ⟨fun _ => H.2 rfl _ (Or.inl h), fun z => absurd z h.1⟩
            · rw [byt_neg hb] at H
              exact r_within_bad h (by decide) (fun M7 g h => ⟨fun _ => H.2 rfl _ (Or.inl h), fun z => absurd z h.1⟩)
          · rw [num_neg ok3] at H
            exact r_wants_bad h (fun M6 g h => r_within_bad h (by decide) (fun M7 g h => ⟨fun _ => H.2 rfl _ (Or.inl h), fun z => absurd z h.1⟩))
        · rw [byt_neg hb] at H
          exact ⟨fun z => absurd z h.1, fun _ => r_within_bad h (by decide) (fun M5 g h => r_wants_bad h (fun M6 g h => r_within_bad h (by decide) (fun M7 g h => ⟨fun _ => H.2 rfl _ (Or.inl h), fun z => absurd z h.1⟩)))⟩
      · rw [num_neg ok2] at H
        exact r_wants_bad h (fun M4 g h => ⟨fun z => absurd z h.1, fun _ => r_within_bad h (by decide) (fun M5 g h => r_wants_bad h (fun M6 g h => r_within_bad h (by decide) (fun M7 g h => ⟨fun _ => H.2 rfl _ (Or.inl h), fun z => absurd z h.1⟩)))⟩)
    · rw [byt_neg hb] at H
      exact ⟨fun z => absurd z h.1, fun _ => r_within_bad h (by decide) (fun M3 g h => r_wants_bad h (fun M4 g h => ⟨fun z => absurd z h.1, fun _ => r_within_bad h (by decide) (fun M5 g h => r_wants_bad h (fun M6 g h => r_within_bad h (by decide) (fun M7 g h => ⟨fun _ => H.2 rfl _ (Or.inl h), fun z => absurd z h.1⟩)))⟩))⟩
  · rw [num_neg ok1] at H
    exact r_wants_bad h (fun M2 g h => ⟨fun z => absurd z h.1, fun _ => r_within_bad h (by decide) (fun M3 g h => r_wants_bad h (fun M4 g h => ⟨fun z => absurd z h.1, fun _ => r_within_bad h (by decide) (fun M5 g h => r_wants_bad h (fun M6 g h => r_within_bad h (by decide) (fun M7 g h => ⟨fun _ => H.2 rfl _ (Or.inl h), fun z => absurd z h.1⟩)))⟩))⟩)
