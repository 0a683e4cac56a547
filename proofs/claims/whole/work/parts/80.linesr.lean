/-! A PART OF A TABLE, THE REFERENCE: lines -/
theorem bit_div (w s : Nat) : (((w : Int) / 2 ^ s) % 2 = 0 ↔ w.testBit s = false) := by
  have e : ((w : Int) / 2 ^ s) % 2 = ((w / 2 ^ s % 2 : Nat) : Int) := by
    rw [show ((2 : Int) ^ s) = (((2 ^ s : Nat)) : Int) by rw [Int.natCast_pow]; rfl, ← Int.natCast_ediv]
    first | rfl | exact (Int.natCast_emod _ _).symm
  have h2 : w / 2 ^ s % 2 < 2 := Nat.mod_lt _ (by decide)
  rw [e, Nat.testBit_eq_decide_div_mod_eq, decide_eq_false_iff_not]
  generalize w / 2 ^ s % 2 = y at h2 ⊢
  omega
/-- the bits of the stops that were read -/
def seenB (w i : Nat) (f : Int → Int) : Prop := ∀ s : Nat, w.testBit s = dupF f s i
theorem seenB.next {w i : Nat} {f : Int → Int} {s : Nat} (h : seenB w i f) : seenB (w ||| 2 ^ s) (i + 1) (put1 f i s) := by
  intro x
  have e : dupF (put1 f i s) x i = dupF f x i := dupF_cong i (fun j j0 j1 => if_neg (by omega))
  have e2 : put1 f i s (i : Int) = (s : Int) := if_pos rfl
  rw [dupF_s, e, e2, Nat.testBit_or, h x]
  congr 1
  by_cases q : s = x
  · rw [q, Nat.testBit_two_pow_self, decide_eq_true rfl]
  · rw [Nat.testBit_two_pow_of_ne q, decide_eq_false (by omega)]
def LIr (N : Net) (Ms : Mem) (i : Int) (f : Int → Int) (M : Mem) : Prop := (∀ a j, ¬ (a = 278 ∧ 6 * N.ln ≤ j) → ¬ (a = 275 ∧ 27 ≤ j ∧ j ≤ 29) → M a j = Ms a j) ∧ ∀ j, 0 ≤ j → j < i → M 278 (6 * N.ln + j) = f j
theorem LIr.pd {N : Net} {Ms M M1 : Mem} {i : Int} {f : Int → Int} (h : LIr N Ms i f M) (hf : PdF M M1) : LIr N Ms i f M1 := ⟨fun a j q1 q2 => (hf a j q2).trans (h.1 a j q1 q2), fun j j0 j1 => (hf _ _ (by omega)).trans (h.2 j j0 j1)⟩
theorem nLine_rh {N : Net} {Ms M : Mem} {kd i : Int} {f : Int → Int} (hg : Good N) (h : RH N Ms) (hT : LIr N Ms i f M) : RH (nLine N kd i f) (up2 (up2 (up2 (up2 (up2 M 275 28 0) 276 N.ln kd) 277 N.ln i) 279 N.ln 0) 275 0 (N.ln + 1)) := by
  obtain ⟨h1, h2, h3⟩ := h
  obtain ⟨d1, d2⟩ := hT
  have h0 := hg.1
  refine ⟨by rw [up2_at ⟨rfl, rfl⟩, nLine_ln], fun x x0 x1 => ?_, fun x y x0 x1 y0 y1 => ?_⟩
  · rw [nLine_ln] at x1
    rw [nLine_kd, nLine_sz, nLine_tr]
    by_cases e : x = N.ln
    · rw [if_pos e, if_pos e, if_pos e, e]
      refine ⟨?_, ?_, ?_, fun j j0 j1 => ?_, fun t t0 t1 => absurd t1 (by omega)⟩
      · rw [up2_ne (by omega), up2_ne (by omega), up2_ne (by omega), up2_at ⟨rfl, rfl⟩]
      · rw [up2_ne (by omega), up2_ne (by omega), up2_at ⟨rfl, rfl⟩]
      · rw [up2_ne (by omega), up2_at ⟨rfl, rfl⟩]
      · rw [nLine_sp, if_pos rfl, up2_ne (by omega), up2_ne (by omega), up2_ne (by omega), up2_ne (by omega), up2_ne (by omega)]
        exact d2 j j0 j1
    · rw [if_neg e, if_neg e, if_neg e]
      have hk := hg.lineK x0 (show x < N.ln by omega)
      obtain ⟨q1, q2, q3, q4, q5⟩ := h2 x x0 (by omega)
      refine ⟨?_, ?_, ?_, fun j j0 j1 => ?_, fun y y0 y1 => ?_⟩
      · rw [up2_ne (by omega), up2_ne (by omega), up2_ne (by omega), up2_ni (by omega), up2_ne (by omega), d1 _ _ (by omega) (by omega)]
        exact q1
      · rw [up2_ne (by omega), up2_ne (by omega), up2_ni (by omega), up2_ne (by omega), up2_ne (by omega), d1 _ _ (by omega) (by omega)]
        exact q2
      · rw [up2_ne (by omega), up2_ni (by omega), up2_ne (by omega), up2_ne (by omega), up2_ne (by omega), d1 _ _ (by omega) (by omega)]
        exact q3
      · rw [nLine_sp, if_neg e, up2_ne (by omega), up2_ne (by omega), up2_ne (by omega), up2_ne (by omega), up2_ne (by omega), d1 _ _ (by omega) (by omega)]
        exact q4 j j0 j1
      · obtain ⟨w1, w2⟩ := q5 y y0 y1
        refine ⟨?_, fun j j0 j1 => ?_⟩
        · rw [up2_ne (by omega), up2_ne (by omega), up2_ne (by omega), up2_ne (by omega), up2_ne (by omega), d1 _ _ (by omega) (by omega)]
          exact w1
        · rw [up2_ne (by omega), up2_ne (by omega), up2_ne (by omega), up2_ne (by omega), up2_ne (by omega), d1 _ _ (by omega) (by omega)]
          exact w2 j j0 j1
  · rw [up2_ne (by omega), up2_ne (by omega), up2_ne (by omega), up2_ne (by omega), up2_ne (by omega), d1 _ _ (by omega) (by omega)]
    exact h3 x y x0 x1 y0 y1
/-- a line that is bad: the loop ends -/
theorem r_lineBad {M0 M : Mem} {Q : Int → Mem → Prop} {kd w i q : Int} (h : BdR M0 q M) (hQ : ∀ M1, BdR M0 q M1 → Q 0 M1) : AW mX9_readLine 52 [(2, 275), (9, 0), (0, kd), (0, w), (0, i), (0, 0), (9, 0)] M Q :=
  B_R_readLine_52 ⟨fun _ => ⟨fun _ => hQ _ (BdR.mk3 h.2.2.2 h.2.2.1.1 h.2.2.1.2 h.2.1 (by decide)), fun z => absurd z h.1⟩, fun z => absurd rfl z⟩
set_option maxHeartbeats 4000000 in
/-- no stop follows -/
theorem r_lineEnd {B : Int → Int} {n e : Int} {N : Net} {M0 Ms M : Mem} {Q : Int → Mem → Prop} {kd w : Int} {k i : Nat} {f : Int → Int} {go : Int → Out} (hB : TP B n) (hg : Good N) (hr : RH N Ms) (h8 : N.ln < 8) (hki : k + i = 6) (e0 : 0 ≤ e) (e1 : e ≤ n) (hs : RS e M) (hT : LIr N Ms (i : Int) f M) (hf : RFr M0 M) (h62 : k = 0 ∨ B e ≠ 62) (H : RQ B n M0 (nxL B N kd k i e f go) Q) : AW mX9_readLine 52 [(2, 275), (9, 0), (0, kd), (0, w), (0, (i : Int)), (0, 0), (9, 0)] M Q := by
  have hn := hB.1
  have h0 := hg.1
  have el : M 275 0 = N.ln := (hT.1 _ _ (by omega) (by omega)).trans hr.1
  unfold nxL at H
  refine B_R_readLine_52 ?_
  rw [el]
  refine ⟨fun _ => ⟨fun z => absurd hs.1 z, fun _ => ⟨fun h2 => ⟨by omega, by omega, ?_⟩, fun h2 => ?_⟩⟩, fun z => absurd rfl z⟩
  · have hrs : RS e (up2 (up2 (up2 (up2 (up2 M 275 28 0) 276 N.ln kd) 277 N.ln i) 279 N.ln 0) 275 0 (N.ln + 1)) := by
      refine ⟨?_, ?_⟩
      · rw [up2_ni (by omega), up2_ne (by omega), up2_ne (by omega), up2_ne (by omega), up2_at ⟨rfl, rfl⟩]
      · rw [up2_ni (by omega), up2_ne (by omega), up2_ne (by omega), up2_ne (by omega), up2_ni (by omega)]
        exact hs.2
    have hfr : RFr M0 (up2 (up2 (up2 (up2 (up2 M 275 28 0) 276 N.ln kd) 277 N.ln i) 279 N.ln 0) 275 0 (N.ln + 1)) := ((((hf.up (by omega)).up (by omega)).up (by omega)).up (by omega)).up (by omega)
    by_cases hc : 2 ≤ i ∧ (k = 0 ∨ B e = 0 ∨ B e = 59)
    · rw [if_pos hc] at H
      exact H.1 rfl _ hfr (nLine_rh hg hr hT) hrs
    · rw [if_neg hc, byt_neg (by omega)] at H
      refine H.2 rfl _ (Or.inr ⟨hrs, ⟨e0, ?_⟩, (show B e ≠ 59 by omega), hfr⟩)
      by_cases z : e < n
      · exact z
      · have := hB.2.2 e (by omega)
        omega
  · rw [if_neg (by omega), byt_neg (by omega)] at H
    exact H.2 rfl _ (Or.inl (BdR.mk3 (q := e) hf e0 (by omega) hs.2 (by decide)))
set_option maxHeartbeats 8000000 in
theorem r_stops {B : Int → Int} {n : Int} {N : Net} {M0 Ms : Mem} {Q : Int → Mem → Prop} {kd : Int} (hB : TP B n) (hT0 : TR B n M0) (hg : Good N) (hr : RH N Ms) (h8 : N.ln < 8) : ∀ (k i w : Nat) (q : Int) (f : Int → Int) (M : Mem), k + 1 + i = 6 → 0 ≤ q → q ≤ n → RS q M → LIr N Ms (i : Int) f M → RFr M0 M → seenB w i f → RQ B n M0 (slN B N kd (k + 1) i q f) Q → AW mX9_readLine 52 [(2, 275), (9, 0), (0, kd), (0, (w : Int)), (0, (i : Int)), (0, 1), (9, 0)] M Q := by
  have hn := hB.1
  have h0 := hg.1
  intro k
  induction k with
  | zero =>
    intro i w q f M hi q0 q1 hs hT hf hw H
    rw [slN_s] at H
    refine B_R_readLine_52 ⟨fun z => absurd z (by decide), fun _ => ?_⟩
    refine rr_num 2 rfl hB hT0 hs q0 q1 (by decide) (by decide) hf (fun ok M1 f1 s1 g1 => ?_) (fun ok M1 g h => ?_)
    · rw [num_pos ok] at H
      have l1 := eP_le hB 2 q1
      have o1 := ok.2
      have F1 := hf.pd f1
      have T1 := hT.pd f1
      have el : M1 275 0 = N.ln := (T1.1 _ _ (by omega) (by omega)).trans hr.1
      obtain ⟨s, hsv⟩ : ∃ s : Nat, eV B 2 q = (s : Int) := ⟨(eV B 2 q).toNat, by omega⟩
      rw [hsv] at H o1 ⊢
      rw [Int.toNat_natCast s, bit_div, hw s, el, g1, s1.2]
      refine ⟨by omega, by omega, fun hd => ?_, fun hd => ?_⟩
      · rw [Bool.not_eq_false] at hd
        rw [if_pos hd] at H
        exact ⟨fun z => absurd s1.1 z, fun _ => r_lineBad (BdR.mk2 F1 q0 (by omega) rfl) (fun M2 h => H.2 rfl _ (Or.inl h))⟩
      · rw [if_neg (by rw [hd]; decide)] at H
        refine ⟨fun z => absurd s1.1 z, fun _ => ⟨pow_ge s, by omega, by omega, by omega, by omega, fun _ => ?_, fun z => absurd (by omega) z⟩⟩
        rw [show (i : Int) + 1 = ((i + 1 : Nat) : Int) by omega]
        refine r_lineEnd hB hg hr h8 (k := 0) (by omega) (by omega) (by omega) ⟨?_, ?_⟩ ⟨fun a j z1 z2 => ?_, fun j j0 j1 => ?_⟩ (F1.up (by omega)) (Or.inl rfl) H
        · rw [up2_ne (by omega)]
          exact s1.1
        · rw [up2_ne (by omega)]
          exact s1.2
        · rw [up2_ni (by omega)]
          exact T1.1 a j z1 z2
        · show _ = if j = (i : Int) then (s : Int) else f j
          by_cases e : j = (i : Int)
          · rw [if_pos e, up2_at ⟨rfl, by omega⟩]
          · rw [if_neg e, up2_ni (by omega)]
            exact T1.2 j j0 (by omega)
    · rw [num_neg ok] at H
      have hq := fun M2 h => H.2 rfl M2 (Or.inl h)
      refine ⟨by omega, by omega, fun _ => ⟨fun _ => r_lineBad h hq, fun z => absurd z h.1⟩, fun _ => ⟨fun _ => r_lineBad h hq, fun z => absurd z h.1⟩⟩
  | succ k ih =>
    intro i w q f M hi q0 q1 hs hT hf hw H
    rw [slN_s] at H
    refine B_R_readLine_52 ⟨fun z => absurd z (by decide), fun _ => ?_⟩
    refine rr_num 2 rfl hB hT0 hs q0 q1 (by decide) (by decide) hf (fun ok M1 f1 s1 g1 => ?_) (fun ok M1 g h => ?_)
    · rw [num_pos ok] at H
      have l1 := eP_le hB 2 q1
      have o1 := ok.2
      have F1 := hf.pd f1
      have T1 := hT.pd f1
      have t1 := hT0.fr F1
      have el : M1 275 0 = N.ln := (T1.1 _ _ (by omega) (by omega)).trans hr.1
      obtain ⟨s, hsv⟩ : ∃ s : Nat, eV B 2 q = (s : Int) := ⟨(eV B 2 q).toNat, by omega⟩
      rw [hsv] at H o1 ⊢
      rw [Int.toNat_natCast s, bit_div, hw s, el, g1, s1.2, t1.1]
      refine ⟨by omega, by omega, fun hd => ?_, fun hd => ?_⟩
      · rw [Bool.not_eq_false] at hd
        rw [if_pos hd] at H
        exact ⟨fun z => absurd s1.1 z, fun _ => r_lineBad (BdR.mk2 F1 q0 (by omega) rfl) (fun M2 h => H.2 rfl _ (Or.inl h))⟩
      · rw [if_neg (by rw [hd]; decide)] at H
        have T2 : LIr N Ms ((i + 1 : Nat) : Int) (put1 f i s) (up2 M1 278 ((6 * N.ln) + (i : Int)) s) := by
          refine ⟨fun a j z1 z2 => ?_, fun j j0 j1 => ?_⟩
          · rw [up2_ni (by omega)]
            exact T1.1 a j z1 z2
          · show _ = if j = (i : Int) then (s : Int) else f j
            by_cases e : j = (i : Int)
            · rw [if_pos e, up2_at ⟨rfl, by omega⟩]
            · rw [if_neg e, up2_ni (by omega)]
              exact T1.2 j j0 (by omega)
        have s2 : ∀ v, v = eP B 2 q → RS v (up2 (up2 M1 278 ((6 * N.ln) + (i : Int)) s) 275 27 v) := fun v hv => ⟨by rw [up2_ni (by omega), up2_ne (by omega)]; exact s1.1, up2_at ⟨rfl, rfl⟩⟩
        have T3 : ∀ v, LIr N Ms ((i + 1 : Nat) : Int) (put1 f i s) (up2 (up2 M1 278 ((6 * N.ln) + (i : Int)) s) 275 27 v) := fun v => T2.pd (PdF.rf.up (by omega))
        have F3 : ∀ v, RFr M0 (up2 (up2 M1 278 ((6 * N.ln) + (i : Int)) s) 275 27 v) := fun v => (F1.up (by omega)).up (by omega)
        have fin : B (eP B 2 q) ≠ 62 → AW mX9_readLine 52 [(2, 275), (9, 0), (0, kd), (0, ((((w : Int)).toNat ||| ((2 : Int) ^ s).toNat : Nat) : Int)), (0, (i : Int) + 1), (0, 0), (9, 0)] (up2 (up2 M1 278 ((6 * N.ln) + (i : Int)) s) 275 27 (eP B 2 q + 0)) Q := by
          intro hb
          rw [Int.add_zero, show (i : Int) + 1 = ((i + 1 : Nat) : Int) by omega]
          exact r_lineEnd hB hg hr h8 (k := k + 1) (by omega) (by omega) (by omega) (s2 _ rfl) (T3 _) (F3 _) (Or.inr hb) H
        refine ⟨fun z => absurd s1.1 z, fun _ => ⟨pow_ge s, by omega, by omega, by omega, by omega, fun z => absurd z (by omega), fun _ => ⟨fun z => ⟨by omega, fin ?_⟩, fun z => ⟨by omega, ?_⟩⟩⟩⟩
        · rw [hB.2.2 _ z]
          decide
        · rw [t1.2 _ (by omega) (by omega)]
          refine ⟨fun hb => ⟨by omega, fin hb⟩, fun hb => ⟨by omega, ?_⟩⟩
          unfold nxL at H
          rw [if_neg (by omega), byt_pos hb] at H
          have eo := or_pow w (k := s) (i := (s : Int)) rfl
          rw [Int.toNat_natCast s] at eo
          rw [eo, show (i : Int) + 1 = ((i + 1 : Nat) : Int) by omega]
          refine ih (i + 1) (w ||| 2 ^ s) (eP B 2 q + 1) (put1 f i s) _ (by omega) (by omega) (by omega) ⟨?_, up2_at ⟨rfl, rfl⟩⟩ (T3 _) (F3 _) hw.next H
          rw [up2_ni (by omega), up2_ne (by omega)]
          exact s1.1
    · rw [num_neg ok] at H
      have hq := fun M2 h => H.2 rfl M2 (Or.inl h)
      refine ⟨by omega, by omega, fun _ => ⟨fun _ => r_lineBad h hq, fun z => absurd z h.1⟩, fun _ => ⟨fun _ => r_lineBad h hq, fun z => absurd z h.1⟩⟩
set_option maxHeartbeats 4000000 in
theorem r_readLine {B : Int → Int} {n p : Int} {N : Net} {M0 M : Mem} {Q : Int → Mem → Prop} (hB : TP B n) (hT0 : TR B n M0) (hg : Good N) (hr : RH N M) (hp : RS (p + 1) M) (p0 : 0 ≤ p) (p1 : p + 1 ≤ n) (hf : RFr M0 M) (H : RQ B n M0 (oL B N p) Q) : Calls mX9_readLine [(2, 275), (0, p)] S0 M Q := by
  have hn := hB.1
  have h0 := hg.1
  unfold oL at H
  refine E_R_readLine (B_R_readLine_0 ?_)
  rw [hr.1]
  refine ⟨fun h8 => ⟨fun z => absurd hp.1 z, fun _ => ?_⟩, fun h8 => ⟨fun z => absurd hp.1 z, fun _ => ?_⟩⟩
  · rw [if_pos h8] at H
    have hq := fun M2 h => H.2 rfl M2 (Or.inl h)
    have h := BdR.mk2 hf p0 (show p ≤ 80 by omega) rfl
    exact r_within_bad h (by decide) (fun M2 g h => r_wants_bad h (fun M3 g h => ⟨fun _ => r_lineBad h hq, fun z => absurd z h.1⟩))
  · rw [if_neg h8] at H
    refine rr_num 1 rfl hB hT0 hp (by omega) p1 (by decide) (by decide) hf (fun ok1 M1 f1 s1 g1 => ?_) (fun ok1 M1 g h => ?_)
    · rw [num_pos ok1] at H
      have l1 := eP_le hB 1 p1
      have F1 := hf.pd f1
      refine rr_byt hB hT0 s1 (by omega) (by omega) (by decide) F1 (fun q hb M2 f2 s2 => ?_) (fun hb M2 g h => ?_)
      · rw [byt_pos hb] at H
        refine ⟨fun z => absurd s2.1 z, fun _ => ?_⟩
        refine r_stops hB hT0 hg ((hr.pd f1).pd f2) (by omega) 5 0 0 _ _ M2 rfl (by omega) (by omega) s2 ⟨fun _ _ _ _ => rfl, fun j j0 j1 => absurd j1 (by omega)⟩ (F1.pd f2) (fun s => ?_) H
        rw [Nat.zero_testBit]
        rfl
      · rw [byt_neg hb] at H
        exact ⟨fun _ => r_lineBad h (fun M2 h => H.2 rfl M2 (Or.inl h)), fun z => absurd z h.1⟩
    · rw [num_neg ok1] at H
      exact r_wants_bad h (fun M3 g h => ⟨fun _ => r_lineBad h (fun M2 h => H.2 rfl M2 (Or.inl h)), fun z => absurd z h.1⟩)
