/-! table -/
def part (B : Int → Int) (N : Net) (p : Int) : Out := if B p = 76 then oL B N p else if B p = 84 then oT B N p else if B p = 70 then oF B N p else if B p = 68 then oD B N p else (0, p, N)
theorem part_ok {B : Int → Int} {N : Net} {n p : Int} (hB : TP B n) (hg : Good N) (p1 : p ≤ n) : OkO n p (part B N p) := by
  unfold part
  split
  · rename_i h
    exact oL_ok hB hg (by have := byt_lt hB h (by decide); omega)
  · split
    · rename_i h
      exact oT_ok hB hg (by have := byt_lt hB h (by decide); omega)
    · split
      · rename_i h
        exact oF_ok hB hg (by have := byt_lt hB h (by decide); omega)
      · split
        · rename_i h
          exact oD_ok hB hg (by have := byt_lt hB h (by decide); omega)
        · exact okO_0 (Int.le_refl _) p1
theorem part_no {B : Int → Int} {N : Net} {p : Int} (h1 : B p ≠ 76) (h2 : B p ≠ 84) (h3 : B p ≠ 70) (h4 : B p ≠ 68) : part B N p = (0, p, N) := by
  unfold part
  rw [if_neg h1, if_neg h2, if_neg h3, if_neg h4]
theorem part_L {B : Int → Int} {N : Net} {p : Int} (h : B p = 76) : part B N p = oL B N p := if_pos h
theorem part_T {B : Int → Int} {N : Net} {p : Int} (h : B p = 84) : part B N p = oT B N p := by
  unfold part
  rw [if_neg (by omega), if_pos h]
theorem part_F {B : Int → Int} {N : Net} {p : Int} (h : B p = 70) : part B N p = oF B N p := by
  unfold part
  rw [if_neg (by omega), if_neg (by omega), if_pos h]
theorem part_D {B : Int → Int} {N : Net} {p : Int} (h : B p = 68) : part B N p = oD B N p := by
  unfold part
  rw [if_neg (by omega), if_neg (by omega), if_neg (by omega), if_pos h]
theorem CQ.w {M0 : Mem} {O : Out} {Q : Int → Mem → Prop} (h : CQ M0 O Q) : CQ M0 O (fun r M => (r = 0 ∨ r = 1) ∧ Q r M) := ⟨fun q M1 a b c => ⟨Or.inr rfl, h.1 q M1 a b c⟩, fun q M1 a b => ⟨Or.inl rfl, h.2 q M1 a b⟩⟩
set_option maxHeartbeats 4000000 in
theorem c_readPart {B : Int → Int} {n p : Int} {N : Net} {M0 M : Mem} {Q : Int → Mem → Prop} (hB : TP B n) (hT0 : TC B n M0) (hg : Good N) (hc : CH N 0 M) (hp : M 267 2 = p) (p0 : 0 ≤ p) (p1 : p ≤ n) (hf : CFr M0 M) (H : CQ M0 (part B N p) Q) : Calls mX4_readPart [(2, 267)] S0 M Q := by
  have hn := hB.1
  have hT := hT0.cf hf
  refine E_Reader_readPart (B_Reader_readPart_0 ?_)
  rw [hp, hT.1]
  have hF2 : CFr M0 (up2 (up2 M 267 3 p) 267 2 (p + 1)) := (hf.up (by omega)).up (by omega)
  have hF6 : CFr M0 (up2 (up2 M 267 3 p) 267 6 p) := (hf.up (by omega)).up (by omega)
  have hC2 : CH N 0 (up2 (up2 M 267 3 p) 267 2 (p + 1)) := hc.keep hg (fun a i q1 q2 => by rw [up2_ne (by omega), up2_ne (by omega)])
  have h3 : up2 (up2 M 267 3 p) 267 2 (p + 1) 267 3 = p := by rw [up2_ni (by omega), up2_at ⟨rfl, rfl⟩]
  have no : B p ≠ 76 → B p ≠ 84 → B p ≠ 70 → B p ≠ 68 → Q 0 (up2 (up2 M 267 3 p) 267 6 p) := fun z1 z2 z3 z4 => by
    rw [part_no z1 z2 z3 z4] at H
    exact H.2 rfl _ hF6 (up2_at ⟨rfl, rfl⟩)
  refine ⟨fun z => absurd z (by omega), fun _ => ⟨fun z => ?_, fun z => ⟨by omega, ?_⟩⟩⟩
  · have := hB.2.2 p z
    exact no (by omega) (by omega) (by omega) (by omega)
  · rw [hT.2 p p0 (by omega)]
    refine ⟨fun h => no h.2.2.1 h.2.2.2 h.2.1 h.1, fun h => ⟨by omega, ?_⟩, fun h => ⟨by omega, ?_⟩, fun h => ⟨by omega, ?_⟩, fun h => ⟨by omega, ?_⟩⟩
    · rw [part_D h] at H
      exact c_readDelay hB hT0 hg hC2 (up2_at ⟨rfl, rfl⟩) h3 p0 (by omega) hF2 H.w
    · rw [part_F h] at H
      exact c_readPath hB hT0 hg hC2 (up2_at ⟨rfl, rfl⟩) p0 (by omega) hF2 H.w
    · rw [part_L h] at H
      exact c_readLine hB hT0 hg hC2 (up2_at ⟨rfl, rfl⟩) h3 p0 (by omega) hF2 H.w
    · rw [part_T h] at H
      exact c_readTrip hB hT0 hg hC2 (up2_at ⟨rfl, rfl⟩) h3 p0 (by omega) hF2 H.w
set_option maxHeartbeats 4000000 in
theorem r_readPart {B : Int → Int} {n p : Int} {N : Net} {M0 M : Mem} {Q : Int → Mem → Prop} (hB : TP B n) (hT0 : TR B n M0) (hg : Good N) (hr : RH N M) (hp : RS p M) (p0 : 0 ≤ p) (p1 : p ≤ n) (hf : RFr M0 M) (H : RQ B n M0 (part B N p) Q) : Calls mX9_readPart [(2, 275)] S0 M Q := by
  have hn := hB.1
  have hT := hT0.fr hf
  refine E_R_readPart (B_R_readPart_0 ?_)
  rw [hp.2, hT.1]
  have hF2 : RFr M0 (up2 (up2 M 275 28 0) 275 27 (p + 1)) := (hf.up (by omega)).up (by omega)
  have hR2 : RH N (up2 (up2 M 275 28 0) 275 27 (p + 1)) := hr.keep (fun a i q => by rw [up2_ni (by omega), up2_ni (by omega)])
  have hs : RS (p + 1) (up2 (up2 M 275 28 0) 275 27 (p + 1)) := ⟨by rw [up2_ni (by omega), up2_at ⟨rfl, rfl⟩], up2_at ⟨rfl, rfl⟩⟩
  have no : B p ≠ 76 → B p ≠ 84 → B p ≠ 70 → B p ≠ 68 → Q 0 (up2 (up2 M 275 28 1) 275 27 (p + 0)) := fun z1 z2 z3 z4 => by
    rw [part_no z1 z2 z3 z4] at H
    exact H.2 rfl _ (Or.inl (BdR.mk2 (q := p) hf p0 (by omega) (Int.add_zero p)))
  refine ⟨fun z => ⟨by omega, ?_⟩, fun z => ⟨by omega, ?_⟩⟩
  · have := hB.2.2 p z
    exact no (by omega) (by omega) (by omega) (by omega)
  · rw [hT.2 p p0 (by omega)]
    refine ⟨fun h => ⟨by omega, ?_⟩, fun h1 => ⟨fun h => ⟨by omega, ?_⟩, fun h2 => ⟨fun h => ⟨by omega, ?_⟩, fun h3 => ⟨fun h => ⟨by omega, ?_⟩, fun h4 => ⟨by omega, no h1 h2 h3 h4⟩⟩⟩⟩⟩
    · rw [part_L h] at H
      exact r_readLine hB hT0 hg hR2 hs p0 (by omega) hF2 H
    · rw [part_T h] at H
      exact r_readTrip hB hT0 hg hR2 hs p0 (by omega) hF2 H
    · rw [part_F h] at H
      exact r_readFoot hB hT0 hR2 hs p0 (by omega) hF2 H
    · rw [part_D h] at H
      exact r_readDelay hB hT0 hg hR2 hs p0 (by omega) hF2 H
/-- all parts: the answer, the timetable -/
def tbl (B : Int → Int) : Nat → Int → Int → Net → Int × Net
  | 0, _, _, N => (0, N)
  | k + 1, p, c, N => if (part B N p).1 = 1 then (if B (part B N p).2.1 = 0 then (c + 1, (part B N p).2.2) else if B (part B N p).2.1 = 59 then tbl B k ((part B N p).2.1 + 1) (c + 1) (part B N p).2.2 else (-100 - (part B N p).2.1, N)) else (-100 - (part B N p).2.1, N)
theorem tbl_s (B : Int → Int) (k : Nat) (p c : Int) (N : Net) : tbl B (k + 1) p c N = if (part B N p).1 = 1 then (if B (part B N p).2.1 = 0 then (c + 1, (part B N p).2.2) else if B (part B N p).2.1 = 59 then tbl B k ((part B N p).2.1 + 1) (c + 1) (part B N p).2.2 else (-100 - (part B N p).2.1, N)) else (-100 - (part B N p).2.1, N) := rfl
theorem tbl_ok {B : Int → Int} {n : Int} (hB : TP B n) : ∀ (k : Nat) (p c : Int) (N : Net), p ≤ n → Good N → Good (tbl B k p c N).2 := by
  intro k
  induction k with
  | zero => exact fun p c N _ hg => hg
  | succ k ih =>
    intro p c N p1 hg
    have ho := part_ok (N := N) hB hg p1
    rw [tbl_s]
    split
    · rename_i h1
      split
      · exact (ho.2.2 h1).2
      · split
        · rename_i h59
          have := byt_lt hB h59 (by decide)
          exact ih _ _ _ (by omega) (ho.2.2 h1).2
        · exact hg
    · exact hg
set_option maxHeartbeats 4000000 in
theorem c_tbl {B : Int → Int} {n : Int} {M0 : Mem} {Q : Int → Mem → Prop} (hB : TP B n) (hT0 : TC B n M0) : ∀ (k : Nat) (p c : Int) (N : Net) (M : Mem), n + 1 ≤ p + (k : Int) → 0 ≤ p → p ≤ n → 0 ≤ c → 2 * c ≤ p → Good N → CH N 0 M → CFr M0 M → M 267 2 = p → (∀ M1, CFr M0 M1 → (0 ≤ (tbl B k p c N).1 → CH (tbl B k p c N).2 0 M1) → Q (tbl B k p c N).1 M1) → AW mX4_readTable 7 [(2, 267), (0, c + 1)] M Q := by
  have hn := hB.1
  intro k
  induction k with
  | zero => exact fun p c N M h1 _ h2 => absurd h1 (by omega)
  | succ k ih =>
    intro p c N M hk p0 p1 c0 c1 hg hc hf hp H
    have ho := part_ok (N := N) hB hg p1
    rw [tbl_s] at H
    refine B_Reader_readTable_7 ⟨fun z => absurd z (by omega), fun _ => c_readPart hB hT0 hg hc hp p0 p1 hf ⟨fun h1 M1 hf1 hc1 hp1 => ?_, fun h0 M1 hf1 hp1 => ?_⟩⟩
    · rw [if_pos h1] at H
      have hg1 := (ho.2.2 h1).2
      have hl1 := (ho.2.2 h1).1
      have hl2 := ho.2.1.2
      have hT := hT0.cf hf1
      rw [hp1, hT.1]
      refine ⟨fun _ => ⟨fun hlt => ⟨fun z => absurd z (by omega), fun _ => ⟨fun z => absurd z (by omega), fun _ => ⟨by omega, ?_⟩⟩⟩, fun hge => ?_⟩, fun z => absurd z (by decide)⟩
      · have hb := hB.2.1 (part B N p).2.1 (by omega) hlt
        rw [hT.2 _ (by omega) hlt]
        rw [if_neg (by omega)] at H
        refine ⟨fun h59 => ⟨by omega, by omega, ?_⟩, fun h59 => ⟨by omega, ?_⟩⟩
        · rw [if_pos h59] at H
          refine ih ((part B N p).2.1 + 1) (c + 1) (part B N p).2.2 _ (by omega) (by omega) (by omega) (by omega) (by omega) hg1 (hc1.keep hg1 (fun a i q1 q2 => up2_ne (by omega))) (hf1.up (by omega)) (up2_at ⟨rfl, rfl⟩) H
        · rw [if_neg h59] at H
          exact H _ (hf1.up (by omega)) (fun z => absurd z (by show ¬ (0 : Int) ≤ -100 - (part B N p).2.1; omega))
      · rw [if_pos (hB.2.2 _ (by omega))] at H
        exact H _ hf1 (fun _ => hc1)
    · rw [if_neg (by omega)] at H
      have hl2 := ho.2.1
      rw [hp1]
      refine ⟨fun z => absurd rfl z, fun _ => ⟨by omega, H _ hf1 (fun z => absurd z ?_)⟩⟩
      show ¬ (0 : Int) ≤ -100 - (part B N p).2.1
      omega
-- THE REFERENCE
def RFx (M0 M : Mem) : Prop := ∀ a i, ¬ (a = 275 ∧ (i = 0 ∨ (26 ≤ i ∧ i ≤ 29))) → ¬ (276 ≤ a ∧ a ≤ 282) → M a i = M0 a i
theorem r_tabBad {B : Int → Int} {n c q : Int} {M0 M : Mem} {Q : Int → Mem → Prop} (hT0 : TR B n M0) (h : BdW B n M0 q M) (hQ : ∀ M1, RFx M0 M1 → M1 275 27 = q → M1 275 26 = 0 → Calls mX9_carryAll [(2, 275), (2, 293), (0, 0)] S0 M1 (fun _ M4 => (-2147483648 ≤ (-100) - (M4 275 27) ∧ (-100) - (M4 275 27) ≤ 2147483647) ∧ Q ((-100) - (M4 275 27)) M4)) : AW mX9_table 28 [(2, 275), (0, c), (0, 0)] M Q := by
  have e : M 275 27 = q := by
    rcases h with h | h
    · exact h.2.1
    · exact h.1.2
  have hf : RFr M0 M := by
    rcases h with h | h
    · exact h.2.2.2
    · exact h.2.2.2
  have hq := hQ (up2 (up2 M 275 28 1) 275 26 0) (fun a i z z2 => by rw [up2_ni (by omega), up2_ni (by omega)]; exact hf a i (by omega) z2) (by rw [up2_ni (by omega), up2_ni (by omega)]; exact e) (up2_at ⟨rfl, rfl⟩)
  refine B_R_table_28 ⟨fun _ => ⟨fun _ => hq, fun z => ⟨fun z2 => ?_, fun _ => hq⟩⟩, fun z => absurd rfl z⟩
  rcases h with h | h
  · exact absurd z h.1
  · rw [(hT0.fr hf).1, e] at z2
    exact absurd z2 (by have := h.2.1; omega)
theorem BdW.up {B : Int → Int} {n q v : Int} {M0 M : Mem} (h : BdW B n M0 q M) (hv : v = q) : BdW B n M0 q (up2 M 275 27 v) := by
  subst hv
  rcases h with h | h
  · exact Or.inl (h.pd (PdF.rf.up (by omega)) (by rw [up2_ni (by omega)]; exact h.1) (up2_at ⟨rfl, rfl⟩))
  · exact Or.inr ⟨⟨by rw [up2_ni (by omega)]; exact h.1.1, up2_at ⟨rfl, rfl⟩⟩, h.2.1, h.2.2.1, h.2.2.2.up (by omega)⟩
theorem BdW.at {B : Int → Int} {n q : Int} {M0 M : Mem} (h : BdW B n M0 q M) : M 275 27 = q := by
  rcases h with h | h
  · exact h.2.1
  · exact h.1.2
theorem BdW.fr {B : Int → Int} {n q : Int} {M0 M : Mem} (h : BdW B n M0 q M) : RFr M0 M := by
  rcases h with h | h
  · exact h.2.2.2
  · exact h.2.2.2
set_option maxHeartbeats 4000000 in
theorem r_tbl {B : Int → Int} {n : Int} {M0 : Mem} {Q : Int → Mem → Prop} (hB : TP B n) (hT0 : TR B n M0) : ∀ (k : Nat) (p c : Int) (N : Net) (M : Mem), n + 1 ≤ p + (k : Int) → 0 ≤ p → p ≤ n → 0 ≤ c → 2 * c ≤ p → Good N → RH N M → RFr M0 M → RS p M → (0 ≤ (tbl B k p c N).1 → ∀ M1, RFr M0 M1 → RH (tbl B k p c N).2 M1 → Q (tbl B k p c N).1 (up2 (up2 M1 275 28 0) 275 26 0)) → (∀ q M1, (tbl B k p c N).1 = -100 - q → 0 ≤ q → q ≤ 80 → RFx M0 M1 → M1 275 27 = q → M1 275 26 = 0 → Calls mX9_carryAll [(2, 275), (2, 293), (0, 0)] S0 M1 (fun _ M4 => (-2147483648 ≤ (-100) - (M4 275 27) ∧ (-100) - (M4 275 27) ≤ 2147483647) ∧ Q ((-100) - (M4 275 27)) M4)) → AW mX9_table 28 [(2, 275), (0, c), (0, 1)] M Q := by
  have hn := hB.1
  intro k
  induction k with
  | zero => exact fun p c N M h1 _ h2 => absurd h1 (by omega)
  | succ k ih =>
    intro p c N M hk p0 p1 c0 c1 hg hr hf hp H1 H0
    have ho := part_ok (N := N) hB hg p1
    rw [tbl_s] at H1 H0
    refine B_R_table_28 ⟨fun z => absurd z (by decide), fun _ => r_readPart hB hT0 hg hr hp p0 p1 hf ⟨fun h1 M1 hf1 hr1 hs1 => ?_, fun h0 M1 hw => ?_⟩⟩
    · rw [if_pos h1] at H1 H0
      have hg1 := (ho.2.2 h1).2
      have hl1 := (ho.2.2 h1).1
      have hl2 := ho.2.1.2
      have hT := hT0.fr hf1
      rw [hs1.2, hT.1]
      refine ⟨by omega, fun z => absurd hs1.1 z, fun _ => ⟨fun hge => ⟨by omega, ?_⟩, fun hlt => ⟨by omega, ?_⟩⟩⟩
      · rw [if_pos (hB.2.2 _ hge)] at H1
        have hz : up2 M1 275 27 ((part B N p).2.1 + 0) 275 28 = 0 := by
          rw [up2_ni (by omega)]
          exact hs1.1
        have ht : up2 M1 275 27 ((part B N p).2.1 + 0) 275 26 = n := by
          rw [up2_ni (by omega)]
          exact hT.1
        have hp : up2 M1 275 27 ((part B N p).2.1 + 0) 275 27 = (part B N p).2.1 + 0 := up2_at ⟨rfl, rfl⟩
        refine B_R_table_28 ?_
        rw [hz, ht, hp]
        exact ⟨fun _ => ⟨fun z => absurd rfl z, fun _ => ⟨fun _ => H1 (by show (0 : Int) ≤ c + 1; omega) _ (hf1.up (by omega)) (hr1.keep (fun a i z => up2_ni (by omega))), fun z => absurd (by omega) z⟩⟩, fun z => absurd rfl z⟩
      · have hb := hB.2.1 (part B N p).2.1 (by omega) (by omega)
        rw [hT.2 _ (by omega) (by omega)]
        rw [if_neg (by omega)] at H1 H0
        refine ⟨fun h59 => ⟨by omega, ?_⟩, fun h59 => ⟨by omega, ?_⟩⟩
        · rw [if_neg h59] at H0
          have hw : BdW B n M0 (part B N p).2.1 M1 := Or.inr ⟨hs1, ⟨by omega, by omega⟩, h59, hf1⟩
          exact r_tabBad hT0 (hw.up (Int.add_zero _)) (fun M2 z1 z2 z3 => H0 (part B N p).2.1 M2 rfl (by omega) (by omega) z1 z2 z3)
        · rw [if_pos h59] at H1 H0
          exact ih ((part B N p).2.1 + 1) (c + 1) (part B N p).2.2 _ (by omega) (by omega) (by omega) (by omega) (by omega) hg1 (hr1.keep (fun a i z => up2_ni (by omega))) (hf1.up (by omega)) ⟨by rw [up2_ni (by omega)]; exact hs1.1, up2_at ⟨rfl, rfl⟩⟩ H1 H0
    · rw [if_neg (by omega)] at H1 H0
      have hl2 := ho.2.1
      have e := hw.at
      have hT := hT0.fr hw.fr
      have fin : AW mX9_table 28 [(2, 275), (0, c + 1), (0, 0)] (up2 M1 275 27 ((part B N p).2.1 + 0)) Q := r_tabBad hT0 (hw.up (Int.add_zero _)) (fun M2 z1 z2 z3 => H0 (part B N p).2.1 M2 rfl (by omega) (by omega) z1 z2 z3)
      rw [e, hT.1]
      refine ⟨by omega, fun _ => ⟨by omega, fin⟩, fun z => ⟨fun _ => ⟨by omega, fin⟩, fun hlt => ⟨by omega, fun _ => ⟨by omega, fin⟩, fun h59 => ?_⟩⟩⟩
      rcases hw with h | h
      · exact absurd z h.1
      · rw [hT.2 _ (by omega) (by omega)] at h59
        exact absurd h59 h.2.2.1
set_option maxHeartbeats 8000000 in
theorem b_table : Bo mX8_table mX9_table [] := by
  intro M K ⟨N, hI⟩ hK
  have hg := hI.g
  obtain ⟨t1, t2, t3⟩ := hI.ta
  -- the tape
  obtain ⟨B, hBd⟩ : ∃ B : Int → Int, B = fun p => if 0 ≤ p ∧ p < M 263 1 then M 264 p else 0 := ⟨_, rfl⟩
  have hB0 : ∀ p, 0 ≤ p → p < M 263 1 → M 264 p = B p := fun p p0 p1 => by rw [hBd]; exact (if_pos ⟨p0, p1⟩).symm
  have hB : TP B (M 263 1) := ⟨t2, fun p p0 p1 => by rw [← hB0 p p0 p1]; exact (t3 p p0 p1).2, fun p p1 => by rw [hBd]; exact if_neg (by omega)⟩
  generalize hnn : M 263 1 = n at t1 t2 t3 hBd hB0 hB
  have hn := hB.1
  -- the class
  refine E_C_table (B_C_table_0 (c_copy3 (fun M1 h1 => ?_)))
  have f1 : ∀ x i, ¬ (153 ≤ x ∧ x ≤ 228) → M1 x i = M x i := fun x i q => h1.1 x i (by omega)
  have hc1 : CH N 0 M1 := hI.c.keep hg (fun a i q1 q2 => f1 a i (by omega))
  have hc1k : CH N 152 M1 := h1.ch hg hI.c
  have hT1 : TC B n M1 := ⟨by rw [f1 _ _ (by omega)]; exact hnn, fun p p0 p1 => by rw [f1 _ _ (by omega)]; exact hB0 p p0 p1⟩
  have F1 : CFr M1 (up2 M1 267 2 0) := CFr.rf.up (Or.inr rfl)
  have gt := tbl_ok hB 81 0 0 N hn.1 hg
  refine E_Reader_readTable (B_Reader_readTable_0 (c_tbl hB hT1 81 0 0 N _ (by omega) (by omega) hn.1 (by omega) (by omega) hg (hc1.keep hg (fun a i q1 q2 => up2_ne (by omega))) F1 (up2_at ⟨rfl, rfl⟩) (fun M2 f2 hc2 => ?_)))
  -- the reference, behind whatever the class did
  have ref : ∀ (M3 : Mem) (N2 : Net), (∀ a i, ¬ (1 ≤ a ∧ a ≤ 76) → a ≠ 267 → ¬ (153 ≤ a ∧ a ≤ 228) → ¬ (a = 263 ∧ i = 1) → M3 a i = M a i) → M3 263 1 = 0 → Good N2 → CH N2 0 M3 → ((0 ≤ (tbl B 81 0 0 N).1 ∧ N2 = (tbl B 81 0 0 N).2) ∨ ((tbl B 81 0 0 N).1 < 0 ∧ N2 = N)) → Calls mX9_table [(2, 275)] S0 M3 (fun r2 M2 => K (tbl B 81 0 0 N).1 r2 M2) := by
    intro M3 N2 f3 h263 hg2 hc3 hN2
    have S3 : ∀ a i, ¬ scr a i → ¬ (1 ≤ a ∧ a ≤ 76) → ¬ (a = 263 ∧ i = 1) → M3 a i = M a i := fun a i q q2 q3 => f3 a i q2 (fun w => q (by unfold scr; omega)) (fun w => q (by unfold scr; omega)) q3
    refine E_R_table (B_R_table_0 (r_carryAll1 (Or.inr rfl) (fun M4 h4 => ?_)))
    have fr := h4.2.1 rfl
    have back : ∀ a i, a ≠ 293 → ¬ (a = 275 ∧ (i = 8 ∨ (33 ≤ i ∧ i ≤ 35))) → M4 a i = M3 a i := fun a i q1 q2 => by
      rw [fr a i q1 (by omega), up2_ni (by omega)]
    have hr3 : RH N M3 := hI.r.keep (fun a i q => f3 a i (by omega) (by omega) (by omega) (by omega))
    have hr4 : RH N M4 := hr3.keep (fun a i q => back a i (by omega) (by omega))
    have ri4 : RI N 293 M4 := h4.ri hg hr4
    obtain ⟨M5, hM5⟩ : ∃ M5, M5 = up2 (up2 M4 275 27 0) 275 28 0 := ⟨_, rfl⟩
    have f5 : ∀ a i, ¬ (a = 275 ∧ 27 ≤ i ∧ i ≤ 28) → M5 a i = M4 a i := fun a i q => by rw [hM5, up2_ni (by omega), up2_ni (by omega)]
    have hr5 : RH N M5 := hr4.keep (fun a i q => f5 a i (by omega))
    have ri5 : RI N 293 M5 := ri4.keep (fun i => f5 _ _ (by omega))
    have hs5 : RS 0 M5 := by rw [hM5]; exact ⟨up2_at ⟨rfl, rfl⟩, by rw [up2_ni (by omega), up2_at ⟨rfl, rfl⟩]⟩
    have hT5 : TR B n M5 := ⟨by rw [f5 _ _ (by omega), back _ _ (by omega) (by omega), f3 _ _ (by omega) (by omega) (by omega) (by omega), ← t1], fun p p0 p1 => by
      rw [f5 _ _ (by omega), back _ _ (by omega) (by omega), f3 _ _ (by omega) (by omega) (by omega) (by omega), ← (t3 p p0 p1).1]
      exact hB0 p p0 p1⟩
    rw [← hM5]
    -- the tape is empty
    have hI2 : IN N (up2 (up2 M 263 1 0) 275 26 0) := by
      refine hI.tape (fun a i q q2 q3 q4 => ?_) ⟨?_, ?_, fun j j0 j1 => ?_⟩
      · rw [up2_ni q4, up2_ne (by omega)]
      · rw [up2_ni (by omega), up2_at ⟨rfl, rfl⟩, up2_at ⟨rfl, rfl⟩]
      · rw [up2_ni (by omega), up2_at ⟨rfl, rfl⟩]
        decide
      · rw [up2_ni (by omega), up2_at ⟨rfl, rfl⟩] at j1
        omega
    have fin : ∀ M6 : Mem, (∀ a i, ¬ (a = 275 ∧ (i = 0 ∨ (26 ≤ i ∧ i ≤ 29) ∨ (33 ≤ i ∧ i ≤ 35))) → ¬ (276 ≤ a ∧ a ≤ 282) → M6 a i = M5 a i) → M6 275 26 = 0 → RH N2 M6 → K (tbl B 81 0 0 N).1 (tbl B 81 0 0 N).1 M6 := by
      intro M6 f6 h26 hr6
      have hc6 : CH N2 0 M6 := hc3.keep hg2 (fun a i q1 q2 => by rw [f6 a i (by omega) (by omega), f5 a i (by omega), back a i (by omega) (by omega)])
      refine hK _ _ ⟨N2, hI2.net (fun a i q q2 q3 q4 => ?_) hg2 hc6 hr6⟩
      by_cases e1 : a = 275 ∧ i = 26
      · rw [e1.1, e1.2, h26, up2_at ⟨rfl, rfl⟩]
      · rw [up2_ni e1, f6 a i (fun w => by have : ¬ scr a i := q; unfold scr at this; omega) q4, f5 a i (fun w => by have : ¬ scr a i := q; unfold scr at this; omega), back a i (fun w => q (by unfold scr; omega)) (fun w => by have : ¬ scr a i := q; unfold scr at this; omega)]
        by_cases e2 : a = 263 ∧ i = 1
        · rw [e2.1, e2.2, h263, up2_at ⟨rfl, rfl⟩]
        · rw [up2_ni e2]
          exact S3 a i q q2 e2
    refine r_tbl hB hT5 81 0 0 N M5 (by omega) (by omega) hn.1 (by omega) (by omega) hg hr5 RFr.rf hs5 (fun h0 M6 f6 hr6 => ?_) (fun q M6 hq q0 q1 f6 h27 h26 => ?_)
    · have e2 : N2 = (tbl B 81 0 0 N).2 := by
        rcases hN2 with w | w
        · exact w.2
        · exact absurd h0 (by omega)
      rw [← e2] at hr6
      refine fin _ (fun a i z z2 => ?_) (up2_at ⟨rfl, rfl⟩) (hr6.keep (fun a i z => ?_))
      · rw [up2_ni (by omega), up2_ni (by omega)]
        exact f6 a i (by omega) z2
      · rw [up2_ni (by omega), up2_ni (by omega)]
    · have e2 : N2 = N := by
        rcases hN2 with w | w
        · exact absurd w.1 (by omega)
        · exact w.2
      refine r_carryAll1 (Or.inl rfl) (fun M7 h7 => ?_)
      have fr7 := h7.2.2.1 rfl
      have ri7 : RI N 293 M7 := ri5.keep (fun i => by rw [fr7 _ _ (by omega) (by omega), f6 _ _ (by omega) (by omega)])
      have hr7 := h7.rh hg ri7
      have e27 : M7 275 27 = q := by
        rw [fr7 _ _ (by omega) (by omega)]
        exact h27
      have e26 : M7 275 26 = M6 275 26 := fr7 _ _ (by omega) (by omega)
      rw [e27, ← hq]
      refine ⟨by omega, fin M7 (fun a i z z2 => ?_) ?_ (by rw [e2]; exact hr7)⟩
      · rw [fr7 a i (by omega) z2]
        exact f6 a i (by omega) z2
      · rw [e26]
        exact h26
  refine ⟨fun h0 => ?_, fun h0 => c_copy1 (fun M3 h3 => ?_)⟩
  · refine ref _ _ (fun a i q1 q2 q3 q4 => ?_) (up2_at ⟨rfl, rfl⟩) gt ((hc2 h0).keep gt (fun a i q1 q2 => up2_ne (by omega))) (Or.inl ⟨h0, rfl⟩)
    rw [up2_ni q4, f2 a i q1 q2]
    exact f1 a i q3
  · have hc2k : CH N 152 M2 := hc1k.keep hg (fun a i q1 q2 => f2 a i (by omega) (by omega))
    have hc3 := h3.ch hg hc2k
    refine ref _ N (fun a i q1 q2 q3 q4 => ?_) (up2_at ⟨rfl, rfl⟩) hg (hc3.keep hg (fun a i q1 q2 => up2_ne (by omega))) (Or.inr ⟨by omega, rfl⟩)
    rw [up2_ni q4, h3.1 a i (by omega), f2 a i q1 q2]
    exact f1 a i q3
