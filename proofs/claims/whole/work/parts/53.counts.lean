/-! SUMS, PLACES, COUNTS, BITS -/
def sumI (f : Int → Int) : Nat → Int
  | 0 => 0
  | k + 1 => sumI f k + f k
theorem sumI_s (f : Int → Int) (k : Nat) : sumI f (k + 1) = sumI f k + f k := rfl
theorem sumI_bd {f : Int → Int} {b : Int} : ∀ n : Nat, (∀ k : Nat, k < n → 0 ≤ f k ∧ f k ≤ b) → 0 ≤ sumI f n ∧ sumI f n ≤ b * n
  | 0, _ => by
    show (0 : Int) ≤ 0 ∧ (0 : Int) ≤ b * 0
    rw [Int.mul_zero]
    omega
  | n + 1, h => by
    have ih := sumI_bd n (fun k hk => h k (by omega))
    have := h n (by omega)
    rw [sumI_s, show ((n + 1 : Nat) : Int) = (n : Int) + 1 by omega, Int.mul_add, Int.mul_one]
    omega
theorem sumI_cong {f g : Int → Int} : ∀ n : Nat, (∀ k : Nat, k < n → f k = g k) → sumI f n = sumI g n
  | 0, _ => rfl
  | n + 1, h => by rw [sumI_s, sumI_s, sumI_cong n (fun k hk => h k (by omega)), h n (by omega)]
theorem sumI_add {f g : Int → Int} : ∀ n : Nat, sumI (fun k => f k + g k) n = sumI f n + sumI g n
  | 0 => rfl
  | n + 1 => by
    rw [sumI_s, sumI_s, sumI_s, sumI_add n]
    omega
theorem sumI_zero : ∀ n : Nat, sumI (fun _ => 0) n = 0
  | 0 => rfl
  | n + 1 => by rw [sumI_s, sumI_zero n]; rfl
theorem sumI_comm (g : Int → Int → Int) (m : Nat) : ∀ n : Nat, sumI (fun a => sumI (fun b => g a b) m) n = sumI (fun b => sumI (fun a => g a b) n) m
  | 0 => (sumI_zero m).symm
  | n + 1 => by
    rw [sumI_s, sumI_comm g m n, ← sumI_add]
    rfl
theorem sumI_flat (f : Int → Int) (w : Nat) : ∀ n : Nat, sumI f (w * n) = sumI (fun a => sumI (fun b => f (w * a + b)) w) n
  | 0 => rfl
  | n + 1 => by
    have gen : ∀ k : Nat, sumI f (w * n + k) = sumI f (w * n) + sumI (fun b => f (w * (n : Int) + b)) k := by
      intro k
      induction k with
      | zero => show sumI f (w * n) = sumI f (w * n) + 0; omega
      | succ k ih =>
        rw [show w * n + (k + 1) = (w * n + k) + 1 by omega, sumI_s, sumI_s, ih, show (((w * n + k : Nat)) : Int) = (w : Int) * (n : Int) + (k : Int) by rw [Int.natCast_add, Int.natCast_mul]]
        omega
    rw [Nat.mul_succ, gen w, sumI_s, sumI_flat f w n]
-- the place of a stop
def plN (N : Net) (l s : Int) : Nat → Int
  | 0 => -1
  | i + 1 => if N.sp l i = s then (i : Int) else plN N l s i
abbrev plc (N : Net) (l s : Int) : Int := plN N l s (N.sz l).toNat
theorem plN_cases (N : Net) (l s : Int) : ∀ k : Nat, (plN N l s k = -1 ∧ ∀ i, 0 ≤ i → i < (k : Int) → N.sp l i ≠ s) ∨ (0 ≤ plN N l s k ∧ plN N l s k < k ∧ N.sp l (plN N l s k) = s)
  | 0 => Or.inl ⟨rfl, fun i i0 i1 => absurd i1 (by omega)⟩
  | k + 1 => by
    unfold plN
    by_cases h : N.sp l k = s
    · rw [if_pos h]
      exact Or.inr ⟨by omega, by omega, h⟩
    · rw [if_neg h]
      rcases plN_cases N l s k with ⟨q, q2⟩ | ⟨q1, q2, q3⟩
      · refine Or.inl ⟨q, fun i i0 i1 => ?_⟩
        by_cases hi : i = (k : Int)
        · rw [hi]; exact h
        · exact q2 i i0 (by omega)
      · exact Or.inr ⟨q1, by omega, q3⟩
theorem plc_cases {N : Net} {l : Int} (hg : Good N) (l0 : 0 ≤ l) (l1 : l < N.ln) (s : Int) : (plc N l s = -1 ∧ ∀ i, 0 ≤ i → i < N.sz l → N.sp l i ≠ s) ∨ (0 ≤ plc N l s ∧ plc N l s < N.sz l ∧ N.sp l (plc N l s) = s) := by
  have hk := hg.lineK l0 l1
  have := plN_cases N l s (N.sz l).toNat
  rw [show (((N.sz l).toNat : Nat) : Int) = N.sz l by omega] at this
  exact this
theorem plc_at {N : Net} {l s i : Int} (hg : Good N) (l0 : 0 ≤ l) (l1 : l < N.ln) (i0 : 0 ≤ i) (i1 : i < N.sz l) (h : N.sp l i = s) : plc N l s = i := by
  rcases plc_cases hg l0 l1 s with ⟨-, q⟩ | ⟨q1, q2, q3⟩
  · exact absurd h (q i i0 i1)
  · exact (hg.2.1 l l0 l1).2.2.2.2.1 _ _ q1 q2 i0 i1 (q3.trans h.symm)
theorem plc_no {N : Net} {l s : Int} (hg : Good N) (l0 : 0 ≤ l) (l1 : l < N.ln) (h : ∀ i, 0 ≤ i → i < N.sz l → N.sp l i ≠ s) : plc N l s = -1 := by
  rcases plc_cases hg l0 l1 s with ⟨q, -⟩ | ⟨q1, q2, q3⟩
  · exact q
  · exact absurd q3 (h _ q1 q2)
theorem c_placeOf {N : Net} {M : Mem} {Q : Int → Mem → Prop} {l s : Int} (hg : Good N) (hN : CH N 0 M) (l0 : 0 ≤ l) (l1 : l < N.ln) (hQ : Q (plc N l s) M) : Calls mX3_placeOf [(2, 1), (0, l), (0, s)] S0 M Q := by
  have hk := hg.lineK l0 l1
  have hsz := (hN.line l0 l1).2.1
  refine E_Net_placeOf (B_Net_placeOf_0 ?_)
  have key : ∀ k : Nat, k ≤ (N.sz l).toNat → ∀ i, i = (k : Int) → (∀ j, 0 ≤ j → j < i → N.sp l j ≠ s) → AW mX3_placeOf 2 [(2, 1), (0, l), (0, s), (0, i)] M Q := by
    refine up_ind _ ?_ ?_
    · intro i hi h
      refine B_Net_placeOf_2 ⟨by omega, fun _ => ?_, fun q => absurd (by omega) q⟩
      rw [plc_no hg l0 l1 (fun j j0 j1 => h j j0 (by omega))] at hQ
      exact hQ
    · intro k hk2 ih i hi h
      refine B_Net_placeOf_2 ⟨by omega, fun q => absurd q (by omega), fun _ => ⟨by omega, ?_⟩⟩
      rw [hN.stop l0 l1 (i := i) (by omega) (by omega) rfl]
      refine ⟨fun q => ⟨by omega, ih _ (by omega) (fun j j0 j1 => ?_)⟩, fun q => ?_⟩
      · by_cases hj : j = i
        · rw [hj]; exact q
        · exact h j j0 (by omega)
      · rw [plc_at hg l0 l1 (i := i) (by omega) (by omega) q] at hQ
        exact hQ
  exact key 0 (Nat.zero_le _) 0 rfl (fun j j0 j1 => absurd j1 (by omega))
theorem r_placeOn {N : Net} {M : Mem} {Q : Int → Mem → Prop} {l s : Int} (hg : Good N) (hN : RH N M) (l0 : 0 ≤ l) (l1 : l < N.ln) (hQ : Q (plc N l s) M) : Calls mX9_placeOn [(2, 275), (0, l), (0, s)] S0 M Q := by
  have hk := hg.lineK l0 l1
  have hsz := (hN.line l0 l1).2.1
  refine E_R_placeOn (B_R_placeOn_0 ?_)
  have key : ∀ k : Nat, k ≤ (N.sz l).toNat → ∀ v i, v = plN N l s k → i = (k : Int) → AW mX9_placeOn 5 [(2, 275), (0, l), (0, s), (0, v), (0, i)] M Q := by
    refine up_ind _ ?_ ?_
    · intro v i hv hi
      refine B_R_placeOn_5 ⟨by omega, fun _ => hv ▸ hQ, fun q => absurd (by omega) q⟩
    · intro k hk2 ih v i hv hi
      refine B_R_placeOn_5 ⟨by omega, fun q => absurd q (by omega), fun _ => ⟨by omega, by omega, by omega, ?_⟩⟩
      rw [hN.stop l0 l1 (i := i) (by omega) (by omega) rfl]
      refine ⟨fun q => ⟨by omega, ih _ _ ?_ (by omega)⟩, fun q => ⟨by omega, ih _ _ ?_ (by omega)⟩⟩
      · unfold plN
        rw [if_neg (by rw [← hi]; exact q)]
        exact hv
      · unfold plN
        rw [if_pos (by rw [← hi]; exact q)]
        exact hi
  exact key 0 (Nat.zero_le _) _ 0 rfl rfl
-- how many run
abbrev cnR (N : Net) (l : Int) : Int := sumI (fun t => N.rn l t) (N.tr l).toNat
theorem cnR_bd {N : Net} {l : Int} (hg : Good N) (l0 : 0 ≤ l) (l1 : l < N.ln) (k : Nat) (hk : (k : Int) ≤ N.tr l) : 0 ≤ sumI (fun t => N.rn l t) k ∧ sumI (fun t => N.rn l t) k ≤ 6 := by
  have h := sumI_bd (f := fun t => N.rn l t) (b := 1) k (fun t ht => by have := rn01 hg l0 l1 (t := (t : Int)) (by omega) (by omega); show 0 ≤ N.rn l t ∧ N.rn l t ≤ 1; omega)
  have := hg.lineK l0 l1
  omega
theorem c_countRunning {N : Net} {M : Mem} {Q : Int → Mem → Prop} {l : Int} (hg : Good N) (hN : CH N 0 M) (l0 : 0 ≤ l) (l1 : l < N.ln) (hQ : Q (cnR N l) M) : Calls mX3_countRunning [(2, 1), (0, l)] S0 M Q := by
  have hk := hg.lineK l0 l1
  have htr := (hN.line l0 l1).2.2
  refine E_Net_countRunning (B_Net_countRunning_0 ?_)
  have key : ∀ k : Nat, k ≤ (N.tr l).toNat → ∀ v i, v = sumI (fun t => N.rn l t) k → i = (k : Int) → AW mX3_countRunning 4 [(2, 1), (0, l), (0, v), (0, i)] M Q := by
    refine up_ind _ ?_ ?_
    · intro v i hv hi
      exact B_Net_countRunning_4 ⟨by omega, fun _ => hv ▸ hQ, fun q => absurd (by omega) q⟩
    · intro k hk2 ih v i hv hi
      have hb := cnR_bd hg l0 l1 k (by omega)
      have hr := rn01 hg l0 l1 (t := i) (by omega) (by omega)
      refine B_Net_countRunning_4 ⟨by omega, fun q => absurd q (by omega), fun _ => ⟨by omega, by omega, by omega, ?_⟩⟩
      rw [hN.run l0 l1 (t := i) (by omega) (by omega) rfl]
      have es : sumI (fun t => N.rn l t) (k + 1) = sumI (fun t => N.rn l t) k + N.rn l i := by rw [hi]; rfl
      refine ⟨fun q => ⟨by omega, ih _ _ (by omega) (by omega)⟩, fun q => ⟨by omega, by omega, ih _ _ (by omega) (by omega)⟩⟩
  exact key 0 (Nat.zero_le _) _ 0 rfl rfl
theorem r_runsOf {N : Net} {M : Mem} {Q : Int → Mem → Prop} {l : Int} (hg : Good N) (hN : RH N M) (l0 : 0 ≤ l) (l1 : l < N.ln) (hQ : Q (cnR N l) M) : Calls mX9_runsOf [(2, 275), (0, l)] S0 M Q := by
  have hk := hg.lineK l0 l1
  have htr := (hN.line l0 l1).2.2
  refine E_R_runsOf (B_R_runsOf_0 ?_)
  have key : ∀ k : Nat, k ≤ (N.tr l).toNat → ∀ v i, v = sumI (fun t => N.rn l t) k → i = (k : Int) → AW mX9_runsOf 4 [(2, 275), (0, l), (0, v), (0, i)] M Q := by
    refine up_ind _ ?_ ?_
    · intro v i hv hi
      exact B_R_runsOf_4 ⟨by omega, fun _ => hv ▸ hQ, fun q => absurd (by omega) q⟩
    · intro k hk2 ih v i hv hi
      have hb := cnR_bd hg l0 l1 k (by omega)
      have hr := rn01 hg l0 l1 (t := i) (by omega) (by omega)
      have es : sumI (fun t => N.rn l t) (k + 1) = sumI (fun t => N.rn l t) k + N.rn l i := by rw [hi]; rfl
      refine B_R_runsOf_4 ⟨by omega, fun q => absurd q (by omega), fun _ => ?_⟩
      refine r_isRunning hg hN l0 l1 (by omega) (by omega) ⟨fun q => ⟨by omega, by omega, ih _ _ (by omega) (by omega)⟩, fun q => ⟨by omega, by omega, ih _ _ (by omega) (by omega)⟩⟩
  exact key 0 (Nat.zero_le _) _ 0 rfl rfl
def fLine (N : Net) (l w : Int) : Int := if 0 ≤ l ∧ l < N.ln ∧ 0 ≤ w ∧ w ≤ 3 then (if w = 0 then N.kd l else if w = 1 then N.sz l else if w = 2 then N.tr l else cnR N l) else -1
set_option maxHeartbeats 4000000 in
theorem c_line {N : Net} {M : Mem} {Q : Int → Mem → Prop} {l w : Int} (hI : IN N M) (hQ : Q (fLine N l w) M) : Calls mX8_line [(2, 0), (0, l), (0, w)] S0 M Q := by
  have hv : ∀ v, v = fLine N l w → Q v M := fun v h => h ▸ hQ
  have h0 := hI.g.1
  refine E_C_line (B_C_line_0 ?_)
  rw [hI.c.lines]
  by_cases hl : 0 ≤ l ∧ l < N.ln
  · obtain ⟨c1, c2, c3⟩ := hI.c.line hl.1 hl.2
    have hk := hI.g.lineK hl.1 hl.2
    rw [c1, c2, c3]
    repeat' (first | refine And.intro ?_ ?_ | refine imp_i (fun _ => ?_))
    all_goals (first | omega | exact hv _ (by unfold fLine; (repeat' split) <;> omega) | exact c_countRunning hI.g hI.c hl.1 hl.2 (hv _ (by unfold fLine; (repeat' split) <;> omega)))
  · repeat' (first | refine And.intro ?_ ?_ | refine imp_i (fun _ => ?_))
    all_goals (first | omega | exact hv _ (by unfold fLine; (repeat' split) <;> omega))
set_option maxHeartbeats 4000000 in
theorem r_line {N : Net} {M : Mem} {Q : Int → Mem → Prop} {l w : Int} (hI : IN N M) (hQ : Q (fLine N l w) (up2 M 275 8 0)) : Calls mX9_line [(2, 275), (0, l), (0, w)] S0 M Q := by
  have hv : ∀ v, v = fLine N l w → Q v (up2 M 275 8 0) := fun v h => h ▸ hQ
  have h0 := hI.g.1
  have hI2 : IN N (up2 M 275 8 0) := hI.sc (Sc.rf.up scr8)
  refine E_R_line (B_R_line_0 ?_)
  rw [hI.r.1]
  by_cases hl : 0 ≤ l ∧ l < N.ln
  · obtain ⟨c1, c2, c3⟩ := hI.r.line hl.1 hl.2
    have hk := hI.g.lineK hl.1 hl.2
    rw [c1, c2, c3]
    repeat' (first | refine And.intro ?_ ?_ | refine imp_i (fun _ => ?_))
    all_goals (first | omega | exact hv _ (by unfold fLine; (repeat' split) <;> omega) | exact r_runsOf hI.g hI2.r hl.1 hl.2 (hv _ (by unfold fLine; (repeat' split) <;> omega)))
  · repeat' (first | refine And.intro ?_ ?_ | refine imp_i (fun _ => ?_))
    all_goals (first | omega | exact hv _ (by unfold fLine; (repeat' split) <;> omega))
