/-! BITS: meet, worth, reached -/
/-- the bits of those that f names, the first so many -/
def btI (f : Int → Bool) : Nat → Nat
  | 0 => 0
  | k + 1 => if f k = true then btI f k ||| 2 ^ k else btI f k
theorem btI_s (f : Int → Bool) (k : Nat) : btI f (k + 1) = if f k = true then btI f k ||| 2 ^ k else btI f k := rfl
theorem btI_test (f : Int → Bool) (s : Nat) : ∀ n : Nat, (btI f n).testBit s = (decide (s < n) && f s)
  | 0 => by
    show (0 : Nat).testBit s = _
    rw [Nat.zero_testBit, decide_eq_false (by omega), Bool.false_and]
  | n + 1 => by
    rw [btI_s]
    by_cases hs : s = n
    · subst hs
      rw [decide_eq_true (by omega), Bool.true_and]
      cases h : f s with
      | true =>
        rw [if_pos rfl, Nat.testBit_or, Nat.testBit_two_pow_self, Bool.or_true]
      | false =>
        rw [if_neg (by decide), btI_test f s s, decide_eq_false (by omega), Bool.false_and]
    · have e : decide (s < n + 1) = decide (s < n) := by
        by_cases h : s < n
        · rw [decide_eq_true h, decide_eq_true (by omega)]
        · rw [decide_eq_false h, decide_eq_false (by omega)]
      rw [e]
      split
      · rw [Nat.testBit_or, btI_test f s n, Nat.testBit_two_pow_of_ne (by omega), Bool.or_false]
      · exact btI_test f s n
/-- one bit more, as the machine has it -/
theorem or_pow (a : Nat) {k : Nat} {i : Int} (hi : i = (k : Int)) : ((((((a : Nat) : Int).toNat) ||| ((2 : Int) ^ i.toNat).toNat : Nat)) : Int) = ((a ||| 2 ^ k : Nat) : Int) := by
  subst hi
  rw [Int.toNat_natCast, Int.toNat_natCast, show ((2 : Int) ^ k).toNat = 2 ^ k by
    rw [show ((2 : Int) ^ k) = (((2 ^ k : Nat)) : Int) by rw [Int.natCast_pow]; rfl]
    exact Int.toNat_natCast _]
theorem or_zero (a : Nat) : ((((((a : Nat) : Int).toNat) ||| (0 : Int).toNat : Nat)) : Int) = (a : Int) := by
  rw [Int.toNat_natCast]
  show ((a ||| 0 : Nat) : Int) = _
  rw [Nat.or_zero]
theorem pow_ge (k : Nat) : (0 : Int) ≤ 2 ^ k := by
  rw [show ((2 : Int) ^ k) = (((2 ^ k : Nat)) : Int) by rw [Int.natCast_pow]; rfl]
  exact Int.natCast_nonneg _
def meB (N : Net) (l o s : Int) : Bool := decide (0 ≤ plc N l s ∧ 0 ≤ plc N o s)
def fMeet (N : Net) (l o : Int) : Int := if 0 ≤ l ∧ l < N.ln ∧ 0 ≤ o ∧ o < N.ln then ((btI (meB N l o) 12 : Nat) : Int) else -1
set_option maxHeartbeats 4000000 in
theorem c_meet {N : Net} {M : Mem} {Q : Int → Mem → Prop} {l o : Int} (hI : IN N M) (hQ : Q (fMeet N l o) M) : Calls mX8_meet [(2, 0), (0, l), (0, o)] S0 M Q := by
  have hg := hI.g
  have hN := hI.c
  have h0 := hg.1
  have hln := hN.lines
  unfold fMeet at hQ
  refine E_C_meet (B_C_meet_0 ⟨fun q => ?_, fun q => ⟨fun q2 => ?_, fun q2 => ⟨fun q3 => ?_, fun q3 => ⟨fun q4 => ?_, fun q4 => ?_⟩⟩⟩⟩)
  all_goals try (rw [if_neg (by omega)] at hQ; exact hQ)
  rw [if_pos (by omega)] at hQ
  have l0 : 0 ≤ l := by omega
  have l1 : l < N.ln := by omega
  have hk := hg.lineK l0 l1
  have hsz := (hN.line l0 l1).2.1
  have key : ∀ k : Nat, k ≤ (N.sz l).toNat → ∀ (a : Nat) i, (∀ s : Nat, a.testBit s = true ↔ ∃ j : Int, 0 ≤ j ∧ j < (k : Int) ∧ N.sp l j = s ∧ 0 ≤ plc N o s) → i = (k : Int) → AW mX8_meet 29 [(2, 0), (0, l), (0, o), (0, (a : Int)), (0, i), (9, 0)] M Q := by
    refine up_ind _ ?_ ?_
    · intro a i ha hi
      refine B_C_meet_29 ⟨by omega, fun _ => ?_, fun q => absurd (by omega) q⟩
      have : a = btI (meB N l o) 12 := by
        refine Nat.eq_of_testBit_eq (fun s => ?_)
        rw [btI_test]
        refine Bool.eq_iff_iff.mpr ?_
        rw [ha, Bool.and_eq_true, decide_eq_true_eq]
        unfold meB
        rw [decide_eq_true_eq]
        constructor
        · rintro ⟨j, j0, j1, j2, j3⟩
          have hb := hg.stop l0 l1 j0 (show j < N.sz l by omega)
          have := plc_at hg l0 l1 j0 (show j < N.sz l by omega) j2
          exact ⟨by omega, by omega, j3⟩
        · rintro ⟨s1, p1, p2⟩
          rcases plc_cases hg l0 l1 (s : Int) with ⟨q, -⟩ | ⟨q1, q2, q3⟩
          · omega
          · exact ⟨_, q1, by omega, q3, p2⟩
      rw [this]
      exact hQ
    · intro k hk2 ih a i ha hi
      have hst := hg.stop l0 l1 (i := i) (by omega) (by omega)
      refine B_C_meet_29 ⟨by omega, fun q => absurd q (by omega), fun _ => ⟨by omega, ?_⟩⟩
      rw [hN.stop l0 l1 (i := i) (by omega) (by omega) rfl]
      refine c_placeOf hg hN (by omega) (by omega) ⟨fun z => ⟨by omega, ih a _ (fun s => ?_) (by omega)⟩, fun z => ⟨by omega, by omega, pow_ge _, by omega, ?_⟩⟩
      · rw [ha]
        constructor
        · rintro ⟨j, j0, j1, j2⟩
          exact ⟨j, j0, by omega, j2⟩
        · rintro ⟨j, j0, j1, j2, j3⟩
          by_cases hj : j = i
          · rw [hj] at j2
            rw [← j2] at j3
            omega
          · exact ⟨j, j0, by omega, j2, j3⟩
      · rw [or_pow a (k := (N.sp l i).toNat) (by omega)]
        refine ih _ _ (fun s => ?_) (by omega)
        rw [Nat.testBit_or, Bool.or_eq_true, ha]
        constructor
        · rintro (⟨j, j0, j1, j2⟩ | h)
          · exact ⟨j, j0, by omega, j2⟩
          · by_cases hs : s = (N.sp l i).toNat
            · exact ⟨i, by omega, by omega, by omega, by rw [show (s : Int) = N.sp l i by omega]; omega⟩
            · rw [Nat.testBit_two_pow_of_ne (by omega)] at h
              exact absurd h (by decide)
        · rintro ⟨j, j0, j1, j2, j3⟩
          by_cases hj : j = i
          · right
            rw [hj] at j2
            rw [show s = (N.sp l i).toNat by omega]
            exact Nat.testBit_two_pow_self
          · exact Or.inl ⟨j, j0, by omega, j2, j3⟩
  refine key 0 (Nat.zero_le _) 0 0 (fun s => ?_) rfl
  rw [Nat.zero_testBit]
  exact ⟨fun z => absurd z (by decide), fun ⟨j, j0, j1, _⟩ => absurd j1 (by omega)⟩
set_option maxHeartbeats 4000000 in
theorem r_meet {N : Net} {M : Mem} {Q : Int → Mem → Prop} {l o : Int} (hI : IN N M) (hQ : Q (fMeet N l o) (up2 M 275 8 0)) : Calls mX9_meet [(2, 275), (0, l), (0, o)] S0 M Q := by
  have hg := hI.g
  have hN : RH N (up2 M 275 8 0) := (hI.sc (Sc.rf.up scr8)).r
  have h0 := hg.1
  have hln := hI.r.1
  unfold fMeet at hQ
  refine E_R_meet (B_R_meet_0 ⟨by omega, fun q => ?_, fun q => ⟨fun q2 => ?_, fun q2 => ⟨fun q3 => ?_, fun q3 => ⟨fun q4 => ?_, fun q4 => ?_⟩⟩⟩⟩)
  all_goals try (rw [if_neg (by omega)] at hQ; exact hQ)
  rw [if_pos (by omega)] at hQ
  generalize up2 M 275 8 0 = M1 at hQ hN ⊢
  have key : ∀ k : Nat, k ≤ 12 → ∀ v i, v = ((btI (meB N l o) k : Nat) : Int) → i = (k : Int) → AW mX9_meet 28 [(2, 275), (0, l), (0, o), (0, v), (0, i)] M1 Q := by
    refine up_ind _ ?_ ?_
    · intro v i hv hi
      exact B_R_meet_28 ⟨fun _ => hv ▸ hQ, fun q => absurd (by omega) q⟩
    · intro k hk2 ih v i hv hi
      subst hv
      have no : meB N l o i = false → AW mX9_meet 28 [(2, 275), (0, l), (0, o), (0, (((((btI (meB N l o) k : Nat) : Int).toNat ||| (0 : Int).toNat : Nat)) : Int)), (0, i + 1)] M1 Q := fun h => by
        rw [or_zero]
        refine ih _ _ ?_ (by omega)
        rw [btI_s, ← hi, h]
        rfl
      refine B_R_meet_28 ⟨fun q => absurd q (by omega), fun _ => r_placeOn hg hN (by omega) (by omega) ⟨fun z => ⟨by omega, by omega, no ?_⟩, fun z => r_placeOn hg hN (by omega) (by omega) ⟨fun z2 => ⟨by omega, by omega, no ?_⟩, fun z2 => ⟨by omega, by omega, pow_ge _, by omega, ?_⟩⟩⟩⟩
      · unfold meB
        exact decide_eq_false (by omega)
      · unfold meB
        exact decide_eq_false (by omega)
      · rw [or_pow _ (k := k) hi]
        refine ih _ _ ?_ (by omega)
        rw [btI_s, ← hi, show meB N l o i = true from decide_eq_true ⟨by omega, by omega⟩]
        rfl
  exact key 0 (Nat.zero_le _) _ 0 rfl rfl
-- worth
def woB (N : Net) (fr at_ to : Int) (r : Int) : Bool := decide (BS N fr at_ r to < (if r = 0 then 10000 else BS N fr at_ (r - 1) to))
def fWorth (N : Net) (fr at_ to : Int) : Int := if rfz fr at_ to 0 = 0 then ((btI (woB N fr at_ to) 7 : Nat) : Int) else rfz fr at_ to 0
set_option maxHeartbeats 4000000 in
theorem c_worth {N : Net} {M : Mem} {Q : Int → Mem → Prop} {fr at_ to : Int} (hI : IN N M) (hQ : ∀ M1, Sc M M1 → Q (fWorth N fr at_ to) M1) : Calls mX8_worth [(2, 0), (0, fr), (0, at_), (0, to)] S0 M Q := by
  have hc := rfz_cases fr at_ to 0
  unfold fWorth at hQ
  refine E_C_worth (B_C_worth_0 (c_refusal ⟨fun q => ?_, fun q => ?_⟩))
  · rw [if_pos q] at hQ
    refine c_run0 hI (by omega) (by omega) (fun M1 hs hb => ?_)
    have key : ∀ k : Nat, k ≤ 7 → ∀ v a i, v = ((btI (woB N fr at_ to) k : Nat) : Int) → (a = if i = 0 then 10000 else BS N fr at_ (i - 1) to) → i = (k : Int) → AW mX8_worth 39 [(2, 0), (9, 0), (9, 0), (0, to), (9, 0), (0, v), (0, a), (0, i), (9, 0)] M1 Q := by
      refine up_ind _ ?_ ?_
      · intro v a i hv ha hi
        exact B_C_worth_39 ⟨fun _ => hv ▸ hQ M1 hs, fun q => absurd (by omega) q⟩
      · intro k hk2 ih v a i hv ha hi
        subst hv
        refine B_C_worth_39 ⟨fun q => absurd q (by omega), fun _ => ⟨by omega, by omega, ?_⟩⟩
        rw [hb i to (by omega) (by omega) (by omega) (by omega)]
        have ea : BS N fr at_ i to = if i + 1 = 0 then 10000 else BS N fr at_ (i + 1 - 1) to := by rw [if_neg (by omega), show i + 1 - 1 = i by omega]
        refine ⟨fun z => ⟨by omega, ih _ _ _ ?_ ea (by omega)⟩, fun z => ⟨by omega, by omega, pow_ge _, by omega, ?_⟩⟩
        · rw [btI_s, ← hi, show woB N fr at_ to i = false from decide_eq_false (by rw [← ha]; omega)]
          rfl
        · rw [or_pow _ (k := k) hi]
          refine ih _ _ _ ?_ ea (by omega)
          rw [btI_s, ← hi, show woB N fr at_ to i = true from decide_eq_true (by rw [← ha]; omega)]
          rfl
    exact key 0 (Nat.zero_le _) _ _ 0 rfl rfl rfl
  · rw [if_neg q] at hQ
    exact hQ M Sc.rf
set_option maxHeartbeats 4000000 in
theorem r_worth {N : Net} {M : Mem} {Q : Int → Mem → Prop} {fr at_ to : Int} (hI : IN N M) (hQ : ∀ M1, Sc M M1 → Q (fWorth N fr at_ to) M1) : Calls mX9_worth [(2, 275), (0, fr), (0, at_), (0, to)] S0 M Q := by
  have hc := rfz_cases fr at_ to 0
  unfold fWorth at hQ
  have hS : Sc M (up2 M 275 8 0) := Sc.rf.up scr8
  refine E_R_worth (B_R_worth_0 (r_wrong ⟨fun q => ?_, fun q => r_wrong ?_⟩))
  · rw [if_pos (by omega)] at hQ
    refine r_rounds0 (hI.sc hS) (by omega) (by omega) (by omega) (fun M1 hs _ hb _ => ?_)
    have hB : ∀ r, 0 ≤ r → r ≤ 6 → 0 ≤ BS N fr at_ r to ∧ BS N fr at_ r to ≤ 10000 := fun r _ _ => (BS_bd hI.g (by omega) (by omega) (by omega)).1
    have hb' : ∀ k, 0 ≤ k → k ≤ 6 → M1 284 (12 * k + to) = upv (BS N fr at_ k to) := fun k k0 k1 => hb k to k0 k1 (by omega) (by omega)
    have key : ∀ k : Nat, k ≤ 7 → 1 ≤ k → ∀ v i, v = ((btI (woB N fr at_ to) k : Nat) : Int) → i = (k : Int) → AW mX9_worth 50 [(2, 275), (9, 0), (9, 0), (0, to), (0, v), (0, i)] M1 Q := by
      refine up_ind _ ?_ ?_
      · intro _ v i hv hi
        exact B_R_worth_50 ⟨fun _ => hv ▸ hQ M1 (hS.tr hs), fun q => absurd (by omega) q⟩
      · intro k hk2 ih k1 v i hv hi
        subst hv
        have b1 := hB i (by omega) (by omega)
        have b2 := hB (i - 1) (by omega) (by omega)
        refine B_R_worth_50 ⟨fun q => absurd q (by omega), fun _ => ⟨by omega, by omega, by omega, by omega, by omega, by omega, by omega, ?_⟩⟩
        rw [hb' i (by omega) (by omega), hb' (i - 1) (by omega) (by omega)]
        have ew : woB N fr at_ to i = decide (BS N fr at_ i to < BS N fr at_ (i - 1) to) := by unfold woB; rw [if_neg (by omega)]
        refine ⟨fun z => ⟨by omega, by omega, ?_⟩, fun z => ⟨by omega, by omega, pow_ge _, by omega, ?_⟩⟩
        · rw [or_zero]
          refine ih (by omega) _ _ ?_ (by omega)
          have : woB N fr at_ to i = false := by
            rw [ew]
            refine decide_eq_false ?_
            unfold upv at z
            (repeat' split at z) <;> omega
          rw [btI_s, ← hi, this]
          rfl
        · rw [or_pow _ (k := k) hi]
          refine ih (by omega) _ _ ?_ (by omega)
          have : woB N fr at_ to i = true := by
            rw [ew]
            refine decide_eq_true ?_
            unfold upv at z
            (repeat' split at z) <;> omega
          rw [btI_s, ← hi, this]
          rfl
    have e0 := hb' 0 (by omega) (by omega)
    rw [show 12 * (0 : Int) + to = to by omega] at e0
    have b0 := hB 0 (by omega) (by omega)
    have w0 : woB N fr at_ to 0 = decide (BS N fr at_ 0 to < 10000) := by unfold woB; rw [if_pos rfl]
    rw [e0]
    refine ⟨by omega, fun z => key 1 (by omega) (by omega) _ 1 ?_ rfl, fun z => key 1 (by omega) (by omega) _ 1 ?_ rfl⟩
    · have : woB N fr at_ to 0 = false := by
        rw [w0]
        refine decide_eq_false ?_
        unfold upv at z
        (repeat' split at z) <;> omega
      show (0 : Int) = ((if woB N fr at_ to 0 = true then 0 ||| 2 ^ 0 else 0 : Nat) : Int)
      rw [this]
      rfl
    · have : woB N fr at_ to 0 = true := by
        rw [w0]
        refine decide_eq_true ?_
        unfold upv at z
        (repeat' split at z) <;> omega
      show (1 : Int) = ((if woB N fr at_ to 0 = true then 0 ||| 2 ^ 0 else 0 : Nat) : Int)
      rw [this]
      rfl
  · rw [if_neg (by omega)] at hQ
    exact hQ _ hS
-- reached
def reB (N : Net) (fr at_ by_ r : Int) (s : Int) : Bool := decide (BS N fr at_ r s ≤ by_)
def fReached (N : Net) (fr at_ by_ r : Int) : Int := if fr < 0 ∨ 11 < fr then -1 else if at_ < 0 ∨ 1999 < at_ ∨ by_ < 0 ∨ 1999 < by_ ∨ r < 0 ∨ 6 < r then -2 else ((btI (reB N fr at_ by_ r) 12 : Nat) : Int)
set_option maxHeartbeats 4000000 in
theorem c_reached {N : Net} {M : Mem} {Q : Int → Mem → Prop} {fr at_ by_ r : Int} (hI : IN N M) (hQ : ∀ M1, Sc M M1 → Q (fReached N fr at_ by_ r) M1) : Calls mX8_reached [(2, 0), (0, fr), (0, at_), (0, by_), (0, r)] S0 M Q := by
  unfold fReached at hQ
  have hQ0 := hQ M Sc.rf
  refine E_C_reached (B_C_reached_0 ?_)
  repeat' (first | refine And.intro ?_ ?_ | refine imp_i (fun _ => ?_))
  all_goals try (rw [if_pos (by omega)] at hQ0; exact hQ0)
  all_goals try (rw [if_neg (by omega), if_pos (by omega)] at hQ0; exact hQ0)
  rw [if_neg (by omega), if_neg (by omega)] at hQ
  refine c_run0 hI (by omega) (by omega) (fun M1 hs hb => ?_)
  have key : ∀ k : Nat, k ≤ 12 → ∀ v i, v = ((btI (reB N fr at_ by_ r) k : Nat) : Int) → i = (k : Int) → AW mX8_reached 51 [(2, 0), (9, 0), (9, 0), (0, by_), (0, r), (0, v), (0, i)] M1 Q := by
    refine up_ind _ ?_ ?_
    · intro v i hv hi
      exact B_C_reached_51 ⟨fun _ => hv ▸ hQ M1 hs, fun q => absurd (by omega) q⟩
    · intro k hk2 ih v i hv hi
      subst hv
      refine B_C_reached_51 ⟨fun q => absurd q (by omega), fun _ => ⟨by omega, by omega, ?_⟩⟩
      rw [hb r i (by omega) (by omega) (by omega) (by omega)]
      refine ⟨fun z => ⟨by omega, ih _ _ ?_ (by omega)⟩, fun z => ⟨by omega, by omega, pow_ge _, by omega, ?_⟩⟩
      · rw [btI_s, ← hi, show reB N fr at_ by_ r i = false from decide_eq_false (by omega)]
        rfl
      · rw [or_pow _ (k := k) hi]
        refine ih _ _ ?_ (by omega)
        rw [btI_s, ← hi, show reB N fr at_ by_ r i = true from decide_eq_true (by omega)]
        rfl
  exact key 0 (Nat.zero_le _) _ 0 rfl rfl
set_option maxHeartbeats 4000000 in
theorem r_reached {N : Net} {M : Mem} {Q : Int → Mem → Prop} {fr at_ by_ r : Int} (hI : IN N M) (hQ : ∀ M1, Sc M M1 → Q (fReached N fr at_ by_ r) M1) : Calls mX9_reached [(2, 275), (0, fr), (0, at_), (0, by_), (0, r)] S0 M Q := by
  unfold fReached at hQ
  have hS : Sc M (up2 M 275 8 0) := Sc.rf.up scr8
  have hQ0 := hQ _ hS
  refine E_R_reached (B_R_reached_0 ?_)
  repeat' (first | refine And.intro ?_ ?_ | refine imp_i (fun _ => ?_))
  all_goals try (rw [if_pos (by omega)] at hQ0; exact hQ0)
  all_goals try (rw [if_neg (by omega), if_pos (by omega)] at hQ0; exact hQ0)
  rw [if_neg (by omega), if_neg (by omega)] at hQ
  refine r_rounds0 (hI.sc hS) (by omega) (by omega) (by omega) (fun M1 hs _ hb _ => ?_)
  have key : ∀ k : Nat, k ≤ 12 → ∀ v i, v = ((btI (reB N fr at_ by_ r) k : Nat) : Int) → i = (k : Int) → AW mX9_reached 56 [(2, 275), (9, 0), (9, 0), (0, by_), (0, r), (0, v), (0, i)] M1 Q := by
    refine up_ind _ ?_ ?_
    · intro v i hv hi
      exact B_R_reached_56 ⟨fun _ => hv ▸ hQ M1 (hS.tr hs), fun q => absurd (by omega) q⟩
    · intro k hk2 ih v i hv hi
      subst hv
      have hB : 0 ≤ BS N fr at_ r i ∧ BS N fr at_ r i ≤ 10000 := (BS_bd hI.g (by omega) (by omega) (by omega)).1
      refine B_R_reached_56 ⟨fun q => absurd q (by omega), fun _ => ⟨by omega, by omega, by omega, ?_⟩⟩
      rw [hb r i (by omega) (by omega) (by omega) (by omega)]
      refine ⟨fun z => ⟨by omega, by omega, ?_⟩, fun z => ⟨by omega, by omega, pow_ge _, by omega, ?_⟩⟩
      · rw [or_zero]
        refine ih _ _ ?_ (by omega)
        have : reB N fr at_ by_ r i = false := by
          refine decide_eq_false ?_
          unfold upv at z
          split at z <;> omega
        rw [btI_s, ← hi, this]
        rfl
      · rw [or_pow _ (k := k) hi]
        refine ih _ _ ?_ (by omega)
        have : reB N fr at_ by_ r i = true := by
          refine decide_eq_true ?_
          unfold upv at z
          split at z <;> omega
        rw [btI_s, ← hi, this]
        rfl
  exact key 0 (Nat.zero_le _) _ 0 rfl rfl
