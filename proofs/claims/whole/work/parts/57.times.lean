/-! earliest, latest, profile -/
theorem BS_later {N : Net} {fr a b r s : Int} (hg : Good N) (h : a ≤ b) (hb : b ≤ 2000) (s0 : 0 ≤ s) (s1 : s < 12) : BS N fr a r s ≤ BS N fr b r s := bst_later hg h hb s0 s1 _
theorem BS_at {N : Net} {fr a r s : Int} (hg : Good N) (ha : a ≤ 2000) (s0 : 0 ≤ s) (s1 : s < 12) : a ≤ BS N fr a r s := bst_at hg ha s0 s1 _
def fEarliest (N : Net) (fr at_ to r : Int) : Int := if rfz fr at_ to r = 0 then (if BS N fr at_ r to = 10000 then -5 else BS N fr at_ r to) else rfz fr at_ to r
theorem c_earliest {N : Net} {M : Mem} {Q : Int → Mem → Prop} {fr at_ to r : Int} (hI : IN N M) (hQ : ∀ M1, Sc M M1 → Q (fEarliest N fr at_ to r) M1) : Calls mX8_earliest [(2, 0), (0, fr), (0, at_), (0, to), (0, r)] S0 M Q := by
  have hc := rfz_cases fr at_ to r
  unfold fEarliest at hQ
  refine E_C_earliest (B_C_earliest_0 (c_refusal ⟨fun q => ?_, fun q => ?_⟩))
  · rw [if_pos q] at hQ
    refine c_run0 hI (by omega) (by omega) (fun M1 hs hb => ⟨by omega, by omega, ?_⟩)
    rw [hb r to (by omega) (by omega) (by omega) (by omega)]
    refine ⟨fun z => ?_, fun z => ?_⟩
    · rw [if_neg z] at hQ
      exact hQ M1 hs
    · rw [if_pos z] at hQ
      exact hQ M1 hs
  · rw [if_neg q] at hQ
    exact hQ M Sc.rf
theorem r_earliest {N : Net} {M : Mem} {Q : Int → Mem → Prop} {fr at_ to r : Int} (hI : IN N M) (hQ : ∀ M1, Sc M M1 → Q (fEarliest N fr at_ to r) M1) : Calls mX9_earliest [(2, 275), (0, fr), (0, at_), (0, to), (0, r)] S0 M Q := by
  have hc := rfz_cases fr at_ to r
  unfold fEarliest at hQ
  have hS : Sc M (up2 M 275 8 0) := Sc.rf.up scr8
  refine E_R_earliest (B_R_earliest_0 (r_wrong ⟨fun q => ?_, fun q => r_wrong ?_⟩))
  · rw [if_pos (by omega)] at hQ
    refine r_rounds0 (hI.sc hS) (by omega) (by omega) (by omega) (fun M1 hs _ hb _ => ⟨by omega, by omega, by omega, ?_⟩)
    have hB : 0 ≤ BS N fr at_ r to ∧ BS N fr at_ r to ≤ 10000 := (BS_bd hI.g (by omega) (by omega) (by omega)).1
    rw [hb r to (by omega) (by omega) (by omega) (by omega)]
    refine ⟨fun z => ?_, fun z => ?_⟩
    · unfold upv at z ⊢
      by_cases hv : BS N fr at_ r to = 10000
      · rw [if_pos hv] at z
        omega
      · rw [if_neg hv] at hQ ⊢
        exact hQ M1 (hS.tr hs)
    · unfold upv at z
      by_cases hv : BS N fr at_ r to = 10000
      · rw [if_pos hv] at hQ
        exact hQ M1 (hS.tr hs)
      · rw [if_neg hv] at z
        omega
  · rw [if_neg (by omega)] at hQ
    exact hQ _ hS
-- the last minute that is early enough
def ltN (N : Net) (fr to by_ r : Int) : Nat → Int
  | 0 => -5
  | k + 1 => if BS N fr k r to ≤ by_ then (k : Int) else ltN N fr to by_ r k
theorem ltN_no {N : Net} {fr to by_ r : Int} : ∀ n : Nat, (∀ m : Nat, m < n → by_ < BS N fr m r to) → ltN N fr to by_ r n = -5
  | 0, _ => rfl
  | n + 1, h => by
    have := h n (by omega)
    unfold ltN
    rw [if_neg (by omega)]
    exact ltN_no n (fun m hm => h m (by omega))
theorem ltN_at {N : Net} {fr to by_ r : Int} {k : Nat} (hk : BS N fr k r to ≤ by_) : ∀ n : Nat, k < n → (∀ m : Nat, k < m → m < n → by_ < BS N fr m r to) → ltN N fr to by_ r n = k
  | 0, q, _ => absurd q (by omega)
  | n + 1, q, h => by
    unfold ltN
    by_cases e : k = n
    · subst e
      rw [if_pos hk]
    · have := h n (by omega) (by omega)
      rw [if_neg (by omega)]
      exact ltN_at hk n (by omega) (fun m m0 m1 => h m m0 (by omega))
theorem ltN_found {N : Net} {fr to by_ r lo hi : Int} (h1 : lo = -1 ∨ (0 ≤ lo ∧ lo ≤ 1999 ∧ BS N fr lo r to ≤ by_)) (h2 : ∀ m, hi < m → 0 ≤ m → m ≤ 1999 → by_ < BS N fr m r to) (h3 : hi ≤ lo) : ltN N fr to by_ r 2000 = if 0 ≤ lo then lo else -5 := by
  rcases h1 with q | ⟨q1, q2, q3⟩
  · rw [if_neg (by omega)]
    exact ltN_no 2000 (fun m hm => h2 m (by omega) (by omega) (by omega))
  · rw [if_pos q1, ltN_at (k := lo.toNat) (by rw [show ((lo.toNat : Nat) : Int) = lo by omega]; exact q3) 2000 (by omega) (fun m m0 m1 => h2 m (by omega) (by omega) (by omega))]
    omega
def fLatest (N : Net) (fr to by_ r : Int) : Int := if rfz fr by_ to r = 0 then ltN N fr to by_ r 2000 else rfz fr by_ to r
set_option maxHeartbeats 4000000 in
theorem c_latest {N : Net} {M : Mem} {Q : Int → Mem → Prop} {fr to by_ r : Int} (hI : IN N M) (hQ : ∀ M1, Sc M M1 → Q (fLatest N fr to by_ r) M1) : Calls mX8_latest [(2, 0), (0, fr), (0, to), (0, by_), (0, r)] S0 M Q := by
  have hc := rfz_cases fr by_ to r
  unfold fLatest at hQ
  refine E_C_latest (B_C_latest_0 (c_refusal ⟨fun q => ?_, fun q => ?_⟩))
  · rw [if_pos q] at hQ
    have key : ∀ k : Nat, k ≤ 11 → ∀ (lo st : Int) (M1 : Mem), st = ((2 ^ k / 2 : Nat) : Int) → Sc M M1 → -1 ≤ lo → lo ≤ 1999 → (lo = -1 ∨ (0 ≤ lo ∧ lo ≤ 1999 ∧ BS N fr lo r to ≤ by_)) → (∀ m, lo + ((2 ^ k : Nat) : Int) ≤ m → 0 ≤ m → m ≤ 1999 → by_ < BS N fr m r to) → AW mX8_latest 26 [(2, 0), (0, fr), (0, to), (0, by_), (0, r), (9, 0), (0, lo), (0, st), (9, 0)] M1 Q := by
      intro k
      induction k with
      | zero =>
        intro _ lo st M1 hst hs a1 a2 hlo hhi
        have hst0 : st = 0 := hst
        have hhi0 : ∀ m, lo + 1 ≤ m → 0 ≤ m → m ≤ 1999 → by_ < BS N fr m r to := hhi
        have e := ltN_found (hi := lo) hlo (fun m m0 => hhi0 m (by omega)) (Int.le_refl _)
        rw [e] at hQ
        refine B_C_latest_26 ⟨fun _ => ⟨fun z => ?_, fun z => ?_⟩, fun z => absurd (by omega) z⟩
        · rw [if_pos z] at hQ
          exact hQ M1 hs
        · rw [if_neg z] at hQ
          exact hQ M1 hs
      | succ k ih =>
        intro hk lo st M1 hst hs a1 a2 hlo hhi
        have ih2 := ih (by omega)
        have q1 : 2 ^ k ≤ 1024 := show 2 ^ k ≤ 2 ^ 10 from Nat.pow_le_pow_right (by decide) (by omega)
        have q0 : 0 < 2 ^ k := Nat.pow_pos (by decide)
        have hq : 2 ^ (k + 1) = 2 * 2 ^ k := by rw [Nat.pow_succ, Nat.mul_comm]
        rw [hq] at hst hhi
        obtain ⟨w, hw⟩ : ∃ w : Nat, w = 2 ^ k := ⟨_, rfl⟩
        rw [← hw] at hst hhi ih2 q1 q0
        have est : st = (w : Int) := by omega
        subst est
        refine B_C_latest_26 ⟨fun z => absurd z (by omega), fun _ => ⟨by omega, fun z => ⟨by omega, ih2 _ _ _ (by omega) hs a1 a2 hlo (fun m m0 m1 m2 => ?_)⟩, fun z => ?_⟩⟩
        · have := BS_at (N := N) (fr := fr) (a := m) (r := r) (s := to) hI.g (by omega) (by omega) (by omega)
          omega
        · refine c_run0 (hI.sc hs) (by omega) (by omega) (fun M2 hs2 hb => ⟨by omega, by omega, ?_⟩)
          rw [hb r to (by omega) (by omega) (by omega) (by omega)]
          refine ⟨fun z2 => ⟨by omega, ih2 _ _ _ (by omega) (hs.tr hs2) a1 a2 hlo (fun m m0 m1 m2 => ?_)⟩, fun z2 => ⟨by omega, ih2 _ _ _ (by omega) (hs.tr hs2) (by omega) (by omega) (Or.inr ⟨by omega, by omega, by omega⟩) (fun m m0 m1 m2 => hhi m (by omega) m1 m2)⟩⟩
          have := BS_later (N := N) (fr := fr) (a := lo + w) (b := m) (r := r) (s := to) hI.g (by omega) (by omega) (by omega) (by omega)
          omega
    refine key 11 (by omega) (-1) 1024 M rfl Sc.rf (by omega) (by omega) (Or.inl rfl) (fun m m0 m1 m2 => ?_)
    have m0' : (-1 : Int) + 2048 ≤ m := m0
    omega
  · rw [if_neg q] at hQ
    exact hQ M Sc.rf
set_option maxHeartbeats 4000000 in
theorem r_latest {N : Net} {M : Mem} {Q : Int → Mem → Prop} {fr to by_ r : Int} (hI : IN N M) (hQ : ∀ M1, Sc M M1 → Q (fLatest N fr to by_ r) M1) : Calls mX9_latest [(2, 275), (0, fr), (0, to), (0, by_), (0, r)] S0 M Q := by
  have hc := rfz_cases fr by_ to r
  unfold fLatest at hQ
  have hS : Sc M (up2 M 275 8 0) := Sc.rf.up scr8
  refine E_R_latest (B_R_latest_0 (r_wrong ⟨fun q => ?_, fun q => r_wrong ?_⟩))
  · rw [if_pos (by omega)] at hQ
    have key : ∀ n : Nat, ∀ (lo hi : Int) (M1 : Mem), hi - lo < n → Sc M M1 → -1 ≤ lo → lo ≤ 1999 → hi ≤ 1999 → (lo = -1 ∨ (0 ≤ lo ∧ lo ≤ 1999 ∧ BS N fr lo r to ≤ by_)) → (∀ m, hi < m → 0 ≤ m → m ≤ 1999 → by_ < BS N fr m r to) → -1 ≤ hi → AW mX9_latest 33 [(2, 275), (0, fr), (0, to), (0, by_), (0, r), (0, lo), (0, hi), (9, 0), (9, 0)] M1 Q := by
      intro n
      induction n with
      | zero =>
        intro lo hi M1 hn hs a1 a2 a3 hlo hhi a4
        have e := ltN_found hlo hhi (by omega)
        rw [e] at hQ
        refine B_R_latest_33 ⟨fun _ => ⟨fun z => ?_, fun z => ?_⟩, fun z => absurd (by omega) z⟩
        · rw [if_pos z] at hQ
          exact hQ M1 hs
        · rw [if_neg z] at hQ
          exact hQ M1 hs
      | succ n ih =>
        intro lo hi M1 hn hs a1 a2 a3 hlo hhi a4
        refine B_R_latest_33 ⟨fun z0 => ⟨fun z => ?_, fun z => ?_⟩, fun z => ⟨by omega, by omega, by omega, ?_⟩⟩
        · rw [ltN_found hlo hhi z0, if_pos z] at hQ
          exact hQ M1 hs
        · rw [ltN_found hlo hhi z0, if_neg z] at hQ
          exact hQ M1 hs
        · generalize hm : ((lo + hi) + 1) / 2 = md
          refine r_rounds0 (hI.sc hs) (by omega) (by omega) (by omega) (fun M2 hs2 _ hb _ => ⟨by omega, by omega, by omega, ?_⟩)
          have hB : 0 ≤ BS N fr md r to ∧ BS N fr md r to ≤ 10000 := (BS_bd hI.g (by omega) (by omega) (by omega)).1
          rw [hb r to (by omega) (by omega) (by omega) (by omega)]
          have hu : by_ < upv (BS N fr md r to) ↔ by_ < BS N fr md r to := upv_lt (by omega) (by omega)
          refine ⟨fun z2 => ⟨by omega, ih _ _ _ (by omega) (hs.tr hs2) a1 a2 (by omega) hlo (fun m m0 m1 m2 => ?_) (by omega)⟩, fun z2 => ih _ _ _ (by omega) (hs.tr hs2) (by omega) (by omega) a3 (Or.inr ⟨by omega, by omega, by omega⟩) hhi a4⟩
          have := BS_later (N := N) (fr := fr) (a := md) (b := m) (r := r) (s := to) hI.g (by omega) (by omega) (by omega) (by omega)
          omega
    exact key 2001 (-1) 1999 _ (by omega) hS (by omega) (by omega) (by omega) (Or.inl rfl) (fun m m0 m1 m2 => absurd m2 (by omega)) (by omega)
  · rw [if_neg (by omega)] at hQ
    exact hQ _ hS
-- which minutes are worth it
def pfW (N : Net) (fr to r : Int) (t : Int) : Int := if BS N fr t r to < BS N fr (t + 1) r to then 1 else 0
def pfC (N : Net) (fr to r f : Int) (k : Nat) : Int := sumI (fun j => pfW N fr to r (f + j)) k
def pfF (N : Net) (fr to r f i : Int) : Nat → Int
  | 0 => -5
  | k + 1 => if pfW N fr to r (f + k) = 1 ∧ pfC N fr to r f k = i then f + k else pfF N fr to r f i k
theorem pfW_01 (N : Net) (fr to r t : Int) : 0 ≤ pfW N fr to r t ∧ pfW N fr to r t ≤ 1 := by unfold pfW; split <;> omega
theorem pfC_s (N : Net) (fr to r f : Int) (k : Nat) : pfC N fr to r f (k + 1) = pfC N fr to r f k + pfW N fr to r (f + k) := rfl
theorem pfC_bd (N : Net) (fr to r f : Int) (k : Nat) : 0 ≤ pfC N fr to r f k ∧ pfC N fr to r f k ≤ k := by
  have := sumI_bd (f := fun j => pfW N fr to r (f + j)) (b := 1) k (fun j _ => pfW_01 N fr to r (f + j))
  unfold pfC
  omega
theorem pfC_up (N : Net) (fr to r f : Int) (k : Nat) : ∀ n : Nat, k ≤ n → pfC N fr to r f k ≤ pfC N fr to r f n
  | 0, h => by
    obtain rfl : k = 0 := by omega
    exact Int.le_refl _
  | n + 1, h => by
    by_cases e : k = n + 1
    · rw [e]
      exact Int.le_refl _
    · have h1 := pfC_up N fr to r f k n (by omega)
      have h2 := pfW_01 N fr to r (f + n)
      rw [pfC_s]
      omega
theorem pfF_at {N : Net} {fr to r f i : Int} {k : Nat} (h1 : pfW N fr to r (f + k) = 1) (h2 : pfC N fr to r f k = i) : ∀ n : Nat, k < n → pfF N fr to r f i n = f + k
  | 0, q => absurd q (by omega)
  | n + 1, q => by
    unfold pfF
    by_cases e : k = n
    · subst e
      rw [if_pos ⟨h1, h2⟩]
    · have h3 := pfC_up N fr to r f (k + 1) n (by omega)
      rw [pfC_s] at h3
      rw [if_neg (by omega)]
      exact pfF_at h1 h2 n (by omega)
def fProfile (N : Net) (fr to r f la i : Int) : Int := if fr < 0 ∨ 11 < fr ∨ to < 0 ∨ 11 < to ∨ i < -1 then -1 else if r < 0 ∨ 6 < r ∨ f < 0 ∨ 1999 < f ∨ la < 0 ∨ 1999 < la ∨ la < f ∨ 100 ≤ la - f then -2 else if i = -1 then pfC N fr to r f (la - f + 1).toNat else pfF N fr to r f i (la - f + 1).toNat
set_option maxHeartbeats 4000000 in
theorem c_profile {N : Net} {M : Mem} {Q : Int → Mem → Prop} {fr to r f la i : Int} (hI : IN N M) (hQ : ∀ M1, Sc M M1 → Q (fProfile N fr to r f la i) M1) : Calls mX8_profile [(2, 0), (0, fr), (0, to), (0, r), (0, f), (0, la), (0, i)] S0 M Q := by
  have hc := rfz_cases fr f to r
  have hv0 : ∀ v, v = fProfile N fr to r f la i → Q v M := fun v h => h ▸ hQ M Sc.rf
  refine E_C_profile (B_C_profile_0 ⟨fun q0 => c_refusal ⟨fun q => ⟨fun _ => hv0 _ ?_, fun _ => ⟨fun _ => hv0 _ ?_, fun _ => ⟨fun _ => hv0 _ ?_, fun _ => ⟨by omega, fun q9 => ?_, fun _ => hv0 _ ?_⟩⟩⟩⟩, fun q => hv0 _ ?_⟩, fun q => hv0 _ ?_⟩)
  case refine_1 => unfold fProfile; rw [if_neg (by omega), if_pos (by omega)]
  case refine_2 => unfold fProfile; rw [if_neg (by omega), if_pos (by omega)]
  case refine_3 => unfold fProfile; rw [if_neg (by omega), if_pos (by omega)]
  case refine_5 => unfold fProfile; rw [if_neg (by omega), if_pos (by omega)]
  case refine_6 =>
    unfold fProfile rfz
    unfold rfz at q
    (repeat' split at q) <;> (repeat' split) <;> omega
  case refine_7 => unfold fProfile; rw [if_pos (by omega)]
  unfold fProfile at hQ
  rw [if_neg (by omega), if_neg (by omega)] at hQ
  refine c_run0 hI (by omega) (by omega) (fun M1 hs hb => ⟨by omega, by omega, ?_⟩)
  rw [hb r to (by omega) (by omega) (by omega) (by omega)]
  have key : ∀ k : Nat, k ≤ (la - f + 1).toNat → ∀ c v t M1, Sc M M1 → c = pfC N fr to r f k → v = BS N fr t r to → t = f + k → (∀ j : Nat, j < k → ¬ (pfW N fr to r (f + j) = 1 ∧ pfC N fr to r f j = i)) → AW mX8_profile 75 [(2, 0), (0, fr), (0, to), (0, r), (9, 0), (0, la), (0, i), (9, 0), (0, c), (0, v), (0, t), (9, 0)] M1 Q := by
    refine up_ind _ ?_ ?_
    · intro c v t M1 hs hc2 hv ht hn
      refine B_C_profile_75 ⟨fun _ => ⟨fun z => ?_, fun z => ?_⟩, fun z => absurd (by omega) z⟩
      · rw [if_neg z] at hQ
        have : ∀ m : Nat, m ≤ (la - f + 1).toNat → pfF N fr to r f i m = -5 := by
          intro m
          induction m with
          | zero => intro _; rfl
          | succ m ihm =>
            intro hm
            unfold pfF
            rw [if_neg (hn m (by omega))]
            exact ihm (by omega)
        rw [this _ (Nat.le_refl _)] at hQ
        exact hQ M1 hs
      · rw [if_pos z, ← hc2] at hQ
        exact hQ M1 hs
    · intro k hk ih c v t M1 hs hc2 hv ht hn
      have hcb := pfC_bd N fr to r f k
      refine B_C_profile_75 ⟨fun z => absurd z (by omega), fun _ => ⟨by omega, c_run0 (hI.sc hs) (by omega) (by omega) (fun M2 hs2 hb2 => ⟨by omega, by omega, ?_⟩)⟩⟩
      rw [hb2 r to (by omega) (by omega) (by omega) (by omega)]
      have hw : pfW N fr to r (f + k) = if BS N fr t r to < BS N fr (t + 1) r to then 1 else 0 := by rw [ht]; rfl
      refine ⟨fun z => ih _ _ _ _ (hs.tr hs2) ?_ rfl (by omega) (fun j hj => ?_), fun z => ⟨fun z2 => ⟨by omega, ih _ _ _ _ (hs.tr hs2) ?_ rfl (by omega) (fun j hj => ?_)⟩, fun z2 => ?_⟩⟩
      · rw [if_neg (by omega)] at hw
        rw [pfC_s, hw, hc2]
        omega
      · by_cases e : j = k
        · rw [if_neg (by omega)] at hw
          rw [e]
          omega
        · exact hn j (by omega)
      · rw [if_pos (by omega)] at hw
        rw [pfC_s, hw, hc2]
      · by_cases e : j = k
        · rw [e]
          omega
        · exact hn j (by omega)
      · rw [if_pos (by omega)] at hw
        rw [if_neg (by omega), pfF_at hw (hc2.symm.trans z2) _ hk, ← ht] at hQ
        exact hQ M2 (hs.tr hs2)
  exact key 0 (Nat.zero_le _) _ _ f M1 hs rfl rfl (by omega) (fun j hj => absurd hj (by omega))
set_option maxHeartbeats 8000000 in
theorem r_profile {N : Net} {M : Mem} {Q : Int → Mem → Prop} {fr to r f la i : Int} (hI : IN N M) (hQ : ∀ M1, Sc M M1 → Q (fProfile N fr to r f la i) M1) : Calls mX9_profile [(2, 275), (0, fr), (0, to), (0, r), (0, f), (0, la), (0, i)] S0 M Q := by
  have hS : Sc M (up2 M 275 8 0) := Sc.rf.up scr8
  have hQ0 := hQ _ hS
  unfold fProfile at hQ hQ0
  refine E_R_profile (B_R_profile_0 ?_)
  repeat' (first | refine And.intro ?_ ?_ | refine imp_i (fun _ => ?_))
  all_goals try (rw [if_pos (by omega)] at hQ0; exact hQ0)
  all_goals try (rw [if_neg (by omega), if_pos (by omega)] at hQ0; exact hQ0)
  all_goals try omega
  rw [if_neg (by omega), if_neg (by omega)] at hQ
  refine r_rounds0 (hI.sc hS) (by omega) (by omega) (by omega) (fun M1 hs _ hb _ => ⟨by omega, by omega, by omega, ?_⟩)
  rw [hb r to (by omega) (by omega) (by omega) (by omega)]
  have key : ∀ k : Nat, k ≤ (la - f + 1).toNat → ∀ c g v t M1, Sc M M1 → c = pfC N fr to r f k → g = pfF N fr to r f i k → v = upv (BS N fr t r to) → t = f + k → AW mX9_profile 97 [(2, 275), (0, fr), (0, to), (0, r), (9, 0), (0, la), (0, i), (0, c), (0, g), (0, v), (0, t), (9, 0)] M1 Q := by
    refine up_ind _ ?_ ?_
    · intro c g v t M1 hs hc2 hg hv ht
      refine B_R_profile_97 ⟨fun _ => ⟨fun z => ?_, fun z => ?_⟩, fun z => absurd (by omega) z⟩
      · rw [if_neg z, ← hg] at hQ
        exact hQ M1 hs
      · rw [if_pos z, ← hc2] at hQ
        exact hQ M1 hs
    · intro k hk ih c g v t M1 hs hc2 hg hv ht
      have hcb := pfC_bd N fr to r f k
      refine B_R_profile_97 ⟨fun z => absurd z (by omega), fun _ => ⟨by omega, r_rounds0 (hI.sc hs) (by omega) (by omega) (by omega) (fun M2 hs2 _ hb2 _ => ⟨by omega, by omega, by omega, ?_⟩)⟩⟩
      rw [hb2 r to (by omega) (by omega) (by omega) (by omega)]
      have hw : pfW N fr to r (f + k) = if BS N fr t r to < BS N fr (t + 1) r to then 1 else 0 := by rw [ht]; rfl
      have b1 : 0 ≤ BS N fr t r to ∧ BS N fr t r to ≤ 10000 := (BS_bd hI.g (by omega) (by omega) (by omega)).1
      have b2 : 0 ≤ BS N fr (t + 1) r to ∧ BS N fr (t + 1) r to ≤ 10000 := (BS_bd hI.g (by omega) (by omega) (by omega)).1
      have no : ¬ (BS N fr t r to < BS N fr (t + 1) r to) → AW mX9_profile 97 [(2, 275), (0, fr), (0, to), (0, r), (9, 0), (0, la), (0, i), (0, c), (0, g), (0, upv (BS N fr (t + 1) r to)), (0, t + 1), (9, 0)] M2 Q := by
        intro z
        rw [if_neg z] at hw
        refine ih _ _ _ _ _ (hs.tr hs2) ?_ ?_ rfl (by omega)
        · rw [pfC_s, hw, hc2]
          omega
        · unfold pfF
          rw [if_neg (by omega)]
          exact hg
      refine ⟨fun z => no ?_, fun z => ⟨fun z2 => no ?_, fun z2 => ?_⟩⟩
      · rw [hv] at z
        unfold upv at z
        split at z <;> omega
      · rw [hv] at z2
        unfold upv at z2
        (repeat' split at z2) <;> omega
      · have lt : BS N fr t r to < BS N fr (t + 1) r to := by
          rw [hv] at z z2
          unfold upv at z z2
          (repeat' split at z2) <;> (try (rw [if_pos (by omega)] at z)) <;> omega
        rw [if_pos lt] at hw
        refine ⟨fun z3 => ⟨by omega, ih _ _ _ _ _ (hs.tr hs2) ?_ ?_ rfl (by omega)⟩, fun z3 => ⟨by omega, ih _ _ _ _ _ (hs.tr hs2) ?_ ?_ rfl (by omega)⟩⟩
        · rw [pfC_s, hw, hc2]
        · unfold pfF
          rw [if_neg (by omega)]
          exact hg
        · rw [pfC_s, hw, hc2]
        · unfold pfF
          rw [if_pos (by omega)]
          exact ht
  exact key 0 (Nat.zero_le _) _ _ _ f M1 (hS.tr hs) rfl rfl rfl (by omega)
