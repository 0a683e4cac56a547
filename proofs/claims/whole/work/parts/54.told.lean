/-! WHAT THE TIMETABLE HOLDS IN ALL; WHERE TWO LINES MEET -/
def trT (N : Net) : Int := sumI (fun l => N.tr l) N.ln.toNat
def rnT (N : Net) : Int := sumI (fun l => cnR N l) N.ln.toNat
theorem trT_bd {N : Net} (hg : Good N) (k : Nat) (hk : (k : Int) ≤ N.ln) : 0 ≤ sumI (fun l => N.tr l) k ∧ sumI (fun l => N.tr l) k ≤ 48 := by
  have h := sumI_bd (f := fun l => N.tr l) (b := 6) k (fun t ht => (hg.lineK (l := (t : Int)) (by omega) (by omega)).2.2.2)
  have := hg.1
  omega
theorem rnT_bd {N : Net} (hg : Good N) (k : Nat) (hk : (k : Int) ≤ N.ln) : 0 ≤ sumI (fun l => cnR N l) k ∧ sumI (fun l => cnR N l) k ≤ 48 := by
  have h := sumI_bd (f := fun l => cnR N l) (b := 6) k (fun t ht => by
    have h2 := hg.lineK (l := (t : Int)) (by omega) (by omega)
    exact cnR_bd hg (l := (t : Int)) (by omega) (by omega) _ (by omega))
  have := hg.1
  omega
theorem c_countTrips {N : Net} {M : Mem} {Q : Int → Mem → Prop} (hg : Good N) (hN : CH N 0 M) (hQ : Q (trT N) M) : Calls mX3_countTrips [(2, 1)] S0 M Q := by
  have h0 := hg.1
  have hln := hN.lines
  refine E_Net_countTrips (B_Net_countTrips_0 ?_)
  have key : ∀ k : Nat, k ≤ N.ln.toNat → ∀ v i, v = sumI (fun l => N.tr l) k → i = (k : Int) → AW mX3_countTrips 4 [(2, 1), (0, v), (0, i)] M Q := by
    refine up_ind _ ?_ ?_
    · intro v i hv hi
      exact B_Net_countTrips_4 ⟨fun _ => hv ▸ hQ, fun q => absurd (by omega) q⟩
    · intro k hk2 ih v i hv hi
      have hb := trT_bd hg k (by omega)
      have hk := hg.lineK (l := i) (by omega) (by omega)
      have htr := (hN.line (l := i) (by omega) (by omega)).2.2
      have es : sumI (fun l => N.tr l) (k + 1) = sumI (fun l => N.tr l) k + N.tr i := by rw [hi]; rfl
      exact B_Net_countTrips_4 ⟨fun q => absurd q (by omega), fun _ => ⟨by omega, by omega, by omega, ih _ _ (by omega) (by omega)⟩⟩
  exact key 0 (Nat.zero_le _) _ 0 rfl rfl
theorem c_countAllRunning {N : Net} {M : Mem} {Q : Int → Mem → Prop} (hg : Good N) (hN : CH N 0 M) (hQ : Q (rnT N) M) : Calls mX3_countAllRunning [(2, 1)] S0 M Q := by
  have h0 := hg.1
  have hln := hN.lines
  refine E_Net_countAllRunning (B_Net_countAllRunning_0 ?_)
  have key : ∀ k : Nat, k ≤ N.ln.toNat → ∀ v i, v = sumI (fun l => cnR N l) k → i = (k : Int) → AW mX3_countAllRunning 4 [(2, 1), (0, v), (0, i)] M Q := by
    refine up_ind _ ?_ ?_
    · intro v i hv hi
      exact B_Net_countAllRunning_4 ⟨fun _ => hv ▸ hQ, fun q => absurd (by omega) q⟩
    · intro k hk2 ih v i hv hi
      have hb := rnT_bd hg k (by omega)
      have hk := hg.lineK (l := i) (by omega) (by omega)
      have hb2 : 0 ≤ cnR N i ∧ cnR N i ≤ 6 := cnR_bd hg (l := i) (by omega) (by omega) (N.tr i).toNat (by omega)
      have es : sumI (fun l => cnR N l) (k + 1) = sumI (fun l => cnR N l) k + cnR N i := by rw [hi]; rfl
      exact B_Net_countAllRunning_4 ⟨fun q => absurd q (by omega), fun _ => c_countRunning hg hN (by omega) (by omega) ⟨by omega, by omega, ih _ _ (by omega) (by omega)⟩⟩
  exact key 0 (Nat.zero_le _) _ 0 rfl rfl
theorem r_tripsOf0 {N : Net} {M : Mem} {Q : Int → Mem → Prop} (hg : Good N) (hN : RH N M) (hQ : Q (trT N) M) : Calls mX9_tripsOf [(2, 275), (0, 0)] S0 M Q := by
  have h0 := hg.1
  have hln := hN.1
  refine E_R_tripsOf (B_R_tripsOf_0 ?_)
  have key : ∀ k : Nat, k ≤ N.ln.toNat → ∀ v i, v = sumI (fun l => N.tr l) k → i = (k : Int) → AW mX9_tripsOf 4 [(2, 275), (0, 0), (0, v), (0, i)] M Q := by
    refine up_ind _ ?_ ?_
    · intro v i hv hi
      exact B_R_tripsOf_4 ⟨fun _ => hv ▸ hQ, fun q => absurd (by omega) q⟩
    · intro k hk2 ih v i hv hi
      have hb := trT_bd hg k (by omega)
      have hk := hg.lineK (l := i) (by omega) (by omega)
      have htr := (hN.line (l := i) (by omega) (by omega)).2.2
      have es : sumI (fun l => N.tr l) (k + 1) = sumI (fun l => N.tr l) k + N.tr i := by rw [hi]; rfl
      exact B_R_tripsOf_4 ⟨fun q => absurd q (by omega), fun _ => ⟨fun _ => ⟨by omega, by omega, by omega, ih _ _ (by omega) (by omega)⟩, fun q => absurd rfl q⟩⟩
  exact key 0 (Nat.zero_le _) _ 0 rfl rfl
theorem r_tripsOf1 {N : Net} {M : Mem} {Q : Int → Mem → Prop} (hg : Good N) (hN : RH N M) (hQ : Q (rnT N) M) : Calls mX9_tripsOf [(2, 275), (0, 1)] S0 M Q := by
  have h0 := hg.1
  have hln := hN.1
  refine E_R_tripsOf (B_R_tripsOf_0 ?_)
  have key : ∀ k : Nat, k ≤ N.ln.toNat → ∀ v i, v = sumI (fun l => cnR N l) k → i = (k : Int) → AW mX9_tripsOf 4 [(2, 275), (0, 1), (0, v), (0, i)] M Q := by
    refine up_ind _ ?_ ?_
    · intro v i hv hi
      exact B_R_tripsOf_4 ⟨fun _ => hv ▸ hQ, fun q => absurd (by omega) q⟩
    · intro k hk2 ih v i hv hi
      have hb := rnT_bd hg k (by omega)
      have hk := hg.lineK (l := i) (by omega) (by omega)
      have hb2 : 0 ≤ cnR N i ∧ cnR N i ≤ 6 := cnR_bd hg (l := i) (by omega) (by omega) (N.tr i).toNat (by omega)
      have es : sumI (fun l => cnR N l) (k + 1) = sumI (fun l => cnR N l) k + cnR N i := by rw [hi]; rfl
      exact B_R_tripsOf_4 ⟨fun q => absurd q (by omega), fun _ => ⟨fun q => absurd q (by omega), fun _ => r_runsOf hg hN (by omega) (by omega) ⟨by omega, by omega, ih _ _ (by omega) (by omega)⟩⟩⟩
  exact key 0 (Nat.zero_le _) _ 0 rfl rfl
-- footpaths
def p01 (N : Net) (a b : Int) : Int := if N.pt a b = 0 then 0 else 1
def h01 (N : Net) (a b : Int) : Int := if a < b then p01 N a b else 0
def paT (N : Net) : Int := sumI (fun a => sumI (fun b => h01 N a b) 12) 12
theorem p01_bd (N : Net) (a b : Int) : 0 ≤ p01 N a b ∧ p01 N a b ≤ 1 := by unfold p01; split <;> omega
theorem h01_bd (N : Net) (a b : Int) : 0 ≤ h01 N a b ∧ h01 N a b ≤ 1 := by
  have := p01_bd N a b
  unfold h01
  split <;> omega
theorem h01_lo (N : Net) (a : Int) : ∀ n : Nat, (n : Int) ≤ a + 1 → sumI (fun b => h01 N a b) n = 0
  | 0, _ => rfl
  | n + 1, h => by
    rw [sumI_s, h01_lo N a n (by omega)]
    show 0 + h01 N a n = 0
    unfold h01
    rw [if_neg (by omega)]
    rfl
theorem h01_row (N : Net) (a : Int) (n : Nat) (hn : n ≤ 12) : 0 ≤ sumI (fun b => h01 N a b) n ∧ sumI (fun b => h01 N a b) n ≤ 12 := by
  have := sumI_bd (f := fun b => h01 N a b) (b := 1) n (fun k _ => h01_bd N a k)
  omega
theorem h01_tot (N : Net) (n : Nat) (hn : n ≤ 12) : 0 ≤ sumI (fun a => sumI (fun b => h01 N a b) 12) n ∧ sumI (fun a => sumI (fun b => h01 N a b) 12) n ≤ 144 := by
  have := sumI_bd (f := fun a => sumI (fun b => h01 N a b) 12) (b := 12) n (fun k _ => h01_row N k 12 (Nat.le_refl _))
  omega
theorem pa_two {N : Net} (hg : Good N) : sumI (fun k => p01 N (k / 12) (k % 12)) 144 = 2 * paT N := by
  rw [show (144 : Nat) = 12 * 12 from rfl, sumI_flat]
  have e : ∀ a : Nat, a < 12 → sumI (fun b => p01 N (((12 : Nat) * (a : Int) + b) / 12) (((12 : Nat) * (a : Int) + b) % 12)) 12 = sumI (fun b => h01 N a b) 12 + sumI (fun b => h01 N b a) 12 := by
    intro a ha
    rw [← sumI_add]
    refine sumI_cong 12 (fun b hb => ?_)
    show p01 N (((12 : Nat) * (a : Int) + (b : Int)) / 12) (((12 : Nat) * (a : Int) + (b : Int)) % 12) = h01 N a b + h01 N b a
    rw [show (((12 : Nat) * (a : Int) + (b : Int)) / 12) = (a : Int) by omega, show (((12 : Nat) * (a : Int) + (b : Int)) % 12) = (b : Int) by omega]
    have hs := hg.2.2 a b (by omega) (by omega) (by omega) (by omega)
    unfold h01 p01
    rw [← hs.2.1]
    have hd := hs.2.2
    by_cases h1 : (a : Int) < b
    · rw [if_pos h1, if_neg (show ¬ ((b : Int) < a) by omega)]
      exact (Int.add_zero _).symm
    · by_cases h2 : (b : Int) < a
      · rw [if_neg h1, if_pos h2]
        exact (Int.zero_add _).symm
      · rw [if_neg h1, if_neg h2]
        obtain rfl : a = b := by omega
        rw [if_pos hd]
        rfl
  rw [sumI_cong (f := fun a => sumI (fun b => p01 N (((12 : Nat) * a + b) / 12) (((12 : Nat) * a + b) % 12)) 12) (g := fun a => sumI (fun b => h01 N a b) 12 + sumI (fun b => h01 N b a) 12) 12 e, sumI_add]
  have c := sumI_comm (fun a b => h01 N b a) 12 12
  show _ + sumI (fun a => sumI (fun b => h01 N b a) 12) 12 = 2 * paT N
  rw [c]
  unfold paT
  omega
theorem c_countPaths {N : Net} {M : Mem} {Q : Int → Mem → Prop} (hN : CH N 0 M) (hQ : Q (paT N) M) : Calls mX3_countPaths [(2, 1)] S0 M Q := by
  refine E_Net_countPaths (B_Net_countPaths_0 ?_)
  have key : ∀ k : Nat, k ≤ 12 → ∀ v i, v = sumI (fun a => sumI (fun b => h01 N a b) 12) k → i = (k : Int) → AW mX3_countPaths 4 [(2, 1), (0, v), (0, i), (9, 0)] M Q := by
    refine up_ind _ ?_ ?_
    · intro v i hv hi
      exact B_Net_countPaths_4 ⟨fun _ => hv ▸ hQ, fun q => absurd (by omega) q⟩
    · intro k hk2 ih v i hv hi
      have hb := h01_tot N k (by omega)
      refine B_Net_countPaths_4 ⟨fun q => absurd q (by omega), fun _ => ⟨by omega, ?_⟩⟩
      have inner : ∀ n : Nat, n ≤ 12 → (k + 1 : Nat) ≤ n → ∀ w j, w = v + sumI (fun b => h01 N i b) n → j = (n : Int) → AW mX3_countPaths 14 [(2, 1), (0, w), (0, i), (0, j)] M Q := by
        refine up_ind _ ?_ ?_
        · intro _ w j hw hj
          have es : sumI (fun a => sumI (fun b => h01 N a b) 12) (k + 1) = sumI (fun a => sumI (fun b => h01 N a b) 12) k + sumI (fun b => h01 N i b) 12 := by rw [hi]; rfl
          exact B_Net_countPaths_14 ⟨fun _ => ⟨by omega, ih _ _ (by omega) (by omega)⟩, fun q => absurd (by omega) q⟩
        · intro n hn ih2 hkn w j hw hj
          have hb2 := h01_row N i n (by omega)
          have es : sumI (fun b => h01 N i b) (n + 1) = sumI (fun b => h01 N i b) n + h01 N i j := by rw [hj]; rfl
          have hh : h01 N i j = p01 N i j := by unfold h01; rw [if_pos (by omega)]
          unfold p01 at hh
          refine B_Net_countPaths_14 ⟨fun q => absurd q (by omega), fun _ => ⟨by omega, by omega, ?_⟩⟩
          rw [hN.path (a := i) (b := j) (by omega) (by omega) (by omega) (by omega) rfl]
          refine ⟨fun q => ⟨by omega, ih2 (by omega) _ _ ?_ (by omega)⟩, fun q => ⟨by omega, by omega, ih2 (by omega) _ _ ?_ (by omega)⟩⟩
          · rw [if_pos q] at hh
            omega
          · rw [if_neg q] at hh
            omega
      refine inner (k + 1) (by omega) (Nat.le_refl _) _ _ ?_ (by omega)
      rw [h01_lo N i (k + 1) (by omega)]
      omega
  exact key 0 (Nat.zero_le _) _ 0 rfl rfl
theorem r_footMany {N : Net} {M : Mem} {Q : Int → Mem → Prop} (hg : Good N) (hN : RH N M) (hQ : Q (paT N) M) : Calls mX9_footMany [(2, 275)] S0 M Q := by
  refine E_R_footMany (B_R_footMany_0 ?_)
  have key : ∀ k : Nat, k ≤ 144 → ∀ v i, v = sumI (fun k => p01 N (k / 12) (k % 12)) k → i = (k : Int) → AW mX9_footMany 4 [(2, 275), (0, v), (0, i)] M Q := by
    refine up_ind _ ?_ ?_
    · intro v i hv hi
      have h2 := pa_two hg
      have h3 := h01_tot N 12 (Nat.le_refl _)
      have h4 : paT N = sumI (fun a => sumI (fun b => h01 N a b) 12) 12 := rfl
      refine B_R_footMany_4 ⟨fun _ => ⟨by omega, ?_⟩, fun q => absurd (by omega) q⟩
      rw [show v / 2 = paT N by omega]
      exact hQ
    · intro k hk2 ih v i hv hi
      have hb := sumI_bd (f := fun k => p01 N (k / 12) (k % 12)) (b := 1) k (fun j _ => p01_bd N _ _)
      have es : sumI (fun k => p01 N (k / 12) (k % 12)) (k + 1) = sumI (fun k => p01 N (k / 12) (k % 12)) k + p01 N (i / 12) (i % 12) := by rw [hi]; rfl
      have hp := hg.2.2 (i / 12) (i % 12) (by omega) (by omega) (by omega) (by omega)
      have hh : p01 N (i / 12) (i % 12) = if N.pt (i / 12) (i % 12) = 0 then 0 else 1 := rfl
      refine B_R_footMany_4 ⟨fun q => absurd q (by omega), fun _ => ⟨by omega, ?_⟩⟩
      rw [hN.path (a := i / 12) (b := i % 12) (x := i) (by omega) (by omega) (by omega) (by omega) (by omega)]
      refine ⟨fun q => ⟨by omega, by omega, ih _ _ ?_ (by omega)⟩, fun q => ⟨by omega, by omega, ih _ _ ?_ (by omega)⟩⟩
      · rw [if_pos (by omega)] at hh
        omega
      · rw [if_neg (by omega)] at hh
        omega
  exact key 0 (Nat.zero_le _) _ 0 rfl rfl
-- stops on no line
def svd (N : Net) (s : Int) : Nat → Bool
  | 0 => false
  | l + 1 => svd N s l || decide (0 ≤ plc N l s)
theorem svd_t {N : Net} {s : Int} (n : Nat) (h : 0 ≤ plc N n s) : ∀ k : Nat, n < k → svd N s k = true
  | 0, q => absurd q (by omega)
  | k + 1, q => by
    unfold svd
    by_cases hk : n = k
    · rw [← hk, decide_eq_true h, Bool.or_true]
    · rw [svd_t n h k (by omega), Bool.true_or]
def loT (N : Net) : Int := sumI (fun s => if svd N s N.ln.toNat then 0 else 1) 12
theorem c_isServed {N : Net} {M : Mem} {Q : Int → Mem → Prop} {s : Int} (hg : Good N) (hN : CH N 0 M) (hQ : Q (if svd N s N.ln.toNat then 1 else 0) M) : Calls mX3_isServed [(2, 1), (0, s)] S0 M Q := by
  have h0 := hg.1
  have hln := hN.lines
  refine E_Net_isServed (B_Net_isServed_0 ?_)
  have key : ∀ k : Nat, k ≤ N.ln.toNat → ∀ i, svd N s k = false → i = (k : Int) → AW mX3_isServed 2 [(2, 1), (0, s), (0, i)] M Q := by
    refine up_ind _ ?_ ?_
    · intro i hv hi
      refine B_Net_isServed_2 ⟨fun _ => ?_, fun q => absurd (by omega) q⟩
      rw [hv] at hQ
      exact hQ
    · intro k hk2 ih i hv hi
      refine B_Net_isServed_2 ⟨fun q => absurd q (by omega), fun _ => c_placeOf hg hN (by omega) (by omega) ⟨fun q => ⟨by omega, ih _ ?_ (by omega)⟩, fun q => ?_⟩⟩
      · show (svd N s k || decide (0 ≤ plc N k s)) = false
        rw [hv, Bool.false_or]
        exact decide_eq_false (by rw [← hi]; omega)
      · rw [svd_t k (by rw [← hi]; omega) N.ln.toNat (by omega)] at hQ
        exact hQ
  exact key 0 (Nat.zero_le _) 0 rfl rfl
theorem lo_bd (N : Net) (n : Nat) (hn : n ≤ 12) : 0 ≤ sumI (fun s => if svd N s N.ln.toNat then 0 else 1) n ∧ sumI (fun s => if svd N s N.ln.toNat then 0 else 1) n ≤ 12 := by
  have := sumI_bd (f := fun s => if svd N s N.ln.toNat then 0 else 1) (b := 1) n (fun k _ => by
    show 0 ≤ (if svd N k N.ln.toNat then (0 : Int) else 1) ∧ (if svd N k N.ln.toNat then (0 : Int) else 1) ≤ 1
    split <;> omega)
  omega
theorem c_countLoneStops {N : Net} {M : Mem} {Q : Int → Mem → Prop} (hg : Good N) (hN : CH N 0 M) (hQ : Q (loT N) M) : Calls mX3_countLoneStops [(2, 1)] S0 M Q := by
  refine E_Net_countLoneStops (B_Net_countLoneStops_0 ?_)
  have key : ∀ k : Nat, k ≤ 12 → ∀ v i, v = sumI (fun s => if svd N s N.ln.toNat then 0 else 1) k → i = (k : Int) → AW mX3_countLoneStops 4 [(2, 1), (0, v), (0, i)] M Q := by
    refine up_ind _ ?_ ?_
    · intro v i hv hi
      exact B_Net_countLoneStops_4 ⟨fun _ => hv ▸ hQ, fun q => absurd (by omega) q⟩
    · intro k hk2 ih v i hv hi
      have hb := lo_bd N k (by omega)
      have es : sumI (fun s => if svd N s N.ln.toNat then 0 else 1) (k + 1) = sumI (fun s => if svd N s N.ln.toNat then 0 else 1) k + (if svd N i N.ln.toNat then 0 else 1) := by rw [hi]; rfl
      refine B_Net_countLoneStops_4 ⟨fun q => absurd q (by omega), fun _ => c_isServed hg hN ?_⟩
      by_cases hs : svd N i N.ln.toNat = true
      · rw [if_pos hs] at es ⊢
        exact ⟨fun _ => ⟨by omega, ih _ _ (by omega) (by omega)⟩, fun q => absurd q (by omega)⟩
      · rw [if_neg hs] at es ⊢
        exact ⟨fun q => absurd rfl q, fun _ => ⟨by omega, by omega, ih _ _ (by omega) (by omega)⟩⟩
  exact key 0 (Nat.zero_le _) _ 0 rfl rfl
theorem r_bareStops {N : Net} {M : Mem} {Q : Int → Mem → Prop} (hg : Good N) (hN : RH N M) (hQ : Q (loT N) M) : Calls mX9_bareStops [(2, 275)] S0 M Q := by
  have h0 := hg.1
  have hln := hN.1
  refine E_R_bareStops (B_R_bareStops_0 ?_)
  have key : ∀ k : Nat, k ≤ 12 → ∀ v i, v = sumI (fun s => if svd N s N.ln.toNat then 0 else 1) k → i = (k : Int) → AW mX9_bareStops 4 [(2, 275), (0, v), (0, i), (9, 0), (9, 0)] M Q := by
    refine up_ind _ ?_ ?_
    · intro v i hv hi
      exact B_R_bareStops_4 ⟨fun _ => hv ▸ hQ, fun q => absurd (by omega) q⟩
    · intro k hk2 ih v i hv hi
      have hb := lo_bd N k (by omega)
      have es : sumI (fun s => if svd N s N.ln.toNat then 0 else 1) (k + 1) = sumI (fun s => if svd N s N.ln.toNat then 0 else 1) k + (if svd N i N.ln.toNat then 0 else 1) := by rw [hi]; rfl
      refine B_R_bareStops_4 ⟨fun q => absurd q (by omega), fun _ => ?_⟩
      have inner : ∀ n : Nat, n ≤ N.ln.toNat → ∀ b j, (b = if svd N i n then 0 else 1) → j = (n : Int) → AW mX9_bareStops 15 [(2, 275), (0, v), (0, i), (0, b), (0, j)] M Q := by
        refine up_ind _ ?_ ?_
        · intro b j hb2 hj
          refine B_R_bareStops_15 ⟨fun _ => ⟨fun q => ⟨by omega, by omega, ih _ _ (by omega) (by omega)⟩, fun q => ⟨by omega, by omega, ih _ _ ?_ (by omega)⟩⟩, fun q => absurd (by omega) q⟩
          by_cases hs : svd N i N.ln.toNat = true
          · rw [if_pos hs] at hb2
            exact absurd hb2 q
          · rw [if_neg hs] at es
            omega
        · intro n hn ih2 b j hb2 hj
          refine B_R_bareStops_15 ⟨fun q => absurd q (by omega), fun _ => ⟨fun q => ⟨by omega, ih2 _ _ ?_ (by omega)⟩, fun q => r_placeOn hg hN (by omega) (by omega) ⟨fun q2 => ⟨by omega, ih2 _ _ ?_ (by omega)⟩, fun q2 => ⟨by omega, ih2 _ _ ?_ (by omega)⟩⟩⟩⟩
          · by_cases hs : svd N i n = true
            · unfold svd
              rw [hs, Bool.true_or]
              rfl
            · rw [if_neg hs] at hb2
              omega
          · unfold svd
            rw [← hj, decide_eq_true q2, Bool.or_true]
            rfl
          · by_cases hs : svd N i n = true
            · rw [if_pos hs] at hb2
              exact absurd hb2 q
            · unfold svd
              rw [Bool.eq_false_iff.mpr hs, Bool.false_or, ← hj, decide_eq_false q2]
              rfl
      exact inner 0 (Nat.zero_le _) _ 0 rfl rfl
  exact key 0 (Nat.zero_le _) _ 0 rfl rfl
def fTold (N : Net) (M : Mem) (w : Int) : Int := if w = 0 then N.ln else if w = 1 then trT N else if w = 2 then paT N else if w = 3 then rnT N else if w = 4 then loT N else if w = 5 then M 263 1 else if w = 6 then M 265 1 else -1
set_option maxHeartbeats 4000000 in
theorem c_told {N : Net} {M : Mem} {Q : Int → Mem → Prop} {w : Int} (hI : IN N M) (hQ : Q (fTold N M w) M) : Calls mX8_told [(2, 0), (0, w)] S0 M Q := by
  have hv : ∀ v, v = fTold N M w → Q v M := fun v h => h ▸ hQ
  refine E_C_told (B_C_told_0 ?_)
  rw [hI.c.lines]
  refine ⟨fun q => hv _ ?_, fun q => hv _ ?_, fun q => c_countTrips hI.g hI.c (hv _ ?_), fun q => c_countPaths hI.c (hv _ ?_), fun q => c_countAllRunning hI.g hI.c (hv _ ?_), fun q => c_countLoneStops hI.g hI.c (hv _ ?_), fun q => hv _ ?_, fun q => hv _ ?_⟩
  all_goals (unfold fTold; (repeat' split) <;> omega)
set_option maxHeartbeats 4000000 in
theorem r_told {N : Net} {M : Mem} {Q : Int → Mem → Prop} {w : Int} (hI : IN N M) (hQ : Q (fTold N M w) (up2 M 275 8 0)) : Calls mX9_told [(2, 275), (0, w)] S0 M Q := by
  have hv : ∀ v, v = fTold N M w → Q v (up2 M 275 8 0) := fun v h => h ▸ hQ
  have hI2 : IN N (up2 M 275 8 0) := hI.sc (Sc.rf.up scr8)
  refine E_R_told (B_R_told_0 ?_)
  rw [hI.r.1, ← hI.ta.1, ← hI.pa.1]
  refine ⟨fun q => hv _ ?_, fun q => hv _ ?_, fun q => ⟨fun q2 => r_tripsOf0 hI.g hI2.r (hv _ ?_), fun q2 => absurd q (by omega)⟩, fun q => r_footMany hI.g hI2.r (hv _ ?_), fun q => ⟨fun q2 => absurd q q2, fun q2 => r_tripsOf1 hI.g hI2.r (hv _ ?_)⟩, fun q => r_bareStops hI.g hI2.r (hv _ ?_), fun q => hv _ ?_, fun q => hv _ ?_⟩
  all_goals (unfold fTold; (repeat' split) <;> omega)
