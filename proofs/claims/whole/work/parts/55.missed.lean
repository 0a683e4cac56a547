/-! WHO IS MISSED BY HOW LITTLE -/
def minI (f : Int → Int) : Nat → Int
  | 0 => 10000
  | k + 1 => min (minI f k) (f k)
theorem minI_s (f : Int → Int) (k : Nat) : minI f (k + 1) = min (minI f k) (f k) := rfl
theorem minI_top (f : Int → Int) : ∀ n : Nat, minI f n ≤ 10000
  | 0 => Int.le_refl _
  | n + 1 => by
    have := minI_top f n
    rw [minI_s]
    omega
theorem minI_le (f : Int → Int) {k : Nat} : ∀ n : Nat, k < n → minI f n ≤ f k
  | 0, h => absurd h (by omega)
  | n + 1, h => by
    rw [minI_s]
    by_cases hk : k = n
    · subst hk
      omega
    · have := minI_le f (k := k) n (by omega)
      omega
theorem minI_ge {f : Int → Int} {x : Int} (h0 : x ≤ 10000) : ∀ n : Nat, (∀ k : Nat, k < n → x ≤ f k) → x ≤ minI f n
  | 0, _ => h0
  | n + 1, h => by
    have h1 := minI_ge h0 n (fun k hk => h k (by omega))
    have h2 := h n (by omega)
    rw [minI_s]
    omega
theorem minI_none {f : Int → Int} (n : Nat) (h : ∀ k : Nat, k < n → f k = 10000) : minI f n = 10000 :=
  Int.le_antisymm (minI_top f n) (minI_ge (Int.le_refl _) n (fun k hk => Int.le_of_eq (h k hk).symm))
theorem minI_cong {f g : Int → Int} : ∀ n : Nat, (∀ k : Nat, k < n → f k = g k) → minI f n = minI g n
  | 0, _ => rfl
  | n + 1, h => by rw [minI_s, minI_s, minI_cong n (fun k hk => h k (by omega)), h n (by omega)]
/-- when a trip comes to a stop; when it goes on -/
def avl (N : Net) (s l t : Int) : Int := if 0 < plc N l s ∧ N.rn l t = 1 then N.mi l t (plc N l s) else -1
def dpt (N : Net) (s l t : Int) : Int := if 0 ≤ plc N l s ∧ plc N l s < N.sz l - 1 ∧ N.rn l t = 1 then N.mi l t (plc N l s) else -1
theorem avl_bd {N : Net} {s l t : Int} (hg : Good N) (l0 : 0 ≤ l) (l1 : l < N.ln) (t0 : 0 ≤ t) (t1 : t < N.tr l) : -1 ≤ avl N s l t ∧ avl N s l t ≤ 9000 := by
  unfold avl
  split
  · have h := plc_cases hg l0 l1 s
    have := hg.min l0 l1 t0 t1 (i := plc N l s) (by omega) (by omega)
    omega
  · omega
theorem dpt_bd {N : Net} {s l t : Int} (hg : Good N) (l0 : 0 ≤ l) (l1 : l < N.ln) (t0 : 0 ≤ t) (t1 : t < N.tr l) : -1 ≤ dpt N s l t ∧ dpt N s l t ≤ 9000 := by
  unfold dpt
  split
  · have h := plc_cases hg l0 l1 s
    have := hg.min l0 l1 t0 t1 (i := plc N l s) (by omega) (by omega)
    omega
  · omega
theorem r_arrivalAt {N : Net} {M : Mem} {Q : Int → Mem → Prop} {l t s : Int} (hg : Good N) (hN : RH N M) (l0 : 0 ≤ l) (l1 : l < N.ln) (t0 : 0 ≤ t) (t1 : t < N.tr l) (hQ : Q (avl N s l t) M) : Calls mX9_arrivalAt [(2, 275), (0, l), (0, t), (0, s)] S0 M Q := by
  have hk := hg.lineK l0 l1
  have hp := plc_cases hg l0 l1 s
  have hr := rn01 hg l0 l1 t0 t1
  unfold avl at hQ
  refine E_R_arrivalAt (B_R_arrivalAt_0 (r_placeOn hg hN l0 l1 ⟨fun q => ?_, fun q => r_isRunning hg hN l0 l1 t0 t1 ⟨fun q2 => ?_, fun q2 => ⟨by omega, by omega, by omega, by omega, by omega, ?_⟩⟩⟩))
  · rw [if_neg (by omega)] at hQ
    exact hQ
  · rw [if_neg (by omega)] at hQ
    exact hQ
  · rw [if_pos (by omega)] at hQ
    rw [hN.min l0 l1 t0 t1 (i := plc N l s) (by omega) (by omega) rfl]
    exact hQ
theorem r_departureAt {N : Net} {M : Mem} {Q : Int → Mem → Prop} {l t s : Int} (hg : Good N) (hN : RH N M) (l0 : 0 ≤ l) (l1 : l < N.ln) (t0 : 0 ≤ t) (t1 : t < N.tr l) (hQ : Q (dpt N s l t) M) : Calls mX9_departureAt [(2, 275), (0, l), (0, t), (0, s)] S0 M Q := by
  have hk := hg.lineK l0 l1
  have hp := plc_cases hg l0 l1 s
  have hr := rn01 hg l0 l1 t0 t1
  have hsz := (hN.line l0 l1).2.1
  unfold dpt at hQ
  refine E_R_departureAt (B_R_departureAt_0 (r_placeOn hg hN l0 l1 ⟨fun q => ?_, fun q => ⟨by omega, by omega, fun q3 => ?_, fun q3 => r_isRunning hg hN l0 l1 t0 t1 ⟨fun q2 => ?_, fun q2 => ⟨by omega, by omega, by omega, by omega, by omega, ?_⟩⟩⟩⟩))
  · rw [if_neg (by omega)] at hQ
    exact hQ
  · rw [if_neg (by omega)] at hQ
    exact hQ
  · rw [if_neg (by omega)] at hQ
    exact hQ
  · rw [if_pos (by omega)] at hQ
    rw [hN.min l0 l1 t0 t1 (i := plc N l s) (by omega) (by omega) rfl]
    exact hQ
/-- by how little one that goes on is missed by one that comes at c on line l -/
def dvo (c d : Int) : Int := if 0 ≤ d ∧ d < c then c - d else 10000
def moF (N : Net) (s l c l2 : Int) : Int := if l2 = l then 10000 else minI (fun t2 => dvo c (dpt N s l2 t2)) (N.tr l2).toNat
abbrev moI (N : Net) (s l c : Int) : Int := minI (fun l2 => moF N s l c l2) N.ln.toNat
def mlF (N : Net) (s l t : Int) : Int := if 0 ≤ avl N s l t then moI N s l (avl N s l t) else 10000
abbrev mlI (N : Net) (s l : Int) : Int := minI (fun t => mlF N s l t) (N.tr l).toNat
def mis (N : Net) (s : Int) : Int := minI (fun l => mlI N s l) N.ln.toNat
set_option maxHeartbeats 4000000 in
theorem c_leastMissOf {N : Net} {M : Mem} {Q : Int → Mem → Prop} {l c s : Int} (hg : Good N) (hN : CH N 0 M) (hc : 0 ≤ c ∧ c ≤ 9000) (hQ : Q (moI N s l c) M) : Calls mX0_leastMissOf [(2, 261), (0, l), (0, c), (0, s)] S0 M Q := by
  have h0 := hg.1
  have hln := hN.lines
  refine E_Board_leastMissOf (B_Board_leastMissOf_0 ?_)
  have key : ∀ k : Nat, k ≤ N.ln.toNat → ∀ v i, v = minI (fun l2 => moF N s l c l2) k → i = (k : Int) → AW mX0_leastMissOf 8 [(2, 261), (0, l), (0, c), (0, s), (0, v), (0, i), (9, 0), (9, 0), (9, 0)] M Q := by
    refine up_ind _ ?_ ?_
    · intro v i hv hi
      exact B_Board_leastMissOf_8 ⟨fun _ => hv ▸ hQ, fun q => absurd (by omega) q⟩
    · intro k hk2 ih v i hv hi
      have hk := hg.lineK (l := i) (by omega) (by omega)
      have hp := plc_cases hg (l := i) (by omega) (by omega) s
      obtain ⟨-, hsz, htr⟩ := hN.line (l := i) (by omega) (by omega)
      have ht := minI_top (fun l2 => moF N s l c l2) k
      have es : minI (fun l2 => moF N s l c l2) (k + 1) = min (minI (fun l2 => moF N s l c l2) k) (moF N s l c i) := by rw [hi]; rfl
      have no : (i = l ∨ plc N i s < 0 ∨ N.sz i - 1 ≤ plc N i s) → moF N s l c i = 10000 := by
        intro h
        unfold moF
        split
        · rfl
        · refine minI_none _ (fun j _ => ?_)
          show dvo c (dpt N s i j) = 10000
          unfold dpt
          rw [if_neg (by omega)]
          rfl
      refine B_Board_leastMissOf_8 ⟨fun q => absurd q (by omega), fun _ => c_placeOf hg hN (by omega) (by omega) ⟨fun q => ⟨by omega, ih _ _ ?_ (by omega)⟩, fun q => ⟨fun q2 => ⟨by omega, ih _ _ ?_ (by omega)⟩, fun q2 => ⟨by omega, by omega, fun q3 => ⟨by omega, ih _ _ ?_ (by omega)⟩, fun q3 => ?_⟩⟩⟩⟩
      · have := no (Or.inl q)
        omega
      · have := no (Or.inr (Or.inl q2))
        omega
      · have := no (Or.inr (Or.inr (by omega)))
        omega
      · have inner : ∀ n : Nat, n ≤ (N.tr i).toNat → ∀ w j, w = min v (minI (fun t2 => dvo c (dpt N s i t2)) n) → j = (n : Int) → AW mX0_leastMissOf 55 [(2, 261), (0, l), (0, c), (0, s), (0, w), (0, i), (0, plc N i s), (0, j), (9, 0)] M Q := by
          refine up_ind _ ?_ ?_
          · intro w j hw hj
            have hm : moF N s l c i = minI (fun t2 => dvo c (dpt N s i t2)) (N.tr i).toNat := by unfold moF; rw [if_neg q]
            exact B_Board_leastMissOf_55 ⟨by omega, fun _ => ⟨by omega, ih _ _ (by omega) (by omega)⟩, fun q => absurd (by omega) q⟩
          · intro n hn ih2 w j hw hj
            have es2 : minI (fun t2 => dvo c (dpt N s i t2)) (n + 1) = min (minI (fun t2 => dvo c (dpt N s i t2)) n) (dvo c (dpt N s i j)) := by rw [hj]; rfl
            have ht2 := minI_top (fun t2 => dvo c (dpt N s i t2)) n
            have hmi := hg.min (l := i) (t := j) (i := plc N i s) (by omega) (by omega) (by omega) (by omega) (by omega) (by omega)
            refine B_Board_leastMissOf_55 ⟨by omega, fun q => absurd q (by omega), fun _ => ⟨by omega, by omega, by omega, by omega, ?_⟩⟩
            rw [hN.run (l := i) (t := j) (by omega) (by omega) (by omega) (by omega) rfl, hN.min (l := i) (t := j) (i := plc N i s) (by omega) (by omega) (by omega) (by omega) (by omega) (by omega) rfl]
            refine ⟨fun q4 => ⟨by omega, ih2 _ _ ?_ (by omega)⟩, fun q4 => ⟨fun q5 => ⟨by omega, ih2 _ _ ?_ (by omega)⟩, fun q5 => ⟨by omega, by omega, ih2 _ _ ?_ (by omega)⟩⟩⟩
            · have hd : dvo c (dpt N s i j) = 10000 := by
                unfold dpt
                rw [if_neg (fun z => q4 z.2.2)]
                rfl
              omega
            · have hd : dvo c (dpt N s i j) = 10000 := by
                have hdp : dpt N s i j = N.mi i j (plc N i s) := by unfold dpt; rw [if_pos (by omega)]
                rw [hdp]
                unfold dvo
                rw [if_neg (by omega)]
              omega
            · have hd : dvo c (dpt N s i j) = c - N.mi i j (plc N i s) := by
                have hdp : dpt N s i j = N.mi i j (plc N i s) := by unfold dpt; rw [if_pos (by omega)]
                rw [hdp]
                unfold dvo
                rw [if_pos (by omega)]
              omega
        refine inner 0 (Nat.zero_le _) _ 0 ?_ rfl
        show v = min v 10000
        omega
  exact key 0 (Nat.zero_le _) _ 0 rfl rfl
set_option maxHeartbeats 4000000 in
theorem c_leastMiss {N : Net} {M : Mem} {Q : Int → Mem → Prop} {s : Int} (hg : Good N) (hN : CH N 0 M) (hQ : Q (mis N s) M) : Calls mX0_leastMiss [(2, 261), (0, s)] S0 M Q := by
  have h0 := hg.1
  have hln := hN.lines
  refine E_Board_leastMiss (B_Board_leastMiss_0 ?_)
  have key : ∀ k : Nat, k ≤ N.ln.toNat → ∀ v i, v = minI (fun l => mlI N s l) k → i = (k : Int) → AW mX0_leastMiss 6 [(2, 261), (0, s), (0, v), (0, i), (9, 0), (9, 0)] M Q := by
    refine up_ind _ ?_ ?_
    · intro v i hv hi
      exact B_Board_leastMiss_6 ⟨fun _ => hv ▸ hQ, fun q => absurd (by omega) q⟩
    · intro k hk2 ih v i hv hi
      have hk := hg.lineK (l := i) (by omega) (by omega)
      have hp := plc_cases hg (l := i) (by omega) (by omega) s
      obtain ⟨-, hsz, htr⟩ := hN.line (l := i) (by omega) (by omega)
      have ht := minI_top (fun l => mlI N s l) k
      have es : minI (fun l => mlI N s l) (k + 1) = min (minI (fun l => mlI N s l) k) (mlI N s i) := by rw [hi]; rfl
      refine B_Board_leastMiss_6 ⟨fun q => absurd q (by omega), fun _ => c_placeOf hg hN (by omega) (by omega) ⟨fun q => ?_, fun q => ⟨by omega, ih _ _ ?_ (by omega)⟩⟩⟩
      · have inner : ∀ n : Nat, n ≤ (N.tr i).toNat → ∀ w j, w = min v (minI (fun t => mlF N s i t) n) → j = (n : Int) → AW mX0_leastMiss 40 [(2, 261), (0, s), (0, w), (0, i), (0, plc N i s), (0, j)] M Q := by
          refine up_ind _ ?_ ?_
          · intro w j hw hj
            have hm : mlI N s i = minI (fun t => mlF N s i t) (N.tr i).toNat := rfl
            exact B_Board_leastMiss_40 ⟨by omega, fun _ => ⟨by omega, ih _ _ (by omega) (by omega)⟩, fun q => absurd (by omega) q⟩
          · intro n hn ih2 w j hw hj
            have es2 : minI (fun t => mlF N s i t) (n + 1) = min (minI (fun t => mlF N s i t) n) (mlF N s i j) := by rw [hj]; rfl
            have ht2 := minI_top (fun t => mlF N s i t) n
            have hmi := hg.min (l := i) (t := j) (i := plc N i s) (by omega) (by omega) (by omega) (by omega) (by omega) (by omega)
            refine B_Board_leastMiss_40 ⟨by omega, fun q => absurd q (by omega), fun _ => ⟨by omega, by omega, by omega, ?_⟩⟩
            rw [hN.run (l := i) (t := j) (by omega) (by omega) (by omega) (by omega) rfl, hN.min (l := i) (t := j) (i := plc N i s) (by omega) (by omega) (by omega) (by omega) (by omega) (by omega) rfl]
            refine ⟨fun q4 => ⟨by omega, ih2 _ _ ?_ (by omega)⟩, fun q4 => ⟨by omega, c_leastMissOf hg hN (by omega) ⟨by omega, ih2 _ _ ?_ (by omega)⟩⟩⟩
            · have hd : mlF N s i j = 10000 := by
                unfold mlF avl
                rw [if_neg (c := 0 < plc N i s ∧ N.rn i j = 1) (fun z => q4 z.2), if_neg (by omega)]
              omega
            · have ha : avl N s i j = N.mi i j (plc N i s) := by unfold avl; rw [if_pos (by omega)]
              have hd : mlF N s i j = moI N s i (N.mi i j (plc N i s)) := by
                unfold mlF
                rw [ha, if_pos (by omega)]
              omega
        refine inner 0 (Nat.zero_le _) _ 0 ?_ rfl
        show v = min v 10000
        omega
      · have : mlI N s i = 10000 := by
          refine minI_none _ (fun j _ => ?_)
          show mlF N s i j = 10000
          unfold mlF avl
          rw [if_neg (c := 0 < plc N i s ∧ N.rn i j = 1) (by omega), if_neg (by omega)]
        omega
  exact key 0 (Nat.zero_le _) _ 0 rfl rfl
-- all pairs at once
def dv (N : Net) (s l t l2 t2 : Int) : Int := if l ≠ l2 ∧ (l < N.ln ∧ t < N.tr l) ∧ (l2 < N.ln ∧ t2 < N.tr l2) ∧ 0 ≤ avl N s l t then dvo (avl N s l t) (dpt N s l2 t2) else 10000
theorem mis_flat {N : Net} (hg : Good N) (s : Int) : minI (fun a => minI (fun b => dv N s (a / 6) (a % 6) (b / 6) (b % 6)) 48) 48 = mis N s := by
  have h0 := hg.1
  refine Int.le_antisymm ?_ ?_
  · have top := minI_top (fun a => minI (fun b => dv N s (a / 6) (a % 6) (b / 6) (b % 6)) 48) 48
    refine minI_ge top _ (fun l hl => minI_ge top _ (fun t ht => ?_))
    have hk := hg.lineK (l := (l : Int)) (by omega) (by omega)
    show _ ≤ mlF N s l t
    unfold mlF
    split
    · rename_i ha
      refine minI_ge top _ (fun l2 hl2 => ?_)
      have hk2 := hg.lineK (l := (l2 : Int)) (by omega) (by omega)
      show _ ≤ moF N s l (avl N s l t) l2
      unfold moF
      split
      · exact top
      · rename_i hne
        refine minI_ge top _ (fun t2 ht2 => ?_)
        show _ ≤ dvo (avl N s l t) (dpt N s l2 t2)
        have e1 := minI_le (fun a => minI (fun b => dv N s (a / 6) (a % 6) (b / 6) (b % 6)) 48) (k := 6 * l + t) 48 (by omega)
        have e2 := minI_le (fun b => dv N s (((6 * l + t : Nat) : Int) / 6) (((6 * l + t : Nat) : Int) % 6) (b / 6) (b % 6)) (k := 6 * l2 + t2) 48 (by omega)
        refine Int.le_trans e1 (Int.le_trans e2 (Int.le_of_eq ?_))
        show dv N s (((6 * l + t : Nat) : Int) / 6) (((6 * l + t : Nat) : Int) % 6) (((6 * l2 + t2 : Nat) : Int) / 6) (((6 * l2 + t2 : Nat) : Int) % 6) = _
        rw [show ((6 * l + t : Nat) : Int) / 6 = l by omega, show ((6 * l + t : Nat) : Int) % 6 = t by omega, show ((6 * l2 + t2 : Nat) : Int) / 6 = l2 by omega, show ((6 * l2 + t2 : Nat) : Int) % 6 = t2 by omega]
        unfold dv
        rw [if_pos ⟨fun z => hne z.symm, ⟨by omega, by omega⟩, ⟨by omega, by omega⟩, ha⟩]
    · exact top
  · have top : mis N s ≤ 10000 := minI_top _ _
    refine minI_ge top _ (fun a ha => minI_ge top _ (fun b hb => ?_))
    show _ ≤ dv N s ((a : Int) / 6) ((a : Int) % 6) ((b : Int) / 6) ((b : Int) % 6)
    unfold dv
    split
    · rename_i h
      obtain ⟨hne, ⟨a1, a2⟩, ⟨b1, b2⟩, hav⟩ := h
      have e1 := minI_le (fun l => mlI N s l) (k := a / 6) N.ln.toNat (by omega)
      have e2 := minI_le (fun t => mlF N s ((a : Int) / 6) t) (k := a % 6) (N.tr ((a : Int) / 6)).toNat (by omega)
      have e3 := minI_le (fun l2 => moF N s ((a : Int) / 6) (avl N s ((a : Int) / 6) ((a : Int) % 6)) l2) (k := b / 6) N.ln.toNat (by omega)
      have e4 := minI_le (fun t2 => dvo (avl N s ((a : Int) / 6) ((a : Int) % 6)) (dpt N s ((b : Int) / 6) t2)) (k := b % 6) (N.tr ((b : Int) / 6)).toNat (by omega)
      have f2 : mlF N s ((a : Int) / 6) ((a : Int) % 6) = moI N s ((a : Int) / 6) (avl N s ((a : Int) / 6) ((a : Int) % 6)) := by unfold mlF; rw [if_pos hav]
      have f3 : moF N s ((a : Int) / 6) (avl N s ((a : Int) / 6) ((a : Int) % 6)) ((b : Int) / 6) = minI (fun t2 => dvo (avl N s ((a : Int) / 6) ((a : Int) % 6)) (dpt N s ((b : Int) / 6) t2)) (N.tr ((b : Int) / 6)).toNat := by unfold moF; rw [if_neg (fun z => hne z.symm)]
      have g1 : mlI N s (((a / 6 : Nat)) : Int) = mlI N s ((a : Int) / 6) := by rw [show (((a / 6 : Nat)) : Int) = (a : Int) / 6 by omega]
      rw [show (((a / 6 : Nat)) : Int) = (a : Int) / 6 by omega] at e1
      rw [show (((a % 6 : Nat)) : Int) = (a : Int) % 6 by omega] at e2
      rw [show (((b / 6 : Nat)) : Int) = (b : Int) / 6 by omega] at e3
      rw [show (((b % 6 : Nat)) : Int) = (b : Int) % 6 by omega] at e4
      refine Int.le_trans e1 (Int.le_trans e2 ?_)
      rw [f2]
      refine Int.le_trans e3 ?_
      rw [f3]
      exact e4
    · exact top
theorem mis_bd {N : Net} (hg : Good N) (s : Int) (n : Nat) (hn : n ≤ 48) (f : Int → Int) (hf : ∀ k, 0 ≤ f k) : 0 ≤ minI f n := minI_ge (by omega) n (fun k _ => hf k)
theorem dv_bd (N : Net) (s l t l2 t2 : Int) (h : ∀ c d, 0 ≤ dvo c d) : 0 ≤ dv N s l t l2 t2 := by
  unfold dv
  split
  · exact h _ _
  · omega
theorem dvo_bd (c d : Int) : 0 ≤ dvo c d := by
  unfold dvo
  split <;> omega
def fMissed (N : Net) (s : Int) : Int := if 0 ≤ s ∧ s < 12 then (if mis N s = 10000 then -5 else mis N s) else -1
theorem c_missed {N : Net} {M : Mem} {Q : Int → Mem → Prop} {s : Int} (hI : IN N M) (hQ : Q (fMissed N s) M) : Calls mX8_missed [(2, 0), (0, s)] S0 M Q := by
  unfold fMissed at hQ
  refine E_C_missed (B_C_missed_0 ⟨fun q => ?_, fun q => ⟨fun q2 => ?_, fun q2 => c_leastMiss hI.g hI.c ⟨fun q3 => ?_, fun q3 => ?_⟩⟩⟩)
  · rw [if_neg (by omega)] at hQ
    exact hQ
  · rw [if_neg (by omega)] at hQ
    exact hQ
  · rw [if_pos (by omega), if_neg q3] at hQ
    exact hQ
  · rw [if_pos (by omega), if_pos q3] at hQ
    exact hQ
set_option maxHeartbeats 8000000 in
theorem r_missed {N : Net} {M : Mem} {Q : Int → Mem → Prop} {s : Int} (hI : IN N M) (hQ : Q (fMissed N s) (up2 M 275 8 0)) : Calls mX9_missed [(2, 275), (0, s)] S0 M Q := by
  unfold fMissed at hQ
  have hg := hI.g
  have hN : RH N (up2 M 275 8 0) := (hI.sc (Sc.rf.up scr8)).r
  have h0 := hg.1
  have hln := hN.1
  refine E_R_missed (B_R_missed_0 ⟨fun q => ?_, fun q => ⟨fun q2 => ?_, fun q2 => ?_⟩⟩)
  · rw [if_neg (by omega)] at hQ
    exact hQ
  · rw [if_neg (by omega)] at hQ
    exact hQ
  rw [if_pos (by omega)] at hQ
  generalize up2 M 275 8 0 = M1 at hQ hN hln ⊢
  have key : ∀ k : Nat, k ≤ 48 → ∀ v i, v = upv (minI (fun a => minI (fun b => dv N s (a / 6) (a % 6) (b / 6) (b % 6)) 48) k) → i = (k : Int) → AW mX9_missed 19 [(2, 275), (0, s), (0, v), (0, i), (9, 0), (9, 0), (9, 0), (9, 0), (9, 0)] M1 Q := by
    refine up_ind _ ?_ ?_
    · intro v i hv hi
      rw [mis_flat hg s] at hv
      have ht : mis N s ≤ 10000 := minI_top _ _
      unfold upv at hv
      refine B_R_missed_19 ⟨fun _ => ⟨fun q3 => ?_, fun q3 => ?_⟩, fun q => absurd (by omega) q⟩
      · by_cases hm : mis N s = 10000
        · rw [if_pos hm] at hv
          exact absurd hv q3
        · rw [if_neg hm] at hv hQ
          exact hv ▸ hQ
      · by_cases hm : mis N s = 10000
        · rw [if_pos hm] at hQ
          exact hQ
        · rw [if_neg hm] at hv
          omega
    · intro k hk2 ih v i hv hi
      refine B_R_missed_19 ⟨fun q => absurd q (by omega), fun _ => ?_⟩
      have inner : ∀ n : Nat, n ≤ 48 → ∀ w j, w = upv (min (minI (fun a => minI (fun b => dv N s (a / 6) (a % 6) (b / 6) (b % 6)) 48) k) (minI (fun b => dv N s (i / 6) (i % 6) (b / 6) (b % 6)) n)) → j = (n : Int) → AW mX9_missed 28 [(2, 275), (0, s), (0, w), (0, i), (0, j), (9, 0), (9, 0), (9, 0), (9, 0)] M1 Q := by
        refine up_ind _ ?_ ?_
        · intro w j hw hj
          refine B_R_missed_28 ⟨fun _ => ⟨by omega, ih _ _ ?_ (by omega)⟩, fun q => absurd (by omega) q⟩
          rw [hw, minI_s _ k, hi]
        · intro n hn ih2 w j hw hj
          have t1 := minI_top (fun a => minI (fun b => dv N s (a / 6) (a % 6) (b / 6) (b % 6)) 48) k
          have t2 := minI_top (fun b => dv N s (i / 6) (i % 6) (b / 6) (b % 6)) n
          have es : minI (fun b => dv N s (i / 6) (i % 6) (b / 6) (b % 6)) (n + 1) = min (minI (fun b => dv N s (i / 6) (i % 6) (b / 6) (b % 6)) n) (dv N s (i / 6) (i % 6) (j / 6) (j % 6)) := by rw [hj]; rfl
          rw [es] at ih2
          generalize minI (fun a => minI (fun b => dv N s (a / 6) (a % 6) (b / 6) (b % 6)) 48) k = A at hw ih2 t1 ⊢
          generalize minI (fun b => dv N s (i / 6) (i % 6) (b / 6) (b % 6)) n = B at hw ih2 t2 ⊢
          have skip : dv N s (i / 6) (i % 6) (j / 6) (j % 6) = 10000 → AW mX9_missed 28 [(2, 275), (0, s), (0, w), (0, i), (0, j + 1), (9, 0), (9, 0), (9, 0), (9, 0)] M1 Q := by
            intro h
            refine ih2 _ _ ?_ (by omega)
            rw [hw, h, show min A (min B 10000) = min A B by omega]
          have far : ¬ (i / 6 ≠ j / 6 ∧ (i / 6 < N.ln ∧ i % 6 < N.tr (i / 6)) ∧ (j / 6 < N.ln ∧ j % 6 < N.tr (j / 6))) → AW mX9_missed 28 [(2, 275), (0, s), (0, w), (0, i), (0, j + 1), (9, 0), (9, 0), (9, 0), (9, 0)] M1 Q := by
            intro h
            refine skip ?_
            unfold dv
            rw [if_neg (fun z => h ⟨z.1, z.2.1, z.2.2.1⟩)]
          refine B_R_missed_28 ⟨fun q => absurd q (by omega), fun _ => ?_⟩
          rw [hln]
          by_cases hA : i / 6 < N.ln
          · rw [(hN.line (l := i / 6) (by omega) hA).2.2]
            have hkA := hg.lineK (l := i / 6) (by omega) hA
            by_cases hB : j / 6 < N.ln
            · rw [(hN.line (l := j / 6) (by omega) hB).2.2]
              have hkB := hg.lineK (l := j / 6) (by omega) hB
              refine ⟨by omega, by omega, fun q => ⟨by omega, far (by omega)⟩, fun q => ⟨by omega, fun q => ⟨by omega, far (by omega)⟩, fun _ => ⟨fun q => ⟨by omega, far (by omega)⟩, fun _ => ⟨by omega, by omega, fun q => ⟨by omega, far (by omega)⟩, fun _ => ⟨fun q => ⟨by omega, far (by omega)⟩, fun q2 => ⟨fun q => ⟨by omega, far (by omega)⟩, fun _ => ⟨fun q => ⟨by omega, far (by omega)⟩, fun _ => ⟨by omega, by omega, fun q => ⟨by omega, far (by omega)⟩, fun _ => ⟨fun q => ⟨by omega, far (by omega)⟩, fun q4 => ?_⟩⟩⟩⟩⟩⟩⟩⟩⟩
              have bA := avl_bd (s := s) hg (l := i / 6) (t := i % 6) (by omega) hA (by omega) (by omega)
              have bB := dpt_bd (s := s) hg (l := j / 6) (t := j % 6) (by omega) hB (by omega) (by omega)
              have hd : dv N s (i / 6) (i % 6) (j / 6) (j % 6) = if 0 ≤ avl N s (i / 6) (i % 6) then dvo (avl N s (i / 6) (i % 6)) (dpt N s (j / 6) (j % 6)) else 10000 := by
                unfold dv
                by_cases ha : 0 ≤ avl N s (i / 6) (i % 6)
                · rw [if_pos ha, if_pos ⟨q, ⟨hA, by omega⟩, ⟨hB, by omega⟩, ha⟩]
                · rw [if_neg ha, if_neg (fun z => ha z.2.2.2)]
              refine r_arrivalAt hg hN (by omega) hA (by omega) (by omega) (r_departureAt hg hN (by omega) hB (by omega) (by omega) ?_)
              generalize avl N s (i / 6) (i % 6) = a at hd bA ⊢
              generalize dpt N s (j / 6) (j % 6) = d at hd bB ⊢
              unfold dvo at hd
              refine ⟨fun z => ⟨by omega, skip ?_⟩, fun z => ⟨fun z2 => ⟨by omega, skip ?_⟩, fun z2 => ⟨fun z3 => ⟨by omega, skip ?_⟩, fun z3 => ⟨by omega, fun z4 => ⟨by omega, ih2 _ _ ?_ (by omega)⟩, fun z4 => ⟨by omega, ih2 _ _ ?_ (by omega)⟩⟩⟩⟩⟩
              · rw [hd, if_neg (by omega)]
              · rw [hd, if_pos (by omega), if_neg (by omega)]
              · rw [hd, if_pos (by omega), if_neg (by omega)]
              · rw [if_pos (by omega), if_pos (by omega)] at hd
                rw [hw, hd]
                unfold upv at hw ⊢
                (repeat' split at hw) <;> (repeat' split) <;> omega
              · rw [if_pos (by omega), if_pos (by omega)] at hd
                rw [hd]
                unfold upv at hw ⊢
                (repeat' split at hw) <;> (repeat' split) <;> omega
            · repeat' (first | refine And.intro ?_ ?_ | refine imp_i (fun _ => ?_))
              all_goals (first | omega | exact far (by omega))
          · repeat' (first | refine And.intro ?_ ?_ | refine imp_i (fun _ => ?_))
            all_goals (first | omega | exact far (by omega))
      refine inner 0 (Nat.zero_le _) _ 0 ?_ rfl
      have t1 := minI_top (fun a => minI (fun b => dv N s (a / 6) (a % 6) (b / 6) (b % 6)) 48) k
      rw [hv]
      show _ = upv (min (minI (fun a => minI (fun b => dv N s (a / 6) (a % 6) (b / 6) (b % 6)) 48) k) 10000)
      rw [show min (minI (fun a => minI (fun b => dv N s (a / 6) (a % 6) (b / 6) (b % 6)) 48) k) 10000 = minI (fun a => minI (fun b => dv N s (a / 6) (a % 6) (b / 6) (b % 6)) 48) k by omega]
  exact key 0 (Nat.zero_le _) _ 0 rfl rfl
