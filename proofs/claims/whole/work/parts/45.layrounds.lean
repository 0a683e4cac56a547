/-- rows of the reference's search, the first so many of them -/
def RowsR (N : Net) (ll lt sh fr at_ : Int) (k : Nat) (M : Mem) : Prop := (∀ j : Nat, j < k → ∀ s, 0 ≤ s → s < 12 → M 283 (12 * (j : Int) + s) = upv (rdR N ll lt sh fr at_ j s)) ∧ ∀ j : Nat, j < k → ∀ s, 0 ≤ s → s < 12 → M 284 (12 * (j : Int) + s) = upv (bst N ll lt sh fr at_ j s)
theorem rdR_0 {N : Net} {ll lt sh fr at_ : Int} (hg : Good N) (ha0 : 0 ≤ at_) (ha : at_ ≤ 2000) (hsf : sh ≠ fr) (r : Nat) (s : Int) (s0 : 0 ≤ s) (s1 : s < 12) : (0 ≤ rdR N ll lt sh fr at_ r s ∧ rdR N ll lt sh fr at_ r s ≤ 10000) ∧ (rdR N ll lt sh fr at_ r s ≠ 10000 → rdR N ll lt sh fr at_ r s ≤ 9000) := by
  rw [(rdR_eq hg ha0 ha hsf r).1 s s0 s1]
  unfold beg
  have h1 := rdn_bd (ll := ll) (lt := lt) (sh := sh) (fr := fr) (at_ := at_) hg r s
  have h2 := rdn_90 (ll := ll) (lt := lt) (sh := sh) (fr := fr) (at_ := at_) hg r s
  split <;> omega
set_option maxHeartbeats 8000000 in
theorem r_layRounds {N : Net} {M : Mem} {Q : Int → Mem → Prop} {ll lt sh fr at_ : Int} (hg : Good N) (hN : RH N M) (hlost : ∀ l t, 0 ≤ l → 0 ≤ t → t < 6 → (M 275 9 = 6 * l + t ↔ l = ll ∧ t = lt)) (hsh : M 275 10 = sh) (hsf : sh ≠ fr) (f0 : 0 ≤ fr) (f1 : fr < 12) (ha0 : 0 ≤ at_) (ha : at_ ≤ 2000)
    (hQ : ∀ M1, frR M M1 → M1 275 11 = fr → RowsR N ll lt sh fr at_ 7 M1 → Q 0 M1) : Calls mX9_layRounds [(2, 275), (0, fr), (0, at_)] S0 M Q := by
  obtain ⟨⟨n0, n1⟩, -, -⟩ := id hg
  have eqs := rdR_eq (ll := ll) (lt := lt) hg ha0 ha hsf
  have hRH : ∀ M1 : Mem, frR M M1 → RH N M1 := fun M1 h => hN.keep (fun a i q => h a i (by omega) (by omega) (by omega))
  have h9 : ∀ M1 : Mem, frR M M1 → M1 275 9 = M 275 9 := fun M1 h => h _ _ (by omega) (by omega) (by omega)
  have h10 : ∀ M1 : Mem, frR M M1 → M1 275 10 = sh := fun M1 h => (h _ _ (by omega) (by omega) (by omega)).trans hsh
  refine E_R_layRounds (B_R_layRounds_0 ?_)
  -- the walks of round k
  have walks : ∀ (k : Nat) (M1 : Mem) (P : Int → Mem → Prop), k ≤ 6 → frR M M1 → M1 275 11 = fr → RowsR N ll lt sh fr at_ k M1 → (∀ s, 0 ≤ s → s < 12 → M1 283 (12 * (k : Int) + s) = upv (rdR N ll lt sh fr at_ k s)) → (∀ r M2, frR M M2 → M2 275 11 = fr → RowsR N ll lt sh fr at_ (k + 1) M2 → P r M2) → Calls mX9_layWalks [(2, 275), (0, (k : Int))] S0 M1 P := by
    intro k M1 P hk hf hfr hro hr hP
    refine r_layWalks (e := rdR N ll lt sh fr at_ k) hg (hRH M1 hf) (by omega) (by omega) (h10 M1 hf) hr (fun s s0 s1 => (rdR_0 hg ha0 ha hsf k s s0 s1).1) (fun s s0 s1 => (rdR_0 hg ha0 ha hsf k s s0 s1).2) (fun M2 hf2 hr2 => hP _ _ (fun a i a1 a2 a3 => (hf2 a i (by omega)).trans (hf a i a1 a2 a3)) ((hf2 _ _ (by omega)).trans hfr) ⟨fun j hj s s0 s1 => ?_, fun j hj s s0 s1 => ?_⟩)
    · rw [hf2 _ _ (by omega)]
      by_cases hjk : j = k
      · subst hjk
        exact hr s s0 s1
      · exact hro.1 j (by omega) s s0 s1
    · by_cases hjk : j = k
      · subst hjk
        rw [hr2 s s0 s1, (eqs j).2 s s0 s1]
      · rw [hf2 _ _ (by omega)]
        exact hro.2 j (by omega) s s0 s1
  -- the end: the row of the stop itself
  have last : ∀ k : Nat, k ≤ 7 → ∀ M1 : Mem, frR M M1 → M1 275 11 = fr → RowsR N ll lt sh fr at_ 7 M1 → AW mX9_layRounds 163 [(2, 275), (0, fr), (0, at_), (0, (k : Int)), (9, 0), (9, 0)] M1 Q := by
    refine up_ind _ ?_ ?_
    · intro M1 hf hfr hro
      exact B_R_layRounds_163 ⟨fun _ => hQ M1 hf hfr hro, fun q => absurd (by omega) q⟩
    · intro k hk ih M1 hf hfr hro
      refine B_R_layRounds_163 ⟨fun q => absurd q (by omega), fun _ => ⟨by omega, by omega, by omega, by omega, ?_⟩⟩
      rw [show (k : Int) + 1 = ((k + 1 : Nat) : Int) by omega]
      refine ih _ (fun a i a1 a2 a3 => by rw [up2_ne a2]; exact hf a i a1 a2 a3) (by rw [up2_ne (by omega)]; exact hfr) ⟨fun j hj s s0 s1 => by rw [up2_ne (by omega)]; exact hro.1 j hj s s0 s1, fun j hj s s0 s1 => ?_⟩
      unfold up2
      by_cases h : j = k ∧ s = fr
      · obtain ⟨rfl, rfl⟩ := h
        rw [if_pos ⟨rfl, rfl⟩]
        unfold bst arv
        rw [if_neg (fun q => hsf q.symm), if_pos rfl, upv_id (by omega)]
      · rw [if_neg (fun q => h (by have := q.2; omega))]
        exact hro.2 j hj s s0 s1
  -- the rounds
  have rounds : ∀ k : Nat, k ≤ 7 → 1 ≤ k → ∀ M1 : Mem, frR M M1 → M1 275 11 = fr → RowsR N ll lt sh fr at_ k M1 → AW mX9_layRounds 43 [(2, 275), (0, fr), (0, at_), (0, (k : Int)), (9, 0), (9, 0)] M1 Q := by
    refine up_ind _ ?_ ?_
    · intro _ M1 hf hfr hro
      exact B_R_layRounds_43 ⟨fun _ => last 0 (by omega) M1 hf hfr hro, fun q => absurd (by omega) q⟩
    · intro k hk ih k1 M1 hf hfr hro
      obtain ⟨j, rfl⟩ : ∃ j, k = j + 1 := ⟨k - 1, by omega⟩
      refine B_R_layRounds_43 ⟨fun q => absurd q (by omega), fun _ => ?_⟩
      have e1 : ((j + 1 : Nat) : Int) = (j : Int) + 1 := by omega
      -- all lines
      have linesL : ∀ l : Nat, l ≤ N.ln.toNat → ∀ M2 : Mem, frR M M2 → M2 275 11 = fr → RowsR N ll lt sh fr at_ (j + 1) M2 → (∀ s, 0 ≤ s → s < 12 → M2 283 (12 * ((j + 1 : Nat) : Int) + s) = upv (rdL N ll lt sh (bst N ll lt sh fr at_ j) (rdR N ll lt sh fr at_ j) l s)) → AW mX9_layRounds 94 [(2, 275), (0, fr), (0, at_), (0, ((j + 1 : Nat) : Int)), (0, (l : Int)), (9, 0)] M2 Q := by
        refine up_ind _ ?_ ?_
        · intro M2 hf2 hfr2 hro2 hr2
          refine B_R_layRounds_94 ⟨fun _ => ?_, fun q => absurd (by rw [(hRH M2 hf2).1]; omega) q⟩
          refine walks (j + 1) M2 _ (by omega) hf2 hfr2 hro2 (fun s s0 s1 => ?_) (fun r M3 hf3 hfr3 hro3 => ⟨by omega, ?_⟩)
          · rw [hr2 s s0 s1]
            congr 1
            exact (rdL_cong hg (fun q q0 q1 => (eqs j).2 q q0 q1) _ (by omega) s).symm
          · rw [show ((j + 1 : Nat) : Int) + 1 = ((j + 1 + 1 : Nat) : Int) by omega]
            exact ih (by omega) M3 hf3 hfr3 hro3
        · intro l hl ihl M2 hf2 hfr2 hro2 hr2
          have l0 : (0 : Int) ≤ l := by omega
          have l1 : (l : Int) < N.ln := by omega
          obtain ⟨k1, k2, k3, k4⟩ := hg.lineK l0 l1
          refine B_R_layRounds_94 ⟨fun q => absurd q (by rw [(hRH M2 hf2).1]; omega), fun _ => ?_⟩
          have trips : ∀ t : Nat, t ≤ (N.tr l).toNat → ∀ M3 : Mem, frR M M3 → M3 275 11 = fr → RowsR N ll lt sh fr at_ (j + 1) M3 → (∀ s, 0 ≤ s → s < 12 → M3 283 (12 * ((j + 1 : Nat) : Int) + s) = upv (rdT N ll lt sh (bst N ll lt sh fr at_ j) (rdL N ll lt sh (bst N ll lt sh fr at_ j) (rdR N ll lt sh fr at_ j) l) l t s)) → AW mX9_layRounds 106 [(2, 275), (0, fr), (0, at_), (0, ((j + 1 : Nat) : Int)), (0, (l : Int)), (0, (t : Int))] M3 Q := by
            refine up_ind _ ?_ ?_
            · intro M3 hf3 hfr3 hro3 hr3
              refine B_R_layRounds_106 ⟨by omega, fun _ => ⟨by omega, ?_⟩, fun q => absurd (by rw [((hRH M3 hf3).line l0 l1).2.2]; omega) q⟩
              rw [show (l : Int) + 1 = ((l + 1 : Nat) : Int) by omega]
              exact ihl M3 hf3 hfr3 hro3 hr3
            · intro t ht iht M3 hf3 hfr3 hro3 hr3
              have t0 : (0 : Int) ≤ t := by omega
              have t1 : (t : Int) < N.tr l := by omega
              have e2 : ((t + 1 : Nat) : Int) = (t : Int) + 1 := by omega
              have hR3 := hRH M3 hf3
              have hll := hlost l t l0 t0 (by omega)
              have skip : ¬ (N.rn l t = 1 ∧ ¬ ((l : Int) = ll ∧ (t : Int) = lt)) → AW mX9_layRounds 106 [(2, 275), (0, fr), (0, at_), (0, ((j + 1 : Nat) : Int)), (0, (l : Int)), (0, (t : Int) + 1)] M3 Q := by
                intro h
                rw [← e2]
                refine iht M3 hf3 hfr3 hro3 (fun s s0 s1 => ?_)
                rw [rdT_s, if_neg h]
                exact hr3 s s0 s1
              have hrun := hg.trip l0 l1 t0 t1
              have r01 : N.rn l t = 0 ∨ N.rn l t = 1 := by
                rw [hrun.1]
                unfold runF
                repeat' split
                all_goals omega
              refine B_R_layRounds_106 ⟨by omega, fun q => absurd q (by rw [(hR3.line l0 l1).2.2]; omega), fun _ => ?_⟩
              refine r_isRunning hg hR3 l0 l1 t0 t1 ⟨fun h => ⟨by omega, skip (fun q => by omega)⟩, fun h => ⟨by omega, by omega, fun h2 => ⟨by omega, skip (fun q => q.2 (hll.mp (by rw [← h9 M3 hf3]; omega)))⟩, fun h2 => ?_⟩⟩
              have hride : N.rn l t = 1 ∧ ¬ ((l : Int) = ll ∧ (t : Int) = lt) := ⟨by omega, fun q => h2 (by rw [h9 M3 hf3, hll.mpr q])⟩
              have hbd : ∀ s, rdT N ll lt sh (bst N ll lt sh fr at_ j) (rdL N ll lt sh (bst N ll lt sh fr at_ j) (rdR N ll lt sh fr at_ j) l) l t s ≤ 10000 :=
                rdT_pr (P := fun v => v ≤ 10000) hg l0 l1 (fun t i t0 t1 i0 i1 => by have := hg.min l0 l1 t0 t1 i0 i1; omega) (rdL_pr (P := fun v => v ≤ 10000) hg (fun l t i l0 l1 t0 t1 i0 i1 => by have := hg.min l0 l1 t0 t1 i0 i1; omega) (rdR_le hg ha j) l (by omega)) t (by omega)
              refine r_layTrip (ah := bst N ll lt sh fr at_ j) hg hR3 l0 l1 t0 t1 (by omega) (by omega) (h10 M3 hf3) (fun s s0 s1 => ?_) hr3 (fun s s0 s1 => bst_le hg ha j) (fun s _ _ => hbd s) (fun s s0 s1 hs => ?_) (fun M4 hf4 hr4 => ⟨by omega, ?_⟩)
              · rw [show 12 * (((j + 1 : Nat) : Int) - 1) + s = 12 * (j : Int) + s by omega]
                exact hro3.2 j (by omega) s s0 s1
              · unfold bst arv
                rw [if_pos hs]
              · rw [← e2]
                refine iht M4 (fun a i a1 a2 a3 => (hf4 a i (by omega)).trans (hf3 a i a1 a2 a3)) ((hf4 _ _ (by omega)).trans hfr3) ⟨fun i hi s s0 s1 => by rw [hf4 _ _ (by omega)]; exact hro3.1 i hi s s0 s1, fun i hi s s0 s1 => by rw [hf4 _ _ (by omega)]; exact hro3.2 i hi s s0 s1⟩ (fun s s0 s1 => ?_)
                rw [rdT_s, if_pos hride]
                exact hr4 s s0 s1
          exact trips 0 (Nat.zero_le _) M2 hf2 hfr2 hro2 hr2
      -- the row is copied
      have copy : ∀ i : Nat, i ≤ 12 → ∀ M2 : Mem, frR M M2 → M2 275 11 = fr → RowsR N ll lt sh fr at_ (j + 1) M2 → (∀ s : Int, 0 ≤ s → s < i → M2 283 (12 * ((j + 1 : Nat) : Int) + s) = upv (rdR N ll lt sh fr at_ j s)) → AW mX9_layRounds 52 [(2, 275), (0, fr), (0, at_), (0, ((j + 1 : Nat) : Int)), (0, (i : Int)), (9, 0)] M2 Q := by
        refine up_ind _ ?_ ?_
        · intro M2 hf2 hfr2 hro2 hr2
          exact B_R_layRounds_52 ⟨fun _ => linesL 0 (Nat.zero_le _) M2 hf2 hfr2 hro2 (fun s s0 s1 => hr2 s s0 (by omega)), fun q => absurd (by omega) q⟩
        · intro i hi ihi M2 hf2 hfr2 hro2 hr2
          refine B_R_layRounds_52 ⟨fun q => absurd q (by omega), fun _ => ⟨by omega, by omega, by omega, by omega, by omega, by omega, by omega, by omega, ?_⟩⟩
          rw [show (i : Int) + 1 = ((i + 1 : Nat) : Int) by omega]
          refine ihi _ (fun a z a1 a2 a3 => by rw [up2_ne a1]; exact hf2 a z a1 a2 a3) (by rw [up2_ne (by omega)]; exact hfr2) ⟨fun z hz s s0 s1 => ?_, fun z hz s s0 s1 => by rw [up2_ne (by omega)]; exact hro2.2 z hz s s0 s1⟩ (fun s s0 s1 => ?_)
          · unfold up2
            rw [if_neg (fun q => by have := q.2; omega)]
            exact hro2.1 z hz s s0 s1
          · unfold up2
            by_cases hs : s = i
            · subst hs
              rw [if_pos ⟨rfl, rfl⟩, show 12 * (((j + 1 : Nat) : Int) - 1) + (i : Int) = 12 * (j : Int) + i by omega]
              exact hro2.1 j (by omega) i (by omega) (by omega)
            · rw [if_neg (fun q => hs (by have := q.2; omega))]
              exact hr2 s s0 (by omega)
      exact copy 0 (Nat.zero_le _) M1 hf hfr hro (fun s s0 s1 => by omega)
  -- the first row
  have first : ∀ i : Nat, i ≤ 12 → ∀ M1 : Mem, frR M M1 → M1 275 11 = fr → (∀ s : Int, 0 ≤ s → s < i → M1 283 s = upv (rdR N ll lt sh fr at_ 0 s)) → AW mX9_layRounds 7 [(2, 275), (0, fr), (0, at_), (0, (i : Int)), (9, 0), (9, 0)] M1 Q := by
    refine up_ind _ ?_ ?_
    · intro M1 hf hfr hr
      refine B_R_layRounds_7 ⟨fun _ => ?_, fun q => absurd (by omega) q⟩
      exact walks 0 M1 _ (by omega) hf hfr ⟨fun j hj => absurd hj (by omega), fun j hj => absurd hj (by omega)⟩ (fun s s0 s1 => by rw [show 12 * ((0 : Nat) : Int) + s = s by omega]; exact hr s s0 (by omega)) (fun r M2 hf2 hfr2 hro2 => rounds 1 (by omega) (by omega) M2 hf2 hfr2 hro2)
    · intro i hi ihi M1 hf hfr hr
      have put : ∀ v, v = upv (rdR N ll lt sh fr at_ 0 i) → AW mX9_layRounds 7 [(2, 275), (0, fr), (0, at_), (0, (i : Int) + 1), (9, 0), (9, 0)] (up2 M1 283 i v) Q := by
        intro v hv
        rw [show (i : Int) + 1 = ((i + 1 : Nat) : Int) by omega]
        refine ihi _ (fun a z a1 a2 a3 => by rw [up2_ne a1]; exact hf a z a1 a2 a3) (by rw [up2_ne (by omega)]; exact hfr) (fun s s0 s1 => ?_)
        unfold up2
        by_cases hs : s = i
        · subst hs
          rw [if_pos ⟨rfl, rfl⟩]
          exact hv
        · rw [if_neg (fun q => hs q.2)]
          exact hr s s0 (by omega)
      refine B_R_layRounds_7 ⟨fun q => absurd q (by omega), fun _ => ⟨fun h => ⟨by omega, by omega, put _ ?_⟩, fun h => ⟨by omega, by omega, put _ ?_⟩⟩⟩
      · show _ = upv (if (i : Int) = fr then at_ else 10000)
        rw [if_neg h]
        rfl
      · show _ = upv (if (i : Int) = fr then at_ else 10000)
        rw [if_pos h, upv_id (by omega)]
  exact first 0 (Nat.zero_le _) _ (fun a i a1 a2 a3 => by unfold up2; rw [if_neg a3]) (by unfold up2; rw [if_pos ⟨rfl, rfl⟩]) (fun s s0 s1 => by omega)
