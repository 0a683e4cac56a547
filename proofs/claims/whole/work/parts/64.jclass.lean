/-! JOURNEYS: THE CLASS -/
theorem up2_app (M : Mem) (a i v b j : Int) : up2 M a i v b j = if b = a ∧ j = i then v else M b j := rfl
set_option maxHeartbeats 4000000 in
theorem c_price {M : Mem} {Q : Int → Mem → Prop} {k n : Int} (hn : 0 ≤ n ∧ n ≤ 6) (hQ : Q (prc k n) M) : Calls mX1_price [(0, k), (0, n)] S0 M Q := by
  have hv : ∀ v, v = prc k n → Q v M := fun v h => h ▸ hQ
  refine E_Kinds_price (B_Kinds_price_0 ?_)
  repeat' (first | refine And.intro ?_ ?_ | refine imp_i (fun _ => ?_))
  all_goals (first | omega | exact hv _ (by unfold prc; (repeat' split) <;> omega))
theorem bdN_s (N : Net) (ah : Int → Int) (l t : Int) (i : Nat) : bdN N ah l t (i + 1) = if ah (N.sp l i) ≤ N.mi l t i then (i : Int) else bdN N ah l t i := rfl
theorem c_findBeginning {N : Net} {M : Mem} {Q : Int → Mem → Prop} {l t p a : Int} {ah : Int → Int} (hg : Good N) (hN : CH N 0 M) (l0 : 0 ≤ l) (l1 : l < N.ln) (t0 : 0 ≤ t) (t1 : t < N.tr l) (p0 : 0 ≤ p) (p1 : p < N.sz l) (hA : isA a 12) (hah : ∀ s, 0 ≤ s → s < 12 → M a s = ah s) (hQ0 : bdN N ah l t p.toNat = -1 → Q 0 M) (hQ1 : 0 ≤ bdN N ah l t p.toNat → Q 1 (up2 (up2 (up2 M 246 4 l) 246 5 t) 246 6 (bdN N ah l t p.toNat))) : Calls mX5_findBeginning [(2, 246), (0, l), (0, t), (0, p), (2, a)] S0 M Q := by
  have hk := hg.lineK l0 l1
  refine E_Route_findBeginning (B_Route_findBeginning_0 hA ⟨by omega, ?_⟩)
  have key : ∀ k : Nat, (k : Int) ≤ p → bdN N ah l t p.toNat = bdN N ah l t k → ∀ i, i = (k : Int) - 1 → AW mX5_findBeginning 5 [(2, 246), (0, l), (0, t), (9, 0), (2, a), (0, i)] M Q := by
    intro k
    induction k with
    | zero =>
      intro _ he i hi
      exact B_Route_findBeginning_5 hA ⟨fun _ => hQ0 he, fun q => absurd (by omega) q⟩
    | succ k ih =>
      intro hkp he i hi
      have hs := hg.stop l0 l1 (i := i) (by omega) (by omega)
      refine B_Route_findBeginning_5 hA ⟨fun q => absurd q (by omega), fun _ => ?_⟩
      rw [hN.stop l0 l1 (i := i) (by omega) (by omega) rfl, hah _ hs.1 hs.2, hN.min l0 l1 t0 t1 (i := i) (by omega) (by omega) rfl]
      rw [bdN_s, show (k : Int) = i by omega] at he
      refine ⟨by omega, by omega, by omega, by omega, by omega, by omega, fun q => ?_, fun q => ⟨by omega, ih (by omega) ?_ _ (by omega)⟩⟩
      · rw [if_pos q] at he
        have := hQ1 (by omega)
        rw [he] at this
        exact this
      · rw [if_neg q] at he
        exact he
  exact key p.toNat (by omega) rfl _ (by omega)
set_option maxHeartbeats 4000000 in
theorem c_findRide {N : Net} {M : Mem} {Q : Int → Mem → Prop} {fr at_ r s m : Int} (hg : Good N) (hN : CH N 0 M) (hr : r ≤ 6) (hb : ∀ q, 1 ≤ r → 0 ≤ q → q < 12 → M (231 + (r - 1)) q = BS N fr at_ (r - 1) q) (hQ0 : sk N fr at_ r s m = -1 → Q 0 M) (hQ1 : 0 ≤ sk N fr at_ r s m → Q 1 (up2 (up2 (up2 M 246 4 (sk N fr at_ r s m / 6)) 246 5 (sk N fr at_ r s m % 6)) 246 6 (skI N fr at_ r s m))) : Calls mX5_findRide [(2, 246), (0, r), (0, s), (0, m)] S0 M Q := by
  have h0 := hg.1
  have hln := hN.lines
  refine E_Route_findRide (B_Route_findRide_0 ⟨fun q1 => ⟨by omega, by omega, ?_⟩, fun q => hQ0 (by unfold sk; rw [if_pos (by omega)])⟩)
  have hA := rw_230 (r - 1) (by omega) (by omega)
  have hsk : sk N fr at_ r s m = ft (hR N fr at_ r s m) (6 * N.ln.toNat) := by unfold sk; rw [if_neg (by omega)]
  have key : ∀ k : Nat, k ≤ N.ln.toNat → ∀ i, i = (k : Int) → (∀ j, 0 ≤ j → j < 6 * i → hR N fr at_ r s m j = false) → AW mX5_findRide 23 [(2, 246), (9, 0), (0, s), (0, m), (2, 231 + (r - 1)), (0, i), (9, 0), (9, 0)] M Q := by
    refine up_ind _ ?_ ?_
    · intro i hi hno
      exact B_Route_findRide_23 hA ⟨fun _ => hQ0 (hsk.trans (ft_no (fun j j0 j1 => hno j j0 (by omega)))), fun q => absurd (by omega) q⟩
    · intro k hk ih i hi hno
      have hkk := hg.lineK (l := i) (by omega) (by omega)
      have hp := plc_cases hg (l := i) (by omega) (by omega) s
      have htr := (hN.line (l := i) (by omega) (by omega)).2.2
      refine B_Route_findRide_23 hA ⟨fun q => absurd q (by omega), fun _ => c_placeOf hg hN (by omega) (by omega) ⟨fun q => ?_, fun q => ⟨by omega, ih _ (by omega) (fun j j0 j1 => ?_)⟩⟩⟩
      rotate_left
      · by_cases hj : j < 6 * i
        · exact hno j j0 hj
        · refine decide_eq_false (fun z => ?_)
          have e : j / 6 = i := by omega
          rw [e] at z
          rcases rA_cases fr at_ r s m (j % 6) hg (l := i) (by omega) (by omega) with w | ⟨w1, w2, w3⟩
          · omega
          · omega
      have inner : ∀ n : Nat, n ≤ (N.tr i).toNat → ∀ t, t = (n : Int) → (∀ j, 0 ≤ j → j < 6 * i + t → hR N fr at_ r s m j = false) → AW mX5_findRide 59 [(2, 246), (9, 0), (0, s), (0, m), (2, 231 + (r - 1)), (0, i), (0, plc N i s), (0, t)] M Q := by
        refine up_ind _ ?_ ?_
        · intro t ht hno2
          refine B_Route_findRide_59 hA ⟨by omega, fun _ => ⟨by omega, ih _ (by omega) (fun j j0 j1 => ?_)⟩, fun q => absurd (by omega) q⟩
          by_cases hj : j < 6 * i + t
          · exact hno2 j j0 hj
          · refine decide_eq_false (fun z => ?_)
            have e : j / 6 = i := by omega
            rw [e] at z
            omega
        · intro n hn ih2 t ht hno2
          have no : rA N fr at_ r s m i t = -1 → AW mX5_findRide 59 [(2, 246), (9, 0), (0, s), (0, m), (2, 231 + (r - 1)), (0, i), (0, plc N i s), (0, t + 1)] M Q := by
            intro hra
            refine ih2 _ (by omega) (fun j j0 j1 => ?_)
            by_cases hj : j < 6 * i + t
            · exact hno2 j j0 hj
            · refine decide_eq_false (fun z => ?_)
              have e : j / 6 = i := by omega
              have e2 : j % 6 = t := by omega
              rw [e, e2] at z
              omega
          refine B_Route_findRide_59 hA ⟨by omega, fun q => absurd q (by omega), fun _ => ⟨by omega, by omega, by omega, ?_⟩⟩
          rw [hN.run (l := i) (t := t) (by omega) (by omega) (by omega) (by omega) rfl, hN.min (l := i) (t := t) (i := plc N i s) (by omega) (by omega) (by omega) (by omega) (by omega) (by omega) rfl]
          refine ⟨fun z => ⟨by omega, no ?_⟩, fun z => ⟨by omega, fun z2 => ?_, fun z2 => ⟨by omega, no ?_⟩⟩⟩
          · unfold rA
            rw [if_neg (fun y => z y.1)]
          · have hra : rA N fr at_ r s m i t = bdN N (fun q => BS N fr at_ (r - 1) q) i t (plc N i s).toNat := by
              unfold rA
              rw [if_pos ⟨z, by omega, z2⟩]
            refine c_findBeginning (ah := fun q => BS N fr at_ (r - 1) q) hg hN (by omega) (by omega) (by omega) (by omega) (by omega) (by omega) hA (fun q q0 q2 => hb q q1 q0 q2) (fun h => ⟨fun _ => ⟨by omega, no (hra.trans h)⟩, fun z => absurd rfl z⟩) (fun h => ⟨fun z => absurd z (by omega), fun _ => ?_⟩)
            have e : sk N fr at_ r s m = 6 * i + t := by
              rw [hsk]
              refine ft_at (by omega) (by omega) (decide_eq_true ?_) hno2
              rw [show (6 * i + t) / 6 = i by omega, show (6 * i + t) % 6 = t by omega, hra]
              exact ⟨by omega, by omega, h⟩
            have e2 : skI N fr at_ r s m = bdN N (fun q => BS N fr at_ (r - 1) q) i t (plc N i s).toNat := by
              show rA N fr at_ r s m (sk N fr at_ r s m / 6) (sk N fr at_ r s m % 6) = _
              rw [e, show (6 * i + t) / 6 = i by omega, show (6 * i + t) % 6 = t by omega, hra]
            have hx := hQ1 (by omega)
            rw [e2, e, show (6 * i + t) / 6 = i by omega, show (6 * i + t) % 6 = t by omega] at hx
            exact hx
          · unfold rA
            rw [if_neg (fun y => z2 y.2.2)]
      exact inner 0 (Nat.zero_le _) 0 rfl (fun j j0 j1 => hno j j0 (by omega))
  exact key 0 (Nat.zero_le _) 0 rfl (fun j j0 j1 => absurd j1 (by omega))
set_option maxHeartbeats 8000000 in
theorem c_addRide {N : Net} {M : Mem} {Q : Int → Mem → Prop} {l t i s c : Int} (hg : Good N) (hN : CH N 0 M) (l0 : 0 ≤ l) (l1 : l < N.ln) (t0 : 0 ≤ t) (t1 : t < N.tr l) (i0 : 0 ≤ i) (ip : i < plc N l s) (hp : plc N l s < N.sz l) (h4 : M 246 4 = l) (h5 : M 246 5 = t) (h6 : M 246 6 = i) (hc : M 246 3 = c) (c0 : 0 ≤ c) (c1 : c < 13)
    (hQ : ∀ M1, (∀ a j, ¬ (a = 246 ∧ j = 3) → ¬ (a = 248 + c) → M1 a j = M a j) → M1 246 3 = c + 1 → (∀ w, 0 ≤ w → w < 7 → M1 (248 + c) w = rlg N l t i s (N.mi l t (plc N l s)) w) → Q (N.sp l i) M1) : Calls mX5_addRide [(2, 246), (0, s)] S0 M Q := by
  have hk := hg.lineK l0 l1
  have a1 : ((246 : Int) = 248 + c) = False := eq_false (by omega)
  have a2 : (6 + l = 246) = False := eq_false (by omega)
  have a3 : (6 + l = 248 + c) = False := eq_false (by omega)
  have a4 : (15 + (l * 6 + t) = 246) = False := eq_false (by omega)
  have a5 : (15 + (l * 6 + t) = 248 + c) = False := eq_false (by omega)
  have a6 : ((2 : Int) = 248 + c) = False := eq_false (by omega)
  refine E_Route_addRide (B_Route_addRide_0 ?_)
  rw [h4]
  refine c_placeOf hg hN l0 l1 ⟨fun q => absurd q (by omega), fun _ => ⟨fun q => ?_, fun q => absurd (by omega) q⟩⟩
  simp (config := {decide := true}) only [hc, h4, h5, h6, up2_app, a1, a2, a3, a4, a5, a6, false_and, and_false, if_false, true_and, if_true, and_true, and_self]
  rw [(hN.line l0 l1).1, hN.stop l0 l1 (i := i) i0 (by omega) rfl, hN.min l0 l1 t0 t1 (i := i) i0 (by omega) rfl, hN.min l0 l1 t0 t1 (i := plc N l s) (by omega) (by omega) rfl]
  repeat (refine And.intro (by omega) ?_)
  refine c_price (by omega) ?_
  have e2 : up2 (up2 (up2 (up2 (up2 (up2 (up2 M 246 3 (c + 1)) (248 + c) 0 l) (248 + c) 1 t) (248 + c) 2 (N.sp l i)) (248 + c) 3 s) (248 + c) 4 (N.mi l t i)) (248 + c) 5 (N.mi l t (plc N l s)) (248 + c) 2 = N.sp l i := by
    rw [up2_ni (by omega), up2_ni (by omega), up2_ni (by omega), up2_at ⟨rfl, rfl⟩]
  rw [e2]
  refine hQ _ (fun a j q1 q2 => ?_) ?_ (fun w w0 w1 => ?_)
  · rw [up2_ne q2, up2_ne q2, up2_ne q2, up2_ne q2, up2_ne q2, up2_ne q2, up2_ne q2, up2_ni q1]
  · rw [up2_ne (by omega), up2_ne (by omega), up2_ne (by omega), up2_ne (by omega), up2_ne (by omega), up2_ne (by omega), up2_ne (by omega), up2_at ⟨rfl, rfl⟩]
  · simp (config := {decide := true}) only [up2_app, a1, true_and]
    unfold rlg
    (repeat' split) <;> first | rfl | omega
/-- nothing but the journey has changed, and of its rows none ahead of c -/
def JF (c : Int) (M M1 : Mem) : Prop := ∀ a i, ¬ (a = 246 ∧ 3 ≤ i ∧ i ≤ 6) → ¬ (248 + c ≤ a ∧ a ≤ 260) → M1 a i = M a i
theorem JF.rf {c : Int} {M : Mem} : JF c M M := fun _ _ _ _ => rfl
theorem JF.tr {c d : Int} {M M1 M2 : Mem} (h : JF c M M1) (h2 : JF d M1 M2) (hcd : c ≤ d) : JF c M M2 := fun a i q q2 => (h2 a i q (by omega)).trans (h a i q q2)
theorem JF.ch {N : Net} {c : Int} {M M1 : Mem} (h : JF c M M1) (c0 : 0 ≤ c) (hg : Good N) (hN : CH N 0 M) : CH N 0 M1 := hN.keep hg (fun a i q1 q2 => h a i (by omega) (by omega))
/-- the rows from c on hold these legs -/
def JR (c : Int) (J : Lgs) (M : Mem) : Prop := M 246 3 = c + J.1 ∧ ∀ k w, 0 ≤ k → k < J.1 → 0 ≤ w → w < 7 → M (248 + (c + k)) w = J.2 k w
theorem jf_n {N : Net} {fr at_ : Int} : ∀ (f : Nat) (r s : Int), r + 1 ≤ f → 0 ≤ (jf N fr at_ f r s).1 ∧ (jf N fr at_ f r s).1 ≤ 2 * f
  | 0, _, _, _ => ⟨Int.le_refl _, Int.le_refl _⟩
  | f + 1, r, s, h => by
    rw [jf_s]
    split
    · exact ⟨Int.le_refl _, by show (0 : Int) ≤ _; omega⟩
    · split
      · have := jf_n (N := N) (fr := fr) (at_ := at_) f (r - 1) (nxS N fr at_ r s (BS N fr at_ r s)) (by omega)
        show 0 ≤ (jf N fr at_ f (r - 1) (nxS N fr at_ r s (BS N fr at_ r s))).1 + 1 ∧ (jf N fr at_ f (r - 1) (nxS N fr at_ r s (BS N fr at_ r s))).1 + 1 ≤ _
        omega
      · split
        · show 0 ≤ (0 : Int) + 1 ∧ (0 : Int) + 1 ≤ _
          omega
        · have := jf_n (N := N) (fr := fr) (at_ := at_) f (r - 1) (nxS N fr at_ r (wf N fr at_ r s (BS N fr at_ r s)) (BS N fr at_ r s - N.pt (wf N fr at_ r s (BS N fr at_ r s)) s)) (by omega)
          show 0 ≤ (jf N fr at_ f (r - 1) (nxS N fr at_ r (wf N fr at_ r s (BS N fr at_ r s)) (BS N fr at_ r s - N.pt (wf N fr at_ r s (BS N fr at_ r s)) s))).1 + 1 + 1 ∧ (jf N fr at_ f (r - 1) (nxS N fr at_ r (wf N fr at_ r s (BS N fr at_ r s)) (BS N fr at_ r s - N.pt (wf N fr at_ r s (BS N fr at_ r s)) s))).1 + 1 + 1 ≤ _
          omega
