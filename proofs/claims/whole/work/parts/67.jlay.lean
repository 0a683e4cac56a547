/-! JOURNEYS: THE REFERENCE, walks and the whole -/
set_option maxHeartbeats 8000000 in
theorem r_walkedFrom {N : Net} {M : Mem} {Q : Int → Mem → Prop} {fr at_ r s m : Int} (hg : Good N) (hM : JM N fr at_ M) (hat : 0 ≤ at_ ∧ at_ ≤ 2000) (f0 : 0 ≤ fr) (f1 : fr < 12) (r6 : r ≤ 6) (s0 : 0 ≤ s) (s1 : s < 12) (hm : 0 ≤ m ∧ m ≤ 10000) (hQ : ∀ M1, (∀ a i, ¬ (a = 275 ∧ 22 ≤ i ∧ i ≤ 24) → M1 a i = M a i) → Q (wf N fr at_ r s m) M1) : Calls mX9_walkedFrom [(2, 275), (0, s), (0, m), (0, r)] S0 M Q := by
  refine E_R_walkedFrom (B_R_walkedFrom_0 ?_)
  have key : ∀ k : Nat, k ≤ 12 → ∀ v p M1, p = (k : Int) - 1 → (∀ a i, ¬ (a = 275 ∧ 22 ≤ i ∧ i ≤ 24) → M1 a i = M a i) → ((v = -1 ∧ ∀ q, p < q → q < 12 → hW N fr at_ r s m q = false) ∨ (p < v ∧ v < 12 ∧ hW N fr at_ r s m v = true ∧ ∀ q, p < q → q < v → hW N fr at_ r s m q = false)) → AW mX9_walkedFrom 7 [(2, 275), (0, s), (0, m), (0, r), (0, v), (0, p), (9, 0), (9, 0)] M1 Q := by
    intro k
    induction k with
    | zero =>
      intro _ v p M1 hp hf hv
      have e : v = wf N fr at_ r s m := by
        rcases hv with ⟨q, q2⟩ | ⟨q1, q2, q3, q4⟩
        · rw [q]
          exact (ft_no (fun j j0 j1 => q2 j (by omega) (by omega))).symm
        · exact (ft_at (by omega) (by omega) q3 (fun j j0 j1 => q4 j (by omega) j1)).symm
      exact B_R_walkedFrom_7 ⟨fun _ => e ▸ hQ M1 hf, fun q => absurd (by omega) q⟩
    | succ k ih =>
      intro hk v p M1 hp hf hv
      have hM1 : JM N fr at_ M1 := hM.rf (c := 0) (fun a i q _ => hf a i (by omega))
      obtain ⟨hN, -, h10, h11, h83, -⟩ := hM1
      have hpt := hg.path (a := p) (b := s) (by omega) (by omega) s0 s1
      have hd := (hg.2.2 s s s0 s1 s0 s1).2.2
      have no : ∀ M2, (∀ a i, ¬ (a = 275 ∧ 22 ≤ i ∧ i ≤ 24) → M2 a i = M a i) → hW N fr at_ r s m p = false → AW mX9_walkedFrom 7 [(2, 275), (0, s), (0, m), (0, r), (0, v), (0, p + (-1)), (9, 0), (9, 0)] M2 Q := by
        intro M2 hf2 h
        refine ih (by omega) _ _ M2 (by omega) hf2 ?_
        rcases hv with ⟨q, q2⟩ | ⟨q1, q2, q3, q4⟩
        · refine Or.inl ⟨q, fun j j0 j1 => ?_⟩
          by_cases e : j = p
          · rw [e]
            exact h
          · exact q2 j (by omega) j1
        · refine Or.inr ⟨by omega, q2, q3, fun j j0 j1 => ?_⟩
          by_cases e : j = p
          · rw [e]
            exact h
          · exact q4 j (by omega) j1
      have yes : ∀ M2, (∀ a i, ¬ (a = 275 ∧ 22 ≤ i ∧ i ≤ 24) → M2 a i = M a i) → hW N fr at_ r s m p = true → AW mX9_walkedFrom 7 [(2, 275), (0, s), (0, m), (0, r), (0, p), (0, p + (-1)), (9, 0), (9, 0)] M2 Q := by
        intro M2 hf2 h
        exact ih (by omega) _ _ M2 (by omega) hf2 (Or.inr ⟨by omega, by omega, h, fun j j0 j1 => absurd j1 (by omega)⟩)
      refine B_R_walkedFrom_7 ⟨fun q => absurd q (by omega), fun _ => ?_⟩
      rw [h10, h11, hN.path (a := p) (b := s) (by omega) (by omega) s0 s1 rfl]
      refine ⟨fun q => ⟨fun z => absurd z (by omega), fun _ => ⟨fun z => absurd z (by omega), fun _ => ⟨by omega, by omega, by omega, fun q2 => ⟨by omega, fun z => absurd z (by omega), fun _ => ⟨fun q3 => ?_, fun q3 => ⟨by omega, ?_⟩⟩⟩, fun q2 => ⟨by omega, by omega, no M1 hf (decide_eq_false (fun z => z.1 q2))⟩⟩⟩⟩, fun q => ⟨by omega, by omega, no M1 hf (decide_eq_false (fun z => z.1 (by rw [q]; exact hd)))⟩⟩
      · refine r_seekRide (fr := fr) (at_ := at_) hg (hM.rf (c := 0) (fun a i q _ => hf a i (by omega))) hat r6 (fun h => ⟨fun _ => ⟨by omega, no M1 hf (decide_eq_false (fun z => ?_))⟩, fun z => absurd rfl z⟩) (fun h => ⟨fun z => absurd z (by omega), fun _ => ⟨by omega, yes _ (fun a i z => ?_) (decide_eq_true ⟨q2, ?_⟩)⟩⟩)
        · have z2 := z.2
          rw [if_neg q3] at z2
          omega
        · rw [up2_ni (by omega), up2_ni (by omega), up2_ni (by omega)]
          exact hf a i z
        · rw [if_neg q3]
          exact h
      · rw [q3, h83]
        have yes' := yes M1 hf
        have no' := no M1 hf
        rw [q3] at yes' no' q2
        refine ⟨fun z => ⟨by omega, no' (decide_eq_false (fun y => ?_))⟩, fun z => ⟨by omega, yes' (decide_eq_true ⟨q2, ?_⟩)⟩⟩
        · have y2 := y.2
          rw [if_pos rfl] at y2
          exact z y2
        · rw [if_pos rfl]
          exact z
  exact key 12 (Nat.le_refl _) (-1) 11 M (by omega) (fun _ _ _ => rfl) (Or.inl ⟨rfl, fun q q0 q1 => absurd q0 (by omega)⟩)
/-- as much of IN as a journey of the reference's asks for -/
def WK (N : Net) (M : Mem) : Prop := Good N ∧ RH N M ∧ M 275 9 = -1 ∧ M 275 10 = -1
theorem IN.wk {N : Net} {M : Mem} (h : IN N M) : WK N M := ⟨h.g, h.r, h.lo.2.2.2.1, h.lo.2.2.2.2⟩
theorem WK.keep {N : Net} {M M1 : Mem} (h : WK N M) (hs : ∀ a i, (a = 275 ∧ (i = 0 ∨ i = 9 ∨ i = 10)) ∨ (276 ≤ a ∧ a ≤ 282) → M1 a i = M a i) : WK N M1 := by
  obtain ⟨h1, h2, h3, h4⟩ := h
  refine ⟨h1, h2.keep (fun a i q => hs a i (by omega)), ?_, ?_⟩
  · rw [hs _ _ (by omega)]; exact h3
  · rw [hs _ _ (by omega)]; exact h4
theorem WK.sc {N : Net} {M M1 : Mem} (h : WK N M) (hs : Sc M M1) : WK N M1 := h.keep (fun a i q => hs a i (by unfold scr; omega))
theorem r_roundsW {N : Net} {M : Mem} {Q : Int → Mem → Prop} {fr at_ : Int} (hI : WK N M) (f0 : 0 ≤ fr) (f1 : fr < 12) (hat : 0 ≤ at_ ∧ at_ ≤ 2000) (hQ : ∀ M1, Sc M M1 → M1 275 11 = fr → (∀ k s, 0 ≤ k → k ≤ 6 → 0 ≤ s → s < 12 → M1 284 (12 * k + s) = upv (BS N fr at_ k s)) → M1 283 fr = at_ → Q 0 M1) : Calls mX9_layRounds [(2, 275), (0, fr), (0, at_)] S0 M Q := by
  obtain ⟨hg, hr, a4, a5⟩ := hI
  refine r_layRounds (ll := -1) (lt := -1) (sh := -1) hg hr (fun l t l0 t0 t1 => by rw [a4]; omega) a5 (by omega) f0 f1 hat.1 hat.2 (fun M1 hf h11 hro => hQ M1 (fun a i q => hf a i (by unfold scr at q; omega) (by unfold scr at q; omega) (by unfold scr at q; omega)) h11 (fun k s k0 k1 s0 s1 => ?_) ?_)
  · have := hro.2 k.toNat (by omega) s s0 s1
    rw [show ((k.toNat : Nat) : Int) = k by omega] at this
    exact this
  · have := hro.1 0 (by omega) fr f0 f1
    rw [show 12 * ((0 : Nat) : Int) + fr = fr by omega] at this
    rw [this]
    show upv (if fr = fr then at_ else 10000) = at_
    rw [if_pos rfl, upv_id (by omega)]
set_option maxHeartbeats 8000000 in
theorem r_layJourneyW {N : Net} {M : Mem} {Q : Int → Mem → Prop} {fr at_ to r : Int} (hI : WK N M) (hat : 0 ≤ at_ ∧ at_ ≤ 2000) (f0 : 0 ≤ fr) (f1 : fr < 12) (r0 : 0 ≤ r) (r1 : r ≤ 6) (s0 : 0 ≤ to) (s1 : to < 12) (hQ0 : BS N fr at_ r to = 10000 → ∀ M1, Sc M M1 → Q 0 M1) (hQ1 : BS N fr at_ r to ≠ 10000 → ∀ M1, Sc M M1 → M1 284 (12 * r + to) = BS N fr at_ r to → RR 0 (jf N fr at_ (r + 1).toNat r to) M1 → Q 1 M1) : Calls mX9_layJourney [(2, 275), (0, fr), (0, at_), (0, to), (0, r)] S0 M Q := by
  have hg := hI.1
  have key : ∀ (f : Nat) (r s m c : Int) (M1 : Mem) (Q : Int → Mem → Prop), r + 1 = f → r ≤ 6 → 0 ≤ s → s < 12 → (s ≠ fr → -1 ≠ r ∧ BS N fr at_ r s ≠ 10000 ∧ m = BS N fr at_ r s) → 0 ≤ c → (c ≤ 12 - 2 * r) → JM N fr at_ M1 → M1 275 14 = c → (∀ M2, RF c M1 M2 → RR c (jf N fr at_ f r s) M2 → Q 1 M2) → AW mX9_layJourney 41 [(2, 275), (0, fr), (9, 0), (9, 0), (9, 0), (0, s), (0, r), (0, m), (9, 0)] M1 Q := by
    intro f
    induction f with
    | zero =>
      intro r s m c M1 Q hr r6 s0 s1 hs c0 c1 hM hc hq
      refine B_R_layJourney_41 ⟨fun _ => hq M1 RF.rf (RR.nil hc), fun q => ?_⟩
      have := (hs q).1
      omega
    | succ f ih =>
      intro r s m c M1 Q hr r6 s0 s1 hs c0 c1 hM hc hq
      rw [jf_s] at hq
      refine B_R_layJourney_41 ⟨fun q => ?_, fun q => ?_⟩
      · rw [if_pos q] at hq
        exact hq M1 RF.rf (RR.nil hc)
      · rw [if_neg q] at hq
        obtain ⟨-, hbs, hm⟩ := hs q
        rw [hm]
        have hB : 0 ≤ BS N fr at_ r s ∧ BS N fr at_ r s ≤ 10000 := (BS_bd hg hat s0 s1).1
        have ride : ∀ (r' s' m' c' : Int) (M1 : Mem) (x : Lgs → Lgs), r' = r → 0 ≤ sk N fr at_ r s' m' → c' ≤ 13 → 0 ≤ c' → c' + 1 ≤ 12 - 2 * (r - 1) → JM N fr at_ M1 → M1 275 14 = c' → (∀ M2, RF c' M1 M2 → RR c' (consJ (rlgS N fr at_ r s' m') (jf N fr at_ f (r - 1) (nxS N fr at_ r s' m'))) M2 → Q 1 M2) → Calls mX9_putRide [(2, 275), (0, s'), (0, m')] S0 (up2 (up2 (up2 M1 275 22 (sk N fr at_ r s' m' / 6)) 275 23 (sk N fr at_ r s' m' % 6)) 275 24 (skI N fr at_ r s' m')) (fun r11 M12 => (-2147483648 ≤ (M12 275 14) - 1 ∧ (M12 275 14) - 1 ≤ 2147483647) ∧ ((0 : Int) ≤ (M12 275 14) - 1 ∧ (M12 275 14) - 1 < 16) ∧ (-2147483648 ≤ r + (-1) ∧ r + (-1) ≤ 2147483647) ∧ (-2147483648 ≤ 12 * (r + (-1)) ∧ 12 * (r + (-1)) ≤ 2147483647) ∧ (-2147483648 ≤ (12 * (r + (-1))) + (M12 287 ((M12 275 14) - 1)) ∧ (12 * (r + (-1))) + (M12 287 ((M12 275 14) - 1)) ≤ 2147483647) ∧ ((0 : Int) ≤ (12 * (r + (-1))) + (M12 287 ((M12 275 14) - 1)) ∧ (12 * (r + (-1))) + (M12 287 ((M12 275 14) - 1)) < 84) ∧ AW mX9_layJourney 41 [(2, 275), (0, fr), (9, 0), (9, 0), (9, 0), (0, M12 287 ((M12 275 14) - 1)), (0, r + (-1)), (0, M12 284 ((12 * (r + (-1))) + (M12 287 ((M12 275 14) - 1)))), (9, 0)] M12 Q) := by
          intro r' s' m' c' M1 x hr' hk c13 c0' c12 hM hc' hq2
          have hn := nxS_ok hg hk
          have fj : RF c' M1 (up2 (up2 (up2 M1 275 22 (sk N fr at_ r s' m' / 6)) 275 23 (sk N fr at_ r s' m' % 6)) 275 24 (skI N fr at_ r s' m')) := fun a j z1 z2 => by
            rw [up2_ni (by omega), up2_ni (by omega), up2_ni (by omega)]
          refine r_putRide (fr := fr) (at_ := at_) (r := r) (c := c') hg (hM.rf fj).1 ?_ c0' (by omega) hk ?_ ?_ (up2_at ⟨rfl, rfl⟩) (fun M2 g1 g2 g3 => ?_)
          · rw [up2_ni (by omega), up2_ni (by omega), up2_ni (by omega)]
            exact hc'
          · rw [up2_ni (by omega), up2_ni (by omega), up2_at ⟨rfl, rfl⟩]
          · rw [up2_ni (by omega), up2_at ⟨rfl, rfl⟩]
          · have g := fj.tr g1 (Int.le_refl _)
            have hM2 := hM.rf g
            have e2 : M2 287 c' = nxS N fr at_ r s' m' := g3 2 (by omega) (by omega)
            rw [g2, show c' + 1 - 1 = c' by omega, e2, show r + (-1) = r - 1 by omega]
            have e3 := hM2.2.2.2.2.2 (r - 1) (nxS N fr at_ r s' m') (by omega) (by omega) hn.2.1.1 hn.2.1.2
            rw [e3, upv_id (by have := hn.2.2; omega)]
            have hn1 := hn.1
            have hn2 := hn.2.1
            refine ⟨by omega, by omega, by omega, by omega, by omega, by omega, ?_⟩
            refine ih (r - 1) _ _ (c' + 1) M2 Q (by omega) (by omega) hn2.1 hn2.2 (fun _ => ⟨by omega, ?_, rfl⟩) (by omega) (by omega) hM2 g2 (fun M3 j1 j2 => hq2 M3 (g.tr j1 (by omega)) (RR.cons j2 (fun w w0 w1 => ?_)))
            · have := hn.2.2
              omega
            · rw [j1 _ _ (by omega) (by omega)]
              exact g3 w w0 w1
        refine r_seekRide (fr := fr) (at_ := at_) hg hM hat r6 (fun h => ⟨fun _ => ?_, fun z => absurd rfl z⟩) (fun h => ⟨fun z => absurd z (by omega), fun _ => ?_⟩)
        · rw [if_neg (by omega)] at hq
          have hw : 0 ≤ wf N fr at_ r s (BS N fr at_ r s) := by
            have hw := way (r := r.toNat) (fr := fr) (at_ := at_) hg q s0
            rw [show ((r.toNat : Nat) : Int) = r by omega] at hw
            rcases hw hbs with z | z
            · omega
            · exact z
          have hwc := (wf_cases N fr at_ r s (BS N fr at_ r s)).resolve_left (by omega)
          have hpt := hg.path hwc.1 hwc.2.1 s0 s1
          refine r_walkedFrom (fr := fr) (at_ := at_) hg hM hat f0 f1 r6 s0 s1 hB (fun M2 hf2 => ?_)
          have fw : RF c M1 M2 := fun a i z _ => hf2 a i (by omega)
          have hM2 := hM.rf fw
          have hc2 : M2 275 14 = c := (hf2 _ _ (by omega)).trans hc
          refine r_putWalk (c := c) hM2.1 hg hc2 c0 (by omega) hwc.1 hwc.2.1 s0 s1 (by omega) (fun M3 g1 g2 g3 => ?_)
          have hM3 := hM2.rf g1
          have e3 : M3 289 c = BS N fr at_ r s - N.pt (wf N fr at_ r s (BS N fr at_ r s)) s := g3 4 (by omega) (by omega)
          rw [g2, show c + 1 - 1 = c by omega, e3]
          refine ⟨by omega, by omega, ?_⟩
          have gw := fw.tr g1 (Int.le_refl _)
          have row : ∀ w, 0 ≤ w → w < 7 → ∀ M4, RF (c + 1) M3 M4 → M4 (285 + w) c = wlg N (wf N fr at_ r s (BS N fr at_ r s)) s (BS N fr at_ r s) (if w = 6 then 7 else w) := fun w w0 w1 M4 h4 => by
            rw [h4 _ _ (by omega) (by omega)]
            exact g3 w w0 w1
          by_cases hf : wf N fr at_ r s (BS N fr at_ r s) = fr
          · rw [if_pos hf] at hq
            exact B_R_layJourney_41 ⟨fun _ => hq M3 gw (RR.cons (RR.nil g2) (fun w w0 w1 => row w w0 w1 M3 RF.rf)), fun z => absurd hf z⟩
          · rw [if_neg hf] at hq
            have hk2 := hwc.2.2.2
            rw [if_neg hf] at hk2
            have r1' := (nxS_ok hg hk2).1
            refine B_R_layJourney_41 ⟨fun z => absurd z hf, fun _ => ?_⟩
            refine r_seekRide (fr := fr) (at_ := at_) hg hM3 hat r6 (fun h2 => absurd h2 (by omega)) (fun h2 => ⟨fun z => absurd z (by omega), fun _ => ?_⟩)
            refine ride r _ _ (c + 1) M3 (fun x => x) rfl h2 (by omega) (by omega) (by omega) hM3 g2 (fun M4 j1 j2 => hq M4 (gw.tr j1 (by omega)) (RR.cons j2 (fun w w0 w1 => row w w0 w1 M4 j1)))
        · rw [if_pos h] at hq
          have hn := (nxS_ok hg h).1
          exact ride r s (BS N fr at_ r s) c M1 (fun x => x) rfl h (by omega) c0 (by omega) hM hc hq
  obtain ⟨-, -, a4, a5⟩ := id hI
  refine E_R_layJourney (B_R_layJourney_0 (r_roundsW hI f0 f1 hat (fun M1 hs h11 hb h83 => ?_)))
  have hS : Sc M (up2 M1 275 14 0) := hs.up (by unfold scr; omega)
  have hB : 0 ≤ BS N fr at_ r to ∧ BS N fr at_ r to ≤ 10000 := (BS_bd hg hat s0 s1).1
  have hu := hb r to r0 r1 s0 s1
  rw [hu]
  have hM1 : JM N fr at_ (up2 M1 275 14 0) := by
    refine ⟨(hI.sc hS).2.1, ?_, ?_, ?_, ?_, fun k q k0 k1 q0 q1 => ?_⟩
    · rw [hS _ _ (by unfold scr; omega)]
      exact a4
    · rw [hS _ _ (by unfold scr; omega)]
      exact a5
    · rw [up2_ni (by omega)]
      exact h11
    · rw [up2_ni (by omega)]
      exact h83
    · rw [up2_ni (by omega)]
      exact hb k q k0 k1 q0 q1
  refine ⟨by omega, by omega, by omega, fun z => ?_, fun z => hQ0 ?_ _ hS⟩
  · have hne : BS N fr at_ r to ≠ 10000 := by
      unfold upv at z
      split at z <;> omega
    rw [upv_id (by omega)]
    refine key (r + 1).toNat r to _ 0 _ Q (by omega) r1 s0 s1 (fun _ => ⟨by omega, hne, rfl⟩) (Int.le_refl _) (by omega) hM1 (up2_at ⟨rfl, rfl⟩) (fun M2 j1 j2 => hQ1 hne M2 (fun a i w => ?_) ?_ j2)
    · rw [j1 a i (fun y => w (by unfold scr; omega)) (fun y => w (by unfold scr; omega))]
      exact hS a i w
    · rw [(hM1.rf j1).2.2.2.2.2 r to r0 r1 s0 s1, upv_id (by omega)]
  · unfold upv at z
    split at z <;> omega
theorem r_layJourney {N : Net} {M : Mem} {Q : Int → Mem → Prop} {fr at_ to r : Int} (hI : IN N M) (hat : 0 ≤ at_ ∧ at_ ≤ 2000) (f0 : 0 ≤ fr) (f1 : fr < 12) (r0 : 0 ≤ r) (r1 : r ≤ 6) (s0 : 0 ≤ to) (s1 : to < 12) (hQ0 : BS N fr at_ r to = 10000 → ∀ M1, Sc M M1 → Q 0 M1) (hQ1 : BS N fr at_ r to ≠ 10000 → ∀ M1, Sc M M1 → M1 284 (12 * r + to) = BS N fr at_ r to → RR 0 (jf N fr at_ (r + 1).toNat r to) M1 → Q 1 M1) : Calls mX9_layJourney [(2, 275), (0, fr), (0, at_), (0, to), (0, r)] S0 M Q := r_layJourneyW hI.wk hat f0 f1 r0 r1 s0 s1 hQ0 hQ1
