/-! JOURNEYS: THE CLASS, walks and the whole -/
theorem JR.nil {c : Int} {M : Mem} (h : M 246 3 = c) : JR c nilJ M := ⟨by show M 246 3 = c + 0; omega, fun k w k0 k1 => absurd k1 (by show ¬ (k < 0); omega)⟩
theorem JR.cons {c : Int} {x : Int → Int} {J : Lgs} {M : Mem} (h : JR (c + 1) J M) (hx : ∀ w, 0 ≤ w → w < 7 → M (248 + c) w = x w) : JR c (consJ x J) M := by
  obtain ⟨h1, h2⟩ := h
  refine ⟨by show M 246 3 = c + (J.1 + 1); omega, fun k w k0 k1 w0 w1 => ?_⟩
  have k1 : k < J.1 + 1 := k1
  show M (248 + (c + k)) w = (if k = 0 then x else J.2 (k - 1)) w
  by_cases e : k = 0
  · rw [if_pos e, e, show 248 + (c + 0) = 248 + c by omega]
    exact hx w w0 w1
  · rw [if_neg e]
    have := h2 (k - 1) w (by omega) (by omega) w0 w1
    rw [show c + 1 + (k - 1) = c + k by omega] at this
    exact this
/-- the search's rows -/
def SR (N : Net) (fr at_ r : Int) (M : Mem) : Prop := ∀ k q, 0 ≤ k → k ≤ r → 0 ≤ q → q < 12 → M (231 + k) q = BS N fr at_ k q
theorem SR.jf {N : Net} {fr at_ r c : Int} {M M1 : Mem} (h : SR N fr at_ r M) (hj : JF c M M1) (hr : r ≤ 6) (c0 : 0 ≤ c) : SR N fr at_ r M1 := fun k q k0 k1 q0 q1 => by
  rw [hj _ _ (by omega) (by omega)]
  exact h k q k0 k1 q0 q1
theorem SR.le {N : Net} {fr at_ r r2 : Int} {M : Mem} (h : SR N fr at_ r M) (hr : r2 ≤ r) : SR N fr at_ r2 M := fun k q k0 k1 q0 q1 => h k q k0 (by omega) q0 q1
set_option maxHeartbeats 8000000 in
theorem c_rideHere {N : Net} {M : Mem} {Q : Int → Mem → Prop} {fr at_ r s m c : Int} (hg : Good N) (hN : CH N 0 M) (hc : M 246 3 = c) (c0 : 0 ≤ c) (c1 : c < 13) (hk : 0 ≤ sk N fr at_ r s m) (h4 : M 246 4 = sk N fr at_ r s m / 6) (h5 : M 246 5 = sk N fr at_ r s m % 6) (h6 : M 246 6 = skI N fr at_ r s m) (hQ : ∀ M1, JF c M M1 → M1 246 3 = c + 1 → (∀ w, 0 ≤ w → w < 7 → M1 (248 + c) w = rlgS N fr at_ r s m w) → Q (nxS N fr at_ r s m) M1) : Calls mX5_addRide [(2, 246), (0, s)] S0 M Q := by
  obtain ⟨r1, ⟨a0, a1⟩, ⟨b0, b1⟩, -, i0, i1, i2, -, -, i3, -⟩ := (sk_cases fr at_ r s m hg).resolve_left (by omega)
  refine c_addRide hg hN a0 a1 b0 b1 i0 i1 i2 h4 h5 h6 hc c0 c1 (fun M1 g1 g2 g3 => hQ M1 (fun a i q q2 => g1 a i (by omega) (by omega)) g2 (fun w w0 w1 => ?_))
  rw [g3 w w0 w1, i3]
set_option maxHeartbeats 8000000 in
theorem c_addWalk {N : Net} {M : Mem} {Q : Int → Mem → Prop} {fr at_ r s c : Int} (hg : Good N) (hN : CH N 0 M) (hat : 0 ≤ at_ ∧ at_ ≤ 2000) (r0 : 0 ≤ r) (r1 : r ≤ 6) (hb : SR N fr at_ r M) (hc : M 246 3 = c) (c0 : 0 ≤ c) (c1 : c ≤ 12 - 2 * r) (s0 : 0 ≤ s) (s1 : s < 12) (hw : 0 ≤ wf N fr at_ r s (BS N fr at_ r s)) (hbs : BS N fr at_ r s ≠ 10000)
    (hQ1 : wf N fr at_ r s (BS N fr at_ r s) = fr → ∀ M1, JF c M M1 → JR c (consJ (wlg N (wf N fr at_ r s (BS N fr at_ r s)) s (BS N fr at_ r s)) nilJ) M1 → Q fr M1)
    (hQ2 : wf N fr at_ r s (BS N fr at_ r s) ≠ fr → ∀ M1, JF c M M1 → M1 246 3 = c + 2 → (∀ w, 0 ≤ w → w < 7 → M1 (248 + c) w = wlg N (wf N fr at_ r s (BS N fr at_ r s)) s (BS N fr at_ r s) w) → (∀ w, 0 ≤ w → w < 7 → M1 (248 + (c + 1)) w = rlgS N fr at_ r (wf N fr at_ r s (BS N fr at_ r s)) (BS N fr at_ r s - N.pt (wf N fr at_ r s (BS N fr at_ r s)) s) w) → Q (nxS N fr at_ r (wf N fr at_ r s (BS N fr at_ r s)) (BS N fr at_ r s - N.pt (wf N fr at_ r s (BS N fr at_ r s)) s)) M1) : Calls mX5_addWalk [(2, 246), (0, r), (0, fr), (0, at_), (0, s)] S0 M Q := by
  have hB : 0 ≤ BS N fr at_ r s ∧ BS N fr at_ r s ≤ 10000 := (BS_bd hg hat s0 s1).1
  refine E_Route_addWalk (B_Route_addWalk_0 ⟨by omega, by omega, ?_⟩)
  rw [hb r s r0 (Int.le_refl _) s0 s1]
  generalize hm : BS N fr at_ r s = m at hw hQ1 hQ2 hB hbs ⊢
  have key : ∀ k : Nat, k ≤ 12 → ∀ i, i = (k : Int) → (∀ j, 0 ≤ j → j < i → hW N fr at_ r s m j = false) → AW mX5_addWalk 17 [(2, 246), (0, r), (0, fr), (0, at_), (0, s), (0, m), (0, i), (9, 0)] M Q := by
    refine up_ind _ ?_ ?_
    · intro i hi hno
      have : wf N fr at_ r s m = -1 := ft_no (fun j j0 j1 => hno j j0 (by omega))
      omega
    · intro k hk ih i hi hno
      have hp := hg.path (a := i) (b := s) (by omega) (by omega) s0 s1
      have no : hW N fr at_ r s m i = false → AW mX5_addWalk 17 [(2, 246), (0, r), (0, fr), (0, at_), (0, s), (0, m), (0, i + 1), (9, 0)] M Q := by
        intro h
        refine ih _ (by omega) (fun j j0 j1 => ?_)
        by_cases e : j = i
        · rw [e]
          exact h
        · exact hno j j0 (by omega)
      have yes : hW N fr at_ r s m i = true → wf N fr at_ r s m = i := fun h => ft_at (by omega) (by omega) h hno
      refine B_Route_addWalk_17 ⟨fun q => absurd q (by omega), fun _ => ⟨by omega, by omega, ?_⟩⟩
      rw [hN.path (a := i) (b := s) (by omega) (by omega) s0 s1 rfl, hc]
      refine ⟨fun q => ⟨fun q2 => ⟨by omega, ?_⟩, fun q2 => ⟨by omega, fun q3 => ⟨by omega, no ?_⟩, fun q3 => ⟨fun _ => ⟨by omega, by omega, ?_⟩, fun z => absurd (by omega) z⟩⟩⟩, fun q => ⟨by omega, no ?_⟩⟩
      · refine c_findRide (fr := fr) (at_ := at_) hg hN r1 (fun q hr1 q0 q1 => hb _ q (by omega) (by omega) q0 q1) (fun h => ⟨fun _ => ⟨by omega, no ?_⟩, fun z => absurd rfl z⟩) (fun h => ⟨fun z => absurd z (by omega), fun _ => ?_⟩)
        · refine decide_eq_false (fun z => ?_)
          have z2 := z.2
          rw [if_neg q2] at z2
          omega
        · have ew := yes (decide_eq_true ⟨q, by rw [if_neg q2]; exact h⟩)
          have r1' : 1 ≤ r := ((sk_cases fr at_ r i (m - N.pt i s) hg).resolve_left (by omega)).1
          rw [ew] at hQ1 hQ2
          have ec : up2 (up2 (up2 M 246 4 (sk N fr at_ r i (m - N.pt i s) / 6)) 246 5 (sk N fr at_ r i (m - N.pt i s) % 6)) 246 6 (skI N fr at_ r i (m - N.pt i s)) 246 3 = c := by
            rw [up2_ni (by omega), up2_ni (by omega), up2_ni (by omega)]
            exact hc
          rw [ec]
          refine ⟨fun _ => ⟨by omega, by omega, ?_⟩, fun z => absurd (by omega) z⟩
          have fj : JF c M (up2 (up2 (up2 (up2 (up2 (up2 (up2 (up2 (up2 (up2 (up2 M 246 4 (sk N fr at_ r i (m - N.pt i s) / 6)) 246 5 (sk N fr at_ r i (m - N.pt i s) % 6)) 246 6 (skI N fr at_ r i (m - N.pt i s))) 246 3 (c + 1)) (248 + c) 0 (-5)) (248 + c) 1 (-5)) (248 + c) 2 i) (248 + c) 3 s) (248 + c) 4 (m - N.pt i s)) (248 + c) 5 m) (248 + c) 6 0) := by
            intro a j z1 z2
            rw [up2_ne (by omega), up2_ne (by omega), up2_ne (by omega), up2_ne (by omega), up2_ne (by omega), up2_ne (by omega), up2_ne (by omega), up2_ni (by omega), up2_ni (by omega), up2_ni (by omega), up2_ni (by omega)]
          have hrow : ∀ w, 0 ≤ w → w < 7 → up2 (up2 (up2 (up2 (up2 (up2 (up2 (up2 (up2 (up2 (up2 M 246 4 (sk N fr at_ r i (m - N.pt i s) / 6)) 246 5 (sk N fr at_ r i (m - N.pt i s) % 6)) 246 6 (skI N fr at_ r i (m - N.pt i s))) 246 3 (c + 1)) (248 + c) 0 (-5)) (248 + c) 1 (-5)) (248 + c) 2 i) (248 + c) 3 s) (248 + c) 4 (m - N.pt i s)) (248 + c) 5 m) (248 + c) 6 0 (248 + c) w = wlg N i s m w := by
            intro w w0 w1
            simp (config := {decide := true}) only [up2_app, true_and]
            unfold wlg
            (repeat' split) <;> first | rfl | omega
          have e3 : ∀ j, 3 ≤ j → j ≤ 6 → up2 (up2 (up2 (up2 (up2 (up2 (up2 (up2 (up2 (up2 (up2 M 246 4 (sk N fr at_ r i (m - N.pt i s) / 6)) 246 5 (sk N fr at_ r i (m - N.pt i s) % 6)) 246 6 (skI N fr at_ r i (m - N.pt i s))) 246 3 (c + 1)) (248 + c) 0 (-5)) (248 + c) 1 (-5)) (248 + c) 2 i) (248 + c) 3 s) (248 + c) 4 (m - N.pt i s)) (248 + c) 5 m) (248 + c) 6 0 246 j = if j = 3 then c + 1 else if j = 6 then skI N fr at_ r i (m - N.pt i s) else if j = 5 then sk N fr at_ r i (m - N.pt i s) % 6 else sk N fr at_ r i (m - N.pt i s) / 6 := by
            intro j j0 j1
            rw [up2_ne (by omega), up2_ne (by omega), up2_ne (by omega), up2_ne (by omega), up2_ne (by omega), up2_ne (by omega), up2_ne (by omega)]
            simp (config := {decide := true}) only [up2_app, true_and]
            (repeat' split) <;> first | rfl | omega
          generalize up2 (up2 (up2 (up2 (up2 (up2 (up2 (up2 (up2 (up2 (up2 M 246 4 (sk N fr at_ r i (m - N.pt i s) / 6)) 246 5 (sk N fr at_ r i (m - N.pt i s) % 6)) 246 6 (skI N fr at_ r i (m - N.pt i s))) 246 3 (c + 1)) (248 + c) 0 (-5)) (248 + c) 1 (-5)) (248 + c) 2 i) (248 + c) 3 s) (248 + c) 4 (m - N.pt i s)) (248 + c) 5 m) (248 + c) 6 0 = M3 at fj hrow e3 ⊢
          refine c_rideHere (fr := fr) (at_ := at_) (r := r) (m := m - N.pt i s) hg (fj.ch c0 hg hN) ((e3 3 (by omega) (by omega)).trans (if_pos rfl)) (by omega) (by omega) h (e3 4 (by omega) (by omega)) (e3 5 (by omega) (by omega)) (e3 6 (by omega) (by omega)) (fun M4 g1 g2 g3 => hQ2 q2 M4 (fj.tr g1 (by omega)) (by omega) (fun w w0 w1 => ?_) g3)
          rw [g1 _ _ (by omega) (by omega)]
          exact hrow w w0 w1
      · refine decide_eq_false (fun z => ?_)
        have z2 := z.2
        rw [if_pos q2] at z2
        omega
      · have ew := yes (decide_eq_true ⟨q, by rw [if_pos q2]; omega⟩)
        rw [ew] at hQ1
        rw [q2]
        rw [q2] at hQ1 q3
        refine hQ1 rfl _ (fun a j z1 z2 => ?_) (JR.cons (JR.nil ?_) (fun w w0 w1 => ?_))
        · rw [up2_ne (by omega), up2_ne (by omega), up2_ne (by omega), up2_ne (by omega), up2_ne (by omega), up2_ne (by omega), up2_ne (by omega), up2_ni (by omega)]
        · rw [up2_ne (by omega), up2_ne (by omega), up2_ne (by omega), up2_ne (by omega), up2_ne (by omega), up2_ne (by omega), up2_ne (by omega), up2_at ⟨rfl, rfl⟩]
        · simp (config := {decide := true}) only [up2_app, true_and]
          unfold wlg
          (repeat' split) <;> first | rfl | omega
      · exact decide_eq_false (fun z => z.1 q)
  exact key 0 (Nat.zero_le _) 0 rfl (fun j j0 j1 => absurd j1 (by omega))
theorem nxS_ok {N : Net} {fr at_ r s m : Int} (hg : Good N) (h : 0 ≤ sk N fr at_ r s m) : 1 ≤ r ∧ (0 ≤ nxS N fr at_ r s m ∧ nxS N fr at_ r s m < 12) ∧ BS N fr at_ (r - 1) (nxS N fr at_ r s m) ≤ 9000 := by
  obtain ⟨r1, ⟨a0, a1⟩, ⟨b0, b1⟩, -, i0, i1, i2, -, -, -, i3⟩ := (sk_cases fr at_ r s m hg).resolve_left (by omega)
  have h1 := hg.stop a0 a1 i0 (by omega)
  have h2 := hg.min a0 a1 b0 b1 i0 (by omega)
  exact ⟨r1, h1, Int.le_trans i3 h2.2⟩
theorem c_run1 {N : Net} {M : Mem} {Q : Int → Mem → Prop} {fr at_ r : Int} (hI : IN N M) (hat : 0 ≤ at_ ∧ at_ ≤ 2000) (hr : 0 ≤ r ∧ r ≤ 6) (hQ : ∀ M1, frm 231 246 M M1 → Sc M M1 → SR N fr at_ r M1 → Q 0 M1) : Calls mX6_run [(2, 229), (0, fr), (0, at_), (0, r)] S0 M Q := by
  obtain ⟨a1, a2, a3, -, -⟩ := hI.lo
  refine c_run hI.g hI.c a1 a2 a3 hat hr (fun M1 hf hb => hQ M1 hf (fun a i q => hf a i (by unfold scr at q; omega)) (fun k s k0 k1 s0 s1 => ?_))
  have := hb k.toNat (by omega) s s0 s1
  rw [show ((k.toNat : Nat) : Int) = k by omega] at this
  exact this
set_option maxHeartbeats 8000000 in
theorem c_trace {N : Net} {M : Mem} {Q : Int → Mem → Prop} {fr at_ to r : Int} (hI : IN N M) (hat : 0 ≤ at_ ∧ at_ ≤ 2000) (r0 : 0 ≤ r) (r1 : r ≤ 6) (s0 : 0 ≤ to) (s1 : to < 12) (hQ0 : BS N fr at_ r to = 10000 → ∀ M1, Sc M M1 → Q 0 M1) (hQ1 : BS N fr at_ r to ≠ 10000 → ∀ M1, Sc M M1 → SR N fr at_ r M1 → JR 0 (jf N fr at_ (r + 1).toNat r to) M1 → Q 1 M1) : Calls mX5_trace [(2, 246), (0, fr), (0, at_), (0, to), (0, r)] S0 M Q := by
  have hg := hI.g
  have hS : Sc M (up2 M 246 3 0) := Sc.rf.up (by unfold scr; omega)
  have key : ∀ (f : Nat) (r s c : Int) (M1 : Mem) (Q : Int → Mem → Prop), r + 1 = f → r ≤ 6 → 0 ≤ s → s < 12 → (s ≠ fr → -1 ≠ r ∧ BS N fr at_ r s ≠ 10000) → 0 ≤ c → (c ≤ 12 - 2 * r) → CH N 0 M1 → SR N fr at_ r M1 → M1 246 3 = c → (∀ M2, JF c M1 M2 → JR c (jf N fr at_ f r s) M2 → Q 1 M2) → AW mX5_trace 43 [(2, 246), (0, fr), (0, at_), (9, 0), (9, 0), (0, s), (0, r), (9, 0)] M1 Q := by
    intro f
    induction f with
    | zero =>
      intro r s c M1 Q hr r6 s0 s1 hs c0 c1 hN hb hc hq
      exact B_Route_trace_43 ⟨fun _ => hq M1 JF.rf (JR.nil hc), fun q => absurd (by omega) q⟩
    | succ f ih =>
      intro r s c M1 Q hr r6 s0 s1 hs c0 c1 hN hb hc hq
      rw [jf_s] at hq
      refine B_Route_trace_43 ⟨fun q => absurd q (by omega), fun _ => ⟨fun q => ?_, fun q => ⟨by omega, by omega, ?_⟩⟩⟩
      · rw [if_pos q] at hq
        exact hq M1 JF.rf (JR.nil hc)
      · rw [if_neg q] at hq
        rw [hb r s (by omega) (Int.le_refl _) s0 s1]
        have hbs := (hs q).2
        refine c_findRide (fr := fr) (at_ := at_) hg hN r6 (fun x hr1 q0 q1 => hb _ x (by omega) (by omega) q0 q1) (fun h => ⟨fun _ => ?_, fun z => absurd rfl z⟩) (fun h => ⟨fun z => absurd z (by omega), fun _ => ?_⟩)
        · rw [if_neg (by omega)] at hq
          have hw : 0 ≤ wf N fr at_ r s (BS N fr at_ r s) := by
            have hw := way (r := r.toNat) (fr := fr) (at_ := at_) hg q s0
            rw [show ((r.toNat : Nat) : Int) = r by omega] at hw
            rcases hw hbs with z | z
            · omega
            · exact z
          refine c_addWalk hg hN hat (by omega) r6 hb hc c0 c1 s0 s1 hw hbs (fun hf M2 g1 g2 => ⟨by omega, ?_⟩) (fun hf M2 g1 g2 g3 g4 => ⟨by omega, ?_⟩)
          · rw [if_pos hf] at hq
            have h2 := hq M2 g1 g2
            by_cases z : r + (-1) < 0
            · exact B_Route_trace_43 ⟨fun _ => h2, fun q => absurd z q⟩
            · exact B_Route_trace_43 ⟨fun q => absurd q z, fun _ => ⟨fun _ => h2, fun q => absurd rfl q⟩⟩
          · rw [if_neg hf] at hq
            have hwc := (wf_cases N fr at_ r s (BS N fr at_ r s)).resolve_left (by omega)
            have hk2 := hwc.2.2.2
            rw [if_neg hf] at hk2
            have hn := nxS_ok hg hk2
            refine ih _ _ (c + 2) M2 Q (by omega) (by omega) hn.2.1.1 hn.2.1.2 (fun _ => ⟨by omega, ?_⟩) (by omega) (by omega) (g1.ch c0 hg hN) ((hb.jf g1 r6 c0).le (by omega)) g2 (fun M3 j1 j2 => hq M3 (g1.tr j1 (by omega)) (JR.cons (JR.cons ?_ (fun w w0 w1 => ?_)) (fun w w0 w1 => ?_)))
            · have := hn.2.2
              rw [show r + (-1) = r - 1 by omega]
              omega
            · rw [show c + 1 + 1 = c + 2 by omega]
              exact j2
            · rw [j1 _ _ (by omega) (by omega)]
              exact g4 w w0 w1
            · rw [j1 _ _ (by omega) (by omega)]
              exact g3 w w0 w1
        · rw [if_pos h] at hq
          have hn := nxS_ok hg h
          have fj : JF c M1 (up2 (up2 (up2 M1 246 4 (sk N fr at_ r s (BS N fr at_ r s) / 6)) 246 5 (sk N fr at_ r s (BS N fr at_ r s) % 6)) 246 6 (skI N fr at_ r s (BS N fr at_ r s))) := fun a j z1 z2 => by
            rw [up2_ni (by omega), up2_ni (by omega), up2_ni (by omega)]
          refine c_rideHere (fr := fr) (at_ := at_) (r := r) (m := BS N fr at_ r s) (c := c) hg (fj.ch c0 hg hN) ?_ c0 (by omega) h ?_ ?_ (up2_at ⟨rfl, rfl⟩) (fun M2 g1 g2 g3 => ⟨by omega, ?_⟩)
          · rw [up2_ni (by omega), up2_ni (by omega), up2_ni (by omega)]
            exact hc
          · rw [up2_ni (by omega), up2_ni (by omega), up2_at ⟨rfl, rfl⟩]
          · rw [up2_ni (by omega), up2_at ⟨rfl, rfl⟩]
          · have g := fj.tr g1 (Int.le_refl _)
            refine ih _ _ (c + 1) M2 Q (by omega) (by omega) hn.2.1.1 hn.2.1.2 (fun _ => ⟨by omega, ?_⟩) (by omega) (by omega) (g.ch c0 hg hN) ((hb.jf g r6 c0).le (by omega)) g2 (fun M3 j1 j2 => hq M3 (g.tr j1 (by omega)) (JR.cons j2 (fun w w0 w1 => ?_)))
            · have := hn.2.2
              rw [show r + (-1) = r - 1 by omega]
              omega
            · rw [j1 _ _ (by omega) (by omega)]
              exact g3 w w0 w1
  refine E_Route_trace (B_Route_trace_0 (c_run1 (hI.sc hS) hat (by omega) (fun M1 hf hs hb => ⟨by omega, by omega, ?_⟩)))
  rw [hb r to r0 (Int.le_refl _) s0 s1]
  have hs2 := hS.tr hs
  refine ⟨fun q => ?_, fun q => hQ0 q M1 hs2⟩
  have hrow : M1 246 3 = 0 := by
    rw [hf _ _ (by omega)]
    exact up2_at ⟨rfl, rfl⟩
  refine key (r + 1).toNat r to 0 M1 Q (by omega) r1 s0 s1 (fun _ => ⟨by omega, q⟩) (Int.le_refl _) (by omega) (hI.sc hs2).c hb hrow (fun M2 j1 j2 => hQ1 q M2 (fun a i z => ?_) (SR.jf hb j1 r1 (Int.le_refl _)) j2)
  rw [j1 a i (fun w => z (by unfold scr; omega)) (fun w => z (by unfold scr; omega))]
  exact hs2 a i z
