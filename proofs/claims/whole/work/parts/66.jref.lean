/-! JOURNEYS: THE REFERENCE -/
/-- nothing but the journey has changed, and of its rows none ahead of c -/
def RF (c : Int) (M M1 : Mem) : Prop := ∀ a i, ¬ (a = 275 ∧ (i = 14 ∨ i = 22 ∨ i = 23 ∨ i = 24)) → ¬ (285 ≤ a ∧ a ≤ 291 ∧ c ≤ i) → M1 a i = M a i
theorem RF.rf {c : Int} {M : Mem} : RF c M M := fun _ _ _ _ => rfl
theorem RF.tr {c d : Int} {M M1 M2 : Mem} (h : RF c M M1) (h2 : RF d M1 M2) (hcd : c ≤ d) : RF c M M2 := fun a i q q2 => (h2 a i q (by omega)).trans (h a i q q2)
/-- what the reference looks at on the way back -/
def JM (N : Net) (fr at_ : Int) (M : Mem) : Prop := RH N M ∧ M 275 9 = -1 ∧ M 275 10 = -1 ∧ M 275 11 = fr ∧ M 283 fr = at_ ∧ ∀ k q, 0 ≤ k → k ≤ 6 → 0 ≤ q → q < 12 → M 284 (12 * k + q) = upv (BS N fr at_ k q)
theorem JM.rf {N : Net} {fr at_ c : Int} {M M1 : Mem} (h : JM N fr at_ M) (hf : RF c M M1) : JM N fr at_ M1 := by
  obtain ⟨h1, h2, h3, h4, h5, h6⟩ := h
  refine ⟨h1.keep (fun a i q => hf a i (by omega) (by omega)), ?_, ?_, ?_, ?_, fun k q k0 k1 q0 q1 => ?_⟩
  · rw [hf _ _ (by omega) (by omega)]; exact h2
  · rw [hf _ _ (by omega) (by omega)]; exact h3
  · rw [hf _ _ (by omega) (by omega)]; exact h4
  · rw [hf _ _ (by omega) (by omega)]; exact h5
  · rw [hf _ _ (by omega) (by omega)]; exact h6 k q k0 k1 q0 q1
def RR (c : Int) (J : Lgs) (M : Mem) : Prop := M 275 14 = c + J.1 ∧ ∀ k w, 0 ≤ k → k < J.1 → 0 ≤ w → w < 7 → M (285 + w) (c + k) = J.2 k (if w = 6 then 7 else w)
theorem RR.nil {c : Int} {M : Mem} (h : M 275 14 = c) : RR c nilJ M := ⟨by show M 275 14 = c + 0; omega, fun k w k0 k1 => absurd k1 (by show ¬ (k < 0); omega)⟩
theorem RR.cons {c : Int} {x : Int → Int} {J : Lgs} {M : Mem} (h : RR (c + 1) J M) (hx : ∀ w, 0 ≤ w → w < 7 → M (285 + w) c = x (if w = 6 then 7 else w)) : RR c (consJ x J) M := by
  obtain ⟨h1, h2⟩ := h
  refine ⟨by show M 275 14 = c + (J.1 + 1); omega, fun k w k0 k1 w0 w1 => ?_⟩
  have k1 : k < J.1 + 1 := k1
  show M (285 + w) (c + k) = (if k = 0 then x else J.2 (k - 1)) (if w = 6 then 7 else w)
  by_cases e : k = 0
  · rw [if_pos e, e, show c + 0 = c by omega]
    exact hx w w0 w1
  · rw [if_neg e]
    have := h2 (k - 1) w (by omega) (by omega) w0 w1
    rw [show c + 1 + (k - 1) = c + k by omega] at this
    exact this
set_option maxHeartbeats 4000000 in
theorem r_boardedAt {N : Net} {M : Mem} {Q : Int → Mem → Prop} {fr at_ r s m l t : Int} (hg : Good N) (hN : RH N M) (hat : 0 ≤ at_ ∧ at_ ≤ 2000) (l0 : 0 ≤ l) (l1 : l < N.ln) (t0 : 0 ≤ t) (t1 : t < N.tr l) (r1 : 1 ≤ r) (r6 : r ≤ 6) (hrn : N.rn l t = 1) (hb : ∀ q, 0 ≤ q → q < 12 → M 284 (12 * (r - 1) + q) = upv (BS N fr at_ (r - 1) q)) (hQ : Q (rA N fr at_ r s m l t) M) : Calls mX9_boardedAt [(2, 275), (0, l), (0, t), (0, s), (0, m), (0, r)] S0 M Q := by
  have hk := hg.lineK l0 l1
  have hsz := (hN.line l0 l1).2.1
  refine E_R_boardedAt (B_R_boardedAt_0 ?_)
  have second : ∀ e : Int, e ≤ N.sz l → (e = if 0 ≤ plc N l s ∧ N.mi l t (plc N l s) = m then plc N l s else -1) → AW mX9_boardedAt 62 [(2, 275), (0, l), (0, t), (9, 0), (9, 0), (0, r), (0, e), (0, (-1)), (0, 0)] M Q := by
    intro e hesz he
    have hra : rA N fr at_ r s m l t = bdN N (fun q => BS N fr at_ (r - 1) q) l t e.toNat := by
      unfold rA
      by_cases h : 0 ≤ plc N l s ∧ N.mi l t (plc N l s) = m
      · rw [if_pos h] at he
        rw [if_pos ⟨hrn, h.1, h.2⟩, he]
      · rw [if_neg h] at he
        rw [if_neg (fun z => h z.2), he]
        rfl
    rw [hra] at hQ
    have key : ∀ k : Nat, k ≤ e.toNat → ∀ v i, v = bdN N (fun q => BS N fr at_ (r - 1) q) l t k → i = (k : Int) → AW mX9_boardedAt 62 [(2, 275), (0, l), (0, t), (9, 0), (9, 0), (0, r), (0, e), (0, v), (0, i)] M Q := by
      refine up_ind _ ?_ ?_
      · intro v i hv hi
        exact B_R_boardedAt_62 ⟨fun _ => hv ▸ hQ, fun q => absurd (by omega) q⟩
      · intro k hk2 ih v i hv hi
        have hs := hg.stop l0 l1 (i := i) (by omega) (by omega)
        have hB : 0 ≤ BS N fr at_ (r - 1) (N.sp l i) ∧ BS N fr at_ (r - 1) (N.sp l i) ≤ 10000 := (BS_bd hg hat hs.1 hs.2).1
        have hmi := hg.min l0 l1 t0 t1 (i := i) (by omega) (by omega)
        refine B_R_boardedAt_62 ⟨fun q => absurd q (by omega), fun _ => ?_⟩
        rw [hN.stop l0 l1 (i := i) (by omega) (by omega) rfl, hb _ hs.1 hs.2, hN.min l0 l1 t0 t1 (i := i) (by omega) (by omega) rfl]
        have hu : N.mi l t i < upv (BS N fr at_ (r - 1) (N.sp l i)) ↔ N.mi l t i < BS N fr at_ (r - 1) (N.sp l i) := upv_lt (by omega) (by omega)
        refine ⟨by omega, by omega, by omega, by omega, by omega, by omega, by omega, by omega, by omega, by omega, by omega, by omega, fun q => ⟨by omega, ih _ _ ?_ (by omega)⟩, fun q => ⟨by omega, ih _ _ ?_ (by omega)⟩⟩
        · rw [bdN_s, ← hi, if_neg (by omega)]
          exact hv
        · rw [bdN_s, ← hi, if_pos (by omega)]
    exact key 0 (Nat.zero_le _) _ 0 rfl rfl
  have key : ∀ k : Nat, k ≤ (N.sz l).toNat → ∀ e i, ((e = -1 ∧ ∀ j, 0 ≤ j → j < i → ¬ (N.sp l j = s ∧ N.mi l t j = m)) ∨ (0 ≤ e ∧ e < i ∧ N.sp l e = s ∧ N.mi l t e = m)) → i = (k : Int) → AW mX9_boardedAt 6 [(2, 275), (0, l), (0, t), (0, s), (0, m), (0, r), (0, e), (0, i), (9, 0)] M Q := by
    refine up_ind _ ?_ ?_
    · intro e i he hi
      refine B_R_boardedAt_6 ⟨by omega, fun _ => second e ?_ ?_, fun q => absurd (by omega) q⟩
      · rcases he with ⟨q, -⟩ | ⟨q, q2, -⟩ <;> omega
      · rcases he with ⟨q, q2⟩ | ⟨q1, q2, q3, q4⟩
        · rw [if_neg, q]
          rintro ⟨z1, z2⟩
          have hp := (plc_cases hg l0 l1 s).resolve_left (by omega)
          exact q2 _ hp.1 (by omega) ⟨hp.2.2, z2⟩
        · have hp := plc_at hg l0 l1 q1 (by omega) q3
          rw [hp, if_pos ⟨q1, q4⟩]
    · intro k hk2 ih e i he hi
      refine B_R_boardedAt_6 ⟨by omega, fun q => absurd q (by omega), fun _ => ⟨by omega, by omega, by omega, ?_⟩⟩
      rw [hN.stop l0 l1 (i := i) (by omega) (by omega) rfl, hN.min l0 l1 t0 t1 (i := i) (by omega) (by omega) rfl]
      have keep : ¬ (N.sp l i = s ∧ N.mi l t i = m) → ((e = -1 ∧ ∀ j, 0 ≤ j → j < i + 1 → ¬ (N.sp l j = s ∧ N.mi l t j = m)) ∨ (0 ≤ e ∧ e < i + 1 ∧ N.sp l e = s ∧ N.mi l t e = m)) := by
        intro h
        rcases he with ⟨q, q2⟩ | ⟨q1, q2, q3⟩
        · refine Or.inl ⟨q, fun j j0 j1 => ?_⟩
          by_cases hj : j = i
          · rw [hj]
            exact h
          · exact q2 j j0 (by omega)
        · exact Or.inr ⟨q1, by omega, q3⟩
      refine ⟨fun q => ⟨by omega, ih _ _ (keep (fun z => q z.1)) (by omega)⟩, fun q => ⟨by omega, by omega, by omega, by omega, by omega, fun q2 => ⟨by omega, ih _ _ (keep (fun z => q2 z.2)) (by omega)⟩, fun q2 => ⟨by omega, ih _ _ (Or.inr ⟨by omega, by omega, q, q2⟩) (by omega)⟩⟩⟩
  exact key 0 (Nat.zero_le _) _ 0 (Or.inl ⟨rfl, fun j j0 j1 => absurd j1 (by omega)⟩) rfl
set_option maxHeartbeats 4000000 in
theorem r_seekRide {N : Net} {M : Mem} {Q : Int → Mem → Prop} {fr at_ r s m : Int} (hg : Good N) (hM : JM N fr at_ M) (hat : 0 ≤ at_ ∧ at_ ≤ 2000) (r6 : r ≤ 6) (hQ0 : sk N fr at_ r s m = -1 → Q 0 M) (hQ1 : 0 ≤ sk N fr at_ r s m → Q 1 (up2 (up2 (up2 M 275 22 (sk N fr at_ r s m / 6)) 275 23 (sk N fr at_ r s m % 6)) 275 24 (skI N fr at_ r s m))) : Calls mX9_seekRide [(2, 275), (0, s), (0, m), (0, r)] S0 M Q := by
  obtain ⟨hN, h9, -, -, -, hb⟩ := hM
  have h0 := hg.1
  have hln := hN.1
  refine E_R_seekRide (B_R_seekRide_0 ?_)
  by_cases hr : r ≤ 0
  · have hq := hQ0 (by unfold sk; rw [if_pos hr])
    exact B_R_seekRide_3 ⟨fun _ => hq, fun _ => ⟨fun _ => hq, fun z => absurd hr z⟩⟩
  have hsk : sk N fr at_ r s m = ft (hR N fr at_ r s m) (6 * N.ln.toNat) := by unfold sk; rw [if_neg hr]
  have key : ∀ k : Nat, k ≤ N.ln.toNat → ∀ i, i = (k : Int) → (∀ j, 0 ≤ j → j < 6 * i → hR N fr at_ r s m j = false) → AW mX9_seekRide 3 [(2, 275), (0, s), (0, m), (0, r), (0, i), (9, 0), (9, 0)] M Q := by
    refine up_ind _ ?_ ?_
    · intro i hi hno
      exact B_R_seekRide_3 ⟨fun _ => hQ0 (hsk.trans (ft_no (fun j j0 j1 => hno j j0 (by omega)))), fun q => absurd (by omega) q⟩
    · intro k hk ih i hi hno
      have hkk := hg.lineK (l := i) (by omega) (by omega)
      have htr := (hN.line (l := i) (by omega) (by omega)).2.2
      refine B_R_seekRide_3 ⟨fun q => absurd q (by omega), fun _ => ⟨fun q => absurd q hr, fun _ => ?_⟩⟩
      have inner : ∀ n : Nat, n ≤ (N.tr i).toNat → ∀ t, t = (n : Int) → (∀ j, 0 ≤ j → j < 6 * i + t → hR N fr at_ r s m j = false) → AW mX9_seekRide 19 [(2, 275), (0, s), (0, m), (0, r), (0, i), (0, t), (9, 0)] M Q := by
        refine up_ind _ ?_ ?_
        · intro t ht hno2
          refine B_R_seekRide_19 ⟨by omega, fun _ => ⟨by omega, ih _ (by omega) (fun j j0 j1 => ?_)⟩, fun q => absurd (by omega) q⟩
          by_cases hj : j < 6 * i + t
          · exact hno2 j j0 hj
          · refine decide_eq_false (fun z => ?_)
            have e : j / 6 = i := by omega
            rw [e] at z
            omega
        · intro n hn ih2 t ht hno2
          have no : rA N fr at_ r s m i t < 0 → AW mX9_seekRide 19 [(2, 275), (0, s), (0, m), (0, r), (0, i), (0, t + 1), (9, 0)] M Q := by
            intro hra
            refine ih2 _ (by omega) (fun j j0 j1 => ?_)
            by_cases hj : j < 6 * i + t
            · exact hno2 j j0 hj
            · refine decide_eq_false (fun z => ?_)
              have e : j / 6 = i := by omega
              have e2 : j % 6 = t := by omega
              rw [e, e2] at z
              omega
          have hrn := rn01 hg (l := i) (t := t) (by omega) (by omega) (by omega) (by omega)
          refine B_R_seekRide_19 ⟨by omega, fun q => absurd q (by omega), fun _ => r_isRunning hg hN (by omega) (by omega) (by omega) (by omega) ⟨fun z => ⟨by omega, no ?_⟩, fun z => ⟨by omega, by omega, fun z2 => absurd z2 (by omega), fun _ => ?_⟩⟩⟩
          · unfold rA
            rw [if_neg (fun y => by omega)]
            omega
          · refine r_boardedAt (fr := fr) (at_ := at_) hg hN hat (by omega) (by omega) (by omega) (by omega) (by omega) r6 (by omega) (fun q q0 q1 => hb _ q (by omega) (by omega) q0 q1) ⟨fun h => ⟨by omega, no h⟩, fun h => ?_⟩
            have e : sk N fr at_ r s m = 6 * i + t := by
              rw [hsk]
              refine ft_at (by omega) (by omega) (decide_eq_true ?_) hno2
              rw [show (6 * i + t) / 6 = i by omega, show (6 * i + t) % 6 = t by omega]
              exact ⟨by omega, by omega, by omega⟩
            have e2 : skI N fr at_ r s m = rA N fr at_ r s m i t := by
              show rA N fr at_ r s m (sk N fr at_ r s m / 6) (sk N fr at_ r s m % 6) = _
              rw [e, show (6 * i + t) / 6 = i by omega, show (6 * i + t) % 6 = t by omega]
            have hx := hQ1 (by omega)
            rw [e2, e, show (6 * i + t) / 6 = i by omega, show (6 * i + t) % 6 = t by omega] at hx
            exact hx
      exact inner 0 (Nat.zero_le _) 0 rfl (fun j j0 j1 => hno j j0 (by omega))
  exact key 0 (Nat.zero_le _) 0 rfl (fun j j0 j1 => absurd j1 (by omega))
set_option maxHeartbeats 8000000 in
theorem r_putRide {N : Net} {M : Mem} {Q : Int → Mem → Prop} {fr at_ r s m c : Int} (hg : Good N) (hN : RH N M) (hc : M 275 14 = c) (c0 : 0 ≤ c) (c1 : c < 16) (hk : 0 ≤ sk N fr at_ r s m) (h4 : M 275 22 = sk N fr at_ r s m / 6) (h5 : M 275 23 = sk N fr at_ r s m % 6) (h6 : M 275 24 = skI N fr at_ r s m) (hQ : ∀ M1, RF c M M1 → M1 275 14 = c + 1 → (∀ w, 0 ≤ w → w < 7 → M1 (285 + w) c = rlgS N fr at_ r s m (if w = 6 then 7 else w)) → Q 0 M1) : Calls mX9_putRide [(2, 275), (0, s), (0, m)] S0 M Q := by
  obtain ⟨r1, ⟨a0, a1⟩, ⟨b0, b1⟩, -, i0, i1, i2, e3, -, i3, -⟩ := (sk_cases fr at_ r s m hg).resolve_left (by omega)
  have hQ : ∀ M1, RF c M M1 → M1 275 14 = c + 1 → (∀ w, 0 ≤ w → w < 7 → M1 (285 + w) c = rlg N (sk N fr at_ r s m / 6) (sk N fr at_ r s m % 6) (skI N fr at_ r s m) s m (if w = 6 then 7 else w)) → Q 0 M1 := hQ
  generalize hl : sk N fr at_ r s m / 6 = l at *
  generalize ht : sk N fr at_ r s m % 6 = t at *
  generalize hi : skI N fr at_ r s m = i at *
  have hkk := hg.lineK a0 a1
  refine E_R_putRide (B_R_putRide_0 ?_)
  rw [hc, h4, h5, h6, hN.stop a0 a1 (i := i) i0 (by omega) rfl, hN.min a0 a1 b0 b1 (i := i) i0 (by omega) rfl]
  refine ⟨by omega, by omega, by omega, by omega, by omega, by omega, by omega, by omega, by omega, ?_⟩
  have rows : ∀ w, 0 ≤ w → w < 6 → up2 (up2 (up2 (up2 (up2 (up2 M 285 c l) 286 c t) 287 c (N.sp l i)) 288 c s) 289 c (N.mi l t i)) 290 c m (285 + w) c = rlg N l t i s m (if w = 6 then 7 else w) := by
    intro w w0 w1
    rw [if_neg (by omega)]
    rcases (show w = 0 ∨ w = 1 ∨ w = 2 ∨ w = 3 ∨ w = 4 ∨ w = 5 by omega) with rfl | rfl | rfl | rfl | rfl | rfl <;> simp (config := {decide := true}) only [up2_app, rlg, and_true, true_and, if_true, if_false]
  have frame : ∀ a j, ¬ (285 ≤ a ∧ a ≤ 291 ∧ c ≤ j) → up2 (up2 (up2 (up2 (up2 (up2 M 285 c l) 286 c t) 287 c (N.sp l i)) 288 c s) 289 c (N.mi l t i)) 290 c m a j = M a j := by
    intro a j q
    rw [up2_ni (by omega), up2_ni (by omega), up2_ni (by omega), up2_ni (by omega), up2_ni (by omega), up2_ni (by omega)]
  generalize up2 (up2 (up2 (up2 (up2 (up2 M 285 c l) 286 c t) 287 c (N.sp l i)) 288 c s) 289 c (N.mi l t i)) 290 c m = M2 at rows frame ⊢
  have hN2 : RH N M2 := hN.keep (fun a j q => frame a j (by omega))
  have w24 : M2 275 24 = i := (frame _ _ (by omega)).trans h6
  have w14 : M2 275 14 = c := (frame _ _ (by omega)).trans hc
  have key : ∀ d : Nat, ∀ e : Int, plc N l s - e = (d : Int) → i ≤ e → AW mX9_putRide 85 [(2, 275), (0, s), (9, 0), (0, c), (0, l), (0, e)] M2 Q := by
    intro d
    induction d with
    | zero =>
      intro e he hie
      have ee : e = plc N l s := by omega
      refine B_R_putRide_85 ⟨by omega, by omega, by omega, ?_⟩
      rw [hN2.stop a0 a1 (i := e) (by omega) (by omega) rfl, w24, w14]
      refine ⟨fun _ => ⟨by omega, by omega, by omega, hQ _ (fun a j q q2 => ?_) ?_ (fun w w0 w1 => ?_)⟩, fun q => absurd (by rw [ee]; exact e3) q⟩
      · rw [up2_ni (by omega), up2_ni (by omega)]
        exact frame a j q2
      · rw [up2_at ⟨rfl, rfl⟩]
      · by_cases hw : w = 6
        · rw [up2_ni (by omega), up2_at (by omega), if_pos hw]
          unfold rlg
          rw [ee]
          rfl
        · rw [up2_ni (by omega), up2_ni (by omega)]
          exact rows w w0 (by omega)
    | succ d ih =>
      intro e he hie
      refine B_R_putRide_85 ⟨by omega, by omega, by omega, ?_⟩
      rw [hN2.stop a0 a1 (i := e) (by omega) (by omega) rfl]
      refine ⟨fun q => ?_, fun _ => ⟨by omega, ih _ (by omega) (by omega)⟩⟩
      have := plc_at hg a0 a1 (i := e) (by omega) (by omega) q
      omega
  exact key (plc N l s - i).toNat i (by omega) (Int.le_refl _)
theorem r_putWalk {N : Net} {M : Mem} {Q : Int → Mem → Prop} {p s m c : Int} (hN : RH N M) (hg : Good N) (hc : M 275 14 = c) (c0 : 0 ≤ c) (c1 : c < 16) (p0 : 0 ≤ p) (p1 : p < 12) (s0 : 0 ≤ s) (s1 : s < 12) (hm : -100 ≤ m ∧ m ≤ 10000) (hQ : ∀ M1, RF c M M1 → M1 275 14 = c + 1 → (∀ w, 0 ≤ w → w < 7 → M1 (285 + w) c = wlg N p s m (if w = 6 then 7 else w)) → Q 0 M1) : Calls mX9_putWalk [(2, 275), (0, p), (0, s), (0, m)] S0 M Q := by
  have hp := hg.path p0 p1 s0 s1
  refine E_R_putWalk (B_R_putWalk_0 ?_)
  rw [hc, hN.path p0 p1 s0 s1 rfl]
  refine ⟨by omega, by omega, by omega, by omega, by omega, by omega, hQ _ (fun a j q q2 => ?_) (up2_at ⟨rfl, rfl⟩) (fun w w0 w1 => ?_)⟩
  · rw [up2_ni (by omega), up2_ni (by omega), up2_ni (by omega), up2_ni (by omega), up2_ni (by omega), up2_ni (by omega), up2_ni (by omega), up2_ni (by omega)]
  · rw [up2_ni (by omega)]
    rcases (show w = 0 ∨ w = 1 ∨ w = 2 ∨ w = 3 ∨ w = 4 ∨ w = 5 ∨ w = 6 by omega) with rfl | rfl | rfl | rfl | rfl | rfl | rfl <;> simp (config := {decide := true}) only [up2_app, wlg, and_true, true_and, if_true, if_false]
