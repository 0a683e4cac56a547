/-! delay -/
def nDelay (N : Net) (l t i m : Int) : Net := (N.ln, N.kd, N.sz, N.tr, N.sp, (fun x y z => if x = l ∧ y = t ∧ i ≤ z then N.mi x y z + m else N.mi x y z), N.rn, N.pt, N.fi)
theorem nDelay_mi (N : Net) (l t i m x y z : Int) : (nDelay N l t i m).mi x y z = if x = l ∧ y = t ∧ i ≤ z then N.mi x y z + m else N.mi x y z := rfl
theorem nDelay_good {N : Net} {l t i m : Int} (hg : Good N) (l0 : 0 ≤ l) (l1 : l < N.ln) (t0 : 0 ≤ t) (t1 : t < N.tr l) (hm : 0 ≤ m) (hf : N.mi l t (N.sz l - 1) + m ≤ 9000) : Good (nDelay N l t i m) := by
  have hg0 := hg
  obtain ⟨h1, h2, h3⟩ := hg
  refine ⟨h1, fun x x0 x1 => ?_, h3⟩
  obtain ⟨g1, g2, g3, g4, g5, g6⟩ := h2 x x0 x1
  refine ⟨g1, g2, g3, g4, g5, fun y y0 y1 => ?_⟩
  obtain ⟨w1, w2, w3, w4⟩ := g6 y y0 y1
  refine ⟨w1, w2, fun z z0 z1 => ?_, fun z z2 z0 zz z1 => ?_⟩
  · have hz := w3 z z0 z1
    rw [nDelay_mi]
    split
    · rename_i h
      rw [h.1, h.2.1] at hz ⊢
      have hz1 : z < N.sz l := by rw [← h.1]; exact z1
      have := hg0.mono l0 l1 t0 t1 z0 (show z ≤ N.sz l - 1 by omega) (by omega)
      omega
    · exact hz
  · have := w4 z z2 z0 zz z1
    rw [nDelay_mi, nDelay_mi]
    (repeat' split) <;> omega
/-- nothing has changed but the row of a trip, from a place on -/
def DlC (N : Net) (l t i m : Int) (M M1 : Mem) : Prop := (∀ a j, ¬ (a = 15 + (l * 6 + t) ∧ i ≤ j) → M1 a j = M a j) ∧ ∀ j, i ≤ j → j < N.sz l → M1 (15 + (l * 6 + t)) j = N.mi l t j + m
theorem c_putDelay {N : Net} {M : Mem} {Q : Int → Mem → Prop} {l t i m : Int} (hg : Good N) (hN : CH N 0 M) (l0 : 0 ≤ l) (l1 : l < N.ln) (t0 : 0 ≤ t) (t1 : t < N.tr l) (i0 : 0 ≤ i) (i1 : i < N.sz l) (hm : 1 ≤ m ∧ m ≤ 99) (hQ0 : 9000 < N.mi l t (N.sz l - 1) + m → Q 0 M) (hQ1 : N.mi l t (N.sz l - 1) + m ≤ 9000 → ∀ M1, DlC N l t i m M M1 → Q 1 M1) : Calls mX3_putDelay [(2, 1), (0, l), (0, t), (0, i), (0, m)] S0 M Q := by
  have hk := hg.lineK l0 l1
  have hsz := (hN.line l0 l1).2.1
  have hr := rw_14 (l * 6 + t) (by omega) (by omega)
  refine E_Net_putDelay (B_Net_putDelay_0 ?_)
  have hlast := hg.min l0 l1 t0 t1 (i := N.sz l - 1) (by omega) (by omega)
  rw [hsz, hN.min l0 l1 t0 t1 (i := N.sz l - 1) (by omega) (by omega) rfl]
  refine ⟨by omega, by omega, by omega, by omega, by omega, by omega, by omega, fun z => ?_, fun z => hQ0 (by omega)⟩
  have key : ∀ k : Nat, k ≤ (N.sz l - i).toNat → ∀ j M1, j = i + (k : Int) → (∀ a y, ¬ (a = 15 + (l * 6 + t) ∧ i ≤ y) → M1 a y = M a y) → (∀ y, i ≤ y → y < j → M1 (15 + (l * 6 + t)) y = N.mi l t y + m) → (∀ y, j ≤ y → M1 (15 + (l * 6 + t)) y = M (15 + (l * 6 + t)) y) → AW mX3_putDelay 41 [(9, 0), (9, 0), (9, 0), (9, 0), (0, m), (2, 15 + (l * 6 + t)), (0, N.sz l), (0, j)] M1 Q := by
    refine up_ind _ ?_ ?_
    · intro j M1 hj f1 f2 f3
      exact B_Net_putDelay_41 hr ⟨fun _ => hQ1 z M1 ⟨f1, fun y y0 y1 => f2 y y0 (by omega)⟩, fun q => absurd (by omega) q⟩
    · intro k hk2 ih j M1 hj f1 f2 f3
      have hmi := hg.min l0 l1 t0 t1 (i := j) (by omega) (by omega)
      refine B_Net_putDelay_41 hr ⟨fun q => absurd q (by omega), fun _ => ?_⟩
      rw [f3 j (Int.le_refl _), hN.min l0 l1 t0 t1 (i := j) (by omega) (by omega) rfl]
      refine ⟨by omega, by omega, by omega, ih _ _ (by omega) (fun a y q => ?_) (fun y y0 y1 => ?_) (fun y y0 => ?_)⟩
      · rw [up2_ni (by omega)]
        exact f1 a y q
      · by_cases e : y = j
        · rw [e, up2_at ⟨rfl, rfl⟩]
        · rw [up2_ni (by omega)]
          exact f2 y y0 (by omega)
      · rw [up2_ni (by omega)]
        exact f3 y (by omega)
  exact key 0 (Nat.zero_le _) i M (by omega) (fun _ _ _ => rfl) (fun y y0 y1 => absurd y1 (by omega)) (fun _ _ => rfl)
def DlR (N : Net) (l t i m : Int) (M M1 : Mem) : Prop := (∀ a j, ¬ (a = 281 ∧ 36 * l + 6 * t + i ≤ j ∧ j < 36 * l + 6 * t + N.sz l) → M1 a j = M a j) ∧ ∀ j, i ≤ j → j < N.sz l → M1 281 (36 * l + 6 * t + j) = N.mi l t j + m
theorem r_delays {N : Net} {M : Mem} {Q : Int → Mem → Prop} {l t i m : Int} (hg : Good N) (hN : RH N M) (l0 : 0 ≤ l) (l1 : l < N.ln) (t0 : 0 ≤ t) (t1 : t < N.tr l) (i0 : 0 ≤ i) (i1 : i < N.sz l) (hm : 1 ≤ m ∧ m ≤ 99) (hQ1 : ∀ M1, DlR N l t i m M M1 → Q 0 M1) : Calls mX9_delays [(2, 275), (0, l), (0, t), (0, i), (0, m)] S0 M Q := by
  have hk := hg.lineK l0 l1
  refine E_R_delays (B_R_delays_0 ?_)
  have key : ∀ k : Nat, k ≤ (N.sz l - i).toNat → ∀ j M1, j = i + (k : Int) → (∀ a y, ¬ (a = 281 ∧ 36 * l + 6 * t + i ≤ y ∧ y < 36 * l + 6 * t + N.sz l) → M1 a y = M a y) → (∀ y, i ≤ y → y < j → M1 281 (36 * l + 6 * t + y) = N.mi l t y + m) → (∀ y, j ≤ y → M1 281 (36 * l + 6 * t + y) = M 281 (36 * l + 6 * t + y)) → AW mX9_delays 3 [(2, 275), (0, l), (0, t), (9, 0), (0, m), (0, j)] M1 Q := by
    refine up_ind _ ?_ ?_
    · intro j M1 hj f1 f2 f3
      have hsz : M1 277 l = N.sz l := (f1 _ _ (by omega)).trans (hN.line l0 l1).2.1
      exact B_R_delays_3 ⟨by omega, fun _ => hQ1 M1 ⟨f1, fun y y0 y1 => f2 y y0 (by omega)⟩, fun q => absurd (by omega) q⟩
    · intro k hk2 ih j M1 hj f1 f2 f3
      have hsz : M1 277 l = N.sz l := (f1 _ _ (by omega)).trans (hN.line l0 l1).2.1
      have hmi := hg.min l0 l1 t0 t1 (i := j) (by omega) (by omega)
      refine B_R_delays_3 ⟨by omega, fun q => absurd q (by omega), fun _ => ?_⟩
      rw [f3 j (Int.le_refl _), hN.min l0 l1 t0 t1 (i := j) (by omega) (by omega) rfl]
      refine ⟨by omega, by omega, by omega, by omega, by omega, by omega, by omega, ih _ _ (by omega) (fun a y q => ?_) (fun y y0 y1 => ?_) (fun y y0 => ?_)⟩
      · rw [up2_ni (by omega)]
        exact f1 a y q
      · by_cases e : y = j
        · rw [e, up2_at ⟨rfl, rfl⟩]
        · rw [up2_ni (by omega)]
          exact f2 y y0 (by omega)
      · rw [up2_ni (by omega)]
        exact f3 y (by omega)
  exact key 0 (Nat.zero_le _) i M (by omega) (fun _ _ _ => rfl) (fun y y0 y1 => absurd y1 (by omega)) (fun _ _ => rfl)
theorem nDelay_ch {N : Net} {l t i m : Int} {M M1 : Mem} (hg : Good N) (h : CH N 0 M) (l0 : 0 ≤ l) (l1 : l < N.ln) (t0 : 0 ≤ t) (t1 : t < N.tr l) (hd : DlC N l t i m M M1) : CH (nDelay N l t i m) 0 M1 := by
  obtain ⟨h1, h2, h3⟩ := h
  obtain ⟨d1, d2⟩ := hd
  have hkl := hg.lineK l0 l1
  refine ⟨by rw [d1 _ _ (by omega)]; exact h1, fun x x0 x1 => ?_, fun x y x0 x1 y0 y1 => by rw [d1 _ _ (by omega)]; exact h3 x y x0 x1 y0 y1⟩
  have hk := hg.lineK x0 (show x < N.ln from x1)
  obtain ⟨q1, q2, q3, q4, q5⟩ := h2 x x0 x1
  refine ⟨by rw [d1 _ _ (by omega)]; exact q1, by rw [d1 _ _ (by omega)]; exact q2, by rw [d1 _ _ (by omega)]; exact q3, fun j j0 j1 => by rw [d1 _ _ (by omega)]; exact q4 j j0 j1, fun y y0 y1 => ?_⟩
  have y1' : y < N.tr x := y1
  obtain ⟨w1, w2⟩ := q5 y y0 y1
  refine ⟨by rw [d1 _ _ (by omega)]; exact w1, fun j j0 j1 => ?_⟩
  have j1' : j < N.sz x := j1
  rw [nDelay_mi]
  by_cases e : x = l ∧ y = t ∧ i ≤ j
  · rw [if_pos e, show 15 + (0 : Int) + (x * 6 + y) = 15 + (l * 6 + t) by omega, e.1, e.2.1]
    exact d2 j e.2.2 (by rw [← e.1]; exact j1')
  · rw [if_neg e, d1 _ _ (by omega)]
    exact w2 j j0 j1
theorem nDelay_rh {N : Net} {l t i m : Int} {M M1 : Mem} (hg : Good N) (h : RH N M) (l0 : 0 ≤ l) (l1 : l < N.ln) (t0 : 0 ≤ t) (t1 : t < N.tr l) (i0 : 0 ≤ i) (hd : DlR N l t i m M M1) : RH (nDelay N l t i m) M1 := by
  obtain ⟨h1, h2, h3⟩ := h
  obtain ⟨d1, d2⟩ := hd
  have hkl := hg.lineK l0 l1
  refine ⟨by rw [d1 _ _ (by omega)]; exact h1, fun x x0 x1 => ?_, fun x y x0 x1 y0 y1 => by rw [d1 _ _ (by omega)]; exact h3 x y x0 x1 y0 y1⟩
  have hk := hg.lineK x0 (show x < N.ln from x1)
  obtain ⟨q1, q2, q3, q4, q5⟩ := h2 x x0 x1
  refine ⟨by rw [d1 _ _ (by omega)]; exact q1, by rw [d1 _ _ (by omega)]; exact q2, by rw [d1 _ _ (by omega)]; exact q3, fun j j0 j1 => by rw [d1 _ _ (by omega)]; exact q4 j j0 j1, fun y y0 y1 => ?_⟩
  have y1' : y < N.tr x := y1
  obtain ⟨w1, w2⟩ := q5 y y0 y1
  refine ⟨by rw [d1 _ _ (by omega)]; exact w1, fun j j0 j1 => ?_⟩
  have j1' : j < N.sz x := j1
  rw [nDelay_mi]
  by_cases e : x = l ∧ y = t ∧ i ≤ j
  · rw [if_pos e, show 36 * x + 6 * y + j = 36 * l + 6 * t + j by omega, e.1, e.2.1]
    exact d2 j e.2.2 (by rw [← e.1]; exact j1')
  · rw [if_neg e, d1 _ _ (by omega)]
    exact w2 j j0 j1
set_option maxHeartbeats 4000000 in
theorem b_delay (l t i m : Int) : Bo mX8_delay mX9_delay [(0, l), (0, t), (0, i), (0, m)] := by
  intro M K ⟨N, hI⟩ hK
  have hg := hI.g
  have h0 := hg.1
  have hS : Sc M (up2 M 275 8 0) := Sc.rf.up scr8
  have hk : ∀ v, K v v (up2 M 275 8 0) := fun v => hK v _ ⟨N, hI.sc hS⟩
  have hlc := hI.c.lines
  have hlr := hI.r.1
  by_cases hl : 0 ≤ l ∧ l < N.ln
  · obtain ⟨l0, l1⟩ := hl
    have hkk := hg.lineK l0 l1
    obtain ⟨-, sc, tc⟩ := hI.c.line l0 l1
    obtain ⟨-, sr, tr⟩ := hI.r.line l0 l1
    by_cases hok : (0 ≤ t ∧ t < N.tr l) ∧ (0 ≤ i ∧ i < N.sz l) ∧ 1 ≤ m ∧ m ≤ 99
    · obtain ⟨⟨t0, t1⟩, ⟨i0, i1⟩, hm⟩ := hok
      have hlast := hg.min l0 l1 t0 t1 (i := N.sz l - 1) (by omega) (by omega)
      refine E_C_delay (B_C_delay_0 ⟨fun z => absurd z (by omega), fun _ => ⟨fun z => absurd z (by omega), fun _ => ⟨fun z => absurd z (by omega), fun _ => ⟨by omega, fun z => absurd z (by omega), fun _ => ⟨fun z => absurd z (by omega), fun _ => ⟨fun z => absurd z (by omega), fun _ => ⟨fun z => absurd z (by omega), fun _ => ⟨fun _ => ?_, fun z => absurd hm.2 z⟩⟩⟩⟩⟩⟩⟩⟩)
      refine c_putDelay hg hI.c l0 l1 t0 t1 i0 i1 hm (fun hf => ⟨fun z => absurd rfl z, fun _ => ?_⟩) (fun hf M1 hd => ⟨fun _ => ⟨by omega, by omega, by omega, by omega, ?_⟩, fun z => absurd z (by omega)⟩)
      · refine E_R_delay (B_R_delay_0 ?_)
        rw [hlr, tr, sr, hI.r.min l0 l1 t0 t1 (i := N.sz l - 1) (by omega) (by omega) rfl]
        exact ⟨by omega, fun z => absurd z (by omega), fun _ => ⟨fun z => absurd z (by omega), fun _ => ⟨by omega, by omega, fun z => absurd z (by omega), fun _ => ⟨fun z => absurd z (by omega), fun _ => ⟨by omega, fun z => absurd z (by omega), fun _ => ⟨fun z => absurd z (by omega), fun _ => ⟨fun z => absurd z (by omega), fun _ => ⟨fun z => absurd z (by omega), fun _ => ⟨by omega, by omega, by omega, by omega, by omega, by omega, fun z => absurd z (by omega), fun _ => hk _⟩⟩⟩⟩⟩⟩⟩⟩⟩
      · rw [hd.2 i (Int.le_refl _) i1]
        have f1 : ∀ a j, 77 ≤ a → M1 a j = M a j := fun a j q => hd.1 a j (by omega)
        have hr1 : RH N M1 := hI.r.keep (fun a j q => f1 a j (by omega))
        have hr2 : RH N (up2 M1 275 8 0) := hr1.keep (fun a j q => by rw [up2_ni (by omega)])
        refine E_R_delay (B_R_delay_0 ?_)
        rw [hr1.1, (hr1.line l0 l1).2.2, (hr1.line l0 l1).2.1, hr1.min l0 l1 t0 t1 (i := N.sz l - 1) (by omega) (by omega) rfl]
        refine ⟨by omega, fun z => absurd z (by omega), fun _ => ⟨fun z => absurd z (by omega), fun _ => ⟨by omega, by omega, fun z => absurd z (by omega), fun _ => ⟨fun z => absurd z (by omega), fun _ => ⟨by omega, fun z => absurd z (by omega), fun _ => ⟨fun z => absurd z (by omega), fun _ => ⟨fun z => absurd z (by omega), fun _ => ⟨fun z => absurd z (by omega), fun _ => ⟨by omega, by omega, by omega, by omega, by omega, by omega, fun _ => ?_, fun z => absurd hf z⟩⟩⟩⟩⟩⟩⟩⟩⟩
        refine r_delays hg hr2 l0 l1 t0 t1 i0 i1 hm (fun M2 hd2 => ⟨by omega, by omega, ?_⟩)
        rw [hd2.2 i (Int.le_refl _) i1]
        have gd := nDelay_good (i := i) hg l0 l1 t0 t1 (show 0 ≤ m by omega) hf
        refine hK _ _ ⟨nDelay N l t i m, hI.net (fun x y q q2 q3 q4 => ?_) gd ((nDelay_ch hg hI.c l0 l1 t0 t1 hd).keep gd (fun x y q q2 => ?_)) (nDelay_rh hg hr2 l0 l1 t0 t1 i0 hd2)⟩
        · rw [hd2.1 x y (by omega), up2_ni (fun w => q (by unfold scr; omega)), hd.1 x y (by omega)]
        · rw [hd2.1 x y (by omega), up2_ni (by omega)]
    · have hr : Calls mX9_delay [(2, 275), (0, l), (0, t), (0, i), (0, m)] S0 M (fun r2 M2 => K (if (0 ≤ t ∧ t < N.tr l) ∧ 0 ≤ i ∧ i < N.sz l then -2 else -1) r2 M2) := by
        have hv : ∀ v, (v = if (0 ≤ t ∧ t < N.tr l) ∧ 0 ≤ i ∧ i < N.sz l then -2 else -1) → K (if (0 ≤ t ∧ t < N.tr l) ∧ 0 ≤ i ∧ i < N.sz l then -2 else -1) v (up2 M 275 8 0) := fun v h => h ▸ hk _
        refine E_R_delay (B_R_delay_0 ?_)
        rw [hlr, tr, sr]
        repeat' (first | refine And.intro ?_ ?_ | refine imp_i (fun _ => ?_))
        all_goals (first | omega | exact hv _ (by split <;> omega) | skip)
        all_goals (exfalso; omega)
      have hv : ∀ v, (v = if (0 ≤ t ∧ t < N.tr l) ∧ 0 ≤ i ∧ i < N.sz l then -2 else -1) → Calls mX9_delay [(2, 275), (0, l), (0, t), (0, i), (0, m)] S0 M (fun r2 M2 => K v r2 M2) := fun v h => h ▸ hr
      refine E_C_delay (B_C_delay_0 ?_)
      rw [hlc, tc, sc]
      repeat' (first | refine And.intro ?_ ?_ | refine imp_i (fun _ => ?_))
      all_goals (first | omega | exact hv _ (by split <;> omega) | skip)
      all_goals (exfalso; omega)
  · have hr : Calls mX9_delay [(2, 275), (0, l), (0, t), (0, i), (0, m)] S0 M (fun r2 M2 => K (-1) r2 M2) :=
      E_R_delay (B_R_delay_0 ⟨by omega, fun _ => hk _, fun _ => ⟨fun _ => hk _, fun z => absurd (by omega) hl⟩⟩)
    exact E_C_delay (B_C_delay_0 ⟨fun _ => hr, fun _ => ⟨fun _ => hr, fun z => absurd (by omega) hl⟩⟩)
