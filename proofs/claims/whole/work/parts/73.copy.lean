/-! COPIES OF A TIMETABLE -/
/-- so much of the timetable at 1 + e has been copied to 1 + d -/
def CPI (d e : Int) (M : Mem) (a b c : Int) (M1 : Mem) : Prop := (∀ x i, ¬ (1 + d ≤ x ∧ x ≤ 76 + d) → M1 x i = M x i) ∧ (M1 (1 + d) 0 = M (1 + e) 0 ∧ (∀ i, 0 ≤ i → i < 8 → M1 (2 + d) i = M (2 + e) i ∧ M1 (3 + d) i = M (3 + e) i ∧ M1 (4 + d) i = M (4 + e) i) ∧ ∀ i, 0 ≤ i → i < 48 → M1 (63 + d) i = M (63 + e) i) ∧ (∀ l i, 0 ≤ l → l < a → 0 ≤ i → i < 6 → M1 (6 + d + l) i = M (6 + e + l) i) ∧ (∀ r i, 0 ≤ r → r < b → 0 ≤ i → i < 6 → M1 (15 + d + r) i = M (15 + e + r) i) ∧ ∀ s i, 0 ≤ s → s < c → 0 ≤ i → i < 12 → M1 (65 + d + s) i = M (65 + e + s) i
theorem cpyM_ne {M : Mem} {x y n b j : Int} (h : b ≠ y) : cpyM M x y n b j = M b j := by
  unfold cpyM
  rw [if_neg (fun z => h z.1)]
theorem cpyM_at {M : Mem} {x y n b j : Int} (h : b = y) (j0 : 0 ≤ j) (j1 : j < n) : cpyM M x y n b j = M x j := by
  unfold cpyM
  rw [if_pos ⟨h, j0, j1⟩]
theorem CPI.r1 {d e a b c x y : Int} {M M1 : Mem} (h : CPI d e M a b c M1) (hs : e + 76 ≤ d ∨ d + 76 ≤ e) (a0 : 0 ≤ a) (a1 : a < 8) (hx : x = 6 + e + a) (hy : y = 6 + d + a) : CPI d e M (a + 1) b c (cpyM M1 x y 6) := by
  obtain ⟨h1, ⟨h2, h3, h4⟩, h5, h6, h7⟩ := h
  subst hx hy
  refine ⟨fun z i q => by rw [cpyM_ne (by omega)]; exact h1 z i q, ⟨by rw [cpyM_ne (by omega)]; exact h2, fun i i0 i1 => by rw [cpyM_ne (by omega), cpyM_ne (by omega), cpyM_ne (by omega)]; exact h3 i i0 i1, fun i i0 i1 => by rw [cpyM_ne (by omega)]; exact h4 i i0 i1⟩, fun l i l0 l1 i0 i1 => ?_, fun r i r0 r1 i0 i1 => ?_, fun s i s0 s1 i0 i1 => ?_⟩
  · by_cases el : l = a
    · rw [el, cpyM_at rfl i0 i1]
      exact h1 _ _ (by omega)
    · rw [cpyM_ne (by omega)]
      exact h5 l i l0 (by omega) i0 i1
  · by_cases hb : 15 + d + r = 6 + d + a
    · omega
    · rw [cpyM_ne hb]
      exact h6 r i r0 r1 i0 i1
  · by_cases hb : 65 + d + s = 6 + d + a
    · omega
    · rw [cpyM_ne hb]
      exact h7 s i s0 s1 i0 i1
theorem CPI.r2 {d e a b c x y : Int} {M M1 : Mem} (h : CPI d e M a b c M1) (hs : e + 76 ≤ d ∨ d + 76 ≤ e) (ha : a ≤ 8) (b0 : 0 ≤ b) (b1 : b < 48) (hx : x = 15 + e + b) (hy : y = 15 + d + b) : CPI d e M a (b + 1) c (cpyM M1 x y 6) := by
  obtain ⟨h1, ⟨h2, h3, h4⟩, h5, h6, h7⟩ := h
  subst hx hy
  refine ⟨fun z i q => by rw [cpyM_ne (by omega)]; exact h1 z i q, ⟨by rw [cpyM_ne (by omega)]; exact h2, fun i i0 i1 => by rw [cpyM_ne (by omega), cpyM_ne (by omega), cpyM_ne (by omega)]; exact h3 i i0 i1, fun i i0 i1 => by rw [cpyM_ne (by omega)]; exact h4 i i0 i1⟩, fun l i l0 l1 i0 i1 => ?_, fun r i r0 r1 i0 i1 => ?_, fun s i s0 s1 i0 i1 => ?_⟩
  · rw [cpyM_ne (by omega)]
    exact h5 l i l0 l1 i0 i1
  · by_cases el : r = b
    · rw [el, cpyM_at rfl i0 i1]
      exact h1 _ _ (by omega)
    · rw [cpyM_ne (by omega)]
      exact h6 r i r0 (by omega) i0 i1
  · rw [cpyM_ne (by omega)]
    exact h7 s i s0 s1 i0 i1
theorem CPI.r3 {d e a b c x y : Int} {M M1 : Mem} (h : CPI d e M a b c M1) (hs : e + 76 ≤ d ∨ d + 76 ≤ e) (ha : a ≤ 8) (hb : b ≤ 48) (c0 : 0 ≤ c) (c1 : c < 12) (hx : x = 65 + e + c) (hy : y = 65 + d + c) : CPI d e M a b (c + 1) (cpyM M1 x y 12) := by
  obtain ⟨h1, ⟨h2, h3, h4⟩, h5, h6, h7⟩ := h
  subst hx hy
  refine ⟨fun z i q => by rw [cpyM_ne (by omega)]; exact h1 z i q, ⟨by rw [cpyM_ne (by omega)]; exact h2, fun i i0 i1 => by rw [cpyM_ne (by omega), cpyM_ne (by omega), cpyM_ne (by omega)]; exact h3 i i0 i1, fun i i0 i1 => by rw [cpyM_ne (by omega)]; exact h4 i i0 i1⟩, fun l i l0 l1 i0 i1 => ?_, fun r i r0 r1 i0 i1 => ?_, fun s i s0 s1 i0 i1 => ?_⟩
  · rw [cpyM_ne (by omega)]
    exact h5 l i l0 l1 i0 i1
  · rw [cpyM_ne (by omega)]
    exact h6 r i r0 r1 i0 i1
  · by_cases el : s = c
    · rw [el, cpyM_at rfl i0 i1]
      exact h1 _ _ (by omega)
    · rw [cpyM_ne (by omega)]
      exact h7 s i s0 (by omega) i0 i1
/-- a timetable has been copied -/
abbrev CPY (d e : Int) (M M1 : Mem) : Prop := CPI d e M 8 48 12 M1
theorem CPY.ch {d e : Int} {N : Net} {M M1 : Mem} (h : CPY d e M M1) (hg : Good N) (hN : CH N e M) : CH N d M1 := by
  obtain ⟨h1, ⟨h2, h3, h4⟩, h5, h6, h7⟩ := h
  obtain ⟨n1, n2, n3⟩ := hN
  refine ⟨h2.trans n1, fun l l0 l1 => ?_, fun x y x0 x1 y0 y1 => (h7 x y x0 x1 y0 y1).trans (n3 x y x0 x1 y0 y1)⟩
  have hk := hg.lineK l0 l1
  obtain ⟨q1, q2, q3, q4, q5⟩ := n2 l l0 l1
  obtain ⟨w1, w2, w3⟩ := h3 l l0 hk.1
  refine ⟨w1.trans q1, w2.trans q2, w3.trans q3, fun i i0 i1 => (h5 l i l0 hk.1 i0 (by omega)).trans (q4 i i0 i1), fun t t0 t1 => ?_⟩
  obtain ⟨u1, u2⟩ := q5 t t0 t1
  exact ⟨(h4 _ (by omega) (by omega)).trans u1, fun i i0 i1 => (h6 _ _ (by omega) (by omega) i0 (by omega)).trans (u2 i i0 i1)⟩
set_option maxHeartbeats 4000000 in
theorem c_copy1 {M : Mem} {Q : Int → Mem → Prop} (hQ : ∀ M1, CPY 0 152 M M1 → Q 0 M1) : Calls mX3_copyFrom [(2, 1), (2, 153)] S0 M Q := by
  have p3 : ∀ k : Nat, k ≤ 12 → ∀ i M1, i = (k : Int) → CPI 0 152 M 8 48 i M1 → AW mX3_copyFrom 136 [(2, 1), (2, 153), (0, i)] M1 Q := by
    refine up_ind _ ?_ ?_
    · intro i M1 hi h
      obtain rfl : i = 12 := by omega
      exact B_Net_copyFrom_1_136 ⟨fun _ => hQ M1 h, fun q => absurd (by omega) q⟩
    · intro k hk ih i M1 hi h
      exact B_Net_copyFrom_1_136 ⟨fun q => absurd q (by omega), fun _ => ⟨by omega, by omega, ih _ _ (by omega) (h.r3 (by omega) (by omega) (by omega) (by omega) (by omega) (by omega) (by omega))⟩⟩
  have p2 : ∀ k : Nat, k ≤ 48 → ∀ i M1, i = (k : Int) → CPI 0 152 M 8 i 0 M1 → AW mX3_copyFrom 103 [(2, 1), (2, 153), (0, i)] M1 Q := by
    refine up_ind _ ?_ ?_
    · intro i M1 hi h
      obtain rfl : i = 48 := by omega
      exact B_Net_copyFrom_1_103 ⟨fun _ => p3 0 (by omega) 0 M1 rfl h, fun q => absurd (by omega) q⟩
    · intro k hk ih i M1 hi h
      exact B_Net_copyFrom_1_103 ⟨fun q => absurd q (by omega), fun _ => ⟨by omega, by omega, ih _ _ (by omega) (h.r2 (by omega) (by omega) (by omega) (by omega) (by omega) (by omega))⟩⟩
  have p1 : ∀ k : Nat, k ≤ 8 → ∀ i M1, i = (k : Int) → CPI 0 152 M i 0 0 M1 → AW mX3_copyFrom 70 [(2, 1), (2, 153), (0, i)] M1 Q := by
    refine up_ind _ ?_ ?_
    · intro i M1 hi h
      obtain rfl : i = 8 := by omega
      exact B_Net_copyFrom_1_70 ⟨fun _ => p2 0 (by omega) 0 M1 rfl h, fun q => absurd (by omega) q⟩
    · intro k hk ih i M1 hi h
      exact B_Net_copyFrom_1_70 ⟨fun q => absurd q (by omega), fun _ => ⟨by omega, by omega, ih _ _ (by omega) (h.r1 (by omega) (by omega) (by omega) (by omega) (by omega))⟩⟩
  refine E_Net_copyFrom_1 (B_Net_copyFrom_1_0 (p1 0 (by omega) 0 _ rfl ⟨fun x i q => ?_, ⟨?_, fun i i0 i1 => ⟨?_, ?_, ?_⟩, fun i i0 i1 => ?_⟩, fun l i l0 l1 => absurd l1 (by omega), fun l i l0 l1 => absurd l1 (by omega), fun l i l0 l1 => absurd l1 (by omega)⟩))
  · rw [cpyM_ne (by omega), cpyM_ne (by omega), cpyM_ne (by omega), cpyM_ne (by omega), up2_ne (by omega)]
  · rw [cpyM_ne (by omega), cpyM_ne (by omega), cpyM_ne (by omega), cpyM_ne (by omega), up2_at (by omega)]
    rfl
  · rw [cpyM_ne (by omega), cpyM_ne (by omega), cpyM_ne (by omega), cpyM_at (by omega) i0 i1, up2_ne (by omega)]
    rfl
  · rw [cpyM_ne (by omega), cpyM_ne (by omega), cpyM_at (by omega) i0 i1, cpyM_ne (by omega), up2_ne (by omega)]
    rfl
  · rw [cpyM_ne (by omega), cpyM_at (by omega) i0 i1, cpyM_ne (by omega), cpyM_ne (by omega), up2_ne (by omega)]
    rfl
  · rw [cpyM_at (by omega) i0 i1, cpyM_ne (by omega), cpyM_ne (by omega), cpyM_ne (by omega), up2_ne (by omega)]
    rfl
set_option maxHeartbeats 4000000 in
theorem c_copy2 {M : Mem} {Q : Int → Mem → Prop} (hQ : ∀ M1, CPY 0 76 M M1 → Q 0 M1) : Calls mX3_copyFrom [(2, 1), (2, 77)] S0 M Q := by
  have p3 : ∀ k : Nat, k ≤ 12 → ∀ i M1, i = (k : Int) → CPI 0 76 M 8 48 i M1 → AW mX3_copyFrom 136 [(2, 1), (2, 77), (0, i)] M1 Q := by
    refine up_ind _ ?_ ?_
    · intro i M1 hi h
      obtain rfl : i = 12 := by omega
      exact B_Net_copyFrom_2_136 ⟨fun _ => hQ M1 h, fun q => absurd (by omega) q⟩
    · intro k hk ih i M1 hi h
      exact B_Net_copyFrom_2_136 ⟨fun q => absurd q (by omega), fun _ => ⟨by omega, by omega, ih _ _ (by omega) (h.r3 (by omega) (by omega) (by omega) (by omega) (by omega) (by omega) (by omega))⟩⟩
  have p2 : ∀ k : Nat, k ≤ 48 → ∀ i M1, i = (k : Int) → CPI 0 76 M 8 i 0 M1 → AW mX3_copyFrom 103 [(2, 1), (2, 77), (0, i)] M1 Q := by
    refine up_ind _ ?_ ?_
    · intro i M1 hi h
      obtain rfl : i = 48 := by omega
      exact B_Net_copyFrom_2_103 ⟨fun _ => p3 0 (by omega) 0 M1 rfl h, fun q => absurd (by omega) q⟩
    · intro k hk ih i M1 hi h
      exact B_Net_copyFrom_2_103 ⟨fun q => absurd q (by omega), fun _ => ⟨by omega, by omega, ih _ _ (by omega) (h.r2 (by omega) (by omega) (by omega) (by omega) (by omega) (by omega))⟩⟩
  have p1 : ∀ k : Nat, k ≤ 8 → ∀ i M1, i = (k : Int) → CPI 0 76 M i 0 0 M1 → AW mX3_copyFrom 70 [(2, 1), (2, 77), (0, i)] M1 Q := by
    refine up_ind _ ?_ ?_
    · intro i M1 hi h
      obtain rfl : i = 8 := by omega
      exact B_Net_copyFrom_2_70 ⟨fun _ => p2 0 (by omega) 0 M1 rfl h, fun q => absurd (by omega) q⟩
    · intro k hk ih i M1 hi h
      exact B_Net_copyFrom_2_70 ⟨fun q => absurd q (by omega), fun _ => ⟨by omega, by omega, ih _ _ (by omega) (h.r1 (by omega) (by omega) (by omega) (by omega) (by omega))⟩⟩
  refine E_Net_copyFrom_2 (B_Net_copyFrom_2_0 (p1 0 (by omega) 0 _ rfl ⟨fun x i q => ?_, ⟨?_, fun i i0 i1 => ⟨?_, ?_, ?_⟩, fun i i0 i1 => ?_⟩, fun l i l0 l1 => absurd l1 (by omega), fun l i l0 l1 => absurd l1 (by omega), fun l i l0 l1 => absurd l1 (by omega)⟩))
  · rw [cpyM_ne (by omega), cpyM_ne (by omega), cpyM_ne (by omega), cpyM_ne (by omega), up2_ne (by omega)]
  · rw [cpyM_ne (by omega), cpyM_ne (by omega), cpyM_ne (by omega), cpyM_ne (by omega), up2_at (by omega)]
    rfl
  · rw [cpyM_ne (by omega), cpyM_ne (by omega), cpyM_ne (by omega), cpyM_at (by omega) i0 i1, up2_ne (by omega)]
    rfl
  · rw [cpyM_ne (by omega), cpyM_ne (by omega), cpyM_at (by omega) i0 i1, cpyM_ne (by omega), up2_ne (by omega)]
    rfl
  · rw [cpyM_ne (by omega), cpyM_at (by omega) i0 i1, cpyM_ne (by omega), cpyM_ne (by omega), up2_ne (by omega)]
    rfl
  · rw [cpyM_at (by omega) i0 i1, cpyM_ne (by omega), cpyM_ne (by omega), cpyM_ne (by omega), up2_ne (by omega)]
    rfl
set_option maxHeartbeats 4000000 in
theorem c_copy3 {M : Mem} {Q : Int → Mem → Prop} (hQ : ∀ M1, CPY 152 0 M M1 → Q 0 M1) : Calls mX3_copyFrom [(2, 153), (2, 1)] S0 M Q := by
  have p3 : ∀ k : Nat, k ≤ 12 → ∀ i M1, i = (k : Int) → CPI 152 0 M 8 48 i M1 → AW mX3_copyFrom 136 [(2, 153), (2, 1), (0, i)] M1 Q := by
    refine up_ind _ ?_ ?_
    · intro i M1 hi h
      obtain rfl : i = 12 := by omega
      exact B_Net_copyFrom_3_136 ⟨fun _ => hQ M1 h, fun q => absurd (by omega) q⟩
    · intro k hk ih i M1 hi h
      exact B_Net_copyFrom_3_136 ⟨fun q => absurd q (by omega), fun _ => ⟨by omega, by omega, ih _ _ (by omega) (h.r3 (by omega) (by omega) (by omega) (by omega) (by omega) (by omega) (by omega))⟩⟩
  have p2 : ∀ k : Nat, k ≤ 48 → ∀ i M1, i = (k : Int) → CPI 152 0 M 8 i 0 M1 → AW mX3_copyFrom 103 [(2, 153), (2, 1), (0, i)] M1 Q := by
    refine up_ind _ ?_ ?_
    · intro i M1 hi h
      obtain rfl : i = 48 := by omega
      exact B_Net_copyFrom_3_103 ⟨fun _ => p3 0 (by omega) 0 M1 rfl h, fun q => absurd (by omega) q⟩
    · intro k hk ih i M1 hi h
      exact B_Net_copyFrom_3_103 ⟨fun q => absurd q (by omega), fun _ => ⟨by omega, by omega, ih _ _ (by omega) (h.r2 (by omega) (by omega) (by omega) (by omega) (by omega) (by omega))⟩⟩
  have p1 : ∀ k : Nat, k ≤ 8 → ∀ i M1, i = (k : Int) → CPI 152 0 M i 0 0 M1 → AW mX3_copyFrom 70 [(2, 153), (2, 1), (0, i)] M1 Q := by
    refine up_ind _ ?_ ?_
    · intro i M1 hi h
      obtain rfl : i = 8 := by omega
      exact B_Net_copyFrom_3_70 ⟨fun _ => p2 0 (by omega) 0 M1 rfl h, fun q => absurd (by omega) q⟩
    · intro k hk ih i M1 hi h
      exact B_Net_copyFrom_3_70 ⟨fun q => absurd q (by omega), fun _ => ⟨by omega, by omega, ih _ _ (by omega) (h.r1 (by omega) (by omega) (by omega) (by omega) (by omega))⟩⟩
  refine E_Net_copyFrom_3 (B_Net_copyFrom_3_0 (p1 0 (by omega) 0 _ rfl ⟨fun x i q => ?_, ⟨?_, fun i i0 i1 => ⟨?_, ?_, ?_⟩, fun i i0 i1 => ?_⟩, fun l i l0 l1 => absurd l1 (by omega), fun l i l0 l1 => absurd l1 (by omega), fun l i l0 l1 => absurd l1 (by omega)⟩))
  · rw [cpyM_ne (by omega), cpyM_ne (by omega), cpyM_ne (by omega), cpyM_ne (by omega), up2_ne (by omega)]
  · rw [cpyM_ne (by omega), cpyM_ne (by omega), cpyM_ne (by omega), cpyM_ne (by omega), up2_at (by omega)]
    rfl
  · rw [cpyM_ne (by omega), cpyM_ne (by omega), cpyM_ne (by omega), cpyM_at (by omega) i0 i1, up2_ne (by omega)]
    rfl
  · rw [cpyM_ne (by omega), cpyM_ne (by omega), cpyM_at (by omega) i0 i1, cpyM_ne (by omega), up2_ne (by omega)]
    rfl
  · rw [cpyM_ne (by omega), cpyM_at (by omega) i0 i1, cpyM_ne (by omega), cpyM_ne (by omega), up2_ne (by omega)]
    rfl
  · rw [cpyM_at (by omega) i0 i1, cpyM_ne (by omega), cpyM_ne (by omega), cpyM_ne (by omega), up2_ne (by omega)]
    rfl
set_option maxHeartbeats 4000000 in
theorem c_copy4 {M : Mem} {Q : Int → Mem → Prop} (hQ : ∀ M1, CPY 76 0 M M1 → Q 0 M1) : Calls mX3_copyFrom [(2, 77), (2, 1)] S0 M Q := by
  have p3 : ∀ k : Nat, k ≤ 12 → ∀ i M1, i = (k : Int) → CPI 76 0 M 8 48 i M1 → AW mX3_copyFrom 136 [(2, 77), (2, 1), (0, i)] M1 Q := by
    refine up_ind _ ?_ ?_
    · intro i M1 hi h
      obtain rfl : i = 12 := by omega
      exact B_Net_copyFrom_4_136 ⟨fun _ => hQ M1 h, fun q => absurd (by omega) q⟩
    · intro k hk ih i M1 hi h
      exact B_Net_copyFrom_4_136 ⟨fun q => absurd q (by omega), fun _ => ⟨by omega, by omega, ih _ _ (by omega) (h.r3 (by omega) (by omega) (by omega) (by omega) (by omega) (by omega) (by omega))⟩⟩
  have p2 : ∀ k : Nat, k ≤ 48 → ∀ i M1, i = (k : Int) → CPI 76 0 M 8 i 0 M1 → AW mX3_copyFrom 103 [(2, 77), (2, 1), (0, i)] M1 Q := by
    refine up_ind _ ?_ ?_
    · intro i M1 hi h
      obtain rfl : i = 48 := by omega
      exact B_Net_copyFrom_4_103 ⟨fun _ => p3 0 (by omega) 0 M1 rfl h, fun q => absurd (by omega) q⟩
    · intro k hk ih i M1 hi h
      exact B_Net_copyFrom_4_103 ⟨fun q => absurd q (by omega), fun _ => ⟨by omega, by omega, ih _ _ (by omega) (h.r2 (by omega) (by omega) (by omega) (by omega) (by omega) (by omega))⟩⟩
  have p1 : ∀ k : Nat, k ≤ 8 → ∀ i M1, i = (k : Int) → CPI 76 0 M i 0 0 M1 → AW mX3_copyFrom 70 [(2, 77), (2, 1), (0, i)] M1 Q := by
    refine up_ind _ ?_ ?_
    · intro i M1 hi h
      obtain rfl : i = 8 := by omega
      exact B_Net_copyFrom_4_70 ⟨fun _ => p2 0 (by omega) 0 M1 rfl h, fun q => absurd (by omega) q⟩
    · intro k hk ih i M1 hi h
      exact B_Net_copyFrom_4_70 ⟨fun q => absurd q (by omega), fun _ => ⟨by omega, by omega, ih _ _ (by omega) (h.r1 (by omega) (by omega) (by omega) (by omega) (by omega))⟩⟩
  refine E_Net_copyFrom_4 (B_Net_copyFrom_4_0 (p1 0 (by omega) 0 _ rfl ⟨fun x i q => ?_, ⟨?_, fun i i0 i1 => ⟨?_, ?_, ?_⟩, fun i i0 i1 => ?_⟩, fun l i l0 l1 => absurd l1 (by omega), fun l i l0 l1 => absurd l1 (by omega), fun l i l0 l1 => absurd l1 (by omega)⟩))
  · rw [cpyM_ne (by omega), cpyM_ne (by omega), cpyM_ne (by omega), cpyM_ne (by omega), up2_ne (by omega)]
  · rw [cpyM_ne (by omega), cpyM_ne (by omega), cpyM_ne (by omega), cpyM_ne (by omega), up2_at (by omega)]
    rfl
  · rw [cpyM_ne (by omega), cpyM_ne (by omega), cpyM_ne (by omega), cpyM_at (by omega) i0 i1, up2_ne (by omega)]
    rfl
  · rw [cpyM_ne (by omega), cpyM_ne (by omega), cpyM_at (by omega) i0 i1, cpyM_ne (by omega), up2_ne (by omega)]
    rfl
  · rw [cpyM_ne (by omega), cpyM_at (by omega) i0 i1, cpyM_ne (by omega), cpyM_ne (by omega), up2_ne (by omega)]
    rfl
  · rw [cpyM_at (by omega) i0 i1, cpyM_ne (by omega), cpyM_ne (by omega), cpyM_ne (by omega), up2_ne (by omega)]
    rfl
-- THE REFERENCE: fields carried into a row of numbers, or out of it
/-- which field stands at a place of the row -/
def fld (q : Int) : Int × Int := if q = 0 then (275, 0) else if q < 25 then (if (q - 1) % 3 = 0 then (276, (q - 1) / 3) else if (q - 1) % 3 = 1 then (277, (q - 1) / 3) else (279, (q - 1) / 3)) else if q < 121 then (if (q - 25) % 2 = 0 then (278, (q - 25) / 2) else (280, (q - 25) / 2)) else if q < 409 then (281, q - 121) else (282, q - 409)
theorem fld_ok {q : Int} (h : 0 ≤ q) : ((fld q).1 = 275 ∧ (fld q).2 = 0) ∨ (276 ≤ (fld q).1 ∧ (fld q).1 ≤ 282) := by
  unfold fld
  (repeat' split) <;> simp
theorem fld_inj {p q b j : Int} (hp : 0 ≤ p) (hq : 0 ≤ q) (h1 : fld p = (b, j)) (h2 : (fld q).1 = b) (h3 : (fld q).2 = j) : q = p := by
  unfold fld at h1 h2 h3
  (repeat' split at h1) <;> (repeat' split at h2) <;> simp only [Prod.mk.injEq] at h1 <;> (try omega) <;> simp_all <;> omega
/-- so many places carried; t: into the row (1), or out of it (0) -/
def CI (t A p : Int) (M M1 : Mem) : Prop := (M1 275 33 = p ∧ M1 275 34 = t ∧ M1 275 35 = A) ∧ (t = 1 → ∀ a i, a ≠ A → ¬ (a = 275 ∧ 33 ≤ i ∧ i ≤ 35) → M1 a i = M a i) ∧ (t = 0 → ∀ a i, ¬ (a = 275 ∧ (i = 0 ∨ (33 ≤ i ∧ i ≤ 35))) → ¬ (276 ≤ a ∧ a ≤ 282) → M1 a i = M a i) ∧ ∀ q, 0 ≤ q → q < p → M1 A q = M1 (fld q).1 (fld q).2
set_option maxHeartbeats 4000000 in
theorem r_carry {t A p b j v : Int} {M0 M : Mem} {Q : Int → Mem → Prop} (ht : t = 0 ∨ t = 1) (hA : A = 293 ∨ A = 294) (hC : CI t A p M0 M) (p0 : 0 ≤ p) (p1 : p < 700) (hf : fld p = (b, j)) (hv : v = M b j) (hQ : ∀ r M1, CI t A (p + 1) M0 (up2 M1 b j r) → Q r M1) : Calls mX9_carry [(2, 275), (0, v)] S0 M Q := by
  obtain ⟨⟨h33, h34, h35⟩, h1, h0, hq⟩ := hC
  have hbj := fld_ok p0
  rw [hf] at hbj
  have hbj : (b = 275 ∧ j = 0) ∨ (276 ≤ b ∧ b ≤ 282) := hbj
  have hisA : isA A 700 := by
    rcases hA with rfl | rfl
    · exact ⟨by omega, s0_293⟩
    · exact ⟨by omega, s0_294⟩
  refine E_R_carry (B_R_carry_0 ?_)
  rw [h33, h34, h35]
  have other : ∀ q, 0 ≤ q → q < p → ¬ ((fld q).1 = b ∧ (fld q).2 = j) := fun q q0 q1 z => by
    have := fld_inj p0 q0 hf z.1 z.2
    omega
  refine ⟨fun z => ⟨by omega, ⟨by omega, hisA⟩, by omega, by omega, ?_⟩, fun z => ⟨⟨by omega, hisA⟩, by omega, ?_⟩⟩
  · rw [show p + 1 - 1 = p by omega, up2_ne (by omega)]
    refine hQ _ _ ⟨⟨?_, ?_, ?_⟩, fun y => absurd y (by omega), fun _ a i q1 q2 => ?_, fun q q0 q1 => ?_⟩
    · rw [up2_ni (by omega), up2_at ⟨rfl, rfl⟩]
    · rw [up2_ni (by omega), up2_ni (by omega)]
      exact h34
    · rw [up2_ni (by omega), up2_ni (by omega)]
      exact h35
    · rw [up2_ni (by omega), up2_ni (by omega)]
      exact h0 z a i q1 q2
    · have hfq := fld_ok q0
      rw [up2_ni (by omega), up2_ni (by omega)]
      by_cases e : q = p
      · rw [e, hf, up2_at ⟨rfl, rfl⟩]
      · rw [up2_ni (other q q0 (by omega)), up2_ni (by omega)]
        exact hq q q0 (by omega)
  · have e1 : up2 M A p v 275 33 = p := by rw [up2_ne (by omega)]; exact h33
    have e2 : up2 M A p v 275 35 = A := by rw [up2_ne (by omega)]; exact h35
    rw [e1, e2]
    refine ⟨by omega, ⟨by omega, hisA⟩, by omega, by omega, ?_⟩
    rw [show p + 1 - 1 = p by omega, up2_ne (by omega), up2_at ⟨rfl, rfl⟩]
    refine hQ _ _ ⟨⟨?_, ?_, ?_⟩, fun _ a i q1 q2 => ?_, fun y => absurd y z, fun q q0 q1 => ?_⟩
    · rw [up2_ni (by omega), up2_at ⟨rfl, rfl⟩]
    · rw [up2_ni (by omega), up2_ni (by omega), up2_ne (by omega)]
      exact h34
    · rw [up2_ni (by omega), up2_ni (by omega), up2_ne (by omega)]
      exact h35
    · by_cases e : a = b ∧ i = j
      · rw [up2_at e, e.1, e.2, hv]
        exact h1 (by omega) b j (by omega) (by omega)
      · rw [up2_ni e, up2_ni (by omega), up2_ne q1]
        exact h1 (by omega) a i q1 q2
    · have hfq := fld_ok q0
      rw [up2_ne (by omega), up2_ne (by omega)]
      by_cases e : q = p
      · rw [e, hf, up2_at ⟨rfl, rfl⟩, up2_at ⟨rfl, rfl⟩]
      · rw [up2_ni (other q q0 (by omega)), up2_ni (by omega), up2_ni (by omega), up2_ne (by omega)]
        exact hq q q0 (by omega)
set_option maxHeartbeats 4000000 in
theorem r_carryAll1 {t : Int} {M : Mem} {Q : Int → Mem → Prop} (ht : t = 0 ∨ t = 1) (hQ : ∀ M1, CI t 293 553 M M1 → Q 0 M1) : Calls mX9_carryAll [(2, 275), (2, 293), (0, t)] S0 M Q := by
  have p4 : ∀ k : Nat, k ≤ 144 → ∀ i M1, i = (k : Int) → CI t 293 (409 + i) M M1 → AW mX9_carryAll 168 [(2, 275), (9, 0), (9, 0), (0, i)] M1 Q := by
    refine up_ind _ ?_ ?_
    · intro i M1 hi h
      obtain rfl : i = 144 := by omega
      exact B_R_carryAll_1_168 ⟨fun _ => hQ M1 h, fun q => absurd (by omega) q⟩
    · intro k hk ih i M1 hi h
      refine B_R_carryAll_1_168 ⟨fun q => absurd q (by omega), fun _ => ⟨by omega, r_carry ht (by omega) h (by omega) (by omega) ?_ rfl (fun r M2 h2 => ⟨by omega, ih _ _ (by omega) ?_⟩)⟩⟩
      · unfold fld
        rw [if_neg (by omega), if_neg (by omega), if_neg (by omega), if_neg (by omega), show 409 + i - 409 = i by omega]
      · rw [show 409 + (i + 1) = 409 + i + 1 by omega]
        exact h2
  have p3 : ∀ k : Nat, k ≤ 288 → ∀ i M1, i = (k : Int) → CI t 293 (121 + i) M M1 → AW mX9_carryAll 137 [(2, 275), (9, 0), (9, 0), (0, i)] M1 Q := by
    refine up_ind _ ?_ ?_
    · intro i M1 hi h
      obtain rfl : i = 288 := by omega
      exact B_R_carryAll_1_137 ⟨fun _ => p4 0 (by omega) 0 M1 rfl h, fun q => absurd (by omega) q⟩
    · intro k hk ih i M1 hi h
      refine B_R_carryAll_1_137 ⟨fun q => absurd q (by omega), fun _ => ⟨by omega, r_carry ht (by omega) h (by omega) (by omega) ?_ rfl (fun r M2 h2 => ⟨by omega, ih _ _ (by omega) ?_⟩)⟩⟩
      · unfold fld
        rw [if_neg (by omega), if_neg (by omega), if_neg (by omega), if_pos (by omega), show 121 + i - 121 = i by omega]
      · rw [show 121 + (i + 1) = 121 + i + 1 by omega]
        exact h2
  have p2 : ∀ k : Nat, k ≤ 48 → ∀ i M1, i = (k : Int) → CI t 293 (25 + 2 * i) M M1 → AW mX9_carryAll 91 [(2, 275), (9, 0), (9, 0), (0, i)] M1 Q := by
    refine up_ind _ ?_ ?_
    · intro i M1 hi h
      obtain rfl : i = 48 := by omega
      exact B_R_carryAll_1_91 ⟨fun _ => p3 0 (by omega) 0 M1 rfl h, fun q => absurd (by omega) q⟩
    · intro k hk ih i M1 hi h
      refine B_R_carryAll_1_91 ⟨fun q => absurd q (by omega), fun _ => ⟨by omega, r_carry ht (by omega) h (by omega) (by omega) ?_ rfl (fun r M2 h2 => r_carry ht (by omega) h2 (by omega) (by omega) ?_ (up2_ne (by omega)).symm (fun r2 M3 h3 => ⟨by omega, ih _ _ (by omega) ?_⟩))⟩⟩
      · unfold fld
        rw [if_neg (by omega), if_neg (by omega), if_pos (by omega), if_pos (by omega), show (25 + 2 * i - 25) / 2 = i by omega]
      · unfold fld
        rw [if_neg (by omega), if_neg (by omega), if_pos (by omega), if_neg (by omega), show (25 + 2 * i + 1 - 25) / 2 = i by omega]
      · rw [show 25 + 2 * (i + 1) = 25 + 2 * i + 1 + 1 by omega]
        exact h3
  have p1 : ∀ k : Nat, k ≤ 8 → ∀ i M1, i = (k : Int) → CI t 293 (1 + 3 * i) M M1 → AW mX9_carryAll 29 [(2, 275), (9, 0), (9, 0), (0, i)] M1 Q := by
    refine up_ind _ ?_ ?_
    · intro i M1 hi h
      obtain rfl : i = 8 := by omega
      exact B_R_carryAll_1_29 ⟨fun _ => p2 0 (by omega) 0 M1 rfl h, fun q => absurd (by omega) q⟩
    · intro k hk ih i M1 hi h
      refine B_R_carryAll_1_29 ⟨fun q => absurd q (by omega), fun _ => ⟨by omega, r_carry ht (by omega) h (by omega) (by omega) ?_ rfl (fun r M2 h2 => r_carry ht (by omega) h2 (by omega) (by omega) ?_ (up2_ne (by omega)).symm (fun r2 M3 h3 => r_carry ht (by omega) h3 (by omega) (by omega) ?_ (up2_ne (by omega)).symm (fun r3 M4 h4 => ⟨by omega, ih _ _ (by omega) ?_⟩)))⟩⟩
      · unfold fld
        rw [if_neg (by omega), if_pos (by omega), if_pos (by omega), show (1 + 3 * i - 1) / 3 = i by omega]
      · unfold fld
        rw [if_neg (by omega), if_pos (by omega), if_neg (by omega), if_pos (by omega), show (1 + 3 * i + 1 - 1) / 3 = i by omega]
      · unfold fld
        rw [if_neg (by omega), if_pos (by omega), if_neg (by omega), if_neg (by omega), show (1 + 3 * i + 1 + 1 - 1) / 3 = i by omega]
      · rw [show 1 + 3 * (i + 1) = 1 + 3 * i + 1 + 1 + 1 by omega]
        exact h4
  refine E_R_carryAll_1 (B_R_carryAll_1_0 ⟨ht, r_carry (p := 0) (b := 275) (j := 0) (M0 := M) ht (by omega) ⟨⟨up2_at ⟨rfl, rfl⟩, ?_, ?_⟩, fun _ a i q1 q2 => ?_, fun _ a i q1 q2 => ?_, fun q q0 q1 => absurd q1 (by omega)⟩ (by omega) (by omega) rfl ?_ (fun r M2 h2 => p1 0 (by omega) 0 _ rfl h2)⟩)
  · rw [up2_ni (by omega), up2_at ⟨rfl, rfl⟩]
  · rw [up2_ni (by omega), up2_ni (by omega), up2_at ⟨rfl, rfl⟩]
  · rw [up2_ni (by omega), up2_ni (by omega), up2_ni (by omega)]
  · rw [up2_ni (by omega), up2_ni (by omega), up2_ni (by omega)]
  · rw [up2_ni (by omega), up2_ni (by omega), up2_ni (by omega)]
set_option maxHeartbeats 4000000 in
theorem r_carryAll2 {t : Int} {M : Mem} {Q : Int → Mem → Prop} (ht : t = 0 ∨ t = 1) (hQ : ∀ M1, CI t 294 553 M M1 → Q 0 M1) : Calls mX9_carryAll [(2, 275), (2, 294), (0, t)] S0 M Q := by
  have p4 : ∀ k : Nat, k ≤ 144 → ∀ i M1, i = (k : Int) → CI t 294 (409 + i) M M1 → AW mX9_carryAll 168 [(2, 275), (9, 0), (9, 0), (0, i)] M1 Q := by
    refine up_ind _ ?_ ?_
    · intro i M1 hi h
      obtain rfl : i = 144 := by omega
      exact B_R_carryAll_2_168 ⟨fun _ => hQ M1 h, fun q => absurd (by omega) q⟩
    · intro k hk ih i M1 hi h
      refine B_R_carryAll_2_168 ⟨fun q => absurd q (by omega), fun _ => ⟨by omega, r_carry ht (by omega) h (by omega) (by omega) ?_ rfl (fun r M2 h2 => ⟨by omega, ih _ _ (by omega) ?_⟩)⟩⟩
      · unfold fld
        rw [if_neg (by omega), if_neg (by omega), if_neg (by omega), if_neg (by omega), show 409 + i - 409 = i by omega]
      · rw [show 409 + (i + 1) = 409 + i + 1 by omega]
        exact h2
  have p3 : ∀ k : Nat, k ≤ 288 → ∀ i M1, i = (k : Int) → CI t 294 (121 + i) M M1 → AW mX9_carryAll 137 [(2, 275), (9, 0), (9, 0), (0, i)] M1 Q := by
    refine up_ind _ ?_ ?_
    · intro i M1 hi h
      obtain rfl : i = 288 := by omega
      exact B_R_carryAll_2_137 ⟨fun _ => p4 0 (by omega) 0 M1 rfl h, fun q => absurd (by omega) q⟩
    · intro k hk ih i M1 hi h
      refine B_R_carryAll_2_137 ⟨fun q => absurd q (by omega), fun _ => ⟨by omega, r_carry ht (by omega) h (by omega) (by omega) ?_ rfl (fun r M2 h2 => ⟨by omega, ih _ _ (by omega) ?_⟩)⟩⟩
      · unfold fld
        rw [if_neg (by omega), if_neg (by omega), if_neg (by omega), if_pos (by omega), show 121 + i - 121 = i by omega]
      · rw [show 121 + (i + 1) = 121 + i + 1 by omega]
        exact h2
  have p2 : ∀ k : Nat, k ≤ 48 → ∀ i M1, i = (k : Int) → CI t 294 (25 + 2 * i) M M1 → AW mX9_carryAll 91 [(2, 275), (9, 0), (9, 0), (0, i)] M1 Q := by
    refine up_ind _ ?_ ?_
    · intro i M1 hi h
      obtain rfl : i = 48 := by omega
      exact B_R_carryAll_2_91 ⟨fun _ => p3 0 (by omega) 0 M1 rfl h, fun q => absurd (by omega) q⟩
    · intro k hk ih i M1 hi h
      refine B_R_carryAll_2_91 ⟨fun q => absurd q (by omega), fun _ => ⟨by omega, r_carry ht (by omega) h (by omega) (by omega) ?_ rfl (fun r M2 h2 => r_carry ht (by omega) h2 (by omega) (by omega) ?_ (up2_ne (by omega)).symm (fun r2 M3 h3 => ⟨by omega, ih _ _ (by omega) ?_⟩))⟩⟩
      · unfold fld
        rw [if_neg (by omega), if_neg (by omega), if_pos (by omega), if_pos (by omega), show (25 + 2 * i - 25) / 2 = i by omega]
      · unfold fld
        rw [if_neg (by omega), if_neg (by omega), if_pos (by omega), if_neg (by omega), show (25 + 2 * i + 1 - 25) / 2 = i by omega]
      · rw [show 25 + 2 * (i + 1) = 25 + 2 * i + 1 + 1 by omega]
        exact h3
  have p1 : ∀ k : Nat, k ≤ 8 → ∀ i M1, i = (k : Int) → CI t 294 (1 + 3 * i) M M1 → AW mX9_carryAll 29 [(2, 275), (9, 0), (9, 0), (0, i)] M1 Q := by
    refine up_ind _ ?_ ?_
    · intro i M1 hi h
      obtain rfl : i = 8 := by omega
      exact B_R_carryAll_2_29 ⟨fun _ => p2 0 (by omega) 0 M1 rfl h, fun q => absurd (by omega) q⟩
    · intro k hk ih i M1 hi h
      refine B_R_carryAll_2_29 ⟨fun q => absurd q (by omega), fun _ => ⟨by omega, r_carry ht (by omega) h (by omega) (by omega) ?_ rfl (fun r M2 h2 => r_carry ht (by omega) h2 (by omega) (by omega) ?_ (up2_ne (by omega)).symm (fun r2 M3 h3 => r_carry ht (by omega) h3 (by omega) (by omega) ?_ (up2_ne (by omega)).symm (fun r3 M4 h4 => ⟨by omega, ih _ _ (by omega) ?_⟩)))⟩⟩
      · unfold fld
        rw [if_neg (by omega), if_pos (by omega), if_pos (by omega), show (1 + 3 * i - 1) / 3 = i by omega]
      · unfold fld
        rw [if_neg (by omega), if_pos (by omega), if_neg (by omega), if_pos (by omega), show (1 + 3 * i + 1 - 1) / 3 = i by omega]
      · unfold fld
        rw [if_neg (by omega), if_pos (by omega), if_neg (by omega), if_neg (by omega), show (1 + 3 * i + 1 + 1 - 1) / 3 = i by omega]
      · rw [show 1 + 3 * (i + 1) = 1 + 3 * i + 1 + 1 + 1 by omega]
        exact h4
  refine E_R_carryAll_2 (B_R_carryAll_2_0 ⟨ht, r_carry (p := 0) (b := 275) (j := 0) (M0 := M) ht (by omega) ⟨⟨up2_at ⟨rfl, rfl⟩, ?_, ?_⟩, fun _ a i q1 q2 => ?_, fun _ a i q1 q2 => ?_, fun q q0 q1 => absurd q1 (by omega)⟩ (by omega) (by omega) rfl ?_ (fun r M2 h2 => p1 0 (by omega) 0 _ rfl h2)⟩)
  · rw [up2_ni (by omega), up2_at ⟨rfl, rfl⟩]
  · rw [up2_ni (by omega), up2_ni (by omega), up2_at ⟨rfl, rfl⟩]
  · rw [up2_ni (by omega), up2_ni (by omega), up2_ni (by omega)]
  · rw [up2_ni (by omega), up2_ni (by omega), up2_ni (by omega)]
  · rw [up2_ni (by omega), up2_ni (by omega), up2_ni (by omega)]
theorem fld_eq (b j q : Int) (h : fld q = (b, j)) (t A : Int) {M M1 : Mem} (hC : CI t A 553 M M1) (q0 : 0 ≤ q) (q1 : q < 553) : M1 A q = M1 b j := by
  have := hC.2.2.2 q q0 q1
  rw [h] at this
  exact this
/-- what the row says of the fields -/
theorem CI.all {t A : Int} {M M1 : Mem} (hC : CI t A 553 M M1) : M1 A 0 = M1 275 0 ∧ (∀ l, 0 ≤ l → l < 8 → M1 A (1 + 3 * l) = M1 276 l ∧ M1 A (2 + 3 * l) = M1 277 l ∧ M1 A (3 + 3 * l) = M1 279 l) ∧ (∀ k, 0 ≤ k → k < 48 → M1 A (25 + 2 * k) = M1 278 k ∧ M1 A (26 + 2 * k) = M1 280 k) ∧ (∀ k, 0 ≤ k → k < 288 → M1 A (121 + k) = M1 281 k) ∧ ∀ k, 0 ≤ k → k < 144 → M1 A (409 + k) = M1 282 k := by
  refine ⟨fld_eq 275 0 0 rfl t A hC (by omega) (by omega), fun l l0 l1 => ⟨fld_eq 276 l _ ?_ t A hC (by omega) (by omega), fld_eq 277 l _ ?_ t A hC (by omega) (by omega), fld_eq 279 l _ ?_ t A hC (by omega) (by omega)⟩, fun k k0 k1 => ⟨fld_eq 278 k _ ?_ t A hC (by omega) (by omega), fld_eq 280 k _ ?_ t A hC (by omega) (by omega)⟩, fun k k0 k1 => fld_eq 281 k _ ?_ t A hC (by omega) (by omega), fun k k0 k1 => fld_eq 282 k _ ?_ t A hC (by omega) (by omega)⟩
  · unfold fld
    rw [if_neg (by omega), if_pos (by omega), if_pos (by omega), show (1 + 3 * l - 1) / 3 = l by omega]
  · unfold fld
    rw [if_neg (by omega), if_pos (by omega), if_neg (by omega), if_pos (by omega), show (2 + 3 * l - 1) / 3 = l by omega]
  · unfold fld
    rw [if_neg (by omega), if_pos (by omega), if_neg (by omega), if_neg (by omega), show (3 + 3 * l - 1) / 3 = l by omega]
  · unfold fld
    rw [if_neg (by omega), if_neg (by omega), if_pos (by omega), if_pos (by omega), show (25 + 2 * k - 25) / 2 = k by omega]
  · unfold fld
    rw [if_neg (by omega), if_neg (by omega), if_pos (by omega), if_neg (by omega), show (26 + 2 * k - 25) / 2 = k by omega]
  · unfold fld
    rw [if_neg (by omega), if_neg (by omega), if_neg (by omega), if_pos (by omega), show 121 + k - 121 = k by omega]
  · unfold fld
    rw [if_neg (by omega), if_neg (by omega), if_neg (by omega), if_neg (by omega), show 409 + k - 409 = k by omega]
theorem CI.ri {t A : Int} {N : Net} {M M1 : Mem} (hC : CI t A 553 M M1) (hg : Good N) (hr : RH N M1) : RI N A M1 := by
  obtain ⟨c1, c2, c3, c4, c5⟩ := hC.all
  obtain ⟨r1, r2, r3⟩ := hr
  refine ⟨c1.trans r1, fun l l0 l1 => ?_, fun x y x0 x1 y0 y1 => (c5 _ (by omega) (by omega)).trans (r3 x y x0 x1 y0 y1)⟩
  have hk := hg.lineK l0 l1
  obtain ⟨q1, q2, q3, q4, q5⟩ := r2 l l0 l1
  obtain ⟨w1, w2, w3⟩ := c2 l l0 hk.1
  refine ⟨w1.trans q1, w2.trans q2, w3.trans q3, fun i i0 i1 => ((c3 _ (by omega) (by omega)).1).trans (q4 i i0 i1), fun t t0 t1 => ?_⟩
  obtain ⟨u1, u2⟩ := q5 t t0 t1
  exact ⟨((c3 _ (by omega) (by omega)).2).trans u1, fun i i0 i1 => (c4 _ (by omega) (by omega)).trans (u2 i i0 i1)⟩
theorem CI.rh {t A : Int} {N : Net} {M M1 : Mem} (hC : CI t A 553 M M1) (hg : Good N) (hr : RI N A M1) : RH N M1 := by
  obtain ⟨c1, c2, c3, c4, c5⟩ := hC.all
  obtain ⟨r1, r2, r3⟩ := hr
  refine ⟨c1.symm.trans r1, fun l l0 l1 => ?_, fun x y x0 x1 y0 y1 => (c5 _ (by omega) (by omega)).symm.trans (r3 x y x0 x1 y0 y1)⟩
  have hk := hg.lineK l0 l1
  obtain ⟨q1, q2, q3, q4, q5⟩ := r2 l l0 l1
  obtain ⟨w1, w2, w3⟩ := c2 l l0 hk.1
  refine ⟨w1.symm.trans q1, w2.symm.trans q2, w3.symm.trans q3, fun i i0 i1 => ((c3 _ (by omega) (by omega)).1).symm.trans (q4 i i0 i1), fun t t0 t1 => ?_⟩
  obtain ⟨u1, u2⟩ := q5 t t0 t1
  exact ⟨((c3 _ (by omega) (by omega)).2).symm.trans u1, fun i i0 i1 => (c4 _ (by omega) (by omega)).symm.trans (u2 i i0 i1)⟩
