/-! THE LAW'S LOOP -/
def N00 : Net := (0, (fun _ => 0), (fun _ => 0), (fun _ => 0), (fun _ _ => 0), (fun _ _ _ => 0), (fun _ _ => 0), (fun _ _ => 0), (fun _ _ => 0))
theorem up2_z {M : Mem} {b j v a i : Int} (h : M a i = 0) (hv : v = 0 ∨ ¬ (a = b ∧ i = j)) : up2 M b j v a i = 0 := by
  unfold up2
  split
  · rename_i e
    rcases hv with q | q
    · exact q
    · exact absurd e q
  · exact h
theorem M0_0 {a i : Int} (h1 : ¬ (a = 229 ∧ 3 ≤ i ∧ i ≤ 5)) (h2 : ¬ (a = 274 ∧ 0 ≤ i ∧ i ≤ 3)) (h3 : ¬ (a = 275 ∧ 9 ≤ i ∧ i ≤ 10)) : M0 a i = 0 := by
  have e0 : mm_0 a i = 0 := rfl
  have e1 : mm_1 a i = 0 := up2_z e0 (Or.inl rfl)
  have e2 : mm_2 a i = 0 := up2_z e1 (Or.inl rfl)
  have e3 : mm_3 a i = 0 := up2_z e2 (Or.inl rfl)
  have e4 : mm_4 a i = 0 := up2_z e3 (Or.inr (by omega))
  have e5 : mm_5 a i = 0 := up2_z e4 (Or.inr (by omega))
  have e6 : mm_6 a i = 0 := up2_z e5 (Or.inr (by omega))
  have e7 : mm_7 a i = 0 := up2_z e6 (Or.inl rfl)
  have e8 : mm_8 a i = 0 := up2_z e7 (Or.inl rfl)
  have e9 : mm_9 a i = 0 := up2_z e8 (Or.inl rfl)
  have e10 : mm_10 a i = 0 := up2_z e9 (Or.inl rfl)
  have e11 : mm_11 a i = 0 := up2_z e10 (Or.inl rfl)
  have e12 : mm_12 a i = 0 := up2_z e11 (Or.inl rfl)
  have e13 : mm_13 a i = 0 := up2_z e12 (Or.inl rfl)
  have e14 : mm_14 a i = 0 := up2_z e13 (Or.inl rfl)
  have e15 : mm_15 a i = 0 := up2_z e14 (Or.inl rfl)
  have e16 : mm_16 a i = 0 := up2_z e15 (Or.inl rfl)
  have e17 : mm_17 a i = 0 := up2_z e16 (Or.inl rfl)
  have e18 : mm_18 a i = 0 := up2_z e17 (Or.inl rfl)
  have e19 : mm_19 a i = 0 := up2_z e18 (Or.inr (by omega))
  have e20 : mm_20 a i = 0 := up2_z e19 (Or.inr (by omega))
  have e21 : mm_21 a i = 0 := up2_z e20 (Or.inr (by omega))
  have e22 : mm_22 a i = 0 := up2_z e21 (Or.inr (by omega))
  have e23 : mm_23 a i = 0 := up2_z e22 (Or.inl rfl)
  have e24 : mm_24 a i = 0 := up2_z e23 (Or.inr (by omega))
  have e25 : mm_25 a i = 0 := up2_z e24 (Or.inr (by omega))
  have e26 : mm_26 a i = 0 := up2_z e25 (Or.inl rfl)
  exact e26
theorem inv_M0 : Inv M0 := by
  refine ⟨N00, ⟨⟨by decide, by decide⟩, fun l l0 l1 => absurd l1 (by show ¬ l < 0; omega), fun a b _ _ _ _ => ⟨⟨Int.le_refl _, by show (0 : Int) ≤ 60; decide⟩, rfl, rfl⟩⟩, ⟨M0_0 (by omega) (by omega) (by omega), fun l l0 l1 => absurd l1 (by show ¬ l < 0; omega), fun a b a0 a1 b0 b1 => M0_0 (by omega) (by omega) (by omega)⟩, ⟨M0_0 (by omega) (by omega) (by omega), fun l l0 l1 => absurd l1 (by show ¬ l < 0; omega), fun a b a0 a1 b0 b1 => M0_0 (by omega) (by omega) (by omega)⟩, ⟨by decide, by decide, by decide, by decide, by decide⟩, ⟨by decide, by decide, fun j j0 j1 => ?_⟩, ⟨by decide, by decide, fun j j0 j1 => ?_⟩, fun l l0 l1 => Or.inl ⟨M0_0 (by omega) (by omega) (by omega), ?_⟩, ⟨by decide, Or.inl (by decide)⟩⟩
  · rw [M0_0 (by omega) (by omega) (by omega)] at j1
    omega
  · rw [M0_0 (by omega) (by omega) (by omega)] at j1
    omega
  · have : l = 0 ∨ l = 1 ∨ l = 2 ∨ l = 3 := by omega
    rcases this with rfl | rfl | rfl | rfl <;> decide
set_option maxHeartbeats 8000000 in
theorem law_loop {L : Nat} {xs : Nat → Int32} (hL : L ≤ 3584) : ∀ (k : Nat) (l3 : Int) (M : Mem), (L : Int) - 7 < l3 + 7 * (k : Int) → 0 ≤ l3 → Inv M → AWL L xs 18 [(3, 0), (2, 0), (2, 275), (0, l3)] M (fun r _ => r = 1) := by
  have hL0 : (L : Int) ≤ 2147483647 := by omega
  intro k
  induction k with
  | zero =>
    intro l3 M hk h0 hI
    exact B_law_18 hL0 ⟨by omega, fun _ => rfl, fun z => absurd (by omega) z⟩
  | succ k ih =>
    intro l3 M hk h0 hI
    refine B_law_18 hL0 ⟨by omega, fun _ => rfl, fun hlt => ?_⟩
    have next : ∀ M1, Inv M1 → AWL L xs 1637 [(3, 0), (2, 0), (2, 275), (0, l3)] M1 (fun r _ => r = 1) := fun M1 h1 => B_law_1637 hL0 ⟨by omega, ih (l3 + 7) M1 (by omega) (by omega) h1⟩
    have step : ∀ (cm rm : MD) (As : List AV), Bo cm rm As → Calls cm ((2, 0) :: As) S0 M (fun r1 M1 => Calls rm ((2, 275) :: As) S0 M1 (fun r2 M2 => ((r1 = r2 → AWL L xs 1637 [(3, 0), (2, 0), (2, 275), (0, l3)] M2 (fun r _ => r = 1)) ∧ (¬ r1 = r2 → (fun (r : Int) (_ : Mem) => r = 1) 0 M2)))) := fun cm rm As hb => hb M _ hI (fun r M1 h1 => ⟨fun _ => next M1 h1, fun z => absurd rfl z⟩)
    have i32 : ∀ x : Int32, -2147483648 ≤ x.toInt ∧ x.toInt ≤ 2147483647 := fun x => ⟨by have := Int32.le_toInt x; omega, by have := Int32.toInt_lt x; omega⟩
    have h1 : -2147483648 ≤ l3 + 1 ∧ l3 + 1 ≤ 2147483647 := by omega
    have h2 : -2147483648 ≤ l3 + 2 ∧ l3 + 2 ≤ 2147483647 := by omega
    have h3 : -2147483648 ≤ l3 + 3 ∧ l3 + 3 ≤ 2147483647 := by omega
    have h4 : -2147483648 ≤ l3 + 4 ∧ l3 + 4 ≤ 2147483647 := by omega
    have h5 : -2147483648 ≤ l3 + 5 ∧ l3 + 5 ≤ 2147483647 := by omega
    have h6 : -2147483648 ≤ l3 + 6 ∧ l3 + 6 ≤ 2147483647 := by omega
    have b1 : (0 : Int) ≤ l3 + 1 ∧ l3 + 1 < (L : Int) := by omega
    have b2 : (0 : Int) ≤ l3 + 2 ∧ l3 + 2 < (L : Int) := by omega
    have b3 : (0 : Int) ≤ l3 + 3 ∧ l3 + 3 < (L : Int) := by omega
    have b4 : (0 : Int) ≤ l3 + 4 ∧ l3 + 4 < (L : Int) := by omega
    have b5 : (0 : Int) ≤ l3 + 5 ∧ l3 + 5 < (L : Int) := by omega
    have b6 : (0 : Int) ≤ l3 + 6 ∧ l3 + 6 < (L : Int) := by omega
    refine ⟨by omega, fun _ => next M hI, fun _ => ?_, fun _ => ?_, fun _ => ?_, fun _ => ?_, fun _ => ?_, fun _ => ?_, fun _ => ?_, fun _ => ?_, fun _ => ?_, fun _ => ?_, fun _ => ?_, fun _ => ?_, fun _ => ?_, fun _ => ?_, fun _ => ?_, fun _ => ?_, fun _ => ?_, fun _ => ?_, fun _ => ?_, fun _ => ?_, fun _ => ?_, fun _ => ?_, fun _ => ?_, fun _ => ?_, fun _ => ?_, fun _ => ?_, fun _ => ?_, fun _ => ?_, fun _ => ?_, fun _ => ?_, fun _ => ?_, fun _ => ?_, fun _ => ?_, fun _ => ?_, fun _ => ?_⟩
    · exact B_law_188 hL0 ⟨h1, b1, step _ _ _ (b_feed _)⟩
    · exact B_law_211 hL0 (step _ _ _ b_clear)
    · exact B_law_224 hL0 (step _ _ _ b_table)
    · exact B_law_237 hL0 ⟨h1, b1, h2, b2, step _ _ _ (b_line _ _)⟩
    · exact B_law_270 hL0 ⟨h1, b1, h2, b2, step _ _ _ (b_stop _ _)⟩
    · exact B_law_303 hL0 ⟨h1, b1, h2, b2, h3, b3, step _ _ _ (b_minute _ _ _)⟩
    · exact B_law_346 hL0 ⟨h1, b1, h2, b2, step _ _ _ (b_runs _ _)⟩
    · exact B_law_379 hL0 ⟨h1, b1, h2, b2, step _ _ _ (b_foot _ _)⟩
    · exact B_law_412 hL0 ⟨h1, b1, h2, b2, h3, b3, step _ _ _ (b_walk _ _ _)⟩
    · exact B_law_455 hL0 ⟨h1, b1, h2, b2, h3, b3, h4, b4, step _ _ _ (b_delay _ _ _ _)⟩
    · exact B_law_508 hL0 ⟨h1, b1, step _ _ _ (b_drop _)⟩
    · exact B_law_531 hL0 ⟨h1, b1, h2, b2, h3, b3, h4, b4, step _ _ _ (b_earliest _ _ _ _)⟩
    · exact B_law_584 hL0 ⟨h1, b1, h2, b2, h3, b3, step _ _ _ (b_worth _ _ _)⟩
    · exact B_law_627 hL0 ⟨h1, b1, h2, b2, h3, b3, h4, b4, step _ _ _ (b_legs _ _ _ _)⟩
    · exact B_law_680 hL0 ⟨h1, b1, h2, b2, h3, b3, h4, b4, h5, b5, h6, b6, step _ _ _ (b_leg _ _ _ _ _ _)⟩
    · exact B_law_755 hL0 ⟨h1, b1, h2, b2, h3, b3, h4, b4, step _ _ _ (b_fare _ _ _ _)⟩
    · exact B_law_808 hL0 ⟨h1, b1, h2, b2, h3, b3, h4, b4, step _ _ _ (b_waiting _ _ _ _)⟩
    · exact B_law_861 hL0 ⟨h1, b1, h2, b2, h3, b3, h4, b4, step _ _ _ (b_latest _ _ _ _)⟩
    · exact B_law_914 hL0 ⟨h1, b1, h2, b2, h3, b3, h4, b4, h5, b5, h6, b6, step _ _ _ (b_profile _ _ _ _ _ _)⟩
    · exact B_law_989 hL0 ⟨h1, b1, h2, b2, h3, b3, h4, b4, step _ _ _ (b_reached _ _ _ _)⟩
    · exact B_law_1042 hL0 ⟨h1, b1, h2, b2, h3, b3, h4, b4, h5, b5, step _ _ _ (b_worst _ _ _ _ _)⟩
    · exact B_law_1105 hL0 ⟨h1, b1, h2, b2, h3, b3, h4, b4, h5, b5, step _ _ _ (b_cut _ _ _ _ _)⟩
    · exact B_law_1168 hL0 ⟨h1, b1, h2, b2, h3, b3, h4, b4, step _ _ _ (b_board _ _ _ _)⟩
    · exact B_law_1221 hL0 ⟨h1, b1, step _ _ _ (b_missed _)⟩
    · exact B_law_1244 hL0 ⟨h1, b1, h2, b2, step _ _ _ (b_meet _ _)⟩
    · exact B_law_1277 hL0 ⟨h1, b1, h2, b2, h3, b3, h4, b4, step _ _ _ (b_spell _ _ _ _)⟩
    · exact B_law_1330 hL0 ⟨h1, b1, step _ _ _ (b_paper _)⟩
    · exact B_law_1353 hL0 ⟨h1, b1, step _ _ _ (b_told _)⟩
    · exact B_law_1376 hL0 ⟨h1, b1, h2, b2, step _ _ _ (b_list _ _)⟩
    · exact B_law_1409 hL0 ⟨h1, b1, h2, b2, h3, b3, step _ _ _ (b_set _ _ _)⟩
    · exact B_law_1452 hL0 ⟨h1, b1, h2, b2, step _ _ _ (b_get _ _)⟩
    · exact B_law_1485 hL0 ⟨h1, b1, h2, b2, h3, b3, h4, b4, h5, b5, step _ _ _ (b_lay _ _ _ _ _ (i32 _))⟩
    · exact B_law_1548 hL0 ⟨h1, b1, h2, b2, h3, b3, h4, b4, h5, b5, step _ _ _ (b_judge _ _ _ _ _ (i32 _))⟩
    · exact B_law_1611 hL0 (step _ _ _ b_image)
    · exact B_law_1624 hL0 (step _ _ _ b_undo)
