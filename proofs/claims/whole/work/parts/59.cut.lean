/-! cut -/
set_option maxHeartbeats 4000000 in
theorem c_cut {N : Net} {M : Mem} {Q : Int → Mem → Prop} {fr at_ to r w : Int} (hI : IN N M) (hQ : ∀ M1, Sc M M1 → Q (fCut N fr at_ to r w) M1) : Calls mX8_cut [(2, 0), (0, fr), (0, at_), (0, to), (0, r), (0, w)] S0 M Q := by
  have hg := hI.g
  have hc := rfz_cases fr at_ to r
  have hv : ∀ v, v = fCut N fr at_ to r w → Q v M := fun v h => h ▸ hQ _ Sc.rf
  refine E_C_cut (B_C_cut_0 ⟨fun _ => hv _ ?_, fun _ => ⟨fun _ => hv _ ?_, fun _ => ⟨fun _ => c_refusal ⟨fun q => ?_, fun q => hv _ ?_⟩, fun _ => hv _ ?_⟩⟩⟩)
  · unfold fCut
    rw [if_pos (by omega)]
  · unfold fCut
    rw [if_pos (by omega)]
  rotate_left
  · unfold fCut
    rw [if_neg (by omega), if_neg q]
  · unfold fCut
    rw [if_pos (by omega)]
  unfold fCut at hQ
  rw [if_neg (by omega), if_pos q] at hQ
  refine c_run0 hI (by omega) (by omega) (fun M1 hs hb => ⟨by omega, by omega, ?_⟩)
  rw [hb r to (by omega) (by omega) (by omega) (by omega)]
  have hbd : ∀ n : Nat, (0 ≤ (mx (ctF N fr at_ to r) (fun s => s) n).2 ∧ (mx (ctF N fr at_ to r) (fun s => s) n).2 ≤ 10000) ∧ ((mx (ctF N fr at_ to r) (fun s => s) n).1 = -5 ∨ 0 ≤ (mx (ctF N fr at_ to r) (fun s => s) n).1) := fun n => mx_bd n (fun k _ => ⟨by show 0 ≤ (k : Int); omega, ctF_bd hg (by omega) (by omega) (by omega) k⟩)
  have hB : 0 ≤ BS N fr at_ r to ∧ BS N fr at_ r to ≤ 10000 := bst_bd hg (by omega) (by omega) (by omega) _
  have key : ∀ k : Nat, k ≤ 12 → ∀ m c i M1, Sc M M1 → m = (mx (ctF N fr at_ to r) (fun s => s) k).2 → c = (mx (ctF N fr at_ to r) (fun s => s) k).1 → i = (k : Int) → AW mX8_cut 60 [(2, 0), (0, fr), (0, at_), (0, to), (0, r), (0, w), (9, 0), (0, BS N fr at_ r to), (0, m), (0, c), (0, i), (9, 0)] M1 Q := by
    refine up_ind _ ?_ ?_
    · intro m c i M1 hs hm hcc hi
      have hx := hQ M1 hs
      unfold lsA at hx
      rw [← hm, ← hcc] at hx
      refine B_C_cut_60 ⟨fun _ => ⟨fun z => ⟨fun z2 => ?_, fun z2 => ?_⟩, fun z => ?_⟩, fun z => absurd (by omega) z⟩
      · rw [if_neg z, if_neg z2] at hx
        exact hx
      · rw [if_neg z, if_pos z2] at hx
        exact hx
      · rw [if_pos z] at hx
        exact hx
    · intro k hk ih m c i M1 hs hm hcc hi
      have b2 := (hbd k).1
      have no : i = fr ∨ i = to → AW mX8_cut 60 [(2, 0), (0, fr), (0, at_), (0, to), (0, r), (0, w), (9, 0), (0, BS N fr at_ r to), (0, m), (0, c), (0, i + 1), (9, 0)] M1 Q := by
        intro h
        have ef : ctF N fr at_ to r (k : Int) = 0 := by
          unfold ctF
          rw [if_pos (by omega)]
        refine ih _ _ _ _ hs ?_ ?_ (by omega)
        · rw [mx_s, if_neg (by omega)]
          exact hm
        · rw [mx_s, if_neg (by omega)]
          exact hcc
      refine B_C_cut_60 ⟨fun z => absurd z (by omega), fun _ => ⟨fun z => ⟨by omega, no (by omega)⟩, fun z => ⟨fun z2 => ?_, fun z2 => ⟨by omega, no (by omega)⟩⟩⟩⟩
      have b1 := bst_bd (ll := -1) (lt := -1) (sh := i) (fr := fr) hg (at_ := at_) (s := to) (by omega) (by omega) (by omega) r.toNat
      have ef : ctF N fr at_ to r (k : Int) = bst N (-1) (-1) i fr at_ r.toNat to - BS N fr at_ r to := by
        unfold ctF
        rw [if_neg (by omega), ← hi]
      refine c_lostStop (hI.sc hs) (by omega) (by omega) (by omega) (by omega) (fun M2 hs2 => ⟨by omega, fun z => ⟨by omega, ih _ _ _ _ (hs.tr hs2) ?_ ?_ (by omega)⟩, fun z => ⟨by omega, ih _ _ _ _ (hs.tr hs2) ?_ ?_ (by omega)⟩⟩)
      · rw [mx_s, if_neg (by omega)]
        exact hm
      · rw [mx_s, if_neg (by omega)]
        exact hcc
      · rw [mx_s, if_pos (by omega)]
        exact ef.symm
      · rw [mx_s, if_pos (by omega)]
        exact hi
  exact key 0 (Nat.zero_le _) _ _ 0 _ hs rfl rfl rfl
set_option maxHeartbeats 8000000 in
theorem r_cut {N : Net} {M : Mem} {Q : Int → Mem → Prop} {fr at_ to r w : Int} (hI : IN N M) (hQ : ∀ M1, Sc M M1 → Q (fCut N fr at_ to r w) M1) : Calls mX9_cut [(2, 275), (0, fr), (0, at_), (0, to), (0, r), (0, w)] S0 M Q := by
  have hg := hI.g
  have hc := rfz_cases fr at_ to r
  obtain ⟨-, -, -, a4, a5⟩ := hI.lo
  have hS : Sc M (up2 M 275 8 0) := Sc.rf.up scr8
  have hv : ∀ v, v = fCut N fr at_ to r w → Q v (up2 M 275 8 0) := fun v h => h ▸ hQ _ hS
  refine E_R_cut (B_R_cut_0 ?_)
  repeat' (first | refine And.intro ?_ ?_ | refine imp_i (fun _ => ?_))
  all_goals try (exact hv _ (by unfold fCut rfz; (repeat' split) <;> omega))
  refine r_wrong ⟨fun q => ?_, fun q => hv _ ?_⟩
  rotate_left
  · unfold fCut
    rw [if_neg (by omega), if_neg (by omega)]
    unfold rfz
    rw [if_neg (by omega), if_pos (by omega)]
  unfold fCut at hQ
  rw [if_neg (by omega), if_pos (by omega)] at hQ
  have hbd : ∀ n : Nat, (0 ≤ (mx (ctF N fr at_ to r) (fun s => s) n).2 ∧ (mx (ctF N fr at_ to r) (fun s => s) n).2 ≤ 10000) ∧ ((mx (ctF N fr at_ to r) (fun s => s) n).1 = -5 ∨ 0 ≤ (mx (ctF N fr at_ to r) (fun s => s) n).1) := fun n => mx_bd n (fun k _ => ⟨by show 0 ≤ (k : Int); omega, ctF_bd hg (by omega) (by omega) (by omega) k⟩)
  have hB : 0 ≤ BS N fr at_ r to ∧ BS N fr at_ r to ≤ 10000 := bst_bd hg (by omega) (by omega) (by omega) _
  have key : ∀ k : Nat, k ≤ 12 → ∀ m c i M1, Sl M M1 → M1 275 9 = M 275 9 → m = (mx (ctF N fr at_ to r) (fun s => s) k).2 → c = (mx (ctF N fr at_ to r) (fun s => s) k).1 → i = (k : Int) → AW mX9_cut 61 [(2, 275), (0, fr), (0, at_), (0, to), (0, r), (0, w), (0, BS N fr at_ r to), (0, m), (0, c), (0, i), (9, 0)] M1 Q := by
    refine up_ind _ ?_ ?_
    · intro m c i M1 hs h9 hm hcc hi
      have hx := hQ _ (hs.back (i := 10) (Or.inr ⟨rfl, a5, h9⟩))
      have hb2 := (hbd 12).2
      unfold lsA at hx
      rw [← hm, ← hcc] at hx
      rw [← hcc] at hb2
      refine B_R_cut_61 ⟨fun _ => ⟨fun z => ?_, fun z => ⟨fun z2 => ?_, fun z2 => ?_⟩⟩, fun z => absurd (by omega) z⟩
      · rw [if_pos (by omega)] at hx
        rw [show c = -5 by omega]
        exact hx
      · rw [if_neg (by omega), if_neg z2] at hx
        exact hx
      · rw [if_neg (by omega), if_pos z2] at hx
        exact hx
    · intro k hk ih m c i M1 hs h9 hm hcc hi
      have b2 := (hbd k).1
      have go : ∀ (M2 : Mem) (v : Int), Sl M M2 → M2 275 9 = M 275 9 → (0 ≤ v ∧ v ≤ 10000) → v - BS N fr at_ r to = ctF N fr at_ to r (k : Int) → M2 284 ((12 * r) + to) = upv v → (-2147483648 ≤ 12 * r ∧ 12 * r ≤ 2147483647) ∧ (-2147483648 ≤ (12 * r) + to ∧ (12 * r) + to ≤ 2147483647) ∧ ((0 : Int) ≤ (12 * r) + to ∧ (12 * r) + to < 84) ∧ (((M2 284 ((12 * r) + to)) < 100000000 → (-2147483648 ≤ (M2 284 ((12 * r) + to)) - BS N fr at_ r to ∧ (M2 284 ((12 * r) + to)) - BS N fr at_ r to ≤ 2147483647) ∧ ((((M2 284 ((12 * r) + to)) - BS N fr at_ r to) ≤ m → (-2147483648 ≤ i + 1 ∧ i + 1 ≤ 2147483647) ∧ AW mX9_cut 61 [(2, 275), (0, fr), (0, at_), (0, to), (0, r), (0, w), (0, BS N fr at_ r to), (0, m), (0, c), (0, i + 1), (9, 0)] M2 Q) ∧ (¬ (((M2 284 ((12 * r) + to)) - BS N fr at_ r to) ≤ m) → (-2147483648 ≤ i + 1 ∧ i + 1 ≤ 2147483647) ∧ AW mX9_cut 61 [(2, 275), (0, fr), (0, at_), (0, to), (0, r), (0, w), (0, BS N fr at_ r to), (0, (M2 284 ((12 * r) + to)) - BS N fr at_ r to), (0, i), (0, i + 1), (9, 0)] M2 Q))) ∧ (¬ ((M2 284 ((12 * r) + to)) < 100000000) → (-2147483648 ≤ 10000 - BS N fr at_ r to ∧ 10000 - BS N fr at_ r to ≤ 2147483647) ∧ (((10000 - BS N fr at_ r to) ≤ m → (-2147483648 ≤ i + 1 ∧ i + 1 ≤ 2147483647) ∧ AW mX9_cut 61 [(2, 275), (0, fr), (0, at_), (0, to), (0, r), (0, w), (0, BS N fr at_ r to), (0, m), (0, c), (0, i + 1), (9, 0)] M2 Q) ∧ (¬ ((10000 - BS N fr at_ r to) ≤ m) → (-2147483648 ≤ i + 1 ∧ i + 1 ≤ 2147483647) ∧ AW mX9_cut 61 [(2, 275), (0, fr), (0, at_), (0, to), (0, r), (0, w), (0, BS N fr at_ r to), (0, 10000 - BS N fr at_ r to), (0, i), (0, i + 1), (9, 0)] M2 Q)))) := by
        intro M2 v hs2 h92 hvb hv2 he
        rw [he]
        have fin : ∀ d, d = v - BS N fr at_ r to → ((d ≤ m → (-2147483648 ≤ i + 1 ∧ i + 1 ≤ 2147483647) ∧ AW mX9_cut 61 [(2, 275), (0, fr), (0, at_), (0, to), (0, r), (0, w), (0, BS N fr at_ r to), (0, m), (0, c), (0, i + 1), (9, 0)] M2 Q) ∧ (¬ (d ≤ m) → (-2147483648 ≤ i + 1 ∧ i + 1 ≤ 2147483647) ∧ AW mX9_cut 61 [(2, 275), (0, fr), (0, at_), (0, to), (0, r), (0, w), (0, BS N fr at_ r to), (0, d), (0, i), (0, i + 1), (9, 0)] M2 Q)) := by
          intro d hd
          refine ⟨fun z => ⟨by omega, ih _ _ _ _ hs2 h92 ?_ ?_ (by omega)⟩, fun z => ⟨by omega, ih _ _ _ _ hs2 h92 ?_ ?_ (by omega)⟩⟩
          · rw [mx_s, if_neg (by omega)]
            exact hm
          · rw [mx_s, if_neg (by omega)]
            exact hcc
          · rw [mx_s, if_pos (by omega)]
            exact hd.trans hv2
          · rw [mx_s, if_pos (by omega)]
            exact hi
        refine ⟨by omega, by omega, by omega, fun z => ⟨?_, fin _ ?_⟩, fun z => ⟨by omega, fin _ ?_⟩⟩
        · unfold upv at z ⊢
          split at z
          · omega
          · rename_i e
            rw [if_neg e]
            omega
        · unfold upv at z ⊢
          split at z
          · omega
          · rename_i e
            rw [if_neg e]
        · unfold upv at z
          split at z <;> omega
      have same : i = fr ∨ i = to → Calls mX9_layRounds [(2, 275), (0, fr), (0, at_)] S0 (up2 M1 275 10 (-1)) (fun _ M2 => (-2147483648 ≤ 12 * r ∧ 12 * r ≤ 2147483647) ∧ (-2147483648 ≤ (12 * r) + to ∧ (12 * r) + to ≤ 2147483647) ∧ ((0 : Int) ≤ (12 * r) + to ∧ (12 * r) + to < 84) ∧ (((M2 284 ((12 * r) + to)) < 100000000 → (-2147483648 ≤ (M2 284 ((12 * r) + to)) - BS N fr at_ r to ∧ (M2 284 ((12 * r) + to)) - BS N fr at_ r to ≤ 2147483647) ∧ ((((M2 284 ((12 * r) + to)) - BS N fr at_ r to) ≤ m → (-2147483648 ≤ i + 1 ∧ i + 1 ≤ 2147483647) ∧ AW mX9_cut 61 [(2, 275), (0, fr), (0, at_), (0, to), (0, r), (0, w), (0, BS N fr at_ r to), (0, m), (0, c), (0, i + 1), (9, 0)] M2 Q) ∧ (¬ (((M2 284 ((12 * r) + to)) - BS N fr at_ r to) ≤ m) → (-2147483648 ≤ i + 1 ∧ i + 1 ≤ 2147483647) ∧ AW mX9_cut 61 [(2, 275), (0, fr), (0, at_), (0, to), (0, r), (0, w), (0, BS N fr at_ r to), (0, (M2 284 ((12 * r) + to)) - BS N fr at_ r to), (0, i), (0, i + 1), (9, 0)] M2 Q))) ∧ (¬ ((M2 284 ((12 * r) + to)) < 100000000) → (-2147483648 ≤ 10000 - BS N fr at_ r to ∧ 10000 - BS N fr at_ r to ≤ 2147483647) ∧ (((10000 - BS N fr at_ r to) ≤ m → (-2147483648 ≤ i + 1 ∧ i + 1 ≤ 2147483647) ∧ AW mX9_cut 61 [(2, 275), (0, fr), (0, at_), (0, to), (0, r), (0, w), (0, BS N fr at_ r to), (0, m), (0, c), (0, i + 1), (9, 0)] M2 Q) ∧ (¬ ((10000 - BS N fr at_ r to) ≤ m) → (-2147483648 ≤ i + 1 ∧ i + 1 ≤ 2147483647) ∧ AW mX9_cut 61 [(2, 275), (0, fr), (0, at_), (0, to), (0, r), (0, w), (0, BS N fr at_ r to), (0, 10000 - BS N fr at_ r to), (0, i), (0, i + 1), (9, 0)] M2 Q))))) := by
        intro h
        refine r_roundsL (ll := -1) (lt := -1) (sh := -1) hI (hs.up (Or.inr rfl)) (fun l t l0 t0 t1 => by unfold up2; rw [if_neg (by omega), h9, a4]; omega) (by unfold up2; rw [if_pos (by omega)]) (by omega) (by omega) (by omega) (by omega) (fun M2 hs2 h92 _ hb => go M2 _ hs2 ?_ hB ?_ (hb r to (by omega) (by omega) (by omega) (by omega)))
        · rw [h92]
          unfold up2
          rw [if_neg (by omega)]
          exact h9
        · unfold ctF
          rw [if_pos (by omega)]
          omega
      refine B_R_cut_61 ⟨fun z => absurd z (by omega), fun _ => ⟨fun z => same (Or.inl z), fun z => ⟨fun z2 => ?_, fun z2 => same (Or.inr z2)⟩⟩⟩
      refine r_roundsL (ll := -1) (lt := -1) (sh := i) hI (hs.up (Or.inr rfl)) (fun l t l0 t0 t1 => by unfold up2; rw [if_neg (by omega), h9, a4]; omega) (by unfold up2; rw [if_pos (by omega)]) z (by omega) (by omega) (by omega) (fun M2 hs2 h92 _ hb => go M2 _ hs2 ?_ (bst_bd hg (by omega) (by omega) (by omega) _) ?_ (hb r to (by omega) (by omega) (by omega) (by omega)))
      · rw [h92]
        unfold up2
        rw [if_neg (by omega)]
        exact h9
      · unfold ctF
        rw [if_neg (by omega), ← hi]
  refine r_rounds0 (hI.sc hS) (by omega) (by omega) (by omega) (fun M1 hs _ hb _ => ⟨by omega, by omega, by omega, ?_⟩)
  have h9 : M1 275 9 = M 275 9 := (hS.tr hs) _ _ (by unfold scr; omega)
  rw [hb r to (by omega) (by omega) (by omega) (by omega)]
  refine ⟨fun z => ?_, fun z => ?_⟩
  · have e : upv (BS N fr at_ r to) = BS N fr at_ r to := by
      unfold upv at z ⊢
      split at z
      · omega
      · rename_i e
        rw [if_neg e]
    rw [e]
    exact key 0 (Nat.zero_le _) _ _ 0 _ (hS.tr hs).sl h9 rfl rfl rfl
  · have e : (10000 : Int) = BS N fr at_ r to := by
      unfold upv at z
      split at z <;> omega
    have := key 0 (Nat.zero_le _) _ _ 0 M1 (hS.tr hs).sl h9 rfl rfl rfl
    rw [← e] at this
    exact this
