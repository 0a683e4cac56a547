set_option maxRecDepth 100000 in
set_option maxHeartbeats 4000000 in
theorem B_R_meet_0 {l1 l2 : Int} {M : Mem} {Q : Int → Mem → Prop} (h : (-2147483648 ≤ (M 275 0) - 1 ∧ (M 275 0) - 1 ≤ 2147483647) ∧ ((l1 < 0 → Q (-1) (up2 M 275 8 0)) ∧ (¬ (l1 < 0) → ((((M 275 0) - 1) < l1 → Q (-1) (up2 M 275 8 0)) ∧ (¬ (((M 275 0) - 1) < l1) → ((l2 < 0 → Q (-1) (up2 M 275 8 0)) ∧ (¬ (l2 < 0) → ((((M 275 0) - 1) < l2 → Q (-1) (up2 M 275 8 0)) ∧ (¬ (((M 275 0) - 1) < l2) → AW mX9_meet 28 [(2, 275), (0, l1), (0, l2), (0, 0), (0, 0)] (up2 M 275 8 0) Q))))))))) : AW mX9_meet 0 [(2, 275), (0, l1), (0, l2), (9, 0), (9, 0)] M Q := by
  refine a_aload_n (pc := 0) dX9_meet_0 (by decide) rfl ?_
  refine a_iconst (pc := 1) dX9_meet_1 (by decide) ?_
  refine a_putI (y := 8) (pc := 2) dX9_meet_2 fl_RX9_87 (by decide) s0_275 rfl rfl (tyX9_ok 8 (by decide)) rfl ?_
  refine a_aload_n (pc := 5) dX9_meet_5 (by decide) rfl ?_
  refine a_iload_n (pc := 6) dX9_meet_6 rfl ?_
  refine p_inlV (Ex := _) (As := [(0, l1)]) (st := []) (st1 := fun r => [(0, r)])  (pc := 7) dX9_meet_7 ml_RX9_101 (by decide) s0_275 rfl (by decide) (Nat.le_of_ble_eq_true rfl) rfl (fun _ => rfl) (by decide) (by decide) (Nat.le_of_ble_eq_true rfl) rfl ?_
  refine a_iload_n (pc := 0) dX9_isLine_0 rfl ?_
  refine a_i2l (pc := 1) dX9_isLine_1 ?_
  refine a_lconst (v := 0) (pc := 2) dX9_isLine_2 rfl ?_
  refine a_aload_n (pc := 3) dX9_isLine_3 (by decide) rfl ?_
  refine a_getI (y := 0) (pc := 4) dX9_isLine_4 fl_RX9_98 (by decide) s0_275 (Or.inl rfl) rfl ?_
  refine a_eq (y := M 275 0) rfl ?_
  refine a_iconst (pc := 7) dX9_isLine_7 (by decide) ?_
  have ho1 := h.1
  replace h := h.2
  refine a_isub (pc := 8) dX9_isLine_8 ho1 ?_
  refine a_i2l (pc := 9) dX9_isLine_9 ?_
  refine p_inlS (Ex := _) (As := [(1, l1), (1, 0), (1, (M 275 0) - 1)]) (st := []) (st1 := fun r => [(0, r)])  (pc := 10) dX9_isLine_10 ml_RX9_92 (by decide) (Nat.le_of_ble_eq_true rfl) rfl (fun _ => rfl) (by decide) (by decide) (Nat.le_of_ble_eq_true rfl) rfl ?_
  refine a_lload_n (pc := 0) dX9_in_0 rfl ?_
  refine a_lload_n (pc := 1) dX9_in_1 rfl ?_
  refine a_lcmp_lt (tgt := 17) (pc := 2) dX9_in_2 dX9_in_3 (by decide) (fun hc2 => ?_) (fun hc2 => ?_)
  · replace h := h.1 hc2
    refine a_iconst (pc := 17) dX9_in_17 (by decide) ?_
    refine a_iretz (pc := 18) dX9_in_18 rfl rfl (Nat.le_of_ble_eq_true rfl) (by decide) ⟨rfl, ?_⟩
    refine a_iretz (pc := 13) dX9_isLine_13 rfl rfl (Nat.le_of_ble_eq_true rfl) (by decide) ⟨rfl, ?_⟩
    refine a_if_eq (tgt := 21) (pc := 10) dX9_meet_10 (by decide) (fun _ => ?_) (fun hc => absurd (by decide) hc)
    refine a_iconst (pc := 21) dX9_meet_21 (by decide) ?_
    exact a_ireti (pc := 22) dX9_meet_22 rfl rfl (Nat.le_of_ble_eq_true rfl) ⟨rfl, h⟩
  · replace h := h.2 hc2
    refine a_lload_n (pc := 6) dX9_in_6 rfl ?_
    refine a_lload (pc := 7) dX9_in_7 rfl ?_
    refine a_lcmp_gt (tgt := 17) (pc := 9) dX9_in_9 dX9_in_10 (by decide) (fun hc3 => ?_) (fun hc3 => ?_)
    · replace h := h.1 hc3
      refine a_iconst (pc := 17) dX9_in_17 (by decide) ?_
      refine a_iretz (pc := 18) dX9_in_18 rfl rfl (Nat.le_of_ble_eq_true rfl) (by decide) ⟨rfl, ?_⟩
      refine a_iretz (pc := 13) dX9_isLine_13 rfl rfl (Nat.le_of_ble_eq_true rfl) (by decide) ⟨rfl, ?_⟩
      refine a_if_eq (tgt := 21) (pc := 10) dX9_meet_10 (by decide) (fun _ => ?_) (fun hc => absurd (by decide) hc)
      refine a_iconst (pc := 21) dX9_meet_21 (by decide) ?_
      exact a_ireti (pc := 22) dX9_meet_22 rfl rfl (Nat.le_of_ble_eq_true rfl) ⟨rfl, h⟩
    · replace h := h.2 hc3
      refine a_iconst (pc := 13) dX9_in_13 (by decide) ?_
      refine a_goto (tgt := 18) (pc := 14) dX9_in_14 (by decide) ?_
      refine a_iretz (pc := 18) dX9_in_18 rfl rfl (Nat.le_of_ble_eq_true rfl) (by decide) ⟨rfl, ?_⟩
      refine a_iretz (pc := 13) dX9_isLine_13 rfl rfl (Nat.le_of_ble_eq_true rfl) (by decide) ⟨rfl, ?_⟩
      refine a_if_eq (tgt := 21) (pc := 10) dX9_meet_10 (by decide) (fun hc => absurd hc (by decide)) (fun _ => ?_)
      refine a_aload_n (pc := 13) dX9_meet_13 (by decide) rfl ?_
      refine a_iload_n (pc := 14) dX9_meet_14 rfl ?_
      refine p_inlV (Ex := _) (As := [(0, l2)]) (st := []) (st1 := fun r => [(0, r)])  (pc := 15) dX9_meet_15 ml_RX9_101 (by decide) s0_275 rfl (by decide) (Nat.le_of_ble_eq_true rfl) rfl (fun _ => rfl) (by decide) (by decide) (Nat.le_of_ble_eq_true rfl) rfl ?_
      refine a_iload_n (pc := 0) dX9_isLine_0 rfl ?_
      refine a_i2l (pc := 1) dX9_isLine_1 ?_
      refine a_lconst (v := 0) (pc := 2) dX9_isLine_2 rfl ?_
      refine a_aload_n (pc := 3) dX9_isLine_3 (by decide) rfl ?_
      refine a_getI (y := 0) (pc := 4) dX9_isLine_4 fl_RX9_98 (by decide) s0_275 (Or.inl rfl) rfl ?_
      refine a_eq (y := M 275 0) rfl ?_
      refine a_iconst (pc := 7) dX9_isLine_7 (by decide) ?_
      refine a_isub (pc := 8) dX9_isLine_8 ho1 ?_
      refine a_i2l (pc := 9) dX9_isLine_9 ?_
      refine p_inlS (Ex := _) (As := [(1, l2), (1, 0), (1, (M 275 0) - 1)]) (st := []) (st1 := fun r => [(0, r)])  (pc := 10) dX9_isLine_10 ml_RX9_92 (by decide) (Nat.le_of_ble_eq_true rfl) rfl (fun _ => rfl) (by decide) (by decide) (Nat.le_of_ble_eq_true rfl) rfl ?_
      refine a_lload_n (pc := 0) dX9_in_0 rfl ?_
      refine a_lload_n (pc := 1) dX9_in_1 rfl ?_
      refine a_lcmp_lt (tgt := 17) (pc := 2) dX9_in_2 dX9_in_3 (by decide) (fun hc4 => ?_) (fun hc4 => ?_)
      · replace h := h.1 hc4
        refine a_iconst (pc := 17) dX9_in_17 (by decide) ?_
        refine a_iretz (pc := 18) dX9_in_18 rfl rfl (Nat.le_of_ble_eq_true rfl) (by decide) ⟨rfl, ?_⟩
        refine a_iretz (pc := 13) dX9_isLine_13 rfl rfl (Nat.le_of_ble_eq_true rfl) (by decide) ⟨rfl, ?_⟩
        refine a_if_ne (tgt := 23) (pc := 18) dX9_meet_18 (by decide) (fun hc => absurd rfl hc) (fun _ => ?_)
        refine a_iconst (pc := 21) dX9_meet_21 (by decide) ?_
        exact a_ireti (pc := 22) dX9_meet_22 rfl rfl (Nat.le_of_ble_eq_true rfl) ⟨rfl, h⟩
      · replace h := h.2 hc4
        refine a_lload_n (pc := 6) dX9_in_6 rfl ?_
        refine a_lload (pc := 7) dX9_in_7 rfl ?_
        refine a_lcmp_gt (tgt := 17) (pc := 9) dX9_in_9 dX9_in_10 (by decide) (fun hc5 => ?_) (fun hc5 => ?_)
        · replace h := h.1 hc5
          refine a_iconst (pc := 17) dX9_in_17 (by decide) ?_
          refine a_iretz (pc := 18) dX9_in_18 rfl rfl (Nat.le_of_ble_eq_true rfl) (by decide) ⟨rfl, ?_⟩
          refine a_iretz (pc := 13) dX9_isLine_13 rfl rfl (Nat.le_of_ble_eq_true rfl) (by decide) ⟨rfl, ?_⟩
          refine a_if_ne (tgt := 23) (pc := 18) dX9_meet_18 (by decide) (fun hc => absurd rfl hc) (fun _ => ?_)
          refine a_iconst (pc := 21) dX9_meet_21 (by decide) ?_
          exact a_ireti (pc := 22) dX9_meet_22 rfl rfl (Nat.le_of_ble_eq_true rfl) ⟨rfl, h⟩
        · replace h := h.2 hc5
          refine a_iconst (pc := 13) dX9_in_13 (by decide) ?_
          refine a_goto (tgt := 18) (pc := 14) dX9_in_14 (by decide) ?_
          refine a_iretz (pc := 18) dX9_in_18 rfl rfl (Nat.le_of_ble_eq_true rfl) (by decide) ⟨rfl, ?_⟩
          refine a_iretz (pc := 13) dX9_isLine_13 rfl rfl (Nat.le_of_ble_eq_true rfl) (by decide) ⟨rfl, ?_⟩
          refine a_if_ne (tgt := 23) (pc := 18) dX9_meet_18 (by decide) (fun _ => ?_) (fun hc => absurd hc (by decide))
          refine a_iconst (pc := 23) dX9_meet_23 (by decide) ?_
          refine a_istore_n (ls1 := [(2, 275), (0, l1), (0, l2), (0, 0), (9, 0)]) (pc := 24) dX9_meet_24 (by decide) (hp1 (t := 0) rfl (by decide)) rfl ?_
          refine a_iconst (pc := 25) dX9_meet_25 (by decide) ?_
          refine a_istore (ls1 := [(2, 275), (0, l1), (0, l2), (0, 0), (0, 0)]) (pc := 26) dX9_meet_26 (by decide) (hp1 (t := 0) rfl (by decide)) rfl ?_
          exact h
set_option maxRecDepth 100000 in
set_option maxHeartbeats 4000000 in
theorem B_R_meet_28 {l1 l2 l3 l4 : Int} {M : Mem} {Q : Int → Mem → Prop} (h : ((12 ≤ l4 → Q l3 M) ∧ (¬ (12 ≤ l4) → Calls mX9_placeOn [(2, 275), (0, l1), (0, l4)] S0 M (fun r2 M3 => ((r2 < 0 → ((0 : Int) ≤ l3) ∧ (-2147483648 ≤ l4 + 1 ∧ l4 + 1 ≤ 2147483647) ∧ AW mX9_meet 28 [(2, 275), (0, l1), (0, l2), (0, (((l3 : Int).toNat ||| (0 : Int).toNat : Nat) : Int)), (0, l4 + 1)] M3 Q) ∧ (¬ (r2 < 0) → Calls mX9_placeOn [(2, 275), (0, l2), (0, l4)] S0 M3 (fun r7 M8 => ((r7 < 0 → ((0 : Int) ≤ l3) ∧ (-2147483648 ≤ l4 + 1 ∧ l4 + 1 ≤ 2147483647) ∧ AW mX9_meet 28 [(2, 275), (0, l1), (0, l2), (0, (((l3 : Int).toNat ||| (0 : Int).toNat : Nat) : Int)), (0, l4 + 1)] M8 Q) ∧ (¬ (r7 < 0) → ((0 : Int) ≤ l4 ∧ l4 ≤ 30) ∧ ((0 : Int) ≤ l3) ∧ ((0 : Int) ≤ (2 : Int) ^ (l4).toNat) ∧ (-2147483648 ≤ l4 + 1 ∧ l4 + 1 ≤ 2147483647) ∧ AW mX9_meet 28 [(2, 275), (0, l1), (0, l2), (0, (((l3 : Int).toNat ||| ((2 : Int) ^ (l4).toNat : Int).toNat : Nat) : Int)), (0, l4 + 1)] M8 Q))))))))) : AW mX9_meet 28 [(2, 275), (0, l1), (0, l2), (0, l3), (0, l4)] M Q := by
  refine a_iload (pc := 28) dX9_meet_28 rfl ?_
  refine a_bipush (pc := 30) dX9_meet_30 (by decide) (by decide +kernel) ?_
  refine a_icmp_ge (tgt := 72) (pc := 32) dX9_meet_32 (by decide) (fun hc1 => ?_) (fun hc1 => ?_)
  · replace h := h.1 hc1
    refine a_iload_n (pc := 72) dX9_meet_72 rfl ?_
    exact a_ireti (pc := 73) dX9_meet_73 rfl rfl (Nat.le_of_ble_eq_true rfl) ⟨rfl, h⟩
  · replace h := h.2 hc1
    refine a_iload_n (pc := 35) dX9_meet_35 rfl ?_
    refine a_aload_n (pc := 36) dX9_meet_36 (by decide) rfl ?_
    refine a_iload_n (pc := 37) dX9_meet_37 rfl ?_
    refine a_iload (pc := 38) dX9_meet_38 rfl ?_
    refine p_callV (As := [(0, l1), (0, l4)]) (st := [(0, l3)]) (st1 := fun r => [(0, r), (0, l3)])  (pc := 40) dX9_meet_40 ml_RX9_300 (by decide) s0_275 rfl (by decide) (Nat.le_of_ble_eq_true rfl) rfl (fun _ => rfl) h (fun r2 M3 h => ?_)
    refine a_if_lt (tgt := 63) (pc := 43) dX9_meet_43 (by decide) (fun hc4 => ?_) (fun hc4 => ?_)
    · replace h := h.1 hc4
      refine a_iconst (pc := 63) dX9_meet_63 (by decide) ?_
      have ho5 := h.1
      replace h := h.2
      refine a_ior (z := (((l3 : Int).toNat ||| (0 : Int).toNat : Nat) : Int)) (pc := 64) dX9_meet_64 ho5 (by decide) rfl ?_
      refine a_istore_n (ls1 := [(2, 275), (0, l1), (0, l2), (0, (((l3 : Int).toNat ||| (0 : Int).toNat : Nat) : Int)), (0, l4)]) (pc := 65) dX9_meet_65 (by decide) (hp1 (t := 0) rfl (by decide)) rfl ?_
      have ho6 := h.1
      replace h := h.2
      refine a_iinc (ls1 := [(2, 275), (0, l1), (0, l2), (0, (((l3 : Int).toNat ||| (0 : Int).toNat : Nat) : Int)), (0, l4 + 1)]) (pc := 66) dX9_meet_66 rfl (by decide) (hp1 (t := 0) rfl (by decide)) ho6 rfl ?_
      refine a_goto (tgt := 28) (pc := 69) dX9_meet_69 (by decide) ?_
      exact h
    · replace h := h.2 hc4
      refine a_aload_n (pc := 46) dX9_meet_46 (by decide) rfl ?_
      refine a_iload_n (pc := 47) dX9_meet_47 rfl ?_
      refine a_iload (pc := 48) dX9_meet_48 rfl ?_
      refine p_callV (As := [(0, l2), (0, l4)]) (st := [(0, l3)]) (st1 := fun r => [(0, r), (0, l3)])  (pc := 50) dX9_meet_50 ml_RX9_300 (by decide) s0_275 rfl (by decide) (Nat.le_of_ble_eq_true rfl) rfl (fun _ => rfl) h (fun r7 M8 h => ?_)
      refine a_if_lt (tgt := 63) (pc := 53) dX9_meet_53 (by decide) (fun hc9 => ?_) (fun hc9 => ?_)
      · replace h := h.1 hc9
        refine a_iconst (pc := 63) dX9_meet_63 (by decide) ?_
        have ho10 := h.1
        replace h := h.2
        refine a_ior (z := (((l3 : Int).toNat ||| (0 : Int).toNat : Nat) : Int)) (pc := 64) dX9_meet_64 ho10 (by decide) rfl ?_
        refine a_istore_n (ls1 := [(2, 275), (0, l1), (0, l2), (0, (((l3 : Int).toNat ||| (0 : Int).toNat : Nat) : Int)), (0, l4)]) (pc := 65) dX9_meet_65 (by decide) (hp1 (t := 0) rfl (by decide)) rfl ?_
        have ho11 := h.1
        replace h := h.2
        refine a_iinc (ls1 := [(2, 275), (0, l1), (0, l2), (0, (((l3 : Int).toNat ||| (0 : Int).toNat : Nat) : Int)), (0, l4 + 1)]) (pc := 66) dX9_meet_66 rfl (by decide) (hp1 (t := 0) rfl (by decide)) ho11 rfl ?_
        refine a_goto (tgt := 28) (pc := 69) dX9_meet_69 (by decide) ?_
        exact h
      · replace h := h.2 hc9
        refine a_iconst (pc := 56) dX9_meet_56 (by decide) ?_
        refine a_iload (pc := 57) dX9_meet_57 rfl ?_
        have ho12 := h.1
        replace h := h.2
        refine a_ishl (z := (2 : Int) ^ (l4).toNat) (pc := 59) dX9_meet_59 rfl ho12.1 ho12.2 rfl ?_
        refine a_goto (tgt := 64) (pc := 60) dX9_meet_60 (by decide) ?_
        have ho13 := h.1
        replace h := h.2
        have ho14 := h.1
        replace h := h.2
        refine a_ior (z := (((l3 : Int).toNat ||| ((2 : Int) ^ (l4).toNat : Int).toNat : Nat) : Int)) (pc := 64) dX9_meet_64 ho13 ho14 rfl ?_
        refine a_istore_n (ls1 := [(2, 275), (0, l1), (0, l2), (0, (((l3 : Int).toNat ||| ((2 : Int) ^ (l4).toNat : Int).toNat : Nat) : Int)), (0, l4)]) (pc := 65) dX9_meet_65 (by decide) (hp1 (t := 0) rfl (by decide)) rfl ?_
        have ho15 := h.1
        replace h := h.2
        refine a_iinc (ls1 := [(2, 275), (0, l1), (0, l2), (0, (((l3 : Int).toNat ||| ((2 : Int) ^ (l4).toNat : Int).toNat : Nat) : Int)), (0, l4 + 1)]) (pc := 66) dX9_meet_66 rfl (by decide) (hp1 (t := 0) rfl (by decide)) ho15 rfl ?_
        refine a_goto (tgt := 28) (pc := 69) dX9_meet_69 (by decide) ?_
        exact h
theorem E_R_meet {l1 l2 : Int} {M : Mem} {Q : Int → Mem → Prop} (h : AW mX9_meet 0 [(2, 275), (0, l1), (0, l2), (9, 0), (9, 0)] M Q) : Calls mX9_meet [(2, 275), (0, l1), (0, l2)] S0 M Q := calls_of (by decide) (by decide) (Nat.le_of_ble_eq_true rfl) rfl h
set_option maxRecDepth 100000 in
set_option maxHeartbeats 4000000 in
theorem B_R_stop_0 {l1 l2 : Int} {M : Mem} {Q : Int → Mem → Prop} (h : (-2147483648 ≤ (M 275 0) - 1 ∧ (M 275 0) - 1 ≤ 2147483647) ∧ ((l1 < 0 → Q (-1) (up2 M 275 8 0)) ∧ (¬ (l1 < 0) → ((((M 275 0) - 1) < l1 → Q (-1) (up2 M 275 8 0)) ∧ (¬ (((M 275 0) - 1) < l1) → ((0 : Int) ≤ l1 ∧ l1 < 8) ∧ (-2147483648 ≤ (M 277 l1) - 1 ∧ (M 277 l1) - 1 ≤ 2147483647) ∧ ((l2 < 0 → Q (-1) (up2 M 275 8 0)) ∧ (¬ (l2 < 0) → ((((M 277 l1) - 1) < l2 → Q (-1) (up2 M 275 8 0)) ∧ (¬ (((M 277 l1) - 1) < l2) → (-2147483648 ≤ 6 * l1 ∧ 6 * l1 ≤ 2147483647) ∧ (-2147483648 ≤ (6 * l1) + l2 ∧ (6 * l1) + l2 ≤ 2147483647) ∧ ((0 : Int) ≤ (6 * l1) + l2 ∧ (6 * l1) + l2 < 48) ∧ Q (M 278 ((6 * l1) + l2)) (up2 M 275 8 0)))))))))) : AW mX9_stop 0 [(2, 275), (0, l1), (0, l2)] M Q := by
  refine a_aload_n (pc := 0) dX9_stop_0 (by decide) rfl ?_
  refine a_iconst (pc := 1) dX9_stop_1 (by decide) ?_
  refine a_putI (y := 8) (pc := 2) dX9_stop_2 fl_RX9_87 (by decide) s0_275 rfl rfl (tyX9_ok 8 (by decide)) rfl ?_
  refine a_aload_n (pc := 5) dX9_stop_5 (by decide) rfl ?_
  refine a_iload_n (pc := 6) dX9_stop_6 rfl ?_
  refine p_inlV (Ex := _) (As := [(0, l1)]) (st := []) (st1 := fun r => [(0, r)])  (pc := 7) dX9_stop_7 ml_RX9_101 (by decide) s0_275 rfl (by decide) (Nat.le_of_ble_eq_true rfl) rfl (fun _ => rfl) (by decide) (by decide) (Nat.le_of_ble_eq_true rfl) rfl ?_
  refine a_iload_n (pc := 0) dX9_isLine_0 rfl ?_
  refine a_i2l (pc := 1) dX9_isLine_1 ?_
  refine a_lconst (v := 0) (pc := 2) dX9_isLine_2 rfl ?_
  refine a_aload_n (pc := 3) dX9_isLine_3 (by decide) rfl ?_
  refine a_getI (y := 0) (pc := 4) dX9_isLine_4 fl_RX9_98 (by decide) s0_275 (Or.inl rfl) rfl ?_
  refine a_eq (y := M 275 0) rfl ?_
  refine a_iconst (pc := 7) dX9_isLine_7 (by decide) ?_
  have ho1 := h.1
  replace h := h.2
  refine a_isub (pc := 8) dX9_isLine_8 ho1 ?_
  refine a_i2l (pc := 9) dX9_isLine_9 ?_
  refine p_inlS (Ex := _) (As := [(1, l1), (1, 0), (1, (M 275 0) - 1)]) (st := []) (st1 := fun r => [(0, r)])  (pc := 10) dX9_isLine_10 ml_RX9_92 (by decide) (Nat.le_of_ble_eq_true rfl) rfl (fun _ => rfl) (by decide) (by decide) (Nat.le_of_ble_eq_true rfl) rfl ?_
  refine a_lload_n (pc := 0) dX9_in_0 rfl ?_
  refine a_lload_n (pc := 1) dX9_in_1 rfl ?_
  refine a_lcmp_lt (tgt := 17) (pc := 2) dX9_in_2 dX9_in_3 (by decide) (fun hc2 => ?_) (fun hc2 => ?_)
  · replace h := h.1 hc2
    refine a_iconst (pc := 17) dX9_in_17 (by decide) ?_
    refine a_iretz (pc := 18) dX9_in_18 rfl rfl (Nat.le_of_ble_eq_true rfl) (by decide) ⟨rfl, ?_⟩
    refine a_iretz (pc := 13) dX9_isLine_13 rfl rfl (Nat.le_of_ble_eq_true rfl) (by decide) ⟨rfl, ?_⟩
    refine a_if_eq (tgt := 40) (pc := 10) dX9_stop_10 (by decide) (fun _ => ?_) (fun hc => absurd (by decide) hc)
    refine a_iconst (pc := 40) dX9_stop_40 (by decide) ?_
    exact a_ireti (pc := 41) dX9_stop_41 rfl rfl (Nat.le_of_ble_eq_true rfl) ⟨rfl, h⟩
  · replace h := h.2 hc2
    refine a_lload_n (pc := 6) dX9_in_6 rfl ?_
    refine a_lload (pc := 7) dX9_in_7 rfl ?_
    refine a_lcmp_gt (tgt := 17) (pc := 9) dX9_in_9 dX9_in_10 (by decide) (fun hc3 => ?_) (fun hc3 => ?_)
    · replace h := h.1 hc3
      refine a_iconst (pc := 17) dX9_in_17 (by decide) ?_
      refine a_iretz (pc := 18) dX9_in_18 rfl rfl (Nat.le_of_ble_eq_true rfl) (by decide) ⟨rfl, ?_⟩
      refine a_iretz (pc := 13) dX9_isLine_13 rfl rfl (Nat.le_of_ble_eq_true rfl) (by decide) ⟨rfl, ?_⟩
      refine a_if_eq (tgt := 40) (pc := 10) dX9_stop_10 (by decide) (fun _ => ?_) (fun hc => absurd (by decide) hc)
      refine a_iconst (pc := 40) dX9_stop_40 (by decide) ?_
      exact a_ireti (pc := 41) dX9_stop_41 rfl rfl (Nat.le_of_ble_eq_true rfl) ⟨rfl, h⟩
    · replace h := h.2 hc3
      refine a_iconst (pc := 13) dX9_in_13 (by decide) ?_
      refine a_goto (tgt := 18) (pc := 14) dX9_in_14 (by decide) ?_
      refine a_iretz (pc := 18) dX9_in_18 rfl rfl (Nat.le_of_ble_eq_true rfl) (by decide) ⟨rfl, ?_⟩
      refine a_iretz (pc := 13) dX9_isLine_13 rfl rfl (Nat.le_of_ble_eq_true rfl) (by decide) ⟨rfl, ?_⟩
      refine a_if_eq (tgt := 40) (pc := 10) dX9_stop_10 (by decide) (fun hc => absurd hc (by decide)) (fun _ => ?_)
      refine a_iload_n (pc := 13) dX9_stop_13 rfl ?_
      refine a_i2l (pc := 14) dX9_stop_14 ?_
      refine a_lconst (v := 0) (pc := 15) dX9_stop_15 rfl ?_
      refine a_aload_n (pc := 16) dX9_stop_16 (by decide) rfl ?_
      refine a_getR (y := 277) (pc := 17) dX9_stop_17 fl_RX9_13 (by decide) s0_275 rfl rfl ?_
      refine a_iload_n (pc := 20) dX9_stop_20 rfl ?_
      have ho4 := h.1
      replace h := h.2
      refine a_iald (pc := 21) dX9_stop_21 (by decide) s0_277 ho4.1 ho4.2 ?_
      refine a_eq (y := M 277 l1) rfl ?_
      refine a_iconst (pc := 22) dX9_stop_22 (by decide) ?_
      have ho5 := h.1
      replace h := h.2
      refine a_isub (pc := 23) dX9_stop_23 ho5 ?_
      refine a_i2l (pc := 24) dX9_stop_24 ?_
      refine p_inlS (Ex := _) (As := [(1, l2), (1, 0), (1, (M 277 l1) - 1)]) (st := []) (st1 := fun r => [(0, r)])  (pc := 25) dX9_stop_25 ml_RX9_92 (by decide) (Nat.le_of_ble_eq_true rfl) rfl (fun _ => rfl) (by decide) (by decide) (Nat.le_of_ble_eq_true rfl) rfl ?_
      refine a_lload_n (pc := 0) dX9_in_0 rfl ?_
      refine a_lload_n (pc := 1) dX9_in_1 rfl ?_
      refine a_lcmp_lt (tgt := 17) (pc := 2) dX9_in_2 dX9_in_3 (by decide) (fun hc6 => ?_) (fun hc6 => ?_)
      · replace h := h.1 hc6
        refine a_iconst (pc := 17) dX9_in_17 (by decide) ?_
        refine a_iretz (pc := 18) dX9_in_18 rfl rfl (Nat.le_of_ble_eq_true rfl) (by decide) ⟨rfl, ?_⟩
        refine a_if_eq (tgt := 40) (pc := 28) dX9_stop_28 (by decide) (fun _ => ?_) (fun hc => absurd (by decide) hc)
        refine a_iconst (pc := 40) dX9_stop_40 (by decide) ?_
        exact a_ireti (pc := 41) dX9_stop_41 rfl rfl (Nat.le_of_ble_eq_true rfl) ⟨rfl, h⟩
      · replace h := h.2 hc6
        refine a_lload_n (pc := 6) dX9_in_6 rfl ?_
        refine a_lload (pc := 7) dX9_in_7 rfl ?_
        refine a_lcmp_gt (tgt := 17) (pc := 9) dX9_in_9 dX9_in_10 (by decide) (fun hc7 => ?_) (fun hc7 => ?_)
        · replace h := h.1 hc7
          refine a_iconst (pc := 17) dX9_in_17 (by decide) ?_
          refine a_iretz (pc := 18) dX9_in_18 rfl rfl (Nat.le_of_ble_eq_true rfl) (by decide) ⟨rfl, ?_⟩
          refine a_if_eq (tgt := 40) (pc := 28) dX9_stop_28 (by decide) (fun _ => ?_) (fun hc => absurd (by decide) hc)
          refine a_iconst (pc := 40) dX9_stop_40 (by decide) ?_
          exact a_ireti (pc := 41) dX9_stop_41 rfl rfl (Nat.le_of_ble_eq_true rfl) ⟨rfl, h⟩
        · replace h := h.2 hc7
          refine a_iconst (pc := 13) dX9_in_13 (by decide) ?_
          refine a_goto (tgt := 18) (pc := 14) dX9_in_14 (by decide) ?_
          refine a_iretz (pc := 18) dX9_in_18 rfl rfl (Nat.le_of_ble_eq_true rfl) (by decide) ⟨rfl, ?_⟩
          refine a_if_eq (tgt := 40) (pc := 28) dX9_stop_28 (by decide) (fun hc => absurd hc (by decide)) (fun _ => ?_)
          refine a_aload_n (pc := 31) dX9_stop_31 (by decide) rfl ?_
          refine a_iload_n (pc := 32) dX9_stop_32 rfl ?_
          refine a_iload_n (pc := 33) dX9_stop_33 rfl ?_
          refine p_inlV (Ex := _) (As := [(0, l1), (0, l2)]) (st := []) (st1 := fun r => [(0, r)])  (pc := 34) dX9_stop_34 ml_RX9_117 (by decide) s0_275 rfl (by decide) (Nat.le_of_ble_eq_true rfl) rfl (fun _ => rfl) (by decide) (by decide) (Nat.le_of_ble_eq_true rfl) rfl ?_
          refine a_aload_n (pc := 0) dX9_stopAt_0 (by decide) rfl ?_
          refine a_getR (y := 278) (pc := 1) dX9_stopAt_1 fl_RX9_16 (by decide) s0_275 rfl rfl ?_
          refine a_bipush (pc := 4) dX9_stopAt_4 (by decide) (by decide +kernel) ?_
          refine a_iload_n (pc := 6) dX9_stopAt_6 rfl ?_
          have ho8 := h.1
          replace h := h.2
          refine a_imul (pc := 7) dX9_stopAt_7 ho8 ?_
          refine a_iload_n (pc := 8) dX9_stopAt_8 rfl ?_
          have ho9 := h.1
          replace h := h.2
          refine a_iadd (pc := 9) dX9_stopAt_9 ho9 ?_
          have ho10 := h.1
          replace h := h.2
          refine a_iald (pc := 10) dX9_stopAt_10 (by decide) s0_278 ho10.1 ho10.2 ?_
          refine a_eq (y := M 278 ((6 * l1) + l2)) rfl ?_
          refine a_ireti (pc := 11) dX9_stopAt_11 rfl rfl (Nat.le_of_ble_eq_true rfl) ⟨rfl, ?_⟩
          refine a_goto (tgt := 41) (pc := 37) dX9_stop_37 (by decide) ?_
          exact a_ireti (pc := 41) dX9_stop_41 rfl rfl (Nat.le_of_ble_eq_true rfl) ⟨rfl, h⟩
theorem E_R_stop {l1 l2 : Int} {M : Mem} {Q : Int → Mem → Prop} (h : AW mX9_stop 0 [(2, 275), (0, l1), (0, l2)] M Q) : Calls mX9_stop [(2, 275), (0, l1), (0, l2)] S0 M Q := calls_of (by decide) (by decide) (Nat.le_of_ble_eq_true rfl) rfl h
set_option maxRecDepth 100000 in
set_option maxHeartbeats 4000000 in
theorem B_R_readWithin_0 {l1 l2 l3 : Int} {M : Mem} {Q : Int → Mem → Prop} (h : Calls mX9_readFigures [(2, 275), (0, l1)] S0 M (fun r1 M2 => ((r1 < l2 → ((¬ (M2 275 28) = 0 → Q l2 M2) ∧ ((M2 275 28) = 0 → Q l2 (up2 (up2 M2 275 28 1) 275 27 (M2 275 29))))) ∧ (¬ (r1 < l2) → ((l3 < r1 → ((¬ (M2 275 28) = 0 → Q l2 M2) ∧ ((M2 275 28) = 0 → Q l2 (up2 (up2 M2 275 28 1) 275 27 (M2 275 29))))) ∧ (¬ (l3 < r1) → ((¬ (M2 275 28) = 0 → Q l2 M2) ∧ ((M2 275 28) = 0 → Q r1 M2)))))))) : AW mX9_readWithin 0 [(2, 275), (0, l1), (0, l2), (0, l3), (9, 0)] M Q := by
  refine a_aload_n (pc := 0) dX9_readWithin_0 (by decide) rfl ?_
  refine a_iload_n (pc := 1) dX9_readWithin_1 rfl ?_
  refine p_callV (As := [(0, l1)]) (st := []) (st1 := fun r => [(0, r)])  (pc := 2) dX9_readWithin_2 ml_RX9_197 (by decide) s0_275 rfl (by decide) (Nat.le_of_ble_eq_true rfl) rfl (fun _ => rfl) h (fun r1 M2 h => ?_)
  refine a_istore (ls1 := [(2, 275), (0, l1), (0, l2), (0, l3), (0, r1)]) (pc := 5) dX9_readWithin_5 (by decide) (hp1 (t := 0) rfl (by decide)) rfl ?_
  refine a_aload_n (pc := 7) dX9_readWithin_7 (by decide) rfl ?_
  refine a_iload (pc := 8) dX9_readWithin_8 rfl ?_
  refine a_i2l (pc := 10) dX9_readWithin_10 ?_
  refine a_iload_n (pc := 11) dX9_readWithin_11 rfl ?_
  refine a_i2l (pc := 12) dX9_readWithin_12 ?_
  refine a_iload_n (pc := 13) dX9_readWithin_13 rfl ?_
  refine a_i2l (pc := 14) dX9_readWithin_14 ?_
  refine p_inlS (Ex := _) (As := [(1, r1), (1, l2), (1, l3)]) (st := [(2, 275)]) (st1 := fun r => [(0, r), (2, 275)])  (pc := 15) dX9_readWithin_15 ml_RX9_92 (by decide) (Nat.le_of_ble_eq_true rfl) rfl (fun _ => rfl) (by decide) (by decide) (Nat.le_of_ble_eq_true rfl) rfl ?_
  refine a_lload_n (pc := 0) dX9_in_0 rfl ?_
  refine a_lload_n (pc := 1) dX9_in_1 rfl ?_
  refine a_lcmp_lt (tgt := 17) (pc := 2) dX9_in_2 dX9_in_3 (by decide) (fun hc3 => ?_) (fun hc3 => ?_)
  · replace h := h.1 hc3
    refine a_iconst (pc := 17) dX9_in_17 (by decide) ?_
    refine a_iretz (pc := 18) dX9_in_18 rfl rfl (Nat.le_of_ble_eq_true rfl) (by decide) ⟨rfl, ?_⟩
    refine a_aload_n (pc := 18) dX9_readWithin_18 (by decide) rfl ?_
    refine a_getI (y := 29) (pc := 19) dX9_readWithin_19 fl_RX9_194 (by decide) s0_275 (Or.inl rfl) rfl ?_
    refine p_inlV (Ex := _) (As := [(0, 0), (0, M2 275 29)]) (st := []) (st1 := fun r => [])  (pc := 22) dX9_readWithin_22 ml_RX9_201 (by decide) s0_275 rfl (by decide) (Nat.le_of_ble_eq_true rfl) rfl (fun _ => rfl) (by decide) (by decide) (Nat.le_of_ble_eq_true rfl) rfl ?_
    refine a_aload_n (pc := 0) dX9_mustBe_0 (by decide) rfl ?_
    refine a_getI (y := 28) (pc := 1) dX9_mustBe_1 fl_RX9_179 (by decide) s0_275 (Or.inr rfl) rfl ?_
    refine a_if_ne (tgt := 21) (pc := 4) dX9_mustBe_4 (by decide) (fun hc4 => ?_) (fun hc4 => ?_)
    · replace h := h.1 hc4
      refine a_vret (pc := 21) dX9_mustBe_21 rfl rfl (Nat.le_of_ble_eq_true rfl) ⟨rfl, ?_⟩
      refine a_aload_n (pc := 25) dX9_readWithin_25 (by decide) rfl ?_
      refine a_getI (y := 28) (pc := 26) dX9_readWithin_26 fl_RX9_179 (by decide) s0_275 (Or.inr rfl) rfl ?_
      refine a_if_eq (tgt := 36) (pc := 29) dX9_readWithin_29 (by decide) (fun hc => absurd hc hc4) (fun _ => ?_)
      refine a_iload_n (pc := 32) dX9_readWithin_32 rfl ?_
      refine a_goto (tgt := 38) (pc := 33) dX9_readWithin_33 (by decide) ?_
      exact a_ireti (pc := 38) dX9_readWithin_38 rfl rfl (Nat.le_of_ble_eq_true rfl) ⟨rfl, h⟩
    · replace h := h.2 hc4
      refine a_iload_n (pc := 7) dX9_mustBe_7 rfl ?_
      refine a_if_ne (tgt := 21) (pc := 8) dX9_mustBe_8 (by decide) (fun hc => absurd rfl hc) (fun _ => ?_)
      refine a_aload_n (pc := 11) dX9_mustBe_11 (by decide) rfl ?_
      refine a_iconst (pc := 12) dX9_mustBe_12 (by decide) ?_
      refine a_putZ (y := 28) (pc := 13) dX9_mustBe_13 fl_RX9_179 (by decide) s0_275 rfl rfl (tyX9_ok 28 (by decide)) rfl (by decide) ?_
      refine a_aload_n (pc := 16) dX9_mustBe_16 (by decide) rfl ?_
      refine a_iload_n (pc := 17) dX9_mustBe_17 rfl ?_
      refine a_putI (y := 27) (pc := 18) dX9_mustBe_18 fl_RX9_176 (by decide) s0_275 rfl rfl (tyX9_ok 27 (by decide)) rfl ?_
      refine a_vret (pc := 21) dX9_mustBe_21 rfl rfl (Nat.le_of_ble_eq_true rfl) ⟨rfl, ?_⟩
      refine a_aload_n (pc := 25) dX9_readWithin_25 (by decide) rfl ?_
      refine a_getI (y := 28) (pc := 26) dX9_readWithin_26 fl_RX9_179 (by decide) s0_275 (Or.inr rfl) rfl ?_
      refine a_eq (y := 1) rfl ?_
      refine a_if_eq (tgt := 36) (pc := 29) dX9_readWithin_29 (by decide) (fun hc => absurd hc (by decide)) (fun _ => ?_)
      refine a_iload_n (pc := 32) dX9_readWithin_32 rfl ?_
      refine a_goto (tgt := 38) (pc := 33) dX9_readWithin_33 (by decide) ?_
      exact a_ireti (pc := 38) dX9_readWithin_38 rfl rfl (Nat.le_of_ble_eq_true rfl) ⟨rfl, h⟩
  · replace h := h.2 hc3
    refine a_lload_n (pc := 6) dX9_in_6 rfl ?_
    refine a_lload (pc := 7) dX9_in_7 rfl ?_
    refine a_lcmp_gt (tgt := 17) (pc := 9) dX9_in_9 dX9_in_10 (by decide) (fun hc5 => ?_) (fun hc5 => ?_)
    · replace h := h.1 hc5
      refine a_iconst (pc := 17) dX9_in_17 (by decide) ?_
      refine a_iretz (pc := 18) dX9_in_18 rfl rfl (Nat.le_of_ble_eq_true rfl) (by decide) ⟨rfl, ?_⟩
      refine a_aload_n (pc := 18) dX9_readWithin_18 (by decide) rfl ?_
      refine a_getI (y := 29) (pc := 19) dX9_readWithin_19 fl_RX9_194 (by decide) s0_275 (Or.inl rfl) rfl ?_
      refine p_inlV (Ex := _) (As := [(0, 0), (0, M2 275 29)]) (st := []) (st1 := fun r => [])  (pc := 22) dX9_readWithin_22 ml_RX9_201 (by decide) s0_275 rfl (by decide) (Nat.le_of_ble_eq_true rfl) rfl (fun _ => rfl) (by decide) (by decide) (Nat.le_of_ble_eq_true rfl) rfl ?_
      refine a_aload_n (pc := 0) dX9_mustBe_0 (by decide) rfl ?_
      refine a_getI (y := 28) (pc := 1) dX9_mustBe_1 fl_RX9_179 (by decide) s0_275 (Or.inr rfl) rfl ?_
      refine a_if_ne (tgt := 21) (pc := 4) dX9_mustBe_4 (by decide) (fun hc6 => ?_) (fun hc6 => ?_)
      · replace h := h.1 hc6
        refine a_vret (pc := 21) dX9_mustBe_21 rfl rfl (Nat.le_of_ble_eq_true rfl) ⟨rfl, ?_⟩
        refine a_aload_n (pc := 25) dX9_readWithin_25 (by decide) rfl ?_
        refine a_getI (y := 28) (pc := 26) dX9_readWithin_26 fl_RX9_179 (by decide) s0_275 (Or.inr rfl) rfl ?_
        refine a_if_eq (tgt := 36) (pc := 29) dX9_readWithin_29 (by decide) (fun hc => absurd hc hc6) (fun _ => ?_)
        refine a_iload_n (pc := 32) dX9_readWithin_32 rfl ?_
        refine a_goto (tgt := 38) (pc := 33) dX9_readWithin_33 (by decide) ?_
        exact a_ireti (pc := 38) dX9_readWithin_38 rfl rfl (Nat.le_of_ble_eq_true rfl) ⟨rfl, h⟩
      · replace h := h.2 hc6
        refine a_iload_n (pc := 7) dX9_mustBe_7 rfl ?_
        refine a_if_ne (tgt := 21) (pc := 8) dX9_mustBe_8 (by decide) (fun hc => absurd rfl hc) (fun _ => ?_)
        refine a_aload_n (pc := 11) dX9_mustBe_11 (by decide) rfl ?_
        refine a_iconst (pc := 12) dX9_mustBe_12 (by decide) ?_
        refine a_putZ (y := 28) (pc := 13) dX9_mustBe_13 fl_RX9_179 (by decide) s0_275 rfl rfl (tyX9_ok 28 (by decide)) rfl (by decide) ?_
        refine a_aload_n (pc := 16) dX9_mustBe_16 (by decide) rfl ?_
        refine a_iload_n (pc := 17) dX9_mustBe_17 rfl ?_
        refine a_putI (y := 27) (pc := 18) dX9_mustBe_18 fl_RX9_176 (by decide) s0_275 rfl rfl (tyX9_ok 27 (by decide)) rfl ?_
        refine a_vret (pc := 21) dX9_mustBe_21 rfl rfl (Nat.le_of_ble_eq_true rfl) ⟨rfl, ?_⟩
        refine a_aload_n (pc := 25) dX9_readWithin_25 (by decide) rfl ?_
        refine a_getI (y := 28) (pc := 26) dX9_readWithin_26 fl_RX9_179 (by decide) s0_275 (Or.inr rfl) rfl ?_
        refine a_eq (y := 1) rfl ?_
        refine a_if_eq (tgt := 36) (pc := 29) dX9_readWithin_29 (by decide) (fun hc => absurd hc (by decide)) (fun _ => ?_)
        refine a_iload_n (pc := 32) dX9_readWithin_32 rfl ?_
        refine a_goto (tgt := 38) (pc := 33) dX9_readWithin_33 (by decide) ?_
        exact a_ireti (pc := 38) dX9_readWithin_38 rfl rfl (Nat.le_of_ble_eq_true rfl) ⟨rfl, h⟩
    · replace h := h.2 hc5
      refine a_iconst (pc := 13) dX9_in_13 (by decide) ?_
      refine a_goto (tgt := 18) (pc := 14) dX9_in_14 (by decide) ?_
      refine a_iretz (pc := 18) dX9_in_18 rfl rfl (Nat.le_of_ble_eq_true rfl) (by decide) ⟨rfl, ?_⟩
      refine a_aload_n (pc := 18) dX9_readWithin_18 (by decide) rfl ?_
      refine a_getI (y := 29) (pc := 19) dX9_readWithin_19 fl_RX9_194 (by decide) s0_275 (Or.inl rfl) rfl ?_
      refine p_inlV (Ex := _) (As := [(0, 1), (0, M2 275 29)]) (st := []) (st1 := fun r => [])  (pc := 22) dX9_readWithin_22 ml_RX9_201 (by decide) s0_275 rfl (by decide) (Nat.le_of_ble_eq_true rfl) rfl (fun _ => rfl) (by decide) (by decide) (Nat.le_of_ble_eq_true rfl) rfl ?_
      refine a_aload_n (pc := 0) dX9_mustBe_0 (by decide) rfl ?_
      refine a_getI (y := 28) (pc := 1) dX9_mustBe_1 fl_RX9_179 (by decide) s0_275 (Or.inr rfl) rfl ?_
      refine a_if_ne (tgt := 21) (pc := 4) dX9_mustBe_4 (by decide) (fun hc7 => ?_) (fun hc7 => ?_)
      · replace h := h.1 hc7
        refine a_vret (pc := 21) dX9_mustBe_21 rfl rfl (Nat.le_of_ble_eq_true rfl) ⟨rfl, ?_⟩
        refine a_aload_n (pc := 25) dX9_readWithin_25 (by decide) rfl ?_
        refine a_getI (y := 28) (pc := 26) dX9_readWithin_26 fl_RX9_179 (by decide) s0_275 (Or.inr rfl) rfl ?_
        refine a_if_eq (tgt := 36) (pc := 29) dX9_readWithin_29 (by decide) (fun hc => absurd hc hc7) (fun _ => ?_)
        refine a_iload_n (pc := 32) dX9_readWithin_32 rfl ?_
        refine a_goto (tgt := 38) (pc := 33) dX9_readWithin_33 (by decide) ?_
        exact a_ireti (pc := 38) dX9_readWithin_38 rfl rfl (Nat.le_of_ble_eq_true rfl) ⟨rfl, h⟩
      · replace h := h.2 hc7
        refine a_iload_n (pc := 7) dX9_mustBe_7 rfl ?_
        refine a_if_ne (tgt := 21) (pc := 8) dX9_mustBe_8 (by decide) (fun _ => ?_) (fun hc => absurd hc (by decide))
        refine a_vret (pc := 21) dX9_mustBe_21 rfl rfl (Nat.le_of_ble_eq_true rfl) ⟨rfl, ?_⟩
        refine a_aload_n (pc := 25) dX9_readWithin_25 (by decide) rfl ?_
        refine a_getI (y := 28) (pc := 26) dX9_readWithin_26 fl_RX9_179 (by decide) s0_275 (Or.inr rfl) rfl ?_
        refine a_if_eq (tgt := 36) (pc := 29) dX9_readWithin_29 (by decide) (fun _ => ?_) (fun hc => absurd hc7 hc)
        refine a_iload (pc := 36) dX9_readWithin_36 rfl ?_
        exact a_ireti (pc := 38) dX9_readWithin_38 rfl rfl (Nat.le_of_ble_eq_true rfl) ⟨rfl, h⟩
theorem E_R_readWithin {l1 l2 l3 : Int} {M : Mem} {Q : Int → Mem → Prop} (h : AW mX9_readWithin 0 [(2, 275), (0, l1), (0, l2), (0, l3), (9, 0)] M Q) : Calls mX9_readWithin [(2, 275), (0, l1), (0, l2), (0, l3)] S0 M Q := calls_of (by decide) (by decide) (Nat.le_of_ble_eq_true rfl) rfl h
set_option maxRecDepth 100000 in
set_option maxHeartbeats 4000000 in
theorem B_R_layRounds_0 {l1 l2 : Int} {M : Mem} {Q : Int → Mem → Prop} (h : AW mX9_layRounds 7 [(2, 275), (0, l1), (0, l2), (0, 0), (9, 0), (9, 0)] (up2 M 275 11 l1) Q) : AW mX9_layRounds 0 [(2, 275), (0, l1), (0, l2), (9, 0), (9, 0), (9, 0)] M Q := by
  refine a_aload_n (pc := 0) dX9_layRounds_0 (by decide) rfl ?_
  refine a_iload_n (pc := 1) dX9_layRounds_1 rfl ?_
  refine a_putI (y := 11) (pc := 2) dX9_layRounds_2 fl_RX9_124 (by decide) s0_275 rfl rfl (tyX9_ok 11 (by decide)) rfl ?_
  refine a_iconst (pc := 5) dX9_layRounds_5 (by decide) ?_
  refine a_istore_n (ls1 := [(2, 275), (0, l1), (0, l2), (0, 0), (9, 0), (9, 0)]) (pc := 6) dX9_layRounds_6 (by decide) (hp1 (t := 0) rfl (by decide)) rfl ?_
  exact h
set_option maxRecDepth 100000 in
set_option maxHeartbeats 4000000 in
theorem B_R_layRounds_7 {l1 l2 l3 : Int} {M : Mem} {Q : Int → Mem → Prop} (h : ((12 ≤ l3 → Calls mX9_layWalks [(2, 275), (0, 0)] S0 M (fun r2 M3 => AW mX9_layRounds 43 [(2, 275), (0, l1), (0, l2), (0, 1), (9, 0), (9, 0)] M3 Q)) ∧ (¬ (12 ≤ l3) → ((¬ l3 = l1 → ((0 : Int) ≤ l3 ∧ l3 < 84) ∧ (-2147483648 ≤ l3 + 1 ∧ l3 + 1 ≤ 2147483647) ∧ AW mX9_layRounds 7 [(2, 275), (0, l1), (0, l2), (0, l3 + 1), (9, 0), (9, 0)] (up2 M 283 l3 100000000) Q) ∧ (l3 = l1 → ((0 : Int) ≤ l3 ∧ l3 < 84) ∧ (-2147483648 ≤ l3 + 1 ∧ l3 + 1 ≤ 2147483647) ∧ AW mX9_layRounds 7 [(2, 275), (0, l1), (0, l2), (0, l3 + 1), (9, 0), (9, 0)] (up2 M 283 l3 l2) Q))))) : AW mX9_layRounds 7 [(2, 275), (0, l1), (0, l2), (0, l3), (9, 0), (9, 0)] M Q := by
  refine a_iload_n (pc := 7) dX9_layRounds_7 rfl ?_
  refine a_bipush (pc := 8) dX9_layRounds_8 (by decide) (by decide +kernel) ?_
  refine a_icmp_ge (tgt := 36) (pc := 10) dX9_layRounds_10 (by decide) (fun hc1 => ?_) (fun hc1 => ?_)
  · replace h := h.1 hc1
    refine a_aload_n (pc := 36) dX9_layRounds_36 (by decide) rfl ?_
    refine a_iconst (pc := 37) dX9_layRounds_37 (by decide) ?_
    refine p_callV (As := [(0, 0)]) (st := []) (st1 := fun r => [])  (pc := 38) dX9_layRounds_38 ml_RX9_127 (by decide) s0_275 rfl (by decide) (Nat.le_of_ble_eq_true rfl) rfl (fun _ => rfl) h (fun r2 M3 h => ?_)
    refine a_iconst (pc := 41) dX9_layRounds_41 (by decide) ?_
    refine a_istore_n (ls1 := [(2, 275), (0, l1), (0, l2), (0, 1), (9, 0), (9, 0)]) (pc := 42) dX9_layRounds_42 (by decide) (hp1 (t := 0) rfl (by decide)) rfl ?_
    exact h
  · replace h := h.2 hc1
    refine a_aload_n (pc := 13) dX9_layRounds_13 (by decide) rfl ?_
    refine a_getR (y := 283) (pc := 14) dX9_layRounds_14 fl_RX9_38 (by decide) s0_275 rfl rfl ?_
    refine a_iload_n (pc := 17) dX9_layRounds_17 rfl ?_
    refine a_iload_n (pc := 18) dX9_layRounds_18 rfl ?_
    refine a_iload_n (pc := 19) dX9_layRounds_19 rfl ?_
    refine a_icmp_ne (tgt := 27) (pc := 20) dX9_layRounds_20 (by decide) (fun hc4 => ?_) (fun hc4 => ?_)
    · replace h := h.1 hc4
      refine a_ldc (v := 100000000) (pc := 27) dX9_layRounds_27 kc_RX9_112 (by decide) ?_
      have ho5 := h.1
      replace h := h.2
      refine a_iast (pc := 29) dX9_layRounds_29 (by decide) s0_283 ho5.1 ho5.2 ?_
      have ho6 := h.1
      replace h := h.2
      refine a_iinc (ls1 := [(2, 275), (0, l1), (0, l2), (0, l3 + 1), (9, 0), (9, 0)]) (pc := 30) dX9_layRounds_30 rfl (by decide) (hp1 (t := 0) rfl (by decide)) ho6 rfl ?_
      refine a_goto (tgt := 7) (pc := 33) dX9_layRounds_33 (by decide) ?_
      exact h
    · replace h := h.2 hc4
      refine a_iload_n (pc := 23) dX9_layRounds_23 rfl ?_
      refine a_goto (tgt := 29) (pc := 24) dX9_layRounds_24 (by decide) ?_
      have ho7 := h.1
      replace h := h.2
      refine a_iast (pc := 29) dX9_layRounds_29 (by decide) s0_283 ho7.1 ho7.2 ?_
      have ho8 := h.1
      replace h := h.2
      refine a_iinc (ls1 := [(2, 275), (0, l1), (0, l2), (0, l3 + 1), (9, 0), (9, 0)]) (pc := 30) dX9_layRounds_30 rfl (by decide) (hp1 (t := 0) rfl (by decide)) ho8 rfl ?_
      refine a_goto (tgt := 7) (pc := 33) dX9_layRounds_33 (by decide) ?_
      exact h
set_option maxRecDepth 100000 in
set_option maxHeartbeats 4000000 in
theorem B_R_layRounds_43 {l1 l2 l3 : Int} {M : Mem} {Q : Int → Mem → Prop} (h : ((6 < l3 → AW mX9_layRounds 163 [(2, 275), (0, l1), (0, l2), (0, 0), (9, 0), (9, 0)] M Q) ∧ (¬ (6 < l3) → AW mX9_layRounds 52 [(2, 275), (0, l1), (0, l2), (0, l3), (0, 0), (9, 0)] M Q))) : AW mX9_layRounds 43 [(2, 275), (0, l1), (0, l2), (0, l3), (9, 0), (9, 0)] M Q := by
  refine a_iload_n (pc := 43) dX9_layRounds_43 rfl ?_
  refine a_bipush (pc := 44) dX9_layRounds_44 (by decide) (by decide +kernel) ?_
  refine a_icmp_gt (tgt := 161) (pc := 46) dX9_layRounds_46 (by decide) (fun hc1 => ?_) (fun hc1 => ?_)
  · replace h := h.1 hc1
    refine a_iconst (pc := 161) dX9_layRounds_161 (by decide) ?_
    refine a_istore_n (ls1 := [(2, 275), (0, l1), (0, l2), (0, 0), (9, 0), (9, 0)]) (pc := 162) dX9_layRounds_162 (by decide) (hp1 (t := 0) rfl (by decide)) rfl ?_
    exact h
  · replace h := h.2 hc1
    refine a_iconst (pc := 49) dX9_layRounds_49 (by decide) ?_
    refine a_istore (ls1 := [(2, 275), (0, l1), (0, l2), (0, l3), (0, 0), (9, 0)]) (pc := 50) dX9_layRounds_50 (by decide) (hp1 (t := 0) rfl (by decide)) rfl ?_
    exact h
set_option maxRecDepth 100000 in
set_option maxHeartbeats 4000000 in
theorem B_R_layRounds_52 {l1 l2 l3 l4 : Int} {M : Mem} {Q : Int → Mem → Prop} (h : ((12 ≤ l4 → AW mX9_layRounds 94 [(2, 275), (0, l1), (0, l2), (0, l3), (0, 0), (9, 0)] M Q) ∧ (¬ (12 ≤ l4) → (-2147483648 ≤ 12 * l3 ∧ 12 * l3 ≤ 2147483647) ∧ (-2147483648 ≤ (12 * l3) + l4 ∧ (12 * l3) + l4 ≤ 2147483647) ∧ (-2147483648 ≤ l3 - 1 ∧ l3 - 1 ≤ 2147483647) ∧ (-2147483648 ≤ 12 * (l3 - 1) ∧ 12 * (l3 - 1) ≤ 2147483647) ∧ (-2147483648 ≤ (12 * (l3 - 1)) + l4 ∧ (12 * (l3 - 1)) + l4 ≤ 2147483647) ∧ ((0 : Int) ≤ (12 * (l3 - 1)) + l4 ∧ (12 * (l3 - 1)) + l4 < 84) ∧ ((0 : Int) ≤ (12 * l3) + l4 ∧ (12 * l3) + l4 < 84) ∧ (-2147483648 ≤ l4 + 1 ∧ l4 + 1 ≤ 2147483647) ∧ AW mX9_layRounds 52 [(2, 275), (0, l1), (0, l2), (0, l3), (0, l4 + 1), (9, 0)] (up2 M 283 ((12 * l3) + l4) (M 283 ((12 * (l3 - 1)) + l4))) Q))) : AW mX9_layRounds 52 [(2, 275), (0, l1), (0, l2), (0, l3), (0, l4), (9, 0)] M Q := by
  refine a_iload (pc := 52) dX9_layRounds_52 rfl ?_
  refine a_bipush (pc := 54) dX9_layRounds_54 (by decide) (by decide +kernel) ?_
  refine a_icmp_ge (tgt := 91) (pc := 56) dX9_layRounds_56 (by decide) (fun hc1 => ?_) (fun hc1 => ?_)
  · replace h := h.1 hc1
    refine a_iconst (pc := 91) dX9_layRounds_91 (by decide) ?_
    refine a_istore (ls1 := [(2, 275), (0, l1), (0, l2), (0, l3), (0, 0), (9, 0)]) (pc := 92) dX9_layRounds_92 (by decide) (hp1 (t := 0) rfl (by decide)) rfl ?_
    exact h
  · replace h := h.2 hc1
    refine a_aload_n (pc := 59) dX9_layRounds_59 (by decide) rfl ?_
    refine a_getR (y := 283) (pc := 60) dX9_layRounds_60 fl_RX9_38 (by decide) s0_275 rfl rfl ?_
    refine a_bipush (pc := 63) dX9_layRounds_63 (by decide) (by decide +kernel) ?_
    refine a_iload_n (pc := 65) dX9_layRounds_65 rfl ?_
    have ho2 := h.1
    replace h := h.2
    refine a_imul (pc := 66) dX9_layRounds_66 ho2 ?_
    refine a_iload (pc := 67) dX9_layRounds_67 rfl ?_
    have ho3 := h.1
    replace h := h.2
    refine a_iadd (pc := 69) dX9_layRounds_69 ho3 ?_
    refine a_aload_n (pc := 70) dX9_layRounds_70 (by decide) rfl ?_
    refine a_getR (y := 283) (pc := 71) dX9_layRounds_71 fl_RX9_38 (by decide) s0_275 rfl rfl ?_
    refine a_bipush (pc := 74) dX9_layRounds_74 (by decide) (by decide +kernel) ?_
    refine a_iload_n (pc := 76) dX9_layRounds_76 rfl ?_
    refine a_iconst (pc := 77) dX9_layRounds_77 (by decide) ?_
    have ho4 := h.1
    replace h := h.2
    refine a_isub (pc := 78) dX9_layRounds_78 ho4 ?_
    have ho5 := h.1
    replace h := h.2
    refine a_imul (pc := 79) dX9_layRounds_79 ho5 ?_
    refine a_iload (pc := 80) dX9_layRounds_80 rfl ?_
    have ho6 := h.1
    replace h := h.2
    refine a_iadd (pc := 82) dX9_layRounds_82 ho6 ?_
    have ho7 := h.1
    replace h := h.2
    refine a_iald (pc := 83) dX9_layRounds_83 (by decide) s0_283 ho7.1 ho7.2 ?_
    have ho8 := h.1
    replace h := h.2
    refine a_iast (pc := 84) dX9_layRounds_84 (by decide) s0_283 ho8.1 ho8.2 ?_
    have ho9 := h.1
    replace h := h.2
    refine a_iinc (ls1 := [(2, 275), (0, l1), (0, l2), (0, l3), (0, l4 + 1), (9, 0)]) (pc := 85) dX9_layRounds_85 rfl (by decide) (hp1 (t := 0) rfl (by decide)) ho9 rfl ?_
    refine a_goto (tgt := 52) (pc := 88) dX9_layRounds_88 (by decide) ?_
    exact h
set_option maxRecDepth 100000 in
set_option maxHeartbeats 4000000 in
theorem B_R_layRounds_94 {l1 l2 l3 l4 : Int} {M : Mem} {Q : Int → Mem → Prop} (h : (((M 275 0) ≤ l4 → Calls mX9_layWalks [(2, 275), (0, l3)] S0 M (fun r2 M3 => (-2147483648 ≤ l3 + 1 ∧ l3 + 1 ≤ 2147483647) ∧ AW mX9_layRounds 43 [(2, 275), (0, l1), (0, l2), (0, l3 + 1), (9, 0), (9, 0)] M3 Q)) ∧ (¬ ((M 275 0) ≤ l4) → AW mX9_layRounds 106 [(2, 275), (0, l1), (0, l2), (0, l3), (0, l4), (0, 0)] M Q))) : AW mX9_layRounds 94 [(2, 275), (0, l1), (0, l2), (0, l3), (0, l4), (9, 0)] M Q := by
  refine a_iload (pc := 94) dX9_layRounds_94 rfl ?_
  refine a_aload_n (pc := 96) dX9_layRounds_96 (by decide) rfl ?_
  refine a_getI (y := 0) (pc := 97) dX9_layRounds_97 fl_RX9_98 (by decide) s0_275 (Or.inl rfl) rfl ?_
  refine a_icmp_ge (tgt := 150) (pc := 100) dX9_layRounds_100 (by decide) (fun hc1 => ?_) (fun hc1 => ?_)
  · replace h := h.1 hc1
    refine a_aload_n (pc := 150) dX9_layRounds_150 (by decide) rfl ?_
    refine a_iload_n (pc := 151) dX9_layRounds_151 rfl ?_
    refine p_callV (As := [(0, l3)]) (st := []) (st1 := fun r => [])  (pc := 152) dX9_layRounds_152 ml_RX9_127 (by decide) s0_275 rfl (by decide) (Nat.le_of_ble_eq_true rfl) rfl (fun _ => rfl) h (fun r2 M3 h => ?_)
    have ho4 := h.1
    replace h := h.2
    refine a_iinc (ls1 := [(2, 275), (0, l1), (0, l2), (0, l3 + 1), (0, l4), (9, 0)]) (pc := 155) dX9_layRounds_155 rfl (by decide) (hp1 (t := 0) rfl (by decide)) ho4 rfl ?_
    refine a_goto (tgt := 43) (pc := 158) dX9_layRounds_158 (by decide) ?_
    exact a_msk [true, true, true, true, false, true] rfl h
  · replace h := h.2 hc1
    refine a_iconst (pc := 103) dX9_layRounds_103 (by decide) ?_
    refine a_istore (ls1 := [(2, 275), (0, l1), (0, l2), (0, l3), (0, l4), (0, 0)]) (pc := 104) dX9_layRounds_104 (by decide) (hp1 (t := 0) rfl (by decide)) rfl ?_
    exact h
set_option maxRecDepth 100000 in
set_option maxHeartbeats 4000000 in
theorem B_R_layRounds_106 {l1 l2 l3 l4 l5 : Int} {M : Mem} {Q : Int → Mem → Prop} (h : ((0 : Int) ≤ l4 ∧ l4 < 8) ∧ (((M 279 l4) ≤ l5 → (-2147483648 ≤ l4 + 1 ∧ l4 + 1 ≤ 2147483647) ∧ AW mX9_layRounds 94 [(2, 275), (0, l1), (0, l2), (0, l3), (0, l4 + 1), (9, 0)] M Q) ∧ (¬ ((M 279 l4) ≤ l5) → Calls mX9_isRunning [(2, 275), (0, l4), (0, l5)] S0 M (fun r4 M5 => ((r4 = 0 → (-2147483648 ≤ l5 + 1 ∧ l5 + 1 ≤ 2147483647) ∧ AW mX9_layRounds 106 [(2, 275), (0, l1), (0, l2), (0, l3), (0, l4), (0, l5 + 1)] M5 Q) ∧ (¬ r4 = 0 → (-2147483648 ≤ 6 * l4 ∧ 6 * l4 ≤ 2147483647) ∧ (-2147483648 ≤ (6 * l4) + l5 ∧ (6 * l4) + l5 ≤ 2147483647) ∧ (((M5 275 9) = ((6 * l4) + l5) → (-2147483648 ≤ l5 + 1 ∧ l5 + 1 ≤ 2147483647) ∧ AW mX9_layRounds 106 [(2, 275), (0, l1), (0, l2), (0, l3), (0, l4), (0, l5 + 1)] M5 Q) ∧ (¬ (M5 275 9) = ((6 * l4) + l5) → Calls mX9_layTrip [(2, 275), (0, l3), (0, l4), (0, l5)] S0 M5 (fun r12 M13 => (-2147483648 ≤ l5 + 1 ∧ l5 + 1 ≤ 2147483647) ∧ AW mX9_layRounds 106 [(2, 275), (0, l1), (0, l2), (0, l3), (0, l4), (0, l5 + 1)] M13 Q))))))))) : AW mX9_layRounds 106 [(2, 275), (0, l1), (0, l2), (0, l3), (0, l4), (0, l5)] M Q := by
  refine a_iload (pc := 106) dX9_layRounds_106 rfl ?_
  refine a_aload_n (pc := 108) dX9_layRounds_108 (by decide) rfl ?_
  refine a_getR (y := 279) (pc := 109) dX9_layRounds_109 fl_RX9_19 (by decide) s0_275 rfl rfl ?_
  refine a_iload (pc := 112) dX9_layRounds_112 rfl ?_
  have ho1 := h.1
  replace h := h.2
  refine a_iald (pc := 114) dX9_layRounds_114 (by decide) s0_279 ho1.1 ho1.2 ?_
  refine a_icmp_ge (tgt := 144) (pc := 115) dX9_layRounds_115 (by decide) (fun hc2 => ?_) (fun hc2 => ?_)
  · replace h := h.1 hc2
    have ho3 := h.1
    replace h := h.2
    refine a_iinc (ls1 := [(2, 275), (0, l1), (0, l2), (0, l3), (0, l4 + 1), (0, l5)]) (pc := 144) dX9_layRounds_144 rfl (by decide) (hp1 (t := 0) rfl (by decide)) ho3 rfl ?_
    refine a_goto (tgt := 94) (pc := 147) dX9_layRounds_147 (by decide) ?_
    exact a_msk [true, true, true, true, true, false] rfl h
  · replace h := h.2 hc2
    refine a_aload_n (pc := 118) dX9_layRounds_118 (by decide) rfl ?_
    refine a_iload (pc := 119) dX9_layRounds_119 rfl ?_
    refine a_iload (pc := 121) dX9_layRounds_121 rfl ?_
    refine p_inlV (Ex := _) (As := [(0, l4), (0, l5)]) (st := []) (st1 := fun r => [(0, r)])  (pc := 123) dX9_layRounds_123 ml_RX9_131 (by decide) s0_275 rfl (by decide) (Nat.le_of_ble_eq_true rfl) rfl (fun _ => rfl) (by decide) (by decide) (Nat.le_of_ble_eq_true rfl) rfl ?_
    refine a_aload_n (pc := 0) dX9_isRidden_0 (by decide) rfl ?_
    refine a_iload_n (pc := 1) dX9_isRidden_1 rfl ?_
    refine a_iload_n (pc := 2) dX9_isRidden_2 rfl ?_
    refine p_callV (As := [(0, l4), (0, l5)]) (st := []) (st1 := fun r => [(0, r)])  (pc := 3) dX9_isRidden_3 ml_RX9_108 (by decide) s0_275 rfl (by decide) (Nat.le_of_ble_eq_true rfl) rfl (fun _ => rfl) h (fun r4 M5 h => ?_)
    refine a_if_eq (tgt := 26) (pc := 6) dX9_isRidden_6 (by decide) (fun hc6 => ?_) (fun hc6 => ?_)
    · replace h := h.1 hc6
      refine a_iconst (pc := 26) dX9_isRidden_26 (by decide) ?_
      refine a_iretz (pc := 27) dX9_isRidden_27 rfl rfl (Nat.le_of_ble_eq_true rfl) (by decide) ⟨rfl, ?_⟩
      refine a_if_eq (tgt := 138) (pc := 126) dX9_layRounds_126 (by decide) (fun _ => ?_) (fun hc => absurd (by decide) hc)
      have ho7 := h.1
      replace h := h.2
      refine a_iinc (ls1 := [(2, 275), (0, l1), (0, l2), (0, l3), (0, l4), (0, l5 + 1)]) (pc := 138) dX9_layRounds_138 rfl (by decide) (hp1 (t := 0) rfl (by decide)) ho7 rfl ?_
      refine a_goto (tgt := 106) (pc := 141) dX9_layRounds_141 (by decide) ?_
      exact h
    · replace h := h.2 hc6
      refine a_aload_n (pc := 9) dX9_isRidden_9 (by decide) rfl ?_
      refine a_getI (y := 9) (pc := 10) dX9_isRidden_10 fl_RX9_31 (by decide) s0_275 (Or.inl rfl) rfl ?_
      refine a_bipush (pc := 13) dX9_isRidden_13 (by decide) (by decide +kernel) ?_
      refine a_iload_n (pc := 15) dX9_isRidden_15 rfl ?_
      have ho8 := h.1
      replace h := h.2
      refine a_imul (pc := 16) dX9_isRidden_16 ho8 ?_
      refine a_iload_n (pc := 17) dX9_isRidden_17 rfl ?_
      have ho9 := h.1
      replace h := h.2
      refine a_iadd (pc := 18) dX9_isRidden_18 ho9 ?_
      refine a_icmp_eq (tgt := 26) (pc := 19) dX9_isRidden_19 (by decide) (fun hc10 => ?_) (fun hc10 => ?_)
      · replace h := h.1 hc10
        refine a_iconst (pc := 26) dX9_isRidden_26 (by decide) ?_
        refine a_iretz (pc := 27) dX9_isRidden_27 rfl rfl (Nat.le_of_ble_eq_true rfl) (by decide) ⟨rfl, ?_⟩
        refine a_if_eq (tgt := 138) (pc := 126) dX9_layRounds_126 (by decide) (fun _ => ?_) (fun hc => absurd (by decide) hc)
        have ho11 := h.1
        replace h := h.2
        refine a_iinc (ls1 := [(2, 275), (0, l1), (0, l2), (0, l3), (0, l4), (0, l5 + 1)]) (pc := 138) dX9_layRounds_138 rfl (by decide) (hp1 (t := 0) rfl (by decide)) ho11 rfl ?_
        refine a_goto (tgt := 106) (pc := 141) dX9_layRounds_141 (by decide) ?_
        exact h
      · replace h := h.2 hc10
        refine a_iconst (pc := 22) dX9_isRidden_22 (by decide) ?_
        refine a_goto (tgt := 27) (pc := 23) dX9_isRidden_23 (by decide) ?_
        refine a_iretz (pc := 27) dX9_isRidden_27 rfl rfl (Nat.le_of_ble_eq_true rfl) (by decide) ⟨rfl, ?_⟩
        refine a_if_eq (tgt := 138) (pc := 126) dX9_layRounds_126 (by decide) (fun hc => absurd hc (by decide)) (fun _ => ?_)
        refine a_aload_n (pc := 129) dX9_layRounds_129 (by decide) rfl ?_
        refine a_iload_n (pc := 130) dX9_layRounds_130 rfl ?_
        refine a_iload (pc := 131) dX9_layRounds_131 rfl ?_
        refine a_iload (pc := 133) dX9_layRounds_133 rfl ?_
        refine p_callV (As := [(0, l3), (0, l4), (0, l5)]) (st := []) (st1 := fun r => [])  (pc := 135) dX9_layRounds_135 ml_RX9_134 (by decide) s0_275 rfl (by decide) (Nat.le_of_ble_eq_true rfl) rfl (fun _ => rfl) h (fun r12 M13 h => ?_)
        have ho14 := h.1
        replace h := h.2
        refine a_iinc (ls1 := [(2, 275), (0, l1), (0, l2), (0, l3), (0, l4), (0, l5 + 1)]) (pc := 138) dX9_layRounds_138 rfl (by decide) (hp1 (t := 0) rfl (by decide)) ho14 rfl ?_
        refine a_goto (tgt := 106) (pc := 141) dX9_layRounds_141 (by decide) ?_
        exact h
set_option maxRecDepth 100000 in
set_option maxHeartbeats 4000000 in
theorem B_R_layRounds_163 {l1 l2 l3 : Int} {M : Mem} {Q : Int → Mem → Prop} (h : ((6 < l3 → Q 0 M) ∧ (¬ (6 < l3) → (-2147483648 ≤ 12 * l3 ∧ 12 * l3 ≤ 2147483647) ∧ (-2147483648 ≤ (12 * l3) + l1 ∧ (12 * l3) + l1 ≤ 2147483647) ∧ ((0 : Int) ≤ (12 * l3) + l1 ∧ (12 * l3) + l1 < 84) ∧ (-2147483648 ≤ l3 + 1 ∧ l3 + 1 ≤ 2147483647) ∧ AW mX9_layRounds 163 [(2, 275), (0, l1), (0, l2), (0, l3 + 1), (9, 0), (9, 0)] (up2 M 284 ((12 * l3) + l1) l2) Q))) : AW mX9_layRounds 163 [(2, 275), (0, l1), (0, l2), (0, l3), (9, 0), (9, 0)] M Q := by
  refine a_iload_n (pc := 163) dX9_layRounds_163 rfl ?_
  refine a_bipush (pc := 164) dX9_layRounds_164 (by decide) (by decide +kernel) ?_
  refine a_icmp_gt (tgt := 187) (pc := 166) dX9_layRounds_166 (by decide) (fun hc1 => ?_) (fun hc1 => ?_)
  · replace h := h.1 hc1
    exact a_vret (pc := 187) dX9_layRounds_187 rfl rfl (Nat.le_of_ble_eq_true rfl) ⟨rfl, h⟩
  · replace h := h.2 hc1
    refine a_aload_n (pc := 169) dX9_layRounds_169 (by decide) rfl ?_
    refine a_getR (y := 284) (pc := 170) dX9_layRounds_170 fl_RX9_41 (by decide) s0_275 rfl rfl ?_
    refine a_bipush (pc := 173) dX9_layRounds_173 (by decide) (by decide +kernel) ?_
    refine a_iload_n (pc := 175) dX9_layRounds_175 rfl ?_
    have ho2 := h.1
    replace h := h.2
    refine a_imul (pc := 176) dX9_layRounds_176 ho2 ?_
    refine a_iload_n (pc := 177) dX9_layRounds_177 rfl ?_
    have ho3 := h.1
    replace h := h.2
    refine a_iadd (pc := 178) dX9_layRounds_178 ho3 ?_
    refine a_iload_n (pc := 179) dX9_layRounds_179 rfl ?_
    have ho4 := h.1
    replace h := h.2
    refine a_iast (pc := 180) dX9_layRounds_180 (by decide) s0_284 ho4.1 ho4.2 ?_
    have ho5 := h.1
    replace h := h.2
    refine a_iinc (ls1 := [(2, 275), (0, l1), (0, l2), (0, l3 + 1), (9, 0), (9, 0)]) (pc := 181) dX9_layRounds_181 rfl (by decide) (hp1 (t := 0) rfl (by decide)) ho5 rfl ?_
    refine a_goto (tgt := 163) (pc := 184) dX9_layRounds_184 (by decide) ?_
    exact h
theorem E_R_layRounds {l1 l2 : Int} {M : Mem} {Q : Int → Mem → Prop} (h : AW mX9_layRounds 0 [(2, 275), (0, l1), (0, l2), (9, 0), (9, 0), (9, 0)] M Q) : Calls mX9_layRounds [(2, 275), (0, l1), (0, l2)] S0 M Q := calls_of (by decide) (by decide) (Nat.le_of_ble_eq_true rfl) rfl h
set_option maxRecDepth 100000 in
set_option maxHeartbeats 4000000 in
theorem B_R_seekRide_0 {l1 l2 l3 : Int} {M : Mem} {Q : Int → Mem → Prop} (h : AW mX9_seekRide 3 [(2, 275), (0, l1), (0, l2), (0, l3), (0, 0), (9, 0), (9, 0)] M Q) : AW mX9_seekRide 0 [(2, 275), (0, l1), (0, l2), (0, l3), (9, 0), (9, 0), (9, 0)] M Q := by
  refine a_iconst (pc := 0) dX9_seekRide_0 (by decide) ?_
  refine a_istore (ls1 := [(2, 275), (0, l1), (0, l2), (0, l3), (0, 0), (9, 0), (9, 0)]) (pc := 1) dX9_seekRide_1 (by decide) (hp1 (t := 0) rfl (by decide)) rfl ?_
  exact h
set_option maxRecDepth 100000 in
set_option maxHeartbeats 4000000 in
theorem B_R_seekRide_3 {l1 l2 l3 l4 : Int} {M : Mem} {Q : Int → Mem → Prop} (h : (((M 275 0) ≤ l4 → Q 0 M) ∧ (¬ ((M 275 0) ≤ l4) → ((l3 ≤ 0 → Q 0 M) ∧ (¬ (l3 ≤ 0) → AW mX9_seekRide 19 [(2, 275), (0, l1), (0, l2), (0, l3), (0, l4), (0, 0), (9, 0)] M Q))))) : AW mX9_seekRide 3 [(2, 275), (0, l1), (0, l2), (0, l3), (0, l4), (9, 0), (9, 0)] M Q := by
  refine a_iload (pc := 3) dX9_seekRide_3 rfl ?_
  refine a_aload_n (pc := 5) dX9_seekRide_5 (by decide) rfl ?_
  refine a_getI (y := 0) (pc := 6) dX9_seekRide_6 fl_RX9_98 (by decide) s0_275 (Or.inl rfl) rfl ?_
  refine a_icmp_ge (tgt := 96) (pc := 9) dX9_seekRide_9 (by decide) (fun hc1 => ?_) (fun hc1 => ?_)
  · replace h := h.1 hc1
    refine a_iconst (pc := 96) dX9_seekRide_96 (by decide) ?_
    exact a_iretz (pc := 97) dX9_seekRide_97 rfl rfl (Nat.le_of_ble_eq_true rfl) (by decide) ⟨rfl, h⟩
  · replace h := h.2 hc1
    refine a_iload_n (pc := 12) dX9_seekRide_12 rfl ?_
    refine a_if_le (tgt := 96) (pc := 13) dX9_seekRide_13 (by decide) (fun hc2 => ?_) (fun hc2 => ?_)
    · replace h := h.1 hc2
      refine a_iconst (pc := 96) dX9_seekRide_96 (by decide) ?_
      exact a_iretz (pc := 97) dX9_seekRide_97 rfl rfl (Nat.le_of_ble_eq_true rfl) (by decide) ⟨rfl, h⟩
    · replace h := h.2 hc2
      refine a_iconst (pc := 16) dX9_seekRide_16 (by decide) ?_
      refine a_istore (ls1 := [(2, 275), (0, l1), (0, l2), (0, l3), (0, l4), (0, 0), (9, 0)]) (pc := 17) dX9_seekRide_17 (by decide) (hp1 (t := 0) rfl (by decide)) rfl ?_
      exact h
set_option maxRecDepth 100000 in
set_option maxHeartbeats 4000000 in
theorem B_R_seekRide_19 {l1 l2 l3 l4 l5 : Int} {M : Mem} {Q : Int → Mem → Prop} (h : ((0 : Int) ≤ l4 ∧ l4 < 8) ∧ (((M 279 l4) ≤ l5 → (-2147483648 ≤ l4 + 1 ∧ l4 + 1 ≤ 2147483647) ∧ AW mX9_seekRide 3 [(2, 275), (0, l1), (0, l2), (0, l3), (0, l4 + 1), (9, 0), (9, 0)] M Q) ∧ (¬ ((M 279 l4) ≤ l5) → Calls mX9_isRunning [(2, 275), (0, l4), (0, l5)] S0 M (fun r4 M5 => ((r4 = 0 → (-2147483648 ≤ l5 + 1 ∧ l5 + 1 ≤ 2147483647) ∧ AW mX9_seekRide 19 [(2, 275), (0, l1), (0, l2), (0, l3), (0, l4), (0, l5 + 1), (9, 0)] M5 Q) ∧ (¬ r4 = 0 → (-2147483648 ≤ 6 * l4 ∧ 6 * l4 ≤ 2147483647) ∧ (-2147483648 ≤ (6 * l4) + l5 ∧ (6 * l4) + l5 ≤ 2147483647) ∧ (((M5 275 9) = ((6 * l4) + l5) → (-2147483648 ≤ l5 + 1 ∧ l5 + 1 ≤ 2147483647) ∧ AW mX9_seekRide 19 [(2, 275), (0, l1), (0, l2), (0, l3), (0, l4), (0, l5 + 1), (9, 0)] M5 Q) ∧ (¬ (M5 275 9) = ((6 * l4) + l5) → Calls mX9_boardedAt [(2, 275), (0, l4), (0, l5), (0, l1), (0, l2), (0, l3)] S0 M5 (fun r12 M13 => ((r12 < 0 → (-2147483648 ≤ l5 + 1 ∧ l5 + 1 ≤ 2147483647) ∧ AW mX9_seekRide 19 [(2, 275), (0, l1), (0, l2), (0, l3), (0, l4), (0, l5 + 1), (9, 0)] M13 Q) ∧ (¬ (r12 < 0) → Q 1 (up2 (up2 (up2 M13 275 22 l4) 275 23 l5) 275 24 r12)))))))))))) : AW mX9_seekRide 19 [(2, 275), (0, l1), (0, l2), (0, l3), (0, l4), (0, l5), (9, 0)] M Q := by
  refine a_iload (pc := 19) dX9_seekRide_19 rfl ?_
  refine a_aload_n (pc := 21) dX9_seekRide_21 (by decide) rfl ?_
  refine a_getR (y := 279) (pc := 22) dX9_seekRide_22 fl_RX9_19 (by decide) s0_275 rfl rfl ?_
  refine a_iload (pc := 25) dX9_seekRide_25 rfl ?_
  have ho1 := h.1
  replace h := h.2
  refine a_iald (pc := 27) dX9_seekRide_27 (by decide) s0_279 ho1.1 ho1.2 ?_
  refine a_icmp_ge (tgt := 90) (pc := 28) dX9_seekRide_28 (by decide) (fun hc2 => ?_) (fun hc2 => ?_)
  · replace h := h.1 hc2
    have ho3 := h.1
    replace h := h.2
    refine a_iinc (ls1 := [(2, 275), (0, l1), (0, l2), (0, l3), (0, l4 + 1), (0, l5), (9, 0)]) (pc := 90) dX9_seekRide_90 rfl (by decide) (hp1 (t := 0) rfl (by decide)) ho3 rfl ?_
    refine a_goto (tgt := 3) (pc := 93) dX9_seekRide_93 (by decide) ?_
    exact a_msk [true, true, true, true, true, false, true] rfl h
  · replace h := h.2 hc2
    refine a_aload_n (pc := 31) dX9_seekRide_31 (by decide) rfl ?_
    refine a_iload (pc := 32) dX9_seekRide_32 rfl ?_
    refine a_iload (pc := 34) dX9_seekRide_34 rfl ?_
    refine p_inlV (Ex := _) (As := [(0, l4), (0, l5)]) (st := []) (st1 := fun r => [(0, r)])  (pc := 36) dX9_seekRide_36 ml_RX9_131 (by decide) s0_275 rfl (by decide) (Nat.le_of_ble_eq_true rfl) rfl (fun _ => rfl) (by decide) (by decide) (Nat.le_of_ble_eq_true rfl) rfl ?_
    refine a_aload_n (pc := 0) dX9_isRidden_0 (by decide) rfl ?_
    refine a_iload_n (pc := 1) dX9_isRidden_1 rfl ?_
    refine a_iload_n (pc := 2) dX9_isRidden_2 rfl ?_
    refine p_callV (As := [(0, l4), (0, l5)]) (st := []) (st1 := fun r => [(0, r)])  (pc := 3) dX9_isRidden_3 ml_RX9_108 (by decide) s0_275 rfl (by decide) (Nat.le_of_ble_eq_true rfl) rfl (fun _ => rfl) h (fun r4 M5 h => ?_)
    refine a_if_eq (tgt := 26) (pc := 6) dX9_isRidden_6 (by decide) (fun hc6 => ?_) (fun hc6 => ?_)
    · replace h := h.1 hc6
      refine a_iconst (pc := 26) dX9_isRidden_26 (by decide) ?_
      refine a_iretz (pc := 27) dX9_isRidden_27 rfl rfl (Nat.le_of_ble_eq_true rfl) (by decide) ⟨rfl, ?_⟩
      refine a_if_eq (tgt := 56) (pc := 39) dX9_seekRide_39 (by decide) (fun _ => ?_) (fun hc => absurd (by decide) hc)
      refine a_iconst (pc := 56) dX9_seekRide_56 (by decide) ?_
      refine a_istore (ls1 := [(2, 275), (0, l1), (0, l2), (0, l3), (0, l4), (0, l5), (0, (-1))]) (pc := 57) dX9_seekRide_57 (by decide) (hp1 (t := 0) rfl (by decide)) rfl ?_
      refine a_iload (pc := 59) dX9_seekRide_59 rfl ?_
      refine a_if_lt (tgt := 84) (pc := 61) dX9_seekRide_61 (by decide) (fun _ => ?_) (fun hc => absurd (by decide) hc)
      have ho7 := h.1
      replace h := h.2
      refine a_iinc (ls1 := [(2, 275), (0, l1), (0, l2), (0, l3), (0, l4), (0, l5 + 1), (0, (-1))]) (pc := 84) dX9_seekRide_84 rfl (by decide) (hp1 (t := 0) rfl (by decide)) ho7 rfl ?_
      refine a_goto (tgt := 19) (pc := 87) dX9_seekRide_87 (by decide) ?_
      exact a_msk [true, true, true, true, true, true, false] rfl h
    · replace h := h.2 hc6
      refine a_aload_n (pc := 9) dX9_isRidden_9 (by decide) rfl ?_
      refine a_getI (y := 9) (pc := 10) dX9_isRidden_10 fl_RX9_31 (by decide) s0_275 (Or.inl rfl) rfl ?_
      refine a_bipush (pc := 13) dX9_isRidden_13 (by decide) (by decide +kernel) ?_
      refine a_iload_n (pc := 15) dX9_isRidden_15 rfl ?_
      have ho8 := h.1
      replace h := h.2
      refine a_imul (pc := 16) dX9_isRidden_16 ho8 ?_
      refine a_iload_n (pc := 17) dX9_isRidden_17 rfl ?_
      have ho9 := h.1
      replace h := h.2
      refine a_iadd (pc := 18) dX9_isRidden_18 ho9 ?_
      refine a_icmp_eq (tgt := 26) (pc := 19) dX9_isRidden_19 (by decide) (fun hc10 => ?_) (fun hc10 => ?_)
      · replace h := h.1 hc10
        refine a_iconst (pc := 26) dX9_isRidden_26 (by decide) ?_
        refine a_iretz (pc := 27) dX9_isRidden_27 rfl rfl (Nat.le_of_ble_eq_true rfl) (by decide) ⟨rfl, ?_⟩
        refine a_if_eq (tgt := 56) (pc := 39) dX9_seekRide_39 (by decide) (fun _ => ?_) (fun hc => absurd (by decide) hc)
        refine a_iconst (pc := 56) dX9_seekRide_56 (by decide) ?_
        refine a_istore (ls1 := [(2, 275), (0, l1), (0, l2), (0, l3), (0, l4), (0, l5), (0, (-1))]) (pc := 57) dX9_seekRide_57 (by decide) (hp1 (t := 0) rfl (by decide)) rfl ?_
        refine a_iload (pc := 59) dX9_seekRide_59 rfl ?_
        refine a_if_lt (tgt := 84) (pc := 61) dX9_seekRide_61 (by decide) (fun _ => ?_) (fun hc => absurd (by decide) hc)
        have ho11 := h.1
        replace h := h.2
        refine a_iinc (ls1 := [(2, 275), (0, l1), (0, l2), (0, l3), (0, l4), (0, l5 + 1), (0, (-1))]) (pc := 84) dX9_seekRide_84 rfl (by decide) (hp1 (t := 0) rfl (by decide)) ho11 rfl ?_
        refine a_goto (tgt := 19) (pc := 87) dX9_seekRide_87 (by decide) ?_
        exact a_msk [true, true, true, true, true, true, false] rfl h
      · replace h := h.2 hc10
        refine a_iconst (pc := 22) dX9_isRidden_22 (by decide) ?_
        refine a_goto (tgt := 27) (pc := 23) dX9_isRidden_23 (by decide) ?_
        refine a_iretz (pc := 27) dX9_isRidden_27 rfl rfl (Nat.le_of_ble_eq_true rfl) (by decide) ⟨rfl, ?_⟩
        refine a_if_eq (tgt := 56) (pc := 39) dX9_seekRide_39 (by decide) (fun hc => absurd hc (by decide)) (fun _ => ?_)
        refine a_aload_n (pc := 42) dX9_seekRide_42 (by decide) rfl ?_
        refine a_iload (pc := 43) dX9_seekRide_43 rfl ?_
        refine a_iload (pc := 45) dX9_seekRide_45 rfl ?_
        refine a_iload_n (pc := 47) dX9_seekRide_47 rfl ?_
        refine a_iload_n (pc := 48) dX9_seekRide_48 rfl ?_
        refine a_iload_n (pc := 49) dX9_seekRide_49 rfl ?_
        refine p_callV (As := [(0, l4), (0, l5), (0, l1), (0, l2), (0, l3)]) (st := []) (st1 := fun r => [(0, r)])  (pc := 50) dX9_seekRide_50 ml_RX9_142 (by decide) s0_275 rfl (by decide) (Nat.le_of_ble_eq_true rfl) rfl (fun _ => rfl) h (fun r12 M13 h => ?_)
        refine a_goto (tgt := 57) (pc := 53) dX9_seekRide_53 (by decide) ?_
        refine a_istore (ls1 := [(2, 275), (0, l1), (0, l2), (0, l3), (0, l4), (0, l5), (0, r12)]) (pc := 57) dX9_seekRide_57 (by decide) (hp1 (t := 0) rfl (by decide)) rfl ?_
        refine a_iload (pc := 59) dX9_seekRide_59 rfl ?_
        refine a_if_lt (tgt := 84) (pc := 61) dX9_seekRide_61 (by decide) (fun hc14 => ?_) (fun hc14 => ?_)
        · replace h := h.1 hc14
          have ho15 := h.1
          replace h := h.2
          refine a_iinc (ls1 := [(2, 275), (0, l1), (0, l2), (0, l3), (0, l4), (0, l5 + 1), (0, r12)]) (pc := 84) dX9_seekRide_84 rfl (by decide) (hp1 (t := 0) rfl (by decide)) ho15 rfl ?_
          refine a_goto (tgt := 19) (pc := 87) dX9_seekRide_87 (by decide) ?_
          exact a_msk [true, true, true, true, true, true, false] rfl h
        · replace h := h.2 hc14
          refine a_aload_n (pc := 64) dX9_seekRide_64 (by decide) rfl ?_
          refine a_iload (pc := 65) dX9_seekRide_65 rfl ?_
          refine a_putI (y := 22) (pc := 67) dX9_seekRide_67 fl_RX9_146 (by decide) s0_275 rfl rfl (tyX9_ok 22 (by decide)) rfl ?_
          refine a_aload_n (pc := 70) dX9_seekRide_70 (by decide) rfl ?_
          refine a_iload (pc := 71) dX9_seekRide_71 rfl ?_
          refine a_putI (y := 23) (pc := 73) dX9_seekRide_73 fl_RX9_149 (by decide) s0_275 rfl rfl (tyX9_ok 23 (by decide)) rfl ?_
          refine a_aload_n (pc := 76) dX9_seekRide_76 (by decide) rfl ?_
          refine a_iload (pc := 77) dX9_seekRide_77 rfl ?_
          refine a_putI (y := 24) (pc := 79) dX9_seekRide_79 fl_RX9_152 (by decide) s0_275 rfl rfl (tyX9_ok 24 (by decide)) rfl ?_
          refine a_iconst (pc := 82) dX9_seekRide_82 (by decide) ?_
          exact a_iretz (pc := 83) dX9_seekRide_83 rfl rfl (Nat.le_of_ble_eq_true rfl) (by decide) ⟨rfl, h⟩
theorem E_R_seekRide {l1 l2 l3 : Int} {M : Mem} {Q : Int → Mem → Prop} (h : AW mX9_seekRide 0 [(2, 275), (0, l1), (0, l2), (0, l3), (9, 0), (9, 0), (9, 0)] M Q) : Calls mX9_seekRide [(2, 275), (0, l1), (0, l2), (0, l3)] S0 M Q := calls_of (by decide) (by decide) (Nat.le_of_ble_eq_true rfl) rfl h
set_option maxRecDepth 100000 in
set_option maxHeartbeats 4000000 in
theorem B_R_foot_0 {l1 l2 : Int} {M : Mem} {Q : Int → Mem → Prop} (h : ((l1 < 0 → Q (-1) (up2 M 275 8 0)) ∧ (¬ (l1 < 0) → ((11 < l1 → Q (-1) (up2 M 275 8 0)) ∧ (¬ (11 < l1) → ((l2 < 0 → Q (-1) (up2 M 275 8 0)) ∧ (¬ (l2 < 0) → ((11 < l2 → Q (-1) (up2 M 275 8 0)) ∧ (¬ (11 < l2) → ((l1 = l2 → Q (-1) (up2 M 275 8 0)) ∧ (¬ l1 = l2 → (-2147483648 ≤ 12 * l1 ∧ 12 * l1 ≤ 2147483647) ∧ (-2147483648 ≤ (12 * l1) + l2 ∧ (12 * l1) + l2 ≤ 2147483647) ∧ ((0 : Int) ≤ (12 * l1) + l2 ∧ (12 * l1) + l2 < 144) ∧ ((¬ (M 282 ((12 * l1) + l2)) = 0 → Q (M 282 ((12 * l1) + l2)) (up2 M 275 8 0)) ∧ ((M 282 ((12 * l1) + l2)) = 0 → Q (-5) (up2 M 275 8 0)))))))))))))) : AW mX9_foot 0 [(2, 275), (0, l1), (0, l2)] M Q := by
  refine a_aload_n (pc := 0) dX9_foot_0 (by decide) rfl ?_
  refine a_iconst (pc := 1) dX9_foot_1 (by decide) ?_
  refine a_putI (y := 8) (pc := 2) dX9_foot_2 fl_RX9_87 (by decide) s0_275 rfl rfl (tyX9_ok 8 (by decide)) rfl ?_
  refine a_iload_n (pc := 5) dX9_foot_5 rfl ?_
  refine a_iload_n (pc := 6) dX9_foot_6 rfl ?_
  refine p_inlS (Ex := _) (As := [(0, l1), (0, l2)]) (st := []) (st1 := fun r => [(0, r)])  (pc := 7) dX9_foot_7 ml_RX9_263 (by decide) (Nat.le_of_ble_eq_true rfl) rfl (fun _ => rfl) (by decide) (by decide) (Nat.le_of_ble_eq_true rfl) rfl ?_
  refine a_iload_n (pc := 0) dX9_areTwo_0 rfl ?_
  refine p_inlS (Ex := _) (As := [(0, l1)]) (st := []) (st1 := fun r => [(0, r)])  (pc := 1) dX9_areTwo_1 ml_RX9_260 (by decide) (Nat.le_of_ble_eq_true rfl) rfl (fun _ => rfl) (by decide) (by decide) (Nat.le_of_ble_eq_true rfl) rfl ?_
  refine a_iload_n (pc := 0) dX9_isStop_0 rfl ?_
  refine a_i2l (pc := 1) dX9_isStop_1 ?_
  refine a_lconst (v := 0) (pc := 2) dX9_isStop_2 rfl ?_
  refine a_ldc2 (v := 11) (pc := 3) dX9_isStop_3 kc_RX9_90 (by decide) ?_
  refine p_inlS (Ex := _) (As := [(1, l1), (1, 0), (1, 11)]) (st := []) (st1 := fun r => [(0, r)])  (pc := 6) dX9_isStop_6 ml_RX9_92 (by decide) (Nat.le_of_ble_eq_true rfl) rfl (fun _ => rfl) (by decide) (by decide) (Nat.le_of_ble_eq_true rfl) rfl ?_
  refine a_lload_n (pc := 0) dX9_in_0 rfl ?_
  refine a_lload_n (pc := 1) dX9_in_1 rfl ?_
  refine a_lcmp_lt (tgt := 17) (pc := 2) dX9_in_2 dX9_in_3 (by decide) (fun hc1 => ?_) (fun hc1 => ?_)
  · replace h := h.1 hc1
    refine a_iconst (pc := 17) dX9_in_17 (by decide) ?_
    refine a_iretz (pc := 18) dX9_in_18 rfl rfl (Nat.le_of_ble_eq_true rfl) (by decide) ⟨rfl, ?_⟩
    refine a_iretz (pc := 9) dX9_isStop_9 rfl rfl (Nat.le_of_ble_eq_true rfl) (by decide) ⟨rfl, ?_⟩
    refine a_if_eq (tgt := 23) (pc := 4) dX9_areTwo_4 (by decide) (fun _ => ?_) (fun hc => absurd (by decide) hc)
    refine a_iconst (pc := 23) dX9_areTwo_23 (by decide) ?_
    refine a_iretz (pc := 24) dX9_areTwo_24 rfl rfl (Nat.le_of_ble_eq_true rfl) (by decide) ⟨rfl, ?_⟩
    refine a_if_eq (tgt := 22) (pc := 10) dX9_foot_10 (by decide) (fun _ => ?_) (fun hc => absurd (by decide) hc)
    refine a_iconst (pc := 22) dX9_foot_22 (by decide) ?_
    exact a_ireti (pc := 23) dX9_foot_23 rfl rfl (Nat.le_of_ble_eq_true rfl) ⟨rfl, h⟩
  · replace h := h.2 hc1
    refine a_lload_n (pc := 6) dX9_in_6 rfl ?_
    refine a_lload (pc := 7) dX9_in_7 rfl ?_
    refine a_lcmp_gt (tgt := 17) (pc := 9) dX9_in_9 dX9_in_10 (by decide) (fun hc2 => ?_) (fun hc2 => ?_)
    · replace h := h.1 hc2
      refine a_iconst (pc := 17) dX9_in_17 (by decide) ?_
      refine a_iretz (pc := 18) dX9_in_18 rfl rfl (Nat.le_of_ble_eq_true rfl) (by decide) ⟨rfl, ?_⟩
      refine a_iretz (pc := 9) dX9_isStop_9 rfl rfl (Nat.le_of_ble_eq_true rfl) (by decide) ⟨rfl, ?_⟩
      refine a_if_eq (tgt := 23) (pc := 4) dX9_areTwo_4 (by decide) (fun _ => ?_) (fun hc => absurd (by decide) hc)
      refine a_iconst (pc := 23) dX9_areTwo_23 (by decide) ?_
      refine a_iretz (pc := 24) dX9_areTwo_24 rfl rfl (Nat.le_of_ble_eq_true rfl) (by decide) ⟨rfl, ?_⟩
      refine a_if_eq (tgt := 22) (pc := 10) dX9_foot_10 (by decide) (fun _ => ?_) (fun hc => absurd (by decide) hc)
      refine a_iconst (pc := 22) dX9_foot_22 (by decide) ?_
      exact a_ireti (pc := 23) dX9_foot_23 rfl rfl (Nat.le_of_ble_eq_true rfl) ⟨rfl, h⟩
    · replace h := h.2 hc2
      refine a_iconst (pc := 13) dX9_in_13 (by decide) ?_
      refine a_goto (tgt := 18) (pc := 14) dX9_in_14 (by decide) ?_
      refine a_iretz (pc := 18) dX9_in_18 rfl rfl (Nat.le_of_ble_eq_true rfl) (by decide) ⟨rfl, ?_⟩
      refine a_iretz (pc := 9) dX9_isStop_9 rfl rfl (Nat.le_of_ble_eq_true rfl) (by decide) ⟨rfl, ?_⟩
      refine a_if_eq (tgt := 23) (pc := 4) dX9_areTwo_4 (by decide) (fun hc => absurd hc (by decide)) (fun _ => ?_)
      refine a_iload_n (pc := 7) dX9_areTwo_7 rfl ?_
      refine p_inlS (Ex := _) (As := [(0, l2)]) (st := []) (st1 := fun r => [(0, r)])  (pc := 8) dX9_areTwo_8 ml_RX9_260 (by decide) (Nat.le_of_ble_eq_true rfl) rfl (fun _ => rfl) (by decide) (by decide) (Nat.le_of_ble_eq_true rfl) rfl ?_
      refine a_iload_n (pc := 0) dX9_isStop_0 rfl ?_
      refine a_i2l (pc := 1) dX9_isStop_1 ?_
      refine a_lconst (v := 0) (pc := 2) dX9_isStop_2 rfl ?_
      refine a_ldc2 (v := 11) (pc := 3) dX9_isStop_3 kc_RX9_90 (by decide) ?_
      refine p_inlS (Ex := _) (As := [(1, l2), (1, 0), (1, 11)]) (st := []) (st1 := fun r => [(0, r)])  (pc := 6) dX9_isStop_6 ml_RX9_92 (by decide) (Nat.le_of_ble_eq_true rfl) rfl (fun _ => rfl) (by decide) (by decide) (Nat.le_of_ble_eq_true rfl) rfl ?_
      refine a_lload_n (pc := 0) dX9_in_0 rfl ?_
      refine a_lload_n (pc := 1) dX9_in_1 rfl ?_
      refine a_lcmp_lt (tgt := 17) (pc := 2) dX9_in_2 dX9_in_3 (by decide) (fun hc3 => ?_) (fun hc3 => ?_)
      · replace h := h.1 hc3
        refine a_iconst (pc := 17) dX9_in_17 (by decide) ?_
        refine a_iretz (pc := 18) dX9_in_18 rfl rfl (Nat.le_of_ble_eq_true rfl) (by decide) ⟨rfl, ?_⟩
        refine a_iretz (pc := 9) dX9_isStop_9 rfl rfl (Nat.le_of_ble_eq_true rfl) (by decide) ⟨rfl, ?_⟩
        refine a_if_eq (tgt := 23) (pc := 11) dX9_areTwo_11 (by decide) (fun _ => ?_) (fun hc => absurd (by decide) hc)
        refine a_iconst (pc := 23) dX9_areTwo_23 (by decide) ?_
        refine a_iretz (pc := 24) dX9_areTwo_24 rfl rfl (Nat.le_of_ble_eq_true rfl) (by decide) ⟨rfl, ?_⟩
        refine a_if_eq (tgt := 22) (pc := 10) dX9_foot_10 (by decide) (fun _ => ?_) (fun hc => absurd (by decide) hc)
        refine a_iconst (pc := 22) dX9_foot_22 (by decide) ?_
        exact a_ireti (pc := 23) dX9_foot_23 rfl rfl (Nat.le_of_ble_eq_true rfl) ⟨rfl, h⟩
      · replace h := h.2 hc3
        refine a_lload_n (pc := 6) dX9_in_6 rfl ?_
        refine a_lload (pc := 7) dX9_in_7 rfl ?_
        refine a_lcmp_gt (tgt := 17) (pc := 9) dX9_in_9 dX9_in_10 (by decide) (fun hc4 => ?_) (fun hc4 => ?_)
        · replace h := h.1 hc4
          refine a_iconst (pc := 17) dX9_in_17 (by decide) ?_
          refine a_iretz (pc := 18) dX9_in_18 rfl rfl (Nat.le_of_ble_eq_true rfl) (by decide) ⟨rfl, ?_⟩
          refine a_iretz (pc := 9) dX9_isStop_9 rfl rfl (Nat.le_of_ble_eq_true rfl) (by decide) ⟨rfl, ?_⟩
          refine a_if_eq (tgt := 23) (pc := 11) dX9_areTwo_11 (by decide) (fun _ => ?_) (fun hc => absurd (by decide) hc)
          refine a_iconst (pc := 23) dX9_areTwo_23 (by decide) ?_
          refine a_iretz (pc := 24) dX9_areTwo_24 rfl rfl (Nat.le_of_ble_eq_true rfl) (by decide) ⟨rfl, ?_⟩
          refine a_if_eq (tgt := 22) (pc := 10) dX9_foot_10 (by decide) (fun _ => ?_) (fun hc => absurd (by decide) hc)
          refine a_iconst (pc := 22) dX9_foot_22 (by decide) ?_
          exact a_ireti (pc := 23) dX9_foot_23 rfl rfl (Nat.le_of_ble_eq_true rfl) ⟨rfl, h⟩
        · replace h := h.2 hc4
          refine a_iconst (pc := 13) dX9_in_13 (by decide) ?_
          refine a_goto (tgt := 18) (pc := 14) dX9_in_14 (by decide) ?_
          refine a_iretz (pc := 18) dX9_in_18 rfl rfl (Nat.le_of_ble_eq_true rfl) (by decide) ⟨rfl, ?_⟩
          refine a_iretz (pc := 9) dX9_isStop_9 rfl rfl (Nat.le_of_ble_eq_true rfl) (by decide) ⟨rfl, ?_⟩
          refine a_if_eq (tgt := 23) (pc := 11) dX9_areTwo_11 (by decide) (fun hc => absurd hc (by decide)) (fun _ => ?_)
          refine a_iload_n (pc := 14) dX9_areTwo_14 rfl ?_
          refine a_iload_n (pc := 15) dX9_areTwo_15 rfl ?_
          refine a_icmp_eq (tgt := 23) (pc := 16) dX9_areTwo_16 (by decide) (fun hc5 => ?_) (fun hc5 => ?_)
          · replace h := h.1 hc5
            refine a_iconst (pc := 23) dX9_areTwo_23 (by decide) ?_
            refine a_iretz (pc := 24) dX9_areTwo_24 rfl rfl (Nat.le_of_ble_eq_true rfl) (by decide) ⟨rfl, ?_⟩
            refine a_if_eq (tgt := 22) (pc := 10) dX9_foot_10 (by decide) (fun _ => ?_) (fun hc => absurd (by decide) hc)
            refine a_iconst (pc := 22) dX9_foot_22 (by decide) ?_
            exact a_ireti (pc := 23) dX9_foot_23 rfl rfl (Nat.le_of_ble_eq_true rfl) ⟨rfl, h⟩
          · replace h := h.2 hc5
            refine a_iconst (pc := 19) dX9_areTwo_19 (by decide) ?_
            refine a_goto (tgt := 24) (pc := 20) dX9_areTwo_20 (by decide) ?_
            refine a_iretz (pc := 24) dX9_areTwo_24 rfl rfl (Nat.le_of_ble_eq_true rfl) (by decide) ⟨rfl, ?_⟩
            refine a_if_eq (tgt := 22) (pc := 10) dX9_foot_10 (by decide) (fun hc => absurd hc (by decide)) (fun _ => ?_)
            refine a_aload_n (pc := 13) dX9_foot_13 (by decide) rfl ?_
            refine a_iload_n (pc := 14) dX9_foot_14 rfl ?_
            refine a_iload_n (pc := 15) dX9_foot_15 rfl ?_
            refine p_inlV (Ex := _) (As := [(0, l1), (0, l2)]) (st := []) (st1 := fun r => [(0, r)])  (pc := 16) dX9_foot_16 ml_RX9_266 (by decide) s0_275 rfl (by decide) (Nat.le_of_ble_eq_true rfl) rfl (fun _ => rfl) (by decide) (by decide) (Nat.le_of_ble_eq_true rfl) rfl ?_
            refine a_aload_n (pc := 0) dX9_footTold_0 (by decide) rfl ?_
            refine a_getR (y := 282) (pc := 1) dX9_footTold_1 fl_RX9_28 (by decide) s0_275 rfl rfl ?_
            refine a_bipush (pc := 4) dX9_footTold_4 (by decide) (by decide +kernel) ?_
            refine a_iload_n (pc := 6) dX9_footTold_6 rfl ?_
            have ho6 := h.1
            replace h := h.2
            refine a_imul (pc := 7) dX9_footTold_7 ho6 ?_
            refine a_iload_n (pc := 8) dX9_footTold_8 rfl ?_
            have ho7 := h.1
            replace h := h.2
            refine a_iadd (pc := 9) dX9_footTold_9 ho7 ?_
            have ho8 := h.1
            replace h := h.2
            refine a_iald (pc := 10) dX9_footTold_10 (by decide) s0_282 ho8.1 ho8.2 ?_
            refine a_eq (y := M 282 ((12 * l1) + l2)) rfl ?_
            refine a_if_ne (tgt := 19) (pc := 11) dX9_footTold_11 (by decide) (fun hc9 => ?_) (fun hc9 => ?_)
            · replace h := h.1 hc9
              refine a_aload_n (pc := 19) dX9_footTold_19 (by decide) rfl ?_
              refine a_getR (y := 282) (pc := 20) dX9_footTold_20 fl_RX9_28 (by decide) s0_275 rfl rfl ?_
              refine a_bipush (pc := 23) dX9_footTold_23 (by decide) (by decide +kernel) ?_
              refine a_iload_n (pc := 25) dX9_footTold_25 rfl ?_
              refine a_imul (pc := 26) dX9_footTold_26 ho6 ?_
              refine a_iload_n (pc := 27) dX9_footTold_27 rfl ?_
              refine a_iadd (pc := 28) dX9_footTold_28 ho7 ?_
              refine a_iald (pc := 29) dX9_footTold_29 (by decide) s0_282 ho8.1 ho8.2 ?_
              refine a_eq (y := M 282 ((12 * l1) + l2)) rfl ?_
              refine a_ireti (pc := 30) dX9_footTold_30 rfl rfl (Nat.le_of_ble_eq_true rfl) ⟨rfl, ?_⟩
              refine a_goto (tgt := 23) (pc := 19) dX9_foot_19 (by decide) ?_
              exact a_ireti (pc := 23) dX9_foot_23 rfl rfl (Nat.le_of_ble_eq_true rfl) ⟨rfl, h⟩
            · replace h := h.2 hc9
              refine a_bipush (pc := 14) dX9_footTold_14 (by decide) (by decide +kernel) ?_
              refine a_goto (tgt := 30) (pc := 16) dX9_footTold_16 (by decide) ?_
              refine a_ireti (pc := 30) dX9_footTold_30 rfl rfl (Nat.le_of_ble_eq_true rfl) ⟨rfl, ?_⟩
              refine a_goto (tgt := 23) (pc := 19) dX9_foot_19 (by decide) ?_
              exact a_ireti (pc := 23) dX9_foot_23 rfl rfl (Nat.le_of_ble_eq_true rfl) ⟨rfl, h⟩
theorem E_R_foot {l1 l2 : Int} {M : Mem} {Q : Int → Mem → Prop} (h : AW mX9_foot 0 [(2, 275), (0, l1), (0, l2)] M Q) : Calls mX9_foot [(2, 275), (0, l1), (0, l2)] S0 M Q := calls_of (by decide) (by decide) (Nat.le_of_ble_eq_true rfl) rfl h
set_option maxRecDepth 100000 in
set_option maxHeartbeats 4000000 in
theorem B_R_line_0 {l1 l2 : Int} {M : Mem} {Q : Int → Mem → Prop} (h : (-2147483648 ≤ (M 275 0) - 1 ∧ (M 275 0) - 1 ≤ 2147483647) ∧ ((l1 < 0 → Q (-1) (up2 M 275 8 0)) ∧ (¬ (l1 < 0) → ((((M 275 0) - 1) < l1 → Q (-1) (up2 M 275 8 0)) ∧ (¬ (((M 275 0) - 1) < l1) → ((l2 < 0 → Q (-1) (up2 M 275 8 0)) ∧ (¬ (l2 < 0) → ((3 < l2 → Q (-1) (up2 M 275 8 0)) ∧ (¬ (3 < l2) → ((¬ l2 = 0 → ((¬ l2 = 1 → ((¬ l2 = 2 → Calls mX9_runsOf [(2, 275), (0, l1)] S0 (up2 M 275 8 0) (fun r9 M10 => Q r9 M10)) ∧ (l2 = 2 → ((0 : Int) ≤ l1 ∧ l1 < 8) ∧ Q (M 279 l1) (up2 M 275 8 0)))) ∧ (l2 = 1 → ((0 : Int) ≤ l1 ∧ l1 < 8) ∧ Q (M 277 l1) (up2 M 275 8 0)))) ∧ (l2 = 0 → ((0 : Int) ≤ l1 ∧ l1 < 8) ∧ Q (M 276 l1) (up2 M 275 8 0)))))))))))) : AW mX9_line 0 [(2, 275), (0, l1), (0, l2)] M Q := by
  refine a_aload_n (pc := 0) dX9_line_0 (by decide) rfl ?_
  refine a_iconst (pc := 1) dX9_line_1 (by decide) ?_
  refine a_putI (y := 8) (pc := 2) dX9_line_2 fl_RX9_87 (by decide) s0_275 rfl rfl (tyX9_ok 8 (by decide)) rfl ?_
  refine a_aload_n (pc := 5) dX9_line_5 (by decide) rfl ?_
  refine a_iload_n (pc := 6) dX9_line_6 rfl ?_
  refine p_inlV (Ex := _) (As := [(0, l1)]) (st := []) (st1 := fun r => [(0, r)])  (pc := 7) dX9_line_7 ml_RX9_101 (by decide) s0_275 rfl (by decide) (Nat.le_of_ble_eq_true rfl) rfl (fun _ => rfl) (by decide) (by decide) (Nat.le_of_ble_eq_true rfl) rfl ?_
  refine a_iload_n (pc := 0) dX9_isLine_0 rfl ?_
  refine a_i2l (pc := 1) dX9_isLine_1 ?_
  refine a_lconst (v := 0) (pc := 2) dX9_isLine_2 rfl ?_
  refine a_aload_n (pc := 3) dX9_isLine_3 (by decide) rfl ?_
  refine a_getI (y := 0) (pc := 4) dX9_isLine_4 fl_RX9_98 (by decide) s0_275 (Or.inl rfl) rfl ?_
  refine a_eq (y := M 275 0) rfl ?_
  refine a_iconst (pc := 7) dX9_isLine_7 (by decide) ?_
  have ho1 := h.1
  replace h := h.2
  refine a_isub (pc := 8) dX9_isLine_8 ho1 ?_
  refine a_i2l (pc := 9) dX9_isLine_9 ?_
  refine p_inlS (Ex := _) (As := [(1, l1), (1, 0), (1, (M 275 0) - 1)]) (st := []) (st1 := fun r => [(0, r)])  (pc := 10) dX9_isLine_10 ml_RX9_92 (by decide) (Nat.le_of_ble_eq_true rfl) rfl (fun _ => rfl) (by decide) (by decide) (Nat.le_of_ble_eq_true rfl) rfl ?_
  refine a_lload_n (pc := 0) dX9_in_0 rfl ?_
  refine a_lload_n (pc := 1) dX9_in_1 rfl ?_
  refine a_lcmp_lt (tgt := 17) (pc := 2) dX9_in_2 dX9_in_3 (by decide) (fun hc2 => ?_) (fun hc2 => ?_)
  · replace h := h.1 hc2
    refine a_iconst (pc := 17) dX9_in_17 (by decide) ?_
    refine a_iretz (pc := 18) dX9_in_18 rfl rfl (Nat.le_of_ble_eq_true rfl) (by decide) ⟨rfl, ?_⟩
    refine a_iretz (pc := 13) dX9_isLine_13 rfl rfl (Nat.le_of_ble_eq_true rfl) (by decide) ⟨rfl, ?_⟩
    refine a_if_eq (tgt := 25) (pc := 10) dX9_line_10 (by decide) (fun _ => ?_) (fun hc => absurd (by decide) hc)
    refine a_iconst (pc := 25) dX9_line_25 (by decide) ?_
    exact a_ireti (pc := 26) dX9_line_26 rfl rfl (Nat.le_of_ble_eq_true rfl) ⟨rfl, h⟩
  · replace h := h.2 hc2
    refine a_lload_n (pc := 6) dX9_in_6 rfl ?_
    refine a_lload (pc := 7) dX9_in_7 rfl ?_
    refine a_lcmp_gt (tgt := 17) (pc := 9) dX9_in_9 dX9_in_10 (by decide) (fun hc3 => ?_) (fun hc3 => ?_)
    · replace h := h.1 hc3
      refine a_iconst (pc := 17) dX9_in_17 (by decide) ?_
      refine a_iretz (pc := 18) dX9_in_18 rfl rfl (Nat.le_of_ble_eq_true rfl) (by decide) ⟨rfl, ?_⟩
      refine a_iretz (pc := 13) dX9_isLine_13 rfl rfl (Nat.le_of_ble_eq_true rfl) (by decide) ⟨rfl, ?_⟩
      refine a_if_eq (tgt := 25) (pc := 10) dX9_line_10 (by decide) (fun _ => ?_) (fun hc => absurd (by decide) hc)
      refine a_iconst (pc := 25) dX9_line_25 (by decide) ?_
      exact a_ireti (pc := 26) dX9_line_26 rfl rfl (Nat.le_of_ble_eq_true rfl) ⟨rfl, h⟩
    · replace h := h.2 hc3
      refine a_iconst (pc := 13) dX9_in_13 (by decide) ?_
      refine a_goto (tgt := 18) (pc := 14) dX9_in_14 (by decide) ?_
      refine a_iretz (pc := 18) dX9_in_18 rfl rfl (Nat.le_of_ble_eq_true rfl) (by decide) ⟨rfl, ?_⟩
      refine a_iretz (pc := 13) dX9_isLine_13 rfl rfl (Nat.le_of_ble_eq_true rfl) (by decide) ⟨rfl, ?_⟩
      refine a_if_eq (tgt := 25) (pc := 10) dX9_line_10 (by decide) (fun hc => absurd hc (by decide)) (fun _ => ?_)
      refine a_iload_n (pc := 13) dX9_line_13 rfl ?_
      refine a_i2l (pc := 14) dX9_line_14 ?_
      refine a_lconst (v := 0) (pc := 15) dX9_line_15 rfl ?_
      refine a_ldc2 (v := 3) (pc := 16) dX9_line_16 kc_RX9_252 (by decide) ?_
      refine p_inlS (Ex := _) (As := [(1, l2), (1, 0), (1, 3)]) (st := []) (st1 := fun r => [(0, r)])  (pc := 19) dX9_line_19 ml_RX9_92 (by decide) (Nat.le_of_ble_eq_true rfl) rfl (fun _ => rfl) (by decide) (by decide) (Nat.le_of_ble_eq_true rfl) rfl ?_
      refine a_lload_n (pc := 0) dX9_in_0 rfl ?_
      refine a_lload_n (pc := 1) dX9_in_1 rfl ?_
      refine a_lcmp_lt (tgt := 17) (pc := 2) dX9_in_2 dX9_in_3 (by decide) (fun hc4 => ?_) (fun hc4 => ?_)
      · replace h := h.1 hc4
        refine a_iconst (pc := 17) dX9_in_17 (by decide) ?_
        refine a_iretz (pc := 18) dX9_in_18 rfl rfl (Nat.le_of_ble_eq_true rfl) (by decide) ⟨rfl, ?_⟩
        refine a_if_ne (tgt := 27) (pc := 22) dX9_line_22 (by decide) (fun hc => absurd rfl hc) (fun _ => ?_)
        refine a_iconst (pc := 25) dX9_line_25 (by decide) ?_
        exact a_ireti (pc := 26) dX9_line_26 rfl rfl (Nat.le_of_ble_eq_true rfl) ⟨rfl, h⟩
      · replace h := h.2 hc4
        refine a_lload_n (pc := 6) dX9_in_6 rfl ?_
        refine a_lload (pc := 7) dX9_in_7 rfl ?_
        refine a_lcmp_gt (tgt := 17) (pc := 9) dX9_in_9 dX9_in_10 (by decide) (fun hc5 => ?_) (fun hc5 => ?_)
        · replace h := h.1 hc5
          refine a_iconst (pc := 17) dX9_in_17 (by decide) ?_
          refine a_iretz (pc := 18) dX9_in_18 rfl rfl (Nat.le_of_ble_eq_true rfl) (by decide) ⟨rfl, ?_⟩
          refine a_if_ne (tgt := 27) (pc := 22) dX9_line_22 (by decide) (fun hc => absurd rfl hc) (fun _ => ?_)
          refine a_iconst (pc := 25) dX9_line_25 (by decide) ?_
          exact a_ireti (pc := 26) dX9_line_26 rfl rfl (Nat.le_of_ble_eq_true rfl) ⟨rfl, h⟩
        · replace h := h.2 hc5
          refine a_iconst (pc := 13) dX9_in_13 (by decide) ?_
          refine a_goto (tgt := 18) (pc := 14) dX9_in_14 (by decide) ?_
          refine a_iretz (pc := 18) dX9_in_18 rfl rfl (Nat.le_of_ble_eq_true rfl) (by decide) ⟨rfl, ?_⟩
          refine a_if_ne (tgt := 27) (pc := 22) dX9_line_22 (by decide) (fun _ => ?_) (fun hc => absurd hc (by decide))
          refine a_iload_n (pc := 27) dX9_line_27 rfl ?_
          refine a_if_ne (tgt := 40) (pc := 28) dX9_line_28 (by decide) (fun hc6 => ?_) (fun hc6 => ?_)
          · replace h := h.1 hc6
            refine a_iload_n (pc := 40) dX9_line_40 rfl ?_
            refine a_iconst (pc := 41) dX9_line_41 (by decide) ?_
            refine a_icmp_ne (tgt := 54) (pc := 42) dX9_line_42 (by decide) (fun hc7 => ?_) (fun hc7 => ?_)
            · replace h := h.1 hc7
              refine a_iload_n (pc := 54) dX9_line_54 rfl ?_
              refine a_iconst (pc := 55) dX9_line_55 (by decide) ?_
              refine a_icmp_ne (tgt := 68) (pc := 56) dX9_line_56 (by decide) (fun hc8 => ?_) (fun hc8 => ?_)
              · replace h := h.1 hc8
                refine a_aload_n (pc := 68) dX9_line_68 (by decide) rfl ?_
                refine a_iload_n (pc := 69) dX9_line_69 rfl ?_
                refine p_callV (As := [(0, l1)]) (st := []) (st1 := fun r => [(0, r)])  (pc := 70) dX9_line_70 ml_RX9_254 (by decide) s0_275 rfl (by decide) (Nat.le_of_ble_eq_true rfl) rfl (fun _ => rfl) h (fun r9 M10 h => ?_)
                exact a_ireti (pc := 73) dX9_line_73 rfl rfl (Nat.le_of_ble_eq_true rfl) ⟨rfl, h⟩
              · replace h := h.2 hc8
                refine a_aload_n (pc := 59) dX9_line_59 (by decide) rfl ?_
                refine a_getR (y := 279) (pc := 60) dX9_line_60 fl_RX9_19 (by decide) s0_275 rfl rfl ?_
                refine a_iload_n (pc := 63) dX9_line_63 rfl ?_
                have ho11 := h.1
                replace h := h.2
                refine a_iald (pc := 64) dX9_line_64 (by decide) s0_279 ho11.1 ho11.2 ?_
                refine a_eq (y := M 279 l1) rfl ?_
                refine a_goto (tgt := 73) (pc := 65) dX9_line_65 (by decide) ?_
                exact a_ireti (pc := 73) dX9_line_73 rfl rfl (Nat.le_of_ble_eq_true rfl) ⟨rfl, h⟩
            · replace h := h.2 hc7
              refine a_aload_n (pc := 45) dX9_line_45 (by decide) rfl ?_
              refine a_getR (y := 277) (pc := 46) dX9_line_46 fl_RX9_13 (by decide) s0_275 rfl rfl ?_
              refine a_iload_n (pc := 49) dX9_line_49 rfl ?_
              have ho12 := h.1
              replace h := h.2
              refine a_iald (pc := 50) dX9_line_50 (by decide) s0_277 ho12.1 ho12.2 ?_
              refine a_eq (y := M 277 l1) rfl ?_
              refine a_goto (tgt := 73) (pc := 51) dX9_line_51 (by decide) ?_
              exact a_ireti (pc := 73) dX9_line_73 rfl rfl (Nat.le_of_ble_eq_true rfl) ⟨rfl, h⟩
          · replace h := h.2 hc6
            refine a_aload_n (pc := 31) dX9_line_31 (by decide) rfl ?_
            refine a_getR (y := 276) (pc := 32) dX9_line_32 fl_RX9_7 (by decide) s0_275 rfl rfl ?_
            refine a_iload_n (pc := 35) dX9_line_35 rfl ?_
            have ho13 := h.1
            replace h := h.2
            refine a_iald (pc := 36) dX9_line_36 (by decide) s0_276 ho13.1 ho13.2 ?_
            refine a_eq (y := M 276 l1) rfl ?_
            refine a_goto (tgt := 73) (pc := 37) dX9_line_37 (by decide) ?_
            exact a_ireti (pc := 73) dX9_line_73 rfl rfl (Nat.le_of_ble_eq_true rfl) ⟨rfl, h⟩
theorem E_R_line {l1 l2 : Int} {M : Mem} {Q : Int → Mem → Prop} (h : AW mX9_line 0 [(2, 275), (0, l1), (0, l2)] M Q) : Calls mX9_line [(2, 275), (0, l1), (0, l2)] S0 M Q := calls_of (by decide) (by decide) (Nat.le_of_ble_eq_true rfl) rfl h
set_option maxRecDepth 100000 in
set_option maxHeartbeats 4000000 in
theorem B_R_tripsOf_0 {l1 : Int} {M : Mem} {Q : Int → Mem → Prop} (h : AW mX9_tripsOf 4 [(2, 275), (0, l1), (0, 0), (0, 0)] M Q) : AW mX9_tripsOf 0 [(2, 275), (0, l1), (9, 0), (9, 0)] M Q := by
  refine a_iconst (pc := 0) dX9_tripsOf_0 (by decide) ?_
  refine a_istore_n (ls1 := [(2, 275), (0, l1), (0, 0), (9, 0)]) (pc := 1) dX9_tripsOf_1 (by decide) (hp1 (t := 0) rfl (by decide)) rfl ?_
  refine a_iconst (pc := 2) dX9_tripsOf_2 (by decide) ?_
  refine a_istore_n (ls1 := [(2, 275), (0, l1), (0, 0), (0, 0)]) (pc := 3) dX9_tripsOf_3 (by decide) (hp1 (t := 0) rfl (by decide)) rfl ?_
  exact h
set_option maxRecDepth 100000 in
set_option maxHeartbeats 4000000 in
theorem B_R_tripsOf_4 {l1 l2 l3 : Int} {M : Mem} {Q : Int → Mem → Prop} (h : (((M 275 0) ≤ l3 → Q l2 M) ∧ (¬ ((M 275 0) ≤ l3) → ((l1 = 0 → ((0 : Int) ≤ l3 ∧ l3 < 8) ∧ (-2147483648 ≤ l2 + (M 279 l3) ∧ l2 + (M 279 l3) ≤ 2147483647) ∧ (-2147483648 ≤ l3 + 1 ∧ l3 + 1 ≤ 2147483647) ∧ AW mX9_tripsOf 4 [(2, 275), (0, l1), (0, l2 + (M 279 l3)), (0, l3 + 1)] M Q) ∧ (¬ l1 = 0 → Calls mX9_runsOf [(2, 275), (0, l3)] S0 M (fun r6 M7 => (-2147483648 ≤ l2 + r6 ∧ l2 + r6 ≤ 2147483647) ∧ (-2147483648 ≤ l3 + 1 ∧ l3 + 1 ≤ 2147483647) ∧ AW mX9_tripsOf 4 [(2, 275), (0, l1), (0, l2 + r6), (0, l3 + 1)] M7 Q)))))) : AW mX9_tripsOf 4 [(2, 275), (0, l1), (0, l2), (0, l3)] M Q := by
  refine a_iload_n (pc := 4) dX9_tripsOf_4 rfl ?_
  refine a_aload_n (pc := 5) dX9_tripsOf_5 (by decide) rfl ?_
  refine a_getI (y := 0) (pc := 6) dX9_tripsOf_6 fl_RX9_98 (by decide) s0_275 (Or.inl rfl) rfl ?_
  refine a_icmp_ge (tgt := 39) (pc := 9) dX9_tripsOf_9 (by decide) (fun hc1 => ?_) (fun hc1 => ?_)
  · replace h := h.1 hc1
    refine a_iload_n (pc := 39) dX9_tripsOf_39 rfl ?_
    exact a_ireti (pc := 40) dX9_tripsOf_40 rfl rfl (Nat.le_of_ble_eq_true rfl) ⟨rfl, h⟩
  · replace h := h.2 hc1
    refine a_iload_n (pc := 12) dX9_tripsOf_12 rfl ?_
    refine a_iload_n (pc := 13) dX9_tripsOf_13 rfl ?_
    refine a_if_eq (tgt := 25) (pc := 14) dX9_tripsOf_14 (by decide) (fun hc2 => ?_) (fun hc2 => ?_)
    · replace h := h.1 hc2
      refine a_aload_n (pc := 25) dX9_tripsOf_25 (by decide) rfl ?_
      refine a_getR (y := 279) (pc := 26) dX9_tripsOf_26 fl_RX9_19 (by decide) s0_275 rfl rfl ?_
      refine a_iload_n (pc := 29) dX9_tripsOf_29 rfl ?_
      have ho3 := h.1
      replace h := h.2
      refine a_iald (pc := 30) dX9_tripsOf_30 (by decide) s0_279 ho3.1 ho3.2 ?_
      have ho4 := h.1
      replace h := h.2
      refine a_iadd (pc := 31) dX9_tripsOf_31 ho4 ?_
      refine a_istore_n (ls1 := [(2, 275), (0, l1), (0, l2 + (M 279 l3)), (0, l3)]) (pc := 32) dX9_tripsOf_32 (by decide) (hp1 (t := 0) rfl (by decide)) rfl ?_
      have ho5 := h.1
      replace h := h.2
      refine a_iinc (ls1 := [(2, 275), (0, l1), (0, l2 + (M 279 l3)), (0, l3 + 1)]) (pc := 33) dX9_tripsOf_33 rfl (by decide) (hp1 (t := 0) rfl (by decide)) ho5 rfl ?_
      refine a_goto (tgt := 4) (pc := 36) dX9_tripsOf_36 (by decide) ?_
      exact h
    · replace h := h.2 hc2
      refine a_aload_n (pc := 17) dX9_tripsOf_17 (by decide) rfl ?_
      refine a_iload_n (pc := 18) dX9_tripsOf_18 rfl ?_
      refine p_callV (As := [(0, l3)]) (st := [(0, l2)]) (st1 := fun r => [(0, r), (0, l2)])  (pc := 19) dX9_tripsOf_19 ml_RX9_254 (by decide) s0_275 rfl (by decide) (Nat.le_of_ble_eq_true rfl) rfl (fun _ => rfl) h (fun r6 M7 h => ?_)
      refine a_goto (tgt := 31) (pc := 22) dX9_tripsOf_22 (by decide) ?_
      have ho8 := h.1
      replace h := h.2
      refine a_iadd (pc := 31) dX9_tripsOf_31 ho8 ?_
      refine a_istore_n (ls1 := [(2, 275), (0, l1), (0, l2 + r6), (0, l3)]) (pc := 32) dX9_tripsOf_32 (by decide) (hp1 (t := 0) rfl (by decide)) rfl ?_
      have ho9 := h.1
      replace h := h.2
      refine a_iinc (ls1 := [(2, 275), (0, l1), (0, l2 + r6), (0, l3 + 1)]) (pc := 33) dX9_tripsOf_33 rfl (by decide) (hp1 (t := 0) rfl (by decide)) ho9 rfl ?_
      refine a_goto (tgt := 4) (pc := 36) dX9_tripsOf_36 (by decide) ?_
      exact h
theorem E_R_tripsOf {l1 : Int} {M : Mem} {Q : Int → Mem → Prop} (h : AW mX9_tripsOf 0 [(2, 275), (0, l1), (9, 0), (9, 0)] M Q) : Calls mX9_tripsOf [(2, 275), (0, l1)] S0 M Q := calls_of (by decide) (by decide) (Nat.le_of_ble_eq_true rfl) rfl h
set_option maxRecDepth 100000 in
set_option maxHeartbeats 4000000 in
theorem B_R_walk_0 {l1 l2 l3 : Int} {M : Mem} {Q : Int → Mem → Prop} (h : ((l1 < 0 → Q (-1) (up2 M 275 8 0)) ∧ (¬ (l1 < 0) → ((11 < l1 → Q (-1) (up2 M 275 8 0)) ∧ (¬ (11 < l1) → ((l2 < 0 → Q (-1) (up2 M 275 8 0)) ∧ (¬ (l2 < 0) → ((11 < l2 → Q (-1) (up2 M 275 8 0)) ∧ (¬ (11 < l2) → ((l1 = l2 → Q (-1) (up2 M 275 8 0)) ∧ (¬ l1 = l2 → ((l3 < 0 → Q (-2) (up2 M 275 8 0)) ∧ (¬ (l3 < 0) → ((60 < l3 → Q (-2) (up2 M 275 8 0)) ∧ (¬ (60 < l3) → (-2147483648 ≤ 12 * l1 ∧ 12 * l1 ≤ 2147483647) ∧ (-2147483648 ≤ (12 * l1) + l2 ∧ (12 * l1) + l2 ≤ 2147483647) ∧ ((0 : Int) ≤ (12 * l1) + l2 ∧ (12 * l1) + l2 < 144) ∧ ((¬ (M 282 ((12 * l1) + l2)) = 0 → (-2147483648 ≤ 12 * l2 ∧ 12 * l2 ≤ 2147483647) ∧ (-2147483648 ≤ (12 * l2) + l1 ∧ (12 * l2) + l1 ≤ 2147483647) ∧ ((0 : Int) ≤ (12 * l2) + l1 ∧ (12 * l2) + l1 < 144) ∧ Q (M 282 ((12 * l1) + l2)) (up2 (up2 (up2 M 275 8 0) 282 ((12 * l1) + l2) l3) 282 ((12 * l2) + l1) l3)) ∧ ((M 282 ((12 * l1) + l2)) = 0 → (-2147483648 ≤ 12 * l2 ∧ 12 * l2 ≤ 2147483647) ∧ (-2147483648 ≤ (12 * l2) + l1 ∧ (12 * l2) + l1 ≤ 2147483647) ∧ ((0 : Int) ≤ (12 * l2) + l1 ∧ (12 * l2) + l1 < 144) ∧ Q (-5) (up2 (up2 (up2 M 275 8 0) 282 ((12 * l1) + l2) l3) 282 ((12 * l2) + l1) l3)))))))))))))))))) : AW mX9_walk 0 [(2, 275), (0, l1), (0, l2), (0, l3), (9, 0)] M Q := by
  refine a_aload_n (pc := 0) dX9_walk_0 (by decide) rfl ?_
  refine a_iconst (pc := 1) dX9_walk_1 (by decide) ?_
  refine a_putI (y := 8) (pc := 2) dX9_walk_2 fl_RX9_87 (by decide) s0_275 rfl rfl (tyX9_ok 8 (by decide)) rfl ?_
  refine a_iload_n (pc := 5) dX9_walk_5 rfl ?_
  refine a_iload_n (pc := 6) dX9_walk_6 rfl ?_
  refine p_inlS (Ex := _) (As := [(0, l1), (0, l2)]) (st := []) (st1 := fun r => [(0, r)])  (pc := 7) dX9_walk_7 ml_RX9_263 (by decide) (Nat.le_of_ble_eq_true rfl) rfl (fun _ => rfl) (by decide) (by decide) (Nat.le_of_ble_eq_true rfl) rfl ?_
  refine a_iload_n (pc := 0) dX9_areTwo_0 rfl ?_
  refine p_inlS (Ex := _) (As := [(0, l1)]) (st := []) (st1 := fun r => [(0, r)])  (pc := 1) dX9_areTwo_1 ml_RX9_260 (by decide) (Nat.le_of_ble_eq_true rfl) rfl (fun _ => rfl) (by decide) (by decide) (Nat.le_of_ble_eq_true rfl) rfl ?_
  refine a_iload_n (pc := 0) dX9_isStop_0 rfl ?_
  refine a_i2l (pc := 1) dX9_isStop_1 ?_
  refine a_lconst (v := 0) (pc := 2) dX9_isStop_2 rfl ?_
  refine a_ldc2 (v := 11) (pc := 3) dX9_isStop_3 kc_RX9_90 (by decide) ?_
  refine p_inlS (Ex := _) (As := [(1, l1), (1, 0), (1, 11)]) (st := []) (st1 := fun r => [(0, r)])  (pc := 6) dX9_isStop_6 ml_RX9_92 (by decide) (Nat.le_of_ble_eq_true rfl) rfl (fun _ => rfl) (by decide) (by decide) (Nat.le_of_ble_eq_true rfl) rfl ?_
  refine a_lload_n (pc := 0) dX9_in_0 rfl ?_
  refine a_lload_n (pc := 1) dX9_in_1 rfl ?_
  refine a_lcmp_lt (tgt := 17) (pc := 2) dX9_in_2 dX9_in_3 (by decide) (fun hc1 => ?_) (fun hc1 => ?_)
  · replace h := h.1 hc1
    refine a_iconst (pc := 17) dX9_in_17 (by decide) ?_
    refine a_iretz (pc := 18) dX9_in_18 rfl rfl (Nat.le_of_ble_eq_true rfl) (by decide) ⟨rfl, ?_⟩
    refine a_iretz (pc := 9) dX9_isStop_9 rfl rfl (Nat.le_of_ble_eq_true rfl) (by decide) ⟨rfl, ?_⟩
    refine a_if_eq (tgt := 23) (pc := 4) dX9_areTwo_4 (by decide) (fun _ => ?_) (fun hc => absurd (by decide) hc)
    refine a_iconst (pc := 23) dX9_areTwo_23 (by decide) ?_
    refine a_iretz (pc := 24) dX9_areTwo_24 rfl rfl (Nat.le_of_ble_eq_true rfl) (by decide) ⟨rfl, ?_⟩
    refine a_if_eq (tgt := 25) (pc := 10) dX9_walk_10 (by decide) (fun _ => ?_) (fun hc => absurd (by decide) hc)
    refine a_iload_n (pc := 25) dX9_walk_25 rfl ?_
    refine a_iload_n (pc := 26) dX9_walk_26 rfl ?_
    refine p_inlS (Ex := _) (As := [(0, l1), (0, l2)]) (st := []) (st1 := fun r => [(0, r)])  (pc := 27) dX9_walk_27 ml_RX9_263 (by decide) (Nat.le_of_ble_eq_true rfl) rfl (fun _ => rfl) (by decide) (by decide) (Nat.le_of_ble_eq_true rfl) rfl ?_
    refine a_iload_n (pc := 0) dX9_areTwo_0 rfl ?_
    refine p_inlS (Ex := _) (As := [(0, l1)]) (st := []) (st1 := fun r => [(0, r)])  (pc := 1) dX9_areTwo_1 ml_RX9_260 (by decide) (Nat.le_of_ble_eq_true rfl) rfl (fun _ => rfl) (by decide) (by decide) (Nat.le_of_ble_eq_true rfl) rfl ?_
    refine a_iload_n (pc := 0) dX9_isStop_0 rfl ?_
    refine a_i2l (pc := 1) dX9_isStop_1 ?_
    refine a_lconst (v := 0) (pc := 2) dX9_isStop_2 rfl ?_
    refine a_ldc2 (v := 11) (pc := 3) dX9_isStop_3 kc_RX9_90 (by decide) ?_
    refine p_inlS (Ex := _) (As := [(1, l1), (1, 0), (1, 11)]) (st := []) (st1 := fun r => [(0, r)])  (pc := 6) dX9_isStop_6 ml_RX9_92 (by decide) (Nat.le_of_ble_eq_true rfl) rfl (fun _ => rfl) (by decide) (by decide) (Nat.le_of_ble_eq_true rfl) rfl ?_
    refine a_lload_n (pc := 0) dX9_in_0 rfl ?_
    refine a_lload_n (pc := 1) dX9_in_1 rfl ?_
    refine a_lcmp_lt (tgt := 17) (pc := 2) dX9_in_2 dX9_in_3 (by decide) (fun _ => ?_) (fun hc => absurd hc1 hc)
    refine a_iconst (pc := 17) dX9_in_17 (by decide) ?_
    refine a_iretz (pc := 18) dX9_in_18 rfl rfl (Nat.le_of_ble_eq_true rfl) (by decide) ⟨rfl, ?_⟩
    refine a_iretz (pc := 9) dX9_isStop_9 rfl rfl (Nat.le_of_ble_eq_true rfl) (by decide) ⟨rfl, ?_⟩
    refine a_if_eq (tgt := 23) (pc := 4) dX9_areTwo_4 (by decide) (fun _ => ?_) (fun hc => absurd (by decide) hc)
    refine a_iconst (pc := 23) dX9_areTwo_23 (by decide) ?_
    refine a_iretz (pc := 24) dX9_areTwo_24 rfl rfl (Nat.le_of_ble_eq_true rfl) (by decide) ⟨rfl, ?_⟩
    refine a_if_eq (tgt := 38) (pc := 30) dX9_walk_30 (by decide) (fun _ => ?_) (fun hc => absurd (by decide) hc)
    refine a_iconst (pc := 38) dX9_walk_38 (by decide) ?_
    exact a_ireti (pc := 39) dX9_walk_39 rfl rfl (Nat.le_of_ble_eq_true rfl) ⟨rfl, h⟩
  · replace h := h.2 hc1
    refine a_lload_n (pc := 6) dX9_in_6 rfl ?_
    refine a_lload (pc := 7) dX9_in_7 rfl ?_
    refine a_lcmp_gt (tgt := 17) (pc := 9) dX9_in_9 dX9_in_10 (by decide) (fun hc2 => ?_) (fun hc2 => ?_)
    · replace h := h.1 hc2
      refine a_iconst (pc := 17) dX9_in_17 (by decide) ?_
      refine a_iretz (pc := 18) dX9_in_18 rfl rfl (Nat.le_of_ble_eq_true rfl) (by decide) ⟨rfl, ?_⟩
      refine a_iretz (pc := 9) dX9_isStop_9 rfl rfl (Nat.le_of_ble_eq_true rfl) (by decide) ⟨rfl, ?_⟩
      refine a_if_eq (tgt := 23) (pc := 4) dX9_areTwo_4 (by decide) (fun _ => ?_) (fun hc => absurd (by decide) hc)
      refine a_iconst (pc := 23) dX9_areTwo_23 (by decide) ?_
      refine a_iretz (pc := 24) dX9_areTwo_24 rfl rfl (Nat.le_of_ble_eq_true rfl) (by decide) ⟨rfl, ?_⟩
      refine a_if_eq (tgt := 25) (pc := 10) dX9_walk_10 (by decide) (fun _ => ?_) (fun hc => absurd (by decide) hc)
      refine a_iload_n (pc := 25) dX9_walk_25 rfl ?_
      refine a_iload_n (pc := 26) dX9_walk_26 rfl ?_
      refine p_inlS (Ex := _) (As := [(0, l1), (0, l2)]) (st := []) (st1 := fun r => [(0, r)])  (pc := 27) dX9_walk_27 ml_RX9_263 (by decide) (Nat.le_of_ble_eq_true rfl) rfl (fun _ => rfl) (by decide) (by decide) (Nat.le_of_ble_eq_true rfl) rfl ?_
      refine a_iload_n (pc := 0) dX9_areTwo_0 rfl ?_
      refine p_inlS (Ex := _) (As := [(0, l1)]) (st := []) (st1 := fun r => [(0, r)])  (pc := 1) dX9_areTwo_1 ml_RX9_260 (by decide) (Nat.le_of_ble_eq_true rfl) rfl (fun _ => rfl) (by decide) (by decide) (Nat.le_of_ble_eq_true rfl) rfl ?_
      refine a_iload_n (pc := 0) dX9_isStop_0 rfl ?_
      refine a_i2l (pc := 1) dX9_isStop_1 ?_
      refine a_lconst (v := 0) (pc := 2) dX9_isStop_2 rfl ?_
      refine a_ldc2 (v := 11) (pc := 3) dX9_isStop_3 kc_RX9_90 (by decide) ?_
      refine p_inlS (Ex := _) (As := [(1, l1), (1, 0), (1, 11)]) (st := []) (st1 := fun r => [(0, r)])  (pc := 6) dX9_isStop_6 ml_RX9_92 (by decide) (Nat.le_of_ble_eq_true rfl) rfl (fun _ => rfl) (by decide) (by decide) (Nat.le_of_ble_eq_true rfl) rfl ?_
      refine a_lload_n (pc := 0) dX9_in_0 rfl ?_
      refine a_lload_n (pc := 1) dX9_in_1 rfl ?_
      refine a_lcmp_lt (tgt := 17) (pc := 2) dX9_in_2 dX9_in_3 (by decide) (fun hc => absurd hc hc1) (fun _ => ?_)
      refine a_lload_n (pc := 6) dX9_in_6 rfl ?_
      refine a_lload (pc := 7) dX9_in_7 rfl ?_
      refine a_lcmp_gt (tgt := 17) (pc := 9) dX9_in_9 dX9_in_10 (by decide) (fun _ => ?_) (fun hc => absurd hc2 hc)
      refine a_iconst (pc := 17) dX9_in_17 (by decide) ?_
      refine a_iretz (pc := 18) dX9_in_18 rfl rfl (Nat.le_of_ble_eq_true rfl) (by decide) ⟨rfl, ?_⟩
      refine a_iretz (pc := 9) dX9_isStop_9 rfl rfl (Nat.le_of_ble_eq_true rfl) (by decide) ⟨rfl, ?_⟩
      refine a_if_eq (tgt := 23) (pc := 4) dX9_areTwo_4 (by decide) (fun _ => ?_) (fun hc => absurd (by decide) hc)
      refine a_iconst (pc := 23) dX9_areTwo_23 (by decide) ?_
      refine a_iretz (pc := 24) dX9_areTwo_24 rfl rfl (Nat.le_of_ble_eq_true rfl) (by decide) ⟨rfl, ?_⟩
      refine a_if_eq (tgt := 38) (pc := 30) dX9_walk_30 (by decide) (fun _ => ?_) (fun hc => absurd (by decide) hc)
      refine a_iconst (pc := 38) dX9_walk_38 (by decide) ?_
      exact a_ireti (pc := 39) dX9_walk_39 rfl rfl (Nat.le_of_ble_eq_true rfl) ⟨rfl, h⟩
    · replace h := h.2 hc2
      refine a_iconst (pc := 13) dX9_in_13 (by decide) ?_
      refine a_goto (tgt := 18) (pc := 14) dX9_in_14 (by decide) ?_
      refine a_iretz (pc := 18) dX9_in_18 rfl rfl (Nat.le_of_ble_eq_true rfl) (by decide) ⟨rfl, ?_⟩
      refine a_iretz (pc := 9) dX9_isStop_9 rfl rfl (Nat.le_of_ble_eq_true rfl) (by decide) ⟨rfl, ?_⟩
      refine a_if_eq (tgt := 23) (pc := 4) dX9_areTwo_4 (by decide) (fun hc => absurd hc (by decide)) (fun _ => ?_)
      refine a_iload_n (pc := 7) dX9_areTwo_7 rfl ?_
      refine p_inlS (Ex := _) (As := [(0, l2)]) (st := []) (st1 := fun r => [(0, r)])  (pc := 8) dX9_areTwo_8 ml_RX9_260 (by decide) (Nat.le_of_ble_eq_true rfl) rfl (fun _ => rfl) (by decide) (by decide) (Nat.le_of_ble_eq_true rfl) rfl ?_
      refine a_iload_n (pc := 0) dX9_isStop_0 rfl ?_
      refine a_i2l (pc := 1) dX9_isStop_1 ?_
      refine a_lconst (v := 0) (pc := 2) dX9_isStop_2 rfl ?_
      refine a_ldc2 (v := 11) (pc := 3) dX9_isStop_3 kc_RX9_90 (by decide) ?_
      refine p_inlS (Ex := _) (As := [(1, l2), (1, 0), (1, 11)]) (st := []) (st1 := fun r => [(0, r)])  (pc := 6) dX9_isStop_6 ml_RX9_92 (by decide) (Nat.le_of_ble_eq_true rfl) rfl (fun _ => rfl) (by decide) (by decide) (Nat.le_of_ble_eq_true rfl) rfl ?_
      refine a_lload_n (pc := 0) dX9_in_0 rfl ?_
      refine a_lload_n (pc := 1) dX9_in_1 rfl ?_
      refine a_lcmp_lt (tgt := 17) (pc := 2) dX9_in_2 dX9_in_3 (by decide) (fun hc3 => ?_) (fun hc3 => ?_)
      · replace h := h.1 hc3
        refine a_iconst (pc := 17) dX9_in_17 (by decide) ?_
        refine a_iretz (pc := 18) dX9_in_18 rfl rfl (Nat.le_of_ble_eq_true rfl) (by decide) ⟨rfl, ?_⟩
        refine a_iretz (pc := 9) dX9_isStop_9 rfl rfl (Nat.le_of_ble_eq_true rfl) (by decide) ⟨rfl, ?_⟩
        refine a_if_eq (tgt := 23) (pc := 11) dX9_areTwo_11 (by decide) (fun _ => ?_) (fun hc => absurd (by decide) hc)
        refine a_iconst (pc := 23) dX9_areTwo_23 (by decide) ?_
        refine a_iretz (pc := 24) dX9_areTwo_24 rfl rfl (Nat.le_of_ble_eq_true rfl) (by decide) ⟨rfl, ?_⟩
        refine a_if_eq (tgt := 25) (pc := 10) dX9_walk_10 (by decide) (fun _ => ?_) (fun hc => absurd (by decide) hc)
        refine a_iload_n (pc := 25) dX9_walk_25 rfl ?_
        refine a_iload_n (pc := 26) dX9_walk_26 rfl ?_
        refine p_inlS (Ex := _) (As := [(0, l1), (0, l2)]) (st := []) (st1 := fun r => [(0, r)])  (pc := 27) dX9_walk_27 ml_RX9_263 (by decide) (Nat.le_of_ble_eq_true rfl) rfl (fun _ => rfl) (by decide) (by decide) (Nat.le_of_ble_eq_true rfl) rfl ?_
        refine a_iload_n (pc := 0) dX9_areTwo_0 rfl ?_
        refine p_inlS (Ex := _) (As := [(0, l1)]) (st := []) (st1 := fun r => [(0, r)])  (pc := 1) dX9_areTwo_1 ml_RX9_260 (by decide) (Nat.le_of_ble_eq_true rfl) rfl (fun _ => rfl) (by decide) (by decide) (Nat.le_of_ble_eq_true rfl) rfl ?_
        refine a_iload_n (pc := 0) dX9_isStop_0 rfl ?_
        refine a_i2l (pc := 1) dX9_isStop_1 ?_
        refine a_lconst (v := 0) (pc := 2) dX9_isStop_2 rfl ?_
        refine a_ldc2 (v := 11) (pc := 3) dX9_isStop_3 kc_RX9_90 (by decide) ?_
        refine p_inlS (Ex := _) (As := [(1, l1), (1, 0), (1, 11)]) (st := []) (st1 := fun r => [(0, r)])  (pc := 6) dX9_isStop_6 ml_RX9_92 (by decide) (Nat.le_of_ble_eq_true rfl) rfl (fun _ => rfl) (by decide) (by decide) (Nat.le_of_ble_eq_true rfl) rfl ?_
        refine a_lload_n (pc := 0) dX9_in_0 rfl ?_
        refine a_lload_n (pc := 1) dX9_in_1 rfl ?_
        refine a_lcmp_lt (tgt := 17) (pc := 2) dX9_in_2 dX9_in_3 (by decide) (fun hc => absurd hc hc1) (fun _ => ?_)
        refine a_lload_n (pc := 6) dX9_in_6 rfl ?_
        refine a_lload (pc := 7) dX9_in_7 rfl ?_
        refine a_lcmp_gt (tgt := 17) (pc := 9) dX9_in_9 dX9_in_10 (by decide) (fun hc => absurd hc hc2) (fun _ => ?_)
        refine a_iconst (pc := 13) dX9_in_13 (by decide) ?_
        refine a_goto (tgt := 18) (pc := 14) dX9_in_14 (by decide) ?_
        refine a_iretz (pc := 18) dX9_in_18 rfl rfl (Nat.le_of_ble_eq_true rfl) (by decide) ⟨rfl, ?_⟩
        refine a_iretz (pc := 9) dX9_isStop_9 rfl rfl (Nat.le_of_ble_eq_true rfl) (by decide) ⟨rfl, ?_⟩
        refine a_if_eq (tgt := 23) (pc := 4) dX9_areTwo_4 (by decide) (fun hc => absurd hc (by decide)) (fun _ => ?_)
        refine a_iload_n (pc := 7) dX9_areTwo_7 rfl ?_
        refine p_inlS (Ex := _) (As := [(0, l2)]) (st := []) (st1 := fun r => [(0, r)])  (pc := 8) dX9_areTwo_8 ml_RX9_260 (by decide) (Nat.le_of_ble_eq_true rfl) rfl (fun _ => rfl) (by decide) (by decide) (Nat.le_of_ble_eq_true rfl) rfl ?_
        refine a_iload_n (pc := 0) dX9_isStop_0 rfl ?_
        refine a_i2l (pc := 1) dX9_isStop_1 ?_
        refine a_lconst (v := 0) (pc := 2) dX9_isStop_2 rfl ?_
        refine a_ldc2 (v := 11) (pc := 3) dX9_isStop_3 kc_RX9_90 (by decide) ?_
        refine p_inlS (Ex := _) (As := [(1, l2), (1, 0), (1, 11)]) (st := []) (st1 := fun r => [(0, r)])  (pc := 6) dX9_isStop_6 ml_RX9_92 (by decide) (Nat.le_of_ble_eq_true rfl) rfl (fun _ => rfl) (by decide) (by decide) (Nat.le_of_ble_eq_true rfl) rfl ?_
        refine a_lload_n (pc := 0) dX9_in_0 rfl ?_
        refine a_lload_n (pc := 1) dX9_in_1 rfl ?_
        refine a_lcmp_lt (tgt := 17) (pc := 2) dX9_in_2 dX9_in_3 (by decide) (fun _ => ?_) (fun hc => absurd hc3 hc)
        refine a_iconst (pc := 17) dX9_in_17 (by decide) ?_
        refine a_iretz (pc := 18) dX9_in_18 rfl rfl (Nat.le_of_ble_eq_true rfl) (by decide) ⟨rfl, ?_⟩
        refine a_iretz (pc := 9) dX9_isStop_9 rfl rfl (Nat.le_of_ble_eq_true rfl) (by decide) ⟨rfl, ?_⟩
        refine a_if_eq (tgt := 23) (pc := 11) dX9_areTwo_11 (by decide) (fun _ => ?_) (fun hc => absurd (by decide) hc)
        refine a_iconst (pc := 23) dX9_areTwo_23 (by decide) ?_
        refine a_iretz (pc := 24) dX9_areTwo_24 rfl rfl (Nat.le_of_ble_eq_true rfl) (by decide) ⟨rfl, ?_⟩
        refine a_if_eq (tgt := 38) (pc := 30) dX9_walk_30 (by decide) (fun _ => ?_) (fun hc => absurd (by decide) hc)
        refine a_iconst (pc := 38) dX9_walk_38 (by decide) ?_
        exact a_ireti (pc := 39) dX9_walk_39 rfl rfl (Nat.le_of_ble_eq_true rfl) ⟨rfl, h⟩
      · replace h := h.2 hc3
        refine a_lload_n (pc := 6) dX9_in_6 rfl ?_
        refine a_lload (pc := 7) dX9_in_7 rfl ?_
        refine a_lcmp_gt (tgt := 17) (pc := 9) dX9_in_9 dX9_in_10 (by decide) (fun hc4 => ?_) (fun hc4 => ?_)
        · replace h := h.1 hc4
          refine a_iconst (pc := 17) dX9_in_17 (by decide) ?_
          refine a_iretz (pc := 18) dX9_in_18 rfl rfl (Nat.le_of_ble_eq_true rfl) (by decide) ⟨rfl, ?_⟩
          refine a_iretz (pc := 9) dX9_isStop_9 rfl rfl (Nat.le_of_ble_eq_true rfl) (by decide) ⟨rfl, ?_⟩
          refine a_if_eq (tgt := 23) (pc := 11) dX9_areTwo_11 (by decide) (fun _ => ?_) (fun hc => absurd (by decide) hc)
          refine a_iconst (pc := 23) dX9_areTwo_23 (by decide) ?_
          refine a_iretz (pc := 24) dX9_areTwo_24 rfl rfl (Nat.le_of_ble_eq_true rfl) (by decide) ⟨rfl, ?_⟩
          refine a_if_eq (tgt := 25) (pc := 10) dX9_walk_10 (by decide) (fun _ => ?_) (fun hc => absurd (by decide) hc)
          refine a_iload_n (pc := 25) dX9_walk_25 rfl ?_
          refine a_iload_n (pc := 26) dX9_walk_26 rfl ?_
          refine p_inlS (Ex := _) (As := [(0, l1), (0, l2)]) (st := []) (st1 := fun r => [(0, r)])  (pc := 27) dX9_walk_27 ml_RX9_263 (by decide) (Nat.le_of_ble_eq_true rfl) rfl (fun _ => rfl) (by decide) (by decide) (Nat.le_of_ble_eq_true rfl) rfl ?_
          refine a_iload_n (pc := 0) dX9_areTwo_0 rfl ?_
          refine p_inlS (Ex := _) (As := [(0, l1)]) (st := []) (st1 := fun r => [(0, r)])  (pc := 1) dX9_areTwo_1 ml_RX9_260 (by decide) (Nat.le_of_ble_eq_true rfl) rfl (fun _ => rfl) (by decide) (by decide) (Nat.le_of_ble_eq_true rfl) rfl ?_
          refine a_iload_n (pc := 0) dX9_isStop_0 rfl ?_
          refine a_i2l (pc := 1) dX9_isStop_1 ?_
          refine a_lconst (v := 0) (pc := 2) dX9_isStop_2 rfl ?_
          refine a_ldc2 (v := 11) (pc := 3) dX9_isStop_3 kc_RX9_90 (by decide) ?_
          refine p_inlS (Ex := _) (As := [(1, l1), (1, 0), (1, 11)]) (st := []) (st1 := fun r => [(0, r)])  (pc := 6) dX9_isStop_6 ml_RX9_92 (by decide) (Nat.le_of_ble_eq_true rfl) rfl (fun _ => rfl) (by decide) (by decide) (Nat.le_of_ble_eq_true rfl) rfl ?_
          refine a_lload_n (pc := 0) dX9_in_0 rfl ?_
          refine a_lload_n (pc := 1) dX9_in_1 rfl ?_
          refine a_lcmp_lt (tgt := 17) (pc := 2) dX9_in_2 dX9_in_3 (by decide) (fun hc => absurd hc hc1) (fun _ => ?_)
          refine a_lload_n (pc := 6) dX9_in_6 rfl ?_
          refine a_lload (pc := 7) dX9_in_7 rfl ?_
          refine a_lcmp_gt (tgt := 17) (pc := 9) dX9_in_9 dX9_in_10 (by decide) (fun hc => absurd hc hc2) (fun _ => ?_)
          refine a_iconst (pc := 13) dX9_in_13 (by decide) ?_
          refine a_goto (tgt := 18) (pc := 14) dX9_in_14 (by decide) ?_
          refine a_iretz (pc := 18) dX9_in_18 rfl rfl (Nat.le_of_ble_eq_true rfl) (by decide) ⟨rfl, ?_⟩
          refine a_iretz (pc := 9) dX9_isStop_9 rfl rfl (Nat.le_of_ble_eq_true rfl) (by decide) ⟨rfl, ?_⟩
          refine a_if_eq (tgt := 23) (pc := 4) dX9_areTwo_4 (by decide) (fun hc => absurd hc (by decide)) (fun _ => ?_)
          refine a_iload_n (pc := 7) dX9_areTwo_7 rfl ?_
          refine p_inlS (Ex := _) (As := [(0, l2)]) (st := []) (st1 := fun r => [(0, r)])  (pc := 8) dX9_areTwo_8 ml_RX9_260 (by decide) (Nat.le_of_ble_eq_true rfl) rfl (fun _ => rfl) (by decide) (by decide) (Nat.le_of_ble_eq_true rfl) rfl ?_
          refine a_iload_n (pc := 0) dX9_isStop_0 rfl ?_
          refine a_i2l (pc := 1) dX9_isStop_1 ?_
          refine a_lconst (v := 0) (pc := 2) dX9_isStop_2 rfl ?_
          refine a_ldc2 (v := 11) (pc := 3) dX9_isStop_3 kc_RX9_90 (by decide) ?_
          refine p_inlS (Ex := _) (As := [(1, l2), (1, 0), (1, 11)]) (st := []) (st1 := fun r => [(0, r)])  (pc := 6) dX9_isStop_6 ml_RX9_92 (by decide) (Nat.le_of_ble_eq_true rfl) rfl (fun _ => rfl) (by decide) (by decide) (Nat.le_of_ble_eq_true rfl) rfl ?_
          refine a_lload_n (pc := 0) dX9_in_0 rfl ?_
          refine a_lload_n (pc := 1) dX9_in_1 rfl ?_
          refine a_lcmp_lt (tgt := 17) (pc := 2) dX9_in_2 dX9_in_3 (by decide) (fun hc => absurd hc hc3) (fun _ => ?_)
          refine a_lload_n (pc := 6) dX9_in_6 rfl ?_
          refine a_lload (pc := 7) dX9_in_7 rfl ?_
          refine a_lcmp_gt (tgt := 17) (pc := 9) dX9_in_9 dX9_in_10 (by decide) (fun _ => ?_) (fun hc => absurd hc4 hc)
          refine a_iconst (pc := 17) dX9_in_17 (by decide) ?_
          refine a_iretz (pc := 18) dX9_in_18 rfl rfl (Nat.le_of_ble_eq_true rfl) (by decide) ⟨rfl, ?_⟩
          refine a_iretz (pc := 9) dX9_isStop_9 rfl rfl (Nat.le_of_ble_eq_true rfl) (by decide) ⟨rfl, ?_⟩
          refine a_if_eq (tgt := 23) (pc := 11) dX9_areTwo_11 (by decide) (fun _ => ?_) (fun hc => absurd (by decide) hc)
          refine a_iconst (pc := 23) dX9_areTwo_23 (by decide) ?_
          refine a_iretz (pc := 24) dX9_areTwo_24 rfl rfl (Nat.le_of_ble_eq_true rfl) (by decide) ⟨rfl, ?_⟩
          refine a_if_eq (tgt := 38) (pc := 30) dX9_walk_30 (by decide) (fun _ => ?_) (fun hc => absurd (by decide) hc)
          refine a_iconst (pc := 38) dX9_walk_38 (by decide) ?_
          exact a_ireti (pc := 39) dX9_walk_39 rfl rfl (Nat.le_of_ble_eq_true rfl) ⟨rfl, h⟩
        · replace h := h.2 hc4
          refine a_iconst (pc := 13) dX9_in_13 (by decide) ?_
          refine a_goto (tgt := 18) (pc := 14) dX9_in_14 (by decide) ?_
          refine a_iretz (pc := 18) dX9_in_18 rfl rfl (Nat.le_of_ble_eq_true rfl) (by decide) ⟨rfl, ?_⟩
          refine a_iretz (pc := 9) dX9_isStop_9 rfl rfl (Nat.le_of_ble_eq_true rfl) (by decide) ⟨rfl, ?_⟩
          refine a_if_eq (tgt := 23) (pc := 11) dX9_areTwo_11 (by decide) (fun hc => absurd hc (by decide)) (fun _ => ?_)
          refine a_iload_n (pc := 14) dX9_areTwo_14 rfl ?_
          refine a_iload_n (pc := 15) dX9_areTwo_15 rfl ?_
          refine a_icmp_eq (tgt := 23) (pc := 16) dX9_areTwo_16 (by decide) (fun hc5 => ?_) (fun hc5 => ?_)
          · replace h := h.1 hc5
            refine a_iconst (pc := 23) dX9_areTwo_23 (by decide) ?_
            refine a_iretz (pc := 24) dX9_areTwo_24 rfl rfl (Nat.le_of_ble_eq_true rfl) (by decide) ⟨rfl, ?_⟩
            refine a_if_eq (tgt := 25) (pc := 10) dX9_walk_10 (by decide) (fun _ => ?_) (fun hc => absurd (by decide) hc)
            refine a_iload_n (pc := 25) dX9_walk_25 rfl ?_
            refine a_iload_n (pc := 26) dX9_walk_26 rfl ?_
            refine p_inlS (Ex := _) (As := [(0, l1), (0, l2)]) (st := []) (st1 := fun r => [(0, r)])  (pc := 27) dX9_walk_27 ml_RX9_263 (by decide) (Nat.le_of_ble_eq_true rfl) rfl (fun _ => rfl) (by decide) (by decide) (Nat.le_of_ble_eq_true rfl) rfl ?_
            refine a_iload_n (pc := 0) dX9_areTwo_0 rfl ?_
            refine p_inlS (Ex := _) (As := [(0, l1)]) (st := []) (st1 := fun r => [(0, r)])  (pc := 1) dX9_areTwo_1 ml_RX9_260 (by decide) (Nat.le_of_ble_eq_true rfl) rfl (fun _ => rfl) (by decide) (by decide) (Nat.le_of_ble_eq_true rfl) rfl ?_
            refine a_iload_n (pc := 0) dX9_isStop_0 rfl ?_
            refine a_i2l (pc := 1) dX9_isStop_1 ?_
            refine a_lconst (v := 0) (pc := 2) dX9_isStop_2 rfl ?_
            refine a_ldc2 (v := 11) (pc := 3) dX9_isStop_3 kc_RX9_90 (by decide) ?_
            refine p_inlS (Ex := _) (As := [(1, l1), (1, 0), (1, 11)]) (st := []) (st1 := fun r => [(0, r)])  (pc := 6) dX9_isStop_6 ml_RX9_92 (by decide) (Nat.le_of_ble_eq_true rfl) rfl (fun _ => rfl) (by decide) (by decide) (Nat.le_of_ble_eq_true rfl) rfl ?_
            refine a_lload_n (pc := 0) dX9_in_0 rfl ?_
            refine a_lload_n (pc := 1) dX9_in_1 rfl ?_
            refine a_lcmp_lt (tgt := 17) (pc := 2) dX9_in_2 dX9_in_3 (by decide) (fun hc => absurd hc hc1) (fun _ => ?_)
            refine a_lload_n (pc := 6) dX9_in_6 rfl ?_
            refine a_lload (pc := 7) dX9_in_7 rfl ?_
            refine a_lcmp_gt (tgt := 17) (pc := 9) dX9_in_9 dX9_in_10 (by decide) (fun hc => absurd hc hc2) (fun _ => ?_)
            refine a_iconst (pc := 13) dX9_in_13 (by decide) ?_
            refine a_goto (tgt := 18) (pc := 14) dX9_in_14 (by decide) ?_
            refine a_iretz (pc := 18) dX9_in_18 rfl rfl (Nat.le_of_ble_eq_true rfl) (by decide) ⟨rfl, ?_⟩
            refine a_iretz (pc := 9) dX9_isStop_9 rfl rfl (Nat.le_of_ble_eq_true rfl) (by decide) ⟨rfl, ?_⟩
            refine a_if_eq (tgt := 23) (pc := 4) dX9_areTwo_4 (by decide) (fun hc => absurd hc (by decide)) (fun _ => ?_)
            refine a_iload_n (pc := 7) dX9_areTwo_7 rfl ?_
            refine p_inlS (Ex := _) (As := [(0, l2)]) (st := []) (st1 := fun r => [(0, r)])  (pc := 8) dX9_areTwo_8 ml_RX9_260 (by decide) (Nat.le_of_ble_eq_true rfl) rfl (fun _ => rfl) (by decide) (by decide) (Nat.le_of_ble_eq_true rfl) rfl ?_
            refine a_iload_n (pc := 0) dX9_isStop_0 rfl ?_
            refine a_i2l (pc := 1) dX9_isStop_1 ?_
            refine a_lconst (v := 0) (pc := 2) dX9_isStop_2 rfl ?_
            refine a_ldc2 (v := 11) (pc := 3) dX9_isStop_3 kc_RX9_90 (by decide) ?_
            refine p_inlS (Ex := _) (As := [(1, l2), (1, 0), (1, 11)]) (st := []) (st1 := fun r => [(0, r)])  (pc := 6) dX9_isStop_6 ml_RX9_92 (by decide) (Nat.le_of_ble_eq_true rfl) rfl (fun _ => rfl) (by decide) (by decide) (Nat.le_of_ble_eq_true rfl) rfl ?_
            refine a_lload_n (pc := 0) dX9_in_0 rfl ?_
            refine a_lload_n (pc := 1) dX9_in_1 rfl ?_
            refine a_lcmp_lt (tgt := 17) (pc := 2) dX9_in_2 dX9_in_3 (by decide) (fun hc => absurd hc hc3) (fun _ => ?_)
            refine a_lload_n (pc := 6) dX9_in_6 rfl ?_
            refine a_lload (pc := 7) dX9_in_7 rfl ?_
            refine a_lcmp_gt (tgt := 17) (pc := 9) dX9_in_9 dX9_in_10 (by decide) (fun hc => absurd hc hc4) (fun _ => ?_)
            refine a_iconst (pc := 13) dX9_in_13 (by decide) ?_
            refine a_goto (tgt := 18) (pc := 14) dX9_in_14 (by decide) ?_
            refine a_iretz (pc := 18) dX9_in_18 rfl rfl (Nat.le_of_ble_eq_true rfl) (by decide) ⟨rfl, ?_⟩
            refine a_iretz (pc := 9) dX9_isStop_9 rfl rfl (Nat.le_of_ble_eq_true rfl) (by decide) ⟨rfl, ?_⟩
            refine a_if_eq (tgt := 23) (pc := 11) dX9_areTwo_11 (by decide) (fun hc => absurd hc (by decide)) (fun _ => ?_)
            refine a_iload_n (pc := 14) dX9_areTwo_14 rfl ?_
            refine a_iload_n (pc := 15) dX9_areTwo_15 rfl ?_
            refine a_icmp_eq (tgt := 23) (pc := 16) dX9_areTwo_16 (by decide) (fun _ => ?_) (fun hc => absurd hc5 hc)
            refine a_iconst (pc := 23) dX9_areTwo_23 (by decide) ?_
            refine a_iretz (pc := 24) dX9_areTwo_24 rfl rfl (Nat.le_of_ble_eq_true rfl) (by decide) ⟨rfl, ?_⟩
            refine a_if_eq (tgt := 38) (pc := 30) dX9_walk_30 (by decide) (fun _ => ?_) (fun hc => absurd (by decide) hc)
            refine a_iconst (pc := 38) dX9_walk_38 (by decide) ?_
            exact a_ireti (pc := 39) dX9_walk_39 rfl rfl (Nat.le_of_ble_eq_true rfl) ⟨rfl, h⟩
          · replace h := h.2 hc5
            refine a_iconst (pc := 19) dX9_areTwo_19 (by decide) ?_
            refine a_goto (tgt := 24) (pc := 20) dX9_areTwo_20 (by decide) ?_
            refine a_iretz (pc := 24) dX9_areTwo_24 rfl rfl (Nat.le_of_ble_eq_true rfl) (by decide) ⟨rfl, ?_⟩
            refine a_if_eq (tgt := 25) (pc := 10) dX9_walk_10 (by decide) (fun hc => absurd hc (by decide)) (fun _ => ?_)
            refine a_iload_n (pc := 13) dX9_walk_13 rfl ?_
            refine a_i2l (pc := 14) dX9_walk_14 ?_
            refine a_lconst (v := 0) (pc := 15) dX9_walk_15 rfl ?_
            refine a_ldc2 (v := 60) (pc := 16) dX9_walk_16 kc_RX9_269 (by decide) ?_
            refine p_inlS (Ex := _) (As := [(1, l3), (1, 0), (1, 60)]) (st := []) (st1 := fun r => [(0, r)])  (pc := 19) dX9_walk_19 ml_RX9_92 (by decide) (Nat.le_of_ble_eq_true rfl) rfl (fun _ => rfl) (by decide) (by decide) (Nat.le_of_ble_eq_true rfl) rfl ?_
            refine a_lload_n (pc := 0) dX9_in_0 rfl ?_
            refine a_lload_n (pc := 1) dX9_in_1 rfl ?_
            refine a_lcmp_lt (tgt := 17) (pc := 2) dX9_in_2 dX9_in_3 (by decide) (fun hc6 => ?_) (fun hc6 => ?_)
            · replace h := h.1 hc6
              refine a_iconst (pc := 17) dX9_in_17 (by decide) ?_
              refine a_iretz (pc := 18) dX9_in_18 rfl rfl (Nat.le_of_ble_eq_true rfl) (by decide) ⟨rfl, ?_⟩
              refine a_if_ne (tgt := 40) (pc := 22) dX9_walk_22 (by decide) (fun hc => absurd rfl hc) (fun _ => ?_)
              refine a_iload_n (pc := 25) dX9_walk_25 rfl ?_
              refine a_iload_n (pc := 26) dX9_walk_26 rfl ?_
              refine p_inlS (Ex := _) (As := [(0, l1), (0, l2)]) (st := []) (st1 := fun r => [(0, r)])  (pc := 27) dX9_walk_27 ml_RX9_263 (by decide) (Nat.le_of_ble_eq_true rfl) rfl (fun _ => rfl) (by decide) (by decide) (Nat.le_of_ble_eq_true rfl) rfl ?_
              refine a_iload_n (pc := 0) dX9_areTwo_0 rfl ?_
              refine p_inlS (Ex := _) (As := [(0, l1)]) (st := []) (st1 := fun r => [(0, r)])  (pc := 1) dX9_areTwo_1 ml_RX9_260 (by decide) (Nat.le_of_ble_eq_true rfl) rfl (fun _ => rfl) (by decide) (by decide) (Nat.le_of_ble_eq_true rfl) rfl ?_
              refine a_iload_n (pc := 0) dX9_isStop_0 rfl ?_
              refine a_i2l (pc := 1) dX9_isStop_1 ?_
              refine a_lconst (v := 0) (pc := 2) dX9_isStop_2 rfl ?_
              refine a_ldc2 (v := 11) (pc := 3) dX9_isStop_3 kc_RX9_90 (by decide) ?_
              refine p_inlS (Ex := _) (As := [(1, l1), (1, 0), (1, 11)]) (st := []) (st1 := fun r => [(0, r)])  (pc := 6) dX9_isStop_6 ml_RX9_92 (by decide) (Nat.le_of_ble_eq_true rfl) rfl (fun _ => rfl) (by decide) (by decide) (Nat.le_of_ble_eq_true rfl) rfl ?_
              refine a_lload_n (pc := 0) dX9_in_0 rfl ?_
              refine a_lload_n (pc := 1) dX9_in_1 rfl ?_
              refine a_lcmp_lt (tgt := 17) (pc := 2) dX9_in_2 dX9_in_3 (by decide) (fun hc => absurd hc hc1) (fun _ => ?_)
              refine a_lload_n (pc := 6) dX9_in_6 rfl ?_
              refine a_lload (pc := 7) dX9_in_7 rfl ?_
              refine a_lcmp_gt (tgt := 17) (pc := 9) dX9_in_9 dX9_in_10 (by decide) (fun hc => absurd hc hc2) (fun _ => ?_)
              refine a_iconst (pc := 13) dX9_in_13 (by decide) ?_
              refine a_goto (tgt := 18) (pc := 14) dX9_in_14 (by decide) ?_
              refine a_iretz (pc := 18) dX9_in_18 rfl rfl (Nat.le_of_ble_eq_true rfl) (by decide) ⟨rfl, ?_⟩
              refine a_iretz (pc := 9) dX9_isStop_9 rfl rfl (Nat.le_of_ble_eq_true rfl) (by decide) ⟨rfl, ?_⟩
              refine a_if_eq (tgt := 23) (pc := 4) dX9_areTwo_4 (by decide) (fun hc => absurd hc (by decide)) (fun _ => ?_)
              refine a_iload_n (pc := 7) dX9_areTwo_7 rfl ?_
              refine p_inlS (Ex := _) (As := [(0, l2)]) (st := []) (st1 := fun r => [(0, r)])  (pc := 8) dX9_areTwo_8 ml_RX9_260 (by decide) (Nat.le_of_ble_eq_true rfl) rfl (fun _ => rfl) (by decide) (by decide) (Nat.le_of_ble_eq_true rfl) rfl ?_
              refine a_iload_n (pc := 0) dX9_isStop_0 rfl ?_
              refine a_i2l (pc := 1) dX9_isStop_1 ?_
              refine a_lconst (v := 0) (pc := 2) dX9_isStop_2 rfl ?_
              refine a_ldc2 (v := 11) (pc := 3) dX9_isStop_3 kc_RX9_90 (by decide) ?_
              refine p_inlS (Ex := _) (As := [(1, l2), (1, 0), (1, 11)]) (st := []) (st1 := fun r => [(0, r)])  (pc := 6) dX9_isStop_6 ml_RX9_92 (by decide) (Nat.le_of_ble_eq_true rfl) rfl (fun _ => rfl) (by decide) (by decide) (Nat.le_of_ble_eq_true rfl) rfl ?_
              refine a_lload_n (pc := 0) dX9_in_0 rfl ?_
              refine a_lload_n (pc := 1) dX9_in_1 rfl ?_
              refine a_lcmp_lt (tgt := 17) (pc := 2) dX9_in_2 dX9_in_3 (by decide) (fun hc => absurd hc hc3) (fun _ => ?_)
              refine a_lload_n (pc := 6) dX9_in_6 rfl ?_
              refine a_lload (pc := 7) dX9_in_7 rfl ?_
              refine a_lcmp_gt (tgt := 17) (pc := 9) dX9_in_9 dX9_in_10 (by decide) (fun hc => absurd hc hc4) (fun _ => ?_)
              refine a_iconst (pc := 13) dX9_in_13 (by decide) ?_
              refine a_goto (tgt := 18) (pc := 14) dX9_in_14 (by decide) ?_
              refine a_iretz (pc := 18) dX9_in_18 rfl rfl (Nat.le_of_ble_eq_true rfl) (by decide) ⟨rfl, ?_⟩
              refine a_iretz (pc := 9) dX9_isStop_9 rfl rfl (Nat.le_of_ble_eq_true rfl) (by decide) ⟨rfl, ?_⟩
              refine a_if_eq (tgt := 23) (pc := 11) dX9_areTwo_11 (by decide) (fun hc => absurd hc (by decide)) (fun _ => ?_)
              refine a_iload_n (pc := 14) dX9_areTwo_14 rfl ?_
              refine a_iload_n (pc := 15) dX9_areTwo_15 rfl ?_
              refine a_icmp_eq (tgt := 23) (pc := 16) dX9_areTwo_16 (by decide) (fun hc => absurd hc hc5) (fun _ => ?_)
              refine a_iconst (pc := 19) dX9_areTwo_19 (by decide) ?_
              refine a_goto (tgt := 24) (pc := 20) dX9_areTwo_20 (by decide) ?_
              refine a_iretz (pc := 24) dX9_areTwo_24 rfl rfl (Nat.le_of_ble_eq_true rfl) (by decide) ⟨rfl, ?_⟩
              refine a_if_eq (tgt := 38) (pc := 30) dX9_walk_30 (by decide) (fun hc => absurd hc (by decide)) (fun _ => ?_)
              refine a_bipush (pc := 33) dX9_walk_33 (by decide) (by decide +kernel) ?_
              refine a_goto (tgt := 39) (pc := 35) dX9_walk_35 (by decide) ?_
              exact a_ireti (pc := 39) dX9_walk_39 rfl rfl (Nat.le_of_ble_eq_true rfl) ⟨rfl, h⟩
            · replace h := h.2 hc6
              refine a_lload_n (pc := 6) dX9_in_6 rfl ?_
              refine a_lload (pc := 7) dX9_in_7 rfl ?_
              refine a_lcmp_gt (tgt := 17) (pc := 9) dX9_in_9 dX9_in_10 (by decide) (fun hc7 => ?_) (fun hc7 => ?_)
              · replace h := h.1 hc7
                refine a_iconst (pc := 17) dX9_in_17 (by decide) ?_
                refine a_iretz (pc := 18) dX9_in_18 rfl rfl (Nat.le_of_ble_eq_true rfl) (by decide) ⟨rfl, ?_⟩
                refine a_if_ne (tgt := 40) (pc := 22) dX9_walk_22 (by decide) (fun hc => absurd rfl hc) (fun _ => ?_)
                refine a_iload_n (pc := 25) dX9_walk_25 rfl ?_
                refine a_iload_n (pc := 26) dX9_walk_26 rfl ?_
                refine p_inlS (Ex := _) (As := [(0, l1), (0, l2)]) (st := []) (st1 := fun r => [(0, r)])  (pc := 27) dX9_walk_27 ml_RX9_263 (by decide) (Nat.le_of_ble_eq_true rfl) rfl (fun _ => rfl) (by decide) (by decide) (Nat.le_of_ble_eq_true rfl) rfl ?_
                refine a_iload_n (pc := 0) dX9_areTwo_0 rfl ?_
                refine p_inlS (Ex := _) (As := [(0, l1)]) (st := []) (st1 := fun r => [(0, r)])  (pc := 1) dX9_areTwo_1 ml_RX9_260 (by decide) (Nat.le_of_ble_eq_true rfl) rfl (fun _ => rfl) (by decide) (by decide) (Nat.le_of_ble_eq_true rfl) rfl ?_
                refine a_iload_n (pc := 0) dX9_isStop_0 rfl ?_
                refine a_i2l (pc := 1) dX9_isStop_1 ?_
                refine a_lconst (v := 0) (pc := 2) dX9_isStop_2 rfl ?_
                refine a_ldc2 (v := 11) (pc := 3) dX9_isStop_3 kc_RX9_90 (by decide) ?_
                refine p_inlS (Ex := _) (As := [(1, l1), (1, 0), (1, 11)]) (st := []) (st1 := fun r => [(0, r)])  (pc := 6) dX9_isStop_6 ml_RX9_92 (by decide) (Nat.le_of_ble_eq_true rfl) rfl (fun _ => rfl) (by decide) (by decide) (Nat.le_of_ble_eq_true rfl) rfl ?_
                refine a_lload_n (pc := 0) dX9_in_0 rfl ?_
                refine a_lload_n (pc := 1) dX9_in_1 rfl ?_
                refine a_lcmp_lt (tgt := 17) (pc := 2) dX9_in_2 dX9_in_3 (by decide) (fun hc => absurd hc hc1) (fun _ => ?_)
                refine a_lload_n (pc := 6) dX9_in_6 rfl ?_
                refine a_lload (pc := 7) dX9_in_7 rfl ?_
                refine a_lcmp_gt (tgt := 17) (pc := 9) dX9_in_9 dX9_in_10 (by decide) (fun hc => absurd hc hc2) (fun _ => ?_)
                refine a_iconst (pc := 13) dX9_in_13 (by decide) ?_
                refine a_goto (tgt := 18) (pc := 14) dX9_in_14 (by decide) ?_
                refine a_iretz (pc := 18) dX9_in_18 rfl rfl (Nat.le_of_ble_eq_true rfl) (by decide) ⟨rfl, ?_⟩
                refine a_iretz (pc := 9) dX9_isStop_9 rfl rfl (Nat.le_of_ble_eq_true rfl) (by decide) ⟨rfl, ?_⟩
                refine a_if_eq (tgt := 23) (pc := 4) dX9_areTwo_4 (by decide) (fun hc => absurd hc (by decide)) (fun _ => ?_)
                refine a_iload_n (pc := 7) dX9_areTwo_7 rfl ?_
                refine p_inlS (Ex := _) (As := [(0, l2)]) (st := []) (st1 := fun r => [(0, r)])  (pc := 8) dX9_areTwo_8 ml_RX9_260 (by decide) (Nat.le_of_ble_eq_true rfl) rfl (fun _ => rfl) (by decide) (by decide) (Nat.le_of_ble_eq_true rfl) rfl ?_
                refine a_iload_n (pc := 0) dX9_isStop_0 rfl ?_
                refine a_i2l (pc := 1) dX9_isStop_1 ?_
                refine a_lconst (v := 0) (pc := 2) dX9_isStop_2 rfl ?_
                refine a_ldc2 (v := 11) (pc := 3) dX9_isStop_3 kc_RX9_90 (by decide) ?_
                refine p_inlS (Ex := _) (As := [(1, l2), (1, 0), (1, 11)]) (st := []) (st1 := fun r => [(0, r)])  (pc := 6) dX9_isStop_6 ml_RX9_92 (by decide) (Nat.le_of_ble_eq_true rfl) rfl (fun _ => rfl) (by decide) (by decide) (Nat.le_of_ble_eq_true rfl) rfl ?_
                refine a_lload_n (pc := 0) dX9_in_0 rfl ?_
                refine a_lload_n (pc := 1) dX9_in_1 rfl ?_
                refine a_lcmp_lt (tgt := 17) (pc := 2) dX9_in_2 dX9_in_3 (by decide) (fun hc => absurd hc hc3) (fun _ => ?_)
                refine a_lload_n (pc := 6) dX9_in_6 rfl ?_
                refine a_lload (pc := 7) dX9_in_7 rfl ?_
                refine a_lcmp_gt (tgt := 17) (pc := 9) dX9_in_9 dX9_in_10 (by decide) (fun hc => absurd hc hc4) (fun _ => ?_)
                refine a_iconst (pc := 13) dX9_in_13 (by decide) ?_
                refine a_goto (tgt := 18) (pc := 14) dX9_in_14 (by decide) ?_
                refine a_iretz (pc := 18) dX9_in_18 rfl rfl (Nat.le_of_ble_eq_true rfl) (by decide) ⟨rfl, ?_⟩
                refine a_iretz (pc := 9) dX9_isStop_9 rfl rfl (Nat.le_of_ble_eq_true rfl) (by decide) ⟨rfl, ?_⟩
                refine a_if_eq (tgt := 23) (pc := 11) dX9_areTwo_11 (by decide) (fun hc => absurd hc (by decide)) (fun _ => ?_)
                refine a_iload_n (pc := 14) dX9_areTwo_14 rfl ?_
                refine a_iload_n (pc := 15) dX9_areTwo_15 rfl ?_
                refine a_icmp_eq (tgt := 23) (pc := 16) dX9_areTwo_16 (by decide) (fun hc => absurd hc hc5) (fun _ => ?_)
                refine a_iconst (pc := 19) dX9_areTwo_19 (by decide) ?_
                refine a_goto (tgt := 24) (pc := 20) dX9_areTwo_20 (by decide) ?_
                refine a_iretz (pc := 24) dX9_areTwo_24 rfl rfl (Nat.le_of_ble_eq_true rfl) (by decide) ⟨rfl, ?_⟩
                refine a_if_eq (tgt := 38) (pc := 30) dX9_walk_30 (by decide) (fun hc => absurd hc (by decide)) (fun _ => ?_)
                refine a_bipush (pc := 33) dX9_walk_33 (by decide) (by decide +kernel) ?_
                refine a_goto (tgt := 39) (pc := 35) dX9_walk_35 (by decide) ?_
                exact a_ireti (pc := 39) dX9_walk_39 rfl rfl (Nat.le_of_ble_eq_true rfl) ⟨rfl, h⟩
              · replace h := h.2 hc7
                refine a_iconst (pc := 13) dX9_in_13 (by decide) ?_
                refine a_goto (tgt := 18) (pc := 14) dX9_in_14 (by decide) ?_
                refine a_iretz (pc := 18) dX9_in_18 rfl rfl (Nat.le_of_ble_eq_true rfl) (by decide) ⟨rfl, ?_⟩
                refine a_if_ne (tgt := 40) (pc := 22) dX9_walk_22 (by decide) (fun _ => ?_) (fun hc => absurd hc (by decide))
                refine a_aload_n (pc := 40) dX9_walk_40 (by decide) rfl ?_
                refine a_iload_n (pc := 41) dX9_walk_41 rfl ?_
                refine a_iload_n (pc := 42) dX9_walk_42 rfl ?_
                refine p_inlV (Ex := _) (As := [(0, l1), (0, l2)]) (st := []) (st1 := fun r => [(0, r)])  (pc := 43) dX9_walk_43 ml_RX9_266 (by decide) s0_275 rfl (by decide) (Nat.le_of_ble_eq_true rfl) rfl (fun _ => rfl) (by decide) (by decide) (Nat.le_of_ble_eq_true rfl) rfl ?_
                refine a_aload_n (pc := 0) dX9_footTold_0 (by decide) rfl ?_
                refine a_getR (y := 282) (pc := 1) dX9_footTold_1 fl_RX9_28 (by decide) s0_275 rfl rfl ?_
                refine a_bipush (pc := 4) dX9_footTold_4 (by decide) (by decide +kernel) ?_
                refine a_iload_n (pc := 6) dX9_footTold_6 rfl ?_
                have ho8 := h.1
                replace h := h.2
                refine a_imul (pc := 7) dX9_footTold_7 ho8 ?_
                refine a_iload_n (pc := 8) dX9_footTold_8 rfl ?_
                have ho9 := h.1
                replace h := h.2
                refine a_iadd (pc := 9) dX9_footTold_9 ho9 ?_
                have ho10 := h.1
                replace h := h.2
                refine a_iald (pc := 10) dX9_footTold_10 (by decide) s0_282 ho10.1 ho10.2 ?_
                refine a_eq (y := M 282 ((12 * l1) + l2)) rfl ?_
                refine a_if_ne (tgt := 19) (pc := 11) dX9_footTold_11 (by decide) (fun hc11 => ?_) (fun hc11 => ?_)
                · replace h := h.1 hc11
                  refine a_aload_n (pc := 19) dX9_footTold_19 (by decide) rfl ?_
                  refine a_getR (y := 282) (pc := 20) dX9_footTold_20 fl_RX9_28 (by decide) s0_275 rfl rfl ?_
                  refine a_bipush (pc := 23) dX9_footTold_23 (by decide) (by decide +kernel) ?_
                  refine a_iload_n (pc := 25) dX9_footTold_25 rfl ?_
                  refine a_imul (pc := 26) dX9_footTold_26 ho8 ?_
                  refine a_iload_n (pc := 27) dX9_footTold_27 rfl ?_
                  refine a_iadd (pc := 28) dX9_footTold_28 ho9 ?_
                  refine a_iald (pc := 29) dX9_footTold_29 (by decide) s0_282 ho10.1 ho10.2 ?_
                  refine a_eq (y := M 282 ((12 * l1) + l2)) rfl ?_
                  refine a_ireti (pc := 30) dX9_footTold_30 rfl rfl (Nat.le_of_ble_eq_true rfl) ⟨rfl, ?_⟩
                  refine a_istore (ls1 := [(2, 275), (0, l1), (0, l2), (0, l3), (0, M 282 ((12 * l1) + l2))]) (pc := 46) dX9_walk_46 (by decide) (hp1 (t := 0) rfl (by decide)) rfl ?_
                  refine a_aload_n (pc := 48) dX9_walk_48 (by decide) rfl ?_
                  refine a_getR (y := 282) (pc := 49) dX9_walk_49 fl_RX9_28 (by decide) s0_275 rfl rfl ?_
                  refine a_bipush (pc := 52) dX9_walk_52 (by decide) (by decide +kernel) ?_
                  refine a_iload_n (pc := 54) dX9_walk_54 rfl ?_
                  refine a_imul (pc := 55) dX9_walk_55 ho8 ?_
                  refine a_iload_n (pc := 56) dX9_walk_56 rfl ?_
                  refine a_iadd (pc := 57) dX9_walk_57 ho9 ?_
                  refine a_iload_n (pc := 58) dX9_walk_58 rfl ?_
                  refine a_iast (pc := 59) dX9_walk_59 (by decide) s0_282 ho10.1 ho10.2 ?_
                  refine a_aload_n (pc := 60) dX9_walk_60 (by decide) rfl ?_
                  refine a_getR (y := 282) (pc := 61) dX9_walk_61 fl_RX9_28 (by decide) s0_275 rfl rfl ?_
                  refine a_bipush (pc := 64) dX9_walk_64 (by decide) (by decide +kernel) ?_
                  refine a_iload_n (pc := 66) dX9_walk_66 rfl ?_
                  have ho12 := h.1
                  replace h := h.2
                  refine a_imul (pc := 67) dX9_walk_67 ho12 ?_
                  refine a_iload_n (pc := 68) dX9_walk_68 rfl ?_
                  have ho13 := h.1
                  replace h := h.2
                  refine a_iadd (pc := 69) dX9_walk_69 ho13 ?_
                  refine a_iload_n (pc := 70) dX9_walk_70 rfl ?_
                  have ho14 := h.1
                  replace h := h.2
                  refine a_iast (pc := 71) dX9_walk_71 (by decide) s0_282 ho14.1 ho14.2 ?_
                  refine a_iload (pc := 72) dX9_walk_72 rfl ?_
                  exact a_ireti (pc := 74) dX9_walk_74 rfl rfl (Nat.le_of_ble_eq_true rfl) ⟨rfl, h⟩
                · replace h := h.2 hc11
                  refine a_bipush (pc := 14) dX9_footTold_14 (by decide) (by decide +kernel) ?_
                  refine a_goto (tgt := 30) (pc := 16) dX9_footTold_16 (by decide) ?_
                  refine a_ireti (pc := 30) dX9_footTold_30 rfl rfl (Nat.le_of_ble_eq_true rfl) ⟨rfl, ?_⟩
                  refine a_istore (ls1 := [(2, 275), (0, l1), (0, l2), (0, l3), (0, (-5))]) (pc := 46) dX9_walk_46 (by decide) (hp1 (t := 0) rfl (by decide)) rfl ?_
                  refine a_aload_n (pc := 48) dX9_walk_48 (by decide) rfl ?_
                  refine a_getR (y := 282) (pc := 49) dX9_walk_49 fl_RX9_28 (by decide) s0_275 rfl rfl ?_
                  refine a_bipush (pc := 52) dX9_walk_52 (by decide) (by decide +kernel) ?_
                  refine a_iload_n (pc := 54) dX9_walk_54 rfl ?_
                  refine a_imul (pc := 55) dX9_walk_55 ho8 ?_
                  refine a_iload_n (pc := 56) dX9_walk_56 rfl ?_
                  refine a_iadd (pc := 57) dX9_walk_57 ho9 ?_
                  refine a_iload_n (pc := 58) dX9_walk_58 rfl ?_
                  refine a_iast (pc := 59) dX9_walk_59 (by decide) s0_282 ho10.1 ho10.2 ?_
                  refine a_aload_n (pc := 60) dX9_walk_60 (by decide) rfl ?_
                  refine a_getR (y := 282) (pc := 61) dX9_walk_61 fl_RX9_28 (by decide) s0_275 rfl rfl ?_
                  refine a_bipush (pc := 64) dX9_walk_64 (by decide) (by decide +kernel) ?_
                  refine a_iload_n (pc := 66) dX9_walk_66 rfl ?_
                  have ho15 := h.1
                  replace h := h.2
                  refine a_imul (pc := 67) dX9_walk_67 ho15 ?_
                  refine a_iload_n (pc := 68) dX9_walk_68 rfl ?_
                  have ho16 := h.1
                  replace h := h.2
                  refine a_iadd (pc := 69) dX9_walk_69 ho16 ?_
                  refine a_iload_n (pc := 70) dX9_walk_70 rfl ?_
                  have ho17 := h.1
                  replace h := h.2
                  refine a_iast (pc := 71) dX9_walk_71 (by decide) s0_282 ho17.1 ho17.2 ?_
                  refine a_iload (pc := 72) dX9_walk_72 rfl ?_
                  exact a_ireti (pc := 74) dX9_walk_74 rfl rfl (Nat.le_of_ble_eq_true rfl) ⟨rfl, h⟩
theorem E_R_walk {l1 l2 l3 : Int} {M : Mem} {Q : Int → Mem → Prop} (h : AW mX9_walk 0 [(2, 275), (0, l1), (0, l2), (0, l3), (9, 0)] M Q) : Calls mX9_walk [(2, 275), (0, l1), (0, l2), (0, l3)] S0 M Q := calls_of (by decide) (by decide) (Nat.le_of_ble_eq_true rfl) rfl h
set_option maxRecDepth 100000 in
set_option maxHeartbeats 4000000 in
theorem B_R_delay_0 {l1 l2 l3 l4 : Int} {M : Mem} {Q : Int → Mem → Prop} (h : (-2147483648 ≤ (M 275 0) - 1 ∧ (M 275 0) - 1 ≤ 2147483647) ∧ ((l1 < 0 → Q (-1) (up2 M 275 8 0)) ∧ (¬ (l1 < 0) → ((((M 275 0) - 1) < l1 → Q (-1) (up2 M 275 8 0)) ∧ (¬ (((M 275 0) - 1) < l1) → ((0 : Int) ≤ l1 ∧ l1 < 8) ∧ (-2147483648 ≤ (M 279 l1) - 1 ∧ (M 279 l1) - 1 ≤ 2147483647) ∧ ((l2 < 0 → Q (-1) (up2 M 275 8 0)) ∧ (¬ (l2 < 0) → ((((M 279 l1) - 1) < l2 → Q (-1) (up2 M 275 8 0)) ∧ (¬ (((M 279 l1) - 1) < l2) → (-2147483648 ≤ (M 277 l1) - 1 ∧ (M 277 l1) - 1 ≤ 2147483647) ∧ ((l3 < 0 → Q (-1) (up2 M 275 8 0)) ∧ (¬ (l3 < 0) → ((((M 277 l1) - 1) < l3 → Q (-1) (up2 M 275 8 0)) ∧ (¬ (((M 277 l1) - 1) < l3) → ((l4 < 1 → Q (-2) (up2 M 275 8 0)) ∧ (¬ (l4 < 1) → ((99 < l4 → Q (-2) (up2 M 275 8 0)) ∧ (¬ (99 < l4) → (-2147483648 ≤ 36 * l1 ∧ 36 * l1 ≤ 2147483647) ∧ (-2147483648 ≤ 6 * l2 ∧ 6 * l2 ≤ 2147483647) ∧ (-2147483648 ≤ (36 * l1) + (6 * l2) ∧ (36 * l1) + (6 * l2) ≤ 2147483647) ∧ (-2147483648 ≤ ((36 * l1) + (6 * l2)) + ((M 277 l1) - 1) ∧ ((36 * l1) + (6 * l2)) + ((M 277 l1) - 1) ≤ 2147483647) ∧ ((0 : Int) ≤ ((36 * l1) + (6 * l2)) + ((M 277 l1) - 1) ∧ ((36 * l1) + (6 * l2)) + ((M 277 l1) - 1) < 288) ∧ (-2147483648 ≤ (M 281 (((36 * l1) + (6 * l2)) + ((M 277 l1) - 1))) + l4 ∧ (M 281 (((36 * l1) + (6 * l2)) + ((M 277 l1) - 1))) + l4 ≤ 2147483647) ∧ ((((M 281 (((36 * l1) + (6 * l2)) + ((M 277 l1) - 1))) + l4) ≤ 9000 → Calls mX9_delays [(2, 275), (0, l1), (0, l2), (0, l3), (0, l4)] S0 (up2 M 275 8 0) (fun r20 M21 => (-2147483648 ≤ ((36 * l1) + (6 * l2)) + l3 ∧ ((36 * l1) + (6 * l2)) + l3 ≤ 2147483647) ∧ ((0 : Int) ≤ ((36 * l1) + (6 * l2)) + l3 ∧ ((36 * l1) + (6 * l2)) + l3 < 288) ∧ Q (M21 281 (((36 * l1) + (6 * l2)) + l3)) M21)) ∧ (¬ (((M 281 (((36 * l1) + (6 * l2)) + ((M 277 l1) - 1))) + l4) ≤ 9000) → Q (-4) (up2 M 275 8 0)))))))))))))))))))) : AW mX9_delay 0 [(2, 275), (0, l1), (0, l2), (0, l3), (0, l4)] M Q := by
  refine a_aload_n (pc := 0) dX9_delay_0 (by decide) rfl ?_
  refine a_iconst (pc := 1) dX9_delay_1 (by decide) ?_
  refine a_putI (y := 8) (pc := 2) dX9_delay_2 fl_RX9_87 (by decide) s0_275 rfl rfl (tyX9_ok 8 (by decide)) rfl ?_
  refine a_aload_n (pc := 5) dX9_delay_5 (by decide) rfl ?_
  refine a_iload_n (pc := 6) dX9_delay_6 rfl ?_
  refine a_iload_n (pc := 7) dX9_delay_7 rfl ?_
  refine p_inlV (Ex := _) (As := [(0, l1), (0, l2)]) (st := []) (st1 := fun r => [(0, r)])  (pc := 8) dX9_delay_8 ml_RX9_257 (by decide) s0_275 rfl (by decide) (Nat.le_of_ble_eq_true rfl) rfl (fun _ => rfl) (by decide) (by decide) (Nat.le_of_ble_eq_true rfl) rfl ?_
  refine a_aload_n (pc := 0) dX9_isTrip_0 (by decide) rfl ?_
  refine a_iload_n (pc := 1) dX9_isTrip_1 rfl ?_
  refine p_inlV (Ex := _) (As := [(0, l1)]) (st := []) (st1 := fun r => [(0, r)])  (pc := 2) dX9_isTrip_2 ml_RX9_101 (by decide) s0_275 rfl (by decide) (Nat.le_of_ble_eq_true rfl) rfl (fun _ => rfl) (by decide) (by decide) (Nat.le_of_ble_eq_true rfl) rfl ?_
  refine a_iload_n (pc := 0) dX9_isLine_0 rfl ?_
  refine a_i2l (pc := 1) dX9_isLine_1 ?_
  refine a_lconst (v := 0) (pc := 2) dX9_isLine_2 rfl ?_
  refine a_aload_n (pc := 3) dX9_isLine_3 (by decide) rfl ?_
  refine a_getI (y := 0) (pc := 4) dX9_isLine_4 fl_RX9_98 (by decide) s0_275 (Or.inl rfl) rfl ?_
  refine a_eq (y := M 275 0) rfl ?_
  refine a_iconst (pc := 7) dX9_isLine_7 (by decide) ?_
  have ho1 := h.1
  replace h := h.2
  refine a_isub (pc := 8) dX9_isLine_8 ho1 ?_
  refine a_i2l (pc := 9) dX9_isLine_9 ?_
  refine p_inlS (Ex := _) (As := [(1, l1), (1, 0), (1, (M 275 0) - 1)]) (st := []) (st1 := fun r => [(0, r)])  (pc := 10) dX9_isLine_10 ml_RX9_92 (by decide) (Nat.le_of_ble_eq_true rfl) rfl (fun _ => rfl) (by decide) (by decide) (Nat.le_of_ble_eq_true rfl) rfl ?_
  refine a_lload_n (pc := 0) dX9_in_0 rfl ?_
  refine a_lload_n (pc := 1) dX9_in_1 rfl ?_
  refine a_lcmp_lt (tgt := 17) (pc := 2) dX9_in_2 dX9_in_3 (by decide) (fun hc2 => ?_) (fun hc2 => ?_)
  · replace h := h.1 hc2
    refine a_iconst (pc := 17) dX9_in_17 (by decide) ?_
    refine a_iretz (pc := 18) dX9_in_18 rfl rfl (Nat.le_of_ble_eq_true rfl) (by decide) ⟨rfl, ?_⟩
    refine a_iretz (pc := 13) dX9_isLine_13 rfl rfl (Nat.le_of_ble_eq_true rfl) (by decide) ⟨rfl, ?_⟩
    refine a_if_eq (tgt := 30) (pc := 5) dX9_isTrip_5 (by decide) (fun _ => ?_) (fun hc => absurd (by decide) hc)
    refine a_iconst (pc := 30) dX9_isTrip_30 (by decide) ?_
    refine a_iretz (pc := 31) dX9_isTrip_31 rfl rfl (Nat.le_of_ble_eq_true rfl) (by decide) ⟨rfl, ?_⟩
    refine a_if_ne (tgt := 16) (pc := 11) dX9_delay_11 (by decide) (fun hc => absurd rfl hc) (fun _ => ?_)
    refine a_iconst (pc := 14) dX9_delay_14 (by decide) ?_
    exact a_ireti (pc := 15) dX9_delay_15 rfl rfl (Nat.le_of_ble_eq_true rfl) ⟨rfl, h⟩
  · replace h := h.2 hc2
    refine a_lload_n (pc := 6) dX9_in_6 rfl ?_
    refine a_lload (pc := 7) dX9_in_7 rfl ?_
    refine a_lcmp_gt (tgt := 17) (pc := 9) dX9_in_9 dX9_in_10 (by decide) (fun hc3 => ?_) (fun hc3 => ?_)
    · replace h := h.1 hc3
      refine a_iconst (pc := 17) dX9_in_17 (by decide) ?_
      refine a_iretz (pc := 18) dX9_in_18 rfl rfl (Nat.le_of_ble_eq_true rfl) (by decide) ⟨rfl, ?_⟩
      refine a_iretz (pc := 13) dX9_isLine_13 rfl rfl (Nat.le_of_ble_eq_true rfl) (by decide) ⟨rfl, ?_⟩
      refine a_if_eq (tgt := 30) (pc := 5) dX9_isTrip_5 (by decide) (fun _ => ?_) (fun hc => absurd (by decide) hc)
      refine a_iconst (pc := 30) dX9_isTrip_30 (by decide) ?_
      refine a_iretz (pc := 31) dX9_isTrip_31 rfl rfl (Nat.le_of_ble_eq_true rfl) (by decide) ⟨rfl, ?_⟩
      refine a_if_ne (tgt := 16) (pc := 11) dX9_delay_11 (by decide) (fun hc => absurd rfl hc) (fun _ => ?_)
      refine a_iconst (pc := 14) dX9_delay_14 (by decide) ?_
      exact a_ireti (pc := 15) dX9_delay_15 rfl rfl (Nat.le_of_ble_eq_true rfl) ⟨rfl, h⟩
    · replace h := h.2 hc3
      refine a_iconst (pc := 13) dX9_in_13 (by decide) ?_
      refine a_goto (tgt := 18) (pc := 14) dX9_in_14 (by decide) ?_
      refine a_iretz (pc := 18) dX9_in_18 rfl rfl (Nat.le_of_ble_eq_true rfl) (by decide) ⟨rfl, ?_⟩
      refine a_iretz (pc := 13) dX9_isLine_13 rfl rfl (Nat.le_of_ble_eq_true rfl) (by decide) ⟨rfl, ?_⟩
      refine a_if_eq (tgt := 30) (pc := 5) dX9_isTrip_5 (by decide) (fun hc => absurd hc (by decide)) (fun _ => ?_)
      refine a_iload_n (pc := 8) dX9_isTrip_8 rfl ?_
      refine a_i2l (pc := 9) dX9_isTrip_9 ?_
      refine a_lconst (v := 0) (pc := 10) dX9_isTrip_10 rfl ?_
      refine a_aload_n (pc := 11) dX9_isTrip_11 (by decide) rfl ?_
      refine a_getR (y := 279) (pc := 12) dX9_isTrip_12 fl_RX9_19 (by decide) s0_275 rfl rfl ?_
      refine a_iload_n (pc := 15) dX9_isTrip_15 rfl ?_
      have ho4 := h.1
      replace h := h.2
      refine a_iald (pc := 16) dX9_isTrip_16 (by decide) s0_279 ho4.1 ho4.2 ?_
      refine a_eq (y := M 279 l1) rfl ?_
      refine a_iconst (pc := 17) dX9_isTrip_17 (by decide) ?_
      have ho5 := h.1
      replace h := h.2
      refine a_isub (pc := 18) dX9_isTrip_18 ho5 ?_
      refine a_i2l (pc := 19) dX9_isTrip_19 ?_
      refine p_inlS (Ex := _) (As := [(1, l2), (1, 0), (1, (M 279 l1) - 1)]) (st := []) (st1 := fun r => [(0, r)])  (pc := 20) dX9_isTrip_20 ml_RX9_92 (by decide) (Nat.le_of_ble_eq_true rfl) rfl (fun _ => rfl) (by decide) (by decide) (Nat.le_of_ble_eq_true rfl) rfl ?_
      refine a_lload_n (pc := 0) dX9_in_0 rfl ?_
      refine a_lload_n (pc := 1) dX9_in_1 rfl ?_
      refine a_lcmp_lt (tgt := 17) (pc := 2) dX9_in_2 dX9_in_3 (by decide) (fun hc6 => ?_) (fun hc6 => ?_)
      · replace h := h.1 hc6
        refine a_iconst (pc := 17) dX9_in_17 (by decide) ?_
        refine a_iretz (pc := 18) dX9_in_18 rfl rfl (Nat.le_of_ble_eq_true rfl) (by decide) ⟨rfl, ?_⟩
        refine a_if_eq (tgt := 30) (pc := 23) dX9_isTrip_23 (by decide) (fun _ => ?_) (fun hc => absurd (by decide) hc)
        refine a_iconst (pc := 30) dX9_isTrip_30 (by decide) ?_
        refine a_iretz (pc := 31) dX9_isTrip_31 rfl rfl (Nat.le_of_ble_eq_true rfl) (by decide) ⟨rfl, ?_⟩
        refine a_if_ne (tgt := 16) (pc := 11) dX9_delay_11 (by decide) (fun hc => absurd rfl hc) (fun _ => ?_)
        refine a_iconst (pc := 14) dX9_delay_14 (by decide) ?_
        exact a_ireti (pc := 15) dX9_delay_15 rfl rfl (Nat.le_of_ble_eq_true rfl) ⟨rfl, h⟩
      · replace h := h.2 hc6
        refine a_lload_n (pc := 6) dX9_in_6 rfl ?_
        refine a_lload (pc := 7) dX9_in_7 rfl ?_
        refine a_lcmp_gt (tgt := 17) (pc := 9) dX9_in_9 dX9_in_10 (by decide) (fun hc7 => ?_) (fun hc7 => ?_)
        · replace h := h.1 hc7
          refine a_iconst (pc := 17) dX9_in_17 (by decide) ?_
          refine a_iretz (pc := 18) dX9_in_18 rfl rfl (Nat.le_of_ble_eq_true rfl) (by decide) ⟨rfl, ?_⟩
          refine a_if_eq (tgt := 30) (pc := 23) dX9_isTrip_23 (by decide) (fun _ => ?_) (fun hc => absurd (by decide) hc)
          refine a_iconst (pc := 30) dX9_isTrip_30 (by decide) ?_
          refine a_iretz (pc := 31) dX9_isTrip_31 rfl rfl (Nat.le_of_ble_eq_true rfl) (by decide) ⟨rfl, ?_⟩
          refine a_if_ne (tgt := 16) (pc := 11) dX9_delay_11 (by decide) (fun hc => absurd rfl hc) (fun _ => ?_)
          refine a_iconst (pc := 14) dX9_delay_14 (by decide) ?_
          exact a_ireti (pc := 15) dX9_delay_15 rfl rfl (Nat.le_of_ble_eq_true rfl) ⟨rfl, h⟩
        · replace h := h.2 hc7
          refine a_iconst (pc := 13) dX9_in_13 (by decide) ?_
          refine a_goto (tgt := 18) (pc := 14) dX9_in_14 (by decide) ?_
          refine a_iretz (pc := 18) dX9_in_18 rfl rfl (Nat.le_of_ble_eq_true rfl) (by decide) ⟨rfl, ?_⟩
          refine a_if_eq (tgt := 30) (pc := 23) dX9_isTrip_23 (by decide) (fun hc => absurd hc (by decide)) (fun _ => ?_)
          refine a_iconst (pc := 26) dX9_isTrip_26 (by decide) ?_
          refine a_goto (tgt := 31) (pc := 27) dX9_isTrip_27 (by decide) ?_
          refine a_iretz (pc := 31) dX9_isTrip_31 rfl rfl (Nat.le_of_ble_eq_true rfl) (by decide) ⟨rfl, ?_⟩
          refine a_if_ne (tgt := 16) (pc := 11) dX9_delay_11 (by decide) (fun _ => ?_) (fun hc => absurd hc (by decide))
          refine a_iload_n (pc := 16) dX9_delay_16 rfl ?_
          refine a_i2l (pc := 17) dX9_delay_17 ?_
          refine a_lconst (v := 0) (pc := 18) dX9_delay_18 rfl ?_
          refine a_aload_n (pc := 19) dX9_delay_19 (by decide) rfl ?_
          refine a_getR (y := 277) (pc := 20) dX9_delay_20 fl_RX9_13 (by decide) s0_275 rfl rfl ?_
          refine a_iload_n (pc := 23) dX9_delay_23 rfl ?_
          refine a_iald (pc := 24) dX9_delay_24 (by decide) s0_277 ho4.1 ho4.2 ?_
          refine a_eq (y := M 277 l1) rfl ?_
          refine a_iconst (pc := 25) dX9_delay_25 (by decide) ?_
          have ho8 := h.1
          replace h := h.2
          refine a_isub (pc := 26) dX9_delay_26 ho8 ?_
          refine a_i2l (pc := 27) dX9_delay_27 ?_
          refine p_inlS (Ex := _) (As := [(1, l3), (1, 0), (1, (M 277 l1) - 1)]) (st := []) (st1 := fun r => [(0, r)])  (pc := 28) dX9_delay_28 ml_RX9_92 (by decide) (Nat.le_of_ble_eq_true rfl) rfl (fun _ => rfl) (by decide) (by decide) (Nat.le_of_ble_eq_true rfl) rfl ?_
          refine a_lload_n (pc := 0) dX9_in_0 rfl ?_
          refine a_lload_n (pc := 1) dX9_in_1 rfl ?_
          refine a_lcmp_lt (tgt := 17) (pc := 2) dX9_in_2 dX9_in_3 (by decide) (fun hc9 => ?_) (fun hc9 => ?_)
          · replace h := h.1 hc9
            refine a_iconst (pc := 17) dX9_in_17 (by decide) ?_
            refine a_iretz (pc := 18) dX9_in_18 rfl rfl (Nat.le_of_ble_eq_true rfl) (by decide) ⟨rfl, ?_⟩
            refine a_if_ne (tgt := 36) (pc := 31) dX9_delay_31 (by decide) (fun hc => absurd rfl hc) (fun _ => ?_)
            refine a_iconst (pc := 34) dX9_delay_34 (by decide) ?_
            exact a_ireti (pc := 35) dX9_delay_35 rfl rfl (Nat.le_of_ble_eq_true rfl) ⟨rfl, h⟩
          · replace h := h.2 hc9
            refine a_lload_n (pc := 6) dX9_in_6 rfl ?_
            refine a_lload (pc := 7) dX9_in_7 rfl ?_
            refine a_lcmp_gt (tgt := 17) (pc := 9) dX9_in_9 dX9_in_10 (by decide) (fun hc10 => ?_) (fun hc10 => ?_)
            · replace h := h.1 hc10
              refine a_iconst (pc := 17) dX9_in_17 (by decide) ?_
              refine a_iretz (pc := 18) dX9_in_18 rfl rfl (Nat.le_of_ble_eq_true rfl) (by decide) ⟨rfl, ?_⟩
              refine a_if_ne (tgt := 36) (pc := 31) dX9_delay_31 (by decide) (fun hc => absurd rfl hc) (fun _ => ?_)
              refine a_iconst (pc := 34) dX9_delay_34 (by decide) ?_
              exact a_ireti (pc := 35) dX9_delay_35 rfl rfl (Nat.le_of_ble_eq_true rfl) ⟨rfl, h⟩
            · replace h := h.2 hc10
              refine a_iconst (pc := 13) dX9_in_13 (by decide) ?_
              refine a_goto (tgt := 18) (pc := 14) dX9_in_14 (by decide) ?_
              refine a_iretz (pc := 18) dX9_in_18 rfl rfl (Nat.le_of_ble_eq_true rfl) (by decide) ⟨rfl, ?_⟩
              refine a_if_ne (tgt := 36) (pc := 31) dX9_delay_31 (by decide) (fun _ => ?_) (fun hc => absurd hc (by decide))
              refine a_iload (pc := 36) dX9_delay_36 rfl ?_
              refine a_i2l (pc := 38) dX9_delay_38 ?_
              refine a_lconst (v := 1) (pc := 39) dX9_delay_39 rfl ?_
              refine a_ldc2 (v := 99) (pc := 40) dX9_delay_40 kc_RX9_271 (by decide) ?_
              refine p_inlS (Ex := _) (As := [(1, l4), (1, 1), (1, 99)]) (st := []) (st1 := fun r => [(0, r)])  (pc := 43) dX9_delay_43 ml_RX9_92 (by decide) (Nat.le_of_ble_eq_true rfl) rfl (fun _ => rfl) (by decide) (by decide) (Nat.le_of_ble_eq_true rfl) rfl ?_
              refine a_lload_n (pc := 0) dX9_in_0 rfl ?_
              refine a_lload_n (pc := 1) dX9_in_1 rfl ?_
              refine a_lcmp_lt (tgt := 17) (pc := 2) dX9_in_2 dX9_in_3 (by decide) (fun hc11 => ?_) (fun hc11 => ?_)
              · replace h := h.1 hc11
                refine a_iconst (pc := 17) dX9_in_17 (by decide) ?_
                refine a_iretz (pc := 18) dX9_in_18 rfl rfl (Nat.le_of_ble_eq_true rfl) (by decide) ⟨rfl, ?_⟩
                refine a_if_ne (tgt := 52) (pc := 46) dX9_delay_46 (by decide) (fun hc => absurd rfl hc) (fun _ => ?_)
                refine a_bipush (pc := 49) dX9_delay_49 (by decide) (by decide +kernel) ?_
                exact a_ireti (pc := 51) dX9_delay_51 rfl rfl (Nat.le_of_ble_eq_true rfl) ⟨rfl, h⟩
              · replace h := h.2 hc11
                refine a_lload_n (pc := 6) dX9_in_6 rfl ?_
                refine a_lload (pc := 7) dX9_in_7 rfl ?_
                refine a_lcmp_gt (tgt := 17) (pc := 9) dX9_in_9 dX9_in_10 (by decide) (fun hc12 => ?_) (fun hc12 => ?_)
                · replace h := h.1 hc12
                  refine a_iconst (pc := 17) dX9_in_17 (by decide) ?_
                  refine a_iretz (pc := 18) dX9_in_18 rfl rfl (Nat.le_of_ble_eq_true rfl) (by decide) ⟨rfl, ?_⟩
                  refine a_if_ne (tgt := 52) (pc := 46) dX9_delay_46 (by decide) (fun hc => absurd rfl hc) (fun _ => ?_)
                  refine a_bipush (pc := 49) dX9_delay_49 (by decide) (by decide +kernel) ?_
                  exact a_ireti (pc := 51) dX9_delay_51 rfl rfl (Nat.le_of_ble_eq_true rfl) ⟨rfl, h⟩
                · replace h := h.2 hc12
                  refine a_iconst (pc := 13) dX9_in_13 (by decide) ?_
                  refine a_goto (tgt := 18) (pc := 14) dX9_in_14 (by decide) ?_
                  refine a_iretz (pc := 18) dX9_in_18 rfl rfl (Nat.le_of_ble_eq_true rfl) (by decide) ⟨rfl, ?_⟩
                  refine a_if_ne (tgt := 52) (pc := 46) dX9_delay_46 (by decide) (fun _ => ?_) (fun hc => absurd hc (by decide))
                  refine a_aload_n (pc := 52) dX9_delay_52 (by decide) rfl ?_
                  refine a_iload_n (pc := 53) dX9_delay_53 rfl ?_
                  refine a_iload_n (pc := 54) dX9_delay_54 rfl ?_
                  refine a_iload (pc := 55) dX9_delay_55 rfl ?_
                  refine p_inlV (Ex := _) (As := [(0, l1), (0, l2), (0, l4)]) (st := []) (st1 := fun r => [(0, r)])  (pc := 57) dX9_delay_57 ml_RX9_211 (by decide) s0_275 rfl (by decide) (Nat.le_of_ble_eq_true rfl) rfl (fun _ => rfl) (by decide) (by decide) (Nat.le_of_ble_eq_true rfl) rfl ?_
                  refine a_aload_n (pc := 0) dX9_isTooLate_0 (by decide) rfl ?_
                  refine a_iload_n (pc := 1) dX9_isTooLate_1 rfl ?_
                  refine a_iload_n (pc := 2) dX9_isTooLate_2 rfl ?_
                  refine a_aload_n (pc := 3) dX9_isTooLate_3 (by decide) rfl ?_
                  refine a_getR (y := 277) (pc := 4) dX9_isTooLate_4 fl_RX9_13 (by decide) s0_275 rfl rfl ?_
                  refine a_iload_n (pc := 7) dX9_isTooLate_7 rfl ?_
                  refine a_iald (pc := 8) dX9_isTooLate_8 (by decide) s0_277 ho4.1 ho4.2 ?_
                  refine a_eq (y := M 277 l1) rfl ?_
                  refine a_iconst (pc := 9) dX9_isTooLate_9 (by decide) ?_
                  refine a_isub (pc := 10) dX9_isTooLate_10 ho8 ?_
                  refine p_inlV (Ex := _) (As := [(0, l1), (0, l2), (0, (M 277 l1) - 1)]) (st := []) (st1 := fun r => [(0, r)])  (pc := 11) dX9_isTooLate_11 ml_RX9_120 (by decide) s0_275 rfl (by decide) (Nat.le_of_ble_eq_true rfl) rfl (fun _ => rfl) (by decide) (by decide) (Nat.le_of_ble_eq_true rfl) rfl ?_
                  refine a_aload_n (pc := 0) dX9_minuteAt_0 (by decide) rfl ?_
                  refine a_getR (y := 281) (pc := 1) dX9_minuteAt_1 fl_RX9_25 (by decide) s0_275 rfl rfl ?_
                  refine a_bipush (pc := 4) dX9_minuteAt_4 (by decide) (by decide +kernel) ?_
                  refine a_iload_n (pc := 6) dX9_minuteAt_6 rfl ?_
                  have ho13 := h.1
                  replace h := h.2
                  refine a_imul (pc := 7) dX9_minuteAt_7 ho13 ?_
                  refine a_bipush (pc := 8) dX9_minuteAt_8 (by decide) (by decide +kernel) ?_
                  refine a_iload_n (pc := 10) dX9_minuteAt_10 rfl ?_
                  have ho14 := h.1
                  replace h := h.2
                  refine a_imul (pc := 11) dX9_minuteAt_11 ho14 ?_
                  have ho15 := h.1
                  replace h := h.2
                  refine a_iadd (pc := 12) dX9_minuteAt_12 ho15 ?_
                  refine a_iload_n (pc := 13) dX9_minuteAt_13 rfl ?_
                  have ho16 := h.1
                  replace h := h.2
                  refine a_iadd (pc := 14) dX9_minuteAt_14 ho16 ?_
                  have ho17 := h.1
                  replace h := h.2
                  refine a_iald (pc := 15) dX9_minuteAt_15 (by decide) s0_281 ho17.1 ho17.2 ?_
                  refine a_eq (y := M 281 (((36 * l1) + (6 * l2)) + ((M 277 l1) - 1))) rfl ?_
                  refine a_ireti (pc := 16) dX9_minuteAt_16 rfl rfl (Nat.le_of_ble_eq_true rfl) ⟨rfl, ?_⟩
                  refine a_iload_n (pc := 14) dX9_isTooLate_14 rfl ?_
                  have ho18 := h.1
                  replace h := h.2
                  refine a_iadd (pc := 15) dX9_isTooLate_15 ho18 ?_
                  refine a_sipush (pc := 16) dX9_isTooLate_16 (by decide) (by decide +kernel) ?_
                  refine a_icmp_le (tgt := 26) (pc := 19) dX9_isTooLate_19 (by decide) (fun hc19 => ?_) (fun hc19 => ?_)
                  · replace h := h.1 hc19
                    refine a_iconst (pc := 26) dX9_isTooLate_26 (by decide) ?_
                    refine a_iretz (pc := 27) dX9_isTooLate_27 rfl rfl (Nat.le_of_ble_eq_true rfl) (by decide) ⟨rfl, ?_⟩
                    refine a_if_eq (tgt := 66) (pc := 60) dX9_delay_60 (by decide) (fun _ => ?_) (fun hc => absurd (by decide) hc)
                    refine a_aload_n (pc := 66) dX9_delay_66 (by decide) rfl ?_
                    refine a_iload_n (pc := 67) dX9_delay_67 rfl ?_
                    refine a_iload_n (pc := 68) dX9_delay_68 rfl ?_
                    refine a_iload_n (pc := 69) dX9_delay_69 rfl ?_
                    refine a_iload (pc := 70) dX9_delay_70 rfl ?_
                    refine p_callV (As := [(0, l1), (0, l2), (0, l3), (0, l4)]) (st := []) (st1 := fun r => [])  (pc := 72) dX9_delay_72 ml_RX9_214 (by decide) s0_275 rfl (by decide) (Nat.le_of_ble_eq_true rfl) rfl (fun _ => rfl) h (fun r20 M21 h => ?_)
                    refine a_aload_n (pc := 75) dX9_delay_75 (by decide) rfl ?_
                    refine a_iload_n (pc := 76) dX9_delay_76 rfl ?_
                    refine a_iload_n (pc := 77) dX9_delay_77 rfl ?_
                    refine a_iload_n (pc := 78) dX9_delay_78 rfl ?_
                    refine p_inlV (Ex := _) (As := [(0, l1), (0, l2), (0, l3)]) (st := []) (st1 := fun r => [(0, r)])  (pc := 79) dX9_delay_79 ml_RX9_120 (by decide) s0_275 rfl (by decide) (Nat.le_of_ble_eq_true rfl) rfl (fun _ => rfl) (by decide) (by decide) (Nat.le_of_ble_eq_true rfl) rfl ?_
                    refine a_aload_n (pc := 0) dX9_minuteAt_0 (by decide) rfl ?_
                    refine a_getR (y := 281) (pc := 1) dX9_minuteAt_1 fl_RX9_25 (by decide) s0_275 rfl rfl ?_
                    refine a_bipush (pc := 4) dX9_minuteAt_4 (by decide) (by decide +kernel) ?_
                    refine a_iload_n (pc := 6) dX9_minuteAt_6 rfl ?_
                    refine a_imul (pc := 7) dX9_minuteAt_7 ho13 ?_
                    refine a_bipush (pc := 8) dX9_minuteAt_8 (by decide) (by decide +kernel) ?_
                    refine a_iload_n (pc := 10) dX9_minuteAt_10 rfl ?_
                    refine a_imul (pc := 11) dX9_minuteAt_11 ho14 ?_
                    refine a_iadd (pc := 12) dX9_minuteAt_12 ho15 ?_
                    refine a_iload_n (pc := 13) dX9_minuteAt_13 rfl ?_
                    have ho22 := h.1
                    replace h := h.2
                    refine a_iadd (pc := 14) dX9_minuteAt_14 ho22 ?_
                    have ho23 := h.1
                    replace h := h.2
                    refine a_iald (pc := 15) dX9_minuteAt_15 (by decide) s0_281 ho23.1 ho23.2 ?_
                    refine a_ireti (pc := 16) dX9_minuteAt_16 rfl rfl (Nat.le_of_ble_eq_true rfl) ⟨rfl, ?_⟩
                    exact a_ireti (pc := 82) dX9_delay_82 rfl rfl (Nat.le_of_ble_eq_true rfl) ⟨rfl, h⟩
                  · replace h := h.2 hc19
                    refine a_iconst (pc := 22) dX9_isTooLate_22 (by decide) ?_
                    refine a_goto (tgt := 27) (pc := 23) dX9_isTooLate_23 (by decide) ?_
                    refine a_iretz (pc := 27) dX9_isTooLate_27 rfl rfl (Nat.le_of_ble_eq_true rfl) (by decide) ⟨rfl, ?_⟩
                    refine a_if_eq (tgt := 66) (pc := 60) dX9_delay_60 (by decide) (fun hc => absurd hc (by decide)) (fun _ => ?_)
                    refine a_bipush (pc := 63) dX9_delay_63 (by decide) (by decide +kernel) ?_
                    exact a_ireti (pc := 65) dX9_delay_65 rfl rfl (Nat.le_of_ble_eq_true rfl) ⟨rfl, h⟩
theorem E_R_delay {l1 l2 l3 l4 : Int} {M : Mem} {Q : Int → Mem → Prop} (h : AW mX9_delay 0 [(2, 275), (0, l1), (0, l2), (0, l3), (0, l4)] M Q) : Calls mX9_delay [(2, 275), (0, l1), (0, l2), (0, l3), (0, l4)] S0 M Q := calls_of (by decide) (by decide) (Nat.le_of_ble_eq_true rfl) rfl h
set_option maxRecDepth 100000 in
set_option maxHeartbeats 4000000 in
theorem B_R_minute_0 {l1 l2 l3 : Int} {M : Mem} {Q : Int → Mem → Prop} (h : (-2147483648 ≤ (M 275 0) - 1 ∧ (M 275 0) - 1 ≤ 2147483647) ∧ ((l1 < 0 → Q (-1) (up2 M 275 8 0)) ∧ (¬ (l1 < 0) → ((((M 275 0) - 1) < l1 → Q (-1) (up2 M 275 8 0)) ∧ (¬ (((M 275 0) - 1) < l1) → ((0 : Int) ≤ l1 ∧ l1 < 8) ∧ (-2147483648 ≤ (M 279 l1) - 1 ∧ (M 279 l1) - 1 ≤ 2147483647) ∧ ((l2 < 0 → Q (-1) (up2 M 275 8 0)) ∧ (¬ (l2 < 0) → ((((M 279 l1) - 1) < l2 → Q (-1) (up2 M 275 8 0)) ∧ (¬ (((M 279 l1) - 1) < l2) → (-2147483648 ≤ (M 277 l1) - 1 ∧ (M 277 l1) - 1 ≤ 2147483647) ∧ ((l3 < 0 → Q (-1) (up2 M 275 8 0)) ∧ (¬ (l3 < 0) → ((((M 277 l1) - 1) < l3 → Q (-1) (up2 M 275 8 0)) ∧ (¬ (((M 277 l1) - 1) < l3) → (-2147483648 ≤ 36 * l1 ∧ 36 * l1 ≤ 2147483647) ∧ (-2147483648 ≤ 6 * l2 ∧ 6 * l2 ≤ 2147483647) ∧ (-2147483648 ≤ (36 * l1) + (6 * l2) ∧ (36 * l1) + (6 * l2) ≤ 2147483647) ∧ (-2147483648 ≤ ((36 * l1) + (6 * l2)) + l3 ∧ ((36 * l1) + (6 * l2)) + l3 ≤ 2147483647) ∧ ((0 : Int) ≤ ((36 * l1) + (6 * l2)) + l3 ∧ ((36 * l1) + (6 * l2)) + l3 < 288) ∧ Q (M 281 (((36 * l1) + (6 * l2)) + l3)) (up2 M 275 8 0)))))))))))))) : AW mX9_minute 0 [(2, 275), (0, l1), (0, l2), (0, l3)] M Q := by
  refine a_aload_n (pc := 0) dX9_minute_0 (by decide) rfl ?_
  refine a_iconst (pc := 1) dX9_minute_1 (by decide) ?_
  refine a_putI (y := 8) (pc := 2) dX9_minute_2 fl_RX9_87 (by decide) s0_275 rfl rfl (tyX9_ok 8 (by decide)) rfl ?_
  refine a_aload_n (pc := 5) dX9_minute_5 (by decide) rfl ?_
  refine a_iload_n (pc := 6) dX9_minute_6 rfl ?_
  refine a_iload_n (pc := 7) dX9_minute_7 rfl ?_
  refine p_inlV (Ex := _) (As := [(0, l1), (0, l2)]) (st := []) (st1 := fun r => [(0, r)])  (pc := 8) dX9_minute_8 ml_RX9_257 (by decide) s0_275 rfl (by decide) (Nat.le_of_ble_eq_true rfl) rfl (fun _ => rfl) (by decide) (by decide) (Nat.le_of_ble_eq_true rfl) rfl ?_
  refine a_aload_n (pc := 0) dX9_isTrip_0 (by decide) rfl ?_
  refine a_iload_n (pc := 1) dX9_isTrip_1 rfl ?_
  refine p_inlV (Ex := _) (As := [(0, l1)]) (st := []) (st1 := fun r => [(0, r)])  (pc := 2) dX9_isTrip_2 ml_RX9_101 (by decide) s0_275 rfl (by decide) (Nat.le_of_ble_eq_true rfl) rfl (fun _ => rfl) (by decide) (by decide) (Nat.le_of_ble_eq_true rfl) rfl ?_
  refine a_iload_n (pc := 0) dX9_isLine_0 rfl ?_
  refine a_i2l (pc := 1) dX9_isLine_1 ?_
  refine a_lconst (v := 0) (pc := 2) dX9_isLine_2 rfl ?_
  refine a_aload_n (pc := 3) dX9_isLine_3 (by decide) rfl ?_
  refine a_getI (y := 0) (pc := 4) dX9_isLine_4 fl_RX9_98 (by decide) s0_275 (Or.inl rfl) rfl ?_
  refine a_eq (y := M 275 0) rfl ?_
  refine a_iconst (pc := 7) dX9_isLine_7 (by decide) ?_
  have ho1 := h.1
  replace h := h.2
  refine a_isub (pc := 8) dX9_isLine_8 ho1 ?_
  refine a_i2l (pc := 9) dX9_isLine_9 ?_
  refine p_inlS (Ex := _) (As := [(1, l1), (1, 0), (1, (M 275 0) - 1)]) (st := []) (st1 := fun r => [(0, r)])  (pc := 10) dX9_isLine_10 ml_RX9_92 (by decide) (Nat.le_of_ble_eq_true rfl) rfl (fun _ => rfl) (by decide) (by decide) (Nat.le_of_ble_eq_true rfl) rfl ?_
  refine a_lload_n (pc := 0) dX9_in_0 rfl ?_
  refine a_lload_n (pc := 1) dX9_in_1 rfl ?_
  refine a_lcmp_lt (tgt := 17) (pc := 2) dX9_in_2 dX9_in_3 (by decide) (fun hc2 => ?_) (fun hc2 => ?_)
  · replace h := h.1 hc2
    refine a_iconst (pc := 17) dX9_in_17 (by decide) ?_
    refine a_iretz (pc := 18) dX9_in_18 rfl rfl (Nat.le_of_ble_eq_true rfl) (by decide) ⟨rfl, ?_⟩
    refine a_iretz (pc := 13) dX9_isLine_13 rfl rfl (Nat.le_of_ble_eq_true rfl) (by decide) ⟨rfl, ?_⟩
    refine a_if_eq (tgt := 30) (pc := 5) dX9_isTrip_5 (by decide) (fun _ => ?_) (fun hc => absurd (by decide) hc)
    refine a_iconst (pc := 30) dX9_isTrip_30 (by decide) ?_
    refine a_iretz (pc := 31) dX9_isTrip_31 rfl rfl (Nat.le_of_ble_eq_true rfl) (by decide) ⟨rfl, ?_⟩
    refine a_if_eq (tgt := 42) (pc := 11) dX9_minute_11 (by decide) (fun _ => ?_) (fun hc => absurd (by decide) hc)
    refine a_iconst (pc := 42) dX9_minute_42 (by decide) ?_
    exact a_ireti (pc := 43) dX9_minute_43 rfl rfl (Nat.le_of_ble_eq_true rfl) ⟨rfl, h⟩
  · replace h := h.2 hc2
    refine a_lload_n (pc := 6) dX9_in_6 rfl ?_
    refine a_lload (pc := 7) dX9_in_7 rfl ?_
    refine a_lcmp_gt (tgt := 17) (pc := 9) dX9_in_9 dX9_in_10 (by decide) (fun hc3 => ?_) (fun hc3 => ?_)
    · replace h := h.1 hc3
      refine a_iconst (pc := 17) dX9_in_17 (by decide) ?_
      refine a_iretz (pc := 18) dX9_in_18 rfl rfl (Nat.le_of_ble_eq_true rfl) (by decide) ⟨rfl, ?_⟩
      refine a_iretz (pc := 13) dX9_isLine_13 rfl rfl (Nat.le_of_ble_eq_true rfl) (by decide) ⟨rfl, ?_⟩
      refine a_if_eq (tgt := 30) (pc := 5) dX9_isTrip_5 (by decide) (fun _ => ?_) (fun hc => absurd (by decide) hc)
      refine a_iconst (pc := 30) dX9_isTrip_30 (by decide) ?_
      refine a_iretz (pc := 31) dX9_isTrip_31 rfl rfl (Nat.le_of_ble_eq_true rfl) (by decide) ⟨rfl, ?_⟩
      refine a_if_eq (tgt := 42) (pc := 11) dX9_minute_11 (by decide) (fun _ => ?_) (fun hc => absurd (by decide) hc)
      refine a_iconst (pc := 42) dX9_minute_42 (by decide) ?_
      exact a_ireti (pc := 43) dX9_minute_43 rfl rfl (Nat.le_of_ble_eq_true rfl) ⟨rfl, h⟩
    · replace h := h.2 hc3
      refine a_iconst (pc := 13) dX9_in_13 (by decide) ?_
      refine a_goto (tgt := 18) (pc := 14) dX9_in_14 (by decide) ?_
      refine a_iretz (pc := 18) dX9_in_18 rfl rfl (Nat.le_of_ble_eq_true rfl) (by decide) ⟨rfl, ?_⟩
      refine a_iretz (pc := 13) dX9_isLine_13 rfl rfl (Nat.le_of_ble_eq_true rfl) (by decide) ⟨rfl, ?_⟩
      refine a_if_eq (tgt := 30) (pc := 5) dX9_isTrip_5 (by decide) (fun hc => absurd hc (by decide)) (fun _ => ?_)
      refine a_iload_n (pc := 8) dX9_isTrip_8 rfl ?_
      refine a_i2l (pc := 9) dX9_isTrip_9 ?_
      refine a_lconst (v := 0) (pc := 10) dX9_isTrip_10 rfl ?_
      refine a_aload_n (pc := 11) dX9_isTrip_11 (by decide) rfl ?_
      refine a_getR (y := 279) (pc := 12) dX9_isTrip_12 fl_RX9_19 (by decide) s0_275 rfl rfl ?_
      refine a_iload_n (pc := 15) dX9_isTrip_15 rfl ?_
      have ho4 := h.1
      replace h := h.2
      refine a_iald (pc := 16) dX9_isTrip_16 (by decide) s0_279 ho4.1 ho4.2 ?_
      refine a_eq (y := M 279 l1) rfl ?_
      refine a_iconst (pc := 17) dX9_isTrip_17 (by decide) ?_
      have ho5 := h.1
      replace h := h.2
      refine a_isub (pc := 18) dX9_isTrip_18 ho5 ?_
      refine a_i2l (pc := 19) dX9_isTrip_19 ?_
      refine p_inlS (Ex := _) (As := [(1, l2), (1, 0), (1, (M 279 l1) - 1)]) (st := []) (st1 := fun r => [(0, r)])  (pc := 20) dX9_isTrip_20 ml_RX9_92 (by decide) (Nat.le_of_ble_eq_true rfl) rfl (fun _ => rfl) (by decide) (by decide) (Nat.le_of_ble_eq_true rfl) rfl ?_
      refine a_lload_n (pc := 0) dX9_in_0 rfl ?_
      refine a_lload_n (pc := 1) dX9_in_1 rfl ?_
      refine a_lcmp_lt (tgt := 17) (pc := 2) dX9_in_2 dX9_in_3 (by decide) (fun hc6 => ?_) (fun hc6 => ?_)
      · replace h := h.1 hc6
        refine a_iconst (pc := 17) dX9_in_17 (by decide) ?_
        refine a_iretz (pc := 18) dX9_in_18 rfl rfl (Nat.le_of_ble_eq_true rfl) (by decide) ⟨rfl, ?_⟩
        refine a_if_eq (tgt := 30) (pc := 23) dX9_isTrip_23 (by decide) (fun _ => ?_) (fun hc => absurd (by decide) hc)
        refine a_iconst (pc := 30) dX9_isTrip_30 (by decide) ?_
        refine a_iretz (pc := 31) dX9_isTrip_31 rfl rfl (Nat.le_of_ble_eq_true rfl) (by decide) ⟨rfl, ?_⟩
        refine a_if_eq (tgt := 42) (pc := 11) dX9_minute_11 (by decide) (fun _ => ?_) (fun hc => absurd (by decide) hc)
        refine a_iconst (pc := 42) dX9_minute_42 (by decide) ?_
        exact a_ireti (pc := 43) dX9_minute_43 rfl rfl (Nat.le_of_ble_eq_true rfl) ⟨rfl, h⟩
      · replace h := h.2 hc6
        refine a_lload_n (pc := 6) dX9_in_6 rfl ?_
        refine a_lload (pc := 7) dX9_in_7 rfl ?_
        refine a_lcmp_gt (tgt := 17) (pc := 9) dX9_in_9 dX9_in_10 (by decide) (fun hc7 => ?_) (fun hc7 => ?_)
        · replace h := h.1 hc7
          refine a_iconst (pc := 17) dX9_in_17 (by decide) ?_
          refine a_iretz (pc := 18) dX9_in_18 rfl rfl (Nat.le_of_ble_eq_true rfl) (by decide) ⟨rfl, ?_⟩
          refine a_if_eq (tgt := 30) (pc := 23) dX9_isTrip_23 (by decide) (fun _ => ?_) (fun hc => absurd (by decide) hc)
          refine a_iconst (pc := 30) dX9_isTrip_30 (by decide) ?_
          refine a_iretz (pc := 31) dX9_isTrip_31 rfl rfl (Nat.le_of_ble_eq_true rfl) (by decide) ⟨rfl, ?_⟩
          refine a_if_eq (tgt := 42) (pc := 11) dX9_minute_11 (by decide) (fun _ => ?_) (fun hc => absurd (by decide) hc)
          refine a_iconst (pc := 42) dX9_minute_42 (by decide) ?_
          exact a_ireti (pc := 43) dX9_minute_43 rfl rfl (Nat.le_of_ble_eq_true rfl) ⟨rfl, h⟩
        · replace h := h.2 hc7
          refine a_iconst (pc := 13) dX9_in_13 (by decide) ?_
          refine a_goto (tgt := 18) (pc := 14) dX9_in_14 (by decide) ?_
          refine a_iretz (pc := 18) dX9_in_18 rfl rfl (Nat.le_of_ble_eq_true rfl) (by decide) ⟨rfl, ?_⟩
          refine a_if_eq (tgt := 30) (pc := 23) dX9_isTrip_23 (by decide) (fun hc => absurd hc (by decide)) (fun _ => ?_)
          refine a_iconst (pc := 26) dX9_isTrip_26 (by decide) ?_
          refine a_goto (tgt := 31) (pc := 27) dX9_isTrip_27 (by decide) ?_
          refine a_iretz (pc := 31) dX9_isTrip_31 rfl rfl (Nat.le_of_ble_eq_true rfl) (by decide) ⟨rfl, ?_⟩
          refine a_if_eq (tgt := 42) (pc := 11) dX9_minute_11 (by decide) (fun hc => absurd hc (by decide)) (fun _ => ?_)
          refine a_iload_n (pc := 14) dX9_minute_14 rfl ?_
          refine a_i2l (pc := 15) dX9_minute_15 ?_
          refine a_lconst (v := 0) (pc := 16) dX9_minute_16 rfl ?_
          refine a_aload_n (pc := 17) dX9_minute_17 (by decide) rfl ?_
          refine a_getR (y := 277) (pc := 18) dX9_minute_18 fl_RX9_13 (by decide) s0_275 rfl rfl ?_
          refine a_iload_n (pc := 21) dX9_minute_21 rfl ?_
          refine a_iald (pc := 22) dX9_minute_22 (by decide) s0_277 ho4.1 ho4.2 ?_
          refine a_eq (y := M 277 l1) rfl ?_
          refine a_iconst (pc := 23) dX9_minute_23 (by decide) ?_
          have ho8 := h.1
          replace h := h.2
          refine a_isub (pc := 24) dX9_minute_24 ho8 ?_
          refine a_i2l (pc := 25) dX9_minute_25 ?_
          refine p_inlS (Ex := _) (As := [(1, l3), (1, 0), (1, (M 277 l1) - 1)]) (st := []) (st1 := fun r => [(0, r)])  (pc := 26) dX9_minute_26 ml_RX9_92 (by decide) (Nat.le_of_ble_eq_true rfl) rfl (fun _ => rfl) (by decide) (by decide) (Nat.le_of_ble_eq_true rfl) rfl ?_
          refine a_lload_n (pc := 0) dX9_in_0 rfl ?_
          refine a_lload_n (pc := 1) dX9_in_1 rfl ?_
          refine a_lcmp_lt (tgt := 17) (pc := 2) dX9_in_2 dX9_in_3 (by decide) (fun hc9 => ?_) (fun hc9 => ?_)
          · replace h := h.1 hc9
            refine a_iconst (pc := 17) dX9_in_17 (by decide) ?_
            refine a_iretz (pc := 18) dX9_in_18 rfl rfl (Nat.le_of_ble_eq_true rfl) (by decide) ⟨rfl, ?_⟩
            refine a_if_eq (tgt := 42) (pc := 29) dX9_minute_29 (by decide) (fun _ => ?_) (fun hc => absurd (by decide) hc)
            refine a_iconst (pc := 42) dX9_minute_42 (by decide) ?_
            exact a_ireti (pc := 43) dX9_minute_43 rfl rfl (Nat.le_of_ble_eq_true rfl) ⟨rfl, h⟩
          · replace h := h.2 hc9
            refine a_lload_n (pc := 6) dX9_in_6 rfl ?_
            refine a_lload (pc := 7) dX9_in_7 rfl ?_
            refine a_lcmp_gt (tgt := 17) (pc := 9) dX9_in_9 dX9_in_10 (by decide) (fun hc10 => ?_) (fun hc10 => ?_)
            · replace h := h.1 hc10
              refine a_iconst (pc := 17) dX9_in_17 (by decide) ?_
              refine a_iretz (pc := 18) dX9_in_18 rfl rfl (Nat.le_of_ble_eq_true rfl) (by decide) ⟨rfl, ?_⟩
              refine a_if_eq (tgt := 42) (pc := 29) dX9_minute_29 (by decide) (fun _ => ?_) (fun hc => absurd (by decide) hc)
              refine a_iconst (pc := 42) dX9_minute_42 (by decide) ?_
              exact a_ireti (pc := 43) dX9_minute_43 rfl rfl (Nat.le_of_ble_eq_true rfl) ⟨rfl, h⟩
            · replace h := h.2 hc10
              refine a_iconst (pc := 13) dX9_in_13 (by decide) ?_
              refine a_goto (tgt := 18) (pc := 14) dX9_in_14 (by decide) ?_
              refine a_iretz (pc := 18) dX9_in_18 rfl rfl (Nat.le_of_ble_eq_true rfl) (by decide) ⟨rfl, ?_⟩
              refine a_if_eq (tgt := 42) (pc := 29) dX9_minute_29 (by decide) (fun hc => absurd hc (by decide)) (fun _ => ?_)
              refine a_aload_n (pc := 32) dX9_minute_32 (by decide) rfl ?_
              refine a_iload_n (pc := 33) dX9_minute_33 rfl ?_
              refine a_iload_n (pc := 34) dX9_minute_34 rfl ?_
              refine a_iload_n (pc := 35) dX9_minute_35 rfl ?_
              refine p_inlV (Ex := _) (As := [(0, l1), (0, l2), (0, l3)]) (st := []) (st1 := fun r => [(0, r)])  (pc := 36) dX9_minute_36 ml_RX9_120 (by decide) s0_275 rfl (by decide) (Nat.le_of_ble_eq_true rfl) rfl (fun _ => rfl) (by decide) (by decide) (Nat.le_of_ble_eq_true rfl) rfl ?_
              refine a_aload_n (pc := 0) dX9_minuteAt_0 (by decide) rfl ?_
              refine a_getR (y := 281) (pc := 1) dX9_minuteAt_1 fl_RX9_25 (by decide) s0_275 rfl rfl ?_
              refine a_bipush (pc := 4) dX9_minuteAt_4 (by decide) (by decide +kernel) ?_
              refine a_iload_n (pc := 6) dX9_minuteAt_6 rfl ?_
              have ho11 := h.1
              replace h := h.2
              refine a_imul (pc := 7) dX9_minuteAt_7 ho11 ?_
              refine a_bipush (pc := 8) dX9_minuteAt_8 (by decide) (by decide +kernel) ?_
              refine a_iload_n (pc := 10) dX9_minuteAt_10 rfl ?_
              have ho12 := h.1
              replace h := h.2
              refine a_imul (pc := 11) dX9_minuteAt_11 ho12 ?_
              have ho13 := h.1
              replace h := h.2
              refine a_iadd (pc := 12) dX9_minuteAt_12 ho13 ?_
              refine a_iload_n (pc := 13) dX9_minuteAt_13 rfl ?_
              have ho14 := h.1
              replace h := h.2
              refine a_iadd (pc := 14) dX9_minuteAt_14 ho14 ?_
              have ho15 := h.1
              replace h := h.2
              refine a_iald (pc := 15) dX9_minuteAt_15 (by decide) s0_281 ho15.1 ho15.2 ?_
              refine a_eq (y := M 281 (((36 * l1) + (6 * l2)) + l3)) rfl ?_
              refine a_ireti (pc := 16) dX9_minuteAt_16 rfl rfl (Nat.le_of_ble_eq_true rfl) ⟨rfl, ?_⟩
              refine a_goto (tgt := 43) (pc := 39) dX9_minute_39 (by decide) ?_
              exact a_ireti (pc := 43) dX9_minute_43 rfl rfl (Nat.le_of_ble_eq_true rfl) ⟨rfl, h⟩
theorem E_R_minute {l1 l2 l3 : Int} {M : Mem} {Q : Int → Mem → Prop} (h : AW mX9_minute 0 [(2, 275), (0, l1), (0, l2), (0, l3)] M Q) : Calls mX9_minute [(2, 275), (0, l1), (0, l2), (0, l3)] S0 M Q := calls_of (by decide) (by decide) (Nat.le_of_ble_eq_true rfl) rfl h
set_option maxRecDepth 100000 in
set_option maxHeartbeats 4000000 in
theorem B_R_runs_0 {l1 l2 : Int} {M : Mem} {Q : Int → Mem → Prop} (h : (-2147483648 ≤ (M 275 0) - 1 ∧ (M 275 0) - 1 ≤ 2147483647) ∧ ((l1 < 0 → Q (-1) (up2 M 275 8 0)) ∧ (¬ (l1 < 0) → ((((M 275 0) - 1) < l1 → Q (-1) (up2 M 275 8 0)) ∧ (¬ (((M 275 0) - 1) < l1) → ((0 : Int) ≤ l1 ∧ l1 < 8) ∧ (-2147483648 ≤ (M 279 l1) - 1 ∧ (M 279 l1) - 1 ≤ 2147483647) ∧ ((l2 < 0 → Q (-1) (up2 M 275 8 0)) ∧ (¬ (l2 < 0) → ((((M 279 l1) - 1) < l2 → Q (-1) (up2 M 275 8 0)) ∧ (¬ (((M 279 l1) - 1) < l2) → Calls mX9_isRunning [(2, 275), (0, l1), (0, l2)] S0 (up2 M 275 8 0) (fun r8 M9 => ((r8 = 0 → Q 0 M9) ∧ (¬ r8 = 0 → Q 1 M9)))))))))))) : AW mX9_runs 0 [(2, 275), (0, l1), (0, l2)] M Q := by
  refine a_aload_n (pc := 0) dX9_runs_0 (by decide) rfl ?_
  refine a_iconst (pc := 1) dX9_runs_1 (by decide) ?_
  refine a_putI (y := 8) (pc := 2) dX9_runs_2 fl_RX9_87 (by decide) s0_275 rfl rfl (tyX9_ok 8 (by decide)) rfl ?_
  refine a_aload_n (pc := 5) dX9_runs_5 (by decide) rfl ?_
  refine a_iload_n (pc := 6) dX9_runs_6 rfl ?_
  refine a_iload_n (pc := 7) dX9_runs_7 rfl ?_
  refine p_inlV (Ex := _) (As := [(0, l1), (0, l2)]) (st := []) (st1 := fun r => [(0, r)])  (pc := 8) dX9_runs_8 ml_RX9_257 (by decide) s0_275 rfl (by decide) (Nat.le_of_ble_eq_true rfl) rfl (fun _ => rfl) (by decide) (by decide) (Nat.le_of_ble_eq_true rfl) rfl ?_
  refine a_aload_n (pc := 0) dX9_isTrip_0 (by decide) rfl ?_
  refine a_iload_n (pc := 1) dX9_isTrip_1 rfl ?_
  refine p_inlV (Ex := _) (As := [(0, l1)]) (st := []) (st1 := fun r => [(0, r)])  (pc := 2) dX9_isTrip_2 ml_RX9_101 (by decide) s0_275 rfl (by decide) (Nat.le_of_ble_eq_true rfl) rfl (fun _ => rfl) (by decide) (by decide) (Nat.le_of_ble_eq_true rfl) rfl ?_
  refine a_iload_n (pc := 0) dX9_isLine_0 rfl ?_
  refine a_i2l (pc := 1) dX9_isLine_1 ?_
  refine a_lconst (v := 0) (pc := 2) dX9_isLine_2 rfl ?_
  refine a_aload_n (pc := 3) dX9_isLine_3 (by decide) rfl ?_
  refine a_getI (y := 0) (pc := 4) dX9_isLine_4 fl_RX9_98 (by decide) s0_275 (Or.inl rfl) rfl ?_
  refine a_eq (y := M 275 0) rfl ?_
  refine a_iconst (pc := 7) dX9_isLine_7 (by decide) ?_
  have ho1 := h.1
  replace h := h.2
  refine a_isub (pc := 8) dX9_isLine_8 ho1 ?_
  refine a_i2l (pc := 9) dX9_isLine_9 ?_
  refine p_inlS (Ex := _) (As := [(1, l1), (1, 0), (1, (M 275 0) - 1)]) (st := []) (st1 := fun r => [(0, r)])  (pc := 10) dX9_isLine_10 ml_RX9_92 (by decide) (Nat.le_of_ble_eq_true rfl) rfl (fun _ => rfl) (by decide) (by decide) (Nat.le_of_ble_eq_true rfl) rfl ?_
  refine a_lload_n (pc := 0) dX9_in_0 rfl ?_
  refine a_lload_n (pc := 1) dX9_in_1 rfl ?_
  refine a_lcmp_lt (tgt := 17) (pc := 2) dX9_in_2 dX9_in_3 (by decide) (fun hc2 => ?_) (fun hc2 => ?_)
  · replace h := h.1 hc2
    refine a_iconst (pc := 17) dX9_in_17 (by decide) ?_
    refine a_iretz (pc := 18) dX9_in_18 rfl rfl (Nat.le_of_ble_eq_true rfl) (by decide) ⟨rfl, ?_⟩
    refine a_iretz (pc := 13) dX9_isLine_13 rfl rfl (Nat.le_of_ble_eq_true rfl) (by decide) ⟨rfl, ?_⟩
    refine a_if_eq (tgt := 30) (pc := 5) dX9_isTrip_5 (by decide) (fun _ => ?_) (fun hc => absurd (by decide) hc)
    refine a_iconst (pc := 30) dX9_isTrip_30 (by decide) ?_
    refine a_iretz (pc := 31) dX9_isTrip_31 rfl rfl (Nat.le_of_ble_eq_true rfl) (by decide) ⟨rfl, ?_⟩
    refine a_if_ne (tgt := 18) (pc := 11) dX9_runs_11 (by decide) (fun hc => absurd rfl hc) (fun _ => ?_)
    refine a_iconst (pc := 14) dX9_runs_14 (by decide) ?_
    refine a_goto (tgt := 32) (pc := 15) dX9_runs_15 (by decide) ?_
    exact a_ireti (pc := 32) dX9_runs_32 rfl rfl (Nat.le_of_ble_eq_true rfl) ⟨rfl, h⟩
  · replace h := h.2 hc2
    refine a_lload_n (pc := 6) dX9_in_6 rfl ?_
    refine a_lload (pc := 7) dX9_in_7 rfl ?_
    refine a_lcmp_gt (tgt := 17) (pc := 9) dX9_in_9 dX9_in_10 (by decide) (fun hc3 => ?_) (fun hc3 => ?_)
    · replace h := h.1 hc3
      refine a_iconst (pc := 17) dX9_in_17 (by decide) ?_
      refine a_iretz (pc := 18) dX9_in_18 rfl rfl (Nat.le_of_ble_eq_true rfl) (by decide) ⟨rfl, ?_⟩
      refine a_iretz (pc := 13) dX9_isLine_13 rfl rfl (Nat.le_of_ble_eq_true rfl) (by decide) ⟨rfl, ?_⟩
      refine a_if_eq (tgt := 30) (pc := 5) dX9_isTrip_5 (by decide) (fun _ => ?_) (fun hc => absurd (by decide) hc)
      refine a_iconst (pc := 30) dX9_isTrip_30 (by decide) ?_
      refine a_iretz (pc := 31) dX9_isTrip_31 rfl rfl (Nat.le_of_ble_eq_true rfl) (by decide) ⟨rfl, ?_⟩
      refine a_if_ne (tgt := 18) (pc := 11) dX9_runs_11 (by decide) (fun hc => absurd rfl hc) (fun _ => ?_)
      refine a_iconst (pc := 14) dX9_runs_14 (by decide) ?_
      refine a_goto (tgt := 32) (pc := 15) dX9_runs_15 (by decide) ?_
      exact a_ireti (pc := 32) dX9_runs_32 rfl rfl (Nat.le_of_ble_eq_true rfl) ⟨rfl, h⟩
    · replace h := h.2 hc3
      refine a_iconst (pc := 13) dX9_in_13 (by decide) ?_
      refine a_goto (tgt := 18) (pc := 14) dX9_in_14 (by decide) ?_
      refine a_iretz (pc := 18) dX9_in_18 rfl rfl (Nat.le_of_ble_eq_true rfl) (by decide) ⟨rfl, ?_⟩
      refine a_iretz (pc := 13) dX9_isLine_13 rfl rfl (Nat.le_of_ble_eq_true rfl) (by decide) ⟨rfl, ?_⟩
      refine a_if_eq (tgt := 30) (pc := 5) dX9_isTrip_5 (by decide) (fun hc => absurd hc (by decide)) (fun _ => ?_)
      refine a_iload_n (pc := 8) dX9_isTrip_8 rfl ?_
      refine a_i2l (pc := 9) dX9_isTrip_9 ?_
      refine a_lconst (v := 0) (pc := 10) dX9_isTrip_10 rfl ?_
      refine a_aload_n (pc := 11) dX9_isTrip_11 (by decide) rfl ?_
      refine a_getR (y := 279) (pc := 12) dX9_isTrip_12 fl_RX9_19 (by decide) s0_275 rfl rfl ?_
      refine a_iload_n (pc := 15) dX9_isTrip_15 rfl ?_
      have ho4 := h.1
      replace h := h.2
      refine a_iald (pc := 16) dX9_isTrip_16 (by decide) s0_279 ho4.1 ho4.2 ?_
      refine a_eq (y := M 279 l1) rfl ?_
      refine a_iconst (pc := 17) dX9_isTrip_17 (by decide) ?_
      have ho5 := h.1
      replace h := h.2
      refine a_isub (pc := 18) dX9_isTrip_18 ho5 ?_
      refine a_i2l (pc := 19) dX9_isTrip_19 ?_
      refine p_inlS (Ex := _) (As := [(1, l2), (1, 0), (1, (M 279 l1) - 1)]) (st := []) (st1 := fun r => [(0, r)])  (pc := 20) dX9_isTrip_20 ml_RX9_92 (by decide) (Nat.le_of_ble_eq_true rfl) rfl (fun _ => rfl) (by decide) (by decide) (Nat.le_of_ble_eq_true rfl) rfl ?_
      refine a_lload_n (pc := 0) dX9_in_0 rfl ?_
      refine a_lload_n (pc := 1) dX9_in_1 rfl ?_
      refine a_lcmp_lt (tgt := 17) (pc := 2) dX9_in_2 dX9_in_3 (by decide) (fun hc6 => ?_) (fun hc6 => ?_)
      · replace h := h.1 hc6
        refine a_iconst (pc := 17) dX9_in_17 (by decide) ?_
        refine a_iretz (pc := 18) dX9_in_18 rfl rfl (Nat.le_of_ble_eq_true rfl) (by decide) ⟨rfl, ?_⟩
        refine a_if_eq (tgt := 30) (pc := 23) dX9_isTrip_23 (by decide) (fun _ => ?_) (fun hc => absurd (by decide) hc)
        refine a_iconst (pc := 30) dX9_isTrip_30 (by decide) ?_
        refine a_iretz (pc := 31) dX9_isTrip_31 rfl rfl (Nat.le_of_ble_eq_true rfl) (by decide) ⟨rfl, ?_⟩
        refine a_if_ne (tgt := 18) (pc := 11) dX9_runs_11 (by decide) (fun hc => absurd rfl hc) (fun _ => ?_)
        refine a_iconst (pc := 14) dX9_runs_14 (by decide) ?_
        refine a_goto (tgt := 32) (pc := 15) dX9_runs_15 (by decide) ?_
        exact a_ireti (pc := 32) dX9_runs_32 rfl rfl (Nat.le_of_ble_eq_true rfl) ⟨rfl, h⟩
      · replace h := h.2 hc6
        refine a_lload_n (pc := 6) dX9_in_6 rfl ?_
        refine a_lload (pc := 7) dX9_in_7 rfl ?_
        refine a_lcmp_gt (tgt := 17) (pc := 9) dX9_in_9 dX9_in_10 (by decide) (fun hc7 => ?_) (fun hc7 => ?_)
        · replace h := h.1 hc7
          refine a_iconst (pc := 17) dX9_in_17 (by decide) ?_
          refine a_iretz (pc := 18) dX9_in_18 rfl rfl (Nat.le_of_ble_eq_true rfl) (by decide) ⟨rfl, ?_⟩
          refine a_if_eq (tgt := 30) (pc := 23) dX9_isTrip_23 (by decide) (fun _ => ?_) (fun hc => absurd (by decide) hc)
          refine a_iconst (pc := 30) dX9_isTrip_30 (by decide) ?_
          refine a_iretz (pc := 31) dX9_isTrip_31 rfl rfl (Nat.le_of_ble_eq_true rfl) (by decide) ⟨rfl, ?_⟩
          refine a_if_ne (tgt := 18) (pc := 11) dX9_runs_11 (by decide) (fun hc => absurd rfl hc) (fun _ => ?_)
          refine a_iconst (pc := 14) dX9_runs_14 (by decide) ?_
          refine a_goto (tgt := 32) (pc := 15) dX9_runs_15 (by decide) ?_
          exact a_ireti (pc := 32) dX9_runs_32 rfl rfl (Nat.le_of_ble_eq_true rfl) ⟨rfl, h⟩
        · replace h := h.2 hc7
          refine a_iconst (pc := 13) dX9_in_13 (by decide) ?_
          refine a_goto (tgt := 18) (pc := 14) dX9_in_14 (by decide) ?_
          refine a_iretz (pc := 18) dX9_in_18 rfl rfl (Nat.le_of_ble_eq_true rfl) (by decide) ⟨rfl, ?_⟩
          refine a_if_eq (tgt := 30) (pc := 23) dX9_isTrip_23 (by decide) (fun hc => absurd hc (by decide)) (fun _ => ?_)
          refine a_iconst (pc := 26) dX9_isTrip_26 (by decide) ?_
          refine a_goto (tgt := 31) (pc := 27) dX9_isTrip_27 (by decide) ?_
          refine a_iretz (pc := 31) dX9_isTrip_31 rfl rfl (Nat.le_of_ble_eq_true rfl) (by decide) ⟨rfl, ?_⟩
          refine a_if_ne (tgt := 18) (pc := 11) dX9_runs_11 (by decide) (fun _ => ?_) (fun hc => absurd hc (by decide))
          refine a_aload_n (pc := 18) dX9_runs_18 (by decide) rfl ?_
          refine a_iload_n (pc := 19) dX9_runs_19 rfl ?_
          refine a_iload_n (pc := 20) dX9_runs_20 rfl ?_
          refine p_callV (As := [(0, l1), (0, l2)]) (st := []) (st1 := fun r => [(0, r)])  (pc := 21) dX9_runs_21 ml_RX9_108 (by decide) s0_275 rfl (by decide) (Nat.le_of_ble_eq_true rfl) rfl (fun _ => rfl) h (fun r8 M9 h => ?_)
          refine a_if_eq (tgt := 31) (pc := 24) dX9_runs_24 (by decide) (fun hc10 => ?_) (fun hc10 => ?_)
          · replace h := h.1 hc10
            refine a_iconst (pc := 31) dX9_runs_31 (by decide) ?_
            exact a_ireti (pc := 32) dX9_runs_32 rfl rfl (Nat.le_of_ble_eq_true rfl) ⟨rfl, h⟩
          · replace h := h.2 hc10
            refine a_iconst (pc := 27) dX9_runs_27 (by decide) ?_
            refine a_goto (tgt := 32) (pc := 28) dX9_runs_28 (by decide) ?_
            exact a_ireti (pc := 32) dX9_runs_32 rfl rfl (Nat.le_of_ble_eq_true rfl) ⟨rfl, h⟩
theorem E_R_runs {l1 l2 : Int} {M : Mem} {Q : Int → Mem → Prop} (h : AW mX9_runs 0 [(2, 275), (0, l1), (0, l2)] M Q) : Calls mX9_runs [(2, 275), (0, l1), (0, l2)] S0 M Q := calls_of (by decide) (by decide) (Nat.le_of_ble_eq_true rfl) rfl h
set_option maxRecDepth 100000 in
set_option maxHeartbeats 4000000 in
theorem B_R_wrongLay_0 {l1 l2 l3 l4 : Int} {M : Mem} {Q : Int → Mem → Prop} (h : ((l1 < 0 → Q (-1) M) ∧ (¬ (l1 < 0) → ((3 < l1 → Q (-1) M) ∧ (¬ (3 < l1) → Calls mX9_wrong [(0, l2), (0, l2), (0, l3), (0, l4)] S0 M (fun r3 M4 => ((0 ≤ r3 → ((0 : Int) ≤ l1 ∧ l1 < 4) ∧ (((M4 296 l1) = 0 → Q (-11) M4) ∧ (¬ (M4 296 l1) = 0 → Q 0 M4))) ∧ (¬ (0 ≤ r3) → Q r3 M4)))))))) : AW mX9_wrongLay 0 [(2, 275), (0, l1), (0, l2), (0, l3), (0, l4), (9, 0)] M Q := by
  refine a_iload_n (pc := 0) dX9_wrongLay_0 rfl ?_
  refine p_inlS (Ex := _) (As := [(0, l1)]) (st := []) (st1 := fun r => [(0, r)])  (pc := 1) dX9_wrongLay_1 ml_RX9_343 (by decide) (Nat.le_of_ble_eq_true rfl) rfl (fun _ => rfl) (by decide) (by decide) (Nat.le_of_ble_eq_true rfl) rfl ?_
  refine a_iload_n (pc := 0) dX9_isList_0 rfl ?_
  refine a_i2l (pc := 1) dX9_isList_1 ?_
  refine a_lconst (v := 0) (pc := 2) dX9_isList_2 rfl ?_
  refine a_ldc2 (v := 3) (pc := 3) dX9_isList_3 kc_RX9_252 (by decide) ?_
  refine p_inlS (Ex := _) (As := [(1, l1), (1, 0), (1, 3)]) (st := []) (st1 := fun r => [(0, r)])  (pc := 6) dX9_isList_6 ml_RX9_92 (by decide) (Nat.le_of_ble_eq_true rfl) rfl (fun _ => rfl) (by decide) (by decide) (Nat.le_of_ble_eq_true rfl) rfl ?_
  refine a_lload_n (pc := 0) dX9_in_0 rfl ?_
  refine a_lload_n (pc := 1) dX9_in_1 rfl ?_
  refine a_lcmp_lt (tgt := 17) (pc := 2) dX9_in_2 dX9_in_3 (by decide) (fun hc1 => ?_) (fun hc1 => ?_)
  · replace h := h.1 hc1
    refine a_iconst (pc := 17) dX9_in_17 (by decide) ?_
    refine a_iretz (pc := 18) dX9_in_18 rfl rfl (Nat.le_of_ble_eq_true rfl) (by decide) ⟨rfl, ?_⟩
    refine a_iretz (pc := 9) dX9_isList_9 rfl rfl (Nat.le_of_ble_eq_true rfl) (by decide) ⟨rfl, ?_⟩
    refine a_if_ne (tgt := 11) (pc := 4) dX9_wrongLay_4 (by decide) (fun hc => absurd rfl hc) (fun _ => ?_)
    refine a_iconst (pc := 7) dX9_wrongLay_7 (by decide) ?_
    refine a_goto (tgt := 19) (pc := 8) dX9_wrongLay_8 (by decide) ?_
    refine a_istore (ls1 := [(2, 275), (0, l1), (0, l2), (0, l3), (0, l4), (0, (-1))]) (pc := 19) dX9_wrongLay_19 (by decide) (hp1 (t := 0) rfl (by decide)) rfl ?_
    refine a_iload (pc := 21) dX9_wrongLay_21 rfl ?_
    refine a_if_ge (tgt := 31) (pc := 23) dX9_wrongLay_23 (by decide) (fun hc => absurd hc (by decide)) (fun _ => ?_)
    refine a_iload (pc := 26) dX9_wrongLay_26 rfl ?_
    refine a_goto (tgt := 46) (pc := 28) dX9_wrongLay_28 (by decide) ?_
    exact a_ireti (pc := 46) dX9_wrongLay_46 rfl rfl (Nat.le_of_ble_eq_true rfl) ⟨rfl, h⟩
  · replace h := h.2 hc1
    refine a_lload_n (pc := 6) dX9_in_6 rfl ?_
    refine a_lload (pc := 7) dX9_in_7 rfl ?_
    refine a_lcmp_gt (tgt := 17) (pc := 9) dX9_in_9 dX9_in_10 (by decide) (fun hc2 => ?_) (fun hc2 => ?_)
    · replace h := h.1 hc2
      refine a_iconst (pc := 17) dX9_in_17 (by decide) ?_
      refine a_iretz (pc := 18) dX9_in_18 rfl rfl (Nat.le_of_ble_eq_true rfl) (by decide) ⟨rfl, ?_⟩
      refine a_iretz (pc := 9) dX9_isList_9 rfl rfl (Nat.le_of_ble_eq_true rfl) (by decide) ⟨rfl, ?_⟩
      refine a_if_ne (tgt := 11) (pc := 4) dX9_wrongLay_4 (by decide) (fun hc => absurd rfl hc) (fun _ => ?_)
      refine a_iconst (pc := 7) dX9_wrongLay_7 (by decide) ?_
      refine a_goto (tgt := 19) (pc := 8) dX9_wrongLay_8 (by decide) ?_
      refine a_istore (ls1 := [(2, 275), (0, l1), (0, l2), (0, l3), (0, l4), (0, (-1))]) (pc := 19) dX9_wrongLay_19 (by decide) (hp1 (t := 0) rfl (by decide)) rfl ?_
      refine a_iload (pc := 21) dX9_wrongLay_21 rfl ?_
      refine a_if_ge (tgt := 31) (pc := 23) dX9_wrongLay_23 (by decide) (fun hc => absurd hc (by decide)) (fun _ => ?_)
      refine a_iload (pc := 26) dX9_wrongLay_26 rfl ?_
      refine a_goto (tgt := 46) (pc := 28) dX9_wrongLay_28 (by decide) ?_
      exact a_ireti (pc := 46) dX9_wrongLay_46 rfl rfl (Nat.le_of_ble_eq_true rfl) ⟨rfl, h⟩
    · replace h := h.2 hc2
      refine a_iconst (pc := 13) dX9_in_13 (by decide) ?_
      refine a_goto (tgt := 18) (pc := 14) dX9_in_14 (by decide) ?_
      refine a_iretz (pc := 18) dX9_in_18 rfl rfl (Nat.le_of_ble_eq_true rfl) (by decide) ⟨rfl, ?_⟩
      refine a_iretz (pc := 9) dX9_isList_9 rfl rfl (Nat.le_of_ble_eq_true rfl) (by decide) ⟨rfl, ?_⟩
      refine a_if_ne (tgt := 11) (pc := 4) dX9_wrongLay_4 (by decide) (fun _ => ?_) (fun hc => absurd hc (by decide))
      refine a_iload_n (pc := 11) dX9_wrongLay_11 rfl ?_
      refine a_iload_n (pc := 12) dX9_wrongLay_12 rfl ?_
      refine a_iload_n (pc := 13) dX9_wrongLay_13 rfl ?_
      refine a_iload (pc := 14) dX9_wrongLay_14 rfl ?_
      refine p_callS (As := [(0, l2), (0, l2), (0, l3), (0, l4)]) (st := []) (st1 := fun r => [(0, r)])  (pc := 16) dX9_wrongLay_16 ml_RX9_278 (by decide) (Nat.le_of_ble_eq_true rfl) rfl (fun _ => rfl) h (fun r3 M4 h => ?_)
      refine a_istore (ls1 := [(2, 275), (0, l1), (0, l2), (0, l3), (0, l4), (0, r3)]) (pc := 19) dX9_wrongLay_19 (by decide) (hp1 (t := 0) rfl (by decide)) rfl ?_
      refine a_iload (pc := 21) dX9_wrongLay_21 rfl ?_
      refine a_if_ge (tgt := 31) (pc := 23) dX9_wrongLay_23 (by decide) (fun hc5 => ?_) (fun hc5 => ?_)
      · replace h := h.1 hc5
        refine a_aload_n (pc := 31) dX9_wrongLay_31 (by decide) rfl ?_
        refine a_getR (y := 296) (pc := 32) dX9_wrongLay_32 fl_RX9_77 (by decide) s0_275 rfl rfl ?_
        refine a_iload_n (pc := 35) dX9_wrongLay_35 rfl ?_
        have ho6 := h.1
        replace h := h.2
        refine a_zald (pc := 36) dX9_wrongLay_36 (by decide) s0_296 ho6.1 ho6.2 ?_
        refine a_if_eq (tgt := 44) (pc := 37) dX9_wrongLay_37 (by decide) (fun hc7 => ?_) (fun hc7 => ?_)
        · replace h := h.1 hc7
          refine a_bipush (pc := 44) dX9_wrongLay_44 (by decide) (by decide +kernel) ?_
          exact a_ireti (pc := 46) dX9_wrongLay_46 rfl rfl (Nat.le_of_ble_eq_true rfl) ⟨rfl, h⟩
        · replace h := h.2 hc7
          refine a_iconst (pc := 40) dX9_wrongLay_40 (by decide) ?_
          refine a_goto (tgt := 46) (pc := 41) dX9_wrongLay_41 (by decide) ?_
          exact a_ireti (pc := 46) dX9_wrongLay_46 rfl rfl (Nat.le_of_ble_eq_true rfl) ⟨rfl, h⟩
      · replace h := h.2 hc5
        refine a_iload (pc := 26) dX9_wrongLay_26 rfl ?_
        refine a_goto (tgt := 46) (pc := 28) dX9_wrongLay_28 (by decide) ?_
        exact a_ireti (pc := 46) dX9_wrongLay_46 rfl rfl (Nat.le_of_ble_eq_true rfl) ⟨rfl, h⟩
theorem E_R_wrongLay {l1 l2 l3 l4 : Int} {M : Mem} {Q : Int → Mem → Prop} (h : AW mX9_wrongLay 0 [(2, 275), (0, l1), (0, l2), (0, l3), (0, l4), (9, 0)] M Q) : Calls mX9_wrongLay [(2, 275), (0, l1), (0, l2), (0, l3), (0, l4)] S0 M Q := calls_of (by decide) (by decide) (Nat.le_of_ble_eq_true rfl) rfl h
set_option maxRecDepth 100000 in
set_option maxHeartbeats 4000000 in
theorem B_R_missed_0 {l1 : Int} {M : Mem} {Q : Int → Mem → Prop} (h : ((l1 < 0 → Q (-1) (up2 M 275 8 0)) ∧ (¬ (l1 < 0) → ((11 < l1 → Q (-1) (up2 M 275 8 0)) ∧ (¬ (11 < l1) → AW mX9_missed 19 [(2, 275), (0, l1), (0, 100000000), (0, 0), (9, 0), (9, 0), (9, 0), (9, 0), (9, 0)] (up2 M 275 8 0) Q))))) : AW mX9_missed 0 [(2, 275), (0, l1), (9, 0), (9, 0), (9, 0), (9, 0), (9, 0), (9, 0), (9, 0)] M Q := by
  refine a_aload_n (pc := 0) dX9_missed_0 (by decide) rfl ?_
  refine a_iconst (pc := 1) dX9_missed_1 (by decide) ?_
  refine a_putI (y := 8) (pc := 2) dX9_missed_2 fl_RX9_87 (by decide) s0_275 rfl rfl (tyX9_ok 8 (by decide)) rfl ?_
  refine a_iload_n (pc := 5) dX9_missed_5 rfl ?_
  refine p_inlS (Ex := _) (As := [(0, l1)]) (st := []) (st1 := fun r => [(0, r)])  (pc := 6) dX9_missed_6 ml_RX9_260 (by decide) (Nat.le_of_ble_eq_true rfl) rfl (fun _ => rfl) (by decide) (by decide) (Nat.le_of_ble_eq_true rfl) rfl ?_
  refine a_iload_n (pc := 0) dX9_isStop_0 rfl ?_
  refine a_i2l (pc := 1) dX9_isStop_1 ?_
  refine a_lconst (v := 0) (pc := 2) dX9_isStop_2 rfl ?_
  refine a_ldc2 (v := 11) (pc := 3) dX9_isStop_3 kc_RX9_90 (by decide) ?_
  refine p_inlS (Ex := _) (As := [(1, l1), (1, 0), (1, 11)]) (st := []) (st1 := fun r => [(0, r)])  (pc := 6) dX9_isStop_6 ml_RX9_92 (by decide) (Nat.le_of_ble_eq_true rfl) rfl (fun _ => rfl) (by decide) (by decide) (Nat.le_of_ble_eq_true rfl) rfl ?_
  refine a_lload_n (pc := 0) dX9_in_0 rfl ?_
  refine a_lload_n (pc := 1) dX9_in_1 rfl ?_
  refine a_lcmp_lt (tgt := 17) (pc := 2) dX9_in_2 dX9_in_3 (by decide) (fun hc1 => ?_) (fun hc1 => ?_)
  · replace h := h.1 hc1
    refine a_iconst (pc := 17) dX9_in_17 (by decide) ?_
    refine a_iretz (pc := 18) dX9_in_18 rfl rfl (Nat.le_of_ble_eq_true rfl) (by decide) ⟨rfl, ?_⟩
    refine a_iretz (pc := 9) dX9_isStop_9 rfl rfl (Nat.le_of_ble_eq_true rfl) (by decide) ⟨rfl, ?_⟩
    refine a_if_ne (tgt := 14) (pc := 9) dX9_missed_9 (by decide) (fun hc => absurd rfl hc) (fun _ => ?_)
    refine a_iconst (pc := 12) dX9_missed_12 (by decide) ?_
    exact a_ireti (pc := 13) dX9_missed_13 rfl rfl (Nat.le_of_ble_eq_true rfl) ⟨rfl, h⟩
  · replace h := h.2 hc1
    refine a_lload_n (pc := 6) dX9_in_6 rfl ?_
    refine a_lload (pc := 7) dX9_in_7 rfl ?_
    refine a_lcmp_gt (tgt := 17) (pc := 9) dX9_in_9 dX9_in_10 (by decide) (fun hc2 => ?_) (fun hc2 => ?_)
    · replace h := h.1 hc2
      refine a_iconst (pc := 17) dX9_in_17 (by decide) ?_
      refine a_iretz (pc := 18) dX9_in_18 rfl rfl (Nat.le_of_ble_eq_true rfl) (by decide) ⟨rfl, ?_⟩
      refine a_iretz (pc := 9) dX9_isStop_9 rfl rfl (Nat.le_of_ble_eq_true rfl) (by decide) ⟨rfl, ?_⟩
      refine a_if_ne (tgt := 14) (pc := 9) dX9_missed_9 (by decide) (fun hc => absurd rfl hc) (fun _ => ?_)
      refine a_iconst (pc := 12) dX9_missed_12 (by decide) ?_
      exact a_ireti (pc := 13) dX9_missed_13 rfl rfl (Nat.le_of_ble_eq_true rfl) ⟨rfl, h⟩
    · replace h := h.2 hc2
      refine a_iconst (pc := 13) dX9_in_13 (by decide) ?_
      refine a_goto (tgt := 18) (pc := 14) dX9_in_14 (by decide) ?_
      refine a_iretz (pc := 18) dX9_in_18 rfl rfl (Nat.le_of_ble_eq_true rfl) (by decide) ⟨rfl, ?_⟩
      refine a_iretz (pc := 9) dX9_isStop_9 rfl rfl (Nat.le_of_ble_eq_true rfl) (by decide) ⟨rfl, ?_⟩
      refine a_if_ne (tgt := 14) (pc := 9) dX9_missed_9 (by decide) (fun _ => ?_) (fun hc => absurd hc (by decide))
      refine a_ldc (v := 100000000) (pc := 14) dX9_missed_14 kc_RX9_112 (by decide) ?_
      refine a_istore_n (ls1 := [(2, 275), (0, l1), (0, 100000000), (9, 0), (9, 0), (9, 0), (9, 0), (9, 0), (9, 0)]) (pc := 16) dX9_missed_16 (by decide) (hp1 (t := 0) rfl (by decide)) rfl ?_
      refine a_iconst (pc := 17) dX9_missed_17 (by decide) ?_
      refine a_istore_n (ls1 := [(2, 275), (0, l1), (0, 100000000), (0, 0), (9, 0), (9, 0), (9, 0), (9, 0), (9, 0)]) (pc := 18) dX9_missed_18 (by decide) (hp1 (t := 0) rfl (by decide)) rfl ?_
      exact h
set_option maxRecDepth 100000 in
set_option maxHeartbeats 4000000 in
theorem B_R_missed_19 {l1 l2 l3 : Int} {M : Mem} {Q : Int → Mem → Prop} (h : ((48 ≤ l3 → ((¬ l2 = 100000000 → Q l2 M) ∧ (l2 = 100000000 → Q (-5) M))) ∧ (¬ (48 ≤ l3) → AW mX9_missed 28 [(2, 275), (0, l1), (0, l2), (0, l3), (0, 0), (9, 0), (9, 0), (9, 0), (9, 0)] M Q))) : AW mX9_missed 19 [(2, 275), (0, l1), (0, l2), (0, l3), (9, 0), (9, 0), (9, 0), (9, 0), (9, 0)] M Q := by
  refine a_iload_n (pc := 19) dX9_missed_19 rfl ?_
  refine a_bipush (pc := 20) dX9_missed_20 (by decide) (by decide +kernel) ?_
  refine a_icmp_ge (tgt := 196) (pc := 22) dX9_missed_22 (by decide) (fun hc1 => ?_) (fun hc1 => ?_)
  · replace h := h.1 hc1
    refine a_iload_n (pc := 196) dX9_missed_196 rfl ?_
    refine a_ldc (v := 100000000) (pc := 197) dX9_missed_197 kc_RX9_112 (by decide) ?_
    refine a_icmp_ne (tgt := 207) (pc := 199) dX9_missed_199 (by decide) (fun hc2 => ?_) (fun hc2 => ?_)
    · replace h := h.1 hc2
      refine a_iload_n (pc := 207) dX9_missed_207 rfl ?_
      exact a_ireti (pc := 208) dX9_missed_208 rfl rfl (Nat.le_of_ble_eq_true rfl) ⟨rfl, h⟩
    · replace h := h.2 hc2
      refine a_bipush (pc := 202) dX9_missed_202 (by decide) (by decide +kernel) ?_
      refine a_goto (tgt := 208) (pc := 204) dX9_missed_204 (by decide) ?_
      exact a_ireti (pc := 208) dX9_missed_208 rfl rfl (Nat.le_of_ble_eq_true rfl) ⟨rfl, h⟩
  · replace h := h.2 hc1
    refine a_iconst (pc := 25) dX9_missed_25 (by decide) ?_
    refine a_istore (ls1 := [(2, 275), (0, l1), (0, l2), (0, l3), (0, 0), (9, 0), (9, 0), (9, 0), (9, 0)]) (pc := 26) dX9_missed_26 (by decide) (hp1 (t := 0) rfl (by decide)) rfl ?_
    exact h
set_option maxRecDepth 100000 in
set_option maxHeartbeats 4000000 in
theorem B_R_missed_28 {l1 l2 l3 l4 : Int} {M : Mem} {Q : Int → Mem → Prop} (h : ((48 ≤ l4 → (-2147483648 ≤ l3 + 1 ∧ l3 + 1 ≤ 2147483647) ∧ AW mX9_missed 19 [(2, 275), (0, l1), (0, l2), (0, l3 + 1), (9, 0), (9, 0), (9, 0), (9, 0), (9, 0)] M Q) ∧ (¬ (48 ≤ l4) → ((0 : Int) ≤ l3) ∧ ((0 : Int) ≤ l4) ∧ (((l3 / 6) = (l4 / 6) → (-2147483648 ≤ l4 + 1 ∧ l4 + 1 ≤ 2147483647) ∧ AW mX9_missed 28 [(2, 275), (0, l1), (0, l2), (0, l3), (0, l4 + 1), (9, 0), (9, 0), (9, 0), (9, 0)] M Q) ∧ (¬ (l3 / 6) = (l4 / 6) → (-2147483648 ≤ (M 275 0) - 1 ∧ (M 275 0) - 1 ≤ 2147483647) ∧ (((l3 / 6) < 0 → (-2147483648 ≤ l4 + 1 ∧ l4 + 1 ≤ 2147483647) ∧ AW mX9_missed 28 [(2, 275), (0, l1), (0, l2), (0, l3), (0, l4 + 1), (9, 0), (9, 0), (9, 0), (9, 0)] M Q) ∧ (¬ ((l3 / 6) < 0) → ((((M 275 0) - 1) < (l3 / 6) → (-2147483648 ≤ l4 + 1 ∧ l4 + 1 ≤ 2147483647) ∧ AW mX9_missed 28 [(2, 275), (0, l1), (0, l2), (0, l3), (0, l4 + 1), (9, 0), (9, 0), (9, 0), (9, 0)] M Q) ∧ (¬ (((M 275 0) - 1) < (l3 / 6)) → ((0 : Int) ≤ l3 / 6 ∧ l3 / 6 < 8) ∧ (-2147483648 ≤ (M 279 (l3 / 6)) - 1 ∧ (M 279 (l3 / 6)) - 1 ≤ 2147483647) ∧ (((l3 % 6) < 0 → (-2147483648 ≤ l4 + 1 ∧ l4 + 1 ≤ 2147483647) ∧ AW mX9_missed 28 [(2, 275), (0, l1), (0, l2), (0, l3), (0, l4 + 1), (9, 0), (9, 0), (9, 0), (9, 0)] M Q) ∧ (¬ ((l3 % 6) < 0) → ((((M 279 (l3 / 6)) - 1) < (l3 % 6) → (-2147483648 ≤ l4 + 1 ∧ l4 + 1 ≤ 2147483647) ∧ AW mX9_missed 28 [(2, 275), (0, l1), (0, l2), (0, l3), (0, l4 + 1), (9, 0), (9, 0), (9, 0), (9, 0)] M Q) ∧ (¬ (((M 279 (l3 / 6)) - 1) < (l3 % 6)) → (((l4 / 6) < 0 → (-2147483648 ≤ l4 + 1 ∧ l4 + 1 ≤ 2147483647) ∧ AW mX9_missed 28 [(2, 275), (0, l1), (0, l2), (0, l3), (0, l4 + 1), (9, 0), (9, 0), (9, 0), (9, 0)] M Q) ∧ (¬ ((l4 / 6) < 0) → ((((M 275 0) - 1) < (l4 / 6) → (-2147483648 ≤ l4 + 1 ∧ l4 + 1 ≤ 2147483647) ∧ AW mX9_missed 28 [(2, 275), (0, l1), (0, l2), (0, l3), (0, l4 + 1), (9, 0), (9, 0), (9, 0), (9, 0)] M Q) ∧ (¬ (((M 275 0) - 1) < (l4 / 6)) → ((0 : Int) ≤ l4 / 6 ∧ l4 / 6 < 8) ∧ (-2147483648 ≤ (M 279 (l4 / 6)) - 1 ∧ (M 279 (l4 / 6)) - 1 ≤ 2147483647) ∧ (((l4 % 6) < 0 → (-2147483648 ≤ l4 + 1 ∧ l4 + 1 ≤ 2147483647) ∧ AW mX9_missed 28 [(2, 275), (0, l1), (0, l2), (0, l3), (0, l4 + 1), (9, 0), (9, 0), (9, 0), (9, 0)] M Q) ∧ (¬ ((l4 % 6) < 0) → ((((M 279 (l4 / 6)) - 1) < (l4 % 6) → (-2147483648 ≤ l4 + 1 ∧ l4 + 1 ≤ 2147483647) ∧ AW mX9_missed 28 [(2, 275), (0, l1), (0, l2), (0, l3), (0, l4 + 1), (9, 0), (9, 0), (9, 0), (9, 0)] M Q) ∧ (¬ (((M 279 (l4 / 6)) - 1) < (l4 % 6)) → Calls mX9_arrivalAt [(2, 275), (0, l3 / 6), (0, l3 % 6), (0, l1)] S0 M (fun r28 M29 => Calls mX9_departureAt [(2, 275), (0, l4 / 6), (0, l4 % 6), (0, l1)] S0 M29 (fun r30 M31 => ((r28 < 0 → (-2147483648 ≤ l4 + 1 ∧ l4 + 1 ≤ 2147483647) ∧ AW mX9_missed 28 [(2, 275), (0, l1), (0, l2), (0, l3), (0, l4 + 1), (9, 0), (9, 0), (9, 0), (9, 0)] M31 Q) ∧ (¬ (r28 < 0) → ((r30 < 0 → (-2147483648 ≤ l4 + 1 ∧ l4 + 1 ≤ 2147483647) ∧ AW mX9_missed 28 [(2, 275), (0, l1), (0, l2), (0, l3), (0, l4 + 1), (9, 0), (9, 0), (9, 0), (9, 0)] M31 Q) ∧ (¬ (r30 < 0) → ((r28 ≤ r30 → (-2147483648 ≤ l4 + 1 ∧ l4 + 1 ≤ 2147483647) ∧ AW mX9_missed 28 [(2, 275), (0, l1), (0, l2), (0, l3), (0, l4 + 1), (9, 0), (9, 0), (9, 0), (9, 0)] M31 Q) ∧ (¬ (r28 ≤ r30) → (-2147483648 ≤ r28 - r30 ∧ r28 - r30 ≤ 2147483647) ∧ ((l2 ≤ (r28 - r30) → (-2147483648 ≤ l4 + 1 ∧ l4 + 1 ≤ 2147483647) ∧ AW mX9_missed 28 [(2, 275), (0, l1), (0, l2), (0, l3), (0, l4 + 1), (9, 0), (9, 0), (9, 0), (9, 0)] M31 Q) ∧ (¬ (l2 ≤ (r28 - r30)) → (-2147483648 ≤ l4 + 1 ∧ l4 + 1 ≤ 2147483647) ∧ AW mX9_missed 28 [(2, 275), (0, l1), (0, r28 - r30), (0, l3), (0, l4 + 1), (9, 0), (9, 0), (9, 0), (9, 0)] M31 Q))))))))))))))))))))))))))))))) : AW mX9_missed 28 [(2, 275), (0, l1), (0, l2), (0, l3), (0, l4), (9, 0), (9, 0), (9, 0), (9, 0)] M Q := by
  refine a_iload (pc := 28) dX9_missed_28 rfl ?_
  refine a_bipush (pc := 30) dX9_missed_30 (by decide) (by decide +kernel) ?_
  refine a_icmp_ge (tgt := 190) (pc := 32) dX9_missed_32 (by decide) (fun hc1 => ?_) (fun hc1 => ?_)
  · replace h := h.1 hc1
    have ho2 := h.1
    replace h := h.2
    refine a_iinc (ls1 := [(2, 275), (0, l1), (0, l2), (0, l3 + 1), (0, l4), (9, 0), (9, 0), (9, 0), (9, 0)]) (pc := 190) dX9_missed_190 rfl (by decide) (hp1 (t := 0) rfl (by decide)) ho2 rfl ?_
    refine a_goto (tgt := 19) (pc := 193) dX9_missed_193 (by decide) ?_
    exact a_msk [true, true, true, true, false, true, true, true, true] rfl h
  · replace h := h.2 hc1
    refine a_iload_n (pc := 35) dX9_missed_35 rfl ?_
    refine a_bipush (pc := 36) dX9_missed_36 (by decide) (by decide +kernel) ?_
    have ho3 := h.1
    replace h := h.2
    refine a_idiv (pc := 38) dX9_missed_38 ho3 (by decide) ?_
    refine a_iload (pc := 39) dX9_missed_39 rfl ?_
    refine a_bipush (pc := 41) dX9_missed_41 (by decide) (by decide +kernel) ?_
    have ho4 := h.1
    replace h := h.2
    refine a_idiv (pc := 43) dX9_missed_43 ho4 (by decide) ?_
    refine a_icmp_eq (tgt := 83) (pc := 44) dX9_missed_44 (by decide) (fun hc5 => ?_) (fun hc5 => ?_)
    · replace h := h.1 hc5
      refine a_iconst (pc := 83) dX9_missed_83 (by decide) ?_
      refine a_istore (ls1 := [(2, 275), (0, l1), (0, l2), (0, l3), (0, l4), (0, 0), (9, 0), (9, 0), (9, 0)]) (pc := 84) dX9_missed_84 (by decide) (hp1 (t := 0) rfl (by decide)) rfl ?_
      refine a_iload (pc := 86) dX9_missed_86 rfl ?_
      refine a_if_eq (tgt := 107) (pc := 88) dX9_missed_88 (by decide) (fun _ => ?_) (fun hc => absurd (by decide) hc)
      refine a_iconst (pc := 107) dX9_missed_107 (by decide) ?_
      refine a_istore (ls1 := [(2, 275), (0, l1), (0, l2), (0, l3), (0, l4), (0, 0), (0, (-1)), (9, 0), (9, 0)]) (pc := 108) dX9_missed_108 (by decide) (hp1 (t := 0) rfl (by decide)) rfl ?_
      refine a_iload (pc := 110) dX9_missed_110 rfl ?_
      refine a_if_eq (tgt := 133) (pc := 112) dX9_missed_112 (by decide) (fun _ => ?_) (fun hc => absurd (by decide) hc)
      refine a_iconst (pc := 133) dX9_missed_133 (by decide) ?_
      refine a_istore (ls1 := [(2, 275), (0, l1), (0, l2), (0, l3), (0, l4), (0, 0), (0, (-1)), (0, (-1)), (9, 0)]) (pc := 134) dX9_missed_134 (by decide) (hp1 (t := 0) rfl (by decide)) rfl ?_
      refine a_iload (pc := 136) dX9_missed_136 rfl ?_
      refine a_if_lt (tgt := 157) (pc := 138) dX9_missed_138 (by decide) (fun _ => ?_) (fun hc => absurd (by decide) hc)
      refine a_iconst (pc := 157) dX9_missed_157 (by decide) ?_
      refine a_istore (ls1 := [(2, 275), (0, l1), (0, l2), (0, l3), (0, l4), (0, 0), (0, (-1)), (0, (-1)), (0, 0)]) (pc := 158) dX9_missed_158 (by decide) (hp1 (t := 0) rfl (by decide)) rfl ?_
      refine a_iload (pc := 160) dX9_missed_160 rfl ?_
      refine a_if_eq (tgt := 182) (pc := 162) dX9_missed_162 (by decide) (fun _ => ?_) (fun hc => absurd (by decide) hc)
      refine a_iload_n (pc := 182) dX9_missed_182 rfl ?_
      refine a_istore_n (ls1 := [(2, 275), (0, l1), (0, l2), (0, l3), (0, l4), (0, 0), (0, (-1)), (0, (-1)), (0, 0)]) (pc := 183) dX9_missed_183 (by decide) (hp1 (t := 0) rfl (by decide)) rfl ?_
      have ho6 := h.1
      replace h := h.2
      refine a_iinc (ls1 := [(2, 275), (0, l1), (0, l2), (0, l3), (0, l4 + 1), (0, 0), (0, (-1)), (0, (-1)), (0, 0)]) (pc := 184) dX9_missed_184 rfl (by decide) (hp1 (t := 0) rfl (by decide)) ho6 rfl ?_
      refine a_goto (tgt := 28) (pc := 187) dX9_missed_187 (by decide) ?_
      exact a_msk [true, true, true, true, true, false, false, false, false] rfl h
    · replace h := h.2 hc5
      refine a_aload_n (pc := 47) dX9_missed_47 (by decide) rfl ?_
      refine a_iload_n (pc := 48) dX9_missed_48 rfl ?_
      refine a_bipush (pc := 49) dX9_missed_49 (by decide) (by decide +kernel) ?_
      refine a_idiv (pc := 51) dX9_missed_51 ho3 (by decide) ?_
      refine a_iload_n (pc := 52) dX9_missed_52 rfl ?_
      refine a_bipush (pc := 53) dX9_missed_53 (by decide) (by decide +kernel) ?_
      refine a_irem (pc := 55) dX9_missed_55 ho3 (by decide) ?_
      refine p_inlV (Ex := _) (As := [(0, l3 / 6), (0, l3 % 6)]) (st := []) (st1 := fun r => [(0, r)])  (pc := 56) dX9_missed_56 ml_RX9_257 (by decide) s0_275 rfl (by decide) (Nat.le_of_ble_eq_true rfl) rfl (fun _ => rfl) (by decide) (by decide) (Nat.le_of_ble_eq_true rfl) rfl ?_
      refine a_aload_n (pc := 0) dX9_isTrip_0 (by decide) rfl ?_
      refine a_iload_n (pc := 1) dX9_isTrip_1 rfl ?_
      refine p_inlV (Ex := _) (As := [(0, l3 / 6)]) (st := []) (st1 := fun r => [(0, r)])  (pc := 2) dX9_isTrip_2 ml_RX9_101 (by decide) s0_275 rfl (by decide) (Nat.le_of_ble_eq_true rfl) rfl (fun _ => rfl) (by decide) (by decide) (Nat.le_of_ble_eq_true rfl) rfl ?_
      refine a_iload_n (pc := 0) dX9_isLine_0 rfl ?_
      refine a_i2l (pc := 1) dX9_isLine_1 ?_
      refine a_lconst (v := 0) (pc := 2) dX9_isLine_2 rfl ?_
      refine a_aload_n (pc := 3) dX9_isLine_3 (by decide) rfl ?_
      refine a_getI (y := 0) (pc := 4) dX9_isLine_4 fl_RX9_98 (by decide) s0_275 (Or.inl rfl) rfl ?_
      refine a_iconst (pc := 7) dX9_isLine_7 (by decide) ?_
      have ho7 := h.1
      replace h := h.2
      refine a_isub (pc := 8) dX9_isLine_8 ho7 ?_
      refine a_i2l (pc := 9) dX9_isLine_9 ?_
      refine p_inlS (Ex := _) (As := [(1, l3 / 6), (1, 0), (1, (M 275 0) - 1)]) (st := []) (st1 := fun r => [(0, r)])  (pc := 10) dX9_isLine_10 ml_RX9_92 (by decide) (Nat.le_of_ble_eq_true rfl) rfl (fun _ => rfl) (by decide) (by decide) (Nat.le_of_ble_eq_true rfl) rfl ?_
      refine a_lload_n (pc := 0) dX9_in_0 rfl ?_
      refine a_lload_n (pc := 1) dX9_in_1 rfl ?_
      refine a_lcmp_lt (tgt := 17) (pc := 2) dX9_in_2 dX9_in_3 (by decide) (fun hc8 => ?_) (fun hc8 => ?_)
      · replace h := h.1 hc8
        refine a_iconst (pc := 17) dX9_in_17 (by decide) ?_
        refine a_iretz (pc := 18) dX9_in_18 rfl rfl (Nat.le_of_ble_eq_true rfl) (by decide) ⟨rfl, ?_⟩
        refine a_iretz (pc := 13) dX9_isLine_13 rfl rfl (Nat.le_of_ble_eq_true rfl) (by decide) ⟨rfl, ?_⟩
        refine a_if_eq (tgt := 30) (pc := 5) dX9_isTrip_5 (by decide) (fun _ => ?_) (fun hc => absurd (by decide) hc)
        refine a_iconst (pc := 30) dX9_isTrip_30 (by decide) ?_
        refine a_iretz (pc := 31) dX9_isTrip_31 rfl rfl (Nat.le_of_ble_eq_true rfl) (by decide) ⟨rfl, ?_⟩
        refine a_if_eq (tgt := 83) (pc := 59) dX9_missed_59 (by decide) (fun _ => ?_) (fun hc => absurd (by decide) hc)
        refine a_iconst (pc := 83) dX9_missed_83 (by decide) ?_
        refine a_istore (ls1 := [(2, 275), (0, l1), (0, l2), (0, l3), (0, l4), (0, 0), (9, 0), (9, 0), (9, 0)]) (pc := 84) dX9_missed_84 (by decide) (hp1 (t := 0) rfl (by decide)) rfl ?_
        refine a_iload (pc := 86) dX9_missed_86 rfl ?_
        refine a_if_eq (tgt := 107) (pc := 88) dX9_missed_88 (by decide) (fun _ => ?_) (fun hc => absurd (by decide) hc)
        refine a_iconst (pc := 107) dX9_missed_107 (by decide) ?_
        refine a_istore (ls1 := [(2, 275), (0, l1), (0, l2), (0, l3), (0, l4), (0, 0), (0, (-1)), (9, 0), (9, 0)]) (pc := 108) dX9_missed_108 (by decide) (hp1 (t := 0) rfl (by decide)) rfl ?_
        refine a_iload (pc := 110) dX9_missed_110 rfl ?_
        refine a_if_eq (tgt := 133) (pc := 112) dX9_missed_112 (by decide) (fun _ => ?_) (fun hc => absurd (by decide) hc)
        refine a_iconst (pc := 133) dX9_missed_133 (by decide) ?_
        refine a_istore (ls1 := [(2, 275), (0, l1), (0, l2), (0, l3), (0, l4), (0, 0), (0, (-1)), (0, (-1)), (9, 0)]) (pc := 134) dX9_missed_134 (by decide) (hp1 (t := 0) rfl (by decide)) rfl ?_
        refine a_iload (pc := 136) dX9_missed_136 rfl ?_
        refine a_if_lt (tgt := 157) (pc := 138) dX9_missed_138 (by decide) (fun _ => ?_) (fun hc => absurd (by decide) hc)
        refine a_iconst (pc := 157) dX9_missed_157 (by decide) ?_
        refine a_istore (ls1 := [(2, 275), (0, l1), (0, l2), (0, l3), (0, l4), (0, 0), (0, (-1)), (0, (-1)), (0, 0)]) (pc := 158) dX9_missed_158 (by decide) (hp1 (t := 0) rfl (by decide)) rfl ?_
        refine a_iload (pc := 160) dX9_missed_160 rfl ?_
        refine a_if_eq (tgt := 182) (pc := 162) dX9_missed_162 (by decide) (fun _ => ?_) (fun hc => absurd (by decide) hc)
        refine a_iload_n (pc := 182) dX9_missed_182 rfl ?_
        refine a_istore_n (ls1 := [(2, 275), (0, l1), (0, l2), (0, l3), (0, l4), (0, 0), (0, (-1)), (0, (-1)), (0, 0)]) (pc := 183) dX9_missed_183 (by decide) (hp1 (t := 0) rfl (by decide)) rfl ?_
        have ho9 := h.1
        replace h := h.2
        refine a_iinc (ls1 := [(2, 275), (0, l1), (0, l2), (0, l3), (0, l4 + 1), (0, 0), (0, (-1)), (0, (-1)), (0, 0)]) (pc := 184) dX9_missed_184 rfl (by decide) (hp1 (t := 0) rfl (by decide)) ho9 rfl ?_
        refine a_goto (tgt := 28) (pc := 187) dX9_missed_187 (by decide) ?_
        exact a_msk [true, true, true, true, true, false, false, false, false] rfl h
      · replace h := h.2 hc8
        refine a_lload_n (pc := 6) dX9_in_6 rfl ?_
        refine a_lload (pc := 7) dX9_in_7 rfl ?_
        refine a_lcmp_gt (tgt := 17) (pc := 9) dX9_in_9 dX9_in_10 (by decide) (fun hc10 => ?_) (fun hc10 => ?_)
        · replace h := h.1 hc10
          refine a_iconst (pc := 17) dX9_in_17 (by decide) ?_
          refine a_iretz (pc := 18) dX9_in_18 rfl rfl (Nat.le_of_ble_eq_true rfl) (by decide) ⟨rfl, ?_⟩
          refine a_iretz (pc := 13) dX9_isLine_13 rfl rfl (Nat.le_of_ble_eq_true rfl) (by decide) ⟨rfl, ?_⟩
          refine a_if_eq (tgt := 30) (pc := 5) dX9_isTrip_5 (by decide) (fun _ => ?_) (fun hc => absurd (by decide) hc)
          refine a_iconst (pc := 30) dX9_isTrip_30 (by decide) ?_
          refine a_iretz (pc := 31) dX9_isTrip_31 rfl rfl (Nat.le_of_ble_eq_true rfl) (by decide) ⟨rfl, ?_⟩
          refine a_if_eq (tgt := 83) (pc := 59) dX9_missed_59 (by decide) (fun _ => ?_) (fun hc => absurd (by decide) hc)
          refine a_iconst (pc := 83) dX9_missed_83 (by decide) ?_
          refine a_istore (ls1 := [(2, 275), (0, l1), (0, l2), (0, l3), (0, l4), (0, 0), (9, 0), (9, 0), (9, 0)]) (pc := 84) dX9_missed_84 (by decide) (hp1 (t := 0) rfl (by decide)) rfl ?_
          refine a_iload (pc := 86) dX9_missed_86 rfl ?_
          refine a_if_eq (tgt := 107) (pc := 88) dX9_missed_88 (by decide) (fun _ => ?_) (fun hc => absurd (by decide) hc)
          refine a_iconst (pc := 107) dX9_missed_107 (by decide) ?_
          refine a_istore (ls1 := [(2, 275), (0, l1), (0, l2), (0, l3), (0, l4), (0, 0), (0, (-1)), (9, 0), (9, 0)]) (pc := 108) dX9_missed_108 (by decide) (hp1 (t := 0) rfl (by decide)) rfl ?_
          refine a_iload (pc := 110) dX9_missed_110 rfl ?_
          refine a_if_eq (tgt := 133) (pc := 112) dX9_missed_112 (by decide) (fun _ => ?_) (fun hc => absurd (by decide) hc)
          refine a_iconst (pc := 133) dX9_missed_133 (by decide) ?_
          refine a_istore (ls1 := [(2, 275), (0, l1), (0, l2), (0, l3), (0, l4), (0, 0), (0, (-1)), (0, (-1)), (9, 0)]) (pc := 134) dX9_missed_134 (by decide) (hp1 (t := 0) rfl (by decide)) rfl ?_
          refine a_iload (pc := 136) dX9_missed_136 rfl ?_
          refine a_if_lt (tgt := 157) (pc := 138) dX9_missed_138 (by decide) (fun _ => ?_) (fun hc => absurd (by decide) hc)
          refine a_iconst (pc := 157) dX9_missed_157 (by decide) ?_
          refine a_istore (ls1 := [(2, 275), (0, l1), (0, l2), (0, l3), (0, l4), (0, 0), (0, (-1)), (0, (-1)), (0, 0)]) (pc := 158) dX9_missed_158 (by decide) (hp1 (t := 0) rfl (by decide)) rfl ?_
          refine a_iload (pc := 160) dX9_missed_160 rfl ?_
          refine a_if_eq (tgt := 182) (pc := 162) dX9_missed_162 (by decide) (fun _ => ?_) (fun hc => absurd (by decide) hc)
          refine a_iload_n (pc := 182) dX9_missed_182 rfl ?_
          refine a_istore_n (ls1 := [(2, 275), (0, l1), (0, l2), (0, l3), (0, l4), (0, 0), (0, (-1)), (0, (-1)), (0, 0)]) (pc := 183) dX9_missed_183 (by decide) (hp1 (t := 0) rfl (by decide)) rfl ?_
          have ho11 := h.1
          replace h := h.2
          refine a_iinc (ls1 := [(2, 275), (0, l1), (0, l2), (0, l3), (0, l4 + 1), (0, 0), (0, (-1)), (0, (-1)), (0, 0)]) (pc := 184) dX9_missed_184 rfl (by decide) (hp1 (t := 0) rfl (by decide)) ho11 rfl ?_
          refine a_goto (tgt := 28) (pc := 187) dX9_missed_187 (by decide) ?_
          exact a_msk [true, true, true, true, true, false, false, false, false] rfl h
        · replace h := h.2 hc10
          refine a_iconst (pc := 13) dX9_in_13 (by decide) ?_
          refine a_goto (tgt := 18) (pc := 14) dX9_in_14 (by decide) ?_
          refine a_iretz (pc := 18) dX9_in_18 rfl rfl (Nat.le_of_ble_eq_true rfl) (by decide) ⟨rfl, ?_⟩
          refine a_iretz (pc := 13) dX9_isLine_13 rfl rfl (Nat.le_of_ble_eq_true rfl) (by decide) ⟨rfl, ?_⟩
          refine a_if_eq (tgt := 30) (pc := 5) dX9_isTrip_5 (by decide) (fun hc => absurd hc (by decide)) (fun _ => ?_)
          refine a_iload_n (pc := 8) dX9_isTrip_8 rfl ?_
          refine a_i2l (pc := 9) dX9_isTrip_9 ?_
          refine a_lconst (v := 0) (pc := 10) dX9_isTrip_10 rfl ?_
          refine a_aload_n (pc := 11) dX9_isTrip_11 (by decide) rfl ?_
          refine a_getR (y := 279) (pc := 12) dX9_isTrip_12 fl_RX9_19 (by decide) s0_275 rfl rfl ?_
          refine a_iload_n (pc := 15) dX9_isTrip_15 rfl ?_
          have ho12 := h.1
          replace h := h.2
          refine a_iald (pc := 16) dX9_isTrip_16 (by decide) s0_279 ho12.1 ho12.2 ?_
          refine a_iconst (pc := 17) dX9_isTrip_17 (by decide) ?_
          have ho13 := h.1
          replace h := h.2
          refine a_isub (pc := 18) dX9_isTrip_18 ho13 ?_
          refine a_i2l (pc := 19) dX9_isTrip_19 ?_
          refine p_inlS (Ex := _) (As := [(1, l3 % 6), (1, 0), (1, (M 279 (l3 / 6)) - 1)]) (st := []) (st1 := fun r => [(0, r)])  (pc := 20) dX9_isTrip_20 ml_RX9_92 (by decide) (Nat.le_of_ble_eq_true rfl) rfl (fun _ => rfl) (by decide) (by decide) (Nat.le_of_ble_eq_true rfl) rfl ?_
          refine a_lload_n (pc := 0) dX9_in_0 rfl ?_
          refine a_lload_n (pc := 1) dX9_in_1 rfl ?_
          refine a_lcmp_lt (tgt := 17) (pc := 2) dX9_in_2 dX9_in_3 (by decide) (fun hc14 => ?_) (fun hc14 => ?_)
          · replace h := h.1 hc14
            refine a_iconst (pc := 17) dX9_in_17 (by decide) ?_
            refine a_iretz (pc := 18) dX9_in_18 rfl rfl (Nat.le_of_ble_eq_true rfl) (by decide) ⟨rfl, ?_⟩
            refine a_if_eq (tgt := 30) (pc := 23) dX9_isTrip_23 (by decide) (fun _ => ?_) (fun hc => absurd (by decide) hc)
            refine a_iconst (pc := 30) dX9_isTrip_30 (by decide) ?_
            refine a_iretz (pc := 31) dX9_isTrip_31 rfl rfl (Nat.le_of_ble_eq_true rfl) (by decide) ⟨rfl, ?_⟩
            refine a_if_eq (tgt := 83) (pc := 59) dX9_missed_59 (by decide) (fun _ => ?_) (fun hc => absurd (by decide) hc)
            refine a_iconst (pc := 83) dX9_missed_83 (by decide) ?_
            refine a_istore (ls1 := [(2, 275), (0, l1), (0, l2), (0, l3), (0, l4), (0, 0), (9, 0), (9, 0), (9, 0)]) (pc := 84) dX9_missed_84 (by decide) (hp1 (t := 0) rfl (by decide)) rfl ?_
            refine a_iload (pc := 86) dX9_missed_86 rfl ?_
            refine a_if_eq (tgt := 107) (pc := 88) dX9_missed_88 (by decide) (fun _ => ?_) (fun hc => absurd (by decide) hc)
            refine a_iconst (pc := 107) dX9_missed_107 (by decide) ?_
            refine a_istore (ls1 := [(2, 275), (0, l1), (0, l2), (0, l3), (0, l4), (0, 0), (0, (-1)), (9, 0), (9, 0)]) (pc := 108) dX9_missed_108 (by decide) (hp1 (t := 0) rfl (by decide)) rfl ?_
            refine a_iload (pc := 110) dX9_missed_110 rfl ?_
            refine a_if_eq (tgt := 133) (pc := 112) dX9_missed_112 (by decide) (fun _ => ?_) (fun hc => absurd (by decide) hc)
            refine a_iconst (pc := 133) dX9_missed_133 (by decide) ?_
            refine a_istore (ls1 := [(2, 275), (0, l1), (0, l2), (0, l3), (0, l4), (0, 0), (0, (-1)), (0, (-1)), (9, 0)]) (pc := 134) dX9_missed_134 (by decide) (hp1 (t := 0) rfl (by decide)) rfl ?_
            refine a_iload (pc := 136) dX9_missed_136 rfl ?_
            refine a_if_lt (tgt := 157) (pc := 138) dX9_missed_138 (by decide) (fun _ => ?_) (fun hc => absurd (by decide) hc)
            refine a_iconst (pc := 157) dX9_missed_157 (by decide) ?_
            refine a_istore (ls1 := [(2, 275), (0, l1), (0, l2), (0, l3), (0, l4), (0, 0), (0, (-1)), (0, (-1)), (0, 0)]) (pc := 158) dX9_missed_158 (by decide) (hp1 (t := 0) rfl (by decide)) rfl ?_
            refine a_iload (pc := 160) dX9_missed_160 rfl ?_
            refine a_if_eq (tgt := 182) (pc := 162) dX9_missed_162 (by decide) (fun _ => ?_) (fun hc => absurd (by decide) hc)
            refine a_iload_n (pc := 182) dX9_missed_182 rfl ?_
            refine a_istore_n (ls1 := [(2, 275), (0, l1), (0, l2), (0, l3), (0, l4), (0, 0), (0, (-1)), (0, (-1)), (0, 0)]) (pc := 183) dX9_missed_183 (by decide) (hp1 (t := 0) rfl (by decide)) rfl ?_
            have ho15 := h.1
            replace h := h.2
            refine a_iinc (ls1 := [(2, 275), (0, l1), (0, l2), (0, l3), (0, l4 + 1), (0, 0), (0, (-1)), (0, (-1)), (0, 0)]) (pc := 184) dX9_missed_184 rfl (by decide) (hp1 (t := 0) rfl (by decide)) ho15 rfl ?_
            refine a_goto (tgt := 28) (pc := 187) dX9_missed_187 (by decide) ?_
            exact a_msk [true, true, true, true, true, false, false, false, false] rfl h
          · replace h := h.2 hc14
            refine a_lload_n (pc := 6) dX9_in_6 rfl ?_
            refine a_lload (pc := 7) dX9_in_7 rfl ?_
            refine a_lcmp_gt (tgt := 17) (pc := 9) dX9_in_9 dX9_in_10 (by decide) (fun hc16 => ?_) (fun hc16 => ?_)
            · replace h := h.1 hc16
              refine a_iconst (pc := 17) dX9_in_17 (by decide) ?_
              refine a_iretz (pc := 18) dX9_in_18 rfl rfl (Nat.le_of_ble_eq_true rfl) (by decide) ⟨rfl, ?_⟩
              refine a_if_eq (tgt := 30) (pc := 23) dX9_isTrip_23 (by decide) (fun _ => ?_) (fun hc => absurd (by decide) hc)
              refine a_iconst (pc := 30) dX9_isTrip_30 (by decide) ?_
              refine a_iretz (pc := 31) dX9_isTrip_31 rfl rfl (Nat.le_of_ble_eq_true rfl) (by decide) ⟨rfl, ?_⟩
              refine a_if_eq (tgt := 83) (pc := 59) dX9_missed_59 (by decide) (fun _ => ?_) (fun hc => absurd (by decide) hc)
              refine a_iconst (pc := 83) dX9_missed_83 (by decide) ?_
              refine a_istore (ls1 := [(2, 275), (0, l1), (0, l2), (0, l3), (0, l4), (0, 0), (9, 0), (9, 0), (9, 0)]) (pc := 84) dX9_missed_84 (by decide) (hp1 (t := 0) rfl (by decide)) rfl ?_
              refine a_iload (pc := 86) dX9_missed_86 rfl ?_
              refine a_if_eq (tgt := 107) (pc := 88) dX9_missed_88 (by decide) (fun _ => ?_) (fun hc => absurd (by decide) hc)
              refine a_iconst (pc := 107) dX9_missed_107 (by decide) ?_
              refine a_istore (ls1 := [(2, 275), (0, l1), (0, l2), (0, l3), (0, l4), (0, 0), (0, (-1)), (9, 0), (9, 0)]) (pc := 108) dX9_missed_108 (by decide) (hp1 (t := 0) rfl (by decide)) rfl ?_
              refine a_iload (pc := 110) dX9_missed_110 rfl ?_
              refine a_if_eq (tgt := 133) (pc := 112) dX9_missed_112 (by decide) (fun _ => ?_) (fun hc => absurd (by decide) hc)
              refine a_iconst (pc := 133) dX9_missed_133 (by decide) ?_
              refine a_istore (ls1 := [(2, 275), (0, l1), (0, l2), (0, l3), (0, l4), (0, 0), (0, (-1)), (0, (-1)), (9, 0)]) (pc := 134) dX9_missed_134 (by decide) (hp1 (t := 0) rfl (by decide)) rfl ?_
              refine a_iload (pc := 136) dX9_missed_136 rfl ?_
              refine a_if_lt (tgt := 157) (pc := 138) dX9_missed_138 (by decide) (fun _ => ?_) (fun hc => absurd (by decide) hc)
              refine a_iconst (pc := 157) dX9_missed_157 (by decide) ?_
              refine a_istore (ls1 := [(2, 275), (0, l1), (0, l2), (0, l3), (0, l4), (0, 0), (0, (-1)), (0, (-1)), (0, 0)]) (pc := 158) dX9_missed_158 (by decide) (hp1 (t := 0) rfl (by decide)) rfl ?_
              refine a_iload (pc := 160) dX9_missed_160 rfl ?_
              refine a_if_eq (tgt := 182) (pc := 162) dX9_missed_162 (by decide) (fun _ => ?_) (fun hc => absurd (by decide) hc)
              refine a_iload_n (pc := 182) dX9_missed_182 rfl ?_
              refine a_istore_n (ls1 := [(2, 275), (0, l1), (0, l2), (0, l3), (0, l4), (0, 0), (0, (-1)), (0, (-1)), (0, 0)]) (pc := 183) dX9_missed_183 (by decide) (hp1 (t := 0) rfl (by decide)) rfl ?_
              have ho17 := h.1
              replace h := h.2
              refine a_iinc (ls1 := [(2, 275), (0, l1), (0, l2), (0, l3), (0, l4 + 1), (0, 0), (0, (-1)), (0, (-1)), (0, 0)]) (pc := 184) dX9_missed_184 rfl (by decide) (hp1 (t := 0) rfl (by decide)) ho17 rfl ?_
              refine a_goto (tgt := 28) (pc := 187) dX9_missed_187 (by decide) ?_
              exact a_msk [true, true, true, true, true, false, false, false, false] rfl h
            · replace h := h.2 hc16
              refine a_iconst (pc := 13) dX9_in_13 (by decide) ?_
              refine a_goto (tgt := 18) (pc := 14) dX9_in_14 (by decide) ?_
              refine a_iretz (pc := 18) dX9_in_18 rfl rfl (Nat.le_of_ble_eq_true rfl) (by decide) ⟨rfl, ?_⟩
              refine a_if_eq (tgt := 30) (pc := 23) dX9_isTrip_23 (by decide) (fun hc => absurd hc (by decide)) (fun _ => ?_)
              refine a_iconst (pc := 26) dX9_isTrip_26 (by decide) ?_
              refine a_goto (tgt := 31) (pc := 27) dX9_isTrip_27 (by decide) ?_
              refine a_iretz (pc := 31) dX9_isTrip_31 rfl rfl (Nat.le_of_ble_eq_true rfl) (by decide) ⟨rfl, ?_⟩
              refine a_if_eq (tgt := 83) (pc := 59) dX9_missed_59 (by decide) (fun hc => absurd hc (by decide)) (fun _ => ?_)
              refine a_aload_n (pc := 62) dX9_missed_62 (by decide) rfl ?_
              refine a_iload (pc := 63) dX9_missed_63 rfl ?_
              refine a_bipush (pc := 65) dX9_missed_65 (by decide) (by decide +kernel) ?_
              refine a_idiv (pc := 67) dX9_missed_67 ho4 (by decide) ?_
              refine a_iload (pc := 68) dX9_missed_68 rfl ?_
              refine a_bipush (pc := 70) dX9_missed_70 (by decide) (by decide +kernel) ?_
              refine a_irem (pc := 72) dX9_missed_72 ho4 (by decide) ?_
              refine p_inlV (Ex := _) (As := [(0, l4 / 6), (0, l4 % 6)]) (st := []) (st1 := fun r => [(0, r)])  (pc := 73) dX9_missed_73 ml_RX9_257 (by decide) s0_275 rfl (by decide) (Nat.le_of_ble_eq_true rfl) rfl (fun _ => rfl) (by decide) (by decide) (Nat.le_of_ble_eq_true rfl) rfl ?_
              refine a_aload_n (pc := 0) dX9_isTrip_0 (by decide) rfl ?_
              refine a_iload_n (pc := 1) dX9_isTrip_1 rfl ?_
              refine p_inlV (Ex := _) (As := [(0, l4 / 6)]) (st := []) (st1 := fun r => [(0, r)])  (pc := 2) dX9_isTrip_2 ml_RX9_101 (by decide) s0_275 rfl (by decide) (Nat.le_of_ble_eq_true rfl) rfl (fun _ => rfl) (by decide) (by decide) (Nat.le_of_ble_eq_true rfl) rfl ?_
              refine a_iload_n (pc := 0) dX9_isLine_0 rfl ?_
              refine a_i2l (pc := 1) dX9_isLine_1 ?_
              refine a_lconst (v := 0) (pc := 2) dX9_isLine_2 rfl ?_
              refine a_aload_n (pc := 3) dX9_isLine_3 (by decide) rfl ?_
              refine a_getI (y := 0) (pc := 4) dX9_isLine_4 fl_RX9_98 (by decide) s0_275 (Or.inl rfl) rfl ?_
              refine a_iconst (pc := 7) dX9_isLine_7 (by decide) ?_
              refine a_isub (pc := 8) dX9_isLine_8 ho7 ?_
              refine a_i2l (pc := 9) dX9_isLine_9 ?_
              refine p_inlS (Ex := _) (As := [(1, l4 / 6), (1, 0), (1, (M 275 0) - 1)]) (st := []) (st1 := fun r => [(0, r)])  (pc := 10) dX9_isLine_10 ml_RX9_92 (by decide) (Nat.le_of_ble_eq_true rfl) rfl (fun _ => rfl) (by decide) (by decide) (Nat.le_of_ble_eq_true rfl) rfl ?_
              refine a_lload_n (pc := 0) dX9_in_0 rfl ?_
              refine a_lload_n (pc := 1) dX9_in_1 rfl ?_
              refine a_lcmp_lt (tgt := 17) (pc := 2) dX9_in_2 dX9_in_3 (by decide) (fun hc18 => ?_) (fun hc18 => ?_)
              · replace h := h.1 hc18
                refine a_iconst (pc := 17) dX9_in_17 (by decide) ?_
                refine a_iretz (pc := 18) dX9_in_18 rfl rfl (Nat.le_of_ble_eq_true rfl) (by decide) ⟨rfl, ?_⟩
                refine a_iretz (pc := 13) dX9_isLine_13 rfl rfl (Nat.le_of_ble_eq_true rfl) (by decide) ⟨rfl, ?_⟩
                refine a_if_eq (tgt := 30) (pc := 5) dX9_isTrip_5 (by decide) (fun _ => ?_) (fun hc => absurd (by decide) hc)
                refine a_iconst (pc := 30) dX9_isTrip_30 (by decide) ?_
                refine a_iretz (pc := 31) dX9_isTrip_31 rfl rfl (Nat.le_of_ble_eq_true rfl) (by decide) ⟨rfl, ?_⟩
                refine a_if_eq (tgt := 83) (pc := 76) dX9_missed_76 (by decide) (fun _ => ?_) (fun hc => absurd (by decide) hc)
                refine a_iconst (pc := 83) dX9_missed_83 (by decide) ?_
                refine a_istore (ls1 := [(2, 275), (0, l1), (0, l2), (0, l3), (0, l4), (0, 0), (9, 0), (9, 0), (9, 0)]) (pc := 84) dX9_missed_84 (by decide) (hp1 (t := 0) rfl (by decide)) rfl ?_
                refine a_iload (pc := 86) dX9_missed_86 rfl ?_
                refine a_if_eq (tgt := 107) (pc := 88) dX9_missed_88 (by decide) (fun _ => ?_) (fun hc => absurd (by decide) hc)
                refine a_iconst (pc := 107) dX9_missed_107 (by decide) ?_
                refine a_istore (ls1 := [(2, 275), (0, l1), (0, l2), (0, l3), (0, l4), (0, 0), (0, (-1)), (9, 0), (9, 0)]) (pc := 108) dX9_missed_108 (by decide) (hp1 (t := 0) rfl (by decide)) rfl ?_
                refine a_iload (pc := 110) dX9_missed_110 rfl ?_
                refine a_if_eq (tgt := 133) (pc := 112) dX9_missed_112 (by decide) (fun _ => ?_) (fun hc => absurd (by decide) hc)
                refine a_iconst (pc := 133) dX9_missed_133 (by decide) ?_
                refine a_istore (ls1 := [(2, 275), (0, l1), (0, l2), (0, l3), (0, l4), (0, 0), (0, (-1)), (0, (-1)), (9, 0)]) (pc := 134) dX9_missed_134 (by decide) (hp1 (t := 0) rfl (by decide)) rfl ?_
                refine a_iload (pc := 136) dX9_missed_136 rfl ?_
                refine a_if_lt (tgt := 157) (pc := 138) dX9_missed_138 (by decide) (fun _ => ?_) (fun hc => absurd (by decide) hc)
                refine a_iconst (pc := 157) dX9_missed_157 (by decide) ?_
                refine a_istore (ls1 := [(2, 275), (0, l1), (0, l2), (0, l3), (0, l4), (0, 0), (0, (-1)), (0, (-1)), (0, 0)]) (pc := 158) dX9_missed_158 (by decide) (hp1 (t := 0) rfl (by decide)) rfl ?_
                refine a_iload (pc := 160) dX9_missed_160 rfl ?_
                refine a_if_eq (tgt := 182) (pc := 162) dX9_missed_162 (by decide) (fun _ => ?_) (fun hc => absurd (by decide) hc)
                refine a_iload_n (pc := 182) dX9_missed_182 rfl ?_
                refine a_istore_n (ls1 := [(2, 275), (0, l1), (0, l2), (0, l3), (0, l4), (0, 0), (0, (-1)), (0, (-1)), (0, 0)]) (pc := 183) dX9_missed_183 (by decide) (hp1 (t := 0) rfl (by decide)) rfl ?_
                have ho19 := h.1
                replace h := h.2
                refine a_iinc (ls1 := [(2, 275), (0, l1), (0, l2), (0, l3), (0, l4 + 1), (0, 0), (0, (-1)), (0, (-1)), (0, 0)]) (pc := 184) dX9_missed_184 rfl (by decide) (hp1 (t := 0) rfl (by decide)) ho19 rfl ?_
                refine a_goto (tgt := 28) (pc := 187) dX9_missed_187 (by decide) ?_
                exact a_msk [true, true, true, true, true, false, false, false, false] rfl h
              · replace h := h.2 hc18
                refine a_lload_n (pc := 6) dX9_in_6 rfl ?_
                refine a_lload (pc := 7) dX9_in_7 rfl ?_
                refine a_lcmp_gt (tgt := 17) (pc := 9) dX9_in_9 dX9_in_10 (by decide) (fun hc20 => ?_) (fun hc20 => ?_)
                · replace h := h.1 hc20
                  refine a_iconst (pc := 17) dX9_in_17 (by decide) ?_
                  refine a_iretz (pc := 18) dX9_in_18 rfl rfl (Nat.le_of_ble_eq_true rfl) (by decide) ⟨rfl, ?_⟩
                  refine a_iretz (pc := 13) dX9_isLine_13 rfl rfl (Nat.le_of_ble_eq_true rfl) (by decide) ⟨rfl, ?_⟩
                  refine a_if_eq (tgt := 30) (pc := 5) dX9_isTrip_5 (by decide) (fun _ => ?_) (fun hc => absurd (by decide) hc)
                  refine a_iconst (pc := 30) dX9_isTrip_30 (by decide) ?_
                  refine a_iretz (pc := 31) dX9_isTrip_31 rfl rfl (Nat.le_of_ble_eq_true rfl) (by decide) ⟨rfl, ?_⟩
                  refine a_if_eq (tgt := 83) (pc := 76) dX9_missed_76 (by decide) (fun _ => ?_) (fun hc => absurd (by decide) hc)
                  refine a_iconst (pc := 83) dX9_missed_83 (by decide) ?_
                  refine a_istore (ls1 := [(2, 275), (0, l1), (0, l2), (0, l3), (0, l4), (0, 0), (9, 0), (9, 0), (9, 0)]) (pc := 84) dX9_missed_84 (by decide) (hp1 (t := 0) rfl (by decide)) rfl ?_
                  refine a_iload (pc := 86) dX9_missed_86 rfl ?_
                  refine a_if_eq (tgt := 107) (pc := 88) dX9_missed_88 (by decide) (fun _ => ?_) (fun hc => absurd (by decide) hc)
                  refine a_iconst (pc := 107) dX9_missed_107 (by decide) ?_
                  refine a_istore (ls1 := [(2, 275), (0, l1), (0, l2), (0, l3), (0, l4), (0, 0), (0, (-1)), (9, 0), (9, 0)]) (pc := 108) dX9_missed_108 (by decide) (hp1 (t := 0) rfl (by decide)) rfl ?_
                  refine a_iload (pc := 110) dX9_missed_110 rfl ?_
                  refine a_if_eq (tgt := 133) (pc := 112) dX9_missed_112 (by decide) (fun _ => ?_) (fun hc => absurd (by decide) hc)
                  refine a_iconst (pc := 133) dX9_missed_133 (by decide) ?_
                  refine a_istore (ls1 := [(2, 275), (0, l1), (0, l2), (0, l3), (0, l4), (0, 0), (0, (-1)), (0, (-1)), (9, 0)]) (pc := 134) dX9_missed_134 (by decide) (hp1 (t := 0) rfl (by decide)) rfl ?_
                  refine a_iload (pc := 136) dX9_missed_136 rfl ?_
                  refine a_if_lt (tgt := 157) (pc := 138) dX9_missed_138 (by decide) (fun _ => ?_) (fun hc => absurd (by decide) hc)
                  refine a_iconst (pc := 157) dX9_missed_157 (by decide) ?_
                  refine a_istore (ls1 := [(2, 275), (0, l1), (0, l2), (0, l3), (0, l4), (0, 0), (0, (-1)), (0, (-1)), (0, 0)]) (pc := 158) dX9_missed_158 (by decide) (hp1 (t := 0) rfl (by decide)) rfl ?_
                  refine a_iload (pc := 160) dX9_missed_160 rfl ?_
                  refine a_if_eq (tgt := 182) (pc := 162) dX9_missed_162 (by decide) (fun _ => ?_) (fun hc => absurd (by decide) hc)
                  refine a_iload_n (pc := 182) dX9_missed_182 rfl ?_
                  refine a_istore_n (ls1 := [(2, 275), (0, l1), (0, l2), (0, l3), (0, l4), (0, 0), (0, (-1)), (0, (-1)), (0, 0)]) (pc := 183) dX9_missed_183 (by decide) (hp1 (t := 0) rfl (by decide)) rfl ?_
                  have ho21 := h.1
                  replace h := h.2
                  refine a_iinc (ls1 := [(2, 275), (0, l1), (0, l2), (0, l3), (0, l4 + 1), (0, 0), (0, (-1)), (0, (-1)), (0, 0)]) (pc := 184) dX9_missed_184 rfl (by decide) (hp1 (t := 0) rfl (by decide)) ho21 rfl ?_
                  refine a_goto (tgt := 28) (pc := 187) dX9_missed_187 (by decide) ?_
                  exact a_msk [true, true, true, true, true, false, false, false, false] rfl h
                · replace h := h.2 hc20
                  refine a_iconst (pc := 13) dX9_in_13 (by decide) ?_
                  refine a_goto (tgt := 18) (pc := 14) dX9_in_14 (by decide) ?_
                  refine a_iretz (pc := 18) dX9_in_18 rfl rfl (Nat.le_of_ble_eq_true rfl) (by decide) ⟨rfl, ?_⟩
                  refine a_iretz (pc := 13) dX9_isLine_13 rfl rfl (Nat.le_of_ble_eq_true rfl) (by decide) ⟨rfl, ?_⟩
                  refine a_if_eq (tgt := 30) (pc := 5) dX9_isTrip_5 (by decide) (fun hc => absurd hc (by decide)) (fun _ => ?_)
                  refine a_iload_n (pc := 8) dX9_isTrip_8 rfl ?_
                  refine a_i2l (pc := 9) dX9_isTrip_9 ?_
                  refine a_lconst (v := 0) (pc := 10) dX9_isTrip_10 rfl ?_
                  refine a_aload_n (pc := 11) dX9_isTrip_11 (by decide) rfl ?_
                  refine a_getR (y := 279) (pc := 12) dX9_isTrip_12 fl_RX9_19 (by decide) s0_275 rfl rfl ?_
                  refine a_iload_n (pc := 15) dX9_isTrip_15 rfl ?_
                  have ho22 := h.1
                  replace h := h.2
                  refine a_iald (pc := 16) dX9_isTrip_16 (by decide) s0_279 ho22.1 ho22.2 ?_
                  refine a_iconst (pc := 17) dX9_isTrip_17 (by decide) ?_
                  have ho23 := h.1
                  replace h := h.2
                  refine a_isub (pc := 18) dX9_isTrip_18 ho23 ?_
                  refine a_i2l (pc := 19) dX9_isTrip_19 ?_
                  refine p_inlS (Ex := _) (As := [(1, l4 % 6), (1, 0), (1, (M 279 (l4 / 6)) - 1)]) (st := []) (st1 := fun r => [(0, r)])  (pc := 20) dX9_isTrip_20 ml_RX9_92 (by decide) (Nat.le_of_ble_eq_true rfl) rfl (fun _ => rfl) (by decide) (by decide) (Nat.le_of_ble_eq_true rfl) rfl ?_
                  refine a_lload_n (pc := 0) dX9_in_0 rfl ?_
                  refine a_lload_n (pc := 1) dX9_in_1 rfl ?_
                  refine a_lcmp_lt (tgt := 17) (pc := 2) dX9_in_2 dX9_in_3 (by decide) (fun hc24 => ?_) (fun hc24 => ?_)
                  · replace h := h.1 hc24
                    refine a_iconst (pc := 17) dX9_in_17 (by decide) ?_
                    refine a_iretz (pc := 18) dX9_in_18 rfl rfl (Nat.le_of_ble_eq_true rfl) (by decide) ⟨rfl, ?_⟩
                    refine a_if_eq (tgt := 30) (pc := 23) dX9_isTrip_23 (by decide) (fun _ => ?_) (fun hc => absurd (by decide) hc)
                    refine a_iconst (pc := 30) dX9_isTrip_30 (by decide) ?_
                    refine a_iretz (pc := 31) dX9_isTrip_31 rfl rfl (Nat.le_of_ble_eq_true rfl) (by decide) ⟨rfl, ?_⟩
                    refine a_if_eq (tgt := 83) (pc := 76) dX9_missed_76 (by decide) (fun _ => ?_) (fun hc => absurd (by decide) hc)
                    refine a_iconst (pc := 83) dX9_missed_83 (by decide) ?_
                    refine a_istore (ls1 := [(2, 275), (0, l1), (0, l2), (0, l3), (0, l4), (0, 0), (9, 0), (9, 0), (9, 0)]) (pc := 84) dX9_missed_84 (by decide) (hp1 (t := 0) rfl (by decide)) rfl ?_
                    refine a_iload (pc := 86) dX9_missed_86 rfl ?_
                    refine a_if_eq (tgt := 107) (pc := 88) dX9_missed_88 (by decide) (fun _ => ?_) (fun hc => absurd (by decide) hc)
                    refine a_iconst (pc := 107) dX9_missed_107 (by decide) ?_
                    refine a_istore (ls1 := [(2, 275), (0, l1), (0, l2), (0, l3), (0, l4), (0, 0), (0, (-1)), (9, 0), (9, 0)]) (pc := 108) dX9_missed_108 (by decide) (hp1 (t := 0) rfl (by decide)) rfl ?_
                    refine a_iload (pc := 110) dX9_missed_110 rfl ?_
                    refine a_if_eq (tgt := 133) (pc := 112) dX9_missed_112 (by decide) (fun _ => ?_) (fun hc => absurd (by decide) hc)
                    refine a_iconst (pc := 133) dX9_missed_133 (by decide) ?_
                    refine a_istore (ls1 := [(2, 275), (0, l1), (0, l2), (0, l3), (0, l4), (0, 0), (0, (-1)), (0, (-1)), (9, 0)]) (pc := 134) dX9_missed_134 (by decide) (hp1 (t := 0) rfl (by decide)) rfl ?_
                    refine a_iload (pc := 136) dX9_missed_136 rfl ?_
                    refine a_if_lt (tgt := 157) (pc := 138) dX9_missed_138 (by decide) (fun _ => ?_) (fun hc => absurd (by decide) hc)
                    refine a_iconst (pc := 157) dX9_missed_157 (by decide) ?_
                    refine a_istore (ls1 := [(2, 275), (0, l1), (0, l2), (0, l3), (0, l4), (0, 0), (0, (-1)), (0, (-1)), (0, 0)]) (pc := 158) dX9_missed_158 (by decide) (hp1 (t := 0) rfl (by decide)) rfl ?_
                    refine a_iload (pc := 160) dX9_missed_160 rfl ?_
                    refine a_if_eq (tgt := 182) (pc := 162) dX9_missed_162 (by decide) (fun _ => ?_) (fun hc => absurd (by decide) hc)
                    refine a_iload_n (pc := 182) dX9_missed_182 rfl ?_
                    refine a_istore_n (ls1 := [(2, 275), (0, l1), (0, l2), (0, l3), (0, l4), (0, 0), (0, (-1)), (0, (-1)), (0, 0)]) (pc := 183) dX9_missed_183 (by decide) (hp1 (t := 0) rfl (by decide)) rfl ?_
                    have ho25 := h.1
                    replace h := h.2
                    refine a_iinc (ls1 := [(2, 275), (0, l1), (0, l2), (0, l3), (0, l4 + 1), (0, 0), (0, (-1)), (0, (-1)), (0, 0)]) (pc := 184) dX9_missed_184 rfl (by decide) (hp1 (t := 0) rfl (by decide)) ho25 rfl ?_
                    refine a_goto (tgt := 28) (pc := 187) dX9_missed_187 (by decide) ?_
                    exact a_msk [true, true, true, true, true, false, false, false, false] rfl h
                  · replace h := h.2 hc24
                    refine a_lload_n (pc := 6) dX9_in_6 rfl ?_
                    refine a_lload (pc := 7) dX9_in_7 rfl ?_
                    refine a_lcmp_gt (tgt := 17) (pc := 9) dX9_in_9 dX9_in_10 (by decide) (fun hc26 => ?_) (fun hc26 => ?_)
                    · replace h := h.1 hc26
                      refine a_iconst (pc := 17) dX9_in_17 (by decide) ?_
                      refine a_iretz (pc := 18) dX9_in_18 rfl rfl (Nat.le_of_ble_eq_true rfl) (by decide) ⟨rfl, ?_⟩
                      refine a_if_eq (tgt := 30) (pc := 23) dX9_isTrip_23 (by decide) (fun _ => ?_) (fun hc => absurd (by decide) hc)
                      refine a_iconst (pc := 30) dX9_isTrip_30 (by decide) ?_
                      refine a_iretz (pc := 31) dX9_isTrip_31 rfl rfl (Nat.le_of_ble_eq_true rfl) (by decide) ⟨rfl, ?_⟩
                      refine a_if_eq (tgt := 83) (pc := 76) dX9_missed_76 (by decide) (fun _ => ?_) (fun hc => absurd (by decide) hc)
                      refine a_iconst (pc := 83) dX9_missed_83 (by decide) ?_
                      refine a_istore (ls1 := [(2, 275), (0, l1), (0, l2), (0, l3), (0, l4), (0, 0), (9, 0), (9, 0), (9, 0)]) (pc := 84) dX9_missed_84 (by decide) (hp1 (t := 0) rfl (by decide)) rfl ?_
                      refine a_iload (pc := 86) dX9_missed_86 rfl ?_
                      refine a_if_eq (tgt := 107) (pc := 88) dX9_missed_88 (by decide) (fun _ => ?_) (fun hc => absurd (by decide) hc)
                      refine a_iconst (pc := 107) dX9_missed_107 (by decide) ?_
                      refine a_istore (ls1 := [(2, 275), (0, l1), (0, l2), (0, l3), (0, l4), (0, 0), (0, (-1)), (9, 0), (9, 0)]) (pc := 108) dX9_missed_108 (by decide) (hp1 (t := 0) rfl (by decide)) rfl ?_
                      refine a_iload (pc := 110) dX9_missed_110 rfl ?_
                      refine a_if_eq (tgt := 133) (pc := 112) dX9_missed_112 (by decide) (fun _ => ?_) (fun hc => absurd (by decide) hc)
                      refine a_iconst (pc := 133) dX9_missed_133 (by decide) ?_
                      refine a_istore (ls1 := [(2, 275), (0, l1), (0, l2), (0, l3), (0, l4), (0, 0), (0, (-1)), (0, (-1)), (9, 0)]) (pc := 134) dX9_missed_134 (by decide) (hp1 (t := 0) rfl (by decide)) rfl ?_
                      refine a_iload (pc := 136) dX9_missed_136 rfl ?_
                      refine a_if_lt (tgt := 157) (pc := 138) dX9_missed_138 (by decide) (fun _ => ?_) (fun hc => absurd (by decide) hc)
                      refine a_iconst (pc := 157) dX9_missed_157 (by decide) ?_
                      refine a_istore (ls1 := [(2, 275), (0, l1), (0, l2), (0, l3), (0, l4), (0, 0), (0, (-1)), (0, (-1)), (0, 0)]) (pc := 158) dX9_missed_158 (by decide) (hp1 (t := 0) rfl (by decide)) rfl ?_
                      refine a_iload (pc := 160) dX9_missed_160 rfl ?_
                      refine a_if_eq (tgt := 182) (pc := 162) dX9_missed_162 (by decide) (fun _ => ?_) (fun hc => absurd (by decide) hc)
                      refine a_iload_n (pc := 182) dX9_missed_182 rfl ?_
                      refine a_istore_n (ls1 := [(2, 275), (0, l1), (0, l2), (0, l3), (0, l4), (0, 0), (0, (-1)), (0, (-1)), (0, 0)]) (pc := 183) dX9_missed_183 (by decide) (hp1 (t := 0) rfl (by decide)) rfl ?_
                      have ho27 := h.1
                      replace h := h.2
                      refine a_iinc (ls1 := [(2, 275), (0, l1), (0, l2), (0, l3), (0, l4 + 1), (0, 0), (0, (-1)), (0, (-1)), (0, 0)]) (pc := 184) dX9_missed_184 rfl (by decide) (hp1 (t := 0) rfl (by decide)) ho27 rfl ?_
                      refine a_goto (tgt := 28) (pc := 187) dX9_missed_187 (by decide) ?_
                      exact a_msk [true, true, true, true, true, false, false, false, false] rfl h
                    · replace h := h.2 hc26
                      refine a_iconst (pc := 13) dX9_in_13 (by decide) ?_
                      refine a_goto (tgt := 18) (pc := 14) dX9_in_14 (by decide) ?_
                      refine a_iretz (pc := 18) dX9_in_18 rfl rfl (Nat.le_of_ble_eq_true rfl) (by decide) ⟨rfl, ?_⟩
                      refine a_if_eq (tgt := 30) (pc := 23) dX9_isTrip_23 (by decide) (fun hc => absurd hc (by decide)) (fun _ => ?_)
                      refine a_iconst (pc := 26) dX9_isTrip_26 (by decide) ?_
                      refine a_goto (tgt := 31) (pc := 27) dX9_isTrip_27 (by decide) ?_
                      refine a_iretz (pc := 31) dX9_isTrip_31 rfl rfl (Nat.le_of_ble_eq_true rfl) (by decide) ⟨rfl, ?_⟩
                      refine a_if_eq (tgt := 83) (pc := 76) dX9_missed_76 (by decide) (fun hc => absurd hc (by decide)) (fun _ => ?_)
                      refine a_iconst (pc := 79) dX9_missed_79 (by decide) ?_
                      refine a_goto (tgt := 84) (pc := 80) dX9_missed_80 (by decide) ?_
                      refine a_istore (ls1 := [(2, 275), (0, l1), (0, l2), (0, l3), (0, l4), (0, 1), (9, 0), (9, 0), (9, 0)]) (pc := 84) dX9_missed_84 (by decide) (hp1 (t := 0) rfl (by decide)) rfl ?_
                      refine a_iload (pc := 86) dX9_missed_86 rfl ?_
                      refine a_if_eq (tgt := 107) (pc := 88) dX9_missed_88 (by decide) (fun hc => absurd hc (by decide)) (fun _ => ?_)
                      refine a_aload_n (pc := 91) dX9_missed_91 (by decide) rfl ?_
                      refine a_iload_n (pc := 92) dX9_missed_92 rfl ?_
                      refine a_bipush (pc := 93) dX9_missed_93 (by decide) (by decide +kernel) ?_
                      refine a_idiv (pc := 95) dX9_missed_95 ho3 (by decide) ?_
                      refine a_iload_n (pc := 96) dX9_missed_96 rfl ?_
                      refine a_bipush (pc := 97) dX9_missed_97 (by decide) (by decide +kernel) ?_
                      refine a_irem (pc := 99) dX9_missed_99 ho3 (by decide) ?_
                      refine a_iload_n (pc := 100) dX9_missed_100 rfl ?_
                      refine p_callV (As := [(0, l3 / 6), (0, l3 % 6), (0, l1)]) (st := []) (st1 := fun r => [(0, r)])  (pc := 101) dX9_missed_101 ml_RX9_318 (by decide) s0_275 rfl (by decide) (Nat.le_of_ble_eq_true rfl) rfl (fun _ => rfl) h (fun r28 M29 h => ?_)
                      refine a_goto (tgt := 108) (pc := 104) dX9_missed_104 (by decide) ?_
                      refine a_istore (ls1 := [(2, 275), (0, l1), (0, l2), (0, l3), (0, l4), (0, 1), (0, r28), (9, 0), (9, 0)]) (pc := 108) dX9_missed_108 (by decide) (hp1 (t := 0) rfl (by decide)) rfl ?_
                      refine a_iload (pc := 110) dX9_missed_110 rfl ?_
                      refine a_if_eq (tgt := 133) (pc := 112) dX9_missed_112 (by decide) (fun hc => absurd hc (by decide)) (fun _ => ?_)
                      refine a_aload_n (pc := 115) dX9_missed_115 (by decide) rfl ?_
                      refine a_iload (pc := 116) dX9_missed_116 rfl ?_
                      refine a_bipush (pc := 118) dX9_missed_118 (by decide) (by decide +kernel) ?_
                      refine a_idiv (pc := 120) dX9_missed_120 ho4 (by decide) ?_
                      refine a_iload (pc := 121) dX9_missed_121 rfl ?_
                      refine a_bipush (pc := 123) dX9_missed_123 (by decide) (by decide +kernel) ?_
                      refine a_irem (pc := 125) dX9_missed_125 ho4 (by decide) ?_
                      refine a_iload_n (pc := 126) dX9_missed_126 rfl ?_
                      refine p_callV (As := [(0, l4 / 6), (0, l4 % 6), (0, l1)]) (st := []) (st1 := fun r => [(0, r)])  (pc := 127) dX9_missed_127 ml_RX9_305 (by decide) s0_275 rfl (by decide) (Nat.le_of_ble_eq_true rfl) rfl (fun _ => rfl) h (fun r30 M31 h => ?_)
                      refine a_goto (tgt := 134) (pc := 130) dX9_missed_130 (by decide) ?_
                      refine a_istore (ls1 := [(2, 275), (0, l1), (0, l2), (0, l3), (0, l4), (0, 1), (0, r28), (0, r30), (9, 0)]) (pc := 134) dX9_missed_134 (by decide) (hp1 (t := 0) rfl (by decide)) rfl ?_
                      refine a_iload (pc := 136) dX9_missed_136 rfl ?_
                      refine a_if_lt (tgt := 157) (pc := 138) dX9_missed_138 (by decide) (fun hc32 => ?_) (fun hc32 => ?_)
                      · replace h := h.1 hc32
                        refine a_iconst (pc := 157) dX9_missed_157 (by decide) ?_
                        refine a_istore (ls1 := [(2, 275), (0, l1), (0, l2), (0, l3), (0, l4), (0, 1), (0, r28), (0, r30), (0, 0)]) (pc := 158) dX9_missed_158 (by decide) (hp1 (t := 0) rfl (by decide)) rfl ?_
                        refine a_iload (pc := 160) dX9_missed_160 rfl ?_
                        refine a_if_eq (tgt := 182) (pc := 162) dX9_missed_162 (by decide) (fun _ => ?_) (fun hc => absurd (by decide) hc)
                        refine a_iload_n (pc := 182) dX9_missed_182 rfl ?_
                        refine a_istore_n (ls1 := [(2, 275), (0, l1), (0, l2), (0, l3), (0, l4), (0, 1), (0, r28), (0, r30), (0, 0)]) (pc := 183) dX9_missed_183 (by decide) (hp1 (t := 0) rfl (by decide)) rfl ?_
                        have ho33 := h.1
                        replace h := h.2
                        refine a_iinc (ls1 := [(2, 275), (0, l1), (0, l2), (0, l3), (0, l4 + 1), (0, 1), (0, r28), (0, r30), (0, 0)]) (pc := 184) dX9_missed_184 rfl (by decide) (hp1 (t := 0) rfl (by decide)) ho33 rfl ?_
                        refine a_goto (tgt := 28) (pc := 187) dX9_missed_187 (by decide) ?_
                        exact a_msk [true, true, true, true, true, false, false, false, false] rfl h
                      · replace h := h.2 hc32
                        refine a_iload (pc := 141) dX9_missed_141 rfl ?_
                        refine a_if_lt (tgt := 157) (pc := 143) dX9_missed_143 (by decide) (fun hc34 => ?_) (fun hc34 => ?_)
                        · replace h := h.1 hc34
                          refine a_iconst (pc := 157) dX9_missed_157 (by decide) ?_
                          refine a_istore (ls1 := [(2, 275), (0, l1), (0, l2), (0, l3), (0, l4), (0, 1), (0, r28), (0, r30), (0, 0)]) (pc := 158) dX9_missed_158 (by decide) (hp1 (t := 0) rfl (by decide)) rfl ?_
                          refine a_iload (pc := 160) dX9_missed_160 rfl ?_
                          refine a_if_eq (tgt := 182) (pc := 162) dX9_missed_162 (by decide) (fun _ => ?_) (fun hc => absurd (by decide) hc)
                          refine a_iload_n (pc := 182) dX9_missed_182 rfl ?_
                          refine a_istore_n (ls1 := [(2, 275), (0, l1), (0, l2), (0, l3), (0, l4), (0, 1), (0, r28), (0, r30), (0, 0)]) (pc := 183) dX9_missed_183 (by decide) (hp1 (t := 0) rfl (by decide)) rfl ?_
                          have ho35 := h.1
                          replace h := h.2
                          refine a_iinc (ls1 := [(2, 275), (0, l1), (0, l2), (0, l3), (0, l4 + 1), (0, 1), (0, r28), (0, r30), (0, 0)]) (pc := 184) dX9_missed_184 rfl (by decide) (hp1 (t := 0) rfl (by decide)) ho35 rfl ?_
                          refine a_goto (tgt := 28) (pc := 187) dX9_missed_187 (by decide) ?_
                          exact a_msk [true, true, true, true, true, false, false, false, false] rfl h
                        · replace h := h.2 hc34
                          refine a_iload (pc := 146) dX9_missed_146 rfl ?_
                          refine a_iload (pc := 148) dX9_missed_148 rfl ?_
                          refine a_icmp_ge (tgt := 157) (pc := 150) dX9_missed_150 (by decide) (fun hc36 => ?_) (fun hc36 => ?_)
                          · replace h := h.1 hc36
                            refine a_iconst (pc := 157) dX9_missed_157 (by decide) ?_
                            refine a_istore (ls1 := [(2, 275), (0, l1), (0, l2), (0, l3), (0, l4), (0, 1), (0, r28), (0, r30), (0, 0)]) (pc := 158) dX9_missed_158 (by decide) (hp1 (t := 0) rfl (by decide)) rfl ?_
                            refine a_iload (pc := 160) dX9_missed_160 rfl ?_
                            refine a_if_eq (tgt := 182) (pc := 162) dX9_missed_162 (by decide) (fun _ => ?_) (fun hc => absurd (by decide) hc)
                            refine a_iload_n (pc := 182) dX9_missed_182 rfl ?_
                            refine a_istore_n (ls1 := [(2, 275), (0, l1), (0, l2), (0, l3), (0, l4), (0, 1), (0, r28), (0, r30), (0, 0)]) (pc := 183) dX9_missed_183 (by decide) (hp1 (t := 0) rfl (by decide)) rfl ?_
                            have ho37 := h.1
                            replace h := h.2
                            refine a_iinc (ls1 := [(2, 275), (0, l1), (0, l2), (0, l3), (0, l4 + 1), (0, 1), (0, r28), (0, r30), (0, 0)]) (pc := 184) dX9_missed_184 rfl (by decide) (hp1 (t := 0) rfl (by decide)) ho37 rfl ?_
                            refine a_goto (tgt := 28) (pc := 187) dX9_missed_187 (by decide) ?_
                            exact a_msk [true, true, true, true, true, false, false, false, false] rfl h
                          · replace h := h.2 hc36
                            refine a_iconst (pc := 153) dX9_missed_153 (by decide) ?_
                            refine a_goto (tgt := 158) (pc := 154) dX9_missed_154 (by decide) ?_
                            refine a_istore (ls1 := [(2, 275), (0, l1), (0, l2), (0, l3), (0, l4), (0, 1), (0, r28), (0, r30), (0, 1)]) (pc := 158) dX9_missed_158 (by decide) (hp1 (t := 0) rfl (by decide)) rfl ?_
                            refine a_iload (pc := 160) dX9_missed_160 rfl ?_
                            refine a_if_eq (tgt := 182) (pc := 162) dX9_missed_162 (by decide) (fun hc => absurd hc (by decide)) (fun _ => ?_)
                            refine a_iload (pc := 165) dX9_missed_165 rfl ?_
                            refine a_iload (pc := 167) dX9_missed_167 rfl ?_
                            have ho38 := h.1
                            replace h := h.2
                            refine a_isub (pc := 169) dX9_missed_169 ho38 ?_
                            refine a_iload_n (pc := 170) dX9_missed_170 rfl ?_
                            refine a_icmp_ge (tgt := 182) (pc := 171) dX9_missed_171 (by decide) (fun hc39 => ?_) (fun hc39 => ?_)
                            · replace h := h.1 hc39
                              refine a_iload_n (pc := 182) dX9_missed_182 rfl ?_
                              refine a_istore_n (ls1 := [(2, 275), (0, l1), (0, l2), (0, l3), (0, l4), (0, 1), (0, r28), (0, r30), (0, 1)]) (pc := 183) dX9_missed_183 (by decide) (hp1 (t := 0) rfl (by decide)) rfl ?_
                              have ho40 := h.1
                              replace h := h.2
                              refine a_iinc (ls1 := [(2, 275), (0, l1), (0, l2), (0, l3), (0, l4 + 1), (0, 1), (0, r28), (0, r30), (0, 1)]) (pc := 184) dX9_missed_184 rfl (by decide) (hp1 (t := 0) rfl (by decide)) ho40 rfl ?_
                              refine a_goto (tgt := 28) (pc := 187) dX9_missed_187 (by decide) ?_
                              exact a_msk [true, true, true, true, true, false, false, false, false] rfl h
                            · replace h := h.2 hc39
                              refine a_iload (pc := 174) dX9_missed_174 rfl ?_
                              refine a_iload (pc := 176) dX9_missed_176 rfl ?_
                              refine a_isub (pc := 178) dX9_missed_178 ho38 ?_
                              refine a_goto (tgt := 183) (pc := 179) dX9_missed_179 (by decide) ?_
                              refine a_istore_n (ls1 := [(2, 275), (0, l1), (0, r28 - r30), (0, l3), (0, l4), (0, 1), (0, r28), (0, r30), (0, 1)]) (pc := 183) dX9_missed_183 (by decide) (hp1 (t := 0) rfl (by decide)) rfl ?_
                              have ho41 := h.1
                              replace h := h.2
                              refine a_iinc (ls1 := [(2, 275), (0, l1), (0, r28 - r30), (0, l3), (0, l4 + 1), (0, 1), (0, r28), (0, r30), (0, 1)]) (pc := 184) dX9_missed_184 rfl (by decide) (hp1 (t := 0) rfl (by decide)) ho41 rfl ?_
                              refine a_goto (tgt := 28) (pc := 187) dX9_missed_187 (by decide) ?_
                              exact a_msk [true, true, true, true, true, false, false, false, false] rfl h
theorem E_R_missed {l1 : Int} {M : Mem} {Q : Int → Mem → Prop} (h : AW mX9_missed 0 [(2, 275), (0, l1), (9, 0), (9, 0), (9, 0), (9, 0), (9, 0), (9, 0), (9, 0)] M Q) : Calls mX9_missed [(2, 275), (0, l1)] S0 M Q := calls_of (by decide) (by decide) (Nat.le_of_ble_eq_true rfl) rfl h
set_option maxRecDepth 100000 in
set_option maxHeartbeats 4000000 in
theorem B_R_nextBoard_0 {l1 l2 : Int} {M : Mem} {Q : Int → Mem → Prop} (h : AW mX9_nextBoard 8 [(2, 275), (0, l1), (1, l2), (9, 0), (1, (-1)), (9, 0), (0, 0), (9, 0), (9, 0), (9, 0), (9, 0)] M Q) : AW mX9_nextBoard 0 [(2, 275), (0, l1), (1, l2), (9, 0), (9, 0), (9, 0), (9, 0), (9, 0), (9, 0), (9, 0), (9, 0)] M Q := by
  refine a_ldc2 (v := (-1)) (pc := 0) dX9_nextBoard_0 kc_RX9_303 (by decide) ?_
  refine a_lstore (ls1 := [(2, 275), (0, l1), (1, l2), (9, 0), (1, (-1)), (9, 0), (9, 0), (9, 0), (9, 0), (9, 0), (9, 0)]) (pc := 3) dX9_nextBoard_3 (by decide) (hp1 (t := 9) rfl (by decide)) rfl ?_
  refine a_iconst (pc := 5) dX9_nextBoard_5 (by decide) ?_
  refine a_istore (ls1 := [(2, 275), (0, l1), (1, l2), (9, 0), (1, (-1)), (9, 0), (0, 0), (9, 0), (9, 0), (9, 0), (9, 0)]) (pc := 6) dX9_nextBoard_6 (by decide) (hp1 (t := 9) rfl (by decide)) rfl ?_
  exact h
set_option maxRecDepth 100000 in
set_option maxHeartbeats 4000000 in
theorem B_R_nextBoard_8 {l1 l2 l4 l6 : Int} {M : Mem} {Q : Int → Mem → Prop} (h : (((M 275 0) ≤ l6 → Q l4 M) ∧ (¬ ((M 275 0) ≤ l6) → AW mX9_nextBoard 20 [(2, 275), (0, l1), (1, l2), (9, 0), (1, l4), (9, 0), (0, l6), (0, 0), (9, 0), (9, 0), (9, 0)] M Q))) : AW mX9_nextBoard 8 [(2, 275), (0, l1), (1, l2), (9, 0), (1, l4), (9, 0), (0, l6), (9, 0), (9, 0), (9, 0), (9, 0)] M Q := by
  refine a_iload (pc := 8) dX9_nextBoard_8 rfl ?_
  refine a_aload_n (pc := 10) dX9_nextBoard_10 (by decide) rfl ?_
  refine a_getI (y := 0) (pc := 11) dX9_nextBoard_11 fl_RX9_98 (by decide) s0_275 (Or.inl rfl) rfl ?_
  refine a_icmp_ge (tgt := 112) (pc := 14) dX9_nextBoard_14 (by decide) (fun hc1 => ?_) (fun hc1 => ?_)
  · replace h := h.1 hc1
    refine a_lload (pc := 112) dX9_nextBoard_112 rfl ?_
    exact a_lret (pc := 114) dX9_nextBoard_114 rfl rfl (Nat.le_of_ble_eq_true rfl) ⟨rfl, h⟩
  · replace h := h.2 hc1
    refine a_iconst (pc := 17) dX9_nextBoard_17 (by decide) ?_
    refine a_istore (ls1 := [(2, 275), (0, l1), (1, l2), (9, 0), (1, l4), (9, 0), (0, l6), (0, 0), (9, 0), (9, 0), (9, 0)]) (pc := 18) dX9_nextBoard_18 (by decide) (hp1 (t := 0) rfl (by decide)) rfl ?_
    exact h
set_option maxRecDepth 100000 in
set_option maxHeartbeats 4000000 in
theorem B_R_nextBoard_20 {l1 l2 l4 l6 l7 : Int} {M : Mem} {Q : Int → Mem → Prop} (h : ((0 : Int) ≤ l6 ∧ l6 < 8) ∧ (((M 279 l6) ≤ l7 → (-2147483648 ≤ l6 + 1 ∧ l6 + 1 ≤ 2147483647) ∧ AW mX9_nextBoard 8 [(2, 275), (0, l1), (1, l2), (9, 0), (1, l4), (9, 0), (0, l6 + 1), (9, 0), (9, 0), (9, 0), (9, 0)] M Q) ∧ (¬ ((M 279 l6) ≤ l7) → Calls mX9_departureAt [(2, 275), (0, l6), (0, l7), (0, l1)] S0 M (fun r4 M5 => (-9223372036854775808 ≤ 100 * r4 ∧ 100 * r4 ≤ 9223372036854775807) ∧ (-9223372036854775808 ≤ 10 * l6 ∧ 10 * l6 ≤ 9223372036854775807) ∧ (-9223372036854775808 ≤ (100 * r4) + (10 * l6) ∧ (100 * r4) + (10 * l6) ≤ 9223372036854775807) ∧ (-9223372036854775808 ≤ ((100 * r4) + (10 * l6)) + l7 ∧ ((100 * r4) + (10 * l6)) + l7 ≤ 9223372036854775807) ∧ ((r4 < 0 → (-2147483648 ≤ l7 + 1 ∧ l7 + 1 ≤ 2147483647) ∧ AW mX9_nextBoard 20 [(2, 275), (0, l1), (1, l2), (9, 0), (1, l4), (9, 0), (0, l6), (0, l7 + 1), (9, 0), (9, 0), (9, 0)] M5 Q) ∧ (¬ (r4 < 0) → (((((100 * r4) + (10 * l6)) + l7) ≤ l2 → (-2147483648 ≤ l7 + 1 ∧ l7 + 1 ≤ 2147483647) ∧ AW mX9_nextBoard 20 [(2, 275), (0, l1), (1, l2), (9, 0), (1, l4), (9, 0), (0, l6), (0, l7 + 1), (9, 0), (9, 0), (9, 0)] M5 Q) ∧ (¬ ((((100 * r4) + (10 * l6)) + l7) ≤ l2) → ((l4 < 0 → (-2147483648 ≤ l7 + 1 ∧ l7 + 1 ≤ 2147483647) ∧ AW mX9_nextBoard 20 [(2, 275), (0, l1), (1, l2), (9, 0), (1, ((100 * r4) + (10 * l6)) + l7), (9, 0), (0, l6), (0, l7 + 1), (9, 0), (9, 0), (9, 0)] M5 Q) ∧ (¬ (l4 < 0) → ((l4 ≤ (((100 * r4) + (10 * l6)) + l7) → (-2147483648 ≤ l7 + 1 ∧ l7 + 1 ≤ 2147483647) ∧ AW mX9_nextBoard 20 [(2, 275), (0, l1), (1, l2), (9, 0), (1, l4), (9, 0), (0, l6), (0, l7 + 1), (9, 0), (9, 0), (9, 0)] M5 Q) ∧ (¬ (l4 ≤ (((100 * r4) + (10 * l6)) + l7)) → (-2147483648 ≤ l7 + 1 ∧ l7 + 1 ≤ 2147483647) ∧ AW mX9_nextBoard 20 [(2, 275), (0, l1), (1, l2), (9, 0), (1, ((100 * r4) + (10 * l6)) + l7), (9, 0), (0, l6), (0, l7 + 1), (9, 0), (9, 0), (9, 0)] M5 Q)))))))))))) : AW mX9_nextBoard 20 [(2, 275), (0, l1), (1, l2), (9, 0), (1, l4), (9, 0), (0, l6), (0, l7), (9, 0), (9, 0), (9, 0)] M Q := by
  refine a_iload (pc := 20) dX9_nextBoard_20 rfl ?_
  refine a_aload_n (pc := 22) dX9_nextBoard_22 (by decide) rfl ?_
  refine a_getR (y := 279) (pc := 23) dX9_nextBoard_23 fl_RX9_19 (by decide) s0_275 rfl rfl ?_
  refine a_iload (pc := 26) dX9_nextBoard_26 rfl ?_
  have ho1 := h.1
  replace h := h.2
  refine a_iald (pc := 28) dX9_nextBoard_28 (by decide) s0_279 ho1.1 ho1.2 ?_
  refine a_icmp_ge (tgt := 106) (pc := 29) dX9_nextBoard_29 (by decide) (fun hc2 => ?_) (fun hc2 => ?_)
  · replace h := h.1 hc2
    have ho3 := h.1
    replace h := h.2
    refine a_iinc (ls1 := [(2, 275), (0, l1), (1, l2), (9, 0), (1, l4), (9, 0), (0, l6 + 1), (0, l7), (9, 0), (9, 0), (9, 0)]) (pc := 106) dX9_nextBoard_106 rfl (by decide) (hp1 (t := 9) rfl (by decide)) ho3 rfl ?_
    refine a_goto (tgt := 8) (pc := 109) dX9_nextBoard_109 (by decide) ?_
    exact a_msk [true, true, true, true, true, true, true, false, true, true, true] rfl h
  · replace h := h.2 hc2
    refine a_aload_n (pc := 32) dX9_nextBoard_32 (by decide) rfl ?_
    refine a_iload (pc := 33) dX9_nextBoard_33 rfl ?_
    refine a_iload (pc := 35) dX9_nextBoard_35 rfl ?_
    refine a_iload_n (pc := 37) dX9_nextBoard_37 rfl ?_
    refine p_callV (As := [(0, l6), (0, l7), (0, l1)]) (st := []) (st1 := fun r => [(0, r)])  (pc := 38) dX9_nextBoard_38 ml_RX9_305 (by decide) s0_275 rfl (by decide) (Nat.le_of_ble_eq_true rfl) rfl (fun _ => rfl) h (fun r4 M5 h => ?_)
    refine a_istore (ls1 := [(2, 275), (0, l1), (1, l2), (9, 0), (1, l4), (9, 0), (0, l6), (0, l7), (0, r4), (9, 0), (9, 0)]) (pc := 41) dX9_nextBoard_41 (by decide) (hp1 (t := 0) rfl (by decide)) rfl ?_
    refine a_ldc2 (v := 100) (pc := 43) dX9_nextBoard_43 kc_RX9_308 (by decide) ?_
    refine a_iload (pc := 46) dX9_nextBoard_46 rfl ?_
    refine a_i2l (pc := 48) dX9_nextBoard_48 ?_
    have ho6 := h.1
    replace h := h.2
    refine a_lmul (pc := 49) dX9_nextBoard_49 ho6 ?_
    refine a_ldc2 (v := 10) (pc := 50) dX9_nextBoard_50 kc_RX9_310 (by decide) ?_
    refine a_iload (pc := 53) dX9_nextBoard_53 rfl ?_
    refine a_i2l (pc := 55) dX9_nextBoard_55 ?_
    have ho7 := h.1
    replace h := h.2
    refine a_lmul (pc := 56) dX9_nextBoard_56 ho7 ?_
    have ho8 := h.1
    replace h := h.2
    refine a_ladd (pc := 57) dX9_nextBoard_57 ho8 ?_
    refine a_iload (pc := 58) dX9_nextBoard_58 rfl ?_
    refine a_i2l (pc := 60) dX9_nextBoard_60 ?_
    have ho9 := h.1
    replace h := h.2
    refine a_ladd (pc := 61) dX9_nextBoard_61 ho9 ?_
    refine a_lstore (ls1 := [(2, 275), (0, l1), (1, l2), (9, 0), (1, l4), (9, 0), (0, l6), (0, l7), (0, r4), (1, ((100 * r4) + (10 * l6)) + l7), (9, 0)]) (pc := 62) dX9_nextBoard_62 (by decide) (hp1 (t := 0) rfl (by decide)) rfl ?_
    refine a_iload (pc := 64) dX9_nextBoard_64 rfl ?_
    refine a_if_lt (tgt := 96) (pc := 66) dX9_nextBoard_66 (by decide) (fun hc10 => ?_) (fun hc10 => ?_)
    · replace h := h.1 hc10
      refine a_lload (pc := 96) dX9_nextBoard_96 rfl ?_
      refine a_lstore (ls1 := [(2, 275), (0, l1), (1, l2), (9, 0), (1, l4), (9, 0), (0, l6), (0, l7), (0, r4), (1, ((100 * r4) + (10 * l6)) + l7), (9, 0)]) (pc := 98) dX9_nextBoard_98 (by decide) (hp1 (t := 9) rfl (by decide)) rfl ?_
      have ho11 := h.1
      replace h := h.2
      refine a_iinc (ls1 := [(2, 275), (0, l1), (1, l2), (9, 0), (1, l4), (9, 0), (0, l6), (0, l7 + 1), (0, r4), (1, ((100 * r4) + (10 * l6)) + l7), (9, 0)]) (pc := 100) dX9_nextBoard_100 rfl (by decide) (hp1 (t := 0) rfl (by decide)) ho11 rfl ?_
      refine a_goto (tgt := 20) (pc := 103) dX9_nextBoard_103 (by decide) ?_
      exact a_msk [true, true, true, true, true, true, true, true, false, false, true] rfl h
    · replace h := h.2 hc10
      refine a_lload (pc := 69) dX9_nextBoard_69 rfl ?_
      refine a_lload_n (pc := 71) dX9_nextBoard_71 rfl ?_
      refine a_lcmp_le (tgt := 96) (pc := 72) dX9_nextBoard_72 dX9_nextBoard_73 (by decide) (fun hc12 => ?_) (fun hc12 => ?_)
      · replace h := h.1 hc12
        refine a_lload (pc := 96) dX9_nextBoard_96 rfl ?_
        refine a_lstore (ls1 := [(2, 275), (0, l1), (1, l2), (9, 0), (1, l4), (9, 0), (0, l6), (0, l7), (0, r4), (1, ((100 * r4) + (10 * l6)) + l7), (9, 0)]) (pc := 98) dX9_nextBoard_98 (by decide) (hp1 (t := 9) rfl (by decide)) rfl ?_
        have ho13 := h.1
        replace h := h.2
        refine a_iinc (ls1 := [(2, 275), (0, l1), (1, l2), (9, 0), (1, l4), (9, 0), (0, l6), (0, l7 + 1), (0, r4), (1, ((100 * r4) + (10 * l6)) + l7), (9, 0)]) (pc := 100) dX9_nextBoard_100 rfl (by decide) (hp1 (t := 0) rfl (by decide)) ho13 rfl ?_
        refine a_goto (tgt := 20) (pc := 103) dX9_nextBoard_103 (by decide) ?_
        exact a_msk [true, true, true, true, true, true, true, true, false, false, true] rfl h
      · replace h := h.2 hc12
        refine a_lload (pc := 76) dX9_nextBoard_76 rfl ?_
        refine a_lconst (v := 0) (pc := 78) dX9_nextBoard_78 rfl ?_
        refine a_lcmp_lt (tgt := 91) (pc := 79) dX9_nextBoard_79 dX9_nextBoard_80 (by decide) (fun hc14 => ?_) (fun hc14 => ?_)
        · replace h := h.1 hc14
          refine a_lload (pc := 91) dX9_nextBoard_91 rfl ?_
          refine a_goto (tgt := 98) (pc := 93) dX9_nextBoard_93 (by decide) ?_
          refine a_lstore (ls1 := [(2, 275), (0, l1), (1, l2), (9, 0), (1, ((100 * r4) + (10 * l6)) + l7), (9, 0), (0, l6), (0, l7), (0, r4), (1, ((100 * r4) + (10 * l6)) + l7), (9, 0)]) (pc := 98) dX9_nextBoard_98 (by decide) (hp1 (t := 9) rfl (by decide)) rfl ?_
          have ho15 := h.1
          replace h := h.2
          refine a_iinc (ls1 := [(2, 275), (0, l1), (1, l2), (9, 0), (1, ((100 * r4) + (10 * l6)) + l7), (9, 0), (0, l6), (0, l7 + 1), (0, r4), (1, ((100 * r4) + (10 * l6)) + l7), (9, 0)]) (pc := 100) dX9_nextBoard_100 rfl (by decide) (hp1 (t := 0) rfl (by decide)) ho15 rfl ?_
          refine a_goto (tgt := 20) (pc := 103) dX9_nextBoard_103 (by decide) ?_
          exact a_msk [true, true, true, true, true, true, true, true, false, false, true] rfl h
        · replace h := h.2 hc14
          refine a_lload (pc := 83) dX9_nextBoard_83 rfl ?_
          refine a_lload (pc := 85) dX9_nextBoard_85 rfl ?_
          refine a_lcmp_ge (tgt := 96) (pc := 87) dX9_nextBoard_87 dX9_nextBoard_88 (by decide) (fun hc16 => ?_) (fun hc16 => ?_)
          · replace h := h.1 hc16
            refine a_lload (pc := 96) dX9_nextBoard_96 rfl ?_
            refine a_lstore (ls1 := [(2, 275), (0, l1), (1, l2), (9, 0), (1, l4), (9, 0), (0, l6), (0, l7), (0, r4), (1, ((100 * r4) + (10 * l6)) + l7), (9, 0)]) (pc := 98) dX9_nextBoard_98 (by decide) (hp1 (t := 9) rfl (by decide)) rfl ?_
            have ho17 := h.1
            replace h := h.2
            refine a_iinc (ls1 := [(2, 275), (0, l1), (1, l2), (9, 0), (1, l4), (9, 0), (0, l6), (0, l7 + 1), (0, r4), (1, ((100 * r4) + (10 * l6)) + l7), (9, 0)]) (pc := 100) dX9_nextBoard_100 rfl (by decide) (hp1 (t := 0) rfl (by decide)) ho17 rfl ?_
            refine a_goto (tgt := 20) (pc := 103) dX9_nextBoard_103 (by decide) ?_
            exact a_msk [true, true, true, true, true, true, true, true, false, false, true] rfl h
          · replace h := h.2 hc16
            refine a_lload (pc := 91) dX9_nextBoard_91 rfl ?_
            refine a_goto (tgt := 98) (pc := 93) dX9_nextBoard_93 (by decide) ?_
            refine a_lstore (ls1 := [(2, 275), (0, l1), (1, l2), (9, 0), (1, ((100 * r4) + (10 * l6)) + l7), (9, 0), (0, l6), (0, l7), (0, r4), (1, ((100 * r4) + (10 * l6)) + l7), (9, 0)]) (pc := 98) dX9_nextBoard_98 (by decide) (hp1 (t := 9) rfl (by decide)) rfl ?_
            have ho18 := h.1
            replace h := h.2
            refine a_iinc (ls1 := [(2, 275), (0, l1), (1, l2), (9, 0), (1, ((100 * r4) + (10 * l6)) + l7), (9, 0), (0, l6), (0, l7 + 1), (0, r4), (1, ((100 * r4) + (10 * l6)) + l7), (9, 0)]) (pc := 100) dX9_nextBoard_100 rfl (by decide) (hp1 (t := 0) rfl (by decide)) ho18 rfl ?_
            refine a_goto (tgt := 20) (pc := 103) dX9_nextBoard_103 (by decide) ?_
            exact a_msk [true, true, true, true, true, true, true, true, false, false, true] rfl h
theorem E_R_nextBoard {l1 l2 : Int} {M : Mem} {Q : Int → Mem → Prop} (h : AW mX9_nextBoard 0 [(2, 275), (0, l1), (1, l2), (9, 0), (9, 0), (9, 0), (9, 0), (9, 0), (9, 0), (9, 0), (9, 0)] M Q) : Calls mX9_nextBoard [(2, 275), (0, l1), (1, l2)] S0 M Q := calls_of (by decide) (by decide) (Nat.le_of_ble_eq_true rfl) rfl h
set_option maxRecDepth 100000 in
set_option maxHeartbeats 4000000 in
theorem B_R_readDelay_0 {l1 : Int} {M : Mem} {Q : Int → Mem → Prop} (h : (-2147483648 ≤ (M 275 0) - 1 ∧ (M 275 0) - 1 ≤ 2147483647) ∧ Calls mX9_readWithin [(2, 275), (0, 1), (0, 0), (0, (M 275 0) - 1)] S0 M (fun r2 M3 => Calls mX9_wants [(2, 275), (0, 46)] S0 M3 (fun r4 M5 => (((M5 275 28) = 0 → ((0 : Int) ≤ r2 ∧ r2 < 8) ∧ (-2147483648 ≤ (M5 279 r2) - 1 ∧ (M5 279 r2) - 1 ≤ 2147483647) ∧ Calls mX9_readWithin [(2, 275), (0, 1), (0, 0), (0, (M5 279 r2) - 1)] S0 M5 (fun r9 M10 => Calls mX9_wants [(2, 275), (0, 64)] S0 M10 (fun r11 M12 => (((M12 275 28) = 0 → (-2147483648 ≤ (M12 277 r2) - 1 ∧ (M12 277 r2) - 1 ≤ 2147483647) ∧ Calls mX9_readWithin [(2, 275), (0, 1), (0, 0), (0, (M12 277 r2) - 1)] S0 M12 (fun r15 M16 => Calls mX9_wants [(2, 275), (0, 43)] S0 M16 (fun r17 M18 => Calls mX9_readWithin [(2, 275), (0, 2), (0, 1), (0, 99)] S0 M18 (fun r19 M20 => ((¬ (M20 275 28) = 0 → Q 0 M20) ∧ ((M20 275 28) = 0 → (-2147483648 ≤ (M20 277 r2) - 1 ∧ (M20 277 r2) - 1 ≤ 2147483647) ∧ (-2147483648 ≤ 36 * r2 ∧ 36 * r2 ≤ 2147483647) ∧ (-2147483648 ≤ 6 * r9 ∧ 6 * r9 ≤ 2147483647) ∧ (-2147483648 ≤ (36 * r2) + (6 * r9) ∧ (36 * r2) + (6 * r9) ≤ 2147483647) ∧ (-2147483648 ≤ ((36 * r2) + (6 * r9)) + ((M20 277 r2) - 1) ∧ ((36 * r2) + (6 * r9)) + ((M20 277 r2) - 1) ≤ 2147483647) ∧ ((0 : Int) ≤ ((36 * r2) + (6 * r9)) + ((M20 277 r2) - 1) ∧ ((36 * r2) + (6 * r9)) + ((M20 277 r2) - 1) < 288) ∧ (-2147483648 ≤ (M20 281 (((36 * r2) + (6 * r9)) + ((M20 277 r2) - 1))) + r19 ∧ (M20 281 (((36 * r2) + (6 * r9)) + ((M20 277 r2) - 1))) + r19 ≤ 2147483647) ∧ ((((M20 281 (((36 * r2) + (6 * r9)) + ((M20 277 r2) - 1))) + r19) ≤ 9000 → Calls mX9_delays [(2, 275), (0, r2), (0, r9), (0, r15), (0, r19)] S0 M20 (fun r30 M31 => Q 0 M31)) ∧ (¬ (((M20 281 (((36 * r2) + (6 * r9)) + ((M20 277 r2) - 1))) + r19) ≤ 9000) → Q 0 (up2 (up2 M20 275 28 1) 275 27 l1))))))))) ∧ (¬ (M12 275 28) = 0 → Calls mX9_readWithin [(2, 275), (0, 1), (0, 0), (0, 0)] S0 M12 (fun r32 M33 => Calls mX9_wants [(2, 275), (0, 43)] S0 M33 (fun r34 M35 => Calls mX9_readWithin [(2, 275), (0, 2), (0, 1), (0, 99)] S0 M35 (fun r36 M37 => ((¬ (M37 275 28) = 0 → Q 0 M37) ∧ ((M37 275 28) = 0 → (-2147483648 ≤ (M37 277 r2) - 1 ∧ (M37 277 r2) - 1 ≤ 2147483647) ∧ (-2147483648 ≤ 36 * r2 ∧ 36 * r2 ≤ 2147483647) ∧ (-2147483648 ≤ 6 * r9 ∧ 6 * r9 ≤ 2147483647) ∧ (-2147483648 ≤ (36 * r2) + (6 * r9) ∧ (36 * r2) + (6 * r9) ≤ 2147483647) ∧ (-2147483648 ≤ ((36 * r2) + (6 * r9)) + ((M37 277 r2) - 1) ∧ ((36 * r2) + (6 * r9)) + ((M37 277 r2) - 1) ≤ 2147483647) ∧ ((0 : Int) ≤ ((36 * r2) + (6 * r9)) + ((M37 277 r2) - 1) ∧ ((36 * r2) + (6 * r9)) + ((M37 277 r2) - 1) < 288) ∧ (-2147483648 ≤ (M37 281 (((36 * r2) + (6 * r9)) + ((M37 277 r2) - 1))) + r36 ∧ (M37 281 (((36 * r2) + (6 * r9)) + ((M37 277 r2) - 1))) + r36 ≤ 2147483647) ∧ ((((M37 281 (((36 * r2) + (6 * r9)) + ((M37 277 r2) - 1))) + r36) ≤ 9000 → Calls mX9_delays [(2, 275), (0, r2), (0, r9), (0, r32), (0, r36)] S0 M37 (fun r47 M48 => Q 0 M48)) ∧ (¬ (((M37 281 (((36 * r2) + (6 * r9)) + ((M37 277 r2) - 1))) + r36) ≤ 9000) → Q 0 (up2 (up2 M37 275 28 1) 275 27 l1))))))))))))) ∧ (¬ (M5 275 28) = 0 → Calls mX9_readWithin [(2, 275), (0, 1), (0, 0), (0, 0)] S0 M5 (fun r49 M50 => Calls mX9_wants [(2, 275), (0, 64)] S0 M50 (fun r51 M52 => (((M52 275 28) = 0 → ((0 : Int) ≤ r2 ∧ r2 < 8) ∧ (-2147483648 ≤ (M52 277 r2) - 1 ∧ (M52 277 r2) - 1 ≤ 2147483647) ∧ Calls mX9_readWithin [(2, 275), (0, 1), (0, 0), (0, (M52 277 r2) - 1)] S0 M52 (fun r56 M57 => Calls mX9_wants [(2, 275), (0, 43)] S0 M57 (fun r58 M59 => Calls mX9_readWithin [(2, 275), (0, 2), (0, 1), (0, 99)] S0 M59 (fun r60 M61 => ((¬ (M61 275 28) = 0 → Q 0 M61) ∧ ((M61 275 28) = 0 → (-2147483648 ≤ (M61 277 r2) - 1 ∧ (M61 277 r2) - 1 ≤ 2147483647) ∧ (-2147483648 ≤ 36 * r2 ∧ 36 * r2 ≤ 2147483647) ∧ (-2147483648 ≤ 6 * r49 ∧ 6 * r49 ≤ 2147483647) ∧ (-2147483648 ≤ (36 * r2) + (6 * r49) ∧ (36 * r2) + (6 * r49) ≤ 2147483647) ∧ (-2147483648 ≤ ((36 * r2) + (6 * r49)) + ((M61 277 r2) - 1) ∧ ((36 * r2) + (6 * r49)) + ((M61 277 r2) - 1) ≤ 2147483647) ∧ ((0 : Int) ≤ ((36 * r2) + (6 * r49)) + ((M61 277 r2) - 1) ∧ ((36 * r2) + (6 * r49)) + ((M61 277 r2) - 1) < 288) ∧ (-2147483648 ≤ (M61 281 (((36 * r2) + (6 * r49)) + ((M61 277 r2) - 1))) + r60 ∧ (M61 281 (((36 * r2) + (6 * r49)) + ((M61 277 r2) - 1))) + r60 ≤ 2147483647) ∧ ((((M61 281 (((36 * r2) + (6 * r49)) + ((M61 277 r2) - 1))) + r60) ≤ 9000 → Calls mX9_delays [(2, 275), (0, r2), (0, r49), (0, r56), (0, r60)] S0 M61 (fun r71 M72 => Q 0 M72)) ∧ (¬ (((M61 281 (((36 * r2) + (6 * r49)) + ((M61 277 r2) - 1))) + r60) ≤ 9000) → Q 0 (up2 (up2 M61 275 28 1) 275 27 l1))))))))) ∧ (¬ (M52 275 28) = 0 → Calls mX9_readWithin [(2, 275), (0, 1), (0, 0), (0, 0)] S0 M52 (fun r73 M74 => Calls mX9_wants [(2, 275), (0, 43)] S0 M74 (fun r75 M76 => Calls mX9_readWithin [(2, 275), (0, 2), (0, 1), (0, 99)] S0 M76 (fun r77 M78 => ((¬ (M78 275 28) = 0 → Q 0 M78) ∧ ((M78 275 28) = 0 → ((0 : Int) ≤ r2 ∧ r2 < 8) ∧ (-2147483648 ≤ (M78 277 r2) - 1 ∧ (M78 277 r2) - 1 ≤ 2147483647) ∧ (-2147483648 ≤ 36 * r2 ∧ 36 * r2 ≤ 2147483647) ∧ (-2147483648 ≤ 6 * r49 ∧ 6 * r49 ≤ 2147483647) ∧ (-2147483648 ≤ (36 * r2) + (6 * r49) ∧ (36 * r2) + (6 * r49) ≤ 2147483647) ∧ (-2147483648 ≤ ((36 * r2) + (6 * r49)) + ((M78 277 r2) - 1) ∧ ((36 * r2) + (6 * r49)) + ((M78 277 r2) - 1) ≤ 2147483647) ∧ ((0 : Int) ≤ ((36 * r2) + (6 * r49)) + ((M78 277 r2) - 1) ∧ ((36 * r2) + (6 * r49)) + ((M78 277 r2) - 1) < 288) ∧ (-2147483648 ≤ (M78 281 (((36 * r2) + (6 * r49)) + ((M78 277 r2) - 1))) + r77 ∧ (M78 281 (((36 * r2) + (6 * r49)) + ((M78 277 r2) - 1))) + r77 ≤ 2147483647) ∧ ((((M78 281 (((36 * r2) + (6 * r49)) + ((M78 277 r2) - 1))) + r77) ≤ 9000 → Calls mX9_delays [(2, 275), (0, r2), (0, r49), (0, r73), (0, r77)] S0 M78 (fun r89 M90 => Q 0 M90)) ∧ (¬ (((M78 281 (((36 * r2) + (6 * r49)) + ((M78 277 r2) - 1))) + r77) ≤ 9000) → Q 0 (up2 (up2 M78 275 28 1) 275 27 l1))))))))))))))))) : AW mX9_readDelay 0 [(2, 275), (0, l1), (9, 0), (9, 0), (9, 0), (9, 0)] M Q := by
  refine a_aload_n (pc := 0) dX9_readDelay_0 (by decide) rfl ?_
  refine a_iconst (pc := 1) dX9_readDelay_1 (by decide) ?_
  refine a_iconst (pc := 2) dX9_readDelay_2 (by decide) ?_
  refine a_aload_n (pc := 3) dX9_readDelay_3 (by decide) rfl ?_
  refine a_getI (y := 0) (pc := 4) dX9_readDelay_4 fl_RX9_98 (by decide) s0_275 (Or.inl rfl) rfl ?_
  refine a_iconst (pc := 7) dX9_readDelay_7 (by decide) ?_
  have ho1 := h.1
  replace h := h.2
  refine a_isub (pc := 8) dX9_readDelay_8 ho1 ?_
  refine p_callV (As := [(0, 1), (0, 0), (0, (M 275 0) - 1)]) (st := []) (st1 := fun r => [(0, r)])  (pc := 9) dX9_readDelay_9 ml_RX9_205 (by decide) s0_275 rfl (by decide) (Nat.le_of_ble_eq_true rfl) rfl (fun _ => rfl) h (fun r2 M3 h => ?_)
  refine a_istore_n (ls1 := [(2, 275), (0, l1), (0, r2), (9, 0), (9, 0), (9, 0)]) (pc := 12) dX9_readDelay_12 (by decide) (hp1 (t := 0) rfl (by decide)) rfl ?_
  refine a_aload_n (pc := 13) dX9_readDelay_13 (by decide) rfl ?_
  refine a_bipush (pc := 14) dX9_readDelay_14 (by decide) (by decide +kernel) ?_
  refine p_callV (As := [(0, 46)]) (st := []) (st1 := fun r => [])  (pc := 16) dX9_readDelay_16 ml_RX9_208 (by decide) s0_275 rfl (by decide) (Nat.le_of_ble_eq_true rfl) rfl (fun _ => rfl) h (fun r4 M5 h => ?_)
  refine a_aload_n (pc := 19) dX9_readDelay_19 (by decide) rfl ?_
  refine a_iconst (pc := 20) dX9_readDelay_20 (by decide) ?_
  refine a_iconst (pc := 21) dX9_readDelay_21 (by decide) ?_
  refine a_aload_n (pc := 22) dX9_readDelay_22 (by decide) rfl ?_
  refine a_getI (y := 28) (pc := 23) dX9_readDelay_23 fl_RX9_179 (by decide) s0_275 (Or.inr rfl) rfl ?_
  refine a_if_eq (tgt := 33) (pc := 26) dX9_readDelay_26 (by decide) (fun hc6 => ?_) (fun hc6 => ?_)
  · replace h := h.1 hc6
    refine a_aload_n (pc := 33) dX9_readDelay_33 (by decide) rfl ?_
    refine a_getR (y := 279) (pc := 34) dX9_readDelay_34 fl_RX9_19 (by decide) s0_275 rfl rfl ?_
    refine a_iload_n (pc := 37) dX9_readDelay_37 rfl ?_
    have ho7 := h.1
    replace h := h.2
    refine a_iald (pc := 38) dX9_readDelay_38 (by decide) s0_279 ho7.1 ho7.2 ?_
    refine a_iconst (pc := 39) dX9_readDelay_39 (by decide) ?_
    have ho8 := h.1
    replace h := h.2
    refine a_isub (pc := 40) dX9_readDelay_40 ho8 ?_
    refine p_callV (As := [(0, 1), (0, 0), (0, (M5 279 r2) - 1)]) (st := []) (st1 := fun r => [(0, r)])  (pc := 41) dX9_readDelay_41 ml_RX9_205 (by decide) s0_275 rfl (by decide) (Nat.le_of_ble_eq_true rfl) rfl (fun _ => rfl) h (fun r9 M10 h => ?_)
    refine a_istore_n (ls1 := [(2, 275), (0, l1), (0, r2), (0, r9), (9, 0), (9, 0)]) (pc := 44) dX9_readDelay_44 (by decide) (hp1 (t := 0) rfl (by decide)) rfl ?_
    refine a_aload_n (pc := 45) dX9_readDelay_45 (by decide) rfl ?_
    refine a_bipush (pc := 46) dX9_readDelay_46 (by decide) (by decide +kernel) ?_
    refine p_callV (As := [(0, 64)]) (st := []) (st1 := fun r => [])  (pc := 48) dX9_readDelay_48 ml_RX9_208 (by decide) s0_275 rfl (by decide) (Nat.le_of_ble_eq_true rfl) rfl (fun _ => rfl) h (fun r11 M12 h => ?_)
    refine a_aload_n (pc := 51) dX9_readDelay_51 (by decide) rfl ?_
    refine a_iconst (pc := 52) dX9_readDelay_52 (by decide) ?_
    refine a_iconst (pc := 53) dX9_readDelay_53 (by decide) ?_
    refine a_aload_n (pc := 54) dX9_readDelay_54 (by decide) rfl ?_
    refine a_getI (y := 28) (pc := 55) dX9_readDelay_55 fl_RX9_179 (by decide) s0_275 (Or.inr rfl) rfl ?_
    refine a_if_eq (tgt := 65) (pc := 58) dX9_readDelay_58 (by decide) (fun hc13 => ?_) (fun hc13 => ?_)
    · replace h := h.1 hc13
      refine a_aload_n (pc := 65) dX9_readDelay_65 (by decide) rfl ?_
      refine a_getR (y := 277) (pc := 66) dX9_readDelay_66 fl_RX9_13 (by decide) s0_275 rfl rfl ?_
      refine a_iload_n (pc := 69) dX9_readDelay_69 rfl ?_
      refine a_iald (pc := 70) dX9_readDelay_70 (by decide) s0_277 ho7.1 ho7.2 ?_
      refine a_iconst (pc := 71) dX9_readDelay_71 (by decide) ?_
      have ho14 := h.1
      replace h := h.2
      refine a_isub (pc := 72) dX9_readDelay_72 ho14 ?_
      refine p_callV (As := [(0, 1), (0, 0), (0, (M12 277 r2) - 1)]) (st := []) (st1 := fun r => [(0, r)])  (pc := 73) dX9_readDelay_73 ml_RX9_205 (by decide) s0_275 rfl (by decide) (Nat.le_of_ble_eq_true rfl) rfl (fun _ => rfl) h (fun r15 M16 h => ?_)
      refine a_istore (ls1 := [(2, 275), (0, l1), (0, r2), (0, r9), (0, r15), (9, 0)]) (pc := 76) dX9_readDelay_76 (by decide) (hp1 (t := 0) rfl (by decide)) rfl ?_
      refine a_aload_n (pc := 78) dX9_readDelay_78 (by decide) rfl ?_
      refine a_bipush (pc := 79) dX9_readDelay_79 (by decide) (by decide +kernel) ?_
      refine p_callV (As := [(0, 43)]) (st := []) (st1 := fun r => [])  (pc := 81) dX9_readDelay_81 ml_RX9_208 (by decide) s0_275 rfl (by decide) (Nat.le_of_ble_eq_true rfl) rfl (fun _ => rfl) h (fun r17 M18 h => ?_)
      refine a_aload_n (pc := 84) dX9_readDelay_84 (by decide) rfl ?_
      refine a_iconst (pc := 85) dX9_readDelay_85 (by decide) ?_
      refine a_iconst (pc := 86) dX9_readDelay_86 (by decide) ?_
      refine a_bipush (pc := 87) dX9_readDelay_87 (by decide) (by decide +kernel) ?_
      refine p_callV (As := [(0, 2), (0, 1), (0, 99)]) (st := []) (st1 := fun r => [(0, r)])  (pc := 89) dX9_readDelay_89 ml_RX9_205 (by decide) s0_275 rfl (by decide) (Nat.le_of_ble_eq_true rfl) rfl (fun _ => rfl) h (fun r19 M20 h => ?_)
      refine a_istore (ls1 := [(2, 275), (0, l1), (0, r2), (0, r9), (0, r15), (0, r19)]) (pc := 92) dX9_readDelay_92 (by decide) (hp1 (t := 0) rfl (by decide)) rfl ?_
      refine a_aload_n (pc := 94) dX9_readDelay_94 (by decide) rfl ?_
      refine a_aload_n (pc := 95) dX9_readDelay_95 (by decide) rfl ?_
      refine a_getI (y := 28) (pc := 96) dX9_readDelay_96 fl_RX9_179 (by decide) s0_275 (Or.inr rfl) rfl ?_
      refine a_if_ne (tgt := 113) (pc := 99) dX9_readDelay_99 (by decide) (fun hc21 => ?_) (fun hc21 => ?_)
      · replace h := h.1 hc21
        refine a_iconst (pc := 113) dX9_readDelay_113 (by decide) ?_
        refine a_goto (tgt := 118) (pc := 114) dX9_readDelay_114 (by decide) ?_
        refine a_iload_n (pc := 118) dX9_readDelay_118 rfl ?_
        refine p_inlV (Ex := _) (As := [(0, 1), (0, l1)]) (st := []) (st1 := fun r => [])  (pc := 119) dX9_readDelay_119 ml_RX9_201 (by decide) s0_275 rfl (by decide) (Nat.le_of_ble_eq_true rfl) rfl (fun _ => rfl) (by decide) (by decide) (Nat.le_of_ble_eq_true rfl) rfl ?_
        refine a_aload_n (pc := 0) dX9_mustBe_0 (by decide) rfl ?_
        refine a_getI (y := 28) (pc := 1) dX9_mustBe_1 fl_RX9_179 (by decide) s0_275 (Or.inr rfl) rfl ?_
        refine a_if_ne (tgt := 21) (pc := 4) dX9_mustBe_4 (by decide) (fun _ => ?_) (fun hc => absurd hc hc21)
        refine a_vret (pc := 21) dX9_mustBe_21 rfl rfl (Nat.le_of_ble_eq_true rfl) ⟨rfl, ?_⟩
        refine a_aload_n (pc := 122) dX9_readDelay_122 (by decide) rfl ?_
        refine a_getI (y := 28) (pc := 123) dX9_readDelay_123 fl_RX9_179 (by decide) s0_275 (Or.inr rfl) rfl ?_
        refine a_if_ne (tgt := 139) (pc := 126) dX9_readDelay_126 (by decide) (fun _ => ?_) (fun hc => absurd hc hc21)
        exact a_vret (pc := 139) dX9_readDelay_139 rfl rfl (Nat.le_of_ble_eq_true rfl) ⟨rfl, h⟩
      · replace h := h.2 hc21
        refine a_aload_n (pc := 102) dX9_readDelay_102 (by decide) rfl ?_
        refine a_iload_n (pc := 103) dX9_readDelay_103 rfl ?_
        refine a_iload_n (pc := 104) dX9_readDelay_104 rfl ?_
        refine a_iload (pc := 105) dX9_readDelay_105 rfl ?_
        refine p_inlV (Ex := _) (As := [(0, r2), (0, r9), (0, r19)]) (st := [(2, 275)]) (st1 := fun r => [(0, r), (2, 275)])  (pc := 107) dX9_readDelay_107 ml_RX9_211 (by decide) s0_275 rfl (by decide) (Nat.le_of_ble_eq_true rfl) rfl (fun _ => rfl) (by decide) (by decide) (Nat.le_of_ble_eq_true rfl) rfl ?_
        refine a_aload_n (pc := 0) dX9_isTooLate_0 (by decide) rfl ?_
        refine a_iload_n (pc := 1) dX9_isTooLate_1 rfl ?_
        refine a_iload_n (pc := 2) dX9_isTooLate_2 rfl ?_
        refine a_aload_n (pc := 3) dX9_isTooLate_3 (by decide) rfl ?_
        refine a_getR (y := 277) (pc := 4) dX9_isTooLate_4 fl_RX9_13 (by decide) s0_275 rfl rfl ?_
        refine a_iload_n (pc := 7) dX9_isTooLate_7 rfl ?_
        refine a_iald (pc := 8) dX9_isTooLate_8 (by decide) s0_277 ho7.1 ho7.2 ?_
        refine a_iconst (pc := 9) dX9_isTooLate_9 (by decide) ?_
        have ho22 := h.1
        replace h := h.2
        refine a_isub (pc := 10) dX9_isTooLate_10 ho22 ?_
        refine p_inlV (Ex := _) (As := [(0, r2), (0, r9), (0, (M20 277 r2) - 1)]) (st := []) (st1 := fun r => [(0, r)])  (pc := 11) dX9_isTooLate_11 ml_RX9_120 (by decide) s0_275 rfl (by decide) (Nat.le_of_ble_eq_true rfl) rfl (fun _ => rfl) (by decide) (by decide) (Nat.le_of_ble_eq_true rfl) rfl ?_
        refine a_aload_n (pc := 0) dX9_minuteAt_0 (by decide) rfl ?_
        refine a_getR (y := 281) (pc := 1) dX9_minuteAt_1 fl_RX9_25 (by decide) s0_275 rfl rfl ?_
        refine a_bipush (pc := 4) dX9_minuteAt_4 (by decide) (by decide +kernel) ?_
        refine a_iload_n (pc := 6) dX9_minuteAt_6 rfl ?_
        have ho23 := h.1
        replace h := h.2
        refine a_imul (pc := 7) dX9_minuteAt_7 ho23 ?_
        refine a_bipush (pc := 8) dX9_minuteAt_8 (by decide) (by decide +kernel) ?_
        refine a_iload_n (pc := 10) dX9_minuteAt_10 rfl ?_
        have ho24 := h.1
        replace h := h.2
        refine a_imul (pc := 11) dX9_minuteAt_11 ho24 ?_
        have ho25 := h.1
        replace h := h.2
        refine a_iadd (pc := 12) dX9_minuteAt_12 ho25 ?_
        refine a_iload_n (pc := 13) dX9_minuteAt_13 rfl ?_
        have ho26 := h.1
        replace h := h.2
        refine a_iadd (pc := 14) dX9_minuteAt_14 ho26 ?_
        have ho27 := h.1
        replace h := h.2
        refine a_iald (pc := 15) dX9_minuteAt_15 (by decide) s0_281 ho27.1 ho27.2 ?_
        refine a_ireti (pc := 16) dX9_minuteAt_16 rfl rfl (Nat.le_of_ble_eq_true rfl) ⟨rfl, ?_⟩
        refine a_iload_n (pc := 14) dX9_isTooLate_14 rfl ?_
        have ho28 := h.1
        replace h := h.2
        refine a_iadd (pc := 15) dX9_isTooLate_15 ho28 ?_
        refine a_sipush (pc := 16) dX9_isTooLate_16 (by decide) (by decide +kernel) ?_
        refine a_icmp_le (tgt := 26) (pc := 19) dX9_isTooLate_19 (by decide) (fun hc29 => ?_) (fun hc29 => ?_)
        · replace h := h.1 hc29
          refine a_iconst (pc := 26) dX9_isTooLate_26 (by decide) ?_
          refine a_iretz (pc := 27) dX9_isTooLate_27 rfl rfl (Nat.le_of_ble_eq_true rfl) (by decide) ⟨rfl, ?_⟩
          refine a_if_ne (tgt := 117) (pc := 110) dX9_readDelay_110 (by decide) (fun hc => absurd rfl hc) (fun _ => ?_)
          refine a_iconst (pc := 113) dX9_readDelay_113 (by decide) ?_
          refine a_goto (tgt := 118) (pc := 114) dX9_readDelay_114 (by decide) ?_
          refine a_iload_n (pc := 118) dX9_readDelay_118 rfl ?_
          refine p_inlV (Ex := _) (As := [(0, 1), (0, l1)]) (st := []) (st1 := fun r => [])  (pc := 119) dX9_readDelay_119 ml_RX9_201 (by decide) s0_275 rfl (by decide) (Nat.le_of_ble_eq_true rfl) rfl (fun _ => rfl) (by decide) (by decide) (Nat.le_of_ble_eq_true rfl) rfl ?_
          refine a_aload_n (pc := 0) dX9_mustBe_0 (by decide) rfl ?_
          refine a_getI (y := 28) (pc := 1) dX9_mustBe_1 fl_RX9_179 (by decide) s0_275 (Or.inr rfl) rfl ?_
          refine a_if_ne (tgt := 21) (pc := 4) dX9_mustBe_4 (by decide) (fun hc => absurd hc21 hc) (fun _ => ?_)
          refine a_iload_n (pc := 7) dX9_mustBe_7 rfl ?_
          refine a_if_ne (tgt := 21) (pc := 8) dX9_mustBe_8 (by decide) (fun _ => ?_) (fun hc => absurd hc (by decide))
          refine a_vret (pc := 21) dX9_mustBe_21 rfl rfl (Nat.le_of_ble_eq_true rfl) ⟨rfl, ?_⟩
          refine a_aload_n (pc := 122) dX9_readDelay_122 (by decide) rfl ?_
          refine a_getI (y := 28) (pc := 123) dX9_readDelay_123 fl_RX9_179 (by decide) s0_275 (Or.inr rfl) rfl ?_
          refine a_if_ne (tgt := 139) (pc := 126) dX9_readDelay_126 (by decide) (fun hc => absurd hc21 hc) (fun _ => ?_)
          refine a_aload_n (pc := 129) dX9_readDelay_129 (by decide) rfl ?_
          refine a_iload_n (pc := 130) dX9_readDelay_130 rfl ?_
          refine a_iload_n (pc := 131) dX9_readDelay_131 rfl ?_
          refine a_iload (pc := 132) dX9_readDelay_132 rfl ?_
          refine a_iload (pc := 134) dX9_readDelay_134 rfl ?_
          refine p_callV (As := [(0, r2), (0, r9), (0, r15), (0, r19)]) (st := []) (st1 := fun r => [])  (pc := 136) dX9_readDelay_136 ml_RX9_214 (by decide) s0_275 rfl (by decide) (Nat.le_of_ble_eq_true rfl) rfl (fun _ => rfl) h (fun r30 M31 h => ?_)
          exact a_vret (pc := 139) dX9_readDelay_139 rfl rfl (Nat.le_of_ble_eq_true rfl) ⟨rfl, h⟩
        · replace h := h.2 hc29
          refine a_iconst (pc := 22) dX9_isTooLate_22 (by decide) ?_
          refine a_goto (tgt := 27) (pc := 23) dX9_isTooLate_23 (by decide) ?_
          refine a_iretz (pc := 27) dX9_isTooLate_27 rfl rfl (Nat.le_of_ble_eq_true rfl) (by decide) ⟨rfl, ?_⟩
          refine a_if_ne (tgt := 117) (pc := 110) dX9_readDelay_110 (by decide) (fun _ => ?_) (fun hc => absurd hc (by decide))
          refine a_iconst (pc := 117) dX9_readDelay_117 (by decide) ?_
          refine a_iload_n (pc := 118) dX9_readDelay_118 rfl ?_
          refine p_inlV (Ex := _) (As := [(0, 0), (0, l1)]) (st := []) (st1 := fun r => [])  (pc := 119) dX9_readDelay_119 ml_RX9_201 (by decide) s0_275 rfl (by decide) (Nat.le_of_ble_eq_true rfl) rfl (fun _ => rfl) (by decide) (by decide) (Nat.le_of_ble_eq_true rfl) rfl ?_
          refine a_aload_n (pc := 0) dX9_mustBe_0 (by decide) rfl ?_
          refine a_getI (y := 28) (pc := 1) dX9_mustBe_1 fl_RX9_179 (by decide) s0_275 (Or.inr rfl) rfl ?_
          refine a_if_ne (tgt := 21) (pc := 4) dX9_mustBe_4 (by decide) (fun hc => absurd hc21 hc) (fun _ => ?_)
          refine a_iload_n (pc := 7) dX9_mustBe_7 rfl ?_
          refine a_if_ne (tgt := 21) (pc := 8) dX9_mustBe_8 (by decide) (fun hc => absurd rfl hc) (fun _ => ?_)
          refine a_aload_n (pc := 11) dX9_mustBe_11 (by decide) rfl ?_
          refine a_iconst (pc := 12) dX9_mustBe_12 (by decide) ?_
          refine a_putZ (y := 28) (pc := 13) dX9_mustBe_13 fl_RX9_179 (by decide) s0_275 rfl rfl (tyX9_ok 28 (by decide)) rfl (by decide) ?_
          refine a_aload_n (pc := 16) dX9_mustBe_16 (by decide) rfl ?_
          refine a_iload_n (pc := 17) dX9_mustBe_17 rfl ?_
          refine a_putI (y := 27) (pc := 18) dX9_mustBe_18 fl_RX9_176 (by decide) s0_275 rfl rfl (tyX9_ok 27 (by decide)) rfl ?_
          refine a_vret (pc := 21) dX9_mustBe_21 rfl rfl (Nat.le_of_ble_eq_true rfl) ⟨rfl, ?_⟩
          refine a_aload_n (pc := 122) dX9_readDelay_122 (by decide) rfl ?_
          refine a_getI (y := 28) (pc := 123) dX9_readDelay_123 fl_RX9_179 (by decide) s0_275 (Or.inr rfl) rfl ?_
          refine a_eq (y := 1) rfl ?_
          refine a_if_ne (tgt := 139) (pc := 126) dX9_readDelay_126 (by decide) (fun _ => ?_) (fun hc => absurd hc (by decide))
          exact a_vret (pc := 139) dX9_readDelay_139 rfl rfl (Nat.le_of_ble_eq_true rfl) ⟨rfl, h⟩
    · replace h := h.2 hc13
      refine a_iconst (pc := 61) dX9_readDelay_61 (by decide) ?_
      refine a_goto (tgt := 73) (pc := 62) dX9_readDelay_62 (by decide) ?_
      refine p_callV (As := [(0, 1), (0, 0), (0, 0)]) (st := []) (st1 := fun r => [(0, r)])  (pc := 73) dX9_readDelay_73 ml_RX9_205 (by decide) s0_275 rfl (by decide) (Nat.le_of_ble_eq_true rfl) rfl (fun _ => rfl) h (fun r32 M33 h => ?_)
      refine a_istore (ls1 := [(2, 275), (0, l1), (0, r2), (0, r9), (0, r32), (9, 0)]) (pc := 76) dX9_readDelay_76 (by decide) (hp1 (t := 0) rfl (by decide)) rfl ?_
      refine a_aload_n (pc := 78) dX9_readDelay_78 (by decide) rfl ?_
      refine a_bipush (pc := 79) dX9_readDelay_79 (by decide) (by decide +kernel) ?_
      refine p_callV (As := [(0, 43)]) (st := []) (st1 := fun r => [])  (pc := 81) dX9_readDelay_81 ml_RX9_208 (by decide) s0_275 rfl (by decide) (Nat.le_of_ble_eq_true rfl) rfl (fun _ => rfl) h (fun r34 M35 h => ?_)
      refine a_aload_n (pc := 84) dX9_readDelay_84 (by decide) rfl ?_
      refine a_iconst (pc := 85) dX9_readDelay_85 (by decide) ?_
      refine a_iconst (pc := 86) dX9_readDelay_86 (by decide) ?_
      refine a_bipush (pc := 87) dX9_readDelay_87 (by decide) (by decide +kernel) ?_
      refine p_callV (As := [(0, 2), (0, 1), (0, 99)]) (st := []) (st1 := fun r => [(0, r)])  (pc := 89) dX9_readDelay_89 ml_RX9_205 (by decide) s0_275 rfl (by decide) (Nat.le_of_ble_eq_true rfl) rfl (fun _ => rfl) h (fun r36 M37 h => ?_)
      refine a_istore (ls1 := [(2, 275), (0, l1), (0, r2), (0, r9), (0, r32), (0, r36)]) (pc := 92) dX9_readDelay_92 (by decide) (hp1 (t := 0) rfl (by decide)) rfl ?_
      refine a_aload_n (pc := 94) dX9_readDelay_94 (by decide) rfl ?_
      refine a_aload_n (pc := 95) dX9_readDelay_95 (by decide) rfl ?_
      refine a_getI (y := 28) (pc := 96) dX9_readDelay_96 fl_RX9_179 (by decide) s0_275 (Or.inr rfl) rfl ?_
      refine a_if_ne (tgt := 113) (pc := 99) dX9_readDelay_99 (by decide) (fun hc38 => ?_) (fun hc38 => ?_)
      · replace h := h.1 hc38
        refine a_iconst (pc := 113) dX9_readDelay_113 (by decide) ?_
        refine a_goto (tgt := 118) (pc := 114) dX9_readDelay_114 (by decide) ?_
        refine a_iload_n (pc := 118) dX9_readDelay_118 rfl ?_
        refine p_inlV (Ex := _) (As := [(0, 1), (0, l1)]) (st := []) (st1 := fun r => [])  (pc := 119) dX9_readDelay_119 ml_RX9_201 (by decide) s0_275 rfl (by decide) (Nat.le_of_ble_eq_true rfl) rfl (fun _ => rfl) (by decide) (by decide) (Nat.le_of_ble_eq_true rfl) rfl ?_
        refine a_aload_n (pc := 0) dX9_mustBe_0 (by decide) rfl ?_
        refine a_getI (y := 28) (pc := 1) dX9_mustBe_1 fl_RX9_179 (by decide) s0_275 (Or.inr rfl) rfl ?_
        refine a_if_ne (tgt := 21) (pc := 4) dX9_mustBe_4 (by decide) (fun _ => ?_) (fun hc => absurd hc hc38)
        refine a_vret (pc := 21) dX9_mustBe_21 rfl rfl (Nat.le_of_ble_eq_true rfl) ⟨rfl, ?_⟩
        refine a_aload_n (pc := 122) dX9_readDelay_122 (by decide) rfl ?_
        refine a_getI (y := 28) (pc := 123) dX9_readDelay_123 fl_RX9_179 (by decide) s0_275 (Or.inr rfl) rfl ?_
        refine a_if_ne (tgt := 139) (pc := 126) dX9_readDelay_126 (by decide) (fun _ => ?_) (fun hc => absurd hc hc38)
        exact a_vret (pc := 139) dX9_readDelay_139 rfl rfl (Nat.le_of_ble_eq_true rfl) ⟨rfl, h⟩
      · replace h := h.2 hc38
        refine a_aload_n (pc := 102) dX9_readDelay_102 (by decide) rfl ?_
        refine a_iload_n (pc := 103) dX9_readDelay_103 rfl ?_
        refine a_iload_n (pc := 104) dX9_readDelay_104 rfl ?_
        refine a_iload (pc := 105) dX9_readDelay_105 rfl ?_
        refine p_inlV (Ex := _) (As := [(0, r2), (0, r9), (0, r36)]) (st := [(2, 275)]) (st1 := fun r => [(0, r), (2, 275)])  (pc := 107) dX9_readDelay_107 ml_RX9_211 (by decide) s0_275 rfl (by decide) (Nat.le_of_ble_eq_true rfl) rfl (fun _ => rfl) (by decide) (by decide) (Nat.le_of_ble_eq_true rfl) rfl ?_
        refine a_aload_n (pc := 0) dX9_isTooLate_0 (by decide) rfl ?_
        refine a_iload_n (pc := 1) dX9_isTooLate_1 rfl ?_
        refine a_iload_n (pc := 2) dX9_isTooLate_2 rfl ?_
        refine a_aload_n (pc := 3) dX9_isTooLate_3 (by decide) rfl ?_
        refine a_getR (y := 277) (pc := 4) dX9_isTooLate_4 fl_RX9_13 (by decide) s0_275 rfl rfl ?_
        refine a_iload_n (pc := 7) dX9_isTooLate_7 rfl ?_
        refine a_iald (pc := 8) dX9_isTooLate_8 (by decide) s0_277 ho7.1 ho7.2 ?_
        refine a_iconst (pc := 9) dX9_isTooLate_9 (by decide) ?_
        have ho39 := h.1
        replace h := h.2
        refine a_isub (pc := 10) dX9_isTooLate_10 ho39 ?_
        refine p_inlV (Ex := _) (As := [(0, r2), (0, r9), (0, (M37 277 r2) - 1)]) (st := []) (st1 := fun r => [(0, r)])  (pc := 11) dX9_isTooLate_11 ml_RX9_120 (by decide) s0_275 rfl (by decide) (Nat.le_of_ble_eq_true rfl) rfl (fun _ => rfl) (by decide) (by decide) (Nat.le_of_ble_eq_true rfl) rfl ?_
        refine a_aload_n (pc := 0) dX9_minuteAt_0 (by decide) rfl ?_
        refine a_getR (y := 281) (pc := 1) dX9_minuteAt_1 fl_RX9_25 (by decide) s0_275 rfl rfl ?_
        refine a_bipush (pc := 4) dX9_minuteAt_4 (by decide) (by decide +kernel) ?_
        refine a_iload_n (pc := 6) dX9_minuteAt_6 rfl ?_
        have ho40 := h.1
        replace h := h.2
        refine a_imul (pc := 7) dX9_minuteAt_7 ho40 ?_
        refine a_bipush (pc := 8) dX9_minuteAt_8 (by decide) (by decide +kernel) ?_
        refine a_iload_n (pc := 10) dX9_minuteAt_10 rfl ?_
        have ho41 := h.1
        replace h := h.2
        refine a_imul (pc := 11) dX9_minuteAt_11 ho41 ?_
        have ho42 := h.1
        replace h := h.2
        refine a_iadd (pc := 12) dX9_minuteAt_12 ho42 ?_
        refine a_iload_n (pc := 13) dX9_minuteAt_13 rfl ?_
        have ho43 := h.1
        replace h := h.2
        refine a_iadd (pc := 14) dX9_minuteAt_14 ho43 ?_
        have ho44 := h.1
        replace h := h.2
        refine a_iald (pc := 15) dX9_minuteAt_15 (by decide) s0_281 ho44.1 ho44.2 ?_
        refine a_ireti (pc := 16) dX9_minuteAt_16 rfl rfl (Nat.le_of_ble_eq_true rfl) ⟨rfl, ?_⟩
        refine a_iload_n (pc := 14) dX9_isTooLate_14 rfl ?_
        have ho45 := h.1
        replace h := h.2
        refine a_iadd (pc := 15) dX9_isTooLate_15 ho45 ?_
        refine a_sipush (pc := 16) dX9_isTooLate_16 (by decide) (by decide +kernel) ?_
        refine a_icmp_le (tgt := 26) (pc := 19) dX9_isTooLate_19 (by decide) (fun hc46 => ?_) (fun hc46 => ?_)
        · replace h := h.1 hc46
          refine a_iconst (pc := 26) dX9_isTooLate_26 (by decide) ?_
          refine a_iretz (pc := 27) dX9_isTooLate_27 rfl rfl (Nat.le_of_ble_eq_true rfl) (by decide) ⟨rfl, ?_⟩
          refine a_if_ne (tgt := 117) (pc := 110) dX9_readDelay_110 (by decide) (fun hc => absurd rfl hc) (fun _ => ?_)
          refine a_iconst (pc := 113) dX9_readDelay_113 (by decide) ?_
          refine a_goto (tgt := 118) (pc := 114) dX9_readDelay_114 (by decide) ?_
          refine a_iload_n (pc := 118) dX9_readDelay_118 rfl ?_
          refine p_inlV (Ex := _) (As := [(0, 1), (0, l1)]) (st := []) (st1 := fun r => [])  (pc := 119) dX9_readDelay_119 ml_RX9_201 (by decide) s0_275 rfl (by decide) (Nat.le_of_ble_eq_true rfl) rfl (fun _ => rfl) (by decide) (by decide) (Nat.le_of_ble_eq_true rfl) rfl ?_
          refine a_aload_n (pc := 0) dX9_mustBe_0 (by decide) rfl ?_
          refine a_getI (y := 28) (pc := 1) dX9_mustBe_1 fl_RX9_179 (by decide) s0_275 (Or.inr rfl) rfl ?_
          refine a_if_ne (tgt := 21) (pc := 4) dX9_mustBe_4 (by decide) (fun hc => absurd hc38 hc) (fun _ => ?_)
          refine a_iload_n (pc := 7) dX9_mustBe_7 rfl ?_
          refine a_if_ne (tgt := 21) (pc := 8) dX9_mustBe_8 (by decide) (fun _ => ?_) (fun hc => absurd hc (by decide))
          refine a_vret (pc := 21) dX9_mustBe_21 rfl rfl (Nat.le_of_ble_eq_true rfl) ⟨rfl, ?_⟩
          refine a_aload_n (pc := 122) dX9_readDelay_122 (by decide) rfl ?_
          refine a_getI (y := 28) (pc := 123) dX9_readDelay_123 fl_RX9_179 (by decide) s0_275 (Or.inr rfl) rfl ?_
          refine a_if_ne (tgt := 139) (pc := 126) dX9_readDelay_126 (by decide) (fun hc => absurd hc38 hc) (fun _ => ?_)
          refine a_aload_n (pc := 129) dX9_readDelay_129 (by decide) rfl ?_
          refine a_iload_n (pc := 130) dX9_readDelay_130 rfl ?_
          refine a_iload_n (pc := 131) dX9_readDelay_131 rfl ?_
          refine a_iload (pc := 132) dX9_readDelay_132 rfl ?_
          refine a_iload (pc := 134) dX9_readDelay_134 rfl ?_
          refine p_callV (As := [(0, r2), (0, r9), (0, r32), (0, r36)]) (st := []) (st1 := fun r => [])  (pc := 136) dX9_readDelay_136 ml_RX9_214 (by decide) s0_275 rfl (by decide) (Nat.le_of_ble_eq_true rfl) rfl (fun _ => rfl) h (fun r47 M48 h => ?_)
          exact a_vret (pc := 139) dX9_readDelay_139 rfl rfl (Nat.le_of_ble_eq_true rfl) ⟨rfl, h⟩
        · replace h := h.2 hc46
          refine a_iconst (pc := 22) dX9_isTooLate_22 (by decide) ?_
          refine a_goto (tgt := 27) (pc := 23) dX9_isTooLate_23 (by decide) ?_
          refine a_iretz (pc := 27) dX9_isTooLate_27 rfl rfl (Nat.le_of_ble_eq_true rfl) (by decide) ⟨rfl, ?_⟩
          refine a_if_ne (tgt := 117) (pc := 110) dX9_readDelay_110 (by decide) (fun _ => ?_) (fun hc => absurd hc (by decide))
          refine a_iconst (pc := 117) dX9_readDelay_117 (by decide) ?_
          refine a_iload_n (pc := 118) dX9_readDelay_118 rfl ?_
          refine p_inlV (Ex := _) (As := [(0, 0), (0, l1)]) (st := []) (st1 := fun r => [])  (pc := 119) dX9_readDelay_119 ml_RX9_201 (by decide) s0_275 rfl (by decide) (Nat.le_of_ble_eq_true rfl) rfl (fun _ => rfl) (by decide) (by decide) (Nat.le_of_ble_eq_true rfl) rfl ?_
          refine a_aload_n (pc := 0) dX9_mustBe_0 (by decide) rfl ?_
          refine a_getI (y := 28) (pc := 1) dX9_mustBe_1 fl_RX9_179 (by decide) s0_275 (Or.inr rfl) rfl ?_
          refine a_if_ne (tgt := 21) (pc := 4) dX9_mustBe_4 (by decide) (fun hc => absurd hc38 hc) (fun _ => ?_)
          refine a_iload_n (pc := 7) dX9_mustBe_7 rfl ?_
          refine a_if_ne (tgt := 21) (pc := 8) dX9_mustBe_8 (by decide) (fun hc => absurd rfl hc) (fun _ => ?_)
          refine a_aload_n (pc := 11) dX9_mustBe_11 (by decide) rfl ?_
          refine a_iconst (pc := 12) dX9_mustBe_12 (by decide) ?_
          refine a_putZ (y := 28) (pc := 13) dX9_mustBe_13 fl_RX9_179 (by decide) s0_275 rfl rfl (tyX9_ok 28 (by decide)) rfl (by decide) ?_
          refine a_aload_n (pc := 16) dX9_mustBe_16 (by decide) rfl ?_
          refine a_iload_n (pc := 17) dX9_mustBe_17 rfl ?_
          refine a_putI (y := 27) (pc := 18) dX9_mustBe_18 fl_RX9_176 (by decide) s0_275 rfl rfl (tyX9_ok 27 (by decide)) rfl ?_
          refine a_vret (pc := 21) dX9_mustBe_21 rfl rfl (Nat.le_of_ble_eq_true rfl) ⟨rfl, ?_⟩
          refine a_aload_n (pc := 122) dX9_readDelay_122 (by decide) rfl ?_
          refine a_getI (y := 28) (pc := 123) dX9_readDelay_123 fl_RX9_179 (by decide) s0_275 (Or.inr rfl) rfl ?_
          refine a_eq (y := 1) rfl ?_
          refine a_if_ne (tgt := 139) (pc := 126) dX9_readDelay_126 (by decide) (fun _ => ?_) (fun hc => absurd hc (by decide))
          exact a_vret (pc := 139) dX9_readDelay_139 rfl rfl (Nat.le_of_ble_eq_true rfl) ⟨rfl, h⟩
  · replace h := h.2 hc6
    refine a_iconst (pc := 29) dX9_readDelay_29 (by decide) ?_
    refine a_goto (tgt := 41) (pc := 30) dX9_readDelay_30 (by decide) ?_
    refine p_callV (As := [(0, 1), (0, 0), (0, 0)]) (st := []) (st1 := fun r => [(0, r)])  (pc := 41) dX9_readDelay_41 ml_RX9_205 (by decide) s0_275 rfl (by decide) (Nat.le_of_ble_eq_true rfl) rfl (fun _ => rfl) h (fun r49 M50 h => ?_)
    refine a_istore_n (ls1 := [(2, 275), (0, l1), (0, r2), (0, r49), (9, 0), (9, 0)]) (pc := 44) dX9_readDelay_44 (by decide) (hp1 (t := 0) rfl (by decide)) rfl ?_
    refine a_aload_n (pc := 45) dX9_readDelay_45 (by decide) rfl ?_
    refine a_bipush (pc := 46) dX9_readDelay_46 (by decide) (by decide +kernel) ?_
    refine p_callV (As := [(0, 64)]) (st := []) (st1 := fun r => [])  (pc := 48) dX9_readDelay_48 ml_RX9_208 (by decide) s0_275 rfl (by decide) (Nat.le_of_ble_eq_true rfl) rfl (fun _ => rfl) h (fun r51 M52 h => ?_)
    refine a_aload_n (pc := 51) dX9_readDelay_51 (by decide) rfl ?_
    refine a_iconst (pc := 52) dX9_readDelay_52 (by decide) ?_
    refine a_iconst (pc := 53) dX9_readDelay_53 (by decide) ?_
    refine a_aload_n (pc := 54) dX9_readDelay_54 (by decide) rfl ?_
    refine a_getI (y := 28) (pc := 55) dX9_readDelay_55 fl_RX9_179 (by decide) s0_275 (Or.inr rfl) rfl ?_
    refine a_if_eq (tgt := 65) (pc := 58) dX9_readDelay_58 (by decide) (fun hc53 => ?_) (fun hc53 => ?_)
    · replace h := h.1 hc53
      refine a_aload_n (pc := 65) dX9_readDelay_65 (by decide) rfl ?_
      refine a_getR (y := 277) (pc := 66) dX9_readDelay_66 fl_RX9_13 (by decide) s0_275 rfl rfl ?_
      refine a_iload_n (pc := 69) dX9_readDelay_69 rfl ?_
      have ho54 := h.1
      replace h := h.2
      refine a_iald (pc := 70) dX9_readDelay_70 (by decide) s0_277 ho54.1 ho54.2 ?_
      refine a_iconst (pc := 71) dX9_readDelay_71 (by decide) ?_
      have ho55 := h.1
      replace h := h.2
      refine a_isub (pc := 72) dX9_readDelay_72 ho55 ?_
      refine p_callV (As := [(0, 1), (0, 0), (0, (M52 277 r2) - 1)]) (st := []) (st1 := fun r => [(0, r)])  (pc := 73) dX9_readDelay_73 ml_RX9_205 (by decide) s0_275 rfl (by decide) (Nat.le_of_ble_eq_true rfl) rfl (fun _ => rfl) h (fun r56 M57 h => ?_)
      refine a_istore (ls1 := [(2, 275), (0, l1), (0, r2), (0, r49), (0, r56), (9, 0)]) (pc := 76) dX9_readDelay_76 (by decide) (hp1 (t := 0) rfl (by decide)) rfl ?_
      refine a_aload_n (pc := 78) dX9_readDelay_78 (by decide) rfl ?_
      refine a_bipush (pc := 79) dX9_readDelay_79 (by decide) (by decide +kernel) ?_
      refine p_callV (As := [(0, 43)]) (st := []) (st1 := fun r => [])  (pc := 81) dX9_readDelay_81 ml_RX9_208 (by decide) s0_275 rfl (by decide) (Nat.le_of_ble_eq_true rfl) rfl (fun _ => rfl) h (fun r58 M59 h => ?_)
      refine a_aload_n (pc := 84) dX9_readDelay_84 (by decide) rfl ?_
      refine a_iconst (pc := 85) dX9_readDelay_85 (by decide) ?_
      refine a_iconst (pc := 86) dX9_readDelay_86 (by decide) ?_
      refine a_bipush (pc := 87) dX9_readDelay_87 (by decide) (by decide +kernel) ?_
      refine p_callV (As := [(0, 2), (0, 1), (0, 99)]) (st := []) (st1 := fun r => [(0, r)])  (pc := 89) dX9_readDelay_89 ml_RX9_205 (by decide) s0_275 rfl (by decide) (Nat.le_of_ble_eq_true rfl) rfl (fun _ => rfl) h (fun r60 M61 h => ?_)
      refine a_istore (ls1 := [(2, 275), (0, l1), (0, r2), (0, r49), (0, r56), (0, r60)]) (pc := 92) dX9_readDelay_92 (by decide) (hp1 (t := 0) rfl (by decide)) rfl ?_
      refine a_aload_n (pc := 94) dX9_readDelay_94 (by decide) rfl ?_
      refine a_aload_n (pc := 95) dX9_readDelay_95 (by decide) rfl ?_
      refine a_getI (y := 28) (pc := 96) dX9_readDelay_96 fl_RX9_179 (by decide) s0_275 (Or.inr rfl) rfl ?_
      refine a_if_ne (tgt := 113) (pc := 99) dX9_readDelay_99 (by decide) (fun hc62 => ?_) (fun hc62 => ?_)
      · replace h := h.1 hc62
        refine a_iconst (pc := 113) dX9_readDelay_113 (by decide) ?_
        refine a_goto (tgt := 118) (pc := 114) dX9_readDelay_114 (by decide) ?_
        refine a_iload_n (pc := 118) dX9_readDelay_118 rfl ?_
        refine p_inlV (Ex := _) (As := [(0, 1), (0, l1)]) (st := []) (st1 := fun r => [])  (pc := 119) dX9_readDelay_119 ml_RX9_201 (by decide) s0_275 rfl (by decide) (Nat.le_of_ble_eq_true rfl) rfl (fun _ => rfl) (by decide) (by decide) (Nat.le_of_ble_eq_true rfl) rfl ?_
        refine a_aload_n (pc := 0) dX9_mustBe_0 (by decide) rfl ?_
        refine a_getI (y := 28) (pc := 1) dX9_mustBe_1 fl_RX9_179 (by decide) s0_275 (Or.inr rfl) rfl ?_
        refine a_if_ne (tgt := 21) (pc := 4) dX9_mustBe_4 (by decide) (fun _ => ?_) (fun hc => absurd hc hc62)
        refine a_vret (pc := 21) dX9_mustBe_21 rfl rfl (Nat.le_of_ble_eq_true rfl) ⟨rfl, ?_⟩
        refine a_aload_n (pc := 122) dX9_readDelay_122 (by decide) rfl ?_
        refine a_getI (y := 28) (pc := 123) dX9_readDelay_123 fl_RX9_179 (by decide) s0_275 (Or.inr rfl) rfl ?_
        refine a_if_ne (tgt := 139) (pc := 126) dX9_readDelay_126 (by decide) (fun _ => ?_) (fun hc => absurd hc hc62)
        exact a_vret (pc := 139) dX9_readDelay_139 rfl rfl (Nat.le_of_ble_eq_true rfl) ⟨rfl, h⟩
      · replace h := h.2 hc62
        refine a_aload_n (pc := 102) dX9_readDelay_102 (by decide) rfl ?_
        refine a_iload_n (pc := 103) dX9_readDelay_103 rfl ?_
        refine a_iload_n (pc := 104) dX9_readDelay_104 rfl ?_
        refine a_iload (pc := 105) dX9_readDelay_105 rfl ?_
        refine p_inlV (Ex := _) (As := [(0, r2), (0, r49), (0, r60)]) (st := [(2, 275)]) (st1 := fun r => [(0, r), (2, 275)])  (pc := 107) dX9_readDelay_107 ml_RX9_211 (by decide) s0_275 rfl (by decide) (Nat.le_of_ble_eq_true rfl) rfl (fun _ => rfl) (by decide) (by decide) (Nat.le_of_ble_eq_true rfl) rfl ?_
        refine a_aload_n (pc := 0) dX9_isTooLate_0 (by decide) rfl ?_
        refine a_iload_n (pc := 1) dX9_isTooLate_1 rfl ?_
        refine a_iload_n (pc := 2) dX9_isTooLate_2 rfl ?_
        refine a_aload_n (pc := 3) dX9_isTooLate_3 (by decide) rfl ?_
        refine a_getR (y := 277) (pc := 4) dX9_isTooLate_4 fl_RX9_13 (by decide) s0_275 rfl rfl ?_
        refine a_iload_n (pc := 7) dX9_isTooLate_7 rfl ?_
        refine a_iald (pc := 8) dX9_isTooLate_8 (by decide) s0_277 ho54.1 ho54.2 ?_
        refine a_iconst (pc := 9) dX9_isTooLate_9 (by decide) ?_
        have ho63 := h.1
        replace h := h.2
        refine a_isub (pc := 10) dX9_isTooLate_10 ho63 ?_
        refine p_inlV (Ex := _) (As := [(0, r2), (0, r49), (0, (M61 277 r2) - 1)]) (st := []) (st1 := fun r => [(0, r)])  (pc := 11) dX9_isTooLate_11 ml_RX9_120 (by decide) s0_275 rfl (by decide) (Nat.le_of_ble_eq_true rfl) rfl (fun _ => rfl) (by decide) (by decide) (Nat.le_of_ble_eq_true rfl) rfl ?_
        refine a_aload_n (pc := 0) dX9_minuteAt_0 (by decide) rfl ?_
        refine a_getR (y := 281) (pc := 1) dX9_minuteAt_1 fl_RX9_25 (by decide) s0_275 rfl rfl ?_
        refine a_bipush (pc := 4) dX9_minuteAt_4 (by decide) (by decide +kernel) ?_
        refine a_iload_n (pc := 6) dX9_minuteAt_6 rfl ?_
        have ho64 := h.1
        replace h := h.2
        refine a_imul (pc := 7) dX9_minuteAt_7 ho64 ?_
        refine a_bipush (pc := 8) dX9_minuteAt_8 (by decide) (by decide +kernel) ?_
        refine a_iload_n (pc := 10) dX9_minuteAt_10 rfl ?_
        have ho65 := h.1
        replace h := h.2
        refine a_imul (pc := 11) dX9_minuteAt_11 ho65 ?_
        have ho66 := h.1
        replace h := h.2
        refine a_iadd (pc := 12) dX9_minuteAt_12 ho66 ?_
        refine a_iload_n (pc := 13) dX9_minuteAt_13 rfl ?_
        have ho67 := h.1
        replace h := h.2
        refine a_iadd (pc := 14) dX9_minuteAt_14 ho67 ?_
        have ho68 := h.1
        replace h := h.2
        refine a_iald (pc := 15) dX9_minuteAt_15 (by decide) s0_281 ho68.1 ho68.2 ?_
        refine a_ireti (pc := 16) dX9_minuteAt_16 rfl rfl (Nat.le_of_ble_eq_true rfl) ⟨rfl, ?_⟩
        refine a_iload_n (pc := 14) dX9_isTooLate_14 rfl ?_
        have ho69 := h.1
        replace h := h.2
        refine a_iadd (pc := 15) dX9_isTooLate_15 ho69 ?_
        refine a_sipush (pc := 16) dX9_isTooLate_16 (by decide) (by decide +kernel) ?_
        refine a_icmp_le (tgt := 26) (pc := 19) dX9_isTooLate_19 (by decide) (fun hc70 => ?_) (fun hc70 => ?_)
        · replace h := h.1 hc70
          refine a_iconst (pc := 26) dX9_isTooLate_26 (by decide) ?_
          refine a_iretz (pc := 27) dX9_isTooLate_27 rfl rfl (Nat.le_of_ble_eq_true rfl) (by decide) ⟨rfl, ?_⟩
          refine a_if_ne (tgt := 117) (pc := 110) dX9_readDelay_110 (by decide) (fun hc => absurd rfl hc) (fun _ => ?_)
          refine a_iconst (pc := 113) dX9_readDelay_113 (by decide) ?_
          refine a_goto (tgt := 118) (pc := 114) dX9_readDelay_114 (by decide) ?_
          refine a_iload_n (pc := 118) dX9_readDelay_118 rfl ?_
          refine p_inlV (Ex := _) (As := [(0, 1), (0, l1)]) (st := []) (st1 := fun r => [])  (pc := 119) dX9_readDelay_119 ml_RX9_201 (by decide) s0_275 rfl (by decide) (Nat.le_of_ble_eq_true rfl) rfl (fun _ => rfl) (by decide) (by decide) (Nat.le_of_ble_eq_true rfl) rfl ?_
          refine a_aload_n (pc := 0) dX9_mustBe_0 (by decide) rfl ?_
          refine a_getI (y := 28) (pc := 1) dX9_mustBe_1 fl_RX9_179 (by decide) s0_275 (Or.inr rfl) rfl ?_
          refine a_if_ne (tgt := 21) (pc := 4) dX9_mustBe_4 (by decide) (fun hc => absurd hc62 hc) (fun _ => ?_)
          refine a_iload_n (pc := 7) dX9_mustBe_7 rfl ?_
          refine a_if_ne (tgt := 21) (pc := 8) dX9_mustBe_8 (by decide) (fun _ => ?_) (fun hc => absurd hc (by decide))
          refine a_vret (pc := 21) dX9_mustBe_21 rfl rfl (Nat.le_of_ble_eq_true rfl) ⟨rfl, ?_⟩
          refine a_aload_n (pc := 122) dX9_readDelay_122 (by decide) rfl ?_
          refine a_getI (y := 28) (pc := 123) dX9_readDelay_123 fl_RX9_179 (by decide) s0_275 (Or.inr rfl) rfl ?_
          refine a_if_ne (tgt := 139) (pc := 126) dX9_readDelay_126 (by decide) (fun hc => absurd hc62 hc) (fun _ => ?_)
          refine a_aload_n (pc := 129) dX9_readDelay_129 (by decide) rfl ?_
          refine a_iload_n (pc := 130) dX9_readDelay_130 rfl ?_
          refine a_iload_n (pc := 131) dX9_readDelay_131 rfl ?_
          refine a_iload (pc := 132) dX9_readDelay_132 rfl ?_
          refine a_iload (pc := 134) dX9_readDelay_134 rfl ?_
          refine p_callV (As := [(0, r2), (0, r49), (0, r56), (0, r60)]) (st := []) (st1 := fun r => [])  (pc := 136) dX9_readDelay_136 ml_RX9_214 (by decide) s0_275 rfl (by decide) (Nat.le_of_ble_eq_true rfl) rfl (fun _ => rfl) h (fun r71 M72 h => ?_)
          exact a_vret (pc := 139) dX9_readDelay_139 rfl rfl (Nat.le_of_ble_eq_true rfl) ⟨rfl, h⟩
        · replace h := h.2 hc70
          refine a_iconst (pc := 22) dX9_isTooLate_22 (by decide) ?_
          refine a_goto (tgt := 27) (pc := 23) dX9_isTooLate_23 (by decide) ?_
          refine a_iretz (pc := 27) dX9_isTooLate_27 rfl rfl (Nat.le_of_ble_eq_true rfl) (by decide) ⟨rfl, ?_⟩
          refine a_if_ne (tgt := 117) (pc := 110) dX9_readDelay_110 (by decide) (fun _ => ?_) (fun hc => absurd hc (by decide))
          refine a_iconst (pc := 117) dX9_readDelay_117 (by decide) ?_
          refine a_iload_n (pc := 118) dX9_readDelay_118 rfl ?_
          refine p_inlV (Ex := _) (As := [(0, 0), (0, l1)]) (st := []) (st1 := fun r => [])  (pc := 119) dX9_readDelay_119 ml_RX9_201 (by decide) s0_275 rfl (by decide) (Nat.le_of_ble_eq_true rfl) rfl (fun _ => rfl) (by decide) (by decide) (Nat.le_of_ble_eq_true rfl) rfl ?_
          refine a_aload_n (pc := 0) dX9_mustBe_0 (by decide) rfl ?_
          refine a_getI (y := 28) (pc := 1) dX9_mustBe_1 fl_RX9_179 (by decide) s0_275 (Or.inr rfl) rfl ?_
          refine a_if_ne (tgt := 21) (pc := 4) dX9_mustBe_4 (by decide) (fun hc => absurd hc62 hc) (fun _ => ?_)
          refine a_iload_n (pc := 7) dX9_mustBe_7 rfl ?_
          refine a_if_ne (tgt := 21) (pc := 8) dX9_mustBe_8 (by decide) (fun hc => absurd rfl hc) (fun _ => ?_)
          refine a_aload_n (pc := 11) dX9_mustBe_11 (by decide) rfl ?_
          refine a_iconst (pc := 12) dX9_mustBe_12 (by decide) ?_
          refine a_putZ (y := 28) (pc := 13) dX9_mustBe_13 fl_RX9_179 (by decide) s0_275 rfl rfl (tyX9_ok 28 (by decide)) rfl (by decide) ?_
          refine a_aload_n (pc := 16) dX9_mustBe_16 (by decide) rfl ?_
          refine a_iload_n (pc := 17) dX9_mustBe_17 rfl ?_
          refine a_putI (y := 27) (pc := 18) dX9_mustBe_18 fl_RX9_176 (by decide) s0_275 rfl rfl (tyX9_ok 27 (by decide)) rfl ?_
          refine a_vret (pc := 21) dX9_mustBe_21 rfl rfl (Nat.le_of_ble_eq_true rfl) ⟨rfl, ?_⟩
          refine a_aload_n (pc := 122) dX9_readDelay_122 (by decide) rfl ?_
          refine a_getI (y := 28) (pc := 123) dX9_readDelay_123 fl_RX9_179 (by decide) s0_275 (Or.inr rfl) rfl ?_
          refine a_eq (y := 1) rfl ?_
          refine a_if_ne (tgt := 139) (pc := 126) dX9_readDelay_126 (by decide) (fun _ => ?_) (fun hc => absurd hc (by decide))
          exact a_vret (pc := 139) dX9_readDelay_139 rfl rfl (Nat.le_of_ble_eq_true rfl) ⟨rfl, h⟩
    · replace h := h.2 hc53
      refine a_iconst (pc := 61) dX9_readDelay_61 (by decide) ?_
      refine a_goto (tgt := 73) (pc := 62) dX9_readDelay_62 (by decide) ?_
      refine p_callV (As := [(0, 1), (0, 0), (0, 0)]) (st := []) (st1 := fun r => [(0, r)])  (pc := 73) dX9_readDelay_73 ml_RX9_205 (by decide) s0_275 rfl (by decide) (Nat.le_of_ble_eq_true rfl) rfl (fun _ => rfl) h (fun r73 M74 h => ?_)
      refine a_istore (ls1 := [(2, 275), (0, l1), (0, r2), (0, r49), (0, r73), (9, 0)]) (pc := 76) dX9_readDelay_76 (by decide) (hp1 (t := 0) rfl (by decide)) rfl ?_
      refine a_aload_n (pc := 78) dX9_readDelay_78 (by decide) rfl ?_
      refine a_bipush (pc := 79) dX9_readDelay_79 (by decide) (by decide +kernel) ?_
      refine p_callV (As := [(0, 43)]) (st := []) (st1 := fun r => [])  (pc := 81) dX9_readDelay_81 ml_RX9_208 (by decide) s0_275 rfl (by decide) (Nat.le_of_ble_eq_true rfl) rfl (fun _ => rfl) h (fun r75 M76 h => ?_)
      refine a_aload_n (pc := 84) dX9_readDelay_84 (by decide) rfl ?_
      refine a_iconst (pc := 85) dX9_readDelay_85 (by decide) ?_
      refine a_iconst (pc := 86) dX9_readDelay_86 (by decide) ?_
      refine a_bipush (pc := 87) dX9_readDelay_87 (by decide) (by decide +kernel) ?_
      refine p_callV (As := [(0, 2), (0, 1), (0, 99)]) (st := []) (st1 := fun r => [(0, r)])  (pc := 89) dX9_readDelay_89 ml_RX9_205 (by decide) s0_275 rfl (by decide) (Nat.le_of_ble_eq_true rfl) rfl (fun _ => rfl) h (fun r77 M78 h => ?_)
      refine a_istore (ls1 := [(2, 275), (0, l1), (0, r2), (0, r49), (0, r73), (0, r77)]) (pc := 92) dX9_readDelay_92 (by decide) (hp1 (t := 0) rfl (by decide)) rfl ?_
      refine a_aload_n (pc := 94) dX9_readDelay_94 (by decide) rfl ?_
      refine a_aload_n (pc := 95) dX9_readDelay_95 (by decide) rfl ?_
      refine a_getI (y := 28) (pc := 96) dX9_readDelay_96 fl_RX9_179 (by decide) s0_275 (Or.inr rfl) rfl ?_
      refine a_if_ne (tgt := 113) (pc := 99) dX9_readDelay_99 (by decide) (fun hc79 => ?_) (fun hc79 => ?_)
      · replace h := h.1 hc79
        refine a_iconst (pc := 113) dX9_readDelay_113 (by decide) ?_
        refine a_goto (tgt := 118) (pc := 114) dX9_readDelay_114 (by decide) ?_
        refine a_iload_n (pc := 118) dX9_readDelay_118 rfl ?_
        refine p_inlV (Ex := _) (As := [(0, 1), (0, l1)]) (st := []) (st1 := fun r => [])  (pc := 119) dX9_readDelay_119 ml_RX9_201 (by decide) s0_275 rfl (by decide) (Nat.le_of_ble_eq_true rfl) rfl (fun _ => rfl) (by decide) (by decide) (Nat.le_of_ble_eq_true rfl) rfl ?_
        refine a_aload_n (pc := 0) dX9_mustBe_0 (by decide) rfl ?_
        refine a_getI (y := 28) (pc := 1) dX9_mustBe_1 fl_RX9_179 (by decide) s0_275 (Or.inr rfl) rfl ?_
        refine a_if_ne (tgt := 21) (pc := 4) dX9_mustBe_4 (by decide) (fun _ => ?_) (fun hc => absurd hc hc79)
        refine a_vret (pc := 21) dX9_mustBe_21 rfl rfl (Nat.le_of_ble_eq_true rfl) ⟨rfl, ?_⟩
        refine a_aload_n (pc := 122) dX9_readDelay_122 (by decide) rfl ?_
        refine a_getI (y := 28) (pc := 123) dX9_readDelay_123 fl_RX9_179 (by decide) s0_275 (Or.inr rfl) rfl ?_
        refine a_if_ne (tgt := 139) (pc := 126) dX9_readDelay_126 (by decide) (fun _ => ?_) (fun hc => absurd hc hc79)
        exact a_vret (pc := 139) dX9_readDelay_139 rfl rfl (Nat.le_of_ble_eq_true rfl) ⟨rfl, h⟩
      · replace h := h.2 hc79
        refine a_aload_n (pc := 102) dX9_readDelay_102 (by decide) rfl ?_
        refine a_iload_n (pc := 103) dX9_readDelay_103 rfl ?_
        refine a_iload_n (pc := 104) dX9_readDelay_104 rfl ?_
        refine a_iload (pc := 105) dX9_readDelay_105 rfl ?_
        refine p_inlV (Ex := _) (As := [(0, r2), (0, r49), (0, r77)]) (st := [(2, 275)]) (st1 := fun r => [(0, r), (2, 275)])  (pc := 107) dX9_readDelay_107 ml_RX9_211 (by decide) s0_275 rfl (by decide) (Nat.le_of_ble_eq_true rfl) rfl (fun _ => rfl) (by decide) (by decide) (Nat.le_of_ble_eq_true rfl) rfl ?_
        refine a_aload_n (pc := 0) dX9_isTooLate_0 (by decide) rfl ?_
        refine a_iload_n (pc := 1) dX9_isTooLate_1 rfl ?_
        refine a_iload_n (pc := 2) dX9_isTooLate_2 rfl ?_
        refine a_aload_n (pc := 3) dX9_isTooLate_3 (by decide) rfl ?_
        refine a_getR (y := 277) (pc := 4) dX9_isTooLate_4 fl_RX9_13 (by decide) s0_275 rfl rfl ?_
        refine a_iload_n (pc := 7) dX9_isTooLate_7 rfl ?_
        have ho80 := h.1
        replace h := h.2
        refine a_iald (pc := 8) dX9_isTooLate_8 (by decide) s0_277 ho80.1 ho80.2 ?_
        refine a_iconst (pc := 9) dX9_isTooLate_9 (by decide) ?_
        have ho81 := h.1
        replace h := h.2
        refine a_isub (pc := 10) dX9_isTooLate_10 ho81 ?_
        refine p_inlV (Ex := _) (As := [(0, r2), (0, r49), (0, (M78 277 r2) - 1)]) (st := []) (st1 := fun r => [(0, r)])  (pc := 11) dX9_isTooLate_11 ml_RX9_120 (by decide) s0_275 rfl (by decide) (Nat.le_of_ble_eq_true rfl) rfl (fun _ => rfl) (by decide) (by decide) (Nat.le_of_ble_eq_true rfl) rfl ?_
        refine a_aload_n (pc := 0) dX9_minuteAt_0 (by decide) rfl ?_
        refine a_getR (y := 281) (pc := 1) dX9_minuteAt_1 fl_RX9_25 (by decide) s0_275 rfl rfl ?_
        refine a_bipush (pc := 4) dX9_minuteAt_4 (by decide) (by decide +kernel) ?_
        refine a_iload_n (pc := 6) dX9_minuteAt_6 rfl ?_
        have ho82 := h.1
        replace h := h.2
        refine a_imul (pc := 7) dX9_minuteAt_7 ho82 ?_
        refine a_bipush (pc := 8) dX9_minuteAt_8 (by decide) (by decide +kernel) ?_
        refine a_iload_n (pc := 10) dX9_minuteAt_10 rfl ?_
        have ho83 := h.1
        replace h := h.2
        refine a_imul (pc := 11) dX9_minuteAt_11 ho83 ?_
        have ho84 := h.1
        replace h := h.2
        refine a_iadd (pc := 12) dX9_minuteAt_12 ho84 ?_
        refine a_iload_n (pc := 13) dX9_minuteAt_13 rfl ?_
        have ho85 := h.1
        replace h := h.2
        refine a_iadd (pc := 14) dX9_minuteAt_14 ho85 ?_
        have ho86 := h.1
        replace h := h.2
        refine a_iald (pc := 15) dX9_minuteAt_15 (by decide) s0_281 ho86.1 ho86.2 ?_
        refine a_ireti (pc := 16) dX9_minuteAt_16 rfl rfl (Nat.le_of_ble_eq_true rfl) ⟨rfl, ?_⟩
        refine a_iload_n (pc := 14) dX9_isTooLate_14 rfl ?_
        have ho87 := h.1
        replace h := h.2
        refine a_iadd (pc := 15) dX9_isTooLate_15 ho87 ?_
        refine a_sipush (pc := 16) dX9_isTooLate_16 (by decide) (by decide +kernel) ?_
        refine a_icmp_le (tgt := 26) (pc := 19) dX9_isTooLate_19 (by decide) (fun hc88 => ?_) (fun hc88 => ?_)
        · replace h := h.1 hc88
          refine a_iconst (pc := 26) dX9_isTooLate_26 (by decide) ?_
          refine a_iretz (pc := 27) dX9_isTooLate_27 rfl rfl (Nat.le_of_ble_eq_true rfl) (by decide) ⟨rfl, ?_⟩
          refine a_if_ne (tgt := 117) (pc := 110) dX9_readDelay_110 (by decide) (fun hc => absurd rfl hc) (fun _ => ?_)
          refine a_iconst (pc := 113) dX9_readDelay_113 (by decide) ?_
          refine a_goto (tgt := 118) (pc := 114) dX9_readDelay_114 (by decide) ?_
          refine a_iload_n (pc := 118) dX9_readDelay_118 rfl ?_
          refine p_inlV (Ex := _) (As := [(0, 1), (0, l1)]) (st := []) (st1 := fun r => [])  (pc := 119) dX9_readDelay_119 ml_RX9_201 (by decide) s0_275 rfl (by decide) (Nat.le_of_ble_eq_true rfl) rfl (fun _ => rfl) (by decide) (by decide) (Nat.le_of_ble_eq_true rfl) rfl ?_
          refine a_aload_n (pc := 0) dX9_mustBe_0 (by decide) rfl ?_
          refine a_getI (y := 28) (pc := 1) dX9_mustBe_1 fl_RX9_179 (by decide) s0_275 (Or.inr rfl) rfl ?_
          refine a_if_ne (tgt := 21) (pc := 4) dX9_mustBe_4 (by decide) (fun hc => absurd hc79 hc) (fun _ => ?_)
          refine a_iload_n (pc := 7) dX9_mustBe_7 rfl ?_
          refine a_if_ne (tgt := 21) (pc := 8) dX9_mustBe_8 (by decide) (fun _ => ?_) (fun hc => absurd hc (by decide))
          refine a_vret (pc := 21) dX9_mustBe_21 rfl rfl (Nat.le_of_ble_eq_true rfl) ⟨rfl, ?_⟩
          refine a_aload_n (pc := 122) dX9_readDelay_122 (by decide) rfl ?_
          refine a_getI (y := 28) (pc := 123) dX9_readDelay_123 fl_RX9_179 (by decide) s0_275 (Or.inr rfl) rfl ?_
          refine a_if_ne (tgt := 139) (pc := 126) dX9_readDelay_126 (by decide) (fun hc => absurd hc79 hc) (fun _ => ?_)
          refine a_aload_n (pc := 129) dX9_readDelay_129 (by decide) rfl ?_
          refine a_iload_n (pc := 130) dX9_readDelay_130 rfl ?_
          refine a_iload_n (pc := 131) dX9_readDelay_131 rfl ?_
          refine a_iload (pc := 132) dX9_readDelay_132 rfl ?_
          refine a_iload (pc := 134) dX9_readDelay_134 rfl ?_
          refine p_callV (As := [(0, r2), (0, r49), (0, r73), (0, r77)]) (st := []) (st1 := fun r => [])  (pc := 136) dX9_readDelay_136 ml_RX9_214 (by decide) s0_275 rfl (by decide) (Nat.le_of_ble_eq_true rfl) rfl (fun _ => rfl) h (fun r89 M90 h => ?_)
          exact a_vret (pc := 139) dX9_readDelay_139 rfl rfl (Nat.le_of_ble_eq_true rfl) ⟨rfl, h⟩
        · replace h := h.2 hc88
          refine a_iconst (pc := 22) dX9_isTooLate_22 (by decide) ?_
          refine a_goto (tgt := 27) (pc := 23) dX9_isTooLate_23 (by decide) ?_
          refine a_iretz (pc := 27) dX9_isTooLate_27 rfl rfl (Nat.le_of_ble_eq_true rfl) (by decide) ⟨rfl, ?_⟩
          refine a_if_ne (tgt := 117) (pc := 110) dX9_readDelay_110 (by decide) (fun _ => ?_) (fun hc => absurd hc (by decide))
          refine a_iconst (pc := 117) dX9_readDelay_117 (by decide) ?_
          refine a_iload_n (pc := 118) dX9_readDelay_118 rfl ?_
          refine p_inlV (Ex := _) (As := [(0, 0), (0, l1)]) (st := []) (st1 := fun r => [])  (pc := 119) dX9_readDelay_119 ml_RX9_201 (by decide) s0_275 rfl (by decide) (Nat.le_of_ble_eq_true rfl) rfl (fun _ => rfl) (by decide) (by decide) (Nat.le_of_ble_eq_true rfl) rfl ?_
          refine a_aload_n (pc := 0) dX9_mustBe_0 (by decide) rfl ?_
          refine a_getI (y := 28) (pc := 1) dX9_mustBe_1 fl_RX9_179 (by decide) s0_275 (Or.inr rfl) rfl ?_
          refine a_if_ne (tgt := 21) (pc := 4) dX9_mustBe_4 (by decide) (fun hc => absurd hc79 hc) (fun _ => ?_)
          refine a_iload_n (pc := 7) dX9_mustBe_7 rfl ?_
          refine a_if_ne (tgt := 21) (pc := 8) dX9_mustBe_8 (by decide) (fun hc => absurd rfl hc) (fun _ => ?_)
          refine a_aload_n (pc := 11) dX9_mustBe_11 (by decide) rfl ?_
          refine a_iconst (pc := 12) dX9_mustBe_12 (by decide) ?_
          refine a_putZ (y := 28) (pc := 13) dX9_mustBe_13 fl_RX9_179 (by decide) s0_275 rfl rfl (tyX9_ok 28 (by decide)) rfl (by decide) ?_
          refine a_aload_n (pc := 16) dX9_mustBe_16 (by decide) rfl ?_
          refine a_iload_n (pc := 17) dX9_mustBe_17 rfl ?_
          refine a_putI (y := 27) (pc := 18) dX9_mustBe_18 fl_RX9_176 (by decide) s0_275 rfl rfl (tyX9_ok 27 (by decide)) rfl ?_
          refine a_vret (pc := 21) dX9_mustBe_21 rfl rfl (Nat.le_of_ble_eq_true rfl) ⟨rfl, ?_⟩
          refine a_aload_n (pc := 122) dX9_readDelay_122 (by decide) rfl ?_
          refine a_getI (y := 28) (pc := 123) dX9_readDelay_123 fl_RX9_179 (by decide) s0_275 (Or.inr rfl) rfl ?_
          refine a_eq (y := 1) rfl ?_
          refine a_if_ne (tgt := 139) (pc := 126) dX9_readDelay_126 (by decide) (fun _ => ?_) (fun hc => absurd hc (by decide))
          exact a_vret (pc := 139) dX9_readDelay_139 rfl rfl (Nat.le_of_ble_eq_true rfl) ⟨rfl, h⟩
theorem E_R_readDelay {l1 : Int} {M : Mem} {Q : Int → Mem → Prop} (h : AW mX9_readDelay 0 [(2, 275), (0, l1), (9, 0), (9, 0), (9, 0), (9, 0)] M Q) : Calls mX9_readDelay [(2, 275), (0, l1)] S0 M Q := calls_of (by decide) (by decide) (Nat.le_of_ble_eq_true rfl) rfl h
