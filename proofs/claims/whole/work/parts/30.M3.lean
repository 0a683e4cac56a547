set_option maxRecDepth 100000 in
set_option maxHeartbeats 4000000 in
theorem B_R_cut_0 {l1 l2 l3 l4 l5 : Int} {M : Mem} {Q : Int → Mem → Prop} (h : ((l1 < 0 → Q (-1) (up2 M 275 8 0)) ∧ (¬ (l1 < 0) → ((11 < l1 → Q (-1) (up2 M 275 8 0)) ∧ (¬ (11 < l1) → ((l3 < 0 → Q (-1) (up2 M 275 8 0)) ∧ (¬ (l3 < 0) → ((11 < l3 → Q (-1) (up2 M 275 8 0)) ∧ (¬ (11 < l3) → ((l1 = l3 → Q (-1) (up2 M 275 8 0)) ∧ (¬ l1 = l3 → ((l5 < 0 → Q (-1) (up2 M 275 8 0)) ∧ (¬ (l5 < 0) → ((1 < l5 → Q (-1) (up2 M 275 8 0)) ∧ (¬ (1 < l5) → Calls mX9_wrong [(0, l1), (0, l3), (0, l2), (0, l4)] S0 (up2 M 275 8 0) (fun r8 M9 => ((0 ≤ r8 → Calls mX9_layRounds [(2, 275), (0, l1), (0, l2)] S0 M9 (fun r11 M12 => (-2147483648 ≤ 12 * l4 ∧ 12 * l4 ≤ 2147483647) ∧ (-2147483648 ≤ (12 * l4) + l3 ∧ (12 * l4) + l3 ≤ 2147483647) ∧ ((0 : Int) ≤ (12 * l4) + l3 ∧ (12 * l4) + l3 < 84) ∧ (((M12 284 ((12 * l4) + l3)) < 100000000 → AW mX9_cut 61 [(2, 275), (0, l1), (0, l2), (0, l3), (0, l4), (0, l5), (0, M12 284 ((12 * l4) + l3)), (0, 0), (0, (-5)), (0, 0), (9, 0)] M12 Q) ∧ (¬ ((M12 284 ((12 * l4) + l3)) < 100000000) → AW mX9_cut 61 [(2, 275), (0, l1), (0, l2), (0, l3), (0, l4), (0, l5), (0, 10000), (0, 0), (0, (-5)), (0, 0), (9, 0)] M12 Q)))) ∧ (¬ (0 ≤ r8) → Q (-2) M9)))))))))))))))))) : AW mX9_cut 0 [(2, 275), (0, l1), (0, l2), (0, l3), (0, l4), (0, l5), (9, 0), (9, 0), (9, 0), (9, 0), (9, 0)] M Q := by
  refine a_aload_n (pc := 0) dX9_cut_0 (by decide) rfl ?_
  refine a_iconst (pc := 1) dX9_cut_1 (by decide) ?_
  refine a_putI (y := 8) (pc := 2) dX9_cut_2 fl_RX9_87 (by decide) s0_275 rfl rfl (tyX9_ok 8 (by decide)) rfl ?_
  refine a_iload_n (pc := 5) dX9_cut_5 rfl ?_
  refine a_iload_n (pc := 6) dX9_cut_6 rfl ?_
  refine p_inlS (Ex := _) (As := [(0, l1), (0, l3)]) (st := []) (st1 := fun r => [(0, r)])  (pc := 7) dX9_cut_7 ml_RX9_263 (by decide) (Nat.le_of_ble_eq_true rfl) rfl (fun _ => rfl) (by decide) (by decide) (Nat.le_of_ble_eq_true rfl) rfl ?_
  refine a_iload_n (pc := 0) dX9_areTwo_0 rfl ?_
  refine p_inlS (Ex := _) (As := [(0, l1)]) (st := []) (st1 := fun r => [(0, r)])  (pc := 1) dX9_areTwo_1 ml_RX9_260 (by decide) (Nat.le_of_ble_eq_true rfl) rfl (fun _ => rfl) (by decide) (by decide) (Nat.le_of_ble_eq_true rfl) rfl ?_
  refine a_iload_n (pc := 0) dX9_isStop_0 rfl ?_
  refine a_i2l (pc := 1) dX9_isStop_1 ?_
  refine a_lconst (v := 0) (pc := 2) dX9_isStop_2 rfl ?_
  refine a_ldc2 (v := 11) (pc := 3) dX9_isStop_3 kc_RX9_90 (by decide) ?_
  refine p_inlS (Ex := _) (As := [(1, l1), (1, 0), (1, 11)]) (st := []) (st1 := fun r => [(0, r)])  (pc := 6) dX9_isStop_6 ml_RX9_92 (by decide) (Nat.le_of_ble_eq_true rfl) rfl (fun _ => rfl) (by decide) (by decide) (Nat.le_of_ble_eq_true rfl) rfl ?_
  refine a_lload_n (pc := 0) dX9_in_0 rfl ?_
  refine a_lload_n (pc := 1) dX9_in_1 rfl ?_
  refine a_lcmp_lt (tgt := 17) (pc := 2) dX9_in_2 dX9_in_3 (by decide) (fun hc1 => ?_) (fun hc1 => ?_)
  · replace h := h.1 hc1
    refine a_iconst (pc := 17) dX9_in_17 (by decide) ?_
    refine a_iretz (pc := 18) dX9_in_18 rfl rfl (Nat.le_of_ble_eq_true rfl) (by decide) ⟨rfl, ?_⟩
    refine a_iretz (pc := 9) dX9_isStop_9 rfl rfl (Nat.le_of_ble_eq_true rfl) (by decide) ⟨rfl, ?_⟩
    refine a_if_eq (tgt := 23) (pc := 4) dX9_areTwo_4 (by decide) (fun _ => ?_) (fun hc => absurd (by decide) hc)
    refine a_iconst (pc := 23) dX9_areTwo_23 (by decide) ?_
    refine a_iretz (pc := 24) dX9_areTwo_24 rfl rfl (Nat.le_of_ble_eq_true rfl) (by decide) ⟨rfl, ?_⟩
    refine a_if_eq (tgt := 24) (pc := 10) dX9_cut_10 (by decide) (fun _ => ?_) (fun hc => absurd (by decide) hc)
    refine a_iconst (pc := 24) dX9_cut_24 (by decide) ?_
    exact a_ireti (pc := 25) dX9_cut_25 rfl rfl (Nat.le_of_ble_eq_true rfl) ⟨rfl, h⟩
  · replace h := h.2 hc1
    refine a_lload_n (pc := 6) dX9_in_6 rfl ?_
    refine a_lload (pc := 7) dX9_in_7 rfl ?_
    refine a_lcmp_gt (tgt := 17) (pc := 9) dX9_in_9 dX9_in_10 (by decide) (fun hc2 => ?_) (fun hc2 => ?_)
    · replace h := h.1 hc2
      refine a_iconst (pc := 17) dX9_in_17 (by decide) ?_
      refine a_iretz (pc := 18) dX9_in_18 rfl rfl (Nat.le_of_ble_eq_true rfl) (by decide) ⟨rfl, ?_⟩
      refine a_iretz (pc := 9) dX9_isStop_9 rfl rfl (Nat.le_of_ble_eq_true rfl) (by decide) ⟨rfl, ?_⟩
      refine a_if_eq (tgt := 23) (pc := 4) dX9_areTwo_4 (by decide) (fun _ => ?_) (fun hc => absurd (by decide) hc)
      refine a_iconst (pc := 23) dX9_areTwo_23 (by decide) ?_
      refine a_iretz (pc := 24) dX9_areTwo_24 rfl rfl (Nat.le_of_ble_eq_true rfl) (by decide) ⟨rfl, ?_⟩
      refine a_if_eq (tgt := 24) (pc := 10) dX9_cut_10 (by decide) (fun _ => ?_) (fun hc => absurd (by decide) hc)
      refine a_iconst (pc := 24) dX9_cut_24 (by decide) ?_
      exact a_ireti (pc := 25) dX9_cut_25 rfl rfl (Nat.le_of_ble_eq_true rfl) ⟨rfl, h⟩
    · replace h := h.2 hc2
      refine a_iconst (pc := 13) dX9_in_13 (by decide) ?_
      refine a_goto (tgt := 18) (pc := 14) dX9_in_14 (by decide) ?_
      refine a_iretz (pc := 18) dX9_in_18 rfl rfl (Nat.le_of_ble_eq_true rfl) (by decide) ⟨rfl, ?_⟩
      refine a_iretz (pc := 9) dX9_isStop_9 rfl rfl (Nat.le_of_ble_eq_true rfl) (by decide) ⟨rfl, ?_⟩
      refine a_if_eq (tgt := 23) (pc := 4) dX9_areTwo_4 (by decide) (fun hc => absurd hc (by decide)) (fun _ => ?_)
      refine a_iload_n (pc := 7) dX9_areTwo_7 rfl ?_
      refine p_inlS (Ex := _) (As := [(0, l3)]) (st := []) (st1 := fun r => [(0, r)])  (pc := 8) dX9_areTwo_8 ml_RX9_260 (by decide) (Nat.le_of_ble_eq_true rfl) rfl (fun _ => rfl) (by decide) (by decide) (Nat.le_of_ble_eq_true rfl) rfl ?_
      refine a_iload_n (pc := 0) dX9_isStop_0 rfl ?_
      refine a_i2l (pc := 1) dX9_isStop_1 ?_
      refine a_lconst (v := 0) (pc := 2) dX9_isStop_2 rfl ?_
      refine a_ldc2 (v := 11) (pc := 3) dX9_isStop_3 kc_RX9_90 (by decide) ?_
      refine p_inlS (Ex := _) (As := [(1, l3), (1, 0), (1, 11)]) (st := []) (st1 := fun r => [(0, r)])  (pc := 6) dX9_isStop_6 ml_RX9_92 (by decide) (Nat.le_of_ble_eq_true rfl) rfl (fun _ => rfl) (by decide) (by decide) (Nat.le_of_ble_eq_true rfl) rfl ?_
      refine a_lload_n (pc := 0) dX9_in_0 rfl ?_
      refine a_lload_n (pc := 1) dX9_in_1 rfl ?_
      refine a_lcmp_lt (tgt := 17) (pc := 2) dX9_in_2 dX9_in_3 (by decide) (fun hc3 => ?_) (fun hc3 => ?_)
      · replace h := h.1 hc3
        refine a_iconst (pc := 17) dX9_in_17 (by decide) ?_
        refine a_iretz (pc := 18) dX9_in_18 rfl rfl (Nat.le_of_ble_eq_true rfl) (by decide) ⟨rfl, ?_⟩
        refine a_iretz (pc := 9) dX9_isStop_9 rfl rfl (Nat.le_of_ble_eq_true rfl) (by decide) ⟨rfl, ?_⟩
        refine a_if_eq (tgt := 23) (pc := 11) dX9_areTwo_11 (by decide) (fun _ => ?_) (fun hc => absurd (by decide) hc)
        refine a_iconst (pc := 23) dX9_areTwo_23 (by decide) ?_
        refine a_iretz (pc := 24) dX9_areTwo_24 rfl rfl (Nat.le_of_ble_eq_true rfl) (by decide) ⟨rfl, ?_⟩
        refine a_if_eq (tgt := 24) (pc := 10) dX9_cut_10 (by decide) (fun _ => ?_) (fun hc => absurd (by decide) hc)
        refine a_iconst (pc := 24) dX9_cut_24 (by decide) ?_
        exact a_ireti (pc := 25) dX9_cut_25 rfl rfl (Nat.le_of_ble_eq_true rfl) ⟨rfl, h⟩
      · replace h := h.2 hc3
        refine a_lload_n (pc := 6) dX9_in_6 rfl ?_
        refine a_lload (pc := 7) dX9_in_7 rfl ?_
        refine a_lcmp_gt (tgt := 17) (pc := 9) dX9_in_9 dX9_in_10 (by decide) (fun hc4 => ?_) (fun hc4 => ?_)
        · replace h := h.1 hc4
          refine a_iconst (pc := 17) dX9_in_17 (by decide) ?_
          refine a_iretz (pc := 18) dX9_in_18 rfl rfl (Nat.le_of_ble_eq_true rfl) (by decide) ⟨rfl, ?_⟩
          refine a_iretz (pc := 9) dX9_isStop_9 rfl rfl (Nat.le_of_ble_eq_true rfl) (by decide) ⟨rfl, ?_⟩
          refine a_if_eq (tgt := 23) (pc := 11) dX9_areTwo_11 (by decide) (fun _ => ?_) (fun hc => absurd (by decide) hc)
          refine a_iconst (pc := 23) dX9_areTwo_23 (by decide) ?_
          refine a_iretz (pc := 24) dX9_areTwo_24 rfl rfl (Nat.le_of_ble_eq_true rfl) (by decide) ⟨rfl, ?_⟩
          refine a_if_eq (tgt := 24) (pc := 10) dX9_cut_10 (by decide) (fun _ => ?_) (fun hc => absurd (by decide) hc)
          refine a_iconst (pc := 24) dX9_cut_24 (by decide) ?_
          exact a_ireti (pc := 25) dX9_cut_25 rfl rfl (Nat.le_of_ble_eq_true rfl) ⟨rfl, h⟩
        · replace h := h.2 hc4
          refine a_iconst (pc := 13) dX9_in_13 (by decide) ?_
          refine a_goto (tgt := 18) (pc := 14) dX9_in_14 (by decide) ?_
          refine a_iretz (pc := 18) dX9_in_18 rfl rfl (Nat.le_of_ble_eq_true rfl) (by decide) ⟨rfl, ?_⟩
          refine a_iretz (pc := 9) dX9_isStop_9 rfl rfl (Nat.le_of_ble_eq_true rfl) (by decide) ⟨rfl, ?_⟩
          refine a_if_eq (tgt := 23) (pc := 11) dX9_areTwo_11 (by decide) (fun hc => absurd hc (by decide)) (fun _ => ?_)
          refine a_iload_n (pc := 14) dX9_areTwo_14 rfl ?_
          refine a_iload_n (pc := 15) dX9_areTwo_15 rfl ?_
          refine a_icmp_eq (tgt := 23) (pc := 16) dX9_areTwo_16 (by decide) (fun hc5 => ?_) (fun hc5 => ?_)
          · replace h := h.1 hc5
            refine a_iconst (pc := 23) dX9_areTwo_23 (by decide) ?_
            refine a_iretz (pc := 24) dX9_areTwo_24 rfl rfl (Nat.le_of_ble_eq_true rfl) (by decide) ⟨rfl, ?_⟩
            refine a_if_eq (tgt := 24) (pc := 10) dX9_cut_10 (by decide) (fun _ => ?_) (fun hc => absurd (by decide) hc)
            refine a_iconst (pc := 24) dX9_cut_24 (by decide) ?_
            exact a_ireti (pc := 25) dX9_cut_25 rfl rfl (Nat.le_of_ble_eq_true rfl) ⟨rfl, h⟩
          · replace h := h.2 hc5
            refine a_iconst (pc := 19) dX9_areTwo_19 (by decide) ?_
            refine a_goto (tgt := 24) (pc := 20) dX9_areTwo_20 (by decide) ?_
            refine a_iretz (pc := 24) dX9_areTwo_24 rfl rfl (Nat.le_of_ble_eq_true rfl) (by decide) ⟨rfl, ?_⟩
            refine a_if_eq (tgt := 24) (pc := 10) dX9_cut_10 (by decide) (fun hc => absurd hc (by decide)) (fun _ => ?_)
            refine a_iload (pc := 13) dX9_cut_13 rfl ?_
            refine a_i2l (pc := 15) dX9_cut_15 ?_
            refine a_lconst (v := 0) (pc := 16) dX9_cut_16 rfl ?_
            refine a_lconst (v := 1) (pc := 17) dX9_cut_17 rfl ?_
            refine p_inlS (Ex := _) (As := [(1, l5), (1, 0), (1, 1)]) (st := []) (st1 := fun r => [(0, r)])  (pc := 18) dX9_cut_18 ml_RX9_92 (by decide) (Nat.le_of_ble_eq_true rfl) rfl (fun _ => rfl) (by decide) (by decide) (Nat.le_of_ble_eq_true rfl) rfl ?_
            refine a_lload_n (pc := 0) dX9_in_0 rfl ?_
            refine a_lload_n (pc := 1) dX9_in_1 rfl ?_
            refine a_lcmp_lt (tgt := 17) (pc := 2) dX9_in_2 dX9_in_3 (by decide) (fun hc6 => ?_) (fun hc6 => ?_)
            · replace h := h.1 hc6
              refine a_iconst (pc := 17) dX9_in_17 (by decide) ?_
              refine a_iretz (pc := 18) dX9_in_18 rfl rfl (Nat.le_of_ble_eq_true rfl) (by decide) ⟨rfl, ?_⟩
              refine a_if_ne (tgt := 26) (pc := 21) dX9_cut_21 (by decide) (fun hc => absurd rfl hc) (fun _ => ?_)
              refine a_iconst (pc := 24) dX9_cut_24 (by decide) ?_
              exact a_ireti (pc := 25) dX9_cut_25 rfl rfl (Nat.le_of_ble_eq_true rfl) ⟨rfl, h⟩
            · replace h := h.2 hc6
              refine a_lload_n (pc := 6) dX9_in_6 rfl ?_
              refine a_lload (pc := 7) dX9_in_7 rfl ?_
              refine a_lcmp_gt (tgt := 17) (pc := 9) dX9_in_9 dX9_in_10 (by decide) (fun hc7 => ?_) (fun hc7 => ?_)
              · replace h := h.1 hc7
                refine a_iconst (pc := 17) dX9_in_17 (by decide) ?_
                refine a_iretz (pc := 18) dX9_in_18 rfl rfl (Nat.le_of_ble_eq_true rfl) (by decide) ⟨rfl, ?_⟩
                refine a_if_ne (tgt := 26) (pc := 21) dX9_cut_21 (by decide) (fun hc => absurd rfl hc) (fun _ => ?_)
                refine a_iconst (pc := 24) dX9_cut_24 (by decide) ?_
                exact a_ireti (pc := 25) dX9_cut_25 rfl rfl (Nat.le_of_ble_eq_true rfl) ⟨rfl, h⟩
              · replace h := h.2 hc7
                refine a_iconst (pc := 13) dX9_in_13 (by decide) ?_
                refine a_goto (tgt := 18) (pc := 14) dX9_in_14 (by decide) ?_
                refine a_iretz (pc := 18) dX9_in_18 rfl rfl (Nat.le_of_ble_eq_true rfl) (by decide) ⟨rfl, ?_⟩
                refine a_if_ne (tgt := 26) (pc := 21) dX9_cut_21 (by decide) (fun _ => ?_) (fun hc => absurd hc (by decide))
                refine a_iload_n (pc := 26) dX9_cut_26 rfl ?_
                refine a_iload_n (pc := 27) dX9_cut_27 rfl ?_
                refine a_iload_n (pc := 28) dX9_cut_28 rfl ?_
                refine a_iload (pc := 29) dX9_cut_29 rfl ?_
                refine p_callS (As := [(0, l1), (0, l3), (0, l2), (0, l4)]) (st := []) (st1 := fun r => [(0, r)])  (pc := 31) dX9_cut_31 ml_RX9_278 (by decide) (Nat.le_of_ble_eq_true rfl) rfl (fun _ => rfl) h (fun r8 M9 h => ?_)
                refine a_if_ge (tgt := 40) (pc := 34) dX9_cut_34 (by decide) (fun hc10 => ?_) (fun hc10 => ?_)
                · replace h := h.1 hc10
                  refine a_aload_n (pc := 40) dX9_cut_40 (by decide) rfl ?_
                  refine a_iload_n (pc := 41) dX9_cut_41 rfl ?_
                  refine a_iload_n (pc := 42) dX9_cut_42 rfl ?_
                  refine a_iload_n (pc := 43) dX9_cut_43 rfl ?_
                  refine a_iload (pc := 44) dX9_cut_44 rfl ?_
                  refine p_inlV (Ex := _) (As := [(0, l1), (0, l2), (0, l3), (0, l4)]) (st := []) (st1 := fun r => [(0, r)])  (pc := 46) dX9_cut_46 ml_RX9_297 (by decide) s0_275 rfl (by decide) (Nat.le_of_ble_eq_true rfl) rfl (fun _ => rfl) (by decide) (by decide) (Nat.le_of_ble_eq_true rfl) rfl ?_
                  refine a_aload_n (pc := 0) dX9_lateBy_0 (by decide) rfl ?_
                  refine a_iload_n (pc := 1) dX9_lateBy_1 rfl ?_
                  refine a_iload_n (pc := 2) dX9_lateBy_2 rfl ?_
                  refine a_iload_n (pc := 3) dX9_lateBy_3 rfl ?_
                  refine a_iload (pc := 4) dX9_lateBy_4 rfl ?_
                  refine p_inlV (Ex := _) (As := [(0, l1), (0, l2), (0, l3), (0, l4)]) (st := []) (st1 := fun r => [(0, r)])  (pc := 6) dX9_lateBy_6 ml_RX9_282 (by decide) s0_275 rfl (by decide) (Nat.le_of_ble_eq_true rfl) rfl (fun _ => rfl) (by decide) (by decide) (Nat.le_of_ble_eq_true rfl) rfl ?_
                  refine a_aload_n (pc := 0) dX9_earliestOf_0 (by decide) rfl ?_
                  refine a_iload_n (pc := 1) dX9_earliestOf_1 rfl ?_
                  refine a_iload_n (pc := 2) dX9_earliestOf_2 rfl ?_
                  refine p_callV (As := [(0, l1), (0, l2)]) (st := []) (st1 := fun r => [])  (pc := 3) dX9_earliestOf_3 ml_RX9_138 (by decide) s0_275 rfl (by decide) (Nat.le_of_ble_eq_true rfl) rfl (fun _ => rfl) h (fun r11 M12 h => ?_)
                  refine a_aload_n (pc := 6) dX9_earliestOf_6 (by decide) rfl ?_
                  refine a_getR (y := 284) (pc := 7) dX9_earliestOf_7 fl_RX9_41 (by decide) s0_275 rfl rfl ?_
                  refine a_bipush (pc := 10) dX9_earliestOf_10 (by decide) (by decide +kernel) ?_
                  refine a_iload (pc := 12) dX9_earliestOf_12 rfl ?_
                  have ho13 := h.1
                  replace h := h.2
                  refine a_imul (pc := 14) dX9_earliestOf_14 ho13 ?_
                  refine a_iload_n (pc := 15) dX9_earliestOf_15 rfl ?_
                  have ho14 := h.1
                  replace h := h.2
                  refine a_iadd (pc := 16) dX9_earliestOf_16 ho14 ?_
                  have ho15 := h.1
                  replace h := h.2
                  refine a_iald (pc := 17) dX9_earliestOf_17 (by decide) s0_284 ho15.1 ho15.2 ?_
                  refine a_ireti (pc := 18) dX9_earliestOf_18 rfl rfl (Nat.le_of_ble_eq_true rfl) ⟨rfl, ?_⟩
                  refine a_istore (ls1 := [(2, 275), (0, l1), (0, l2), (0, l3), (0, l4), (0, M12 284 ((12 * l4) + l3))]) (pc := 9) dX9_lateBy_9 (by decide) (hp1 (t := 0) rfl (by decide)) rfl ?_
                  refine a_iload (pc := 11) dX9_lateBy_11 rfl ?_
                  refine a_ldc (v := 100000000) (pc := 13) dX9_lateBy_13 kc_RX9_112 (by decide) ?_
                  refine a_icmp_lt (tgt := 24) (pc := 15) dX9_lateBy_15 (by decide) (fun hc16 => ?_) (fun hc16 => ?_)
                  · replace h := h.1 hc16
                    refine a_iload (pc := 24) dX9_lateBy_24 rfl ?_
                    refine a_ireti (pc := 26) dX9_lateBy_26 rfl rfl (Nat.le_of_ble_eq_true rfl) ⟨rfl, ?_⟩
                    refine a_istore (ls1 := [(2, 275), (0, l1), (0, l2), (0, l3), (0, l4), (0, l5), (0, M12 284 ((12 * l4) + l3)), (9, 0), (9, 0), (9, 0), (9, 0)]) (pc := 49) dX9_cut_49 (by decide) (hp1 (t := 0) rfl (by decide)) rfl ?_
                    refine a_iconst (pc := 51) dX9_cut_51 (by decide) ?_
                    refine a_istore (ls1 := [(2, 275), (0, l1), (0, l2), (0, l3), (0, l4), (0, l5), (0, M12 284 ((12 * l4) + l3)), (0, 0), (9, 0), (9, 0), (9, 0)]) (pc := 52) dX9_cut_52 (by decide) (hp1 (t := 0) rfl (by decide)) rfl ?_
                    refine a_bipush (pc := 54) dX9_cut_54 (by decide) (by decide +kernel) ?_
                    refine a_istore (ls1 := [(2, 275), (0, l1), (0, l2), (0, l3), (0, l4), (0, l5), (0, M12 284 ((12 * l4) + l3)), (0, 0), (0, (-5)), (9, 0), (9, 0)]) (pc := 56) dX9_cut_56 (by decide) (hp1 (t := 0) rfl (by decide)) rfl ?_
                    refine a_iconst (pc := 58) dX9_cut_58 (by decide) ?_
                    refine a_istore (ls1 := [(2, 275), (0, l1), (0, l2), (0, l3), (0, l4), (0, l5), (0, M12 284 ((12 * l4) + l3)), (0, 0), (0, (-5)), (0, 0), (9, 0)]) (pc := 59) dX9_cut_59 (by decide) (hp1 (t := 0) rfl (by decide)) rfl ?_
                    exact h
                  · replace h := h.2 hc16
                    refine a_sipush (pc := 18) dX9_lateBy_18 (by decide) (by decide +kernel) ?_
                    refine a_goto (tgt := 26) (pc := 21) dX9_lateBy_21 (by decide) ?_
                    refine a_ireti (pc := 26) dX9_lateBy_26 rfl rfl (Nat.le_of_ble_eq_true rfl) ⟨rfl, ?_⟩
                    refine a_istore (ls1 := [(2, 275), (0, l1), (0, l2), (0, l3), (0, l4), (0, l5), (0, 10000), (9, 0), (9, 0), (9, 0), (9, 0)]) (pc := 49) dX9_cut_49 (by decide) (hp1 (t := 0) rfl (by decide)) rfl ?_
                    refine a_iconst (pc := 51) dX9_cut_51 (by decide) ?_
                    refine a_istore (ls1 := [(2, 275), (0, l1), (0, l2), (0, l3), (0, l4), (0, l5), (0, 10000), (0, 0), (9, 0), (9, 0), (9, 0)]) (pc := 52) dX9_cut_52 (by decide) (hp1 (t := 0) rfl (by decide)) rfl ?_
                    refine a_bipush (pc := 54) dX9_cut_54 (by decide) (by decide +kernel) ?_
                    refine a_istore (ls1 := [(2, 275), (0, l1), (0, l2), (0, l3), (0, l4), (0, l5), (0, 10000), (0, 0), (0, (-5)), (9, 0), (9, 0)]) (pc := 56) dX9_cut_56 (by decide) (hp1 (t := 0) rfl (by decide)) rfl ?_
                    refine a_iconst (pc := 58) dX9_cut_58 (by decide) ?_
                    refine a_istore (ls1 := [(2, 275), (0, l1), (0, l2), (0, l3), (0, l4), (0, l5), (0, 10000), (0, 0), (0, (-5)), (0, 0), (9, 0)]) (pc := 59) dX9_cut_59 (by decide) (hp1 (t := 0) rfl (by decide)) rfl ?_
                    exact h
                · replace h := h.2 hc10
                  refine a_bipush (pc := 37) dX9_cut_37 (by decide) (by decide +kernel) ?_
                  exact a_ireti (pc := 39) dX9_cut_39 rfl rfl (Nat.le_of_ble_eq_true rfl) ⟨rfl, h⟩
set_option maxRecDepth 100000 in
set_option maxHeartbeats 4000000 in
theorem B_R_cut_61 {l1 l2 l3 l4 l5 l6 l7 l8 l9 : Int} {M : Mem} {Q : Int → Mem → Prop} (h : ((12 ≤ l9 → ((l8 < 0 → Q l8 (up2 M 275 10 (-1))) ∧ (¬ (l8 < 0) → ((¬ l5 = 0 → Q l7 (up2 M 275 10 (-1))) ∧ (l5 = 0 → Q l8 (up2 M 275 10 (-1))))))) ∧ (¬ (12 ≤ l9) → ((l9 = l1 → Calls mX9_layRounds [(2, 275), (0, l1), (0, l2)] S0 (up2 M 275 10 (-1)) (fun r5 M6 => (-2147483648 ≤ 12 * l4 ∧ 12 * l4 ≤ 2147483647) ∧ (-2147483648 ≤ (12 * l4) + l3 ∧ (12 * l4) + l3 ≤ 2147483647) ∧ ((0 : Int) ≤ (12 * l4) + l3 ∧ (12 * l4) + l3 < 84) ∧ (((M6 284 ((12 * l4) + l3)) < 100000000 → (-2147483648 ≤ (M6 284 ((12 * l4) + l3)) - l6 ∧ (M6 284 ((12 * l4) + l3)) - l6 ≤ 2147483647) ∧ ((((M6 284 ((12 * l4) + l3)) - l6) ≤ l7 → (-2147483648 ≤ l9 + 1 ∧ l9 + 1 ≤ 2147483647) ∧ AW mX9_cut 61 [(2, 275), (0, l1), (0, l2), (0, l3), (0, l4), (0, l5), (0, l6), (0, l7), (0, l8), (0, l9 + 1), (9, 0)] M6 Q) ∧ (¬ (((M6 284 ((12 * l4) + l3)) - l6) ≤ l7) → (-2147483648 ≤ l9 + 1 ∧ l9 + 1 ≤ 2147483647) ∧ AW mX9_cut 61 [(2, 275), (0, l1), (0, l2), (0, l3), (0, l4), (0, l5), (0, l6), (0, (M6 284 ((12 * l4) + l3)) - l6), (0, l9), (0, l9 + 1), (9, 0)] M6 Q))) ∧ (¬ ((M6 284 ((12 * l4) + l3)) < 100000000) → (-2147483648 ≤ 10000 - l6 ∧ 10000 - l6 ≤ 2147483647) ∧ (((10000 - l6) ≤ l7 → (-2147483648 ≤ l9 + 1 ∧ l9 + 1 ≤ 2147483647) ∧ AW mX9_cut 61 [(2, 275), (0, l1), (0, l2), (0, l3), (0, l4), (0, l5), (0, l6), (0, l7), (0, l8), (0, l9 + 1), (9, 0)] M6 Q) ∧ (¬ ((10000 - l6) ≤ l7) → (-2147483648 ≤ l9 + 1 ∧ l9 + 1 ≤ 2147483647) ∧ AW mX9_cut 61 [(2, 275), (0, l1), (0, l2), (0, l3), (0, l4), (0, l5), (0, l6), (0, 10000 - l6), (0, l9), (0, l9 + 1), (9, 0)] M6 Q)))))) ∧ (¬ l9 = l1 → ((¬ l9 = l3 → Calls mX9_layRounds [(2, 275), (0, l1), (0, l2)] S0 (up2 M 275 10 l9) (fun r20 M21 => (-2147483648 ≤ 12 * l4 ∧ 12 * l4 ≤ 2147483647) ∧ (-2147483648 ≤ (12 * l4) + l3 ∧ (12 * l4) + l3 ≤ 2147483647) ∧ ((0 : Int) ≤ (12 * l4) + l3 ∧ (12 * l4) + l3 < 84) ∧ (((M21 284 ((12 * l4) + l3)) < 100000000 → (-2147483648 ≤ (M21 284 ((12 * l4) + l3)) - l6 ∧ (M21 284 ((12 * l4) + l3)) - l6 ≤ 2147483647) ∧ ((((M21 284 ((12 * l4) + l3)) - l6) ≤ l7 → (-2147483648 ≤ l9 + 1 ∧ l9 + 1 ≤ 2147483647) ∧ AW mX9_cut 61 [(2, 275), (0, l1), (0, l2), (0, l3), (0, l4), (0, l5), (0, l6), (0, l7), (0, l8), (0, l9 + 1), (9, 0)] M21 Q) ∧ (¬ (((M21 284 ((12 * l4) + l3)) - l6) ≤ l7) → (-2147483648 ≤ l9 + 1 ∧ l9 + 1 ≤ 2147483647) ∧ AW mX9_cut 61 [(2, 275), (0, l1), (0, l2), (0, l3), (0, l4), (0, l5), (0, l6), (0, (M21 284 ((12 * l4) + l3)) - l6), (0, l9), (0, l9 + 1), (9, 0)] M21 Q))) ∧ (¬ ((M21 284 ((12 * l4) + l3)) < 100000000) → (-2147483648 ≤ 10000 - l6 ∧ 10000 - l6 ≤ 2147483647) ∧ (((10000 - l6) ≤ l7 → (-2147483648 ≤ l9 + 1 ∧ l9 + 1 ≤ 2147483647) ∧ AW mX9_cut 61 [(2, 275), (0, l1), (0, l2), (0, l3), (0, l4), (0, l5), (0, l6), (0, l7), (0, l8), (0, l9 + 1), (9, 0)] M21 Q) ∧ (¬ ((10000 - l6) ≤ l7) → (-2147483648 ≤ l9 + 1 ∧ l9 + 1 ≤ 2147483647) ∧ AW mX9_cut 61 [(2, 275), (0, l1), (0, l2), (0, l3), (0, l4), (0, l5), (0, l6), (0, 10000 - l6), (0, l9), (0, l9 + 1), (9, 0)] M21 Q)))))) ∧ (l9 = l3 → Calls mX9_layRounds [(2, 275), (0, l1), (0, l2)] S0 (up2 M 275 10 (-1)) (fun r34 M35 => (-2147483648 ≤ 12 * l4 ∧ 12 * l4 ≤ 2147483647) ∧ (-2147483648 ≤ (12 * l4) + l3 ∧ (12 * l4) + l3 ≤ 2147483647) ∧ ((0 : Int) ≤ (12 * l4) + l3 ∧ (12 * l4) + l3 < 84) ∧ (((M35 284 ((12 * l4) + l3)) < 100000000 → (-2147483648 ≤ (M35 284 ((12 * l4) + l3)) - l6 ∧ (M35 284 ((12 * l4) + l3)) - l6 ≤ 2147483647) ∧ ((((M35 284 ((12 * l4) + l3)) - l6) ≤ l7 → (-2147483648 ≤ l9 + 1 ∧ l9 + 1 ≤ 2147483647) ∧ AW mX9_cut 61 [(2, 275), (0, l1), (0, l2), (0, l3), (0, l4), (0, l5), (0, l6), (0, l7), (0, l8), (0, l9 + 1), (9, 0)] M35 Q) ∧ (¬ (((M35 284 ((12 * l4) + l3)) - l6) ≤ l7) → (-2147483648 ≤ l9 + 1 ∧ l9 + 1 ≤ 2147483647) ∧ AW mX9_cut 61 [(2, 275), (0, l1), (0, l2), (0, l3), (0, l4), (0, l5), (0, l6), (0, (M35 284 ((12 * l4) + l3)) - l6), (0, l9), (0, l9 + 1), (9, 0)] M35 Q))) ∧ (¬ ((M35 284 ((12 * l4) + l3)) < 100000000) → (-2147483648 ≤ 10000 - l6 ∧ 10000 - l6 ≤ 2147483647) ∧ (((10000 - l6) ≤ l7 → (-2147483648 ≤ l9 + 1 ∧ l9 + 1 ≤ 2147483647) ∧ AW mX9_cut 61 [(2, 275), (0, l1), (0, l2), (0, l3), (0, l4), (0, l5), (0, l6), (0, l7), (0, l8), (0, l9 + 1), (9, 0)] M35 Q) ∧ (¬ ((10000 - l6) ≤ l7) → (-2147483648 ≤ l9 + 1 ∧ l9 + 1 ≤ 2147483647) ∧ AW mX9_cut 61 [(2, 275), (0, l1), (0, l2), (0, l3), (0, l4), (0, l5), (0, l6), (0, 10000 - l6), (0, l9), (0, l9 + 1), (9, 0)] M35 Q)))))))))))) : AW mX9_cut 61 [(2, 275), (0, l1), (0, l2), (0, l3), (0, l4), (0, l5), (0, l6), (0, l7), (0, l8), (0, l9), (9, 0)] M Q := by
  refine a_iload (pc := 61) dX9_cut_61 rfl ?_
  refine a_bipush (pc := 63) dX9_cut_63 (by decide) (by decide +kernel) ?_
  refine a_icmp_ge (tgt := 142) (pc := 65) dX9_cut_65 (by decide) (fun hc1 => ?_) (fun hc1 => ?_)
  · replace h := h.1 hc1
    refine a_aload_n (pc := 142) dX9_cut_142 (by decide) rfl ?_
    refine a_iconst (pc := 143) dX9_cut_143 (by decide) ?_
    refine a_putI (y := 10) (pc := 144) dX9_cut_144 fl_RX9_35 (by decide) s0_275 rfl rfl (tyX9_ok 10 (by decide)) rfl ?_
    refine a_iload (pc := 147) dX9_cut_147 rfl ?_
    refine a_if_lt (tgt := 157) (pc := 149) dX9_cut_149 (by decide) (fun hc2 => ?_) (fun hc2 => ?_)
    · replace h := h.1 hc2
      refine a_iload (pc := 157) dX9_cut_157 rfl ?_
      refine a_goto (tgt := 164) (pc := 159) dX9_cut_159 (by decide) ?_
      exact a_ireti (pc := 164) dX9_cut_164 rfl rfl (Nat.le_of_ble_eq_true rfl) ⟨rfl, h⟩
    · replace h := h.2 hc2
      refine a_iload (pc := 152) dX9_cut_152 rfl ?_
      refine a_if_ne (tgt := 162) (pc := 154) dX9_cut_154 (by decide) (fun hc3 => ?_) (fun hc3 => ?_)
      · replace h := h.1 hc3
        refine a_iload (pc := 162) dX9_cut_162 rfl ?_
        exact a_ireti (pc := 164) dX9_cut_164 rfl rfl (Nat.le_of_ble_eq_true rfl) ⟨rfl, h⟩
      · replace h := h.2 hc3
        refine a_iload (pc := 157) dX9_cut_157 rfl ?_
        refine a_goto (tgt := 164) (pc := 159) dX9_cut_159 (by decide) ?_
        exact a_ireti (pc := 164) dX9_cut_164 rfl rfl (Nat.le_of_ble_eq_true rfl) ⟨rfl, h⟩
  · replace h := h.2 hc1
    refine a_aload_n (pc := 68) dX9_cut_68 (by decide) rfl ?_
    refine a_iload (pc := 69) dX9_cut_69 rfl ?_
    refine a_iload_n (pc := 71) dX9_cut_71 rfl ?_
    refine a_icmp_eq (tgt := 81) (pc := 72) dX9_cut_72 (by decide) (fun hc4 => ?_) (fun hc4 => ?_)
    · replace h := h.1 hc4
      refine a_iconst (pc := 81) dX9_cut_81 (by decide) ?_
      refine a_goto (tgt := 87) (pc := 82) dX9_cut_82 (by decide) ?_
      refine a_putI (y := 10) (pc := 87) dX9_cut_87 fl_RX9_35 (by decide) s0_275 rfl rfl (tyX9_ok 10 (by decide)) rfl ?_
      refine a_aload_n (pc := 90) dX9_cut_90 (by decide) rfl ?_
      refine a_iload_n (pc := 91) dX9_cut_91 rfl ?_
      refine a_iload_n (pc := 92) dX9_cut_92 rfl ?_
      refine a_iload_n (pc := 93) dX9_cut_93 rfl ?_
      refine a_iload (pc := 94) dX9_cut_94 rfl ?_
      refine p_inlV (Ex := _) (As := [(0, l1), (0, l2), (0, l3), (0, l4)]) (st := []) (st1 := fun r => [(0, r)])  (pc := 96) dX9_cut_96 ml_RX9_297 (by decide) s0_275 rfl (by decide) (Nat.le_of_ble_eq_true rfl) rfl (fun _ => rfl) (by decide) (by decide) (Nat.le_of_ble_eq_true rfl) rfl ?_
      refine a_aload_n (pc := 0) dX9_lateBy_0 (by decide) rfl ?_
      refine a_iload_n (pc := 1) dX9_lateBy_1 rfl ?_
      refine a_iload_n (pc := 2) dX9_lateBy_2 rfl ?_
      refine a_iload_n (pc := 3) dX9_lateBy_3 rfl ?_
      refine a_iload (pc := 4) dX9_lateBy_4 rfl ?_
      refine p_inlV (Ex := _) (As := [(0, l1), (0, l2), (0, l3), (0, l4)]) (st := []) (st1 := fun r => [(0, r)])  (pc := 6) dX9_lateBy_6 ml_RX9_282 (by decide) s0_275 rfl (by decide) (Nat.le_of_ble_eq_true rfl) rfl (fun _ => rfl) (by decide) (by decide) (Nat.le_of_ble_eq_true rfl) rfl ?_
      refine a_aload_n (pc := 0) dX9_earliestOf_0 (by decide) rfl ?_
      refine a_iload_n (pc := 1) dX9_earliestOf_1 rfl ?_
      refine a_iload_n (pc := 2) dX9_earliestOf_2 rfl ?_
      refine p_callV (As := [(0, l1), (0, l2)]) (st := []) (st1 := fun r => [])  (pc := 3) dX9_earliestOf_3 ml_RX9_138 (by decide) s0_275 rfl (by decide) (Nat.le_of_ble_eq_true rfl) rfl (fun _ => rfl) h (fun r5 M6 h => ?_)
      refine a_aload_n (pc := 6) dX9_earliestOf_6 (by decide) rfl ?_
      refine a_getR (y := 284) (pc := 7) dX9_earliestOf_7 fl_RX9_41 (by decide) s0_275 rfl rfl ?_
      refine a_bipush (pc := 10) dX9_earliestOf_10 (by decide) (by decide +kernel) ?_
      refine a_iload (pc := 12) dX9_earliestOf_12 rfl ?_
      have ho7 := h.1
      replace h := h.2
      refine a_imul (pc := 14) dX9_earliestOf_14 ho7 ?_
      refine a_iload_n (pc := 15) dX9_earliestOf_15 rfl ?_
      have ho8 := h.1
      replace h := h.2
      refine a_iadd (pc := 16) dX9_earliestOf_16 ho8 ?_
      have ho9 := h.1
      replace h := h.2
      refine a_iald (pc := 17) dX9_earliestOf_17 (by decide) s0_284 ho9.1 ho9.2 ?_
      refine a_ireti (pc := 18) dX9_earliestOf_18 rfl rfl (Nat.le_of_ble_eq_true rfl) ⟨rfl, ?_⟩
      refine a_istore (ls1 := [(2, 275), (0, l1), (0, l2), (0, l3), (0, l4), (0, M6 284 ((12 * l4) + l3))]) (pc := 9) dX9_lateBy_9 (by decide) (hp1 (t := 0) rfl (by decide)) rfl ?_
      refine a_iload (pc := 11) dX9_lateBy_11 rfl ?_
      refine a_ldc (v := 100000000) (pc := 13) dX9_lateBy_13 kc_RX9_112 (by decide) ?_
      refine a_icmp_lt (tgt := 24) (pc := 15) dX9_lateBy_15 (by decide) (fun hc10 => ?_) (fun hc10 => ?_)
      · replace h := h.1 hc10
        refine a_iload (pc := 24) dX9_lateBy_24 rfl ?_
        refine a_ireti (pc := 26) dX9_lateBy_26 rfl rfl (Nat.le_of_ble_eq_true rfl) ⟨rfl, ?_⟩
        refine a_iload (pc := 99) dX9_cut_99 rfl ?_
        have ho11 := h.1
        replace h := h.2
        refine a_isub (pc := 101) dX9_cut_101 ho11 ?_
        refine a_istore (ls1 := [(2, 275), (0, l1), (0, l2), (0, l3), (0, l4), (0, l5), (0, l6), (0, l7), (0, l8), (0, l9), (0, (M6 284 ((12 * l4) + l3)) - l6)]) (pc := 102) dX9_cut_102 (by decide) (hp1 (t := 0) rfl (by decide)) rfl ?_
        refine a_iload (pc := 104) dX9_cut_104 rfl ?_
        refine a_iload (pc := 106) dX9_cut_106 rfl ?_
        refine a_icmp_le (tgt := 116) (pc := 108) dX9_cut_108 (by decide) (fun hc12 => ?_) (fun hc12 => ?_)
        · replace h := h.1 hc12
          refine a_iload (pc := 116) dX9_cut_116 rfl ?_
          refine a_istore (ls1 := [(2, 275), (0, l1), (0, l2), (0, l3), (0, l4), (0, l5), (0, l6), (0, l7), (0, l8), (0, l9), (0, (M6 284 ((12 * l4) + l3)) - l6)]) (pc := 118) dX9_cut_118 (by decide) (hp1 (t := 0) rfl (by decide)) rfl ?_
          refine a_iload (pc := 120) dX9_cut_120 rfl ?_
          refine a_iload (pc := 122) dX9_cut_122 rfl ?_
          refine a_icmp_le (tgt := 132) (pc := 124) dX9_cut_124 (by decide) (fun _ => ?_) (fun hc => absurd hc12 hc)
          refine a_iload (pc := 132) dX9_cut_132 rfl ?_
          refine a_istore (ls1 := [(2, 275), (0, l1), (0, l2), (0, l3), (0, l4), (0, l5), (0, l6), (0, l7), (0, l8), (0, l9), (0, (M6 284 ((12 * l4) + l3)) - l6)]) (pc := 134) dX9_cut_134 (by decide) (hp1 (t := 0) rfl (by decide)) rfl ?_
          have ho13 := h.1
          replace h := h.2
          refine a_iinc (ls1 := [(2, 275), (0, l1), (0, l2), (0, l3), (0, l4), (0, l5), (0, l6), (0, l7), (0, l8), (0, l9 + 1), (0, (M6 284 ((12 * l4) + l3)) - l6)]) (pc := 136) dX9_cut_136 rfl (by decide) (hp1 (t := 0) rfl (by decide)) ho13 rfl ?_
          refine a_goto (tgt := 61) (pc := 139) dX9_cut_139 (by decide) ?_
          exact a_msk [true, true, true, true, true, true, true, true, true, true, false] rfl h
        · replace h := h.2 hc12
          refine a_iload (pc := 111) dX9_cut_111 rfl ?_
          refine a_goto (tgt := 118) (pc := 113) dX9_cut_113 (by decide) ?_
          refine a_istore (ls1 := [(2, 275), (0, l1), (0, l2), (0, l3), (0, l4), (0, l5), (0, l6), (0, l7), (0, l9), (0, l9), (0, (M6 284 ((12 * l4) + l3)) - l6)]) (pc := 118) dX9_cut_118 (by decide) (hp1 (t := 0) rfl (by decide)) rfl ?_
          refine a_iload (pc := 120) dX9_cut_120 rfl ?_
          refine a_iload (pc := 122) dX9_cut_122 rfl ?_
          refine a_icmp_le (tgt := 132) (pc := 124) dX9_cut_124 (by decide) (fun hc => absurd hc hc12) (fun _ => ?_)
          refine a_iload (pc := 127) dX9_cut_127 rfl ?_
          refine a_goto (tgt := 134) (pc := 129) dX9_cut_129 (by decide) ?_
          refine a_istore (ls1 := [(2, 275), (0, l1), (0, l2), (0, l3), (0, l4), (0, l5), (0, l6), (0, (M6 284 ((12 * l4) + l3)) - l6), (0, l9), (0, l9), (0, (M6 284 ((12 * l4) + l3)) - l6)]) (pc := 134) dX9_cut_134 (by decide) (hp1 (t := 0) rfl (by decide)) rfl ?_
          have ho14 := h.1
          replace h := h.2
          refine a_iinc (ls1 := [(2, 275), (0, l1), (0, l2), (0, l3), (0, l4), (0, l5), (0, l6), (0, (M6 284 ((12 * l4) + l3)) - l6), (0, l9), (0, l9 + 1), (0, (M6 284 ((12 * l4) + l3)) - l6)]) (pc := 136) dX9_cut_136 rfl (by decide) (hp1 (t := 0) rfl (by decide)) ho14 rfl ?_
          refine a_goto (tgt := 61) (pc := 139) dX9_cut_139 (by decide) ?_
          exact a_msk [true, true, true, true, true, true, true, true, true, true, false] rfl h
      · replace h := h.2 hc10
        refine a_sipush (pc := 18) dX9_lateBy_18 (by decide) (by decide +kernel) ?_
        refine a_goto (tgt := 26) (pc := 21) dX9_lateBy_21 (by decide) ?_
        refine a_ireti (pc := 26) dX9_lateBy_26 rfl rfl (Nat.le_of_ble_eq_true rfl) ⟨rfl, ?_⟩
        refine a_iload (pc := 99) dX9_cut_99 rfl ?_
        have ho15 := h.1
        replace h := h.2
        refine a_isub (pc := 101) dX9_cut_101 ho15 ?_
        refine a_istore (ls1 := [(2, 275), (0, l1), (0, l2), (0, l3), (0, l4), (0, l5), (0, l6), (0, l7), (0, l8), (0, l9), (0, 10000 - l6)]) (pc := 102) dX9_cut_102 (by decide) (hp1 (t := 0) rfl (by decide)) rfl ?_
        refine a_iload (pc := 104) dX9_cut_104 rfl ?_
        refine a_iload (pc := 106) dX9_cut_106 rfl ?_
        refine a_icmp_le (tgt := 116) (pc := 108) dX9_cut_108 (by decide) (fun hc16 => ?_) (fun hc16 => ?_)
        · replace h := h.1 hc16
          refine a_iload (pc := 116) dX9_cut_116 rfl ?_
          refine a_istore (ls1 := [(2, 275), (0, l1), (0, l2), (0, l3), (0, l4), (0, l5), (0, l6), (0, l7), (0, l8), (0, l9), (0, 10000 - l6)]) (pc := 118) dX9_cut_118 (by decide) (hp1 (t := 0) rfl (by decide)) rfl ?_
          refine a_iload (pc := 120) dX9_cut_120 rfl ?_
          refine a_iload (pc := 122) dX9_cut_122 rfl ?_
          refine a_icmp_le (tgt := 132) (pc := 124) dX9_cut_124 (by decide) (fun _ => ?_) (fun hc => absurd hc16 hc)
          refine a_iload (pc := 132) dX9_cut_132 rfl ?_
          refine a_istore (ls1 := [(2, 275), (0, l1), (0, l2), (0, l3), (0, l4), (0, l5), (0, l6), (0, l7), (0, l8), (0, l9), (0, 10000 - l6)]) (pc := 134) dX9_cut_134 (by decide) (hp1 (t := 0) rfl (by decide)) rfl ?_
          have ho17 := h.1
          replace h := h.2
          refine a_iinc (ls1 := [(2, 275), (0, l1), (0, l2), (0, l3), (0, l4), (0, l5), (0, l6), (0, l7), (0, l8), (0, l9 + 1), (0, 10000 - l6)]) (pc := 136) dX9_cut_136 rfl (by decide) (hp1 (t := 0) rfl (by decide)) ho17 rfl ?_
          refine a_goto (tgt := 61) (pc := 139) dX9_cut_139 (by decide) ?_
          exact a_msk [true, true, true, true, true, true, true, true, true, true, false] rfl h
        · replace h := h.2 hc16
          refine a_iload (pc := 111) dX9_cut_111 rfl ?_
          refine a_goto (tgt := 118) (pc := 113) dX9_cut_113 (by decide) ?_
          refine a_istore (ls1 := [(2, 275), (0, l1), (0, l2), (0, l3), (0, l4), (0, l5), (0, l6), (0, l7), (0, l9), (0, l9), (0, 10000 - l6)]) (pc := 118) dX9_cut_118 (by decide) (hp1 (t := 0) rfl (by decide)) rfl ?_
          refine a_iload (pc := 120) dX9_cut_120 rfl ?_
          refine a_iload (pc := 122) dX9_cut_122 rfl ?_
          refine a_icmp_le (tgt := 132) (pc := 124) dX9_cut_124 (by decide) (fun hc => absurd hc hc16) (fun _ => ?_)
          refine a_iload (pc := 127) dX9_cut_127 rfl ?_
          refine a_goto (tgt := 134) (pc := 129) dX9_cut_129 (by decide) ?_
          refine a_istore (ls1 := [(2, 275), (0, l1), (0, l2), (0, l3), (0, l4), (0, l5), (0, l6), (0, 10000 - l6), (0, l9), (0, l9), (0, 10000 - l6)]) (pc := 134) dX9_cut_134 (by decide) (hp1 (t := 0) rfl (by decide)) rfl ?_
          have ho18 := h.1
          replace h := h.2
          refine a_iinc (ls1 := [(2, 275), (0, l1), (0, l2), (0, l3), (0, l4), (0, l5), (0, l6), (0, 10000 - l6), (0, l9), (0, l9 + 1), (0, 10000 - l6)]) (pc := 136) dX9_cut_136 rfl (by decide) (hp1 (t := 0) rfl (by decide)) ho18 rfl ?_
          refine a_goto (tgt := 61) (pc := 139) dX9_cut_139 (by decide) ?_
          exact a_msk [true, true, true, true, true, true, true, true, true, true, false] rfl h
    · replace h := h.2 hc4
      refine a_iload (pc := 75) dX9_cut_75 rfl ?_
      refine a_iload_n (pc := 77) dX9_cut_77 rfl ?_
      refine a_icmp_ne (tgt := 85) (pc := 78) dX9_cut_78 (by decide) (fun hc19 => ?_) (fun hc19 => ?_)
      · replace h := h.1 hc19
        refine a_iload (pc := 85) dX9_cut_85 rfl ?_
        refine a_putI (y := 10) (pc := 87) dX9_cut_87 fl_RX9_35 (by decide) s0_275 rfl rfl (tyX9_ok 10 (by decide)) rfl ?_
        refine a_aload_n (pc := 90) dX9_cut_90 (by decide) rfl ?_
        refine a_iload_n (pc := 91) dX9_cut_91 rfl ?_
        refine a_iload_n (pc := 92) dX9_cut_92 rfl ?_
        refine a_iload_n (pc := 93) dX9_cut_93 rfl ?_
        refine a_iload (pc := 94) dX9_cut_94 rfl ?_
        refine p_inlV (Ex := _) (As := [(0, l1), (0, l2), (0, l3), (0, l4)]) (st := []) (st1 := fun r => [(0, r)])  (pc := 96) dX9_cut_96 ml_RX9_297 (by decide) s0_275 rfl (by decide) (Nat.le_of_ble_eq_true rfl) rfl (fun _ => rfl) (by decide) (by decide) (Nat.le_of_ble_eq_true rfl) rfl ?_
        refine a_aload_n (pc := 0) dX9_lateBy_0 (by decide) rfl ?_
        refine a_iload_n (pc := 1) dX9_lateBy_1 rfl ?_
        refine a_iload_n (pc := 2) dX9_lateBy_2 rfl ?_
        refine a_iload_n (pc := 3) dX9_lateBy_3 rfl ?_
        refine a_iload (pc := 4) dX9_lateBy_4 rfl ?_
        refine p_inlV (Ex := _) (As := [(0, l1), (0, l2), (0, l3), (0, l4)]) (st := []) (st1 := fun r => [(0, r)])  (pc := 6) dX9_lateBy_6 ml_RX9_282 (by decide) s0_275 rfl (by decide) (Nat.le_of_ble_eq_true rfl) rfl (fun _ => rfl) (by decide) (by decide) (Nat.le_of_ble_eq_true rfl) rfl ?_
        refine a_aload_n (pc := 0) dX9_earliestOf_0 (by decide) rfl ?_
        refine a_iload_n (pc := 1) dX9_earliestOf_1 rfl ?_
        refine a_iload_n (pc := 2) dX9_earliestOf_2 rfl ?_
        refine p_callV (As := [(0, l1), (0, l2)]) (st := []) (st1 := fun r => [])  (pc := 3) dX9_earliestOf_3 ml_RX9_138 (by decide) s0_275 rfl (by decide) (Nat.le_of_ble_eq_true rfl) rfl (fun _ => rfl) h (fun r20 M21 h => ?_)
        refine a_aload_n (pc := 6) dX9_earliestOf_6 (by decide) rfl ?_
        refine a_getR (y := 284) (pc := 7) dX9_earliestOf_7 fl_RX9_41 (by decide) s0_275 rfl rfl ?_
        refine a_bipush (pc := 10) dX9_earliestOf_10 (by decide) (by decide +kernel) ?_
        refine a_iload (pc := 12) dX9_earliestOf_12 rfl ?_
        have ho22 := h.1
        replace h := h.2
        refine a_imul (pc := 14) dX9_earliestOf_14 ho22 ?_
        refine a_iload_n (pc := 15) dX9_earliestOf_15 rfl ?_
        have ho23 := h.1
        replace h := h.2
        refine a_iadd (pc := 16) dX9_earliestOf_16 ho23 ?_
        have ho24 := h.1
        replace h := h.2
        refine a_iald (pc := 17) dX9_earliestOf_17 (by decide) s0_284 ho24.1 ho24.2 ?_
        refine a_ireti (pc := 18) dX9_earliestOf_18 rfl rfl (Nat.le_of_ble_eq_true rfl) ⟨rfl, ?_⟩
        refine a_istore (ls1 := [(2, 275), (0, l1), (0, l2), (0, l3), (0, l4), (0, M21 284 ((12 * l4) + l3))]) (pc := 9) dX9_lateBy_9 (by decide) (hp1 (t := 0) rfl (by decide)) rfl ?_
        refine a_iload (pc := 11) dX9_lateBy_11 rfl ?_
        refine a_ldc (v := 100000000) (pc := 13) dX9_lateBy_13 kc_RX9_112 (by decide) ?_
        refine a_icmp_lt (tgt := 24) (pc := 15) dX9_lateBy_15 (by decide) (fun hc25 => ?_) (fun hc25 => ?_)
        · replace h := h.1 hc25
          refine a_iload (pc := 24) dX9_lateBy_24 rfl ?_
          refine a_ireti (pc := 26) dX9_lateBy_26 rfl rfl (Nat.le_of_ble_eq_true rfl) ⟨rfl, ?_⟩
          refine a_iload (pc := 99) dX9_cut_99 rfl ?_
          have ho26 := h.1
          replace h := h.2
          refine a_isub (pc := 101) dX9_cut_101 ho26 ?_
          refine a_istore (ls1 := [(2, 275), (0, l1), (0, l2), (0, l3), (0, l4), (0, l5), (0, l6), (0, l7), (0, l8), (0, l9), (0, (M21 284 ((12 * l4) + l3)) - l6)]) (pc := 102) dX9_cut_102 (by decide) (hp1 (t := 0) rfl (by decide)) rfl ?_
          refine a_iload (pc := 104) dX9_cut_104 rfl ?_
          refine a_iload (pc := 106) dX9_cut_106 rfl ?_
          refine a_icmp_le (tgt := 116) (pc := 108) dX9_cut_108 (by decide) (fun hc27 => ?_) (fun hc27 => ?_)
          · replace h := h.1 hc27
            refine a_iload (pc := 116) dX9_cut_116 rfl ?_
            refine a_istore (ls1 := [(2, 275), (0, l1), (0, l2), (0, l3), (0, l4), (0, l5), (0, l6), (0, l7), (0, l8), (0, l9), (0, (M21 284 ((12 * l4) + l3)) - l6)]) (pc := 118) dX9_cut_118 (by decide) (hp1 (t := 0) rfl (by decide)) rfl ?_
            refine a_iload (pc := 120) dX9_cut_120 rfl ?_
            refine a_iload (pc := 122) dX9_cut_122 rfl ?_
            refine a_icmp_le (tgt := 132) (pc := 124) dX9_cut_124 (by decide) (fun _ => ?_) (fun hc => absurd hc27 hc)
            refine a_iload (pc := 132) dX9_cut_132 rfl ?_
            refine a_istore (ls1 := [(2, 275), (0, l1), (0, l2), (0, l3), (0, l4), (0, l5), (0, l6), (0, l7), (0, l8), (0, l9), (0, (M21 284 ((12 * l4) + l3)) - l6)]) (pc := 134) dX9_cut_134 (by decide) (hp1 (t := 0) rfl (by decide)) rfl ?_
            have ho28 := h.1
            replace h := h.2
            refine a_iinc (ls1 := [(2, 275), (0, l1), (0, l2), (0, l3), (0, l4), (0, l5), (0, l6), (0, l7), (0, l8), (0, l9 + 1), (0, (M21 284 ((12 * l4) + l3)) - l6)]) (pc := 136) dX9_cut_136 rfl (by decide) (hp1 (t := 0) rfl (by decide)) ho28 rfl ?_
            refine a_goto (tgt := 61) (pc := 139) dX9_cut_139 (by decide) ?_
            exact a_msk [true, true, true, true, true, true, true, true, true, true, false] rfl h
          · replace h := h.2 hc27
            refine a_iload (pc := 111) dX9_cut_111 rfl ?_
            refine a_goto (tgt := 118) (pc := 113) dX9_cut_113 (by decide) ?_
            refine a_istore (ls1 := [(2, 275), (0, l1), (0, l2), (0, l3), (0, l4), (0, l5), (0, l6), (0, l7), (0, l9), (0, l9), (0, (M21 284 ((12 * l4) + l3)) - l6)]) (pc := 118) dX9_cut_118 (by decide) (hp1 (t := 0) rfl (by decide)) rfl ?_
            refine a_iload (pc := 120) dX9_cut_120 rfl ?_
            refine a_iload (pc := 122) dX9_cut_122 rfl ?_
            refine a_icmp_le (tgt := 132) (pc := 124) dX9_cut_124 (by decide) (fun hc => absurd hc hc27) (fun _ => ?_)
            refine a_iload (pc := 127) dX9_cut_127 rfl ?_
            refine a_goto (tgt := 134) (pc := 129) dX9_cut_129 (by decide) ?_
            refine a_istore (ls1 := [(2, 275), (0, l1), (0, l2), (0, l3), (0, l4), (0, l5), (0, l6), (0, (M21 284 ((12 * l4) + l3)) - l6), (0, l9), (0, l9), (0, (M21 284 ((12 * l4) + l3)) - l6)]) (pc := 134) dX9_cut_134 (by decide) (hp1 (t := 0) rfl (by decide)) rfl ?_
            have ho29 := h.1
            replace h := h.2
            refine a_iinc (ls1 := [(2, 275), (0, l1), (0, l2), (0, l3), (0, l4), (0, l5), (0, l6), (0, (M21 284 ((12 * l4) + l3)) - l6), (0, l9), (0, l9 + 1), (0, (M21 284 ((12 * l4) + l3)) - l6)]) (pc := 136) dX9_cut_136 rfl (by decide) (hp1 (t := 0) rfl (by decide)) ho29 rfl ?_
            refine a_goto (tgt := 61) (pc := 139) dX9_cut_139 (by decide) ?_
            exact a_msk [true, true, true, true, true, true, true, true, true, true, false] rfl h
        · replace h := h.2 hc25
          refine a_sipush (pc := 18) dX9_lateBy_18 (by decide) (by decide +kernel) ?_
          refine a_goto (tgt := 26) (pc := 21) dX9_lateBy_21 (by decide) ?_
          refine a_ireti (pc := 26) dX9_lateBy_26 rfl rfl (Nat.le_of_ble_eq_true rfl) ⟨rfl, ?_⟩
          refine a_iload (pc := 99) dX9_cut_99 rfl ?_
          have ho30 := h.1
          replace h := h.2
          refine a_isub (pc := 101) dX9_cut_101 ho30 ?_
          refine a_istore (ls1 := [(2, 275), (0, l1), (0, l2), (0, l3), (0, l4), (0, l5), (0, l6), (0, l7), (0, l8), (0, l9), (0, 10000 - l6)]) (pc := 102) dX9_cut_102 (by decide) (hp1 (t := 0) rfl (by decide)) rfl ?_
          refine a_iload (pc := 104) dX9_cut_104 rfl ?_
          refine a_iload (pc := 106) dX9_cut_106 rfl ?_
          refine a_icmp_le (tgt := 116) (pc := 108) dX9_cut_108 (by decide) (fun hc31 => ?_) (fun hc31 => ?_)
          · replace h := h.1 hc31
            refine a_iload (pc := 116) dX9_cut_116 rfl ?_
            refine a_istore (ls1 := [(2, 275), (0, l1), (0, l2), (0, l3), (0, l4), (0, l5), (0, l6), (0, l7), (0, l8), (0, l9), (0, 10000 - l6)]) (pc := 118) dX9_cut_118 (by decide) (hp1 (t := 0) rfl (by decide)) rfl ?_
            refine a_iload (pc := 120) dX9_cut_120 rfl ?_
            refine a_iload (pc := 122) dX9_cut_122 rfl ?_
            refine a_icmp_le (tgt := 132) (pc := 124) dX9_cut_124 (by decide) (fun _ => ?_) (fun hc => absurd hc31 hc)
            refine a_iload (pc := 132) dX9_cut_132 rfl ?_
            refine a_istore (ls1 := [(2, 275), (0, l1), (0, l2), (0, l3), (0, l4), (0, l5), (0, l6), (0, l7), (0, l8), (0, l9), (0, 10000 - l6)]) (pc := 134) dX9_cut_134 (by decide) (hp1 (t := 0) rfl (by decide)) rfl ?_
            have ho32 := h.1
            replace h := h.2
            refine a_iinc (ls1 := [(2, 275), (0, l1), (0, l2), (0, l3), (0, l4), (0, l5), (0, l6), (0, l7), (0, l8), (0, l9 + 1), (0, 10000 - l6)]) (pc := 136) dX9_cut_136 rfl (by decide) (hp1 (t := 0) rfl (by decide)) ho32 rfl ?_
            refine a_goto (tgt := 61) (pc := 139) dX9_cut_139 (by decide) ?_
            exact a_msk [true, true, true, true, true, true, true, true, true, true, false] rfl h
          · replace h := h.2 hc31
            refine a_iload (pc := 111) dX9_cut_111 rfl ?_
            refine a_goto (tgt := 118) (pc := 113) dX9_cut_113 (by decide) ?_
            refine a_istore (ls1 := [(2, 275), (0, l1), (0, l2), (0, l3), (0, l4), (0, l5), (0, l6), (0, l7), (0, l9), (0, l9), (0, 10000 - l6)]) (pc := 118) dX9_cut_118 (by decide) (hp1 (t := 0) rfl (by decide)) rfl ?_
            refine a_iload (pc := 120) dX9_cut_120 rfl ?_
            refine a_iload (pc := 122) dX9_cut_122 rfl ?_
            refine a_icmp_le (tgt := 132) (pc := 124) dX9_cut_124 (by decide) (fun hc => absurd hc hc31) (fun _ => ?_)
            refine a_iload (pc := 127) dX9_cut_127 rfl ?_
            refine a_goto (tgt := 134) (pc := 129) dX9_cut_129 (by decide) ?_
            refine a_istore (ls1 := [(2, 275), (0, l1), (0, l2), (0, l3), (0, l4), (0, l5), (0, l6), (0, 10000 - l6), (0, l9), (0, l9), (0, 10000 - l6)]) (pc := 134) dX9_cut_134 (by decide) (hp1 (t := 0) rfl (by decide)) rfl ?_
            have ho33 := h.1
            replace h := h.2
            refine a_iinc (ls1 := [(2, 275), (0, l1), (0, l2), (0, l3), (0, l4), (0, l5), (0, l6), (0, 10000 - l6), (0, l9), (0, l9 + 1), (0, 10000 - l6)]) (pc := 136) dX9_cut_136 rfl (by decide) (hp1 (t := 0) rfl (by decide)) ho33 rfl ?_
            refine a_goto (tgt := 61) (pc := 139) dX9_cut_139 (by decide) ?_
            exact a_msk [true, true, true, true, true, true, true, true, true, true, false] rfl h
      · replace h := h.2 hc19
        refine a_iconst (pc := 81) dX9_cut_81 (by decide) ?_
        refine a_goto (tgt := 87) (pc := 82) dX9_cut_82 (by decide) ?_
        refine a_putI (y := 10) (pc := 87) dX9_cut_87 fl_RX9_35 (by decide) s0_275 rfl rfl (tyX9_ok 10 (by decide)) rfl ?_
        refine a_aload_n (pc := 90) dX9_cut_90 (by decide) rfl ?_
        refine a_iload_n (pc := 91) dX9_cut_91 rfl ?_
        refine a_iload_n (pc := 92) dX9_cut_92 rfl ?_
        refine a_iload_n (pc := 93) dX9_cut_93 rfl ?_
        refine a_iload (pc := 94) dX9_cut_94 rfl ?_
        refine p_inlV (Ex := _) (As := [(0, l1), (0, l2), (0, l3), (0, l4)]) (st := []) (st1 := fun r => [(0, r)])  (pc := 96) dX9_cut_96 ml_RX9_297 (by decide) s0_275 rfl (by decide) (Nat.le_of_ble_eq_true rfl) rfl (fun _ => rfl) (by decide) (by decide) (Nat.le_of_ble_eq_true rfl) rfl ?_
        refine a_aload_n (pc := 0) dX9_lateBy_0 (by decide) rfl ?_
        refine a_iload_n (pc := 1) dX9_lateBy_1 rfl ?_
        refine a_iload_n (pc := 2) dX9_lateBy_2 rfl ?_
        refine a_iload_n (pc := 3) dX9_lateBy_3 rfl ?_
        refine a_iload (pc := 4) dX9_lateBy_4 rfl ?_
        refine p_inlV (Ex := _) (As := [(0, l1), (0, l2), (0, l3), (0, l4)]) (st := []) (st1 := fun r => [(0, r)])  (pc := 6) dX9_lateBy_6 ml_RX9_282 (by decide) s0_275 rfl (by decide) (Nat.le_of_ble_eq_true rfl) rfl (fun _ => rfl) (by decide) (by decide) (Nat.le_of_ble_eq_true rfl) rfl ?_
        refine a_aload_n (pc := 0) dX9_earliestOf_0 (by decide) rfl ?_
        refine a_iload_n (pc := 1) dX9_earliestOf_1 rfl ?_
        refine a_iload_n (pc := 2) dX9_earliestOf_2 rfl ?_
        refine p_callV (As := [(0, l1), (0, l2)]) (st := []) (st1 := fun r => [])  (pc := 3) dX9_earliestOf_3 ml_RX9_138 (by decide) s0_275 rfl (by decide) (Nat.le_of_ble_eq_true rfl) rfl (fun _ => rfl) h (fun r34 M35 h => ?_)
        refine a_aload_n (pc := 6) dX9_earliestOf_6 (by decide) rfl ?_
        refine a_getR (y := 284) (pc := 7) dX9_earliestOf_7 fl_RX9_41 (by decide) s0_275 rfl rfl ?_
        refine a_bipush (pc := 10) dX9_earliestOf_10 (by decide) (by decide +kernel) ?_
        refine a_iload (pc := 12) dX9_earliestOf_12 rfl ?_
        have ho36 := h.1
        replace h := h.2
        refine a_imul (pc := 14) dX9_earliestOf_14 ho36 ?_
        refine a_iload_n (pc := 15) dX9_earliestOf_15 rfl ?_
        have ho37 := h.1
        replace h := h.2
        refine a_iadd (pc := 16) dX9_earliestOf_16 ho37 ?_
        have ho38 := h.1
        replace h := h.2
        refine a_iald (pc := 17) dX9_earliestOf_17 (by decide) s0_284 ho38.1 ho38.2 ?_
        refine a_ireti (pc := 18) dX9_earliestOf_18 rfl rfl (Nat.le_of_ble_eq_true rfl) ⟨rfl, ?_⟩
        refine a_istore (ls1 := [(2, 275), (0, l1), (0, l2), (0, l3), (0, l4), (0, M35 284 ((12 * l4) + l3))]) (pc := 9) dX9_lateBy_9 (by decide) (hp1 (t := 0) rfl (by decide)) rfl ?_
        refine a_iload (pc := 11) dX9_lateBy_11 rfl ?_
        refine a_ldc (v := 100000000) (pc := 13) dX9_lateBy_13 kc_RX9_112 (by decide) ?_
        refine a_icmp_lt (tgt := 24) (pc := 15) dX9_lateBy_15 (by decide) (fun hc39 => ?_) (fun hc39 => ?_)
        · replace h := h.1 hc39
          refine a_iload (pc := 24) dX9_lateBy_24 rfl ?_
          refine a_ireti (pc := 26) dX9_lateBy_26 rfl rfl (Nat.le_of_ble_eq_true rfl) ⟨rfl, ?_⟩
          refine a_iload (pc := 99) dX9_cut_99 rfl ?_
          have ho40 := h.1
          replace h := h.2
          refine a_isub (pc := 101) dX9_cut_101 ho40 ?_
          refine a_istore (ls1 := [(2, 275), (0, l1), (0, l2), (0, l3), (0, l4), (0, l5), (0, l6), (0, l7), (0, l8), (0, l9), (0, (M35 284 ((12 * l4) + l3)) - l6)]) (pc := 102) dX9_cut_102 (by decide) (hp1 (t := 0) rfl (by decide)) rfl ?_
          refine a_iload (pc := 104) dX9_cut_104 rfl ?_
          refine a_iload (pc := 106) dX9_cut_106 rfl ?_
          refine a_icmp_le (tgt := 116) (pc := 108) dX9_cut_108 (by decide) (fun hc41 => ?_) (fun hc41 => ?_)
          · replace h := h.1 hc41
            refine a_iload (pc := 116) dX9_cut_116 rfl ?_
            refine a_istore (ls1 := [(2, 275), (0, l1), (0, l2), (0, l3), (0, l4), (0, l5), (0, l6), (0, l7), (0, l8), (0, l9), (0, (M35 284 ((12 * l4) + l3)) - l6)]) (pc := 118) dX9_cut_118 (by decide) (hp1 (t := 0) rfl (by decide)) rfl ?_
            refine a_iload (pc := 120) dX9_cut_120 rfl ?_
            refine a_iload (pc := 122) dX9_cut_122 rfl ?_
            refine a_icmp_le (tgt := 132) (pc := 124) dX9_cut_124 (by decide) (fun _ => ?_) (fun hc => absurd hc41 hc)
            refine a_iload (pc := 132) dX9_cut_132 rfl ?_
            refine a_istore (ls1 := [(2, 275), (0, l1), (0, l2), (0, l3), (0, l4), (0, l5), (0, l6), (0, l7), (0, l8), (0, l9), (0, (M35 284 ((12 * l4) + l3)) - l6)]) (pc := 134) dX9_cut_134 (by decide) (hp1 (t := 0) rfl (by decide)) rfl ?_
            have ho42 := h.1
            replace h := h.2
            refine a_iinc (ls1 := [(2, 275), (0, l1), (0, l2), (0, l3), (0, l4), (0, l5), (0, l6), (0, l7), (0, l8), (0, l9 + 1), (0, (M35 284 ((12 * l4) + l3)) - l6)]) (pc := 136) dX9_cut_136 rfl (by decide) (hp1 (t := 0) rfl (by decide)) ho42 rfl ?_
            refine a_goto (tgt := 61) (pc := 139) dX9_cut_139 (by decide) ?_
            exact a_msk [true, true, true, true, true, true, true, true, true, true, false] rfl h
          · replace h := h.2 hc41
            refine a_iload (pc := 111) dX9_cut_111 rfl ?_
            refine a_goto (tgt := 118) (pc := 113) dX9_cut_113 (by decide) ?_
            refine a_istore (ls1 := [(2, 275), (0, l1), (0, l2), (0, l3), (0, l4), (0, l5), (0, l6), (0, l7), (0, l9), (0, l9), (0, (M35 284 ((12 * l4) + l3)) - l6)]) (pc := 118) dX9_cut_118 (by decide) (hp1 (t := 0) rfl (by decide)) rfl ?_
            refine a_iload (pc := 120) dX9_cut_120 rfl ?_
            refine a_iload (pc := 122) dX9_cut_122 rfl ?_
            refine a_icmp_le (tgt := 132) (pc := 124) dX9_cut_124 (by decide) (fun hc => absurd hc hc41) (fun _ => ?_)
            refine a_iload (pc := 127) dX9_cut_127 rfl ?_
            refine a_goto (tgt := 134) (pc := 129) dX9_cut_129 (by decide) ?_
            refine a_istore (ls1 := [(2, 275), (0, l1), (0, l2), (0, l3), (0, l4), (0, l5), (0, l6), (0, (M35 284 ((12 * l4) + l3)) - l6), (0, l9), (0, l9), (0, (M35 284 ((12 * l4) + l3)) - l6)]) (pc := 134) dX9_cut_134 (by decide) (hp1 (t := 0) rfl (by decide)) rfl ?_
            have ho43 := h.1
            replace h := h.2
            refine a_iinc (ls1 := [(2, 275), (0, l1), (0, l2), (0, l3), (0, l4), (0, l5), (0, l6), (0, (M35 284 ((12 * l4) + l3)) - l6), (0, l9), (0, l9 + 1), (0, (M35 284 ((12 * l4) + l3)) - l6)]) (pc := 136) dX9_cut_136 rfl (by decide) (hp1 (t := 0) rfl (by decide)) ho43 rfl ?_
            refine a_goto (tgt := 61) (pc := 139) dX9_cut_139 (by decide) ?_
            exact a_msk [true, true, true, true, true, true, true, true, true, true, false] rfl h
        · replace h := h.2 hc39
          refine a_sipush (pc := 18) dX9_lateBy_18 (by decide) (by decide +kernel) ?_
          refine a_goto (tgt := 26) (pc := 21) dX9_lateBy_21 (by decide) ?_
          refine a_ireti (pc := 26) dX9_lateBy_26 rfl rfl (Nat.le_of_ble_eq_true rfl) ⟨rfl, ?_⟩
          refine a_iload (pc := 99) dX9_cut_99 rfl ?_
          have ho44 := h.1
          replace h := h.2
          refine a_isub (pc := 101) dX9_cut_101 ho44 ?_
          refine a_istore (ls1 := [(2, 275), (0, l1), (0, l2), (0, l3), (0, l4), (0, l5), (0, l6), (0, l7), (0, l8), (0, l9), (0, 10000 - l6)]) (pc := 102) dX9_cut_102 (by decide) (hp1 (t := 0) rfl (by decide)) rfl ?_
          refine a_iload (pc := 104) dX9_cut_104 rfl ?_
          refine a_iload (pc := 106) dX9_cut_106 rfl ?_
          refine a_icmp_le (tgt := 116) (pc := 108) dX9_cut_108 (by decide) (fun hc45 => ?_) (fun hc45 => ?_)
          · replace h := h.1 hc45
            refine a_iload (pc := 116) dX9_cut_116 rfl ?_
            refine a_istore (ls1 := [(2, 275), (0, l1), (0, l2), (0, l3), (0, l4), (0, l5), (0, l6), (0, l7), (0, l8), (0, l9), (0, 10000 - l6)]) (pc := 118) dX9_cut_118 (by decide) (hp1 (t := 0) rfl (by decide)) rfl ?_
            refine a_iload (pc := 120) dX9_cut_120 rfl ?_
            refine a_iload (pc := 122) dX9_cut_122 rfl ?_
            refine a_icmp_le (tgt := 132) (pc := 124) dX9_cut_124 (by decide) (fun _ => ?_) (fun hc => absurd hc45 hc)
            refine a_iload (pc := 132) dX9_cut_132 rfl ?_
            refine a_istore (ls1 := [(2, 275), (0, l1), (0, l2), (0, l3), (0, l4), (0, l5), (0, l6), (0, l7), (0, l8), (0, l9), (0, 10000 - l6)]) (pc := 134) dX9_cut_134 (by decide) (hp1 (t := 0) rfl (by decide)) rfl ?_
            have ho46 := h.1
            replace h := h.2
            refine a_iinc (ls1 := [(2, 275), (0, l1), (0, l2), (0, l3), (0, l4), (0, l5), (0, l6), (0, l7), (0, l8), (0, l9 + 1), (0, 10000 - l6)]) (pc := 136) dX9_cut_136 rfl (by decide) (hp1 (t := 0) rfl (by decide)) ho46 rfl ?_
            refine a_goto (tgt := 61) (pc := 139) dX9_cut_139 (by decide) ?_
            exact a_msk [true, true, true, true, true, true, true, true, true, true, false] rfl h
          · replace h := h.2 hc45
            refine a_iload (pc := 111) dX9_cut_111 rfl ?_
            refine a_goto (tgt := 118) (pc := 113) dX9_cut_113 (by decide) ?_
            refine a_istore (ls1 := [(2, 275), (0, l1), (0, l2), (0, l3), (0, l4), (0, l5), (0, l6), (0, l7), (0, l9), (0, l9), (0, 10000 - l6)]) (pc := 118) dX9_cut_118 (by decide) (hp1 (t := 0) rfl (by decide)) rfl ?_
            refine a_iload (pc := 120) dX9_cut_120 rfl ?_
            refine a_iload (pc := 122) dX9_cut_122 rfl ?_
            refine a_icmp_le (tgt := 132) (pc := 124) dX9_cut_124 (by decide) (fun hc => absurd hc hc45) (fun _ => ?_)
            refine a_iload (pc := 127) dX9_cut_127 rfl ?_
            refine a_goto (tgt := 134) (pc := 129) dX9_cut_129 (by decide) ?_
            refine a_istore (ls1 := [(2, 275), (0, l1), (0, l2), (0, l3), (0, l4), (0, l5), (0, l6), (0, 10000 - l6), (0, l9), (0, l9), (0, 10000 - l6)]) (pc := 134) dX9_cut_134 (by decide) (hp1 (t := 0) rfl (by decide)) rfl ?_
            have ho47 := h.1
            replace h := h.2
            refine a_iinc (ls1 := [(2, 275), (0, l1), (0, l2), (0, l3), (0, l4), (0, l5), (0, l6), (0, 10000 - l6), (0, l9), (0, l9 + 1), (0, 10000 - l6)]) (pc := 136) dX9_cut_136 rfl (by decide) (hp1 (t := 0) rfl (by decide)) ho47 rfl ?_
            refine a_goto (tgt := 61) (pc := 139) dX9_cut_139 (by decide) ?_
            exact a_msk [true, true, true, true, true, true, true, true, true, true, false] rfl h
theorem E_R_cut {l1 l2 l3 l4 l5 : Int} {M : Mem} {Q : Int → Mem → Prop} (h : AW mX9_cut 0 [(2, 275), (0, l1), (0, l2), (0, l3), (0, l4), (0, l5), (9, 0), (9, 0), (9, 0), (9, 0), (9, 0)] M Q) : Calls mX9_cut [(2, 275), (0, l1), (0, l2), (0, l3), (0, l4), (0, l5)] S0 M Q := calls_of (by decide) (by decide) (Nat.le_of_ble_eq_true rfl) rfl h
set_option maxRecDepth 100000 in
set_option maxHeartbeats 4000000 in
theorem B_R_worst_0 {l1 l2 l3 l4 l5 : Int} {M : Mem} {Q : Int → Mem → Prop} (h : ((l1 < 0 → Q (-1) (up2 M 275 8 0)) ∧ (¬ (l1 < 0) → ((11 < l1 → Q (-1) (up2 M 275 8 0)) ∧ (¬ (11 < l1) → ((l3 < 0 → Q (-1) (up2 M 275 8 0)) ∧ (¬ (l3 < 0) → ((11 < l3 → Q (-1) (up2 M 275 8 0)) ∧ (¬ (11 < l3) → ((l5 < 0 → Q (-1) (up2 M 275 8 0)) ∧ (¬ (l5 < 0) → ((1 < l5 → Q (-1) (up2 M 275 8 0)) ∧ (¬ (1 < l5) → Calls mX9_wrong [(0, l1), (0, l3), (0, l2), (0, l4)] S0 (up2 M 275 8 0) (fun r7 M8 => ((0 ≤ r7 → Calls mX9_layRounds [(2, 275), (0, l1), (0, l2)] S0 M8 (fun r10 M11 => (-2147483648 ≤ 12 * l4 ∧ 12 * l4 ≤ 2147483647) ∧ (-2147483648 ≤ (12 * l4) + l3 ∧ (12 * l4) + l3 ≤ 2147483647) ∧ ((0 : Int) ≤ (12 * l4) + l3 ∧ (12 * l4) + l3 < 84) ∧ (((M11 284 ((12 * l4) + l3)) < 100000000 → AW mX9_worst 67 [(2, 275), (0, l1), (0, l2), (0, l3), (0, l4), (0, l5), (0, M11 284 ((12 * l4) + l3)), (0, 0), (0, (-5)), (0, 0), (9, 0), (9, 0)] M11 Q) ∧ (¬ ((M11 284 ((12 * l4) + l3)) < 100000000) → AW mX9_worst 67 [(2, 275), (0, l1), (0, l2), (0, l3), (0, l4), (0, l5), (0, 10000), (0, 0), (0, (-5)), (0, 0), (9, 0), (9, 0)] M11 Q)))) ∧ (¬ (0 ≤ r7) → Q (-2) M8)))))))))))))))) : AW mX9_worst 0 [(2, 275), (0, l1), (0, l2), (0, l3), (0, l4), (0, l5), (9, 0), (9, 0), (9, 0), (9, 0), (9, 0), (9, 0)] M Q := by
  refine a_aload_n (pc := 0) dX9_worst_0 (by decide) rfl ?_
  refine a_iconst (pc := 1) dX9_worst_1 (by decide) ?_
  refine a_putI (y := 8) (pc := 2) dX9_worst_2 fl_RX9_87 (by decide) s0_275 rfl rfl (tyX9_ok 8 (by decide)) rfl ?_
  refine a_iload_n (pc := 5) dX9_worst_5 rfl ?_
  refine p_inlS (Ex := _) (As := [(0, l1)]) (st := []) (st1 := fun r => [(0, r)])  (pc := 6) dX9_worst_6 ml_RX9_260 (by decide) (Nat.le_of_ble_eq_true rfl) rfl (fun _ => rfl) (by decide) (by decide) (Nat.le_of_ble_eq_true rfl) rfl ?_
  refine a_iload_n (pc := 0) dX9_isStop_0 rfl ?_
  refine a_i2l (pc := 1) dX9_isStop_1 ?_
  refine a_lconst (v := 0) (pc := 2) dX9_isStop_2 rfl ?_
  refine a_ldc2 (v := 11) (pc := 3) dX9_isStop_3 kc_RX9_90 (by decide) ?_
  refine p_inlS (Ex := _) (As := [(1, l1), (1, 0), (1, 11)]) (st := []) (st1 := fun r => [(0, r)])  (pc := 6) dX9_isStop_6 ml_RX9_92 (by decide) (Nat.le_of_ble_eq_true rfl) rfl (fun _ => rfl) (by decide) (by decide) (Nat.le_of_ble_eq_true rfl) rfl ?_
  refine a_lload_n (pc := 0) dX9_in_0 rfl ?_
  refine a_lload_n (pc := 1) dX9_in_1 rfl ?_
  refine a_lcmp_lt (tgt := 17) (pc := 2) dX9_in_2 dX9_in_3 (by decide) (fun hc1 => ?_) (fun hc1 => ?_)
  · replace h := h.1 hc1
    refine a_iconst (pc := 17) dX9_in_17 (by decide) ?_
    refine a_iretz (pc := 18) dX9_in_18 rfl rfl (Nat.le_of_ble_eq_true rfl) (by decide) ⟨rfl, ?_⟩
    refine a_iretz (pc := 9) dX9_isStop_9 rfl rfl (Nat.le_of_ble_eq_true rfl) (by decide) ⟨rfl, ?_⟩
    refine a_if_eq (tgt := 30) (pc := 9) dX9_worst_9 (by decide) (fun _ => ?_) (fun hc => absurd (by decide) hc)
    refine a_iconst (pc := 30) dX9_worst_30 (by decide) ?_
    exact a_ireti (pc := 31) dX9_worst_31 rfl rfl (Nat.le_of_ble_eq_true rfl) ⟨rfl, h⟩
  · replace h := h.2 hc1
    refine a_lload_n (pc := 6) dX9_in_6 rfl ?_
    refine a_lload (pc := 7) dX9_in_7 rfl ?_
    refine a_lcmp_gt (tgt := 17) (pc := 9) dX9_in_9 dX9_in_10 (by decide) (fun hc2 => ?_) (fun hc2 => ?_)
    · replace h := h.1 hc2
      refine a_iconst (pc := 17) dX9_in_17 (by decide) ?_
      refine a_iretz (pc := 18) dX9_in_18 rfl rfl (Nat.le_of_ble_eq_true rfl) (by decide) ⟨rfl, ?_⟩
      refine a_iretz (pc := 9) dX9_isStop_9 rfl rfl (Nat.le_of_ble_eq_true rfl) (by decide) ⟨rfl, ?_⟩
      refine a_if_eq (tgt := 30) (pc := 9) dX9_worst_9 (by decide) (fun _ => ?_) (fun hc => absurd (by decide) hc)
      refine a_iconst (pc := 30) dX9_worst_30 (by decide) ?_
      exact a_ireti (pc := 31) dX9_worst_31 rfl rfl (Nat.le_of_ble_eq_true rfl) ⟨rfl, h⟩
    · replace h := h.2 hc2
      refine a_iconst (pc := 13) dX9_in_13 (by decide) ?_
      refine a_goto (tgt := 18) (pc := 14) dX9_in_14 (by decide) ?_
      refine a_iretz (pc := 18) dX9_in_18 rfl rfl (Nat.le_of_ble_eq_true rfl) (by decide) ⟨rfl, ?_⟩
      refine a_iretz (pc := 9) dX9_isStop_9 rfl rfl (Nat.le_of_ble_eq_true rfl) (by decide) ⟨rfl, ?_⟩
      refine a_if_eq (tgt := 30) (pc := 9) dX9_worst_9 (by decide) (fun hc => absurd hc (by decide)) (fun _ => ?_)
      refine a_iload_n (pc := 12) dX9_worst_12 rfl ?_
      refine p_inlS (Ex := _) (As := [(0, l3)]) (st := []) (st1 := fun r => [(0, r)])  (pc := 13) dX9_worst_13 ml_RX9_260 (by decide) (Nat.le_of_ble_eq_true rfl) rfl (fun _ => rfl) (by decide) (by decide) (Nat.le_of_ble_eq_true rfl) rfl ?_
      refine a_iload_n (pc := 0) dX9_isStop_0 rfl ?_
      refine a_i2l (pc := 1) dX9_isStop_1 ?_
      refine a_lconst (v := 0) (pc := 2) dX9_isStop_2 rfl ?_
      refine a_ldc2 (v := 11) (pc := 3) dX9_isStop_3 kc_RX9_90 (by decide) ?_
      refine p_inlS (Ex := _) (As := [(1, l3), (1, 0), (1, 11)]) (st := []) (st1 := fun r => [(0, r)])  (pc := 6) dX9_isStop_6 ml_RX9_92 (by decide) (Nat.le_of_ble_eq_true rfl) rfl (fun _ => rfl) (by decide) (by decide) (Nat.le_of_ble_eq_true rfl) rfl ?_
      refine a_lload_n (pc := 0) dX9_in_0 rfl ?_
      refine a_lload_n (pc := 1) dX9_in_1 rfl ?_
      refine a_lcmp_lt (tgt := 17) (pc := 2) dX9_in_2 dX9_in_3 (by decide) (fun hc3 => ?_) (fun hc3 => ?_)
      · replace h := h.1 hc3
        refine a_iconst (pc := 17) dX9_in_17 (by decide) ?_
        refine a_iretz (pc := 18) dX9_in_18 rfl rfl (Nat.le_of_ble_eq_true rfl) (by decide) ⟨rfl, ?_⟩
        refine a_iretz (pc := 9) dX9_isStop_9 rfl rfl (Nat.le_of_ble_eq_true rfl) (by decide) ⟨rfl, ?_⟩
        refine a_if_eq (tgt := 30) (pc := 16) dX9_worst_16 (by decide) (fun _ => ?_) (fun hc => absurd (by decide) hc)
        refine a_iconst (pc := 30) dX9_worst_30 (by decide) ?_
        exact a_ireti (pc := 31) dX9_worst_31 rfl rfl (Nat.le_of_ble_eq_true rfl) ⟨rfl, h⟩
      · replace h := h.2 hc3
        refine a_lload_n (pc := 6) dX9_in_6 rfl ?_
        refine a_lload (pc := 7) dX9_in_7 rfl ?_
        refine a_lcmp_gt (tgt := 17) (pc := 9) dX9_in_9 dX9_in_10 (by decide) (fun hc4 => ?_) (fun hc4 => ?_)
        · replace h := h.1 hc4
          refine a_iconst (pc := 17) dX9_in_17 (by decide) ?_
          refine a_iretz (pc := 18) dX9_in_18 rfl rfl (Nat.le_of_ble_eq_true rfl) (by decide) ⟨rfl, ?_⟩
          refine a_iretz (pc := 9) dX9_isStop_9 rfl rfl (Nat.le_of_ble_eq_true rfl) (by decide) ⟨rfl, ?_⟩
          refine a_if_eq (tgt := 30) (pc := 16) dX9_worst_16 (by decide) (fun _ => ?_) (fun hc => absurd (by decide) hc)
          refine a_iconst (pc := 30) dX9_worst_30 (by decide) ?_
          exact a_ireti (pc := 31) dX9_worst_31 rfl rfl (Nat.le_of_ble_eq_true rfl) ⟨rfl, h⟩
        · replace h := h.2 hc4
          refine a_iconst (pc := 13) dX9_in_13 (by decide) ?_
          refine a_goto (tgt := 18) (pc := 14) dX9_in_14 (by decide) ?_
          refine a_iretz (pc := 18) dX9_in_18 rfl rfl (Nat.le_of_ble_eq_true rfl) (by decide) ⟨rfl, ?_⟩
          refine a_iretz (pc := 9) dX9_isStop_9 rfl rfl (Nat.le_of_ble_eq_true rfl) (by decide) ⟨rfl, ?_⟩
          refine a_if_eq (tgt := 30) (pc := 16) dX9_worst_16 (by decide) (fun hc => absurd hc (by decide)) (fun _ => ?_)
          refine a_iload (pc := 19) dX9_worst_19 rfl ?_
          refine a_i2l (pc := 21) dX9_worst_21 ?_
          refine a_lconst (v := 0) (pc := 22) dX9_worst_22 rfl ?_
          refine a_lconst (v := 1) (pc := 23) dX9_worst_23 rfl ?_
          refine p_inlS (Ex := _) (As := [(1, l5), (1, 0), (1, 1)]) (st := []) (st1 := fun r => [(0, r)])  (pc := 24) dX9_worst_24 ml_RX9_92 (by decide) (Nat.le_of_ble_eq_true rfl) rfl (fun _ => rfl) (by decide) (by decide) (Nat.le_of_ble_eq_true rfl) rfl ?_
          refine a_lload_n (pc := 0) dX9_in_0 rfl ?_
          refine a_lload_n (pc := 1) dX9_in_1 rfl ?_
          refine a_lcmp_lt (tgt := 17) (pc := 2) dX9_in_2 dX9_in_3 (by decide) (fun hc5 => ?_) (fun hc5 => ?_)
          · replace h := h.1 hc5
            refine a_iconst (pc := 17) dX9_in_17 (by decide) ?_
            refine a_iretz (pc := 18) dX9_in_18 rfl rfl (Nat.le_of_ble_eq_true rfl) (by decide) ⟨rfl, ?_⟩
            refine a_if_ne (tgt := 32) (pc := 27) dX9_worst_27 (by decide) (fun hc => absurd rfl hc) (fun _ => ?_)
            refine a_iconst (pc := 30) dX9_worst_30 (by decide) ?_
            exact a_ireti (pc := 31) dX9_worst_31 rfl rfl (Nat.le_of_ble_eq_true rfl) ⟨rfl, h⟩
          · replace h := h.2 hc5
            refine a_lload_n (pc := 6) dX9_in_6 rfl ?_
            refine a_lload (pc := 7) dX9_in_7 rfl ?_
            refine a_lcmp_gt (tgt := 17) (pc := 9) dX9_in_9 dX9_in_10 (by decide) (fun hc6 => ?_) (fun hc6 => ?_)
            · replace h := h.1 hc6
              refine a_iconst (pc := 17) dX9_in_17 (by decide) ?_
              refine a_iretz (pc := 18) dX9_in_18 rfl rfl (Nat.le_of_ble_eq_true rfl) (by decide) ⟨rfl, ?_⟩
              refine a_if_ne (tgt := 32) (pc := 27) dX9_worst_27 (by decide) (fun hc => absurd rfl hc) (fun _ => ?_)
              refine a_iconst (pc := 30) dX9_worst_30 (by decide) ?_
              exact a_ireti (pc := 31) dX9_worst_31 rfl rfl (Nat.le_of_ble_eq_true rfl) ⟨rfl, h⟩
            · replace h := h.2 hc6
              refine a_iconst (pc := 13) dX9_in_13 (by decide) ?_
              refine a_goto (tgt := 18) (pc := 14) dX9_in_14 (by decide) ?_
              refine a_iretz (pc := 18) dX9_in_18 rfl rfl (Nat.le_of_ble_eq_true rfl) (by decide) ⟨rfl, ?_⟩
              refine a_if_ne (tgt := 32) (pc := 27) dX9_worst_27 (by decide) (fun _ => ?_) (fun hc => absurd hc (by decide))
              refine a_iload_n (pc := 32) dX9_worst_32 rfl ?_
              refine a_iload_n (pc := 33) dX9_worst_33 rfl ?_
              refine a_iload_n (pc := 34) dX9_worst_34 rfl ?_
              refine a_iload (pc := 35) dX9_worst_35 rfl ?_
              refine p_callS (As := [(0, l1), (0, l3), (0, l2), (0, l4)]) (st := []) (st1 := fun r => [(0, r)])  (pc := 37) dX9_worst_37 ml_RX9_278 (by decide) (Nat.le_of_ble_eq_true rfl) rfl (fun _ => rfl) h (fun r7 M8 h => ?_)
              refine a_if_ge (tgt := 46) (pc := 40) dX9_worst_40 (by decide) (fun hc9 => ?_) (fun hc9 => ?_)
              · replace h := h.1 hc9
                refine a_aload_n (pc := 46) dX9_worst_46 (by decide) rfl ?_
                refine a_iload_n (pc := 47) dX9_worst_47 rfl ?_
                refine a_iload_n (pc := 48) dX9_worst_48 rfl ?_
                refine a_iload_n (pc := 49) dX9_worst_49 rfl ?_
                refine a_iload (pc := 50) dX9_worst_50 rfl ?_
                refine p_inlV (Ex := _) (As := [(0, l1), (0, l2), (0, l3), (0, l4)]) (st := []) (st1 := fun r => [(0, r)])  (pc := 52) dX9_worst_52 ml_RX9_297 (by decide) s0_275 rfl (by decide) (Nat.le_of_ble_eq_true rfl) rfl (fun _ => rfl) (by decide) (by decide) (Nat.le_of_ble_eq_true rfl) rfl ?_
                refine a_aload_n (pc := 0) dX9_lateBy_0 (by decide) rfl ?_
                refine a_iload_n (pc := 1) dX9_lateBy_1 rfl ?_
                refine a_iload_n (pc := 2) dX9_lateBy_2 rfl ?_
                refine a_iload_n (pc := 3) dX9_lateBy_3 rfl ?_
                refine a_iload (pc := 4) dX9_lateBy_4 rfl ?_
                refine p_inlV (Ex := _) (As := [(0, l1), (0, l2), (0, l3), (0, l4)]) (st := []) (st1 := fun r => [(0, r)])  (pc := 6) dX9_lateBy_6 ml_RX9_282 (by decide) s0_275 rfl (by decide) (Nat.le_of_ble_eq_true rfl) rfl (fun _ => rfl) (by decide) (by decide) (Nat.le_of_ble_eq_true rfl) rfl ?_
                refine a_aload_n (pc := 0) dX9_earliestOf_0 (by decide) rfl ?_
                refine a_iload_n (pc := 1) dX9_earliestOf_1 rfl ?_
                refine a_iload_n (pc := 2) dX9_earliestOf_2 rfl ?_
                refine p_callV (As := [(0, l1), (0, l2)]) (st := []) (st1 := fun r => [])  (pc := 3) dX9_earliestOf_3 ml_RX9_138 (by decide) s0_275 rfl (by decide) (Nat.le_of_ble_eq_true rfl) rfl (fun _ => rfl) h (fun r10 M11 h => ?_)
                refine a_aload_n (pc := 6) dX9_earliestOf_6 (by decide) rfl ?_
                refine a_getR (y := 284) (pc := 7) dX9_earliestOf_7 fl_RX9_41 (by decide) s0_275 rfl rfl ?_
                refine a_bipush (pc := 10) dX9_earliestOf_10 (by decide) (by decide +kernel) ?_
                refine a_iload (pc := 12) dX9_earliestOf_12 rfl ?_
                have ho12 := h.1
                replace h := h.2
                refine a_imul (pc := 14) dX9_earliestOf_14 ho12 ?_
                refine a_iload_n (pc := 15) dX9_earliestOf_15 rfl ?_
                have ho13 := h.1
                replace h := h.2
                refine a_iadd (pc := 16) dX9_earliestOf_16 ho13 ?_
                have ho14 := h.1
                replace h := h.2
                refine a_iald (pc := 17) dX9_earliestOf_17 (by decide) s0_284 ho14.1 ho14.2 ?_
                refine a_ireti (pc := 18) dX9_earliestOf_18 rfl rfl (Nat.le_of_ble_eq_true rfl) ⟨rfl, ?_⟩
                refine a_istore (ls1 := [(2, 275), (0, l1), (0, l2), (0, l3), (0, l4), (0, M11 284 ((12 * l4) + l3))]) (pc := 9) dX9_lateBy_9 (by decide) (hp1 (t := 0) rfl (by decide)) rfl ?_
                refine a_iload (pc := 11) dX9_lateBy_11 rfl ?_
                refine a_ldc (v := 100000000) (pc := 13) dX9_lateBy_13 kc_RX9_112 (by decide) ?_
                refine a_icmp_lt (tgt := 24) (pc := 15) dX9_lateBy_15 (by decide) (fun hc15 => ?_) (fun hc15 => ?_)
                · replace h := h.1 hc15
                  refine a_iload (pc := 24) dX9_lateBy_24 rfl ?_
                  refine a_ireti (pc := 26) dX9_lateBy_26 rfl rfl (Nat.le_of_ble_eq_true rfl) ⟨rfl, ?_⟩
                  refine a_istore (ls1 := [(2, 275), (0, l1), (0, l2), (0, l3), (0, l4), (0, l5), (0, M11 284 ((12 * l4) + l3)), (9, 0), (9, 0), (9, 0), (9, 0), (9, 0)]) (pc := 55) dX9_worst_55 (by decide) (hp1 (t := 0) rfl (by decide)) rfl ?_
                  refine a_iconst (pc := 57) dX9_worst_57 (by decide) ?_
                  refine a_istore (ls1 := [(2, 275), (0, l1), (0, l2), (0, l3), (0, l4), (0, l5), (0, M11 284 ((12 * l4) + l3)), (0, 0), (9, 0), (9, 0), (9, 0), (9, 0)]) (pc := 58) dX9_worst_58 (by decide) (hp1 (t := 0) rfl (by decide)) rfl ?_
                  refine a_bipush (pc := 60) dX9_worst_60 (by decide) (by decide +kernel) ?_
                  refine a_istore (ls1 := [(2, 275), (0, l1), (0, l2), (0, l3), (0, l4), (0, l5), (0, M11 284 ((12 * l4) + l3)), (0, 0), (0, (-5)), (9, 0), (9, 0), (9, 0)]) (pc := 62) dX9_worst_62 (by decide) (hp1 (t := 0) rfl (by decide)) rfl ?_
                  refine a_iconst (pc := 64) dX9_worst_64 (by decide) ?_
                  refine a_istore (ls1 := [(2, 275), (0, l1), (0, l2), (0, l3), (0, l4), (0, l5), (0, M11 284 ((12 * l4) + l3)), (0, 0), (0, (-5)), (0, 0), (9, 0), (9, 0)]) (pc := 65) dX9_worst_65 (by decide) (hp1 (t := 0) rfl (by decide)) rfl ?_
                  exact h
                · replace h := h.2 hc15
                  refine a_sipush (pc := 18) dX9_lateBy_18 (by decide) (by decide +kernel) ?_
                  refine a_goto (tgt := 26) (pc := 21) dX9_lateBy_21 (by decide) ?_
                  refine a_ireti (pc := 26) dX9_lateBy_26 rfl rfl (Nat.le_of_ble_eq_true rfl) ⟨rfl, ?_⟩
                  refine a_istore (ls1 := [(2, 275), (0, l1), (0, l2), (0, l3), (0, l4), (0, l5), (0, 10000), (9, 0), (9, 0), (9, 0), (9, 0), (9, 0)]) (pc := 55) dX9_worst_55 (by decide) (hp1 (t := 0) rfl (by decide)) rfl ?_
                  refine a_iconst (pc := 57) dX9_worst_57 (by decide) ?_
                  refine a_istore (ls1 := [(2, 275), (0, l1), (0, l2), (0, l3), (0, l4), (0, l5), (0, 10000), (0, 0), (9, 0), (9, 0), (9, 0), (9, 0)]) (pc := 58) dX9_worst_58 (by decide) (hp1 (t := 0) rfl (by decide)) rfl ?_
                  refine a_bipush (pc := 60) dX9_worst_60 (by decide) (by decide +kernel) ?_
                  refine a_istore (ls1 := [(2, 275), (0, l1), (0, l2), (0, l3), (0, l4), (0, l5), (0, 10000), (0, 0), (0, (-5)), (9, 0), (9, 0), (9, 0)]) (pc := 62) dX9_worst_62 (by decide) (hp1 (t := 0) rfl (by decide)) rfl ?_
                  refine a_iconst (pc := 64) dX9_worst_64 (by decide) ?_
                  refine a_istore (ls1 := [(2, 275), (0, l1), (0, l2), (0, l3), (0, l4), (0, l5), (0, 10000), (0, 0), (0, (-5)), (0, 0), (9, 0), (9, 0)]) (pc := 65) dX9_worst_65 (by decide) (hp1 (t := 0) rfl (by decide)) rfl ?_
                  exact h
              · replace h := h.2 hc9
                refine a_bipush (pc := 43) dX9_worst_43 (by decide) (by decide +kernel) ?_
                exact a_ireti (pc := 45) dX9_worst_45 rfl rfl (Nat.le_of_ble_eq_true rfl) ⟨rfl, h⟩
set_option maxRecDepth 100000 in
set_option maxHeartbeats 4000000 in
theorem B_R_worst_67 {l1 l2 l3 l4 l5 l6 l7 l8 l9 : Int} {M : Mem} {Q : Int → Mem → Prop} (h : (((M 275 0) ≤ l9 → ((l8 < 0 → Q l8 (up2 M 275 9 (-1))) ∧ (¬ (l8 < 0) → ((¬ l5 = 0 → Q l7 (up2 M 275 9 (-1))) ∧ (l5 = 0 → Q l8 (up2 M 275 9 (-1))))))) ∧ (¬ ((M 275 0) ≤ l9) → AW mX9_worst 79 [(2, 275), (0, l1), (0, l2), (0, l3), (0, l4), (0, l5), (0, l6), (0, l7), (0, l8), (0, l9), (0, 0), (9, 0)] M Q))) : AW mX9_worst 67 [(2, 275), (0, l1), (0, l2), (0, l3), (0, l4), (0, l5), (0, l6), (0, l7), (0, l8), (0, l9), (9, 0), (9, 0)] M Q := by
  refine a_iload (pc := 67) dX9_worst_67 rfl ?_
  refine a_aload_n (pc := 69) dX9_worst_69 (by decide) rfl ?_
  refine a_getI (y := 0) (pc := 70) dX9_worst_70 fl_RX9_98 (by decide) s0_275 (Or.inl rfl) rfl ?_
  refine a_icmp_ge (tgt := 167) (pc := 73) dX9_worst_73 (by decide) (fun hc1 => ?_) (fun hc1 => ?_)
  · replace h := h.1 hc1
    refine a_aload_n (pc := 167) dX9_worst_167 (by decide) rfl ?_
    refine a_iconst (pc := 168) dX9_worst_168 (by decide) ?_
    refine a_putI (y := 9) (pc := 169) dX9_worst_169 fl_RX9_31 (by decide) s0_275 rfl rfl (tyX9_ok 9 (by decide)) rfl ?_
    refine a_iload (pc := 172) dX9_worst_172 rfl ?_
    refine a_if_lt (tgt := 182) (pc := 174) dX9_worst_174 (by decide) (fun hc2 => ?_) (fun hc2 => ?_)
    · replace h := h.1 hc2
      refine a_iload (pc := 182) dX9_worst_182 rfl ?_
      refine a_goto (tgt := 189) (pc := 184) dX9_worst_184 (by decide) ?_
      exact a_ireti (pc := 189) dX9_worst_189 rfl rfl (Nat.le_of_ble_eq_true rfl) ⟨rfl, h⟩
    · replace h := h.2 hc2
      refine a_iload (pc := 177) dX9_worst_177 rfl ?_
      refine a_if_ne (tgt := 187) (pc := 179) dX9_worst_179 (by decide) (fun hc3 => ?_) (fun hc3 => ?_)
      · replace h := h.1 hc3
        refine a_iload (pc := 187) dX9_worst_187 rfl ?_
        exact a_ireti (pc := 189) dX9_worst_189 rfl rfl (Nat.le_of_ble_eq_true rfl) ⟨rfl, h⟩
      · replace h := h.2 hc3
        refine a_iload (pc := 182) dX9_worst_182 rfl ?_
        refine a_goto (tgt := 189) (pc := 184) dX9_worst_184 (by decide) ?_
        exact a_ireti (pc := 189) dX9_worst_189 rfl rfl (Nat.le_of_ble_eq_true rfl) ⟨rfl, h⟩
  · replace h := h.2 hc1
    refine a_iconst (pc := 76) dX9_worst_76 (by decide) ?_
    refine a_istore (ls1 := [(2, 275), (0, l1), (0, l2), (0, l3), (0, l4), (0, l5), (0, l6), (0, l7), (0, l8), (0, l9), (0, 0), (9, 0)]) (pc := 77) dX9_worst_77 (by decide) (hp1 (t := 0) rfl (by decide)) rfl ?_
    exact h
set_option maxRecDepth 100000 in
set_option maxHeartbeats 4000000 in
theorem B_R_worst_79 {l1 l2 l3 l4 l5 l6 l7 l8 l9 l10 : Int} {M : Mem} {Q : Int → Mem → Prop} (h : ((0 : Int) ≤ l9 ∧ l9 < 8) ∧ (((M 279 l9) ≤ l10 → (-2147483648 ≤ l9 + 1 ∧ l9 + 1 ≤ 2147483647) ∧ AW mX9_worst 67 [(2, 275), (0, l1), (0, l2), (0, l3), (0, l4), (0, l5), (0, l6), (0, l7), (0, l8), (0, l9 + 1), (9, 0), (9, 0)] M Q) ∧ (¬ ((M 279 l9) ≤ l10) → (-2147483648 ≤ 6 * l9 ∧ 6 * l9 ≤ 2147483647) ∧ (-2147483648 ≤ (6 * l9) + l10 ∧ (6 * l9) + l10 ≤ 2147483647) ∧ Calls mX9_layRounds [(2, 275), (0, l1), (0, l2)] S0 (up2 M 275 9 ((6 * l9) + l10)) (fun r6 M7 => (-2147483648 ≤ 12 * l4 ∧ 12 * l4 ≤ 2147483647) ∧ (-2147483648 ≤ (12 * l4) + l3 ∧ (12 * l4) + l3 ≤ 2147483647) ∧ ((0 : Int) ≤ (12 * l4) + l3 ∧ (12 * l4) + l3 < 84) ∧ (((M7 284 ((12 * l4) + l3)) < 100000000 → (-2147483648 ≤ (M7 284 ((12 * l4) + l3)) - l6 ∧ (M7 284 ((12 * l4) + l3)) - l6 ≤ 2147483647) ∧ ((((M7 284 ((12 * l4) + l3)) - l6) ≤ l7 → (-2147483648 ≤ l10 + 1 ∧ l10 + 1 ≤ 2147483647) ∧ AW mX9_worst 79 [(2, 275), (0, l1), (0, l2), (0, l3), (0, l4), (0, l5), (0, l6), (0, l7), (0, l8), (0, l9), (0, l10 + 1), (9, 0)] M7 Q) ∧ (¬ (((M7 284 ((12 * l4) + l3)) - l6) ≤ l7) → (-2147483648 ≤ 10 * l9 ∧ 10 * l9 ≤ 2147483647) ∧ (-2147483648 ≤ (10 * l9) + l10 ∧ (10 * l9) + l10 ≤ 2147483647) ∧ (-2147483648 ≤ l10 + 1 ∧ l10 + 1 ≤ 2147483647) ∧ AW mX9_worst 79 [(2, 275), (0, l1), (0, l2), (0, l3), (0, l4), (0, l5), (0, l6), (0, (M7 284 ((12 * l4) + l3)) - l6), (0, (10 * l9) + l10), (0, l9), (0, l10 + 1), (9, 0)] M7 Q))) ∧ (¬ ((M7 284 ((12 * l4) + l3)) < 100000000) → (-2147483648 ≤ 10000 - l6 ∧ 10000 - l6 ≤ 2147483647) ∧ (((10000 - l6) ≤ l7 → (-2147483648 ≤ l10 + 1 ∧ l10 + 1 ≤ 2147483647) ∧ AW mX9_worst 79 [(2, 275), (0, l1), (0, l2), (0, l3), (0, l4), (0, l5), (0, l6), (0, l7), (0, l8), (0, l9), (0, l10 + 1), (9, 0)] M7 Q) ∧ (¬ ((10000 - l6) ≤ l7) → (-2147483648 ≤ 10 * l9 ∧ 10 * l9 ≤ 2147483647) ∧ (-2147483648 ≤ (10 * l9) + l10 ∧ (10 * l9) + l10 ≤ 2147483647) ∧ (-2147483648 ≤ l10 + 1 ∧ l10 + 1 ≤ 2147483647) ∧ AW mX9_worst 79 [(2, 275), (0, l1), (0, l2), (0, l3), (0, l4), (0, l5), (0, l6), (0, 10000 - l6), (0, (10 * l9) + l10), (0, l9), (0, l10 + 1), (9, 0)] M7 Q)))))))) : AW mX9_worst 79 [(2, 275), (0, l1), (0, l2), (0, l3), (0, l4), (0, l5), (0, l6), (0, l7), (0, l8), (0, l9), (0, l10), (9, 0)] M Q := by
  refine a_iload (pc := 79) dX9_worst_79 rfl ?_
  refine a_aload_n (pc := 81) dX9_worst_81 (by decide) rfl ?_
  refine a_getR (y := 279) (pc := 82) dX9_worst_82 fl_RX9_19 (by decide) s0_275 rfl rfl ?_
  refine a_iload (pc := 85) dX9_worst_85 rfl ?_
  have ho1 := h.1
  replace h := h.2
  refine a_iald (pc := 87) dX9_worst_87 (by decide) s0_279 ho1.1 ho1.2 ?_
  refine a_icmp_ge (tgt := 161) (pc := 88) dX9_worst_88 (by decide) (fun hc2 => ?_) (fun hc2 => ?_)
  · replace h := h.1 hc2
    have ho3 := h.1
    replace h := h.2
    refine a_iinc (ls1 := [(2, 275), (0, l1), (0, l2), (0, l3), (0, l4), (0, l5), (0, l6), (0, l7), (0, l8), (0, l9 + 1), (0, l10), (9, 0)]) (pc := 161) dX9_worst_161 rfl (by decide) (hp1 (t := 0) rfl (by decide)) ho3 rfl ?_
    refine a_goto (tgt := 67) (pc := 164) dX9_worst_164 (by decide) ?_
    exact a_msk [true, true, true, true, true, true, true, true, true, true, false, true] rfl h
  · replace h := h.2 hc2
    refine a_aload_n (pc := 91) dX9_worst_91 (by decide) rfl ?_
    refine a_bipush (pc := 92) dX9_worst_92 (by decide) (by decide +kernel) ?_
    refine a_iload (pc := 94) dX9_worst_94 rfl ?_
    have ho4 := h.1
    replace h := h.2
    refine a_imul (pc := 96) dX9_worst_96 ho4 ?_
    refine a_iload (pc := 97) dX9_worst_97 rfl ?_
    have ho5 := h.1
    replace h := h.2
    refine a_iadd (pc := 99) dX9_worst_99 ho5 ?_
    refine a_putI (y := 9) (pc := 100) dX9_worst_100 fl_RX9_31 (by decide) s0_275 rfl rfl (tyX9_ok 9 (by decide)) rfl ?_
    refine a_aload_n (pc := 103) dX9_worst_103 (by decide) rfl ?_
    refine a_iload_n (pc := 104) dX9_worst_104 rfl ?_
    refine a_iload_n (pc := 105) dX9_worst_105 rfl ?_
    refine a_iload_n (pc := 106) dX9_worst_106 rfl ?_
    refine a_iload (pc := 107) dX9_worst_107 rfl ?_
    refine p_inlV (Ex := _) (As := [(0, l1), (0, l2), (0, l3), (0, l4)]) (st := []) (st1 := fun r => [(0, r)])  (pc := 109) dX9_worst_109 ml_RX9_297 (by decide) s0_275 rfl (by decide) (Nat.le_of_ble_eq_true rfl) rfl (fun _ => rfl) (by decide) (by decide) (Nat.le_of_ble_eq_true rfl) rfl ?_
    refine a_aload_n (pc := 0) dX9_lateBy_0 (by decide) rfl ?_
    refine a_iload_n (pc := 1) dX9_lateBy_1 rfl ?_
    refine a_iload_n (pc := 2) dX9_lateBy_2 rfl ?_
    refine a_iload_n (pc := 3) dX9_lateBy_3 rfl ?_
    refine a_iload (pc := 4) dX9_lateBy_4 rfl ?_
    refine p_inlV (Ex := _) (As := [(0, l1), (0, l2), (0, l3), (0, l4)]) (st := []) (st1 := fun r => [(0, r)])  (pc := 6) dX9_lateBy_6 ml_RX9_282 (by decide) s0_275 rfl (by decide) (Nat.le_of_ble_eq_true rfl) rfl (fun _ => rfl) (by decide) (by decide) (Nat.le_of_ble_eq_true rfl) rfl ?_
    refine a_aload_n (pc := 0) dX9_earliestOf_0 (by decide) rfl ?_
    refine a_iload_n (pc := 1) dX9_earliestOf_1 rfl ?_
    refine a_iload_n (pc := 2) dX9_earliestOf_2 rfl ?_
    refine p_callV (As := [(0, l1), (0, l2)]) (st := []) (st1 := fun r => [])  (pc := 3) dX9_earliestOf_3 ml_RX9_138 (by decide) s0_275 rfl (by decide) (Nat.le_of_ble_eq_true rfl) rfl (fun _ => rfl) h (fun r6 M7 h => ?_)
    refine a_aload_n (pc := 6) dX9_earliestOf_6 (by decide) rfl ?_
    refine a_getR (y := 284) (pc := 7) dX9_earliestOf_7 fl_RX9_41 (by decide) s0_275 rfl rfl ?_
    refine a_bipush (pc := 10) dX9_earliestOf_10 (by decide) (by decide +kernel) ?_
    refine a_iload (pc := 12) dX9_earliestOf_12 rfl ?_
    have ho8 := h.1
    replace h := h.2
    refine a_imul (pc := 14) dX9_earliestOf_14 ho8 ?_
    refine a_iload_n (pc := 15) dX9_earliestOf_15 rfl ?_
    have ho9 := h.1
    replace h := h.2
    refine a_iadd (pc := 16) dX9_earliestOf_16 ho9 ?_
    have ho10 := h.1
    replace h := h.2
    refine a_iald (pc := 17) dX9_earliestOf_17 (by decide) s0_284 ho10.1 ho10.2 ?_
    refine a_ireti (pc := 18) dX9_earliestOf_18 rfl rfl (Nat.le_of_ble_eq_true rfl) ⟨rfl, ?_⟩
    refine a_istore (ls1 := [(2, 275), (0, l1), (0, l2), (0, l3), (0, l4), (0, M7 284 ((12 * l4) + l3))]) (pc := 9) dX9_lateBy_9 (by decide) (hp1 (t := 0) rfl (by decide)) rfl ?_
    refine a_iload (pc := 11) dX9_lateBy_11 rfl ?_
    refine a_ldc (v := 100000000) (pc := 13) dX9_lateBy_13 kc_RX9_112 (by decide) ?_
    refine a_icmp_lt (tgt := 24) (pc := 15) dX9_lateBy_15 (by decide) (fun hc11 => ?_) (fun hc11 => ?_)
    · replace h := h.1 hc11
      refine a_iload (pc := 24) dX9_lateBy_24 rfl ?_
      refine a_ireti (pc := 26) dX9_lateBy_26 rfl rfl (Nat.le_of_ble_eq_true rfl) ⟨rfl, ?_⟩
      refine a_iload (pc := 112) dX9_worst_112 rfl ?_
      have ho12 := h.1
      replace h := h.2
      refine a_isub (pc := 114) dX9_worst_114 ho12 ?_
      refine a_istore (ls1 := [(2, 275), (0, l1), (0, l2), (0, l3), (0, l4), (0, l5), (0, l6), (0, l7), (0, l8), (0, l9), (0, l10), (0, (M7 284 ((12 * l4) + l3)) - l6)]) (pc := 115) dX9_worst_115 (by decide) (hp1 (t := 0) rfl (by decide)) rfl ?_
      refine a_iload (pc := 117) dX9_worst_117 rfl ?_
      refine a_iload (pc := 119) dX9_worst_119 rfl ?_
      refine a_icmp_le (tgt := 135) (pc := 121) dX9_worst_121 (by decide) (fun hc13 => ?_) (fun hc13 => ?_)
      · replace h := h.1 hc13
        refine a_iload (pc := 135) dX9_worst_135 rfl ?_
        refine a_istore (ls1 := [(2, 275), (0, l1), (0, l2), (0, l3), (0, l4), (0, l5), (0, l6), (0, l7), (0, l8), (0, l9), (0, l10), (0, (M7 284 ((12 * l4) + l3)) - l6)]) (pc := 137) dX9_worst_137 (by decide) (hp1 (t := 0) rfl (by decide)) rfl ?_
        refine a_iload (pc := 139) dX9_worst_139 rfl ?_
        refine a_iload (pc := 141) dX9_worst_141 rfl ?_
        refine a_icmp_le (tgt := 151) (pc := 143) dX9_worst_143 (by decide) (fun _ => ?_) (fun hc => absurd hc13 hc)
        refine a_iload (pc := 151) dX9_worst_151 rfl ?_
        refine a_istore (ls1 := [(2, 275), (0, l1), (0, l2), (0, l3), (0, l4), (0, l5), (0, l6), (0, l7), (0, l8), (0, l9), (0, l10), (0, (M7 284 ((12 * l4) + l3)) - l6)]) (pc := 153) dX9_worst_153 (by decide) (hp1 (t := 0) rfl (by decide)) rfl ?_
        have ho14 := h.1
        replace h := h.2
        refine a_iinc (ls1 := [(2, 275), (0, l1), (0, l2), (0, l3), (0, l4), (0, l5), (0, l6), (0, l7), (0, l8), (0, l9), (0, l10 + 1), (0, (M7 284 ((12 * l4) + l3)) - l6)]) (pc := 155) dX9_worst_155 rfl (by decide) (hp1 (t := 0) rfl (by decide)) ho14 rfl ?_
        refine a_goto (tgt := 79) (pc := 158) dX9_worst_158 (by decide) ?_
        exact a_msk [true, true, true, true, true, true, true, true, true, true, true, false] rfl h
      · replace h := h.2 hc13
        refine a_bipush (pc := 124) dX9_worst_124 (by decide) (by decide +kernel) ?_
        refine a_iload (pc := 126) dX9_worst_126 rfl ?_
        have ho15 := h.1
        replace h := h.2
        refine a_imul (pc := 128) dX9_worst_128 ho15 ?_
        refine a_iload (pc := 129) dX9_worst_129 rfl ?_
        have ho16 := h.1
        replace h := h.2
        refine a_iadd (pc := 131) dX9_worst_131 ho16 ?_
        refine a_goto (tgt := 137) (pc := 132) dX9_worst_132 (by decide) ?_
        refine a_istore (ls1 := [(2, 275), (0, l1), (0, l2), (0, l3), (0, l4), (0, l5), (0, l6), (0, l7), (0, (10 * l9) + l10), (0, l9), (0, l10), (0, (M7 284 ((12 * l4) + l3)) - l6)]) (pc := 137) dX9_worst_137 (by decide) (hp1 (t := 0) rfl (by decide)) rfl ?_
        refine a_iload (pc := 139) dX9_worst_139 rfl ?_
        refine a_iload (pc := 141) dX9_worst_141 rfl ?_
        refine a_icmp_le (tgt := 151) (pc := 143) dX9_worst_143 (by decide) (fun hc => absurd hc hc13) (fun _ => ?_)
        refine a_iload (pc := 146) dX9_worst_146 rfl ?_
        refine a_goto (tgt := 153) (pc := 148) dX9_worst_148 (by decide) ?_
        refine a_istore (ls1 := [(2, 275), (0, l1), (0, l2), (0, l3), (0, l4), (0, l5), (0, l6), (0, (M7 284 ((12 * l4) + l3)) - l6), (0, (10 * l9) + l10), (0, l9), (0, l10), (0, (M7 284 ((12 * l4) + l3)) - l6)]) (pc := 153) dX9_worst_153 (by decide) (hp1 (t := 0) rfl (by decide)) rfl ?_
        have ho17 := h.1
        replace h := h.2
        refine a_iinc (ls1 := [(2, 275), (0, l1), (0, l2), (0, l3), (0, l4), (0, l5), (0, l6), (0, (M7 284 ((12 * l4) + l3)) - l6), (0, (10 * l9) + l10), (0, l9), (0, l10 + 1), (0, (M7 284 ((12 * l4) + l3)) - l6)]) (pc := 155) dX9_worst_155 rfl (by decide) (hp1 (t := 0) rfl (by decide)) ho17 rfl ?_
        refine a_goto (tgt := 79) (pc := 158) dX9_worst_158 (by decide) ?_
        exact a_msk [true, true, true, true, true, true, true, true, true, true, true, false] rfl h
    · replace h := h.2 hc11
      refine a_sipush (pc := 18) dX9_lateBy_18 (by decide) (by decide +kernel) ?_
      refine a_goto (tgt := 26) (pc := 21) dX9_lateBy_21 (by decide) ?_
      refine a_ireti (pc := 26) dX9_lateBy_26 rfl rfl (Nat.le_of_ble_eq_true rfl) ⟨rfl, ?_⟩
      refine a_iload (pc := 112) dX9_worst_112 rfl ?_
      have ho18 := h.1
      replace h := h.2
      refine a_isub (pc := 114) dX9_worst_114 ho18 ?_
      refine a_istore (ls1 := [(2, 275), (0, l1), (0, l2), (0, l3), (0, l4), (0, l5), (0, l6), (0, l7), (0, l8), (0, l9), (0, l10), (0, 10000 - l6)]) (pc := 115) dX9_worst_115 (by decide) (hp1 (t := 0) rfl (by decide)) rfl ?_
      refine a_iload (pc := 117) dX9_worst_117 rfl ?_
      refine a_iload (pc := 119) dX9_worst_119 rfl ?_
      refine a_icmp_le (tgt := 135) (pc := 121) dX9_worst_121 (by decide) (fun hc19 => ?_) (fun hc19 => ?_)
      · replace h := h.1 hc19
        refine a_iload (pc := 135) dX9_worst_135 rfl ?_
        refine a_istore (ls1 := [(2, 275), (0, l1), (0, l2), (0, l3), (0, l4), (0, l5), (0, l6), (0, l7), (0, l8), (0, l9), (0, l10), (0, 10000 - l6)]) (pc := 137) dX9_worst_137 (by decide) (hp1 (t := 0) rfl (by decide)) rfl ?_
        refine a_iload (pc := 139) dX9_worst_139 rfl ?_
        refine a_iload (pc := 141) dX9_worst_141 rfl ?_
        refine a_icmp_le (tgt := 151) (pc := 143) dX9_worst_143 (by decide) (fun _ => ?_) (fun hc => absurd hc19 hc)
        refine a_iload (pc := 151) dX9_worst_151 rfl ?_
        refine a_istore (ls1 := [(2, 275), (0, l1), (0, l2), (0, l3), (0, l4), (0, l5), (0, l6), (0, l7), (0, l8), (0, l9), (0, l10), (0, 10000 - l6)]) (pc := 153) dX9_worst_153 (by decide) (hp1 (t := 0) rfl (by decide)) rfl ?_
        have ho20 := h.1
        replace h := h.2
        refine a_iinc (ls1 := [(2, 275), (0, l1), (0, l2), (0, l3), (0, l4), (0, l5), (0, l6), (0, l7), (0, l8), (0, l9), (0, l10 + 1), (0, 10000 - l6)]) (pc := 155) dX9_worst_155 rfl (by decide) (hp1 (t := 0) rfl (by decide)) ho20 rfl ?_
        refine a_goto (tgt := 79) (pc := 158) dX9_worst_158 (by decide) ?_
        exact a_msk [true, true, true, true, true, true, true, true, true, true, true, false] rfl h
      · replace h := h.2 hc19
        refine a_bipush (pc := 124) dX9_worst_124 (by decide) (by decide +kernel) ?_
        refine a_iload (pc := 126) dX9_worst_126 rfl ?_
        have ho21 := h.1
        replace h := h.2
        refine a_imul (pc := 128) dX9_worst_128 ho21 ?_
        refine a_iload (pc := 129) dX9_worst_129 rfl ?_
        have ho22 := h.1
        replace h := h.2
        refine a_iadd (pc := 131) dX9_worst_131 ho22 ?_
        refine a_goto (tgt := 137) (pc := 132) dX9_worst_132 (by decide) ?_
        refine a_istore (ls1 := [(2, 275), (0, l1), (0, l2), (0, l3), (0, l4), (0, l5), (0, l6), (0, l7), (0, (10 * l9) + l10), (0, l9), (0, l10), (0, 10000 - l6)]) (pc := 137) dX9_worst_137 (by decide) (hp1 (t := 0) rfl (by decide)) rfl ?_
        refine a_iload (pc := 139) dX9_worst_139 rfl ?_
        refine a_iload (pc := 141) dX9_worst_141 rfl ?_
        refine a_icmp_le (tgt := 151) (pc := 143) dX9_worst_143 (by decide) (fun hc => absurd hc hc19) (fun _ => ?_)
        refine a_iload (pc := 146) dX9_worst_146 rfl ?_
        refine a_goto (tgt := 153) (pc := 148) dX9_worst_148 (by decide) ?_
        refine a_istore (ls1 := [(2, 275), (0, l1), (0, l2), (0, l3), (0, l4), (0, l5), (0, l6), (0, 10000 - l6), (0, (10 * l9) + l10), (0, l9), (0, l10), (0, 10000 - l6)]) (pc := 153) dX9_worst_153 (by decide) (hp1 (t := 0) rfl (by decide)) rfl ?_
        have ho23 := h.1
        replace h := h.2
        refine a_iinc (ls1 := [(2, 275), (0, l1), (0, l2), (0, l3), (0, l4), (0, l5), (0, l6), (0, 10000 - l6), (0, (10 * l9) + l10), (0, l9), (0, l10 + 1), (0, 10000 - l6)]) (pc := 155) dX9_worst_155 rfl (by decide) (hp1 (t := 0) rfl (by decide)) ho23 rfl ?_
        refine a_goto (tgt := 79) (pc := 158) dX9_worst_158 (by decide) ?_
        exact a_msk [true, true, true, true, true, true, true, true, true, true, true, false] rfl h
theorem E_R_worst {l1 l2 l3 l4 l5 : Int} {M : Mem} {Q : Int → Mem → Prop} (h : AW mX9_worst 0 [(2, 275), (0, l1), (0, l2), (0, l3), (0, l4), (0, l5), (9, 0), (9, 0), (9, 0), (9, 0), (9, 0), (9, 0)] M Q) : Calls mX9_worst [(2, 275), (0, l1), (0, l2), (0, l3), (0, l4), (0, l5)] S0 M Q := calls_of (by decide) (by decide) (Nat.le_of_ble_eq_true rfl) rfl h
set_option maxRecDepth 100000 in
set_option maxHeartbeats 4000000 in
theorem B_R_fare_0 {l1 l2 l3 l4 : Int} {M : Mem} {Q : Int → Mem → Prop} (h : Calls mX9_wrong [(0, l1), (0, l3), (0, l2), (0, l4)] S0 (up2 M 275 8 0) (fun r1 M2 => ((0 ≤ r1 → Calls mX9_layJourney [(2, 275), (0, l1), (0, l2), (0, l3), (0, l4)] S0 M2 (fun r4 M5 => ((¬ r4 = 0 → AW mX9_fare 46 [(2, 275), (9, 0), (9, 0), (9, 0), (9, 0), (0, 0), (0, 0)] M5 Q) ∧ (r4 = 0 → Q (-5) M5)))) ∧ (¬ (0 ≤ r1) → Calls mX9_wrong [(0, l1), (0, l3), (0, l2), (0, l4)] S0 M2 (fun r7 M8 => Q r7 M8))))) : AW mX9_fare 0 [(2, 275), (0, l1), (0, l2), (0, l3), (0, l4), (9, 0), (9, 0)] M Q := by
  refine a_aload_n (pc := 0) dX9_fare_0 (by decide) rfl ?_
  refine a_iconst (pc := 1) dX9_fare_1 (by decide) ?_
  refine a_putI (y := 8) (pc := 2) dX9_fare_2 fl_RX9_87 (by decide) s0_275 rfl rfl (tyX9_ok 8 (by decide)) rfl ?_
  refine a_iload_n (pc := 5) dX9_fare_5 rfl ?_
  refine a_iload_n (pc := 6) dX9_fare_6 rfl ?_
  refine a_iload_n (pc := 7) dX9_fare_7 rfl ?_
  refine a_iload (pc := 8) dX9_fare_8 rfl ?_
  refine p_callS (As := [(0, l1), (0, l3), (0, l2), (0, l4)]) (st := []) (st1 := fun r => [(0, r)])  (pc := 10) dX9_fare_10 ml_RX9_278 (by decide) (Nat.le_of_ble_eq_true rfl) rfl (fun _ => rfl) h (fun r1 M2 h => ?_)
  refine a_if_ge (tgt := 25) (pc := 13) dX9_fare_13 (by decide) (fun hc3 => ?_) (fun hc3 => ?_)
  · replace h := h.1 hc3
    refine a_aload_n (pc := 25) dX9_fare_25 (by decide) rfl ?_
    refine a_iload_n (pc := 26) dX9_fare_26 rfl ?_
    refine a_iload_n (pc := 27) dX9_fare_27 rfl ?_
    refine a_iload_n (pc := 28) dX9_fare_28 rfl ?_
    refine a_iload (pc := 29) dX9_fare_29 rfl ?_
    refine p_callV (As := [(0, l1), (0, l2), (0, l3), (0, l4)]) (st := []) (st1 := fun r => [(0, r)])  (pc := 31) dX9_fare_31 ml_RX9_285 (by decide) s0_275 rfl (by decide) (Nat.le_of_ble_eq_true rfl) rfl (fun _ => rfl) h (fun r4 M5 h => ?_)
    refine a_if_ne (tgt := 40) (pc := 34) dX9_fare_34 (by decide) (fun hc6 => ?_) (fun hc6 => ?_)
    · replace h := h.1 hc6
      refine a_iconst (pc := 40) dX9_fare_40 (by decide) ?_
      refine a_istore (ls1 := [(2, 275), (0, l1), (0, l2), (0, l3), (0, l4), (0, 0), (9, 0)]) (pc := 41) dX9_fare_41 (by decide) (hp1 (t := 0) rfl (by decide)) rfl ?_
      refine a_iconst (pc := 43) dX9_fare_43 (by decide) ?_
      refine a_istore (ls1 := [(2, 275), (0, l1), (0, l2), (0, l3), (0, l4), (0, 0), (0, 0)]) (pc := 44) dX9_fare_44 (by decide) (hp1 (t := 0) rfl (by decide)) rfl ?_
      exact a_msk [true, false, false, false, false, true, true] rfl h
    · replace h := h.2 hc6
      refine a_bipush (pc := 37) dX9_fare_37 (by decide) (by decide +kernel) ?_
      exact a_ireti (pc := 39) dX9_fare_39 rfl rfl (Nat.le_of_ble_eq_true rfl) ⟨rfl, h⟩
  · replace h := h.2 hc3
    refine a_iload_n (pc := 16) dX9_fare_16 rfl ?_
    refine a_iload_n (pc := 17) dX9_fare_17 rfl ?_
    refine a_iload_n (pc := 18) dX9_fare_18 rfl ?_
    refine a_iload (pc := 19) dX9_fare_19 rfl ?_
    refine p_callS (As := [(0, l1), (0, l3), (0, l2), (0, l4)]) (st := []) (st1 := fun r => [(0, r)])  (pc := 21) dX9_fare_21 ml_RX9_278 (by decide) (Nat.le_of_ble_eq_true rfl) rfl (fun _ => rfl) h (fun r7 M8 h => ?_)
    exact a_ireti (pc := 24) dX9_fare_24 rfl rfl (Nat.le_of_ble_eq_true rfl) ⟨rfl, h⟩
set_option maxRecDepth 100000 in
set_option maxHeartbeats 4000000 in
theorem B_R_fare_46 {l5 l6 : Int} {M : Mem} {Q : Int → Mem → Prop} (h : (((M 275 14) ≤ l6 → Q l5 M) ∧ (¬ ((M 275 14) ≤ l6) → ((0 : Int) ≤ l6 ∧ l6 < 16) ∧ ((0 ≤ (M 285 l6) → Calls mX9_fareOf [(2, 275), (0, M 285 l6), (0, M 291 l6)] S0 M (fun r4 M5 => (-2147483648 ≤ l5 + r4 ∧ l5 + r4 ≤ 2147483647) ∧ (-2147483648 ≤ l6 + 1 ∧ l6 + 1 ≤ 2147483647) ∧ AW mX9_fare 46 [(2, 275), (9, 0), (9, 0), (9, 0), (9, 0), (0, l5 + r4), (0, l6 + 1)] M5 Q)) ∧ (¬ (0 ≤ (M 285 l6)) → (-2147483648 ≤ l5 + 0 ∧ l5 + 0 ≤ 2147483647) ∧ (-2147483648 ≤ l6 + 1 ∧ l6 + 1 ≤ 2147483647) ∧ AW mX9_fare 46 [(2, 275), (9, 0), (9, 0), (9, 0), (9, 0), (0, l5 + 0), (0, l6 + 1)] M Q))))) : AW mX9_fare 46 [(2, 275), (9, 0), (9, 0), (9, 0), (9, 0), (0, l5), (0, l6)] M Q := by
  refine a_iload (pc := 46) dX9_fare_46 rfl ?_
  refine a_aload_n (pc := 48) dX9_fare_48 (by decide) rfl ?_
  refine a_getI (y := 14) (pc := 49) dX9_fare_49 fl_RX9_155 (by decide) s0_275 (Or.inl rfl) rfl ?_
  refine a_icmp_ge (tgt := 98) (pc := 52) dX9_fare_52 (by decide) (fun hc1 => ?_) (fun hc1 => ?_)
  · replace h := h.1 hc1
    refine a_iload (pc := 98) dX9_fare_98 rfl ?_
    exact a_ireti (pc := 100) dX9_fare_100 rfl rfl (Nat.le_of_ble_eq_true rfl) ⟨rfl, h⟩
  · replace h := h.2 hc1
    refine a_iload (pc := 55) dX9_fare_55 rfl ?_
    refine a_aload_n (pc := 57) dX9_fare_57 (by decide) rfl ?_
    refine a_getR (y := 285) (pc := 58) dX9_fare_58 fl_RX9_44 (by decide) s0_275 rfl rfl ?_
    refine a_iload (pc := 61) dX9_fare_61 rfl ?_
    have ho2 := h.1
    replace h := h.2
    refine a_iald (pc := 63) dX9_fare_63 (by decide) s0_285 ho2.1 ho2.2 ?_
    refine a_if_ge (tgt := 71) (pc := 64) dX9_fare_64 (by decide) (fun hc3 => ?_) (fun hc3 => ?_)
    · replace h := h.1 hc3
      refine a_aload_n (pc := 71) dX9_fare_71 (by decide) rfl ?_
      refine a_aload_n (pc := 72) dX9_fare_72 (by decide) rfl ?_
      refine a_getR (y := 285) (pc := 73) dX9_fare_73 fl_RX9_44 (by decide) s0_275 rfl rfl ?_
      refine a_iload (pc := 76) dX9_fare_76 rfl ?_
      refine a_iald (pc := 78) dX9_fare_78 (by decide) s0_285 ho2.1 ho2.2 ?_
      refine a_aload_n (pc := 79) dX9_fare_79 (by decide) rfl ?_
      refine a_getR (y := 291) (pc := 80) dX9_fare_80 fl_RX9_62 (by decide) s0_275 rfl rfl ?_
      refine a_iload (pc := 83) dX9_fare_83 rfl ?_
      refine a_iald (pc := 85) dX9_fare_85 (by decide) s0_291 ho2.1 ho2.2 ?_
      refine p_callV (As := [(0, M 285 l6), (0, M 291 l6)]) (st := [(0, l5)]) (st1 := fun r => [(0, r), (0, l5)])  (pc := 86) dX9_fare_86 ml_RX9_294 (by decide) s0_275 rfl (by decide) (Nat.le_of_ble_eq_true rfl) rfl (fun _ => rfl) h (fun r4 M5 h => ?_)
      have ho6 := h.1
      replace h := h.2
      refine a_iadd (pc := 89) dX9_fare_89 ho6 ?_
      refine a_istore (ls1 := [(2, 275), (9, 0), (9, 0), (9, 0), (9, 0), (0, l5 + r4), (0, l6)]) (pc := 90) dX9_fare_90 (by decide) (hp1 (t := 9) rfl (by decide)) rfl ?_
      have ho7 := h.1
      replace h := h.2
      refine a_iinc (ls1 := [(2, 275), (9, 0), (9, 0), (9, 0), (9, 0), (0, l5 + r4), (0, l6 + 1)]) (pc := 92) dX9_fare_92 rfl (by decide) (hp1 (t := 0) rfl (by decide)) ho7 rfl ?_
      refine a_goto (tgt := 46) (pc := 95) dX9_fare_95 (by decide) ?_
      exact h
    · replace h := h.2 hc3
      refine a_iconst (pc := 67) dX9_fare_67 (by decide) ?_
      refine a_goto (tgt := 89) (pc := 68) dX9_fare_68 (by decide) ?_
      have ho8 := h.1
      replace h := h.2
      refine a_iadd (pc := 89) dX9_fare_89 ho8 ?_
      refine a_istore (ls1 := [(2, 275), (9, 0), (9, 0), (9, 0), (9, 0), (0, l5 + 0), (0, l6)]) (pc := 90) dX9_fare_90 (by decide) (hp1 (t := 9) rfl (by decide)) rfl ?_
      have ho9 := h.1
      replace h := h.2
      refine a_iinc (ls1 := [(2, 275), (9, 0), (9, 0), (9, 0), (9, 0), (0, l5 + 0), (0, l6 + 1)]) (pc := 92) dX9_fare_92 rfl (by decide) (hp1 (t := 0) rfl (by decide)) ho9 rfl ?_
      refine a_goto (tgt := 46) (pc := 95) dX9_fare_95 (by decide) ?_
      exact h
theorem E_R_fare {l1 l2 l3 l4 : Int} {M : Mem} {Q : Int → Mem → Prop} (h : AW mX9_fare 0 [(2, 275), (0, l1), (0, l2), (0, l3), (0, l4), (9, 0), (9, 0)] M Q) : Calls mX9_fare [(2, 275), (0, l1), (0, l2), (0, l3), (0, l4)] S0 M Q := calls_of (by decide) (by decide) (Nat.le_of_ble_eq_true rfl) rfl h
set_option maxRecDepth 100000 in
set_option maxHeartbeats 4000000 in
theorem B_R_leg_0 {l1 l2 l3 l4 l5 l6 : Int} {M : Mem} {Q : Int → Mem → Prop} (h : ((l1 < 0 → Q (-1) (up2 M 275 8 0)) ∧ (¬ (l1 < 0) → ((11 < l1 → Q (-1) (up2 M 275 8 0)) ∧ (¬ (11 < l1) → ((l3 < 0 → Q (-1) (up2 M 275 8 0)) ∧ (¬ (l3 < 0) → ((11 < l3 → Q (-1) (up2 M 275 8 0)) ∧ (¬ (11 < l3) → ((l5 < 0 → Q (-1) (up2 M 275 8 0)) ∧ (¬ (l5 < 0) → ((l6 < 0 → Q (-1) (up2 M 275 8 0)) ∧ (¬ (l6 < 0) → ((5 < l6 → Q (-1) (up2 M 275 8 0)) ∧ (¬ (5 < l6) → Calls mX9_wrong [(0, l1), (0, l3), (0, l2), (0, l4)] S0 (up2 M 275 8 0) (fun r8 M9 => ((0 ≤ r8 → Calls mX9_layJourney [(2, 275), (0, l1), (0, l2), (0, l3), (0, l4)] S0 M9 (fun r11 M12 => ((r11 = 0 → Q (-1) M12) ∧ (¬ r11 = 0 → (((M12 275 14) ≤ l5 → Q (-1) M12) ∧ (¬ ((M12 275 14) ≤ l5) → (-2147483648 ≤ (M12 275 14) - 1 ∧ (M12 275 14) - 1 ≤ 2147483647) ∧ (-2147483648 ≤ ((M12 275 14) - 1) - l5 ∧ ((M12 275 14) - 1) - l5 ≤ 2147483647) ∧ Calls mX9_ofLeg [(2, 275), (0, ((M12 275 14) - 1) - l5), (0, l6)] S0 M12 (fun r17 M18 => Q r17 M18))))))) ∧ (¬ (0 ≤ r8) → Q (-2) M9)))))))))))))))))) : AW mX9_leg 0 [(2, 275), (0, l1), (0, l2), (0, l3), (0, l4), (0, l5), (0, l6)] M Q := by
  refine a_aload_n (pc := 0) dX9_leg_0 (by decide) rfl ?_
  refine a_iconst (pc := 1) dX9_leg_1 (by decide) ?_
  refine a_putI (y := 8) (pc := 2) dX9_leg_2 fl_RX9_87 (by decide) s0_275 rfl rfl (tyX9_ok 8 (by decide)) rfl ?_
  refine a_iload_n (pc := 5) dX9_leg_5 rfl ?_
  refine p_inlS (Ex := _) (As := [(0, l1)]) (st := []) (st1 := fun r => [(0, r)])  (pc := 6) dX9_leg_6 ml_RX9_260 (by decide) (Nat.le_of_ble_eq_true rfl) rfl (fun _ => rfl) (by decide) (by decide) (Nat.le_of_ble_eq_true rfl) rfl ?_
  refine a_iload_n (pc := 0) dX9_isStop_0 rfl ?_
  refine a_i2l (pc := 1) dX9_isStop_1 ?_
  refine a_lconst (v := 0) (pc := 2) dX9_isStop_2 rfl ?_
  refine a_ldc2 (v := 11) (pc := 3) dX9_isStop_3 kc_RX9_90 (by decide) ?_
  refine p_inlS (Ex := _) (As := [(1, l1), (1, 0), (1, 11)]) (st := []) (st1 := fun r => [(0, r)])  (pc := 6) dX9_isStop_6 ml_RX9_92 (by decide) (Nat.le_of_ble_eq_true rfl) rfl (fun _ => rfl) (by decide) (by decide) (Nat.le_of_ble_eq_true rfl) rfl ?_
  refine a_lload_n (pc := 0) dX9_in_0 rfl ?_
  refine a_lload_n (pc := 1) dX9_in_1 rfl ?_
  refine a_lcmp_lt (tgt := 17) (pc := 2) dX9_in_2 dX9_in_3 (by decide) (fun hc1 => ?_) (fun hc1 => ?_)
  · replace h := h.1 hc1
    refine a_iconst (pc := 17) dX9_in_17 (by decide) ?_
    refine a_iretz (pc := 18) dX9_in_18 rfl rfl (Nat.le_of_ble_eq_true rfl) (by decide) ⟨rfl, ?_⟩
    refine a_iretz (pc := 9) dX9_isStop_9 rfl rfl (Nat.le_of_ble_eq_true rfl) (by decide) ⟨rfl, ?_⟩
    refine a_if_eq (tgt := 37) (pc := 9) dX9_leg_9 (by decide) (fun _ => ?_) (fun hc => absurd (by decide) hc)
    refine a_iconst (pc := 37) dX9_leg_37 (by decide) ?_
    exact a_ireti (pc := 38) dX9_leg_38 rfl rfl (Nat.le_of_ble_eq_true rfl) ⟨rfl, h⟩
  · replace h := h.2 hc1
    refine a_lload_n (pc := 6) dX9_in_6 rfl ?_
    refine a_lload (pc := 7) dX9_in_7 rfl ?_
    refine a_lcmp_gt (tgt := 17) (pc := 9) dX9_in_9 dX9_in_10 (by decide) (fun hc2 => ?_) (fun hc2 => ?_)
    · replace h := h.1 hc2
      refine a_iconst (pc := 17) dX9_in_17 (by decide) ?_
      refine a_iretz (pc := 18) dX9_in_18 rfl rfl (Nat.le_of_ble_eq_true rfl) (by decide) ⟨rfl, ?_⟩
      refine a_iretz (pc := 9) dX9_isStop_9 rfl rfl (Nat.le_of_ble_eq_true rfl) (by decide) ⟨rfl, ?_⟩
      refine a_if_eq (tgt := 37) (pc := 9) dX9_leg_9 (by decide) (fun _ => ?_) (fun hc => absurd (by decide) hc)
      refine a_iconst (pc := 37) dX9_leg_37 (by decide) ?_
      exact a_ireti (pc := 38) dX9_leg_38 rfl rfl (Nat.le_of_ble_eq_true rfl) ⟨rfl, h⟩
    · replace h := h.2 hc2
      refine a_iconst (pc := 13) dX9_in_13 (by decide) ?_
      refine a_goto (tgt := 18) (pc := 14) dX9_in_14 (by decide) ?_
      refine a_iretz (pc := 18) dX9_in_18 rfl rfl (Nat.le_of_ble_eq_true rfl) (by decide) ⟨rfl, ?_⟩
      refine a_iretz (pc := 9) dX9_isStop_9 rfl rfl (Nat.le_of_ble_eq_true rfl) (by decide) ⟨rfl, ?_⟩
      refine a_if_eq (tgt := 37) (pc := 9) dX9_leg_9 (by decide) (fun hc => absurd hc (by decide)) (fun _ => ?_)
      refine a_iload_n (pc := 12) dX9_leg_12 rfl ?_
      refine p_inlS (Ex := _) (As := [(0, l3)]) (st := []) (st1 := fun r => [(0, r)])  (pc := 13) dX9_leg_13 ml_RX9_260 (by decide) (Nat.le_of_ble_eq_true rfl) rfl (fun _ => rfl) (by decide) (by decide) (Nat.le_of_ble_eq_true rfl) rfl ?_
      refine a_iload_n (pc := 0) dX9_isStop_0 rfl ?_
      refine a_i2l (pc := 1) dX9_isStop_1 ?_
      refine a_lconst (v := 0) (pc := 2) dX9_isStop_2 rfl ?_
      refine a_ldc2 (v := 11) (pc := 3) dX9_isStop_3 kc_RX9_90 (by decide) ?_
      refine p_inlS (Ex := _) (As := [(1, l3), (1, 0), (1, 11)]) (st := []) (st1 := fun r => [(0, r)])  (pc := 6) dX9_isStop_6 ml_RX9_92 (by decide) (Nat.le_of_ble_eq_true rfl) rfl (fun _ => rfl) (by decide) (by decide) (Nat.le_of_ble_eq_true rfl) rfl ?_
      refine a_lload_n (pc := 0) dX9_in_0 rfl ?_
      refine a_lload_n (pc := 1) dX9_in_1 rfl ?_
      refine a_lcmp_lt (tgt := 17) (pc := 2) dX9_in_2 dX9_in_3 (by decide) (fun hc3 => ?_) (fun hc3 => ?_)
      · replace h := h.1 hc3
        refine a_iconst (pc := 17) dX9_in_17 (by decide) ?_
        refine a_iretz (pc := 18) dX9_in_18 rfl rfl (Nat.le_of_ble_eq_true rfl) (by decide) ⟨rfl, ?_⟩
        refine a_iretz (pc := 9) dX9_isStop_9 rfl rfl (Nat.le_of_ble_eq_true rfl) (by decide) ⟨rfl, ?_⟩
        refine a_if_eq (tgt := 37) (pc := 16) dX9_leg_16 (by decide) (fun _ => ?_) (fun hc => absurd (by decide) hc)
        refine a_iconst (pc := 37) dX9_leg_37 (by decide) ?_
        exact a_ireti (pc := 38) dX9_leg_38 rfl rfl (Nat.le_of_ble_eq_true rfl) ⟨rfl, h⟩
      · replace h := h.2 hc3
        refine a_lload_n (pc := 6) dX9_in_6 rfl ?_
        refine a_lload (pc := 7) dX9_in_7 rfl ?_
        refine a_lcmp_gt (tgt := 17) (pc := 9) dX9_in_9 dX9_in_10 (by decide) (fun hc4 => ?_) (fun hc4 => ?_)
        · replace h := h.1 hc4
          refine a_iconst (pc := 17) dX9_in_17 (by decide) ?_
          refine a_iretz (pc := 18) dX9_in_18 rfl rfl (Nat.le_of_ble_eq_true rfl) (by decide) ⟨rfl, ?_⟩
          refine a_iretz (pc := 9) dX9_isStop_9 rfl rfl (Nat.le_of_ble_eq_true rfl) (by decide) ⟨rfl, ?_⟩
          refine a_if_eq (tgt := 37) (pc := 16) dX9_leg_16 (by decide) (fun _ => ?_) (fun hc => absurd (by decide) hc)
          refine a_iconst (pc := 37) dX9_leg_37 (by decide) ?_
          exact a_ireti (pc := 38) dX9_leg_38 rfl rfl (Nat.le_of_ble_eq_true rfl) ⟨rfl, h⟩
        · replace h := h.2 hc4
          refine a_iconst (pc := 13) dX9_in_13 (by decide) ?_
          refine a_goto (tgt := 18) (pc := 14) dX9_in_14 (by decide) ?_
          refine a_iretz (pc := 18) dX9_in_18 rfl rfl (Nat.le_of_ble_eq_true rfl) (by decide) ⟨rfl, ?_⟩
          refine a_iretz (pc := 9) dX9_isStop_9 rfl rfl (Nat.le_of_ble_eq_true rfl) (by decide) ⟨rfl, ?_⟩
          refine a_if_eq (tgt := 37) (pc := 16) dX9_leg_16 (by decide) (fun hc => absurd hc (by decide)) (fun _ => ?_)
          refine a_iload (pc := 19) dX9_leg_19 rfl ?_
          refine a_if_lt (tgt := 37) (pc := 21) dX9_leg_21 (by decide) (fun hc5 => ?_) (fun hc5 => ?_)
          · replace h := h.1 hc5
            refine a_iconst (pc := 37) dX9_leg_37 (by decide) ?_
            exact a_ireti (pc := 38) dX9_leg_38 rfl rfl (Nat.le_of_ble_eq_true rfl) ⟨rfl, h⟩
          · replace h := h.2 hc5
            refine a_iload (pc := 24) dX9_leg_24 rfl ?_
            refine a_i2l (pc := 26) dX9_leg_26 ?_
            refine a_lconst (v := 0) (pc := 27) dX9_leg_27 rfl ?_
            refine a_ldc2 (v := 5) (pc := 28) dX9_leg_28 kc_RX9_289 (by decide) ?_
            refine p_inlS (Ex := _) (As := [(1, l6), (1, 0), (1, 5)]) (st := []) (st1 := fun r => [(0, r)])  (pc := 31) dX9_leg_31 ml_RX9_92 (by decide) (Nat.le_of_ble_eq_true rfl) rfl (fun _ => rfl) (by decide) (by decide) (Nat.le_of_ble_eq_true rfl) rfl ?_
            refine a_lload_n (pc := 0) dX9_in_0 rfl ?_
            refine a_lload_n (pc := 1) dX9_in_1 rfl ?_
            refine a_lcmp_lt (tgt := 17) (pc := 2) dX9_in_2 dX9_in_3 (by decide) (fun hc6 => ?_) (fun hc6 => ?_)
            · replace h := h.1 hc6
              refine a_iconst (pc := 17) dX9_in_17 (by decide) ?_
              refine a_iretz (pc := 18) dX9_in_18 rfl rfl (Nat.le_of_ble_eq_true rfl) (by decide) ⟨rfl, ?_⟩
              refine a_if_ne (tgt := 39) (pc := 34) dX9_leg_34 (by decide) (fun hc => absurd rfl hc) (fun _ => ?_)
              refine a_iconst (pc := 37) dX9_leg_37 (by decide) ?_
              exact a_ireti (pc := 38) dX9_leg_38 rfl rfl (Nat.le_of_ble_eq_true rfl) ⟨rfl, h⟩
            · replace h := h.2 hc6
              refine a_lload_n (pc := 6) dX9_in_6 rfl ?_
              refine a_lload (pc := 7) dX9_in_7 rfl ?_
              refine a_lcmp_gt (tgt := 17) (pc := 9) dX9_in_9 dX9_in_10 (by decide) (fun hc7 => ?_) (fun hc7 => ?_)
              · replace h := h.1 hc7
                refine a_iconst (pc := 17) dX9_in_17 (by decide) ?_
                refine a_iretz (pc := 18) dX9_in_18 rfl rfl (Nat.le_of_ble_eq_true rfl) (by decide) ⟨rfl, ?_⟩
                refine a_if_ne (tgt := 39) (pc := 34) dX9_leg_34 (by decide) (fun hc => absurd rfl hc) (fun _ => ?_)
                refine a_iconst (pc := 37) dX9_leg_37 (by decide) ?_
                exact a_ireti (pc := 38) dX9_leg_38 rfl rfl (Nat.le_of_ble_eq_true rfl) ⟨rfl, h⟩
              · replace h := h.2 hc7
                refine a_iconst (pc := 13) dX9_in_13 (by decide) ?_
                refine a_goto (tgt := 18) (pc := 14) dX9_in_14 (by decide) ?_
                refine a_iretz (pc := 18) dX9_in_18 rfl rfl (Nat.le_of_ble_eq_true rfl) (by decide) ⟨rfl, ?_⟩
                refine a_if_ne (tgt := 39) (pc := 34) dX9_leg_34 (by decide) (fun _ => ?_) (fun hc => absurd hc (by decide))
                refine a_iload_n (pc := 39) dX9_leg_39 rfl ?_
                refine a_iload_n (pc := 40) dX9_leg_40 rfl ?_
                refine a_iload_n (pc := 41) dX9_leg_41 rfl ?_
                refine a_iload (pc := 42) dX9_leg_42 rfl ?_
                refine p_callS (As := [(0, l1), (0, l3), (0, l2), (0, l4)]) (st := []) (st1 := fun r => [(0, r)])  (pc := 44) dX9_leg_44 ml_RX9_278 (by decide) (Nat.le_of_ble_eq_true rfl) rfl (fun _ => rfl) h (fun r8 M9 h => ?_)
                refine a_if_ge (tgt := 53) (pc := 47) dX9_leg_47 (by decide) (fun hc10 => ?_) (fun hc10 => ?_)
                · replace h := h.1 hc10
                  refine a_aload_n (pc := 53) dX9_leg_53 (by decide) rfl ?_
                  refine a_iload_n (pc := 54) dX9_leg_54 rfl ?_
                  refine a_iload_n (pc := 55) dX9_leg_55 rfl ?_
                  refine a_iload_n (pc := 56) dX9_leg_56 rfl ?_
                  refine a_iload (pc := 57) dX9_leg_57 rfl ?_
                  refine p_callV (As := [(0, l1), (0, l2), (0, l3), (0, l4)]) (st := []) (st1 := fun r => [(0, r)])  (pc := 59) dX9_leg_59 ml_RX9_285 (by decide) s0_275 rfl (by decide) (Nat.le_of_ble_eq_true rfl) rfl (fun _ => rfl) h (fun r11 M12 h => ?_)
                  refine a_if_eq (tgt := 92) (pc := 62) dX9_leg_62 (by decide) (fun hc13 => ?_) (fun hc13 => ?_)
                  · replace h := h.1 hc13
                    refine a_iconst (pc := 92) dX9_leg_92 (by decide) ?_
                    exact a_ireti (pc := 93) dX9_leg_93 rfl rfl (Nat.le_of_ble_eq_true rfl) ⟨rfl, h⟩
                  · replace h := h.2 hc13
                    refine a_iload (pc := 65) dX9_leg_65 rfl ?_
                    refine a_aload_n (pc := 67) dX9_leg_67 (by decide) rfl ?_
                    refine a_getI (y := 14) (pc := 68) dX9_leg_68 fl_RX9_155 (by decide) s0_275 (Or.inl rfl) rfl ?_
                    refine a_icmp_ge (tgt := 92) (pc := 71) dX9_leg_71 (by decide) (fun hc14 => ?_) (fun hc14 => ?_)
                    · replace h := h.1 hc14
                      refine a_iconst (pc := 92) dX9_leg_92 (by decide) ?_
                      exact a_ireti (pc := 93) dX9_leg_93 rfl rfl (Nat.le_of_ble_eq_true rfl) ⟨rfl, h⟩
                    · replace h := h.2 hc14
                      refine a_aload_n (pc := 74) dX9_leg_74 (by decide) rfl ?_
                      refine a_aload_n (pc := 75) dX9_leg_75 (by decide) rfl ?_
                      refine a_getI (y := 14) (pc := 76) dX9_leg_76 fl_RX9_155 (by decide) s0_275 (Or.inl rfl) rfl ?_
                      refine a_iconst (pc := 79) dX9_leg_79 (by decide) ?_
                      have ho15 := h.1
                      replace h := h.2
                      refine a_isub (pc := 80) dX9_leg_80 ho15 ?_
                      refine a_iload (pc := 81) dX9_leg_81 rfl ?_
                      have ho16 := h.1
                      replace h := h.2
                      refine a_isub (pc := 83) dX9_leg_83 ho16 ?_
                      refine a_iload (pc := 84) dX9_leg_84 rfl ?_
                      refine p_callV (As := [(0, ((M12 275 14) - 1) - l5), (0, l6)]) (st := []) (st1 := fun r => [(0, r)])  (pc := 86) dX9_leg_86 ml_RX9_291 (by decide) s0_275 rfl (by decide) (Nat.le_of_ble_eq_true rfl) rfl (fun _ => rfl) h (fun r17 M18 h => ?_)
                      refine a_goto (tgt := 93) (pc := 89) dX9_leg_89 (by decide) ?_
                      exact a_ireti (pc := 93) dX9_leg_93 rfl rfl (Nat.le_of_ble_eq_true rfl) ⟨rfl, h⟩
                · replace h := h.2 hc10
                  refine a_bipush (pc := 50) dX9_leg_50 (by decide) (by decide +kernel) ?_
                  exact a_ireti (pc := 52) dX9_leg_52 rfl rfl (Nat.le_of_ble_eq_true rfl) ⟨rfl, h⟩
theorem E_R_leg {l1 l2 l3 l4 l5 l6 : Int} {M : Mem} {Q : Int → Mem → Prop} (h : AW mX9_leg 0 [(2, 275), (0, l1), (0, l2), (0, l3), (0, l4), (0, l5), (0, l6)] M Q) : Calls mX9_leg [(2, 275), (0, l1), (0, l2), (0, l3), (0, l4), (0, l5), (0, l6)] S0 M Q := calls_of (by decide) (by decide) (Nat.le_of_ble_eq_true rfl) rfl h
set_option maxRecDepth 100000 in
set_option maxHeartbeats 4000000 in
theorem B_R_legs_0 {l1 l2 l3 l4 : Int} {M : Mem} {Q : Int → Mem → Prop} (h : Calls mX9_wrong [(0, l1), (0, l3), (0, l2), (0, l4)] S0 (up2 M 275 8 0) (fun r1 M2 => ((0 ≤ r1 → Calls mX9_layJourney [(2, 275), (0, l1), (0, l2), (0, l3), (0, l4)] S0 M2 (fun r4 M5 => ((r4 = 0 → Q (-5) M5) ∧ (¬ r4 = 0 → Q (M5 275 14) M5)))) ∧ (¬ (0 ≤ r1) → Calls mX9_wrong [(0, l1), (0, l3), (0, l2), (0, l4)] S0 M2 (fun r7 M8 => Q r7 M8))))) : AW mX9_legs 0 [(2, 275), (0, l1), (0, l2), (0, l3), (0, l4)] M Q := by
  refine a_aload_n (pc := 0) dX9_legs_0 (by decide) rfl ?_
  refine a_iconst (pc := 1) dX9_legs_1 (by decide) ?_
  refine a_putI (y := 8) (pc := 2) dX9_legs_2 fl_RX9_87 (by decide) s0_275 rfl rfl (tyX9_ok 8 (by decide)) rfl ?_
  refine a_iload_n (pc := 5) dX9_legs_5 rfl ?_
  refine a_iload_n (pc := 6) dX9_legs_6 rfl ?_
  refine a_iload_n (pc := 7) dX9_legs_7 rfl ?_
  refine a_iload (pc := 8) dX9_legs_8 rfl ?_
  refine p_callS (As := [(0, l1), (0, l3), (0, l2), (0, l4)]) (st := []) (st1 := fun r => [(0, r)])  (pc := 10) dX9_legs_10 ml_RX9_278 (by decide) (Nat.le_of_ble_eq_true rfl) rfl (fun _ => rfl) h (fun r1 M2 h => ?_)
  refine a_if_ge (tgt := 25) (pc := 13) dX9_legs_13 (by decide) (fun hc3 => ?_) (fun hc3 => ?_)
  · replace h := h.1 hc3
    refine a_aload_n (pc := 25) dX9_legs_25 (by decide) rfl ?_
    refine a_iload_n (pc := 26) dX9_legs_26 rfl ?_
    refine a_iload_n (pc := 27) dX9_legs_27 rfl ?_
    refine a_iload_n (pc := 28) dX9_legs_28 rfl ?_
    refine a_iload (pc := 29) dX9_legs_29 rfl ?_
    refine p_callV (As := [(0, l1), (0, l2), (0, l3), (0, l4)]) (st := []) (st1 := fun r => [(0, r)])  (pc := 31) dX9_legs_31 ml_RX9_285 (by decide) s0_275 rfl (by decide) (Nat.le_of_ble_eq_true rfl) rfl (fun _ => rfl) h (fun r4 M5 h => ?_)
    refine a_if_eq (tgt := 44) (pc := 34) dX9_legs_34 (by decide) (fun hc6 => ?_) (fun hc6 => ?_)
    · replace h := h.1 hc6
      refine a_bipush (pc := 44) dX9_legs_44 (by decide) (by decide +kernel) ?_
      exact a_ireti (pc := 46) dX9_legs_46 rfl rfl (Nat.le_of_ble_eq_true rfl) ⟨rfl, h⟩
    · replace h := h.2 hc6
      refine a_aload_n (pc := 37) dX9_legs_37 (by decide) rfl ?_
      refine a_getI (y := 14) (pc := 38) dX9_legs_38 fl_RX9_155 (by decide) s0_275 (Or.inl rfl) rfl ?_
      refine a_goto (tgt := 46) (pc := 41) dX9_legs_41 (by decide) ?_
      exact a_ireti (pc := 46) dX9_legs_46 rfl rfl (Nat.le_of_ble_eq_true rfl) ⟨rfl, h⟩
  · replace h := h.2 hc3
    refine a_iload_n (pc := 16) dX9_legs_16 rfl ?_
    refine a_iload_n (pc := 17) dX9_legs_17 rfl ?_
    refine a_iload_n (pc := 18) dX9_legs_18 rfl ?_
    refine a_iload (pc := 19) dX9_legs_19 rfl ?_
    refine p_callS (As := [(0, l1), (0, l3), (0, l2), (0, l4)]) (st := []) (st1 := fun r => [(0, r)])  (pc := 21) dX9_legs_21 ml_RX9_278 (by decide) (Nat.le_of_ble_eq_true rfl) rfl (fun _ => rfl) h (fun r7 M8 h => ?_)
    exact a_ireti (pc := 24) dX9_legs_24 rfl rfl (Nat.le_of_ble_eq_true rfl) ⟨rfl, h⟩
theorem E_R_legs {l1 l2 l3 l4 : Int} {M : Mem} {Q : Int → Mem → Prop} (h : AW mX9_legs 0 [(2, 275), (0, l1), (0, l2), (0, l3), (0, l4)] M Q) : Calls mX9_legs [(2, 275), (0, l1), (0, l2), (0, l3), (0, l4)] S0 M Q := calls_of (by decide) (by decide) (Nat.le_of_ble_eq_true rfl) rfl h
set_option maxRecDepth 100000 in
set_option maxHeartbeats 4000000 in
theorem B_R_spell_0 {l1 l2 l3 l4 : Int} {M : Mem} {Q : Int → Mem → Prop} (h : Calls mX9_wrong [(0, l1), (0, l3), (0, l2), (0, l4)] S0 (up2 M 275 8 0) (fun r1 M2 => ((0 ≤ r1 → Calls mX9_layJourney [(2, 275), (0, l1), (0, l2), (0, l3), (0, l4)] S0 M2 (fun r4 M5 => ((¬ r4 = 0 → (-2147483648 ≤ (M5 275 14) - 1 ∧ (M5 275 14) - 1 ≤ 2147483647) ∧ AW mX9_spell 53 [(2, 275), (9, 0), (9, 0), (9, 0), (9, 0), (0, (M5 275 14) - 1)] (up2 M5 275 37 0) Q) ∧ (r4 = 0 → Q (-5) M5)))) ∧ (¬ (0 ≤ r1) → Calls mX9_wrong [(0, l1), (0, l3), (0, l2), (0, l4)] S0 M2 (fun r8 M9 => Q r8 M9))))) : AW mX9_spell 0 [(2, 275), (0, l1), (0, l2), (0, l3), (0, l4), (9, 0)] M Q := by
  refine a_aload_n (pc := 0) dX9_spell_0 (by decide) rfl ?_
  refine a_iconst (pc := 1) dX9_spell_1 (by decide) ?_
  refine a_putI (y := 8) (pc := 2) dX9_spell_2 fl_RX9_87 (by decide) s0_275 rfl rfl (tyX9_ok 8 (by decide)) rfl ?_
  refine a_iload_n (pc := 5) dX9_spell_5 rfl ?_
  refine a_iload_n (pc := 6) dX9_spell_6 rfl ?_
  refine a_iload_n (pc := 7) dX9_spell_7 rfl ?_
  refine a_iload (pc := 8) dX9_spell_8 rfl ?_
  refine p_callS (As := [(0, l1), (0, l3), (0, l2), (0, l4)]) (st := []) (st1 := fun r => [(0, r)])  (pc := 10) dX9_spell_10 ml_RX9_278 (by decide) (Nat.le_of_ble_eq_true rfl) rfl (fun _ => rfl) h (fun r1 M2 h => ?_)
  refine a_if_ge (tgt := 25) (pc := 13) dX9_spell_13 (by decide) (fun hc3 => ?_) (fun hc3 => ?_)
  · replace h := h.1 hc3
    refine a_aload_n (pc := 25) dX9_spell_25 (by decide) rfl ?_
    refine a_iload_n (pc := 26) dX9_spell_26 rfl ?_
    refine a_iload_n (pc := 27) dX9_spell_27 rfl ?_
    refine a_iload_n (pc := 28) dX9_spell_28 rfl ?_
    refine a_iload (pc := 29) dX9_spell_29 rfl ?_
    refine p_callV (As := [(0, l1), (0, l2), (0, l3), (0, l4)]) (st := []) (st1 := fun r => [(0, r)])  (pc := 31) dX9_spell_31 ml_RX9_285 (by decide) s0_275 rfl (by decide) (Nat.le_of_ble_eq_true rfl) rfl (fun _ => rfl) h (fun r4 M5 h => ?_)
    refine a_if_ne (tgt := 40) (pc := 34) dX9_spell_34 (by decide) (fun hc6 => ?_) (fun hc6 => ?_)
    · replace h := h.1 hc6
      refine a_aload_n (pc := 40) dX9_spell_40 (by decide) rfl ?_
      refine a_iconst (pc := 41) dX9_spell_41 (by decide) ?_
      refine a_putI (y := 37) (pc := 42) dX9_spell_42 fl_RX9_321 (by decide) s0_275 rfl rfl (tyX9_ok 37 (by decide)) rfl ?_
      refine a_aload_n (pc := 45) dX9_spell_45 (by decide) rfl ?_
      refine a_getI (y := 14) (pc := 46) dX9_spell_46 fl_RX9_155 (by decide) s0_275 (Or.inl rfl) rfl ?_
      refine a_eq (y := M5 275 14) rfl ?_
      refine a_iconst (pc := 49) dX9_spell_49 (by decide) ?_
      have ho7 := h.1
      replace h := h.2
      refine a_isub (pc := 50) dX9_spell_50 ho7 ?_
      refine a_istore (ls1 := [(2, 275), (0, l1), (0, l2), (0, l3), (0, l4), (0, (M5 275 14) - 1)]) (pc := 51) dX9_spell_51 (by decide) (hp1 (t := 0) rfl (by decide)) rfl ?_
      exact a_msk [true, false, false, false, false, true] rfl h
    · replace h := h.2 hc6
      refine a_bipush (pc := 37) dX9_spell_37 (by decide) (by decide +kernel) ?_
      exact a_ireti (pc := 39) dX9_spell_39 rfl rfl (Nat.le_of_ble_eq_true rfl) ⟨rfl, h⟩
  · replace h := h.2 hc3
    refine a_iload_n (pc := 16) dX9_spell_16 rfl ?_
    refine a_iload_n (pc := 17) dX9_spell_17 rfl ?_
    refine a_iload_n (pc := 18) dX9_spell_18 rfl ?_
    refine a_iload (pc := 19) dX9_spell_19 rfl ?_
    refine p_callS (As := [(0, l1), (0, l3), (0, l2), (0, l4)]) (st := []) (st1 := fun r => [(0, r)])  (pc := 21) dX9_spell_21 ml_RX9_278 (by decide) (Nat.le_of_ble_eq_true rfl) rfl (fun _ => rfl) h (fun r8 M9 h => ?_)
    exact a_ireti (pc := 24) dX9_spell_24 rfl rfl (Nat.le_of_ble_eq_true rfl) ⟨rfl, h⟩
set_option maxRecDepth 100000 in
set_option maxHeartbeats 4000000 in
theorem B_R_spell_53 {l5 : Int} {M : Mem} {Q : Int → Mem → Prop} (h : ((l5 < 0 → Q (M 275 37) M) ∧ (¬ (l5 < 0) → Calls mX9_writesLeg [(2, 275), (0, l5)] S0 M (fun r2 M3 => ((l5 ≤ 0 → (-2147483648 ≤ l5 + (-1) ∧ l5 + (-1) ≤ 2147483647) ∧ AW mX9_spell 53 [(2, 275), (9, 0), (9, 0), (9, 0), (9, 0), (0, l5 + (-1))] M3 Q) ∧ (¬ (l5 ≤ 0) → ((0 : Int) ≤ M3 275 37 ∧ M3 275 37 < 200) ∧ (-2147483648 ≤ (M3 275 37) + 1 ∧ (M3 275 37) + 1 ≤ 2147483647) ∧ (-2147483648 ≤ l5 + (-1) ∧ l5 + (-1) ≤ 2147483647) ∧ AW mX9_spell 53 [(2, 275), (9, 0), (9, 0), (9, 0), (9, 0), (0, l5 + (-1))] (up2 (up2 M3 295 (M3 275 37) 32) 275 37 ((M3 275 37) + 1)) Q)))))) : AW mX9_spell 53 [(2, 275), (9, 0), (9, 0), (9, 0), (9, 0), (0, l5)] M Q := by
  refine a_iload (pc := 53) dX9_spell_53 rfl ?_
  refine a_if_lt (tgt := 81) (pc := 55) dX9_spell_55 (by decide) (fun hc1 => ?_) (fun hc1 => ?_)
  · replace h := h.1 hc1
    refine a_aload_n (pc := 81) dX9_spell_81 (by decide) rfl ?_
    refine a_getI (y := 37) (pc := 82) dX9_spell_82 fl_RX9_321 (by decide) s0_275 (Or.inl rfl) rfl ?_
    exact a_ireti (pc := 85) dX9_spell_85 rfl rfl (Nat.le_of_ble_eq_true rfl) ⟨rfl, h⟩
  · replace h := h.2 hc1
    refine a_aload_n (pc := 58) dX9_spell_58 (by decide) rfl ?_
    refine a_iload (pc := 59) dX9_spell_59 rfl ?_
    refine p_callV (As := [(0, l5)]) (st := []) (st1 := fun r => [])  (pc := 61) dX9_spell_61 ml_RX9_330 (by decide) s0_275 rfl (by decide) (Nat.le_of_ble_eq_true rfl) rfl (fun _ => rfl) h (fun r2 M3 h => ?_)
    refine a_iload (pc := 64) dX9_spell_64 rfl ?_
    refine a_if_le (tgt := 75) (pc := 66) dX9_spell_66 (by decide) (fun hc4 => ?_) (fun hc4 => ?_)
    · replace h := h.1 hc4
      have ho5 := h.1
      replace h := h.2
      refine a_iinc (ls1 := [(2, 275), (9, 0), (9, 0), (9, 0), (9, 0), (0, l5 + (-1))]) (pc := 75) dX9_spell_75 rfl (by decide) (hp1 (t := 9) rfl (by decide)) ho5 rfl ?_
      refine a_goto (tgt := 53) (pc := 78) dX9_spell_78 (by decide) ?_
      exact h
    · replace h := h.2 hc4
      refine a_aload_n (pc := 69) dX9_spell_69 (by decide) rfl ?_
      refine a_bipush (pc := 70) dX9_spell_70 (by decide) (by decide +kernel) ?_
      refine p_inlV (Ex := _) (As := [(0, 32)]) (st := []) (st1 := fun r => [])  (pc := 72) dX9_spell_72 ml_RX9_324 (by decide) s0_275 rfl (by decide) (Nat.le_of_ble_eq_true rfl) rfl (fun _ => rfl) (by decide) (by decide) (Nat.le_of_ble_eq_true rfl) rfl ?_
      refine a_aload_n (pc := 0) dX9_writes_0 (by decide) rfl ?_
      refine a_getR (y := 295) (pc := 1) dX9_writes_1 fl_RX9_74 (by decide) s0_275 rfl rfl ?_
      refine a_aload_n (pc := 4) dX9_writes_4 (by decide) rfl ?_
      refine a_getI (y := 37) (pc := 5) dX9_writes_5 fl_RX9_321 (by decide) s0_275 (Or.inl rfl) rfl ?_
      refine a_iload_n (pc := 8) dX9_writes_8 rfl ?_
      have ho6 := h.1
      replace h := h.2
      refine a_iast (pc := 9) dX9_writes_9 (by decide) s0_295 ho6.1 ho6.2 ?_
      refine a_aload_n (pc := 10) dX9_writes_10 (by decide) rfl ?_
      refine a_dup (pc := 11) dX9_writes_11 n21 ?_
      refine a_getI (y := 37) (pc := 12) dX9_writes_12 fl_RX9_321 (by decide) s0_275 (Or.inl rfl) rfl ?_
      refine a_eq (y := M3 275 37) rfl ?_
      refine a_iconst (pc := 15) dX9_writes_15 (by decide) ?_
      have ho7 := h.1
      replace h := h.2
      refine a_iadd (pc := 16) dX9_writes_16 ho7 ?_
      refine a_putI (y := 37) (pc := 17) dX9_writes_17 fl_RX9_321 (by decide) s0_275 rfl rfl (tyX9_ok 37 (by decide)) rfl ?_
      refine a_vret (pc := 20) dX9_writes_20 rfl rfl (Nat.le_of_ble_eq_true rfl) ⟨rfl, ?_⟩
      have ho8 := h.1
      replace h := h.2
      refine a_iinc (ls1 := [(2, 275), (9, 0), (9, 0), (9, 0), (9, 0), (0, l5 + (-1))]) (pc := 75) dX9_spell_75 rfl (by decide) (hp1 (t := 9) rfl (by decide)) ho8 rfl ?_
      refine a_goto (tgt := 53) (pc := 78) dX9_spell_78 (by decide) ?_
      exact h
theorem E_R_spell {l1 l2 l3 l4 : Int} {M : Mem} {Q : Int → Mem → Prop} (h : AW mX9_spell 0 [(2, 275), (0, l1), (0, l2), (0, l3), (0, l4), (9, 0)] M Q) : Calls mX9_spell [(2, 275), (0, l1), (0, l2), (0, l3), (0, l4)] S0 M Q := calls_of (by decide) (by decide) (Nat.le_of_ble_eq_true rfl) rfl h
set_option maxRecDepth 100000 in
set_option maxHeartbeats 4000000 in
theorem B_R_waiting_0 {l1 l2 l3 l4 : Int} {M : Mem} {Q : Int → Mem → Prop} (h : Calls mX9_wrong [(0, l1), (0, l3), (0, l2), (0, l4)] S0 (up2 M 275 8 0) (fun r1 M2 => ((0 ≤ r1 → Calls mX9_layJourney [(2, 275), (0, l1), (0, l2), (0, l3), (0, l4)] S0 M2 (fun r4 M5 => ((¬ r4 = 0 → (-2147483648 ≤ 12 * l4 ∧ 12 * l4 ≤ 2147483647) ∧ (-2147483648 ≤ (12 * l4) + l3 ∧ (12 * l4) + l3 ≤ 2147483647) ∧ ((0 : Int) ≤ (12 * l4) + l3 ∧ (12 * l4) + l3 < 84) ∧ (-2147483648 ≤ (M5 284 ((12 * l4) + l3)) - l2 ∧ (M5 284 ((12 * l4) + l3)) - l2 ≤ 2147483647) ∧ AW mX9_waiting 59 [(2, 275), (9, 0), (9, 0), (9, 0), (9, 0), (0, (M5 284 ((12 * l4) + l3)) - l2), (0, 0)] M5 Q) ∧ (r4 = 0 → Q (-5) M5)))) ∧ (¬ (0 ≤ r1) → Calls mX9_wrong [(0, l1), (0, l3), (0, l2), (0, l4)] S0 M2 (fun r11 M12 => Q r11 M12))))) : AW mX9_waiting 0 [(2, 275), (0, l1), (0, l2), (0, l3), (0, l4), (9, 0), (9, 0)] M Q := by
  refine a_aload_n (pc := 0) dX9_waiting_0 (by decide) rfl ?_
  refine a_iconst (pc := 1) dX9_waiting_1 (by decide) ?_
  refine a_putI (y := 8) (pc := 2) dX9_waiting_2 fl_RX9_87 (by decide) s0_275 rfl rfl (tyX9_ok 8 (by decide)) rfl ?_
  refine a_iload_n (pc := 5) dX9_waiting_5 rfl ?_
  refine a_iload_n (pc := 6) dX9_waiting_6 rfl ?_
  refine a_iload_n (pc := 7) dX9_waiting_7 rfl ?_
  refine a_iload (pc := 8) dX9_waiting_8 rfl ?_
  refine p_callS (As := [(0, l1), (0, l3), (0, l2), (0, l4)]) (st := []) (st1 := fun r => [(0, r)])  (pc := 10) dX9_waiting_10 ml_RX9_278 (by decide) (Nat.le_of_ble_eq_true rfl) rfl (fun _ => rfl) h (fun r1 M2 h => ?_)
  refine a_if_ge (tgt := 25) (pc := 13) dX9_waiting_13 (by decide) (fun hc3 => ?_) (fun hc3 => ?_)
  · replace h := h.1 hc3
    refine a_aload_n (pc := 25) dX9_waiting_25 (by decide) rfl ?_
    refine a_iload_n (pc := 26) dX9_waiting_26 rfl ?_
    refine a_iload_n (pc := 27) dX9_waiting_27 rfl ?_
    refine a_iload_n (pc := 28) dX9_waiting_28 rfl ?_
    refine a_iload (pc := 29) dX9_waiting_29 rfl ?_
    refine p_callV (As := [(0, l1), (0, l2), (0, l3), (0, l4)]) (st := []) (st1 := fun r => [(0, r)])  (pc := 31) dX9_waiting_31 ml_RX9_285 (by decide) s0_275 rfl (by decide) (Nat.le_of_ble_eq_true rfl) rfl (fun _ => rfl) h (fun r4 M5 h => ?_)
    refine a_if_ne (tgt := 40) (pc := 34) dX9_waiting_34 (by decide) (fun hc6 => ?_) (fun hc6 => ?_)
    · replace h := h.1 hc6
      refine a_aload_n (pc := 40) dX9_waiting_40 (by decide) rfl ?_
      refine a_getR (y := 284) (pc := 41) dX9_waiting_41 fl_RX9_41 (by decide) s0_275 rfl rfl ?_
      refine a_bipush (pc := 44) dX9_waiting_44 (by decide) (by decide +kernel) ?_
      refine a_iload (pc := 46) dX9_waiting_46 rfl ?_
      have ho7 := h.1
      replace h := h.2
      refine a_imul (pc := 48) dX9_waiting_48 ho7 ?_
      refine a_iload_n (pc := 49) dX9_waiting_49 rfl ?_
      have ho8 := h.1
      replace h := h.2
      refine a_iadd (pc := 50) dX9_waiting_50 ho8 ?_
      have ho9 := h.1
      replace h := h.2
      refine a_iald (pc := 51) dX9_waiting_51 (by decide) s0_284 ho9.1 ho9.2 ?_
      refine a_iload_n (pc := 52) dX9_waiting_52 rfl ?_
      have ho10 := h.1
      replace h := h.2
      refine a_isub (pc := 53) dX9_waiting_53 ho10 ?_
      refine a_istore (ls1 := [(2, 275), (0, l1), (0, l2), (0, l3), (0, l4), (0, (M5 284 ((12 * l4) + l3)) - l2), (9, 0)]) (pc := 54) dX9_waiting_54 (by decide) (hp1 (t := 0) rfl (by decide)) rfl ?_
      refine a_iconst (pc := 56) dX9_waiting_56 (by decide) ?_
      refine a_istore (ls1 := [(2, 275), (0, l1), (0, l2), (0, l3), (0, l4), (0, (M5 284 ((12 * l4) + l3)) - l2), (0, 0)]) (pc := 57) dX9_waiting_57 (by decide) (hp1 (t := 0) rfl (by decide)) rfl ?_
      exact a_msk [true, false, false, false, false, true, true] rfl h
    · replace h := h.2 hc6
      refine a_bipush (pc := 37) dX9_waiting_37 (by decide) (by decide +kernel) ?_
      exact a_ireti (pc := 39) dX9_waiting_39 rfl rfl (Nat.le_of_ble_eq_true rfl) ⟨rfl, h⟩
  · replace h := h.2 hc3
    refine a_iload_n (pc := 16) dX9_waiting_16 rfl ?_
    refine a_iload_n (pc := 17) dX9_waiting_17 rfl ?_
    refine a_iload_n (pc := 18) dX9_waiting_18 rfl ?_
    refine a_iload (pc := 19) dX9_waiting_19 rfl ?_
    refine p_callS (As := [(0, l1), (0, l3), (0, l2), (0, l4)]) (st := []) (st1 := fun r => [(0, r)])  (pc := 21) dX9_waiting_21 ml_RX9_278 (by decide) (Nat.le_of_ble_eq_true rfl) rfl (fun _ => rfl) h (fun r11 M12 h => ?_)
    exact a_ireti (pc := 24) dX9_waiting_24 rfl rfl (Nat.le_of_ble_eq_true rfl) ⟨rfl, h⟩
set_option maxRecDepth 100000 in
set_option maxHeartbeats 4000000 in
theorem B_R_waiting_59 {l5 l6 : Int} {M : Mem} {Q : Int → Mem → Prop} (h : (((M 275 14) ≤ l6 → Q l5 M) ∧ (¬ ((M 275 14) ≤ l6) → ((0 : Int) ≤ l6 ∧ l6 < 16) ∧ (-2147483648 ≤ (M 290 l6) - (M 289 l6) ∧ (M 290 l6) - (M 289 l6) ≤ 2147483647) ∧ (-2147483648 ≤ l5 - ((M 290 l6) - (M 289 l6)) ∧ l5 - ((M 290 l6) - (M 289 l6)) ≤ 2147483647) ∧ (-2147483648 ≤ l6 + 1 ∧ l6 + 1 ≤ 2147483647) ∧ AW mX9_waiting 59 [(2, 275), (9, 0), (9, 0), (9, 0), (9, 0), (0, l5 - ((M 290 l6) - (M 289 l6))), (0, l6 + 1)] M Q))) : AW mX9_waiting 59 [(2, 275), (9, 0), (9, 0), (9, 0), (9, 0), (0, l5), (0, l6)] M Q := by
  refine a_iload (pc := 59) dX9_waiting_59 rfl ?_
  refine a_aload_n (pc := 61) dX9_waiting_61 (by decide) rfl ?_
  refine a_getI (y := 14) (pc := 62) dX9_waiting_62 fl_RX9_155 (by decide) s0_275 (Or.inl rfl) rfl ?_
  refine a_icmp_ge (tgt := 94) (pc := 65) dX9_waiting_65 (by decide) (fun hc1 => ?_) (fun hc1 => ?_)
  · replace h := h.1 hc1
    refine a_iload (pc := 94) dX9_waiting_94 rfl ?_
    exact a_ireti (pc := 96) dX9_waiting_96 rfl rfl (Nat.le_of_ble_eq_true rfl) ⟨rfl, h⟩
  · replace h := h.2 hc1
    refine a_iload (pc := 68) dX9_waiting_68 rfl ?_
    refine a_aload_n (pc := 70) dX9_waiting_70 (by decide) rfl ?_
    refine a_getR (y := 290) (pc := 71) dX9_waiting_71 fl_RX9_59 (by decide) s0_275 rfl rfl ?_
    refine a_iload (pc := 74) dX9_waiting_74 rfl ?_
    have ho2 := h.1
    replace h := h.2
    refine a_iald (pc := 76) dX9_waiting_76 (by decide) s0_290 ho2.1 ho2.2 ?_
    refine a_aload_n (pc := 77) dX9_waiting_77 (by decide) rfl ?_
    refine a_getR (y := 289) (pc := 78) dX9_waiting_78 fl_RX9_56 (by decide) s0_275 rfl rfl ?_
    refine a_iload (pc := 81) dX9_waiting_81 rfl ?_
    refine a_iald (pc := 83) dX9_waiting_83 (by decide) s0_289 ho2.1 ho2.2 ?_
    have ho3 := h.1
    replace h := h.2
    refine a_isub (pc := 84) dX9_waiting_84 ho3 ?_
    have ho4 := h.1
    replace h := h.2
    refine a_isub (pc := 85) dX9_waiting_85 ho4 ?_
    refine a_istore (ls1 := [(2, 275), (9, 0), (9, 0), (9, 0), (9, 0), (0, l5 - ((M 290 l6) - (M 289 l6))), (0, l6)]) (pc := 86) dX9_waiting_86 (by decide) (hp1 (t := 9) rfl (by decide)) rfl ?_
    have ho5 := h.1
    replace h := h.2
    refine a_iinc (ls1 := [(2, 275), (9, 0), (9, 0), (9, 0), (9, 0), (0, l5 - ((M 290 l6) - (M 289 l6))), (0, l6 + 1)]) (pc := 88) dX9_waiting_88 rfl (by decide) (hp1 (t := 0) rfl (by decide)) ho5 rfl ?_
    refine a_goto (tgt := 59) (pc := 91) dX9_waiting_91 (by decide) ?_
    exact h
theorem E_R_waiting {l1 l2 l3 l4 : Int} {M : Mem} {Q : Int → Mem → Prop} (h : AW mX9_waiting 0 [(2, 275), (0, l1), (0, l2), (0, l3), (0, l4), (9, 0), (9, 0)] M Q) : Calls mX9_waiting [(2, 275), (0, l1), (0, l2), (0, l3), (0, l4)] S0 M Q := calls_of (by decide) (by decide) (Nat.le_of_ble_eq_true rfl) rfl h
