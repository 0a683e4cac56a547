set_option maxRecDepth 100000 in
set_option maxHeartbeats 4000000 in
theorem B_Reader_readTrip_0 {M : Mem} {Q : Int → Mem → Prop} (h : (-2147483648 ≤ (M 1 0) - 1 ∧ (M 1 0) - 1 ≤ 2147483647) ∧ Calls mX4_takeNumber [(2, 267), (0, 1), (0, 0), (0, (M 1 0) - 1)] S0 M (fun r2 M3 => ((¬ r2 = 0 → ((0 : Int) ≤ M3 267 4 ∧ M3 267 4 < 8) ∧ (((M3 4 (M3 267 4)) < 6 → (((M3 267 2) < 0 → Q 0 (up2 M3 267 6 (M3 267 2))) ∧ (¬ ((M3 267 2) < 0) → (((M3 263 1) ≤ (M3 267 2) → Q 0 (up2 M3 267 6 (M3 267 2))) ∧ (¬ ((M3 263 1) ≤ (M3 267 2)) → ((0 : Int) ≤ M3 267 2 ∧ M3 267 2 < 80) ∧ (((M3 264 (M3 267 2)) = 58 → (-2147483648 ≤ (M3 267 2) + 1 ∧ (M3 267 2) + 1 ≤ 2147483647) ∧ Calls mX4_takeNumber [(2, 267), (0, 4), (0, 0), (0, 1999)] S0 (up2 M3 267 2 ((M3 267 2) + 1)) (fun r12 M13 => ((¬ r12 = 0 → Calls mX3_beginTrip [(2, 1), (0, M3 267 4), (0, M13 267 4)] S0 M13 (fun r15 M16 => AW mX4_readTrip 90 [(2, 267), (0, M3 267 4), (0, M3 4 (M3 267 4)), (0, M13 267 4), (0, 1)] M16 Q)) ∧ (r12 = 0 → Q 0 M13)))) ∧ (¬ (M3 264 (M3 267 2)) = 58 → Q 0 (up2 M3 267 6 (M3 267 2))))))))) ∧ (¬ ((M3 4 (M3 267 4)) < 6) → Q 0 (up2 M3 267 6 (M3 267 3))))) ∧ (r2 = 0 → Q 0 M3)))) : AW mX4_readTrip 0 [(2, 267), (9, 0), (9, 0), (9, 0), (9, 0)] M Q := by
  refine a_aload_n (pc := 0) dX4_readTrip_0 (by decide) rfl ?_
  refine a_iconst (pc := 1) dX4_readTrip_1 (by decide) ?_
  refine a_iconst (pc := 2) dX4_readTrip_2 (by decide) ?_
  refine a_aload_n (pc := 3) dX4_readTrip_3 (by decide) rfl ?_
  refine a_getR (y := 1) (pc := 4) dX4_readTrip_4 fl_RX4_9 (by decide) s0_267 rfl rfl ?_
  refine a_getI (y := 0) (pc := 7) dX4_readTrip_7 fl_RX4_70 (by decide) s0_1 (Or.inl rfl) rfl ?_
  refine a_iconst (pc := 10) dX4_readTrip_10 (by decide) ?_
  have ho1 := h.1
  replace h := h.2
  refine a_isub (pc := 11) dX4_readTrip_11 ho1 ?_
  refine p_callV (As := [(0, 1), (0, 0), (0, (M 1 0) - 1)]) (st := []) (st1 := fun r => [(0, r)])  (pc := 12) dX4_readTrip_12 ml_RX4_75 (by decide) s0_267 rfl (by decide) (Nat.le_of_ble_eq_true rfl) rfl (fun _ => rfl) h (fun r2 M3 h => ?_)
  refine a_if_ne (tgt := 20) (pc := 15) dX4_readTrip_15 (by decide) (fun hc4 => ?_) (fun hc4 => ?_)
  · replace h := h.1 hc4
    refine a_aload_n (pc := 20) dX4_readTrip_20 (by decide) rfl ?_
    refine a_getI (y := 4) (pc := 21) dX4_readTrip_21 fl_RX4_26 (by decide) s0_267 (Or.inl rfl) rfl ?_
    refine a_istore_n (ls1 := [(2, 267), (0, M3 267 4), (9, 0), (9, 0), (9, 0)]) (pc := 24) dX4_readTrip_24 (by decide) (hp1 (t := 2) rfl (by decide)) rfl ?_
    refine a_aload_n (pc := 25) dX4_readTrip_25 (by decide) rfl ?_
    refine a_getR (y := 1) (pc := 26) dX4_readTrip_26 fl_RX4_9 (by decide) s0_267 rfl rfl ?_
    refine a_getR (y := 4) (pc := 29) dX4_readTrip_29 fl_RX4_97 (by decide) s0_1 rfl rfl ?_
    refine a_iload_n (pc := 32) dX4_readTrip_32 rfl ?_
    have ho5 := h.1
    replace h := h.2
    refine a_iald (pc := 33) dX4_readTrip_33 (by decide) s0_4 ho5.1 ho5.2 ?_
    refine a_istore_n (ls1 := [(2, 267), (0, M3 267 4), (0, M3 4 (M3 267 4)), (9, 0), (9, 0)]) (pc := 34) dX4_readTrip_34 (by decide) (hp1 (t := 0) rfl (by decide)) rfl ?_
    refine a_iload_n (pc := 35) dX4_readTrip_35 rfl ?_
    refine a_bipush (pc := 36) dX4_readTrip_36 (by decide) (by decide +kernel) ?_
    refine a_icmp_lt (tgt := 50) (pc := 38) dX4_readTrip_38 (by decide) (fun hc6 => ?_) (fun hc6 => ?_)
    · replace h := h.1 hc6
      refine a_aload_n (pc := 50) dX4_readTrip_50 (by decide) rfl ?_
      refine a_bipush (pc := 51) dX4_readTrip_51 (by decide) (by decide +kernel) ?_
      refine p_inlV (Ex := _) (As := [(0, 58)]) (st := []) (st1 := fun r => [(0, r)])  (pc := 53) dX4_readTrip_53 ml_RX4_44 (by decide) s0_267 rfl (by decide) (Nat.le_of_ble_eq_true rfl) rfl (fun _ => rfl) (by decide) (by decide) (Nat.le_of_ble_eq_true rfl) rfl ?_
      refine a_aload_n (pc := 0) dX4_takeByte_0 (by decide) rfl ?_
      refine a_getR (y := 263) (pc := 1) dX4_takeByte_1 fl_RX4_15 (by decide) s0_267 rfl rfl ?_
      refine a_aload_n (pc := 4) dX4_takeByte_4 (by decide) rfl ?_
      refine a_getI (y := 2) (pc := 5) dX4_takeByte_5 fl_RX4_19 (by decide) s0_267 (Or.inl rfl) rfl ?_
      refine p_inlV (Ex := _) (As := [(0, M3 267 2)]) (st := []) (st1 := fun r => [(0, r)])  (pc := 8) dX4_takeByte_8 ml_RX4_48 (by decide) s0_263 rfl (by decide) (Nat.le_of_ble_eq_true rfl) rfl (fun _ => rfl) (by decide) (by decide) (Nat.le_of_ble_eq_true rfl) rfl ?_
      refine a_iload_n (pc := 0) dX7_byteAt_0 rfl ?_
      refine a_if_lt (tgt := 21) (pc := 1) dX7_byteAt_1 (by decide) (fun hc7 => ?_) (fun hc7 => ?_)
      · replace h := h.1 hc7
        refine a_iconst (pc := 21) dX7_byteAt_21 (by decide) ?_
        refine a_ireti (pc := 22) dX7_byteAt_22 rfl rfl (Nat.le_of_ble_eq_true rfl) ⟨rfl, ?_⟩
        refine a_iload_n (pc := 11) dX4_takeByte_11 rfl ?_
        refine a_icmp_eq (tgt := 24) (pc := 12) dX4_takeByte_12 (by decide) (fun hc => absurd hc (by decide)) (fun _ => ?_)
        refine a_aload_n (pc := 15) dX4_takeByte_15 (by decide) rfl ?_
        refine a_aload_n (pc := 16) dX4_takeByte_16 (by decide) rfl ?_
        refine a_getI (y := 2) (pc := 17) dX4_takeByte_17 fl_RX4_19 (by decide) s0_267 (Or.inl rfl) rfl ?_
        refine p_inlV (Ex := _) (As := [(0, M3 267 2)]) (st := []) (st1 := fun r => [(0, r)])  (pc := 20) dX4_takeByte_20 ml_RX4_52 (by decide) s0_267 rfl (by decide) (Nat.le_of_ble_eq_true rfl) rfl (fun _ => rfl) (by decide) (by decide) (Nat.le_of_ble_eq_true rfl) rfl ?_
        refine a_aload_n (pc := 0) dX4_failAt_0 (by decide) rfl ?_
        refine a_iload_n (pc := 1) dX4_failAt_1 rfl ?_
        refine a_putI (y := 6) (pc := 2) dX4_failAt_2 fl_RX4_32 (by decide) s0_267 rfl rfl (tyX4_ok 6 (by decide)) rfl ?_
        refine a_iconst (pc := 5) dX4_failAt_5 (by decide) ?_
        refine a_iretz (pc := 6) dX4_failAt_6 rfl rfl (Nat.le_of_ble_eq_true rfl) (by decide) ⟨rfl, ?_⟩
        refine a_iretz (pc := 23) dX4_takeByte_23 rfl rfl (Nat.le_of_ble_eq_true rfl) (by decide) ⟨rfl, ?_⟩
        refine a_if_eq (tgt := 71) (pc := 56) dX4_readTrip_56 (by decide) (fun _ => ?_) (fun hc => absurd (by decide) hc)
        refine a_iconst (pc := 71) dX4_readTrip_71 (by decide) ?_
        exact a_iretz (pc := 72) dX4_readTrip_72 rfl rfl (Nat.le_of_ble_eq_true rfl) (by decide) ⟨rfl, h⟩
      · replace h := h.2 hc7
        refine a_iload_n (pc := 4) dX7_byteAt_4 rfl ?_
        refine a_aload_n (pc := 5) dX7_byteAt_5 (by decide) rfl ?_
        refine a_getI (y := 1) (pc := 6) dX7_byteAt_6 fl_RX7_19 (by decide) s0_263 (Or.inl rfl) rfl ?_
        refine a_icmp_ge (tgt := 21) (pc := 9) dX7_byteAt_9 (by decide) (fun hc8 => ?_) (fun hc8 => ?_)
        · replace h := h.1 hc8
          refine a_iconst (pc := 21) dX7_byteAt_21 (by decide) ?_
          refine a_ireti (pc := 22) dX7_byteAt_22 rfl rfl (Nat.le_of_ble_eq_true rfl) ⟨rfl, ?_⟩
          refine a_iload_n (pc := 11) dX4_takeByte_11 rfl ?_
          refine a_icmp_eq (tgt := 24) (pc := 12) dX4_takeByte_12 (by decide) (fun hc => absurd hc (by decide)) (fun _ => ?_)
          refine a_aload_n (pc := 15) dX4_takeByte_15 (by decide) rfl ?_
          refine a_aload_n (pc := 16) dX4_takeByte_16 (by decide) rfl ?_
          refine a_getI (y := 2) (pc := 17) dX4_takeByte_17 fl_RX4_19 (by decide) s0_267 (Or.inl rfl) rfl ?_
          refine p_inlV (Ex := _) (As := [(0, M3 267 2)]) (st := []) (st1 := fun r => [(0, r)])  (pc := 20) dX4_takeByte_20 ml_RX4_52 (by decide) s0_267 rfl (by decide) (Nat.le_of_ble_eq_true rfl) rfl (fun _ => rfl) (by decide) (by decide) (Nat.le_of_ble_eq_true rfl) rfl ?_
          refine a_aload_n (pc := 0) dX4_failAt_0 (by decide) rfl ?_
          refine a_iload_n (pc := 1) dX4_failAt_1 rfl ?_
          refine a_putI (y := 6) (pc := 2) dX4_failAt_2 fl_RX4_32 (by decide) s0_267 rfl rfl (tyX4_ok 6 (by decide)) rfl ?_
          refine a_iconst (pc := 5) dX4_failAt_5 (by decide) ?_
          refine a_iretz (pc := 6) dX4_failAt_6 rfl rfl (Nat.le_of_ble_eq_true rfl) (by decide) ⟨rfl, ?_⟩
          refine a_iretz (pc := 23) dX4_takeByte_23 rfl rfl (Nat.le_of_ble_eq_true rfl) (by decide) ⟨rfl, ?_⟩
          refine a_if_eq (tgt := 71) (pc := 56) dX4_readTrip_56 (by decide) (fun _ => ?_) (fun hc => absurd (by decide) hc)
          refine a_iconst (pc := 71) dX4_readTrip_71 (by decide) ?_
          exact a_iretz (pc := 72) dX4_readTrip_72 rfl rfl (Nat.le_of_ble_eq_true rfl) (by decide) ⟨rfl, h⟩
        · replace h := h.2 hc8
          refine a_aload_n (pc := 12) dX7_byteAt_12 (by decide) rfl ?_
          refine a_getR (y := 264) (pc := 13) dX7_byteAt_13 fl_RX7_13 (by decide) s0_263 rfl rfl ?_
          refine a_iload_n (pc := 16) dX7_byteAt_16 rfl ?_
          have ho9 := h.1
          replace h := h.2
          refine a_iald (pc := 17) dX7_byteAt_17 (by decide) s0_264 ho9.1 ho9.2 ?_
          refine a_goto (tgt := 22) (pc := 18) dX7_byteAt_18 (by decide) ?_
          refine a_ireti (pc := 22) dX7_byteAt_22 rfl rfl (Nat.le_of_ble_eq_true rfl) ⟨rfl, ?_⟩
          refine a_iload_n (pc := 11) dX4_takeByte_11 rfl ?_
          refine a_icmp_eq (tgt := 24) (pc := 12) dX4_takeByte_12 (by decide) (fun hc10 => ?_) (fun hc10 => ?_)
          · replace h := h.1 hc10
            refine a_aload_n (pc := 24) dX4_takeByte_24 (by decide) rfl ?_
            refine a_dup (pc := 25) dX4_takeByte_25 n21 ?_
            refine a_getI (y := 2) (pc := 26) dX4_takeByte_26 fl_RX4_19 (by decide) s0_267 (Or.inl rfl) rfl ?_
            refine a_iconst (pc := 29) dX4_takeByte_29 (by decide) ?_
            have ho11 := h.1
            replace h := h.2
            refine a_iadd (pc := 30) dX4_takeByte_30 ho11 ?_
            refine a_putI (y := 2) (pc := 31) dX4_takeByte_31 fl_RX4_19 (by decide) s0_267 rfl rfl (tyX4_ok 2 (by decide)) rfl ?_
            refine a_iconst (pc := 34) dX4_takeByte_34 (by decide) ?_
            refine a_iretz (pc := 35) dX4_takeByte_35 rfl rfl (Nat.le_of_ble_eq_true rfl) (by decide) ⟨rfl, ?_⟩
            refine a_if_eq (tgt := 71) (pc := 56) dX4_readTrip_56 (by decide) (fun hc => absurd hc (by decide)) (fun _ => ?_)
            refine a_aload_n (pc := 59) dX4_readTrip_59 (by decide) rfl ?_
            refine a_iconst (pc := 60) dX4_readTrip_60 (by decide) ?_
            refine a_iconst (pc := 61) dX4_readTrip_61 (by decide) ?_
            refine a_sipush (pc := 62) dX4_readTrip_62 (by decide) (by decide +kernel) ?_
            refine p_callV (As := [(0, 4), (0, 0), (0, 1999)]) (st := []) (st1 := fun r => [(0, r)])  (pc := 65) dX4_readTrip_65 ml_RX4_75 (by decide) s0_267 rfl (by decide) (Nat.le_of_ble_eq_true rfl) rfl (fun _ => rfl) h (fun r12 M13 h => ?_)
            refine a_if_ne (tgt := 73) (pc := 68) dX4_readTrip_68 (by decide) (fun hc14 => ?_) (fun hc14 => ?_)
            · replace h := h.1 hc14
              refine a_aload_n (pc := 73) dX4_readTrip_73 (by decide) rfl ?_
              refine a_getI (y := 4) (pc := 74) dX4_readTrip_74 fl_RX4_26 (by decide) s0_267 (Or.inl rfl) rfl ?_
              refine a_istore_n (ls1 := [(2, 267), (0, M3 267 4), (0, M3 4 (M3 267 4)), (0, M13 267 4), (9, 0)]) (pc := 77) dX4_readTrip_77 (by decide) (hp1 (t := 0) rfl (by decide)) rfl ?_
              refine a_aload_n (pc := 78) dX4_readTrip_78 (by decide) rfl ?_
              refine a_getR (y := 1) (pc := 79) dX4_readTrip_79 fl_RX4_9 (by decide) s0_267 rfl rfl ?_
              refine a_iload_n (pc := 82) dX4_readTrip_82 rfl ?_
              refine a_iload_n (pc := 83) dX4_readTrip_83 rfl ?_
              refine p_callV (As := [(0, M3 267 4), (0, M13 267 4)]) (st := []) (st1 := fun r => [])  (pc := 84) dX4_readTrip_84 ml_RX4_101 (by decide) s0_1 rfl (by decide) (Nat.le_of_ble_eq_true rfl) rfl (fun _ => rfl) h (fun r15 M16 h => ?_)
              refine a_iconst (pc := 87) dX4_readTrip_87 (by decide) ?_
              refine a_istore (ls1 := [(2, 267), (0, M3 267 4), (0, M3 4 (M3 267 4)), (0, M13 267 4), (0, 1)]) (pc := 88) dX4_readTrip_88 (by decide) (hp1 (t := 0) rfl (by decide)) rfl ?_
              exact h
            · replace h := h.2 hc14
              refine a_iconst (pc := 71) dX4_readTrip_71 (by decide) ?_
              exact a_iretz (pc := 72) dX4_readTrip_72 rfl rfl (Nat.le_of_ble_eq_true rfl) (by decide) ⟨rfl, h⟩
          · replace h := h.2 hc10
            refine a_aload_n (pc := 15) dX4_takeByte_15 (by decide) rfl ?_
            refine a_aload_n (pc := 16) dX4_takeByte_16 (by decide) rfl ?_
            refine a_getI (y := 2) (pc := 17) dX4_takeByte_17 fl_RX4_19 (by decide) s0_267 (Or.inl rfl) rfl ?_
            refine p_inlV (Ex := _) (As := [(0, M3 267 2)]) (st := []) (st1 := fun r => [(0, r)])  (pc := 20) dX4_takeByte_20 ml_RX4_52 (by decide) s0_267 rfl (by decide) (Nat.le_of_ble_eq_true rfl) rfl (fun _ => rfl) (by decide) (by decide) (Nat.le_of_ble_eq_true rfl) rfl ?_
            refine a_aload_n (pc := 0) dX4_failAt_0 (by decide) rfl ?_
            refine a_iload_n (pc := 1) dX4_failAt_1 rfl ?_
            refine a_putI (y := 6) (pc := 2) dX4_failAt_2 fl_RX4_32 (by decide) s0_267 rfl rfl (tyX4_ok 6 (by decide)) rfl ?_
            refine a_iconst (pc := 5) dX4_failAt_5 (by decide) ?_
            refine a_iretz (pc := 6) dX4_failAt_6 rfl rfl (Nat.le_of_ble_eq_true rfl) (by decide) ⟨rfl, ?_⟩
            refine a_iretz (pc := 23) dX4_takeByte_23 rfl rfl (Nat.le_of_ble_eq_true rfl) (by decide) ⟨rfl, ?_⟩
            refine a_if_eq (tgt := 71) (pc := 56) dX4_readTrip_56 (by decide) (fun _ => ?_) (fun hc => absurd (by decide) hc)
            refine a_iconst (pc := 71) dX4_readTrip_71 (by decide) ?_
            exact a_iretz (pc := 72) dX4_readTrip_72 rfl rfl (Nat.le_of_ble_eq_true rfl) (by decide) ⟨rfl, h⟩
    · replace h := h.2 hc6
      refine a_aload_n (pc := 41) dX4_readTrip_41 (by decide) rfl ?_
      refine a_aload_n (pc := 42) dX4_readTrip_42 (by decide) rfl ?_
      refine a_getI (y := 3) (pc := 43) dX4_readTrip_43 fl_RX4_23 (by decide) s0_267 (Or.inl rfl) rfl ?_
      refine p_inlV (Ex := _) (As := [(0, M3 267 3)]) (st := []) (st1 := fun r => [(0, r)])  (pc := 46) dX4_readTrip_46 ml_RX4_52 (by decide) s0_267 rfl (by decide) (Nat.le_of_ble_eq_true rfl) rfl (fun _ => rfl) (by decide) (by decide) (Nat.le_of_ble_eq_true rfl) rfl ?_
      refine a_aload_n (pc := 0) dX4_failAt_0 (by decide) rfl ?_
      refine a_iload_n (pc := 1) dX4_failAt_1 rfl ?_
      refine a_putI (y := 6) (pc := 2) dX4_failAt_2 fl_RX4_32 (by decide) s0_267 rfl rfl (tyX4_ok 6 (by decide)) rfl ?_
      refine a_iconst (pc := 5) dX4_failAt_5 (by decide) ?_
      refine a_iretz (pc := 6) dX4_failAt_6 rfl rfl (Nat.le_of_ble_eq_true rfl) (by decide) ⟨rfl, ?_⟩
      exact a_iretz (pc := 49) dX4_readTrip_49 rfl rfl (Nat.le_of_ble_eq_true rfl) (by decide) ⟨rfl, h⟩
  · replace h := h.2 hc4
    refine a_iconst (pc := 18) dX4_readTrip_18 (by decide) ?_
    exact a_iretz (pc := 19) dX4_readTrip_19 rfl rfl (Nat.le_of_ble_eq_true rfl) (by decide) ⟨rfl, h⟩
set_option maxRecDepth 100000 in
set_option maxHeartbeats 4000000 in
theorem B_Reader_readTrip_90 {l1 l2 l3 l4 : Int} {M : Mem} {Q : Int → Mem → Prop} (h : ((0 : Int) ≤ l1 ∧ l1 < 8) ∧ (((M 3 l1) ≤ l4 → Q 1 M) ∧ (¬ ((M 3 l1) ≤ l4) → (((M 267 2) < 0 → Q 0 (up2 M 267 6 (M 267 2))) ∧ (¬ ((M 267 2) < 0) → (((M 263 1) ≤ (M 267 2) → Q 0 (up2 M 267 6 (M 267 2))) ∧ (¬ ((M 263 1) ≤ (M 267 2)) → ((0 : Int) ≤ M 267 2 ∧ M 267 2 < 80) ∧ (((M 264 (M 267 2)) = 43 → (-2147483648 ≤ (M 267 2) + 1 ∧ (M 267 2) + 1 ≤ 2147483647) ∧ (-2147483648 ≤ 1999 - l3 ∧ 1999 - l3 ≤ 2147483647) ∧ Calls mX4_takeNumber [(2, 267), (0, 3), (0, 1), (0, 1999 - l3)] S0 (up2 M 267 2 ((M 267 2) + 1)) (fun r9 M10 => ((¬ r9 = 0 → (-2147483648 ≤ l3 + (M10 267 4) ∧ l3 + (M10 267 4) ≤ 2147483647) ∧ (-2147483648 ≤ l1 * 6 ∧ l1 * 6 ≤ 2147483647) ∧ (-2147483648 ≤ (l1 * 6) + l2 ∧ (l1 * 6) + l2 ≤ 2147483647) ∧ ((0 : Int) ≤ (l1 * 6) + l2 ∧ (l1 * 6) + l2 < 48) ∧ ((0 : Int) ≤ l4 ∧ l4 < 6) ∧ (-2147483648 ≤ l4 + 1 ∧ l4 + 1 ≤ 2147483647) ∧ AW mX4_readTrip 90 [(2, 267), (0, l1), (0, l2), (0, l3 + (M10 267 4)), (0, l4 + 1)] (up2 M10 (15 + ((l1 * 6) + l2)) l4 (l3 + (M10 267 4))) Q) ∧ (r9 = 0 → Q 0 M10)))) ∧ (¬ (M 264 (M 267 2)) = 43 → Q 0 (up2 M 267 6 (M 267 2))))))))))) : AW mX4_readTrip 90 [(2, 267), (0, l1), (0, l2), (0, l3), (0, l4)] M Q := by
  refine a_iload (pc := 90) dX4_readTrip_90 rfl ?_
  refine a_aload_n (pc := 92) dX4_readTrip_92 (by decide) rfl ?_
  refine a_getR (y := 1) (pc := 93) dX4_readTrip_93 fl_RX4_9 (by decide) s0_267 rfl rfl ?_
  refine a_getR (y := 3) (pc := 96) dX4_readTrip_96 fl_RX4_104 (by decide) s0_1 rfl rfl ?_
  refine a_iload_n (pc := 99) dX4_readTrip_99 rfl ?_
  have ho1 := h.1
  replace h := h.2
  refine a_iald (pc := 100) dX4_readTrip_100 (by decide) s0_3 ho1.1 ho1.2 ?_
  refine a_icmp_ge (tgt := 154) (pc := 101) dX4_readTrip_101 (by decide) (fun hc2 => ?_) (fun hc2 => ?_)
  · replace h := h.1 hc2
    refine a_iconst (pc := 154) dX4_readTrip_154 (by decide) ?_
    exact a_iretz (pc := 155) dX4_readTrip_155 rfl rfl (Nat.le_of_ble_eq_true rfl) (by decide) ⟨rfl, h⟩
  · replace h := h.2 hc2
    refine a_aload_n (pc := 104) dX4_readTrip_104 (by decide) rfl ?_
    refine a_bipush (pc := 105) dX4_readTrip_105 (by decide) (by decide +kernel) ?_
    refine p_inlV (Ex := _) (As := [(0, 43)]) (st := []) (st1 := fun r => [(0, r)])  (pc := 107) dX4_readTrip_107 ml_RX4_44 (by decide) s0_267 rfl (by decide) (Nat.le_of_ble_eq_true rfl) rfl (fun _ => rfl) (by decide) (by decide) (Nat.le_of_ble_eq_true rfl) rfl ?_
    refine a_aload_n (pc := 0) dX4_takeByte_0 (by decide) rfl ?_
    refine a_getR (y := 263) (pc := 1) dX4_takeByte_1 fl_RX4_15 (by decide) s0_267 rfl rfl ?_
    refine a_aload_n (pc := 4) dX4_takeByte_4 (by decide) rfl ?_
    refine a_getI (y := 2) (pc := 5) dX4_takeByte_5 fl_RX4_19 (by decide) s0_267 (Or.inl rfl) rfl ?_
    refine p_inlV (Ex := _) (As := [(0, M 267 2)]) (st := []) (st1 := fun r => [(0, r)])  (pc := 8) dX4_takeByte_8 ml_RX4_48 (by decide) s0_263 rfl (by decide) (Nat.le_of_ble_eq_true rfl) rfl (fun _ => rfl) (by decide) (by decide) (Nat.le_of_ble_eq_true rfl) rfl ?_
    refine a_iload_n (pc := 0) dX7_byteAt_0 rfl ?_
    refine a_if_lt (tgt := 21) (pc := 1) dX7_byteAt_1 (by decide) (fun hc3 => ?_) (fun hc3 => ?_)
    · replace h := h.1 hc3
      refine a_iconst (pc := 21) dX7_byteAt_21 (by decide) ?_
      refine a_ireti (pc := 22) dX7_byteAt_22 rfl rfl (Nat.le_of_ble_eq_true rfl) ⟨rfl, ?_⟩
      refine a_iload_n (pc := 11) dX4_takeByte_11 rfl ?_
      refine a_icmp_eq (tgt := 24) (pc := 12) dX4_takeByte_12 (by decide) (fun hc => absurd hc (by decide)) (fun _ => ?_)
      refine a_aload_n (pc := 15) dX4_takeByte_15 (by decide) rfl ?_
      refine a_aload_n (pc := 16) dX4_takeByte_16 (by decide) rfl ?_
      refine a_getI (y := 2) (pc := 17) dX4_takeByte_17 fl_RX4_19 (by decide) s0_267 (Or.inl rfl) rfl ?_
      refine p_inlV (Ex := _) (As := [(0, M 267 2)]) (st := []) (st1 := fun r => [(0, r)])  (pc := 20) dX4_takeByte_20 ml_RX4_52 (by decide) s0_267 rfl (by decide) (Nat.le_of_ble_eq_true rfl) rfl (fun _ => rfl) (by decide) (by decide) (Nat.le_of_ble_eq_true rfl) rfl ?_
      refine a_aload_n (pc := 0) dX4_failAt_0 (by decide) rfl ?_
      refine a_iload_n (pc := 1) dX4_failAt_1 rfl ?_
      refine a_putI (y := 6) (pc := 2) dX4_failAt_2 fl_RX4_32 (by decide) s0_267 rfl rfl (tyX4_ok 6 (by decide)) rfl ?_
      refine a_iconst (pc := 5) dX4_failAt_5 (by decide) ?_
      refine a_iretz (pc := 6) dX4_failAt_6 rfl rfl (Nat.le_of_ble_eq_true rfl) (by decide) ⟨rfl, ?_⟩
      refine a_iretz (pc := 23) dX4_takeByte_23 rfl rfl (Nat.le_of_ble_eq_true rfl) (by decide) ⟨rfl, ?_⟩
      refine a_if_eq (tgt := 127) (pc := 110) dX4_readTrip_110 (by decide) (fun _ => ?_) (fun hc => absurd (by decide) hc)
      refine a_iconst (pc := 127) dX4_readTrip_127 (by decide) ?_
      exact a_iretz (pc := 128) dX4_readTrip_128 rfl rfl (Nat.le_of_ble_eq_true rfl) (by decide) ⟨rfl, h⟩
    · replace h := h.2 hc3
      refine a_iload_n (pc := 4) dX7_byteAt_4 rfl ?_
      refine a_aload_n (pc := 5) dX7_byteAt_5 (by decide) rfl ?_
      refine a_getI (y := 1) (pc := 6) dX7_byteAt_6 fl_RX7_19 (by decide) s0_263 (Or.inl rfl) rfl ?_
      refine a_icmp_ge (tgt := 21) (pc := 9) dX7_byteAt_9 (by decide) (fun hc4 => ?_) (fun hc4 => ?_)
      · replace h := h.1 hc4
        refine a_iconst (pc := 21) dX7_byteAt_21 (by decide) ?_
        refine a_ireti (pc := 22) dX7_byteAt_22 rfl rfl (Nat.le_of_ble_eq_true rfl) ⟨rfl, ?_⟩
        refine a_iload_n (pc := 11) dX4_takeByte_11 rfl ?_
        refine a_icmp_eq (tgt := 24) (pc := 12) dX4_takeByte_12 (by decide) (fun hc => absurd hc (by decide)) (fun _ => ?_)
        refine a_aload_n (pc := 15) dX4_takeByte_15 (by decide) rfl ?_
        refine a_aload_n (pc := 16) dX4_takeByte_16 (by decide) rfl ?_
        refine a_getI (y := 2) (pc := 17) dX4_takeByte_17 fl_RX4_19 (by decide) s0_267 (Or.inl rfl) rfl ?_
        refine p_inlV (Ex := _) (As := [(0, M 267 2)]) (st := []) (st1 := fun r => [(0, r)])  (pc := 20) dX4_takeByte_20 ml_RX4_52 (by decide) s0_267 rfl (by decide) (Nat.le_of_ble_eq_true rfl) rfl (fun _ => rfl) (by decide) (by decide) (Nat.le_of_ble_eq_true rfl) rfl ?_
        refine a_aload_n (pc := 0) dX4_failAt_0 (by decide) rfl ?_
        refine a_iload_n (pc := 1) dX4_failAt_1 rfl ?_
        refine a_putI (y := 6) (pc := 2) dX4_failAt_2 fl_RX4_32 (by decide) s0_267 rfl rfl (tyX4_ok 6 (by decide)) rfl ?_
        refine a_iconst (pc := 5) dX4_failAt_5 (by decide) ?_
        refine a_iretz (pc := 6) dX4_failAt_6 rfl rfl (Nat.le_of_ble_eq_true rfl) (by decide) ⟨rfl, ?_⟩
        refine a_iretz (pc := 23) dX4_takeByte_23 rfl rfl (Nat.le_of_ble_eq_true rfl) (by decide) ⟨rfl, ?_⟩
        refine a_if_eq (tgt := 127) (pc := 110) dX4_readTrip_110 (by decide) (fun _ => ?_) (fun hc => absurd (by decide) hc)
        refine a_iconst (pc := 127) dX4_readTrip_127 (by decide) ?_
        exact a_iretz (pc := 128) dX4_readTrip_128 rfl rfl (Nat.le_of_ble_eq_true rfl) (by decide) ⟨rfl, h⟩
      · replace h := h.2 hc4
        refine a_aload_n (pc := 12) dX7_byteAt_12 (by decide) rfl ?_
        refine a_getR (y := 264) (pc := 13) dX7_byteAt_13 fl_RX7_13 (by decide) s0_263 rfl rfl ?_
        refine a_iload_n (pc := 16) dX7_byteAt_16 rfl ?_
        have ho5 := h.1
        replace h := h.2
        refine a_iald (pc := 17) dX7_byteAt_17 (by decide) s0_264 ho5.1 ho5.2 ?_
        refine a_goto (tgt := 22) (pc := 18) dX7_byteAt_18 (by decide) ?_
        refine a_ireti (pc := 22) dX7_byteAt_22 rfl rfl (Nat.le_of_ble_eq_true rfl) ⟨rfl, ?_⟩
        refine a_iload_n (pc := 11) dX4_takeByte_11 rfl ?_
        refine a_icmp_eq (tgt := 24) (pc := 12) dX4_takeByte_12 (by decide) (fun hc6 => ?_) (fun hc6 => ?_)
        · replace h := h.1 hc6
          refine a_aload_n (pc := 24) dX4_takeByte_24 (by decide) rfl ?_
          refine a_dup (pc := 25) dX4_takeByte_25 n21 ?_
          refine a_getI (y := 2) (pc := 26) dX4_takeByte_26 fl_RX4_19 (by decide) s0_267 (Or.inl rfl) rfl ?_
          refine a_iconst (pc := 29) dX4_takeByte_29 (by decide) ?_
          have ho7 := h.1
          replace h := h.2
          refine a_iadd (pc := 30) dX4_takeByte_30 ho7 ?_
          refine a_putI (y := 2) (pc := 31) dX4_takeByte_31 fl_RX4_19 (by decide) s0_267 rfl rfl (tyX4_ok 2 (by decide)) rfl ?_
          refine a_iconst (pc := 34) dX4_takeByte_34 (by decide) ?_
          refine a_iretz (pc := 35) dX4_takeByte_35 rfl rfl (Nat.le_of_ble_eq_true rfl) (by decide) ⟨rfl, ?_⟩
          refine a_if_eq (tgt := 127) (pc := 110) dX4_readTrip_110 (by decide) (fun hc => absurd hc (by decide)) (fun _ => ?_)
          refine a_aload_n (pc := 113) dX4_readTrip_113 (by decide) rfl ?_
          refine a_iconst (pc := 114) dX4_readTrip_114 (by decide) ?_
          refine a_iconst (pc := 115) dX4_readTrip_115 (by decide) ?_
          refine a_sipush (pc := 116) dX4_readTrip_116 (by decide) (by decide +kernel) ?_
          refine a_iload_n (pc := 119) dX4_readTrip_119 rfl ?_
          have ho8 := h.1
          replace h := h.2
          refine a_isub (pc := 120) dX4_readTrip_120 ho8 ?_
          refine p_callV (As := [(0, 3), (0, 1), (0, 1999 - l3)]) (st := []) (st1 := fun r => [(0, r)])  (pc := 121) dX4_readTrip_121 ml_RX4_75 (by decide) s0_267 rfl (by decide) (Nat.le_of_ble_eq_true rfl) rfl (fun _ => rfl) h (fun r9 M10 h => ?_)
          refine a_if_ne (tgt := 129) (pc := 124) dX4_readTrip_124 (by decide) (fun hc11 => ?_) (fun hc11 => ?_)
          · replace h := h.1 hc11
            refine a_iload_n (pc := 129) dX4_readTrip_129 rfl ?_
            refine a_aload_n (pc := 130) dX4_readTrip_130 (by decide) rfl ?_
            refine a_getI (y := 4) (pc := 131) dX4_readTrip_131 fl_RX4_26 (by decide) s0_267 (Or.inl rfl) rfl ?_
            have ho12 := h.1
            replace h := h.2
            refine a_iadd (pc := 134) dX4_readTrip_134 ho12 ?_
            refine a_istore_n (ls1 := [(2, 267), (0, l1), (0, l2), (0, l3 + (M10 267 4)), (0, l4)]) (pc := 135) dX4_readTrip_135 (by decide) (hp1 (t := 0) rfl (by decide)) rfl ?_
            refine a_aload_n (pc := 136) dX4_readTrip_136 (by decide) rfl ?_
            refine a_getR (y := 1) (pc := 137) dX4_readTrip_137 fl_RX4_9 (by decide) s0_267 rfl rfl ?_
            refine a_iload_n (pc := 140) dX4_readTrip_140 rfl ?_
            refine a_iload_n (pc := 141) dX4_readTrip_141 rfl ?_
            refine a_iload (pc := 142) dX4_readTrip_142 rfl ?_
            refine a_iload_n (pc := 144) dX4_readTrip_144 rfl ?_
            refine p_inlV (Ex := _) (As := [(0, l1), (0, l2), (0, l4), (0, l3 + (M10 267 4))]) (st := []) (st1 := fun r => [])  (pc := 145) dX4_readTrip_145 ml_RX4_107 (by decide) s0_1 rfl (by decide) (Nat.le_of_ble_eq_true rfl) rfl (fun _ => rfl) (by decide) (by decide) (Nat.le_of_ble_eq_true rfl) rfl ?_
            refine a_aload_n (pc := 0) dX3_putMinute_0 (by decide) rfl ?_
            refine a_getR (y := 14) (pc := 1) dX3_putMinute_1 fl_RX3_30 (by decide) s0_1 rfl rfl ?_
            refine a_iload_n (pc := 4) dX3_putMinute_4 rfl ?_
            refine a_iload_n (pc := 5) dX3_putMinute_5 rfl ?_
            refine p_inlS (Ex := _) (As := [(0, l1), (0, l2)]) (st := [(2, 14)]) (st1 := fun r => [(0, r), (2, 14)])  (pc := 6) dX3_putMinute_6 ml_RX3_49 (by decide) (Nat.le_of_ble_eq_true rfl) rfl (fun _ => rfl) (by decide) (by decide) (Nat.le_of_ble_eq_true rfl) rfl ?_
            refine a_iload_n (pc := 0) dX3_rowOf_0 rfl ?_
            refine a_bipush (pc := 1) dX3_rowOf_1 (by decide) (by decide +kernel) ?_
            have ho13 := h.1
            replace h := h.2
            refine a_imul (pc := 3) dX3_rowOf_3 ho13 ?_
            refine a_iload_n (pc := 4) dX3_rowOf_4 rfl ?_
            have ho14 := h.1
            replace h := h.2
            refine a_iadd (pc := 5) dX3_rowOf_5 ho14 ?_
            refine a_ireti (pc := 6) dX3_rowOf_6 rfl rfl (Nat.le_of_ble_eq_true rfl) ⟨rfl, ?_⟩
            have ho15 := h.1
            replace h := h.2
            have hr16 := rw_14 ((l1 * 6) + l2) ho15.1 ho15.2
            refine a_aald (y := 15 + ((l1 * 6) + l2)) (pc := 9) dX3_putMinute_9 (by decide) s0_14 ho15.1 ho15.2 (by omega) ?_
            refine a_iload_n (pc := 10) dX3_putMinute_10 rfl ?_
            refine a_iload (pc := 11) dX3_putMinute_11 rfl ?_
            have ho17 := h.1
            replace h := h.2
            refine a_iast (pc := 13) dX3_putMinute_13 hr16.1 hr16.2 ho17.1 ho17.2 ?_
            refine a_vret (pc := 14) dX3_putMinute_14 rfl rfl (Nat.le_of_ble_eq_true rfl) ⟨rfl, ?_⟩
            have ho18 := h.1
            replace h := h.2
            refine a_iinc (ls1 := [(2, 267), (0, l1), (0, l2), (0, l3 + (M10 267 4)), (0, l4 + 1)]) (pc := 148) dX4_readTrip_148 rfl (by decide) (hp1 (t := 0) rfl (by decide)) ho18 rfl ?_
            refine a_goto (tgt := 90) (pc := 151) dX4_readTrip_151 (by decide) ?_
            exact h
          · replace h := h.2 hc11
            refine a_iconst (pc := 127) dX4_readTrip_127 (by decide) ?_
            exact a_iretz (pc := 128) dX4_readTrip_128 rfl rfl (Nat.le_of_ble_eq_true rfl) (by decide) ⟨rfl, h⟩
        · replace h := h.2 hc6
          refine a_aload_n (pc := 15) dX4_takeByte_15 (by decide) rfl ?_
          refine a_aload_n (pc := 16) dX4_takeByte_16 (by decide) rfl ?_
          refine a_getI (y := 2) (pc := 17) dX4_takeByte_17 fl_RX4_19 (by decide) s0_267 (Or.inl rfl) rfl ?_
          refine p_inlV (Ex := _) (As := [(0, M 267 2)]) (st := []) (st1 := fun r => [(0, r)])  (pc := 20) dX4_takeByte_20 ml_RX4_52 (by decide) s0_267 rfl (by decide) (Nat.le_of_ble_eq_true rfl) rfl (fun _ => rfl) (by decide) (by decide) (Nat.le_of_ble_eq_true rfl) rfl ?_
          refine a_aload_n (pc := 0) dX4_failAt_0 (by decide) rfl ?_
          refine a_iload_n (pc := 1) dX4_failAt_1 rfl ?_
          refine a_putI (y := 6) (pc := 2) dX4_failAt_2 fl_RX4_32 (by decide) s0_267 rfl rfl (tyX4_ok 6 (by decide)) rfl ?_
          refine a_iconst (pc := 5) dX4_failAt_5 (by decide) ?_
          refine a_iretz (pc := 6) dX4_failAt_6 rfl rfl (Nat.le_of_ble_eq_true rfl) (by decide) ⟨rfl, ?_⟩
          refine a_iretz (pc := 23) dX4_takeByte_23 rfl rfl (Nat.le_of_ble_eq_true rfl) (by decide) ⟨rfl, ?_⟩
          refine a_if_eq (tgt := 127) (pc := 110) dX4_readTrip_110 (by decide) (fun _ => ?_) (fun hc => absurd (by decide) hc)
          refine a_iconst (pc := 127) dX4_readTrip_127 (by decide) ?_
          exact a_iretz (pc := 128) dX4_readTrip_128 rfl rfl (Nat.le_of_ble_eq_true rfl) (by decide) ⟨rfl, h⟩
theorem E_Reader_readTrip {M : Mem} {Q : Int → Mem → Prop} (h : AW mX4_readTrip 0 [(2, 267), (9, 0), (9, 0), (9, 0), (9, 0)] M Q) : Calls mX4_readTrip [(2, 267)] S0 M Q := calls_of (by decide) (by decide) (Nat.le_of_ble_eq_true rfl) rfl h
set_option maxRecDepth 100000 in
set_option maxHeartbeats 4000000 in
theorem B_Reader_readDelay_0 {M : Mem} {Q : Int → Mem → Prop} (h : (-2147483648 ≤ (M 1 0) - 1 ∧ (M 1 0) - 1 ≤ 2147483647) ∧ Calls mX4_takeNumber [(2, 267), (0, 1), (0, 0), (0, (M 1 0) - 1)] S0 M (fun r2 M3 => ((¬ r2 = 0 → (((M3 267 2) < 0 → Q 0 (up2 M3 267 6 (M3 267 2))) ∧ (¬ ((M3 267 2) < 0) → (((M3 263 1) ≤ (M3 267 2) → Q 0 (up2 M3 267 6 (M3 267 2))) ∧ (¬ ((M3 263 1) ≤ (M3 267 2)) → ((0 : Int) ≤ M3 267 2 ∧ M3 267 2 < 80) ∧ (((M3 264 (M3 267 2)) = 46 → (-2147483648 ≤ (M3 267 2) + 1 ∧ (M3 267 2) + 1 ≤ 2147483647) ∧ ((0 : Int) ≤ M3 267 4 ∧ M3 267 4 < 8) ∧ (-2147483648 ≤ (M3 4 (M3 267 4)) - 1 ∧ (M3 4 (M3 267 4)) - 1 ≤ 2147483647) ∧ Calls mX4_takeNumber [(2, 267), (0, 1), (0, 0), (0, (M3 4 (M3 267 4)) - 1)] S0 (up2 M3 267 2 ((M3 267 2) + 1)) (fun r12 M13 => ((¬ r12 = 0 → (((M13 267 2) < 0 → Q 0 (up2 M13 267 6 (M13 267 2))) ∧ (¬ ((M13 267 2) < 0) → (((M13 263 1) ≤ (M13 267 2) → Q 0 (up2 M13 267 6 (M13 267 2))) ∧ (¬ ((M13 263 1) ≤ (M13 267 2)) → ((0 : Int) ≤ M13 267 2 ∧ M13 267 2 < 80) ∧ (((M13 264 (M13 267 2)) = 64 → (-2147483648 ≤ (M13 267 2) + 1 ∧ (M13 267 2) + 1 ≤ 2147483647) ∧ (-2147483648 ≤ (M13 3 (M3 267 4)) - 1 ∧ (M13 3 (M3 267 4)) - 1 ≤ 2147483647) ∧ Calls mX4_takeNumber [(2, 267), (0, 1), (0, 0), (0, (M13 3 (M3 267 4)) - 1)] S0 (up2 M13 267 2 ((M13 267 2) + 1)) (fun r21 M22 => ((¬ r21 = 0 → (((M22 267 2) < 0 → Q 0 (up2 M22 267 6 (M22 267 2))) ∧ (¬ ((M22 267 2) < 0) → (((M22 263 1) ≤ (M22 267 2) → Q 0 (up2 M22 267 6 (M22 267 2))) ∧ (¬ ((M22 263 1) ≤ (M22 267 2)) → ((0 : Int) ≤ M22 267 2 ∧ M22 267 2 < 80) ∧ (((M22 264 (M22 267 2)) = 43 → (-2147483648 ≤ (M22 267 2) + 1 ∧ (M22 267 2) + 1 ≤ 2147483647) ∧ Calls mX4_takeNumber [(2, 267), (0, 2), (0, 1), (0, 99)] S0 (up2 M22 267 2 ((M22 267 2) + 1)) (fun r29 M30 => ((¬ r29 = 0 → Calls mX3_putDelay [(2, 1), (0, M3 267 4), (0, M13 267 4), (0, M22 267 4), (0, M30 267 4)] S0 M30 (fun r32 M33 => ((¬ r32 = 0 → Q 1 M33) ∧ (r32 = 0 → Q 0 (up2 M33 267 6 (M33 267 3)))))) ∧ (r29 = 0 → Q 0 M30)))) ∧ (¬ (M22 264 (M22 267 2)) = 43 → Q 0 (up2 M22 267 6 (M22 267 2))))))))) ∧ (r21 = 0 → Q 0 M22)))) ∧ (¬ (M13 264 (M13 267 2)) = 64 → Q 0 (up2 M13 267 6 (M13 267 2))))))))) ∧ (r12 = 0 → Q 0 M13)))) ∧ (¬ (M3 264 (M3 267 2)) = 46 → Q 0 (up2 M3 267 6 (M3 267 2))))))))) ∧ (r2 = 0 → Q 0 M3)))) : AW mX4_readDelay 0 [(2, 267), (9, 0), (9, 0), (9, 0)] M Q := by
  refine a_aload_n (pc := 0) dX4_readDelay_0 (by decide) rfl ?_
  refine a_iconst (pc := 1) dX4_readDelay_1 (by decide) ?_
  refine a_iconst (pc := 2) dX4_readDelay_2 (by decide) ?_
  refine a_aload_n (pc := 3) dX4_readDelay_3 (by decide) rfl ?_
  refine a_getR (y := 1) (pc := 4) dX4_readDelay_4 fl_RX4_9 (by decide) s0_267 rfl rfl ?_
  refine a_getI (y := 0) (pc := 7) dX4_readDelay_7 fl_RX4_70 (by decide) s0_1 (Or.inl rfl) rfl ?_
  refine a_iconst (pc := 10) dX4_readDelay_10 (by decide) ?_
  have ho1 := h.1
  replace h := h.2
  refine a_isub (pc := 11) dX4_readDelay_11 ho1 ?_
  refine p_callV (As := [(0, 1), (0, 0), (0, (M 1 0) - 1)]) (st := []) (st1 := fun r => [(0, r)])  (pc := 12) dX4_readDelay_12 ml_RX4_75 (by decide) s0_267 rfl (by decide) (Nat.le_of_ble_eq_true rfl) rfl (fun _ => rfl) h (fun r2 M3 h => ?_)
  refine a_if_ne (tgt := 20) (pc := 15) dX4_readDelay_15 (by decide) (fun hc4 => ?_) (fun hc4 => ?_)
  · replace h := h.1 hc4
    refine a_aload_n (pc := 20) dX4_readDelay_20 (by decide) rfl ?_
    refine a_getI (y := 4) (pc := 21) dX4_readDelay_21 fl_RX4_26 (by decide) s0_267 (Or.inl rfl) rfl ?_
    refine a_istore_n (ls1 := [(2, 267), (0, M3 267 4), (9, 0), (9, 0)]) (pc := 24) dX4_readDelay_24 (by decide) (hp1 (t := 2) rfl (by decide)) rfl ?_
    refine a_aload_n (pc := 25) dX4_readDelay_25 (by decide) rfl ?_
    refine a_bipush (pc := 26) dX4_readDelay_26 (by decide) (by decide +kernel) ?_
    refine p_inlV (Ex := _) (As := [(0, 46)]) (st := []) (st1 := fun r => [(0, r)])  (pc := 28) dX4_readDelay_28 ml_RX4_44 (by decide) s0_267 rfl (by decide) (Nat.le_of_ble_eq_true rfl) rfl (fun _ => rfl) (by decide) (by decide) (Nat.le_of_ble_eq_true rfl) rfl ?_
    refine a_aload_n (pc := 0) dX4_takeByte_0 (by decide) rfl ?_
    refine a_getR (y := 263) (pc := 1) dX4_takeByte_1 fl_RX4_15 (by decide) s0_267 rfl rfl ?_
    refine a_aload_n (pc := 4) dX4_takeByte_4 (by decide) rfl ?_
    refine a_getI (y := 2) (pc := 5) dX4_takeByte_5 fl_RX4_19 (by decide) s0_267 (Or.inl rfl) rfl ?_
    refine p_inlV (Ex := _) (As := [(0, M3 267 2)]) (st := []) (st1 := fun r => [(0, r)])  (pc := 8) dX4_takeByte_8 ml_RX4_48 (by decide) s0_263 rfl (by decide) (Nat.le_of_ble_eq_true rfl) rfl (fun _ => rfl) (by decide) (by decide) (Nat.le_of_ble_eq_true rfl) rfl ?_
    refine a_iload_n (pc := 0) dX7_byteAt_0 rfl ?_
    refine a_if_lt (tgt := 21) (pc := 1) dX7_byteAt_1 (by decide) (fun hc5 => ?_) (fun hc5 => ?_)
    · replace h := h.1 hc5
      refine a_iconst (pc := 21) dX7_byteAt_21 (by decide) ?_
      refine a_ireti (pc := 22) dX7_byteAt_22 rfl rfl (Nat.le_of_ble_eq_true rfl) ⟨rfl, ?_⟩
      refine a_iload_n (pc := 11) dX4_takeByte_11 rfl ?_
      refine a_icmp_eq (tgt := 24) (pc := 12) dX4_takeByte_12 (by decide) (fun hc => absurd hc (by decide)) (fun _ => ?_)
      refine a_aload_n (pc := 15) dX4_takeByte_15 (by decide) rfl ?_
      refine a_aload_n (pc := 16) dX4_takeByte_16 (by decide) rfl ?_
      refine a_getI (y := 2) (pc := 17) dX4_takeByte_17 fl_RX4_19 (by decide) s0_267 (Or.inl rfl) rfl ?_
      refine p_inlV (Ex := _) (As := [(0, M3 267 2)]) (st := []) (st1 := fun r => [(0, r)])  (pc := 20) dX4_takeByte_20 ml_RX4_52 (by decide) s0_267 rfl (by decide) (Nat.le_of_ble_eq_true rfl) rfl (fun _ => rfl) (by decide) (by decide) (Nat.le_of_ble_eq_true rfl) rfl ?_
      refine a_aload_n (pc := 0) dX4_failAt_0 (by decide) rfl ?_
      refine a_iload_n (pc := 1) dX4_failAt_1 rfl ?_
      refine a_putI (y := 6) (pc := 2) dX4_failAt_2 fl_RX4_32 (by decide) s0_267 rfl rfl (tyX4_ok 6 (by decide)) rfl ?_
      refine a_iconst (pc := 5) dX4_failAt_5 (by decide) ?_
      refine a_iretz (pc := 6) dX4_failAt_6 rfl rfl (Nat.le_of_ble_eq_true rfl) (by decide) ⟨rfl, ?_⟩
      refine a_iretz (pc := 23) dX4_takeByte_23 rfl rfl (Nat.le_of_ble_eq_true rfl) (by decide) ⟨rfl, ?_⟩
      refine a_if_eq (tgt := 54) (pc := 31) dX4_readDelay_31 (by decide) (fun _ => ?_) (fun hc => absurd (by decide) hc)
      refine a_iconst (pc := 54) dX4_readDelay_54 (by decide) ?_
      exact a_iretz (pc := 55) dX4_readDelay_55 rfl rfl (Nat.le_of_ble_eq_true rfl) (by decide) ⟨rfl, h⟩
    · replace h := h.2 hc5
      refine a_iload_n (pc := 4) dX7_byteAt_4 rfl ?_
      refine a_aload_n (pc := 5) dX7_byteAt_5 (by decide) rfl ?_
      refine a_getI (y := 1) (pc := 6) dX7_byteAt_6 fl_RX7_19 (by decide) s0_263 (Or.inl rfl) rfl ?_
      refine a_icmp_ge (tgt := 21) (pc := 9) dX7_byteAt_9 (by decide) (fun hc6 => ?_) (fun hc6 => ?_)
      · replace h := h.1 hc6
        refine a_iconst (pc := 21) dX7_byteAt_21 (by decide) ?_
        refine a_ireti (pc := 22) dX7_byteAt_22 rfl rfl (Nat.le_of_ble_eq_true rfl) ⟨rfl, ?_⟩
        refine a_iload_n (pc := 11) dX4_takeByte_11 rfl ?_
        refine a_icmp_eq (tgt := 24) (pc := 12) dX4_takeByte_12 (by decide) (fun hc => absurd hc (by decide)) (fun _ => ?_)
        refine a_aload_n (pc := 15) dX4_takeByte_15 (by decide) rfl ?_
        refine a_aload_n (pc := 16) dX4_takeByte_16 (by decide) rfl ?_
        refine a_getI (y := 2) (pc := 17) dX4_takeByte_17 fl_RX4_19 (by decide) s0_267 (Or.inl rfl) rfl ?_
        refine p_inlV (Ex := _) (As := [(0, M3 267 2)]) (st := []) (st1 := fun r => [(0, r)])  (pc := 20) dX4_takeByte_20 ml_RX4_52 (by decide) s0_267 rfl (by decide) (Nat.le_of_ble_eq_true rfl) rfl (fun _ => rfl) (by decide) (by decide) (Nat.le_of_ble_eq_true rfl) rfl ?_
        refine a_aload_n (pc := 0) dX4_failAt_0 (by decide) rfl ?_
        refine a_iload_n (pc := 1) dX4_failAt_1 rfl ?_
        refine a_putI (y := 6) (pc := 2) dX4_failAt_2 fl_RX4_32 (by decide) s0_267 rfl rfl (tyX4_ok 6 (by decide)) rfl ?_
        refine a_iconst (pc := 5) dX4_failAt_5 (by decide) ?_
        refine a_iretz (pc := 6) dX4_failAt_6 rfl rfl (Nat.le_of_ble_eq_true rfl) (by decide) ⟨rfl, ?_⟩
        refine a_iretz (pc := 23) dX4_takeByte_23 rfl rfl (Nat.le_of_ble_eq_true rfl) (by decide) ⟨rfl, ?_⟩
        refine a_if_eq (tgt := 54) (pc := 31) dX4_readDelay_31 (by decide) (fun _ => ?_) (fun hc => absurd (by decide) hc)
        refine a_iconst (pc := 54) dX4_readDelay_54 (by decide) ?_
        exact a_iretz (pc := 55) dX4_readDelay_55 rfl rfl (Nat.le_of_ble_eq_true rfl) (by decide) ⟨rfl, h⟩
      · replace h := h.2 hc6
        refine a_aload_n (pc := 12) dX7_byteAt_12 (by decide) rfl ?_
        refine a_getR (y := 264) (pc := 13) dX7_byteAt_13 fl_RX7_13 (by decide) s0_263 rfl rfl ?_
        refine a_iload_n (pc := 16) dX7_byteAt_16 rfl ?_
        have ho7 := h.1
        replace h := h.2
        refine a_iald (pc := 17) dX7_byteAt_17 (by decide) s0_264 ho7.1 ho7.2 ?_
        refine a_goto (tgt := 22) (pc := 18) dX7_byteAt_18 (by decide) ?_
        refine a_ireti (pc := 22) dX7_byteAt_22 rfl rfl (Nat.le_of_ble_eq_true rfl) ⟨rfl, ?_⟩
        refine a_iload_n (pc := 11) dX4_takeByte_11 rfl ?_
        refine a_icmp_eq (tgt := 24) (pc := 12) dX4_takeByte_12 (by decide) (fun hc8 => ?_) (fun hc8 => ?_)
        · replace h := h.1 hc8
          refine a_aload_n (pc := 24) dX4_takeByte_24 (by decide) rfl ?_
          refine a_dup (pc := 25) dX4_takeByte_25 n21 ?_
          refine a_getI (y := 2) (pc := 26) dX4_takeByte_26 fl_RX4_19 (by decide) s0_267 (Or.inl rfl) rfl ?_
          refine a_iconst (pc := 29) dX4_takeByte_29 (by decide) ?_
          have ho9 := h.1
          replace h := h.2
          refine a_iadd (pc := 30) dX4_takeByte_30 ho9 ?_
          refine a_putI (y := 2) (pc := 31) dX4_takeByte_31 fl_RX4_19 (by decide) s0_267 rfl rfl (tyX4_ok 2 (by decide)) rfl ?_
          refine a_iconst (pc := 34) dX4_takeByte_34 (by decide) ?_
          refine a_iretz (pc := 35) dX4_takeByte_35 rfl rfl (Nat.le_of_ble_eq_true rfl) (by decide) ⟨rfl, ?_⟩
          refine a_if_eq (tgt := 54) (pc := 31) dX4_readDelay_31 (by decide) (fun hc => absurd hc (by decide)) (fun _ => ?_)
          refine a_aload_n (pc := 34) dX4_readDelay_34 (by decide) rfl ?_
          refine a_iconst (pc := 35) dX4_readDelay_35 (by decide) ?_
          refine a_iconst (pc := 36) dX4_readDelay_36 (by decide) ?_
          refine a_aload_n (pc := 37) dX4_readDelay_37 (by decide) rfl ?_
          refine a_getR (y := 1) (pc := 38) dX4_readDelay_38 fl_RX4_9 (by decide) s0_267 rfl rfl ?_
          refine a_getR (y := 4) (pc := 41) dX4_readDelay_41 fl_RX4_97 (by decide) s0_1 rfl rfl ?_
          refine a_iload_n (pc := 44) dX4_readDelay_44 rfl ?_
          have ho10 := h.1
          replace h := h.2
          refine a_iald (pc := 45) dX4_readDelay_45 (by decide) s0_4 ho10.1 ho10.2 ?_
          refine a_eq (y := M3 4 (M3 267 4)) rfl ?_
          refine a_iconst (pc := 46) dX4_readDelay_46 (by decide) ?_
          have ho11 := h.1
          replace h := h.2
          refine a_isub (pc := 47) dX4_readDelay_47 ho11 ?_
          refine p_callV (As := [(0, 1), (0, 0), (0, (M3 4 (M3 267 4)) - 1)]) (st := []) (st1 := fun r => [(0, r)])  (pc := 48) dX4_readDelay_48 ml_RX4_75 (by decide) s0_267 rfl (by decide) (Nat.le_of_ble_eq_true rfl) rfl (fun _ => rfl) h (fun r12 M13 h => ?_)
          refine a_if_ne (tgt := 56) (pc := 51) dX4_readDelay_51 (by decide) (fun hc14 => ?_) (fun hc14 => ?_)
          · replace h := h.1 hc14
            refine a_aload_n (pc := 56) dX4_readDelay_56 (by decide) rfl ?_
            refine a_getI (y := 4) (pc := 57) dX4_readDelay_57 fl_RX4_26 (by decide) s0_267 (Or.inl rfl) rfl ?_
            refine a_istore_n (ls1 := [(2, 267), (0, M3 267 4), (0, M13 267 4), (9, 0)]) (pc := 60) dX4_readDelay_60 (by decide) (hp1 (t := 0) rfl (by decide)) rfl ?_
            refine a_aload_n (pc := 61) dX4_readDelay_61 (by decide) rfl ?_
            refine a_bipush (pc := 62) dX4_readDelay_62 (by decide) (by decide +kernel) ?_
            refine p_inlV (Ex := _) (As := [(0, 64)]) (st := []) (st1 := fun r => [(0, r)])  (pc := 64) dX4_readDelay_64 ml_RX4_44 (by decide) s0_267 rfl (by decide) (Nat.le_of_ble_eq_true rfl) rfl (fun _ => rfl) (by decide) (by decide) (Nat.le_of_ble_eq_true rfl) rfl ?_
            refine a_aload_n (pc := 0) dX4_takeByte_0 (by decide) rfl ?_
            refine a_getR (y := 263) (pc := 1) dX4_takeByte_1 fl_RX4_15 (by decide) s0_267 rfl rfl ?_
            refine a_aload_n (pc := 4) dX4_takeByte_4 (by decide) rfl ?_
            refine a_getI (y := 2) (pc := 5) dX4_takeByte_5 fl_RX4_19 (by decide) s0_267 (Or.inl rfl) rfl ?_
            refine p_inlV (Ex := _) (As := [(0, M13 267 2)]) (st := []) (st1 := fun r => [(0, r)])  (pc := 8) dX4_takeByte_8 ml_RX4_48 (by decide) s0_263 rfl (by decide) (Nat.le_of_ble_eq_true rfl) rfl (fun _ => rfl) (by decide) (by decide) (Nat.le_of_ble_eq_true rfl) rfl ?_
            refine a_iload_n (pc := 0) dX7_byteAt_0 rfl ?_
            refine a_if_lt (tgt := 21) (pc := 1) dX7_byteAt_1 (by decide) (fun hc15 => ?_) (fun hc15 => ?_)
            · replace h := h.1 hc15
              refine a_iconst (pc := 21) dX7_byteAt_21 (by decide) ?_
              refine a_ireti (pc := 22) dX7_byteAt_22 rfl rfl (Nat.le_of_ble_eq_true rfl) ⟨rfl, ?_⟩
              refine a_iload_n (pc := 11) dX4_takeByte_11 rfl ?_
              refine a_icmp_eq (tgt := 24) (pc := 12) dX4_takeByte_12 (by decide) (fun hc => absurd hc (by decide)) (fun _ => ?_)
              refine a_aload_n (pc := 15) dX4_takeByte_15 (by decide) rfl ?_
              refine a_aload_n (pc := 16) dX4_takeByte_16 (by decide) rfl ?_
              refine a_getI (y := 2) (pc := 17) dX4_takeByte_17 fl_RX4_19 (by decide) s0_267 (Or.inl rfl) rfl ?_
              refine p_inlV (Ex := _) (As := [(0, M13 267 2)]) (st := []) (st1 := fun r => [(0, r)])  (pc := 20) dX4_takeByte_20 ml_RX4_52 (by decide) s0_267 rfl (by decide) (Nat.le_of_ble_eq_true rfl) rfl (fun _ => rfl) (by decide) (by decide) (Nat.le_of_ble_eq_true rfl) rfl ?_
              refine a_aload_n (pc := 0) dX4_failAt_0 (by decide) rfl ?_
              refine a_iload_n (pc := 1) dX4_failAt_1 rfl ?_
              refine a_putI (y := 6) (pc := 2) dX4_failAt_2 fl_RX4_32 (by decide) s0_267 rfl rfl (tyX4_ok 6 (by decide)) rfl ?_
              refine a_iconst (pc := 5) dX4_failAt_5 (by decide) ?_
              refine a_iretz (pc := 6) dX4_failAt_6 rfl rfl (Nat.le_of_ble_eq_true rfl) (by decide) ⟨rfl, ?_⟩
              refine a_iretz (pc := 23) dX4_takeByte_23 rfl rfl (Nat.le_of_ble_eq_true rfl) (by decide) ⟨rfl, ?_⟩
              refine a_if_eq (tgt := 90) (pc := 67) dX4_readDelay_67 (by decide) (fun _ => ?_) (fun hc => absurd (by decide) hc)
              refine a_iconst (pc := 90) dX4_readDelay_90 (by decide) ?_
              exact a_iretz (pc := 91) dX4_readDelay_91 rfl rfl (Nat.le_of_ble_eq_true rfl) (by decide) ⟨rfl, h⟩
            · replace h := h.2 hc15
              refine a_iload_n (pc := 4) dX7_byteAt_4 rfl ?_
              refine a_aload_n (pc := 5) dX7_byteAt_5 (by decide) rfl ?_
              refine a_getI (y := 1) (pc := 6) dX7_byteAt_6 fl_RX7_19 (by decide) s0_263 (Or.inl rfl) rfl ?_
              refine a_icmp_ge (tgt := 21) (pc := 9) dX7_byteAt_9 (by decide) (fun hc16 => ?_) (fun hc16 => ?_)
              · replace h := h.1 hc16
                refine a_iconst (pc := 21) dX7_byteAt_21 (by decide) ?_
                refine a_ireti (pc := 22) dX7_byteAt_22 rfl rfl (Nat.le_of_ble_eq_true rfl) ⟨rfl, ?_⟩
                refine a_iload_n (pc := 11) dX4_takeByte_11 rfl ?_
                refine a_icmp_eq (tgt := 24) (pc := 12) dX4_takeByte_12 (by decide) (fun hc => absurd hc (by decide)) (fun _ => ?_)
                refine a_aload_n (pc := 15) dX4_takeByte_15 (by decide) rfl ?_
                refine a_aload_n (pc := 16) dX4_takeByte_16 (by decide) rfl ?_
                refine a_getI (y := 2) (pc := 17) dX4_takeByte_17 fl_RX4_19 (by decide) s0_267 (Or.inl rfl) rfl ?_
                refine p_inlV (Ex := _) (As := [(0, M13 267 2)]) (st := []) (st1 := fun r => [(0, r)])  (pc := 20) dX4_takeByte_20 ml_RX4_52 (by decide) s0_267 rfl (by decide) (Nat.le_of_ble_eq_true rfl) rfl (fun _ => rfl) (by decide) (by decide) (Nat.le_of_ble_eq_true rfl) rfl ?_
                refine a_aload_n (pc := 0) dX4_failAt_0 (by decide) rfl ?_
                refine a_iload_n (pc := 1) dX4_failAt_1 rfl ?_
                refine a_putI (y := 6) (pc := 2) dX4_failAt_2 fl_RX4_32 (by decide) s0_267 rfl rfl (tyX4_ok 6 (by decide)) rfl ?_
                refine a_iconst (pc := 5) dX4_failAt_5 (by decide) ?_
                refine a_iretz (pc := 6) dX4_failAt_6 rfl rfl (Nat.le_of_ble_eq_true rfl) (by decide) ⟨rfl, ?_⟩
                refine a_iretz (pc := 23) dX4_takeByte_23 rfl rfl (Nat.le_of_ble_eq_true rfl) (by decide) ⟨rfl, ?_⟩
                refine a_if_eq (tgt := 90) (pc := 67) dX4_readDelay_67 (by decide) (fun _ => ?_) (fun hc => absurd (by decide) hc)
                refine a_iconst (pc := 90) dX4_readDelay_90 (by decide) ?_
                exact a_iretz (pc := 91) dX4_readDelay_91 rfl rfl (Nat.le_of_ble_eq_true rfl) (by decide) ⟨rfl, h⟩
              · replace h := h.2 hc16
                refine a_aload_n (pc := 12) dX7_byteAt_12 (by decide) rfl ?_
                refine a_getR (y := 264) (pc := 13) dX7_byteAt_13 fl_RX7_13 (by decide) s0_263 rfl rfl ?_
                refine a_iload_n (pc := 16) dX7_byteAt_16 rfl ?_
                have ho17 := h.1
                replace h := h.2
                refine a_iald (pc := 17) dX7_byteAt_17 (by decide) s0_264 ho17.1 ho17.2 ?_
                refine a_goto (tgt := 22) (pc := 18) dX7_byteAt_18 (by decide) ?_
                refine a_ireti (pc := 22) dX7_byteAt_22 rfl rfl (Nat.le_of_ble_eq_true rfl) ⟨rfl, ?_⟩
                refine a_iload_n (pc := 11) dX4_takeByte_11 rfl ?_
                refine a_icmp_eq (tgt := 24) (pc := 12) dX4_takeByte_12 (by decide) (fun hc18 => ?_) (fun hc18 => ?_)
                · replace h := h.1 hc18
                  refine a_aload_n (pc := 24) dX4_takeByte_24 (by decide) rfl ?_
                  refine a_dup (pc := 25) dX4_takeByte_25 n21 ?_
                  refine a_getI (y := 2) (pc := 26) dX4_takeByte_26 fl_RX4_19 (by decide) s0_267 (Or.inl rfl) rfl ?_
                  refine a_iconst (pc := 29) dX4_takeByte_29 (by decide) ?_
                  have ho19 := h.1
                  replace h := h.2
                  refine a_iadd (pc := 30) dX4_takeByte_30 ho19 ?_
                  refine a_putI (y := 2) (pc := 31) dX4_takeByte_31 fl_RX4_19 (by decide) s0_267 rfl rfl (tyX4_ok 2 (by decide)) rfl ?_
                  refine a_iconst (pc := 34) dX4_takeByte_34 (by decide) ?_
                  refine a_iretz (pc := 35) dX4_takeByte_35 rfl rfl (Nat.le_of_ble_eq_true rfl) (by decide) ⟨rfl, ?_⟩
                  refine a_if_eq (tgt := 90) (pc := 67) dX4_readDelay_67 (by decide) (fun hc => absurd hc (by decide)) (fun _ => ?_)
                  refine a_aload_n (pc := 70) dX4_readDelay_70 (by decide) rfl ?_
                  refine a_iconst (pc := 71) dX4_readDelay_71 (by decide) ?_
                  refine a_iconst (pc := 72) dX4_readDelay_72 (by decide) ?_
                  refine a_aload_n (pc := 73) dX4_readDelay_73 (by decide) rfl ?_
                  refine a_getR (y := 1) (pc := 74) dX4_readDelay_74 fl_RX4_9 (by decide) s0_267 rfl rfl ?_
                  refine a_getR (y := 3) (pc := 77) dX4_readDelay_77 fl_RX4_104 (by decide) s0_1 rfl rfl ?_
                  refine a_iload_n (pc := 80) dX4_readDelay_80 rfl ?_
                  refine a_iald (pc := 81) dX4_readDelay_81 (by decide) s0_3 ho10.1 ho10.2 ?_
                  refine a_eq (y := M13 3 (M3 267 4)) rfl ?_
                  refine a_iconst (pc := 82) dX4_readDelay_82 (by decide) ?_
                  have ho20 := h.1
                  replace h := h.2
                  refine a_isub (pc := 83) dX4_readDelay_83 ho20 ?_
                  refine p_callV (As := [(0, 1), (0, 0), (0, (M13 3 (M3 267 4)) - 1)]) (st := []) (st1 := fun r => [(0, r)])  (pc := 84) dX4_readDelay_84 ml_RX4_75 (by decide) s0_267 rfl (by decide) (Nat.le_of_ble_eq_true rfl) rfl (fun _ => rfl) h (fun r21 M22 h => ?_)
                  refine a_if_ne (tgt := 92) (pc := 87) dX4_readDelay_87 (by decide) (fun hc23 => ?_) (fun hc23 => ?_)
                  · replace h := h.1 hc23
                    refine a_aload_n (pc := 92) dX4_readDelay_92 (by decide) rfl ?_
                    refine a_getI (y := 4) (pc := 93) dX4_readDelay_93 fl_RX4_26 (by decide) s0_267 (Or.inl rfl) rfl ?_
                    refine a_istore_n (ls1 := [(2, 267), (0, M3 267 4), (0, M13 267 4), (0, M22 267 4)]) (pc := 96) dX4_readDelay_96 (by decide) (hp1 (t := 0) rfl (by decide)) rfl ?_
                    refine a_aload_n (pc := 97) dX4_readDelay_97 (by decide) rfl ?_
                    refine a_bipush (pc := 98) dX4_readDelay_98 (by decide) (by decide +kernel) ?_
                    refine p_inlV (Ex := _) (As := [(0, 43)]) (st := []) (st1 := fun r => [(0, r)])  (pc := 100) dX4_readDelay_100 ml_RX4_44 (by decide) s0_267 rfl (by decide) (Nat.le_of_ble_eq_true rfl) rfl (fun _ => rfl) (by decide) (by decide) (Nat.le_of_ble_eq_true rfl) rfl ?_
                    refine a_aload_n (pc := 0) dX4_takeByte_0 (by decide) rfl ?_
                    refine a_getR (y := 263) (pc := 1) dX4_takeByte_1 fl_RX4_15 (by decide) s0_267 rfl rfl ?_
                    refine a_aload_n (pc := 4) dX4_takeByte_4 (by decide) rfl ?_
                    refine a_getI (y := 2) (pc := 5) dX4_takeByte_5 fl_RX4_19 (by decide) s0_267 (Or.inl rfl) rfl ?_
                    refine p_inlV (Ex := _) (As := [(0, M22 267 2)]) (st := []) (st1 := fun r => [(0, r)])  (pc := 8) dX4_takeByte_8 ml_RX4_48 (by decide) s0_263 rfl (by decide) (Nat.le_of_ble_eq_true rfl) rfl (fun _ => rfl) (by decide) (by decide) (Nat.le_of_ble_eq_true rfl) rfl ?_
                    refine a_iload_n (pc := 0) dX7_byteAt_0 rfl ?_
                    refine a_if_lt (tgt := 21) (pc := 1) dX7_byteAt_1 (by decide) (fun hc24 => ?_) (fun hc24 => ?_)
                    · replace h := h.1 hc24
                      refine a_iconst (pc := 21) dX7_byteAt_21 (by decide) ?_
                      refine a_ireti (pc := 22) dX7_byteAt_22 rfl rfl (Nat.le_of_ble_eq_true rfl) ⟨rfl, ?_⟩
                      refine a_iload_n (pc := 11) dX4_takeByte_11 rfl ?_
                      refine a_icmp_eq (tgt := 24) (pc := 12) dX4_takeByte_12 (by decide) (fun hc => absurd hc (by decide)) (fun _ => ?_)
                      refine a_aload_n (pc := 15) dX4_takeByte_15 (by decide) rfl ?_
                      refine a_aload_n (pc := 16) dX4_takeByte_16 (by decide) rfl ?_
                      refine a_getI (y := 2) (pc := 17) dX4_takeByte_17 fl_RX4_19 (by decide) s0_267 (Or.inl rfl) rfl ?_
                      refine p_inlV (Ex := _) (As := [(0, M22 267 2)]) (st := []) (st1 := fun r => [(0, r)])  (pc := 20) dX4_takeByte_20 ml_RX4_52 (by decide) s0_267 rfl (by decide) (Nat.le_of_ble_eq_true rfl) rfl (fun _ => rfl) (by decide) (by decide) (Nat.le_of_ble_eq_true rfl) rfl ?_
                      refine a_aload_n (pc := 0) dX4_failAt_0 (by decide) rfl ?_
                      refine a_iload_n (pc := 1) dX4_failAt_1 rfl ?_
                      refine a_putI (y := 6) (pc := 2) dX4_failAt_2 fl_RX4_32 (by decide) s0_267 rfl rfl (tyX4_ok 6 (by decide)) rfl ?_
                      refine a_iconst (pc := 5) dX4_failAt_5 (by decide) ?_
                      refine a_iretz (pc := 6) dX4_failAt_6 rfl rfl (Nat.le_of_ble_eq_true rfl) (by decide) ⟨rfl, ?_⟩
                      refine a_iretz (pc := 23) dX4_takeByte_23 rfl rfl (Nat.le_of_ble_eq_true rfl) (by decide) ⟨rfl, ?_⟩
                      refine a_if_eq (tgt := 117) (pc := 103) dX4_readDelay_103 (by decide) (fun _ => ?_) (fun hc => absurd (by decide) hc)
                      refine a_iconst (pc := 117) dX4_readDelay_117 (by decide) ?_
                      exact a_iretz (pc := 118) dX4_readDelay_118 rfl rfl (Nat.le_of_ble_eq_true rfl) (by decide) ⟨rfl, h⟩
                    · replace h := h.2 hc24
                      refine a_iload_n (pc := 4) dX7_byteAt_4 rfl ?_
                      refine a_aload_n (pc := 5) dX7_byteAt_5 (by decide) rfl ?_
                      refine a_getI (y := 1) (pc := 6) dX7_byteAt_6 fl_RX7_19 (by decide) s0_263 (Or.inl rfl) rfl ?_
                      refine a_icmp_ge (tgt := 21) (pc := 9) dX7_byteAt_9 (by decide) (fun hc25 => ?_) (fun hc25 => ?_)
                      · replace h := h.1 hc25
                        refine a_iconst (pc := 21) dX7_byteAt_21 (by decide) ?_
                        refine a_ireti (pc := 22) dX7_byteAt_22 rfl rfl (Nat.le_of_ble_eq_true rfl) ⟨rfl, ?_⟩
                        refine a_iload_n (pc := 11) dX4_takeByte_11 rfl ?_
                        refine a_icmp_eq (tgt := 24) (pc := 12) dX4_takeByte_12 (by decide) (fun hc => absurd hc (by decide)) (fun _ => ?_)
                        refine a_aload_n (pc := 15) dX4_takeByte_15 (by decide) rfl ?_
                        refine a_aload_n (pc := 16) dX4_takeByte_16 (by decide) rfl ?_
                        refine a_getI (y := 2) (pc := 17) dX4_takeByte_17 fl_RX4_19 (by decide) s0_267 (Or.inl rfl) rfl ?_
                        refine p_inlV (Ex := _) (As := [(0, M22 267 2)]) (st := []) (st1 := fun r => [(0, r)])  (pc := 20) dX4_takeByte_20 ml_RX4_52 (by decide) s0_267 rfl (by decide) (Nat.le_of_ble_eq_true rfl) rfl (fun _ => rfl) (by decide) (by decide) (Nat.le_of_ble_eq_true rfl) rfl ?_
                        refine a_aload_n (pc := 0) dX4_failAt_0 (by decide) rfl ?_
                        refine a_iload_n (pc := 1) dX4_failAt_1 rfl ?_
                        refine a_putI (y := 6) (pc := 2) dX4_failAt_2 fl_RX4_32 (by decide) s0_267 rfl rfl (tyX4_ok 6 (by decide)) rfl ?_
                        refine a_iconst (pc := 5) dX4_failAt_5 (by decide) ?_
                        refine a_iretz (pc := 6) dX4_failAt_6 rfl rfl (Nat.le_of_ble_eq_true rfl) (by decide) ⟨rfl, ?_⟩
                        refine a_iretz (pc := 23) dX4_takeByte_23 rfl rfl (Nat.le_of_ble_eq_true rfl) (by decide) ⟨rfl, ?_⟩
                        refine a_if_eq (tgt := 117) (pc := 103) dX4_readDelay_103 (by decide) (fun _ => ?_) (fun hc => absurd (by decide) hc)
                        refine a_iconst (pc := 117) dX4_readDelay_117 (by decide) ?_
                        exact a_iretz (pc := 118) dX4_readDelay_118 rfl rfl (Nat.le_of_ble_eq_true rfl) (by decide) ⟨rfl, h⟩
                      · replace h := h.2 hc25
                        refine a_aload_n (pc := 12) dX7_byteAt_12 (by decide) rfl ?_
                        refine a_getR (y := 264) (pc := 13) dX7_byteAt_13 fl_RX7_13 (by decide) s0_263 rfl rfl ?_
                        refine a_iload_n (pc := 16) dX7_byteAt_16 rfl ?_
                        have ho26 := h.1
                        replace h := h.2
                        refine a_iald (pc := 17) dX7_byteAt_17 (by decide) s0_264 ho26.1 ho26.2 ?_
                        refine a_goto (tgt := 22) (pc := 18) dX7_byteAt_18 (by decide) ?_
                        refine a_ireti (pc := 22) dX7_byteAt_22 rfl rfl (Nat.le_of_ble_eq_true rfl) ⟨rfl, ?_⟩
                        refine a_iload_n (pc := 11) dX4_takeByte_11 rfl ?_
                        refine a_icmp_eq (tgt := 24) (pc := 12) dX4_takeByte_12 (by decide) (fun hc27 => ?_) (fun hc27 => ?_)
                        · replace h := h.1 hc27
                          refine a_aload_n (pc := 24) dX4_takeByte_24 (by decide) rfl ?_
                          refine a_dup (pc := 25) dX4_takeByte_25 n21 ?_
                          refine a_getI (y := 2) (pc := 26) dX4_takeByte_26 fl_RX4_19 (by decide) s0_267 (Or.inl rfl) rfl ?_
                          refine a_iconst (pc := 29) dX4_takeByte_29 (by decide) ?_
                          have ho28 := h.1
                          replace h := h.2
                          refine a_iadd (pc := 30) dX4_takeByte_30 ho28 ?_
                          refine a_putI (y := 2) (pc := 31) dX4_takeByte_31 fl_RX4_19 (by decide) s0_267 rfl rfl (tyX4_ok 2 (by decide)) rfl ?_
                          refine a_iconst (pc := 34) dX4_takeByte_34 (by decide) ?_
                          refine a_iretz (pc := 35) dX4_takeByte_35 rfl rfl (Nat.le_of_ble_eq_true rfl) (by decide) ⟨rfl, ?_⟩
                          refine a_if_eq (tgt := 117) (pc := 103) dX4_readDelay_103 (by decide) (fun hc => absurd hc (by decide)) (fun _ => ?_)
                          refine a_aload_n (pc := 106) dX4_readDelay_106 (by decide) rfl ?_
                          refine a_iconst (pc := 107) dX4_readDelay_107 (by decide) ?_
                          refine a_iconst (pc := 108) dX4_readDelay_108 (by decide) ?_
                          refine a_bipush (pc := 109) dX4_readDelay_109 (by decide) (by decide +kernel) ?_
                          refine p_callV (As := [(0, 2), (0, 1), (0, 99)]) (st := []) (st1 := fun r => [(0, r)])  (pc := 111) dX4_readDelay_111 ml_RX4_75 (by decide) s0_267 rfl (by decide) (Nat.le_of_ble_eq_true rfl) rfl (fun _ => rfl) h (fun r29 M30 h => ?_)
                          refine a_if_ne (tgt := 119) (pc := 114) dX4_readDelay_114 (by decide) (fun hc31 => ?_) (fun hc31 => ?_)
                          · replace h := h.1 hc31
                            refine a_aload_n (pc := 119) dX4_readDelay_119 (by decide) rfl ?_
                            refine a_getR (y := 1) (pc := 120) dX4_readDelay_120 fl_RX4_9 (by decide) s0_267 rfl rfl ?_
                            refine a_iload_n (pc := 123) dX4_readDelay_123 rfl ?_
                            refine a_iload_n (pc := 124) dX4_readDelay_124 rfl ?_
                            refine a_iload_n (pc := 125) dX4_readDelay_125 rfl ?_
                            refine a_aload_n (pc := 126) dX4_readDelay_126 (by decide) rfl ?_
                            refine a_getI (y := 4) (pc := 127) dX4_readDelay_127 fl_RX4_26 (by decide) s0_267 (Or.inl rfl) rfl ?_
                            refine p_callV (As := [(0, M3 267 4), (0, M13 267 4), (0, M22 267 4), (0, M30 267 4)]) (st := []) (st1 := fun r => [(0, r)])  (pc := 130) dX4_readDelay_130 ml_RX4_115 (by decide) s0_1 rfl (by decide) (Nat.le_of_ble_eq_true rfl) rfl (fun _ => rfl) h (fun r32 M33 h => ?_)
                            refine a_if_ne (tgt := 147) (pc := 133) dX4_readDelay_133 (by decide) (fun hc34 => ?_) (fun hc34 => ?_)
                            · replace h := h.1 hc34
                              refine a_iconst (pc := 147) dX4_readDelay_147 (by decide) ?_
                              refine a_goto (tgt := 152) (pc := 148) dX4_readDelay_148 (by decide) ?_
                              exact a_iretz (pc := 152) dX4_readDelay_152 rfl rfl (Nat.le_of_ble_eq_true rfl) (by decide) ⟨rfl, h⟩
                            · replace h := h.2 hc34
                              refine a_aload_n (pc := 136) dX4_readDelay_136 (by decide) rfl ?_
                              refine a_aload_n (pc := 137) dX4_readDelay_137 (by decide) rfl ?_
                              refine a_getI (y := 3) (pc := 138) dX4_readDelay_138 fl_RX4_23 (by decide) s0_267 (Or.inl rfl) rfl ?_
                              refine p_inlV (Ex := _) (As := [(0, M33 267 3)]) (st := []) (st1 := fun r => [(0, r)])  (pc := 141) dX4_readDelay_141 ml_RX4_52 (by decide) s0_267 rfl (by decide) (Nat.le_of_ble_eq_true rfl) rfl (fun _ => rfl) (by decide) (by decide) (Nat.le_of_ble_eq_true rfl) rfl ?_
                              refine a_aload_n (pc := 0) dX4_failAt_0 (by decide) rfl ?_
                              refine a_iload_n (pc := 1) dX4_failAt_1 rfl ?_
                              refine a_putI (y := 6) (pc := 2) dX4_failAt_2 fl_RX4_32 (by decide) s0_267 rfl rfl (tyX4_ok 6 (by decide)) rfl ?_
                              refine a_iconst (pc := 5) dX4_failAt_5 (by decide) ?_
                              refine a_iretz (pc := 6) dX4_failAt_6 rfl rfl (Nat.le_of_ble_eq_true rfl) (by decide) ⟨rfl, ?_⟩
                              refine a_if_eq (tgt := 151) (pc := 144) dX4_readDelay_144 (by decide) (fun _ => ?_) (fun hc => absurd (by decide) hc)
                              refine a_iconst (pc := 151) dX4_readDelay_151 (by decide) ?_
                              exact a_iretz (pc := 152) dX4_readDelay_152 rfl rfl (Nat.le_of_ble_eq_true rfl) (by decide) ⟨rfl, h⟩
                          · replace h := h.2 hc31
                            refine a_iconst (pc := 117) dX4_readDelay_117 (by decide) ?_
                            exact a_iretz (pc := 118) dX4_readDelay_118 rfl rfl (Nat.le_of_ble_eq_true rfl) (by decide) ⟨rfl, h⟩
                        · replace h := h.2 hc27
                          refine a_aload_n (pc := 15) dX4_takeByte_15 (by decide) rfl ?_
                          refine a_aload_n (pc := 16) dX4_takeByte_16 (by decide) rfl ?_
                          refine a_getI (y := 2) (pc := 17) dX4_takeByte_17 fl_RX4_19 (by decide) s0_267 (Or.inl rfl) rfl ?_
                          refine p_inlV (Ex := _) (As := [(0, M22 267 2)]) (st := []) (st1 := fun r => [(0, r)])  (pc := 20) dX4_takeByte_20 ml_RX4_52 (by decide) s0_267 rfl (by decide) (Nat.le_of_ble_eq_true rfl) rfl (fun _ => rfl) (by decide) (by decide) (Nat.le_of_ble_eq_true rfl) rfl ?_
                          refine a_aload_n (pc := 0) dX4_failAt_0 (by decide) rfl ?_
                          refine a_iload_n (pc := 1) dX4_failAt_1 rfl ?_
                          refine a_putI (y := 6) (pc := 2) dX4_failAt_2 fl_RX4_32 (by decide) s0_267 rfl rfl (tyX4_ok 6 (by decide)) rfl ?_
                          refine a_iconst (pc := 5) dX4_failAt_5 (by decide) ?_
                          refine a_iretz (pc := 6) dX4_failAt_6 rfl rfl (Nat.le_of_ble_eq_true rfl) (by decide) ⟨rfl, ?_⟩
                          refine a_iretz (pc := 23) dX4_takeByte_23 rfl rfl (Nat.le_of_ble_eq_true rfl) (by decide) ⟨rfl, ?_⟩
                          refine a_if_eq (tgt := 117) (pc := 103) dX4_readDelay_103 (by decide) (fun _ => ?_) (fun hc => absurd (by decide) hc)
                          refine a_iconst (pc := 117) dX4_readDelay_117 (by decide) ?_
                          exact a_iretz (pc := 118) dX4_readDelay_118 rfl rfl (Nat.le_of_ble_eq_true rfl) (by decide) ⟨rfl, h⟩
                  · replace h := h.2 hc23
                    refine a_iconst (pc := 90) dX4_readDelay_90 (by decide) ?_
                    exact a_iretz (pc := 91) dX4_readDelay_91 rfl rfl (Nat.le_of_ble_eq_true rfl) (by decide) ⟨rfl, h⟩
                · replace h := h.2 hc18
                  refine a_aload_n (pc := 15) dX4_takeByte_15 (by decide) rfl ?_
                  refine a_aload_n (pc := 16) dX4_takeByte_16 (by decide) rfl ?_
                  refine a_getI (y := 2) (pc := 17) dX4_takeByte_17 fl_RX4_19 (by decide) s0_267 (Or.inl rfl) rfl ?_
                  refine p_inlV (Ex := _) (As := [(0, M13 267 2)]) (st := []) (st1 := fun r => [(0, r)])  (pc := 20) dX4_takeByte_20 ml_RX4_52 (by decide) s0_267 rfl (by decide) (Nat.le_of_ble_eq_true rfl) rfl (fun _ => rfl) (by decide) (by decide) (Nat.le_of_ble_eq_true rfl) rfl ?_
                  refine a_aload_n (pc := 0) dX4_failAt_0 (by decide) rfl ?_
                  refine a_iload_n (pc := 1) dX4_failAt_1 rfl ?_
                  refine a_putI (y := 6) (pc := 2) dX4_failAt_2 fl_RX4_32 (by decide) s0_267 rfl rfl (tyX4_ok 6 (by decide)) rfl ?_
                  refine a_iconst (pc := 5) dX4_failAt_5 (by decide) ?_
                  refine a_iretz (pc := 6) dX4_failAt_6 rfl rfl (Nat.le_of_ble_eq_true rfl) (by decide) ⟨rfl, ?_⟩
                  refine a_iretz (pc := 23) dX4_takeByte_23 rfl rfl (Nat.le_of_ble_eq_true rfl) (by decide) ⟨rfl, ?_⟩
                  refine a_if_eq (tgt := 90) (pc := 67) dX4_readDelay_67 (by decide) (fun _ => ?_) (fun hc => absurd (by decide) hc)
                  refine a_iconst (pc := 90) dX4_readDelay_90 (by decide) ?_
                  exact a_iretz (pc := 91) dX4_readDelay_91 rfl rfl (Nat.le_of_ble_eq_true rfl) (by decide) ⟨rfl, h⟩
          · replace h := h.2 hc14
            refine a_iconst (pc := 54) dX4_readDelay_54 (by decide) ?_
            exact a_iretz (pc := 55) dX4_readDelay_55 rfl rfl (Nat.le_of_ble_eq_true rfl) (by decide) ⟨rfl, h⟩
        · replace h := h.2 hc8
          refine a_aload_n (pc := 15) dX4_takeByte_15 (by decide) rfl ?_
          refine a_aload_n (pc := 16) dX4_takeByte_16 (by decide) rfl ?_
          refine a_getI (y := 2) (pc := 17) dX4_takeByte_17 fl_RX4_19 (by decide) s0_267 (Or.inl rfl) rfl ?_
          refine p_inlV (Ex := _) (As := [(0, M3 267 2)]) (st := []) (st1 := fun r => [(0, r)])  (pc := 20) dX4_takeByte_20 ml_RX4_52 (by decide) s0_267 rfl (by decide) (Nat.le_of_ble_eq_true rfl) rfl (fun _ => rfl) (by decide) (by decide) (Nat.le_of_ble_eq_true rfl) rfl ?_
          refine a_aload_n (pc := 0) dX4_failAt_0 (by decide) rfl ?_
          refine a_iload_n (pc := 1) dX4_failAt_1 rfl ?_
          refine a_putI (y := 6) (pc := 2) dX4_failAt_2 fl_RX4_32 (by decide) s0_267 rfl rfl (tyX4_ok 6 (by decide)) rfl ?_
          refine a_iconst (pc := 5) dX4_failAt_5 (by decide) ?_
          refine a_iretz (pc := 6) dX4_failAt_6 rfl rfl (Nat.le_of_ble_eq_true rfl) (by decide) ⟨rfl, ?_⟩
          refine a_iretz (pc := 23) dX4_takeByte_23 rfl rfl (Nat.le_of_ble_eq_true rfl) (by decide) ⟨rfl, ?_⟩
          refine a_if_eq (tgt := 54) (pc := 31) dX4_readDelay_31 (by decide) (fun _ => ?_) (fun hc => absurd (by decide) hc)
          refine a_iconst (pc := 54) dX4_readDelay_54 (by decide) ?_
          exact a_iretz (pc := 55) dX4_readDelay_55 rfl rfl (Nat.le_of_ble_eq_true rfl) (by decide) ⟨rfl, h⟩
  · replace h := h.2 hc4
    refine a_iconst (pc := 18) dX4_readDelay_18 (by decide) ?_
    exact a_iretz (pc := 19) dX4_readDelay_19 rfl rfl (Nat.le_of_ble_eq_true rfl) (by decide) ⟨rfl, h⟩
theorem E_Reader_readDelay {M : Mem} {Q : Int → Mem → Prop} (h : AW mX4_readDelay 0 [(2, 267), (9, 0), (9, 0), (9, 0)] M Q) : Calls mX4_readDelay [(2, 267)] S0 M Q := calls_of (by decide) (by decide) (Nat.le_of_ble_eq_true rfl) rfl h
set_option maxRecDepth 100000 in
set_option maxHeartbeats 4000000 in
theorem B_Search_arriveAll_0 {l1 l2 l3 l4 : Int} (ha3 : isA l3 12) (ha4 : isA l4 12) {M : Mem} {Q : Int → Mem → Prop} (h : AW mX6_arriveAll 3 [(2, 229), (0, l1), (0, l2), (2, l3), (2, l4), (0, 0)] M Q) : AW mX6_arriveAll 0 [(2, 229), (0, l1), (0, l2), (2, l3), (2, l4), (9, 0)] M Q := by
  refine a_iconst (pc := 0) dX6_arriveAll_0 (by decide) ?_
  refine a_istore (ls1 := [(2, 229), (0, l1), (0, l2), (2, l3), (2, l4), (0, 0)]) (pc := 1) dX6_arriveAll_1 (by decide) (hp1 (t := 2) rfl (by decide)) rfl ?_
  exact h
set_option maxRecDepth 100000 in
set_option maxHeartbeats 4000000 in
theorem B_Search_arriveAll_3 {l1 l2 l3 l4 l5 : Int} (ha3 : isA l3 12) (ha4 : isA l4 12) {M : Mem} {Q : Int → Mem → Prop} (h : ((12 ≤ l5 → Q 0 M) ∧ (¬ (12 ≤ l5) → ((¬ l5 = (M 229 5) → Calls mX6_arriveAt [(2, 229), (0, l5), (0, l1), (0, l2), (2, l3)] S0 M (fun r3 M4 => ((0 : Int) ≤ l5 ∧ l5 < 12) ∧ (-2147483648 ≤ l5 + 1 ∧ l5 + 1 ≤ 2147483647) ∧ AW mX6_arriveAll 3 [(2, 229), (0, l1), (0, l2), (2, l3), (2, l4), (0, l5 + 1)] (up2 M4 l4 l5 r3) Q)) ∧ (l5 = (M 229 5) → ((0 : Int) ≤ l5 ∧ l5 < 12) ∧ (-2147483648 ≤ l5 + 1 ∧ l5 + 1 ≤ 2147483647) ∧ AW mX6_arriveAll 3 [(2, 229), (0, l1), (0, l2), (2, l3), (2, l4), (0, l5 + 1)] (up2 M l4 l5 10000) Q))))) : AW mX6_arriveAll 3 [(2, 229), (0, l1), (0, l2), (2, l3), (2, l4), (0, l5)] M Q := by
  refine a_iload (pc := 3) dX6_arriveAll_3 rfl ?_
  refine a_bipush (pc := 5) dX6_arriveAll_5 (by decide) (by decide +kernel) ?_
  refine a_icmp_ge (tgt := 45) (pc := 7) dX6_arriveAll_7 (by decide) (fun hc1 => ?_) (fun hc1 => ?_)
  · replace h := h.1 hc1
    exact a_vret (pc := 45) dX6_arriveAll_45 rfl rfl (Nat.le_of_ble_eq_true rfl) ⟨rfl, h⟩
  · replace h := h.2 hc1
    refine a_aload (pc := 10) dX6_arriveAll_10 ha4.1 rfl ?_
    refine a_iload (pc := 12) dX6_arriveAll_12 rfl ?_
    refine a_iload (pc := 14) dX6_arriveAll_14 rfl ?_
    refine a_aload_n (pc := 16) dX6_arriveAll_16 (by decide) rfl ?_
    refine a_getI (y := 5) (pc := 17) dX6_arriveAll_17 fl_RX6_33 (by decide) s0_229 (Or.inl rfl) rfl ?_
    refine a_icmp_ne (tgt := 29) (pc := 20) dX6_arriveAll_20 (by decide) (fun hc2 => ?_) (fun hc2 => ?_)
    · replace h := h.1 hc2
      refine a_aload_n (pc := 29) dX6_arriveAll_29 (by decide) rfl ?_
      refine a_iload (pc := 30) dX6_arriveAll_30 rfl ?_
      refine a_iload_n (pc := 32) dX6_arriveAll_32 rfl ?_
      refine a_iload_n (pc := 33) dX6_arriveAll_33 rfl ?_
      refine a_aload_n (pc := 34) dX6_arriveAll_34 ha3.1 rfl ?_
      refine p_callV (As := [(0, l5), (0, l1), (0, l2), (2, l3)]) (st := [(0, l5), (2, l4)]) (st1 := fun r => [(0, r), (0, l5), (2, l4)])  (pc := 35) dX6_arriveAll_35 ml_RX6_80 (by decide) s0_229 rfl (by decide) (Nat.le_of_ble_eq_true rfl) rfl (fun _ => rfl) h (fun r3 M4 h => ?_)
      have ho5 := h.1
      replace h := h.2
      refine a_iast (pc := 38) dX6_arriveAll_38 ha4.1 ha4.2 ho5.1 ho5.2 ?_
      have ho6 := h.1
      replace h := h.2
      refine a_iinc (ls1 := [(2, 229), (0, l1), (0, l2), (2, l3), (2, l4), (0, l5 + 1)]) (pc := 39) dX6_arriveAll_39 rfl (by decide) (hp1 (t := 2) rfl (by decide)) ho6 rfl ?_
      refine a_goto (tgt := 3) (pc := 42) dX6_arriveAll_42 (by decide) ?_
      exact h
    · replace h := h.2 hc2
      refine a_sipush (pc := 23) dX6_arriveAll_23 (by decide) (by decide +kernel) ?_
      refine a_goto (tgt := 38) (pc := 26) dX6_arriveAll_26 (by decide) ?_
      have ho7 := h.1
      replace h := h.2
      refine a_iast (pc := 38) dX6_arriveAll_38 ha4.1 ha4.2 ho7.1 ho7.2 ?_
      have ho8 := h.1
      replace h := h.2
      refine a_iinc (ls1 := [(2, 229), (0, l1), (0, l2), (2, l3), (2, l4), (0, l5 + 1)]) (pc := 39) dX6_arriveAll_39 rfl (by decide) (hp1 (t := 2) rfl (by decide)) ho8 rfl ?_
      refine a_goto (tgt := 3) (pc := 42) dX6_arriveAll_42 (by decide) ?_
      exact h
theorem E_Search_arriveAll {l1 l2 l3 l4 : Int} {M : Mem} {Q : Int → Mem → Prop} (h : AW mX6_arriveAll 0 [(2, 229), (0, l1), (0, l2), (2, l3), (2, l4), (9, 0)] M Q) : Calls mX6_arriveAll [(2, 229), (0, l1), (0, l2), (2, l3), (2, l4)] S0 M Q := calls_of (by decide) (by decide) (Nat.le_of_ble_eq_true rfl) rfl h
set_option maxRecDepth 100000 in
set_option maxHeartbeats 4000000 in
theorem B_Reader_readLine_0 {M : Mem} {Q : Int → Mem → Prop} (h : (((M 1 0) < 8 → Calls mX4_takeNumber [(2, 267), (0, 1), (0, 0), (0, 5)] S0 M (fun r2 M3 => ((¬ r2 = 0 → ((0 : Int) ≤ M3 1 0 ∧ M3 1 0 < 8) ∧ (-2147483648 ≤ (M3 1 0) + 1 ∧ (M3 1 0) + 1 ≤ 2147483647) ∧ (((M3 267 2) < 0 → Q 0 (up2 (up2 (up2 (up2 (up2 M3 2 (M3 1 0) (M3 267 4)) 3 (M3 1 0) 0) 4 (M3 1 0) 0) 1 0 ((M3 1 0) + 1)) 267 6 (M3 267 2))) ∧ (¬ ((M3 267 2) < 0) → (((M3 263 1) ≤ (M3 267 2) → Q 0 (up2 (up2 (up2 (up2 (up2 M3 2 (M3 1 0) (M3 267 4)) 3 (M3 1 0) 0) 4 (M3 1 0) 0) 1 0 ((M3 1 0) + 1)) 267 6 (M3 267 2))) ∧ (¬ ((M3 263 1) ≤ (M3 267 2)) → ((0 : Int) ≤ M3 267 2 ∧ M3 267 2 < 80) ∧ (((M3 264 (M3 267 2)) = 58 → (-2147483648 ≤ (M3 267 2) + 1 ∧ (M3 267 2) + 1 ≤ 2147483647) ∧ AW mX4_readLine 65 [(2, 267), (0, M3 1 0), (0, 0)] (up2 (up2 (up2 (up2 (up2 M3 2 (M3 1 0) (M3 267 4)) 3 (M3 1 0) 0) 4 (M3 1 0) 0) 1 0 ((M3 1 0) + 1)) 267 2 ((M3 267 2) + 1)) Q) ∧ (¬ (M3 264 (M3 267 2)) = 58 → Q 0 (up2 (up2 (up2 (up2 (up2 M3 2 (M3 1 0) (M3 267 4)) 3 (M3 1 0) 0) 4 (M3 1 0) 0) 1 0 ((M3 1 0) + 1)) 267 6 (M3 267 2))))))))) ∧ (r2 = 0 → Q 0 M3)))) ∧ (¬ ((M 1 0) < 8) → Q 0 (up2 M 267 6 (M 267 3))))) : AW mX4_readLine 0 [(2, 267), (9, 0), (9, 0)] M Q := by
  refine a_aload_n (pc := 0) dX4_readLine_0 (by decide) rfl ?_
  refine a_getR (y := 1) (pc := 1) dX4_readLine_1 fl_RX4_9 (by decide) s0_267 rfl rfl ?_
  refine a_getI (y := 0) (pc := 4) dX4_readLine_4 fl_RX4_70 (by decide) s0_1 (Or.inl rfl) rfl ?_
  refine a_bipush (pc := 7) dX4_readLine_7 (by decide) (by decide +kernel) ?_
  refine a_icmp_lt (tgt := 21) (pc := 9) dX4_readLine_9 (by decide) (fun hc1 => ?_) (fun hc1 => ?_)
  · replace h := h.1 hc1
    refine a_aload_n (pc := 21) dX4_readLine_21 (by decide) rfl ?_
    refine a_iconst (pc := 22) dX4_readLine_22 (by decide) ?_
    refine a_iconst (pc := 23) dX4_readLine_23 (by decide) ?_
    refine a_iconst (pc := 24) dX4_readLine_24 (by decide) ?_
    refine p_callV (As := [(0, 1), (0, 0), (0, 5)]) (st := []) (st1 := fun r => [(0, r)])  (pc := 25) dX4_readLine_25 ml_RX4_75 (by decide) s0_267 rfl (by decide) (Nat.le_of_ble_eq_true rfl) rfl (fun _ => rfl) h (fun r2 M3 h => ?_)
    refine a_if_ne (tgt := 33) (pc := 28) dX4_readLine_28 (by decide) (fun hc4 => ?_) (fun hc4 => ?_)
    · replace h := h.1 hc4
      refine a_aload_n (pc := 33) dX4_readLine_33 (by decide) rfl ?_
      refine a_getR (y := 1) (pc := 34) dX4_readLine_34 fl_RX4_9 (by decide) s0_267 rfl rfl ?_
      refine a_getI (y := 0) (pc := 37) dX4_readLine_37 fl_RX4_70 (by decide) s0_1 (Or.inl rfl) rfl ?_
      refine a_istore_n (ls1 := [(2, 267), (0, M3 1 0), (9, 0)]) (pc := 40) dX4_readLine_40 (by decide) (hp1 (t := 2) rfl (by decide)) rfl ?_
      refine a_aload_n (pc := 41) dX4_readLine_41 (by decide) rfl ?_
      refine a_getR (y := 1) (pc := 42) dX4_readLine_42 fl_RX4_9 (by decide) s0_267 rfl rfl ?_
      refine a_aload_n (pc := 45) dX4_readLine_45 (by decide) rfl ?_
      refine a_getI (y := 4) (pc := 46) dX4_readLine_46 fl_RX4_26 (by decide) s0_267 (Or.inl rfl) rfl ?_
      refine p_inlV (Ex := _) (As := [(0, M3 267 4)]) (st := []) (st1 := fun r => [])  (pc := 49) dX4_readLine_49 ml_RX4_79 (by decide) s0_1 rfl (by decide) (Nat.le_of_ble_eq_true rfl) rfl (fun _ => rfl) (by decide) (by decide) (Nat.le_of_ble_eq_true rfl) rfl ?_
      refine a_aload_n (pc := 0) dX3_beginLine_0 (by decide) rfl ?_
      refine a_getR (y := 2) (pc := 1) dX3_beginLine_1 fl_RX3_15 (by decide) s0_1 rfl rfl ?_
      refine a_aload_n (pc := 4) dX3_beginLine_4 (by decide) rfl ?_
      refine a_getI (y := 0) (pc := 5) dX3_beginLine_5 fl_RX3_9 (by decide) s0_1 (Or.inl rfl) rfl ?_
      refine a_iload_n (pc := 8) dX3_beginLine_8 rfl ?_
      have ho5 := h.1
      replace h := h.2
      refine a_iast (pc := 9) dX3_beginLine_9 (by decide) s0_2 ho5.1 ho5.2 ?_
      refine a_aload_n (pc := 10) dX3_beginLine_10 (by decide) rfl ?_
      refine a_getR (y := 3) (pc := 11) dX3_beginLine_11 fl_RX3_19 (by decide) s0_1 rfl rfl ?_
      refine a_aload_n (pc := 14) dX3_beginLine_14 (by decide) rfl ?_
      refine a_getI (y := 0) (pc := 15) dX3_beginLine_15 fl_RX3_9 (by decide) s0_1 (Or.inl rfl) rfl ?_
      refine a_eq (y := M3 1 0) rfl ?_
      refine a_iconst (pc := 18) dX3_beginLine_18 (by decide) ?_
      refine a_iast (pc := 19) dX3_beginLine_19 (by decide) s0_3 ho5.1 ho5.2 ?_
      refine a_aload_n (pc := 20) dX3_beginLine_20 (by decide) rfl ?_
      refine a_getR (y := 4) (pc := 21) dX3_beginLine_21 fl_RX3_22 (by decide) s0_1 rfl rfl ?_
      refine a_aload_n (pc := 24) dX3_beginLine_24 (by decide) rfl ?_
      refine a_getI (y := 0) (pc := 25) dX3_beginLine_25 fl_RX3_9 (by decide) s0_1 (Or.inl rfl) rfl ?_
      refine a_eq (y := M3 1 0) rfl ?_
      refine a_iconst (pc := 28) dX3_beginLine_28 (by decide) ?_
      refine a_iast (pc := 29) dX3_beginLine_29 (by decide) s0_4 ho5.1 ho5.2 ?_
      refine a_aload_n (pc := 30) dX3_beginLine_30 (by decide) rfl ?_
      refine a_dup (pc := 31) dX3_beginLine_31 n21 ?_
      refine a_getI (y := 0) (pc := 32) dX3_beginLine_32 fl_RX3_9 (by decide) s0_1 (Or.inl rfl) rfl ?_
      refine a_eq (y := M3 1 0) rfl ?_
      refine a_iconst (pc := 35) dX3_beginLine_35 (by decide) ?_
      have ho6 := h.1
      replace h := h.2
      refine a_iadd (pc := 36) dX3_beginLine_36 ho6 ?_
      refine a_putI (y := 0) (pc := 37) dX3_beginLine_37 fl_RX3_9 (by decide) s0_1 rfl rfl (tyX3_ok 0 (by decide)) rfl ?_
      refine a_vret (pc := 40) dX3_beginLine_40 rfl rfl (Nat.le_of_ble_eq_true rfl) ⟨rfl, ?_⟩
      refine a_aload_n (pc := 52) dX4_readLine_52 (by decide) rfl ?_
      refine a_bipush (pc := 53) dX4_readLine_53 (by decide) (by decide +kernel) ?_
      refine p_inlV (Ex := _) (As := [(0, 58)]) (st := []) (st1 := fun r => [(0, r)])  (pc := 55) dX4_readLine_55 ml_RX4_44 (by decide) s0_267 rfl (by decide) (Nat.le_of_ble_eq_true rfl) rfl (fun _ => rfl) (by decide) (by decide) (Nat.le_of_ble_eq_true rfl) rfl ?_
      refine a_aload_n (pc := 0) dX4_takeByte_0 (by decide) rfl ?_
      refine a_getR (y := 263) (pc := 1) dX4_takeByte_1 fl_RX4_15 (by decide) s0_267 rfl rfl ?_
      refine a_aload_n (pc := 4) dX4_takeByte_4 (by decide) rfl ?_
      refine a_getI (y := 2) (pc := 5) dX4_takeByte_5 fl_RX4_19 (by decide) s0_267 (Or.inl rfl) rfl ?_
      refine a_eq (y := M3 267 2) rfl ?_
      refine p_inlV (Ex := _) (As := [(0, M3 267 2)]) (st := []) (st1 := fun r => [(0, r)])  (pc := 8) dX4_takeByte_8 ml_RX4_48 (by decide) s0_263 rfl (by decide) (Nat.le_of_ble_eq_true rfl) rfl (fun _ => rfl) (by decide) (by decide) (Nat.le_of_ble_eq_true rfl) rfl ?_
      refine a_iload_n (pc := 0) dX7_byteAt_0 rfl ?_
      refine a_if_lt (tgt := 21) (pc := 1) dX7_byteAt_1 (by decide) (fun hc7 => ?_) (fun hc7 => ?_)
      · replace h := h.1 hc7
        refine a_iconst (pc := 21) dX7_byteAt_21 (by decide) ?_
        refine a_ireti (pc := 22) dX7_byteAt_22 rfl rfl (Nat.le_of_ble_eq_true rfl) ⟨rfl, ?_⟩
        refine a_iload_n (pc := 11) dX4_takeByte_11 rfl ?_
        refine a_icmp_eq (tgt := 24) (pc := 12) dX4_takeByte_12 (by decide) (fun hc => absurd hc (by decide)) (fun _ => ?_)
        refine a_aload_n (pc := 15) dX4_takeByte_15 (by decide) rfl ?_
        refine a_aload_n (pc := 16) dX4_takeByte_16 (by decide) rfl ?_
        refine a_getI (y := 2) (pc := 17) dX4_takeByte_17 fl_RX4_19 (by decide) s0_267 (Or.inl rfl) rfl ?_
        refine a_eq (y := M3 267 2) rfl ?_
        refine p_inlV (Ex := _) (As := [(0, M3 267 2)]) (st := []) (st1 := fun r => [(0, r)])  (pc := 20) dX4_takeByte_20 ml_RX4_52 (by decide) s0_267 rfl (by decide) (Nat.le_of_ble_eq_true rfl) rfl (fun _ => rfl) (by decide) (by decide) (Nat.le_of_ble_eq_true rfl) rfl ?_
        refine a_aload_n (pc := 0) dX4_failAt_0 (by decide) rfl ?_
        refine a_iload_n (pc := 1) dX4_failAt_1 rfl ?_
        refine a_putI (y := 6) (pc := 2) dX4_failAt_2 fl_RX4_32 (by decide) s0_267 rfl rfl (tyX4_ok 6 (by decide)) rfl ?_
        refine a_iconst (pc := 5) dX4_failAt_5 (by decide) ?_
        refine a_iretz (pc := 6) dX4_failAt_6 rfl rfl (Nat.le_of_ble_eq_true rfl) (by decide) ⟨rfl, ?_⟩
        refine a_iretz (pc := 23) dX4_takeByte_23 rfl rfl (Nat.le_of_ble_eq_true rfl) (by decide) ⟨rfl, ?_⟩
        refine a_if_ne (tgt := 63) (pc := 58) dX4_readLine_58 (by decide) (fun hc => absurd rfl hc) (fun _ => ?_)
        refine a_iconst (pc := 61) dX4_readLine_61 (by decide) ?_
        exact a_iretz (pc := 62) dX4_readLine_62 rfl rfl (Nat.le_of_ble_eq_true rfl) (by decide) ⟨rfl, h⟩
      · replace h := h.2 hc7
        refine a_iload_n (pc := 4) dX7_byteAt_4 rfl ?_
        refine a_aload_n (pc := 5) dX7_byteAt_5 (by decide) rfl ?_
        refine a_getI (y := 1) (pc := 6) dX7_byteAt_6 fl_RX7_19 (by decide) s0_263 (Or.inl rfl) rfl ?_
        refine a_eq (y := M3 263 1) rfl ?_
        refine a_icmp_ge (tgt := 21) (pc := 9) dX7_byteAt_9 (by decide) (fun hc8 => ?_) (fun hc8 => ?_)
        · replace h := h.1 hc8
          refine a_iconst (pc := 21) dX7_byteAt_21 (by decide) ?_
          refine a_ireti (pc := 22) dX7_byteAt_22 rfl rfl (Nat.le_of_ble_eq_true rfl) ⟨rfl, ?_⟩
          refine a_iload_n (pc := 11) dX4_takeByte_11 rfl ?_
          refine a_icmp_eq (tgt := 24) (pc := 12) dX4_takeByte_12 (by decide) (fun hc => absurd hc (by decide)) (fun _ => ?_)
          refine a_aload_n (pc := 15) dX4_takeByte_15 (by decide) rfl ?_
          refine a_aload_n (pc := 16) dX4_takeByte_16 (by decide) rfl ?_
          refine a_getI (y := 2) (pc := 17) dX4_takeByte_17 fl_RX4_19 (by decide) s0_267 (Or.inl rfl) rfl ?_
          refine a_eq (y := M3 267 2) rfl ?_
          refine p_inlV (Ex := _) (As := [(0, M3 267 2)]) (st := []) (st1 := fun r => [(0, r)])  (pc := 20) dX4_takeByte_20 ml_RX4_52 (by decide) s0_267 rfl (by decide) (Nat.le_of_ble_eq_true rfl) rfl (fun _ => rfl) (by decide) (by decide) (Nat.le_of_ble_eq_true rfl) rfl ?_
          refine a_aload_n (pc := 0) dX4_failAt_0 (by decide) rfl ?_
          refine a_iload_n (pc := 1) dX4_failAt_1 rfl ?_
          refine a_putI (y := 6) (pc := 2) dX4_failAt_2 fl_RX4_32 (by decide) s0_267 rfl rfl (tyX4_ok 6 (by decide)) rfl ?_
          refine a_iconst (pc := 5) dX4_failAt_5 (by decide) ?_
          refine a_iretz (pc := 6) dX4_failAt_6 rfl rfl (Nat.le_of_ble_eq_true rfl) (by decide) ⟨rfl, ?_⟩
          refine a_iretz (pc := 23) dX4_takeByte_23 rfl rfl (Nat.le_of_ble_eq_true rfl) (by decide) ⟨rfl, ?_⟩
          refine a_if_ne (tgt := 63) (pc := 58) dX4_readLine_58 (by decide) (fun hc => absurd rfl hc) (fun _ => ?_)
          refine a_iconst (pc := 61) dX4_readLine_61 (by decide) ?_
          exact a_iretz (pc := 62) dX4_readLine_62 rfl rfl (Nat.le_of_ble_eq_true rfl) (by decide) ⟨rfl, h⟩
        · replace h := h.2 hc8
          refine a_aload_n (pc := 12) dX7_byteAt_12 (by decide) rfl ?_
          refine a_getR (y := 264) (pc := 13) dX7_byteAt_13 fl_RX7_13 (by decide) s0_263 rfl rfl ?_
          refine a_iload_n (pc := 16) dX7_byteAt_16 rfl ?_
          have ho9 := h.1
          replace h := h.2
          refine a_iald (pc := 17) dX7_byteAt_17 (by decide) s0_264 ho9.1 ho9.2 ?_
          refine a_eq (y := M3 264 (M3 267 2)) rfl ?_
          refine a_goto (tgt := 22) (pc := 18) dX7_byteAt_18 (by decide) ?_
          refine a_ireti (pc := 22) dX7_byteAt_22 rfl rfl (Nat.le_of_ble_eq_true rfl) ⟨rfl, ?_⟩
          refine a_iload_n (pc := 11) dX4_takeByte_11 rfl ?_
          refine a_icmp_eq (tgt := 24) (pc := 12) dX4_takeByte_12 (by decide) (fun hc10 => ?_) (fun hc10 => ?_)
          · replace h := h.1 hc10
            refine a_aload_n (pc := 24) dX4_takeByte_24 (by decide) rfl ?_
            refine a_dup (pc := 25) dX4_takeByte_25 n21 ?_
            refine a_getI (y := 2) (pc := 26) dX4_takeByte_26 fl_RX4_19 (by decide) s0_267 (Or.inl rfl) rfl ?_
            refine a_eq (y := M3 267 2) rfl ?_
            refine a_iconst (pc := 29) dX4_takeByte_29 (by decide) ?_
            have ho11 := h.1
            replace h := h.2
            refine a_iadd (pc := 30) dX4_takeByte_30 ho11 ?_
            refine a_putI (y := 2) (pc := 31) dX4_takeByte_31 fl_RX4_19 (by decide) s0_267 rfl rfl (tyX4_ok 2 (by decide)) rfl ?_
            refine a_iconst (pc := 34) dX4_takeByte_34 (by decide) ?_
            refine a_iretz (pc := 35) dX4_takeByte_35 rfl rfl (Nat.le_of_ble_eq_true rfl) (by decide) ⟨rfl, ?_⟩
            refine a_if_ne (tgt := 63) (pc := 58) dX4_readLine_58 (by decide) (fun _ => ?_) (fun hc => absurd hc (by decide))
            refine a_iconst (pc := 63) dX4_readLine_63 (by decide) ?_
            refine a_istore_n (ls1 := [(2, 267), (0, M3 1 0), (0, 0)]) (pc := 64) dX4_readLine_64 (by decide) (hp1 (t := 0) rfl (by decide)) rfl ?_
            exact h
          · replace h := h.2 hc10
            refine a_aload_n (pc := 15) dX4_takeByte_15 (by decide) rfl ?_
            refine a_aload_n (pc := 16) dX4_takeByte_16 (by decide) rfl ?_
            refine a_getI (y := 2) (pc := 17) dX4_takeByte_17 fl_RX4_19 (by decide) s0_267 (Or.inl rfl) rfl ?_
            refine a_eq (y := M3 267 2) rfl ?_
            refine p_inlV (Ex := _) (As := [(0, M3 267 2)]) (st := []) (st1 := fun r => [(0, r)])  (pc := 20) dX4_takeByte_20 ml_RX4_52 (by decide) s0_267 rfl (by decide) (Nat.le_of_ble_eq_true rfl) rfl (fun _ => rfl) (by decide) (by decide) (Nat.le_of_ble_eq_true rfl) rfl ?_
            refine a_aload_n (pc := 0) dX4_failAt_0 (by decide) rfl ?_
            refine a_iload_n (pc := 1) dX4_failAt_1 rfl ?_
            refine a_putI (y := 6) (pc := 2) dX4_failAt_2 fl_RX4_32 (by decide) s0_267 rfl rfl (tyX4_ok 6 (by decide)) rfl ?_
            refine a_iconst (pc := 5) dX4_failAt_5 (by decide) ?_
            refine a_iretz (pc := 6) dX4_failAt_6 rfl rfl (Nat.le_of_ble_eq_true rfl) (by decide) ⟨rfl, ?_⟩
            refine a_iretz (pc := 23) dX4_takeByte_23 rfl rfl (Nat.le_of_ble_eq_true rfl) (by decide) ⟨rfl, ?_⟩
            refine a_if_ne (tgt := 63) (pc := 58) dX4_readLine_58 (by decide) (fun hc => absurd rfl hc) (fun _ => ?_)
            refine a_iconst (pc := 61) dX4_readLine_61 (by decide) ?_
            exact a_iretz (pc := 62) dX4_readLine_62 rfl rfl (Nat.le_of_ble_eq_true rfl) (by decide) ⟨rfl, h⟩
    · replace h := h.2 hc4
      refine a_iconst (pc := 31) dX4_readLine_31 (by decide) ?_
      exact a_iretz (pc := 32) dX4_readLine_32 rfl rfl (Nat.le_of_ble_eq_true rfl) (by decide) ⟨rfl, h⟩
  · replace h := h.2 hc1
    refine a_aload_n (pc := 12) dX4_readLine_12 (by decide) rfl ?_
    refine a_aload_n (pc := 13) dX4_readLine_13 (by decide) rfl ?_
    refine a_getI (y := 3) (pc := 14) dX4_readLine_14 fl_RX4_23 (by decide) s0_267 (Or.inl rfl) rfl ?_
    refine p_inlV (Ex := _) (As := [(0, M 267 3)]) (st := []) (st1 := fun r => [(0, r)])  (pc := 17) dX4_readLine_17 ml_RX4_52 (by decide) s0_267 rfl (by decide) (Nat.le_of_ble_eq_true rfl) rfl (fun _ => rfl) (by decide) (by decide) (Nat.le_of_ble_eq_true rfl) rfl ?_
    refine a_aload_n (pc := 0) dX4_failAt_0 (by decide) rfl ?_
    refine a_iload_n (pc := 1) dX4_failAt_1 rfl ?_
    refine a_putI (y := 6) (pc := 2) dX4_failAt_2 fl_RX4_32 (by decide) s0_267 rfl rfl (tyX4_ok 6 (by decide)) rfl ?_
    refine a_iconst (pc := 5) dX4_failAt_5 (by decide) ?_
    refine a_iretz (pc := 6) dX4_failAt_6 rfl rfl (Nat.le_of_ble_eq_true rfl) (by decide) ⟨rfl, ?_⟩
    exact a_iretz (pc := 20) dX4_readLine_20 rfl rfl (Nat.le_of_ble_eq_true rfl) (by decide) ⟨rfl, h⟩
set_option maxRecDepth 100000 in
set_option maxHeartbeats 4000000 in
theorem B_Reader_readLine_65 {l1 l2 : Int} {M : Mem} {Q : Int → Mem → Prop} (h : ((6 ≤ l2 → Q 1 M) ∧ (¬ (6 ≤ l2) → ((l2 < 2 → ((l2 ≤ 0 → Calls mX4_takeNumber [(2, 267), (0, 2), (0, 0), (0, 11)] S0 M (fun r4 M5 => (r4 = 0 ∨ r4 = 1) ∧ ((¬ r4 = 0 → Calls mX3_placeOf [(2, 1), (0, l1), (0, M5 267 4)] S0 M5 (fun r8 M9 => ((r8 < 0 → ((0 : Int) ≤ l1 ∧ l1 < 8) ∧ ((0 : Int) ≤ M9 3 l1 ∧ M9 3 l1 < 6) ∧ (-2147483648 ≤ ((up2 M9 (6 + l1) (M9 3 l1) (M9 267 4)) 3 l1) + 1 ∧ ((up2 M9 (6 + l1) (M9 3 l1) (M9 267 4)) 3 l1) + 1 ≤ 2147483647) ∧ (-2147483648 ≤ l2 + 1 ∧ l2 + 1 ≤ 2147483647) ∧ AW mX4_readLine 65 [(2, 267), (0, l1), (0, l2 + 1)] (up2 (up2 M9 (6 + l1) (M9 3 l1) (M9 267 4)) 3 l1 (((up2 M9 (6 + l1) (M9 3 l1) (M9 267 4)) 3 l1) + 1)) Q) ∧ (¬ (r8 < 0) → Q 0 (up2 M9 267 6 (M9 267 5)))))) ∧ (r4 = 0 → Q 0 M5)))) ∧ (¬ (l2 ≤ 0) → (((M 267 2) < 0 → Q 0 (up2 M 267 6 (M 267 2))) ∧ (¬ ((M 267 2) < 0) → (((M 263 1) ≤ (M 267 2) → Q 0 (up2 M 267 6 (M 267 2))) ∧ (¬ ((M 263 1) ≤ (M 267 2)) → ((0 : Int) ≤ M 267 2 ∧ M 267 2 < 80) ∧ (((M 264 (M 267 2)) = 62 → (-2147483648 ≤ (M 267 2) + 1 ∧ (M 267 2) + 1 ≤ 2147483647) ∧ Calls mX4_takeNumber [(2, 267), (0, 2), (0, 0), (0, 11)] S0 (up2 M 267 2 ((M 267 2) + 1)) (fun r21 M22 => (r21 = 0 ∨ r21 = 1) ∧ ((¬ r21 = 0 → Calls mX3_placeOf [(2, 1), (0, l1), (0, M22 267 4)] S0 M22 (fun r25 M26 => ((r25 < 0 → ((0 : Int) ≤ l1 ∧ l1 < 8) ∧ ((0 : Int) ≤ M26 3 l1 ∧ M26 3 l1 < 6) ∧ (-2147483648 ≤ ((up2 M26 (6 + l1) (M26 3 l1) (M26 267 4)) 3 l1) + 1 ∧ ((up2 M26 (6 + l1) (M26 3 l1) (M26 267 4)) 3 l1) + 1 ≤ 2147483647) ∧ (-2147483648 ≤ l2 + 1 ∧ l2 + 1 ≤ 2147483647) ∧ AW mX4_readLine 65 [(2, 267), (0, l1), (0, l2 + 1)] (up2 (up2 M26 (6 + l1) (M26 3 l1) (M26 267 4)) 3 l1 (((up2 M26 (6 + l1) (M26 3 l1) (M26 267 4)) 3 l1) + 1)) Q) ∧ (¬ (r25 < 0) → Q 0 (up2 M26 267 6 (M26 267 5)))))) ∧ (r21 = 0 → Q 0 M22)))) ∧ (¬ (M 264 (M 267 2)) = 62 → Q 0 (up2 M 267 6 (M 267 2))))))))))) ∧ (¬ (l2 < 2) → (((M 263 1) ≤ (M 267 2) → Q 1 M) ∧ (¬ ((M 263 1) ≤ (M 267 2)) → (((M 267 2) < 0 → ((l2 ≤ 0 → Calls mX4_takeNumber [(2, 267), (0, 2), (0, 0), (0, 11)] S0 M (fun r36 M37 => (r36 = 0 ∨ r36 = 1) ∧ ((¬ r36 = 0 → Calls mX3_placeOf [(2, 1), (0, l1), (0, M37 267 4)] S0 M37 (fun r40 M41 => ((r40 < 0 → ((0 : Int) ≤ l1 ∧ l1 < 8) ∧ ((0 : Int) ≤ M41 3 l1 ∧ M41 3 l1 < 6) ∧ (-2147483648 ≤ ((up2 M41 (6 + l1) (M41 3 l1) (M41 267 4)) 3 l1) + 1 ∧ ((up2 M41 (6 + l1) (M41 3 l1) (M41 267 4)) 3 l1) + 1 ≤ 2147483647) ∧ (-2147483648 ≤ l2 + 1 ∧ l2 + 1 ≤ 2147483647) ∧ AW mX4_readLine 65 [(2, 267), (0, l1), (0, l2 + 1)] (up2 (up2 M41 (6 + l1) (M41 3 l1) (M41 267 4)) 3 l1 (((up2 M41 (6 + l1) (M41 3 l1) (M41 267 4)) 3 l1) + 1)) Q) ∧ (¬ (r40 < 0) → Q 0 (up2 M41 267 6 (M41 267 5)))))) ∧ (r36 = 0 → Q 0 M37)))) ∧ (¬ (l2 ≤ 0) → Q 0 (up2 M 267 6 (M 267 2))))) ∧ (¬ ((M 267 2) < 0) → ((0 : Int) ≤ M 267 2 ∧ M 267 2 < 80) ∧ ((¬ (M 264 (M 267 2)) = 59 → ((l2 ≤ 0 → Calls mX4_takeNumber [(2, 267), (0, 2), (0, 0), (0, 11)] S0 M (fun r51 M52 => (r51 = 0 ∨ r51 = 1) ∧ ((¬ r51 = 0 → Calls mX3_placeOf [(2, 1), (0, l1), (0, M52 267 4)] S0 M52 (fun r55 M56 => ((r55 < 0 → ((0 : Int) ≤ l1 ∧ l1 < 8) ∧ ((0 : Int) ≤ M56 3 l1 ∧ M56 3 l1 < 6) ∧ (-2147483648 ≤ ((up2 M56 (6 + l1) (M56 3 l1) (M56 267 4)) 3 l1) + 1 ∧ ((up2 M56 (6 + l1) (M56 3 l1) (M56 267 4)) 3 l1) + 1 ≤ 2147483647) ∧ (-2147483648 ≤ l2 + 1 ∧ l2 + 1 ≤ 2147483647) ∧ AW mX4_readLine 65 [(2, 267), (0, l1), (0, l2 + 1)] (up2 (up2 M56 (6 + l1) (M56 3 l1) (M56 267 4)) 3 l1 (((up2 M56 (6 + l1) (M56 3 l1) (M56 267 4)) 3 l1) + 1)) Q) ∧ (¬ (r55 < 0) → Q 0 (up2 M56 267 6 (M56 267 5)))))) ∧ (r51 = 0 → Q 0 M52)))) ∧ (¬ (l2 ≤ 0) → (((M 264 (M 267 2)) = 62 → (-2147483648 ≤ (M 267 2) + 1 ∧ (M 267 2) + 1 ≤ 2147483647) ∧ Calls mX4_takeNumber [(2, 267), (0, 2), (0, 0), (0, 11)] S0 (up2 M 267 2 ((M 267 2) + 1)) (fun r65 M66 => (r65 = 0 ∨ r65 = 1) ∧ ((¬ r65 = 0 → Calls mX3_placeOf [(2, 1), (0, l1), (0, M66 267 4)] S0 M66 (fun r69 M70 => ((r69 < 0 → ((0 : Int) ≤ l1 ∧ l1 < 8) ∧ ((0 : Int) ≤ M70 3 l1 ∧ M70 3 l1 < 6) ∧ (-2147483648 ≤ ((up2 M70 (6 + l1) (M70 3 l1) (M70 267 4)) 3 l1) + 1 ∧ ((up2 M70 (6 + l1) (M70 3 l1) (M70 267 4)) 3 l1) + 1 ≤ 2147483647) ∧ (-2147483648 ≤ l2 + 1 ∧ l2 + 1 ≤ 2147483647) ∧ AW mX4_readLine 65 [(2, 267), (0, l1), (0, l2 + 1)] (up2 (up2 M70 (6 + l1) (M70 3 l1) (M70 267 4)) 3 l1 (((up2 M70 (6 + l1) (M70 3 l1) (M70 267 4)) 3 l1) + 1)) Q) ∧ (¬ (r69 < 0) → Q 0 (up2 M70 267 6 (M70 267 5)))))) ∧ (r65 = 0 → Q 0 M66)))) ∧ (¬ (M 264 (M 267 2)) = 62 → Q 0 (up2 M 267 6 (M 267 2))))))) ∧ ((M 264 (M 267 2)) = 59 → Q 1 M))))))))))) : AW mX4_readLine 65 [(2, 267), (0, l1), (0, l2)] M Q := by
  refine a_iload_n (pc := 65) dX4_readLine_65 rfl ?_
  refine a_bipush (pc := 66) dX4_readLine_66 (by decide) (by decide +kernel) ?_
  refine a_icmp_ge (tgt := 151) (pc := 68) dX4_readLine_68 (by decide) (fun hc1 => ?_) (fun hc1 => ?_)
  · replace h := h.1 hc1
    refine a_iconst (pc := 151) dX4_readLine_151 (by decide) ?_
    exact a_iretz (pc := 152) dX4_readLine_152 rfl rfl (Nat.le_of_ble_eq_true rfl) (by decide) ⟨rfl, h⟩
  · replace h := h.2 hc1
    refine a_iload_n (pc := 71) dX4_readLine_71 rfl ?_
    refine a_iconst (pc := 72) dX4_readLine_72 (by decide) ?_
    refine a_icmp_lt (tgt := 85) (pc := 73) dX4_readLine_73 (by decide) (fun hc2 => ?_) (fun hc2 => ?_)
    · replace h := h.1 hc2
      refine a_iload_n (pc := 85) dX4_readLine_85 rfl ?_
      refine a_if_le (tgt := 100) (pc := 86) dX4_readLine_86 (by decide) (fun hc3 => ?_) (fun hc3 => ?_)
      · replace h := h.1 hc3
        refine a_aload_n (pc := 100) dX4_readLine_100 (by decide) rfl ?_
        refine p_inlV (Ex := _) (As := []) (st := []) (st1 := fun r => [(0, r)])  (pc := 101) dX4_readLine_101 ml_RX4_86 (by decide) s0_267 rfl (by decide) (Nat.le_of_ble_eq_true rfl) rfl (fun _ => rfl) (by decide) (by decide) (Nat.le_of_ble_eq_true rfl) rfl ?_
        refine a_aload_n (pc := 0) dX4_takeStop_0 (by decide) rfl ?_
        refine a_iconst (pc := 1) dX4_takeStop_1 (by decide) ?_
        refine a_iconst (pc := 2) dX4_takeStop_2 (by decide) ?_
        refine a_bipush (pc := 3) dX4_takeStop_3 (by decide) (by decide +kernel) ?_
        refine p_callV (As := [(0, 2), (0, 0), (0, 11)]) (st := []) (st1 := fun r => [(0, r)])  (pc := 5) dX4_takeStop_5 ml_RX4_75 (by decide) s0_267 rfl (by decide) (Nat.le_of_ble_eq_true rfl) rfl (fun _ => rfl) h (fun r4 M5 h => ?_)
        have ho6 := h.1
        replace h := h.2
        refine a_iretz (pc := 8) dX4_takeStop_8 rfl rfl (Nat.le_of_ble_eq_true rfl) ho6 ⟨rfl, ?_⟩
        refine a_if_ne (tgt := 109) (pc := 104) dX4_readLine_104 (by decide) (fun hc7 => ?_) (fun hc7 => ?_)
        · replace h := h.1 hc7
          refine a_aload_n (pc := 109) dX4_readLine_109 (by decide) rfl ?_
          refine a_getR (y := 1) (pc := 110) dX4_readLine_110 fl_RX4_9 (by decide) s0_267 rfl rfl ?_
          refine a_iload_n (pc := 113) dX4_readLine_113 rfl ?_
          refine a_aload_n (pc := 114) dX4_readLine_114 (by decide) rfl ?_
          refine a_getI (y := 4) (pc := 115) dX4_readLine_115 fl_RX4_26 (by decide) s0_267 (Or.inl rfl) rfl ?_
          refine p_callV (As := [(0, l1), (0, M5 267 4)]) (st := []) (st1 := fun r => [(0, r)])  (pc := 118) dX4_readLine_118 ml_RX4_89 (by decide) s0_1 rfl (by decide) (Nat.le_of_ble_eq_true rfl) rfl (fun _ => rfl) h (fun r8 M9 h => ?_)
          refine a_if_lt (tgt := 133) (pc := 121) dX4_readLine_121 (by decide) (fun hc10 => ?_) (fun hc10 => ?_)
          · replace h := h.1 hc10
            refine a_aload_n (pc := 133) dX4_readLine_133 (by decide) rfl ?_
            refine a_getR (y := 1) (pc := 134) dX4_readLine_134 fl_RX4_9 (by decide) s0_267 rfl rfl ?_
            refine a_iload_n (pc := 137) dX4_readLine_137 rfl ?_
            refine a_aload_n (pc := 138) dX4_readLine_138 (by decide) rfl ?_
            refine a_getI (y := 4) (pc := 139) dX4_readLine_139 fl_RX4_26 (by decide) s0_267 (Or.inl rfl) rfl ?_
            refine p_inlV (Ex := _) (As := [(0, l1), (0, M9 267 4)]) (st := []) (st1 := fun r => [])  (pc := 142) dX4_readLine_142 ml_RX4_93 (by decide) s0_1 rfl (by decide) (Nat.le_of_ble_eq_true rfl) rfl (fun _ => rfl) (by decide) (by decide) (Nat.le_of_ble_eq_true rfl) rfl ?_
            refine a_aload_n (pc := 0) dX3_addStop_0 (by decide) rfl ?_
            refine a_getR (y := 5) (pc := 1) dX3_addStop_1 fl_RX3_27 (by decide) s0_1 rfl rfl ?_
            refine a_iload_n (pc := 4) dX3_addStop_4 rfl ?_
            have ho11 := h.1
            replace h := h.2
            have hr12 := rw_5 l1 ho11.1 ho11.2
            refine a_aald (y := 6 + l1) (pc := 5) dX3_addStop_5 (by decide) s0_5 ho11.1 ho11.2 (by omega) ?_
            refine a_aload_n (pc := 6) dX3_addStop_6 (by decide) rfl ?_
            refine a_getR (y := 3) (pc := 7) dX3_addStop_7 fl_RX3_19 (by decide) s0_1 rfl rfl ?_
            refine a_iload_n (pc := 10) dX3_addStop_10 rfl ?_
            refine a_iald (pc := 11) dX3_addStop_11 (by decide) s0_3 ho11.1 ho11.2 ?_
            refine a_iload_n (pc := 12) dX3_addStop_12 rfl ?_
            have ho13 := h.1
            replace h := h.2
            refine a_iast (pc := 13) dX3_addStop_13 hr12.1 hr12.2 ho13.1 ho13.2 ?_
            refine a_aload_n (pc := 14) dX3_addStop_14 (by decide) rfl ?_
            refine a_getR (y := 3) (pc := 15) dX3_addStop_15 fl_RX3_19 (by decide) s0_1 rfl rfl ?_
            refine a_iload_n (pc := 18) dX3_addStop_18 rfl ?_
            refine a_dup2 (pc := 19) dX3_addStop_19 n01 n21 ?_
            refine a_iald (pc := 20) dX3_addStop_20 (by decide) s0_3 ho11.1 ho11.2 ?_
            refine a_iconst (pc := 21) dX3_addStop_21 (by decide) ?_
            have ho14 := h.1
            replace h := h.2
            refine a_iadd (pc := 22) dX3_addStop_22 ho14 ?_
            refine a_iast (pc := 23) dX3_addStop_23 (by decide) s0_3 ho11.1 ho11.2 ?_
            refine a_vret (pc := 24) dX3_addStop_24 rfl rfl (Nat.le_of_ble_eq_true rfl) ⟨rfl, ?_⟩
            have ho15 := h.1
            replace h := h.2
            refine a_iinc (ls1 := [(2, 267), (0, l1), (0, l2 + 1)]) (pc := 145) dX4_readLine_145 rfl (by decide) (hp1 (t := 0) rfl (by decide)) ho15 rfl ?_
            refine a_goto (tgt := 65) (pc := 148) dX4_readLine_148 (by decide) ?_
            exact h
          · replace h := h.2 hc10
            refine a_aload_n (pc := 124) dX4_readLine_124 (by decide) rfl ?_
            refine a_aload_n (pc := 125) dX4_readLine_125 (by decide) rfl ?_
            refine a_getI (y := 5) (pc := 126) dX4_readLine_126 fl_RX4_29 (by decide) s0_267 (Or.inl rfl) rfl ?_
            refine p_inlV (Ex := _) (As := [(0, M9 267 5)]) (st := []) (st1 := fun r => [(0, r)])  (pc := 129) dX4_readLine_129 ml_RX4_52 (by decide) s0_267 rfl (by decide) (Nat.le_of_ble_eq_true rfl) rfl (fun _ => rfl) (by decide) (by decide) (Nat.le_of_ble_eq_true rfl) rfl ?_
            refine a_aload_n (pc := 0) dX4_failAt_0 (by decide) rfl ?_
            refine a_iload_n (pc := 1) dX4_failAt_1 rfl ?_
            refine a_putI (y := 6) (pc := 2) dX4_failAt_2 fl_RX4_32 (by decide) s0_267 rfl rfl (tyX4_ok 6 (by decide)) rfl ?_
            refine a_iconst (pc := 5) dX4_failAt_5 (by decide) ?_
            refine a_iretz (pc := 6) dX4_failAt_6 rfl rfl (Nat.le_of_ble_eq_true rfl) (by decide) ⟨rfl, ?_⟩
            exact a_iretz (pc := 132) dX4_readLine_132 rfl rfl (Nat.le_of_ble_eq_true rfl) (by decide) ⟨rfl, h⟩
        · replace h := h.2 hc7
          refine a_iconst (pc := 107) dX4_readLine_107 (by decide) ?_
          exact a_iretz (pc := 108) dX4_readLine_108 rfl rfl (Nat.le_of_ble_eq_true rfl) (by decide) ⟨rfl, h⟩
      · replace h := h.2 hc3
        refine a_aload_n (pc := 89) dX4_readLine_89 (by decide) rfl ?_
        refine a_bipush (pc := 90) dX4_readLine_90 (by decide) (by decide +kernel) ?_
        refine p_inlV (Ex := _) (As := [(0, 62)]) (st := []) (st1 := fun r => [(0, r)])  (pc := 92) dX4_readLine_92 ml_RX4_44 (by decide) s0_267 rfl (by decide) (Nat.le_of_ble_eq_true rfl) rfl (fun _ => rfl) (by decide) (by decide) (Nat.le_of_ble_eq_true rfl) rfl ?_
        refine a_aload_n (pc := 0) dX4_takeByte_0 (by decide) rfl ?_
        refine a_getR (y := 263) (pc := 1) dX4_takeByte_1 fl_RX4_15 (by decide) s0_267 rfl rfl ?_
        refine a_aload_n (pc := 4) dX4_takeByte_4 (by decide) rfl ?_
        refine a_getI (y := 2) (pc := 5) dX4_takeByte_5 fl_RX4_19 (by decide) s0_267 (Or.inl rfl) rfl ?_
        refine p_inlV (Ex := _) (As := [(0, M 267 2)]) (st := []) (st1 := fun r => [(0, r)])  (pc := 8) dX4_takeByte_8 ml_RX4_48 (by decide) s0_263 rfl (by decide) (Nat.le_of_ble_eq_true rfl) rfl (fun _ => rfl) (by decide) (by decide) (Nat.le_of_ble_eq_true rfl) rfl ?_
        refine a_iload_n (pc := 0) dX7_byteAt_0 rfl ?_
        refine a_if_lt (tgt := 21) (pc := 1) dX7_byteAt_1 (by decide) (fun hc16 => ?_) (fun hc16 => ?_)
        · replace h := h.1 hc16
          refine a_iconst (pc := 21) dX7_byteAt_21 (by decide) ?_
          refine a_ireti (pc := 22) dX7_byteAt_22 rfl rfl (Nat.le_of_ble_eq_true rfl) ⟨rfl, ?_⟩
          refine a_iload_n (pc := 11) dX4_takeByte_11 rfl ?_
          refine a_icmp_eq (tgt := 24) (pc := 12) dX4_takeByte_12 (by decide) (fun hc => absurd hc (by decide)) (fun _ => ?_)
          refine a_aload_n (pc := 15) dX4_takeByte_15 (by decide) rfl ?_
          refine a_aload_n (pc := 16) dX4_takeByte_16 (by decide) rfl ?_
          refine a_getI (y := 2) (pc := 17) dX4_takeByte_17 fl_RX4_19 (by decide) s0_267 (Or.inl rfl) rfl ?_
          refine p_inlV (Ex := _) (As := [(0, M 267 2)]) (st := []) (st1 := fun r => [(0, r)])  (pc := 20) dX4_takeByte_20 ml_RX4_52 (by decide) s0_267 rfl (by decide) (Nat.le_of_ble_eq_true rfl) rfl (fun _ => rfl) (by decide) (by decide) (Nat.le_of_ble_eq_true rfl) rfl ?_
          refine a_aload_n (pc := 0) dX4_failAt_0 (by decide) rfl ?_
          refine a_iload_n (pc := 1) dX4_failAt_1 rfl ?_
          refine a_putI (y := 6) (pc := 2) dX4_failAt_2 fl_RX4_32 (by decide) s0_267 rfl rfl (tyX4_ok 6 (by decide)) rfl ?_
          refine a_iconst (pc := 5) dX4_failAt_5 (by decide) ?_
          refine a_iretz (pc := 6) dX4_failAt_6 rfl rfl (Nat.le_of_ble_eq_true rfl) (by decide) ⟨rfl, ?_⟩
          refine a_iretz (pc := 23) dX4_takeByte_23 rfl rfl (Nat.le_of_ble_eq_true rfl) (by decide) ⟨rfl, ?_⟩
          refine a_if_ne (tgt := 100) (pc := 95) dX4_readLine_95 (by decide) (fun hc => absurd rfl hc) (fun _ => ?_)
          refine a_iconst (pc := 98) dX4_readLine_98 (by decide) ?_
          exact a_iretz (pc := 99) dX4_readLine_99 rfl rfl (Nat.le_of_ble_eq_true rfl) (by decide) ⟨rfl, h⟩
        · replace h := h.2 hc16
          refine a_iload_n (pc := 4) dX7_byteAt_4 rfl ?_
          refine a_aload_n (pc := 5) dX7_byteAt_5 (by decide) rfl ?_
          refine a_getI (y := 1) (pc := 6) dX7_byteAt_6 fl_RX7_19 (by decide) s0_263 (Or.inl rfl) rfl ?_
          refine a_icmp_ge (tgt := 21) (pc := 9) dX7_byteAt_9 (by decide) (fun hc17 => ?_) (fun hc17 => ?_)
          · replace h := h.1 hc17
            refine a_iconst (pc := 21) dX7_byteAt_21 (by decide) ?_
            refine a_ireti (pc := 22) dX7_byteAt_22 rfl rfl (Nat.le_of_ble_eq_true rfl) ⟨rfl, ?_⟩
            refine a_iload_n (pc := 11) dX4_takeByte_11 rfl ?_
            refine a_icmp_eq (tgt := 24) (pc := 12) dX4_takeByte_12 (by decide) (fun hc => absurd hc (by decide)) (fun _ => ?_)
            refine a_aload_n (pc := 15) dX4_takeByte_15 (by decide) rfl ?_
            refine a_aload_n (pc := 16) dX4_takeByte_16 (by decide) rfl ?_
            refine a_getI (y := 2) (pc := 17) dX4_takeByte_17 fl_RX4_19 (by decide) s0_267 (Or.inl rfl) rfl ?_
            refine p_inlV (Ex := _) (As := [(0, M 267 2)]) (st := []) (st1 := fun r => [(0, r)])  (pc := 20) dX4_takeByte_20 ml_RX4_52 (by decide) s0_267 rfl (by decide) (Nat.le_of_ble_eq_true rfl) rfl (fun _ => rfl) (by decide) (by decide) (Nat.le_of_ble_eq_true rfl) rfl ?_
            refine a_aload_n (pc := 0) dX4_failAt_0 (by decide) rfl ?_
            refine a_iload_n (pc := 1) dX4_failAt_1 rfl ?_
            refine a_putI (y := 6) (pc := 2) dX4_failAt_2 fl_RX4_32 (by decide) s0_267 rfl rfl (tyX4_ok 6 (by decide)) rfl ?_
            refine a_iconst (pc := 5) dX4_failAt_5 (by decide) ?_
            refine a_iretz (pc := 6) dX4_failAt_6 rfl rfl (Nat.le_of_ble_eq_true rfl) (by decide) ⟨rfl, ?_⟩
            refine a_iretz (pc := 23) dX4_takeByte_23 rfl rfl (Nat.le_of_ble_eq_true rfl) (by decide) ⟨rfl, ?_⟩
            refine a_if_ne (tgt := 100) (pc := 95) dX4_readLine_95 (by decide) (fun hc => absurd rfl hc) (fun _ => ?_)
            refine a_iconst (pc := 98) dX4_readLine_98 (by decide) ?_
            exact a_iretz (pc := 99) dX4_readLine_99 rfl rfl (Nat.le_of_ble_eq_true rfl) (by decide) ⟨rfl, h⟩
          · replace h := h.2 hc17
            refine a_aload_n (pc := 12) dX7_byteAt_12 (by decide) rfl ?_
            refine a_getR (y := 264) (pc := 13) dX7_byteAt_13 fl_RX7_13 (by decide) s0_263 rfl rfl ?_
            refine a_iload_n (pc := 16) dX7_byteAt_16 rfl ?_
            have ho18 := h.1
            replace h := h.2
            refine a_iald (pc := 17) dX7_byteAt_17 (by decide) s0_264 ho18.1 ho18.2 ?_
            refine a_goto (tgt := 22) (pc := 18) dX7_byteAt_18 (by decide) ?_
            refine a_ireti (pc := 22) dX7_byteAt_22 rfl rfl (Nat.le_of_ble_eq_true rfl) ⟨rfl, ?_⟩
            refine a_iload_n (pc := 11) dX4_takeByte_11 rfl ?_
            refine a_icmp_eq (tgt := 24) (pc := 12) dX4_takeByte_12 (by decide) (fun hc19 => ?_) (fun hc19 => ?_)
            · replace h := h.1 hc19
              refine a_aload_n (pc := 24) dX4_takeByte_24 (by decide) rfl ?_
              refine a_dup (pc := 25) dX4_takeByte_25 n21 ?_
              refine a_getI (y := 2) (pc := 26) dX4_takeByte_26 fl_RX4_19 (by decide) s0_267 (Or.inl rfl) rfl ?_
              refine a_iconst (pc := 29) dX4_takeByte_29 (by decide) ?_
              have ho20 := h.1
              replace h := h.2
              refine a_iadd (pc := 30) dX4_takeByte_30 ho20 ?_
              refine a_putI (y := 2) (pc := 31) dX4_takeByte_31 fl_RX4_19 (by decide) s0_267 rfl rfl (tyX4_ok 2 (by decide)) rfl ?_
              refine a_iconst (pc := 34) dX4_takeByte_34 (by decide) ?_
              refine a_iretz (pc := 35) dX4_takeByte_35 rfl rfl (Nat.le_of_ble_eq_true rfl) (by decide) ⟨rfl, ?_⟩
              refine a_if_ne (tgt := 100) (pc := 95) dX4_readLine_95 (by decide) (fun _ => ?_) (fun hc => absurd hc (by decide))
              refine a_aload_n (pc := 100) dX4_readLine_100 (by decide) rfl ?_
              refine p_inlV (Ex := _) (As := []) (st := []) (st1 := fun r => [(0, r)])  (pc := 101) dX4_readLine_101 ml_RX4_86 (by decide) s0_267 rfl (by decide) (Nat.le_of_ble_eq_true rfl) rfl (fun _ => rfl) (by decide) (by decide) (Nat.le_of_ble_eq_true rfl) rfl ?_
              refine a_aload_n (pc := 0) dX4_takeStop_0 (by decide) rfl ?_
              refine a_iconst (pc := 1) dX4_takeStop_1 (by decide) ?_
              refine a_iconst (pc := 2) dX4_takeStop_2 (by decide) ?_
              refine a_bipush (pc := 3) dX4_takeStop_3 (by decide) (by decide +kernel) ?_
              refine p_callV (As := [(0, 2), (0, 0), (0, 11)]) (st := []) (st1 := fun r => [(0, r)])  (pc := 5) dX4_takeStop_5 ml_RX4_75 (by decide) s0_267 rfl (by decide) (Nat.le_of_ble_eq_true rfl) rfl (fun _ => rfl) h (fun r21 M22 h => ?_)
              have ho23 := h.1
              replace h := h.2
              refine a_iretz (pc := 8) dX4_takeStop_8 rfl rfl (Nat.le_of_ble_eq_true rfl) ho23 ⟨rfl, ?_⟩
              refine a_if_ne (tgt := 109) (pc := 104) dX4_readLine_104 (by decide) (fun hc24 => ?_) (fun hc24 => ?_)
              · replace h := h.1 hc24
                refine a_aload_n (pc := 109) dX4_readLine_109 (by decide) rfl ?_
                refine a_getR (y := 1) (pc := 110) dX4_readLine_110 fl_RX4_9 (by decide) s0_267 rfl rfl ?_
                refine a_iload_n (pc := 113) dX4_readLine_113 rfl ?_
                refine a_aload_n (pc := 114) dX4_readLine_114 (by decide) rfl ?_
                refine a_getI (y := 4) (pc := 115) dX4_readLine_115 fl_RX4_26 (by decide) s0_267 (Or.inl rfl) rfl ?_
                refine p_callV (As := [(0, l1), (0, M22 267 4)]) (st := []) (st1 := fun r => [(0, r)])  (pc := 118) dX4_readLine_118 ml_RX4_89 (by decide) s0_1 rfl (by decide) (Nat.le_of_ble_eq_true rfl) rfl (fun _ => rfl) h (fun r25 M26 h => ?_)
                refine a_if_lt (tgt := 133) (pc := 121) dX4_readLine_121 (by decide) (fun hc27 => ?_) (fun hc27 => ?_)
                · replace h := h.1 hc27
                  refine a_aload_n (pc := 133) dX4_readLine_133 (by decide) rfl ?_
                  refine a_getR (y := 1) (pc := 134) dX4_readLine_134 fl_RX4_9 (by decide) s0_267 rfl rfl ?_
                  refine a_iload_n (pc := 137) dX4_readLine_137 rfl ?_
                  refine a_aload_n (pc := 138) dX4_readLine_138 (by decide) rfl ?_
                  refine a_getI (y := 4) (pc := 139) dX4_readLine_139 fl_RX4_26 (by decide) s0_267 (Or.inl rfl) rfl ?_
                  refine p_inlV (Ex := _) (As := [(0, l1), (0, M26 267 4)]) (st := []) (st1 := fun r => [])  (pc := 142) dX4_readLine_142 ml_RX4_93 (by decide) s0_1 rfl (by decide) (Nat.le_of_ble_eq_true rfl) rfl (fun _ => rfl) (by decide) (by decide) (Nat.le_of_ble_eq_true rfl) rfl ?_
                  refine a_aload_n (pc := 0) dX3_addStop_0 (by decide) rfl ?_
                  refine a_getR (y := 5) (pc := 1) dX3_addStop_1 fl_RX3_27 (by decide) s0_1 rfl rfl ?_
                  refine a_iload_n (pc := 4) dX3_addStop_4 rfl ?_
                  have ho28 := h.1
                  replace h := h.2
                  have hr29 := rw_5 l1 ho28.1 ho28.2
                  refine a_aald (y := 6 + l1) (pc := 5) dX3_addStop_5 (by decide) s0_5 ho28.1 ho28.2 (by omega) ?_
                  refine a_aload_n (pc := 6) dX3_addStop_6 (by decide) rfl ?_
                  refine a_getR (y := 3) (pc := 7) dX3_addStop_7 fl_RX3_19 (by decide) s0_1 rfl rfl ?_
                  refine a_iload_n (pc := 10) dX3_addStop_10 rfl ?_
                  refine a_iald (pc := 11) dX3_addStop_11 (by decide) s0_3 ho28.1 ho28.2 ?_
                  refine a_iload_n (pc := 12) dX3_addStop_12 rfl ?_
                  have ho30 := h.1
                  replace h := h.2
                  refine a_iast (pc := 13) dX3_addStop_13 hr29.1 hr29.2 ho30.1 ho30.2 ?_
                  refine a_aload_n (pc := 14) dX3_addStop_14 (by decide) rfl ?_
                  refine a_getR (y := 3) (pc := 15) dX3_addStop_15 fl_RX3_19 (by decide) s0_1 rfl rfl ?_
                  refine a_iload_n (pc := 18) dX3_addStop_18 rfl ?_
                  refine a_dup2 (pc := 19) dX3_addStop_19 n01 n21 ?_
                  refine a_iald (pc := 20) dX3_addStop_20 (by decide) s0_3 ho28.1 ho28.2 ?_
                  refine a_iconst (pc := 21) dX3_addStop_21 (by decide) ?_
                  have ho31 := h.1
                  replace h := h.2
                  refine a_iadd (pc := 22) dX3_addStop_22 ho31 ?_
                  refine a_iast (pc := 23) dX3_addStop_23 (by decide) s0_3 ho28.1 ho28.2 ?_
                  refine a_vret (pc := 24) dX3_addStop_24 rfl rfl (Nat.le_of_ble_eq_true rfl) ⟨rfl, ?_⟩
                  have ho32 := h.1
                  replace h := h.2
                  refine a_iinc (ls1 := [(2, 267), (0, l1), (0, l2 + 1)]) (pc := 145) dX4_readLine_145 rfl (by decide) (hp1 (t := 0) rfl (by decide)) ho32 rfl ?_
                  refine a_goto (tgt := 65) (pc := 148) dX4_readLine_148 (by decide) ?_
                  exact h
                · replace h := h.2 hc27
                  refine a_aload_n (pc := 124) dX4_readLine_124 (by decide) rfl ?_
                  refine a_aload_n (pc := 125) dX4_readLine_125 (by decide) rfl ?_
                  refine a_getI (y := 5) (pc := 126) dX4_readLine_126 fl_RX4_29 (by decide) s0_267 (Or.inl rfl) rfl ?_
                  refine p_inlV (Ex := _) (As := [(0, M26 267 5)]) (st := []) (st1 := fun r => [(0, r)])  (pc := 129) dX4_readLine_129 ml_RX4_52 (by decide) s0_267 rfl (by decide) (Nat.le_of_ble_eq_true rfl) rfl (fun _ => rfl) (by decide) (by decide) (Nat.le_of_ble_eq_true rfl) rfl ?_
                  refine a_aload_n (pc := 0) dX4_failAt_0 (by decide) rfl ?_
                  refine a_iload_n (pc := 1) dX4_failAt_1 rfl ?_
                  refine a_putI (y := 6) (pc := 2) dX4_failAt_2 fl_RX4_32 (by decide) s0_267 rfl rfl (tyX4_ok 6 (by decide)) rfl ?_
                  refine a_iconst (pc := 5) dX4_failAt_5 (by decide) ?_
                  refine a_iretz (pc := 6) dX4_failAt_6 rfl rfl (Nat.le_of_ble_eq_true rfl) (by decide) ⟨rfl, ?_⟩
                  exact a_iretz (pc := 132) dX4_readLine_132 rfl rfl (Nat.le_of_ble_eq_true rfl) (by decide) ⟨rfl, h⟩
              · replace h := h.2 hc24
                refine a_iconst (pc := 107) dX4_readLine_107 (by decide) ?_
                exact a_iretz (pc := 108) dX4_readLine_108 rfl rfl (Nat.le_of_ble_eq_true rfl) (by decide) ⟨rfl, h⟩
            · replace h := h.2 hc19
              refine a_aload_n (pc := 15) dX4_takeByte_15 (by decide) rfl ?_
              refine a_aload_n (pc := 16) dX4_takeByte_16 (by decide) rfl ?_
              refine a_getI (y := 2) (pc := 17) dX4_takeByte_17 fl_RX4_19 (by decide) s0_267 (Or.inl rfl) rfl ?_
              refine p_inlV (Ex := _) (As := [(0, M 267 2)]) (st := []) (st1 := fun r => [(0, r)])  (pc := 20) dX4_takeByte_20 ml_RX4_52 (by decide) s0_267 rfl (by decide) (Nat.le_of_ble_eq_true rfl) rfl (fun _ => rfl) (by decide) (by decide) (Nat.le_of_ble_eq_true rfl) rfl ?_
              refine a_aload_n (pc := 0) dX4_failAt_0 (by decide) rfl ?_
              refine a_iload_n (pc := 1) dX4_failAt_1 rfl ?_
              refine a_putI (y := 6) (pc := 2) dX4_failAt_2 fl_RX4_32 (by decide) s0_267 rfl rfl (tyX4_ok 6 (by decide)) rfl ?_
              refine a_iconst (pc := 5) dX4_failAt_5 (by decide) ?_
              refine a_iretz (pc := 6) dX4_failAt_6 rfl rfl (Nat.le_of_ble_eq_true rfl) (by decide) ⟨rfl, ?_⟩
              refine a_iretz (pc := 23) dX4_takeByte_23 rfl rfl (Nat.le_of_ble_eq_true rfl) (by decide) ⟨rfl, ?_⟩
              refine a_if_ne (tgt := 100) (pc := 95) dX4_readLine_95 (by decide) (fun hc => absurd rfl hc) (fun _ => ?_)
              refine a_iconst (pc := 98) dX4_readLine_98 (by decide) ?_
              exact a_iretz (pc := 99) dX4_readLine_99 rfl rfl (Nat.le_of_ble_eq_true rfl) (by decide) ⟨rfl, h⟩
    · replace h := h.2 hc2
      refine a_aload_n (pc := 76) dX4_readLine_76 (by decide) rfl ?_
      refine p_inlV (Ex := _) (As := []) (st := []) (st1 := fun r => [(0, r)])  (pc := 77) dX4_readLine_77 ml_RX4_83 (by decide) s0_267 rfl (by decide) (Nat.le_of_ble_eq_true rfl) rfl (fun _ => rfl) (by decide) (by decide) (Nat.le_of_ble_eq_true rfl) rfl ?_
      refine a_aload_n (pc := 0) dX4_isPartEnd_0 (by decide) rfl ?_
      refine a_getI (y := 2) (pc := 1) dX4_isPartEnd_1 fl_RX4_19 (by decide) s0_267 (Or.inl rfl) rfl ?_
      refine a_aload_n (pc := 4) dX4_isPartEnd_4 (by decide) rfl ?_
      refine a_getR (y := 263) (pc := 5) dX4_isPartEnd_5 fl_RX4_15 (by decide) s0_267 rfl rfl ?_
      refine a_getI (y := 1) (pc := 8) dX4_isPartEnd_8 fl_RX4_39 (by decide) s0_263 (Or.inl rfl) rfl ?_
      refine a_icmp_ge (tgt := 30) (pc := 11) dX4_isPartEnd_11 (by decide) (fun hc33 => ?_) (fun hc33 => ?_)
      · replace h := h.1 hc33
        refine a_iconst (pc := 30) dX4_isPartEnd_30 (by decide) ?_
        refine a_goto (tgt := 35) (pc := 31) dX4_isPartEnd_31 (by decide) ?_
        refine a_iretz (pc := 35) dX4_isPartEnd_35 rfl rfl (Nat.le_of_ble_eq_true rfl) (by decide) ⟨rfl, ?_⟩
        refine a_if_eq (tgt := 85) (pc := 80) dX4_readLine_80 (by decide) (fun hc => absurd hc (by decide)) (fun _ => ?_)
        refine a_iconst (pc := 83) dX4_readLine_83 (by decide) ?_
        exact a_iretz (pc := 84) dX4_readLine_84 rfl rfl (Nat.le_of_ble_eq_true rfl) (by decide) ⟨rfl, h⟩
      · replace h := h.2 hc33
        refine a_aload_n (pc := 14) dX4_isPartEnd_14 (by decide) rfl ?_
        refine a_getR (y := 263) (pc := 15) dX4_isPartEnd_15 fl_RX4_15 (by decide) s0_267 rfl rfl ?_
        refine a_aload_n (pc := 18) dX4_isPartEnd_18 (by decide) rfl ?_
        refine a_getI (y := 2) (pc := 19) dX4_isPartEnd_19 fl_RX4_19 (by decide) s0_267 (Or.inl rfl) rfl ?_
        refine p_inlV (Ex := _) (As := [(0, M 267 2)]) (st := []) (st1 := fun r => [(0, r)])  (pc := 22) dX4_isPartEnd_22 ml_RX4_48 (by decide) s0_263 rfl (by decide) (Nat.le_of_ble_eq_true rfl) rfl (fun _ => rfl) (by decide) (by decide) (Nat.le_of_ble_eq_true rfl) rfl ?_
        refine a_iload_n (pc := 0) dX7_byteAt_0 rfl ?_
        refine a_if_lt (tgt := 21) (pc := 1) dX7_byteAt_1 (by decide) (fun hc34 => ?_) (fun hc34 => ?_)
        · replace h := h.1 hc34
          refine a_iconst (pc := 21) dX7_byteAt_21 (by decide) ?_
          refine a_ireti (pc := 22) dX7_byteAt_22 rfl rfl (Nat.le_of_ble_eq_true rfl) ⟨rfl, ?_⟩
          refine a_bipush (pc := 25) dX4_isPartEnd_25 (by decide) (by decide +kernel) ?_
          refine a_icmp_ne (tgt := 34) (pc := 27) dX4_isPartEnd_27 (by decide) (fun _ => ?_) (fun hc => absurd hc (by decide))
          refine a_iconst (pc := 34) dX4_isPartEnd_34 (by decide) ?_
          refine a_iretz (pc := 35) dX4_isPartEnd_35 rfl rfl (Nat.le_of_ble_eq_true rfl) (by decide) ⟨rfl, ?_⟩
          refine a_if_eq (tgt := 85) (pc := 80) dX4_readLine_80 (by decide) (fun _ => ?_) (fun hc => absurd (by decide) hc)
          refine a_iload_n (pc := 85) dX4_readLine_85 rfl ?_
          refine a_if_le (tgt := 100) (pc := 86) dX4_readLine_86 (by decide) (fun hc35 => ?_) (fun hc35 => ?_)
          · replace h := h.1 hc35
            refine a_aload_n (pc := 100) dX4_readLine_100 (by decide) rfl ?_
            refine p_inlV (Ex := _) (As := []) (st := []) (st1 := fun r => [(0, r)])  (pc := 101) dX4_readLine_101 ml_RX4_86 (by decide) s0_267 rfl (by decide) (Nat.le_of_ble_eq_true rfl) rfl (fun _ => rfl) (by decide) (by decide) (Nat.le_of_ble_eq_true rfl) rfl ?_
            refine a_aload_n (pc := 0) dX4_takeStop_0 (by decide) rfl ?_
            refine a_iconst (pc := 1) dX4_takeStop_1 (by decide) ?_
            refine a_iconst (pc := 2) dX4_takeStop_2 (by decide) ?_
            refine a_bipush (pc := 3) dX4_takeStop_3 (by decide) (by decide +kernel) ?_
            refine p_callV (As := [(0, 2), (0, 0), (0, 11)]) (st := []) (st1 := fun r => [(0, r)])  (pc := 5) dX4_takeStop_5 ml_RX4_75 (by decide) s0_267 rfl (by decide) (Nat.le_of_ble_eq_true rfl) rfl (fun _ => rfl) h (fun r36 M37 h => ?_)
            have ho38 := h.1
            replace h := h.2
            refine a_iretz (pc := 8) dX4_takeStop_8 rfl rfl (Nat.le_of_ble_eq_true rfl) ho38 ⟨rfl, ?_⟩
            refine a_if_ne (tgt := 109) (pc := 104) dX4_readLine_104 (by decide) (fun hc39 => ?_) (fun hc39 => ?_)
            · replace h := h.1 hc39
              refine a_aload_n (pc := 109) dX4_readLine_109 (by decide) rfl ?_
              refine a_getR (y := 1) (pc := 110) dX4_readLine_110 fl_RX4_9 (by decide) s0_267 rfl rfl ?_
              refine a_iload_n (pc := 113) dX4_readLine_113 rfl ?_
              refine a_aload_n (pc := 114) dX4_readLine_114 (by decide) rfl ?_
              refine a_getI (y := 4) (pc := 115) dX4_readLine_115 fl_RX4_26 (by decide) s0_267 (Or.inl rfl) rfl ?_
              refine p_callV (As := [(0, l1), (0, M37 267 4)]) (st := []) (st1 := fun r => [(0, r)])  (pc := 118) dX4_readLine_118 ml_RX4_89 (by decide) s0_1 rfl (by decide) (Nat.le_of_ble_eq_true rfl) rfl (fun _ => rfl) h (fun r40 M41 h => ?_)
              refine a_if_lt (tgt := 133) (pc := 121) dX4_readLine_121 (by decide) (fun hc42 => ?_) (fun hc42 => ?_)
              · replace h := h.1 hc42
                refine a_aload_n (pc := 133) dX4_readLine_133 (by decide) rfl ?_
                refine a_getR (y := 1) (pc := 134) dX4_readLine_134 fl_RX4_9 (by decide) s0_267 rfl rfl ?_
                refine a_iload_n (pc := 137) dX4_readLine_137 rfl ?_
                refine a_aload_n (pc := 138) dX4_readLine_138 (by decide) rfl ?_
                refine a_getI (y := 4) (pc := 139) dX4_readLine_139 fl_RX4_26 (by decide) s0_267 (Or.inl rfl) rfl ?_
                refine p_inlV (Ex := _) (As := [(0, l1), (0, M41 267 4)]) (st := []) (st1 := fun r => [])  (pc := 142) dX4_readLine_142 ml_RX4_93 (by decide) s0_1 rfl (by decide) (Nat.le_of_ble_eq_true rfl) rfl (fun _ => rfl) (by decide) (by decide) (Nat.le_of_ble_eq_true rfl) rfl ?_
                refine a_aload_n (pc := 0) dX3_addStop_0 (by decide) rfl ?_
                refine a_getR (y := 5) (pc := 1) dX3_addStop_1 fl_RX3_27 (by decide) s0_1 rfl rfl ?_
                refine a_iload_n (pc := 4) dX3_addStop_4 rfl ?_
                have ho43 := h.1
                replace h := h.2
                have hr44 := rw_5 l1 ho43.1 ho43.2
                refine a_aald (y := 6 + l1) (pc := 5) dX3_addStop_5 (by decide) s0_5 ho43.1 ho43.2 (by omega) ?_
                refine a_aload_n (pc := 6) dX3_addStop_6 (by decide) rfl ?_
                refine a_getR (y := 3) (pc := 7) dX3_addStop_7 fl_RX3_19 (by decide) s0_1 rfl rfl ?_
                refine a_iload_n (pc := 10) dX3_addStop_10 rfl ?_
                refine a_iald (pc := 11) dX3_addStop_11 (by decide) s0_3 ho43.1 ho43.2 ?_
                refine a_iload_n (pc := 12) dX3_addStop_12 rfl ?_
                have ho45 := h.1
                replace h := h.2
                refine a_iast (pc := 13) dX3_addStop_13 hr44.1 hr44.2 ho45.1 ho45.2 ?_
                refine a_aload_n (pc := 14) dX3_addStop_14 (by decide) rfl ?_
                refine a_getR (y := 3) (pc := 15) dX3_addStop_15 fl_RX3_19 (by decide) s0_1 rfl rfl ?_
                refine a_iload_n (pc := 18) dX3_addStop_18 rfl ?_
                refine a_dup2 (pc := 19) dX3_addStop_19 n01 n21 ?_
                refine a_iald (pc := 20) dX3_addStop_20 (by decide) s0_3 ho43.1 ho43.2 ?_
                refine a_iconst (pc := 21) dX3_addStop_21 (by decide) ?_
                have ho46 := h.1
                replace h := h.2
                refine a_iadd (pc := 22) dX3_addStop_22 ho46 ?_
                refine a_iast (pc := 23) dX3_addStop_23 (by decide) s0_3 ho43.1 ho43.2 ?_
                refine a_vret (pc := 24) dX3_addStop_24 rfl rfl (Nat.le_of_ble_eq_true rfl) ⟨rfl, ?_⟩
                have ho47 := h.1
                replace h := h.2
                refine a_iinc (ls1 := [(2, 267), (0, l1), (0, l2 + 1)]) (pc := 145) dX4_readLine_145 rfl (by decide) (hp1 (t := 0) rfl (by decide)) ho47 rfl ?_
                refine a_goto (tgt := 65) (pc := 148) dX4_readLine_148 (by decide) ?_
                exact h
              · replace h := h.2 hc42
                refine a_aload_n (pc := 124) dX4_readLine_124 (by decide) rfl ?_
                refine a_aload_n (pc := 125) dX4_readLine_125 (by decide) rfl ?_
                refine a_getI (y := 5) (pc := 126) dX4_readLine_126 fl_RX4_29 (by decide) s0_267 (Or.inl rfl) rfl ?_
                refine p_inlV (Ex := _) (As := [(0, M41 267 5)]) (st := []) (st1 := fun r => [(0, r)])  (pc := 129) dX4_readLine_129 ml_RX4_52 (by decide) s0_267 rfl (by decide) (Nat.le_of_ble_eq_true rfl) rfl (fun _ => rfl) (by decide) (by decide) (Nat.le_of_ble_eq_true rfl) rfl ?_
                refine a_aload_n (pc := 0) dX4_failAt_0 (by decide) rfl ?_
                refine a_iload_n (pc := 1) dX4_failAt_1 rfl ?_
                refine a_putI (y := 6) (pc := 2) dX4_failAt_2 fl_RX4_32 (by decide) s0_267 rfl rfl (tyX4_ok 6 (by decide)) rfl ?_
                refine a_iconst (pc := 5) dX4_failAt_5 (by decide) ?_
                refine a_iretz (pc := 6) dX4_failAt_6 rfl rfl (Nat.le_of_ble_eq_true rfl) (by decide) ⟨rfl, ?_⟩
                exact a_iretz (pc := 132) dX4_readLine_132 rfl rfl (Nat.le_of_ble_eq_true rfl) (by decide) ⟨rfl, h⟩
            · replace h := h.2 hc39
              refine a_iconst (pc := 107) dX4_readLine_107 (by decide) ?_
              exact a_iretz (pc := 108) dX4_readLine_108 rfl rfl (Nat.le_of_ble_eq_true rfl) (by decide) ⟨rfl, h⟩
          · replace h := h.2 hc35
            refine a_aload_n (pc := 89) dX4_readLine_89 (by decide) rfl ?_
            refine a_bipush (pc := 90) dX4_readLine_90 (by decide) (by decide +kernel) ?_
            refine p_inlV (Ex := _) (As := [(0, 62)]) (st := []) (st1 := fun r => [(0, r)])  (pc := 92) dX4_readLine_92 ml_RX4_44 (by decide) s0_267 rfl (by decide) (Nat.le_of_ble_eq_true rfl) rfl (fun _ => rfl) (by decide) (by decide) (Nat.le_of_ble_eq_true rfl) rfl ?_
            refine a_aload_n (pc := 0) dX4_takeByte_0 (by decide) rfl ?_
            refine a_getR (y := 263) (pc := 1) dX4_takeByte_1 fl_RX4_15 (by decide) s0_267 rfl rfl ?_
            refine a_aload_n (pc := 4) dX4_takeByte_4 (by decide) rfl ?_
            refine a_getI (y := 2) (pc := 5) dX4_takeByte_5 fl_RX4_19 (by decide) s0_267 (Or.inl rfl) rfl ?_
            refine p_inlV (Ex := _) (As := [(0, M 267 2)]) (st := []) (st1 := fun r => [(0, r)])  (pc := 8) dX4_takeByte_8 ml_RX4_48 (by decide) s0_263 rfl (by decide) (Nat.le_of_ble_eq_true rfl) rfl (fun _ => rfl) (by decide) (by decide) (Nat.le_of_ble_eq_true rfl) rfl ?_
            refine a_iload_n (pc := 0) dX7_byteAt_0 rfl ?_
            refine a_if_lt (tgt := 21) (pc := 1) dX7_byteAt_1 (by decide) (fun _ => ?_) (fun hc => absurd hc34 hc)
            refine a_iconst (pc := 21) dX7_byteAt_21 (by decide) ?_
            refine a_ireti (pc := 22) dX7_byteAt_22 rfl rfl (Nat.le_of_ble_eq_true rfl) ⟨rfl, ?_⟩
            refine a_iload_n (pc := 11) dX4_takeByte_11 rfl ?_
            refine a_icmp_eq (tgt := 24) (pc := 12) dX4_takeByte_12 (by decide) (fun hc => absurd hc (by decide)) (fun _ => ?_)
            refine a_aload_n (pc := 15) dX4_takeByte_15 (by decide) rfl ?_
            refine a_aload_n (pc := 16) dX4_takeByte_16 (by decide) rfl ?_
            refine a_getI (y := 2) (pc := 17) dX4_takeByte_17 fl_RX4_19 (by decide) s0_267 (Or.inl rfl) rfl ?_
            refine p_inlV (Ex := _) (As := [(0, M 267 2)]) (st := []) (st1 := fun r => [(0, r)])  (pc := 20) dX4_takeByte_20 ml_RX4_52 (by decide) s0_267 rfl (by decide) (Nat.le_of_ble_eq_true rfl) rfl (fun _ => rfl) (by decide) (by decide) (Nat.le_of_ble_eq_true rfl) rfl ?_
            refine a_aload_n (pc := 0) dX4_failAt_0 (by decide) rfl ?_
            refine a_iload_n (pc := 1) dX4_failAt_1 rfl ?_
            refine a_putI (y := 6) (pc := 2) dX4_failAt_2 fl_RX4_32 (by decide) s0_267 rfl rfl (tyX4_ok 6 (by decide)) rfl ?_
            refine a_iconst (pc := 5) dX4_failAt_5 (by decide) ?_
            refine a_iretz (pc := 6) dX4_failAt_6 rfl rfl (Nat.le_of_ble_eq_true rfl) (by decide) ⟨rfl, ?_⟩
            refine a_iretz (pc := 23) dX4_takeByte_23 rfl rfl (Nat.le_of_ble_eq_true rfl) (by decide) ⟨rfl, ?_⟩
            refine a_if_ne (tgt := 100) (pc := 95) dX4_readLine_95 (by decide) (fun hc => absurd rfl hc) (fun _ => ?_)
            refine a_iconst (pc := 98) dX4_readLine_98 (by decide) ?_
            exact a_iretz (pc := 99) dX4_readLine_99 rfl rfl (Nat.le_of_ble_eq_true rfl) (by decide) ⟨rfl, h⟩
        · replace h := h.2 hc34
          refine a_iload_n (pc := 4) dX7_byteAt_4 rfl ?_
          refine a_aload_n (pc := 5) dX7_byteAt_5 (by decide) rfl ?_
          refine a_getI (y := 1) (pc := 6) dX7_byteAt_6 fl_RX7_19 (by decide) s0_263 (Or.inl rfl) rfl ?_
          refine a_icmp_ge (tgt := 21) (pc := 9) dX7_byteAt_9 (by decide) (fun hc => absurd hc hc33) (fun _ => ?_)
          refine a_aload_n (pc := 12) dX7_byteAt_12 (by decide) rfl ?_
          refine a_getR (y := 264) (pc := 13) dX7_byteAt_13 fl_RX7_13 (by decide) s0_263 rfl rfl ?_
          refine a_iload_n (pc := 16) dX7_byteAt_16 rfl ?_
          have ho48 := h.1
          replace h := h.2
          refine a_iald (pc := 17) dX7_byteAt_17 (by decide) s0_264 ho48.1 ho48.2 ?_
          refine a_goto (tgt := 22) (pc := 18) dX7_byteAt_18 (by decide) ?_
          refine a_ireti (pc := 22) dX7_byteAt_22 rfl rfl (Nat.le_of_ble_eq_true rfl) ⟨rfl, ?_⟩
          refine a_bipush (pc := 25) dX4_isPartEnd_25 (by decide) (by decide +kernel) ?_
          refine a_icmp_ne (tgt := 34) (pc := 27) dX4_isPartEnd_27 (by decide) (fun hc49 => ?_) (fun hc49 => ?_)
          · replace h := h.1 hc49
            refine a_iconst (pc := 34) dX4_isPartEnd_34 (by decide) ?_
            refine a_iretz (pc := 35) dX4_isPartEnd_35 rfl rfl (Nat.le_of_ble_eq_true rfl) (by decide) ⟨rfl, ?_⟩
            refine a_if_eq (tgt := 85) (pc := 80) dX4_readLine_80 (by decide) (fun _ => ?_) (fun hc => absurd (by decide) hc)
            refine a_iload_n (pc := 85) dX4_readLine_85 rfl ?_
            refine a_if_le (tgt := 100) (pc := 86) dX4_readLine_86 (by decide) (fun hc50 => ?_) (fun hc50 => ?_)
            · replace h := h.1 hc50
              refine a_aload_n (pc := 100) dX4_readLine_100 (by decide) rfl ?_
              refine p_inlV (Ex := _) (As := []) (st := []) (st1 := fun r => [(0, r)])  (pc := 101) dX4_readLine_101 ml_RX4_86 (by decide) s0_267 rfl (by decide) (Nat.le_of_ble_eq_true rfl) rfl (fun _ => rfl) (by decide) (by decide) (Nat.le_of_ble_eq_true rfl) rfl ?_
              refine a_aload_n (pc := 0) dX4_takeStop_0 (by decide) rfl ?_
              refine a_iconst (pc := 1) dX4_takeStop_1 (by decide) ?_
              refine a_iconst (pc := 2) dX4_takeStop_2 (by decide) ?_
              refine a_bipush (pc := 3) dX4_takeStop_3 (by decide) (by decide +kernel) ?_
              refine p_callV (As := [(0, 2), (0, 0), (0, 11)]) (st := []) (st1 := fun r => [(0, r)])  (pc := 5) dX4_takeStop_5 ml_RX4_75 (by decide) s0_267 rfl (by decide) (Nat.le_of_ble_eq_true rfl) rfl (fun _ => rfl) h (fun r51 M52 h => ?_)
              have ho53 := h.1
              replace h := h.2
              refine a_iretz (pc := 8) dX4_takeStop_8 rfl rfl (Nat.le_of_ble_eq_true rfl) ho53 ⟨rfl, ?_⟩
              refine a_if_ne (tgt := 109) (pc := 104) dX4_readLine_104 (by decide) (fun hc54 => ?_) (fun hc54 => ?_)
              · replace h := h.1 hc54
                refine a_aload_n (pc := 109) dX4_readLine_109 (by decide) rfl ?_
                refine a_getR (y := 1) (pc := 110) dX4_readLine_110 fl_RX4_9 (by decide) s0_267 rfl rfl ?_
                refine a_iload_n (pc := 113) dX4_readLine_113 rfl ?_
                refine a_aload_n (pc := 114) dX4_readLine_114 (by decide) rfl ?_
                refine a_getI (y := 4) (pc := 115) dX4_readLine_115 fl_RX4_26 (by decide) s0_267 (Or.inl rfl) rfl ?_
                refine p_callV (As := [(0, l1), (0, M52 267 4)]) (st := []) (st1 := fun r => [(0, r)])  (pc := 118) dX4_readLine_118 ml_RX4_89 (by decide) s0_1 rfl (by decide) (Nat.le_of_ble_eq_true rfl) rfl (fun _ => rfl) h (fun r55 M56 h => ?_)
                refine a_if_lt (tgt := 133) (pc := 121) dX4_readLine_121 (by decide) (fun hc57 => ?_) (fun hc57 => ?_)
                · replace h := h.1 hc57
                  refine a_aload_n (pc := 133) dX4_readLine_133 (by decide) rfl ?_
                  refine a_getR (y := 1) (pc := 134) dX4_readLine_134 fl_RX4_9 (by decide) s0_267 rfl rfl ?_
                  refine a_iload_n (pc := 137) dX4_readLine_137 rfl ?_
                  refine a_aload_n (pc := 138) dX4_readLine_138 (by decide) rfl ?_
                  refine a_getI (y := 4) (pc := 139) dX4_readLine_139 fl_RX4_26 (by decide) s0_267 (Or.inl rfl) rfl ?_
                  refine p_inlV (Ex := _) (As := [(0, l1), (0, M56 267 4)]) (st := []) (st1 := fun r => [])  (pc := 142) dX4_readLine_142 ml_RX4_93 (by decide) s0_1 rfl (by decide) (Nat.le_of_ble_eq_true rfl) rfl (fun _ => rfl) (by decide) (by decide) (Nat.le_of_ble_eq_true rfl) rfl ?_
                  refine a_aload_n (pc := 0) dX3_addStop_0 (by decide) rfl ?_
                  refine a_getR (y := 5) (pc := 1) dX3_addStop_1 fl_RX3_27 (by decide) s0_1 rfl rfl ?_
                  refine a_iload_n (pc := 4) dX3_addStop_4 rfl ?_
                  have ho58 := h.1
                  replace h := h.2
                  have hr59 := rw_5 l1 ho58.1 ho58.2
                  refine a_aald (y := 6 + l1) (pc := 5) dX3_addStop_5 (by decide) s0_5 ho58.1 ho58.2 (by omega) ?_
                  refine a_aload_n (pc := 6) dX3_addStop_6 (by decide) rfl ?_
                  refine a_getR (y := 3) (pc := 7) dX3_addStop_7 fl_RX3_19 (by decide) s0_1 rfl rfl ?_
                  refine a_iload_n (pc := 10) dX3_addStop_10 rfl ?_
                  refine a_iald (pc := 11) dX3_addStop_11 (by decide) s0_3 ho58.1 ho58.2 ?_
                  refine a_iload_n (pc := 12) dX3_addStop_12 rfl ?_
                  have ho60 := h.1
                  replace h := h.2
                  refine a_iast (pc := 13) dX3_addStop_13 hr59.1 hr59.2 ho60.1 ho60.2 ?_
                  refine a_aload_n (pc := 14) dX3_addStop_14 (by decide) rfl ?_
                  refine a_getR (y := 3) (pc := 15) dX3_addStop_15 fl_RX3_19 (by decide) s0_1 rfl rfl ?_
                  refine a_iload_n (pc := 18) dX3_addStop_18 rfl ?_
                  refine a_dup2 (pc := 19) dX3_addStop_19 n01 n21 ?_
                  refine a_iald (pc := 20) dX3_addStop_20 (by decide) s0_3 ho58.1 ho58.2 ?_
                  refine a_iconst (pc := 21) dX3_addStop_21 (by decide) ?_
                  have ho61 := h.1
                  replace h := h.2
                  refine a_iadd (pc := 22) dX3_addStop_22 ho61 ?_
                  refine a_iast (pc := 23) dX3_addStop_23 (by decide) s0_3 ho58.1 ho58.2 ?_
                  refine a_vret (pc := 24) dX3_addStop_24 rfl rfl (Nat.le_of_ble_eq_true rfl) ⟨rfl, ?_⟩
                  have ho62 := h.1
                  replace h := h.2
                  refine a_iinc (ls1 := [(2, 267), (0, l1), (0, l2 + 1)]) (pc := 145) dX4_readLine_145 rfl (by decide) (hp1 (t := 0) rfl (by decide)) ho62 rfl ?_
                  refine a_goto (tgt := 65) (pc := 148) dX4_readLine_148 (by decide) ?_
                  exact h
                · replace h := h.2 hc57
                  refine a_aload_n (pc := 124) dX4_readLine_124 (by decide) rfl ?_
                  refine a_aload_n (pc := 125) dX4_readLine_125 (by decide) rfl ?_
                  refine a_getI (y := 5) (pc := 126) dX4_readLine_126 fl_RX4_29 (by decide) s0_267 (Or.inl rfl) rfl ?_
                  refine p_inlV (Ex := _) (As := [(0, M56 267 5)]) (st := []) (st1 := fun r => [(0, r)])  (pc := 129) dX4_readLine_129 ml_RX4_52 (by decide) s0_267 rfl (by decide) (Nat.le_of_ble_eq_true rfl) rfl (fun _ => rfl) (by decide) (by decide) (Nat.le_of_ble_eq_true rfl) rfl ?_
                  refine a_aload_n (pc := 0) dX4_failAt_0 (by decide) rfl ?_
                  refine a_iload_n (pc := 1) dX4_failAt_1 rfl ?_
                  refine a_putI (y := 6) (pc := 2) dX4_failAt_2 fl_RX4_32 (by decide) s0_267 rfl rfl (tyX4_ok 6 (by decide)) rfl ?_
                  refine a_iconst (pc := 5) dX4_failAt_5 (by decide) ?_
                  refine a_iretz (pc := 6) dX4_failAt_6 rfl rfl (Nat.le_of_ble_eq_true rfl) (by decide) ⟨rfl, ?_⟩
                  exact a_iretz (pc := 132) dX4_readLine_132 rfl rfl (Nat.le_of_ble_eq_true rfl) (by decide) ⟨rfl, h⟩
              · replace h := h.2 hc54
                refine a_iconst (pc := 107) dX4_readLine_107 (by decide) ?_
                exact a_iretz (pc := 108) dX4_readLine_108 rfl rfl (Nat.le_of_ble_eq_true rfl) (by decide) ⟨rfl, h⟩
            · replace h := h.2 hc50
              refine a_aload_n (pc := 89) dX4_readLine_89 (by decide) rfl ?_
              refine a_bipush (pc := 90) dX4_readLine_90 (by decide) (by decide +kernel) ?_
              refine p_inlV (Ex := _) (As := [(0, 62)]) (st := []) (st1 := fun r => [(0, r)])  (pc := 92) dX4_readLine_92 ml_RX4_44 (by decide) s0_267 rfl (by decide) (Nat.le_of_ble_eq_true rfl) rfl (fun _ => rfl) (by decide) (by decide) (Nat.le_of_ble_eq_true rfl) rfl ?_
              refine a_aload_n (pc := 0) dX4_takeByte_0 (by decide) rfl ?_
              refine a_getR (y := 263) (pc := 1) dX4_takeByte_1 fl_RX4_15 (by decide) s0_267 rfl rfl ?_
              refine a_aload_n (pc := 4) dX4_takeByte_4 (by decide) rfl ?_
              refine a_getI (y := 2) (pc := 5) dX4_takeByte_5 fl_RX4_19 (by decide) s0_267 (Or.inl rfl) rfl ?_
              refine p_inlV (Ex := _) (As := [(0, M 267 2)]) (st := []) (st1 := fun r => [(0, r)])  (pc := 8) dX4_takeByte_8 ml_RX4_48 (by decide) s0_263 rfl (by decide) (Nat.le_of_ble_eq_true rfl) rfl (fun _ => rfl) (by decide) (by decide) (Nat.le_of_ble_eq_true rfl) rfl ?_
              refine a_iload_n (pc := 0) dX7_byteAt_0 rfl ?_
              refine a_if_lt (tgt := 21) (pc := 1) dX7_byteAt_1 (by decide) (fun hc => absurd hc hc34) (fun _ => ?_)
              refine a_iload_n (pc := 4) dX7_byteAt_4 rfl ?_
              refine a_aload_n (pc := 5) dX7_byteAt_5 (by decide) rfl ?_
              refine a_getI (y := 1) (pc := 6) dX7_byteAt_6 fl_RX7_19 (by decide) s0_263 (Or.inl rfl) rfl ?_
              refine a_icmp_ge (tgt := 21) (pc := 9) dX7_byteAt_9 (by decide) (fun hc => absurd hc hc33) (fun _ => ?_)
              refine a_aload_n (pc := 12) dX7_byteAt_12 (by decide) rfl ?_
              refine a_getR (y := 264) (pc := 13) dX7_byteAt_13 fl_RX7_13 (by decide) s0_263 rfl rfl ?_
              refine a_iload_n (pc := 16) dX7_byteAt_16 rfl ?_
              refine a_iald (pc := 17) dX7_byteAt_17 (by decide) s0_264 ho48.1 ho48.2 ?_
              refine a_goto (tgt := 22) (pc := 18) dX7_byteAt_18 (by decide) ?_
              refine a_ireti (pc := 22) dX7_byteAt_22 rfl rfl (Nat.le_of_ble_eq_true rfl) ⟨rfl, ?_⟩
              refine a_iload_n (pc := 11) dX4_takeByte_11 rfl ?_
              refine a_icmp_eq (tgt := 24) (pc := 12) dX4_takeByte_12 (by decide) (fun hc63 => ?_) (fun hc63 => ?_)
              · replace h := h.1 hc63
                refine a_aload_n (pc := 24) dX4_takeByte_24 (by decide) rfl ?_
                refine a_dup (pc := 25) dX4_takeByte_25 n21 ?_
                refine a_getI (y := 2) (pc := 26) dX4_takeByte_26 fl_RX4_19 (by decide) s0_267 (Or.inl rfl) rfl ?_
                refine a_iconst (pc := 29) dX4_takeByte_29 (by decide) ?_
                have ho64 := h.1
                replace h := h.2
                refine a_iadd (pc := 30) dX4_takeByte_30 ho64 ?_
                refine a_putI (y := 2) (pc := 31) dX4_takeByte_31 fl_RX4_19 (by decide) s0_267 rfl rfl (tyX4_ok 2 (by decide)) rfl ?_
                refine a_iconst (pc := 34) dX4_takeByte_34 (by decide) ?_
                refine a_iretz (pc := 35) dX4_takeByte_35 rfl rfl (Nat.le_of_ble_eq_true rfl) (by decide) ⟨rfl, ?_⟩
                refine a_if_ne (tgt := 100) (pc := 95) dX4_readLine_95 (by decide) (fun _ => ?_) (fun hc => absurd hc (by decide))
                refine a_aload_n (pc := 100) dX4_readLine_100 (by decide) rfl ?_
                refine p_inlV (Ex := _) (As := []) (st := []) (st1 := fun r => [(0, r)])  (pc := 101) dX4_readLine_101 ml_RX4_86 (by decide) s0_267 rfl (by decide) (Nat.le_of_ble_eq_true rfl) rfl (fun _ => rfl) (by decide) (by decide) (Nat.le_of_ble_eq_true rfl) rfl ?_
                refine a_aload_n (pc := 0) dX4_takeStop_0 (by decide) rfl ?_
                refine a_iconst (pc := 1) dX4_takeStop_1 (by decide) ?_
                refine a_iconst (pc := 2) dX4_takeStop_2 (by decide) ?_
                refine a_bipush (pc := 3) dX4_takeStop_3 (by decide) (by decide +kernel) ?_
                refine p_callV (As := [(0, 2), (0, 0), (0, 11)]) (st := []) (st1 := fun r => [(0, r)])  (pc := 5) dX4_takeStop_5 ml_RX4_75 (by decide) s0_267 rfl (by decide) (Nat.le_of_ble_eq_true rfl) rfl (fun _ => rfl) h (fun r65 M66 h => ?_)
                have ho67 := h.1
                replace h := h.2
                refine a_iretz (pc := 8) dX4_takeStop_8 rfl rfl (Nat.le_of_ble_eq_true rfl) ho67 ⟨rfl, ?_⟩
                refine a_if_ne (tgt := 109) (pc := 104) dX4_readLine_104 (by decide) (fun hc68 => ?_) (fun hc68 => ?_)
                · replace h := h.1 hc68
                  refine a_aload_n (pc := 109) dX4_readLine_109 (by decide) rfl ?_
                  refine a_getR (y := 1) (pc := 110) dX4_readLine_110 fl_RX4_9 (by decide) s0_267 rfl rfl ?_
                  refine a_iload_n (pc := 113) dX4_readLine_113 rfl ?_
                  refine a_aload_n (pc := 114) dX4_readLine_114 (by decide) rfl ?_
                  refine a_getI (y := 4) (pc := 115) dX4_readLine_115 fl_RX4_26 (by decide) s0_267 (Or.inl rfl) rfl ?_
                  refine p_callV (As := [(0, l1), (0, M66 267 4)]) (st := []) (st1 := fun r => [(0, r)])  (pc := 118) dX4_readLine_118 ml_RX4_89 (by decide) s0_1 rfl (by decide) (Nat.le_of_ble_eq_true rfl) rfl (fun _ => rfl) h (fun r69 M70 h => ?_)
                  refine a_if_lt (tgt := 133) (pc := 121) dX4_readLine_121 (by decide) (fun hc71 => ?_) (fun hc71 => ?_)
                  · replace h := h.1 hc71
                    refine a_aload_n (pc := 133) dX4_readLine_133 (by decide) rfl ?_
                    refine a_getR (y := 1) (pc := 134) dX4_readLine_134 fl_RX4_9 (by decide) s0_267 rfl rfl ?_
                    refine a_iload_n (pc := 137) dX4_readLine_137 rfl ?_
                    refine a_aload_n (pc := 138) dX4_readLine_138 (by decide) rfl ?_
                    refine a_getI (y := 4) (pc := 139) dX4_readLine_139 fl_RX4_26 (by decide) s0_267 (Or.inl rfl) rfl ?_
                    refine p_inlV (Ex := _) (As := [(0, l1), (0, M70 267 4)]) (st := []) (st1 := fun r => [])  (pc := 142) dX4_readLine_142 ml_RX4_93 (by decide) s0_1 rfl (by decide) (Nat.le_of_ble_eq_true rfl) rfl (fun _ => rfl) (by decide) (by decide) (Nat.le_of_ble_eq_true rfl) rfl ?_
                    refine a_aload_n (pc := 0) dX3_addStop_0 (by decide) rfl ?_
                    refine a_getR (y := 5) (pc := 1) dX3_addStop_1 fl_RX3_27 (by decide) s0_1 rfl rfl ?_
                    refine a_iload_n (pc := 4) dX3_addStop_4 rfl ?_
                    have ho72 := h.1
                    replace h := h.2
                    have hr73 := rw_5 l1 ho72.1 ho72.2
                    refine a_aald (y := 6 + l1) (pc := 5) dX3_addStop_5 (by decide) s0_5 ho72.1 ho72.2 (by omega) ?_
                    refine a_aload_n (pc := 6) dX3_addStop_6 (by decide) rfl ?_
                    refine a_getR (y := 3) (pc := 7) dX3_addStop_7 fl_RX3_19 (by decide) s0_1 rfl rfl ?_
                    refine a_iload_n (pc := 10) dX3_addStop_10 rfl ?_
                    refine a_iald (pc := 11) dX3_addStop_11 (by decide) s0_3 ho72.1 ho72.2 ?_
                    refine a_iload_n (pc := 12) dX3_addStop_12 rfl ?_
                    have ho74 := h.1
                    replace h := h.2
                    refine a_iast (pc := 13) dX3_addStop_13 hr73.1 hr73.2 ho74.1 ho74.2 ?_
                    refine a_aload_n (pc := 14) dX3_addStop_14 (by decide) rfl ?_
                    refine a_getR (y := 3) (pc := 15) dX3_addStop_15 fl_RX3_19 (by decide) s0_1 rfl rfl ?_
                    refine a_iload_n (pc := 18) dX3_addStop_18 rfl ?_
                    refine a_dup2 (pc := 19) dX3_addStop_19 n01 n21 ?_
                    refine a_iald (pc := 20) dX3_addStop_20 (by decide) s0_3 ho72.1 ho72.2 ?_
                    refine a_iconst (pc := 21) dX3_addStop_21 (by decide) ?_
                    have ho75 := h.1
                    replace h := h.2
                    refine a_iadd (pc := 22) dX3_addStop_22 ho75 ?_
                    refine a_iast (pc := 23) dX3_addStop_23 (by decide) s0_3 ho72.1 ho72.2 ?_
                    refine a_vret (pc := 24) dX3_addStop_24 rfl rfl (Nat.le_of_ble_eq_true rfl) ⟨rfl, ?_⟩
                    have ho76 := h.1
                    replace h := h.2
                    refine a_iinc (ls1 := [(2, 267), (0, l1), (0, l2 + 1)]) (pc := 145) dX4_readLine_145 rfl (by decide) (hp1 (t := 0) rfl (by decide)) ho76 rfl ?_
                    refine a_goto (tgt := 65) (pc := 148) dX4_readLine_148 (by decide) ?_
                    exact h
                  · replace h := h.2 hc71
                    refine a_aload_n (pc := 124) dX4_readLine_124 (by decide) rfl ?_
                    refine a_aload_n (pc := 125) dX4_readLine_125 (by decide) rfl ?_
                    refine a_getI (y := 5) (pc := 126) dX4_readLine_126 fl_RX4_29 (by decide) s0_267 (Or.inl rfl) rfl ?_
                    refine p_inlV (Ex := _) (As := [(0, M70 267 5)]) (st := []) (st1 := fun r => [(0, r)])  (pc := 129) dX4_readLine_129 ml_RX4_52 (by decide) s0_267 rfl (by decide) (Nat.le_of_ble_eq_true rfl) rfl (fun _ => rfl) (by decide) (by decide) (Nat.le_of_ble_eq_true rfl) rfl ?_
                    refine a_aload_n (pc := 0) dX4_failAt_0 (by decide) rfl ?_
                    refine a_iload_n (pc := 1) dX4_failAt_1 rfl ?_
                    refine a_putI (y := 6) (pc := 2) dX4_failAt_2 fl_RX4_32 (by decide) s0_267 rfl rfl (tyX4_ok 6 (by decide)) rfl ?_
                    refine a_iconst (pc := 5) dX4_failAt_5 (by decide) ?_
                    refine a_iretz (pc := 6) dX4_failAt_6 rfl rfl (Nat.le_of_ble_eq_true rfl) (by decide) ⟨rfl, ?_⟩
                    exact a_iretz (pc := 132) dX4_readLine_132 rfl rfl (Nat.le_of_ble_eq_true rfl) (by decide) ⟨rfl, h⟩
                · replace h := h.2 hc68
                  refine a_iconst (pc := 107) dX4_readLine_107 (by decide) ?_
                  exact a_iretz (pc := 108) dX4_readLine_108 rfl rfl (Nat.le_of_ble_eq_true rfl) (by decide) ⟨rfl, h⟩
              · replace h := h.2 hc63
                refine a_aload_n (pc := 15) dX4_takeByte_15 (by decide) rfl ?_
                refine a_aload_n (pc := 16) dX4_takeByte_16 (by decide) rfl ?_
                refine a_getI (y := 2) (pc := 17) dX4_takeByte_17 fl_RX4_19 (by decide) s0_267 (Or.inl rfl) rfl ?_
                refine p_inlV (Ex := _) (As := [(0, M 267 2)]) (st := []) (st1 := fun r => [(0, r)])  (pc := 20) dX4_takeByte_20 ml_RX4_52 (by decide) s0_267 rfl (by decide) (Nat.le_of_ble_eq_true rfl) rfl (fun _ => rfl) (by decide) (by decide) (Nat.le_of_ble_eq_true rfl) rfl ?_
                refine a_aload_n (pc := 0) dX4_failAt_0 (by decide) rfl ?_
                refine a_iload_n (pc := 1) dX4_failAt_1 rfl ?_
                refine a_putI (y := 6) (pc := 2) dX4_failAt_2 fl_RX4_32 (by decide) s0_267 rfl rfl (tyX4_ok 6 (by decide)) rfl ?_
                refine a_iconst (pc := 5) dX4_failAt_5 (by decide) ?_
                refine a_iretz (pc := 6) dX4_failAt_6 rfl rfl (Nat.le_of_ble_eq_true rfl) (by decide) ⟨rfl, ?_⟩
                refine a_iretz (pc := 23) dX4_takeByte_23 rfl rfl (Nat.le_of_ble_eq_true rfl) (by decide) ⟨rfl, ?_⟩
                refine a_if_ne (tgt := 100) (pc := 95) dX4_readLine_95 (by decide) (fun hc => absurd rfl hc) (fun _ => ?_)
                refine a_iconst (pc := 98) dX4_readLine_98 (by decide) ?_
                exact a_iretz (pc := 99) dX4_readLine_99 rfl rfl (Nat.le_of_ble_eq_true rfl) (by decide) ⟨rfl, h⟩
          · replace h := h.2 hc49
            refine a_iconst (pc := 30) dX4_isPartEnd_30 (by decide) ?_
            refine a_goto (tgt := 35) (pc := 31) dX4_isPartEnd_31 (by decide) ?_
            refine a_iretz (pc := 35) dX4_isPartEnd_35 rfl rfl (Nat.le_of_ble_eq_true rfl) (by decide) ⟨rfl, ?_⟩
            refine a_if_eq (tgt := 85) (pc := 80) dX4_readLine_80 (by decide) (fun hc => absurd hc (by decide)) (fun _ => ?_)
            refine a_iconst (pc := 83) dX4_readLine_83 (by decide) ?_
            exact a_iretz (pc := 84) dX4_readLine_84 rfl rfl (Nat.le_of_ble_eq_true rfl) (by decide) ⟨rfl, h⟩
theorem E_Reader_readLine {M : Mem} {Q : Int → Mem → Prop} (h : AW mX4_readLine 0 [(2, 267), (9, 0), (9, 0)] M Q) : Calls mX4_readLine [(2, 267)] S0 M Q := calls_of (by decide) (by decide) (Nat.le_of_ble_eq_true rfl) rfl h
set_option maxRecDepth 100000 in
set_option maxHeartbeats 4000000 in
theorem B_Reader_readPath_0 {M : Mem} {Q : Int → Mem → Prop} (h : Calls mX4_takeNumber [(2, 267), (0, 2), (0, 0), (0, 11)] S0 M (fun r1 M2 => (r1 = 0 ∨ r1 = 1) ∧ ((¬ r1 = 0 → (((M2 267 2) < 0 → Q 0 (up2 M2 267 6 (M2 267 2))) ∧ (¬ ((M2 267 2) < 0) → (((M2 263 1) ≤ (M2 267 2) → Q 0 (up2 M2 267 6 (M2 267 2))) ∧ (¬ ((M2 263 1) ≤ (M2 267 2)) → ((0 : Int) ≤ M2 267 2 ∧ M2 267 2 < 80) ∧ (((M2 264 (M2 267 2)) = 45 → (-2147483648 ≤ (M2 267 2) + 1 ∧ (M2 267 2) + 1 ≤ 2147483647) ∧ Calls mX4_takeNumber [(2, 267), (0, 2), (0, 0), (0, 11)] S0 (up2 M2 267 2 ((M2 267 2) + 1)) (fun r10 M11 => (r10 = 0 ∨ r10 = 1) ∧ ((¬ r10 = 0 → ((¬ (M11 267 4) = (M2 267 4) → (((M11 267 2) < 0 → Q 0 (up2 M11 267 6 (M11 267 2))) ∧ (¬ ((M11 267 2) < 0) → (((M11 263 1) ≤ (M11 267 2) → Q 0 (up2 M11 267 6 (M11 267 2))) ∧ (¬ ((M11 263 1) ≤ (M11 267 2)) → ((0 : Int) ≤ M11 267 2 ∧ M11 267 2 < 80) ∧ (((M11 264 (M11 267 2)) = 61 → (-2147483648 ≤ (M11 267 2) + 1 ∧ (M11 267 2) + 1 ≤ 2147483647) ∧ Calls mX4_takeNumber [(2, 267), (0, 2), (0, 1), (0, 60)] S0 (up2 M11 267 2 ((M11 267 2) + 1)) (fun r20 M21 => ((¬ r20 = 0 → ((0 : Int) ≤ M2 267 4 ∧ M2 267 4 < 12) ∧ ((0 : Int) ≤ M11 267 4 ∧ M11 267 4 < 12) ∧ Q 1 (up2 (up2 M21 (65 + (M2 267 4)) (M11 267 4) (M21 267 4)) (65 + (M11 267 4)) (M2 267 4) (M21 267 4))) ∧ (r20 = 0 → Q 0 M21)))) ∧ (¬ (M11 264 (M11 267 2)) = 61 → Q 0 (up2 M11 267 6 (M11 267 2))))))))) ∧ ((M11 267 4) = (M2 267 4) → Q 0 (up2 M11 267 6 (M11 267 5))))) ∧ (r10 = 0 → Q 0 M11)))) ∧ (¬ (M2 264 (M2 267 2)) = 45 → Q 0 (up2 M2 267 6 (M2 267 2))))))))) ∧ (r1 = 0 → Q 0 M2)))) : AW mX4_readPath 0 [(2, 267), (9, 0), (9, 0)] M Q := by
  refine a_aload_n (pc := 0) dX4_readPath_0 (by decide) rfl ?_
  refine p_inlV (Ex := _) (As := []) (st := []) (st1 := fun r => [(0, r)])  (pc := 1) dX4_readPath_1 ml_RX4_86 (by decide) s0_267 rfl (by decide) (Nat.le_of_ble_eq_true rfl) rfl (fun _ => rfl) (by decide) (by decide) (Nat.le_of_ble_eq_true rfl) rfl ?_
  refine a_aload_n (pc := 0) dX4_takeStop_0 (by decide) rfl ?_
  refine a_iconst (pc := 1) dX4_takeStop_1 (by decide) ?_
  refine a_iconst (pc := 2) dX4_takeStop_2 (by decide) ?_
  refine a_bipush (pc := 3) dX4_takeStop_3 (by decide) (by decide +kernel) ?_
  refine p_callV (As := [(0, 2), (0, 0), (0, 11)]) (st := []) (st1 := fun r => [(0, r)])  (pc := 5) dX4_takeStop_5 ml_RX4_75 (by decide) s0_267 rfl (by decide) (Nat.le_of_ble_eq_true rfl) rfl (fun _ => rfl) h (fun r1 M2 h => ?_)
  have ho3 := h.1
  replace h := h.2
  refine a_iretz (pc := 8) dX4_takeStop_8 rfl rfl (Nat.le_of_ble_eq_true rfl) ho3 ⟨rfl, ?_⟩
  refine a_if_ne (tgt := 9) (pc := 4) dX4_readPath_4 (by decide) (fun hc4 => ?_) (fun hc4 => ?_)
  · replace h := h.1 hc4
    refine a_aload_n (pc := 9) dX4_readPath_9 (by decide) rfl ?_
    refine a_getI (y := 4) (pc := 10) dX4_readPath_10 fl_RX4_26 (by decide) s0_267 (Or.inl rfl) rfl ?_
    refine a_istore_n (ls1 := [(2, 267), (0, M2 267 4), (9, 0)]) (pc := 13) dX4_readPath_13 (by decide) (hp1 (t := 2) rfl (by decide)) rfl ?_
    refine a_aload_n (pc := 14) dX4_readPath_14 (by decide) rfl ?_
    refine a_bipush (pc := 15) dX4_readPath_15 (by decide) (by decide +kernel) ?_
    refine p_inlV (Ex := _) (As := [(0, 45)]) (st := []) (st1 := fun r => [(0, r)])  (pc := 17) dX4_readPath_17 ml_RX4_44 (by decide) s0_267 rfl (by decide) (Nat.le_of_ble_eq_true rfl) rfl (fun _ => rfl) (by decide) (by decide) (Nat.le_of_ble_eq_true rfl) rfl ?_
    refine a_aload_n (pc := 0) dX4_takeByte_0 (by decide) rfl ?_
    refine a_getR (y := 263) (pc := 1) dX4_takeByte_1 fl_RX4_15 (by decide) s0_267 rfl rfl ?_
    refine a_aload_n (pc := 4) dX4_takeByte_4 (by decide) rfl ?_
    refine a_getI (y := 2) (pc := 5) dX4_takeByte_5 fl_RX4_19 (by decide) s0_267 (Or.inl rfl) rfl ?_
    refine p_inlV (Ex := _) (As := [(0, M2 267 2)]) (st := []) (st1 := fun r => [(0, r)])  (pc := 8) dX4_takeByte_8 ml_RX4_48 (by decide) s0_263 rfl (by decide) (Nat.le_of_ble_eq_true rfl) rfl (fun _ => rfl) (by decide) (by decide) (Nat.le_of_ble_eq_true rfl) rfl ?_
    refine a_iload_n (pc := 0) dX7_byteAt_0 rfl ?_
    refine a_if_lt (tgt := 21) (pc := 1) dX7_byteAt_1 (by decide) (fun hc5 => ?_) (fun hc5 => ?_)
    · replace h := h.1 hc5
      refine a_iconst (pc := 21) dX7_byteAt_21 (by decide) ?_
      refine a_ireti (pc := 22) dX7_byteAt_22 rfl rfl (Nat.le_of_ble_eq_true rfl) ⟨rfl, ?_⟩
      refine a_iload_n (pc := 11) dX4_takeByte_11 rfl ?_
      refine a_icmp_eq (tgt := 24) (pc := 12) dX4_takeByte_12 (by decide) (fun hc => absurd hc (by decide)) (fun _ => ?_)
      refine a_aload_n (pc := 15) dX4_takeByte_15 (by decide) rfl ?_
      refine a_aload_n (pc := 16) dX4_takeByte_16 (by decide) rfl ?_
      refine a_getI (y := 2) (pc := 17) dX4_takeByte_17 fl_RX4_19 (by decide) s0_267 (Or.inl rfl) rfl ?_
      refine p_inlV (Ex := _) (As := [(0, M2 267 2)]) (st := []) (st1 := fun r => [(0, r)])  (pc := 20) dX4_takeByte_20 ml_RX4_52 (by decide) s0_267 rfl (by decide) (Nat.le_of_ble_eq_true rfl) rfl (fun _ => rfl) (by decide) (by decide) (Nat.le_of_ble_eq_true rfl) rfl ?_
      refine a_aload_n (pc := 0) dX4_failAt_0 (by decide) rfl ?_
      refine a_iload_n (pc := 1) dX4_failAt_1 rfl ?_
      refine a_putI (y := 6) (pc := 2) dX4_failAt_2 fl_RX4_32 (by decide) s0_267 rfl rfl (tyX4_ok 6 (by decide)) rfl ?_
      refine a_iconst (pc := 5) dX4_failAt_5 (by decide) ?_
      refine a_iretz (pc := 6) dX4_failAt_6 rfl rfl (Nat.le_of_ble_eq_true rfl) (by decide) ⟨rfl, ?_⟩
      refine a_iretz (pc := 23) dX4_takeByte_23 rfl rfl (Nat.le_of_ble_eq_true rfl) (by decide) ⟨rfl, ?_⟩
      refine a_if_eq (tgt := 30) (pc := 20) dX4_readPath_20 (by decide) (fun _ => ?_) (fun hc => absurd (by decide) hc)
      refine a_iconst (pc := 30) dX4_readPath_30 (by decide) ?_
      exact a_iretz (pc := 31) dX4_readPath_31 rfl rfl (Nat.le_of_ble_eq_true rfl) (by decide) ⟨rfl, h⟩
    · replace h := h.2 hc5
      refine a_iload_n (pc := 4) dX7_byteAt_4 rfl ?_
      refine a_aload_n (pc := 5) dX7_byteAt_5 (by decide) rfl ?_
      refine a_getI (y := 1) (pc := 6) dX7_byteAt_6 fl_RX7_19 (by decide) s0_263 (Or.inl rfl) rfl ?_
      refine a_icmp_ge (tgt := 21) (pc := 9) dX7_byteAt_9 (by decide) (fun hc6 => ?_) (fun hc6 => ?_)
      · replace h := h.1 hc6
        refine a_iconst (pc := 21) dX7_byteAt_21 (by decide) ?_
        refine a_ireti (pc := 22) dX7_byteAt_22 rfl rfl (Nat.le_of_ble_eq_true rfl) ⟨rfl, ?_⟩
        refine a_iload_n (pc := 11) dX4_takeByte_11 rfl ?_
        refine a_icmp_eq (tgt := 24) (pc := 12) dX4_takeByte_12 (by decide) (fun hc => absurd hc (by decide)) (fun _ => ?_)
        refine a_aload_n (pc := 15) dX4_takeByte_15 (by decide) rfl ?_
        refine a_aload_n (pc := 16) dX4_takeByte_16 (by decide) rfl ?_
        refine a_getI (y := 2) (pc := 17) dX4_takeByte_17 fl_RX4_19 (by decide) s0_267 (Or.inl rfl) rfl ?_
        refine p_inlV (Ex := _) (As := [(0, M2 267 2)]) (st := []) (st1 := fun r => [(0, r)])  (pc := 20) dX4_takeByte_20 ml_RX4_52 (by decide) s0_267 rfl (by decide) (Nat.le_of_ble_eq_true rfl) rfl (fun _ => rfl) (by decide) (by decide) (Nat.le_of_ble_eq_true rfl) rfl ?_
        refine a_aload_n (pc := 0) dX4_failAt_0 (by decide) rfl ?_
        refine a_iload_n (pc := 1) dX4_failAt_1 rfl ?_
        refine a_putI (y := 6) (pc := 2) dX4_failAt_2 fl_RX4_32 (by decide) s0_267 rfl rfl (tyX4_ok 6 (by decide)) rfl ?_
        refine a_iconst (pc := 5) dX4_failAt_5 (by decide) ?_
        refine a_iretz (pc := 6) dX4_failAt_6 rfl rfl (Nat.le_of_ble_eq_true rfl) (by decide) ⟨rfl, ?_⟩
        refine a_iretz (pc := 23) dX4_takeByte_23 rfl rfl (Nat.le_of_ble_eq_true rfl) (by decide) ⟨rfl, ?_⟩
        refine a_if_eq (tgt := 30) (pc := 20) dX4_readPath_20 (by decide) (fun _ => ?_) (fun hc => absurd (by decide) hc)
        refine a_iconst (pc := 30) dX4_readPath_30 (by decide) ?_
        exact a_iretz (pc := 31) dX4_readPath_31 rfl rfl (Nat.le_of_ble_eq_true rfl) (by decide) ⟨rfl, h⟩
      · replace h := h.2 hc6
        refine a_aload_n (pc := 12) dX7_byteAt_12 (by decide) rfl ?_
        refine a_getR (y := 264) (pc := 13) dX7_byteAt_13 fl_RX7_13 (by decide) s0_263 rfl rfl ?_
        refine a_iload_n (pc := 16) dX7_byteAt_16 rfl ?_
        have ho7 := h.1
        replace h := h.2
        refine a_iald (pc := 17) dX7_byteAt_17 (by decide) s0_264 ho7.1 ho7.2 ?_
        refine a_goto (tgt := 22) (pc := 18) dX7_byteAt_18 (by decide) ?_
        refine a_ireti (pc := 22) dX7_byteAt_22 rfl rfl (Nat.le_of_ble_eq_true rfl) ⟨rfl, ?_⟩
        refine a_iload_n (pc := 11) dX4_takeByte_11 rfl ?_
        refine a_icmp_eq (tgt := 24) (pc := 12) dX4_takeByte_12 (by decide) (fun hc8 => ?_) (fun hc8 => ?_)
        · replace h := h.1 hc8
          refine a_aload_n (pc := 24) dX4_takeByte_24 (by decide) rfl ?_
          refine a_dup (pc := 25) dX4_takeByte_25 n21 ?_
          refine a_getI (y := 2) (pc := 26) dX4_takeByte_26 fl_RX4_19 (by decide) s0_267 (Or.inl rfl) rfl ?_
          refine a_iconst (pc := 29) dX4_takeByte_29 (by decide) ?_
          have ho9 := h.1
          replace h := h.2
          refine a_iadd (pc := 30) dX4_takeByte_30 ho9 ?_
          refine a_putI (y := 2) (pc := 31) dX4_takeByte_31 fl_RX4_19 (by decide) s0_267 rfl rfl (tyX4_ok 2 (by decide)) rfl ?_
          refine a_iconst (pc := 34) dX4_takeByte_34 (by decide) ?_
          refine a_iretz (pc := 35) dX4_takeByte_35 rfl rfl (Nat.le_of_ble_eq_true rfl) (by decide) ⟨rfl, ?_⟩
          refine a_if_eq (tgt := 30) (pc := 20) dX4_readPath_20 (by decide) (fun hc => absurd hc (by decide)) (fun _ => ?_)
          refine a_aload_n (pc := 23) dX4_readPath_23 (by decide) rfl ?_
          refine p_inlV (Ex := _) (As := []) (st := []) (st1 := fun r => [(0, r)])  (pc := 24) dX4_readPath_24 ml_RX4_86 (by decide) s0_267 rfl (by decide) (Nat.le_of_ble_eq_true rfl) rfl (fun _ => rfl) (by decide) (by decide) (Nat.le_of_ble_eq_true rfl) rfl ?_
          refine a_aload_n (pc := 0) dX4_takeStop_0 (by decide) rfl ?_
          refine a_iconst (pc := 1) dX4_takeStop_1 (by decide) ?_
          refine a_iconst (pc := 2) dX4_takeStop_2 (by decide) ?_
          refine a_bipush (pc := 3) dX4_takeStop_3 (by decide) (by decide +kernel) ?_
          refine p_callV (As := [(0, 2), (0, 0), (0, 11)]) (st := []) (st1 := fun r => [(0, r)])  (pc := 5) dX4_takeStop_5 ml_RX4_75 (by decide) s0_267 rfl (by decide) (Nat.le_of_ble_eq_true rfl) rfl (fun _ => rfl) h (fun r10 M11 h => ?_)
          have ho12 := h.1
          replace h := h.2
          refine a_iretz (pc := 8) dX4_takeStop_8 rfl rfl (Nat.le_of_ble_eq_true rfl) ho12 ⟨rfl, ?_⟩
          refine a_if_ne (tgt := 32) (pc := 27) dX4_readPath_27 (by decide) (fun hc13 => ?_) (fun hc13 => ?_)
          · replace h := h.1 hc13
            refine a_aload_n (pc := 32) dX4_readPath_32 (by decide) rfl ?_
            refine a_getI (y := 4) (pc := 33) dX4_readPath_33 fl_RX4_26 (by decide) s0_267 (Or.inl rfl) rfl ?_
            refine a_istore_n (ls1 := [(2, 267), (0, M2 267 4), (0, M11 267 4)]) (pc := 36) dX4_readPath_36 (by decide) (hp1 (t := 0) rfl (by decide)) rfl ?_
            refine a_iload_n (pc := 37) dX4_readPath_37 rfl ?_
            refine a_iload_n (pc := 38) dX4_readPath_38 rfl ?_
            refine a_icmp_ne (tgt := 51) (pc := 39) dX4_readPath_39 (by decide) (fun hc14 => ?_) (fun hc14 => ?_)
            · replace h := h.1 hc14
              refine a_aload_n (pc := 51) dX4_readPath_51 (by decide) rfl ?_
              refine a_bipush (pc := 52) dX4_readPath_52 (by decide) (by decide +kernel) ?_
              refine p_inlV (Ex := _) (As := [(0, 61)]) (st := []) (st1 := fun r => [(0, r)])  (pc := 54) dX4_readPath_54 ml_RX4_44 (by decide) s0_267 rfl (by decide) (Nat.le_of_ble_eq_true rfl) rfl (fun _ => rfl) (by decide) (by decide) (Nat.le_of_ble_eq_true rfl) rfl ?_
              refine a_aload_n (pc := 0) dX4_takeByte_0 (by decide) rfl ?_
              refine a_getR (y := 263) (pc := 1) dX4_takeByte_1 fl_RX4_15 (by decide) s0_267 rfl rfl ?_
              refine a_aload_n (pc := 4) dX4_takeByte_4 (by decide) rfl ?_
              refine a_getI (y := 2) (pc := 5) dX4_takeByte_5 fl_RX4_19 (by decide) s0_267 (Or.inl rfl) rfl ?_
              refine p_inlV (Ex := _) (As := [(0, M11 267 2)]) (st := []) (st1 := fun r => [(0, r)])  (pc := 8) dX4_takeByte_8 ml_RX4_48 (by decide) s0_263 rfl (by decide) (Nat.le_of_ble_eq_true rfl) rfl (fun _ => rfl) (by decide) (by decide) (Nat.le_of_ble_eq_true rfl) rfl ?_
              refine a_iload_n (pc := 0) dX7_byteAt_0 rfl ?_
              refine a_if_lt (tgt := 21) (pc := 1) dX7_byteAt_1 (by decide) (fun hc15 => ?_) (fun hc15 => ?_)
              · replace h := h.1 hc15
                refine a_iconst (pc := 21) dX7_byteAt_21 (by decide) ?_
                refine a_ireti (pc := 22) dX7_byteAt_22 rfl rfl (Nat.le_of_ble_eq_true rfl) ⟨rfl, ?_⟩
                refine a_iload_n (pc := 11) dX4_takeByte_11 rfl ?_
                refine a_icmp_eq (tgt := 24) (pc := 12) dX4_takeByte_12 (by decide) (fun hc => absurd hc (by decide)) (fun _ => ?_)
                refine a_aload_n (pc := 15) dX4_takeByte_15 (by decide) rfl ?_
                refine a_aload_n (pc := 16) dX4_takeByte_16 (by decide) rfl ?_
                refine a_getI (y := 2) (pc := 17) dX4_takeByte_17 fl_RX4_19 (by decide) s0_267 (Or.inl rfl) rfl ?_
                refine p_inlV (Ex := _) (As := [(0, M11 267 2)]) (st := []) (st1 := fun r => [(0, r)])  (pc := 20) dX4_takeByte_20 ml_RX4_52 (by decide) s0_267 rfl (by decide) (Nat.le_of_ble_eq_true rfl) rfl (fun _ => rfl) (by decide) (by decide) (Nat.le_of_ble_eq_true rfl) rfl ?_
                refine a_aload_n (pc := 0) dX4_failAt_0 (by decide) rfl ?_
                refine a_iload_n (pc := 1) dX4_failAt_1 rfl ?_
                refine a_putI (y := 6) (pc := 2) dX4_failAt_2 fl_RX4_32 (by decide) s0_267 rfl rfl (tyX4_ok 6 (by decide)) rfl ?_
                refine a_iconst (pc := 5) dX4_failAt_5 (by decide) ?_
                refine a_iretz (pc := 6) dX4_failAt_6 rfl rfl (Nat.le_of_ble_eq_true rfl) (by decide) ⟨rfl, ?_⟩
                refine a_iretz (pc := 23) dX4_takeByte_23 rfl rfl (Nat.le_of_ble_eq_true rfl) (by decide) ⟨rfl, ?_⟩
                refine a_if_eq (tgt := 71) (pc := 57) dX4_readPath_57 (by decide) (fun _ => ?_) (fun hc => absurd (by decide) hc)
                refine a_iconst (pc := 71) dX4_readPath_71 (by decide) ?_
                exact a_iretz (pc := 72) dX4_readPath_72 rfl rfl (Nat.le_of_ble_eq_true rfl) (by decide) ⟨rfl, h⟩
              · replace h := h.2 hc15
                refine a_iload_n (pc := 4) dX7_byteAt_4 rfl ?_
                refine a_aload_n (pc := 5) dX7_byteAt_5 (by decide) rfl ?_
                refine a_getI (y := 1) (pc := 6) dX7_byteAt_6 fl_RX7_19 (by decide) s0_263 (Or.inl rfl) rfl ?_
                refine a_icmp_ge (tgt := 21) (pc := 9) dX7_byteAt_9 (by decide) (fun hc16 => ?_) (fun hc16 => ?_)
                · replace h := h.1 hc16
                  refine a_iconst (pc := 21) dX7_byteAt_21 (by decide) ?_
                  refine a_ireti (pc := 22) dX7_byteAt_22 rfl rfl (Nat.le_of_ble_eq_true rfl) ⟨rfl, ?_⟩
                  refine a_iload_n (pc := 11) dX4_takeByte_11 rfl ?_
                  refine a_icmp_eq (tgt := 24) (pc := 12) dX4_takeByte_12 (by decide) (fun hc => absurd hc (by decide)) (fun _ => ?_)
                  refine a_aload_n (pc := 15) dX4_takeByte_15 (by decide) rfl ?_
                  refine a_aload_n (pc := 16) dX4_takeByte_16 (by decide) rfl ?_
                  refine a_getI (y := 2) (pc := 17) dX4_takeByte_17 fl_RX4_19 (by decide) s0_267 (Or.inl rfl) rfl ?_
                  refine p_inlV (Ex := _) (As := [(0, M11 267 2)]) (st := []) (st1 := fun r => [(0, r)])  (pc := 20) dX4_takeByte_20 ml_RX4_52 (by decide) s0_267 rfl (by decide) (Nat.le_of_ble_eq_true rfl) rfl (fun _ => rfl) (by decide) (by decide) (Nat.le_of_ble_eq_true rfl) rfl ?_
                  refine a_aload_n (pc := 0) dX4_failAt_0 (by decide) rfl ?_
                  refine a_iload_n (pc := 1) dX4_failAt_1 rfl ?_
                  refine a_putI (y := 6) (pc := 2) dX4_failAt_2 fl_RX4_32 (by decide) s0_267 rfl rfl (tyX4_ok 6 (by decide)) rfl ?_
                  refine a_iconst (pc := 5) dX4_failAt_5 (by decide) ?_
                  refine a_iretz (pc := 6) dX4_failAt_6 rfl rfl (Nat.le_of_ble_eq_true rfl) (by decide) ⟨rfl, ?_⟩
                  refine a_iretz (pc := 23) dX4_takeByte_23 rfl rfl (Nat.le_of_ble_eq_true rfl) (by decide) ⟨rfl, ?_⟩
                  refine a_if_eq (tgt := 71) (pc := 57) dX4_readPath_57 (by decide) (fun _ => ?_) (fun hc => absurd (by decide) hc)
                  refine a_iconst (pc := 71) dX4_readPath_71 (by decide) ?_
                  exact a_iretz (pc := 72) dX4_readPath_72 rfl rfl (Nat.le_of_ble_eq_true rfl) (by decide) ⟨rfl, h⟩
                · replace h := h.2 hc16
                  refine a_aload_n (pc := 12) dX7_byteAt_12 (by decide) rfl ?_
                  refine a_getR (y := 264) (pc := 13) dX7_byteAt_13 fl_RX7_13 (by decide) s0_263 rfl rfl ?_
                  refine a_iload_n (pc := 16) dX7_byteAt_16 rfl ?_
                  have ho17 := h.1
                  replace h := h.2
                  refine a_iald (pc := 17) dX7_byteAt_17 (by decide) s0_264 ho17.1 ho17.2 ?_
                  refine a_goto (tgt := 22) (pc := 18) dX7_byteAt_18 (by decide) ?_
                  refine a_ireti (pc := 22) dX7_byteAt_22 rfl rfl (Nat.le_of_ble_eq_true rfl) ⟨rfl, ?_⟩
                  refine a_iload_n (pc := 11) dX4_takeByte_11 rfl ?_
                  refine a_icmp_eq (tgt := 24) (pc := 12) dX4_takeByte_12 (by decide) (fun hc18 => ?_) (fun hc18 => ?_)
                  · replace h := h.1 hc18
                    refine a_aload_n (pc := 24) dX4_takeByte_24 (by decide) rfl ?_
                    refine a_dup (pc := 25) dX4_takeByte_25 n21 ?_
                    refine a_getI (y := 2) (pc := 26) dX4_takeByte_26 fl_RX4_19 (by decide) s0_267 (Or.inl rfl) rfl ?_
                    refine a_iconst (pc := 29) dX4_takeByte_29 (by decide) ?_
                    have ho19 := h.1
                    replace h := h.2
                    refine a_iadd (pc := 30) dX4_takeByte_30 ho19 ?_
                    refine a_putI (y := 2) (pc := 31) dX4_takeByte_31 fl_RX4_19 (by decide) s0_267 rfl rfl (tyX4_ok 2 (by decide)) rfl ?_
                    refine a_iconst (pc := 34) dX4_takeByte_34 (by decide) ?_
                    refine a_iretz (pc := 35) dX4_takeByte_35 rfl rfl (Nat.le_of_ble_eq_true rfl) (by decide) ⟨rfl, ?_⟩
                    refine a_if_eq (tgt := 71) (pc := 57) dX4_readPath_57 (by decide) (fun hc => absurd hc (by decide)) (fun _ => ?_)
                    refine a_aload_n (pc := 60) dX4_readPath_60 (by decide) rfl ?_
                    refine a_iconst (pc := 61) dX4_readPath_61 (by decide) ?_
                    refine a_iconst (pc := 62) dX4_readPath_62 (by decide) ?_
                    refine a_bipush (pc := 63) dX4_readPath_63 (by decide) (by decide +kernel) ?_
                    refine p_callV (As := [(0, 2), (0, 1), (0, 60)]) (st := []) (st1 := fun r => [(0, r)])  (pc := 65) dX4_readPath_65 ml_RX4_75 (by decide) s0_267 rfl (by decide) (Nat.le_of_ble_eq_true rfl) rfl (fun _ => rfl) h (fun r20 M21 h => ?_)
                    refine a_if_ne (tgt := 73) (pc := 68) dX4_readPath_68 (by decide) (fun hc22 => ?_) (fun hc22 => ?_)
                    · replace h := h.1 hc22
                      refine a_aload_n (pc := 73) dX4_readPath_73 (by decide) rfl ?_
                      refine a_getR (y := 1) (pc := 74) dX4_readPath_74 fl_RX4_9 (by decide) s0_267 rfl rfl ?_
                      refine a_iload_n (pc := 77) dX4_readPath_77 rfl ?_
                      refine a_iload_n (pc := 78) dX4_readPath_78 rfl ?_
                      refine a_aload_n (pc := 79) dX4_readPath_79 (by decide) rfl ?_
                      refine a_getI (y := 4) (pc := 80) dX4_readPath_80 fl_RX4_26 (by decide) s0_267 (Or.inl rfl) rfl ?_
                      refine p_inlV (Ex := _) (As := [(0, M2 267 4), (0, M11 267 4), (0, M21 267 4)]) (st := []) (st1 := fun r => [])  (pc := 83) dX4_readPath_83 ml_RX4_111 (by decide) s0_1 rfl (by decide) (Nat.le_of_ble_eq_true rfl) rfl (fun _ => rfl) (by decide) (by decide) (Nat.le_of_ble_eq_true rfl) rfl ?_
                      refine a_aload_n (pc := 0) dX3_putPath_0 (by decide) rfl ?_
                      refine a_getR (y := 64) (pc := 1) dX3_putPath_1 fl_RX3_36 (by decide) s0_1 rfl rfl ?_
                      refine a_iload_n (pc := 4) dX3_putPath_4 rfl ?_
                      have ho23 := h.1
                      replace h := h.2
                      have hr24 := rw_64 (M2 267 4) ho23.1 ho23.2
                      refine a_aald (y := 65 + (M2 267 4)) (pc := 5) dX3_putPath_5 (by decide) s0_64 ho23.1 ho23.2 (by omega) ?_
                      refine a_iload_n (pc := 6) dX3_putPath_6 rfl ?_
                      refine a_iload_n (pc := 7) dX3_putPath_7 rfl ?_
                      have ho25 := h.1
                      replace h := h.2
                      refine a_iast (pc := 8) dX3_putPath_8 hr24.1 hr24.2 ho25.1 ho25.2 ?_
                      refine a_aload_n (pc := 9) dX3_putPath_9 (by decide) rfl ?_
                      refine a_getR (y := 64) (pc := 10) dX3_putPath_10 fl_RX3_36 (by decide) s0_1 rfl rfl ?_
                      refine a_iload_n (pc := 13) dX3_putPath_13 rfl ?_
                      have hr26 := rw_64 (M11 267 4) ho25.1 ho25.2
                      refine a_aald (y := 65 + (M11 267 4)) (pc := 14) dX3_putPath_14 (by decide) s0_64 ho25.1 ho25.2 (by omega) ?_
                      refine a_iload_n (pc := 15) dX3_putPath_15 rfl ?_
                      refine a_iload_n (pc := 16) dX3_putPath_16 rfl ?_
                      refine a_iast (pc := 17) dX3_putPath_17 hr26.1 hr26.2 ho23.1 ho23.2 ?_
                      refine a_vret (pc := 18) dX3_putPath_18 rfl rfl (Nat.le_of_ble_eq_true rfl) ⟨rfl, ?_⟩
                      refine a_iconst (pc := 86) dX4_readPath_86 (by decide) ?_
                      exact a_iretz (pc := 87) dX4_readPath_87 rfl rfl (Nat.le_of_ble_eq_true rfl) (by decide) ⟨rfl, h⟩
                    · replace h := h.2 hc22
                      refine a_iconst (pc := 71) dX4_readPath_71 (by decide) ?_
                      exact a_iretz (pc := 72) dX4_readPath_72 rfl rfl (Nat.le_of_ble_eq_true rfl) (by decide) ⟨rfl, h⟩
                  · replace h := h.2 hc18
                    refine a_aload_n (pc := 15) dX4_takeByte_15 (by decide) rfl ?_
                    refine a_aload_n (pc := 16) dX4_takeByte_16 (by decide) rfl ?_
                    refine a_getI (y := 2) (pc := 17) dX4_takeByte_17 fl_RX4_19 (by decide) s0_267 (Or.inl rfl) rfl ?_
                    refine p_inlV (Ex := _) (As := [(0, M11 267 2)]) (st := []) (st1 := fun r => [(0, r)])  (pc := 20) dX4_takeByte_20 ml_RX4_52 (by decide) s0_267 rfl (by decide) (Nat.le_of_ble_eq_true rfl) rfl (fun _ => rfl) (by decide) (by decide) (Nat.le_of_ble_eq_true rfl) rfl ?_
                    refine a_aload_n (pc := 0) dX4_failAt_0 (by decide) rfl ?_
                    refine a_iload_n (pc := 1) dX4_failAt_1 rfl ?_
                    refine a_putI (y := 6) (pc := 2) dX4_failAt_2 fl_RX4_32 (by decide) s0_267 rfl rfl (tyX4_ok 6 (by decide)) rfl ?_
                    refine a_iconst (pc := 5) dX4_failAt_5 (by decide) ?_
                    refine a_iretz (pc := 6) dX4_failAt_6 rfl rfl (Nat.le_of_ble_eq_true rfl) (by decide) ⟨rfl, ?_⟩
                    refine a_iretz (pc := 23) dX4_takeByte_23 rfl rfl (Nat.le_of_ble_eq_true rfl) (by decide) ⟨rfl, ?_⟩
                    refine a_if_eq (tgt := 71) (pc := 57) dX4_readPath_57 (by decide) (fun _ => ?_) (fun hc => absurd (by decide) hc)
                    refine a_iconst (pc := 71) dX4_readPath_71 (by decide) ?_
                    exact a_iretz (pc := 72) dX4_readPath_72 rfl rfl (Nat.le_of_ble_eq_true rfl) (by decide) ⟨rfl, h⟩
            · replace h := h.2 hc14
              refine a_aload_n (pc := 42) dX4_readPath_42 (by decide) rfl ?_
              refine a_aload_n (pc := 43) dX4_readPath_43 (by decide) rfl ?_
              refine a_getI (y := 5) (pc := 44) dX4_readPath_44 fl_RX4_29 (by decide) s0_267 (Or.inl rfl) rfl ?_
              refine p_inlV (Ex := _) (As := [(0, M11 267 5)]) (st := []) (st1 := fun r => [(0, r)])  (pc := 47) dX4_readPath_47 ml_RX4_52 (by decide) s0_267 rfl (by decide) (Nat.le_of_ble_eq_true rfl) rfl (fun _ => rfl) (by decide) (by decide) (Nat.le_of_ble_eq_true rfl) rfl ?_
              refine a_aload_n (pc := 0) dX4_failAt_0 (by decide) rfl ?_
              refine a_iload_n (pc := 1) dX4_failAt_1 rfl ?_
              refine a_putI (y := 6) (pc := 2) dX4_failAt_2 fl_RX4_32 (by decide) s0_267 rfl rfl (tyX4_ok 6 (by decide)) rfl ?_
              refine a_iconst (pc := 5) dX4_failAt_5 (by decide) ?_
              refine a_iretz (pc := 6) dX4_failAt_6 rfl rfl (Nat.le_of_ble_eq_true rfl) (by decide) ⟨rfl, ?_⟩
              exact a_iretz (pc := 50) dX4_readPath_50 rfl rfl (Nat.le_of_ble_eq_true rfl) (by decide) ⟨rfl, h⟩
          · replace h := h.2 hc13
            refine a_iconst (pc := 30) dX4_readPath_30 (by decide) ?_
            exact a_iretz (pc := 31) dX4_readPath_31 rfl rfl (Nat.le_of_ble_eq_true rfl) (by decide) ⟨rfl, h⟩
        · replace h := h.2 hc8
          refine a_aload_n (pc := 15) dX4_takeByte_15 (by decide) rfl ?_
          refine a_aload_n (pc := 16) dX4_takeByte_16 (by decide) rfl ?_
          refine a_getI (y := 2) (pc := 17) dX4_takeByte_17 fl_RX4_19 (by decide) s0_267 (Or.inl rfl) rfl ?_
          refine p_inlV (Ex := _) (As := [(0, M2 267 2)]) (st := []) (st1 := fun r => [(0, r)])  (pc := 20) dX4_takeByte_20 ml_RX4_52 (by decide) s0_267 rfl (by decide) (Nat.le_of_ble_eq_true rfl) rfl (fun _ => rfl) (by decide) (by decide) (Nat.le_of_ble_eq_true rfl) rfl ?_
          refine a_aload_n (pc := 0) dX4_failAt_0 (by decide) rfl ?_
          refine a_iload_n (pc := 1) dX4_failAt_1 rfl ?_
          refine a_putI (y := 6) (pc := 2) dX4_failAt_2 fl_RX4_32 (by decide) s0_267 rfl rfl (tyX4_ok 6 (by decide)) rfl ?_
          refine a_iconst (pc := 5) dX4_failAt_5 (by decide) ?_
          refine a_iretz (pc := 6) dX4_failAt_6 rfl rfl (Nat.le_of_ble_eq_true rfl) (by decide) ⟨rfl, ?_⟩
          refine a_iretz (pc := 23) dX4_takeByte_23 rfl rfl (Nat.le_of_ble_eq_true rfl) (by decide) ⟨rfl, ?_⟩
          refine a_if_eq (tgt := 30) (pc := 20) dX4_readPath_20 (by decide) (fun _ => ?_) (fun hc => absurd (by decide) hc)
          refine a_iconst (pc := 30) dX4_readPath_30 (by decide) ?_
          exact a_iretz (pc := 31) dX4_readPath_31 rfl rfl (Nat.le_of_ble_eq_true rfl) (by decide) ⟨rfl, h⟩
  · replace h := h.2 hc4
    refine a_iconst (pc := 7) dX4_readPath_7 (by decide) ?_
    exact a_iretz (pc := 8) dX4_readPath_8 rfl rfl (Nat.le_of_ble_eq_true rfl) (by decide) ⟨rfl, h⟩
theorem E_Reader_readPath {M : Mem} {Q : Int → Mem → Prop} (h : AW mX4_readPath 0 [(2, 267), (9, 0), (9, 0)] M Q) : Calls mX4_readPath [(2, 267)] S0 M Q := calls_of (by decide) (by decide) (Nat.le_of_ble_eq_true rfl) rfl h
set_option maxRecDepth 100000 in
set_option maxHeartbeats 4000000 in
theorem B_Net_countAllRunning_0 {M : Mem} {Q : Int → Mem → Prop} (h : AW mX3_countAllRunning 4 [(2, 1), (0, 0), (0, 0)] M Q) : AW mX3_countAllRunning 0 [(2, 1), (9, 0), (9, 0)] M Q := by
  refine a_iconst (pc := 0) dX3_countAllRunning_0 (by decide) ?_
  refine a_istore_n (ls1 := [(2, 1), (0, 0), (9, 0)]) (pc := 1) dX3_countAllRunning_1 (by decide) (hp1 (t := 2) rfl (by decide)) rfl ?_
  refine a_iconst (pc := 2) dX3_countAllRunning_2 (by decide) ?_
  refine a_istore_n (ls1 := [(2, 1), (0, 0), (0, 0)]) (pc := 3) dX3_countAllRunning_3 (by decide) (hp1 (t := 0) rfl (by decide)) rfl ?_
  exact h
set_option maxRecDepth 100000 in
set_option maxHeartbeats 4000000 in
theorem B_Net_countAllRunning_4 {l1 l2 : Int} {M : Mem} {Q : Int → Mem → Prop} (h : (((M 1 0) ≤ l2 → Q l1 M) ∧ (¬ ((M 1 0) ≤ l2) → Calls mX3_countRunning [(2, 1), (0, l2)] S0 M (fun r2 M3 => (-2147483648 ≤ l1 + r2 ∧ l1 + r2 ≤ 2147483647) ∧ (-2147483648 ≤ l2 + 1 ∧ l2 + 1 ≤ 2147483647) ∧ AW mX3_countAllRunning 4 [(2, 1), (0, l1 + r2), (0, l2 + 1)] M3 Q)))) : AW mX3_countAllRunning 4 [(2, 1), (0, l1), (0, l2)] M Q := by
  refine a_iload_n (pc := 4) dX3_countAllRunning_4 rfl ?_
  refine a_aload_n (pc := 5) dX3_countAllRunning_5 (by decide) rfl ?_
  refine a_getI (y := 0) (pc := 6) dX3_countAllRunning_6 fl_RX3_9 (by decide) s0_1 (Or.inl rfl) rfl ?_
  refine a_icmp_ge (tgt := 26) (pc := 9) dX3_countAllRunning_9 (by decide) (fun hc1 => ?_) (fun hc1 => ?_)
  · replace h := h.1 hc1
    refine a_iload_n (pc := 26) dX3_countAllRunning_26 rfl ?_
    exact a_ireti (pc := 27) dX3_countAllRunning_27 rfl rfl (Nat.le_of_ble_eq_true rfl) ⟨rfl, h⟩
  · replace h := h.2 hc1
    refine a_iload_n (pc := 12) dX3_countAllRunning_12 rfl ?_
    refine a_aload_n (pc := 13) dX3_countAllRunning_13 (by decide) rfl ?_
    refine a_iload_n (pc := 14) dX3_countAllRunning_14 rfl ?_
    refine p_callV (As := [(0, l2)]) (st := [(0, l1)]) (st1 := fun r => [(0, r), (0, l1)])  (pc := 15) dX3_countAllRunning_15 ml_RX3_62 (by decide) s0_1 rfl (by decide) (Nat.le_of_ble_eq_true rfl) rfl (fun _ => rfl) h (fun r2 M3 h => ?_)
    have ho4 := h.1
    replace h := h.2
    refine a_iadd (pc := 18) dX3_countAllRunning_18 ho4 ?_
    refine a_istore_n (ls1 := [(2, 1), (0, l1 + r2), (0, l2)]) (pc := 19) dX3_countAllRunning_19 (by decide) (hp1 (t := 2) rfl (by decide)) rfl ?_
    have ho5 := h.1
    replace h := h.2
    refine a_iinc (ls1 := [(2, 1), (0, l1 + r2), (0, l2 + 1)]) (pc := 20) dX3_countAllRunning_20 rfl (by decide) (hp1 (t := 0) rfl (by decide)) ho5 rfl ?_
    refine a_goto (tgt := 4) (pc := 23) dX3_countAllRunning_23 (by decide) ?_
    exact h
theorem E_Net_countAllRunning {M : Mem} {Q : Int → Mem → Prop} (h : AW mX3_countAllRunning 0 [(2, 1), (9, 0), (9, 0)] M Q) : Calls mX3_countAllRunning [(2, 1)] S0 M Q := calls_of (by decide) (by decide) (Nat.le_of_ble_eq_true rfl) rfl h
set_option maxRecDepth 100000 in
set_option maxHeartbeats 4000000 in
theorem B_Route_findRide_0 {l1 l2 l3 : Int} {M : Mem} {Q : Int → Mem → Prop} (h : ((1 ≤ l1 → (-2147483648 ≤ l1 - 1 ∧ l1 - 1 ≤ 2147483647) ∧ ((0 : Int) ≤ l1 - 1 ∧ l1 - 1 < 7) ∧ AW mX5_findRide 23 [(2, 246), (9, 0), (0, l2), (0, l3), (2, 231 + (l1 - 1)), (0, 0), (9, 0), (9, 0)] M Q) ∧ (¬ (1 ≤ l1) → Q 0 M))) : AW mX5_findRide 0 [(2, 246), (0, l1), (0, l2), (0, l3), (9, 0), (9, 0), (9, 0), (9, 0)] M Q := by
  refine a_iload_n (pc := 0) dX5_findRide_0 rfl ?_
  refine a_iconst (pc := 1) dX5_findRide_1 (by decide) ?_
  refine a_icmp_ge (tgt := 7) (pc := 2) dX5_findRide_2 (by decide) (fun hc1 => ?_) (fun hc1 => ?_)
  · replace h := h.1 hc1
    refine a_aload_n (pc := 7) dX5_findRide_7 (by decide) rfl ?_
    refine a_getR (y := 229) (pc := 8) dX5_findRide_8 fl_RX5_15 (by decide) s0_246 rfl rfl ?_
    refine a_getR (y := 230) (pc := 11) dX5_findRide_11 fl_RX5_43 (by decide) s0_229 rfl rfl ?_
    refine a_iload_n (pc := 14) dX5_findRide_14 rfl ?_
    refine a_iconst (pc := 15) dX5_findRide_15 (by decide) ?_
    have ho2 := h.1
    replace h := h.2
    refine a_isub (pc := 16) dX5_findRide_16 ho2 ?_
    have ho3 := h.1
    replace h := h.2
    have hr4 := rw_230 (l1 - 1) ho3.1 ho3.2
    refine a_aald (y := 231 + (l1 - 1)) (pc := 17) dX5_findRide_17 (by decide) s0_230 ho3.1 ho3.2 (by omega) ?_
    refine a_astore (ls1 := [(2, 246), (0, l1), (0, l2), (0, l3), (2, 231 + (l1 - 1)), (9, 0), (9, 0), (9, 0)]) (pc := 18) dX5_findRide_18 hr4.1 (by decide) (hp1 (t := 0) rfl (by decide)) rfl ?_
    refine a_iconst (pc := 20) dX5_findRide_20 (by decide) ?_
    refine a_istore (ls1 := [(2, 246), (0, l1), (0, l2), (0, l3), (2, 231 + (l1 - 1)), (0, 0), (9, 0), (9, 0)]) (pc := 21) dX5_findRide_21 (by decide) (hp1 (t := 2) rfl (by decide)) rfl ?_
    exact a_msk [true, false, true, true, true, true, true, true] rfl h
  · replace h := h.2 hc1
    refine a_iconst (pc := 5) dX5_findRide_5 (by decide) ?_
    exact a_iretz (pc := 6) dX5_findRide_6 rfl rfl (Nat.le_of_ble_eq_true rfl) (by decide) ⟨rfl, h⟩
set_option maxRecDepth 100000 in
set_option maxHeartbeats 4000000 in
theorem B_Route_findRide_23 {l2 l3 l4 l5 : Int} (ha4 : isA l4 12) {M : Mem} {Q : Int → Mem → Prop} (h : (((M 1 0) ≤ l5 → Q 0 M) ∧ (¬ ((M 1 0) ≤ l5) → Calls mX3_placeOf [(2, 1), (0, l5), (0, l2)] S0 M (fun r2 M3 => ((1 ≤ r2 → AW mX5_findRide 59 [(2, 246), (9, 0), (0, l2), (0, l3), (2, l4), (0, l5), (0, r2), (0, 0)] M3 Q) ∧ (¬ (1 ≤ r2) → (-2147483648 ≤ l5 + 1 ∧ l5 + 1 ≤ 2147483647) ∧ AW mX5_findRide 23 [(2, 246), (9, 0), (0, l2), (0, l3), (2, l4), (0, l5 + 1), (9, 0), (9, 0)] M3 Q)))))) : AW mX5_findRide 23 [(2, 246), (9, 0), (0, l2), (0, l3), (2, l4), (0, l5), (9, 0), (9, 0)] M Q := by
  refine a_iload (pc := 23) dX5_findRide_23 rfl ?_
  refine a_aload_n (pc := 25) dX5_findRide_25 (by decide) rfl ?_
  refine a_getR (y := 1) (pc := 26) dX5_findRide_26 fl_RX5_9 (by decide) s0_246 rfl rfl ?_
  refine a_getI (y := 0) (pc := 29) dX5_findRide_29 fl_RX5_58 (by decide) s0_1 (Or.inl rfl) rfl ?_
  refine a_icmp_ge (tgt := 137) (pc := 32) dX5_findRide_32 (by decide) (fun hc1 => ?_) (fun hc1 => ?_)
  · replace h := h.1 hc1
    refine a_iconst (pc := 137) dX5_findRide_137 (by decide) ?_
    exact a_iretz (pc := 138) dX5_findRide_138 rfl rfl (Nat.le_of_ble_eq_true rfl) (by decide) ⟨rfl, h⟩
  · replace h := h.2 hc1
    refine a_aload_n (pc := 35) dX5_findRide_35 (by decide) rfl ?_
    refine a_getR (y := 1) (pc := 36) dX5_findRide_36 fl_RX5_9 (by decide) s0_246 rfl rfl ?_
    refine a_iload (pc := 39) dX5_findRide_39 rfl ?_
    refine a_iload_n (pc := 41) dX5_findRide_41 rfl ?_
    refine p_callV (As := [(0, l5), (0, l2)]) (st := []) (st1 := fun r => [(0, r)])  (pc := 42) dX5_findRide_42 ml_RX5_63 (by decide) s0_1 rfl (by decide) (Nat.le_of_ble_eq_true rfl) rfl (fun _ => rfl) h (fun r2 M3 h => ?_)
    refine a_istore (ls1 := [(2, 246), (9, 0), (0, l2), (0, l3), (2, l4), (0, l5), (0, r2), (9, 0)]) (pc := 45) dX5_findRide_45 (by decide) (hp1 (t := 0) rfl (by decide)) rfl ?_
    refine a_iload (pc := 47) dX5_findRide_47 rfl ?_
    refine a_iconst (pc := 49) dX5_findRide_49 (by decide) ?_
    refine a_icmp_ge (tgt := 56) (pc := 50) dX5_findRide_50 (by decide) (fun hc4 => ?_) (fun hc4 => ?_)
    · replace h := h.1 hc4
      refine a_iconst (pc := 56) dX5_findRide_56 (by decide) ?_
      refine a_istore (ls1 := [(2, 246), (9, 0), (0, l2), (0, l3), (2, l4), (0, l5), (0, r2), (0, 0)]) (pc := 57) dX5_findRide_57 (by decide) (hp1 (t := 0) rfl (by decide)) rfl ?_
      exact h
    · replace h := h.2 hc4
      refine a_goto (tgt := 131) (pc := 53) dX5_findRide_53 (by decide) ?_
      have ho5 := h.1
      replace h := h.2
      refine a_iinc (ls1 := [(2, 246), (9, 0), (0, l2), (0, l3), (2, l4), (0, l5 + 1), (0, r2), (9, 0)]) (pc := 131) dX5_findRide_131 rfl (by decide) (hp1 (t := 2) rfl (by decide)) ho5 rfl ?_
      refine a_goto (tgt := 23) (pc := 134) dX5_findRide_134 (by decide) ?_
      exact a_msk [true, true, true, true, true, true, false, true] rfl h
set_option maxRecDepth 100000 in
set_option maxHeartbeats 4000000 in
theorem B_Route_findRide_59 {l2 l3 l4 l5 l6 l7 : Int} (ha4 : isA l4 12) {M : Mem} {Q : Int → Mem → Prop} (h : ((0 : Int) ≤ l5 ∧ l5 < 8) ∧ (((M 4 l5) ≤ l7 → (-2147483648 ≤ l5 + 1 ∧ l5 + 1 ≤ 2147483647) ∧ AW mX5_findRide 23 [(2, 246), (9, 0), (0, l2), (0, l3), (2, l4), (0, l5 + 1), (9, 0), (9, 0)] M Q) ∧ (¬ ((M 4 l5) ≤ l7) → (-2147483648 ≤ l5 * 6 ∧ l5 * 6 ≤ 2147483647) ∧ (-2147483648 ≤ (l5 * 6) + l7 ∧ (l5 * 6) + l7 ≤ 2147483647) ∧ ((0 : Int) ≤ (l5 * 6) + l7 ∧ (l5 * 6) + l7 < 48) ∧ ((¬ (M 63 ((l5 * 6) + l7)) = 1 → (-2147483648 ≤ l7 + 1 ∧ l7 + 1 ≤ 2147483647) ∧ AW mX5_findRide 59 [(2, 246), (9, 0), (0, l2), (0, l3), (2, l4), (0, l5), (0, l6), (0, l7 + 1)] M Q) ∧ ((M 63 ((l5 * 6) + l7)) = 1 → ((0 : Int) ≤ l6 ∧ l6 < 6) ∧ (((M (15 + ((l5 * 6) + l7)) l6) = l3 → Calls mX5_findBeginning [(2, 246), (0, l5), (0, l7), (0, l6), (2, l4)] S0 M (fun r12 M13 => ((r12 = 0 → (-2147483648 ≤ l7 + 1 ∧ l7 + 1 ≤ 2147483647) ∧ AW mX5_findRide 59 [(2, 246), (9, 0), (0, l2), (0, l3), (2, l4), (0, l5), (0, l6), (0, l7 + 1)] M13 Q) ∧ (¬ r12 = 0 → Q 1 M13)))) ∧ (¬ (M (15 + ((l5 * 6) + l7)) l6) = l3 → (-2147483648 ≤ l7 + 1 ∧ l7 + 1 ≤ 2147483647) ∧ AW mX5_findRide 59 [(2, 246), (9, 0), (0, l2), (0, l3), (2, l4), (0, l5), (0, l6), (0, l7 + 1)] M Q))))))) : AW mX5_findRide 59 [(2, 246), (9, 0), (0, l2), (0, l3), (2, l4), (0, l5), (0, l6), (0, l7)] M Q := by
  refine a_iload (pc := 59) dX5_findRide_59 rfl ?_
  refine a_aload_n (pc := 61) dX5_findRide_61 (by decide) rfl ?_
  refine a_getR (y := 1) (pc := 62) dX5_findRide_62 fl_RX5_9 (by decide) s0_246 rfl rfl ?_
  refine a_getR (y := 4) (pc := 65) dX5_findRide_65 fl_RX5_67 (by decide) s0_1 rfl rfl ?_
  refine a_iload (pc := 68) dX5_findRide_68 rfl ?_
  have ho1 := h.1
  replace h := h.2
  refine a_iald (pc := 70) dX5_findRide_70 (by decide) s0_4 ho1.1 ho1.2 ?_
  refine a_icmp_ge (tgt := 131) (pc := 71) dX5_findRide_71 (by decide) (fun hc2 => ?_) (fun hc2 => ?_)
  · replace h := h.1 hc2
    have ho3 := h.1
    replace h := h.2
    refine a_iinc (ls1 := [(2, 246), (9, 0), (0, l2), (0, l3), (2, l4), (0, l5 + 1), (0, l6), (0, l7)]) (pc := 131) dX5_findRide_131 rfl (by decide) (hp1 (t := 2) rfl (by decide)) ho3 rfl ?_
    refine a_goto (tgt := 23) (pc := 134) dX5_findRide_134 (by decide) ?_
    exact a_msk [true, true, true, true, true, true, false, false] rfl h
  · replace h := h.2 hc2
    refine a_aload_n (pc := 74) dX5_findRide_74 (by decide) rfl ?_
    refine a_getR (y := 1) (pc := 75) dX5_findRide_75 fl_RX5_9 (by decide) s0_246 rfl rfl ?_
    refine a_iload (pc := 78) dX5_findRide_78 rfl ?_
    refine a_iload (pc := 80) dX5_findRide_80 rfl ?_
    refine p_inlV (Ex := _) (As := [(0, l5), (0, l7)]) (st := []) (st1 := fun r => [(0, r)])  (pc := 82) dX5_findRide_82 ml_RX5_71 (by decide) s0_1 rfl (by decide) (Nat.le_of_ble_eq_true rfl) rfl (fun _ => rfl) (by decide) (by decide) (Nat.le_of_ble_eq_true rfl) rfl ?_
    refine a_aload_n (pc := 0) dX3_isRunning_0 (by decide) rfl ?_
    refine a_getR (y := 63) (pc := 1) dX3_isRunning_1 fl_RX3_33 (by decide) s0_1 rfl rfl ?_
    refine a_iload_n (pc := 4) dX3_isRunning_4 rfl ?_
    refine a_iload_n (pc := 5) dX3_isRunning_5 rfl ?_
    refine p_inlS (Ex := _) (As := [(0, l5), (0, l7)]) (st := [(2, 63)]) (st1 := fun r => [(0, r), (2, 63)])  (pc := 6) dX3_isRunning_6 ml_RX3_49 (by decide) (Nat.le_of_ble_eq_true rfl) rfl (fun _ => rfl) (by decide) (by decide) (Nat.le_of_ble_eq_true rfl) rfl ?_
    refine a_iload_n (pc := 0) dX3_rowOf_0 rfl ?_
    refine a_bipush (pc := 1) dX3_rowOf_1 (by decide) (by decide +kernel) ?_
    have ho4 := h.1
    replace h := h.2
    refine a_imul (pc := 3) dX3_rowOf_3 ho4 ?_
    refine a_iload_n (pc := 4) dX3_rowOf_4 rfl ?_
    have ho5 := h.1
    replace h := h.2
    refine a_iadd (pc := 5) dX3_rowOf_5 ho5 ?_
    refine a_ireti (pc := 6) dX3_rowOf_6 rfl rfl (Nat.le_of_ble_eq_true rfl) ⟨rfl, ?_⟩
    have ho6 := h.1
    replace h := h.2
    refine a_iald (pc := 9) dX3_isRunning_9 (by decide) s0_63 ho6.1 ho6.2 ?_
    refine a_iconst (pc := 10) dX3_isRunning_10 (by decide) ?_
    refine a_icmp_ne (tgt := 18) (pc := 11) dX3_isRunning_11 (by decide) (fun hc7 => ?_) (fun hc7 => ?_)
    · replace h := h.1 hc7
      refine a_iconst (pc := 18) dX3_isRunning_18 (by decide) ?_
      refine a_iretz (pc := 19) dX3_isRunning_19 rfl rfl (Nat.le_of_ble_eq_true rfl) (by decide) ⟨rfl, ?_⟩
      refine a_if_eq (tgt := 125) (pc := 85) dX5_findRide_85 (by decide) (fun _ => ?_) (fun hc => absurd (by decide) hc)
      have ho8 := h.1
      replace h := h.2
      refine a_iinc (ls1 := [(2, 246), (9, 0), (0, l2), (0, l3), (2, l4), (0, l5), (0, l6), (0, l7 + 1)]) (pc := 125) dX5_findRide_125 rfl (by decide) (hp1 (t := 0) rfl (by decide)) ho8 rfl ?_
      refine a_goto (tgt := 59) (pc := 128) dX5_findRide_128 (by decide) ?_
      exact h
    · replace h := h.2 hc7
      refine a_iconst (pc := 14) dX3_isRunning_14 (by decide) ?_
      refine a_goto (tgt := 19) (pc := 15) dX3_isRunning_15 (by decide) ?_
      refine a_iretz (pc := 19) dX3_isRunning_19 rfl rfl (Nat.le_of_ble_eq_true rfl) (by decide) ⟨rfl, ?_⟩
      refine a_if_eq (tgt := 125) (pc := 85) dX5_findRide_85 (by decide) (fun hc => absurd hc (by decide)) (fun _ => ?_)
      refine a_aload_n (pc := 88) dX5_findRide_88 (by decide) rfl ?_
      refine a_getR (y := 1) (pc := 89) dX5_findRide_89 fl_RX5_9 (by decide) s0_246 rfl rfl ?_
      refine a_iload (pc := 92) dX5_findRide_92 rfl ?_
      refine a_iload (pc := 94) dX5_findRide_94 rfl ?_
      refine a_iload (pc := 96) dX5_findRide_96 rfl ?_
      refine p_inlV (Ex := _) (As := [(0, l5), (0, l7), (0, l6)]) (st := []) (st1 := fun r => [(0, r)])  (pc := 98) dX5_findRide_98 ml_RX5_75 (by decide) s0_1 rfl (by decide) (Nat.le_of_ble_eq_true rfl) rfl (fun _ => rfl) (by decide) (by decide) (Nat.le_of_ble_eq_true rfl) rfl ?_
      refine a_aload_n (pc := 0) dX3_minuteOf_0 (by decide) rfl ?_
      refine a_getR (y := 14) (pc := 1) dX3_minuteOf_1 fl_RX3_30 (by decide) s0_1 rfl rfl ?_
      refine a_iload_n (pc := 4) dX3_minuteOf_4 rfl ?_
      refine a_iload_n (pc := 5) dX3_minuteOf_5 rfl ?_
      refine p_inlS (Ex := _) (As := [(0, l5), (0, l7)]) (st := [(2, 14)]) (st1 := fun r => [(0, r), (2, 14)])  (pc := 6) dX3_minuteOf_6 ml_RX3_49 (by decide) (Nat.le_of_ble_eq_true rfl) rfl (fun _ => rfl) (by decide) (by decide) (Nat.le_of_ble_eq_true rfl) rfl ?_
      refine a_iload_n (pc := 0) dX3_rowOf_0 rfl ?_
      refine a_bipush (pc := 1) dX3_rowOf_1 (by decide) (by decide +kernel) ?_
      refine a_imul (pc := 3) dX3_rowOf_3 ho4 ?_
      refine a_iload_n (pc := 4) dX3_rowOf_4 rfl ?_
      refine a_iadd (pc := 5) dX3_rowOf_5 ho5 ?_
      refine a_ireti (pc := 6) dX3_rowOf_6 rfl rfl (Nat.le_of_ble_eq_true rfl) ⟨rfl, ?_⟩
      have hr9 := rw_14 ((l5 * 6) + l7) ho6.1 ho6.2
      refine a_aald (y := 15 + ((l5 * 6) + l7)) (pc := 9) dX3_minuteOf_9 (by decide) s0_14 ho6.1 ho6.2 (by omega) ?_
      refine a_iload_n (pc := 10) dX3_minuteOf_10 rfl ?_
      have ho10 := h.1
      replace h := h.2
      refine a_iald (pc := 11) dX3_minuteOf_11 hr9.1 hr9.2 ho10.1 ho10.2 ?_
      refine a_ireti (pc := 12) dX3_minuteOf_12 rfl rfl (Nat.le_of_ble_eq_true rfl) ⟨rfl, ?_⟩
      refine a_iload_n (pc := 101) dX5_findRide_101 rfl ?_
      refine a_icmp_eq (tgt := 108) (pc := 102) dX5_findRide_102 (by decide) (fun hc11 => ?_) (fun hc11 => ?_)
      · replace h := h.1 hc11
        refine a_aload_n (pc := 108) dX5_findRide_108 (by decide) rfl ?_
        refine a_iload (pc := 109) dX5_findRide_109 rfl ?_
        refine a_iload (pc := 111) dX5_findRide_111 rfl ?_
        refine a_iload (pc := 113) dX5_findRide_113 rfl ?_
        refine a_aload (pc := 115) dX5_findRide_115 ha4.1 rfl ?_
        refine p_callV (As := [(0, l5), (0, l7), (0, l6), (2, l4)]) (st := []) (st1 := fun r => [(0, r)])  (pc := 117) dX5_findRide_117 ml_RX5_79 (by decide) s0_246 rfl (by decide) (Nat.le_of_ble_eq_true rfl) rfl (fun _ => rfl) h (fun r12 M13 h => ?_)
        refine a_if_eq (tgt := 125) (pc := 120) dX5_findRide_120 (by decide) (fun hc14 => ?_) (fun hc14 => ?_)
        · replace h := h.1 hc14
          have ho15 := h.1
          replace h := h.2
          refine a_iinc (ls1 := [(2, 246), (9, 0), (0, l2), (0, l3), (2, l4), (0, l5), (0, l6), (0, l7 + 1)]) (pc := 125) dX5_findRide_125 rfl (by decide) (hp1 (t := 0) rfl (by decide)) ho15 rfl ?_
          refine a_goto (tgt := 59) (pc := 128) dX5_findRide_128 (by decide) ?_
          exact h
        · replace h := h.2 hc14
          refine a_iconst (pc := 123) dX5_findRide_123 (by decide) ?_
          exact a_iretz (pc := 124) dX5_findRide_124 rfl rfl (Nat.le_of_ble_eq_true rfl) (by decide) ⟨rfl, h⟩
      · replace h := h.2 hc11
        refine a_goto (tgt := 125) (pc := 105) dX5_findRide_105 (by decide) ?_
        have ho16 := h.1
        replace h := h.2
        refine a_iinc (ls1 := [(2, 246), (9, 0), (0, l2), (0, l3), (2, l4), (0, l5), (0, l6), (0, l7 + 1)]) (pc := 125) dX5_findRide_125 rfl (by decide) (hp1 (t := 0) rfl (by decide)) ho16 rfl ?_
        refine a_goto (tgt := 59) (pc := 128) dX5_findRide_128 (by decide) ?_
        exact h
theorem E_Route_findRide {l1 l2 l3 : Int} {M : Mem} {Q : Int → Mem → Prop} (h : AW mX5_findRide 0 [(2, 246), (0, l1), (0, l2), (0, l3), (9, 0), (9, 0), (9, 0), (9, 0)] M Q) : Calls mX5_findRide [(2, 246), (0, l1), (0, l2), (0, l3)] S0 M Q := calls_of (by decide) (by decide) (Nat.le_of_ble_eq_true rfl) rfl h
set_option maxRecDepth 100000 in
set_option maxHeartbeats 4000000 in
theorem B_Board_leastMiss_0 {l1 : Int} {M : Mem} {Q : Int → Mem → Prop} (h : AW mX0_leastMiss 6 [(2, 261), (0, l1), (0, 10000), (0, 0), (9, 0), (9, 0)] M Q) : AW mX0_leastMiss 0 [(2, 261), (0, l1), (9, 0), (9, 0), (9, 0), (9, 0)] M Q := by
  refine a_sipush (pc := 0) dX0_leastMiss_0 (by decide) (by decide +kernel) ?_
  refine a_istore_n (ls1 := [(2, 261), (0, l1), (0, 10000), (9, 0), (9, 0), (9, 0)]) (pc := 3) dX0_leastMiss_3 (by decide) (hp1 (t := 0) rfl (by decide)) rfl ?_
  refine a_iconst (pc := 4) dX0_leastMiss_4 (by decide) ?_
  refine a_istore_n (ls1 := [(2, 261), (0, l1), (0, 10000), (0, 0), (9, 0), (9, 0)]) (pc := 5) dX0_leastMiss_5 (by decide) (hp1 (t := 0) rfl (by decide)) rfl ?_
  exact h
set_option maxRecDepth 100000 in
set_option maxHeartbeats 4000000 in
theorem B_Board_leastMiss_6 {l1 l2 l3 : Int} {M : Mem} {Q : Int → Mem → Prop} (h : (((M 1 0) ≤ l3 → Q l2 M) ∧ (¬ ((M 1 0) ≤ l3) → Calls mX3_placeOf [(2, 1), (0, l3), (0, l1)] S0 M (fun r2 M3 => ((1 ≤ r2 → AW mX0_leastMiss 40 [(2, 261), (0, l1), (0, l2), (0, l3), (0, r2), (0, 0)] M3 Q) ∧ (¬ (1 ≤ r2) → (-2147483648 ≤ l3 + 1 ∧ l3 + 1 ≤ 2147483647) ∧ AW mX0_leastMiss 6 [(2, 261), (0, l1), (0, l2), (0, l3 + 1), (9, 0), (9, 0)] M3 Q)))))) : AW mX0_leastMiss 6 [(2, 261), (0, l1), (0, l2), (0, l3), (9, 0), (9, 0)] M Q := by
  refine a_iload_n (pc := 6) dX0_leastMiss_6 rfl ?_
  refine a_aload_n (pc := 7) dX0_leastMiss_7 (by decide) rfl ?_
  refine a_getR (y := 1) (pc := 8) dX0_leastMiss_8 fl_RX0_9 (by decide) s0_261 rfl rfl ?_
  refine a_getI (y := 0) (pc := 11) dX0_leastMiss_11 fl_RX0_23 (by decide) s0_1 (Or.inl rfl) rfl ?_
  refine a_icmp_ge (tgt := 105) (pc := 14) dX0_leastMiss_14 (by decide) (fun hc1 => ?_) (fun hc1 => ?_)
  · replace h := h.1 hc1
    refine a_iload_n (pc := 105) dX0_leastMiss_105 rfl ?_
    exact a_ireti (pc := 106) dX0_leastMiss_106 rfl rfl (Nat.le_of_ble_eq_true rfl) ⟨rfl, h⟩
  · replace h := h.2 hc1
    refine a_aload_n (pc := 17) dX0_leastMiss_17 (by decide) rfl ?_
    refine a_getR (y := 1) (pc := 18) dX0_leastMiss_18 fl_RX0_9 (by decide) s0_261 rfl rfl ?_
    refine a_iload_n (pc := 21) dX0_leastMiss_21 rfl ?_
    refine a_iload_n (pc := 22) dX0_leastMiss_22 rfl ?_
    refine p_callV (As := [(0, l3), (0, l1)]) (st := []) (st1 := fun r => [(0, r)])  (pc := 23) dX0_leastMiss_23 ml_RX0_28 (by decide) s0_1 rfl (by decide) (Nat.le_of_ble_eq_true rfl) rfl (fun _ => rfl) h (fun r2 M3 h => ?_)
    refine a_istore (ls1 := [(2, 261), (0, l1), (0, l2), (0, l3), (0, r2), (9, 0)]) (pc := 26) dX0_leastMiss_26 (by decide) (hp1 (t := 0) rfl (by decide)) rfl ?_
    refine a_iload (pc := 28) dX0_leastMiss_28 rfl ?_
    refine a_iconst (pc := 30) dX0_leastMiss_30 (by decide) ?_
    refine a_icmp_ge (tgt := 37) (pc := 31) dX0_leastMiss_31 (by decide) (fun hc4 => ?_) (fun hc4 => ?_)
    · replace h := h.1 hc4
      refine a_iconst (pc := 37) dX0_leastMiss_37 (by decide) ?_
      refine a_istore (ls1 := [(2, 261), (0, l1), (0, l2), (0, l3), (0, r2), (0, 0)]) (pc := 38) dX0_leastMiss_38 (by decide) (hp1 (t := 0) rfl (by decide)) rfl ?_
      exact h
    · replace h := h.2 hc4
      refine a_goto (tgt := 99) (pc := 34) dX0_leastMiss_34 (by decide) ?_
      have ho5 := h.1
      replace h := h.2
      refine a_iinc (ls1 := [(2, 261), (0, l1), (0, l2), (0, l3 + 1), (0, r2), (9, 0)]) (pc := 99) dX0_leastMiss_99 rfl (by decide) (hp1 (t := 0) rfl (by decide)) ho5 rfl ?_
      refine a_goto (tgt := 6) (pc := 102) dX0_leastMiss_102 (by decide) ?_
      exact a_msk [true, true, true, true, false, true] rfl h
set_option maxRecDepth 100000 in
set_option maxHeartbeats 4000000 in
theorem B_Board_leastMiss_40 {l1 l2 l3 l4 l5 : Int} {M : Mem} {Q : Int → Mem → Prop} (h : ((0 : Int) ≤ l3 ∧ l3 < 8) ∧ (((M 4 l3) ≤ l5 → (-2147483648 ≤ l3 + 1 ∧ l3 + 1 ≤ 2147483647) ∧ AW mX0_leastMiss 6 [(2, 261), (0, l1), (0, l2), (0, l3 + 1), (9, 0), (9, 0)] M Q) ∧ (¬ ((M 4 l3) ≤ l5) → (-2147483648 ≤ l3 * 6 ∧ l3 * 6 ≤ 2147483647) ∧ (-2147483648 ≤ (l3 * 6) + l5 ∧ (l3 * 6) + l5 ≤ 2147483647) ∧ ((0 : Int) ≤ (l3 * 6) + l5 ∧ (l3 * 6) + l5 < 48) ∧ ((¬ (M 63 ((l3 * 6) + l5)) = 1 → (-2147483648 ≤ l5 + 1 ∧ l5 + 1 ≤ 2147483647) ∧ AW mX0_leastMiss 40 [(2, 261), (0, l1), (0, l2), (0, l3), (0, l4), (0, l5 + 1)] M Q) ∧ ((M 63 ((l3 * 6) + l5)) = 1 → ((0 : Int) ≤ l4 ∧ l4 < 6) ∧ Calls mX0_leastMissOf [(2, 261), (0, l3), (0, M (15 + ((l3 * 6) + l5)) l4), (0, l1)] S0 M (fun r11 M12 => (-2147483648 ≤ l5 + 1 ∧ l5 + 1 ≤ 2147483647) ∧ AW mX0_leastMiss 40 [(2, 261), (0, l1), (0, min l2 r11), (0, l3), (0, l4), (0, l5 + 1)] M12 Q)))))) : AW mX0_leastMiss 40 [(2, 261), (0, l1), (0, l2), (0, l3), (0, l4), (0, l5)] M Q := by
  refine a_iload (pc := 40) dX0_leastMiss_40 rfl ?_
  refine a_aload_n (pc := 42) dX0_leastMiss_42 (by decide) rfl ?_
  refine a_getR (y := 1) (pc := 43) dX0_leastMiss_43 fl_RX0_9 (by decide) s0_261 rfl rfl ?_
  refine a_getR (y := 4) (pc := 46) dX0_leastMiss_46 fl_RX0_36 (by decide) s0_1 rfl rfl ?_
  refine a_iload_n (pc := 49) dX0_leastMiss_49 rfl ?_
  have ho1 := h.1
  replace h := h.2
  refine a_iald (pc := 50) dX0_leastMiss_50 (by decide) s0_4 ho1.1 ho1.2 ?_
  refine a_icmp_ge (tgt := 99) (pc := 51) dX0_leastMiss_51 (by decide) (fun hc2 => ?_) (fun hc2 => ?_)
  · replace h := h.1 hc2
    have ho3 := h.1
    replace h := h.2
    refine a_iinc (ls1 := [(2, 261), (0, l1), (0, l2), (0, l3 + 1), (0, l4), (0, l5)]) (pc := 99) dX0_leastMiss_99 rfl (by decide) (hp1 (t := 0) rfl (by decide)) ho3 rfl ?_
    refine a_goto (tgt := 6) (pc := 102) dX0_leastMiss_102 (by decide) ?_
    exact a_msk [true, true, true, true, false, false] rfl h
  · replace h := h.2 hc2
    refine a_aload_n (pc := 54) dX0_leastMiss_54 (by decide) rfl ?_
    refine a_getR (y := 1) (pc := 55) dX0_leastMiss_55 fl_RX0_9 (by decide) s0_261 rfl rfl ?_
    refine a_iload_n (pc := 58) dX0_leastMiss_58 rfl ?_
    refine a_iload (pc := 59) dX0_leastMiss_59 rfl ?_
    refine p_inlV (Ex := _) (As := [(0, l3), (0, l5)]) (st := []) (st1 := fun r => [(0, r)])  (pc := 61) dX0_leastMiss_61 ml_RX0_43 (by decide) s0_1 rfl (by decide) (Nat.le_of_ble_eq_true rfl) rfl (fun _ => rfl) (by decide) (by decide) (Nat.le_of_ble_eq_true rfl) rfl ?_
    refine a_aload_n (pc := 0) dX3_isRunning_0 (by decide) rfl ?_
    refine a_getR (y := 63) (pc := 1) dX3_isRunning_1 fl_RX3_33 (by decide) s0_1 rfl rfl ?_
    refine a_iload_n (pc := 4) dX3_isRunning_4 rfl ?_
    refine a_iload_n (pc := 5) dX3_isRunning_5 rfl ?_
    refine p_inlS (Ex := _) (As := [(0, l3), (0, l5)]) (st := [(2, 63)]) (st1 := fun r => [(0, r), (2, 63)])  (pc := 6) dX3_isRunning_6 ml_RX3_49 (by decide) (Nat.le_of_ble_eq_true rfl) rfl (fun _ => rfl) (by decide) (by decide) (Nat.le_of_ble_eq_true rfl) rfl ?_
    refine a_iload_n (pc := 0) dX3_rowOf_0 rfl ?_
    refine a_bipush (pc := 1) dX3_rowOf_1 (by decide) (by decide +kernel) ?_
    have ho4 := h.1
    replace h := h.2
    refine a_imul (pc := 3) dX3_rowOf_3 ho4 ?_
    refine a_iload_n (pc := 4) dX3_rowOf_4 rfl ?_
    have ho5 := h.1
    replace h := h.2
    refine a_iadd (pc := 5) dX3_rowOf_5 ho5 ?_
    refine a_ireti (pc := 6) dX3_rowOf_6 rfl rfl (Nat.le_of_ble_eq_true rfl) ⟨rfl, ?_⟩
    have ho6 := h.1
    replace h := h.2
    refine a_iald (pc := 9) dX3_isRunning_9 (by decide) s0_63 ho6.1 ho6.2 ?_
    refine a_iconst (pc := 10) dX3_isRunning_10 (by decide) ?_
    refine a_icmp_ne (tgt := 18) (pc := 11) dX3_isRunning_11 (by decide) (fun hc7 => ?_) (fun hc7 => ?_)
    · replace h := h.1 hc7
      refine a_iconst (pc := 18) dX3_isRunning_18 (by decide) ?_
      refine a_iretz (pc := 19) dX3_isRunning_19 rfl rfl (Nat.le_of_ble_eq_true rfl) (by decide) ⟨rfl, ?_⟩
      refine a_if_ne (tgt := 70) (pc := 64) dX0_leastMiss_64 (by decide) (fun hc => absurd rfl hc) (fun _ => ?_)
      refine a_goto (tgt := 93) (pc := 67) dX0_leastMiss_67 (by decide) ?_
      have ho8 := h.1
      replace h := h.2
      refine a_iinc (ls1 := [(2, 261), (0, l1), (0, l2), (0, l3), (0, l4), (0, l5 + 1)]) (pc := 93) dX0_leastMiss_93 rfl (by decide) (hp1 (t := 0) rfl (by decide)) ho8 rfl ?_
      refine a_goto (tgt := 40) (pc := 96) dX0_leastMiss_96 (by decide) ?_
      exact h
    · replace h := h.2 hc7
      refine a_iconst (pc := 14) dX3_isRunning_14 (by decide) ?_
      refine a_goto (tgt := 19) (pc := 15) dX3_isRunning_15 (by decide) ?_
      refine a_iretz (pc := 19) dX3_isRunning_19 rfl rfl (Nat.le_of_ble_eq_true rfl) (by decide) ⟨rfl, ?_⟩
      refine a_if_ne (tgt := 70) (pc := 64) dX0_leastMiss_64 (by decide) (fun _ => ?_) (fun hc => absurd hc (by decide))
      refine a_iload_n (pc := 70) dX0_leastMiss_70 rfl ?_
      refine a_aload_n (pc := 71) dX0_leastMiss_71 (by decide) rfl ?_
      refine a_iload_n (pc := 72) dX0_leastMiss_72 rfl ?_
      refine a_aload_n (pc := 73) dX0_leastMiss_73 (by decide) rfl ?_
      refine a_getR (y := 1) (pc := 74) dX0_leastMiss_74 fl_RX0_9 (by decide) s0_261 rfl rfl ?_
      refine a_iload_n (pc := 77) dX0_leastMiss_77 rfl ?_
      refine a_iload (pc := 78) dX0_leastMiss_78 rfl ?_
      refine a_iload (pc := 80) dX0_leastMiss_80 rfl ?_
      refine p_inlV (Ex := _) (As := [(0, l3), (0, l5), (0, l4)]) (st := [(0, l3), (2, 261), (0, l2)]) (st1 := fun r => [(0, r), (0, l3), (2, 261), (0, l2)])  (pc := 82) dX0_leastMiss_82 ml_RX0_39 (by decide) s0_1 rfl (by decide) (Nat.le_of_ble_eq_true rfl) rfl (fun _ => rfl) (by decide) (by decide) (Nat.le_of_ble_eq_true rfl) rfl ?_
      refine a_aload_n (pc := 0) dX3_minuteOf_0 (by decide) rfl ?_
      refine a_getR (y := 14) (pc := 1) dX3_minuteOf_1 fl_RX3_30 (by decide) s0_1 rfl rfl ?_
      refine a_iload_n (pc := 4) dX3_minuteOf_4 rfl ?_
      refine a_iload_n (pc := 5) dX3_minuteOf_5 rfl ?_
      refine p_inlS (Ex := _) (As := [(0, l3), (0, l5)]) (st := [(2, 14)]) (st1 := fun r => [(0, r), (2, 14)])  (pc := 6) dX3_minuteOf_6 ml_RX3_49 (by decide) (Nat.le_of_ble_eq_true rfl) rfl (fun _ => rfl) (by decide) (by decide) (Nat.le_of_ble_eq_true rfl) rfl ?_
      refine a_iload_n (pc := 0) dX3_rowOf_0 rfl ?_
      refine a_bipush (pc := 1) dX3_rowOf_1 (by decide) (by decide +kernel) ?_
      refine a_imul (pc := 3) dX3_rowOf_3 ho4 ?_
      refine a_iload_n (pc := 4) dX3_rowOf_4 rfl ?_
      refine a_iadd (pc := 5) dX3_rowOf_5 ho5 ?_
      refine a_ireti (pc := 6) dX3_rowOf_6 rfl rfl (Nat.le_of_ble_eq_true rfl) ⟨rfl, ?_⟩
      have hr9 := rw_14 ((l3 * 6) + l5) ho6.1 ho6.2
      refine a_aald (y := 15 + ((l3 * 6) + l5)) (pc := 9) dX3_minuteOf_9 (by decide) s0_14 ho6.1 ho6.2 (by omega) ?_
      refine a_iload_n (pc := 10) dX3_minuteOf_10 rfl ?_
      have ho10 := h.1
      replace h := h.2
      refine a_iald (pc := 11) dX3_minuteOf_11 hr9.1 hr9.2 ho10.1 ho10.2 ?_
      refine a_ireti (pc := 12) dX3_minuteOf_12 rfl rfl (Nat.le_of_ble_eq_true rfl) ⟨rfl, ?_⟩
      refine a_iload_n (pc := 85) dX0_leastMiss_85 rfl ?_
      refine p_callV (As := [(0, l3), (0, M (15 + ((l3 * 6) + l5)) l4), (0, l1)]) (st := [(0, l2)]) (st1 := fun r => [(0, r), (0, l2)])  (pc := 86) dX0_leastMiss_86 ml_RX0_53 (by decide) s0_261 rfl (by decide) (Nat.le_of_ble_eq_true rfl) rfl (fun _ => rfl) h (fun r11 M12 h => ?_)
      refine a_mmin (z := min l2 r11) (pc := 89) dX0_leastMiss_89 ml_RX0_56 is_min rfl (by decide) (by decide) (Nat.le_of_ble_eq_true rfl) (Nat.le_of_ble_eq_true rfl) (Nat.le_of_ble_eq_true rfl) ?_
      refine a_istore_n (ls1 := [(2, 261), (0, l1), (0, min l2 r11), (0, l3), (0, l4), (0, l5)]) (pc := 92) dX0_leastMiss_92 (by decide) (hp1 (t := 0) rfl (by decide)) rfl ?_
      have ho13 := h.1
      replace h := h.2
      refine a_iinc (ls1 := [(2, 261), (0, l1), (0, min l2 r11), (0, l3), (0, l4), (0, l5 + 1)]) (pc := 93) dX0_leastMiss_93 rfl (by decide) (hp1 (t := 0) rfl (by decide)) ho13 rfl ?_
      refine a_goto (tgt := 40) (pc := 96) dX0_leastMiss_96 (by decide) ?_
      exact h
theorem E_Board_leastMiss {l1 : Int} {M : Mem} {Q : Int → Mem → Prop} (h : AW mX0_leastMiss 0 [(2, 261), (0, l1), (9, 0), (9, 0), (9, 0), (9, 0)] M Q) : Calls mX0_leastMiss [(2, 261), (0, l1)] S0 M Q := calls_of (by decide) (by decide) (Nat.le_of_ble_eq_true rfl) rfl h
set_option maxRecDepth 100000 in
set_option maxHeartbeats 4000000 in
theorem B_Search_rideAll_0 {l1 l2 : Int} (ha1 : isA l1 12) (ha2 : isA l2 12) {M : Mem} {Q : Int → Mem → Prop} (h : AW mX6_rideAll 2 [(2, 229), (2, l1), (2, l2), (0, 0), (9, 0), (9, 0)] M Q) : AW mX6_rideAll 0 [(2, 229), (2, l1), (2, l2), (9, 0), (9, 0), (9, 0)] M Q := by
  refine a_iconst (pc := 0) dX6_rideAll_0 (by decide) ?_
  refine a_istore_n (ls1 := [(2, 229), (2, l1), (2, l2), (0, 0), (9, 0), (9, 0)]) (pc := 1) dX6_rideAll_1 (by decide) (hp1 (t := 2) rfl (by decide)) rfl ?_
  exact h
set_option maxRecDepth 100000 in
set_option maxHeartbeats 4000000 in
theorem B_Search_rideAll_2 {l1 l2 l3 : Int} (ha1 : isA l1 12) (ha2 : isA l2 12) {M : Mem} {Q : Int → Mem → Prop} (h : (((M 1 0) ≤ l3 → Q 0 M) ∧ (¬ ((M 1 0) ≤ l3) → AW mX6_rideAll 16 [(2, 229), (2, l1), (2, l2), (0, l3), (0, 0), (9, 0)] M Q))) : AW mX6_rideAll 2 [(2, 229), (2, l1), (2, l2), (0, l3), (9, 0), (9, 0)] M Q := by
  refine a_iload_n (pc := 2) dX6_rideAll_2 rfl ?_
  refine a_aload_n (pc := 3) dX6_rideAll_3 (by decide) rfl ?_
  refine a_getR (y := 1) (pc := 4) dX6_rideAll_4 fl_RX6_9 (by decide) s0_229 rfl rfl ?_
  refine a_getI (y := 0) (pc := 7) dX6_rideAll_7 fl_RX6_54 (by decide) s0_1 (Or.inl rfl) rfl ?_
  refine a_icmp_ge (tgt := 93) (pc := 10) dX6_rideAll_10 (by decide) (fun hc1 => ?_) (fun hc1 => ?_)
  · replace h := h.1 hc1
    exact a_vret (pc := 93) dX6_rideAll_93 rfl rfl (Nat.le_of_ble_eq_true rfl) ⟨rfl, h⟩
  · replace h := h.2 hc1
    refine a_iconst (pc := 13) dX6_rideAll_13 (by decide) ?_
    refine a_istore (ls1 := [(2, 229), (2, l1), (2, l2), (0, l3), (0, 0), (9, 0)]) (pc := 14) dX6_rideAll_14 (by decide) (hp1 (t := 0) rfl (by decide)) rfl ?_
    exact h
set_option maxRecDepth 100000 in
set_option maxHeartbeats 4000000 in
theorem B_Search_rideAll_16 {l1 l2 l3 l4 : Int} (ha1 : isA l1 12) (ha2 : isA l2 12) {M : Mem} {Q : Int → Mem → Prop} (h : ((0 : Int) ≤ l3 ∧ l3 < 8) ∧ (((M 4 l3) ≤ l4 → (-2147483648 ≤ l3 + 1 ∧ l3 + 1 ≤ 2147483647) ∧ AW mX6_rideAll 2 [(2, 229), (2, l1), (2, l2), (0, l3 + 1), (9, 0), (9, 0)] M Q) ∧ (¬ ((M 4 l3) ≤ l4) → ((¬ l3 = (M 229 3) → (-2147483648 ≤ l3 * 6 ∧ l3 * 6 ≤ 2147483647) ∧ (-2147483648 ≤ (l3 * 6) + l4 ∧ (l3 * 6) + l4 ≤ 2147483647) ∧ ((0 : Int) ≤ (l3 * 6) + l4 ∧ (l3 * 6) + l4 < 48) ∧ ((¬ (M 63 ((l3 * 6) + l4)) = 1 → (-2147483648 ≤ l4 + 1 ∧ l4 + 1 ≤ 2147483647) ∧ AW mX6_rideAll 16 [(2, 229), (2, l1), (2, l2), (0, l3), (0, l4 + 1), (9, 0)] M Q) ∧ ((M 63 ((l3 * 6) + l4)) = 1 → Calls mX6_rideOne [(2, 229), (0, l3), (0, l4), (2, l1), (2, l2)] S0 M (fun r10 M11 => (-2147483648 ≤ l4 + 1 ∧ l4 + 1 ≤ 2147483647) ∧ AW mX6_rideAll 16 [(2, 229), (2, l1), (2, l2), (0, l3), (0, l4 + 1), (9, 0)] M11 Q)))) ∧ (l3 = (M 229 3) → ((¬ l4 = (M 229 4) → (-2147483648 ≤ l3 * 6 ∧ l3 * 6 ≤ 2147483647) ∧ (-2147483648 ≤ (l3 * 6) + l4 ∧ (l3 * 6) + l4 ≤ 2147483647) ∧ ((0 : Int) ≤ (l3 * 6) + l4 ∧ (l3 * 6) + l4 < 48) ∧ ((¬ (M 63 ((l3 * 6) + l4)) = 1 → (-2147483648 ≤ l4 + 1 ∧ l4 + 1 ≤ 2147483647) ∧ AW mX6_rideAll 16 [(2, 229), (2, l1), (2, l2), (0, l3), (0, l4 + 1), (9, 0)] M Q) ∧ ((M 63 ((l3 * 6) + l4)) = 1 → Calls mX6_rideOne [(2, 229), (0, l3), (0, l4), (2, l1), (2, l2)] S0 M (fun r19 M20 => (-2147483648 ≤ l4 + 1 ∧ l4 + 1 ≤ 2147483647) ∧ AW mX6_rideAll 16 [(2, 229), (2, l1), (2, l2), (0, l3), (0, l4 + 1), (9, 0)] M20 Q)))) ∧ (l4 = (M 229 4) → (-2147483648 ≤ l4 + 1 ∧ l4 + 1 ≤ 2147483647) ∧ AW mX6_rideAll 16 [(2, 229), (2, l1), (2, l2), (0, l3), (0, l4 + 1), (9, 0)] M Q))))))) : AW mX6_rideAll 16 [(2, 229), (2, l1), (2, l2), (0, l3), (0, l4), (9, 0)] M Q := by
  refine a_iload (pc := 16) dX6_rideAll_16 rfl ?_
  refine a_aload_n (pc := 18) dX6_rideAll_18 (by decide) rfl ?_
  refine a_getR (y := 1) (pc := 19) dX6_rideAll_19 fl_RX6_9 (by decide) s0_229 rfl rfl ?_
  refine a_getR (y := 4) (pc := 22) dX6_rideAll_22 fl_RX6_59 (by decide) s0_1 rfl rfl ?_
  refine a_iload_n (pc := 25) dX6_rideAll_25 rfl ?_
  have ho1 := h.1
  replace h := h.2
  refine a_iald (pc := 26) dX6_rideAll_26 (by decide) s0_4 ho1.1 ho1.2 ?_
  refine a_icmp_ge (tgt := 87) (pc := 27) dX6_rideAll_27 (by decide) (fun hc2 => ?_) (fun hc2 => ?_)
  · replace h := h.1 hc2
    have ho3 := h.1
    replace h := h.2
    refine a_iinc (ls1 := [(2, 229), (2, l1), (2, l2), (0, l3 + 1), (0, l4), (9, 0)]) (pc := 87) dX6_rideAll_87 rfl (by decide) (hp1 (t := 2) rfl (by decide)) ho3 rfl ?_
    refine a_goto (tgt := 2) (pc := 90) dX6_rideAll_90 (by decide) ?_
    exact a_msk [true, true, true, true, false, true] rfl h
  · replace h := h.2 hc2
    refine a_iload_n (pc := 30) dX6_rideAll_30 rfl ?_
    refine a_aload_n (pc := 31) dX6_rideAll_31 (by decide) rfl ?_
    refine a_getI (y := 3) (pc := 32) dX6_rideAll_32 fl_RX6_26 (by decide) s0_229 (Or.inl rfl) rfl ?_
    refine a_icmp_ne (tgt := 51) (pc := 35) dX6_rideAll_35 (by decide) (fun hc4 => ?_) (fun hc4 => ?_)
    · replace h := h.1 hc4
      refine a_iconst (pc := 51) dX6_rideAll_51 (by decide) ?_
      refine a_istore (ls1 := [(2, 229), (2, l1), (2, l2), (0, l3), (0, l4), (0, 0)]) (pc := 52) dX6_rideAll_52 (by decide) (hp1 (t := 0) rfl (by decide)) rfl ?_
      refine a_iload (pc := 54) dX6_rideAll_54 rfl ?_
      refine a_if_ne (tgt := 81) (pc := 56) dX6_rideAll_56 (by decide) (fun hc => absurd rfl hc) (fun _ => ?_)
      refine a_aload_n (pc := 59) dX6_rideAll_59 (by decide) rfl ?_
      refine a_getR (y := 1) (pc := 60) dX6_rideAll_60 fl_RX6_9 (by decide) s0_229 rfl rfl ?_
      refine a_iload_n (pc := 63) dX6_rideAll_63 rfl ?_
      refine a_iload (pc := 64) dX6_rideAll_64 rfl ?_
      refine p_inlV (Ex := _) (As := [(0, l3), (0, l4)]) (st := []) (st1 := fun r => [(0, r)])  (pc := 66) dX6_rideAll_66 ml_RX6_63 (by decide) s0_1 rfl (by decide) (Nat.le_of_ble_eq_true rfl) rfl (fun _ => rfl) (by decide) (by decide) (Nat.le_of_ble_eq_true rfl) rfl ?_
      refine a_aload_n (pc := 0) dX3_isRunning_0 (by decide) rfl ?_
      refine a_getR (y := 63) (pc := 1) dX3_isRunning_1 fl_RX3_33 (by decide) s0_1 rfl rfl ?_
      refine a_iload_n (pc := 4) dX3_isRunning_4 rfl ?_
      refine a_iload_n (pc := 5) dX3_isRunning_5 rfl ?_
      refine p_inlS (Ex := _) (As := [(0, l3), (0, l4)]) (st := [(2, 63)]) (st1 := fun r => [(0, r), (2, 63)])  (pc := 6) dX3_isRunning_6 ml_RX3_49 (by decide) (Nat.le_of_ble_eq_true rfl) rfl (fun _ => rfl) (by decide) (by decide) (Nat.le_of_ble_eq_true rfl) rfl ?_
      refine a_iload_n (pc := 0) dX3_rowOf_0 rfl ?_
      refine a_bipush (pc := 1) dX3_rowOf_1 (by decide) (by decide +kernel) ?_
      have ho5 := h.1
      replace h := h.2
      refine a_imul (pc := 3) dX3_rowOf_3 ho5 ?_
      refine a_iload_n (pc := 4) dX3_rowOf_4 rfl ?_
      have ho6 := h.1
      replace h := h.2
      refine a_iadd (pc := 5) dX3_rowOf_5 ho6 ?_
      refine a_ireti (pc := 6) dX3_rowOf_6 rfl rfl (Nat.le_of_ble_eq_true rfl) ⟨rfl, ?_⟩
      have ho7 := h.1
      replace h := h.2
      refine a_iald (pc := 9) dX3_isRunning_9 (by decide) s0_63 ho7.1 ho7.2 ?_
      refine a_iconst (pc := 10) dX3_isRunning_10 (by decide) ?_
      refine a_icmp_ne (tgt := 18) (pc := 11) dX3_isRunning_11 (by decide) (fun hc8 => ?_) (fun hc8 => ?_)
      · replace h := h.1 hc8
        refine a_iconst (pc := 18) dX3_isRunning_18 (by decide) ?_
        refine a_iretz (pc := 19) dX3_isRunning_19 rfl rfl (Nat.le_of_ble_eq_true rfl) (by decide) ⟨rfl, ?_⟩
        refine a_if_eq (tgt := 81) (pc := 69) dX6_rideAll_69 (by decide) (fun _ => ?_) (fun hc => absurd (by decide) hc)
        have ho9 := h.1
        replace h := h.2
        refine a_iinc (ls1 := [(2, 229), (2, l1), (2, l2), (0, l3), (0, l4 + 1), (0, 0)]) (pc := 81) dX6_rideAll_81 rfl (by decide) (hp1 (t := 0) rfl (by decide)) ho9 rfl ?_
        refine a_goto (tgt := 16) (pc := 84) dX6_rideAll_84 (by decide) ?_
        exact a_msk [true, true, true, true, true, false] rfl h
      · replace h := h.2 hc8
        refine a_iconst (pc := 14) dX3_isRunning_14 (by decide) ?_
        refine a_goto (tgt := 19) (pc := 15) dX3_isRunning_15 (by decide) ?_
        refine a_iretz (pc := 19) dX3_isRunning_19 rfl rfl (Nat.le_of_ble_eq_true rfl) (by decide) ⟨rfl, ?_⟩
        refine a_if_eq (tgt := 81) (pc := 69) dX6_rideAll_69 (by decide) (fun hc => absurd hc (by decide)) (fun _ => ?_)
        refine a_aload_n (pc := 72) dX6_rideAll_72 (by decide) rfl ?_
        refine a_iload_n (pc := 73) dX6_rideAll_73 rfl ?_
        refine a_iload (pc := 74) dX6_rideAll_74 rfl ?_
        refine a_aload_n (pc := 76) dX6_rideAll_76 ha1.1 rfl ?_
        refine a_aload_n (pc := 77) dX6_rideAll_77 ha2.1 rfl ?_
        refine p_callV (As := [(0, l3), (0, l4), (2, l1), (2, l2)]) (st := []) (st1 := fun r => [])  (pc := 78) dX6_rideAll_78 ml_RX6_67 (by decide) s0_229 rfl (by decide) (Nat.le_of_ble_eq_true rfl) rfl (fun _ => rfl) h (fun r10 M11 h => ?_)
        have ho12 := h.1
        replace h := h.2
        refine a_iinc (ls1 := [(2, 229), (2, l1), (2, l2), (0, l3), (0, l4 + 1), (0, 0)]) (pc := 81) dX6_rideAll_81 rfl (by decide) (hp1 (t := 0) rfl (by decide)) ho12 rfl ?_
        refine a_goto (tgt := 16) (pc := 84) dX6_rideAll_84 (by decide) ?_
        exact a_msk [true, true, true, true, true, false] rfl h
    · replace h := h.2 hc4
      refine a_iload (pc := 38) dX6_rideAll_38 rfl ?_
      refine a_aload_n (pc := 40) dX6_rideAll_40 (by decide) rfl ?_
      refine a_getI (y := 4) (pc := 41) dX6_rideAll_41 fl_RX6_30 (by decide) s0_229 (Or.inl rfl) rfl ?_
      refine a_icmp_ne (tgt := 51) (pc := 44) dX6_rideAll_44 (by decide) (fun hc13 => ?_) (fun hc13 => ?_)
      · replace h := h.1 hc13
        refine a_iconst (pc := 51) dX6_rideAll_51 (by decide) ?_
        refine a_istore (ls1 := [(2, 229), (2, l1), (2, l2), (0, l3), (0, l4), (0, 0)]) (pc := 52) dX6_rideAll_52 (by decide) (hp1 (t := 0) rfl (by decide)) rfl ?_
        refine a_iload (pc := 54) dX6_rideAll_54 rfl ?_
        refine a_if_ne (tgt := 81) (pc := 56) dX6_rideAll_56 (by decide) (fun hc => absurd rfl hc) (fun _ => ?_)
        refine a_aload_n (pc := 59) dX6_rideAll_59 (by decide) rfl ?_
        refine a_getR (y := 1) (pc := 60) dX6_rideAll_60 fl_RX6_9 (by decide) s0_229 rfl rfl ?_
        refine a_iload_n (pc := 63) dX6_rideAll_63 rfl ?_
        refine a_iload (pc := 64) dX6_rideAll_64 rfl ?_
        refine p_inlV (Ex := _) (As := [(0, l3), (0, l4)]) (st := []) (st1 := fun r => [(0, r)])  (pc := 66) dX6_rideAll_66 ml_RX6_63 (by decide) s0_1 rfl (by decide) (Nat.le_of_ble_eq_true rfl) rfl (fun _ => rfl) (by decide) (by decide) (Nat.le_of_ble_eq_true rfl) rfl ?_
        refine a_aload_n (pc := 0) dX3_isRunning_0 (by decide) rfl ?_
        refine a_getR (y := 63) (pc := 1) dX3_isRunning_1 fl_RX3_33 (by decide) s0_1 rfl rfl ?_
        refine a_iload_n (pc := 4) dX3_isRunning_4 rfl ?_
        refine a_iload_n (pc := 5) dX3_isRunning_5 rfl ?_
        refine p_inlS (Ex := _) (As := [(0, l3), (0, l4)]) (st := [(2, 63)]) (st1 := fun r => [(0, r), (2, 63)])  (pc := 6) dX3_isRunning_6 ml_RX3_49 (by decide) (Nat.le_of_ble_eq_true rfl) rfl (fun _ => rfl) (by decide) (by decide) (Nat.le_of_ble_eq_true rfl) rfl ?_
        refine a_iload_n (pc := 0) dX3_rowOf_0 rfl ?_
        refine a_bipush (pc := 1) dX3_rowOf_1 (by decide) (by decide +kernel) ?_
        have ho14 := h.1
        replace h := h.2
        refine a_imul (pc := 3) dX3_rowOf_3 ho14 ?_
        refine a_iload_n (pc := 4) dX3_rowOf_4 rfl ?_
        have ho15 := h.1
        replace h := h.2
        refine a_iadd (pc := 5) dX3_rowOf_5 ho15 ?_
        refine a_ireti (pc := 6) dX3_rowOf_6 rfl rfl (Nat.le_of_ble_eq_true rfl) ⟨rfl, ?_⟩
        have ho16 := h.1
        replace h := h.2
        refine a_iald (pc := 9) dX3_isRunning_9 (by decide) s0_63 ho16.1 ho16.2 ?_
        refine a_iconst (pc := 10) dX3_isRunning_10 (by decide) ?_
        refine a_icmp_ne (tgt := 18) (pc := 11) dX3_isRunning_11 (by decide) (fun hc17 => ?_) (fun hc17 => ?_)
        · replace h := h.1 hc17
          refine a_iconst (pc := 18) dX3_isRunning_18 (by decide) ?_
          refine a_iretz (pc := 19) dX3_isRunning_19 rfl rfl (Nat.le_of_ble_eq_true rfl) (by decide) ⟨rfl, ?_⟩
          refine a_if_eq (tgt := 81) (pc := 69) dX6_rideAll_69 (by decide) (fun _ => ?_) (fun hc => absurd (by decide) hc)
          have ho18 := h.1
          replace h := h.2
          refine a_iinc (ls1 := [(2, 229), (2, l1), (2, l2), (0, l3), (0, l4 + 1), (0, 0)]) (pc := 81) dX6_rideAll_81 rfl (by decide) (hp1 (t := 0) rfl (by decide)) ho18 rfl ?_
          refine a_goto (tgt := 16) (pc := 84) dX6_rideAll_84 (by decide) ?_
          exact a_msk [true, true, true, true, true, false] rfl h
        · replace h := h.2 hc17
          refine a_iconst (pc := 14) dX3_isRunning_14 (by decide) ?_
          refine a_goto (tgt := 19) (pc := 15) dX3_isRunning_15 (by decide) ?_
          refine a_iretz (pc := 19) dX3_isRunning_19 rfl rfl (Nat.le_of_ble_eq_true rfl) (by decide) ⟨rfl, ?_⟩
          refine a_if_eq (tgt := 81) (pc := 69) dX6_rideAll_69 (by decide) (fun hc => absurd hc (by decide)) (fun _ => ?_)
          refine a_aload_n (pc := 72) dX6_rideAll_72 (by decide) rfl ?_
          refine a_iload_n (pc := 73) dX6_rideAll_73 rfl ?_
          refine a_iload (pc := 74) dX6_rideAll_74 rfl ?_
          refine a_aload_n (pc := 76) dX6_rideAll_76 ha1.1 rfl ?_
          refine a_aload_n (pc := 77) dX6_rideAll_77 ha2.1 rfl ?_
          refine p_callV (As := [(0, l3), (0, l4), (2, l1), (2, l2)]) (st := []) (st1 := fun r => [])  (pc := 78) dX6_rideAll_78 ml_RX6_67 (by decide) s0_229 rfl (by decide) (Nat.le_of_ble_eq_true rfl) rfl (fun _ => rfl) h (fun r19 M20 h => ?_)
          have ho21 := h.1
          replace h := h.2
          refine a_iinc (ls1 := [(2, 229), (2, l1), (2, l2), (0, l3), (0, l4 + 1), (0, 0)]) (pc := 81) dX6_rideAll_81 rfl (by decide) (hp1 (t := 0) rfl (by decide)) ho21 rfl ?_
          refine a_goto (tgt := 16) (pc := 84) dX6_rideAll_84 (by decide) ?_
          exact a_msk [true, true, true, true, true, false] rfl h
      · replace h := h.2 hc13
        refine a_iconst (pc := 47) dX6_rideAll_47 (by decide) ?_
        refine a_goto (tgt := 52) (pc := 48) dX6_rideAll_48 (by decide) ?_
        refine a_istore (ls1 := [(2, 229), (2, l1), (2, l2), (0, l3), (0, l4), (0, 1)]) (pc := 52) dX6_rideAll_52 (by decide) (hp1 (t := 0) rfl (by decide)) rfl ?_
        refine a_iload (pc := 54) dX6_rideAll_54 rfl ?_
        refine a_if_ne (tgt := 81) (pc := 56) dX6_rideAll_56 (by decide) (fun _ => ?_) (fun hc => absurd hc (by decide))
        have ho22 := h.1
        replace h := h.2
        refine a_iinc (ls1 := [(2, 229), (2, l1), (2, l2), (0, l3), (0, l4 + 1), (0, 1)]) (pc := 81) dX6_rideAll_81 rfl (by decide) (hp1 (t := 0) rfl (by decide)) ho22 rfl ?_
        refine a_goto (tgt := 16) (pc := 84) dX6_rideAll_84 (by decide) ?_
        exact a_msk [true, true, true, true, true, false] rfl h
theorem E_Search_rideAll {l1 l2 : Int} {M : Mem} {Q : Int → Mem → Prop} (h : AW mX6_rideAll 0 [(2, 229), (2, l1), (2, l2), (9, 0), (9, 0), (9, 0)] M Q) : Calls mX6_rideAll [(2, 229), (2, l1), (2, l2)] S0 M Q := calls_of (by decide) (by decide) (Nat.le_of_ble_eq_true rfl) rfl h
set_option maxRecDepth 100000 in
set_option maxHeartbeats 4000000 in
theorem B_Reader_readPart_0 {M : Mem} {Q : Int → Mem → Prop} (h : (((M 267 2) < 0 → Q 0 (up2 (up2 M 267 3 (M 267 2)) 267 6 (M 267 2))) ∧ (¬ ((M 267 2) < 0) → (((M 263 1) ≤ (M 267 2) → Q 0 (up2 (up2 M 267 3 (M 267 2)) 267 6 (M 267 2))) ∧ (¬ ((M 263 1) ≤ (M 267 2)) → ((0 : Int) ≤ M 267 2 ∧ M 267 2 < 80) ∧ ((¬ (M 264 (M 267 2)) = 68 ∧ ¬ (M 264 (M 267 2)) = 70 ∧ ¬ (M 264 (M 267 2)) = 76 ∧ ¬ (M 264 (M 267 2)) = 84 → Q 0 (up2 (up2 M 267 3 (M 267 2)) 267 6 (M 267 2))) ∧ ((M 264 (M 267 2)) = 68 → (-2147483648 ≤ (M 267 2) + 1 ∧ (M 267 2) + 1 ≤ 2147483647) ∧ Calls mX4_readDelay [(2, 267)] S0 (up2 (up2 M 267 3 (M 267 2)) 267 2 ((M 267 2) + 1)) (fun r5 M6 => (r5 = 0 ∨ r5 = 1) ∧ Q r5 M6)) ∧ ((M 264 (M 267 2)) = 70 → (-2147483648 ≤ (M 267 2) + 1 ∧ (M 267 2) + 1 ≤ 2147483647) ∧ Calls mX4_readPath [(2, 267)] S0 (up2 (up2 M 267 3 (M 267 2)) 267 2 ((M 267 2) + 1)) (fun r9 M10 => (r9 = 0 ∨ r9 = 1) ∧ Q r9 M10)) ∧ ((M 264 (M 267 2)) = 76 → (-2147483648 ≤ (M 267 2) + 1 ∧ (M 267 2) + 1 ≤ 2147483647) ∧ Calls mX4_readLine [(2, 267)] S0 (up2 (up2 M 267 3 (M 267 2)) 267 2 ((M 267 2) + 1)) (fun r13 M14 => (r13 = 0 ∨ r13 = 1) ∧ Q r13 M14)) ∧ ((M 264 (M 267 2)) = 84 → (-2147483648 ≤ (M 267 2) + 1 ∧ (M 267 2) + 1 ≤ 2147483647) ∧ Calls mX4_readTrip [(2, 267)] S0 (up2 (up2 M 267 3 (M 267 2)) 267 2 ((M 267 2) + 1)) (fun r17 M18 => (r17 = 0 ∨ r17 = 1) ∧ Q r17 M18)))))))) : AW mX4_readPart 0 [(2, 267), (9, 0)] M Q := by
  refine a_aload_n (pc := 0) dX4_readPart_0 (by decide) rfl ?_
  refine a_aload_n (pc := 1) dX4_readPart_1 (by decide) rfl ?_
  refine a_getI (y := 2) (pc := 2) dX4_readPart_2 fl_RX4_19 (by decide) s0_267 (Or.inl rfl) rfl ?_
  refine a_putI (y := 3) (pc := 5) dX4_readPart_5 fl_RX4_23 (by decide) s0_267 rfl rfl (tyX4_ok 3 (by decide)) rfl ?_
  refine a_aload_n (pc := 8) dX4_readPart_8 (by decide) rfl ?_
  refine a_getR (y := 263) (pc := 9) dX4_readPart_9 fl_RX4_15 (by decide) s0_267 rfl rfl ?_
  refine a_aload_n (pc := 12) dX4_readPart_12 (by decide) rfl ?_
  refine a_getI (y := 2) (pc := 13) dX4_readPart_13 fl_RX4_19 (by decide) s0_267 (Or.inl rfl) rfl ?_
  refine a_eq (y := M 267 2) rfl ?_
  refine p_inlV (Ex := _) (As := [(0, M 267 2)]) (st := []) (st1 := fun r => [(0, r)])  (pc := 16) dX4_readPart_16 ml_RX4_48 (by decide) s0_263 rfl (by decide) (Nat.le_of_ble_eq_true rfl) rfl (fun _ => rfl) (by decide) (by decide) (Nat.le_of_ble_eq_true rfl) rfl ?_
  refine a_iload_n (pc := 0) dX7_byteAt_0 rfl ?_
  refine a_if_lt (tgt := 21) (pc := 1) dX7_byteAt_1 (by decide) (fun hc1 => ?_) (fun hc1 => ?_)
  · replace h := h.1 hc1
    refine a_iconst (pc := 21) dX7_byteAt_21 (by decide) ?_
    refine a_ireti (pc := 22) dX7_byteAt_22 rfl rfl (Nat.le_of_ble_eq_true rfl) ⟨rfl, ?_⟩
    refine a_istore_n (ls1 := [(2, 267), (0, 0)]) (pc := 19) dX4_readPart_19 (by decide) (hp1 (t := 2) rfl (by decide)) rfl ?_
    refine a_iload_n (pc := 20) dX4_readPart_20 rfl ?_
    refine a_look (off := 103) (tgt := 124) (pc := 21) dX4_readPart_21 (by decide +kernel) (by decide +kernel) (by decide) ?_
    refine a_aload_n (pc := 124) dX4_readPart_124 (by decide) rfl ?_
    refine a_aload_n (pc := 125) dX4_readPart_125 (by decide) rfl ?_
    refine a_getI (y := 2) (pc := 126) dX4_readPart_126 fl_RX4_19 (by decide) s0_267 (Or.inl rfl) rfl ?_
    refine a_eq (y := M 267 2) rfl ?_
    refine p_inlV (Ex := _) (As := [(0, M 267 2)]) (st := []) (st1 := fun r => [(0, r)])  (pc := 129) dX4_readPart_129 ml_RX4_52 (by decide) s0_267 rfl (by decide) (Nat.le_of_ble_eq_true rfl) rfl (fun _ => rfl) (by decide) (by decide) (Nat.le_of_ble_eq_true rfl) rfl ?_
    refine a_aload_n (pc := 0) dX4_failAt_0 (by decide) rfl ?_
    refine a_iload_n (pc := 1) dX4_failAt_1 rfl ?_
    refine a_putI (y := 6) (pc := 2) dX4_failAt_2 fl_RX4_32 (by decide) s0_267 rfl rfl (tyX4_ok 6 (by decide)) rfl ?_
    refine a_iconst (pc := 5) dX4_failAt_5 (by decide) ?_
    refine a_iretz (pc := 6) dX4_failAt_6 rfl rfl (Nat.le_of_ble_eq_true rfl) (by decide) ⟨rfl, ?_⟩
    exact a_iretz (pc := 132) dX4_readPart_132 rfl rfl (Nat.le_of_ble_eq_true rfl) (by decide) ⟨rfl, h⟩
  · replace h := h.2 hc1
    refine a_iload_n (pc := 4) dX7_byteAt_4 rfl ?_
    refine a_aload_n (pc := 5) dX7_byteAt_5 (by decide) rfl ?_
    refine a_getI (y := 1) (pc := 6) dX7_byteAt_6 fl_RX7_19 (by decide) s0_263 (Or.inl rfl) rfl ?_
    refine a_eq (y := M 263 1) rfl ?_
    refine a_icmp_ge (tgt := 21) (pc := 9) dX7_byteAt_9 (by decide) (fun hc2 => ?_) (fun hc2 => ?_)
    · replace h := h.1 hc2
      refine a_iconst (pc := 21) dX7_byteAt_21 (by decide) ?_
      refine a_ireti (pc := 22) dX7_byteAt_22 rfl rfl (Nat.le_of_ble_eq_true rfl) ⟨rfl, ?_⟩
      refine a_istore_n (ls1 := [(2, 267), (0, 0)]) (pc := 19) dX4_readPart_19 (by decide) (hp1 (t := 2) rfl (by decide)) rfl ?_
      refine a_iload_n (pc := 20) dX4_readPart_20 rfl ?_
      refine a_look (off := 103) (tgt := 124) (pc := 21) dX4_readPart_21 (by decide +kernel) (by decide +kernel) (by decide) ?_
      refine a_aload_n (pc := 124) dX4_readPart_124 (by decide) rfl ?_
      refine a_aload_n (pc := 125) dX4_readPart_125 (by decide) rfl ?_
      refine a_getI (y := 2) (pc := 126) dX4_readPart_126 fl_RX4_19 (by decide) s0_267 (Or.inl rfl) rfl ?_
      refine a_eq (y := M 267 2) rfl ?_
      refine p_inlV (Ex := _) (As := [(0, M 267 2)]) (st := []) (st1 := fun r => [(0, r)])  (pc := 129) dX4_readPart_129 ml_RX4_52 (by decide) s0_267 rfl (by decide) (Nat.le_of_ble_eq_true rfl) rfl (fun _ => rfl) (by decide) (by decide) (Nat.le_of_ble_eq_true rfl) rfl ?_
      refine a_aload_n (pc := 0) dX4_failAt_0 (by decide) rfl ?_
      refine a_iload_n (pc := 1) dX4_failAt_1 rfl ?_
      refine a_putI (y := 6) (pc := 2) dX4_failAt_2 fl_RX4_32 (by decide) s0_267 rfl rfl (tyX4_ok 6 (by decide)) rfl ?_
      refine a_iconst (pc := 5) dX4_failAt_5 (by decide) ?_
      refine a_iretz (pc := 6) dX4_failAt_6 rfl rfl (Nat.le_of_ble_eq_true rfl) (by decide) ⟨rfl, ?_⟩
      exact a_iretz (pc := 132) dX4_readPart_132 rfl rfl (Nat.le_of_ble_eq_true rfl) (by decide) ⟨rfl, h⟩
    · replace h := h.2 hc2
      refine a_aload_n (pc := 12) dX7_byteAt_12 (by decide) rfl ?_
      refine a_getR (y := 264) (pc := 13) dX7_byteAt_13 fl_RX7_13 (by decide) s0_263 rfl rfl ?_
      refine a_iload_n (pc := 16) dX7_byteAt_16 rfl ?_
      have ho3 := h.1
      replace h := h.2
      refine a_iald (pc := 17) dX7_byteAt_17 (by decide) s0_264 ho3.1 ho3.2 ?_
      refine a_eq (y := M 264 (M 267 2)) rfl ?_
      refine a_goto (tgt := 22) (pc := 18) dX7_byteAt_18 (by decide) ?_
      refine a_ireti (pc := 22) dX7_byteAt_22 rfl rfl (Nat.le_of_ble_eq_true rfl) ⟨rfl, ?_⟩
      refine a_istore_n (ls1 := [(2, 267), (0, M 264 (M 267 2))]) (pc := 19) dX4_readPart_19 (by decide) (hp1 (t := 2) rfl (by decide)) rfl ?_
      refine a_iload_n (pc := 20) dX4_readPart_20 rfl ?_
      rcases (show (¬ (M 264 (M 267 2)) = 68 ∧ ¬ (M 264 (M 267 2)) = 70 ∧ ¬ (M 264 (M 267 2)) = 76 ∧ ¬ (M 264 (M 267 2)) = 84) ∨ ((M 264 (M 267 2)) = 68 ∨ (M 264 (M 267 2)) = 70 ∨ (M 264 (M 267 2)) = 76 ∨ (M 264 (M 267 2)) = 84) by omega) with hc | hc | hc | hc | hc
      · replace h := h.1 hc
        refine a_look (off := 103) (tgt := 124) (pc := 21) dX4_readPart_21 (by decide +kernel) (by show Op.lookupswitch.offset [(68, 88), (70, 73), (76, 43), (84, 58)] 103 _ = 103; rw [Op.lookupswitch.offset_cons, if_neg (by omega), Op.lookupswitch.offset_cons, if_neg (by omega), Op.lookupswitch.offset_cons, if_neg (by omega), Op.lookupswitch.offset_cons, if_neg (by omega)]; rfl) (by decide) ?_
        refine a_aload_n (pc := 124) dX4_readPart_124 (by decide) rfl ?_
        refine a_aload_n (pc := 125) dX4_readPart_125 (by decide) rfl ?_
        refine a_getI (y := 2) (pc := 126) dX4_readPart_126 fl_RX4_19 (by decide) s0_267 (Or.inl rfl) rfl ?_
        refine a_eq (y := M 267 2) rfl ?_
        refine p_inlV (Ex := _) (As := [(0, M 267 2)]) (st := []) (st1 := fun r => [(0, r)])  (pc := 129) dX4_readPart_129 ml_RX4_52 (by decide) s0_267 rfl (by decide) (Nat.le_of_ble_eq_true rfl) rfl (fun _ => rfl) (by decide) (by decide) (Nat.le_of_ble_eq_true rfl) rfl ?_
        refine a_aload_n (pc := 0) dX4_failAt_0 (by decide) rfl ?_
        refine a_iload_n (pc := 1) dX4_failAt_1 rfl ?_
        refine a_putI (y := 6) (pc := 2) dX4_failAt_2 fl_RX4_32 (by decide) s0_267 rfl rfl (tyX4_ok 6 (by decide)) rfl ?_
        refine a_iconst (pc := 5) dX4_failAt_5 (by decide) ?_
        refine a_iretz (pc := 6) dX4_failAt_6 rfl rfl (Nat.le_of_ble_eq_true rfl) (by decide) ⟨rfl, ?_⟩
        exact a_iretz (pc := 132) dX4_readPart_132 rfl rfl (Nat.le_of_ble_eq_true rfl) (by decide) ⟨rfl, h⟩
      · replace h := h.2.1 hc
        refine a_look (off := 88) (tgt := 109) (pc := 21) dX4_readPart_21 (by decide +kernel) (by rw [hc]; decide +kernel) (by decide) ?_
        refine a_aload_n (pc := 109) dX4_readPart_109 (by decide) rfl ?_
        refine a_dup (pc := 110) dX4_readPart_110 n21 ?_
        refine a_getI (y := 2) (pc := 111) dX4_readPart_111 fl_RX4_19 (by decide) s0_267 (Or.inl rfl) rfl ?_
        refine a_eq (y := M 267 2) rfl ?_
        refine a_iconst (pc := 114) dX4_readPart_114 (by decide) ?_
        have ho4 := h.1
        replace h := h.2
        refine a_iadd (pc := 115) dX4_readPart_115 ho4 ?_
        refine a_putI (y := 2) (pc := 116) dX4_readPart_116 fl_RX4_19 (by decide) s0_267 rfl rfl (tyX4_ok 2 (by decide)) rfl ?_
        refine a_aload_n (pc := 119) dX4_readPart_119 (by decide) rfl ?_
        refine p_callV (As := []) (st := []) (st1 := fun r => [(0, r)])  (pc := 120) dX4_readPart_120 ml_RX4_67 (by decide) s0_267 rfl (by decide) (Nat.le_of_ble_eq_true rfl) rfl (fun _ => rfl) h (fun r5 M6 h => ?_)
        have ho7 := h.1
        replace h := h.2
        exact a_iretz (pc := 123) dX4_readPart_123 rfl rfl (Nat.le_of_ble_eq_true rfl) ho7 ⟨rfl, h⟩
      · replace h := h.2.2.1 hc
        refine a_look (off := 73) (tgt := 94) (pc := 21) dX4_readPart_21 (by decide +kernel) (by rw [hc]; decide +kernel) (by decide) ?_
        refine a_aload_n (pc := 94) dX4_readPart_94 (by decide) rfl ?_
        refine a_dup (pc := 95) dX4_readPart_95 n21 ?_
        refine a_getI (y := 2) (pc := 96) dX4_readPart_96 fl_RX4_19 (by decide) s0_267 (Or.inl rfl) rfl ?_
        refine a_eq (y := M 267 2) rfl ?_
        refine a_iconst (pc := 99) dX4_readPart_99 (by decide) ?_
        have ho8 := h.1
        replace h := h.2
        refine a_iadd (pc := 100) dX4_readPart_100 ho8 ?_
        refine a_putI (y := 2) (pc := 101) dX4_readPart_101 fl_RX4_19 (by decide) s0_267 rfl rfl (tyX4_ok 2 (by decide)) rfl ?_
        refine a_aload_n (pc := 104) dX4_readPart_104 (by decide) rfl ?_
        refine p_callV (As := []) (st := []) (st1 := fun r => [(0, r)])  (pc := 105) dX4_readPart_105 ml_RX4_64 (by decide) s0_267 rfl (by decide) (Nat.le_of_ble_eq_true rfl) rfl (fun _ => rfl) h (fun r9 M10 h => ?_)
        have ho11 := h.1
        replace h := h.2
        exact a_iretz (pc := 108) dX4_readPart_108 rfl rfl (Nat.le_of_ble_eq_true rfl) ho11 ⟨rfl, h⟩
      · replace h := h.2.2.2.1 hc
        refine a_look (off := 43) (tgt := 64) (pc := 21) dX4_readPart_21 (by decide +kernel) (by rw [hc]; decide +kernel) (by decide) ?_
        refine a_aload_n (pc := 64) dX4_readPart_64 (by decide) rfl ?_
        refine a_dup (pc := 65) dX4_readPart_65 n21 ?_
        refine a_getI (y := 2) (pc := 66) dX4_readPart_66 fl_RX4_19 (by decide) s0_267 (Or.inl rfl) rfl ?_
        refine a_eq (y := M 267 2) rfl ?_
        refine a_iconst (pc := 69) dX4_readPart_69 (by decide) ?_
        have ho12 := h.1
        replace h := h.2
        refine a_iadd (pc := 70) dX4_readPart_70 ho12 ?_
        refine a_putI (y := 2) (pc := 71) dX4_readPart_71 fl_RX4_19 (by decide) s0_267 rfl rfl (tyX4_ok 2 (by decide)) rfl ?_
        refine a_aload_n (pc := 74) dX4_readPart_74 (by decide) rfl ?_
        refine p_callV (As := []) (st := []) (st1 := fun r => [(0, r)])  (pc := 75) dX4_readPart_75 ml_RX4_58 (by decide) s0_267 rfl (by decide) (Nat.le_of_ble_eq_true rfl) rfl (fun _ => rfl) h (fun r13 M14 h => ?_)
        have ho15 := h.1
        replace h := h.2
        exact a_iretz (pc := 78) dX4_readPart_78 rfl rfl (Nat.le_of_ble_eq_true rfl) ho15 ⟨rfl, h⟩
      · replace h := h.2.2.2.2 hc
        refine a_look (off := 58) (tgt := 79) (pc := 21) dX4_readPart_21 (by decide +kernel) (by rw [hc]; decide +kernel) (by decide) ?_
        refine a_aload_n (pc := 79) dX4_readPart_79 (by decide) rfl ?_
        refine a_dup (pc := 80) dX4_readPart_80 n21 ?_
        refine a_getI (y := 2) (pc := 81) dX4_readPart_81 fl_RX4_19 (by decide) s0_267 (Or.inl rfl) rfl ?_
        refine a_eq (y := M 267 2) rfl ?_
        refine a_iconst (pc := 84) dX4_readPart_84 (by decide) ?_
        have ho16 := h.1
        replace h := h.2
        refine a_iadd (pc := 85) dX4_readPart_85 ho16 ?_
        refine a_putI (y := 2) (pc := 86) dX4_readPart_86 fl_RX4_19 (by decide) s0_267 rfl rfl (tyX4_ok 2 (by decide)) rfl ?_
        refine a_aload_n (pc := 89) dX4_readPart_89 (by decide) rfl ?_
        refine p_callV (As := []) (st := []) (st1 := fun r => [(0, r)])  (pc := 90) dX4_readPart_90 ml_RX4_61 (by decide) s0_267 rfl (by decide) (Nat.le_of_ble_eq_true rfl) rfl (fun _ => rfl) h (fun r17 M18 h => ?_)
        have ho19 := h.1
        replace h := h.2
        exact a_iretz (pc := 93) dX4_readPart_93 rfl rfl (Nat.le_of_ble_eq_true rfl) ho19 ⟨rfl, h⟩
theorem E_Reader_readPart {M : Mem} {Q : Int → Mem → Prop} (h : AW mX4_readPart 0 [(2, 267), (9, 0)] M Q) : Calls mX4_readPart [(2, 267)] S0 M Q := calls_of (by decide) (by decide) (Nat.le_of_ble_eq_true rfl) rfl h
set_option maxRecDepth 100000 in
set_option maxHeartbeats 4000000 in
theorem B_Route_addWalk_0 {l1 l2 l3 l4 : Int} {M : Mem} {Q : Int → Mem → Prop} (h : ((0 : Int) ≤ l1 ∧ l1 < 7) ∧ ((0 : Int) ≤ l4 ∧ l4 < 12) ∧ AW mX5_addWalk 17 [(2, 246), (0, l1), (0, l2), (0, l3), (0, l4), (0, M (231 + l1) l4), (0, 0), (9, 0)] M Q) : AW mX5_addWalk 0 [(2, 246), (0, l1), (0, l2), (0, l3), (0, l4), (9, 0), (9, 0), (9, 0)] M Q := by
  refine a_aload_n (pc := 0) dX5_addWalk_0 (by decide) rfl ?_
  refine a_getR (y := 229) (pc := 1) dX5_addWalk_1 fl_RX5_15 (by decide) s0_246 rfl rfl ?_
  refine a_getR (y := 230) (pc := 4) dX5_addWalk_4 fl_RX5_43 (by decide) s0_229 rfl rfl ?_
  refine a_iload_n (pc := 7) dX5_addWalk_7 rfl ?_
  have ho1 := h.1
  replace h := h.2
  have hr2 := rw_230 l1 ho1.1 ho1.2
  refine a_aald (y := 231 + l1) (pc := 8) dX5_addWalk_8 (by decide) s0_230 ho1.1 ho1.2 (by omega) ?_
  refine a_iload (pc := 9) dX5_addWalk_9 rfl ?_
  have ho3 := h.1
  replace h := h.2
  refine a_iald (pc := 11) dX5_addWalk_11 hr2.1 hr2.2 ho3.1 ho3.2 ?_
  refine a_istore (ls1 := [(2, 246), (0, l1), (0, l2), (0, l3), (0, l4), (0, M (231 + l1) l4), (9, 0), (9, 0)]) (pc := 12) dX5_addWalk_12 (by decide) (hp1 (t := 0) rfl (by decide)) rfl ?_
  refine a_iconst (pc := 14) dX5_addWalk_14 (by decide) ?_
  refine a_istore (ls1 := [(2, 246), (0, l1), (0, l2), (0, l3), (0, l4), (0, M (231 + l1) l4), (0, 0), (9, 0)]) (pc := 15) dX5_addWalk_15 (by decide) (hp1 (t := 0) rfl (by decide)) rfl ?_
  exact h
set_option maxRecDepth 100000 in
set_option maxHeartbeats 4000000 in
theorem B_Route_addWalk_17 {l1 l2 l3 l4 l5 l6 : Int} {M : Mem} {Q : Int → Mem → Prop} (h : ((12 ≤ l6 → Q l4 M) ∧ (¬ (12 ≤ l6) → ((0 : Int) ≤ l6 ∧ l6 < 12) ∧ ((0 : Int) ≤ l4 ∧ l4 < 12) ∧ ((¬ (M (65 + l6) l4) = 0 → ((¬ l6 = l2 → (-2147483648 ≤ l5 - (M (65 + l6) l4) ∧ l5 - (M (65 + l6) l4) ≤ 2147483647) ∧ Calls mX5_findRide [(2, 246), (0, l1), (0, l6), (0, l5 - (M (65 + l6) l4))] S0 M (fun r8 M9 => ((r8 = 0 → (-2147483648 ≤ l6 + 1 ∧ l6 + 1 ≤ 2147483647) ∧ AW mX5_addWalk 17 [(2, 246), (0, l1), (0, l2), (0, l3), (0, l4), (0, l5), (0, l6 + 1), (9, 0)] M9 Q) ∧ (¬ r8 = 0 → (((M9 246 3) < 13 → ((0 : Int) ≤ M9 246 3 ∧ M9 246 3 < 13) ∧ (-2147483648 ≤ (M9 246 3) + 1 ∧ (M9 246 3) + 1 ≤ 2147483647) ∧ Calls mX5_addRide [(2, 246), (0, l6)] S0 (up2 (up2 (up2 (up2 (up2 (up2 (up2 (up2 M9 246 3 ((M9 246 3) + 1)) (248 + (M9 246 3)) 0 (-5)) (248 + (M9 246 3)) 1 (-5)) (248 + (M9 246 3)) 2 l6) (248 + (M9 246 3)) 3 l4) (248 + (M9 246 3)) 4 (l5 - (M (65 + l6) l4))) (248 + (M9 246 3)) 5 l5) (248 + (M9 246 3)) 6 0) (fun r16 M17 => Q r16 M17)) ∧ (¬ ((M9 246 3) < 13) → Calls mX5_addRide [(2, 246), (0, l6)] S0 M9 (fun r18 M19 => Q r18 M19))))))) ∧ (l6 = l2 → (-2147483648 ≤ l3 + (M (65 + l6) l4) ∧ l3 + (M (65 + l6) l4) ≤ 2147483647) ∧ ((¬ (l3 + (M (65 + l6) l4)) = l5 → (-2147483648 ≤ l6 + 1 ∧ l6 + 1 ≤ 2147483647) ∧ AW mX5_addWalk 17 [(2, 246), (0, l1), (0, l2), (0, l3), (0, l4), (0, l5), (0, l6 + 1), (9, 0)] M Q) ∧ ((l3 + (M (65 + l6) l4)) = l5 → (((M 246 3) < 13 → ((0 : Int) ≤ M 246 3 ∧ M 246 3 < 13) ∧ (-2147483648 ≤ (M 246 3) + 1 ∧ (M 246 3) + 1 ≤ 2147483647) ∧ Q l6 (up2 (up2 (up2 (up2 (up2 (up2 (up2 (up2 M 246 3 ((M 246 3) + 1)) (248 + (M 246 3)) 0 (-5)) (248 + (M 246 3)) 1 (-5)) (248 + (M 246 3)) 2 l6) (248 + (M 246 3)) 3 l4) (248 + (M 246 3)) 4 l3) (248 + (M 246 3)) 5 l5) (248 + (M 246 3)) 6 0)) ∧ (¬ ((M 246 3) < 13) → Q l6 M))))))) ∧ ((M (65 + l6) l4) = 0 → (-2147483648 ≤ l6 + 1 ∧ l6 + 1 ≤ 2147483647) ∧ AW mX5_addWalk 17 [(2, 246), (0, l1), (0, l2), (0, l3), (0, l4), (0, l5), (0, l6 + 1), (9, 0)] M Q))))) : AW mX5_addWalk 17 [(2, 246), (0, l1), (0, l2), (0, l3), (0, l4), (0, l5), (0, l6), (9, 0)] M Q := by
  refine a_iload (pc := 17) dX5_addWalk_17 rfl ?_
  refine a_bipush (pc := 19) dX5_addWalk_19 (by decide) (by decide +kernel) ?_
  refine a_icmp_ge (tgt := 125) (pc := 21) dX5_addWalk_21 (by decide) (fun hc1 => ?_) (fun hc1 => ?_)
  · replace h := h.1 hc1
    refine a_iload (pc := 125) dX5_addWalk_125 rfl ?_
    exact a_ireti (pc := 127) dX5_addWalk_127 rfl rfl (Nat.le_of_ble_eq_true rfl) ⟨rfl, h⟩
  · replace h := h.2 hc1
    refine a_aload_n (pc := 24) dX5_addWalk_24 (by decide) rfl ?_
    refine a_getR (y := 1) (pc := 25) dX5_addWalk_25 fl_RX5_9 (by decide) s0_246 rfl rfl ?_
    refine a_getR (y := 64) (pc := 28) dX5_addWalk_28 fl_RX5_94 (by decide) s0_1 rfl rfl ?_
    refine a_iload (pc := 31) dX5_addWalk_31 rfl ?_
    have ho2 := h.1
    replace h := h.2
    have hr3 := rw_64 l6 ho2.1 ho2.2
    refine a_aald (y := 65 + l6) (pc := 33) dX5_addWalk_33 (by decide) s0_64 ho2.1 ho2.2 (by omega) ?_
    refine a_iload (pc := 34) dX5_addWalk_34 rfl ?_
    have ho4 := h.1
    replace h := h.2
    refine a_iald (pc := 36) dX5_addWalk_36 hr3.1 hr3.2 ho4.1 ho4.2 ?_
    refine a_istore (ls1 := [(2, 246), (0, l1), (0, l2), (0, l3), (0, l4), (0, l5), (0, l6), (0, M (65 + l6) l4)]) (pc := 37) dX5_addWalk_37 (by decide) (hp1 (t := 0) rfl (by decide)) rfl ?_
    refine a_iload (pc := 39) dX5_addWalk_39 rfl ?_
    refine a_if_ne (tgt := 47) (pc := 41) dX5_addWalk_41 (by decide) (fun hc5 => ?_) (fun hc5 => ?_)
    · replace h := h.1 hc5
      refine a_iload (pc := 47) dX5_addWalk_47 rfl ?_
      refine a_iload_n (pc := 49) dX5_addWalk_49 rfl ?_
      refine a_icmp_ne (tgt := 76) (pc := 50) dX5_addWalk_50 (by decide) (fun hc6 => ?_) (fun hc6 => ?_)
      · replace h := h.1 hc6
        refine a_iload (pc := 76) dX5_addWalk_76 rfl ?_
        refine a_iload_n (pc := 78) dX5_addWalk_78 rfl ?_
        refine a_icmp_eq (tgt := 119) (pc := 79) dX5_addWalk_79 (by decide) (fun hc => absurd hc hc6) (fun _ => ?_)
        refine a_aload_n (pc := 82) dX5_addWalk_82 (by decide) rfl ?_
        refine a_iload_n (pc := 83) dX5_addWalk_83 rfl ?_
        refine a_iload (pc := 84) dX5_addWalk_84 rfl ?_
        refine a_iload (pc := 86) dX5_addWalk_86 rfl ?_
        refine a_iload (pc := 88) dX5_addWalk_88 rfl ?_
        have ho7 := h.1
        replace h := h.2
        refine a_isub (pc := 90) dX5_addWalk_90 ho7 ?_
        refine p_callV (As := [(0, l1), (0, l6), (0, l5 - (M (65 + l6) l4))]) (st := []) (st1 := fun r => [(0, r)])  (pc := 91) dX5_addWalk_91 ml_RX5_46 (by decide) s0_246 rfl (by decide) (Nat.le_of_ble_eq_true rfl) rfl (fun _ => rfl) h (fun r8 M9 h => ?_)
        refine a_if_eq (tgt := 119) (pc := 94) dX5_addWalk_94 (by decide) (fun hc10 => ?_) (fun hc10 => ?_)
        · replace h := h.1 hc10
          have ho11 := h.1
          replace h := h.2
          refine a_iinc (ls1 := [(2, 246), (0, l1), (0, l2), (0, l3), (0, l4), (0, l5), (0, l6 + 1), (0, M (65 + l6) l4)]) (pc := 119) dX5_addWalk_119 rfl (by decide) (hp1 (t := 0) rfl (by decide)) ho11 rfl ?_
          refine a_goto (tgt := 17) (pc := 122) dX5_addWalk_122 (by decide) ?_
          exact a_msk [true, true, true, true, true, true, true, false] rfl h
        · replace h := h.2 hc10
          refine a_aload_n (pc := 97) dX5_addWalk_97 (by decide) rfl ?_
          refine a_iload (pc := 98) dX5_addWalk_98 rfl ?_
          refine a_iload (pc := 100) dX5_addWalk_100 rfl ?_
          refine a_iload (pc := 102) dX5_addWalk_102 rfl ?_
          refine a_iload (pc := 104) dX5_addWalk_104 rfl ?_
          refine a_isub (pc := 106) dX5_addWalk_106 ho7 ?_
          refine a_iload (pc := 107) dX5_addWalk_107 rfl ?_
          refine p_inlV (Ex := _) (As := [(0, l6), (0, l4), (0, l5 - (M (65 + l6) l4)), (0, l5)]) (st := []) (st1 := fun r => [])  (pc := 109) dX5_addWalk_109 ml_RX5_97 (by decide) s0_246 rfl (by decide) (Nat.le_of_ble_eq_true rfl) rfl (fun _ => rfl) (by decide) (by decide) (Nat.le_of_ble_eq_true rfl) rfl ?_
          refine a_aload_n (pc := 0) dX5_putWalk_0 (by decide) rfl ?_
          refine a_getI (y := 3) (pc := 1) dX5_putWalk_1 fl_RX5_24 (by decide) s0_246 (Or.inl rfl) rfl ?_
          refine a_bipush (pc := 4) dX5_putWalk_4 (by decide) (by decide +kernel) ?_
          refine a_icmp_lt (tgt := 10) (pc := 6) dX5_putWalk_6 (by decide) (fun hc12 => ?_) (fun hc12 => ?_)
          · replace h := h.1 hc12
            refine a_aload_n (pc := 10) dX5_putWalk_10 (by decide) rfl ?_
            refine a_getR (y := 247) (pc := 11) dX5_putWalk_11 fl_RX5_21 (by decide) s0_246 rfl rfl ?_
            refine a_aload_n (pc := 14) dX5_putWalk_14 (by decide) rfl ?_
            refine a_getI (y := 3) (pc := 15) dX5_putWalk_15 fl_RX5_24 (by decide) s0_246 (Or.inl rfl) rfl ?_
            have ho13 := h.1
            replace h := h.2
            have hr14 := rw_247 (M9 246 3) ho13.1 ho13.2
            refine a_aald (y := 248 + (M9 246 3)) (pc := 18) dX5_putWalk_18 (by decide) s0_247 ho13.1 ho13.2 (by omega) ?_
            refine a_astore (ls1 := [(2, 246), (0, l6), (0, l4), (0, l5 - (M (65 + l6) l4)), (0, l5), (2, 248 + (M9 246 3))]) (pc := 19) dX5_putWalk_19 hr14.1 (by decide) (hp1 (t := 0) rfl (by decide)) rfl ?_
            refine a_aload_n (pc := 21) dX5_putWalk_21 (by decide) rfl ?_
            refine a_dup (pc := 22) dX5_putWalk_22 n21 ?_
            refine a_getI (y := 3) (pc := 23) dX5_putWalk_23 fl_RX5_24 (by decide) s0_246 (Or.inl rfl) rfl ?_
            refine a_iconst (pc := 26) dX5_putWalk_26 (by decide) ?_
            have ho15 := h.1
            replace h := h.2
            refine a_iadd (pc := 27) dX5_putWalk_27 ho15 ?_
            refine a_putI (y := 3) (pc := 28) dX5_putWalk_28 fl_RX5_24 (by decide) s0_246 rfl rfl (tyX5_ok 3 (by decide)) rfl ?_
            refine a_aload (pc := 31) dX5_putWalk_31 hr14.1 rfl ?_
            refine a_iconst (pc := 33) dX5_putWalk_33 (by decide) ?_
            refine a_bipush (pc := 34) dX5_putWalk_34 (by decide) (by decide +kernel) ?_
            refine a_iast (pc := 36) dX5_putWalk_36 hr14.1 hr14.2 (by decide) (by decide) ?_
            refine a_aload (pc := 37) dX5_putWalk_37 hr14.1 rfl ?_
            refine a_iconst (pc := 39) dX5_putWalk_39 (by decide) ?_
            refine a_bipush (pc := 40) dX5_putWalk_40 (by decide) (by decide +kernel) ?_
            refine a_iast (pc := 42) dX5_putWalk_42 hr14.1 hr14.2 (by decide) (by decide) ?_
            refine a_aload (pc := 43) dX5_putWalk_43 hr14.1 rfl ?_
            refine a_iconst (pc := 45) dX5_putWalk_45 (by decide) ?_
            refine a_iload_n (pc := 46) dX5_putWalk_46 rfl ?_
            refine a_iast (pc := 47) dX5_putWalk_47 hr14.1 hr14.2 (by decide) (by decide) ?_
            refine a_aload (pc := 48) dX5_putWalk_48 hr14.1 rfl ?_
            refine a_iconst (pc := 50) dX5_putWalk_50 (by decide) ?_
            refine a_iload_n (pc := 51) dX5_putWalk_51 rfl ?_
            refine a_iast (pc := 52) dX5_putWalk_52 hr14.1 hr14.2 (by decide) (by decide) ?_
            refine a_aload (pc := 53) dX5_putWalk_53 hr14.1 rfl ?_
            refine a_iconst (pc := 55) dX5_putWalk_55 (by decide) ?_
            refine a_iload_n (pc := 56) dX5_putWalk_56 rfl ?_
            refine a_iast (pc := 57) dX5_putWalk_57 hr14.1 hr14.2 (by decide) (by decide) ?_
            refine a_aload (pc := 58) dX5_putWalk_58 hr14.1 rfl ?_
            refine a_iconst (pc := 60) dX5_putWalk_60 (by decide) ?_
            refine a_iload (pc := 61) dX5_putWalk_61 rfl ?_
            refine a_iast (pc := 63) dX5_putWalk_63 hr14.1 hr14.2 (by decide) (by decide) ?_
            refine a_aload (pc := 64) dX5_putWalk_64 hr14.1 rfl ?_
            refine a_bipush (pc := 66) dX5_putWalk_66 (by decide) (by decide +kernel) ?_
            refine a_iconst (pc := 68) dX5_putWalk_68 (by decide) ?_
            refine a_iast (pc := 69) dX5_putWalk_69 hr14.1 hr14.2 (by decide) (by decide) ?_
            refine a_vret (pc := 70) dX5_putWalk_70 rfl rfl (Nat.le_of_ble_eq_true rfl) ⟨rfl, ?_⟩
            refine a_aload_n (pc := 112) dX5_addWalk_112 (by decide) rfl ?_
            refine a_iload (pc := 113) dX5_addWalk_113 rfl ?_
            refine p_callV (As := [(0, l6)]) (st := []) (st1 := fun r => [(0, r)])  (pc := 115) dX5_addWalk_115 ml_RX5_50 (by decide) s0_246 rfl (by decide) (Nat.le_of_ble_eq_true rfl) rfl (fun _ => rfl) h (fun r16 M17 h => ?_)
            exact a_ireti (pc := 118) dX5_addWalk_118 rfl rfl (Nat.le_of_ble_eq_true rfl) ⟨rfl, h⟩
          · replace h := h.2 hc12
            refine a_vret (pc := 9) dX5_putWalk_9 rfl rfl (Nat.le_of_ble_eq_true rfl) ⟨rfl, ?_⟩
            refine a_aload_n (pc := 112) dX5_addWalk_112 (by decide) rfl ?_
            refine a_iload (pc := 113) dX5_addWalk_113 rfl ?_
            refine p_callV (As := [(0, l6)]) (st := []) (st1 := fun r => [(0, r)])  (pc := 115) dX5_addWalk_115 ml_RX5_50 (by decide) s0_246 rfl (by decide) (Nat.le_of_ble_eq_true rfl) rfl (fun _ => rfl) h (fun r18 M19 h => ?_)
            exact a_ireti (pc := 118) dX5_addWalk_118 rfl rfl (Nat.le_of_ble_eq_true rfl) ⟨rfl, h⟩
      · replace h := h.2 hc6
        refine a_iload_n (pc := 53) dX5_addWalk_53 rfl ?_
        refine a_iload (pc := 54) dX5_addWalk_54 rfl ?_
        have ho20 := h.1
        replace h := h.2
        refine a_iadd (pc := 56) dX5_addWalk_56 ho20 ?_
        refine a_iload (pc := 57) dX5_addWalk_57 rfl ?_
        refine a_icmp_ne (tgt := 76) (pc := 59) dX5_addWalk_59 (by decide) (fun hc21 => ?_) (fun hc21 => ?_)
        · replace h := h.1 hc21
          refine a_iload (pc := 76) dX5_addWalk_76 rfl ?_
          refine a_iload_n (pc := 78) dX5_addWalk_78 rfl ?_
          refine a_icmp_eq (tgt := 119) (pc := 79) dX5_addWalk_79 (by decide) (fun _ => ?_) (fun hc => absurd hc6 hc)
          have ho22 := h.1
          replace h := h.2
          refine a_iinc (ls1 := [(2, 246), (0, l1), (0, l2), (0, l3), (0, l4), (0, l5), (0, l6 + 1), (0, M (65 + l6) l4)]) (pc := 119) dX5_addWalk_119 rfl (by decide) (hp1 (t := 0) rfl (by decide)) ho22 rfl ?_
          refine a_goto (tgt := 17) (pc := 122) dX5_addWalk_122 (by decide) ?_
          exact a_msk [true, true, true, true, true, true, true, false] rfl h
        · replace h := h.2 hc21
          refine a_aload_n (pc := 62) dX5_addWalk_62 (by decide) rfl ?_
          refine a_iload (pc := 63) dX5_addWalk_63 rfl ?_
          refine a_iload (pc := 65) dX5_addWalk_65 rfl ?_
          refine a_iload_n (pc := 67) dX5_addWalk_67 rfl ?_
          refine a_iload (pc := 68) dX5_addWalk_68 rfl ?_
          refine p_inlV (Ex := _) (As := [(0, l6), (0, l4), (0, l3), (0, l5)]) (st := []) (st1 := fun r => [])  (pc := 70) dX5_addWalk_70 ml_RX5_97 (by decide) s0_246 rfl (by decide) (Nat.le_of_ble_eq_true rfl) rfl (fun _ => rfl) (by decide) (by decide) (Nat.le_of_ble_eq_true rfl) rfl ?_
          refine a_aload_n (pc := 0) dX5_putWalk_0 (by decide) rfl ?_
          refine a_getI (y := 3) (pc := 1) dX5_putWalk_1 fl_RX5_24 (by decide) s0_246 (Or.inl rfl) rfl ?_
          refine a_bipush (pc := 4) dX5_putWalk_4 (by decide) (by decide +kernel) ?_
          refine a_icmp_lt (tgt := 10) (pc := 6) dX5_putWalk_6 (by decide) (fun hc23 => ?_) (fun hc23 => ?_)
          · replace h := h.1 hc23
            refine a_aload_n (pc := 10) dX5_putWalk_10 (by decide) rfl ?_
            refine a_getR (y := 247) (pc := 11) dX5_putWalk_11 fl_RX5_21 (by decide) s0_246 rfl rfl ?_
            refine a_aload_n (pc := 14) dX5_putWalk_14 (by decide) rfl ?_
            refine a_getI (y := 3) (pc := 15) dX5_putWalk_15 fl_RX5_24 (by decide) s0_246 (Or.inl rfl) rfl ?_
            have ho24 := h.1
            replace h := h.2
            have hr25 := rw_247 (M 246 3) ho24.1 ho24.2
            refine a_aald (y := 248 + (M 246 3)) (pc := 18) dX5_putWalk_18 (by decide) s0_247 ho24.1 ho24.2 (by omega) ?_
            refine a_astore (ls1 := [(2, 246), (0, l6), (0, l4), (0, l3), (0, l5), (2, 248 + (M 246 3))]) (pc := 19) dX5_putWalk_19 hr25.1 (by decide) (hp1 (t := 0) rfl (by decide)) rfl ?_
            refine a_aload_n (pc := 21) dX5_putWalk_21 (by decide) rfl ?_
            refine a_dup (pc := 22) dX5_putWalk_22 n21 ?_
            refine a_getI (y := 3) (pc := 23) dX5_putWalk_23 fl_RX5_24 (by decide) s0_246 (Or.inl rfl) rfl ?_
            refine a_iconst (pc := 26) dX5_putWalk_26 (by decide) ?_
            have ho26 := h.1
            replace h := h.2
            refine a_iadd (pc := 27) dX5_putWalk_27 ho26 ?_
            refine a_putI (y := 3) (pc := 28) dX5_putWalk_28 fl_RX5_24 (by decide) s0_246 rfl rfl (tyX5_ok 3 (by decide)) rfl ?_
            refine a_aload (pc := 31) dX5_putWalk_31 hr25.1 rfl ?_
            refine a_iconst (pc := 33) dX5_putWalk_33 (by decide) ?_
            refine a_bipush (pc := 34) dX5_putWalk_34 (by decide) (by decide +kernel) ?_
            refine a_iast (pc := 36) dX5_putWalk_36 hr25.1 hr25.2 (by decide) (by decide) ?_
            refine a_aload (pc := 37) dX5_putWalk_37 hr25.1 rfl ?_
            refine a_iconst (pc := 39) dX5_putWalk_39 (by decide) ?_
            refine a_bipush (pc := 40) dX5_putWalk_40 (by decide) (by decide +kernel) ?_
            refine a_iast (pc := 42) dX5_putWalk_42 hr25.1 hr25.2 (by decide) (by decide) ?_
            refine a_aload (pc := 43) dX5_putWalk_43 hr25.1 rfl ?_
            refine a_iconst (pc := 45) dX5_putWalk_45 (by decide) ?_
            refine a_iload_n (pc := 46) dX5_putWalk_46 rfl ?_
            refine a_iast (pc := 47) dX5_putWalk_47 hr25.1 hr25.2 (by decide) (by decide) ?_
            refine a_aload (pc := 48) dX5_putWalk_48 hr25.1 rfl ?_
            refine a_iconst (pc := 50) dX5_putWalk_50 (by decide) ?_
            refine a_iload_n (pc := 51) dX5_putWalk_51 rfl ?_
            refine a_iast (pc := 52) dX5_putWalk_52 hr25.1 hr25.2 (by decide) (by decide) ?_
            refine a_aload (pc := 53) dX5_putWalk_53 hr25.1 rfl ?_
            refine a_iconst (pc := 55) dX5_putWalk_55 (by decide) ?_
            refine a_iload_n (pc := 56) dX5_putWalk_56 rfl ?_
            refine a_iast (pc := 57) dX5_putWalk_57 hr25.1 hr25.2 (by decide) (by decide) ?_
            refine a_aload (pc := 58) dX5_putWalk_58 hr25.1 rfl ?_
            refine a_iconst (pc := 60) dX5_putWalk_60 (by decide) ?_
            refine a_iload (pc := 61) dX5_putWalk_61 rfl ?_
            refine a_iast (pc := 63) dX5_putWalk_63 hr25.1 hr25.2 (by decide) (by decide) ?_
            refine a_aload (pc := 64) dX5_putWalk_64 hr25.1 rfl ?_
            refine a_bipush (pc := 66) dX5_putWalk_66 (by decide) (by decide +kernel) ?_
            refine a_iconst (pc := 68) dX5_putWalk_68 (by decide) ?_
            refine a_iast (pc := 69) dX5_putWalk_69 hr25.1 hr25.2 (by decide) (by decide) ?_
            refine a_vret (pc := 70) dX5_putWalk_70 rfl rfl (Nat.le_of_ble_eq_true rfl) ⟨rfl, ?_⟩
            refine a_iload (pc := 73) dX5_addWalk_73 rfl ?_
            exact a_ireti (pc := 75) dX5_addWalk_75 rfl rfl (Nat.le_of_ble_eq_true rfl) ⟨rfl, h⟩
          · replace h := h.2 hc23
            refine a_vret (pc := 9) dX5_putWalk_9 rfl rfl (Nat.le_of_ble_eq_true rfl) ⟨rfl, ?_⟩
            refine a_iload (pc := 73) dX5_addWalk_73 rfl ?_
            exact a_ireti (pc := 75) dX5_addWalk_75 rfl rfl (Nat.le_of_ble_eq_true rfl) ⟨rfl, h⟩
    · replace h := h.2 hc5
      refine a_goto (tgt := 119) (pc := 44) dX5_addWalk_44 (by decide) ?_
      have ho27 := h.1
      replace h := h.2
      refine a_iinc (ls1 := [(2, 246), (0, l1), (0, l2), (0, l3), (0, l4), (0, l5), (0, l6 + 1), (0, M (65 + l6) l4)]) (pc := 119) dX5_addWalk_119 rfl (by decide) (hp1 (t := 0) rfl (by decide)) ho27 rfl ?_
      refine a_goto (tgt := 17) (pc := 122) dX5_addWalk_122 (by decide) ?_
      exact a_msk [true, true, true, true, true, true, true, false] rfl h
theorem E_Route_addWalk {l1 l2 l3 l4 : Int} {M : Mem} {Q : Int → Mem → Prop} (h : AW mX5_addWalk 0 [(2, 246), (0, l1), (0, l2), (0, l3), (0, l4), (9, 0), (9, 0), (9, 0)] M Q) : Calls mX5_addWalk [(2, 246), (0, l1), (0, l2), (0, l3), (0, l4)] S0 M Q := calls_of (by decide) (by decide) (Nat.le_of_ble_eq_true rfl) rfl h
set_option maxRecDepth 100000 in
set_option maxHeartbeats 4000000 in
theorem B_Search_run_0 {l1 l2 l3 : Int} {M : Mem} {Q : Int → Mem → Prop} (h : AW mX6_run 3 [(2, 229), (0, l1), (0, l2), (0, l3), (0, 0)] M Q) : AW mX6_run 0 [(2, 229), (0, l1), (0, l2), (0, l3), (9, 0)] M Q := by
  refine a_iconst (pc := 0) dX6_run_0 (by decide) ?_
  refine a_istore (ls1 := [(2, 229), (0, l1), (0, l2), (0, l3), (0, 0)]) (pc := 1) dX6_run_1 (by decide) (hp1 (t := 0) rfl (by decide)) rfl ?_
  exact h
set_option maxRecDepth 100000 in
set_option maxHeartbeats 4000000 in
theorem B_Search_run_3 {l1 l2 l3 l4 : Int} {M : Mem} {Q : Int → Mem → Prop} (h : ((l3 < l4 → Q 0 M) ∧ (¬ (l3 < l4) → ((0 : Int) ≤ l4 ∧ l4 < 7) ∧ Calls mJ7_fill_53178 [(2, 239 + l4), (0, 10000)] S0 M (fun r4 M5 => ((l4 ≤ 0 → Calls mX6_arriveAll [(2, 229), (0, l1), (0, l2), (2, 239 + l4), (2, 231 + l4)] S0 M5 (fun r9 M10 => (-2147483648 ≤ l4 + 1 ∧ l4 + 1 ≤ 2147483647) ∧ AW mX6_run 3 [(2, 229), (0, l1), (0, l2), (0, l3), (0, l4 + 1)] M10 Q)) ∧ (¬ (l4 ≤ 0) → (-2147483648 ≤ l4 - 1 ∧ l4 - 1 ≤ 2147483647) ∧ ((0 : Int) ≤ l4 - 1 ∧ l4 - 1 < 7) ∧ Calls mX6_rideAll [(2, 229), (2, 231 + (l4 - 1)), (2, 239 + l4)] S0 M5 (fun r16 M17 => Calls mX6_arriveAll [(2, 229), (0, l1), (0, l2), (2, 239 + l4), (2, 231 + l4)] S0 M17 (fun r20 M21 => (-2147483648 ≤ l4 + 1 ∧ l4 + 1 ≤ 2147483647) ∧ AW mX6_run 3 [(2, 229), (0, l1), (0, l2), (0, l3), (0, l4 + 1)] M21 Q)))))))) : AW mX6_run 3 [(2, 229), (0, l1), (0, l2), (0, l3), (0, l4)] M Q := by
  refine a_iload (pc := 3) dX6_run_3 rfl ?_
  refine a_iload_n (pc := 5) dX6_run_5 rfl ?_
  refine a_icmp_gt (tgt := 73) (pc := 6) dX6_run_6 (by decide) (fun hc1 => ?_) (fun hc1 => ?_)
  · replace h := h.1 hc1
    exact a_vret (pc := 73) dX6_run_73 rfl rfl (Nat.le_of_ble_eq_true rfl) ⟨rfl, h⟩
  · replace h := h.2 hc1
    refine a_aload_n (pc := 9) dX6_run_9 (by decide) rfl ?_
    refine a_getR (y := 238) (pc := 10) dX6_run_10 fl_RX6_20 (by decide) s0_229 rfl rfl ?_
    refine a_iload (pc := 13) dX6_run_13 rfl ?_
    have ho2 := h.1
    replace h := h.2
    have hr3 := rw_238 l4 ho2.1 ho2.2
    refine a_aald (y := 239 + l4) (pc := 15) dX6_run_15 (by decide) s0_238 ho2.1 ho2.2 (by omega) ?_
    refine a_sipush (pc := 16) dX6_run_16 (by decide) (by decide +kernel) ?_
    refine p_callS (As := [(2, 239 + l4), (0, 10000)]) (st := []) (st1 := fun r => [])  (pc := 19) dX6_run_19 ml_RX6_40 (by decide) (Nat.le_of_ble_eq_true rfl) rfl (fun _ => rfl) h (fun r4 M5 h => ?_)
    refine a_iload (pc := 22) dX6_run_22 rfl ?_
    refine a_if_le (tgt := 47) (pc := 24) dX6_run_24 (by decide) (fun hc6 => ?_) (fun hc6 => ?_)
    · replace h := h.1 hc6
      refine a_aload_n (pc := 47) dX6_run_47 (by decide) rfl ?_
      refine a_iload_n (pc := 48) dX6_run_48 rfl ?_
      refine a_iload_n (pc := 49) dX6_run_49 rfl ?_
      refine a_aload_n (pc := 50) dX6_run_50 (by decide) rfl ?_
      refine a_getR (y := 238) (pc := 51) dX6_run_51 fl_RX6_20 (by decide) s0_229 rfl rfl ?_
      refine a_iload (pc := 54) dX6_run_54 rfl ?_
      have hr7 := rw_238 l4 ho2.1 ho2.2
      refine a_aald (y := 239 + l4) (pc := 56) dX6_run_56 (by decide) s0_238 ho2.1 ho2.2 (by omega) ?_
      refine a_aload_n (pc := 57) dX6_run_57 (by decide) rfl ?_
      refine a_getR (y := 230) (pc := 58) dX6_run_58 fl_RX6_17 (by decide) s0_229 rfl rfl ?_
      refine a_iload (pc := 61) dX6_run_61 rfl ?_
      have hr8 := rw_230 l4 ho2.1 ho2.2
      refine a_aald (y := 231 + l4) (pc := 63) dX6_run_63 (by decide) s0_230 ho2.1 ho2.2 (by omega) ?_
      refine p_callV (As := [(0, l1), (0, l2), (2, 239 + l4), (2, 231 + l4)]) (st := []) (st1 := fun r => [])  (pc := 64) dX6_run_64 ml_RX6_50 (by decide) s0_229 rfl (by decide) (Nat.le_of_ble_eq_true rfl) rfl (fun _ => rfl) h (fun r9 M10 h => ?_)
      have ho11 := h.1
      replace h := h.2
      refine a_iinc (ls1 := [(2, 229), (0, l1), (0, l2), (0, l3), (0, l4 + 1)]) (pc := 67) dX6_run_67 rfl (by decide) (hp1 (t := 0) rfl (by decide)) ho11 rfl ?_
      refine a_goto (tgt := 3) (pc := 70) dX6_run_70 (by decide) ?_
      exact h
    · replace h := h.2 hc6
      refine a_aload_n (pc := 27) dX6_run_27 (by decide) rfl ?_
      refine a_aload_n (pc := 28) dX6_run_28 (by decide) rfl ?_
      refine a_getR (y := 230) (pc := 29) dX6_run_29 fl_RX6_17 (by decide) s0_229 rfl rfl ?_
      refine a_iload (pc := 32) dX6_run_32 rfl ?_
      refine a_iconst (pc := 34) dX6_run_34 (by decide) ?_
      have ho12 := h.1
      replace h := h.2
      refine a_isub (pc := 35) dX6_run_35 ho12 ?_
      have ho13 := h.1
      replace h := h.2
      have hr14 := rw_230 (l4 - 1) ho13.1 ho13.2
      refine a_aald (y := 231 + (l4 - 1)) (pc := 36) dX6_run_36 (by decide) s0_230 ho13.1 ho13.2 (by omega) ?_
      refine a_aload_n (pc := 37) dX6_run_37 (by decide) rfl ?_
      refine a_getR (y := 238) (pc := 38) dX6_run_38 fl_RX6_20 (by decide) s0_229 rfl rfl ?_
      refine a_iload (pc := 41) dX6_run_41 rfl ?_
      have hr15 := rw_238 l4 ho2.1 ho2.2
      refine a_aald (y := 239 + l4) (pc := 43) dX6_run_43 (by decide) s0_238 ho2.1 ho2.2 (by omega) ?_
      refine p_callV (As := [(2, 231 + (l4 - 1)), (2, 239 + l4)]) (st := []) (st1 := fun r => [])  (pc := 44) dX6_run_44 ml_RX6_46 (by decide) s0_229 rfl (by decide) (Nat.le_of_ble_eq_true rfl) rfl (fun _ => rfl) h (fun r16 M17 h => ?_)
      refine a_aload_n (pc := 47) dX6_run_47 (by decide) rfl ?_
      refine a_iload_n (pc := 48) dX6_run_48 rfl ?_
      refine a_iload_n (pc := 49) dX6_run_49 rfl ?_
      refine a_aload_n (pc := 50) dX6_run_50 (by decide) rfl ?_
      refine a_getR (y := 238) (pc := 51) dX6_run_51 fl_RX6_20 (by decide) s0_229 rfl rfl ?_
      refine a_iload (pc := 54) dX6_run_54 rfl ?_
      have hr18 := rw_238 l4 ho2.1 ho2.2
      refine a_aald (y := 239 + l4) (pc := 56) dX6_run_56 (by decide) s0_238 ho2.1 ho2.2 (by omega) ?_
      refine a_aload_n (pc := 57) dX6_run_57 (by decide) rfl ?_
      refine a_getR (y := 230) (pc := 58) dX6_run_58 fl_RX6_17 (by decide) s0_229 rfl rfl ?_
      refine a_iload (pc := 61) dX6_run_61 rfl ?_
      have hr19 := rw_230 l4 ho2.1 ho2.2
      refine a_aald (y := 231 + l4) (pc := 63) dX6_run_63 (by decide) s0_230 ho2.1 ho2.2 (by omega) ?_
      refine p_callV (As := [(0, l1), (0, l2), (2, 239 + l4), (2, 231 + l4)]) (st := []) (st1 := fun r => [])  (pc := 64) dX6_run_64 ml_RX6_50 (by decide) s0_229 rfl (by decide) (Nat.le_of_ble_eq_true rfl) rfl (fun _ => rfl) h (fun r20 M21 h => ?_)
      have ho22 := h.1
      replace h := h.2
      refine a_iinc (ls1 := [(2, 229), (0, l1), (0, l2), (0, l3), (0, l4 + 1)]) (pc := 67) dX6_run_67 rfl (by decide) (hp1 (t := 0) rfl (by decide)) ho22 rfl ?_
      refine a_goto (tgt := 3) (pc := 70) dX6_run_70 (by decide) ?_
      exact h
theorem E_Search_run {l1 l2 l3 : Int} {M : Mem} {Q : Int → Mem → Prop} (h : AW mX6_run 0 [(2, 229), (0, l1), (0, l2), (0, l3), (9, 0)] M Q) : Calls mX6_run [(2, 229), (0, l1), (0, l2), (0, l3)] S0 M Q := calls_of (by decide) (by decide) (Nat.le_of_ble_eq_true rfl) rfl h
set_option maxRecDepth 100000 in
set_option maxHeartbeats 4000000 in
theorem B_Reader_readTable_0 {M : Mem} {Q : Int → Mem → Prop} (h : AW mX4_readTable 7 [(2, 267), (0, 1)] (up2 M 267 2 0) Q) : AW mX4_readTable 0 [(2, 267), (9, 0)] M Q := by
  refine a_aload_n (pc := 0) dX4_readTable_0 (by decide) rfl ?_
  refine a_iconst (pc := 1) dX4_readTable_1 (by decide) ?_
  refine a_putI (y := 2) (pc := 2) dX4_readTable_2 fl_RX4_19 (by decide) s0_267 rfl rfl (tyX4_ok 2 (by decide)) rfl ?_
  refine a_iconst (pc := 5) dX4_readTable_5 (by decide) ?_
  refine a_istore_n (ls1 := [(2, 267), (0, 1)]) (pc := 6) dX4_readTable_6 (by decide) (hp1 (t := 2) rfl (by decide)) rfl ?_
  exact h
set_option maxRecDepth 100000 in
set_option maxHeartbeats 4000000 in
theorem B_Reader_readTable_7 {l1 : Int} {M : Mem} {Q : Int → Mem → Prop} (h : ((80 < l1 → (-2147483648 ≤ (-100) - (M 267 2) ∧ (-100) - (M 267 2) ≤ 2147483647) ∧ Q ((-100) - (M 267 2)) M) ∧ (¬ (80 < l1) → Calls mX4_readPart [(2, 267)] S0 M (fun r3 M4 => ((¬ r3 = 0 → (((M4 267 2) < (M4 263 1) → (((M4 267 2) < 0 → (-2147483648 ≤ (-100) - (M4 267 2) ∧ (-100) - (M4 267 2) ≤ 2147483647) ∧ Q ((-100) - (M4 267 2)) (up2 M4 267 6 (M4 267 2))) ∧ (¬ ((M4 267 2) < 0) → (((M4 263 1) ≤ (M4 267 2) → (-2147483648 ≤ (-100) - (M4 267 2) ∧ (-100) - (M4 267 2) ≤ 2147483647) ∧ Q ((-100) - (M4 267 2)) (up2 M4 267 6 (M4 267 2))) ∧ (¬ ((M4 263 1) ≤ (M4 267 2)) → ((0 : Int) ≤ M4 267 2 ∧ M4 267 2 < 80) ∧ (((M4 264 (M4 267 2)) = 59 → (-2147483648 ≤ (M4 267 2) + 1 ∧ (M4 267 2) + 1 ≤ 2147483647) ∧ (-2147483648 ≤ l1 + 1 ∧ l1 + 1 ≤ 2147483647) ∧ AW mX4_readTable 7 [(2, 267), (0, l1 + 1)] (up2 M4 267 2 ((M4 267 2) + 1)) Q) ∧ (¬ (M4 264 (M4 267 2)) = 59 → (-2147483648 ≤ (-100) - (M4 267 2) ∧ (-100) - (M4 267 2) ≤ 2147483647) ∧ Q ((-100) - (M4 267 2)) (up2 M4 267 6 (M4 267 2))))))))) ∧ (¬ ((M4 267 2) < (M4 263 1)) → Q l1 M4))) ∧ (r3 = 0 → (-2147483648 ≤ (-100) - (M4 267 6) ∧ (-100) - (M4 267 6) ≤ 2147483647) ∧ Q ((-100) - (M4 267 6)) M4)))))) : AW mX4_readTable 7 [(2, 267), (0, l1)] M Q := by
  refine a_iload_n (pc := 7) dX4_readTable_7 rfl ?_
  refine a_bipush (pc := 8) dX4_readTable_8 (by decide) (by decide +kernel) ?_
  refine a_icmp_gt (tgt := 67) (pc := 10) dX4_readTable_10 (by decide) (fun hc1 => ?_) (fun hc1 => ?_)
  · replace h := h.1 hc1
    refine a_bipush (pc := 67) dX4_readTable_67 (by decide) (by decide +kernel) ?_
    refine a_aload_n (pc := 69) dX4_readTable_69 (by decide) rfl ?_
    refine a_getI (y := 2) (pc := 70) dX4_readTable_70 fl_RX4_19 (by decide) s0_267 (Or.inl rfl) rfl ?_
    have ho2 := h.1
    replace h := h.2
    refine a_isub (pc := 73) dX4_readTable_73 ho2 ?_
    exact a_ireti (pc := 74) dX4_readTable_74 rfl rfl (Nat.le_of_ble_eq_true rfl) ⟨rfl, h⟩
  · replace h := h.2 hc1
    refine a_aload_n (pc := 13) dX4_readTable_13 (by decide) rfl ?_
    refine p_callV (As := []) (st := []) (st1 := fun r => [(0, r)])  (pc := 14) dX4_readTable_14 ml_RX4_35 (by decide) s0_267 rfl (by decide) (Nat.le_of_ble_eq_true rfl) rfl (fun _ => rfl) h (fun r3 M4 h => ?_)
    refine a_if_ne (tgt := 28) (pc := 17) dX4_readTable_17 (by decide) (fun hc5 => ?_) (fun hc5 => ?_)
    · replace h := h.1 hc5
      refine a_aload_n (pc := 28) dX4_readTable_28 (by decide) rfl ?_
      refine a_getI (y := 2) (pc := 29) dX4_readTable_29 fl_RX4_19 (by decide) s0_267 (Or.inl rfl) rfl ?_
      refine a_aload_n (pc := 32) dX4_readTable_32 (by decide) rfl ?_
      refine a_getR (y := 263) (pc := 33) dX4_readTable_33 fl_RX4_15 (by decide) s0_267 rfl rfl ?_
      refine a_getI (y := 1) (pc := 36) dX4_readTable_36 fl_RX4_39 (by decide) s0_263 (Or.inl rfl) rfl ?_
      refine a_icmp_lt (tgt := 44) (pc := 39) dX4_readTable_39 (by decide) (fun hc6 => ?_) (fun hc6 => ?_)
      · replace h := h.1 hc6
        refine a_aload_n (pc := 44) dX4_readTable_44 (by decide) rfl ?_
        refine a_bipush (pc := 45) dX4_readTable_45 (by decide) (by decide +kernel) ?_
        refine p_inlV (Ex := _) (As := [(0, 59)]) (st := []) (st1 := fun r => [(0, r)])  (pc := 47) dX4_readTable_47 ml_RX4_44 (by decide) s0_267 rfl (by decide) (Nat.le_of_ble_eq_true rfl) rfl (fun _ => rfl) (by decide) (by decide) (Nat.le_of_ble_eq_true rfl) rfl ?_
        refine a_aload_n (pc := 0) dX4_takeByte_0 (by decide) rfl ?_
        refine a_getR (y := 263) (pc := 1) dX4_takeByte_1 fl_RX4_15 (by decide) s0_267 rfl rfl ?_
        refine a_aload_n (pc := 4) dX4_takeByte_4 (by decide) rfl ?_
        refine a_getI (y := 2) (pc := 5) dX4_takeByte_5 fl_RX4_19 (by decide) s0_267 (Or.inl rfl) rfl ?_
        refine p_inlV (Ex := _) (As := [(0, M4 267 2)]) (st := []) (st1 := fun r => [(0, r)])  (pc := 8) dX4_takeByte_8 ml_RX4_48 (by decide) s0_263 rfl (by decide) (Nat.le_of_ble_eq_true rfl) rfl (fun _ => rfl) (by decide) (by decide) (Nat.le_of_ble_eq_true rfl) rfl ?_
        refine a_iload_n (pc := 0) dX7_byteAt_0 rfl ?_
        refine a_if_lt (tgt := 21) (pc := 1) dX7_byteAt_1 (by decide) (fun hc7 => ?_) (fun hc7 => ?_)
        · replace h := h.1 hc7
          refine a_iconst (pc := 21) dX7_byteAt_21 (by decide) ?_
          refine a_ireti (pc := 22) dX7_byteAt_22 rfl rfl (Nat.le_of_ble_eq_true rfl) ⟨rfl, ?_⟩
          refine a_iload_n (pc := 11) dX4_takeByte_11 rfl ?_
          refine a_icmp_eq (tgt := 24) (pc := 12) dX4_takeByte_12 (by decide) (fun hc => absurd hc (by decide)) (fun _ => ?_)
          refine a_aload_n (pc := 15) dX4_takeByte_15 (by decide) rfl ?_
          refine a_aload_n (pc := 16) dX4_takeByte_16 (by decide) rfl ?_
          refine a_getI (y := 2) (pc := 17) dX4_takeByte_17 fl_RX4_19 (by decide) s0_267 (Or.inl rfl) rfl ?_
          refine p_inlV (Ex := _) (As := [(0, M4 267 2)]) (st := []) (st1 := fun r => [(0, r)])  (pc := 20) dX4_takeByte_20 ml_RX4_52 (by decide) s0_267 rfl (by decide) (Nat.le_of_ble_eq_true rfl) rfl (fun _ => rfl) (by decide) (by decide) (Nat.le_of_ble_eq_true rfl) rfl ?_
          refine a_aload_n (pc := 0) dX4_failAt_0 (by decide) rfl ?_
          refine a_iload_n (pc := 1) dX4_failAt_1 rfl ?_
          refine a_putI (y := 6) (pc := 2) dX4_failAt_2 fl_RX4_32 (by decide) s0_267 rfl rfl (tyX4_ok 6 (by decide)) rfl ?_
          refine a_iconst (pc := 5) dX4_failAt_5 (by decide) ?_
          refine a_iretz (pc := 6) dX4_failAt_6 rfl rfl (Nat.le_of_ble_eq_true rfl) (by decide) ⟨rfl, ?_⟩
          refine a_iretz (pc := 23) dX4_takeByte_23 rfl rfl (Nat.le_of_ble_eq_true rfl) (by decide) ⟨rfl, ?_⟩
          refine a_if_ne (tgt := 61) (pc := 50) dX4_readTable_50 (by decide) (fun hc => absurd rfl hc) (fun _ => ?_)
          refine a_bipush (pc := 53) dX4_readTable_53 (by decide) (by decide +kernel) ?_
          refine a_aload_n (pc := 55) dX4_readTable_55 (by decide) rfl ?_
          refine a_getI (y := 6) (pc := 56) dX4_readTable_56 fl_RX4_32 (by decide) s0_267 (Or.inl rfl) rfl ?_
          refine a_eq (y := M4 267 2) rfl ?_
          have ho8 := h.1
          replace h := h.2
          refine a_isub (pc := 59) dX4_readTable_59 ho8 ?_
          exact a_ireti (pc := 60) dX4_readTable_60 rfl rfl (Nat.le_of_ble_eq_true rfl) ⟨rfl, h⟩
        · replace h := h.2 hc7
          refine a_iload_n (pc := 4) dX7_byteAt_4 rfl ?_
          refine a_aload_n (pc := 5) dX7_byteAt_5 (by decide) rfl ?_
          refine a_getI (y := 1) (pc := 6) dX7_byteAt_6 fl_RX7_19 (by decide) s0_263 (Or.inl rfl) rfl ?_
          refine a_icmp_ge (tgt := 21) (pc := 9) dX7_byteAt_9 (by decide) (fun hc9 => ?_) (fun hc9 => ?_)
          · replace h := h.1 hc9
            refine a_iconst (pc := 21) dX7_byteAt_21 (by decide) ?_
            refine a_ireti (pc := 22) dX7_byteAt_22 rfl rfl (Nat.le_of_ble_eq_true rfl) ⟨rfl, ?_⟩
            refine a_iload_n (pc := 11) dX4_takeByte_11 rfl ?_
            refine a_icmp_eq (tgt := 24) (pc := 12) dX4_takeByte_12 (by decide) (fun hc => absurd hc (by decide)) (fun _ => ?_)
            refine a_aload_n (pc := 15) dX4_takeByte_15 (by decide) rfl ?_
            refine a_aload_n (pc := 16) dX4_takeByte_16 (by decide) rfl ?_
            refine a_getI (y := 2) (pc := 17) dX4_takeByte_17 fl_RX4_19 (by decide) s0_267 (Or.inl rfl) rfl ?_
            refine p_inlV (Ex := _) (As := [(0, M4 267 2)]) (st := []) (st1 := fun r => [(0, r)])  (pc := 20) dX4_takeByte_20 ml_RX4_52 (by decide) s0_267 rfl (by decide) (Nat.le_of_ble_eq_true rfl) rfl (fun _ => rfl) (by decide) (by decide) (Nat.le_of_ble_eq_true rfl) rfl ?_
            refine a_aload_n (pc := 0) dX4_failAt_0 (by decide) rfl ?_
            refine a_iload_n (pc := 1) dX4_failAt_1 rfl ?_
            refine a_putI (y := 6) (pc := 2) dX4_failAt_2 fl_RX4_32 (by decide) s0_267 rfl rfl (tyX4_ok 6 (by decide)) rfl ?_
            refine a_iconst (pc := 5) dX4_failAt_5 (by decide) ?_
            refine a_iretz (pc := 6) dX4_failAt_6 rfl rfl (Nat.le_of_ble_eq_true rfl) (by decide) ⟨rfl, ?_⟩
            refine a_iretz (pc := 23) dX4_takeByte_23 rfl rfl (Nat.le_of_ble_eq_true rfl) (by decide) ⟨rfl, ?_⟩
            refine a_if_ne (tgt := 61) (pc := 50) dX4_readTable_50 (by decide) (fun hc => absurd rfl hc) (fun _ => ?_)
            refine a_bipush (pc := 53) dX4_readTable_53 (by decide) (by decide +kernel) ?_
            refine a_aload_n (pc := 55) dX4_readTable_55 (by decide) rfl ?_
            refine a_getI (y := 6) (pc := 56) dX4_readTable_56 fl_RX4_32 (by decide) s0_267 (Or.inl rfl) rfl ?_
            refine a_eq (y := M4 267 2) rfl ?_
            have ho10 := h.1
            replace h := h.2
            refine a_isub (pc := 59) dX4_readTable_59 ho10 ?_
            exact a_ireti (pc := 60) dX4_readTable_60 rfl rfl (Nat.le_of_ble_eq_true rfl) ⟨rfl, h⟩
          · replace h := h.2 hc9
            refine a_aload_n (pc := 12) dX7_byteAt_12 (by decide) rfl ?_
            refine a_getR (y := 264) (pc := 13) dX7_byteAt_13 fl_RX7_13 (by decide) s0_263 rfl rfl ?_
            refine a_iload_n (pc := 16) dX7_byteAt_16 rfl ?_
            have ho11 := h.1
            replace h := h.2
            refine a_iald (pc := 17) dX7_byteAt_17 (by decide) s0_264 ho11.1 ho11.2 ?_
            refine a_goto (tgt := 22) (pc := 18) dX7_byteAt_18 (by decide) ?_
            refine a_ireti (pc := 22) dX7_byteAt_22 rfl rfl (Nat.le_of_ble_eq_true rfl) ⟨rfl, ?_⟩
            refine a_iload_n (pc := 11) dX4_takeByte_11 rfl ?_
            refine a_icmp_eq (tgt := 24) (pc := 12) dX4_takeByte_12 (by decide) (fun hc12 => ?_) (fun hc12 => ?_)
            · replace h := h.1 hc12
              refine a_aload_n (pc := 24) dX4_takeByte_24 (by decide) rfl ?_
              refine a_dup (pc := 25) dX4_takeByte_25 n21 ?_
              refine a_getI (y := 2) (pc := 26) dX4_takeByte_26 fl_RX4_19 (by decide) s0_267 (Or.inl rfl) rfl ?_
              refine a_iconst (pc := 29) dX4_takeByte_29 (by decide) ?_
              have ho13 := h.1
              replace h := h.2
              refine a_iadd (pc := 30) dX4_takeByte_30 ho13 ?_
              refine a_putI (y := 2) (pc := 31) dX4_takeByte_31 fl_RX4_19 (by decide) s0_267 rfl rfl (tyX4_ok 2 (by decide)) rfl ?_
              refine a_iconst (pc := 34) dX4_takeByte_34 (by decide) ?_
              refine a_iretz (pc := 35) dX4_takeByte_35 rfl rfl (Nat.le_of_ble_eq_true rfl) (by decide) ⟨rfl, ?_⟩
              refine a_if_ne (tgt := 61) (pc := 50) dX4_readTable_50 (by decide) (fun _ => ?_) (fun hc => absurd hc (by decide))
              have ho14 := h.1
              replace h := h.2
              refine a_iinc (ls1 := [(2, 267), (0, l1 + 1)]) (pc := 61) dX4_readTable_61 rfl (by decide) (hp1 (t := 2) rfl (by decide)) ho14 rfl ?_
              refine a_goto (tgt := 7) (pc := 64) dX4_readTable_64 (by decide) ?_
              exact h
            · replace h := h.2 hc12
              refine a_aload_n (pc := 15) dX4_takeByte_15 (by decide) rfl ?_
              refine a_aload_n (pc := 16) dX4_takeByte_16 (by decide) rfl ?_
              refine a_getI (y := 2) (pc := 17) dX4_takeByte_17 fl_RX4_19 (by decide) s0_267 (Or.inl rfl) rfl ?_
              refine p_inlV (Ex := _) (As := [(0, M4 267 2)]) (st := []) (st1 := fun r => [(0, r)])  (pc := 20) dX4_takeByte_20 ml_RX4_52 (by decide) s0_267 rfl (by decide) (Nat.le_of_ble_eq_true rfl) rfl (fun _ => rfl) (by decide) (by decide) (Nat.le_of_ble_eq_true rfl) rfl ?_
              refine a_aload_n (pc := 0) dX4_failAt_0 (by decide) rfl ?_
              refine a_iload_n (pc := 1) dX4_failAt_1 rfl ?_
              refine a_putI (y := 6) (pc := 2) dX4_failAt_2 fl_RX4_32 (by decide) s0_267 rfl rfl (tyX4_ok 6 (by decide)) rfl ?_
              refine a_iconst (pc := 5) dX4_failAt_5 (by decide) ?_
              refine a_iretz (pc := 6) dX4_failAt_6 rfl rfl (Nat.le_of_ble_eq_true rfl) (by decide) ⟨rfl, ?_⟩
              refine a_iretz (pc := 23) dX4_takeByte_23 rfl rfl (Nat.le_of_ble_eq_true rfl) (by decide) ⟨rfl, ?_⟩
              refine a_if_ne (tgt := 61) (pc := 50) dX4_readTable_50 (by decide) (fun hc => absurd rfl hc) (fun _ => ?_)
              refine a_bipush (pc := 53) dX4_readTable_53 (by decide) (by decide +kernel) ?_
              refine a_aload_n (pc := 55) dX4_readTable_55 (by decide) rfl ?_
              refine a_getI (y := 6) (pc := 56) dX4_readTable_56 fl_RX4_32 (by decide) s0_267 (Or.inl rfl) rfl ?_
              refine a_eq (y := M4 267 2) rfl ?_
              have ho15 := h.1
              replace h := h.2
              refine a_isub (pc := 59) dX4_readTable_59 ho15 ?_
              exact a_ireti (pc := 60) dX4_readTable_60 rfl rfl (Nat.le_of_ble_eq_true rfl) ⟨rfl, h⟩
      · replace h := h.2 hc6
        refine a_iload_n (pc := 42) dX4_readTable_42 rfl ?_
        exact a_ireti (pc := 43) dX4_readTable_43 rfl rfl (Nat.le_of_ble_eq_true rfl) ⟨rfl, h⟩
    · replace h := h.2 hc5
      refine a_bipush (pc := 20) dX4_readTable_20 (by decide) (by decide +kernel) ?_
      refine a_aload_n (pc := 22) dX4_readTable_22 (by decide) rfl ?_
      refine a_getI (y := 6) (pc := 23) dX4_readTable_23 fl_RX4_32 (by decide) s0_267 (Or.inl rfl) rfl ?_
      have ho16 := h.1
      replace h := h.2
      refine a_isub (pc := 26) dX4_readTable_26 ho16 ?_
      exact a_ireti (pc := 27) dX4_readTable_27 rfl rfl (Nat.le_of_ble_eq_true rfl) ⟨rfl, h⟩
theorem E_Reader_readTable {M : Mem} {Q : Int → Mem → Prop} (h : AW mX4_readTable 0 [(2, 267), (9, 0)] M Q) : Calls mX4_readTable [(2, 267)] S0 M Q := calls_of (by decide) (by decide) (Nat.le_of_ble_eq_true rfl) rfl h
set_option maxRecDepth 100000 in
set_option maxHeartbeats 4000000 in
theorem B_Search_arrivalWithoutStop_0 {l1 l2 l3 l4 l5 : Int} {M : Mem} {Q : Int → Mem → Prop} (h : Calls mX6_run [(2, 229), (0, l1), (0, l2), (0, l4)] S0 (up2 M 229 5 l5) (fun r1 M2 => ((0 : Int) ≤ l4 ∧ l4 < 7) ∧ ((0 : Int) ≤ l3 ∧ l3 < 12) ∧ Q ((up2 (up2 (up2 M2 229 3 (-1)) 229 4 (-1)) 229 5 (-1)) (231 + l4) l3) (up2 (up2 (up2 M2 229 3 (-1)) 229 4 (-1)) 229 5 (-1)))) : AW mX6_arrivalWithoutStop 0 [(2, 229), (0, l1), (0, l2), (0, l3), (0, l4), (0, l5)] M Q := by
  refine a_aload_n (pc := 0) dX6_arrivalWithoutStop_0 (by decide) rfl ?_
  refine a_iload (pc := 1) dX6_arrivalWithoutStop_1 rfl ?_
  refine a_putI (y := 5) (pc := 3) dX6_arrivalWithoutStop_3 fl_RX6_33 (by decide) s0_229 rfl rfl (tyX6_ok 5 (by decide)) rfl ?_
  refine a_aload_n (pc := 6) dX6_arrivalWithoutStop_6 (by decide) rfl ?_
  refine a_iload_n (pc := 7) dX6_arrivalWithoutStop_7 rfl ?_
  refine a_iload_n (pc := 8) dX6_arrivalWithoutStop_8 rfl ?_
  refine a_iload (pc := 9) dX6_arrivalWithoutStop_9 rfl ?_
  refine p_callV (As := [(0, l1), (0, l2), (0, l4)]) (st := []) (st1 := fun r => [])  (pc := 11) dX6_arrivalWithoutStop_11 ml_RX6_36 (by decide) s0_229 rfl (by decide) (Nat.le_of_ble_eq_true rfl) rfl (fun _ => rfl) h (fun r1 M2 h => ?_)
  refine a_aload_n (pc := 14) dX6_arrivalWithoutStop_14 (by decide) rfl ?_
  refine p_inlV (Ex := _) (As := []) (st := []) (st1 := fun r => [])  (pc := 15) dX6_arrivalWithoutStop_15 ml_RX6_23 (by decide) s0_229 rfl (by decide) (Nat.le_of_ble_eq_true rfl) rfl (fun _ => rfl) (by decide) (by decide) (Nat.le_of_ble_eq_true rfl) rfl ?_
  refine a_aload_n (pc := 0) dX6_loseNothing_0 (by decide) rfl ?_
  refine a_iconst (pc := 1) dX6_loseNothing_1 (by decide) ?_
  refine a_putI (y := 3) (pc := 2) dX6_loseNothing_2 fl_RX6_26 (by decide) s0_229 rfl rfl (tyX6_ok 3 (by decide)) rfl ?_
  refine a_aload_n (pc := 5) dX6_loseNothing_5 (by decide) rfl ?_
  refine a_iconst (pc := 6) dX6_loseNothing_6 (by decide) ?_
  refine a_putI (y := 4) (pc := 7) dX6_loseNothing_7 fl_RX6_30 (by decide) s0_229 rfl rfl (tyX6_ok 4 (by decide)) rfl ?_
  refine a_aload_n (pc := 10) dX6_loseNothing_10 (by decide) rfl ?_
  refine a_iconst (pc := 11) dX6_loseNothing_11 (by decide) ?_
  refine a_putI (y := 5) (pc := 12) dX6_loseNothing_12 fl_RX6_33 (by decide) s0_229 rfl rfl (tyX6_ok 5 (by decide)) rfl ?_
  refine a_vret (pc := 15) dX6_loseNothing_15 rfl rfl (Nat.le_of_ble_eq_true rfl) ⟨rfl, ?_⟩
  refine a_aload_n (pc := 18) dX6_arrivalWithoutStop_18 (by decide) rfl ?_
  refine a_getR (y := 230) (pc := 19) dX6_arrivalWithoutStop_19 fl_RX6_17 (by decide) s0_229 rfl rfl ?_
  refine a_iload (pc := 22) dX6_arrivalWithoutStop_22 rfl ?_
  have ho3 := h.1
  replace h := h.2
  have hr4 := rw_230 l4 ho3.1 ho3.2
  refine a_aald (y := 231 + l4) (pc := 24) dX6_arrivalWithoutStop_24 (by decide) s0_230 ho3.1 ho3.2 (by omega) ?_
  refine a_iload_n (pc := 25) dX6_arrivalWithoutStop_25 rfl ?_
  have ho5 := h.1
  replace h := h.2
  refine a_iald (pc := 26) dX6_arrivalWithoutStop_26 hr4.1 hr4.2 ho5.1 ho5.2 ?_
  exact a_ireti (pc := 27) dX6_arrivalWithoutStop_27 rfl rfl (Nat.le_of_ble_eq_true rfl) ⟨rfl, h⟩
theorem E_Search_arrivalWithoutStop {l1 l2 l3 l4 l5 : Int} {M : Mem} {Q : Int → Mem → Prop} (h : AW mX6_arrivalWithoutStop 0 [(2, 229), (0, l1), (0, l2), (0, l3), (0, l4), (0, l5)] M Q) : Calls mX6_arrivalWithoutStop [(2, 229), (0, l1), (0, l2), (0, l3), (0, l4), (0, l5)] S0 M Q := calls_of (by decide) (by decide) (Nat.le_of_ble_eq_true rfl) rfl h
set_option maxRecDepth 100000 in
set_option maxHeartbeats 4000000 in
theorem B_Search_arrivalWithoutTrip_0 {l1 l2 l3 l4 l5 l6 : Int} {M : Mem} {Q : Int → Mem → Prop} (h : Calls mX6_run [(2, 229), (0, l1), (0, l2), (0, l4)] S0 (up2 (up2 M 229 3 l5) 229 4 l6) (fun r1 M2 => ((0 : Int) ≤ l4 ∧ l4 < 7) ∧ ((0 : Int) ≤ l3 ∧ l3 < 12) ∧ Q ((up2 (up2 (up2 M2 229 3 (-1)) 229 4 (-1)) 229 5 (-1)) (231 + l4) l3) (up2 (up2 (up2 M2 229 3 (-1)) 229 4 (-1)) 229 5 (-1)))) : AW mX6_arrivalWithoutTrip 0 [(2, 229), (0, l1), (0, l2), (0, l3), (0, l4), (0, l5), (0, l6)] M Q := by
  refine a_aload_n (pc := 0) dX6_arrivalWithoutTrip_0 (by decide) rfl ?_
  refine a_iload (pc := 1) dX6_arrivalWithoutTrip_1 rfl ?_
  refine a_putI (y := 3) (pc := 3) dX6_arrivalWithoutTrip_3 fl_RX6_26 (by decide) s0_229 rfl rfl (tyX6_ok 3 (by decide)) rfl ?_
  refine a_aload_n (pc := 6) dX6_arrivalWithoutTrip_6 (by decide) rfl ?_
  refine a_iload (pc := 7) dX6_arrivalWithoutTrip_7 rfl ?_
  refine a_putI (y := 4) (pc := 9) dX6_arrivalWithoutTrip_9 fl_RX6_30 (by decide) s0_229 rfl rfl (tyX6_ok 4 (by decide)) rfl ?_
  refine a_aload_n (pc := 12) dX6_arrivalWithoutTrip_12 (by decide) rfl ?_
  refine a_iload_n (pc := 13) dX6_arrivalWithoutTrip_13 rfl ?_
  refine a_iload_n (pc := 14) dX6_arrivalWithoutTrip_14 rfl ?_
  refine a_iload (pc := 15) dX6_arrivalWithoutTrip_15 rfl ?_
  refine p_callV (As := [(0, l1), (0, l2), (0, l4)]) (st := []) (st1 := fun r => [])  (pc := 17) dX6_arrivalWithoutTrip_17 ml_RX6_36 (by decide) s0_229 rfl (by decide) (Nat.le_of_ble_eq_true rfl) rfl (fun _ => rfl) h (fun r1 M2 h => ?_)
  refine a_aload_n (pc := 20) dX6_arrivalWithoutTrip_20 (by decide) rfl ?_
  refine p_inlV (Ex := _) (As := []) (st := []) (st1 := fun r => [])  (pc := 21) dX6_arrivalWithoutTrip_21 ml_RX6_23 (by decide) s0_229 rfl (by decide) (Nat.le_of_ble_eq_true rfl) rfl (fun _ => rfl) (by decide) (by decide) (Nat.le_of_ble_eq_true rfl) rfl ?_
  refine a_aload_n (pc := 0) dX6_loseNothing_0 (by decide) rfl ?_
  refine a_iconst (pc := 1) dX6_loseNothing_1 (by decide) ?_
  refine a_putI (y := 3) (pc := 2) dX6_loseNothing_2 fl_RX6_26 (by decide) s0_229 rfl rfl (tyX6_ok 3 (by decide)) rfl ?_
  refine a_aload_n (pc := 5) dX6_loseNothing_5 (by decide) rfl ?_
  refine a_iconst (pc := 6) dX6_loseNothing_6 (by decide) ?_
  refine a_putI (y := 4) (pc := 7) dX6_loseNothing_7 fl_RX6_30 (by decide) s0_229 rfl rfl (tyX6_ok 4 (by decide)) rfl ?_
  refine a_aload_n (pc := 10) dX6_loseNothing_10 (by decide) rfl ?_
  refine a_iconst (pc := 11) dX6_loseNothing_11 (by decide) ?_
  refine a_putI (y := 5) (pc := 12) dX6_loseNothing_12 fl_RX6_33 (by decide) s0_229 rfl rfl (tyX6_ok 5 (by decide)) rfl ?_
  refine a_vret (pc := 15) dX6_loseNothing_15 rfl rfl (Nat.le_of_ble_eq_true rfl) ⟨rfl, ?_⟩
  refine a_aload_n (pc := 24) dX6_arrivalWithoutTrip_24 (by decide) rfl ?_
  refine a_getR (y := 230) (pc := 25) dX6_arrivalWithoutTrip_25 fl_RX6_17 (by decide) s0_229 rfl rfl ?_
  refine a_iload (pc := 28) dX6_arrivalWithoutTrip_28 rfl ?_
  have ho3 := h.1
  replace h := h.2
  have hr4 := rw_230 l4 ho3.1 ho3.2
  refine a_aald (y := 231 + l4) (pc := 30) dX6_arrivalWithoutTrip_30 (by decide) s0_230 ho3.1 ho3.2 (by omega) ?_
  refine a_iload_n (pc := 31) dX6_arrivalWithoutTrip_31 rfl ?_
  have ho5 := h.1
  replace h := h.2
  refine a_iald (pc := 32) dX6_arrivalWithoutTrip_32 hr4.1 hr4.2 ho5.1 ho5.2 ?_
  exact a_ireti (pc := 33) dX6_arrivalWithoutTrip_33 rfl rfl (Nat.le_of_ble_eq_true rfl) ⟨rfl, h⟩
theorem E_Search_arrivalWithoutTrip {l1 l2 l3 l4 l5 l6 : Int} {M : Mem} {Q : Int → Mem → Prop} (h : AW mX6_arrivalWithoutTrip 0 [(2, 229), (0, l1), (0, l2), (0, l3), (0, l4), (0, l5), (0, l6)] M Q) : Calls mX6_arrivalWithoutTrip [(2, 229), (0, l1), (0, l2), (0, l3), (0, l4), (0, l5), (0, l6)] S0 M Q := calls_of (by decide) (by decide) (Nat.le_of_ble_eq_true rfl) rfl h
set_option maxRecDepth 100000 in
set_option maxHeartbeats 4000000 in
theorem B_Route_trace_0 {l1 l2 l3 l4 : Int} {M : Mem} {Q : Int → Mem → Prop} (h : Calls mX6_run [(2, 229), (0, l1), (0, l2), (0, l4)] S0 (up2 M 246 3 0) (fun r1 M2 => ((0 : Int) ≤ l4 ∧ l4 < 7) ∧ ((0 : Int) ≤ l3 ∧ l3 < 12) ∧ ((¬ (M2 (231 + l4) l3) = 10000 → AW mX5_trace 43 [(2, 246), (0, l1), (0, l2), (9, 0), (9, 0), (0, l3), (0, l4), (9, 0)] M2 Q) ∧ ((M2 (231 + l4) l3) = 10000 → Q 0 M2)))) : AW mX5_trace 0 [(2, 246), (0, l1), (0, l2), (0, l3), (0, l4), (9, 0), (9, 0), (9, 0)] M Q := by
  refine a_aload_n (pc := 0) dX5_trace_0 (by decide) rfl ?_
  refine a_iconst (pc := 1) dX5_trace_1 (by decide) ?_
  refine a_putI (y := 3) (pc := 2) dX5_trace_2 fl_RX5_24 (by decide) s0_246 rfl rfl (tyX5_ok 3 (by decide)) rfl ?_
  refine a_aload_n (pc := 5) dX5_trace_5 (by decide) rfl ?_
  refine a_getR (y := 229) (pc := 6) dX5_trace_6 fl_RX5_15 (by decide) s0_246 rfl rfl ?_
  refine a_iload_n (pc := 9) dX5_trace_9 rfl ?_
  refine a_iload_n (pc := 10) dX5_trace_10 rfl ?_
  refine a_iload (pc := 11) dX5_trace_11 rfl ?_
  refine p_callV (As := [(0, l1), (0, l2), (0, l4)]) (st := []) (st1 := fun r => [])  (pc := 13) dX5_trace_13 ml_RX5_37 (by decide) s0_229 rfl (by decide) (Nat.le_of_ble_eq_true rfl) rfl (fun _ => rfl) h (fun r1 M2 h => ?_)
  refine a_aload_n (pc := 16) dX5_trace_16 (by decide) rfl ?_
  refine a_getR (y := 229) (pc := 17) dX5_trace_17 fl_RX5_15 (by decide) s0_246 rfl rfl ?_
  refine a_getR (y := 230) (pc := 20) dX5_trace_20 fl_RX5_43 (by decide) s0_229 rfl rfl ?_
  refine a_iload (pc := 23) dX5_trace_23 rfl ?_
  have ho3 := h.1
  replace h := h.2
  have hr4 := rw_230 l4 ho3.1 ho3.2
  refine a_aald (y := 231 + l4) (pc := 25) dX5_trace_25 (by decide) s0_230 ho3.1 ho3.2 (by omega) ?_
  refine a_iload_n (pc := 26) dX5_trace_26 rfl ?_
  have ho5 := h.1
  replace h := h.2
  refine a_iald (pc := 27) dX5_trace_27 hr4.1 hr4.2 ho5.1 ho5.2 ?_
  refine a_sipush (pc := 28) dX5_trace_28 (by decide) (by decide +kernel) ?_
  refine a_icmp_ne (tgt := 36) (pc := 31) dX5_trace_31 (by decide) (fun hc6 => ?_) (fun hc6 => ?_)
  · replace h := h.1 hc6
    refine a_iload_n (pc := 36) dX5_trace_36 rfl ?_
    refine a_istore (ls1 := [(2, 246), (0, l1), (0, l2), (0, l3), (0, l4), (0, l3), (9, 0), (9, 0)]) (pc := 37) dX5_trace_37 (by decide) (hp1 (t := 0) rfl (by decide)) rfl ?_
    refine a_iload (pc := 39) dX5_trace_39 rfl ?_
    refine a_istore (ls1 := [(2, 246), (0, l1), (0, l2), (0, l3), (0, l4), (0, l3), (0, l4), (9, 0)]) (pc := 41) dX5_trace_41 (by decide) (hp1 (t := 0) rfl (by decide)) rfl ?_
    exact a_msk [true, true, true, false, false, true, true, true] rfl h
  · replace h := h.2 hc6
    refine a_iconst (pc := 34) dX5_trace_34 (by decide) ?_
    exact a_iretz (pc := 35) dX5_trace_35 rfl rfl (Nat.le_of_ble_eq_true rfl) (by decide) ⟨rfl, h⟩
set_option maxRecDepth 100000 in
set_option maxHeartbeats 4000000 in
theorem B_Route_trace_43 {l1 l2 l5 l6 : Int} {M : Mem} {Q : Int → Mem → Prop} (h : ((l6 < 0 → Q 1 M) ∧ (¬ (l6 < 0) → ((l5 = l1 → Q 1 M) ∧ (¬ l5 = l1 → ((0 : Int) ≤ l6 ∧ l6 < 7) ∧ ((0 : Int) ≤ l5 ∧ l5 < 12) ∧ Calls mX5_findRide [(2, 246), (0, l6), (0, l5), (0, M (231 + l6) l5)] S0 M (fun r6 M7 => ((r6 = 0 → Calls mX5_addWalk [(2, 246), (0, l6), (0, l1), (0, l2), (0, l5)] S0 M7 (fun r9 M10 => (-2147483648 ≤ l6 + (-1) ∧ l6 + (-1) ≤ 2147483647) ∧ AW mX5_trace 43 [(2, 246), (0, l1), (0, l2), (9, 0), (9, 0), (0, r9), (0, l6 + (-1)), (9, 0)] M10 Q)) ∧ (¬ r6 = 0 → Calls mX5_addRide [(2, 246), (0, l5)] S0 M7 (fun r12 M13 => (-2147483648 ≤ l6 + (-1) ∧ l6 + (-1) ≤ 2147483647) ∧ AW mX5_trace 43 [(2, 246), (0, l1), (0, l2), (9, 0), (9, 0), (0, r12), (0, l6 + (-1)), (9, 0)] M13 Q))))))))) : AW mX5_trace 43 [(2, 246), (0, l1), (0, l2), (9, 0), (9, 0), (0, l5), (0, l6), (9, 0)] M Q := by
  refine a_iload (pc := 43) dX5_trace_43 rfl ?_
  refine a_if_lt (tgt := 111) (pc := 45) dX5_trace_45 (by decide) (fun hc1 => ?_) (fun hc1 => ?_)
  · replace h := h.1 hc1
    refine a_iconst (pc := 111) dX5_trace_111 (by decide) ?_
    exact a_iretz (pc := 112) dX5_trace_112 rfl rfl (Nat.le_of_ble_eq_true rfl) (by decide) ⟨rfl, h⟩
  · replace h := h.2 hc1
    refine a_iload (pc := 48) dX5_trace_48 rfl ?_
    refine a_iload_n (pc := 50) dX5_trace_50 rfl ?_
    refine a_icmp_eq (tgt := 111) (pc := 51) dX5_trace_51 (by decide) (fun hc2 => ?_) (fun hc2 => ?_)
    · replace h := h.1 hc2
      refine a_iconst (pc := 111) dX5_trace_111 (by decide) ?_
      exact a_iretz (pc := 112) dX5_trace_112 rfl rfl (Nat.le_of_ble_eq_true rfl) (by decide) ⟨rfl, h⟩
    · replace h := h.2 hc2
      refine a_aload_n (pc := 54) dX5_trace_54 (by decide) rfl ?_
      refine a_getR (y := 229) (pc := 55) dX5_trace_55 fl_RX5_15 (by decide) s0_246 rfl rfl ?_
      refine a_getR (y := 230) (pc := 58) dX5_trace_58 fl_RX5_43 (by decide) s0_229 rfl rfl ?_
      refine a_iload (pc := 61) dX5_trace_61 rfl ?_
      have ho3 := h.1
      replace h := h.2
      have hr4 := rw_230 l6 ho3.1 ho3.2
      refine a_aald (y := 231 + l6) (pc := 63) dX5_trace_63 (by decide) s0_230 ho3.1 ho3.2 (by omega) ?_
      refine a_iload (pc := 64) dX5_trace_64 rfl ?_
      have ho5 := h.1
      replace h := h.2
      refine a_iald (pc := 66) dX5_trace_66 hr4.1 hr4.2 ho5.1 ho5.2 ?_
      refine a_istore (ls1 := [(2, 246), (0, l1), (0, l2), (9, 0), (9, 0), (0, l5), (0, l6), (0, M (231 + l6) l5)]) (pc := 67) dX5_trace_67 (by decide) (hp1 (t := 0) rfl (by decide)) rfl ?_
      refine a_aload_n (pc := 69) dX5_trace_69 (by decide) rfl ?_
      refine a_iload (pc := 70) dX5_trace_70 rfl ?_
      refine a_iload (pc := 72) dX5_trace_72 rfl ?_
      refine a_iload (pc := 74) dX5_trace_74 rfl ?_
      refine p_callV (As := [(0, l6), (0, l5), (0, M (231 + l6) l5)]) (st := []) (st1 := fun r => [(0, r)])  (pc := 76) dX5_trace_76 ml_RX5_46 (by decide) s0_246 rfl (by decide) (Nat.le_of_ble_eq_true rfl) rfl (fun _ => rfl) h (fun r6 M7 h => ?_)
      refine a_if_eq (tgt := 93) (pc := 79) dX5_trace_79 (by decide) (fun hc8 => ?_) (fun hc8 => ?_)
      · replace h := h.1 hc8
        refine a_aload_n (pc := 93) dX5_trace_93 (by decide) rfl ?_
        refine a_iload (pc := 94) dX5_trace_94 rfl ?_
        refine a_iload_n (pc := 96) dX5_trace_96 rfl ?_
        refine a_iload_n (pc := 97) dX5_trace_97 rfl ?_
        refine a_iload (pc := 98) dX5_trace_98 rfl ?_
        refine p_callV (As := [(0, l6), (0, l1), (0, l2), (0, l5)]) (st := []) (st1 := fun r => [(0, r)])  (pc := 100) dX5_trace_100 ml_RX5_54 (by decide) s0_246 rfl (by decide) (Nat.le_of_ble_eq_true rfl) rfl (fun _ => rfl) h (fun r9 M10 h => ?_)
        refine a_istore (ls1 := [(2, 246), (0, l1), (0, l2), (9, 0), (9, 0), (0, r9), (0, l6), (0, M (231 + l6) l5)]) (pc := 103) dX5_trace_103 (by decide) (hp1 (t := 9) rfl (by decide)) rfl ?_
        have ho11 := h.1
        replace h := h.2
        refine a_iinc (ls1 := [(2, 246), (0, l1), (0, l2), (9, 0), (9, 0), (0, r9), (0, l6 + (-1)), (0, M (231 + l6) l5)]) (pc := 105) dX5_trace_105 rfl (by decide) (hp1 (t := 0) rfl (by decide)) ho11 rfl ?_
        refine a_goto (tgt := 43) (pc := 108) dX5_trace_108 (by decide) ?_
        exact a_msk [true, true, true, true, true, true, true, false] rfl h
      · replace h := h.2 hc8
        refine a_aload_n (pc := 82) dX5_trace_82 (by decide) rfl ?_
        refine a_iload (pc := 83) dX5_trace_83 rfl ?_
        refine p_callV (As := [(0, l5)]) (st := []) (st1 := fun r => [(0, r)])  (pc := 85) dX5_trace_85 ml_RX5_50 (by decide) s0_246 rfl (by decide) (Nat.le_of_ble_eq_true rfl) rfl (fun _ => rfl) h (fun r12 M13 h => ?_)
        refine a_istore (ls1 := [(2, 246), (0, l1), (0, l2), (9, 0), (9, 0), (0, r12), (0, l6), (0, M (231 + l6) l5)]) (pc := 88) dX5_trace_88 (by decide) (hp1 (t := 9) rfl (by decide)) rfl ?_
        refine a_goto (tgt := 105) (pc := 90) dX5_trace_90 (by decide) ?_
        have ho14 := h.1
        replace h := h.2
        refine a_iinc (ls1 := [(2, 246), (0, l1), (0, l2), (9, 0), (9, 0), (0, r12), (0, l6 + (-1)), (0, M (231 + l6) l5)]) (pc := 105) dX5_trace_105 rfl (by decide) (hp1 (t := 0) rfl (by decide)) ho14 rfl ?_
        refine a_goto (tgt := 43) (pc := 108) dX5_trace_108 (by decide) ?_
        exact a_msk [true, true, true, true, true, true, true, false] rfl h
theorem E_Route_trace {l1 l2 l3 l4 : Int} {M : Mem} {Q : Int → Mem → Prop} (h : AW mX5_trace 0 [(2, 246), (0, l1), (0, l2), (0, l3), (0, l4), (9, 0), (9, 0), (9, 0)] M Q) : Calls mX5_trace [(2, 246), (0, l1), (0, l2), (0, l3), (0, l4)] S0 M Q := calls_of (by decide) (by decide) (Nat.le_of_ble_eq_true rfl) rfl h
