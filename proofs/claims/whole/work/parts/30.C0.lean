set_option maxRecDepth 100000 in
set_option maxHeartbeats 4000000 in
theorem B_C_clear_0 {M : Mem} {Q : Int → Mem → Prop} (h : Q (M 263 1) (up2 M 263 1 0)) : AW mX8_clear 0 [(2, 0), (9, 0)] M Q := by
  refine a_aload_n (pc := 0) dX8_clear_0 (by decide) rfl ?_
  refine a_getR (y := 263) (pc := 1) dX8_clear_1 fl_RX8_52 (by decide) s0_0 rfl rfl ?_
  refine a_getI (y := 1) (pc := 4) dX8_clear_4 fl_RX8_79 (by decide) s0_263 (Or.inl rfl) rfl ?_
  refine a_istore_n (ls1 := [(2, 0), (0, M 263 1)]) (pc := 7) dX8_clear_7 (by decide) (hp1 (t := 2) rfl (by decide)) rfl ?_
  refine a_aload_n (pc := 8) dX8_clear_8 (by decide) rfl ?_
  refine a_getR (y := 263) (pc := 9) dX8_clear_9 fl_RX8_52 (by decide) s0_0 rfl rfl ?_
  refine a_iconst (pc := 12) dX8_clear_12 (by decide) ?_
  refine a_putI (y := 1) (pc := 13) dX8_clear_13 fl_RX8_79 (by decide) s0_263 rfl rfl (tyX7_ok 1 (by decide)) rfl ?_
  refine a_iload_n (pc := 16) dX8_clear_16 rfl ?_
  exact a_ireti (pc := 17) dX8_clear_17 rfl rfl (Nat.le_of_ble_eq_true rfl) ⟨rfl, h⟩
theorem E_C_clear {M : Mem} {Q : Int → Mem → Prop} (h : AW mX8_clear 0 [(2, 0), (9, 0)] M Q) : Calls mX8_clear [(2, 0)] S0 M Q := calls_of (by decide) (by decide) (Nat.le_of_ble_eq_true rfl) rfl h
set_option maxRecDepth 100000 in
set_option maxHeartbeats 4000000 in
theorem B_C_foot_0 {l1 l2 : Int} {M : Mem} {Q : Int → Mem → Prop} (h : ((l1 < 0 → Q (-1) M) ∧ (¬ (l1 < 0) → ((12 ≤ l1 → Q (-1) M) ∧ (¬ (12 ≤ l1) → ((l2 < 0 → Q (-1) M) ∧ (¬ (l2 < 0) → ((12 ≤ l2 → Q (-1) M) ∧ (¬ (12 ≤ l2) → ((¬ l1 = l2 → ((0 : Int) ≤ l1 ∧ l1 < 12) ∧ ((0 : Int) ≤ l2 ∧ l2 < 12) ∧ ((¬ (M (65 + l1) l2) = 0 → Q (M (65 + l1) l2) M) ∧ ((M (65 + l1) l2) = 0 → Q (-5) M))) ∧ (l1 = l2 → Q (-1) M))))))))))) : AW mX8_foot 0 [(2, 0), (0, l1), (0, l2)] M Q := by
  refine a_iload_n (pc := 0) dX8_foot_0 rfl ?_
  refine p_inlS (Ex := _) (As := [(0, l1)]) (st := []) (st1 := fun r => [(0, r)])  (pc := 1) dX8_foot_1 ml_RX8_129 (by decide) (Nat.le_of_ble_eq_true rfl) rfl (fun _ => rfl) (by decide) (by decide) (Nat.le_of_ble_eq_true rfl) rfl ?_
  refine a_iload_n (pc := 0) dX8_isStop_0 rfl ?_
  refine a_if_lt (tgt := 14) (pc := 1) dX8_isStop_1 (by decide) (fun hc1 => ?_) (fun hc1 => ?_)
  · replace h := h.1 hc1
    refine a_iconst (pc := 14) dX8_isStop_14 (by decide) ?_
    refine a_iretz (pc := 15) dX8_isStop_15 rfl rfl (Nat.le_of_ble_eq_true rfl) (by decide) ⟨rfl, ?_⟩
    refine a_if_eq (tgt := 19) (pc := 4) dX8_foot_4 (by decide) (fun _ => ?_) (fun hc => absurd (by decide) hc)
    refine a_iconst (pc := 19) dX8_foot_19 (by decide) ?_
    exact a_ireti (pc := 20) dX8_foot_20 rfl rfl (Nat.le_of_ble_eq_true rfl) ⟨rfl, h⟩
  · replace h := h.2 hc1
    refine a_iload_n (pc := 4) dX8_isStop_4 rfl ?_
    refine a_bipush (pc := 5) dX8_isStop_5 (by decide) (by decide +kernel) ?_
    refine a_icmp_ge (tgt := 14) (pc := 7) dX8_isStop_7 (by decide) (fun hc2 => ?_) (fun hc2 => ?_)
    · replace h := h.1 hc2
      refine a_iconst (pc := 14) dX8_isStop_14 (by decide) ?_
      refine a_iretz (pc := 15) dX8_isStop_15 rfl rfl (Nat.le_of_ble_eq_true rfl) (by decide) ⟨rfl, ?_⟩
      refine a_if_eq (tgt := 19) (pc := 4) dX8_foot_4 (by decide) (fun _ => ?_) (fun hc => absurd (by decide) hc)
      refine a_iconst (pc := 19) dX8_foot_19 (by decide) ?_
      exact a_ireti (pc := 20) dX8_foot_20 rfl rfl (Nat.le_of_ble_eq_true rfl) ⟨rfl, h⟩
    · replace h := h.2 hc2
      refine a_iconst (pc := 10) dX8_isStop_10 (by decide) ?_
      refine a_goto (tgt := 15) (pc := 11) dX8_isStop_11 (by decide) ?_
      refine a_iretz (pc := 15) dX8_isStop_15 rfl rfl (Nat.le_of_ble_eq_true rfl) (by decide) ⟨rfl, ?_⟩
      refine a_if_eq (tgt := 19) (pc := 4) dX8_foot_4 (by decide) (fun hc => absurd hc (by decide)) (fun _ => ?_)
      refine a_iload_n (pc := 7) dX8_foot_7 rfl ?_
      refine p_inlS (Ex := _) (As := [(0, l2)]) (st := []) (st1 := fun r => [(0, r)])  (pc := 8) dX8_foot_8 ml_RX8_129 (by decide) (Nat.le_of_ble_eq_true rfl) rfl (fun _ => rfl) (by decide) (by decide) (Nat.le_of_ble_eq_true rfl) rfl ?_
      refine a_iload_n (pc := 0) dX8_isStop_0 rfl ?_
      refine a_if_lt (tgt := 14) (pc := 1) dX8_isStop_1 (by decide) (fun hc3 => ?_) (fun hc3 => ?_)
      · replace h := h.1 hc3
        refine a_iconst (pc := 14) dX8_isStop_14 (by decide) ?_
        refine a_iretz (pc := 15) dX8_isStop_15 rfl rfl (Nat.le_of_ble_eq_true rfl) (by decide) ⟨rfl, ?_⟩
        refine a_if_eq (tgt := 19) (pc := 11) dX8_foot_11 (by decide) (fun _ => ?_) (fun hc => absurd (by decide) hc)
        refine a_iconst (pc := 19) dX8_foot_19 (by decide) ?_
        exact a_ireti (pc := 20) dX8_foot_20 rfl rfl (Nat.le_of_ble_eq_true rfl) ⟨rfl, h⟩
      · replace h := h.2 hc3
        refine a_iload_n (pc := 4) dX8_isStop_4 rfl ?_
        refine a_bipush (pc := 5) dX8_isStop_5 (by decide) (by decide +kernel) ?_
        refine a_icmp_ge (tgt := 14) (pc := 7) dX8_isStop_7 (by decide) (fun hc4 => ?_) (fun hc4 => ?_)
        · replace h := h.1 hc4
          refine a_iconst (pc := 14) dX8_isStop_14 (by decide) ?_
          refine a_iretz (pc := 15) dX8_isStop_15 rfl rfl (Nat.le_of_ble_eq_true rfl) (by decide) ⟨rfl, ?_⟩
          refine a_if_eq (tgt := 19) (pc := 11) dX8_foot_11 (by decide) (fun _ => ?_) (fun hc => absurd (by decide) hc)
          refine a_iconst (pc := 19) dX8_foot_19 (by decide) ?_
          exact a_ireti (pc := 20) dX8_foot_20 rfl rfl (Nat.le_of_ble_eq_true rfl) ⟨rfl, h⟩
        · replace h := h.2 hc4
          refine a_iconst (pc := 10) dX8_isStop_10 (by decide) ?_
          refine a_goto (tgt := 15) (pc := 11) dX8_isStop_11 (by decide) ?_
          refine a_iretz (pc := 15) dX8_isStop_15 rfl rfl (Nat.le_of_ble_eq_true rfl) (by decide) ⟨rfl, ?_⟩
          refine a_if_eq (tgt := 19) (pc := 11) dX8_foot_11 (by decide) (fun hc => absurd hc (by decide)) (fun _ => ?_)
          refine a_iload_n (pc := 14) dX8_foot_14 rfl ?_
          refine a_iload_n (pc := 15) dX8_foot_15 rfl ?_
          refine a_icmp_ne (tgt := 21) (pc := 16) dX8_foot_16 (by decide) (fun hc5 => ?_) (fun hc5 => ?_)
          · replace h := h.1 hc5
            refine a_aload_n (pc := 21) dX8_foot_21 (by decide) rfl ?_
            refine a_getR (y := 1) (pc := 22) dX8_foot_22 fl_RX8_10 (by decide) s0_0 rfl rfl ?_
            refine a_getR (y := 64) (pc := 25) dX8_foot_25 fl_RX8_132 (by decide) s0_1 rfl rfl ?_
            refine a_iload_n (pc := 28) dX8_foot_28 rfl ?_
            have ho6 := h.1
            replace h := h.2
            have hr7 := rw_64 l1 ho6.1 ho6.2
            refine a_aald (y := 65 + l1) (pc := 29) dX8_foot_29 (by decide) s0_64 ho6.1 ho6.2 (by omega) ?_
            refine a_iload_n (pc := 30) dX8_foot_30 rfl ?_
            have ho8 := h.1
            replace h := h.2
            refine a_iald (pc := 31) dX8_foot_31 hr7.1 hr7.2 ho8.1 ho8.2 ?_
            refine a_if_ne (tgt := 40) (pc := 32) dX8_foot_32 (by decide) (fun hc9 => ?_) (fun hc9 => ?_)
            · replace h := h.1 hc9
              refine a_aload_n (pc := 40) dX8_foot_40 (by decide) rfl ?_
              refine a_getR (y := 1) (pc := 41) dX8_foot_41 fl_RX8_10 (by decide) s0_0 rfl rfl ?_
              refine a_getR (y := 64) (pc := 44) dX8_foot_44 fl_RX8_132 (by decide) s0_1 rfl rfl ?_
              refine a_iload_n (pc := 47) dX8_foot_47 rfl ?_
              have hr10 := rw_64 l1 ho6.1 ho6.2
              refine a_aald (y := 65 + l1) (pc := 48) dX8_foot_48 (by decide) s0_64 ho6.1 ho6.2 (by omega) ?_
              refine a_iload_n (pc := 49) dX8_foot_49 rfl ?_
              refine a_iald (pc := 50) dX8_foot_50 hr10.1 hr10.2 ho8.1 ho8.2 ?_
              exact a_ireti (pc := 51) dX8_foot_51 rfl rfl (Nat.le_of_ble_eq_true rfl) ⟨rfl, h⟩
            · replace h := h.2 hc9
              refine a_bipush (pc := 35) dX8_foot_35 (by decide) (by decide +kernel) ?_
              refine a_goto (tgt := 51) (pc := 37) dX8_foot_37 (by decide) ?_
              exact a_ireti (pc := 51) dX8_foot_51 rfl rfl (Nat.le_of_ble_eq_true rfl) ⟨rfl, h⟩
          · replace h := h.2 hc5
            refine a_iconst (pc := 19) dX8_foot_19 (by decide) ?_
            exact a_ireti (pc := 20) dX8_foot_20 rfl rfl (Nat.le_of_ble_eq_true rfl) ⟨rfl, h⟩
theorem E_C_foot {l1 l2 : Int} {M : Mem} {Q : Int → Mem → Prop} (h : AW mX8_foot 0 [(2, 0), (0, l1), (0, l2)] M Q) : Calls mX8_foot [(2, 0), (0, l1), (0, l2)] S0 M Q := calls_of (by decide) (by decide) (Nat.le_of_ble_eq_true rfl) rfl h
set_option maxRecDepth 100000 in
set_option maxHeartbeats 4000000 in
theorem B_C_refusal_0 {l0 l1 l2 l3 : Int} {M : Mem} {Q : Int → Mem → Prop} (h : ((l0 < 0 → Q (-1) M) ∧ (¬ (l0 < 0) → ((12 ≤ l0 → Q (-1) M) ∧ (¬ (12 ≤ l0) → ((l2 < 0 → Q (-1) M) ∧ (¬ (l2 < 0) → ((12 ≤ l2 → Q (-1) M) ∧ (¬ (12 ≤ l2) → ((l1 < 0 → Q (-2) M) ∧ (¬ (l1 < 0) → ((1999 < l1 → Q (-2) M) ∧ (¬ (1999 < l1) → ((l3 < 0 → Q (-2) M) ∧ (¬ (l3 < 0) → ((6 < l3 → Q (-2) M) ∧ (¬ (6 < l3) → Q 0 M))))))))))))))))) : AW mX8_refusal 0 [(0, l0), (0, l1), (0, l2), (0, l3)] M Q := by
  refine a_iload_n (pc := 0) dX8_refusal_0 rfl ?_
  refine p_inlS (Ex := _) (As := [(0, l0)]) (st := []) (st1 := fun r => [(0, r)])  (pc := 1) dX8_refusal_1 ml_RX8_129 (by decide) (Nat.le_of_ble_eq_true rfl) rfl (fun _ => rfl) (by decide) (by decide) (Nat.le_of_ble_eq_true rfl) rfl ?_
  refine a_iload_n (pc := 0) dX8_isStop_0 rfl ?_
  refine a_if_lt (tgt := 14) (pc := 1) dX8_isStop_1 (by decide) (fun hc1 => ?_) (fun hc1 => ?_)
  · replace h := h.1 hc1
    refine a_iconst (pc := 14) dX8_isStop_14 (by decide) ?_
    refine a_iretz (pc := 15) dX8_isStop_15 rfl rfl (Nat.le_of_ble_eq_true rfl) (by decide) ⟨rfl, ?_⟩
    refine a_if_eq (tgt := 14) (pc := 4) dX8_refusal_4 (by decide) (fun _ => ?_) (fun hc => absurd (by decide) hc)
    refine a_iconst (pc := 14) dX8_refusal_14 (by decide) ?_
    exact a_ireti (pc := 15) dX8_refusal_15 rfl rfl (Nat.le_of_ble_eq_true rfl) ⟨rfl, h⟩
  · replace h := h.2 hc1
    refine a_iload_n (pc := 4) dX8_isStop_4 rfl ?_
    refine a_bipush (pc := 5) dX8_isStop_5 (by decide) (by decide +kernel) ?_
    refine a_icmp_ge (tgt := 14) (pc := 7) dX8_isStop_7 (by decide) (fun hc2 => ?_) (fun hc2 => ?_)
    · replace h := h.1 hc2
      refine a_iconst (pc := 14) dX8_isStop_14 (by decide) ?_
      refine a_iretz (pc := 15) dX8_isStop_15 rfl rfl (Nat.le_of_ble_eq_true rfl) (by decide) ⟨rfl, ?_⟩
      refine a_if_eq (tgt := 14) (pc := 4) dX8_refusal_4 (by decide) (fun _ => ?_) (fun hc => absurd (by decide) hc)
      refine a_iconst (pc := 14) dX8_refusal_14 (by decide) ?_
      exact a_ireti (pc := 15) dX8_refusal_15 rfl rfl (Nat.le_of_ble_eq_true rfl) ⟨rfl, h⟩
    · replace h := h.2 hc2
      refine a_iconst (pc := 10) dX8_isStop_10 (by decide) ?_
      refine a_goto (tgt := 15) (pc := 11) dX8_isStop_11 (by decide) ?_
      refine a_iretz (pc := 15) dX8_isStop_15 rfl rfl (Nat.le_of_ble_eq_true rfl) (by decide) ⟨rfl, ?_⟩
      refine a_if_eq (tgt := 14) (pc := 4) dX8_refusal_4 (by decide) (fun hc => absurd hc (by decide)) (fun _ => ?_)
      refine a_iload_n (pc := 7) dX8_refusal_7 rfl ?_
      refine p_inlS (Ex := _) (As := [(0, l2)]) (st := []) (st1 := fun r => [(0, r)])  (pc := 8) dX8_refusal_8 ml_RX8_129 (by decide) (Nat.le_of_ble_eq_true rfl) rfl (fun _ => rfl) (by decide) (by decide) (Nat.le_of_ble_eq_true rfl) rfl ?_
      refine a_iload_n (pc := 0) dX8_isStop_0 rfl ?_
      refine a_if_lt (tgt := 14) (pc := 1) dX8_isStop_1 (by decide) (fun hc3 => ?_) (fun hc3 => ?_)
      · replace h := h.1 hc3
        refine a_iconst (pc := 14) dX8_isStop_14 (by decide) ?_
        refine a_iretz (pc := 15) dX8_isStop_15 rfl rfl (Nat.le_of_ble_eq_true rfl) (by decide) ⟨rfl, ?_⟩
        refine a_if_ne (tgt := 16) (pc := 11) dX8_refusal_11 (by decide) (fun hc => absurd rfl hc) (fun _ => ?_)
        refine a_iconst (pc := 14) dX8_refusal_14 (by decide) ?_
        exact a_ireti (pc := 15) dX8_refusal_15 rfl rfl (Nat.le_of_ble_eq_true rfl) ⟨rfl, h⟩
      · replace h := h.2 hc3
        refine a_iload_n (pc := 4) dX8_isStop_4 rfl ?_
        refine a_bipush (pc := 5) dX8_isStop_5 (by decide) (by decide +kernel) ?_
        refine a_icmp_ge (tgt := 14) (pc := 7) dX8_isStop_7 (by decide) (fun hc4 => ?_) (fun hc4 => ?_)
        · replace h := h.1 hc4
          refine a_iconst (pc := 14) dX8_isStop_14 (by decide) ?_
          refine a_iretz (pc := 15) dX8_isStop_15 rfl rfl (Nat.le_of_ble_eq_true rfl) (by decide) ⟨rfl, ?_⟩
          refine a_if_ne (tgt := 16) (pc := 11) dX8_refusal_11 (by decide) (fun hc => absurd rfl hc) (fun _ => ?_)
          refine a_iconst (pc := 14) dX8_refusal_14 (by decide) ?_
          exact a_ireti (pc := 15) dX8_refusal_15 rfl rfl (Nat.le_of_ble_eq_true rfl) ⟨rfl, h⟩
        · replace h := h.2 hc4
          refine a_iconst (pc := 10) dX8_isStop_10 (by decide) ?_
          refine a_goto (tgt := 15) (pc := 11) dX8_isStop_11 (by decide) ?_
          refine a_iretz (pc := 15) dX8_isStop_15 rfl rfl (Nat.le_of_ble_eq_true rfl) (by decide) ⟨rfl, ?_⟩
          refine a_if_ne (tgt := 16) (pc := 11) dX8_refusal_11 (by decide) (fun _ => ?_) (fun hc => absurd hc (by decide))
          refine a_iload_n (pc := 16) dX8_refusal_16 rfl ?_
          refine p_inlS (Ex := _) (As := [(0, l1)]) (st := []) (st1 := fun r => [(0, r)])  (pc := 17) dX8_refusal_17 ml_RX8_178 (by decide) (Nat.le_of_ble_eq_true rfl) rfl (fun _ => rfl) (by decide) (by decide) (Nat.le_of_ble_eq_true rfl) rfl ?_
          refine a_iload_n (pc := 0) dX8_isMinute_0 rfl ?_
          refine a_if_lt (tgt := 15) (pc := 1) dX8_isMinute_1 (by decide) (fun hc5 => ?_) (fun hc5 => ?_)
          · replace h := h.1 hc5
            refine a_iconst (pc := 15) dX8_isMinute_15 (by decide) ?_
            refine a_iretz (pc := 16) dX8_isMinute_16 rfl rfl (Nat.le_of_ble_eq_true rfl) (by decide) ⟨rfl, ?_⟩
            refine a_if_eq (tgt := 30) (pc := 20) dX8_refusal_20 (by decide) (fun _ => ?_) (fun hc => absurd (by decide) hc)
            refine a_bipush (pc := 30) dX8_refusal_30 (by decide) (by decide +kernel) ?_
            exact a_ireti (pc := 32) dX8_refusal_32 rfl rfl (Nat.le_of_ble_eq_true rfl) ⟨rfl, h⟩
          · replace h := h.2 hc5
            refine a_iload_n (pc := 4) dX8_isMinute_4 rfl ?_
            refine a_sipush (pc := 5) dX8_isMinute_5 (by decide) (by decide +kernel) ?_
            refine a_icmp_gt (tgt := 15) (pc := 8) dX8_isMinute_8 (by decide) (fun hc6 => ?_) (fun hc6 => ?_)
            · replace h := h.1 hc6
              refine a_iconst (pc := 15) dX8_isMinute_15 (by decide) ?_
              refine a_iretz (pc := 16) dX8_isMinute_16 rfl rfl (Nat.le_of_ble_eq_true rfl) (by decide) ⟨rfl, ?_⟩
              refine a_if_eq (tgt := 30) (pc := 20) dX8_refusal_20 (by decide) (fun _ => ?_) (fun hc => absurd (by decide) hc)
              refine a_bipush (pc := 30) dX8_refusal_30 (by decide) (by decide +kernel) ?_
              exact a_ireti (pc := 32) dX8_refusal_32 rfl rfl (Nat.le_of_ble_eq_true rfl) ⟨rfl, h⟩
            · replace h := h.2 hc6
              refine a_iconst (pc := 11) dX8_isMinute_11 (by decide) ?_
              refine a_goto (tgt := 16) (pc := 12) dX8_isMinute_12 (by decide) ?_
              refine a_iretz (pc := 16) dX8_isMinute_16 rfl rfl (Nat.le_of_ble_eq_true rfl) (by decide) ⟨rfl, ?_⟩
              refine a_if_eq (tgt := 30) (pc := 20) dX8_refusal_20 (by decide) (fun hc => absurd hc (by decide)) (fun _ => ?_)
              refine a_iload_n (pc := 23) dX8_refusal_23 rfl ?_
              refine p_inlS (Ex := _) (As := [(0, l3)]) (st := []) (st1 := fun r => [(0, r)])  (pc := 24) dX8_refusal_24 ml_RX8_181 (by decide) (Nat.le_of_ble_eq_true rfl) rfl (fun _ => rfl) (by decide) (by decide) (Nat.le_of_ble_eq_true rfl) rfl ?_
              refine a_iload_n (pc := 0) dX8_isRides_0 rfl ?_
              refine a_if_lt (tgt := 14) (pc := 1) dX8_isRides_1 (by decide) (fun hc7 => ?_) (fun hc7 => ?_)
              · replace h := h.1 hc7
                refine a_iconst (pc := 14) dX8_isRides_14 (by decide) ?_
                refine a_iretz (pc := 15) dX8_isRides_15 rfl rfl (Nat.le_of_ble_eq_true rfl) (by decide) ⟨rfl, ?_⟩
                refine a_if_ne (tgt := 33) (pc := 27) dX8_refusal_27 (by decide) (fun hc => absurd rfl hc) (fun _ => ?_)
                refine a_bipush (pc := 30) dX8_refusal_30 (by decide) (by decide +kernel) ?_
                exact a_ireti (pc := 32) dX8_refusal_32 rfl rfl (Nat.le_of_ble_eq_true rfl) ⟨rfl, h⟩
              · replace h := h.2 hc7
                refine a_iload_n (pc := 4) dX8_isRides_4 rfl ?_
                refine a_bipush (pc := 5) dX8_isRides_5 (by decide) (by decide +kernel) ?_
                refine a_icmp_gt (tgt := 14) (pc := 7) dX8_isRides_7 (by decide) (fun hc8 => ?_) (fun hc8 => ?_)
                · replace h := h.1 hc8
                  refine a_iconst (pc := 14) dX8_isRides_14 (by decide) ?_
                  refine a_iretz (pc := 15) dX8_isRides_15 rfl rfl (Nat.le_of_ble_eq_true rfl) (by decide) ⟨rfl, ?_⟩
                  refine a_if_ne (tgt := 33) (pc := 27) dX8_refusal_27 (by decide) (fun hc => absurd rfl hc) (fun _ => ?_)
                  refine a_bipush (pc := 30) dX8_refusal_30 (by decide) (by decide +kernel) ?_
                  exact a_ireti (pc := 32) dX8_refusal_32 rfl rfl (Nat.le_of_ble_eq_true rfl) ⟨rfl, h⟩
                · replace h := h.2 hc8
                  refine a_iconst (pc := 10) dX8_isRides_10 (by decide) ?_
                  refine a_goto (tgt := 15) (pc := 11) dX8_isRides_11 (by decide) ?_
                  refine a_iretz (pc := 15) dX8_isRides_15 rfl rfl (Nat.le_of_ble_eq_true rfl) (by decide) ⟨rfl, ?_⟩
                  refine a_if_ne (tgt := 33) (pc := 27) dX8_refusal_27 (by decide) (fun _ => ?_) (fun hc => absurd hc (by decide))
                  refine a_iconst (pc := 33) dX8_refusal_33 (by decide) ?_
                  exact a_ireti (pc := 34) dX8_refusal_34 rfl rfl (Nat.le_of_ble_eq_true rfl) ⟨rfl, h⟩
theorem E_C_refusal {l0 l1 l2 l3 : Int} {M : Mem} {Q : Int → Mem → Prop} (h : AW mX8_refusal 0 [(0, l0), (0, l1), (0, l2), (0, l3)] M Q) : Calls mX8_refusal [(0, l0), (0, l1), (0, l2), (0, l3)] S0 M Q := calls_of (by decide) (by decide) (Nat.le_of_ble_eq_true rfl) rfl h
set_option maxRecDepth 100000 in
set_option maxHeartbeats 4000000 in
theorem B_C_drop_0 {l1 : Int} {M : Mem} {Q : Int → Mem → Prop} (h : ((l1 < 0 → Q (-1) M) ∧ (¬ (l1 < 0) → (((M 1 0) ≤ l1 → Q (-1) M) ∧ (¬ ((M 1 0) ≤ l1) → ((0 : Int) ≤ l1 ∧ l1 < 8) ∧ ((¬ (M 4 l1) = 0 → (-2147483648 ≤ (M 4 l1) - 1 ∧ (M 4 l1) - 1 ≤ 2147483647) ∧ Q ((M 4 l1) - 1) (up2 M 4 l1 ((M 4 l1) - 1))) ∧ ((M 4 l1) = 0 → Q (-3) M))))))) : AW mX8_drop 0 [(2, 0), (0, l1)] M Q := by
  refine a_aload_n (pc := 0) dX8_drop_0 (by decide) rfl ?_
  refine a_getR (y := 1) (pc := 1) dX8_drop_1 fl_RX8_10 (by decide) s0_0 rfl rfl ?_
  refine a_iload_n (pc := 4) dX8_drop_4 rfl ?_
  refine p_inlV (Ex := _) (As := [(0, l1)]) (st := []) (st1 := fun r => [(0, r)])  (pc := 5) dX8_drop_5 ml_RX8_93 (by decide) s0_1 rfl (by decide) (Nat.le_of_ble_eq_true rfl) rfl (fun _ => rfl) (by decide) (by decide) (Nat.le_of_ble_eq_true rfl) rfl ?_
  refine a_iload_n (pc := 0) dX3_hasLine_0 rfl ?_
  refine a_if_lt (tgt := 16) (pc := 1) dX3_hasLine_1 (by decide) (fun hc1 => ?_) (fun hc1 => ?_)
  · replace h := h.1 hc1
    refine a_iconst (pc := 16) dX3_hasLine_16 (by decide) ?_
    refine a_iretz (pc := 17) dX3_hasLine_17 rfl rfl (Nat.le_of_ble_eq_true rfl) (by decide) ⟨rfl, ?_⟩
    refine a_if_ne (tgt := 13) (pc := 8) dX8_drop_8 (by decide) (fun hc => absurd rfl hc) (fun _ => ?_)
    refine a_iconst (pc := 11) dX8_drop_11 (by decide) ?_
    exact a_ireti (pc := 12) dX8_drop_12 rfl rfl (Nat.le_of_ble_eq_true rfl) ⟨rfl, h⟩
  · replace h := h.2 hc1
    refine a_iload_n (pc := 4) dX3_hasLine_4 rfl ?_
    refine a_aload_n (pc := 5) dX3_hasLine_5 (by decide) rfl ?_
    refine a_getI (y := 0) (pc := 6) dX3_hasLine_6 fl_RX3_9 (by decide) s0_1 (Or.inl rfl) rfl ?_
    refine a_icmp_ge (tgt := 16) (pc := 9) dX3_hasLine_9 (by decide) (fun hc2 => ?_) (fun hc2 => ?_)
    · replace h := h.1 hc2
      refine a_iconst (pc := 16) dX3_hasLine_16 (by decide) ?_
      refine a_iretz (pc := 17) dX3_hasLine_17 rfl rfl (Nat.le_of_ble_eq_true rfl) (by decide) ⟨rfl, ?_⟩
      refine a_if_ne (tgt := 13) (pc := 8) dX8_drop_8 (by decide) (fun hc => absurd rfl hc) (fun _ => ?_)
      refine a_iconst (pc := 11) dX8_drop_11 (by decide) ?_
      exact a_ireti (pc := 12) dX8_drop_12 rfl rfl (Nat.le_of_ble_eq_true rfl) ⟨rfl, h⟩
    · replace h := h.2 hc2
      refine a_iconst (pc := 12) dX3_hasLine_12 (by decide) ?_
      refine a_goto (tgt := 17) (pc := 13) dX3_hasLine_13 (by decide) ?_
      refine a_iretz (pc := 17) dX3_hasLine_17 rfl rfl (Nat.le_of_ble_eq_true rfl) (by decide) ⟨rfl, ?_⟩
      refine a_if_ne (tgt := 13) (pc := 8) dX8_drop_8 (by decide) (fun _ => ?_) (fun hc => absurd hc (by decide))
      refine a_aload_n (pc := 13) dX8_drop_13 (by decide) rfl ?_
      refine a_getR (y := 1) (pc := 14) dX8_drop_14 fl_RX8_10 (by decide) s0_0 rfl rfl ?_
      refine a_getR (y := 4) (pc := 17) dX8_drop_17 fl_RX8_104 (by decide) s0_1 rfl rfl ?_
      refine a_iload_n (pc := 20) dX8_drop_20 rfl ?_
      have ho3 := h.1
      replace h := h.2
      refine a_iald (pc := 21) dX8_drop_21 (by decide) s0_4 ho3.1 ho3.2 ?_
      refine a_if_ne (tgt := 28) (pc := 22) dX8_drop_22 (by decide) (fun hc4 => ?_) (fun hc4 => ?_)
      · replace h := h.1 hc4
        refine a_aload_n (pc := 28) dX8_drop_28 (by decide) rfl ?_
        refine a_getR (y := 1) (pc := 29) dX8_drop_29 fl_RX8_10 (by decide) s0_0 rfl rfl ?_
        refine a_getR (y := 4) (pc := 32) dX8_drop_32 fl_RX8_104 (by decide) s0_1 rfl rfl ?_
        refine a_iload_n (pc := 35) dX8_drop_35 rfl ?_
        refine a_dup2 (pc := 36) dX8_drop_36 n01 n21 ?_
        refine a_iald (pc := 37) dX8_drop_37 (by decide) s0_4 ho3.1 ho3.2 ?_
        refine a_iconst (pc := 38) dX8_drop_38 (by decide) ?_
        have ho5 := h.1
        replace h := h.2
        refine a_isub (pc := 39) dX8_drop_39 ho5 ?_
        refine a_iast (pc := 40) dX8_drop_40 (by decide) s0_4 ho3.1 ho3.2 ?_
        refine a_aload_n (pc := 41) dX8_drop_41 (by decide) rfl ?_
        refine a_getR (y := 1) (pc := 42) dX8_drop_42 fl_RX8_10 (by decide) s0_0 rfl rfl ?_
        refine a_getR (y := 4) (pc := 45) dX8_drop_45 fl_RX8_104 (by decide) s0_1 rfl rfl ?_
        refine a_iload_n (pc := 48) dX8_drop_48 rfl ?_
        refine a_iald (pc := 49) dX8_drop_49 (by decide) s0_4 ho3.1 ho3.2 ?_
        refine a_eq (y := (M 4 l1) - 1) (by simp [up2]) ?_
        exact a_ireti (pc := 50) dX8_drop_50 rfl rfl (Nat.le_of_ble_eq_true rfl) ⟨rfl, h⟩
      · replace h := h.2 hc4
        refine a_bipush (pc := 25) dX8_drop_25 (by decide) (by decide +kernel) ?_
        exact a_ireti (pc := 27) dX8_drop_27 rfl rfl (Nat.le_of_ble_eq_true rfl) ⟨rfl, h⟩
theorem E_C_drop {l1 : Int} {M : Mem} {Q : Int → Mem → Prop} (h : AW mX8_drop 0 [(2, 0), (0, l1)] M Q) : Calls mX8_drop [(2, 0), (0, l1)] S0 M Q := calls_of (by decide) (by decide) (Nat.le_of_ble_eq_true rfl) rfl h
set_option maxRecDepth 100000 in
set_option maxHeartbeats 4000000 in
theorem B_C_feed_0 {l1 : Int} {M : Mem} {Q : Int → Mem → Prop} (h : ((l1 < 1 → Q (-2) M) ∧ (¬ (l1 < 1) → ((l1 ≤ 127 → (((M 263 1) < 80 → Calls mX7_put [(2, 263), (0, l1)] S0 M (fun r4 M5 => Q (M5 263 1) M5)) ∧ (¬ ((M 263 1) < 80) → Q (-4) M))) ∧ (¬ (l1 ≤ 127) → Q (-2) M))))) : AW mX8_feed 0 [(2, 0), (0, l1)] M Q := by
  refine a_iload_n (pc := 0) dX8_feed_0 rfl ?_
  refine a_iconst (pc := 1) dX8_feed_1 (by decide) ?_
  refine a_icmp_lt (tgt := 11) (pc := 2) dX8_feed_2 (by decide) (fun hc1 => ?_) (fun hc1 => ?_)
  · replace h := h.1 hc1
    refine a_bipush (pc := 11) dX8_feed_11 (by decide) (by decide +kernel) ?_
    exact a_ireti (pc := 13) dX8_feed_13 rfl rfl (Nat.le_of_ble_eq_true rfl) ⟨rfl, h⟩
  · replace h := h.2 hc1
    refine a_iload_n (pc := 5) dX8_feed_5 rfl ?_
    refine a_bipush (pc := 6) dX8_feed_6 (by decide) (by decide +kernel) ?_
    refine a_icmp_le (tgt := 14) (pc := 8) dX8_feed_8 (by decide) (fun hc2 => ?_) (fun hc2 => ?_)
    · replace h := h.1 hc2
      refine a_aload_n (pc := 14) dX8_feed_14 (by decide) rfl ?_
      refine a_getR (y := 263) (pc := 15) dX8_feed_15 fl_RX8_52 (by decide) s0_0 rfl rfl ?_
      refine a_getI (y := 1) (pc := 18) dX8_feed_18 fl_RX8_79 (by decide) s0_263 (Or.inl rfl) rfl ?_
      refine a_bipush (pc := 21) dX8_feed_21 (by decide) (by decide +kernel) ?_
      refine a_icmp_lt (tgt := 29) (pc := 23) dX8_feed_23 (by decide) (fun hc3 => ?_) (fun hc3 => ?_)
      · replace h := h.1 hc3
        refine a_aload_n (pc := 29) dX8_feed_29 (by decide) rfl ?_
        refine a_getR (y := 263) (pc := 30) dX8_feed_30 fl_RX8_52 (by decide) s0_0 rfl rfl ?_
        refine a_iload_n (pc := 33) dX8_feed_33 rfl ?_
        refine p_callV (As := [(0, l1)]) (st := []) (st1 := fun r => [])  (pc := 34) dX8_feed_34 ml_RX8_83 (by decide) s0_263 rfl (by decide) (Nat.le_of_ble_eq_true rfl) rfl (fun _ => rfl) h (fun r4 M5 h => ?_)
        refine a_aload_n (pc := 37) dX8_feed_37 (by decide) rfl ?_
        refine a_getR (y := 263) (pc := 38) dX8_feed_38 fl_RX8_52 (by decide) s0_0 rfl rfl ?_
        refine a_getI (y := 1) (pc := 41) dX8_feed_41 fl_RX8_79 (by decide) s0_263 (Or.inl rfl) rfl ?_
        exact a_ireti (pc := 44) dX8_feed_44 rfl rfl (Nat.le_of_ble_eq_true rfl) ⟨rfl, h⟩
      · replace h := h.2 hc3
        refine a_bipush (pc := 26) dX8_feed_26 (by decide) (by decide +kernel) ?_
        exact a_ireti (pc := 28) dX8_feed_28 rfl rfl (Nat.le_of_ble_eq_true rfl) ⟨rfl, h⟩
    · replace h := h.2 hc2
      refine a_bipush (pc := 11) dX8_feed_11 (by decide) (by decide +kernel) ?_
      exact a_ireti (pc := 13) dX8_feed_13 rfl rfl (Nat.le_of_ble_eq_true rfl) ⟨rfl, h⟩
theorem E_C_feed {l1 : Int} {M : Mem} {Q : Int → Mem → Prop} (h : AW mX8_feed 0 [(2, 0), (0, l1)] M Q) : Calls mX8_feed [(2, 0), (0, l1)] S0 M Q := calls_of (by decide) (by decide) (Nat.le_of_ble_eq_true rfl) rfl h
set_option maxRecDepth 100000 in
set_option maxHeartbeats 4000000 in
theorem B_C_paper_0 {l1 : Int} {M : Mem} {Q : Int → Mem → Prop} (h : ((l1 < 0 → Q (-1) M) ∧ (¬ (l1 < 0) → ((l1 < (M 265 1) → (((M 265 1) ≤ l1 → Q 0 M) ∧ (¬ ((M 265 1) ≤ l1) → ((0 : Int) ≤ l1 ∧ l1 < 160) ∧ Q (M 266 l1) M))) ∧ (¬ (l1 < (M 265 1)) → Q (-1) M))))) : AW mX8_paper 0 [(2, 0), (0, l1)] M Q := by
  refine a_iload_n (pc := 0) dX8_paper_0 rfl ?_
  refine a_if_lt (tgt := 15) (pc := 1) dX8_paper_1 (by decide) (fun hc1 => ?_) (fun hc1 => ?_)
  · replace h := h.1 hc1
    refine a_iconst (pc := 15) dX8_paper_15 (by decide) ?_
    exact a_ireti (pc := 16) dX8_paper_16 rfl rfl (Nat.le_of_ble_eq_true rfl) ⟨rfl, h⟩
  · replace h := h.2 hc1
    refine a_iload_n (pc := 4) dX8_paper_4 rfl ?_
    refine a_aload_n (pc := 5) dX8_paper_5 (by decide) rfl ?_
    refine a_getR (y := 265) (pc := 6) dX8_paper_6 fl_RX8_56 (by decide) s0_0 rfl rfl ?_
    refine a_getI (y := 1) (pc := 9) dX8_paper_9 fl_RX8_79 (by decide) s0_265 (Or.inl rfl) rfl ?_
    refine a_icmp_lt (tgt := 17) (pc := 12) dX8_paper_12 (by decide) (fun hc2 => ?_) (fun hc2 => ?_)
    · replace h := h.1 hc2
      refine a_aload_n (pc := 17) dX8_paper_17 (by decide) rfl ?_
      refine a_getR (y := 265) (pc := 18) dX8_paper_18 fl_RX8_56 (by decide) s0_0 rfl rfl ?_
      refine a_iload_n (pc := 21) dX8_paper_21 rfl ?_
      refine p_inlV (Ex := _) (As := [(0, l1)]) (st := []) (st1 := fun r => [(0, r)])  (pc := 22) dX8_paper_22 ml_RX8_214 (by decide) s0_265 rfl (by decide) (Nat.le_of_ble_eq_true rfl) rfl (fun _ => rfl) (by decide) (by decide) (Nat.le_of_ble_eq_true rfl) rfl ?_
      refine a_iload_n (pc := 0) dX7_byteAt_0 rfl ?_
      refine a_if_lt (tgt := 21) (pc := 1) dX7_byteAt_1 (by decide) (fun hc => absurd hc hc1) (fun _ => ?_)
      refine a_iload_n (pc := 4) dX7_byteAt_4 rfl ?_
      refine a_aload_n (pc := 5) dX7_byteAt_5 (by decide) rfl ?_
      refine a_getI (y := 1) (pc := 6) dX7_byteAt_6 fl_RX7_19 (by decide) s0_265 (Or.inl rfl) rfl ?_
      refine a_icmp_ge (tgt := 21) (pc := 9) dX7_byteAt_9 (by decide) (fun hc3 => ?_) (fun hc3 => ?_)
      · replace h := h.1 hc3
        refine a_iconst (pc := 21) dX7_byteAt_21 (by decide) ?_
        refine a_ireti (pc := 22) dX7_byteAt_22 rfl rfl (Nat.le_of_ble_eq_true rfl) ⟨rfl, ?_⟩
        exact a_ireti (pc := 25) dX8_paper_25 rfl rfl (Nat.le_of_ble_eq_true rfl) ⟨rfl, h⟩
      · replace h := h.2 hc3
        refine a_aload_n (pc := 12) dX7_byteAt_12 (by decide) rfl ?_
        refine a_getR (y := 266) (pc := 13) dX7_byteAt_13 fl_RX7_13 (by decide) s0_265 rfl rfl ?_
        refine a_iload_n (pc := 16) dX7_byteAt_16 rfl ?_
        have ho4 := h.1
        replace h := h.2
        refine a_iald (pc := 17) dX7_byteAt_17 (by decide) s0_266 ho4.1 ho4.2 ?_
        refine a_goto (tgt := 22) (pc := 18) dX7_byteAt_18 (by decide) ?_
        refine a_ireti (pc := 22) dX7_byteAt_22 rfl rfl (Nat.le_of_ble_eq_true rfl) ⟨rfl, ?_⟩
        exact a_ireti (pc := 25) dX8_paper_25 rfl rfl (Nat.le_of_ble_eq_true rfl) ⟨rfl, h⟩
    · replace h := h.2 hc2
      refine a_iconst (pc := 15) dX8_paper_15 (by decide) ?_
      exact a_ireti (pc := 16) dX8_paper_16 rfl rfl (Nat.le_of_ble_eq_true rfl) ⟨rfl, h⟩
theorem E_C_paper {l1 : Int} {M : Mem} {Q : Int → Mem → Prop} (h : AW mX8_paper 0 [(2, 0), (0, l1)] M Q) : Calls mX8_paper [(2, 0), (0, l1)] S0 M Q := calls_of (by decide) (by decide) (Nat.le_of_ble_eq_true rfl) rfl h
set_option maxRecDepth 100000 in
set_option maxHeartbeats 4000000 in
theorem B_C_image_0 {M : Mem} {Q : Int → Mem → Prop} (h : Calls mX3_copyFrom [(2, 77), (2, 1)] S0 M (fun r1 M2 => Q (M2 1 0) (up2 M2 0 10 1))) : AW mX8_image 0 [(2, 0)] M Q := by
  refine a_aload_n (pc := 0) dX8_image_0 (by decide) rfl ?_
  refine a_getR (y := 77) (pc := 1) dX8_image_1 fl_RX8_16 (by decide) s0_0 rfl rfl ?_
  refine a_aload_n (pc := 4) dX8_image_4 (by decide) rfl ?_
  refine a_getR (y := 1) (pc := 5) dX8_image_5 fl_RX8_10 (by decide) s0_0 rfl rfl ?_
  refine p_callV (As := [(2, 1)]) (st := []) (st1 := fun r => [])  (pc := 8) dX8_image_8 ml_RX8_86 (by decide) s0_77 rfl (by decide) (Nat.le_of_ble_eq_true rfl) rfl (fun _ => rfl) h (fun r1 M2 h => ?_)
  refine a_aload_n (pc := 11) dX8_image_11 (by decide) rfl ?_
  refine a_iconst (pc := 12) dX8_image_12 (by decide) ?_
  refine a_putZ (y := 10) (pc := 13) dX8_image_13 fl_RX8_75 (by decide) s0_0 rfl rfl (tyX8_ok 10 (by decide)) rfl (by decide) ?_
  refine a_aload_n (pc := 16) dX8_image_16 (by decide) rfl ?_
  refine a_getR (y := 1) (pc := 17) dX8_image_17 fl_RX8_10 (by decide) s0_0 rfl rfl ?_
  refine a_getI (y := 0) (pc := 20) dX8_image_20 fl_RX8_184 (by decide) s0_1 (Or.inl rfl) rfl ?_
  refine a_eq (y := M2 1 0) rfl ?_
  exact a_ireti (pc := 23) dX8_image_23 rfl rfl (Nat.le_of_ble_eq_true rfl) ⟨rfl, h⟩
theorem E_C_image {M : Mem} {Q : Int → Mem → Prop} (h : AW mX8_image 0 [(2, 0)] M Q) : Calls mX8_image [(2, 0)] S0 M Q := calls_of (by decide) (by decide) (Nat.le_of_ble_eq_true rfl) rfl h
set_option maxRecDepth 100000 in
set_option maxHeartbeats 4000000 in
theorem B_C_undo_0 {M : Mem} {Q : Int → Mem → Prop} (h : ((¬ (M 0 10) = 0 → Calls mX3_copyFrom [(2, 1), (2, 77)] S0 M (fun r2 M3 => Q (M3 1 0) M3)) ∧ ((M 0 10) = 0 → Q (-3) M))) : AW mX8_undo 0 [(2, 0)] M Q := by
  refine a_aload_n (pc := 0) dX8_undo_0 (by decide) rfl ?_
  refine a_getI (y := 10) (pc := 1) dX8_undo_1 fl_RX8_75 (by decide) s0_0 (Or.inr rfl) rfl ?_
  refine a_if_ne (tgt := 10) (pc := 4) dX8_undo_4 (by decide) (fun hc1 => ?_) (fun hc1 => ?_)
  · replace h := h.1 hc1
    refine a_aload_n (pc := 10) dX8_undo_10 (by decide) rfl ?_
    refine a_getR (y := 1) (pc := 11) dX8_undo_11 fl_RX8_10 (by decide) s0_0 rfl rfl ?_
    refine a_aload_n (pc := 14) dX8_undo_14 (by decide) rfl ?_
    refine a_getR (y := 77) (pc := 15) dX8_undo_15 fl_RX8_16 (by decide) s0_0 rfl rfl ?_
    refine p_callV (As := [(2, 77)]) (st := []) (st1 := fun r => [])  (pc := 18) dX8_undo_18 ml_RX8_86 (by decide) s0_1 rfl (by decide) (Nat.le_of_ble_eq_true rfl) rfl (fun _ => rfl) h (fun r2 M3 h => ?_)
    refine a_aload_n (pc := 21) dX8_undo_21 (by decide) rfl ?_
    refine a_getR (y := 1) (pc := 22) dX8_undo_22 fl_RX8_10 (by decide) s0_0 rfl rfl ?_
    refine a_getI (y := 0) (pc := 25) dX8_undo_25 fl_RX8_184 (by decide) s0_1 (Or.inl rfl) rfl ?_
    exact a_ireti (pc := 28) dX8_undo_28 rfl rfl (Nat.le_of_ble_eq_true rfl) ⟨rfl, h⟩
  · replace h := h.2 hc1
    refine a_bipush (pc := 7) dX8_undo_7 (by decide) (by decide +kernel) ?_
    exact a_ireti (pc := 9) dX8_undo_9 rfl rfl (Nat.le_of_ble_eq_true rfl) ⟨rfl, h⟩
theorem E_C_undo {M : Mem} {Q : Int → Mem → Prop} (h : AW mX8_undo 0 [(2, 0)] M Q) : Calls mX8_undo [(2, 0)] S0 M Q := calls_of (by decide) (by decide) (Nat.le_of_ble_eq_true rfl) rfl h
set_option maxRecDepth 100000 in
set_option maxHeartbeats 4000000 in
theorem B_C_meet_0 {l1 l2 : Int} {M : Mem} {Q : Int → Mem → Prop} (h : ((l1 < 0 → Q (-1) M) ∧ (¬ (l1 < 0) → (((M 1 0) ≤ l1 → Q (-1) M) ∧ (¬ ((M 1 0) ≤ l1) → ((l2 < 0 → Q (-1) M) ∧ (¬ (l2 < 0) → (((M 1 0) ≤ l2 → Q (-1) M) ∧ (¬ ((M 1 0) ≤ l2) → AW mX8_meet 29 [(2, 0), (0, l1), (0, l2), (0, 0), (0, 0), (9, 0)] M Q))))))))) : AW mX8_meet 0 [(2, 0), (0, l1), (0, l2), (9, 0), (9, 0), (9, 0)] M Q := by
  refine a_aload_n (pc := 0) dX8_meet_0 (by decide) rfl ?_
  refine a_getR (y := 1) (pc := 1) dX8_meet_1 fl_RX8_10 (by decide) s0_0 rfl rfl ?_
  refine a_iload_n (pc := 4) dX8_meet_4 rfl ?_
  refine p_inlV (Ex := _) (As := [(0, l1)]) (st := []) (st1 := fun r => [(0, r)])  (pc := 5) dX8_meet_5 ml_RX8_93 (by decide) s0_1 rfl (by decide) (Nat.le_of_ble_eq_true rfl) rfl (fun _ => rfl) (by decide) (by decide) (Nat.le_of_ble_eq_true rfl) rfl ?_
  refine a_iload_n (pc := 0) dX3_hasLine_0 rfl ?_
  refine a_if_lt (tgt := 16) (pc := 1) dX3_hasLine_1 (by decide) (fun hc1 => ?_) (fun hc1 => ?_)
  · replace h := h.1 hc1
    refine a_iconst (pc := 16) dX3_hasLine_16 (by decide) ?_
    refine a_iretz (pc := 17) dX3_hasLine_17 rfl rfl (Nat.le_of_ble_eq_true rfl) (by decide) ⟨rfl, ?_⟩
    refine a_if_eq (tgt := 22) (pc := 8) dX8_meet_8 (by decide) (fun _ => ?_) (fun hc => absurd (by decide) hc)
    refine a_iconst (pc := 22) dX8_meet_22 (by decide) ?_
    exact a_ireti (pc := 23) dX8_meet_23 rfl rfl (Nat.le_of_ble_eq_true rfl) ⟨rfl, h⟩
  · replace h := h.2 hc1
    refine a_iload_n (pc := 4) dX3_hasLine_4 rfl ?_
    refine a_aload_n (pc := 5) dX3_hasLine_5 (by decide) rfl ?_
    refine a_getI (y := 0) (pc := 6) dX3_hasLine_6 fl_RX3_9 (by decide) s0_1 (Or.inl rfl) rfl ?_
    refine a_icmp_ge (tgt := 16) (pc := 9) dX3_hasLine_9 (by decide) (fun hc2 => ?_) (fun hc2 => ?_)
    · replace h := h.1 hc2
      refine a_iconst (pc := 16) dX3_hasLine_16 (by decide) ?_
      refine a_iretz (pc := 17) dX3_hasLine_17 rfl rfl (Nat.le_of_ble_eq_true rfl) (by decide) ⟨rfl, ?_⟩
      refine a_if_eq (tgt := 22) (pc := 8) dX8_meet_8 (by decide) (fun _ => ?_) (fun hc => absurd (by decide) hc)
      refine a_iconst (pc := 22) dX8_meet_22 (by decide) ?_
      exact a_ireti (pc := 23) dX8_meet_23 rfl rfl (Nat.le_of_ble_eq_true rfl) ⟨rfl, h⟩
    · replace h := h.2 hc2
      refine a_iconst (pc := 12) dX3_hasLine_12 (by decide) ?_
      refine a_goto (tgt := 17) (pc := 13) dX3_hasLine_13 (by decide) ?_
      refine a_iretz (pc := 17) dX3_hasLine_17 rfl rfl (Nat.le_of_ble_eq_true rfl) (by decide) ⟨rfl, ?_⟩
      refine a_if_eq (tgt := 22) (pc := 8) dX8_meet_8 (by decide) (fun hc => absurd hc (by decide)) (fun _ => ?_)
      refine a_aload_n (pc := 11) dX8_meet_11 (by decide) rfl ?_
      refine a_getR (y := 1) (pc := 12) dX8_meet_12 fl_RX8_10 (by decide) s0_0 rfl rfl ?_
      refine a_iload_n (pc := 15) dX8_meet_15 rfl ?_
      refine p_inlV (Ex := _) (As := [(0, l2)]) (st := []) (st1 := fun r => [(0, r)])  (pc := 16) dX8_meet_16 ml_RX8_93 (by decide) s0_1 rfl (by decide) (Nat.le_of_ble_eq_true rfl) rfl (fun _ => rfl) (by decide) (by decide) (Nat.le_of_ble_eq_true rfl) rfl ?_
      refine a_iload_n (pc := 0) dX3_hasLine_0 rfl ?_
      refine a_if_lt (tgt := 16) (pc := 1) dX3_hasLine_1 (by decide) (fun hc3 => ?_) (fun hc3 => ?_)
      · replace h := h.1 hc3
        refine a_iconst (pc := 16) dX3_hasLine_16 (by decide) ?_
        refine a_iretz (pc := 17) dX3_hasLine_17 rfl rfl (Nat.le_of_ble_eq_true rfl) (by decide) ⟨rfl, ?_⟩
        refine a_if_ne (tgt := 24) (pc := 19) dX8_meet_19 (by decide) (fun hc => absurd rfl hc) (fun _ => ?_)
        refine a_iconst (pc := 22) dX8_meet_22 (by decide) ?_
        exact a_ireti (pc := 23) dX8_meet_23 rfl rfl (Nat.le_of_ble_eq_true rfl) ⟨rfl, h⟩
      · replace h := h.2 hc3
        refine a_iload_n (pc := 4) dX3_hasLine_4 rfl ?_
        refine a_aload_n (pc := 5) dX3_hasLine_5 (by decide) rfl ?_
        refine a_getI (y := 0) (pc := 6) dX3_hasLine_6 fl_RX3_9 (by decide) s0_1 (Or.inl rfl) rfl ?_
        refine a_icmp_ge (tgt := 16) (pc := 9) dX3_hasLine_9 (by decide) (fun hc4 => ?_) (fun hc4 => ?_)
        · replace h := h.1 hc4
          refine a_iconst (pc := 16) dX3_hasLine_16 (by decide) ?_
          refine a_iretz (pc := 17) dX3_hasLine_17 rfl rfl (Nat.le_of_ble_eq_true rfl) (by decide) ⟨rfl, ?_⟩
          refine a_if_ne (tgt := 24) (pc := 19) dX8_meet_19 (by decide) (fun hc => absurd rfl hc) (fun _ => ?_)
          refine a_iconst (pc := 22) dX8_meet_22 (by decide) ?_
          exact a_ireti (pc := 23) dX8_meet_23 rfl rfl (Nat.le_of_ble_eq_true rfl) ⟨rfl, h⟩
        · replace h := h.2 hc4
          refine a_iconst (pc := 12) dX3_hasLine_12 (by decide) ?_
          refine a_goto (tgt := 17) (pc := 13) dX3_hasLine_13 (by decide) ?_
          refine a_iretz (pc := 17) dX3_hasLine_17 rfl rfl (Nat.le_of_ble_eq_true rfl) (by decide) ⟨rfl, ?_⟩
          refine a_if_ne (tgt := 24) (pc := 19) dX8_meet_19 (by decide) (fun _ => ?_) (fun hc => absurd hc (by decide))
          refine a_iconst (pc := 24) dX8_meet_24 (by decide) ?_
          refine a_istore_n (ls1 := [(2, 0), (0, l1), (0, l2), (0, 0), (9, 0), (9, 0)]) (pc := 25) dX8_meet_25 (by decide) (hp1 (t := 0) rfl (by decide)) rfl ?_
          refine a_iconst (pc := 26) dX8_meet_26 (by decide) ?_
          refine a_istore (ls1 := [(2, 0), (0, l1), (0, l2), (0, 0), (0, 0), (9, 0)]) (pc := 27) dX8_meet_27 (by decide) (hp1 (t := 0) rfl (by decide)) rfl ?_
          exact h
set_option maxRecDepth 100000 in
set_option maxHeartbeats 4000000 in
theorem B_C_meet_29 {l1 l2 l3 l4 : Int} {M : Mem} {Q : Int → Mem → Prop} (h : ((0 : Int) ≤ l1 ∧ l1 < 8) ∧ (((M 3 l1) ≤ l4 → Q l3 M) ∧ (¬ ((M 3 l1) ≤ l4) → ((0 : Int) ≤ l4 ∧ l4 < 6) ∧ Calls mX3_placeOf [(2, 1), (0, l2), (0, M (6 + l1) l4)] S0 M (fun r5 M6 => ((r5 < 0 → (-2147483648 ≤ l4 + 1 ∧ l4 + 1 ≤ 2147483647) ∧ AW mX8_meet 29 [(2, 0), (0, l1), (0, l2), (0, l3), (0, l4 + 1), (9, 0)] M6 Q) ∧ (¬ (r5 < 0) → ((0 : Int) ≤ M (6 + l1) l4 ∧ M (6 + l1) l4 ≤ 30) ∧ ((0 : Int) ≤ l3) ∧ ((0 : Int) ≤ (2 : Int) ^ (M (6 + l1) l4).toNat) ∧ (-2147483648 ≤ l4 + 1 ∧ l4 + 1 ≤ 2147483647) ∧ AW mX8_meet 29 [(2, 0), (0, l1), (0, l2), (0, (((l3 : Int).toNat ||| ((2 : Int) ^ (M (6 + l1) l4).toNat : Int).toNat : Nat) : Int)), (0, l4 + 1), (9, 0)] M6 Q)))))) : AW mX8_meet 29 [(2, 0), (0, l1), (0, l2), (0, l3), (0, l4), (9, 0)] M Q := by
  refine a_iload (pc := 29) dX8_meet_29 rfl ?_
  refine a_aload_n (pc := 31) dX8_meet_31 (by decide) rfl ?_
  refine a_getR (y := 1) (pc := 32) dX8_meet_32 fl_RX8_10 (by decide) s0_0 rfl rfl ?_
  refine a_getR (y := 3) (pc := 35) dX8_meet_35 fl_RX8_101 (by decide) s0_1 rfl rfl ?_
  refine a_iload_n (pc := 38) dX8_meet_38 rfl ?_
  have ho1 := h.1
  replace h := h.2
  refine a_iald (pc := 39) dX8_meet_39 (by decide) s0_3 ho1.1 ho1.2 ?_
  refine a_icmp_ge (tgt := 83) (pc := 40) dX8_meet_40 (by decide) (fun hc2 => ?_) (fun hc2 => ?_)
  · replace h := h.1 hc2
    refine a_iload_n (pc := 83) dX8_meet_83 rfl ?_
    exact a_ireti (pc := 84) dX8_meet_84 rfl rfl (Nat.le_of_ble_eq_true rfl) ⟨rfl, h⟩
  · replace h := h.2 hc2
    refine a_aload_n (pc := 43) dX8_meet_43 (by decide) rfl ?_
    refine a_getR (y := 1) (pc := 44) dX8_meet_44 fl_RX8_10 (by decide) s0_0 rfl rfl ?_
    refine a_getR (y := 5) (pc := 47) dX8_meet_47 fl_RX8_115 (by decide) s0_1 rfl rfl ?_
    refine a_iload_n (pc := 50) dX8_meet_50 rfl ?_
    have hr3 := rw_5 l1 ho1.1 ho1.2
    refine a_aald (y := 6 + l1) (pc := 51) dX8_meet_51 (by decide) s0_5 ho1.1 ho1.2 (by omega) ?_
    refine a_iload (pc := 52) dX8_meet_52 rfl ?_
    have ho4 := h.1
    replace h := h.2
    refine a_iald (pc := 54) dX8_meet_54 hr3.1 hr3.2 ho4.1 ho4.2 ?_
    refine a_istore (ls1 := [(2, 0), (0, l1), (0, l2), (0, l3), (0, l4), (0, M (6 + l1) l4)]) (pc := 55) dX8_meet_55 (by decide) (hp1 (t := 0) rfl (by decide)) rfl ?_
    refine a_aload_n (pc := 57) dX8_meet_57 (by decide) rfl ?_
    refine a_getR (y := 1) (pc := 58) dX8_meet_58 fl_RX8_10 (by decide) s0_0 rfl rfl ?_
    refine a_iload_n (pc := 61) dX8_meet_61 rfl ?_
    refine a_iload (pc := 62) dX8_meet_62 rfl ?_
    refine p_callV (As := [(0, l2), (0, M (6 + l1) l4)]) (st := []) (st1 := fun r => [(0, r)])  (pc := 64) dX8_meet_64 ml_RX8_207 (by decide) s0_1 rfl (by decide) (Nat.le_of_ble_eq_true rfl) rfl (fun _ => rfl) h (fun r5 M6 h => ?_)
    refine a_if_lt (tgt := 77) (pc := 67) dX8_meet_67 (by decide) (fun hc7 => ?_) (fun hc7 => ?_)
    · replace h := h.1 hc7
      have ho8 := h.1
      replace h := h.2
      refine a_iinc (ls1 := [(2, 0), (0, l1), (0, l2), (0, l3), (0, l4 + 1), (0, M (6 + l1) l4)]) (pc := 77) dX8_meet_77 rfl (by decide) (hp1 (t := 0) rfl (by decide)) ho8 rfl ?_
      refine a_goto (tgt := 29) (pc := 80) dX8_meet_80 (by decide) ?_
      exact a_msk [true, true, true, true, true, false] rfl h
    · replace h := h.2 hc7
      refine a_iload_n (pc := 70) dX8_meet_70 rfl ?_
      refine a_iconst (pc := 71) dX8_meet_71 (by decide) ?_
      refine a_iload (pc := 72) dX8_meet_72 rfl ?_
      have ho9 := h.1
      replace h := h.2
      refine a_ishl (z := (2 : Int) ^ (M (6 + l1) l4).toNat) (pc := 74) dX8_meet_74 rfl ho9.1 ho9.2 rfl ?_
      have ho10 := h.1
      replace h := h.2
      have ho11 := h.1
      replace h := h.2
      refine a_ior (z := (((l3 : Int).toNat ||| ((2 : Int) ^ (M (6 + l1) l4).toNat : Int).toNat : Nat) : Int)) (pc := 75) dX8_meet_75 ho10 ho11 rfl ?_
      refine a_istore_n (ls1 := [(2, 0), (0, l1), (0, l2), (0, (((l3 : Int).toNat ||| ((2 : Int) ^ (M (6 + l1) l4).toNat : Int).toNat : Nat) : Int)), (0, l4), (0, M (6 + l1) l4)]) (pc := 76) dX8_meet_76 (by decide) (hp1 (t := 0) rfl (by decide)) rfl ?_
      have ho12 := h.1
      replace h := h.2
      refine a_iinc (ls1 := [(2, 0), (0, l1), (0, l2), (0, (((l3 : Int).toNat ||| ((2 : Int) ^ (M (6 + l1) l4).toNat : Int).toNat : Nat) : Int)), (0, l4 + 1), (0, M (6 + l1) l4)]) (pc := 77) dX8_meet_77 rfl (by decide) (hp1 (t := 0) rfl (by decide)) ho12 rfl ?_
      refine a_goto (tgt := 29) (pc := 80) dX8_meet_80 (by decide) ?_
      exact a_msk [true, true, true, true, true, false] rfl h
theorem E_C_meet {l1 l2 : Int} {M : Mem} {Q : Int → Mem → Prop} (h : AW mX8_meet 0 [(2, 0), (0, l1), (0, l2), (9, 0), (9, 0), (9, 0)] M Q) : Calls mX8_meet [(2, 0), (0, l1), (0, l2)] S0 M Q := calls_of (by decide) (by decide) (Nat.le_of_ble_eq_true rfl) rfl h
set_option maxRecDepth 100000 in
set_option maxHeartbeats 4000000 in
theorem B_C_listRefusal_0 {l1 l2 l3 l4 : Int} {M : Mem} {Q : Int → Mem → Prop} (h : ((l1 < 0 → Q (-1) M) ∧ (¬ (l1 < 0) → ((4 ≤ l1 → Q (-1) M) ∧ (¬ (4 ≤ l1) → ((l2 < 0 → Q (-1) M) ∧ (¬ (l2 < 0) → ((12 ≤ l2 → Q (-1) M) ∧ (¬ (12 ≤ l2) → ((l3 < 0 → Q (-2) M) ∧ (¬ (l3 < 0) → ((1999 < l3 → Q (-2) M) ∧ (¬ (1999 < l3) → ((l4 < 0 → Q (-2) M) ∧ (¬ (l4 < 0) → ((6 < l4 → Q (-2) M) ∧ (¬ (6 < l4) → ((0 : Int) ≤ l1 ∧ l1 < 4) ∧ (((M 274 l1) = (-1) → Q (-11) M) ∧ (¬ (M 274 l1) = (-1) → Q 0 M))))))))))))))))))) : AW mX8_listRefusal 0 [(2, 0), (0, l1), (0, l2), (0, l3), (0, l4)] M Q := by
  refine a_iload_n (pc := 0) dX8_listRefusal_0 rfl ?_
  refine p_inlS (Ex := _) (As := [(0, l1)]) (st := []) (st1 := fun r => [(0, r)])  (pc := 1) dX8_listRefusal_1 ml_RX8_229 (by decide) (Nat.le_of_ble_eq_true rfl) rfl (fun _ => rfl) (by decide) (by decide) (Nat.le_of_ble_eq_true rfl) rfl ?_
  refine a_iload_n (pc := 0) dX2_isList_0 rfl ?_
  refine a_if_lt (tgt := 13) (pc := 1) dX2_isList_1 (by decide) (fun hc1 => ?_) (fun hc1 => ?_)
  · replace h := h.1 hc1
    refine a_iconst (pc := 13) dX2_isList_13 (by decide) ?_
    refine a_iretz (pc := 14) dX2_isList_14 rfl rfl (Nat.le_of_ble_eq_true rfl) (by decide) ⟨rfl, ?_⟩
    refine a_if_eq (tgt := 14) (pc := 4) dX8_listRefusal_4 (by decide) (fun _ => ?_) (fun hc => absurd (by decide) hc)
    refine a_iconst (pc := 14) dX8_listRefusal_14 (by decide) ?_
    exact a_ireti (pc := 15) dX8_listRefusal_15 rfl rfl (Nat.le_of_ble_eq_true rfl) ⟨rfl, h⟩
  · replace h := h.2 hc1
    refine a_iload_n (pc := 4) dX2_isList_4 rfl ?_
    refine a_iconst (pc := 5) dX2_isList_5 (by decide) ?_
    refine a_icmp_ge (tgt := 13) (pc := 6) dX2_isList_6 (by decide) (fun hc2 => ?_) (fun hc2 => ?_)
    · replace h := h.1 hc2
      refine a_iconst (pc := 13) dX2_isList_13 (by decide) ?_
      refine a_iretz (pc := 14) dX2_isList_14 rfl rfl (Nat.le_of_ble_eq_true rfl) (by decide) ⟨rfl, ?_⟩
      refine a_if_eq (tgt := 14) (pc := 4) dX8_listRefusal_4 (by decide) (fun _ => ?_) (fun hc => absurd (by decide) hc)
      refine a_iconst (pc := 14) dX8_listRefusal_14 (by decide) ?_
      exact a_ireti (pc := 15) dX8_listRefusal_15 rfl rfl (Nat.le_of_ble_eq_true rfl) ⟨rfl, h⟩
    · replace h := h.2 hc2
      refine a_iconst (pc := 9) dX2_isList_9 (by decide) ?_
      refine a_goto (tgt := 14) (pc := 10) dX2_isList_10 (by decide) ?_
      refine a_iretz (pc := 14) dX2_isList_14 rfl rfl (Nat.le_of_ble_eq_true rfl) (by decide) ⟨rfl, ?_⟩
      refine a_if_eq (tgt := 14) (pc := 4) dX8_listRefusal_4 (by decide) (fun hc => absurd hc (by decide)) (fun _ => ?_)
      refine a_iload_n (pc := 7) dX8_listRefusal_7 rfl ?_
      refine p_inlS (Ex := _) (As := [(0, l2)]) (st := []) (st1 := fun r => [(0, r)])  (pc := 8) dX8_listRefusal_8 ml_RX8_129 (by decide) (Nat.le_of_ble_eq_true rfl) rfl (fun _ => rfl) (by decide) (by decide) (Nat.le_of_ble_eq_true rfl) rfl ?_
      refine a_iload_n (pc := 0) dX8_isStop_0 rfl ?_
      refine a_if_lt (tgt := 14) (pc := 1) dX8_isStop_1 (by decide) (fun hc3 => ?_) (fun hc3 => ?_)
      · replace h := h.1 hc3
        refine a_iconst (pc := 14) dX8_isStop_14 (by decide) ?_
        refine a_iretz (pc := 15) dX8_isStop_15 rfl rfl (Nat.le_of_ble_eq_true rfl) (by decide) ⟨rfl, ?_⟩
        refine a_if_ne (tgt := 16) (pc := 11) dX8_listRefusal_11 (by decide) (fun hc => absurd rfl hc) (fun _ => ?_)
        refine a_iconst (pc := 14) dX8_listRefusal_14 (by decide) ?_
        exact a_ireti (pc := 15) dX8_listRefusal_15 rfl rfl (Nat.le_of_ble_eq_true rfl) ⟨rfl, h⟩
      · replace h := h.2 hc3
        refine a_iload_n (pc := 4) dX8_isStop_4 rfl ?_
        refine a_bipush (pc := 5) dX8_isStop_5 (by decide) (by decide +kernel) ?_
        refine a_icmp_ge (tgt := 14) (pc := 7) dX8_isStop_7 (by decide) (fun hc4 => ?_) (fun hc4 => ?_)
        · replace h := h.1 hc4
          refine a_iconst (pc := 14) dX8_isStop_14 (by decide) ?_
          refine a_iretz (pc := 15) dX8_isStop_15 rfl rfl (Nat.le_of_ble_eq_true rfl) (by decide) ⟨rfl, ?_⟩
          refine a_if_ne (tgt := 16) (pc := 11) dX8_listRefusal_11 (by decide) (fun hc => absurd rfl hc) (fun _ => ?_)
          refine a_iconst (pc := 14) dX8_listRefusal_14 (by decide) ?_
          exact a_ireti (pc := 15) dX8_listRefusal_15 rfl rfl (Nat.le_of_ble_eq_true rfl) ⟨rfl, h⟩
        · replace h := h.2 hc4
          refine a_iconst (pc := 10) dX8_isStop_10 (by decide) ?_
          refine a_goto (tgt := 15) (pc := 11) dX8_isStop_11 (by decide) ?_
          refine a_iretz (pc := 15) dX8_isStop_15 rfl rfl (Nat.le_of_ble_eq_true rfl) (by decide) ⟨rfl, ?_⟩
          refine a_if_ne (tgt := 16) (pc := 11) dX8_listRefusal_11 (by decide) (fun _ => ?_) (fun hc => absurd hc (by decide))
          refine a_iload_n (pc := 16) dX8_listRefusal_16 rfl ?_
          refine p_inlS (Ex := _) (As := [(0, l3)]) (st := []) (st1 := fun r => [(0, r)])  (pc := 17) dX8_listRefusal_17 ml_RX8_178 (by decide) (Nat.le_of_ble_eq_true rfl) rfl (fun _ => rfl) (by decide) (by decide) (Nat.le_of_ble_eq_true rfl) rfl ?_
          refine a_iload_n (pc := 0) dX8_isMinute_0 rfl ?_
          refine a_if_lt (tgt := 15) (pc := 1) dX8_isMinute_1 (by decide) (fun hc5 => ?_) (fun hc5 => ?_)
          · replace h := h.1 hc5
            refine a_iconst (pc := 15) dX8_isMinute_15 (by decide) ?_
            refine a_iretz (pc := 16) dX8_isMinute_16 rfl rfl (Nat.le_of_ble_eq_true rfl) (by decide) ⟨rfl, ?_⟩
            refine a_if_eq (tgt := 31) (pc := 20) dX8_listRefusal_20 (by decide) (fun _ => ?_) (fun hc => absurd (by decide) hc)
            refine a_bipush (pc := 31) dX8_listRefusal_31 (by decide) (by decide +kernel) ?_
            exact a_ireti (pc := 33) dX8_listRefusal_33 rfl rfl (Nat.le_of_ble_eq_true rfl) ⟨rfl, h⟩
          · replace h := h.2 hc5
            refine a_iload_n (pc := 4) dX8_isMinute_4 rfl ?_
            refine a_sipush (pc := 5) dX8_isMinute_5 (by decide) (by decide +kernel) ?_
            refine a_icmp_gt (tgt := 15) (pc := 8) dX8_isMinute_8 (by decide) (fun hc6 => ?_) (fun hc6 => ?_)
            · replace h := h.1 hc6
              refine a_iconst (pc := 15) dX8_isMinute_15 (by decide) ?_
              refine a_iretz (pc := 16) dX8_isMinute_16 rfl rfl (Nat.le_of_ble_eq_true rfl) (by decide) ⟨rfl, ?_⟩
              refine a_if_eq (tgt := 31) (pc := 20) dX8_listRefusal_20 (by decide) (fun _ => ?_) (fun hc => absurd (by decide) hc)
              refine a_bipush (pc := 31) dX8_listRefusal_31 (by decide) (by decide +kernel) ?_
              exact a_ireti (pc := 33) dX8_listRefusal_33 rfl rfl (Nat.le_of_ble_eq_true rfl) ⟨rfl, h⟩
            · replace h := h.2 hc6
              refine a_iconst (pc := 11) dX8_isMinute_11 (by decide) ?_
              refine a_goto (tgt := 16) (pc := 12) dX8_isMinute_12 (by decide) ?_
              refine a_iretz (pc := 16) dX8_isMinute_16 rfl rfl (Nat.le_of_ble_eq_true rfl) (by decide) ⟨rfl, ?_⟩
              refine a_if_eq (tgt := 31) (pc := 20) dX8_listRefusal_20 (by decide) (fun hc => absurd hc (by decide)) (fun _ => ?_)
              refine a_iload (pc := 23) dX8_listRefusal_23 rfl ?_
              refine p_inlS (Ex := _) (As := [(0, l4)]) (st := []) (st1 := fun r => [(0, r)])  (pc := 25) dX8_listRefusal_25 ml_RX8_181 (by decide) (Nat.le_of_ble_eq_true rfl) rfl (fun _ => rfl) (by decide) (by decide) (Nat.le_of_ble_eq_true rfl) rfl ?_
              refine a_iload_n (pc := 0) dX8_isRides_0 rfl ?_
              refine a_if_lt (tgt := 14) (pc := 1) dX8_isRides_1 (by decide) (fun hc7 => ?_) (fun hc7 => ?_)
              · replace h := h.1 hc7
                refine a_iconst (pc := 14) dX8_isRides_14 (by decide) ?_
                refine a_iretz (pc := 15) dX8_isRides_15 rfl rfl (Nat.le_of_ble_eq_true rfl) (by decide) ⟨rfl, ?_⟩
                refine a_if_ne (tgt := 34) (pc := 28) dX8_listRefusal_28 (by decide) (fun hc => absurd rfl hc) (fun _ => ?_)
                refine a_bipush (pc := 31) dX8_listRefusal_31 (by decide) (by decide +kernel) ?_
                exact a_ireti (pc := 33) dX8_listRefusal_33 rfl rfl (Nat.le_of_ble_eq_true rfl) ⟨rfl, h⟩
              · replace h := h.2 hc7
                refine a_iload_n (pc := 4) dX8_isRides_4 rfl ?_
                refine a_bipush (pc := 5) dX8_isRides_5 (by decide) (by decide +kernel) ?_
                refine a_icmp_gt (tgt := 14) (pc := 7) dX8_isRides_7 (by decide) (fun hc8 => ?_) (fun hc8 => ?_)
                · replace h := h.1 hc8
                  refine a_iconst (pc := 14) dX8_isRides_14 (by decide) ?_
                  refine a_iretz (pc := 15) dX8_isRides_15 rfl rfl (Nat.le_of_ble_eq_true rfl) (by decide) ⟨rfl, ?_⟩
                  refine a_if_ne (tgt := 34) (pc := 28) dX8_listRefusal_28 (by decide) (fun hc => absurd rfl hc) (fun _ => ?_)
                  refine a_bipush (pc := 31) dX8_listRefusal_31 (by decide) (by decide +kernel) ?_
                  exact a_ireti (pc := 33) dX8_listRefusal_33 rfl rfl (Nat.le_of_ble_eq_true rfl) ⟨rfl, h⟩
                · replace h := h.2 hc8
                  refine a_iconst (pc := 10) dX8_isRides_10 (by decide) ?_
                  refine a_goto (tgt := 15) (pc := 11) dX8_isRides_11 (by decide) ?_
                  refine a_iretz (pc := 15) dX8_isRides_15 rfl rfl (Nat.le_of_ble_eq_true rfl) (by decide) ⟨rfl, ?_⟩
                  refine a_if_ne (tgt := 34) (pc := 28) dX8_listRefusal_28 (by decide) (fun _ => ?_) (fun hc => absurd hc (by decide))
                  refine a_aload_n (pc := 34) dX8_listRefusal_34 (by decide) rfl ?_
                  refine a_getR (y := 268) (pc := 35) dX8_listRefusal_35 fl_RX8_71 (by decide) s0_0 rfl rfl ?_
                  refine a_iload_n (pc := 38) dX8_listRefusal_38 rfl ?_
                  refine p_inlV (Ex := _) (As := [(0, l1)]) (st := []) (st1 := fun r => [(0, r)])  (pc := 39) dX8_listRefusal_39 ml_RX8_235 (by decide) s0_268 rfl (by decide) (Nat.le_of_ble_eq_true rfl) rfl (fun _ => rfl) (by decide) (by decide) (Nat.le_of_ble_eq_true rfl) rfl ?_
                  refine a_iload_n (pc := 0) dX2_isHeld_0 rfl ?_
                  refine p_inlS (Ex := _) (As := [(0, l1)]) (st := []) (st1 := fun r => [(0, r)])  (pc := 1) dX2_isHeld_1 ml_RX2_24 (by decide) (Nat.le_of_ble_eq_true rfl) rfl (fun _ => rfl) (by decide) (by decide) (Nat.le_of_ble_eq_true rfl) rfl ?_
                  refine a_iload_n (pc := 0) dX2_isList_0 rfl ?_
                  refine a_if_lt (tgt := 13) (pc := 1) dX2_isList_1 (by decide) (fun hc => absurd hc hc1) (fun _ => ?_)
                  refine a_iload_n (pc := 4) dX2_isList_4 rfl ?_
                  refine a_iconst (pc := 5) dX2_isList_5 (by decide) ?_
                  refine a_icmp_ge (tgt := 13) (pc := 6) dX2_isList_6 (by decide) (fun hc => absurd hc hc2) (fun _ => ?_)
                  refine a_iconst (pc := 9) dX2_isList_9 (by decide) ?_
                  refine a_goto (tgt := 14) (pc := 10) dX2_isList_10 (by decide) ?_
                  refine a_iretz (pc := 14) dX2_isList_14 rfl rfl (Nat.le_of_ble_eq_true rfl) (by decide) ⟨rfl, ?_⟩
                  refine a_if_eq (tgt := 21) (pc := 4) dX2_isHeld_4 (by decide) (fun hc => absurd hc (by decide)) (fun _ => ?_)
                  refine a_aload_n (pc := 7) dX2_isHeld_7 (by decide) rfl ?_
                  refine a_getR (y := 274) (pc := 8) dX2_isHeld_8 fl_RX2_14 (by decide) s0_268 rfl rfl ?_
                  refine a_iload_n (pc := 11) dX2_isHeld_11 rfl ?_
                  have ho9 := h.1
                  replace h := h.2
                  refine a_iald (pc := 12) dX2_isHeld_12 (by decide) s0_274 ho9.1 ho9.2 ?_
                  refine a_iconst (pc := 13) dX2_isHeld_13 (by decide) ?_
                  refine a_icmp_eq (tgt := 21) (pc := 14) dX2_isHeld_14 (by decide) (fun hc10 => ?_) (fun hc10 => ?_)
                  · replace h := h.1 hc10
                    refine a_iconst (pc := 21) dX2_isHeld_21 (by decide) ?_
                    refine a_iretz (pc := 22) dX2_isHeld_22 rfl rfl (Nat.le_of_ble_eq_true rfl) (by decide) ⟨rfl, ?_⟩
                    refine a_if_eq (tgt := 49) (pc := 42) dX8_listRefusal_42 (by decide) (fun _ => ?_) (fun hc => absurd (by decide) hc)
                    refine a_bipush (pc := 49) dX8_listRefusal_49 (by decide) (by decide +kernel) ?_
                    exact a_ireti (pc := 51) dX8_listRefusal_51 rfl rfl (Nat.le_of_ble_eq_true rfl) ⟨rfl, h⟩
                  · replace h := h.2 hc10
                    refine a_iconst (pc := 17) dX2_isHeld_17 (by decide) ?_
                    refine a_goto (tgt := 22) (pc := 18) dX2_isHeld_18 (by decide) ?_
                    refine a_iretz (pc := 22) dX2_isHeld_22 rfl rfl (Nat.le_of_ble_eq_true rfl) (by decide) ⟨rfl, ?_⟩
                    refine a_if_eq (tgt := 49) (pc := 42) dX8_listRefusal_42 (by decide) (fun hc => absurd hc (by decide)) (fun _ => ?_)
                    refine a_iconst (pc := 45) dX8_listRefusal_45 (by decide) ?_
                    refine a_goto (tgt := 51) (pc := 46) dX8_listRefusal_46 (by decide) ?_
                    exact a_ireti (pc := 51) dX8_listRefusal_51 rfl rfl (Nat.le_of_ble_eq_true rfl) ⟨rfl, h⟩
theorem E_C_listRefusal {l1 l2 l3 l4 : Int} {M : Mem} {Q : Int → Mem → Prop} (h : AW mX8_listRefusal 0 [(2, 0), (0, l1), (0, l2), (0, l3), (0, l4)] M Q) : Calls mX8_listRefusal [(2, 0), (0, l1), (0, l2), (0, l3), (0, l4)] S0 M Q := calls_of (by decide) (by decide) (Nat.le_of_ble_eq_true rfl) rfl h
set_option maxRecDepth 100000 in
set_option maxHeartbeats 4000000 in
theorem B_C_get_0 {l1 l2 : Int} {M : Mem} {Q : Int → Mem → Prop} (h : ((l1 < 0 → Q (-2000000000) M) ∧ (¬ (l1 < 0) → ((4 ≤ l1 → Q (-2000000000) M) ∧ (¬ (4 ≤ l1) → ((l2 < 0 → Q (-2000000000) M) ∧ (¬ (l2 < 0) → ((0 : Int) ≤ l1 ∧ l1 < 4) ∧ (((M 274 l1) ≤ l2 → Q (-2000000000) M) ∧ (¬ ((M 274 l1) ≤ l2) → ((0 : Int) ≤ l2 ∧ l2 < 20) ∧ Q (M (270 + l1) l2) M))))))))) : AW mX8_get 0 [(2, 0), (0, l1), (0, l2)] M Q := by
  refine a_aload_n (pc := 0) dX8_get_0 (by decide) rfl ?_
  refine a_getR (y := 268) (pc := 1) dX8_get_1 fl_RX8_71 (by decide) s0_0 rfl rfl ?_
  refine a_iload_n (pc := 4) dX8_get_4 rfl ?_
  refine a_iload_n (pc := 5) dX8_get_5 rfl ?_
  refine p_inlV (Ex := _) (As := [(0, l1), (0, l2)]) (st := []) (st1 := fun r => [(0, r)])  (pc := 6) dX8_get_6 ml_RX8_238 (by decide) s0_268 rfl (by decide) (Nat.le_of_ble_eq_true rfl) rfl (fun _ => rfl) (by decide) (by decide) (Nat.le_of_ble_eq_true rfl) rfl ?_
  refine a_iload_n (pc := 0) dX2_hasPlace_0 rfl ?_
  refine p_inlS (Ex := _) (As := [(0, l1)]) (st := []) (st1 := fun r => [(0, r)])  (pc := 1) dX2_hasPlace_1 ml_RX2_24 (by decide) (Nat.le_of_ble_eq_true rfl) rfl (fun _ => rfl) (by decide) (by decide) (Nat.le_of_ble_eq_true rfl) rfl ?_
  refine a_iload_n (pc := 0) dX2_isList_0 rfl ?_
  refine a_if_lt (tgt := 13) (pc := 1) dX2_isList_1 (by decide) (fun hc1 => ?_) (fun hc1 => ?_)
  · replace h := h.1 hc1
    refine a_iconst (pc := 13) dX2_isList_13 (by decide) ?_
    refine a_iretz (pc := 14) dX2_isList_14 rfl rfl (Nat.le_of_ble_eq_true rfl) (by decide) ⟨rfl, ?_⟩
    refine a_if_eq (tgt := 25) (pc := 4) dX2_hasPlace_4 (by decide) (fun _ => ?_) (fun hc => absurd (by decide) hc)
    refine a_iconst (pc := 25) dX2_hasPlace_25 (by decide) ?_
    refine a_iretz (pc := 26) dX2_hasPlace_26 rfl rfl (Nat.le_of_ble_eq_true rfl) (by decide) ⟨rfl, ?_⟩
    refine a_if_ne (tgt := 15) (pc := 9) dX8_get_9 (by decide) (fun hc => absurd rfl hc) (fun _ => ?_)
    refine a_ldc (v := (-2000000000)) (pc := 12) dX8_get_12 kc_RX8_242 (by decide) ?_
    exact a_ireti (pc := 14) dX8_get_14 rfl rfl (Nat.le_of_ble_eq_true rfl) ⟨rfl, h⟩
  · replace h := h.2 hc1
    refine a_iload_n (pc := 4) dX2_isList_4 rfl ?_
    refine a_iconst (pc := 5) dX2_isList_5 (by decide) ?_
    refine a_icmp_ge (tgt := 13) (pc := 6) dX2_isList_6 (by decide) (fun hc2 => ?_) (fun hc2 => ?_)
    · replace h := h.1 hc2
      refine a_iconst (pc := 13) dX2_isList_13 (by decide) ?_
      refine a_iretz (pc := 14) dX2_isList_14 rfl rfl (Nat.le_of_ble_eq_true rfl) (by decide) ⟨rfl, ?_⟩
      refine a_if_eq (tgt := 25) (pc := 4) dX2_hasPlace_4 (by decide) (fun _ => ?_) (fun hc => absurd (by decide) hc)
      refine a_iconst (pc := 25) dX2_hasPlace_25 (by decide) ?_
      refine a_iretz (pc := 26) dX2_hasPlace_26 rfl rfl (Nat.le_of_ble_eq_true rfl) (by decide) ⟨rfl, ?_⟩
      refine a_if_ne (tgt := 15) (pc := 9) dX8_get_9 (by decide) (fun hc => absurd rfl hc) (fun _ => ?_)
      refine a_ldc (v := (-2000000000)) (pc := 12) dX8_get_12 kc_RX8_242 (by decide) ?_
      exact a_ireti (pc := 14) dX8_get_14 rfl rfl (Nat.le_of_ble_eq_true rfl) ⟨rfl, h⟩
    · replace h := h.2 hc2
      refine a_iconst (pc := 9) dX2_isList_9 (by decide) ?_
      refine a_goto (tgt := 14) (pc := 10) dX2_isList_10 (by decide) ?_
      refine a_iretz (pc := 14) dX2_isList_14 rfl rfl (Nat.le_of_ble_eq_true rfl) (by decide) ⟨rfl, ?_⟩
      refine a_if_eq (tgt := 25) (pc := 4) dX2_hasPlace_4 (by decide) (fun hc => absurd hc (by decide)) (fun _ => ?_)
      refine a_iload_n (pc := 7) dX2_hasPlace_7 rfl ?_
      refine a_if_lt (tgt := 25) (pc := 8) dX2_hasPlace_8 (by decide) (fun hc3 => ?_) (fun hc3 => ?_)
      · replace h := h.1 hc3
        refine a_iconst (pc := 25) dX2_hasPlace_25 (by decide) ?_
        refine a_iretz (pc := 26) dX2_hasPlace_26 rfl rfl (Nat.le_of_ble_eq_true rfl) (by decide) ⟨rfl, ?_⟩
        refine a_if_ne (tgt := 15) (pc := 9) dX8_get_9 (by decide) (fun hc => absurd rfl hc) (fun _ => ?_)
        refine a_ldc (v := (-2000000000)) (pc := 12) dX8_get_12 kc_RX8_242 (by decide) ?_
        exact a_ireti (pc := 14) dX8_get_14 rfl rfl (Nat.le_of_ble_eq_true rfl) ⟨rfl, h⟩
      · replace h := h.2 hc3
        refine a_iload_n (pc := 11) dX2_hasPlace_11 rfl ?_
        refine a_aload_n (pc := 12) dX2_hasPlace_12 (by decide) rfl ?_
        refine a_getR (y := 274) (pc := 13) dX2_hasPlace_13 fl_RX2_14 (by decide) s0_268 rfl rfl ?_
        refine a_iload_n (pc := 16) dX2_hasPlace_16 rfl ?_
        have ho4 := h.1
        replace h := h.2
        refine a_iald (pc := 17) dX2_hasPlace_17 (by decide) s0_274 ho4.1 ho4.2 ?_
        refine a_icmp_ge (tgt := 25) (pc := 18) dX2_hasPlace_18 (by decide) (fun hc5 => ?_) (fun hc5 => ?_)
        · replace h := h.1 hc5
          refine a_iconst (pc := 25) dX2_hasPlace_25 (by decide) ?_
          refine a_iretz (pc := 26) dX2_hasPlace_26 rfl rfl (Nat.le_of_ble_eq_true rfl) (by decide) ⟨rfl, ?_⟩
          refine a_if_ne (tgt := 15) (pc := 9) dX8_get_9 (by decide) (fun hc => absurd rfl hc) (fun _ => ?_)
          refine a_ldc (v := (-2000000000)) (pc := 12) dX8_get_12 kc_RX8_242 (by decide) ?_
          exact a_ireti (pc := 14) dX8_get_14 rfl rfl (Nat.le_of_ble_eq_true rfl) ⟨rfl, h⟩
        · replace h := h.2 hc5
          refine a_iconst (pc := 21) dX2_hasPlace_21 (by decide) ?_
          refine a_goto (tgt := 26) (pc := 22) dX2_hasPlace_22 (by decide) ?_
          refine a_iretz (pc := 26) dX2_hasPlace_26 rfl rfl (Nat.le_of_ble_eq_true rfl) (by decide) ⟨rfl, ?_⟩
          refine a_if_ne (tgt := 15) (pc := 9) dX8_get_9 (by decide) (fun _ => ?_) (fun hc => absurd hc (by decide))
          refine a_aload_n (pc := 15) dX8_get_15 (by decide) rfl ?_
          refine a_getR (y := 268) (pc := 16) dX8_get_16 fl_RX8_71 (by decide) s0_0 rfl rfl ?_
          refine a_getR (y := 269) (pc := 19) dX8_get_19 fl_RX8_239 (by decide) s0_268 rfl rfl ?_
          refine a_iload_n (pc := 22) dX8_get_22 rfl ?_
          have hr6 := rw_269 l1 ho4.1 ho4.2
          refine a_aald (y := 270 + l1) (pc := 23) dX8_get_23 (by decide) s0_269 ho4.1 ho4.2 (by omega) ?_
          refine a_iload_n (pc := 24) dX8_get_24 rfl ?_
          have ho7 := h.1
          replace h := h.2
          refine a_iald (pc := 25) dX8_get_25 hr6.1 hr6.2 ho7.1 ho7.2 ?_
          exact a_ireti (pc := 26) dX8_get_26 rfl rfl (Nat.le_of_ble_eq_true rfl) ⟨rfl, h⟩
theorem E_C_get {l1 l2 : Int} {M : Mem} {Q : Int → Mem → Prop} (h : AW mX8_get 0 [(2, 0), (0, l1), (0, l2)] M Q) : Calls mX8_get [(2, 0), (0, l1), (0, l2)] S0 M Q := calls_of (by decide) (by decide) (Nat.le_of_ble_eq_true rfl) rfl h
set_option maxRecDepth 100000 in
set_option maxHeartbeats 4000000 in
theorem B_C_set_0 {l1 l2 l3 : Int} {M : Mem} {Q : Int → Mem → Prop} (h : ((l1 < 0 → Q (-1) M) ∧ (¬ (l1 < 0) → ((4 ≤ l1 → Q (-1) M) ∧ (¬ (4 ≤ l1) → ((0 : Int) ≤ l1 ∧ l1 < 4) ∧ (((M 274 l1) = (-1) → Q (-11) M) ∧ (¬ (M 274 l1) = (-1) → ((l2 < 0 → Q (-13) M) ∧ (¬ (l2 < 0) → (((M 274 l1) ≤ l2 → Q (-13) M) ∧ (¬ ((M 274 l1) ≤ l2) → ((0 : Int) ≤ l2 ∧ l2 < 20) ∧ Q 1 (up2 M (270 + l1) l2 l3)))))))))))) : AW mX8_set 0 [(2, 0), (0, l1), (0, l2), (0, l3)] M Q := by
  refine a_iload_n (pc := 0) dX8_set_0 rfl ?_
  refine p_inlS (Ex := _) (As := [(0, l1)]) (st := []) (st1 := fun r => [(0, r)])  (pc := 1) dX8_set_1 ml_RX8_229 (by decide) (Nat.le_of_ble_eq_true rfl) rfl (fun _ => rfl) (by decide) (by decide) (Nat.le_of_ble_eq_true rfl) rfl ?_
  refine a_iload_n (pc := 0) dX2_isList_0 rfl ?_
  refine a_if_lt (tgt := 13) (pc := 1) dX2_isList_1 (by decide) (fun hc1 => ?_) (fun hc1 => ?_)
  · replace h := h.1 hc1
    refine a_iconst (pc := 13) dX2_isList_13 (by decide) ?_
    refine a_iretz (pc := 14) dX2_isList_14 rfl rfl (Nat.le_of_ble_eq_true rfl) (by decide) ⟨rfl, ?_⟩
    refine a_if_ne (tgt := 9) (pc := 4) dX8_set_4 (by decide) (fun hc => absurd rfl hc) (fun _ => ?_)
    refine a_iconst (pc := 7) dX8_set_7 (by decide) ?_
    exact a_ireti (pc := 8) dX8_set_8 rfl rfl (Nat.le_of_ble_eq_true rfl) ⟨rfl, h⟩
  · replace h := h.2 hc1
    refine a_iload_n (pc := 4) dX2_isList_4 rfl ?_
    refine a_iconst (pc := 5) dX2_isList_5 (by decide) ?_
    refine a_icmp_ge (tgt := 13) (pc := 6) dX2_isList_6 (by decide) (fun hc2 => ?_) (fun hc2 => ?_)
    · replace h := h.1 hc2
      refine a_iconst (pc := 13) dX2_isList_13 (by decide) ?_
      refine a_iretz (pc := 14) dX2_isList_14 rfl rfl (Nat.le_of_ble_eq_true rfl) (by decide) ⟨rfl, ?_⟩
      refine a_if_ne (tgt := 9) (pc := 4) dX8_set_4 (by decide) (fun hc => absurd rfl hc) (fun _ => ?_)
      refine a_iconst (pc := 7) dX8_set_7 (by decide) ?_
      exact a_ireti (pc := 8) dX8_set_8 rfl rfl (Nat.le_of_ble_eq_true rfl) ⟨rfl, h⟩
    · replace h := h.2 hc2
      refine a_iconst (pc := 9) dX2_isList_9 (by decide) ?_
      refine a_goto (tgt := 14) (pc := 10) dX2_isList_10 (by decide) ?_
      refine a_iretz (pc := 14) dX2_isList_14 rfl rfl (Nat.le_of_ble_eq_true rfl) (by decide) ⟨rfl, ?_⟩
      refine a_if_ne (tgt := 9) (pc := 4) dX8_set_4 (by decide) (fun _ => ?_) (fun hc => absurd hc (by decide))
      refine a_aload_n (pc := 9) dX8_set_9 (by decide) rfl ?_
      refine a_getR (y := 268) (pc := 10) dX8_set_10 fl_RX8_71 (by decide) s0_0 rfl rfl ?_
      refine a_iload_n (pc := 13) dX8_set_13 rfl ?_
      refine p_inlV (Ex := _) (As := [(0, l1)]) (st := []) (st1 := fun r => [(0, r)])  (pc := 14) dX8_set_14 ml_RX8_235 (by decide) s0_268 rfl (by decide) (Nat.le_of_ble_eq_true rfl) rfl (fun _ => rfl) (by decide) (by decide) (Nat.le_of_ble_eq_true rfl) rfl ?_
      refine a_iload_n (pc := 0) dX2_isHeld_0 rfl ?_
      refine p_inlS (Ex := _) (As := [(0, l1)]) (st := []) (st1 := fun r => [(0, r)])  (pc := 1) dX2_isHeld_1 ml_RX2_24 (by decide) (Nat.le_of_ble_eq_true rfl) rfl (fun _ => rfl) (by decide) (by decide) (Nat.le_of_ble_eq_true rfl) rfl ?_
      refine a_iload_n (pc := 0) dX2_isList_0 rfl ?_
      refine a_if_lt (tgt := 13) (pc := 1) dX2_isList_1 (by decide) (fun hc => absurd hc hc1) (fun _ => ?_)
      refine a_iload_n (pc := 4) dX2_isList_4 rfl ?_
      refine a_iconst (pc := 5) dX2_isList_5 (by decide) ?_
      refine a_icmp_ge (tgt := 13) (pc := 6) dX2_isList_6 (by decide) (fun hc => absurd hc hc2) (fun _ => ?_)
      refine a_iconst (pc := 9) dX2_isList_9 (by decide) ?_
      refine a_goto (tgt := 14) (pc := 10) dX2_isList_10 (by decide) ?_
      refine a_iretz (pc := 14) dX2_isList_14 rfl rfl (Nat.le_of_ble_eq_true rfl) (by decide) ⟨rfl, ?_⟩
      refine a_if_eq (tgt := 21) (pc := 4) dX2_isHeld_4 (by decide) (fun hc => absurd hc (by decide)) (fun _ => ?_)
      refine a_aload_n (pc := 7) dX2_isHeld_7 (by decide) rfl ?_
      refine a_getR (y := 274) (pc := 8) dX2_isHeld_8 fl_RX2_14 (by decide) s0_268 rfl rfl ?_
      refine a_iload_n (pc := 11) dX2_isHeld_11 rfl ?_
      have ho3 := h.1
      replace h := h.2
      refine a_iald (pc := 12) dX2_isHeld_12 (by decide) s0_274 ho3.1 ho3.2 ?_
      refine a_iconst (pc := 13) dX2_isHeld_13 (by decide) ?_
      refine a_icmp_eq (tgt := 21) (pc := 14) dX2_isHeld_14 (by decide) (fun hc4 => ?_) (fun hc4 => ?_)
      · replace h := h.1 hc4
        refine a_iconst (pc := 21) dX2_isHeld_21 (by decide) ?_
        refine a_iretz (pc := 22) dX2_isHeld_22 rfl rfl (Nat.le_of_ble_eq_true rfl) (by decide) ⟨rfl, ?_⟩
        refine a_if_ne (tgt := 23) (pc := 17) dX8_set_17 (by decide) (fun hc => absurd rfl hc) (fun _ => ?_)
        refine a_bipush (pc := 20) dX8_set_20 (by decide) (by decide +kernel) ?_
        exact a_ireti (pc := 22) dX8_set_22 rfl rfl (Nat.le_of_ble_eq_true rfl) ⟨rfl, h⟩
      · replace h := h.2 hc4
        refine a_iconst (pc := 17) dX2_isHeld_17 (by decide) ?_
        refine a_goto (tgt := 22) (pc := 18) dX2_isHeld_18 (by decide) ?_
        refine a_iretz (pc := 22) dX2_isHeld_22 rfl rfl (Nat.le_of_ble_eq_true rfl) (by decide) ⟨rfl, ?_⟩
        refine a_if_ne (tgt := 23) (pc := 17) dX8_set_17 (by decide) (fun _ => ?_) (fun hc => absurd hc (by decide))
        refine a_aload_n (pc := 23) dX8_set_23 (by decide) rfl ?_
        refine a_getR (y := 268) (pc := 24) dX8_set_24 fl_RX8_71 (by decide) s0_0 rfl rfl ?_
        refine a_iload_n (pc := 27) dX8_set_27 rfl ?_
        refine a_iload_n (pc := 28) dX8_set_28 rfl ?_
        refine p_inlV (Ex := _) (As := [(0, l1), (0, l2)]) (st := []) (st1 := fun r => [(0, r)])  (pc := 29) dX8_set_29 ml_RX8_238 (by decide) s0_268 rfl (by decide) (Nat.le_of_ble_eq_true rfl) rfl (fun _ => rfl) (by decide) (by decide) (Nat.le_of_ble_eq_true rfl) rfl ?_
        refine a_iload_n (pc := 0) dX2_hasPlace_0 rfl ?_
        refine p_inlS (Ex := _) (As := [(0, l1)]) (st := []) (st1 := fun r => [(0, r)])  (pc := 1) dX2_hasPlace_1 ml_RX2_24 (by decide) (Nat.le_of_ble_eq_true rfl) rfl (fun _ => rfl) (by decide) (by decide) (Nat.le_of_ble_eq_true rfl) rfl ?_
        refine a_iload_n (pc := 0) dX2_isList_0 rfl ?_
        refine a_if_lt (tgt := 13) (pc := 1) dX2_isList_1 (by decide) (fun hc => absurd hc hc1) (fun _ => ?_)
        refine a_iload_n (pc := 4) dX2_isList_4 rfl ?_
        refine a_iconst (pc := 5) dX2_isList_5 (by decide) ?_
        refine a_icmp_ge (tgt := 13) (pc := 6) dX2_isList_6 (by decide) (fun hc => absurd hc hc2) (fun _ => ?_)
        refine a_iconst (pc := 9) dX2_isList_9 (by decide) ?_
        refine a_goto (tgt := 14) (pc := 10) dX2_isList_10 (by decide) ?_
        refine a_iretz (pc := 14) dX2_isList_14 rfl rfl (Nat.le_of_ble_eq_true rfl) (by decide) ⟨rfl, ?_⟩
        refine a_if_eq (tgt := 25) (pc := 4) dX2_hasPlace_4 (by decide) (fun hc => absurd hc (by decide)) (fun _ => ?_)
        refine a_iload_n (pc := 7) dX2_hasPlace_7 rfl ?_
        refine a_if_lt (tgt := 25) (pc := 8) dX2_hasPlace_8 (by decide) (fun hc5 => ?_) (fun hc5 => ?_)
        · replace h := h.1 hc5
          refine a_iconst (pc := 25) dX2_hasPlace_25 (by decide) ?_
          refine a_iretz (pc := 26) dX2_hasPlace_26 rfl rfl (Nat.le_of_ble_eq_true rfl) (by decide) ⟨rfl, ?_⟩
          refine a_if_ne (tgt := 38) (pc := 32) dX8_set_32 (by decide) (fun hc => absurd rfl hc) (fun _ => ?_)
          refine a_bipush (pc := 35) dX8_set_35 (by decide) (by decide +kernel) ?_
          exact a_ireti (pc := 37) dX8_set_37 rfl rfl (Nat.le_of_ble_eq_true rfl) ⟨rfl, h⟩
        · replace h := h.2 hc5
          refine a_iload_n (pc := 11) dX2_hasPlace_11 rfl ?_
          refine a_aload_n (pc := 12) dX2_hasPlace_12 (by decide) rfl ?_
          refine a_getR (y := 274) (pc := 13) dX2_hasPlace_13 fl_RX2_14 (by decide) s0_268 rfl rfl ?_
          refine a_iload_n (pc := 16) dX2_hasPlace_16 rfl ?_
          refine a_iald (pc := 17) dX2_hasPlace_17 (by decide) s0_274 ho3.1 ho3.2 ?_
          refine a_icmp_ge (tgt := 25) (pc := 18) dX2_hasPlace_18 (by decide) (fun hc6 => ?_) (fun hc6 => ?_)
          · replace h := h.1 hc6
            refine a_iconst (pc := 25) dX2_hasPlace_25 (by decide) ?_
            refine a_iretz (pc := 26) dX2_hasPlace_26 rfl rfl (Nat.le_of_ble_eq_true rfl) (by decide) ⟨rfl, ?_⟩
            refine a_if_ne (tgt := 38) (pc := 32) dX8_set_32 (by decide) (fun hc => absurd rfl hc) (fun _ => ?_)
            refine a_bipush (pc := 35) dX8_set_35 (by decide) (by decide +kernel) ?_
            exact a_ireti (pc := 37) dX8_set_37 rfl rfl (Nat.le_of_ble_eq_true rfl) ⟨rfl, h⟩
          · replace h := h.2 hc6
            refine a_iconst (pc := 21) dX2_hasPlace_21 (by decide) ?_
            refine a_goto (tgt := 26) (pc := 22) dX2_hasPlace_22 (by decide) ?_
            refine a_iretz (pc := 26) dX2_hasPlace_26 rfl rfl (Nat.le_of_ble_eq_true rfl) (by decide) ⟨rfl, ?_⟩
            refine a_if_ne (tgt := 38) (pc := 32) dX8_set_32 (by decide) (fun _ => ?_) (fun hc => absurd hc (by decide))
            refine a_aload_n (pc := 38) dX8_set_38 (by decide) rfl ?_
            refine a_getR (y := 268) (pc := 39) dX8_set_39 fl_RX8_71 (by decide) s0_0 rfl rfl ?_
            refine a_getR (y := 269) (pc := 42) dX8_set_42 fl_RX8_239 (by decide) s0_268 rfl rfl ?_
            refine a_iload_n (pc := 45) dX8_set_45 rfl ?_
            have hr7 := rw_269 l1 ho3.1 ho3.2
            refine a_aald (y := 270 + l1) (pc := 46) dX8_set_46 (by decide) s0_269 ho3.1 ho3.2 (by omega) ?_
            refine a_iload_n (pc := 47) dX8_set_47 rfl ?_
            refine a_iload_n (pc := 48) dX8_set_48 rfl ?_
            have ho8 := h.1
            replace h := h.2
            refine a_iast (pc := 49) dX8_set_49 hr7.1 hr7.2 ho8.1 ho8.2 ?_
            refine a_iconst (pc := 50) dX8_set_50 (by decide) ?_
            exact a_ireti (pc := 51) dX8_set_51 rfl rfl (Nat.le_of_ble_eq_true rfl) ⟨rfl, h⟩
theorem E_C_set {l1 l2 l3 : Int} {M : Mem} {Q : Int → Mem → Prop} (h : AW mX8_set 0 [(2, 0), (0, l1), (0, l2), (0, l3)] M Q) : Calls mX8_set [(2, 0), (0, l1), (0, l2), (0, l3)] S0 M Q := calls_of (by decide) (by decide) (Nat.le_of_ble_eq_true rfl) rfl h
set_option maxRecDepth 100000 in
set_option maxHeartbeats 4000000 in
theorem B_C_walk_0 {l1 l2 l3 : Int} {M : Mem} {Q : Int → Mem → Prop} (h : Calls mX8_foot [(2, 0), (0, l1), (0, l2)] S0 M (fun r1 M2 => ((¬ r1 = (-1) → ((l3 < 0 → Q (-2) M2) ∧ (¬ (l3 < 0) → ((l3 ≤ 60 → ((0 : Int) ≤ l1 ∧ l1 < 12) ∧ ((0 : Int) ≤ l2 ∧ l2 < 12) ∧ Q r1 (up2 (up2 M2 (65 + l1) l2 l3) (65 + l2) l1 l3)) ∧ (¬ (l3 ≤ 60) → Q (-2) M2))))) ∧ (r1 = (-1) → Q (-1) M2)))) : AW mX8_walk 0 [(2, 0), (0, l1), (0, l2), (0, l3), (9, 0)] M Q := by
  refine a_aload_n (pc := 0) dX8_walk_0 (by decide) rfl ?_
  refine a_iload_n (pc := 1) dX8_walk_1 rfl ?_
  refine a_iload_n (pc := 2) dX8_walk_2 rfl ?_
  refine p_callV (As := [(0, l1), (0, l2)]) (st := []) (st1 := fun r => [(0, r)])  (pc := 3) dX8_walk_3 ml_RX8_135 (by decide) s0_0 rfl (by decide) (Nat.le_of_ble_eq_true rfl) rfl (fun _ => rfl) h (fun r1 M2 h => ?_)
  refine a_istore (ls1 := [(2, 0), (0, l1), (0, l2), (0, l3), (0, r1)]) (pc := 6) dX8_walk_6 (by decide) (hp1 (t := 0) rfl (by decide)) rfl ?_
  refine a_iload (pc := 8) dX8_walk_8 rfl ?_
  refine a_iconst (pc := 10) dX8_walk_10 (by decide) ?_
  refine a_icmp_ne (tgt := 16) (pc := 11) dX8_walk_11 (by decide) (fun hc3 => ?_) (fun hc3 => ?_)
  · replace h := h.1 hc3
    refine a_iload_n (pc := 16) dX8_walk_16 rfl ?_
    refine a_if_lt (tgt := 26) (pc := 17) dX8_walk_17 (by decide) (fun hc4 => ?_) (fun hc4 => ?_)
    · replace h := h.1 hc4
      refine a_bipush (pc := 26) dX8_walk_26 (by decide) (by decide +kernel) ?_
      exact a_ireti (pc := 28) dX8_walk_28 rfl rfl (Nat.le_of_ble_eq_true rfl) ⟨rfl, h⟩
    · replace h := h.2 hc4
      refine a_iload_n (pc := 20) dX8_walk_20 rfl ?_
      refine a_bipush (pc := 21) dX8_walk_21 (by decide) (by decide +kernel) ?_
      refine a_icmp_le (tgt := 29) (pc := 23) dX8_walk_23 (by decide) (fun hc5 => ?_) (fun hc5 => ?_)
      · replace h := h.1 hc5
        refine a_aload_n (pc := 29) dX8_walk_29 (by decide) rfl ?_
        refine a_getR (y := 1) (pc := 30) dX8_walk_30 fl_RX8_10 (by decide) s0_0 rfl rfl ?_
        refine a_iload_n (pc := 33) dX8_walk_33 rfl ?_
        refine a_iload_n (pc := 34) dX8_walk_34 rfl ?_
        refine a_iload_n (pc := 35) dX8_walk_35 rfl ?_
        refine p_inlV (Ex := _) (As := [(0, l1), (0, l2), (0, l3)]) (st := []) (st1 := fun r => [])  (pc := 36) dX8_walk_36 ml_RX8_139 (by decide) s0_1 rfl (by decide) (Nat.le_of_ble_eq_true rfl) rfl (fun _ => rfl) (by decide) (by decide) (Nat.le_of_ble_eq_true rfl) rfl ?_
        refine a_aload_n (pc := 0) dX3_putPath_0 (by decide) rfl ?_
        refine a_getR (y := 64) (pc := 1) dX3_putPath_1 fl_RX3_36 (by decide) s0_1 rfl rfl ?_
        refine a_iload_n (pc := 4) dX3_putPath_4 rfl ?_
        have ho6 := h.1
        replace h := h.2
        have hr7 := rw_64 l1 ho6.1 ho6.2
        refine a_aald (y := 65 + l1) (pc := 5) dX3_putPath_5 (by decide) s0_64 ho6.1 ho6.2 (by omega) ?_
        refine a_iload_n (pc := 6) dX3_putPath_6 rfl ?_
        refine a_iload_n (pc := 7) dX3_putPath_7 rfl ?_
        have ho8 := h.1
        replace h := h.2
        refine a_iast (pc := 8) dX3_putPath_8 hr7.1 hr7.2 ho8.1 ho8.2 ?_
        refine a_aload_n (pc := 9) dX3_putPath_9 (by decide) rfl ?_
        refine a_getR (y := 64) (pc := 10) dX3_putPath_10 fl_RX3_36 (by decide) s0_1 rfl rfl ?_
        refine a_iload_n (pc := 13) dX3_putPath_13 rfl ?_
        have hr9 := rw_64 l2 ho8.1 ho8.2
        refine a_aald (y := 65 + l2) (pc := 14) dX3_putPath_14 (by decide) s0_64 ho8.1 ho8.2 (by omega) ?_
        refine a_iload_n (pc := 15) dX3_putPath_15 rfl ?_
        refine a_iload_n (pc := 16) dX3_putPath_16 rfl ?_
        refine a_iast (pc := 17) dX3_putPath_17 hr9.1 hr9.2 ho6.1 ho6.2 ?_
        refine a_vret (pc := 18) dX3_putPath_18 rfl rfl (Nat.le_of_ble_eq_true rfl) ⟨rfl, ?_⟩
        refine a_iload (pc := 39) dX8_walk_39 rfl ?_
        exact a_ireti (pc := 41) dX8_walk_41 rfl rfl (Nat.le_of_ble_eq_true rfl) ⟨rfl, h⟩
      · replace h := h.2 hc5
        refine a_bipush (pc := 26) dX8_walk_26 (by decide) (by decide +kernel) ?_
        exact a_ireti (pc := 28) dX8_walk_28 rfl rfl (Nat.le_of_ble_eq_true rfl) ⟨rfl, h⟩
  · replace h := h.2 hc3
    refine a_iconst (pc := 14) dX8_walk_14 (by decide) ?_
    exact a_ireti (pc := 15) dX8_walk_15 rfl rfl (Nat.le_of_ble_eq_true rfl) ⟨rfl, h⟩
theorem E_C_walk {l1 l2 l3 : Int} {M : Mem} {Q : Int → Mem → Prop} (h : AW mX8_walk 0 [(2, 0), (0, l1), (0, l2), (0, l3), (9, 0)] M Q) : Calls mX8_walk [(2, 0), (0, l1), (0, l2), (0, l3)] S0 M Q := calls_of (by decide) (by decide) (Nat.le_of_ble_eq_true rfl) rfl h
set_option maxRecDepth 100000 in
set_option maxHeartbeats 4000000 in
theorem B_C_runs_0 {l1 l2 : Int} {M : Mem} {Q : Int → Mem → Prop} (h : ((l1 < 0 → Q (-1) M) ∧ (¬ (l1 < 0) → (((M 1 0) ≤ l1 → Q (-1) M) ∧ (¬ ((M 1 0) ≤ l1) → ((l2 < 0 → Q (-1) M) ∧ (¬ (l2 < 0) → ((0 : Int) ≤ l1 ∧ l1 < 8) ∧ (((M 4 l1) ≤ l2 → Q (-1) M) ∧ (¬ ((M 4 l1) ≤ l2) → (-2147483648 ≤ l1 * 6 ∧ l1 * 6 ≤ 2147483647) ∧ (-2147483648 ≤ (l1 * 6) + l2 ∧ (l1 * 6) + l2 ≤ 2147483647) ∧ ((0 : Int) ≤ (l1 * 6) + l2 ∧ (l1 * 6) + l2 < 48) ∧ ((¬ (M 63 ((l1 * 6) + l2)) = 1 → Q 0 M) ∧ ((M 63 ((l1 * 6) + l2)) = 1 → Q 1 M))))))))))) : AW mX8_runs 0 [(2, 0), (0, l1), (0, l2)] M Q := by
  refine a_aload_n (pc := 0) dX8_runs_0 (by decide) rfl ?_
  refine a_getR (y := 1) (pc := 1) dX8_runs_1 fl_RX8_10 (by decide) s0_0 rfl rfl ?_
  refine a_iload_n (pc := 4) dX8_runs_4 rfl ?_
  refine a_iload_n (pc := 5) dX8_runs_5 rfl ?_
  refine p_inlV (Ex := _) (As := [(0, l1), (0, l2)]) (st := []) (st1 := fun r => [(0, r)])  (pc := 6) dX8_runs_6 ml_RX8_119 (by decide) s0_1 rfl (by decide) (Nat.le_of_ble_eq_true rfl) rfl (fun _ => rfl) (by decide) (by decide) (Nat.le_of_ble_eq_true rfl) rfl ?_
  refine a_aload_n (pc := 0) dX3_hasTrip_0 (by decide) rfl ?_
  refine a_iload_n (pc := 1) dX3_hasTrip_1 rfl ?_
  refine p_inlV (Ex := _) (As := [(0, l1)]) (st := []) (st1 := fun r => [(0, r)])  (pc := 2) dX3_hasTrip_2 ml_RX3_45 (by decide) s0_1 rfl (by decide) (Nat.le_of_ble_eq_true rfl) rfl (fun _ => rfl) (by decide) (by decide) (Nat.le_of_ble_eq_true rfl) rfl ?_
  refine a_iload_n (pc := 0) dX3_hasLine_0 rfl ?_
  refine a_if_lt (tgt := 16) (pc := 1) dX3_hasLine_1 (by decide) (fun hc1 => ?_) (fun hc1 => ?_)
  · replace h := h.1 hc1
    refine a_iconst (pc := 16) dX3_hasLine_16 (by decide) ?_
    refine a_iretz (pc := 17) dX3_hasLine_17 rfl rfl (Nat.le_of_ble_eq_true rfl) (by decide) ⟨rfl, ?_⟩
    refine a_if_eq (tgt := 26) (pc := 5) dX3_hasTrip_5 (by decide) (fun _ => ?_) (fun hc => absurd (by decide) hc)
    refine a_iconst (pc := 26) dX3_hasTrip_26 (by decide) ?_
    refine a_iretz (pc := 27) dX3_hasTrip_27 rfl rfl (Nat.le_of_ble_eq_true rfl) (by decide) ⟨rfl, ?_⟩
    refine a_if_ne (tgt := 14) (pc := 9) dX8_runs_9 (by decide) (fun hc => absurd rfl hc) (fun _ => ?_)
    refine a_iconst (pc := 12) dX8_runs_12 (by decide) ?_
    exact a_ireti (pc := 13) dX8_runs_13 rfl rfl (Nat.le_of_ble_eq_true rfl) ⟨rfl, h⟩
  · replace h := h.2 hc1
    refine a_iload_n (pc := 4) dX3_hasLine_4 rfl ?_
    refine a_aload_n (pc := 5) dX3_hasLine_5 (by decide) rfl ?_
    refine a_getI (y := 0) (pc := 6) dX3_hasLine_6 fl_RX3_9 (by decide) s0_1 (Or.inl rfl) rfl ?_
    refine a_icmp_ge (tgt := 16) (pc := 9) dX3_hasLine_9 (by decide) (fun hc2 => ?_) (fun hc2 => ?_)
    · replace h := h.1 hc2
      refine a_iconst (pc := 16) dX3_hasLine_16 (by decide) ?_
      refine a_iretz (pc := 17) dX3_hasLine_17 rfl rfl (Nat.le_of_ble_eq_true rfl) (by decide) ⟨rfl, ?_⟩
      refine a_if_eq (tgt := 26) (pc := 5) dX3_hasTrip_5 (by decide) (fun _ => ?_) (fun hc => absurd (by decide) hc)
      refine a_iconst (pc := 26) dX3_hasTrip_26 (by decide) ?_
      refine a_iretz (pc := 27) dX3_hasTrip_27 rfl rfl (Nat.le_of_ble_eq_true rfl) (by decide) ⟨rfl, ?_⟩
      refine a_if_ne (tgt := 14) (pc := 9) dX8_runs_9 (by decide) (fun hc => absurd rfl hc) (fun _ => ?_)
      refine a_iconst (pc := 12) dX8_runs_12 (by decide) ?_
      exact a_ireti (pc := 13) dX8_runs_13 rfl rfl (Nat.le_of_ble_eq_true rfl) ⟨rfl, h⟩
    · replace h := h.2 hc2
      refine a_iconst (pc := 12) dX3_hasLine_12 (by decide) ?_
      refine a_goto (tgt := 17) (pc := 13) dX3_hasLine_13 (by decide) ?_
      refine a_iretz (pc := 17) dX3_hasLine_17 rfl rfl (Nat.le_of_ble_eq_true rfl) (by decide) ⟨rfl, ?_⟩
      refine a_if_eq (tgt := 26) (pc := 5) dX3_hasTrip_5 (by decide) (fun hc => absurd hc (by decide)) (fun _ => ?_)
      refine a_iload_n (pc := 8) dX3_hasTrip_8 rfl ?_
      refine a_if_lt (tgt := 26) (pc := 9) dX3_hasTrip_9 (by decide) (fun hc3 => ?_) (fun hc3 => ?_)
      · replace h := h.1 hc3
        refine a_iconst (pc := 26) dX3_hasTrip_26 (by decide) ?_
        refine a_iretz (pc := 27) dX3_hasTrip_27 rfl rfl (Nat.le_of_ble_eq_true rfl) (by decide) ⟨rfl, ?_⟩
        refine a_if_ne (tgt := 14) (pc := 9) dX8_runs_9 (by decide) (fun hc => absurd rfl hc) (fun _ => ?_)
        refine a_iconst (pc := 12) dX8_runs_12 (by decide) ?_
        exact a_ireti (pc := 13) dX8_runs_13 rfl rfl (Nat.le_of_ble_eq_true rfl) ⟨rfl, h⟩
      · replace h := h.2 hc3
        refine a_iload_n (pc := 12) dX3_hasTrip_12 rfl ?_
        refine a_aload_n (pc := 13) dX3_hasTrip_13 (by decide) rfl ?_
        refine a_getR (y := 4) (pc := 14) dX3_hasTrip_14 fl_RX3_22 (by decide) s0_1 rfl rfl ?_
        refine a_iload_n (pc := 17) dX3_hasTrip_17 rfl ?_
        have ho4 := h.1
        replace h := h.2
        refine a_iald (pc := 18) dX3_hasTrip_18 (by decide) s0_4 ho4.1 ho4.2 ?_
        refine a_icmp_ge (tgt := 26) (pc := 19) dX3_hasTrip_19 (by decide) (fun hc5 => ?_) (fun hc5 => ?_)
        · replace h := h.1 hc5
          refine a_iconst (pc := 26) dX3_hasTrip_26 (by decide) ?_
          refine a_iretz (pc := 27) dX3_hasTrip_27 rfl rfl (Nat.le_of_ble_eq_true rfl) (by decide) ⟨rfl, ?_⟩
          refine a_if_ne (tgt := 14) (pc := 9) dX8_runs_9 (by decide) (fun hc => absurd rfl hc) (fun _ => ?_)
          refine a_iconst (pc := 12) dX8_runs_12 (by decide) ?_
          exact a_ireti (pc := 13) dX8_runs_13 rfl rfl (Nat.le_of_ble_eq_true rfl) ⟨rfl, h⟩
        · replace h := h.2 hc5
          refine a_iconst (pc := 22) dX3_hasTrip_22 (by decide) ?_
          refine a_goto (tgt := 27) (pc := 23) dX3_hasTrip_23 (by decide) ?_
          refine a_iretz (pc := 27) dX3_hasTrip_27 rfl rfl (Nat.le_of_ble_eq_true rfl) (by decide) ⟨rfl, ?_⟩
          refine a_if_ne (tgt := 14) (pc := 9) dX8_runs_9 (by decide) (fun _ => ?_) (fun hc => absurd hc (by decide))
          refine a_aload_n (pc := 14) dX8_runs_14 (by decide) rfl ?_
          refine a_getR (y := 1) (pc := 15) dX8_runs_15 fl_RX8_10 (by decide) s0_0 rfl rfl ?_
          refine a_iload_n (pc := 18) dX8_runs_18 rfl ?_
          refine a_iload_n (pc := 19) dX8_runs_19 rfl ?_
          refine p_inlV (Ex := _) (As := [(0, l1), (0, l2)]) (st := []) (st1 := fun r => [(0, r)])  (pc := 20) dX8_runs_20 ml_RX8_126 (by decide) s0_1 rfl (by decide) (Nat.le_of_ble_eq_true rfl) rfl (fun _ => rfl) (by decide) (by decide) (Nat.le_of_ble_eq_true rfl) rfl ?_
          refine a_aload_n (pc := 0) dX3_isRunning_0 (by decide) rfl ?_
          refine a_getR (y := 63) (pc := 1) dX3_isRunning_1 fl_RX3_33 (by decide) s0_1 rfl rfl ?_
          refine a_iload_n (pc := 4) dX3_isRunning_4 rfl ?_
          refine a_iload_n (pc := 5) dX3_isRunning_5 rfl ?_
          refine p_inlS (Ex := _) (As := [(0, l1), (0, l2)]) (st := [(2, 63)]) (st1 := fun r => [(0, r), (2, 63)])  (pc := 6) dX3_isRunning_6 ml_RX3_49 (by decide) (Nat.le_of_ble_eq_true rfl) rfl (fun _ => rfl) (by decide) (by decide) (Nat.le_of_ble_eq_true rfl) rfl ?_
          refine a_iload_n (pc := 0) dX3_rowOf_0 rfl ?_
          refine a_bipush (pc := 1) dX3_rowOf_1 (by decide) (by decide +kernel) ?_
          have ho6 := h.1
          replace h := h.2
          refine a_imul (pc := 3) dX3_rowOf_3 ho6 ?_
          refine a_iload_n (pc := 4) dX3_rowOf_4 rfl ?_
          have ho7 := h.1
          replace h := h.2
          refine a_iadd (pc := 5) dX3_rowOf_5 ho7 ?_
          refine a_ireti (pc := 6) dX3_rowOf_6 rfl rfl (Nat.le_of_ble_eq_true rfl) ⟨rfl, ?_⟩
          have ho8 := h.1
          replace h := h.2
          refine a_iald (pc := 9) dX3_isRunning_9 (by decide) s0_63 ho8.1 ho8.2 ?_
          refine a_iconst (pc := 10) dX3_isRunning_10 (by decide) ?_
          refine a_icmp_ne (tgt := 18) (pc := 11) dX3_isRunning_11 (by decide) (fun hc9 => ?_) (fun hc9 => ?_)
          · replace h := h.1 hc9
            refine a_iconst (pc := 18) dX3_isRunning_18 (by decide) ?_
            refine a_iretz (pc := 19) dX3_isRunning_19 rfl rfl (Nat.le_of_ble_eq_true rfl) (by decide) ⟨rfl, ?_⟩
            refine a_if_eq (tgt := 30) (pc := 23) dX8_runs_23 (by decide) (fun _ => ?_) (fun hc => absurd (by decide) hc)
            refine a_iconst (pc := 30) dX8_runs_30 (by decide) ?_
            exact a_ireti (pc := 31) dX8_runs_31 rfl rfl (Nat.le_of_ble_eq_true rfl) ⟨rfl, h⟩
          · replace h := h.2 hc9
            refine a_iconst (pc := 14) dX3_isRunning_14 (by decide) ?_
            refine a_goto (tgt := 19) (pc := 15) dX3_isRunning_15 (by decide) ?_
            refine a_iretz (pc := 19) dX3_isRunning_19 rfl rfl (Nat.le_of_ble_eq_true rfl) (by decide) ⟨rfl, ?_⟩
            refine a_if_eq (tgt := 30) (pc := 23) dX8_runs_23 (by decide) (fun hc => absurd hc (by decide)) (fun _ => ?_)
            refine a_iconst (pc := 26) dX8_runs_26 (by decide) ?_
            refine a_goto (tgt := 31) (pc := 27) dX8_runs_27 (by decide) ?_
            exact a_ireti (pc := 31) dX8_runs_31 rfl rfl (Nat.le_of_ble_eq_true rfl) ⟨rfl, h⟩
theorem E_C_runs {l1 l2 : Int} {M : Mem} {Q : Int → Mem → Prop} (h : AW mX8_runs 0 [(2, 0), (0, l1), (0, l2)] M Q) : Calls mX8_runs [(2, 0), (0, l1), (0, l2)] S0 M Q := calls_of (by decide) (by decide) (Nat.le_of_ble_eq_true rfl) rfl h
set_option maxRecDepth 100000 in
set_option maxHeartbeats 4000000 in
theorem B_C_stop_0 {l1 l2 : Int} {M : Mem} {Q : Int → Mem → Prop} (h : ((l1 < 0 → Q (-1) M) ∧ (¬ (l1 < 0) → (((M 1 0) ≤ l1 → Q (-1) M) ∧ (¬ ((M 1 0) ≤ l1) → ((l2 < 0 → Q (-1) M) ∧ (¬ (l2 < 0) → ((0 : Int) ≤ l1 ∧ l1 < 8) ∧ (((M 3 l1) ≤ l2 → Q (-1) M) ∧ (¬ ((M 3 l1) ≤ l2) → ((0 : Int) ≤ l2 ∧ l2 < 6) ∧ Q (M (6 + l1) l2) M))))))))) : AW mX8_stop 0 [(2, 0), (0, l1), (0, l2)] M Q := by
  refine a_aload_n (pc := 0) dX8_stop_0 (by decide) rfl ?_
  refine a_getR (y := 1) (pc := 1) dX8_stop_1 fl_RX8_10 (by decide) s0_0 rfl rfl ?_
  refine a_iload_n (pc := 4) dX8_stop_4 rfl ?_
  refine a_iload_n (pc := 5) dX8_stop_5 rfl ?_
  refine p_inlV (Ex := _) (As := [(0, l1), (0, l2)]) (st := []) (st1 := fun r => [(0, r)])  (pc := 6) dX8_stop_6 ml_RX8_111 (by decide) s0_1 rfl (by decide) (Nat.le_of_ble_eq_true rfl) rfl (fun _ => rfl) (by decide) (by decide) (Nat.le_of_ble_eq_true rfl) rfl ?_
  refine a_aload_n (pc := 0) dX3_hasPlace_0 (by decide) rfl ?_
  refine a_iload_n (pc := 1) dX3_hasPlace_1 rfl ?_
  refine p_inlV (Ex := _) (As := [(0, l1)]) (st := []) (st1 := fun r => [(0, r)])  (pc := 2) dX3_hasPlace_2 ml_RX3_45 (by decide) s0_1 rfl (by decide) (Nat.le_of_ble_eq_true rfl) rfl (fun _ => rfl) (by decide) (by decide) (Nat.le_of_ble_eq_true rfl) rfl ?_
  refine a_iload_n (pc := 0) dX3_hasLine_0 rfl ?_
  refine a_if_lt (tgt := 16) (pc := 1) dX3_hasLine_1 (by decide) (fun hc1 => ?_) (fun hc1 => ?_)
  · replace h := h.1 hc1
    refine a_iconst (pc := 16) dX3_hasLine_16 (by decide) ?_
    refine a_iretz (pc := 17) dX3_hasLine_17 rfl rfl (Nat.le_of_ble_eq_true rfl) (by decide) ⟨rfl, ?_⟩
    refine a_if_eq (tgt := 26) (pc := 5) dX3_hasPlace_5 (by decide) (fun _ => ?_) (fun hc => absurd (by decide) hc)
    refine a_iconst (pc := 26) dX3_hasPlace_26 (by decide) ?_
    refine a_iretz (pc := 27) dX3_hasPlace_27 rfl rfl (Nat.le_of_ble_eq_true rfl) (by decide) ⟨rfl, ?_⟩
    refine a_if_ne (tgt := 14) (pc := 9) dX8_stop_9 (by decide) (fun hc => absurd rfl hc) (fun _ => ?_)
    refine a_iconst (pc := 12) dX8_stop_12 (by decide) ?_
    exact a_ireti (pc := 13) dX8_stop_13 rfl rfl (Nat.le_of_ble_eq_true rfl) ⟨rfl, h⟩
  · replace h := h.2 hc1
    refine a_iload_n (pc := 4) dX3_hasLine_4 rfl ?_
    refine a_aload_n (pc := 5) dX3_hasLine_5 (by decide) rfl ?_
    refine a_getI (y := 0) (pc := 6) dX3_hasLine_6 fl_RX3_9 (by decide) s0_1 (Or.inl rfl) rfl ?_
    refine a_icmp_ge (tgt := 16) (pc := 9) dX3_hasLine_9 (by decide) (fun hc2 => ?_) (fun hc2 => ?_)
    · replace h := h.1 hc2
      refine a_iconst (pc := 16) dX3_hasLine_16 (by decide) ?_
      refine a_iretz (pc := 17) dX3_hasLine_17 rfl rfl (Nat.le_of_ble_eq_true rfl) (by decide) ⟨rfl, ?_⟩
      refine a_if_eq (tgt := 26) (pc := 5) dX3_hasPlace_5 (by decide) (fun _ => ?_) (fun hc => absurd (by decide) hc)
      refine a_iconst (pc := 26) dX3_hasPlace_26 (by decide) ?_
      refine a_iretz (pc := 27) dX3_hasPlace_27 rfl rfl (Nat.le_of_ble_eq_true rfl) (by decide) ⟨rfl, ?_⟩
      refine a_if_ne (tgt := 14) (pc := 9) dX8_stop_9 (by decide) (fun hc => absurd rfl hc) (fun _ => ?_)
      refine a_iconst (pc := 12) dX8_stop_12 (by decide) ?_
      exact a_ireti (pc := 13) dX8_stop_13 rfl rfl (Nat.le_of_ble_eq_true rfl) ⟨rfl, h⟩
    · replace h := h.2 hc2
      refine a_iconst (pc := 12) dX3_hasLine_12 (by decide) ?_
      refine a_goto (tgt := 17) (pc := 13) dX3_hasLine_13 (by decide) ?_
      refine a_iretz (pc := 17) dX3_hasLine_17 rfl rfl (Nat.le_of_ble_eq_true rfl) (by decide) ⟨rfl, ?_⟩
      refine a_if_eq (tgt := 26) (pc := 5) dX3_hasPlace_5 (by decide) (fun hc => absurd hc (by decide)) (fun _ => ?_)
      refine a_iload_n (pc := 8) dX3_hasPlace_8 rfl ?_
      refine a_if_lt (tgt := 26) (pc := 9) dX3_hasPlace_9 (by decide) (fun hc3 => ?_) (fun hc3 => ?_)
      · replace h := h.1 hc3
        refine a_iconst (pc := 26) dX3_hasPlace_26 (by decide) ?_
        refine a_iretz (pc := 27) dX3_hasPlace_27 rfl rfl (Nat.le_of_ble_eq_true rfl) (by decide) ⟨rfl, ?_⟩
        refine a_if_ne (tgt := 14) (pc := 9) dX8_stop_9 (by decide) (fun hc => absurd rfl hc) (fun _ => ?_)
        refine a_iconst (pc := 12) dX8_stop_12 (by decide) ?_
        exact a_ireti (pc := 13) dX8_stop_13 rfl rfl (Nat.le_of_ble_eq_true rfl) ⟨rfl, h⟩
      · replace h := h.2 hc3
        refine a_iload_n (pc := 12) dX3_hasPlace_12 rfl ?_
        refine a_aload_n (pc := 13) dX3_hasPlace_13 (by decide) rfl ?_
        refine a_getR (y := 3) (pc := 14) dX3_hasPlace_14 fl_RX3_19 (by decide) s0_1 rfl rfl ?_
        refine a_iload_n (pc := 17) dX3_hasPlace_17 rfl ?_
        have ho4 := h.1
        replace h := h.2
        refine a_iald (pc := 18) dX3_hasPlace_18 (by decide) s0_3 ho4.1 ho4.2 ?_
        refine a_icmp_ge (tgt := 26) (pc := 19) dX3_hasPlace_19 (by decide) (fun hc5 => ?_) (fun hc5 => ?_)
        · replace h := h.1 hc5
          refine a_iconst (pc := 26) dX3_hasPlace_26 (by decide) ?_
          refine a_iretz (pc := 27) dX3_hasPlace_27 rfl rfl (Nat.le_of_ble_eq_true rfl) (by decide) ⟨rfl, ?_⟩
          refine a_if_ne (tgt := 14) (pc := 9) dX8_stop_9 (by decide) (fun hc => absurd rfl hc) (fun _ => ?_)
          refine a_iconst (pc := 12) dX8_stop_12 (by decide) ?_
          exact a_ireti (pc := 13) dX8_stop_13 rfl rfl (Nat.le_of_ble_eq_true rfl) ⟨rfl, h⟩
        · replace h := h.2 hc5
          refine a_iconst (pc := 22) dX3_hasPlace_22 (by decide) ?_
          refine a_goto (tgt := 27) (pc := 23) dX3_hasPlace_23 (by decide) ?_
          refine a_iretz (pc := 27) dX3_hasPlace_27 rfl rfl (Nat.le_of_ble_eq_true rfl) (by decide) ⟨rfl, ?_⟩
          refine a_if_ne (tgt := 14) (pc := 9) dX8_stop_9 (by decide) (fun _ => ?_) (fun hc => absurd hc (by decide))
          refine a_aload_n (pc := 14) dX8_stop_14 (by decide) rfl ?_
          refine a_getR (y := 1) (pc := 15) dX8_stop_15 fl_RX8_10 (by decide) s0_0 rfl rfl ?_
          refine a_getR (y := 5) (pc := 18) dX8_stop_18 fl_RX8_115 (by decide) s0_1 rfl rfl ?_
          refine a_iload_n (pc := 21) dX8_stop_21 rfl ?_
          have hr6 := rw_5 l1 ho4.1 ho4.2
          refine a_aald (y := 6 + l1) (pc := 22) dX8_stop_22 (by decide) s0_5 ho4.1 ho4.2 (by omega) ?_
          refine a_iload_n (pc := 23) dX8_stop_23 rfl ?_
          have ho7 := h.1
          replace h := h.2
          refine a_iald (pc := 24) dX8_stop_24 hr6.1 hr6.2 ho7.1 ho7.2 ?_
          exact a_ireti (pc := 25) dX8_stop_25 rfl rfl (Nat.le_of_ble_eq_true rfl) ⟨rfl, h⟩
theorem E_C_stop {l1 l2 : Int} {M : Mem} {Q : Int → Mem → Prop} (h : AW mX8_stop 0 [(2, 0), (0, l1), (0, l2)] M Q) : Calls mX8_stop [(2, 0), (0, l1), (0, l2)] S0 M Q := calls_of (by decide) (by decide) (Nat.le_of_ble_eq_true rfl) rfl h
set_option maxRecDepth 100000 in
set_option maxHeartbeats 4000000 in
theorem B_C_minute_0 {l1 l2 l3 : Int} {M : Mem} {Q : Int → Mem → Prop} (h : ((l1 < 0 → Q (-1) M) ∧ (¬ (l1 < 0) → (((M 1 0) ≤ l1 → Q (-1) M) ∧ (¬ ((M 1 0) ≤ l1) → ((l2 < 0 → Q (-1) M) ∧ (¬ (l2 < 0) → ((0 : Int) ≤ l1 ∧ l1 < 8) ∧ (((M 4 l1) ≤ l2 → Q (-1) M) ∧ (¬ ((M 4 l1) ≤ l2) → ((l3 < 0 → Q (-1) M) ∧ (¬ (l3 < 0) → (((M 3 l1) ≤ l3 → Q (-1) M) ∧ (¬ ((M 3 l1) ≤ l3) → (-2147483648 ≤ l1 * 6 ∧ l1 * 6 ≤ 2147483647) ∧ (-2147483648 ≤ (l1 * 6) + l2 ∧ (l1 * 6) + l2 ≤ 2147483647) ∧ ((0 : Int) ≤ (l1 * 6) + l2 ∧ (l1 * 6) + l2 < 48) ∧ ((0 : Int) ≤ l3 ∧ l3 < 6) ∧ Q (M (15 + ((l1 * 6) + l2)) l3) M))))))))))))) : AW mX8_minute 0 [(2, 0), (0, l1), (0, l2), (0, l3)] M Q := by
  refine a_aload_n (pc := 0) dX8_minute_0 (by decide) rfl ?_
  refine a_getR (y := 1) (pc := 1) dX8_minute_1 fl_RX8_10 (by decide) s0_0 rfl rfl ?_
  refine a_iload_n (pc := 4) dX8_minute_4 rfl ?_
  refine a_iload_n (pc := 5) dX8_minute_5 rfl ?_
  refine p_inlV (Ex := _) (As := [(0, l1), (0, l2)]) (st := []) (st1 := fun r => [(0, r)])  (pc := 6) dX8_minute_6 ml_RX8_119 (by decide) s0_1 rfl (by decide) (Nat.le_of_ble_eq_true rfl) rfl (fun _ => rfl) (by decide) (by decide) (Nat.le_of_ble_eq_true rfl) rfl ?_
  refine a_aload_n (pc := 0) dX3_hasTrip_0 (by decide) rfl ?_
  refine a_iload_n (pc := 1) dX3_hasTrip_1 rfl ?_
  refine p_inlV (Ex := _) (As := [(0, l1)]) (st := []) (st1 := fun r => [(0, r)])  (pc := 2) dX3_hasTrip_2 ml_RX3_45 (by decide) s0_1 rfl (by decide) (Nat.le_of_ble_eq_true rfl) rfl (fun _ => rfl) (by decide) (by decide) (Nat.le_of_ble_eq_true rfl) rfl ?_
  refine a_iload_n (pc := 0) dX3_hasLine_0 rfl ?_
  refine a_if_lt (tgt := 16) (pc := 1) dX3_hasLine_1 (by decide) (fun hc1 => ?_) (fun hc1 => ?_)
  · replace h := h.1 hc1
    refine a_iconst (pc := 16) dX3_hasLine_16 (by decide) ?_
    refine a_iretz (pc := 17) dX3_hasLine_17 rfl rfl (Nat.le_of_ble_eq_true rfl) (by decide) ⟨rfl, ?_⟩
    refine a_if_eq (tgt := 26) (pc := 5) dX3_hasTrip_5 (by decide) (fun _ => ?_) (fun hc => absurd (by decide) hc)
    refine a_iconst (pc := 26) dX3_hasTrip_26 (by decide) ?_
    refine a_iretz (pc := 27) dX3_hasTrip_27 rfl rfl (Nat.le_of_ble_eq_true rfl) (by decide) ⟨rfl, ?_⟩
    refine a_if_eq (tgt := 24) (pc := 9) dX8_minute_9 (by decide) (fun _ => ?_) (fun hc => absurd (by decide) hc)
    refine a_iconst (pc := 24) dX8_minute_24 (by decide) ?_
    exact a_ireti (pc := 25) dX8_minute_25 rfl rfl (Nat.le_of_ble_eq_true rfl) ⟨rfl, h⟩
  · replace h := h.2 hc1
    refine a_iload_n (pc := 4) dX3_hasLine_4 rfl ?_
    refine a_aload_n (pc := 5) dX3_hasLine_5 (by decide) rfl ?_
    refine a_getI (y := 0) (pc := 6) dX3_hasLine_6 fl_RX3_9 (by decide) s0_1 (Or.inl rfl) rfl ?_
    refine a_icmp_ge (tgt := 16) (pc := 9) dX3_hasLine_9 (by decide) (fun hc2 => ?_) (fun hc2 => ?_)
    · replace h := h.1 hc2
      refine a_iconst (pc := 16) dX3_hasLine_16 (by decide) ?_
      refine a_iretz (pc := 17) dX3_hasLine_17 rfl rfl (Nat.le_of_ble_eq_true rfl) (by decide) ⟨rfl, ?_⟩
      refine a_if_eq (tgt := 26) (pc := 5) dX3_hasTrip_5 (by decide) (fun _ => ?_) (fun hc => absurd (by decide) hc)
      refine a_iconst (pc := 26) dX3_hasTrip_26 (by decide) ?_
      refine a_iretz (pc := 27) dX3_hasTrip_27 rfl rfl (Nat.le_of_ble_eq_true rfl) (by decide) ⟨rfl, ?_⟩
      refine a_if_eq (tgt := 24) (pc := 9) dX8_minute_9 (by decide) (fun _ => ?_) (fun hc => absurd (by decide) hc)
      refine a_iconst (pc := 24) dX8_minute_24 (by decide) ?_
      exact a_ireti (pc := 25) dX8_minute_25 rfl rfl (Nat.le_of_ble_eq_true rfl) ⟨rfl, h⟩
    · replace h := h.2 hc2
      refine a_iconst (pc := 12) dX3_hasLine_12 (by decide) ?_
      refine a_goto (tgt := 17) (pc := 13) dX3_hasLine_13 (by decide) ?_
      refine a_iretz (pc := 17) dX3_hasLine_17 rfl rfl (Nat.le_of_ble_eq_true rfl) (by decide) ⟨rfl, ?_⟩
      refine a_if_eq (tgt := 26) (pc := 5) dX3_hasTrip_5 (by decide) (fun hc => absurd hc (by decide)) (fun _ => ?_)
      refine a_iload_n (pc := 8) dX3_hasTrip_8 rfl ?_
      refine a_if_lt (tgt := 26) (pc := 9) dX3_hasTrip_9 (by decide) (fun hc3 => ?_) (fun hc3 => ?_)
      · replace h := h.1 hc3
        refine a_iconst (pc := 26) dX3_hasTrip_26 (by decide) ?_
        refine a_iretz (pc := 27) dX3_hasTrip_27 rfl rfl (Nat.le_of_ble_eq_true rfl) (by decide) ⟨rfl, ?_⟩
        refine a_if_eq (tgt := 24) (pc := 9) dX8_minute_9 (by decide) (fun _ => ?_) (fun hc => absurd (by decide) hc)
        refine a_iconst (pc := 24) dX8_minute_24 (by decide) ?_
        exact a_ireti (pc := 25) dX8_minute_25 rfl rfl (Nat.le_of_ble_eq_true rfl) ⟨rfl, h⟩
      · replace h := h.2 hc3
        refine a_iload_n (pc := 12) dX3_hasTrip_12 rfl ?_
        refine a_aload_n (pc := 13) dX3_hasTrip_13 (by decide) rfl ?_
        refine a_getR (y := 4) (pc := 14) dX3_hasTrip_14 fl_RX3_22 (by decide) s0_1 rfl rfl ?_
        refine a_iload_n (pc := 17) dX3_hasTrip_17 rfl ?_
        have ho4 := h.1
        replace h := h.2
        refine a_iald (pc := 18) dX3_hasTrip_18 (by decide) s0_4 ho4.1 ho4.2 ?_
        refine a_icmp_ge (tgt := 26) (pc := 19) dX3_hasTrip_19 (by decide) (fun hc5 => ?_) (fun hc5 => ?_)
        · replace h := h.1 hc5
          refine a_iconst (pc := 26) dX3_hasTrip_26 (by decide) ?_
          refine a_iretz (pc := 27) dX3_hasTrip_27 rfl rfl (Nat.le_of_ble_eq_true rfl) (by decide) ⟨rfl, ?_⟩
          refine a_if_eq (tgt := 24) (pc := 9) dX8_minute_9 (by decide) (fun _ => ?_) (fun hc => absurd (by decide) hc)
          refine a_iconst (pc := 24) dX8_minute_24 (by decide) ?_
          exact a_ireti (pc := 25) dX8_minute_25 rfl rfl (Nat.le_of_ble_eq_true rfl) ⟨rfl, h⟩
        · replace h := h.2 hc5
          refine a_iconst (pc := 22) dX3_hasTrip_22 (by decide) ?_
          refine a_goto (tgt := 27) (pc := 23) dX3_hasTrip_23 (by decide) ?_
          refine a_iretz (pc := 27) dX3_hasTrip_27 rfl rfl (Nat.le_of_ble_eq_true rfl) (by decide) ⟨rfl, ?_⟩
          refine a_if_eq (tgt := 24) (pc := 9) dX8_minute_9 (by decide) (fun hc => absurd hc (by decide)) (fun _ => ?_)
          refine a_aload_n (pc := 12) dX8_minute_12 (by decide) rfl ?_
          refine a_getR (y := 1) (pc := 13) dX8_minute_13 fl_RX8_10 (by decide) s0_0 rfl rfl ?_
          refine a_iload_n (pc := 16) dX8_minute_16 rfl ?_
          refine a_iload_n (pc := 17) dX8_minute_17 rfl ?_
          refine p_inlV (Ex := _) (As := [(0, l1), (0, l3)]) (st := []) (st1 := fun r => [(0, r)])  (pc := 18) dX8_minute_18 ml_RX8_111 (by decide) s0_1 rfl (by decide) (Nat.le_of_ble_eq_true rfl) rfl (fun _ => rfl) (by decide) (by decide) (Nat.le_of_ble_eq_true rfl) rfl ?_
          refine a_aload_n (pc := 0) dX3_hasPlace_0 (by decide) rfl ?_
          refine a_iload_n (pc := 1) dX3_hasPlace_1 rfl ?_
          refine p_inlV (Ex := _) (As := [(0, l1)]) (st := []) (st1 := fun r => [(0, r)])  (pc := 2) dX3_hasPlace_2 ml_RX3_45 (by decide) s0_1 rfl (by decide) (Nat.le_of_ble_eq_true rfl) rfl (fun _ => rfl) (by decide) (by decide) (Nat.le_of_ble_eq_true rfl) rfl ?_
          refine a_iload_n (pc := 0) dX3_hasLine_0 rfl ?_
          refine a_if_lt (tgt := 16) (pc := 1) dX3_hasLine_1 (by decide) (fun hc => absurd hc hc1) (fun _ => ?_)
          refine a_iload_n (pc := 4) dX3_hasLine_4 rfl ?_
          refine a_aload_n (pc := 5) dX3_hasLine_5 (by decide) rfl ?_
          refine a_getI (y := 0) (pc := 6) dX3_hasLine_6 fl_RX3_9 (by decide) s0_1 (Or.inl rfl) rfl ?_
          refine a_icmp_ge (tgt := 16) (pc := 9) dX3_hasLine_9 (by decide) (fun hc => absurd hc hc2) (fun _ => ?_)
          refine a_iconst (pc := 12) dX3_hasLine_12 (by decide) ?_
          refine a_goto (tgt := 17) (pc := 13) dX3_hasLine_13 (by decide) ?_
          refine a_iretz (pc := 17) dX3_hasLine_17 rfl rfl (Nat.le_of_ble_eq_true rfl) (by decide) ⟨rfl, ?_⟩
          refine a_if_eq (tgt := 26) (pc := 5) dX3_hasPlace_5 (by decide) (fun hc => absurd hc (by decide)) (fun _ => ?_)
          refine a_iload_n (pc := 8) dX3_hasPlace_8 rfl ?_
          refine a_if_lt (tgt := 26) (pc := 9) dX3_hasPlace_9 (by decide) (fun hc6 => ?_) (fun hc6 => ?_)
          · replace h := h.1 hc6
            refine a_iconst (pc := 26) dX3_hasPlace_26 (by decide) ?_
            refine a_iretz (pc := 27) dX3_hasPlace_27 rfl rfl (Nat.le_of_ble_eq_true rfl) (by decide) ⟨rfl, ?_⟩
            refine a_if_ne (tgt := 26) (pc := 21) dX8_minute_21 (by decide) (fun hc => absurd rfl hc) (fun _ => ?_)
            refine a_iconst (pc := 24) dX8_minute_24 (by decide) ?_
            exact a_ireti (pc := 25) dX8_minute_25 rfl rfl (Nat.le_of_ble_eq_true rfl) ⟨rfl, h⟩
          · replace h := h.2 hc6
            refine a_iload_n (pc := 12) dX3_hasPlace_12 rfl ?_
            refine a_aload_n (pc := 13) dX3_hasPlace_13 (by decide) rfl ?_
            refine a_getR (y := 3) (pc := 14) dX3_hasPlace_14 fl_RX3_19 (by decide) s0_1 rfl rfl ?_
            refine a_iload_n (pc := 17) dX3_hasPlace_17 rfl ?_
            refine a_iald (pc := 18) dX3_hasPlace_18 (by decide) s0_3 ho4.1 ho4.2 ?_
            refine a_icmp_ge (tgt := 26) (pc := 19) dX3_hasPlace_19 (by decide) (fun hc7 => ?_) (fun hc7 => ?_)
            · replace h := h.1 hc7
              refine a_iconst (pc := 26) dX3_hasPlace_26 (by decide) ?_
              refine a_iretz (pc := 27) dX3_hasPlace_27 rfl rfl (Nat.le_of_ble_eq_true rfl) (by decide) ⟨rfl, ?_⟩
              refine a_if_ne (tgt := 26) (pc := 21) dX8_minute_21 (by decide) (fun hc => absurd rfl hc) (fun _ => ?_)
              refine a_iconst (pc := 24) dX8_minute_24 (by decide) ?_
              exact a_ireti (pc := 25) dX8_minute_25 rfl rfl (Nat.le_of_ble_eq_true rfl) ⟨rfl, h⟩
            · replace h := h.2 hc7
              refine a_iconst (pc := 22) dX3_hasPlace_22 (by decide) ?_
              refine a_goto (tgt := 27) (pc := 23) dX3_hasPlace_23 (by decide) ?_
              refine a_iretz (pc := 27) dX3_hasPlace_27 rfl rfl (Nat.le_of_ble_eq_true rfl) (by decide) ⟨rfl, ?_⟩
              refine a_if_ne (tgt := 26) (pc := 21) dX8_minute_21 (by decide) (fun _ => ?_) (fun hc => absurd hc (by decide))
              refine a_aload_n (pc := 26) dX8_minute_26 (by decide) rfl ?_
              refine a_getR (y := 1) (pc := 27) dX8_minute_27 fl_RX8_10 (by decide) s0_0 rfl rfl ?_
              refine a_iload_n (pc := 30) dX8_minute_30 rfl ?_
              refine a_iload_n (pc := 31) dX8_minute_31 rfl ?_
              refine a_iload_n (pc := 32) dX8_minute_32 rfl ?_
              refine p_inlV (Ex := _) (As := [(0, l1), (0, l2), (0, l3)]) (st := []) (st1 := fun r => [(0, r)])  (pc := 33) dX8_minute_33 ml_RX8_122 (by decide) s0_1 rfl (by decide) (Nat.le_of_ble_eq_true rfl) rfl (fun _ => rfl) (by decide) (by decide) (Nat.le_of_ble_eq_true rfl) rfl ?_
              refine a_aload_n (pc := 0) dX3_minuteOf_0 (by decide) rfl ?_
              refine a_getR (y := 14) (pc := 1) dX3_minuteOf_1 fl_RX3_30 (by decide) s0_1 rfl rfl ?_
              refine a_iload_n (pc := 4) dX3_minuteOf_4 rfl ?_
              refine a_iload_n (pc := 5) dX3_minuteOf_5 rfl ?_
              refine p_inlS (Ex := _) (As := [(0, l1), (0, l2)]) (st := [(2, 14)]) (st1 := fun r => [(0, r), (2, 14)])  (pc := 6) dX3_minuteOf_6 ml_RX3_49 (by decide) (Nat.le_of_ble_eq_true rfl) rfl (fun _ => rfl) (by decide) (by decide) (Nat.le_of_ble_eq_true rfl) rfl ?_
              refine a_iload_n (pc := 0) dX3_rowOf_0 rfl ?_
              refine a_bipush (pc := 1) dX3_rowOf_1 (by decide) (by decide +kernel) ?_
              have ho8 := h.1
              replace h := h.2
              refine a_imul (pc := 3) dX3_rowOf_3 ho8 ?_
              refine a_iload_n (pc := 4) dX3_rowOf_4 rfl ?_
              have ho9 := h.1
              replace h := h.2
              refine a_iadd (pc := 5) dX3_rowOf_5 ho9 ?_
              refine a_ireti (pc := 6) dX3_rowOf_6 rfl rfl (Nat.le_of_ble_eq_true rfl) ⟨rfl, ?_⟩
              have ho10 := h.1
              replace h := h.2
              have hr11 := rw_14 ((l1 * 6) + l2) ho10.1 ho10.2
              refine a_aald (y := 15 + ((l1 * 6) + l2)) (pc := 9) dX3_minuteOf_9 (by decide) s0_14 ho10.1 ho10.2 (by omega) ?_
              refine a_iload_n (pc := 10) dX3_minuteOf_10 rfl ?_
              have ho12 := h.1
              replace h := h.2
              refine a_iald (pc := 11) dX3_minuteOf_11 hr11.1 hr11.2 ho12.1 ho12.2 ?_
              refine a_ireti (pc := 12) dX3_minuteOf_12 rfl rfl (Nat.le_of_ble_eq_true rfl) ⟨rfl, ?_⟩
              exact a_ireti (pc := 36) dX8_minute_36 rfl rfl (Nat.le_of_ble_eq_true rfl) ⟨rfl, h⟩
theorem E_C_minute {l1 l2 l3 : Int} {M : Mem} {Q : Int → Mem → Prop} (h : AW mX8_minute 0 [(2, 0), (0, l1), (0, l2), (0, l3)] M Q) : Calls mX8_minute [(2, 0), (0, l1), (0, l2), (0, l3)] S0 M Q := calls_of (by decide) (by decide) (Nat.le_of_ble_eq_true rfl) rfl h
set_option maxRecDepth 100000 in
set_option maxHeartbeats 4000000 in
theorem B_C_list_0 {l1 l2 : Int} {M : Mem} {Q : Int → Mem → Prop} (h : ((l1 < 0 → Q (-1) M) ∧ (¬ (l1 < 0) → ((4 ≤ l1 → Q (-1) M) ∧ (¬ (4 ≤ l1) → ((l2 ≤ 20 → ((0 ≤ l2 → Calls mX2_begin [(2, 268), (0, l1), (0, l2)] S0 M (fun r5 M6 => Q 1 M6)) ∧ (¬ (0 ≤ l2) → Q (-14) M))) ∧ (¬ (l2 ≤ 20) → Q (-2) M))))))) : AW mX8_list 0 [(2, 0), (0, l1), (0, l2)] M Q := by
  refine a_iload_n (pc := 0) dX8_list_0 rfl ?_
  refine p_inlS (Ex := _) (As := [(0, l1)]) (st := []) (st1 := fun r => [(0, r)])  (pc := 1) dX8_list_1 ml_RX8_229 (by decide) (Nat.le_of_ble_eq_true rfl) rfl (fun _ => rfl) (by decide) (by decide) (Nat.le_of_ble_eq_true rfl) rfl ?_
  refine a_iload_n (pc := 0) dX2_isList_0 rfl ?_
  refine a_if_lt (tgt := 13) (pc := 1) dX2_isList_1 (by decide) (fun hc1 => ?_) (fun hc1 => ?_)
  · replace h := h.1 hc1
    refine a_iconst (pc := 13) dX2_isList_13 (by decide) ?_
    refine a_iretz (pc := 14) dX2_isList_14 rfl rfl (Nat.le_of_ble_eq_true rfl) (by decide) ⟨rfl, ?_⟩
    refine a_if_ne (tgt := 9) (pc := 4) dX8_list_4 (by decide) (fun hc => absurd rfl hc) (fun _ => ?_)
    refine a_iconst (pc := 7) dX8_list_7 (by decide) ?_
    exact a_ireti (pc := 8) dX8_list_8 rfl rfl (Nat.le_of_ble_eq_true rfl) ⟨rfl, h⟩
  · replace h := h.2 hc1
    refine a_iload_n (pc := 4) dX2_isList_4 rfl ?_
    refine a_iconst (pc := 5) dX2_isList_5 (by decide) ?_
    refine a_icmp_ge (tgt := 13) (pc := 6) dX2_isList_6 (by decide) (fun hc2 => ?_) (fun hc2 => ?_)
    · replace h := h.1 hc2
      refine a_iconst (pc := 13) dX2_isList_13 (by decide) ?_
      refine a_iretz (pc := 14) dX2_isList_14 rfl rfl (Nat.le_of_ble_eq_true rfl) (by decide) ⟨rfl, ?_⟩
      refine a_if_ne (tgt := 9) (pc := 4) dX8_list_4 (by decide) (fun hc => absurd rfl hc) (fun _ => ?_)
      refine a_iconst (pc := 7) dX8_list_7 (by decide) ?_
      exact a_ireti (pc := 8) dX8_list_8 rfl rfl (Nat.le_of_ble_eq_true rfl) ⟨rfl, h⟩
    · replace h := h.2 hc2
      refine a_iconst (pc := 9) dX2_isList_9 (by decide) ?_
      refine a_goto (tgt := 14) (pc := 10) dX2_isList_10 (by decide) ?_
      refine a_iretz (pc := 14) dX2_isList_14 rfl rfl (Nat.le_of_ble_eq_true rfl) (by decide) ⟨rfl, ?_⟩
      refine a_if_ne (tgt := 9) (pc := 4) dX8_list_4 (by decide) (fun _ => ?_) (fun hc => absurd hc (by decide))
      refine a_iload_n (pc := 9) dX8_list_9 rfl ?_
      refine a_bipush (pc := 10) dX8_list_10 (by decide) (by decide +kernel) ?_
      refine a_icmp_le (tgt := 18) (pc := 12) dX8_list_12 (by decide) (fun hc3 => ?_) (fun hc3 => ?_)
      · replace h := h.1 hc3
        refine a_iload_n (pc := 18) dX8_list_18 rfl ?_
        refine a_if_ge (tgt := 25) (pc := 19) dX8_list_19 (by decide) (fun hc4 => ?_) (fun hc4 => ?_)
        · replace h := h.1 hc4
          refine a_aload_n (pc := 25) dX8_list_25 (by decide) rfl ?_
          refine a_getR (y := 268) (pc := 26) dX8_list_26 fl_RX8_71 (by decide) s0_0 rfl rfl ?_
          refine a_iload_n (pc := 29) dX8_list_29 rfl ?_
          refine a_iload_n (pc := 30) dX8_list_30 rfl ?_
          refine p_callV (As := [(0, l1), (0, l2)]) (st := []) (st1 := fun r => [])  (pc := 31) dX8_list_31 ml_RX8_232 (by decide) s0_268 rfl (by decide) (Nat.le_of_ble_eq_true rfl) rfl (fun _ => rfl) h (fun r5 M6 h => ?_)
          refine a_iconst (pc := 34) dX8_list_34 (by decide) ?_
          exact a_ireti (pc := 35) dX8_list_35 rfl rfl (Nat.le_of_ble_eq_true rfl) ⟨rfl, h⟩
        · replace h := h.2 hc4
          refine a_bipush (pc := 22) dX8_list_22 (by decide) (by decide +kernel) ?_
          exact a_ireti (pc := 24) dX8_list_24 rfl rfl (Nat.le_of_ble_eq_true rfl) ⟨rfl, h⟩
      · replace h := h.2 hc3
        refine a_bipush (pc := 15) dX8_list_15 (by decide) (by decide +kernel) ?_
        exact a_ireti (pc := 17) dX8_list_17 rfl rfl (Nat.le_of_ble_eq_true rfl) ⟨rfl, h⟩
theorem E_C_list {l1 l2 : Int} {M : Mem} {Q : Int → Mem → Prop} (h : AW mX8_list 0 [(2, 0), (0, l1), (0, l2)] M Q) : Calls mX8_list [(2, 0), (0, l1), (0, l2)] S0 M Q := calls_of (by decide) (by decide) (Nat.le_of_ble_eq_true rfl) rfl h
set_option maxRecDepth 100000 in
set_option maxHeartbeats 4000000 in
theorem B_C_delay_0 {l1 l2 l3 l4 : Int} {M : Mem} {Q : Int → Mem → Prop} (h : ((l1 < 0 → Q (-1) M) ∧ (¬ (l1 < 0) → (((M 1 0) ≤ l1 → Q (-1) M) ∧ (¬ ((M 1 0) ≤ l1) → ((l2 < 0 → Q (-1) M) ∧ (¬ (l2 < 0) → ((0 : Int) ≤ l1 ∧ l1 < 8) ∧ (((M 4 l1) ≤ l2 → Q (-1) M) ∧ (¬ ((M 4 l1) ≤ l2) → ((l3 < 0 → Q (-1) M) ∧ (¬ (l3 < 0) → (((M 3 l1) ≤ l3 → Q (-1) M) ∧ (¬ ((M 3 l1) ≤ l3) → ((l4 < 1 → Q (-2) M) ∧ (¬ (l4 < 1) → ((l4 ≤ 99 → Calls mX3_putDelay [(2, 1), (0, l1), (0, l2), (0, l3), (0, l4)] S0 M (fun r10 M11 => ((¬ r10 = 0 → (-2147483648 ≤ l1 * 6 ∧ l1 * 6 ≤ 2147483647) ∧ (-2147483648 ≤ (l1 * 6) + l2 ∧ (l1 * 6) + l2 ≤ 2147483647) ∧ ((0 : Int) ≤ (l1 * 6) + l2 ∧ (l1 * 6) + l2 < 48) ∧ ((0 : Int) ≤ l3 ∧ l3 < 6) ∧ Q (M11 (15 + ((l1 * 6) + l2)) l3) M11) ∧ (r10 = 0 → Q (-4) M11)))) ∧ (¬ (l4 ≤ 99) → Q (-2) M))))))))))))))))) : AW mX8_delay 0 [(2, 0), (0, l1), (0, l2), (0, l3), (0, l4)] M Q := by
  refine a_aload_n (pc := 0) dX8_delay_0 (by decide) rfl ?_
  refine a_getR (y := 1) (pc := 1) dX8_delay_1 fl_RX8_10 (by decide) s0_0 rfl rfl ?_
  refine a_iload_n (pc := 4) dX8_delay_4 rfl ?_
  refine a_iload_n (pc := 5) dX8_delay_5 rfl ?_
  refine p_inlV (Ex := _) (As := [(0, l1), (0, l2)]) (st := []) (st1 := fun r => [(0, r)])  (pc := 6) dX8_delay_6 ml_RX8_119 (by decide) s0_1 rfl (by decide) (Nat.le_of_ble_eq_true rfl) rfl (fun _ => rfl) (by decide) (by decide) (Nat.le_of_ble_eq_true rfl) rfl ?_
  refine a_aload_n (pc := 0) dX3_hasTrip_0 (by decide) rfl ?_
  refine a_iload_n (pc := 1) dX3_hasTrip_1 rfl ?_
  refine p_inlV (Ex := _) (As := [(0, l1)]) (st := []) (st1 := fun r => [(0, r)])  (pc := 2) dX3_hasTrip_2 ml_RX3_45 (by decide) s0_1 rfl (by decide) (Nat.le_of_ble_eq_true rfl) rfl (fun _ => rfl) (by decide) (by decide) (Nat.le_of_ble_eq_true rfl) rfl ?_
  refine a_iload_n (pc := 0) dX3_hasLine_0 rfl ?_
  refine a_if_lt (tgt := 16) (pc := 1) dX3_hasLine_1 (by decide) (fun hc1 => ?_) (fun hc1 => ?_)
  · replace h := h.1 hc1
    refine a_iconst (pc := 16) dX3_hasLine_16 (by decide) ?_
    refine a_iretz (pc := 17) dX3_hasLine_17 rfl rfl (Nat.le_of_ble_eq_true rfl) (by decide) ⟨rfl, ?_⟩
    refine a_if_eq (tgt := 26) (pc := 5) dX3_hasTrip_5 (by decide) (fun _ => ?_) (fun hc => absurd (by decide) hc)
    refine a_iconst (pc := 26) dX3_hasTrip_26 (by decide) ?_
    refine a_iretz (pc := 27) dX3_hasTrip_27 rfl rfl (Nat.le_of_ble_eq_true rfl) (by decide) ⟨rfl, ?_⟩
    refine a_if_eq (tgt := 24) (pc := 9) dX8_delay_9 (by decide) (fun _ => ?_) (fun hc => absurd (by decide) hc)
    refine a_iconst (pc := 24) dX8_delay_24 (by decide) ?_
    exact a_ireti (pc := 25) dX8_delay_25 rfl rfl (Nat.le_of_ble_eq_true rfl) ⟨rfl, h⟩
  · replace h := h.2 hc1
    refine a_iload_n (pc := 4) dX3_hasLine_4 rfl ?_
    refine a_aload_n (pc := 5) dX3_hasLine_5 (by decide) rfl ?_
    refine a_getI (y := 0) (pc := 6) dX3_hasLine_6 fl_RX3_9 (by decide) s0_1 (Or.inl rfl) rfl ?_
    refine a_icmp_ge (tgt := 16) (pc := 9) dX3_hasLine_9 (by decide) (fun hc2 => ?_) (fun hc2 => ?_)
    · replace h := h.1 hc2
      refine a_iconst (pc := 16) dX3_hasLine_16 (by decide) ?_
      refine a_iretz (pc := 17) dX3_hasLine_17 rfl rfl (Nat.le_of_ble_eq_true rfl) (by decide) ⟨rfl, ?_⟩
      refine a_if_eq (tgt := 26) (pc := 5) dX3_hasTrip_5 (by decide) (fun _ => ?_) (fun hc => absurd (by decide) hc)
      refine a_iconst (pc := 26) dX3_hasTrip_26 (by decide) ?_
      refine a_iretz (pc := 27) dX3_hasTrip_27 rfl rfl (Nat.le_of_ble_eq_true rfl) (by decide) ⟨rfl, ?_⟩
      refine a_if_eq (tgt := 24) (pc := 9) dX8_delay_9 (by decide) (fun _ => ?_) (fun hc => absurd (by decide) hc)
      refine a_iconst (pc := 24) dX8_delay_24 (by decide) ?_
      exact a_ireti (pc := 25) dX8_delay_25 rfl rfl (Nat.le_of_ble_eq_true rfl) ⟨rfl, h⟩
    · replace h := h.2 hc2
      refine a_iconst (pc := 12) dX3_hasLine_12 (by decide) ?_
      refine a_goto (tgt := 17) (pc := 13) dX3_hasLine_13 (by decide) ?_
      refine a_iretz (pc := 17) dX3_hasLine_17 rfl rfl (Nat.le_of_ble_eq_true rfl) (by decide) ⟨rfl, ?_⟩
      refine a_if_eq (tgt := 26) (pc := 5) dX3_hasTrip_5 (by decide) (fun hc => absurd hc (by decide)) (fun _ => ?_)
      refine a_iload_n (pc := 8) dX3_hasTrip_8 rfl ?_
      refine a_if_lt (tgt := 26) (pc := 9) dX3_hasTrip_9 (by decide) (fun hc3 => ?_) (fun hc3 => ?_)
      · replace h := h.1 hc3
        refine a_iconst (pc := 26) dX3_hasTrip_26 (by decide) ?_
        refine a_iretz (pc := 27) dX3_hasTrip_27 rfl rfl (Nat.le_of_ble_eq_true rfl) (by decide) ⟨rfl, ?_⟩
        refine a_if_eq (tgt := 24) (pc := 9) dX8_delay_9 (by decide) (fun _ => ?_) (fun hc => absurd (by decide) hc)
        refine a_iconst (pc := 24) dX8_delay_24 (by decide) ?_
        exact a_ireti (pc := 25) dX8_delay_25 rfl rfl (Nat.le_of_ble_eq_true rfl) ⟨rfl, h⟩
      · replace h := h.2 hc3
        refine a_iload_n (pc := 12) dX3_hasTrip_12 rfl ?_
        refine a_aload_n (pc := 13) dX3_hasTrip_13 (by decide) rfl ?_
        refine a_getR (y := 4) (pc := 14) dX3_hasTrip_14 fl_RX3_22 (by decide) s0_1 rfl rfl ?_
        refine a_iload_n (pc := 17) dX3_hasTrip_17 rfl ?_
        have ho4 := h.1
        replace h := h.2
        refine a_iald (pc := 18) dX3_hasTrip_18 (by decide) s0_4 ho4.1 ho4.2 ?_
        refine a_icmp_ge (tgt := 26) (pc := 19) dX3_hasTrip_19 (by decide) (fun hc5 => ?_) (fun hc5 => ?_)
        · replace h := h.1 hc5
          refine a_iconst (pc := 26) dX3_hasTrip_26 (by decide) ?_
          refine a_iretz (pc := 27) dX3_hasTrip_27 rfl rfl (Nat.le_of_ble_eq_true rfl) (by decide) ⟨rfl, ?_⟩
          refine a_if_eq (tgt := 24) (pc := 9) dX8_delay_9 (by decide) (fun _ => ?_) (fun hc => absurd (by decide) hc)
          refine a_iconst (pc := 24) dX8_delay_24 (by decide) ?_
          exact a_ireti (pc := 25) dX8_delay_25 rfl rfl (Nat.le_of_ble_eq_true rfl) ⟨rfl, h⟩
        · replace h := h.2 hc5
          refine a_iconst (pc := 22) dX3_hasTrip_22 (by decide) ?_
          refine a_goto (tgt := 27) (pc := 23) dX3_hasTrip_23 (by decide) ?_
          refine a_iretz (pc := 27) dX3_hasTrip_27 rfl rfl (Nat.le_of_ble_eq_true rfl) (by decide) ⟨rfl, ?_⟩
          refine a_if_eq (tgt := 24) (pc := 9) dX8_delay_9 (by decide) (fun hc => absurd hc (by decide)) (fun _ => ?_)
          refine a_aload_n (pc := 12) dX8_delay_12 (by decide) rfl ?_
          refine a_getR (y := 1) (pc := 13) dX8_delay_13 fl_RX8_10 (by decide) s0_0 rfl rfl ?_
          refine a_iload_n (pc := 16) dX8_delay_16 rfl ?_
          refine a_iload_n (pc := 17) dX8_delay_17 rfl ?_
          refine p_inlV (Ex := _) (As := [(0, l1), (0, l3)]) (st := []) (st1 := fun r => [(0, r)])  (pc := 18) dX8_delay_18 ml_RX8_111 (by decide) s0_1 rfl (by decide) (Nat.le_of_ble_eq_true rfl) rfl (fun _ => rfl) (by decide) (by decide) (Nat.le_of_ble_eq_true rfl) rfl ?_
          refine a_aload_n (pc := 0) dX3_hasPlace_0 (by decide) rfl ?_
          refine a_iload_n (pc := 1) dX3_hasPlace_1 rfl ?_
          refine p_inlV (Ex := _) (As := [(0, l1)]) (st := []) (st1 := fun r => [(0, r)])  (pc := 2) dX3_hasPlace_2 ml_RX3_45 (by decide) s0_1 rfl (by decide) (Nat.le_of_ble_eq_true rfl) rfl (fun _ => rfl) (by decide) (by decide) (Nat.le_of_ble_eq_true rfl) rfl ?_
          refine a_iload_n (pc := 0) dX3_hasLine_0 rfl ?_
          refine a_if_lt (tgt := 16) (pc := 1) dX3_hasLine_1 (by decide) (fun hc => absurd hc hc1) (fun _ => ?_)
          refine a_iload_n (pc := 4) dX3_hasLine_4 rfl ?_
          refine a_aload_n (pc := 5) dX3_hasLine_5 (by decide) rfl ?_
          refine a_getI (y := 0) (pc := 6) dX3_hasLine_6 fl_RX3_9 (by decide) s0_1 (Or.inl rfl) rfl ?_
          refine a_icmp_ge (tgt := 16) (pc := 9) dX3_hasLine_9 (by decide) (fun hc => absurd hc hc2) (fun _ => ?_)
          refine a_iconst (pc := 12) dX3_hasLine_12 (by decide) ?_
          refine a_goto (tgt := 17) (pc := 13) dX3_hasLine_13 (by decide) ?_
          refine a_iretz (pc := 17) dX3_hasLine_17 rfl rfl (Nat.le_of_ble_eq_true rfl) (by decide) ⟨rfl, ?_⟩
          refine a_if_eq (tgt := 26) (pc := 5) dX3_hasPlace_5 (by decide) (fun hc => absurd hc (by decide)) (fun _ => ?_)
          refine a_iload_n (pc := 8) dX3_hasPlace_8 rfl ?_
          refine a_if_lt (tgt := 26) (pc := 9) dX3_hasPlace_9 (by decide) (fun hc6 => ?_) (fun hc6 => ?_)
          · replace h := h.1 hc6
            refine a_iconst (pc := 26) dX3_hasPlace_26 (by decide) ?_
            refine a_iretz (pc := 27) dX3_hasPlace_27 rfl rfl (Nat.le_of_ble_eq_true rfl) (by decide) ⟨rfl, ?_⟩
            refine a_if_ne (tgt := 26) (pc := 21) dX8_delay_21 (by decide) (fun hc => absurd rfl hc) (fun _ => ?_)
            refine a_iconst (pc := 24) dX8_delay_24 (by decide) ?_
            exact a_ireti (pc := 25) dX8_delay_25 rfl rfl (Nat.le_of_ble_eq_true rfl) ⟨rfl, h⟩
          · replace h := h.2 hc6
            refine a_iload_n (pc := 12) dX3_hasPlace_12 rfl ?_
            refine a_aload_n (pc := 13) dX3_hasPlace_13 (by decide) rfl ?_
            refine a_getR (y := 3) (pc := 14) dX3_hasPlace_14 fl_RX3_19 (by decide) s0_1 rfl rfl ?_
            refine a_iload_n (pc := 17) dX3_hasPlace_17 rfl ?_
            refine a_iald (pc := 18) dX3_hasPlace_18 (by decide) s0_3 ho4.1 ho4.2 ?_
            refine a_icmp_ge (tgt := 26) (pc := 19) dX3_hasPlace_19 (by decide) (fun hc7 => ?_) (fun hc7 => ?_)
            · replace h := h.1 hc7
              refine a_iconst (pc := 26) dX3_hasPlace_26 (by decide) ?_
              refine a_iretz (pc := 27) dX3_hasPlace_27 rfl rfl (Nat.le_of_ble_eq_true rfl) (by decide) ⟨rfl, ?_⟩
              refine a_if_ne (tgt := 26) (pc := 21) dX8_delay_21 (by decide) (fun hc => absurd rfl hc) (fun _ => ?_)
              refine a_iconst (pc := 24) dX8_delay_24 (by decide) ?_
              exact a_ireti (pc := 25) dX8_delay_25 rfl rfl (Nat.le_of_ble_eq_true rfl) ⟨rfl, h⟩
            · replace h := h.2 hc7
              refine a_iconst (pc := 22) dX3_hasPlace_22 (by decide) ?_
              refine a_goto (tgt := 27) (pc := 23) dX3_hasPlace_23 (by decide) ?_
              refine a_iretz (pc := 27) dX3_hasPlace_27 rfl rfl (Nat.le_of_ble_eq_true rfl) (by decide) ⟨rfl, ?_⟩
              refine a_if_ne (tgt := 26) (pc := 21) dX8_delay_21 (by decide) (fun _ => ?_) (fun hc => absurd hc (by decide))
              refine a_iload (pc := 26) dX8_delay_26 rfl ?_
              refine a_iconst (pc := 28) dX8_delay_28 (by decide) ?_
              refine a_icmp_lt (tgt := 39) (pc := 29) dX8_delay_29 (by decide) (fun hc8 => ?_) (fun hc8 => ?_)
              · replace h := h.1 hc8
                refine a_bipush (pc := 39) dX8_delay_39 (by decide) (by decide +kernel) ?_
                exact a_ireti (pc := 41) dX8_delay_41 rfl rfl (Nat.le_of_ble_eq_true rfl) ⟨rfl, h⟩
              · replace h := h.2 hc8
                refine a_iload (pc := 32) dX8_delay_32 rfl ?_
                refine a_bipush (pc := 34) dX8_delay_34 (by decide) (by decide +kernel) ?_
                refine a_icmp_le (tgt := 42) (pc := 36) dX8_delay_36 (by decide) (fun hc9 => ?_) (fun hc9 => ?_)
                · replace h := h.1 hc9
                  refine a_aload_n (pc := 42) dX8_delay_42 (by decide) rfl ?_
                  refine a_getR (y := 1) (pc := 43) dX8_delay_43 fl_RX8_10 (by decide) s0_0 rfl rfl ?_
                  refine a_iload_n (pc := 46) dX8_delay_46 rfl ?_
                  refine a_iload_n (pc := 47) dX8_delay_47 rfl ?_
                  refine a_iload_n (pc := 48) dX8_delay_48 rfl ?_
                  refine a_iload (pc := 49) dX8_delay_49 rfl ?_
                  refine p_callV (As := [(0, l1), (0, l2), (0, l3), (0, l4)]) (st := []) (st1 := fun r => [(0, r)])  (pc := 51) dX8_delay_51 ml_RX8_143 (by decide) s0_1 rfl (by decide) (Nat.le_of_ble_eq_true rfl) rfl (fun _ => rfl) h (fun r10 M11 h => ?_)
                  refine a_if_ne (tgt := 60) (pc := 54) dX8_delay_54 (by decide) (fun hc12 => ?_) (fun hc12 => ?_)
                  · replace h := h.1 hc12
                    refine a_aload_n (pc := 60) dX8_delay_60 (by decide) rfl ?_
                    refine a_getR (y := 1) (pc := 61) dX8_delay_61 fl_RX8_10 (by decide) s0_0 rfl rfl ?_
                    refine a_iload_n (pc := 64) dX8_delay_64 rfl ?_
                    refine a_iload_n (pc := 65) dX8_delay_65 rfl ?_
                    refine a_iload_n (pc := 66) dX8_delay_66 rfl ?_
                    refine p_inlV (Ex := _) (As := [(0, l1), (0, l2), (0, l3)]) (st := []) (st1 := fun r => [(0, r)])  (pc := 67) dX8_delay_67 ml_RX8_122 (by decide) s0_1 rfl (by decide) (Nat.le_of_ble_eq_true rfl) rfl (fun _ => rfl) (by decide) (by decide) (Nat.le_of_ble_eq_true rfl) rfl ?_
                    refine a_aload_n (pc := 0) dX3_minuteOf_0 (by decide) rfl ?_
                    refine a_getR (y := 14) (pc := 1) dX3_minuteOf_1 fl_RX3_30 (by decide) s0_1 rfl rfl ?_
                    refine a_iload_n (pc := 4) dX3_minuteOf_4 rfl ?_
                    refine a_iload_n (pc := 5) dX3_minuteOf_5 rfl ?_
                    refine p_inlS (Ex := _) (As := [(0, l1), (0, l2)]) (st := [(2, 14)]) (st1 := fun r => [(0, r), (2, 14)])  (pc := 6) dX3_minuteOf_6 ml_RX3_49 (by decide) (Nat.le_of_ble_eq_true rfl) rfl (fun _ => rfl) (by decide) (by decide) (Nat.le_of_ble_eq_true rfl) rfl ?_
                    refine a_iload_n (pc := 0) dX3_rowOf_0 rfl ?_
                    refine a_bipush (pc := 1) dX3_rowOf_1 (by decide) (by decide +kernel) ?_
                    have ho13 := h.1
                    replace h := h.2
                    refine a_imul (pc := 3) dX3_rowOf_3 ho13 ?_
                    refine a_iload_n (pc := 4) dX3_rowOf_4 rfl ?_
                    have ho14 := h.1
                    replace h := h.2
                    refine a_iadd (pc := 5) dX3_rowOf_5 ho14 ?_
                    refine a_ireti (pc := 6) dX3_rowOf_6 rfl rfl (Nat.le_of_ble_eq_true rfl) ⟨rfl, ?_⟩
                    have ho15 := h.1
                    replace h := h.2
                    have hr16 := rw_14 ((l1 * 6) + l2) ho15.1 ho15.2
                    refine a_aald (y := 15 + ((l1 * 6) + l2)) (pc := 9) dX3_minuteOf_9 (by decide) s0_14 ho15.1 ho15.2 (by omega) ?_
                    refine a_iload_n (pc := 10) dX3_minuteOf_10 rfl ?_
                    have ho17 := h.1
                    replace h := h.2
                    refine a_iald (pc := 11) dX3_minuteOf_11 hr16.1 hr16.2 ho17.1 ho17.2 ?_
                    refine a_ireti (pc := 12) dX3_minuteOf_12 rfl rfl (Nat.le_of_ble_eq_true rfl) ⟨rfl, ?_⟩
                    exact a_ireti (pc := 70) dX8_delay_70 rfl rfl (Nat.le_of_ble_eq_true rfl) ⟨rfl, h⟩
                  · replace h := h.2 hc12
                    refine a_bipush (pc := 57) dX8_delay_57 (by decide) (by decide +kernel) ?_
                    exact a_ireti (pc := 59) dX8_delay_59 rfl rfl (Nat.le_of_ble_eq_true rfl) ⟨rfl, h⟩
                · replace h := h.2 hc9
                  refine a_bipush (pc := 39) dX8_delay_39 (by decide) (by decide +kernel) ?_
                  exact a_ireti (pc := 41) dX8_delay_41 rfl rfl (Nat.le_of_ble_eq_true rfl) ⟨rfl, h⟩
theorem E_C_delay {l1 l2 l3 l4 : Int} {M : Mem} {Q : Int → Mem → Prop} (h : AW mX8_delay 0 [(2, 0), (0, l1), (0, l2), (0, l3), (0, l4)] M Q) : Calls mX8_delay [(2, 0), (0, l1), (0, l2), (0, l3), (0, l4)] S0 M Q := calls_of (by decide) (by decide) (Nat.le_of_ble_eq_true rfl) rfl h
set_option maxRecDepth 100000 in
set_option maxHeartbeats 4000000 in
theorem B_C_line_0 {l1 l2 : Int} {M : Mem} {Q : Int → Mem → Prop} (h : ((l1 < 0 → Q (-1) M) ∧ (¬ (l1 < 0) → (((M 1 0) ≤ l1 → Q (-1) M) ∧ (¬ ((M 1 0) ≤ l1) → ((l2 < 0 ∨ 3 < l2 → Q (-1) M) ∧ (l2 = 0 → ((0 : Int) ≤ l1 ∧ l1 < 8) ∧ Q (M 2 l1) M) ∧ (l2 = 1 → ((0 : Int) ≤ l1 ∧ l1 < 8) ∧ Q (M 3 l1) M) ∧ (l2 = 2 → ((0 : Int) ≤ l1 ∧ l1 < 8) ∧ Q (M 4 l1) M) ∧ (l2 = 3 → Calls mX3_countRunning [(2, 1), (0, l1)] S0 M (fun r6 M7 => Q r6 M7)))))))) : AW mX8_line 0 [(2, 0), (0, l1), (0, l2)] M Q := by
  refine a_aload_n (pc := 0) dX8_line_0 (by decide) rfl ?_
  refine a_getR (y := 1) (pc := 1) dX8_line_1 fl_RX8_10 (by decide) s0_0 rfl rfl ?_
  refine a_iload_n (pc := 4) dX8_line_4 rfl ?_
  refine p_inlV (Ex := _) (As := [(0, l1)]) (st := []) (st1 := fun r => [(0, r)])  (pc := 5) dX8_line_5 ml_RX8_93 (by decide) s0_1 rfl (by decide) (Nat.le_of_ble_eq_true rfl) rfl (fun _ => rfl) (by decide) (by decide) (Nat.le_of_ble_eq_true rfl) rfl ?_
  refine a_iload_n (pc := 0) dX3_hasLine_0 rfl ?_
  refine a_if_lt (tgt := 16) (pc := 1) dX3_hasLine_1 (by decide) (fun hc1 => ?_) (fun hc1 => ?_)
  · replace h := h.1 hc1
    refine a_iconst (pc := 16) dX3_hasLine_16 (by decide) ?_
    refine a_iretz (pc := 17) dX3_hasLine_17 rfl rfl (Nat.le_of_ble_eq_true rfl) (by decide) ⟨rfl, ?_⟩
    refine a_if_ne (tgt := 13) (pc := 8) dX8_line_8 (by decide) (fun hc => absurd rfl hc) (fun _ => ?_)
    refine a_iconst (pc := 11) dX8_line_11 (by decide) ?_
    exact a_ireti (pc := 12) dX8_line_12 rfl rfl (Nat.le_of_ble_eq_true rfl) ⟨rfl, h⟩
  · replace h := h.2 hc1
    refine a_iload_n (pc := 4) dX3_hasLine_4 rfl ?_
    refine a_aload_n (pc := 5) dX3_hasLine_5 (by decide) rfl ?_
    refine a_getI (y := 0) (pc := 6) dX3_hasLine_6 fl_RX3_9 (by decide) s0_1 (Or.inl rfl) rfl ?_
    refine a_icmp_ge (tgt := 16) (pc := 9) dX3_hasLine_9 (by decide) (fun hc2 => ?_) (fun hc2 => ?_)
    · replace h := h.1 hc2
      refine a_iconst (pc := 16) dX3_hasLine_16 (by decide) ?_
      refine a_iretz (pc := 17) dX3_hasLine_17 rfl rfl (Nat.le_of_ble_eq_true rfl) (by decide) ⟨rfl, ?_⟩
      refine a_if_ne (tgt := 13) (pc := 8) dX8_line_8 (by decide) (fun hc => absurd rfl hc) (fun _ => ?_)
      refine a_iconst (pc := 11) dX8_line_11 (by decide) ?_
      exact a_ireti (pc := 12) dX8_line_12 rfl rfl (Nat.le_of_ble_eq_true rfl) ⟨rfl, h⟩
    · replace h := h.2 hc2
      refine a_iconst (pc := 12) dX3_hasLine_12 (by decide) ?_
      refine a_goto (tgt := 17) (pc := 13) dX3_hasLine_13 (by decide) ?_
      refine a_iretz (pc := 17) dX3_hasLine_17 rfl rfl (Nat.le_of_ble_eq_true rfl) (by decide) ⟨rfl, ?_⟩
      refine a_if_ne (tgt := 13) (pc := 8) dX8_line_8 (by decide) (fun _ => ?_) (fun hc => absurd hc (by decide))
      refine a_iload_n (pc := 13) dX8_line_13 rfl ?_
      rcases (show l2 < 0 ∨ 3 < l2 ∨ l2 = 0 ∨ l2 = 1 ∨ l2 = 2 ∨ l2 = 3 by omega) with hc | hc | hc | hc | hc | hc
      · replace h := h.1 (by omega)
        refine a_tabOut (tgt := 83) (pc := 14) dX8_line_14 (by omega) (by decide) ?_
        refine a_iconst (pc := 83) dX8_line_83 (by decide) ?_
        exact a_ireti (pc := 84) dX8_line_84 rfl rfl (Nat.le_of_ble_eq_true rfl) ⟨rfl, h⟩
      · replace h := h.1 (by omega)
        refine a_tabOut (tgt := 83) (pc := 14) dX8_line_14 (by omega) (by decide) ?_
        refine a_iconst (pc := 83) dX8_line_83 (by decide) ?_
        exact a_ireti (pc := 84) dX8_line_84 rfl rfl (Nat.le_of_ble_eq_true rfl) ⟨rfl, h⟩
      · replace h := h.2.1 hc
        refine a_tabIn (v := 0) (off := 30) (tgt := 44) (pc := 14) dX8_line_14 hc (by decide) (by decide) rfl (by decide) ?_
        refine a_aload_n (pc := 44) dX8_line_44 (by decide) rfl ?_
        refine a_getR (y := 1) (pc := 45) dX8_line_45 fl_RX8_10 (by decide) s0_0 rfl rfl ?_
        refine a_getR (y := 2) (pc := 48) dX8_line_48 fl_RX8_97 (by decide) s0_1 rfl rfl ?_
        refine a_iload_n (pc := 51) dX8_line_51 rfl ?_
        have ho3 := h.1
        replace h := h.2
        refine a_iald (pc := 52) dX8_line_52 (by decide) s0_2 ho3.1 ho3.2 ?_
        exact a_ireti (pc := 53) dX8_line_53 rfl rfl (Nat.le_of_ble_eq_true rfl) ⟨rfl, h⟩
      · replace h := h.2.2.1 hc
        refine a_tabIn (v := 1) (off := 40) (tgt := 54) (pc := 14) dX8_line_14 hc (by decide) (by decide) rfl (by decide) ?_
        refine a_aload_n (pc := 54) dX8_line_54 (by decide) rfl ?_
        refine a_getR (y := 1) (pc := 55) dX8_line_55 fl_RX8_10 (by decide) s0_0 rfl rfl ?_
        refine a_getR (y := 3) (pc := 58) dX8_line_58 fl_RX8_101 (by decide) s0_1 rfl rfl ?_
        refine a_iload_n (pc := 61) dX8_line_61 rfl ?_
        have ho4 := h.1
        replace h := h.2
        refine a_iald (pc := 62) dX8_line_62 (by decide) s0_3 ho4.1 ho4.2 ?_
        exact a_ireti (pc := 63) dX8_line_63 rfl rfl (Nat.le_of_ble_eq_true rfl) ⟨rfl, h⟩
      · replace h := h.2.2.2.1 hc
        refine a_tabIn (v := 2) (off := 50) (tgt := 64) (pc := 14) dX8_line_14 hc (by decide) (by decide) rfl (by decide) ?_
        refine a_aload_n (pc := 64) dX8_line_64 (by decide) rfl ?_
        refine a_getR (y := 1) (pc := 65) dX8_line_65 fl_RX8_10 (by decide) s0_0 rfl rfl ?_
        refine a_getR (y := 4) (pc := 68) dX8_line_68 fl_RX8_104 (by decide) s0_1 rfl rfl ?_
        refine a_iload_n (pc := 71) dX8_line_71 rfl ?_
        have ho5 := h.1
        replace h := h.2
        refine a_iald (pc := 72) dX8_line_72 (by decide) s0_4 ho5.1 ho5.2 ?_
        exact a_ireti (pc := 73) dX8_line_73 rfl rfl (Nat.le_of_ble_eq_true rfl) ⟨rfl, h⟩
      · replace h := h.2.2.2.2 hc
        refine a_tabIn (v := 3) (off := 60) (tgt := 74) (pc := 14) dX8_line_14 hc (by decide) (by decide) rfl (by decide) ?_
        refine a_aload_n (pc := 74) dX8_line_74 (by decide) rfl ?_
        refine a_getR (y := 1) (pc := 75) dX8_line_75 fl_RX8_10 (by decide) s0_0 rfl rfl ?_
        refine a_iload_n (pc := 78) dX8_line_78 rfl ?_
        refine p_callV (As := [(0, l1)]) (st := []) (st1 := fun r => [(0, r)])  (pc := 79) dX8_line_79 ml_RX8_107 (by decide) s0_1 rfl (by decide) (Nat.le_of_ble_eq_true rfl) rfl (fun _ => rfl) h (fun r6 M7 h => ?_)
        exact a_ireti (pc := 82) dX8_line_82 rfl rfl (Nat.le_of_ble_eq_true rfl) ⟨rfl, h⟩
theorem E_C_line {l1 l2 : Int} {M : Mem} {Q : Int → Mem → Prop} (h : AW mX8_line 0 [(2, 0), (0, l1), (0, l2)] M Q) : Calls mX8_line [(2, 0), (0, l1), (0, l2)] S0 M Q := calls_of (by decide) (by decide) (Nat.le_of_ble_eq_true rfl) rfl h
set_option maxRecDepth 100000 in
set_option maxHeartbeats 4000000 in
theorem B_C_board_0 {l1 l2 l3 l4 : Int} {M : Mem} {Q : Int → Mem → Prop} (h : ((l1 < 0 → Q (-1) M) ∧ (¬ (l1 < 0) → ((12 ≤ l1 → Q (-1) M) ∧ (¬ (12 ≤ l1) → ((l3 < 0 → Q (-1) M) ∧ (¬ (l3 < 0) → ((l4 < 0 → Q (-1) M) ∧ (¬ (l4 < 0) → ((l4 ≤ 2 → ((l2 < 0 → Q (-2) M) ∧ (¬ (l2 < 0) → ((1999 < l2 → Q (-2) M) ∧ (¬ (1999 < l2) → Calls mX0_gather [(2, 261), (0, l1), (0, l2)] S0 M (fun r8 M9 => ((l3 < (M9 261 2) → ((0 : Int) ≤ l3 ∧ l3 < 48) ∧ ((¬ l4 = 0 ∧ ¬ l4 = 1 → ((0 : Int) ≤ M9 262 l3) ∧ Q ((M9 262 l3) / 100) M9) ∧ (l4 = 0 → ((0 : Int) ≤ M9 262 l3) ∧ ((0 : Int) ≤ (M9 262 l3) / 10) ∧ Q (((M9 262 l3) / 10) % 10) M9) ∧ (l4 = 1 → ((0 : Int) ≤ M9 262 l3) ∧ Q ((M9 262 l3) % 10) M9))) ∧ (¬ (l3 < (M9 261 2)) → Q (-5) M9)))))))) ∧ (¬ (l4 ≤ 2) → Q (-1) M))))))))))) : AW mX8_board 0 [(2, 0), (0, l1), (0, l2), (0, l3), (0, l4)] M Q := by
  refine a_iload_n (pc := 0) dX8_board_0 rfl ?_
  refine p_inlS (Ex := _) (As := [(0, l1)]) (st := []) (st1 := fun r => [(0, r)])  (pc := 1) dX8_board_1 ml_RX8_129 (by decide) (Nat.le_of_ble_eq_true rfl) rfl (fun _ => rfl) (by decide) (by decide) (Nat.le_of_ble_eq_true rfl) rfl ?_
  refine a_iload_n (pc := 0) dX8_isStop_0 rfl ?_
  refine a_if_lt (tgt := 14) (pc := 1) dX8_isStop_1 (by decide) (fun hc1 => ?_) (fun hc1 => ?_)
  · replace h := h.1 hc1
    refine a_iconst (pc := 14) dX8_isStop_14 (by decide) ?_
    refine a_iretz (pc := 15) dX8_isStop_15 rfl rfl (Nat.le_of_ble_eq_true rfl) (by decide) ⟨rfl, ?_⟩
    refine a_if_eq (tgt := 22) (pc := 4) dX8_board_4 (by decide) (fun _ => ?_) (fun hc => absurd (by decide) hc)
    refine a_iconst (pc := 22) dX8_board_22 (by decide) ?_
    exact a_ireti (pc := 23) dX8_board_23 rfl rfl (Nat.le_of_ble_eq_true rfl) ⟨rfl, h⟩
  · replace h := h.2 hc1
    refine a_iload_n (pc := 4) dX8_isStop_4 rfl ?_
    refine a_bipush (pc := 5) dX8_isStop_5 (by decide) (by decide +kernel) ?_
    refine a_icmp_ge (tgt := 14) (pc := 7) dX8_isStop_7 (by decide) (fun hc2 => ?_) (fun hc2 => ?_)
    · replace h := h.1 hc2
      refine a_iconst (pc := 14) dX8_isStop_14 (by decide) ?_
      refine a_iretz (pc := 15) dX8_isStop_15 rfl rfl (Nat.le_of_ble_eq_true rfl) (by decide) ⟨rfl, ?_⟩
      refine a_if_eq (tgt := 22) (pc := 4) dX8_board_4 (by decide) (fun _ => ?_) (fun hc => absurd (by decide) hc)
      refine a_iconst (pc := 22) dX8_board_22 (by decide) ?_
      exact a_ireti (pc := 23) dX8_board_23 rfl rfl (Nat.le_of_ble_eq_true rfl) ⟨rfl, h⟩
    · replace h := h.2 hc2
      refine a_iconst (pc := 10) dX8_isStop_10 (by decide) ?_
      refine a_goto (tgt := 15) (pc := 11) dX8_isStop_11 (by decide) ?_
      refine a_iretz (pc := 15) dX8_isStop_15 rfl rfl (Nat.le_of_ble_eq_true rfl) (by decide) ⟨rfl, ?_⟩
      refine a_if_eq (tgt := 22) (pc := 4) dX8_board_4 (by decide) (fun hc => absurd hc (by decide)) (fun _ => ?_)
      refine a_iload_n (pc := 7) dX8_board_7 rfl ?_
      refine a_if_lt (tgt := 22) (pc := 8) dX8_board_8 (by decide) (fun hc3 => ?_) (fun hc3 => ?_)
      · replace h := h.1 hc3
        refine a_iconst (pc := 22) dX8_board_22 (by decide) ?_
        exact a_ireti (pc := 23) dX8_board_23 rfl rfl (Nat.le_of_ble_eq_true rfl) ⟨rfl, h⟩
      · replace h := h.2 hc3
        refine a_iload (pc := 11) dX8_board_11 rfl ?_
        refine a_if_lt (tgt := 22) (pc := 13) dX8_board_13 (by decide) (fun hc4 => ?_) (fun hc4 => ?_)
        · replace h := h.1 hc4
          refine a_iconst (pc := 22) dX8_board_22 (by decide) ?_
          exact a_ireti (pc := 23) dX8_board_23 rfl rfl (Nat.le_of_ble_eq_true rfl) ⟨rfl, h⟩
        · replace h := h.2 hc4
          refine a_iload (pc := 16) dX8_board_16 rfl ?_
          refine a_iconst (pc := 18) dX8_board_18 (by decide) ?_
          refine a_icmp_le (tgt := 24) (pc := 19) dX8_board_19 (by decide) (fun hc5 => ?_) (fun hc5 => ?_)
          · replace h := h.1 hc5
            refine a_iload_n (pc := 24) dX8_board_24 rfl ?_
            refine p_inlS (Ex := _) (As := [(0, l2)]) (st := []) (st1 := fun r => [(0, r)])  (pc := 25) dX8_board_25 ml_RX8_178 (by decide) (Nat.le_of_ble_eq_true rfl) rfl (fun _ => rfl) (by decide) (by decide) (Nat.le_of_ble_eq_true rfl) rfl ?_
            refine a_iload_n (pc := 0) dX8_isMinute_0 rfl ?_
            refine a_if_lt (tgt := 15) (pc := 1) dX8_isMinute_1 (by decide) (fun hc6 => ?_) (fun hc6 => ?_)
            · replace h := h.1 hc6
              refine a_iconst (pc := 15) dX8_isMinute_15 (by decide) ?_
              refine a_iretz (pc := 16) dX8_isMinute_16 rfl rfl (Nat.le_of_ble_eq_true rfl) (by decide) ⟨rfl, ?_⟩
              refine a_if_ne (tgt := 34) (pc := 28) dX8_board_28 (by decide) (fun hc => absurd rfl hc) (fun _ => ?_)
              refine a_bipush (pc := 31) dX8_board_31 (by decide) (by decide +kernel) ?_
              exact a_ireti (pc := 33) dX8_board_33 rfl rfl (Nat.le_of_ble_eq_true rfl) ⟨rfl, h⟩
            · replace h := h.2 hc6
              refine a_iload_n (pc := 4) dX8_isMinute_4 rfl ?_
              refine a_sipush (pc := 5) dX8_isMinute_5 (by decide) (by decide +kernel) ?_
              refine a_icmp_gt (tgt := 15) (pc := 8) dX8_isMinute_8 (by decide) (fun hc7 => ?_) (fun hc7 => ?_)
              · replace h := h.1 hc7
                refine a_iconst (pc := 15) dX8_isMinute_15 (by decide) ?_
                refine a_iretz (pc := 16) dX8_isMinute_16 rfl rfl (Nat.le_of_ble_eq_true rfl) (by decide) ⟨rfl, ?_⟩
                refine a_if_ne (tgt := 34) (pc := 28) dX8_board_28 (by decide) (fun hc => absurd rfl hc) (fun _ => ?_)
                refine a_bipush (pc := 31) dX8_board_31 (by decide) (by decide +kernel) ?_
                exact a_ireti (pc := 33) dX8_board_33 rfl rfl (Nat.le_of_ble_eq_true rfl) ⟨rfl, h⟩
              · replace h := h.2 hc7
                refine a_iconst (pc := 11) dX8_isMinute_11 (by decide) ?_
                refine a_goto (tgt := 16) (pc := 12) dX8_isMinute_12 (by decide) ?_
                refine a_iretz (pc := 16) dX8_isMinute_16 rfl rfl (Nat.le_of_ble_eq_true rfl) (by decide) ⟨rfl, ?_⟩
                refine a_if_ne (tgt := 34) (pc := 28) dX8_board_28 (by decide) (fun _ => ?_) (fun hc => absurd hc (by decide))
                refine a_aload_n (pc := 34) dX8_board_34 (by decide) rfl ?_
                refine a_getR (y := 261) (pc := 35) dX8_board_35 fl_RX8_43 (by decide) s0_0 rfl rfl ?_
                refine a_iload_n (pc := 38) dX8_board_38 rfl ?_
                refine a_iload_n (pc := 39) dX8_board_39 rfl ?_
                refine p_callV (As := [(0, l1), (0, l2)]) (st := []) (st1 := fun r => [])  (pc := 40) dX8_board_40 ml_RX8_198 (by decide) s0_261 rfl (by decide) (Nat.le_of_ble_eq_true rfl) rfl (fun _ => rfl) h (fun r8 M9 h => ?_)
                refine a_iload_n (pc := 43) dX8_board_43 rfl ?_
                refine a_aload_n (pc := 44) dX8_board_44 (by decide) rfl ?_
                refine a_getR (y := 261) (pc := 45) dX8_board_45 fl_RX8_43 (by decide) s0_0 rfl rfl ?_
                refine a_getI (y := 2) (pc := 48) dX8_board_48 fl_RX8_202 (by decide) s0_261 (Or.inl rfl) rfl ?_
                refine a_icmp_lt (tgt := 57) (pc := 51) dX8_board_51 (by decide) (fun hc10 => ?_) (fun hc10 => ?_)
                · replace h := h.1 hc10
                  refine a_aload_n (pc := 57) dX8_board_57 (by decide) rfl ?_
                  refine a_getR (y := 261) (pc := 58) dX8_board_58 fl_RX8_43 (by decide) s0_0 rfl rfl ?_
                  refine a_iload_n (pc := 61) dX8_board_61 rfl ?_
                  refine a_iload (pc := 62) dX8_board_62 rfl ?_
                  refine p_inlV (Ex := _) (As := [(0, l3), (0, l4)]) (st := []) (st1 := fun r => [(0, r)])  (pc := 64) dX8_board_64 ml_RX8_203 (by decide) s0_261 rfl (by decide) (Nat.le_of_ble_eq_true rfl) rfl (fun _ => rfl) (by decide) (by decide) (Nat.le_of_ble_eq_true rfl) rfl ?_
                  refine a_aload_n (pc := 0) dX0_tell_0 (by decide) rfl ?_
                  refine a_getR (y := 262) (pc := 1) dX0_tell_1 fl_RX0_15 (by decide) s0_261 rfl rfl ?_
                  refine a_iload_n (pc := 4) dX0_tell_4 rfl ?_
                  have ho11 := h.1
                  replace h := h.2
                  refine a_iald (pc := 5) dX0_tell_5 (by decide) s0_262 ho11.1 ho11.2 ?_
                  refine a_istore_n (ls1 := [(2, 261), (0, l3), (0, l4), (0, M9 262 l3)]) (pc := 6) dX0_tell_6 (by decide) (hp1 (t := 0) rfl (by decide)) rfl ?_
                  refine a_iload_n (pc := 7) dX0_tell_7 rfl ?_
                  rcases (show (¬ l4 = 0 ∧ ¬ l4 = 1) ∨ (l4 = 0 ∨ l4 = 1) by omega) with hc | hc | hc
                  · replace h := h.1 hc
                    refine a_look (off := 41) (tgt := 49) (pc := 8) dX0_tell_8 (by decide +kernel) (by show Op.lookupswitch.offset [(0, 28), (1, 36)] 41 _ = 41; rw [Op.lookupswitch.offset_cons, if_neg (by omega), Op.lookupswitch.offset_cons, if_neg (by omega)]; rfl) (by decide) ?_
                    refine a_iload_n (pc := 49) dX0_tell_49 rfl ?_
                    refine a_bipush (pc := 50) dX0_tell_50 (by decide) (by decide +kernel) ?_
                    have ho12 := h.1
                    replace h := h.2
                    refine a_idiv (pc := 52) dX0_tell_52 ho12 (by decide) ?_
                    refine a_ireti (pc := 53) dX0_tell_53 rfl rfl (Nat.le_of_ble_eq_true rfl) ⟨rfl, ?_⟩
                    exact a_ireti (pc := 67) dX8_board_67 rfl rfl (Nat.le_of_ble_eq_true rfl) ⟨rfl, h⟩
                  · replace h := h.2.1 hc
                    refine a_look (off := 28) (tgt := 36) (pc := 8) dX0_tell_8 (by decide +kernel) (by rw [hc]; decide +kernel) (by decide) ?_
                    refine a_iload_n (pc := 36) dX0_tell_36 rfl ?_
                    refine a_bipush (pc := 37) dX0_tell_37 (by decide) (by decide +kernel) ?_
                    have ho13 := h.1
                    replace h := h.2
                    refine a_idiv (pc := 39) dX0_tell_39 ho13 (by decide) ?_
                    refine a_bipush (pc := 40) dX0_tell_40 (by decide) (by decide +kernel) ?_
                    have ho14 := h.1
                    replace h := h.2
                    refine a_irem (pc := 42) dX0_tell_42 ho14 (by decide) ?_
                    refine a_ireti (pc := 43) dX0_tell_43 rfl rfl (Nat.le_of_ble_eq_true rfl) ⟨rfl, ?_⟩
                    exact a_ireti (pc := 67) dX8_board_67 rfl rfl (Nat.le_of_ble_eq_true rfl) ⟨rfl, h⟩
                  · replace h := h.2.2 hc
                    refine a_look (off := 36) (tgt := 44) (pc := 8) dX0_tell_8 (by decide +kernel) (by rw [hc]; decide +kernel) (by decide) ?_
                    refine a_iload_n (pc := 44) dX0_tell_44 rfl ?_
                    refine a_bipush (pc := 45) dX0_tell_45 (by decide) (by decide +kernel) ?_
                    have ho15 := h.1
                    replace h := h.2
                    refine a_irem (pc := 47) dX0_tell_47 ho15 (by decide) ?_
                    refine a_ireti (pc := 48) dX0_tell_48 rfl rfl (Nat.le_of_ble_eq_true rfl) ⟨rfl, ?_⟩
                    exact a_ireti (pc := 67) dX8_board_67 rfl rfl (Nat.le_of_ble_eq_true rfl) ⟨rfl, h⟩
                · replace h := h.2 hc10
                  refine a_bipush (pc := 54) dX8_board_54 (by decide) (by decide +kernel) ?_
                  exact a_ireti (pc := 56) dX8_board_56 rfl rfl (Nat.le_of_ble_eq_true rfl) ⟨rfl, h⟩
          · replace h := h.2 hc5
            refine a_iconst (pc := 22) dX8_board_22 (by decide) ?_
            exact a_ireti (pc := 23) dX8_board_23 rfl rfl (Nat.le_of_ble_eq_true rfl) ⟨rfl, h⟩
theorem E_C_board {l1 l2 l3 l4 : Int} {M : Mem} {Q : Int → Mem → Prop} (h : AW mX8_board 0 [(2, 0), (0, l1), (0, l2), (0, l3), (0, l4)] M Q) : Calls mX8_board [(2, 0), (0, l1), (0, l2), (0, l3), (0, l4)] S0 M Q := calls_of (by decide) (by decide) (Nat.le_of_ble_eq_true rfl) rfl h
set_option maxRecDepth 100000 in
set_option maxHeartbeats 4000000 in
theorem B_C_told_0 {l1 : Int} {M : Mem} {Q : Int → Mem → Prop} (h : ((l1 < 0 ∨ 6 < l1 → Q (-1) M) ∧ (l1 = 0 → Q (M 1 0) M) ∧ (l1 = 1 → Calls mX3_countTrips [(2, 1)] S0 M (fun r1 M2 => Q r1 M2)) ∧ (l1 = 2 → Calls mX3_countPaths [(2, 1)] S0 M (fun r3 M4 => Q r3 M4)) ∧ (l1 = 3 → Calls mX3_countAllRunning [(2, 1)] S0 M (fun r5 M6 => Q r5 M6)) ∧ (l1 = 4 → Calls mX3_countLoneStops [(2, 1)] S0 M (fun r7 M8 => Q r7 M8)) ∧ (l1 = 5 → Q (M 263 1) M) ∧ (l1 = 6 → Q (M 265 1) M))) : AW mX8_told 0 [(2, 0), (0, l1)] M Q := by
  refine a_iload_n (pc := 0) dX8_told_0 rfl ?_
  rcases (show l1 < 0 ∨ 6 < l1 ∨ l1 = 0 ∨ l1 = 1 ∨ l1 = 2 ∨ l1 = 3 ∨ l1 = 4 ∨ l1 = 5 ∨ l1 = 6 by omega) with hc | hc | hc | hc | hc | hc | hc | hc | hc
  · replace h := h.1 (by omega)
    refine a_tabOut (tgt := 100) (pc := 1) dX8_told_1 (by omega) (by decide) ?_
    refine a_iconst (pc := 100) dX8_told_100 (by decide) ?_
    exact a_ireti (pc := 101) dX8_told_101 rfl rfl (Nat.le_of_ble_eq_true rfl) ⟨rfl, h⟩
  · replace h := h.1 (by omega)
    refine a_tabOut (tgt := 100) (pc := 1) dX8_told_1 (by omega) (by decide) ?_
    refine a_iconst (pc := 100) dX8_told_100 (by decide) ?_
    exact a_ireti (pc := 101) dX8_told_101 rfl rfl (Nat.le_of_ble_eq_true rfl) ⟨rfl, h⟩
  · replace h := h.2.1 hc
    refine a_tabIn (v := 0) (off := 43) (tgt := 44) (pc := 1) dX8_told_1 hc (by decide) (by decide) rfl (by decide) ?_
    refine a_aload_n (pc := 44) dX8_told_44 (by decide) rfl ?_
    refine a_getR (y := 1) (pc := 45) dX8_told_45 fl_RX8_10 (by decide) s0_0 rfl rfl ?_
    refine a_getI (y := 0) (pc := 48) dX8_told_48 fl_RX8_184 (by decide) s0_1 (Or.inl rfl) rfl ?_
    exact a_ireti (pc := 51) dX8_told_51 rfl rfl (Nat.le_of_ble_eq_true rfl) ⟨rfl, h⟩
  · replace h := h.2.2.1 hc
    refine a_tabIn (v := 1) (off := 51) (tgt := 52) (pc := 1) dX8_told_1 hc (by decide) (by decide) rfl (by decide) ?_
    refine a_aload_n (pc := 52) dX8_told_52 (by decide) rfl ?_
    refine a_getR (y := 1) (pc := 53) dX8_told_53 fl_RX8_10 (by decide) s0_0 rfl rfl ?_
    refine p_callV (As := []) (st := []) (st1 := fun r => [(0, r)])  (pc := 56) dX8_told_56 ml_RX8_217 (by decide) s0_1 rfl (by decide) (Nat.le_of_ble_eq_true rfl) rfl (fun _ => rfl) h (fun r1 M2 h => ?_)
    exact a_ireti (pc := 59) dX8_told_59 rfl rfl (Nat.le_of_ble_eq_true rfl) ⟨rfl, h⟩
  · replace h := h.2.2.2.1 hc
    refine a_tabIn (v := 2) (off := 59) (tgt := 60) (pc := 1) dX8_told_1 hc (by decide) (by decide) rfl (by decide) ?_
    refine a_aload_n (pc := 60) dX8_told_60 (by decide) rfl ?_
    refine a_getR (y := 1) (pc := 61) dX8_told_61 fl_RX8_10 (by decide) s0_0 rfl rfl ?_
    refine p_callV (As := []) (st := []) (st1 := fun r => [(0, r)])  (pc := 64) dX8_told_64 ml_RX8_220 (by decide) s0_1 rfl (by decide) (Nat.le_of_ble_eq_true rfl) rfl (fun _ => rfl) h (fun r3 M4 h => ?_)
    exact a_ireti (pc := 67) dX8_told_67 rfl rfl (Nat.le_of_ble_eq_true rfl) ⟨rfl, h⟩
  · replace h := h.2.2.2.2.1 hc
    refine a_tabIn (v := 3) (off := 67) (tgt := 68) (pc := 1) dX8_told_1 hc (by decide) (by decide) rfl (by decide) ?_
    refine a_aload_n (pc := 68) dX8_told_68 (by decide) rfl ?_
    refine a_getR (y := 1) (pc := 69) dX8_told_69 fl_RX8_10 (by decide) s0_0 rfl rfl ?_
    refine p_callV (As := []) (st := []) (st1 := fun r => [(0, r)])  (pc := 72) dX8_told_72 ml_RX8_223 (by decide) s0_1 rfl (by decide) (Nat.le_of_ble_eq_true rfl) rfl (fun _ => rfl) h (fun r5 M6 h => ?_)
    exact a_ireti (pc := 75) dX8_told_75 rfl rfl (Nat.le_of_ble_eq_true rfl) ⟨rfl, h⟩
  · replace h := h.2.2.2.2.2.1 hc
    refine a_tabIn (v := 4) (off := 75) (tgt := 76) (pc := 1) dX8_told_1 hc (by decide) (by decide) rfl (by decide) ?_
    refine a_aload_n (pc := 76) dX8_told_76 (by decide) rfl ?_
    refine a_getR (y := 1) (pc := 77) dX8_told_77 fl_RX8_10 (by decide) s0_0 rfl rfl ?_
    refine p_callV (As := []) (st := []) (st1 := fun r => [(0, r)])  (pc := 80) dX8_told_80 ml_RX8_226 (by decide) s0_1 rfl (by decide) (Nat.le_of_ble_eq_true rfl) rfl (fun _ => rfl) h (fun r7 M8 h => ?_)
    exact a_ireti (pc := 83) dX8_told_83 rfl rfl (Nat.le_of_ble_eq_true rfl) ⟨rfl, h⟩
  · replace h := h.2.2.2.2.2.2.1 hc
    refine a_tabIn (v := 5) (off := 83) (tgt := 84) (pc := 1) dX8_told_1 hc (by decide) (by decide) rfl (by decide) ?_
    refine a_aload_n (pc := 84) dX8_told_84 (by decide) rfl ?_
    refine a_getR (y := 263) (pc := 85) dX8_told_85 fl_RX8_52 (by decide) s0_0 rfl rfl ?_
    refine a_getI (y := 1) (pc := 88) dX8_told_88 fl_RX8_79 (by decide) s0_263 (Or.inl rfl) rfl ?_
    exact a_ireti (pc := 91) dX8_told_91 rfl rfl (Nat.le_of_ble_eq_true rfl) ⟨rfl, h⟩
  · replace h := h.2.2.2.2.2.2.2 hc
    refine a_tabIn (v := 6) (off := 91) (tgt := 92) (pc := 1) dX8_told_1 hc (by decide) (by decide) rfl (by decide) ?_
    refine a_aload_n (pc := 92) dX8_told_92 (by decide) rfl ?_
    refine a_getR (y := 265) (pc := 93) dX8_told_93 fl_RX8_56 (by decide) s0_0 rfl rfl ?_
    refine a_getI (y := 1) (pc := 96) dX8_told_96 fl_RX8_79 (by decide) s0_265 (Or.inl rfl) rfl ?_
    exact a_ireti (pc := 99) dX8_told_99 rfl rfl (Nat.le_of_ble_eq_true rfl) ⟨rfl, h⟩
theorem E_C_told {l1 : Int} {M : Mem} {Q : Int → Mem → Prop} (h : AW mX8_told 0 [(2, 0), (0, l1)] M Q) : Calls mX8_told [(2, 0), (0, l1)] S0 M Q := calls_of (by decide) (by decide) (Nat.le_of_ble_eq_true rfl) rfl h
set_option maxRecDepth 100000 in
set_option maxHeartbeats 4000000 in
theorem B_C_missed_0 {l1 : Int} {M : Mem} {Q : Int → Mem → Prop} (h : ((l1 < 0 → Q (-1) M) ∧ (¬ (l1 < 0) → ((12 ≤ l1 → Q (-1) M) ∧ (¬ (12 ≤ l1) → Calls mX0_leastMiss [(2, 261), (0, l1)] S0 M (fun r3 M4 => ((¬ r3 = 10000 → Q r3 M4) ∧ (r3 = 10000 → Q (-5) M4)))))))) : AW mX8_missed 0 [(2, 0), (0, l1)] M Q := by
  refine a_iload_n (pc := 0) dX8_missed_0 rfl ?_
  refine p_inlS (Ex := _) (As := [(0, l1)]) (st := []) (st1 := fun r => [(0, r)])  (pc := 1) dX8_missed_1 ml_RX8_129 (by decide) (Nat.le_of_ble_eq_true rfl) rfl (fun _ => rfl) (by decide) (by decide) (Nat.le_of_ble_eq_true rfl) rfl ?_
  refine a_iload_n (pc := 0) dX8_isStop_0 rfl ?_
  refine a_if_lt (tgt := 14) (pc := 1) dX8_isStop_1 (by decide) (fun hc1 => ?_) (fun hc1 => ?_)
  · replace h := h.1 hc1
    refine a_iconst (pc := 14) dX8_isStop_14 (by decide) ?_
    refine a_iretz (pc := 15) dX8_isStop_15 rfl rfl (Nat.le_of_ble_eq_true rfl) (by decide) ⟨rfl, ?_⟩
    refine a_if_ne (tgt := 9) (pc := 4) dX8_missed_4 (by decide) (fun hc => absurd rfl hc) (fun _ => ?_)
    refine a_iconst (pc := 7) dX8_missed_7 (by decide) ?_
    exact a_ireti (pc := 8) dX8_missed_8 rfl rfl (Nat.le_of_ble_eq_true rfl) ⟨rfl, h⟩
  · replace h := h.2 hc1
    refine a_iload_n (pc := 4) dX8_isStop_4 rfl ?_
    refine a_bipush (pc := 5) dX8_isStop_5 (by decide) (by decide +kernel) ?_
    refine a_icmp_ge (tgt := 14) (pc := 7) dX8_isStop_7 (by decide) (fun hc2 => ?_) (fun hc2 => ?_)
    · replace h := h.1 hc2
      refine a_iconst (pc := 14) dX8_isStop_14 (by decide) ?_
      refine a_iretz (pc := 15) dX8_isStop_15 rfl rfl (Nat.le_of_ble_eq_true rfl) (by decide) ⟨rfl, ?_⟩
      refine a_if_ne (tgt := 9) (pc := 4) dX8_missed_4 (by decide) (fun hc => absurd rfl hc) (fun _ => ?_)
      refine a_iconst (pc := 7) dX8_missed_7 (by decide) ?_
      exact a_ireti (pc := 8) dX8_missed_8 rfl rfl (Nat.le_of_ble_eq_true rfl) ⟨rfl, h⟩
    · replace h := h.2 hc2
      refine a_iconst (pc := 10) dX8_isStop_10 (by decide) ?_
      refine a_goto (tgt := 15) (pc := 11) dX8_isStop_11 (by decide) ?_
      refine a_iretz (pc := 15) dX8_isStop_15 rfl rfl (Nat.le_of_ble_eq_true rfl) (by decide) ⟨rfl, ?_⟩
      refine a_if_ne (tgt := 9) (pc := 4) dX8_missed_4 (by decide) (fun _ => ?_) (fun hc => absurd hc (by decide))
      refine a_aload_n (pc := 9) dX8_missed_9 (by decide) rfl ?_
      refine a_getR (y := 261) (pc := 10) dX8_missed_10 fl_RX8_43 (by decide) s0_0 rfl rfl ?_
      refine a_iload_n (pc := 13) dX8_missed_13 rfl ?_
      refine p_callV (As := [(0, l1)]) (st := []) (st1 := fun r => [(0, r)])  (pc := 14) dX8_missed_14 ml_RX8_204 (by decide) s0_261 rfl (by decide) (Nat.le_of_ble_eq_true rfl) rfl (fun _ => rfl) h (fun r3 M4 h => ?_)
      refine p_inlS (Ex := _) (As := [(0, r3)]) (st := []) (st1 := fun r => [(0, r)])  (pc := 17) dX8_missed_17 ml_RX8_154 (by decide) (Nat.le_of_ble_eq_true rfl) rfl (fun _ => rfl) (by decide) (by decide) (Nat.le_of_ble_eq_true rfl) rfl ?_
      refine a_iload_n (pc := 0) dX8_orMissing_0 rfl ?_
      refine a_sipush (pc := 1) dX8_orMissing_1 (by decide) (by decide +kernel) ?_
      refine a_icmp_ne (tgt := 12) (pc := 4) dX8_orMissing_4 (by decide) (fun hc5 => ?_) (fun hc5 => ?_)
      · replace h := h.1 hc5
        refine a_iload_n (pc := 12) dX8_orMissing_12 rfl ?_
        refine a_ireti (pc := 13) dX8_orMissing_13 rfl rfl (Nat.le_of_ble_eq_true rfl) ⟨rfl, ?_⟩
        exact a_ireti (pc := 20) dX8_missed_20 rfl rfl (Nat.le_of_ble_eq_true rfl) ⟨rfl, h⟩
      · replace h := h.2 hc5
        refine a_bipush (pc := 7) dX8_orMissing_7 (by decide) (by decide +kernel) ?_
        refine a_goto (tgt := 13) (pc := 9) dX8_orMissing_9 (by decide) ?_
        refine a_ireti (pc := 13) dX8_orMissing_13 rfl rfl (Nat.le_of_ble_eq_true rfl) ⟨rfl, ?_⟩
        exact a_ireti (pc := 20) dX8_missed_20 rfl rfl (Nat.le_of_ble_eq_true rfl) ⟨rfl, h⟩
theorem E_C_missed {l1 : Int} {M : Mem} {Q : Int → Mem → Prop} (h : AW mX8_missed 0 [(2, 0), (0, l1)] M Q) : Calls mX8_missed [(2, 0), (0, l1)] S0 M Q := calls_of (by decide) (by decide) (Nat.le_of_ble_eq_true rfl) rfl h
set_option maxRecDepth 100000 in
set_option maxHeartbeats 4000000 in
theorem B_C_judge_0 {l1 l2 l3 l4 l5 : Int} {M : Mem} {Q : Int → Mem → Prop} (h : Calls mX8_listRefusal [(2, 0), (0, l1), (0, l3), (0, l4), (0, l5)] S0 M (fun r1 M2 => ((r1 = 0 → Calls mX6_run [(2, 229), (0, l3), (0, l4), (0, l5)] S0 M2 (fun r4 M5 => AW mX8_judge 35 [(2, 0), (0, l1), (0, l2), (9, 0), (9, 0), (0, l5), (9, 0), (0, 0)] M5 Q)) ∧ (¬ r1 = 0 → Q r1 M2)))) : AW mX8_judge 0 [(2, 0), (0, l1), (0, l2), (0, l3), (0, l4), (0, l5), (9, 0), (9, 0)] M Q := by
  refine a_aload_n (pc := 0) dX8_judge_0 (by decide) rfl ?_
  refine a_iload_n (pc := 1) dX8_judge_1 rfl ?_
  refine a_iload_n (pc := 2) dX8_judge_2 rfl ?_
  refine a_iload (pc := 3) dX8_judge_3 rfl ?_
  refine a_iload (pc := 5) dX8_judge_5 rfl ?_
  refine p_callV (As := [(0, l1), (0, l3), (0, l4), (0, l5)]) (st := []) (st1 := fun r => [(0, r)])  (pc := 7) dX8_judge_7 ml_RX8_243 (by decide) s0_0 rfl (by decide) (Nat.le_of_ble_eq_true rfl) rfl (fun _ => rfl) h (fun r1 M2 h => ?_)
  refine a_istore (ls1 := [(2, 0), (0, l1), (0, l2), (0, l3), (0, l4), (0, l5), (0, r1), (9, 0)]) (pc := 10) dX8_judge_10 (by decide) (hp1 (t := 0) rfl (by decide)) rfl ?_
  refine a_iload (pc := 12) dX8_judge_12 rfl ?_
  refine a_if_eq (tgt := 20) (pc := 14) dX8_judge_14 (by decide) (fun hc3 => ?_) (fun hc3 => ?_)
  · replace h := h.1 hc3
    refine a_aload_n (pc := 20) dX8_judge_20 (by decide) rfl ?_
    refine a_getR (y := 229) (pc := 21) dX8_judge_21 fl_RX8_27 (by decide) s0_0 rfl rfl ?_
    refine a_iload_n (pc := 24) dX8_judge_24 rfl ?_
    refine a_iload (pc := 25) dX8_judge_25 rfl ?_
    refine a_iload (pc := 27) dX8_judge_27 rfl ?_
    refine p_callV (As := [(0, l3), (0, l4), (0, l5)]) (st := []) (st1 := fun r => [])  (pc := 29) dX8_judge_29 ml_RX8_157 (by decide) s0_229 rfl (by decide) (Nat.le_of_ble_eq_true rfl) rfl (fun _ => rfl) h (fun r4 M5 h => ?_)
    refine a_iconst (pc := 32) dX8_judge_32 (by decide) ?_
    refine a_istore (ls1 := [(2, 0), (0, l1), (0, l2), (0, l3), (0, l4), (0, l5), (0, r1), (0, 0)]) (pc := 33) dX8_judge_33 (by decide) (hp1 (t := 0) rfl (by decide)) rfl ?_
    exact a_msk [true, true, true, false, false, true, false, true] rfl h
  · replace h := h.2 hc3
    refine a_iload (pc := 17) dX8_judge_17 rfl ?_
    exact a_ireti (pc := 19) dX8_judge_19 rfl rfl (Nat.le_of_ble_eq_true rfl) ⟨rfl, h⟩
set_option maxRecDepth 100000 in
set_option maxHeartbeats 4000000 in
theorem B_C_judge_35 {l1 l2 l5 l7 : Int} {M : Mem} {Q : Int → Mem → Prop} (h : ((12 ≤ l7 → Q (-5) M) ∧ (¬ (12 ≤ l7) → ((l1 < 0 → (-2147483648 ≤ 100 + l7 ∧ 100 + l7 ≤ 2147483647) ∧ Q (100 + l7) M) ∧ (¬ (l1 < 0) → ((4 ≤ l1 → (-2147483648 ≤ 100 + l7 ∧ 100 + l7 ≤ 2147483647) ∧ Q (100 + l7) M) ∧ (¬ (4 ≤ l1) → ((l2 < 0 → (-2147483648 ≤ 100 + l7 ∧ 100 + l7 ≤ 2147483647) ∧ Q (100 + l7) M) ∧ (¬ (l2 < 0) → ((0 : Int) ≤ l1 ∧ l1 < 4) ∧ (((M 274 l1) ≤ l2 → (-2147483648 ≤ 100 + l7 ∧ 100 + l7 ≤ 2147483647) ∧ Q (100 + l7) M) ∧ (¬ ((M 274 l1) ≤ l2) → (-2147483648 ≤ (M 274 l1) - l2 ∧ (M 274 l1) - l2 ≤ 2147483647) ∧ ((((M 274 l1) - l2) ≤ l7 → (-2147483648 ≤ 100 + l7 ∧ 100 + l7 ≤ 2147483647) ∧ Q (100 + l7) M) ∧ (¬ (((M 274 l1) - l2) ≤ l7) → (-2147483648 ≤ l2 + l7 ∧ l2 + l7 ≤ 2147483647) ∧ ((0 : Int) ≤ l2 + l7 ∧ l2 + l7 < 20) ∧ ((0 : Int) ≤ l5 ∧ l5 < 7) ∧ ((0 : Int) ≤ l7 ∧ l7 < 12) ∧ ((¬ (M (231 + l5) l7) = 10000 → (((M (270 + l1) (l2 + l7)) = (M (231 + l5) l7) → (-2147483648 ≤ l7 + 1 ∧ l7 + 1 ≤ 2147483647) ∧ AW mX8_judge 35 [(2, 0), (0, l1), (0, l2), (9, 0), (9, 0), (0, l5), (9, 0), (0, l7 + 1)] M Q) ∧ (¬ (M (270 + l1) (l2 + l7)) = (M (231 + l5) l7) → Q l7 M))) ∧ ((M (231 + l5) l7) = 10000 → (((M (270 + l1) (l2 + l7)) = (-1) → (-2147483648 ≤ l7 + 1 ∧ l7 + 1 ≤ 2147483647) ∧ AW mX8_judge 35 [(2, 0), (0, l1), (0, l2), (9, 0), (9, 0), (0, l5), (9, 0), (0, l7 + 1)] M Q) ∧ (¬ (M (270 + l1) (l2 + l7)) = (-1) → Q l7 M))))))))))))))))) : AW mX8_judge 35 [(2, 0), (0, l1), (0, l2), (9, 0), (9, 0), (0, l5), (9, 0), (0, l7)] M Q := by
  refine a_iload (pc := 35) dX8_judge_35 rfl ?_
  refine a_bipush (pc := 37) dX8_judge_37 (by decide) (by decide +kernel) ?_
  refine a_icmp_ge (tgt := 96) (pc := 39) dX8_judge_39 (by decide) (fun hc1 => ?_) (fun hc1 => ?_)
  · replace h := h.1 hc1
    refine a_bipush (pc := 96) dX8_judge_96 (by decide) (by decide +kernel) ?_
    exact a_ireti (pc := 98) dX8_judge_98 rfl rfl (Nat.le_of_ble_eq_true rfl) ⟨rfl, h⟩
  · replace h := h.2 hc1
    refine a_aload_n (pc := 42) dX8_judge_42 (by decide) rfl ?_
    refine a_getR (y := 268) (pc := 43) dX8_judge_43 fl_RX8_71 (by decide) s0_0 rfl rfl ?_
    refine a_iload_n (pc := 46) dX8_judge_46 rfl ?_
    refine a_iload_n (pc := 47) dX8_judge_47 rfl ?_
    refine a_iload (pc := 48) dX8_judge_48 rfl ?_
    refine p_inlV (Ex := _) (As := [(0, l1), (0, l2), (0, l7)]) (st := []) (st1 := fun r => [(0, r)])  (pc := 50) dX8_judge_50 ml_RX8_246 (by decide) s0_268 rfl (by decide) (Nat.le_of_ble_eq_true rfl) rfl (fun _ => rfl) (by decide) (by decide) (Nat.le_of_ble_eq_true rfl) rfl ?_
    refine a_aload_n (pc := 0) dX2_hasPlaceBehind_0 (by decide) rfl ?_
    refine a_iload_n (pc := 1) dX2_hasPlaceBehind_1 rfl ?_
    refine a_iload_n (pc := 2) dX2_hasPlaceBehind_2 rfl ?_
    refine p_inlV (Ex := _) (As := [(0, l1), (0, l2)]) (st := []) (st1 := fun r => [(0, r)])  (pc := 3) dX2_hasPlaceBehind_3 ml_RX2_28 (by decide) s0_268 rfl (by decide) (Nat.le_of_ble_eq_true rfl) rfl (fun _ => rfl) (by decide) (by decide) (Nat.le_of_ble_eq_true rfl) rfl ?_
    refine a_iload_n (pc := 0) dX2_hasPlace_0 rfl ?_
    refine p_inlS (Ex := _) (As := [(0, l1)]) (st := []) (st1 := fun r => [(0, r)])  (pc := 1) dX2_hasPlace_1 ml_RX2_24 (by decide) (Nat.le_of_ble_eq_true rfl) rfl (fun _ => rfl) (by decide) (by decide) (Nat.le_of_ble_eq_true rfl) rfl ?_
    refine a_iload_n (pc := 0) dX2_isList_0 rfl ?_
    refine a_if_lt (tgt := 13) (pc := 1) dX2_isList_1 (by decide) (fun hc2 => ?_) (fun hc2 => ?_)
    · replace h := h.1 hc2
      refine a_iconst (pc := 13) dX2_isList_13 (by decide) ?_
      refine a_iretz (pc := 14) dX2_isList_14 rfl rfl (Nat.le_of_ble_eq_true rfl) (by decide) ⟨rfl, ?_⟩
      refine a_if_eq (tgt := 25) (pc := 4) dX2_hasPlace_4 (by decide) (fun _ => ?_) (fun hc => absurd (by decide) hc)
      refine a_iconst (pc := 25) dX2_hasPlace_25 (by decide) ?_
      refine a_iretz (pc := 26) dX2_hasPlace_26 rfl rfl (Nat.le_of_ble_eq_true rfl) (by decide) ⟨rfl, ?_⟩
      refine a_if_eq (tgt := 25) (pc := 6) dX2_hasPlaceBehind_6 (by decide) (fun _ => ?_) (fun hc => absurd (by decide) hc)
      refine a_iconst (pc := 25) dX2_hasPlaceBehind_25 (by decide) ?_
      refine a_iretz (pc := 26) dX2_hasPlaceBehind_26 rfl rfl (Nat.le_of_ble_eq_true rfl) (by decide) ⟨rfl, ?_⟩
      refine a_if_ne (tgt := 62) (pc := 53) dX8_judge_53 (by decide) (fun hc => absurd rfl hc) (fun _ => ?_)
      refine a_bipush (pc := 56) dX8_judge_56 (by decide) (by decide +kernel) ?_
      refine a_iload (pc := 58) dX8_judge_58 rfl ?_
      have ho3 := h.1
      replace h := h.2
      refine a_iadd (pc := 60) dX8_judge_60 ho3 ?_
      exact a_ireti (pc := 61) dX8_judge_61 rfl rfl (Nat.le_of_ble_eq_true rfl) ⟨rfl, h⟩
    · replace h := h.2 hc2
      refine a_iload_n (pc := 4) dX2_isList_4 rfl ?_
      refine a_iconst (pc := 5) dX2_isList_5 (by decide) ?_
      refine a_icmp_ge (tgt := 13) (pc := 6) dX2_isList_6 (by decide) (fun hc4 => ?_) (fun hc4 => ?_)
      · replace h := h.1 hc4
        refine a_iconst (pc := 13) dX2_isList_13 (by decide) ?_
        refine a_iretz (pc := 14) dX2_isList_14 rfl rfl (Nat.le_of_ble_eq_true rfl) (by decide) ⟨rfl, ?_⟩
        refine a_if_eq (tgt := 25) (pc := 4) dX2_hasPlace_4 (by decide) (fun _ => ?_) (fun hc => absurd (by decide) hc)
        refine a_iconst (pc := 25) dX2_hasPlace_25 (by decide) ?_
        refine a_iretz (pc := 26) dX2_hasPlace_26 rfl rfl (Nat.le_of_ble_eq_true rfl) (by decide) ⟨rfl, ?_⟩
        refine a_if_eq (tgt := 25) (pc := 6) dX2_hasPlaceBehind_6 (by decide) (fun _ => ?_) (fun hc => absurd (by decide) hc)
        refine a_iconst (pc := 25) dX2_hasPlaceBehind_25 (by decide) ?_
        refine a_iretz (pc := 26) dX2_hasPlaceBehind_26 rfl rfl (Nat.le_of_ble_eq_true rfl) (by decide) ⟨rfl, ?_⟩
        refine a_if_ne (tgt := 62) (pc := 53) dX8_judge_53 (by decide) (fun hc => absurd rfl hc) (fun _ => ?_)
        refine a_bipush (pc := 56) dX8_judge_56 (by decide) (by decide +kernel) ?_
        refine a_iload (pc := 58) dX8_judge_58 rfl ?_
        have ho5 := h.1
        replace h := h.2
        refine a_iadd (pc := 60) dX8_judge_60 ho5 ?_
        exact a_ireti (pc := 61) dX8_judge_61 rfl rfl (Nat.le_of_ble_eq_true rfl) ⟨rfl, h⟩
      · replace h := h.2 hc4
        refine a_iconst (pc := 9) dX2_isList_9 (by decide) ?_
        refine a_goto (tgt := 14) (pc := 10) dX2_isList_10 (by decide) ?_
        refine a_iretz (pc := 14) dX2_isList_14 rfl rfl (Nat.le_of_ble_eq_true rfl) (by decide) ⟨rfl, ?_⟩
        refine a_if_eq (tgt := 25) (pc := 4) dX2_hasPlace_4 (by decide) (fun hc => absurd hc (by decide)) (fun _ => ?_)
        refine a_iload_n (pc := 7) dX2_hasPlace_7 rfl ?_
        refine a_if_lt (tgt := 25) (pc := 8) dX2_hasPlace_8 (by decide) (fun hc6 => ?_) (fun hc6 => ?_)
        · replace h := h.1 hc6
          refine a_iconst (pc := 25) dX2_hasPlace_25 (by decide) ?_
          refine a_iretz (pc := 26) dX2_hasPlace_26 rfl rfl (Nat.le_of_ble_eq_true rfl) (by decide) ⟨rfl, ?_⟩
          refine a_if_eq (tgt := 25) (pc := 6) dX2_hasPlaceBehind_6 (by decide) (fun _ => ?_) (fun hc => absurd (by decide) hc)
          refine a_iconst (pc := 25) dX2_hasPlaceBehind_25 (by decide) ?_
          refine a_iretz (pc := 26) dX2_hasPlaceBehind_26 rfl rfl (Nat.le_of_ble_eq_true rfl) (by decide) ⟨rfl, ?_⟩
          refine a_if_ne (tgt := 62) (pc := 53) dX8_judge_53 (by decide) (fun hc => absurd rfl hc) (fun _ => ?_)
          refine a_bipush (pc := 56) dX8_judge_56 (by decide) (by decide +kernel) ?_
          refine a_iload (pc := 58) dX8_judge_58 rfl ?_
          have ho7 := h.1
          replace h := h.2
          refine a_iadd (pc := 60) dX8_judge_60 ho7 ?_
          exact a_ireti (pc := 61) dX8_judge_61 rfl rfl (Nat.le_of_ble_eq_true rfl) ⟨rfl, h⟩
        · replace h := h.2 hc6
          refine a_iload_n (pc := 11) dX2_hasPlace_11 rfl ?_
          refine a_aload_n (pc := 12) dX2_hasPlace_12 (by decide) rfl ?_
          refine a_getR (y := 274) (pc := 13) dX2_hasPlace_13 fl_RX2_14 (by decide) s0_268 rfl rfl ?_
          refine a_iload_n (pc := 16) dX2_hasPlace_16 rfl ?_
          have ho8 := h.1
          replace h := h.2
          refine a_iald (pc := 17) dX2_hasPlace_17 (by decide) s0_274 ho8.1 ho8.2 ?_
          refine a_icmp_ge (tgt := 25) (pc := 18) dX2_hasPlace_18 (by decide) (fun hc9 => ?_) (fun hc9 => ?_)
          · replace h := h.1 hc9
            refine a_iconst (pc := 25) dX2_hasPlace_25 (by decide) ?_
            refine a_iretz (pc := 26) dX2_hasPlace_26 rfl rfl (Nat.le_of_ble_eq_true rfl) (by decide) ⟨rfl, ?_⟩
            refine a_if_eq (tgt := 25) (pc := 6) dX2_hasPlaceBehind_6 (by decide) (fun _ => ?_) (fun hc => absurd (by decide) hc)
            refine a_iconst (pc := 25) dX2_hasPlaceBehind_25 (by decide) ?_
            refine a_iretz (pc := 26) dX2_hasPlaceBehind_26 rfl rfl (Nat.le_of_ble_eq_true rfl) (by decide) ⟨rfl, ?_⟩
            refine a_if_ne (tgt := 62) (pc := 53) dX8_judge_53 (by decide) (fun hc => absurd rfl hc) (fun _ => ?_)
            refine a_bipush (pc := 56) dX8_judge_56 (by decide) (by decide +kernel) ?_
            refine a_iload (pc := 58) dX8_judge_58 rfl ?_
            have ho10 := h.1
            replace h := h.2
            refine a_iadd (pc := 60) dX8_judge_60 ho10 ?_
            exact a_ireti (pc := 61) dX8_judge_61 rfl rfl (Nat.le_of_ble_eq_true rfl) ⟨rfl, h⟩
          · replace h := h.2 hc9
            refine a_iconst (pc := 21) dX2_hasPlace_21 (by decide) ?_
            refine a_goto (tgt := 26) (pc := 22) dX2_hasPlace_22 (by decide) ?_
            refine a_iretz (pc := 26) dX2_hasPlace_26 rfl rfl (Nat.le_of_ble_eq_true rfl) (by decide) ⟨rfl, ?_⟩
            refine a_if_eq (tgt := 25) (pc := 6) dX2_hasPlaceBehind_6 (by decide) (fun hc => absurd hc (by decide)) (fun _ => ?_)
            refine a_iload_n (pc := 9) dX2_hasPlaceBehind_9 rfl ?_
            refine a_aload_n (pc := 10) dX2_hasPlaceBehind_10 (by decide) rfl ?_
            refine a_getR (y := 274) (pc := 11) dX2_hasPlaceBehind_11 fl_RX2_14 (by decide) s0_268 rfl rfl ?_
            refine a_iload_n (pc := 14) dX2_hasPlaceBehind_14 rfl ?_
            refine a_iald (pc := 15) dX2_hasPlaceBehind_15 (by decide) s0_274 ho8.1 ho8.2 ?_
            refine a_iload_n (pc := 16) dX2_hasPlaceBehind_16 rfl ?_
            have ho11 := h.1
            replace h := h.2
            refine a_isub (pc := 17) dX2_hasPlaceBehind_17 ho11 ?_
            refine a_icmp_ge (tgt := 25) (pc := 18) dX2_hasPlaceBehind_18 (by decide) (fun hc12 => ?_) (fun hc12 => ?_)
            · replace h := h.1 hc12
              refine a_iconst (pc := 25) dX2_hasPlaceBehind_25 (by decide) ?_
              refine a_iretz (pc := 26) dX2_hasPlaceBehind_26 rfl rfl (Nat.le_of_ble_eq_true rfl) (by decide) ⟨rfl, ?_⟩
              refine a_if_ne (tgt := 62) (pc := 53) dX8_judge_53 (by decide) (fun hc => absurd rfl hc) (fun _ => ?_)
              refine a_bipush (pc := 56) dX8_judge_56 (by decide) (by decide +kernel) ?_
              refine a_iload (pc := 58) dX8_judge_58 rfl ?_
              have ho13 := h.1
              replace h := h.2
              refine a_iadd (pc := 60) dX8_judge_60 ho13 ?_
              exact a_ireti (pc := 61) dX8_judge_61 rfl rfl (Nat.le_of_ble_eq_true rfl) ⟨rfl, h⟩
            · replace h := h.2 hc12
              refine a_iconst (pc := 21) dX2_hasPlaceBehind_21 (by decide) ?_
              refine a_goto (tgt := 26) (pc := 22) dX2_hasPlaceBehind_22 (by decide) ?_
              refine a_iretz (pc := 26) dX2_hasPlaceBehind_26 rfl rfl (Nat.le_of_ble_eq_true rfl) (by decide) ⟨rfl, ?_⟩
              refine a_if_ne (tgt := 62) (pc := 53) dX8_judge_53 (by decide) (fun _ => ?_) (fun hc => absurd hc (by decide))
              refine a_aload_n (pc := 62) dX8_judge_62 (by decide) rfl ?_
              refine a_getR (y := 268) (pc := 63) dX8_judge_63 fl_RX8_71 (by decide) s0_0 rfl rfl ?_
              refine a_getR (y := 269) (pc := 66) dX8_judge_66 fl_RX8_239 (by decide) s0_268 rfl rfl ?_
              refine a_iload_n (pc := 69) dX8_judge_69 rfl ?_
              have hr14 := rw_269 l1 ho8.1 ho8.2
              refine a_aald (y := 270 + l1) (pc := 70) dX8_judge_70 (by decide) s0_269 ho8.1 ho8.2 (by omega) ?_
              refine a_iload_n (pc := 71) dX8_judge_71 rfl ?_
              refine a_iload (pc := 72) dX8_judge_72 rfl ?_
              have ho15 := h.1
              replace h := h.2
              refine a_iadd (pc := 74) dX8_judge_74 ho15 ?_
              have ho16 := h.1
              replace h := h.2
              refine a_iald (pc := 75) dX8_judge_75 hr14.1 hr14.2 ho16.1 ho16.2 ?_
              refine a_aload_n (pc := 76) dX8_judge_76 (by decide) rfl ?_
              refine a_iload (pc := 77) dX8_judge_77 rfl ?_
              refine a_iload (pc := 79) dX8_judge_79 rfl ?_
              refine p_inlV (Ex := _) (As := [(0, l5), (0, l7)]) (st := [(0, M (270 + l1) (l2 + l7))]) (st1 := fun r => [(0, r), (0, M (270 + l1) (l2 + l7))])  (pc := 81) dX8_judge_81 ml_RX8_250 (by decide) s0_0 rfl (by decide) (Nat.le_of_ble_eq_true rfl) rfl (fun _ => rfl) (by decide) (by decide) (Nat.le_of_ble_eq_true rfl) rfl ?_
              refine a_aload_n (pc := 0) dX8_toldArrival_0 (by decide) rfl ?_
              refine a_getR (y := 229) (pc := 1) dX8_toldArrival_1 fl_RX8_27 (by decide) s0_0 rfl rfl ?_
              refine a_getR (y := 230) (pc := 4) dX8_toldArrival_4 fl_RX8_160 (by decide) s0_229 rfl rfl ?_
              refine a_iload_n (pc := 7) dX8_toldArrival_7 rfl ?_
              have ho17 := h.1
              replace h := h.2
              have hr18 := rw_230 l5 ho17.1 ho17.2
              refine a_aald (y := 231 + l5) (pc := 8) dX8_toldArrival_8 (by decide) s0_230 ho17.1 ho17.2 (by omega) ?_
              refine a_iload_n (pc := 9) dX8_toldArrival_9 rfl ?_
              have ho19 := h.1
              replace h := h.2
              refine a_iald (pc := 10) dX8_toldArrival_10 hr18.1 hr18.2 ho19.1 ho19.2 ?_
              refine a_istore_n (ls1 := [(2, 0), (0, l5), (0, l7), (0, M (231 + l5) l7)]) (pc := 11) dX8_toldArrival_11 (by decide) (hp1 (t := 0) rfl (by decide)) rfl ?_
              refine a_iload_n (pc := 12) dX8_toldArrival_12 rfl ?_
              refine a_sipush (pc := 13) dX8_toldArrival_13 (by decide) (by decide +kernel) ?_
              refine a_icmp_ne (tgt := 23) (pc := 16) dX8_toldArrival_16 (by decide) (fun hc20 => ?_) (fun hc20 => ?_)
              · replace h := h.1 hc20
                refine a_iload_n (pc := 23) dX8_toldArrival_23 rfl ?_
                refine a_ireti (pc := 24) dX8_toldArrival_24 rfl rfl (Nat.le_of_ble_eq_true rfl) ⟨rfl, ?_⟩
                refine a_icmp_eq (tgt := 90) (pc := 84) dX8_judge_84 (by decide) (fun hc21 => ?_) (fun hc21 => ?_)
                · replace h := h.1 hc21
                  have ho22 := h.1
                  replace h := h.2
                  refine a_iinc (ls1 := [(2, 0), (0, l1), (0, l2), (9, 0), (9, 0), (0, l5), (9, 0), (0, l7 + 1)]) (pc := 90) dX8_judge_90 rfl (by decide) (hp1 (t := 9) rfl (by decide)) ho22 rfl ?_
                  refine a_goto (tgt := 35) (pc := 93) dX8_judge_93 (by decide) ?_
                  exact h
                · replace h := h.2 hc21
                  refine a_iload (pc := 87) dX8_judge_87 rfl ?_
                  exact a_ireti (pc := 89) dX8_judge_89 rfl rfl (Nat.le_of_ble_eq_true rfl) ⟨rfl, h⟩
              · replace h := h.2 hc20
                refine a_iconst (pc := 19) dX8_toldArrival_19 (by decide) ?_
                refine a_goto (tgt := 24) (pc := 20) dX8_toldArrival_20 (by decide) ?_
                refine a_ireti (pc := 24) dX8_toldArrival_24 rfl rfl (Nat.le_of_ble_eq_true rfl) ⟨rfl, ?_⟩
                refine a_icmp_eq (tgt := 90) (pc := 84) dX8_judge_84 (by decide) (fun hc23 => ?_) (fun hc23 => ?_)
                · replace h := h.1 hc23
                  have ho24 := h.1
                  replace h := h.2
                  refine a_iinc (ls1 := [(2, 0), (0, l1), (0, l2), (9, 0), (9, 0), (0, l5), (9, 0), (0, l7 + 1)]) (pc := 90) dX8_judge_90 rfl (by decide) (hp1 (t := 9) rfl (by decide)) ho24 rfl ?_
                  refine a_goto (tgt := 35) (pc := 93) dX8_judge_93 (by decide) ?_
                  exact h
                · replace h := h.2 hc23
                  refine a_iload (pc := 87) dX8_judge_87 rfl ?_
                  exact a_ireti (pc := 89) dX8_judge_89 rfl rfl (Nat.le_of_ble_eq_true rfl) ⟨rfl, h⟩
theorem E_C_judge {l1 l2 l3 l4 l5 : Int} {M : Mem} {Q : Int → Mem → Prop} (h : AW mX8_judge 0 [(2, 0), (0, l1), (0, l2), (0, l3), (0, l4), (0, l5), (9, 0), (9, 0)] M Q) : Calls mX8_judge [(2, 0), (0, l1), (0, l2), (0, l3), (0, l4), (0, l5)] S0 M Q := calls_of (by decide) (by decide) (Nat.le_of_ble_eq_true rfl) rfl h
set_option maxRecDepth 100000 in
set_option maxHeartbeats 4000000 in
theorem B_C_lay_0 {l1 l2 l3 l4 l5 : Int} {M : Mem} {Q : Int → Mem → Prop} (h : Calls mX8_listRefusal [(2, 0), (0, l1), (0, l3), (0, l4), (0, l5)] S0 M (fun r1 M2 => ((r1 = 0 → Calls mX6_run [(2, 229), (0, l3), (0, l4), (0, l5)] S0 M2 (fun r4 M5 => AW mX8_lay 35 [(2, 0), (0, l1), (0, l2), (9, 0), (9, 0), (0, l5), (9, 0), (0, 0)] M5 Q)) ∧ (¬ r1 = 0 → Q r1 M2)))) : AW mX8_lay 0 [(2, 0), (0, l1), (0, l2), (0, l3), (0, l4), (0, l5), (9, 0), (9, 0)] M Q := by
  refine a_aload_n (pc := 0) dX8_lay_0 (by decide) rfl ?_
  refine a_iload_n (pc := 1) dX8_lay_1 rfl ?_
  refine a_iload_n (pc := 2) dX8_lay_2 rfl ?_
  refine a_iload (pc := 3) dX8_lay_3 rfl ?_
  refine a_iload (pc := 5) dX8_lay_5 rfl ?_
  refine p_callV (As := [(0, l1), (0, l3), (0, l4), (0, l5)]) (st := []) (st1 := fun r => [(0, r)])  (pc := 7) dX8_lay_7 ml_RX8_243 (by decide) s0_0 rfl (by decide) (Nat.le_of_ble_eq_true rfl) rfl (fun _ => rfl) h (fun r1 M2 h => ?_)
  refine a_istore (ls1 := [(2, 0), (0, l1), (0, l2), (0, l3), (0, l4), (0, l5), (0, r1), (9, 0)]) (pc := 10) dX8_lay_10 (by decide) (hp1 (t := 0) rfl (by decide)) rfl ?_
  refine a_iload (pc := 12) dX8_lay_12 rfl ?_
  refine a_if_eq (tgt := 20) (pc := 14) dX8_lay_14 (by decide) (fun hc3 => ?_) (fun hc3 => ?_)
  · replace h := h.1 hc3
    refine a_aload_n (pc := 20) dX8_lay_20 (by decide) rfl ?_
    refine a_getR (y := 229) (pc := 21) dX8_lay_21 fl_RX8_27 (by decide) s0_0 rfl rfl ?_
    refine a_iload_n (pc := 24) dX8_lay_24 rfl ?_
    refine a_iload (pc := 25) dX8_lay_25 rfl ?_
    refine a_iload (pc := 27) dX8_lay_27 rfl ?_
    refine p_callV (As := [(0, l3), (0, l4), (0, l5)]) (st := []) (st1 := fun r => [])  (pc := 29) dX8_lay_29 ml_RX8_157 (by decide) s0_229 rfl (by decide) (Nat.le_of_ble_eq_true rfl) rfl (fun _ => rfl) h (fun r4 M5 h => ?_)
    refine a_iconst (pc := 32) dX8_lay_32 (by decide) ?_
    refine a_istore (ls1 := [(2, 0), (0, l1), (0, l2), (0, l3), (0, l4), (0, l5), (0, r1), (0, 0)]) (pc := 33) dX8_lay_33 (by decide) (hp1 (t := 0) rfl (by decide)) rfl ?_
    exact a_msk [true, true, true, false, false, true, false, true] rfl h
  · replace h := h.2 hc3
    refine a_iload (pc := 17) dX8_lay_17 rfl ?_
    exact a_ireti (pc := 19) dX8_lay_19 rfl rfl (Nat.le_of_ble_eq_true rfl) ⟨rfl, h⟩
set_option maxRecDepth 100000 in
set_option maxHeartbeats 4000000 in
theorem B_C_lay_35 {l1 l2 l5 l7 : Int} {M : Mem} {Q : Int → Mem → Prop} (h : ((12 ≤ l7 → Q l7 M) ∧ (¬ (12 ≤ l7) → ((l1 < 0 → Q (-13) M) ∧ (¬ (l1 < 0) → ((4 ≤ l1 → Q (-13) M) ∧ (¬ (4 ≤ l1) → ((l2 < 0 → Q (-13) M) ∧ (¬ (l2 < 0) → ((0 : Int) ≤ l1 ∧ l1 < 4) ∧ (((M 274 l1) ≤ l2 → Q (-13) M) ∧ (¬ ((M 274 l1) ≤ l2) → (-2147483648 ≤ (M 274 l1) - l2 ∧ (M 274 l1) - l2 ≤ 2147483647) ∧ ((((M 274 l1) - l2) ≤ l7 → Q (-13) M) ∧ (¬ (((M 274 l1) - l2) ≤ l7) → (-2147483648 ≤ l2 + l7 ∧ l2 + l7 ≤ 2147483647) ∧ ((0 : Int) ≤ l5 ∧ l5 < 7) ∧ ((0 : Int) ≤ l7 ∧ l7 < 12) ∧ ((¬ (M (231 + l5) l7) = 10000 → ((0 : Int) ≤ l2 + l7 ∧ l2 + l7 < 20) ∧ (-2147483648 ≤ l7 + 1 ∧ l7 + 1 ≤ 2147483647) ∧ AW mX8_lay 35 [(2, 0), (0, l1), (0, l2), (9, 0), (9, 0), (0, l5), (9, 0), (0, l7 + 1)] (up2 M (270 + l1) (l2 + l7) (M (231 + l5) l7)) Q) ∧ ((M (231 + l5) l7) = 10000 → ((0 : Int) ≤ l2 + l7 ∧ l2 + l7 < 20) ∧ (-2147483648 ≤ l7 + 1 ∧ l7 + 1 ≤ 2147483647) ∧ AW mX8_lay 35 [(2, 0), (0, l1), (0, l2), (9, 0), (9, 0), (0, l5), (9, 0), (0, l7 + 1)] (up2 M (270 + l1) (l2 + l7) (-1)) Q))))))))))))))) : AW mX8_lay 35 [(2, 0), (0, l1), (0, l2), (9, 0), (9, 0), (0, l5), (9, 0), (0, l7)] M Q := by
  refine a_iload (pc := 35) dX8_lay_35 rfl ?_
  refine a_bipush (pc := 37) dX8_lay_37 (by decide) (by decide +kernel) ?_
  refine a_icmp_ge (tgt := 84) (pc := 39) dX8_lay_39 (by decide) (fun hc1 => ?_) (fun hc1 => ?_)
  · replace h := h.1 hc1
    refine a_iload (pc := 84) dX8_lay_84 rfl ?_
    refine a_bipush (pc := 86) dX8_lay_86 (by decide) (by decide +kernel) ?_
    refine a_icmp_ge (tgt := 96) (pc := 88) dX8_lay_88 (by decide) (fun _ => ?_) (fun hc => absurd hc1 hc)
    refine a_iload (pc := 96) dX8_lay_96 rfl ?_
    exact a_ireti (pc := 98) dX8_lay_98 rfl rfl (Nat.le_of_ble_eq_true rfl) ⟨rfl, h⟩
  · replace h := h.2 hc1
    refine a_aload_n (pc := 42) dX8_lay_42 (by decide) rfl ?_
    refine a_getR (y := 268) (pc := 43) dX8_lay_43 fl_RX8_71 (by decide) s0_0 rfl rfl ?_
    refine a_iload_n (pc := 46) dX8_lay_46 rfl ?_
    refine a_iload_n (pc := 47) dX8_lay_47 rfl ?_
    refine a_iload (pc := 48) dX8_lay_48 rfl ?_
    refine p_inlV (Ex := _) (As := [(0, l1), (0, l2), (0, l7)]) (st := []) (st1 := fun r => [(0, r)])  (pc := 50) dX8_lay_50 ml_RX8_246 (by decide) s0_268 rfl (by decide) (Nat.le_of_ble_eq_true rfl) rfl (fun _ => rfl) (by decide) (by decide) (Nat.le_of_ble_eq_true rfl) rfl ?_
    refine a_aload_n (pc := 0) dX2_hasPlaceBehind_0 (by decide) rfl ?_
    refine a_iload_n (pc := 1) dX2_hasPlaceBehind_1 rfl ?_
    refine a_iload_n (pc := 2) dX2_hasPlaceBehind_2 rfl ?_
    refine p_inlV (Ex := _) (As := [(0, l1), (0, l2)]) (st := []) (st1 := fun r => [(0, r)])  (pc := 3) dX2_hasPlaceBehind_3 ml_RX2_28 (by decide) s0_268 rfl (by decide) (Nat.le_of_ble_eq_true rfl) rfl (fun _ => rfl) (by decide) (by decide) (Nat.le_of_ble_eq_true rfl) rfl ?_
    refine a_iload_n (pc := 0) dX2_hasPlace_0 rfl ?_
    refine p_inlS (Ex := _) (As := [(0, l1)]) (st := []) (st1 := fun r => [(0, r)])  (pc := 1) dX2_hasPlace_1 ml_RX2_24 (by decide) (Nat.le_of_ble_eq_true rfl) rfl (fun _ => rfl) (by decide) (by decide) (Nat.le_of_ble_eq_true rfl) rfl ?_
    refine a_iload_n (pc := 0) dX2_isList_0 rfl ?_
    refine a_if_lt (tgt := 13) (pc := 1) dX2_isList_1 (by decide) (fun hc2 => ?_) (fun hc2 => ?_)
    · replace h := h.1 hc2
      refine a_iconst (pc := 13) dX2_isList_13 (by decide) ?_
      refine a_iretz (pc := 14) dX2_isList_14 rfl rfl (Nat.le_of_ble_eq_true rfl) (by decide) ⟨rfl, ?_⟩
      refine a_if_eq (tgt := 25) (pc := 4) dX2_hasPlace_4 (by decide) (fun _ => ?_) (fun hc => absurd (by decide) hc)
      refine a_iconst (pc := 25) dX2_hasPlace_25 (by decide) ?_
      refine a_iretz (pc := 26) dX2_hasPlace_26 rfl rfl (Nat.le_of_ble_eq_true rfl) (by decide) ⟨rfl, ?_⟩
      refine a_if_eq (tgt := 25) (pc := 6) dX2_hasPlaceBehind_6 (by decide) (fun _ => ?_) (fun hc => absurd (by decide) hc)
      refine a_iconst (pc := 25) dX2_hasPlaceBehind_25 (by decide) ?_
      refine a_iretz (pc := 26) dX2_hasPlaceBehind_26 rfl rfl (Nat.le_of_ble_eq_true rfl) (by decide) ⟨rfl, ?_⟩
      refine a_if_eq (tgt := 84) (pc := 53) dX8_lay_53 (by decide) (fun _ => ?_) (fun hc => absurd (by decide) hc)
      refine a_iload (pc := 84) dX8_lay_84 rfl ?_
      refine a_bipush (pc := 86) dX8_lay_86 (by decide) (by decide +kernel) ?_
      refine a_icmp_ge (tgt := 96) (pc := 88) dX8_lay_88 (by decide) (fun hc => absurd hc hc1) (fun _ => ?_)
      refine a_bipush (pc := 91) dX8_lay_91 (by decide) (by decide +kernel) ?_
      refine a_goto (tgt := 98) (pc := 93) dX8_lay_93 (by decide) ?_
      exact a_ireti (pc := 98) dX8_lay_98 rfl rfl (Nat.le_of_ble_eq_true rfl) ⟨rfl, h⟩
    · replace h := h.2 hc2
      refine a_iload_n (pc := 4) dX2_isList_4 rfl ?_
      refine a_iconst (pc := 5) dX2_isList_5 (by decide) ?_
      refine a_icmp_ge (tgt := 13) (pc := 6) dX2_isList_6 (by decide) (fun hc3 => ?_) (fun hc3 => ?_)
      · replace h := h.1 hc3
        refine a_iconst (pc := 13) dX2_isList_13 (by decide) ?_
        refine a_iretz (pc := 14) dX2_isList_14 rfl rfl (Nat.le_of_ble_eq_true rfl) (by decide) ⟨rfl, ?_⟩
        refine a_if_eq (tgt := 25) (pc := 4) dX2_hasPlace_4 (by decide) (fun _ => ?_) (fun hc => absurd (by decide) hc)
        refine a_iconst (pc := 25) dX2_hasPlace_25 (by decide) ?_
        refine a_iretz (pc := 26) dX2_hasPlace_26 rfl rfl (Nat.le_of_ble_eq_true rfl) (by decide) ⟨rfl, ?_⟩
        refine a_if_eq (tgt := 25) (pc := 6) dX2_hasPlaceBehind_6 (by decide) (fun _ => ?_) (fun hc => absurd (by decide) hc)
        refine a_iconst (pc := 25) dX2_hasPlaceBehind_25 (by decide) ?_
        refine a_iretz (pc := 26) dX2_hasPlaceBehind_26 rfl rfl (Nat.le_of_ble_eq_true rfl) (by decide) ⟨rfl, ?_⟩
        refine a_if_eq (tgt := 84) (pc := 53) dX8_lay_53 (by decide) (fun _ => ?_) (fun hc => absurd (by decide) hc)
        refine a_iload (pc := 84) dX8_lay_84 rfl ?_
        refine a_bipush (pc := 86) dX8_lay_86 (by decide) (by decide +kernel) ?_
        refine a_icmp_ge (tgt := 96) (pc := 88) dX8_lay_88 (by decide) (fun hc => absurd hc hc1) (fun _ => ?_)
        refine a_bipush (pc := 91) dX8_lay_91 (by decide) (by decide +kernel) ?_
        refine a_goto (tgt := 98) (pc := 93) dX8_lay_93 (by decide) ?_
        exact a_ireti (pc := 98) dX8_lay_98 rfl rfl (Nat.le_of_ble_eq_true rfl) ⟨rfl, h⟩
      · replace h := h.2 hc3
        refine a_iconst (pc := 9) dX2_isList_9 (by decide) ?_
        refine a_goto (tgt := 14) (pc := 10) dX2_isList_10 (by decide) ?_
        refine a_iretz (pc := 14) dX2_isList_14 rfl rfl (Nat.le_of_ble_eq_true rfl) (by decide) ⟨rfl, ?_⟩
        refine a_if_eq (tgt := 25) (pc := 4) dX2_hasPlace_4 (by decide) (fun hc => absurd hc (by decide)) (fun _ => ?_)
        refine a_iload_n (pc := 7) dX2_hasPlace_7 rfl ?_
        refine a_if_lt (tgt := 25) (pc := 8) dX2_hasPlace_8 (by decide) (fun hc4 => ?_) (fun hc4 => ?_)
        · replace h := h.1 hc4
          refine a_iconst (pc := 25) dX2_hasPlace_25 (by decide) ?_
          refine a_iretz (pc := 26) dX2_hasPlace_26 rfl rfl (Nat.le_of_ble_eq_true rfl) (by decide) ⟨rfl, ?_⟩
          refine a_if_eq (tgt := 25) (pc := 6) dX2_hasPlaceBehind_6 (by decide) (fun _ => ?_) (fun hc => absurd (by decide) hc)
          refine a_iconst (pc := 25) dX2_hasPlaceBehind_25 (by decide) ?_
          refine a_iretz (pc := 26) dX2_hasPlaceBehind_26 rfl rfl (Nat.le_of_ble_eq_true rfl) (by decide) ⟨rfl, ?_⟩
          refine a_if_eq (tgt := 84) (pc := 53) dX8_lay_53 (by decide) (fun _ => ?_) (fun hc => absurd (by decide) hc)
          refine a_iload (pc := 84) dX8_lay_84 rfl ?_
          refine a_bipush (pc := 86) dX8_lay_86 (by decide) (by decide +kernel) ?_
          refine a_icmp_ge (tgt := 96) (pc := 88) dX8_lay_88 (by decide) (fun hc => absurd hc hc1) (fun _ => ?_)
          refine a_bipush (pc := 91) dX8_lay_91 (by decide) (by decide +kernel) ?_
          refine a_goto (tgt := 98) (pc := 93) dX8_lay_93 (by decide) ?_
          exact a_ireti (pc := 98) dX8_lay_98 rfl rfl (Nat.le_of_ble_eq_true rfl) ⟨rfl, h⟩
        · replace h := h.2 hc4
          refine a_iload_n (pc := 11) dX2_hasPlace_11 rfl ?_
          refine a_aload_n (pc := 12) dX2_hasPlace_12 (by decide) rfl ?_
          refine a_getR (y := 274) (pc := 13) dX2_hasPlace_13 fl_RX2_14 (by decide) s0_268 rfl rfl ?_
          refine a_iload_n (pc := 16) dX2_hasPlace_16 rfl ?_
          have ho5 := h.1
          replace h := h.2
          refine a_iald (pc := 17) dX2_hasPlace_17 (by decide) s0_274 ho5.1 ho5.2 ?_
          refine a_icmp_ge (tgt := 25) (pc := 18) dX2_hasPlace_18 (by decide) (fun hc6 => ?_) (fun hc6 => ?_)
          · replace h := h.1 hc6
            refine a_iconst (pc := 25) dX2_hasPlace_25 (by decide) ?_
            refine a_iretz (pc := 26) dX2_hasPlace_26 rfl rfl (Nat.le_of_ble_eq_true rfl) (by decide) ⟨rfl, ?_⟩
            refine a_if_eq (tgt := 25) (pc := 6) dX2_hasPlaceBehind_6 (by decide) (fun _ => ?_) (fun hc => absurd (by decide) hc)
            refine a_iconst (pc := 25) dX2_hasPlaceBehind_25 (by decide) ?_
            refine a_iretz (pc := 26) dX2_hasPlaceBehind_26 rfl rfl (Nat.le_of_ble_eq_true rfl) (by decide) ⟨rfl, ?_⟩
            refine a_if_eq (tgt := 84) (pc := 53) dX8_lay_53 (by decide) (fun _ => ?_) (fun hc => absurd (by decide) hc)
            refine a_iload (pc := 84) dX8_lay_84 rfl ?_
            refine a_bipush (pc := 86) dX8_lay_86 (by decide) (by decide +kernel) ?_
            refine a_icmp_ge (tgt := 96) (pc := 88) dX8_lay_88 (by decide) (fun hc => absurd hc hc1) (fun _ => ?_)
            refine a_bipush (pc := 91) dX8_lay_91 (by decide) (by decide +kernel) ?_
            refine a_goto (tgt := 98) (pc := 93) dX8_lay_93 (by decide) ?_
            exact a_ireti (pc := 98) dX8_lay_98 rfl rfl (Nat.le_of_ble_eq_true rfl) ⟨rfl, h⟩
          · replace h := h.2 hc6
            refine a_iconst (pc := 21) dX2_hasPlace_21 (by decide) ?_
            refine a_goto (tgt := 26) (pc := 22) dX2_hasPlace_22 (by decide) ?_
            refine a_iretz (pc := 26) dX2_hasPlace_26 rfl rfl (Nat.le_of_ble_eq_true rfl) (by decide) ⟨rfl, ?_⟩
            refine a_if_eq (tgt := 25) (pc := 6) dX2_hasPlaceBehind_6 (by decide) (fun hc => absurd hc (by decide)) (fun _ => ?_)
            refine a_iload_n (pc := 9) dX2_hasPlaceBehind_9 rfl ?_
            refine a_aload_n (pc := 10) dX2_hasPlaceBehind_10 (by decide) rfl ?_
            refine a_getR (y := 274) (pc := 11) dX2_hasPlaceBehind_11 fl_RX2_14 (by decide) s0_268 rfl rfl ?_
            refine a_iload_n (pc := 14) dX2_hasPlaceBehind_14 rfl ?_
            refine a_iald (pc := 15) dX2_hasPlaceBehind_15 (by decide) s0_274 ho5.1 ho5.2 ?_
            refine a_iload_n (pc := 16) dX2_hasPlaceBehind_16 rfl ?_
            have ho7 := h.1
            replace h := h.2
            refine a_isub (pc := 17) dX2_hasPlaceBehind_17 ho7 ?_
            refine a_icmp_ge (tgt := 25) (pc := 18) dX2_hasPlaceBehind_18 (by decide) (fun hc8 => ?_) (fun hc8 => ?_)
            · replace h := h.1 hc8
              refine a_iconst (pc := 25) dX2_hasPlaceBehind_25 (by decide) ?_
              refine a_iretz (pc := 26) dX2_hasPlaceBehind_26 rfl rfl (Nat.le_of_ble_eq_true rfl) (by decide) ⟨rfl, ?_⟩
              refine a_if_eq (tgt := 84) (pc := 53) dX8_lay_53 (by decide) (fun _ => ?_) (fun hc => absurd (by decide) hc)
              refine a_iload (pc := 84) dX8_lay_84 rfl ?_
              refine a_bipush (pc := 86) dX8_lay_86 (by decide) (by decide +kernel) ?_
              refine a_icmp_ge (tgt := 96) (pc := 88) dX8_lay_88 (by decide) (fun hc => absurd hc hc1) (fun _ => ?_)
              refine a_bipush (pc := 91) dX8_lay_91 (by decide) (by decide +kernel) ?_
              refine a_goto (tgt := 98) (pc := 93) dX8_lay_93 (by decide) ?_
              exact a_ireti (pc := 98) dX8_lay_98 rfl rfl (Nat.le_of_ble_eq_true rfl) ⟨rfl, h⟩
            · replace h := h.2 hc8
              refine a_iconst (pc := 21) dX2_hasPlaceBehind_21 (by decide) ?_
              refine a_goto (tgt := 26) (pc := 22) dX2_hasPlaceBehind_22 (by decide) ?_
              refine a_iretz (pc := 26) dX2_hasPlaceBehind_26 rfl rfl (Nat.le_of_ble_eq_true rfl) (by decide) ⟨rfl, ?_⟩
              refine a_if_eq (tgt := 84) (pc := 53) dX8_lay_53 (by decide) (fun hc => absurd hc (by decide)) (fun _ => ?_)
              refine a_aload_n (pc := 56) dX8_lay_56 (by decide) rfl ?_
              refine a_getR (y := 268) (pc := 57) dX8_lay_57 fl_RX8_71 (by decide) s0_0 rfl rfl ?_
              refine a_getR (y := 269) (pc := 60) dX8_lay_60 fl_RX8_239 (by decide) s0_268 rfl rfl ?_
              refine a_iload_n (pc := 63) dX8_lay_63 rfl ?_
              have hr9 := rw_269 l1 ho5.1 ho5.2
              refine a_aald (y := 270 + l1) (pc := 64) dX8_lay_64 (by decide) s0_269 ho5.1 ho5.2 (by omega) ?_
              refine a_iload_n (pc := 65) dX8_lay_65 rfl ?_
              refine a_iload (pc := 66) dX8_lay_66 rfl ?_
              have ho10 := h.1
              replace h := h.2
              refine a_iadd (pc := 68) dX8_lay_68 ho10 ?_
              refine a_aload_n (pc := 69) dX8_lay_69 (by decide) rfl ?_
              refine a_iload (pc := 70) dX8_lay_70 rfl ?_
              refine a_iload (pc := 72) dX8_lay_72 rfl ?_
              refine p_inlV (Ex := _) (As := [(0, l5), (0, l7)]) (st := [(0, l2 + l7), (2, 270 + l1)]) (st1 := fun r => [(0, r), (0, l2 + l7), (2, 270 + l1)])  (pc := 74) dX8_lay_74 ml_RX8_250 (by decide) s0_0 rfl (by decide) (Nat.le_of_ble_eq_true rfl) rfl (fun _ => rfl) (by decide) (by decide) (Nat.le_of_ble_eq_true rfl) rfl ?_
              refine a_aload_n (pc := 0) dX8_toldArrival_0 (by decide) rfl ?_
              refine a_getR (y := 229) (pc := 1) dX8_toldArrival_1 fl_RX8_27 (by decide) s0_0 rfl rfl ?_
              refine a_getR (y := 230) (pc := 4) dX8_toldArrival_4 fl_RX8_160 (by decide) s0_229 rfl rfl ?_
              refine a_iload_n (pc := 7) dX8_toldArrival_7 rfl ?_
              have ho11 := h.1
              replace h := h.2
              have hr12 := rw_230 l5 ho11.1 ho11.2
              refine a_aald (y := 231 + l5) (pc := 8) dX8_toldArrival_8 (by decide) s0_230 ho11.1 ho11.2 (by omega) ?_
              refine a_iload_n (pc := 9) dX8_toldArrival_9 rfl ?_
              have ho13 := h.1
              replace h := h.2
              refine a_iald (pc := 10) dX8_toldArrival_10 hr12.1 hr12.2 ho13.1 ho13.2 ?_
              refine a_istore_n (ls1 := [(2, 0), (0, l5), (0, l7), (0, M (231 + l5) l7)]) (pc := 11) dX8_toldArrival_11 (by decide) (hp1 (t := 0) rfl (by decide)) rfl ?_
              refine a_iload_n (pc := 12) dX8_toldArrival_12 rfl ?_
              refine a_sipush (pc := 13) dX8_toldArrival_13 (by decide) (by decide +kernel) ?_
              refine a_icmp_ne (tgt := 23) (pc := 16) dX8_toldArrival_16 (by decide) (fun hc14 => ?_) (fun hc14 => ?_)
              · replace h := h.1 hc14
                refine a_iload_n (pc := 23) dX8_toldArrival_23 rfl ?_
                refine a_ireti (pc := 24) dX8_toldArrival_24 rfl rfl (Nat.le_of_ble_eq_true rfl) ⟨rfl, ?_⟩
                have ho15 := h.1
                replace h := h.2
                refine a_iast (pc := 77) dX8_lay_77 hr9.1 hr9.2 ho15.1 ho15.2 ?_
                have ho16 := h.1
                replace h := h.2
                refine a_iinc (ls1 := [(2, 0), (0, l1), (0, l2), (9, 0), (9, 0), (0, l5), (9, 0), (0, l7 + 1)]) (pc := 78) dX8_lay_78 rfl (by decide) (hp1 (t := 9) rfl (by decide)) ho16 rfl ?_
                refine a_goto (tgt := 35) (pc := 81) dX8_lay_81 (by decide) ?_
                exact h
              · replace h := h.2 hc14
                refine a_iconst (pc := 19) dX8_toldArrival_19 (by decide) ?_
                refine a_goto (tgt := 24) (pc := 20) dX8_toldArrival_20 (by decide) ?_
                refine a_ireti (pc := 24) dX8_toldArrival_24 rfl rfl (Nat.le_of_ble_eq_true rfl) ⟨rfl, ?_⟩
                have ho17 := h.1
                replace h := h.2
                refine a_iast (pc := 77) dX8_lay_77 hr9.1 hr9.2 ho17.1 ho17.2 ?_
                have ho18 := h.1
                replace h := h.2
                refine a_iinc (ls1 := [(2, 0), (0, l1), (0, l2), (9, 0), (9, 0), (0, l5), (9, 0), (0, l7 + 1)]) (pc := 78) dX8_lay_78 rfl (by decide) (hp1 (t := 9) rfl (by decide)) ho18 rfl ?_
                refine a_goto (tgt := 35) (pc := 81) dX8_lay_81 (by decide) ?_
                exact h
theorem E_C_lay {l1 l2 l3 l4 l5 : Int} {M : Mem} {Q : Int → Mem → Prop} (h : AW mX8_lay 0 [(2, 0), (0, l1), (0, l2), (0, l3), (0, l4), (0, l5), (9, 0), (9, 0)] M Q) : Calls mX8_lay [(2, 0), (0, l1), (0, l2), (0, l3), (0, l4), (0, l5)] S0 M Q := calls_of (by decide) (by decide) (Nat.le_of_ble_eq_true rfl) rfl h
set_option maxRecDepth 100000 in
set_option maxHeartbeats 4000000 in
theorem B_C_reached_0 {l1 l2 l3 l4 : Int} {M : Mem} {Q : Int → Mem → Prop} (h : ((l1 < 0 → Q (-1) M) ∧ (¬ (l1 < 0) → ((12 ≤ l1 → Q (-1) M) ∧ (¬ (12 ≤ l1) → ((l2 < 0 → Q (-2) M) ∧ (¬ (l2 < 0) → ((1999 < l2 → Q (-2) M) ∧ (¬ (1999 < l2) → ((l3 < 0 → Q (-2) M) ∧ (¬ (l3 < 0) → ((1999 < l3 → Q (-2) M) ∧ (¬ (1999 < l3) → ((l4 < 0 → Q (-2) M) ∧ (¬ (l4 < 0) → ((6 < l4 → Q (-2) M) ∧ (¬ (6 < l4) → Calls mX6_run [(2, 229), (0, l1), (0, l2), (0, l4)] S0 M (fun r9 M10 => AW mX8_reached 51 [(2, 0), (9, 0), (9, 0), (0, l3), (0, l4), (0, 0), (0, 0)] M10 Q)))))))))))))))))) : AW mX8_reached 0 [(2, 0), (0, l1), (0, l2), (0, l3), (0, l4), (9, 0), (9, 0)] M Q := by
  refine a_iload_n (pc := 0) dX8_reached_0 rfl ?_
  refine p_inlS (Ex := _) (As := [(0, l1)]) (st := []) (st1 := fun r => [(0, r)])  (pc := 1) dX8_reached_1 ml_RX8_129 (by decide) (Nat.le_of_ble_eq_true rfl) rfl (fun _ => rfl) (by decide) (by decide) (Nat.le_of_ble_eq_true rfl) rfl ?_
  refine a_iload_n (pc := 0) dX8_isStop_0 rfl ?_
  refine a_if_lt (tgt := 14) (pc := 1) dX8_isStop_1 (by decide) (fun hc1 => ?_) (fun hc1 => ?_)
  · replace h := h.1 hc1
    refine a_iconst (pc := 14) dX8_isStop_14 (by decide) ?_
    refine a_iretz (pc := 15) dX8_isStop_15 rfl rfl (Nat.le_of_ble_eq_true rfl) (by decide) ⟨rfl, ?_⟩
    refine a_if_ne (tgt := 9) (pc := 4) dX8_reached_4 (by decide) (fun hc => absurd rfl hc) (fun _ => ?_)
    refine a_iconst (pc := 7) dX8_reached_7 (by decide) ?_
    exact a_ireti (pc := 8) dX8_reached_8 rfl rfl (Nat.le_of_ble_eq_true rfl) ⟨rfl, h⟩
  · replace h := h.2 hc1
    refine a_iload_n (pc := 4) dX8_isStop_4 rfl ?_
    refine a_bipush (pc := 5) dX8_isStop_5 (by decide) (by decide +kernel) ?_
    refine a_icmp_ge (tgt := 14) (pc := 7) dX8_isStop_7 (by decide) (fun hc2 => ?_) (fun hc2 => ?_)
    · replace h := h.1 hc2
      refine a_iconst (pc := 14) dX8_isStop_14 (by decide) ?_
      refine a_iretz (pc := 15) dX8_isStop_15 rfl rfl (Nat.le_of_ble_eq_true rfl) (by decide) ⟨rfl, ?_⟩
      refine a_if_ne (tgt := 9) (pc := 4) dX8_reached_4 (by decide) (fun hc => absurd rfl hc) (fun _ => ?_)
      refine a_iconst (pc := 7) dX8_reached_7 (by decide) ?_
      exact a_ireti (pc := 8) dX8_reached_8 rfl rfl (Nat.le_of_ble_eq_true rfl) ⟨rfl, h⟩
    · replace h := h.2 hc2
      refine a_iconst (pc := 10) dX8_isStop_10 (by decide) ?_
      refine a_goto (tgt := 15) (pc := 11) dX8_isStop_11 (by decide) ?_
      refine a_iretz (pc := 15) dX8_isStop_15 rfl rfl (Nat.le_of_ble_eq_true rfl) (by decide) ⟨rfl, ?_⟩
      refine a_if_ne (tgt := 9) (pc := 4) dX8_reached_4 (by decide) (fun _ => ?_) (fun hc => absurd hc (by decide))
      refine a_iload_n (pc := 9) dX8_reached_9 rfl ?_
      refine p_inlS (Ex := _) (As := [(0, l2)]) (st := []) (st1 := fun r => [(0, r)])  (pc := 10) dX8_reached_10 ml_RX8_178 (by decide) (Nat.le_of_ble_eq_true rfl) rfl (fun _ => rfl) (by decide) (by decide) (Nat.le_of_ble_eq_true rfl) rfl ?_
      refine a_iload_n (pc := 0) dX8_isMinute_0 rfl ?_
      refine a_if_lt (tgt := 15) (pc := 1) dX8_isMinute_1 (by decide) (fun hc3 => ?_) (fun hc3 => ?_)
      · replace h := h.1 hc3
        refine a_iconst (pc := 15) dX8_isMinute_15 (by decide) ?_
        refine a_iretz (pc := 16) dX8_isMinute_16 rfl rfl (Nat.le_of_ble_eq_true rfl) (by decide) ⟨rfl, ?_⟩
        refine a_if_eq (tgt := 31) (pc := 13) dX8_reached_13 (by decide) (fun _ => ?_) (fun hc => absurd (by decide) hc)
        refine a_bipush (pc := 31) dX8_reached_31 (by decide) (by decide +kernel) ?_
        exact a_ireti (pc := 33) dX8_reached_33 rfl rfl (Nat.le_of_ble_eq_true rfl) ⟨rfl, h⟩
      · replace h := h.2 hc3
        refine a_iload_n (pc := 4) dX8_isMinute_4 rfl ?_
        refine a_sipush (pc := 5) dX8_isMinute_5 (by decide) (by decide +kernel) ?_
        refine a_icmp_gt (tgt := 15) (pc := 8) dX8_isMinute_8 (by decide) (fun hc4 => ?_) (fun hc4 => ?_)
        · replace h := h.1 hc4
          refine a_iconst (pc := 15) dX8_isMinute_15 (by decide) ?_
          refine a_iretz (pc := 16) dX8_isMinute_16 rfl rfl (Nat.le_of_ble_eq_true rfl) (by decide) ⟨rfl, ?_⟩
          refine a_if_eq (tgt := 31) (pc := 13) dX8_reached_13 (by decide) (fun _ => ?_) (fun hc => absurd (by decide) hc)
          refine a_bipush (pc := 31) dX8_reached_31 (by decide) (by decide +kernel) ?_
          exact a_ireti (pc := 33) dX8_reached_33 rfl rfl (Nat.le_of_ble_eq_true rfl) ⟨rfl, h⟩
        · replace h := h.2 hc4
          refine a_iconst (pc := 11) dX8_isMinute_11 (by decide) ?_
          refine a_goto (tgt := 16) (pc := 12) dX8_isMinute_12 (by decide) ?_
          refine a_iretz (pc := 16) dX8_isMinute_16 rfl rfl (Nat.le_of_ble_eq_true rfl) (by decide) ⟨rfl, ?_⟩
          refine a_if_eq (tgt := 31) (pc := 13) dX8_reached_13 (by decide) (fun hc => absurd hc (by decide)) (fun _ => ?_)
          refine a_iload_n (pc := 16) dX8_reached_16 rfl ?_
          refine p_inlS (Ex := _) (As := [(0, l3)]) (st := []) (st1 := fun r => [(0, r)])  (pc := 17) dX8_reached_17 ml_RX8_178 (by decide) (Nat.le_of_ble_eq_true rfl) rfl (fun _ => rfl) (by decide) (by decide) (Nat.le_of_ble_eq_true rfl) rfl ?_
          refine a_iload_n (pc := 0) dX8_isMinute_0 rfl ?_
          refine a_if_lt (tgt := 15) (pc := 1) dX8_isMinute_1 (by decide) (fun hc5 => ?_) (fun hc5 => ?_)
          · replace h := h.1 hc5
            refine a_iconst (pc := 15) dX8_isMinute_15 (by decide) ?_
            refine a_iretz (pc := 16) dX8_isMinute_16 rfl rfl (Nat.le_of_ble_eq_true rfl) (by decide) ⟨rfl, ?_⟩
            refine a_if_eq (tgt := 31) (pc := 20) dX8_reached_20 (by decide) (fun _ => ?_) (fun hc => absurd (by decide) hc)
            refine a_bipush (pc := 31) dX8_reached_31 (by decide) (by decide +kernel) ?_
            exact a_ireti (pc := 33) dX8_reached_33 rfl rfl (Nat.le_of_ble_eq_true rfl) ⟨rfl, h⟩
          · replace h := h.2 hc5
            refine a_iload_n (pc := 4) dX8_isMinute_4 rfl ?_
            refine a_sipush (pc := 5) dX8_isMinute_5 (by decide) (by decide +kernel) ?_
            refine a_icmp_gt (tgt := 15) (pc := 8) dX8_isMinute_8 (by decide) (fun hc6 => ?_) (fun hc6 => ?_)
            · replace h := h.1 hc6
              refine a_iconst (pc := 15) dX8_isMinute_15 (by decide) ?_
              refine a_iretz (pc := 16) dX8_isMinute_16 rfl rfl (Nat.le_of_ble_eq_true rfl) (by decide) ⟨rfl, ?_⟩
              refine a_if_eq (tgt := 31) (pc := 20) dX8_reached_20 (by decide) (fun _ => ?_) (fun hc => absurd (by decide) hc)
              refine a_bipush (pc := 31) dX8_reached_31 (by decide) (by decide +kernel) ?_
              exact a_ireti (pc := 33) dX8_reached_33 rfl rfl (Nat.le_of_ble_eq_true rfl) ⟨rfl, h⟩
            · replace h := h.2 hc6
              refine a_iconst (pc := 11) dX8_isMinute_11 (by decide) ?_
              refine a_goto (tgt := 16) (pc := 12) dX8_isMinute_12 (by decide) ?_
              refine a_iretz (pc := 16) dX8_isMinute_16 rfl rfl (Nat.le_of_ble_eq_true rfl) (by decide) ⟨rfl, ?_⟩
              refine a_if_eq (tgt := 31) (pc := 20) dX8_reached_20 (by decide) (fun hc => absurd hc (by decide)) (fun _ => ?_)
              refine a_iload (pc := 23) dX8_reached_23 rfl ?_
              refine p_inlS (Ex := _) (As := [(0, l4)]) (st := []) (st1 := fun r => [(0, r)])  (pc := 25) dX8_reached_25 ml_RX8_181 (by decide) (Nat.le_of_ble_eq_true rfl) rfl (fun _ => rfl) (by decide) (by decide) (Nat.le_of_ble_eq_true rfl) rfl ?_
              refine a_iload_n (pc := 0) dX8_isRides_0 rfl ?_
              refine a_if_lt (tgt := 14) (pc := 1) dX8_isRides_1 (by decide) (fun hc7 => ?_) (fun hc7 => ?_)
              · replace h := h.1 hc7
                refine a_iconst (pc := 14) dX8_isRides_14 (by decide) ?_
                refine a_iretz (pc := 15) dX8_isRides_15 rfl rfl (Nat.le_of_ble_eq_true rfl) (by decide) ⟨rfl, ?_⟩
                refine a_if_ne (tgt := 34) (pc := 28) dX8_reached_28 (by decide) (fun hc => absurd rfl hc) (fun _ => ?_)
                refine a_bipush (pc := 31) dX8_reached_31 (by decide) (by decide +kernel) ?_
                exact a_ireti (pc := 33) dX8_reached_33 rfl rfl (Nat.le_of_ble_eq_true rfl) ⟨rfl, h⟩
              · replace h := h.2 hc7
                refine a_iload_n (pc := 4) dX8_isRides_4 rfl ?_
                refine a_bipush (pc := 5) dX8_isRides_5 (by decide) (by decide +kernel) ?_
                refine a_icmp_gt (tgt := 14) (pc := 7) dX8_isRides_7 (by decide) (fun hc8 => ?_) (fun hc8 => ?_)
                · replace h := h.1 hc8
                  refine a_iconst (pc := 14) dX8_isRides_14 (by decide) ?_
                  refine a_iretz (pc := 15) dX8_isRides_15 rfl rfl (Nat.le_of_ble_eq_true rfl) (by decide) ⟨rfl, ?_⟩
                  refine a_if_ne (tgt := 34) (pc := 28) dX8_reached_28 (by decide) (fun hc => absurd rfl hc) (fun _ => ?_)
                  refine a_bipush (pc := 31) dX8_reached_31 (by decide) (by decide +kernel) ?_
                  exact a_ireti (pc := 33) dX8_reached_33 rfl rfl (Nat.le_of_ble_eq_true rfl) ⟨rfl, h⟩
                · replace h := h.2 hc8
                  refine a_iconst (pc := 10) dX8_isRides_10 (by decide) ?_
                  refine a_goto (tgt := 15) (pc := 11) dX8_isRides_11 (by decide) ?_
                  refine a_iretz (pc := 15) dX8_isRides_15 rfl rfl (Nat.le_of_ble_eq_true rfl) (by decide) ⟨rfl, ?_⟩
                  refine a_if_ne (tgt := 34) (pc := 28) dX8_reached_28 (by decide) (fun _ => ?_) (fun hc => absurd hc (by decide))
                  refine a_aload_n (pc := 34) dX8_reached_34 (by decide) rfl ?_
                  refine a_getR (y := 229) (pc := 35) dX8_reached_35 fl_RX8_27 (by decide) s0_0 rfl rfl ?_
                  refine a_iload_n (pc := 38) dX8_reached_38 rfl ?_
                  refine a_iload_n (pc := 39) dX8_reached_39 rfl ?_
                  refine a_iload (pc := 40) dX8_reached_40 rfl ?_
                  refine p_callV (As := [(0, l1), (0, l2), (0, l4)]) (st := []) (st1 := fun r => [])  (pc := 42) dX8_reached_42 ml_RX8_157 (by decide) s0_229 rfl (by decide) (Nat.le_of_ble_eq_true rfl) rfl (fun _ => rfl) h (fun r9 M10 h => ?_)
                  refine a_iconst (pc := 45) dX8_reached_45 (by decide) ?_
                  refine a_istore (ls1 := [(2, 0), (0, l1), (0, l2), (0, l3), (0, l4), (0, 0), (9, 0)]) (pc := 46) dX8_reached_46 (by decide) (hp1 (t := 0) rfl (by decide)) rfl ?_
                  refine a_iconst (pc := 48) dX8_reached_48 (by decide) ?_
                  refine a_istore (ls1 := [(2, 0), (0, l1), (0, l2), (0, l3), (0, l4), (0, 0), (0, 0)]) (pc := 49) dX8_reached_49 (by decide) (hp1 (t := 0) rfl (by decide)) rfl ?_
                  exact a_msk [true, false, false, true, true, true, true] rfl h
set_option maxRecDepth 100000 in
set_option maxHeartbeats 4000000 in
theorem B_C_reached_51 {l3 l4 l5 l6 : Int} {M : Mem} {Q : Int → Mem → Prop} (h : ((12 ≤ l6 → Q l5 M) ∧ (¬ (12 ≤ l6) → ((0 : Int) ≤ l4 ∧ l4 < 7) ∧ ((0 : Int) ≤ l6 ∧ l6 < 12) ∧ ((l3 < (M (231 + l4) l6) → (-2147483648 ≤ l6 + 1 ∧ l6 + 1 ≤ 2147483647) ∧ AW mX8_reached 51 [(2, 0), (9, 0), (9, 0), (0, l3), (0, l4), (0, l5), (0, l6 + 1)] M Q) ∧ (¬ (l3 < (M (231 + l4) l6)) → ((0 : Int) ≤ l6 ∧ l6 ≤ 30) ∧ ((0 : Int) ≤ l5) ∧ ((0 : Int) ≤ (2 : Int) ^ (l6).toNat) ∧ (-2147483648 ≤ l6 + 1 ∧ l6 + 1 ≤ 2147483647) ∧ AW mX8_reached 51 [(2, 0), (9, 0), (9, 0), (0, l3), (0, l4), (0, (((l5 : Int).toNat ||| ((2 : Int) ^ (l6).toNat : Int).toNat : Nat) : Int)), (0, l6 + 1)] M Q))))) : AW mX8_reached 51 [(2, 0), (9, 0), (9, 0), (0, l3), (0, l4), (0, l5), (0, l6)] M Q := by
  refine a_iload (pc := 51) dX8_reached_51 rfl ?_
  refine a_bipush (pc := 53) dX8_reached_53 (by decide) (by decide +kernel) ?_
  refine a_icmp_ge (tgt := 90) (pc := 55) dX8_reached_55 (by decide) (fun hc1 => ?_) (fun hc1 => ?_)
  · replace h := h.1 hc1
    refine a_iload (pc := 90) dX8_reached_90 rfl ?_
    exact a_ireti (pc := 92) dX8_reached_92 rfl rfl (Nat.le_of_ble_eq_true rfl) ⟨rfl, h⟩
  · replace h := h.2 hc1
    refine a_aload_n (pc := 58) dX8_reached_58 (by decide) rfl ?_
    refine a_getR (y := 229) (pc := 59) dX8_reached_59 fl_RX8_27 (by decide) s0_0 rfl rfl ?_
    refine a_getR (y := 230) (pc := 62) dX8_reached_62 fl_RX8_160 (by decide) s0_229 rfl rfl ?_
    refine a_iload (pc := 65) dX8_reached_65 rfl ?_
    have ho2 := h.1
    replace h := h.2
    have hr3 := rw_230 l4 ho2.1 ho2.2
    refine a_aald (y := 231 + l4) (pc := 67) dX8_reached_67 (by decide) s0_230 ho2.1 ho2.2 (by omega) ?_
    refine a_iload (pc := 68) dX8_reached_68 rfl ?_
    have ho4 := h.1
    replace h := h.2
    refine a_iald (pc := 70) dX8_reached_70 hr3.1 hr3.2 ho4.1 ho4.2 ?_
    refine a_iload_n (pc := 71) dX8_reached_71 rfl ?_
    refine a_icmp_gt (tgt := 84) (pc := 72) dX8_reached_72 (by decide) (fun hc5 => ?_) (fun hc5 => ?_)
    · replace h := h.1 hc5
      have ho6 := h.1
      replace h := h.2
      refine a_iinc (ls1 := [(2, 0), (9, 0), (9, 0), (0, l3), (0, l4), (0, l5), (0, l6 + 1)]) (pc := 84) dX8_reached_84 rfl (by decide) (hp1 (t := 0) rfl (by decide)) ho6 rfl ?_
      refine a_goto (tgt := 51) (pc := 87) dX8_reached_87 (by decide) ?_
      exact h
    · replace h := h.2 hc5
      refine a_iload (pc := 75) dX8_reached_75 rfl ?_
      refine a_iconst (pc := 77) dX8_reached_77 (by decide) ?_
      refine a_iload (pc := 78) dX8_reached_78 rfl ?_
      have ho7 := h.1
      replace h := h.2
      refine a_ishl (z := (2 : Int) ^ (l6).toNat) (pc := 80) dX8_reached_80 rfl ho7.1 ho7.2 rfl ?_
      have ho8 := h.1
      replace h := h.2
      have ho9 := h.1
      replace h := h.2
      refine a_ior (z := (((l5 : Int).toNat ||| ((2 : Int) ^ (l6).toNat : Int).toNat : Nat) : Int)) (pc := 81) dX8_reached_81 ho8 ho9 rfl ?_
      refine a_istore (ls1 := [(2, 0), (9, 0), (9, 0), (0, l3), (0, l4), (0, (((l5 : Int).toNat ||| ((2 : Int) ^ (l6).toNat : Int).toNat : Nat) : Int)), (0, l6)]) (pc := 82) dX8_reached_82 (by decide) (hp1 (t := 0) rfl (by decide)) rfl ?_
      have ho10 := h.1
      replace h := h.2
      refine a_iinc (ls1 := [(2, 0), (9, 0), (9, 0), (0, l3), (0, l4), (0, (((l5 : Int).toNat ||| ((2 : Int) ^ (l6).toNat : Int).toNat : Nat) : Int)), (0, l6 + 1)]) (pc := 84) dX8_reached_84 rfl (by decide) (hp1 (t := 0) rfl (by decide)) ho10 rfl ?_
      refine a_goto (tgt := 51) (pc := 87) dX8_reached_87 (by decide) ?_
      exact h
theorem E_C_reached {l1 l2 l3 l4 : Int} {M : Mem} {Q : Int → Mem → Prop} (h : AW mX8_reached 0 [(2, 0), (0, l1), (0, l2), (0, l3), (0, l4), (9, 0), (9, 0)] M Q) : Calls mX8_reached [(2, 0), (0, l1), (0, l2), (0, l3), (0, l4)] S0 M Q := calls_of (by decide) (by decide) (Nat.le_of_ble_eq_true rfl) rfl h
set_option maxRecDepth 100000 in
set_option maxHeartbeats 4000000 in
theorem B_C_worth_0 {l1 l2 l3 : Int} {M : Mem} {Q : Int → Mem → Prop} (h : Calls mX8_refusal [(0, l1), (0, l2), (0, l3), (0, 0)] S0 M (fun r1 M2 => ((r1 = 0 → Calls mX6_run [(2, 229), (0, l1), (0, l2), (0, 6)] S0 M2 (fun r4 M5 => AW mX8_worth 39 [(2, 0), (9, 0), (9, 0), (0, l3), (9, 0), (0, 0), (0, 10000), (0, 0), (9, 0)] M5 Q)) ∧ (¬ r1 = 0 → Q r1 M2)))) : AW mX8_worth 0 [(2, 0), (0, l1), (0, l2), (0, l3), (9, 0), (9, 0), (9, 0), (9, 0), (9, 0)] M Q := by
  refine a_iload_n (pc := 0) dX8_worth_0 rfl ?_
  refine a_iload_n (pc := 1) dX8_worth_1 rfl ?_
  refine a_iload_n (pc := 2) dX8_worth_2 rfl ?_
  refine a_iconst (pc := 3) dX8_worth_3 (by decide) ?_
  refine p_callS (As := [(0, l1), (0, l2), (0, l3), (0, 0)]) (st := []) (st1 := fun r => [(0, r)])  (pc := 4) dX8_worth_4 ml_RX8_147 (by decide) (Nat.le_of_ble_eq_true rfl) rfl (fun _ => rfl) h (fun r1 M2 h => ?_)
  refine a_istore (ls1 := [(2, 0), (0, l1), (0, l2), (0, l3), (0, r1), (9, 0), (9, 0), (9, 0), (9, 0)]) (pc := 7) dX8_worth_7 (by decide) (hp1 (t := 0) rfl (by decide)) rfl ?_
  refine a_iload (pc := 9) dX8_worth_9 rfl ?_
  refine a_if_eq (tgt := 17) (pc := 11) dX8_worth_11 (by decide) (fun hc3 => ?_) (fun hc3 => ?_)
  · replace h := h.1 hc3
    refine a_aload_n (pc := 17) dX8_worth_17 (by decide) rfl ?_
    refine a_getR (y := 229) (pc := 18) dX8_worth_18 fl_RX8_27 (by decide) s0_0 rfl rfl ?_
    refine a_iload_n (pc := 21) dX8_worth_21 rfl ?_
    refine a_iload_n (pc := 22) dX8_worth_22 rfl ?_
    refine a_bipush (pc := 23) dX8_worth_23 (by decide) (by decide +kernel) ?_
    refine p_callV (As := [(0, l1), (0, l2), (0, 6)]) (st := []) (st1 := fun r => [])  (pc := 25) dX8_worth_25 ml_RX8_157 (by decide) s0_229 rfl (by decide) (Nat.le_of_ble_eq_true rfl) rfl (fun _ => rfl) h (fun r4 M5 h => ?_)
    refine a_iconst (pc := 28) dX8_worth_28 (by decide) ?_
    refine a_istore (ls1 := [(2, 0), (0, l1), (0, l2), (0, l3), (0, r1), (0, 0), (9, 0), (9, 0), (9, 0)]) (pc := 29) dX8_worth_29 (by decide) (hp1 (t := 0) rfl (by decide)) rfl ?_
    refine a_sipush (pc := 31) dX8_worth_31 (by decide) (by decide +kernel) ?_
    refine a_istore (ls1 := [(2, 0), (0, l1), (0, l2), (0, l3), (0, r1), (0, 0), (0, 10000), (9, 0), (9, 0)]) (pc := 34) dX8_worth_34 (by decide) (hp1 (t := 0) rfl (by decide)) rfl ?_
    refine a_iconst (pc := 36) dX8_worth_36 (by decide) ?_
    refine a_istore (ls1 := [(2, 0), (0, l1), (0, l2), (0, l3), (0, r1), (0, 0), (0, 10000), (0, 0), (9, 0)]) (pc := 37) dX8_worth_37 (by decide) (hp1 (t := 0) rfl (by decide)) rfl ?_
    exact a_msk [true, false, false, true, false, true, true, true, true] rfl h
  · replace h := h.2 hc3
    refine a_iload (pc := 14) dX8_worth_14 rfl ?_
    exact a_ireti (pc := 16) dX8_worth_16 rfl rfl (Nat.le_of_ble_eq_true rfl) ⟨rfl, h⟩
set_option maxRecDepth 100000 in
set_option maxHeartbeats 4000000 in
theorem B_C_worth_39 {l3 l5 l6 l7 : Int} {M : Mem} {Q : Int → Mem → Prop} (h : ((6 < l7 → Q l5 M) ∧ (¬ (6 < l7) → ((0 : Int) ≤ l7 ∧ l7 < 7) ∧ ((0 : Int) ≤ l3 ∧ l3 < 12) ∧ ((l6 ≤ (M (231 + l7) l3) → (-2147483648 ≤ l7 + 1 ∧ l7 + 1 ≤ 2147483647) ∧ AW mX8_worth 39 [(2, 0), (9, 0), (9, 0), (0, l3), (9, 0), (0, l5), (0, M (231 + l7) l3), (0, l7 + 1), (9, 0)] M Q) ∧ (¬ (l6 ≤ (M (231 + l7) l3)) → ((0 : Int) ≤ l7 ∧ l7 ≤ 30) ∧ ((0 : Int) ≤ l5) ∧ ((0 : Int) ≤ (2 : Int) ^ (l7).toNat) ∧ (-2147483648 ≤ l7 + 1 ∧ l7 + 1 ≤ 2147483647) ∧ AW mX8_worth 39 [(2, 0), (9, 0), (9, 0), (0, l3), (9, 0), (0, (((l5 : Int).toNat ||| ((2 : Int) ^ (l7).toNat : Int).toNat : Nat) : Int)), (0, M (231 + l7) l3), (0, l7 + 1), (9, 0)] M Q))))) : AW mX8_worth 39 [(2, 0), (9, 0), (9, 0), (0, l3), (9, 0), (0, l5), (0, l6), (0, l7), (9, 0)] M Q := by
  refine a_iload (pc := 39) dX8_worth_39 rfl ?_
  refine a_bipush (pc := 41) dX8_worth_41 (by decide) (by decide +kernel) ?_
  refine a_icmp_gt (tgt := 86) (pc := 43) dX8_worth_43 (by decide) (fun hc1 => ?_) (fun hc1 => ?_)
  · replace h := h.1 hc1
    refine a_iload (pc := 86) dX8_worth_86 rfl ?_
    exact a_ireti (pc := 88) dX8_worth_88 rfl rfl (Nat.le_of_ble_eq_true rfl) ⟨rfl, h⟩
  · replace h := h.2 hc1
    refine a_aload_n (pc := 46) dX8_worth_46 (by decide) rfl ?_
    refine a_getR (y := 229) (pc := 47) dX8_worth_47 fl_RX8_27 (by decide) s0_0 rfl rfl ?_
    refine a_getR (y := 230) (pc := 50) dX8_worth_50 fl_RX8_160 (by decide) s0_229 rfl rfl ?_
    refine a_iload (pc := 53) dX8_worth_53 rfl ?_
    have ho2 := h.1
    replace h := h.2
    have hr3 := rw_230 l7 ho2.1 ho2.2
    refine a_aald (y := 231 + l7) (pc := 55) dX8_worth_55 (by decide) s0_230 ho2.1 ho2.2 (by omega) ?_
    refine a_iload_n (pc := 56) dX8_worth_56 rfl ?_
    have ho4 := h.1
    replace h := h.2
    refine a_iald (pc := 57) dX8_worth_57 hr3.1 hr3.2 ho4.1 ho4.2 ?_
    refine a_istore (ls1 := [(2, 0), (9, 0), (9, 0), (0, l3), (9, 0), (0, l5), (0, l6), (0, l7), (0, M (231 + l7) l3)]) (pc := 58) dX8_worth_58 (by decide) (hp1 (t := 0) rfl (by decide)) rfl ?_
    refine a_iload (pc := 60) dX8_worth_60 rfl ?_
    refine a_iload (pc := 62) dX8_worth_62 rfl ?_
    refine a_icmp_ge (tgt := 76) (pc := 64) dX8_worth_64 (by decide) (fun hc5 => ?_) (fun hc5 => ?_)
    · replace h := h.1 hc5
      refine a_iload (pc := 76) dX8_worth_76 rfl ?_
      refine a_istore (ls1 := [(2, 0), (9, 0), (9, 0), (0, l3), (9, 0), (0, l5), (0, M (231 + l7) l3), (0, l7), (0, M (231 + l7) l3)]) (pc := 78) dX8_worth_78 (by decide) (hp1 (t := 0) rfl (by decide)) rfl ?_
      have ho6 := h.1
      replace h := h.2
      refine a_iinc (ls1 := [(2, 0), (9, 0), (9, 0), (0, l3), (9, 0), (0, l5), (0, M (231 + l7) l3), (0, l7 + 1), (0, M (231 + l7) l3)]) (pc := 80) dX8_worth_80 rfl (by decide) (hp1 (t := 0) rfl (by decide)) ho6 rfl ?_
      refine a_goto (tgt := 39) (pc := 83) dX8_worth_83 (by decide) ?_
      exact a_msk [true, true, true, true, true, true, true, true, false] rfl h
    · replace h := h.2 hc5
      refine a_iload (pc := 67) dX8_worth_67 rfl ?_
      refine a_iconst (pc := 69) dX8_worth_69 (by decide) ?_
      refine a_iload (pc := 70) dX8_worth_70 rfl ?_
      have ho7 := h.1
      replace h := h.2
      refine a_ishl (z := (2 : Int) ^ (l7).toNat) (pc := 72) dX8_worth_72 rfl ho7.1 ho7.2 rfl ?_
      have ho8 := h.1
      replace h := h.2
      have ho9 := h.1
      replace h := h.2
      refine a_ior (z := (((l5 : Int).toNat ||| ((2 : Int) ^ (l7).toNat : Int).toNat : Nat) : Int)) (pc := 73) dX8_worth_73 ho8 ho9 rfl ?_
      refine a_istore (ls1 := [(2, 0), (9, 0), (9, 0), (0, l3), (9, 0), (0, (((l5 : Int).toNat ||| ((2 : Int) ^ (l7).toNat : Int).toNat : Nat) : Int)), (0, l6), (0, l7), (0, M (231 + l7) l3)]) (pc := 74) dX8_worth_74 (by decide) (hp1 (t := 9) rfl (by decide)) rfl ?_
      refine a_iload (pc := 76) dX8_worth_76 rfl ?_
      refine a_istore (ls1 := [(2, 0), (9, 0), (9, 0), (0, l3), (9, 0), (0, (((l5 : Int).toNat ||| ((2 : Int) ^ (l7).toNat : Int).toNat : Nat) : Int)), (0, M (231 + l7) l3), (0, l7), (0, M (231 + l7) l3)]) (pc := 78) dX8_worth_78 (by decide) (hp1 (t := 0) rfl (by decide)) rfl ?_
      have ho10 := h.1
      replace h := h.2
      refine a_iinc (ls1 := [(2, 0), (9, 0), (9, 0), (0, l3), (9, 0), (0, (((l5 : Int).toNat ||| ((2 : Int) ^ (l7).toNat : Int).toNat : Nat) : Int)), (0, M (231 + l7) l3), (0, l7 + 1), (0, M (231 + l7) l3)]) (pc := 80) dX8_worth_80 rfl (by decide) (hp1 (t := 0) rfl (by decide)) ho10 rfl ?_
      refine a_goto (tgt := 39) (pc := 83) dX8_worth_83 (by decide) ?_
      exact a_msk [true, true, true, true, true, true, true, true, false] rfl h
theorem E_C_worth {l1 l2 l3 : Int} {M : Mem} {Q : Int → Mem → Prop} (h : AW mX8_worth 0 [(2, 0), (0, l1), (0, l2), (0, l3), (9, 0), (9, 0), (9, 0), (9, 0), (9, 0)] M Q) : Calls mX8_worth [(2, 0), (0, l1), (0, l2), (0, l3)] S0 M Q := calls_of (by decide) (by decide) (Nat.le_of_ble_eq_true rfl) rfl h
set_option maxRecDepth 100000 in
set_option maxHeartbeats 4000000 in
theorem B_C_table_0 {M : Mem} {Q : Int → Mem → Prop} (h : Calls mX3_copyFrom [(2, 153), (2, 1)] S0 M (fun r1 M2 => Calls mX4_readTable [(2, 267)] S0 M2 (fun r3 M4 => ((0 ≤ r3 → Q r3 (up2 M4 263 1 0)) ∧ (¬ (0 ≤ r3) → Calls mX3_copyFrom [(2, 1), (2, 153)] S0 M4 (fun r6 M7 => Q r3 (up2 M7 263 1 0))))))) : AW mX8_table 0 [(2, 0), (9, 0)] M Q := by
  refine a_aload_n (pc := 0) dX8_table_0 (by decide) rfl ?_
  refine a_getR (y := 153) (pc := 1) dX8_table_1 fl_RX8_19 (by decide) s0_0 rfl rfl ?_
  refine a_aload_n (pc := 4) dX8_table_4 (by decide) rfl ?_
  refine a_getR (y := 1) (pc := 5) dX8_table_5 fl_RX8_10 (by decide) s0_0 rfl rfl ?_
  refine p_callV (As := [(2, 1)]) (st := []) (st1 := fun r => [])  (pc := 8) dX8_table_8 ml_RX8_86 (by decide) s0_153 rfl (by decide) (Nat.le_of_ble_eq_true rfl) rfl (fun _ => rfl) h (fun r1 M2 h => ?_)
  refine a_aload_n (pc := 11) dX8_table_11 (by decide) rfl ?_
  refine a_getR (y := 267) (pc := 12) dX8_table_12 fl_RX8_64 (by decide) s0_0 rfl rfl ?_
  refine p_callV (As := []) (st := []) (st1 := fun r => [(0, r)])  (pc := 15) dX8_table_15 ml_RX8_89 (by decide) s0_267 rfl (by decide) (Nat.le_of_ble_eq_true rfl) rfl (fun _ => rfl) h (fun r3 M4 h => ?_)
  refine a_istore_n (ls1 := [(2, 0), (0, r3)]) (pc := 18) dX8_table_18 (by decide) (hp1 (t := 2) rfl (by decide)) rfl ?_
  refine a_iload_n (pc := 19) dX8_table_19 rfl ?_
  refine a_if_ge (tgt := 34) (pc := 20) dX8_table_20 (by decide) (fun hc5 => ?_) (fun hc5 => ?_)
  · replace h := h.1 hc5
    refine a_aload_n (pc := 34) dX8_table_34 (by decide) rfl ?_
    refine a_getR (y := 263) (pc := 35) dX8_table_35 fl_RX8_52 (by decide) s0_0 rfl rfl ?_
    refine a_iconst (pc := 38) dX8_table_38 (by decide) ?_
    refine a_putI (y := 1) (pc := 39) dX8_table_39 fl_RX8_79 (by decide) s0_263 rfl rfl (tyX7_ok 1 (by decide)) rfl ?_
    refine a_iload_n (pc := 42) dX8_table_42 rfl ?_
    exact a_ireti (pc := 43) dX8_table_43 rfl rfl (Nat.le_of_ble_eq_true rfl) ⟨rfl, h⟩
  · replace h := h.2 hc5
    refine a_aload_n (pc := 23) dX8_table_23 (by decide) rfl ?_
    refine a_getR (y := 1) (pc := 24) dX8_table_24 fl_RX8_10 (by decide) s0_0 rfl rfl ?_
    refine a_aload_n (pc := 27) dX8_table_27 (by decide) rfl ?_
    refine a_getR (y := 153) (pc := 28) dX8_table_28 fl_RX8_19 (by decide) s0_0 rfl rfl ?_
    refine p_callV (As := [(2, 153)]) (st := []) (st1 := fun r => [])  (pc := 31) dX8_table_31 ml_RX8_86 (by decide) s0_1 rfl (by decide) (Nat.le_of_ble_eq_true rfl) rfl (fun _ => rfl) h (fun r6 M7 h => ?_)
    refine a_aload_n (pc := 34) dX8_table_34 (by decide) rfl ?_
    refine a_getR (y := 263) (pc := 35) dX8_table_35 fl_RX8_52 (by decide) s0_0 rfl rfl ?_
    refine a_iconst (pc := 38) dX8_table_38 (by decide) ?_
    refine a_putI (y := 1) (pc := 39) dX8_table_39 fl_RX8_79 (by decide) s0_263 rfl rfl (tyX7_ok 1 (by decide)) rfl ?_
    refine a_iload_n (pc := 42) dX8_table_42 rfl ?_
    exact a_ireti (pc := 43) dX8_table_43 rfl rfl (Nat.le_of_ble_eq_true rfl) ⟨rfl, h⟩
theorem E_C_table {M : Mem} {Q : Int → Mem → Prop} (h : AW mX8_table 0 [(2, 0), (9, 0)] M Q) : Calls mX8_table [(2, 0)] S0 M Q := calls_of (by decide) (by decide) (Nat.le_of_ble_eq_true rfl) rfl h
set_option maxRecDepth 100000 in
set_option maxHeartbeats 4000000 in
theorem B_C_earliest_0 {l1 l2 l3 l4 : Int} {M : Mem} {Q : Int → Mem → Prop} (h : Calls mX8_refusal [(0, l1), (0, l2), (0, l3), (0, l4)] S0 M (fun r1 M2 => ((r1 = 0 → Calls mX6_run [(2, 229), (0, l1), (0, l2), (0, l4)] S0 M2 (fun r4 M5 => ((0 : Int) ≤ l4 ∧ l4 < 7) ∧ ((0 : Int) ≤ l3 ∧ l3 < 12) ∧ ((¬ (M5 (231 + l4) l3) = 10000 → Q (M5 (231 + l4) l3) M5) ∧ ((M5 (231 + l4) l3) = 10000 → Q (-5) M5)))) ∧ (¬ r1 = 0 → Q r1 M2)))) : AW mX8_earliest 0 [(2, 0), (0, l1), (0, l2), (0, l3), (0, l4), (9, 0)] M Q := by
  refine a_iload_n (pc := 0) dX8_earliest_0 rfl ?_
  refine a_iload_n (pc := 1) dX8_earliest_1 rfl ?_
  refine a_iload_n (pc := 2) dX8_earliest_2 rfl ?_
  refine a_iload (pc := 3) dX8_earliest_3 rfl ?_
  refine p_callS (As := [(0, l1), (0, l2), (0, l3), (0, l4)]) (st := []) (st1 := fun r => [(0, r)])  (pc := 5) dX8_earliest_5 ml_RX8_147 (by decide) (Nat.le_of_ble_eq_true rfl) rfl (fun _ => rfl) h (fun r1 M2 h => ?_)
  refine a_istore (ls1 := [(2, 0), (0, l1), (0, l2), (0, l3), (0, l4), (0, r1)]) (pc := 8) dX8_earliest_8 (by decide) (hp1 (t := 0) rfl (by decide)) rfl ?_
  refine a_iload (pc := 10) dX8_earliest_10 rfl ?_
  refine a_if_eq (tgt := 18) (pc := 12) dX8_earliest_12 (by decide) (fun hc3 => ?_) (fun hc3 => ?_)
  · replace h := h.1 hc3
    refine a_aload_n (pc := 18) dX8_earliest_18 (by decide) rfl ?_
    refine a_getR (y := 229) (pc := 19) dX8_earliest_19 fl_RX8_27 (by decide) s0_0 rfl rfl ?_
    refine a_iload_n (pc := 22) dX8_earliest_22 rfl ?_
    refine a_iload_n (pc := 23) dX8_earliest_23 rfl ?_
    refine a_iload_n (pc := 24) dX8_earliest_24 rfl ?_
    refine a_iload (pc := 25) dX8_earliest_25 rfl ?_
    refine p_inlV (Ex := _) (As := [(0, l1), (0, l2), (0, l3), (0, l4)]) (st := []) (st1 := fun r => [(0, r)])  (pc := 27) dX8_earliest_27 ml_RX8_151 (by decide) s0_229 rfl (by decide) (Nat.le_of_ble_eq_true rfl) rfl (fun _ => rfl) (by decide) (by decide) (Nat.le_of_ble_eq_true rfl) rfl ?_
    refine a_aload_n (pc := 0) dX6_arrival_0 (by decide) rfl ?_
    refine a_iload_n (pc := 1) dX6_arrival_1 rfl ?_
    refine a_iload_n (pc := 2) dX6_arrival_2 rfl ?_
    refine a_iload (pc := 3) dX6_arrival_3 rfl ?_
    refine p_callV (As := [(0, l1), (0, l2), (0, l4)]) (st := []) (st1 := fun r => [])  (pc := 5) dX6_arrival_5 ml_RX6_36 (by decide) s0_229 rfl (by decide) (Nat.le_of_ble_eq_true rfl) rfl (fun _ => rfl) h (fun r4 M5 h => ?_)
    refine a_aload_n (pc := 8) dX6_arrival_8 (by decide) rfl ?_
    refine a_getR (y := 230) (pc := 9) dX6_arrival_9 fl_RX6_17 (by decide) s0_229 rfl rfl ?_
    refine a_iload (pc := 12) dX6_arrival_12 rfl ?_
    have ho6 := h.1
    replace h := h.2
    have hr7 := rw_230 l4 ho6.1 ho6.2
    refine a_aald (y := 231 + l4) (pc := 14) dX6_arrival_14 (by decide) s0_230 ho6.1 ho6.2 (by omega) ?_
    refine a_iload_n (pc := 15) dX6_arrival_15 rfl ?_
    have ho8 := h.1
    replace h := h.2
    refine a_iald (pc := 16) dX6_arrival_16 hr7.1 hr7.2 ho8.1 ho8.2 ?_
    refine a_ireti (pc := 17) dX6_arrival_17 rfl rfl (Nat.le_of_ble_eq_true rfl) ⟨rfl, ?_⟩
    refine p_inlS (Ex := _) (As := [(0, M5 (231 + l4) l3)]) (st := []) (st1 := fun r => [(0, r)])  (pc := 30) dX8_earliest_30 ml_RX8_154 (by decide) (Nat.le_of_ble_eq_true rfl) rfl (fun _ => rfl) (by decide) (by decide) (Nat.le_of_ble_eq_true rfl) rfl ?_
    refine a_iload_n (pc := 0) dX8_orMissing_0 rfl ?_
    refine a_sipush (pc := 1) dX8_orMissing_1 (by decide) (by decide +kernel) ?_
    refine a_icmp_ne (tgt := 12) (pc := 4) dX8_orMissing_4 (by decide) (fun hc9 => ?_) (fun hc9 => ?_)
    · replace h := h.1 hc9
      refine a_iload_n (pc := 12) dX8_orMissing_12 rfl ?_
      refine a_ireti (pc := 13) dX8_orMissing_13 rfl rfl (Nat.le_of_ble_eq_true rfl) ⟨rfl, ?_⟩
      exact a_ireti (pc := 33) dX8_earliest_33 rfl rfl (Nat.le_of_ble_eq_true rfl) ⟨rfl, h⟩
    · replace h := h.2 hc9
      refine a_bipush (pc := 7) dX8_orMissing_7 (by decide) (by decide +kernel) ?_
      refine a_goto (tgt := 13) (pc := 9) dX8_orMissing_9 (by decide) ?_
      refine a_ireti (pc := 13) dX8_orMissing_13 rfl rfl (Nat.le_of_ble_eq_true rfl) ⟨rfl, ?_⟩
      exact a_ireti (pc := 33) dX8_earliest_33 rfl rfl (Nat.le_of_ble_eq_true rfl) ⟨rfl, h⟩
  · replace h := h.2 hc3
    refine a_iload (pc := 15) dX8_earliest_15 rfl ?_
    exact a_ireti (pc := 17) dX8_earliest_17 rfl rfl (Nat.le_of_ble_eq_true rfl) ⟨rfl, h⟩
theorem E_C_earliest {l1 l2 l3 l4 : Int} {M : Mem} {Q : Int → Mem → Prop} (h : AW mX8_earliest 0 [(2, 0), (0, l1), (0, l2), (0, l3), (0, l4), (9, 0)] M Q) : Calls mX8_earliest [(2, 0), (0, l1), (0, l2), (0, l3), (0, l4)] S0 M Q := calls_of (by decide) (by decide) (Nat.le_of_ble_eq_true rfl) rfl h
set_option maxRecDepth 100000 in
set_option maxHeartbeats 4000000 in
theorem B_C_latest_0 {l1 l2 l3 l4 : Int} {M : Mem} {Q : Int → Mem → Prop} (h : Calls mX8_refusal [(0, l1), (0, l3), (0, l2), (0, l4)] S0 M (fun r1 M2 => ((r1 = 0 → AW mX8_latest 26 [(2, 0), (0, l1), (0, l2), (0, l3), (0, l4), (9, 0), (0, (-1)), (0, 1024), (9, 0)] M2 Q) ∧ (¬ r1 = 0 → Q r1 M2)))) : AW mX8_latest 0 [(2, 0), (0, l1), (0, l2), (0, l3), (0, l4), (9, 0), (9, 0), (9, 0), (9, 0)] M Q := by
  refine a_iload_n (pc := 0) dX8_latest_0 rfl ?_
  refine a_iload_n (pc := 1) dX8_latest_1 rfl ?_
  refine a_iload_n (pc := 2) dX8_latest_2 rfl ?_
  refine a_iload (pc := 3) dX8_latest_3 rfl ?_
  refine p_callS (As := [(0, l1), (0, l3), (0, l2), (0, l4)]) (st := []) (st1 := fun r => [(0, r)])  (pc := 5) dX8_latest_5 ml_RX8_147 (by decide) (Nat.le_of_ble_eq_true rfl) rfl (fun _ => rfl) h (fun r1 M2 h => ?_)
  refine a_istore (ls1 := [(2, 0), (0, l1), (0, l2), (0, l3), (0, l4), (0, r1), (9, 0), (9, 0), (9, 0)]) (pc := 8) dX8_latest_8 (by decide) (hp1 (t := 0) rfl (by decide)) rfl ?_
  refine a_iload (pc := 10) dX8_latest_10 rfl ?_
  refine a_if_eq (tgt := 18) (pc := 12) dX8_latest_12 (by decide) (fun hc3 => ?_) (fun hc3 => ?_)
  · replace h := h.1 hc3
    refine a_iconst (pc := 18) dX8_latest_18 (by decide) ?_
    refine a_istore (ls1 := [(2, 0), (0, l1), (0, l2), (0, l3), (0, l4), (0, r1), (0, (-1)), (9, 0), (9, 0)]) (pc := 19) dX8_latest_19 (by decide) (hp1 (t := 0) rfl (by decide)) rfl ?_
    refine a_sipush (pc := 21) dX8_latest_21 (by decide) (by decide +kernel) ?_
    refine a_istore (ls1 := [(2, 0), (0, l1), (0, l2), (0, l3), (0, l4), (0, r1), (0, (-1)), (0, 1024), (9, 0)]) (pc := 24) dX8_latest_24 (by decide) (hp1 (t := 0) rfl (by decide)) rfl ?_
    exact a_msk [true, true, true, true, true, false, true, true, true] rfl h
  · replace h := h.2 hc3
    refine a_iload (pc := 15) dX8_latest_15 rfl ?_
    exact a_ireti (pc := 17) dX8_latest_17 rfl rfl (Nat.le_of_ble_eq_true rfl) ⟨rfl, h⟩
set_option maxRecDepth 100000 in
set_option maxHeartbeats 4000000 in
theorem B_C_latest_26 {l1 l2 l3 l4 l6 l7 : Int} {M : Mem} {Q : Int → Mem → Prop} (h : ((l7 ≤ 0 → ((0 ≤ l6 → Q l6 M) ∧ (¬ (0 ≤ l6) → Q (-5) M))) ∧ (¬ (l7 ≤ 0) → (-2147483648 ≤ l6 + l7 ∧ l6 + l7 ≤ 2147483647) ∧ ((l3 < (l6 + l7) → ((0 : Int) ≤ l7) ∧ AW mX8_latest 26 [(2, 0), (0, l1), (0, l2), (0, l3), (0, l4), (9, 0), (0, l6), (0, l7 / 2), (9, 0)] M Q) ∧ (¬ (l3 < (l6 + l7)) → Calls mX6_run [(2, 229), (0, l1), (0, l6 + l7), (0, l4)] S0 M (fun r6 M7 => ((0 : Int) ≤ l4 ∧ l4 < 7) ∧ ((0 : Int) ≤ l2 ∧ l2 < 12) ∧ ((l3 < (M7 (231 + l4) l2) → ((0 : Int) ≤ l7) ∧ AW mX8_latest 26 [(2, 0), (0, l1), (0, l2), (0, l3), (0, l4), (9, 0), (0, l6), (0, l7 / 2), (9, 0)] M7 Q) ∧ (¬ (l3 < (M7 (231 + l4) l2)) → ((0 : Int) ≤ l7) ∧ AW mX8_latest 26 [(2, 0), (0, l1), (0, l2), (0, l3), (0, l4), (9, 0), (0, l6 + l7), (0, l7 / 2), (9, 0)] M7 Q)))))))) : AW mX8_latest 26 [(2, 0), (0, l1), (0, l2), (0, l3), (0, l4), (9, 0), (0, l6), (0, l7), (9, 0)] M Q := by
  refine a_iload (pc := 26) dX8_latest_26 rfl ?_
  refine a_if_le (tgt := 74) (pc := 28) dX8_latest_28 (by decide) (fun hc1 => ?_) (fun hc1 => ?_)
  · replace h := h.1 hc1
    refine a_iload (pc := 74) dX8_latest_74 rfl ?_
    refine a_if_ge (tgt := 84) (pc := 76) dX8_latest_76 (by decide) (fun hc2 => ?_) (fun hc2 => ?_)
    · replace h := h.1 hc2
      refine a_iload (pc := 84) dX8_latest_84 rfl ?_
      exact a_ireti (pc := 86) dX8_latest_86 rfl rfl (Nat.le_of_ble_eq_true rfl) ⟨rfl, h⟩
    · replace h := h.2 hc2
      refine a_bipush (pc := 79) dX8_latest_79 (by decide) (by decide +kernel) ?_
      refine a_goto (tgt := 86) (pc := 81) dX8_latest_81 (by decide) ?_
      exact a_ireti (pc := 86) dX8_latest_86 rfl rfl (Nat.le_of_ble_eq_true rfl) ⟨rfl, h⟩
  · replace h := h.2 hc1
    refine a_iload (pc := 31) dX8_latest_31 rfl ?_
    refine a_iload (pc := 33) dX8_latest_33 rfl ?_
    have ho3 := h.1
    replace h := h.2
    refine a_iadd (pc := 35) dX8_latest_35 ho3 ?_
    refine a_istore (ls1 := [(2, 0), (0, l1), (0, l2), (0, l3), (0, l4), (9, 0), (0, l6), (0, l7), (0, l6 + l7)]) (pc := 36) dX8_latest_36 (by decide) (hp1 (t := 0) rfl (by decide)) rfl ?_
    refine a_iload (pc := 38) dX8_latest_38 rfl ?_
    refine a_iload_n (pc := 40) dX8_latest_40 rfl ?_
    refine a_icmp_gt (tgt := 65) (pc := 41) dX8_latest_41 (by decide) (fun hc4 => ?_) (fun hc4 => ?_)
    · replace h := h.1 hc4
      refine a_iload (pc := 65) dX8_latest_65 rfl ?_
      refine a_iconst (pc := 67) dX8_latest_67 (by decide) ?_
      have ho5 := h.1
      replace h := h.2
      refine a_idiv (pc := 68) dX8_latest_68 ho5 (by decide) ?_
      refine a_istore (ls1 := [(2, 0), (0, l1), (0, l2), (0, l3), (0, l4), (9, 0), (0, l6), (0, l7 / 2), (0, l6 + l7)]) (pc := 69) dX8_latest_69 (by decide) (hp1 (t := 0) rfl (by decide)) rfl ?_
      refine a_goto (tgt := 26) (pc := 71) dX8_latest_71 (by decide) ?_
      exact a_msk [true, true, true, true, true, true, true, true, false] rfl h
    · replace h := h.2 hc4
      refine a_aload_n (pc := 44) dX8_latest_44 (by decide) rfl ?_
      refine a_getR (y := 229) (pc := 45) dX8_latest_45 fl_RX8_27 (by decide) s0_0 rfl rfl ?_
      refine a_iload_n (pc := 48) dX8_latest_48 rfl ?_
      refine a_iload (pc := 49) dX8_latest_49 rfl ?_
      refine a_iload_n (pc := 51) dX8_latest_51 rfl ?_
      refine a_iload (pc := 52) dX8_latest_52 rfl ?_
      refine p_inlV (Ex := _) (As := [(0, l1), (0, l6 + l7), (0, l2), (0, l4)]) (st := []) (st1 := fun r => [(0, r)])  (pc := 54) dX8_latest_54 ml_RX8_151 (by decide) s0_229 rfl (by decide) (Nat.le_of_ble_eq_true rfl) rfl (fun _ => rfl) (by decide) (by decide) (Nat.le_of_ble_eq_true rfl) rfl ?_
      refine a_aload_n (pc := 0) dX6_arrival_0 (by decide) rfl ?_
      refine a_iload_n (pc := 1) dX6_arrival_1 rfl ?_
      refine a_iload_n (pc := 2) dX6_arrival_2 rfl ?_
      refine a_iload (pc := 3) dX6_arrival_3 rfl ?_
      refine p_callV (As := [(0, l1), (0, l6 + l7), (0, l4)]) (st := []) (st1 := fun r => [])  (pc := 5) dX6_arrival_5 ml_RX6_36 (by decide) s0_229 rfl (by decide) (Nat.le_of_ble_eq_true rfl) rfl (fun _ => rfl) h (fun r6 M7 h => ?_)
      refine a_aload_n (pc := 8) dX6_arrival_8 (by decide) rfl ?_
      refine a_getR (y := 230) (pc := 9) dX6_arrival_9 fl_RX6_17 (by decide) s0_229 rfl rfl ?_
      refine a_iload (pc := 12) dX6_arrival_12 rfl ?_
      have ho8 := h.1
      replace h := h.2
      have hr9 := rw_230 l4 ho8.1 ho8.2
      refine a_aald (y := 231 + l4) (pc := 14) dX6_arrival_14 (by decide) s0_230 ho8.1 ho8.2 (by omega) ?_
      refine a_iload_n (pc := 15) dX6_arrival_15 rfl ?_
      have ho10 := h.1
      replace h := h.2
      refine a_iald (pc := 16) dX6_arrival_16 hr9.1 hr9.2 ho10.1 ho10.2 ?_
      refine a_ireti (pc := 17) dX6_arrival_17 rfl rfl (Nat.le_of_ble_eq_true rfl) ⟨rfl, ?_⟩
      refine a_iload_n (pc := 57) dX8_latest_57 rfl ?_
      refine a_icmp_gt (tgt := 65) (pc := 58) dX8_latest_58 (by decide) (fun hc11 => ?_) (fun hc11 => ?_)
      · replace h := h.1 hc11
        refine a_iload (pc := 65) dX8_latest_65 rfl ?_
        refine a_iconst (pc := 67) dX8_latest_67 (by decide) ?_
        have ho12 := h.1
        replace h := h.2
        refine a_idiv (pc := 68) dX8_latest_68 ho12 (by decide) ?_
        refine a_istore (ls1 := [(2, 0), (0, l1), (0, l2), (0, l3), (0, l4), (9, 0), (0, l6), (0, l7 / 2), (0, l6 + l7)]) (pc := 69) dX8_latest_69 (by decide) (hp1 (t := 0) rfl (by decide)) rfl ?_
        refine a_goto (tgt := 26) (pc := 71) dX8_latest_71 (by decide) ?_
        exact a_msk [true, true, true, true, true, true, true, true, false] rfl h
      · replace h := h.2 hc11
        refine a_iload (pc := 61) dX8_latest_61 rfl ?_
        refine a_istore (ls1 := [(2, 0), (0, l1), (0, l2), (0, l3), (0, l4), (9, 0), (0, l6 + l7), (0, l7), (0, l6 + l7)]) (pc := 63) dX8_latest_63 (by decide) (hp1 (t := 9) rfl (by decide)) rfl ?_
        refine a_iload (pc := 65) dX8_latest_65 rfl ?_
        refine a_iconst (pc := 67) dX8_latest_67 (by decide) ?_
        have ho13 := h.1
        replace h := h.2
        refine a_idiv (pc := 68) dX8_latest_68 ho13 (by decide) ?_
        refine a_istore (ls1 := [(2, 0), (0, l1), (0, l2), (0, l3), (0, l4), (9, 0), (0, l6 + l7), (0, l7 / 2), (0, l6 + l7)]) (pc := 69) dX8_latest_69 (by decide) (hp1 (t := 0) rfl (by decide)) rfl ?_
        refine a_goto (tgt := 26) (pc := 71) dX8_latest_71 (by decide) ?_
        exact a_msk [true, true, true, true, true, true, true, true, false] rfl h
theorem E_C_latest {l1 l2 l3 l4 : Int} {M : Mem} {Q : Int → Mem → Prop} (h : AW mX8_latest 0 [(2, 0), (0, l1), (0, l2), (0, l3), (0, l4), (9, 0), (9, 0), (9, 0), (9, 0)] M Q) : Calls mX8_latest [(2, 0), (0, l1), (0, l2), (0, l3), (0, l4)] S0 M Q := calls_of (by decide) (by decide) (Nat.le_of_ble_eq_true rfl) rfl h
set_option maxRecDepth 100000 in
set_option maxHeartbeats 4000000 in
theorem B_C_profile_0 {l1 l2 l3 l4 l5 l6 : Int} {M : Mem} {Q : Int → Mem → Prop} (h : (((-1) ≤ l6 → Calls mX8_refusal [(0, l1), (0, l4), (0, l2), (0, l3)] S0 M (fun r2 M3 => ((r2 = 0 → ((l5 < 0 → Q (-2) M3) ∧ (¬ (l5 < 0) → ((1999 < l5 → Q (-2) M3) ∧ (¬ (1999 < l5) → ((l5 < l4 → Q (-2) M3) ∧ (¬ (l5 < l4) → (-2147483648 ≤ l5 - l4 ∧ l5 - l4 ≤ 2147483647) ∧ (((l5 - l4) < 100 → Calls mX6_run [(2, 229), (0, l1), (0, l4), (0, l3)] S0 M3 (fun r10 M11 => ((0 : Int) ≤ l3 ∧ l3 < 7) ∧ ((0 : Int) ≤ l2 ∧ l2 < 12) ∧ AW mX8_profile 75 [(2, 0), (0, l1), (0, l2), (0, l3), (9, 0), (0, l5), (0, l6), (9, 0), (0, 0), (0, M11 (231 + l3) l2), (0, l4), (9, 0)] M11 Q)) ∧ (¬ ((l5 - l4) < 100) → Q (-2) M3))))))))) ∧ (¬ r2 = 0 → Q r2 M3)))) ∧ (¬ ((-1) ≤ l6) → Q (-1) M))) : AW mX8_profile 0 [(2, 0), (0, l1), (0, l2), (0, l3), (0, l4), (0, l5), (0, l6), (9, 0), (9, 0), (9, 0), (9, 0), (9, 0)] M Q := by
  refine a_iload (pc := 0) dX8_profile_0 rfl ?_
  refine a_iconst (pc := 2) dX8_profile_2 (by decide) ?_
  refine a_icmp_ge (tgt := 8) (pc := 3) dX8_profile_3 (by decide) (fun hc1 => ?_) (fun hc1 => ?_)
  · replace h := h.1 hc1
    refine a_iload_n (pc := 8) dX8_profile_8 rfl ?_
    refine a_iload (pc := 9) dX8_profile_9 rfl ?_
    refine a_iload_n (pc := 11) dX8_profile_11 rfl ?_
    refine a_iload_n (pc := 12) dX8_profile_12 rfl ?_
    refine p_callS (As := [(0, l1), (0, l4), (0, l2), (0, l3)]) (st := []) (st1 := fun r => [(0, r)])  (pc := 13) dX8_profile_13 ml_RX8_147 (by decide) (Nat.le_of_ble_eq_true rfl) rfl (fun _ => rfl) h (fun r2 M3 h => ?_)
    refine a_istore (ls1 := [(2, 0), (0, l1), (0, l2), (0, l3), (0, l4), (0, l5), (0, l6), (0, r2), (9, 0), (9, 0), (9, 0), (9, 0)]) (pc := 16) dX8_profile_16 (by decide) (hp1 (t := 0) rfl (by decide)) rfl ?_
    refine a_iload (pc := 18) dX8_profile_18 rfl ?_
    refine a_if_eq (tgt := 26) (pc := 20) dX8_profile_20 (by decide) (fun hc4 => ?_) (fun hc4 => ?_)
    · replace h := h.1 hc4
      refine a_iload (pc := 26) dX8_profile_26 rfl ?_
      refine p_inlS (Ex := _) (As := [(0, l5)]) (st := []) (st1 := fun r => [(0, r)])  (pc := 28) dX8_profile_28 ml_RX8_178 (by decide) (Nat.le_of_ble_eq_true rfl) rfl (fun _ => rfl) (by decide) (by decide) (Nat.le_of_ble_eq_true rfl) rfl ?_
      refine a_iload_n (pc := 0) dX8_isMinute_0 rfl ?_
      refine a_if_lt (tgt := 15) (pc := 1) dX8_isMinute_1 (by decide) (fun hc5 => ?_) (fun hc5 => ?_)
      · replace h := h.1 hc5
        refine a_iconst (pc := 15) dX8_isMinute_15 (by decide) ?_
        refine a_iretz (pc := 16) dX8_isMinute_16 rfl rfl (Nat.le_of_ble_eq_true rfl) (by decide) ⟨rfl, ?_⟩
        refine a_if_eq (tgt := 51) (pc := 31) dX8_profile_31 (by decide) (fun _ => ?_) (fun hc => absurd (by decide) hc)
        refine a_bipush (pc := 51) dX8_profile_51 (by decide) (by decide +kernel) ?_
        exact a_ireti (pc := 53) dX8_profile_53 rfl rfl (Nat.le_of_ble_eq_true rfl) ⟨rfl, h⟩
      · replace h := h.2 hc5
        refine a_iload_n (pc := 4) dX8_isMinute_4 rfl ?_
        refine a_sipush (pc := 5) dX8_isMinute_5 (by decide) (by decide +kernel) ?_
        refine a_icmp_gt (tgt := 15) (pc := 8) dX8_isMinute_8 (by decide) (fun hc6 => ?_) (fun hc6 => ?_)
        · replace h := h.1 hc6
          refine a_iconst (pc := 15) dX8_isMinute_15 (by decide) ?_
          refine a_iretz (pc := 16) dX8_isMinute_16 rfl rfl (Nat.le_of_ble_eq_true rfl) (by decide) ⟨rfl, ?_⟩
          refine a_if_eq (tgt := 51) (pc := 31) dX8_profile_31 (by decide) (fun _ => ?_) (fun hc => absurd (by decide) hc)
          refine a_bipush (pc := 51) dX8_profile_51 (by decide) (by decide +kernel) ?_
          exact a_ireti (pc := 53) dX8_profile_53 rfl rfl (Nat.le_of_ble_eq_true rfl) ⟨rfl, h⟩
        · replace h := h.2 hc6
          refine a_iconst (pc := 11) dX8_isMinute_11 (by decide) ?_
          refine a_goto (tgt := 16) (pc := 12) dX8_isMinute_12 (by decide) ?_
          refine a_iretz (pc := 16) dX8_isMinute_16 rfl rfl (Nat.le_of_ble_eq_true rfl) (by decide) ⟨rfl, ?_⟩
          refine a_if_eq (tgt := 51) (pc := 31) dX8_profile_31 (by decide) (fun hc => absurd hc (by decide)) (fun _ => ?_)
          refine a_iload (pc := 34) dX8_profile_34 rfl ?_
          refine a_iload (pc := 36) dX8_profile_36 rfl ?_
          refine a_icmp_lt (tgt := 51) (pc := 38) dX8_profile_38 (by decide) (fun hc7 => ?_) (fun hc7 => ?_)
          · replace h := h.1 hc7
            refine a_bipush (pc := 51) dX8_profile_51 (by decide) (by decide +kernel) ?_
            exact a_ireti (pc := 53) dX8_profile_53 rfl rfl (Nat.le_of_ble_eq_true rfl) ⟨rfl, h⟩
          · replace h := h.2 hc7
            refine a_iload (pc := 41) dX8_profile_41 rfl ?_
            refine a_iload (pc := 43) dX8_profile_43 rfl ?_
            have ho8 := h.1
            replace h := h.2
            refine a_isub (pc := 45) dX8_profile_45 ho8 ?_
            refine a_bipush (pc := 46) dX8_profile_46 (by decide) (by decide +kernel) ?_
            refine a_icmp_lt (tgt := 54) (pc := 48) dX8_profile_48 (by decide) (fun hc9 => ?_) (fun hc9 => ?_)
            · replace h := h.1 hc9
              refine a_iconst (pc := 54) dX8_profile_54 (by decide) ?_
              refine a_istore (ls1 := [(2, 0), (0, l1), (0, l2), (0, l3), (0, l4), (0, l5), (0, l6), (0, r2), (0, 0), (9, 0), (9, 0), (9, 0)]) (pc := 55) dX8_profile_55 (by decide) (hp1 (t := 0) rfl (by decide)) rfl ?_
              refine a_aload_n (pc := 57) dX8_profile_57 (by decide) rfl ?_
              refine a_getR (y := 229) (pc := 58) dX8_profile_58 fl_RX8_27 (by decide) s0_0 rfl rfl ?_
              refine a_iload_n (pc := 61) dX8_profile_61 rfl ?_
              refine a_iload (pc := 62) dX8_profile_62 rfl ?_
              refine a_iload_n (pc := 64) dX8_profile_64 rfl ?_
              refine a_iload_n (pc := 65) dX8_profile_65 rfl ?_
              refine p_inlV (Ex := _) (As := [(0, l1), (0, l4), (0, l2), (0, l3)]) (st := []) (st1 := fun r => [(0, r)])  (pc := 66) dX8_profile_66 ml_RX8_151 (by decide) s0_229 rfl (by decide) (Nat.le_of_ble_eq_true rfl) rfl (fun _ => rfl) (by decide) (by decide) (Nat.le_of_ble_eq_true rfl) rfl ?_
              refine a_aload_n (pc := 0) dX6_arrival_0 (by decide) rfl ?_
              refine a_iload_n (pc := 1) dX6_arrival_1 rfl ?_
              refine a_iload_n (pc := 2) dX6_arrival_2 rfl ?_
              refine a_iload (pc := 3) dX6_arrival_3 rfl ?_
              refine p_callV (As := [(0, l1), (0, l4), (0, l3)]) (st := []) (st1 := fun r => [])  (pc := 5) dX6_arrival_5 ml_RX6_36 (by decide) s0_229 rfl (by decide) (Nat.le_of_ble_eq_true rfl) rfl (fun _ => rfl) h (fun r10 M11 h => ?_)
              refine a_aload_n (pc := 8) dX6_arrival_8 (by decide) rfl ?_
              refine a_getR (y := 230) (pc := 9) dX6_arrival_9 fl_RX6_17 (by decide) s0_229 rfl rfl ?_
              refine a_iload (pc := 12) dX6_arrival_12 rfl ?_
              have ho12 := h.1
              replace h := h.2
              have hr13 := rw_230 l3 ho12.1 ho12.2
              refine a_aald (y := 231 + l3) (pc := 14) dX6_arrival_14 (by decide) s0_230 ho12.1 ho12.2 (by omega) ?_
              refine a_iload_n (pc := 15) dX6_arrival_15 rfl ?_
              have ho14 := h.1
              replace h := h.2
              refine a_iald (pc := 16) dX6_arrival_16 hr13.1 hr13.2 ho14.1 ho14.2 ?_
              refine a_ireti (pc := 17) dX6_arrival_17 rfl rfl (Nat.le_of_ble_eq_true rfl) ⟨rfl, ?_⟩
              refine a_istore (ls1 := [(2, 0), (0, l1), (0, l2), (0, l3), (0, l4), (0, l5), (0, l6), (0, r2), (0, 0), (0, M11 (231 + l3) l2), (9, 0), (9, 0)]) (pc := 69) dX8_profile_69 (by decide) (hp1 (t := 0) rfl (by decide)) rfl ?_
              refine a_iload (pc := 71) dX8_profile_71 rfl ?_
              refine a_istore (ls1 := [(2, 0), (0, l1), (0, l2), (0, l3), (0, l4), (0, l5), (0, l6), (0, r2), (0, 0), (0, M11 (231 + l3) l2), (0, l4), (9, 0)]) (pc := 73) dX8_profile_73 (by decide) (hp1 (t := 0) rfl (by decide)) rfl ?_
              exact a_msk [true, true, true, true, false, true, true, false, true, true, true, true] rfl h
            · replace h := h.2 hc9
              refine a_bipush (pc := 51) dX8_profile_51 (by decide) (by decide +kernel) ?_
              exact a_ireti (pc := 53) dX8_profile_53 rfl rfl (Nat.le_of_ble_eq_true rfl) ⟨rfl, h⟩
    · replace h := h.2 hc4
      refine a_iload (pc := 23) dX8_profile_23 rfl ?_
      exact a_ireti (pc := 25) dX8_profile_25 rfl rfl (Nat.le_of_ble_eq_true rfl) ⟨rfl, h⟩
  · replace h := h.2 hc1
    refine a_iconst (pc := 6) dX8_profile_6 (by decide) ?_
    exact a_ireti (pc := 7) dX8_profile_7 rfl rfl (Nat.le_of_ble_eq_true rfl) ⟨rfl, h⟩
set_option maxRecDepth 100000 in
set_option maxHeartbeats 4000000 in
theorem B_C_profile_75 {l1 l2 l3 l5 l6 l8 l9 l10 : Int} {M : Mem} {Q : Int → Mem → Prop} (h : ((l5 < l10 → ((¬ l6 = (-1) → Q (-5) M) ∧ (l6 = (-1) → Q l8 M))) ∧ (¬ (l5 < l10) → (-2147483648 ≤ l10 + 1 ∧ l10 + 1 ≤ 2147483647) ∧ Calls mX6_run [(2, 229), (0, l1), (0, l10 + 1), (0, l3)] S0 M (fun r4 M5 => ((0 : Int) ≤ l3 ∧ l3 < 7) ∧ ((0 : Int) ≤ l2 ∧ l2 < 12) ∧ (((M5 (231 + l3) l2) ≤ l9 → AW mX8_profile 75 [(2, 0), (0, l1), (0, l2), (0, l3), (9, 0), (0, l5), (0, l6), (9, 0), (0, l8), (0, M5 (231 + l3) l2), (0, l10 + 1), (9, 0)] M5 Q) ∧ (¬ ((M5 (231 + l3) l2) ≤ l9) → ((¬ l8 = l6 → (-2147483648 ≤ l8 + 1 ∧ l8 + 1 ≤ 2147483647) ∧ AW mX8_profile 75 [(2, 0), (0, l1), (0, l2), (0, l3), (9, 0), (0, l5), (0, l6), (9, 0), (0, l8 + 1), (0, M5 (231 + l3) l2), (0, l10 + 1), (9, 0)] M5 Q) ∧ (l8 = l6 → Q l10 M5)))))))) : AW mX8_profile 75 [(2, 0), (0, l1), (0, l2), (0, l3), (9, 0), (0, l5), (0, l6), (9, 0), (0, l8), (0, l9), (0, l10), (9, 0)] M Q := by
  refine a_iload (pc := 75) dX8_profile_75 rfl ?_
  refine a_iload (pc := 77) dX8_profile_77 rfl ?_
  refine a_icmp_gt (tgt := 128) (pc := 79) dX8_profile_79 (by decide) (fun hc1 => ?_) (fun hc1 => ?_)
  · replace h := h.1 hc1
    refine a_iload (pc := 128) dX8_profile_128 rfl ?_
    refine a_iconst (pc := 130) dX8_profile_130 (by decide) ?_
    refine a_icmp_ne (tgt := 139) (pc := 131) dX8_profile_131 (by decide) (fun hc2 => ?_) (fun hc2 => ?_)
    · replace h := h.1 hc2
      refine a_bipush (pc := 139) dX8_profile_139 (by decide) (by decide +kernel) ?_
      exact a_ireti (pc := 141) dX8_profile_141 rfl rfl (Nat.le_of_ble_eq_true rfl) ⟨rfl, h⟩
    · replace h := h.2 hc2
      refine a_iload (pc := 134) dX8_profile_134 rfl ?_
      refine a_goto (tgt := 141) (pc := 136) dX8_profile_136 (by decide) ?_
      exact a_ireti (pc := 141) dX8_profile_141 rfl rfl (Nat.le_of_ble_eq_true rfl) ⟨rfl, h⟩
  · replace h := h.2 hc1
    refine a_aload_n (pc := 82) dX8_profile_82 (by decide) rfl ?_
    refine a_getR (y := 229) (pc := 83) dX8_profile_83 fl_RX8_27 (by decide) s0_0 rfl rfl ?_
    refine a_iload_n (pc := 86) dX8_profile_86 rfl ?_
    refine a_iload (pc := 87) dX8_profile_87 rfl ?_
    refine a_iconst (pc := 89) dX8_profile_89 (by decide) ?_
    have ho3 := h.1
    replace h := h.2
    refine a_iadd (pc := 90) dX8_profile_90 ho3 ?_
    refine a_iload_n (pc := 91) dX8_profile_91 rfl ?_
    refine a_iload_n (pc := 92) dX8_profile_92 rfl ?_
    refine p_inlV (Ex := _) (As := [(0, l1), (0, l10 + 1), (0, l2), (0, l3)]) (st := []) (st1 := fun r => [(0, r)])  (pc := 93) dX8_profile_93 ml_RX8_151 (by decide) s0_229 rfl (by decide) (Nat.le_of_ble_eq_true rfl) rfl (fun _ => rfl) (by decide) (by decide) (Nat.le_of_ble_eq_true rfl) rfl ?_
    refine a_aload_n (pc := 0) dX6_arrival_0 (by decide) rfl ?_
    refine a_iload_n (pc := 1) dX6_arrival_1 rfl ?_
    refine a_iload_n (pc := 2) dX6_arrival_2 rfl ?_
    refine a_iload (pc := 3) dX6_arrival_3 rfl ?_
    refine p_callV (As := [(0, l1), (0, l10 + 1), (0, l3)]) (st := []) (st1 := fun r => [])  (pc := 5) dX6_arrival_5 ml_RX6_36 (by decide) s0_229 rfl (by decide) (Nat.le_of_ble_eq_true rfl) rfl (fun _ => rfl) h (fun r4 M5 h => ?_)
    refine a_aload_n (pc := 8) dX6_arrival_8 (by decide) rfl ?_
    refine a_getR (y := 230) (pc := 9) dX6_arrival_9 fl_RX6_17 (by decide) s0_229 rfl rfl ?_
    refine a_iload (pc := 12) dX6_arrival_12 rfl ?_
    have ho6 := h.1
    replace h := h.2
    have hr7 := rw_230 l3 ho6.1 ho6.2
    refine a_aald (y := 231 + l3) (pc := 14) dX6_arrival_14 (by decide) s0_230 ho6.1 ho6.2 (by omega) ?_
    refine a_iload_n (pc := 15) dX6_arrival_15 rfl ?_
    have ho8 := h.1
    replace h := h.2
    refine a_iald (pc := 16) dX6_arrival_16 hr7.1 hr7.2 ho8.1 ho8.2 ?_
    refine a_ireti (pc := 17) dX6_arrival_17 rfl rfl (Nat.le_of_ble_eq_true rfl) ⟨rfl, ?_⟩
    refine a_istore (ls1 := [(2, 0), (0, l1), (0, l2), (0, l3), (9, 0), (0, l5), (0, l6), (9, 0), (0, l8), (0, l9), (0, l10), (0, M5 (231 + l3) l2)]) (pc := 96) dX8_profile_96 (by decide) (hp1 (t := 0) rfl (by decide)) rfl ?_
    refine a_iload (pc := 98) dX8_profile_98 rfl ?_
    refine a_iload (pc := 100) dX8_profile_100 rfl ?_
    refine a_icmp_ge (tgt := 118) (pc := 102) dX8_profile_102 (by decide) (fun hc9 => ?_) (fun hc9 => ?_)
    · replace h := h.1 hc9
      refine a_iload (pc := 118) dX8_profile_118 rfl ?_
      refine a_istore (ls1 := [(2, 0), (0, l1), (0, l2), (0, l3), (9, 0), (0, l5), (0, l6), (9, 0), (0, l8), (0, M5 (231 + l3) l2), (0, l10), (0, M5 (231 + l3) l2)]) (pc := 120) dX8_profile_120 (by decide) (hp1 (t := 0) rfl (by decide)) rfl ?_
      refine a_iinc (ls1 := [(2, 0), (0, l1), (0, l2), (0, l3), (9, 0), (0, l5), (0, l6), (9, 0), (0, l8), (0, M5 (231 + l3) l2), (0, l10 + 1), (0, M5 (231 + l3) l2)]) (pc := 122) dX8_profile_122 rfl (by decide) (hp1 (t := 0) rfl (by decide)) ho3 rfl ?_
      refine a_goto (tgt := 75) (pc := 125) dX8_profile_125 (by decide) ?_
      exact a_msk [true, true, true, true, true, true, true, true, true, true, true, false] rfl h
    · replace h := h.2 hc9
      refine a_iload (pc := 105) dX8_profile_105 rfl ?_
      refine a_iload (pc := 107) dX8_profile_107 rfl ?_
      refine a_icmp_ne (tgt := 115) (pc := 109) dX8_profile_109 (by decide) (fun hc10 => ?_) (fun hc10 => ?_)
      · replace h := h.1 hc10
        have ho11 := h.1
        replace h := h.2
        refine a_iinc (ls1 := [(2, 0), (0, l1), (0, l2), (0, l3), (9, 0), (0, l5), (0, l6), (9, 0), (0, l8 + 1), (0, l9), (0, l10), (0, M5 (231 + l3) l2)]) (pc := 115) dX8_profile_115 rfl (by decide) (hp1 (t := 9) rfl (by decide)) ho11 rfl ?_
        refine a_iload (pc := 118) dX8_profile_118 rfl ?_
        refine a_istore (ls1 := [(2, 0), (0, l1), (0, l2), (0, l3), (9, 0), (0, l5), (0, l6), (9, 0), (0, l8 + 1), (0, M5 (231 + l3) l2), (0, l10), (0, M5 (231 + l3) l2)]) (pc := 120) dX8_profile_120 (by decide) (hp1 (t := 0) rfl (by decide)) rfl ?_
        refine a_iinc (ls1 := [(2, 0), (0, l1), (0, l2), (0, l3), (9, 0), (0, l5), (0, l6), (9, 0), (0, l8 + 1), (0, M5 (231 + l3) l2), (0, l10 + 1), (0, M5 (231 + l3) l2)]) (pc := 122) dX8_profile_122 rfl (by decide) (hp1 (t := 0) rfl (by decide)) ho3 rfl ?_
        refine a_goto (tgt := 75) (pc := 125) dX8_profile_125 (by decide) ?_
        exact a_msk [true, true, true, true, true, true, true, true, true, true, true, false] rfl h
      · replace h := h.2 hc10
        refine a_iload (pc := 112) dX8_profile_112 rfl ?_
        exact a_ireti (pc := 114) dX8_profile_114 rfl rfl (Nat.le_of_ble_eq_true rfl) ⟨rfl, h⟩
theorem E_C_profile {l1 l2 l3 l4 l5 l6 : Int} {M : Mem} {Q : Int → Mem → Prop} (h : AW mX8_profile 0 [(2, 0), (0, l1), (0, l2), (0, l3), (0, l4), (0, l5), (0, l6), (9, 0), (9, 0), (9, 0), (9, 0), (9, 0)] M Q) : Calls mX8_profile [(2, 0), (0, l1), (0, l2), (0, l3), (0, l4), (0, l5), (0, l6)] S0 M Q := calls_of (by decide) (by decide) (Nat.le_of_ble_eq_true rfl) rfl h
set_option maxRecDepth 100000 in
set_option maxHeartbeats 4000000 in
theorem B_C_cut_0 {l1 l2 l3 l4 l5 : Int} {M : Mem} {Q : Int → Mem → Prop} (h : ((l5 < 0 → Q (-1) M) ∧ (¬ (l5 < 0) → ((1 < l5 → Q (-1) M) ∧ (¬ (1 < l5) → ((¬ l1 = l3 → Calls mX8_refusal [(0, l1), (0, l2), (0, l3), (0, l4)] S0 M (fun r4 M5 => ((r4 = 0 → Calls mX6_run [(2, 229), (0, l1), (0, l2), (0, l4)] S0 M5 (fun r7 M8 => ((0 : Int) ≤ l4 ∧ l4 < 7) ∧ ((0 : Int) ≤ l3 ∧ l3 < 12) ∧ AW mX8_cut 60 [(2, 0), (0, l1), (0, l2), (0, l3), (0, l4), (0, l5), (9, 0), (0, M8 (231 + l4) l3), (0, 0), (0, (-5)), (0, 0), (9, 0)] M8 Q)) ∧ (¬ r4 = 0 → Q r4 M5)))) ∧ (l1 = l3 → Q (-1) M))))))) : AW mX8_cut 0 [(2, 0), (0, l1), (0, l2), (0, l3), (0, l4), (0, l5), (9, 0), (9, 0), (9, 0), (9, 0), (9, 0), (9, 0)] M Q := by
  refine a_iload (pc := 0) dX8_cut_0 rfl ?_
  refine a_if_lt (tgt := 16) (pc := 2) dX8_cut_2 (by decide) (fun hc1 => ?_) (fun hc1 => ?_)
  · replace h := h.1 hc1
    refine a_iconst (pc := 16) dX8_cut_16 (by decide) ?_
    exact a_ireti (pc := 17) dX8_cut_17 rfl rfl (Nat.le_of_ble_eq_true rfl) ⟨rfl, h⟩
  · replace h := h.2 hc1
    refine a_iload (pc := 5) dX8_cut_5 rfl ?_
    refine a_iconst (pc := 7) dX8_cut_7 (by decide) ?_
    refine a_icmp_gt (tgt := 16) (pc := 8) dX8_cut_8 (by decide) (fun hc2 => ?_) (fun hc2 => ?_)
    · replace h := h.1 hc2
      refine a_iconst (pc := 16) dX8_cut_16 (by decide) ?_
      exact a_ireti (pc := 17) dX8_cut_17 rfl rfl (Nat.le_of_ble_eq_true rfl) ⟨rfl, h⟩
    · replace h := h.2 hc2
      refine a_iload_n (pc := 11) dX8_cut_11 rfl ?_
      refine a_iload_n (pc := 12) dX8_cut_12 rfl ?_
      refine a_icmp_ne (tgt := 18) (pc := 13) dX8_cut_13 (by decide) (fun hc3 => ?_) (fun hc3 => ?_)
      · replace h := h.1 hc3
        refine a_iload_n (pc := 18) dX8_cut_18 rfl ?_
        refine a_iload_n (pc := 19) dX8_cut_19 rfl ?_
        refine a_iload_n (pc := 20) dX8_cut_20 rfl ?_
        refine a_iload (pc := 21) dX8_cut_21 rfl ?_
        refine p_callS (As := [(0, l1), (0, l2), (0, l3), (0, l4)]) (st := []) (st1 := fun r => [(0, r)])  (pc := 23) dX8_cut_23 ml_RX8_147 (by decide) (Nat.le_of_ble_eq_true rfl) rfl (fun _ => rfl) h (fun r4 M5 h => ?_)
        refine a_istore (ls1 := [(2, 0), (0, l1), (0, l2), (0, l3), (0, l4), (0, l5), (0, r4), (9, 0), (9, 0), (9, 0), (9, 0), (9, 0)]) (pc := 26) dX8_cut_26 (by decide) (hp1 (t := 0) rfl (by decide)) rfl ?_
        refine a_iload (pc := 28) dX8_cut_28 rfl ?_
        refine a_if_eq (tgt := 36) (pc := 30) dX8_cut_30 (by decide) (fun hc6 => ?_) (fun hc6 => ?_)
        · replace h := h.1 hc6
          refine a_aload_n (pc := 36) dX8_cut_36 (by decide) rfl ?_
          refine a_getR (y := 229) (pc := 37) dX8_cut_37 fl_RX8_27 (by decide) s0_0 rfl rfl ?_
          refine a_iload_n (pc := 40) dX8_cut_40 rfl ?_
          refine a_iload_n (pc := 41) dX8_cut_41 rfl ?_
          refine a_iload_n (pc := 42) dX8_cut_42 rfl ?_
          refine a_iload (pc := 43) dX8_cut_43 rfl ?_
          refine p_inlV (Ex := _) (As := [(0, l1), (0, l2), (0, l3), (0, l4)]) (st := []) (st1 := fun r => [(0, r)])  (pc := 45) dX8_cut_45 ml_RX8_151 (by decide) s0_229 rfl (by decide) (Nat.le_of_ble_eq_true rfl) rfl (fun _ => rfl) (by decide) (by decide) (Nat.le_of_ble_eq_true rfl) rfl ?_
          refine a_aload_n (pc := 0) dX6_arrival_0 (by decide) rfl ?_
          refine a_iload_n (pc := 1) dX6_arrival_1 rfl ?_
          refine a_iload_n (pc := 2) dX6_arrival_2 rfl ?_
          refine a_iload (pc := 3) dX6_arrival_3 rfl ?_
          refine p_callV (As := [(0, l1), (0, l2), (0, l4)]) (st := []) (st1 := fun r => [])  (pc := 5) dX6_arrival_5 ml_RX6_36 (by decide) s0_229 rfl (by decide) (Nat.le_of_ble_eq_true rfl) rfl (fun _ => rfl) h (fun r7 M8 h => ?_)
          refine a_aload_n (pc := 8) dX6_arrival_8 (by decide) rfl ?_
          refine a_getR (y := 230) (pc := 9) dX6_arrival_9 fl_RX6_17 (by decide) s0_229 rfl rfl ?_
          refine a_iload (pc := 12) dX6_arrival_12 rfl ?_
          have ho9 := h.1
          replace h := h.2
          have hr10 := rw_230 l4 ho9.1 ho9.2
          refine a_aald (y := 231 + l4) (pc := 14) dX6_arrival_14 (by decide) s0_230 ho9.1 ho9.2 (by omega) ?_
          refine a_iload_n (pc := 15) dX6_arrival_15 rfl ?_
          have ho11 := h.1
          replace h := h.2
          refine a_iald (pc := 16) dX6_arrival_16 hr10.1 hr10.2 ho11.1 ho11.2 ?_
          refine a_ireti (pc := 17) dX6_arrival_17 rfl rfl (Nat.le_of_ble_eq_true rfl) ⟨rfl, ?_⟩
          refine a_istore (ls1 := [(2, 0), (0, l1), (0, l2), (0, l3), (0, l4), (0, l5), (0, r4), (0, M8 (231 + l4) l3), (9, 0), (9, 0), (9, 0), (9, 0)]) (pc := 48) dX8_cut_48 (by decide) (hp1 (t := 0) rfl (by decide)) rfl ?_
          refine a_iconst (pc := 50) dX8_cut_50 (by decide) ?_
          refine a_istore (ls1 := [(2, 0), (0, l1), (0, l2), (0, l3), (0, l4), (0, l5), (0, r4), (0, M8 (231 + l4) l3), (0, 0), (9, 0), (9, 0), (9, 0)]) (pc := 51) dX8_cut_51 (by decide) (hp1 (t := 0) rfl (by decide)) rfl ?_
          refine a_bipush (pc := 53) dX8_cut_53 (by decide) (by decide +kernel) ?_
          refine a_istore (ls1 := [(2, 0), (0, l1), (0, l2), (0, l3), (0, l4), (0, l5), (0, r4), (0, M8 (231 + l4) l3), (0, 0), (0, (-5)), (9, 0), (9, 0)]) (pc := 55) dX8_cut_55 (by decide) (hp1 (t := 0) rfl (by decide)) rfl ?_
          refine a_iconst (pc := 57) dX8_cut_57 (by decide) ?_
          refine a_istore (ls1 := [(2, 0), (0, l1), (0, l2), (0, l3), (0, l4), (0, l5), (0, r4), (0, M8 (231 + l4) l3), (0, 0), (0, (-5)), (0, 0), (9, 0)]) (pc := 58) dX8_cut_58 (by decide) (hp1 (t := 0) rfl (by decide)) rfl ?_
          exact a_msk [true, true, true, true, true, true, false, true, true, true, true, true] rfl h
        · replace h := h.2 hc6
          refine a_iload (pc := 33) dX8_cut_33 rfl ?_
          exact a_ireti (pc := 35) dX8_cut_35 rfl rfl (Nat.le_of_ble_eq_true rfl) ⟨rfl, h⟩
      · replace h := h.2 hc3
        refine a_iconst (pc := 16) dX8_cut_16 (by decide) ?_
        exact a_ireti (pc := 17) dX8_cut_17 rfl rfl (Nat.le_of_ble_eq_true rfl) ⟨rfl, h⟩
set_option maxRecDepth 100000 in
set_option maxHeartbeats 4000000 in
theorem B_C_cut_60 {l1 l2 l3 l4 l5 l7 l8 l9 l10 : Int} {M : Mem} {Q : Int → Mem → Prop} (h : ((12 ≤ l10 → ((¬ l9 = (-5) → ((¬ l5 = 0 → Q l8 M) ∧ (l5 = 0 → Q l9 M))) ∧ (l9 = (-5) → Q (-5) M))) ∧ (¬ (12 ≤ l10) → ((l10 = l1 → (-2147483648 ≤ l10 + 1 ∧ l10 + 1 ≤ 2147483647) ∧ AW mX8_cut 60 [(2, 0), (0, l1), (0, l2), (0, l3), (0, l4), (0, l5), (9, 0), (0, l7), (0, l8), (0, l9), (0, l10 + 1), (9, 0)] M Q) ∧ (¬ l10 = l1 → ((¬ l10 = l3 → Calls mX6_arrivalWithoutStop [(2, 229), (0, l1), (0, l2), (0, l3), (0, l4), (0, l10)] S0 M (fun r7 M8 => (-2147483648 ≤ r7 - l7 ∧ r7 - l7 ≤ 2147483647) ∧ (((r7 - l7) ≤ l8 → (-2147483648 ≤ l10 + 1 ∧ l10 + 1 ≤ 2147483647) ∧ AW mX8_cut 60 [(2, 0), (0, l1), (0, l2), (0, l3), (0, l4), (0, l5), (9, 0), (0, l7), (0, l8), (0, l9), (0, l10 + 1), (9, 0)] M8 Q) ∧ (¬ ((r7 - l7) ≤ l8) → (-2147483648 ≤ l10 + 1 ∧ l10 + 1 ≤ 2147483647) ∧ AW mX8_cut 60 [(2, 0), (0, l1), (0, l2), (0, l3), (0, l4), (0, l5), (9, 0), (0, l7), (0, r7 - l7), (0, l10), (0, l10 + 1), (9, 0)] M8 Q)))) ∧ (l10 = l3 → (-2147483648 ≤ l10 + 1 ∧ l10 + 1 ≤ 2147483647) ∧ AW mX8_cut 60 [(2, 0), (0, l1), (0, l2), (0, l3), (0, l4), (0, l5), (9, 0), (0, l7), (0, l8), (0, l9), (0, l10 + 1), (9, 0)] M Q))))))) : AW mX8_cut 60 [(2, 0), (0, l1), (0, l2), (0, l3), (0, l4), (0, l5), (9, 0), (0, l7), (0, l8), (0, l9), (0, l10), (9, 0)] M Q := by
  refine a_iload (pc := 60) dX8_cut_60 rfl ?_
  refine a_bipush (pc := 62) dX8_cut_62 (by decide) (by decide +kernel) ?_
  refine a_icmp_ge (tgt := 122) (pc := 64) dX8_cut_64 (by decide) (fun hc1 => ?_) (fun hc1 => ?_)
  · replace h := h.1 hc1
    refine a_iload (pc := 122) dX8_cut_122 rfl ?_
    refine a_iload (pc := 124) dX8_cut_124 rfl ?_
    refine a_iload (pc := 126) dX8_cut_126 rfl ?_
    refine p_inlS (Ex := _) (As := [(0, l5), (0, l9), (0, l8)]) (st := []) (st1 := fun r => [(0, r)])  (pc := 128) dX8_cut_128 ml_RX8_191 (by decide) (Nat.le_of_ble_eq_true rfl) rfl (fun _ => rfl) (by decide) (by decide) (Nat.le_of_ble_eq_true rfl) rfl ?_
    refine a_iload_n (pc := 0) dX8_lossAnswer_0 rfl ?_
    refine a_bipush (pc := 1) dX8_lossAnswer_1 (by decide) (by decide +kernel) ?_
    refine a_icmp_ne (tgt := 9) (pc := 3) dX8_lossAnswer_3 (by decide) (fun hc2 => ?_) (fun hc2 => ?_)
    · replace h := h.1 hc2
      refine a_iload_n (pc := 9) dX8_lossAnswer_9 rfl ?_
      refine a_if_ne (tgt := 17) (pc := 10) dX8_lossAnswer_10 (by decide) (fun hc3 => ?_) (fun hc3 => ?_)
      · replace h := h.1 hc3
        refine a_iload_n (pc := 17) dX8_lossAnswer_17 rfl ?_
        refine a_ireti (pc := 18) dX8_lossAnswer_18 rfl rfl (Nat.le_of_ble_eq_true rfl) ⟨rfl, ?_⟩
        exact a_ireti (pc := 131) dX8_cut_131 rfl rfl (Nat.le_of_ble_eq_true rfl) ⟨rfl, h⟩
      · replace h := h.2 hc3
        refine a_iload_n (pc := 13) dX8_lossAnswer_13 rfl ?_
        refine a_goto (tgt := 18) (pc := 14) dX8_lossAnswer_14 (by decide) ?_
        refine a_ireti (pc := 18) dX8_lossAnswer_18 rfl rfl (Nat.le_of_ble_eq_true rfl) ⟨rfl, ?_⟩
        exact a_ireti (pc := 131) dX8_cut_131 rfl rfl (Nat.le_of_ble_eq_true rfl) ⟨rfl, h⟩
    · replace h := h.2 hc2
      refine a_bipush (pc := 6) dX8_lossAnswer_6 (by decide) (by decide +kernel) ?_
      refine a_ireti (pc := 8) dX8_lossAnswer_8 rfl rfl (Nat.le_of_ble_eq_true rfl) ⟨rfl, ?_⟩
      exact a_ireti (pc := 131) dX8_cut_131 rfl rfl (Nat.le_of_ble_eq_true rfl) ⟨rfl, h⟩
  · replace h := h.2 hc1
    refine a_iload (pc := 67) dX8_cut_67 rfl ?_
    refine a_iload_n (pc := 69) dX8_cut_69 rfl ?_
    refine a_icmp_eq (tgt := 116) (pc := 70) dX8_cut_70 (by decide) (fun hc4 => ?_) (fun hc4 => ?_)
    · replace h := h.1 hc4
      have ho5 := h.1
      replace h := h.2
      refine a_iinc (ls1 := [(2, 0), (0, l1), (0, l2), (0, l3), (0, l4), (0, l5), (9, 0), (0, l7), (0, l8), (0, l9), (0, l10 + 1), (9, 0)]) (pc := 116) dX8_cut_116 rfl (by decide) (hp1 (t := 0) rfl (by decide)) ho5 rfl ?_
      refine a_goto (tgt := 60) (pc := 119) dX8_cut_119 (by decide) ?_
      exact h
    · replace h := h.2 hc4
      refine a_iload (pc := 73) dX8_cut_73 rfl ?_
      refine a_iload_n (pc := 75) dX8_cut_75 rfl ?_
      refine a_icmp_ne (tgt := 82) (pc := 76) dX8_cut_76 (by decide) (fun hc6 => ?_) (fun hc6 => ?_)
      · replace h := h.1 hc6
        refine a_aload_n (pc := 82) dX8_cut_82 (by decide) rfl ?_
        refine a_getR (y := 229) (pc := 83) dX8_cut_83 fl_RX8_27 (by decide) s0_0 rfl rfl ?_
        refine a_iload_n (pc := 86) dX8_cut_86 rfl ?_
        refine a_iload_n (pc := 87) dX8_cut_87 rfl ?_
        refine a_iload_n (pc := 88) dX8_cut_88 rfl ?_
        refine a_iload (pc := 89) dX8_cut_89 rfl ?_
        refine a_iload (pc := 91) dX8_cut_91 rfl ?_
        refine p_callV (As := [(0, l1), (0, l2), (0, l3), (0, l4), (0, l10)]) (st := []) (st1 := fun r => [(0, r)])  (pc := 93) dX8_cut_93 ml_RX8_194 (by decide) s0_229 rfl (by decide) (Nat.le_of_ble_eq_true rfl) rfl (fun _ => rfl) h (fun r7 M8 h => ?_)
        refine a_iload (pc := 96) dX8_cut_96 rfl ?_
        have ho9 := h.1
        replace h := h.2
        refine a_isub (pc := 98) dX8_cut_98 ho9 ?_
        refine a_istore (ls1 := [(2, 0), (0, l1), (0, l2), (0, l3), (0, l4), (0, l5), (9, 0), (0, l7), (0, l8), (0, l9), (0, l10), (0, r7 - l7)]) (pc := 99) dX8_cut_99 (by decide) (hp1 (t := 0) rfl (by decide)) rfl ?_
        refine a_iload (pc := 101) dX8_cut_101 rfl ?_
        refine a_iload (pc := 103) dX8_cut_103 rfl ?_
        refine a_icmp_le (tgt := 116) (pc := 105) dX8_cut_105 (by decide) (fun hc10 => ?_) (fun hc10 => ?_)
        · replace h := h.1 hc10
          have ho11 := h.1
          replace h := h.2
          refine a_iinc (ls1 := [(2, 0), (0, l1), (0, l2), (0, l3), (0, l4), (0, l5), (9, 0), (0, l7), (0, l8), (0, l9), (0, l10 + 1), (0, r7 - l7)]) (pc := 116) dX8_cut_116 rfl (by decide) (hp1 (t := 0) rfl (by decide)) ho11 rfl ?_
          refine a_goto (tgt := 60) (pc := 119) dX8_cut_119 (by decide) ?_
          exact a_msk [true, true, true, true, true, true, true, true, true, true, true, false] rfl h
        · replace h := h.2 hc10
          refine a_iload (pc := 108) dX8_cut_108 rfl ?_
          refine a_istore (ls1 := [(2, 0), (0, l1), (0, l2), (0, l3), (0, l4), (0, l5), (9, 0), (0, l7), (0, r7 - l7), (0, l9), (0, l10), (0, r7 - l7)]) (pc := 110) dX8_cut_110 (by decide) (hp1 (t := 0) rfl (by decide)) rfl ?_
          refine a_iload (pc := 112) dX8_cut_112 rfl ?_
          refine a_istore (ls1 := [(2, 0), (0, l1), (0, l2), (0, l3), (0, l4), (0, l5), (9, 0), (0, l7), (0, r7 - l7), (0, l10), (0, l10), (0, r7 - l7)]) (pc := 114) dX8_cut_114 (by decide) (hp1 (t := 0) rfl (by decide)) rfl ?_
          have ho12 := h.1
          replace h := h.2
          refine a_iinc (ls1 := [(2, 0), (0, l1), (0, l2), (0, l3), (0, l4), (0, l5), (9, 0), (0, l7), (0, r7 - l7), (0, l10), (0, l10 + 1), (0, r7 - l7)]) (pc := 116) dX8_cut_116 rfl (by decide) (hp1 (t := 0) rfl (by decide)) ho12 rfl ?_
          refine a_goto (tgt := 60) (pc := 119) dX8_cut_119 (by decide) ?_
          exact a_msk [true, true, true, true, true, true, true, true, true, true, true, false] rfl h
      · replace h := h.2 hc6
        refine a_goto (tgt := 116) (pc := 79) dX8_cut_79 (by decide) ?_
        have ho13 := h.1
        replace h := h.2
        refine a_iinc (ls1 := [(2, 0), (0, l1), (0, l2), (0, l3), (0, l4), (0, l5), (9, 0), (0, l7), (0, l8), (0, l9), (0, l10 + 1), (9, 0)]) (pc := 116) dX8_cut_116 rfl (by decide) (hp1 (t := 0) rfl (by decide)) ho13 rfl ?_
        refine a_goto (tgt := 60) (pc := 119) dX8_cut_119 (by decide) ?_
        exact h
theorem E_C_cut {l1 l2 l3 l4 l5 : Int} {M : Mem} {Q : Int → Mem → Prop} (h : AW mX8_cut 0 [(2, 0), (0, l1), (0, l2), (0, l3), (0, l4), (0, l5), (9, 0), (9, 0), (9, 0), (9, 0), (9, 0), (9, 0)] M Q) : Calls mX8_cut [(2, 0), (0, l1), (0, l2), (0, l3), (0, l4), (0, l5)] S0 M Q := calls_of (by decide) (by decide) (Nat.le_of_ble_eq_true rfl) rfl h
set_option maxRecDepth 100000 in
set_option maxHeartbeats 4000000 in
theorem B_C_worst_0 {l1 l2 l3 l4 l5 : Int} {M : Mem} {Q : Int → Mem → Prop} (h : ((l5 < 0 → Q (-1) M) ∧ (¬ (l5 < 0) → ((l5 ≤ 1 → Calls mX8_refusal [(0, l1), (0, l2), (0, l3), (0, l4)] S0 M (fun r3 M4 => ((r3 = 0 → Calls mX6_run [(2, 229), (0, l1), (0, l2), (0, l4)] S0 M4 (fun r6 M7 => ((0 : Int) ≤ l4 ∧ l4 < 7) ∧ ((0 : Int) ≤ l3 ∧ l3 < 12) ∧ AW mX8_worst 55 [(2, 0), (0, l1), (0, l2), (0, l3), (0, l4), (0, l5), (9, 0), (0, M7 (231 + l4) l3), (0, 0), (0, (-5)), (0, 0), (9, 0), (9, 0)] M7 Q)) ∧ (¬ r3 = 0 → Q r3 M4)))) ∧ (¬ (l5 ≤ 1) → Q (-1) M))))) : AW mX8_worst 0 [(2, 0), (0, l1), (0, l2), (0, l3), (0, l4), (0, l5), (9, 0), (9, 0), (9, 0), (9, 0), (9, 0), (9, 0), (9, 0)] M Q := by
  refine a_iload (pc := 0) dX8_worst_0 rfl ?_
  refine a_if_lt (tgt := 11) (pc := 2) dX8_worst_2 (by decide) (fun hc1 => ?_) (fun hc1 => ?_)
  · replace h := h.1 hc1
    refine a_iconst (pc := 11) dX8_worst_11 (by decide) ?_
    exact a_ireti (pc := 12) dX8_worst_12 rfl rfl (Nat.le_of_ble_eq_true rfl) ⟨rfl, h⟩
  · replace h := h.2 hc1
    refine a_iload (pc := 5) dX8_worst_5 rfl ?_
    refine a_iconst (pc := 7) dX8_worst_7 (by decide) ?_
    refine a_icmp_le (tgt := 13) (pc := 8) dX8_worst_8 (by decide) (fun hc2 => ?_) (fun hc2 => ?_)
    · replace h := h.1 hc2
      refine a_iload_n (pc := 13) dX8_worst_13 rfl ?_
      refine a_iload_n (pc := 14) dX8_worst_14 rfl ?_
      refine a_iload_n (pc := 15) dX8_worst_15 rfl ?_
      refine a_iload (pc := 16) dX8_worst_16 rfl ?_
      refine p_callS (As := [(0, l1), (0, l2), (0, l3), (0, l4)]) (st := []) (st1 := fun r => [(0, r)])  (pc := 18) dX8_worst_18 ml_RX8_147 (by decide) (Nat.le_of_ble_eq_true rfl) rfl (fun _ => rfl) h (fun r3 M4 h => ?_)
      refine a_istore (ls1 := [(2, 0), (0, l1), (0, l2), (0, l3), (0, l4), (0, l5), (0, r3), (9, 0), (9, 0), (9, 0), (9, 0), (9, 0), (9, 0)]) (pc := 21) dX8_worst_21 (by decide) (hp1 (t := 0) rfl (by decide)) rfl ?_
      refine a_iload (pc := 23) dX8_worst_23 rfl ?_
      refine a_if_eq (tgt := 31) (pc := 25) dX8_worst_25 (by decide) (fun hc5 => ?_) (fun hc5 => ?_)
      · replace h := h.1 hc5
        refine a_aload_n (pc := 31) dX8_worst_31 (by decide) rfl ?_
        refine a_getR (y := 229) (pc := 32) dX8_worst_32 fl_RX8_27 (by decide) s0_0 rfl rfl ?_
        refine a_iload_n (pc := 35) dX8_worst_35 rfl ?_
        refine a_iload_n (pc := 36) dX8_worst_36 rfl ?_
        refine a_iload_n (pc := 37) dX8_worst_37 rfl ?_
        refine a_iload (pc := 38) dX8_worst_38 rfl ?_
        refine p_inlV (Ex := _) (As := [(0, l1), (0, l2), (0, l3), (0, l4)]) (st := []) (st1 := fun r => [(0, r)])  (pc := 40) dX8_worst_40 ml_RX8_151 (by decide) s0_229 rfl (by decide) (Nat.le_of_ble_eq_true rfl) rfl (fun _ => rfl) (by decide) (by decide) (Nat.le_of_ble_eq_true rfl) rfl ?_
        refine a_aload_n (pc := 0) dX6_arrival_0 (by decide) rfl ?_
        refine a_iload_n (pc := 1) dX6_arrival_1 rfl ?_
        refine a_iload_n (pc := 2) dX6_arrival_2 rfl ?_
        refine a_iload (pc := 3) dX6_arrival_3 rfl ?_
        refine p_callV (As := [(0, l1), (0, l2), (0, l4)]) (st := []) (st1 := fun r => [])  (pc := 5) dX6_arrival_5 ml_RX6_36 (by decide) s0_229 rfl (by decide) (Nat.le_of_ble_eq_true rfl) rfl (fun _ => rfl) h (fun r6 M7 h => ?_)
        refine a_aload_n (pc := 8) dX6_arrival_8 (by decide) rfl ?_
        refine a_getR (y := 230) (pc := 9) dX6_arrival_9 fl_RX6_17 (by decide) s0_229 rfl rfl ?_
        refine a_iload (pc := 12) dX6_arrival_12 rfl ?_
        have ho8 := h.1
        replace h := h.2
        have hr9 := rw_230 l4 ho8.1 ho8.2
        refine a_aald (y := 231 + l4) (pc := 14) dX6_arrival_14 (by decide) s0_230 ho8.1 ho8.2 (by omega) ?_
        refine a_iload_n (pc := 15) dX6_arrival_15 rfl ?_
        have ho10 := h.1
        replace h := h.2
        refine a_iald (pc := 16) dX6_arrival_16 hr9.1 hr9.2 ho10.1 ho10.2 ?_
        refine a_ireti (pc := 17) dX6_arrival_17 rfl rfl (Nat.le_of_ble_eq_true rfl) ⟨rfl, ?_⟩
        refine a_istore (ls1 := [(2, 0), (0, l1), (0, l2), (0, l3), (0, l4), (0, l5), (0, r3), (0, M7 (231 + l4) l3), (9, 0), (9, 0), (9, 0), (9, 0), (9, 0)]) (pc := 43) dX8_worst_43 (by decide) (hp1 (t := 0) rfl (by decide)) rfl ?_
        refine a_iconst (pc := 45) dX8_worst_45 (by decide) ?_
        refine a_istore (ls1 := [(2, 0), (0, l1), (0, l2), (0, l3), (0, l4), (0, l5), (0, r3), (0, M7 (231 + l4) l3), (0, 0), (9, 0), (9, 0), (9, 0), (9, 0)]) (pc := 46) dX8_worst_46 (by decide) (hp1 (t := 0) rfl (by decide)) rfl ?_
        refine a_bipush (pc := 48) dX8_worst_48 (by decide) (by decide +kernel) ?_
        refine a_istore (ls1 := [(2, 0), (0, l1), (0, l2), (0, l3), (0, l4), (0, l5), (0, r3), (0, M7 (231 + l4) l3), (0, 0), (0, (-5)), (9, 0), (9, 0), (9, 0)]) (pc := 50) dX8_worst_50 (by decide) (hp1 (t := 0) rfl (by decide)) rfl ?_
        refine a_iconst (pc := 52) dX8_worst_52 (by decide) ?_
        refine a_istore (ls1 := [(2, 0), (0, l1), (0, l2), (0, l3), (0, l4), (0, l5), (0, r3), (0, M7 (231 + l4) l3), (0, 0), (0, (-5)), (0, 0), (9, 0), (9, 0)]) (pc := 53) dX8_worst_53 (by decide) (hp1 (t := 0) rfl (by decide)) rfl ?_
        exact a_msk [true, true, true, true, true, true, false, true, true, true, true, true, true] rfl h
      · replace h := h.2 hc5
        refine a_iload (pc := 28) dX8_worst_28 rfl ?_
        exact a_ireti (pc := 30) dX8_worst_30 rfl rfl (Nat.le_of_ble_eq_true rfl) ⟨rfl, h⟩
    · replace h := h.2 hc2
      refine a_iconst (pc := 11) dX8_worst_11 (by decide) ?_
      exact a_ireti (pc := 12) dX8_worst_12 rfl rfl (Nat.le_of_ble_eq_true rfl) ⟨rfl, h⟩
set_option maxRecDepth 100000 in
set_option maxHeartbeats 4000000 in
theorem B_C_worst_55 {l1 l2 l3 l4 l5 l7 l8 l9 l10 : Int} {M : Mem} {Q : Int → Mem → Prop} (h : (((M 1 0) ≤ l10 → ((¬ l9 = (-5) → ((¬ l5 = 0 → Q l8 M) ∧ (l5 = 0 → Q l9 M))) ∧ (l9 = (-5) → Q (-5) M))) ∧ (¬ ((M 1 0) ≤ l10) → AW mX8_worst 70 [(2, 0), (0, l1), (0, l2), (0, l3), (0, l4), (0, l5), (9, 0), (0, l7), (0, l8), (0, l9), (0, l10), (0, 0), (9, 0)] M Q))) : AW mX8_worst 55 [(2, 0), (0, l1), (0, l2), (0, l3), (0, l4), (0, l5), (9, 0), (0, l7), (0, l8), (0, l9), (0, l10), (9, 0), (9, 0)] M Q := by
  refine a_iload (pc := 55) dX8_worst_55 rfl ?_
  refine a_aload_n (pc := 57) dX8_worst_57 (by decide) rfl ?_
  refine a_getR (y := 1) (pc := 58) dX8_worst_58 fl_RX8_10 (by decide) s0_0 rfl rfl ?_
  refine a_getI (y := 0) (pc := 61) dX8_worst_61 fl_RX8_184 (by decide) s0_1 (Or.inl rfl) rfl ?_
  refine a_icmp_ge (tgt := 139) (pc := 64) dX8_worst_64 (by decide) (fun hc1 => ?_) (fun hc1 => ?_)
  · replace h := h.1 hc1
    refine a_iload (pc := 139) dX8_worst_139 rfl ?_
    refine a_iload (pc := 141) dX8_worst_141 rfl ?_
    refine a_iload (pc := 143) dX8_worst_143 rfl ?_
    refine p_inlS (Ex := _) (As := [(0, l5), (0, l9), (0, l8)]) (st := []) (st1 := fun r => [(0, r)])  (pc := 145) dX8_worst_145 ml_RX8_191 (by decide) (Nat.le_of_ble_eq_true rfl) rfl (fun _ => rfl) (by decide) (by decide) (Nat.le_of_ble_eq_true rfl) rfl ?_
    refine a_iload_n (pc := 0) dX8_lossAnswer_0 rfl ?_
    refine a_bipush (pc := 1) dX8_lossAnswer_1 (by decide) (by decide +kernel) ?_
    refine a_icmp_ne (tgt := 9) (pc := 3) dX8_lossAnswer_3 (by decide) (fun hc2 => ?_) (fun hc2 => ?_)
    · replace h := h.1 hc2
      refine a_iload_n (pc := 9) dX8_lossAnswer_9 rfl ?_
      refine a_if_ne (tgt := 17) (pc := 10) dX8_lossAnswer_10 (by decide) (fun hc3 => ?_) (fun hc3 => ?_)
      · replace h := h.1 hc3
        refine a_iload_n (pc := 17) dX8_lossAnswer_17 rfl ?_
        refine a_ireti (pc := 18) dX8_lossAnswer_18 rfl rfl (Nat.le_of_ble_eq_true rfl) ⟨rfl, ?_⟩
        exact a_ireti (pc := 148) dX8_worst_148 rfl rfl (Nat.le_of_ble_eq_true rfl) ⟨rfl, h⟩
      · replace h := h.2 hc3
        refine a_iload_n (pc := 13) dX8_lossAnswer_13 rfl ?_
        refine a_goto (tgt := 18) (pc := 14) dX8_lossAnswer_14 (by decide) ?_
        refine a_ireti (pc := 18) dX8_lossAnswer_18 rfl rfl (Nat.le_of_ble_eq_true rfl) ⟨rfl, ?_⟩
        exact a_ireti (pc := 148) dX8_worst_148 rfl rfl (Nat.le_of_ble_eq_true rfl) ⟨rfl, h⟩
    · replace h := h.2 hc2
      refine a_bipush (pc := 6) dX8_lossAnswer_6 (by decide) (by decide +kernel) ?_
      refine a_ireti (pc := 8) dX8_lossAnswer_8 rfl rfl (Nat.le_of_ble_eq_true rfl) ⟨rfl, ?_⟩
      exact a_ireti (pc := 148) dX8_worst_148 rfl rfl (Nat.le_of_ble_eq_true rfl) ⟨rfl, h⟩
  · replace h := h.2 hc1
    refine a_iconst (pc := 67) dX8_worst_67 (by decide) ?_
    refine a_istore (ls1 := [(2, 0), (0, l1), (0, l2), (0, l3), (0, l4), (0, l5), (9, 0), (0, l7), (0, l8), (0, l9), (0, l10), (0, 0), (9, 0)]) (pc := 68) dX8_worst_68 (by decide) (hp1 (t := 0) rfl (by decide)) rfl ?_
    exact h
set_option maxRecDepth 100000 in
set_option maxHeartbeats 4000000 in
theorem B_C_worst_70 {l1 l2 l3 l4 l5 l7 l8 l9 l10 l11 : Int} {M : Mem} {Q : Int → Mem → Prop} (h : ((0 : Int) ≤ l10 ∧ l10 < 8) ∧ (((M 4 l10) ≤ l11 → (-2147483648 ≤ l10 + 1 ∧ l10 + 1 ≤ 2147483647) ∧ AW mX8_worst 55 [(2, 0), (0, l1), (0, l2), (0, l3), (0, l4), (0, l5), (9, 0), (0, l7), (0, l8), (0, l9), (0, l10 + 1), (9, 0), (9, 0)] M Q) ∧ (¬ ((M 4 l10) ≤ l11) → Calls mX6_arrivalWithoutTrip [(2, 229), (0, l1), (0, l2), (0, l3), (0, l4), (0, l10), (0, l11)] S0 M (fun r4 M5 => (-2147483648 ≤ r4 - l7 ∧ r4 - l7 ≤ 2147483647) ∧ (((r4 - l7) ≤ l8 → (-2147483648 ≤ l11 + 1 ∧ l11 + 1 ≤ 2147483647) ∧ AW mX8_worst 70 [(2, 0), (0, l1), (0, l2), (0, l3), (0, l4), (0, l5), (9, 0), (0, l7), (0, l8), (0, l9), (0, l10), (0, l11 + 1), (9, 0)] M5 Q) ∧ (¬ ((r4 - l7) ≤ l8) → (-2147483648 ≤ 10 * l10 ∧ 10 * l10 ≤ 2147483647) ∧ (-2147483648 ≤ (10 * l10) + l11 ∧ (10 * l10) + l11 ≤ 2147483647) ∧ (-2147483648 ≤ l11 + 1 ∧ l11 + 1 ≤ 2147483647) ∧ AW mX8_worst 70 [(2, 0), (0, l1), (0, l2), (0, l3), (0, l4), (0, l5), (9, 0), (0, l7), (0, r4 - l7), (0, (10 * l10) + l11), (0, l10), (0, l11 + 1), (9, 0)] M5 Q)))))) : AW mX8_worst 70 [(2, 0), (0, l1), (0, l2), (0, l3), (0, l4), (0, l5), (9, 0), (0, l7), (0, l8), (0, l9), (0, l10), (0, l11), (9, 0)] M Q := by
  refine a_iload (pc := 70) dX8_worst_70 rfl ?_
  refine a_aload_n (pc := 72) dX8_worst_72 (by decide) rfl ?_
  refine a_getR (y := 1) (pc := 73) dX8_worst_73 fl_RX8_10 (by decide) s0_0 rfl rfl ?_
  refine a_getR (y := 4) (pc := 76) dX8_worst_76 fl_RX8_104 (by decide) s0_1 rfl rfl ?_
  refine a_iload (pc := 79) dX8_worst_79 rfl ?_
  have ho1 := h.1
  replace h := h.2
  refine a_iald (pc := 81) dX8_worst_81 (by decide) s0_4 ho1.1 ho1.2 ?_
  refine a_icmp_ge (tgt := 133) (pc := 82) dX8_worst_82 (by decide) (fun hc2 => ?_) (fun hc2 => ?_)
  · replace h := h.1 hc2
    have ho3 := h.1
    replace h := h.2
    refine a_iinc (ls1 := [(2, 0), (0, l1), (0, l2), (0, l3), (0, l4), (0, l5), (9, 0), (0, l7), (0, l8), (0, l9), (0, l10 + 1), (0, l11), (9, 0)]) (pc := 133) dX8_worst_133 rfl (by decide) (hp1 (t := 0) rfl (by decide)) ho3 rfl ?_
    refine a_goto (tgt := 55) (pc := 136) dX8_worst_136 (by decide) ?_
    exact a_msk [true, true, true, true, true, true, true, true, true, true, true, false, true] rfl h
  · replace h := h.2 hc2
    refine a_aload_n (pc := 85) dX8_worst_85 (by decide) rfl ?_
    refine a_getR (y := 229) (pc := 86) dX8_worst_86 fl_RX8_27 (by decide) s0_0 rfl rfl ?_
    refine a_iload_n (pc := 89) dX8_worst_89 rfl ?_
    refine a_iload_n (pc := 90) dX8_worst_90 rfl ?_
    refine a_iload_n (pc := 91) dX8_worst_91 rfl ?_
    refine a_iload (pc := 92) dX8_worst_92 rfl ?_
    refine a_iload (pc := 94) dX8_worst_94 rfl ?_
    refine a_iload (pc := 96) dX8_worst_96 rfl ?_
    refine p_callV (As := [(0, l1), (0, l2), (0, l3), (0, l4), (0, l10), (0, l11)]) (st := []) (st1 := fun r => [(0, r)])  (pc := 98) dX8_worst_98 ml_RX8_187 (by decide) s0_229 rfl (by decide) (Nat.le_of_ble_eq_true rfl) rfl (fun _ => rfl) h (fun r4 M5 h => ?_)
    refine a_iload (pc := 101) dX8_worst_101 rfl ?_
    have ho6 := h.1
    replace h := h.2
    refine a_isub (pc := 103) dX8_worst_103 ho6 ?_
    refine a_istore (ls1 := [(2, 0), (0, l1), (0, l2), (0, l3), (0, l4), (0, l5), (9, 0), (0, l7), (0, l8), (0, l9), (0, l10), (0, l11), (0, r4 - l7)]) (pc := 104) dX8_worst_104 (by decide) (hp1 (t := 0) rfl (by decide)) rfl ?_
    refine a_iload (pc := 106) dX8_worst_106 rfl ?_
    refine a_iload (pc := 108) dX8_worst_108 rfl ?_
    refine a_icmp_le (tgt := 127) (pc := 110) dX8_worst_110 (by decide) (fun hc7 => ?_) (fun hc7 => ?_)
    · replace h := h.1 hc7
      have ho8 := h.1
      replace h := h.2
      refine a_iinc (ls1 := [(2, 0), (0, l1), (0, l2), (0, l3), (0, l4), (0, l5), (9, 0), (0, l7), (0, l8), (0, l9), (0, l10), (0, l11 + 1), (0, r4 - l7)]) (pc := 127) dX8_worst_127 rfl (by decide) (hp1 (t := 0) rfl (by decide)) ho8 rfl ?_
      refine a_goto (tgt := 70) (pc := 130) dX8_worst_130 (by decide) ?_
      exact a_msk [true, true, true, true, true, true, true, true, true, true, true, true, false] rfl h
    · replace h := h.2 hc7
      refine a_iload (pc := 113) dX8_worst_113 rfl ?_
      refine a_istore (ls1 := [(2, 0), (0, l1), (0, l2), (0, l3), (0, l4), (0, l5), (9, 0), (0, l7), (0, r4 - l7), (0, l9), (0, l10), (0, l11), (0, r4 - l7)]) (pc := 115) dX8_worst_115 (by decide) (hp1 (t := 0) rfl (by decide)) rfl ?_
      refine a_bipush (pc := 117) dX8_worst_117 (by decide) (by decide +kernel) ?_
      refine a_iload (pc := 119) dX8_worst_119 rfl ?_
      have ho9 := h.1
      replace h := h.2
      refine a_imul (pc := 121) dX8_worst_121 ho9 ?_
      refine a_iload (pc := 122) dX8_worst_122 rfl ?_
      have ho10 := h.1
      replace h := h.2
      refine a_iadd (pc := 124) dX8_worst_124 ho10 ?_
      refine a_istore (ls1 := [(2, 0), (0, l1), (0, l2), (0, l3), (0, l4), (0, l5), (9, 0), (0, l7), (0, r4 - l7), (0, (10 * l10) + l11), (0, l10), (0, l11), (0, r4 - l7)]) (pc := 125) dX8_worst_125 (by decide) (hp1 (t := 0) rfl (by decide)) rfl ?_
      have ho11 := h.1
      replace h := h.2
      refine a_iinc (ls1 := [(2, 0), (0, l1), (0, l2), (0, l3), (0, l4), (0, l5), (9, 0), (0, l7), (0, r4 - l7), (0, (10 * l10) + l11), (0, l10), (0, l11 + 1), (0, r4 - l7)]) (pc := 127) dX8_worst_127 rfl (by decide) (hp1 (t := 0) rfl (by decide)) ho11 rfl ?_
      refine a_goto (tgt := 70) (pc := 130) dX8_worst_130 (by decide) ?_
      exact a_msk [true, true, true, true, true, true, true, true, true, true, true, true, false] rfl h
theorem E_C_worst {l1 l2 l3 l4 l5 : Int} {M : Mem} {Q : Int → Mem → Prop} (h : AW mX8_worst 0 [(2, 0), (0, l1), (0, l2), (0, l3), (0, l4), (0, l5), (9, 0), (9, 0), (9, 0), (9, 0), (9, 0), (9, 0), (9, 0)] M Q) : Calls mX8_worst [(2, 0), (0, l1), (0, l2), (0, l3), (0, l4), (0, l5)] S0 M Q := calls_of (by decide) (by decide) (Nat.le_of_ble_eq_true rfl) rfl h
set_option maxRecDepth 100000 in
set_option maxHeartbeats 4000000 in
theorem B_C_fare_0 {l1 l2 l3 l4 : Int} {M : Mem} {Q : Int → Mem → Prop} (h : Calls mX8_refusal [(0, l1), (0, l2), (0, l3), (0, l4)] S0 M (fun r1 M2 => ((r1 = 0 → Calls mX5_trace [(2, 246), (0, l1), (0, l2), (0, l3), (0, l4)] S0 M2 (fun r4 M5 => ((r4 = 0 → Q (-5) M5) ∧ (¬ r4 = 0 → Calls mX5_sumFares [(2, 246)] S0 M5 (fun r7 M8 => Q r7 M8))))) ∧ (¬ r1 = 0 → Q r1 M2)))) : AW mX8_fare 0 [(2, 0), (0, l1), (0, l2), (0, l3), (0, l4), (9, 0)] M Q := by
  refine a_iload_n (pc := 0) dX8_fare_0 rfl ?_
  refine a_iload_n (pc := 1) dX8_fare_1 rfl ?_
  refine a_iload_n (pc := 2) dX8_fare_2 rfl ?_
  refine a_iload (pc := 3) dX8_fare_3 rfl ?_
  refine p_callS (As := [(0, l1), (0, l2), (0, l3), (0, l4)]) (st := []) (st1 := fun r => [(0, r)])  (pc := 5) dX8_fare_5 ml_RX8_147 (by decide) (Nat.le_of_ble_eq_true rfl) rfl (fun _ => rfl) h (fun r1 M2 h => ?_)
  refine a_istore (ls1 := [(2, 0), (0, l1), (0, l2), (0, l3), (0, l4), (0, r1)]) (pc := 8) dX8_fare_8 (by decide) (hp1 (t := 0) rfl (by decide)) rfl ?_
  refine a_iload (pc := 10) dX8_fare_10 rfl ?_
  refine a_if_eq (tgt := 18) (pc := 12) dX8_fare_12 (by decide) (fun hc3 => ?_) (fun hc3 => ?_)
  · replace h := h.1 hc3
    refine a_aload_n (pc := 18) dX8_fare_18 (by decide) rfl ?_
    refine a_getR (y := 246) (pc := 19) dX8_fare_19 fl_RX8_36 (by decide) s0_0 rfl rfl ?_
    refine a_iload_n (pc := 22) dX8_fare_22 rfl ?_
    refine a_iload_n (pc := 23) dX8_fare_23 rfl ?_
    refine a_iload_n (pc := 24) dX8_fare_24 rfl ?_
    refine a_iload (pc := 25) dX8_fare_25 rfl ?_
    refine p_callV (As := [(0, l1), (0, l2), (0, l3), (0, l4)]) (st := []) (st1 := fun r => [(0, r)])  (pc := 27) dX8_fare_27 ml_RX8_163 (by decide) s0_246 rfl (by decide) (Nat.le_of_ble_eq_true rfl) rfl (fun _ => rfl) h (fun r4 M5 h => ?_)
    refine a_if_eq (tgt := 43) (pc := 30) dX8_fare_30 (by decide) (fun hc6 => ?_) (fun hc6 => ?_)
    · replace h := h.1 hc6
      refine a_bipush (pc := 43) dX8_fare_43 (by decide) (by decide +kernel) ?_
      exact a_ireti (pc := 45) dX8_fare_45 rfl rfl (Nat.le_of_ble_eq_true rfl) ⟨rfl, h⟩
    · replace h := h.2 hc6
      refine a_aload_n (pc := 33) dX8_fare_33 (by decide) rfl ?_
      refine a_getR (y := 246) (pc := 34) dX8_fare_34 fl_RX8_36 (by decide) s0_0 rfl rfl ?_
      refine p_callV (As := []) (st := []) (st1 := fun r => [(0, r)])  (pc := 37) dX8_fare_37 ml_RX8_172 (by decide) s0_246 rfl (by decide) (Nat.le_of_ble_eq_true rfl) rfl (fun _ => rfl) h (fun r7 M8 h => ?_)
      refine a_goto (tgt := 45) (pc := 40) dX8_fare_40 (by decide) ?_
      exact a_ireti (pc := 45) dX8_fare_45 rfl rfl (Nat.le_of_ble_eq_true rfl) ⟨rfl, h⟩
  · replace h := h.2 hc3
    refine a_iload (pc := 15) dX8_fare_15 rfl ?_
    exact a_ireti (pc := 17) dX8_fare_17 rfl rfl (Nat.le_of_ble_eq_true rfl) ⟨rfl, h⟩
theorem E_C_fare {l1 l2 l3 l4 : Int} {M : Mem} {Q : Int → Mem → Prop} (h : AW mX8_fare 0 [(2, 0), (0, l1), (0, l2), (0, l3), (0, l4), (9, 0)] M Q) : Calls mX8_fare [(2, 0), (0, l1), (0, l2), (0, l3), (0, l4)] S0 M Q := calls_of (by decide) (by decide) (Nat.le_of_ble_eq_true rfl) rfl h
set_option maxRecDepth 100000 in
set_option maxHeartbeats 4000000 in
theorem B_C_leg_0 {l1 l2 l3 l4 l5 l6 : Int} {M : Mem} {Q : Int → Mem → Prop} (h : ((l5 < 0 → Q (-1) M) ∧ (¬ (l5 < 0) → ((l6 < 0 → Q (-1) M) ∧ (¬ (l6 < 0) → ((l6 < 6 → Calls mX8_refusal [(0, l1), (0, l2), (0, l3), (0, l4)] S0 M (fun r4 M5 => ((r4 = 0 → Calls mX5_trace [(2, 246), (0, l1), (0, l2), (0, l3), (0, l4)] S0 M5 (fun r7 M8 => ((r7 = 0 → Q (-1) M8) ∧ (¬ r7 = 0 → ((l5 < (M8 246 3) → (-2147483648 ≤ (M8 246 3) - 1 ∧ (M8 246 3) - 1 ≤ 2147483647) ∧ (-2147483648 ≤ ((M8 246 3) - 1) - l5 ∧ ((M8 246 3) - 1) - l5 ≤ 2147483647) ∧ ((0 : Int) ≤ ((M8 246 3) - 1) - l5 ∧ ((M8 246 3) - 1) - l5 < 13) ∧ ((0 : Int) ≤ l6 ∧ l6 < 7) ∧ Q (M8 (248 + (((M8 246 3) - 1) - l5)) l6) M8) ∧ (¬ (l5 < (M8 246 3)) → Q (-1) M8)))))) ∧ (¬ r4 = 0 → Q r4 M5)))) ∧ (¬ (l6 < 6) → Q (-1) M))))))) : AW mX8_leg 0 [(2, 0), (0, l1), (0, l2), (0, l3), (0, l4), (0, l5), (0, l6), (9, 0)] M Q := by
  refine a_iload (pc := 0) dX8_leg_0 rfl ?_
  refine a_if_lt (tgt := 17) (pc := 2) dX8_leg_2 (by decide) (fun hc1 => ?_) (fun hc1 => ?_)
  · replace h := h.1 hc1
    refine a_iconst (pc := 17) dX8_leg_17 (by decide) ?_
    exact a_ireti (pc := 18) dX8_leg_18 rfl rfl (Nat.le_of_ble_eq_true rfl) ⟨rfl, h⟩
  · replace h := h.2 hc1
    refine a_iload (pc := 5) dX8_leg_5 rfl ?_
    refine a_if_lt (tgt := 17) (pc := 7) dX8_leg_7 (by decide) (fun hc2 => ?_) (fun hc2 => ?_)
    · replace h := h.1 hc2
      refine a_iconst (pc := 17) dX8_leg_17 (by decide) ?_
      exact a_ireti (pc := 18) dX8_leg_18 rfl rfl (Nat.le_of_ble_eq_true rfl) ⟨rfl, h⟩
    · replace h := h.2 hc2
      refine a_iload (pc := 10) dX8_leg_10 rfl ?_
      refine a_bipush (pc := 12) dX8_leg_12 (by decide) (by decide +kernel) ?_
      refine a_icmp_lt (tgt := 19) (pc := 14) dX8_leg_14 (by decide) (fun hc3 => ?_) (fun hc3 => ?_)
      · replace h := h.1 hc3
        refine a_iload_n (pc := 19) dX8_leg_19 rfl ?_
        refine a_iload_n (pc := 20) dX8_leg_20 rfl ?_
        refine a_iload_n (pc := 21) dX8_leg_21 rfl ?_
        refine a_iload (pc := 22) dX8_leg_22 rfl ?_
        refine p_callS (As := [(0, l1), (0, l2), (0, l3), (0, l4)]) (st := []) (st1 := fun r => [(0, r)])  (pc := 24) dX8_leg_24 ml_RX8_147 (by decide) (Nat.le_of_ble_eq_true rfl) rfl (fun _ => rfl) h (fun r4 M5 h => ?_)
        refine a_istore (ls1 := [(2, 0), (0, l1), (0, l2), (0, l3), (0, l4), (0, l5), (0, l6), (0, r4)]) (pc := 27) dX8_leg_27 (by decide) (hp1 (t := 0) rfl (by decide)) rfl ?_
        refine a_iload (pc := 29) dX8_leg_29 rfl ?_
        refine a_if_eq (tgt := 37) (pc := 31) dX8_leg_31 (by decide) (fun hc6 => ?_) (fun hc6 => ?_)
        · replace h := h.1 hc6
          refine a_aload_n (pc := 37) dX8_leg_37 (by decide) rfl ?_
          refine a_getR (y := 246) (pc := 38) dX8_leg_38 fl_RX8_36 (by decide) s0_0 rfl rfl ?_
          refine a_iload_n (pc := 41) dX8_leg_41 rfl ?_
          refine a_iload_n (pc := 42) dX8_leg_42 rfl ?_
          refine a_iload_n (pc := 43) dX8_leg_43 rfl ?_
          refine a_iload (pc := 44) dX8_leg_44 rfl ?_
          refine p_callV (As := [(0, l1), (0, l2), (0, l3), (0, l4)]) (st := []) (st1 := fun r => [(0, r)])  (pc := 46) dX8_leg_46 ml_RX8_163 (by decide) s0_246 rfl (by decide) (Nat.le_of_ble_eq_true rfl) rfl (fun _ => rfl) h (fun r7 M8 h => ?_)
          refine a_if_eq (tgt := 64) (pc := 49) dX8_leg_49 (by decide) (fun hc9 => ?_) (fun hc9 => ?_)
          · replace h := h.1 hc9
            refine a_iconst (pc := 64) dX8_leg_64 (by decide) ?_
            exact a_ireti (pc := 65) dX8_leg_65 rfl rfl (Nat.le_of_ble_eq_true rfl) ⟨rfl, h⟩
          · replace h := h.2 hc9
            refine a_iload (pc := 52) dX8_leg_52 rfl ?_
            refine a_aload_n (pc := 54) dX8_leg_54 (by decide) rfl ?_
            refine a_getR (y := 246) (pc := 55) dX8_leg_55 fl_RX8_36 (by decide) s0_0 rfl rfl ?_
            refine a_getI (y := 3) (pc := 58) dX8_leg_58 fl_RX8_166 (by decide) s0_246 (Or.inl rfl) rfl ?_
            refine a_icmp_lt (tgt := 66) (pc := 61) dX8_leg_61 (by decide) (fun hc10 => ?_) (fun hc10 => ?_)
            · replace h := h.1 hc10
              refine a_aload_n (pc := 66) dX8_leg_66 (by decide) rfl ?_
              refine a_getR (y := 246) (pc := 67) dX8_leg_67 fl_RX8_36 (by decide) s0_0 rfl rfl ?_
              refine a_iload (pc := 70) dX8_leg_70 rfl ?_
              refine a_iload (pc := 72) dX8_leg_72 rfl ?_
              refine p_inlV (Ex := _) (As := [(0, l5), (0, l6)]) (st := []) (st1 := fun r => [(0, r)])  (pc := 74) dX8_leg_74 ml_RX8_169 (by decide) s0_246 rfl (by decide) (Nat.le_of_ble_eq_true rfl) rfl (fun _ => rfl) (by decide) (by decide) (Nat.le_of_ble_eq_true rfl) rfl ?_
              refine a_aload_n (pc := 0) dX5_tell_0 (by decide) rfl ?_
              refine a_getR (y := 247) (pc := 1) dX5_tell_1 fl_RX5_21 (by decide) s0_246 rfl rfl ?_
              refine a_aload_n (pc := 4) dX5_tell_4 (by decide) rfl ?_
              refine a_getI (y := 3) (pc := 5) dX5_tell_5 fl_RX5_24 (by decide) s0_246 (Or.inl rfl) rfl ?_
              refine a_iconst (pc := 8) dX5_tell_8 (by decide) ?_
              have ho11 := h.1
              replace h := h.2
              refine a_isub (pc := 9) dX5_tell_9 ho11 ?_
              refine a_iload_n (pc := 10) dX5_tell_10 rfl ?_
              have ho12 := h.1
              replace h := h.2
              refine a_isub (pc := 11) dX5_tell_11 ho12 ?_
              have ho13 := h.1
              replace h := h.2
              have hr14 := rw_247 (((M8 246 3) - 1) - l5) ho13.1 ho13.2
              refine a_aald (y := 248 + (((M8 246 3) - 1) - l5)) (pc := 12) dX5_tell_12 (by decide) s0_247 ho13.1 ho13.2 (by omega) ?_
              refine a_iload_n (pc := 13) dX5_tell_13 rfl ?_
              have ho15 := h.1
              replace h := h.2
              refine a_iald (pc := 14) dX5_tell_14 hr14.1 hr14.2 ho15.1 ho15.2 ?_
              refine a_ireti (pc := 15) dX5_tell_15 rfl rfl (Nat.le_of_ble_eq_true rfl) ⟨rfl, ?_⟩
              exact a_ireti (pc := 77) dX8_leg_77 rfl rfl (Nat.le_of_ble_eq_true rfl) ⟨rfl, h⟩
            · replace h := h.2 hc10
              refine a_iconst (pc := 64) dX8_leg_64 (by decide) ?_
              exact a_ireti (pc := 65) dX8_leg_65 rfl rfl (Nat.le_of_ble_eq_true rfl) ⟨rfl, h⟩
        · replace h := h.2 hc6
          refine a_iload (pc := 34) dX8_leg_34 rfl ?_
          exact a_ireti (pc := 36) dX8_leg_36 rfl rfl (Nat.le_of_ble_eq_true rfl) ⟨rfl, h⟩
      · replace h := h.2 hc3
        refine a_iconst (pc := 17) dX8_leg_17 (by decide) ?_
        exact a_ireti (pc := 18) dX8_leg_18 rfl rfl (Nat.le_of_ble_eq_true rfl) ⟨rfl, h⟩
theorem E_C_leg {l1 l2 l3 l4 l5 l6 : Int} {M : Mem} {Q : Int → Mem → Prop} (h : AW mX8_leg 0 [(2, 0), (0, l1), (0, l2), (0, l3), (0, l4), (0, l5), (0, l6), (9, 0)] M Q) : Calls mX8_leg [(2, 0), (0, l1), (0, l2), (0, l3), (0, l4), (0, l5), (0, l6)] S0 M Q := calls_of (by decide) (by decide) (Nat.le_of_ble_eq_true rfl) rfl h
set_option maxRecDepth 100000 in
set_option maxHeartbeats 4000000 in
theorem B_C_legs_0 {l1 l2 l3 l4 : Int} {M : Mem} {Q : Int → Mem → Prop} (h : Calls mX8_refusal [(0, l1), (0, l2), (0, l3), (0, l4)] S0 M (fun r1 M2 => ((r1 = 0 → Calls mX5_trace [(2, 246), (0, l1), (0, l2), (0, l3), (0, l4)] S0 M2 (fun r4 M5 => ((r4 = 0 → Q (-5) M5) ∧ (¬ r4 = 0 → Q (M5 246 3) M5)))) ∧ (¬ r1 = 0 → Q r1 M2)))) : AW mX8_legs 0 [(2, 0), (0, l1), (0, l2), (0, l3), (0, l4), (9, 0)] M Q := by
  refine a_iload_n (pc := 0) dX8_legs_0 rfl ?_
  refine a_iload_n (pc := 1) dX8_legs_1 rfl ?_
  refine a_iload_n (pc := 2) dX8_legs_2 rfl ?_
  refine a_iload (pc := 3) dX8_legs_3 rfl ?_
  refine p_callS (As := [(0, l1), (0, l2), (0, l3), (0, l4)]) (st := []) (st1 := fun r => [(0, r)])  (pc := 5) dX8_legs_5 ml_RX8_147 (by decide) (Nat.le_of_ble_eq_true rfl) rfl (fun _ => rfl) h (fun r1 M2 h => ?_)
  refine a_istore (ls1 := [(2, 0), (0, l1), (0, l2), (0, l3), (0, l4), (0, r1)]) (pc := 8) dX8_legs_8 (by decide) (hp1 (t := 0) rfl (by decide)) rfl ?_
  refine a_iload (pc := 10) dX8_legs_10 rfl ?_
  refine a_if_eq (tgt := 18) (pc := 12) dX8_legs_12 (by decide) (fun hc3 => ?_) (fun hc3 => ?_)
  · replace h := h.1 hc3
    refine a_aload_n (pc := 18) dX8_legs_18 (by decide) rfl ?_
    refine a_getR (y := 246) (pc := 19) dX8_legs_19 fl_RX8_36 (by decide) s0_0 rfl rfl ?_
    refine a_iload_n (pc := 22) dX8_legs_22 rfl ?_
    refine a_iload_n (pc := 23) dX8_legs_23 rfl ?_
    refine a_iload_n (pc := 24) dX8_legs_24 rfl ?_
    refine a_iload (pc := 25) dX8_legs_25 rfl ?_
    refine p_callV (As := [(0, l1), (0, l2), (0, l3), (0, l4)]) (st := []) (st1 := fun r => [(0, r)])  (pc := 27) dX8_legs_27 ml_RX8_163 (by decide) s0_246 rfl (by decide) (Nat.le_of_ble_eq_true rfl) rfl (fun _ => rfl) h (fun r4 M5 h => ?_)
    refine a_if_eq (tgt := 43) (pc := 30) dX8_legs_30 (by decide) (fun hc6 => ?_) (fun hc6 => ?_)
    · replace h := h.1 hc6
      refine a_bipush (pc := 43) dX8_legs_43 (by decide) (by decide +kernel) ?_
      exact a_ireti (pc := 45) dX8_legs_45 rfl rfl (Nat.le_of_ble_eq_true rfl) ⟨rfl, h⟩
    · replace h := h.2 hc6
      refine a_aload_n (pc := 33) dX8_legs_33 (by decide) rfl ?_
      refine a_getR (y := 246) (pc := 34) dX8_legs_34 fl_RX8_36 (by decide) s0_0 rfl rfl ?_
      refine a_getI (y := 3) (pc := 37) dX8_legs_37 fl_RX8_166 (by decide) s0_246 (Or.inl rfl) rfl ?_
      refine a_goto (tgt := 45) (pc := 40) dX8_legs_40 (by decide) ?_
      exact a_ireti (pc := 45) dX8_legs_45 rfl rfl (Nat.le_of_ble_eq_true rfl) ⟨rfl, h⟩
  · replace h := h.2 hc3
    refine a_iload (pc := 15) dX8_legs_15 rfl ?_
    exact a_ireti (pc := 17) dX8_legs_17 rfl rfl (Nat.le_of_ble_eq_true rfl) ⟨rfl, h⟩
theorem E_C_legs {l1 l2 l3 l4 : Int} {M : Mem} {Q : Int → Mem → Prop} (h : AW mX8_legs 0 [(2, 0), (0, l1), (0, l2), (0, l3), (0, l4), (9, 0)] M Q) : Calls mX8_legs [(2, 0), (0, l1), (0, l2), (0, l3), (0, l4)] S0 M Q := calls_of (by decide) (by decide) (Nat.le_of_ble_eq_true rfl) rfl h
set_option maxRecDepth 100000 in
set_option maxHeartbeats 4000000 in
theorem B_C_spell_0 {l1 l2 l3 l4 : Int} {M : Mem} {Q : Int → Mem → Prop} (h : Calls mX8_refusal [(0, l1), (0, l2), (0, l3), (0, l4)] S0 M (fun r1 M2 => ((r1 = 0 → Calls mX5_trace [(2, 246), (0, l1), (0, l2), (0, l3), (0, l4)] S0 M2 (fun r4 M5 => ((¬ r4 = 0 → Calls mX5_spellInto [(2, 246), (2, 265)] S0 M5 (fun r7 M8 => Q (M8 265 1) M8)) ∧ (r4 = 0 → Q (-5) M5)))) ∧ (¬ r1 = 0 → Q r1 M2)))) : AW mX8_spell 0 [(2, 0), (0, l1), (0, l2), (0, l3), (0, l4), (9, 0)] M Q := by
  refine a_iload_n (pc := 0) dX8_spell_0 rfl ?_
  refine a_iload_n (pc := 1) dX8_spell_1 rfl ?_
  refine a_iload_n (pc := 2) dX8_spell_2 rfl ?_
  refine a_iload (pc := 3) dX8_spell_3 rfl ?_
  refine p_callS (As := [(0, l1), (0, l2), (0, l3), (0, l4)]) (st := []) (st1 := fun r => [(0, r)])  (pc := 5) dX8_spell_5 ml_RX8_147 (by decide) (Nat.le_of_ble_eq_true rfl) rfl (fun _ => rfl) h (fun r1 M2 h => ?_)
  refine a_istore (ls1 := [(2, 0), (0, l1), (0, l2), (0, l3), (0, l4), (0, r1)]) (pc := 8) dX8_spell_8 (by decide) (hp1 (t := 0) rfl (by decide)) rfl ?_
  refine a_iload (pc := 10) dX8_spell_10 rfl ?_
  refine a_if_eq (tgt := 18) (pc := 12) dX8_spell_12 (by decide) (fun hc3 => ?_) (fun hc3 => ?_)
  · replace h := h.1 hc3
    refine a_aload_n (pc := 18) dX8_spell_18 (by decide) rfl ?_
    refine a_getR (y := 246) (pc := 19) dX8_spell_19 fl_RX8_36 (by decide) s0_0 rfl rfl ?_
    refine a_iload_n (pc := 22) dX8_spell_22 rfl ?_
    refine a_iload_n (pc := 23) dX8_spell_23 rfl ?_
    refine a_iload_n (pc := 24) dX8_spell_24 rfl ?_
    refine a_iload (pc := 25) dX8_spell_25 rfl ?_
    refine p_callV (As := [(0, l1), (0, l2), (0, l3), (0, l4)]) (st := []) (st1 := fun r => [(0, r)])  (pc := 27) dX8_spell_27 ml_RX8_163 (by decide) s0_246 rfl (by decide) (Nat.le_of_ble_eq_true rfl) rfl (fun _ => rfl) h (fun r4 M5 h => ?_)
    refine a_if_ne (tgt := 36) (pc := 30) dX8_spell_30 (by decide) (fun hc6 => ?_) (fun hc6 => ?_)
    · replace h := h.1 hc6
      refine a_aload_n (pc := 36) dX8_spell_36 (by decide) rfl ?_
      refine a_getR (y := 246) (pc := 37) dX8_spell_37 fl_RX8_36 (by decide) s0_0 rfl rfl ?_
      refine a_aload_n (pc := 40) dX8_spell_40 (by decide) rfl ?_
      refine a_getR (y := 265) (pc := 41) dX8_spell_41 fl_RX8_56 (by decide) s0_0 rfl rfl ?_
      refine p_callV (As := [(2, 265)]) (st := []) (st1 := fun r => [])  (pc := 44) dX8_spell_44 ml_RX8_210 (by decide) s0_246 rfl (by decide) (Nat.le_of_ble_eq_true rfl) rfl (fun _ => rfl) h (fun r7 M8 h => ?_)
      refine a_aload_n (pc := 47) dX8_spell_47 (by decide) rfl ?_
      refine a_getR (y := 265) (pc := 48) dX8_spell_48 fl_RX8_56 (by decide) s0_0 rfl rfl ?_
      refine a_getI (y := 1) (pc := 51) dX8_spell_51 fl_RX8_79 (by decide) s0_265 (Or.inl rfl) rfl ?_
      exact a_ireti (pc := 54) dX8_spell_54 rfl rfl (Nat.le_of_ble_eq_true rfl) ⟨rfl, h⟩
    · replace h := h.2 hc6
      refine a_bipush (pc := 33) dX8_spell_33 (by decide) (by decide +kernel) ?_
      exact a_ireti (pc := 35) dX8_spell_35 rfl rfl (Nat.le_of_ble_eq_true rfl) ⟨rfl, h⟩
  · replace h := h.2 hc3
    refine a_iload (pc := 15) dX8_spell_15 rfl ?_
    exact a_ireti (pc := 17) dX8_spell_17 rfl rfl (Nat.le_of_ble_eq_true rfl) ⟨rfl, h⟩
theorem E_C_spell {l1 l2 l3 l4 : Int} {M : Mem} {Q : Int → Mem → Prop} (h : AW mX8_spell 0 [(2, 0), (0, l1), (0, l2), (0, l3), (0, l4), (9, 0)] M Q) : Calls mX8_spell [(2, 0), (0, l1), (0, l2), (0, l3), (0, l4)] S0 M Q := calls_of (by decide) (by decide) (Nat.le_of_ble_eq_true rfl) rfl h
set_option maxRecDepth 100000 in
set_option maxHeartbeats 4000000 in
theorem B_C_waiting_0 {l1 l2 l3 l4 : Int} {M : Mem} {Q : Int → Mem → Prop} (h : Calls mX8_refusal [(0, l1), (0, l2), (0, l3), (0, l4)] S0 M (fun r1 M2 => ((r1 = 0 → Calls mX5_trace [(2, 246), (0, l1), (0, l2), (0, l3), (0, l4)] S0 M2 (fun r4 M5 => ((¬ r4 = 0 → ((0 : Int) ≤ l4 ∧ l4 < 7) ∧ ((0 : Int) ≤ l3 ∧ l3 < 12) ∧ (-2147483648 ≤ (M5 (231 + l4) l3) - l2 ∧ (M5 (231 + l4) l3) - l2 ≤ 2147483647) ∧ Calls mX5_sumMoving [(2, 246)] S0 M5 (fun r11 M12 => (-2147483648 ≤ ((M5 (231 + l4) l3) - l2) - r11 ∧ ((M5 (231 + l4) l3) - l2) - r11 ≤ 2147483647) ∧ Q (((M5 (231 + l4) l3) - l2) - r11) M12)) ∧ (r4 = 0 → Q (-5) M5)))) ∧ (¬ r1 = 0 → Q r1 M2)))) : AW mX8_waiting 0 [(2, 0), (0, l1), (0, l2), (0, l3), (0, l4), (9, 0)] M Q := by
  refine a_iload_n (pc := 0) dX8_waiting_0 rfl ?_
  refine a_iload_n (pc := 1) dX8_waiting_1 rfl ?_
  refine a_iload_n (pc := 2) dX8_waiting_2 rfl ?_
  refine a_iload (pc := 3) dX8_waiting_3 rfl ?_
  refine p_callS (As := [(0, l1), (0, l2), (0, l3), (0, l4)]) (st := []) (st1 := fun r => [(0, r)])  (pc := 5) dX8_waiting_5 ml_RX8_147 (by decide) (Nat.le_of_ble_eq_true rfl) rfl (fun _ => rfl) h (fun r1 M2 h => ?_)
  refine a_istore (ls1 := [(2, 0), (0, l1), (0, l2), (0, l3), (0, l4), (0, r1)]) (pc := 8) dX8_waiting_8 (by decide) (hp1 (t := 0) rfl (by decide)) rfl ?_
  refine a_iload (pc := 10) dX8_waiting_10 rfl ?_
  refine a_if_eq (tgt := 18) (pc := 12) dX8_waiting_12 (by decide) (fun hc3 => ?_) (fun hc3 => ?_)
  · replace h := h.1 hc3
    refine a_aload_n (pc := 18) dX8_waiting_18 (by decide) rfl ?_
    refine a_getR (y := 246) (pc := 19) dX8_waiting_19 fl_RX8_36 (by decide) s0_0 rfl rfl ?_
    refine a_iload_n (pc := 22) dX8_waiting_22 rfl ?_
    refine a_iload_n (pc := 23) dX8_waiting_23 rfl ?_
    refine a_iload_n (pc := 24) dX8_waiting_24 rfl ?_
    refine a_iload (pc := 25) dX8_waiting_25 rfl ?_
    refine p_callV (As := [(0, l1), (0, l2), (0, l3), (0, l4)]) (st := []) (st1 := fun r => [(0, r)])  (pc := 27) dX8_waiting_27 ml_RX8_163 (by decide) s0_246 rfl (by decide) (Nat.le_of_ble_eq_true rfl) rfl (fun _ => rfl) h (fun r4 M5 h => ?_)
    refine a_if_ne (tgt := 36) (pc := 30) dX8_waiting_30 (by decide) (fun hc6 => ?_) (fun hc6 => ?_)
    · replace h := h.1 hc6
      refine a_aload_n (pc := 36) dX8_waiting_36 (by decide) rfl ?_
      refine a_getR (y := 229) (pc := 37) dX8_waiting_37 fl_RX8_27 (by decide) s0_0 rfl rfl ?_
      refine a_getR (y := 230) (pc := 40) dX8_waiting_40 fl_RX8_160 (by decide) s0_229 rfl rfl ?_
      refine a_iload (pc := 43) dX8_waiting_43 rfl ?_
      have ho7 := h.1
      replace h := h.2
      have hr8 := rw_230 l4 ho7.1 ho7.2
      refine a_aald (y := 231 + l4) (pc := 45) dX8_waiting_45 (by decide) s0_230 ho7.1 ho7.2 (by omega) ?_
      refine a_iload_n (pc := 46) dX8_waiting_46 rfl ?_
      have ho9 := h.1
      replace h := h.2
      refine a_iald (pc := 47) dX8_waiting_47 hr8.1 hr8.2 ho9.1 ho9.2 ?_
      refine a_iload_n (pc := 48) dX8_waiting_48 rfl ?_
      have ho10 := h.1
      replace h := h.2
      refine a_isub (pc := 49) dX8_waiting_49 ho10 ?_
      refine a_aload_n (pc := 50) dX8_waiting_50 (by decide) rfl ?_
      refine a_getR (y := 246) (pc := 51) dX8_waiting_51 fl_RX8_36 (by decide) s0_0 rfl rfl ?_
      refine p_callV (As := []) (st := [(0, (M5 (231 + l4) l3) - l2)]) (st1 := fun r => [(0, r), (0, (M5 (231 + l4) l3) - l2)])  (pc := 54) dX8_waiting_54 ml_RX8_175 (by decide) s0_246 rfl (by decide) (Nat.le_of_ble_eq_true rfl) rfl (fun _ => rfl) h (fun r11 M12 h => ?_)
      have ho13 := h.1
      replace h := h.2
      refine a_isub (pc := 57) dX8_waiting_57 ho13 ?_
      exact a_ireti (pc := 58) dX8_waiting_58 rfl rfl (Nat.le_of_ble_eq_true rfl) ⟨rfl, h⟩
    · replace h := h.2 hc6
      refine a_bipush (pc := 33) dX8_waiting_33 (by decide) (by decide +kernel) ?_
      exact a_ireti (pc := 35) dX8_waiting_35 rfl rfl (Nat.le_of_ble_eq_true rfl) ⟨rfl, h⟩
  · replace h := h.2 hc3
    refine a_iload (pc := 15) dX8_waiting_15 rfl ?_
    exact a_ireti (pc := 17) dX8_waiting_17 rfl rfl (Nat.le_of_ble_eq_true rfl) ⟨rfl, h⟩
theorem E_C_waiting {l1 l2 l3 l4 : Int} {M : Mem} {Q : Int → Mem → Prop} (h : AW mX8_waiting 0 [(2, 0), (0, l1), (0, l2), (0, l3), (0, l4), (9, 0)] M Q) : Calls mX8_waiting [(2, 0), (0, l1), (0, l2), (0, l3), (0, l4)] S0 M Q := calls_of (by decide) (by decide) (Nat.le_of_ble_eq_true rfl) rfl h
