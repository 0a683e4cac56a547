set_option maxRecDepth 100000 in
set_option maxHeartbeats 4000000 in
theorem B_R_missed_0 {l1 : Int} {M : Mem} {Q : Int → Mem → Prop} (h : ((l1 < 0 → Q (-1) (up2 M 275 8 0)) ∧ (¬ (l1 < 0) → ((11 < l1 → Q (-1) (up2 M 275 8 0)) ∧ (¬ (11 < l1) → AW mX9_missed 19 [(2, 275), (0, l1), (0, 100000000), (0, 0), (9, 0), (9, 0), (9, 0), (9, 0), (9, 0)] (up2 M 275 8 0) Q))))) : AW mX9_missed 0 [(2, 275), (0, l1), (9, 0), (9, 0), (9, 0), (9, 0), (9, 0), (9, 0), (9, 0)] M Q := by
  refine a_aload_n (pc := 0) dX9_missed_0 (by decide) rfl ?_
  refine a_iconst (pc := 1) dX9_missed_1 (by decide) ?_
  refine a_putI (y := 8) (pc := 2) dX9_missed_2 fl_RX9_87 (by decide) s0_275 rfl rfl (tyX9_ok 8 (by decide)) rfl ?_
  refine a_iload_n (pc := 5) dX9_missed_5 rfl ?_
  refine p_inlS (Ex := _) (As := [(0, l1)]) (st := []) (st1 := fun r => [(0, r)])  (pc := 6) dX9_missed_6 ml_RX9_260 (by decide) (Nat.le_of_ble_eq_true rfl) rfl (fun _ => rfl) (by decide) (by decide) (Nat.le_of_ble_eq_true rfl) rfl ?_
  refine a_iload_n (pc := 0) dX9_isStop_0 rfl ?_
  refine a_i2l (pc := 1) dX9_isStop_1 ?_
  refine a_lconst (v := 0) (pc := 2) dX9_isStop_2 rfl ?_
  refine a_ldc2 (v := 11) (pc := 3) dX9_isStop_3 kc_RX9_90 (by decide) ?_
  refine p_inlS (Ex := _) (As := [(1, l1), (1, 0), (1, 11)]) (st := []) (st1 := fun r => [(0, r)])  (pc := 6) dX9_isStop_6 ml_RX9_92 (by decide) (Nat.le_of_ble_eq_true rfl) rfl (fun _ => rfl) (by decide) (by decide) (Nat.le_of_ble_eq_true rfl) rfl ?_
  refine a_lload_n (pc := 0) dX9_in_0 rfl ?_
  refine a_lload_n (pc := 1) dX9_in_1 rfl ?_
  refine a_lcmp_lt (tgt := 17) (pc := 2) dX9_in_2 dX9_in_3 (by decide) (fun hc => ?_) (fun hc => ?_)
  · replace h := h.1 hc
    refine a_iconst (pc := 17) dX9_in_17 (by decide) ?_
    refine a_iretz (pc := 18) dX9_in_18 rfl rfl (Nat.le_of_ble_eq_true rfl) (by decide) ⟨rfl, ?_⟩
    refine a_iretz (pc := 9) dX9_isStop_9 rfl rfl (Nat.le_of_ble_eq_true rfl) (by decide) ⟨rfl, ?_⟩
    refine a_if_ne (tgt := 14) (pc := 9) dX9_missed_9 (by decide) (fun hc => absurd rfl hc) (fun _ => ?_)
    refine a_iconst (pc := 12) dX9_missed_12 (by decide) ?_
    exact a_ireti (pc := 13) dX9_missed_13 rfl rfl (Nat.le_of_ble_eq_true rfl) ⟨rfl, h⟩
  · replace h := h.2 hc
    refine a_lload_n (pc := 6) dX9_in_6 rfl ?_
    refine a_lload (pc := 7) dX9_in_7 rfl ?_
    refine a_lcmp_gt (tgt := 17) (pc := 9) dX9_in_9 dX9_in_10 (by decide) (fun hc => ?_) (fun hc => ?_)
    · replace h := h.1 hc
      refine a_iconst (pc := 17) dX9_in_17 (by decide) ?_
      refine a_iretz (pc := 18) dX9_in_18 rfl rfl (Nat.le_of_ble_eq_true rfl) (by decide) ⟨rfl, ?_⟩
      refine a_iretz (pc := 9) dX9_isStop_9 rfl rfl (Nat.le_of_ble_eq_true rfl) (by decide) ⟨rfl, ?_⟩
      refine a_if_ne (tgt := 14) (pc := 9) dX9_missed_9 (by decide) (fun hc => absurd rfl hc) (fun _ => ?_)
      refine a_iconst (pc := 12) dX9_missed_12 (by decide) ?_
      exact a_ireti (pc := 13) dX9_missed_13 rfl rfl (Nat.le_of_ble_eq_true rfl) ⟨rfl, h⟩
    · replace h := h.2 hc
      refine a_iconst (pc := 13) dX9_in_13 (by decide) ?_
      refine a_goto (tgt := 18) (pc := 14) dX9_in_14 (by decide) ?_
      refine a_iretz (pc := 18) dX9_in_18 rfl rfl (Nat.le_of_ble_eq_true rfl) (by decide) ⟨rfl, ?_⟩
      refine a_iretz (pc := 9) dX9_isStop_9 rfl rfl (Nat.le_of_ble_eq_true rfl) (by decide) ⟨rfl, ?_⟩
      refine a_if_ne (tgt := 14) (pc := 9) dX9_missed_9 (by decide) (fun _ => ?_) (fun hc => absurd hc (by decide))
      refine a_ldc (v := 100000000) (pc := 14) dX9_missed_14 kc_RX9_112 (by decide) ?_
      refine a_istore_n (ls1 := [(2, 275), (0, l1), (0, 100000000), (9, 0), (9, 0), (9, 0), (9, 0), (9, 0), (9, 0)]) (pc := 16) dX9_missed_16 (by decide) (hp1 (t := 0) rfl (by decide)) rfl ?_
      refine a_iconst (pc := 17) dX9_missed_17 (by decide) ?_
      refine a_istore_n (ls1 := [(2, 275), (0, l1), (0, 100000000), (0, 0), (9, 0), (9, 0), (9, 0), (9, 0), (9, 0)]) (pc := 18) dX9_missed_18 (by decide) (hp1 (t := 0) rfl (by decide)) rfl ?_
      exact h
set_option maxRecDepth 100000 in
set_option maxHeartbeats 4000000 in
theorem B_R_missed_19 {l1 l2 l3 : Int} {M : Mem} {Q : Int → Mem → Prop} (h : ((48 ≤ l3 → ((¬ l2 = 100000000 → Q l2 M) ∧ (l2 = 100000000 → Q (-5) M))) ∧ (¬ (48 ≤ l3) → AW mX9_missed 28 [(2, 275), (0, l1), (0, l2), (0, l3), (0, 0), (9, 0), (9, 0), (9, 0), (9, 0)] M Q))) : AW mX9_missed 19 [(2, 275), (0, l1), (0, l2), (0, l3), (9, 0), (9, 0), (9, 0), (9, 0), (9, 0)] M Q := by
  refine a_iload_n (pc := 19) dX9_missed_19 rfl ?_
  refine a_bipush (pc := 20) dX9_missed_20 (by decide) (by decide +kernel) ?_
  refine a_icmp_ge (tgt := 196) (pc := 22) dX9_missed_22 (by decide) (fun hc => ?_) (fun hc => ?_)
  · replace h := h.1 hc
    refine a_iload_n (pc := 196) dX9_missed_196 rfl ?_
    refine a_ldc (v := 100000000) (pc := 197) dX9_missed_197 kc_RX9_112 (by decide) ?_
    refine a_icmp_ne (tgt := 207) (pc := 199) dX9_missed_199 (by decide) (fun hc => ?_) (fun hc => ?_)
    · replace h := h.1 hc
      refine a_iload_n (pc := 207) dX9_missed_207 rfl ?_
      exact a_ireti (pc := 208) dX9_missed_208 rfl rfl (Nat.le_of_ble_eq_true rfl) ⟨rfl, h⟩
    · replace h := h.2 hc
      refine a_bipush (pc := 202) dX9_missed_202 (by decide) (by decide +kernel) ?_
      refine a_goto (tgt := 208) (pc := 204) dX9_missed_204 (by decide) ?_
      exact a_ireti (pc := 208) dX9_missed_208 rfl rfl (Nat.le_of_ble_eq_true rfl) ⟨rfl, h⟩
  · replace h := h.2 hc
    refine a_iconst (pc := 25) dX9_missed_25 (by decide) ?_
    refine a_istore (ls1 := [(2, 275), (0, l1), (0, l2), (0, l3), (0, 0), (9, 0), (9, 0), (9, 0), (9, 0)]) (pc := 26) dX9_missed_26 (by decide) (hp1 (t := 0) rfl (by decide)) rfl ?_
    exact h
set_option maxRecDepth 100000 in
set_option maxHeartbeats 4000000 in
theorem B_R_missed_28 {l1 l2 l3 l4 : Int} {M : Mem} {Q : Int → Mem → Prop} (h : ((48 ≤ l4 → (-2147483648 ≤ l3 + 1 ∧ l3 + 1 ≤ 2147483647) ∧ AW mX9_missed 19 [(2, 275), (0, l1), (0, l2), (0, l3 + 1), (9, 0), (9, 0), (9, 0), (9, 0), (9, 0)] M Q) ∧ (¬ (48 ≤ l4) → (0 ≤ l3) ∧ (0 ≤ l4) ∧ (((l3 / 6) = (l4 / 6) → (-2147483648 ≤ l4 + 1 ∧ l4 + 1 ≤ 2147483647) ∧ AW mX9_missed 28 [(2, 275), (0, l1), (0, l2), (0, l3), (0, l4 + 1), (9, 0), (9, 0), (9, 0), (9, 0)] M Q) ∧ (¬ ((l3 / 6) = (l4 / 6)) → (0 ≤ l3) ∧ (0 ≤ l3) ∧ (-2147483648 ≤ (M 275 0) - 1 ∧ (M 275 0) - 1 ≤ 2147483647) ∧ (((l3 / 6) < 0 → (-2147483648 ≤ l4 + 1 ∧ l4 + 1 ≤ 2147483647) ∧ AW mX9_missed 28 [(2, 275), (0, l1), (0, l2), (0, l3), (0, l4 + 1), (9, 0), (9, 0), (9, 0), (9, 0)] M Q) ∧ (¬ ((l3 / 6) < 0) → ((((M 275 0) - 1) < (l3 / 6) → (-2147483648 ≤ l4 + 1 ∧ l4 + 1 ≤ 2147483647) ∧ AW mX9_missed 28 [(2, 275), (0, l1), (0, l2), (0, l3), (0, l4 + 1), (9, 0), (9, 0), (9, 0), (9, 0)] M Q) ∧ (¬ (((M 275 0) - 1) < (l3 / 6)) → (0 ≤ l3 / 6 ∧ l3 / 6 < 8) ∧ (-2147483648 ≤ (M 279 (l3 / 6)) - 1 ∧ (M 279 (l3 / 6)) - 1 ≤ 2147483647) ∧ (((l3 % 6) < 0 → (-2147483648 ≤ l4 + 1 ∧ l4 + 1 ≤ 2147483647) ∧ AW mX9_missed 28 [(2, 275), (0, l1), (0, l2), (0, l3), (0, l4 + 1), (9, 0), (9, 0), (9, 0), (9, 0)] M Q) ∧ (¬ ((l3 % 6) < 0) → ((((M 279 (l3 / 6)) - 1) < (l3 % 6) → (-2147483648 ≤ l4 + 1 ∧ l4 + 1 ≤ 2147483647) ∧ AW mX9_missed 28 [(2, 275), (0, l1), (0, l2), (0, l3), (0, l4 + 1), (9, 0), (9, 0), (9, 0), (9, 0)] M Q) ∧ (¬ (((M 279 (l3 / 6)) - 1) < (l3 % 6)) → (0 ≤ l4) ∧ (0 ≤ l4) ∧ (-2147483648 ≤ (M 275 0) - 1 ∧ (M 275 0) - 1 ≤ 2147483647) ∧ (((l4 / 6) < 0 → (-2147483648 ≤ l4 + 1 ∧ l4 + 1 ≤ 2147483647) ∧ AW mX9_missed 28 [(2, 275), (0, l1), (0, l2), (0, l3), (0, l4 + 1), (9, 0), (9, 0), (9, 0), (9, 0)] M Q) ∧ (¬ ((l4 / 6) < 0) → ((((M 275 0) - 1) < (l4 / 6) → (-2147483648 ≤ l4 + 1 ∧ l4 + 1 ≤ 2147483647) ∧ AW mX9_missed 28 [(2, 275), (0, l1), (0, l2), (0, l3), (0, l4 + 1), (9, 0), (9, 0), (9, 0), (9, 0)] M Q) ∧ (¬ (((M 275 0) - 1) < (l4 / 6)) → (0 ≤ l4 / 6 ∧ l4 / 6 < 8) ∧ (-2147483648 ≤ (M 279 (l4 / 6)) - 1 ∧ (M 279 (l4 / 6)) - 1 ≤ 2147483647) ∧ (((l4 % 6) < 0 → (-2147483648 ≤ l4 + 1 ∧ l4 + 1 ≤ 2147483647) ∧ AW mX9_missed 28 [(2, 275), (0, l1), (0, l2), (0, l3), (0, l4 + 1), (9, 0), (9, 0), (9, 0), (9, 0)] M Q) ∧ (¬ ((l4 % 6) < 0) → ((((M 279 (l4 / 6)) - 1) < (l4 % 6) → (-2147483648 ≤ l4 + 1 ∧ l4 + 1 ≤ 2147483647) ∧ AW mX9_missed 28 [(2, 275), (0, l1), (0, l2), (0, l3), (0, l4 + 1), (9, 0), (9, 0), (9, 0), (9, 0)] M Q) ∧ (¬ (((M 279 (l4 / 6)) - 1) < (l4 % 6)) → (0 ≤ l3) ∧ (0 ≤ l3) ∧ Calls mX9_arrivalAt [(2, 275), (0, l3 / 6), (0, l3 % 6), (0, l1)] S0 M (fun r25 M26 => (0 ≤ l4) ∧ (0 ≤ l4) ∧ Calls mX9_departureAt [(2, 275), (0, l4 / 6), (0, l4 % 6), (0, l1)] S0 M26 (fun r29 M30 => ((r25 < 0 → (-2147483648 ≤ l4 + 1 ∧ l4 + 1 ≤ 2147483647) ∧ AW mX9_missed 28 [(2, 275), (0, l1), (0, l2), (0, l3), (0, l4 + 1), (9, 0), (9, 0), (9, 0), (9, 0)] M30 Q) ∧ (¬ (r25 < 0) → ((r29 < 0 → (-2147483648 ≤ l4 + 1 ∧ l4 + 1 ≤ 2147483647) ∧ AW mX9_missed 28 [(2, 275), (0, l1), (0, l2), (0, l3), (0, l4 + 1), (9, 0), (9, 0), (9, 0), (9, 0)] M30 Q) ∧ (¬ (r29 < 0) → ((r25 ≤ r29 → (-2147483648 ≤ l4 + 1 ∧ l4 + 1 ≤ 2147483647) ∧ AW mX9_missed 28 [(2, 275), (0, l1), (0, l2), (0, l3), (0, l4 + 1), (9, 0), (9, 0), (9, 0), (9, 0)] M30 Q) ∧ (¬ (r25 ≤ r29) → (-2147483648 ≤ r25 - r29 ∧ r25 - r29 ≤ 2147483647) ∧ ((l2 ≤ (r25 - r29) → (-2147483648 ≤ l4 + 1 ∧ l4 + 1 ≤ 2147483647) ∧ AW mX9_missed 28 [(2, 275), (0, l1), (0, l2), (0, l3), (0, l4 + 1), (9, 0), (9, 0), (9, 0), (9, 0)] M30 Q) ∧ (¬ (l2 ≤ (r25 - r29)) → (-2147483648 ≤ r25 - r29 ∧ r25 - r29 ≤ 2147483647) ∧ (-2147483648 ≤ l4 + 1 ∧ l4 + 1 ≤ 2147483647) ∧ AW mX9_missed 28 [(2, 275), (0, l1), (0, r25 - r29), (0, l3), (0, l4 + 1), (9, 0), (9, 0), (9, 0), (9, 0)] M30 Q))))))))))))))))))))))))))))))) : AW mX9_missed 28 [(2, 275), (0, l1), (0, l2), (0, l3), (0, l4), (9, 0), (9, 0), (9, 0), (9, 0)] M Q := by
  refine a_iload (pc := 28) dX9_missed_28 rfl ?_
  refine a_bipush (pc := 30) dX9_missed_30 (by decide) (by decide +kernel) ?_
  refine a_icmp_ge (tgt := 190) (pc := 32) dX9_missed_32 (by decide) (fun hc => ?_) (fun hc => ?_)
  · replace h := h.1 hc
    have ho1 := h.1
    replace h := h.2
    refine a_iinc (ls1 := [(2, 275), (0, l1), (0, l2), (0, l3 + 1), (0, l4), (9, 0), (9, 0), (9, 0), (9, 0)]) (pc := 190) dX9_missed_190 rfl (by decide) (hp1 (t := 0) rfl (by decide)) ho1 rfl ?_
    refine a_goto (tgt := 19) (pc := 193) dX9_missed_193 (by decide) ?_
    exact a_msk [true, true, true, true, false, true, true, true, true] rfl h
  · replace h := h.2 hc
    refine a_iload_n (pc := 35) dX9_missed_35 rfl ?_
    refine a_bipush (pc := 36) dX9_missed_36 (by decide) (by decide +kernel) ?_
    have ho2 := h.1
    replace h := h.2
    refine a_idiv (pc := 38) dX9_missed_38 ho2 (by decide) ?_
    refine a_iload (pc := 39) dX9_missed_39 rfl ?_
    refine a_bipush (pc := 41) dX9_missed_41 (by decide) (by decide +kernel) ?_
    have ho3 := h.1
    replace h := h.2
    refine a_idiv (pc := 43) dX9_missed_43 ho3 (by decide) ?_
    refine a_icmp_eq (tgt := 83) (pc := 44) dX9_missed_44 (by decide) (fun hc => ?_) (fun hc => ?_)
    · replace h := h.1 hc
      refine a_iconst (pc := 83) dX9_missed_83 (by decide) ?_
      refine a_istore (ls1 := [(2, 275), (0, l1), (0, l2), (0, l3), (0, l4), (0, 0), (9, 0), (9, 0), (9, 0)]) (pc := 84) dX9_missed_84 (by decide) (hp1 (t := 0) rfl (by decide)) rfl ?_
      refine a_iload (pc := 86) dX9_missed_86 rfl ?_
      refine a_if_eq (tgt := 107) (pc := 88) dX9_missed_88 (by decide) (fun _ => ?_) (fun hc => absurd (by decide) hc)
      refine a_iconst (pc := 107) dX9_missed_107 (by decide) ?_
      refine a_istore (ls1 := [(2, 275), (0, l1), (0, l2), (0, l3), (0, l4), (0, 0), (0, (-1)), (9, 0), (9, 0)]) (pc := 108) dX9_missed_108 (by decide) (hp1 (t := 0) rfl (by decide)) rfl ?_
      refine a_iload (pc := 110) dX9_missed_110 rfl ?_
      refine a_if_eq (tgt := 133) (pc := 112) dX9_missed_112 (by decide) (fun _ => ?_) (fun hc => absurd (by decide) hc)
      refine a_iconst (pc := 133) dX9_missed_133 (by decide) ?_
      refine a_istore (ls1 := [(2, 275), (0, l1), (0, l2), (0, l3), (0, l4), (0, 0), (0, (-1)), (0, (-1)), (9, 0)]) (pc := 134) dX9_missed_134 (by decide) (hp1 (t := 0) rfl (by decide)) rfl ?_
      refine a_iload (pc := 136) dX9_missed_136 rfl ?_
      refine a_if_lt (tgt := 157) (pc := 138) dX9_missed_138 (by decide) (fun _ => ?_) (fun hc => absurd (by decide) hc)
      refine a_iconst (pc := 157) dX9_missed_157 (by decide) ?_
      refine a_istore (ls1 := [(2, 275), (0, l1), (0, l2), (0, l3), (0, l4), (0, 0), (0, (-1)), (0, (-1)), (0, 0)]) (pc := 158) dX9_missed_158 (by decide) (hp1 (t := 0) rfl (by decide)) rfl ?_
      refine a_iload (pc := 160) dX9_missed_160 rfl ?_
      refine a_if_eq (tgt := 182) (pc := 162) dX9_missed_162 (by decide) (fun _ => ?_) (fun hc => absurd (by decide) hc)
      refine a_iload_n (pc := 182) dX9_missed_182 rfl ?_
      refine a_istore_n (ls1 := [(2, 275), (0, l1), (0, l2), (0, l3), (0, l4), (0, 0), (0, (-1)), (0, (-1)), (0, 0)]) (pc := 183) dX9_missed_183 (by decide) (hp1 (t := 0) rfl (by decide)) rfl ?_
      have ho4 := h.1
      replace h := h.2
      refine a_iinc (ls1 := [(2, 275), (0, l1), (0, l2), (0, l3), (0, l4 + 1), (0, 0), (0, (-1)), (0, (-1)), (0, 0)]) (pc := 184) dX9_missed_184 rfl (by decide) (hp1 (t := 0) rfl (by decide)) ho4 rfl ?_
      refine a_goto (tgt := 28) (pc := 187) dX9_missed_187 (by decide) ?_
      exact a_msk [true, true, true, true, true, false, false, false, false] rfl h
    · replace h := h.2 hc
      refine a_aload_n (pc := 47) dX9_missed_47 (by decide) rfl ?_
      refine a_iload_n (pc := 48) dX9_missed_48 rfl ?_
      refine a_bipush (pc := 49) dX9_missed_49 (by decide) (by decide +kernel) ?_
      have ho5 := h.1
      replace h := h.2
      refine a_idiv (pc := 51) dX9_missed_51 ho5 (by decide) ?_
      refine a_iload_n (pc := 52) dX9_missed_52 rfl ?_
      refine a_bipush (pc := 53) dX9_missed_53 (by decide) (by decide +kernel) ?_
      have ho6 := h.1
      replace h := h.2
      refine a_irem (pc := 55) dX9_missed_55 ho6 (by decide) ?_
      refine p_inlV (Ex := _) (As := [(0, l3 / 6), (0, l3 % 6)]) (st := []) (st1 := fun r => [(0, r)])  (pc := 56) dX9_missed_56 ml_RX9_257 (by decide) s0_275 rfl (by decide) (Nat.le_of_ble_eq_true rfl) rfl (fun _ => rfl) (by decide) (by decide) (Nat.le_of_ble_eq_true rfl) rfl ?_
      refine a_aload_n (pc := 0) dX9_isTrip_0 (by decide) rfl ?_
      refine a_iload_n (pc := 1) dX9_isTrip_1 rfl ?_
      refine p_inlV (Ex := _) (As := [(0, l3 / 6)]) (st := []) (st1 := fun r => [(0, r)])  (pc := 2) dX9_isTrip_2 ml_RX9_101 (by decide) s0_275 rfl (by decide) (Nat.le_of_ble_eq_true rfl) rfl (fun _ => rfl) (by decide) (by decide) (Nat.le_of_ble_eq_true rfl) rfl ?_
      refine a_iload_n (pc := 0) dX9_isLine_0 rfl ?_
      refine a_i2l (pc := 1) dX9_isLine_1 ?_
      refine a_lconst (v := 0) (pc := 2) dX9_isLine_2 rfl ?_
      refine a_aload_n (pc := 3) dX9_isLine_3 (by decide) rfl ?_
      refine a_getI (y := 0) (pc := 4) dX9_isLine_4 fl_RX9_98 (by decide) s0_275 (Or.inl rfl) rfl ?_
      refine a_iconst (pc := 7) dX9_isLine_7 (by decide) ?_
      have ho7 := h.1
      replace h := h.2
      refine a_isub (pc := 8) dX9_isLine_8 ho7 ?_
      refine a_i2l (pc := 9) dX9_isLine_9 ?_
      refine p_inlS (Ex := _) (As := [(1, l3 / 6), (1, 0), (1, (M 275 0) - 1)]) (st := []) (st1 := fun r => [(0, r)])  (pc := 10) dX9_isLine_10 ml_RX9_92 (by decide) (Nat.le_of_ble_eq_true rfl) rfl (fun _ => rfl) (by decide) (by decide) (Nat.le_of_ble_eq_true rfl) rfl ?_
      refine a_lload_n (pc := 0) dX9_in_0 rfl ?_
      refine a_lload_n (pc := 1) dX9_in_1 rfl ?_
      refine a_lcmp_lt (tgt := 17) (pc := 2) dX9_in_2 dX9_in_3 (by decide) (fun hc => ?_) (fun hc => ?_)
      · replace h := h.1 hc
        refine a_iconst (pc := 17) dX9_in_17 (by decide) ?_
        refine a_iretz (pc := 18) dX9_in_18 rfl rfl (Nat.le_of_ble_eq_true rfl) (by decide) ⟨rfl, ?_⟩
        refine a_iretz (pc := 13) dX9_isLine_13 rfl rfl (Nat.le_of_ble_eq_true rfl) (by decide) ⟨rfl, ?_⟩
        refine a_if_eq (tgt := 30) (pc := 5) dX9_isTrip_5 (by decide) (fun _ => ?_) (fun hc => absurd (by decide) hc)
        refine a_iconst (pc := 30) dX9_isTrip_30 (by decide) ?_
        refine a_iretz (pc := 31) dX9_isTrip_31 rfl rfl (Nat.le_of_ble_eq_true rfl) (by decide) ⟨rfl, ?_⟩
        refine a_if_eq (tgt := 83) (pc := 59) dX9_missed_59 (by decide) (fun _ => ?_) (fun hc => absurd (by decide) hc)
        refine a_iconst (pc := 83) dX9_missed_83 (by decide) ?_
        refine a_istore (ls1 := [(2, 275), (0, l1), (0, l2), (0, l3), (0, l4), (0, 0), (9, 0), (9, 0), (9, 0)]) (pc := 84) dX9_missed_84 (by decide) (hp1 (t := 0) rfl (by decide)) rfl ?_
        refine a_iload (pc := 86) dX9_missed_86 rfl ?_
        refine a_if_eq (tgt := 107) (pc := 88) dX9_missed_88 (by decide) (fun _ => ?_) (fun hc => absurd (by decide) hc)
        refine a_iconst (pc := 107) dX9_missed_107 (by decide) ?_
        refine a_istore (ls1 := [(2, 275), (0, l1), (0, l2), (0, l3), (0, l4), (0, 0), (0, (-1)), (9, 0), (9, 0)]) (pc := 108) dX9_missed_108 (by decide) (hp1 (t := 0) rfl (by decide)) rfl ?_
        refine a_iload (pc := 110) dX9_missed_110 rfl ?_
        refine a_if_eq (tgt := 133) (pc := 112) dX9_missed_112 (by decide) (fun _ => ?_) (fun hc => absurd (by decide) hc)
        refine a_iconst (pc := 133) dX9_missed_133 (by decide) ?_
        refine a_istore (ls1 := [(2, 275), (0, l1), (0, l2), (0, l3), (0, l4), (0, 0), (0, (-1)), (0, (-1)), (9, 0)]) (pc := 134) dX9_missed_134 (by decide) (hp1 (t := 0) rfl (by decide)) rfl ?_
        refine a_iload (pc := 136) dX9_missed_136 rfl ?_
        refine a_if_lt (tgt := 157) (pc := 138) dX9_missed_138 (by decide) (fun _ => ?_) (fun hc => absurd (by decide) hc)
        refine a_iconst (pc := 157) dX9_missed_157 (by decide) ?_
        refine a_istore (ls1 := [(2, 275), (0, l1), (0, l2), (0, l3), (0, l4), (0, 0), (0, (-1)), (0, (-1)), (0, 0)]) (pc := 158) dX9_missed_158 (by decide) (hp1 (t := 0) rfl (by decide)) rfl ?_
        refine a_iload (pc := 160) dX9_missed_160 rfl ?_
        refine a_if_eq (tgt := 182) (pc := 162) dX9_missed_162 (by decide) (fun _ => ?_) (fun hc => absurd (by decide) hc)
        refine a_iload_n (pc := 182) dX9_missed_182 rfl ?_
        refine a_istore_n (ls1 := [(2, 275), (0, l1), (0, l2), (0, l3), (0, l4), (0, 0), (0, (-1)), (0, (-1)), (0, 0)]) (pc := 183) dX9_missed_183 (by decide) (hp1 (t := 0) rfl (by decide)) rfl ?_
        have ho8 := h.1
        replace h := h.2
        refine a_iinc (ls1 := [(2, 275), (0, l1), (0, l2), (0, l3), (0, l4 + 1), (0, 0), (0, (-1)), (0, (-1)), (0, 0)]) (pc := 184) dX9_missed_184 rfl (by decide) (hp1 (t := 0) rfl (by decide)) ho8 rfl ?_
        refine a_goto (tgt := 28) (pc := 187) dX9_missed_187 (by decide) ?_
        exact a_msk [true, true, true, true, true, false, false, false, false] rfl h
      · replace h := h.2 hc
        refine a_lload_n (pc := 6) dX9_in_6 rfl ?_
        refine a_lload (pc := 7) dX9_in_7 rfl ?_
        refine a_lcmp_gt (tgt := 17) (pc := 9) dX9_in_9 dX9_in_10 (by decide) (fun hc => ?_) (fun hc => ?_)
        · replace h := h.1 hc
          refine a_iconst (pc := 17) dX9_in_17 (by decide) ?_
          refine a_iretz (pc := 18) dX9_in_18 rfl rfl (Nat.le_of_ble_eq_true rfl) (by decide) ⟨rfl, ?_⟩
          refine a_iretz (pc := 13) dX9_isLine_13 rfl rfl (Nat.le_of_ble_eq_true rfl) (by decide) ⟨rfl, ?_⟩
          refine a_if_eq (tgt := 30) (pc := 5) dX9_isTrip_5 (by decide) (fun _ => ?_) (fun hc => absurd (by decide) hc)
          refine a_iconst (pc := 30) dX9_isTrip_30 (by decide) ?_
          refine a_iretz (pc := 31) dX9_isTrip_31 rfl rfl (Nat.le_of_ble_eq_true rfl) (by decide) ⟨rfl, ?_⟩
          refine a_if_eq (tgt := 83) (pc := 59) dX9_missed_59 (by decide) (fun _ => ?_) (fun hc => absurd (by decide) hc)
          refine a_iconst (pc := 83) dX9_missed_83 (by decide) ?_
          refine a_istore (ls1 := [(2, 275), (0, l1), (0, l2), (0, l3), (0, l4), (0, 0), (9, 0), (9, 0), (9, 0)]) (pc := 84) dX9_missed_84 (by decide) (hp1 (t := 0) rfl (by decide)) rfl ?_
          refine a_iload (pc := 86) dX9_missed_86 rfl ?_
          refine a_if_eq (tgt := 107) (pc := 88) dX9_missed_88 (by decide) (fun _ => ?_) (fun hc => absurd (by decide) hc)
          refine a_iconst (pc := 107) dX9_missed_107 (by decide) ?_
          refine a_istore (ls1 := [(2, 275), (0, l1), (0, l2), (0, l3), (0, l4), (0, 0), (0, (-1)), (9, 0), (9, 0)]) (pc := 108) dX9_missed_108 (by decide) (hp1 (t := 0) rfl (by decide)) rfl ?_
          refine a_iload (pc := 110) dX9_missed_110 rfl ?_
          refine a_if_eq (tgt := 133) (pc := 112) dX9_missed_112 (by decide) (fun _ => ?_) (fun hc => absurd (by decide) hc)
          refine a_iconst (pc := 133) dX9_missed_133 (by decide) ?_
          refine a_istore (ls1 := [(2, 275), (0, l1), (0, l2), (0, l3), (0, l4), (0, 0), (0, (-1)), (0, (-1)), (9, 0)]) (pc := 134) dX9_missed_134 (by decide) (hp1 (t := 0) rfl (by decide)) rfl ?_
          refine a_iload (pc := 136) dX9_missed_136 rfl ?_
          refine a_if_lt (tgt := 157) (pc := 138) dX9_missed_138 (by decide) (fun _ => ?_) (fun hc => absurd (by decide) hc)
          refine a_iconst (pc := 157) dX9_missed_157 (by decide) ?_
          refine a_istore (ls1 := [(2, 275), (0, l1), (0, l2), (0, l3), (0, l4), (0, 0), (0, (-1)), (0, (-1)), (0, 0)]) (pc := 158) dX9_missed_158 (by decide) (hp1 (t := 0) rfl (by decide)) rfl ?_
          refine a_iload (pc := 160) dX9_missed_160 rfl ?_
          refine a_if_eq (tgt := 182) (pc := 162) dX9_missed_162 (by decide) (fun _ => ?_) (fun hc => absurd (by decide) hc)
          refine a_iload_n (pc := 182) dX9_missed_182 rfl ?_
          refine a_istore_n (ls1 := [(2, 275), (0, l1), (0, l2), (0, l3), (0, l4), (0, 0), (0, (-1)), (0, (-1)), (0, 0)]) (pc := 183) dX9_missed_183 (by decide) (hp1 (t := 0) rfl (by decide)) rfl ?_
          have ho9 := h.1
          replace h := h.2
          refine a_iinc (ls1 := [(2, 275), (0, l1), (0, l2), (0, l3), (0, l4 + 1), (0, 0), (0, (-1)), (0, (-1)), (0, 0)]) (pc := 184) dX9_missed_184 rfl (by decide) (hp1 (t := 0) rfl (by decide)) ho9 rfl ?_
          refine a_goto (tgt := 28) (pc := 187) dX9_missed_187 (by decide) ?_
          exact a_msk [true, true, true, true, true, false, false, false, false] rfl h
        · replace h := h.2 hc
          refine a_iconst (pc := 13) dX9_in_13 (by decide) ?_
          refine a_goto (tgt := 18) (pc := 14) dX9_in_14 (by decide) ?_
          refine a_iretz (pc := 18) dX9_in_18 rfl rfl (Nat.le_of_ble_eq_true rfl) (by decide) ⟨rfl, ?_⟩
          refine a_iretz (pc := 13) dX9_isLine_13 rfl rfl (Nat.le_of_ble_eq_true rfl) (by decide) ⟨rfl, ?_⟩
          refine a_if_eq (tgt := 30) (pc := 5) dX9_isTrip_5 (by decide) (fun hc => absurd hc (by decide)) (fun _ => ?_)
          refine a_iload_n (pc := 8) dX9_isTrip_8 rfl ?_
          refine a_i2l (pc := 9) dX9_isTrip_9 ?_
          refine a_lconst (v := 0) (pc := 10) dX9_isTrip_10 rfl ?_
          refine a_aload_n (pc := 11) dX9_isTrip_11 (by decide) rfl ?_
          refine a_getR (y := 279) (pc := 12) dX9_isTrip_12 fl_RX9_19 (by decide) s0_275 rfl rfl ?_
          refine a_iload_n (pc := 15) dX9_isTrip_15 rfl ?_
          have ho10 := h.1
          replace h := h.2
          refine a_iald (pc := 16) dX9_isTrip_16 (by decide) s0_279 ho10.1 ho10.2 ?_
          refine a_iconst (pc := 17) dX9_isTrip_17 (by decide) ?_
          have ho11 := h.1
          replace h := h.2
          refine a_isub (pc := 18) dX9_isTrip_18 ho11 ?_
          refine a_i2l (pc := 19) dX9_isTrip_19 ?_
          refine p_inlS (Ex := _) (As := [(1, l3 % 6), (1, 0), (1, (M 279 (l3 / 6)) - 1)]) (st := []) (st1 := fun r => [(0, r)])  (pc := 20) dX9_isTrip_20 ml_RX9_92 (by decide) (Nat.le_of_ble_eq_true rfl) rfl (fun _ => rfl) (by decide) (by decide) (Nat.le_of_ble_eq_true rfl) rfl ?_
          refine a_lload_n (pc := 0) dX9_in_0 rfl ?_
          refine a_lload_n (pc := 1) dX9_in_1 rfl ?_
          refine a_lcmp_lt (tgt := 17) (pc := 2) dX9_in_2 dX9_in_3 (by decide) (fun hc => ?_) (fun hc => ?_)
          · replace h := h.1 hc
            refine a_iconst (pc := 17) dX9_in_17 (by decide) ?_
            refine a_iretz (pc := 18) dX9_in_18 rfl rfl (Nat.le_of_ble_eq_true rfl) (by decide) ⟨rfl, ?_⟩
            refine a_if_eq (tgt := 30) (pc := 23) dX9_isTrip_23 (by decide) (fun _ => ?_) (fun hc => absurd (by decide) hc)
            refine a_iconst (pc := 30) dX9_isTrip_30 (by decide) ?_
            refine a_iretz (pc := 31) dX9_isTrip_31 rfl rfl (Nat.le_of_ble_eq_true rfl) (by decide) ⟨rfl, ?_⟩
            refine a_if_eq (tgt := 83) (pc := 59) dX9_missed_59 (by decide) (fun _ => ?_) (fun hc => absurd (by decide) hc)
            refine a_iconst (pc := 83) dX9_missed_83 (by decide) ?_
            refine a_istore (ls1 := [(2, 275), (0, l1), (0, l2), (0, l3), (0, l4), (0, 0), (9, 0), (9, 0), (9, 0)]) (pc := 84) dX9_missed_84 (by decide) (hp1 (t := 0) rfl (by decide)) rfl ?_
            refine a_iload (pc := 86) dX9_missed_86 rfl ?_
            refine a_if_eq (tgt := 107) (pc := 88) dX9_missed_88 (by decide) (fun _ => ?_) (fun hc => absurd (by decide) hc)
            refine a_iconst (pc := 107) dX9_missed_107 (by decide) ?_
            refine a_istore (ls1 := [(2, 275), (0, l1), (0, l2), (0, l3), (0, l4), (0, 0), (0, (-1)), (9, 0), (9, 0)]) (pc := 108) dX9_missed_108 (by decide) (hp1 (t := 0) rfl (by decide)) rfl ?_
            refine a_iload (pc := 110) dX9_missed_110 rfl ?_
            refine a_if_eq (tgt := 133) (pc := 112) dX9_missed_112 (by decide) (fun _ => ?_) (fun hc => absurd (by decide) hc)
            refine a_iconst (pc := 133) dX9_missed_133 (by decide) ?_
            refine a_istore (ls1 := [(2, 275), (0, l1), (0, l2), (0, l3), (0, l4), (0, 0), (0, (-1)), (0, (-1)), (9, 0)]) (pc := 134) dX9_missed_134 (by decide) (hp1 (t := 0) rfl (by decide)) rfl ?_
            refine a_iload (pc := 136) dX9_missed_136 rfl ?_
            refine a_if_lt (tgt := 157) (pc := 138) dX9_missed_138 (by decide) (fun _ => ?_) (fun hc => absurd (by decide) hc)
            refine a_iconst (pc := 157) dX9_missed_157 (by decide) ?_
            refine a_istore (ls1 := [(2, 275), (0, l1), (0, l2), (0, l3), (0, l4), (0, 0), (0, (-1)), (0, (-1)), (0, 0)]) (pc := 158) dX9_missed_158 (by decide) (hp1 (t := 0) rfl (by decide)) rfl ?_
            refine a_iload (pc := 160) dX9_missed_160 rfl ?_
            refine a_if_eq (tgt := 182) (pc := 162) dX9_missed_162 (by decide) (fun _ => ?_) (fun hc => absurd (by decide) hc)
            refine a_iload_n (pc := 182) dX9_missed_182 rfl ?_
            refine a_istore_n (ls1 := [(2, 275), (0, l1), (0, l2), (0, l3), (0, l4), (0, 0), (0, (-1)), (0, (-1)), (0, 0)]) (pc := 183) dX9_missed_183 (by decide) (hp1 (t := 0) rfl (by decide)) rfl ?_
            have ho12 := h.1
            replace h := h.2
            refine a_iinc (ls1 := [(2, 275), (0, l1), (0, l2), (0, l3), (0, l4 + 1), (0, 0), (0, (-1)), (0, (-1)), (0, 0)]) (pc := 184) dX9_missed_184 rfl (by decide) (hp1 (t := 0) rfl (by decide)) ho12 rfl ?_
            refine a_goto (tgt := 28) (pc := 187) dX9_missed_187 (by decide) ?_
            exact a_msk [true, true, true, true, true, false, false, false, false] rfl h
          · replace h := h.2 hc
            refine a_lload_n (pc := 6) dX9_in_6 rfl ?_
            refine a_lload (pc := 7) dX9_in_7 rfl ?_
            refine a_lcmp_gt (tgt := 17) (pc := 9) dX9_in_9 dX9_in_10 (by decide) (fun hc => ?_) (fun hc => ?_)
            · replace h := h.1 hc
              refine a_iconst (pc := 17) dX9_in_17 (by decide) ?_
              refine a_iretz (pc := 18) dX9_in_18 rfl rfl (Nat.le_of_ble_eq_true rfl) (by decide) ⟨rfl, ?_⟩
              refine a_if_eq (tgt := 30) (pc := 23) dX9_isTrip_23 (by decide) (fun _ => ?_) (fun hc => absurd (by decide) hc)
              refine a_iconst (pc := 30) dX9_isTrip_30 (by decide) ?_
              refine a_iretz (pc := 31) dX9_isTrip_31 rfl rfl (Nat.le_of_ble_eq_true rfl) (by decide) ⟨rfl, ?_⟩
              refine a_if_eq (tgt := 83) (pc := 59) dX9_missed_59 (by decide) (fun _ => ?_) (fun hc => absurd (by decide) hc)
              refine a_iconst (pc := 83) dX9_missed_83 (by decide) ?_
              refine a_istore (ls1 := [(2, 275), (0, l1), (0, l2), (0, l3), (0, l4), (0, 0), (9, 0), (9, 0), (9, 0)]) (pc := 84) dX9_missed_84 (by decide) (hp1 (t := 0) rfl (by decide)) rfl ?_
              refine a_iload (pc := 86) dX9_missed_86 rfl ?_
              refine a_if_eq (tgt := 107) (pc := 88) dX9_missed_88 (by decide) (fun _ => ?_) (fun hc => absurd (by decide) hc)
              refine a_iconst (pc := 107) dX9_missed_107 (by decide) ?_
              refine a_istore (ls1 := [(2, 275), (0, l1), (0, l2), (0, l3), (0, l4), (0, 0), (0, (-1)), (9, 0), (9, 0)]) (pc := 108) dX9_missed_108 (by decide) (hp1 (t := 0) rfl (by decide)) rfl ?_
              refine a_iload (pc := 110) dX9_missed_110 rfl ?_
              refine a_if_eq (tgt := 133) (pc := 112) dX9_missed_112 (by decide) (fun _ => ?_) (fun hc => absurd (by decide) hc)
              refine a_iconst (pc := 133) dX9_missed_133 (by decide) ?_
              refine a_istore (ls1 := [(2, 275), (0, l1), (0, l2), (0, l3), (0, l4), (0, 0), (0, (-1)), (0, (-1)), (9, 0)]) (pc := 134) dX9_missed_134 (by decide) (hp1 (t := 0) rfl (by decide)) rfl ?_
              refine a_iload (pc := 136) dX9_missed_136 rfl ?_
              refine a_if_lt (tgt := 157) (pc := 138) dX9_missed_138 (by decide) (fun _ => ?_) (fun hc => absurd (by decide) hc)
              refine a_iconst (pc := 157) dX9_missed_157 (by decide) ?_
              refine a_istore (ls1 := [(2, 275), (0, l1), (0, l2), (0, l3), (0, l4), (0, 0), (0, (-1)), (0, (-1)), (0, 0)]) (pc := 158) dX9_missed_158 (by decide) (hp1 (t := 0) rfl (by decide)) rfl ?_
              refine a_iload (pc := 160) dX9_missed_160 rfl ?_
              refine a_if_eq (tgt := 182) (pc := 162) dX9_missed_162 (by decide) (fun _ => ?_) (fun hc => absurd (by decide) hc)
              refine a_iload_n (pc := 182) dX9_missed_182 rfl ?_
              refine a_istore_n (ls1 := [(2, 275), (0, l1), (0, l2), (0, l3), (0, l4), (0, 0), (0, (-1)), (0, (-1)), (0, 0)]) (pc := 183) dX9_missed_183 (by decide) (hp1 (t := 0) rfl (by decide)) rfl ?_
              have ho13 := h.1
              replace h := h.2
              refine a_iinc (ls1 := [(2, 275), (0, l1), (0, l2), (0, l3), (0, l4 + 1), (0, 0), (0, (-1)), (0, (-1)), (0, 0)]) (pc := 184) dX9_missed_184 rfl (by decide) (hp1 (t := 0) rfl (by decide)) ho13 rfl ?_
              refine a_goto (tgt := 28) (pc := 187) dX9_missed_187 (by decide) ?_
              exact a_msk [true, true, true, true, true, false, false, false, false] rfl h
            · replace h := h.2 hc
              refine a_iconst (pc := 13) dX9_in_13 (by decide) ?_
              refine a_goto (tgt := 18) (pc := 14) dX9_in_14 (by decide) ?_
              refine a_iretz (pc := 18) dX9_in_18 rfl rfl (Nat.le_of_ble_eq_true rfl) (by decide) ⟨rfl, ?_⟩
              refine a_if_eq (tgt := 30) (pc := 23) dX9_isTrip_23 (by decide) (fun hc => absurd hc (by decide)) (fun _ => ?_)
              refine a_iconst (pc := 26) dX9_isTrip_26 (by decide) ?_
              refine a_goto (tgt := 31) (pc := 27) dX9_isTrip_27 (by decide) ?_
              refine a_iretz (pc := 31) dX9_isTrip_31 rfl rfl (Nat.le_of_ble_eq_true rfl) (by decide) ⟨rfl, ?_⟩
              refine a_if_eq (tgt := 83) (pc := 59) dX9_missed_59 (by decide) (fun hc => absurd hc (by decide)) (fun _ => ?_)
              refine a_aload_n (pc := 62) dX9_missed_62 (by decide) rfl ?_
              refine a_iload (pc := 63) dX9_missed_63 rfl ?_
              refine a_bipush (pc := 65) dX9_missed_65 (by decide) (by decide +kernel) ?_
              have ho14 := h.1
              replace h := h.2
              refine a_idiv (pc := 67) dX9_missed_67 ho14 (by decide) ?_
              refine a_iload (pc := 68) dX9_missed_68 rfl ?_
              refine a_bipush (pc := 70) dX9_missed_70 (by decide) (by decide +kernel) ?_
              have ho15 := h.1
              replace h := h.2
              refine a_irem (pc := 72) dX9_missed_72 ho15 (by decide) ?_
              refine p_inlV (Ex := _) (As := [(0, l4 / 6), (0, l4 % 6)]) (st := []) (st1 := fun r => [(0, r)])  (pc := 73) dX9_missed_73 ml_RX9_257 (by decide) s0_275 rfl (by decide) (Nat.le_of_ble_eq_true rfl) rfl (fun _ => rfl) (by decide) (by decide) (Nat.le_of_ble_eq_true rfl) rfl ?_
              refine a_aload_n (pc := 0) dX9_isTrip_0 (by decide) rfl ?_
              refine a_iload_n (pc := 1) dX9_isTrip_1 rfl ?_
              refine p_inlV (Ex := _) (As := [(0, l4 / 6)]) (st := []) (st1 := fun r => [(0, r)])  (pc := 2) dX9_isTrip_2 ml_RX9_101 (by decide) s0_275 rfl (by decide) (Nat.le_of_ble_eq_true rfl) rfl (fun _ => rfl) (by decide) (by decide) (Nat.le_of_ble_eq_true rfl) rfl ?_
              refine a_iload_n (pc := 0) dX9_isLine_0 rfl ?_
              refine a_i2l (pc := 1) dX9_isLine_1 ?_
              refine a_lconst (v := 0) (pc := 2) dX9_isLine_2 rfl ?_
              refine a_aload_n (pc := 3) dX9_isLine_3 (by decide) rfl ?_
              refine a_getI (y := 0) (pc := 4) dX9_isLine_4 fl_RX9_98 (by decide) s0_275 (Or.inl rfl) rfl ?_
              refine a_iconst (pc := 7) dX9_isLine_7 (by decide) ?_
              have ho16 := h.1
              replace h := h.2
              refine a_isub (pc := 8) dX9_isLine_8 ho16 ?_
              refine a_i2l (pc := 9) dX9_isLine_9 ?_
              refine p_inlS (Ex := _) (As := [(1, l4 / 6), (1, 0), (1, (M 275 0) - 1)]) (st := []) (st1 := fun r => [(0, r)])  (pc := 10) dX9_isLine_10 ml_RX9_92 (by decide) (Nat.le_of_ble_eq_true rfl) rfl (fun _ => rfl) (by decide) (by decide) (Nat.le_of_ble_eq_true rfl) rfl ?_
              refine a_lload_n (pc := 0) dX9_in_0 rfl ?_
              refine a_lload_n (pc := 1) dX9_in_1 rfl ?_
              refine a_lcmp_lt (tgt := 17) (pc := 2) dX9_in_2 dX9_in_3 (by decide) (fun hc => ?_) (fun hc => ?_)
              · replace h := h.1 hc
                refine a_iconst (pc := 17) dX9_in_17 (by decide) ?_
                refine a_iretz (pc := 18) dX9_in_18 rfl rfl (Nat.le_of_ble_eq_true rfl) (by decide) ⟨rfl, ?_⟩
                refine a_iretz (pc := 13) dX9_isLine_13 rfl rfl (Nat.le_of_ble_eq_true rfl) (by decide) ⟨rfl, ?_⟩
                refine a_if_eq (tgt := 30) (pc := 5) dX9_isTrip_5 (by decide) (fun _ => ?_) (fun hc => absurd (by decide) hc)
                refine a_iconst (pc := 30) dX9_isTrip_30 (by decide) ?_
                refine a_iretz (pc := 31) dX9_isTrip_31 rfl rfl (Nat.le_of_ble_eq_true rfl) (by decide) ⟨rfl, ?_⟩
                refine a_if_eq (tgt := 83) (pc := 76) dX9_missed_76 (by decide) (fun _ => ?_) (fun hc => absurd (by decide) hc)
                refine a_iconst (pc := 83) dX9_missed_83 (by decide) ?_
                refine a_istore (ls1 := [(2, 275), (0, l1), (0, l2), (0, l3), (0, l4), (0, 0), (9, 0), (9, 0), (9, 0)]) (pc := 84) dX9_missed_84 (by decide) (hp1 (t := 0) rfl (by decide)) rfl ?_
                refine a_iload (pc := 86) dX9_missed_86 rfl ?_
                refine a_if_eq (tgt := 107) (pc := 88) dX9_missed_88 (by decide) (fun _ => ?_) (fun hc => absurd (by decide) hc)
                refine a_iconst (pc := 107) dX9_missed_107 (by decide) ?_
                refine a_istore (ls1 := [(2, 275), (0, l1), (0, l2), (0, l3), (0, l4), (0, 0), (0, (-1)), (9, 0), (9, 0)]) (pc := 108) dX9_missed_108 (by decide) (hp1 (t := 0) rfl (by decide)) rfl ?_
                refine a_iload (pc := 110) dX9_missed_110 rfl ?_
                refine a_if_eq (tgt := 133) (pc := 112) dX9_missed_112 (by decide) (fun _ => ?_) (fun hc => absurd (by decide) hc)
                refine a_iconst (pc := 133) dX9_missed_133 (by decide) ?_
                refine a_istore (ls1 := [(2, 275), (0, l1), (0, l2), (0, l3), (0, l4), (0, 0), (0, (-1)), (0, (-1)), (9, 0)]) (pc := 134) dX9_missed_134 (by decide) (hp1 (t := 0) rfl (by decide)) rfl ?_
                refine a_iload (pc := 136) dX9_missed_136 rfl ?_
                refine a_if_lt (tgt := 157) (pc := 138) dX9_missed_138 (by decide) (fun _ => ?_) (fun hc => absurd (by decide) hc)
                refine a_iconst (pc := 157) dX9_missed_157 (by decide) ?_
                refine a_istore (ls1 := [(2, 275), (0, l1), (0, l2), (0, l3), (0, l4), (0, 0), (0, (-1)), (0, (-1)), (0, 0)]) (pc := 158) dX9_missed_158 (by decide) (hp1 (t := 0) rfl (by decide)) rfl ?_
                refine a_iload (pc := 160) dX9_missed_160 rfl ?_
                refine a_if_eq (tgt := 182) (pc := 162) dX9_missed_162 (by decide) (fun _ => ?_) (fun hc => absurd (by decide) hc)
                refine a_iload_n (pc := 182) dX9_missed_182 rfl ?_
                refine a_istore_n (ls1 := [(2, 275), (0, l1), (0, l2), (0, l3), (0, l4), (0, 0), (0, (-1)), (0, (-1)), (0, 0)]) (pc := 183) dX9_missed_183 (by decide) (hp1 (t := 0) rfl (by decide)) rfl ?_
                have ho17 := h.1
                replace h := h.2
                refine a_iinc (ls1 := [(2, 275), (0, l1), (0, l2), (0, l3), (0, l4 + 1), (0, 0), (0, (-1)), (0, (-1)), (0, 0)]) (pc := 184) dX9_missed_184 rfl (by decide) (hp1 (t := 0) rfl (by decide)) ho17 rfl ?_
                refine a_goto (tgt := 28) (pc := 187) dX9_missed_187 (by decide) ?_
                exact a_msk [true, true, true, true, true, false, false, false, false] rfl h
              · replace h := h.2 hc
                refine a_lload_n (pc := 6) dX9_in_6 rfl ?_
                refine a_lload (pc := 7) dX9_in_7 rfl ?_
                refine a_lcmp_gt (tgt := 17) (pc := 9) dX9_in_9 dX9_in_10 (by decide) (fun hc => ?_) (fun hc => ?_)
                · replace h := h.1 hc
                  refine a_iconst (pc := 17) dX9_in_17 (by decide) ?_
                  refine a_iretz (pc := 18) dX9_in_18 rfl rfl (Nat.le_of_ble_eq_true rfl) (by decide) ⟨rfl, ?_⟩
                  refine a_iretz (pc := 13) dX9_isLine_13 rfl rfl (Nat.le_of_ble_eq_true rfl) (by decide) ⟨rfl, ?_⟩
                  refine a_if_eq (tgt := 30) (pc := 5) dX9_isTrip_5 (by decide) (fun _ => ?_) (fun hc => absurd (by decide) hc)
                  refine a_iconst (pc := 30) dX9_isTrip_30 (by decide) ?_
                  refine a_iretz (pc := 31) dX9_isTrip_31 rfl rfl (Nat.le_of_ble_eq_true rfl) (by decide) ⟨rfl, ?_⟩
                  refine a_if_eq (tgt := 83) (pc := 76) dX9_missed_76 (by decide) (fun _ => ?_) (fun hc => absurd (by decide) hc)
                  refine a_iconst (pc := 83) dX9_missed_83 (by decide) ?_
                  refine a_istore (ls1 := [(2, 275), (0, l1), (0, l2), (0, l3), (0, l4), (0, 0), (9, 0), (9, 0), (9, 0)]) (pc := 84) dX9_missed_84 (by decide) (hp1 (t := 0) rfl (by decide)) rfl ?_
                  refine a_iload (pc := 86) dX9_missed_86 rfl ?_
                  refine a_if_eq (tgt := 107) (pc := 88) dX9_missed_88 (by decide) (fun _ => ?_) (fun hc => absurd (by decide) hc)
                  refine a_iconst (pc := 107) dX9_missed_107 (by decide) ?_
                  refine a_istore (ls1 := [(2, 275), (0, l1), (0, l2), (0, l3), (0, l4), (0, 0), (0, (-1)), (9, 0), (9, 0)]) (pc := 108) dX9_missed_108 (by decide) (hp1 (t := 0) rfl (by decide)) rfl ?_
                  refine a_iload (pc := 110) dX9_missed_110 rfl ?_
                  refine a_if_eq (tgt := 133) (pc := 112) dX9_missed_112 (by decide) (fun _ => ?_) (fun hc => absurd (by decide) hc)
                  refine a_iconst (pc := 133) dX9_missed_133 (by decide) ?_
                  refine a_istore (ls1 := [(2, 275), (0, l1), (0, l2), (0, l3), (0, l4), (0, 0), (0, (-1)), (0, (-1)), (9, 0)]) (pc := 134) dX9_missed_134 (by decide) (hp1 (t := 0) rfl (by decide)) rfl ?_
                  refine a_iload (pc := 136) dX9_missed_136 rfl ?_
                  refine a_if_lt (tgt := 157) (pc := 138) dX9_missed_138 (by decide) (fun _ => ?_) (fun hc => absurd (by decide) hc)
                  refine a_iconst (pc := 157) dX9_missed_157 (by decide) ?_
                  refine a_istore (ls1 := [(2, 275), (0, l1), (0, l2), (0, l3), (0, l4), (0, 0), (0, (-1)), (0, (-1)), (0, 0)]) (pc := 158) dX9_missed_158 (by decide) (hp1 (t := 0) rfl (by decide)) rfl ?_
                  refine a_iload (pc := 160) dX9_missed_160 rfl ?_
                  refine a_if_eq (tgt := 182) (pc := 162) dX9_missed_162 (by decide) (fun _ => ?_) (fun hc => absurd (by decide) hc)
                  refine a_iload_n (pc := 182) dX9_missed_182 rfl ?_
                  refine a_istore_n (ls1 := [(2, 275), (0, l1), (0, l2), (0, l3), (0, l4), (0, 0), (0, (-1)), (0, (-1)), (0, 0)]) (pc := 183) dX9_missed_183 (by decide) (hp1 (t := 0) rfl (by decide)) rfl ?_
                  have ho18 := h.1
                  replace h := h.2
                  refine a_iinc (ls1 := [(2, 275), (0, l1), (0, l2), (0, l3), (0, l4 + 1), (0, 0), (0, (-1)), (0, (-1)), (0, 0)]) (pc := 184) dX9_missed_184 rfl (by decide) (hp1 (t := 0) rfl (by decide)) ho18 rfl ?_
                  refine a_goto (tgt := 28) (pc := 187) dX9_missed_187 (by decide) ?_
                  exact a_msk [true, true, true, true, true, false, false, false, false] rfl h
                · replace h := h.2 hc
                  refine a_iconst (pc := 13) dX9_in_13 (by decide) ?_
                  refine a_goto (tgt := 18) (pc := 14) dX9_in_14 (by decide) ?_
                  refine a_iretz (pc := 18) dX9_in_18 rfl rfl (Nat.le_of_ble_eq_true rfl) (by decide) ⟨rfl, ?_⟩
                  refine a_iretz (pc := 13) dX9_isLine_13 rfl rfl (Nat.le_of_ble_eq_true rfl) (by decide) ⟨rfl, ?_⟩
                  refine a_if_eq (tgt := 30) (pc := 5) dX9_isTrip_5 (by decide) (fun hc => absurd hc (by decide)) (fun _ => ?_)
                  refine a_iload_n (pc := 8) dX9_isTrip_8 rfl ?_
                  refine a_i2l (pc := 9) dX9_isTrip_9 ?_
                  refine a_lconst (v := 0) (pc := 10) dX9_isTrip_10 rfl ?_
                  refine a_aload_n (pc := 11) dX9_isTrip_11 (by decide) rfl ?_
                  refine a_getR (y := 279) (pc := 12) dX9_isTrip_12 fl_RX9_19 (by decide) s0_275 rfl rfl ?_
                  refine a_iload_n (pc := 15) dX9_isTrip_15 rfl ?_
                  have ho19 := h.1
                  replace h := h.2
                  refine a_iald (pc := 16) dX9_isTrip_16 (by decide) s0_279 ho19.1 ho19.2 ?_
                  refine a_iconst (pc := 17) dX9_isTrip_17 (by decide) ?_
                  have ho20 := h.1
                  replace h := h.2
                  refine a_isub (pc := 18) dX9_isTrip_18 ho20 ?_
                  refine a_i2l (pc := 19) dX9_isTrip_19 ?_
                  refine p_inlS (Ex := _) (As := [(1, l4 % 6), (1, 0), (1, (M 279 (l4 / 6)) - 1)]) (st := []) (st1 := fun r => [(0, r)])  (pc := 20) dX9_isTrip_20 ml_RX9_92 (by decide) (Nat.le_of_ble_eq_true rfl) rfl (fun _ => rfl) (by decide) (by decide) (Nat.le_of_ble_eq_true rfl) rfl ?_
                  refine a_lload_n (pc := 0) dX9_in_0 rfl ?_
                  refine a_lload_n (pc := 1) dX9_in_1 rfl ?_
                  refine a_lcmp_lt (tgt := 17) (pc := 2) dX9_in_2 dX9_in_3 (by decide) (fun hc => ?_) (fun hc => ?_)
                  · replace h := h.1 hc
                    refine a_iconst (pc := 17) dX9_in_17 (by decide) ?_
                    refine a_iretz (pc := 18) dX9_in_18 rfl rfl (Nat.le_of_ble_eq_true rfl) (by decide) ⟨rfl, ?_⟩
                    refine a_if_eq (tgt := 30) (pc := 23) dX9_isTrip_23 (by decide) (fun _ => ?_) (fun hc => absurd (by decide) hc)
                    refine a_iconst (pc := 30) dX9_isTrip_30 (by decide) ?_
                    refine a_iretz (pc := 31) dX9_isTrip_31 rfl rfl (Nat.le_of_ble_eq_true rfl) (by decide) ⟨rfl, ?_⟩
                    refine a_if_eq (tgt := 83) (pc := 76) dX9_missed_76 (by decide) (fun _ => ?_) (fun hc => absurd (by decide) hc)
                    refine a_iconst (pc := 83) dX9_missed_83 (by decide) ?_
                    refine a_istore (ls1 := [(2, 275), (0, l1), (0, l2), (0, l3), (0, l4), (0, 0), (9, 0), (9, 0), (9, 0)]) (pc := 84) dX9_missed_84 (by decide) (hp1 (t := 0) rfl (by decide)) rfl ?_
                    refine a_iload (pc := 86) dX9_missed_86 rfl ?_
                    refine a_if_eq (tgt := 107) (pc := 88) dX9_missed_88 (by decide) (fun _ => ?_) (fun hc => absurd (by decide) hc)
                    refine a_iconst (pc := 107) dX9_missed_107 (by decide) ?_
                    refine a_istore (ls1 := [(2, 275), (0, l1), (0, l2), (0, l3), (0, l4), (0, 0), (0, (-1)), (9, 0), (9, 0)]) (pc := 108) dX9_missed_108 (by decide) (hp1 (t := 0) rfl (by decide)) rfl ?_
                    refine a_iload (pc := 110) dX9_missed_110 rfl ?_
                    refine a_if_eq (tgt := 133) (pc := 112) dX9_missed_112 (by decide) (fun _ => ?_) (fun hc => absurd (by decide) hc)
                    refine a_iconst (pc := 133) dX9_missed_133 (by decide) ?_
                    refine a_istore (ls1 := [(2, 275), (0, l1), (0, l2), (0, l3), (0, l4), (0, 0), (0, (-1)), (0, (-1)), (9, 0)]) (pc := 134) dX9_missed_134 (by decide) (hp1 (t := 0) rfl (by decide)) rfl ?_
                    refine a_iload (pc := 136) dX9_missed_136 rfl ?_
                    refine a_if_lt (tgt := 157) (pc := 138) dX9_missed_138 (by decide) (fun _ => ?_) (fun hc => absurd (by decide) hc)
                    refine a_iconst (pc := 157) dX9_missed_157 (by decide) ?_
                    refine a_istore (ls1 := [(2, 275), (0, l1), (0, l2), (0, l3), (0, l4), (0, 0), (0, (-1)), (0, (-1)), (0, 0)]) (pc := 158) dX9_missed_158 (by decide) (hp1 (t := 0) rfl (by decide)) rfl ?_
                    refine a_iload (pc := 160) dX9_missed_160 rfl ?_
                    refine a_if_eq (tgt := 182) (pc := 162) dX9_missed_162 (by decide) (fun _ => ?_) (fun hc => absurd (by decide) hc)
                    refine a_iload_n (pc := 182) dX9_missed_182 rfl ?_
                    refine a_istore_n (ls1 := [(2, 275), (0, l1), (0, l2), (0, l3), (0, l4), (0, 0), (0, (-1)), (0, (-1)), (0, 0)]) (pc := 183) dX9_missed_183 (by decide) (hp1 (t := 0) rfl (by decide)) rfl ?_
                    have ho21 := h.1
                    replace h := h.2
                    refine a_iinc (ls1 := [(2, 275), (0, l1), (0, l2), (0, l3), (0, l4 + 1), (0, 0), (0, (-1)), (0, (-1)), (0, 0)]) (pc := 184) dX9_missed_184 rfl (by decide) (hp1 (t := 0) rfl (by decide)) ho21 rfl ?_
                    refine a_goto (tgt := 28) (pc := 187) dX9_missed_187 (by decide) ?_
                    exact a_msk [true, true, true, true, true, false, false, false, false] rfl h
                  · replace h := h.2 hc
                    refine a_lload_n (pc := 6) dX9_in_6 rfl ?_
                    refine a_lload (pc := 7) dX9_in_7 rfl ?_
                    refine a_lcmp_gt (tgt := 17) (pc := 9) dX9_in_9 dX9_in_10 (by decide) (fun hc => ?_) (fun hc => ?_)
                    · replace h := h.1 hc
                      refine a_iconst (pc := 17) dX9_in_17 (by decide) ?_
                      refine a_iretz (pc := 18) dX9_in_18 rfl rfl (Nat.le_of_ble_eq_true rfl) (by decide) ⟨rfl, ?_⟩
                      refine a_if_eq (tgt := 30) (pc := 23) dX9_isTrip_23 (by decide) (fun _ => ?_) (fun hc => absurd (by decide) hc)
                      refine a_iconst (pc := 30) dX9_isTrip_30 (by decide) ?_
                      refine a_iretz (pc := 31) dX9_isTrip_31 rfl rfl (Nat.le_of_ble_eq_true rfl) (by decide) ⟨rfl, ?_⟩
                      refine a_if_eq (tgt := 83) (pc := 76) dX9_missed_76 (by decide) (fun _ => ?_) (fun hc => absurd (by decide) hc)
                      refine a_iconst (pc := 83) dX9_missed_83 (by decide) ?_
                      refine a_istore (ls1 := [(2, 275), (0, l1), (0, l2), (0, l3), (0, l4), (0, 0), (9, 0), (9, 0), (9, 0)]) (pc := 84) dX9_missed_84 (by decide) (hp1 (t := 0) rfl (by decide)) rfl ?_
                      refine a_iload (pc := 86) dX9_missed_86 rfl ?_
                      refine a_if_eq (tgt := 107) (pc := 88) dX9_missed_88 (by decide) (fun _ => ?_) (fun hc => absurd (by decide) hc)
                      refine a_iconst (pc := 107) dX9_missed_107 (by decide) ?_
                      refine a_istore (ls1 := [(2, 275), (0, l1), (0, l2), (0, l3), (0, l4), (0, 0), (0, (-1)), (9, 0), (9, 0)]) (pc := 108) dX9_missed_108 (by decide) (hp1 (t := 0) rfl (by decide)) rfl ?_
                      refine a_iload (pc := 110) dX9_missed_110 rfl ?_
                      refine a_if_eq (tgt := 133) (pc := 112) dX9_missed_112 (by decide) (fun _ => ?_) (fun hc => absurd (by decide) hc)
                      refine a_iconst (pc := 133) dX9_missed_133 (by decide) ?_
                      refine a_istore (ls1 := [(2, 275), (0, l1), (0, l2), (0, l3), (0, l4), (0, 0), (0, (-1)), (0, (-1)), (9, 0)]) (pc := 134) dX9_missed_134 (by decide) (hp1 (t := 0) rfl (by decide)) rfl ?_
                      refine a_iload (pc := 136) dX9_missed_136 rfl ?_
                      refine a_if_lt (tgt := 157) (pc := 138) dX9_missed_138 (by decide) (fun _ => ?_) (fun hc => absurd (by decide) hc)
                      refine a_iconst (pc := 157) dX9_missed_157 (by decide) ?_
                      refine a_istore (ls1 := [(2, 275), (0, l1), (0, l2), (0, l3), (0, l4), (0, 0), (0, (-1)), (0, (-1)), (0, 0)]) (pc := 158) dX9_missed_158 (by decide) (hp1 (t := 0) rfl (by decide)) rfl ?_
                      refine a_iload (pc := 160) dX9_missed_160 rfl ?_
                      refine a_if_eq (tgt := 182) (pc := 162) dX9_missed_162 (by decide) (fun _ => ?_) (fun hc => absurd (by decide) hc)
                      refine a_iload_n (pc := 182) dX9_missed_182 rfl ?_
                      refine a_istore_n (ls1 := [(2, 275), (0, l1), (0, l2), (0, l3), (0, l4), (0, 0), (0, (-1)), (0, (-1)), (0, 0)]) (pc := 183) dX9_missed_183 (by decide) (hp1 (t := 0) rfl (by decide)) rfl ?_
                      have ho22 := h.1
                      replace h := h.2
                      refine a_iinc (ls1 := [(2, 275), (0, l1), (0, l2), (0, l3), (0, l4 + 1), (0, 0), (0, (-1)), (0, (-1)), (0, 0)]) (pc := 184) dX9_missed_184 rfl (by decide) (hp1 (t := 0) rfl (by decide)) ho22 rfl ?_
                      refine a_goto (tgt := 28) (pc := 187) dX9_missed_187 (by decide) ?_
                      exact a_msk [true, true, true, true, true, false, false, false, false] rfl h
                    · replace h := h.2 hc
                      refine a_iconst (pc := 13) dX9_in_13 (by decide) ?_
                      refine a_goto (tgt := 18) (pc := 14) dX9_in_14 (by decide) ?_
                      refine a_iretz (pc := 18) dX9_in_18 rfl rfl (Nat.le_of_ble_eq_true rfl) (by decide) ⟨rfl, ?_⟩
                      refine a_if_eq (tgt := 30) (pc := 23) dX9_isTrip_23 (by decide) (fun hc => absurd hc (by decide)) (fun _ => ?_)
                      refine a_iconst (pc := 26) dX9_isTrip_26 (by decide) ?_
                      refine a_goto (tgt := 31) (pc := 27) dX9_isTrip_27 (by decide) ?_
                      refine a_iretz (pc := 31) dX9_isTrip_31 rfl rfl (Nat.le_of_ble_eq_true rfl) (by decide) ⟨rfl, ?_⟩
                      refine a_if_eq (tgt := 83) (pc := 76) dX9_missed_76 (by decide) (fun hc => absurd hc (by decide)) (fun _ => ?_)
                      refine a_iconst (pc := 79) dX9_missed_79 (by decide) ?_
                      refine a_goto (tgt := 84) (pc := 80) dX9_missed_80 (by decide) ?_
                      refine a_istore (ls1 := [(2, 275), (0, l1), (0, l2), (0, l3), (0, l4), (0, 1), (9, 0), (9, 0), (9, 0)]) (pc := 84) dX9_missed_84 (by decide) (hp1 (t := 0) rfl (by decide)) rfl ?_
                      refine a_iload (pc := 86) dX9_missed_86 rfl ?_
                      refine a_if_eq (tgt := 107) (pc := 88) dX9_missed_88 (by decide) (fun hc => absurd hc (by decide)) (fun _ => ?_)
                      refine a_aload_n (pc := 91) dX9_missed_91 (by decide) rfl ?_
                      refine a_iload_n (pc := 92) dX9_missed_92 rfl ?_
                      refine a_bipush (pc := 93) dX9_missed_93 (by decide) (by decide +kernel) ?_
                      have ho23 := h.1
                      replace h := h.2
                      refine a_idiv (pc := 95) dX9_missed_95 ho23 (by decide) ?_
                      refine a_iload_n (pc := 96) dX9_missed_96 rfl ?_
                      refine a_bipush (pc := 97) dX9_missed_97 (by decide) (by decide +kernel) ?_
                      have ho24 := h.1
                      replace h := h.2
                      refine a_irem (pc := 99) dX9_missed_99 ho24 (by decide) ?_
                      refine a_iload_n (pc := 100) dX9_missed_100 rfl ?_
                      refine p_callV (As := [(0, l3 / 6), (0, l3 % 6), (0, l1)]) (st := []) (st1 := fun r => [(0, r)])  (pc := 101) dX9_missed_101 ml_RX9_318 (by decide) s0_275 rfl (by decide) (Nat.le_of_ble_eq_true rfl) rfl (fun _ => rfl) h (fun r25 M26 h => ?_)
                      refine a_goto (tgt := 108) (pc := 104) dX9_missed_104 (by decide) ?_
                      refine a_istore (ls1 := [(2, 275), (0, l1), (0, l2), (0, l3), (0, l4), (0, 1), (0, r25), (9, 0), (9, 0)]) (pc := 108) dX9_missed_108 (by decide) (hp1 (t := 0) rfl (by decide)) rfl ?_
                      refine a_iload (pc := 110) dX9_missed_110 rfl ?_
                      refine a_if_eq (tgt := 133) (pc := 112) dX9_missed_112 (by decide) (fun hc => absurd hc (by decide)) (fun _ => ?_)
                      refine a_aload_n (pc := 115) dX9_missed_115 (by decide) rfl ?_
                      refine a_iload (pc := 116) dX9_missed_116 rfl ?_
                      refine a_bipush (pc := 118) dX9_missed_118 (by decide) (by decide +kernel) ?_
                      have ho27 := h.1
                      replace h := h.2
                      refine a_idiv (pc := 120) dX9_missed_120 ho27 (by decide) ?_
                      refine a_iload (pc := 121) dX9_missed_121 rfl ?_
                      refine a_bipush (pc := 123) dX9_missed_123 (by decide) (by decide +kernel) ?_
                      have ho28 := h.1
                      replace h := h.2
                      refine a_irem (pc := 125) dX9_missed_125 ho28 (by decide) ?_
                      refine a_iload_n (pc := 126) dX9_missed_126 rfl ?_
                      refine p_callV (As := [(0, l4 / 6), (0, l4 % 6), (0, l1)]) (st := []) (st1 := fun r => [(0, r)])  (pc := 127) dX9_missed_127 ml_RX9_305 (by decide) s0_275 rfl (by decide) (Nat.le_of_ble_eq_true rfl) rfl (fun _ => rfl) h (fun r29 M30 h => ?_)
                      refine a_goto (tgt := 134) (pc := 130) dX9_missed_130 (by decide) ?_
                      refine a_istore (ls1 := [(2, 275), (0, l1), (0, l2), (0, l3), (0, l4), (0, 1), (0, r25), (0, r29), (9, 0)]) (pc := 134) dX9_missed_134 (by decide) (hp1 (t := 0) rfl (by decide)) rfl ?_
                      refine a_iload (pc := 136) dX9_missed_136 rfl ?_
                      refine a_if_lt (tgt := 157) (pc := 138) dX9_missed_138 (by decide) (fun hc => ?_) (fun hc => ?_)
                      · replace h := h.1 hc
                        refine a_iconst (pc := 157) dX9_missed_157 (by decide) ?_
                        refine a_istore (ls1 := [(2, 275), (0, l1), (0, l2), (0, l3), (0, l4), (0, 1), (0, r25), (0, r29), (0, 0)]) (pc := 158) dX9_missed_158 (by decide) (hp1 (t := 0) rfl (by decide)) rfl ?_
                        refine a_iload (pc := 160) dX9_missed_160 rfl ?_
                        refine a_if_eq (tgt := 182) (pc := 162) dX9_missed_162 (by decide) (fun _ => ?_) (fun hc => absurd (by decide) hc)
                        refine a_iload_n (pc := 182) dX9_missed_182 rfl ?_
                        refine a_istore_n (ls1 := [(2, 275), (0, l1), (0, l2), (0, l3), (0, l4), (0, 1), (0, r25), (0, r29), (0, 0)]) (pc := 183) dX9_missed_183 (by decide) (hp1 (t := 0) rfl (by decide)) rfl ?_
                        have ho31 := h.1
                        replace h := h.2
                        refine a_iinc (ls1 := [(2, 275), (0, l1), (0, l2), (0, l3), (0, l4 + 1), (0, 1), (0, r25), (0, r29), (0, 0)]) (pc := 184) dX9_missed_184 rfl (by decide) (hp1 (t := 0) rfl (by decide)) ho31 rfl ?_
                        refine a_goto (tgt := 28) (pc := 187) dX9_missed_187 (by decide) ?_
                        exact a_msk [true, true, true, true, true, false, false, false, false] rfl h
                      · replace h := h.2 hc
                        refine a_iload (pc := 141) dX9_missed_141 rfl ?_
                        refine a_if_lt (tgt := 157) (pc := 143) dX9_missed_143 (by decide) (fun hc => ?_) (fun hc => ?_)
                        · replace h := h.1 hc
                          refine a_iconst (pc := 157) dX9_missed_157 (by decide) ?_
                          refine a_istore (ls1 := [(2, 275), (0, l1), (0, l2), (0, l3), (0, l4), (0, 1), (0, r25), (0, r29), (0, 0)]) (pc := 158) dX9_missed_158 (by decide) (hp1 (t := 0) rfl (by decide)) rfl ?_
                          refine a_iload (pc := 160) dX9_missed_160 rfl ?_
                          refine a_if_eq (tgt := 182) (pc := 162) dX9_missed_162 (by decide) (fun _ => ?_) (fun hc => absurd (by decide) hc)
                          refine a_iload_n (pc := 182) dX9_missed_182 rfl ?_
                          refine a_istore_n (ls1 := [(2, 275), (0, l1), (0, l2), (0, l3), (0, l4), (0, 1), (0, r25), (0, r29), (0, 0)]) (pc := 183) dX9_missed_183 (by decide) (hp1 (t := 0) rfl (by decide)) rfl ?_
                          have ho32 := h.1
                          replace h := h.2
                          refine a_iinc (ls1 := [(2, 275), (0, l1), (0, l2), (0, l3), (0, l4 + 1), (0, 1), (0, r25), (0, r29), (0, 0)]) (pc := 184) dX9_missed_184 rfl (by decide) (hp1 (t := 0) rfl (by decide)) ho32 rfl ?_
                          refine a_goto (tgt := 28) (pc := 187) dX9_missed_187 (by decide) ?_
                          exact a_msk [true, true, true, true, true, false, false, false, false] rfl h
                        · replace h := h.2 hc
                          refine a_iload (pc := 146) dX9_missed_146 rfl ?_
                          refine a_iload (pc := 148) dX9_missed_148 rfl ?_
                          refine a_icmp_ge (tgt := 157) (pc := 150) dX9_missed_150 (by decide) (fun hc => ?_) (fun hc => ?_)
                          · replace h := h.1 hc
                            refine a_iconst (pc := 157) dX9_missed_157 (by decide) ?_
                            refine a_istore (ls1 := [(2, 275), (0, l1), (0, l2), (0, l3), (0, l4), (0, 1), (0, r25), (0, r29), (0, 0)]) (pc := 158) dX9_missed_158 (by decide) (hp1 (t := 0) rfl (by decide)) rfl ?_
                            refine a_iload (pc := 160) dX9_missed_160 rfl ?_
                            refine a_if_eq (tgt := 182) (pc := 162) dX9_missed_162 (by decide) (fun _ => ?_) (fun hc => absurd (by decide) hc)
                            refine a_iload_n (pc := 182) dX9_missed_182 rfl ?_
                            refine a_istore_n (ls1 := [(2, 275), (0, l1), (0, l2), (0, l3), (0, l4), (0, 1), (0, r25), (0, r29), (0, 0)]) (pc := 183) dX9_missed_183 (by decide) (hp1 (t := 0) rfl (by decide)) rfl ?_
                            have ho33 := h.1
                            replace h := h.2
                            refine a_iinc (ls1 := [(2, 275), (0, l1), (0, l2), (0, l3), (0, l4 + 1), (0, 1), (0, r25), (0, r29), (0, 0)]) (pc := 184) dX9_missed_184 rfl (by decide) (hp1 (t := 0) rfl (by decide)) ho33 rfl ?_
                            refine a_goto (tgt := 28) (pc := 187) dX9_missed_187 (by decide) ?_
                            exact a_msk [true, true, true, true, true, false, false, false, false] rfl h
                          · replace h := h.2 hc
                            refine a_iconst (pc := 153) dX9_missed_153 (by decide) ?_
                            refine a_goto (tgt := 158) (pc := 154) dX9_missed_154 (by decide) ?_
                            refine a_istore (ls1 := [(2, 275), (0, l1), (0, l2), (0, l3), (0, l4), (0, 1), (0, r25), (0, r29), (0, 1)]) (pc := 158) dX9_missed_158 (by decide) (hp1 (t := 0) rfl (by decide)) rfl ?_
                            refine a_iload (pc := 160) dX9_missed_160 rfl ?_
                            refine a_if_eq (tgt := 182) (pc := 162) dX9_missed_162 (by decide) (fun hc => absurd hc (by decide)) (fun _ => ?_)
                            refine a_iload (pc := 165) dX9_missed_165 rfl ?_
                            refine a_iload (pc := 167) dX9_missed_167 rfl ?_
                            have ho34 := h.1
                            replace h := h.2
                            refine a_isub (pc := 169) dX9_missed_169 ho34 ?_
                            refine a_iload_n (pc := 170) dX9_missed_170 rfl ?_
                            refine a_icmp_ge (tgt := 182) (pc := 171) dX9_missed_171 (by decide) (fun hc => ?_) (fun hc => ?_)
                            · replace h := h.1 hc
                              refine a_iload_n (pc := 182) dX9_missed_182 rfl ?_
                              refine a_istore_n (ls1 := [(2, 275), (0, l1), (0, l2), (0, l3), (0, l4), (0, 1), (0, r25), (0, r29), (0, 1)]) (pc := 183) dX9_missed_183 (by decide) (hp1 (t := 0) rfl (by decide)) rfl ?_
                              have ho35 := h.1
                              replace h := h.2
                              refine a_iinc (ls1 := [(2, 275), (0, l1), (0, l2), (0, l3), (0, l4 + 1), (0, 1), (0, r25), (0, r29), (0, 1)]) (pc := 184) dX9_missed_184 rfl (by decide) (hp1 (t := 0) rfl (by decide)) ho35 rfl ?_
                              refine a_goto (tgt := 28) (pc := 187) dX9_missed_187 (by decide) ?_
                              exact a_msk [true, true, true, true, true, false, false, false, false] rfl h
                            · replace h := h.2 hc
                              refine a_iload (pc := 174) dX9_missed_174 rfl ?_
                              refine a_iload (pc := 176) dX9_missed_176 rfl ?_
                              have ho36 := h.1
                              replace h := h.2
                              refine a_isub (pc := 178) dX9_missed_178 ho36 ?_
                              refine a_goto (tgt := 183) (pc := 179) dX9_missed_179 (by decide) ?_
                              refine a_istore_n (ls1 := [(2, 275), (0, l1), (0, r25 - r29), (0, l3), (0, l4), (0, 1), (0, r25), (0, r29), (0, 1)]) (pc := 183) dX9_missed_183 (by decide) (hp1 (t := 0) rfl (by decide)) rfl ?_
                              have ho37 := h.1
                              replace h := h.2
                              refine a_iinc (ls1 := [(2, 275), (0, l1), (0, r25 - r29), (0, l3), (0, l4 + 1), (0, 1), (0, r25), (0, r29), (0, 1)]) (pc := 184) dX9_missed_184 rfl (by decide) (hp1 (t := 0) rfl (by decide)) ho37 rfl ?_
                              refine a_goto (tgt := 28) (pc := 187) dX9_missed_187 (by decide) ?_
                              exact a_msk [true, true, true, true, true, false, false, false, false] rfl h
theorem E_R_missed {l1 : Int} {M : Mem} {Q : Int → Mem → Prop} (h : AW mX9_missed 0 [(2, 275), (0, l1), (9, 0), (9, 0), (9, 0), (9, 0), (9, 0), (9, 0), (9, 0)] M Q) : Calls mX9_missed [(2, 275), (0, l1)] S0 M Q := calls_of (by decide) (by decide) (Nat.le_of_ble_eq_true rfl) rfl h
set_option maxRecDepth 100000 in
set_option maxHeartbeats 4000000 in
theorem B_R_nextBoard_0 {l1 l2 : Int} {M : Mem} {Q : Int → Mem → Prop} (h : AW mX9_nextBoard 8 [(2, 275), (0, l1), (1, l2), (9, 0), (1, (-1)), (9, 0), (0, 0), (9, 0), (9, 0), (9, 0), (9, 0)] M Q) : AW mX9_nextBoard 0 [(2, 275), (0, l1), (1, l2), (9, 0), (9, 0), (9, 0), (9, 0), (9, 0), (9, 0), (9, 0), (9, 0)] M Q := by
  refine a_ldc2 (v := (-1)) (pc := 0) dX9_nextBoard_0 kc_RX9_303 (by decide) ?_
  refine a_lstore (ls1 := [(2, 275), (0, l1), (1, l2), (9, 0), (1, (-1)), (9, 0), (9, 0), (9, 0), (9, 0), (9, 0), (9, 0)]) (pc := 3) dX9_nextBoard_3 (by decide) (hp1 (t := 9) rfl (by decide)) rfl ?_
  refine a_iconst (pc := 5) dX9_nextBoard_5 (by decide) ?_
  refine a_istore (ls1 := [(2, 275), (0, l1), (1, l2), (9, 0), (1, (-1)), (9, 0), (0, 0), (9, 0), (9, 0), (9, 0), (9, 0)]) (pc := 6) dX9_nextBoard_6 (by decide) (hp1 (t := 9) rfl (by decide)) rfl ?_
  exact h
set_option maxRecDepth 100000 in
set_option maxHeartbeats 4000000 in
theorem B_R_nextBoard_8 {l1 l2 l4 l6 : Int} {M : Mem} {Q : Int → Mem → Prop} (h : (((M 275 0) ≤ l6 → Q l4 M) ∧ (¬ ((M 275 0) ≤ l6) → AW mX9_nextBoard 20 [(2, 275), (0, l1), (1, l2), (9, 0), (1, l4), (9, 0), (0, l6), (0, 0), (9, 0), (9, 0), (9, 0)] M Q))) : AW mX9_nextBoard 8 [(2, 275), (0, l1), (1, l2), (9, 0), (1, l4), (9, 0), (0, l6), (9, 0), (9, 0), (9, 0), (9, 0)] M Q := by
  refine a_iload (pc := 8) dX9_nextBoard_8 rfl ?_
  refine a_aload_n (pc := 10) dX9_nextBoard_10 (by decide) rfl ?_
  refine a_getI (y := 0) (pc := 11) dX9_nextBoard_11 fl_RX9_98 (by decide) s0_275 (Or.inl rfl) rfl ?_
  refine a_icmp_ge (tgt := 112) (pc := 14) dX9_nextBoard_14 (by decide) (fun hc => ?_) (fun hc => ?_)
  · replace h := h.1 hc
    refine a_lload (pc := 112) dX9_nextBoard_112 rfl ?_
    exact a_lret (pc := 114) dX9_nextBoard_114 rfl rfl (Nat.le_of_ble_eq_true rfl) ⟨rfl, h⟩
  · replace h := h.2 hc
    refine a_iconst (pc := 17) dX9_nextBoard_17 (by decide) ?_
    refine a_istore (ls1 := [(2, 275), (0, l1), (1, l2), (9, 0), (1, l4), (9, 0), (0, l6), (0, 0), (9, 0), (9, 0), (9, 0)]) (pc := 18) dX9_nextBoard_18 (by decide) (hp1 (t := 0) rfl (by decide)) rfl ?_
    exact h
set_option maxRecDepth 100000 in
set_option maxHeartbeats 4000000 in
theorem B_R_nextBoard_20 {l1 l2 l4 l6 l7 : Int} {M : Mem} {Q : Int → Mem → Prop} (h : (0 ≤ l6 ∧ l6 < 8) ∧ (((M 279 l6) ≤ l7 → (-2147483648 ≤ l6 + 1 ∧ l6 + 1 ≤ 2147483647) ∧ AW mX9_nextBoard 8 [(2, 275), (0, l1), (1, l2), (9, 0), (1, l4), (9, 0), (0, l6 + 1), (9, 0), (9, 0), (9, 0), (9, 0)] M Q) ∧ (¬ ((M 279 l6) ≤ l7) → Calls mX9_departureAt [(2, 275), (0, l6), (0, l7), (0, l1)] S0 M (fun r3 M4 => (-9223372036854775808 ≤ 100 * r3 ∧ 100 * r3 ≤ 9223372036854775807) ∧ (-9223372036854775808 ≤ 10 * l6 ∧ 10 * l6 ≤ 9223372036854775807) ∧ (-9223372036854775808 ≤ (100 * r3) + (10 * l6) ∧ (100 * r3) + (10 * l6) ≤ 9223372036854775807) ∧ (-9223372036854775808 ≤ ((100 * r3) + (10 * l6)) + l7 ∧ ((100 * r3) + (10 * l6)) + l7 ≤ 9223372036854775807) ∧ ((r3 < 0 → (-2147483648 ≤ l7 + 1 ∧ l7 + 1 ≤ 2147483647) ∧ AW mX9_nextBoard 20 [(2, 275), (0, l1), (1, l2), (9, 0), (1, l4), (9, 0), (0, l6), (0, l7 + 1), (9, 0), (9, 0), (9, 0)] M4 Q) ∧ (¬ (r3 < 0) → (((((100 * r3) + (10 * l6)) + l7) ≤ l2 → (-2147483648 ≤ l7 + 1 ∧ l7 + 1 ≤ 2147483647) ∧ AW mX9_nextBoard 20 [(2, 275), (0, l1), (1, l2), (9, 0), (1, l4), (9, 0), (0, l6), (0, l7 + 1), (9, 0), (9, 0), (9, 0)] M4 Q) ∧ (¬ ((((100 * r3) + (10 * l6)) + l7) ≤ l2) → ((l4 < 0 → (-2147483648 ≤ l7 + 1 ∧ l7 + 1 ≤ 2147483647) ∧ AW mX9_nextBoard 20 [(2, 275), (0, l1), (1, l2), (9, 0), (1, ((100 * r3) + (10 * l6)) + l7), (9, 0), (0, l6), (0, l7 + 1), (9, 0), (9, 0), (9, 0)] M4 Q) ∧ (¬ (l4 < 0) → ((l4 ≤ (((100 * r3) + (10 * l6)) + l7) → (-2147483648 ≤ l7 + 1 ∧ l7 + 1 ≤ 2147483647) ∧ AW mX9_nextBoard 20 [(2, 275), (0, l1), (1, l2), (9, 0), (1, l4), (9, 0), (0, l6), (0, l7 + 1), (9, 0), (9, 0), (9, 0)] M4 Q) ∧ (¬ (l4 ≤ (((100 * r3) + (10 * l6)) + l7)) → (-2147483648 ≤ l7 + 1 ∧ l7 + 1 ≤ 2147483647) ∧ AW mX9_nextBoard 20 [(2, 275), (0, l1), (1, l2), (9, 0), (1, ((100 * r3) + (10 * l6)) + l7), (9, 0), (0, l6), (0, l7 + 1), (9, 0), (9, 0), (9, 0)] M4 Q)))))))))))) : AW mX9_nextBoard 20 [(2, 275), (0, l1), (1, l2), (9, 0), (1, l4), (9, 0), (0, l6), (0, l7), (9, 0), (9, 0), (9, 0)] M Q := by
  refine a_iload (pc := 20) dX9_nextBoard_20 rfl ?_
  refine a_aload_n (pc := 22) dX9_nextBoard_22 (by decide) rfl ?_
  refine a_getR (y := 279) (pc := 23) dX9_nextBoard_23 fl_RX9_19 (by decide) s0_275 rfl rfl ?_
  refine a_iload (pc := 26) dX9_nextBoard_26 rfl ?_
  have ho1 := h.1
  replace h := h.2
  refine a_iald (pc := 28) dX9_nextBoard_28 (by decide) s0_279 ho1.1 ho1.2 ?_
  refine a_icmp_ge (tgt := 106) (pc := 29) dX9_nextBoard_29 (by decide) (fun hc => ?_) (fun hc => ?_)
  · replace h := h.1 hc
    have ho2 := h.1
    replace h := h.2
    refine a_iinc (ls1 := [(2, 275), (0, l1), (1, l2), (9, 0), (1, l4), (9, 0), (0, l6 + 1), (0, l7), (9, 0), (9, 0), (9, 0)]) (pc := 106) dX9_nextBoard_106 rfl (by decide) (hp1 (t := 9) rfl (by decide)) ho2 rfl ?_
    refine a_goto (tgt := 8) (pc := 109) dX9_nextBoard_109 (by decide) ?_
    exact a_msk [true, true, true, true, true, true, true, false, true, true, true] rfl h
  · replace h := h.2 hc
    refine a_aload_n (pc := 32) dX9_nextBoard_32 (by decide) rfl ?_
    refine a_iload (pc := 33) dX9_nextBoard_33 rfl ?_
    refine a_iload (pc := 35) dX9_nextBoard_35 rfl ?_
    refine a_iload_n (pc := 37) dX9_nextBoard_37 rfl ?_
    refine p_callV (As := [(0, l6), (0, l7), (0, l1)]) (st := []) (st1 := fun r => [(0, r)])  (pc := 38) dX9_nextBoard_38 ml_RX9_305 (by decide) s0_275 rfl (by decide) (Nat.le_of_ble_eq_true rfl) rfl (fun _ => rfl) h (fun r3 M4 h => ?_)
    refine a_istore (ls1 := [(2, 275), (0, l1), (1, l2), (9, 0), (1, l4), (9, 0), (0, l6), (0, l7), (0, r3), (9, 0), (9, 0)]) (pc := 41) dX9_nextBoard_41 (by decide) (hp1 (t := 0) rfl (by decide)) rfl ?_
    refine a_ldc2 (v := 100) (pc := 43) dX9_nextBoard_43 kc_RX9_308 (by decide) ?_
    refine a_iload (pc := 46) dX9_nextBoard_46 rfl ?_
    refine a_i2l (pc := 48) dX9_nextBoard_48 ?_
    have ho5 := h.1
    replace h := h.2
    refine a_lmul (pc := 49) dX9_nextBoard_49 ho5 ?_
    refine a_ldc2 (v := 10) (pc := 50) dX9_nextBoard_50 kc_RX9_310 (by decide) ?_
    refine a_iload (pc := 53) dX9_nextBoard_53 rfl ?_
    refine a_i2l (pc := 55) dX9_nextBoard_55 ?_
    have ho6 := h.1
    replace h := h.2
    refine a_lmul (pc := 56) dX9_nextBoard_56 ho6 ?_
    have ho7 := h.1
    replace h := h.2
    refine a_ladd (pc := 57) dX9_nextBoard_57 ho7 ?_
    refine a_iload (pc := 58) dX9_nextBoard_58 rfl ?_
    refine a_i2l (pc := 60) dX9_nextBoard_60 ?_
    have ho8 := h.1
    replace h := h.2
    refine a_ladd (pc := 61) dX9_nextBoard_61 ho8 ?_
    refine a_lstore (ls1 := [(2, 275), (0, l1), (1, l2), (9, 0), (1, l4), (9, 0), (0, l6), (0, l7), (0, r3), (1, ((100 * r3) + (10 * l6)) + l7), (9, 0)]) (pc := 62) dX9_nextBoard_62 (by decide) (hp1 (t := 0) rfl (by decide)) rfl ?_
    refine a_iload (pc := 64) dX9_nextBoard_64 rfl ?_
    refine a_if_lt (tgt := 96) (pc := 66) dX9_nextBoard_66 (by decide) (fun hc => ?_) (fun hc => ?_)
    · replace h := h.1 hc
      refine a_lload (pc := 96) dX9_nextBoard_96 rfl ?_
      refine a_lstore (ls1 := [(2, 275), (0, l1), (1, l2), (9, 0), (1, l4), (9, 0), (0, l6), (0, l7), (0, r3), (1, ((100 * r3) + (10 * l6)) + l7), (9, 0)]) (pc := 98) dX9_nextBoard_98 (by decide) (hp1 (t := 9) rfl (by decide)) rfl ?_
      have ho9 := h.1
      replace h := h.2
      refine a_iinc (ls1 := [(2, 275), (0, l1), (1, l2), (9, 0), (1, l4), (9, 0), (0, l6), (0, l7 + 1), (0, r3), (1, ((100 * r3) + (10 * l6)) + l7), (9, 0)]) (pc := 100) dX9_nextBoard_100 rfl (by decide) (hp1 (t := 0) rfl (by decide)) ho9 rfl ?_
      refine a_goto (tgt := 20) (pc := 103) dX9_nextBoard_103 (by decide) ?_
      exact a_msk [true, true, true, true, true, true, true, true, false, false, true] rfl h
    · replace h := h.2 hc
      refine a_lload (pc := 69) dX9_nextBoard_69 rfl ?_
      refine a_lload_n (pc := 71) dX9_nextBoard_71 rfl ?_
      refine a_lcmp_le (tgt := 96) (pc := 72) dX9_nextBoard_72 dX9_nextBoard_73 (by decide) (fun hc => ?_) (fun hc => ?_)
      · replace h := h.1 hc
        refine a_lload (pc := 96) dX9_nextBoard_96 rfl ?_
        refine a_lstore (ls1 := [(2, 275), (0, l1), (1, l2), (9, 0), (1, l4), (9, 0), (0, l6), (0, l7), (0, r3), (1, ((100 * r3) + (10 * l6)) + l7), (9, 0)]) (pc := 98) dX9_nextBoard_98 (by decide) (hp1 (t := 9) rfl (by decide)) rfl ?_
        have ho10 := h.1
        replace h := h.2
        refine a_iinc (ls1 := [(2, 275), (0, l1), (1, l2), (9, 0), (1, l4), (9, 0), (0, l6), (0, l7 + 1), (0, r3), (1, ((100 * r3) + (10 * l6)) + l7), (9, 0)]) (pc := 100) dX9_nextBoard_100 rfl (by decide) (hp1 (t := 0) rfl (by decide)) ho10 rfl ?_
        refine a_goto (tgt := 20) (pc := 103) dX9_nextBoard_103 (by decide) ?_
        exact a_msk [true, true, true, true, true, true, true, true, false, false, true] rfl h
      · replace h := h.2 hc
        refine a_lload (pc := 76) dX9_nextBoard_76 rfl ?_
        refine a_lconst (v := 0) (pc := 78) dX9_nextBoard_78 rfl ?_
        refine a_lcmp_lt (tgt := 91) (pc := 79) dX9_nextBoard_79 dX9_nextBoard_80 (by decide) (fun hc => ?_) (fun hc => ?_)
        · replace h := h.1 hc
          refine a_lload (pc := 91) dX9_nextBoard_91 rfl ?_
          refine a_goto (tgt := 98) (pc := 93) dX9_nextBoard_93 (by decide) ?_
          refine a_lstore (ls1 := [(2, 275), (0, l1), (1, l2), (9, 0), (1, ((100 * r3) + (10 * l6)) + l7), (9, 0), (0, l6), (0, l7), (0, r3), (1, ((100 * r3) + (10 * l6)) + l7), (9, 0)]) (pc := 98) dX9_nextBoard_98 (by decide) (hp1 (t := 9) rfl (by decide)) rfl ?_
          have ho11 := h.1
          replace h := h.2
          refine a_iinc (ls1 := [(2, 275), (0, l1), (1, l2), (9, 0), (1, ((100 * r3) + (10 * l6)) + l7), (9, 0), (0, l6), (0, l7 + 1), (0, r3), (1, ((100 * r3) + (10 * l6)) + l7), (9, 0)]) (pc := 100) dX9_nextBoard_100 rfl (by decide) (hp1 (t := 0) rfl (by decide)) ho11 rfl ?_
          refine a_goto (tgt := 20) (pc := 103) dX9_nextBoard_103 (by decide) ?_
          exact a_msk [true, true, true, true, true, true, true, true, false, false, true] rfl h
        · replace h := h.2 hc
          refine a_lload (pc := 83) dX9_nextBoard_83 rfl ?_
          refine a_lload (pc := 85) dX9_nextBoard_85 rfl ?_
          refine a_lcmp_ge (tgt := 96) (pc := 87) dX9_nextBoard_87 dX9_nextBoard_88 (by decide) (fun hc => ?_) (fun hc => ?_)
          · replace h := h.1 hc
            refine a_lload (pc := 96) dX9_nextBoard_96 rfl ?_
            refine a_lstore (ls1 := [(2, 275), (0, l1), (1, l2), (9, 0), (1, l4), (9, 0), (0, l6), (0, l7), (0, r3), (1, ((100 * r3) + (10 * l6)) + l7), (9, 0)]) (pc := 98) dX9_nextBoard_98 (by decide) (hp1 (t := 9) rfl (by decide)) rfl ?_
            have ho12 := h.1
            replace h := h.2
            refine a_iinc (ls1 := [(2, 275), (0, l1), (1, l2), (9, 0), (1, l4), (9, 0), (0, l6), (0, l7 + 1), (0, r3), (1, ((100 * r3) + (10 * l6)) + l7), (9, 0)]) (pc := 100) dX9_nextBoard_100 rfl (by decide) (hp1 (t := 0) rfl (by decide)) ho12 rfl ?_
            refine a_goto (tgt := 20) (pc := 103) dX9_nextBoard_103 (by decide) ?_
            exact a_msk [true, true, true, true, true, true, true, true, false, false, true] rfl h
          · replace h := h.2 hc
            refine a_lload (pc := 91) dX9_nextBoard_91 rfl ?_
            refine a_goto (tgt := 98) (pc := 93) dX9_nextBoard_93 (by decide) ?_
            refine a_lstore (ls1 := [(2, 275), (0, l1), (1, l2), (9, 0), (1, ((100 * r3) + (10 * l6)) + l7), (9, 0), (0, l6), (0, l7), (0, r3), (1, ((100 * r3) + (10 * l6)) + l7), (9, 0)]) (pc := 98) dX9_nextBoard_98 (by decide) (hp1 (t := 9) rfl (by decide)) rfl ?_
            have ho13 := h.1
            replace h := h.2
            refine a_iinc (ls1 := [(2, 275), (0, l1), (1, l2), (9, 0), (1, ((100 * r3) + (10 * l6)) + l7), (9, 0), (0, l6), (0, l7 + 1), (0, r3), (1, ((100 * r3) + (10 * l6)) + l7), (9, 0)]) (pc := 100) dX9_nextBoard_100 rfl (by decide) (hp1 (t := 0) rfl (by decide)) ho13 rfl ?_
            refine a_goto (tgt := 20) (pc := 103) dX9_nextBoard_103 (by decide) ?_
            exact a_msk [true, true, true, true, true, true, true, true, false, false, true] rfl h
theorem E_R_nextBoard {l1 l2 : Int} {M : Mem} {Q : Int → Mem → Prop} (h : AW mX9_nextBoard 0 [(2, 275), (0, l1), (1, l2), (9, 0), (9, 0), (9, 0), (9, 0), (9, 0), (9, 0), (9, 0), (9, 0)] M Q) : Calls mX9_nextBoard [(2, 275), (0, l1), (1, l2)] S0 M Q := calls_of (by decide) (by decide) (Nat.le_of_ble_eq_true rfl) rfl h
set_option maxRecDepth 100000 in
set_option maxHeartbeats 4000000 in
theorem B_R_readDelay_0 {l1 : Int} {M : Mem} {Q : Int → Mem → Prop} (h : (-2147483648 ≤ (M 275 0) - 1 ∧ (M 275 0) - 1 ≤ 2147483647) ∧ Calls mX9_readWithin [(2, 275), (0, 1), (0, 0), (0, (M 275 0) - 1)] S0 M (fun r2 M3 => Calls mX9_wants [(2, 275), (0, 46)] S0 M3 (fun r4 M5 => (((M5 275 28) = 0 → (0 ≤ r2 ∧ r2 < 8) ∧ (-2147483648 ≤ (M5 279 r2) - 1 ∧ (M5 279 r2) - 1 ≤ 2147483647) ∧ Calls mX9_readWithin [(2, 275), (0, 1), (0, 0), (0, (M5 279 r2) - 1)] S0 M5 (fun r8 M9 => Calls mX9_wants [(2, 275), (0, 64)] S0 M9 (fun r10 M11 => (((M11 275 28) = 0 → (0 ≤ r2 ∧ r2 < 8) ∧ (-2147483648 ≤ (M11 277 r2) - 1 ∧ (M11 277 r2) - 1 ≤ 2147483647) ∧ Calls mX9_readWithin [(2, 275), (0, 1), (0, 0), (0, (M11 277 r2) - 1)] S0 M11 (fun r14 M15 => Calls mX9_wants [(2, 275), (0, 43)] S0 M15 (fun r16 M17 => Calls mX9_readWithin [(2, 275), (0, 2), (0, 1), (0, 99)] S0 M17 (fun r18 M19 => ((¬ (M19 275 28) = 0 → ((¬ (M19 275 28) = 0 → ((¬ (M19 275 28) = 0 → Q 0 M19) ∧ ((M19 275 28) = 0 → Calls mX9_delays [(2, 275), (0, r2), (0, r8), (0, r14), (0, r18)] S0 M19 (fun r20 M21 => Q 0 M21)))) ∧ ((M19 275 28) = 0 → ((¬ (M19 275 28) = 0 → Q 0 M19) ∧ ((M19 275 28) = 0 → Calls mX9_delays [(2, 275), (0, r2), (0, r8), (0, r14), (0, r18)] S0 M19 (fun r22 M23 => Q 0 M23)))))) ∧ ((M19 275 28) = 0 → (0 ≤ r2 ∧ r2 < 8) ∧ (-2147483648 ≤ (M19 277 r2) - 1 ∧ (M19 277 r2) - 1 ≤ 2147483647) ∧ (-2147483648 ≤ 36 * r2 ∧ 36 * r2 ≤ 2147483647) ∧ (-2147483648 ≤ 6 * r8 ∧ 6 * r8 ≤ 2147483647) ∧ (-2147483648 ≤ (36 * r2) + (6 * r8) ∧ (36 * r2) + (6 * r8) ≤ 2147483647) ∧ (-2147483648 ≤ ((36 * r2) + (6 * r8)) + ((M19 277 r2) - 1) ∧ ((36 * r2) + (6 * r8)) + ((M19 277 r2) - 1) ≤ 2147483647) ∧ (0 ≤ ((36 * r2) + (6 * r8)) + ((M19 277 r2) - 1) ∧ ((36 * r2) + (6 * r8)) + ((M19 277 r2) - 1) < 288) ∧ (-2147483648 ≤ (M19 281 (((36 * r2) + (6 * r8)) + ((M19 277 r2) - 1))) + r18 ∧ (M19 281 (((36 * r2) + (6 * r8)) + ((M19 277 r2) - 1))) + r18 ≤ 2147483647) ∧ ((((M19 281 (((36 * r2) + (6 * r8)) + ((M19 277 r2) - 1))) + r18) ≤ 9000 → ((¬ (M19 275 28) = 0 → ((¬ (M19 275 28) = 0 → Q 0 M19) ∧ ((M19 275 28) = 0 → Calls mX9_delays [(2, 275), (0, r2), (0, r8), (0, r14), (0, r18)] S0 M19 (fun r32 M33 => Q 0 M33)))) ∧ ((M19 275 28) = 0 → ((¬ (M19 275 28) = 0 → Q 0 M19) ∧ ((M19 275 28) = 0 → Calls mX9_delays [(2, 275), (0, r2), (0, r8), (0, r14), (0, r18)] S0 M19 (fun r34 M35 => Q 0 M35)))))) ∧ (¬ (((M19 281 (((36 * r2) + (6 * r8)) + ((M19 277 r2) - 1))) + r18) ≤ 9000) → ((¬ (M19 275 28) = 0 → ((¬ (M19 275 28) = 0 → Q 0 M19) ∧ ((M19 275 28) = 0 → Calls mX9_delays [(2, 275), (0, r2), (0, r8), (0, r14), (0, r18)] S0 M19 (fun r36 M37 => Q 0 M37)))) ∧ ((M19 275 28) = 0 → Q 0 (up2 (up2 M19 275 28 1) 275 27 l1))))))))))) ∧ (¬ ((M11 275 28) = 0) → Calls mX9_readWithin [(2, 275), (0, 1), (0, 0), (0, 0)] S0 M11 (fun r38 M39 => Calls mX9_wants [(2, 275), (0, 43)] S0 M39 (fun r40 M41 => Calls mX9_readWithin [(2, 275), (0, 2), (0, 1), (0, 99)] S0 M41 (fun r42 M43 => ((¬ (M43 275 28) = 0 → ((¬ (M43 275 28) = 0 → ((¬ (M43 275 28) = 0 → Q 0 M43) ∧ ((M43 275 28) = 0 → Calls mX9_delays [(2, 275), (0, r2), (0, r8), (0, r38), (0, r42)] S0 M43 (fun r44 M45 => Q 0 M45)))) ∧ ((M43 275 28) = 0 → ((¬ (M43 275 28) = 0 → Q 0 M43) ∧ ((M43 275 28) = 0 → Calls mX9_delays [(2, 275), (0, r2), (0, r8), (0, r38), (0, r42)] S0 M43 (fun r46 M47 => Q 0 M47)))))) ∧ ((M43 275 28) = 0 → (0 ≤ r2 ∧ r2 < 8) ∧ (-2147483648 ≤ (M43 277 r2) - 1 ∧ (M43 277 r2) - 1 ≤ 2147483647) ∧ (-2147483648 ≤ 36 * r2 ∧ 36 * r2 ≤ 2147483647) ∧ (-2147483648 ≤ 6 * r8 ∧ 6 * r8 ≤ 2147483647) ∧ (-2147483648 ≤ (36 * r2) + (6 * r8) ∧ (36 * r2) + (6 * r8) ≤ 2147483647) ∧ (-2147483648 ≤ ((36 * r2) + (6 * r8)) + ((M43 277 r2) - 1) ∧ ((36 * r2) + (6 * r8)) + ((M43 277 r2) - 1) ≤ 2147483647) ∧ (0 ≤ ((36 * r2) + (6 * r8)) + ((M43 277 r2) - 1) ∧ ((36 * r2) + (6 * r8)) + ((M43 277 r2) - 1) < 288) ∧ (-2147483648 ≤ (M43 281 (((36 * r2) + (6 * r8)) + ((M43 277 r2) - 1))) + r42 ∧ (M43 281 (((36 * r2) + (6 * r8)) + ((M43 277 r2) - 1))) + r42 ≤ 2147483647) ∧ ((((M43 281 (((36 * r2) + (6 * r8)) + ((M43 277 r2) - 1))) + r42) ≤ 9000 → ((¬ (M43 275 28) = 0 → ((¬ (M43 275 28) = 0 → Q 0 M43) ∧ ((M43 275 28) = 0 → Calls mX9_delays [(2, 275), (0, r2), (0, r8), (0, r38), (0, r42)] S0 M43 (fun r56 M57 => Q 0 M57)))) ∧ ((M43 275 28) = 0 → ((¬ (M43 275 28) = 0 → Q 0 M43) ∧ ((M43 275 28) = 0 → Calls mX9_delays [(2, 275), (0, r2), (0, r8), (0, r38), (0, r42)] S0 M43 (fun r58 M59 => Q 0 M59)))))) ∧ (¬ (((M43 281 (((36 * r2) + (6 * r8)) + ((M43 277 r2) - 1))) + r42) ≤ 9000) → ((¬ (M43 275 28) = 0 → ((¬ (M43 275 28) = 0 → Q 0 M43) ∧ ((M43 275 28) = 0 → Calls mX9_delays [(2, 275), (0, r2), (0, r8), (0, r38), (0, r42)] S0 M43 (fun r60 M61 => Q 0 M61)))) ∧ ((M43 275 28) = 0 → Q 0 (up2 (up2 M43 275 28 1) 275 27 l1))))))))))))))) ∧ (¬ ((M5 275 28) = 0) → Calls mX9_readWithin [(2, 275), (0, 1), (0, 0), (0, 0)] S0 M5 (fun r62 M63 => Calls mX9_wants [(2, 275), (0, 64)] S0 M63 (fun r64 M65 => (((M65 275 28) = 0 → (0 ≤ r2 ∧ r2 < 8) ∧ (-2147483648 ≤ (M65 277 r2) - 1 ∧ (M65 277 r2) - 1 ≤ 2147483647) ∧ Calls mX9_readWithin [(2, 275), (0, 1), (0, 0), (0, (M65 277 r2) - 1)] S0 M65 (fun r68 M69 => Calls mX9_wants [(2, 275), (0, 43)] S0 M69 (fun r70 M71 => Calls mX9_readWithin [(2, 275), (0, 2), (0, 1), (0, 99)] S0 M71 (fun r72 M73 => ((¬ (M73 275 28) = 0 → ((¬ (M73 275 28) = 0 → ((¬ (M73 275 28) = 0 → Q 0 M73) ∧ ((M73 275 28) = 0 → Calls mX9_delays [(2, 275), (0, r2), (0, r62), (0, r68), (0, r72)] S0 M73 (fun r74 M75 => Q 0 M75)))) ∧ ((M73 275 28) = 0 → ((¬ (M73 275 28) = 0 → Q 0 M73) ∧ ((M73 275 28) = 0 → Calls mX9_delays [(2, 275), (0, r2), (0, r62), (0, r68), (0, r72)] S0 M73 (fun r76 M77 => Q 0 M77)))))) ∧ ((M73 275 28) = 0 → (0 ≤ r2 ∧ r2 < 8) ∧ (-2147483648 ≤ (M73 277 r2) - 1 ∧ (M73 277 r2) - 1 ≤ 2147483647) ∧ (-2147483648 ≤ 36 * r2 ∧ 36 * r2 ≤ 2147483647) ∧ (-2147483648 ≤ 6 * r62 ∧ 6 * r62 ≤ 2147483647) ∧ (-2147483648 ≤ (36 * r2) + (6 * r62) ∧ (36 * r2) + (6 * r62) ≤ 2147483647) ∧ (-2147483648 ≤ ((36 * r2) + (6 * r62)) + ((M73 277 r2) - 1) ∧ ((36 * r2) + (6 * r62)) + ((M73 277 r2) - 1) ≤ 2147483647) ∧ (0 ≤ ((36 * r2) + (6 * r62)) + ((M73 277 r2) - 1) ∧ ((36 * r2) + (6 * r62)) + ((M73 277 r2) - 1) < 288) ∧ (-2147483648 ≤ (M73 281 (((36 * r2) + (6 * r62)) + ((M73 277 r2) - 1))) + r72 ∧ (M73 281 (((36 * r2) + (6 * r62)) + ((M73 277 r2) - 1))) + r72 ≤ 2147483647) ∧ ((((M73 281 (((36 * r2) + (6 * r62)) + ((M73 277 r2) - 1))) + r72) ≤ 9000 → ((¬ (M73 275 28) = 0 → ((¬ (M73 275 28) = 0 → Q 0 M73) ∧ ((M73 275 28) = 0 → Calls mX9_delays [(2, 275), (0, r2), (0, r62), (0, r68), (0, r72)] S0 M73 (fun r86 M87 => Q 0 M87)))) ∧ ((M73 275 28) = 0 → ((¬ (M73 275 28) = 0 → Q 0 M73) ∧ ((M73 275 28) = 0 → Calls mX9_delays [(2, 275), (0, r2), (0, r62), (0, r68), (0, r72)] S0 M73 (fun r88 M89 => Q 0 M89)))))) ∧ (¬ (((M73 281 (((36 * r2) + (6 * r62)) + ((M73 277 r2) - 1))) + r72) ≤ 9000) → ((¬ (M73 275 28) = 0 → ((¬ (M73 275 28) = 0 → Q 0 M73) ∧ ((M73 275 28) = 0 → Calls mX9_delays [(2, 275), (0, r2), (0, r62), (0, r68), (0, r72)] S0 M73 (fun r90 M91 => Q 0 M91)))) ∧ ((M73 275 28) = 0 → Q 0 (up2 (up2 M73 275 28 1) 275 27 l1))))))))))) ∧ (¬ ((M65 275 28) = 0) → Calls mX9_readWithin [(2, 275), (0, 1), (0, 0), (0, 0)] S0 M65 (fun r92 M93 => Calls mX9_wants [(2, 275), (0, 43)] S0 M93 (fun r94 M95 => Calls mX9_readWithin [(2, 275), (0, 2), (0, 1), (0, 99)] S0 M95 (fun r96 M97 => ((¬ (M97 275 28) = 0 → ((¬ (M97 275 28) = 0 → ((¬ (M97 275 28) = 0 → Q 0 M97) ∧ ((M97 275 28) = 0 → Calls mX9_delays [(2, 275), (0, r2), (0, r62), (0, r92), (0, r96)] S0 M97 (fun r98 M99 => Q 0 M99)))) ∧ ((M97 275 28) = 0 → ((¬ (M97 275 28) = 0 → Q 0 M97) ∧ ((M97 275 28) = 0 → Calls mX9_delays [(2, 275), (0, r2), (0, r62), (0, r92), (0, r96)] S0 M97 (fun r100 M101 => Q 0 M101)))))) ∧ ((M97 275 28) = 0 → (0 ≤ r2 ∧ r2 < 8) ∧ (-2147483648 ≤ (M97 277 r2) - 1 ∧ (M97 277 r2) - 1 ≤ 2147483647) ∧ (-2147483648 ≤ 36 * r2 ∧ 36 * r2 ≤ 2147483647) ∧ (-2147483648 ≤ 6 * r62 ∧ 6 * r62 ≤ 2147483647) ∧ (-2147483648 ≤ (36 * r2) + (6 * r62) ∧ (36 * r2) + (6 * r62) ≤ 2147483647) ∧ (-2147483648 ≤ ((36 * r2) + (6 * r62)) + ((M97 277 r2) - 1) ∧ ((36 * r2) + (6 * r62)) + ((M97 277 r2) - 1) ≤ 2147483647) ∧ (0 ≤ ((36 * r2) + (6 * r62)) + ((M97 277 r2) - 1) ∧ ((36 * r2) + (6 * r62)) + ((M97 277 r2) - 1) < 288) ∧ (-2147483648 ≤ (M97 281 (((36 * r2) + (6 * r62)) + ((M97 277 r2) - 1))) + r96 ∧ (M97 281 (((36 * r2) + (6 * r62)) + ((M97 277 r2) - 1))) + r96 ≤ 2147483647) ∧ ((((M97 281 (((36 * r2) + (6 * r62)) + ((M97 277 r2) - 1))) + r96) ≤ 9000 → ((¬ (M97 275 28) = 0 → ((¬ (M97 275 28) = 0 → Q 0 M97) ∧ ((M97 275 28) = 0 → Calls mX9_delays [(2, 275), (0, r2), (0, r62), (0, r92), (0, r96)] S0 M97 (fun r110 M111 => Q 0 M111)))) ∧ ((M97 275 28) = 0 → ((¬ (M97 275 28) = 0 → Q 0 M97) ∧ ((M97 275 28) = 0 → Calls mX9_delays [(2, 275), (0, r2), (0, r62), (0, r92), (0, r96)] S0 M97 (fun r112 M113 => Q 0 M113)))))) ∧ (¬ (((M97 281 (((36 * r2) + (6 * r62)) + ((M97 277 r2) - 1))) + r96) ≤ 9000) → ((¬ (M97 275 28) = 0 → ((¬ (M97 275 28) = 0 → Q 0 M97) ∧ ((M97 275 28) = 0 → Calls mX9_delays [(2, 275), (0, r2), (0, r62), (0, r92), (0, r96)] S0 M97 (fun r114 M115 => Q 0 M115)))) ∧ ((M97 275 28) = 0 → Q 0 (up2 (up2 M97 275 28 1) 275 27 l1))))))))))))))))))) : AW mX9_readDelay 0 [(2, 275), (0, l1), (9, 0), (9, 0), (9, 0), (9, 0)] M Q := by
  refine a_aload_n (pc := 0) dX9_readDelay_0 (by decide) rfl ?_
  refine a_iconst (pc := 1) dX9_readDelay_1 (by decide) ?_
  refine a_iconst (pc := 2) dX9_readDelay_2 (by decide) ?_
  refine a_aload_n (pc := 3) dX9_readDelay_3 (by decide) rfl ?_
  refine a_getI (y := 0) (pc := 4) dX9_readDelay_4 fl_RX9_98 (by decide) s0_275 (Or.inl rfl) rfl ?_
  refine a_iconst (pc := 7) dX9_readDelay_7 (by decide) ?_
  have ho1 := h.1
  replace h := h.2
  refine a_isub (pc := 8) dX9_readDelay_8 ho1 ?_
  refine p_callV (As := [(0, 1), (0, 0), (0, (M 275 0) - 1)]) (st := []) (st1 := fun r => [(0, r)])  (pc := 9) dX9_readDelay_9 ml_RX9_205 (by decide) s0_275 rfl (by decide) (Nat.le_of_ble_eq_true rfl) rfl (fun _ => rfl) h (fun r2 M3 h => ?_)
  refine a_istore_n (ls1 := [(2, 275), (0, l1), (0, r2), (9, 0), (9, 0), (9, 0)]) (pc := 12) dX9_readDelay_12 (by decide) (hp1 (t := 0) rfl (by decide)) rfl ?_
  refine a_aload_n (pc := 13) dX9_readDelay_13 (by decide) rfl ?_
  refine a_bipush (pc := 14) dX9_readDelay_14 (by decide) (by decide +kernel) ?_
  refine p_callV (As := [(0, 46)]) (st := []) (st1 := fun r => [])  (pc := 16) dX9_readDelay_16 ml_RX9_208 (by decide) s0_275 rfl (by decide) (Nat.le_of_ble_eq_true rfl) rfl (fun _ => rfl) h (fun r4 M5 h => ?_)
  refine a_aload_n (pc := 19) dX9_readDelay_19 (by decide) rfl ?_
  refine a_iconst (pc := 20) dX9_readDelay_20 (by decide) ?_
  refine a_iconst (pc := 21) dX9_readDelay_21 (by decide) ?_
  refine a_aload_n (pc := 22) dX9_readDelay_22 (by decide) rfl ?_
  refine a_getI (y := 28) (pc := 23) dX9_readDelay_23 fl_RX9_179 (by decide) s0_275 (Or.inr rfl) rfl ?_
  refine a_if_eq (tgt := 33) (pc := 26) dX9_readDelay_26 (by decide) (fun hc => ?_) (fun hc => ?_)
  · replace h := h.1 hc
    refine a_aload_n (pc := 33) dX9_readDelay_33 (by decide) rfl ?_
    refine a_getR (y := 279) (pc := 34) dX9_readDelay_34 fl_RX9_19 (by decide) s0_275 rfl rfl ?_
    refine a_iload_n (pc := 37) dX9_readDelay_37 rfl ?_
    have ho6 := h.1
    replace h := h.2
    refine a_iald (pc := 38) dX9_readDelay_38 (by decide) s0_279 ho6.1 ho6.2 ?_
    refine a_iconst (pc := 39) dX9_readDelay_39 (by decide) ?_
    have ho7 := h.1
    replace h := h.2
    refine a_isub (pc := 40) dX9_readDelay_40 ho7 ?_
    refine p_callV (As := [(0, 1), (0, 0), (0, (M5 279 r2) - 1)]) (st := []) (st1 := fun r => [(0, r)])  (pc := 41) dX9_readDelay_41 ml_RX9_205 (by decide) s0_275 rfl (by decide) (Nat.le_of_ble_eq_true rfl) rfl (fun _ => rfl) h (fun r8 M9 h => ?_)
    refine a_istore_n (ls1 := [(2, 275), (0, l1), (0, r2), (0, r8), (9, 0), (9, 0)]) (pc := 44) dX9_readDelay_44 (by decide) (hp1 (t := 0) rfl (by decide)) rfl ?_
    refine a_aload_n (pc := 45) dX9_readDelay_45 (by decide) rfl ?_
    refine a_bipush (pc := 46) dX9_readDelay_46 (by decide) (by decide +kernel) ?_
    refine p_callV (As := [(0, 64)]) (st := []) (st1 := fun r => [])  (pc := 48) dX9_readDelay_48 ml_RX9_208 (by decide) s0_275 rfl (by decide) (Nat.le_of_ble_eq_true rfl) rfl (fun _ => rfl) h (fun r10 M11 h => ?_)
    refine a_aload_n (pc := 51) dX9_readDelay_51 (by decide) rfl ?_
    refine a_iconst (pc := 52) dX9_readDelay_52 (by decide) ?_
    refine a_iconst (pc := 53) dX9_readDelay_53 (by decide) ?_
    refine a_aload_n (pc := 54) dX9_readDelay_54 (by decide) rfl ?_
    refine a_getI (y := 28) (pc := 55) dX9_readDelay_55 fl_RX9_179 (by decide) s0_275 (Or.inr rfl) rfl ?_
    refine a_if_eq (tgt := 65) (pc := 58) dX9_readDelay_58 (by decide) (fun hc => ?_) (fun hc => ?_)
    · replace h := h.1 hc
      refine a_aload_n (pc := 65) dX9_readDelay_65 (by decide) rfl ?_
      refine a_getR (y := 277) (pc := 66) dX9_readDelay_66 fl_RX9_13 (by decide) s0_275 rfl rfl ?_
      refine a_iload_n (pc := 69) dX9_readDelay_69 rfl ?_
      have ho12 := h.1
      replace h := h.2
      refine a_iald (pc := 70) dX9_readDelay_70 (by decide) s0_277 ho12.1 ho12.2 ?_
      refine a_iconst (pc := 71) dX9_readDelay_71 (by decide) ?_
      have ho13 := h.1
      replace h := h.2
      refine a_isub (pc := 72) dX9_readDelay_72 ho13 ?_
      refine p_callV (As := [(0, 1), (0, 0), (0, (M11 277 r2) - 1)]) (st := []) (st1 := fun r => [(0, r)])  (pc := 73) dX9_readDelay_73 ml_RX9_205 (by decide) s0_275 rfl (by decide) (Nat.le_of_ble_eq_true rfl) rfl (fun _ => rfl) h (fun r14 M15 h => ?_)
      refine a_istore (ls1 := [(2, 275), (0, l1), (0, r2), (0, r8), (0, r14), (9, 0)]) (pc := 76) dX9_readDelay_76 (by decide) (hp1 (t := 0) rfl (by decide)) rfl ?_
      refine a_aload_n (pc := 78) dX9_readDelay_78 (by decide) rfl ?_
      refine a_bipush (pc := 79) dX9_readDelay_79 (by decide) (by decide +kernel) ?_
      refine p_callV (As := [(0, 43)]) (st := []) (st1 := fun r => [])  (pc := 81) dX9_readDelay_81 ml_RX9_208 (by decide) s0_275 rfl (by decide) (Nat.le_of_ble_eq_true rfl) rfl (fun _ => rfl) h (fun r16 M17 h => ?_)
      refine a_aload_n (pc := 84) dX9_readDelay_84 (by decide) rfl ?_
      refine a_iconst (pc := 85) dX9_readDelay_85 (by decide) ?_
      refine a_iconst (pc := 86) dX9_readDelay_86 (by decide) ?_
      refine a_bipush (pc := 87) dX9_readDelay_87 (by decide) (by decide +kernel) ?_
      refine p_callV (As := [(0, 2), (0, 1), (0, 99)]) (st := []) (st1 := fun r => [(0, r)])  (pc := 89) dX9_readDelay_89 ml_RX9_205 (by decide) s0_275 rfl (by decide) (Nat.le_of_ble_eq_true rfl) rfl (fun _ => rfl) h (fun r18 M19 h => ?_)
      refine a_istore (ls1 := [(2, 275), (0, l1), (0, r2), (0, r8), (0, r14), (0, r18)]) (pc := 92) dX9_readDelay_92 (by decide) (hp1 (t := 0) rfl (by decide)) rfl ?_
      refine a_aload_n (pc := 94) dX9_readDelay_94 (by decide) rfl ?_
      refine a_aload_n (pc := 95) dX9_readDelay_95 (by decide) rfl ?_
      refine a_getI (y := 28) (pc := 96) dX9_readDelay_96 fl_RX9_179 (by decide) s0_275 (Or.inr rfl) rfl ?_
      refine a_if_ne (tgt := 113) (pc := 99) dX9_readDelay_99 (by decide) (fun hc => ?_) (fun hc => ?_)
      · replace h := h.1 hc
        refine a_iconst (pc := 113) dX9_readDelay_113 (by decide) ?_
        refine a_goto (tgt := 118) (pc := 114) dX9_readDelay_114 (by decide) ?_
        refine a_iload_n (pc := 118) dX9_readDelay_118 rfl ?_
        refine p_inlV (Ex := _) (As := [(0, 1), (0, l1)]) (st := []) (st1 := fun r => [])  (pc := 119) dX9_readDelay_119 ml_RX9_201 (by decide) s0_275 rfl (by decide) (Nat.le_of_ble_eq_true rfl) rfl (fun _ => rfl) (by decide) (by decide) (Nat.le_of_ble_eq_true rfl) rfl ?_
        refine a_aload_n (pc := 0) dX9_mustBe_0 (by decide) rfl ?_
        refine a_getI (y := 28) (pc := 1) dX9_mustBe_1 fl_RX9_179 (by decide) s0_275 (Or.inr rfl) rfl ?_
        refine a_if_ne (tgt := 21) (pc := 4) dX9_mustBe_4 (by decide) (fun hc => ?_) (fun hc => ?_)
        · replace h := h.1 hc
          refine a_vret (pc := 21) dX9_mustBe_21 rfl rfl (Nat.le_of_ble_eq_true rfl) ⟨rfl, ?_⟩
          refine a_aload_n (pc := 122) dX9_readDelay_122 (by decide) rfl ?_
          refine a_getI (y := 28) (pc := 123) dX9_readDelay_123 fl_RX9_179 (by decide) s0_275 (Or.inr rfl) rfl ?_
          refine a_if_ne (tgt := 139) (pc := 126) dX9_readDelay_126 (by decide) (fun hc => ?_) (fun hc => ?_)
          · replace h := h.1 hc
            exact a_vret (pc := 139) dX9_readDelay_139 rfl rfl (Nat.le_of_ble_eq_true rfl) ⟨rfl, h⟩
          · replace h := h.2 hc
            refine a_aload_n (pc := 129) dX9_readDelay_129 (by decide) rfl ?_
            refine a_iload_n (pc := 130) dX9_readDelay_130 rfl ?_
            refine a_iload_n (pc := 131) dX9_readDelay_131 rfl ?_
            refine a_iload (pc := 132) dX9_readDelay_132 rfl ?_
            refine a_iload (pc := 134) dX9_readDelay_134 rfl ?_
            refine p_callV (As := [(0, r2), (0, r8), (0, r14), (0, r18)]) (st := []) (st1 := fun r => [])  (pc := 136) dX9_readDelay_136 ml_RX9_214 (by decide) s0_275 rfl (by decide) (Nat.le_of_ble_eq_true rfl) rfl (fun _ => rfl) h (fun r20 M21 h => ?_)
            exact a_vret (pc := 139) dX9_readDelay_139 rfl rfl (Nat.le_of_ble_eq_true rfl) ⟨rfl, h⟩
        · replace h := h.2 hc
          refine a_iload_n (pc := 7) dX9_mustBe_7 rfl ?_
          refine a_if_ne (tgt := 21) (pc := 8) dX9_mustBe_8 (by decide) (fun _ => ?_) (fun hc => absurd hc (by decide))
          refine a_vret (pc := 21) dX9_mustBe_21 rfl rfl (Nat.le_of_ble_eq_true rfl) ⟨rfl, ?_⟩
          refine a_aload_n (pc := 122) dX9_readDelay_122 (by decide) rfl ?_
          refine a_getI (y := 28) (pc := 123) dX9_readDelay_123 fl_RX9_179 (by decide) s0_275 (Or.inr rfl) rfl ?_
          refine a_if_ne (tgt := 139) (pc := 126) dX9_readDelay_126 (by decide) (fun hc => ?_) (fun hc => ?_)
          · replace h := h.1 hc
            exact a_vret (pc := 139) dX9_readDelay_139 rfl rfl (Nat.le_of_ble_eq_true rfl) ⟨rfl, h⟩
          · replace h := h.2 hc
            refine a_aload_n (pc := 129) dX9_readDelay_129 (by decide) rfl ?_
            refine a_iload_n (pc := 130) dX9_readDelay_130 rfl ?_
            refine a_iload_n (pc := 131) dX9_readDelay_131 rfl ?_
            refine a_iload (pc := 132) dX9_readDelay_132 rfl ?_
            refine a_iload (pc := 134) dX9_readDelay_134 rfl ?_
            refine p_callV (As := [(0, r2), (0, r8), (0, r14), (0, r18)]) (st := []) (st1 := fun r => [])  (pc := 136) dX9_readDelay_136 ml_RX9_214 (by decide) s0_275 rfl (by decide) (Nat.le_of_ble_eq_true rfl) rfl (fun _ => rfl) h (fun r22 M23 h => ?_)
            exact a_vret (pc := 139) dX9_readDelay_139 rfl rfl (Nat.le_of_ble_eq_true rfl) ⟨rfl, h⟩
      · replace h := h.2 hc
        refine a_aload_n (pc := 102) dX9_readDelay_102 (by decide) rfl ?_
        refine a_iload_n (pc := 103) dX9_readDelay_103 rfl ?_
        refine a_iload_n (pc := 104) dX9_readDelay_104 rfl ?_
        refine a_iload (pc := 105) dX9_readDelay_105 rfl ?_
        refine p_inlV (Ex := _) (As := [(0, r2), (0, r8), (0, r18)]) (st := [(2, 275)]) (st1 := fun r => [(0, r), (2, 275)])  (pc := 107) dX9_readDelay_107 ml_RX9_211 (by decide) s0_275 rfl (by decide) (Nat.le_of_ble_eq_true rfl) rfl (fun _ => rfl) (by decide) (by decide) (Nat.le_of_ble_eq_true rfl) rfl ?_
        refine a_aload_n (pc := 0) dX9_isTooLate_0 (by decide) rfl ?_
        refine a_iload_n (pc := 1) dX9_isTooLate_1 rfl ?_
        refine a_iload_n (pc := 2) dX9_isTooLate_2 rfl ?_
        refine a_aload_n (pc := 3) dX9_isTooLate_3 (by decide) rfl ?_
        refine a_getR (y := 277) (pc := 4) dX9_isTooLate_4 fl_RX9_13 (by decide) s0_275 rfl rfl ?_
        refine a_iload_n (pc := 7) dX9_isTooLate_7 rfl ?_
        have ho24 := h.1
        replace h := h.2
        refine a_iald (pc := 8) dX9_isTooLate_8 (by decide) s0_277 ho24.1 ho24.2 ?_
        refine a_iconst (pc := 9) dX9_isTooLate_9 (by decide) ?_
        have ho25 := h.1
        replace h := h.2
        refine a_isub (pc := 10) dX9_isTooLate_10 ho25 ?_
        refine p_inlV (Ex := _) (As := [(0, r2), (0, r8), (0, (M19 277 r2) - 1)]) (st := []) (st1 := fun r => [(0, r)])  (pc := 11) dX9_isTooLate_11 ml_RX9_120 (by decide) s0_275 rfl (by decide) (Nat.le_of_ble_eq_true rfl) rfl (fun _ => rfl) (by decide) (by decide) (Nat.le_of_ble_eq_true rfl) rfl ?_
        refine a_aload_n (pc := 0) dX9_minuteAt_0 (by decide) rfl ?_
        refine a_getR (y := 281) (pc := 1) dX9_minuteAt_1 fl_RX9_25 (by decide) s0_275 rfl rfl ?_
        refine a_bipush (pc := 4) dX9_minuteAt_4 (by decide) (by decide +kernel) ?_
        refine a_iload_n (pc := 6) dX9_minuteAt_6 rfl ?_
        have ho26 := h.1
        replace h := h.2
        refine a_imul (pc := 7) dX9_minuteAt_7 ho26 ?_
        refine a_bipush (pc := 8) dX9_minuteAt_8 (by decide) (by decide +kernel) ?_
        refine a_iload_n (pc := 10) dX9_minuteAt_10 rfl ?_
        have ho27 := h.1
        replace h := h.2
        refine a_imul (pc := 11) dX9_minuteAt_11 ho27 ?_
        have ho28 := h.1
        replace h := h.2
        refine a_iadd (pc := 12) dX9_minuteAt_12 ho28 ?_
        refine a_iload_n (pc := 13) dX9_minuteAt_13 rfl ?_
        have ho29 := h.1
        replace h := h.2
        refine a_iadd (pc := 14) dX9_minuteAt_14 ho29 ?_
        have ho30 := h.1
        replace h := h.2
        refine a_iald (pc := 15) dX9_minuteAt_15 (by decide) s0_281 ho30.1 ho30.2 ?_
        refine a_ireti (pc := 16) dX9_minuteAt_16 rfl rfl (Nat.le_of_ble_eq_true rfl) ⟨rfl, ?_⟩
        refine a_iload_n (pc := 14) dX9_isTooLate_14 rfl ?_
        have ho31 := h.1
        replace h := h.2
        refine a_iadd (pc := 15) dX9_isTooLate_15 ho31 ?_
        refine a_sipush (pc := 16) dX9_isTooLate_16 (by decide) (by decide +kernel) ?_
        refine a_icmp_le (tgt := 26) (pc := 19) dX9_isTooLate_19 (by decide) (fun hc => ?_) (fun hc => ?_)
        · replace h := h.1 hc
          refine a_iconst (pc := 26) dX9_isTooLate_26 (by decide) ?_
          refine a_iretz (pc := 27) dX9_isTooLate_27 rfl rfl (Nat.le_of_ble_eq_true rfl) (by decide) ⟨rfl, ?_⟩
          refine a_if_ne (tgt := 117) (pc := 110) dX9_readDelay_110 (by decide) (fun hc => absurd rfl hc) (fun _ => ?_)
          refine a_iconst (pc := 113) dX9_readDelay_113 (by decide) ?_
          refine a_goto (tgt := 118) (pc := 114) dX9_readDelay_114 (by decide) ?_
          refine a_iload_n (pc := 118) dX9_readDelay_118 rfl ?_
          refine p_inlV (Ex := _) (As := [(0, 1), (0, l1)]) (st := []) (st1 := fun r => [])  (pc := 119) dX9_readDelay_119 ml_RX9_201 (by decide) s0_275 rfl (by decide) (Nat.le_of_ble_eq_true rfl) rfl (fun _ => rfl) (by decide) (by decide) (Nat.le_of_ble_eq_true rfl) rfl ?_
          refine a_aload_n (pc := 0) dX9_mustBe_0 (by decide) rfl ?_
          refine a_getI (y := 28) (pc := 1) dX9_mustBe_1 fl_RX9_179 (by decide) s0_275 (Or.inr rfl) rfl ?_
          refine a_if_ne (tgt := 21) (pc := 4) dX9_mustBe_4 (by decide) (fun hc => ?_) (fun hc => ?_)
          · replace h := h.1 hc
            refine a_vret (pc := 21) dX9_mustBe_21 rfl rfl (Nat.le_of_ble_eq_true rfl) ⟨rfl, ?_⟩
            refine a_aload_n (pc := 122) dX9_readDelay_122 (by decide) rfl ?_
            refine a_getI (y := 28) (pc := 123) dX9_readDelay_123 fl_RX9_179 (by decide) s0_275 (Or.inr rfl) rfl ?_
            refine a_if_ne (tgt := 139) (pc := 126) dX9_readDelay_126 (by decide) (fun hc => ?_) (fun hc => ?_)
            · replace h := h.1 hc
              exact a_vret (pc := 139) dX9_readDelay_139 rfl rfl (Nat.le_of_ble_eq_true rfl) ⟨rfl, h⟩
            · replace h := h.2 hc
              refine a_aload_n (pc := 129) dX9_readDelay_129 (by decide) rfl ?_
              refine a_iload_n (pc := 130) dX9_readDelay_130 rfl ?_
              refine a_iload_n (pc := 131) dX9_readDelay_131 rfl ?_
              refine a_iload (pc := 132) dX9_readDelay_132 rfl ?_
              refine a_iload (pc := 134) dX9_readDelay_134 rfl ?_
              refine p_callV (As := [(0, r2), (0, r8), (0, r14), (0, r18)]) (st := []) (st1 := fun r => [])  (pc := 136) dX9_readDelay_136 ml_RX9_214 (by decide) s0_275 rfl (by decide) (Nat.le_of_ble_eq_true rfl) rfl (fun _ => rfl) h (fun r32 M33 h => ?_)
              exact a_vret (pc := 139) dX9_readDelay_139 rfl rfl (Nat.le_of_ble_eq_true rfl) ⟨rfl, h⟩
          · replace h := h.2 hc
            refine a_iload_n (pc := 7) dX9_mustBe_7 rfl ?_
            refine a_if_ne (tgt := 21) (pc := 8) dX9_mustBe_8 (by decide) (fun _ => ?_) (fun hc => absurd hc (by decide))
            refine a_vret (pc := 21) dX9_mustBe_21 rfl rfl (Nat.le_of_ble_eq_true rfl) ⟨rfl, ?_⟩
            refine a_aload_n (pc := 122) dX9_readDelay_122 (by decide) rfl ?_
            refine a_getI (y := 28) (pc := 123) dX9_readDelay_123 fl_RX9_179 (by decide) s0_275 (Or.inr rfl) rfl ?_
            refine a_if_ne (tgt := 139) (pc := 126) dX9_readDelay_126 (by decide) (fun hc => ?_) (fun hc => ?_)
            · replace h := h.1 hc
              exact a_vret (pc := 139) dX9_readDelay_139 rfl rfl (Nat.le_of_ble_eq_true rfl) ⟨rfl, h⟩
            · replace h := h.2 hc
              refine a_aload_n (pc := 129) dX9_readDelay_129 (by decide) rfl ?_
              refine a_iload_n (pc := 130) dX9_readDelay_130 rfl ?_
              refine a_iload_n (pc := 131) dX9_readDelay_131 rfl ?_
              refine a_iload (pc := 132) dX9_readDelay_132 rfl ?_
              refine a_iload (pc := 134) dX9_readDelay_134 rfl ?_
              refine p_callV (As := [(0, r2), (0, r8), (0, r14), (0, r18)]) (st := []) (st1 := fun r => [])  (pc := 136) dX9_readDelay_136 ml_RX9_214 (by decide) s0_275 rfl (by decide) (Nat.le_of_ble_eq_true rfl) rfl (fun _ => rfl) h (fun r34 M35 h => ?_)
              exact a_vret (pc := 139) dX9_readDelay_139 rfl rfl (Nat.le_of_ble_eq_true rfl) ⟨rfl, h⟩
        · replace h := h.2 hc
          refine a_iconst (pc := 22) dX9_isTooLate_22 (by decide) ?_
          refine a_goto (tgt := 27) (pc := 23) dX9_isTooLate_23 (by decide) ?_
          refine a_iretz (pc := 27) dX9_isTooLate_27 rfl rfl (Nat.le_of_ble_eq_true rfl) (by decide) ⟨rfl, ?_⟩
          refine a_if_ne (tgt := 117) (pc := 110) dX9_readDelay_110 (by decide) (fun _ => ?_) (fun hc => absurd hc (by decide))
          refine a_iconst (pc := 117) dX9_readDelay_117 (by decide) ?_
          refine a_iload_n (pc := 118) dX9_readDelay_118 rfl ?_
          refine p_inlV (Ex := _) (As := [(0, 0), (0, l1)]) (st := []) (st1 := fun r => [])  (pc := 119) dX9_readDelay_119 ml_RX9_201 (by decide) s0_275 rfl (by decide) (Nat.le_of_ble_eq_true rfl) rfl (fun _ => rfl) (by decide) (by decide) (Nat.le_of_ble_eq_true rfl) rfl ?_
          refine a_aload_n (pc := 0) dX9_mustBe_0 (by decide) rfl ?_
          refine a_getI (y := 28) (pc := 1) dX9_mustBe_1 fl_RX9_179 (by decide) s0_275 (Or.inr rfl) rfl ?_
          refine a_if_ne (tgt := 21) (pc := 4) dX9_mustBe_4 (by decide) (fun hc => ?_) (fun hc => ?_)
          · replace h := h.1 hc
            refine a_vret (pc := 21) dX9_mustBe_21 rfl rfl (Nat.le_of_ble_eq_true rfl) ⟨rfl, ?_⟩
            refine a_aload_n (pc := 122) dX9_readDelay_122 (by decide) rfl ?_
            refine a_getI (y := 28) (pc := 123) dX9_readDelay_123 fl_RX9_179 (by decide) s0_275 (Or.inr rfl) rfl ?_
            refine a_if_ne (tgt := 139) (pc := 126) dX9_readDelay_126 (by decide) (fun hc => ?_) (fun hc => ?_)
            · replace h := h.1 hc
              exact a_vret (pc := 139) dX9_readDelay_139 rfl rfl (Nat.le_of_ble_eq_true rfl) ⟨rfl, h⟩
            · replace h := h.2 hc
              refine a_aload_n (pc := 129) dX9_readDelay_129 (by decide) rfl ?_
              refine a_iload_n (pc := 130) dX9_readDelay_130 rfl ?_
              refine a_iload_n (pc := 131) dX9_readDelay_131 rfl ?_
              refine a_iload (pc := 132) dX9_readDelay_132 rfl ?_
              refine a_iload (pc := 134) dX9_readDelay_134 rfl ?_
              refine p_callV (As := [(0, r2), (0, r8), (0, r14), (0, r18)]) (st := []) (st1 := fun r => [])  (pc := 136) dX9_readDelay_136 ml_RX9_214 (by decide) s0_275 rfl (by decide) (Nat.le_of_ble_eq_true rfl) rfl (fun _ => rfl) h (fun r36 M37 h => ?_)
              exact a_vret (pc := 139) dX9_readDelay_139 rfl rfl (Nat.le_of_ble_eq_true rfl) ⟨rfl, h⟩
          · replace h := h.2 hc
            refine a_iload_n (pc := 7) dX9_mustBe_7 rfl ?_
            refine a_if_ne (tgt := 21) (pc := 8) dX9_mustBe_8 (by decide) (fun hc => absurd rfl hc) (fun _ => ?_)
            refine a_aload_n (pc := 11) dX9_mustBe_11 (by decide) rfl ?_
            refine a_iconst (pc := 12) dX9_mustBe_12 (by decide) ?_
            refine a_putZ (y := 28) (pc := 13) dX9_mustBe_13 fl_RX9_179 (by decide) s0_275 rfl rfl (tyX9_ok 28 (by decide)) rfl (by decide) ?_
            refine a_aload_n (pc := 16) dX9_mustBe_16 (by decide) rfl ?_
            refine a_iload_n (pc := 17) dX9_mustBe_17 rfl ?_
            refine a_putI (y := 27) (pc := 18) dX9_mustBe_18 fl_RX9_176 (by decide) s0_275 rfl rfl (tyX9_ok 27 (by decide)) rfl ?_
            refine a_vret (pc := 21) dX9_mustBe_21 rfl rfl (Nat.le_of_ble_eq_true rfl) ⟨rfl, ?_⟩
            refine a_aload_n (pc := 122) dX9_readDelay_122 (by decide) rfl ?_
            refine a_getI (y := 28) (pc := 123) dX9_readDelay_123 fl_RX9_179 (by decide) s0_275 (Or.inr rfl) rfl ?_
            refine a_eq (y := 1) rfl ?_
            refine a_if_ne (tgt := 139) (pc := 126) dX9_readDelay_126 (by decide) (fun _ => ?_) (fun hc => absurd hc (by decide))
            exact a_vret (pc := 139) dX9_readDelay_139 rfl rfl (Nat.le_of_ble_eq_true rfl) ⟨rfl, h⟩
    · replace h := h.2 hc
      refine a_iconst (pc := 61) dX9_readDelay_61 (by decide) ?_
      refine a_goto (tgt := 73) (pc := 62) dX9_readDelay_62 (by decide) ?_
      refine p_callV (As := [(0, 1), (0, 0), (0, 0)]) (st := []) (st1 := fun r => [(0, r)])  (pc := 73) dX9_readDelay_73 ml_RX9_205 (by decide) s0_275 rfl (by decide) (Nat.le_of_ble_eq_true rfl) rfl (fun _ => rfl) h (fun r38 M39 h => ?_)
      refine a_istore (ls1 := [(2, 275), (0, l1), (0, r2), (0, r8), (0, r38), (9, 0)]) (pc := 76) dX9_readDelay_76 (by decide) (hp1 (t := 0) rfl (by decide)) rfl ?_
      refine a_aload_n (pc := 78) dX9_readDelay_78 (by decide) rfl ?_
      refine a_bipush (pc := 79) dX9_readDelay_79 (by decide) (by decide +kernel) ?_
      refine p_callV (As := [(0, 43)]) (st := []) (st1 := fun r => [])  (pc := 81) dX9_readDelay_81 ml_RX9_208 (by decide) s0_275 rfl (by decide) (Nat.le_of_ble_eq_true rfl) rfl (fun _ => rfl) h (fun r40 M41 h => ?_)
      refine a_aload_n (pc := 84) dX9_readDelay_84 (by decide) rfl ?_
      refine a_iconst (pc := 85) dX9_readDelay_85 (by decide) ?_
      refine a_iconst (pc := 86) dX9_readDelay_86 (by decide) ?_
      refine a_bipush (pc := 87) dX9_readDelay_87 (by decide) (by decide +kernel) ?_
      refine p_callV (As := [(0, 2), (0, 1), (0, 99)]) (st := []) (st1 := fun r => [(0, r)])  (pc := 89) dX9_readDelay_89 ml_RX9_205 (by decide) s0_275 rfl (by decide) (Nat.le_of_ble_eq_true rfl) rfl (fun _ => rfl) h (fun r42 M43 h => ?_)
      refine a_istore (ls1 := [(2, 275), (0, l1), (0, r2), (0, r8), (0, r38), (0, r42)]) (pc := 92) dX9_readDelay_92 (by decide) (hp1 (t := 0) rfl (by decide)) rfl ?_
      refine a_aload_n (pc := 94) dX9_readDelay_94 (by decide) rfl ?_
      refine a_aload_n (pc := 95) dX9_readDelay_95 (by decide) rfl ?_
      refine a_getI (y := 28) (pc := 96) dX9_readDelay_96 fl_RX9_179 (by decide) s0_275 (Or.inr rfl) rfl ?_
      refine a_if_ne (tgt := 113) (pc := 99) dX9_readDelay_99 (by decide) (fun hc => ?_) (fun hc => ?_)
      · replace h := h.1 hc
        refine a_iconst (pc := 113) dX9_readDelay_113 (by decide) ?_
        refine a_goto (tgt := 118) (pc := 114) dX9_readDelay_114 (by decide) ?_
        refine a_iload_n (pc := 118) dX9_readDelay_118 rfl ?_
        refine p_inlV (Ex := _) (As := [(0, 1), (0, l1)]) (st := []) (st1 := fun r => [])  (pc := 119) dX9_readDelay_119 ml_RX9_201 (by decide) s0_275 rfl (by decide) (Nat.le_of_ble_eq_true rfl) rfl (fun _ => rfl) (by decide) (by decide) (Nat.le_of_ble_eq_true rfl) rfl ?_
        refine a_aload_n (pc := 0) dX9_mustBe_0 (by decide) rfl ?_
        refine a_getI (y := 28) (pc := 1) dX9_mustBe_1 fl_RX9_179 (by decide) s0_275 (Or.inr rfl) rfl ?_
        refine a_if_ne (tgt := 21) (pc := 4) dX9_mustBe_4 (by decide) (fun hc => ?_) (fun hc => ?_)
        · replace h := h.1 hc
          refine a_vret (pc := 21) dX9_mustBe_21 rfl rfl (Nat.le_of_ble_eq_true rfl) ⟨rfl, ?_⟩
          refine a_aload_n (pc := 122) dX9_readDelay_122 (by decide) rfl ?_
          refine a_getI (y := 28) (pc := 123) dX9_readDelay_123 fl_RX9_179 (by decide) s0_275 (Or.inr rfl) rfl ?_
          refine a_if_ne (tgt := 139) (pc := 126) dX9_readDelay_126 (by decide) (fun hc => ?_) (fun hc => ?_)
          · replace h := h.1 hc
            exact a_vret (pc := 139) dX9_readDelay_139 rfl rfl (Nat.le_of_ble_eq_true rfl) ⟨rfl, h⟩
          · replace h := h.2 hc
            refine a_aload_n (pc := 129) dX9_readDelay_129 (by decide) rfl ?_
            refine a_iload_n (pc := 130) dX9_readDelay_130 rfl ?_
            refine a_iload_n (pc := 131) dX9_readDelay_131 rfl ?_
            refine a_iload (pc := 132) dX9_readDelay_132 rfl ?_
            refine a_iload (pc := 134) dX9_readDelay_134 rfl ?_
            refine p_callV (As := [(0, r2), (0, r8), (0, r38), (0, r42)]) (st := []) (st1 := fun r => [])  (pc := 136) dX9_readDelay_136 ml_RX9_214 (by decide) s0_275 rfl (by decide) (Nat.le_of_ble_eq_true rfl) rfl (fun _ => rfl) h (fun r44 M45 h => ?_)
            exact a_vret (pc := 139) dX9_readDelay_139 rfl rfl (Nat.le_of_ble_eq_true rfl) ⟨rfl, h⟩
        · replace h := h.2 hc
          refine a_iload_n (pc := 7) dX9_mustBe_7 rfl ?_
          refine a_if_ne (tgt := 21) (pc := 8) dX9_mustBe_8 (by decide) (fun _ => ?_) (fun hc => absurd hc (by decide))
          refine a_vret (pc := 21) dX9_mustBe_21 rfl rfl (Nat.le_of_ble_eq_true rfl) ⟨rfl, ?_⟩
          refine a_aload_n (pc := 122) dX9_readDelay_122 (by decide) rfl ?_
          refine a_getI (y := 28) (pc := 123) dX9_readDelay_123 fl_RX9_179 (by decide) s0_275 (Or.inr rfl) rfl ?_
          refine a_if_ne (tgt := 139) (pc := 126) dX9_readDelay_126 (by decide) (fun hc => ?_) (fun hc => ?_)
          · replace h := h.1 hc
            exact a_vret (pc := 139) dX9_readDelay_139 rfl rfl (Nat.le_of_ble_eq_true rfl) ⟨rfl, h⟩
          · replace h := h.2 hc
            refine a_aload_n (pc := 129) dX9_readDelay_129 (by decide) rfl ?_
            refine a_iload_n (pc := 130) dX9_readDelay_130 rfl ?_
            refine a_iload_n (pc := 131) dX9_readDelay_131 rfl ?_
            refine a_iload (pc := 132) dX9_readDelay_132 rfl ?_
            refine a_iload (pc := 134) dX9_readDelay_134 rfl ?_
            refine p_callV (As := [(0, r2), (0, r8), (0, r38), (0, r42)]) (st := []) (st1 := fun r => [])  (pc := 136) dX9_readDelay_136 ml_RX9_214 (by decide) s0_275 rfl (by decide) (Nat.le_of_ble_eq_true rfl) rfl (fun _ => rfl) h (fun r46 M47 h => ?_)
            exact a_vret (pc := 139) dX9_readDelay_139 rfl rfl (Nat.le_of_ble_eq_true rfl) ⟨rfl, h⟩
      · replace h := h.2 hc
        refine a_aload_n (pc := 102) dX9_readDelay_102 (by decide) rfl ?_
        refine a_iload_n (pc := 103) dX9_readDelay_103 rfl ?_
        refine a_iload_n (pc := 104) dX9_readDelay_104 rfl ?_
        refine a_iload (pc := 105) dX9_readDelay_105 rfl ?_
        refine p_inlV (Ex := _) (As := [(0, r2), (0, r8), (0, r42)]) (st := [(2, 275)]) (st1 := fun r => [(0, r), (2, 275)])  (pc := 107) dX9_readDelay_107 ml_RX9_211 (by decide) s0_275 rfl (by decide) (Nat.le_of_ble_eq_true rfl) rfl (fun _ => rfl) (by decide) (by decide) (Nat.le_of_ble_eq_true rfl) rfl ?_
        refine a_aload_n (pc := 0) dX9_isTooLate_0 (by decide) rfl ?_
        refine a_iload_n (pc := 1) dX9_isTooLate_1 rfl ?_
        refine a_iload_n (pc := 2) dX9_isTooLate_2 rfl ?_
        refine a_aload_n (pc := 3) dX9_isTooLate_3 (by decide) rfl ?_
        refine a_getR (y := 277) (pc := 4) dX9_isTooLate_4 fl_RX9_13 (by decide) s0_275 rfl rfl ?_
        refine a_iload_n (pc := 7) dX9_isTooLate_7 rfl ?_
        have ho48 := h.1
        replace h := h.2
        refine a_iald (pc := 8) dX9_isTooLate_8 (by decide) s0_277 ho48.1 ho48.2 ?_
        refine a_iconst (pc := 9) dX9_isTooLate_9 (by decide) ?_
        have ho49 := h.1
        replace h := h.2
        refine a_isub (pc := 10) dX9_isTooLate_10 ho49 ?_
        refine p_inlV (Ex := _) (As := [(0, r2), (0, r8), (0, (M43 277 r2) - 1)]) (st := []) (st1 := fun r => [(0, r)])  (pc := 11) dX9_isTooLate_11 ml_RX9_120 (by decide) s0_275 rfl (by decide) (Nat.le_of_ble_eq_true rfl) rfl (fun _ => rfl) (by decide) (by decide) (Nat.le_of_ble_eq_true rfl) rfl ?_
        refine a_aload_n (pc := 0) dX9_minuteAt_0 (by decide) rfl ?_
        refine a_getR (y := 281) (pc := 1) dX9_minuteAt_1 fl_RX9_25 (by decide) s0_275 rfl rfl ?_
        refine a_bipush (pc := 4) dX9_minuteAt_4 (by decide) (by decide +kernel) ?_
        refine a_iload_n (pc := 6) dX9_minuteAt_6 rfl ?_
        have ho50 := h.1
        replace h := h.2
        refine a_imul (pc := 7) dX9_minuteAt_7 ho50 ?_
        refine a_bipush (pc := 8) dX9_minuteAt_8 (by decide) (by decide +kernel) ?_
        refine a_iload_n (pc := 10) dX9_minuteAt_10 rfl ?_
        have ho51 := h.1
        replace h := h.2
        refine a_imul (pc := 11) dX9_minuteAt_11 ho51 ?_
        have ho52 := h.1
        replace h := h.2
        refine a_iadd (pc := 12) dX9_minuteAt_12 ho52 ?_
        refine a_iload_n (pc := 13) dX9_minuteAt_13 rfl ?_
        have ho53 := h.1
        replace h := h.2
        refine a_iadd (pc := 14) dX9_minuteAt_14 ho53 ?_
        have ho54 := h.1
        replace h := h.2
        refine a_iald (pc := 15) dX9_minuteAt_15 (by decide) s0_281 ho54.1 ho54.2 ?_
        refine a_ireti (pc := 16) dX9_minuteAt_16 rfl rfl (Nat.le_of_ble_eq_true rfl) ⟨rfl, ?_⟩
        refine a_iload_n (pc := 14) dX9_isTooLate_14 rfl ?_
        have ho55 := h.1
        replace h := h.2
        refine a_iadd (pc := 15) dX9_isTooLate_15 ho55 ?_
        refine a_sipush (pc := 16) dX9_isTooLate_16 (by decide) (by decide +kernel) ?_
        refine a_icmp_le (tgt := 26) (pc := 19) dX9_isTooLate_19 (by decide) (fun hc => ?_) (fun hc => ?_)
        · replace h := h.1 hc
          refine a_iconst (pc := 26) dX9_isTooLate_26 (by decide) ?_
          refine a_iretz (pc := 27) dX9_isTooLate_27 rfl rfl (Nat.le_of_ble_eq_true rfl) (by decide) ⟨rfl, ?_⟩
          refine a_if_ne (tgt := 117) (pc := 110) dX9_readDelay_110 (by decide) (fun hc => absurd rfl hc) (fun _ => ?_)
          refine a_iconst (pc := 113) dX9_readDelay_113 (by decide) ?_
          refine a_goto (tgt := 118) (pc := 114) dX9_readDelay_114 (by decide) ?_
          refine a_iload_n (pc := 118) dX9_readDelay_118 rfl ?_
          refine p_inlV (Ex := _) (As := [(0, 1), (0, l1)]) (st := []) (st1 := fun r => [])  (pc := 119) dX9_readDelay_119 ml_RX9_201 (by decide) s0_275 rfl (by decide) (Nat.le_of_ble_eq_true rfl) rfl (fun _ => rfl) (by decide) (by decide) (Nat.le_of_ble_eq_true rfl) rfl ?_
          refine a_aload_n (pc := 0) dX9_mustBe_0 (by decide) rfl ?_
          refine a_getI (y := 28) (pc := 1) dX9_mustBe_1 fl_RX9_179 (by decide) s0_275 (Or.inr rfl) rfl ?_
          refine a_if_ne (tgt := 21) (pc := 4) dX9_mustBe_4 (by decide) (fun hc => ?_) (fun hc => ?_)
          · replace h := h.1 hc
            refine a_vret (pc := 21) dX9_mustBe_21 rfl rfl (Nat.le_of_ble_eq_true rfl) ⟨rfl, ?_⟩
            refine a_aload_n (pc := 122) dX9_readDelay_122 (by decide) rfl ?_
            refine a_getI (y := 28) (pc := 123) dX9_readDelay_123 fl_RX9_179 (by decide) s0_275 (Or.inr rfl) rfl ?_
            refine a_if_ne (tgt := 139) (pc := 126) dX9_readDelay_126 (by decide) (fun hc => ?_) (fun hc => ?_)
            · replace h := h.1 hc
              exact a_vret (pc := 139) dX9_readDelay_139 rfl rfl (Nat.le_of_ble_eq_true rfl) ⟨rfl, h⟩
            · replace h := h.2 hc
              refine a_aload_n (pc := 129) dX9_readDelay_129 (by decide) rfl ?_
              refine a_iload_n (pc := 130) dX9_readDelay_130 rfl ?_
              refine a_iload_n (pc := 131) dX9_readDelay_131 rfl ?_
              refine a_iload (pc := 132) dX9_readDelay_132 rfl ?_
              refine a_iload (pc := 134) dX9_readDelay_134 rfl ?_
              refine p_callV (As := [(0, r2), (0, r8), (0, r38), (0, r42)]) (st := []) (st1 := fun r => [])  (pc := 136) dX9_readDelay_136 ml_RX9_214 (by decide) s0_275 rfl (by decide) (Nat.le_of_ble_eq_true rfl) rfl (fun _ => rfl) h (fun r56 M57 h => ?_)
              exact a_vret (pc := 139) dX9_readDelay_139 rfl rfl (Nat.le_of_ble_eq_true rfl) ⟨rfl, h⟩
          · replace h := h.2 hc
            refine a_iload_n (pc := 7) dX9_mustBe_7 rfl ?_
            refine a_if_ne (tgt := 21) (pc := 8) dX9_mustBe_8 (by decide) (fun _ => ?_) (fun hc => absurd hc (by decide))
            refine a_vret (pc := 21) dX9_mustBe_21 rfl rfl (Nat.le_of_ble_eq_true rfl) ⟨rfl, ?_⟩
            refine a_aload_n (pc := 122) dX9_readDelay_122 (by decide) rfl ?_
            refine a_getI (y := 28) (pc := 123) dX9_readDelay_123 fl_RX9_179 (by decide) s0_275 (Or.inr rfl) rfl ?_
            refine a_if_ne (tgt := 139) (pc := 126) dX9_readDelay_126 (by decide) (fun hc => ?_) (fun hc => ?_)
            · replace h := h.1 hc
              exact a_vret (pc := 139) dX9_readDelay_139 rfl rfl (Nat.le_of_ble_eq_true rfl) ⟨rfl, h⟩
            · replace h := h.2 hc
              refine a_aload_n (pc := 129) dX9_readDelay_129 (by decide) rfl ?_
              refine a_iload_n (pc := 130) dX9_readDelay_130 rfl ?_
              refine a_iload_n (pc := 131) dX9_readDelay_131 rfl ?_
              refine a_iload (pc := 132) dX9_readDelay_132 rfl ?_
              refine a_iload (pc := 134) dX9_readDelay_134 rfl ?_
              refine p_callV (As := [(0, r2), (0, r8), (0, r38), (0, r42)]) (st := []) (st1 := fun r => [])  (pc := 136) dX9_readDelay_136 ml_RX9_214 (by decide) s0_275 rfl (by decide) (Nat.le_of_ble_eq_true rfl) rfl (fun _ => rfl) h (fun r58 M59 h => ?_)
              exact a_vret (pc := 139) dX9_readDelay_139 rfl rfl (Nat.le_of_ble_eq_true rfl) ⟨rfl, h⟩
        · replace h := h.2 hc
          refine a_iconst (pc := 22) dX9_isTooLate_22 (by decide) ?_
          refine a_goto (tgt := 27) (pc := 23) dX9_isTooLate_23 (by decide) ?_
          refine a_iretz (pc := 27) dX9_isTooLate_27 rfl rfl (Nat.le_of_ble_eq_true rfl) (by decide) ⟨rfl, ?_⟩
          refine a_if_ne (tgt := 117) (pc := 110) dX9_readDelay_110 (by decide) (fun _ => ?_) (fun hc => absurd hc (by decide))
          refine a_iconst (pc := 117) dX9_readDelay_117 (by decide) ?_
          refine a_iload_n (pc := 118) dX9_readDelay_118 rfl ?_
          refine p_inlV (Ex := _) (As := [(0, 0), (0, l1)]) (st := []) (st1 := fun r => [])  (pc := 119) dX9_readDelay_119 ml_RX9_201 (by decide) s0_275 rfl (by decide) (Nat.le_of_ble_eq_true rfl) rfl (fun _ => rfl) (by decide) (by decide) (Nat.le_of_ble_eq_true rfl) rfl ?_
          refine a_aload_n (pc := 0) dX9_mustBe_0 (by decide) rfl ?_
          refine a_getI (y := 28) (pc := 1) dX9_mustBe_1 fl_RX9_179 (by decide) s0_275 (Or.inr rfl) rfl ?_
          refine a_if_ne (tgt := 21) (pc := 4) dX9_mustBe_4 (by decide) (fun hc => ?_) (fun hc => ?_)
          · replace h := h.1 hc
            refine a_vret (pc := 21) dX9_mustBe_21 rfl rfl (Nat.le_of_ble_eq_true rfl) ⟨rfl, ?_⟩
            refine a_aload_n (pc := 122) dX9_readDelay_122 (by decide) rfl ?_
            refine a_getI (y := 28) (pc := 123) dX9_readDelay_123 fl_RX9_179 (by decide) s0_275 (Or.inr rfl) rfl ?_
            refine a_if_ne (tgt := 139) (pc := 126) dX9_readDelay_126 (by decide) (fun hc => ?_) (fun hc => ?_)
            · replace h := h.1 hc
              exact a_vret (pc := 139) dX9_readDelay_139 rfl rfl (Nat.le_of_ble_eq_true rfl) ⟨rfl, h⟩
            · replace h := h.2 hc
              refine a_aload_n (pc := 129) dX9_readDelay_129 (by decide) rfl ?_
              refine a_iload_n (pc := 130) dX9_readDelay_130 rfl ?_
              refine a_iload_n (pc := 131) dX9_readDelay_131 rfl ?_
              refine a_iload (pc := 132) dX9_readDelay_132 rfl ?_
              refine a_iload (pc := 134) dX9_readDelay_134 rfl ?_
              refine p_callV (As := [(0, r2), (0, r8), (0, r38), (0, r42)]) (st := []) (st1 := fun r => [])  (pc := 136) dX9_readDelay_136 ml_RX9_214 (by decide) s0_275 rfl (by decide) (Nat.le_of_ble_eq_true rfl) rfl (fun _ => rfl) h (fun r60 M61 h => ?_)
              exact a_vret (pc := 139) dX9_readDelay_139 rfl rfl (Nat.le_of_ble_eq_true rfl) ⟨rfl, h⟩
          · replace h := h.2 hc
            refine a_iload_n (pc := 7) dX9_mustBe_7 rfl ?_
            refine a_if_ne (tgt := 21) (pc := 8) dX9_mustBe_8 (by decide) (fun hc => absurd rfl hc) (fun _ => ?_)
            refine a_aload_n (pc := 11) dX9_mustBe_11 (by decide) rfl ?_
            refine a_iconst (pc := 12) dX9_mustBe_12 (by decide) ?_
            refine a_putZ (y := 28) (pc := 13) dX9_mustBe_13 fl_RX9_179 (by decide) s0_275 rfl rfl (tyX9_ok 28 (by decide)) rfl (by decide) ?_
            refine a_aload_n (pc := 16) dX9_mustBe_16 (by decide) rfl ?_
            refine a_iload_n (pc := 17) dX9_mustBe_17 rfl ?_
            refine a_putI (y := 27) (pc := 18) dX9_mustBe_18 fl_RX9_176 (by decide) s0_275 rfl rfl (tyX9_ok 27 (by decide)) rfl ?_
            refine a_vret (pc := 21) dX9_mustBe_21 rfl rfl (Nat.le_of_ble_eq_true rfl) ⟨rfl, ?_⟩
            refine a_aload_n (pc := 122) dX9_readDelay_122 (by decide) rfl ?_
            refine a_getI (y := 28) (pc := 123) dX9_readDelay_123 fl_RX9_179 (by decide) s0_275 (Or.inr rfl) rfl ?_
            refine a_eq (y := 1) rfl ?_
            refine a_if_ne (tgt := 139) (pc := 126) dX9_readDelay_126 (by decide) (fun _ => ?_) (fun hc => absurd hc (by decide))
            exact a_vret (pc := 139) dX9_readDelay_139 rfl rfl (Nat.le_of_ble_eq_true rfl) ⟨rfl, h⟩
  · replace h := h.2 hc
    refine a_iconst (pc := 29) dX9_readDelay_29 (by decide) ?_
    refine a_goto (tgt := 41) (pc := 30) dX9_readDelay_30 (by decide) ?_
    refine p_callV (As := [(0, 1), (0, 0), (0, 0)]) (st := []) (st1 := fun r => [(0, r)])  (pc := 41) dX9_readDelay_41 ml_RX9_205 (by decide) s0_275 rfl (by decide) (Nat.le_of_ble_eq_true rfl) rfl (fun _ => rfl) h (fun r62 M63 h => ?_)
    refine a_istore_n (ls1 := [(2, 275), (0, l1), (0, r2), (0, r62), (9, 0), (9, 0)]) (pc := 44) dX9_readDelay_44 (by decide) (hp1 (t := 0) rfl (by decide)) rfl ?_
    refine a_aload_n (pc := 45) dX9_readDelay_45 (by decide) rfl ?_
    refine a_bipush (pc := 46) dX9_readDelay_46 (by decide) (by decide +kernel) ?_
    refine p_callV (As := [(0, 64)]) (st := []) (st1 := fun r => [])  (pc := 48) dX9_readDelay_48 ml_RX9_208 (by decide) s0_275 rfl (by decide) (Nat.le_of_ble_eq_true rfl) rfl (fun _ => rfl) h (fun r64 M65 h => ?_)
    refine a_aload_n (pc := 51) dX9_readDelay_51 (by decide) rfl ?_
    refine a_iconst (pc := 52) dX9_readDelay_52 (by decide) ?_
    refine a_iconst (pc := 53) dX9_readDelay_53 (by decide) ?_
    refine a_aload_n (pc := 54) dX9_readDelay_54 (by decide) rfl ?_
    refine a_getI (y := 28) (pc := 55) dX9_readDelay_55 fl_RX9_179 (by decide) s0_275 (Or.inr rfl) rfl ?_
    refine a_if_eq (tgt := 65) (pc := 58) dX9_readDelay_58 (by decide) (fun hc => ?_) (fun hc => ?_)
    · replace h := h.1 hc
      refine a_aload_n (pc := 65) dX9_readDelay_65 (by decide) rfl ?_
      refine a_getR (y := 277) (pc := 66) dX9_readDelay_66 fl_RX9_13 (by decide) s0_275 rfl rfl ?_
      refine a_iload_n (pc := 69) dX9_readDelay_69 rfl ?_
      have ho66 := h.1
      replace h := h.2
      refine a_iald (pc := 70) dX9_readDelay_70 (by decide) s0_277 ho66.1 ho66.2 ?_
      refine a_iconst (pc := 71) dX9_readDelay_71 (by decide) ?_
      have ho67 := h.1
      replace h := h.2
      refine a_isub (pc := 72) dX9_readDelay_72 ho67 ?_
      refine p_callV (As := [(0, 1), (0, 0), (0, (M65 277 r2) - 1)]) (st := []) (st1 := fun r => [(0, r)])  (pc := 73) dX9_readDelay_73 ml_RX9_205 (by decide) s0_275 rfl (by decide) (Nat.le_of_ble_eq_true rfl) rfl (fun _ => rfl) h (fun r68 M69 h => ?_)
      refine a_istore (ls1 := [(2, 275), (0, l1), (0, r2), (0, r62), (0, r68), (9, 0)]) (pc := 76) dX9_readDelay_76 (by decide) (hp1 (t := 0) rfl (by decide)) rfl ?_
      refine a_aload_n (pc := 78) dX9_readDelay_78 (by decide) rfl ?_
      refine a_bipush (pc := 79) dX9_readDelay_79 (by decide) (by decide +kernel) ?_
      refine p_callV (As := [(0, 43)]) (st := []) (st1 := fun r => [])  (pc := 81) dX9_readDelay_81 ml_RX9_208 (by decide) s0_275 rfl (by decide) (Nat.le_of_ble_eq_true rfl) rfl (fun _ => rfl) h (fun r70 M71 h => ?_)
      refine a_aload_n (pc := 84) dX9_readDelay_84 (by decide) rfl ?_
      refine a_iconst (pc := 85) dX9_readDelay_85 (by decide) ?_
      refine a_iconst (pc := 86) dX9_readDelay_86 (by decide) ?_
      refine a_bipush (pc := 87) dX9_readDelay_87 (by decide) (by decide +kernel) ?_
      refine p_callV (As := [(0, 2), (0, 1), (0, 99)]) (st := []) (st1 := fun r => [(0, r)])  (pc := 89) dX9_readDelay_89 ml_RX9_205 (by decide) s0_275 rfl (by decide) (Nat.le_of_ble_eq_true rfl) rfl (fun _ => rfl) h (fun r72 M73 h => ?_)
      refine a_istore (ls1 := [(2, 275), (0, l1), (0, r2), (0, r62), (0, r68), (0, r72)]) (pc := 92) dX9_readDelay_92 (by decide) (hp1 (t := 0) rfl (by decide)) rfl ?_
      refine a_aload_n (pc := 94) dX9_readDelay_94 (by decide) rfl ?_
      refine a_aload_n (pc := 95) dX9_readDelay_95 (by decide) rfl ?_
      refine a_getI (y := 28) (pc := 96) dX9_readDelay_96 fl_RX9_179 (by decide) s0_275 (Or.inr rfl) rfl ?_
      refine a_if_ne (tgt := 113) (pc := 99) dX9_readDelay_99 (by decide) (fun hc => ?_) (fun hc => ?_)
      · replace h := h.1 hc
        refine a_iconst (pc := 113) dX9_readDelay_113 (by decide) ?_
        refine a_goto (tgt := 118) (pc := 114) dX9_readDelay_114 (by decide) ?_
        refine a_iload_n (pc := 118) dX9_readDelay_118 rfl ?_
        refine p_inlV (Ex := _) (As := [(0, 1), (0, l1)]) (st := []) (st1 := fun r => [])  (pc := 119) dX9_readDelay_119 ml_RX9_201 (by decide) s0_275 rfl (by decide) (Nat.le_of_ble_eq_true rfl) rfl (fun _ => rfl) (by decide) (by decide) (Nat.le_of_ble_eq_true rfl) rfl ?_
        refine a_aload_n (pc := 0) dX9_mustBe_0 (by decide) rfl ?_
        refine a_getI (y := 28) (pc := 1) dX9_mustBe_1 fl_RX9_179 (by decide) s0_275 (Or.inr rfl) rfl ?_
        refine a_if_ne (tgt := 21) (pc := 4) dX9_mustBe_4 (by decide) (fun hc => ?_) (fun hc => ?_)
        · replace h := h.1 hc
          refine a_vret (pc := 21) dX9_mustBe_21 rfl rfl (Nat.le_of_ble_eq_true rfl) ⟨rfl, ?_⟩
          refine a_aload_n (pc := 122) dX9_readDelay_122 (by decide) rfl ?_
          refine a_getI (y := 28) (pc := 123) dX9_readDelay_123 fl_RX9_179 (by decide) s0_275 (Or.inr rfl) rfl ?_
          refine a_if_ne (tgt := 139) (pc := 126) dX9_readDelay_126 (by decide) (fun hc => ?_) (fun hc => ?_)
          · replace h := h.1 hc
            exact a_vret (pc := 139) dX9_readDelay_139 rfl rfl (Nat.le_of_ble_eq_true rfl) ⟨rfl, h⟩
          · replace h := h.2 hc
            refine a_aload_n (pc := 129) dX9_readDelay_129 (by decide) rfl ?_
            refine a_iload_n (pc := 130) dX9_readDelay_130 rfl ?_
            refine a_iload_n (pc := 131) dX9_readDelay_131 rfl ?_
            refine a_iload (pc := 132) dX9_readDelay_132 rfl ?_
            refine a_iload (pc := 134) dX9_readDelay_134 rfl ?_
            refine p_callV (As := [(0, r2), (0, r62), (0, r68), (0, r72)]) (st := []) (st1 := fun r => [])  (pc := 136) dX9_readDelay_136 ml_RX9_214 (by decide) s0_275 rfl (by decide) (Nat.le_of_ble_eq_true rfl) rfl (fun _ => rfl) h (fun r74 M75 h => ?_)
            exact a_vret (pc := 139) dX9_readDelay_139 rfl rfl (Nat.le_of_ble_eq_true rfl) ⟨rfl, h⟩
        · replace h := h.2 hc
          refine a_iload_n (pc := 7) dX9_mustBe_7 rfl ?_
          refine a_if_ne (tgt := 21) (pc := 8) dX9_mustBe_8 (by decide) (fun _ => ?_) (fun hc => absurd hc (by decide))
          refine a_vret (pc := 21) dX9_mustBe_21 rfl rfl (Nat.le_of_ble_eq_true rfl) ⟨rfl, ?_⟩
          refine a_aload_n (pc := 122) dX9_readDelay_122 (by decide) rfl ?_
          refine a_getI (y := 28) (pc := 123) dX9_readDelay_123 fl_RX9_179 (by decide) s0_275 (Or.inr rfl) rfl ?_
          refine a_if_ne (tgt := 139) (pc := 126) dX9_readDelay_126 (by decide) (fun hc => ?_) (fun hc => ?_)
          · replace h := h.1 hc
            exact a_vret (pc := 139) dX9_readDelay_139 rfl rfl (Nat.le_of_ble_eq_true rfl) ⟨rfl, h⟩
          · replace h := h.2 hc
            refine a_aload_n (pc := 129) dX9_readDelay_129 (by decide) rfl ?_
            refine a_iload_n (pc := 130) dX9_readDelay_130 rfl ?_
            refine a_iload_n (pc := 131) dX9_readDelay_131 rfl ?_
            refine a_iload (pc := 132) dX9_readDelay_132 rfl ?_
            refine a_iload (pc := 134) dX9_readDelay_134 rfl ?_
            refine p_callV (As := [(0, r2), (0, r62), (0, r68), (0, r72)]) (st := []) (st1 := fun r => [])  (pc := 136) dX9_readDelay_136 ml_RX9_214 (by decide) s0_275 rfl (by decide) (Nat.le_of_ble_eq_true rfl) rfl (fun _ => rfl) h (fun r76 M77 h => ?_)
            exact a_vret (pc := 139) dX9_readDelay_139 rfl rfl (Nat.le_of_ble_eq_true rfl) ⟨rfl, h⟩
      · replace h := h.2 hc
        refine a_aload_n (pc := 102) dX9_readDelay_102 (by decide) rfl ?_
        refine a_iload_n (pc := 103) dX9_readDelay_103 rfl ?_
        refine a_iload_n (pc := 104) dX9_readDelay_104 rfl ?_
        refine a_iload (pc := 105) dX9_readDelay_105 rfl ?_
        refine p_inlV (Ex := _) (As := [(0, r2), (0, r62), (0, r72)]) (st := [(2, 275)]) (st1 := fun r => [(0, r), (2, 275)])  (pc := 107) dX9_readDelay_107 ml_RX9_211 (by decide) s0_275 rfl (by decide) (Nat.le_of_ble_eq_true rfl) rfl (fun _ => rfl) (by decide) (by decide) (Nat.le_of_ble_eq_true rfl) rfl ?_
        refine a_aload_n (pc := 0) dX9_isTooLate_0 (by decide) rfl ?_
        refine a_iload_n (pc := 1) dX9_isTooLate_1 rfl ?_
        refine a_iload_n (pc := 2) dX9_isTooLate_2 rfl ?_
        refine a_aload_n (pc := 3) dX9_isTooLate_3 (by decide) rfl ?_
        refine a_getR (y := 277) (pc := 4) dX9_isTooLate_4 fl_RX9_13 (by decide) s0_275 rfl rfl ?_
        refine a_iload_n (pc := 7) dX9_isTooLate_7 rfl ?_
        have ho78 := h.1
        replace h := h.2
        refine a_iald (pc := 8) dX9_isTooLate_8 (by decide) s0_277 ho78.1 ho78.2 ?_
        refine a_iconst (pc := 9) dX9_isTooLate_9 (by decide) ?_
        have ho79 := h.1
        replace h := h.2
        refine a_isub (pc := 10) dX9_isTooLate_10 ho79 ?_
        refine p_inlV (Ex := _) (As := [(0, r2), (0, r62), (0, (M73 277 r2) - 1)]) (st := []) (st1 := fun r => [(0, r)])  (pc := 11) dX9_isTooLate_11 ml_RX9_120 (by decide) s0_275 rfl (by decide) (Nat.le_of_ble_eq_true rfl) rfl (fun _ => rfl) (by decide) (by decide) (Nat.le_of_ble_eq_true rfl) rfl ?_
        refine a_aload_n (pc := 0) dX9_minuteAt_0 (by decide) rfl ?_
        refine a_getR (y := 281) (pc := 1) dX9_minuteAt_1 fl_RX9_25 (by decide) s0_275 rfl rfl ?_
        refine a_bipush (pc := 4) dX9_minuteAt_4 (by decide) (by decide +kernel) ?_
        refine a_iload_n (pc := 6) dX9_minuteAt_6 rfl ?_
        have ho80 := h.1
        replace h := h.2
        refine a_imul (pc := 7) dX9_minuteAt_7 ho80 ?_
        refine a_bipush (pc := 8) dX9_minuteAt_8 (by decide) (by decide +kernel) ?_
        refine a_iload_n (pc := 10) dX9_minuteAt_10 rfl ?_
        have ho81 := h.1
        replace h := h.2
        refine a_imul (pc := 11) dX9_minuteAt_11 ho81 ?_
        have ho82 := h.1
        replace h := h.2
        refine a_iadd (pc := 12) dX9_minuteAt_12 ho82 ?_
        refine a_iload_n (pc := 13) dX9_minuteAt_13 rfl ?_
        have ho83 := h.1
        replace h := h.2
        refine a_iadd (pc := 14) dX9_minuteAt_14 ho83 ?_
        have ho84 := h.1
        replace h := h.2
        refine a_iald (pc := 15) dX9_minuteAt_15 (by decide) s0_281 ho84.1 ho84.2 ?_
        refine a_ireti (pc := 16) dX9_minuteAt_16 rfl rfl (Nat.le_of_ble_eq_true rfl) ⟨rfl, ?_⟩
        refine a_iload_n (pc := 14) dX9_isTooLate_14 rfl ?_
        have ho85 := h.1
        replace h := h.2
        refine a_iadd (pc := 15) dX9_isTooLate_15 ho85 ?_
        refine a_sipush (pc := 16) dX9_isTooLate_16 (by decide) (by decide +kernel) ?_
        refine a_icmp_le (tgt := 26) (pc := 19) dX9_isTooLate_19 (by decide) (fun hc => ?_) (fun hc => ?_)
        · replace h := h.1 hc
          refine a_iconst (pc := 26) dX9_isTooLate_26 (by decide) ?_
          refine a_iretz (pc := 27) dX9_isTooLate_27 rfl rfl (Nat.le_of_ble_eq_true rfl) (by decide) ⟨rfl, ?_⟩
          refine a_if_ne (tgt := 117) (pc := 110) dX9_readDelay_110 (by decide) (fun hc => absurd rfl hc) (fun _ => ?_)
          refine a_iconst (pc := 113) dX9_readDelay_113 (by decide) ?_
          refine a_goto (tgt := 118) (pc := 114) dX9_readDelay_114 (by decide) ?_
          refine a_iload_n (pc := 118) dX9_readDelay_118 rfl ?_
          refine p_inlV (Ex := _) (As := [(0, 1), (0, l1)]) (st := []) (st1 := fun r => [])  (pc := 119) dX9_readDelay_119 ml_RX9_201 (by decide) s0_275 rfl (by decide) (Nat.le_of_ble_eq_true rfl) rfl (fun _ => rfl) (by decide) (by decide) (Nat.le_of_ble_eq_true rfl) rfl ?_
          refine a_aload_n (pc := 0) dX9_mustBe_0 (by decide) rfl ?_
          refine a_getI (y := 28) (pc := 1) dX9_mustBe_1 fl_RX9_179 (by decide) s0_275 (Or.inr rfl) rfl ?_
          refine a_if_ne (tgt := 21) (pc := 4) dX9_mustBe_4 (by decide) (fun hc => ?_) (fun hc => ?_)
          · replace h := h.1 hc
            refine a_vret (pc := 21) dX9_mustBe_21 rfl rfl (Nat.le_of_ble_eq_true rfl) ⟨rfl, ?_⟩
            refine a_aload_n (pc := 122) dX9_readDelay_122 (by decide) rfl ?_
            refine a_getI (y := 28) (pc := 123) dX9_readDelay_123 fl_RX9_179 (by decide) s0_275 (Or.inr rfl) rfl ?_
            refine a_if_ne (tgt := 139) (pc := 126) dX9_readDelay_126 (by decide) (fun hc => ?_) (fun hc => ?_)
            · replace h := h.1 hc
              exact a_vret (pc := 139) dX9_readDelay_139 rfl rfl (Nat.le_of_ble_eq_true rfl) ⟨rfl, h⟩
            · replace h := h.2 hc
              refine a_aload_n (pc := 129) dX9_readDelay_129 (by decide) rfl ?_
              refine a_iload_n (pc := 130) dX9_readDelay_130 rfl ?_
              refine a_iload_n (pc := 131) dX9_readDelay_131 rfl ?_
              refine a_iload (pc := 132) dX9_readDelay_132 rfl ?_
              refine a_iload (pc := 134) dX9_readDelay_134 rfl ?_
              refine p_callV (As := [(0, r2), (0, r62), (0, r68), (0, r72)]) (st := []) (st1 := fun r => [])  (pc := 136) dX9_readDelay_136 ml_RX9_214 (by decide) s0_275 rfl (by decide) (Nat.le_of_ble_eq_true rfl) rfl (fun _ => rfl) h (fun r86 M87 h => ?_)
              exact a_vret (pc := 139) dX9_readDelay_139 rfl rfl (Nat.le_of_ble_eq_true rfl) ⟨rfl, h⟩
          · replace h := h.2 hc
            refine a_iload_n (pc := 7) dX9_mustBe_7 rfl ?_
            refine a_if_ne (tgt := 21) (pc := 8) dX9_mustBe_8 (by decide) (fun _ => ?_) (fun hc => absurd hc (by decide))
            refine a_vret (pc := 21) dX9_mustBe_21 rfl rfl (Nat.le_of_ble_eq_true rfl) ⟨rfl, ?_⟩
            refine a_aload_n (pc := 122) dX9_readDelay_122 (by decide) rfl ?_
            refine a_getI (y := 28) (pc := 123) dX9_readDelay_123 fl_RX9_179 (by decide) s0_275 (Or.inr rfl) rfl ?_
            refine a_if_ne (tgt := 139) (pc := 126) dX9_readDelay_126 (by decide) (fun hc => ?_) (fun hc => ?_)
            · replace h := h.1 hc
              exact a_vret (pc := 139) dX9_readDelay_139 rfl rfl (Nat.le_of_ble_eq_true rfl) ⟨rfl, h⟩
            · replace h := h.2 hc
              refine a_aload_n (pc := 129) dX9_readDelay_129 (by decide) rfl ?_
              refine a_iload_n (pc := 130) dX9_readDelay_130 rfl ?_
              refine a_iload_n (pc := 131) dX9_readDelay_131 rfl ?_
              refine a_iload (pc := 132) dX9_readDelay_132 rfl ?_
              refine a_iload (pc := 134) dX9_readDelay_134 rfl ?_
              refine p_callV (As := [(0, r2), (0, r62), (0, r68), (0, r72)]) (st := []) (st1 := fun r => [])  (pc := 136) dX9_readDelay_136 ml_RX9_214 (by decide) s0_275 rfl (by decide) (Nat.le_of_ble_eq_true rfl) rfl (fun _ => rfl) h (fun r88 M89 h => ?_)
              exact a_vret (pc := 139) dX9_readDelay_139 rfl rfl (Nat.le_of_ble_eq_true rfl) ⟨rfl, h⟩
        · replace h := h.2 hc
          refine a_iconst (pc := 22) dX9_isTooLate_22 (by decide) ?_
          refine a_goto (tgt := 27) (pc := 23) dX9_isTooLate_23 (by decide) ?_
          refine a_iretz (pc := 27) dX9_isTooLate_27 rfl rfl (Nat.le_of_ble_eq_true rfl) (by decide) ⟨rfl, ?_⟩
          refine a_if_ne (tgt := 117) (pc := 110) dX9_readDelay_110 (by decide) (fun _ => ?_) (fun hc => absurd hc (by decide))
          refine a_iconst (pc := 117) dX9_readDelay_117 (by decide) ?_
          refine a_iload_n (pc := 118) dX9_readDelay_118 rfl ?_
          refine p_inlV (Ex := _) (As := [(0, 0), (0, l1)]) (st := []) (st1 := fun r => [])  (pc := 119) dX9_readDelay_119 ml_RX9_201 (by decide) s0_275 rfl (by decide) (Nat.le_of_ble_eq_true rfl) rfl (fun _ => rfl) (by decide) (by decide) (Nat.le_of_ble_eq_true rfl) rfl ?_
          refine a_aload_n (pc := 0) dX9_mustBe_0 (by decide) rfl ?_
          refine a_getI (y := 28) (pc := 1) dX9_mustBe_1 fl_RX9_179 (by decide) s0_275 (Or.inr rfl) rfl ?_
          refine a_if_ne (tgt := 21) (pc := 4) dX9_mustBe_4 (by decide) (fun hc => ?_) (fun hc => ?_)
          · replace h := h.1 hc
            refine a_vret (pc := 21) dX9_mustBe_21 rfl rfl (Nat.le_of_ble_eq_true rfl) ⟨rfl, ?_⟩
            refine a_aload_n (pc := 122) dX9_readDelay_122 (by decide) rfl ?_
            refine a_getI (y := 28) (pc := 123) dX9_readDelay_123 fl_RX9_179 (by decide) s0_275 (Or.inr rfl) rfl ?_
            refine a_if_ne (tgt := 139) (pc := 126) dX9_readDelay_126 (by decide) (fun hc => ?_) (fun hc => ?_)
            · replace h := h.1 hc
              exact a_vret (pc := 139) dX9_readDelay_139 rfl rfl (Nat.le_of_ble_eq_true rfl) ⟨rfl, h⟩
            · replace h := h.2 hc
              refine a_aload_n (pc := 129) dX9_readDelay_129 (by decide) rfl ?_
              refine a_iload_n (pc := 130) dX9_readDelay_130 rfl ?_
              refine a_iload_n (pc := 131) dX9_readDelay_131 rfl ?_
              refine a_iload (pc := 132) dX9_readDelay_132 rfl ?_
              refine a_iload (pc := 134) dX9_readDelay_134 rfl ?_
              refine p_callV (As := [(0, r2), (0, r62), (0, r68), (0, r72)]) (st := []) (st1 := fun r => [])  (pc := 136) dX9_readDelay_136 ml_RX9_214 (by decide) s0_275 rfl (by decide) (Nat.le_of_ble_eq_true rfl) rfl (fun _ => rfl) h (fun r90 M91 h => ?_)
              exact a_vret (pc := 139) dX9_readDelay_139 rfl rfl (Nat.le_of_ble_eq_true rfl) ⟨rfl, h⟩
          · replace h := h.2 hc
            refine a_iload_n (pc := 7) dX9_mustBe_7 rfl ?_
            refine a_if_ne (tgt := 21) (pc := 8) dX9_mustBe_8 (by decide) (fun hc => absurd rfl hc) (fun _ => ?_)
            refine a_aload_n (pc := 11) dX9_mustBe_11 (by decide) rfl ?_
            refine a_iconst (pc := 12) dX9_mustBe_12 (by decide) ?_
            refine a_putZ (y := 28) (pc := 13) dX9_mustBe_13 fl_RX9_179 (by decide) s0_275 rfl rfl (tyX9_ok 28 (by decide)) rfl (by decide) ?_
            refine a_aload_n (pc := 16) dX9_mustBe_16 (by decide) rfl ?_
            refine a_iload_n (pc := 17) dX9_mustBe_17 rfl ?_
            refine a_putI (y := 27) (pc := 18) dX9_mustBe_18 fl_RX9_176 (by decide) s0_275 rfl rfl (tyX9_ok 27 (by decide)) rfl ?_
            refine a_vret (pc := 21) dX9_mustBe_21 rfl rfl (Nat.le_of_ble_eq_true rfl) ⟨rfl, ?_⟩
            refine a_aload_n (pc := 122) dX9_readDelay_122 (by decide) rfl ?_
            refine a_getI (y := 28) (pc := 123) dX9_readDelay_123 fl_RX9_179 (by decide) s0_275 (Or.inr rfl) rfl ?_
            refine a_eq (y := 1) rfl ?_
            refine a_if_ne (tgt := 139) (pc := 126) dX9_readDelay_126 (by decide) (fun _ => ?_) (fun hc => absurd hc (by decide))
            exact a_vret (pc := 139) dX9_readDelay_139 rfl rfl (Nat.le_of_ble_eq_true rfl) ⟨rfl, h⟩
    · replace h := h.2 hc
      refine a_iconst (pc := 61) dX9_readDelay_61 (by decide) ?_
      refine a_goto (tgt := 73) (pc := 62) dX9_readDelay_62 (by decide) ?_
      refine p_callV (As := [(0, 1), (0, 0), (0, 0)]) (st := []) (st1 := fun r => [(0, r)])  (pc := 73) dX9_readDelay_73 ml_RX9_205 (by decide) s0_275 rfl (by decide) (Nat.le_of_ble_eq_true rfl) rfl (fun _ => rfl) h (fun r92 M93 h => ?_)
      refine a_istore (ls1 := [(2, 275), (0, l1), (0, r2), (0, r62), (0, r92), (9, 0)]) (pc := 76) dX9_readDelay_76 (by decide) (hp1 (t := 0) rfl (by decide)) rfl ?_
      refine a_aload_n (pc := 78) dX9_readDelay_78 (by decide) rfl ?_
      refine a_bipush (pc := 79) dX9_readDelay_79 (by decide) (by decide +kernel) ?_
      refine p_callV (As := [(0, 43)]) (st := []) (st1 := fun r => [])  (pc := 81) dX9_readDelay_81 ml_RX9_208 (by decide) s0_275 rfl (by decide) (Nat.le_of_ble_eq_true rfl) rfl (fun _ => rfl) h (fun r94 M95 h => ?_)
      refine a_aload_n (pc := 84) dX9_readDelay_84 (by decide) rfl ?_
      refine a_iconst (pc := 85) dX9_readDelay_85 (by decide) ?_
      refine a_iconst (pc := 86) dX9_readDelay_86 (by decide) ?_
      refine a_bipush (pc := 87) dX9_readDelay_87 (by decide) (by decide +kernel) ?_
      refine p_callV (As := [(0, 2), (0, 1), (0, 99)]) (st := []) (st1 := fun r => [(0, r)])  (pc := 89) dX9_readDelay_89 ml_RX9_205 (by decide) s0_275 rfl (by decide) (Nat.le_of_ble_eq_true rfl) rfl (fun _ => rfl) h (fun r96 M97 h => ?_)
      refine a_istore (ls1 := [(2, 275), (0, l1), (0, r2), (0, r62), (0, r92), (0, r96)]) (pc := 92) dX9_readDelay_92 (by decide) (hp1 (t := 0) rfl (by decide)) rfl ?_
      refine a_aload_n (pc := 94) dX9_readDelay_94 (by decide) rfl ?_
      refine a_aload_n (pc := 95) dX9_readDelay_95 (by decide) rfl ?_
      refine a_getI (y := 28) (pc := 96) dX9_readDelay_96 fl_RX9_179 (by decide) s0_275 (Or.inr rfl) rfl ?_
      refine a_if_ne (tgt := 113) (pc := 99) dX9_readDelay_99 (by decide) (fun hc => ?_) (fun hc => ?_)
      · replace h := h.1 hc
        refine a_iconst (pc := 113) dX9_readDelay_113 (by decide) ?_
        refine a_goto (tgt := 118) (pc := 114) dX9_readDelay_114 (by decide) ?_
        refine a_iload_n (pc := 118) dX9_readDelay_118 rfl ?_
        refine p_inlV (Ex := _) (As := [(0, 1), (0, l1)]) (st := []) (st1 := fun r => [])  (pc := 119) dX9_readDelay_119 ml_RX9_201 (by decide) s0_275 rfl (by decide) (Nat.le_of_ble_eq_true rfl) rfl (fun _ => rfl) (by decide) (by decide) (Nat.le_of_ble_eq_true rfl) rfl ?_
        refine a_aload_n (pc := 0) dX9_mustBe_0 (by decide) rfl ?_
        refine a_getI (y := 28) (pc := 1) dX9_mustBe_1 fl_RX9_179 (by decide) s0_275 (Or.inr rfl) rfl ?_
        refine a_if_ne (tgt := 21) (pc := 4) dX9_mustBe_4 (by decide) (fun hc => ?_) (fun hc => ?_)
        · replace h := h.1 hc
          refine a_vret (pc := 21) dX9_mustBe_21 rfl rfl (Nat.le_of_ble_eq_true rfl) ⟨rfl, ?_⟩
          refine a_aload_n (pc := 122) dX9_readDelay_122 (by decide) rfl ?_
          refine a_getI (y := 28) (pc := 123) dX9_readDelay_123 fl_RX9_179 (by decide) s0_275 (Or.inr rfl) rfl ?_
          refine a_if_ne (tgt := 139) (pc := 126) dX9_readDelay_126 (by decide) (fun hc => ?_) (fun hc => ?_)
          · replace h := h.1 hc
            exact a_vret (pc := 139) dX9_readDelay_139 rfl rfl (Nat.le_of_ble_eq_true rfl) ⟨rfl, h⟩
          · replace h := h.2 hc
            refine a_aload_n (pc := 129) dX9_readDelay_129 (by decide) rfl ?_
            refine a_iload_n (pc := 130) dX9_readDelay_130 rfl ?_
            refine a_iload_n (pc := 131) dX9_readDelay_131 rfl ?_
            refine a_iload (pc := 132) dX9_readDelay_132 rfl ?_
            refine a_iload (pc := 134) dX9_readDelay_134 rfl ?_
            refine p_callV (As := [(0, r2), (0, r62), (0, r92), (0, r96)]) (st := []) (st1 := fun r => [])  (pc := 136) dX9_readDelay_136 ml_RX9_214 (by decide) s0_275 rfl (by decide) (Nat.le_of_ble_eq_true rfl) rfl (fun _ => rfl) h (fun r98 M99 h => ?_)
            exact a_vret (pc := 139) dX9_readDelay_139 rfl rfl (Nat.le_of_ble_eq_true rfl) ⟨rfl, h⟩
        · replace h := h.2 hc
          refine a_iload_n (pc := 7) dX9_mustBe_7 rfl ?_
          refine a_if_ne (tgt := 21) (pc := 8) dX9_mustBe_8 (by decide) (fun _ => ?_) (fun hc => absurd hc (by decide))
          refine a_vret (pc := 21) dX9_mustBe_21 rfl rfl (Nat.le_of_ble_eq_true rfl) ⟨rfl, ?_⟩
          refine a_aload_n (pc := 122) dX9_readDelay_122 (by decide) rfl ?_
          refine a_getI (y := 28) (pc := 123) dX9_readDelay_123 fl_RX9_179 (by decide) s0_275 (Or.inr rfl) rfl ?_
          refine a_if_ne (tgt := 139) (pc := 126) dX9_readDelay_126 (by decide) (fun hc => ?_) (fun hc => ?_)
          · replace h := h.1 hc
            exact a_vret (pc := 139) dX9_readDelay_139 rfl rfl (Nat.le_of_ble_eq_true rfl) ⟨rfl, h⟩
          · replace h := h.2 hc
            refine a_aload_n (pc := 129) dX9_readDelay_129 (by decide) rfl ?_
            refine a_iload_n (pc := 130) dX9_readDelay_130 rfl ?_
            refine a_iload_n (pc := 131) dX9_readDelay_131 rfl ?_
            refine a_iload (pc := 132) dX9_readDelay_132 rfl ?_
            refine a_iload (pc := 134) dX9_readDelay_134 rfl ?_
            refine p_callV (As := [(0, r2), (0, r62), (0, r92), (0, r96)]) (st := []) (st1 := fun r => [])  (pc := 136) dX9_readDelay_136 ml_RX9_214 (by decide) s0_275 rfl (by decide) (Nat.le_of_ble_eq_true rfl) rfl (fun _ => rfl) h (fun r100 M101 h => ?_)
            exact a_vret (pc := 139) dX9_readDelay_139 rfl rfl (Nat.le_of_ble_eq_true rfl) ⟨rfl, h⟩
      · replace h := h.2 hc
        refine a_aload_n (pc := 102) dX9_readDelay_102 (by decide) rfl ?_
        refine a_iload_n (pc := 103) dX9_readDelay_103 rfl ?_
        refine a_iload_n (pc := 104) dX9_readDelay_104 rfl ?_
        refine a_iload (pc := 105) dX9_readDelay_105 rfl ?_
        refine p_inlV (Ex := _) (As := [(0, r2), (0, r62), (0, r96)]) (st := [(2, 275)]) (st1 := fun r => [(0, r), (2, 275)])  (pc := 107) dX9_readDelay_107 ml_RX9_211 (by decide) s0_275 rfl (by decide) (Nat.le_of_ble_eq_true rfl) rfl (fun _ => rfl) (by decide) (by decide) (Nat.le_of_ble_eq_true rfl) rfl ?_
        refine a_aload_n (pc := 0) dX9_isTooLate_0 (by decide) rfl ?_
        refine a_iload_n (pc := 1) dX9_isTooLate_1 rfl ?_
        refine a_iload_n (pc := 2) dX9_isTooLate_2 rfl ?_
        refine a_aload_n (pc := 3) dX9_isTooLate_3 (by decide) rfl ?_
        refine a_getR (y := 277) (pc := 4) dX9_isTooLate_4 fl_RX9_13 (by decide) s0_275 rfl rfl ?_
        refine a_iload_n (pc := 7) dX9_isTooLate_7 rfl ?_
        have ho102 := h.1
        replace h := h.2
        refine a_iald (pc := 8) dX9_isTooLate_8 (by decide) s0_277 ho102.1 ho102.2 ?_
        refine a_iconst (pc := 9) dX9_isTooLate_9 (by decide) ?_
        have ho103 := h.1
        replace h := h.2
        refine a_isub (pc := 10) dX9_isTooLate_10 ho103 ?_
        refine p_inlV (Ex := _) (As := [(0, r2), (0, r62), (0, (M97 277 r2) - 1)]) (st := []) (st1 := fun r => [(0, r)])  (pc := 11) dX9_isTooLate_11 ml_RX9_120 (by decide) s0_275 rfl (by decide) (Nat.le_of_ble_eq_true rfl) rfl (fun _ => rfl) (by decide) (by decide) (Nat.le_of_ble_eq_true rfl) rfl ?_
        refine a_aload_n (pc := 0) dX9_minuteAt_0 (by decide) rfl ?_
        refine a_getR (y := 281) (pc := 1) dX9_minuteAt_1 fl_RX9_25 (by decide) s0_275 rfl rfl ?_
        refine a_bipush (pc := 4) dX9_minuteAt_4 (by decide) (by decide +kernel) ?_
        refine a_iload_n (pc := 6) dX9_minuteAt_6 rfl ?_
        have ho104 := h.1
        replace h := h.2
        refine a_imul (pc := 7) dX9_minuteAt_7 ho104 ?_
        refine a_bipush (pc := 8) dX9_minuteAt_8 (by decide) (by decide +kernel) ?_
        refine a_iload_n (pc := 10) dX9_minuteAt_10 rfl ?_
        have ho105 := h.1
        replace h := h.2
        refine a_imul (pc := 11) dX9_minuteAt_11 ho105 ?_
        have ho106 := h.1
        replace h := h.2
        refine a_iadd (pc := 12) dX9_minuteAt_12 ho106 ?_
        refine a_iload_n (pc := 13) dX9_minuteAt_13 rfl ?_
        have ho107 := h.1
        replace h := h.2
        refine a_iadd (pc := 14) dX9_minuteAt_14 ho107 ?_
        have ho108 := h.1
        replace h := h.2
        refine a_iald (pc := 15) dX9_minuteAt_15 (by decide) s0_281 ho108.1 ho108.2 ?_
        refine a_ireti (pc := 16) dX9_minuteAt_16 rfl rfl (Nat.le_of_ble_eq_true rfl) ⟨rfl, ?_⟩
        refine a_iload_n (pc := 14) dX9_isTooLate_14 rfl ?_
        have ho109 := h.1
        replace h := h.2
        refine a_iadd (pc := 15) dX9_isTooLate_15 ho109 ?_
        refine a_sipush (pc := 16) dX9_isTooLate_16 (by decide) (by decide +kernel) ?_
        refine a_icmp_le (tgt := 26) (pc := 19) dX9_isTooLate_19 (by decide) (fun hc => ?_) (fun hc => ?_)
        · replace h := h.1 hc
          refine a_iconst (pc := 26) dX9_isTooLate_26 (by decide) ?_
          refine a_iretz (pc := 27) dX9_isTooLate_27 rfl rfl (Nat.le_of_ble_eq_true rfl) (by decide) ⟨rfl, ?_⟩
          refine a_if_ne (tgt := 117) (pc := 110) dX9_readDelay_110 (by decide) (fun hc => absurd rfl hc) (fun _ => ?_)
          refine a_iconst (pc := 113) dX9_readDelay_113 (by decide) ?_
          refine a_goto (tgt := 118) (pc := 114) dX9_readDelay_114 (by decide) ?_
          refine a_iload_n (pc := 118) dX9_readDelay_118 rfl ?_
          refine p_inlV (Ex := _) (As := [(0, 1), (0, l1)]) (st := []) (st1 := fun r => [])  (pc := 119) dX9_readDelay_119 ml_RX9_201 (by decide) s0_275 rfl (by decide) (Nat.le_of_ble_eq_true rfl) rfl (fun _ => rfl) (by decide) (by decide) (Nat.le_of_ble_eq_true rfl) rfl ?_
          refine a_aload_n (pc := 0) dX9_mustBe_0 (by decide) rfl ?_
          refine a_getI (y := 28) (pc := 1) dX9_mustBe_1 fl_RX9_179 (by decide) s0_275 (Or.inr rfl) rfl ?_
          refine a_if_ne (tgt := 21) (pc := 4) dX9_mustBe_4 (by decide) (fun hc => ?_) (fun hc => ?_)
          · replace h := h.1 hc
            refine a_vret (pc := 21) dX9_mustBe_21 rfl rfl (Nat.le_of_ble_eq_true rfl) ⟨rfl, ?_⟩
            refine a_aload_n (pc := 122) dX9_readDelay_122 (by decide) rfl ?_
            refine a_getI (y := 28) (pc := 123) dX9_readDelay_123 fl_RX9_179 (by decide) s0_275 (Or.inr rfl) rfl ?_
            refine a_if_ne (tgt := 139) (pc := 126) dX9_readDelay_126 (by decide) (fun hc => ?_) (fun hc => ?_)
            · replace h := h.1 hc
              exact a_vret (pc := 139) dX9_readDelay_139 rfl rfl (Nat.le_of_ble_eq_true rfl) ⟨rfl, h⟩
            · replace h := h.2 hc
              refine a_aload_n (pc := 129) dX9_readDelay_129 (by decide) rfl ?_
              refine a_iload_n (pc := 130) dX9_readDelay_130 rfl ?_
              refine a_iload_n (pc := 131) dX9_readDelay_131 rfl ?_
              refine a_iload (pc := 132) dX9_readDelay_132 rfl ?_
              refine a_iload (pc := 134) dX9_readDelay_134 rfl ?_
              refine p_callV (As := [(0, r2), (0, r62), (0, r92), (0, r96)]) (st := []) (st1 := fun r => [])  (pc := 136) dX9_readDelay_136 ml_RX9_214 (by decide) s0_275 rfl (by decide) (Nat.le_of_ble_eq_true rfl) rfl (fun _ => rfl) h (fun r110 M111 h => ?_)
              exact a_vret (pc := 139) dX9_readDelay_139 rfl rfl (Nat.le_of_ble_eq_true rfl) ⟨rfl, h⟩
          · replace h := h.2 hc
            refine a_iload_n (pc := 7) dX9_mustBe_7 rfl ?_
            refine a_if_ne (tgt := 21) (pc := 8) dX9_mustBe_8 (by decide) (fun _ => ?_) (fun hc => absurd hc (by decide))
            refine a_vret (pc := 21) dX9_mustBe_21 rfl rfl (Nat.le_of_ble_eq_true rfl) ⟨rfl, ?_⟩
            refine a_aload_n (pc := 122) dX9_readDelay_122 (by decide) rfl ?_
            refine a_getI (y := 28) (pc := 123) dX9_readDelay_123 fl_RX9_179 (by decide) s0_275 (Or.inr rfl) rfl ?_
            refine a_if_ne (tgt := 139) (pc := 126) dX9_readDelay_126 (by decide) (fun hc => ?_) (fun hc => ?_)
            · replace h := h.1 hc
              exact a_vret (pc := 139) dX9_readDelay_139 rfl rfl (Nat.le_of_ble_eq_true rfl) ⟨rfl, h⟩
            · replace h := h.2 hc
              refine a_aload_n (pc := 129) dX9_readDelay_129 (by decide) rfl ?_
              refine a_iload_n (pc := 130) dX9_readDelay_130 rfl ?_
              refine a_iload_n (pc := 131) dX9_readDelay_131 rfl ?_
              refine a_iload (pc := 132) dX9_readDelay_132 rfl ?_
              refine a_iload (pc := 134) dX9_readDelay_134 rfl ?_
              refine p_callV (As := [(0, r2), (0, r62), (0, r92), (0, r96)]) (st := []) (st1 := fun r => [])  (pc := 136) dX9_readDelay_136 ml_RX9_214 (by decide) s0_275 rfl (by decide) (Nat.le_of_ble_eq_true rfl) rfl (fun _ => rfl) h (fun r112 M113 h => ?_)
              exact a_vret (pc := 139) dX9_readDelay_139 rfl rfl (Nat.le_of_ble_eq_true rfl) ⟨rfl, h⟩
        · replace h := h.2 hc
          refine a_iconst (pc := 22) dX9_isTooLate_22 (by decide) ?_
          refine a_goto (tgt := 27) (pc := 23) dX9_isTooLate_23 (by decide) ?_
          refine a_iretz (pc := 27) dX9_isTooLate_27 rfl rfl (Nat.le_of_ble_eq_true rfl) (by decide) ⟨rfl, ?_⟩
          refine a_if_ne (tgt := 117) (pc := 110) dX9_readDelay_110 (by decide) (fun _ => ?_) (fun hc => absurd hc (by decide))
          refine a_iconst (pc := 117) dX9_readDelay_117 (by decide) ?_
          refine a_iload_n (pc := 118) dX9_readDelay_118 rfl ?_
          refine p_inlV (Ex := _) (As := [(0, 0), (0, l1)]) (st := []) (st1 := fun r => [])  (pc := 119) dX9_readDelay_119 ml_RX9_201 (by decide) s0_275 rfl (by decide) (Nat.le_of_ble_eq_true rfl) rfl (fun _ => rfl) (by decide) (by decide) (Nat.le_of_ble_eq_true rfl) rfl ?_
          refine a_aload_n (pc := 0) dX9_mustBe_0 (by decide) rfl ?_
          refine a_getI (y := 28) (pc := 1) dX9_mustBe_1 fl_RX9_179 (by decide) s0_275 (Or.inr rfl) rfl ?_
          refine a_if_ne (tgt := 21) (pc := 4) dX9_mustBe_4 (by decide) (fun hc => ?_) (fun hc => ?_)
          · replace h := h.1 hc
            refine a_vret (pc := 21) dX9_mustBe_21 rfl rfl (Nat.le_of_ble_eq_true rfl) ⟨rfl, ?_⟩
            refine a_aload_n (pc := 122) dX9_readDelay_122 (by decide) rfl ?_
            refine a_getI (y := 28) (pc := 123) dX9_readDelay_123 fl_RX9_179 (by decide) s0_275 (Or.inr rfl) rfl ?_
            refine a_if_ne (tgt := 139) (pc := 126) dX9_readDelay_126 (by decide) (fun hc => ?_) (fun hc => ?_)
            · replace h := h.1 hc
              exact a_vret (pc := 139) dX9_readDelay_139 rfl rfl (Nat.le_of_ble_eq_true rfl) ⟨rfl, h⟩
            · replace h := h.2 hc
              refine a_aload_n (pc := 129) dX9_readDelay_129 (by decide) rfl ?_
              refine a_iload_n (pc := 130) dX9_readDelay_130 rfl ?_
              refine a_iload_n (pc := 131) dX9_readDelay_131 rfl ?_
              refine a_iload (pc := 132) dX9_readDelay_132 rfl ?_
              refine a_iload (pc := 134) dX9_readDelay_134 rfl ?_
              refine p_callV (As := [(0, r2), (0, r62), (0, r92), (0, r96)]) (st := []) (st1 := fun r => [])  (pc := 136) dX9_readDelay_136 ml_RX9_214 (by decide) s0_275 rfl (by decide) (Nat.le_of_ble_eq_true rfl) rfl (fun _ => rfl) h (fun r114 M115 h => ?_)
              exact a_vret (pc := 139) dX9_readDelay_139 rfl rfl (Nat.le_of_ble_eq_true rfl) ⟨rfl, h⟩
          · replace h := h.2 hc
            refine a_iload_n (pc := 7) dX9_mustBe_7 rfl ?_
            refine a_if_ne (tgt := 21) (pc := 8) dX9_mustBe_8 (by decide) (fun hc => absurd rfl hc) (fun _ => ?_)
            refine a_aload_n (pc := 11) dX9_mustBe_11 (by decide) rfl ?_
            refine a_iconst (pc := 12) dX9_mustBe_12 (by decide) ?_
            refine a_putZ (y := 28) (pc := 13) dX9_mustBe_13 fl_RX9_179 (by decide) s0_275 rfl rfl (tyX9_ok 28 (by decide)) rfl (by decide) ?_
            refine a_aload_n (pc := 16) dX9_mustBe_16 (by decide) rfl ?_
            refine a_iload_n (pc := 17) dX9_mustBe_17 rfl ?_
            refine a_putI (y := 27) (pc := 18) dX9_mustBe_18 fl_RX9_176 (by decide) s0_275 rfl rfl (tyX9_ok 27 (by decide)) rfl ?_
            refine a_vret (pc := 21) dX9_mustBe_21 rfl rfl (Nat.le_of_ble_eq_true rfl) ⟨rfl, ?_⟩
            refine a_aload_n (pc := 122) dX9_readDelay_122 (by decide) rfl ?_
            refine a_getI (y := 28) (pc := 123) dX9_readDelay_123 fl_RX9_179 (by decide) s0_275 (Or.inr rfl) rfl ?_
            refine a_eq (y := 1) rfl ?_
            refine a_if_ne (tgt := 139) (pc := 126) dX9_readDelay_126 (by decide) (fun _ => ?_) (fun hc => absurd hc (by decide))
            exact a_vret (pc := 139) dX9_readDelay_139 rfl rfl (Nat.le_of_ble_eq_true rfl) ⟨rfl, h⟩
theorem E_R_readDelay {l1 : Int} {M : Mem} {Q : Int → Mem → Prop} (h : AW mX9_readDelay 0 [(2, 275), (0, l1), (9, 0), (9, 0), (9, 0), (9, 0)] M Q) : Calls mX9_readDelay [(2, 275), (0, l1)] S0 M Q := calls_of (by decide) (by decide) (Nat.le_of_ble_eq_true rfl) rfl h
set_option maxRecDepth 100000 in
set_option maxHeartbeats 4000000 in
theorem B_R_readFoot_0 {M : Mem} {Q : Int → Mem → Prop} (h : Calls mX9_readWithin [(2, 275), (0, 2), (0, 0), (0, 11)] S0 M (fun r1 M2 => Calls mX9_wants [(2, 275), (0, 45)] S0 M2 (fun r3 M4 => Calls mX9_readWithin [(2, 275), (0, 2), (0, 0), (0, 11)] S0 M4 (fun r5 M6 => ((r1 = r5 → ((¬ (M6 275 28) = 0 → Calls mX9_wants [(2, 275), (0, 61)] S0 M6 (fun r7 M8 => Calls mX9_readWithin [(2, 275), (0, 2), (0, 1), (0, 60)] S0 M8 (fun r9 M10 => ((¬ (M10 275 28) = 0 → Q 0 M10) ∧ ((M10 275 28) = 0 → (-2147483648 ≤ 12 * r1 ∧ 12 * r1 ≤ 2147483647) ∧ (-2147483648 ≤ (12 * r1) + r5 ∧ (12 * r1) + r5 ≤ 2147483647) ∧ (0 ≤ (12 * r1) + r5 ∧ (12 * r1) + r5 < 144) ∧ (-2147483648 ≤ 12 * r5 ∧ 12 * r5 ≤ 2147483647) ∧ (-2147483648 ≤ (12 * r5) + r1 ∧ (12 * r5) + r1 ≤ 2147483647) ∧ (0 ≤ (12 * r5) + r1 ∧ (12 * r5) + r1 < 144) ∧ Q 0 (up2 (up2 M10 282 ((12 * r1) + r5) r9) 282 ((12 * r5) + r1) r9)))))) ∧ ((M6 275 28) = 0 → Calls mX9_wants [(2, 275), (0, 61)] S0 (up2 (up2 M6 275 28 1) 275 27 (M6 275 29)) (fun r17 M18 => Calls mX9_readWithin [(2, 275), (0, 2), (0, 1), (0, 60)] S0 M18 (fun r19 M20 => ((¬ (M20 275 28) = 0 → Q 0 M20) ∧ ((M20 275 28) = 0 → (-2147483648 ≤ 12 * r1 ∧ 12 * r1 ≤ 2147483647) ∧ (-2147483648 ≤ (12 * r1) + r5 ∧ (12 * r1) + r5 ≤ 2147483647) ∧ (0 ≤ (12 * r1) + r5 ∧ (12 * r1) + r5 < 144) ∧ (-2147483648 ≤ 12 * r5 ∧ 12 * r5 ≤ 2147483647) ∧ (-2147483648 ≤ (12 * r5) + r1 ∧ (12 * r5) + r1 ≤ 2147483647) ∧ (0 ≤ (12 * r5) + r1 ∧ (12 * r5) + r1 < 144) ∧ Q 0 (up2 (up2 M20 282 ((12 * r1) + r5) r19) 282 ((12 * r5) + r1) r19)))))))) ∧ (¬ (r1 = r5) → ((¬ (M6 275 28) = 0 → Calls mX9_wants [(2, 275), (0, 61)] S0 M6 (fun r27 M28 => Calls mX9_readWithin [(2, 275), (0, 2), (0, 1), (0, 60)] S0 M28 (fun r29 M30 => ((¬ (M30 275 28) = 0 → Q 0 M30) ∧ ((M30 275 28) = 0 → (-2147483648 ≤ 12 * r1 ∧ 12 * r1 ≤ 2147483647) ∧ (-2147483648 ≤ (12 * r1) + r5 ∧ (12 * r1) + r5 ≤ 2147483647) ∧ (0 ≤ (12 * r1) + r5 ∧ (12 * r1) + r5 < 144) ∧ (-2147483648 ≤ 12 * r5 ∧ 12 * r5 ≤ 2147483647) ∧ (-2147483648 ≤ (12 * r5) + r1 ∧ (12 * r5) + r1 ≤ 2147483647) ∧ (0 ≤ (12 * r5) + r1 ∧ (12 * r5) + r1 < 144) ∧ Q 0 (up2 (up2 M30 282 ((12 * r1) + r5) r29) 282 ((12 * r5) + r1) r29)))))) ∧ ((M6 275 28) = 0 → Calls mX9_wants [(2, 275), (0, 61)] S0 M6 (fun r37 M38 => Calls mX9_readWithin [(2, 275), (0, 2), (0, 1), (0, 60)] S0 M38 (fun r39 M40 => ((¬ (M40 275 28) = 0 → Q 0 M40) ∧ ((M40 275 28) = 0 → (-2147483648 ≤ 12 * r1 ∧ 12 * r1 ≤ 2147483647) ∧ (-2147483648 ≤ (12 * r1) + r5 ∧ (12 * r1) + r5 ≤ 2147483647) ∧ (0 ≤ (12 * r1) + r5 ∧ (12 * r1) + r5 < 144) ∧ (-2147483648 ≤ 12 * r5 ∧ 12 * r5 ≤ 2147483647) ∧ (-2147483648 ≤ (12 * r5) + r1 ∧ (12 * r5) + r1 ≤ 2147483647) ∧ (0 ≤ (12 * r5) + r1 ∧ (12 * r5) + r1 < 144) ∧ Q 0 (up2 (up2 M40 282 ((12 * r1) + r5) r39) 282 ((12 * r5) + r1) r39))))))))))))) : AW mX9_readFoot 0 [(2, 275), (9, 0), (9, 0), (9, 0)] M Q := by
  refine a_aload_n (pc := 0) dX9_readFoot_0 (by decide) rfl ?_
  refine a_iconst (pc := 1) dX9_readFoot_1 (by decide) ?_
  refine a_iconst (pc := 2) dX9_readFoot_2 (by decide) ?_
  refine a_bipush (pc := 3) dX9_readFoot_3 (by decide) (by decide +kernel) ?_
  refine p_callV (As := [(0, 2), (0, 0), (0, 11)]) (st := []) (st1 := fun r => [(0, r)])  (pc := 5) dX9_readFoot_5 ml_RX9_205 (by decide) s0_275 rfl (by decide) (Nat.le_of_ble_eq_true rfl) rfl (fun _ => rfl) h (fun r1 M2 h => ?_)
  refine a_istore_n (ls1 := [(2, 275), (0, r1), (9, 0), (9, 0)]) (pc := 8) dX9_readFoot_8 (by decide) (hp1 (t := 2) rfl (by decide)) rfl ?_
  refine a_aload_n (pc := 9) dX9_readFoot_9 (by decide) rfl ?_
  refine a_bipush (pc := 10) dX9_readFoot_10 (by decide) (by decide +kernel) ?_
  refine p_callV (As := [(0, 45)]) (st := []) (st1 := fun r => [])  (pc := 12) dX9_readFoot_12 ml_RX9_208 (by decide) s0_275 rfl (by decide) (Nat.le_of_ble_eq_true rfl) rfl (fun _ => rfl) h (fun r3 M4 h => ?_)
  refine a_aload_n (pc := 15) dX9_readFoot_15 (by decide) rfl ?_
  refine a_iconst (pc := 16) dX9_readFoot_16 (by decide) ?_
  refine a_iconst (pc := 17) dX9_readFoot_17 (by decide) ?_
  refine a_bipush (pc := 18) dX9_readFoot_18 (by decide) (by decide +kernel) ?_
  refine p_callV (As := [(0, 2), (0, 0), (0, 11)]) (st := []) (st1 := fun r => [(0, r)])  (pc := 20) dX9_readFoot_20 ml_RX9_205 (by decide) s0_275 rfl (by decide) (Nat.le_of_ble_eq_true rfl) rfl (fun _ => rfl) h (fun r5 M6 h => ?_)
  refine a_istore_n (ls1 := [(2, 275), (0, r1), (0, r5), (9, 0)]) (pc := 23) dX9_readFoot_23 (by decide) (hp1 (t := 0) rfl (by decide)) rfl ?_
  refine a_aload_n (pc := 24) dX9_readFoot_24 (by decide) rfl ?_
  refine a_iload_n (pc := 25) dX9_readFoot_25 rfl ?_
  refine a_iload_n (pc := 26) dX9_readFoot_26 rfl ?_
  refine a_icmp_eq (tgt := 34) (pc := 27) dX9_readFoot_27 (by decide) (fun hc => ?_) (fun hc => ?_)
  · replace h := h.1 hc
    refine a_iconst (pc := 34) dX9_readFoot_34 (by decide) ?_
    refine a_aload_n (pc := 35) dX9_readFoot_35 (by decide) rfl ?_
    refine a_getI (y := 29) (pc := 36) dX9_readFoot_36 fl_RX9_194 (by decide) s0_275 (Or.inl rfl) rfl ?_
    refine p_inlV (Ex := _) (As := [(0, 0), (0, M6 275 29)]) (st := []) (st1 := fun r => [])  (pc := 39) dX9_readFoot_39 ml_RX9_201 (by decide) s0_275 rfl (by decide) (Nat.le_of_ble_eq_true rfl) rfl (fun _ => rfl) (by decide) (by decide) (Nat.le_of_ble_eq_true rfl) rfl ?_
    refine a_aload_n (pc := 0) dX9_mustBe_0 (by decide) rfl ?_
    refine a_getI (y := 28) (pc := 1) dX9_mustBe_1 fl_RX9_179 (by decide) s0_275 (Or.inr rfl) rfl ?_
    refine a_if_ne (tgt := 21) (pc := 4) dX9_mustBe_4 (by decide) (fun hc => ?_) (fun hc => ?_)
    · replace h := h.1 hc
      refine a_vret (pc := 21) dX9_mustBe_21 rfl rfl (Nat.le_of_ble_eq_true rfl) ⟨rfl, ?_⟩
      refine a_aload_n (pc := 42) dX9_readFoot_42 (by decide) rfl ?_
      refine a_bipush (pc := 43) dX9_readFoot_43 (by decide) (by decide +kernel) ?_
      refine p_callV (As := [(0, 61)]) (st := []) (st1 := fun r => [])  (pc := 45) dX9_readFoot_45 ml_RX9_208 (by decide) s0_275 rfl (by decide) (Nat.le_of_ble_eq_true rfl) rfl (fun _ => rfl) h (fun r7 M8 h => ?_)
      refine a_aload_n (pc := 48) dX9_readFoot_48 (by decide) rfl ?_
      refine a_iconst (pc := 49) dX9_readFoot_49 (by decide) ?_
      refine a_iconst (pc := 50) dX9_readFoot_50 (by decide) ?_
      refine a_bipush (pc := 51) dX9_readFoot_51 (by decide) (by decide +kernel) ?_
      refine p_callV (As := [(0, 2), (0, 1), (0, 60)]) (st := []) (st1 := fun r => [(0, r)])  (pc := 53) dX9_readFoot_53 ml_RX9_205 (by decide) s0_275 rfl (by decide) (Nat.le_of_ble_eq_true rfl) rfl (fun _ => rfl) h (fun r9 M10 h => ?_)
      refine a_istore_n (ls1 := [(2, 275), (0, r1), (0, r5), (0, r9)]) (pc := 56) dX9_readFoot_56 (by decide) (hp1 (t := 0) rfl (by decide)) rfl ?_
      refine a_aload_n (pc := 57) dX9_readFoot_57 (by decide) rfl ?_
      refine a_getI (y := 28) (pc := 58) dX9_readFoot_58 fl_RX9_179 (by decide) s0_275 (Or.inr rfl) rfl ?_
      refine a_if_ne (tgt := 88) (pc := 61) dX9_readFoot_61 (by decide) (fun hc => ?_) (fun hc => ?_)
      · replace h := h.1 hc
        exact a_vret (pc := 88) dX9_readFoot_88 rfl rfl (Nat.le_of_ble_eq_true rfl) ⟨rfl, h⟩
      · replace h := h.2 hc
        refine a_aload_n (pc := 64) dX9_readFoot_64 (by decide) rfl ?_
        refine a_getR (y := 282) (pc := 65) dX9_readFoot_65 fl_RX9_28 (by decide) s0_275 rfl rfl ?_
        refine a_bipush (pc := 68) dX9_readFoot_68 (by decide) (by decide +kernel) ?_
        refine a_iload_n (pc := 70) dX9_readFoot_70 rfl ?_
        have ho11 := h.1
        replace h := h.2
        refine a_imul (pc := 71) dX9_readFoot_71 ho11 ?_
        refine a_iload_n (pc := 72) dX9_readFoot_72 rfl ?_
        have ho12 := h.1
        replace h := h.2
        refine a_iadd (pc := 73) dX9_readFoot_73 ho12 ?_
        refine a_iload_n (pc := 74) dX9_readFoot_74 rfl ?_
        have ho13 := h.1
        replace h := h.2
        refine a_iast (pc := 75) dX9_readFoot_75 (by decide) s0_282 ho13.1 ho13.2 ?_
        refine a_aload_n (pc := 76) dX9_readFoot_76 (by decide) rfl ?_
        refine a_getR (y := 282) (pc := 77) dX9_readFoot_77 fl_RX9_28 (by decide) s0_275 rfl rfl ?_
        refine a_bipush (pc := 80) dX9_readFoot_80 (by decide) (by decide +kernel) ?_
        refine a_iload_n (pc := 82) dX9_readFoot_82 rfl ?_
        have ho14 := h.1
        replace h := h.2
        refine a_imul (pc := 83) dX9_readFoot_83 ho14 ?_
        refine a_iload_n (pc := 84) dX9_readFoot_84 rfl ?_
        have ho15 := h.1
        replace h := h.2
        refine a_iadd (pc := 85) dX9_readFoot_85 ho15 ?_
        refine a_iload_n (pc := 86) dX9_readFoot_86 rfl ?_
        have ho16 := h.1
        replace h := h.2
        refine a_iast (pc := 87) dX9_readFoot_87 (by decide) s0_282 ho16.1 ho16.2 ?_
        exact a_vret (pc := 88) dX9_readFoot_88 rfl rfl (Nat.le_of_ble_eq_true rfl) ⟨rfl, h⟩
    · replace h := h.2 hc
      refine a_iload_n (pc := 7) dX9_mustBe_7 rfl ?_
      refine a_if_ne (tgt := 21) (pc := 8) dX9_mustBe_8 (by decide) (fun hc => absurd rfl hc) (fun _ => ?_)
      refine a_aload_n (pc := 11) dX9_mustBe_11 (by decide) rfl ?_
      refine a_iconst (pc := 12) dX9_mustBe_12 (by decide) ?_
      refine a_putZ (y := 28) (pc := 13) dX9_mustBe_13 fl_RX9_179 (by decide) s0_275 rfl rfl (tyX9_ok 28 (by decide)) rfl (by decide) ?_
      refine a_aload_n (pc := 16) dX9_mustBe_16 (by decide) rfl ?_
      refine a_iload_n (pc := 17) dX9_mustBe_17 rfl ?_
      refine a_putI (y := 27) (pc := 18) dX9_mustBe_18 fl_RX9_176 (by decide) s0_275 rfl rfl (tyX9_ok 27 (by decide)) rfl ?_
      refine a_vret (pc := 21) dX9_mustBe_21 rfl rfl (Nat.le_of_ble_eq_true rfl) ⟨rfl, ?_⟩
      refine a_aload_n (pc := 42) dX9_readFoot_42 (by decide) rfl ?_
      refine a_bipush (pc := 43) dX9_readFoot_43 (by decide) (by decide +kernel) ?_
      refine p_callV (As := [(0, 61)]) (st := []) (st1 := fun r => [])  (pc := 45) dX9_readFoot_45 ml_RX9_208 (by decide) s0_275 rfl (by decide) (Nat.le_of_ble_eq_true rfl) rfl (fun _ => rfl) h (fun r17 M18 h => ?_)
      refine a_aload_n (pc := 48) dX9_readFoot_48 (by decide) rfl ?_
      refine a_iconst (pc := 49) dX9_readFoot_49 (by decide) ?_
      refine a_iconst (pc := 50) dX9_readFoot_50 (by decide) ?_
      refine a_bipush (pc := 51) dX9_readFoot_51 (by decide) (by decide +kernel) ?_
      refine p_callV (As := [(0, 2), (0, 1), (0, 60)]) (st := []) (st1 := fun r => [(0, r)])  (pc := 53) dX9_readFoot_53 ml_RX9_205 (by decide) s0_275 rfl (by decide) (Nat.le_of_ble_eq_true rfl) rfl (fun _ => rfl) h (fun r19 M20 h => ?_)
      refine a_istore_n (ls1 := [(2, 275), (0, r1), (0, r5), (0, r19)]) (pc := 56) dX9_readFoot_56 (by decide) (hp1 (t := 0) rfl (by decide)) rfl ?_
      refine a_aload_n (pc := 57) dX9_readFoot_57 (by decide) rfl ?_
      refine a_getI (y := 28) (pc := 58) dX9_readFoot_58 fl_RX9_179 (by decide) s0_275 (Or.inr rfl) rfl ?_
      refine a_if_ne (tgt := 88) (pc := 61) dX9_readFoot_61 (by decide) (fun hc => ?_) (fun hc => ?_)
      · replace h := h.1 hc
        exact a_vret (pc := 88) dX9_readFoot_88 rfl rfl (Nat.le_of_ble_eq_true rfl) ⟨rfl, h⟩
      · replace h := h.2 hc
        refine a_aload_n (pc := 64) dX9_readFoot_64 (by decide) rfl ?_
        refine a_getR (y := 282) (pc := 65) dX9_readFoot_65 fl_RX9_28 (by decide) s0_275 rfl rfl ?_
        refine a_bipush (pc := 68) dX9_readFoot_68 (by decide) (by decide +kernel) ?_
        refine a_iload_n (pc := 70) dX9_readFoot_70 rfl ?_
        have ho21 := h.1
        replace h := h.2
        refine a_imul (pc := 71) dX9_readFoot_71 ho21 ?_
        refine a_iload_n (pc := 72) dX9_readFoot_72 rfl ?_
        have ho22 := h.1
        replace h := h.2
        refine a_iadd (pc := 73) dX9_readFoot_73 ho22 ?_
        refine a_iload_n (pc := 74) dX9_readFoot_74 rfl ?_
        have ho23 := h.1
        replace h := h.2
        refine a_iast (pc := 75) dX9_readFoot_75 (by decide) s0_282 ho23.1 ho23.2 ?_
        refine a_aload_n (pc := 76) dX9_readFoot_76 (by decide) rfl ?_
        refine a_getR (y := 282) (pc := 77) dX9_readFoot_77 fl_RX9_28 (by decide) s0_275 rfl rfl ?_
        refine a_bipush (pc := 80) dX9_readFoot_80 (by decide) (by decide +kernel) ?_
        refine a_iload_n (pc := 82) dX9_readFoot_82 rfl ?_
        have ho24 := h.1
        replace h := h.2
        refine a_imul (pc := 83) dX9_readFoot_83 ho24 ?_
        refine a_iload_n (pc := 84) dX9_readFoot_84 rfl ?_
        have ho25 := h.1
        replace h := h.2
        refine a_iadd (pc := 85) dX9_readFoot_85 ho25 ?_
        refine a_iload_n (pc := 86) dX9_readFoot_86 rfl ?_
        have ho26 := h.1
        replace h := h.2
        refine a_iast (pc := 87) dX9_readFoot_87 (by decide) s0_282 ho26.1 ho26.2 ?_
        exact a_vret (pc := 88) dX9_readFoot_88 rfl rfl (Nat.le_of_ble_eq_true rfl) ⟨rfl, h⟩
  · replace h := h.2 hc
    refine a_iconst (pc := 30) dX9_readFoot_30 (by decide) ?_
    refine a_goto (tgt := 35) (pc := 31) dX9_readFoot_31 (by decide) ?_
    refine a_aload_n (pc := 35) dX9_readFoot_35 (by decide) rfl ?_
    refine a_getI (y := 29) (pc := 36) dX9_readFoot_36 fl_RX9_194 (by decide) s0_275 (Or.inl rfl) rfl ?_
    refine p_inlV (Ex := _) (As := [(0, 1), (0, M6 275 29)]) (st := []) (st1 := fun r => [])  (pc := 39) dX9_readFoot_39 ml_RX9_201 (by decide) s0_275 rfl (by decide) (Nat.le_of_ble_eq_true rfl) rfl (fun _ => rfl) (by decide) (by decide) (Nat.le_of_ble_eq_true rfl) rfl ?_
    refine a_aload_n (pc := 0) dX9_mustBe_0 (by decide) rfl ?_
    refine a_getI (y := 28) (pc := 1) dX9_mustBe_1 fl_RX9_179 (by decide) s0_275 (Or.inr rfl) rfl ?_
    refine a_if_ne (tgt := 21) (pc := 4) dX9_mustBe_4 (by decide) (fun hc => ?_) (fun hc => ?_)
    · replace h := h.1 hc
      refine a_vret (pc := 21) dX9_mustBe_21 rfl rfl (Nat.le_of_ble_eq_true rfl) ⟨rfl, ?_⟩
      refine a_aload_n (pc := 42) dX9_readFoot_42 (by decide) rfl ?_
      refine a_bipush (pc := 43) dX9_readFoot_43 (by decide) (by decide +kernel) ?_
      refine p_callV (As := [(0, 61)]) (st := []) (st1 := fun r => [])  (pc := 45) dX9_readFoot_45 ml_RX9_208 (by decide) s0_275 rfl (by decide) (Nat.le_of_ble_eq_true rfl) rfl (fun _ => rfl) h (fun r27 M28 h => ?_)
      refine a_aload_n (pc := 48) dX9_readFoot_48 (by decide) rfl ?_
      refine a_iconst (pc := 49) dX9_readFoot_49 (by decide) ?_
      refine a_iconst (pc := 50) dX9_readFoot_50 (by decide) ?_
      refine a_bipush (pc := 51) dX9_readFoot_51 (by decide) (by decide +kernel) ?_
      refine p_callV (As := [(0, 2), (0, 1), (0, 60)]) (st := []) (st1 := fun r => [(0, r)])  (pc := 53) dX9_readFoot_53 ml_RX9_205 (by decide) s0_275 rfl (by decide) (Nat.le_of_ble_eq_true rfl) rfl (fun _ => rfl) h (fun r29 M30 h => ?_)
      refine a_istore_n (ls1 := [(2, 275), (0, r1), (0, r5), (0, r29)]) (pc := 56) dX9_readFoot_56 (by decide) (hp1 (t := 0) rfl (by decide)) rfl ?_
      refine a_aload_n (pc := 57) dX9_readFoot_57 (by decide) rfl ?_
      refine a_getI (y := 28) (pc := 58) dX9_readFoot_58 fl_RX9_179 (by decide) s0_275 (Or.inr rfl) rfl ?_
      refine a_if_ne (tgt := 88) (pc := 61) dX9_readFoot_61 (by decide) (fun hc => ?_) (fun hc => ?_)
      · replace h := h.1 hc
        exact a_vret (pc := 88) dX9_readFoot_88 rfl rfl (Nat.le_of_ble_eq_true rfl) ⟨rfl, h⟩
      · replace h := h.2 hc
        refine a_aload_n (pc := 64) dX9_readFoot_64 (by decide) rfl ?_
        refine a_getR (y := 282) (pc := 65) dX9_readFoot_65 fl_RX9_28 (by decide) s0_275 rfl rfl ?_
        refine a_bipush (pc := 68) dX9_readFoot_68 (by decide) (by decide +kernel) ?_
        refine a_iload_n (pc := 70) dX9_readFoot_70 rfl ?_
        have ho31 := h.1
        replace h := h.2
        refine a_imul (pc := 71) dX9_readFoot_71 ho31 ?_
        refine a_iload_n (pc := 72) dX9_readFoot_72 rfl ?_
        have ho32 := h.1
        replace h := h.2
        refine a_iadd (pc := 73) dX9_readFoot_73 ho32 ?_
        refine a_iload_n (pc := 74) dX9_readFoot_74 rfl ?_
        have ho33 := h.1
        replace h := h.2
        refine a_iast (pc := 75) dX9_readFoot_75 (by decide) s0_282 ho33.1 ho33.2 ?_
        refine a_aload_n (pc := 76) dX9_readFoot_76 (by decide) rfl ?_
        refine a_getR (y := 282) (pc := 77) dX9_readFoot_77 fl_RX9_28 (by decide) s0_275 rfl rfl ?_
        refine a_bipush (pc := 80) dX9_readFoot_80 (by decide) (by decide +kernel) ?_
        refine a_iload_n (pc := 82) dX9_readFoot_82 rfl ?_
        have ho34 := h.1
        replace h := h.2
        refine a_imul (pc := 83) dX9_readFoot_83 ho34 ?_
        refine a_iload_n (pc := 84) dX9_readFoot_84 rfl ?_
        have ho35 := h.1
        replace h := h.2
        refine a_iadd (pc := 85) dX9_readFoot_85 ho35 ?_
        refine a_iload_n (pc := 86) dX9_readFoot_86 rfl ?_
        have ho36 := h.1
        replace h := h.2
        refine a_iast (pc := 87) dX9_readFoot_87 (by decide) s0_282 ho36.1 ho36.2 ?_
        exact a_vret (pc := 88) dX9_readFoot_88 rfl rfl (Nat.le_of_ble_eq_true rfl) ⟨rfl, h⟩
    · replace h := h.2 hc
      refine a_iload_n (pc := 7) dX9_mustBe_7 rfl ?_
      refine a_if_ne (tgt := 21) (pc := 8) dX9_mustBe_8 (by decide) (fun _ => ?_) (fun hc => absurd hc (by decide))
      refine a_vret (pc := 21) dX9_mustBe_21 rfl rfl (Nat.le_of_ble_eq_true rfl) ⟨rfl, ?_⟩
      refine a_aload_n (pc := 42) dX9_readFoot_42 (by decide) rfl ?_
      refine a_bipush (pc := 43) dX9_readFoot_43 (by decide) (by decide +kernel) ?_
      refine p_callV (As := [(0, 61)]) (st := []) (st1 := fun r => [])  (pc := 45) dX9_readFoot_45 ml_RX9_208 (by decide) s0_275 rfl (by decide) (Nat.le_of_ble_eq_true rfl) rfl (fun _ => rfl) h (fun r37 M38 h => ?_)
      refine a_aload_n (pc := 48) dX9_readFoot_48 (by decide) rfl ?_
      refine a_iconst (pc := 49) dX9_readFoot_49 (by decide) ?_
      refine a_iconst (pc := 50) dX9_readFoot_50 (by decide) ?_
      refine a_bipush (pc := 51) dX9_readFoot_51 (by decide) (by decide +kernel) ?_
      refine p_callV (As := [(0, 2), (0, 1), (0, 60)]) (st := []) (st1 := fun r => [(0, r)])  (pc := 53) dX9_readFoot_53 ml_RX9_205 (by decide) s0_275 rfl (by decide) (Nat.le_of_ble_eq_true rfl) rfl (fun _ => rfl) h (fun r39 M40 h => ?_)
      refine a_istore_n (ls1 := [(2, 275), (0, r1), (0, r5), (0, r39)]) (pc := 56) dX9_readFoot_56 (by decide) (hp1 (t := 0) rfl (by decide)) rfl ?_
      refine a_aload_n (pc := 57) dX9_readFoot_57 (by decide) rfl ?_
      refine a_getI (y := 28) (pc := 58) dX9_readFoot_58 fl_RX9_179 (by decide) s0_275 (Or.inr rfl) rfl ?_
      refine a_if_ne (tgt := 88) (pc := 61) dX9_readFoot_61 (by decide) (fun hc => ?_) (fun hc => ?_)
      · replace h := h.1 hc
        exact a_vret (pc := 88) dX9_readFoot_88 rfl rfl (Nat.le_of_ble_eq_true rfl) ⟨rfl, h⟩
      · replace h := h.2 hc
        refine a_aload_n (pc := 64) dX9_readFoot_64 (by decide) rfl ?_
        refine a_getR (y := 282) (pc := 65) dX9_readFoot_65 fl_RX9_28 (by decide) s0_275 rfl rfl ?_
        refine a_bipush (pc := 68) dX9_readFoot_68 (by decide) (by decide +kernel) ?_
        refine a_iload_n (pc := 70) dX9_readFoot_70 rfl ?_
        have ho41 := h.1
        replace h := h.2
        refine a_imul (pc := 71) dX9_readFoot_71 ho41 ?_
        refine a_iload_n (pc := 72) dX9_readFoot_72 rfl ?_
        have ho42 := h.1
        replace h := h.2
        refine a_iadd (pc := 73) dX9_readFoot_73 ho42 ?_
        refine a_iload_n (pc := 74) dX9_readFoot_74 rfl ?_
        have ho43 := h.1
        replace h := h.2
        refine a_iast (pc := 75) dX9_readFoot_75 (by decide) s0_282 ho43.1 ho43.2 ?_
        refine a_aload_n (pc := 76) dX9_readFoot_76 (by decide) rfl ?_
        refine a_getR (y := 282) (pc := 77) dX9_readFoot_77 fl_RX9_28 (by decide) s0_275 rfl rfl ?_
        refine a_bipush (pc := 80) dX9_readFoot_80 (by decide) (by decide +kernel) ?_
        refine a_iload_n (pc := 82) dX9_readFoot_82 rfl ?_
        have ho44 := h.1
        replace h := h.2
        refine a_imul (pc := 83) dX9_readFoot_83 ho44 ?_
        refine a_iload_n (pc := 84) dX9_readFoot_84 rfl ?_
        have ho45 := h.1
        replace h := h.2
        refine a_iadd (pc := 85) dX9_readFoot_85 ho45 ?_
        refine a_iload_n (pc := 86) dX9_readFoot_86 rfl ?_
        have ho46 := h.1
        replace h := h.2
        refine a_iast (pc := 87) dX9_readFoot_87 (by decide) s0_282 ho46.1 ho46.2 ?_
        exact a_vret (pc := 88) dX9_readFoot_88 rfl rfl (Nat.le_of_ble_eq_true rfl) ⟨rfl, h⟩
theorem E_R_readFoot {M : Mem} {Q : Int → Mem → Prop} (h : AW mX9_readFoot 0 [(2, 275), (9, 0), (9, 0), (9, 0)] M Q) : Calls mX9_readFoot [(2, 275)] S0 M Q := calls_of (by decide) (by decide) (Nat.le_of_ble_eq_true rfl) rfl h
set_option maxRecDepth 100000 in
set_option maxHeartbeats 4000000 in
theorem B_R_readLine_0 {l1 : Int} {M : Mem} {Q : Int → Mem → Prop} (h : ((8 ≤ (M 275 0) → ((¬ (M 275 28) = 0 → Calls mX9_readWithin [(2, 275), (0, 1), (0, 0), (0, 5)] S0 M (fun r1 M2 => Calls mX9_wants [(2, 275), (0, 58)] S0 M2 (fun r3 M4 => ((¬ (M4 275 28) = 0 → AW mX9_readLine 52 [(2, 275), (9, 0), (0, r1), (0, 0), (0, 0), (0, 0), (9, 0)] M4 Q) ∧ ((M4 275 28) = 0 → AW mX9_readLine 52 [(2, 275), (9, 0), (0, r1), (0, 0), (0, 0), (0, 1), (9, 0)] M4 Q))))) ∧ ((M 275 28) = 0 → Calls mX9_readWithin [(2, 275), (0, 1), (0, 0), (0, 5)] S0 (up2 (up2 M 275 28 1) 275 27 l1) (fun r5 M6 => Calls mX9_wants [(2, 275), (0, 58)] S0 M6 (fun r7 M8 => ((¬ (M8 275 28) = 0 → AW mX9_readLine 52 [(2, 275), (9, 0), (0, r5), (0, 0), (0, 0), (0, 0), (9, 0)] M8 Q) ∧ ((M8 275 28) = 0 → AW mX9_readLine 52 [(2, 275), (9, 0), (0, r5), (0, 0), (0, 0), (0, 1), (9, 0)] M8 Q))))))) ∧ (¬ (8 ≤ (M 275 0)) → ((¬ (M 275 28) = 0 → Calls mX9_readWithin [(2, 275), (0, 1), (0, 0), (0, 5)] S0 M (fun r9 M10 => Calls mX9_wants [(2, 275), (0, 58)] S0 M10 (fun r11 M12 => ((¬ (M12 275 28) = 0 → AW mX9_readLine 52 [(2, 275), (9, 0), (0, r9), (0, 0), (0, 0), (0, 0), (9, 0)] M12 Q) ∧ ((M12 275 28) = 0 → AW mX9_readLine 52 [(2, 275), (9, 0), (0, r9), (0, 0), (0, 0), (0, 1), (9, 0)] M12 Q))))) ∧ ((M 275 28) = 0 → Calls mX9_readWithin [(2, 275), (0, 1), (0, 0), (0, 5)] S0 M (fun r13 M14 => Calls mX9_wants [(2, 275), (0, 58)] S0 M14 (fun r15 M16 => ((¬ (M16 275 28) = 0 → AW mX9_readLine 52 [(2, 275), (9, 0), (0, r13), (0, 0), (0, 0), (0, 0), (9, 0)] M16 Q) ∧ ((M16 275 28) = 0 → AW mX9_readLine 52 [(2, 275), (9, 0), (0, r13), (0, 0), (0, 0), (0, 1), (9, 0)] M16 Q))))))))) : AW mX9_readLine 0 [(2, 275), (0, l1), (9, 0), (9, 0), (9, 0), (9, 0), (9, 0)] M Q := by
  refine a_aload_n (pc := 0) dX9_readLine_0 (by decide) rfl ?_
  refine a_aload_n (pc := 1) dX9_readLine_1 (by decide) rfl ?_
  refine a_getI (y := 0) (pc := 2) dX9_readLine_2 fl_RX9_98 (by decide) s0_275 (Or.inl rfl) rfl ?_
  refine a_bipush (pc := 5) dX9_readLine_5 (by decide) (by decide +kernel) ?_
  refine a_icmp_ge (tgt := 14) (pc := 7) dX9_readLine_7 (by decide) (fun hc => ?_) (fun hc => ?_)
  · replace h := h.1 hc
    refine a_iconst (pc := 14) dX9_readLine_14 (by decide) ?_
    refine a_iload_n (pc := 15) dX9_readLine_15 rfl ?_
    refine p_inlV (Ex := _) (As := [(0, 0), (0, l1)]) (st := []) (st1 := fun r => [])  (pc := 16) dX9_readLine_16 ml_RX9_201 (by decide) s0_275 rfl (by decide) (Nat.le_of_ble_eq_true rfl) rfl (fun _ => rfl) (by decide) (by decide) (Nat.le_of_ble_eq_true rfl) rfl ?_
    refine a_aload_n (pc := 0) dX9_mustBe_0 (by decide) rfl ?_
    refine a_getI (y := 28) (pc := 1) dX9_mustBe_1 fl_RX9_179 (by decide) s0_275 (Or.inr rfl) rfl ?_
    refine a_if_ne (tgt := 21) (pc := 4) dX9_mustBe_4 (by decide) (fun hc => ?_) (fun hc => ?_)
    · replace h := h.1 hc
      refine a_vret (pc := 21) dX9_mustBe_21 rfl rfl (Nat.le_of_ble_eq_true rfl) ⟨rfl, ?_⟩
      refine a_aload_n (pc := 19) dX9_readLine_19 (by decide) rfl ?_
      refine a_iconst (pc := 20) dX9_readLine_20 (by decide) ?_
      refine a_iconst (pc := 21) dX9_readLine_21 (by decide) ?_
      refine a_iconst (pc := 22) dX9_readLine_22 (by decide) ?_
      refine p_callV (As := [(0, 1), (0, 0), (0, 5)]) (st := []) (st1 := fun r => [(0, r)])  (pc := 23) dX9_readLine_23 ml_RX9_205 (by decide) s0_275 rfl (by decide) (Nat.le_of_ble_eq_true rfl) rfl (fun _ => rfl) h (fun r1 M2 h => ?_)
      refine a_istore_n (ls1 := [(2, 275), (0, l1), (0, r1), (9, 0), (9, 0), (9, 0), (9, 0)]) (pc := 26) dX9_readLine_26 (by decide) (hp1 (t := 0) rfl (by decide)) rfl ?_
      refine a_aload_n (pc := 27) dX9_readLine_27 (by decide) rfl ?_
      refine a_bipush (pc := 28) dX9_readLine_28 (by decide) (by decide +kernel) ?_
      refine p_callV (As := [(0, 58)]) (st := []) (st1 := fun r => [])  (pc := 30) dX9_readLine_30 ml_RX9_208 (by decide) s0_275 rfl (by decide) (Nat.le_of_ble_eq_true rfl) rfl (fun _ => rfl) h (fun r3 M4 h => ?_)
      refine a_iconst (pc := 33) dX9_readLine_33 (by decide) ?_
      refine a_istore_n (ls1 := [(2, 275), (0, l1), (0, r1), (0, 0), (9, 0), (9, 0), (9, 0)]) (pc := 34) dX9_readLine_34 (by decide) (hp1 (t := 0) rfl (by decide)) rfl ?_
      refine a_iconst (pc := 35) dX9_readLine_35 (by decide) ?_
      refine a_istore (ls1 := [(2, 275), (0, l1), (0, r1), (0, 0), (0, 0), (9, 0), (9, 0)]) (pc := 36) dX9_readLine_36 (by decide) (hp1 (t := 0) rfl (by decide)) rfl ?_
      refine a_aload_n (pc := 38) dX9_readLine_38 (by decide) rfl ?_
      refine a_getI (y := 28) (pc := 39) dX9_readLine_39 fl_RX9_179 (by decide) s0_275 (Or.inr rfl) rfl ?_
      refine a_if_ne (tgt := 49) (pc := 42) dX9_readLine_42 (by decide) (fun hc => ?_) (fun hc => ?_)
      · replace h := h.1 hc
        refine a_iconst (pc := 49) dX9_readLine_49 (by decide) ?_
        refine a_istore (ls1 := [(2, 275), (0, l1), (0, r1), (0, 0), (0, 0), (0, 0), (9, 0)]) (pc := 50) dX9_readLine_50 (by decide) (hp1 (t := 0) rfl (by decide)) rfl ?_
        exact a_msk [true, false, true, true, true, true, true] rfl h
      · replace h := h.2 hc
        refine a_iconst (pc := 45) dX9_readLine_45 (by decide) ?_
        refine a_goto (tgt := 50) (pc := 46) dX9_readLine_46 (by decide) ?_
        refine a_istore (ls1 := [(2, 275), (0, l1), (0, r1), (0, 0), (0, 0), (0, 1), (9, 0)]) (pc := 50) dX9_readLine_50 (by decide) (hp1 (t := 0) rfl (by decide)) rfl ?_
        exact a_msk [true, false, true, true, true, true, true] rfl h
    · replace h := h.2 hc
      refine a_iload_n (pc := 7) dX9_mustBe_7 rfl ?_
      refine a_if_ne (tgt := 21) (pc := 8) dX9_mustBe_8 (by decide) (fun hc => absurd rfl hc) (fun _ => ?_)
      refine a_aload_n (pc := 11) dX9_mustBe_11 (by decide) rfl ?_
      refine a_iconst (pc := 12) dX9_mustBe_12 (by decide) ?_
      refine a_putZ (y := 28) (pc := 13) dX9_mustBe_13 fl_RX9_179 (by decide) s0_275 rfl rfl (tyX9_ok 28 (by decide)) rfl (by decide) ?_
      refine a_aload_n (pc := 16) dX9_mustBe_16 (by decide) rfl ?_
      refine a_iload_n (pc := 17) dX9_mustBe_17 rfl ?_
      refine a_putI (y := 27) (pc := 18) dX9_mustBe_18 fl_RX9_176 (by decide) s0_275 rfl rfl (tyX9_ok 27 (by decide)) rfl ?_
      refine a_vret (pc := 21) dX9_mustBe_21 rfl rfl (Nat.le_of_ble_eq_true rfl) ⟨rfl, ?_⟩
      refine a_aload_n (pc := 19) dX9_readLine_19 (by decide) rfl ?_
      refine a_iconst (pc := 20) dX9_readLine_20 (by decide) ?_
      refine a_iconst (pc := 21) dX9_readLine_21 (by decide) ?_
      refine a_iconst (pc := 22) dX9_readLine_22 (by decide) ?_
      refine p_callV (As := [(0, 1), (0, 0), (0, 5)]) (st := []) (st1 := fun r => [(0, r)])  (pc := 23) dX9_readLine_23 ml_RX9_205 (by decide) s0_275 rfl (by decide) (Nat.le_of_ble_eq_true rfl) rfl (fun _ => rfl) h (fun r5 M6 h => ?_)
      refine a_istore_n (ls1 := [(2, 275), (0, l1), (0, r5), (9, 0), (9, 0), (9, 0), (9, 0)]) (pc := 26) dX9_readLine_26 (by decide) (hp1 (t := 0) rfl (by decide)) rfl ?_
      refine a_aload_n (pc := 27) dX9_readLine_27 (by decide) rfl ?_
      refine a_bipush (pc := 28) dX9_readLine_28 (by decide) (by decide +kernel) ?_
      refine p_callV (As := [(0, 58)]) (st := []) (st1 := fun r => [])  (pc := 30) dX9_readLine_30 ml_RX9_208 (by decide) s0_275 rfl (by decide) (Nat.le_of_ble_eq_true rfl) rfl (fun _ => rfl) h (fun r7 M8 h => ?_)
      refine a_iconst (pc := 33) dX9_readLine_33 (by decide) ?_
      refine a_istore_n (ls1 := [(2, 275), (0, l1), (0, r5), (0, 0), (9, 0), (9, 0), (9, 0)]) (pc := 34) dX9_readLine_34 (by decide) (hp1 (t := 0) rfl (by decide)) rfl ?_
      refine a_iconst (pc := 35) dX9_readLine_35 (by decide) ?_
      refine a_istore (ls1 := [(2, 275), (0, l1), (0, r5), (0, 0), (0, 0), (9, 0), (9, 0)]) (pc := 36) dX9_readLine_36 (by decide) (hp1 (t := 0) rfl (by decide)) rfl ?_
      refine a_aload_n (pc := 38) dX9_readLine_38 (by decide) rfl ?_
      refine a_getI (y := 28) (pc := 39) dX9_readLine_39 fl_RX9_179 (by decide) s0_275 (Or.inr rfl) rfl ?_
      refine a_if_ne (tgt := 49) (pc := 42) dX9_readLine_42 (by decide) (fun hc => ?_) (fun hc => ?_)
      · replace h := h.1 hc
        refine a_iconst (pc := 49) dX9_readLine_49 (by decide) ?_
        refine a_istore (ls1 := [(2, 275), (0, l1), (0, r5), (0, 0), (0, 0), (0, 0), (9, 0)]) (pc := 50) dX9_readLine_50 (by decide) (hp1 (t := 0) rfl (by decide)) rfl ?_
        exact a_msk [true, false, true, true, true, true, true] rfl h
      · replace h := h.2 hc
        refine a_iconst (pc := 45) dX9_readLine_45 (by decide) ?_
        refine a_goto (tgt := 50) (pc := 46) dX9_readLine_46 (by decide) ?_
        refine a_istore (ls1 := [(2, 275), (0, l1), (0, r5), (0, 0), (0, 0), (0, 1), (9, 0)]) (pc := 50) dX9_readLine_50 (by decide) (hp1 (t := 0) rfl (by decide)) rfl ?_
        exact a_msk [true, false, true, true, true, true, true] rfl h
  · replace h := h.2 hc
    refine a_iconst (pc := 10) dX9_readLine_10 (by decide) ?_
    refine a_goto (tgt := 15) (pc := 11) dX9_readLine_11 (by decide) ?_
    refine a_iload_n (pc := 15) dX9_readLine_15 rfl ?_
    refine p_inlV (Ex := _) (As := [(0, 1), (0, l1)]) (st := []) (st1 := fun r => [])  (pc := 16) dX9_readLine_16 ml_RX9_201 (by decide) s0_275 rfl (by decide) (Nat.le_of_ble_eq_true rfl) rfl (fun _ => rfl) (by decide) (by decide) (Nat.le_of_ble_eq_true rfl) rfl ?_
    refine a_aload_n (pc := 0) dX9_mustBe_0 (by decide) rfl ?_
    refine a_getI (y := 28) (pc := 1) dX9_mustBe_1 fl_RX9_179 (by decide) s0_275 (Or.inr rfl) rfl ?_
    refine a_if_ne (tgt := 21) (pc := 4) dX9_mustBe_4 (by decide) (fun hc => ?_) (fun hc => ?_)
    · replace h := h.1 hc
      refine a_vret (pc := 21) dX9_mustBe_21 rfl rfl (Nat.le_of_ble_eq_true rfl) ⟨rfl, ?_⟩
      refine a_aload_n (pc := 19) dX9_readLine_19 (by decide) rfl ?_
      refine a_iconst (pc := 20) dX9_readLine_20 (by decide) ?_
      refine a_iconst (pc := 21) dX9_readLine_21 (by decide) ?_
      refine a_iconst (pc := 22) dX9_readLine_22 (by decide) ?_
      refine p_callV (As := [(0, 1), (0, 0), (0, 5)]) (st := []) (st1 := fun r => [(0, r)])  (pc := 23) dX9_readLine_23 ml_RX9_205 (by decide) s0_275 rfl (by decide) (Nat.le_of_ble_eq_true rfl) rfl (fun _ => rfl) h (fun r9 M10 h => ?_)
      refine a_istore_n (ls1 := [(2, 275), (0, l1), (0, r9), (9, 0), (9, 0), (9, 0), (9, 0)]) (pc := 26) dX9_readLine_26 (by decide) (hp1 (t := 0) rfl (by decide)) rfl ?_
      refine a_aload_n (pc := 27) dX9_readLine_27 (by decide) rfl ?_
      refine a_bipush (pc := 28) dX9_readLine_28 (by decide) (by decide +kernel) ?_
      refine p_callV (As := [(0, 58)]) (st := []) (st1 := fun r => [])  (pc := 30) dX9_readLine_30 ml_RX9_208 (by decide) s0_275 rfl (by decide) (Nat.le_of_ble_eq_true rfl) rfl (fun _ => rfl) h (fun r11 M12 h => ?_)
      refine a_iconst (pc := 33) dX9_readLine_33 (by decide) ?_
      refine a_istore_n (ls1 := [(2, 275), (0, l1), (0, r9), (0, 0), (9, 0), (9, 0), (9, 0)]) (pc := 34) dX9_readLine_34 (by decide) (hp1 (t := 0) rfl (by decide)) rfl ?_
      refine a_iconst (pc := 35) dX9_readLine_35 (by decide) ?_
      refine a_istore (ls1 := [(2, 275), (0, l1), (0, r9), (0, 0), (0, 0), (9, 0), (9, 0)]) (pc := 36) dX9_readLine_36 (by decide) (hp1 (t := 0) rfl (by decide)) rfl ?_
      refine a_aload_n (pc := 38) dX9_readLine_38 (by decide) rfl ?_
      refine a_getI (y := 28) (pc := 39) dX9_readLine_39 fl_RX9_179 (by decide) s0_275 (Or.inr rfl) rfl ?_
      refine a_if_ne (tgt := 49) (pc := 42) dX9_readLine_42 (by decide) (fun hc => ?_) (fun hc => ?_)
      · replace h := h.1 hc
        refine a_iconst (pc := 49) dX9_readLine_49 (by decide) ?_
        refine a_istore (ls1 := [(2, 275), (0, l1), (0, r9), (0, 0), (0, 0), (0, 0), (9, 0)]) (pc := 50) dX9_readLine_50 (by decide) (hp1 (t := 0) rfl (by decide)) rfl ?_
        exact a_msk [true, false, true, true, true, true, true] rfl h
      · replace h := h.2 hc
        refine a_iconst (pc := 45) dX9_readLine_45 (by decide) ?_
        refine a_goto (tgt := 50) (pc := 46) dX9_readLine_46 (by decide) ?_
        refine a_istore (ls1 := [(2, 275), (0, l1), (0, r9), (0, 0), (0, 0), (0, 1), (9, 0)]) (pc := 50) dX9_readLine_50 (by decide) (hp1 (t := 0) rfl (by decide)) rfl ?_
        exact a_msk [true, false, true, true, true, true, true] rfl h
    · replace h := h.2 hc
      refine a_iload_n (pc := 7) dX9_mustBe_7 rfl ?_
      refine a_if_ne (tgt := 21) (pc := 8) dX9_mustBe_8 (by decide) (fun _ => ?_) (fun hc => absurd hc (by decide))
      refine a_vret (pc := 21) dX9_mustBe_21 rfl rfl (Nat.le_of_ble_eq_true rfl) ⟨rfl, ?_⟩
      refine a_aload_n (pc := 19) dX9_readLine_19 (by decide) rfl ?_
      refine a_iconst (pc := 20) dX9_readLine_20 (by decide) ?_
      refine a_iconst (pc := 21) dX9_readLine_21 (by decide) ?_
      refine a_iconst (pc := 22) dX9_readLine_22 (by decide) ?_
      refine p_callV (As := [(0, 1), (0, 0), (0, 5)]) (st := []) (st1 := fun r => [(0, r)])  (pc := 23) dX9_readLine_23 ml_RX9_205 (by decide) s0_275 rfl (by decide) (Nat.le_of_ble_eq_true rfl) rfl (fun _ => rfl) h (fun r13 M14 h => ?_)
      refine a_istore_n (ls1 := [(2, 275), (0, l1), (0, r13), (9, 0), (9, 0), (9, 0), (9, 0)]) (pc := 26) dX9_readLine_26 (by decide) (hp1 (t := 0) rfl (by decide)) rfl ?_
      refine a_aload_n (pc := 27) dX9_readLine_27 (by decide) rfl ?_
      refine a_bipush (pc := 28) dX9_readLine_28 (by decide) (by decide +kernel) ?_
      refine p_callV (As := [(0, 58)]) (st := []) (st1 := fun r => [])  (pc := 30) dX9_readLine_30 ml_RX9_208 (by decide) s0_275 rfl (by decide) (Nat.le_of_ble_eq_true rfl) rfl (fun _ => rfl) h (fun r15 M16 h => ?_)
      refine a_iconst (pc := 33) dX9_readLine_33 (by decide) ?_
      refine a_istore_n (ls1 := [(2, 275), (0, l1), (0, r13), (0, 0), (9, 0), (9, 0), (9, 0)]) (pc := 34) dX9_readLine_34 (by decide) (hp1 (t := 0) rfl (by decide)) rfl ?_
      refine a_iconst (pc := 35) dX9_readLine_35 (by decide) ?_
      refine a_istore (ls1 := [(2, 275), (0, l1), (0, r13), (0, 0), (0, 0), (9, 0), (9, 0)]) (pc := 36) dX9_readLine_36 (by decide) (hp1 (t := 0) rfl (by decide)) rfl ?_
      refine a_aload_n (pc := 38) dX9_readLine_38 (by decide) rfl ?_
      refine a_getI (y := 28) (pc := 39) dX9_readLine_39 fl_RX9_179 (by decide) s0_275 (Or.inr rfl) rfl ?_
      refine a_if_ne (tgt := 49) (pc := 42) dX9_readLine_42 (by decide) (fun hc => ?_) (fun hc => ?_)
      · replace h := h.1 hc
        refine a_iconst (pc := 49) dX9_readLine_49 (by decide) ?_
        refine a_istore (ls1 := [(2, 275), (0, l1), (0, r13), (0, 0), (0, 0), (0, 0), (9, 0)]) (pc := 50) dX9_readLine_50 (by decide) (hp1 (t := 0) rfl (by decide)) rfl ?_
        exact a_msk [true, false, true, true, true, true, true] rfl h
      · replace h := h.2 hc
        refine a_iconst (pc := 45) dX9_readLine_45 (by decide) ?_
        refine a_goto (tgt := 50) (pc := 46) dX9_readLine_46 (by decide) ?_
        refine a_istore (ls1 := [(2, 275), (0, l1), (0, r13), (0, 0), (0, 0), (0, 1), (9, 0)]) (pc := 50) dX9_readLine_50 (by decide) (hp1 (t := 0) rfl (by decide)) rfl ?_
        exact a_msk [true, false, true, true, true, true, true] rfl h
set_option maxRecDepth 100000 in
set_option maxHeartbeats 4000000 in
theorem B_R_readLine_52 {l2 l3 l4 l5 : Int} {M : Mem} {Q : Int → Mem → Prop} (h : ((l5 = 0 → ((¬ (M 275 28) = 0 → Q 0 (up2 M 275 28 1)) ∧ ((M 275 28) = 0 → ((2 ≤ l4 → (0 ≤ M 275 0 ∧ M 275 0 < 8) ∧ (0 ≤ M 275 0 ∧ M 275 0 < 8) ∧ (0 ≤ M 275 0 ∧ M 275 0 < 8) ∧ (-2147483648 ≤ (M 275 0) + 1 ∧ (M 275 0) + 1 ≤ 2147483647) ∧ Q 0 (up2 (up2 (up2 (up2 (up2 M 275 28 0) 276 (M 275 0) l2) 277 (M 275 0) l4) 279 (M 275 0) 0) 275 0 ((M 275 0) + 1))) ∧ (¬ (2 ≤ l4) → Q 0 (up2 M 275 28 1)))))) ∧ (¬ (l5 = 0) → Calls mX9_readWithin [(2, 275), (0, 2), (0, 0), (0, 11)] S0 M (fun r5 M6 => (0 ≤ l3) ∧ (0 ≤ r5 ∧ r5 ≤ 30) ∧ ((¬ ((l3 / 2 ^ (r5).toNat) % 2) = 0 → ((¬ (M6 275 28) = 0 → ((¬ (M6 275 28) = 0 → ((¬ (M6 275 28) = 0 → AW mX9_readLine 52 [(2, 275), (9, 0), (0, l2), (0, l3), (0, l4), (0, 0), (9, 0)] M6 Q) ∧ ((M6 275 28) = 0 → ((6 ≤ l4 → AW mX9_readLine 52 [(2, 275), (9, 0), (0, l2), (0, l3), (0, l4), (0, 0), (9, 0)] M6 Q) ∧ (¬ (6 ≤ l4) → ((¬ (M6 275 28) = 0 → (-2147483648 ≤ (M6 275 27) + 0 ∧ (M6 275 27) + 0 ≤ 2147483647) ∧ AW mX9_readLine 52 [(2, 275), (9, 0), (0, l2), (0, l3), (0, l4), (0, 0), (9, 0)] (up2 M6 275 27 ((M6 275 27) + 0)) Q) ∧ ((M6 275 28) = 0 → (((M6 275 26) ≤ (M6 275 27) → (-2147483648 ≤ (M6 275 27) + 0 ∧ (M6 275 27) + 0 ≤ 2147483647) ∧ AW mX9_readLine 52 [(2, 275), (9, 0), (0, l2), (0, l3), (0, l4), (0, 0), (9, 0)] (up2 M6 275 27 ((M6 275 27) + 0)) Q) ∧ (¬ ((M6 275 26) ≤ (M6 275 27)) → (0 ≤ M6 275 27 ∧ M6 275 27 < 80) ∧ ((¬ (M6 292 (M6 275 27)) = 62 → (-2147483648 ≤ (M6 275 27) + 0 ∧ (M6 275 27) + 0 ≤ 2147483647) ∧ AW mX9_readLine 52 [(2, 275), (9, 0), (0, l2), (0, l3), (0, l4), (0, 0), (9, 0)] (up2 M6 275 27 ((M6 275 27) + 0)) Q) ∧ ((M6 292 (M6 275 27)) = 62 → (-2147483648 ≤ (M6 275 27) + 1 ∧ (M6 275 27) + 1 ≤ 2147483647) ∧ AW mX9_readLine 52 [(2, 275), (9, 0), (0, l2), (0, l3), (0, l4), (0, 1), (9, 0)] (up2 M6 275 27 ((M6 275 27) + 1)) Q))))))))))) ∧ ((M6 275 28) = 0 → (0 ≤ r5 ∧ r5 ≤ 30) ∧ (0 ≤ l3) ∧ (0 ≤ 2 ^ (r5).toNat) ∧ (-2147483648 ≤ 6 * (M6 275 0) ∧ 6 * (M6 275 0) ≤ 2147483647) ∧ (-2147483648 ≤ (6 * (M6 275 0)) + l4 ∧ (6 * (M6 275 0)) + l4 ≤ 2147483647) ∧ (0 ≤ (6 * (M6 275 0)) + l4 ∧ (6 * (M6 275 0)) + l4 < 48) ∧ (-2147483648 ≤ l4 + 1 ∧ l4 + 1 ≤ 2147483647) ∧ ((¬ (M6 275 28) = 0 → AW mX9_readLine 52 [(2, 275), (9, 0), (0, l2), (0, (((l3 : Int).toNat ||| (2 ^ (r5).toNat : Int).toNat : Nat) : Int)), (0, l4 + 1), (0, 0), (9, 0)] (up2 M6 278 ((6 * (M6 275 0)) + l4) r5) Q) ∧ ((M6 275 28) = 0 → ((6 ≤ (l4 + 1) → AW mX9_readLine 52 [(2, 275), (9, 0), (0, l2), (0, (((l3 : Int).toNat ||| (2 ^ (r5).toNat : Int).toNat : Nat) : Int)), (0, l4 + 1), (0, 0), (9, 0)] (up2 M6 278 ((6 * (M6 275 0)) + l4) r5) Q) ∧ (¬ (6 ≤ (l4 + 1)) → ((¬ (M6 275 28) = 0 → (-2147483648 ≤ (M6 275 27) + 0 ∧ (M6 275 27) + 0 ≤ 2147483647) ∧ AW mX9_readLine 52 [(2, 275), (9, 0), (0, l2), (0, (((l3 : Int).toNat ||| (2 ^ (r5).toNat : Int).toNat : Nat) : Int)), (0, l4 + 1), (0, 0), (9, 0)] (up2 (up2 M6 278 ((6 * (M6 275 0)) + l4) r5) 275 27 ((M6 275 27) + 0)) Q) ∧ ((M6 275 28) = 0 → (((M6 275 26) ≤ (M6 275 27) → (-2147483648 ≤ (M6 275 27) + 0 ∧ (M6 275 27) + 0 ≤ 2147483647) ∧ AW mX9_readLine 52 [(2, 275), (9, 0), (0, l2), (0, (((l3 : Int).toNat ||| (2 ^ (r5).toNat : Int).toNat : Nat) : Int)), (0, l4 + 1), (0, 0), (9, 0)] (up2 (up2 M6 278 ((6 * (M6 275 0)) + l4) r5) 275 27 ((M6 275 27) + 0)) Q) ∧ (¬ ((M6 275 26) ≤ (M6 275 27)) → (0 ≤ M6 275 27 ∧ M6 275 27 < 80) ∧ ((¬ (M6 292 (M6 275 27)) = 62 → (-2147483648 ≤ (M6 275 27) + 0 ∧ (M6 275 27) + 0 ≤ 2147483647) ∧ AW mX9_readLine 52 [(2, 275), (9, 0), (0, l2), (0, (((l3 : Int).toNat ||| (2 ^ (r5).toNat : Int).toNat : Nat) : Int)), (0, l4 + 1), (0, 0), (9, 0)] (up2 (up2 M6 278 ((6 * (M6 275 0)) + l4) r5) 275 27 ((M6 275 27) + 0)) Q) ∧ ((M6 292 (M6 275 27)) = 62 → (-2147483648 ≤ (M6 275 27) + 1 ∧ (M6 275 27) + 1 ≤ 2147483647) ∧ AW mX9_readLine 52 [(2, 275), (9, 0), (0, l2), (0, (((l3 : Int).toNat ||| (2 ^ (r5).toNat : Int).toNat : Nat) : Int)), (0, l4 + 1), (0, 1), (9, 0)] (up2 (up2 M6 278 ((6 * (M6 275 0)) + l4) r5) 275 27 ((M6 275 27) + 1)) Q))))))))))))) ∧ ((M6 275 28) = 0 → AW mX9_readLine 52 [(2, 275), (9, 0), (0, l2), (0, l3), (0, l4), (0, 0), (9, 0)] (up2 (up2 M6 275 28 1) 275 27 (M6 275 29)) Q))) ∧ (((l3 / 2 ^ (r5).toNat) % 2) = 0 → ((¬ (M6 275 28) = 0 → ((¬ (M6 275 28) = 0 → ((¬ (M6 275 28) = 0 → AW mX9_readLine 52 [(2, 275), (9, 0), (0, l2), (0, l3), (0, l4), (0, 0), (9, 0)] M6 Q) ∧ ((M6 275 28) = 0 → ((6 ≤ l4 → AW mX9_readLine 52 [(2, 275), (9, 0), (0, l2), (0, l3), (0, l4), (0, 0), (9, 0)] M6 Q) ∧ (¬ (6 ≤ l4) → ((¬ (M6 275 28) = 0 → (-2147483648 ≤ (M6 275 27) + 0 ∧ (M6 275 27) + 0 ≤ 2147483647) ∧ AW mX9_readLine 52 [(2, 275), (9, 0), (0, l2), (0, l3), (0, l4), (0, 0), (9, 0)] (up2 M6 275 27 ((M6 275 27) + 0)) Q) ∧ ((M6 275 28) = 0 → (((M6 275 26) ≤ (M6 275 27) → (-2147483648 ≤ (M6 275 27) + 0 ∧ (M6 275 27) + 0 ≤ 2147483647) ∧ AW mX9_readLine 52 [(2, 275), (9, 0), (0, l2), (0, l3), (0, l4), (0, 0), (9, 0)] (up2 M6 275 27 ((M6 275 27) + 0)) Q) ∧ (¬ ((M6 275 26) ≤ (M6 275 27)) → (0 ≤ M6 275 27 ∧ M6 275 27 < 80) ∧ ((¬ (M6 292 (M6 275 27)) = 62 → (-2147483648 ≤ (M6 275 27) + 0 ∧ (M6 275 27) + 0 ≤ 2147483647) ∧ AW mX9_readLine 52 [(2, 275), (9, 0), (0, l2), (0, l3), (0, l4), (0, 0), (9, 0)] (up2 M6 275 27 ((M6 275 27) + 0)) Q) ∧ ((M6 292 (M6 275 27)) = 62 → (-2147483648 ≤ (M6 275 27) + 1 ∧ (M6 275 27) + 1 ≤ 2147483647) ∧ AW mX9_readLine 52 [(2, 275), (9, 0), (0, l2), (0, l3), (0, l4), (0, 1), (9, 0)] (up2 M6 275 27 ((M6 275 27) + 1)) Q))))))))))) ∧ ((M6 275 28) = 0 → (0 ≤ r5 ∧ r5 ≤ 30) ∧ (0 ≤ l3) ∧ (0 ≤ 2 ^ (r5).toNat) ∧ (-2147483648 ≤ 6 * (M6 275 0) ∧ 6 * (M6 275 0) ≤ 2147483647) ∧ (-2147483648 ≤ (6 * (M6 275 0)) + l4 ∧ (6 * (M6 275 0)) + l4 ≤ 2147483647) ∧ (0 ≤ (6 * (M6 275 0)) + l4 ∧ (6 * (M6 275 0)) + l4 < 48) ∧ (-2147483648 ≤ l4 + 1 ∧ l4 + 1 ≤ 2147483647) ∧ ((¬ (M6 275 28) = 0 → AW mX9_readLine 52 [(2, 275), (9, 0), (0, l2), (0, (((l3 : Int).toNat ||| (2 ^ (r5).toNat : Int).toNat : Nat) : Int)), (0, l4 + 1), (0, 0), (9, 0)] (up2 M6 278 ((6 * (M6 275 0)) + l4) r5) Q) ∧ ((M6 275 28) = 0 → ((6 ≤ (l4 + 1) → AW mX9_readLine 52 [(2, 275), (9, 0), (0, l2), (0, (((l3 : Int).toNat ||| (2 ^ (r5).toNat : Int).toNat : Nat) : Int)), (0, l4 + 1), (0, 0), (9, 0)] (up2 M6 278 ((6 * (M6 275 0)) + l4) r5) Q) ∧ (¬ (6 ≤ (l4 + 1)) → ((¬ (M6 275 28) = 0 → (-2147483648 ≤ (M6 275 27) + 0 ∧ (M6 275 27) + 0 ≤ 2147483647) ∧ AW mX9_readLine 52 [(2, 275), (9, 0), (0, l2), (0, (((l3 : Int).toNat ||| (2 ^ (r5).toNat : Int).toNat : Nat) : Int)), (0, l4 + 1), (0, 0), (9, 0)] (up2 (up2 M6 278 ((6 * (M6 275 0)) + l4) r5) 275 27 ((M6 275 27) + 0)) Q) ∧ ((M6 275 28) = 0 → (((M6 275 26) ≤ (M6 275 27) → (-2147483648 ≤ (M6 275 27) + 0 ∧ (M6 275 27) + 0 ≤ 2147483647) ∧ AW mX9_readLine 52 [(2, 275), (9, 0), (0, l2), (0, (((l3 : Int).toNat ||| (2 ^ (r5).toNat : Int).toNat : Nat) : Int)), (0, l4 + 1), (0, 0), (9, 0)] (up2 (up2 M6 278 ((6 * (M6 275 0)) + l4) r5) 275 27 ((M6 275 27) + 0)) Q) ∧ (¬ ((M6 275 26) ≤ (M6 275 27)) → (0 ≤ M6 275 27 ∧ M6 275 27 < 80) ∧ ((¬ (M6 292 (M6 275 27)) = 62 → (-2147483648 ≤ (M6 275 27) + 0 ∧ (M6 275 27) + 0 ≤ 2147483647) ∧ AW mX9_readLine 52 [(2, 275), (9, 0), (0, l2), (0, (((l3 : Int).toNat ||| (2 ^ (r5).toNat : Int).toNat : Nat) : Int)), (0, l4 + 1), (0, 0), (9, 0)] (up2 (up2 M6 278 ((6 * (M6 275 0)) + l4) r5) 275 27 ((M6 275 27) + 0)) Q) ∧ ((M6 292 (M6 275 27)) = 62 → (-2147483648 ≤ (M6 275 27) + 1 ∧ (M6 275 27) + 1 ≤ 2147483647) ∧ AW mX9_readLine 52 [(2, 275), (9, 0), (0, l2), (0, (((l3 : Int).toNat ||| (2 ^ (r5).toNat : Int).toNat : Nat) : Int)), (0, l4 + 1), (0, 1), (9, 0)] (up2 (up2 M6 278 ((6 * (M6 275 0)) + l4) r5) 275 27 ((M6 275 27) + 1)) Q))))))))))))) ∧ ((M6 275 28) = 0 → ((¬ (M6 275 28) = 0 → ((¬ (M6 275 28) = 0 → AW mX9_readLine 52 [(2, 275), (9, 0), (0, l2), (0, l3), (0, l4), (0, 0), (9, 0)] M6 Q) ∧ ((M6 275 28) = 0 → ((6 ≤ l4 → AW mX9_readLine 52 [(2, 275), (9, 0), (0, l2), (0, l3), (0, l4), (0, 0), (9, 0)] M6 Q) ∧ (¬ (6 ≤ l4) → ((¬ (M6 275 28) = 0 → (-2147483648 ≤ (M6 275 27) + 0 ∧ (M6 275 27) + 0 ≤ 2147483647) ∧ AW mX9_readLine 52 [(2, 275), (9, 0), (0, l2), (0, l3), (0, l4), (0, 0), (9, 0)] (up2 M6 275 27 ((M6 275 27) + 0)) Q) ∧ ((M6 275 28) = 0 → (((M6 275 26) ≤ (M6 275 27) → (-2147483648 ≤ (M6 275 27) + 0 ∧ (M6 275 27) + 0 ≤ 2147483647) ∧ AW mX9_readLine 52 [(2, 275), (9, 0), (0, l2), (0, l3), (0, l4), (0, 0), (9, 0)] (up2 M6 275 27 ((M6 275 27) + 0)) Q) ∧ (¬ ((M6 275 26) ≤ (M6 275 27)) → (0 ≤ M6 275 27 ∧ M6 275 27 < 80) ∧ ((¬ (M6 292 (M6 275 27)) = 62 → (-2147483648 ≤ (M6 275 27) + 0 ∧ (M6 275 27) + 0 ≤ 2147483647) ∧ AW mX9_readLine 52 [(2, 275), (9, 0), (0, l2), (0, l3), (0, l4), (0, 0), (9, 0)] (up2 M6 275 27 ((M6 275 27) + 0)) Q) ∧ ((M6 292 (M6 275 27)) = 62 → (-2147483648 ≤ (M6 275 27) + 1 ∧ (M6 275 27) + 1 ≤ 2147483647) ∧ AW mX9_readLine 52 [(2, 275), (9, 0), (0, l2), (0, l3), (0, l4), (0, 1), (9, 0)] (up2 M6 275 27 ((M6 275 27) + 1)) Q))))))))))) ∧ ((M6 275 28) = 0 → (0 ≤ r5 ∧ r5 ≤ 30) ∧ (0 ≤ l3) ∧ (0 ≤ 2 ^ (r5).toNat) ∧ (-2147483648 ≤ 6 * (M6 275 0) ∧ 6 * (M6 275 0) ≤ 2147483647) ∧ (-2147483648 ≤ (6 * (M6 275 0)) + l4 ∧ (6 * (M6 275 0)) + l4 ≤ 2147483647) ∧ (0 ≤ (6 * (M6 275 0)) + l4 ∧ (6 * (M6 275 0)) + l4 < 48) ∧ (-2147483648 ≤ l4 + 1 ∧ l4 + 1 ≤ 2147483647) ∧ ((¬ (M6 275 28) = 0 → AW mX9_readLine 52 [(2, 275), (9, 0), (0, l2), (0, (((l3 : Int).toNat ||| (2 ^ (r5).toNat : Int).toNat : Nat) : Int)), (0, l4 + 1), (0, 0), (9, 0)] (up2 M6 278 ((6 * (M6 275 0)) + l4) r5) Q) ∧ ((M6 275 28) = 0 → ((6 ≤ (l4 + 1) → AW mX9_readLine 52 [(2, 275), (9, 0), (0, l2), (0, (((l3 : Int).toNat ||| (2 ^ (r5).toNat : Int).toNat : Nat) : Int)), (0, l4 + 1), (0, 0), (9, 0)] (up2 M6 278 ((6 * (M6 275 0)) + l4) r5) Q) ∧ (¬ (6 ≤ (l4 + 1)) → ((¬ (M6 275 28) = 0 → (-2147483648 ≤ (M6 275 27) + 0 ∧ (M6 275 27) + 0 ≤ 2147483647) ∧ AW mX9_readLine 52 [(2, 275), (9, 0), (0, l2), (0, (((l3 : Int).toNat ||| (2 ^ (r5).toNat : Int).toNat : Nat) : Int)), (0, l4 + 1), (0, 0), (9, 0)] (up2 (up2 M6 278 ((6 * (M6 275 0)) + l4) r5) 275 27 ((M6 275 27) + 0)) Q) ∧ ((M6 275 28) = 0 → (((M6 275 26) ≤ (M6 275 27) → (-2147483648 ≤ (M6 275 27) + 0 ∧ (M6 275 27) + 0 ≤ 2147483647) ∧ AW mX9_readLine 52 [(2, 275), (9, 0), (0, l2), (0, (((l3 : Int).toNat ||| (2 ^ (r5).toNat : Int).toNat : Nat) : Int)), (0, l4 + 1), (0, 0), (9, 0)] (up2 (up2 M6 278 ((6 * (M6 275 0)) + l4) r5) 275 27 ((M6 275 27) + 0)) Q) ∧ (¬ ((M6 275 26) ≤ (M6 275 27)) → (0 ≤ M6 275 27 ∧ M6 275 27 < 80) ∧ ((¬ (M6 292 (M6 275 27)) = 62 → (-2147483648 ≤ (M6 275 27) + 0 ∧ (M6 275 27) + 0 ≤ 2147483647) ∧ AW mX9_readLine 52 [(2, 275), (9, 0), (0, l2), (0, (((l3 : Int).toNat ||| (2 ^ (r5).toNat : Int).toNat : Nat) : Int)), (0, l4 + 1), (0, 0), (9, 0)] (up2 (up2 M6 278 ((6 * (M6 275 0)) + l4) r5) 275 27 ((M6 275 27) + 0)) Q) ∧ ((M6 292 (M6 275 27)) = 62 → (-2147483648 ≤ (M6 275 27) + 1 ∧ (M6 275 27) + 1 ≤ 2147483647) ∧ AW mX9_readLine 52 [(2, 275), (9, 0), (0, l2), (0, (((l3 : Int).toNat ||| (2 ^ (r5).toNat : Int).toNat : Nat) : Int)), (0, l4 + 1), (0, 1), (9, 0)] (up2 (up2 M6 278 ((6 * (M6 275 0)) + l4) r5) 275 27 ((M6 275 27) + 1)) Q)))))))))))))))))))) : AW mX9_readLine 52 [(2, 275), (9, 0), (0, l2), (0, l3), (0, l4), (0, l5), (9, 0)] M Q := by
  refine a_iload (pc := 52) dX9_readLine_52 rfl ?_
  refine a_if_eq (tgt := 156) (pc := 54) dX9_readLine_54 (by decide) (fun hc => ?_) (fun hc => ?_)
  · replace h := h.1 hc
    refine a_aload_n (pc := 156) dX9_readLine_156 (by decide) rfl ?_
    refine a_aload_n (pc := 157) dX9_readLine_157 (by decide) rfl ?_
    refine a_getI (y := 28) (pc := 158) dX9_readLine_158 fl_RX9_179 (by decide) s0_275 (Or.inr rfl) rfl ?_
    refine a_if_ne (tgt := 170) (pc := 161) dX9_readLine_161 (by decide) (fun hc => ?_) (fun hc => ?_)
    · replace h := h.1 hc
      refine a_iconst (pc := 170) dX9_readLine_170 (by decide) ?_
      refine a_goto (tgt := 175) (pc := 171) dX9_readLine_171 (by decide) ?_
      refine a_putZ (y := 28) (pc := 175) dX9_readLine_175 fl_RX9_179 (by decide) s0_275 rfl rfl (tyX9_ok 28 (by decide)) rfl (by decide) ?_
      refine a_aload_n (pc := 178) dX9_readLine_178 (by decide) rfl ?_
      refine a_getI (y := 28) (pc := 179) dX9_readLine_179 fl_RX9_179 (by decide) s0_275 (Or.inr rfl) rfl ?_
      refine a_eq (y := 1) rfl ?_
      refine a_if_ne (tgt := 226) (pc := 182) dX9_readLine_182 (by decide) (fun _ => ?_) (fun hc => absurd hc (by decide))
      exact a_vret (pc := 226) dX9_readLine_226 rfl rfl (Nat.le_of_ble_eq_true rfl) ⟨rfl, h⟩
    · replace h := h.2 hc
      refine a_iload (pc := 164) dX9_readLine_164 rfl ?_
      refine a_iconst (pc := 166) dX9_readLine_166 (by decide) ?_
      refine a_icmp_ge (tgt := 174) (pc := 167) dX9_readLine_167 (by decide) (fun hc => ?_) (fun hc => ?_)
      · replace h := h.1 hc
        refine a_iconst (pc := 174) dX9_readLine_174 (by decide) ?_
        refine a_putZ (y := 28) (pc := 175) dX9_readLine_175 fl_RX9_179 (by decide) s0_275 rfl rfl (tyX9_ok 28 (by decide)) rfl (by decide) ?_
        refine a_aload_n (pc := 178) dX9_readLine_178 (by decide) rfl ?_
        refine a_getI (y := 28) (pc := 179) dX9_readLine_179 fl_RX9_179 (by decide) s0_275 (Or.inr rfl) rfl ?_
        refine a_eq (y := 0) rfl ?_
        refine a_if_ne (tgt := 226) (pc := 182) dX9_readLine_182 (by decide) (fun hc => absurd rfl hc) (fun _ => ?_)
        refine a_aload_n (pc := 185) dX9_readLine_185 (by decide) rfl ?_
        refine a_getR (y := 276) (pc := 186) dX9_readLine_186 fl_RX9_7 (by decide) s0_275 rfl rfl ?_
        refine a_aload_n (pc := 189) dX9_readLine_189 (by decide) rfl ?_
        refine a_getI (y := 0) (pc := 190) dX9_readLine_190 fl_RX9_98 (by decide) s0_275 (Or.inl rfl) rfl ?_
        refine a_eq (y := M 275 0) rfl ?_
        refine a_iload_n (pc := 193) dX9_readLine_193 rfl ?_
        have ho1 := h.1
        replace h := h.2
        refine a_iast (pc := 194) dX9_readLine_194 (by decide) s0_276 ho1.1 ho1.2 ?_
        refine a_aload_n (pc := 195) dX9_readLine_195 (by decide) rfl ?_
        refine a_getR (y := 277) (pc := 196) dX9_readLine_196 fl_RX9_13 (by decide) s0_275 rfl rfl ?_
        refine a_aload_n (pc := 199) dX9_readLine_199 (by decide) rfl ?_
        refine a_getI (y := 0) (pc := 200) dX9_readLine_200 fl_RX9_98 (by decide) s0_275 (Or.inl rfl) rfl ?_
        refine a_eq (y := M 275 0) rfl ?_
        refine a_iload (pc := 203) dX9_readLine_203 rfl ?_
        have ho2 := h.1
        replace h := h.2
        refine a_iast (pc := 205) dX9_readLine_205 (by decide) s0_277 ho2.1 ho2.2 ?_
        refine a_aload_n (pc := 206) dX9_readLine_206 (by decide) rfl ?_
        refine a_getR (y := 279) (pc := 207) dX9_readLine_207 fl_RX9_19 (by decide) s0_275 rfl rfl ?_
        refine a_aload_n (pc := 210) dX9_readLine_210 (by decide) rfl ?_
        refine a_getI (y := 0) (pc := 211) dX9_readLine_211 fl_RX9_98 (by decide) s0_275 (Or.inl rfl) rfl ?_
        refine a_eq (y := M 275 0) rfl ?_
        refine a_iconst (pc := 214) dX9_readLine_214 (by decide) ?_
        have ho3 := h.1
        replace h := h.2
        refine a_iast (pc := 215) dX9_readLine_215 (by decide) s0_279 ho3.1 ho3.2 ?_
        refine a_aload_n (pc := 216) dX9_readLine_216 (by decide) rfl ?_
        refine a_dup (pc := 217) dX9_readLine_217 n21 ?_
        refine a_getI (y := 0) (pc := 218) dX9_readLine_218 fl_RX9_98 (by decide) s0_275 (Or.inl rfl) rfl ?_
        refine a_eq (y := M 275 0) rfl ?_
        refine a_iconst (pc := 221) dX9_readLine_221 (by decide) ?_
        have ho4 := h.1
        replace h := h.2
        refine a_iadd (pc := 222) dX9_readLine_222 ho4 ?_
        refine a_putI (y := 0) (pc := 223) dX9_readLine_223 fl_RX9_98 (by decide) s0_275 rfl rfl (tyX9_ok 0 (by decide)) rfl ?_
        exact a_vret (pc := 226) dX9_readLine_226 rfl rfl (Nat.le_of_ble_eq_true rfl) ⟨rfl, h⟩
      · replace h := h.2 hc
        refine a_iconst (pc := 170) dX9_readLine_170 (by decide) ?_
        refine a_goto (tgt := 175) (pc := 171) dX9_readLine_171 (by decide) ?_
        refine a_putZ (y := 28) (pc := 175) dX9_readLine_175 fl_RX9_179 (by decide) s0_275 rfl rfl (tyX9_ok 28 (by decide)) rfl (by decide) ?_
        refine a_aload_n (pc := 178) dX9_readLine_178 (by decide) rfl ?_
        refine a_getI (y := 28) (pc := 179) dX9_readLine_179 fl_RX9_179 (by decide) s0_275 (Or.inr rfl) rfl ?_
        refine a_eq (y := 1) rfl ?_
        refine a_if_ne (tgt := 226) (pc := 182) dX9_readLine_182 (by decide) (fun _ => ?_) (fun hc => absurd hc (by decide))
        exact a_vret (pc := 226) dX9_readLine_226 rfl rfl (Nat.le_of_ble_eq_true rfl) ⟨rfl, h⟩
  · replace h := h.2 hc
    refine a_aload_n (pc := 57) dX9_readLine_57 (by decide) rfl ?_
    refine a_iconst (pc := 58) dX9_readLine_58 (by decide) ?_
    refine a_iconst (pc := 59) dX9_readLine_59 (by decide) ?_
    refine a_bipush (pc := 60) dX9_readLine_60 (by decide) (by decide +kernel) ?_
    refine p_callV (As := [(0, 2), (0, 0), (0, 11)]) (st := []) (st1 := fun r => [(0, r)])  (pc := 62) dX9_readLine_62 ml_RX9_205 (by decide) s0_275 rfl (by decide) (Nat.le_of_ble_eq_true rfl) rfl (fun _ => rfl) h (fun r5 M6 h => ?_)
    refine a_istore (ls1 := [(2, 275), (9, 0), (0, l2), (0, l3), (0, l4), (0, l5), (0, r5)]) (pc := 65) dX9_readLine_65 (by decide) (hp1 (t := 0) rfl (by decide)) rfl ?_
    refine a_aload_n (pc := 67) dX9_readLine_67 (by decide) rfl ?_
    refine a_iload_n (pc := 68) dX9_readLine_68 rfl ?_
    refine a_iload (pc := 69) dX9_readLine_69 rfl ?_
    have ho7 := h.1
    replace h := h.2
    have ho8 := h.1
    replace h := h.2
    refine a_ishr (z := l3 / 2 ^ (r5).toNat) (pc := 71) dX9_readLine_71 ho7 ho8.1 ho8.2 rfl ?_
    refine a_iconst (pc := 72) dX9_readLine_72 (by decide) ?_
    refine a_iand (q := 1) (z := (l3 / 2 ^ (r5).toNat) % 2) (pc := 73) dX9_readLine_73 (by decide) (by decide) rfl ?_
    refine a_if_ne (tgt := 81) (pc := 74) dX9_readLine_74 (by decide) (fun hc => ?_) (fun hc => ?_)
    · replace h := h.1 hc
      refine a_iconst (pc := 81) dX9_readLine_81 (by decide) ?_
      refine a_aload_n (pc := 82) dX9_readLine_82 (by decide) rfl ?_
      refine a_getI (y := 29) (pc := 83) dX9_readLine_83 fl_RX9_194 (by decide) s0_275 (Or.inl rfl) rfl ?_
      refine p_inlV (Ex := _) (As := [(0, 0), (0, M6 275 29)]) (st := []) (st1 := fun r => [])  (pc := 86) dX9_readLine_86 ml_RX9_201 (by decide) s0_275 rfl (by decide) (Nat.le_of_ble_eq_true rfl) rfl (fun _ => rfl) (by decide) (by decide) (Nat.le_of_ble_eq_true rfl) rfl ?_
      refine a_aload_n (pc := 0) dX9_mustBe_0 (by decide) rfl ?_
      refine a_getI (y := 28) (pc := 1) dX9_mustBe_1 fl_RX9_179 (by decide) s0_275 (Or.inr rfl) rfl ?_
      refine a_if_ne (tgt := 21) (pc := 4) dX9_mustBe_4 (by decide) (fun hc => ?_) (fun hc => ?_)
      · replace h := h.1 hc
        refine a_vret (pc := 21) dX9_mustBe_21 rfl rfl (Nat.le_of_ble_eq_true rfl) ⟨rfl, ?_⟩
        refine a_aload_n (pc := 89) dX9_readLine_89 (by decide) rfl ?_
        refine a_getI (y := 28) (pc := 90) dX9_readLine_90 fl_RX9_179 (by decide) s0_275 (Or.inr rfl) rfl ?_
        refine a_if_ne (tgt := 123) (pc := 93) dX9_readLine_93 (by decide) (fun hc => ?_) (fun hc => ?_)
        · replace h := h.1 hc
          refine a_aload_n (pc := 123) dX9_readLine_123 (by decide) rfl ?_
          refine a_getI (y := 28) (pc := 124) dX9_readLine_124 fl_RX9_179 (by decide) s0_275 (Or.inr rfl) rfl ?_
          refine a_if_ne (tgt := 150) (pc := 127) dX9_readLine_127 (by decide) (fun hc => ?_) (fun hc => ?_)
          · replace h := h.1 hc
            refine a_iconst (pc := 150) dX9_readLine_150 (by decide) ?_
            refine a_istore (ls1 := [(2, 275), (9, 0), (0, l2), (0, l3), (0, l4), (0, 0), (0, r5)]) (pc := 151) dX9_readLine_151 (by decide) (hp1 (t := 0) rfl (by decide)) rfl ?_
            refine a_goto (tgt := 52) (pc := 153) dX9_readLine_153 (by decide) ?_
            exact a_msk [true, true, true, true, true, true, false] rfl h
          · replace h := h.2 hc
            refine a_iload (pc := 130) dX9_readLine_130 rfl ?_
            refine a_bipush (pc := 132) dX9_readLine_132 (by decide) (by decide +kernel) ?_
            refine a_icmp_ge (tgt := 150) (pc := 134) dX9_readLine_134 (by decide) (fun hc => ?_) (fun hc => ?_)
            · replace h := h.1 hc
              refine a_iconst (pc := 150) dX9_readLine_150 (by decide) ?_
              refine a_istore (ls1 := [(2, 275), (9, 0), (0, l2), (0, l3), (0, l4), (0, 0), (0, r5)]) (pc := 151) dX9_readLine_151 (by decide) (hp1 (t := 0) rfl (by decide)) rfl ?_
              refine a_goto (tgt := 52) (pc := 153) dX9_readLine_153 (by decide) ?_
              exact a_msk [true, true, true, true, true, true, false] rfl h
            · replace h := h.2 hc
              refine a_aload_n (pc := 137) dX9_readLine_137 (by decide) rfl ?_
              refine a_bipush (pc := 138) dX9_readLine_138 (by decide) (by decide +kernel) ?_
              refine p_inlV (Ex := _) (As := [(0, 62)]) (st := []) (st1 := fun r => [(0, r)])  (pc := 140) dX9_readLine_140 ml_RX9_187 (by decide) s0_275 rfl (by decide) (Nat.le_of_ble_eq_true rfl) rfl (fun _ => rfl) (by decide) (by decide) (Nat.le_of_ble_eq_true rfl) rfl ?_
              refine a_aload_n (pc := 0) dX9_goesOn_0 (by decide) rfl ?_
              refine a_getI (y := 28) (pc := 1) dX9_goesOn_1 fl_RX9_179 (by decide) s0_275 (Or.inr rfl) rfl ?_
              refine a_if_ne (tgt := 19) (pc := 4) dX9_goesOn_4 (by decide) (fun hc => ?_) (fun hc => ?_)
              · replace h := h.1 hc
                refine a_iconst (pc := 19) dX9_goesOn_19 (by decide) ?_
                refine a_istore_n (ls1 := [(2, 275), (0, 62), (0, 0)]) (pc := 20) dX9_goesOn_20 (by decide) (hp1 (t := 0) rfl (by decide)) rfl ?_
                refine a_aload_n (pc := 21) dX9_goesOn_21 (by decide) rfl ?_
                refine a_dup (pc := 22) dX9_goesOn_22 n21 ?_
                refine a_getI (y := 27) (pc := 23) dX9_goesOn_23 fl_RX9_176 (by decide) s0_275 (Or.inl rfl) rfl ?_
                refine a_iload_n (pc := 26) dX9_goesOn_26 rfl ?_
                refine a_if_eq (tgt := 34) (pc := 27) dX9_goesOn_27 (by decide) (fun _ => ?_) (fun hc => absurd (by decide) hc)
                refine a_iconst (pc := 34) dX9_goesOn_34 (by decide) ?_
                have ho9 := h.1
                replace h := h.2
                refine a_iadd (pc := 35) dX9_goesOn_35 ho9 ?_
                refine a_putI (y := 27) (pc := 36) dX9_goesOn_36 fl_RX9_176 (by decide) s0_275 rfl rfl (tyX9_ok 27 (by decide)) rfl ?_
                refine a_iload_n (pc := 39) dX9_goesOn_39 rfl ?_
                refine a_iretz (pc := 40) dX9_goesOn_40 rfl rfl (Nat.le_of_ble_eq_true rfl) (by decide) ⟨rfl, ?_⟩
                refine a_if_eq (tgt := 150) (pc := 143) dX9_readLine_143 (by decide) (fun _ => ?_) (fun hc => absurd (by decide) hc)
                refine a_iconst (pc := 150) dX9_readLine_150 (by decide) ?_
                refine a_istore (ls1 := [(2, 275), (9, 0), (0, l2), (0, l3), (0, l4), (0, 0), (0, r5)]) (pc := 151) dX9_readLine_151 (by decide) (hp1 (t := 0) rfl (by decide)) rfl ?_
                refine a_goto (tgt := 52) (pc := 153) dX9_readLine_153 (by decide) ?_
                exact a_msk [true, true, true, true, true, true, false] rfl h
              · replace h := h.2 hc
                refine a_aload_n (pc := 7) dX9_goesOn_7 (by decide) rfl ?_
                refine p_inlV (Ex := _) (As := []) (st := []) (st1 := fun r => [(0, r)])  (pc := 8) dX9_goesOn_8 ml_RX9_183 (by decide) s0_275 rfl (by decide) (Nat.le_of_ble_eq_true rfl) rfl (fun _ => rfl) (by decide) (by decide) (Nat.le_of_ble_eq_true rfl) rfl ?_
                refine a_aload_n (pc := 0) dX9_here_0 (by decide) rfl ?_
                refine a_getI (y := 27) (pc := 1) dX9_here_1 fl_RX9_176 (by decide) s0_275 (Or.inl rfl) rfl ?_
                refine a_aload_n (pc := 4) dX9_here_4 (by decide) rfl ?_
                refine a_getI (y := 26) (pc := 5) dX9_here_5 fl_RX9_173 (by decide) s0_275 (Or.inl rfl) rfl ?_
                refine a_icmp_ge (tgt := 23) (pc := 8) dX9_here_8 (by decide) (fun hc => ?_) (fun hc => ?_)
                · replace h := h.1 hc
                  refine a_iconst (pc := 23) dX9_here_23 (by decide) ?_
                  refine a_ireti (pc := 24) dX9_here_24 rfl rfl (Nat.le_of_ble_eq_true rfl) ⟨rfl, ?_⟩
                  refine a_iload_n (pc := 11) dX9_goesOn_11 rfl ?_
                  refine a_icmp_ne (tgt := 19) (pc := 12) dX9_goesOn_12 (by decide) (fun _ => ?_) (fun hc => absurd hc (by decide))
                  refine a_iconst (pc := 19) dX9_goesOn_19 (by decide) ?_
                  refine a_istore_n (ls1 := [(2, 275), (0, 62), (0, 0)]) (pc := 20) dX9_goesOn_20 (by decide) (hp1 (t := 0) rfl (by decide)) rfl ?_
                  refine a_aload_n (pc := 21) dX9_goesOn_21 (by decide) rfl ?_
                  refine a_dup (pc := 22) dX9_goesOn_22 n21 ?_
                  refine a_getI (y := 27) (pc := 23) dX9_goesOn_23 fl_RX9_176 (by decide) s0_275 (Or.inl rfl) rfl ?_
                  refine a_iload_n (pc := 26) dX9_goesOn_26 rfl ?_
                  refine a_if_eq (tgt := 34) (pc := 27) dX9_goesOn_27 (by decide) (fun _ => ?_) (fun hc => absurd (by decide) hc)
                  refine a_iconst (pc := 34) dX9_goesOn_34 (by decide) ?_
                  have ho10 := h.1
                  replace h := h.2
                  refine a_iadd (pc := 35) dX9_goesOn_35 ho10 ?_
                  refine a_putI (y := 27) (pc := 36) dX9_goesOn_36 fl_RX9_176 (by decide) s0_275 rfl rfl (tyX9_ok 27 (by decide)) rfl ?_
                  refine a_iload_n (pc := 39) dX9_goesOn_39 rfl ?_
                  refine a_iretz (pc := 40) dX9_goesOn_40 rfl rfl (Nat.le_of_ble_eq_true rfl) (by decide) ⟨rfl, ?_⟩
                  refine a_if_eq (tgt := 150) (pc := 143) dX9_readLine_143 (by decide) (fun _ => ?_) (fun hc => absurd (by decide) hc)
                  refine a_iconst (pc := 150) dX9_readLine_150 (by decide) ?_
                  refine a_istore (ls1 := [(2, 275), (9, 0), (0, l2), (0, l3), (0, l4), (0, 0), (0, r5)]) (pc := 151) dX9_readLine_151 (by decide) (hp1 (t := 0) rfl (by decide)) rfl ?_
                  refine a_goto (tgt := 52) (pc := 153) dX9_readLine_153 (by decide) ?_
                  exact a_msk [true, true, true, true, true, true, false] rfl h
                · replace h := h.2 hc
                  refine a_aload_n (pc := 11) dX9_here_11 (by decide) rfl ?_
                  refine a_getR (y := 292) (pc := 12) dX9_here_12 fl_RX9_65 (by decide) s0_275 rfl rfl ?_
                  refine a_aload_n (pc := 15) dX9_here_15 (by decide) rfl ?_
                  refine a_getI (y := 27) (pc := 16) dX9_here_16 fl_RX9_176 (by decide) s0_275 (Or.inl rfl) rfl ?_
                  have ho11 := h.1
                  replace h := h.2
                  refine a_iald (pc := 19) dX9_here_19 (by decide) s0_292 ho11.1 ho11.2 ?_
                  refine a_goto (tgt := 24) (pc := 20) dX9_here_20 (by decide) ?_
                  refine a_ireti (pc := 24) dX9_here_24 rfl rfl (Nat.le_of_ble_eq_true rfl) ⟨rfl, ?_⟩
                  refine a_iload_n (pc := 11) dX9_goesOn_11 rfl ?_
                  refine a_icmp_ne (tgt := 19) (pc := 12) dX9_goesOn_12 (by decide) (fun hc => ?_) (fun hc => ?_)
                  · replace h := h.1 hc
                    refine a_iconst (pc := 19) dX9_goesOn_19 (by decide) ?_
                    refine a_istore_n (ls1 := [(2, 275), (0, 62), (0, 0)]) (pc := 20) dX9_goesOn_20 (by decide) (hp1 (t := 0) rfl (by decide)) rfl ?_
                    refine a_aload_n (pc := 21) dX9_goesOn_21 (by decide) rfl ?_
                    refine a_dup (pc := 22) dX9_goesOn_22 n21 ?_
                    refine a_getI (y := 27) (pc := 23) dX9_goesOn_23 fl_RX9_176 (by decide) s0_275 (Or.inl rfl) rfl ?_
                    refine a_iload_n (pc := 26) dX9_goesOn_26 rfl ?_
                    refine a_if_eq (tgt := 34) (pc := 27) dX9_goesOn_27 (by decide) (fun _ => ?_) (fun hc => absurd (by decide) hc)
                    refine a_iconst (pc := 34) dX9_goesOn_34 (by decide) ?_
                    have ho12 := h.1
                    replace h := h.2
                    refine a_iadd (pc := 35) dX9_goesOn_35 ho12 ?_
                    refine a_putI (y := 27) (pc := 36) dX9_goesOn_36 fl_RX9_176 (by decide) s0_275 rfl rfl (tyX9_ok 27 (by decide)) rfl ?_
                    refine a_iload_n (pc := 39) dX9_goesOn_39 rfl ?_
                    refine a_iretz (pc := 40) dX9_goesOn_40 rfl rfl (Nat.le_of_ble_eq_true rfl) (by decide) ⟨rfl, ?_⟩
                    refine a_if_eq (tgt := 150) (pc := 143) dX9_readLine_143 (by decide) (fun _ => ?_) (fun hc => absurd (by decide) hc)
                    refine a_iconst (pc := 150) dX9_readLine_150 (by decide) ?_
                    refine a_istore (ls1 := [(2, 275), (9, 0), (0, l2), (0, l3), (0, l4), (0, 0), (0, r5)]) (pc := 151) dX9_readLine_151 (by decide) (hp1 (t := 0) rfl (by decide)) rfl ?_
                    refine a_goto (tgt := 52) (pc := 153) dX9_readLine_153 (by decide) ?_
                    exact a_msk [true, true, true, true, true, true, false] rfl h
                  · replace h := h.2 hc
                    refine a_iconst (pc := 15) dX9_goesOn_15 (by decide) ?_
                    refine a_goto (tgt := 20) (pc := 16) dX9_goesOn_16 (by decide) ?_
                    refine a_istore_n (ls1 := [(2, 275), (0, 62), (0, 1)]) (pc := 20) dX9_goesOn_20 (by decide) (hp1 (t := 0) rfl (by decide)) rfl ?_
                    refine a_aload_n (pc := 21) dX9_goesOn_21 (by decide) rfl ?_
                    refine a_dup (pc := 22) dX9_goesOn_22 n21 ?_
                    refine a_getI (y := 27) (pc := 23) dX9_goesOn_23 fl_RX9_176 (by decide) s0_275 (Or.inl rfl) rfl ?_
                    refine a_iload_n (pc := 26) dX9_goesOn_26 rfl ?_
                    refine a_if_eq (tgt := 34) (pc := 27) dX9_goesOn_27 (by decide) (fun hc => absurd hc (by decide)) (fun _ => ?_)
                    refine a_iconst (pc := 30) dX9_goesOn_30 (by decide) ?_
                    refine a_goto (tgt := 35) (pc := 31) dX9_goesOn_31 (by decide) ?_
                    have ho13 := h.1
                    replace h := h.2
                    refine a_iadd (pc := 35) dX9_goesOn_35 ho13 ?_
                    refine a_putI (y := 27) (pc := 36) dX9_goesOn_36 fl_RX9_176 (by decide) s0_275 rfl rfl (tyX9_ok 27 (by decide)) rfl ?_
                    refine a_iload_n (pc := 39) dX9_goesOn_39 rfl ?_
                    refine a_iretz (pc := 40) dX9_goesOn_40 rfl rfl (Nat.le_of_ble_eq_true rfl) (by decide) ⟨rfl, ?_⟩
                    refine a_if_eq (tgt := 150) (pc := 143) dX9_readLine_143 (by decide) (fun hc => absurd hc (by decide)) (fun _ => ?_)
                    refine a_iconst (pc := 146) dX9_readLine_146 (by decide) ?_
                    refine a_goto (tgt := 151) (pc := 147) dX9_readLine_147 (by decide) ?_
                    refine a_istore (ls1 := [(2, 275), (9, 0), (0, l2), (0, l3), (0, l4), (0, 1), (0, r5)]) (pc := 151) dX9_readLine_151 (by decide) (hp1 (t := 0) rfl (by decide)) rfl ?_
                    refine a_goto (tgt := 52) (pc := 153) dX9_readLine_153 (by decide) ?_
                    exact a_msk [true, true, true, true, true, true, false] rfl h
        · replace h := h.2 hc
          refine a_iload_n (pc := 96) dX9_readLine_96 rfl ?_
          refine a_iconst (pc := 97) dX9_readLine_97 (by decide) ?_
          refine a_iload (pc := 98) dX9_readLine_98 rfl ?_
          have ho14 := h.1
          replace h := h.2
          refine a_ishl (z := 2 ^ (r5).toNat) (pc := 100) dX9_readLine_100 rfl ho14.1 ho14.2 rfl ?_
          have ho15 := h.1
          replace h := h.2
          have ho16 := h.1
          replace h := h.2
          refine a_ior (z := (((l3 : Int).toNat ||| (2 ^ (r5).toNat : Int).toNat : Nat) : Int)) (pc := 101) dX9_readLine_101 ho15 ho16 rfl ?_
          refine a_istore_n (ls1 := [(2, 275), (9, 0), (0, l2), (0, (((l3 : Int).toNat ||| (2 ^ (r5).toNat : Int).toNat : Nat) : Int)), (0, l4), (0, l5), (0, r5)]) (pc := 102) dX9_readLine_102 (by decide) (hp1 (t := 0) rfl (by decide)) rfl ?_
          refine a_aload_n (pc := 103) dX9_readLine_103 (by decide) rfl ?_
          refine a_getR (y := 278) (pc := 104) dX9_readLine_104 fl_RX9_16 (by decide) s0_275 rfl rfl ?_
          refine a_bipush (pc := 107) dX9_readLine_107 (by decide) (by decide +kernel) ?_
          refine a_aload_n (pc := 109) dX9_readLine_109 (by decide) rfl ?_
          refine a_getI (y := 0) (pc := 110) dX9_readLine_110 fl_RX9_98 (by decide) s0_275 (Or.inl rfl) rfl ?_
          have ho17 := h.1
          replace h := h.2
          refine a_imul (pc := 113) dX9_readLine_113 ho17 ?_
          refine a_iload (pc := 114) dX9_readLine_114 rfl ?_
          have ho18 := h.1
          replace h := h.2
          refine a_iadd (pc := 116) dX9_readLine_116 ho18 ?_
          refine a_iload (pc := 117) dX9_readLine_117 rfl ?_
          have ho19 := h.1
          replace h := h.2
          refine a_iast (pc := 119) dX9_readLine_119 (by decide) s0_278 ho19.1 ho19.2 ?_
          have ho20 := h.1
          replace h := h.2
          refine a_iinc (ls1 := [(2, 275), (9, 0), (0, l2), (0, (((l3 : Int).toNat ||| (2 ^ (r5).toNat : Int).toNat : Nat) : Int)), (0, l4 + 1), (0, l5), (0, r5)]) (pc := 120) dX9_readLine_120 rfl (by decide) (hp1 (t := 0) rfl (by decide)) ho20 rfl ?_
          refine a_aload_n (pc := 123) dX9_readLine_123 (by decide) rfl ?_
          refine a_getI (y := 28) (pc := 124) dX9_readLine_124 fl_RX9_179 (by decide) s0_275 (Or.inr rfl) rfl ?_
          refine a_eq (y := M6 275 28) rfl ?_
          refine a_if_ne (tgt := 150) (pc := 127) dX9_readLine_127 (by decide) (fun hc => ?_) (fun hc => ?_)
          · replace h := h.1 hc
            refine a_iconst (pc := 150) dX9_readLine_150 (by decide) ?_
            refine a_istore (ls1 := [(2, 275), (9, 0), (0, l2), (0, (((l3 : Int).toNat ||| (2 ^ (r5).toNat : Int).toNat : Nat) : Int)), (0, l4 + 1), (0, 0), (0, r5)]) (pc := 151) dX9_readLine_151 (by decide) (hp1 (t := 0) rfl (by decide)) rfl ?_
            refine a_goto (tgt := 52) (pc := 153) dX9_readLine_153 (by decide) ?_
            exact a_msk [true, true, true, true, true, true, false] rfl h
          · replace h := h.2 hc
            refine a_iload (pc := 130) dX9_readLine_130 rfl ?_
            refine a_bipush (pc := 132) dX9_readLine_132 (by decide) (by decide +kernel) ?_
            refine a_icmp_ge (tgt := 150) (pc := 134) dX9_readLine_134 (by decide) (fun hc => ?_) (fun hc => ?_)
            · replace h := h.1 hc
              refine a_iconst (pc := 150) dX9_readLine_150 (by decide) ?_
              refine a_istore (ls1 := [(2, 275), (9, 0), (0, l2), (0, (((l3 : Int).toNat ||| (2 ^ (r5).toNat : Int).toNat : Nat) : Int)), (0, l4 + 1), (0, 0), (0, r5)]) (pc := 151) dX9_readLine_151 (by decide) (hp1 (t := 0) rfl (by decide)) rfl ?_
              refine a_goto (tgt := 52) (pc := 153) dX9_readLine_153 (by decide) ?_
              exact a_msk [true, true, true, true, true, true, false] rfl h
            · replace h := h.2 hc
              refine a_aload_n (pc := 137) dX9_readLine_137 (by decide) rfl ?_
              refine a_bipush (pc := 138) dX9_readLine_138 (by decide) (by decide +kernel) ?_
              refine p_inlV (Ex := _) (As := [(0, 62)]) (st := []) (st1 := fun r => [(0, r)])  (pc := 140) dX9_readLine_140 ml_RX9_187 (by decide) s0_275 rfl (by decide) (Nat.le_of_ble_eq_true rfl) rfl (fun _ => rfl) (by decide) (by decide) (Nat.le_of_ble_eq_true rfl) rfl ?_
              refine a_aload_n (pc := 0) dX9_goesOn_0 (by decide) rfl ?_
              refine a_getI (y := 28) (pc := 1) dX9_goesOn_1 fl_RX9_179 (by decide) s0_275 (Or.inr rfl) rfl ?_
              refine a_eq (y := M6 275 28) rfl ?_
              refine a_if_ne (tgt := 19) (pc := 4) dX9_goesOn_4 (by decide) (fun hc => ?_) (fun hc => ?_)
              · replace h := h.1 hc
                refine a_iconst (pc := 19) dX9_goesOn_19 (by decide) ?_
                refine a_istore_n (ls1 := [(2, 275), (0, 62), (0, 0)]) (pc := 20) dX9_goesOn_20 (by decide) (hp1 (t := 0) rfl (by decide)) rfl ?_
                refine a_aload_n (pc := 21) dX9_goesOn_21 (by decide) rfl ?_
                refine a_dup (pc := 22) dX9_goesOn_22 n21 ?_
                refine a_getI (y := 27) (pc := 23) dX9_goesOn_23 fl_RX9_176 (by decide) s0_275 (Or.inl rfl) rfl ?_
                refine a_eq (y := M6 275 27) rfl ?_
                refine a_iload_n (pc := 26) dX9_goesOn_26 rfl ?_
                refine a_if_eq (tgt := 34) (pc := 27) dX9_goesOn_27 (by decide) (fun _ => ?_) (fun hc => absurd (by decide) hc)
                refine a_iconst (pc := 34) dX9_goesOn_34 (by decide) ?_
                have ho21 := h.1
                replace h := h.2
                refine a_iadd (pc := 35) dX9_goesOn_35 ho21 ?_
                refine a_putI (y := 27) (pc := 36) dX9_goesOn_36 fl_RX9_176 (by decide) s0_275 rfl rfl (tyX9_ok 27 (by decide)) rfl ?_
                refine a_iload_n (pc := 39) dX9_goesOn_39 rfl ?_
                refine a_iretz (pc := 40) dX9_goesOn_40 rfl rfl (Nat.le_of_ble_eq_true rfl) (by decide) ⟨rfl, ?_⟩
                refine a_if_eq (tgt := 150) (pc := 143) dX9_readLine_143 (by decide) (fun _ => ?_) (fun hc => absurd (by decide) hc)
                refine a_iconst (pc := 150) dX9_readLine_150 (by decide) ?_
                refine a_istore (ls1 := [(2, 275), (9, 0), (0, l2), (0, (((l3 : Int).toNat ||| (2 ^ (r5).toNat : Int).toNat : Nat) : Int)), (0, l4 + 1), (0, 0), (0, r5)]) (pc := 151) dX9_readLine_151 (by decide) (hp1 (t := 0) rfl (by decide)) rfl ?_
                refine a_goto (tgt := 52) (pc := 153) dX9_readLine_153 (by decide) ?_
                exact a_msk [true, true, true, true, true, true, false] rfl h
              · replace h := h.2 hc
                refine a_aload_n (pc := 7) dX9_goesOn_7 (by decide) rfl ?_
                refine p_inlV (Ex := _) (As := []) (st := []) (st1 := fun r => [(0, r)])  (pc := 8) dX9_goesOn_8 ml_RX9_183 (by decide) s0_275 rfl (by decide) (Nat.le_of_ble_eq_true rfl) rfl (fun _ => rfl) (by decide) (by decide) (Nat.le_of_ble_eq_true rfl) rfl ?_
                refine a_aload_n (pc := 0) dX9_here_0 (by decide) rfl ?_
                refine a_getI (y := 27) (pc := 1) dX9_here_1 fl_RX9_176 (by decide) s0_275 (Or.inl rfl) rfl ?_
                refine a_eq (y := M6 275 27) rfl ?_
                refine a_aload_n (pc := 4) dX9_here_4 (by decide) rfl ?_
                refine a_getI (y := 26) (pc := 5) dX9_here_5 fl_RX9_173 (by decide) s0_275 (Or.inl rfl) rfl ?_
                refine a_eq (y := M6 275 26) rfl ?_
                refine a_icmp_ge (tgt := 23) (pc := 8) dX9_here_8 (by decide) (fun hc => ?_) (fun hc => ?_)
                · replace h := h.1 hc
                  refine a_iconst (pc := 23) dX9_here_23 (by decide) ?_
                  refine a_ireti (pc := 24) dX9_here_24 rfl rfl (Nat.le_of_ble_eq_true rfl) ⟨rfl, ?_⟩
                  refine a_iload_n (pc := 11) dX9_goesOn_11 rfl ?_
                  refine a_icmp_ne (tgt := 19) (pc := 12) dX9_goesOn_12 (by decide) (fun _ => ?_) (fun hc => absurd hc (by decide))
                  refine a_iconst (pc := 19) dX9_goesOn_19 (by decide) ?_
                  refine a_istore_n (ls1 := [(2, 275), (0, 62), (0, 0)]) (pc := 20) dX9_goesOn_20 (by decide) (hp1 (t := 0) rfl (by decide)) rfl ?_
                  refine a_aload_n (pc := 21) dX9_goesOn_21 (by decide) rfl ?_
                  refine a_dup (pc := 22) dX9_goesOn_22 n21 ?_
                  refine a_getI (y := 27) (pc := 23) dX9_goesOn_23 fl_RX9_176 (by decide) s0_275 (Or.inl rfl) rfl ?_
                  refine a_eq (y := M6 275 27) rfl ?_
                  refine a_iload_n (pc := 26) dX9_goesOn_26 rfl ?_
                  refine a_if_eq (tgt := 34) (pc := 27) dX9_goesOn_27 (by decide) (fun _ => ?_) (fun hc => absurd (by decide) hc)
                  refine a_iconst (pc := 34) dX9_goesOn_34 (by decide) ?_
                  have ho22 := h.1
                  replace h := h.2
                  refine a_iadd (pc := 35) dX9_goesOn_35 ho22 ?_
                  refine a_putI (y := 27) (pc := 36) dX9_goesOn_36 fl_RX9_176 (by decide) s0_275 rfl rfl (tyX9_ok 27 (by decide)) rfl ?_
                  refine a_iload_n (pc := 39) dX9_goesOn_39 rfl ?_
                  refine a_iretz (pc := 40) dX9_goesOn_40 rfl rfl (Nat.le_of_ble_eq_true rfl) (by decide) ⟨rfl, ?_⟩
                  refine a_if_eq (tgt := 150) (pc := 143) dX9_readLine_143 (by decide) (fun _ => ?_) (fun hc => absurd (by decide) hc)
                  refine a_iconst (pc := 150) dX9_readLine_150 (by decide) ?_
                  refine a_istore (ls1 := [(2, 275), (9, 0), (0, l2), (0, (((l3 : Int).toNat ||| (2 ^ (r5).toNat : Int).toNat : Nat) : Int)), (0, l4 + 1), (0, 0), (0, r5)]) (pc := 151) dX9_readLine_151 (by decide) (hp1 (t := 0) rfl (by decide)) rfl ?_
                  refine a_goto (tgt := 52) (pc := 153) dX9_readLine_153 (by decide) ?_
                  exact a_msk [true, true, true, true, true, true, false] rfl h
                · replace h := h.2 hc
                  refine a_aload_n (pc := 11) dX9_here_11 (by decide) rfl ?_
                  refine a_getR (y := 292) (pc := 12) dX9_here_12 fl_RX9_65 (by decide) s0_275 rfl rfl ?_
                  refine a_aload_n (pc := 15) dX9_here_15 (by decide) rfl ?_
                  refine a_getI (y := 27) (pc := 16) dX9_here_16 fl_RX9_176 (by decide) s0_275 (Or.inl rfl) rfl ?_
                  refine a_eq (y := M6 275 27) rfl ?_
                  have ho23 := h.1
                  replace h := h.2
                  refine a_iald (pc := 19) dX9_here_19 (by decide) s0_292 ho23.1 ho23.2 ?_
                  refine a_eq (y := M6 292 (M6 275 27)) rfl ?_
                  refine a_goto (tgt := 24) (pc := 20) dX9_here_20 (by decide) ?_
                  refine a_ireti (pc := 24) dX9_here_24 rfl rfl (Nat.le_of_ble_eq_true rfl) ⟨rfl, ?_⟩
                  refine a_iload_n (pc := 11) dX9_goesOn_11 rfl ?_
                  refine a_icmp_ne (tgt := 19) (pc := 12) dX9_goesOn_12 (by decide) (fun hc => ?_) (fun hc => ?_)
                  · replace h := h.1 hc
                    refine a_iconst (pc := 19) dX9_goesOn_19 (by decide) ?_
                    refine a_istore_n (ls1 := [(2, 275), (0, 62), (0, 0)]) (pc := 20) dX9_goesOn_20 (by decide) (hp1 (t := 0) rfl (by decide)) rfl ?_
                    refine a_aload_n (pc := 21) dX9_goesOn_21 (by decide) rfl ?_
                    refine a_dup (pc := 22) dX9_goesOn_22 n21 ?_
                    refine a_getI (y := 27) (pc := 23) dX9_goesOn_23 fl_RX9_176 (by decide) s0_275 (Or.inl rfl) rfl ?_
                    refine a_eq (y := M6 275 27) rfl ?_
                    refine a_iload_n (pc := 26) dX9_goesOn_26 rfl ?_
                    refine a_if_eq (tgt := 34) (pc := 27) dX9_goesOn_27 (by decide) (fun _ => ?_) (fun hc => absurd (by decide) hc)
                    refine a_iconst (pc := 34) dX9_goesOn_34 (by decide) ?_
                    have ho24 := h.1
                    replace h := h.2
                    refine a_iadd (pc := 35) dX9_goesOn_35 ho24 ?_
                    refine a_putI (y := 27) (pc := 36) dX9_goesOn_36 fl_RX9_176 (by decide) s0_275 rfl rfl (tyX9_ok 27 (by decide)) rfl ?_
                    refine a_iload_n (pc := 39) dX9_goesOn_39 rfl ?_
                    refine a_iretz (pc := 40) dX9_goesOn_40 rfl rfl (Nat.le_of_ble_eq_true rfl) (by decide) ⟨rfl, ?_⟩
                    refine a_if_eq (tgt := 150) (pc := 143) dX9_readLine_143 (by decide) (fun _ => ?_) (fun hc => absurd (by decide) hc)
                    refine a_iconst (pc := 150) dX9_readLine_150 (by decide) ?_
                    refine a_istore (ls1 := [(2, 275), (9, 0), (0, l2), (0, (((l3 : Int).toNat ||| (2 ^ (r5).toNat : Int).toNat : Nat) : Int)), (0, l4 + 1), (0, 0), (0, r5)]) (pc := 151) dX9_readLine_151 (by decide) (hp1 (t := 0) rfl (by decide)) rfl ?_
                    refine a_goto (tgt := 52) (pc := 153) dX9_readLine_153 (by decide) ?_
                    exact a_msk [true, true, true, true, true, true, false] rfl h
                  · replace h := h.2 hc
                    refine a_iconst (pc := 15) dX9_goesOn_15 (by decide) ?_
                    refine a_goto (tgt := 20) (pc := 16) dX9_goesOn_16 (by decide) ?_
                    refine a_istore_n (ls1 := [(2, 275), (0, 62), (0, 1)]) (pc := 20) dX9_goesOn_20 (by decide) (hp1 (t := 0) rfl (by decide)) rfl ?_
                    refine a_aload_n (pc := 21) dX9_goesOn_21 (by decide) rfl ?_
                    refine a_dup (pc := 22) dX9_goesOn_22 n21 ?_
                    refine a_getI (y := 27) (pc := 23) dX9_goesOn_23 fl_RX9_176 (by decide) s0_275 (Or.inl rfl) rfl ?_
                    refine a_eq (y := M6 275 27) rfl ?_
                    refine a_iload_n (pc := 26) dX9_goesOn_26 rfl ?_
                    refine a_if_eq (tgt := 34) (pc := 27) dX9_goesOn_27 (by decide) (fun hc => absurd hc (by decide)) (fun _ => ?_)
                    refine a_iconst (pc := 30) dX9_goesOn_30 (by decide) ?_
                    refine a_goto (tgt := 35) (pc := 31) dX9_goesOn_31 (by decide) ?_
                    have ho25 := h.1
                    replace h := h.2
                    refine a_iadd (pc := 35) dX9_goesOn_35 ho25 ?_
                    refine a_putI (y := 27) (pc := 36) dX9_goesOn_36 fl_RX9_176 (by decide) s0_275 rfl rfl (tyX9_ok 27 (by decide)) rfl ?_
                    refine a_iload_n (pc := 39) dX9_goesOn_39 rfl ?_
                    refine a_iretz (pc := 40) dX9_goesOn_40 rfl rfl (Nat.le_of_ble_eq_true rfl) (by decide) ⟨rfl, ?_⟩
                    refine a_if_eq (tgt := 150) (pc := 143) dX9_readLine_143 (by decide) (fun hc => absurd hc (by decide)) (fun _ => ?_)
                    refine a_iconst (pc := 146) dX9_readLine_146 (by decide) ?_
                    refine a_goto (tgt := 151) (pc := 147) dX9_readLine_147 (by decide) ?_
                    refine a_istore (ls1 := [(2, 275), (9, 0), (0, l2), (0, (((l3 : Int).toNat ||| (2 ^ (r5).toNat : Int).toNat : Nat) : Int)), (0, l4 + 1), (0, 1), (0, r5)]) (pc := 151) dX9_readLine_151 (by decide) (hp1 (t := 0) rfl (by decide)) rfl ?_
                    refine a_goto (tgt := 52) (pc := 153) dX9_readLine_153 (by decide) ?_
                    exact a_msk [true, true, true, true, true, true, false] rfl h
      · replace h := h.2 hc
        refine a_iload_n (pc := 7) dX9_mustBe_7 rfl ?_
        refine a_if_ne (tgt := 21) (pc := 8) dX9_mustBe_8 (by decide) (fun hc => absurd rfl hc) (fun _ => ?_)
        refine a_aload_n (pc := 11) dX9_mustBe_11 (by decide) rfl ?_
        refine a_iconst (pc := 12) dX9_mustBe_12 (by decide) ?_
        refine a_putZ (y := 28) (pc := 13) dX9_mustBe_13 fl_RX9_179 (by decide) s0_275 rfl rfl (tyX9_ok 28 (by decide)) rfl (by decide) ?_
        refine a_aload_n (pc := 16) dX9_mustBe_16 (by decide) rfl ?_
        refine a_iload_n (pc := 17) dX9_mustBe_17 rfl ?_
        refine a_putI (y := 27) (pc := 18) dX9_mustBe_18 fl_RX9_176 (by decide) s0_275 rfl rfl (tyX9_ok 27 (by decide)) rfl ?_
        refine a_vret (pc := 21) dX9_mustBe_21 rfl rfl (Nat.le_of_ble_eq_true rfl) ⟨rfl, ?_⟩
        refine a_aload_n (pc := 89) dX9_readLine_89 (by decide) rfl ?_
        refine a_getI (y := 28) (pc := 90) dX9_readLine_90 fl_RX9_179 (by decide) s0_275 (Or.inr rfl) rfl ?_
        refine a_eq (y := 1) rfl ?_
        refine a_if_ne (tgt := 123) (pc := 93) dX9_readLine_93 (by decide) (fun _ => ?_) (fun hc => absurd hc (by decide))
        refine a_aload_n (pc := 123) dX9_readLine_123 (by decide) rfl ?_
        refine a_getI (y := 28) (pc := 124) dX9_readLine_124 fl_RX9_179 (by decide) s0_275 (Or.inr rfl) rfl ?_
        refine a_eq (y := 1) rfl ?_
        refine a_if_ne (tgt := 150) (pc := 127) dX9_readLine_127 (by decide) (fun _ => ?_) (fun hc => absurd hc (by decide))
        refine a_iconst (pc := 150) dX9_readLine_150 (by decide) ?_
        refine a_istore (ls1 := [(2, 275), (9, 0), (0, l2), (0, l3), (0, l4), (0, 0), (0, r5)]) (pc := 151) dX9_readLine_151 (by decide) (hp1 (t := 0) rfl (by decide)) rfl ?_
        refine a_goto (tgt := 52) (pc := 153) dX9_readLine_153 (by decide) ?_
        exact a_msk [true, true, true, true, true, true, false] rfl h
    · replace h := h.2 hc
      refine a_iconst (pc := 77) dX9_readLine_77 (by decide) ?_
      refine a_goto (tgt := 82) (pc := 78) dX9_readLine_78 (by decide) ?_
      refine a_aload_n (pc := 82) dX9_readLine_82 (by decide) rfl ?_
      refine a_getI (y := 29) (pc := 83) dX9_readLine_83 fl_RX9_194 (by decide) s0_275 (Or.inl rfl) rfl ?_
      refine p_inlV (Ex := _) (As := [(0, 1), (0, M6 275 29)]) (st := []) (st1 := fun r => [])  (pc := 86) dX9_readLine_86 ml_RX9_201 (by decide) s0_275 rfl (by decide) (Nat.le_of_ble_eq_true rfl) rfl (fun _ => rfl) (by decide) (by decide) (Nat.le_of_ble_eq_true rfl) rfl ?_
      refine a_aload_n (pc := 0) dX9_mustBe_0 (by decide) rfl ?_
      refine a_getI (y := 28) (pc := 1) dX9_mustBe_1 fl_RX9_179 (by decide) s0_275 (Or.inr rfl) rfl ?_
      refine a_if_ne (tgt := 21) (pc := 4) dX9_mustBe_4 (by decide) (fun hc => ?_) (fun hc => ?_)
      · replace h := h.1 hc
        refine a_vret (pc := 21) dX9_mustBe_21 rfl rfl (Nat.le_of_ble_eq_true rfl) ⟨rfl, ?_⟩
        refine a_aload_n (pc := 89) dX9_readLine_89 (by decide) rfl ?_
        refine a_getI (y := 28) (pc := 90) dX9_readLine_90 fl_RX9_179 (by decide) s0_275 (Or.inr rfl) rfl ?_
        refine a_if_ne (tgt := 123) (pc := 93) dX9_readLine_93 (by decide) (fun hc => ?_) (fun hc => ?_)
        · replace h := h.1 hc
          refine a_aload_n (pc := 123) dX9_readLine_123 (by decide) rfl ?_
          refine a_getI (y := 28) (pc := 124) dX9_readLine_124 fl_RX9_179 (by decide) s0_275 (Or.inr rfl) rfl ?_
          refine a_if_ne (tgt := 150) (pc := 127) dX9_readLine_127 (by decide) (fun hc => ?_) (fun hc => ?_)
          · replace h := h.1 hc
            refine a_iconst (pc := 150) dX9_readLine_150 (by decide) ?_
            refine a_istore (ls1 := [(2, 275), (9, 0), (0, l2), (0, l3), (0, l4), (0, 0), (0, r5)]) (pc := 151) dX9_readLine_151 (by decide) (hp1 (t := 0) rfl (by decide)) rfl ?_
            refine a_goto (tgt := 52) (pc := 153) dX9_readLine_153 (by decide) ?_
            exact a_msk [true, true, true, true, true, true, false] rfl h
          · replace h := h.2 hc
            refine a_iload (pc := 130) dX9_readLine_130 rfl ?_
            refine a_bipush (pc := 132) dX9_readLine_132 (by decide) (by decide +kernel) ?_
            refine a_icmp_ge (tgt := 150) (pc := 134) dX9_readLine_134 (by decide) (fun hc => ?_) (fun hc => ?_)
            · replace h := h.1 hc
              refine a_iconst (pc := 150) dX9_readLine_150 (by decide) ?_
              refine a_istore (ls1 := [(2, 275), (9, 0), (0, l2), (0, l3), (0, l4), (0, 0), (0, r5)]) (pc := 151) dX9_readLine_151 (by decide) (hp1 (t := 0) rfl (by decide)) rfl ?_
              refine a_goto (tgt := 52) (pc := 153) dX9_readLine_153 (by decide) ?_
              exact a_msk [true, true, true, true, true, true, false] rfl h
            · replace h := h.2 hc
              refine a_aload_n (pc := 137) dX9_readLine_137 (by decide) rfl ?_
              refine a_bipush (pc := 138) dX9_readLine_138 (by decide) (by decide +kernel) ?_
              refine p_inlV (Ex := _) (As := [(0, 62)]) (st := []) (st1 := fun r => [(0, r)])  (pc := 140) dX9_readLine_140 ml_RX9_187 (by decide) s0_275 rfl (by decide) (Nat.le_of_ble_eq_true rfl) rfl (fun _ => rfl) (by decide) (by decide) (Nat.le_of_ble_eq_true rfl) rfl ?_
              refine a_aload_n (pc := 0) dX9_goesOn_0 (by decide) rfl ?_
              refine a_getI (y := 28) (pc := 1) dX9_goesOn_1 fl_RX9_179 (by decide) s0_275 (Or.inr rfl) rfl ?_
              refine a_if_ne (tgt := 19) (pc := 4) dX9_goesOn_4 (by decide) (fun hc => ?_) (fun hc => ?_)
              · replace h := h.1 hc
                refine a_iconst (pc := 19) dX9_goesOn_19 (by decide) ?_
                refine a_istore_n (ls1 := [(2, 275), (0, 62), (0, 0)]) (pc := 20) dX9_goesOn_20 (by decide) (hp1 (t := 0) rfl (by decide)) rfl ?_
                refine a_aload_n (pc := 21) dX9_goesOn_21 (by decide) rfl ?_
                refine a_dup (pc := 22) dX9_goesOn_22 n21 ?_
                refine a_getI (y := 27) (pc := 23) dX9_goesOn_23 fl_RX9_176 (by decide) s0_275 (Or.inl rfl) rfl ?_
                refine a_iload_n (pc := 26) dX9_goesOn_26 rfl ?_
                refine a_if_eq (tgt := 34) (pc := 27) dX9_goesOn_27 (by decide) (fun _ => ?_) (fun hc => absurd (by decide) hc)
                refine a_iconst (pc := 34) dX9_goesOn_34 (by decide) ?_
                have ho26 := h.1
                replace h := h.2
                refine a_iadd (pc := 35) dX9_goesOn_35 ho26 ?_
                refine a_putI (y := 27) (pc := 36) dX9_goesOn_36 fl_RX9_176 (by decide) s0_275 rfl rfl (tyX9_ok 27 (by decide)) rfl ?_
                refine a_iload_n (pc := 39) dX9_goesOn_39 rfl ?_
                refine a_iretz (pc := 40) dX9_goesOn_40 rfl rfl (Nat.le_of_ble_eq_true rfl) (by decide) ⟨rfl, ?_⟩
                refine a_if_eq (tgt := 150) (pc := 143) dX9_readLine_143 (by decide) (fun _ => ?_) (fun hc => absurd (by decide) hc)
                refine a_iconst (pc := 150) dX9_readLine_150 (by decide) ?_
                refine a_istore (ls1 := [(2, 275), (9, 0), (0, l2), (0, l3), (0, l4), (0, 0), (0, r5)]) (pc := 151) dX9_readLine_151 (by decide) (hp1 (t := 0) rfl (by decide)) rfl ?_
                refine a_goto (tgt := 52) (pc := 153) dX9_readLine_153 (by decide) ?_
                exact a_msk [true, true, true, true, true, true, false] rfl h
              · replace h := h.2 hc
                refine a_aload_n (pc := 7) dX9_goesOn_7 (by decide) rfl ?_
                refine p_inlV (Ex := _) (As := []) (st := []) (st1 := fun r => [(0, r)])  (pc := 8) dX9_goesOn_8 ml_RX9_183 (by decide) s0_275 rfl (by decide) (Nat.le_of_ble_eq_true rfl) rfl (fun _ => rfl) (by decide) (by decide) (Nat.le_of_ble_eq_true rfl) rfl ?_
                refine a_aload_n (pc := 0) dX9_here_0 (by decide) rfl ?_
                refine a_getI (y := 27) (pc := 1) dX9_here_1 fl_RX9_176 (by decide) s0_275 (Or.inl rfl) rfl ?_
                refine a_aload_n (pc := 4) dX9_here_4 (by decide) rfl ?_
                refine a_getI (y := 26) (pc := 5) dX9_here_5 fl_RX9_173 (by decide) s0_275 (Or.inl rfl) rfl ?_
                refine a_icmp_ge (tgt := 23) (pc := 8) dX9_here_8 (by decide) (fun hc => ?_) (fun hc => ?_)
                · replace h := h.1 hc
                  refine a_iconst (pc := 23) dX9_here_23 (by decide) ?_
                  refine a_ireti (pc := 24) dX9_here_24 rfl rfl (Nat.le_of_ble_eq_true rfl) ⟨rfl, ?_⟩
                  refine a_iload_n (pc := 11) dX9_goesOn_11 rfl ?_
                  refine a_icmp_ne (tgt := 19) (pc := 12) dX9_goesOn_12 (by decide) (fun _ => ?_) (fun hc => absurd hc (by decide))
                  refine a_iconst (pc := 19) dX9_goesOn_19 (by decide) ?_
                  refine a_istore_n (ls1 := [(2, 275), (0, 62), (0, 0)]) (pc := 20) dX9_goesOn_20 (by decide) (hp1 (t := 0) rfl (by decide)) rfl ?_
                  refine a_aload_n (pc := 21) dX9_goesOn_21 (by decide) rfl ?_
                  refine a_dup (pc := 22) dX9_goesOn_22 n21 ?_
                  refine a_getI (y := 27) (pc := 23) dX9_goesOn_23 fl_RX9_176 (by decide) s0_275 (Or.inl rfl) rfl ?_
                  refine a_iload_n (pc := 26) dX9_goesOn_26 rfl ?_
                  refine a_if_eq (tgt := 34) (pc := 27) dX9_goesOn_27 (by decide) (fun _ => ?_) (fun hc => absurd (by decide) hc)
                  refine a_iconst (pc := 34) dX9_goesOn_34 (by decide) ?_
                  have ho27 := h.1
                  replace h := h.2
                  refine a_iadd (pc := 35) dX9_goesOn_35 ho27 ?_
                  refine a_putI (y := 27) (pc := 36) dX9_goesOn_36 fl_RX9_176 (by decide) s0_275 rfl rfl (tyX9_ok 27 (by decide)) rfl ?_
                  refine a_iload_n (pc := 39) dX9_goesOn_39 rfl ?_
                  refine a_iretz (pc := 40) dX9_goesOn_40 rfl rfl (Nat.le_of_ble_eq_true rfl) (by decide) ⟨rfl, ?_⟩
                  refine a_if_eq (tgt := 150) (pc := 143) dX9_readLine_143 (by decide) (fun _ => ?_) (fun hc => absurd (by decide) hc)
                  refine a_iconst (pc := 150) dX9_readLine_150 (by decide) ?_
                  refine a_istore (ls1 := [(2, 275), (9, 0), (0, l2), (0, l3), (0, l4), (0, 0), (0, r5)]) (pc := 151) dX9_readLine_151 (by decide) (hp1 (t := 0) rfl (by decide)) rfl ?_
                  refine a_goto (tgt := 52) (pc := 153) dX9_readLine_153 (by decide) ?_
                  exact a_msk [true, true, true, true, true, true, false] rfl h
                · replace h := h.2 hc
                  refine a_aload_n (pc := 11) dX9_here_11 (by decide) rfl ?_
                  refine a_getR (y := 292) (pc := 12) dX9_here_12 fl_RX9_65 (by decide) s0_275 rfl rfl ?_
                  refine a_aload_n (pc := 15) dX9_here_15 (by decide) rfl ?_
                  refine a_getI (y := 27) (pc := 16) dX9_here_16 fl_RX9_176 (by decide) s0_275 (Or.inl rfl) rfl ?_
                  have ho28 := h.1
                  replace h := h.2
                  refine a_iald (pc := 19) dX9_here_19 (by decide) s0_292 ho28.1 ho28.2 ?_
                  refine a_goto (tgt := 24) (pc := 20) dX9_here_20 (by decide) ?_
                  refine a_ireti (pc := 24) dX9_here_24 rfl rfl (Nat.le_of_ble_eq_true rfl) ⟨rfl, ?_⟩
                  refine a_iload_n (pc := 11) dX9_goesOn_11 rfl ?_
                  refine a_icmp_ne (tgt := 19) (pc := 12) dX9_goesOn_12 (by decide) (fun hc => ?_) (fun hc => ?_)
                  · replace h := h.1 hc
                    refine a_iconst (pc := 19) dX9_goesOn_19 (by decide) ?_
                    refine a_istore_n (ls1 := [(2, 275), (0, 62), (0, 0)]) (pc := 20) dX9_goesOn_20 (by decide) (hp1 (t := 0) rfl (by decide)) rfl ?_
                    refine a_aload_n (pc := 21) dX9_goesOn_21 (by decide) rfl ?_
                    refine a_dup (pc := 22) dX9_goesOn_22 n21 ?_
                    refine a_getI (y := 27) (pc := 23) dX9_goesOn_23 fl_RX9_176 (by decide) s0_275 (Or.inl rfl) rfl ?_
                    refine a_iload_n (pc := 26) dX9_goesOn_26 rfl ?_
                    refine a_if_eq (tgt := 34) (pc := 27) dX9_goesOn_27 (by decide) (fun _ => ?_) (fun hc => absurd (by decide) hc)
                    refine a_iconst (pc := 34) dX9_goesOn_34 (by decide) ?_
                    have ho29 := h.1
                    replace h := h.2
                    refine a_iadd (pc := 35) dX9_goesOn_35 ho29 ?_
                    refine a_putI (y := 27) (pc := 36) dX9_goesOn_36 fl_RX9_176 (by decide) s0_275 rfl rfl (tyX9_ok 27 (by decide)) rfl ?_
                    refine a_iload_n (pc := 39) dX9_goesOn_39 rfl ?_
                    refine a_iretz (pc := 40) dX9_goesOn_40 rfl rfl (Nat.le_of_ble_eq_true rfl) (by decide) ⟨rfl, ?_⟩
                    refine a_if_eq (tgt := 150) (pc := 143) dX9_readLine_143 (by decide) (fun _ => ?_) (fun hc => absurd (by decide) hc)
                    refine a_iconst (pc := 150) dX9_readLine_150 (by decide) ?_
                    refine a_istore (ls1 := [(2, 275), (9, 0), (0, l2), (0, l3), (0, l4), (0, 0), (0, r5)]) (pc := 151) dX9_readLine_151 (by decide) (hp1 (t := 0) rfl (by decide)) rfl ?_
                    refine a_goto (tgt := 52) (pc := 153) dX9_readLine_153 (by decide) ?_
                    exact a_msk [true, true, true, true, true, true, false] rfl h
                  · replace h := h.2 hc
                    refine a_iconst (pc := 15) dX9_goesOn_15 (by decide) ?_
                    refine a_goto (tgt := 20) (pc := 16) dX9_goesOn_16 (by decide) ?_
                    refine a_istore_n (ls1 := [(2, 275), (0, 62), (0, 1)]) (pc := 20) dX9_goesOn_20 (by decide) (hp1 (t := 0) rfl (by decide)) rfl ?_
                    refine a_aload_n (pc := 21) dX9_goesOn_21 (by decide) rfl ?_
                    refine a_dup (pc := 22) dX9_goesOn_22 n21 ?_
                    refine a_getI (y := 27) (pc := 23) dX9_goesOn_23 fl_RX9_176 (by decide) s0_275 (Or.inl rfl) rfl ?_
                    refine a_iload_n (pc := 26) dX9_goesOn_26 rfl ?_
                    refine a_if_eq (tgt := 34) (pc := 27) dX9_goesOn_27 (by decide) (fun hc => absurd hc (by decide)) (fun _ => ?_)
                    refine a_iconst (pc := 30) dX9_goesOn_30 (by decide) ?_
                    refine a_goto (tgt := 35) (pc := 31) dX9_goesOn_31 (by decide) ?_
                    have ho30 := h.1
                    replace h := h.2
                    refine a_iadd (pc := 35) dX9_goesOn_35 ho30 ?_
                    refine a_putI (y := 27) (pc := 36) dX9_goesOn_36 fl_RX9_176 (by decide) s0_275 rfl rfl (tyX9_ok 27 (by decide)) rfl ?_
                    refine a_iload_n (pc := 39) dX9_goesOn_39 rfl ?_
                    refine a_iretz (pc := 40) dX9_goesOn_40 rfl rfl (Nat.le_of_ble_eq_true rfl) (by decide) ⟨rfl, ?_⟩
                    refine a_if_eq (tgt := 150) (pc := 143) dX9_readLine_143 (by decide) (fun hc => absurd hc (by decide)) (fun _ => ?_)
                    refine a_iconst (pc := 146) dX9_readLine_146 (by decide) ?_
                    refine a_goto (tgt := 151) (pc := 147) dX9_readLine_147 (by decide) ?_
                    refine a_istore (ls1 := [(2, 275), (9, 0), (0, l2), (0, l3), (0, l4), (0, 1), (0, r5)]) (pc := 151) dX9_readLine_151 (by decide) (hp1 (t := 0) rfl (by decide)) rfl ?_
                    refine a_goto (tgt := 52) (pc := 153) dX9_readLine_153 (by decide) ?_
                    exact a_msk [true, true, true, true, true, true, false] rfl h
        · replace h := h.2 hc
          refine a_iload_n (pc := 96) dX9_readLine_96 rfl ?_
          refine a_iconst (pc := 97) dX9_readLine_97 (by decide) ?_
          refine a_iload (pc := 98) dX9_readLine_98 rfl ?_
          have ho31 := h.1
          replace h := h.2
          refine a_ishl (z := 2 ^ (r5).toNat) (pc := 100) dX9_readLine_100 rfl ho31.1 ho31.2 rfl ?_
          have ho32 := h.1
          replace h := h.2
          have ho33 := h.1
          replace h := h.2
          refine a_ior (z := (((l3 : Int).toNat ||| (2 ^ (r5).toNat : Int).toNat : Nat) : Int)) (pc := 101) dX9_readLine_101 ho32 ho33 rfl ?_
          refine a_istore_n (ls1 := [(2, 275), (9, 0), (0, l2), (0, (((l3 : Int).toNat ||| (2 ^ (r5).toNat : Int).toNat : Nat) : Int)), (0, l4), (0, l5), (0, r5)]) (pc := 102) dX9_readLine_102 (by decide) (hp1 (t := 0) rfl (by decide)) rfl ?_
          refine a_aload_n (pc := 103) dX9_readLine_103 (by decide) rfl ?_
          refine a_getR (y := 278) (pc := 104) dX9_readLine_104 fl_RX9_16 (by decide) s0_275 rfl rfl ?_
          refine a_bipush (pc := 107) dX9_readLine_107 (by decide) (by decide +kernel) ?_
          refine a_aload_n (pc := 109) dX9_readLine_109 (by decide) rfl ?_
          refine a_getI (y := 0) (pc := 110) dX9_readLine_110 fl_RX9_98 (by decide) s0_275 (Or.inl rfl) rfl ?_
          have ho34 := h.1
          replace h := h.2
          refine a_imul (pc := 113) dX9_readLine_113 ho34 ?_
          refine a_iload (pc := 114) dX9_readLine_114 rfl ?_
          have ho35 := h.1
          replace h := h.2
          refine a_iadd (pc := 116) dX9_readLine_116 ho35 ?_
          refine a_iload (pc := 117) dX9_readLine_117 rfl ?_
          have ho36 := h.1
          replace h := h.2
          refine a_iast (pc := 119) dX9_readLine_119 (by decide) s0_278 ho36.1 ho36.2 ?_
          have ho37 := h.1
          replace h := h.2
          refine a_iinc (ls1 := [(2, 275), (9, 0), (0, l2), (0, (((l3 : Int).toNat ||| (2 ^ (r5).toNat : Int).toNat : Nat) : Int)), (0, l4 + 1), (0, l5), (0, r5)]) (pc := 120) dX9_readLine_120 rfl (by decide) (hp1 (t := 0) rfl (by decide)) ho37 rfl ?_
          refine a_aload_n (pc := 123) dX9_readLine_123 (by decide) rfl ?_
          refine a_getI (y := 28) (pc := 124) dX9_readLine_124 fl_RX9_179 (by decide) s0_275 (Or.inr rfl) rfl ?_
          refine a_eq (y := M6 275 28) rfl ?_
          refine a_if_ne (tgt := 150) (pc := 127) dX9_readLine_127 (by decide) (fun hc => ?_) (fun hc => ?_)
          · replace h := h.1 hc
            refine a_iconst (pc := 150) dX9_readLine_150 (by decide) ?_
            refine a_istore (ls1 := [(2, 275), (9, 0), (0, l2), (0, (((l3 : Int).toNat ||| (2 ^ (r5).toNat : Int).toNat : Nat) : Int)), (0, l4 + 1), (0, 0), (0, r5)]) (pc := 151) dX9_readLine_151 (by decide) (hp1 (t := 0) rfl (by decide)) rfl ?_
            refine a_goto (tgt := 52) (pc := 153) dX9_readLine_153 (by decide) ?_
            exact a_msk [true, true, true, true, true, true, false] rfl h
          · replace h := h.2 hc
            refine a_iload (pc := 130) dX9_readLine_130 rfl ?_
            refine a_bipush (pc := 132) dX9_readLine_132 (by decide) (by decide +kernel) ?_
            refine a_icmp_ge (tgt := 150) (pc := 134) dX9_readLine_134 (by decide) (fun hc => ?_) (fun hc => ?_)
            · replace h := h.1 hc
              refine a_iconst (pc := 150) dX9_readLine_150 (by decide) ?_
              refine a_istore (ls1 := [(2, 275), (9, 0), (0, l2), (0, (((l3 : Int).toNat ||| (2 ^ (r5).toNat : Int).toNat : Nat) : Int)), (0, l4 + 1), (0, 0), (0, r5)]) (pc := 151) dX9_readLine_151 (by decide) (hp1 (t := 0) rfl (by decide)) rfl ?_
              refine a_goto (tgt := 52) (pc := 153) dX9_readLine_153 (by decide) ?_
              exact a_msk [true, true, true, true, true, true, false] rfl h
            · replace h := h.2 hc
              refine a_aload_n (pc := 137) dX9_readLine_137 (by decide) rfl ?_
              refine a_bipush (pc := 138) dX9_readLine_138 (by decide) (by decide +kernel) ?_
              refine p_inlV (Ex := _) (As := [(0, 62)]) (st := []) (st1 := fun r => [(0, r)])  (pc := 140) dX9_readLine_140 ml_RX9_187 (by decide) s0_275 rfl (by decide) (Nat.le_of_ble_eq_true rfl) rfl (fun _ => rfl) (by decide) (by decide) (Nat.le_of_ble_eq_true rfl) rfl ?_
              refine a_aload_n (pc := 0) dX9_goesOn_0 (by decide) rfl ?_
              refine a_getI (y := 28) (pc := 1) dX9_goesOn_1 fl_RX9_179 (by decide) s0_275 (Or.inr rfl) rfl ?_
              refine a_eq (y := M6 275 28) rfl ?_
              refine a_if_ne (tgt := 19) (pc := 4) dX9_goesOn_4 (by decide) (fun hc => ?_) (fun hc => ?_)
              · replace h := h.1 hc
                refine a_iconst (pc := 19) dX9_goesOn_19 (by decide) ?_
                refine a_istore_n (ls1 := [(2, 275), (0, 62), (0, 0)]) (pc := 20) dX9_goesOn_20 (by decide) (hp1 (t := 0) rfl (by decide)) rfl ?_
                refine a_aload_n (pc := 21) dX9_goesOn_21 (by decide) rfl ?_
                refine a_dup (pc := 22) dX9_goesOn_22 n21 ?_
                refine a_getI (y := 27) (pc := 23) dX9_goesOn_23 fl_RX9_176 (by decide) s0_275 (Or.inl rfl) rfl ?_
                refine a_eq (y := M6 275 27) rfl ?_
                refine a_iload_n (pc := 26) dX9_goesOn_26 rfl ?_
                refine a_if_eq (tgt := 34) (pc := 27) dX9_goesOn_27 (by decide) (fun _ => ?_) (fun hc => absurd (by decide) hc)
                refine a_iconst (pc := 34) dX9_goesOn_34 (by decide) ?_
                have ho38 := h.1
                replace h := h.2
                refine a_iadd (pc := 35) dX9_goesOn_35 ho38 ?_
                refine a_putI (y := 27) (pc := 36) dX9_goesOn_36 fl_RX9_176 (by decide) s0_275 rfl rfl (tyX9_ok 27 (by decide)) rfl ?_
                refine a_iload_n (pc := 39) dX9_goesOn_39 rfl ?_
                refine a_iretz (pc := 40) dX9_goesOn_40 rfl rfl (Nat.le_of_ble_eq_true rfl) (by decide) ⟨rfl, ?_⟩
                refine a_if_eq (tgt := 150) (pc := 143) dX9_readLine_143 (by decide) (fun _ => ?_) (fun hc => absurd (by decide) hc)
                refine a_iconst (pc := 150) dX9_readLine_150 (by decide) ?_
                refine a_istore (ls1 := [(2, 275), (9, 0), (0, l2), (0, (((l3 : Int).toNat ||| (2 ^ (r5).toNat : Int).toNat : Nat) : Int)), (0, l4 + 1), (0, 0), (0, r5)]) (pc := 151) dX9_readLine_151 (by decide) (hp1 (t := 0) rfl (by decide)) rfl ?_
                refine a_goto (tgt := 52) (pc := 153) dX9_readLine_153 (by decide) ?_
                exact a_msk [true, true, true, true, true, true, false] rfl h
              · replace h := h.2 hc
                refine a_aload_n (pc := 7) dX9_goesOn_7 (by decide) rfl ?_
                refine p_inlV (Ex := _) (As := []) (st := []) (st1 := fun r => [(0, r)])  (pc := 8) dX9_goesOn_8 ml_RX9_183 (by decide) s0_275 rfl (by decide) (Nat.le_of_ble_eq_true rfl) rfl (fun _ => rfl) (by decide) (by decide) (Nat.le_of_ble_eq_true rfl) rfl ?_
                refine a_aload_n (pc := 0) dX9_here_0 (by decide) rfl ?_
                refine a_getI (y := 27) (pc := 1) dX9_here_1 fl_RX9_176 (by decide) s0_275 (Or.inl rfl) rfl ?_
                refine a_eq (y := M6 275 27) rfl ?_
                refine a_aload_n (pc := 4) dX9_here_4 (by decide) rfl ?_
                refine a_getI (y := 26) (pc := 5) dX9_here_5 fl_RX9_173 (by decide) s0_275 (Or.inl rfl) rfl ?_
                refine a_eq (y := M6 275 26) rfl ?_
                refine a_icmp_ge (tgt := 23) (pc := 8) dX9_here_8 (by decide) (fun hc => ?_) (fun hc => ?_)
                · replace h := h.1 hc
                  refine a_iconst (pc := 23) dX9_here_23 (by decide) ?_
                  refine a_ireti (pc := 24) dX9_here_24 rfl rfl (Nat.le_of_ble_eq_true rfl) ⟨rfl, ?_⟩
                  refine a_iload_n (pc := 11) dX9_goesOn_11 rfl ?_
                  refine a_icmp_ne (tgt := 19) (pc := 12) dX9_goesOn_12 (by decide) (fun _ => ?_) (fun hc => absurd hc (by decide))
                  refine a_iconst (pc := 19) dX9_goesOn_19 (by decide) ?_
                  refine a_istore_n (ls1 := [(2, 275), (0, 62), (0, 0)]) (pc := 20) dX9_goesOn_20 (by decide) (hp1 (t := 0) rfl (by decide)) rfl ?_
                  refine a_aload_n (pc := 21) dX9_goesOn_21 (by decide) rfl ?_
                  refine a_dup (pc := 22) dX9_goesOn_22 n21 ?_
                  refine a_getI (y := 27) (pc := 23) dX9_goesOn_23 fl_RX9_176 (by decide) s0_275 (Or.inl rfl) rfl ?_
                  refine a_eq (y := M6 275 27) rfl ?_
                  refine a_iload_n (pc := 26) dX9_goesOn_26 rfl ?_
                  refine a_if_eq (tgt := 34) (pc := 27) dX9_goesOn_27 (by decide) (fun _ => ?_) (fun hc => absurd (by decide) hc)
                  refine a_iconst (pc := 34) dX9_goesOn_34 (by decide) ?_
                  have ho39 := h.1
                  replace h := h.2
                  refine a_iadd (pc := 35) dX9_goesOn_35 ho39 ?_
                  refine a_putI (y := 27) (pc := 36) dX9_goesOn_36 fl_RX9_176 (by decide) s0_275 rfl rfl (tyX9_ok 27 (by decide)) rfl ?_
                  refine a_iload_n (pc := 39) dX9_goesOn_39 rfl ?_
                  refine a_iretz (pc := 40) dX9_goesOn_40 rfl rfl (Nat.le_of_ble_eq_true rfl) (by decide) ⟨rfl, ?_⟩
                  refine a_if_eq (tgt := 150) (pc := 143) dX9_readLine_143 (by decide) (fun _ => ?_) (fun hc => absurd (by decide) hc)
                  refine a_iconst (pc := 150) dX9_readLine_150 (by decide) ?_
                  refine a_istore (ls1 := [(2, 275), (9, 0), (0, l2), (0, (((l3 : Int).toNat ||| (2 ^ (r5).toNat : Int).toNat : Nat) : Int)), (0, l4 + 1), (0, 0), (0, r5)]) (pc := 151) dX9_readLine_151 (by decide) (hp1 (t := 0) rfl (by decide)) rfl ?_
                  refine a_goto (tgt := 52) (pc := 153) dX9_readLine_153 (by decide) ?_
                  exact a_msk [true, true, true, true, true, true, false] rfl h
                · replace h := h.2 hc
                  refine a_aload_n (pc := 11) dX9_here_11 (by decide) rfl ?_
                  refine a_getR (y := 292) (pc := 12) dX9_here_12 fl_RX9_65 (by decide) s0_275 rfl rfl ?_
                  refine a_aload_n (pc := 15) dX9_here_15 (by decide) rfl ?_
                  refine a_getI (y := 27) (pc := 16) dX9_here_16 fl_RX9_176 (by decide) s0_275 (Or.inl rfl) rfl ?_
                  refine a_eq (y := M6 275 27) rfl ?_
                  have ho40 := h.1
                  replace h := h.2
                  refine a_iald (pc := 19) dX9_here_19 (by decide) s0_292 ho40.1 ho40.2 ?_
                  refine a_eq (y := M6 292 (M6 275 27)) rfl ?_
                  refine a_goto (tgt := 24) (pc := 20) dX9_here_20 (by decide) ?_
                  refine a_ireti (pc := 24) dX9_here_24 rfl rfl (Nat.le_of_ble_eq_true rfl) ⟨rfl, ?_⟩
                  refine a_iload_n (pc := 11) dX9_goesOn_11 rfl ?_
                  refine a_icmp_ne (tgt := 19) (pc := 12) dX9_goesOn_12 (by decide) (fun hc => ?_) (fun hc => ?_)
                  · replace h := h.1 hc
                    refine a_iconst (pc := 19) dX9_goesOn_19 (by decide) ?_
                    refine a_istore_n (ls1 := [(2, 275), (0, 62), (0, 0)]) (pc := 20) dX9_goesOn_20 (by decide) (hp1 (t := 0) rfl (by decide)) rfl ?_
                    refine a_aload_n (pc := 21) dX9_goesOn_21 (by decide) rfl ?_
                    refine a_dup (pc := 22) dX9_goesOn_22 n21 ?_
                    refine a_getI (y := 27) (pc := 23) dX9_goesOn_23 fl_RX9_176 (by decide) s0_275 (Or.inl rfl) rfl ?_
                    refine a_eq (y := M6 275 27) rfl ?_
                    refine a_iload_n (pc := 26) dX9_goesOn_26 rfl ?_
                    refine a_if_eq (tgt := 34) (pc := 27) dX9_goesOn_27 (by decide) (fun _ => ?_) (fun hc => absurd (by decide) hc)
                    refine a_iconst (pc := 34) dX9_goesOn_34 (by decide) ?_
                    have ho41 := h.1
                    replace h := h.2
                    refine a_iadd (pc := 35) dX9_goesOn_35 ho41 ?_
                    refine a_putI (y := 27) (pc := 36) dX9_goesOn_36 fl_RX9_176 (by decide) s0_275 rfl rfl (tyX9_ok 27 (by decide)) rfl ?_
                    refine a_iload_n (pc := 39) dX9_goesOn_39 rfl ?_
                    refine a_iretz (pc := 40) dX9_goesOn_40 rfl rfl (Nat.le_of_ble_eq_true rfl) (by decide) ⟨rfl, ?_⟩
                    refine a_if_eq (tgt := 150) (pc := 143) dX9_readLine_143 (by decide) (fun _ => ?_) (fun hc => absurd (by decide) hc)
                    refine a_iconst (pc := 150) dX9_readLine_150 (by decide) ?_
                    refine a_istore (ls1 := [(2, 275), (9, 0), (0, l2), (0, (((l3 : Int).toNat ||| (2 ^ (r5).toNat : Int).toNat : Nat) : Int)), (0, l4 + 1), (0, 0), (0, r5)]) (pc := 151) dX9_readLine_151 (by decide) (hp1 (t := 0) rfl (by decide)) rfl ?_
                    refine a_goto (tgt := 52) (pc := 153) dX9_readLine_153 (by decide) ?_
                    exact a_msk [true, true, true, true, true, true, false] rfl h
                  · replace h := h.2 hc
                    refine a_iconst (pc := 15) dX9_goesOn_15 (by decide) ?_
                    refine a_goto (tgt := 20) (pc := 16) dX9_goesOn_16 (by decide) ?_
                    refine a_istore_n (ls1 := [(2, 275), (0, 62), (0, 1)]) (pc := 20) dX9_goesOn_20 (by decide) (hp1 (t := 0) rfl (by decide)) rfl ?_
                    refine a_aload_n (pc := 21) dX9_goesOn_21 (by decide) rfl ?_
                    refine a_dup (pc := 22) dX9_goesOn_22 n21 ?_
                    refine a_getI (y := 27) (pc := 23) dX9_goesOn_23 fl_RX9_176 (by decide) s0_275 (Or.inl rfl) rfl ?_
                    refine a_eq (y := M6 275 27) rfl ?_
                    refine a_iload_n (pc := 26) dX9_goesOn_26 rfl ?_
                    refine a_if_eq (tgt := 34) (pc := 27) dX9_goesOn_27 (by decide) (fun hc => absurd hc (by decide)) (fun _ => ?_)
                    refine a_iconst (pc := 30) dX9_goesOn_30 (by decide) ?_
                    refine a_goto (tgt := 35) (pc := 31) dX9_goesOn_31 (by decide) ?_
                    have ho42 := h.1
                    replace h := h.2
                    refine a_iadd (pc := 35) dX9_goesOn_35 ho42 ?_
                    refine a_putI (y := 27) (pc := 36) dX9_goesOn_36 fl_RX9_176 (by decide) s0_275 rfl rfl (tyX9_ok 27 (by decide)) rfl ?_
                    refine a_iload_n (pc := 39) dX9_goesOn_39 rfl ?_
                    refine a_iretz (pc := 40) dX9_goesOn_40 rfl rfl (Nat.le_of_ble_eq_true rfl) (by decide) ⟨rfl, ?_⟩
                    refine a_if_eq (tgt := 150) (pc := 143) dX9_readLine_143 (by decide) (fun hc => absurd hc (by decide)) (fun _ => ?_)
                    refine a_iconst (pc := 146) dX9_readLine_146 (by decide) ?_
                    refine a_goto (tgt := 151) (pc := 147) dX9_readLine_147 (by decide) ?_
                    refine a_istore (ls1 := [(2, 275), (9, 0), (0, l2), (0, (((l3 : Int).toNat ||| (2 ^ (r5).toNat : Int).toNat : Nat) : Int)), (0, l4 + 1), (0, 1), (0, r5)]) (pc := 151) dX9_readLine_151 (by decide) (hp1 (t := 0) rfl (by decide)) rfl ?_
                    refine a_goto (tgt := 52) (pc := 153) dX9_readLine_153 (by decide) ?_
                    exact a_msk [true, true, true, true, true, true, false] rfl h
      · replace h := h.2 hc
        refine a_iload_n (pc := 7) dX9_mustBe_7 rfl ?_
        refine a_if_ne (tgt := 21) (pc := 8) dX9_mustBe_8 (by decide) (fun _ => ?_) (fun hc => absurd hc (by decide))
        refine a_vret (pc := 21) dX9_mustBe_21 rfl rfl (Nat.le_of_ble_eq_true rfl) ⟨rfl, ?_⟩
        refine a_aload_n (pc := 89) dX9_readLine_89 (by decide) rfl ?_
        refine a_getI (y := 28) (pc := 90) dX9_readLine_90 fl_RX9_179 (by decide) s0_275 (Or.inr rfl) rfl ?_
        refine a_if_ne (tgt := 123) (pc := 93) dX9_readLine_93 (by decide) (fun hc => ?_) (fun hc => ?_)
        · replace h := h.1 hc
          refine a_aload_n (pc := 123) dX9_readLine_123 (by decide) rfl ?_
          refine a_getI (y := 28) (pc := 124) dX9_readLine_124 fl_RX9_179 (by decide) s0_275 (Or.inr rfl) rfl ?_
          refine a_if_ne (tgt := 150) (pc := 127) dX9_readLine_127 (by decide) (fun hc => ?_) (fun hc => ?_)
          · replace h := h.1 hc
            refine a_iconst (pc := 150) dX9_readLine_150 (by decide) ?_
            refine a_istore (ls1 := [(2, 275), (9, 0), (0, l2), (0, l3), (0, l4), (0, 0), (0, r5)]) (pc := 151) dX9_readLine_151 (by decide) (hp1 (t := 0) rfl (by decide)) rfl ?_
            refine a_goto (tgt := 52) (pc := 153) dX9_readLine_153 (by decide) ?_
            exact a_msk [true, true, true, true, true, true, false] rfl h
          · replace h := h.2 hc
            refine a_iload (pc := 130) dX9_readLine_130 rfl ?_
            refine a_bipush (pc := 132) dX9_readLine_132 (by decide) (by decide +kernel) ?_
            refine a_icmp_ge (tgt := 150) (pc := 134) dX9_readLine_134 (by decide) (fun hc => ?_) (fun hc => ?_)
            · replace h := h.1 hc
              refine a_iconst (pc := 150) dX9_readLine_150 (by decide) ?_
              refine a_istore (ls1 := [(2, 275), (9, 0), (0, l2), (0, l3), (0, l4), (0, 0), (0, r5)]) (pc := 151) dX9_readLine_151 (by decide) (hp1 (t := 0) rfl (by decide)) rfl ?_
              refine a_goto (tgt := 52) (pc := 153) dX9_readLine_153 (by decide) ?_
              exact a_msk [true, true, true, true, true, true, false] rfl h
            · replace h := h.2 hc
              refine a_aload_n (pc := 137) dX9_readLine_137 (by decide) rfl ?_
              refine a_bipush (pc := 138) dX9_readLine_138 (by decide) (by decide +kernel) ?_
              refine p_inlV (Ex := _) (As := [(0, 62)]) (st := []) (st1 := fun r => [(0, r)])  (pc := 140) dX9_readLine_140 ml_RX9_187 (by decide) s0_275 rfl (by decide) (Nat.le_of_ble_eq_true rfl) rfl (fun _ => rfl) (by decide) (by decide) (Nat.le_of_ble_eq_true rfl) rfl ?_
              refine a_aload_n (pc := 0) dX9_goesOn_0 (by decide) rfl ?_
              refine a_getI (y := 28) (pc := 1) dX9_goesOn_1 fl_RX9_179 (by decide) s0_275 (Or.inr rfl) rfl ?_
              refine a_if_ne (tgt := 19) (pc := 4) dX9_goesOn_4 (by decide) (fun hc => ?_) (fun hc => ?_)
              · replace h := h.1 hc
                refine a_iconst (pc := 19) dX9_goesOn_19 (by decide) ?_
                refine a_istore_n (ls1 := [(2, 275), (0, 62), (0, 0)]) (pc := 20) dX9_goesOn_20 (by decide) (hp1 (t := 0) rfl (by decide)) rfl ?_
                refine a_aload_n (pc := 21) dX9_goesOn_21 (by decide) rfl ?_
                refine a_dup (pc := 22) dX9_goesOn_22 n21 ?_
                refine a_getI (y := 27) (pc := 23) dX9_goesOn_23 fl_RX9_176 (by decide) s0_275 (Or.inl rfl) rfl ?_
                refine a_iload_n (pc := 26) dX9_goesOn_26 rfl ?_
                refine a_if_eq (tgt := 34) (pc := 27) dX9_goesOn_27 (by decide) (fun _ => ?_) (fun hc => absurd (by decide) hc)
                refine a_iconst (pc := 34) dX9_goesOn_34 (by decide) ?_
                have ho43 := h.1
                replace h := h.2
                refine a_iadd (pc := 35) dX9_goesOn_35 ho43 ?_
                refine a_putI (y := 27) (pc := 36) dX9_goesOn_36 fl_RX9_176 (by decide) s0_275 rfl rfl (tyX9_ok 27 (by decide)) rfl ?_
                refine a_iload_n (pc := 39) dX9_goesOn_39 rfl ?_
                refine a_iretz (pc := 40) dX9_goesOn_40 rfl rfl (Nat.le_of_ble_eq_true rfl) (by decide) ⟨rfl, ?_⟩
                refine a_if_eq (tgt := 150) (pc := 143) dX9_readLine_143 (by decide) (fun _ => ?_) (fun hc => absurd (by decide) hc)
                refine a_iconst (pc := 150) dX9_readLine_150 (by decide) ?_
                refine a_istore (ls1 := [(2, 275), (9, 0), (0, l2), (0, l3), (0, l4), (0, 0), (0, r5)]) (pc := 151) dX9_readLine_151 (by decide) (hp1 (t := 0) rfl (by decide)) rfl ?_
                refine a_goto (tgt := 52) (pc := 153) dX9_readLine_153 (by decide) ?_
                exact a_msk [true, true, true, true, true, true, false] rfl h
              · replace h := h.2 hc
                refine a_aload_n (pc := 7) dX9_goesOn_7 (by decide) rfl ?_
                refine p_inlV (Ex := _) (As := []) (st := []) (st1 := fun r => [(0, r)])  (pc := 8) dX9_goesOn_8 ml_RX9_183 (by decide) s0_275 rfl (by decide) (Nat.le_of_ble_eq_true rfl) rfl (fun _ => rfl) (by decide) (by decide) (Nat.le_of_ble_eq_true rfl) rfl ?_
                refine a_aload_n (pc := 0) dX9_here_0 (by decide) rfl ?_
                refine a_getI (y := 27) (pc := 1) dX9_here_1 fl_RX9_176 (by decide) s0_275 (Or.inl rfl) rfl ?_
                refine a_aload_n (pc := 4) dX9_here_4 (by decide) rfl ?_
                refine a_getI (y := 26) (pc := 5) dX9_here_5 fl_RX9_173 (by decide) s0_275 (Or.inl rfl) rfl ?_
                refine a_icmp_ge (tgt := 23) (pc := 8) dX9_here_8 (by decide) (fun hc => ?_) (fun hc => ?_)
                · replace h := h.1 hc
                  refine a_iconst (pc := 23) dX9_here_23 (by decide) ?_
                  refine a_ireti (pc := 24) dX9_here_24 rfl rfl (Nat.le_of_ble_eq_true rfl) ⟨rfl, ?_⟩
                  refine a_iload_n (pc := 11) dX9_goesOn_11 rfl ?_
                  refine a_icmp_ne (tgt := 19) (pc := 12) dX9_goesOn_12 (by decide) (fun _ => ?_) (fun hc => absurd hc (by decide))
                  refine a_iconst (pc := 19) dX9_goesOn_19 (by decide) ?_
                  refine a_istore_n (ls1 := [(2, 275), (0, 62), (0, 0)]) (pc := 20) dX9_goesOn_20 (by decide) (hp1 (t := 0) rfl (by decide)) rfl ?_
                  refine a_aload_n (pc := 21) dX9_goesOn_21 (by decide) rfl ?_
                  refine a_dup (pc := 22) dX9_goesOn_22 n21 ?_
                  refine a_getI (y := 27) (pc := 23) dX9_goesOn_23 fl_RX9_176 (by decide) s0_275 (Or.inl rfl) rfl ?_
                  refine a_iload_n (pc := 26) dX9_goesOn_26 rfl ?_
                  refine a_if_eq (tgt := 34) (pc := 27) dX9_goesOn_27 (by decide) (fun _ => ?_) (fun hc => absurd (by decide) hc)
                  refine a_iconst (pc := 34) dX9_goesOn_34 (by decide) ?_
                  have ho44 := h.1
                  replace h := h.2
                  refine a_iadd (pc := 35) dX9_goesOn_35 ho44 ?_
                  refine a_putI (y := 27) (pc := 36) dX9_goesOn_36 fl_RX9_176 (by decide) s0_275 rfl rfl (tyX9_ok 27 (by decide)) rfl ?_
                  refine a_iload_n (pc := 39) dX9_goesOn_39 rfl ?_
                  refine a_iretz (pc := 40) dX9_goesOn_40 rfl rfl (Nat.le_of_ble_eq_true rfl) (by decide) ⟨rfl, ?_⟩
                  refine a_if_eq (tgt := 150) (pc := 143) dX9_readLine_143 (by decide) (fun _ => ?_) (fun hc => absurd (by decide) hc)
                  refine a_iconst (pc := 150) dX9_readLine_150 (by decide) ?_
                  refine a_istore (ls1 := [(2, 275), (9, 0), (0, l2), (0, l3), (0, l4), (0, 0), (0, r5)]) (pc := 151) dX9_readLine_151 (by decide) (hp1 (t := 0) rfl (by decide)) rfl ?_
                  refine a_goto (tgt := 52) (pc := 153) dX9_readLine_153 (by decide) ?_
                  exact a_msk [true, true, true, true, true, true, false] rfl h
                · replace h := h.2 hc
                  refine a_aload_n (pc := 11) dX9_here_11 (by decide) rfl ?_
                  refine a_getR (y := 292) (pc := 12) dX9_here_12 fl_RX9_65 (by decide) s0_275 rfl rfl ?_
                  refine a_aload_n (pc := 15) dX9_here_15 (by decide) rfl ?_
                  refine a_getI (y := 27) (pc := 16) dX9_here_16 fl_RX9_176 (by decide) s0_275 (Or.inl rfl) rfl ?_
                  have ho45 := h.1
                  replace h := h.2
                  refine a_iald (pc := 19) dX9_here_19 (by decide) s0_292 ho45.1 ho45.2 ?_
                  refine a_goto (tgt := 24) (pc := 20) dX9_here_20 (by decide) ?_
                  refine a_ireti (pc := 24) dX9_here_24 rfl rfl (Nat.le_of_ble_eq_true rfl) ⟨rfl, ?_⟩
                  refine a_iload_n (pc := 11) dX9_goesOn_11 rfl ?_
                  refine a_icmp_ne (tgt := 19) (pc := 12) dX9_goesOn_12 (by decide) (fun hc => ?_) (fun hc => ?_)
                  · replace h := h.1 hc
                    refine a_iconst (pc := 19) dX9_goesOn_19 (by decide) ?_
                    refine a_istore_n (ls1 := [(2, 275), (0, 62), (0, 0)]) (pc := 20) dX9_goesOn_20 (by decide) (hp1 (t := 0) rfl (by decide)) rfl ?_
                    refine a_aload_n (pc := 21) dX9_goesOn_21 (by decide) rfl ?_
                    refine a_dup (pc := 22) dX9_goesOn_22 n21 ?_
                    refine a_getI (y := 27) (pc := 23) dX9_goesOn_23 fl_RX9_176 (by decide) s0_275 (Or.inl rfl) rfl ?_
                    refine a_iload_n (pc := 26) dX9_goesOn_26 rfl ?_
                    refine a_if_eq (tgt := 34) (pc := 27) dX9_goesOn_27 (by decide) (fun _ => ?_) (fun hc => absurd (by decide) hc)
                    refine a_iconst (pc := 34) dX9_goesOn_34 (by decide) ?_
                    have ho46 := h.1
                    replace h := h.2
                    refine a_iadd (pc := 35) dX9_goesOn_35 ho46 ?_
                    refine a_putI (y := 27) (pc := 36) dX9_goesOn_36 fl_RX9_176 (by decide) s0_275 rfl rfl (tyX9_ok 27 (by decide)) rfl ?_
                    refine a_iload_n (pc := 39) dX9_goesOn_39 rfl ?_
                    refine a_iretz (pc := 40) dX9_goesOn_40 rfl rfl (Nat.le_of_ble_eq_true rfl) (by decide) ⟨rfl, ?_⟩
                    refine a_if_eq (tgt := 150) (pc := 143) dX9_readLine_143 (by decide) (fun _ => ?_) (fun hc => absurd (by decide) hc)
                    refine a_iconst (pc := 150) dX9_readLine_150 (by decide) ?_
                    refine a_istore (ls1 := [(2, 275), (9, 0), (0, l2), (0, l3), (0, l4), (0, 0), (0, r5)]) (pc := 151) dX9_readLine_151 (by decide) (hp1 (t := 0) rfl (by decide)) rfl ?_
                    refine a_goto (tgt := 52) (pc := 153) dX9_readLine_153 (by decide) ?_
                    exact a_msk [true, true, true, true, true, true, false] rfl h
                  · replace h := h.2 hc
                    refine a_iconst (pc := 15) dX9_goesOn_15 (by decide) ?_
                    refine a_goto (tgt := 20) (pc := 16) dX9_goesOn_16 (by decide) ?_
                    refine a_istore_n (ls1 := [(2, 275), (0, 62), (0, 1)]) (pc := 20) dX9_goesOn_20 (by decide) (hp1 (t := 0) rfl (by decide)) rfl ?_
                    refine a_aload_n (pc := 21) dX9_goesOn_21 (by decide) rfl ?_
                    refine a_dup (pc := 22) dX9_goesOn_22 n21 ?_
                    refine a_getI (y := 27) (pc := 23) dX9_goesOn_23 fl_RX9_176 (by decide) s0_275 (Or.inl rfl) rfl ?_
                    refine a_iload_n (pc := 26) dX9_goesOn_26 rfl ?_
                    refine a_if_eq (tgt := 34) (pc := 27) dX9_goesOn_27 (by decide) (fun hc => absurd hc (by decide)) (fun _ => ?_)
                    refine a_iconst (pc := 30) dX9_goesOn_30 (by decide) ?_
                    refine a_goto (tgt := 35) (pc := 31) dX9_goesOn_31 (by decide) ?_
                    have ho47 := h.1
                    replace h := h.2
                    refine a_iadd (pc := 35) dX9_goesOn_35 ho47 ?_
                    refine a_putI (y := 27) (pc := 36) dX9_goesOn_36 fl_RX9_176 (by decide) s0_275 rfl rfl (tyX9_ok 27 (by decide)) rfl ?_
                    refine a_iload_n (pc := 39) dX9_goesOn_39 rfl ?_
                    refine a_iretz (pc := 40) dX9_goesOn_40 rfl rfl (Nat.le_of_ble_eq_true rfl) (by decide) ⟨rfl, ?_⟩
                    refine a_if_eq (tgt := 150) (pc := 143) dX9_readLine_143 (by decide) (fun hc => absurd hc (by decide)) (fun _ => ?_)
                    refine a_iconst (pc := 146) dX9_readLine_146 (by decide) ?_
                    refine a_goto (tgt := 151) (pc := 147) dX9_readLine_147 (by decide) ?_
                    refine a_istore (ls1 := [(2, 275), (9, 0), (0, l2), (0, l3), (0, l4), (0, 1), (0, r5)]) (pc := 151) dX9_readLine_151 (by decide) (hp1 (t := 0) rfl (by decide)) rfl ?_
                    refine a_goto (tgt := 52) (pc := 153) dX9_readLine_153 (by decide) ?_
                    exact a_msk [true, true, true, true, true, true, false] rfl h
        · replace h := h.2 hc
          refine a_iload_n (pc := 96) dX9_readLine_96 rfl ?_
          refine a_iconst (pc := 97) dX9_readLine_97 (by decide) ?_
          refine a_iload (pc := 98) dX9_readLine_98 rfl ?_
          have ho48 := h.1
          replace h := h.2
          refine a_ishl (z := 2 ^ (r5).toNat) (pc := 100) dX9_readLine_100 rfl ho48.1 ho48.2 rfl ?_
          have ho49 := h.1
          replace h := h.2
          have ho50 := h.1
          replace h := h.2
          refine a_ior (z := (((l3 : Int).toNat ||| (2 ^ (r5).toNat : Int).toNat : Nat) : Int)) (pc := 101) dX9_readLine_101 ho49 ho50 rfl ?_
          refine a_istore_n (ls1 := [(2, 275), (9, 0), (0, l2), (0, (((l3 : Int).toNat ||| (2 ^ (r5).toNat : Int).toNat : Nat) : Int)), (0, l4), (0, l5), (0, r5)]) (pc := 102) dX9_readLine_102 (by decide) (hp1 (t := 0) rfl (by decide)) rfl ?_
          refine a_aload_n (pc := 103) dX9_readLine_103 (by decide) rfl ?_
          refine a_getR (y := 278) (pc := 104) dX9_readLine_104 fl_RX9_16 (by decide) s0_275 rfl rfl ?_
          refine a_bipush (pc := 107) dX9_readLine_107 (by decide) (by decide +kernel) ?_
          refine a_aload_n (pc := 109) dX9_readLine_109 (by decide) rfl ?_
          refine a_getI (y := 0) (pc := 110) dX9_readLine_110 fl_RX9_98 (by decide) s0_275 (Or.inl rfl) rfl ?_
          have ho51 := h.1
          replace h := h.2
          refine a_imul (pc := 113) dX9_readLine_113 ho51 ?_
          refine a_iload (pc := 114) dX9_readLine_114 rfl ?_
          have ho52 := h.1
          replace h := h.2
          refine a_iadd (pc := 116) dX9_readLine_116 ho52 ?_
          refine a_iload (pc := 117) dX9_readLine_117 rfl ?_
          have ho53 := h.1
          replace h := h.2
          refine a_iast (pc := 119) dX9_readLine_119 (by decide) s0_278 ho53.1 ho53.2 ?_
          have ho54 := h.1
          replace h := h.2
          refine a_iinc (ls1 := [(2, 275), (9, 0), (0, l2), (0, (((l3 : Int).toNat ||| (2 ^ (r5).toNat : Int).toNat : Nat) : Int)), (0, l4 + 1), (0, l5), (0, r5)]) (pc := 120) dX9_readLine_120 rfl (by decide) (hp1 (t := 0) rfl (by decide)) ho54 rfl ?_
          refine a_aload_n (pc := 123) dX9_readLine_123 (by decide) rfl ?_
          refine a_getI (y := 28) (pc := 124) dX9_readLine_124 fl_RX9_179 (by decide) s0_275 (Or.inr rfl) rfl ?_
          refine a_eq (y := M6 275 28) rfl ?_
          refine a_if_ne (tgt := 150) (pc := 127) dX9_readLine_127 (by decide) (fun hc => ?_) (fun hc => ?_)
          · replace h := h.1 hc
            refine a_iconst (pc := 150) dX9_readLine_150 (by decide) ?_
            refine a_istore (ls1 := [(2, 275), (9, 0), (0, l2), (0, (((l3 : Int).toNat ||| (2 ^ (r5).toNat : Int).toNat : Nat) : Int)), (0, l4 + 1), (0, 0), (0, r5)]) (pc := 151) dX9_readLine_151 (by decide) (hp1 (t := 0) rfl (by decide)) rfl ?_
            refine a_goto (tgt := 52) (pc := 153) dX9_readLine_153 (by decide) ?_
            exact a_msk [true, true, true, true, true, true, false] rfl h
          · replace h := h.2 hc
            refine a_iload (pc := 130) dX9_readLine_130 rfl ?_
            refine a_bipush (pc := 132) dX9_readLine_132 (by decide) (by decide +kernel) ?_
            refine a_icmp_ge (tgt := 150) (pc := 134) dX9_readLine_134 (by decide) (fun hc => ?_) (fun hc => ?_)
            · replace h := h.1 hc
              refine a_iconst (pc := 150) dX9_readLine_150 (by decide) ?_
              refine a_istore (ls1 := [(2, 275), (9, 0), (0, l2), (0, (((l3 : Int).toNat ||| (2 ^ (r5).toNat : Int).toNat : Nat) : Int)), (0, l4 + 1), (0, 0), (0, r5)]) (pc := 151) dX9_readLine_151 (by decide) (hp1 (t := 0) rfl (by decide)) rfl ?_
              refine a_goto (tgt := 52) (pc := 153) dX9_readLine_153 (by decide) ?_
              exact a_msk [true, true, true, true, true, true, false] rfl h
            · replace h := h.2 hc
              refine a_aload_n (pc := 137) dX9_readLine_137 (by decide) rfl ?_
              refine a_bipush (pc := 138) dX9_readLine_138 (by decide) (by decide +kernel) ?_
              refine p_inlV (Ex := _) (As := [(0, 62)]) (st := []) (st1 := fun r => [(0, r)])  (pc := 140) dX9_readLine_140 ml_RX9_187 (by decide) s0_275 rfl (by decide) (Nat.le_of_ble_eq_true rfl) rfl (fun _ => rfl) (by decide) (by decide) (Nat.le_of_ble_eq_true rfl) rfl ?_
              refine a_aload_n (pc := 0) dX9_goesOn_0 (by decide) rfl ?_
              refine a_getI (y := 28) (pc := 1) dX9_goesOn_1 fl_RX9_179 (by decide) s0_275 (Or.inr rfl) rfl ?_
              refine a_eq (y := M6 275 28) rfl ?_
              refine a_if_ne (tgt := 19) (pc := 4) dX9_goesOn_4 (by decide) (fun hc => ?_) (fun hc => ?_)
              · replace h := h.1 hc
                refine a_iconst (pc := 19) dX9_goesOn_19 (by decide) ?_
                refine a_istore_n (ls1 := [(2, 275), (0, 62), (0, 0)]) (pc := 20) dX9_goesOn_20 (by decide) (hp1 (t := 0) rfl (by decide)) rfl ?_
                refine a_aload_n (pc := 21) dX9_goesOn_21 (by decide) rfl ?_
                refine a_dup (pc := 22) dX9_goesOn_22 n21 ?_
                refine a_getI (y := 27) (pc := 23) dX9_goesOn_23 fl_RX9_176 (by decide) s0_275 (Or.inl rfl) rfl ?_
                refine a_eq (y := M6 275 27) rfl ?_
                refine a_iload_n (pc := 26) dX9_goesOn_26 rfl ?_
                refine a_if_eq (tgt := 34) (pc := 27) dX9_goesOn_27 (by decide) (fun _ => ?_) (fun hc => absurd (by decide) hc)
                refine a_iconst (pc := 34) dX9_goesOn_34 (by decide) ?_
                have ho55 := h.1
                replace h := h.2
                refine a_iadd (pc := 35) dX9_goesOn_35 ho55 ?_
                refine a_putI (y := 27) (pc := 36) dX9_goesOn_36 fl_RX9_176 (by decide) s0_275 rfl rfl (tyX9_ok 27 (by decide)) rfl ?_
                refine a_iload_n (pc := 39) dX9_goesOn_39 rfl ?_
                refine a_iretz (pc := 40) dX9_goesOn_40 rfl rfl (Nat.le_of_ble_eq_true rfl) (by decide) ⟨rfl, ?_⟩
                refine a_if_eq (tgt := 150) (pc := 143) dX9_readLine_143 (by decide) (fun _ => ?_) (fun hc => absurd (by decide) hc)
                refine a_iconst (pc := 150) dX9_readLine_150 (by decide) ?_
                refine a_istore (ls1 := [(2, 275), (9, 0), (0, l2), (0, (((l3 : Int).toNat ||| (2 ^ (r5).toNat : Int).toNat : Nat) : Int)), (0, l4 + 1), (0, 0), (0, r5)]) (pc := 151) dX9_readLine_151 (by decide) (hp1 (t := 0) rfl (by decide)) rfl ?_
                refine a_goto (tgt := 52) (pc := 153) dX9_readLine_153 (by decide) ?_
                exact a_msk [true, true, true, true, true, true, false] rfl h
              · replace h := h.2 hc
                refine a_aload_n (pc := 7) dX9_goesOn_7 (by decide) rfl ?_
                refine p_inlV (Ex := _) (As := []) (st := []) (st1 := fun r => [(0, r)])  (pc := 8) dX9_goesOn_8 ml_RX9_183 (by decide) s0_275 rfl (by decide) (Nat.le_of_ble_eq_true rfl) rfl (fun _ => rfl) (by decide) (by decide) (Nat.le_of_ble_eq_true rfl) rfl ?_
                refine a_aload_n (pc := 0) dX9_here_0 (by decide) rfl ?_
                refine a_getI (y := 27) (pc := 1) dX9_here_1 fl_RX9_176 (by decide) s0_275 (Or.inl rfl) rfl ?_
                refine a_eq (y := M6 275 27) rfl ?_
                refine a_aload_n (pc := 4) dX9_here_4 (by decide) rfl ?_
                refine a_getI (y := 26) (pc := 5) dX9_here_5 fl_RX9_173 (by decide) s0_275 (Or.inl rfl) rfl ?_
                refine a_eq (y := M6 275 26) rfl ?_
                refine a_icmp_ge (tgt := 23) (pc := 8) dX9_here_8 (by decide) (fun hc => ?_) (fun hc => ?_)
                · replace h := h.1 hc
                  refine a_iconst (pc := 23) dX9_here_23 (by decide) ?_
                  refine a_ireti (pc := 24) dX9_here_24 rfl rfl (Nat.le_of_ble_eq_true rfl) ⟨rfl, ?_⟩
                  refine a_iload_n (pc := 11) dX9_goesOn_11 rfl ?_
                  refine a_icmp_ne (tgt := 19) (pc := 12) dX9_goesOn_12 (by decide) (fun _ => ?_) (fun hc => absurd hc (by decide))
                  refine a_iconst (pc := 19) dX9_goesOn_19 (by decide) ?_
                  refine a_istore_n (ls1 := [(2, 275), (0, 62), (0, 0)]) (pc := 20) dX9_goesOn_20 (by decide) (hp1 (t := 0) rfl (by decide)) rfl ?_
                  refine a_aload_n (pc := 21) dX9_goesOn_21 (by decide) rfl ?_
                  refine a_dup (pc := 22) dX9_goesOn_22 n21 ?_
                  refine a_getI (y := 27) (pc := 23) dX9_goesOn_23 fl_RX9_176 (by decide) s0_275 (Or.inl rfl) rfl ?_
                  refine a_eq (y := M6 275 27) rfl ?_
                  refine a_iload_n (pc := 26) dX9_goesOn_26 rfl ?_
                  refine a_if_eq (tgt := 34) (pc := 27) dX9_goesOn_27 (by decide) (fun _ => ?_) (fun hc => absurd (by decide) hc)
                  refine a_iconst (pc := 34) dX9_goesOn_34 (by decide) ?_
                  have ho56 := h.1
                  replace h := h.2
                  refine a_iadd (pc := 35) dX9_goesOn_35 ho56 ?_
                  refine a_putI (y := 27) (pc := 36) dX9_goesOn_36 fl_RX9_176 (by decide) s0_275 rfl rfl (tyX9_ok 27 (by decide)) rfl ?_
                  refine a_iload_n (pc := 39) dX9_goesOn_39 rfl ?_
                  refine a_iretz (pc := 40) dX9_goesOn_40 rfl rfl (Nat.le_of_ble_eq_true rfl) (by decide) ⟨rfl, ?_⟩
                  refine a_if_eq (tgt := 150) (pc := 143) dX9_readLine_143 (by decide) (fun _ => ?_) (fun hc => absurd (by decide) hc)
                  refine a_iconst (pc := 150) dX9_readLine_150 (by decide) ?_
                  refine a_istore (ls1 := [(2, 275), (9, 0), (0, l2), (0, (((l3 : Int).toNat ||| (2 ^ (r5).toNat : Int).toNat : Nat) : Int)), (0, l4 + 1), (0, 0), (0, r5)]) (pc := 151) dX9_readLine_151 (by decide) (hp1 (t := 0) rfl (by decide)) rfl ?_
                  refine a_goto (tgt := 52) (pc := 153) dX9_readLine_153 (by decide) ?_
                  exact a_msk [true, true, true, true, true, true, false] rfl h
                · replace h := h.2 hc
                  refine a_aload_n (pc := 11) dX9_here_11 (by decide) rfl ?_
                  refine a_getR (y := 292) (pc := 12) dX9_here_12 fl_RX9_65 (by decide) s0_275 rfl rfl ?_
                  refine a_aload_n (pc := 15) dX9_here_15 (by decide) rfl ?_
                  refine a_getI (y := 27) (pc := 16) dX9_here_16 fl_RX9_176 (by decide) s0_275 (Or.inl rfl) rfl ?_
                  refine a_eq (y := M6 275 27) rfl ?_
                  have ho57 := h.1
                  replace h := h.2
                  refine a_iald (pc := 19) dX9_here_19 (by decide) s0_292 ho57.1 ho57.2 ?_
                  refine a_eq (y := M6 292 (M6 275 27)) rfl ?_
                  refine a_goto (tgt := 24) (pc := 20) dX9_here_20 (by decide) ?_
                  refine a_ireti (pc := 24) dX9_here_24 rfl rfl (Nat.le_of_ble_eq_true rfl) ⟨rfl, ?_⟩
                  refine a_iload_n (pc := 11) dX9_goesOn_11 rfl ?_
                  refine a_icmp_ne (tgt := 19) (pc := 12) dX9_goesOn_12 (by decide) (fun hc => ?_) (fun hc => ?_)
                  · replace h := h.1 hc
                    refine a_iconst (pc := 19) dX9_goesOn_19 (by decide) ?_
                    refine a_istore_n (ls1 := [(2, 275), (0, 62), (0, 0)]) (pc := 20) dX9_goesOn_20 (by decide) (hp1 (t := 0) rfl (by decide)) rfl ?_
                    refine a_aload_n (pc := 21) dX9_goesOn_21 (by decide) rfl ?_
                    refine a_dup (pc := 22) dX9_goesOn_22 n21 ?_
                    refine a_getI (y := 27) (pc := 23) dX9_goesOn_23 fl_RX9_176 (by decide) s0_275 (Or.inl rfl) rfl ?_
                    refine a_eq (y := M6 275 27) rfl ?_
                    refine a_iload_n (pc := 26) dX9_goesOn_26 rfl ?_
                    refine a_if_eq (tgt := 34) (pc := 27) dX9_goesOn_27 (by decide) (fun _ => ?_) (fun hc => absurd (by decide) hc)
                    refine a_iconst (pc := 34) dX9_goesOn_34 (by decide) ?_
                    have ho58 := h.1
                    replace h := h.2
                    refine a_iadd (pc := 35) dX9_goesOn_35 ho58 ?_
                    refine a_putI (y := 27) (pc := 36) dX9_goesOn_36 fl_RX9_176 (by decide) s0_275 rfl rfl (tyX9_ok 27 (by decide)) rfl ?_
                    refine a_iload_n (pc := 39) dX9_goesOn_39 rfl ?_
                    refine a_iretz (pc := 40) dX9_goesOn_40 rfl rfl (Nat.le_of_ble_eq_true rfl) (by decide) ⟨rfl, ?_⟩
                    refine a_if_eq (tgt := 150) (pc := 143) dX9_readLine_143 (by decide) (fun _ => ?_) (fun hc => absurd (by decide) hc)
                    refine a_iconst (pc := 150) dX9_readLine_150 (by decide) ?_
                    refine a_istore (ls1 := [(2, 275), (9, 0), (0, l2), (0, (((l3 : Int).toNat ||| (2 ^ (r5).toNat : Int).toNat : Nat) : Int)), (0, l4 + 1), (0, 0), (0, r5)]) (pc := 151) dX9_readLine_151 (by decide) (hp1 (t := 0) rfl (by decide)) rfl ?_
                    refine a_goto (tgt := 52) (pc := 153) dX9_readLine_153 (by decide) ?_
                    exact a_msk [true, true, true, true, true, true, false] rfl h
                  · replace h := h.2 hc
                    refine a_iconst (pc := 15) dX9_goesOn_15 (by decide) ?_
                    refine a_goto (tgt := 20) (pc := 16) dX9_goesOn_16 (by decide) ?_
                    refine a_istore_n (ls1 := [(2, 275), (0, 62), (0, 1)]) (pc := 20) dX9_goesOn_20 (by decide) (hp1 (t := 0) rfl (by decide)) rfl ?_
                    refine a_aload_n (pc := 21) dX9_goesOn_21 (by decide) rfl ?_
                    refine a_dup (pc := 22) dX9_goesOn_22 n21 ?_
                    refine a_getI (y := 27) (pc := 23) dX9_goesOn_23 fl_RX9_176 (by decide) s0_275 (Or.inl rfl) rfl ?_
                    refine a_eq (y := M6 275 27) rfl ?_
                    refine a_iload_n (pc := 26) dX9_goesOn_26 rfl ?_
                    refine a_if_eq (tgt := 34) (pc := 27) dX9_goesOn_27 (by decide) (fun hc => absurd hc (by decide)) (fun _ => ?_)
                    refine a_iconst (pc := 30) dX9_goesOn_30 (by decide) ?_
                    refine a_goto (tgt := 35) (pc := 31) dX9_goesOn_31 (by decide) ?_
                    have ho59 := h.1
                    replace h := h.2
                    refine a_iadd (pc := 35) dX9_goesOn_35 ho59 ?_
                    refine a_putI (y := 27) (pc := 36) dX9_goesOn_36 fl_RX9_176 (by decide) s0_275 rfl rfl (tyX9_ok 27 (by decide)) rfl ?_
                    refine a_iload_n (pc := 39) dX9_goesOn_39 rfl ?_
                    refine a_iretz (pc := 40) dX9_goesOn_40 rfl rfl (Nat.le_of_ble_eq_true rfl) (by decide) ⟨rfl, ?_⟩
                    refine a_if_eq (tgt := 150) (pc := 143) dX9_readLine_143 (by decide) (fun hc => absurd hc (by decide)) (fun _ => ?_)
                    refine a_iconst (pc := 146) dX9_readLine_146 (by decide) ?_
                    refine a_goto (tgt := 151) (pc := 147) dX9_readLine_147 (by decide) ?_
                    refine a_istore (ls1 := [(2, 275), (9, 0), (0, l2), (0, (((l3 : Int).toNat ||| (2 ^ (r5).toNat : Int).toNat : Nat) : Int)), (0, l4 + 1), (0, 1), (0, r5)]) (pc := 151) dX9_readLine_151 (by decide) (hp1 (t := 0) rfl (by decide)) rfl ?_
                    refine a_goto (tgt := 52) (pc := 153) dX9_readLine_153 (by decide) ?_
                    exact a_msk [true, true, true, true, true, true, false] rfl h
theorem E_R_readLine {l1 : Int} {M : Mem} {Q : Int → Mem → Prop} (h : AW mX9_readLine 0 [(2, 275), (0, l1), (9, 0), (9, 0), (9, 0), (9, 0), (9, 0)] M Q) : Calls mX9_readLine [(2, 275), (0, l1)] S0 M Q := calls_of (by decide) (by decide) (Nat.le_of_ble_eq_true rfl) rfl h
