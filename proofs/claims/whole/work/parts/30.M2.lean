set_option maxRecDepth 100000 in
set_option maxHeartbeats 4000000 in
theorem B_R_readFoot_0 {M : Mem} {Q : Int → Mem → Prop} (h : Calls mX9_readWithin [(2, 275), (0, 2), (0, 0), (0, 11)] S0 M (fun r1 M2 => Calls mX9_wants [(2, 275), (0, 45)] S0 M2 (fun r3 M4 => Calls mX9_readWithin [(2, 275), (0, 2), (0, 0), (0, 11)] S0 M4 (fun r5 M6 => ((r1 = r5 → ((¬ (M6 275 28) = 0 → Calls mX9_wants [(2, 275), (0, 61)] S0 M6 (fun r9 M10 => Calls mX9_readWithin [(2, 275), (0, 2), (0, 1), (0, 60)] S0 M10 (fun r11 M12 => ((¬ (M12 275 28) = 0 → Q 0 M12) ∧ ((M12 275 28) = 0 → (-2147483648 ≤ 12 * r1 ∧ 12 * r1 ≤ 2147483647) ∧ (-2147483648 ≤ (12 * r1) + r5 ∧ (12 * r1) + r5 ≤ 2147483647) ∧ ((0 : Int) ≤ (12 * r1) + r5 ∧ (12 * r1) + r5 < 144) ∧ (-2147483648 ≤ 12 * r5 ∧ 12 * r5 ≤ 2147483647) ∧ (-2147483648 ≤ (12 * r5) + r1 ∧ (12 * r5) + r1 ≤ 2147483647) ∧ ((0 : Int) ≤ (12 * r5) + r1 ∧ (12 * r5) + r1 < 144) ∧ Q 0 (up2 (up2 M12 282 ((12 * r1) + r5) r11) 282 ((12 * r5) + r1) r11)))))) ∧ ((M6 275 28) = 0 → Calls mX9_wants [(2, 275), (0, 61)] S0 (up2 (up2 M6 275 28 1) 275 27 (M6 275 29)) (fun r20 M21 => Calls mX9_readWithin [(2, 275), (0, 2), (0, 1), (0, 60)] S0 M21 (fun r22 M23 => ((¬ (M23 275 28) = 0 → Q 0 M23) ∧ ((M23 275 28) = 0 → (-2147483648 ≤ 12 * r1 ∧ 12 * r1 ≤ 2147483647) ∧ (-2147483648 ≤ (12 * r1) + r5 ∧ (12 * r1) + r5 ≤ 2147483647) ∧ ((0 : Int) ≤ (12 * r1) + r5 ∧ (12 * r1) + r5 < 144) ∧ (-2147483648 ≤ 12 * r5 ∧ 12 * r5 ≤ 2147483647) ∧ (-2147483648 ≤ (12 * r5) + r1 ∧ (12 * r5) + r1 ≤ 2147483647) ∧ ((0 : Int) ≤ (12 * r5) + r1 ∧ (12 * r5) + r1 < 144) ∧ Q 0 (up2 (up2 M23 282 ((12 * r1) + r5) r22) 282 ((12 * r5) + r1) r22)))))))) ∧ (¬ r1 = r5 → ((¬ (M6 275 28) = 0 → Calls mX9_wants [(2, 275), (0, 61)] S0 M6 (fun r32 M33 => Calls mX9_readWithin [(2, 275), (0, 2), (0, 1), (0, 60)] S0 M33 (fun r34 M35 => ((¬ (M35 275 28) = 0 → Q 0 M35) ∧ ((M35 275 28) = 0 → (-2147483648 ≤ 12 * r1 ∧ 12 * r1 ≤ 2147483647) ∧ (-2147483648 ≤ (12 * r1) + r5 ∧ (12 * r1) + r5 ≤ 2147483647) ∧ ((0 : Int) ≤ (12 * r1) + r5 ∧ (12 * r1) + r5 < 144) ∧ (-2147483648 ≤ 12 * r5 ∧ 12 * r5 ≤ 2147483647) ∧ (-2147483648 ≤ (12 * r5) + r1 ∧ (12 * r5) + r1 ≤ 2147483647) ∧ ((0 : Int) ≤ (12 * r5) + r1 ∧ (12 * r5) + r1 < 144) ∧ Q 0 (up2 (up2 M35 282 ((12 * r1) + r5) r34) 282 ((12 * r5) + r1) r34)))))) ∧ ((M6 275 28) = 0 → Calls mX9_wants [(2, 275), (0, 61)] S0 M6 (fun r43 M44 => Calls mX9_readWithin [(2, 275), (0, 2), (0, 1), (0, 60)] S0 M44 (fun r45 M46 => ((¬ (M46 275 28) = 0 → Q 0 M46) ∧ ((M46 275 28) = 0 → (-2147483648 ≤ 12 * r1 ∧ 12 * r1 ≤ 2147483647) ∧ (-2147483648 ≤ (12 * r1) + r5 ∧ (12 * r1) + r5 ≤ 2147483647) ∧ ((0 : Int) ≤ (12 * r1) + r5 ∧ (12 * r1) + r5 < 144) ∧ (-2147483648 ≤ 12 * r5 ∧ 12 * r5 ≤ 2147483647) ∧ (-2147483648 ≤ (12 * r5) + r1 ∧ (12 * r5) + r1 ≤ 2147483647) ∧ ((0 : Int) ≤ (12 * r5) + r1 ∧ (12 * r5) + r1 < 144) ∧ Q 0 (up2 (up2 M46 282 ((12 * r1) + r5) r45) 282 ((12 * r5) + r1) r45))))))))))))) : AW mX9_readFoot 0 [(2, 275), (9, 0), (9, 0), (9, 0)] M Q := by
  refine a_aload_n (pc := 0) dX9_readFoot_0 (by decide) rfl ?_
  refine a_iconst (pc := 1) dX9_readFoot_1 (by decide) ?_
  refine a_iconst (pc := 2) dX9_readFoot_2 (by decide) ?_
  refine a_bipush (pc := 3) dX9_readFoot_3 (by decide) (by decide +kernel) ?_
  refine p_callV (As := [(0, 2), (0, 0), (0, 11)]) (st := []) (st1 := fun r => [(0, r)])  (pc := 5) dX9_readFoot_5 ml_RX9_205 (by decide) s0_275 rfl (by decide) (Nat.le_of_ble_eq_true rfl) rfl (fun _ => rfl) h (fun r1 M2 h => ?_)
  refine a_istore_n (ls1 := [(2, 275), (0, r1), (9, 0), (9, 0)]) (pc := 8) dX9_readFoot_8 (by decide) (hp1 (t := 2) rfl (by decide)) rfl ?_
  refine a_aload_n (pc := 9) dX9_readFoot_9 (by decide) rfl ?_
  refine a_bipush (pc := 10) dX9_readFoot_10 (by decide) (by decide +kernel) ?_
  refine p_callV (As := [(0, 45)]) (st := []) (st1 := fun r => [])  (pc := 12) dX9_readFoot_12 ml_RX9_208 (by decide) s0_275 rfl (by decide) (Nat.le_of_ble_eq_true rfl) rfl (fun _ => rfl) h (fun r3 M4 h => ?_)
  refine a_aload_n (pc := 15) dX9_readFoot_15 (by decide) rfl ?_
  refine a_iconst (pc := 16) dX9_readFoot_16 (by decide) ?_
  refine a_iconst (pc := 17) dX9_readFoot_17 (by decide) ?_
  refine a_bipush (pc := 18) dX9_readFoot_18 (by decide) (by decide +kernel) ?_
  refine p_callV (As := [(0, 2), (0, 0), (0, 11)]) (st := []) (st1 := fun r => [(0, r)])  (pc := 20) dX9_readFoot_20 ml_RX9_205 (by decide) s0_275 rfl (by decide) (Nat.le_of_ble_eq_true rfl) rfl (fun _ => rfl) h (fun r5 M6 h => ?_)
  refine a_istore_n (ls1 := [(2, 275), (0, r1), (0, r5), (9, 0)]) (pc := 23) dX9_readFoot_23 (by decide) (hp1 (t := 0) rfl (by decide)) rfl ?_
  refine a_aload_n (pc := 24) dX9_readFoot_24 (by decide) rfl ?_
  refine a_iload_n (pc := 25) dX9_readFoot_25 rfl ?_
  refine a_iload_n (pc := 26) dX9_readFoot_26 rfl ?_
  refine a_icmp_eq (tgt := 34) (pc := 27) dX9_readFoot_27 (by decide) (fun hc7 => ?_) (fun hc7 => ?_)
  · replace h := h.1 hc7
    refine a_iconst (pc := 34) dX9_readFoot_34 (by decide) ?_
    refine a_aload_n (pc := 35) dX9_readFoot_35 (by decide) rfl ?_
    refine a_getI (y := 29) (pc := 36) dX9_readFoot_36 fl_RX9_194 (by decide) s0_275 (Or.inl rfl) rfl ?_
    refine p_inlV (Ex := _) (As := [(0, 0), (0, M6 275 29)]) (st := []) (st1 := fun r => [])  (pc := 39) dX9_readFoot_39 ml_RX9_201 (by decide) s0_275 rfl (by decide) (Nat.le_of_ble_eq_true rfl) rfl (fun _ => rfl) (by decide) (by decide) (Nat.le_of_ble_eq_true rfl) rfl ?_
    refine a_aload_n (pc := 0) dX9_mustBe_0 (by decide) rfl ?_
    refine a_getI (y := 28) (pc := 1) dX9_mustBe_1 fl_RX9_179 (by decide) s0_275 (Or.inr rfl) rfl ?_
    refine a_if_ne (tgt := 21) (pc := 4) dX9_mustBe_4 (by decide) (fun hc8 => ?_) (fun hc8 => ?_)
    · replace h := h.1 hc8
      refine a_vret (pc := 21) dX9_mustBe_21 rfl rfl (Nat.le_of_ble_eq_true rfl) ⟨rfl, ?_⟩
      refine a_aload_n (pc := 42) dX9_readFoot_42 (by decide) rfl ?_
      refine a_bipush (pc := 43) dX9_readFoot_43 (by decide) (by decide +kernel) ?_
      refine p_callV (As := [(0, 61)]) (st := []) (st1 := fun r => [])  (pc := 45) dX9_readFoot_45 ml_RX9_208 (by decide) s0_275 rfl (by decide) (Nat.le_of_ble_eq_true rfl) rfl (fun _ => rfl) h (fun r9 M10 h => ?_)
      refine a_aload_n (pc := 48) dX9_readFoot_48 (by decide) rfl ?_
      refine a_iconst (pc := 49) dX9_readFoot_49 (by decide) ?_
      refine a_iconst (pc := 50) dX9_readFoot_50 (by decide) ?_
      refine a_bipush (pc := 51) dX9_readFoot_51 (by decide) (by decide +kernel) ?_
      refine p_callV (As := [(0, 2), (0, 1), (0, 60)]) (st := []) (st1 := fun r => [(0, r)])  (pc := 53) dX9_readFoot_53 ml_RX9_205 (by decide) s0_275 rfl (by decide) (Nat.le_of_ble_eq_true rfl) rfl (fun _ => rfl) h (fun r11 M12 h => ?_)
      refine a_istore_n (ls1 := [(2, 275), (0, r1), (0, r5), (0, r11)]) (pc := 56) dX9_readFoot_56 (by decide) (hp1 (t := 0) rfl (by decide)) rfl ?_
      refine a_aload_n (pc := 57) dX9_readFoot_57 (by decide) rfl ?_
      refine a_getI (y := 28) (pc := 58) dX9_readFoot_58 fl_RX9_179 (by decide) s0_275 (Or.inr rfl) rfl ?_
      refine a_if_ne (tgt := 88) (pc := 61) dX9_readFoot_61 (by decide) (fun hc13 => ?_) (fun hc13 => ?_)
      · replace h := h.1 hc13
        exact a_vret (pc := 88) dX9_readFoot_88 rfl rfl (Nat.le_of_ble_eq_true rfl) ⟨rfl, h⟩
      · replace h := h.2 hc13
        refine a_aload_n (pc := 64) dX9_readFoot_64 (by decide) rfl ?_
        refine a_getR (y := 282) (pc := 65) dX9_readFoot_65 fl_RX9_28 (by decide) s0_275 rfl rfl ?_
        refine a_bipush (pc := 68) dX9_readFoot_68 (by decide) (by decide +kernel) ?_
        refine a_iload_n (pc := 70) dX9_readFoot_70 rfl ?_
        have ho14 := h.1
        replace h := h.2
        refine a_imul (pc := 71) dX9_readFoot_71 ho14 ?_
        refine a_iload_n (pc := 72) dX9_readFoot_72 rfl ?_
        have ho15 := h.1
        replace h := h.2
        refine a_iadd (pc := 73) dX9_readFoot_73 ho15 ?_
        refine a_iload_n (pc := 74) dX9_readFoot_74 rfl ?_
        have ho16 := h.1
        replace h := h.2
        refine a_iast (pc := 75) dX9_readFoot_75 (by decide) s0_282 ho16.1 ho16.2 ?_
        refine a_aload_n (pc := 76) dX9_readFoot_76 (by decide) rfl ?_
        refine a_getR (y := 282) (pc := 77) dX9_readFoot_77 fl_RX9_28 (by decide) s0_275 rfl rfl ?_
        refine a_bipush (pc := 80) dX9_readFoot_80 (by decide) (by decide +kernel) ?_
        refine a_iload_n (pc := 82) dX9_readFoot_82 rfl ?_
        have ho17 := h.1
        replace h := h.2
        refine a_imul (pc := 83) dX9_readFoot_83 ho17 ?_
        refine a_iload_n (pc := 84) dX9_readFoot_84 rfl ?_
        have ho18 := h.1
        replace h := h.2
        refine a_iadd (pc := 85) dX9_readFoot_85 ho18 ?_
        refine a_iload_n (pc := 86) dX9_readFoot_86 rfl ?_
        have ho19 := h.1
        replace h := h.2
        refine a_iast (pc := 87) dX9_readFoot_87 (by decide) s0_282 ho19.1 ho19.2 ?_
        exact a_vret (pc := 88) dX9_readFoot_88 rfl rfl (Nat.le_of_ble_eq_true rfl) ⟨rfl, h⟩
    · replace h := h.2 hc8
      refine a_iload_n (pc := 7) dX9_mustBe_7 rfl ?_
      refine a_if_ne (tgt := 21) (pc := 8) dX9_mustBe_8 (by decide) (fun hc => absurd rfl hc) (fun _ => ?_)
      refine a_aload_n (pc := 11) dX9_mustBe_11 (by decide) rfl ?_
      refine a_iconst (pc := 12) dX9_mustBe_12 (by decide) ?_
      refine a_putZ (y := 28) (pc := 13) dX9_mustBe_13 fl_RX9_179 (by decide) s0_275 rfl rfl (tyX9_ok 28 (by decide)) rfl (by decide) ?_
      refine a_aload_n (pc := 16) dX9_mustBe_16 (by decide) rfl ?_
      refine a_iload_n (pc := 17) dX9_mustBe_17 rfl ?_
      refine a_putI (y := 27) (pc := 18) dX9_mustBe_18 fl_RX9_176 (by decide) s0_275 rfl rfl (tyX9_ok 27 (by decide)) rfl ?_
      refine a_vret (pc := 21) dX9_mustBe_21 rfl rfl (Nat.le_of_ble_eq_true rfl) ⟨rfl, ?_⟩
      refine a_aload_n (pc := 42) dX9_readFoot_42 (by decide) rfl ?_
      refine a_bipush (pc := 43) dX9_readFoot_43 (by decide) (by decide +kernel) ?_
      refine p_callV (As := [(0, 61)]) (st := []) (st1 := fun r => [])  (pc := 45) dX9_readFoot_45 ml_RX9_208 (by decide) s0_275 rfl (by decide) (Nat.le_of_ble_eq_true rfl) rfl (fun _ => rfl) h (fun r20 M21 h => ?_)
      refine a_aload_n (pc := 48) dX9_readFoot_48 (by decide) rfl ?_
      refine a_iconst (pc := 49) dX9_readFoot_49 (by decide) ?_
      refine a_iconst (pc := 50) dX9_readFoot_50 (by decide) ?_
      refine a_bipush (pc := 51) dX9_readFoot_51 (by decide) (by decide +kernel) ?_
      refine p_callV (As := [(0, 2), (0, 1), (0, 60)]) (st := []) (st1 := fun r => [(0, r)])  (pc := 53) dX9_readFoot_53 ml_RX9_205 (by decide) s0_275 rfl (by decide) (Nat.le_of_ble_eq_true rfl) rfl (fun _ => rfl) h (fun r22 M23 h => ?_)
      refine a_istore_n (ls1 := [(2, 275), (0, r1), (0, r5), (0, r22)]) (pc := 56) dX9_readFoot_56 (by decide) (hp1 (t := 0) rfl (by decide)) rfl ?_
      refine a_aload_n (pc := 57) dX9_readFoot_57 (by decide) rfl ?_
      refine a_getI (y := 28) (pc := 58) dX9_readFoot_58 fl_RX9_179 (by decide) s0_275 (Or.inr rfl) rfl ?_
      refine a_if_ne (tgt := 88) (pc := 61) dX9_readFoot_61 (by decide) (fun hc24 => ?_) (fun hc24 => ?_)
      · replace h := h.1 hc24
        exact a_vret (pc := 88) dX9_readFoot_88 rfl rfl (Nat.le_of_ble_eq_true rfl) ⟨rfl, h⟩
      · replace h := h.2 hc24
        refine a_aload_n (pc := 64) dX9_readFoot_64 (by decide) rfl ?_
        refine a_getR (y := 282) (pc := 65) dX9_readFoot_65 fl_RX9_28 (by decide) s0_275 rfl rfl ?_
        refine a_bipush (pc := 68) dX9_readFoot_68 (by decide) (by decide +kernel) ?_
        refine a_iload_n (pc := 70) dX9_readFoot_70 rfl ?_
        have ho25 := h.1
        replace h := h.2
        refine a_imul (pc := 71) dX9_readFoot_71 ho25 ?_
        refine a_iload_n (pc := 72) dX9_readFoot_72 rfl ?_
        have ho26 := h.1
        replace h := h.2
        refine a_iadd (pc := 73) dX9_readFoot_73 ho26 ?_
        refine a_iload_n (pc := 74) dX9_readFoot_74 rfl ?_
        have ho27 := h.1
        replace h := h.2
        refine a_iast (pc := 75) dX9_readFoot_75 (by decide) s0_282 ho27.1 ho27.2 ?_
        refine a_aload_n (pc := 76) dX9_readFoot_76 (by decide) rfl ?_
        refine a_getR (y := 282) (pc := 77) dX9_readFoot_77 fl_RX9_28 (by decide) s0_275 rfl rfl ?_
        refine a_bipush (pc := 80) dX9_readFoot_80 (by decide) (by decide +kernel) ?_
        refine a_iload_n (pc := 82) dX9_readFoot_82 rfl ?_
        have ho28 := h.1
        replace h := h.2
        refine a_imul (pc := 83) dX9_readFoot_83 ho28 ?_
        refine a_iload_n (pc := 84) dX9_readFoot_84 rfl ?_
        have ho29 := h.1
        replace h := h.2
        refine a_iadd (pc := 85) dX9_readFoot_85 ho29 ?_
        refine a_iload_n (pc := 86) dX9_readFoot_86 rfl ?_
        have ho30 := h.1
        replace h := h.2
        refine a_iast (pc := 87) dX9_readFoot_87 (by decide) s0_282 ho30.1 ho30.2 ?_
        exact a_vret (pc := 88) dX9_readFoot_88 rfl rfl (Nat.le_of_ble_eq_true rfl) ⟨rfl, h⟩
  · replace h := h.2 hc7
    refine a_iconst (pc := 30) dX9_readFoot_30 (by decide) ?_
    refine a_goto (tgt := 35) (pc := 31) dX9_readFoot_31 (by decide) ?_
    refine a_aload_n (pc := 35) dX9_readFoot_35 (by decide) rfl ?_
    refine a_getI (y := 29) (pc := 36) dX9_readFoot_36 fl_RX9_194 (by decide) s0_275 (Or.inl rfl) rfl ?_
    refine p_inlV (Ex := _) (As := [(0, 1), (0, M6 275 29)]) (st := []) (st1 := fun r => [])  (pc := 39) dX9_readFoot_39 ml_RX9_201 (by decide) s0_275 rfl (by decide) (Nat.le_of_ble_eq_true rfl) rfl (fun _ => rfl) (by decide) (by decide) (Nat.le_of_ble_eq_true rfl) rfl ?_
    refine a_aload_n (pc := 0) dX9_mustBe_0 (by decide) rfl ?_
    refine a_getI (y := 28) (pc := 1) dX9_mustBe_1 fl_RX9_179 (by decide) s0_275 (Or.inr rfl) rfl ?_
    refine a_if_ne (tgt := 21) (pc := 4) dX9_mustBe_4 (by decide) (fun hc31 => ?_) (fun hc31 => ?_)
    · replace h := h.1 hc31
      refine a_vret (pc := 21) dX9_mustBe_21 rfl rfl (Nat.le_of_ble_eq_true rfl) ⟨rfl, ?_⟩
      refine a_aload_n (pc := 42) dX9_readFoot_42 (by decide) rfl ?_
      refine a_bipush (pc := 43) dX9_readFoot_43 (by decide) (by decide +kernel) ?_
      refine p_callV (As := [(0, 61)]) (st := []) (st1 := fun r => [])  (pc := 45) dX9_readFoot_45 ml_RX9_208 (by decide) s0_275 rfl (by decide) (Nat.le_of_ble_eq_true rfl) rfl (fun _ => rfl) h (fun r32 M33 h => ?_)
      refine a_aload_n (pc := 48) dX9_readFoot_48 (by decide) rfl ?_
      refine a_iconst (pc := 49) dX9_readFoot_49 (by decide) ?_
      refine a_iconst (pc := 50) dX9_readFoot_50 (by decide) ?_
      refine a_bipush (pc := 51) dX9_readFoot_51 (by decide) (by decide +kernel) ?_
      refine p_callV (As := [(0, 2), (0, 1), (0, 60)]) (st := []) (st1 := fun r => [(0, r)])  (pc := 53) dX9_readFoot_53 ml_RX9_205 (by decide) s0_275 rfl (by decide) (Nat.le_of_ble_eq_true rfl) rfl (fun _ => rfl) h (fun r34 M35 h => ?_)
      refine a_istore_n (ls1 := [(2, 275), (0, r1), (0, r5), (0, r34)]) (pc := 56) dX9_readFoot_56 (by decide) (hp1 (t := 0) rfl (by decide)) rfl ?_
      refine a_aload_n (pc := 57) dX9_readFoot_57 (by decide) rfl ?_
      refine a_getI (y := 28) (pc := 58) dX9_readFoot_58 fl_RX9_179 (by decide) s0_275 (Or.inr rfl) rfl ?_
      refine a_if_ne (tgt := 88) (pc := 61) dX9_readFoot_61 (by decide) (fun hc36 => ?_) (fun hc36 => ?_)
      · replace h := h.1 hc36
        exact a_vret (pc := 88) dX9_readFoot_88 rfl rfl (Nat.le_of_ble_eq_true rfl) ⟨rfl, h⟩
      · replace h := h.2 hc36
        refine a_aload_n (pc := 64) dX9_readFoot_64 (by decide) rfl ?_
        refine a_getR (y := 282) (pc := 65) dX9_readFoot_65 fl_RX9_28 (by decide) s0_275 rfl rfl ?_
        refine a_bipush (pc := 68) dX9_readFoot_68 (by decide) (by decide +kernel) ?_
        refine a_iload_n (pc := 70) dX9_readFoot_70 rfl ?_
        have ho37 := h.1
        replace h := h.2
        refine a_imul (pc := 71) dX9_readFoot_71 ho37 ?_
        refine a_iload_n (pc := 72) dX9_readFoot_72 rfl ?_
        have ho38 := h.1
        replace h := h.2
        refine a_iadd (pc := 73) dX9_readFoot_73 ho38 ?_
        refine a_iload_n (pc := 74) dX9_readFoot_74 rfl ?_
        have ho39 := h.1
        replace h := h.2
        refine a_iast (pc := 75) dX9_readFoot_75 (by decide) s0_282 ho39.1 ho39.2 ?_
        refine a_aload_n (pc := 76) dX9_readFoot_76 (by decide) rfl ?_
        refine a_getR (y := 282) (pc := 77) dX9_readFoot_77 fl_RX9_28 (by decide) s0_275 rfl rfl ?_
        refine a_bipush (pc := 80) dX9_readFoot_80 (by decide) (by decide +kernel) ?_
        refine a_iload_n (pc := 82) dX9_readFoot_82 rfl ?_
        have ho40 := h.1
        replace h := h.2
        refine a_imul (pc := 83) dX9_readFoot_83 ho40 ?_
        refine a_iload_n (pc := 84) dX9_readFoot_84 rfl ?_
        have ho41 := h.1
        replace h := h.2
        refine a_iadd (pc := 85) dX9_readFoot_85 ho41 ?_
        refine a_iload_n (pc := 86) dX9_readFoot_86 rfl ?_
        have ho42 := h.1
        replace h := h.2
        refine a_iast (pc := 87) dX9_readFoot_87 (by decide) s0_282 ho42.1 ho42.2 ?_
        exact a_vret (pc := 88) dX9_readFoot_88 rfl rfl (Nat.le_of_ble_eq_true rfl) ⟨rfl, h⟩
    · replace h := h.2 hc31
      refine a_iload_n (pc := 7) dX9_mustBe_7 rfl ?_
      refine a_if_ne (tgt := 21) (pc := 8) dX9_mustBe_8 (by decide) (fun _ => ?_) (fun hc => absurd hc (by decide))
      refine a_vret (pc := 21) dX9_mustBe_21 rfl rfl (Nat.le_of_ble_eq_true rfl) ⟨rfl, ?_⟩
      refine a_aload_n (pc := 42) dX9_readFoot_42 (by decide) rfl ?_
      refine a_bipush (pc := 43) dX9_readFoot_43 (by decide) (by decide +kernel) ?_
      refine p_callV (As := [(0, 61)]) (st := []) (st1 := fun r => [])  (pc := 45) dX9_readFoot_45 ml_RX9_208 (by decide) s0_275 rfl (by decide) (Nat.le_of_ble_eq_true rfl) rfl (fun _ => rfl) h (fun r43 M44 h => ?_)
      refine a_aload_n (pc := 48) dX9_readFoot_48 (by decide) rfl ?_
      refine a_iconst (pc := 49) dX9_readFoot_49 (by decide) ?_
      refine a_iconst (pc := 50) dX9_readFoot_50 (by decide) ?_
      refine a_bipush (pc := 51) dX9_readFoot_51 (by decide) (by decide +kernel) ?_
      refine p_callV (As := [(0, 2), (0, 1), (0, 60)]) (st := []) (st1 := fun r => [(0, r)])  (pc := 53) dX9_readFoot_53 ml_RX9_205 (by decide) s0_275 rfl (by decide) (Nat.le_of_ble_eq_true rfl) rfl (fun _ => rfl) h (fun r45 M46 h => ?_)
      refine a_istore_n (ls1 := [(2, 275), (0, r1), (0, r5), (0, r45)]) (pc := 56) dX9_readFoot_56 (by decide) (hp1 (t := 0) rfl (by decide)) rfl ?_
      refine a_aload_n (pc := 57) dX9_readFoot_57 (by decide) rfl ?_
      refine a_getI (y := 28) (pc := 58) dX9_readFoot_58 fl_RX9_179 (by decide) s0_275 (Or.inr rfl) rfl ?_
      refine a_if_ne (tgt := 88) (pc := 61) dX9_readFoot_61 (by decide) (fun hc47 => ?_) (fun hc47 => ?_)
      · replace h := h.1 hc47
        exact a_vret (pc := 88) dX9_readFoot_88 rfl rfl (Nat.le_of_ble_eq_true rfl) ⟨rfl, h⟩
      · replace h := h.2 hc47
        refine a_aload_n (pc := 64) dX9_readFoot_64 (by decide) rfl ?_
        refine a_getR (y := 282) (pc := 65) dX9_readFoot_65 fl_RX9_28 (by decide) s0_275 rfl rfl ?_
        refine a_bipush (pc := 68) dX9_readFoot_68 (by decide) (by decide +kernel) ?_
        refine a_iload_n (pc := 70) dX9_readFoot_70 rfl ?_
        have ho48 := h.1
        replace h := h.2
        refine a_imul (pc := 71) dX9_readFoot_71 ho48 ?_
        refine a_iload_n (pc := 72) dX9_readFoot_72 rfl ?_
        have ho49 := h.1
        replace h := h.2
        refine a_iadd (pc := 73) dX9_readFoot_73 ho49 ?_
        refine a_iload_n (pc := 74) dX9_readFoot_74 rfl ?_
        have ho50 := h.1
        replace h := h.2
        refine a_iast (pc := 75) dX9_readFoot_75 (by decide) s0_282 ho50.1 ho50.2 ?_
        refine a_aload_n (pc := 76) dX9_readFoot_76 (by decide) rfl ?_
        refine a_getR (y := 282) (pc := 77) dX9_readFoot_77 fl_RX9_28 (by decide) s0_275 rfl rfl ?_
        refine a_bipush (pc := 80) dX9_readFoot_80 (by decide) (by decide +kernel) ?_
        refine a_iload_n (pc := 82) dX9_readFoot_82 rfl ?_
        have ho51 := h.1
        replace h := h.2
        refine a_imul (pc := 83) dX9_readFoot_83 ho51 ?_
        refine a_iload_n (pc := 84) dX9_readFoot_84 rfl ?_
        have ho52 := h.1
        replace h := h.2
        refine a_iadd (pc := 85) dX9_readFoot_85 ho52 ?_
        refine a_iload_n (pc := 86) dX9_readFoot_86 rfl ?_
        have ho53 := h.1
        replace h := h.2
        refine a_iast (pc := 87) dX9_readFoot_87 (by decide) s0_282 ho53.1 ho53.2 ?_
        exact a_vret (pc := 88) dX9_readFoot_88 rfl rfl (Nat.le_of_ble_eq_true rfl) ⟨rfl, h⟩
theorem E_R_readFoot {M : Mem} {Q : Int → Mem → Prop} (h : AW mX9_readFoot 0 [(2, 275), (9, 0), (9, 0), (9, 0)] M Q) : Calls mX9_readFoot [(2, 275)] S0 M Q := calls_of (by decide) (by decide) (Nat.le_of_ble_eq_true rfl) rfl h
set_option maxRecDepth 100000 in
set_option maxHeartbeats 4000000 in
theorem B_R_readLine_0 {l1 : Int} {M : Mem} {Q : Int → Mem → Prop} (h : ((8 ≤ (M 275 0) → ((¬ (M 275 28) = 0 → Calls mX9_readWithin [(2, 275), (0, 1), (0, 0), (0, 5)] S0 M (fun r3 M4 => Calls mX9_wants [(2, 275), (0, 58)] S0 M4 (fun r5 M6 => ((¬ (M6 275 28) = 0 → AW mX9_readLine 52 [(2, 275), (9, 0), (0, r3), (0, 0), (0, 0), (0, 0), (9, 0)] M6 Q) ∧ ((M6 275 28) = 0 → AW mX9_readLine 52 [(2, 275), (9, 0), (0, r3), (0, 0), (0, 0), (0, 1), (9, 0)] M6 Q))))) ∧ ((M 275 28) = 0 → Calls mX9_readWithin [(2, 275), (0, 1), (0, 0), (0, 5)] S0 (up2 (up2 M 275 28 1) 275 27 l1) (fun r8 M9 => Calls mX9_wants [(2, 275), (0, 58)] S0 M9 (fun r10 M11 => ((¬ (M11 275 28) = 0 → AW mX9_readLine 52 [(2, 275), (9, 0), (0, r8), (0, 0), (0, 0), (0, 0), (9, 0)] M11 Q) ∧ ((M11 275 28) = 0 → AW mX9_readLine 52 [(2, 275), (9, 0), (0, r8), (0, 0), (0, 0), (0, 1), (9, 0)] M11 Q))))))) ∧ (¬ (8 ≤ (M 275 0)) → ((¬ (M 275 28) = 0 → Calls mX9_readWithin [(2, 275), (0, 1), (0, 0), (0, 5)] S0 M (fun r14 M15 => Calls mX9_wants [(2, 275), (0, 58)] S0 M15 (fun r16 M17 => ((¬ (M17 275 28) = 0 → AW mX9_readLine 52 [(2, 275), (9, 0), (0, r14), (0, 0), (0, 0), (0, 0), (9, 0)] M17 Q) ∧ ((M17 275 28) = 0 → AW mX9_readLine 52 [(2, 275), (9, 0), (0, r14), (0, 0), (0, 0), (0, 1), (9, 0)] M17 Q))))) ∧ ((M 275 28) = 0 → Calls mX9_readWithin [(2, 275), (0, 1), (0, 0), (0, 5)] S0 M (fun r19 M20 => Calls mX9_wants [(2, 275), (0, 58)] S0 M20 (fun r21 M22 => ((¬ (M22 275 28) = 0 → AW mX9_readLine 52 [(2, 275), (9, 0), (0, r19), (0, 0), (0, 0), (0, 0), (9, 0)] M22 Q) ∧ ((M22 275 28) = 0 → AW mX9_readLine 52 [(2, 275), (9, 0), (0, r19), (0, 0), (0, 0), (0, 1), (9, 0)] M22 Q))))))))) : AW mX9_readLine 0 [(2, 275), (0, l1), (9, 0), (9, 0), (9, 0), (9, 0), (9, 0)] M Q := by
  refine a_aload_n (pc := 0) dX9_readLine_0 (by decide) rfl ?_
  refine a_aload_n (pc := 1) dX9_readLine_1 (by decide) rfl ?_
  refine a_getI (y := 0) (pc := 2) dX9_readLine_2 fl_RX9_98 (by decide) s0_275 (Or.inl rfl) rfl ?_
  refine a_bipush (pc := 5) dX9_readLine_5 (by decide) (by decide +kernel) ?_
  refine a_icmp_ge (tgt := 14) (pc := 7) dX9_readLine_7 (by decide) (fun hc1 => ?_) (fun hc1 => ?_)
  · replace h := h.1 hc1
    refine a_iconst (pc := 14) dX9_readLine_14 (by decide) ?_
    refine a_iload_n (pc := 15) dX9_readLine_15 rfl ?_
    refine p_inlV (Ex := _) (As := [(0, 0), (0, l1)]) (st := []) (st1 := fun r => [])  (pc := 16) dX9_readLine_16 ml_RX9_201 (by decide) s0_275 rfl (by decide) (Nat.le_of_ble_eq_true rfl) rfl (fun _ => rfl) (by decide) (by decide) (Nat.le_of_ble_eq_true rfl) rfl ?_
    refine a_aload_n (pc := 0) dX9_mustBe_0 (by decide) rfl ?_
    refine a_getI (y := 28) (pc := 1) dX9_mustBe_1 fl_RX9_179 (by decide) s0_275 (Or.inr rfl) rfl ?_
    refine a_if_ne (tgt := 21) (pc := 4) dX9_mustBe_4 (by decide) (fun hc2 => ?_) (fun hc2 => ?_)
    · replace h := h.1 hc2
      refine a_vret (pc := 21) dX9_mustBe_21 rfl rfl (Nat.le_of_ble_eq_true rfl) ⟨rfl, ?_⟩
      refine a_aload_n (pc := 19) dX9_readLine_19 (by decide) rfl ?_
      refine a_iconst (pc := 20) dX9_readLine_20 (by decide) ?_
      refine a_iconst (pc := 21) dX9_readLine_21 (by decide) ?_
      refine a_iconst (pc := 22) dX9_readLine_22 (by decide) ?_
      refine p_callV (As := [(0, 1), (0, 0), (0, 5)]) (st := []) (st1 := fun r => [(0, r)])  (pc := 23) dX9_readLine_23 ml_RX9_205 (by decide) s0_275 rfl (by decide) (Nat.le_of_ble_eq_true rfl) rfl (fun _ => rfl) h (fun r3 M4 h => ?_)
      refine a_istore_n (ls1 := [(2, 275), (0, l1), (0, r3), (9, 0), (9, 0), (9, 0), (9, 0)]) (pc := 26) dX9_readLine_26 (by decide) (hp1 (t := 0) rfl (by decide)) rfl ?_
      refine a_aload_n (pc := 27) dX9_readLine_27 (by decide) rfl ?_
      refine a_bipush (pc := 28) dX9_readLine_28 (by decide) (by decide +kernel) ?_
      refine p_callV (As := [(0, 58)]) (st := []) (st1 := fun r => [])  (pc := 30) dX9_readLine_30 ml_RX9_208 (by decide) s0_275 rfl (by decide) (Nat.le_of_ble_eq_true rfl) rfl (fun _ => rfl) h (fun r5 M6 h => ?_)
      refine a_iconst (pc := 33) dX9_readLine_33 (by decide) ?_
      refine a_istore_n (ls1 := [(2, 275), (0, l1), (0, r3), (0, 0), (9, 0), (9, 0), (9, 0)]) (pc := 34) dX9_readLine_34 (by decide) (hp1 (t := 0) rfl (by decide)) rfl ?_
      refine a_iconst (pc := 35) dX9_readLine_35 (by decide) ?_
      refine a_istore (ls1 := [(2, 275), (0, l1), (0, r3), (0, 0), (0, 0), (9, 0), (9, 0)]) (pc := 36) dX9_readLine_36 (by decide) (hp1 (t := 0) rfl (by decide)) rfl ?_
      refine a_aload_n (pc := 38) dX9_readLine_38 (by decide) rfl ?_
      refine a_getI (y := 28) (pc := 39) dX9_readLine_39 fl_RX9_179 (by decide) s0_275 (Or.inr rfl) rfl ?_
      refine a_if_ne (tgt := 49) (pc := 42) dX9_readLine_42 (by decide) (fun hc7 => ?_) (fun hc7 => ?_)
      · replace h := h.1 hc7
        refine a_iconst (pc := 49) dX9_readLine_49 (by decide) ?_
        refine a_istore (ls1 := [(2, 275), (0, l1), (0, r3), (0, 0), (0, 0), (0, 0), (9, 0)]) (pc := 50) dX9_readLine_50 (by decide) (hp1 (t := 0) rfl (by decide)) rfl ?_
        exact a_msk [true, false, true, true, true, true, true] rfl h
      · replace h := h.2 hc7
        refine a_iconst (pc := 45) dX9_readLine_45 (by decide) ?_
        refine a_goto (tgt := 50) (pc := 46) dX9_readLine_46 (by decide) ?_
        refine a_istore (ls1 := [(2, 275), (0, l1), (0, r3), (0, 0), (0, 0), (0, 1), (9, 0)]) (pc := 50) dX9_readLine_50 (by decide) (hp1 (t := 0) rfl (by decide)) rfl ?_
        exact a_msk [true, false, true, true, true, true, true] rfl h
    · replace h := h.2 hc2
      refine a_iload_n (pc := 7) dX9_mustBe_7 rfl ?_
      refine a_if_ne (tgt := 21) (pc := 8) dX9_mustBe_8 (by decide) (fun hc => absurd rfl hc) (fun _ => ?_)
      refine a_aload_n (pc := 11) dX9_mustBe_11 (by decide) rfl ?_
      refine a_iconst (pc := 12) dX9_mustBe_12 (by decide) ?_
      refine a_putZ (y := 28) (pc := 13) dX9_mustBe_13 fl_RX9_179 (by decide) s0_275 rfl rfl (tyX9_ok 28 (by decide)) rfl (by decide) ?_
      refine a_aload_n (pc := 16) dX9_mustBe_16 (by decide) rfl ?_
      refine a_iload_n (pc := 17) dX9_mustBe_17 rfl ?_
      refine a_putI (y := 27) (pc := 18) dX9_mustBe_18 fl_RX9_176 (by decide) s0_275 rfl rfl (tyX9_ok 27 (by decide)) rfl ?_
      refine a_vret (pc := 21) dX9_mustBe_21 rfl rfl (Nat.le_of_ble_eq_true rfl) ⟨rfl, ?_⟩
      refine a_aload_n (pc := 19) dX9_readLine_19 (by decide) rfl ?_
      refine a_iconst (pc := 20) dX9_readLine_20 (by decide) ?_
      refine a_iconst (pc := 21) dX9_readLine_21 (by decide) ?_
      refine a_iconst (pc := 22) dX9_readLine_22 (by decide) ?_
      refine p_callV (As := [(0, 1), (0, 0), (0, 5)]) (st := []) (st1 := fun r => [(0, r)])  (pc := 23) dX9_readLine_23 ml_RX9_205 (by decide) s0_275 rfl (by decide) (Nat.le_of_ble_eq_true rfl) rfl (fun _ => rfl) h (fun r8 M9 h => ?_)
      refine a_istore_n (ls1 := [(2, 275), (0, l1), (0, r8), (9, 0), (9, 0), (9, 0), (9, 0)]) (pc := 26) dX9_readLine_26 (by decide) (hp1 (t := 0) rfl (by decide)) rfl ?_
      refine a_aload_n (pc := 27) dX9_readLine_27 (by decide) rfl ?_
      refine a_bipush (pc := 28) dX9_readLine_28 (by decide) (by decide +kernel) ?_
      refine p_callV (As := [(0, 58)]) (st := []) (st1 := fun r => [])  (pc := 30) dX9_readLine_30 ml_RX9_208 (by decide) s0_275 rfl (by decide) (Nat.le_of_ble_eq_true rfl) rfl (fun _ => rfl) h (fun r10 M11 h => ?_)
      refine a_iconst (pc := 33) dX9_readLine_33 (by decide) ?_
      refine a_istore_n (ls1 := [(2, 275), (0, l1), (0, r8), (0, 0), (9, 0), (9, 0), (9, 0)]) (pc := 34) dX9_readLine_34 (by decide) (hp1 (t := 0) rfl (by decide)) rfl ?_
      refine a_iconst (pc := 35) dX9_readLine_35 (by decide) ?_
      refine a_istore (ls1 := [(2, 275), (0, l1), (0, r8), (0, 0), (0, 0), (9, 0), (9, 0)]) (pc := 36) dX9_readLine_36 (by decide) (hp1 (t := 0) rfl (by decide)) rfl ?_
      refine a_aload_n (pc := 38) dX9_readLine_38 (by decide) rfl ?_
      refine a_getI (y := 28) (pc := 39) dX9_readLine_39 fl_RX9_179 (by decide) s0_275 (Or.inr rfl) rfl ?_
      refine a_if_ne (tgt := 49) (pc := 42) dX9_readLine_42 (by decide) (fun hc12 => ?_) (fun hc12 => ?_)
      · replace h := h.1 hc12
        refine a_iconst (pc := 49) dX9_readLine_49 (by decide) ?_
        refine a_istore (ls1 := [(2, 275), (0, l1), (0, r8), (0, 0), (0, 0), (0, 0), (9, 0)]) (pc := 50) dX9_readLine_50 (by decide) (hp1 (t := 0) rfl (by decide)) rfl ?_
        exact a_msk [true, false, true, true, true, true, true] rfl h
      · replace h := h.2 hc12
        refine a_iconst (pc := 45) dX9_readLine_45 (by decide) ?_
        refine a_goto (tgt := 50) (pc := 46) dX9_readLine_46 (by decide) ?_
        refine a_istore (ls1 := [(2, 275), (0, l1), (0, r8), (0, 0), (0, 0), (0, 1), (9, 0)]) (pc := 50) dX9_readLine_50 (by decide) (hp1 (t := 0) rfl (by decide)) rfl ?_
        exact a_msk [true, false, true, true, true, true, true] rfl h
  · replace h := h.2 hc1
    refine a_iconst (pc := 10) dX9_readLine_10 (by decide) ?_
    refine a_goto (tgt := 15) (pc := 11) dX9_readLine_11 (by decide) ?_
    refine a_iload_n (pc := 15) dX9_readLine_15 rfl ?_
    refine p_inlV (Ex := _) (As := [(0, 1), (0, l1)]) (st := []) (st1 := fun r => [])  (pc := 16) dX9_readLine_16 ml_RX9_201 (by decide) s0_275 rfl (by decide) (Nat.le_of_ble_eq_true rfl) rfl (fun _ => rfl) (by decide) (by decide) (Nat.le_of_ble_eq_true rfl) rfl ?_
    refine a_aload_n (pc := 0) dX9_mustBe_0 (by decide) rfl ?_
    refine a_getI (y := 28) (pc := 1) dX9_mustBe_1 fl_RX9_179 (by decide) s0_275 (Or.inr rfl) rfl ?_
    refine a_if_ne (tgt := 21) (pc := 4) dX9_mustBe_4 (by decide) (fun hc13 => ?_) (fun hc13 => ?_)
    · replace h := h.1 hc13
      refine a_vret (pc := 21) dX9_mustBe_21 rfl rfl (Nat.le_of_ble_eq_true rfl) ⟨rfl, ?_⟩
      refine a_aload_n (pc := 19) dX9_readLine_19 (by decide) rfl ?_
      refine a_iconst (pc := 20) dX9_readLine_20 (by decide) ?_
      refine a_iconst (pc := 21) dX9_readLine_21 (by decide) ?_
      refine a_iconst (pc := 22) dX9_readLine_22 (by decide) ?_
      refine p_callV (As := [(0, 1), (0, 0), (0, 5)]) (st := []) (st1 := fun r => [(0, r)])  (pc := 23) dX9_readLine_23 ml_RX9_205 (by decide) s0_275 rfl (by decide) (Nat.le_of_ble_eq_true rfl) rfl (fun _ => rfl) h (fun r14 M15 h => ?_)
      refine a_istore_n (ls1 := [(2, 275), (0, l1), (0, r14), (9, 0), (9, 0), (9, 0), (9, 0)]) (pc := 26) dX9_readLine_26 (by decide) (hp1 (t := 0) rfl (by decide)) rfl ?_
      refine a_aload_n (pc := 27) dX9_readLine_27 (by decide) rfl ?_
      refine a_bipush (pc := 28) dX9_readLine_28 (by decide) (by decide +kernel) ?_
      refine p_callV (As := [(0, 58)]) (st := []) (st1 := fun r => [])  (pc := 30) dX9_readLine_30 ml_RX9_208 (by decide) s0_275 rfl (by decide) (Nat.le_of_ble_eq_true rfl) rfl (fun _ => rfl) h (fun r16 M17 h => ?_)
      refine a_iconst (pc := 33) dX9_readLine_33 (by decide) ?_
      refine a_istore_n (ls1 := [(2, 275), (0, l1), (0, r14), (0, 0), (9, 0), (9, 0), (9, 0)]) (pc := 34) dX9_readLine_34 (by decide) (hp1 (t := 0) rfl (by decide)) rfl ?_
      refine a_iconst (pc := 35) dX9_readLine_35 (by decide) ?_
      refine a_istore (ls1 := [(2, 275), (0, l1), (0, r14), (0, 0), (0, 0), (9, 0), (9, 0)]) (pc := 36) dX9_readLine_36 (by decide) (hp1 (t := 0) rfl (by decide)) rfl ?_
      refine a_aload_n (pc := 38) dX9_readLine_38 (by decide) rfl ?_
      refine a_getI (y := 28) (pc := 39) dX9_readLine_39 fl_RX9_179 (by decide) s0_275 (Or.inr rfl) rfl ?_
      refine a_if_ne (tgt := 49) (pc := 42) dX9_readLine_42 (by decide) (fun hc18 => ?_) (fun hc18 => ?_)
      · replace h := h.1 hc18
        refine a_iconst (pc := 49) dX9_readLine_49 (by decide) ?_
        refine a_istore (ls1 := [(2, 275), (0, l1), (0, r14), (0, 0), (0, 0), (0, 0), (9, 0)]) (pc := 50) dX9_readLine_50 (by decide) (hp1 (t := 0) rfl (by decide)) rfl ?_
        exact a_msk [true, false, true, true, true, true, true] rfl h
      · replace h := h.2 hc18
        refine a_iconst (pc := 45) dX9_readLine_45 (by decide) ?_
        refine a_goto (tgt := 50) (pc := 46) dX9_readLine_46 (by decide) ?_
        refine a_istore (ls1 := [(2, 275), (0, l1), (0, r14), (0, 0), (0, 0), (0, 1), (9, 0)]) (pc := 50) dX9_readLine_50 (by decide) (hp1 (t := 0) rfl (by decide)) rfl ?_
        exact a_msk [true, false, true, true, true, true, true] rfl h
    · replace h := h.2 hc13
      refine a_iload_n (pc := 7) dX9_mustBe_7 rfl ?_
      refine a_if_ne (tgt := 21) (pc := 8) dX9_mustBe_8 (by decide) (fun _ => ?_) (fun hc => absurd hc (by decide))
      refine a_vret (pc := 21) dX9_mustBe_21 rfl rfl (Nat.le_of_ble_eq_true rfl) ⟨rfl, ?_⟩
      refine a_aload_n (pc := 19) dX9_readLine_19 (by decide) rfl ?_
      refine a_iconst (pc := 20) dX9_readLine_20 (by decide) ?_
      refine a_iconst (pc := 21) dX9_readLine_21 (by decide) ?_
      refine a_iconst (pc := 22) dX9_readLine_22 (by decide) ?_
      refine p_callV (As := [(0, 1), (0, 0), (0, 5)]) (st := []) (st1 := fun r => [(0, r)])  (pc := 23) dX9_readLine_23 ml_RX9_205 (by decide) s0_275 rfl (by decide) (Nat.le_of_ble_eq_true rfl) rfl (fun _ => rfl) h (fun r19 M20 h => ?_)
      refine a_istore_n (ls1 := [(2, 275), (0, l1), (0, r19), (9, 0), (9, 0), (9, 0), (9, 0)]) (pc := 26) dX9_readLine_26 (by decide) (hp1 (t := 0) rfl (by decide)) rfl ?_
      refine a_aload_n (pc := 27) dX9_readLine_27 (by decide) rfl ?_
      refine a_bipush (pc := 28) dX9_readLine_28 (by decide) (by decide +kernel) ?_
      refine p_callV (As := [(0, 58)]) (st := []) (st1 := fun r => [])  (pc := 30) dX9_readLine_30 ml_RX9_208 (by decide) s0_275 rfl (by decide) (Nat.le_of_ble_eq_true rfl) rfl (fun _ => rfl) h (fun r21 M22 h => ?_)
      refine a_iconst (pc := 33) dX9_readLine_33 (by decide) ?_
      refine a_istore_n (ls1 := [(2, 275), (0, l1), (0, r19), (0, 0), (9, 0), (9, 0), (9, 0)]) (pc := 34) dX9_readLine_34 (by decide) (hp1 (t := 0) rfl (by decide)) rfl ?_
      refine a_iconst (pc := 35) dX9_readLine_35 (by decide) ?_
      refine a_istore (ls1 := [(2, 275), (0, l1), (0, r19), (0, 0), (0, 0), (9, 0), (9, 0)]) (pc := 36) dX9_readLine_36 (by decide) (hp1 (t := 0) rfl (by decide)) rfl ?_
      refine a_aload_n (pc := 38) dX9_readLine_38 (by decide) rfl ?_
      refine a_getI (y := 28) (pc := 39) dX9_readLine_39 fl_RX9_179 (by decide) s0_275 (Or.inr rfl) rfl ?_
      refine a_if_ne (tgt := 49) (pc := 42) dX9_readLine_42 (by decide) (fun hc23 => ?_) (fun hc23 => ?_)
      · replace h := h.1 hc23
        refine a_iconst (pc := 49) dX9_readLine_49 (by decide) ?_
        refine a_istore (ls1 := [(2, 275), (0, l1), (0, r19), (0, 0), (0, 0), (0, 0), (9, 0)]) (pc := 50) dX9_readLine_50 (by decide) (hp1 (t := 0) rfl (by decide)) rfl ?_
        exact a_msk [true, false, true, true, true, true, true] rfl h
      · replace h := h.2 hc23
        refine a_iconst (pc := 45) dX9_readLine_45 (by decide) ?_
        refine a_goto (tgt := 50) (pc := 46) dX9_readLine_46 (by decide) ?_
        refine a_istore (ls1 := [(2, 275), (0, l1), (0, r19), (0, 0), (0, 0), (0, 1), (9, 0)]) (pc := 50) dX9_readLine_50 (by decide) (hp1 (t := 0) rfl (by decide)) rfl ?_
        exact a_msk [true, false, true, true, true, true, true] rfl h
set_option maxRecDepth 100000 in
set_option maxHeartbeats 4000000 in
theorem B_R_readLine_52 {l2 l3 l4 l5 : Int} {M : Mem} {Q : Int → Mem → Prop} (h : ((l5 = 0 → ((¬ (M 275 28) = 0 → Q 0 (up2 M 275 28 1)) ∧ ((M 275 28) = 0 → ((2 ≤ l4 → ((0 : Int) ≤ M 275 0 ∧ M 275 0 < 8) ∧ (-2147483648 ≤ (M 275 0) + 1 ∧ (M 275 0) + 1 ≤ 2147483647) ∧ Q 0 (up2 (up2 (up2 (up2 (up2 M 275 28 0) 276 (M 275 0) l2) 277 (M 275 0) l4) 279 (M 275 0) 0) 275 0 ((M 275 0) + 1))) ∧ (¬ (2 ≤ l4) → Q 0 (up2 M 275 28 1)))))) ∧ (¬ l5 = 0 → Calls mX9_readWithin [(2, 275), (0, 2), (0, 0), (0, 11)] S0 M (fun r6 M7 => ((0 : Int) ≤ l3) ∧ ((0 : Int) ≤ r6 ∧ r6 ≤ 30) ∧ ((¬ ((l3 / 2 ^ (r6).toNat) % 2) = 0 → ((¬ (M7 275 28) = 0 → AW mX9_readLine 52 [(2, 275), (9, 0), (0, l2), (0, l3), (0, l4), (0, 0), (9, 0)] M7 Q) ∧ ((M7 275 28) = 0 → AW mX9_readLine 52 [(2, 275), (9, 0), (0, l2), (0, l3), (0, l4), (0, 0), (9, 0)] (up2 (up2 M7 275 28 1) 275 27 (M7 275 29)) Q))) ∧ (((l3 / 2 ^ (r6).toNat) % 2) = 0 → ((¬ (M7 275 28) = 0 → AW mX9_readLine 52 [(2, 275), (9, 0), (0, l2), (0, l3), (0, l4), (0, 0), (9, 0)] M7 Q) ∧ ((M7 275 28) = 0 → ((0 : Int) ≤ (2 : Int) ^ (r6).toNat) ∧ (-2147483648 ≤ 6 * (M7 275 0) ∧ 6 * (M7 275 0) ≤ 2147483647) ∧ (-2147483648 ≤ (6 * (M7 275 0)) + l4 ∧ (6 * (M7 275 0)) + l4 ≤ 2147483647) ∧ ((0 : Int) ≤ (6 * (M7 275 0)) + l4 ∧ (6 * (M7 275 0)) + l4 < 48) ∧ (-2147483648 ≤ l4 + 1 ∧ l4 + 1 ≤ 2147483647) ∧ ((6 ≤ (l4 + 1) → AW mX9_readLine 52 [(2, 275), (9, 0), (0, l2), (0, (((l3 : Int).toNat ||| ((2 : Int) ^ (r6).toNat : Int).toNat : Nat) : Int)), (0, l4 + 1), (0, 0), (9, 0)] (up2 M7 278 ((6 * (M7 275 0)) + l4) r6) Q) ∧ (¬ (6 ≤ (l4 + 1)) → (((M7 275 26) ≤ (M7 275 27) → (-2147483648 ≤ (M7 275 27) + 0 ∧ (M7 275 27) + 0 ≤ 2147483647) ∧ AW mX9_readLine 52 [(2, 275), (9, 0), (0, l2), (0, (((l3 : Int).toNat ||| ((2 : Int) ^ (r6).toNat : Int).toNat : Nat) : Int)), (0, l4 + 1), (0, 0), (9, 0)] (up2 (up2 M7 278 ((6 * (M7 275 0)) + l4) r6) 275 27 ((M7 275 27) + 0)) Q) ∧ (¬ ((M7 275 26) ≤ (M7 275 27)) → ((0 : Int) ≤ M7 275 27 ∧ M7 275 27 < 80) ∧ ((¬ (M7 292 (M7 275 27)) = 62 → (-2147483648 ≤ (M7 275 27) + 0 ∧ (M7 275 27) + 0 ≤ 2147483647) ∧ AW mX9_readLine 52 [(2, 275), (9, 0), (0, l2), (0, (((l3 : Int).toNat ||| ((2 : Int) ^ (r6).toNat : Int).toNat : Nat) : Int)), (0, l4 + 1), (0, 0), (9, 0)] (up2 (up2 M7 278 ((6 * (M7 275 0)) + l4) r6) 275 27 ((M7 275 27) + 0)) Q) ∧ ((M7 292 (M7 275 27)) = 62 → (-2147483648 ≤ (M7 275 27) + 1 ∧ (M7 275 27) + 1 ≤ 2147483647) ∧ AW mX9_readLine 52 [(2, 275), (9, 0), (0, l2), (0, (((l3 : Int).toNat ||| ((2 : Int) ^ (r6).toNat : Int).toNat : Nat) : Int)), (0, l4 + 1), (0, 1), (9, 0)] (up2 (up2 M7 278 ((6 * (M7 275 0)) + l4) r6) 275 27 ((M7 275 27) + 1)) Q)))))))))))))) : AW mX9_readLine 52 [(2, 275), (9, 0), (0, l2), (0, l3), (0, l4), (0, l5), (9, 0)] M Q := by
  refine a_iload (pc := 52) dX9_readLine_52 rfl ?_
  refine a_if_eq (tgt := 156) (pc := 54) dX9_readLine_54 (by decide) (fun hc1 => ?_) (fun hc1 => ?_)
  · replace h := h.1 hc1
    refine a_aload_n (pc := 156) dX9_readLine_156 (by decide) rfl ?_
    refine a_aload_n (pc := 157) dX9_readLine_157 (by decide) rfl ?_
    refine a_getI (y := 28) (pc := 158) dX9_readLine_158 fl_RX9_179 (by decide) s0_275 (Or.inr rfl) rfl ?_
    refine a_if_ne (tgt := 170) (pc := 161) dX9_readLine_161 (by decide) (fun hc2 => ?_) (fun hc2 => ?_)
    · replace h := h.1 hc2
      refine a_iconst (pc := 170) dX9_readLine_170 (by decide) ?_
      refine a_goto (tgt := 175) (pc := 171) dX9_readLine_171 (by decide) ?_
      refine a_putZ (y := 28) (pc := 175) dX9_readLine_175 fl_RX9_179 (by decide) s0_275 rfl rfl (tyX9_ok 28 (by decide)) rfl (by decide) ?_
      refine a_aload_n (pc := 178) dX9_readLine_178 (by decide) rfl ?_
      refine a_getI (y := 28) (pc := 179) dX9_readLine_179 fl_RX9_179 (by decide) s0_275 (Or.inr rfl) rfl ?_
      refine a_eq (y := 1) rfl ?_
      refine a_if_ne (tgt := 226) (pc := 182) dX9_readLine_182 (by decide) (fun _ => ?_) (fun hc => absurd hc (by decide))
      exact a_vret (pc := 226) dX9_readLine_226 rfl rfl (Nat.le_of_ble_eq_true rfl) ⟨rfl, h⟩
    · replace h := h.2 hc2
      refine a_iload (pc := 164) dX9_readLine_164 rfl ?_
      refine a_iconst (pc := 166) dX9_readLine_166 (by decide) ?_
      refine a_icmp_ge (tgt := 174) (pc := 167) dX9_readLine_167 (by decide) (fun hc3 => ?_) (fun hc3 => ?_)
      · replace h := h.1 hc3
        refine a_iconst (pc := 174) dX9_readLine_174 (by decide) ?_
        refine a_putZ (y := 28) (pc := 175) dX9_readLine_175 fl_RX9_179 (by decide) s0_275 rfl rfl (tyX9_ok 28 (by decide)) rfl (by decide) ?_
        refine a_aload_n (pc := 178) dX9_readLine_178 (by decide) rfl ?_
        refine a_getI (y := 28) (pc := 179) dX9_readLine_179 fl_RX9_179 (by decide) s0_275 (Or.inr rfl) rfl ?_
        refine a_eq (y := 0) rfl ?_
        refine a_if_ne (tgt := 226) (pc := 182) dX9_readLine_182 (by decide) (fun hc => absurd rfl hc) (fun _ => ?_)
        refine a_aload_n (pc := 185) dX9_readLine_185 (by decide) rfl ?_
        refine a_getR (y := 276) (pc := 186) dX9_readLine_186 fl_RX9_7 (by decide) s0_275 rfl rfl ?_
        refine a_aload_n (pc := 189) dX9_readLine_189 (by decide) rfl ?_
        refine a_getI (y := 0) (pc := 190) dX9_readLine_190 fl_RX9_98 (by decide) s0_275 (Or.inl rfl) rfl ?_
        refine a_eq (y := M 275 0) rfl ?_
        refine a_iload_n (pc := 193) dX9_readLine_193 rfl ?_
        have ho4 := h.1
        replace h := h.2
        refine a_iast (pc := 194) dX9_readLine_194 (by decide) s0_276 ho4.1 ho4.2 ?_
        refine a_aload_n (pc := 195) dX9_readLine_195 (by decide) rfl ?_
        refine a_getR (y := 277) (pc := 196) dX9_readLine_196 fl_RX9_13 (by decide) s0_275 rfl rfl ?_
        refine a_aload_n (pc := 199) dX9_readLine_199 (by decide) rfl ?_
        refine a_getI (y := 0) (pc := 200) dX9_readLine_200 fl_RX9_98 (by decide) s0_275 (Or.inl rfl) rfl ?_
        refine a_eq (y := M 275 0) rfl ?_
        refine a_iload (pc := 203) dX9_readLine_203 rfl ?_
        refine a_iast (pc := 205) dX9_readLine_205 (by decide) s0_277 ho4.1 ho4.2 ?_
        refine a_aload_n (pc := 206) dX9_readLine_206 (by decide) rfl ?_
        refine a_getR (y := 279) (pc := 207) dX9_readLine_207 fl_RX9_19 (by decide) s0_275 rfl rfl ?_
        refine a_aload_n (pc := 210) dX9_readLine_210 (by decide) rfl ?_
        refine a_getI (y := 0) (pc := 211) dX9_readLine_211 fl_RX9_98 (by decide) s0_275 (Or.inl rfl) rfl ?_
        refine a_eq (y := M 275 0) rfl ?_
        refine a_iconst (pc := 214) dX9_readLine_214 (by decide) ?_
        refine a_iast (pc := 215) dX9_readLine_215 (by decide) s0_279 ho4.1 ho4.2 ?_
        refine a_aload_n (pc := 216) dX9_readLine_216 (by decide) rfl ?_
        refine a_dup (pc := 217) dX9_readLine_217 n21 ?_
        refine a_getI (y := 0) (pc := 218) dX9_readLine_218 fl_RX9_98 (by decide) s0_275 (Or.inl rfl) rfl ?_
        refine a_eq (y := M 275 0) rfl ?_
        refine a_iconst (pc := 221) dX9_readLine_221 (by decide) ?_
        have ho5 := h.1
        replace h := h.2
        refine a_iadd (pc := 222) dX9_readLine_222 ho5 ?_
        refine a_putI (y := 0) (pc := 223) dX9_readLine_223 fl_RX9_98 (by decide) s0_275 rfl rfl (tyX9_ok 0 (by decide)) rfl ?_
        exact a_vret (pc := 226) dX9_readLine_226 rfl rfl (Nat.le_of_ble_eq_true rfl) ⟨rfl, h⟩
      · replace h := h.2 hc3
        refine a_iconst (pc := 170) dX9_readLine_170 (by decide) ?_
        refine a_goto (tgt := 175) (pc := 171) dX9_readLine_171 (by decide) ?_
        refine a_putZ (y := 28) (pc := 175) dX9_readLine_175 fl_RX9_179 (by decide) s0_275 rfl rfl (tyX9_ok 28 (by decide)) rfl (by decide) ?_
        refine a_aload_n (pc := 178) dX9_readLine_178 (by decide) rfl ?_
        refine a_getI (y := 28) (pc := 179) dX9_readLine_179 fl_RX9_179 (by decide) s0_275 (Or.inr rfl) rfl ?_
        refine a_eq (y := 1) rfl ?_
        refine a_if_ne (tgt := 226) (pc := 182) dX9_readLine_182 (by decide) (fun _ => ?_) (fun hc => absurd hc (by decide))
        exact a_vret (pc := 226) dX9_readLine_226 rfl rfl (Nat.le_of_ble_eq_true rfl) ⟨rfl, h⟩
  · replace h := h.2 hc1
    refine a_aload_n (pc := 57) dX9_readLine_57 (by decide) rfl ?_
    refine a_iconst (pc := 58) dX9_readLine_58 (by decide) ?_
    refine a_iconst (pc := 59) dX9_readLine_59 (by decide) ?_
    refine a_bipush (pc := 60) dX9_readLine_60 (by decide) (by decide +kernel) ?_
    refine p_callV (As := [(0, 2), (0, 0), (0, 11)]) (st := []) (st1 := fun r => [(0, r)])  (pc := 62) dX9_readLine_62 ml_RX9_205 (by decide) s0_275 rfl (by decide) (Nat.le_of_ble_eq_true rfl) rfl (fun _ => rfl) h (fun r6 M7 h => ?_)
    refine a_istore (ls1 := [(2, 275), (9, 0), (0, l2), (0, l3), (0, l4), (0, l5), (0, r6)]) (pc := 65) dX9_readLine_65 (by decide) (hp1 (t := 0) rfl (by decide)) rfl ?_
    refine a_aload_n (pc := 67) dX9_readLine_67 (by decide) rfl ?_
    refine a_iload_n (pc := 68) dX9_readLine_68 rfl ?_
    refine a_iload (pc := 69) dX9_readLine_69 rfl ?_
    have ho8 := h.1
    replace h := h.2
    have ho9 := h.1
    replace h := h.2
    refine a_ishr (z := l3 / 2 ^ (r6).toNat) (pc := 71) dX9_readLine_71 ho8 ho9.1 ho9.2 rfl ?_
    refine a_iconst (pc := 72) dX9_readLine_72 (by decide) ?_
    refine a_iand (q := 1) (z := (l3 / 2 ^ (r6).toNat) % 2) (pc := 73) dX9_readLine_73 (by decide) (by decide) rfl ?_
    refine a_if_ne (tgt := 81) (pc := 74) dX9_readLine_74 (by decide) (fun hc10 => ?_) (fun hc10 => ?_)
    · replace h := h.1 hc10
      refine a_iconst (pc := 81) dX9_readLine_81 (by decide) ?_
      refine a_aload_n (pc := 82) dX9_readLine_82 (by decide) rfl ?_
      refine a_getI (y := 29) (pc := 83) dX9_readLine_83 fl_RX9_194 (by decide) s0_275 (Or.inl rfl) rfl ?_
      refine p_inlV (Ex := _) (As := [(0, 0), (0, M7 275 29)]) (st := []) (st1 := fun r => [])  (pc := 86) dX9_readLine_86 ml_RX9_201 (by decide) s0_275 rfl (by decide) (Nat.le_of_ble_eq_true rfl) rfl (fun _ => rfl) (by decide) (by decide) (Nat.le_of_ble_eq_true rfl) rfl ?_
      refine a_aload_n (pc := 0) dX9_mustBe_0 (by decide) rfl ?_
      refine a_getI (y := 28) (pc := 1) dX9_mustBe_1 fl_RX9_179 (by decide) s0_275 (Or.inr rfl) rfl ?_
      refine a_if_ne (tgt := 21) (pc := 4) dX9_mustBe_4 (by decide) (fun hc11 => ?_) (fun hc11 => ?_)
      · replace h := h.1 hc11
        refine a_vret (pc := 21) dX9_mustBe_21 rfl rfl (Nat.le_of_ble_eq_true rfl) ⟨rfl, ?_⟩
        refine a_aload_n (pc := 89) dX9_readLine_89 (by decide) rfl ?_
        refine a_getI (y := 28) (pc := 90) dX9_readLine_90 fl_RX9_179 (by decide) s0_275 (Or.inr rfl) rfl ?_
        refine a_if_ne (tgt := 123) (pc := 93) dX9_readLine_93 (by decide) (fun _ => ?_) (fun hc => absurd hc hc11)
        refine a_aload_n (pc := 123) dX9_readLine_123 (by decide) rfl ?_
        refine a_getI (y := 28) (pc := 124) dX9_readLine_124 fl_RX9_179 (by decide) s0_275 (Or.inr rfl) rfl ?_
        refine a_if_ne (tgt := 150) (pc := 127) dX9_readLine_127 (by decide) (fun _ => ?_) (fun hc => absurd hc hc11)
        refine a_iconst (pc := 150) dX9_readLine_150 (by decide) ?_
        refine a_istore (ls1 := [(2, 275), (9, 0), (0, l2), (0, l3), (0, l4), (0, 0), (0, r6)]) (pc := 151) dX9_readLine_151 (by decide) (hp1 (t := 0) rfl (by decide)) rfl ?_
        refine a_goto (tgt := 52) (pc := 153) dX9_readLine_153 (by decide) ?_
        exact a_msk [true, true, true, true, true, true, false] rfl h
      · replace h := h.2 hc11
        refine a_iload_n (pc := 7) dX9_mustBe_7 rfl ?_
        refine a_if_ne (tgt := 21) (pc := 8) dX9_mustBe_8 (by decide) (fun hc => absurd rfl hc) (fun _ => ?_)
        refine a_aload_n (pc := 11) dX9_mustBe_11 (by decide) rfl ?_
        refine a_iconst (pc := 12) dX9_mustBe_12 (by decide) ?_
        refine a_putZ (y := 28) (pc := 13) dX9_mustBe_13 fl_RX9_179 (by decide) s0_275 rfl rfl (tyX9_ok 28 (by decide)) rfl (by decide) ?_
        refine a_aload_n (pc := 16) dX9_mustBe_16 (by decide) rfl ?_
        refine a_iload_n (pc := 17) dX9_mustBe_17 rfl ?_
        refine a_putI (y := 27) (pc := 18) dX9_mustBe_18 fl_RX9_176 (by decide) s0_275 rfl rfl (tyX9_ok 27 (by decide)) rfl ?_
        refine a_vret (pc := 21) dX9_mustBe_21 rfl rfl (Nat.le_of_ble_eq_true rfl) ⟨rfl, ?_⟩
        refine a_aload_n (pc := 89) dX9_readLine_89 (by decide) rfl ?_
        refine a_getI (y := 28) (pc := 90) dX9_readLine_90 fl_RX9_179 (by decide) s0_275 (Or.inr rfl) rfl ?_
        refine a_eq (y := 1) rfl ?_
        refine a_if_ne (tgt := 123) (pc := 93) dX9_readLine_93 (by decide) (fun _ => ?_) (fun hc => absurd hc (by decide))
        refine a_aload_n (pc := 123) dX9_readLine_123 (by decide) rfl ?_
        refine a_getI (y := 28) (pc := 124) dX9_readLine_124 fl_RX9_179 (by decide) s0_275 (Or.inr rfl) rfl ?_
        refine a_eq (y := 1) rfl ?_
        refine a_if_ne (tgt := 150) (pc := 127) dX9_readLine_127 (by decide) (fun _ => ?_) (fun hc => absurd hc (by decide))
        refine a_iconst (pc := 150) dX9_readLine_150 (by decide) ?_
        refine a_istore (ls1 := [(2, 275), (9, 0), (0, l2), (0, l3), (0, l4), (0, 0), (0, r6)]) (pc := 151) dX9_readLine_151 (by decide) (hp1 (t := 0) rfl (by decide)) rfl ?_
        refine a_goto (tgt := 52) (pc := 153) dX9_readLine_153 (by decide) ?_
        exact a_msk [true, true, true, true, true, true, false] rfl h
    · replace h := h.2 hc10
      refine a_iconst (pc := 77) dX9_readLine_77 (by decide) ?_
      refine a_goto (tgt := 82) (pc := 78) dX9_readLine_78 (by decide) ?_
      refine a_aload_n (pc := 82) dX9_readLine_82 (by decide) rfl ?_
      refine a_getI (y := 29) (pc := 83) dX9_readLine_83 fl_RX9_194 (by decide) s0_275 (Or.inl rfl) rfl ?_
      refine p_inlV (Ex := _) (As := [(0, 1), (0, M7 275 29)]) (st := []) (st1 := fun r => [])  (pc := 86) dX9_readLine_86 ml_RX9_201 (by decide) s0_275 rfl (by decide) (Nat.le_of_ble_eq_true rfl) rfl (fun _ => rfl) (by decide) (by decide) (Nat.le_of_ble_eq_true rfl) rfl ?_
      refine a_aload_n (pc := 0) dX9_mustBe_0 (by decide) rfl ?_
      refine a_getI (y := 28) (pc := 1) dX9_mustBe_1 fl_RX9_179 (by decide) s0_275 (Or.inr rfl) rfl ?_
      refine a_if_ne (tgt := 21) (pc := 4) dX9_mustBe_4 (by decide) (fun hc12 => ?_) (fun hc12 => ?_)
      · replace h := h.1 hc12
        refine a_vret (pc := 21) dX9_mustBe_21 rfl rfl (Nat.le_of_ble_eq_true rfl) ⟨rfl, ?_⟩
        refine a_aload_n (pc := 89) dX9_readLine_89 (by decide) rfl ?_
        refine a_getI (y := 28) (pc := 90) dX9_readLine_90 fl_RX9_179 (by decide) s0_275 (Or.inr rfl) rfl ?_
        refine a_if_ne (tgt := 123) (pc := 93) dX9_readLine_93 (by decide) (fun _ => ?_) (fun hc => absurd hc hc12)
        refine a_aload_n (pc := 123) dX9_readLine_123 (by decide) rfl ?_
        refine a_getI (y := 28) (pc := 124) dX9_readLine_124 fl_RX9_179 (by decide) s0_275 (Or.inr rfl) rfl ?_
        refine a_if_ne (tgt := 150) (pc := 127) dX9_readLine_127 (by decide) (fun _ => ?_) (fun hc => absurd hc hc12)
        refine a_iconst (pc := 150) dX9_readLine_150 (by decide) ?_
        refine a_istore (ls1 := [(2, 275), (9, 0), (0, l2), (0, l3), (0, l4), (0, 0), (0, r6)]) (pc := 151) dX9_readLine_151 (by decide) (hp1 (t := 0) rfl (by decide)) rfl ?_
        refine a_goto (tgt := 52) (pc := 153) dX9_readLine_153 (by decide) ?_
        exact a_msk [true, true, true, true, true, true, false] rfl h
      · replace h := h.2 hc12
        refine a_iload_n (pc := 7) dX9_mustBe_7 rfl ?_
        refine a_if_ne (tgt := 21) (pc := 8) dX9_mustBe_8 (by decide) (fun _ => ?_) (fun hc => absurd hc (by decide))
        refine a_vret (pc := 21) dX9_mustBe_21 rfl rfl (Nat.le_of_ble_eq_true rfl) ⟨rfl, ?_⟩
        refine a_aload_n (pc := 89) dX9_readLine_89 (by decide) rfl ?_
        refine a_getI (y := 28) (pc := 90) dX9_readLine_90 fl_RX9_179 (by decide) s0_275 (Or.inr rfl) rfl ?_
        refine a_if_ne (tgt := 123) (pc := 93) dX9_readLine_93 (by decide) (fun hc => absurd hc12 hc) (fun _ => ?_)
        refine a_iload_n (pc := 96) dX9_readLine_96 rfl ?_
        refine a_iconst (pc := 97) dX9_readLine_97 (by decide) ?_
        refine a_iload (pc := 98) dX9_readLine_98 rfl ?_
        refine a_ishl (z := (2 : Int) ^ (r6).toNat) (pc := 100) dX9_readLine_100 rfl ho9.1 ho9.2 rfl ?_
        have ho13 := h.1
        replace h := h.2
        refine a_ior (z := (((l3 : Int).toNat ||| ((2 : Int) ^ (r6).toNat : Int).toNat : Nat) : Int)) (pc := 101) dX9_readLine_101 ho8 ho13 rfl ?_
        refine a_istore_n (ls1 := [(2, 275), (9, 0), (0, l2), (0, (((l3 : Int).toNat ||| ((2 : Int) ^ (r6).toNat : Int).toNat : Nat) : Int)), (0, l4), (0, l5), (0, r6)]) (pc := 102) dX9_readLine_102 (by decide) (hp1 (t := 0) rfl (by decide)) rfl ?_
        refine a_aload_n (pc := 103) dX9_readLine_103 (by decide) rfl ?_
        refine a_getR (y := 278) (pc := 104) dX9_readLine_104 fl_RX9_16 (by decide) s0_275 rfl rfl ?_
        refine a_bipush (pc := 107) dX9_readLine_107 (by decide) (by decide +kernel) ?_
        refine a_aload_n (pc := 109) dX9_readLine_109 (by decide) rfl ?_
        refine a_getI (y := 0) (pc := 110) dX9_readLine_110 fl_RX9_98 (by decide) s0_275 (Or.inl rfl) rfl ?_
        have ho14 := h.1
        replace h := h.2
        refine a_imul (pc := 113) dX9_readLine_113 ho14 ?_
        refine a_iload (pc := 114) dX9_readLine_114 rfl ?_
        have ho15 := h.1
        replace h := h.2
        refine a_iadd (pc := 116) dX9_readLine_116 ho15 ?_
        refine a_iload (pc := 117) dX9_readLine_117 rfl ?_
        have ho16 := h.1
        replace h := h.2
        refine a_iast (pc := 119) dX9_readLine_119 (by decide) s0_278 ho16.1 ho16.2 ?_
        have ho17 := h.1
        replace h := h.2
        refine a_iinc (ls1 := [(2, 275), (9, 0), (0, l2), (0, (((l3 : Int).toNat ||| ((2 : Int) ^ (r6).toNat : Int).toNat : Nat) : Int)), (0, l4 + 1), (0, l5), (0, r6)]) (pc := 120) dX9_readLine_120 rfl (by decide) (hp1 (t := 0) rfl (by decide)) ho17 rfl ?_
        refine a_aload_n (pc := 123) dX9_readLine_123 (by decide) rfl ?_
        refine a_getI (y := 28) (pc := 124) dX9_readLine_124 fl_RX9_179 (by decide) s0_275 (Or.inr rfl) rfl ?_
        refine a_eq (y := M7 275 28) rfl ?_
        refine a_if_ne (tgt := 150) (pc := 127) dX9_readLine_127 (by decide) (fun hc => absurd hc12 hc) (fun _ => ?_)
        refine a_iload (pc := 130) dX9_readLine_130 rfl ?_
        refine a_bipush (pc := 132) dX9_readLine_132 (by decide) (by decide +kernel) ?_
        refine a_icmp_ge (tgt := 150) (pc := 134) dX9_readLine_134 (by decide) (fun hc18 => ?_) (fun hc18 => ?_)
        · replace h := h.1 hc18
          refine a_iconst (pc := 150) dX9_readLine_150 (by decide) ?_
          refine a_istore (ls1 := [(2, 275), (9, 0), (0, l2), (0, (((l3 : Int).toNat ||| ((2 : Int) ^ (r6).toNat : Int).toNat : Nat) : Int)), (0, l4 + 1), (0, 0), (0, r6)]) (pc := 151) dX9_readLine_151 (by decide) (hp1 (t := 0) rfl (by decide)) rfl ?_
          refine a_goto (tgt := 52) (pc := 153) dX9_readLine_153 (by decide) ?_
          exact a_msk [true, true, true, true, true, true, false] rfl h
        · replace h := h.2 hc18
          refine a_aload_n (pc := 137) dX9_readLine_137 (by decide) rfl ?_
          refine a_bipush (pc := 138) dX9_readLine_138 (by decide) (by decide +kernel) ?_
          refine p_inlV (Ex := _) (As := [(0, 62)]) (st := []) (st1 := fun r => [(0, r)])  (pc := 140) dX9_readLine_140 ml_RX9_187 (by decide) s0_275 rfl (by decide) (Nat.le_of_ble_eq_true rfl) rfl (fun _ => rfl) (by decide) (by decide) (Nat.le_of_ble_eq_true rfl) rfl ?_
          refine a_aload_n (pc := 0) dX9_goesOn_0 (by decide) rfl ?_
          refine a_getI (y := 28) (pc := 1) dX9_goesOn_1 fl_RX9_179 (by decide) s0_275 (Or.inr rfl) rfl ?_
          refine a_eq (y := M7 275 28) rfl ?_
          refine a_if_ne (tgt := 19) (pc := 4) dX9_goesOn_4 (by decide) (fun hc => absurd hc12 hc) (fun _ => ?_)
          refine a_aload_n (pc := 7) dX9_goesOn_7 (by decide) rfl ?_
          refine p_inlV (Ex := _) (As := []) (st := []) (st1 := fun r => [(0, r)])  (pc := 8) dX9_goesOn_8 ml_RX9_183 (by decide) s0_275 rfl (by decide) (Nat.le_of_ble_eq_true rfl) rfl (fun _ => rfl) (by decide) (by decide) (Nat.le_of_ble_eq_true rfl) rfl ?_
          refine a_aload_n (pc := 0) dX9_here_0 (by decide) rfl ?_
          refine a_getI (y := 27) (pc := 1) dX9_here_1 fl_RX9_176 (by decide) s0_275 (Or.inl rfl) rfl ?_
          refine a_eq (y := M7 275 27) rfl ?_
          refine a_aload_n (pc := 4) dX9_here_4 (by decide) rfl ?_
          refine a_getI (y := 26) (pc := 5) dX9_here_5 fl_RX9_173 (by decide) s0_275 (Or.inl rfl) rfl ?_
          refine a_eq (y := M7 275 26) rfl ?_
          refine a_icmp_ge (tgt := 23) (pc := 8) dX9_here_8 (by decide) (fun hc19 => ?_) (fun hc19 => ?_)
          · replace h := h.1 hc19
            refine a_iconst (pc := 23) dX9_here_23 (by decide) ?_
            refine a_ireti (pc := 24) dX9_here_24 rfl rfl (Nat.le_of_ble_eq_true rfl) ⟨rfl, ?_⟩
            refine a_iload_n (pc := 11) dX9_goesOn_11 rfl ?_
            refine a_icmp_ne (tgt := 19) (pc := 12) dX9_goesOn_12 (by decide) (fun _ => ?_) (fun hc => absurd hc (by decide))
            refine a_iconst (pc := 19) dX9_goesOn_19 (by decide) ?_
            refine a_istore_n (ls1 := [(2, 275), (0, 62), (0, 0)]) (pc := 20) dX9_goesOn_20 (by decide) (hp1 (t := 0) rfl (by decide)) rfl ?_
            refine a_aload_n (pc := 21) dX9_goesOn_21 (by decide) rfl ?_
            refine a_dup (pc := 22) dX9_goesOn_22 n21 ?_
            refine a_getI (y := 27) (pc := 23) dX9_goesOn_23 fl_RX9_176 (by decide) s0_275 (Or.inl rfl) rfl ?_
            refine a_eq (y := M7 275 27) rfl ?_
            refine a_iload_n (pc := 26) dX9_goesOn_26 rfl ?_
            refine a_if_eq (tgt := 34) (pc := 27) dX9_goesOn_27 (by decide) (fun _ => ?_) (fun hc => absurd (by decide) hc)
            refine a_iconst (pc := 34) dX9_goesOn_34 (by decide) ?_
            have ho20 := h.1
            replace h := h.2
            refine a_iadd (pc := 35) dX9_goesOn_35 ho20 ?_
            refine a_putI (y := 27) (pc := 36) dX9_goesOn_36 fl_RX9_176 (by decide) s0_275 rfl rfl (tyX9_ok 27 (by decide)) rfl ?_
            refine a_iload_n (pc := 39) dX9_goesOn_39 rfl ?_
            refine a_iretz (pc := 40) dX9_goesOn_40 rfl rfl (Nat.le_of_ble_eq_true rfl) (by decide) ⟨rfl, ?_⟩
            refine a_if_eq (tgt := 150) (pc := 143) dX9_readLine_143 (by decide) (fun _ => ?_) (fun hc => absurd (by decide) hc)
            refine a_iconst (pc := 150) dX9_readLine_150 (by decide) ?_
            refine a_istore (ls1 := [(2, 275), (9, 0), (0, l2), (0, (((l3 : Int).toNat ||| ((2 : Int) ^ (r6).toNat : Int).toNat : Nat) : Int)), (0, l4 + 1), (0, 0), (0, r6)]) (pc := 151) dX9_readLine_151 (by decide) (hp1 (t := 0) rfl (by decide)) rfl ?_
            refine a_goto (tgt := 52) (pc := 153) dX9_readLine_153 (by decide) ?_
            exact a_msk [true, true, true, true, true, true, false] rfl h
          · replace h := h.2 hc19
            refine a_aload_n (pc := 11) dX9_here_11 (by decide) rfl ?_
            refine a_getR (y := 292) (pc := 12) dX9_here_12 fl_RX9_65 (by decide) s0_275 rfl rfl ?_
            refine a_aload_n (pc := 15) dX9_here_15 (by decide) rfl ?_
            refine a_getI (y := 27) (pc := 16) dX9_here_16 fl_RX9_176 (by decide) s0_275 (Or.inl rfl) rfl ?_
            refine a_eq (y := M7 275 27) rfl ?_
            have ho21 := h.1
            replace h := h.2
            refine a_iald (pc := 19) dX9_here_19 (by decide) s0_292 ho21.1 ho21.2 ?_
            refine a_eq (y := M7 292 (M7 275 27)) rfl ?_
            refine a_goto (tgt := 24) (pc := 20) dX9_here_20 (by decide) ?_
            refine a_ireti (pc := 24) dX9_here_24 rfl rfl (Nat.le_of_ble_eq_true rfl) ⟨rfl, ?_⟩
            refine a_iload_n (pc := 11) dX9_goesOn_11 rfl ?_
            refine a_icmp_ne (tgt := 19) (pc := 12) dX9_goesOn_12 (by decide) (fun hc22 => ?_) (fun hc22 => ?_)
            · replace h := h.1 hc22
              refine a_iconst (pc := 19) dX9_goesOn_19 (by decide) ?_
              refine a_istore_n (ls1 := [(2, 275), (0, 62), (0, 0)]) (pc := 20) dX9_goesOn_20 (by decide) (hp1 (t := 0) rfl (by decide)) rfl ?_
              refine a_aload_n (pc := 21) dX9_goesOn_21 (by decide) rfl ?_
              refine a_dup (pc := 22) dX9_goesOn_22 n21 ?_
              refine a_getI (y := 27) (pc := 23) dX9_goesOn_23 fl_RX9_176 (by decide) s0_275 (Or.inl rfl) rfl ?_
              refine a_eq (y := M7 275 27) rfl ?_
              refine a_iload_n (pc := 26) dX9_goesOn_26 rfl ?_
              refine a_if_eq (tgt := 34) (pc := 27) dX9_goesOn_27 (by decide) (fun _ => ?_) (fun hc => absurd (by decide) hc)
              refine a_iconst (pc := 34) dX9_goesOn_34 (by decide) ?_
              have ho23 := h.1
              replace h := h.2
              refine a_iadd (pc := 35) dX9_goesOn_35 ho23 ?_
              refine a_putI (y := 27) (pc := 36) dX9_goesOn_36 fl_RX9_176 (by decide) s0_275 rfl rfl (tyX9_ok 27 (by decide)) rfl ?_
              refine a_iload_n (pc := 39) dX9_goesOn_39 rfl ?_
              refine a_iretz (pc := 40) dX9_goesOn_40 rfl rfl (Nat.le_of_ble_eq_true rfl) (by decide) ⟨rfl, ?_⟩
              refine a_if_eq (tgt := 150) (pc := 143) dX9_readLine_143 (by decide) (fun _ => ?_) (fun hc => absurd (by decide) hc)
              refine a_iconst (pc := 150) dX9_readLine_150 (by decide) ?_
              refine a_istore (ls1 := [(2, 275), (9, 0), (0, l2), (0, (((l3 : Int).toNat ||| ((2 : Int) ^ (r6).toNat : Int).toNat : Nat) : Int)), (0, l4 + 1), (0, 0), (0, r6)]) (pc := 151) dX9_readLine_151 (by decide) (hp1 (t := 0) rfl (by decide)) rfl ?_
              refine a_goto (tgt := 52) (pc := 153) dX9_readLine_153 (by decide) ?_
              exact a_msk [true, true, true, true, true, true, false] rfl h
            · replace h := h.2 hc22
              refine a_iconst (pc := 15) dX9_goesOn_15 (by decide) ?_
              refine a_goto (tgt := 20) (pc := 16) dX9_goesOn_16 (by decide) ?_
              refine a_istore_n (ls1 := [(2, 275), (0, 62), (0, 1)]) (pc := 20) dX9_goesOn_20 (by decide) (hp1 (t := 0) rfl (by decide)) rfl ?_
              refine a_aload_n (pc := 21) dX9_goesOn_21 (by decide) rfl ?_
              refine a_dup (pc := 22) dX9_goesOn_22 n21 ?_
              refine a_getI (y := 27) (pc := 23) dX9_goesOn_23 fl_RX9_176 (by decide) s0_275 (Or.inl rfl) rfl ?_
              refine a_eq (y := M7 275 27) rfl ?_
              refine a_iload_n (pc := 26) dX9_goesOn_26 rfl ?_
              refine a_if_eq (tgt := 34) (pc := 27) dX9_goesOn_27 (by decide) (fun hc => absurd hc (by decide)) (fun _ => ?_)
              refine a_iconst (pc := 30) dX9_goesOn_30 (by decide) ?_
              refine a_goto (tgt := 35) (pc := 31) dX9_goesOn_31 (by decide) ?_
              have ho24 := h.1
              replace h := h.2
              refine a_iadd (pc := 35) dX9_goesOn_35 ho24 ?_
              refine a_putI (y := 27) (pc := 36) dX9_goesOn_36 fl_RX9_176 (by decide) s0_275 rfl rfl (tyX9_ok 27 (by decide)) rfl ?_
              refine a_iload_n (pc := 39) dX9_goesOn_39 rfl ?_
              refine a_iretz (pc := 40) dX9_goesOn_40 rfl rfl (Nat.le_of_ble_eq_true rfl) (by decide) ⟨rfl, ?_⟩
              refine a_if_eq (tgt := 150) (pc := 143) dX9_readLine_143 (by decide) (fun hc => absurd hc (by decide)) (fun _ => ?_)
              refine a_iconst (pc := 146) dX9_readLine_146 (by decide) ?_
              refine a_goto (tgt := 151) (pc := 147) dX9_readLine_147 (by decide) ?_
              refine a_istore (ls1 := [(2, 275), (9, 0), (0, l2), (0, (((l3 : Int).toNat ||| ((2 : Int) ^ (r6).toNat : Int).toNat : Nat) : Int)), (0, l4 + 1), (0, 1), (0, r6)]) (pc := 151) dX9_readLine_151 (by decide) (hp1 (t := 0) rfl (by decide)) rfl ?_
              refine a_goto (tgt := 52) (pc := 153) dX9_readLine_153 (by decide) ?_
              exact a_msk [true, true, true, true, true, true, false] rfl h
theorem E_R_readLine {l1 : Int} {M : Mem} {Q : Int → Mem → Prop} (h : AW mX9_readLine 0 [(2, 275), (0, l1), (9, 0), (9, 0), (9, 0), (9, 0), (9, 0)] M Q) : Calls mX9_readLine [(2, 275), (0, l1)] S0 M Q := calls_of (by decide) (by decide) (Nat.le_of_ble_eq_true rfl) rfl h
set_option maxRecDepth 100000 in
set_option maxHeartbeats 4000000 in
theorem B_R_readTrip_0 {l1 : Int} {M : Mem} {Q : Int → Mem → Prop} (h : (-2147483648 ≤ (M 275 0) - 1 ∧ (M 275 0) - 1 ≤ 2147483647) ∧ Calls mX9_readWithin [(2, 275), (0, 1), (0, 0), (0, (M 275 0) - 1)] S0 M (fun r2 M3 => ((¬ (M3 275 28) = 0 → Calls mX9_wants [(2, 275), (0, 58)] S0 M3 (fun r5 M6 => Calls mX9_readWithin [(2, 275), (0, 4), (0, 0), (0, 1999)] S0 M6 (fun r7 M8 => (((M8 275 28) = 0 → ((0 : Int) ≤ r2 ∧ r2 < 8) ∧ (-2147483648 ≤ 6 * r2 ∧ 6 * r2 ≤ 2147483647) ∧ (-2147483648 ≤ (6 * r2) + (M8 279 r2) ∧ (6 * r2) + (M8 279 r2) ≤ 2147483647) ∧ ((0 : Int) ≤ (6 * r2) + (M8 279 r2) ∧ (6 * r2) + (M8 279 r2) < 48) ∧ (-2147483648 ≤ 36 * r2 ∧ 36 * r2 ≤ 2147483647) ∧ (-2147483648 ≤ 6 * (M8 279 r2) ∧ 6 * (M8 279 r2) ≤ 2147483647) ∧ (-2147483648 ≤ (36 * r2) + (6 * (M8 279 r2)) ∧ (36 * r2) + (6 * (M8 279 r2)) ≤ 2147483647) ∧ ((0 : Int) ≤ (36 * r2) + (6 * (M8 279 r2)) ∧ (36 * r2) + (6 * (M8 279 r2)) < 288) ∧ AW mX9_readTrip 105 [(2, 275), (9, 0), (0, r2), (0, r7), (0, M8 279 r2), (0, 1)] (up2 (up2 M8 280 ((6 * r2) + (M8 279 r2)) r7) 281 ((36 * r2) + (6 * (M8 279 r2))) r7) Q) ∧ (¬ (M8 275 28) = 0 → Q 0 M8))))) ∧ ((M3 275 28) = 0 → ((0 : Int) ≤ r2 ∧ r2 < 8) ∧ ((6 ≤ (M3 279 r2) → Calls mX9_wants [(2, 275), (0, 58)] S0 (up2 (up2 M3 275 28 1) 275 27 l1) (fun r20 M21 => Calls mX9_readWithin [(2, 275), (0, 4), (0, 0), (0, 1999)] S0 M21 (fun r22 M23 => (((M23 275 28) = 0 → (-2147483648 ≤ 6 * r2 ∧ 6 * r2 ≤ 2147483647) ∧ (-2147483648 ≤ (6 * r2) + (M23 279 r2) ∧ (6 * r2) + (M23 279 r2) ≤ 2147483647) ∧ ((0 : Int) ≤ (6 * r2) + (M23 279 r2) ∧ (6 * r2) + (M23 279 r2) < 48) ∧ (-2147483648 ≤ 36 * r2 ∧ 36 * r2 ≤ 2147483647) ∧ (-2147483648 ≤ 6 * (M23 279 r2) ∧ 6 * (M23 279 r2) ≤ 2147483647) ∧ (-2147483648 ≤ (36 * r2) + (6 * (M23 279 r2)) ∧ (36 * r2) + (6 * (M23 279 r2)) ≤ 2147483647) ∧ ((0 : Int) ≤ (36 * r2) + (6 * (M23 279 r2)) ∧ (36 * r2) + (6 * (M23 279 r2)) < 288) ∧ AW mX9_readTrip 105 [(2, 275), (9, 0), (0, r2), (0, r22), (0, M23 279 r2), (0, 1)] (up2 (up2 M23 280 ((6 * r2) + (M23 279 r2)) r22) 281 ((36 * r2) + (6 * (M23 279 r2))) r22) Q) ∧ (¬ (M23 275 28) = 0 → Q 0 M23))))) ∧ (¬ (6 ≤ (M3 279 r2)) → Calls mX9_wants [(2, 275), (0, 58)] S0 M3 (fun r32 M33 => Calls mX9_readWithin [(2, 275), (0, 4), (0, 0), (0, 1999)] S0 M33 (fun r34 M35 => (((M35 275 28) = 0 → (-2147483648 ≤ 6 * r2 ∧ 6 * r2 ≤ 2147483647) ∧ (-2147483648 ≤ (6 * r2) + (M35 279 r2) ∧ (6 * r2) + (M35 279 r2) ≤ 2147483647) ∧ ((0 : Int) ≤ (6 * r2) + (M35 279 r2) ∧ (6 * r2) + (M35 279 r2) < 48) ∧ (-2147483648 ≤ 36 * r2 ∧ 36 * r2 ≤ 2147483647) ∧ (-2147483648 ≤ 6 * (M35 279 r2) ∧ 6 * (M35 279 r2) ≤ 2147483647) ∧ (-2147483648 ≤ (36 * r2) + (6 * (M35 279 r2)) ∧ (36 * r2) + (6 * (M35 279 r2)) ≤ 2147483647) ∧ ((0 : Int) ≤ (36 * r2) + (6 * (M35 279 r2)) ∧ (36 * r2) + (6 * (M35 279 r2)) < 288) ∧ AW mX9_readTrip 105 [(2, 275), (9, 0), (0, r2), (0, r34), (0, M35 279 r2), (0, 1)] (up2 (up2 M35 280 ((6 * r2) + (M35 279 r2)) r34) 281 ((36 * r2) + (6 * (M35 279 r2))) r34) Q) ∧ (¬ (M35 275 28) = 0 → Q 0 M35)))))))))) : AW mX9_readTrip 0 [(2, 275), (0, l1), (9, 0), (9, 0), (9, 0), (9, 0)] M Q := by
  refine a_aload_n (pc := 0) dX9_readTrip_0 (by decide) rfl ?_
  refine a_iconst (pc := 1) dX9_readTrip_1 (by decide) ?_
  refine a_iconst (pc := 2) dX9_readTrip_2 (by decide) ?_
  refine a_aload_n (pc := 3) dX9_readTrip_3 (by decide) rfl ?_
  refine a_getI (y := 0) (pc := 4) dX9_readTrip_4 fl_RX9_98 (by decide) s0_275 (Or.inl rfl) rfl ?_
  refine a_iconst (pc := 7) dX9_readTrip_7 (by decide) ?_
  have ho1 := h.1
  replace h := h.2
  refine a_isub (pc := 8) dX9_readTrip_8 ho1 ?_
  refine p_callV (As := [(0, 1), (0, 0), (0, (M 275 0) - 1)]) (st := []) (st1 := fun r => [(0, r)])  (pc := 9) dX9_readTrip_9 ml_RX9_205 (by decide) s0_275 rfl (by decide) (Nat.le_of_ble_eq_true rfl) rfl (fun _ => rfl) h (fun r2 M3 h => ?_)
  refine a_istore_n (ls1 := [(2, 275), (0, l1), (0, r2), (9, 0), (9, 0), (9, 0)]) (pc := 12) dX9_readTrip_12 (by decide) (hp1 (t := 0) rfl (by decide)) rfl ?_
  refine a_aload_n (pc := 13) dX9_readTrip_13 (by decide) rfl ?_
  refine a_aload_n (pc := 14) dX9_readTrip_14 (by decide) rfl ?_
  refine a_getI (y := 28) (pc := 15) dX9_readTrip_15 fl_RX9_179 (by decide) s0_275 (Or.inr rfl) rfl ?_
  refine a_if_ne (tgt := 32) (pc := 18) dX9_readTrip_18 (by decide) (fun hc4 => ?_) (fun hc4 => ?_)
  · replace h := h.1 hc4
    refine a_iconst (pc := 32) dX9_readTrip_32 (by decide) ?_
    refine a_goto (tgt := 37) (pc := 33) dX9_readTrip_33 (by decide) ?_
    refine a_iload_n (pc := 37) dX9_readTrip_37 rfl ?_
    refine p_inlV (Ex := _) (As := [(0, 1), (0, l1)]) (st := []) (st1 := fun r => [])  (pc := 38) dX9_readTrip_38 ml_RX9_201 (by decide) s0_275 rfl (by decide) (Nat.le_of_ble_eq_true rfl) rfl (fun _ => rfl) (by decide) (by decide) (Nat.le_of_ble_eq_true rfl) rfl ?_
    refine a_aload_n (pc := 0) dX9_mustBe_0 (by decide) rfl ?_
    refine a_getI (y := 28) (pc := 1) dX9_mustBe_1 fl_RX9_179 (by decide) s0_275 (Or.inr rfl) rfl ?_
    refine a_if_ne (tgt := 21) (pc := 4) dX9_mustBe_4 (by decide) (fun _ => ?_) (fun hc => absurd hc hc4)
    refine a_vret (pc := 21) dX9_mustBe_21 rfl rfl (Nat.le_of_ble_eq_true rfl) ⟨rfl, ?_⟩
    refine a_aload_n (pc := 41) dX9_readTrip_41 (by decide) rfl ?_
    refine a_bipush (pc := 42) dX9_readTrip_42 (by decide) (by decide +kernel) ?_
    refine p_callV (As := [(0, 58)]) (st := []) (st1 := fun r => [])  (pc := 44) dX9_readTrip_44 ml_RX9_208 (by decide) s0_275 rfl (by decide) (Nat.le_of_ble_eq_true rfl) rfl (fun _ => rfl) h (fun r5 M6 h => ?_)
    refine a_aload_n (pc := 47) dX9_readTrip_47 (by decide) rfl ?_
    refine a_iconst (pc := 48) dX9_readTrip_48 (by decide) ?_
    refine a_iconst (pc := 49) dX9_readTrip_49 (by decide) ?_
    refine a_sipush (pc := 50) dX9_readTrip_50 (by decide) (by decide +kernel) ?_
    refine p_callV (As := [(0, 4), (0, 0), (0, 1999)]) (st := []) (st1 := fun r => [(0, r)])  (pc := 53) dX9_readTrip_53 ml_RX9_205 (by decide) s0_275 rfl (by decide) (Nat.le_of_ble_eq_true rfl) rfl (fun _ => rfl) h (fun r7 M8 h => ?_)
    refine a_istore_n (ls1 := [(2, 275), (0, l1), (0, r2), (0, r7), (9, 0), (9, 0)]) (pc := 56) dX9_readTrip_56 (by decide) (hp1 (t := 0) rfl (by decide)) rfl ?_
    refine a_aload_n (pc := 57) dX9_readTrip_57 (by decide) rfl ?_
    refine a_getI (y := 28) (pc := 58) dX9_readTrip_58 fl_RX9_179 (by decide) s0_275 (Or.inr rfl) rfl ?_
    refine a_if_eq (tgt := 65) (pc := 61) dX9_readTrip_61 (by decide) (fun hc9 => ?_) (fun hc9 => ?_)
    · replace h := h.1 hc9
      refine a_aload_n (pc := 65) dX9_readTrip_65 (by decide) rfl ?_
      refine a_getR (y := 279) (pc := 66) dX9_readTrip_66 fl_RX9_19 (by decide) s0_275 rfl rfl ?_
      refine a_iload_n (pc := 69) dX9_readTrip_69 rfl ?_
      have ho10 := h.1
      replace h := h.2
      refine a_iald (pc := 70) dX9_readTrip_70 (by decide) s0_279 ho10.1 ho10.2 ?_
      refine a_istore (ls1 := [(2, 275), (0, l1), (0, r2), (0, r7), (0, M8 279 r2), (9, 0)]) (pc := 71) dX9_readTrip_71 (by decide) (hp1 (t := 0) rfl (by decide)) rfl ?_
      refine a_aload_n (pc := 73) dX9_readTrip_73 (by decide) rfl ?_
      refine a_getR (y := 280) (pc := 74) dX9_readTrip_74 fl_RX9_22 (by decide) s0_275 rfl rfl ?_
      refine a_bipush (pc := 77) dX9_readTrip_77 (by decide) (by decide +kernel) ?_
      refine a_iload_n (pc := 79) dX9_readTrip_79 rfl ?_
      have ho11 := h.1
      replace h := h.2
      refine a_imul (pc := 80) dX9_readTrip_80 ho11 ?_
      refine a_iload (pc := 81) dX9_readTrip_81 rfl ?_
      have ho12 := h.1
      replace h := h.2
      refine a_iadd (pc := 83) dX9_readTrip_83 ho12 ?_
      refine a_iload_n (pc := 84) dX9_readTrip_84 rfl ?_
      have ho13 := h.1
      replace h := h.2
      refine a_iast (pc := 85) dX9_readTrip_85 (by decide) s0_280 ho13.1 ho13.2 ?_
      refine a_aload_n (pc := 86) dX9_readTrip_86 (by decide) rfl ?_
      refine a_getR (y := 281) (pc := 87) dX9_readTrip_87 fl_RX9_25 (by decide) s0_275 rfl rfl ?_
      refine a_bipush (pc := 90) dX9_readTrip_90 (by decide) (by decide +kernel) ?_
      refine a_iload_n (pc := 92) dX9_readTrip_92 rfl ?_
      have ho14 := h.1
      replace h := h.2
      refine a_imul (pc := 93) dX9_readTrip_93 ho14 ?_
      refine a_bipush (pc := 94) dX9_readTrip_94 (by decide) (by decide +kernel) ?_
      refine a_iload (pc := 96) dX9_readTrip_96 rfl ?_
      have ho15 := h.1
      replace h := h.2
      refine a_imul (pc := 98) dX9_readTrip_98 ho15 ?_
      have ho16 := h.1
      replace h := h.2
      refine a_iadd (pc := 99) dX9_readTrip_99 ho16 ?_
      refine a_iload_n (pc := 100) dX9_readTrip_100 rfl ?_
      have ho17 := h.1
      replace h := h.2
      refine a_iast (pc := 101) dX9_readTrip_101 (by decide) s0_281 ho17.1 ho17.2 ?_
      refine a_iconst (pc := 102) dX9_readTrip_102 (by decide) ?_
      refine a_istore (ls1 := [(2, 275), (0, l1), (0, r2), (0, r7), (0, M8 279 r2), (0, 1)]) (pc := 103) dX9_readTrip_103 (by decide) (hp1 (t := 0) rfl (by decide)) rfl ?_
      exact a_msk [true, false, true, true, true, true] rfl h
    · replace h := h.2 hc9
      exact a_vret (pc := 64) dX9_readTrip_64 rfl rfl (Nat.le_of_ble_eq_true rfl) ⟨rfl, h⟩
  · replace h := h.2 hc4
    refine a_aload_n (pc := 21) dX9_readTrip_21 (by decide) rfl ?_
    refine a_getR (y := 279) (pc := 22) dX9_readTrip_22 fl_RX9_19 (by decide) s0_275 rfl rfl ?_
    refine a_iload_n (pc := 25) dX9_readTrip_25 rfl ?_
    have ho18 := h.1
    replace h := h.2
    refine a_iald (pc := 26) dX9_readTrip_26 (by decide) s0_279 ho18.1 ho18.2 ?_
    refine a_bipush (pc := 27) dX9_readTrip_27 (by decide) (by decide +kernel) ?_
    refine a_icmp_ge (tgt := 36) (pc := 29) dX9_readTrip_29 (by decide) (fun hc19 => ?_) (fun hc19 => ?_)
    · replace h := h.1 hc19
      refine a_iconst (pc := 36) dX9_readTrip_36 (by decide) ?_
      refine a_iload_n (pc := 37) dX9_readTrip_37 rfl ?_
      refine p_inlV (Ex := _) (As := [(0, 0), (0, l1)]) (st := []) (st1 := fun r => [])  (pc := 38) dX9_readTrip_38 ml_RX9_201 (by decide) s0_275 rfl (by decide) (Nat.le_of_ble_eq_true rfl) rfl (fun _ => rfl) (by decide) (by decide) (Nat.le_of_ble_eq_true rfl) rfl ?_
      refine a_aload_n (pc := 0) dX9_mustBe_0 (by decide) rfl ?_
      refine a_getI (y := 28) (pc := 1) dX9_mustBe_1 fl_RX9_179 (by decide) s0_275 (Or.inr rfl) rfl ?_
      refine a_if_ne (tgt := 21) (pc := 4) dX9_mustBe_4 (by decide) (fun hc => absurd hc4 hc) (fun _ => ?_)
      refine a_iload_n (pc := 7) dX9_mustBe_7 rfl ?_
      refine a_if_ne (tgt := 21) (pc := 8) dX9_mustBe_8 (by decide) (fun hc => absurd rfl hc) (fun _ => ?_)
      refine a_aload_n (pc := 11) dX9_mustBe_11 (by decide) rfl ?_
      refine a_iconst (pc := 12) dX9_mustBe_12 (by decide) ?_
      refine a_putZ (y := 28) (pc := 13) dX9_mustBe_13 fl_RX9_179 (by decide) s0_275 rfl rfl (tyX9_ok 28 (by decide)) rfl (by decide) ?_
      refine a_aload_n (pc := 16) dX9_mustBe_16 (by decide) rfl ?_
      refine a_iload_n (pc := 17) dX9_mustBe_17 rfl ?_
      refine a_putI (y := 27) (pc := 18) dX9_mustBe_18 fl_RX9_176 (by decide) s0_275 rfl rfl (tyX9_ok 27 (by decide)) rfl ?_
      refine a_vret (pc := 21) dX9_mustBe_21 rfl rfl (Nat.le_of_ble_eq_true rfl) ⟨rfl, ?_⟩
      refine a_aload_n (pc := 41) dX9_readTrip_41 (by decide) rfl ?_
      refine a_bipush (pc := 42) dX9_readTrip_42 (by decide) (by decide +kernel) ?_
      refine p_callV (As := [(0, 58)]) (st := []) (st1 := fun r => [])  (pc := 44) dX9_readTrip_44 ml_RX9_208 (by decide) s0_275 rfl (by decide) (Nat.le_of_ble_eq_true rfl) rfl (fun _ => rfl) h (fun r20 M21 h => ?_)
      refine a_aload_n (pc := 47) dX9_readTrip_47 (by decide) rfl ?_
      refine a_iconst (pc := 48) dX9_readTrip_48 (by decide) ?_
      refine a_iconst (pc := 49) dX9_readTrip_49 (by decide) ?_
      refine a_sipush (pc := 50) dX9_readTrip_50 (by decide) (by decide +kernel) ?_
      refine p_callV (As := [(0, 4), (0, 0), (0, 1999)]) (st := []) (st1 := fun r => [(0, r)])  (pc := 53) dX9_readTrip_53 ml_RX9_205 (by decide) s0_275 rfl (by decide) (Nat.le_of_ble_eq_true rfl) rfl (fun _ => rfl) h (fun r22 M23 h => ?_)
      refine a_istore_n (ls1 := [(2, 275), (0, l1), (0, r2), (0, r22), (9, 0), (9, 0)]) (pc := 56) dX9_readTrip_56 (by decide) (hp1 (t := 0) rfl (by decide)) rfl ?_
      refine a_aload_n (pc := 57) dX9_readTrip_57 (by decide) rfl ?_
      refine a_getI (y := 28) (pc := 58) dX9_readTrip_58 fl_RX9_179 (by decide) s0_275 (Or.inr rfl) rfl ?_
      refine a_if_eq (tgt := 65) (pc := 61) dX9_readTrip_61 (by decide) (fun hc24 => ?_) (fun hc24 => ?_)
      · replace h := h.1 hc24
        refine a_aload_n (pc := 65) dX9_readTrip_65 (by decide) rfl ?_
        refine a_getR (y := 279) (pc := 66) dX9_readTrip_66 fl_RX9_19 (by decide) s0_275 rfl rfl ?_
        refine a_iload_n (pc := 69) dX9_readTrip_69 rfl ?_
        refine a_iald (pc := 70) dX9_readTrip_70 (by decide) s0_279 ho18.1 ho18.2 ?_
        refine a_istore (ls1 := [(2, 275), (0, l1), (0, r2), (0, r22), (0, M23 279 r2), (9, 0)]) (pc := 71) dX9_readTrip_71 (by decide) (hp1 (t := 0) rfl (by decide)) rfl ?_
        refine a_aload_n (pc := 73) dX9_readTrip_73 (by decide) rfl ?_
        refine a_getR (y := 280) (pc := 74) dX9_readTrip_74 fl_RX9_22 (by decide) s0_275 rfl rfl ?_
        refine a_bipush (pc := 77) dX9_readTrip_77 (by decide) (by decide +kernel) ?_
        refine a_iload_n (pc := 79) dX9_readTrip_79 rfl ?_
        have ho25 := h.1
        replace h := h.2
        refine a_imul (pc := 80) dX9_readTrip_80 ho25 ?_
        refine a_iload (pc := 81) dX9_readTrip_81 rfl ?_
        have ho26 := h.1
        replace h := h.2
        refine a_iadd (pc := 83) dX9_readTrip_83 ho26 ?_
        refine a_iload_n (pc := 84) dX9_readTrip_84 rfl ?_
        have ho27 := h.1
        replace h := h.2
        refine a_iast (pc := 85) dX9_readTrip_85 (by decide) s0_280 ho27.1 ho27.2 ?_
        refine a_aload_n (pc := 86) dX9_readTrip_86 (by decide) rfl ?_
        refine a_getR (y := 281) (pc := 87) dX9_readTrip_87 fl_RX9_25 (by decide) s0_275 rfl rfl ?_
        refine a_bipush (pc := 90) dX9_readTrip_90 (by decide) (by decide +kernel) ?_
        refine a_iload_n (pc := 92) dX9_readTrip_92 rfl ?_
        have ho28 := h.1
        replace h := h.2
        refine a_imul (pc := 93) dX9_readTrip_93 ho28 ?_
        refine a_bipush (pc := 94) dX9_readTrip_94 (by decide) (by decide +kernel) ?_
        refine a_iload (pc := 96) dX9_readTrip_96 rfl ?_
        have ho29 := h.1
        replace h := h.2
        refine a_imul (pc := 98) dX9_readTrip_98 ho29 ?_
        have ho30 := h.1
        replace h := h.2
        refine a_iadd (pc := 99) dX9_readTrip_99 ho30 ?_
        refine a_iload_n (pc := 100) dX9_readTrip_100 rfl ?_
        have ho31 := h.1
        replace h := h.2
        refine a_iast (pc := 101) dX9_readTrip_101 (by decide) s0_281 ho31.1 ho31.2 ?_
        refine a_iconst (pc := 102) dX9_readTrip_102 (by decide) ?_
        refine a_istore (ls1 := [(2, 275), (0, l1), (0, r2), (0, r22), (0, M23 279 r2), (0, 1)]) (pc := 103) dX9_readTrip_103 (by decide) (hp1 (t := 0) rfl (by decide)) rfl ?_
        exact a_msk [true, false, true, true, true, true] rfl h
      · replace h := h.2 hc24
        exact a_vret (pc := 64) dX9_readTrip_64 rfl rfl (Nat.le_of_ble_eq_true rfl) ⟨rfl, h⟩
    · replace h := h.2 hc19
      refine a_iconst (pc := 32) dX9_readTrip_32 (by decide) ?_
      refine a_goto (tgt := 37) (pc := 33) dX9_readTrip_33 (by decide) ?_
      refine a_iload_n (pc := 37) dX9_readTrip_37 rfl ?_
      refine p_inlV (Ex := _) (As := [(0, 1), (0, l1)]) (st := []) (st1 := fun r => [])  (pc := 38) dX9_readTrip_38 ml_RX9_201 (by decide) s0_275 rfl (by decide) (Nat.le_of_ble_eq_true rfl) rfl (fun _ => rfl) (by decide) (by decide) (Nat.le_of_ble_eq_true rfl) rfl ?_
      refine a_aload_n (pc := 0) dX9_mustBe_0 (by decide) rfl ?_
      refine a_getI (y := 28) (pc := 1) dX9_mustBe_1 fl_RX9_179 (by decide) s0_275 (Or.inr rfl) rfl ?_
      refine a_if_ne (tgt := 21) (pc := 4) dX9_mustBe_4 (by decide) (fun hc => absurd hc4 hc) (fun _ => ?_)
      refine a_iload_n (pc := 7) dX9_mustBe_7 rfl ?_
      refine a_if_ne (tgt := 21) (pc := 8) dX9_mustBe_8 (by decide) (fun _ => ?_) (fun hc => absurd hc (by decide))
      refine a_vret (pc := 21) dX9_mustBe_21 rfl rfl (Nat.le_of_ble_eq_true rfl) ⟨rfl, ?_⟩
      refine a_aload_n (pc := 41) dX9_readTrip_41 (by decide) rfl ?_
      refine a_bipush (pc := 42) dX9_readTrip_42 (by decide) (by decide +kernel) ?_
      refine p_callV (As := [(0, 58)]) (st := []) (st1 := fun r => [])  (pc := 44) dX9_readTrip_44 ml_RX9_208 (by decide) s0_275 rfl (by decide) (Nat.le_of_ble_eq_true rfl) rfl (fun _ => rfl) h (fun r32 M33 h => ?_)
      refine a_aload_n (pc := 47) dX9_readTrip_47 (by decide) rfl ?_
      refine a_iconst (pc := 48) dX9_readTrip_48 (by decide) ?_
      refine a_iconst (pc := 49) dX9_readTrip_49 (by decide) ?_
      refine a_sipush (pc := 50) dX9_readTrip_50 (by decide) (by decide +kernel) ?_
      refine p_callV (As := [(0, 4), (0, 0), (0, 1999)]) (st := []) (st1 := fun r => [(0, r)])  (pc := 53) dX9_readTrip_53 ml_RX9_205 (by decide) s0_275 rfl (by decide) (Nat.le_of_ble_eq_true rfl) rfl (fun _ => rfl) h (fun r34 M35 h => ?_)
      refine a_istore_n (ls1 := [(2, 275), (0, l1), (0, r2), (0, r34), (9, 0), (9, 0)]) (pc := 56) dX9_readTrip_56 (by decide) (hp1 (t := 0) rfl (by decide)) rfl ?_
      refine a_aload_n (pc := 57) dX9_readTrip_57 (by decide) rfl ?_
      refine a_getI (y := 28) (pc := 58) dX9_readTrip_58 fl_RX9_179 (by decide) s0_275 (Or.inr rfl) rfl ?_
      refine a_if_eq (tgt := 65) (pc := 61) dX9_readTrip_61 (by decide) (fun hc36 => ?_) (fun hc36 => ?_)
      · replace h := h.1 hc36
        refine a_aload_n (pc := 65) dX9_readTrip_65 (by decide) rfl ?_
        refine a_getR (y := 279) (pc := 66) dX9_readTrip_66 fl_RX9_19 (by decide) s0_275 rfl rfl ?_
        refine a_iload_n (pc := 69) dX9_readTrip_69 rfl ?_
        refine a_iald (pc := 70) dX9_readTrip_70 (by decide) s0_279 ho18.1 ho18.2 ?_
        refine a_istore (ls1 := [(2, 275), (0, l1), (0, r2), (0, r34), (0, M35 279 r2), (9, 0)]) (pc := 71) dX9_readTrip_71 (by decide) (hp1 (t := 0) rfl (by decide)) rfl ?_
        refine a_aload_n (pc := 73) dX9_readTrip_73 (by decide) rfl ?_
        refine a_getR (y := 280) (pc := 74) dX9_readTrip_74 fl_RX9_22 (by decide) s0_275 rfl rfl ?_
        refine a_bipush (pc := 77) dX9_readTrip_77 (by decide) (by decide +kernel) ?_
        refine a_iload_n (pc := 79) dX9_readTrip_79 rfl ?_
        have ho37 := h.1
        replace h := h.2
        refine a_imul (pc := 80) dX9_readTrip_80 ho37 ?_
        refine a_iload (pc := 81) dX9_readTrip_81 rfl ?_
        have ho38 := h.1
        replace h := h.2
        refine a_iadd (pc := 83) dX9_readTrip_83 ho38 ?_
        refine a_iload_n (pc := 84) dX9_readTrip_84 rfl ?_
        have ho39 := h.1
        replace h := h.2
        refine a_iast (pc := 85) dX9_readTrip_85 (by decide) s0_280 ho39.1 ho39.2 ?_
        refine a_aload_n (pc := 86) dX9_readTrip_86 (by decide) rfl ?_
        refine a_getR (y := 281) (pc := 87) dX9_readTrip_87 fl_RX9_25 (by decide) s0_275 rfl rfl ?_
        refine a_bipush (pc := 90) dX9_readTrip_90 (by decide) (by decide +kernel) ?_
        refine a_iload_n (pc := 92) dX9_readTrip_92 rfl ?_
        have ho40 := h.1
        replace h := h.2
        refine a_imul (pc := 93) dX9_readTrip_93 ho40 ?_
        refine a_bipush (pc := 94) dX9_readTrip_94 (by decide) (by decide +kernel) ?_
        refine a_iload (pc := 96) dX9_readTrip_96 rfl ?_
        have ho41 := h.1
        replace h := h.2
        refine a_imul (pc := 98) dX9_readTrip_98 ho41 ?_
        have ho42 := h.1
        replace h := h.2
        refine a_iadd (pc := 99) dX9_readTrip_99 ho42 ?_
        refine a_iload_n (pc := 100) dX9_readTrip_100 rfl ?_
        have ho43 := h.1
        replace h := h.2
        refine a_iast (pc := 101) dX9_readTrip_101 (by decide) s0_281 ho43.1 ho43.2 ?_
        refine a_iconst (pc := 102) dX9_readTrip_102 (by decide) ?_
        refine a_istore (ls1 := [(2, 275), (0, l1), (0, r2), (0, r34), (0, M35 279 r2), (0, 1)]) (pc := 103) dX9_readTrip_103 (by decide) (hp1 (t := 0) rfl (by decide)) rfl ?_
        exact a_msk [true, false, true, true, true, true] rfl h
      · replace h := h.2 hc36
        exact a_vret (pc := 64) dX9_readTrip_64 rfl rfl (Nat.le_of_ble_eq_true rfl) ⟨rfl, h⟩
set_option maxRecDepth 100000 in
set_option maxHeartbeats 4000000 in
theorem B_R_readTrip_105 {l2 l3 l4 l5 : Int} {M : Mem} {Q : Int → Mem → Prop} (h : ((0 : Int) ≤ l2 ∧ l2 < 8) ∧ (((M 277 l2) ≤ l5 → (((M 275 28) = 0 → (-2147483648 ≤ (M 279 l2) + 1 ∧ (M 279 l2) + 1 ≤ 2147483647) ∧ Q 0 (up2 M 279 l2 ((M 279 l2) + 1))) ∧ (¬ (M 275 28) = 0 → (-2147483648 ≤ (M 279 l2) + 0 ∧ (M 279 l2) + 0 ≤ 2147483647) ∧ Q 0 (up2 M 279 l2 ((M 279 l2) + 0))))) ∧ (¬ ((M 277 l2) ≤ l5) → ((¬ (M 275 28) = 0 → (-2147483648 ≤ (M 279 l2) + 0 ∧ (M 279 l2) + 0 ≤ 2147483647) ∧ Q 0 (up2 M 279 l2 ((M 279 l2) + 0))) ∧ ((M 275 28) = 0 → Calls mX9_wants [(2, 275), (0, 43)] S0 M (fun r8 M9 => (-2147483648 ≤ 1999 - l3 ∧ 1999 - l3 ≤ 2147483647) ∧ Calls mX9_readWithin [(2, 275), (0, 3), (0, 1), (0, 1999 - l3)] S0 M9 (fun r11 M12 => (-2147483648 ≤ l3 + r11 ∧ l3 + r11 ≤ 2147483647) ∧ (-2147483648 ≤ 36 * l2 ∧ 36 * l2 ≤ 2147483647) ∧ (-2147483648 ≤ 6 * l4 ∧ 6 * l4 ≤ 2147483647) ∧ (-2147483648 ≤ (36 * l2) + (6 * l4) ∧ (36 * l2) + (6 * l4) ≤ 2147483647) ∧ (-2147483648 ≤ ((36 * l2) + (6 * l4)) + l5 ∧ ((36 * l2) + (6 * l4)) + l5 ≤ 2147483647) ∧ ((0 : Int) ≤ ((36 * l2) + (6 * l4)) + l5 ∧ ((36 * l2) + (6 * l4)) + l5 < 288) ∧ (-2147483648 ≤ l5 + 1 ∧ l5 + 1 ≤ 2147483647) ∧ AW mX9_readTrip 105 [(2, 275), (9, 0), (0, l2), (0, l3 + r11), (0, l4), (0, l5 + 1)] (up2 M12 281 (((36 * l2) + (6 * l4)) + l5) (l3 + r11)) Q))))))) : AW mX9_readTrip 105 [(2, 275), (9, 0), (0, l2), (0, l3), (0, l4), (0, l5)] M Q := by
  refine a_iload (pc := 105) dX9_readTrip_105 rfl ?_
  refine a_aload_n (pc := 107) dX9_readTrip_107 (by decide) rfl ?_
  refine a_getR (y := 277) (pc := 108) dX9_readTrip_108 fl_RX9_13 (by decide) s0_275 rfl rfl ?_
  refine a_iload_n (pc := 111) dX9_readTrip_111 rfl ?_
  have ho1 := h.1
  replace h := h.2
  refine a_iald (pc := 112) dX9_readTrip_112 (by decide) s0_277 ho1.1 ho1.2 ?_
  refine a_icmp_ge (tgt := 168) (pc := 113) dX9_readTrip_113 (by decide) (fun hc2 => ?_) (fun hc2 => ?_)
  · replace h := h.1 hc2
    refine a_aload_n (pc := 168) dX9_readTrip_168 (by decide) rfl ?_
    refine a_getR (y := 279) (pc := 169) dX9_readTrip_169 fl_RX9_19 (by decide) s0_275 rfl rfl ?_
    refine a_iload_n (pc := 172) dX9_readTrip_172 rfl ?_
    refine a_dup2 (pc := 173) dX9_readTrip_173 n01 n21 ?_
    refine a_iald (pc := 174) dX9_readTrip_174 (by decide) s0_279 ho1.1 ho1.2 ?_
    refine a_aload_n (pc := 175) dX9_readTrip_175 (by decide) rfl ?_
    refine a_getI (y := 28) (pc := 176) dX9_readTrip_176 fl_RX9_179 (by decide) s0_275 (Or.inr rfl) rfl ?_
    refine a_if_eq (tgt := 186) (pc := 179) dX9_readTrip_179 (by decide) (fun hc3 => ?_) (fun hc3 => ?_)
    · replace h := h.1 hc3
      refine a_iconst (pc := 186) dX9_readTrip_186 (by decide) ?_
      have ho4 := h.1
      replace h := h.2
      refine a_iadd (pc := 187) dX9_readTrip_187 ho4 ?_
      refine a_iast (pc := 188) dX9_readTrip_188 (by decide) s0_279 ho1.1 ho1.2 ?_
      exact a_vret (pc := 189) dX9_readTrip_189 rfl rfl (Nat.le_of_ble_eq_true rfl) ⟨rfl, h⟩
    · replace h := h.2 hc3
      refine a_iconst (pc := 182) dX9_readTrip_182 (by decide) ?_
      refine a_goto (tgt := 187) (pc := 183) dX9_readTrip_183 (by decide) ?_
      have ho5 := h.1
      replace h := h.2
      refine a_iadd (pc := 187) dX9_readTrip_187 ho5 ?_
      refine a_iast (pc := 188) dX9_readTrip_188 (by decide) s0_279 ho1.1 ho1.2 ?_
      exact a_vret (pc := 189) dX9_readTrip_189 rfl rfl (Nat.le_of_ble_eq_true rfl) ⟨rfl, h⟩
  · replace h := h.2 hc2
    refine a_aload_n (pc := 116) dX9_readTrip_116 (by decide) rfl ?_
    refine a_getI (y := 28) (pc := 117) dX9_readTrip_117 fl_RX9_179 (by decide) s0_275 (Or.inr rfl) rfl ?_
    refine a_if_ne (tgt := 168) (pc := 120) dX9_readTrip_120 (by decide) (fun hc6 => ?_) (fun hc6 => ?_)
    · replace h := h.1 hc6
      refine a_aload_n (pc := 168) dX9_readTrip_168 (by decide) rfl ?_
      refine a_getR (y := 279) (pc := 169) dX9_readTrip_169 fl_RX9_19 (by decide) s0_275 rfl rfl ?_
      refine a_iload_n (pc := 172) dX9_readTrip_172 rfl ?_
      refine a_dup2 (pc := 173) dX9_readTrip_173 n01 n21 ?_
      refine a_iald (pc := 174) dX9_readTrip_174 (by decide) s0_279 ho1.1 ho1.2 ?_
      refine a_aload_n (pc := 175) dX9_readTrip_175 (by decide) rfl ?_
      refine a_getI (y := 28) (pc := 176) dX9_readTrip_176 fl_RX9_179 (by decide) s0_275 (Or.inr rfl) rfl ?_
      refine a_if_eq (tgt := 186) (pc := 179) dX9_readTrip_179 (by decide) (fun hc => absurd hc hc6) (fun _ => ?_)
      refine a_iconst (pc := 182) dX9_readTrip_182 (by decide) ?_
      refine a_goto (tgt := 187) (pc := 183) dX9_readTrip_183 (by decide) ?_
      have ho7 := h.1
      replace h := h.2
      refine a_iadd (pc := 187) dX9_readTrip_187 ho7 ?_
      refine a_iast (pc := 188) dX9_readTrip_188 (by decide) s0_279 ho1.1 ho1.2 ?_
      exact a_vret (pc := 189) dX9_readTrip_189 rfl rfl (Nat.le_of_ble_eq_true rfl) ⟨rfl, h⟩
    · replace h := h.2 hc6
      refine a_aload_n (pc := 123) dX9_readTrip_123 (by decide) rfl ?_
      refine a_bipush (pc := 124) dX9_readTrip_124 (by decide) (by decide +kernel) ?_
      refine p_callV (As := [(0, 43)]) (st := []) (st1 := fun r => [])  (pc := 126) dX9_readTrip_126 ml_RX9_208 (by decide) s0_275 rfl (by decide) (Nat.le_of_ble_eq_true rfl) rfl (fun _ => rfl) h (fun r8 M9 h => ?_)
      refine a_iload_n (pc := 129) dX9_readTrip_129 rfl ?_
      refine a_aload_n (pc := 130) dX9_readTrip_130 (by decide) rfl ?_
      refine a_iconst (pc := 131) dX9_readTrip_131 (by decide) ?_
      refine a_iconst (pc := 132) dX9_readTrip_132 (by decide) ?_
      refine a_sipush (pc := 133) dX9_readTrip_133 (by decide) (by decide +kernel) ?_
      refine a_iload_n (pc := 136) dX9_readTrip_136 rfl ?_
      have ho10 := h.1
      replace h := h.2
      refine a_isub (pc := 137) dX9_readTrip_137 ho10 ?_
      refine p_callV (As := [(0, 3), (0, 1), (0, 1999 - l3)]) (st := [(0, l3)]) (st1 := fun r => [(0, r), (0, l3)])  (pc := 138) dX9_readTrip_138 ml_RX9_205 (by decide) s0_275 rfl (by decide) (Nat.le_of_ble_eq_true rfl) rfl (fun _ => rfl) h (fun r11 M12 h => ?_)
      have ho13 := h.1
      replace h := h.2
      refine a_iadd (pc := 141) dX9_readTrip_141 ho13 ?_
      refine a_istore_n (ls1 := [(2, 275), (9, 0), (0, l2), (0, l3 + r11), (0, l4), (0, l5)]) (pc := 142) dX9_readTrip_142 (by decide) (hp1 (t := 0) rfl (by decide)) rfl ?_
      refine a_aload_n (pc := 143) dX9_readTrip_143 (by decide) rfl ?_
      refine a_getR (y := 281) (pc := 144) dX9_readTrip_144 fl_RX9_25 (by decide) s0_275 rfl rfl ?_
      refine a_bipush (pc := 147) dX9_readTrip_147 (by decide) (by decide +kernel) ?_
      refine a_iload_n (pc := 149) dX9_readTrip_149 rfl ?_
      have ho14 := h.1
      replace h := h.2
      refine a_imul (pc := 150) dX9_readTrip_150 ho14 ?_
      refine a_bipush (pc := 151) dX9_readTrip_151 (by decide) (by decide +kernel) ?_
      refine a_iload (pc := 153) dX9_readTrip_153 rfl ?_
      have ho15 := h.1
      replace h := h.2
      refine a_imul (pc := 155) dX9_readTrip_155 ho15 ?_
      have ho16 := h.1
      replace h := h.2
      refine a_iadd (pc := 156) dX9_readTrip_156 ho16 ?_
      refine a_iload (pc := 157) dX9_readTrip_157 rfl ?_
      have ho17 := h.1
      replace h := h.2
      refine a_iadd (pc := 159) dX9_readTrip_159 ho17 ?_
      refine a_iload_n (pc := 160) dX9_readTrip_160 rfl ?_
      have ho18 := h.1
      replace h := h.2
      refine a_iast (pc := 161) dX9_readTrip_161 (by decide) s0_281 ho18.1 ho18.2 ?_
      have ho19 := h.1
      replace h := h.2
      refine a_iinc (ls1 := [(2, 275), (9, 0), (0, l2), (0, l3 + r11), (0, l4), (0, l5 + 1)]) (pc := 162) dX9_readTrip_162 rfl (by decide) (hp1 (t := 0) rfl (by decide)) ho19 rfl ?_
      refine a_goto (tgt := 105) (pc := 165) dX9_readTrip_165 (by decide) ?_
      exact h
theorem E_R_readTrip {l1 : Int} {M : Mem} {Q : Int → Mem → Prop} (h : AW mX9_readTrip 0 [(2, 275), (0, l1), (9, 0), (9, 0), (9, 0), (9, 0)] M Q) : Calls mX9_readTrip [(2, 275), (0, l1)] S0 M Q := calls_of (by decide) (by decide) (Nat.le_of_ble_eq_true rfl) rfl h
set_option maxRecDepth 100000 in
set_option maxHeartbeats 4000000 in
theorem B_R_told_0 {l1 : Int} {M : Mem} {Q : Int → Mem → Prop} (h : ((l1 < 0 ∨ 6 < l1 → Q (-1) (up2 M 275 8 0)) ∧ (l1 = 0 → Q (M 275 0) (up2 M 275 8 0)) ∧ (l1 = 1 → ((¬ l1 = 3 → Calls mX9_tripsOf [(2, 275), (0, 0)] S0 (up2 M 275 8 0) (fun r2 M3 => Q r2 M3)) ∧ (l1 = 3 → Calls mX9_tripsOf [(2, 275), (0, 1)] S0 (up2 M 275 8 0) (fun r4 M5 => Q r4 M5)))) ∧ (l1 = 2 → Calls mX9_footMany [(2, 275)] S0 (up2 M 275 8 0) (fun r6 M7 => Q r6 M7)) ∧ (l1 = 3 → ((¬ l1 = 3 → Calls mX9_tripsOf [(2, 275), (0, 0)] S0 (up2 M 275 8 0) (fun r9 M10 => Q r9 M10)) ∧ (l1 = 3 → Calls mX9_tripsOf [(2, 275), (0, 1)] S0 (up2 M 275 8 0) (fun r11 M12 => Q r11 M12)))) ∧ (l1 = 4 → Calls mX9_bareStops [(2, 275)] S0 (up2 M 275 8 0) (fun r13 M14 => Q r13 M14)) ∧ (l1 = 5 → Q (M 275 26) (up2 M 275 8 0)) ∧ (l1 = 6 → Q (M 275 37) (up2 M 275 8 0)))) : AW mX9_told 0 [(2, 275), (0, l1)] M Q := by
  refine a_aload_n (pc := 0) dX9_told_0 (by decide) rfl ?_
  refine a_iconst (pc := 1) dX9_told_1 (by decide) ?_
  refine a_putI (y := 8) (pc := 2) dX9_told_2 fl_RX9_87 (by decide) s0_275 rfl rfl (tyX9_ok 8 (by decide)) rfl ?_
  refine a_iload_n (pc := 5) dX9_told_5 rfl ?_
  rcases (show l1 < 0 ∨ 6 < l1 ∨ l1 = 0 ∨ l1 = 1 ∨ l1 = 2 ∨ l1 = 3 ∨ l1 = 4 ∨ l1 = 5 ∨ l1 = 6 by omega) with hc | hc | hc | hc | hc | hc | hc | hc | hc
  · replace h := h.1 (by omega)
    refine a_tabOut (tgt := 88) (pc := 6) dX9_told_6 (by omega) (by decide) ?_
    refine a_iconst (pc := 88) dX9_told_88 (by decide) ?_
    exact a_ireti (pc := 89) dX9_told_89 rfl rfl (Nat.le_of_ble_eq_true rfl) ⟨rfl, h⟩
  · replace h := h.1 (by omega)
    refine a_tabOut (tgt := 88) (pc := 6) dX9_told_6 (by omega) (by decide) ?_
    refine a_iconst (pc := 88) dX9_told_88 (by decide) ?_
    exact a_ireti (pc := 89) dX9_told_89 rfl rfl (Nat.le_of_ble_eq_true rfl) ⟨rfl, h⟩
  · replace h := h.2.1 hc
    refine a_tabIn (v := 0) (off := 42) (tgt := 48) (pc := 6) dX9_told_6 hc (by decide) (by decide) rfl (by decide) ?_
    refine a_aload_n (pc := 48) dX9_told_48 (by decide) rfl ?_
    refine a_getI (y := 0) (pc := 49) dX9_told_49 fl_RX9_98 (by decide) s0_275 (Or.inl rfl) rfl ?_
    refine a_eq (y := M 275 0) rfl ?_
    exact a_ireti (pc := 52) dX9_told_52 rfl rfl (Nat.le_of_ble_eq_true rfl) ⟨rfl, h⟩
  · replace h := h.2.2.1 hc
    refine a_tabIn (v := 1) (off := 47) (tgt := 53) (pc := 6) dX9_told_6 hc (by decide) (by decide) rfl (by decide) ?_
    refine a_aload_n (pc := 53) dX9_told_53 (by decide) rfl ?_
    refine a_iload_n (pc := 54) dX9_told_54 rfl ?_
    refine a_iconst (pc := 55) dX9_told_55 (by decide) ?_
    refine a_icmp_ne (tgt := 63) (pc := 56) dX9_told_56 (by decide) (fun hc1 => ?_) (fun hc1 => ?_)
    · replace h := h.1 hc1
      refine a_iconst (pc := 63) dX9_told_63 (by decide) ?_
      refine p_callV (As := [(0, 0)]) (st := []) (st1 := fun r => [(0, r)])  (pc := 64) dX9_told_64 ml_RX9_333 (by decide) s0_275 rfl (by decide) (Nat.le_of_ble_eq_true rfl) rfl (fun _ => rfl) h (fun r2 M3 h => ?_)
      exact a_ireti (pc := 67) dX9_told_67 rfl rfl (Nat.le_of_ble_eq_true rfl) ⟨rfl, h⟩
    · replace h := h.2 hc1
      refine a_iconst (pc := 59) dX9_told_59 (by decide) ?_
      refine a_goto (tgt := 64) (pc := 60) dX9_told_60 (by decide) ?_
      refine p_callV (As := [(0, 1)]) (st := []) (st1 := fun r => [(0, r)])  (pc := 64) dX9_told_64 ml_RX9_333 (by decide) s0_275 rfl (by decide) (Nat.le_of_ble_eq_true rfl) rfl (fun _ => rfl) h (fun r4 M5 h => ?_)
      exact a_ireti (pc := 67) dX9_told_67 rfl rfl (Nat.le_of_ble_eq_true rfl) ⟨rfl, h⟩
  · replace h := h.2.2.2.1 hc
    refine a_tabIn (v := 2) (off := 62) (tgt := 68) (pc := 6) dX9_told_6 hc (by decide) (by decide) rfl (by decide) ?_
    refine a_aload_n (pc := 68) dX9_told_68 (by decide) rfl ?_
    refine p_callV (As := []) (st := []) (st1 := fun r => [(0, r)])  (pc := 69) dX9_told_69 ml_RX9_337 (by decide) s0_275 rfl (by decide) (Nat.le_of_ble_eq_true rfl) rfl (fun _ => rfl) h (fun r6 M7 h => ?_)
    exact a_ireti (pc := 72) dX9_told_72 rfl rfl (Nat.le_of_ble_eq_true rfl) ⟨rfl, h⟩
  · replace h := h.2.2.2.2.1 hc
    refine a_tabIn (v := 3) (off := 47) (tgt := 53) (pc := 6) dX9_told_6 hc (by decide) (by decide) rfl (by decide) ?_
    refine a_aload_n (pc := 53) dX9_told_53 (by decide) rfl ?_
    refine a_iload_n (pc := 54) dX9_told_54 rfl ?_
    refine a_iconst (pc := 55) dX9_told_55 (by decide) ?_
    refine a_icmp_ne (tgt := 63) (pc := 56) dX9_told_56 (by decide) (fun hc8 => ?_) (fun hc8 => ?_)
    · replace h := h.1 hc8
      refine a_iconst (pc := 63) dX9_told_63 (by decide) ?_
      refine p_callV (As := [(0, 0)]) (st := []) (st1 := fun r => [(0, r)])  (pc := 64) dX9_told_64 ml_RX9_333 (by decide) s0_275 rfl (by decide) (Nat.le_of_ble_eq_true rfl) rfl (fun _ => rfl) h (fun r9 M10 h => ?_)
      exact a_ireti (pc := 67) dX9_told_67 rfl rfl (Nat.le_of_ble_eq_true rfl) ⟨rfl, h⟩
    · replace h := h.2 hc8
      refine a_iconst (pc := 59) dX9_told_59 (by decide) ?_
      refine a_goto (tgt := 64) (pc := 60) dX9_told_60 (by decide) ?_
      refine p_callV (As := [(0, 1)]) (st := []) (st1 := fun r => [(0, r)])  (pc := 64) dX9_told_64 ml_RX9_333 (by decide) s0_275 rfl (by decide) (Nat.le_of_ble_eq_true rfl) rfl (fun _ => rfl) h (fun r11 M12 h => ?_)
      exact a_ireti (pc := 67) dX9_told_67 rfl rfl (Nat.le_of_ble_eq_true rfl) ⟨rfl, h⟩
  · replace h := h.2.2.2.2.2.1 hc
    refine a_tabIn (v := 4) (off := 67) (tgt := 73) (pc := 6) dX9_told_6 hc (by decide) (by decide) rfl (by decide) ?_
    refine a_aload_n (pc := 73) dX9_told_73 (by decide) rfl ?_
    refine p_callV (As := []) (st := []) (st1 := fun r => [(0, r)])  (pc := 74) dX9_told_74 ml_RX9_340 (by decide) s0_275 rfl (by decide) (Nat.le_of_ble_eq_true rfl) rfl (fun _ => rfl) h (fun r13 M14 h => ?_)
    exact a_ireti (pc := 77) dX9_told_77 rfl rfl (Nat.le_of_ble_eq_true rfl) ⟨rfl, h⟩
  · replace h := h.2.2.2.2.2.2.1 hc
    refine a_tabIn (v := 5) (off := 72) (tgt := 78) (pc := 6) dX9_told_6 hc (by decide) (by decide) rfl (by decide) ?_
    refine a_aload_n (pc := 78) dX9_told_78 (by decide) rfl ?_
    refine a_getI (y := 26) (pc := 79) dX9_told_79 fl_RX9_173 (by decide) s0_275 (Or.inl rfl) rfl ?_
    refine a_eq (y := M 275 26) rfl ?_
    exact a_ireti (pc := 82) dX9_told_82 rfl rfl (Nat.le_of_ble_eq_true rfl) ⟨rfl, h⟩
  · replace h := h.2.2.2.2.2.2.2 hc
    refine a_tabIn (v := 6) (off := 77) (tgt := 83) (pc := 6) dX9_told_6 hc (by decide) (by decide) rfl (by decide) ?_
    refine a_aload_n (pc := 83) dX9_told_83 (by decide) rfl ?_
    refine a_getI (y := 37) (pc := 84) dX9_told_84 fl_RX9_321 (by decide) s0_275 (Or.inl rfl) rfl ?_
    refine a_eq (y := M 275 37) rfl ?_
    exact a_ireti (pc := 87) dX9_told_87 rfl rfl (Nat.le_of_ble_eq_true rfl) ⟨rfl, h⟩
theorem E_R_told {l1 : Int} {M : Mem} {Q : Int → Mem → Prop} (h : AW mX9_told 0 [(2, 275), (0, l1)] M Q) : Calls mX9_told [(2, 275), (0, l1)] S0 M Q := calls_of (by decide) (by decide) (Nat.le_of_ble_eq_true rfl) rfl h
set_option maxRecDepth 100000 in
set_option maxHeartbeats 4000000 in
theorem B_R_reached_0 {l1 l2 l3 l4 : Int} {M : Mem} {Q : Int → Mem → Prop} (h : ((l1 < 0 → Q (-1) (up2 M 275 8 0)) ∧ (¬ (l1 < 0) → ((11 < l1 → Q (-1) (up2 M 275 8 0)) ∧ (¬ (11 < l1) → ((l2 < 0 → Q (-2) (up2 M 275 8 0)) ∧ (¬ (l2 < 0) → ((1999 < l2 → Q (-2) (up2 M 275 8 0)) ∧ (¬ (1999 < l2) → ((l3 < 0 → Q (-2) (up2 M 275 8 0)) ∧ (¬ (l3 < 0) → ((1999 < l3 → Q (-2) (up2 M 275 8 0)) ∧ (¬ (1999 < l3) → ((l4 < 0 → Q (-2) (up2 M 275 8 0)) ∧ (¬ (l4 < 0) → ((6 < l4 → Q (-2) (up2 M 275 8 0)) ∧ (¬ (6 < l4) → Calls mX9_layRounds [(2, 275), (0, l1), (0, l2)] S0 (up2 M 275 8 0) (fun r9 M10 => AW mX9_reached 56 [(2, 275), (9, 0), (9, 0), (0, l3), (0, l4), (0, 0), (0, 0)] M10 Q)))))))))))))))))) : AW mX9_reached 0 [(2, 275), (0, l1), (0, l2), (0, l3), (0, l4), (9, 0), (9, 0)] M Q := by
  refine a_aload_n (pc := 0) dX9_reached_0 (by decide) rfl ?_
  refine a_iconst (pc := 1) dX9_reached_1 (by decide) ?_
  refine a_putI (y := 8) (pc := 2) dX9_reached_2 fl_RX9_87 (by decide) s0_275 rfl rfl (tyX9_ok 8 (by decide)) rfl ?_
  refine a_iload_n (pc := 5) dX9_reached_5 rfl ?_
  refine p_inlS (Ex := _) (As := [(0, l1)]) (st := []) (st1 := fun r => [(0, r)])  (pc := 6) dX9_reached_6 ml_RX9_260 (by decide) (Nat.le_of_ble_eq_true rfl) rfl (fun _ => rfl) (by decide) (by decide) (Nat.le_of_ble_eq_true rfl) rfl ?_
  refine a_iload_n (pc := 0) dX9_isStop_0 rfl ?_
  refine a_i2l (pc := 1) dX9_isStop_1 ?_
  refine a_lconst (v := 0) (pc := 2) dX9_isStop_2 rfl ?_
  refine a_ldc2 (v := 11) (pc := 3) dX9_isStop_3 kc_RX9_90 (by decide) ?_
  refine p_inlS (Ex := _) (As := [(1, l1), (1, 0), (1, 11)]) (st := []) (st1 := fun r => [(0, r)])  (pc := 6) dX9_isStop_6 ml_RX9_92 (by decide) (Nat.le_of_ble_eq_true rfl) rfl (fun _ => rfl) (by decide) (by decide) (Nat.le_of_ble_eq_true rfl) rfl ?_
  refine a_lload_n (pc := 0) dX9_in_0 rfl ?_
  refine a_lload_n (pc := 1) dX9_in_1 rfl ?_
  refine a_lcmp_lt (tgt := 17) (pc := 2) dX9_in_2 dX9_in_3 (by decide) (fun hc1 => ?_) (fun hc1 => ?_)
  · replace h := h.1 hc1
    refine a_iconst (pc := 17) dX9_in_17 (by decide) ?_
    refine a_iretz (pc := 18) dX9_in_18 rfl rfl (Nat.le_of_ble_eq_true rfl) (by decide) ⟨rfl, ?_⟩
    refine a_iretz (pc := 9) dX9_isStop_9 rfl rfl (Nat.le_of_ble_eq_true rfl) (by decide) ⟨rfl, ?_⟩
    refine a_if_ne (tgt := 14) (pc := 9) dX9_reached_9 (by decide) (fun hc => absurd rfl hc) (fun _ => ?_)
    refine a_iconst (pc := 12) dX9_reached_12 (by decide) ?_
    exact a_ireti (pc := 13) dX9_reached_13 rfl rfl (Nat.le_of_ble_eq_true rfl) ⟨rfl, h⟩
  · replace h := h.2 hc1
    refine a_lload_n (pc := 6) dX9_in_6 rfl ?_
    refine a_lload (pc := 7) dX9_in_7 rfl ?_
    refine a_lcmp_gt (tgt := 17) (pc := 9) dX9_in_9 dX9_in_10 (by decide) (fun hc2 => ?_) (fun hc2 => ?_)
    · replace h := h.1 hc2
      refine a_iconst (pc := 17) dX9_in_17 (by decide) ?_
      refine a_iretz (pc := 18) dX9_in_18 rfl rfl (Nat.le_of_ble_eq_true rfl) (by decide) ⟨rfl, ?_⟩
      refine a_iretz (pc := 9) dX9_isStop_9 rfl rfl (Nat.le_of_ble_eq_true rfl) (by decide) ⟨rfl, ?_⟩
      refine a_if_ne (tgt := 14) (pc := 9) dX9_reached_9 (by decide) (fun hc => absurd rfl hc) (fun _ => ?_)
      refine a_iconst (pc := 12) dX9_reached_12 (by decide) ?_
      exact a_ireti (pc := 13) dX9_reached_13 rfl rfl (Nat.le_of_ble_eq_true rfl) ⟨rfl, h⟩
    · replace h := h.2 hc2
      refine a_iconst (pc := 13) dX9_in_13 (by decide) ?_
      refine a_goto (tgt := 18) (pc := 14) dX9_in_14 (by decide) ?_
      refine a_iretz (pc := 18) dX9_in_18 rfl rfl (Nat.le_of_ble_eq_true rfl) (by decide) ⟨rfl, ?_⟩
      refine a_iretz (pc := 9) dX9_isStop_9 rfl rfl (Nat.le_of_ble_eq_true rfl) (by decide) ⟨rfl, ?_⟩
      refine a_if_ne (tgt := 14) (pc := 9) dX9_reached_9 (by decide) (fun _ => ?_) (fun hc => absurd hc (by decide))
      refine a_iload_n (pc := 14) dX9_reached_14 rfl ?_
      refine p_inlS (Ex := _) (As := [(0, l2)]) (st := []) (st1 := fun r => [(0, r)])  (pc := 15) dX9_reached_15 ml_RX9_273 (by decide) (Nat.le_of_ble_eq_true rfl) rfl (fun _ => rfl) (by decide) (by decide) (Nat.le_of_ble_eq_true rfl) rfl ?_
      refine a_iload_n (pc := 0) dX9_isMinute_0 rfl ?_
      refine a_i2l (pc := 1) dX9_isMinute_1 ?_
      refine a_lconst (v := 0) (pc := 2) dX9_isMinute_2 rfl ?_
      refine a_ldc2 (v := 1999) (pc := 3) dX9_isMinute_3 kc_RX9_96 (by decide) ?_
      refine p_inlS (Ex := _) (As := [(1, l2), (1, 0), (1, 1999)]) (st := []) (st1 := fun r => [(0, r)])  (pc := 6) dX9_isMinute_6 ml_RX9_92 (by decide) (Nat.le_of_ble_eq_true rfl) rfl (fun _ => rfl) (by decide) (by decide) (Nat.le_of_ble_eq_true rfl) rfl ?_
      refine a_lload_n (pc := 0) dX9_in_0 rfl ?_
      refine a_lload_n (pc := 1) dX9_in_1 rfl ?_
      refine a_lcmp_lt (tgt := 17) (pc := 2) dX9_in_2 dX9_in_3 (by decide) (fun hc3 => ?_) (fun hc3 => ?_)
      · replace h := h.1 hc3
        refine a_iconst (pc := 17) dX9_in_17 (by decide) ?_
        refine a_iretz (pc := 18) dX9_in_18 rfl rfl (Nat.le_of_ble_eq_true rfl) (by decide) ⟨rfl, ?_⟩
        refine a_iretz (pc := 9) dX9_isMinute_9 rfl rfl (Nat.le_of_ble_eq_true rfl) (by decide) ⟨rfl, ?_⟩
        refine a_if_eq (tgt := 41) (pc := 18) dX9_reached_18 (by decide) (fun _ => ?_) (fun hc => absurd (by decide) hc)
        refine a_bipush (pc := 41) dX9_reached_41 (by decide) (by decide +kernel) ?_
        exact a_ireti (pc := 43) dX9_reached_43 rfl rfl (Nat.le_of_ble_eq_true rfl) ⟨rfl, h⟩
      · replace h := h.2 hc3
        refine a_lload_n (pc := 6) dX9_in_6 rfl ?_
        refine a_lload (pc := 7) dX9_in_7 rfl ?_
        refine a_lcmp_gt (tgt := 17) (pc := 9) dX9_in_9 dX9_in_10 (by decide) (fun hc4 => ?_) (fun hc4 => ?_)
        · replace h := h.1 hc4
          refine a_iconst (pc := 17) dX9_in_17 (by decide) ?_
          refine a_iretz (pc := 18) dX9_in_18 rfl rfl (Nat.le_of_ble_eq_true rfl) (by decide) ⟨rfl, ?_⟩
          refine a_iretz (pc := 9) dX9_isMinute_9 rfl rfl (Nat.le_of_ble_eq_true rfl) (by decide) ⟨rfl, ?_⟩
          refine a_if_eq (tgt := 41) (pc := 18) dX9_reached_18 (by decide) (fun _ => ?_) (fun hc => absurd (by decide) hc)
          refine a_bipush (pc := 41) dX9_reached_41 (by decide) (by decide +kernel) ?_
          exact a_ireti (pc := 43) dX9_reached_43 rfl rfl (Nat.le_of_ble_eq_true rfl) ⟨rfl, h⟩
        · replace h := h.2 hc4
          refine a_iconst (pc := 13) dX9_in_13 (by decide) ?_
          refine a_goto (tgt := 18) (pc := 14) dX9_in_14 (by decide) ?_
          refine a_iretz (pc := 18) dX9_in_18 rfl rfl (Nat.le_of_ble_eq_true rfl) (by decide) ⟨rfl, ?_⟩
          refine a_iretz (pc := 9) dX9_isMinute_9 rfl rfl (Nat.le_of_ble_eq_true rfl) (by decide) ⟨rfl, ?_⟩
          refine a_if_eq (tgt := 41) (pc := 18) dX9_reached_18 (by decide) (fun hc => absurd hc (by decide)) (fun _ => ?_)
          refine a_iload_n (pc := 21) dX9_reached_21 rfl ?_
          refine p_inlS (Ex := _) (As := [(0, l3)]) (st := []) (st1 := fun r => [(0, r)])  (pc := 22) dX9_reached_22 ml_RX9_273 (by decide) (Nat.le_of_ble_eq_true rfl) rfl (fun _ => rfl) (by decide) (by decide) (Nat.le_of_ble_eq_true rfl) rfl ?_
          refine a_iload_n (pc := 0) dX9_isMinute_0 rfl ?_
          refine a_i2l (pc := 1) dX9_isMinute_1 ?_
          refine a_lconst (v := 0) (pc := 2) dX9_isMinute_2 rfl ?_
          refine a_ldc2 (v := 1999) (pc := 3) dX9_isMinute_3 kc_RX9_96 (by decide) ?_
          refine p_inlS (Ex := _) (As := [(1, l3), (1, 0), (1, 1999)]) (st := []) (st1 := fun r => [(0, r)])  (pc := 6) dX9_isMinute_6 ml_RX9_92 (by decide) (Nat.le_of_ble_eq_true rfl) rfl (fun _ => rfl) (by decide) (by decide) (Nat.le_of_ble_eq_true rfl) rfl ?_
          refine a_lload_n (pc := 0) dX9_in_0 rfl ?_
          refine a_lload_n (pc := 1) dX9_in_1 rfl ?_
          refine a_lcmp_lt (tgt := 17) (pc := 2) dX9_in_2 dX9_in_3 (by decide) (fun hc5 => ?_) (fun hc5 => ?_)
          · replace h := h.1 hc5
            refine a_iconst (pc := 17) dX9_in_17 (by decide) ?_
            refine a_iretz (pc := 18) dX9_in_18 rfl rfl (Nat.le_of_ble_eq_true rfl) (by decide) ⟨rfl, ?_⟩
            refine a_iretz (pc := 9) dX9_isMinute_9 rfl rfl (Nat.le_of_ble_eq_true rfl) (by decide) ⟨rfl, ?_⟩
            refine a_if_eq (tgt := 41) (pc := 25) dX9_reached_25 (by decide) (fun _ => ?_) (fun hc => absurd (by decide) hc)
            refine a_bipush (pc := 41) dX9_reached_41 (by decide) (by decide +kernel) ?_
            exact a_ireti (pc := 43) dX9_reached_43 rfl rfl (Nat.le_of_ble_eq_true rfl) ⟨rfl, h⟩
          · replace h := h.2 hc5
            refine a_lload_n (pc := 6) dX9_in_6 rfl ?_
            refine a_lload (pc := 7) dX9_in_7 rfl ?_
            refine a_lcmp_gt (tgt := 17) (pc := 9) dX9_in_9 dX9_in_10 (by decide) (fun hc6 => ?_) (fun hc6 => ?_)
            · replace h := h.1 hc6
              refine a_iconst (pc := 17) dX9_in_17 (by decide) ?_
              refine a_iretz (pc := 18) dX9_in_18 rfl rfl (Nat.le_of_ble_eq_true rfl) (by decide) ⟨rfl, ?_⟩
              refine a_iretz (pc := 9) dX9_isMinute_9 rfl rfl (Nat.le_of_ble_eq_true rfl) (by decide) ⟨rfl, ?_⟩
              refine a_if_eq (tgt := 41) (pc := 25) dX9_reached_25 (by decide) (fun _ => ?_) (fun hc => absurd (by decide) hc)
              refine a_bipush (pc := 41) dX9_reached_41 (by decide) (by decide +kernel) ?_
              exact a_ireti (pc := 43) dX9_reached_43 rfl rfl (Nat.le_of_ble_eq_true rfl) ⟨rfl, h⟩
            · replace h := h.2 hc6
              refine a_iconst (pc := 13) dX9_in_13 (by decide) ?_
              refine a_goto (tgt := 18) (pc := 14) dX9_in_14 (by decide) ?_
              refine a_iretz (pc := 18) dX9_in_18 rfl rfl (Nat.le_of_ble_eq_true rfl) (by decide) ⟨rfl, ?_⟩
              refine a_iretz (pc := 9) dX9_isMinute_9 rfl rfl (Nat.le_of_ble_eq_true rfl) (by decide) ⟨rfl, ?_⟩
              refine a_if_eq (tgt := 41) (pc := 25) dX9_reached_25 (by decide) (fun hc => absurd hc (by decide)) (fun _ => ?_)
              refine a_iload (pc := 28) dX9_reached_28 rfl ?_
              refine a_i2l (pc := 30) dX9_reached_30 ?_
              refine a_lconst (v := 0) (pc := 31) dX9_reached_31 rfl ?_
              refine a_ldc2 (v := 6) (pc := 32) dX9_reached_32 kc_RX9_276 (by decide) ?_
              refine p_inlS (Ex := _) (As := [(1, l4), (1, 0), (1, 6)]) (st := []) (st1 := fun r => [(0, r)])  (pc := 35) dX9_reached_35 ml_RX9_92 (by decide) (Nat.le_of_ble_eq_true rfl) rfl (fun _ => rfl) (by decide) (by decide) (Nat.le_of_ble_eq_true rfl) rfl ?_
              refine a_lload_n (pc := 0) dX9_in_0 rfl ?_
              refine a_lload_n (pc := 1) dX9_in_1 rfl ?_
              refine a_lcmp_lt (tgt := 17) (pc := 2) dX9_in_2 dX9_in_3 (by decide) (fun hc7 => ?_) (fun hc7 => ?_)
              · replace h := h.1 hc7
                refine a_iconst (pc := 17) dX9_in_17 (by decide) ?_
                refine a_iretz (pc := 18) dX9_in_18 rfl rfl (Nat.le_of_ble_eq_true rfl) (by decide) ⟨rfl, ?_⟩
                refine a_if_ne (tgt := 44) (pc := 38) dX9_reached_38 (by decide) (fun hc => absurd rfl hc) (fun _ => ?_)
                refine a_bipush (pc := 41) dX9_reached_41 (by decide) (by decide +kernel) ?_
                exact a_ireti (pc := 43) dX9_reached_43 rfl rfl (Nat.le_of_ble_eq_true rfl) ⟨rfl, h⟩
              · replace h := h.2 hc7
                refine a_lload_n (pc := 6) dX9_in_6 rfl ?_
                refine a_lload (pc := 7) dX9_in_7 rfl ?_
                refine a_lcmp_gt (tgt := 17) (pc := 9) dX9_in_9 dX9_in_10 (by decide) (fun hc8 => ?_) (fun hc8 => ?_)
                · replace h := h.1 hc8
                  refine a_iconst (pc := 17) dX9_in_17 (by decide) ?_
                  refine a_iretz (pc := 18) dX9_in_18 rfl rfl (Nat.le_of_ble_eq_true rfl) (by decide) ⟨rfl, ?_⟩
                  refine a_if_ne (tgt := 44) (pc := 38) dX9_reached_38 (by decide) (fun hc => absurd rfl hc) (fun _ => ?_)
                  refine a_bipush (pc := 41) dX9_reached_41 (by decide) (by decide +kernel) ?_
                  exact a_ireti (pc := 43) dX9_reached_43 rfl rfl (Nat.le_of_ble_eq_true rfl) ⟨rfl, h⟩
                · replace h := h.2 hc8
                  refine a_iconst (pc := 13) dX9_in_13 (by decide) ?_
                  refine a_goto (tgt := 18) (pc := 14) dX9_in_14 (by decide) ?_
                  refine a_iretz (pc := 18) dX9_in_18 rfl rfl (Nat.le_of_ble_eq_true rfl) (by decide) ⟨rfl, ?_⟩
                  refine a_if_ne (tgt := 44) (pc := 38) dX9_reached_38 (by decide) (fun _ => ?_) (fun hc => absurd hc (by decide))
                  refine a_aload_n (pc := 44) dX9_reached_44 (by decide) rfl ?_
                  refine a_iload_n (pc := 45) dX9_reached_45 rfl ?_
                  refine a_iload_n (pc := 46) dX9_reached_46 rfl ?_
                  refine p_callV (As := [(0, l1), (0, l2)]) (st := []) (st1 := fun r => [])  (pc := 47) dX9_reached_47 ml_RX9_138 (by decide) s0_275 rfl (by decide) (Nat.le_of_ble_eq_true rfl) rfl (fun _ => rfl) h (fun r9 M10 h => ?_)
                  refine a_iconst (pc := 50) dX9_reached_50 (by decide) ?_
                  refine a_istore (ls1 := [(2, 275), (0, l1), (0, l2), (0, l3), (0, l4), (0, 0), (9, 0)]) (pc := 51) dX9_reached_51 (by decide) (hp1 (t := 0) rfl (by decide)) rfl ?_
                  refine a_iconst (pc := 53) dX9_reached_53 (by decide) ?_
                  refine a_istore (ls1 := [(2, 275), (0, l1), (0, l2), (0, l3), (0, l4), (0, 0), (0, 0)]) (pc := 54) dX9_reached_54 (by decide) (hp1 (t := 0) rfl (by decide)) rfl ?_
                  exact a_msk [true, false, false, true, true, true, true] rfl h
set_option maxRecDepth 100000 in
set_option maxHeartbeats 4000000 in
theorem B_R_reached_56 {l3 l4 l5 l6 : Int} {M : Mem} {Q : Int → Mem → Prop} (h : ((12 ≤ l6 → Q l5 M) ∧ (¬ (12 ≤ l6) → (-2147483648 ≤ 12 * l4 ∧ 12 * l4 ≤ 2147483647) ∧ (-2147483648 ≤ (12 * l4) + l6 ∧ (12 * l4) + l6 ≤ 2147483647) ∧ ((0 : Int) ≤ (12 * l4) + l6 ∧ (12 * l4) + l6 < 84) ∧ ((l3 < (M 284 ((12 * l4) + l6)) → ((0 : Int) ≤ l5) ∧ (-2147483648 ≤ l6 + 1 ∧ l6 + 1 ≤ 2147483647) ∧ AW mX9_reached 56 [(2, 275), (9, 0), (9, 0), (0, l3), (0, l4), (0, (((l5 : Int).toNat ||| (0 : Int).toNat : Nat) : Int)), (0, l6 + 1)] M Q) ∧ (¬ (l3 < (M 284 ((12 * l4) + l6))) → ((0 : Int) ≤ l6 ∧ l6 ≤ 30) ∧ ((0 : Int) ≤ l5) ∧ ((0 : Int) ≤ (2 : Int) ^ (l6).toNat) ∧ (-2147483648 ≤ l6 + 1 ∧ l6 + 1 ≤ 2147483647) ∧ AW mX9_reached 56 [(2, 275), (9, 0), (9, 0), (0, l3), (0, l4), (0, (((l5 : Int).toNat ||| ((2 : Int) ^ (l6).toNat : Int).toNat : Nat) : Int)), (0, l6 + 1)] M Q))))) : AW mX9_reached 56 [(2, 275), (9, 0), (9, 0), (0, l3), (0, l4), (0, l5), (0, l6)] M Q := by
  refine a_iload (pc := 56) dX9_reached_56 rfl ?_
  refine a_bipush (pc := 58) dX9_reached_58 (by decide) (by decide +kernel) ?_
  refine a_icmp_ge (tgt := 99) (pc := 60) dX9_reached_60 (by decide) (fun hc1 => ?_) (fun hc1 => ?_)
  · replace h := h.1 hc1
    refine a_iload (pc := 99) dX9_reached_99 rfl ?_
    exact a_ireti (pc := 101) dX9_reached_101 rfl rfl (Nat.le_of_ble_eq_true rfl) ⟨rfl, h⟩
  · replace h := h.2 hc1
    refine a_iload (pc := 63) dX9_reached_63 rfl ?_
    refine a_aload_n (pc := 65) dX9_reached_65 (by decide) rfl ?_
    refine a_getR (y := 284) (pc := 66) dX9_reached_66 fl_RX9_41 (by decide) s0_275 rfl rfl ?_
    refine a_bipush (pc := 69) dX9_reached_69 (by decide) (by decide +kernel) ?_
    refine a_iload (pc := 71) dX9_reached_71 rfl ?_
    have ho2 := h.1
    replace h := h.2
    refine a_imul (pc := 73) dX9_reached_73 ho2 ?_
    refine a_iload (pc := 74) dX9_reached_74 rfl ?_
    have ho3 := h.1
    replace h := h.2
    refine a_iadd (pc := 76) dX9_reached_76 ho3 ?_
    have ho4 := h.1
    replace h := h.2
    refine a_iald (pc := 77) dX9_reached_77 (by decide) s0_284 ho4.1 ho4.2 ?_
    refine a_iload_n (pc := 78) dX9_reached_78 rfl ?_
    refine a_icmp_gt (tgt := 89) (pc := 79) dX9_reached_79 (by decide) (fun hc5 => ?_) (fun hc5 => ?_)
    · replace h := h.1 hc5
      refine a_iconst (pc := 89) dX9_reached_89 (by decide) ?_
      have ho6 := h.1
      replace h := h.2
      refine a_ior (z := (((l5 : Int).toNat ||| (0 : Int).toNat : Nat) : Int)) (pc := 90) dX9_reached_90 ho6 (by decide) rfl ?_
      refine a_istore (ls1 := [(2, 275), (9, 0), (9, 0), (0, l3), (0, l4), (0, (((l5 : Int).toNat ||| (0 : Int).toNat : Nat) : Int)), (0, l6)]) (pc := 91) dX9_reached_91 (by decide) (hp1 (t := 0) rfl (by decide)) rfl ?_
      have ho7 := h.1
      replace h := h.2
      refine a_iinc (ls1 := [(2, 275), (9, 0), (9, 0), (0, l3), (0, l4), (0, (((l5 : Int).toNat ||| (0 : Int).toNat : Nat) : Int)), (0, l6 + 1)]) (pc := 93) dX9_reached_93 rfl (by decide) (hp1 (t := 0) rfl (by decide)) ho7 rfl ?_
      refine a_goto (tgt := 56) (pc := 96) dX9_reached_96 (by decide) ?_
      exact h
    · replace h := h.2 hc5
      refine a_iconst (pc := 82) dX9_reached_82 (by decide) ?_
      refine a_iload (pc := 83) dX9_reached_83 rfl ?_
      have ho8 := h.1
      replace h := h.2
      refine a_ishl (z := (2 : Int) ^ (l6).toNat) (pc := 85) dX9_reached_85 rfl ho8.1 ho8.2 rfl ?_
      refine a_goto (tgt := 90) (pc := 86) dX9_reached_86 (by decide) ?_
      have ho9 := h.1
      replace h := h.2
      have ho10 := h.1
      replace h := h.2
      refine a_ior (z := (((l5 : Int).toNat ||| ((2 : Int) ^ (l6).toNat : Int).toNat : Nat) : Int)) (pc := 90) dX9_reached_90 ho9 ho10 rfl ?_
      refine a_istore (ls1 := [(2, 275), (9, 0), (9, 0), (0, l3), (0, l4), (0, (((l5 : Int).toNat ||| ((2 : Int) ^ (l6).toNat : Int).toNat : Nat) : Int)), (0, l6)]) (pc := 91) dX9_reached_91 (by decide) (hp1 (t := 0) rfl (by decide)) rfl ?_
      have ho11 := h.1
      replace h := h.2
      refine a_iinc (ls1 := [(2, 275), (9, 0), (9, 0), (0, l3), (0, l4), (0, (((l5 : Int).toNat ||| ((2 : Int) ^ (l6).toNat : Int).toNat : Nat) : Int)), (0, l6 + 1)]) (pc := 93) dX9_reached_93 rfl (by decide) (hp1 (t := 0) rfl (by decide)) ho11 rfl ?_
      refine a_goto (tgt := 56) (pc := 96) dX9_reached_96 (by decide) ?_
      exact h
theorem E_R_reached {l1 l2 l3 l4 : Int} {M : Mem} {Q : Int → Mem → Prop} (h : AW mX9_reached 0 [(2, 275), (0, l1), (0, l2), (0, l3), (0, l4), (9, 0), (9, 0)] M Q) : Calls mX9_reached [(2, 275), (0, l1), (0, l2), (0, l3), (0, l4)] S0 M Q := calls_of (by decide) (by decide) (Nat.le_of_ble_eq_true rfl) rfl h
set_option maxRecDepth 100000 in
set_option maxHeartbeats 4000000 in
theorem B_R_worth_0 {l1 l2 l3 : Int} {M : Mem} {Q : Int → Mem → Prop} (h : Calls mX9_wrong [(0, l1), (0, l3), (0, l2), (0, 0)] S0 (up2 M 275 8 0) (fun r1 M2 => ((0 ≤ r1 → Calls mX9_layRounds [(2, 275), (0, l1), (0, l2)] S0 M2 (fun r4 M5 => ((0 : Int) ≤ l3 ∧ l3 < 84) ∧ ((100000000 ≤ (M5 284 l3) → AW mX9_worth 50 [(2, 275), (9, 0), (9, 0), (0, l3), (0, 0), (0, 1)] M5 Q) ∧ (¬ (100000000 ≤ (M5 284 l3)) → AW mX9_worth 50 [(2, 275), (9, 0), (9, 0), (0, l3), (0, 1), (0, 1)] M5 Q)))) ∧ (¬ (0 ≤ r1) → Calls mX9_wrong [(0, l1), (0, l3), (0, l2), (0, 0)] S0 M2 (fun r8 M9 => Q r8 M9))))) : AW mX9_worth 0 [(2, 275), (0, l1), (0, l2), (0, l3), (9, 0), (9, 0)] M Q := by
  refine a_aload_n (pc := 0) dX9_worth_0 (by decide) rfl ?_
  refine a_iconst (pc := 1) dX9_worth_1 (by decide) ?_
  refine a_putI (y := 8) (pc := 2) dX9_worth_2 fl_RX9_87 (by decide) s0_275 rfl rfl (tyX9_ok 8 (by decide)) rfl ?_
  refine a_iload_n (pc := 5) dX9_worth_5 rfl ?_
  refine a_iload_n (pc := 6) dX9_worth_6 rfl ?_
  refine a_iload_n (pc := 7) dX9_worth_7 rfl ?_
  refine a_iconst (pc := 8) dX9_worth_8 (by decide) ?_
  refine p_callS (As := [(0, l1), (0, l3), (0, l2), (0, 0)]) (st := []) (st1 := fun r => [(0, r)])  (pc := 9) dX9_worth_9 ml_RX9_278 (by decide) (Nat.le_of_ble_eq_true rfl) rfl (fun _ => rfl) h (fun r1 M2 h => ?_)
  refine a_if_ge (tgt := 23) (pc := 12) dX9_worth_12 (by decide) (fun hc3 => ?_) (fun hc3 => ?_)
  · replace h := h.1 hc3
    refine a_aload_n (pc := 23) dX9_worth_23 (by decide) rfl ?_
    refine a_iload_n (pc := 24) dX9_worth_24 rfl ?_
    refine a_iload_n (pc := 25) dX9_worth_25 rfl ?_
    refine p_callV (As := [(0, l1), (0, l2)]) (st := []) (st1 := fun r => [])  (pc := 26) dX9_worth_26 ml_RX9_138 (by decide) s0_275 rfl (by decide) (Nat.le_of_ble_eq_true rfl) rfl (fun _ => rfl) h (fun r4 M5 h => ?_)
    refine a_aload_n (pc := 29) dX9_worth_29 (by decide) rfl ?_
    refine a_getR (y := 284) (pc := 30) dX9_worth_30 fl_RX9_41 (by decide) s0_275 rfl rfl ?_
    refine a_iload_n (pc := 33) dX9_worth_33 rfl ?_
    have ho6 := h.1
    replace h := h.2
    refine a_iald (pc := 34) dX9_worth_34 (by decide) s0_284 ho6.1 ho6.2 ?_
    refine a_ldc (v := 100000000) (pc := 35) dX9_worth_35 kc_RX9_112 (by decide) ?_
    refine a_icmp_ge (tgt := 44) (pc := 37) dX9_worth_37 (by decide) (fun hc7 => ?_) (fun hc7 => ?_)
    · replace h := h.1 hc7
      refine a_iconst (pc := 44) dX9_worth_44 (by decide) ?_
      refine a_istore (ls1 := [(2, 275), (0, l1), (0, l2), (0, l3), (0, 0), (9, 0)]) (pc := 45) dX9_worth_45 (by decide) (hp1 (t := 0) rfl (by decide)) rfl ?_
      refine a_iconst (pc := 47) dX9_worth_47 (by decide) ?_
      refine a_istore (ls1 := [(2, 275), (0, l1), (0, l2), (0, l3), (0, 0), (0, 1)]) (pc := 48) dX9_worth_48 (by decide) (hp1 (t := 0) rfl (by decide)) rfl ?_
      exact a_msk [true, false, false, true, true, true] rfl h
    · replace h := h.2 hc7
      refine a_iconst (pc := 40) dX9_worth_40 (by decide) ?_
      refine a_goto (tgt := 45) (pc := 41) dX9_worth_41 (by decide) ?_
      refine a_istore (ls1 := [(2, 275), (0, l1), (0, l2), (0, l3), (0, 1), (9, 0)]) (pc := 45) dX9_worth_45 (by decide) (hp1 (t := 0) rfl (by decide)) rfl ?_
      refine a_iconst (pc := 47) dX9_worth_47 (by decide) ?_
      refine a_istore (ls1 := [(2, 275), (0, l1), (0, l2), (0, l3), (0, 1), (0, 1)]) (pc := 48) dX9_worth_48 (by decide) (hp1 (t := 0) rfl (by decide)) rfl ?_
      exact a_msk [true, false, false, true, true, true] rfl h
  · replace h := h.2 hc3
    refine a_iload_n (pc := 15) dX9_worth_15 rfl ?_
    refine a_iload_n (pc := 16) dX9_worth_16 rfl ?_
    refine a_iload_n (pc := 17) dX9_worth_17 rfl ?_
    refine a_iconst (pc := 18) dX9_worth_18 (by decide) ?_
    refine p_callS (As := [(0, l1), (0, l3), (0, l2), (0, 0)]) (st := []) (st1 := fun r => [(0, r)])  (pc := 19) dX9_worth_19 ml_RX9_278 (by decide) (Nat.le_of_ble_eq_true rfl) rfl (fun _ => rfl) h (fun r8 M9 h => ?_)
    exact a_ireti (pc := 22) dX9_worth_22 rfl rfl (Nat.le_of_ble_eq_true rfl) ⟨rfl, h⟩
set_option maxRecDepth 100000 in
set_option maxHeartbeats 4000000 in
theorem B_R_worth_50 {l3 l4 l5 : Int} {M : Mem} {Q : Int → Mem → Prop} (h : ((6 < l5 → Q l4 M) ∧ (¬ (6 < l5) → (-2147483648 ≤ 12 * l5 ∧ 12 * l5 ≤ 2147483647) ∧ (-2147483648 ≤ (12 * l5) + l3 ∧ (12 * l5) + l3 ≤ 2147483647) ∧ ((0 : Int) ≤ (12 * l5) + l3 ∧ (12 * l5) + l3 < 84) ∧ (-2147483648 ≤ l5 - 1 ∧ l5 - 1 ≤ 2147483647) ∧ (-2147483648 ≤ 12 * (l5 - 1) ∧ 12 * (l5 - 1) ≤ 2147483647) ∧ (-2147483648 ≤ (12 * (l5 - 1)) + l3 ∧ (12 * (l5 - 1)) + l3 ≤ 2147483647) ∧ ((0 : Int) ≤ (12 * (l5 - 1)) + l3 ∧ (12 * (l5 - 1)) + l3 < 84) ∧ (((M 284 ((12 * (l5 - 1)) + l3)) ≤ (M 284 ((12 * l5) + l3)) → ((0 : Int) ≤ l4) ∧ (-2147483648 ≤ l5 + 1 ∧ l5 + 1 ≤ 2147483647) ∧ AW mX9_worth 50 [(2, 275), (9, 0), (9, 0), (0, l3), (0, (((l4 : Int).toNat ||| (0 : Int).toNat : Nat) : Int)), (0, l5 + 1)] M Q) ∧ (¬ ((M 284 ((12 * (l5 - 1)) + l3)) ≤ (M 284 ((12 * l5) + l3))) → ((0 : Int) ≤ l5 ∧ l5 ≤ 30) ∧ ((0 : Int) ≤ l4) ∧ ((0 : Int) ≤ (2 : Int) ^ (l5).toNat) ∧ (-2147483648 ≤ l5 + 1 ∧ l5 + 1 ≤ 2147483647) ∧ AW mX9_worth 50 [(2, 275), (9, 0), (9, 0), (0, l3), (0, (((l4 : Int).toNat ||| ((2 : Int) ^ (l5).toNat : Int).toNat : Nat) : Int)), (0, l5 + 1)] M Q))))) : AW mX9_worth 50 [(2, 275), (9, 0), (9, 0), (0, l3), (0, l4), (0, l5)] M Q := by
  refine a_iload (pc := 50) dX9_worth_50 rfl ?_
  refine a_bipush (pc := 52) dX9_worth_52 (by decide) (by decide +kernel) ?_
  refine a_icmp_gt (tgt := 105) (pc := 54) dX9_worth_54 (by decide) (fun hc1 => ?_) (fun hc1 => ?_)
  · replace h := h.1 hc1
    refine a_iload (pc := 105) dX9_worth_105 rfl ?_
    exact a_ireti (pc := 107) dX9_worth_107 rfl rfl (Nat.le_of_ble_eq_true rfl) ⟨rfl, h⟩
  · replace h := h.2 hc1
    refine a_iload (pc := 57) dX9_worth_57 rfl ?_
    refine a_aload_n (pc := 59) dX9_worth_59 (by decide) rfl ?_
    refine a_getR (y := 284) (pc := 60) dX9_worth_60 fl_RX9_41 (by decide) s0_275 rfl rfl ?_
    refine a_bipush (pc := 63) dX9_worth_63 (by decide) (by decide +kernel) ?_
    refine a_iload (pc := 65) dX9_worth_65 rfl ?_
    have ho2 := h.1
    replace h := h.2
    refine a_imul (pc := 67) dX9_worth_67 ho2 ?_
    refine a_iload_n (pc := 68) dX9_worth_68 rfl ?_
    have ho3 := h.1
    replace h := h.2
    refine a_iadd (pc := 69) dX9_worth_69 ho3 ?_
    have ho4 := h.1
    replace h := h.2
    refine a_iald (pc := 70) dX9_worth_70 (by decide) s0_284 ho4.1 ho4.2 ?_
    refine a_aload_n (pc := 71) dX9_worth_71 (by decide) rfl ?_
    refine a_getR (y := 284) (pc := 72) dX9_worth_72 fl_RX9_41 (by decide) s0_275 rfl rfl ?_
    refine a_bipush (pc := 75) dX9_worth_75 (by decide) (by decide +kernel) ?_
    refine a_iload (pc := 77) dX9_worth_77 rfl ?_
    refine a_iconst (pc := 79) dX9_worth_79 (by decide) ?_
    have ho5 := h.1
    replace h := h.2
    refine a_isub (pc := 80) dX9_worth_80 ho5 ?_
    have ho6 := h.1
    replace h := h.2
    refine a_imul (pc := 81) dX9_worth_81 ho6 ?_
    refine a_iload_n (pc := 82) dX9_worth_82 rfl ?_
    have ho7 := h.1
    replace h := h.2
    refine a_iadd (pc := 83) dX9_worth_83 ho7 ?_
    have ho8 := h.1
    replace h := h.2
    refine a_iald (pc := 84) dX9_worth_84 (by decide) s0_284 ho8.1 ho8.2 ?_
    refine a_icmp_ge (tgt := 95) (pc := 85) dX9_worth_85 (by decide) (fun hc9 => ?_) (fun hc9 => ?_)
    · replace h := h.1 hc9
      refine a_iconst (pc := 95) dX9_worth_95 (by decide) ?_
      have ho10 := h.1
      replace h := h.2
      refine a_ior (z := (((l4 : Int).toNat ||| (0 : Int).toNat : Nat) : Int)) (pc := 96) dX9_worth_96 ho10 (by decide) rfl ?_
      refine a_istore (ls1 := [(2, 275), (9, 0), (9, 0), (0, l3), (0, (((l4 : Int).toNat ||| (0 : Int).toNat : Nat) : Int)), (0, l5)]) (pc := 97) dX9_worth_97 (by decide) (hp1 (t := 0) rfl (by decide)) rfl ?_
      have ho11 := h.1
      replace h := h.2
      refine a_iinc (ls1 := [(2, 275), (9, 0), (9, 0), (0, l3), (0, (((l4 : Int).toNat ||| (0 : Int).toNat : Nat) : Int)), (0, l5 + 1)]) (pc := 99) dX9_worth_99 rfl (by decide) (hp1 (t := 0) rfl (by decide)) ho11 rfl ?_
      refine a_goto (tgt := 50) (pc := 102) dX9_worth_102 (by decide) ?_
      exact h
    · replace h := h.2 hc9
      refine a_iconst (pc := 88) dX9_worth_88 (by decide) ?_
      refine a_iload (pc := 89) dX9_worth_89 rfl ?_
      have ho12 := h.1
      replace h := h.2
      refine a_ishl (z := (2 : Int) ^ (l5).toNat) (pc := 91) dX9_worth_91 rfl ho12.1 ho12.2 rfl ?_
      refine a_goto (tgt := 96) (pc := 92) dX9_worth_92 (by decide) ?_
      have ho13 := h.1
      replace h := h.2
      have ho14 := h.1
      replace h := h.2
      refine a_ior (z := (((l4 : Int).toNat ||| ((2 : Int) ^ (l5).toNat : Int).toNat : Nat) : Int)) (pc := 96) dX9_worth_96 ho13 ho14 rfl ?_
      refine a_istore (ls1 := [(2, 275), (9, 0), (9, 0), (0, l3), (0, (((l4 : Int).toNat ||| ((2 : Int) ^ (l5).toNat : Int).toNat : Nat) : Int)), (0, l5)]) (pc := 97) dX9_worth_97 (by decide) (hp1 (t := 0) rfl (by decide)) rfl ?_
      have ho15 := h.1
      replace h := h.2
      refine a_iinc (ls1 := [(2, 275), (9, 0), (9, 0), (0, l3), (0, (((l4 : Int).toNat ||| ((2 : Int) ^ (l5).toNat : Int).toNat : Nat) : Int)), (0, l5 + 1)]) (pc := 99) dX9_worth_99 rfl (by decide) (hp1 (t := 0) rfl (by decide)) ho15 rfl ?_
      refine a_goto (tgt := 50) (pc := 102) dX9_worth_102 (by decide) ?_
      exact h
theorem E_R_worth {l1 l2 l3 : Int} {M : Mem} {Q : Int → Mem → Prop} (h : AW mX9_worth 0 [(2, 275), (0, l1), (0, l2), (0, l3), (9, 0), (9, 0)] M Q) : Calls mX9_worth [(2, 275), (0, l1), (0, l2), (0, l3)] S0 M Q := calls_of (by decide) (by decide) (Nat.le_of_ble_eq_true rfl) rfl h
set_option maxRecDepth 100000 in
set_option maxHeartbeats 4000000 in
theorem B_R_walkedFrom_0 {l1 l2 l3 : Int} {M : Mem} {Q : Int → Mem → Prop} (h : AW mX9_walkedFrom 7 [(2, 275), (0, l1), (0, l2), (0, l3), (0, (-1)), (0, 11), (9, 0), (9, 0)] M Q) : AW mX9_walkedFrom 0 [(2, 275), (0, l1), (0, l2), (0, l3), (9, 0), (9, 0), (9, 0), (9, 0)] M Q := by
  refine a_iconst (pc := 0) dX9_walkedFrom_0 (by decide) ?_
  refine a_istore (ls1 := [(2, 275), (0, l1), (0, l2), (0, l3), (0, (-1)), (9, 0), (9, 0), (9, 0)]) (pc := 1) dX9_walkedFrom_1 (by decide) (hp1 (t := 0) rfl (by decide)) rfl ?_
  refine a_bipush (pc := 3) dX9_walkedFrom_3 (by decide) (by decide +kernel) ?_
  refine a_istore (ls1 := [(2, 275), (0, l1), (0, l2), (0, l3), (0, (-1)), (0, 11), (9, 0), (9, 0)]) (pc := 5) dX9_walkedFrom_5 (by decide) (hp1 (t := 0) rfl (by decide)) rfl ?_
  exact h
set_option maxRecDepth 100000 in
set_option maxHeartbeats 4000000 in
theorem B_R_walkedFrom_7 {l1 l2 l3 l4 l5 : Int} {M : Mem} {Q : Int → Mem → Prop} (h : ((l5 < 0 → Q l4 M) ∧ (¬ (l5 < 0) → ((¬ l5 = l1 → ((l5 = (M 275 10) → (-2147483648 ≤ l2 - 100000000 ∧ l2 - 100000000 ≤ 2147483647) ∧ (-2147483648 ≤ l5 + (-1) ∧ l5 + (-1) ≤ 2147483647) ∧ AW mX9_walkedFrom 7 [(2, 275), (0, l1), (0, l2), (0, l3), (0, l4), (0, l5 + (-1)), (9, 0), (9, 0)] M Q) ∧ (¬ l5 = (M 275 10) → ((l1 = (M 275 10) → (-2147483648 ≤ l2 - 100000000 ∧ l2 - 100000000 ≤ 2147483647) ∧ (-2147483648 ≤ l5 + (-1) ∧ l5 + (-1) ≤ 2147483647) ∧ AW mX9_walkedFrom 7 [(2, 275), (0, l1), (0, l2), (0, l3), (0, l4), (0, l5 + (-1)), (9, 0), (9, 0)] M Q) ∧ (¬ l1 = (M 275 10) → (-2147483648 ≤ 12 * l5 ∧ 12 * l5 ≤ 2147483647) ∧ (-2147483648 ≤ (12 * l5) + l1 ∧ (12 * l5) + l1 ≤ 2147483647) ∧ ((0 : Int) ≤ (12 * l5) + l1 ∧ (12 * l5) + l1 < 144) ∧ ((¬ (M 282 ((12 * l5) + l1)) = 0 → (-2147483648 ≤ l2 - (M 282 ((12 * l5) + l1)) ∧ l2 - (M 282 ((12 * l5) + l1)) ≤ 2147483647) ∧ ((100000000 ≤ (M 282 ((12 * l5) + l1)) → (-2147483648 ≤ l5 + (-1) ∧ l5 + (-1) ≤ 2147483647) ∧ AW mX9_walkedFrom 7 [(2, 275), (0, l1), (0, l2), (0, l3), (0, l4), (0, l5 + (-1)), (9, 0), (9, 0)] M Q) ∧ (¬ (100000000 ≤ (M 282 ((12 * l5) + l1))) → ((¬ l5 = (M 275 11) → Calls mX9_seekRide [(2, 275), (0, l5), (0, l2 - (M 282 ((12 * l5) + l1))), (0, l3)] S0 M (fun r17 M18 => ((r17 = 0 → (-2147483648 ≤ l5 + (-1) ∧ l5 + (-1) ≤ 2147483647) ∧ AW mX9_walkedFrom 7 [(2, 275), (0, l1), (0, l2), (0, l3), (0, l4), (0, l5 + (-1)), (9, 0), (9, 0)] M18 Q) ∧ (¬ r17 = 0 → (-2147483648 ≤ l5 + (-1) ∧ l5 + (-1) ≤ 2147483647) ∧ AW mX9_walkedFrom 7 [(2, 275), (0, l1), (0, l2), (0, l3), (0, l5), (0, l5 + (-1)), (9, 0), (9, 0)] M18 Q)))) ∧ (l5 = (M 275 11) → ((0 : Int) ≤ l5 ∧ l5 < 84) ∧ ((¬ (l2 - (M 282 ((12 * l5) + l1))) = (M 283 l5) → (-2147483648 ≤ l5 + (-1) ∧ l5 + (-1) ≤ 2147483647) ∧ AW mX9_walkedFrom 7 [(2, 275), (0, l1), (0, l2), (0, l3), (0, l4), (0, l5 + (-1)), (9, 0), (9, 0)] M Q) ∧ ((l2 - (M 282 ((12 * l5) + l1))) = (M 283 l5) → (-2147483648 ≤ l5 + (-1) ∧ l5 + (-1) ≤ 2147483647) ∧ AW mX9_walkedFrom 7 [(2, 275), (0, l1), (0, l2), (0, l3), (0, l5), (0, l5 + (-1)), (9, 0), (9, 0)] M Q))))))) ∧ ((M 282 ((12 * l5) + l1)) = 0 → (-2147483648 ≤ l2 - 100000000 ∧ l2 - 100000000 ≤ 2147483647) ∧ (-2147483648 ≤ l5 + (-1) ∧ l5 + (-1) ≤ 2147483647) ∧ AW mX9_walkedFrom 7 [(2, 275), (0, l1), (0, l2), (0, l3), (0, l4), (0, l5 + (-1)), (9, 0), (9, 0)] M Q))))))) ∧ (l5 = l1 → (-2147483648 ≤ l2 - 100000000 ∧ l2 - 100000000 ≤ 2147483647) ∧ (-2147483648 ≤ l5 + (-1) ∧ l5 + (-1) ≤ 2147483647) ∧ AW mX9_walkedFrom 7 [(2, 275), (0, l1), (0, l2), (0, l3), (0, l4), (0, l5 + (-1)), (9, 0), (9, 0)] M Q))))) : AW mX9_walkedFrom 7 [(2, 275), (0, l1), (0, l2), (0, l3), (0, l4), (0, l5), (9, 0), (9, 0)] M Q := by
  refine a_iload (pc := 7) dX9_walkedFrom_7 rfl ?_
  refine a_if_lt (tgt := 115) (pc := 9) dX9_walkedFrom_9 (by decide) (fun hc1 => ?_) (fun hc1 => ?_)
  · replace h := h.1 hc1
    refine a_iload (pc := 115) dX9_walkedFrom_115 rfl ?_
    exact a_ireti (pc := 117) dX9_walkedFrom_117 rfl rfl (Nat.le_of_ble_eq_true rfl) ⟨rfl, h⟩
  · replace h := h.2 hc1
    refine a_iload_n (pc := 12) dX9_walkedFrom_12 rfl ?_
    refine a_iload (pc := 13) dX9_walkedFrom_13 rfl ?_
    refine a_iload_n (pc := 15) dX9_walkedFrom_15 rfl ?_
    refine a_icmp_ne (tgt := 24) (pc := 16) dX9_walkedFrom_16 (by decide) (fun hc2 => ?_) (fun hc2 => ?_)
    · replace h := h.1 hc2
      refine a_aload_n (pc := 24) dX9_walkedFrom_24 (by decide) rfl ?_
      refine a_iload (pc := 25) dX9_walkedFrom_25 rfl ?_
      refine a_iload_n (pc := 27) dX9_walkedFrom_27 rfl ?_
      refine p_inlV (Ex := _) (As := [(0, l5), (0, l1)]) (st := [(0, l2)]) (st1 := fun r => [(0, r), (0, l2)])  (pc := 28) dX9_walkedFrom_28 ml_RX9_113 (by decide) s0_275 rfl (by decide) (Nat.le_of_ble_eq_true rfl) rfl (fun _ => rfl) (by decide) (by decide) (Nat.le_of_ble_eq_true rfl) rfl ?_
      refine a_iload_n (pc := 0) dX9_footOf_0 rfl ?_
      refine a_aload_n (pc := 1) dX9_footOf_1 (by decide) rfl ?_
      refine a_getI (y := 10) (pc := 2) dX9_footOf_2 fl_RX9_35 (by decide) s0_275 (Or.inl rfl) rfl ?_
      refine a_icmp_eq (tgt := 30) (pc := 5) dX9_footOf_5 (by decide) (fun hc3 => ?_) (fun hc3 => ?_)
      · replace h := h.1 hc3
        refine a_ldc (v := 100000000) (pc := 30) dX9_footOf_30 kc_RX9_112 (by decide) ?_
        refine a_goto (tgt := 46) (pc := 32) dX9_footOf_32 (by decide) ?_
        refine a_ireti (pc := 46) dX9_footOf_46 rfl rfl (Nat.le_of_ble_eq_true rfl) ⟨rfl, ?_⟩
        have ho4 := h.1
        replace h := h.2
        refine a_isub (pc := 31) dX9_walkedFrom_31 ho4 ?_
        refine a_istore (ls1 := [(2, 275), (0, l1), (0, l2), (0, l3), (0, l4), (0, l5), (0, l2 - 100000000), (9, 0)]) (pc := 32) dX9_walkedFrom_32 (by decide) (hp1 (t := 0) rfl (by decide)) rfl ?_
        refine a_iload (pc := 34) dX9_walkedFrom_34 rfl ?_
        refine a_iload_n (pc := 36) dX9_walkedFrom_36 rfl ?_
        refine a_icmp_eq (tgt := 92) (pc := 37) dX9_walkedFrom_37 (by decide) (fun hc => absurd hc hc2) (fun _ => ?_)
        refine a_aload_n (pc := 40) dX9_walkedFrom_40 (by decide) rfl ?_
        refine a_iload (pc := 41) dX9_walkedFrom_41 rfl ?_
        refine a_iload_n (pc := 43) dX9_walkedFrom_43 rfl ?_
        refine p_inlV (Ex := _) (As := [(0, l5), (0, l1)]) (st := []) (st1 := fun r => [(0, r)])  (pc := 44) dX9_walkedFrom_44 ml_RX9_113 (by decide) s0_275 rfl (by decide) (Nat.le_of_ble_eq_true rfl) rfl (fun _ => rfl) (by decide) (by decide) (Nat.le_of_ble_eq_true rfl) rfl ?_
        refine a_iload_n (pc := 0) dX9_footOf_0 rfl ?_
        refine a_aload_n (pc := 1) dX9_footOf_1 (by decide) rfl ?_
        refine a_getI (y := 10) (pc := 2) dX9_footOf_2 fl_RX9_35 (by decide) s0_275 (Or.inl rfl) rfl ?_
        refine a_icmp_eq (tgt := 30) (pc := 5) dX9_footOf_5 (by decide) (fun _ => ?_) (fun hc => absurd hc3 hc)
        refine a_ldc (v := 100000000) (pc := 30) dX9_footOf_30 kc_RX9_112 (by decide) ?_
        refine a_goto (tgt := 46) (pc := 32) dX9_footOf_32 (by decide) ?_
        refine a_ireti (pc := 46) dX9_footOf_46 rfl rfl (Nat.le_of_ble_eq_true rfl) ⟨rfl, ?_⟩
        refine a_ldc (v := 100000000) (pc := 47) dX9_walkedFrom_47 kc_RX9_112 (by decide) ?_
        refine a_icmp_ge (tgt := 92) (pc := 49) dX9_walkedFrom_49 (by decide) (fun _ => ?_) (fun hc => absurd (by decide) hc)
        refine a_iconst (pc := 92) dX9_walkedFrom_92 (by decide) ?_
        refine a_istore (ls1 := [(2, 275), (0, l1), (0, l2), (0, l3), (0, l4), (0, l5), (0, l2 - 100000000), (0, 0)]) (pc := 93) dX9_walkedFrom_93 (by decide) (hp1 (t := 0) rfl (by decide)) rfl ?_
        refine a_iload (pc := 95) dX9_walkedFrom_95 rfl ?_
        refine a_if_eq (tgt := 105) (pc := 97) dX9_walkedFrom_97 (by decide) (fun _ => ?_) (fun hc => absurd (by decide) hc)
        refine a_iload (pc := 105) dX9_walkedFrom_105 rfl ?_
        refine a_istore (ls1 := [(2, 275), (0, l1), (0, l2), (0, l3), (0, l4), (0, l5), (0, l2 - 100000000), (0, 0)]) (pc := 107) dX9_walkedFrom_107 (by decide) (hp1 (t := 0) rfl (by decide)) rfl ?_
        have ho5 := h.1
        replace h := h.2
        refine a_iinc (ls1 := [(2, 275), (0, l1), (0, l2), (0, l3), (0, l4), (0, l5 + (-1)), (0, l2 - 100000000), (0, 0)]) (pc := 109) dX9_walkedFrom_109 rfl (by decide) (hp1 (t := 0) rfl (by decide)) ho5 rfl ?_
        refine a_goto (tgt := 7) (pc := 112) dX9_walkedFrom_112 (by decide) ?_
        exact a_msk [true, true, true, true, true, true, false, false] rfl h
      · replace h := h.2 hc3
        refine a_iload_n (pc := 8) dX9_footOf_8 rfl ?_
        refine a_aload_n (pc := 9) dX9_footOf_9 (by decide) rfl ?_
        refine a_getI (y := 10) (pc := 10) dX9_footOf_10 fl_RX9_35 (by decide) s0_275 (Or.inl rfl) rfl ?_
        refine a_icmp_eq (tgt := 30) (pc := 13) dX9_footOf_13 (by decide) (fun hc6 => ?_) (fun hc6 => ?_)
        · replace h := h.1 hc6
          refine a_ldc (v := 100000000) (pc := 30) dX9_footOf_30 kc_RX9_112 (by decide) ?_
          refine a_goto (tgt := 46) (pc := 32) dX9_footOf_32 (by decide) ?_
          refine a_ireti (pc := 46) dX9_footOf_46 rfl rfl (Nat.le_of_ble_eq_true rfl) ⟨rfl, ?_⟩
          have ho7 := h.1
          replace h := h.2
          refine a_isub (pc := 31) dX9_walkedFrom_31 ho7 ?_
          refine a_istore (ls1 := [(2, 275), (0, l1), (0, l2), (0, l3), (0, l4), (0, l5), (0, l2 - 100000000), (9, 0)]) (pc := 32) dX9_walkedFrom_32 (by decide) (hp1 (t := 0) rfl (by decide)) rfl ?_
          refine a_iload (pc := 34) dX9_walkedFrom_34 rfl ?_
          refine a_iload_n (pc := 36) dX9_walkedFrom_36 rfl ?_
          refine a_icmp_eq (tgt := 92) (pc := 37) dX9_walkedFrom_37 (by decide) (fun hc => absurd hc hc2) (fun _ => ?_)
          refine a_aload_n (pc := 40) dX9_walkedFrom_40 (by decide) rfl ?_
          refine a_iload (pc := 41) dX9_walkedFrom_41 rfl ?_
          refine a_iload_n (pc := 43) dX9_walkedFrom_43 rfl ?_
          refine p_inlV (Ex := _) (As := [(0, l5), (0, l1)]) (st := []) (st1 := fun r => [(0, r)])  (pc := 44) dX9_walkedFrom_44 ml_RX9_113 (by decide) s0_275 rfl (by decide) (Nat.le_of_ble_eq_true rfl) rfl (fun _ => rfl) (by decide) (by decide) (Nat.le_of_ble_eq_true rfl) rfl ?_
          refine a_iload_n (pc := 0) dX9_footOf_0 rfl ?_
          refine a_aload_n (pc := 1) dX9_footOf_1 (by decide) rfl ?_
          refine a_getI (y := 10) (pc := 2) dX9_footOf_2 fl_RX9_35 (by decide) s0_275 (Or.inl rfl) rfl ?_
          refine a_icmp_eq (tgt := 30) (pc := 5) dX9_footOf_5 (by decide) (fun hc => absurd hc hc3) (fun _ => ?_)
          refine a_iload_n (pc := 8) dX9_footOf_8 rfl ?_
          refine a_aload_n (pc := 9) dX9_footOf_9 (by decide) rfl ?_
          refine a_getI (y := 10) (pc := 10) dX9_footOf_10 fl_RX9_35 (by decide) s0_275 (Or.inl rfl) rfl ?_
          refine a_icmp_eq (tgt := 30) (pc := 13) dX9_footOf_13 (by decide) (fun _ => ?_) (fun hc => absurd hc6 hc)
          refine a_ldc (v := 100000000) (pc := 30) dX9_footOf_30 kc_RX9_112 (by decide) ?_
          refine a_goto (tgt := 46) (pc := 32) dX9_footOf_32 (by decide) ?_
          refine a_ireti (pc := 46) dX9_footOf_46 rfl rfl (Nat.le_of_ble_eq_true rfl) ⟨rfl, ?_⟩
          refine a_ldc (v := 100000000) (pc := 47) dX9_walkedFrom_47 kc_RX9_112 (by decide) ?_
          refine a_icmp_ge (tgt := 92) (pc := 49) dX9_walkedFrom_49 (by decide) (fun _ => ?_) (fun hc => absurd (by decide) hc)
          refine a_iconst (pc := 92) dX9_walkedFrom_92 (by decide) ?_
          refine a_istore (ls1 := [(2, 275), (0, l1), (0, l2), (0, l3), (0, l4), (0, l5), (0, l2 - 100000000), (0, 0)]) (pc := 93) dX9_walkedFrom_93 (by decide) (hp1 (t := 0) rfl (by decide)) rfl ?_
          refine a_iload (pc := 95) dX9_walkedFrom_95 rfl ?_
          refine a_if_eq (tgt := 105) (pc := 97) dX9_walkedFrom_97 (by decide) (fun _ => ?_) (fun hc => absurd (by decide) hc)
          refine a_iload (pc := 105) dX9_walkedFrom_105 rfl ?_
          refine a_istore (ls1 := [(2, 275), (0, l1), (0, l2), (0, l3), (0, l4), (0, l5), (0, l2 - 100000000), (0, 0)]) (pc := 107) dX9_walkedFrom_107 (by decide) (hp1 (t := 0) rfl (by decide)) rfl ?_
          have ho8 := h.1
          replace h := h.2
          refine a_iinc (ls1 := [(2, 275), (0, l1), (0, l2), (0, l3), (0, l4), (0, l5 + (-1)), (0, l2 - 100000000), (0, 0)]) (pc := 109) dX9_walkedFrom_109 rfl (by decide) (hp1 (t := 0) rfl (by decide)) ho8 rfl ?_
          refine a_goto (tgt := 7) (pc := 112) dX9_walkedFrom_112 (by decide) ?_
          exact a_msk [true, true, true, true, true, true, false, false] rfl h
        · replace h := h.2 hc6
          refine a_aload_n (pc := 16) dX9_footOf_16 (by decide) rfl ?_
          refine a_getR (y := 282) (pc := 17) dX9_footOf_17 fl_RX9_28 (by decide) s0_275 rfl rfl ?_
          refine a_bipush (pc := 20) dX9_footOf_20 (by decide) (by decide +kernel) ?_
          refine a_iload_n (pc := 22) dX9_footOf_22 rfl ?_
          have ho9 := h.1
          replace h := h.2
          refine a_imul (pc := 23) dX9_footOf_23 ho9 ?_
          refine a_iload_n (pc := 24) dX9_footOf_24 rfl ?_
          have ho10 := h.1
          replace h := h.2
          refine a_iadd (pc := 25) dX9_footOf_25 ho10 ?_
          have ho11 := h.1
          replace h := h.2
          refine a_iald (pc := 26) dX9_footOf_26 (by decide) s0_282 ho11.1 ho11.2 ?_
          refine a_if_ne (tgt := 35) (pc := 27) dX9_footOf_27 (by decide) (fun hc12 => ?_) (fun hc12 => ?_)
          · replace h := h.1 hc12
            refine a_aload_n (pc := 35) dX9_footOf_35 (by decide) rfl ?_
            refine a_getR (y := 282) (pc := 36) dX9_footOf_36 fl_RX9_28 (by decide) s0_275 rfl rfl ?_
            refine a_bipush (pc := 39) dX9_footOf_39 (by decide) (by decide +kernel) ?_
            refine a_iload_n (pc := 41) dX9_footOf_41 rfl ?_
            refine a_imul (pc := 42) dX9_footOf_42 ho9 ?_
            refine a_iload_n (pc := 43) dX9_footOf_43 rfl ?_
            refine a_iadd (pc := 44) dX9_footOf_44 ho10 ?_
            refine a_iald (pc := 45) dX9_footOf_45 (by decide) s0_282 ho11.1 ho11.2 ?_
            refine a_ireti (pc := 46) dX9_footOf_46 rfl rfl (Nat.le_of_ble_eq_true rfl) ⟨rfl, ?_⟩
            have ho13 := h.1
            replace h := h.2
            refine a_isub (pc := 31) dX9_walkedFrom_31 ho13 ?_
            refine a_istore (ls1 := [(2, 275), (0, l1), (0, l2), (0, l3), (0, l4), (0, l5), (0, l2 - (M 282 ((12 * l5) + l1))), (9, 0)]) (pc := 32) dX9_walkedFrom_32 (by decide) (hp1 (t := 0) rfl (by decide)) rfl ?_
            refine a_iload (pc := 34) dX9_walkedFrom_34 rfl ?_
            refine a_iload_n (pc := 36) dX9_walkedFrom_36 rfl ?_
            refine a_icmp_eq (tgt := 92) (pc := 37) dX9_walkedFrom_37 (by decide) (fun hc => absurd hc hc2) (fun _ => ?_)
            refine a_aload_n (pc := 40) dX9_walkedFrom_40 (by decide) rfl ?_
            refine a_iload (pc := 41) dX9_walkedFrom_41 rfl ?_
            refine a_iload_n (pc := 43) dX9_walkedFrom_43 rfl ?_
            refine p_inlV (Ex := _) (As := [(0, l5), (0, l1)]) (st := []) (st1 := fun r => [(0, r)])  (pc := 44) dX9_walkedFrom_44 ml_RX9_113 (by decide) s0_275 rfl (by decide) (Nat.le_of_ble_eq_true rfl) rfl (fun _ => rfl) (by decide) (by decide) (Nat.le_of_ble_eq_true rfl) rfl ?_
            refine a_iload_n (pc := 0) dX9_footOf_0 rfl ?_
            refine a_aload_n (pc := 1) dX9_footOf_1 (by decide) rfl ?_
            refine a_getI (y := 10) (pc := 2) dX9_footOf_2 fl_RX9_35 (by decide) s0_275 (Or.inl rfl) rfl ?_
            refine a_icmp_eq (tgt := 30) (pc := 5) dX9_footOf_5 (by decide) (fun hc => absurd hc hc3) (fun _ => ?_)
            refine a_iload_n (pc := 8) dX9_footOf_8 rfl ?_
            refine a_aload_n (pc := 9) dX9_footOf_9 (by decide) rfl ?_
            refine a_getI (y := 10) (pc := 10) dX9_footOf_10 fl_RX9_35 (by decide) s0_275 (Or.inl rfl) rfl ?_
            refine a_icmp_eq (tgt := 30) (pc := 13) dX9_footOf_13 (by decide) (fun hc => absurd hc hc6) (fun _ => ?_)
            refine a_aload_n (pc := 16) dX9_footOf_16 (by decide) rfl ?_
            refine a_getR (y := 282) (pc := 17) dX9_footOf_17 fl_RX9_28 (by decide) s0_275 rfl rfl ?_
            refine a_bipush (pc := 20) dX9_footOf_20 (by decide) (by decide +kernel) ?_
            refine a_iload_n (pc := 22) dX9_footOf_22 rfl ?_
            refine a_imul (pc := 23) dX9_footOf_23 ho9 ?_
            refine a_iload_n (pc := 24) dX9_footOf_24 rfl ?_
            refine a_iadd (pc := 25) dX9_footOf_25 ho10 ?_
            refine a_iald (pc := 26) dX9_footOf_26 (by decide) s0_282 ho11.1 ho11.2 ?_
            refine a_if_ne (tgt := 35) (pc := 27) dX9_footOf_27 (by decide) (fun _ => ?_) (fun hc => absurd hc hc12)
            refine a_aload_n (pc := 35) dX9_footOf_35 (by decide) rfl ?_
            refine a_getR (y := 282) (pc := 36) dX9_footOf_36 fl_RX9_28 (by decide) s0_275 rfl rfl ?_
            refine a_bipush (pc := 39) dX9_footOf_39 (by decide) (by decide +kernel) ?_
            refine a_iload_n (pc := 41) dX9_footOf_41 rfl ?_
            refine a_imul (pc := 42) dX9_footOf_42 ho9 ?_
            refine a_iload_n (pc := 43) dX9_footOf_43 rfl ?_
            refine a_iadd (pc := 44) dX9_footOf_44 ho10 ?_
            refine a_iald (pc := 45) dX9_footOf_45 (by decide) s0_282 ho11.1 ho11.2 ?_
            refine a_ireti (pc := 46) dX9_footOf_46 rfl rfl (Nat.le_of_ble_eq_true rfl) ⟨rfl, ?_⟩
            refine a_ldc (v := 100000000) (pc := 47) dX9_walkedFrom_47 kc_RX9_112 (by decide) ?_
            refine a_icmp_ge (tgt := 92) (pc := 49) dX9_walkedFrom_49 (by decide) (fun hc14 => ?_) (fun hc14 => ?_)
            · replace h := h.1 hc14
              refine a_iconst (pc := 92) dX9_walkedFrom_92 (by decide) ?_
              refine a_istore (ls1 := [(2, 275), (0, l1), (0, l2), (0, l3), (0, l4), (0, l5), (0, l2 - (M 282 ((12 * l5) + l1))), (0, 0)]) (pc := 93) dX9_walkedFrom_93 (by decide) (hp1 (t := 0) rfl (by decide)) rfl ?_
              refine a_iload (pc := 95) dX9_walkedFrom_95 rfl ?_
              refine a_if_eq (tgt := 105) (pc := 97) dX9_walkedFrom_97 (by decide) (fun _ => ?_) (fun hc => absurd (by decide) hc)
              refine a_iload (pc := 105) dX9_walkedFrom_105 rfl ?_
              refine a_istore (ls1 := [(2, 275), (0, l1), (0, l2), (0, l3), (0, l4), (0, l5), (0, l2 - (M 282 ((12 * l5) + l1))), (0, 0)]) (pc := 107) dX9_walkedFrom_107 (by decide) (hp1 (t := 0) rfl (by decide)) rfl ?_
              have ho15 := h.1
              replace h := h.2
              refine a_iinc (ls1 := [(2, 275), (0, l1), (0, l2), (0, l3), (0, l4), (0, l5 + (-1)), (0, l2 - (M 282 ((12 * l5) + l1))), (0, 0)]) (pc := 109) dX9_walkedFrom_109 rfl (by decide) (hp1 (t := 0) rfl (by decide)) ho15 rfl ?_
              refine a_goto (tgt := 7) (pc := 112) dX9_walkedFrom_112 (by decide) ?_
              exact a_msk [true, true, true, true, true, true, false, false] rfl h
            · replace h := h.2 hc14
              refine a_iload (pc := 52) dX9_walkedFrom_52 rfl ?_
              refine a_aload_n (pc := 54) dX9_walkedFrom_54 (by decide) rfl ?_
              refine a_getI (y := 11) (pc := 55) dX9_walkedFrom_55 fl_RX9_124 (by decide) s0_275 (Or.inl rfl) rfl ?_
              refine a_icmp_ne (tgt := 76) (pc := 58) dX9_walkedFrom_58 (by decide) (fun hc16 => ?_) (fun hc16 => ?_)
              · replace h := h.1 hc16
                refine a_aload_n (pc := 76) dX9_walkedFrom_76 (by decide) rfl ?_
                refine a_iload (pc := 77) dX9_walkedFrom_77 rfl ?_
                refine a_iload (pc := 79) dX9_walkedFrom_79 rfl ?_
                refine a_iload_n (pc := 81) dX9_walkedFrom_81 rfl ?_
                refine p_callV (As := [(0, l5), (0, l2 - (M 282 ((12 * l5) + l1))), (0, l3)]) (st := []) (st1 := fun r => [(0, r)])  (pc := 82) dX9_walkedFrom_82 ml_RX9_158 (by decide) s0_275 rfl (by decide) (Nat.le_of_ble_eq_true rfl) rfl (fun _ => rfl) h (fun r17 M18 h => ?_)
                refine a_if_eq (tgt := 92) (pc := 85) dX9_walkedFrom_85 (by decide) (fun hc19 => ?_) (fun hc19 => ?_)
                · replace h := h.1 hc19
                  refine a_iconst (pc := 92) dX9_walkedFrom_92 (by decide) ?_
                  refine a_istore (ls1 := [(2, 275), (0, l1), (0, l2), (0, l3), (0, l4), (0, l5), (0, l2 - (M 282 ((12 * l5) + l1))), (0, 0)]) (pc := 93) dX9_walkedFrom_93 (by decide) (hp1 (t := 0) rfl (by decide)) rfl ?_
                  refine a_iload (pc := 95) dX9_walkedFrom_95 rfl ?_
                  refine a_if_eq (tgt := 105) (pc := 97) dX9_walkedFrom_97 (by decide) (fun _ => ?_) (fun hc => absurd (by decide) hc)
                  refine a_iload (pc := 105) dX9_walkedFrom_105 rfl ?_
                  refine a_istore (ls1 := [(2, 275), (0, l1), (0, l2), (0, l3), (0, l4), (0, l5), (0, l2 - (M 282 ((12 * l5) + l1))), (0, 0)]) (pc := 107) dX9_walkedFrom_107 (by decide) (hp1 (t := 0) rfl (by decide)) rfl ?_
                  have ho20 := h.1
                  replace h := h.2
                  refine a_iinc (ls1 := [(2, 275), (0, l1), (0, l2), (0, l3), (0, l4), (0, l5 + (-1)), (0, l2 - (M 282 ((12 * l5) + l1))), (0, 0)]) (pc := 109) dX9_walkedFrom_109 rfl (by decide) (hp1 (t := 0) rfl (by decide)) ho20 rfl ?_
                  refine a_goto (tgt := 7) (pc := 112) dX9_walkedFrom_112 (by decide) ?_
                  exact a_msk [true, true, true, true, true, true, false, false] rfl h
                · replace h := h.2 hc19
                  refine a_iconst (pc := 88) dX9_walkedFrom_88 (by decide) ?_
                  refine a_goto (tgt := 93) (pc := 89) dX9_walkedFrom_89 (by decide) ?_
                  refine a_istore (ls1 := [(2, 275), (0, l1), (0, l2), (0, l3), (0, l4), (0, l5), (0, l2 - (M 282 ((12 * l5) + l1))), (0, 1)]) (pc := 93) dX9_walkedFrom_93 (by decide) (hp1 (t := 0) rfl (by decide)) rfl ?_
                  refine a_iload (pc := 95) dX9_walkedFrom_95 rfl ?_
                  refine a_if_eq (tgt := 105) (pc := 97) dX9_walkedFrom_97 (by decide) (fun hc => absurd hc (by decide)) (fun _ => ?_)
                  refine a_iload (pc := 100) dX9_walkedFrom_100 rfl ?_
                  refine a_goto (tgt := 107) (pc := 102) dX9_walkedFrom_102 (by decide) ?_
                  refine a_istore (ls1 := [(2, 275), (0, l1), (0, l2), (0, l3), (0, l5), (0, l5), (0, l2 - (M 282 ((12 * l5) + l1))), (0, 1)]) (pc := 107) dX9_walkedFrom_107 (by decide) (hp1 (t := 0) rfl (by decide)) rfl ?_
                  have ho21 := h.1
                  replace h := h.2
                  refine a_iinc (ls1 := [(2, 275), (0, l1), (0, l2), (0, l3), (0, l5), (0, l5 + (-1)), (0, l2 - (M 282 ((12 * l5) + l1))), (0, 1)]) (pc := 109) dX9_walkedFrom_109 rfl (by decide) (hp1 (t := 0) rfl (by decide)) ho21 rfl ?_
                  refine a_goto (tgt := 7) (pc := 112) dX9_walkedFrom_112 (by decide) ?_
                  exact a_msk [true, true, true, true, true, true, false, false] rfl h
              · replace h := h.2 hc16
                refine a_iload (pc := 61) dX9_walkedFrom_61 rfl ?_
                refine a_aload_n (pc := 63) dX9_walkedFrom_63 (by decide) rfl ?_
                refine a_getR (y := 283) (pc := 64) dX9_walkedFrom_64 fl_RX9_38 (by decide) s0_275 rfl rfl ?_
                refine a_iload (pc := 67) dX9_walkedFrom_67 rfl ?_
                have ho22 := h.1
                replace h := h.2
                refine a_iald (pc := 69) dX9_walkedFrom_69 (by decide) s0_283 ho22.1 ho22.2 ?_
                refine a_icmp_ne (tgt := 92) (pc := 70) dX9_walkedFrom_70 (by decide) (fun hc23 => ?_) (fun hc23 => ?_)
                · replace h := h.1 hc23
                  refine a_iconst (pc := 92) dX9_walkedFrom_92 (by decide) ?_
                  refine a_istore (ls1 := [(2, 275), (0, l1), (0, l2), (0, l3), (0, l4), (0, l5), (0, l2 - (M 282 ((12 * l5) + l1))), (0, 0)]) (pc := 93) dX9_walkedFrom_93 (by decide) (hp1 (t := 0) rfl (by decide)) rfl ?_
                  refine a_iload (pc := 95) dX9_walkedFrom_95 rfl ?_
                  refine a_if_eq (tgt := 105) (pc := 97) dX9_walkedFrom_97 (by decide) (fun _ => ?_) (fun hc => absurd (by decide) hc)
                  refine a_iload (pc := 105) dX9_walkedFrom_105 rfl ?_
                  refine a_istore (ls1 := [(2, 275), (0, l1), (0, l2), (0, l3), (0, l4), (0, l5), (0, l2 - (M 282 ((12 * l5) + l1))), (0, 0)]) (pc := 107) dX9_walkedFrom_107 (by decide) (hp1 (t := 0) rfl (by decide)) rfl ?_
                  have ho24 := h.1
                  replace h := h.2
                  refine a_iinc (ls1 := [(2, 275), (0, l1), (0, l2), (0, l3), (0, l4), (0, l5 + (-1)), (0, l2 - (M 282 ((12 * l5) + l1))), (0, 0)]) (pc := 109) dX9_walkedFrom_109 rfl (by decide) (hp1 (t := 0) rfl (by decide)) ho24 rfl ?_
                  refine a_goto (tgt := 7) (pc := 112) dX9_walkedFrom_112 (by decide) ?_
                  exact a_msk [true, true, true, true, true, true, false, false] rfl h
                · replace h := h.2 hc23
                  refine a_goto (tgt := 88) (pc := 73) dX9_walkedFrom_73 (by decide) ?_
                  refine a_iconst (pc := 88) dX9_walkedFrom_88 (by decide) ?_
                  refine a_goto (tgt := 93) (pc := 89) dX9_walkedFrom_89 (by decide) ?_
                  refine a_istore (ls1 := [(2, 275), (0, l1), (0, l2), (0, l3), (0, l4), (0, l5), (0, l2 - (M 282 ((12 * l5) + l1))), (0, 1)]) (pc := 93) dX9_walkedFrom_93 (by decide) (hp1 (t := 0) rfl (by decide)) rfl ?_
                  refine a_iload (pc := 95) dX9_walkedFrom_95 rfl ?_
                  refine a_if_eq (tgt := 105) (pc := 97) dX9_walkedFrom_97 (by decide) (fun hc => absurd hc (by decide)) (fun _ => ?_)
                  refine a_iload (pc := 100) dX9_walkedFrom_100 rfl ?_
                  refine a_goto (tgt := 107) (pc := 102) dX9_walkedFrom_102 (by decide) ?_
                  refine a_istore (ls1 := [(2, 275), (0, l1), (0, l2), (0, l3), (0, l5), (0, l5), (0, l2 - (M 282 ((12 * l5) + l1))), (0, 1)]) (pc := 107) dX9_walkedFrom_107 (by decide) (hp1 (t := 0) rfl (by decide)) rfl ?_
                  have ho25 := h.1
                  replace h := h.2
                  refine a_iinc (ls1 := [(2, 275), (0, l1), (0, l2), (0, l3), (0, l5), (0, l5 + (-1)), (0, l2 - (M 282 ((12 * l5) + l1))), (0, 1)]) (pc := 109) dX9_walkedFrom_109 rfl (by decide) (hp1 (t := 0) rfl (by decide)) ho25 rfl ?_
                  refine a_goto (tgt := 7) (pc := 112) dX9_walkedFrom_112 (by decide) ?_
                  exact a_msk [true, true, true, true, true, true, false, false] rfl h
          · replace h := h.2 hc12
            refine a_ldc (v := 100000000) (pc := 30) dX9_footOf_30 kc_RX9_112 (by decide) ?_
            refine a_goto (tgt := 46) (pc := 32) dX9_footOf_32 (by decide) ?_
            refine a_ireti (pc := 46) dX9_footOf_46 rfl rfl (Nat.le_of_ble_eq_true rfl) ⟨rfl, ?_⟩
            have ho26 := h.1
            replace h := h.2
            refine a_isub (pc := 31) dX9_walkedFrom_31 ho26 ?_
            refine a_istore (ls1 := [(2, 275), (0, l1), (0, l2), (0, l3), (0, l4), (0, l5), (0, l2 - 100000000), (9, 0)]) (pc := 32) dX9_walkedFrom_32 (by decide) (hp1 (t := 0) rfl (by decide)) rfl ?_
            refine a_iload (pc := 34) dX9_walkedFrom_34 rfl ?_
            refine a_iload_n (pc := 36) dX9_walkedFrom_36 rfl ?_
            refine a_icmp_eq (tgt := 92) (pc := 37) dX9_walkedFrom_37 (by decide) (fun hc => absurd hc hc2) (fun _ => ?_)
            refine a_aload_n (pc := 40) dX9_walkedFrom_40 (by decide) rfl ?_
            refine a_iload (pc := 41) dX9_walkedFrom_41 rfl ?_
            refine a_iload_n (pc := 43) dX9_walkedFrom_43 rfl ?_
            refine p_inlV (Ex := _) (As := [(0, l5), (0, l1)]) (st := []) (st1 := fun r => [(0, r)])  (pc := 44) dX9_walkedFrom_44 ml_RX9_113 (by decide) s0_275 rfl (by decide) (Nat.le_of_ble_eq_true rfl) rfl (fun _ => rfl) (by decide) (by decide) (Nat.le_of_ble_eq_true rfl) rfl ?_
            refine a_iload_n (pc := 0) dX9_footOf_0 rfl ?_
            refine a_aload_n (pc := 1) dX9_footOf_1 (by decide) rfl ?_
            refine a_getI (y := 10) (pc := 2) dX9_footOf_2 fl_RX9_35 (by decide) s0_275 (Or.inl rfl) rfl ?_
            refine a_icmp_eq (tgt := 30) (pc := 5) dX9_footOf_5 (by decide) (fun hc => absurd hc hc3) (fun _ => ?_)
            refine a_iload_n (pc := 8) dX9_footOf_8 rfl ?_
            refine a_aload_n (pc := 9) dX9_footOf_9 (by decide) rfl ?_
            refine a_getI (y := 10) (pc := 10) dX9_footOf_10 fl_RX9_35 (by decide) s0_275 (Or.inl rfl) rfl ?_
            refine a_icmp_eq (tgt := 30) (pc := 13) dX9_footOf_13 (by decide) (fun hc => absurd hc hc6) (fun _ => ?_)
            refine a_aload_n (pc := 16) dX9_footOf_16 (by decide) rfl ?_
            refine a_getR (y := 282) (pc := 17) dX9_footOf_17 fl_RX9_28 (by decide) s0_275 rfl rfl ?_
            refine a_bipush (pc := 20) dX9_footOf_20 (by decide) (by decide +kernel) ?_
            refine a_iload_n (pc := 22) dX9_footOf_22 rfl ?_
            refine a_imul (pc := 23) dX9_footOf_23 ho9 ?_
            refine a_iload_n (pc := 24) dX9_footOf_24 rfl ?_
            refine a_iadd (pc := 25) dX9_footOf_25 ho10 ?_
            refine a_iald (pc := 26) dX9_footOf_26 (by decide) s0_282 ho11.1 ho11.2 ?_
            refine a_if_ne (tgt := 35) (pc := 27) dX9_footOf_27 (by decide) (fun hc => absurd hc12 hc) (fun _ => ?_)
            refine a_ldc (v := 100000000) (pc := 30) dX9_footOf_30 kc_RX9_112 (by decide) ?_
            refine a_goto (tgt := 46) (pc := 32) dX9_footOf_32 (by decide) ?_
            refine a_ireti (pc := 46) dX9_footOf_46 rfl rfl (Nat.le_of_ble_eq_true rfl) ⟨rfl, ?_⟩
            refine a_ldc (v := 100000000) (pc := 47) dX9_walkedFrom_47 kc_RX9_112 (by decide) ?_
            refine a_icmp_ge (tgt := 92) (pc := 49) dX9_walkedFrom_49 (by decide) (fun _ => ?_) (fun hc => absurd (by decide) hc)
            refine a_iconst (pc := 92) dX9_walkedFrom_92 (by decide) ?_
            refine a_istore (ls1 := [(2, 275), (0, l1), (0, l2), (0, l3), (0, l4), (0, l5), (0, l2 - 100000000), (0, 0)]) (pc := 93) dX9_walkedFrom_93 (by decide) (hp1 (t := 0) rfl (by decide)) rfl ?_
            refine a_iload (pc := 95) dX9_walkedFrom_95 rfl ?_
            refine a_if_eq (tgt := 105) (pc := 97) dX9_walkedFrom_97 (by decide) (fun _ => ?_) (fun hc => absurd (by decide) hc)
            refine a_iload (pc := 105) dX9_walkedFrom_105 rfl ?_
            refine a_istore (ls1 := [(2, 275), (0, l1), (0, l2), (0, l3), (0, l4), (0, l5), (0, l2 - 100000000), (0, 0)]) (pc := 107) dX9_walkedFrom_107 (by decide) (hp1 (t := 0) rfl (by decide)) rfl ?_
            have ho27 := h.1
            replace h := h.2
            refine a_iinc (ls1 := [(2, 275), (0, l1), (0, l2), (0, l3), (0, l4), (0, l5 + (-1)), (0, l2 - 100000000), (0, 0)]) (pc := 109) dX9_walkedFrom_109 rfl (by decide) (hp1 (t := 0) rfl (by decide)) ho27 rfl ?_
            refine a_goto (tgt := 7) (pc := 112) dX9_walkedFrom_112 (by decide) ?_
            exact a_msk [true, true, true, true, true, true, false, false] rfl h
    · replace h := h.2 hc2
      refine a_ldc (v := 100000000) (pc := 19) dX9_walkedFrom_19 kc_RX9_112 (by decide) ?_
      refine a_goto (tgt := 31) (pc := 21) dX9_walkedFrom_21 (by decide) ?_
      have ho28 := h.1
      replace h := h.2
      refine a_isub (pc := 31) dX9_walkedFrom_31 ho28 ?_
      refine a_istore (ls1 := [(2, 275), (0, l1), (0, l2), (0, l3), (0, l4), (0, l5), (0, l2 - 100000000), (9, 0)]) (pc := 32) dX9_walkedFrom_32 (by decide) (hp1 (t := 0) rfl (by decide)) rfl ?_
      refine a_iload (pc := 34) dX9_walkedFrom_34 rfl ?_
      refine a_iload_n (pc := 36) dX9_walkedFrom_36 rfl ?_
      refine a_icmp_eq (tgt := 92) (pc := 37) dX9_walkedFrom_37 (by decide) (fun _ => ?_) (fun hc => absurd hc2 hc)
      refine a_iconst (pc := 92) dX9_walkedFrom_92 (by decide) ?_
      refine a_istore (ls1 := [(2, 275), (0, l1), (0, l2), (0, l3), (0, l4), (0, l5), (0, l2 - 100000000), (0, 0)]) (pc := 93) dX9_walkedFrom_93 (by decide) (hp1 (t := 0) rfl (by decide)) rfl ?_
      refine a_iload (pc := 95) dX9_walkedFrom_95 rfl ?_
      refine a_if_eq (tgt := 105) (pc := 97) dX9_walkedFrom_97 (by decide) (fun _ => ?_) (fun hc => absurd (by decide) hc)
      refine a_iload (pc := 105) dX9_walkedFrom_105 rfl ?_
      refine a_istore (ls1 := [(2, 275), (0, l1), (0, l2), (0, l3), (0, l4), (0, l5), (0, l2 - 100000000), (0, 0)]) (pc := 107) dX9_walkedFrom_107 (by decide) (hp1 (t := 0) rfl (by decide)) rfl ?_
      have ho29 := h.1
      replace h := h.2
      refine a_iinc (ls1 := [(2, 275), (0, l1), (0, l2), (0, l3), (0, l4), (0, l5 + (-1)), (0, l2 - 100000000), (0, 0)]) (pc := 109) dX9_walkedFrom_109 rfl (by decide) (hp1 (t := 0) rfl (by decide)) ho29 rfl ?_
      refine a_goto (tgt := 7) (pc := 112) dX9_walkedFrom_112 (by decide) ?_
      exact a_msk [true, true, true, true, true, true, false, false] rfl h
theorem E_R_walkedFrom {l1 l2 l3 : Int} {M : Mem} {Q : Int → Mem → Prop} (h : AW mX9_walkedFrom 0 [(2, 275), (0, l1), (0, l2), (0, l3), (9, 0), (9, 0), (9, 0), (9, 0)] M Q) : Calls mX9_walkedFrom [(2, 275), (0, l1), (0, l2), (0, l3)] S0 M Q := calls_of (by decide) (by decide) (Nat.le_of_ble_eq_true rfl) rfl h
set_option maxRecDepth 100000 in
set_option maxHeartbeats 4000000 in
theorem B_R_judge_0 {l1 l2 l3 l4 l5 : Int} {M : Mem} {Q : Int → Mem → Prop} (h : Calls mX9_wrongLay [(2, 275), (0, l1), (0, l3), (0, l4), (0, l5)] S0 (up2 M 275 8 0) (fun r1 M2 => ((0 ≤ r1 → Calls mX9_layRounds [(2, 275), (0, l3), (0, l4)] S0 M2 (fun r4 M5 => AW mX9_judge 39 [(2, 275), (0, l1), (0, l2), (9, 0), (9, 0), (0, l5), (0, 0)] M5 Q)) ∧ (¬ (0 ≤ r1) → Calls mX9_wrongLay [(2, 275), (0, l1), (0, l3), (0, l4), (0, l5)] S0 M2 (fun r6 M7 => Q r6 M7))))) : AW mX9_judge 0 [(2, 275), (0, l1), (0, l2), (0, l3), (0, l4), (0, l5), (9, 0)] M Q := by
  refine a_aload_n (pc := 0) dX9_judge_0 (by decide) rfl ?_
  refine a_iconst (pc := 1) dX9_judge_1 (by decide) ?_
  refine a_putI (y := 8) (pc := 2) dX9_judge_2 fl_RX9_87 (by decide) s0_275 rfl rfl (tyX9_ok 8 (by decide)) rfl ?_
  refine a_aload_n (pc := 5) dX9_judge_5 (by decide) rfl ?_
  refine a_iload_n (pc := 6) dX9_judge_6 rfl ?_
  refine a_iload_n (pc := 7) dX9_judge_7 rfl ?_
  refine a_iload (pc := 8) dX9_judge_8 rfl ?_
  refine a_iload (pc := 10) dX9_judge_10 rfl ?_
  refine p_callV (As := [(0, l1), (0, l3), (0, l4), (0, l5)]) (st := []) (st1 := fun r => [(0, r)])  (pc := 12) dX9_judge_12 ml_RX9_347 (by decide) s0_275 rfl (by decide) (Nat.le_of_ble_eq_true rfl) rfl (fun _ => rfl) h (fun r1 M2 h => ?_)
  refine a_if_ge (tgt := 29) (pc := 15) dX9_judge_15 (by decide) (fun hc3 => ?_) (fun hc3 => ?_)
  · replace h := h.1 hc3
    refine a_aload_n (pc := 29) dX9_judge_29 (by decide) rfl ?_
    refine a_iload_n (pc := 30) dX9_judge_30 rfl ?_
    refine a_iload (pc := 31) dX9_judge_31 rfl ?_
    refine p_callV (As := [(0, l3), (0, l4)]) (st := []) (st1 := fun r => [])  (pc := 33) dX9_judge_33 ml_RX9_138 (by decide) s0_275 rfl (by decide) (Nat.le_of_ble_eq_true rfl) rfl (fun _ => rfl) h (fun r4 M5 h => ?_)
    refine a_iconst (pc := 36) dX9_judge_36 (by decide) ?_
    refine a_istore (ls1 := [(2, 275), (0, l1), (0, l2), (0, l3), (0, l4), (0, l5), (0, 0)]) (pc := 37) dX9_judge_37 (by decide) (hp1 (t := 0) rfl (by decide)) rfl ?_
    exact a_msk [true, true, true, false, false, true, true] rfl h
  · replace h := h.2 hc3
    refine a_aload_n (pc := 18) dX9_judge_18 (by decide) rfl ?_
    refine a_iload_n (pc := 19) dX9_judge_19 rfl ?_
    refine a_iload_n (pc := 20) dX9_judge_20 rfl ?_
    refine a_iload (pc := 21) dX9_judge_21 rfl ?_
    refine a_iload (pc := 23) dX9_judge_23 rfl ?_
    refine p_callV (As := [(0, l1), (0, l3), (0, l4), (0, l5)]) (st := []) (st1 := fun r => [(0, r)])  (pc := 25) dX9_judge_25 ml_RX9_347 (by decide) s0_275 rfl (by decide) (Nat.le_of_ble_eq_true rfl) rfl (fun _ => rfl) h (fun r6 M7 h => ?_)
    exact a_ireti (pc := 28) dX9_judge_28 rfl rfl (Nat.le_of_ble_eq_true rfl) ⟨rfl, h⟩
set_option maxRecDepth 100000 in
set_option maxHeartbeats 4000000 in
theorem B_R_judge_39 {l1 l2 l5 l6 : Int} {M : Mem} {Q : Int → Mem → Prop} (h : ((12 ≤ l6 → Q (-5) M) ∧ (¬ (12 ≤ l6) → ((l2 < 0 → (-2147483648 ≤ 100 + l6 ∧ 100 + l6 ≤ 2147483647) ∧ Q (100 + l6) M) ∧ (¬ (l2 < 0) → (-9223372036854775808 ≤ l2 + l6 ∧ l2 + l6 ≤ 9223372036854775807) ∧ ((0 : Int) ≤ l1 ∧ l1 < 4) ∧ (((l2 + l6) < (M 297 l1) → (-2147483648 ≤ 20 * l1 ∧ 20 * l1 ≤ 2147483647) ∧ (-2147483648 ≤ (20 * l1) + l2 ∧ (20 * l1) + l2 ≤ 2147483647) ∧ (-2147483648 ≤ ((20 * l1) + l2) + l6 ∧ ((20 * l1) + l2) + l6 ≤ 2147483647) ∧ ((0 : Int) ≤ ((20 * l1) + l2) + l6 ∧ ((20 * l1) + l2) + l6 < 80) ∧ (-2147483648 ≤ 12 * l5 ∧ 12 * l5 ≤ 2147483647) ∧ (-2147483648 ≤ (12 * l5) + l6 ∧ (12 * l5) + l6 ≤ 2147483647) ∧ ((0 : Int) ≤ (12 * l5) + l6 ∧ (12 * l5) + l6 < 84) ∧ (((M 284 ((12 * l5) + l6)) < 100000000 → (((M 298 (((20 * l1) + l2) + l6)) = (M 284 ((12 * l5) + l6)) → (-2147483648 ≤ l6 + 1 ∧ l6 + 1 ≤ 2147483647) ∧ AW mX9_judge 39 [(2, 275), (0, l1), (0, l2), (9, 0), (9, 0), (0, l5), (0, l6 + 1)] M Q) ∧ (¬ (M 298 (((20 * l1) + l2) + l6)) = (M 284 ((12 * l5) + l6)) → Q l6 M))) ∧ (¬ ((M 284 ((12 * l5) + l6)) < 100000000) → (((M 298 (((20 * l1) + l2) + l6)) = (-1) → (-2147483648 ≤ l6 + 1 ∧ l6 + 1 ≤ 2147483647) ∧ AW mX9_judge 39 [(2, 275), (0, l1), (0, l2), (9, 0), (9, 0), (0, l5), (0, l6 + 1)] M Q) ∧ (¬ (M 298 (((20 * l1) + l2) + l6)) = (-1) → Q l6 M))))) ∧ (¬ ((l2 + l6) < (M 297 l1)) → (-2147483648 ≤ 100 + l6 ∧ 100 + l6 ≤ 2147483647) ∧ Q (100 + l6) M))))))) : AW mX9_judge 39 [(2, 275), (0, l1), (0, l2), (9, 0), (9, 0), (0, l5), (0, l6)] M Q := by
  refine a_iload (pc := 39) dX9_judge_39 rfl ?_
  refine a_bipush (pc := 41) dX9_judge_41 (by decide) (by decide +kernel) ?_
  refine a_icmp_ge (tgt := 107) (pc := 43) dX9_judge_43 (by decide) (fun hc1 => ?_) (fun hc1 => ?_)
  · replace h := h.1 hc1
    refine a_bipush (pc := 107) dX9_judge_107 (by decide) (by decide +kernel) ?_
    exact a_ireti (pc := 109) dX9_judge_109 rfl rfl (Nat.le_of_ble_eq_true rfl) ⟨rfl, h⟩
  · replace h := h.2 hc1
    refine a_iload_n (pc := 46) dX9_judge_46 rfl ?_
    refine a_if_lt (tgt := 67) (pc := 47) dX9_judge_47 (by decide) (fun hc2 => ?_) (fun hc2 => ?_)
    · replace h := h.1 hc2
      refine a_bipush (pc := 67) dX9_judge_67 (by decide) (by decide +kernel) ?_
      refine a_iload (pc := 69) dX9_judge_69 rfl ?_
      have ho3 := h.1
      replace h := h.2
      refine a_iadd (pc := 71) dX9_judge_71 ho3 ?_
      exact a_ireti (pc := 72) dX9_judge_72 rfl rfl (Nat.le_of_ble_eq_true rfl) ⟨rfl, h⟩
    · replace h := h.2 hc2
      refine a_iload_n (pc := 50) dX9_judge_50 rfl ?_
      refine a_i2l (pc := 51) dX9_judge_51 ?_
      refine a_iload (pc := 52) dX9_judge_52 rfl ?_
      refine a_i2l (pc := 54) dX9_judge_54 ?_
      have ho4 := h.1
      replace h := h.2
      refine a_ladd (pc := 55) dX9_judge_55 ho4 ?_
      refine a_aload_n (pc := 56) dX9_judge_56 (by decide) rfl ?_
      refine a_getR (y := 297) (pc := 57) dX9_judge_57 fl_RX9_81 (by decide) s0_275 rfl rfl ?_
      refine a_iload_n (pc := 60) dX9_judge_60 rfl ?_
      have ho5 := h.1
      replace h := h.2
      refine a_iald (pc := 61) dX9_judge_61 (by decide) s0_297 ho5.1 ho5.2 ?_
      refine a_i2l (pc := 62) dX9_judge_62 ?_
      refine a_lcmp_lt (tgt := 73) (pc := 63) dX9_judge_63 dX9_judge_64 (by decide) (fun hc6 => ?_) (fun hc6 => ?_)
      · replace h := h.1 hc6
        refine a_aload_n (pc := 73) dX9_judge_73 (by decide) rfl ?_
        refine a_getR (y := 298) (pc := 74) dX9_judge_74 fl_RX9_84 (by decide) s0_275 rfl rfl ?_
        refine a_bipush (pc := 77) dX9_judge_77 (by decide) (by decide +kernel) ?_
        refine a_iload_n (pc := 79) dX9_judge_79 rfl ?_
        have ho7 := h.1
        replace h := h.2
        refine a_imul (pc := 80) dX9_judge_80 ho7 ?_
        refine a_iload_n (pc := 81) dX9_judge_81 rfl ?_
        have ho8 := h.1
        replace h := h.2
        refine a_iadd (pc := 82) dX9_judge_82 ho8 ?_
        refine a_iload (pc := 83) dX9_judge_83 rfl ?_
        have ho9 := h.1
        replace h := h.2
        refine a_iadd (pc := 85) dX9_judge_85 ho9 ?_
        have ho10 := h.1
        replace h := h.2
        refine a_iald (pc := 86) dX9_judge_86 (by decide) s0_298 ho10.1 ho10.2 ?_
        refine a_aload_n (pc := 87) dX9_judge_87 (by decide) rfl ?_
        refine a_iload (pc := 88) dX9_judge_88 rfl ?_
        refine a_iload (pc := 90) dX9_judge_90 rfl ?_
        refine p_inlV (Ex := _) (As := [(0, l5), (0, l6)]) (st := [(0, M 298 (((20 * l1) + l2) + l6))]) (st1 := fun r => [(0, r), (0, M 298 (((20 * l1) + l2) + l6))])  (pc := 92) dX9_judge_92 ml_RX9_350 (by decide) s0_275 rfl (by decide) (Nat.le_of_ble_eq_true rfl) rfl (fun _ => rfl) (by decide) (by decide) (Nat.le_of_ble_eq_true rfl) rfl ?_
        refine a_aload_n (pc := 0) dX9_toldAt_0 (by decide) rfl ?_
        refine a_getR (y := 284) (pc := 1) dX9_toldAt_1 fl_RX9_41 (by decide) s0_275 rfl rfl ?_
        refine a_bipush (pc := 4) dX9_toldAt_4 (by decide) (by decide +kernel) ?_
        refine a_iload_n (pc := 6) dX9_toldAt_6 rfl ?_
        have ho11 := h.1
        replace h := h.2
        refine a_imul (pc := 7) dX9_toldAt_7 ho11 ?_
        refine a_iload_n (pc := 8) dX9_toldAt_8 rfl ?_
        have ho12 := h.1
        replace h := h.2
        refine a_iadd (pc := 9) dX9_toldAt_9 ho12 ?_
        have ho13 := h.1
        replace h := h.2
        refine a_iald (pc := 10) dX9_toldAt_10 (by decide) s0_284 ho13.1 ho13.2 ?_
        refine a_ldc (v := 100000000) (pc := 11) dX9_toldAt_11 kc_RX9_112 (by decide) ?_
        refine a_icmp_lt (tgt := 20) (pc := 13) dX9_toldAt_13 (by decide) (fun hc14 => ?_) (fun hc14 => ?_)
        · replace h := h.1 hc14
          refine a_aload_n (pc := 20) dX9_toldAt_20 (by decide) rfl ?_
          refine a_getR (y := 284) (pc := 21) dX9_toldAt_21 fl_RX9_41 (by decide) s0_275 rfl rfl ?_
          refine a_bipush (pc := 24) dX9_toldAt_24 (by decide) (by decide +kernel) ?_
          refine a_iload_n (pc := 26) dX9_toldAt_26 rfl ?_
          refine a_imul (pc := 27) dX9_toldAt_27 ho11 ?_
          refine a_iload_n (pc := 28) dX9_toldAt_28 rfl ?_
          refine a_iadd (pc := 29) dX9_toldAt_29 ho12 ?_
          refine a_iald (pc := 30) dX9_toldAt_30 (by decide) s0_284 ho13.1 ho13.2 ?_
          refine a_ireti (pc := 31) dX9_toldAt_31 rfl rfl (Nat.le_of_ble_eq_true rfl) ⟨rfl, ?_⟩
          refine a_icmp_eq (tgt := 101) (pc := 95) dX9_judge_95 (by decide) (fun hc15 => ?_) (fun hc15 => ?_)
          · replace h := h.1 hc15
            have ho16 := h.1
            replace h := h.2
            refine a_iinc (ls1 := [(2, 275), (0, l1), (0, l2), (9, 0), (9, 0), (0, l5), (0, l6 + 1)]) (pc := 101) dX9_judge_101 rfl (by decide) (hp1 (t := 0) rfl (by decide)) ho16 rfl ?_
            refine a_goto (tgt := 39) (pc := 104) dX9_judge_104 (by decide) ?_
            exact h
          · replace h := h.2 hc15
            refine a_iload (pc := 98) dX9_judge_98 rfl ?_
            exact a_ireti (pc := 100) dX9_judge_100 rfl rfl (Nat.le_of_ble_eq_true rfl) ⟨rfl, h⟩
        · replace h := h.2 hc14
          refine a_iconst (pc := 16) dX9_toldAt_16 (by decide) ?_
          refine a_goto (tgt := 31) (pc := 17) dX9_toldAt_17 (by decide) ?_
          refine a_ireti (pc := 31) dX9_toldAt_31 rfl rfl (Nat.le_of_ble_eq_true rfl) ⟨rfl, ?_⟩
          refine a_icmp_eq (tgt := 101) (pc := 95) dX9_judge_95 (by decide) (fun hc17 => ?_) (fun hc17 => ?_)
          · replace h := h.1 hc17
            have ho18 := h.1
            replace h := h.2
            refine a_iinc (ls1 := [(2, 275), (0, l1), (0, l2), (9, 0), (9, 0), (0, l5), (0, l6 + 1)]) (pc := 101) dX9_judge_101 rfl (by decide) (hp1 (t := 0) rfl (by decide)) ho18 rfl ?_
            refine a_goto (tgt := 39) (pc := 104) dX9_judge_104 (by decide) ?_
            exact h
          · replace h := h.2 hc17
            refine a_iload (pc := 98) dX9_judge_98 rfl ?_
            exact a_ireti (pc := 100) dX9_judge_100 rfl rfl (Nat.le_of_ble_eq_true rfl) ⟨rfl, h⟩
      · replace h := h.2 hc6
        refine a_bipush (pc := 67) dX9_judge_67 (by decide) (by decide +kernel) ?_
        refine a_iload (pc := 69) dX9_judge_69 rfl ?_
        have ho19 := h.1
        replace h := h.2
        refine a_iadd (pc := 71) dX9_judge_71 ho19 ?_
        exact a_ireti (pc := 72) dX9_judge_72 rfl rfl (Nat.le_of_ble_eq_true rfl) ⟨rfl, h⟩
theorem E_R_judge {l1 l2 l3 l4 l5 : Int} {M : Mem} {Q : Int → Mem → Prop} (h : AW mX9_judge 0 [(2, 275), (0, l1), (0, l2), (0, l3), (0, l4), (0, l5), (9, 0)] M Q) : Calls mX9_judge [(2, 275), (0, l1), (0, l2), (0, l3), (0, l4), (0, l5)] S0 M Q := calls_of (by decide) (by decide) (Nat.le_of_ble_eq_true rfl) rfl h
set_option maxRecDepth 100000 in
set_option maxHeartbeats 4000000 in
theorem B_R_lay_0 {l1 l2 l3 l4 l5 : Int} {M : Mem} {Q : Int → Mem → Prop} (h : Calls mX9_wrongLay [(2, 275), (0, l1), (0, l3), (0, l4), (0, l5)] S0 (up2 M 275 8 0) (fun r1 M2 => ((0 ≤ r1 → Calls mX9_layRounds [(2, 275), (0, l3), (0, l4)] S0 M2 (fun r4 M5 => AW mX9_lay 39 [(2, 275), (0, l1), (0, l2), (9, 0), (9, 0), (0, l5), (0, 0)] M5 Q)) ∧ (¬ (0 ≤ r1) → Calls mX9_wrongLay [(2, 275), (0, l1), (0, l3), (0, l4), (0, l5)] S0 M2 (fun r6 M7 => Q r6 M7))))) : AW mX9_lay 0 [(2, 275), (0, l1), (0, l2), (0, l3), (0, l4), (0, l5), (9, 0)] M Q := by
  refine a_aload_n (pc := 0) dX9_lay_0 (by decide) rfl ?_
  refine a_iconst (pc := 1) dX9_lay_1 (by decide) ?_
  refine a_putI (y := 8) (pc := 2) dX9_lay_2 fl_RX9_87 (by decide) s0_275 rfl rfl (tyX9_ok 8 (by decide)) rfl ?_
  refine a_aload_n (pc := 5) dX9_lay_5 (by decide) rfl ?_
  refine a_iload_n (pc := 6) dX9_lay_6 rfl ?_
  refine a_iload_n (pc := 7) dX9_lay_7 rfl ?_
  refine a_iload (pc := 8) dX9_lay_8 rfl ?_
  refine a_iload (pc := 10) dX9_lay_10 rfl ?_
  refine p_callV (As := [(0, l1), (0, l3), (0, l4), (0, l5)]) (st := []) (st1 := fun r => [(0, r)])  (pc := 12) dX9_lay_12 ml_RX9_347 (by decide) s0_275 rfl (by decide) (Nat.le_of_ble_eq_true rfl) rfl (fun _ => rfl) h (fun r1 M2 h => ?_)
  refine a_if_ge (tgt := 29) (pc := 15) dX9_lay_15 (by decide) (fun hc3 => ?_) (fun hc3 => ?_)
  · replace h := h.1 hc3
    refine a_aload_n (pc := 29) dX9_lay_29 (by decide) rfl ?_
    refine a_iload_n (pc := 30) dX9_lay_30 rfl ?_
    refine a_iload (pc := 31) dX9_lay_31 rfl ?_
    refine p_callV (As := [(0, l3), (0, l4)]) (st := []) (st1 := fun r => [])  (pc := 33) dX9_lay_33 ml_RX9_138 (by decide) s0_275 rfl (by decide) (Nat.le_of_ble_eq_true rfl) rfl (fun _ => rfl) h (fun r4 M5 h => ?_)
    refine a_iconst (pc := 36) dX9_lay_36 (by decide) ?_
    refine a_istore (ls1 := [(2, 275), (0, l1), (0, l2), (0, l3), (0, l4), (0, l5), (0, 0)]) (pc := 37) dX9_lay_37 (by decide) (hp1 (t := 0) rfl (by decide)) rfl ?_
    exact a_msk [true, true, true, false, false, true, true] rfl h
  · replace h := h.2 hc3
    refine a_aload_n (pc := 18) dX9_lay_18 (by decide) rfl ?_
    refine a_iload_n (pc := 19) dX9_lay_19 rfl ?_
    refine a_iload_n (pc := 20) dX9_lay_20 rfl ?_
    refine a_iload (pc := 21) dX9_lay_21 rfl ?_
    refine a_iload (pc := 23) dX9_lay_23 rfl ?_
    refine p_callV (As := [(0, l1), (0, l3), (0, l4), (0, l5)]) (st := []) (st1 := fun r => [(0, r)])  (pc := 25) dX9_lay_25 ml_RX9_347 (by decide) s0_275 rfl (by decide) (Nat.le_of_ble_eq_true rfl) rfl (fun _ => rfl) h (fun r6 M7 h => ?_)
    exact a_ireti (pc := 28) dX9_lay_28 rfl rfl (Nat.le_of_ble_eq_true rfl) ⟨rfl, h⟩
set_option maxRecDepth 100000 in
set_option maxHeartbeats 4000000 in
theorem B_R_lay_39 {l1 l2 l5 l6 : Int} {M : Mem} {Q : Int → Mem → Prop} (h : ((12 ≤ l6 → Q 12 M) ∧ (¬ (12 ≤ l6) → ((l2 < 0 → Q (-13) M) ∧ (¬ (l2 < 0) → (-9223372036854775808 ≤ l2 + l6 ∧ l2 + l6 ≤ 9223372036854775807) ∧ ((0 : Int) ≤ l1 ∧ l1 < 4) ∧ (((l2 + l6) < (M 297 l1) → (-2147483648 ≤ 20 * l1 ∧ 20 * l1 ≤ 2147483647) ∧ (-2147483648 ≤ (20 * l1) + l2 ∧ (20 * l1) + l2 ≤ 2147483647) ∧ (-2147483648 ≤ ((20 * l1) + l2) + l6 ∧ ((20 * l1) + l2) + l6 ≤ 2147483647) ∧ (-2147483648 ≤ 12 * l5 ∧ 12 * l5 ≤ 2147483647) ∧ (-2147483648 ≤ (12 * l5) + l6 ∧ (12 * l5) + l6 ≤ 2147483647) ∧ ((0 : Int) ≤ (12 * l5) + l6 ∧ (12 * l5) + l6 < 84) ∧ (((M 284 ((12 * l5) + l6)) < 100000000 → ((0 : Int) ≤ ((20 * l1) + l2) + l6 ∧ ((20 * l1) + l2) + l6 < 80) ∧ (-2147483648 ≤ l6 + 1 ∧ l6 + 1 ≤ 2147483647) ∧ AW mX9_lay 39 [(2, 275), (0, l1), (0, l2), (9, 0), (9, 0), (0, l5), (0, l6 + 1)] (up2 M 298 (((20 * l1) + l2) + l6) (M 284 ((12 * l5) + l6))) Q) ∧ (¬ ((M 284 ((12 * l5) + l6)) < 100000000) → ((0 : Int) ≤ ((20 * l1) + l2) + l6 ∧ ((20 * l1) + l2) + l6 < 80) ∧ (-2147483648 ≤ l6 + 1 ∧ l6 + 1 ≤ 2147483647) ∧ AW mX9_lay 39 [(2, 275), (0, l1), (0, l2), (9, 0), (9, 0), (0, l5), (0, l6 + 1)] (up2 M 298 (((20 * l1) + l2) + l6) (-1)) Q))) ∧ (¬ ((l2 + l6) < (M 297 l1)) → Q (-13) M))))))) : AW mX9_lay 39 [(2, 275), (0, l1), (0, l2), (9, 0), (9, 0), (0, l5), (0, l6)] M Q := by
  refine a_iload (pc := 39) dX9_lay_39 rfl ?_
  refine a_bipush (pc := 41) dX9_lay_41 (by decide) (by decide +kernel) ?_
  refine a_icmp_ge (tgt := 98) (pc := 43) dX9_lay_43 (by decide) (fun hc1 => ?_) (fun hc1 => ?_)
  · replace h := h.1 hc1
    refine a_bipush (pc := 98) dX9_lay_98 (by decide) (by decide +kernel) ?_
    exact a_ireti (pc := 100) dX9_lay_100 rfl rfl (Nat.le_of_ble_eq_true rfl) ⟨rfl, h⟩
  · replace h := h.2 hc1
    refine a_iload_n (pc := 46) dX9_lay_46 rfl ?_
    refine a_if_lt (tgt := 67) (pc := 47) dX9_lay_47 (by decide) (fun hc2 => ?_) (fun hc2 => ?_)
    · replace h := h.1 hc2
      refine a_bipush (pc := 67) dX9_lay_67 (by decide) (by decide +kernel) ?_
      exact a_ireti (pc := 69) dX9_lay_69 rfl rfl (Nat.le_of_ble_eq_true rfl) ⟨rfl, h⟩
    · replace h := h.2 hc2
      refine a_iload_n (pc := 50) dX9_lay_50 rfl ?_
      refine a_i2l (pc := 51) dX9_lay_51 ?_
      refine a_iload (pc := 52) dX9_lay_52 rfl ?_
      refine a_i2l (pc := 54) dX9_lay_54 ?_
      have ho3 := h.1
      replace h := h.2
      refine a_ladd (pc := 55) dX9_lay_55 ho3 ?_
      refine a_aload_n (pc := 56) dX9_lay_56 (by decide) rfl ?_
      refine a_getR (y := 297) (pc := 57) dX9_lay_57 fl_RX9_81 (by decide) s0_275 rfl rfl ?_
      refine a_iload_n (pc := 60) dX9_lay_60 rfl ?_
      have ho4 := h.1
      replace h := h.2
      refine a_iald (pc := 61) dX9_lay_61 (by decide) s0_297 ho4.1 ho4.2 ?_
      refine a_i2l (pc := 62) dX9_lay_62 ?_
      refine a_lcmp_lt (tgt := 70) (pc := 63) dX9_lay_63 dX9_lay_64 (by decide) (fun hc5 => ?_) (fun hc5 => ?_)
      · replace h := h.1 hc5
        refine a_aload_n (pc := 70) dX9_lay_70 (by decide) rfl ?_
        refine a_getR (y := 298) (pc := 71) dX9_lay_71 fl_RX9_84 (by decide) s0_275 rfl rfl ?_
        refine a_bipush (pc := 74) dX9_lay_74 (by decide) (by decide +kernel) ?_
        refine a_iload_n (pc := 76) dX9_lay_76 rfl ?_
        have ho6 := h.1
        replace h := h.2
        refine a_imul (pc := 77) dX9_lay_77 ho6 ?_
        refine a_iload_n (pc := 78) dX9_lay_78 rfl ?_
        have ho7 := h.1
        replace h := h.2
        refine a_iadd (pc := 79) dX9_lay_79 ho7 ?_
        refine a_iload (pc := 80) dX9_lay_80 rfl ?_
        have ho8 := h.1
        replace h := h.2
        refine a_iadd (pc := 82) dX9_lay_82 ho8 ?_
        refine a_aload_n (pc := 83) dX9_lay_83 (by decide) rfl ?_
        refine a_iload (pc := 84) dX9_lay_84 rfl ?_
        refine a_iload (pc := 86) dX9_lay_86 rfl ?_
        refine p_inlV (Ex := _) (As := [(0, l5), (0, l6)]) (st := [(0, ((20 * l1) + l2) + l6), (2, 298)]) (st1 := fun r => [(0, r), (0, ((20 * l1) + l2) + l6), (2, 298)])  (pc := 88) dX9_lay_88 ml_RX9_350 (by decide) s0_275 rfl (by decide) (Nat.le_of_ble_eq_true rfl) rfl (fun _ => rfl) (by decide) (by decide) (Nat.le_of_ble_eq_true rfl) rfl ?_
        refine a_aload_n (pc := 0) dX9_toldAt_0 (by decide) rfl ?_
        refine a_getR (y := 284) (pc := 1) dX9_toldAt_1 fl_RX9_41 (by decide) s0_275 rfl rfl ?_
        refine a_bipush (pc := 4) dX9_toldAt_4 (by decide) (by decide +kernel) ?_
        refine a_iload_n (pc := 6) dX9_toldAt_6 rfl ?_
        have ho9 := h.1
        replace h := h.2
        refine a_imul (pc := 7) dX9_toldAt_7 ho9 ?_
        refine a_iload_n (pc := 8) dX9_toldAt_8 rfl ?_
        have ho10 := h.1
        replace h := h.2
        refine a_iadd (pc := 9) dX9_toldAt_9 ho10 ?_
        have ho11 := h.1
        replace h := h.2
        refine a_iald (pc := 10) dX9_toldAt_10 (by decide) s0_284 ho11.1 ho11.2 ?_
        refine a_ldc (v := 100000000) (pc := 11) dX9_toldAt_11 kc_RX9_112 (by decide) ?_
        refine a_icmp_lt (tgt := 20) (pc := 13) dX9_toldAt_13 (by decide) (fun hc12 => ?_) (fun hc12 => ?_)
        · replace h := h.1 hc12
          refine a_aload_n (pc := 20) dX9_toldAt_20 (by decide) rfl ?_
          refine a_getR (y := 284) (pc := 21) dX9_toldAt_21 fl_RX9_41 (by decide) s0_275 rfl rfl ?_
          refine a_bipush (pc := 24) dX9_toldAt_24 (by decide) (by decide +kernel) ?_
          refine a_iload_n (pc := 26) dX9_toldAt_26 rfl ?_
          refine a_imul (pc := 27) dX9_toldAt_27 ho9 ?_
          refine a_iload_n (pc := 28) dX9_toldAt_28 rfl ?_
          refine a_iadd (pc := 29) dX9_toldAt_29 ho10 ?_
          refine a_iald (pc := 30) dX9_toldAt_30 (by decide) s0_284 ho11.1 ho11.2 ?_
          refine a_ireti (pc := 31) dX9_toldAt_31 rfl rfl (Nat.le_of_ble_eq_true rfl) ⟨rfl, ?_⟩
          have ho13 := h.1
          replace h := h.2
          refine a_iast (pc := 91) dX9_lay_91 (by decide) s0_298 ho13.1 ho13.2 ?_
          have ho14 := h.1
          replace h := h.2
          refine a_iinc (ls1 := [(2, 275), (0, l1), (0, l2), (9, 0), (9, 0), (0, l5), (0, l6 + 1)]) (pc := 92) dX9_lay_92 rfl (by decide) (hp1 (t := 0) rfl (by decide)) ho14 rfl ?_
          refine a_goto (tgt := 39) (pc := 95) dX9_lay_95 (by decide) ?_
          exact h
        · replace h := h.2 hc12
          refine a_iconst (pc := 16) dX9_toldAt_16 (by decide) ?_
          refine a_goto (tgt := 31) (pc := 17) dX9_toldAt_17 (by decide) ?_
          refine a_ireti (pc := 31) dX9_toldAt_31 rfl rfl (Nat.le_of_ble_eq_true rfl) ⟨rfl, ?_⟩
          have ho15 := h.1
          replace h := h.2
          refine a_iast (pc := 91) dX9_lay_91 (by decide) s0_298 ho15.1 ho15.2 ?_
          have ho16 := h.1
          replace h := h.2
          refine a_iinc (ls1 := [(2, 275), (0, l1), (0, l2), (9, 0), (9, 0), (0, l5), (0, l6 + 1)]) (pc := 92) dX9_lay_92 rfl (by decide) (hp1 (t := 0) rfl (by decide)) ho16 rfl ?_
          refine a_goto (tgt := 39) (pc := 95) dX9_lay_95 (by decide) ?_
          exact h
      · replace h := h.2 hc5
        refine a_bipush (pc := 67) dX9_lay_67 (by decide) (by decide +kernel) ?_
        exact a_ireti (pc := 69) dX9_lay_69 rfl rfl (Nat.le_of_ble_eq_true rfl) ⟨rfl, h⟩
theorem E_R_lay {l1 l2 l3 l4 l5 : Int} {M : Mem} {Q : Int → Mem → Prop} (h : AW mX9_lay 0 [(2, 275), (0, l1), (0, l2), (0, l3), (0, l4), (0, l5), (9, 0)] M Q) : Calls mX9_lay [(2, 275), (0, l1), (0, l2), (0, l3), (0, l4), (0, l5)] S0 M Q := calls_of (by decide) (by decide) (Nat.le_of_ble_eq_true rfl) rfl h
set_option maxRecDepth 100000 in
set_option maxHeartbeats 4000000 in
theorem B_R_readPart_0 {M : Mem} {Q : Int → Mem → Prop} (h : (((M 275 26) ≤ (M 275 27) → (-2147483648 ≤ (M 275 27) + 0 ∧ (M 275 27) + 0 ≤ 2147483647) ∧ Q 0 (up2 (up2 M 275 28 1) 275 27 ((M 275 27) + 0))) ∧ (¬ ((M 275 26) ≤ (M 275 27)) → ((0 : Int) ≤ M 275 27 ∧ M 275 27 < 80) ∧ (((M 292 (M 275 27)) = 76 → (-2147483648 ≤ (M 275 27) + 1 ∧ (M 275 27) + 1 ≤ 2147483647) ∧ Calls mX9_readLine [(2, 275), (0, M 275 27)] S0 (up2 (up2 M 275 28 0) 275 27 ((M 275 27) + 1)) (fun r6 M7 => Q 0 M7)) ∧ (¬ (M 292 (M 275 27)) = 76 → (((M 292 (M 275 27)) = 84 → (-2147483648 ≤ (M 275 27) + 1 ∧ (M 275 27) + 1 ≤ 2147483647) ∧ Calls mX9_readTrip [(2, 275), (0, M 275 27)] S0 (up2 (up2 M 275 28 0) 275 27 ((M 275 27) + 1)) (fun r10 M11 => Q 0 M11)) ∧ (¬ (M 292 (M 275 27)) = 84 → (((M 292 (M 275 27)) = 70 → (-2147483648 ≤ (M 275 27) + 1 ∧ (M 275 27) + 1 ≤ 2147483647) ∧ Calls mX9_readFoot [(2, 275)] S0 (up2 (up2 M 275 28 0) 275 27 ((M 275 27) + 1)) (fun r14 M15 => Q 0 M15)) ∧ (¬ (M 292 (M 275 27)) = 70 → (((M 292 (M 275 27)) = 68 → (-2147483648 ≤ (M 275 27) + 1 ∧ (M 275 27) + 1 ≤ 2147483647) ∧ Calls mX9_readDelay [(2, 275), (0, M 275 27)] S0 (up2 (up2 M 275 28 0) 275 27 ((M 275 27) + 1)) (fun r18 M19 => Q 0 M19)) ∧ (¬ (M 292 (M 275 27)) = 68 → (-2147483648 ≤ (M 275 27) + 0 ∧ (M 275 27) + 0 ≤ 2147483647) ∧ Q 0 (up2 (up2 M 275 28 1) 275 27 ((M 275 27) + 0))))))))))))) : AW mX9_readPart 0 [(2, 275), (9, 0), (9, 0)] M Q := by
  refine a_aload_n (pc := 0) dX9_readPart_0 (by decide) rfl ?_
  refine a_getI (y := 27) (pc := 1) dX9_readPart_1 fl_RX9_176 (by decide) s0_275 (Or.inl rfl) rfl ?_
  refine a_istore_n (ls1 := [(2, 275), (0, M 275 27), (9, 0)]) (pc := 4) dX9_readPart_4 (by decide) (hp1 (t := 2) rfl (by decide)) rfl ?_
  refine a_aload_n (pc := 5) dX9_readPart_5 (by decide) rfl ?_
  refine p_inlV (Ex := _) (As := []) (st := []) (st1 := fun r => [(0, r)])  (pc := 6) dX9_readPart_6 ml_RX9_183 (by decide) s0_275 rfl (by decide) (Nat.le_of_ble_eq_true rfl) rfl (fun _ => rfl) (by decide) (by decide) (Nat.le_of_ble_eq_true rfl) rfl ?_
  refine a_aload_n (pc := 0) dX9_here_0 (by decide) rfl ?_
  refine a_getI (y := 27) (pc := 1) dX9_here_1 fl_RX9_176 (by decide) s0_275 (Or.inl rfl) rfl ?_
  refine a_aload_n (pc := 4) dX9_here_4 (by decide) rfl ?_
  refine a_getI (y := 26) (pc := 5) dX9_here_5 fl_RX9_173 (by decide) s0_275 (Or.inl rfl) rfl ?_
  refine a_icmp_ge (tgt := 23) (pc := 8) dX9_here_8 (by decide) (fun hc1 => ?_) (fun hc1 => ?_)
  · replace h := h.1 hc1
    refine a_iconst (pc := 23) dX9_here_23 (by decide) ?_
    refine a_ireti (pc := 24) dX9_here_24 rfl rfl (Nat.le_of_ble_eq_true rfl) ⟨rfl, ?_⟩
    refine a_istore_n (ls1 := [(2, 275), (0, M 275 27), (0, (-1))]) (pc := 9) dX9_readPart_9 (by decide) (hp1 (t := 0) rfl (by decide)) rfl ?_
    refine a_aload_n (pc := 10) dX9_readPart_10 (by decide) rfl ?_
    refine a_iload_n (pc := 11) dX9_readPart_11 rfl ?_
    refine a_bipush (pc := 12) dX9_readPart_12 (by decide) (by decide +kernel) ?_
    refine a_icmp_eq (tgt := 39) (pc := 14) dX9_readPart_14 (by decide) (fun hc => absurd hc (by decide)) (fun _ => ?_)
    refine a_iload_n (pc := 17) dX9_readPart_17 rfl ?_
    refine a_bipush (pc := 18) dX9_readPart_18 (by decide) (by decide +kernel) ?_
    refine a_icmp_eq (tgt := 39) (pc := 20) dX9_readPart_20 (by decide) (fun hc => absurd hc (by decide)) (fun _ => ?_)
    refine a_iload_n (pc := 23) dX9_readPart_23 rfl ?_
    refine a_bipush (pc := 24) dX9_readPart_24 (by decide) (by decide +kernel) ?_
    refine a_icmp_eq (tgt := 39) (pc := 26) dX9_readPart_26 (by decide) (fun hc => absurd hc (by decide)) (fun _ => ?_)
    refine a_iload_n (pc := 29) dX9_readPart_29 rfl ?_
    refine a_bipush (pc := 30) dX9_readPart_30 (by decide) (by decide +kernel) ?_
    refine a_icmp_eq (tgt := 39) (pc := 32) dX9_readPart_32 (by decide) (fun hc => absurd hc (by decide)) (fun _ => ?_)
    refine a_iconst (pc := 35) dX9_readPart_35 (by decide) ?_
    refine a_goto (tgt := 40) (pc := 36) dX9_readPart_36 (by decide) ?_
    refine a_putZ (y := 28) (pc := 40) dX9_readPart_40 fl_RX9_179 (by decide) s0_275 rfl rfl (tyX9_ok 28 (by decide)) rfl (by decide) ?_
    refine a_aload_n (pc := 43) dX9_readPart_43 (by decide) rfl ?_
    refine a_dup (pc := 44) dX9_readPart_44 n21 ?_
    refine a_getI (y := 27) (pc := 45) dX9_readPart_45 fl_RX9_176 (by decide) s0_275 (Or.inl rfl) rfl ?_
    refine a_eq (y := M 275 27) rfl ?_
    refine a_aload_n (pc := 48) dX9_readPart_48 (by decide) rfl ?_
    refine a_getI (y := 28) (pc := 49) dX9_readPart_49 fl_RX9_179 (by decide) s0_275 (Or.inr rfl) rfl ?_
    refine a_eq (y := 1) rfl ?_
    refine a_if_eq (tgt := 59) (pc := 52) dX9_readPart_52 (by decide) (fun hc => absurd hc (by decide)) (fun _ => ?_)
    refine a_iconst (pc := 55) dX9_readPart_55 (by decide) ?_
    refine a_goto (tgt := 60) (pc := 56) dX9_readPart_56 (by decide) ?_
    have ho2 := h.1
    replace h := h.2
    refine a_iadd (pc := 60) dX9_readPart_60 ho2 ?_
    refine a_putI (y := 27) (pc := 61) dX9_readPart_61 fl_RX9_176 (by decide) s0_275 rfl rfl (tyX9_ok 27 (by decide)) rfl ?_
    refine a_aload_n (pc := 64) dX9_readPart_64 (by decide) rfl ?_
    refine a_getI (y := 28) (pc := 65) dX9_readPart_65 fl_RX9_179 (by decide) s0_275 (Or.inr rfl) rfl ?_
    refine a_eq (y := 1) rfl ?_
    refine a_if_eq (tgt := 72) (pc := 68) dX9_readPart_68 (by decide) (fun hc => absurd hc (by decide)) (fun _ => ?_)
    exact a_vret (pc := 71) dX9_readPart_71 rfl rfl (Nat.le_of_ble_eq_true rfl) ⟨rfl, h⟩
  · replace h := h.2 hc1
    refine a_aload_n (pc := 11) dX9_here_11 (by decide) rfl ?_
    refine a_getR (y := 292) (pc := 12) dX9_here_12 fl_RX9_65 (by decide) s0_275 rfl rfl ?_
    refine a_aload_n (pc := 15) dX9_here_15 (by decide) rfl ?_
    refine a_getI (y := 27) (pc := 16) dX9_here_16 fl_RX9_176 (by decide) s0_275 (Or.inl rfl) rfl ?_
    have ho3 := h.1
    replace h := h.2
    refine a_iald (pc := 19) dX9_here_19 (by decide) s0_292 ho3.1 ho3.2 ?_
    refine a_goto (tgt := 24) (pc := 20) dX9_here_20 (by decide) ?_
    refine a_ireti (pc := 24) dX9_here_24 rfl rfl (Nat.le_of_ble_eq_true rfl) ⟨rfl, ?_⟩
    refine a_istore_n (ls1 := [(2, 275), (0, M 275 27), (0, M 292 (M 275 27))]) (pc := 9) dX9_readPart_9 (by decide) (hp1 (t := 0) rfl (by decide)) rfl ?_
    refine a_aload_n (pc := 10) dX9_readPart_10 (by decide) rfl ?_
    refine a_iload_n (pc := 11) dX9_readPart_11 rfl ?_
    refine a_bipush (pc := 12) dX9_readPart_12 (by decide) (by decide +kernel) ?_
    refine a_icmp_eq (tgt := 39) (pc := 14) dX9_readPart_14 (by decide) (fun hc4 => ?_) (fun hc4 => ?_)
    · replace h := h.1 hc4
      refine a_iconst (pc := 39) dX9_readPart_39 (by decide) ?_
      refine a_putZ (y := 28) (pc := 40) dX9_readPart_40 fl_RX9_179 (by decide) s0_275 rfl rfl (tyX9_ok 28 (by decide)) rfl (by decide) ?_
      refine a_aload_n (pc := 43) dX9_readPart_43 (by decide) rfl ?_
      refine a_dup (pc := 44) dX9_readPart_44 n21 ?_
      refine a_getI (y := 27) (pc := 45) dX9_readPart_45 fl_RX9_176 (by decide) s0_275 (Or.inl rfl) rfl ?_
      refine a_eq (y := M 275 27) rfl ?_
      refine a_aload_n (pc := 48) dX9_readPart_48 (by decide) rfl ?_
      refine a_getI (y := 28) (pc := 49) dX9_readPart_49 fl_RX9_179 (by decide) s0_275 (Or.inr rfl) rfl ?_
      refine a_eq (y := 0) rfl ?_
      refine a_if_eq (tgt := 59) (pc := 52) dX9_readPart_52 (by decide) (fun _ => ?_) (fun hc => absurd (by decide) hc)
      refine a_iconst (pc := 59) dX9_readPart_59 (by decide) ?_
      have ho5 := h.1
      replace h := h.2
      refine a_iadd (pc := 60) dX9_readPart_60 ho5 ?_
      refine a_putI (y := 27) (pc := 61) dX9_readPart_61 fl_RX9_176 (by decide) s0_275 rfl rfl (tyX9_ok 27 (by decide)) rfl ?_
      refine a_aload_n (pc := 64) dX9_readPart_64 (by decide) rfl ?_
      refine a_getI (y := 28) (pc := 65) dX9_readPart_65 fl_RX9_179 (by decide) s0_275 (Or.inr rfl) rfl ?_
      refine a_eq (y := 0) rfl ?_
      refine a_if_eq (tgt := 72) (pc := 68) dX9_readPart_68 (by decide) (fun _ => ?_) (fun hc => absurd (by decide) hc)
      refine a_iload_n (pc := 72) dX9_readPart_72 rfl ?_
      refine a_bipush (pc := 73) dX9_readPart_73 (by decide) (by decide +kernel) ?_
      refine a_icmp_ne (tgt := 86) (pc := 75) dX9_readPart_75 (by decide) (fun hc => absurd hc4 hc) (fun _ => ?_)
      refine a_aload_n (pc := 78) dX9_readPart_78 (by decide) rfl ?_
      refine a_iload_n (pc := 79) dX9_readPart_79 rfl ?_
      refine p_callV (As := [(0, M 275 27)]) (st := []) (st1 := fun r => [])  (pc := 80) dX9_readPart_80 ml_RX9_218 (by decide) s0_275 rfl (by decide) (Nat.le_of_ble_eq_true rfl) rfl (fun _ => rfl) h (fun r6 M7 h => ?_)
      refine a_goto (tgt := 118) (pc := 83) dX9_readPart_83 (by decide) ?_
      exact a_vret (pc := 118) dX9_readPart_118 rfl rfl (Nat.le_of_ble_eq_true rfl) ⟨rfl, h⟩
    · replace h := h.2 hc4
      refine a_iload_n (pc := 17) dX9_readPart_17 rfl ?_
      refine a_bipush (pc := 18) dX9_readPart_18 (by decide) (by decide +kernel) ?_
      refine a_icmp_eq (tgt := 39) (pc := 20) dX9_readPart_20 (by decide) (fun hc8 => ?_) (fun hc8 => ?_)
      · replace h := h.1 hc8
        refine a_iconst (pc := 39) dX9_readPart_39 (by decide) ?_
        refine a_putZ (y := 28) (pc := 40) dX9_readPart_40 fl_RX9_179 (by decide) s0_275 rfl rfl (tyX9_ok 28 (by decide)) rfl (by decide) ?_
        refine a_aload_n (pc := 43) dX9_readPart_43 (by decide) rfl ?_
        refine a_dup (pc := 44) dX9_readPart_44 n21 ?_
        refine a_getI (y := 27) (pc := 45) dX9_readPart_45 fl_RX9_176 (by decide) s0_275 (Or.inl rfl) rfl ?_
        refine a_eq (y := M 275 27) rfl ?_
        refine a_aload_n (pc := 48) dX9_readPart_48 (by decide) rfl ?_
        refine a_getI (y := 28) (pc := 49) dX9_readPart_49 fl_RX9_179 (by decide) s0_275 (Or.inr rfl) rfl ?_
        refine a_eq (y := 0) rfl ?_
        refine a_if_eq (tgt := 59) (pc := 52) dX9_readPart_52 (by decide) (fun _ => ?_) (fun hc => absurd (by decide) hc)
        refine a_iconst (pc := 59) dX9_readPart_59 (by decide) ?_
        have ho9 := h.1
        replace h := h.2
        refine a_iadd (pc := 60) dX9_readPart_60 ho9 ?_
        refine a_putI (y := 27) (pc := 61) dX9_readPart_61 fl_RX9_176 (by decide) s0_275 rfl rfl (tyX9_ok 27 (by decide)) rfl ?_
        refine a_aload_n (pc := 64) dX9_readPart_64 (by decide) rfl ?_
        refine a_getI (y := 28) (pc := 65) dX9_readPart_65 fl_RX9_179 (by decide) s0_275 (Or.inr rfl) rfl ?_
        refine a_eq (y := 0) rfl ?_
        refine a_if_eq (tgt := 72) (pc := 68) dX9_readPart_68 (by decide) (fun _ => ?_) (fun hc => absurd (by decide) hc)
        refine a_iload_n (pc := 72) dX9_readPart_72 rfl ?_
        refine a_bipush (pc := 73) dX9_readPart_73 (by decide) (by decide +kernel) ?_
        refine a_icmp_ne (tgt := 86) (pc := 75) dX9_readPart_75 (by decide) (fun _ => ?_) (fun hc => absurd hc hc4)
        refine a_iload_n (pc := 86) dX9_readPart_86 rfl ?_
        refine a_bipush (pc := 87) dX9_readPart_87 (by decide) (by decide +kernel) ?_
        refine a_icmp_ne (tgt := 100) (pc := 89) dX9_readPart_89 (by decide) (fun hc => absurd hc8 hc) (fun _ => ?_)
        refine a_aload_n (pc := 92) dX9_readPart_92 (by decide) rfl ?_
        refine a_iload_n (pc := 93) dX9_readPart_93 rfl ?_
        refine p_callV (As := [(0, M 275 27)]) (st := []) (st1 := fun r => [])  (pc := 94) dX9_readPart_94 ml_RX9_221 (by decide) s0_275 rfl (by decide) (Nat.le_of_ble_eq_true rfl) rfl (fun _ => rfl) h (fun r10 M11 h => ?_)
        refine a_goto (tgt := 118) (pc := 97) dX9_readPart_97 (by decide) ?_
        exact a_vret (pc := 118) dX9_readPart_118 rfl rfl (Nat.le_of_ble_eq_true rfl) ⟨rfl, h⟩
      · replace h := h.2 hc8
        refine a_iload_n (pc := 23) dX9_readPart_23 rfl ?_
        refine a_bipush (pc := 24) dX9_readPart_24 (by decide) (by decide +kernel) ?_
        refine a_icmp_eq (tgt := 39) (pc := 26) dX9_readPart_26 (by decide) (fun hc12 => ?_) (fun hc12 => ?_)
        · replace h := h.1 hc12
          refine a_iconst (pc := 39) dX9_readPart_39 (by decide) ?_
          refine a_putZ (y := 28) (pc := 40) dX9_readPart_40 fl_RX9_179 (by decide) s0_275 rfl rfl (tyX9_ok 28 (by decide)) rfl (by decide) ?_
          refine a_aload_n (pc := 43) dX9_readPart_43 (by decide) rfl ?_
          refine a_dup (pc := 44) dX9_readPart_44 n21 ?_
          refine a_getI (y := 27) (pc := 45) dX9_readPart_45 fl_RX9_176 (by decide) s0_275 (Or.inl rfl) rfl ?_
          refine a_eq (y := M 275 27) rfl ?_
          refine a_aload_n (pc := 48) dX9_readPart_48 (by decide) rfl ?_
          refine a_getI (y := 28) (pc := 49) dX9_readPart_49 fl_RX9_179 (by decide) s0_275 (Or.inr rfl) rfl ?_
          refine a_eq (y := 0) rfl ?_
          refine a_if_eq (tgt := 59) (pc := 52) dX9_readPart_52 (by decide) (fun _ => ?_) (fun hc => absurd (by decide) hc)
          refine a_iconst (pc := 59) dX9_readPart_59 (by decide) ?_
          have ho13 := h.1
          replace h := h.2
          refine a_iadd (pc := 60) dX9_readPart_60 ho13 ?_
          refine a_putI (y := 27) (pc := 61) dX9_readPart_61 fl_RX9_176 (by decide) s0_275 rfl rfl (tyX9_ok 27 (by decide)) rfl ?_
          refine a_aload_n (pc := 64) dX9_readPart_64 (by decide) rfl ?_
          refine a_getI (y := 28) (pc := 65) dX9_readPart_65 fl_RX9_179 (by decide) s0_275 (Or.inr rfl) rfl ?_
          refine a_eq (y := 0) rfl ?_
          refine a_if_eq (tgt := 72) (pc := 68) dX9_readPart_68 (by decide) (fun _ => ?_) (fun hc => absurd (by decide) hc)
          refine a_iload_n (pc := 72) dX9_readPart_72 rfl ?_
          refine a_bipush (pc := 73) dX9_readPart_73 (by decide) (by decide +kernel) ?_
          refine a_icmp_ne (tgt := 86) (pc := 75) dX9_readPart_75 (by decide) (fun _ => ?_) (fun hc => absurd hc hc4)
          refine a_iload_n (pc := 86) dX9_readPart_86 rfl ?_
          refine a_bipush (pc := 87) dX9_readPart_87 (by decide) (by decide +kernel) ?_
          refine a_icmp_ne (tgt := 100) (pc := 89) dX9_readPart_89 (by decide) (fun _ => ?_) (fun hc => absurd hc hc8)
          refine a_iload_n (pc := 100) dX9_readPart_100 rfl ?_
          refine a_bipush (pc := 101) dX9_readPart_101 (by decide) (by decide +kernel) ?_
          refine a_icmp_ne (tgt := 113) (pc := 103) dX9_readPart_103 (by decide) (fun hc => absurd hc12 hc) (fun _ => ?_)
          refine a_aload_n (pc := 106) dX9_readPart_106 (by decide) rfl ?_
          refine p_callV (As := []) (st := []) (st1 := fun r => [])  (pc := 107) dX9_readPart_107 ml_RX9_224 (by decide) s0_275 rfl (by decide) (Nat.le_of_ble_eq_true rfl) rfl (fun _ => rfl) h (fun r14 M15 h => ?_)
          refine a_goto (tgt := 118) (pc := 110) dX9_readPart_110 (by decide) ?_
          exact a_vret (pc := 118) dX9_readPart_118 rfl rfl (Nat.le_of_ble_eq_true rfl) ⟨rfl, h⟩
        · replace h := h.2 hc12
          refine a_iload_n (pc := 29) dX9_readPart_29 rfl ?_
          refine a_bipush (pc := 30) dX9_readPart_30 (by decide) (by decide +kernel) ?_
          refine a_icmp_eq (tgt := 39) (pc := 32) dX9_readPart_32 (by decide) (fun hc16 => ?_) (fun hc16 => ?_)
          · replace h := h.1 hc16
            refine a_iconst (pc := 39) dX9_readPart_39 (by decide) ?_
            refine a_putZ (y := 28) (pc := 40) dX9_readPart_40 fl_RX9_179 (by decide) s0_275 rfl rfl (tyX9_ok 28 (by decide)) rfl (by decide) ?_
            refine a_aload_n (pc := 43) dX9_readPart_43 (by decide) rfl ?_
            refine a_dup (pc := 44) dX9_readPart_44 n21 ?_
            refine a_getI (y := 27) (pc := 45) dX9_readPart_45 fl_RX9_176 (by decide) s0_275 (Or.inl rfl) rfl ?_
            refine a_eq (y := M 275 27) rfl ?_
            refine a_aload_n (pc := 48) dX9_readPart_48 (by decide) rfl ?_
            refine a_getI (y := 28) (pc := 49) dX9_readPart_49 fl_RX9_179 (by decide) s0_275 (Or.inr rfl) rfl ?_
            refine a_eq (y := 0) rfl ?_
            refine a_if_eq (tgt := 59) (pc := 52) dX9_readPart_52 (by decide) (fun _ => ?_) (fun hc => absurd (by decide) hc)
            refine a_iconst (pc := 59) dX9_readPart_59 (by decide) ?_
            have ho17 := h.1
            replace h := h.2
            refine a_iadd (pc := 60) dX9_readPart_60 ho17 ?_
            refine a_putI (y := 27) (pc := 61) dX9_readPart_61 fl_RX9_176 (by decide) s0_275 rfl rfl (tyX9_ok 27 (by decide)) rfl ?_
            refine a_aload_n (pc := 64) dX9_readPart_64 (by decide) rfl ?_
            refine a_getI (y := 28) (pc := 65) dX9_readPart_65 fl_RX9_179 (by decide) s0_275 (Or.inr rfl) rfl ?_
            refine a_eq (y := 0) rfl ?_
            refine a_if_eq (tgt := 72) (pc := 68) dX9_readPart_68 (by decide) (fun _ => ?_) (fun hc => absurd (by decide) hc)
            refine a_iload_n (pc := 72) dX9_readPart_72 rfl ?_
            refine a_bipush (pc := 73) dX9_readPart_73 (by decide) (by decide +kernel) ?_
            refine a_icmp_ne (tgt := 86) (pc := 75) dX9_readPart_75 (by decide) (fun _ => ?_) (fun hc => absurd hc hc4)
            refine a_iload_n (pc := 86) dX9_readPart_86 rfl ?_
            refine a_bipush (pc := 87) dX9_readPart_87 (by decide) (by decide +kernel) ?_
            refine a_icmp_ne (tgt := 100) (pc := 89) dX9_readPart_89 (by decide) (fun _ => ?_) (fun hc => absurd hc hc8)
            refine a_iload_n (pc := 100) dX9_readPart_100 rfl ?_
            refine a_bipush (pc := 101) dX9_readPart_101 (by decide) (by decide +kernel) ?_
            refine a_icmp_ne (tgt := 113) (pc := 103) dX9_readPart_103 (by decide) (fun _ => ?_) (fun hc => absurd hc hc12)
            refine a_aload_n (pc := 113) dX9_readPart_113 (by decide) rfl ?_
            refine a_iload_n (pc := 114) dX9_readPart_114 rfl ?_
            refine p_callV (As := [(0, M 275 27)]) (st := []) (st1 := fun r => [])  (pc := 115) dX9_readPart_115 ml_RX9_227 (by decide) s0_275 rfl (by decide) (Nat.le_of_ble_eq_true rfl) rfl (fun _ => rfl) h (fun r18 M19 h => ?_)
            exact a_vret (pc := 118) dX9_readPart_118 rfl rfl (Nat.le_of_ble_eq_true rfl) ⟨rfl, h⟩
          · replace h := h.2 hc16
            refine a_iconst (pc := 35) dX9_readPart_35 (by decide) ?_
            refine a_goto (tgt := 40) (pc := 36) dX9_readPart_36 (by decide) ?_
            refine a_putZ (y := 28) (pc := 40) dX9_readPart_40 fl_RX9_179 (by decide) s0_275 rfl rfl (tyX9_ok 28 (by decide)) rfl (by decide) ?_
            refine a_aload_n (pc := 43) dX9_readPart_43 (by decide) rfl ?_
            refine a_dup (pc := 44) dX9_readPart_44 n21 ?_
            refine a_getI (y := 27) (pc := 45) dX9_readPart_45 fl_RX9_176 (by decide) s0_275 (Or.inl rfl) rfl ?_
            refine a_eq (y := M 275 27) rfl ?_
            refine a_aload_n (pc := 48) dX9_readPart_48 (by decide) rfl ?_
            refine a_getI (y := 28) (pc := 49) dX9_readPart_49 fl_RX9_179 (by decide) s0_275 (Or.inr rfl) rfl ?_
            refine a_eq (y := 1) rfl ?_
            refine a_if_eq (tgt := 59) (pc := 52) dX9_readPart_52 (by decide) (fun hc => absurd hc (by decide)) (fun _ => ?_)
            refine a_iconst (pc := 55) dX9_readPart_55 (by decide) ?_
            refine a_goto (tgt := 60) (pc := 56) dX9_readPart_56 (by decide) ?_
            have ho20 := h.1
            replace h := h.2
            refine a_iadd (pc := 60) dX9_readPart_60 ho20 ?_
            refine a_putI (y := 27) (pc := 61) dX9_readPart_61 fl_RX9_176 (by decide) s0_275 rfl rfl (tyX9_ok 27 (by decide)) rfl ?_
            refine a_aload_n (pc := 64) dX9_readPart_64 (by decide) rfl ?_
            refine a_getI (y := 28) (pc := 65) dX9_readPart_65 fl_RX9_179 (by decide) s0_275 (Or.inr rfl) rfl ?_
            refine a_eq (y := 1) rfl ?_
            refine a_if_eq (tgt := 72) (pc := 68) dX9_readPart_68 (by decide) (fun hc => absurd hc (by decide)) (fun _ => ?_)
            exact a_vret (pc := 71) dX9_readPart_71 rfl rfl (Nat.le_of_ble_eq_true rfl) ⟨rfl, h⟩
theorem E_R_readPart {M : Mem} {Q : Int → Mem → Prop} (h : AW mX9_readPart 0 [(2, 275), (9, 0), (9, 0)] M Q) : Calls mX9_readPart [(2, 275)] S0 M Q := calls_of (by decide) (by decide) (Nat.le_of_ble_eq_true rfl) rfl h
set_option maxRecDepth 100000 in
set_option maxHeartbeats 4000000 in
theorem B_R_board_0 {l1 l2 l3 l4 : Int} {M : Mem} {Q : Int → Mem → Prop} (h : ((l1 < 0 → Q (-1) (up2 M 275 8 0)) ∧ (¬ (l1 < 0) → ((11 < l1 → Q (-1) (up2 M 275 8 0)) ∧ (¬ (11 < l1) → ((l3 < 0 → Q (-1) (up2 M 275 8 0)) ∧ (¬ (l3 < 0) → ((l4 < 0 → Q (-1) (up2 M 275 8 0)) ∧ (¬ (l4 < 0) → ((2 < l4 → Q (-1) (up2 M 275 8 0)) ∧ (¬ (2 < l4) → ((l2 < 0 → Q (-2) (up2 M 275 8 0)) ∧ (¬ (l2 < 0) → ((1999 < l2 → Q (-2) (up2 M 275 8 0)) ∧ (¬ (1999 < l2) → (-9223372036854775808 ≤ 100 * l2 ∧ 100 * l2 ≤ 9223372036854775807) ∧ (-9223372036854775808 ≤ (100 * l2) - 1 ∧ (100 * l2) - 1 ≤ 9223372036854775807) ∧ Calls mX9_nextBoard [(2, 275), (0, l1), (1, (100 * l2) - 1)] S0 (up2 M 275 8 0) (fun r10 M11 => AW mX9_board 59 [(2, 275), (0, l1), (9, 0), (0, l3), (0, l4), (1, r10), (9, 0), (0, 0)] M11 Q)))))))))))))))) : AW mX9_board 0 [(2, 275), (0, l1), (0, l2), (0, l3), (0, l4), (9, 0), (9, 0), (9, 0)] M Q := by
  refine a_aload_n (pc := 0) dX9_board_0 (by decide) rfl ?_
  refine a_iconst (pc := 1) dX9_board_1 (by decide) ?_
  refine a_putI (y := 8) (pc := 2) dX9_board_2 fl_RX9_87 (by decide) s0_275 rfl rfl (tyX9_ok 8 (by decide)) rfl ?_
  refine a_iload_n (pc := 5) dX9_board_5 rfl ?_
  refine p_inlS (Ex := _) (As := [(0, l1)]) (st := []) (st1 := fun r => [(0, r)])  (pc := 6) dX9_board_6 ml_RX9_260 (by decide) (Nat.le_of_ble_eq_true rfl) rfl (fun _ => rfl) (by decide) (by decide) (Nat.le_of_ble_eq_true rfl) rfl ?_
  refine a_iload_n (pc := 0) dX9_isStop_0 rfl ?_
  refine a_i2l (pc := 1) dX9_isStop_1 ?_
  refine a_lconst (v := 0) (pc := 2) dX9_isStop_2 rfl ?_
  refine a_ldc2 (v := 11) (pc := 3) dX9_isStop_3 kc_RX9_90 (by decide) ?_
  refine p_inlS (Ex := _) (As := [(1, l1), (1, 0), (1, 11)]) (st := []) (st1 := fun r => [(0, r)])  (pc := 6) dX9_isStop_6 ml_RX9_92 (by decide) (Nat.le_of_ble_eq_true rfl) rfl (fun _ => rfl) (by decide) (by decide) (Nat.le_of_ble_eq_true rfl) rfl ?_
  refine a_lload_n (pc := 0) dX9_in_0 rfl ?_
  refine a_lload_n (pc := 1) dX9_in_1 rfl ?_
  refine a_lcmp_lt (tgt := 17) (pc := 2) dX9_in_2 dX9_in_3 (by decide) (fun hc1 => ?_) (fun hc1 => ?_)
  · replace h := h.1 hc1
    refine a_iconst (pc := 17) dX9_in_17 (by decide) ?_
    refine a_iretz (pc := 18) dX9_in_18 rfl rfl (Nat.le_of_ble_eq_true rfl) (by decide) ⟨rfl, ?_⟩
    refine a_iretz (pc := 9) dX9_isStop_9 rfl rfl (Nat.le_of_ble_eq_true rfl) (by decide) ⟨rfl, ?_⟩
    refine a_if_eq (tgt := 29) (pc := 9) dX9_board_9 (by decide) (fun _ => ?_) (fun hc => absurd (by decide) hc)
    refine a_iconst (pc := 29) dX9_board_29 (by decide) ?_
    exact a_ireti (pc := 30) dX9_board_30 rfl rfl (Nat.le_of_ble_eq_true rfl) ⟨rfl, h⟩
  · replace h := h.2 hc1
    refine a_lload_n (pc := 6) dX9_in_6 rfl ?_
    refine a_lload (pc := 7) dX9_in_7 rfl ?_
    refine a_lcmp_gt (tgt := 17) (pc := 9) dX9_in_9 dX9_in_10 (by decide) (fun hc2 => ?_) (fun hc2 => ?_)
    · replace h := h.1 hc2
      refine a_iconst (pc := 17) dX9_in_17 (by decide) ?_
      refine a_iretz (pc := 18) dX9_in_18 rfl rfl (Nat.le_of_ble_eq_true rfl) (by decide) ⟨rfl, ?_⟩
      refine a_iretz (pc := 9) dX9_isStop_9 rfl rfl (Nat.le_of_ble_eq_true rfl) (by decide) ⟨rfl, ?_⟩
      refine a_if_eq (tgt := 29) (pc := 9) dX9_board_9 (by decide) (fun _ => ?_) (fun hc => absurd (by decide) hc)
      refine a_iconst (pc := 29) dX9_board_29 (by decide) ?_
      exact a_ireti (pc := 30) dX9_board_30 rfl rfl (Nat.le_of_ble_eq_true rfl) ⟨rfl, h⟩
    · replace h := h.2 hc2
      refine a_iconst (pc := 13) dX9_in_13 (by decide) ?_
      refine a_goto (tgt := 18) (pc := 14) dX9_in_14 (by decide) ?_
      refine a_iretz (pc := 18) dX9_in_18 rfl rfl (Nat.le_of_ble_eq_true rfl) (by decide) ⟨rfl, ?_⟩
      refine a_iretz (pc := 9) dX9_isStop_9 rfl rfl (Nat.le_of_ble_eq_true rfl) (by decide) ⟨rfl, ?_⟩
      refine a_if_eq (tgt := 29) (pc := 9) dX9_board_9 (by decide) (fun hc => absurd hc (by decide)) (fun _ => ?_)
      refine a_iload_n (pc := 12) dX9_board_12 rfl ?_
      refine a_if_lt (tgt := 29) (pc := 13) dX9_board_13 (by decide) (fun hc3 => ?_) (fun hc3 => ?_)
      · replace h := h.1 hc3
        refine a_iconst (pc := 29) dX9_board_29 (by decide) ?_
        exact a_ireti (pc := 30) dX9_board_30 rfl rfl (Nat.le_of_ble_eq_true rfl) ⟨rfl, h⟩
      · replace h := h.2 hc3
        refine a_iload (pc := 16) dX9_board_16 rfl ?_
        refine a_i2l (pc := 18) dX9_board_18 ?_
        refine a_lconst (v := 0) (pc := 19) dX9_board_19 rfl ?_
        refine a_ldc2 (v := 2) (pc := 20) dX9_board_20 kc_RX9_312 (by decide) ?_
        refine p_inlS (Ex := _) (As := [(1, l4), (1, 0), (1, 2)]) (st := []) (st1 := fun r => [(0, r)])  (pc := 23) dX9_board_23 ml_RX9_92 (by decide) (Nat.le_of_ble_eq_true rfl) rfl (fun _ => rfl) (by decide) (by decide) (Nat.le_of_ble_eq_true rfl) rfl ?_
        refine a_lload_n (pc := 0) dX9_in_0 rfl ?_
        refine a_lload_n (pc := 1) dX9_in_1 rfl ?_
        refine a_lcmp_lt (tgt := 17) (pc := 2) dX9_in_2 dX9_in_3 (by decide) (fun hc4 => ?_) (fun hc4 => ?_)
        · replace h := h.1 hc4
          refine a_iconst (pc := 17) dX9_in_17 (by decide) ?_
          refine a_iretz (pc := 18) dX9_in_18 rfl rfl (Nat.le_of_ble_eq_true rfl) (by decide) ⟨rfl, ?_⟩
          refine a_if_ne (tgt := 31) (pc := 26) dX9_board_26 (by decide) (fun hc => absurd rfl hc) (fun _ => ?_)
          refine a_iconst (pc := 29) dX9_board_29 (by decide) ?_
          exact a_ireti (pc := 30) dX9_board_30 rfl rfl (Nat.le_of_ble_eq_true rfl) ⟨rfl, h⟩
        · replace h := h.2 hc4
          refine a_lload_n (pc := 6) dX9_in_6 rfl ?_
          refine a_lload (pc := 7) dX9_in_7 rfl ?_
          refine a_lcmp_gt (tgt := 17) (pc := 9) dX9_in_9 dX9_in_10 (by decide) (fun hc5 => ?_) (fun hc5 => ?_)
          · replace h := h.1 hc5
            refine a_iconst (pc := 17) dX9_in_17 (by decide) ?_
            refine a_iretz (pc := 18) dX9_in_18 rfl rfl (Nat.le_of_ble_eq_true rfl) (by decide) ⟨rfl, ?_⟩
            refine a_if_ne (tgt := 31) (pc := 26) dX9_board_26 (by decide) (fun hc => absurd rfl hc) (fun _ => ?_)
            refine a_iconst (pc := 29) dX9_board_29 (by decide) ?_
            exact a_ireti (pc := 30) dX9_board_30 rfl rfl (Nat.le_of_ble_eq_true rfl) ⟨rfl, h⟩
          · replace h := h.2 hc5
            refine a_iconst (pc := 13) dX9_in_13 (by decide) ?_
            refine a_goto (tgt := 18) (pc := 14) dX9_in_14 (by decide) ?_
            refine a_iretz (pc := 18) dX9_in_18 rfl rfl (Nat.le_of_ble_eq_true rfl) (by decide) ⟨rfl, ?_⟩
            refine a_if_ne (tgt := 31) (pc := 26) dX9_board_26 (by decide) (fun _ => ?_) (fun hc => absurd hc (by decide))
            refine a_iload_n (pc := 31) dX9_board_31 rfl ?_
            refine p_inlS (Ex := _) (As := [(0, l2)]) (st := []) (st1 := fun r => [(0, r)])  (pc := 32) dX9_board_32 ml_RX9_273 (by decide) (Nat.le_of_ble_eq_true rfl) rfl (fun _ => rfl) (by decide) (by decide) (Nat.le_of_ble_eq_true rfl) rfl ?_
            refine a_iload_n (pc := 0) dX9_isMinute_0 rfl ?_
            refine a_i2l (pc := 1) dX9_isMinute_1 ?_
            refine a_lconst (v := 0) (pc := 2) dX9_isMinute_2 rfl ?_
            refine a_ldc2 (v := 1999) (pc := 3) dX9_isMinute_3 kc_RX9_96 (by decide) ?_
            refine p_inlS (Ex := _) (As := [(1, l2), (1, 0), (1, 1999)]) (st := []) (st1 := fun r => [(0, r)])  (pc := 6) dX9_isMinute_6 ml_RX9_92 (by decide) (Nat.le_of_ble_eq_true rfl) rfl (fun _ => rfl) (by decide) (by decide) (Nat.le_of_ble_eq_true rfl) rfl ?_
            refine a_lload_n (pc := 0) dX9_in_0 rfl ?_
            refine a_lload_n (pc := 1) dX9_in_1 rfl ?_
            refine a_lcmp_lt (tgt := 17) (pc := 2) dX9_in_2 dX9_in_3 (by decide) (fun hc6 => ?_) (fun hc6 => ?_)
            · replace h := h.1 hc6
              refine a_iconst (pc := 17) dX9_in_17 (by decide) ?_
              refine a_iretz (pc := 18) dX9_in_18 rfl rfl (Nat.le_of_ble_eq_true rfl) (by decide) ⟨rfl, ?_⟩
              refine a_iretz (pc := 9) dX9_isMinute_9 rfl rfl (Nat.le_of_ble_eq_true rfl) (by decide) ⟨rfl, ?_⟩
              refine a_if_ne (tgt := 41) (pc := 35) dX9_board_35 (by decide) (fun hc => absurd rfl hc) (fun _ => ?_)
              refine a_bipush (pc := 38) dX9_board_38 (by decide) (by decide +kernel) ?_
              exact a_ireti (pc := 40) dX9_board_40 rfl rfl (Nat.le_of_ble_eq_true rfl) ⟨rfl, h⟩
            · replace h := h.2 hc6
              refine a_lload_n (pc := 6) dX9_in_6 rfl ?_
              refine a_lload (pc := 7) dX9_in_7 rfl ?_
              refine a_lcmp_gt (tgt := 17) (pc := 9) dX9_in_9 dX9_in_10 (by decide) (fun hc7 => ?_) (fun hc7 => ?_)
              · replace h := h.1 hc7
                refine a_iconst (pc := 17) dX9_in_17 (by decide) ?_
                refine a_iretz (pc := 18) dX9_in_18 rfl rfl (Nat.le_of_ble_eq_true rfl) (by decide) ⟨rfl, ?_⟩
                refine a_iretz (pc := 9) dX9_isMinute_9 rfl rfl (Nat.le_of_ble_eq_true rfl) (by decide) ⟨rfl, ?_⟩
                refine a_if_ne (tgt := 41) (pc := 35) dX9_board_35 (by decide) (fun hc => absurd rfl hc) (fun _ => ?_)
                refine a_bipush (pc := 38) dX9_board_38 (by decide) (by decide +kernel) ?_
                exact a_ireti (pc := 40) dX9_board_40 rfl rfl (Nat.le_of_ble_eq_true rfl) ⟨rfl, h⟩
              · replace h := h.2 hc7
                refine a_iconst (pc := 13) dX9_in_13 (by decide) ?_
                refine a_goto (tgt := 18) (pc := 14) dX9_in_14 (by decide) ?_
                refine a_iretz (pc := 18) dX9_in_18 rfl rfl (Nat.le_of_ble_eq_true rfl) (by decide) ⟨rfl, ?_⟩
                refine a_iretz (pc := 9) dX9_isMinute_9 rfl rfl (Nat.le_of_ble_eq_true rfl) (by decide) ⟨rfl, ?_⟩
                refine a_if_ne (tgt := 41) (pc := 35) dX9_board_35 (by decide) (fun _ => ?_) (fun hc => absurd hc (by decide))
                refine a_aload_n (pc := 41) dX9_board_41 (by decide) rfl ?_
                refine a_iload_n (pc := 42) dX9_board_42 rfl ?_
                refine a_ldc2 (v := 100) (pc := 43) dX9_board_43 kc_RX9_308 (by decide) ?_
                refine a_iload_n (pc := 46) dX9_board_46 rfl ?_
                refine a_i2l (pc := 47) dX9_board_47 ?_
                have ho8 := h.1
                replace h := h.2
                refine a_lmul (pc := 48) dX9_board_48 ho8 ?_
                refine a_lconst (v := 1) (pc := 49) dX9_board_49 rfl ?_
                have ho9 := h.1
                replace h := h.2
                refine a_lsub (pc := 50) dX9_board_50 ho9 ?_
                refine p_callV (As := [(0, l1), (1, (100 * l2) - 1)]) (st := []) (st1 := fun r => [(1, r)])  (pc := 51) dX9_board_51 ml_RX9_314 (by decide) s0_275 rfl (by decide) (Nat.le_of_ble_eq_true rfl) rfl (fun _ => rfl) h (fun r10 M11 h => ?_)
                refine a_lstore (ls1 := [(2, 275), (0, l1), (0, l2), (0, l3), (0, l4), (1, r10), (9, 0), (9, 0)]) (pc := 54) dX9_board_54 (by decide) (hp1 (t := 0) rfl (by decide)) rfl ?_
                refine a_iconst (pc := 56) dX9_board_56 (by decide) ?_
                refine a_istore (ls1 := [(2, 275), (0, l1), (0, l2), (0, l3), (0, l4), (1, r10), (9, 0), (0, 0)]) (pc := 57) dX9_board_57 (by decide) (hp1 (t := 9) rfl (by decide)) rfl ?_
                exact a_msk [true, true, false, true, true, true, true, true] rfl h
set_option maxRecDepth 100000 in
set_option maxHeartbeats 4000000 in
theorem B_R_board_59 {l1 l3 l4 l5 l7 : Int} {M : Mem} {Q : Int → Mem → Prop} (h : ((l3 ≤ l7 → ((0 ≤ l5 → ((¬ l4 = 0 → ((¬ l4 = 1 → ((0 : Int) ≤ l5) ∧ (-2147483648 ≤ l5 / 100 ∧ l5 / 100 ≤ 2147483647) ∧ Q (l5 / 100) M) ∧ (l4 = 1 → ((0 : Int) ≤ l5) ∧ (-2147483648 ≤ l5 % 10 ∧ l5 % 10 ≤ 2147483647) ∧ Q (l5 % 10) M))) ∧ (l4 = 0 → ((0 : Int) ≤ l5) ∧ ((0 : Int) ≤ l5 / 10) ∧ (-2147483648 ≤ (l5 / 10) % 10 ∧ (l5 / 10) % 10 ≤ 2147483647) ∧ Q ((l5 / 10) % 10) M))) ∧ (¬ (0 ≤ l5) → Q (-5) M))) ∧ (¬ (l3 ≤ l7) → ((l5 < 0 → ((0 ≤ l5 → ((¬ l4 = 0 → ((¬ l4 = 1 → ((0 : Int) ≤ l5) ∧ (-2147483648 ≤ l5 / 100 ∧ l5 / 100 ≤ 2147483647) ∧ Q (l5 / 100) M) ∧ (l4 = 1 → ((0 : Int) ≤ l5) ∧ (-2147483648 ≤ l5 % 10 ∧ l5 % 10 ≤ 2147483647) ∧ Q (l5 % 10) M))) ∧ (l4 = 0 → ((0 : Int) ≤ l5) ∧ ((0 : Int) ≤ l5 / 10) ∧ (-2147483648 ≤ (l5 / 10) % 10 ∧ (l5 / 10) % 10 ≤ 2147483647) ∧ Q ((l5 / 10) % 10) M))) ∧ (¬ (0 ≤ l5) → Q (-5) M))) ∧ (¬ (l5 < 0) → Calls mX9_nextBoard [(2, 275), (0, l1), (1, l5)] S0 M (fun r23 M24 => (-2147483648 ≤ l7 + 1 ∧ l7 + 1 ≤ 2147483647) ∧ AW mX9_board 59 [(2, 275), (0, l1), (9, 0), (0, l3), (0, l4), (1, r23), (9, 0), (0, l7 + 1)] M24 Q)))))) : AW mX9_board 59 [(2, 275), (0, l1), (9, 0), (0, l3), (0, l4), (1, l5), (9, 0), (0, l7)] M Q := by
  refine a_iload (pc := 59) dX9_board_59 rfl ?_
  refine a_iload_n (pc := 61) dX9_board_61 rfl ?_
  refine a_icmp_ge (tgt := 87) (pc := 62) dX9_board_62 (by decide) (fun hc1 => ?_) (fun hc1 => ?_)
  · replace h := h.1 hc1
    refine a_lload (pc := 87) dX9_board_87 rfl ?_
    refine a_lconst (v := 0) (pc := 89) dX9_board_89 rfl ?_
    refine a_lcmp_ge (tgt := 97) (pc := 90) dX9_board_90 dX9_board_91 (by decide) (fun hc2 => ?_) (fun hc2 => ?_)
    · replace h := h.1 hc2
      refine a_iload (pc := 97) dX9_board_97 rfl ?_
      refine a_if_ne (tgt := 116) (pc := 99) dX9_board_99 (by decide) (fun hc3 => ?_) (fun hc3 => ?_)
      · replace h := h.1 hc3
        refine a_iload (pc := 116) dX9_board_116 rfl ?_
        refine a_iconst (pc := 118) dX9_board_118 (by decide) ?_
        refine a_icmp_ne (tgt := 132) (pc := 119) dX9_board_119 (by decide) (fun hc4 => ?_) (fun hc4 => ?_)
        · replace h := h.1 hc4
          refine a_lload (pc := 132) dX9_board_132 rfl ?_
          refine a_ldc2 (v := 100) (pc := 134) dX9_board_134 kc_RX9_308 (by decide) ?_
          have ho5 := h.1
          replace h := h.2
          refine a_ldiv (pc := 137) dX9_board_137 ho5 (by decide) ?_
          have ho6 := h.1
          replace h := h.2
          refine a_l2i (pc := 138) dX9_board_138 ho6 ?_
          exact a_ireti (pc := 139) dX9_board_139 rfl rfl (Nat.le_of_ble_eq_true rfl) ⟨rfl, h⟩
        · replace h := h.2 hc4
          refine a_lload (pc := 122) dX9_board_122 rfl ?_
          refine a_ldc2 (v := 10) (pc := 124) dX9_board_124 kc_RX9_310 (by decide) ?_
          have ho7 := h.1
          replace h := h.2
          refine a_lrem (pc := 127) dX9_board_127 ho7 (by decide) ?_
          have ho8 := h.1
          replace h := h.2
          refine a_l2i (pc := 128) dX9_board_128 ho8 ?_
          refine a_goto (tgt := 139) (pc := 129) dX9_board_129 (by decide) ?_
          exact a_ireti (pc := 139) dX9_board_139 rfl rfl (Nat.le_of_ble_eq_true rfl) ⟨rfl, h⟩
      · replace h := h.2 hc3
        refine a_lload (pc := 102) dX9_board_102 rfl ?_
        refine a_ldc2 (v := 10) (pc := 104) dX9_board_104 kc_RX9_310 (by decide) ?_
        have ho9 := h.1
        replace h := h.2
        refine a_ldiv (pc := 107) dX9_board_107 ho9 (by decide) ?_
        refine a_ldc2 (v := 10) (pc := 108) dX9_board_108 kc_RX9_310 (by decide) ?_
        have ho10 := h.1
        replace h := h.2
        refine a_lrem (pc := 111) dX9_board_111 ho10 (by decide) ?_
        have ho11 := h.1
        replace h := h.2
        refine a_l2i (pc := 112) dX9_board_112 ho11 ?_
        refine a_goto (tgt := 139) (pc := 113) dX9_board_113 (by decide) ?_
        exact a_ireti (pc := 139) dX9_board_139 rfl rfl (Nat.le_of_ble_eq_true rfl) ⟨rfl, h⟩
    · replace h := h.2 hc2
      refine a_bipush (pc := 94) dX9_board_94 (by decide) (by decide +kernel) ?_
      exact a_ireti (pc := 96) dX9_board_96 rfl rfl (Nat.le_of_ble_eq_true rfl) ⟨rfl, h⟩
  · replace h := h.2 hc1
    refine a_lload (pc := 65) dX9_board_65 rfl ?_
    refine a_lconst (v := 0) (pc := 67) dX9_board_67 rfl ?_
    refine a_lcmp_lt (tgt := 87) (pc := 68) dX9_board_68 dX9_board_69 (by decide) (fun hc12 => ?_) (fun hc12 => ?_)
    · replace h := h.1 hc12
      refine a_lload (pc := 87) dX9_board_87 rfl ?_
      refine a_lconst (v := 0) (pc := 89) dX9_board_89 rfl ?_
      refine a_lcmp_ge (tgt := 97) (pc := 90) dX9_board_90 dX9_board_91 (by decide) (fun hc13 => ?_) (fun hc13 => ?_)
      · replace h := h.1 hc13
        refine a_iload (pc := 97) dX9_board_97 rfl ?_
        refine a_if_ne (tgt := 116) (pc := 99) dX9_board_99 (by decide) (fun hc14 => ?_) (fun hc14 => ?_)
        · replace h := h.1 hc14
          refine a_iload (pc := 116) dX9_board_116 rfl ?_
          refine a_iconst (pc := 118) dX9_board_118 (by decide) ?_
          refine a_icmp_ne (tgt := 132) (pc := 119) dX9_board_119 (by decide) (fun hc15 => ?_) (fun hc15 => ?_)
          · replace h := h.1 hc15
            refine a_lload (pc := 132) dX9_board_132 rfl ?_
            refine a_ldc2 (v := 100) (pc := 134) dX9_board_134 kc_RX9_308 (by decide) ?_
            have ho16 := h.1
            replace h := h.2
            refine a_ldiv (pc := 137) dX9_board_137 ho16 (by decide) ?_
            have ho17 := h.1
            replace h := h.2
            refine a_l2i (pc := 138) dX9_board_138 ho17 ?_
            exact a_ireti (pc := 139) dX9_board_139 rfl rfl (Nat.le_of_ble_eq_true rfl) ⟨rfl, h⟩
          · replace h := h.2 hc15
            refine a_lload (pc := 122) dX9_board_122 rfl ?_
            refine a_ldc2 (v := 10) (pc := 124) dX9_board_124 kc_RX9_310 (by decide) ?_
            have ho18 := h.1
            replace h := h.2
            refine a_lrem (pc := 127) dX9_board_127 ho18 (by decide) ?_
            have ho19 := h.1
            replace h := h.2
            refine a_l2i (pc := 128) dX9_board_128 ho19 ?_
            refine a_goto (tgt := 139) (pc := 129) dX9_board_129 (by decide) ?_
            exact a_ireti (pc := 139) dX9_board_139 rfl rfl (Nat.le_of_ble_eq_true rfl) ⟨rfl, h⟩
        · replace h := h.2 hc14
          refine a_lload (pc := 102) dX9_board_102 rfl ?_
          refine a_ldc2 (v := 10) (pc := 104) dX9_board_104 kc_RX9_310 (by decide) ?_
          have ho20 := h.1
          replace h := h.2
          refine a_ldiv (pc := 107) dX9_board_107 ho20 (by decide) ?_
          refine a_ldc2 (v := 10) (pc := 108) dX9_board_108 kc_RX9_310 (by decide) ?_
          have ho21 := h.1
          replace h := h.2
          refine a_lrem (pc := 111) dX9_board_111 ho21 (by decide) ?_
          have ho22 := h.1
          replace h := h.2
          refine a_l2i (pc := 112) dX9_board_112 ho22 ?_
          refine a_goto (tgt := 139) (pc := 113) dX9_board_113 (by decide) ?_
          exact a_ireti (pc := 139) dX9_board_139 rfl rfl (Nat.le_of_ble_eq_true rfl) ⟨rfl, h⟩
      · replace h := h.2 hc13
        refine a_bipush (pc := 94) dX9_board_94 (by decide) (by decide +kernel) ?_
        exact a_ireti (pc := 96) dX9_board_96 rfl rfl (Nat.le_of_ble_eq_true rfl) ⟨rfl, h⟩
    · replace h := h.2 hc12
      refine a_aload_n (pc := 72) dX9_board_72 (by decide) rfl ?_
      refine a_iload_n (pc := 73) dX9_board_73 rfl ?_
      refine a_lload (pc := 74) dX9_board_74 rfl ?_
      refine p_callV (As := [(0, l1), (1, l5)]) (st := []) (st1 := fun r => [(1, r)])  (pc := 76) dX9_board_76 ml_RX9_314 (by decide) s0_275 rfl (by decide) (Nat.le_of_ble_eq_true rfl) rfl (fun _ => rfl) h (fun r23 M24 h => ?_)
      refine a_lstore (ls1 := [(2, 275), (0, l1), (9, 0), (0, l3), (0, l4), (1, r23), (9, 0), (0, l7)]) (pc := 79) dX9_board_79 (by decide) (hp1 (t := 0) rfl (by decide)) rfl ?_
      have ho25 := h.1
      replace h := h.2
      refine a_iinc (ls1 := [(2, 275), (0, l1), (9, 0), (0, l3), (0, l4), (1, r23), (9, 0), (0, l7 + 1)]) (pc := 81) dX9_board_81 rfl (by decide) (hp1 (t := 9) rfl (by decide)) ho25 rfl ?_
      refine a_goto (tgt := 59) (pc := 84) dX9_board_84 (by decide) ?_
      exact h
theorem E_R_board {l1 l2 l3 l4 : Int} {M : Mem} {Q : Int → Mem → Prop} (h : AW mX9_board 0 [(2, 275), (0, l1), (0, l2), (0, l3), (0, l4), (9, 0), (9, 0), (9, 0)] M Q) : Calls mX9_board [(2, 275), (0, l1), (0, l2), (0, l3), (0, l4)] S0 M Q := calls_of (by decide) (by decide) (Nat.le_of_ble_eq_true rfl) rfl h
set_option maxRecDepth 100000 in
set_option maxHeartbeats 4000000 in
theorem B_R_earliest_0 {l1 l2 l3 l4 : Int} {M : Mem} {Q : Int → Mem → Prop} (h : Calls mX9_wrong [(0, l1), (0, l3), (0, l2), (0, l4)] S0 (up2 M 275 8 0) (fun r1 M2 => ((0 ≤ r1 → Calls mX9_layRounds [(2, 275), (0, l1), (0, l2)] S0 M2 (fun r4 M5 => (-2147483648 ≤ 12 * l4 ∧ 12 * l4 ≤ 2147483647) ∧ (-2147483648 ≤ (12 * l4) + l3 ∧ (12 * l4) + l3 ≤ 2147483647) ∧ ((0 : Int) ≤ (12 * l4) + l3 ∧ (12 * l4) + l3 < 84) ∧ (((M5 284 ((12 * l4) + l3)) < 100000000 → Q (M5 284 ((12 * l4) + l3)) M5) ∧ (¬ ((M5 284 ((12 * l4) + l3)) < 100000000) → Q (-5) M5)))) ∧ (¬ (0 ≤ r1) → Calls mX9_wrong [(0, l1), (0, l3), (0, l2), (0, l4)] S0 M2 (fun r10 M11 => Q r10 M11))))) : AW mX9_earliest 0 [(2, 275), (0, l1), (0, l2), (0, l3), (0, l4), (9, 0)] M Q := by
  refine a_aload_n (pc := 0) dX9_earliest_0 (by decide) rfl ?_
  refine a_iconst (pc := 1) dX9_earliest_1 (by decide) ?_
  refine a_putI (y := 8) (pc := 2) dX9_earliest_2 fl_RX9_87 (by decide) s0_275 rfl rfl (tyX9_ok 8 (by decide)) rfl ?_
  refine a_iload_n (pc := 5) dX9_earliest_5 rfl ?_
  refine a_iload_n (pc := 6) dX9_earliest_6 rfl ?_
  refine a_iload_n (pc := 7) dX9_earliest_7 rfl ?_
  refine a_iload (pc := 8) dX9_earliest_8 rfl ?_
  refine p_callS (As := [(0, l1), (0, l3), (0, l2), (0, l4)]) (st := []) (st1 := fun r => [(0, r)])  (pc := 10) dX9_earliest_10 ml_RX9_278 (by decide) (Nat.le_of_ble_eq_true rfl) rfl (fun _ => rfl) h (fun r1 M2 h => ?_)
  refine a_if_ge (tgt := 25) (pc := 13) dX9_earliest_13 (by decide) (fun hc3 => ?_) (fun hc3 => ?_)
  · replace h := h.1 hc3
    refine a_aload_n (pc := 25) dX9_earliest_25 (by decide) rfl ?_
    refine a_iload_n (pc := 26) dX9_earliest_26 rfl ?_
    refine a_iload_n (pc := 27) dX9_earliest_27 rfl ?_
    refine a_iload_n (pc := 28) dX9_earliest_28 rfl ?_
    refine a_iload (pc := 29) dX9_earliest_29 rfl ?_
    refine p_inlV (Ex := _) (As := [(0, l1), (0, l2), (0, l3), (0, l4)]) (st := []) (st1 := fun r => [(0, r)])  (pc := 31) dX9_earliest_31 ml_RX9_282 (by decide) s0_275 rfl (by decide) (Nat.le_of_ble_eq_true rfl) rfl (fun _ => rfl) (by decide) (by decide) (Nat.le_of_ble_eq_true rfl) rfl ?_
    refine a_aload_n (pc := 0) dX9_earliestOf_0 (by decide) rfl ?_
    refine a_iload_n (pc := 1) dX9_earliestOf_1 rfl ?_
    refine a_iload_n (pc := 2) dX9_earliestOf_2 rfl ?_
    refine p_callV (As := [(0, l1), (0, l2)]) (st := []) (st1 := fun r => [])  (pc := 3) dX9_earliestOf_3 ml_RX9_138 (by decide) s0_275 rfl (by decide) (Nat.le_of_ble_eq_true rfl) rfl (fun _ => rfl) h (fun r4 M5 h => ?_)
    refine a_aload_n (pc := 6) dX9_earliestOf_6 (by decide) rfl ?_
    refine a_getR (y := 284) (pc := 7) dX9_earliestOf_7 fl_RX9_41 (by decide) s0_275 rfl rfl ?_
    refine a_bipush (pc := 10) dX9_earliestOf_10 (by decide) (by decide +kernel) ?_
    refine a_iload (pc := 12) dX9_earliestOf_12 rfl ?_
    have ho6 := h.1
    replace h := h.2
    refine a_imul (pc := 14) dX9_earliestOf_14 ho6 ?_
    refine a_iload_n (pc := 15) dX9_earliestOf_15 rfl ?_
    have ho7 := h.1
    replace h := h.2
    refine a_iadd (pc := 16) dX9_earliestOf_16 ho7 ?_
    have ho8 := h.1
    replace h := h.2
    refine a_iald (pc := 17) dX9_earliestOf_17 (by decide) s0_284 ho8.1 ho8.2 ?_
    refine a_ireti (pc := 18) dX9_earliestOf_18 rfl rfl (Nat.le_of_ble_eq_true rfl) ⟨rfl, ?_⟩
    refine a_istore (ls1 := [(2, 275), (0, l1), (0, l2), (0, l3), (0, l4), (0, M5 284 ((12 * l4) + l3))]) (pc := 34) dX9_earliest_34 (by decide) (hp1 (t := 0) rfl (by decide)) rfl ?_
    refine a_iload (pc := 36) dX9_earliest_36 rfl ?_
    refine a_ldc (v := 100000000) (pc := 38) dX9_earliest_38 kc_RX9_112 (by decide) ?_
    refine a_icmp_lt (tgt := 48) (pc := 40) dX9_earliest_40 (by decide) (fun hc9 => ?_) (fun hc9 => ?_)
    · replace h := h.1 hc9
      refine a_iload (pc := 48) dX9_earliest_48 rfl ?_
      exact a_ireti (pc := 50) dX9_earliest_50 rfl rfl (Nat.le_of_ble_eq_true rfl) ⟨rfl, h⟩
    · replace h := h.2 hc9
      refine a_bipush (pc := 43) dX9_earliest_43 (by decide) (by decide +kernel) ?_
      refine a_goto (tgt := 50) (pc := 45) dX9_earliest_45 (by decide) ?_
      exact a_ireti (pc := 50) dX9_earliest_50 rfl rfl (Nat.le_of_ble_eq_true rfl) ⟨rfl, h⟩
  · replace h := h.2 hc3
    refine a_iload_n (pc := 16) dX9_earliest_16 rfl ?_
    refine a_iload_n (pc := 17) dX9_earliest_17 rfl ?_
    refine a_iload_n (pc := 18) dX9_earliest_18 rfl ?_
    refine a_iload (pc := 19) dX9_earliest_19 rfl ?_
    refine p_callS (As := [(0, l1), (0, l3), (0, l2), (0, l4)]) (st := []) (st1 := fun r => [(0, r)])  (pc := 21) dX9_earliest_21 ml_RX9_278 (by decide) (Nat.le_of_ble_eq_true rfl) rfl (fun _ => rfl) h (fun r10 M11 h => ?_)
    exact a_ireti (pc := 24) dX9_earliest_24 rfl rfl (Nat.le_of_ble_eq_true rfl) ⟨rfl, h⟩
theorem E_R_earliest {l1 l2 l3 l4 : Int} {M : Mem} {Q : Int → Mem → Prop} (h : AW mX9_earliest 0 [(2, 275), (0, l1), (0, l2), (0, l3), (0, l4), (9, 0)] M Q) : Calls mX9_earliest [(2, 275), (0, l1), (0, l2), (0, l3), (0, l4)] S0 M Q := calls_of (by decide) (by decide) (Nat.le_of_ble_eq_true rfl) rfl h
set_option maxRecDepth 100000 in
set_option maxHeartbeats 4000000 in
theorem B_R_latest_0 {l1 l2 l3 l4 : Int} {M : Mem} {Q : Int → Mem → Prop} (h : Calls mX9_wrong [(0, l1), (0, l2), (0, l3), (0, l4)] S0 (up2 M 275 8 0) (fun r1 M2 => ((0 ≤ r1 → AW mX9_latest 33 [(2, 275), (0, l1), (0, l2), (0, l3), (0, l4), (0, (-1)), (0, 1999), (9, 0), (9, 0)] M2 Q) ∧ (¬ (0 ≤ r1) → Calls mX9_wrong [(0, l1), (0, l2), (0, l3), (0, l4)] S0 M2 (fun r4 M5 => Q r4 M5))))) : AW mX9_latest 0 [(2, 275), (0, l1), (0, l2), (0, l3), (0, l4), (9, 0), (9, 0), (9, 0), (9, 0)] M Q := by
  refine a_aload_n (pc := 0) dX9_latest_0 (by decide) rfl ?_
  refine a_iconst (pc := 1) dX9_latest_1 (by decide) ?_
  refine a_putI (y := 8) (pc := 2) dX9_latest_2 fl_RX9_87 (by decide) s0_275 rfl rfl (tyX9_ok 8 (by decide)) rfl ?_
  refine a_iload_n (pc := 5) dX9_latest_5 rfl ?_
  refine a_iload_n (pc := 6) dX9_latest_6 rfl ?_
  refine a_iload_n (pc := 7) dX9_latest_7 rfl ?_
  refine a_iload (pc := 8) dX9_latest_8 rfl ?_
  refine p_callS (As := [(0, l1), (0, l2), (0, l3), (0, l4)]) (st := []) (st1 := fun r => [(0, r)])  (pc := 10) dX9_latest_10 ml_RX9_278 (by decide) (Nat.le_of_ble_eq_true rfl) rfl (fun _ => rfl) h (fun r1 M2 h => ?_)
  refine a_if_ge (tgt := 25) (pc := 13) dX9_latest_13 (by decide) (fun hc3 => ?_) (fun hc3 => ?_)
  · replace h := h.1 hc3
    refine a_iconst (pc := 25) dX9_latest_25 (by decide) ?_
    refine a_istore (ls1 := [(2, 275), (0, l1), (0, l2), (0, l3), (0, l4), (0, (-1)), (9, 0), (9, 0), (9, 0)]) (pc := 26) dX9_latest_26 (by decide) (hp1 (t := 0) rfl (by decide)) rfl ?_
    refine a_sipush (pc := 28) dX9_latest_28 (by decide) (by decide +kernel) ?_
    refine a_istore (ls1 := [(2, 275), (0, l1), (0, l2), (0, l3), (0, l4), (0, (-1)), (0, 1999), (9, 0), (9, 0)]) (pc := 31) dX9_latest_31 (by decide) (hp1 (t := 0) rfl (by decide)) rfl ?_
    exact h
  · replace h := h.2 hc3
    refine a_iload_n (pc := 16) dX9_latest_16 rfl ?_
    refine a_iload_n (pc := 17) dX9_latest_17 rfl ?_
    refine a_iload_n (pc := 18) dX9_latest_18 rfl ?_
    refine a_iload (pc := 19) dX9_latest_19 rfl ?_
    refine p_callS (As := [(0, l1), (0, l2), (0, l3), (0, l4)]) (st := []) (st1 := fun r => [(0, r)])  (pc := 21) dX9_latest_21 ml_RX9_278 (by decide) (Nat.le_of_ble_eq_true rfl) rfl (fun _ => rfl) h (fun r4 M5 h => ?_)
    exact a_ireti (pc := 24) dX9_latest_24 rfl rfl (Nat.le_of_ble_eq_true rfl) ⟨rfl, h⟩
set_option maxRecDepth 100000 in
set_option maxHeartbeats 4000000 in
theorem B_R_latest_33 {l1 l2 l3 l4 l5 l6 : Int} {M : Mem} {Q : Int → Mem → Prop} (h : ((l6 ≤ l5 → ((0 ≤ l5 → Q l5 M) ∧ (¬ (0 ≤ l5) → Q (-5) M))) ∧ (¬ (l6 ≤ l5) → (-2147483648 ≤ l5 + l6 ∧ l5 + l6 ≤ 2147483647) ∧ (-2147483648 ≤ (l5 + l6) + 1 ∧ (l5 + l6) + 1 ≤ 2147483647) ∧ ((0 : Int) ≤ (l5 + l6) + 1) ∧ Calls mX9_layRounds [(2, 275), (0, l1), (0, ((l5 + l6) + 1) / 2)] S0 M (fun r6 M7 => (-2147483648 ≤ 12 * l4 ∧ 12 * l4 ≤ 2147483647) ∧ (-2147483648 ≤ (12 * l4) + l2 ∧ (12 * l4) + l2 ≤ 2147483647) ∧ ((0 : Int) ≤ (12 * l4) + l2 ∧ (12 * l4) + l2 < 84) ∧ ((l3 < (M7 284 ((12 * l4) + l2)) → (-2147483648 ≤ (((l5 + l6) + 1) / 2) - 1 ∧ (((l5 + l6) + 1) / 2) - 1 ≤ 2147483647) ∧ AW mX9_latest 33 [(2, 275), (0, l1), (0, l2), (0, l3), (0, l4), (0, l5), (0, (((l5 + l6) + 1) / 2) - 1), (9, 0), (9, 0)] M7 Q) ∧ (¬ (l3 < (M7 284 ((12 * l4) + l2))) → AW mX9_latest 33 [(2, 275), (0, l1), (0, l2), (0, l3), (0, l4), (0, ((l5 + l6) + 1) / 2), (0, l6), (9, 0), (9, 0)] M7 Q)))))) : AW mX9_latest 33 [(2, 275), (0, l1), (0, l2), (0, l3), (0, l4), (0, l5), (0, l6), (9, 0), (9, 0)] M Q := by
  refine a_iload (pc := 33) dX9_latest_33 rfl ?_
  refine a_iload (pc := 35) dX9_latest_35 rfl ?_
  refine a_icmp_ge (tgt := 105) (pc := 37) dX9_latest_37 (by decide) (fun hc1 => ?_) (fun hc1 => ?_)
  · replace h := h.1 hc1
    refine a_iload (pc := 105) dX9_latest_105 rfl ?_
    refine a_if_ge (tgt := 115) (pc := 107) dX9_latest_107 (by decide) (fun hc2 => ?_) (fun hc2 => ?_)
    · replace h := h.1 hc2
      refine a_iload (pc := 115) dX9_latest_115 rfl ?_
      exact a_ireti (pc := 117) dX9_latest_117 rfl rfl (Nat.le_of_ble_eq_true rfl) ⟨rfl, h⟩
    · replace h := h.2 hc2
      refine a_bipush (pc := 110) dX9_latest_110 (by decide) (by decide +kernel) ?_
      refine a_goto (tgt := 117) (pc := 112) dX9_latest_112 (by decide) ?_
      exact a_ireti (pc := 117) dX9_latest_117 rfl rfl (Nat.le_of_ble_eq_true rfl) ⟨rfl, h⟩
  · replace h := h.2 hc1
    refine a_iload (pc := 40) dX9_latest_40 rfl ?_
    refine a_iload (pc := 42) dX9_latest_42 rfl ?_
    have ho3 := h.1
    replace h := h.2
    refine a_iadd (pc := 44) dX9_latest_44 ho3 ?_
    refine a_iconst (pc := 45) dX9_latest_45 (by decide) ?_
    have ho4 := h.1
    replace h := h.2
    refine a_iadd (pc := 46) dX9_latest_46 ho4 ?_
    refine a_iconst (pc := 47) dX9_latest_47 (by decide) ?_
    have ho5 := h.1
    replace h := h.2
    refine a_idiv (pc := 48) dX9_latest_48 ho5 (by decide) ?_
    refine a_istore (ls1 := [(2, 275), (0, l1), (0, l2), (0, l3), (0, l4), (0, l5), (0, l6), (0, ((l5 + l6) + 1) / 2), (9, 0)]) (pc := 49) dX9_latest_49 (by decide) (hp1 (t := 0) rfl (by decide)) rfl ?_
    refine a_aload_n (pc := 51) dX9_latest_51 (by decide) rfl ?_
    refine a_iload_n (pc := 52) dX9_latest_52 rfl ?_
    refine a_iload (pc := 53) dX9_latest_53 rfl ?_
    refine a_iload_n (pc := 55) dX9_latest_55 rfl ?_
    refine a_iload (pc := 56) dX9_latest_56 rfl ?_
    refine p_inlV (Ex := _) (As := [(0, l1), (0, ((l5 + l6) + 1) / 2), (0, l2), (0, l4)]) (st := []) (st1 := fun r => [(0, r)])  (pc := 58) dX9_latest_58 ml_RX9_282 (by decide) s0_275 rfl (by decide) (Nat.le_of_ble_eq_true rfl) rfl (fun _ => rfl) (by decide) (by decide) (Nat.le_of_ble_eq_true rfl) rfl ?_
    refine a_aload_n (pc := 0) dX9_earliestOf_0 (by decide) rfl ?_
    refine a_iload_n (pc := 1) dX9_earliestOf_1 rfl ?_
    refine a_iload_n (pc := 2) dX9_earliestOf_2 rfl ?_
    refine p_callV (As := [(0, l1), (0, ((l5 + l6) + 1) / 2)]) (st := []) (st1 := fun r => [])  (pc := 3) dX9_earliestOf_3 ml_RX9_138 (by decide) s0_275 rfl (by decide) (Nat.le_of_ble_eq_true rfl) rfl (fun _ => rfl) h (fun r6 M7 h => ?_)
    refine a_aload_n (pc := 6) dX9_earliestOf_6 (by decide) rfl ?_
    refine a_getR (y := 284) (pc := 7) dX9_earliestOf_7 fl_RX9_41 (by decide) s0_275 rfl rfl ?_
    refine a_bipush (pc := 10) dX9_earliestOf_10 (by decide) (by decide +kernel) ?_
    refine a_iload (pc := 12) dX9_earliestOf_12 rfl ?_
    have ho8 := h.1
    replace h := h.2
    refine a_imul (pc := 14) dX9_earliestOf_14 ho8 ?_
    refine a_iload_n (pc := 15) dX9_earliestOf_15 rfl ?_
    have ho9 := h.1
    replace h := h.2
    refine a_iadd (pc := 16) dX9_earliestOf_16 ho9 ?_
    have ho10 := h.1
    replace h := h.2
    refine a_iald (pc := 17) dX9_earliestOf_17 (by decide) s0_284 ho10.1 ho10.2 ?_
    refine a_ireti (pc := 18) dX9_earliestOf_18 rfl rfl (Nat.le_of_ble_eq_true rfl) ⟨rfl, ?_⟩
    refine a_iload_n (pc := 61) dX9_latest_61 rfl ?_
    refine a_icmp_gt (tgt := 69) (pc := 62) dX9_latest_62 (by decide) (fun hc11 => ?_) (fun hc11 => ?_)
    · replace h := h.1 hc11
      refine a_iconst (pc := 69) dX9_latest_69 (by decide) ?_
      refine a_istore (ls1 := [(2, 275), (0, l1), (0, l2), (0, l3), (0, l4), (0, l5), (0, l6), (0, ((l5 + l6) + 1) / 2), (0, 0)]) (pc := 70) dX9_latest_70 (by decide) (hp1 (t := 0) rfl (by decide)) rfl ?_
      refine a_iload (pc := 72) dX9_latest_72 rfl ?_
      refine a_if_eq (tgt := 82) (pc := 74) dX9_latest_74 (by decide) (fun _ => ?_) (fun hc => absurd (by decide) hc)
      refine a_iload (pc := 82) dX9_latest_82 rfl ?_
      refine a_istore (ls1 := [(2, 275), (0, l1), (0, l2), (0, l3), (0, l4), (0, l5), (0, l6), (0, ((l5 + l6) + 1) / 2), (0, 0)]) (pc := 84) dX9_latest_84 (by decide) (hp1 (t := 0) rfl (by decide)) rfl ?_
      refine a_iload (pc := 86) dX9_latest_86 rfl ?_
      refine a_if_eq (tgt := 96) (pc := 88) dX9_latest_88 (by decide) (fun _ => ?_) (fun hc => absurd (by decide) hc)
      refine a_iload (pc := 96) dX9_latest_96 rfl ?_
      refine a_iconst (pc := 98) dX9_latest_98 (by decide) ?_
      have ho12 := h.1
      replace h := h.2
      refine a_isub (pc := 99) dX9_latest_99 ho12 ?_
      refine a_istore (ls1 := [(2, 275), (0, l1), (0, l2), (0, l3), (0, l4), (0, l5), (0, (((l5 + l6) + 1) / 2) - 1), (0, ((l5 + l6) + 1) / 2), (0, 0)]) (pc := 100) dX9_latest_100 (by decide) (hp1 (t := 0) rfl (by decide)) rfl ?_
      refine a_goto (tgt := 33) (pc := 102) dX9_latest_102 (by decide) ?_
      exact a_msk [true, true, true, true, true, true, true, false, false] rfl h
    · replace h := h.2 hc11
      refine a_iconst (pc := 65) dX9_latest_65 (by decide) ?_
      refine a_goto (tgt := 70) (pc := 66) dX9_latest_66 (by decide) ?_
      refine a_istore (ls1 := [(2, 275), (0, l1), (0, l2), (0, l3), (0, l4), (0, l5), (0, l6), (0, ((l5 + l6) + 1) / 2), (0, 1)]) (pc := 70) dX9_latest_70 (by decide) (hp1 (t := 0) rfl (by decide)) rfl ?_
      refine a_iload (pc := 72) dX9_latest_72 rfl ?_
      refine a_if_eq (tgt := 82) (pc := 74) dX9_latest_74 (by decide) (fun hc => absurd hc (by decide)) (fun _ => ?_)
      refine a_iload (pc := 77) dX9_latest_77 rfl ?_
      refine a_goto (tgt := 84) (pc := 79) dX9_latest_79 (by decide) ?_
      refine a_istore (ls1 := [(2, 275), (0, l1), (0, l2), (0, l3), (0, l4), (0, ((l5 + l6) + 1) / 2), (0, l6), (0, ((l5 + l6) + 1) / 2), (0, 1)]) (pc := 84) dX9_latest_84 (by decide) (hp1 (t := 0) rfl (by decide)) rfl ?_
      refine a_iload (pc := 86) dX9_latest_86 rfl ?_
      refine a_if_eq (tgt := 96) (pc := 88) dX9_latest_88 (by decide) (fun hc => absurd hc (by decide)) (fun _ => ?_)
      refine a_iload (pc := 91) dX9_latest_91 rfl ?_
      refine a_goto (tgt := 100) (pc := 93) dX9_latest_93 (by decide) ?_
      refine a_istore (ls1 := [(2, 275), (0, l1), (0, l2), (0, l3), (0, l4), (0, ((l5 + l6) + 1) / 2), (0, l6), (0, ((l5 + l6) + 1) / 2), (0, 1)]) (pc := 100) dX9_latest_100 (by decide) (hp1 (t := 0) rfl (by decide)) rfl ?_
      refine a_goto (tgt := 33) (pc := 102) dX9_latest_102 (by decide) ?_
      exact a_msk [true, true, true, true, true, true, true, false, false] rfl h
theorem E_R_latest {l1 l2 l3 l4 : Int} {M : Mem} {Q : Int → Mem → Prop} (h : AW mX9_latest 0 [(2, 275), (0, l1), (0, l2), (0, l3), (0, l4), (9, 0), (9, 0), (9, 0), (9, 0)] M Q) : Calls mX9_latest [(2, 275), (0, l1), (0, l2), (0, l3), (0, l4)] S0 M Q := calls_of (by decide) (by decide) (Nat.le_of_ble_eq_true rfl) rfl h
set_option maxRecDepth 100000 in
set_option maxHeartbeats 4000000 in
theorem B_R_profile_0 {l1 l2 l3 l4 l5 l6 : Int} {M : Mem} {Q : Int → Mem → Prop} (h : ((l1 < 0 → Q (-1) (up2 M 275 8 0)) ∧ (¬ (l1 < 0) → ((11 < l1 → Q (-1) (up2 M 275 8 0)) ∧ (¬ (11 < l1) → ((l2 < 0 → Q (-1) (up2 M 275 8 0)) ∧ (¬ (l2 < 0) → ((11 < l2 → Q (-1) (up2 M 275 8 0)) ∧ (¬ (11 < l2) → (((-1) ≤ l6 → ((l3 < 0 → Q (-2) (up2 M 275 8 0)) ∧ (¬ (l3 < 0) → ((6 < l3 → Q (-2) (up2 M 275 8 0)) ∧ (¬ (6 < l3) → ((l4 < 0 → Q (-2) (up2 M 275 8 0)) ∧ (¬ (l4 < 0) → ((1999 < l4 → Q (-2) (up2 M 275 8 0)) ∧ (¬ (1999 < l4) → ((l5 < 0 → Q (-2) (up2 M 275 8 0)) ∧ (¬ (l5 < 0) → ((1999 < l5 → Q (-2) (up2 M 275 8 0)) ∧ (¬ (1999 < l5) → ((l5 < l4 → Q (-2) (up2 M 275 8 0)) ∧ (¬ (l5 < l4) → (-2147483648 ≤ l5 - l4 ∧ l5 - l4 ≤ 2147483647) ∧ (((l5 - l4) < 100 → Calls mX9_layRounds [(2, 275), (0, l1), (0, l4)] S0 (up2 M 275 8 0) (fun r15 M16 => (-2147483648 ≤ 12 * l3 ∧ 12 * l3 ≤ 2147483647) ∧ (-2147483648 ≤ (12 * l3) + l2 ∧ (12 * l3) + l2 ≤ 2147483647) ∧ ((0 : Int) ≤ (12 * l3) + l2 ∧ (12 * l3) + l2 < 84) ∧ AW mX9_profile 97 [(2, 275), (0, l1), (0, l2), (0, l3), (9, 0), (0, l5), (0, l6), (0, 0), (0, (-5)), (0, M16 284 ((12 * l3) + l2)), (0, l4), (9, 0)] M16 Q)) ∧ (¬ ((l5 - l4) < 100) → Q (-2) (up2 M 275 8 0)))))))))))))))))) ∧ (¬ ((-1) ≤ l6) → Q (-1) (up2 M 275 8 0)))))))))))) : AW mX9_profile 0 [(2, 275), (0, l1), (0, l2), (0, l3), (0, l4), (0, l5), (0, l6), (9, 0), (9, 0), (9, 0), (9, 0), (9, 0)] M Q := by
  refine a_aload_n (pc := 0) dX9_profile_0 (by decide) rfl ?_
  refine a_iconst (pc := 1) dX9_profile_1 (by decide) ?_
  refine a_putI (y := 8) (pc := 2) dX9_profile_2 fl_RX9_87 (by decide) s0_275 rfl rfl (tyX9_ok 8 (by decide)) rfl ?_
  refine a_iload_n (pc := 5) dX9_profile_5 rfl ?_
  refine p_inlS (Ex := _) (As := [(0, l1)]) (st := []) (st1 := fun r => [(0, r)])  (pc := 6) dX9_profile_6 ml_RX9_260 (by decide) (Nat.le_of_ble_eq_true rfl) rfl (fun _ => rfl) (by decide) (by decide) (Nat.le_of_ble_eq_true rfl) rfl ?_
  refine a_iload_n (pc := 0) dX9_isStop_0 rfl ?_
  refine a_i2l (pc := 1) dX9_isStop_1 ?_
  refine a_lconst (v := 0) (pc := 2) dX9_isStop_2 rfl ?_
  refine a_ldc2 (v := 11) (pc := 3) dX9_isStop_3 kc_RX9_90 (by decide) ?_
  refine p_inlS (Ex := _) (As := [(1, l1), (1, 0), (1, 11)]) (st := []) (st1 := fun r => [(0, r)])  (pc := 6) dX9_isStop_6 ml_RX9_92 (by decide) (Nat.le_of_ble_eq_true rfl) rfl (fun _ => rfl) (by decide) (by decide) (Nat.le_of_ble_eq_true rfl) rfl ?_
  refine a_lload_n (pc := 0) dX9_in_0 rfl ?_
  refine a_lload_n (pc := 1) dX9_in_1 rfl ?_
  refine a_lcmp_lt (tgt := 17) (pc := 2) dX9_in_2 dX9_in_3 (by decide) (fun hc1 => ?_) (fun hc1 => ?_)
  · replace h := h.1 hc1
    refine a_iconst (pc := 17) dX9_in_17 (by decide) ?_
    refine a_iretz (pc := 18) dX9_in_18 rfl rfl (Nat.le_of_ble_eq_true rfl) (by decide) ⟨rfl, ?_⟩
    refine a_iretz (pc := 9) dX9_isStop_9 rfl rfl (Nat.le_of_ble_eq_true rfl) (by decide) ⟨rfl, ?_⟩
    refine a_if_eq (tgt := 25) (pc := 9) dX9_profile_9 (by decide) (fun _ => ?_) (fun hc => absurd (by decide) hc)
    refine a_iconst (pc := 25) dX9_profile_25 (by decide) ?_
    exact a_ireti (pc := 26) dX9_profile_26 rfl rfl (Nat.le_of_ble_eq_true rfl) ⟨rfl, h⟩
  · replace h := h.2 hc1
    refine a_lload_n (pc := 6) dX9_in_6 rfl ?_
    refine a_lload (pc := 7) dX9_in_7 rfl ?_
    refine a_lcmp_gt (tgt := 17) (pc := 9) dX9_in_9 dX9_in_10 (by decide) (fun hc2 => ?_) (fun hc2 => ?_)
    · replace h := h.1 hc2
      refine a_iconst (pc := 17) dX9_in_17 (by decide) ?_
      refine a_iretz (pc := 18) dX9_in_18 rfl rfl (Nat.le_of_ble_eq_true rfl) (by decide) ⟨rfl, ?_⟩
      refine a_iretz (pc := 9) dX9_isStop_9 rfl rfl (Nat.le_of_ble_eq_true rfl) (by decide) ⟨rfl, ?_⟩
      refine a_if_eq (tgt := 25) (pc := 9) dX9_profile_9 (by decide) (fun _ => ?_) (fun hc => absurd (by decide) hc)
      refine a_iconst (pc := 25) dX9_profile_25 (by decide) ?_
      exact a_ireti (pc := 26) dX9_profile_26 rfl rfl (Nat.le_of_ble_eq_true rfl) ⟨rfl, h⟩
    · replace h := h.2 hc2
      refine a_iconst (pc := 13) dX9_in_13 (by decide) ?_
      refine a_goto (tgt := 18) (pc := 14) dX9_in_14 (by decide) ?_
      refine a_iretz (pc := 18) dX9_in_18 rfl rfl (Nat.le_of_ble_eq_true rfl) (by decide) ⟨rfl, ?_⟩
      refine a_iretz (pc := 9) dX9_isStop_9 rfl rfl (Nat.le_of_ble_eq_true rfl) (by decide) ⟨rfl, ?_⟩
      refine a_if_eq (tgt := 25) (pc := 9) dX9_profile_9 (by decide) (fun hc => absurd hc (by decide)) (fun _ => ?_)
      refine a_iload_n (pc := 12) dX9_profile_12 rfl ?_
      refine p_inlS (Ex := _) (As := [(0, l2)]) (st := []) (st1 := fun r => [(0, r)])  (pc := 13) dX9_profile_13 ml_RX9_260 (by decide) (Nat.le_of_ble_eq_true rfl) rfl (fun _ => rfl) (by decide) (by decide) (Nat.le_of_ble_eq_true rfl) rfl ?_
      refine a_iload_n (pc := 0) dX9_isStop_0 rfl ?_
      refine a_i2l (pc := 1) dX9_isStop_1 ?_
      refine a_lconst (v := 0) (pc := 2) dX9_isStop_2 rfl ?_
      refine a_ldc2 (v := 11) (pc := 3) dX9_isStop_3 kc_RX9_90 (by decide) ?_
      refine p_inlS (Ex := _) (As := [(1, l2), (1, 0), (1, 11)]) (st := []) (st1 := fun r => [(0, r)])  (pc := 6) dX9_isStop_6 ml_RX9_92 (by decide) (Nat.le_of_ble_eq_true rfl) rfl (fun _ => rfl) (by decide) (by decide) (Nat.le_of_ble_eq_true rfl) rfl ?_
      refine a_lload_n (pc := 0) dX9_in_0 rfl ?_
      refine a_lload_n (pc := 1) dX9_in_1 rfl ?_
      refine a_lcmp_lt (tgt := 17) (pc := 2) dX9_in_2 dX9_in_3 (by decide) (fun hc3 => ?_) (fun hc3 => ?_)
      · replace h := h.1 hc3
        refine a_iconst (pc := 17) dX9_in_17 (by decide) ?_
        refine a_iretz (pc := 18) dX9_in_18 rfl rfl (Nat.le_of_ble_eq_true rfl) (by decide) ⟨rfl, ?_⟩
        refine a_iretz (pc := 9) dX9_isStop_9 rfl rfl (Nat.le_of_ble_eq_true rfl) (by decide) ⟨rfl, ?_⟩
        refine a_if_eq (tgt := 25) (pc := 16) dX9_profile_16 (by decide) (fun _ => ?_) (fun hc => absurd (by decide) hc)
        refine a_iconst (pc := 25) dX9_profile_25 (by decide) ?_
        exact a_ireti (pc := 26) dX9_profile_26 rfl rfl (Nat.le_of_ble_eq_true rfl) ⟨rfl, h⟩
      · replace h := h.2 hc3
        refine a_lload_n (pc := 6) dX9_in_6 rfl ?_
        refine a_lload (pc := 7) dX9_in_7 rfl ?_
        refine a_lcmp_gt (tgt := 17) (pc := 9) dX9_in_9 dX9_in_10 (by decide) (fun hc4 => ?_) (fun hc4 => ?_)
        · replace h := h.1 hc4
          refine a_iconst (pc := 17) dX9_in_17 (by decide) ?_
          refine a_iretz (pc := 18) dX9_in_18 rfl rfl (Nat.le_of_ble_eq_true rfl) (by decide) ⟨rfl, ?_⟩
          refine a_iretz (pc := 9) dX9_isStop_9 rfl rfl (Nat.le_of_ble_eq_true rfl) (by decide) ⟨rfl, ?_⟩
          refine a_if_eq (tgt := 25) (pc := 16) dX9_profile_16 (by decide) (fun _ => ?_) (fun hc => absurd (by decide) hc)
          refine a_iconst (pc := 25) dX9_profile_25 (by decide) ?_
          exact a_ireti (pc := 26) dX9_profile_26 rfl rfl (Nat.le_of_ble_eq_true rfl) ⟨rfl, h⟩
        · replace h := h.2 hc4
          refine a_iconst (pc := 13) dX9_in_13 (by decide) ?_
          refine a_goto (tgt := 18) (pc := 14) dX9_in_14 (by decide) ?_
          refine a_iretz (pc := 18) dX9_in_18 rfl rfl (Nat.le_of_ble_eq_true rfl) (by decide) ⟨rfl, ?_⟩
          refine a_iretz (pc := 9) dX9_isStop_9 rfl rfl (Nat.le_of_ble_eq_true rfl) (by decide) ⟨rfl, ?_⟩
          refine a_if_eq (tgt := 25) (pc := 16) dX9_profile_16 (by decide) (fun hc => absurd hc (by decide)) (fun _ => ?_)
          refine a_iload (pc := 19) dX9_profile_19 rfl ?_
          refine a_iconst (pc := 21) dX9_profile_21 (by decide) ?_
          refine a_icmp_ge (tgt := 27) (pc := 22) dX9_profile_22 (by decide) (fun hc5 => ?_) (fun hc5 => ?_)
          · replace h := h.1 hc5
            refine a_iload_n (pc := 27) dX9_profile_27 rfl ?_
            refine a_i2l (pc := 28) dX9_profile_28 ?_
            refine a_lconst (v := 0) (pc := 29) dX9_profile_29 rfl ?_
            refine a_ldc2 (v := 6) (pc := 30) dX9_profile_30 kc_RX9_276 (by decide) ?_
            refine p_inlS (Ex := _) (As := [(1, l3), (1, 0), (1, 6)]) (st := []) (st1 := fun r => [(0, r)])  (pc := 33) dX9_profile_33 ml_RX9_92 (by decide) (Nat.le_of_ble_eq_true rfl) rfl (fun _ => rfl) (by decide) (by decide) (Nat.le_of_ble_eq_true rfl) rfl ?_
            refine a_lload_n (pc := 0) dX9_in_0 rfl ?_
            refine a_lload_n (pc := 1) dX9_in_1 rfl ?_
            refine a_lcmp_lt (tgt := 17) (pc := 2) dX9_in_2 dX9_in_3 (by decide) (fun hc6 => ?_) (fun hc6 => ?_)
            · replace h := h.1 hc6
              refine a_iconst (pc := 17) dX9_in_17 (by decide) ?_
              refine a_iretz (pc := 18) dX9_in_18 rfl rfl (Nat.le_of_ble_eq_true rfl) (by decide) ⟨rfl, ?_⟩
              refine a_if_eq (tgt := 72) (pc := 36) dX9_profile_36 (by decide) (fun _ => ?_) (fun hc => absurd (by decide) hc)
              refine a_bipush (pc := 72) dX9_profile_72 (by decide) (by decide +kernel) ?_
              exact a_ireti (pc := 74) dX9_profile_74 rfl rfl (Nat.le_of_ble_eq_true rfl) ⟨rfl, h⟩
            · replace h := h.2 hc6
              refine a_lload_n (pc := 6) dX9_in_6 rfl ?_
              refine a_lload (pc := 7) dX9_in_7 rfl ?_
              refine a_lcmp_gt (tgt := 17) (pc := 9) dX9_in_9 dX9_in_10 (by decide) (fun hc7 => ?_) (fun hc7 => ?_)
              · replace h := h.1 hc7
                refine a_iconst (pc := 17) dX9_in_17 (by decide) ?_
                refine a_iretz (pc := 18) dX9_in_18 rfl rfl (Nat.le_of_ble_eq_true rfl) (by decide) ⟨rfl, ?_⟩
                refine a_if_eq (tgt := 72) (pc := 36) dX9_profile_36 (by decide) (fun _ => ?_) (fun hc => absurd (by decide) hc)
                refine a_bipush (pc := 72) dX9_profile_72 (by decide) (by decide +kernel) ?_
                exact a_ireti (pc := 74) dX9_profile_74 rfl rfl (Nat.le_of_ble_eq_true rfl) ⟨rfl, h⟩
              · replace h := h.2 hc7
                refine a_iconst (pc := 13) dX9_in_13 (by decide) ?_
                refine a_goto (tgt := 18) (pc := 14) dX9_in_14 (by decide) ?_
                refine a_iretz (pc := 18) dX9_in_18 rfl rfl (Nat.le_of_ble_eq_true rfl) (by decide) ⟨rfl, ?_⟩
                refine a_if_eq (tgt := 72) (pc := 36) dX9_profile_36 (by decide) (fun hc => absurd hc (by decide)) (fun _ => ?_)
                refine a_iload (pc := 39) dX9_profile_39 rfl ?_
                refine p_inlS (Ex := _) (As := [(0, l4)]) (st := []) (st1 := fun r => [(0, r)])  (pc := 41) dX9_profile_41 ml_RX9_273 (by decide) (Nat.le_of_ble_eq_true rfl) rfl (fun _ => rfl) (by decide) (by decide) (Nat.le_of_ble_eq_true rfl) rfl ?_
                refine a_iload_n (pc := 0) dX9_isMinute_0 rfl ?_
                refine a_i2l (pc := 1) dX9_isMinute_1 ?_
                refine a_lconst (v := 0) (pc := 2) dX9_isMinute_2 rfl ?_
                refine a_ldc2 (v := 1999) (pc := 3) dX9_isMinute_3 kc_RX9_96 (by decide) ?_
                refine p_inlS (Ex := _) (As := [(1, l4), (1, 0), (1, 1999)]) (st := []) (st1 := fun r => [(0, r)])  (pc := 6) dX9_isMinute_6 ml_RX9_92 (by decide) (Nat.le_of_ble_eq_true rfl) rfl (fun _ => rfl) (by decide) (by decide) (Nat.le_of_ble_eq_true rfl) rfl ?_
                refine a_lload_n (pc := 0) dX9_in_0 rfl ?_
                refine a_lload_n (pc := 1) dX9_in_1 rfl ?_
                refine a_lcmp_lt (tgt := 17) (pc := 2) dX9_in_2 dX9_in_3 (by decide) (fun hc8 => ?_) (fun hc8 => ?_)
                · replace h := h.1 hc8
                  refine a_iconst (pc := 17) dX9_in_17 (by decide) ?_
                  refine a_iretz (pc := 18) dX9_in_18 rfl rfl (Nat.le_of_ble_eq_true rfl) (by decide) ⟨rfl, ?_⟩
                  refine a_iretz (pc := 9) dX9_isMinute_9 rfl rfl (Nat.le_of_ble_eq_true rfl) (by decide) ⟨rfl, ?_⟩
                  refine a_if_eq (tgt := 72) (pc := 44) dX9_profile_44 (by decide) (fun _ => ?_) (fun hc => absurd (by decide) hc)
                  refine a_bipush (pc := 72) dX9_profile_72 (by decide) (by decide +kernel) ?_
                  exact a_ireti (pc := 74) dX9_profile_74 rfl rfl (Nat.le_of_ble_eq_true rfl) ⟨rfl, h⟩
                · replace h := h.2 hc8
                  refine a_lload_n (pc := 6) dX9_in_6 rfl ?_
                  refine a_lload (pc := 7) dX9_in_7 rfl ?_
                  refine a_lcmp_gt (tgt := 17) (pc := 9) dX9_in_9 dX9_in_10 (by decide) (fun hc9 => ?_) (fun hc9 => ?_)
                  · replace h := h.1 hc9
                    refine a_iconst (pc := 17) dX9_in_17 (by decide) ?_
                    refine a_iretz (pc := 18) dX9_in_18 rfl rfl (Nat.le_of_ble_eq_true rfl) (by decide) ⟨rfl, ?_⟩
                    refine a_iretz (pc := 9) dX9_isMinute_9 rfl rfl (Nat.le_of_ble_eq_true rfl) (by decide) ⟨rfl, ?_⟩
                    refine a_if_eq (tgt := 72) (pc := 44) dX9_profile_44 (by decide) (fun _ => ?_) (fun hc => absurd (by decide) hc)
                    refine a_bipush (pc := 72) dX9_profile_72 (by decide) (by decide +kernel) ?_
                    exact a_ireti (pc := 74) dX9_profile_74 rfl rfl (Nat.le_of_ble_eq_true rfl) ⟨rfl, h⟩
                  · replace h := h.2 hc9
                    refine a_iconst (pc := 13) dX9_in_13 (by decide) ?_
                    refine a_goto (tgt := 18) (pc := 14) dX9_in_14 (by decide) ?_
                    refine a_iretz (pc := 18) dX9_in_18 rfl rfl (Nat.le_of_ble_eq_true rfl) (by decide) ⟨rfl, ?_⟩
                    refine a_iretz (pc := 9) dX9_isMinute_9 rfl rfl (Nat.le_of_ble_eq_true rfl) (by decide) ⟨rfl, ?_⟩
                    refine a_if_eq (tgt := 72) (pc := 44) dX9_profile_44 (by decide) (fun hc => absurd hc (by decide)) (fun _ => ?_)
                    refine a_iload (pc := 47) dX9_profile_47 rfl ?_
                    refine p_inlS (Ex := _) (As := [(0, l5)]) (st := []) (st1 := fun r => [(0, r)])  (pc := 49) dX9_profile_49 ml_RX9_273 (by decide) (Nat.le_of_ble_eq_true rfl) rfl (fun _ => rfl) (by decide) (by decide) (Nat.le_of_ble_eq_true rfl) rfl ?_
                    refine a_iload_n (pc := 0) dX9_isMinute_0 rfl ?_
                    refine a_i2l (pc := 1) dX9_isMinute_1 ?_
                    refine a_lconst (v := 0) (pc := 2) dX9_isMinute_2 rfl ?_
                    refine a_ldc2 (v := 1999) (pc := 3) dX9_isMinute_3 kc_RX9_96 (by decide) ?_
                    refine p_inlS (Ex := _) (As := [(1, l5), (1, 0), (1, 1999)]) (st := []) (st1 := fun r => [(0, r)])  (pc := 6) dX9_isMinute_6 ml_RX9_92 (by decide) (Nat.le_of_ble_eq_true rfl) rfl (fun _ => rfl) (by decide) (by decide) (Nat.le_of_ble_eq_true rfl) rfl ?_
                    refine a_lload_n (pc := 0) dX9_in_0 rfl ?_
                    refine a_lload_n (pc := 1) dX9_in_1 rfl ?_
                    refine a_lcmp_lt (tgt := 17) (pc := 2) dX9_in_2 dX9_in_3 (by decide) (fun hc10 => ?_) (fun hc10 => ?_)
                    · replace h := h.1 hc10
                      refine a_iconst (pc := 17) dX9_in_17 (by decide) ?_
                      refine a_iretz (pc := 18) dX9_in_18 rfl rfl (Nat.le_of_ble_eq_true rfl) (by decide) ⟨rfl, ?_⟩
                      refine a_iretz (pc := 9) dX9_isMinute_9 rfl rfl (Nat.le_of_ble_eq_true rfl) (by decide) ⟨rfl, ?_⟩
                      refine a_if_eq (tgt := 72) (pc := 52) dX9_profile_52 (by decide) (fun _ => ?_) (fun hc => absurd (by decide) hc)
                      refine a_bipush (pc := 72) dX9_profile_72 (by decide) (by decide +kernel) ?_
                      exact a_ireti (pc := 74) dX9_profile_74 rfl rfl (Nat.le_of_ble_eq_true rfl) ⟨rfl, h⟩
                    · replace h := h.2 hc10
                      refine a_lload_n (pc := 6) dX9_in_6 rfl ?_
                      refine a_lload (pc := 7) dX9_in_7 rfl ?_
                      refine a_lcmp_gt (tgt := 17) (pc := 9) dX9_in_9 dX9_in_10 (by decide) (fun hc11 => ?_) (fun hc11 => ?_)
                      · replace h := h.1 hc11
                        refine a_iconst (pc := 17) dX9_in_17 (by decide) ?_
                        refine a_iretz (pc := 18) dX9_in_18 rfl rfl (Nat.le_of_ble_eq_true rfl) (by decide) ⟨rfl, ?_⟩
                        refine a_iretz (pc := 9) dX9_isMinute_9 rfl rfl (Nat.le_of_ble_eq_true rfl) (by decide) ⟨rfl, ?_⟩
                        refine a_if_eq (tgt := 72) (pc := 52) dX9_profile_52 (by decide) (fun _ => ?_) (fun hc => absurd (by decide) hc)
                        refine a_bipush (pc := 72) dX9_profile_72 (by decide) (by decide +kernel) ?_
                        exact a_ireti (pc := 74) dX9_profile_74 rfl rfl (Nat.le_of_ble_eq_true rfl) ⟨rfl, h⟩
                      · replace h := h.2 hc11
                        refine a_iconst (pc := 13) dX9_in_13 (by decide) ?_
                        refine a_goto (tgt := 18) (pc := 14) dX9_in_14 (by decide) ?_
                        refine a_iretz (pc := 18) dX9_in_18 rfl rfl (Nat.le_of_ble_eq_true rfl) (by decide) ⟨rfl, ?_⟩
                        refine a_iretz (pc := 9) dX9_isMinute_9 rfl rfl (Nat.le_of_ble_eq_true rfl) (by decide) ⟨rfl, ?_⟩
                        refine a_if_eq (tgt := 72) (pc := 52) dX9_profile_52 (by decide) (fun hc => absurd hc (by decide)) (fun _ => ?_)
                        refine a_iload (pc := 55) dX9_profile_55 rfl ?_
                        refine a_iload (pc := 57) dX9_profile_57 rfl ?_
                        refine a_icmp_lt (tgt := 72) (pc := 59) dX9_profile_59 (by decide) (fun hc12 => ?_) (fun hc12 => ?_)
                        · replace h := h.1 hc12
                          refine a_bipush (pc := 72) dX9_profile_72 (by decide) (by decide +kernel) ?_
                          exact a_ireti (pc := 74) dX9_profile_74 rfl rfl (Nat.le_of_ble_eq_true rfl) ⟨rfl, h⟩
                        · replace h := h.2 hc12
                          refine a_iload (pc := 62) dX9_profile_62 rfl ?_
                          refine a_iload (pc := 64) dX9_profile_64 rfl ?_
                          have ho13 := h.1
                          replace h := h.2
                          refine a_isub (pc := 66) dX9_profile_66 ho13 ?_
                          refine a_bipush (pc := 67) dX9_profile_67 (by decide) (by decide +kernel) ?_
                          refine a_icmp_lt (tgt := 75) (pc := 69) dX9_profile_69 (by decide) (fun hc14 => ?_) (fun hc14 => ?_)
                          · replace h := h.1 hc14
                            refine a_iconst (pc := 75) dX9_profile_75 (by decide) ?_
                            refine a_istore (ls1 := [(2, 275), (0, l1), (0, l2), (0, l3), (0, l4), (0, l5), (0, l6), (0, 0), (9, 0), (9, 0), (9, 0), (9, 0)]) (pc := 76) dX9_profile_76 (by decide) (hp1 (t := 0) rfl (by decide)) rfl ?_
                            refine a_bipush (pc := 78) dX9_profile_78 (by decide) (by decide +kernel) ?_
                            refine a_istore (ls1 := [(2, 275), (0, l1), (0, l2), (0, l3), (0, l4), (0, l5), (0, l6), (0, 0), (0, (-5)), (9, 0), (9, 0), (9, 0)]) (pc := 80) dX9_profile_80 (by decide) (hp1 (t := 0) rfl (by decide)) rfl ?_
                            refine a_aload_n (pc := 82) dX9_profile_82 (by decide) rfl ?_
                            refine a_iload_n (pc := 83) dX9_profile_83 rfl ?_
                            refine a_iload (pc := 84) dX9_profile_84 rfl ?_
                            refine a_iload_n (pc := 86) dX9_profile_86 rfl ?_
                            refine a_iload_n (pc := 87) dX9_profile_87 rfl ?_
                            refine p_inlV (Ex := _) (As := [(0, l1), (0, l4), (0, l2), (0, l3)]) (st := []) (st1 := fun r => [(0, r)])  (pc := 88) dX9_profile_88 ml_RX9_282 (by decide) s0_275 rfl (by decide) (Nat.le_of_ble_eq_true rfl) rfl (fun _ => rfl) (by decide) (by decide) (Nat.le_of_ble_eq_true rfl) rfl ?_
                            refine a_aload_n (pc := 0) dX9_earliestOf_0 (by decide) rfl ?_
                            refine a_iload_n (pc := 1) dX9_earliestOf_1 rfl ?_
                            refine a_iload_n (pc := 2) dX9_earliestOf_2 rfl ?_
                            refine p_callV (As := [(0, l1), (0, l4)]) (st := []) (st1 := fun r => [])  (pc := 3) dX9_earliestOf_3 ml_RX9_138 (by decide) s0_275 rfl (by decide) (Nat.le_of_ble_eq_true rfl) rfl (fun _ => rfl) h (fun r15 M16 h => ?_)
                            refine a_aload_n (pc := 6) dX9_earliestOf_6 (by decide) rfl ?_
                            refine a_getR (y := 284) (pc := 7) dX9_earliestOf_7 fl_RX9_41 (by decide) s0_275 rfl rfl ?_
                            refine a_bipush (pc := 10) dX9_earliestOf_10 (by decide) (by decide +kernel) ?_
                            refine a_iload (pc := 12) dX9_earliestOf_12 rfl ?_
                            have ho17 := h.1
                            replace h := h.2
                            refine a_imul (pc := 14) dX9_earliestOf_14 ho17 ?_
                            refine a_iload_n (pc := 15) dX9_earliestOf_15 rfl ?_
                            have ho18 := h.1
                            replace h := h.2
                            refine a_iadd (pc := 16) dX9_earliestOf_16 ho18 ?_
                            have ho19 := h.1
                            replace h := h.2
                            refine a_iald (pc := 17) dX9_earliestOf_17 (by decide) s0_284 ho19.1 ho19.2 ?_
                            refine a_ireti (pc := 18) dX9_earliestOf_18 rfl rfl (Nat.le_of_ble_eq_true rfl) ⟨rfl, ?_⟩
                            refine a_istore (ls1 := [(2, 275), (0, l1), (0, l2), (0, l3), (0, l4), (0, l5), (0, l6), (0, 0), (0, (-5)), (0, M16 284 ((12 * l3) + l2)), (9, 0), (9, 0)]) (pc := 91) dX9_profile_91 (by decide) (hp1 (t := 0) rfl (by decide)) rfl ?_
                            refine a_iload (pc := 93) dX9_profile_93 rfl ?_
                            refine a_istore (ls1 := [(2, 275), (0, l1), (0, l2), (0, l3), (0, l4), (0, l5), (0, l6), (0, 0), (0, (-5)), (0, M16 284 ((12 * l3) + l2)), (0, l4), (9, 0)]) (pc := 95) dX9_profile_95 (by decide) (hp1 (t := 0) rfl (by decide)) rfl ?_
                            exact a_msk [true, true, true, true, false, true, true, true, true, true, true, true] rfl h
                          · replace h := h.2 hc14
                            refine a_bipush (pc := 72) dX9_profile_72 (by decide) (by decide +kernel) ?_
                            exact a_ireti (pc := 74) dX9_profile_74 rfl rfl (Nat.le_of_ble_eq_true rfl) ⟨rfl, h⟩
          · replace h := h.2 hc5
            refine a_iconst (pc := 25) dX9_profile_25 (by decide) ?_
            exact a_ireti (pc := 26) dX9_profile_26 rfl rfl (Nat.le_of_ble_eq_true rfl) ⟨rfl, h⟩
set_option maxRecDepth 100000 in
set_option maxHeartbeats 4000000 in
theorem B_R_profile_97 {l1 l2 l3 l5 l6 l7 l8 l9 l10 : Int} {M : Mem} {Q : Int → Mem → Prop} (h : ((l5 < l10 → ((¬ l6 = (-1) → Q l8 M) ∧ (l6 = (-1) → Q l7 M))) ∧ (¬ (l5 < l10) → (-2147483648 ≤ l10 + 1 ∧ l10 + 1 ≤ 2147483647) ∧ Calls mX9_layRounds [(2, 275), (0, l1), (0, l10 + 1)] S0 M (fun r4 M5 => (-2147483648 ≤ 12 * l3 ∧ 12 * l3 ≤ 2147483647) ∧ (-2147483648 ≤ (12 * l3) + l2 ∧ (12 * l3) + l2 ≤ 2147483647) ∧ ((0 : Int) ≤ (12 * l3) + l2 ∧ (12 * l3) + l2 < 84) ∧ ((100000000 ≤ l9 → AW mX9_profile 97 [(2, 275), (0, l1), (0, l2), (0, l3), (9, 0), (0, l5), (0, l6), (0, l7), (0, l8), (0, M5 284 ((12 * l3) + l2)), (0, l10 + 1), (9, 0)] M5 Q) ∧ (¬ (100000000 ≤ l9) → (((M5 284 ((12 * l3) + l2)) ≤ l9 → AW mX9_profile 97 [(2, 275), (0, l1), (0, l2), (0, l3), (9, 0), (0, l5), (0, l6), (0, l7), (0, l8), (0, M5 284 ((12 * l3) + l2)), (0, l10 + 1), (9, 0)] M5 Q) ∧ (¬ ((M5 284 ((12 * l3) + l2)) ≤ l9) → ((¬ l7 = l6 → (-2147483648 ≤ l7 + 1 ∧ l7 + 1 ≤ 2147483647) ∧ AW mX9_profile 97 [(2, 275), (0, l1), (0, l2), (0, l3), (9, 0), (0, l5), (0, l6), (0, l7 + 1), (0, l8), (0, M5 284 ((12 * l3) + l2)), (0, l10 + 1), (9, 0)] M5 Q) ∧ (l7 = l6 → (-2147483648 ≤ l7 + 1 ∧ l7 + 1 ≤ 2147483647) ∧ AW mX9_profile 97 [(2, 275), (0, l1), (0, l2), (0, l3), (9, 0), (0, l5), (0, l6), (0, l7 + 1), (0, l10), (0, M5 284 ((12 * l3) + l2)), (0, l10 + 1), (9, 0)] M5 Q)))))))))) : AW mX9_profile 97 [(2, 275), (0, l1), (0, l2), (0, l3), (9, 0), (0, l5), (0, l6), (0, l7), (0, l8), (0, l9), (0, l10), (9, 0)] M Q := by
  refine a_iload (pc := 97) dX9_profile_97 rfl ?_
  refine a_iload (pc := 99) dX9_profile_99 rfl ?_
  refine a_icmp_gt (tgt := 160) (pc := 101) dX9_profile_101 (by decide) (fun hc1 => ?_) (fun hc1 => ?_)
  · replace h := h.1 hc1
    refine a_iload (pc := 160) dX9_profile_160 rfl ?_
    refine a_iconst (pc := 162) dX9_profile_162 (by decide) ?_
    refine a_icmp_ne (tgt := 171) (pc := 163) dX9_profile_163 (by decide) (fun hc2 => ?_) (fun hc2 => ?_)
    · replace h := h.1 hc2
      refine a_iload (pc := 171) dX9_profile_171 rfl ?_
      exact a_ireti (pc := 173) dX9_profile_173 rfl rfl (Nat.le_of_ble_eq_true rfl) ⟨rfl, h⟩
    · replace h := h.2 hc2
      refine a_iload (pc := 166) dX9_profile_166 rfl ?_
      refine a_goto (tgt := 173) (pc := 168) dX9_profile_168 (by decide) ?_
      exact a_ireti (pc := 173) dX9_profile_173 rfl rfl (Nat.le_of_ble_eq_true rfl) ⟨rfl, h⟩
  · replace h := h.2 hc1
    refine a_aload_n (pc := 104) dX9_profile_104 (by decide) rfl ?_
    refine a_iload_n (pc := 105) dX9_profile_105 rfl ?_
    refine a_iload (pc := 106) dX9_profile_106 rfl ?_
    refine a_iconst (pc := 108) dX9_profile_108 (by decide) ?_
    have ho3 := h.1
    replace h := h.2
    refine a_iadd (pc := 109) dX9_profile_109 ho3 ?_
    refine a_iload_n (pc := 110) dX9_profile_110 rfl ?_
    refine a_iload_n (pc := 111) dX9_profile_111 rfl ?_
    refine p_inlV (Ex := _) (As := [(0, l1), (0, l10 + 1), (0, l2), (0, l3)]) (st := []) (st1 := fun r => [(0, r)])  (pc := 112) dX9_profile_112 ml_RX9_282 (by decide) s0_275 rfl (by decide) (Nat.le_of_ble_eq_true rfl) rfl (fun _ => rfl) (by decide) (by decide) (Nat.le_of_ble_eq_true rfl) rfl ?_
    refine a_aload_n (pc := 0) dX9_earliestOf_0 (by decide) rfl ?_
    refine a_iload_n (pc := 1) dX9_earliestOf_1 rfl ?_
    refine a_iload_n (pc := 2) dX9_earliestOf_2 rfl ?_
    refine p_callV (As := [(0, l1), (0, l10 + 1)]) (st := []) (st1 := fun r => [])  (pc := 3) dX9_earliestOf_3 ml_RX9_138 (by decide) s0_275 rfl (by decide) (Nat.le_of_ble_eq_true rfl) rfl (fun _ => rfl) h (fun r4 M5 h => ?_)
    refine a_aload_n (pc := 6) dX9_earliestOf_6 (by decide) rfl ?_
    refine a_getR (y := 284) (pc := 7) dX9_earliestOf_7 fl_RX9_41 (by decide) s0_275 rfl rfl ?_
    refine a_bipush (pc := 10) dX9_earliestOf_10 (by decide) (by decide +kernel) ?_
    refine a_iload (pc := 12) dX9_earliestOf_12 rfl ?_
    have ho6 := h.1
    replace h := h.2
    refine a_imul (pc := 14) dX9_earliestOf_14 ho6 ?_
    refine a_iload_n (pc := 15) dX9_earliestOf_15 rfl ?_
    have ho7 := h.1
    replace h := h.2
    refine a_iadd (pc := 16) dX9_earliestOf_16 ho7 ?_
    have ho8 := h.1
    replace h := h.2
    refine a_iald (pc := 17) dX9_earliestOf_17 (by decide) s0_284 ho8.1 ho8.2 ?_
    refine a_ireti (pc := 18) dX9_earliestOf_18 rfl rfl (Nat.le_of_ble_eq_true rfl) ⟨rfl, ?_⟩
    refine a_istore (ls1 := [(2, 275), (0, l1), (0, l2), (0, l3), (9, 0), (0, l5), (0, l6), (0, l7), (0, l8), (0, l9), (0, l10), (0, M5 284 ((12 * l3) + l2))]) (pc := 115) dX9_profile_115 (by decide) (hp1 (t := 0) rfl (by decide)) rfl ?_
    refine a_iload (pc := 117) dX9_profile_117 rfl ?_
    refine a_ldc (v := 100000000) (pc := 119) dX9_profile_119 kc_RX9_112 (by decide) ?_
    refine a_icmp_ge (tgt := 150) (pc := 121) dX9_profile_121 (by decide) (fun hc9 => ?_) (fun hc9 => ?_)
    · replace h := h.1 hc9
      refine a_iload (pc := 150) dX9_profile_150 rfl ?_
      refine a_istore (ls1 := [(2, 275), (0, l1), (0, l2), (0, l3), (9, 0), (0, l5), (0, l6), (0, l7), (0, l8), (0, M5 284 ((12 * l3) + l2)), (0, l10), (0, M5 284 ((12 * l3) + l2))]) (pc := 152) dX9_profile_152 (by decide) (hp1 (t := 0) rfl (by decide)) rfl ?_
      refine a_iinc (ls1 := [(2, 275), (0, l1), (0, l2), (0, l3), (9, 0), (0, l5), (0, l6), (0, l7), (0, l8), (0, M5 284 ((12 * l3) + l2)), (0, l10 + 1), (0, M5 284 ((12 * l3) + l2))]) (pc := 154) dX9_profile_154 rfl (by decide) (hp1 (t := 0) rfl (by decide)) ho3 rfl ?_
      refine a_goto (tgt := 97) (pc := 157) dX9_profile_157 (by decide) ?_
      exact a_msk [true, true, true, true, true, true, true, true, true, true, true, false] rfl h
    · replace h := h.2 hc9
      refine a_iload (pc := 124) dX9_profile_124 rfl ?_
      refine a_iload (pc := 126) dX9_profile_126 rfl ?_
      refine a_icmp_ge (tgt := 150) (pc := 128) dX9_profile_128 (by decide) (fun hc10 => ?_) (fun hc10 => ?_)
      · replace h := h.1 hc10
        refine a_iload (pc := 150) dX9_profile_150 rfl ?_
        refine a_istore (ls1 := [(2, 275), (0, l1), (0, l2), (0, l3), (9, 0), (0, l5), (0, l6), (0, l7), (0, l8), (0, M5 284 ((12 * l3) + l2)), (0, l10), (0, M5 284 ((12 * l3) + l2))]) (pc := 152) dX9_profile_152 (by decide) (hp1 (t := 0) rfl (by decide)) rfl ?_
        refine a_iinc (ls1 := [(2, 275), (0, l1), (0, l2), (0, l3), (9, 0), (0, l5), (0, l6), (0, l7), (0, l8), (0, M5 284 ((12 * l3) + l2)), (0, l10 + 1), (0, M5 284 ((12 * l3) + l2))]) (pc := 154) dX9_profile_154 rfl (by decide) (hp1 (t := 0) rfl (by decide)) ho3 rfl ?_
        refine a_goto (tgt := 97) (pc := 157) dX9_profile_157 (by decide) ?_
        exact a_msk [true, true, true, true, true, true, true, true, true, true, true, false] rfl h
      · replace h := h.2 hc10
        refine a_iload (pc := 131) dX9_profile_131 rfl ?_
        refine a_iload (pc := 133) dX9_profile_133 rfl ?_
        refine a_icmp_ne (tgt := 143) (pc := 135) dX9_profile_135 (by decide) (fun hc11 => ?_) (fun hc11 => ?_)
        · replace h := h.1 hc11
          refine a_iload (pc := 143) dX9_profile_143 rfl ?_
          refine a_istore (ls1 := [(2, 275), (0, l1), (0, l2), (0, l3), (9, 0), (0, l5), (0, l6), (0, l7), (0, l8), (0, l9), (0, l10), (0, M5 284 ((12 * l3) + l2))]) (pc := 145) dX9_profile_145 (by decide) (hp1 (t := 0) rfl (by decide)) rfl ?_
          have ho12 := h.1
          replace h := h.2
          refine a_iinc (ls1 := [(2, 275), (0, l1), (0, l2), (0, l3), (9, 0), (0, l5), (0, l6), (0, l7 + 1), (0, l8), (0, l9), (0, l10), (0, M5 284 ((12 * l3) + l2))]) (pc := 147) dX9_profile_147 rfl (by decide) (hp1 (t := 0) rfl (by decide)) ho12 rfl ?_
          refine a_iload (pc := 150) dX9_profile_150 rfl ?_
          refine a_istore (ls1 := [(2, 275), (0, l1), (0, l2), (0, l3), (9, 0), (0, l5), (0, l6), (0, l7 + 1), (0, l8), (0, M5 284 ((12 * l3) + l2)), (0, l10), (0, M5 284 ((12 * l3) + l2))]) (pc := 152) dX9_profile_152 (by decide) (hp1 (t := 0) rfl (by decide)) rfl ?_
          refine a_iinc (ls1 := [(2, 275), (0, l1), (0, l2), (0, l3), (9, 0), (0, l5), (0, l6), (0, l7 + 1), (0, l8), (0, M5 284 ((12 * l3) + l2)), (0, l10 + 1), (0, M5 284 ((12 * l3) + l2))]) (pc := 154) dX9_profile_154 rfl (by decide) (hp1 (t := 0) rfl (by decide)) ho3 rfl ?_
          refine a_goto (tgt := 97) (pc := 157) dX9_profile_157 (by decide) ?_
          exact a_msk [true, true, true, true, true, true, true, true, true, true, true, false] rfl h
        · replace h := h.2 hc11
          refine a_iload (pc := 138) dX9_profile_138 rfl ?_
          refine a_goto (tgt := 145) (pc := 140) dX9_profile_140 (by decide) ?_
          refine a_istore (ls1 := [(2, 275), (0, l1), (0, l2), (0, l3), (9, 0), (0, l5), (0, l6), (0, l7), (0, l10), (0, l9), (0, l10), (0, M5 284 ((12 * l3) + l2))]) (pc := 145) dX9_profile_145 (by decide) (hp1 (t := 0) rfl (by decide)) rfl ?_
          have ho13 := h.1
          replace h := h.2
          refine a_iinc (ls1 := [(2, 275), (0, l1), (0, l2), (0, l3), (9, 0), (0, l5), (0, l6), (0, l7 + 1), (0, l10), (0, l9), (0, l10), (0, M5 284 ((12 * l3) + l2))]) (pc := 147) dX9_profile_147 rfl (by decide) (hp1 (t := 0) rfl (by decide)) ho13 rfl ?_
          refine a_iload (pc := 150) dX9_profile_150 rfl ?_
          refine a_istore (ls1 := [(2, 275), (0, l1), (0, l2), (0, l3), (9, 0), (0, l5), (0, l6), (0, l7 + 1), (0, l10), (0, M5 284 ((12 * l3) + l2)), (0, l10), (0, M5 284 ((12 * l3) + l2))]) (pc := 152) dX9_profile_152 (by decide) (hp1 (t := 0) rfl (by decide)) rfl ?_
          refine a_iinc (ls1 := [(2, 275), (0, l1), (0, l2), (0, l3), (9, 0), (0, l5), (0, l6), (0, l7 + 1), (0, l10), (0, M5 284 ((12 * l3) + l2)), (0, l10 + 1), (0, M5 284 ((12 * l3) + l2))]) (pc := 154) dX9_profile_154 rfl (by decide) (hp1 (t := 0) rfl (by decide)) ho3 rfl ?_
          refine a_goto (tgt := 97) (pc := 157) dX9_profile_157 (by decide) ?_
          exact a_msk [true, true, true, true, true, true, true, true, true, true, true, false] rfl h
theorem E_R_profile {l1 l2 l3 l4 l5 l6 : Int} {M : Mem} {Q : Int → Mem → Prop} (h : AW mX9_profile 0 [(2, 275), (0, l1), (0, l2), (0, l3), (0, l4), (0, l5), (0, l6), (9, 0), (9, 0), (9, 0), (9, 0), (9, 0)] M Q) : Calls mX9_profile [(2, 275), (0, l1), (0, l2), (0, l3), (0, l4), (0, l5), (0, l6)] S0 M Q := calls_of (by decide) (by decide) (Nat.le_of_ble_eq_true rfl) rfl h
set_option maxRecDepth 100000 in
set_option maxHeartbeats 4000000 in
theorem B_R_layJourney_0 {l1 l2 l3 l4 : Int} {M : Mem} {Q : Int → Mem → Prop} (h : Calls mX9_layRounds [(2, 275), (0, l1), (0, l2)] S0 M (fun r1 M2 => (-2147483648 ≤ 12 * l4 ∧ 12 * l4 ≤ 2147483647) ∧ (-2147483648 ≤ (12 * l4) + l3 ∧ (12 * l4) + l3 ≤ 2147483647) ∧ ((0 : Int) ≤ (12 * l4) + l3 ∧ (12 * l4) + l3 < 84) ∧ (((M2 284 ((12 * l4) + l3)) < 100000000 → AW mX9_layJourney 41 [(2, 275), (0, l1), (9, 0), (9, 0), (9, 0), (0, l3), (0, l4), (0, M2 284 ((12 * l4) + l3)), (9, 0)] (up2 M2 275 14 0) Q) ∧ (¬ ((M2 284 ((12 * l4) + l3)) < 100000000) → Q 0 (up2 M2 275 14 0))))) : AW mX9_layJourney 0 [(2, 275), (0, l1), (0, l2), (0, l3), (0, l4), (9, 0), (9, 0), (9, 0), (9, 0)] M Q := by
  refine a_aload_n (pc := 0) dX9_layJourney_0 (by decide) rfl ?_
  refine a_iload_n (pc := 1) dX9_layJourney_1 rfl ?_
  refine a_iload_n (pc := 2) dX9_layJourney_2 rfl ?_
  refine p_callV (As := [(0, l1), (0, l2)]) (st := []) (st1 := fun r => [])  (pc := 3) dX9_layJourney_3 ml_RX9_138 (by decide) s0_275 rfl (by decide) (Nat.le_of_ble_eq_true rfl) rfl (fun _ => rfl) h (fun r1 M2 h => ?_)
  refine a_aload_n (pc := 6) dX9_layJourney_6 (by decide) rfl ?_
  refine a_iconst (pc := 7) dX9_layJourney_7 (by decide) ?_
  refine a_putI (y := 14) (pc := 8) dX9_layJourney_8 fl_RX9_155 (by decide) s0_275 rfl rfl (tyX9_ok 14 (by decide)) rfl ?_
  refine a_iload_n (pc := 11) dX9_layJourney_11 rfl ?_
  refine a_istore (ls1 := [(2, 275), (0, l1), (0, l2), (0, l3), (0, l4), (0, l3), (9, 0), (9, 0), (9, 0)]) (pc := 12) dX9_layJourney_12 (by decide) (hp1 (t := 0) rfl (by decide)) rfl ?_
  refine a_iload (pc := 14) dX9_layJourney_14 rfl ?_
  refine a_istore (ls1 := [(2, 275), (0, l1), (0, l2), (0, l3), (0, l4), (0, l3), (0, l4), (9, 0), (9, 0)]) (pc := 16) dX9_layJourney_16 (by decide) (hp1 (t := 0) rfl (by decide)) rfl ?_
  refine a_aload_n (pc := 18) dX9_layJourney_18 (by decide) rfl ?_
  refine a_getR (y := 284) (pc := 19) dX9_layJourney_19 fl_RX9_41 (by decide) s0_275 rfl rfl ?_
  refine a_bipush (pc := 22) dX9_layJourney_22 (by decide) (by decide +kernel) ?_
  refine a_iload (pc := 24) dX9_layJourney_24 rfl ?_
  have ho3 := h.1
  replace h := h.2
  refine a_imul (pc := 26) dX9_layJourney_26 ho3 ?_
  refine a_iload_n (pc := 27) dX9_layJourney_27 rfl ?_
  have ho4 := h.1
  replace h := h.2
  refine a_iadd (pc := 28) dX9_layJourney_28 ho4 ?_
  have ho5 := h.1
  replace h := h.2
  refine a_iald (pc := 29) dX9_layJourney_29 (by decide) s0_284 ho5.1 ho5.2 ?_
  refine a_eq (y := M2 284 ((12 * l4) + l3)) rfl ?_
  refine a_istore (ls1 := [(2, 275), (0, l1), (0, l2), (0, l3), (0, l4), (0, l3), (0, l4), (0, M2 284 ((12 * l4) + l3)), (9, 0)]) (pc := 30) dX9_layJourney_30 (by decide) (hp1 (t := 0) rfl (by decide)) rfl ?_
  refine a_iload (pc := 32) dX9_layJourney_32 rfl ?_
  refine a_ldc (v := 100000000) (pc := 34) dX9_layJourney_34 kc_RX9_112 (by decide) ?_
  refine a_icmp_lt (tgt := 41) (pc := 36) dX9_layJourney_36 (by decide) (fun hc6 => ?_) (fun hc6 => ?_)
  · replace h := h.1 hc6
    exact a_msk [true, true, false, false, false, true, true, true, true] rfl h
  · replace h := h.2 hc6
    refine a_iconst (pc := 39) dX9_layJourney_39 (by decide) ?_
    exact a_iretz (pc := 40) dX9_layJourney_40 rfl rfl (Nat.le_of_ble_eq_true rfl) (by decide) ⟨rfl, h⟩
set_option maxRecDepth 100000 in
set_option maxHeartbeats 4000000 in
theorem B_R_layJourney_41 {l1 l5 l6 l7 : Int} {M : Mem} {Q : Int → Mem → Prop} (h : ((l5 = l1 → Q 1 M) ∧ (¬ l5 = l1 → Calls mX9_seekRide [(2, 275), (0, l5), (0, l7), (0, l6)] S0 M (fun r2 M3 => ((r2 = 0 → Calls mX9_walkedFrom [(2, 275), (0, l5), (0, l7), (0, l6)] S0 M3 (fun r5 M6 => Calls mX9_putWalk [(2, 275), (0, r5), (0, l5), (0, l7)] S0 M6 (fun r7 M8 => (-2147483648 ≤ (M8 275 14) - 1 ∧ (M8 275 14) - 1 ≤ 2147483647) ∧ ((0 : Int) ≤ (M8 275 14) - 1 ∧ (M8 275 14) - 1 < 16) ∧ AW mX9_layJourney 41 [(2, 275), (0, l1), (9, 0), (9, 0), (9, 0), (0, r5), (0, l6), (0, M8 289 ((M8 275 14) - 1)), (9, 0)] M8 Q))) ∧ (¬ r2 = 0 → Calls mX9_putRide [(2, 275), (0, l5), (0, l7)] S0 M3 (fun r11 M12 => (-2147483648 ≤ (M12 275 14) - 1 ∧ (M12 275 14) - 1 ≤ 2147483647) ∧ ((0 : Int) ≤ (M12 275 14) - 1 ∧ (M12 275 14) - 1 < 16) ∧ (-2147483648 ≤ l6 + (-1) ∧ l6 + (-1) ≤ 2147483647) ∧ (-2147483648 ≤ 12 * (l6 + (-1)) ∧ 12 * (l6 + (-1)) ≤ 2147483647) ∧ (-2147483648 ≤ (12 * (l6 + (-1))) + (M12 287 ((M12 275 14) - 1)) ∧ (12 * (l6 + (-1))) + (M12 287 ((M12 275 14) - 1)) ≤ 2147483647) ∧ ((0 : Int) ≤ (12 * (l6 + (-1))) + (M12 287 ((M12 275 14) - 1)) ∧ (12 * (l6 + (-1))) + (M12 287 ((M12 275 14) - 1)) < 84) ∧ AW mX9_layJourney 41 [(2, 275), (0, l1), (9, 0), (9, 0), (9, 0), (0, M12 287 ((M12 275 14) - 1)), (0, l6 + (-1)), (0, M12 284 ((12 * (l6 + (-1))) + (M12 287 ((M12 275 14) - 1)))), (9, 0)] M12 Q))))))) : AW mX9_layJourney 41 [(2, 275), (0, l1), (9, 0), (9, 0), (9, 0), (0, l5), (0, l6), (0, l7), (9, 0)] M Q := by
  refine a_iload (pc := 41) dX9_layJourney_41 rfl ?_
  refine a_iload_n (pc := 43) dX9_layJourney_43 rfl ?_
  refine a_icmp_eq (tgt := 144) (pc := 44) dX9_layJourney_44 (by decide) (fun hc1 => ?_) (fun hc1 => ?_)
  · replace h := h.1 hc1
    refine a_iconst (pc := 144) dX9_layJourney_144 (by decide) ?_
    exact a_iretz (pc := 145) dX9_layJourney_145 rfl rfl (Nat.le_of_ble_eq_true rfl) (by decide) ⟨rfl, h⟩
  · replace h := h.2 hc1
    refine a_aload_n (pc := 47) dX9_layJourney_47 (by decide) rfl ?_
    refine a_iload (pc := 48) dX9_layJourney_48 rfl ?_
    refine a_iload (pc := 50) dX9_layJourney_50 rfl ?_
    refine a_iload (pc := 52) dX9_layJourney_52 rfl ?_
    refine p_callV (As := [(0, l5), (0, l7), (0, l6)]) (st := []) (st1 := fun r => [(0, r)])  (pc := 54) dX9_layJourney_54 ml_RX9_158 (by decide) s0_275 rfl (by decide) (Nat.le_of_ble_eq_true rfl) rfl (fun _ => rfl) h (fun r2 M3 h => ?_)
    refine a_if_eq (tgt := 102) (pc := 57) dX9_layJourney_57 (by decide) (fun hc4 => ?_) (fun hc4 => ?_)
    · replace h := h.1 hc4
      refine a_aload_n (pc := 102) dX9_layJourney_102 (by decide) rfl ?_
      refine a_iload (pc := 103) dX9_layJourney_103 rfl ?_
      refine a_iload (pc := 105) dX9_layJourney_105 rfl ?_
      refine a_iload (pc := 107) dX9_layJourney_107 rfl ?_
      refine p_callV (As := [(0, l5), (0, l7), (0, l6)]) (st := []) (st1 := fun r => [(0, r)])  (pc := 109) dX9_layJourney_109 ml_RX9_165 (by decide) s0_275 rfl (by decide) (Nat.le_of_ble_eq_true rfl) rfl (fun _ => rfl) h (fun r5 M6 h => ?_)
      refine a_istore (ls1 := [(2, 275), (0, l1), (9, 0), (9, 0), (9, 0), (0, l5), (0, l6), (0, l7), (0, r5)]) (pc := 112) dX9_layJourney_112 (by decide) (hp1 (t := 0) rfl (by decide)) rfl ?_
      refine a_aload_n (pc := 114) dX9_layJourney_114 (by decide) rfl ?_
      refine a_iload (pc := 115) dX9_layJourney_115 rfl ?_
      refine a_iload (pc := 117) dX9_layJourney_117 rfl ?_
      refine a_iload (pc := 119) dX9_layJourney_119 rfl ?_
      refine p_callV (As := [(0, r5), (0, l5), (0, l7)]) (st := []) (st1 := fun r => [])  (pc := 121) dX9_layJourney_121 ml_RX9_168 (by decide) s0_275 rfl (by decide) (Nat.le_of_ble_eq_true rfl) rfl (fun _ => rfl) h (fun r7 M8 h => ?_)
      refine a_iload (pc := 124) dX9_layJourney_124 rfl ?_
      refine a_istore (ls1 := [(2, 275), (0, l1), (9, 0), (9, 0), (9, 0), (0, r5), (0, l6), (0, l7), (0, r5)]) (pc := 126) dX9_layJourney_126 (by decide) (hp1 (t := 9) rfl (by decide)) rfl ?_
      refine a_aload_n (pc := 128) dX9_layJourney_128 (by decide) rfl ?_
      refine a_getR (y := 289) (pc := 129) dX9_layJourney_129 fl_RX9_56 (by decide) s0_275 rfl rfl ?_
      refine a_aload_n (pc := 132) dX9_layJourney_132 (by decide) rfl ?_
      refine a_getI (y := 14) (pc := 133) dX9_layJourney_133 fl_RX9_155 (by decide) s0_275 (Or.inl rfl) rfl ?_
      refine a_iconst (pc := 136) dX9_layJourney_136 (by decide) ?_
      have ho9 := h.1
      replace h := h.2
      refine a_isub (pc := 137) dX9_layJourney_137 ho9 ?_
      have ho10 := h.1
      replace h := h.2
      refine a_iald (pc := 138) dX9_layJourney_138 (by decide) s0_289 ho10.1 ho10.2 ?_
      refine a_istore (ls1 := [(2, 275), (0, l1), (9, 0), (9, 0), (9, 0), (0, r5), (0, l6), (0, M8 289 ((M8 275 14) - 1)), (0, r5)]) (pc := 139) dX9_layJourney_139 (by decide) (hp1 (t := 0) rfl (by decide)) rfl ?_
      refine a_goto (tgt := 41) (pc := 141) dX9_layJourney_141 (by decide) ?_
      exact a_msk [true, true, true, true, true, true, true, true, false] rfl h
    · replace h := h.2 hc4
      refine a_aload_n (pc := 60) dX9_layJourney_60 (by decide) rfl ?_
      refine a_iload (pc := 61) dX9_layJourney_61 rfl ?_
      refine a_iload (pc := 63) dX9_layJourney_63 rfl ?_
      refine p_callV (As := [(0, l5), (0, l7)]) (st := []) (st1 := fun r => [])  (pc := 65) dX9_layJourney_65 ml_RX9_162 (by decide) s0_275 rfl (by decide) (Nat.le_of_ble_eq_true rfl) rfl (fun _ => rfl) h (fun r11 M12 h => ?_)
      refine a_aload_n (pc := 68) dX9_layJourney_68 (by decide) rfl ?_
      refine a_getR (y := 287) (pc := 69) dX9_layJourney_69 fl_RX9_50 (by decide) s0_275 rfl rfl ?_
      refine a_aload_n (pc := 72) dX9_layJourney_72 (by decide) rfl ?_
      refine a_getI (y := 14) (pc := 73) dX9_layJourney_73 fl_RX9_155 (by decide) s0_275 (Or.inl rfl) rfl ?_
      refine a_iconst (pc := 76) dX9_layJourney_76 (by decide) ?_
      have ho13 := h.1
      replace h := h.2
      refine a_isub (pc := 77) dX9_layJourney_77 ho13 ?_
      have ho14 := h.1
      replace h := h.2
      refine a_iald (pc := 78) dX9_layJourney_78 (by decide) s0_287 ho14.1 ho14.2 ?_
      refine a_istore (ls1 := [(2, 275), (0, l1), (9, 0), (9, 0), (9, 0), (0, M12 287 ((M12 275 14) - 1)), (0, l6), (0, l7), (9, 0)]) (pc := 79) dX9_layJourney_79 (by decide) (hp1 (t := 9) rfl (by decide)) rfl ?_
      have ho15 := h.1
      replace h := h.2
      refine a_iinc (ls1 := [(2, 275), (0, l1), (9, 0), (9, 0), (9, 0), (0, M12 287 ((M12 275 14) - 1)), (0, l6 + (-1)), (0, l7), (9, 0)]) (pc := 81) dX9_layJourney_81 rfl (by decide) (hp1 (t := 0) rfl (by decide)) ho15 rfl ?_
      refine a_aload_n (pc := 84) dX9_layJourney_84 (by decide) rfl ?_
      refine a_getR (y := 284) (pc := 85) dX9_layJourney_85 fl_RX9_41 (by decide) s0_275 rfl rfl ?_
      refine a_bipush (pc := 88) dX9_layJourney_88 (by decide) (by decide +kernel) ?_
      refine a_iload (pc := 90) dX9_layJourney_90 rfl ?_
      have ho16 := h.1
      replace h := h.2
      refine a_imul (pc := 92) dX9_layJourney_92 ho16 ?_
      refine a_iload (pc := 93) dX9_layJourney_93 rfl ?_
      have ho17 := h.1
      replace h := h.2
      refine a_iadd (pc := 95) dX9_layJourney_95 ho17 ?_
      have ho18 := h.1
      replace h := h.2
      refine a_iald (pc := 96) dX9_layJourney_96 (by decide) s0_284 ho18.1 ho18.2 ?_
      refine a_istore (ls1 := [(2, 275), (0, l1), (9, 0), (9, 0), (9, 0), (0, M12 287 ((M12 275 14) - 1)), (0, l6 + (-1)), (0, M12 284 ((12 * (l6 + (-1))) + (M12 287 ((M12 275 14) - 1)))), (9, 0)]) (pc := 97) dX9_layJourney_97 (by decide) (hp1 (t := 0) rfl (by decide)) rfl ?_
      refine a_goto (tgt := 41) (pc := 99) dX9_layJourney_99 (by decide) ?_
      exact h
theorem E_R_layJourney {l1 l2 l3 l4 : Int} {M : Mem} {Q : Int → Mem → Prop} (h : AW mX9_layJourney 0 [(2, 275), (0, l1), (0, l2), (0, l3), (0, l4), (9, 0), (9, 0), (9, 0), (9, 0)] M Q) : Calls mX9_layJourney [(2, 275), (0, l1), (0, l2), (0, l3), (0, l4)] S0 M Q := calls_of (by decide) (by decide) (Nat.le_of_ble_eq_true rfl) rfl h
set_option maxRecDepth 100000 in
set_option maxHeartbeats 4000000 in
theorem B_R_table_0 {M : Mem} {Q : Int → Mem → Prop} (h : Calls mX9_carryAll [(2, 275), (2, 293), (0, 1)] S0 (up2 M 275 8 0) (fun r1 M2 => AW mX9_table 28 [(2, 275), (0, 0), (0, 1)] (up2 (up2 M2 275 27 0) 275 28 0) Q)) : AW mX9_table 0 [(2, 275), (9, 0), (9, 0)] M Q := by
  refine a_aload_n (pc := 0) dX9_table_0 (by decide) rfl ?_
  refine a_iconst (pc := 1) dX9_table_1 (by decide) ?_
  refine a_putI (y := 8) (pc := 2) dX9_table_2 fl_RX9_87 (by decide) s0_275 rfl rfl (tyX9_ok 8 (by decide)) rfl ?_
  refine a_aload_n (pc := 5) dX9_table_5 (by decide) rfl ?_
  refine a_aload_n (pc := 6) dX9_table_6 (by decide) rfl ?_
  refine a_getR (y := 293) (pc := 7) dX9_table_7 fl_RX9_68 (by decide) s0_275 rfl rfl ?_
  refine a_iconst (pc := 10) dX9_table_10 (by decide) ?_
  refine p_callV (As := [(2, 293), (0, 1)]) (st := []) (st1 := fun r => [])  (pc := 11) dX9_table_11 ml_RX9_230 (by decide) s0_275 rfl (by decide) (Nat.le_of_ble_eq_true rfl) rfl (fun _ => rfl) h (fun r1 M2 h => ?_)
  refine a_aload_n (pc := 14) dX9_table_14 (by decide) rfl ?_
  refine a_iconst (pc := 15) dX9_table_15 (by decide) ?_
  refine a_putI (y := 27) (pc := 16) dX9_table_16 fl_RX9_176 (by decide) s0_275 rfl rfl (tyX9_ok 27 (by decide)) rfl ?_
  refine a_aload_n (pc := 19) dX9_table_19 (by decide) rfl ?_
  refine a_iconst (pc := 20) dX9_table_20 (by decide) ?_
  refine a_putZ (y := 28) (pc := 21) dX9_table_21 fl_RX9_179 (by decide) s0_275 rfl rfl (tyX9_ok 28 (by decide)) rfl (by decide) ?_
  refine a_iconst (pc := 24) dX9_table_24 (by decide) ?_
  refine a_istore_n (ls1 := [(2, 275), (0, 0), (9, 0)]) (pc := 25) dX9_table_25 (by decide) (hp1 (t := 2) rfl (by decide)) rfl ?_
  refine a_iconst (pc := 26) dX9_table_26 (by decide) ?_
  refine a_istore_n (ls1 := [(2, 275), (0, 0), (0, 1)]) (pc := 27) dX9_table_27 (by decide) (hp1 (t := 0) rfl (by decide)) rfl ?_
  exact h
set_option maxRecDepth 100000 in
set_option maxHeartbeats 4000000 in
theorem B_R_table_28 {l1 l2 : Int} {M : Mem} {Q : Int → Mem → Prop} (h : ((l2 = 0 → ((¬ (M 275 28) = 0 → Calls mX9_carryAll [(2, 275), (2, 293), (0, 0)] S0 (up2 (up2 M 275 28 1) 275 26 0) (fun r3 M4 => (-2147483648 ≤ (-100) - (M4 275 27) ∧ (-100) - (M4 275 27) ≤ 2147483647) ∧ Q ((-100) - (M4 275 27)) M4)) ∧ ((M 275 28) = 0 → (((M 275 26) ≤ (M 275 27) → Q l1 (up2 (up2 M 275 28 0) 275 26 0)) ∧ (¬ ((M 275 26) ≤ (M 275 27)) → Calls mX9_carryAll [(2, 275), (2, 293), (0, 0)] S0 (up2 (up2 M 275 28 1) 275 26 0) (fun r7 M8 => (-2147483648 ≤ (-100) - (M8 275 27) ∧ (-100) - (M8 275 27) ≤ 2147483647) ∧ Q ((-100) - (M8 275 27)) M8)))))) ∧ (¬ l2 = 0 → Calls mX9_readPart [(2, 275)] S0 M (fun r10 M11 => (-2147483648 ≤ l1 + 1 ∧ l1 + 1 ≤ 2147483647) ∧ ((¬ (M11 275 28) = 0 → (-2147483648 ≤ (M11 275 27) + 0 ∧ (M11 275 27) + 0 ≤ 2147483647) ∧ AW mX9_table 28 [(2, 275), (0, l1 + 1), (0, 0)] (up2 M11 275 27 ((M11 275 27) + 0)) Q) ∧ ((M11 275 28) = 0 → (((M11 275 26) ≤ (M11 275 27) → (-2147483648 ≤ (M11 275 27) + 0 ∧ (M11 275 27) + 0 ≤ 2147483647) ∧ AW mX9_table 28 [(2, 275), (0, l1 + 1), (0, 0)] (up2 M11 275 27 ((M11 275 27) + 0)) Q) ∧ (¬ ((M11 275 26) ≤ (M11 275 27)) → ((0 : Int) ≤ M11 275 27 ∧ M11 275 27 < 80) ∧ ((¬ (M11 292 (M11 275 27)) = 59 → (-2147483648 ≤ (M11 275 27) + 0 ∧ (M11 275 27) + 0 ≤ 2147483647) ∧ AW mX9_table 28 [(2, 275), (0, l1 + 1), (0, 0)] (up2 M11 275 27 ((M11 275 27) + 0)) Q) ∧ ((M11 292 (M11 275 27)) = 59 → (-2147483648 ≤ (M11 275 27) + 1 ∧ (M11 275 27) + 1 ≤ 2147483647) ∧ AW mX9_table 28 [(2, 275), (0, l1 + 1), (0, 1)] (up2 M11 275 27 ((M11 275 27) + 1)) Q)))))))))) : AW mX9_table 28 [(2, 275), (0, l1), (0, l2)] M Q := by
  refine a_iload_n (pc := 28) dX9_table_28 rfl ?_
  refine a_if_eq (tgt := 49) (pc := 29) dX9_table_29 (by decide) (fun hc1 => ?_) (fun hc1 => ?_)
  · replace h := h.1 hc1
    refine a_aload_n (pc := 49) dX9_table_49 (by decide) rfl ?_
    refine a_aload_n (pc := 50) dX9_table_50 (by decide) rfl ?_
    refine a_getI (y := 28) (pc := 51) dX9_table_51 fl_RX9_179 (by decide) s0_275 (Or.inr rfl) rfl ?_
    refine a_if_ne (tgt := 68) (pc := 54) dX9_table_54 (by decide) (fun hc2 => ?_) (fun hc2 => ?_)
    · replace h := h.1 hc2
      refine a_iconst (pc := 68) dX9_table_68 (by decide) ?_
      refine a_goto (tgt := 73) (pc := 69) dX9_table_69 (by decide) ?_
      refine a_putZ (y := 28) (pc := 73) dX9_table_73 fl_RX9_179 (by decide) s0_275 rfl rfl (tyX9_ok 28 (by decide)) rfl (by decide) ?_
      refine a_aload_n (pc := 76) dX9_table_76 (by decide) rfl ?_
      refine a_iconst (pc := 77) dX9_table_77 (by decide) ?_
      refine a_putI (y := 26) (pc := 78) dX9_table_78 fl_RX9_173 (by decide) s0_275 rfl rfl (tyX9_ok 26 (by decide)) rfl ?_
      refine a_aload_n (pc := 81) dX9_table_81 (by decide) rfl ?_
      refine a_getI (y := 28) (pc := 82) dX9_table_82 fl_RX9_179 (by decide) s0_275 (Or.inr rfl) rfl ?_
      refine a_eq (y := 1) rfl ?_
      refine a_if_eq (tgt := 105) (pc := 85) dX9_table_85 (by decide) (fun hc => absurd hc (by decide)) (fun _ => ?_)
      refine a_aload_n (pc := 88) dX9_table_88 (by decide) rfl ?_
      refine a_aload_n (pc := 89) dX9_table_89 (by decide) rfl ?_
      refine a_getR (y := 293) (pc := 90) dX9_table_90 fl_RX9_68 (by decide) s0_275 rfl rfl ?_
      refine a_iconst (pc := 93) dX9_table_93 (by decide) ?_
      refine p_callV (As := [(2, 293), (0, 0)]) (st := []) (st1 := fun r => [])  (pc := 94) dX9_table_94 ml_RX9_230 (by decide) s0_275 rfl (by decide) (Nat.le_of_ble_eq_true rfl) rfl (fun _ => rfl) h (fun r3 M4 h => ?_)
      refine a_bipush (pc := 97) dX9_table_97 (by decide) (by decide +kernel) ?_
      refine a_aload_n (pc := 99) dX9_table_99 (by decide) rfl ?_
      refine a_getI (y := 27) (pc := 100) dX9_table_100 fl_RX9_176 (by decide) s0_275 (Or.inl rfl) rfl ?_
      have ho5 := h.1
      replace h := h.2
      refine a_isub (pc := 103) dX9_table_103 ho5 ?_
      exact a_ireti (pc := 104) dX9_table_104 rfl rfl (Nat.le_of_ble_eq_true rfl) ⟨rfl, h⟩
    · replace h := h.2 hc2
      refine a_aload_n (pc := 57) dX9_table_57 (by decide) rfl ?_
      refine a_getI (y := 27) (pc := 58) dX9_table_58 fl_RX9_176 (by decide) s0_275 (Or.inl rfl) rfl ?_
      refine a_aload_n (pc := 61) dX9_table_61 (by decide) rfl ?_
      refine a_getI (y := 26) (pc := 62) dX9_table_62 fl_RX9_173 (by decide) s0_275 (Or.inl rfl) rfl ?_
      refine a_icmp_ge (tgt := 72) (pc := 65) dX9_table_65 (by decide) (fun hc6 => ?_) (fun hc6 => ?_)
      · replace h := h.1 hc6
        refine a_iconst (pc := 72) dX9_table_72 (by decide) ?_
        refine a_putZ (y := 28) (pc := 73) dX9_table_73 fl_RX9_179 (by decide) s0_275 rfl rfl (tyX9_ok 28 (by decide)) rfl (by decide) ?_
        refine a_aload_n (pc := 76) dX9_table_76 (by decide) rfl ?_
        refine a_iconst (pc := 77) dX9_table_77 (by decide) ?_
        refine a_putI (y := 26) (pc := 78) dX9_table_78 fl_RX9_173 (by decide) s0_275 rfl rfl (tyX9_ok 26 (by decide)) rfl ?_
        refine a_aload_n (pc := 81) dX9_table_81 (by decide) rfl ?_
        refine a_getI (y := 28) (pc := 82) dX9_table_82 fl_RX9_179 (by decide) s0_275 (Or.inr rfl) rfl ?_
        refine a_eq (y := 0) rfl ?_
        refine a_if_eq (tgt := 105) (pc := 85) dX9_table_85 (by decide) (fun _ => ?_) (fun hc => absurd (by decide) hc)
        refine a_iload_n (pc := 105) dX9_table_105 rfl ?_
        exact a_ireti (pc := 106) dX9_table_106 rfl rfl (Nat.le_of_ble_eq_true rfl) ⟨rfl, h⟩
      · replace h := h.2 hc6
        refine a_iconst (pc := 68) dX9_table_68 (by decide) ?_
        refine a_goto (tgt := 73) (pc := 69) dX9_table_69 (by decide) ?_
        refine a_putZ (y := 28) (pc := 73) dX9_table_73 fl_RX9_179 (by decide) s0_275 rfl rfl (tyX9_ok 28 (by decide)) rfl (by decide) ?_
        refine a_aload_n (pc := 76) dX9_table_76 (by decide) rfl ?_
        refine a_iconst (pc := 77) dX9_table_77 (by decide) ?_
        refine a_putI (y := 26) (pc := 78) dX9_table_78 fl_RX9_173 (by decide) s0_275 rfl rfl (tyX9_ok 26 (by decide)) rfl ?_
        refine a_aload_n (pc := 81) dX9_table_81 (by decide) rfl ?_
        refine a_getI (y := 28) (pc := 82) dX9_table_82 fl_RX9_179 (by decide) s0_275 (Or.inr rfl) rfl ?_
        refine a_eq (y := 1) rfl ?_
        refine a_if_eq (tgt := 105) (pc := 85) dX9_table_85 (by decide) (fun hc => absurd hc (by decide)) (fun _ => ?_)
        refine a_aload_n (pc := 88) dX9_table_88 (by decide) rfl ?_
        refine a_aload_n (pc := 89) dX9_table_89 (by decide) rfl ?_
        refine a_getR (y := 293) (pc := 90) dX9_table_90 fl_RX9_68 (by decide) s0_275 rfl rfl ?_
        refine a_iconst (pc := 93) dX9_table_93 (by decide) ?_
        refine p_callV (As := [(2, 293), (0, 0)]) (st := []) (st1 := fun r => [])  (pc := 94) dX9_table_94 ml_RX9_230 (by decide) s0_275 rfl (by decide) (Nat.le_of_ble_eq_true rfl) rfl (fun _ => rfl) h (fun r7 M8 h => ?_)
        refine a_bipush (pc := 97) dX9_table_97 (by decide) (by decide +kernel) ?_
        refine a_aload_n (pc := 99) dX9_table_99 (by decide) rfl ?_
        refine a_getI (y := 27) (pc := 100) dX9_table_100 fl_RX9_176 (by decide) s0_275 (Or.inl rfl) rfl ?_
        have ho9 := h.1
        replace h := h.2
        refine a_isub (pc := 103) dX9_table_103 ho9 ?_
        exact a_ireti (pc := 104) dX9_table_104 rfl rfl (Nat.le_of_ble_eq_true rfl) ⟨rfl, h⟩
  · replace h := h.2 hc1
    refine a_aload_n (pc := 32) dX9_table_32 (by decide) rfl ?_
    refine p_callV (As := []) (st := []) (st1 := fun r => [])  (pc := 33) dX9_table_33 ml_RX9_234 (by decide) s0_275 rfl (by decide) (Nat.le_of_ble_eq_true rfl) rfl (fun _ => rfl) h (fun r10 M11 h => ?_)
    have ho12 := h.1
    replace h := h.2
    refine a_iinc (ls1 := [(2, 275), (0, l1 + 1), (0, l2)]) (pc := 36) dX9_table_36 rfl (by decide) (hp1 (t := 2) rfl (by decide)) ho12 rfl ?_
    refine a_aload_n (pc := 39) dX9_table_39 (by decide) rfl ?_
    refine a_bipush (pc := 40) dX9_table_40 (by decide) (by decide +kernel) ?_
    refine p_inlV (Ex := _) (As := [(0, 59)]) (st := []) (st1 := fun r => [(0, r)])  (pc := 42) dX9_table_42 ml_RX9_187 (by decide) s0_275 rfl (by decide) (Nat.le_of_ble_eq_true rfl) rfl (fun _ => rfl) (by decide) (by decide) (Nat.le_of_ble_eq_true rfl) rfl ?_
    refine a_aload_n (pc := 0) dX9_goesOn_0 (by decide) rfl ?_
    refine a_getI (y := 28) (pc := 1) dX9_goesOn_1 fl_RX9_179 (by decide) s0_275 (Or.inr rfl) rfl ?_
    refine a_if_ne (tgt := 19) (pc := 4) dX9_goesOn_4 (by decide) (fun hc13 => ?_) (fun hc13 => ?_)
    · replace h := h.1 hc13
      refine a_iconst (pc := 19) dX9_goesOn_19 (by decide) ?_
      refine a_istore_n (ls1 := [(2, 275), (0, 59), (0, 0)]) (pc := 20) dX9_goesOn_20 (by decide) (hp1 (t := 0) rfl (by decide)) rfl ?_
      refine a_aload_n (pc := 21) dX9_goesOn_21 (by decide) rfl ?_
      refine a_dup (pc := 22) dX9_goesOn_22 n21 ?_
      refine a_getI (y := 27) (pc := 23) dX9_goesOn_23 fl_RX9_176 (by decide) s0_275 (Or.inl rfl) rfl ?_
      refine a_iload_n (pc := 26) dX9_goesOn_26 rfl ?_
      refine a_if_eq (tgt := 34) (pc := 27) dX9_goesOn_27 (by decide) (fun _ => ?_) (fun hc => absurd (by decide) hc)
      refine a_iconst (pc := 34) dX9_goesOn_34 (by decide) ?_
      have ho14 := h.1
      replace h := h.2
      refine a_iadd (pc := 35) dX9_goesOn_35 ho14 ?_
      refine a_putI (y := 27) (pc := 36) dX9_goesOn_36 fl_RX9_176 (by decide) s0_275 rfl rfl (tyX9_ok 27 (by decide)) rfl ?_
      refine a_iload_n (pc := 39) dX9_goesOn_39 rfl ?_
      refine a_iretz (pc := 40) dX9_goesOn_40 rfl rfl (Nat.le_of_ble_eq_true rfl) (by decide) ⟨rfl, ?_⟩
      refine a_istore_n (ls1 := [(2, 275), (0, l1 + 1), (0, 0)]) (pc := 45) dX9_table_45 (by decide) (hp1 (t := 0) rfl (by decide)) rfl ?_
      refine a_goto (tgt := 28) (pc := 46) dX9_table_46 (by decide) ?_
      exact h
    · replace h := h.2 hc13
      refine a_aload_n (pc := 7) dX9_goesOn_7 (by decide) rfl ?_
      refine p_inlV (Ex := _) (As := []) (st := []) (st1 := fun r => [(0, r)])  (pc := 8) dX9_goesOn_8 ml_RX9_183 (by decide) s0_275 rfl (by decide) (Nat.le_of_ble_eq_true rfl) rfl (fun _ => rfl) (by decide) (by decide) (Nat.le_of_ble_eq_true rfl) rfl ?_
      refine a_aload_n (pc := 0) dX9_here_0 (by decide) rfl ?_
      refine a_getI (y := 27) (pc := 1) dX9_here_1 fl_RX9_176 (by decide) s0_275 (Or.inl rfl) rfl ?_
      refine a_aload_n (pc := 4) dX9_here_4 (by decide) rfl ?_
      refine a_getI (y := 26) (pc := 5) dX9_here_5 fl_RX9_173 (by decide) s0_275 (Or.inl rfl) rfl ?_
      refine a_icmp_ge (tgt := 23) (pc := 8) dX9_here_8 (by decide) (fun hc15 => ?_) (fun hc15 => ?_)
      · replace h := h.1 hc15
        refine a_iconst (pc := 23) dX9_here_23 (by decide) ?_
        refine a_ireti (pc := 24) dX9_here_24 rfl rfl (Nat.le_of_ble_eq_true rfl) ⟨rfl, ?_⟩
        refine a_iload_n (pc := 11) dX9_goesOn_11 rfl ?_
        refine a_icmp_ne (tgt := 19) (pc := 12) dX9_goesOn_12 (by decide) (fun _ => ?_) (fun hc => absurd hc (by decide))
        refine a_iconst (pc := 19) dX9_goesOn_19 (by decide) ?_
        refine a_istore_n (ls1 := [(2, 275), (0, 59), (0, 0)]) (pc := 20) dX9_goesOn_20 (by decide) (hp1 (t := 0) rfl (by decide)) rfl ?_
        refine a_aload_n (pc := 21) dX9_goesOn_21 (by decide) rfl ?_
        refine a_dup (pc := 22) dX9_goesOn_22 n21 ?_
        refine a_getI (y := 27) (pc := 23) dX9_goesOn_23 fl_RX9_176 (by decide) s0_275 (Or.inl rfl) rfl ?_
        refine a_iload_n (pc := 26) dX9_goesOn_26 rfl ?_
        refine a_if_eq (tgt := 34) (pc := 27) dX9_goesOn_27 (by decide) (fun _ => ?_) (fun hc => absurd (by decide) hc)
        refine a_iconst (pc := 34) dX9_goesOn_34 (by decide) ?_
        have ho16 := h.1
        replace h := h.2
        refine a_iadd (pc := 35) dX9_goesOn_35 ho16 ?_
        refine a_putI (y := 27) (pc := 36) dX9_goesOn_36 fl_RX9_176 (by decide) s0_275 rfl rfl (tyX9_ok 27 (by decide)) rfl ?_
        refine a_iload_n (pc := 39) dX9_goesOn_39 rfl ?_
        refine a_iretz (pc := 40) dX9_goesOn_40 rfl rfl (Nat.le_of_ble_eq_true rfl) (by decide) ⟨rfl, ?_⟩
        refine a_istore_n (ls1 := [(2, 275), (0, l1 + 1), (0, 0)]) (pc := 45) dX9_table_45 (by decide) (hp1 (t := 0) rfl (by decide)) rfl ?_
        refine a_goto (tgt := 28) (pc := 46) dX9_table_46 (by decide) ?_
        exact h
      · replace h := h.2 hc15
        refine a_aload_n (pc := 11) dX9_here_11 (by decide) rfl ?_
        refine a_getR (y := 292) (pc := 12) dX9_here_12 fl_RX9_65 (by decide) s0_275 rfl rfl ?_
        refine a_aload_n (pc := 15) dX9_here_15 (by decide) rfl ?_
        refine a_getI (y := 27) (pc := 16) dX9_here_16 fl_RX9_176 (by decide) s0_275 (Or.inl rfl) rfl ?_
        have ho17 := h.1
        replace h := h.2
        refine a_iald (pc := 19) dX9_here_19 (by decide) s0_292 ho17.1 ho17.2 ?_
        refine a_goto (tgt := 24) (pc := 20) dX9_here_20 (by decide) ?_
        refine a_ireti (pc := 24) dX9_here_24 rfl rfl (Nat.le_of_ble_eq_true rfl) ⟨rfl, ?_⟩
        refine a_iload_n (pc := 11) dX9_goesOn_11 rfl ?_
        refine a_icmp_ne (tgt := 19) (pc := 12) dX9_goesOn_12 (by decide) (fun hc18 => ?_) (fun hc18 => ?_)
        · replace h := h.1 hc18
          refine a_iconst (pc := 19) dX9_goesOn_19 (by decide) ?_
          refine a_istore_n (ls1 := [(2, 275), (0, 59), (0, 0)]) (pc := 20) dX9_goesOn_20 (by decide) (hp1 (t := 0) rfl (by decide)) rfl ?_
          refine a_aload_n (pc := 21) dX9_goesOn_21 (by decide) rfl ?_
          refine a_dup (pc := 22) dX9_goesOn_22 n21 ?_
          refine a_getI (y := 27) (pc := 23) dX9_goesOn_23 fl_RX9_176 (by decide) s0_275 (Or.inl rfl) rfl ?_
          refine a_iload_n (pc := 26) dX9_goesOn_26 rfl ?_
          refine a_if_eq (tgt := 34) (pc := 27) dX9_goesOn_27 (by decide) (fun _ => ?_) (fun hc => absurd (by decide) hc)
          refine a_iconst (pc := 34) dX9_goesOn_34 (by decide) ?_
          have ho19 := h.1
          replace h := h.2
          refine a_iadd (pc := 35) dX9_goesOn_35 ho19 ?_
          refine a_putI (y := 27) (pc := 36) dX9_goesOn_36 fl_RX9_176 (by decide) s0_275 rfl rfl (tyX9_ok 27 (by decide)) rfl ?_
          refine a_iload_n (pc := 39) dX9_goesOn_39 rfl ?_
          refine a_iretz (pc := 40) dX9_goesOn_40 rfl rfl (Nat.le_of_ble_eq_true rfl) (by decide) ⟨rfl, ?_⟩
          refine a_istore_n (ls1 := [(2, 275), (0, l1 + 1), (0, 0)]) (pc := 45) dX9_table_45 (by decide) (hp1 (t := 0) rfl (by decide)) rfl ?_
          refine a_goto (tgt := 28) (pc := 46) dX9_table_46 (by decide) ?_
          exact h
        · replace h := h.2 hc18
          refine a_iconst (pc := 15) dX9_goesOn_15 (by decide) ?_
          refine a_goto (tgt := 20) (pc := 16) dX9_goesOn_16 (by decide) ?_
          refine a_istore_n (ls1 := [(2, 275), (0, 59), (0, 1)]) (pc := 20) dX9_goesOn_20 (by decide) (hp1 (t := 0) rfl (by decide)) rfl ?_
          refine a_aload_n (pc := 21) dX9_goesOn_21 (by decide) rfl ?_
          refine a_dup (pc := 22) dX9_goesOn_22 n21 ?_
          refine a_getI (y := 27) (pc := 23) dX9_goesOn_23 fl_RX9_176 (by decide) s0_275 (Or.inl rfl) rfl ?_
          refine a_iload_n (pc := 26) dX9_goesOn_26 rfl ?_
          refine a_if_eq (tgt := 34) (pc := 27) dX9_goesOn_27 (by decide) (fun hc => absurd hc (by decide)) (fun _ => ?_)
          refine a_iconst (pc := 30) dX9_goesOn_30 (by decide) ?_
          refine a_goto (tgt := 35) (pc := 31) dX9_goesOn_31 (by decide) ?_
          have ho20 := h.1
          replace h := h.2
          refine a_iadd (pc := 35) dX9_goesOn_35 ho20 ?_
          refine a_putI (y := 27) (pc := 36) dX9_goesOn_36 fl_RX9_176 (by decide) s0_275 rfl rfl (tyX9_ok 27 (by decide)) rfl ?_
          refine a_iload_n (pc := 39) dX9_goesOn_39 rfl ?_
          refine a_iretz (pc := 40) dX9_goesOn_40 rfl rfl (Nat.le_of_ble_eq_true rfl) (by decide) ⟨rfl, ?_⟩
          refine a_istore_n (ls1 := [(2, 275), (0, l1 + 1), (0, 1)]) (pc := 45) dX9_table_45 (by decide) (hp1 (t := 0) rfl (by decide)) rfl ?_
          refine a_goto (tgt := 28) (pc := 46) dX9_table_46 (by decide) ?_
          exact h
theorem E_R_table {M : Mem} {Q : Int → Mem → Prop} (h : AW mX9_table 0 [(2, 275), (9, 0), (9, 0)] M Q) : Calls mX9_table [(2, 275)] S0 M Q := calls_of (by decide) (by decide) (Nat.le_of_ble_eq_true rfl) rfl h
